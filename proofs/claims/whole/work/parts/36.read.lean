/-! ===== reading a chart: all of it ===== -/
section rdg
variable {Q R : zMem → Prop} {T : zB} {len dr : Nat} {tr trm : Int64}
def outR (Q R : zMem → Prop) (T : zB) (len dr N : Nat) (fw fm : zR) (tr trm : Int64) : Prop :=
  (∃ D W q fl it G' Gm', okD D W ∧ it ≤ 200 ∧ fw = some (nI it, G', tr) ∧ (Q G' ∧ dX D W dr G') ∧ fm = zbd (fX5_settles N Gm' trm) (fun _ G8 t9 => some (nI it, G8, t9)) ∧ PM R T len D W q fl Gm') ∨
  (∃ s G' Gm', s ≤ len ∧ fw = some (-10 - nI s, G', tr) ∧ Q G' ∧ fm = some (-10 - nI s, Gm', trm) ∧ R Gm')
theorem px_count {D : zA} {W : zB} {p fl it : Nat} {G : zMem} (hQ : keepQ Q dr) (hdr : 3 ≤ dr) (x : PX Q T len dr D W p fl it G) : PX Q T len dr D W p fl (it + 1) (up2 G 1 6 (nI (it + 1))) := by
  obtain ⟨x1, x2, x3, x4, x5, x6⟩ := x
  exact ⟨hQ _ _ x1 (fun c h _ => up2_ne _ _ _ h) (up2_oth (by omega)), ⟨by rw [up2_oth (by omega)]; exact x2.1, fun i hi => by rw [up2_ne _ _ _ (by omega)]; exact x2.2 i hi⟩, dX_keep x3 (fun c h1 _ => up2_ne _ _ _ (by omega)), by rw [up2_oth (by omega)]; exact x4, by rw [up2_oth (by omega)]; exact x5, up2_get⟩
theorem read_loop (hQ : keepQ Q dr) (hR : keepR R) (hdr : 3 ≤ dr) (hl : len ≤ 200) (hT : ∀ i, i < len → T i ≤ 255) {N : Nat} (hN : 1000 < N) : ∀ (d it p fl n n' : Nat) (D : zA) (W : zB) (G Gm : zMem), len < p + d → d < n → d < n' → it ≤ p → p ≤ len → fl ≤ 1 → okD D W → (it = 0 → D 0 2 = 0 ∧ D 0 3 = 0) → PX Q T len dr D W p fl it G → PM R T len D W p fl Gm →
    outR Q R T len dr N (fX3_readInto_L21 N dr n (nI it) G tr) (fX5_sea_L74 N n' (nI it) Gm trm) tr trm := by
  intro d
  induction d with
  | zero => intro it p fl n n' D W G Gm h1 h2 h3 h4 h5; omega
  | succ d ih =>
    intro it p fl n n' D W G Gm hd hn hn' hitp hp hfl hD h0 x y
    have ts := tk_spec (T := T) hp
    have hkk := tk_le (T := T) (len := len) (p := p)
    have a5 := y.2.2.1.2.2.2.1
    obtain ⟨n, rfl⟩ : ∃ k, n = k + 1 := ⟨n - 1, by omega⟩
    obtain ⟨n', rfl⟩ : ∃ k, n' = k + 1 := ⟨n' - 1, by omega⟩
    obtain ⟨G1, q1, x1, s3, s4, s5⟩ := px_step (tr := tr) hQ hdr hl hT hN hp x
    rw [fX3_readInto_L21, fX3_readInto_b21, show (200 : Int32) = nI 200 from rfl, if_neg (nI_nlt (by omega) (by omega)), q1, zbd_ok, s4]
    rw [fX5_sea_L74, fX5_sea_b74, pm_well y, zbd_ok, if_neg (show ¬ (1 : Int32) = 0 by decide), a5]
    by_cases hK : tkK T len p = 0
    · rw [hK, if_pos (show kX 0 _ = 257 from rfl), if_pos (show nI 0 = 0 from rfl), x1.2.2.2.2.2, fX5_sea_b150, pm_well y, zbd_ok, if_neg (show ¬ (1 : Int32) = 0 by decide)]
      exact Or.inl ⟨D, W, p, fl, it, G1, Gm, hD, by omega, rfl, ⟨x1.1, x1.2.2.1⟩, rfl, y⟩
    · have hk : ¬ kX (tkK T len p) (T (tkS T len p)) = 257 := by
        have hT' := tk_T hT hp hK
        rcases (show tkK T len p = 1 ∨ tkK T len p = 2 ∨ tkK T len p = 3 ∨ tkK T len p = 4 by omega) with h | h | h | h <;> rw [h]
        · exact (show ¬ nI (T (tkS T len p)) = nI 257 from zneI (by omega) (by omega) (by omega))
        · exact (show ¬ (256 : Int32) = 257 by decide)
        · exact (show ¬ (59 : Int32) = 257 by decide)
        · exact (show ¬ (258 : Int32) = 257 by decide)
      have hi := item_both (tr := tr) (trm := trm) hQ hR hdr hl hT hN hfl (by omega) hp hK hD h0 x1 s4 s3 y
      have hb : (if nI (tkK T len p) = 1 then zbd (fX5_mayBegin N (nI it) Gm trm) (fun r_9 G_10 tr_11 => if r_9 = 0 then fX5_sea_b109 N (fX5_sea_L74 N n') (nI it) G_10 tr_11 else fX5_sea_b110 N (fX5_sea_L74 N n') (nI it) 1 G_10 tr_11) else fX5_sea_b109 N (fX5_sea_L74 N n') (nI it) Gm trm) = bodyM N (nI it) Gm trm (fX5_sea_L74 N n') (nI it) := by rw [bodyM, a5]
      rw [if_neg hk, if_neg (show ¬ nI (tkK T len p) = 0 from nI_ne0 (by omega) (by omega)), hb]
      rcases hi with ⟨D', W', q, fl', G2, M2, b1, b2, b3, b4, b5, b6, b7, b8⟩ | ⟨s, G2, M2, b1, b2, b3, b4, b5, b6⟩
      · rw [b5, zbd_ok, if_neg (show ¬ (1 : Int32) = 0 by decide), b7, b6.2.2.2.2.2, nI_1]
        exact ih (it + 1) q fl' n n' D' W' _ M2 (by omega) (by omega) (by omega) (by omega) b3 b2 b1 (fun z => by omega) (px_count hQ hdr b6) b8
      · rw [b2, zbd_ok, if_pos rfl, b4, b5]
        obtain ⟨n', rfl⟩ : ∃ k, n' = k + 1 := ⟨n' - 1, by omega⟩
        refine Or.inr ⟨s, G2, M2, b1, rfl, b3, ?_, b6.1⟩
        rw [fX5_sea_L74, fX5_sea_b74, fm_ill (by omega) b6, zbd_ok, if_pos rfl, fX5_sea_b150, fm_ill (by omega) b6, zbd_ok, if_pos rfl, b6.2]
end rdg
