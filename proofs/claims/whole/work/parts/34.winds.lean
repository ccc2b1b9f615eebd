/-! ===== reading a chart: winds ===== -/
section wds
variable {Q R : zMem → Prop} {T : zB} {len dr : Nat} {p p0 fl it : Nat} {tr trm : Int64}
theorem kX_not (hT : ∀ i, i < len → T i ≤ 255) (hp : p ≤ len) (hK : ¬ tkK T len p = 2) : ¬ kX (tkK T len p) (T (tkS T len p)) = 256 := by
  by_cases h0 : tkK T len p = 0
  · rw [h0]; exact (show ¬ (257 : Int32) = 256 by decide)
  · exact fun z => hK ((kX_num tk_le (tk_T hT hp h0)).mp z)
theorem kX_not3 (hT : ∀ i, i < len → T i ≤ 255) (hp : p ≤ len) (hK : ¬ tkK T len p = 3) : ¬ kX (tkK T len p) (T (tkS T len p)) = 59 := by
  by_cases h0 : tkK T len p = 0
  · rw [h0]; exact (show ¬ (257 : Int32) = 59 by decide)
  · exact fun z => hK ((kX_semi tk_le (tk_T hT hp h0) (fun h => by have := tk_1 h; omega)).mp z)
theorem fw_wind_one {D : zA} {W : zB} {G : zMem} (hQ : keepQ Q dr) (hdr : 3 ≤ dr) {N q V : Nat} (hV : V ≤ 4) (ht : D 0 4 < 12) (x : PX Q T len dr D W q fl it G) (h4 : G 1 4 = 256) (h5 : G 1 5 = nI V) (k : Int32 → zMem → Int64 → zR) (j : Int32) : ∃ G', fX3_readWinds_b27 N dr k j G tr = k (j + 1) G' tr ∧ PX Q T len dr (upA D 4 (D 0 4 + 1)) (upN W (D 0 4) V) q fl it G' := by
  obtain ⟨c1, c2, c3, c4, c5, c6, c7, c8, c9⟩ := x.2.2.1
  have x2 := px_dr hQ hdr x (D' := upA D 4 (D 0 4 + 1)) (W' := upN W (D 0 4) V) (G' := up2 (up2 G (dr + 3) (D 0 4) (nI V)) dr 5 (nI (D 0 4 + 1))) (fun c h => by rw [up2_ne _ _ _ (by omega), up2_ne _ _ _ (by omega)]) (by
    refine ⟨?_, ?_, ?_, ?_, ?_, ?_, fun k hk => ?_, fun c hc => ?_, fun k hk => ?_⟩
    · rw [up2_oth (by omega), up2_ne _ _ _ (by omega)]; exact c1
    · rw [up2_oth (by omega), up2_ne _ _ _ (by omega)]; exact c2
    · rw [up2_oth (by omega), up2_ne _ _ _ (by omega)]; exact c3
    · rw [up2_oth (by omega), up2_ne _ _ _ (by omega)]; exact c4
    · rw [up2_oth (by omega), up2_ne _ _ _ (by omega)]; exact c5
    · rw [up2_get]; rfl
    · rw [up2_ne _ _ _ (by omega), up2_ne _ _ _ (by omega)]; exact c7 k hk
    · rw [up2_ne _ _ _ (by omega), up2_ne _ _ _ (by omega)]; exact c8 c hc
    · have hk' : k < D 0 4 + 1 := hk
      rw [up2_ne _ _ _ (by omega)]
      unfold upN
      by_cases hkn : k = D 0 4
      · rw [hkn, up2_get, if_pos rfl]
      · rw [up2_oth hkn, if_neg hkn]; exact c9 k (by omega))
  refine ⟨_, ?_, x2⟩
  rw [fX3_readWinds_b27, h4, if_pos rfl, h5, show (4 : Int32) = nI 4 from rfl, if_neg (nI_nlt (by omega) (by omega)), c6, show (12 : Int32) = nI 12 from rfl, if_pos (nI_lt (by omega) (by omega))]
  have fw : fX0_addWind N dr (nI V) G tr = some (0, up2 (up2 G (dr + 3) (D 0 4) (nI V)) dr 5 (nI (D 0 4 + 1)), tr) := by
    unfold fX0_addWind
    rw [c6, show (12 : Int32) = nI 12 from rfl, if_pos (nI_lt (by omega) (by omega)), zin_ok (by omega) (by omega), nI_clamp (by omega), up2_ne _ _ _ (by omega), c6, nI_1]
  rw [fw, zbd_ok]
theorem fm_wind_one {D : zA} {W : zB} {Gm : zMem} (hR : keepR R) (hl : len ≤ 200) (hT : ∀ i, i < len → T i ≤ 255) {N : Nat} (hN : 1000 < N) (hp : p ≤ len) (hK : tkK T len p = 2) (hV : tkV T len p ≤ 4) (ht : D 0 4 < 12) (y : PM R T len D W p fl Gm) : ∃ G', fX5_readsWind N Gm trm = some (0, G', trm) ∧ PM R T len (upA D 4 (D 0 4 + 1)) (upN W (D 0 4) (tkV T len p)) (tkQ T len p) fl G' := by
  have a4 := y.2.2.1.2.2.2.1
  have a6 := y.2.2.1.2.2.2.2.2.1
  have e10 : Gm 2 10 = nI (D 0 4) := y.2.1.1 4 (by omega)
  obtain ⟨M1, f1, y1⟩ := pm_take1 (tr := trm) hR hl hT hN hp y
  rw [a6 hK] at f1
  obtain ⟨d1, d2, d3, d4⟩ := y1.2.1
  have h10 : M1 2 10 = nI (D 0 4) := d1 4 (by omega)
  have y2 := pm_sc hR y1 (D' := upA D 4 (D 0 4 + 1)) (W' := upN W (D 0 4) (tkV T len p)) (Gm' := up2 (up2 M1 5 (D 0 4) (nI (tkV T len p))) 2 10 (nI (D 0 4 + 1))) (fun c h => by rw [up2_ne _ _ _ (by omega), up2_ne _ _ _ (by omega)]) (fun i hi => ⟨by rw [up2_oth (by omega), up2_ne _ _ _ (by omega)], by rw [up2_ne _ _ _ (by omega), up2_ne _ _ _ (by omega)], by rw [up2_ne _ _ _ (by omega), up2_ne _ _ _ (by omega)]⟩) (by
    refine ⟨fun k hk => ?_, fun k hk => ?_, fun k hk => ?_, fun k hk => ?_⟩
    · show _ = nI (upN (D 0) 4 (D 0 4 + 1) k)
      unfold upN
      by_cases hk2 : k = 4
      · subst hk2; rw [up2_get, if_pos rfl]
      · rw [up2_oth (by omega), if_neg hk2, up2_ne _ _ _ (by omega)]; exact d1 k hk
    · rw [up2_ne _ _ _ (by omega), up2_ne _ _ _ (by omega)]; exact d2 k hk
    · rw [up2_ne _ _ _ (by omega), up2_ne _ _ _ (by omega)]; exact d3 k hk
    · have hk' : k < D 0 4 + 1 := hk
      rw [up2_ne _ _ _ (by omega)]
      unfold upN
      by_cases hkn : k = D 0 4
      · rw [hkn, up2_get, if_pos rfl]
      · rw [up2_oth hkn, if_neg hkn]; exact d4 k (by omega))
  refine ⟨_, ?_, y2⟩
  unfold fX5_readsWind
  rw [a4, hK, if_pos (show nI 2 = 2 from rfl), a6 hK, fm_in, zbp_ok, zb_if, if_pos (show (0 : Int32) ≤ nI (tkV T len p) ∧ nI (tkV T len p) ≤ 4 from ⟨nI_pos' (by omega), (show nI (tkV T len p) ≤ nI 4 from nI_le (by omega) (by omega))⟩), zin_lit 10 12 (i := 10) rfl (by omega) (by omega), show Int32.toNatClampNeg 10 = 10 from rfl, e10, show (12 : Int32) = nI 12 from rfl, if_neg (nI_ge (by omega) (by omega)), fX5_readsWind_b38, f1, zbd_ok, pm_well y1, zbd_ok, if_neg (show ¬ (1 : Int32) = 0 by decide), zin_lit 10 12 (i := 10) rfl (by omega) (by omega), show Int32.toNatClampNeg 10 = 10 from rfl, h10, zin_ok (by omega) (by omega), zin_lit 10 12 (i := 10) rfl (by omega) (by omega), zin_lit 10 12 (i := 10) rfl (by omega) (by omega), nI_clamp (by omega), up2_ne _ _ _ (by omega), h10, nI_1]
theorem fm_wind_bad {D : zA} {W : zB} {Gm : zMem} (hR : keepR R) (hp : p ≤ len) (hl : len ≤ 200) {N : Nat} (ht : D 0 4 ≤ 12) (h : ¬ (tkK T len p = 2 ∧ tkV T len p ≤ 4 ∧ D 0 4 < 12)) (y : PM R T len D W p fl Gm) : ∃ G', fX5_readsWind N Gm trm = some (0, G', trm) ∧ FM R (tkS T len p) G' := by
  have ts := tk_spec (T := T) hp
  have hk := tk_le (T := T) (len := len) (p := p)
  have a4 := y.2.2.1.2.2.2.1
  have a6 := y.2.2.1.2.2.2.2.2.1
  have e10 : Gm 2 10 = nI (D 0 4) := y.2.1.1 4 (by omega)
  obtain ⟨M0, f0, y0, -⟩ := pm_take0' (trm := trm) hR (N := N) y
  have b : fX5_readsWind_b37 N Gm trm = some (0, M0, trm) := by
    rw [fX5_readsWind_b37, fX5_readsWind_b38, f0, zbd_ok, fm_ill (by omega) y0, zbd_ok, if_pos rfl]
  refine ⟨M0, ?_, y0⟩
  unfold fX5_readsWind
  rw [a4]
  by_cases hK : tkK T len p = 2
  · have hv := tk_v hK
    rw [hK, if_pos (show nI 2 = 2 from rfl), a6 hK, fm_in, zbp_ok, zb_if]
    by_cases hV : tkV T len p ≤ 4
    · rw [if_pos (show (0 : Int32) ≤ nI (tkV T len p) ∧ nI (tkV T len p) ≤ 4 from ⟨nI_pos' (by omega), (show nI (tkV T len p) ≤ nI 4 from nI_le (by omega) (by omega))⟩), zin_lit 10 12 (i := 10) rfl (by omega) (by omega), show Int32.toNatClampNeg 10 = 10 from rfl, e10, show (12 : Int32) = nI 12 from rfl, if_pos (nI_le (by omega) (by omega)), b]
    · rw [if_neg (show ¬ ((0 : Int32) ≤ nI (tkV T len p) ∧ nI (tkV T len p) ≤ 4) from fun z => (show ¬ nI (tkV T len p) ≤ nI 4 from nI_ge (by omega) (by omega)) z.2), b]
  · rw [if_neg (show ¬ nI (tkK T len p) = 2 from zneI (k := 2) hK (by omega) (by omega)), b]
theorem winds_loop (hQ : keepQ Q dr) (hR : keepR R) (hdr : 3 ≤ dr) (hl : len ≤ 200) (hT : ∀ i, i < len → T i ≤ 255) {N : Nat} (hN : 1000 < N) (hfl : fl ≤ 1) : ∀ (d j n n' p : Nat) (D : zA) (W : zB) (G Gm : zMem), j + d = 13 → d < n → d < n' → 1 ≤ j → j ≤ D 0 4 → p ≤ len → p0 ≤ p → okD D W → PX Q T len dr D W p fl it G → PM R T len D W p fl Gm →
    outI Q R T len dr it p0 (fX3_readWinds_L2 N dr n (nI j) G tr) (fun k i => zbd (fX5_readsItem_L172 N 98 n' Gm trm) (fun _ G12 t13 => fX5_sea_b126 N k i G12 t13)) tr trm := by
  intro d
  induction d with
  | zero =>
    intro j n n' p D W G Gm hj hn hn' h1 hjt hp hp0 hD x y
    have := hD.1.2.2.2.2.2.2.1
    omega
  | succ d ih =>
    intro j n n' p D W G Gm hj hn hn' h1 hjt hp hp0 hD x y
    have ht := hD.1.2.2.2.2.2.2.1
    have ts := tk_spec (T := T) hp
    have hkk := tk_le (T := T) (len := len) (p := p)
    have a4 := y.2.2.1.2.2.2.1
    obtain ⟨n, rfl⟩ : ∃ k, n = k + 1 := ⟨n - 1, by omega⟩
    obtain ⟨n', rfl⟩ : ∃ k, n' = k + 1 := ⟨n' - 1, by omega⟩
    obtain ⟨G1, q1, x1, s3, s4, s5⟩ := px_step (tr := tr) hQ hdr hl hT hN hp x
    rw [fX3_readWinds_L2, fX3_readWinds_b2, show (12 : Int32) = nI 12 from rfl, if_neg (nI_nlt (by omega) (by omega)), q1, zbd_ok, if_neg (show ¬ nI j ≤ 0 from (show ¬ nI j ≤ nI 0 from nI_ge (by omega) (by omega))), s4]
    have e172 : ∀ (k : Int32 → zMem → Int64 → zR) i, zbd (fX5_readsItem_L172 N 98 (n' + 1) Gm trm) (fun _ G12 t13 => fX5_sea_b126 N k i G12 t13) = if tkK T len p = 2 then zbd (zbd (fX5_readsWind N Gm trm) (fun _ G_9 tr_10 => fX5_readsItem_L172 N 98 n' G_9 tr_10)) (fun _ G12 t13 => fX5_sea_b126 N k i G12 t13) else fX5_sea_b126 N k i Gm trm := fun k i => by
      rw [fX5_readsItem_L172, fX5_readsItem_b172, pm_well y, zbd_ok, if_neg (show ¬ (1 : Int32) = 0 by decide), a4]
      by_cases h2 : tkK T len p = 2
      · rw [if_pos h2, h2, if_pos (show nI 2 = 2 from rfl)]
      · rw [if_neg h2, if_neg (show ¬ nI (tkK T len p) = 2 from zneI (k := 2) h2 (by omega) (by omega)), zbd_ok]
    have fe : (fun (k : Int32 → zMem → Int64 → zR) i => zbd (fX5_readsItem_L172 N 98 (n' + 1) Gm trm) (fun _ G12 t13 => fX5_sea_b126 N k i G12 t13)) = fun k i => if tkK T len p = 2 then zbd (zbd (fX5_readsWind N Gm trm) (fun _ G_9 tr_10 => fX5_readsItem_L172 N 98 n' G_9 tr_10)) (fun _ G12 t13 => fX5_sea_b126 N k i G12 t13) else fX5_sea_b126 N k i Gm trm := by
      funext k i; exact e172 k i
    rw [fe]
    by_cases h3 : tkK T len p = 3
    · obtain ⟨M1, f1, y1⟩ := pm_take1 (tr := trm) hR hl hT hN hp y
      rw [h3, if_pos (show kX 3 _ = 59 from rfl), zbo_1]
      refine Or.inl ⟨D, W, tkQ T len p, fl, G1, M1, hD, hfl, ts.2.2.1, ?_, rfl, x1, fun k i => ?_, y1⟩
      · have := ts.2.2.2.2 (by omega); omega
      · show (if (3 : Nat) = 2 then _ else fX5_sea_b126 N k i Gm trm) = _
        rw [if_neg (by omega), fX5_sea_b126, a4, h3, if_pos (show nI 3 = 3 from rfl), fX5_sea_b140, f1, zbd_ok]
    · rw [if_neg (kX_not3 hT hp h3)]
      by_cases h : tkK T len p = 2 ∧ tkV T len p ≤ 4 ∧ D 0 4 < 12
      · obtain ⟨G2, q2, x2⟩ := fw_wind_one (tr := tr) (N := N) hQ hdr h.2.1 h.2.2 x1 (by rw [s4, h.1]; rfl) (s5 h.1) (fX3_readWinds_L2 N dr n) (nI j)
        obtain ⟨M2, f2, y2⟩ := fm_wind_one (trm := trm) hR hl hT hN hp h.1 h.2.1 h.2.2 y
        rw [q2, nI_1, f2, zbd_ok]
        simp only [if_pos h.1]
        have hD' : okD (upA D 4 (D 0 4 + 1)) (upN W (D 0 4) (tkV T len p)) := by
          obtain ⟨⟨o1, o2, o3, o4, o5, o6, o7, o8⟩, ow⟩ := hD
          refine ⟨⟨o1, o2, o3, o4, o5, o6, show D 0 4 + 1 ≤ 12 by omega, o8⟩, fun k hk => ?_⟩
          have hk' : k < D 0 4 + 1 := hk
          unfold upN
          split
          · exact h.2.1
          · exact ow k (by omega)
        exact ih (j + 1) n n' (tkQ T len p) _ _ G2 M2 (by omega) (by omega) (by omega) (by omega) (show j + 1 ≤ D 0 4 + 1 by omega) ts.2.2.1 (by omega) hD' x2 y2
      · have q2 : fX3_readWinds_b27 N dr (fX3_readWinds_L2 N dr n) (nI j) G1 tr = some (0, G1, tr) := by
          rw [fX3_readWinds_b27, s4]
          by_cases hK : tkK T len p = 2
          · have hv := tk_v hK
            rw [hK, if_pos (show kX 2 _ = 256 from rfl), s5 hK]
            by_cases hV : tkV T len p ≤ 4
            · rw [show (4 : Int32) = nI 4 from rfl, if_neg (nI_nlt (by omega) (by omega)), x1.2.2.1.2.2.2.2.2.1, show (12 : Int32) = nI 12 from rfl, if_neg (nI_nlt (by omega) (by omega)), zbo_0]
            · rw [show (4 : Int32) = nI 4 from rfl, if_pos (nI_lt (by omega) (by omega)), zbo_0]
          · rw [if_neg (kX_not hT hp hK), zbo_0]
        rw [q2]
        by_cases hK : tkK T len p = 2
        · obtain ⟨M0, f0, y0⟩ := fm_wind_bad (trm := trm) (N := N) hR hp hl ht h y
          obtain ⟨n', rfl⟩ : ∃ k, n' = k + 1 := ⟨n' - 1, by omega⟩
          refine Or.inr ⟨tkS T len p, G1, M0, ts.2.1, rfl, x1.1, s3, fun k i => ?_, y0⟩
          show (if tkK T len p = 2 then zbd (zbd (fX5_readsWind N Gm trm) (fun _ G_9 tr_10 => fX5_readsItem_L172 N 98 (n' + 1) G_9 tr_10)) (fun _ G12 t13 => fX5_sea_b126 N k i G12 t13) else fX5_sea_b126 N k i Gm trm) = _
          rw [if_pos hK, f0, zbd_ok, fX5_readsItem_L172, fX5_readsItem_b172, fm_ill (by omega) y0, zbd_ok, if_pos rfl, zbd_ok]
          exact fm_tailF (by omega) y0 k i
        · obtain ⟨M0, f0, y0, -⟩ := pm_take0' (trm := trm) hR (N := N) y
          refine Or.inr ⟨tkS T len p, G1, M0, ts.2.1, rfl, x1.1, s3, fun k i => ?_, y0⟩
          show (if tkK T len p = 2 then _ else fX5_sea_b126 N k i Gm trm) = _
          rw [if_neg hK, fX5_sea_b126, a4, if_neg (show ¬ nI (tkK T len p) = 3 from zneI (k := 3) h3 (by omega) (by omega)), fX5_sea_b140, f0, zbd_ok]
end wds
