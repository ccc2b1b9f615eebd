/-! ===== reading a chart: an item ===== -/
section ite
variable {Q R : zMem → Prop} {T : zB} {len dr : Nat} {p p0 fl it : Nat} {D : zA} {W : zB} {G Gm : zMem} {tr trm : Int64}
theorem winds_both (hQ : keepQ Q dr) (hR : keepR R) (hdr : 3 ≤ dr) (hl : len ≤ 200) (hT : ∀ i, i < len → T i ≤ 255) {N : Nat} (hN : 1000 < N) (hfl : fl ≤ 1) (hp : p ≤ len) (hp0 : p0 ≤ p) (hD : okD D W) (x : PX Q T len dr D W p fl it G) (y : PM R T len D W p fl Gm) : outI Q R T len dr it p0 (fX3_readWinds N dr G tr) (fun k i => zbd (fX5_readsItem N 98 Gm trm) (fun _ G12 t13 => fX5_sea_b126 N k i G12 t13)) tr trm := by
  have ht := hD.1.2.2.2.2.2.2.1
  have ts := tk_spec (T := T) hp
  obtain ⟨n, hn⟩ : ∃ k, N = k + 1 := ⟨N - 1, by omega⟩
  obtain ⟨G1, q1, x1, s3, s4, s5⟩ := px_step (tr := tr) hQ hdr hl hT hN hp x
  have e0 : fX3_readWinds N dr G tr = fX3_readWinds_b27 N dr (fX3_readWinds_L2 N dr n) 0 G1 tr := by
    have : fX3_readWinds N dr G tr = fX3_readWinds_L2 N dr (n + 1) 0 G tr := by rw [← hn]; rfl
    rw [this, fX3_readWinds_L2, fX3_readWinds_b2, if_neg (show ¬ (12 : Int32) < 0 by decide), q1, zbd_ok, if_pos (show (0 : Int32) ≤ 0 by decide)]
  have fe : (fun (k : Int32 → zMem → Int64 → zR) i => zbd (fX5_readsItem N 98 Gm trm) (fun _ G12 t13 => fX5_sea_b126 N k i G12 t13)) = fun k i => zbd (zbd (fX5_readsWind N Gm trm) (fun _ G_9 tr_10 => fX5_readsItem_L172 N 98 N G_9 tr_10)) (fun _ G12 t13 => fX5_sea_b126 N k i G12 t13) := by
    funext k i
    rw [fX5_readsItem, if_neg (by decide), if_neg (by decide), if_neg (by decide), if_pos rfl]
  rw [e0, fe]
  by_cases h : tkK T len p = 2 ∧ tkV T len p ≤ 4 ∧ D 0 4 < 12
  · obtain ⟨G2, q2, x2⟩ := fw_wind_one (tr := tr) (N := N) hQ hdr h.2.1 h.2.2 x1 (by rw [s4, h.1]; rfl) (s5 h.1) (fX3_readWinds_L2 N dr n) 0
    obtain ⟨M2, f2, y2⟩ := fm_wind_one (trm := trm) hR hl hT hN hp h.1 h.2.1 h.2.2 y
    rw [q2, show (0 : Int32) + 1 = nI 1 from rfl, f2, zbd_ok]
    have hD' : okD (upA D 4 (D 0 4 + 1)) (upN W (D 0 4) (tkV T len p)) := by
      obtain ⟨⟨o1, o2, o3, o4, o5, o6, o7, o8⟩, ow⟩ := hD
      refine ⟨⟨o1, o2, o3, o4, o5, o6, show D 0 4 + 1 ≤ 12 by omega, o8⟩, fun k hk => ?_⟩
      have hk' : k < D 0 4 + 1 := hk
      unfold upN
      split
      · exact h.2.1
      · exact ow k (by omega)
    exact winds_loop hQ hR hdr hl hT hN hfl 12 1 n N (tkQ T len p) _ _ G2 M2 (by omega) (by omega) (by omega) (by omega) (show 1 ≤ D 0 4 + 1 by omega) ts.2.2.1 (by omega) hD' x2 y2
  · have q2 : fX3_readWinds_b27 N dr (fX3_readWinds_L2 N dr n) 0 G1 tr = some (0, G1, tr) := by
      rw [fX3_readWinds_b27, s4]
      by_cases hK : tkK T len p = 2
      · have hv := tk_v hK
        rw [hK, if_pos (show kX 2 _ = 256 from rfl), s5 hK]
        by_cases hV : tkV T len p ≤ 4
        · rw [show (4 : Int32) = nI 4 from rfl, if_neg (nI_nlt (by omega) (by omega)), x1.2.2.1.2.2.2.2.2.1, show (12 : Int32) = nI 12 from rfl, if_neg (nI_nlt (by omega) (by omega)), zbo_0]
        · rw [show (4 : Int32) = nI 4 from rfl, if_pos (nI_lt (by omega) (by omega)), zbo_0]
      · rw [if_neg (kX_not hT hp hK), zbo_0]
    obtain ⟨M0, f0, y0⟩ := fm_wind_bad (trm := trm) (N := N) hR hp hl ht h y
    rw [q2]
    refine Or.inr ⟨tkS T len p, G1, M0, ts.2.1, rfl, x1.1, s3, fun k i => ?_, y0⟩
    show zbd (zbd (fX5_readsWind N Gm trm) (fun _ G_9 tr_10 => fX5_readsItem_L172 N 98 N G_9 tr_10)) (fun _ G12 t13 => fX5_sea_b126 N k i G12 t13) = _
    have e1 : fX5_readsItem_L172 N 98 N M0 trm = some (0, M0, trm) := by
      have : fX5_readsItem_L172 N 98 N M0 trm = fX5_readsItem_L172 N 98 (n + 1) M0 trm := by rw [← hn]
      rw [this, fX5_readsItem_L172, fX5_readsItem_b172, fm_ill (by omega) y0, zbd_ok, if_pos rfl]
    rw [f0, zbd_ok, e1, zbd_ok]
    exact fm_tailF (by omega) y0 k i
/-- the reference's item, from its sign on -/
def bodyM (N : Nat) (z : Int32) (Gm : zMem) (trm : Int64) (k : Int32 → zMem → Int64 → zR) (x : Int32) : zR :=
  if Gm 0 5 = 1 then zbd (fX5_mayBegin N z Gm trm) (fun r_9 G_10 tr_11 => if r_9 = 0 then fX5_sea_b109 N k x G_10 tr_11 else fX5_sea_b110 N k x 1 G_10 tr_11) else fX5_sea_b109 N k x Gm trm
theorem item_both (hQ : keepQ Q dr) (hR : keepR R) (hdr : 3 ≤ dr) (hl : len ≤ 200) (hT : ∀ i, i < len → T i ≤ 255) {N : Nat} (hN : 1000 < N) (hfl : fl ≤ 1) (hit : it ≤ 200) (hp : p ≤ len) (hK0 : tkK T len p ≠ 0) (hD : okD D W) (h0 : it = 0 → D 0 2 = 0 ∧ D 0 3 = 0) (x : PX Q T len dr D W (tkQ T len p) fl it G) (h4 : G 1 4 = kX (tkK T len p) (T (tkS T len p))) (h3 : G 1 3 = nI (tkS T len p)) (y : PM R T len D W p fl Gm) : outI Q R T len dr it p (fX3_readItem N dr G tr) (bodyM N (nI it) Gm trm) tr trm := by
  have ts := tk_spec (T := T) hp
  have hkk := tk_le (T := T) (len := len) (p := p)
  have hlt := ts.2.2.2.2 hK0
  have a5 := y.2.2.1.2.2.2.1
  have a7 := y.2.2.1.2.2.2.2.1
  have a13 := y.2.2.2
  have e8 : Gm 2 8 = nI (D 0 2) := y.2.1.1 2 (by omega)
  have e9 : Gm 2 9 = nI (D 0 3) := y.2.1.1 3 (by omega)
  have h6i := hD.1.2.2.2.2.1
  have h6h := hD.1.2.2.2.2.2.1
  obtain ⟨M0, f0, y0, -⟩ := pm_take0' (trm := trm) hR (N := N) y
  obtain ⟨M1, f1, y1⟩ := pm_take1 (tr := trm) hR hl hT hN hp y
  have b109 : ∀ (k : Int32 → zMem → Int64 → zR) i, fX5_sea_b109 N k i Gm trm = k (i + 1) M0 trm := fun k i => by
    rw [fX5_sea_b109, fX5_sea_b110, f0, zbd_ok, fm_ill (by omega) y0, zbd_ok, if_pos rfl]
    exact fm_tailF (by omega) y0 k i
  have b110 : ∀ (k : Int32 → zMem → Int64 → zR) i, fX5_sea_b110 N k i 1 Gm trm = zbd (fX5_readsItem N (Gm 0 7) M1 trm) (fun _ G12 t13 => fX5_sea_b126 N k i G12 t13) := fun k i => by
    rw [fX5_sea_b110, f1, zbd_ok, pm_well y1, zbd_ok, if_neg (show ¬ (1 : Int32) = 0 by decide)]
  have bad : fX3_readItem N dr G tr = some (0, G, tr) → (∀ k i, bodyM N (nI it) Gm trm k i = fX5_sea_b109 N k i Gm trm) → outI Q R T len dr it p (fX3_readItem N dr G tr) (bodyM N (nI it) Gm trm) tr trm := fun e1 e2 =>
    Or.inr ⟨tkS T len p, G, M0, ts.2.1, e1, x.1, h3, fun k i => by rw [e2 k i]; exact b109 k i, y0⟩
  by_cases h1 : tkK T len p = 1
  · have g7 := a7 h1
    have good : ∀ {c : Int32} {F : zR}, Gm 0 7 = c → (∀ k i, bodyM N (nI it) Gm trm k i = fX5_sea_b110 N k i 1 Gm trm) → fX3_readItem N dr G tr = F → outI Q R T len dr it p F (fun k i => zbd (fX5_readsItem N c M1 trm) (fun _ G12 t13 => fX5_sea_b126 N k i G12 t13)) tr trm → outI Q R T len dr it p (fX3_readItem N dr G tr) (bodyM N (nI it) Gm trm) tr trm := fun {c F} e1 e2 e3 e4 => by
      have : bodyM N (nI it) Gm trm = fun k i => zbd (fX5_readsItem N c M1 trm) (fun _ G12 t13 => fX5_sea_b126 N k i G12 t13) := by
        funext k i; rw [e2, b110, e1]
      rw [this, e3]; exact e4
    have m1 : nI (tkK T len p) = 1 := by rw [h1]; rfl
    rcases tk_1 h1 with hc | hc | hc | hc | hc
    · have c7 : Gm 0 7 = 103 := by rw [g7, hc]; rfl
      have c4 : G 1 4 = 103 := by rw [h4, h1, hc]; rfl
      by_cases hi : it = 0
      · refine good c7 (fun k i => ?_) (show _ = zbd (fX3_readSize N dr G tr) (fun r G t => if r = 0 then zbo 0 (some (0, G, t)) else zbo 1 (some (1, G, t))) from ?_) (outI_b2 (size_both hQ hR hdr hl hT hN ts.2.2.1 (by omega) hD (h0 hi).1 (h0 hi).2 hfl x y1))
        · rw [bodyM, a5, if_pos m1, fX5_mayBegin, c7, if_pos rfl, hi, if_pos (show nI 0 = 0 from rfl), zbo_1, zbd_ok, if_neg (show ¬ (1 : Int32) = 0 by decide)]
        · rw [fX3_readItem, c4, if_neg (by decide), if_neg (by decide), if_pos rfl, x.2.2.2.2.2, hi, if_pos (show nI 0 = 0 from rfl)]
      · refine bad ?_ (fun k i => ?_)
        · rw [fX3_readItem, c4, if_neg (by decide), if_neg (by decide), if_pos rfl, x.2.2.2.2.2, if_neg (nI_ne0 (by omega) (by omega)), zbo_0]
        · rw [bodyM, a5, if_pos m1, fX5_mayBegin, c7, if_pos rfl, if_neg (nI_ne0 (by omega) (by omega)), zbo_0, zbd_ok, if_pos rfl]
    · have c7 : Gm 0 7 = 105 := by rw [g7, hc]; rfl
      have c4 : G 1 4 = 105 := by rw [h4, h1, hc]; rfl
      by_cases hi : D 0 2 < 6
      · refine good c7 (fun k i => ?_) (show _ = zbd (fX3_readIsle N dr G tr) (fun r G t => if r = 0 then zbo 0 (some (0, G, t)) else zbo 1 (some (1, G, t))) from ?_) (outI_b2 (isle_both hQ hR hdr hl hT hN ts.2.2.1 (by omega) hD hi hfl x y1))
        · rw [bodyM, a5, if_pos m1, fX5_mayBegin, c7, if_neg (by decide), if_pos rfl, zin_lit 8 12 (i := 8) rfl (by omega) (by omega), show Int32.toNatClampNeg 8 = 8 from rfl, e8, show (6 : Int32) = nI 6 from rfl, if_neg (nI_ge (by omega) (by omega)), zbo_1, zbd_ok, if_neg (show ¬ (1 : Int32) = 0 by decide)]
        · rw [fX3_readItem, c4, if_neg (by decide), if_neg (by decide), if_neg (by decide), if_pos rfl, x.2.2.1.2.2.2.1, show (6 : Int32) = nI 6 from rfl, if_neg (nI_ge (by omega) (by omega))]
      · refine bad ?_ (fun k i => ?_)
        · rw [fX3_readItem, c4, if_neg (by decide), if_neg (by decide), if_neg (by decide), if_pos rfl, x.2.2.1.2.2.2.1, show (6 : Int32) = nI 6 from rfl, if_pos (nI_le (by omega) (by omega)), zbo_0]
        · rw [bodyM, a5, if_pos m1, fX5_mayBegin, c7, if_neg (by decide), if_pos rfl, zin_lit 8 12 (i := 8) rfl (by omega) (by omega), show Int32.toNatClampNeg 8 = 8 from rfl, e8, show (6 : Int32) = nI 6 from rfl, if_pos (nI_le (by omega) (by omega)), zbo_0, zbd_ok, if_pos rfl]
    · have c7 : Gm 0 7 = 120 := by rw [g7, hc]; rfl
      have c4 : G 1 4 = 120 := by rw [h4, h1, hc]; rfl
      by_cases hi : D 0 3 < 6
      · refine good c7 (fun k i => ?_) (show _ = zbd (fX3_readHill N dr G tr) (fun r G t => if r = 0 then zbo 0 (some (0, G, t)) else zbo 1 (some (1, G, t))) from ?_) (outI_b2 (hill_both hQ hR hdr hl hT hN ts.2.2.1 (by omega) hD hi hfl x y1))
        · rw [bodyM, a5, if_pos m1, fX5_mayBegin, c7, if_neg (by decide), if_neg (by decide), if_pos rfl, zin_lit 9 12 (i := 9) rfl (by omega) (by omega), show Int32.toNatClampNeg 9 = 9 from rfl, e9, show (6 : Int32) = nI 6 from rfl, if_neg (nI_ge (by omega) (by omega)), zbo_1, zbd_ok, if_neg (show ¬ (1 : Int32) = 0 by decide)]
        · rw [fX3_readItem, c4, if_neg (by decide), if_neg (by decide), if_neg (by decide), if_neg (by decide), if_pos rfl, x.2.2.1.2.2.2.2.1, show (6 : Int32) = nI 6 from rfl, if_neg (nI_ge (by omega) (by omega))]
      · refine bad ?_ (fun k i => ?_)
        · rw [fX3_readItem, c4, if_neg (by decide), if_neg (by decide), if_neg (by decide), if_neg (by decide), if_pos rfl, x.2.2.1.2.2.2.2.1, show (6 : Int32) = nI 6 from rfl, if_pos (nI_le (by omega) (by omega)), zbo_0]
        · rw [bodyM, a5, if_pos m1, fX5_mayBegin, c7, if_neg (by decide), if_neg (by decide), if_pos rfl, zin_lit 9 12 (i := 9) rfl (by omega) (by omega), show Int32.toNatClampNeg 9 = 9 from rfl, e9, show (6 : Int32) = nI 6 from rfl, if_pos (nI_le (by omega) (by omega)), zbo_0, zbd_ok, if_pos rfl]
    · have c7 : Gm 0 7 = 98 := by rw [g7, hc]; rfl
      have c4 : G 1 4 = 98 := by rw [h4, h1, hc]; rfl
      refine good c7 (fun k i => ?_) (show _ = zbd (fX3_readWinds N dr G tr) (fun r G t => zbo r (some (r, G, t))) from ?_) (outI_b (winds_both hQ hR hdr hl hT hN hfl ts.2.2.1 (by omega) hD x y1))
      · rw [bodyM, a5, if_pos m1, fX5_mayBegin, c7, if_neg (by decide), if_neg (by decide), if_neg (by decide), if_pos rfl, zbo_1, zbd_ok, if_neg (show ¬ (1 : Int32) = 0 by decide)]
      · rw [fX3_readItem, c4, if_pos rfl]
    · have c7 : Gm 0 7 = 102 := by rw [g7, hc]; rfl
      have c4 : G 1 4 = 102 := by rw [h4, h1, hc]; rfl
      by_cases hi : fl = 0
      · refine good c7 (fun k i => ?_) (show _ = zbd (fX3_readForce N dr G tr) (fun r G t => if r = 0 then zbo 0 (some (0, G, t)) else zbo 1 (some (1, G, t))) from ?_) (outI_b2 (force_both hQ hR hdr hl hT hN ts.2.2.1 (by omega) hD x y1))
        · rw [bodyM, a5, if_pos m1, fX5_mayBegin, c7, if_neg (by decide), if_neg (by decide), if_neg (by decide), if_neg (by decide), a13, hi, if_pos (show nI 0 = 0 from rfl), zbo_1, zbd_ok, if_neg (show ¬ (1 : Int32) = 0 by decide)]
        · rw [fX3_readItem, c4, if_neg (by decide), if_pos rfl, x.2.2.2.2.1, hi, if_pos (show nI 0 = 0 from rfl)]
      · refine bad ?_ (fun k i => ?_)
        · rw [fX3_readItem, c4, if_neg (by decide), if_pos rfl, x.2.2.2.2.1, if_neg (nI_ne0 (by omega) (by omega)), zbo_0]
        · rw [bodyM, a5, if_pos m1, fX5_mayBegin, c7, if_neg (by decide), if_neg (by decide), if_neg (by decide), if_neg (by decide), a13, if_neg (nI_ne0 (by omega) (by omega)), zbo_0, zbd_ok, if_pos rfl]
  · refine bad ?_ (fun k i => ?_)
    · rcases (show tkK T len p = 2 ∨ tkK T len p = 3 ∨ tkK T len p = 4 by omega) with h | h | h <;> rw [h] at h4
      · rw [fX3_readItem, show G 1 4 = 256 from h4, if_neg (by decide), if_neg (by decide), if_neg (by decide), if_neg (by decide), if_neg (by decide), zbo_0]
      · rw [fX3_readItem, show G 1 4 = 59 from h4, if_neg (by decide), if_neg (by decide), if_neg (by decide), if_neg (by decide), if_neg (by decide), zbo_0]
      · rw [fX3_readItem, show G 1 4 = 258 from h4, if_neg (by decide), if_neg (by decide), if_neg (by decide), if_neg (by decide), if_neg (by decide), zbo_0]
    · rw [bodyM, a5, if_neg (show ¬ nI (tkK T len p) = 1 from zneI (k := 1) h1 (by omega) (by omega))]
end ite
