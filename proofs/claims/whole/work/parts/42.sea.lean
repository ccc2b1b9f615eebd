/-! ===== sea, whole ===== -/
section seo
variable {G Gm : zMem} {tr trm : Int64}
theorem neg10 : ∀ s, s < 201 → ¬ (0 : Int32) ≤ -10 - nI s := by decide +kernel
theorem sea_69 (N : Nat) (v : Int32) {n : Nat} (hn : 2 < n) : fX4_sea_L69 N n v 0 G tr = some (v, up2 (up2 G 17 0 0) 17 1 0, tr) := by
  obtain ⟨n, rfl⟩ : ∃ k, n = k + 1 + 1 + 1 := ⟨n - 3, by omega⟩
  rw [fX4_sea_L69, fX4_sea_b69, if_neg (by decide), zin_lit 0 2 (i := 0) rfl (by omega) (by omega), zbo_0, fX4_sea_L69, fX4_sea_b69, if_neg (by decide), zin_lit 1 2 (i := 0 + 1) rfl (by omega) (by omega), zbo_0, fX4_sea_L69, fX4_sea_b69, if_pos (by decide)]
  rfl
theorem op_sea (h : Rel G tr Gm trm) {N : Nat} (hN : 1000 < N) : zStp (fX4_sea N G tr) (fX5_sea N Gm trm) := by
  obtain ⟨A, len, T, B, un, U, K, I, o, x, m, rfl⟩ := h
  have hl := o.2.1
  have hT := o.2.2.1
  obtain ⟨dr, hc, hdr⟩ : ∃ dr, chP (G 0 1) (G 0 2) dr ∧ (G 0 2).toNatClampNeg = dr := by
    rcases x.1 with ⟨a, b⟩ | ⟨a, b⟩
    · exact ⟨8, Or.inl ⟨a, b, rfl⟩, by rw [b]; rfl⟩
    · exact ⟨3, Or.inr ⟨a, b, rfl⟩, by rw [b]; rfl⟩
  have hd3 : dr = 3 ∨ dr = 8 := by rcases hc with ⟨-, -, h⟩ | ⟨-, -, h⟩ <;> omega
  have hg2 : G 0 2 = 3 ∨ G 0 2 = 8 := by rcases hc with ⟨-, h, -⟩ | ⟨-, h, -⟩; exact Or.inr h; exact Or.inl h
  have kQ := keep_RX o hc
  have kR := keep_RM o
  obtain ⟨G1, q1, p1⟩ := px_start (tr := tr) kQ (by omega) (fun _ => 0) hN (G := G) ⟨x, rfl, rfl⟩ x.2.2.1
  obtain ⟨M1, f1, y1⟩ := pm_start (trm := tr) kR (fun _ => 0) hl hT hN m m.2.1
  have out := read_loop (tr := tr) (trm := tr) kQ kR (by omega) hl hT hN (len + 1) 0 0 0 N N D0 (fun _ => 0) G1 M1 (by omega) (by omega) (by omega) (by omega) (by omega) (by omega) ⟨okA_D0, fun k hk => Nat.zero_le 4⟩ (fun _ => ⟨rfl, rfl⟩) p1 y1
  rw [f1]
  unfold fX4_sea
  rw [zch_ok hg2, hdr, q1]
  rcases out with ⟨D, W, q, fl, it, G2, M2, hD, hit, e1, ⟨⟨x2, x3, x4⟩, d2⟩, e2, y2⟩ | ⟨s, G2, M2, hs, e1, x2, e2, y2⟩
  · obtain ⟨M3, f3, k1, g3, b3, l3, u3, k30, k31⟩ := fm_settles (tr := tr) hN hD y2.2.1
    obtain ⟨G3, hG3⟩ : ∃ X, X = up2 (up2 G2 0 1 (G2 0 2)) 0 2 (G2 0 1) := ⟨_, rfl⟩
    have a1 : G3 0 1 = G 0 2 := by rw [hG3, up2_oth (by omega), up2_get]; exact x4
    have a2 : G3 0 2 = G 0 1 := by rw [hG3, up2_get]; exact x3
    have a3 : ∀ c, c ≠ 0 → G3 c = G2 c := fun c h => by rw [hG3, up2_ne _ _ _ h, up2_ne _ _ _ h]
    have d3 : dX D W dr G3 := dX_keep d2 (fun c h1 h2 => a3 c (by omega))
    obtain ⟨G4, q4, w4, gx4⟩ := fw_ends (tr := tr) hD.1 (t := dr) hN d3
    obtain ⟨G5, hG5⟩ : ∃ X, X = up2 G4 1 0 0 := ⟨_, rfl⟩
    have w5 : ∀ c, c ≠ 1 → G5 c = G4 c := fun c h => by rw [hG5, up2_ne _ _ _ h]
    have d5 : dX D W dr G5 := dX_keep d3 (fun c h1 h2 => by rw [w5 c (by omega), w4 c (by omega)])
    obtain ⟨G6, q6, w6, m6⟩ := fw_anew (tr := tr) hD hN hd3 d5
    have z1 : G4 0 1 = G 0 2 := by rw [w4 0 (by omega)]; exact a1
    have z5 : G5 0 1 = G 0 2 := by rw [w5 0 (by omega)]; exact z1
    have z6 : ∀ k, G6 0 k = G3 0 k := fun k => by rw [w6 0 (by omega) (by omega), w5 0 (by omega), w4 0 (by omega)]
    have xc : ∀ c, c ≠ 0 → c ≠ 17 → (up2 (up2 (up2 G6 0 6 0) 17 0 0) 17 1 0) c = G6 c := fun c h1 h2 => by rw [up2_ne _ _ _ h2, up2_ne _ _ _ h2, up2_ne _ _ _ h1]
    have xk : ∀ k, k ≠ 6 → (up2 (up2 (up2 G6 0 6 0) 17 0 0) 17 1 0) 0 k = G6 0 k := fun k h => by rw [up2_ne _ _ _ (by omega), up2_ne _ _ _ (by omega), up2_oth h]
    have hg1 : G 0 1 = 3 ∨ G 0 1 = 8 := by
      rcases hc with ⟨h, -, -⟩ | ⟨h, -, -⟩
      · exact Or.inl h
      · exact Or.inr h
    have fw : fX4_sea_L69 N N (nI it) 0 (up2 G6 0 6 0) tr = _ := sea_69 (G := up2 G6 0 6 0) (tr := tr) N (nI it) (n := N) (by omega)
    rw [e1, zbd_ok, if_pos (nI_pos' (by omega)), x3, x4, zch_ok hg1, zch_ok hg2]
    rw [show up2 (up2 G2 0 1 (G 0 2)) 0 2 (G 0 1) = G3 by rw [hG3, x3, x4], a1, zch_ok hg2, hdr, q4, zbd_ok, ← hG5, z5, zch_ok hg2, hdr, q6, zbd_ok, fw, e2, f3, zbd_ok]
    refine ⟨_, _, _, _, _, rfl, rfl, D, 0, fun _ => 0, B0 D W, 0, U, fun _ => false, I, ⟨hD.1, by omega, fun i hi => by omega, okB_B0 hD, by omega, fun j hj => by omega, fun i hi h => by cases h⟩, ⟨?_, ?_, ?_, ?_, ?_, fun i hi => ?_, fun i hi h => by cases h⟩, ⟨g3, ⟨l3, fun i hi => by omega⟩, b3, ⟨u3, fun j hj => by omega⟩, fun i hi => ?_, fun i hi h => by cases h⟩, rfl⟩
    · rw [xk 1 (by omega), xk 2 (by omega), z6 1, z6 2, a1, a2]
      rcases hc with ⟨h1, h2, -⟩ | ⟨h1, h2, -⟩
      · exact Or.inr ⟨h2, h1⟩
      · exact Or.inl ⟨h2, h1⟩
    · rw [xk 1 (by omega), z6 1, a1, hdr]
      exact gX_keep gx4 (fun c h1 h2 => by rw [xc c (by omega) (by omega), w6 c (by omega) (by omega), w5 c (by omega)])
    · refine ⟨?_, fun i hi => by omega⟩
      rw [xc 1 (by omega) (by omega), w6 1 (by omega) (by omega), hG5, up2_get]; rfl
    · exact mX_keep (okB_B0 hD).2.1 (fun c h1 h2 => xc c (by omega) (by omega)) m6
    · obtain ⟨-, pn, hp1, hp2, -⟩ := x2.2.2.2.2.1
      refine ⟨by rw [up2_ne _ _ _ (by omega), up2_ne _ _ _ (by omega), up2_get]; rfl, pn, hp1, ?_, fun j hj => by omega⟩
      rw [xk 5 (by omega), z6 5, hG3, up2_oth (by omega), up2_oth (by omega)]; exact hp2
    · rcases (show i = 0 ∨ i = 1 by omega) with rfl | rfl
      · rw [up2_oth (by omega), up2_get]; rfl
      · rw [up2_get]; rfl
    · rcases (show i = 0 ∨ i = 1 by omega) with rfl | rfl
      · rw [k30]; rfl
      · rw [k31]; rfl
  · rw [e1, zbd_ok, if_neg (neg10 s (by omega)), e2]
    exact ⟨_, _, _, _, _, rfl, rfl, Rel_mk o x2.1 y2⟩
end seo
