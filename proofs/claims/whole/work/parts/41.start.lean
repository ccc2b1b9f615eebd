/-! ===== both begin to read ===== -/
section stt
variable {Q R : zMem → Prop} {T : zB} {len dr : Nat} {G Gm : zMem} {tr trm : Int64}
theorem px_start (hQ : keepQ Q dr) (hdr : 3 ≤ dr) (W : zB) {N : Nat} (hN : 1000 < N) (x : Q G) (t : txX T len G) : ∃ G', fX3_readInto N dr G tr = fX3_readInto_L21 N dr N (nI 0) G' tr ∧ PX Q T len dr D0 W 0 0 0 G' := by
  obtain ⟨G1, q1, k1, d1⟩ := fw_untell (G := G) (tr := tr) W hN dr
  have e1 := k1 1 (by omega) (by omega)
  have e2 := k1 2 (by omega) (by omega)
  refine ⟨up2 (up2 (up2 G1 1 2 0) 1 6 0) 1 7 0, ?_, hQ _ _ x (fun c h1 h2 => by rw [up2_ne _ _ _ h1, up2_ne _ _ _ h1, up2_ne _ _ _ h1, k1 c (by omega) (by omega)]) (by rw [up2_oth (by omega), up2_oth (by omega), up2_oth (by omega), e1]), ⟨by rw [up2_oth (by omega), up2_oth (by omega), up2_oth (by omega), e1]; exact t.1, fun i hi => by rw [up2_ne _ _ _ (by omega), up2_ne _ _ _ (by omega), up2_ne _ _ _ (by omega), e2]; exact t.2 i hi⟩, dX_keep d1 (fun c h1 h2 => by rw [up2_ne _ _ _ (by omega), up2_ne _ _ _ (by omega), up2_ne _ _ _ (by omega)]), ?_, ?_, ?_⟩
  · unfold fX3_readInto
    rw [q1, zbd_ok, zbo_0]; rfl
  · rw [up2_oth (by omega), up2_oth (by omega), up2_get]; rfl
  · rw [up2_get]; rfl
  · rw [up2_oth (by omega), up2_get]; rfl
theorem pm_start (hR : keepR R) (W : zB) (hl : len ≤ 200) (hT : ∀ i, i < len → T i ≤ 255) {N : Nat} (hN : 1000 < N) (y : R Gm) (t : txM T len Gm) : ∃ G', fX5_sea N Gm trm = fX5_sea_L74 N N (nI 0) G' trm ∧ PM R T len D0 W 0 0 G' := by
  obtain ⟨M, hM⟩ : ∃ M, M = (up2 (up2 (up2 (up2 (up2 (up2 (up2 (up2 (up2 (up2 Gm 0 0 0) 0 8 (-1)) 0 4 0) 2 6 4) 2 7 4) 2 8 0) 2 9 0) 2 10 0) 2 11 3) 0 13 0) := ⟨_, rfl⟩
  have m0 : ∀ k, k ≠ 0 → k ≠ 8 → k ≠ 4 → k ≠ 13 → M 0 k = Gm 0 k := fun k a b c d => by
    rw [hM, up2_oth d, up2_ne _ _ _ (by omega), up2_ne _ _ _ (by omega), up2_ne _ _ _ (by omega), up2_ne _ _ _ (by omega), up2_ne _ _ _ (by omega), up2_ne _ _ _ (by omega), up2_oth c, up2_oth b, up2_oth a]
  have mc : ∀ c, c ≠ 0 → c ≠ 2 → M c = Gm c := fun c a b => by
    rw [hM, up2_ne _ _ _ a, up2_ne _ _ _ b, up2_ne _ _ _ b, up2_ne _ _ _ b, up2_ne _ _ _ b, up2_ne _ _ _ b, up2_ne _ _ _ b, up2_ne _ _ _ a, up2_ne _ _ _ a, up2_ne _ _ _ a]
  have m2 : ∀ k, k < 6 → M 2 k = Gm 2 k := fun k h => by
    rw [hM, up2_ne _ _ _ (by omega), up2_oth (by omega), up2_oth (by omega), up2_oth (by omega), up2_oth (by omega), up2_oth (by omega), up2_oth (by omega), up2_ne _ _ _ (by omega), up2_ne _ _ _ (by omega), up2_ne _ _ _ (by omega)]
  have t1 : txM T len M := ⟨by rw [m0 3 (by omega) (by omega) (by omega) (by omega)]; exact t.1, fun i hi => by rw [mc 1 (by omega) (by omega)]; exact t.2 i hi⟩
  have r1 : R M := hR _ _ y (fun c hc => mc c (by omega) (by omega)) (fun k hk => ⟨m2 k hk, by rw [mc 3 (by omega) (by omega)], by rw [mc 4 (by omega) (by omega)]⟩) (m0 3 (by omega) (by omega) (by omega) (by omega)) (m0 18 (by omega) (by omega) (by omega) (by omega))
  have e4 : M 0 4 = nI 0 := by rw [hM, up2_oth (by omega), up2_ne _ _ _ (by omega), up2_ne _ _ _ (by omega), up2_ne _ _ _ (by omega), up2_ne _ _ _ (by omega), up2_ne _ _ _ (by omega), up2_ne _ _ _ (by omega), up2_get]; rfl
  have e8 : M 0 8 = -1 := by rw [hM, up2_oth (by omega), up2_ne _ _ _ (by omega), up2_ne _ _ _ (by omega), up2_ne _ _ _ (by omega), up2_ne _ _ _ (by omega), up2_ne _ _ _ (by omega), up2_ne _ _ _ (by omega), up2_oth (by omega), up2_get]
  have e13 : M 0 13 = nI 0 := by rw [hM, up2_get]; rfl
  have dm : dM D0 W M := by
    refine ⟨fun k hk => ?_, fun k hk => absurd hk (Nat.not_lt_zero k), fun k hk => absurd hk (Nat.not_lt_zero k), fun k hk => absurd hk (Nat.not_lt_zero k)⟩
    rw [hM, up2_ne _ _ _ (by omega)]
    rcases (show k = 0 ∨ k = 1 ∨ k = 2 ∨ k = 3 ∨ k = 4 ∨ k = 5 by omega) with rfl | rfl | rfl | rfl | rfl | rfl <;> rfl
  obtain ⟨G1, q1, s1, s2, s3, s4, s5, s6, s7, s8⟩ := fm_adv (tr := trm) hl hT hN (Nat.zero_le len) t1 e4
  refine ⟨G1, ?_, hR _ _ r1 (fun c hc => s8 c (by omega)) (fun k hk => ⟨by rw [s8 2 (by omega)], by rw [s8 3 (by omega)], by rw [s8 4 (by omega)]⟩) (s7 3 (by omega)) (s7 18 (by omega)), dM_keep dm s8, ⟨s1, s2, s3, s4, s5, s6, by rw [s7 8 (by omega)]; exact e8⟩, by rw [s7 13 (by omega)]; exact e13⟩
  unfold fX5_sea
  rw [zin_lit 6 12 (i := 6) rfl (by omega) (by omega), zin_lit 7 12 (i := 7) rfl (by omega) (by omega), zin_lit 8 12 (i := 8) rfl (by omega) (by omega), zin_lit 9 12 (i := 9) rfl (by omega) (by omega), zin_lit 10 12 (i := 10) rfl (by omega) (by omega), zin_lit 11 12 (i := 11) rfl (by omega) (by omega), zbo_0]
  have q1' : fX5_advances N (up2 (up2 (up2 (up2 (up2 (up2 (up2 (up2 (up2 (up2 Gm 0 0 0) 0 8 (-1)) 0 4 0) 2 (Int32.toNatClampNeg 6) 4) 2 (Int32.toNatClampNeg 7) 4) 2 (Int32.toNatClampNeg 8) 0) 2 (Int32.toNatClampNeg 9) 0) 2 (Int32.toNatClampNeg 10) 0) 2 (Int32.toNatClampNeg 11) 3) 0 13 0) trm = some (0, G1, trm) := by rw [← q1, hM]; rfl
  rw [q1', zbd_ok]; rfl
end stt
