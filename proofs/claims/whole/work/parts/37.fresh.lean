/-! ===== a chart untold, a moment begun anew ===== -/
def D0 : zA := fun r k => if r = 0 then (if k = 0 then 4 else if k = 1 then 4 else if k = 5 then 3 else 0) else 0
theorem okA_D0 : okA D0 := by
  refine ⟨by decide, by decide, by decide, by decide, by decide, by decide, by decide, by decide, by decide, fun k hk => ?_, fun k hk => ?_, fun j k hj => ?_, fun j k hj => ?_⟩
  · exact absurd hk (Nat.not_lt_zero k)
  · exact absurd hk (Nat.not_lt_zero k)
  · exact absurd hj (Nat.not_lt_zero j)
  · exact absurd hj (Nat.not_lt_zero j)
section frs
variable {G : zMem} {tr : Int64}
theorem fw_untell32 (N t : Nat) : ∀ (d i n : Nat) (G : zMem), i + d = 30 → d < n → ∃ G', fX0_untell_L32 N t n (nI i) G tr = some (0, G', tr) ∧ (∀ c, c ≠ t + 2 → G' c = G c) ∧ (∀ k, k < i → G' (t + 2) k = G (t + 2) k) ∧ ∀ k, i ≤ k → k < 30 → G' (t + 2) k = -9 := by
  intro d
  induction d with
  | zero =>
    intro i n G hi hn
    obtain ⟨n, rfl⟩ : ∃ k, n = k + 1 := ⟨n - 1, by omega⟩
    refine ⟨G, ?_, fun _ _ => rfl, fun _ _ => rfl, fun k h1 h2 => by omega⟩
    rw [fX0_untell_L32, fX0_untell_b32, show (30 : Int32) = nI 30 from rfl, if_pos (nI_le (by omega) (by omega))]
  | succ d ih =>
    intro i n G hi hn
    obtain ⟨n, rfl⟩ : ∃ k, n = k + 1 := ⟨n - 1, by omega⟩
    obtain ⟨G2, q2, k2, w2, v2⟩ := ih (i + 1) n (up2 G (t + 2) i (-9)) (by omega) (by omega)
    refine ⟨G2, ?_, fun c hc => by rw [k2 c hc, up2_ne _ _ _ hc], fun k hk => by rw [w2 k (by omega), up2_oth (by omega)], fun k h1 h2 => ?_⟩
    · rw [fX0_untell_L32, fX0_untell_b32, show (30 : Int32) = nI 30 from rfl, if_neg (nI_ge (by omega) (by omega)), zin_ok (by omega) (by omega), nI_clamp (by omega), nI_1, q2]
    · by_cases hk : k = i
      · rw [hk, w2 i (by omega), up2_get]
      · exact v2 k (by omega) h2
theorem fw_untell (W : zB) {N : Nat} (hN : 1000 < N) (t : Nat) : ∃ G', fX0_untell N t G tr = some (0, G', tr) ∧ (∀ c, c ≠ t → c ≠ t + 2 → G' c = G c) ∧ dX D0 W t G' := by
  obtain ⟨G2, q2, k2, w2, v2⟩ := fw_untell32 (tr := tr) N t 30 0 N (up2 (up2 (up2 (up2 (up2 (up2 G t 0 4) t 1 4) t 2 3) t 3 0) t 4 0) t 5 0) (by omega) (by omega)
  refine ⟨G2, q2, fun c h1 h2 => ?_, ?_⟩
  · rw [k2 c h2]
    simp only [up2_ne _ _ _ h1]
  · have e := k2 t (by omega)
    refine ⟨?_, ?_, ?_, ?_, ?_, ?_, fun k hk => absurd hk (Nat.not_lt_zero k), fun c hc => ?_, fun k hk => absurd hk (Nat.not_lt_zero k)⟩
    · rw [e, up2_oth (by omega), up2_oth (by omega), up2_oth (by omega), up2_oth (by omega), up2_oth (by omega), up2_get]; rfl
    · rw [e, up2_oth (by omega), up2_oth (by omega), up2_oth (by omega), up2_oth (by omega), up2_get]; rfl
    · rw [e, up2_oth (by omega), up2_oth (by omega), up2_oth (by omega), up2_get]; rfl
    · rw [e, up2_oth (by omega), up2_oth (by omega), up2_get]; rfl
    · rw [e, up2_oth (by omega), up2_get]; rfl
    · rw [e, up2_get]; rfl
    · rw [v2 c (by omega) hc]; rfl
theorem fw_anew25 (N t a : Nat) (hta : a + 3 ≠ t + 1) : ∀ (d i n : Nat) (G : zMem), i + d = 12 → d < n → ∃ G', fX2_beginAnew_L25 N t a n (nI i) G tr = some (0, G', tr) ∧ (∀ c, c ≠ t + 1 → G' c = G c) ∧ (∀ k, k < i → G' (t + 1) k = G (t + 1) k) ∧ ∀ k, i ≤ k → k < 12 → G' (t + 1) k = G (a + 3) k := by
  intro d
  induction d with
  | zero =>
    intro i n G hi hn
    obtain ⟨n, rfl⟩ : ∃ k, n = k + 1 := ⟨n - 1, by omega⟩
    refine ⟨G, ?_, fun _ _ => rfl, fun _ _ => rfl, fun k h1 h2 => by omega⟩
    rw [fX2_beginAnew_L25, fX2_beginAnew_b25, show (12 : Int32) = nI 12 from rfl, if_pos (nI_le (by omega) (by omega))]
  | succ d ih =>
    intro i n G hi hn
    obtain ⟨n, rfl⟩ : ∃ k, n = k + 1 := ⟨n - 1, by omega⟩
    obtain ⟨G2, q2, k2, w2, v2⟩ := ih (i + 1) n (up2 G (t + 1) i (G (a + 3) i)) (by omega) (by omega)
    refine ⟨G2, ?_, fun c hc => by rw [k2 c hc, up2_ne _ _ _ hc], fun k hk => by rw [w2 k (by omega), up2_oth (by omega)], fun k h1 h2 => ?_⟩
    · rw [fX2_beginAnew_L25, fX2_beginAnew_b25, show (12 : Int32) = nI 12 from rfl, if_neg (nI_ge (by omega) (by omega)), zin_ok (by omega) (by omega), zin_ok (by omega) (by omega), nI_clamp (by omega), nI_1, q2]
    · by_cases hk : k = i
      · rw [hk, w2 i (by omega), up2_get]
      · rw [v2 k (by omega) h2, up2_ne _ _ _ hta]
/-- the first moment of a sea -/
def B0 (D : zA) (W : zB) : zB := fun j => if 3 ≤ j ∧ j < 3 + D 0 4 then W (j - 3) else 0
theorem okB_B0 {D : zA} {W : zB} (h : okD D W) : okB D (B0 D W) := by
  have ht := h.1.2.2.2.2.2.2.1
  have e : ∀ j, j < 3 → B0 D W j = 0 := fun j hj => if_neg (by omega)
  refine ⟨by rw [e 0 (by omega)]; omega, by rw [e 1 (by omega)]; omega, by rw [e 2 (by omega)]; exact Nat.pow_pos (by decide), fun k hk => ?_, fun l hl => by rw [e 1 (by omega)] at hl; omega⟩
  have : B0 D W (3 + k) = W k := by
    unfold B0
    rw [if_pos (by omega), show 3 + k - 3 = k by omega]
  rw [this]
  exact h.2 k hk
theorem fw_anew {D : zA} {W : zB} (h : okD D W) {N : Nat} (hN : 1000 < N) {dr : Nat} (hdr : dr = 3 ∨ dr = 8) (x : dX D W dr G) : ∃ G', fX2_beginAnew N 18 dr G tr = some (0, G', tr) ∧ (∀ c, c ≠ 18 → c ≠ 19 → G' c = G c) ∧ mX D G' 18 (B0 D W) := by
  have ht := h.1.2.2.2.2.2.2.1
  obtain ⟨c1, c2, c3, c4, c5, c6, c7, c8, c9⟩ := x
  obtain ⟨G2, q2, k2, w2, v2⟩ := fw_anew25 (tr := tr) N 18 dr (by omega) 12 0 N (up2 (up2 (up2 (up2 G 18 0 0) 18 1 0) 18 2 0) 18 3 (G dr 5)) (by omega) (by omega)
  have e18 := k2 18 (by omega)
  have e : ∀ j, j < 3 → B0 D W j = 0 := fun j hj => if_neg (by omega)
  refine ⟨G2, ?_, fun c h1 h2 => ?_, ?_, ?_, ?_, ?_, fun k hk => ?_, fun l hl => ?_⟩
  · unfold fX2_beginAnew
    rw [show (up2 (up2 (up2 G 18 0 0) 18 1 0) 18 2 0) dr 5 = G dr 5 by rw [up2_ne _ _ _ (by omega), up2_ne _ _ _ (by omega), up2_ne _ _ _ (by omega)]]
    exact q2
  · rw [k2 c h2]; simp only [up2_ne _ _ _ h1]
  · rw [e18, up2_oth (by omega), up2_oth (by omega), up2_oth (by omega), up2_get, e 0 (by omega)]; rfl
  · rw [e18, up2_oth (by omega), up2_oth (by omega), up2_get, e 1 (by omega)]; rfl
  · rw [e18, up2_oth (by omega), up2_get, e 2 (by omega)]; rfl
  · rw [e18, up2_get]; exact c6
  · have : B0 D W (3 + k) = W k := by
      unfold B0
      rw [if_pos (by omega), show 3 + k - 3 = k by omega]
    rw [this, v2 k (by omega) (by omega), up2_ne _ _ _ (by omega), up2_ne _ _ _ (by omega), up2_ne _ _ _ (by omega), up2_ne _ _ _ (by omega)]
    exact c9 k hk
  · rw [e 1 (by omega)] at hl; omega
end frs
