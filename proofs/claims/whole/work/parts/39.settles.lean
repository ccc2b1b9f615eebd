/-! ===== the reference settles ===== -/
section stl
variable {D : zA} {W : zB} {G : zMem} {tr : Int64}
theorem stl_2 (N : Nat) : ∀ (d i n : Nat) (G : zMem), i + d = 6 → d < n → ∃ G', fX5_settles_L2 N n (nI i) G tr = fX5_settles_L61 N N 0 G' tr ∧ (∀ c, c ≠ 2 → c ≠ 3 → c ≠ 4 → G' c = G c) ∧ (∀ j, (j < i ∨ 6 ≤ j) → G' 2 j = G 2 j ∧ G' 3 j = G 3 j ∧ G' 4 j = G 4 j) ∧ ∀ j, i ≤ j → j < 6 → G' 2 j = G 2 (6 + j) ∧ G' 3 j = G 3 (6 + j) ∧ G' 4 j = G 4 (6 + j) := by
  intro d
  induction d with
  | zero =>
    intro i n G hi hn
    obtain ⟨n, rfl⟩ : ∃ k, n = k + 1 := ⟨n - 1, by omega⟩
    refine ⟨G, ?_, fun _ _ _ _ => rfl, fun _ _ => ⟨rfl, rfl, rfl⟩, fun k h1 h2 => by omega⟩
    rw [fX5_settles_L2, fX5_settles_b2, show (6 : Int32) = nI 6 from rfl, if_pos (nI_le (by omega) (by omega))]
  | succ d ih =>
    intro i n G hi hn
    obtain ⟨n, rfl⟩ : ∃ k, n = k + 1 := ⟨n - 1, by omega⟩
    have a2 : ∀ j, j ≠ i → (up2 (up2 (up2 G 2 i (G 2 (6 + i))) 3 i (G 3 (6 + i))) 4 i (G 4 (6 + i))) 2 j = G 2 j := fun j hj => by rw [up2_ne _ _ _ (by omega), up2_ne _ _ _ (by omega), up2_oth hj]
    have a3 : ∀ j, j ≠ i → (up2 (up2 (up2 G 2 i (G 2 (6 + i))) 3 i (G 3 (6 + i))) 4 i (G 4 (6 + i))) 3 j = G 3 j := fun j hj => by rw [up2_ne _ _ _ (by omega), up2_oth hj, up2_ne _ _ _ (by omega)]
    have a4 : ∀ j, j ≠ i → (up2 (up2 (up2 G 2 i (G 2 (6 + i))) 3 i (G 3 (6 + i))) 4 i (G 4 (6 + i))) 4 j = G 4 j := fun j hj => by rw [up2_oth hj, up2_ne _ _ _ (by omega), up2_ne _ _ _ (by omega)]
    obtain ⟨G2, q2, k2, w2, v2⟩ := ih (i + 1) n (up2 (up2 (up2 G 2 i (G 2 (6 + i))) 3 i (G 3 (6 + i))) 4 i (G 4 (6 + i))) (by omega) (by omega)
    refine ⟨G2, ?_, fun c h1 h2 h3 => by rw [k2 c h1 h2 h3, up2_ne _ _ _ h3, up2_ne _ _ _ h2, up2_ne _ _ _ h1], fun j hj => ?_, fun j h1 h2 => ?_⟩
    · rw [fX5_settles_L2, fX5_settles_b2, show (6 : Int32) = nI 6 from rfl, if_neg (nI_ge (by omega) (by omega)), nI_add, zin_ok (by omega) (by omega), zin_ok (by omega) (by omega), zin_ok (by omega) (by omega), zin_ok (by omega) (by omega), zin_ok (by omega) (by omega), zin_ok (by omega) (by omega), nI_clamp (by omega), nI_clamp (by omega), up2_ne _ _ _ (by omega), up2_ne _ _ _ (by omega), up2_ne _ _ _ (by omega), nI_1, q2]
    · have := w2 j (by omega)
      rw [a2 j (by omega), a3 j (by omega), a4 j (by omega)] at this
      exact this
    · by_cases hj : j = i
      · subst hj
        have := w2 j (by omega)
        refine ⟨this.1.trans ?_, this.2.1.trans ?_, this.2.2.trans ?_⟩
        · rw [up2_ne _ _ _ (by omega), up2_ne _ _ _ (by omega), up2_get]
        · rw [up2_ne _ _ _ (by omega), up2_get]
        · rw [up2_get]
      · have := v2 j (by omega) h2
        rw [a2 (6 + j) (by omega), a3 (6 + j) (by omega), a4 (6 + j) (by omega)] at this
        exact this
theorem stl_61 (N : Nat) : ∀ (d i n : Nat) (G : zMem), i + d = 45 → d < n → ∃ G', fX5_settles_L61 N n (nI i) G tr = fX5_settles_L82 N N 0 G' tr ∧ (∀ c, c ≠ 6 → G' c = G c) ∧ (∀ j, j < i → G' 6 j = G 6 j) ∧ ∀ j, i ≤ j → j < 45 → G' 6 j = 0 := by
  intro d
  induction d with
  | zero =>
    intro i n G hi hn
    obtain ⟨n, rfl⟩ : ∃ k, n = k + 1 := ⟨n - 1, by omega⟩
    refine ⟨G, ?_, fun _ _ => rfl, fun _ _ => rfl, fun k h1 h2 => by omega⟩
    rw [fX5_settles_L61, fX5_settles_b61, show (45 : Int32) = nI 45 from rfl, if_pos (nI_le (by omega) (by omega))]
  | succ d ih =>
    intro i n G hi hn
    obtain ⟨n, rfl⟩ : ∃ k, n = k + 1 := ⟨n - 1, by omega⟩
    obtain ⟨G2, q2, k2, w2, v2⟩ := ih (i + 1) n (up2 G 6 i 0) (by omega) (by omega)
    refine ⟨G2, ?_, fun c h1 => by rw [k2 c h1, up2_ne _ _ _ h1], fun j hj => by rw [w2 j (by omega), up2_oth (by omega)], fun j h1 h2 => ?_⟩
    · rw [fX5_settles_L61, fX5_settles_b61, show (45 : Int32) = nI 45 from rfl, if_neg (nI_ge (by omega) (by omega)), zin_ok (by omega) (by omega), nI_clamp (by omega), nI_1, q2]
    · by_cases hj : j = i
      · rw [hj, w2 i (by omega), up2_get]
      · exact v2 j (by omega) h2
theorem stl_82 (N : Nat) {t : Nat} (ht : t ≤ 12) : ∀ (d i n : Nat) (G : zMem), i + d = t → d < n → G 2 4 = nI t → ∃ G', fX5_settles_L82 N n (nI i) G tr = some (0, up2 (up2 (up2 (up2 G' 0 3 0) 0 18 0) 8 0 0) 8 1 0, tr) ∧ (∀ c, c ≠ 6 → G' c = G c) ∧ (∀ j, (j < 3 + i ∨ 3 + t ≤ j) → G' 6 j = G 6 j) ∧ ∀ j, i ≤ j → j < t → G' 6 (3 + j) = G 5 j := by
  intro d
  induction d with
  | zero =>
    intro i n G hi hn h4
    obtain ⟨n, rfl⟩ : ∃ k, n = k + 1 := ⟨n - 1, by omega⟩
    refine ⟨G, ?_, fun _ _ => rfl, fun _ _ => rfl, fun k h1 h2 => by omega⟩
    rw [fX5_settles_L82, fX5_settles_b82, zin_lit 4 12 (i := 4) rfl (by omega) (by omega), show Int32.toNatClampNeg 4 = 4 from rfl, h4, if_pos (nI_le (by omega) (by omega)), zin_lit 0 2 (i := 0) rfl (by omega) (by omega), zin_lit 1 2 (i := 1) rfl (by omega) (by omega), zbo_0, zbo_0]
    rfl
  | succ d ih =>
    intro i n G hi hn h4
    obtain ⟨n, rfl⟩ : ∃ k, n = k + 1 := ⟨n - 1, by omega⟩
    obtain ⟨G2, q2, k2, w2, v2⟩ := ih (i + 1) n (up2 G 6 (3 + i) (G 5 i)) (by omega) (by omega) (by rw [up2_ne _ _ _ (by omega)]; exact h4)
    refine ⟨G2, ?_, fun c h1 => by rw [k2 c h1, up2_ne _ _ _ h1], fun j hj => by rw [w2 j (by omega), up2_oth (by omega)], fun j h1 h2 => ?_⟩
    · rw [fX5_settles_L82, fX5_settles_b82, zin_lit 4 12 (i := 4) rfl (by omega) (by omega), show Int32.toNatClampNeg 4 = 4 from rfl, h4, if_neg (nI_ge (by omega) (by omega)), show (3 : Int32) = nI 3 from rfl, nI_add, zin_ok (by omega) (by omega), zin_ok (by omega) (by omega), nI_clamp (by omega), nI_clamp (by omega), nI_1, q2]
    · by_cases hj : j = i
      · rw [hj, w2 (3 + i) (by omega), up2_get]
      · rw [v2 j (by omega) h2, up2_ne _ _ _ (by omega)]
theorem fm_settles {N : Nat} (hN : 1000 < N) (h : okD D W) (y : dM D W G) : ∃ G', fX5_settles N G tr = some (0, G', tr) ∧ G' 1 = G 1 ∧ gM D G' ∧ mM G' 6 0 (B0 D W) ∧ G' 0 3 = nI 0 ∧ G' 0 18 = nI 0 ∧ G' 8 0 = 0 ∧ G' 8 1 = 0 := by
  have ht := h.1.2.2.2.2.2.2.1
  have h2 := h.1.2.2.2.2.1
  have h3 := h.1.2.2.2.2.2.1
  obtain ⟨d1, d2, d3, d4⟩ := y
  obtain ⟨G1, q1, k1, -, v1⟩ := stl_2 (tr := tr) N 6 0 N G (by omega) (by omega)
  obtain ⟨G2, q2, k2, -, v2⟩ := stl_61 (tr := tr) N 45 0 N G1 (by omega) (by omega)
  have e4 : G2 2 4 = nI (D 0 4) := by rw [k2 2 (by omega), (v1 4 (by omega) (by omega)).1]; exact d1 4 (by omega)
  obtain ⟨G3, q3, k3, w3, v3⟩ := stl_82 (tr := tr) N ht (D 0 4) 0 N G2 (by omega) (by omega) e4
  have q1' : fX5_settles N G tr = fX5_settles_L61 N N 0 G1 tr := q1
  have q2' : fX5_settles_L61 N N 0 G1 tr = fX5_settles_L82 N N 0 G2 tr := q2
  have q3' : fX5_settles_L82 N N 0 G2 tr = _ := q3
  have up : ∀ c, c ≠ 0 → c ≠ 8 → (up2 (up2 (up2 (up2 G3 0 3 0) 0 18 0) 8 0 0) 8 1 0) c = G3 c := fun c a b => by rw [up2_ne _ _ _ b, up2_ne _ _ _ b, up2_ne _ _ _ a, up2_ne _ _ _ a]
  have g1 : ∀ c, c ≠ 0 → c ≠ 8 → c ≠ 6 → (up2 (up2 (up2 (up2 G3 0 3 0) 0 18 0) 8 0 0) 8 1 0) c = G1 c := fun c a b e => by rw [up c a b, k3 c e, k2 c e]
  refine ⟨_, by rw [q1', q2', q3'], by rw [g1 1 (by omega) (by omega) (by omega), k1 1 (by omega) (by omega) (by omega)], ⟨fun k hk => ?_, fun k hk => ?_, fun k hk => ?_⟩, fun k hk => ?_, ?_, ?_, ?_, ?_⟩
  · rw [g1 2 (by omega) (by omega) (by omega), (v1 k (by omega) hk).1]; exact d1 k hk
  · rw [g1 3 (by omega) (by omega) (by omega), (v1 k (by omega) (by omega)).2.1]; exact d2 k hk
  · rw [g1 4 (by omega) (by omega) (by omega), (v1 k (by omega) (by omega)).2.2]; exact d3 k hk
  · rw [Nat.zero_add, up 6 (by omega) (by omega)]
    unfold B0
    by_cases hb : 3 ≤ k ∧ k < 3 + D 0 4
    · rw [if_pos hb]
      have := v3 (k - 3) (by omega) (by omega)
      rw [show 3 + (k - 3) = k by omega, k2 5 (by omega), k1 5 (by omega) (by omega) (by omega), d4 (k - 3) (by omega)] at this
      exact this
    · rw [if_neg hb, w3 k (by omega), v2 k (by omega) hk]; rfl
  · rw [up2_ne _ _ _ (by omega), up2_ne _ _ _ (by omega), up2_oth (by omega), up2_get]; rfl
  · rw [up2_ne _ _ _ (by omega), up2_ne _ _ _ (by omega), up2_get]; rfl
  · rw [up2_oth (by omega), up2_get]
  · rw [up2_get]
end stl
