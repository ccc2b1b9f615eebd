/-! ===== the easy calls ===== -/
theorem Rel_mk {A : zA} {len : Nat} {T B : zB} {un : Nat} {U : Nat → zB} {K : Nat → Bool} {I : Nat → zB} {G Gm : zMem} {tr : Int64} (o : RO A len T B un U K I) (x : RX A len T B un U K I G) (m : RM A len T B un U K I Gm) : Rel G tr Gm tr := ⟨A, len, T, B, un, U, K, I, o, x, m, rfl⟩
theorem zneI {n k : Nat} (h : n ≠ k) (hn : n < 2 ^ 31) (hk : k < 2 ^ 31) : ¬ nI n = nI k := fun z => h ((nI_eq hn hk).mp z)
theorem zin_lit {α : Type} (k n : Nat) {x : Option α} {i : Int32} (e : i = nI k) (h : k < n) (hn : n < 2 ^ 31) : zin i n x = x := by rw [e]; exact zin_ok h hn
section ops1
variable {G Gm : zMem} {tr trm : Int64}
theorem op_type (h : Rel G tr Gm trm) (N : Nat) (a : Int32) : zStp (fX4_type N a G tr) (fX5_type N a Gm trm) := by
  obtain ⟨A, len, T, B, un, U, K, I, o, x, m, rfl⟩ := h
  have m0 := RM_thrown m
  have x10 := x.2.2.1.1
  have ho : len ≤ 200 := o.2.1
  unfold fX4_type fX5_type
  rw [fw_within, fm_in, zbp_ok, zbp_ok, zb_if, zb_if]
  rcases zrngC a 255 (by omega) with ⟨k, hk, rfl, h1, h2⟩ | hno
  · have hr : (0 : Int32) ≤ nI k ∧ nI k ≤ 255 := ⟨h1, h2⟩
    rw [if_pos hr, if_pos hr]
    generalize up2 Gm 0 0 0 = G0 at m0 ⊢
    have m03 := m0.2.1.1
    rw [x10, m03]
    by_cases hl : len < 200
    · have c1 : nI len < (200 : Int32) := nI_lt (b := 200) hl (by omega)
      rw [if_pos c1, if_neg (show ¬ nI len = 200 from zneI (k := 200) (by omega) (by omega) (by omega))]
      unfold fX3_add
      rw [x10, if_pos c1, zin_ok (by omega) (by omega), zin_ok (by omega) (by omega), nI_clamp (by omega), zbd_ok]
      simp only [up2_ne _ _ _ (show (1 : Nat) ≠ 2 by omega), up2_ne _ _ _ (show (0 : Nat) ≠ 1 by omega), up2_get, x10, m03, nI_1]
      refine ⟨_, _, _, _, _, rfl, rfl, Rel_mk (len := len + 1) (T := upN T len k) ⟨o.1, by omega, fun i hi => ?_, o.2.2.2⟩ (RX_text o x (fun c h1 h2 => by rw [up2_ne _ _ _ h1, up2_ne _ _ _ h2]) up2_get (fun i hi => ?_)) (RM_text m0 (fun c h0 h1 _ => by rw [up2_ne _ _ _ h0, up2_ne _ _ _ h1]) (by rw [up2_oth (by omega), up2_ne _ _ _ (by omega)]) up2_get (fun i hi => ?_))⟩
      · unfold upN
        by_cases hi2 : i = len
        · rw [if_pos hi2]; exact hk
        · rw [if_neg hi2]; exact o.2.2.1 i (by omega)
      · unfold upN
        by_cases hi2 : i = len
        · rw [if_pos hi2, hi2, up2_ne _ _ _ (by omega), up2_get]
        · rw [if_neg hi2, up2_ne _ _ _ (by omega), up2_oth hi2]; exact x.2.2.1.2 i (by omega)
      · unfold upN
        by_cases hi2 : i = len
        · rw [if_pos hi2, hi2, up2_ne _ _ _ (by omega), up2_get]
        · rw [if_neg hi2, up2_ne _ _ _ (by omega), up2_oth hi2]; exact m0.2.1.2 i (by omega)
    · have hl2 : len = 200 := by omega
      subst hl2
      rw [if_neg (by decide), if_pos (by rfl)]
      exact ⟨_, _, _, _, _, rfl, rfl, Rel_mk o x m0⟩
  · have hr : ¬ ((0 : Int32) ≤ a ∧ a ≤ 255) := hno
    rw [if_neg hr, if_neg hr]
    exact ⟨_, _, _, _, _, rfl, rfl, Rel_mk o x m0⟩
theorem op_clear (h : Rel G tr Gm trm) (N : Nat) : zStp (fX4_clear N G tr) (fX5_clear N Gm trm) := by
  obtain ⟨A, len, T, B, un, U, K, I, o, x, m, rfl⟩ := h
  have m0 := RM_thrown m
  unfold fX4_clear fX5_clear
  generalize up2 Gm 0 0 0 = G0 at m0 ⊢
  rw [x.2.2.1.1, m0.2.1.1]
  exact ⟨_, _, _, _, _, rfl, rfl, Rel_mk (len := 0) (T := T) ⟨o.1, by omega, fun i hi => by omega, o.2.2.2⟩ (RX_text o x (fun c h1 h2 => up2_ne _ _ _ h1) up2_get (fun i hi => by omega)) (RM_text m0 (fun c h0 h1 _ => up2_ne _ _ _ h0) (up2_oth (by omega)) up2_get (fun i hi => by omega))⟩
theorem op_isle (h : Rel G tr Gm trm) (N : Nat) (a b : Int32) : zStp (fX4_isle N a b G tr) (fX5_isle N a b Gm trm) := by
  obtain ⟨A, len, T, B, un, U, K, I, o, x, m, rfl⟩ := h
  have m0 := RM_thrown m
  have hi6 := o.1.2.2.2.2.1
  have hn2 := o.2.2.2.1.2.2.1
  have hp := pow_le64 hi6
  unfold fX4_isle fX5_isle
  generalize up2 Gm 0 0 0 = G0 at m0 ⊢
  rw [fw_isIsle x, fm_isIsle m0, zbd_ok, zbd_ok, zb_if, zb_if, fw_within, fm_in, zbp_ok, zbp_ok, zb_if, zb_if]
  rcases zrng a (n := A 0 2) (by omega) with ⟨i, hi, rfl, h1⟩ | hno
  · rw [if_pos h1, if_pos h1]
    by_cases hb : 0 ≤ b ∧ b ≤ 1
    · rw [if_pos hb, if_pos hb]
      by_cases h0 : b = 0
      · rw [if_pos h0, if_pos h0, zch_ok (RX_ch x).1, zin_ok (by omega) (by omega), zin_ok (by omega) (by omega), nI_clamp (by omega), x.2.1.2.2.2.2.2.1 i hi, m0.1.2.1 i hi]
        exact ⟨_, _, _, _, _, rfl, rfl, Rel_mk o x m0⟩
      · have e := m0.2.2.1 2 (by omega)
        rw [Nat.zero_add] at e
        rw [if_neg h0, if_neg h0, zin_lit 2 45 (i := 2) rfl (by omega) (by omega), fX4_bitOf, zbp_ok, x.2.2.2.1.2.2.1, show Int32.toNatClampNeg 2 = 2 from rfl, e]
        exact ⟨_, _, _, _, _, rfl, rfl, Rel_mk o x m0⟩
    · rw [if_neg hb, if_neg hb]
      exact ⟨_, _, _, _, _, rfl, rfl, Rel_mk o x m0⟩
  · rw [if_neg hno, if_neg hno]
    exact ⟨_, _, _, _, _, rfl, rfl, Rel_mk o x m0⟩
theorem fw_cells {A : zA} (hA : okA A) {t : Nat} (h0 : G t 0 = nI (A 0 0)) (h1 : G t 1 = nI (A 0 1)) (N : Nat) : fX0_cells N t G tr = some (nI (A 0 0 * A 0 1), G, tr) := by
  have ha := area hA
  unfold fX0_cells
  rw [h0, h1, pk_mul, show (30 : Int32) = nI 30 from rfl, if_neg (nI_nlt (by omega) (by omega))]
theorem op_cell (h : Rel G tr Gm trm) {N : Nat} (hN : 1000 < N) (a : Int32) : zStp (fX4_cell N a G tr) (fX5_cell N a Gm trm) := by
  obtain ⟨A, len, T, B, un, U, K, I, o, x, m, rfl⟩ := h
  have m0 := RM_thrown m
  have ha := area o.1
  unfold fX4_cell fX5_cell
  generalize up2 Gm 0 0 0 = G0 at m0 ⊢
  have e0 := m0.1.1 0 (by omega)
  have e1 := m0.1.1 1 (by omega)
  rw [zch_ok (RX_ch x).1, fw_cells o.1 x.2.1.1 x.2.1.2.1, zbd_ok, fw_within, zbp_ok, zb_if, zin_lit 0 12 (i := 0) rfl (by omega) (by omega), zin_lit 1 12 (i := 1) rfl (by omega) (by omega), tnc0, tnc1, e0, e1, pk_mul, fm_in, zbp_ok, zb_if]
  rcases zrng a (n := A 0 0 * A 0 1) (by omega) with ⟨c, hc, rfl, h1⟩ | hno
  · rw [if_pos h1, if_pos h1, zch_ok (RX_ch x).1, zin_ok (by omega) (by omega), nI_clamp (by omega), x.2.1.2.2.2.2.2.2.1 c (by omega), fm_isHill o.1 m0.1 (by omega) _ (by omega), zbd_ok, zb_if]
    unfold holdV
    by_cases hh : hillS A c = true
    · rw [if_pos hh, if_pos hh]
      exact ⟨_, _, _, _, _, rfl, rfl, Rel_mk o x m0⟩
    · rw [if_neg hh, if_neg hh, fm_isleAt o.1 m0.1 (by omega) _ (by omega), zbd_ok]
      exact ⟨_, _, _, _, _, rfl, rfl, Rel_mk o x m0⟩
  · rw [if_neg hno, if_neg hno]
    exact ⟨_, _, _, _, _, rfl, rfl, Rel_mk o x m0⟩
theorem op_wind (h : Rel G tr Gm trm) (N : Nat) (a : Int32) : zStp (fX4_wind N a G tr) (fX5_wind N a Gm trm) := by
  obtain ⟨A, len, T, B, un, U, K, I, o, x, m, rfl⟩ := h
  have m0 := RM_thrown m
  unfold fX4_wind fX5_wind
  generalize up2 Gm 0 0 0 = G0 at m0 ⊢
  have e := m0.2.2.1 0 (by omega)
  rw [Nat.zero_add] at e
  rw [fw_within, fm_in, zbp_ok, zbp_ok, zb_if, zb_if]
  by_cases hr : 0 ≤ a ∧ a ≤ 400
  · rw [if_pos hr, if_pos hr, zin_lit 0 45 (i := 0) rfl (by omega) (by omega), tnc0, e, x.2.2.2.1.1, fw_windS o.1 x.2.2.2.1, fm_windS o.1 m0.1 m0.2.2.1, zbd_ok, zbd_ok]
    exact ⟨_, _, _, _, _, rfl, rfl, Rel_mk o x m0⟩
  · rw [if_neg hr, if_neg hr]
    exact ⟨_, _, _, _, _, rfl, rfl, Rel_mk o x m0⟩
theorem op_letter (h : Rel G tr Gm trm) (N : Nat) (a b : Int32) : zStp (fX4_letter N a b G tr) (fX5_letter N a b Gm trm) := by
  obtain ⟨A, len, T, B, un, U, K, I, o, x, m, rfl⟩ := h
  have m0 := RM_thrown m
  have hl5 := o.2.2.2.1.2.1
  unfold fX4_letter fX5_letter
  generalize up2 Gm 0 0 0 = G0 at m0 ⊢
  rw [fw_isLetter x, fm_isLetter m0, zbd_ok, zbd_ok, zb_if, zb_if, fm_in, zbp_ok, zb_if]
  rcases zrng a (n := B 1) (by omega) with ⟨l, hl, rfl, h1⟩ | hno
  · rw [if_pos h1, if_pos h1, zin_ok (by omega) (by omega), nI_clamp (by omega)]
    have hv : ∀ j, j < 6 → G (21 + l) j = nI (letB B l j) := fun j hj => (x.2.2.2.1.2.2.2.2.2 l hl).1 j hj
    have hm : ∀ j, j < 6 → (zin (15 + 6 * nI l + nI j) 45 (some (G0 6 (Int32.toNatClampNeg (15 + 6 * nI l + nI j)), G0, tr)) : zR) = some (nI (letB B l j), G0, tr) := by
      intro j hj
      rw [show (15 : Int32) = nI 15 from rfl, show (6 : Int32) = nI 6 from rfl, pk_mul, nI_add, nI_add, zin_ok (by omega) (by omega), nI_clamp (by omega)]
      have := m0.2.2.1 (15 + 6 * l + j) (by omega)
      rw [Nat.zero_add] at this
      rw [this]; rfl
    rcases zrngC b 5 (by omega) with ⟨j, hj, rfl, h2⟩ | hb
    · rw [if_pos (show (0 : Int32) ≤ nI j ∧ nI j ≤ 5 from h2), hm j (by omega)]
      refine ⟨nI (letB B l j), G, tr, G0, tr, ?_, rfl, Rel_mk o x m0⟩
      rcases (show j = 0 ∨ j = 1 ∨ j = 2 ∨ j = 3 ∨ j = 4 ∨ j = 5 by omega) with rfl | rfl | rfl | rfl | rfl | rfl
      · rw [if_pos (by rfl), hv 0 (by omega)]
      · rw [if_neg (by decide), if_pos (by rfl), hv 1 (by omega)]
      · rw [if_neg (by decide), if_neg (by decide), if_pos (by rfl), hv 2 (by omega)]
      · rw [if_neg (by decide), if_neg (by decide), if_neg (by decide), if_pos (by rfl), hv 3 (by omega)]
      · rw [if_neg (by decide), if_neg (by decide), if_neg (by decide), if_neg (by decide), if_pos (by rfl), hv 4 (by omega)]
      · rw [if_neg (by decide), if_neg (by decide), if_neg (by decide), if_neg (by decide), if_neg (by decide), if_pos (by rfl), hv 5 (by omega)]
    · rw [if_neg (show ¬ ((0 : Int32) ≤ b ∧ b ≤ 5) from hb)]
      have nb : ∀ v : Int32, (0 ≤ v ∧ v ≤ nI 5) → ¬ b = v := fun v hv e => hb (e ▸ hv)
      rw [if_neg (nb 0 (by decide)), if_neg (nb 1 (by decide)), if_neg (nb 2 (by decide)), if_neg (nb 3 (by decide)), if_neg (nb 4 (by decide)), if_neg (nb 5 (by decide))]
      exact ⟨_, _, _, _, _, rfl, rfl, Rel_mk o x m0⟩
  · rw [if_neg hno, if_neg hno]
    exact ⟨_, _, _, _, _, rfl, rfl, Rel_mk o x m0⟩
/-- who is UP, as bits -/
def upS (B : zB) : Nat → Nat
  | 0 => 0
  | n + 1 => if B (15 + 6 * n + 5) = 0 then upS B n ||| 2 ^ n else upS B n
theorem upS_lt {B : zB} : ∀ n, upS B n < 2 ^ n
  | 0 => by simp [upS]
  | n + 1 => by
    have h := upS_lt (B := B) n
    have h2 : upS B n < 2 ^ (n + 1) := by rw [Nat.pow_succ]; omega
    rw [upS]
    split
    · exact Nat.or_lt_two_pow h2 (by rw [Nat.pow_succ]; have := Nat.two_pow_pos n; omega)
    · exact h2
theorem upS_64 {B : zB} {n : Nat} (h : n ≤ 5) : upS B n < 64 := Nat.lt_of_lt_of_le (upS_lt n) (Nat.le_trans (Nat.pow_le_pow_right (by omega) h) (by decide))
theorem fw_up {A : zA} {B : zB} (hl : B 1 ≤ 5) (hL : ∀ l, l < B 1 → okL A (letB B l)) {M : Nat} (x : mX A G M B) (N : Nat) : ∀ (d i n : Nat), i + d = B 1 → d < n → fX2_lettersUp_L4 N M n (nI (upS B i)) (nI i) G tr = some (nI (upS B (B 1)), G, tr) := by
  intro d
  induction d with
  | zero =>
    intro i n hi hn
    obtain ⟨n, rfl⟩ : ∃ k, n = k + 1 := ⟨n - 1, by omega⟩
    rw [fX2_lettersUp_L4, fX2_lettersUp_b4, x.2.1, if_pos (nI_le (by omega) (by omega)), show i = B 1 by omega]
  | succ d ih =>
    intro i n hi hn
    obtain ⟨n, rfl⟩ : ∃ k, n = k + 1 := ⟨n - 1, by omega⟩
    have hih := ih (i + 1) n (by omega) (by omega)
    have hh := (hL i (by omega)).2.2.2.2.2.2
    have hv : letB B i 5 = B (15 + 6 * i + 5) := rfl
    rw [fX2_lettersUp_L4, fX2_lettersUp_b4, x.2.1, if_neg (nI_ge (by omega) (by omega)), show (5 : Int32) = nI 5 from rfl, if_neg (nI_ge (by omega) (by omega)), zin_ok (by omega) (by omega), nI_clamp (by omega), (x.2.2.2.2.2 i (by omega)).1 5 (by omega)]
    rw [upS] at hih
    by_cases h5 : letB B i 5 = 0
    · rw [h5, if_pos (show nI 0 = 0 from rfl), fX2_lettersUp_b35, nI_1, bit_or _ (upS_64 (by omega)) _ (by omega)]
      rw [← hv, if_pos h5] at hih
      exact hih
    · rw [if_neg (nI_ne0 (by omega) (by omega)), fX2_lettersUp_b35, nI_1]
      rw [← hv, if_neg h5] at hih
      exact hih
theorem or0 : ∀ n, n < 64 → nI n ||| 0 = nI n := by decide +kernel
theorem fm_up {A : zA} {B : zB} (hl : B 1 ≤ 5) (hL : ∀ l, l < B 1 → okL A (letB B l)) (m : mM G 6 0 B) (N : Nat) (a : Int32) : ∀ (d i n : Nat), i + d = B 1 → d < n → ∃ k, fX5_now_L20 N a n (nI (upS B i)) (nI i) G tr = fX5_now_b20 N a k (nI (upS B (B 1))) (nI (B 1)) G tr := by
  intro d
  induction d with
  | zero =>
    intro i n hi hn
    obtain ⟨n, rfl⟩ : ∃ k, n = k + 1 := ⟨n - 1, by omega⟩
    exact ⟨_, by rw [fX5_now_L20, show i = B 1 by omega]⟩
  | succ d ih =>
    intro i n hi hn
    obtain ⟨n, rfl⟩ : ∃ k, n = k + 1 := ⟨n - 1, by omega⟩
    obtain ⟨k, hih⟩ := ih (i + 1) n (by omega) (by omega)
    refine ⟨k, ?_⟩
    have hh := (hL i (by omega)).2.2.2.2.2.2
    have hv : letB B i 5 = B (15 + 6 * i + 5) := rfl
    have e1 := m 1 (by omega)
    have e5 := m (15 + 6 * i + 5) (by omega)
    rw [Nat.zero_add] at e1 e5
    rw [fX5_now_L20, fX5_now_b20, zin_lit 1 45 (i := 1) rfl (by omega) (by omega), tnc1, e1, if_neg (nI_ge (by omega) (by omega)), show (15 : Int32) = nI 15 from rfl, show (6 : Int32) = nI 6 from rfl, show (5 : Int32) = nI 5 from rfl, pk_mul, nI_add, nI_add, zin_ok (by omega) (by omega), nI_clamp (by omega), e5]
    rw [upS] at hih
    by_cases h5 : B (15 + 6 * i + 5) = 0
    · rw [h5, if_pos (show nI 0 = 0 from rfl), fX5_now_b55, nI_1, bit_or _ (upS_64 (by omega)) _ (by omega)]
      rw [if_pos h5] at hih
      exact hih
    · rw [if_neg (nI_ne0 (by omega) (by omega)), fX5_now_b55, nI_1, or0 _ (upS_64 (by omega))]
      rw [if_neg h5] at hih
      exact hih
theorem op_now (h : Rel G tr Gm trm) {N : Nat} (hN : 1000 < N) (a : Int32) : zStp (fX4_now N a G tr) (fX5_now N a Gm trm) := by
  obtain ⟨A, len, T, B, un, U, K, I, o, x, m, rfl⟩ := h
  have m0 := RM_thrown m
  have hl5 := o.2.2.2.1.2.1
  unfold fX4_now fX5_now
  generalize up2 Gm 0 0 0 = G0 at m0 ⊢
  obtain ⟨k, hu⟩ := fm_up (tr := tr) hl5 o.2.2.2.1.2.2.2.2 m0.2.2.1 N a (B 1) 0 N (by omega) (by omega)
  have e0 := m0.2.2.1 0 (by omega)
  have e1 := m0.2.2.1 1 (by omega)
  have e2 := m0.2.2.1 2 (by omega)
  rw [Nat.zero_add] at e0 e1 e2
  rw [fm_in, zbp_ok, zb_if]
  have hu' : fX5_now_L20 N a N 0 0 G0 tr = fX5_now_b20 N a k (nI (upS B (B 1))) (nI (B 1)) G0 tr := hu
  rw [hu', fX5_now_b20, zin_lit 1 45 (i := 1) rfl (by omega) (by omega), tnc1, e1, if_pos (nI_le (by omega) (by omega))]
  rcases zrngC a 4 (by omega) with ⟨j, hj, rfl, h2⟩ | hb
  · rw [if_pos (show (0 : Int32) ≤ nI j ∧ nI j ≤ 4 from h2)]
    rcases (show j = 0 ∨ j = 1 ∨ j = 2 ∨ j = 3 ∨ j = 4 by omega) with rfl | rfl | rfl | rfl | rfl
    · rw [if_pos (by rfl), if_neg (by decide), zin_ok (by omega) (by omega), nI_clamp (by omega), e0, x.2.2.2.1.1]
      exact ⟨_, _, _, _, _, rfl, rfl, Rel_mk o x m0⟩
    · rw [if_neg (by decide), if_pos (by rfl), if_neg (by decide), zin_ok (by omega) (by omega), nI_clamp (by omega), e1, x.2.2.2.1.2.1]
      exact ⟨_, _, _, _, _, rfl, rfl, Rel_mk o x m0⟩
    · have hx := fw_up (tr := tr) hl5 o.2.2.2.1.2.2.2.2 x.2.2.2.1 N (B 1) 0 N (by omega) (by omega)
      have hx' : fX2_lettersUp N 18 G tr = some (nI (upS B (B 1)), G, tr) := hx
      rw [if_neg (by decide), if_neg (by decide), if_pos (by rfl), hx', zbd_ok, if_pos (by decide), if_pos (by rfl)]
      exact ⟨_, _, _, _, _, rfl, rfl, Rel_mk o x m0⟩
    · rw [if_neg (by decide), if_neg (by decide), if_neg (by decide), if_pos (by rfl), if_pos (by decide), if_neg (by decide), if_pos (by rfl), zin_lit 2 45 (i := 2) rfl (by omega) (by omega), show Int32.toNatClampNeg 2 = 2 from rfl, e2, x.2.2.2.1.2.2.1]
      exact ⟨_, _, _, _, _, rfl, rfl, Rel_mk o x m0⟩
    · rw [if_neg (by decide), if_neg (by decide), if_neg (by decide), if_neg (by decide), if_pos (by rfl), if_pos (by decide), if_neg (by decide), if_neg (by decide), x.2.2.2.2.1.1, m0.2.2.2.1.1]
      exact ⟨_, _, _, _, _, rfl, rfl, Rel_mk o x m0⟩
  · rw [if_neg (show ¬ ((0 : Int32) ≤ a ∧ a ≤ 4) from hb)]
    have nb : ∀ v : Int32, (0 ≤ v ∧ v ≤ nI 4) → ¬ a = v := fun v hv e => hb (e ▸ hv)
    rw [if_neg (nb 0 (by decide)), if_neg (nb 1 (by decide)), if_neg (nb 2 (by decide)), if_neg (nb 3 (by decide)), if_neg (nb 4 (by decide))]
    exact ⟨_, _, _, _, _, rfl, rfl, Rel_mk o x m0⟩
end ops1
