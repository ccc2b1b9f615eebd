/-! ===== comes, knee, drift, tangled ===== -/
section ops3
variable {A : zA} {B : zB} {G Gm : zMem} {tr trm : Int64}
theorem fw_takes (hB : okB A B) (x : cX A B G) {N t l : Nat} (ht : t = 13 ∨ t = 14) (hl : l < B 1) : ∃ G', fX1_copyFrom N t (21 + l) G tr = some (0, G', tr) ∧ repL A G' t (letB B l) ∧ ∀ c, c ≠ t → G' c = G c := by
  obtain ⟨G1, q1, k1, v1⟩ := fw_copyL (G := G) (tr := tr) (N := N) (t := t) (a := 21 + l) (by omega)
  have r0 := x.2.2.2.2.2.2.2 l hl
  exact ⟨G1, q1, ⟨fun j hj => by rw [v1 j (by omega)]; exact r0.1 j hj, by rw [v1 6 (by omega)]; exact r0.2⟩, k1⟩
theorem op_comes (h : Rel G tr Gm trm) {N : Nat} (hN : 1000 < N) (a : Int32) : zStp (fX4_comes N a G tr) (fX5_comes N a Gm trm) := by
  obtain ⟨A, len, T, B, un, U, K, I, o, x, m, rfl⟩ := h
  have m0 := RM_thrown m
  have ob := o.2.2.2.1
  have hl5 := ob.2.1
  have h9 := ob.1
  have hn2 := ob.2.2.1
  have hp := pow_le64 o.1.2.2.2.2.1
  unfold fX4_comes fX5_comes
  generalize up2 Gm 0 0 0 = G0 at m0 ⊢
  rw [fw_isLetter x, fm_isLetter m0, zbd_ok, zbd_ok, zb_if, zb_if]
  rcases zrng a (n := B 1) (by omega) with ⟨l, hl, rfl, h1⟩ | hno
  · rw [if_pos h1, if_pos h1]
    obtain ⟨G1, q1, r1, k1⟩ := fw_takes (tr := tr) (N := N) ob (cX_of x) (t := 13) (l := l) (Or.inl rfl) hl
    have x1 := cX_keep ob.2.1 (cX_of x) (fun c h1 _ => k1 c h1)
    obtain ⟨G2, q2, k2, -⟩ := fw_arrival (tr := tr) o.1 ob hN (τ := B 0) (q := B 2) (by omega) (by omega) (ob.2.2.2.2 l hl) x1 r1
    obtain ⟨M1, f1, s1, w1⟩ := fm_takes (tr := tr) (N := N) (by omega) (r := 10) (l := l) (Or.inl rfl) (by omega) (cM_of m0).2
    have y1 := cM_keep (cM_of m0) (fun c hc => w1 c (by omega))
    obtain ⟨M2, f2, w2, -⟩ := fm_comesIn (tr := tr) o.1 ob hN (κ := 0) (q := B 2) (by omega) (by omega) (ob.2.2.2.2 l hl) y1 s1
    have e2 := y1.2 2 (by omega)
    rw [Nat.zero_add] at e2
    have f2' : fX5_comesIn N 0 (nI (B 2)) M1 tr = some (isV (arrS A (B 2) (wvS A B (B 0)) (letB B l)), M2, tr) := f2
    rw [zin_ok (by omega) (by omega), nI_clamp (by omega), q1, zbd_ok, x1.2.2.1, x1.2.2.2.2.1, q2, f1, zbd_ok, zbd_ok, zin_lit 2 45 (i := 2) rfl (by omega) (by omega), show Int32.toNatClampNeg 2 = 2 from rfl, e2, f2', zbd_ok]
    exact ⟨_, _, _, _, _, rfl, rfl, Rel_mk o (RX_probe o x (fun c hc => by rw [k2 c hc, k1 c hc])) (RM_trial m0 (fun c hc => by rw [w2 c (by omega), w1 c (by omega)]))⟩
  · rw [if_neg hno, if_neg hno]
    exact ⟨_, _, _, _, _, rfl, rfl, Rel_mk o x m0⟩
theorem knee_loop (hA : okA A) (hB : okB A B) (x : cX A B G) (y : cM A B Gm) (N : Nat) (k : Int32) {h : Nat} (hh : h < 100) : ∀ (d i n n' : Nat) (c : Int32), i + d = h → d < n → d < n' →
    ∃ r, fX4_knee_L27 N k (nI h) n c (nI i) G tr = some (r, G, tr) ∧ fX5_knee_L32 N k (nI h) n' c (nI i) Gm trm = some (r, Gm, trm) := by
  intro d
  induction d with
  | zero =>
    intro i n n' c hi hn hn'
    obtain ⟨n, rfl⟩ : ∃ k, n = k + 1 := ⟨n - 1, by omega⟩
    obtain ⟨n', rfl⟩ : ∃ k, n' = k + 1 := ⟨n' - 1, by omega⟩
    refine ⟨c, ?_, ?_⟩
    · rw [fX4_knee_L27, fX4_knee_b27, if_pos (nI_le (by omega) (by omega))]
    · rw [fX5_knee_L32, fX5_knee_b32, if_pos (nI_le (by omega) (by omega))]
  | succ d ih =>
    intro i n n' c hi hn hn'
    obtain ⟨n, rfl⟩ : ∃ k, n = k + 1 := ⟨n - 1, by omega⟩
    obtain ⟨n', rfl⟩ : ∃ k, n' = k + 1 := ⟨n' - 1, by omega⟩
    have e0 := y.2 0 (by omega)
    rw [Nat.zero_add] at e0
    rw [fX4_knee_L27, fX4_knee_b27, if_neg (nI_ge (by omega) (by omega)), x.2.2.1, fw_windS hA x.2.2, zbd_ok, fw_windS hA x.2.2, zbd_ok]
    rw [fX5_knee_L32, fX5_knee_b32, if_neg (nI_ge (by omega) (by omega)), zin_lit 0 45 (i := 0) rfl (by omega) (by omega), tnc0, e0, fm_windS hA y.1 y.2, zbd_ok, zin_lit 0 45 (i := 0) rfl (by omega) (by omega), e0, fm_windS hA y.1 y.2, zbd_ok]
    by_cases hc : nI (windS A B (nI (B 0) + nI i).toInt) = nI (windS A B (nI (B 0) + nI i - k).toInt)
    · rw [if_pos hc, if_pos hc]
      obtain ⟨r, e1, e2⟩ := ih (i + 1) n n' (c + 1) (by omega) (by omega) (by omega)
      refine ⟨r, ?_, ?_⟩
      · rw [fX4_knee_b71, nI_1, e1]
      · rw [fX5_knee_b75, nI_1, e2]
    · rw [if_neg hc, if_neg hc]
      obtain ⟨r, e1, e2⟩ := ih (i + 1) n n' c (by omega) (by omega) (by omega)
      refine ⟨r, ?_, ?_⟩
      · rw [fX4_knee_b71, nI_1, e1]
      · rw [fX5_knee_b75, nI_1, Int32.add_zero, e2]
theorem op_knee (h : Rel G tr Gm trm) {N : Nat} (hN : 1000 < N) (a b : Int32) : zStp (fX4_knee N a b G tr) (fX5_knee N a b Gm trm) := by
  obtain ⟨A, len, T, B, un, U, K, I, o, x, m, rfl⟩ := h
  have m0 := RM_thrown m
  unfold fX4_knee fX5_knee
  generalize up2 Gm 0 0 0 = G0 at m0 ⊢
  rw [fw_within, fm_in, zbp_ok, zbp_ok, zb_if, zb_if]
  by_cases h1 : (1 : Int32) ≤ a ∧ a ≤ 12
  · rw [if_pos h1, if_pos h1, fw_within, fm_in, zbp_ok, zbp_ok, zb_if, zb_if]
    rcases zrngD b 1 12 (by omega) (by omega) with ⟨n, hn, hn2, rfl, h2⟩ | hb
    · have hr : (1 : Int32) ≤ nI n ∧ nI n ≤ 12 := h2
      rw [if_pos hr, if_pos hr]
      obtain ⟨r, e1, e2⟩ := knee_loop (tr := tr) (trm := tr) o.1 o.2.2.2.1 (cX_of x) (cM_of m0) N a (h := n) (by omega) n 0 N N 0 (by omega) (by omega) (by omega)
      exact ⟨_, _, _, _, _, e1, e2, Rel_mk o x m0⟩
    · have hr : ¬ ((1 : Int32) ≤ b ∧ b ≤ 12) := hb
      rw [if_neg hr, if_neg hr]
      exact ⟨_, _, _, _, _, rfl, rfl, Rel_mk o x m0⟩
  · rw [if_neg h1, if_neg h1]
    exact ⟨_, _, _, _, _, rfl, rfl, Rel_mk o x m0⟩
theorem drift_loop (hA : okA A) (hB : okB A B) (x : cX A B G) (y : cM A B Gm) (N : Nat) {a b p q P : Int32} (hz : b = 0 ∧ p = 1 ∧ q = 3 ∨ ¬ b = 0 ∧ p = 2 ∧ q = 0) (hP : (if (0 : Int32) < nI (A 0 5) - a then nI (A 0 5) - a else 0) = P) : ∀ (d i n n' : Nat) (c : Int32), i + d = A 0 4 → d < n → d < n' →
    fX4_drift_L46 N a b n p q c (nI i) G tr = some ((fX5_drift_L55 N a b n' P (c * P) (nI i) Gm trm).elim 0 (·.1), G, tr) ∧ ∃ r, fX5_drift_L55 N a b n' P (c * P) (nI i) Gm trm = some (r, Gm, trm) := by
  have ht := hA.2.2.2.2.2.2.1
  intro d
  induction d with
  | zero =>
    intro i n n' c hi hn hn'
    obtain ⟨n, rfl⟩ : ∃ k, n = k + 1 := ⟨n - 1, by omega⟩
    obtain ⟨n', rfl⟩ : ∃ k, n' = k + 1 := ⟨n' - 1, by omega⟩
    have e4 := y.1.1 4 (by omega)
    rw [fX5_drift_L55, fX5_drift_b55, zin_lit 4 12 (i := 4) rfl (by omega) (by omega), show Int32.toNatClampNeg 4 = 4 from rfl, e4, if_pos (nI_le (by omega) (by omega))]
    refine ⟨?_, _, rfl⟩
    rw [fX4_drift_L46, fX4_drift_b46, x.2.2.2.2.2.1, if_pos (nI_le (by omega) (by omega)), zch_ok x.2.1, x.1.2.2.1, hP]
    rfl
  | succ d ih =>
    intro i n n' c hi hn hn'
    obtain ⟨n, rfl⟩ : ∃ k, n = k + 1 := ⟨n - 1, by omega⟩
    obtain ⟨n', rfl⟩ : ∃ k, n' = k + 1 := ⟨n' - 1, by omega⟩
    have e4 := y.1.1 4 (by omega)
    have ei := y.2 (3 + i) (by omega)
    rw [Nat.zero_add] at ei
    have eg := x.2.2.2.2.2.2.1 i (by omega)
    have eg' : G 19 i = nI (B (3 + i)) := eg
    have pos : ((c + 1) * P) = c * P + P := by rw [Int32.add_mul, Int32.one_mul]
    have neg : ((c + -1) * P) = c * P + -P := by rw [Int32.add_mul, Int32.neg_mul, Int32.one_mul]
    rw [fX5_drift_L55, fX5_drift_b55, zin_lit 4 12 (i := 4) rfl (by omega) (by omega), show Int32.toNatClampNeg 4 = 4 from rfl, e4, if_neg (nI_ge (by omega) (by omega)), show (3 : Int32) = nI 3 from rfl, nI_add, zin_ok (by omega) (by omega), nI_clamp (by omega), ei]
    rw [fX4_drift_L46, fX4_drift_b46, x.2.2.2.2.2.1, if_neg (nI_ge (by omega) (by omega)), zin_ok (by omega) (by omega), nI_clamp (by omega), eg']
    generalize nI (B (3 + i)) = W at *
    have fin : ∀ c', fX4_drift_b93 N a b (fX4_drift_L46 N a b n) p q c' (nI i) G tr = some ((fX5_drift_L55 N a b n' P (c' * P) (nI (i + 1)) Gm trm).elim 0 (·.1), G, tr) ∧ ∃ r, fX5_drift_L55 N a b n' P (c' * P) (nI (i + 1)) Gm trm = some (r, Gm, trm) := fun c' => by
      rw [fX4_drift_b93, nI_1]
      exact ih (i + 1) n n' c' (by omega) (by omega) (by omega)
    have hpq : p ≠ q := by
      rcases hz with ⟨-, rfl, rfl⟩ | ⟨-, rfl, rfl⟩ <;> decide
    have fmv : (if b = 0 then fX5_drift_b90 N a b (fX5_drift_L55 N a b n') P (nI i) W 1 W (c * P) Gm trm else fX5_drift_b90 N a b (fX5_drift_L55 N a b n') P (nI i) W 2 W (c * P) Gm trm) = fX5_drift_L55 N a b n' P (c * P + (if W = p then P else if W = q then -P else 0)) (nI (i + 1)) Gm trm := by
      rcases hz with ⟨hb, rfl, rfl⟩ | ⟨hb, rfl, rfl⟩
      · rw [if_pos hb, fX5_drift_b90]
        by_cases h1 : W = 1
        · rw [if_pos h1, if_pos h1, fX5_drift_b117, nI_1]
        · rw [if_neg h1, if_neg h1, if_pos hb, fX5_drift_b108]
          by_cases h3 : W = 3
          · rw [if_pos h3, if_pos h3, fX5_drift_b117, nI_1]
          · rw [if_neg h3, if_neg h3, fX5_drift_b117, nI_1]
      · rw [if_neg hb, fX5_drift_b90]
        by_cases h1 : W = 2
        · rw [if_pos h1, if_pos h1, fX5_drift_b117, nI_1]
        · rw [if_neg h1, if_neg h1, if_neg hb, fX5_drift_b108]
          by_cases h3 : W = 0
          · rw [if_pos h3, if_pos h3, fX5_drift_b117, nI_1]
          · rw [if_neg h3, if_neg h3, fX5_drift_b117, nI_1]
    rw [fmv]
    by_cases h1 : W = p
    · rw [if_pos h1, if_pos h1, fX4_drift_b75, zin_ok (by omega) (by omega), nI_clamp (by omega), eg', if_neg (show ¬ W = q from fun z => hpq (h1.symm.trans z)), ← pos]
      exact fin (c + 1)
    · rw [if_neg h1, if_neg h1, fX4_drift_b75, zin_ok (by omega) (by omega), nI_clamp (by omega), eg']
      by_cases h3 : W = q
      · rw [if_pos h3, if_pos h3, ← neg]
        exact fin (c + -1)
      · rw [if_neg h3, if_neg h3, Int32.add_zero]
        exact fin c
theorem drift_both (hA : okA A) (hB : okB A B) (x : cX A B G) (y : cM A B Gm) {N : Nat} (hN : 1000 < N) {a b p q P : Int32} (hz : b = 0 ∧ p = 1 ∧ q = 3 ∨ ¬ b = 0 ∧ p = 2 ∧ q = 0) (hP : (if (0 : Int32) < nI (A 0 5) - a then nI (A 0 5) - a else 0) = P) :
    ∃ r, fX4_drift_L46 N a b N p q 0 0 G tr = some (r, G, tr) ∧ fX5_drift_L55 N a b N P 0 0 Gm trm = some (r, Gm, trm) := by
  have ht := hA.2.2.2.2.2.2.1
  obtain ⟨e1, r, e2⟩ := drift_loop (tr := tr) (trm := trm) hA hB x y N hz hP (A 0 4) 0 N N 0 (by omega) (by omega) (by omega)
  rw [e2] at e1
  rw [Int32.zero_mul] at e2
  exact ⟨r, e1, e2⟩
theorem drift_P : ∀ f, f < 7 → ∀ w, w < 6 → (if (0 : Int32) < nI f - nI w then nI f - nI w else 0) = if nI f ≤ nI w then 0 else nI f - nI w := by decide +kernel
theorem op_drift (h : Rel G tr Gm trm) {N : Nat} (hN : 1000 < N) (a b : Int32) : zStp (fX4_drift N a b G tr) (fX5_drift N a b Gm trm) := by
  obtain ⟨A, len, T, B, un, U, K, I, o, x, m, rfl⟩ := h
  have m0 := RM_thrown m
  have f5 := o.1.2.2.2.2.2.2.2.2.1
  unfold fX4_drift fX5_drift fX4_isWeight
  generalize up2 Gm 0 0 0 = G0 at m0 ⊢
  have g5 := (cM_of m0).1.1 5 (by omega)
  rw [fw_within, fm_in, zbp_ok, zbp_ok, zbo_if, zbp_ok, zb_if, zb_if]
  rcases zrngD a 1 5 (by omega) (by omega) with ⟨w, hw, hw2, rfl, h1⟩ | ha
  · have hr : (1 : Int32) ≤ nI w ∧ nI w ≤ 5 := h1
    rw [if_pos hr, if_pos hr, fw_within, fm_in, zbp_ok, zbp_ok, zb_if, zb_if]
    rcases zrngC b 1 (by omega) with ⟨n, hn, rfl, h2⟩ | hb
    · have hr : (0 : Int32) ≤ nI n ∧ nI n ≤ 1 := h2
      have hP := drift_P (A 0 5) (by omega) w (by omega)
      have fin : ∀ p q, (nI n = 0 ∧ p = 1 ∧ q = 3 ∨ ¬ nI n = 0 ∧ p = 2 ∧ q = 0) → zStp (fX4_drift_L46 N (nI w) (nI n) N p q 0 0 G tr) (if nI (A 0 5) ≤ nI w then fX5_drift_b48 N (nI w) (nI n) 0 G0 tr else fX5_drift_b48 N (nI w) (nI n) (nI (A 0 5) - nI w) G0 tr) := fun p q hz => by
        obtain ⟨r, e1, e2⟩ := drift_both (tr := tr) (trm := tr) o.1 o.2.2.2.1 (cX_of x) (cM_of m0) hN hz hP
        have e3 : (if nI (A 0 5) ≤ nI w then fX5_drift_b48 N (nI w) (nI n) 0 G0 tr else fX5_drift_b48 N (nI w) (nI n) (nI (A 0 5) - nI w) G0 tr) = some (r, G0, tr) := by
          rw [← e2]
          by_cases hc : nI (A 0 5) ≤ nI w
          · rw [if_pos hc, if_pos hc, fX5_drift_b48]
          · rw [if_neg hc, if_neg hc, fX5_drift_b48]
        exact ⟨_, _, _, _, _, e1, e3, Rel_mk o x m0⟩
      rw [if_pos hr, if_pos hr, zin_lit 5 12 (i := 5) rfl (by omega) (by omega), show Int32.toNatClampNeg 5 = 5 from rfl, g5, zin_lit 5 12 (i := 5) rfl (by omega) (by omega)]
      by_cases hz : nI n = 0
      · rw [if_pos hz, fX4_drift_b28, if_pos hz, fX4_drift_b38]
        exact fin 1 3 (Or.inl ⟨hz, rfl, rfl⟩)
      · rw [if_neg hz, fX4_drift_b28, if_neg hz, fX4_drift_b38]
        exact fin 2 0 (Or.inr ⟨hz, rfl, rfl⟩)
    · have hr : ¬ ((0 : Int32) ≤ b ∧ b ≤ 1) := hb
      rw [if_neg hr, if_neg hr]
      exact ⟨_, _, _, _, _, rfl, rfl, Rel_mk o x m0⟩
  · have hr : ¬ ((1 : Int32) ≤ a ∧ a ≤ 5) := ha
    rw [if_neg hr, if_neg hr]
    exact ⟨_, _, _, _, _, rfl, rfl, Rel_mk o x m0⟩
/-! two letters on one cell -/
theorem fm_tang_step (hA : okA A) (hB : okB A B) {N : Nat} (hN : 100 < N) {L L' : zB} (hL : okL A L) (hL' : okL A L') {i : Nat} (hi : i < 1000) (y : cM A B Gm) (r : repR Gm 10 0 L) (r' : repR Gm 11 0 L') (a b : Int32) (k : Int32 → zMem → Int64 → zR) :
    ∃ G', fX5_tangled_b90 N a b k (nI i) Gm tr = k (nI (i + 1)) G' tr ∧ repR G' 10 0 (stepL A (B 2) (wvS A B (B 0) i) L) ∧ repR G' 11 0 (stepL A (B 2) (wvS A B (B 0) i) L') ∧ ∀ c, c ≠ 10 → c ≠ 11 → G' c = Gm c := by
  have hn2 := hB.2.2.1
  have h9 := hB.1
  have hp := pow_le64 hA.2.2.2.2.1
  obtain ⟨G1, q1, l1, w1⟩ := fm_blows hA y.1 hN tr (r := 10) (a := 0) (Or.inr (Or.inl rfl)) (by decide) hL r (v := wvS A B (B 0) i) (nets := B 2) (wvS_le hA hB _ i) (by omega)
  have y1 := cM_keep y (fun c hc => w1.1 c (by omega))
  have r1' : repR G1 11 0 L' := fun j hj => by rw [w1.1 11 (by omega)]; exact r' j hj
  obtain ⟨G2, q2, l2, w2⟩ := fm_blows hA y1.1 hN tr (r := 11) (a := 0) (Or.inr (Or.inr rfl)) (by decide) hL' r1' (v := wvS A B (B 0) i) (nets := B 2) (wvS_le hA hB _ i) (by omega)
  have q1' : fX5_blows N 10 0 (nI (windS A B ((B 0 + i : Nat) : Int))) (nI (B 2)) Gm tr = some (0, G1, tr) := q1
  have q2' : fX5_blows N 11 0 (nI (windS A B ((B 0 + i : Nat) : Int))) (nI (B 2)) G1 tr = some (0, G2, tr) := q2
  have e0 := y.2 0 (by omega)
  have e2 := y.2 2 (by omega)
  have d0 := y1.2 0 (by omega)
  have d2 := y1.2 2 (by omega)
  rw [Nat.zero_add] at e0 e2 d0 d2
  refine ⟨G2, ?_, fun j hj => by rw [w2.1 10 (by omega)]; exact l1 j hj, l2, fun c h1 h2 => by rw [w2.1 c h2, w1.1 c h1]⟩
  rw [fX5_tangled_b90, zin_lit 0 45 (i := 0) rfl (by omega) (by omega), tnc0, e0, nI_add, fm_windS hA y.1 y.2, zbd_ok, zin_lit 2 45 (i := 2) rfl (by omega) (by omega), show Int32.toNatClampNeg 2 = 2 from rfl, e2, nI_toInt (by omega), q1', zbd_ok, zin_lit 0 45 (i := 0) rfl (by omega) (by omega), d0, nI_add, fm_windS hA y1.1 y1.2, zbd_ok, zin_lit 2 45 (i := 2) rfl (by omega) (by omega), d2, nI_toInt (by omega), q2', zbd_ok, nI_1]
theorem fm_tang_none (hA : okA A) (hB : okB A B) {N : Nat} (hN : 100 < N) {L L' : zB} (hL : okL A L) (hL' : okL A L') (a b : Int32) : ∀ (d i n : Nat) (Gm : zMem), i + d = 401 → d < n → cM A B Gm → repR Gm 10 0 (runL A (B 2) (wvS A B (B 0)) L i) → repR Gm 11 0 (runL A (B 2) (wvS A B (B 0)) L' i) → (runL A (B 2) (wvS A B (B 0)) L i 5 ≠ 0 ∨ runL A (B 2) (wvS A B (B 0)) L' i 5 ≠ 0) →
    ∃ G', fX5_tangled_L48 N a b n (nI i) Gm tr = some (-9, G', tr) ∧ ∀ c, c ≠ 10 → c ≠ 11 → G' c = Gm c := by
  intro d
  induction d with
  | zero =>
    intro i n Gm hi hn y r r' hne
    obtain ⟨n, rfl⟩ : ∃ k, n = k + 1 := ⟨n - 1, by omega⟩
    refine ⟨Gm, ?_, fun _ _ _ => rfl⟩
    rw [fX5_tangled_L48, fX5_tangled_b48, show (400 : Int32) = nI 400 from rfl, if_pos (nI_lt (by omega) (by omega))]
  | succ d ih =>
    intro i n Gm hi hn y r r' hne
    obtain ⟨n, rfl⟩ : ∃ k, n = k + 1 := ⟨n - 1, by omega⟩
    have hk := okL_run hA hL (nets := B 2) (wv := wvS A B (B 0)) i
    have hk' := okL_run hA hL' (nets := B 2) (wv := wvS A B (B 0)) i
    obtain ⟨G1, q1, l1, l1', w1⟩ := fm_tang_step (tr := tr) hA hB hN hk hk' (i := i) (by omega) y r r' a b (fX5_tangled_L48 N a b n)
    obtain ⟨G2, q2, w2⟩ := ih (i + 1) n G1 (by omega) (by omega) (cM_keep y (fun c hc => w1 c (by omega) (by omega))) l1 l1' (by
      rcases hne with h | h
      · exact Or.inl (by rw [run_stay h 1]; exact h)
      · exact Or.inr (by rw [run_stay h 1]; exact h))
    refine ⟨G2, ?_, fun c h1 h2 => by rw [w2 c h1 h2, w1 c h1 h2]⟩
    have r5 := r 5 (by omega)
    have r5' := r' 5 (by omega)
    rw [Nat.zero_add] at r5 r5'
    have k5 := hk.2.2.2.2.2.2
    have k5' := hk'.2.2.2.2.2.2
    rw [fX5_tangled_L48, fX5_tangled_b48, show (400 : Int32) = nI 400 from rfl, if_neg (nI_nlt (by omega) (by omega)), zin_lit 5 6 (i := 5) rfl (by omega) (by omega), show Int32.toNatClampNeg 5 = 5 from rfl, r5]
    by_cases h0 : runL A (B 2) (wvS A B (B 0)) L i 5 = 0
    · have h0' : runL A (B 2) (wvS A B (B 0)) L' i 5 ≠ 0 := by
        rcases hne with h | h
        · exact absurd h0 h
        · exact h
      rw [h0, if_pos (show nI 0 = 0 from rfl), zin_lit 5 6 (i := 5) rfl (by omega) (by omega), r5', if_neg (nI_ne0 (by omega) (by omega)), q1, q2]
    · rw [if_neg (nI_ne0 (by omega) (by omega)), q1, q2]
theorem tang_loop (hA : okA A) (hB : okB A B) {N : Nat} (hN : 1000 < N) {L L' : zB} (hL : okL A L) (hL' : okL A L') (a b : Int32) : ∀ (d i n n' : Nat) (G Gm : zMem), i + d = 401 → d < n → d < n' → cX A B G → repL A G 13 (runL A (B 2) (wvS A B (B 0)) L i) → repL A G 14 (runL A (B 2) (wvS A B (B 0)) L' i) → cM A B Gm → repR Gm 10 0 (runL A (B 2) (wvS A B (B 0)) L i) → repR Gm 11 0 (runL A (B 2) (wvS A B (B 0)) L' i) →
    ∃ v G' Gm', fX4_tangled_L57 N a b n (nI i) G tr = some (v, G', tr) ∧ (∀ c, c ≠ 13 → c ≠ 14 → G' c = G c) ∧ fX5_tangled_L48 N a b n' (nI i) Gm trm = some (v, Gm', trm) ∧ ∀ c, c ≠ 10 → c ≠ 11 → Gm' c = Gm c := by
  have h9 := hB.1
  intro d
  induction d with
  | zero =>
    intro i n n' G Gm hi hn hn' x s s' y r r'
    obtain ⟨n, rfl⟩ : ∃ k, n = k + 1 := ⟨n - 1, by omega⟩
    obtain ⟨n', rfl⟩ : ∃ k, n' = k + 1 := ⟨n' - 1, by omega⟩
    refine ⟨-9, G, Gm, ?_, fun _ _ _ => rfl, ?_, fun _ _ _ => rfl⟩
    · rw [fX4_tangled_L57, fX4_tangled_b57, show (400 : Int32) = nI 400 from rfl, if_pos (nI_lt (by omega) (by omega))]
    · rw [fX5_tangled_L48, fX5_tangled_b48, show (400 : Int32) = nI 400 from rfl, if_pos (nI_lt (by omega) (by omega))]
  | succ d ih =>
    intro i n n' G Gm hi hn hn' x s s' y r r'
    have hk := okL_run hA hL (nets := B 2) (wv := wvS A B (B 0)) i
    have hk' := okL_run hA hL' (nets := B 2) (wv := wvS A B (B 0)) i
    have k5 := hk.2.2.2.2.2.2
    have k5' := hk'.2.2.2.2.2.2
    have k3 := hk.2.2.2.2.1
    have k3' := hk'.2.2.2.2.1
    have ha := area hA
    have none : (runL A (B 2) (wvS A B (B 0)) L i 5 ≠ 0 ∨ runL A (B 2) (wvS A B (B 0)) L' i 5 ≠ 0) → fX4_tangled_L57 N a b n (nI i) G tr = some (-9, G, tr) → ∃ v G' Gm', fX4_tangled_L57 N a b n (nI i) G tr = some (v, G', tr) ∧ (∀ c, c ≠ 13 → c ≠ 14 → G' c = G c) ∧ fX5_tangled_L48 N a b n' (nI i) Gm trm = some (v, Gm', trm) ∧ ∀ c, c ≠ 10 → c ≠ 11 → Gm' c = Gm c := fun h e => by
      obtain ⟨G2, q2, w2⟩ := fm_tang_none (tr := trm) (N := N) hA hB (by omega) hL hL' a b (d + 1) i n' Gm hi hn' y r r' h
      exact ⟨-9, G, G2, e, fun _ _ _ => rfl, q2, w2⟩
    obtain ⟨n, rfl⟩ : ∃ k, n = k + 1 := ⟨n - 1, by omega⟩
    by_cases h0 : runL A (B 2) (wvS A B (B 0)) L i 5 = 0
    · by_cases h0' : runL A (B 2) (wvS A B (B 0)) L' i 5 = 0
      · obtain ⟨n', rfl⟩ : ∃ k, n' = k + 1 := ⟨n' - 1, by omega⟩
        have r5 := r 5 (by omega)
        have r5' := r' 5 (by omega)
        have r3 := r 3 (by omega)
        have r3' := r' 3 (by omega)
        rw [Nat.zero_add] at r5 r5' r3 r3'
        rw [fX4_tangled_L57, fX4_tangled_b57, show (400 : Int32) = nI 400 from rfl, if_neg (nI_nlt (by omega) (by omega)), s.1 5 (by omega), s'.1 5 (by omega), h0, h0', if_pos (show nI 0 = 0 from rfl), if_pos (show nI 0 = 0 from rfl), s.1 3 (by omega), s'.1 3 (by omega)]
        rw [fX5_tangled_L48, fX5_tangled_b48, show (400 : Int32) = nI 400 from rfl, if_neg (nI_nlt (by omega) (by omega)), zin_lit 5 6 (i := 5) rfl (by omega) (by omega), show Int32.toNatClampNeg 5 = 5 from rfl, r5, h0, if_pos (show nI 0 = 0 from rfl), zin_lit 5 6 (i := 5) rfl (by omega) (by omega), r5', h0', if_pos (show nI 0 = 0 from rfl), zin_lit 3 6 (i := 3) rfl (by omega) (by omega), zin_lit 3 6 (i := 3) rfl (by omega) (by omega), show Int32.toNatClampNeg 3 = 3 from rfl, r3, r3']
        by_cases h3 : nI (runL A (B 2) (wvS A B (B 0)) L i 3) = nI (runL A (B 2) (wvS A B (B 0)) L' i 3)
        · rw [if_pos h3, if_pos h3]
          exact ⟨_, _, _, rfl, fun _ _ _ => rfl, rfl, fun _ _ _ => rfl⟩
        · rw [if_neg h3, if_neg h3]
          obtain ⟨M1, f1, l1, l1', w1⟩ := fm_tang_step (tr := trm) (N := N) hA hB (by omega) hk hk' (i := i) (by omega) y r r' a b (fX5_tangled_L48 N a b n')
          obtain ⟨G1, q1, s1, v1⟩ := fw_passHours (tr := tr) hA hB (N := N) (t := 13) (τ := B 0 + i) (h := 1) (by omega) (Or.inl rfl) (by omega) (by omega) hk x s
          have x1 := cX_keep hB.2.1 x (fun c h1 _ => v1 c h1)
          have s1' : repL A G1 14 (runL A (B 2) (wvS A B (B 0)) L' i) := repL_keep s' (v1 14 (by omega))
          obtain ⟨G2, q2, s2, v2⟩ := fw_passHours (tr := tr) hA hB (N := N) (t := 14) (τ := B 0 + i) (h := 1) (by omega) (Or.inr rfl) (by omega) (by omega) hk' x1 s1'
          have x2 := cX_keep hB.2.1 x1 (fun c _ h1 => v2 c h1)
          obtain ⟨v, G3, M3, e1, e2, e3, e4⟩ := ih (i + 1) n n' G2 M1 (by omega) (by omega) (by omega) x2 (repL_keep s1 (v2 13 (by omega))) s2 (cM_keep y (fun c hc => w1 c (by omega) (by omega))) l1 l1'
          refine ⟨v, G3, M3, ?_, fun c h1 h2 => by rw [e2 c h1 h2, v2 c h2, v1 c h1], by rw [f1, e3], fun c h1 h2 => by rw [e4 c h1 h2, w1 c h1 h2]⟩
          have q1' : fX4_passHours N 13 (nI (B 0 + i)) 1 G tr = some (0, G1, tr) := q1
          have q2' : fX4_passHours N 14 (nI (B 0 + i)) 1 G1 tr = some (0, G2, tr) := q2
          rw [x.2.2.1, nI_add, q1', zbd_ok, x1.2.2.1, nI_add, q2', zbd_ok, nI_1, e1]
      · refine none (Or.inr h0') ?_
        rw [fX4_tangled_L57, fX4_tangled_b57, show (400 : Int32) = nI 400 from rfl, if_neg (nI_nlt (by omega) (by omega)), s.1 5 (by omega), s'.1 5 (by omega), h0, if_pos (show nI 0 = 0 from rfl), if_neg (nI_ne0 (by omega) (by omega))]
    · refine none (Or.inl h0) ?_
      rw [fX4_tangled_L57, fX4_tangled_b57, show (400 : Int32) = nI 400 from rfl, if_neg (nI_nlt (by omega) (by omega)), s.1 5 (by omega), if_neg (nI_ne0 (by omega) (by omega))]
theorem RX_two {len : Nat} {T : zB} {un : Nat} {U : Nat → zB} {K : Nat → Bool} {I : Nat → zB} (o : RO A len T B un U K I) (x : RX A len T B un U K I G) {G' : zMem} (k : ∀ c, c ≠ 13 → c ≠ 14 → G' c = G c) : RX A len T B un U K I G' := RX_keep o x k
theorem op_tangled (h : Rel G tr Gm trm) {N : Nat} (hN : 1000 < N) (a b : Int32) : zStp (fX4_tangled N a b G tr) (fX5_tangled N a b Gm trm) := by
  obtain ⟨A, len, T, B, un, U, K, I, o, x, m, rfl⟩ := h
  have m0 := RM_thrown m
  have ob := o.2.2.2.1
  have hl5 := ob.2.1
  unfold fX4_tangled fX5_tangled
  generalize up2 Gm 0 0 0 = G0 at m0 ⊢
  rw [fw_isLetter x, fm_isLetter m0, zbd_ok, zbd_ok, zb_if, zb_if]
  rcases zrng a (n := B 1) (by omega) with ⟨l, hl, rfl, h1⟩ | hno
  · rw [if_pos h1, if_pos h1, fw_isLetter x, fm_isLetter m0, zbd_ok, zbd_ok, zb_if, zb_if]
    rcases zrng b (n := B 1) (by omega) with ⟨l', hl', rfl, h2⟩ | hno
    · rw [if_pos h2, if_pos h2]
      by_cases he : nI l = nI l'
      · rw [if_pos he, if_pos he]
        exact ⟨_, _, _, _, _, rfl, rfl, Rel_mk o x m0⟩
      · obtain ⟨G1, q1, r1, k1⟩ := fw_takes (tr := tr) (N := N) ob (cX_of x) (t := 13) (l := l) (Or.inl rfl) hl
        have x1 := cX_keep ob.2.1 (cX_of x) (fun c h1 _ => k1 c h1)
        obtain ⟨G2, q2, r2, k2⟩ := fw_takes (tr := tr) (N := N) ob x1 (t := 14) (l := l') (Or.inr rfl) hl'
        have x2 := cX_keep ob.2.1 x1 (fun c _ h1 => k2 c h1)
        obtain ⟨M1, f1, s1, w1⟩ := fm_takes (tr := tr) (N := N) (by omega) (r := 10) (l := l) (Or.inl rfl) (by omega) (cM_of m0).2
        have y1 := cM_keep (cM_of m0) (fun c hc => w1 c (by omega))
        obtain ⟨M2, f2, s2, w2⟩ := fm_takes (tr := tr) (N := N) (by omega) (r := 11) (l := l') (Or.inr rfl) (by omega) y1.2
        have y2 := cM_keep y1 (fun c hc => w2 c (by omega))
        obtain ⟨v, G3, M3, e1, e2, e3, e4⟩ := tang_loop (tr := tr) (trm := tr) o.1 ob hN (ob.2.2.2.2 l hl) (ob.2.2.2.2 l' hl') (nI l) (nI l') 401 0 N N G2 M2 (by omega) (by omega) (by omega) x2 (repL_keep r1 (k2 13 (by omega))) r2 y2 (fun j hj => by rw [w2 10 (by omega)]; exact s1 j hj) s2
        have e1' : fX4_tangled_L57 N (nI l) (nI l') N 0 G2 tr = some (v, G3, tr) := e1
        have e3' : fX5_tangled_L48 N (nI l) (nI l') N 0 M2 tr = some (v, M3, tr) := e3
        rw [if_neg he, if_neg he, zin_ok (by omega) (by omega), nI_clamp (by omega), q1, zbd_ok, zin_ok (by omega) (by omega), nI_clamp (by omega), q2, zbd_ok, e1', f1, zbd_ok, f2, zbd_ok, e3']
        exact ⟨_, _, _, _, _, rfl, rfl, Rel_mk o (RX_two o x (fun c h1 h2 => by rw [e2 c h1 h2, k2 c h2, k1 c h1])) (RM_trial m0 (fun c hc => by rw [e4 c (by omega) (by omega), w2 c (by omega), w1 c (by omega)]))⟩
    · rw [if_neg hno, if_neg hno]
      exact ⟨_, _, _, _, _, rfl, rfl, Rel_mk o x m0⟩
  · rw [if_neg hno, if_neg hno]
    exact ⟨_, _, _, _, _, rfl, rfl, Rel_mk o x m0⟩
end ops3
