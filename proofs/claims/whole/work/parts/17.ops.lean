/-! ===== an hour, undone, images, counts ===== -/
/-- the letters below i are blown -/
def stepB (A : zA) (B : zB) (v i : Nat) : zB := fun k => if 15 ≤ k ∧ k < 15 + 6 * i then stepL A (B 2) v (letB B ((k - 15) / 6)) ((k - 15) % 6) else B k
def hourB (A : zA) (B : zB) : zB := upN (stepB A B (windS A B (B 0)) (B 1)) 0 (B 0 + 1)
def cntA (A : zA) (B : zB) (v : Nat) : Nat → Nat
  | 0 => 0
  | i + 1 => cntA A B v i + (if B (15 + 6 * i + 5) = 0 ∧ stepL A (B 2) v (letB B i) 5 = 1 then 1 else 0)
theorem cntA_le {A : zA} {B : zB} {v : Nat} : ∀ i, cntA A B v i ≤ i
  | 0 => by simp [cntA]
  | i + 1 => by rw [cntA]; have := cntA_le (A := A) (B := B) (v := v) i; split <;> omega
theorem stepB_lo {A : zA} {B : zB} {v i k : Nat} (h : k < 15) : stepB A B v i k = B k := by unfold stepB; rw [if_neg (by omega)]
theorem stepB_old {A : zA} {B : zB} {v i l : Nat} (h : i ≤ l) : ∀ j, j < 6 → letB (stepB A B v i) l j = letB B l j := by
  intro j hj
  unfold letB stepB
  rw [if_neg (by omega)]
theorem stepB_new {A : zA} {B : zB} {v i l : Nat} (h : l < i) : ∀ j, j < 6 → letB (stepB A B v i) l j = stepL A (B 2) v (letB B l) j := by
  intro j hj
  show (if _ then _ else _) = _
  rw [if_pos (by omega), show (15 + 6 * l + j - 15) / 6 = l by omega, show (15 + 6 * l + j - 15) % 6 = j by omega]
theorem okB_step {A : zA} (hA : okA A) {B : zB} (o : okB A B) {v i : Nat} : okB A (stepB A B v i) := by
  have ht := hA.2.2.2.2.2.2.1
  refine ⟨by rw [stepB_lo (by omega)]; exact o.1, by rw [stepB_lo (by omega)]; exact o.2.1, by rw [stepB_lo (by omega)]; exact o.2.2.1, fun k hk => by rw [stepB_lo (by omega)]; exact o.2.2.2.1 k hk, fun l hl => ?_⟩
  rw [stepB_lo (by omega)] at hl
  by_cases h : l < i
  · exact okL_eq (stepB_new h) (okL_step hA (o.2.2.2.2 l hl))
  · exact okL_eq (stepB_old (by omega)) (o.2.2.2.2 l hl)
section ops3
variable {tr : Int64}
theorem fw_hour_loop {A : zA} (hA : okA A) {B : zB} (o : okB A B) {v : Nat} (hv : v ≤ 4) (N : Nat) : ∀ (d i n : Nat) (G : zMem), i + d = B 1 → d < n → gX A G (G 0 1).toNatClampNeg → (G 0 1 = 3 ∨ G 0 1 = 8) → mX A G 18 (stepB A B v i) →
    ∃ G', fX4_hour_L39 N n (nI v) (nI (cntA A B v i)) (nI i) G tr = some (nI (cntA A B v (B 1)), up2 G' 18 0 (nI (B 0 + 1)), tr) ∧ (∀ c, (c < 21 ∨ 26 ≤ c) → G' c = G c) ∧ mX A G' 18 (stepB A B v (B 1)) := by
  intro d
  induction d with
  | zero =>
    intro i n G hi hn g hc x
    obtain ⟨n, rfl⟩ : ∃ k, n = k + 1 := ⟨n - 1, by omega⟩
    have e : i = B 1 := by omega
    subst e
    refine ⟨G, ?_, fun _ _ => rfl, x⟩
    have x0 := x.1
    have x1 := x.2.1
    rw [stepB_lo (by omega)] at x0 x1
    have hl5 := o.2.1
    rw [fX4_hour_L39, fX4_hour_b39, x1, if_pos (nI_le (by omega) (by omega)), x0, nI_1]
  | succ d ih =>
    intro i n G hi hn g hc x
    obtain ⟨n, rfl⟩ : ∃ k, n = k + 1 := ⟨n - 1, by omega⟩
    have hl5 := o.2.1
    have x1 := x.2.1
    have x2 := x.2.2.1
    rw [stepB_lo (by omega)] at x1 x2
    have hn2 := o.2.2.1
    have hp := pow_le64 hA.2.2.2.2.1
    have hLi := o.2.2.2.2 i (by omega)
    have ri : repL A G (21 + i) (letB B i) := repL_eq (fun j hj => (stepB_old (by omega) j hj).symm) (x.2.2.2.2.2 i (by rw [stepB_lo (by omega)]; omega))
    have hch : isC (G 0 1).toNatClampNeg := by rcases hc with e | e <;> rw [e]; exact Or.inl rfl; exact Or.inr rfl
    have hcl : isL (21 + i) := Or.inr (Or.inr ⟨by omega, by omega, by omega⟩)
    obtain ⟨G1, q1, l1, k1⟩ := fw_passHour hA g hch hcl N tr hLi ri (v := v) (nets := B 2) hv (by omega)
    have e01 : G1 0 1 = G 0 1 := by rw [k1 0 (by omega)]
    have g1 : gX A G1 (G1 0 1).toNatClampNeg := by
      rw [e01]
      refine gX_keep g (fun c h1 h2 => k1 c ?_)
      rcases hch with e | e <;> omega
    have y1 : mX A G1 18 (stepB A B v (i + 1)) := by
      obtain ⟨z0, z1, z2, z3, z4, z5⟩ := x
      have ht := hA.2.2.2.2.2.2.1
      refine ⟨by rw [k1 18 (by omega), z0, stepB_lo (by omega), stepB_lo (by omega)], by rw [k1 18 (by omega), z1, stepB_lo (by omega), stepB_lo (by omega)], by rw [k1 18 (by omega), z2, stepB_lo (by omega), stepB_lo (by omega)], by rw [k1 18 (by omega), z3], fun k hk => by rw [k1 19 (by omega), z4 k hk, stepB_lo (by omega), stepB_lo (by omega)], fun l hl => ?_⟩
      rw [stepB_lo (by omega)] at hl
      by_cases hli : l = i
      · subst hli
        exact repL_eq (stepB_new (by omega)) l1
      · have zl := z5 l (by rw [stepB_lo (by omega)]; exact hl)
        refine repL_eq (fun j hj => ?_) (repL_keep zl (k1 _ (by omega)))
        by_cases hlt : l < i
        · rw [stepB_new (by omega) j hj, stepB_new hlt j hj]
        · rw [stepB_old (by omega) j hj, stepB_old (by omega) j hj]
    obtain ⟨G2, q2, k2, y2⟩ := ih (i + 1) n G1 (by omega) (by omega) g1 (by rw [e01]; exact hc) y1
    refine ⟨G2, ?_, fun c hc' => by rw [k2 c hc', k1 c (by omega)], y2⟩
    have hcn := cntA_le (A := A) (B := B) (v := v) i
    have hB5 : B (15 + 6 * i + 5) = letB B i 5 := rfl
    rw [cntA] at q2
    rw [fX4_hour_L39, fX4_hour_b39, x1, if_neg (nI_ge (by omega) (by omega)), zin_ok (by omega) (by omega), nI_clamp (by omega), ri.1 5 (by omega)]
    have hup := hLi.2.2.2.2.2.2
    have tail : ∀ s0 : Int32, fX4_hour_b74 N (fX4_hour_L39 N n) (nI v) (nI (cntA A B v i)) (nI i) (21 + i) s0 G tr = fX4_hour_L39 N n (nI v) (nI (cntA A B v i + (if ¬ s0 = 0 ∧ stepL A (B 2) v (letB B i) 5 = 1 then 1 else 0))) (nI (i + 1)) G1 tr := by
      intro s0
      have hst := (okL_step hA (nets := B 2) (v := v) hLi).2.2.2.2.2.2
      rw [fX4_hour_b74, zch_ok hc, x2, q1, zbd_ok]
      by_cases hs : s0 = 0
      · rw [if_pos hs, fX4_hour_b110, nI_1, if_neg (fun z => z.1 hs)]; rfl
      · rw [if_neg hs, l1.1 5 (by omega)]
        by_cases h1 : stepL A (B 2) v (letB B i) 5 = 1
        · rw [h1, if_pos (show nI 1 = 1 from rfl), fX4_hour_b110, nI_1, nI_1, if_pos ⟨hs, rfl⟩]
        · rw [if_neg (show ¬ nI _ = 1 from zneI (k := 1) h1 (by omega) (by omega)), fX4_hour_b110, nI_1, if_neg (fun z => h1 z.2)]; rfl
    by_cases h5 : letB B i 5 = 0
    · rw [h5, if_pos (show nI 0 = 0 from rfl), tail 1]
      rw [hB5, h5] at q2
      by_cases h1 : stepL A (B 2) v (letB B i) 5 = 1
      · rw [if_pos ⟨by decide, h1⟩]
        rw [if_pos ⟨rfl, h1⟩] at q2
        exact q2
      · rw [if_neg (fun z => h1 z.2)]
        rw [if_neg (fun z => h1 z.2)] at q2
        exact q2
    · rw [if_neg (nI_ne0 (by omega) (by omega)), tail 0]
      rw [hB5, if_neg (fun z => h5 z.1)] at q2
      rw [if_neg (fun z => z.1 rfl)]
      exact q2
theorem fm_hour_loop {A : zA} (hA : okA A) {B : zB} (o : okB A B) {v : Nat} (hv : v ≤ 4) {N : Nat} (hN : 1000 < N) : ∀ (d i n : Nat) (G : zMem), i + d = B 1 → d < n → gM A G → mM G 6 0 (stepB A B v i) →
    ∃ G', fX5_hour_L39 N n (nI (cntA A B v i)) (nI v) (nI i) G tr = some (nI (cntA A B v (B 1)), up2 G' 6 0 (nI (B 0 + 1)), tr) ∧ (∀ c, c ≠ 6 → G' c = G c) ∧ mM G' 6 0 (stepB A B v (B 1)) := by
  intro d
  induction d with
  | zero =>
    intro i n G hi hn g m
    obtain ⟨n, rfl⟩ : ∃ k, n = k + 1 := ⟨n - 1, by omega⟩
    have e : i = B 1 := by omega
    subst e
    refine ⟨G, ?_, fun _ _ => rfl, m⟩
    have m0 := m 0 (by omega)
    have m1 := m 1 (by omega)
    rw [Nat.zero_add, stepB_lo (by omega)] at m0 m1
    have hl5 := o.2.1
    rw [fX5_hour_L39, fX5_hour_b39, zin_lit 1 45 (i := 1) rfl (by omega) (by omega), tnc1, m1, if_pos (nI_le (by omega) (by omega)), zin_lit 0 45 (i := 0) rfl (by omega) (by omega), zin_lit 0 45 (i := 0) rfl (by omega) (by omega), tnc0, m0, nI_1]
  | succ d ih =>
    intro i n G hi hn g m
    obtain ⟨n, rfl⟩ : ∃ k, n = k + 1 := ⟨n - 1, by omega⟩
    have hl5 := o.2.1
    have m1 := m 1 (by omega)
    have m2 := m 2 (by omega)
    rw [Nat.zero_add, stepB_lo (by omega)] at m1 m2
    have hn2 := o.2.2.1
    have hp := pow_le64 hA.2.2.2.2.1
    have hLi := o.2.2.2.2 i (by omega)
    have ri : repR G 6 (15 + 6 * i) (letB B i) := by
      intro j hj
      have := m (15 + 6 * i + j) (by omega)
      rw [Nat.zero_add] at this
      rw [this]
      exact congrArg nI (stepB_old (A := A) (v := v) (Nat.le_refl i) j hj)
    obtain ⟨G1, q1, l1, w1⟩ := fm_blows hA g (by omega : 100 < N) tr (r := 6) (a := 15 + 6 * i) (Or.inl rfl) (by show 15 + 6 * i + 6 ≤ 45; omega) hLi ri (v := v) (nets := B 2) hv (by omega)
    have y1 : mM G1 6 0 (stepB A B v (i + 1)) := by
      intro k hk
      have z := m k hk
      rw [Nat.zero_add] at z ⊢
      by_cases hin : 15 + 6 * i ≤ k ∧ k < 21 + 6 * i
      · have := l1 (k - (15 + 6 * i)) (by omega)
        rw [show 15 + 6 * i + (k - (15 + 6 * i)) = k by omega] at this
        rw [this, ← stepB_new (A := A) (v := v) (show i < i + 1 by omega) (k - (15 + 6 * i)) (by omega)]
        show nI (stepB A B v (i + 1) (15 + 6 * i + (k - (15 + 6 * i)))) = _
        rw [show 15 + 6 * i + (k - (15 + 6 * i)) = k by omega]
      · rw [w1.2 k (by omega), z]
        unfold stepB
        by_cases hlo : 15 ≤ k ∧ k < 15 + 6 * i
        · rw [if_pos hlo, if_pos (by omega)]
        · rw [if_neg hlo, if_neg (by omega)]
    obtain ⟨G2, q2, k2, y2⟩ := ih (i + 1) n G1 (by omega) (by omega) (gM_off g (Or.inl rfl) w1) y1
    refine ⟨G2, ?_, fun c hc' => by rw [k2 c hc', w1.1 c hc'], y2⟩
    have hB5 : B (15 + 6 * i + 5) = letB B i 5 := rfl
    rw [cntA] at q2
    have hup := hLi.2.2.2.2.2.2
    have hst := (okL_step hA (nets := B 2) (v := v) hLi).2.2.2.2.2.2
    have r5 := ri 5 (by omega)
    have l5 := l1 5 (by omega)
    rw [fX5_hour_L39, fX5_hour_b39, zin_lit 1 45 (i := 1) rfl (by omega) (by omega), tnc1, m1, if_neg (nI_ge (by omega) (by omega)), show (15 : Int32) = nI 15 from rfl, show (6 : Int32) = nI 6 from rfl, show (5 : Int32) = nI 5 from rfl, pk_mul, nI_add, nI_add, zin_ok (by omega) (by omega), zin_lit 2 45 (i := 2) rfl (by omega) (by omega), show Int32.toNatClampNeg 2 = 2 from rfl, m2, q1, zbd_ok, nI_clamp (by omega), r5]
    by_cases h5 : letB B i 5 = 0
    · rw [h5, if_pos (show nI 0 = 0 from rfl), zin_ok (by omega) (by omega), l5]
      rw [hB5, h5] at q2
      by_cases h1 : stepL A (B 2) v (letB B i) 5 = 1
      · rw [h1, if_pos (show nI 1 = 1 from rfl), fX5_hour_b110, nI_1, nI_1]
        rw [if_pos ⟨rfl, h1⟩] at q2
        exact q2
      · rw [if_neg (show ¬ nI _ = 1 from zneI (k := 1) h1 (by omega) (by omega)), fX5_hour_b109, fX5_hour_b110, nI_1, show (0 : Int32) = nI 0 from rfl, nI_add]
        rw [if_neg (fun z => h1 z.2)] at q2
        exact q2
    · rw [if_neg (nI_ne0 (by omega) (by omega)), fX5_hour_b109, fX5_hour_b110, nI_1, show (0 : Int32) = nI 0 from rfl, nI_add]
      rw [hB5, if_neg (fun z => h5 z.1)] at q2
      exact q2
variable {G Gm : zMem} {trm : Int64}
theorem op_hour (h : Rel G tr Gm trm) {N : Nat} (hN : 1000 < N) : zStp (fX4_hour N G tr) (fX5_hour N Gm trm) := by
  obtain ⟨A, len, T, B, un, U, K, I, o, x, m, rfl⟩ := h
  have m0 := RM_thrown m
  have ob := o.2.2.2.1
  have hl5 := ob.2.1
  have ht9 := ob.1
  have e0 := m0.2.2.1 0 (by omega)
  rw [Nat.zero_add] at e0
  unfold fX4_hour fX5_hour
  generalize up2 Gm 0 0 0 = G0 at m0 e0 ⊢
  rw [zin_lit 0 45 (i := 0) rfl (by omega) (by omega), tnc0, e0, x.2.2.2.1.1, show (9999 : Int32) = nI 9999 from rfl]
  by_cases h9 : B 0 < 9999
  · rw [if_pos (nI_lt h9 (by omega)), if_neg (zneI (by omega) (by omega) (by omega))]
    obtain ⟨G1, q1, x1⟩ := fw_remember o x hN tr
    obtain ⟨M1, f1, m1⟩ := fm_notes o m0 hN tr
    have o1 := RO_push o
    have e1 := m1.2.2.1 0 (by omega)
    rw [Nat.zero_add] at e1
    rw [q1, f1, zbd_ok, zbd_ok, zin_lit 0 45 (i := 0) rfl (by omega) (by omega), e1, x1.2.2.2.1.1, fw_windS o.1 x1.2.2.2.1, fm_windS o.1 m1.1 m1.2.2.1, zbd_ok, zbd_ok, nI_toInt (by omega)]
    have hv := windS_le o.1 ob (B 0)
    have s0 : ∀ v, stepB A B v 0 = B := fun v => by funext k; unfold stepB; rw [if_neg (by omega)]
    obtain ⟨G2, q2, k2, y2⟩ := fw_hour_loop (tr := tr) o.1 ob hv N (B 1) 0 N G1 (by omega) (by omega) x1.2.1 (RX_ch x1).1 (by rw [s0]; exact x1.2.2.2.1)
    obtain ⟨M2, f2, k3, y3⟩ := fm_hour_loop (tr := tr) o.1 ob hv hN (B 1) 0 N M1 (by omega) (by omega) m1.1 (by rw [s0]; exact m1.2.2.1)
    have q2' : fX4_hour_L39 N N (nI (windS A B (B 0))) 0 0 G1 tr = some (nI (cntA A B (windS A B (B 0)) (B 1)), up2 G2 18 0 (nI (B 0 + 1)), tr) := q2
    have f2' : fX5_hour_L39 N N 0 (nI (windS A B (B 0))) 0 M1 tr = some (nI (cntA A B (windS A B (B 0)) (B 1)), up2 M2 6 0 (nI (B 0 + 1)), tr) := f2
    rw [q2', f2']
    have os := okB_step o.1 ob (v := windS A B (B 0)) (i := B 1)
    have oh : okB A (hourB A B) := by
      refine ⟨?_, ?_, ?_, fun k hk => ?_, fun l hl => ?_⟩
      · show B 0 + 1 ≤ 9999; omega
      · exact os.2.1
      · exact os.2.2.1
      · unfold hourB upN; rw [if_neg (by omega)]; exact os.2.2.2.1 k hk
      · unfold hourB; rw [letB_up (by omega)]; exact os.2.2.2.2 l hl
    refine ⟨_, _, _, _, _, rfl, rfl, Rel_mk (B := hourB A B) ⟨o1.1, o1.2.1, o1.2.2.1, oh, o1.2.2.2.2⟩ (RX_now o1 x1 (fun c hc _ _ => by rw [up2_ne _ _ _ (by omega), k2 c (by omega)]) ?_) (RM_now m1 (fun c _ h6 _ => by rw [up2_ne _ _ _ h6, k3 c h6]) (by rw [up2_ne _ _ _ (by omega), k3 0 (by omega)]) (by rw [up2_ne _ _ _ (by omega), k3 0 (by omega)]) ?_)⟩
    · obtain ⟨z0, z1, z2, z3, z4, z5⟩ := y2
      refine ⟨up2_get, by rw [up2_oth (by omega)]; exact z1, by rw [up2_oth (by omega)]; exact z2, by rw [up2_oth (by omega)]; exact z3, fun k hk => ?_, fun l hl => ?_⟩
      · unfold hourB upN; rw [up2_ne _ _ _ (by omega), if_neg (by omega)]; exact z4 k hk
      · unfold hourB; rw [letB_up (by omega)]
        exact repL_keep (z5 l hl) (up2_ne _ _ _ (by omega))
    · intro k hk
      rw [Nat.zero_add]
      have z := y3 k hk
      rw [Nat.zero_add] at z
      unfold hourB upN
      by_cases h0 : k = 0
      · rw [if_pos h0, h0, up2_get]
      · rw [if_neg h0, up2_oth h0]; exact z
  · rw [if_neg (nI_nlt (by omega) (by omega)), if_pos (by rw [show B 0 = 9999 by omega])]
    exact ⟨_, _, _, _, _, rfl, rfl, Rel_mk o x m0⟩
/-! undone -/
theorem fm_undo27 {N : Nat} {u : Nat} (hu : u < 10) {B' : zB} : ∀ (d i n : Nat) (G : zMem), i + d = 45 → d < n → G 0 18 = nI u → mM G 9 (45 * u) B' → ∃ G', fX5_undo_L27 N n (nI i) G tr = some (nI u, G', tr) ∧ (∀ c, c ≠ 6 → G' c = G c) ∧ (∀ k, k < i → G' 6 k = G 6 k) ∧ ∀ k, i ≤ k → k < 45 → G' 6 k = nI (B' k) := by
  intro d
  induction d with
  | zero =>
    intro i n G hi hn h18 m
    obtain ⟨n, rfl⟩ : ∃ k, n = k + 1 := ⟨n - 1, by omega⟩
    refine ⟨G, ?_, fun _ _ => rfl, fun _ _ => rfl, fun k h1 h2 => by omega⟩
    rw [fX5_undo_L27, fX5_undo_b27, show (45 : Int32) = nI 45 from rfl, if_pos (nI_le (by omega) (by omega)), h18]
  | succ d ih =>
    intro i n G hi hn h18 m
    obtain ⟨n, rfl⟩ : ∃ k, n = k + 1 := ⟨n - 1, by omega⟩
    obtain ⟨G2, e2, k2, w2, v2⟩ := ih (i + 1) n (up2 G 6 i (nI (B' i))) (by omega) (by omega) (by rw [up2_ne _ _ _ (by omega)]; exact h18) (by unfold mM; rw [up2_ne _ _ _ (by omega)]; exact m)
    refine ⟨G2, ?_, fun c hc => by rw [k2 c hc, up2_ne _ _ _ hc], fun k hk => by rw [w2 k (by omega), up2_oth (by omega)], fun k h1 h2 => ?_⟩
    · rw [fX5_undo_L27, fX5_undo_b27, show (45 : Int32) = nI 45 from rfl, if_neg (nI_ge (by omega) (by omega)), h18, pk_mul, nI_add, zin_ok (by omega) (by omega), zin_ok (by omega) (by omega), nI_clamp (by omega), nI_clamp (by omega), m i (by omega), nI_1, e2]
    · by_cases hl : k = i
      · subst hl; rw [w2 k (by omega), up2_get]
      · exact v2 k (by omega) h2
theorem op_undo (h : Rel G tr Gm trm) {N : Nat} (hN : 1000 < N) : zStp (fX4_undo N G tr) (fX5_undo N Gm trm) := by
  obtain ⟨A, len, T, B, un, U, K, I, o, x, m, rfl⟩ := h
  have m0 := RM_thrown m
  have hu := o.2.2.2.2.1
  have hc := RX_ch x
  unfold fX4_undo fX5_undo
  generalize up2 Gm 0 0 0 = G0 at m0 ⊢
  have s18 := m0.2.2.2.1.1
  have x06 := x.2.2.2.2.1.1
  rw [s18, x06, show (1 : Int32) = nI 1 from rfl]
  by_cases h0 : un = 0
  · subst h0
    rw [if_neg (by decide), if_pos (by rfl)]
    exact ⟨_, _, _, _, _, rfl, rfl, Rel_mk o x m0⟩
  · rw [if_pos (nI_le (by omega) (by omega)), if_neg (nI_ne0 (by omega) (by omega)), pk_sub (by omega)]
    obtain ⟨a1, a2, a3, a4, ⟨a5, pn, a6, a7, a8⟩, a9, a10⟩ := x
    have hpn : ∃ p', p' < 10 ∧ p' = (pn + 9) % 10 ∧ (if G 0 5 ≤ 0 then fX4_undo_b30 N 9 G tr else fX4_undo_b30 N (G 0 5 - nI 1) G tr) = fX4_undo_b30 N (nI p') G tr := by
      rw [a7]
      by_cases hp0 : pn = 0
      · exact ⟨9, by omega, by omega, by rw [hp0, if_pos (by decide)]; rfl⟩
      · exact ⟨pn - 1, by omega, by omega, by rw [if_neg (nI_nle (by omega) (by omega)), pk_sub (by omega)]⟩
    obtain ⟨p', hp1, hp2, hp3⟩ := hpn
    rw [hp3, fX4_undo_b30, up2_get, zin_ok (by omega) (by omega), nI_clamp (by omega)]
    have hUm : mX A (up2 G 0 5 (nI p')) (26 + 8 * p') (U (un - 1)) := by
      have := a8 (un - 1) (by omega)
      rw [show (pn + 10 - un + (un - 1)) % 10 = p' by omega] at this
      exact mX_keep (o.2.2.2.2.2.1 _ (by omega)).2.1 (fun c _ _ => up2_ne _ _ _ (by omega)) this
    have oU := o.2.2.2.2.2.1 (un - 1) (by omega)
    obtain ⟨G1, e1, k1, m1⟩ := fw_copy (N := N) (by omega) tr (t := 18) (a := 26 + 8 * p') (by omega) o.1 oU.2.1 hUm
    obtain ⟨M1, f1, w1, -, v1⟩ := fm_undo27 (tr := tr) (N := N) (u := un - 1) (by omega) (B' := U (un - 1)) 45 0 N (up2 G0 0 18 (nI (un - 1))) (by omega) (by omega) up2_get (by unfold mM; rw [up2_ne _ _ _ (by omega)]; exact m0.2.2.2.1.2 (un - 1) (by omega))
    have f1' : fX5_undo_L27 N N 0 (up2 G0 0 18 (nI (un - 1))) tr = some (nI (un - 1), M1, tr) := f1
    rw [e1, zbd_ok, f1', up2_get, k1 0 (by omega), up2_oth (show (6 : Nat) ≠ 5 by omega), a5, show nI un - 1 = nI (un - 1) from pk_sub (b := 1) (by omega)]
    refine ⟨_, _, _, _, _, rfl, rfl, Rel_mk (un := un - 1) (B := U (un - 1)) ⟨o.1, o.2.1, o.2.2.1, oU, by omega, fun j hj => o.2.2.2.2.2.1 j (by omega), o.2.2.2.2.2.2⟩ ?_ ?_⟩
    · generalize hG2 : up2 G1 0 6 (nI (un - 1)) = G2
      have z0 : ∀ c, c ≠ 0 → G2 c = G1 c := fun c h => by rw [← hG2, up2_ne _ _ _ h]
      have zk : ∀ k, k ≠ 6 → k ≠ 5 → G2 0 k = G 0 k := fun k h6 h5 => by rw [← hG2, up2_oth h6, k1 0 (by omega), up2_oth h5]
      have kk : ∀ c, c ≠ 0 → (c < 18 ∨ 26 ≤ c) → G2 c = G c := fun c h0 h => by rw [z0 c h0, k1 c (by omega), up2_ne _ _ _ h0]
      refine ⟨by rw [zk 1 (by omega) (by omega), zk 2 (by omega) (by omega)]; exact a1, ?_, by rw [kk 1 (by omega) (by omega), kk 2 (by omega) (by omega)]; exact a3, mX_keep oU.2.1 (fun c _ _ => z0 c (by omega)) m1, ⟨by rw [← hG2, up2_get], p', hp1, by rw [← hG2, up2_oth (by omega), k1 0 (by omega), up2_get], fun j hj => ?_⟩, by rw [kk 17 (by omega) (by omega)]; exact a9, fun i hi hK => mX_keep (o.2.2.2.2.2.2 i hi hK).2.1 (fun c _ _ => kk c (by omega) (by omega)) (a10 i hi hK)⟩
      · rw [zk 1 (by omega) (by omega)]
        refine gX_keep a2 (fun c h1 h2 => kk c ?_ ?_) <;> rcases hc.2 with e | e <;> omega
      · have := a8 j (by omega)
        rw [show (p' + 10 - (un - 1) + j) % 10 = (pn + 10 - un + j) % 10 by omega]
        exact mX_keep (o.2.2.2.2.2.1 j (by omega)).2.1 (fun c _ _ => kk c (by omega) (by omega)) this
    · obtain ⟨b1, b2, b3, ⟨b4, b5⟩, b6, b7⟩ := m0
      have ww : ∀ c, c ≠ 6 → c ≠ 0 → M1 c = G0 c := fun c h6 h0 => by rw [w1 c h6, up2_ne _ _ _ h0]
      unfold RM gM
      rw [ww 1 (by omega) (by omega), ww 2 (by omega) (by omega), ww 3 (by omega) (by omega), ww 4 (by omega) (by omega), ww 8 (by omega) (by omega), w1 0 (by omega), up2_oth (show (3 : Nat) ≠ 18 by omega), up2_get]
      refine ⟨b1, b2, fun k hk => by rw [Nat.zero_add]; exact v1 k (by omega) hk, ⟨rfl, fun j hj => ?_⟩, b6, fun i hi hK => ?_⟩
      · unfold mM; rw [ww 9 (by omega) (by omega)]; exact b5 j (by omega)
      · unfold mM; rw [ww 7 (by omega) (by omega)]; exact b7 i hi hK
end ops3
