/-! ===== lightest, words ===== -/
section wrd
variable {A : zA} {B : zB} {G Gm : zMem} {tr trm : Int64}
/-- both loops, weight by weight -/
theorem light_loop (hA : okA A) (hB : okB A B) {N : Nat} (hN : 1000 < N) {f t : Nat} (a : Int32) (hf : f < A 0 2) (ht : t < A 0 2) : ∀ (d i n n' : Nat) (G Gm : zMem), i + d = 6 → 1 ≤ i → d < n → d < n' → cX A B G → cM A B Gm →
    ∃ v G' Gm', fX4_lightest_L24 N (nI f) (nI t) a n (nI i) G tr = some (v, G', tr) ∧ (∀ c, c ≠ 13 → G' c = G c) ∧ fX5_lightest_L29 N (nI f) (nI t) a n' (nI i) Gm trm = some (v, Gm', trm) ∧ ∀ c, c ≠ 10 → Gm' c = Gm c := by
  have hn2 := hB.2.2.1
  have hp := pow_le64 hA.2.2.2.2.1
  intro d
  induction d with
  | zero =>
    intro i n n' G Gm hi h1 hn hn' x y
    obtain ⟨n, rfl⟩ : ∃ k, n = k + 1 := ⟨n - 1, by omega⟩
    obtain ⟨n', rfl⟩ : ∃ k, n' = k + 1 := ⟨n' - 1, by omega⟩
    refine ⟨-9, G, Gm, ?_, fun _ _ => rfl, ?_, fun _ _ => rfl⟩
    · rw [fX4_lightest_L24, fX4_lightest_b24, show (5 : Int32) = nI 5 from rfl, if_pos (nI_lt (by omega) (by omega))]
    · rw [fX5_lightest_L29, fX5_lightest_b29, show (6 : Int32) = nI 6 from rfl, if_pos (nI_le (by omega) (by omega))]
  | succ d ih =>
    intro i n n' G Gm hi h1 hn hn' x y
    obtain ⟨n, rfl⟩ : ∃ k, n = k + 1 := ⟨n - 1, by omega⟩
    obtain ⟨n', rfl⟩ : ∃ k, n' = k + 1 := ⟨n' - 1, by omega⟩
    obtain ⟨G1, q1, k1⟩ := fw_supposed (tr := tr) hA hB hN x (w := i) (κ := 0) (q := B 2) hf ht (by omega) (by omega) (by omega)
    obtain ⟨M1, f1, w1⟩ := fm_comesBy (trm := trm) hA hB hN y (w := i) (κ := 0) (q := B 2) hf ht (by omega) (by omega) (by omega)
    have q1' : fX4_supposed N (nI f) (nI t) (nI i) 0 (nI (B 2)) G tr = some (isV (cbS A B f t i 0 (B 2)), G1, tr) := q1
    have f1' : fX5_comesBy N (nI f) (nI t) (nI i) 0 (nI (B 2)) Gm trm = some (isV (cbS A B f t i 0 (B 2)), M1, trm) := f1
    generalize isV (cbS A B f t i 0 (B 2)) = V at q1' f1'
    obtain ⟨v, G2, M2, q2, k2, f2, w2⟩ := ih (i + 1) n n' G1 M1 (by omega) (by omega) (by omega) (by omega) (cX_keep hB.2.1 x (fun c h1 _ => k1 c h1)) (cM_keep y (fun c h => w1 c (by omega)))
    have e2 := y.2 2 (by omega)
    rw [Nat.zero_add] at e2
    rw [fX4_lightest_L24, fX4_lightest_b24, show (5 : Int32) = nI 5 from rfl, if_neg (nI_nlt (by omega) (by omega)), x.2.2.2.2.1, q1', zbd_ok]
    rw [fX5_lightest_L29, fX5_lightest_b29, show (6 : Int32) = nI 6 from rfl, if_neg (nI_ge (by omega) (by omega)), zin_lit 2 45 (i := 2) rfl (by omega) (by omega), show Int32.toNatClampNeg 2 = 2 from rfl, e2, f1', zbd_ok]
    by_cases h9 : V = -9
    · rw [if_pos h9, if_pos h9, fX4_lightest_b64, fX5_lightest_b69, nI_1, q2, f2]
      exact ⟨v, G2, M2, rfl, fun c hc => by rw [k2 c hc, k1 c hc], rfl, fun c hc => by rw [w2 c hc, w1 c hc]⟩
    · rw [if_neg h9, if_neg h9]
      by_cases h2 : a < V
      · rw [if_pos h2, if_pos h2, fX4_lightest_b64, fX5_lightest_b69, nI_1, q2, f2]
        exact ⟨v, G2, M2, rfl, fun c hc => by rw [k2 c hc, k1 c hc], rfl, fun c hc => by rw [w2 c hc, w1 c hc]⟩
      · rw [if_neg h2, if_neg h2]
        exact ⟨_, G1, M1, rfl, k1, rfl, w1⟩
theorem op_lightest (h : Rel G tr Gm trm) {N : Nat} (hN : 1000 < N) (a b z : Int32) : zStp (fX4_lightest N a b z G tr) (fX5_lightest N a b z Gm trm) := by
  obtain ⟨A, len, T, B, un, U, K, I, o, x, m, rfl⟩ := h
  have m0 := RM_thrown m
  have ob := o.2.2.2.1
  have hi6 := o.1.2.2.2.2.1
  unfold fX4_lightest fX5_lightest
  generalize up2 Gm 0 0 0 = G0 at m0 ⊢
  rw [fw_isWay x, fm_areTwo m0, zbd_ok, zbd_ok, zb_if, zb_if]
  by_cases h1 : (0 ≤ a ∧ a ≤ nI (A 0 2) - 1) ∧ (0 ≤ b ∧ b ≤ nI (A 0 2) - 1) ∧ ¬ a = b
  · rw [if_pos h1, if_pos h1, fw_within, fm_in, zbp_ok, zbp_ok, zb_if, zb_if]
    obtain ⟨f, hf, rfl, -⟩ := (zrng a (n := A 0 2) (by omega)).resolve_right (fun z => z h1.1)
    obtain ⟨t, ht, rfl, -⟩ := (zrng b (n := A 0 2) (by omega)).resolve_right (fun z => z h1.2.1)
    by_cases h3 : (1 : Int32) ≤ z ∧ z ≤ 60
    · rw [if_pos h3, if_pos h3]
      obtain ⟨v, G2, M2, q2, k2, f2, w2⟩ := light_loop (tr := tr) (trm := tr) o.1 ob hN z hf ht 5 1 N N G G0 (by omega) (by omega) (by omega) (by omega) (cX_of x) (cM_of m0)
      have q2' : fX4_lightest_L24 N (nI f) (nI t) z N 1 G tr = some (v, G2, tr) := q2
      have f2' : fX5_lightest_L29 N (nI f) (nI t) z N 1 G0 tr = some (v, M2, tr) := f2
      rw [q2', f2']
      exact ⟨_, _, _, _, _, rfl, rfl, Rel_mk o (RX_probe o x k2) (RM_trial m0 (fun c hc => by rw [w2 c (by omega)]))⟩
    · rw [if_neg h3, if_neg h3]
      exact ⟨_, _, _, _, _, rfl, rfl, Rel_mk o x m0⟩
  · rw [if_neg h1, if_neg h1]
    exact ⟨_, _, _, _, _, rfl, rfl, Rel_mk o x m0⟩
/-- none of the hours from i on -/
theorem fw_off_loop (hA : okA A) (hB : okB A B) {N : Nat} (hN : 1000 < N) {f t w q : Nat} {e : Int32} (he : nI (B 2) ||| e = nI q) (hq : q < 64) (hf : f < A 0 2) (ht : t < A 0 2) (hw : 1 ≤ w ∧ w ≤ 5) {cb : Nat → Option Nat} (hcb : ∀ κ, cbS A B f t w κ q = cb κ) (hcl : ∀ κ k, cb κ = some k → k < 401) : ∀ (d i n : Nat) (G : zMem), i + d = 12 → d < n → cX A B G → (∀ k, k < i → cb k = none) →
    ∃ v G', fX4_keepsOff_L3 N (nI f) (nI t) (nI w) e n (nI i) G tr = some (v, G', tr) ∧ (v = 0 ↔ ¬ ∀ k, k < 12 → cb k = none) ∧ (v = 0 ∨ v = 1) ∧ ∀ c, c ≠ 13 → G' c = G c := by
  intro d
  induction d with
  | zero =>
    intro i n G hi hn x hk
    obtain ⟨n, rfl⟩ : ∃ k, n = k + 1 := ⟨n - 1, by omega⟩
    have hi' : i = 12 := by omega
    subst hi'
    refine ⟨1, G, ?_, ⟨fun z => absurd z (by decide), fun z => absurd hk z⟩, Or.inr rfl, fun _ _ => rfl⟩
    rw [fX4_keepsOff_L3, fX4_keepsOff_b3, show (12 : Int32) = nI 12 from rfl, if_pos (nI_le (by omega) (by omega)), zbo_1]
  | succ d ih =>
    intro i n G hi hn x hk
    obtain ⟨n, rfl⟩ : ∃ k, n = k + 1 := ⟨n - 1, by omega⟩
    obtain ⟨G1, q1, k1⟩ := fw_supposed (tr := tr) hA hB hN x (κ := i) (q := q) hf ht hw (by omega) hq
    rw [fX4_keepsOff_L3, fX4_keepsOff_b3, show (12 : Int32) = nI 12 from rfl, if_neg (nI_ge (by omega) (by omega)), x.2.2.2.2.1, he, q1, zbd_ok, hcb]
    cases hc : cb i with
    | none =>
      obtain ⟨v, G2, q2, h2, h3, k2⟩ := ih (i + 1) n G1 (by omega) (by omega) (cX_keep hB.2.1 x (fun c h1 _ => k1 c h1)) (fun k hki => by
        by_cases hkn : k = i
        · rw [hkn]; exact hc
        · exact hk k (by omega))
      refine ⟨v, G2, ?_, h2, h3, fun c hc => by rw [k2 c hc, k1 c hc]⟩
      rw [isV, if_pos rfl, nI_1, q2]
    | some r =>
      have hr := hcl _ _ hc
      refine ⟨0, G1, ?_, ⟨fun _ h => ?_, fun _ => rfl⟩, Or.inl rfl, k1⟩
      · rw [isV, if_neg (nI_neg (by omega) (by decide)), zbo_0]
      · have := h i (by omega)
        rw [hc] at this; cases this
theorem fw_keepsOff (hA : okA A) (hB : okB A B) {N : Nat} (hN : 1000 < N) {f t w q : Nat} {e : Int32} (he : nI (B 2) ||| e = nI q) (hq : q < 64) (hf : f < A 0 2) (ht : t < A 0 2) (hw : 1 ≤ w ∧ w ≤ 5) (x : cX A B G) :
    ∃ v G', fX4_keepsOff N (nI f) (nI t) (nI w) e G tr = some (v, G', tr) ∧ (v = 0 ↔ ¬ bkS (fun κ => cbS A B f t w κ q) 12 = none) ∧ (v = 0 ∨ v = 1) ∧ ∀ c, c ≠ 13 → G' c = G c := by
  obtain ⟨cb, hcb⟩ : ∃ cb : Nat → Option Nat, ∀ κ, cbS A B f t w κ q = cb κ := ⟨_, fun _ => rfl⟩
  have hcl : ∀ κ k, cb κ = some k → k < 401 := fun κ k h => by rw [← hcb] at h; exact cb_lt h
  rw [show (fun κ => cbS A B f t w κ q) = cb from funext hcb, bk_none]
  exact fw_off_loop hA hB hN he hq hf ht hw hcb hcl 12 0 N G (by omega) (by omega) x (fun k hk => by omega)
theorem fm_bestK' (hA : okA A) (hB : okB A B) {N : Nat} (hN : 1000 < N) (x : cM A B G) {f t w q : Nat} (hf : f < A 0 2) (ht : t < A 0 2) (hw : 1 ≤ w ∧ w ≤ 5) (hq : q < 64) :
    ∃ v G', fX5_bestK N (nI f) (nI t) (nI w) (nI q) G tr = some (v, G', tr) ∧ (v = -9 ↔ bkS (fun κ => cbS A B f t w κ q) 12 = none) ∧ ∀ c, c ≠ 10 → G' c = G c := by
  obtain ⟨cb, hcb⟩ : ∃ cb : Nat → Option Nat, ∀ κ, cbS A B f t w κ q = cb κ := ⟨_, fun _ => rfl⟩
  have hcl : ∀ κ k, cb κ = some k → k < 401 := fun κ k h => by rw [← hcb] at h; exact cb_lt h
  obtain ⟨G1, q1, k1⟩ := fm_bestK (tr := tr) hA hB hN x hf ht hw hq hcb hcl
  rw [show (fun κ => cbS A B f t w κ q) = cb from funext hcb]
  refine ⟨_, G1, q1, ?_, k1⟩
  cases hb : bkS cb 12 with
  | none => exact ⟨fun _ => rfl, fun _ => rfl⟩
  | some p =>
    have := bk_lt hcl hb
    exact ⟨fun z => absurd z (nI_neg (by omega) (by decide)), fun z => by cases z⟩
/-- word of it: some weight from i on -/
theorem fw_word_loop (hA : okA A) (hB : okB A B) {N : Nat} (hN : 1000 < N) {f t : Nat} (hf : f < A 0 2) (ht : t < A 0 2) {P : Nat → Prop} (hP : ∀ w, P w ↔ ¬ bkS (fun κ => cbS A B f t w κ (B 2)) 12 = none) : ∀ (d i n : Nat) (G : zMem), i + d = 6 → 1 ≤ i → d < n → cX A B G → (∀ w, 1 ≤ w → w < i → ¬ P w) →
    ∃ v G', fX4_hasWordOf_L2 N (nI f) (nI t) n (nI i) G tr = some (v, G', tr) ∧ (v = 0 ↔ ¬ ∃ w, 1 ≤ w ∧ w < 6 ∧ P w) ∧ (v = 0 ∨ v = 1) ∧ ∀ c, c ≠ 13 → G' c = G c := by
  have hn2 := hB.2.2.1
  have hp := pow_le64 hA.2.2.2.2.1
  intro d
  induction d with
  | zero =>
    intro i n G hi h1 hn x hk
    obtain ⟨n, rfl⟩ : ∃ k, n = k + 1 := ⟨n - 1, by omega⟩
    refine ⟨0, G, ?_, ⟨fun _ ⟨w, a, b, c⟩ => hk w a (by omega) c, fun _ => rfl⟩, Or.inl rfl, fun _ _ => rfl⟩
    rw [fX4_hasWordOf_L2, fX4_hasWordOf_b2, show (5 : Int32) = nI 5 from rfl, if_pos (nI_lt (by omega) (by omega)), zbo_0]
  | succ d ih =>
    intro i n G hi h1 hn x hk
    obtain ⟨n, rfl⟩ : ∃ k, n = k + 1 := ⟨n - 1, by omega⟩
    obtain ⟨v, G1, q1, hv, hv2, k1⟩ := fw_keepsOff (tr := tr) hA hB hN (w := i) (q := B 2) (e := 0) Int32.or_zero (by omega) hf ht (by omega) x
    rw [← hP] at hv
    rw [fX4_hasWordOf_L2, fX4_hasWordOf_b2, show (5 : Int32) = nI 5 from rfl, if_neg (nI_nlt (by omega) (by omega)), q1, zbd_ok]
    by_cases h0 : v = 0
    · rw [if_pos h0, zbo_1]
      exact ⟨1, G1, rfl, ⟨fun z => absurd z (by decide), fun z => absurd ⟨i, h1, by omega, hv.mp h0⟩ z⟩, Or.inr rfl, k1⟩
    · rw [if_neg h0]
      obtain ⟨v, G2, q2, h2, h3, k2⟩ := ih (i + 1) n G1 (by omega) (by omega) (by omega) (cX_keep hB.2.1 x (fun c h1 _ => k1 c h1)) (fun w hw1 hw2 => by
        by_cases hwi : w = i
        · rw [hwi]; exact fun z => h0 (hv.mpr z)
        · exact hk w hw1 (by omega))
      exact ⟨v, G2, by rw [nI_1, q2], h2, h3, fun c hc => by rw [k2 c hc, k1 c hc]⟩
theorem or_again (x m : Int32) : (x ||| m) ||| m = x ||| m := by rw [Int32.or_assoc, Int32.or_self]
theorem fm_word_loop (hA : okA A) (hB : okB A B) {N : Nat} (hN : 1000 < N) {f t : Nat} (hf : f < A 0 2) (ht : t < A 0 2) (hft : ¬ nI f = nI t) (k19 : Int32 → Int32 → zMem → Int64 → zR) {P : Nat → Prop} (hP : ∀ w, P w ↔ ¬ bkS (fun κ => cbS A B f t w κ (B 2)) 12 = none) {S : Int32} : ∀ (d i n : Nat) (s : Int32) (G : zMem), i + d = 6 → 1 ≤ i → d < n → cM A B G → (¬ (∃ w, 1 ≤ w ∧ w < i ∧ P w) ∧ s = S ∨ (∃ w, 1 ≤ w ∧ w < i ∧ P w) ∧ s = S ||| (1 <<< (nI f &&& 31))) →
    ∃ r G', fX5_words_L32 N (nI t) k19 n s (nI f) (nI i) G tr = fX5_words_b79 N (nI t) k19 r (nI f) G' tr ∧ (¬ (∃ w, 1 ≤ w ∧ w < 6 ∧ P w) ∧ r = S ∨ (∃ w, 1 ≤ w ∧ w < 6 ∧ P w) ∧ r = S ||| (1 <<< (nI f &&& 31))) ∧ ∀ c, c ≠ 10 → G' c = G c := by
  have hn2 := hB.2.2.1
  have hp := pow_le64 hA.2.2.2.2.1
  intro d
  induction d with
  | zero =>
    intro i n s G hi h1 hn x hs
    obtain ⟨n, rfl⟩ : ∃ k, n = k + 1 := ⟨n - 1, by omega⟩
    have hi' : i = 6 := by omega
    subst hi'
    refine ⟨s, G, ?_, hs, fun _ _ => rfl⟩
    rw [fX5_words_L32, fX5_words_b32, show (6 : Int32) = nI 6 from rfl, if_pos (nI_le (by omega) (by omega))]
  | succ d ih =>
    intro i n s G hi h1 hn x hs
    obtain ⟨n, rfl⟩ : ∃ k, n = k + 1 := ⟨n - 1, by omega⟩
    obtain ⟨v, G1, q1, hv, k1⟩ := fm_bestK' (tr := tr) hA hB hN x (w := i) (q := B 2) hf ht (by omega) (by omega)
    have e2 := x.2 2 (by omega)
    rw [Nat.zero_add] at e2
    have x1 := cM_keep x (fun c h => k1 c (by omega))
    rw [fX5_words_L32, fX5_words_b32, show (6 : Int32) = nI 6 from rfl, if_neg (nI_ge (by omega) (by omega)), if_neg hft, zin_lit 2 45 (i := 2) rfl (by omega) (by omega), show Int32.toNatClampNeg 2 = 2 from rfl, e2, q1, zbd_ok]
    by_cases h0 : v = -9
    · have hno : ¬ P i := fun z => (hP i).mp z (hv.mp h0)
      have step : ∀ w, w < i + 1 → P w → w < i := fun w h1 h2 => by
        by_cases h : w = i
        · rw [h] at h2; exact absurd h2 hno
        · omega
      obtain ⟨r, G2, q2, h2, k2⟩ := ih (i + 1) n s G1 (by omega) (by omega) (by omega) x1 (by
        rcases hs with ⟨h3, h4⟩ | ⟨⟨w, h3, h4, h5⟩, h6⟩
        · exact Or.inl ⟨fun ⟨w, a, b, c⟩ => h3 ⟨w, a, step w b c, c⟩, h4⟩
        · exact Or.inr ⟨⟨w, h3, by omega, h5⟩, h6⟩)
      refine ⟨r, G2, ?_, h2, fun c hc => by rw [k2 c hc, k1 c hc]⟩
      rw [if_pos h0, fX5_words_b71, Int32.or_zero, nI_1, q2]
    · have hyes : P i := (hP i).mpr (fun z => h0 (hv.mpr z))
      obtain ⟨r, G2, q2, h2, k2⟩ := ih (i + 1) n (s ||| (1 <<< (nI f &&& 31))) G1 (by omega) (by omega) (by omega) x1 (Or.inr ⟨⟨i, h1, by omega, hyes⟩, by
        rcases hs with ⟨h3, h4⟩ | ⟨h3, h4⟩
        · rw [h4]
        · rw [h4, or_again]⟩)
      refine ⟨r, G2, ?_, h2, fun c hc => by rw [k2 c hc, k1 c hc]⟩
      rw [if_neg h0, fX5_words_b71, nI_1, q2]
theorem words_loop (hA : okA A) (hB : okB A B) {N : Nat} (hN : 1000 < N) {t : Nat} (ht : t < A 0 2) : ∀ (d i n n' : Nat) (s : Int32) (G Gm : zMem), i + d = A 0 2 → d < n → d < n' → cX A B G → cM A B Gm →
    ∃ v G' Gm', fX4_words_L14 N (nI t) n s (nI i) G tr = some (v, G', tr) ∧ (∀ c, c ≠ 13 → G' c = G c) ∧ fX5_words_L19 N (nI t) n' s (nI i) Gm trm = some (v, Gm', trm) ∧ ∀ c, c ≠ 10 → Gm' c = Gm c := by
  have hi6 := hA.2.2.2.2.1
  intro d
  induction d with
  | zero =>
    intro i n n' s G Gm hi hn hn' x y
    obtain ⟨n, rfl⟩ : ∃ k, n = k + 1 := ⟨n - 1, by omega⟩
    obtain ⟨n', rfl⟩ : ∃ k, n' = k + 1 := ⟨n' - 1, by omega⟩
    have e2 := y.1.1 2 (by omega)
    refine ⟨s, G, Gm, ?_, fun _ _ => rfl, ?_, fun _ _ => rfl⟩
    · rw [fX4_words_L14, fX4_words_b14, zch_ok x.2.1, x.1.2.2.2.1, if_pos (nI_le (by omega) (by omega))]
    · rw [fX5_words_L19, fX5_words_b19, zin_lit 2 12 (i := 2) rfl (by omega) (by omega), show Int32.toNatClampNeg 2 = 2 from rfl, e2, if_pos (nI_le (by omega) (by omega))]
  | succ d ih =>
    intro i n n' s G Gm hi hn hn' x y
    obtain ⟨n, rfl⟩ : ∃ k, n = k + 1 := ⟨n - 1, by omega⟩
    obtain ⟨n', rfl⟩ : ∃ k, n' = k + 1 := ⟨n' - 1, by omega⟩
    have e2 := y.1.1 2 (by omega)
    rw [fX4_words_L14, fX4_words_b14, zch_ok x.2.1, x.1.2.2.2.1, if_neg (nI_ge (by omega) (by omega))]
    rw [fX5_words_L19, fX5_words_b19, zin_lit 2 12 (i := 2) rfl (by omega) (by omega), show Int32.toNatClampNeg 2 = 2 from rfl, e2, if_neg (nI_ge (by omega) (by omega))]
    by_cases hit : nI i = nI t
    · obtain ⟨v, G2, M2, q2, k2, f2, w2⟩ := ih (i + 1) n n' s G Gm (by omega) (by omega) (by omega) x y
      refine ⟨v, G2, M2, ?_, k2, ?_, w2⟩
      · rw [if_pos hit, fX4_words_b45, nI_1, q2]
      · obtain ⟨M, rfl⟩ : ∃ k, N = k + 1 := ⟨N - 1, by omega⟩
        rw [fX5_words_L32, fX5_words_b32, if_neg (by decide), if_pos hit, fX5_words_b79, nI_1, f2]
    · obtain ⟨P, hP⟩ : ∃ P : Nat → Prop, ∀ w, P w ↔ ¬ bkS (fun κ => cbS A B i t w κ (B 2)) 12 = none := ⟨_, fun _ => Iff.rfl⟩
      obtain ⟨v, G1, q1, hv, hv2, k1⟩ := fw_word_loop (tr := tr) hA hB hN (f := i) (t := t) (by omega) ht hP 5 1 N G (by omega) (by omega) (by omega) x (fun w h1 h2 => by omega)
      obtain ⟨r, M1, f1, hr, w1⟩ := fm_word_loop (tr := trm) hA hB hN (f := i) (t := t) (by omega) ht hit (fX5_words_L19 N (nI t) n') hP (S := s) 5 1 N s Gm (by omega) (by omega) (by omega) y (Or.inl ⟨fun ⟨w, a, b, _⟩ => by omega, rfl⟩)
      have q1' : fX4_hasWordOf N (nI i) (nI t) G tr = some (v, G1, tr) := q1
      have f1' : fX5_words_L32 N (nI t) (fX5_words_L19 N (nI t) n') N s (nI i) 1 Gm trm = fX5_words_b79 N (nI t) (fX5_words_L19 N (nI t) n') r (nI i) M1 trm := f1
      obtain ⟨u, G2, M2, q2, k2, f2, w2⟩ := ih (i + 1) n n' r G1 M1 (by omega) (by omega) (by omega) (cX_keep hB.2.1 x (fun c h1 _ => k1 c h1)) (cM_keep y (fun c h => w1 c (by omega)))
      refine ⟨u, G2, M2, ?_, fun c hc => by rw [k2 c hc, k1 c hc], ?_, fun c hc => by rw [w2 c hc, w1 c hc]⟩
      · rw [if_neg hit, q1', zbd_ok]
        rcases hr with ⟨h3, h4⟩ | ⟨h3, h4⟩
        · rw [if_pos (hv.mpr h3), fX4_words_b45, nI_1, ← h4, q2]
        · rw [if_neg (fun z => hv.mp z h3), fX4_words_b45, nI_1, ← h4, q2]
      · rw [f1', fX5_words_b79, nI_1, f2]
theorem op_words (h : Rel G tr Gm trm) {N : Nat} (hN : 1000 < N) (a : Int32) : zStp (fX4_words N a G tr) (fX5_words N a Gm trm) := by
  obtain ⟨A, len, T, B, un, U, K, I, o, x, m, rfl⟩ := h
  have m0 := RM_thrown m
  have ob := o.2.2.2.1
  have hi6 := o.1.2.2.2.2.1
  unfold fX4_words fX5_words
  generalize up2 Gm 0 0 0 = G0 at m0 ⊢
  rw [fw_isIsle x, fm_isIsle m0, zbd_ok, zbd_ok, zb_if, zb_if]
  rcases zrng a (n := A 0 2) (by omega) with ⟨t, ht, rfl, h1⟩ | hno
  · rw [if_pos h1, if_pos h1]
    obtain ⟨v, G2, M2, q2, k2, f2, w2⟩ := words_loop (tr := tr) (trm := tr) o.1 ob hN ht (A 0 2) 0 N N 0 G G0 (by omega) (by omega) (by omega) (cX_of x) (cM_of m0)
    have q2' : fX4_words_L14 N (nI t) N 0 0 G tr = some (v, G2, tr) := q2
    have f2' : fX5_words_L19 N (nI t) N 0 0 G0 tr = some (v, M2, tr) := f2
    rw [q2', f2']
    exact ⟨_, _, _, _, _, rfl, rfl, Rel_mk o (RX_probe o x k2) (RM_trial m0 (fun c hc => by rw [w2 c (by omega)]))⟩
  · rw [if_neg hno, if_neg hno]
    exact ⟨_, _, _, _, _, rfl, rfl, Rel_mk o x m0⟩
end wrd
