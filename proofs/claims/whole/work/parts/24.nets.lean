/-! ===== nets ===== -/
section nts
variable {A : zA} {B : zB} {G Gm : zMem} {tr trm : Int64}
theorem or_64 : ∀ a, a < 64 → ∀ b, b < 64 → nI a ||| nI b = nI (a ||| b) ∧ a ||| b < 64 := by decide +kernel
theorem ends_0 : ∀ j, j < 64 → ∀ f, f < 6 → ∀ t, t < 6 → (nI j &&& (((1 : Int32) <<< (nI f &&& 31)) ||| ((1 : Int32) <<< (nI t &&& 31))) = 0 ↔ ((nI j >>> (nI f &&& 31)) &&& 1 = 0 ∧ (nI j >>> (nI t &&& 31)) &&& 1 = 0)) := by decide +kernel
theorem nets_loop (hA : okA A) (hB : okB A B) {N : Nat} (hN : 1000 < N) {f t w : Nat} (hf : f < A 0 2) (ht : t < A 0 2) (hw : 1 ≤ w ∧ w ≤ 5) : ∀ (d i n n' : Nat) (X4 X5 : Int32) (G Gm : zMem), i + d = 2 ^ A 0 2 → d < n → d < n' → (X4 = -9 ∧ X5 = 7 ∨ ∃ m, m < 64 ∧ X4 = nI m ∧ X5 = nI (cntS m 6)) → cX A B G → cM A B Gm →
    ∃ v G' Gm', fX4_nets_L38 N (nI f) (nI t) (nI w) n X4 X5 (((1 : Int32) <<< (nI f &&& 31)) ||| ((1 : Int32) <<< (nI t &&& 31))) (nI i) G tr = some (v, G', tr) ∧ (∀ c, c ≠ 13 → G' c = G c) ∧ fX5_nets_L32 N (nI f) (nI t) (nI w) n' X4 (nI i) Gm trm = some (v, Gm', trm) ∧ ∀ c, c ≠ 10 → Gm' c = Gm c := by
  have hi6 := hA.2.2.2.2.1
  have hn2 := hB.2.2.1
  have hp := pow_le64 hi6
  intro d
  induction d with
  | zero =>
    intro i n n' X4 X5 G Gm hi hn hn' st x y
    obtain ⟨n, rfl⟩ : ∃ k, n = k + 1 := ⟨n - 1, by omega⟩
    obtain ⟨n', rfl⟩ : ∃ k, n' = k + 1 := ⟨n' - 1, by omega⟩
    have e2 := y.1.1 2 (by omega)
    refine ⟨X4, G, Gm, ?_, fun _ _ => rfl, ?_, fun _ _ => rfl⟩
    · rw [fX4_nets_L38, fX4_nets_b38, zch_ok x.2.1, x.1.2.2.2.1, bit_one _ (by omega), if_pos (nI_le (by omega) (by omega))]
    · rw [fX5_nets_L32, fX5_nets_b32, zin_lit 2 12 (i := 2) rfl (by omega) (by omega), show Int32.toNatClampNeg 2 = 2 from rfl, e2, bit_one _ (by omega), if_pos (nI_le (by omega) (by omega))]
  | succ d ih =>
    intro i n n' X4 X5 G Gm hi hn hn' st x y
    obtain ⟨n, rfl⟩ : ∃ k, n = k + 1 := ⟨n - 1, by omega⟩
    obtain ⟨n', rfl⟩ : ∃ k, n' = k + 1 := ⟨n' - 1, by omega⟩
    have e2 := y.1.1 2 (by omega)
    have e2' := y.2 2 (by omega)
    rw [Nat.zero_add] at e2'
    have hc6 := cntS_le i 6
    have ho := or_64 (B 2) (by omega) i (by omega)
    have he := ends_0 i (by omega) f (by omega) t (by omega)
    rw [fX4_nets_L38, fX4_nets_b38, zch_ok x.2.1, x.1.2.2.2.1, bit_one (A 0 2) (by omega), if_neg (nI_ge (by omega) (by omega)), fj_bitCount N (by omega), zbp_ok]
    rw [fX5_nets_L32, fX5_nets_b32, zin_lit 2 12 (i := 2) rfl (by omega) (by omega), show Int32.toNatClampNeg 2 = 2 from rfl, e2, bit_one (A 0 2) (by omega), if_neg (nI_ge (by omega) (by omega))]
    obtain ⟨v0, G0, M0, q0, k0, f0, w0⟩ := ih (i + 1) n n' X4 X5 G Gm (by omega) (by omega) (by omega) st x y
    have skipX : fX4_nets_b94 N (nI f) (nI t) (nI w) (fX4_nets_L38 N (nI f) (nI t) (nI w) n) X4 X5 (((1 : Int32) <<< (nI f &&& 31)) ||| ((1 : Int32) <<< (nI t &&& 31))) (nI i) G tr = some (v0, G0, tr) := by rw [fX4_nets_b94, nI_1, q0]
    have skipM : fX5_nets_b87 N (nI f) (nI t) (nI w) (fX5_nets_L32 N (nI f) (nI t) (nI w) n') X4 (nI i) Gm trm = some (v0, M0, trm) := by rw [fX5_nets_b87, fX5_nets_b88, if_pos rfl, fX5_nets_b121, fX5_nets_b123, nI_1, f0]
    have test : ∃ v G' Gm', zbd (fX4_keepsOff N (nI f) (nI t) (nI w) (nI i) G tr) (fun r_8 G_9 tr_10 => if r_8 = 0 then fX4_nets_b94 N (nI f) (nI t) (nI w) (fX4_nets_L38 N (nI f) (nI t) (nI w) n) X4 X5 (((1 : Int32) <<< (nI f &&& 31)) ||| ((1 : Int32) <<< (nI t &&& 31))) (nI i) G_9 tr_10 else fX4_nets_b94 N (nI f) (nI t) (nI w) (fX4_nets_L38 N (nI f) (nI t) (nI w) n) (nI i) (nI (cntS i 6)) (((1 : Int32) <<< (nI f &&& 31)) ||| ((1 : Int32) <<< (nI t &&& 31))) (nI i) G_9 tr_10) = some (v, G', tr) ∧ (∀ c, c ≠ 13 → G' c = G c) ∧ fX5_nets_b83 N (nI f) (nI t) (nI w) (fX5_nets_L32 N (nI f) (nI t) (nI w) n') X4 (nI i) Gm trm = some (v, Gm', trm) ∧ ∀ c, c ≠ 10 → Gm' c = Gm c := by
      obtain ⟨v, G1, q1, hv, hv2, k1⟩ := fw_keepsOff (tr := tr) hA hB hN ho.1 ho.2 hf ht hw x
      obtain ⟨r, M1, f1, hr, w1⟩ := fm_bestK' (tr := trm) hA hB hN y hf ht hw ho.2
      have x1 := cX_keep hB.2.1 x (fun c h1 _ => k1 c h1)
      have y1 := cM_keep y (fun c h => w1 c (by omega))
      rw [q1, zbd_ok, fX5_nets_b83, fX5_nets_b88, if_neg (show ¬ (1 : Int32) = 0 by decide), zin_lit 2 45 (i := 2) rfl (by omega) (by omega), show Int32.toNatClampNeg 2 = 2 from rfl, e2', ho.1, f1, zbd_ok]
      by_cases hb : bkS (fun κ => cbS A B f t w κ (B 2 ||| i)) 12 = none
      · obtain ⟨u, G2, M2, q2, k2, f2, w2⟩ := ih (i + 1) n n' (nI i) (nI (cntS i 6)) G1 M1 (by omega) (by omega) (by omega) (Or.inr ⟨i, by omega, rfl, rfl⟩) x1 y1
        refine ⟨u, G2, M2, ?_, fun c hc => by rw [k2 c hc, k1 c hc], ?_, fun c hc => by rw [w2 c hc, w1 c hc]⟩
        · rw [if_neg (fun z => hv.mp z hb), fX4_nets_b94, nI_1, q2]
        · rw [if_pos (hr.mpr hb), fX5_nets_b123, nI_1, f2]
      · obtain ⟨u, G2, M2, q2, k2, f2, w2⟩ := ih (i + 1) n n' X4 X5 G1 M1 (by omega) (by omega) (by omega) st x1 y1
        refine ⟨u, G2, M2, ?_, fun c hc => by rw [k2 c hc, k1 c hc], ?_, fun c hc => by rw [w2 c hc, w1 c hc]⟩
        · rw [if_pos (hv.mpr hb), fX4_nets_b94, nI_1, q2]
        · rw [if_neg (fun z => hb (hr.mp z)), fX5_nets_b121, fX5_nets_b123, nI_1, f2]
    by_cases hend : nI i &&& (((1 : Int32) <<< (nI f &&& 31)) ||| ((1 : Int32) <<< (nI t &&& 31))) = 0
    · rw [if_pos hend, if_pos (he.mp hend).1, if_pos (he.mp hend).2]
      rcases st with ⟨rfl, rfl⟩ | ⟨m, hm, rfl, rfl⟩
      · rw [show (7 : Int32) = nI 7 from rfl, if_neg (nI_ge (by omega) (by omega)), if_pos rfl]
        exact test
      · rw [if_neg (nI_neg (by omega) (by decide)), fm_ones (by omega) (by omega), fm_ones (by omega) hm, zbp_ok, zbp_ok]
        by_cases hle : nI (cntS m 6) ≤ nI (cntS i 6)
        · rw [if_pos hle, if_pos hle, skipX, skipM]
          exact ⟨v0, G0, M0, rfl, k0, rfl, w0⟩
        · rw [if_neg hle, if_neg hle]
          exact test
    · rw [if_neg hend]
      refine ⟨v0, G0, M0, skipX, k0, ?_, w0⟩
      by_cases h1 : (nI i >>> (nI f &&& 31)) &&& 1 = 0
      · rw [if_pos h1, if_neg (fun z => hend (he.mpr ⟨h1, z⟩)), skipM]
      · rw [if_neg h1, skipM]
theorem op_nets (h : Rel G tr Gm trm) {N : Nat} (hN : 1000 < N) (a b w : Int32) : zStp (fX4_nets N a b w G tr) (fX5_nets N a b w Gm trm) := by
  obtain ⟨A, len, T, B, un, U, K, I, o, x, m, rfl⟩ := h
  have m0 := RM_thrown m
  have ob := o.2.2.2.1
  have hi6 := o.1.2.2.2.2.1
  have hp := pow_le64 hi6
  unfold fX4_nets fX5_nets fX4_isWeight
  generalize up2 Gm 0 0 0 = G0 at m0 ⊢
  rw [fw_isWay x, fm_areTwo m0, zbd_ok, zbd_ok, zb_if, zb_if]
  by_cases h1 : (0 ≤ a ∧ a ≤ nI (A 0 2) - 1) ∧ (0 ≤ b ∧ b ≤ nI (A 0 2) - 1) ∧ ¬ a = b
  · rw [if_pos h1, if_pos h1, fw_within, fm_in, zbp_ok, zbp_ok, zbo_if, zbp_ok, zb_if, zb_if]
    obtain ⟨f, hf, rfl, -⟩ := (zrng a (n := A 0 2) (by omega)).resolve_right (fun z => z h1.1)
    obtain ⟨t, ht, rfl, -⟩ := (zrng b (n := A 0 2) (by omega)).resolve_right (fun z => z h1.2.1)
    rcases zrngD w 1 5 (by omega) (by omega) with ⟨w, hw, hw2, rfl, h2⟩ | hno
    · have hr : (1 : Int32) ≤ nI w ∧ nI w ≤ 5 := h2
      rw [if_pos hr, if_pos hr]
      obtain ⟨v, G2, M2, q2, k2, f2, w2⟩ := nets_loop (tr := tr) (trm := tr) o.1 ob hN hf ht ⟨hw, hw2⟩ (2 ^ A 0 2) 0 N N (-9) 7 G G0 (by omega) (by omega) (by omega) (Or.inl ⟨rfl, rfl⟩) (cX_of x) (cM_of m0)
      have q2' : fX4_nets_L38 N (nI f) (nI t) (nI w) N (-9) 7 (((1 : Int32) <<< (nI f &&& 31)) ||| ((1 : Int32) <<< (nI t &&& 31))) 0 G tr = some (v, G2, tr) := q2
      have f2' : fX5_nets_L32 N (nI f) (nI t) (nI w) N (-9) 0 G0 tr = some (v, M2, tr) := f2
      rw [q2', f2']
      exact ⟨_, _, _, _, _, rfl, rfl, Rel_mk o (RX_probe o x k2) (RM_trial m0 (fun c hc => by rw [w2 c (by omega)]))⟩
    · have hr : ¬ ((1 : Int32) ≤ w ∧ w ≤ 5) := hno
      rw [if_neg hr, if_neg hr]
      exact ⟨_, _, _, _, _, rfl, rfl, Rel_mk o x m0⟩
  · rw [if_neg h1, if_neg h1]
    exact ⟨_, _, _, _, _, rfl, rfl, Rel_mk o x m0⟩
end nts
/-! ===== who ===== -/
section whs
variable {A : zA} {B : zB} {G Gm : zMem} {tr trm : Int64}
theorem fw_supposed2 (hA : okA A) (hB : okB A B) {N : Nat} (hN : 1000 < N) (x : cX A B G) {f t w κ q : Nat} (hf : f < A 0 2) (ht : t < A 0 2) (hw : 1 ≤ w ∧ w ≤ 5) (hκ : κ < 2 ^ 18) (hq : q < 64) :
    ∃ G', fX4_supposed N (nI f) (nI t) (nI w) (nI κ) (nI q) G tr = some (isV (cbS A B f t w κ q), G', tr) ∧ (∀ c, c ≠ 13 → G' c = G c) ∧ ∀ k, cbS A B f t w κ q = some k → repL A G' 13 (runL A q (wvS A B (B 0 + κ)) (newL A f t w) k) := by
  have h9 := hB.1
  have f5 := hA.2.2.2.2.2.2.2.2.1
  obtain ⟨G1, q1, r1, k1⟩ := fw_letUp (tr := tr) hA x.1 (cX_ch x) (isL_of (Or.inl rfl)) N (f := f) (t := t) (w := w) hf
  have x1 := cX_keep hB.2.1 x (fun c h1 _ => k1 c h1)
  have e6 : G1 13 6 = nI (A 0 5) - nI w := r1.2
  unfold fX4_supposed
  rw [zch_ok x.2.1, q1, zbd_ok, e6]
  by_cases hs : w < A 0 5
  · obtain ⟨G2, q2, k2, s2⟩ := fw_arrival (tr := tr) hA hB hN (τ := B 0 + κ) (q := q) (by omega) hq (okL_new hA hf ht hw) x1 r1
    refine ⟨G2, ?_, fun c hc => by rw [k2 c hc, k1 c hc], s2⟩
    rw [if_pos ((reach_pos _ (by omega) _ (by omega)).mpr hs), x1.2.2.1, nI_add, q2, zbd_ok]; rfl
  · have e : cbS A B f t w κ q = none := arr_weak (show A 0 5 ≤ newL A f t w 0 by show A 0 5 ≤ w; omega) rfl
    refine ⟨G1, ?_, k1, fun k h => by rw [e] at h; cases h⟩
    rw [if_neg (fun z => hs ((reach_pos _ (by omega) _ (by omega)).mp z)), e]; rfl
theorem fm_comesBy2 (hA : okA A) (hB : okB A B) {N : Nat} (hN : 1000 < N) (y : cM A B Gm) {f t w κ q : Nat} (hf : f < A 0 2) (ht : t < A 0 2) (hw : 1 ≤ w ∧ w ≤ 5) (hκ : κ < 2 ^ 18) (hq : q < 64) :
    ∃ G', fX5_comesBy N (nI f) (nI t) (nI w) (nI κ) (nI q) Gm trm = some (isV (cbS A B f t w κ q), G', trm) ∧ (∀ c, c ≠ 10 → G' c = Gm c) ∧ ∀ k, cbS A B f t w κ q = some k → repR G' 10 0 (runL A q (wvS A B (B 0 + κ)) (newL A f t w) k) := by
  obtain ⟨G1, q1, r1, k1⟩ := fm_puts (tr := trm) hA y.1 N (r := 10) (a := 0) (Or.inr (Or.inl rfl)) (by decide) (f := f) (t := t) (w := w) hf
  have y1 := cM_keep y (fun c hc => k1.1 c (by omega))
  obtain ⟨G2, q2, k2, s2⟩ := fm_comesIn (tr := trm) hA hB hN (κ := κ) (q := q) (by omega) hq (okL_new hA hf ht hw) y1 r1
  refine ⟨G2, ?_, fun c hc => by rw [k2 c hc, k1.1 c hc], s2⟩
  have q1' : fX5_puts N 10 0 (nI f) (nI t) (nI w) Gm trm = some (0, G1, trm) := q1
  unfold fX5_comesBy
  rw [q1', zbd_ok, q2, zbd_ok]; rfl
/-- it comes in hour k with these blots -/
def wthS (A : zA) (B : zB) (f t w : Nat) (a : Int32) (κ : Nat) : Prop := ∃ k, cbS A B f t w κ (B 2) = some k ∧ nI (runL A (B 2) (wvS A B (B 0 + κ)) (newL A f t w) k 4) = a
theorem fw_cw (hA : okA A) (hB : okB A B) {N : Nat} (hN : 1000 < N) (x : cX A B G) {f t w κ : Nat} (a : Int32) (hf : f < A 0 2) (ht : t < A 0 2) (hw : 1 ≤ w ∧ w ≤ 5) (hκ : κ < 2 ^ 18) :
    ∃ v G', fX4_supposed N (nI f) (nI t) (nI w) (nI κ) (nI (B 2)) G tr = some (v, G', tr) ∧ (¬ v = -9 ∧ G' 13 4 = a ↔ wthS A B f t w a κ) ∧ ∀ c, c ≠ 13 → G' c = G c := by
  have hn2 := hB.2.2.1
  have hp := pow_le64 hA.2.2.2.2.1
  obtain ⟨G1, q1, k1, s1⟩ := fw_supposed2 (tr := tr) hA hB hN x (κ := κ) (q := B 2) hf ht hw hκ (by omega)
  refine ⟨_, G1, q1, ?_, k1⟩
  unfold wthS
  cases hc : cbS A B f t w κ (B 2) with
  | none => exact ⟨fun z => absurd rfl z.1, fun ⟨k, h, _⟩ => by cases h⟩
  | some k =>
    have hk := cb_lt hc
    have e := (s1 k hc).1 4 (by omega)
    exact ⟨fun z => ⟨k, rfl, e.symm.trans z.2⟩, fun ⟨k', h, h2⟩ => by cases h; exact ⟨nI_neg (by omega) (by decide), e.trans h2⟩⟩
theorem fm_cw (hA : okA A) (hB : okB A B) {N : Nat} (hN : 1000 < N) (y : cM A B Gm) {f t w κ : Nat} (a : Int32) (hf : f < A 0 2) (ht : t < A 0 2) (hw : 1 ≤ w ∧ w ≤ 5) (hκ : κ < 2 ^ 18) :
    ∃ v G', fX5_comesBy N (nI f) (nI t) (nI w) (nI κ) (nI (B 2)) Gm trm = some (v, G', trm) ∧ (¬ v = -9 ∧ G' 10 4 = a ↔ wthS A B f t w a κ) ∧ ∀ c, c ≠ 10 → G' c = Gm c := by
  have hn2 := hB.2.2.1
  have hp := pow_le64 hA.2.2.2.2.1
  obtain ⟨G1, q1, k1, s1⟩ := fm_comesBy2 (trm := trm) hA hB hN y (κ := κ) (q := B 2) hf ht hw hκ (by omega)
  refine ⟨_, G1, q1, ?_, k1⟩
  unfold wthS
  cases hc : cbS A B f t w κ (B 2) with
  | none => exact ⟨fun z => absurd rfl z.1, fun ⟨k, h, _⟩ => by cases h⟩
  | some k =>
    have hk := cb_lt hc
    have e := (s1 k hc) 4 (by omega)
    rw [Nat.zero_add] at e
    exact ⟨fun z => ⟨k, rfl, e.symm.trans z.2⟩, fun ⟨k', h, h2⟩ => by cases h; exact ⟨nI_neg (by omega) (by decide), e.trans h2⟩⟩
theorem fw_cw_loop (hA : okA A) (hB : okB A B) {N : Nat} (hN : 1000 < N) {f t w : Nat} (a : Int32) (hf : f < A 0 2) (ht : t < A 0 2) (hw : 1 ≤ w ∧ w ≤ 5) {P : Nat → Prop} (hP : ∀ κ, wthS A B f t w a κ ↔ P κ) : ∀ (d i n : Nat) (G : zMem), i + d = 12 → d < n → cX A B G → (∀ κ, κ < i → ¬ P κ) →
    ∃ v G', fX4_comesWith_L3 N (nI f) (nI t) (nI w) a n (nI i) G tr = some (v, G', tr) ∧ (v = 0 ↔ ¬ ∃ κ, κ < 12 ∧ P κ) ∧ ∀ c, c ≠ 13 → G' c = G c := by
  intro d
  induction d with
  | zero =>
    intro i n G hi hn x hk
    obtain ⟨n, rfl⟩ : ∃ k, n = k + 1 := ⟨n - 1, by omega⟩
    refine ⟨0, G, ?_, ⟨fun _ ⟨w, b, c⟩ => hk w (by omega) c, fun _ => rfl⟩, fun _ _ => rfl⟩
    rw [fX4_comesWith_L3, fX4_comesWith_b3, show (12 : Int32) = nI 12 from rfl, if_pos (nI_le (by omega) (by omega)), zbo_0]
  | succ d ih =>
    intro i n G hi hn x hk
    obtain ⟨n, rfl⟩ : ∃ k, n = k + 1 := ⟨n - 1, by omega⟩
    obtain ⟨v, G1, q1, hv, k1⟩ := fw_cw (tr := tr) hA hB hN x (κ := i) a hf ht hw (by omega)
    rw [hP] at hv
    rw [fX4_comesWith_L3, fX4_comesWith_b3, show (12 : Int32) = nI 12 from rfl, if_neg (nI_ge (by omega) (by omega)), x.2.2.2.2.1, q1, zbd_ok]
    have more : ¬ P i → ∃ u G', fX4_comesWith_b45 N (nI f) (nI t) (nI w) a (fX4_comesWith_L3 N (nI f) (nI t) (nI w) a n) (nI i) G1 tr = some (u, G', tr) ∧ (u = 0 ↔ ¬ ∃ κ, κ < 12 ∧ P κ) ∧ ∀ c, c ≠ 13 → G' c = G c := fun hno => by
      obtain ⟨u, G2, q2, h2, k2⟩ := ih (i + 1) n G1 (by omega) (by omega) (cX_keep hB.2.1 x (fun c h1 _ => k1 c h1)) (fun κ h => by
        by_cases hi : κ = i
        · rw [hi]; exact hno
        · exact hk κ (by omega))
      exact ⟨u, G2, by rw [fX4_comesWith_b45, nI_1, q2], h2, fun c hc => by rw [k2 c hc, k1 c hc]⟩
    by_cases h9 : v = -9
    · rw [if_pos h9]
      exact more (fun z => (hv.mpr z).1 h9)
    · rw [if_neg h9]
      by_cases h4 : G1 13 4 = a
      · rw [if_pos h4, zbo_1]
        exact ⟨1, G1, rfl, ⟨fun z => absurd z (by decide), fun z => absurd ⟨i, by omega, hv.mp ⟨h9, h4⟩⟩ z⟩, k1⟩
      · rw [if_neg h4]
        exact more (fun z => h4 (hv.mpr z).2)
theorem fm_cw_loop (hA : okA A) (hB : okB A B) {N : Nat} (hN : 1000 < N) {f t w : Nat} (a : Int32) (hf : f < A 0 2) (ht : t < A 0 2) (hft : ¬ nI f = nI t) (hw : 1 ≤ w ∧ w ≤ 5) (k48 : Int32 → Int32 → zMem → Int64 → zR) {P : Nat → Prop} (hP : ∀ κ, wthS A B f t w a κ ↔ P κ) {S : Int32} : ∀ (d i n : Nat) (s : Int32) (G : zMem), i + d = 12 → d < n → cM A B G → (¬ (∃ κ, κ < i ∧ P κ) ∧ s = S ∨ (∃ κ, κ < i ∧ P κ) ∧ s = S ||| (1 <<< (nI f &&& 31))) →
    ∃ r G', fX5_who_L62 N (nI t) (nI w) a k48 n s (nI f) (nI i) G tr = fX5_who_b137 N (nI t) (nI w) a k48 r (nI f) G' tr ∧ (¬ (∃ κ, κ < 12 ∧ P κ) ∧ r = S ∨ (∃ κ, κ < 12 ∧ P κ) ∧ r = S ||| (1 <<< (nI f &&& 31))) ∧ ∀ c, c ≠ 10 → G' c = G c := by
  have hn2 := hB.2.2.1
  have hp := pow_le64 hA.2.2.2.2.1
  intro d
  induction d with
  | zero =>
    intro i n s G hi hn x hs
    obtain ⟨n, rfl⟩ : ∃ k, n = k + 1 := ⟨n - 1, by omega⟩
    have hi' : i = 12 := by omega
    subst hi'
    refine ⟨s, G, ?_, hs, fun _ _ => rfl⟩
    rw [fX5_who_L62, fX5_who_b62, show (12 : Int32) = nI 12 from rfl, if_pos (nI_le (by omega) (by omega))]
  | succ d ih =>
    intro i n s G hi hn x hs
    obtain ⟨n, rfl⟩ : ∃ k, n = k + 1 := ⟨n - 1, by omega⟩
    obtain ⟨v, G1, q1, hv, k1⟩ := fm_cw (trm := tr) hA hB hN x (κ := i) a hf ht hw (by omega)
    rw [hP] at hv
    have e2 := x.2 2 (by omega)
    rw [Nat.zero_add] at e2
    have x1 := cM_keep x (fun c h => k1 c (by omega))
    rw [fX5_who_L62, fX5_who_b62, show (12 : Int32) = nI 12 from rfl, if_neg (nI_ge (by omega) (by omega)), if_neg hft, zin_lit 2 45 (i := 2) rfl (by omega) (by omega), show Int32.toNatClampNeg 2 = 2 from rfl, e2, q1, zbd_ok, zin_lit 4 6 (i := 4) rfl (by omega) (by omega), show Int32.toNatClampNeg 4 = 4 from rfl]
    have more : ¬ P i → ∃ r G', fX5_who_b110 N (nI t) (nI w) a k48 (fX5_who_L62 N (nI t) (nI w) a k48 n) s (nI f) (nI i) G1 tr = fX5_who_b137 N (nI t) (nI w) a k48 r (nI f) G' tr ∧ (¬ (∃ κ, κ < 12 ∧ P κ) ∧ r = S ∨ (∃ κ, κ < 12 ∧ P κ) ∧ r = S ||| (1 <<< (nI f &&& 31))) ∧ ∀ c, c ≠ 10 → G' c = G c := fun hno => by
      have step : ∀ w, w < i + 1 → P w → w < i := fun w h1 h2 => by
        by_cases h : w = i
        · rw [h] at h2; exact absurd h2 hno
        · omega
      obtain ⟨r, G2, q2, h2, k2⟩ := ih (i + 1) n s G1 (by omega) (by omega) x1 (by
        rcases hs with ⟨h3, h4⟩ | ⟨⟨w, h3, h4⟩, h6⟩
        · exact Or.inl ⟨fun ⟨w, a, b⟩ => h3 ⟨w, step w a b, b⟩, h4⟩
        · exact Or.inr ⟨⟨w, by omega, h4⟩, h6⟩)
      exact ⟨r, G2, by rw [fX5_who_b110, fX5_who_b111, if_pos rfl, fX5_who_b128, Int32.or_zero, nI_1, q2], h2, fun c hc => by rw [k2 c hc, k1 c hc]⟩
    by_cases h9 : v = -9
    · rw [if_pos h9]
      exact more (fun z => (hv.mpr z).1 h9)
    · rw [if_neg h9]
      by_cases h4 : G1 10 4 = a
      · obtain ⟨r, G2, q2, h2, k2⟩ := ih (i + 1) n (s ||| (1 <<< (nI f &&& 31))) G1 (by omega) (by omega) x1 (Or.inr ⟨⟨i, by omega, hv.mp ⟨h9, h4⟩⟩, by
          rcases hs with ⟨h3, h4⟩ | ⟨h3, h4⟩
          · rw [h4]
          · rw [h4, or_again]⟩)
        refine ⟨r, G2, ?_, h2, fun c hc => by rw [k2 c hc, k1 c hc]⟩
        rw [if_pos h4, fX5_who_b111, if_neg (by decide), fX5_who_b128, nI_1, q2]
      · rw [if_neg h4]
        exact more (fun z => h4 (hv.mpr z).2)
theorem who_loop (hA : okA A) (hB : okB A B) {N : Nat} (hN : 1000 < N) {t w : Nat} (a : Int32) (ht : t < A 0 2) (hw : 1 ≤ w ∧ w ≤ 5) : ∀ (d i n n' : Nat) (s : Int32) (G Gm : zMem), i + d = A 0 2 → d < n → d < n' → cX A B G → cM A B Gm →
    ∃ v G' Gm', fX4_who_L44 N (nI t) (nI w) a n s (nI i) G tr = some (v, G', tr) ∧ (∀ c, c ≠ 13 → G' c = G c) ∧ fX5_who_L48 N (nI t) (nI w) a n' s (nI i) Gm trm = some (v, Gm', trm) ∧ ∀ c, c ≠ 10 → Gm' c = Gm c := by
  have hi6 := hA.2.2.2.2.1
  intro d
  induction d with
  | zero =>
    intro i n n' s G Gm hi hn hn' x y
    obtain ⟨n, rfl⟩ : ∃ k, n = k + 1 := ⟨n - 1, by omega⟩
    obtain ⟨n', rfl⟩ : ∃ k, n' = k + 1 := ⟨n' - 1, by omega⟩
    have e2 := y.1.1 2 (by omega)
    refine ⟨s, G, Gm, ?_, fun _ _ => rfl, ?_, fun _ _ => rfl⟩
    · rw [fX4_who_L44, fX4_who_b44, zch_ok x.2.1, x.1.2.2.2.1, if_pos (nI_le (by omega) (by omega))]
    · rw [fX5_who_L48, fX5_who_b48, zin_lit 2 12 (i := 2) rfl (by omega) (by omega), show Int32.toNatClampNeg 2 = 2 from rfl, e2, if_pos (nI_le (by omega) (by omega))]
  | succ d ih =>
    intro i n n' s G Gm hi hn hn' x y
    obtain ⟨n, rfl⟩ : ∃ k, n = k + 1 := ⟨n - 1, by omega⟩
    obtain ⟨n', rfl⟩ : ∃ k, n' = k + 1 := ⟨n' - 1, by omega⟩
    have e2 := y.1.1 2 (by omega)
    rw [fX4_who_L44, fX4_who_b44, zch_ok x.2.1, x.1.2.2.2.1, if_neg (nI_ge (by omega) (by omega))]
    rw [fX5_who_L48, fX5_who_b48, zin_lit 2 12 (i := 2) rfl (by omega) (by omega), show Int32.toNatClampNeg 2 = 2 from rfl, e2, if_neg (nI_ge (by omega) (by omega))]
    by_cases hit : nI i = nI t
    · obtain ⟨v, G2, M2, q2, k2, f2, w2⟩ := ih (i + 1) n n' s G Gm (by omega) (by omega) (by omega) x y
      refine ⟨v, G2, M2, ?_, k2, ?_, w2⟩
      · rw [if_pos hit, fX4_who_b83, nI_1, q2]
      · obtain ⟨M, rfl⟩ : ∃ k, N = k + 1 := ⟨N - 1, by omega⟩
        rw [fX5_who_L62, fX5_who_b62, if_neg (by decide), if_pos hit, fX5_who_b137, nI_1, f2]
    · obtain ⟨P, hP⟩ : ∃ P : Nat → Prop, ∀ κ, wthS A B i t w a κ ↔ P κ := ⟨_, fun _ => Iff.rfl⟩
      obtain ⟨v, G1, q1, hv, k1⟩ := fw_cw_loop (tr := tr) hA hB hN (f := i) (t := t) a (by omega) ht hw hP 12 0 N G (by omega) (by omega) x (fun w h1 => by omega)
      obtain ⟨r, M1, f1, hr, w1⟩ := fm_cw_loop (tr := trm) hA hB hN (f := i) (t := t) a (by omega) ht hit hw (fX5_who_L48 N (nI t) (nI w) a n') hP (S := s) 12 0 N s Gm (by omega) (by omega) y (Or.inl ⟨fun ⟨w, b, _⟩ => by omega, rfl⟩)
      have q1' : fX4_comesWith N (nI i) (nI t) (nI w) a G tr = some (v, G1, tr) := q1
      have f1' : fX5_who_L62 N (nI t) (nI w) a (fX5_who_L48 N (nI t) (nI w) a n') N s (nI i) 0 Gm trm = fX5_who_b137 N (nI t) (nI w) a (fX5_who_L48 N (nI t) (nI w) a n') r (nI i) M1 trm := f1
      obtain ⟨u, G2, M2, q2, k2, f2, w2⟩ := ih (i + 1) n n' r G1 M1 (by omega) (by omega) (by omega) (cX_keep hB.2.1 x (fun c h1 _ => k1 c h1)) (cM_keep y (fun c h => w1 c (by omega)))
      refine ⟨u, G2, M2, ?_, fun c hc => by rw [k2 c hc, k1 c hc], ?_, fun c hc => by rw [w2 c hc, w1 c hc]⟩
      · rw [if_neg hit, q1', zbd_ok]
        rcases hr with ⟨h3, h4⟩ | ⟨h3, h4⟩
        · rw [if_pos (hv.mpr h3), fX4_who_b83, nI_1, ← h4, q2]
        · rw [if_neg (fun z => hv.mp z h3), fX4_who_b83, nI_1, ← h4, q2]
      · rw [f1', fX5_who_b137, nI_1, f2]
theorem op_who (h : Rel G tr Gm trm) {N : Nat} (hN : 1000 < N) (a b c : Int32) : zStp (fX4_who N a b c G tr) (fX5_who N a b c Gm trm) := by
  obtain ⟨A, len, T, B, un, U, K, I, o, x, m, rfl⟩ := h
  have m0 := RM_thrown m
  have ob := o.2.2.2.1
  have hi6 := o.1.2.2.2.2.1
  unfold fX4_who fX5_who fX4_isWeight
  generalize up2 Gm 0 0 0 = G0 at m0 ⊢
  have e2 := (cM_of m0).1.1 2 (by omega)
  rw [fw_isIsle x, fm_isIsle m0, zbd_ok, zbd_ok, zb_if, zb_if]
  rcases zrng a (n := A 0 2) (by omega) with ⟨t, ht, rfl, h1⟩ | hno
  · rw [if_pos h1, if_pos h1, fw_within, fm_in, zbp_ok, zbp_ok, zbo_if, zbp_ok, zb_if, zb_if]
    rcases zrngD b 1 5 (by omega) (by omega) with ⟨w, hw, hw2, rfl, h2⟩ | hno
    · have hr : (1 : Int32) ≤ nI w ∧ nI w ≤ 5 := h2
      rw [if_pos hr, if_pos hr, zch_ok (cX_of x).2.1, (cX_of x).1.2.2.2.1, zin_lit 2 12 (i := 2) rfl (by omega) (by omega), show Int32.toNatClampNeg 2 = 2 from rfl, e2, fw_within, fm_in, zbp_ok, zbp_ok, zb_if, zb_if]
      by_cases h3 : (0 : Int32) ≤ c ∧ c ≤ ((1 : Int32) <<< (nI (A 0 2) &&& 31)) - 1
      · rw [if_pos h3, if_pos h3]
        obtain ⟨v, G2, M2, q2, k2, f2, w2⟩ := who_loop (tr := tr) (trm := tr) o.1 ob hN c ht ⟨hw, hw2⟩ (A 0 2) 0 N N 0 G G0 (by omega) (by omega) (by omega) (cX_of x) (cM_of m0)
        have q2' : fX4_who_L44 N (nI t) (nI w) c N 0 0 G tr = some (v, G2, tr) := q2
        have f2' : fX5_who_L48 N (nI t) (nI w) c N 0 0 G0 tr = some (v, M2, tr) := f2
        rw [q2', f2']
        exact ⟨_, _, _, _, _, rfl, rfl, Rel_mk o (RX_probe o x k2) (RM_trial m0 (fun c hc => by rw [w2 c (by omega)]))⟩
      · rw [if_neg h3, if_neg h3]
        exact ⟨_, _, _, _, _, rfl, rfl, Rel_mk o x m0⟩
    · have hr : ¬ ((1 : Int32) ≤ b ∧ b ≤ 5) := hno
      rw [if_neg hr, if_neg hr]
      exact ⟨_, _, _, _, _, rfl, rfl, Rel_mk o x m0⟩
  · rw [if_neg hno, if_neg hno]
    exact ⟨_, _, _, _, _, rfl, rfl, Rel_mk o x m0⟩
end whs
