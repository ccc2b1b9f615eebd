/-! ===== calls that change the moment of now ===== -/
def clrN (n i : Nat) : Nat := if bitS n i = true then n - 2 ^ i else n
theorem clr_x : ∀ n, n < 64 → ∀ i, i < 6 → nI n &&& ((1 : Int32) <<< (nI i &&& 31) ^^^ (-1)) = nI (clrN n i) := by decide +kernel
theorem clr_m0 : ∀ n, n < 64 → ∀ i, i < 6 → nI n &&& ((1 : Int32) <<< (nI i &&& 31) ^^^ (-1)) ||| (nI 0 <<< (nI i &&& 31)) = nI (clrN n i) := by decide +kernel
theorem clr_m1 : ∀ n, n < 64 → ∀ i, i < 6 → nI n &&& ((1 : Int32) <<< (nI i &&& 31) ^^^ (-1)) ||| (nI 1 <<< (nI i &&& 31)) = nI (n ||| 2 ^ i) := by decide +kernel
theorem clr_le (n i : Nat) : clrN n i ≤ n := by
  unfold clrN; split
  · exact Nat.sub_le _ _
  · exact Nat.le_refl _
theorem letB_up {B : zB} {l k v : Nat} (hk : k < 15) : letB (upN B k v) l = letB B l := by
  funext j
  unfold letB upN
  rw [if_neg (by omega)]
section ops2
variable {G Gm : zMem} {tr trm : Int64}
theorem op_net (h : Rel G tr Gm trm) {N : Nat} (hN : 1000 < N) (a b : Int32) : zStp (fX4_net N a b G tr) (fX5_net N a b Gm trm) := by
  obtain ⟨A, len, T, B, un, U, K, I, o, x, m, rfl⟩ := h
  have m0 := RM_thrown m
  have hi6 := o.1.2.2.2.2.1
  have hn2 := o.2.2.2.1.2.2.1
  have hp := pow_le64 hi6
  unfold fX4_net fX5_net
  generalize up2 Gm 0 0 0 = G0 at m0 ⊢
  rw [fw_isIsle x, fm_isIsle m0, zbd_ok, zbd_ok, zb_if, zb_if, fw_within, fm_in, zbp_ok, zbp_ok, zb_if, zb_if]
  rcases zrng a (n := A 0 2) (by omega) with ⟨i, hi, rfl, h1⟩ | hno
  · rw [if_pos h1, if_pos h1]
    rcases zrngC b 1 (by omega) with ⟨k, hk, rfl, h2⟩ | hb
    · have hr : (0 : Int32) ≤ nI k ∧ nI k ≤ 1 := h2
      rw [if_pos hr, if_pos hr]
      obtain ⟨G1, e1, x1⟩ := fw_remember o x hN tr
      obtain ⟨M1, f1, m1⟩ := fm_notes o m0 hN tr
      have o1 := RO_push o
      rw [e1, f1, zbd_ok, zbd_ok, fX4_bitOf, zbp_ok, zin_lit 2 45 (i := 2) rfl (by omega) (by omega), zin_lit 2 45 (i := 2) rfl (by omega) (by omega), zin_lit 2 45 (i := 2) rfl (by omega) (by omega), show Int32.toNatClampNeg 2 = 2 from rfl]
      have g2 := x1.2.2.2.1.2.2.1
      have s2 := m1.2.2.1 2 (by omega)
      rw [Nat.zero_add] at s2
      rw [g2, s2]
      have main : ∀ v, v < 2 ^ A 0 2 → zStp (some (nI (B 2) >>> (nI i &&& 31) &&& 1, up2 G1 18 2 (nI v), tr)) (some (nI (B 2) >>> (nI i &&& 31) &&& 1, up2 M1 6 2 (nI v), tr)) := by
        intro v hv
        have ob : okB A (upN B 2 v) := ⟨o.2.2.2.1.1, o.2.2.2.1.2.1, hv, fun k hk => by unfold upN; rw [if_neg (by omega)]; exact o.2.2.2.1.2.2.2.1 k hk, fun l hl => by rw [letB_up (by omega)]; exact o.2.2.2.1.2.2.2.2 l hl⟩
        refine ⟨_, _, _, _, _, rfl, rfl, Rel_mk (B := upN B 2 v) ⟨o1.1, o1.2.1, o1.2.2.1, ob, o1.2.2.2.2⟩ (RX_now o1 x1 (fun c hc _ _ => up2_ne _ _ _ (by omega)) ?_) (RM_now m1 (fun c _ h6 _ => up2_ne _ _ _ h6) (by rw [up2_ne _ _ _ (by omega)]) (by rw [up2_ne _ _ _ (by omega)]) ?_)⟩
        · obtain ⟨q0, q1, q2, q3, q4, q5⟩ := x1.2.2.2.1
          refine ⟨by rw [up2_oth (by omega)]; exact q0, by rw [up2_oth (by omega)]; exact q1, by rw [up2_get]; rfl, by rw [up2_oth (by omega)]; exact q3, fun k hk => by rw [up2_ne _ _ _ (by omega)]; unfold upN; rw [if_neg (by omega)]; exact q4 k hk, fun l hl => ?_⟩
          rw [letB_up (by omega)]
          exact repL_keep (q5 l hl) (up2_ne _ _ _ (by omega))
        · intro k hk
          rw [Nat.zero_add]
          have := m1.2.2.1 k hk
          rw [Nat.zero_add] at this
          unfold upN
          by_cases h2k : k = 2
          · rw [if_pos h2k, h2k, up2_get]
          · rw [if_neg h2k, up2_oth h2k]; exact this
      rcases (show k = 0 ∨ k = 1 by omega) with rfl | rfl
      · rw [if_neg (by decide), fX4_net_b71, clr_m0 _ (by omega) _ (by omega), clr_x _ (by omega) _ (by omega)]
        exact main _ (Nat.lt_of_le_of_lt (clr_le _ _) hn2)
      · rw [if_pos (by rfl), fX4_net_b71, bit_or _ (by omega) _ (by omega), clr_m1 _ (by omega) _ (by omega)]
        exact main _ (or_lt _ (by omega) _ (by omega) _ (by omega) hn2 hi)
    · have hr : ¬ ((0 : Int32) ≤ b ∧ b ≤ 1) := hb
      rw [if_neg hr, if_neg hr]
      exact ⟨_, _, _, _, _, rfl, rfl, Rel_mk o x m0⟩
  · rw [if_neg hno, if_neg hno]
    exact ⟨_, _, _, _, _, rfl, rfl, Rel_mk o x m0⟩
theorem op_turn (h : Rel G tr Gm trm) {N : Nat} (hN : 1000 < N) (a b : Int32) : zStp (fX4_turn N a b G tr) (fX5_turn N a b Gm trm) := by
  obtain ⟨A, len, T, B, un, U, K, I, o, x, m, rfl⟩ := h
  have m0 := RM_thrown m
  have ht := o.1.2.2.2.2.2.2.1
  unfold fX4_turn fX5_turn
  generalize up2 Gm 0 0 0 = G0 at m0 ⊢
  rw [fw_within, zbp_ok, zb_if, x.2.2.2.1.2.2.2.1, zin_lit 4 12 (i := 4) rfl (by omega) (by omega), show Int32.toNatClampNeg 4 = 4 from rfl, m0.1.1 4 (by omega), fm_in, zbp_ok, zb_if, fw_within, fm_in, zbp_ok, zbp_ok, zb_if, zb_if]
  rcases zrng a (n := A 0 4) (by omega) with ⟨i, hi, rfl, h1⟩ | hno
  · rw [if_pos h1, if_pos h1]
    rcases zrngC b 4 (by omega) with ⟨v, hv, rfl, h2⟩ | hb
    · have hr : (0 : Int32) ≤ nI v ∧ nI v ≤ 4 := h2
      rw [if_pos hr, if_pos hr]
      obtain ⟨G1, e1, x1⟩ := fw_remember o x hN tr
      obtain ⟨M1, f1, m1⟩ := fm_notes o m0 hN tr
      have o1 := RO_push o
      have q := x1.2.2.2.1
      have s := m1.2.2.1 (3 + i) (by omega)
      rw [Nat.zero_add] at s
      rw [e1, f1, zbd_ok, zbd_ok, show (3 : Int32) = nI 3 from rfl, nI_add, zin_ok (by omega) (by omega), zin_ok (by omega) (by omega), zin_ok (by omega) (by omega), zin_ok (by omega) (by omega), nI_clamp (by omega), nI_clamp (by omega), s, show G1 19 i = nI (B (3 + i)) from q.2.2.2.2.1 i hi]
      have ob : okB A (upN B (3 + i) v) := by
        refine ⟨?_, ?_, ?_, fun k hk => ?_, fun l hl => ?_⟩
        · unfold upN; rw [if_neg (by omega)]; exact o.2.2.2.1.1
        · unfold upN; rw [if_neg (by omega)]; exact o.2.2.2.1.2.1
        · unfold upN; rw [if_neg (by omega)]; exact o.2.2.2.1.2.2.1
        · unfold upN; split
          · exact hv
          · exact o.2.2.2.1.2.2.2.1 k hk
        · rw [letB_up (by omega)]
          exact o.2.2.2.1.2.2.2.2 l (by unfold upN at hl; rw [if_neg (by omega)] at hl; exact hl)
      refine ⟨_, _, _, _, _, rfl, rfl, Rel_mk (B := upN B (3 + i) v) ⟨o1.1, o1.2.1, o1.2.2.1, ob, o1.2.2.2.2⟩ (RX_now o1 x1 (fun c hc _ _ => up2_ne _ _ _ (by omega)) ?_) (RM_now m1 (fun c _ h6 _ => up2_ne _ _ _ h6) (by rw [up2_ne _ _ _ (by omega)]) (by rw [up2_ne _ _ _ (by omega)]) ?_)⟩
      · obtain ⟨q0, q1, q2, q3, q4, q5⟩ := q
        refine ⟨?_, ?_, ?_, ?_, fun k hk => ?_, fun l hl => ?_⟩
        · unfold upN; rw [up2_ne _ _ _ (by omega), if_neg (by omega)]; exact q0
        · unfold upN; rw [up2_ne _ _ _ (by omega), if_neg (by omega)]; exact q1
        · unfold upN; rw [up2_ne _ _ _ (by omega), if_neg (by omega)]; exact q2
        · rw [up2_ne _ _ _ (by omega)]; exact q3
        · unfold upN
          by_cases hki : k = i
          · rw [hki, if_pos rfl]; exact up2_get
          · rw [if_neg (by omega), ← q4 k hk]; exact up2_oth hki
        · rw [letB_up (by omega)]
          exact repL_keep (q5 l (by unfold upN at hl; rw [if_neg (by omega)] at hl; exact hl)) (up2_ne _ _ _ (by omega))
      · intro k hk
        rw [Nat.zero_add]
        have := m1.2.2.1 k hk
        rw [Nat.zero_add] at this
        unfold upN
        by_cases h2k : k = 3 + i
        · rw [if_pos h2k, h2k, up2_get]
        · rw [if_neg h2k, up2_oth h2k]; exact this
    · have hr : ¬ ((0 : Int32) ≤ b ∧ b ≤ 4) := hb
      rw [if_neg hr, if_neg hr]
      exact ⟨_, _, _, _, _, rfl, rfl, Rel_mk o x m0⟩
  · rw [if_neg hno, if_neg hno]
    exact ⟨_, _, _, _, _, rfl, rfl, Rel_mk o x m0⟩
/-! letters let up -/
def newL (A : zA) (f t w : Nat) : zB := fun j => if j = 0 then w else if j = 1 then f else if j = 2 then t else if j = 3 then A 1 f else if j = 4 then 2 ^ f else 0
theorem okL_new {A : zA} (hA : okA A) {f t w : Nat} (hf : f < A 0 2) (ht : t < A 0 2) (hw : 1 ≤ w ∧ w ≤ 5) : okL A (newL A f t w) :=
  ⟨hw.1, hw.2, hf, ht, hA.2.2.2.2.2.2.2.2.2.1 f hf, Nat.pow_lt_pow_right (by omega) hf, by show 0 ≤ 2; omega⟩
theorem fw_letUp {A : zA} (hA : okA A) {ch c : Nat} (g : gX A G ch) (hch : isC ch) (hc : isL c) (N : Nat) {f t w : Nat} (hf : f < A 0 2) : ∃ G', fX1_letUp N c ch (nI f) (nI t) (nI w) G tr = some (0, G', tr) ∧ repL A G' c (newL A f t w) ∧ ∀ k, k ≠ c → G' k = G k := by
  have hi6 := hA.2.2.2.2.1
  have hsep : ch ≠ c ∧ ch + 1 ≠ c := by
    rcases hch with rfl | rfl <;> rcases hc with rfl | rfl | ⟨h1, h2, h3⟩ <;> omega
  unfold fX1_letUp fX0_cellOfIsle
  rw [if_neg (nI_pos (by omega)), show (6 : Int32) = nI 6 from rfl, if_neg (nI_ge (by omega) (by omega)), zin_ok (by omega) (by omega), nI_clamp (by omega), zbd_ok]
  simp only [up2_ne _ _ _ hsep.1, up2_ne _ _ _ hsep.2]
  rw [g.2.2.2.2.2.1 f hf, g.2.2.1, bit_one _ (by omega)]
  refine ⟨_, rfl, ⟨fun j hj => ?_, ?_⟩, fun k hk => by simp only [up2_ne _ _ _ hk]⟩
  · rcases (show j = 0 ∨ j = 1 ∨ j = 2 ∨ j = 3 ∨ j = 4 ∨ j = 5 by omega) with rfl | rfl | rfl | rfl | rfl | rfl <;> simp [up2, upd, newL] <;> rfl
  · rw [up2_get]; rfl
theorem fm_puts {A : zA} (hA : okA A) (g : gM A G) (N : Nat) {r a : Nat} (hr : r = 6 ∨ r = 10 ∨ r = 11) (hat : a + 6 ≤ mLn r) {f t w : Nat} (hf : f < A 0 2) : ∃ G', fX5_puts N r (nI a) (nI f) (nI t) (nI w) G tr = some (0, G', tr) ∧ repR G' r a (newL A f t w) ∧ offR G G' r a := by
  have hi6 := hA.2.2.2.2.1
  have hml := mLn_r hr
  have h3r : (3 : Nat) ≠ r := by omega
  unfold fX5_puts
  rw [bit_one _ (by omega)]
  simp only [show (1 : Int32) = nI 1 from rfl, show (2 : Int32) = nI 2 from rfl, show (3 : Int32) = nI 3 from rfl, show (4 : Int32) = nI 4 from rfl, show (5 : Int32) = nI 5 from rfl, nI_add]
  rw [zin_ok (by omega) (by omega), zin_ok (by omega) (by omega), zin_ok (by omega) (by omega), zin_ok (by omega) (by omega), zin_ok (by omega) (by omega), zin_ok (by omega) (by omega), zin_ok (by omega) (by omega)]
  rw [nI_clamp (show a < 2 ^ 31 by omega), nI_clamp (show a + 1 < 2 ^ 31 by omega), nI_clamp (show a + 2 < 2 ^ 31 by omega), nI_clamp (show a + 3 < 2 ^ 31 by omega), nI_clamp (show a + 4 < 2 ^ 31 by omega), nI_clamp (show a + 5 < 2 ^ 31 by omega), nI_clamp (show f < 2 ^ 31 by omega)]
  simp only [up2_ne _ _ _ h3r]
  rw [g.2.1 f hf]
  refine ⟨_, rfl, fun j hj => ?_, fun c hc => by simp only [up2_ne _ _ _ hc], fun k hk => ?_⟩
  · rcases (show j = 0 ∨ j = 1 ∨ j = 2 ∨ j = 3 ∨ j = 4 ∨ j = 5 by omega) with rfl | rfl | rfl | rfl | rfl | rfl
    · rw [up2_oth (by omega), up2_oth (by omega), up2_oth (by omega), up2_oth (by omega), up2_oth (by omega), Nat.add_zero, up2_get]; rfl
    · rw [up2_oth (by omega), up2_oth (by omega), up2_oth (by omega), up2_oth (by omega), up2_get]; rfl
    · rw [up2_oth (by omega), up2_oth (by omega), up2_oth (by omega), up2_get]; rfl
    · rw [up2_oth (by omega), up2_oth (by omega), up2_get]; rfl
    · rw [up2_oth (by omega), up2_get]; rfl
    · rw [up2_get]; rfl
  · rw [up2_oth (by omega), up2_oth (by omega), up2_oth (by omega), up2_oth (by omega), up2_oth (by omega), up2_oth (by omega)]
/-- a letter more -/
def letsB (A : zA) (B : zB) (f t w : Nat) : zB := fun k => if k = 1 then B 1 + 1 else if 15 + 6 * B 1 ≤ k ∧ k < 21 + 6 * B 1 then newL A f t w (k - (15 + 6 * B 1)) else B k
theorem letB_lets {A : zA} {B : zB} {f t w l : Nat} : letB (letsB A B f t w) l = fun j => if 15 + 6 * B 1 ≤ 15 + 6 * l + j ∧ 15 + 6 * l + j < 21 + 6 * B 1 then newL A f t w (15 + 6 * l + j - (15 + 6 * B 1)) else B (15 + 6 * l + j) := by
  funext j
  unfold letB letsB
  rw [if_neg (by omega)]
theorem okL_eq {A : zA} {L L' : zB} (h : ∀ j, j < 6 → L' j = L j) (o : okL A L) : okL A L' := by
  unfold okL
  rw [h 0 (by omega), h 1 (by omega), h 2 (by omega), h 3 (by omega), h 4 (by omega), h 5 (by omega)]
  exact o
theorem repL_eq {A : zA} {c : Nat} {L L' : zB} (h : ∀ j, j < 6 → L' j = L j) (o : repL A G c L) : repL A G c L' := by
  refine ⟨fun j hj => by rw [h j hj]; exact o.1 j hj, by rw [h 0 (by omega)]; exact o.2⟩
theorem lets_old {A : zA} {B : zB} {f t w l : Nat} (hl : l < B 1) : ∀ j, j < 6 → letB (letsB A B f t w) l j = letB B l j := by
  intro j hj
  rw [letB_lets]
  show (if _ then _ else _) = _
  rw [if_neg (by omega)]; rfl
theorem lets_new {A : zA} {B : zB} {f t w : Nat} : ∀ j, j < 6 → letB (letsB A B f t w) (B 1) j = newL A f t w j := by
  intro j hj
  rw [letB_lets]
  show (if _ then _ else _) = _
  rw [if_pos (by omega)]
  congr 1; omega
theorem okB_lets {A : zA} (hA : okA A) {B : zB} (o : okB A B) (h5 : B 1 < 5) {f t w : Nat} (hf : f < A 0 2) (ht : t < A 0 2) (hw : 1 ≤ w ∧ w ≤ 5) : okB A (letsB A B f t w) := by
  have ht' := hA.2.2.2.2.2.2.1
  refine ⟨?_, ?_, ?_, fun k hk => ?_, fun l hl => ?_⟩
  · unfold letsB; rw [if_neg (by omega), if_neg (by omega)]; exact o.1
  · unfold letsB; rw [if_pos rfl]; omega
  · unfold letsB; rw [if_neg (by omega), if_neg (by omega)]; exact o.2.2.1
  · unfold letsB; rw [if_neg (by omega), if_neg (by omega)]; exact o.2.2.2.1 k hk
  · have hl' : l < B 1 + 1 := by unfold letsB at hl; rw [if_pos rfl] at hl; exact hl
    by_cases hlb : l = B 1
    · subst hlb
      exact okL_eq lets_new (okL_new hA hf ht hw)
    · exact okL_eq (lets_old (by omega)) (o.2.2.2.2 l (by omega))
theorem op_lets (h : Rel G tr Gm trm) {N : Nat} (hN : 1000 < N) (a b w : Int32) : zStp (fX4_lets N a b w G tr) (fX5_lets N a b w Gm trm) := by
  obtain ⟨A, len, T, B, un, U, K, I, o, x, m, rfl⟩ := h
  have m0 := RM_thrown m
  have hi6 := o.1.2.2.2.2.1
  have hl5 := o.2.2.2.1.2.1
  unfold fX4_lets fX5_lets
  generalize up2 Gm 0 0 0 = G0 at m0 ⊢
  rw [fw_isWay x, fm_areTwo m0, zbd_ok, zbd_ok, zb_if, zb_if, fw_weight, fm_in, zbp_ok, zbp_ok, zb_if, zb_if]
  by_cases hab : (0 ≤ a ∧ a ≤ nI (A 0 2) - 1) ∧ (0 ≤ b ∧ b ≤ nI (A 0 2) - 1) ∧ ¬ a = b
  · rw [if_pos hab, if_pos hab]
    by_cases hw : (1 : Int32) ≤ w ∧ w ≤ 5
    · rw [if_pos hw, if_pos hw]
      rcases zrng a (n := A 0 2) (by omega) with ⟨f, hf, rfl, -⟩ | hno
      · rcases zrng b (n := A 0 2) (by omega) with ⟨t, ht, rfl, -⟩ | hno
        · rcases zrngD w 1 5 (by omega) (by omega) with ⟨v, hv1, hv5, rfl, -⟩ | hno
          · have e1 := m0.2.2.1 1 (by omega)
            rw [Nat.zero_add] at e1
            rw [x.2.2.2.1.2.1, zin_lit 1 45 (i := 1) rfl (by omega) (by omega), tnc1, e1]
            by_cases hl : B 1 < 5
            · rw [if_pos (show nI (B 1) < 5 from nI_lt (b := 5) hl (by omega)), if_neg (show ¬ nI (B 1) = 5 from zneI (k := 5) (by omega) (by omega) (by omega))]
              obtain ⟨G1, q1, x1⟩ := fw_remember o x hN tr
              obtain ⟨M1, f1, m1⟩ := fm_notes o m0 hN tr
              have o1 := RO_push o
              have e2 := m1.2.2.1 1 (by omega)
              rw [Nat.zero_add] at e2
              have hcl : isL (21 + B 1) := Or.inr (Or.inr ⟨by omega, by omega, by omega⟩)
              obtain ⟨G2, q2, l2, k2⟩ := fw_letUp (tr := tr) o.1 x1.2.1 (RX_ch x1).2 hcl N (f := f) (t := t) (w := v) hf
              obtain ⟨M2, f2, s2, w2⟩ := fm_puts (tr := tr) o.1 m1.1 N (r := 6) (a := 15 + 6 * B 1) (Or.inl rfl) (by show 15 + 6 * B 1 + 6 ≤ 45; omega) (f := f) (t := t) (w := v) hf
              rw [q1, f1, zbd_ok, zbd_ok, x1.2.2.2.1.2.1, zin_ok (by omega) (by omega), zch_ok (RX_ch x1).1, nI_clamp (by omega), q2, zbd_ok, zin_lit 1 45 (i := 1) rfl (by omega) (by omega), e2, show (15 : Int32) = nI 15 from rfl, show (6 : Int32) = nI 6 from rfl, pk_mul, nI_add, f2, zbd_ok, zin_lit 1 45 (i := 1) rfl (by omega) (by omega), zin_lit 1 45 (i := 1) rfl (by omega) (by omega), zin_lit 1 45 (i := 1) rfl (by omega) (by omega), up2_get, w2.2 1 (by omega), e2, k2 18 (by omega), x1.2.2.2.1.2.1, nI_1, show nI (B 1 + 1) - 1 = nI (B 1) from nI_pred _]
              refine ⟨_, _, _, _, _, rfl, rfl, Rel_mk (B := letsB A B f t v) ⟨o1.1, o1.2.1, o1.2.2.1, okB_lets o.1 o.2.2.2.1 hl hf ht ⟨hv1, hv5⟩, o1.2.2.2.2⟩ (RX_now o1 x1 (fun c hc _ _ => by rw [up2_ne _ _ _ (by omega), k2 c (by omega)]) ?_) (RM_now m1 (fun c _ h6 _ => by rw [up2_ne _ _ _ h6, w2.1 c h6]) (by rw [up2_ne _ _ _ (by omega), w2.1 0 (by omega)]) (by rw [up2_ne _ _ _ (by omega), w2.1 0 (by omega)]) ?_)⟩
              · obtain ⟨z0, z1, z2, z3, z4, z5⟩ := x1.2.2.2.1
                have ht' := o.1.2.2.2.2.2.2.1
                refine ⟨?_, ?_, ?_, ?_, fun k hk => ?_, fun l hll => ?_⟩
                · unfold letsB; rw [up2_oth (by omega), k2 18 (by omega), if_neg (by omega), if_neg (by omega)]; exact z0
                · unfold letsB; rw [up2_get, if_pos rfl]
                · unfold letsB; rw [up2_oth (by omega), k2 18 (by omega), if_neg (by omega), if_neg (by omega)]; exact z2
                · rw [up2_oth (by omega), k2 18 (by omega)]; exact z3
                · unfold letsB; rw [up2_ne _ _ _ (by omega), k2 19 (by omega), if_neg (by omega), if_neg (by omega)]; exact z4 k hk
                · have hl' : l < B 1 + 1 := by unfold letsB at hll; rw [if_pos rfl] at hll; exact hll
                  by_cases hlb : l = B 1
                  · subst hlb
                    exact repL_eq lets_new (repL_keep l2 (up2_ne _ _ _ (by omega)))
                  · exact repL_eq (lets_old (by omega)) (repL_keep (z5 l (by omega)) (by rw [up2_ne _ _ _ (by omega), k2 _ (by omega)]))
              · intro k hk
                rw [Nat.zero_add]
                have z := m1.2.2.1 k hk
                rw [Nat.zero_add] at z
                unfold letsB
                by_cases h1k : k = 1
                · rw [if_pos h1k, h1k, up2_get]
                · rw [if_neg h1k, up2_oth h1k]
                  by_cases hin : 15 + 6 * B 1 ≤ k ∧ k < 21 + 6 * B 1
                  · rw [if_pos hin]
                    have := s2 (k - (15 + 6 * B 1)) (by omega)
                    rw [show 15 + 6 * B 1 + (k - (15 + 6 * B 1)) = k by omega] at this
                    exact this
                  · rw [if_neg hin, w2.2 k (by omega)]; exact z
            · rw [show B 1 = 5 by omega, if_neg (by decide), if_pos (by rfl)]
              exact ⟨_, _, _, _, _, rfl, rfl, Rel_mk o x m0⟩
          · exact absurd hw hno
        · exact absurd hab.2.1 hno
      · exact absurd hab.1 hno
    · rw [if_neg hw, if_neg hw]
      exact ⟨_, _, _, _, _, rfl, rfl, Rel_mk o x m0⟩
  · rw [if_neg hab, if_neg hab]
    exact ⟨_, _, _, _, _, rfl, rfl, Rel_mk o x m0⟩
end ops2
