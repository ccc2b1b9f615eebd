/-! ===== images, counts, kinds, knees, drifts ===== -/
theorem fm_keep18 {N a : Nat} {tr : Int64} (ha : a < 2) {B : zB} : ∀ (d i n : Nat) (G : zMem), i + d = 45 → d < n → mM G 6 0 B → ∃ G', fX5_keep_L18 N (nI a) n (nI i) G tr = some (nI (B 0), up2 G' 8 a 1, tr) ∧ (∀ c, c ≠ 7 → G' c = G c) ∧ (∀ k, (k < 45 * a + i ∨ 45 * a + 45 ≤ k) → G' 7 k = G 7 k) ∧ ∀ k, i ≤ k → k < 45 → G' 7 (45 * a + k) = nI (B k) := by
  intro d
  induction d with
  | zero =>
    intro i n G hi hn m
    obtain ⟨n, rfl⟩ : ∃ k, n = k + 1 := ⟨n - 1, by omega⟩
    have m0 := m 0 (by omega)
    rw [Nat.zero_add] at m0
    refine ⟨G, ?_, fun _ _ => rfl, fun _ _ => rfl, fun k h1 h2 => by omega⟩
    rw [fX5_keep_L18, fX5_keep_b18, show (45 : Int32) = nI 45 from rfl, if_pos (nI_le (by omega) (by omega)), zin_ok ha (by omega), zbo_1, zin_lit 0 45 (i := 0) rfl (by omega) (by omega), nI_clamp (by omega), tnc0, up2_ne _ _ _ (by omega), m0]
  | succ d ih =>
    intro i n G hi hn m
    obtain ⟨n, rfl⟩ : ∃ k, n = k + 1 := ⟨n - 1, by omega⟩
    have mi := m i (by omega)
    rw [Nat.zero_add] at mi
    obtain ⟨G2, e2, k2, w2, v2⟩ := ih (i + 1) n (up2 G 7 (45 * a + i) (nI (B i))) (by omega) (by omega) (by unfold mM; rw [up2_ne _ _ _ (by omega)]; exact m)
    refine ⟨G2, ?_, fun c hc => by rw [k2 c hc, up2_ne _ _ _ hc], fun k hk => by rw [w2 k (by omega), up2_oth (by omega)], fun k h1 h2 => ?_⟩
    · rw [fX5_keep_L18, fX5_keep_b18, show (45 : Int32) = nI 45 from rfl, if_neg (nI_ge (by omega) (by omega)), zin_ok (by omega) (by omega), pk_mul, nI_add, zin_ok (by omega) (by omega), nI_clamp (by omega), nI_clamp (by omega), mi, nI_1, e2]
    · by_cases hl : k = i
      · subst hl; rw [w2 _ (by omega), up2_get]
      · exact v2 k (by omega) h2
theorem fm_back30 {N a : Nat} {tr : Int64} (ha : a < 2) {B : zB} : ∀ (d i n : Nat) (G : zMem), i + d = 45 → d < n → mM G 7 (45 * a) B → (∀ k, k < i → G 6 k = nI (B k)) → ∃ G', fX5_back_L30 N (nI a) n (nI i) G tr = some (nI (B 0), up2 G' 0 18 0, tr) ∧ (∀ c, c ≠ 6 → G' c = G c) ∧ ∀ k, k < 45 → G' 6 k = nI (B k) := by
  intro d
  induction d with
  | zero =>
    intro i n G hi hn m hk
    obtain ⟨n, rfl⟩ : ∃ k, n = k + 1 := ⟨n - 1, by omega⟩
    refine ⟨G, ?_, fun _ _ => rfl, fun k h => hk k (by omega)⟩
    rw [fX5_back_L30, fX5_back_b30, show (45 : Int32) = nI 45 from rfl, if_pos (nI_le (by omega) (by omega)), zin_lit 0 45 (i := 0) rfl (by omega) (by omega), tnc0, up2_ne _ _ _ (by omega), hk 0 (by omega)]
  | succ d ih =>
    intro i n G hi hn m hk
    obtain ⟨n, rfl⟩ : ∃ k, n = k + 1 := ⟨n - 1, by omega⟩
    obtain ⟨G2, e2, k2, v2⟩ := ih (i + 1) n (up2 G 6 i (nI (B i))) (by omega) (by omega) (by unfold mM; rw [up2_ne _ _ _ (by omega)]; exact m) (fun k h => by
      by_cases hki : k = i
      · rw [hki, up2_get]
      · rw [up2_oth hki]; exact hk k (by omega))
    refine ⟨G2, ?_, fun c hc => by rw [k2 c hc, up2_ne _ _ _ hc], v2⟩
    rw [fX5_back_L30, fX5_back_b30, show (45 : Int32) = nI 45 from rfl, if_neg (nI_ge (by omega) (by omega)), pk_mul, nI_add, zin_ok (by omega) (by omega), zin_ok (by omega) (by omega), nI_clamp (by omega), nI_clamp (by omega), m i (by omega), nI_1, e2]
section ops4
variable {G Gm : zMem} {tr trm : Int64}
theorem op_keep (h : Rel G tr Gm trm) {N : Nat} (hN : 1000 < N) (a : Int32) : zStp (fX4_keep N a G tr) (fX5_keep N a Gm trm) := by
  obtain ⟨A, len, T, B, un, U, K, I, o, x, m, rfl⟩ := h
  have m0 := RM_thrown m
  have hc := RX_ch x
  unfold fX4_keep fX5_keep
  generalize up2 Gm 0 0 0 = G0 at m0 ⊢
  rw [fw_within, fm_in, zbp_ok, zbp_ok, zb_if, zb_if]
  rcases zrngC a 1 (by omega) with ⟨i, hi, rfl, h2⟩ | hb
  · have hr : (0 : Int32) ≤ nI i ∧ nI i ≤ 1 := h2
    rw [if_pos hr, if_pos hr]
    obtain ⟨G1, e1, k1, m1⟩ := fw_copy (N := N) (by omega) tr (t := 106 + 8 * i) (a := 18) (by omega) o.1 o.2.2.2.1.2.1 x.2.2.2.1
    obtain ⟨M1, f1, w1, w2, v1⟩ := fm_keep18 (tr := tr) (N := N) (a := i) (by omega) (B := B) 45 0 N G0 (by omega) (by omega) m0.2.2.1
    have f1' : fX5_keep_L18 N (nI i) N 0 G0 tr = some (nI (B 0), up2 M1 8 i 1, tr) := f1
    rw [zin_ok (by omega) (by omega), nI_clamp (by omega), e1, zbd_ok, zin_ok (by omega) (by omega), zbo_1, f1', up2_ne _ _ _ (show (18 : Nat) ≠ 17 by omega), k1 18 (by omega), x.2.2.2.1.1]
    refine ⟨_, _, _, _, _, rfl, rfl, Rel_mk (K := va_up K i true) (I := va_up I i B) ⟨o.1, o.2.1, o.2.2.1, o.2.2.2.1, o.2.2.2.2.1, o.2.2.2.2.2.1, fun j hj hK => ?_⟩ ?_ ?_⟩
    · by_cases hji : j = i
      · rw [hji, va_up_self]; exact o.2.2.2.1
      · rw [va_up_ne _ _ hji] at hK ⊢; exact o.2.2.2.2.2.2 j hj hK
    · obtain ⟨a1, a2, a3, a4, ⟨a5, pn, a6, a7, a8⟩, a9, a10⟩ := x
      generalize hG2 : up2 G1 17 i 1 = G2
      have z17 : ∀ c, c ≠ 17 → G2 c = G1 c := fun c h => by rw [← hG2, up2_ne _ _ _ h]
      have kk : ∀ c, c ≠ 17 → (c < 106 + 8 * i ∨ 106 + 8 * i + 8 ≤ c) → G2 c = G c := fun c h0 h => by rw [z17 c h0, k1 c h]
      have k0 := kk 0 (by omega) (by omega)
      refine ⟨by rw [k0]; exact a1, ?_, by rw [kk 1 (by omega) (by omega), kk 2 (by omega) (by omega)]; exact a3, mX_keep o.2.2.2.1.2.1 (fun c _ _ => kk c (by omega) (by omega)) a4, ⟨by rw [k0]; exact a5, pn, a6, by rw [k0]; exact a7, fun j hj => mX_keep (o.2.2.2.2.2.1 j hj).2.1 (fun c _ _ => kk c (by omega) (by omega)) (a8 j hj)⟩, fun j hj => ?_, fun j hj hK => ?_⟩
      · rw [k0]
        refine gX_keep a2 (fun c h1 h2 => kk c ?_ ?_) <;> rcases hc.2 with e | e <;> omega
      · by_cases hji : j = i
        · rw [hji, va_up_self, if_pos rfl, ← hG2, up2_get]
        · rw [va_up_ne _ _ hji, ← hG2, up2_oth hji, k1 17 (by omega)]; exact a9 j hj
      · by_cases hji : j = i
        · rw [hji, va_up_self]
          exact mX_keep o.2.2.2.1.2.1 (fun c _ _ => z17 c (by omega)) m1
        · rw [va_up_ne _ _ hji] at hK ⊢
          exact mX_keep (o.2.2.2.2.2.2 j hj hK).2.1 (fun c _ _ => kk c (by omega) (by omega)) (a10 j hj hK)
    · obtain ⟨b1, b2, b3, ⟨b4, b5⟩, b6, b7⟩ := m0
      have ww : ∀ c, c ≠ 8 → c ≠ 7 → up2 M1 8 i 1 c = G0 c := fun c h8 h7 => by rw [up2_ne _ _ _ h8, w1 c h7]
      unfold RM gM
      rw [ww 0 (by omega) (by omega), ww 1 (by omega) (by omega), ww 2 (by omega) (by omega), ww 3 (by omega) (by omega), ww 4 (by omega) (by omega)]
      refine ⟨b1, b2, by unfold mM; rw [ww 6 (by omega) (by omega)]; exact b3, ⟨b4, by unfold mM; rw [ww 9 (by omega) (by omega)]; exact b5⟩, fun j hj => ?_, fun j hj hK => ?_⟩
      · by_cases hji : j = i
        · rw [hji, va_up_self, if_pos rfl, up2_get]
        · rw [va_up_ne _ _ hji, up2_oth hji, w1 8 (by omega)]; exact b6 j hj
      · intro k hk
        rw [up2_ne _ _ _ (by omega)]
        by_cases hji : j = i
        · rw [hji, va_up_self]; exact v1 k (by omega) hk
        · rw [va_up_ne _ _ hji] at hK ⊢
          rw [w2 _ (by omega)]; exact b7 j hj hK k hk
  · have hr : ¬ ((0 : Int32) ≤ a ∧ a ≤ 1) := hb
    rw [if_neg hr, if_neg hr]
    exact ⟨_, _, _, _, _, rfl, rfl, Rel_mk o x m0⟩
theorem op_back (h : Rel G tr Gm trm) {N : Nat} (hN : 1000 < N) (a : Int32) : zStp (fX4_back N a G tr) (fX5_back N a Gm trm) := by
  obtain ⟨A, len, T, B, un, U, K, I, o, x, m, rfl⟩ := h
  have m0 := RM_thrown m
  have hc := RX_ch x
  unfold fX4_back fX5_back
  generalize up2 Gm 0 0 0 = G0 at m0 ⊢
  rw [fw_within, fm_in, zbp_ok, zbp_ok, zb_if, zb_if]
  rcases zrngC a 1 (by omega) with ⟨i, hi, rfl, h2⟩ | hb
  · have hr : (0 : Int32) ≤ nI i ∧ nI i ≤ 1 := h2
    rw [if_pos hr, if_pos hr, zin_ok (by omega) (by omega), zin_ok (by omega) (by omega), zin_ok (by omega) (by omega), nI_clamp (by omega), x.2.2.2.2.2.1 i (by omega), m0.2.2.2.2.1 i (by omega)]
    by_cases hK : K i = true
    · rw [if_pos hK, if_neg (by decide), if_neg (by decide)]
      have oI := o.2.2.2.2.2.2 i (by omega) hK
      obtain ⟨G1, e1, k1, m1⟩ := fw_copy (N := N) (by omega) tr (t := 18) (a := 106 + 8 * i) (by omega) o.1 oI.2.1 (x.2.2.2.2.2.2 i (by omega) hK)
      obtain ⟨M1, f1, w1, v1⟩ := fm_back30 (tr := tr) (N := N) (a := i) (by omega) (B := I i) 45 0 N G0 (by omega) (by omega) (m0.2.2.2.2.2 i (by omega) hK) (fun k h => by omega)
      have f1' : fX5_back_L30 N (nI i) N 0 G0 tr = some (nI (I i 0), up2 M1 0 18 0, tr) := f1
      rw [e1, zbd_ok, f1', up2_ne _ _ _ (show (18 : Nat) ≠ 0 by omega), m1.1]
      refine ⟨_, _, _, _, _, rfl, rfl, Rel_mk (un := 0) (B := I i) ⟨o.1, o.2.1, o.2.2.1, oI, by omega, fun j hj => by omega, o.2.2.2.2.2.2⟩ ?_ ?_⟩
      · obtain ⟨a1, a2, a3, a4, ⟨a5, pn, a6, a7, a8⟩, a9, a10⟩ := x
        generalize hG2 : up2 G1 0 6 0 = G2
        have z0 : ∀ c, c ≠ 0 → G2 c = G1 c := fun c h => by rw [← hG2, up2_ne _ _ _ h]
        have zk : ∀ k, k ≠ 6 → G2 0 k = G 0 k := fun k h6 => by rw [← hG2, up2_oth h6, k1 0 (by omega)]
        have kk : ∀ c, c ≠ 0 → (c < 18 ∨ 26 ≤ c) → G2 c = G c := fun c h0 h => by rw [z0 c h0, k1 c (by omega)]
        refine ⟨by rw [zk 1 (by omega), zk 2 (by omega)]; exact a1, ?_, by rw [kk 1 (by omega) (by omega), kk 2 (by omega) (by omega)]; exact a3, mX_keep oI.2.1 (fun c _ _ => z0 c (by omega)) m1, ⟨by rw [← hG2, up2_get]; rfl, pn, a6, by rw [zk 5 (by omega)]; exact a7, fun j hj => by omega⟩, by rw [kk 17 (by omega) (by omega)]; exact a9, fun j hj hK => mX_keep (o.2.2.2.2.2.2 j hj hK).2.1 (fun c _ _ => kk c (by omega) (by omega)) (a10 j hj hK)⟩
        rw [zk 1 (by omega)]
        refine gX_keep a2 (fun c h1 h2 => kk c ?_ ?_) <;> rcases hc.2 with e | e <;> omega
      · obtain ⟨b1, b2, b3, ⟨b4, b5⟩, b6, b7⟩ := m0
        have ww : ∀ c, c ≠ 0 → c ≠ 6 → up2 M1 0 18 0 c = G0 c := fun c h0 h6 => by rw [up2_ne _ _ _ h0, w1 c h6]
        unfold RM gM
        rw [ww 1 (by omega) (by omega), ww 2 (by omega) (by omega), ww 3 (by omega) (by omega), ww 4 (by omega) (by omega), ww 8 (by omega) (by omega), up2_oth (show (3 : Nat) ≠ 18 by omega), w1 0 (by omega), up2_get]
        refine ⟨b1, b2, fun k hk => by rw [Nat.zero_add, up2_ne _ _ _ (by omega)]; exact v1 k hk, ⟨rfl, fun j hj => by omega⟩, b6, fun j hj hK => by unfold mM; rw [ww 7 (by omega) (by omega)]; exact b7 j hj hK⟩
    · rw [if_neg hK, if_pos rfl, if_pos rfl]
      exact ⟨_, _, _, _, _, rfl, rfl, Rel_mk o x m0⟩
  · have hr : ¬ ((0 : Int32) ≤ a ∧ a ≤ 1) := hb
    rw [if_neg hr, if_neg hr]
    exact ⟨_, _, _, _, _, rfl, rfl, Rel_mk o x m0⟩
theorem op_count (h : Rel G tr Gm trm) (N : Nat) (a : Int32) : zStp (fX4_count N a G tr) (fX5_count N a Gm trm) := by
  obtain ⟨A, len, T, B, un, U, K, I, o, x, m, rfl⟩ := h
  have m0 := RM_thrown m
  have hc := RX_ch x
  have g := x.2.1
  unfold fX4_count fX5_count
  generalize up2 Gm 0 0 0 = G0 at m0 ⊢
  rw [fm_in, zbp_ok, zb_if]
  simp only [zch_ok hc.1]
  rcases zrngC a 5 (by omega) with ⟨j, hj, rfl, h2⟩ | hb
  · rw [if_pos (show (0 : Int32) ≤ nI j ∧ nI j ≤ 5 from h2), zin_ok (by omega) (by omega), nI_clamp (by omega), m0.1.1 j (by omega)]
    refine ⟨nI (A 0 j), G, tr, G0, tr, ?_, rfl, Rel_mk o x m0⟩
    rcases (show j = 0 ∨ j = 1 ∨ j = 2 ∨ j = 3 ∨ j = 4 ∨ j = 5 by omega) with rfl | rfl | rfl | rfl | rfl | rfl
    · rw [if_pos (by rfl), g.1]
    · rw [if_neg (by decide), if_pos (by rfl), g.2.1]
    · rw [if_neg (by decide), if_neg (by decide), if_pos (by rfl), g.2.2.2.1]
    · rw [if_neg (by decide), if_neg (by decide), if_neg (by decide), if_pos (by rfl), g.2.2.2.2.1]
    · rw [if_neg (by decide), if_neg (by decide), if_neg (by decide), if_neg (by decide), if_pos (by rfl), x.2.2.2.1.2.2.2.1]
    · rw [if_neg (by decide), if_neg (by decide), if_neg (by decide), if_neg (by decide), if_neg (by decide), if_pos (by rfl), g.2.2.1]
  · rw [if_neg (show ¬ ((0 : Int32) ≤ a ∧ a ≤ 5) from hb)]
    have nb : ∀ v : Int32, (0 ≤ v ∧ v ≤ nI 5) → ¬ a = v := fun v hv e => hb (e ▸ hv)
    rw [if_neg (nb 0 (by decide)), if_neg (nb 1 (by decide)), if_neg (nb 2 (by decide)), if_neg (nb 3 (by decide)), if_neg (nb 4 (by decide)), if_neg (nb 5 (by decide)), x.2.2.1.1, m0.2.1.1]
    by_cases h6 : a = 6
    · rw [if_pos h6, if_pos h6]
      exact ⟨_, _, _, _, _, rfl, rfl, Rel_mk o x m0⟩
    · rw [if_neg h6, if_neg h6]
      exact ⟨_, _, _, _, _, rfl, rfl, Rel_mk o x m0⟩
theorem op_trace (h : Rel G tr Gm trm) (N : Nat) : ∃ (r : Int64) (G' : zMem) (tr' : Int64) (Gm' : zMem) (trm' : Int64), fX4_trace N G tr = some (r, G', tr') ∧ fX5_trace N Gm trm = some (r, Gm', trm') ∧ Rel G' tr' Gm' trm' := by
  obtain ⟨A, len, T, B, un, U, K, I, o, x, m, rfl⟩ := h
  exact ⟨_, _, _, _, _, rfl, rfl, Rel_mk o x (RM_thrown m)⟩
/-! rates -/
def cntS (n : Nat) : Nat → Nat
  | 0 => 0
  | i + 1 => cntS n i + (if bitS n i = true then 1 else 0)
theorem cntS_le (n : Nat) : ∀ i, cntS n i ≤ i
  | 0 => by simp [cntS]
  | i + 1 => by rw [cntS]; have := cntS_le n i; split <;> omega
theorem fj_bitCount0 : ∀ n, n < 64 → fJ6_bitCount_0f7a4 0 (nI n) = some (nI (cntS n 6)) := by decide +kernel
theorem fj_bitCount (N : Nat) {n : Nat} (h : n < 64) : fJ6_bitCount_0f7a4 N (nI n) = some (nI (cntS n 6)) := fj_bitCount0 n h
theorem fm_ones_loop (N : Nat) {m : Nat} (hm : m < 64) : ∀ (d i n : Nat), i + d = 6 → d < n → fX5_ones_L4 N (nI m) n (nI (cntS m i)) (nI i) = some (nI (cntS m 6)) := by
  intro d
  induction d with
  | zero =>
    intro i n hi hn
    obtain ⟨n, rfl⟩ : ∃ k, n = k + 1 := ⟨n - 1, by omega⟩
    rw [fX5_ones_L4, fX5_ones_b4, show (6 : Int32) = nI 6 from rfl, if_pos (nI_le (by omega) (by omega)), show i = 6 by omega]
  | succ d ih =>
    intro i n hi hn
    obtain ⟨n, rfl⟩ : ∃ k, n = k + 1 := ⟨n - 1, by omega⟩
    have hih := ih (i + 1) n (by omega) (by omega)
    rw [fX5_ones_L4, fX5_ones_b4, show (6 : Int32) = nI 6 from rfl, if_neg (nI_ge (by omega) (by omega)), bit_get _ hm _ (by omega), nI_1]
    rw [cntS] at hih
    by_cases hb : bitS m i = true
    · rw [if_pos hb] at hih ⊢
      rw [nI_1]; exact hih
    · rw [if_neg hb] at hih ⊢
      rw [show (0 : Int32) = nI 0 from rfl, nI_add]; exact hih
theorem fm_ones {N : Nat} (hN : 100 < N) {m : Nat} (hm : m < 64) : fX5_ones N (nI m) = some (nI (cntS m 6)) := fm_ones_loop N hm 6 0 N (by omega) (by omega)
theorem op_rate (h : Rel G tr Gm trm) {N : Nat} (hN : 1000 < N) (a b : Int32) : zStp (fX4_rate N a b G tr) (fX5_rate N a b Gm trm) := by
  obtain ⟨A, len, T, B, un, U, K, I, o, x, m, rfl⟩ := h
  have m0 := RM_thrown m
  have hl5 := o.2.2.2.1.2.1
  have hp := pow_le64 o.1.2.2.2.2.1
  unfold fX4_rate fX5_rate
  generalize up2 Gm 0 0 0 = G0 at m0 ⊢
  rw [fw_isLetter x, zbd_ok, zb_if, fm_in, zbp_ok, zb_if, fm_isLetter m0, zbd_ok, zb_if]
  rcases zrng b (n := B 1) (by omega) with ⟨l, hl, rfl, h1⟩ | hno
  · rw [if_pos h1, if_pos h1]
    have hL := o.2.2.2.1.2.2.2.2 l hl
    have hv : ∀ j, j < 6 → G (21 + l) j = nI (letB B l j) := fun j hj => (x.2.2.2.1.2.2.2.2.2 l hl).1 j hj
    have hm : ∀ j, j < 6 → G0 6 (15 + 6 * l + j) = nI (letB B l j) := by
      intro j hj
      have := m0.2.2.1 (15 + 6 * l + j) (by omega)
      rw [Nat.zero_add] at this
      exact this
    have hm0 := hm 0 (by omega)
    rw [Nat.add_zero] at hm0
    have e0 := m0.2.2.1 0 (by omega)
    rw [Nat.zero_add] at e0
    have rl : ∀ t : Int64, fX4_rateLetter N (nI l) G t = some (nI (letB B l 0), G, t + 1) := by
      intro t; unfold fX4_rateLetter; rw [zin_ok (by omega) (by omega), nI_clamp (by omega), hv 0 (by omega)]
    have rs : ∀ t : Int64, fX4_rateSummons N (nI l) G t = some (nI (letB B l 0) + nI (cntS (letB B l 4) 6), G, t + 10 + 1) := by
      intro t; unfold fX4_rateSummons
      rw [rl, zbd_ok, zin_ok (by omega) (by omega), nI_clamp (by omega), hv 4 (by omega), fj_bitCount N (by have := hL.2.2.2.2.2.1; omega), zbp_ok]
    have rg : ∀ t : Int64, fX4_rateGoose N (nI l) G t = some (nI (letB B l 0) - nI (letB B l 3), G, t + 100 + 1) := by
      intro t; unfold fX4_rateGoose
      rw [rl, zbd_ok, zin_ok (by omega) (by omega), nI_clamp (by omega), hv 3 (by omega)]
    rcases zrngC a 5 (by omega) with ⟨j, hj, rfl, h2⟩ | hb
    · rw [if_pos (show (0 : Int32) ≤ nI j ∧ nI j ≤ 5 from h2)]
      simp only [show (15 : Int32) = nI 15 from rfl, show (6 : Int32) = nI 6 from rfl, pk_mul, nI_add]
      rw [show nI (15 + 6 * l) + 4 = nI (15 + 6 * l + 4) from nI_add _ _, show nI (15 + 6 * l) + 3 = nI (15 + 6 * l + 3) from nI_add _ _, zin_ok (by omega) (by omega), zin_ok (by omega) (by omega), nI_clamp (show 15 + 6 * l + 4 < 2 ^ 31 by omega), hm 4 (by omega), fm_ones (by omega) (by have := hL.2.2.2.2.2.1; omega), zbp_ok, zin_ok (by omega) (by omega), nI_clamp (show 15 + 6 * l < 2 ^ 31 by omega), nI_clamp (show 15 + 6 * l + 3 < 2 ^ 31 by omega), hm 3 (by omega), hm0]
      rcases (show j = 0 ∨ j = 1 ∨ j = 2 ∨ j = 3 ∨ j = 4 ∨ j = 5 by omega) with rfl | rfl | rfl | rfl | rfl | rfl
      · rw [if_pos (by rfl), rl, zbd_ok, if_pos (by rfl), fX5_rate_b130, if_pos (by rfl)]
        exact ⟨_, _, _, _, _, rfl, rfl, Rel_mk o x m0⟩
      · rw [if_neg (by decide), if_pos (by rfl), rs, zbd_ok, if_neg (by decide), if_pos (by rfl), fX5_rate_b130, if_neg (by decide), if_pos (by rfl), Int64.add_assoc]
        exact ⟨_, _, _, _, _, rfl, rfl, Rel_mk o x m0⟩
      · rw [if_neg (by decide), if_neg (by decide), if_pos (by rfl), rg, zbd_ok, if_neg (by decide), if_neg (by decide), if_pos (by rfl), fX5_rate_b130, if_neg (by decide), if_neg (by decide), if_pos (by rfl), Int64.add_assoc]
        exact ⟨_, _, _, _, _, rfl, rfl, Rel_mk o x m0⟩
      · rw [if_neg (by decide), if_neg (by decide), if_neg (by decide), if_pos (by rfl), fX4_rateBill, rs, zbd_ok, zbd_ok, if_neg (by decide), if_neg (by decide), if_neg (by decide), if_pos (by rfl), fX5_rate_b130, if_neg (by decide), if_neg (by decide), if_neg (by decide), if_pos (by rfl), Int64.add_assoc, Int64.add_assoc]
        exact ⟨_, _, _, _, _, rfl, rfl, Rel_mk o x m0⟩
      · rw [if_neg (by decide), if_neg (by decide), if_neg (by decide), if_neg (by decide), if_pos (by rfl), fX4_rateVow, rg, zbd_ok, zbd_ok, if_neg (by decide), if_neg (by decide), if_neg (by decide), if_neg (by decide), if_pos (by rfl), fX5_rate_b130, if_neg (by decide), if_neg (by decide), if_neg (by decide), if_neg (by decide), if_pos (by rfl), Int64.add_assoc, Int64.add_assoc]
        exact ⟨_, _, _, _, _, rfl, rfl, Rel_mk o x m0⟩
      · rw [if_neg (by decide), if_neg (by decide), if_neg (by decide), if_neg (by decide), if_neg (by decide), if_pos (by rfl), fX4_rateKite, rl, zbd_ok, zbd_ok, if_neg (by decide), if_neg (by decide), if_neg (by decide), if_neg (by decide), if_neg (by decide), fX5_rate_b130, if_neg (by decide), if_neg (by decide), if_neg (by decide), if_neg (by decide), if_neg (by decide), zin_lit 0 45 (i := 0) rfl (by omega) (by omega), tnc0, e0, x.2.2.2.1.1, Int64.add_assoc]
        exact ⟨_, _, _, _, _, rfl, rfl, Rel_mk o x m0⟩
    · rw [if_neg (show ¬ ((0 : Int32) ≤ a ∧ a ≤ 5) from hb)]
      have nb : ∀ v : Int32, (0 ≤ v ∧ v ≤ nI 5) → ¬ a = v := fun v hv e => hb (e ▸ hv)
      rw [if_neg (nb 0 (by decide)), if_neg (nb 1 (by decide)), if_neg (nb 2 (by decide)), if_neg (nb 3 (by decide)), if_neg (nb 4 (by decide)), if_neg (nb 5 (by decide))]
      exact ⟨_, _, _, _, _, rfl, rfl, Rel_mk o x m0⟩
  · rw [if_neg hno, if_neg hno]
    by_cases hr : (0 : Int32) ≤ a ∧ a ≤ 5
    · rw [if_pos hr]
      exact ⟨_, _, _, _, _, rfl, rfl, Rel_mk o x m0⟩
    · rw [if_neg hr]
      exact ⟨_, _, _, _, _, rfl, rfl, Rel_mk o x m0⟩
end ops4
