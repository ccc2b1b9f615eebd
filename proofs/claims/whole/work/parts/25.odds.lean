/-! ===== odds ===== -/
section ods
variable {A : zA} {B : zB} {G Gm : zMem} {tr trm : Int64}
theorem gcd_both {N : Nat} (a0 a1 b0 b1 : Int32) : ∀ (k x y z n n' : Nat), y < 2 ^ k → k ≤ 30 → x < 2 ^ 31 → z + 2 * k < 100 → 2 * k + 1 < n → 2 * k + 1 < n' →
    ∃ v, fX4_commonDivisor_L7 N a0 a1 n (nI x) (nI y) (nI z) = some (nI v) ∧ fX5_gcd_L4 N b0 b1 n' (nI x) (nI y) = some (nI v) ∧ v < 2 ^ 31 ∧ (0 < x ∨ 0 < y → 0 < v) := by
  intro k
  induction k with
  | zero =>
    intro x y z n n' hy hk hx hz hn hn'
    obtain ⟨n, rfl⟩ : ∃ k, n = k + 1 := ⟨n - 1, by omega⟩
    obtain ⟨n', rfl⟩ : ∃ k, n' = k + 1 := ⟨n' - 1, by omega⟩
    have hy0 : y = 0 := by omega
    subst hy0
    refine ⟨x, ?_, ?_, hx, fun h => by omega⟩
    · rw [fX4_commonDivisor_L7, fX4_commonDivisor_b7, show (100 : Int32) = nI 100 from rfl, if_neg (nI_ge (by omega) (by omega)), if_pos (by decide)]
    · rw [fX5_gcd_L4, fX5_gcd_b4, if_pos (show nI 0 = 0 from rfl)]
  | succ k ih =>
    intro x y z n n' hy hk hx hz hn hn'
    have p30 : (2 : Nat) ^ (k + 1) ≤ 2 ^ 30 := Nat.pow_le_pow_right (by decide) hk
    have pk : (2 : Nat) ^ (k + 1) = 2 * 2 ^ k := by rw [Nat.pow_succ, Nat.mul_comm]
    obtain ⟨n, rfl⟩ : ∃ k, n = k + 1 := ⟨n - 1, by omega⟩
    obtain ⟨n', rfl⟩ : ∃ k, n' = k + 1 := ⟨n' - 1, by omega⟩
    rw [fX4_commonDivisor_L7, fX4_commonDivisor_b7, show (100 : Int32) = nI 100 from rfl, if_neg (nI_ge (by omega) (by omega)), fX5_gcd_L4, fX5_gcd_b4]
    by_cases hy0 : y = 0
    · subst hy0
      rw [if_pos (by decide), if_pos (show nI 0 = 0 from rfl)]
      exact ⟨x, rfl, rfl, hx, fun h => by omega⟩
    · rw [show (0 : Int32) = nI 0 from rfl, if_neg (nI_ge (by omega) (by omega)), if_neg (show ¬ nI y = nI 0 from zneI (k := 0) hy0 (by omega) (by omega)), zdv_nI (by omega) (by omega), zdv_nI (by omega) (by omega), pk_rem hx (by omega) (by omega), nI_1]
      have hr := Nat.mod_lt x (show 0 < y by omega)
      obtain ⟨n, rfl⟩ : ∃ k, n = k + 1 := ⟨n - 1, by omega⟩
      obtain ⟨n', rfl⟩ : ∃ k, n' = k + 1 := ⟨n' - 1, by omega⟩
      rw [fX4_commonDivisor_L7, fX4_commonDivisor_b7, show (100 : Int32) = nI 100 from rfl, if_neg (nI_ge (by omega) (by omega)), fX5_gcd_L4, fX5_gcd_b4]
      by_cases hr0 : x % y = 0
      · rw [hr0, if_pos (by decide), if_pos (show nI 0 = 0 from rfl)]
        exact ⟨y, rfl, rfl, by omega, fun h => by omega⟩
      · rw [show (0 : Int32) = nI 0 from rfl, if_neg (nI_ge (by omega) (by omega)), if_neg (show ¬ nI (x % y) = nI 0 from zneI (k := 0) hr0 (by omega) (by omega)), zdv_nI (by omega) (by omega), zdv_nI (by omega) (by omega), pk_rem (by omega) (by omega) (by omega), nI_1]
        have hs := Nat.mod_lt y (show 0 < x % y by omega)
        have hs2 : y % (x % y) + x % y ≤ y := by
          have h1 := Nat.div_add_mod y (x % y)
          have h2 : 1 ≤ y / (x % y) := (Nat.le_div_iff_mul_le (by omega)).mpr (by omega)
          have h3 := Nat.mul_le_mul_left (x % y) h2
          omega
        obtain ⟨v, e1, e2, e3, e4⟩ := ih (x % y) (y % (x % y)) (z + 1 + 1) n n' (by omega) (by omega) (by omega) (by omega) (by omega) (by omega)
        exact ⟨v, e1, e2, e3, fun _ => e4 (Or.inl (by omega))⟩
theorem share_loop (hA : okA A) (hB : okB A B) {N : Nat} (hN : 1000 < N) {a h s : Nat} (l c S : Int32) (ha : a ≤ 10) (hh : h ≤ 6) (hs : s < 64) (k51 : Int32 → Int32 → zMem → Int64 → zR) : ∀ (d i n n' p : Nat) (L : zB) (G Gm : zMem), i + d = h → d < n → d < n' → p ≤ 10 ^ i → okL A L → cX A B G → repL A G 13 L → cM A B Gm → repR Gm 10 0 L →
    ∃ v G' Gm', fX4_shareArrived_L22 N l (nI a) (nI h) (nI s) n (nI p) (nI i) G tr = some (nI v, G', tr) ∧ (∀ c, c ≠ 13 → G' c = G c) ∧ fX5_odds_L74 N l (nI a) (nI h) c k51 n' S (nI s) (nI p) (nI i) Gm trm = fX5_odds_b177 N l (nI a) (nI h) c k51 (nI s) (nI v) S Gm' trm ∧ (∀ c, c ≠ 10 → Gm' c = Gm c) ∧ v ≤ 10 ^ h := by
  have h9 := hB.1
  have hn2 := hB.2.2.1
  have hp := pow_le64 hA.2.2.2.2.1
  intro d
  induction d with
  | zero =>
    intro i n n' p L G Gm hi hn hn' hpl hL x s1 y s2
    obtain ⟨n, rfl⟩ : ∃ k, n = k + 1 := ⟨n - 1, by omega⟩
    obtain ⟨n', rfl⟩ : ∃ k, n' = k + 1 := ⟨n' - 1, by omega⟩
    have hi' : i = h := by omega
    subst hi'
    have e5 := s2 5 (by omega)
    rw [Nat.zero_add] at e5
    rw [fX4_shareArrived_L22, fX4_shareArrived_b22, if_pos (nI_le (by omega) (by omega)), s1.1 5 (by omega), fX5_odds_L74, fX5_odds_b74, if_pos (nI_le (by omega) (by omega)), zin_lit 5 6 (i := 5) rfl (by omega) (by omega), show Int32.toNatClampNeg 5 = 5 from rfl, e5]
    by_cases h1 : nI (L 5) = 1
    · rw [if_pos h1, if_pos h1]
      exact ⟨p, G, Gm, rfl, fun _ _ => rfl, rfl, fun _ _ => rfl, hpl⟩
    · rw [if_neg h1, if_neg h1]
      exact ⟨0, G, Gm, rfl, fun _ _ => rfl, rfl, fun _ _ => rfl, by omega⟩
  | succ d ih =>
    intro i n n' p L G Gm hi hn hn' hpl hL x s1 y s2
    obtain ⟨n, rfl⟩ : ∃ k, n = k + 1 := ⟨n - 1, by omega⟩
    obtain ⟨n', rfl⟩ : ∃ k, n' = k + 1 := ⟨n' - 1, by omega⟩
    have e0 := y.2 0 (by omega)
    have e2 := y.2 2 (by omega)
    rw [Nat.zero_add] at e0 e2
    rw [fX4_shareArrived_L22, fX4_shareArrived_b22, if_neg (nI_ge (by omega) (by omega)), fX4_bitOf, zbp_ok, bit_get s hs i (by omega), fX5_odds_L74, fX5_odds_b74, if_neg (nI_ge (by omega) (by omega)), bit_get s hs i (by omega)]
    have p1 : (10 : Nat) ^ (i + 1) = 10 ^ i * 10 := Nat.pow_succ ..
    -- one hour, its wind v, its share q
    have one : ∀ v q, v ≤ 4 → q ≤ 10 → ∃ u G' Gm', fX4_shareArrived_b98 N l (nI a) (nI h) (nI s) (fX4_shareArrived_L22 N l (nI a) (nI h) (nI s) n) (nI p * nI q) (nI i) (nI v) (G 0 1).toNatClampNeg G tr = some (nI u, G', tr) ∧ (∀ c, c ≠ 13 → G' c = G c) ∧ fX5_odds_b144 N l (nI a) (nI h) c k51 (fX5_odds_L74 N l (nI a) (nI h) c k51 n') S (nI s) (nI p * nI q) (nI i) (nI v) 0 Gm trm = fX5_odds_b177 N l (nI a) (nI h) c k51 (nI s) (nI u) S Gm' trm ∧ (∀ c, c ≠ 10 → Gm' c = Gm c) ∧ u ≤ 10 ^ h := fun v q hv hq => by
      obtain ⟨G1, q1, l1, w1⟩ := fw_passHour hA x.1 (cX_ch x) (isL_of (Or.inl rfl)) N tr hL s1 (v := v) (nets := B 2) hv (by omega)
      obtain ⟨M1, f1, m1, v1⟩ := fm_blows hA y.1 (N := N) (by omega) trm (r := 10) (a := 0) (Or.inr (Or.inl rfl)) (by decide) hL s2 (v := v) (nets := B 2) hv (by omega)
      have f1' : fX5_blows N 10 0 (nI v) (nI (B 2)) Gm trm = some (0, M1, trm) := f1
      have hm := Nat.mul_le_mul hpl hq
      obtain ⟨u, G2, M2, q2, k2, f2, w2, hu⟩ := ih (i + 1) n n' (p * q) (stepL A (B 2) v L) G1 M1 (by omega) (by omega) (by omega) (by omega) (okL_step hA hL) (cX_keep hB.2.1 x (fun c h1 _ => w1 c h1)) l1 (cM_keep y (fun c h => v1.1 c (by omega))) m1
      refine ⟨u, G2, M2, ?_, fun c hc => by rw [k2 c hc, w1 c hc], ?_, fun c hc => by rw [w2 c hc, v1.1 c hc], hu⟩
      · rw [fX4_shareArrived_b98, x.2.2.2.2.1, q1, zbd_ok, pk_mul, nI_1, q2]
      · rw [fX5_odds_b144, zin_lit 2 45 (i := 2) rfl (by omega) (by omega), show Int32.toNatClampNeg 2 = 2 from rfl, e2, f1', zbd_ok, pk_mul, nI_1, f2]
    by_cases hb : bitS s i = true
    · rw [if_pos hb, if_pos rfl, if_pos rfl, fX4_shareArrived_b44, if_neg (show ¬ (1 : Int32) = 0 by decide), fX4_shareArrived_b61, zch_ok x.2.1, if_neg (show ¬ (1 : Int32) = 0 by decide), fX5_odds_b96, if_neg (show ¬ (1 : Int32) = 0 by decide), fX5_odds_b113, if_neg (show ¬ (1 : Int32) = 0 by decide)]
      exact one 4 a (by omega) ha
    · rw [if_neg hb, if_neg (show ¬ (0 : Int32) = 1 by decide), if_neg (show ¬ (0 : Int32) = 1 by decide), fX4_shareArrived_b44, if_pos rfl, fX4_shareArrived_b61, zch_ok x.2.1, if_pos rfl, fX5_odds_b96, if_pos rfl, fX5_odds_b113, if_pos rfl, x.2.2.1, nI_add, fw_windS hA x.2.2, zbd_ok, zin_lit 0 45 (i := 0) rfl (by omega) (by omega), tnc0, e0, nI_add, fm_windS hA y.1 y.2, zbd_ok, show (10 : Int32) = nI 10 from rfl, pk_sub ha]
      exact one _ (10 - a) (windS_le hA hB _) (by omega)
theorem pow_loop (N : Nat) {h : Nat} (hh : h ≤ 6) : ∀ (d i n : Nat), i + d = h → d < n → fX5_power_L4 N 10 (nI h) n (nI (10 ^ i)) (nI i) = some (nI (10 ^ h)) := by
  intro d
  induction d with
  | zero =>
    intro i n hi hn
    obtain ⟨n, rfl⟩ : ∃ k, n = k + 1 := ⟨n - 1, by omega⟩
    rw [fX5_power_L4, fX5_power_b4, if_pos (nI_le (by omega) (by omega)), show i = h by omega]
  | succ d ih =>
    intro i n hi hn
    obtain ⟨n, rfl⟩ : ∃ k, n = k + 1 := ⟨n - 1, by omega⟩
    rw [fX5_power_L4, fX5_power_b4, if_neg (nI_ge (by omega) (by omega)), show (10 : Int32) = nI 10 from rfl, pk_mul, nI_1, ← Nat.pow_succ]
    exact ih (i + 1) n (by omega) (by omega)
theorem fw_pow_loop (N : Nat) {h : Nat} (hh : h ≤ 6) (l a z S : Int32) : ∀ (d i n : Nat), i + d = h → d < n → ∃ k, fX4_odds_L82 N l a (nI h) z n S (nI (10 ^ i)) (nI i) G tr = fX4_odds_b82 N l a (nI h) z k S (nI (10 ^ h)) (nI h) G tr := by
  intro d
  induction d with
  | zero =>
    intro i n hi hn
    obtain ⟨n, rfl⟩ : ∃ k, n = k + 1 := ⟨n - 1, by omega⟩
    exact ⟨_, by rw [fX4_odds_L82, show i = h by omega]⟩
  | succ d ih =>
    intro i n hi hn
    obtain ⟨n, rfl⟩ : ∃ k, n = k + 1 := ⟨n - 1, by omega⟩
    rw [fX4_odds_L82, fX4_odds_b82, if_neg (nI_ge (by omega) (by omega)), show (10 : Int32) = nI 10 from rfl, pk_mul, nI_1, ← Nat.pow_succ]
    exact ih (i + 1) n (by omega) (by omega)
theorem odds_loop (hA : okA A) (hB : okB A B) {N : Nat} (hN : 1000 < N) {l a h : Nat} (z : Int32) (hl : l < B 1) (ha : a ≤ 10) (hh : h ≤ 6) : ∀ (d i n n' S : Nat) (G Gm : zMem), i + d = 2 ^ h → d < n → d < n' → S ≤ i * 1000000 → cX A B G → cM A B Gm →
    ∃ v G' Gm', fX4_odds_L48 N (nI l) (nI a) (nI h) z n (nI S) (nI i) G tr = some (v, G', tr) ∧ (∀ c, c ≠ 13 → G' c = G c) ∧ fX5_odds_L51 N (nI l) (nI a) (nI h) z n' (nI S) (nI i) Gm trm = some (v, Gm', trm) ∧ ∀ c, c ≠ 10 → Gm' c = Gm c := by
  have hl5 := hB.2.1
  have p2 := pow_le64 hh
  have p10 : (10 : Nat) ^ h ≤ 10 ^ 6 := Nat.pow_le_pow_right (by decide) hh
  have p10' : 0 < (10 : Nat) ^ h := Nat.pow_pos (by decide)
  have e6 : (10 : Nat) ^ 6 = 1000000 := by decide
  intro d
  induction d with
  | zero =>
    intro i n n' S G Gm hi hn hn' hS x y
    obtain ⟨n, rfl⟩ : ∃ k, n = k + 1 := ⟨n - 1, by omega⟩
    obtain ⟨n', rfl⟩ : ∃ k, n' = k + 1 := ⟨n' - 1, by omega⟩
    have pw : fX5_power N 10 (nI h) = some (nI (10 ^ h)) := pow_loop N hh h 0 N (by omega) (by omega)
    obtain ⟨k, fp⟩ := fw_pow_loop (G := G) (tr := tr) N hh (nI l) (nI a) z (nI S) h 0 N (by omega) (by omega)
    have fp' : fX4_odds_L82 N (nI l) (nI a) (nI h) z N (nI S) 1 0 G tr = fX4_odds_b82 N (nI l) (nI a) (nI h) z k (nI S) (nI (10 ^ h)) (nI h) G tr := fp
    obtain ⟨v, g1, g2, g3, g4⟩ := gcd_both (N := N) (nI S) (nI (10 ^ h)) (nI S) (nI (10 ^ h)) 20 S (10 ^ h) 0 N N (by omega) (by omega) (by omega) (by omega) (by omega) (by omega)
    have g1' : fX4_commonDivisor N (nI S) (nI (10 ^ h)) = some (nI v) := g1
    have g2' : fX5_gcd N (nI S) (nI (10 ^ h)) = some (nI v) := g2
    have hv := g4 (Or.inr p10')
    rw [fX4_odds_L48, fX4_odds_b48, bit_one h (by omega), if_pos (nI_le (by omega) (by omega)), fp', fX4_odds_b82, if_pos (nI_le (by omega) (by omega)), g1', zbp_ok, show (1 : Int32) = nI 1 from rfl, if_pos (nI_le (by omega) (by omega)), zdv_nI hv g3, zdv_nI hv g3]
    rw [fX5_odds_L51, fX5_odds_b51, bit_one h (by omega), if_pos (nI_le (by omega) (by omega)), pw, zbp_ok, g2', zbp_ok, zdv_nI hv g3, zdv_nI hv g3]
    by_cases hz : z = 0
    · rw [if_pos hz, if_pos hz]
      exact ⟨_, G, Gm, rfl, fun _ _ => rfl, rfl, fun _ _ => rfl⟩
    · rw [if_neg hz, if_neg hz]
      exact ⟨_, G, Gm, rfl, fun _ _ => rfl, rfl, fun _ _ => rfl⟩
  | succ d ih =>
    intro i n n' S G Gm hi hn hn' hS x y
    obtain ⟨n, rfl⟩ : ∃ k, n = k + 1 := ⟨n - 1, by omega⟩
    obtain ⟨n', rfl⟩ : ∃ k, n' = k + 1 := ⟨n' - 1, by omega⟩
    obtain ⟨G1, q1, r1, k1⟩ := fw_takes (tr := tr) (N := N) hB x (t := 13) (l := l) (Or.inl rfl) hl
    have x1 := cX_keep hB.2.1 x (fun c h1 _ => k1 c h1)
    obtain ⟨M1, f1, s1, w1⟩ := fm_takes (tr := trm) (N := N) (by omega) (r := 10) (l := l) (Or.inl rfl) (by omega) y.2
    have y1 := cM_keep y (fun c hc => w1 c (by omega))
    obtain ⟨v, G2, M2, q2, k2, f2, w2, hv⟩ := share_loop (tr := tr) (trm := trm) hA hB hN (nI l) z (nI S) ha hh (s := i) (by omega) (fX5_odds_L51 N (nI l) (nI a) (nI h) z n') h 0 N N 1 (letB B l) G1 M1 (by omega) (by omega) (by omega) (by decide) (hB.2.2.2.2 l hl) x1 r1 y1 s1
    obtain ⟨u, G3, M3, q3, k3, f3, w3⟩ := ih (i + 1) n n' (S + v) G2 M2 (by omega) (by omega) (by omega) (by omega) (cX_keep hB.2.1 x1 (fun c h1 _ => k2 c h1)) (cM_keep y1 (fun c h => w2 c (by omega)))
    have q2' : fX4_shareArrived_L22 N (nI l) (nI a) (nI h) (nI i) N 1 0 G1 tr = some (nI v, G2, tr) := q2
    have f2' : fX5_odds_L74 N (nI l) (nI a) (nI h) z (fX5_odds_L51 N (nI l) (nI a) (nI h) z n') N (nI S) (nI i) 1 0 M1 trm = fX5_odds_b177 N (nI l) (nI a) (nI h) z (fX5_odds_L51 N (nI l) (nI a) (nI h) z n') (nI i) (nI v) (nI S) M2 trm := f2
    refine ⟨u, G3, M3, ?_, fun c hc => by rw [k3 c hc, k2 c hc, k1 c hc], ?_, fun c hc => by rw [w3 c hc, w2 c hc, w1 c hc]⟩
    · rw [fX4_odds_L48, fX4_odds_b48, bit_one h (by omega), if_neg (nI_ge (by omega) (by omega)), fX4_shareArrived, zin_ok (by omega) (by omega), nI_clamp (by omega), q1, zbd_ok, q2', zbd_ok, nI_add, nI_1, q3]
    · rw [fX5_odds_L51, fX5_odds_b51, bit_one h (by omega), if_neg (nI_ge (by omega) (by omega)), f1, zbd_ok, f2', fX5_odds_b177, nI_add, nI_1, f3]
theorem op_odds (h : Rel G tr Gm trm) {N : Nat} (hN : 1000 < N) (a b c z : Int32) : zStp (fX4_odds N a b c z G tr) (fX5_odds N a b c z Gm trm) := by
  obtain ⟨A, len, T, B, un, U, K, I, o, x, m, rfl⟩ := h
  have m0 := RM_thrown m
  have ob := o.2.2.2.1
  have hl5 := ob.2.1
  unfold fX4_odds fX5_odds
  generalize up2 Gm 0 0 0 = G0 at m0 ⊢
  rw [fw_isLetter x, fm_isLetter m0, zbd_ok, zbd_ok, zb_if, zb_if]
  rcases zrng a (n := B 1) (by omega) with ⟨l, hl, rfl, h1⟩ | hno
  · rw [if_pos h1, if_pos h1, fw_within, fm_in, zbp_ok, zbp_ok, zb_if, zb_if]
    rcases zrngC b 10 (by omega) with ⟨b, hb, rfl, h2⟩ | hno
    · have hr : (0 : Int32) ≤ nI b ∧ nI b ≤ 10 := h2
      rw [if_pos hr, if_pos hr, fw_within, fm_in, zbp_ok, zbp_ok, zb_if, zb_if]
      rcases zrngC c 6 (by omega) with ⟨c, hc, rfl, h3⟩ | hno
      · have hr : (0 : Int32) ≤ nI c ∧ nI c ≤ 6 := h3
        rw [if_pos hr, if_pos hr, fw_within, fm_in, zbp_ok, zbp_ok, zb_if, zb_if]
        by_cases h4 : (0 : Int32) ≤ z ∧ z ≤ 1
        · have p2 := pow_le64 hc
          rw [if_pos h4, if_pos h4]
          obtain ⟨v, G2, M2, q2, k2, f2, w2⟩ := odds_loop (tr := tr) (trm := tr) o.1 ob hN z hl hb hc (2 ^ c) 0 N N 0 G G0 (by omega) (by omega) (by omega) (by omega) (cX_of x) (cM_of m0)
          have q2' : fX4_odds_L48 N (nI l) (nI b) (nI c) z N 0 0 G tr = some (v, G2, tr) := q2
          have f2' : fX5_odds_L51 N (nI l) (nI b) (nI c) z N 0 0 G0 tr = some (v, M2, tr) := f2
          rw [q2', f2']
          exact ⟨_, _, _, _, _, rfl, rfl, Rel_mk o (RX_probe o x k2) (RM_trial m0 (fun c hc => by rw [w2 c (by omega)]))⟩
        · rw [if_neg h4, if_neg h4]
          exact ⟨_, _, _, _, _, rfl, rfl, Rel_mk o x m0⟩
      · have hr : ¬ ((0 : Int32) ≤ c ∧ c ≤ 6) := hno
        rw [if_neg hr, if_neg hr]
        exact ⟨_, _, _, _, _, rfl, rfl, Rel_mk o x m0⟩
    · have hr : ¬ ((0 : Int32) ≤ b ∧ b ≤ 10) := hno
      rw [if_neg hr, if_neg hr]
      exact ⟨_, _, _, _, _, rfl, rfl, Rel_mk o x m0⟩
  · rw [if_neg hno, if_neg hno]
    exact ⟨_, _, _, _, _, rfl, rfl, Rel_mk o x m0⟩
end ods
