/-! ===== letters supposed: soonest, lightest, words ===== -/
section sup
variable {A : zA} {B : zB} {G Gm : zMem} {tr trm : Int64}
theorem run_weak {nets : Nat} {wv : Nat → Nat} {L : zB} (h : A 0 5 ≤ L 0) : ∀ n, runL A nets wv L n = L
  | 0 => rfl
  | n + 1 => by
    rw [runL, run_weak h n]
    unfold stepL
    rw [if_neg (fun z => by have := z.2.2.1; omega)]
theorem arr_weak {nets : Nat} {wv : Nat → Nat} {L : zB} (h : A 0 5 ≤ L 0) (h5 : L 5 = 0) : arrS A nets wv L = none := by
  unfold arrS
  rw [fstS_none]
  intro k _
  rw [run_weak h k, h5]
  decide
def cbS (A : zA) (B : zB) (f t w κ q : Nat) : Option Nat := arrS A q (wvS A B (B 0 + κ)) (newL A f t w)
theorem cb_lt {f t w κ q k : Nat} (h : cbS A B f t w κ q = some k) : k < 401 := (arr_lt h).1
theorem reach_pos : ∀ F, F < 7 → ∀ w, w < 6 → ((1 : Int32) ≤ nI F - nI w ↔ w < F) := by decide +kernel
theorem fw_supposed (hA : okA A) (hB : okB A B) {N : Nat} (hN : 1000 < N) (x : cX A B G) {f t w κ q : Nat} (hf : f < A 0 2) (ht : t < A 0 2) (hw : 1 ≤ w ∧ w ≤ 5) (hκ : κ < 2 ^ 18) (hq : q < 64) :
    ∃ G', fX4_supposed N (nI f) (nI t) (nI w) (nI κ) (nI q) G tr = some (isV (cbS A B f t w κ q), G', tr) ∧ ∀ c, c ≠ 13 → G' c = G c := by
  have h9 := hB.1
  have f5 := hA.2.2.2.2.2.2.2.2.1
  obtain ⟨G1, q1, r1, k1⟩ := fw_letUp (tr := tr) hA x.1 (cX_ch x) (isL_of (Or.inl rfl)) N (f := f) (t := t) (w := w) hf
  have x1 := cX_keep hB.2.1 x (fun c h1 _ => k1 c h1)
  have e6 : G1 13 6 = nI (A 0 5) - nI w := r1.2
  unfold fX4_supposed
  rw [zch_ok x.2.1, q1, zbd_ok, e6]
  by_cases hs : w < A 0 5
  · obtain ⟨G2, q2, k2, -⟩ := fw_arrival (tr := tr) hA hB hN (τ := B 0 + κ) (q := q) (by omega) hq (okL_new hA hf ht hw) x1 r1
    refine ⟨G2, ?_, fun c hc => by rw [k2 c hc, k1 c hc]⟩
    rw [if_pos ((reach_pos _ (by omega) _ (by omega)).mpr hs), x1.2.2.1, nI_add, q2, zbd_ok]; rfl
  · refine ⟨G1, ?_, k1⟩
    rw [if_neg (fun z => hs ((reach_pos _ (by omega) _ (by omega)).mp z)), cbS, arr_weak (show A 0 5 ≤ newL A f t w 0 by show A 0 5 ≤ w; omega) rfl]; rfl
theorem fm_comesBy (hA : okA A) (hB : okB A B) {N : Nat} (hN : 1000 < N) (y : cM A B Gm) {f t w κ q : Nat} (hf : f < A 0 2) (ht : t < A 0 2) (hw : 1 ≤ w ∧ w ≤ 5) (hκ : κ < 2 ^ 18) (hq : q < 64) :
    ∃ G', fX5_comesBy N (nI f) (nI t) (nI w) (nI κ) (nI q) Gm trm = some (isV (cbS A B f t w κ q), G', trm) ∧ ∀ c, c ≠ 10 → G' c = Gm c := by
  obtain ⟨G1, q1, r1, k1⟩ := fm_puts (tr := trm) hA y.1 N (r := 10) (a := 0) (Or.inr (Or.inl rfl)) (by decide) (f := f) (t := t) (w := w) hf
  have y1 := cM_keep y (fun c hc => k1.1 c (by omega))
  obtain ⟨G2, q2, k2, -⟩ := fm_comesIn (tr := trm) hA hB hN (κ := κ) (q := q) (by omega) hq (okL_new hA hf ht hw) y1 r1
  refine ⟨G2, ?_, fun c hc => by rw [k2 c hc, k1.1 c hc]⟩
  have q1' : fX5_puts N 10 0 (nI f) (nI t) (nI w) Gm trm = some (0, G1, trm) := q1
  unfold fX5_comesBy
  rw [q1', zbd_ok, q2, zbd_ok]; rfl
/-- the best hour, and when it is then there -/
def bkS (cb : Nat → Option Nat) : Nat → Option (Nat × Nat)
  | 0 => none
  | n + 1 => match cb n, bkS cb n with
    | none, b => b
    | some r, none => some (n, n + r)
    | some r, some b => if b.2 ≤ n + r then some b else some (n, n + r)
theorem bk_none {cb : Nat → Option Nat} : ∀ {n}, bkS cb n = none ↔ ∀ k, k < n → cb k = none
  | 0 => ⟨fun _ k hk => by omega, fun _ => rfl⟩
  | n + 1 => by
    rw [bkS]
    cases hc : cb n with
    | none =>
      simp only
      rw [bk_none]
      refine ⟨fun h k hk => ?_, fun h k hk => h k (by omega)⟩
      by_cases hkn : k = n
      · rw [hkn]; exact hc
      · exact h k (by omega)
    | some r =>
      refine ⟨fun h => ?_, fun h => ?_⟩
      · cases hb : bkS cb n with
        | none => rw [hb] at h; simp at h
        | some b => rw [hb] at h; simp only at h; split at h <;> cases h
      · have := h n (by omega)
        rw [hc] at this; cases this
theorem bk_some {cb : Nat → Option Nat} : ∀ {n} {b : Nat × Nat}, bkS cb n = some b → b.1 < n ∧ ∃ r, cb b.1 = some r ∧ b.2 = b.1 + r
  | 0, b, h => by cases h
  | n + 1, b, h => by
    rw [bkS] at h
    have keep : bkS cb n = some b → b.1 < n + 1 ∧ ∃ r, cb b.1 = some r ∧ b.2 = b.1 + r := fun h => by
      have := bk_some h
      exact ⟨by omega, this.2⟩
    cases hc : cb n with
    | none => rw [hc] at h; simp only at h; exact keep h
    | some r =>
      rw [hc] at h
      have new : (n, n + r) = b → b.1 < n + 1 ∧ ∃ r, cb b.1 = some r ∧ b.2 = b.1 + r := fun h => by
        subst h; exact ⟨by show n < n + 1; omega, r, hc, rfl⟩
      cases hb : bkS cb n with
      | none => rw [hb] at h; simp only [Option.some.injEq] at h; exact new h
      | some b' =>
        rw [hb] at h
        simp only at h
        split at h
        · rename_i h2; cases h; exact keep hb
        · simp only [Option.some.injEq] at h; exact new h
theorem bk_skip {cb : Nat → Option Nat} {n : Nat} (hc : cb n = none) : bkS cb (n + 1) = bkS cb n := by rw [bkS, hc]
theorem bk_new {cb : Nat → Option Nat} {n r : Nat} (hc : cb n = some r) (hb : bkS cb n = none) : bkS cb (n + 1) = some (n, n + r) := by rw [bkS, hc, hb]
theorem bk_le {cb : Nat → Option Nat} {n r : Nat} {b : Nat × Nat} (hc : cb n = some r) (hb : bkS cb n = some b) (h : b.2 ≤ n + r) : bkS cb (n + 1) = some b := by rw [bkS, hc, hb]; exact if_pos h
theorem bk_gt {cb : Nat → Option Nat} {n r : Nat} {b : Nat × Nat} (hc : cb n = some r) (hb : bkS cb n = some b) (h : ¬ b.2 ≤ n + r) : bkS cb (n + 1) = some (n, n + r) := by rw [bkS, hc, hb]; exact if_neg h
def kV (o : Option (Nat × Nat)) : Int32 := match o with
  | some p => nI p.1
  | none => -9
def sV (z : Int32) (o : Option (Nat × Nat)) : Int32 := match o with
  | some p => nI p.2
  | none => z
theorem bk_lt {cb : Nat → Option Nat} (hcl : ∀ κ k, cb κ = some k → k < 401) {n : Nat} {b : Nat × Nat} (h : bkS cb n = some b) : b.1 < n ∧ b.2 < n + 401 := by
  obtain ⟨h1, r, h2, h3⟩ := bk_some h
  have := hcl _ _ h2
  omega
theorem fw_soon_loop (hA : okA A) (hB : okB A B) {N : Nat} (hN : 1000 < N) {f t w : Nat} (a : Int32) (hf : f < A 0 2) (ht : t < A 0 2) (hw : 1 ≤ w ∧ w ≤ 5) {cb : Nat → Option Nat} (hcb : ∀ κ, cbS A B f t w κ (B 2) = cb κ) (hcl : ∀ κ k, cb κ = some k → k < 401) : ∀ (d i n : Nat) (G : zMem), i + d = 12 → d < n → cX A B G →
    ∃ G', fX4_soonest_L39 N (nI f) (nI t) (nI w) a n (kV (bkS cb i)) (sV (-9) (bkS cb i)) (nI i) G tr = some (if a = 0 then kV (bkS cb 12) else sV (-9) (bkS cb 12), G', tr) ∧ ∀ c, c ≠ 13 → G' c = G c := by
  have hn2 := hB.2.2.1
  have hp := pow_le64 hA.2.2.2.2.1
  intro d
  induction d with
  | zero =>
    intro i n G hi hn x
    obtain ⟨n, rfl⟩ : ∃ k, n = k + 1 := ⟨n - 1, by omega⟩
    have hi' : i = 12 := by omega
    subst hi'
    refine ⟨G, ?_, fun _ _ => rfl⟩
    rw [fX4_soonest_L39, fX4_soonest_b39, show (12 : Int32) = nI 12 from rfl, if_pos (nI_le (by omega) (by omega))]
    by_cases h : a = 0
    · rw [if_pos h, if_pos h]
    · rw [if_neg h, if_neg h]
  | succ d ih =>
    intro i n G hi hn x
    obtain ⟨n, rfl⟩ : ∃ k, n = k + 1 := ⟨n - 1, by omega⟩
    obtain ⟨G1, q1, k1⟩ := fw_supposed (tr := tr) hA hB hN x (κ := i) (q := B 2) hf ht hw (by omega) (by omega)
    obtain ⟨G2, q2, k2⟩ := ih (i + 1) n G1 (by omega) (by omega) (cX_keep hB.2.1 x (fun c h1 _ => k1 c h1))
    refine ⟨G2, ?_, fun c hc => by rw [k2 c hc, k1 c hc]⟩
    rw [fX4_soonest_L39, fX4_soonest_b39, show (12 : Int32) = nI 12 from rfl, if_neg (nI_ge (by omega) (by omega)), x.2.2.2.2.1, q1, zbd_ok, hcb]
    rw [← q2]
    cases hc : cb i with
    | none => rw [bk_skip hc, isV, if_pos rfl, fX4_soonest_b99, nI_1]
    | some r =>
      have hr := hcl _ _ hc
      rw [isV, if_neg (nI_neg (by omega) (by decide))]
      cases hb : bkS cb i with
      | none => rw [show sV (-9) none = -9 from rfl, if_pos rfl, fX4_soonest_b88, fX4_soonest_b99, nI_1, nI_add, bk_new hc hb]; rfl
      | some b =>
        have hl := bk_lt hcl hb
        rw [show sV (-9) (some b) = nI b.2 from rfl, if_neg (nI_neg (by omega) (by decide)), nI_add]
        by_cases hs : b.2 ≤ i + r
        · rw [if_pos (nI_le hs (by omega)), fX4_soonest_b99, nI_1, bk_le hc hb hs]; rfl
        · rw [if_neg (nI_ge (by omega) (by omega)), fX4_soonest_b88, fX4_soonest_b99, nI_1, nI_add, bk_gt hc hb hs]; rfl
theorem fm_best_loop (hA : okA A) (hB : okB A B) {N : Nat} (hN : 1000 < N) {f t w q : Nat} (hf : f < A 0 2) (ht : t < A 0 2) (hw : 1 ≤ w ∧ w ≤ 5) (hq : q < 64) {cb : Nat → Option Nat} (hcb : ∀ κ, cbS A B f t w κ q = cb κ) (hcl : ∀ κ k, cb κ = some k → k < 401) : ∀ (d i n : Nat) (G : zMem), i + d = 12 → d < n → cM A B G →
    ∃ G', fX5_bestK_L10 N (nI f) (nI t) (nI w) (nI q) n (kV (bkS cb i)) (sV 0 (bkS cb i)) (nI i) G tr = some (kV (bkS cb 12), G', tr) ∧ ∀ c, c ≠ 10 → G' c = G c := by
  intro d
  induction d with
  | zero =>
    intro i n G hi hn x
    obtain ⟨n, rfl⟩ : ∃ k, n = k + 1 := ⟨n - 1, by omega⟩
    have hi' : i = 12 := by omega
    subst hi'
    refine ⟨G, ?_, fun _ _ => rfl⟩
    rw [fX5_bestK_L10, fX5_bestK_b10, show (12 : Int32) = nI 12 from rfl, if_pos (nI_le (by omega) (by omega))]
  | succ d ih =>
    intro i n G hi hn x
    obtain ⟨n, rfl⟩ : ∃ k, n = k + 1 := ⟨n - 1, by omega⟩
    obtain ⟨G1, q1, k1⟩ := fm_comesBy (trm := tr) hA hB hN x (κ := i) (q := q) hf ht hw (by omega) hq
    obtain ⟨G2, q2, k2⟩ := ih (i + 1) n G1 (by omega) (by omega) (cM_keep x (fun c h => k1 c (by omega)))
    refine ⟨G2, ?_, fun c hc => by rw [k2 c hc, k1 c hc]⟩
    rw [fX5_bestK_L10, fX5_bestK_b10, show (12 : Int32) = nI 12 from rfl, if_neg (nI_ge (by omega) (by omega)), q1, zbd_ok, hcb]
    rw [← q2]
    cases hc : cb i with
    | none => rw [bk_skip hc, isV, if_pos rfl, fX5_bestK_b65, nI_1]
    | some r =>
      have hr := hcl _ _ hc
      rw [isV, if_neg (nI_neg (by omega) (by decide))]
      cases hb : bkS cb i with
      | none => rw [show kV none = -9 from rfl, if_pos rfl, fX5_bestK_b54, fX5_bestK_b65, nI_1, nI_add, bk_new hc hb]; rfl
      | some b =>
        have hl := bk_lt hcl hb
        rw [show kV (some b) = nI b.1 from rfl, if_neg (nI_neg (by omega) (by decide)), show sV 0 (some b) = nI b.2 from rfl, nI_add]
        by_cases hs : b.2 ≤ i + r
        · rw [if_pos (nI_le hs (by omega)), fX5_bestK_b65, nI_1, bk_le hc hb hs]; rfl
        · rw [if_neg (nI_ge (by omega) (by omega)), fX5_bestK_b54, fX5_bestK_b65, nI_1, nI_add, bk_gt hc hb hs]; rfl
theorem fm_bestK (hA : okA A) (hB : okB A B) {N : Nat} (hN : 1000 < N) (x : cM A B G) {f t w q : Nat} (hf : f < A 0 2) (ht : t < A 0 2) (hw : 1 ≤ w ∧ w ≤ 5) (hq : q < 64) {cb : Nat → Option Nat} (hcb : ∀ κ, cbS A B f t w κ q = cb κ) (hcl : ∀ κ k, cb κ = some k → k < 401) :
    ∃ G', fX5_bestK N (nI f) (nI t) (nI w) (nI q) G tr = some (kV (bkS cb 12), G', tr) ∧ ∀ c, c ≠ 10 → G' c = G c :=
  fm_best_loop hA hB hN hf ht hw hq hcb hcl 12 0 N G (by omega) (by omega) x
theorem op_soonest (h : Rel G tr Gm trm) {N : Nat} (hN : 1000 < N) (a b w z : Int32) : zStp (fX4_soonest N a b w z G tr) (fX5_soonest N a b w z Gm trm) := by
  obtain ⟨A, len, T, B, un, U, K, I, o, x, m, rfl⟩ := h
  have m0 := RM_thrown m
  have ob := o.2.2.2.1
  have hi6 := o.1.2.2.2.2.1
  have hn2 := ob.2.2.1
  have hp := pow_le64 o.1.2.2.2.2.1
  unfold fX4_soonest fX5_soonest fX4_isWeight
  generalize up2 Gm 0 0 0 = G0 at m0 ⊢
  rw [fw_isWay x, fm_areTwo m0, zbd_ok, zbd_ok, zb_if, zb_if]
  by_cases h1 : (0 ≤ a ∧ a ≤ nI (A 0 2) - 1) ∧ (0 ≤ b ∧ b ≤ nI (A 0 2) - 1) ∧ ¬ a = b
  · rw [if_pos h1, if_pos h1, fw_within, fm_in, zbp_ok, zbp_ok, zbo_if, zbp_ok, zb_if, zb_if]
    obtain ⟨f, hf, rfl, -⟩ := (zrng a (n := A 0 2) (by omega)).resolve_right (fun z => z h1.1)
    obtain ⟨t, ht, rfl, -⟩ := (zrng b (n := A 0 2) (by omega)).resolve_right (fun z => z h1.2.1)
    rcases zrngD w 1 5 (by omega) (by omega) with ⟨w, hw, hw2, rfl, h2⟩ | hno
    · have hr : (1 : Int32) ≤ nI w ∧ nI w ≤ 5 := h2
      rw [if_pos hr, if_pos hr, fw_within, fm_in, zbp_ok, zbp_ok, zb_if, zb_if]
      by_cases h3 : (0 : Int32) ≤ z ∧ z ≤ 1
      · rw [if_pos h3, if_pos h3]
        obtain ⟨cb, hcb⟩ : ∃ cb : Nat → Option Nat, ∀ κ, cbS A B f t w κ (B 2) = cb κ := ⟨_, fun _ => rfl⟩
        have hcl : ∀ κ k, cb κ = some k → k < 401 := fun κ k h => by rw [← hcb] at h; exact cb_lt h
        obtain ⟨G1, q1, k1⟩ := fw_soon_loop (tr := tr) o.1 ob hN z hf ht ⟨hw, hw2⟩ hcb hcl 12 0 N G (by omega) (by omega) (cX_of x)
        obtain ⟨M1, f1, w1⟩ := fm_bestK (tr := tr) o.1 ob hN (cM_of m0) (q := B 2) hf ht ⟨hw, hw2⟩ (by omega) hcb hcl
        have y1 := cM_keep (cM_of m0) (fun c h => w1 c (by omega))
        have e2 := (cM_of m0).2 2 (by omega)
        have e2' := y1.2 2 (by omega)
        rw [Nat.zero_add] at e2 e2'
        have q1' : fX4_soonest_L39 N (nI f) (nI t) (nI w) z N (-9) (-9) 0 G tr = some (if z = 0 then kV (bkS cb 12) else sV (-9) (bkS cb 12), G1, tr) := q1
        rw [q1', zin_lit 2 45 (i := 2) rfl (by omega) (by omega), show Int32.toNatClampNeg 2 = 2 from rfl, e2, f1, zbd_ok]
        cases hb : bkS cb 12 with
        | none =>
          rw [show kV none = -9 from rfl, if_pos rfl, show sV (-9) none = -9 from rfl]
          exact ⟨-9, _, _, _, _, by rw [ite_self], rfl, Rel_mk o (RX_probe o x k1) (RM_trial m0 (fun c hc => by rw [w1 c (by omega)]))⟩
        | some p =>
          have hl := bk_lt hcl hb
          obtain ⟨h4, r, h5, h6⟩ := bk_some hb
          rw [show kV (some p) = nI p.1 from rfl, if_neg (nI_neg (by omega) (by decide)), show sV (-9) (some p) = nI p.2 from rfl]
          by_cases hz : z = 0
          · rw [if_pos hz, if_pos hz]
            exact ⟨_, _, _, _, _, rfl, rfl, Rel_mk o (RX_probe o x k1) (RM_trial m0 (fun c hc => by rw [w1 c (by omega)]))⟩
          · obtain ⟨M2, f2, w2⟩ := fm_comesBy (trm := tr) o.1 ob hN y1 (κ := p.1) (q := B 2) hf ht ⟨hw, hw2⟩ (by omega) (by omega)
            rw [if_neg hz, if_neg hz, zin_lit 2 45 (i := 2) rfl (by omega) (by omega), e2', f2, zbd_ok, hcb, h5, show isV (some r) = nI r from rfl, nI_add, ← h6]
            exact ⟨_, _, _, _, _, rfl, rfl, Rel_mk o (RX_probe o x k1) (RM_trial m0 (fun c hc => by rw [w2 c (by omega), w1 c (by omega)]))⟩
      · rw [if_neg h3, if_neg h3]
        exact ⟨_, _, _, _, _, rfl, rfl, Rel_mk o x m0⟩
    · have hr : ¬ ((1 : Int32) ≤ w ∧ w ≤ 5) := hno
      rw [if_neg hr, if_neg hr]
      exact ⟨_, _, _, _, _, rfl, rfl, Rel_mk o x m0⟩
  · rw [if_neg h1, if_neg h1]
    exact ⟨_, _, _, _, _, rfl, rfl, Rel_mk o x m0⟩
end sup
