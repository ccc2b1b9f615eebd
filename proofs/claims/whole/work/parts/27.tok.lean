/-! ===== the words of a chart, one at a time ===== -/
section tok
variable {T : zB} {len : Nat} {G : zMem} {tr : Int64}
def skS (T : zB) (len : Nat) : Nat → Nat → Nat
  | 0, p => p
  | f + 1, p => if p < len ∧ T p = 32 then skS T len f (p + 1) else p
def dgS (T : zB) (len : Nat) : Nat → Nat → Nat
  | 0, p => p
  | f + 1, p => if p < len ∧ 48 ≤ T p ∧ T p ≤ 57 then dgS T len f (p + 1) else p
def vlS (T : zB) (len : Nat) : Nat → Nat → Nat → Nat
  | 0, _, v => v
  | f + 1, p, v => if p < len ∧ 48 ≤ T p ∧ T p ≤ 57 then vlS T len f (p + 1) (if v ≤ 29 then 10 * v + T p - 48 else v) else v
def tkS (T : zB) (len p : Nat) : Nat := skS T len (len - p) p
def tkE (T : zB) (len p : Nat) : Nat := dgS T len (len - tkS T len p) (tkS T len p)
def tkV (T : zB) (len p : Nat) : Nat := vlS T len (len - tkS T len p) (tkS T len p) 0
def sgS (c : Nat) : Prop := c = 103 ∨ c = 105 ∨ c = 120 ∨ c = 98 ∨ c = 102
/-- 0 end, 1 sign, 2 number, 3 semicolon, 4 none of these -/
def tkK (T : zB) (len p : Nat) : Nat :=
  if tkS T len p = len then 0 else if 48 ≤ T (tkS T len p) ∧ T (tkS T len p) ≤ 57 then (if 29 < tkV T len p then 4 else if T (tkS T len p) = 48 then (if tkE T len p - tkS T len p ≤ 1 then 2 else 4) else 2)
  else if T (tkS T len p) = 59 then 3 else if T (tkS T len p) = 103 ∨ T (tkS T len p) = 105 ∨ T (tkS T len p) = 120 ∨ T (tkS T len p) = 98 ∨ T (tkS T len p) = 102 then 1 else 4
def tkQ (T : zB) (len p : Nat) : Nat := if tkS T len p = len then len else if 48 ≤ T (tkS T len p) ∧ T (tkS T len p) ≤ 57 then tkE T len p else tkS T len p + 1
theorem sk_spec : ∀ (f p : Nat), p + f = len → p ≤ skS T len f p ∧ skS T len f p ≤ len ∧ ¬ (skS T len f p < len ∧ T (skS T len f p) = 32)
  | 0, p, h => ⟨Nat.le_refl _, by show p ≤ len; omega, fun z => by have : p < len := z.1; omega⟩
  | f + 1, p, h => by
    rw [skS]
    by_cases hc : p < len ∧ T p = 32
    · rw [if_pos hc]
      have := sk_spec f (p + 1) (by omega)
      exact ⟨by omega, this.2⟩
    · rw [if_neg hc]
      exact ⟨Nat.le_refl _, by omega, hc⟩
theorem dg_spec : ∀ (f p : Nat), p + f = len → p ≤ dgS T len f p ∧ dgS T len f p ≤ len
  | 0, p, h => ⟨Nat.le_refl _, by show p ≤ len; omega⟩
  | f + 1, p, h => by
    rw [dgS]
    by_cases hc : p < len ∧ 48 ≤ T p ∧ T p ≤ 57
    · rw [if_pos hc]
      have := dg_spec f (p + 1) (by omega)
      exact ⟨by omega, this.2⟩
    · rw [if_neg hc]
      exact ⟨Nat.le_refl _, by omega⟩
theorem tk_spec {p : Nat} (hp : p ≤ len) : p ≤ tkS T len p ∧ tkS T len p ≤ len ∧ tkQ T len p ≤ len ∧ tkS T len p ≤ tkQ T len p ∧ (tkK T len p ≠ 0 → tkS T len p < tkQ T len p) := by
  have s := sk_spec (T := T) (len := len) (len - p) p (by omega)
  have hs : tkS T len p = skS T len (len - p) p := rfl
  have e := dg_spec (T := T) (len := len) (len - tkS T len p) (tkS T len p) (by omega)
  have he : tkE T len p = dgS T len (len - tkS T len p) (tkS T len p) := rfl
  unfold tkQ tkK
  by_cases h : tkS T len p = len
  · rw [if_pos h, if_pos h]
    exact ⟨by omega, by omega, Nat.le_refl _, by omega, fun z => absurd rfl z⟩
  · rw [if_neg h, if_neg h]
    by_cases hd : 48 ≤ T (tkS T len p) ∧ T (tkS T len p) ≤ 57
    · rw [if_pos hd]
      refine ⟨by omega, by omega, by omega, by omega, fun _ => ?_⟩
      obtain ⟨f, hf⟩ : ∃ f, len - tkS T len p = f + 1 := ⟨len - tkS T len p - 1, by omega⟩
      have := dg_spec (T := T) (len := len) f (tkS T len p + 1) (by omega)
      rw [he, hf, dgS, if_pos ⟨by omega, hd⟩]
      omega
    · rw [if_neg hd]
      exact ⟨by omega, by omega, by omega, by omega, fun _ => by omega⟩
/-! the program's -/
def txX (T : zB) (len : Nat) (G : zMem) : Prop := G 1 0 = nI len ∧ ∀ i, i < len → G 2 i = nI (T i)
theorem fw_isDigit {N c : Nat} (hc : c < 2 ^ 31) : fX3_isDigit N (nI c) = some (if 48 ≤ c ∧ c ≤ 57 then 1 else 0) := by
  unfold fX3_isDigit
  by_cases h1 : c < 48
  · rw [show (48 : Int32) = nI 48 from rfl, if_pos (nI_lt h1 (by omega)), if_neg (fun z => by omega), zbo_0]
  · rw [show (48 : Int32) = nI 48 from rfl, if_neg (nI_nlt (by omega) (by omega))]
    by_cases h2 : 57 < c
    · rw [show (57 : Int32) = nI 57 from rfl, if_pos (nI_lt h2 (by omega)), if_neg (fun z => by omega), zbo_0]
    · rw [show (57 : Int32) = nI 57 from rfl, if_neg (nI_nlt (by omega) (by omega)), if_pos ⟨by omega, by omega⟩, zbo_1]
theorem fw_skip (hl : len ≤ 200) (hT : ∀ i, i < len → T i ≤ 255) (N : Nat) : ∀ (f p n : Nat) (G : zMem), p + f = len → f < n → txX T len G → G 1 2 = nI p →
    ∃ G', fX3_step_L0 N n G tr = fX3_step_b38 N G' tr ∧ txX T len G' ∧ G' 1 2 = nI (skS T len f p) ∧ (∀ k, k ≠ 2 → G' 1 k = G 1 k) ∧ ∀ c, c ≠ 1 → G' c = G c := by
  intro f
  induction f with
  | zero =>
    intro p n G hp hn x h2
    obtain ⟨n, rfl⟩ : ∃ k, n = k + 1 := ⟨n - 1, by omega⟩
    refine ⟨G, ?_, x, h2, fun _ _ => rfl, fun _ _ => rfl⟩
    rw [fX3_step_L0, fX3_step_b0, x.1, h2, if_pos (nI_le (by omega) (by omega))]
  | succ f ih =>
    intro p n G hp hn x h2
    obtain ⟨n, rfl⟩ : ∃ k, n = k + 1 := ⟨n - 1, by omega⟩
    have ht := hT p (by omega)
    have e := x.2 p (by omega)
    rw [fX3_step_L0, fX3_step_b0, x.1, h2, if_neg (nI_ge (by omega) (by omega)), zin_ok (by omega) (by omega), nI_clamp (by omega), e, skS]
    by_cases hc : T p = 32
    · obtain ⟨G2, q2, x2, v2, w2, k2⟩ := ih (p + 1) n (up2 G 1 2 (nI (p + 1))) (by omega) (by omega) ⟨by rw [up2_oth (by omega)]; exact x.1, fun i hi => by rw [up2_ne _ _ _ (by omega)]; exact x.2 i hi⟩ up2_get
      refine ⟨G2, ?_, x2, ?_, fun k hk => by rw [w2 k hk, up2_oth hk], fun c hc => by rw [k2 c hc, up2_ne _ _ _ hc]⟩
      · rw [hc, if_pos (show nI 32 = 32 from rfl), nI_1, q2]
      · rw [if_pos ⟨by omega, hc⟩]; exact v2
    · refine ⟨G, ?_, x, ?_, fun _ _ => rfl, fun _ _ => rfl⟩
      · rw [if_neg (show ¬ nI (T p) = 32 from zneI (k := 32) hc (by omega) (by omega))]
      · rw [if_neg (fun z => hc z.2)]; exact h2
theorem fw_digs (hl : len ≤ 200) (hT : ∀ i, i < len → T i ≤ 255) (N : Nat) : ∀ (f p n v : Nat) (G : zMem), p + f = len → f < n → v < 1000 → txX T len G → G 1 2 = nI p → G 1 5 = nI (min 30 v) →
    ∃ G', fX3_step_L51 N n G tr = fX3_step_b119 N G' tr ∧ txX T len G' ∧ G' 1 2 = nI (dgS T len f p) ∧ G' 1 5 = nI (min 30 (vlS T len f p v)) ∧ (∀ k, k ≠ 2 → k ≠ 5 → G' 1 k = G 1 k) ∧ ∀ c, c ≠ 1 → G' c = G c := by
  intro f
  induction f with
  | zero =>
    intro p n v G hp hn hv x h2 h5
    obtain ⟨n, rfl⟩ : ∃ k, n = k + 1 := ⟨n - 1, by omega⟩
    refine ⟨G, ?_, x, h2, h5, fun _ _ _ => rfl, fun _ _ => rfl⟩
    rw [fX3_step_L51, fX3_step_b51, x.1, h2, if_pos (nI_le (by omega) (by omega))]
  | succ f ih =>
    intro p n v G hp hn hv x h2 h5
    obtain ⟨n, rfl⟩ : ∃ k, n = k + 1 := ⟨n - 1, by omega⟩
    have ht := hT p (by omega)
    have e := x.2 p (by omega)
    have hm : min 30 v ≤ 30 := Nat.min_le_left _ _
    rw [fX3_step_L51, fX3_step_b51, x.1, h2, if_neg (nI_ge (by omega) (by omega)), zin_ok (by omega) (by omega), nI_clamp (by omega), e, fw_isDigit (by omega), zbp_ok, zb_if, dgS, vlS]
    by_cases hc : 48 ≤ T p ∧ T p ≤ 57
    · have hnum : (if (30 : Int32) < nI (min 30 v) * 10 + nI (T p) - 48 then 30 else nI (min 30 v) * 10 + nI (T p) - 48) = nI (min 30 (if v ≤ 29 then 10 * v + T p - 48 else v)) := by
        rw [show (10 : Int32) = nI 10 from rfl, pk_mul, nI_add, show (48 : Int32) = nI 48 from rfl, pk_sub (by omega), show (30 : Int32) = nI 30 from rfl]
        by_cases hb : v ≤ 29
        · rw [if_pos hb, show min 30 v = v by omega]
          by_cases hg : 30 < v * 10 + T p - 48
          · rw [if_pos (nI_lt hg (by omega)), show min 30 (10 * v + T p - 48) = 30 by omega]
          · rw [if_neg (nI_nlt (by omega) (by omega)), show min 30 (10 * v + T p - 48) = v * 10 + T p - 48 by omega]
        · rw [if_neg hb, show min 30 v = 30 by omega, if_pos (nI_lt (by omega) (by omega))]
      obtain ⟨G2, q2, x2, v2, v5, w2, k2⟩ := ih (p + 1) n (if v ≤ 29 then 10 * v + T p - 48 else v) (up2 (up2 G 1 5 (nI (min 30 (if v ≤ 29 then 10 * v + T p - 48 else v)))) 1 2 (nI (p + 1))) (by omega) (by omega) (by split <;> omega) ⟨by rw [up2_oth (by omega), up2_oth (by omega)]; exact x.1, fun i hi => by rw [up2_ne _ _ _ (by omega), up2_ne _ _ _ (by omega)]; exact x.2 i hi⟩ up2_get (by rw [up2_oth (by omega), up2_get])
      refine ⟨G2, ?_, x2, ?_, ?_, fun k h1 h2 => by rw [w2 k h1 h2, up2_oth h1, up2_oth h2], fun c hc => by rw [k2 c hc, up2_ne _ _ _ hc, up2_ne _ _ _ hc]⟩
      · rw [if_pos hc, h5, zin_ok (by omega) (by omega), hnum, up2_oth (by omega), h2, nI_1, q2]
      · rw [if_pos ⟨by omega, hc⟩]; exact v2
      · rw [if_pos ⟨by omega, hc⟩]; exact v5
    · refine ⟨G, ?_, x, ?_, ?_, fun _ _ _ => rfl, fun _ _ => rfl⟩
      · rw [if_neg hc]
      · rw [if_neg (fun z => hc z.2)]; exact h2
      · rw [if_neg (fun z => hc z.2)]; exact h5
def kX (K c : Nat) : Int32 := if K = 0 then 257 else if K = 1 then nI c else if K = 2 then 256 else if K = 3 then 59 else 258
/-- what one step leaves -/
def stepX (T : zB) (len p : Nat) (G G' : zMem) : Prop := txX T len G' ∧ G' 1 2 = nI (tkQ T len p) ∧ G' 1 3 = nI (tkS T len p) ∧ G' 1 4 = kX (tkK T len p) (T (tkS T len p)) ∧ (tkK T len p = 2 → G' 1 5 = nI (tkV T len p)) ∧ (∀ k, 6 ≤ k → G' 1 k = G 1 k) ∧ ∀ c, c ≠ 1 → G' c = G c
theorem fw_isSign {N c : Nat} (hc : c < 2 ^ 31) : fX3_isSign N (nI c) = some (if c = 103 ∨ c = 105 ∨ c = 120 ∨ c = 98 ∨ c = 102 ∨ c = 59 then 1 else 0) := by
  unfold fX3_isSign
  have h : ∀ k, k < 2 ^ 31 → (nI c = nI k ↔ c = k) := fun k hk => ⟨fun z => Classical.byContradiction (fun hne => zneI hne hc hk z), fun z => by rw [z]⟩
  rw [show (103 : Int32) = nI 103 from rfl, show (105 : Int32) = nI 105 from rfl, show (120 : Int32) = nI 120 from rfl, show (98 : Int32) = nI 98 from rfl, show (102 : Int32) = nI 102 from rfl, show (59 : Int32) = nI 59 from rfl]
  simp only [h _ (show 103 < 2 ^ 31 by omega), h _ (show 105 < 2 ^ 31 by omega), h _ (show 120 < 2 ^ 31 by omega), h _ (show 98 < 2 ^ 31 by omega), h _ (show 102 < 2 ^ 31 by omega), h _ (show 59 < 2 ^ 31 by omega), zbo_0, zbo_1]
  by_cases h1 : c = 103 <;> by_cases h2 : c = 105 <;> by_cases h3 : c = 120 <;> by_cases h4 : c = 98 <;> by_cases h5 : c = 102 <;> by_cases h6 : c = 59 <;> simp [h1, h2, h3, h4, h5, h6]
theorem fw_step (hl : len ≤ 200) (hT : ∀ i, i < len → T i ≤ 255) {N : Nat} (hN : 1000 < N) {p : Nat} (hp : p ≤ len) (x : txX T len G) (h2 : G 1 2 = nI p) : ∃ G', fX3_step N G tr = some (0, G', tr) ∧ stepX T len p G G' := by
  obtain ⟨G1, q1, x1, v1, w1, k1⟩ := fw_skip (tr := tr) hl hT N (len - p) p N G (by omega) (by omega) x h2
  have ts := tk_spec (T := T) hp
  have hs : skS T len (len - p) p = tkS T len p := rfl
  rw [hs] at v1
  obtain ⟨G2, q2, x2, v2, v5, w2, k2⟩ := fw_digs (tr := tr) hl hT N (len - tkS T len p) (tkS T len p) N 0 (up2 (up2 G1 1 3 (nI (tkS T len p))) 1 5 0) (by omega) (by omega) (by omega) ⟨by rw [up2_oth (by omega), up2_oth (by omega)]; exact x1.1, fun i hi => by rw [up2_ne _ _ _ (by omega), up2_ne _ _ _ (by omega)]; exact x1.2 i hi⟩ (by rw [up2_oth (by omega), up2_oth (by omega)]; exact v1) (by rw [up2_get]; rfl)
  have he : dgS T len (len - tkS T len p) (tkS T len p) = tkE T len p := rfl
  have hv : vlS T len (len - tkS T len p) (tkS T len p) 0 = tkV T len p := rfl
  rw [he] at v2
  rw [hv] at v5
  have hE := dg_spec (T := T) (len := len) (len - tkS T len p) (tkS T len p) (by omega)
  rw [he] at hE
  have h3 : G2 1 3 = nI (tkS T len p) := by rw [w2 3 (by omega) (by omega), up2_oth (by omega), up2_get]
  have hk6 : ∀ k, 6 ≤ k → G2 1 k = G 1 k := fun k hk => by rw [w2 k (by omega) (by omega), up2_oth (by omega), up2_oth (by omega), w1 k (by omega)]
  have hcc : ∀ c, c ≠ 1 → G2 c = G c := fun c hc => by rw [k2 c hc, up2_ne _ _ _ hc, up2_ne _ _ _ hc, k1 c hc]
  have main : fX3_step N G tr = fX3_step_b119 N G2 tr := by
    unfold fX3_step
    rw [q1, fX3_step_b38, v1, q2]
  rw [main, fX3_step_b119, v2, h3, pk_sub hE.1]
  by_cases hend : tkS T len p = len
  · have hee : tkE T len p = len := by omega
    rw [hee, hend, show len - len = 0 by omega, if_pos (by decide), x2.1, if_neg (nI_nlt (by omega) (by omega))]
    refine ⟨_, rfl, ⟨by rw [up2_oth (by omega)]; exact x2.1, fun i hi => by rw [up2_ne _ _ _ (by omega)]; exact x2.2 i hi⟩, ?_, ?_, ?_, ?_, fun k hk => by rw [up2_oth (by omega), hk6 k hk], fun c hc => by rw [up2_ne _ _ _ hc, hcc c hc]⟩
    · rw [up2_oth (by omega), v2, hee, tkQ, if_pos hend]
    · rw [up2_oth (by omega), h3]
    · rw [up2_get, tkK, if_pos hend]; rfl
    · rw [tkK, if_pos hend]; intro z; omega
  · have hlt : tkS T len p < len := by omega
    have ht := hT _ hlt
    have e := x2.2 _ hlt
    obtain ⟨f, hf⟩ : ∃ f, len - tkS T len p = f + 1 := ⟨len - tkS T len p - 1, by omega⟩
    have x3 : ∀ (b : Int32), txX T len (up2 G2 1 4 b) := fun b => ⟨by rw [up2_oth (by omega)]; exact x2.1, fun i hi => by rw [up2_ne _ _ _ (by omega)]; exact x2.2 i hi⟩
    by_cases hd : 48 ≤ T (tkS T len p) ∧ T (tkS T len p) ≤ 57
    · have hE1 : tkS T len p + 1 ≤ tkE T len p := by
        have := dg_spec (T := T) (len := len) f (tkS T len p + 1) (by omega)
        rw [← he, hf, dgS, if_pos ⟨hlt, hd⟩]
        exact this.1
      rw [if_neg (show ¬ nI (tkE T len p - tkS T len p) ≤ 0 from (show ¬ nI (tkE T len p - tkS T len p) ≤ nI 0 from nI_ge (by omega) (by omega)))]
      have fin : ∀ K, tkK T len p = K → (K = 2 ∨ K = 4) → tkK T len p = K → ∃ G', fX3_step_b181 N (kX K 0) G2 tr = some (0, G', tr) ∧ stepX T len p G G' := fun K hK h24 _ => by
        refine ⟨_, rfl, x3 _, ?_, ?_, ?_, ?_, fun k hk => by rw [up2_oth (by omega), hk6 k hk], fun c hc => by rw [up2_ne _ _ _ hc, hcc c hc]⟩
        · rw [up2_oth (by omega), v2, tkQ, if_neg hend, if_pos hd]
        · rw [up2_oth (by omega), h3]
        · rw [up2_get, hK]; rcases h24 with rfl | rfl <;> rfl
        · intro h2
          rw [up2_oth (by omega), v5]
          rw [tkK, if_neg hend, if_pos hd] at h2
          by_cases h29 : 29 < tkV T len p
          · rw [if_pos h29] at h2; omega
          · rw [show min 30 (tkV T len p) = tkV T len p by omega]
      have k2 : tkK T len p = if 29 < tkV T len p then 4 else if T (tkS T len p) = 48 then (if tkE T len p - tkS T len p ≤ 1 then 2 else 4) else 2 := by rw [tkK, if_neg hend, if_pos hd]
      have h156 : (¬ 29 < tkV T len p → tkK T len p = 2) → ∃ G', fX3_step_b156 N G2 tr = some (0, G', tr) ∧ stepX T len p G G' := fun h => by
        rw [fX3_step_b156, fX3_step_b157, if_pos rfl, v5]
        by_cases h29 : 29 < tkV T len p
        · rw [show (29 : Int32) = nI 29 from rfl, if_neg (nI_ge (by omega) (by omega)), fX3_step_b172]
          have : tkK T len p = 4 := by rw [k2, if_pos h29]
          exact fin 4 this (Or.inr rfl) this
        · rw [show (29 : Int32) = nI 29 from rfl, if_pos (nI_le (by omega) (by omega))]
          exact fin 2 (h h29) (Or.inl rfl) (h h29)
      by_cases hE2 : tkE T len p - tkS T len p ≤ 1
      · rw [show (1 : Int32) = nI 1 from rfl, if_pos (nI_le hE2 (by omega))]
        refine h156 (fun h => ?_)
        rw [k2, if_neg h, if_pos hE2]
        split <;> rfl
      · rw [show (1 : Int32) = nI 1 from rfl, if_neg (nI_ge (by omega) (by omega)), zin_ok (by omega) (by omega), nI_clamp (by omega), e]
        by_cases h48 : T (tkS T len p) = 48
        · rw [h48, if_pos (show nI 48 = 48 from rfl), fX3_step_b157, if_neg (show ¬ nI 1 = 0 by decide), fX3_step_b172]
          have : tkK T len p = 4 := by
            rw [k2, if_pos h48, if_neg hE2]
            split <;> rfl
          exact fin 4 this (Or.inr rfl) this
        · rw [if_neg (show ¬ nI (T (tkS T len p)) = 48 from zneI (k := 48) h48 (by omega) (by omega))]
          refine h156 (fun h => ?_)
          rw [k2, if_neg h, if_neg h48]
    · have hE0 : tkE T len p = tkS T len p := by
        rw [← he, hf, dgS, if_neg (fun z => hd z.2)]
      rw [hE0, Nat.sub_self, if_pos (by decide), x2.1, if_pos (nI_lt hlt (by omega)), zin_ok (by omega) (by omega), zin_ok (by omega) (by omega), nI_clamp (by omega), e, fw_isSign (by omega), zbp_ok, zb_if]
      have fin : ∀ (b : Int32), b = kX (tkK T len p) (T (tkS T len p)) → tkK T len p ≠ 2 → ∃ G', fX3_step_b239 N b G2 tr = some (0, G', tr) ∧ stepX T len p G G' := fun b hb h2 => by
        refine ⟨_, rfl, ⟨by rw [up2_oth (by omega), up2_oth (by omega)]; exact x2.1, fun i hi => by rw [up2_ne _ _ _ (by omega), up2_ne _ _ _ (by omega)]; exact x2.2 i hi⟩, ?_, ?_, ?_, fun z => absurd z h2, fun k hk => by rw [up2_oth (by omega), up2_oth (by omega), hk6 k hk], fun c hc => by rw [up2_ne _ _ _ hc, up2_ne _ _ _ hc, hcc c hc]⟩
        · rw [up2_get, up2_oth (by omega), v2, hE0, nI_1, tkQ, if_neg hend, if_neg hd]
        · rw [up2_oth (by omega), up2_oth (by omega), h3]
        · rw [up2_oth (by omega), up2_get, hb]
      have k2 : tkK T len p = if T (tkS T len p) = 59 then 3 else if T (tkS T len p) = 103 ∨ T (tkS T len p) = 105 ∨ T (tkS T len p) = 120 ∨ T (tkS T len p) = 98 ∨ T (tkS T len p) = 102 then 1 else 4 := by rw [tkK, if_neg hend, if_neg hd]
      by_cases h59 : T (tkS T len p) = 59
      · rw [if_pos (Or.inr (Or.inr (Or.inr (Or.inr (Or.inr h59)))))]
        rw [if_pos h59] at k2
        exact fin _ (by rw [k2, h59]; rfl) (by omega)
      · rw [if_neg h59] at k2
        by_cases hsg : T (tkS T len p) = 103 ∨ T (tkS T len p) = 105 ∨ T (tkS T len p) = 120 ∨ T (tkS T len p) = 98 ∨ T (tkS T len p) = 102
        · rw [if_pos hsg] at k2
          rw [if_pos (by rcases hsg with h | h | h | h | h <;> simp [h])]
          exact fin _ (by rw [k2]; rfl) (by omega)
        · rw [if_neg hsg] at k2
          rw [if_neg (fun z => by rcases z with h | h | h | h | h | h <;> simp [h] at hsg h59)]
          exact fin _ (by rw [k2]; rfl) (by omega)
end tok
