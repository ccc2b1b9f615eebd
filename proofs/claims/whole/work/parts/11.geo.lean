/-! ===== the sea, and how a letter is blown: numbers alone ===== -/
abbrev zA : Type := Nat → Nat → Nat
abbrev zB : Type := Nat → Nat
def upN (f : zB) (k v : Nat) : zB := fun j => if j = k then v else f j
/-- A: 0 w, 1 h, 2 isles, 3 hills, 4 winds told, 5 force; row 1 the isles' cells, row 2 the hills' -/
def okA (A : zA) : Prop := 2 ≤ A 0 0 ∧ A 0 0 ≤ 6 ∧ 2 ≤ A 0 1 ∧ A 0 1 ≤ 5 ∧ A 0 2 ≤ 6 ∧ A 0 3 ≤ 6 ∧ A 0 4 ≤ 12 ∧ 1 ≤ A 0 5 ∧ A 0 5 ≤ 6 ∧ (∀ k, k < A 0 2 → A 1 k < A 0 0 * A 0 1) ∧ (∀ k, k < A 0 3 → A 2 k < A 0 0 * A 0 1) ∧ (∀ j k, j < A 0 2 → k < A 0 2 → A 1 j = A 1 k → j = k) ∧ (∀ j k, j < A 0 2 → k < A 0 3 → A 1 j ≠ A 2 k)
def anyS (f : zB) (c : Nat) : Nat → Bool
  | 0 => false
  | n + 1 => anyS f c n || f n == c
def fstS (f : zB) (c : Nat) : Nat → Option Nat
  | 0 => none
  | n + 1 => match fstS f c n with
    | some k => some k
    | none => if f n = c then some n else none
theorem anyS_iff {f : zB} {c : Nat} : ∀ {n : Nat}, anyS f c n = true ↔ ∃ k, k < n ∧ f k = c
  | 0 => by simp [anyS]
  | n + 1 => by
    rw [anyS, Bool.or_eq_true, anyS_iff, beq_iff_eq]
    constructor
    · rintro (⟨k, hk, h⟩ | h)
      · exact ⟨k, by omega, h⟩
      · exact ⟨n, by omega, h⟩
    · rintro ⟨k, hk, h⟩
      by_cases hn : k = n
      · exact Or.inr (hn ▸ h)
      · exact Or.inl ⟨k, by omega, h⟩
theorem fstS_none {f : zB} {c : Nat} : ∀ {n : Nat}, fstS f c n = none ↔ ∀ k, k < n → f k ≠ c
  | 0 => by simp [fstS]
  | n + 1 => by
    rw [fstS]
    cases h : fstS f c n with
    | some k =>
      simp only [reduceCtorEq, false_iff]
      intro z
      have := (fstS_none (f := f) (c := c) (n := n)).mpr (fun k hk => z k (by omega))
      rw [h] at this; cases this
    | none =>
      have hn := (fstS_none (f := f) (c := c) (n := n)).mp h
      by_cases hc : f n = c
      · simp only [hc, if_true, reduceCtorEq, false_iff]
        intro z
        exact z n (by omega) hc
      · simp only [if_neg hc, true_iff]
        intro k hk
        by_cases hkn : k = n
        · rw [hkn]; exact hc
        · exact hn k (by omega)
theorem fstS_some {f : zB} {c : Nat} : ∀ {n k : Nat}, fstS f c n = some k → k < n ∧ f k = c
  | 0, k, h => by simp [fstS] at h
  | n + 1, k, h => by
    rw [fstS] at h
    cases h2 : fstS f c n with
    | some j =>
      rw [h2] at h
      cases h
      have := fstS_some h2
      exact ⟨by omega, this.2⟩
    | none =>
      rw [h2] at h
      by_cases hc : f n = c
      · simp only [hc, if_true] at h
        cases h
        exact ⟨by omega, hc⟩
      · simp only [if_neg hc] at h
        cases h
theorem fstS_keep {f : zB} {c n k : Nat} (h : fstS f c n = some k) : ∀ {m : Nat}, n ≤ m → fstS f c m = some k
  | 0, hm => by
    have : n = 0 := by omega
    subst this
    exact h
  | m + 1, hm => by
    by_cases hn : n = m + 1
    · rw [← hn]; exact h
    · rw [fstS, fstS_keep h (m := m) (by omega)]
def hillS (A : zA) (c : Nat) : Bool := anyS (A 2) c (A 0 3)
def isleS (A : zA) (c : Nat) : Option Nat := fstS (A 1) c (A 0 2)
def bsS (w h v c : Nat) : Nat := w * (if v = 2 then (c / w + 1) % h else if v = 0 then (c / w + h - 1) % h else c / w) + (if v = 1 then (c % w + 1) % w else if v = 3 then (c % w + w - 1) % w else c % w)
theorem all4 {p : Nat → Nat → Nat → Nat → Bool} (z : ((List.range 7).all fun w => (List.range 6).all fun h => (List.range 4).all fun v => (List.range 30).all fun c => p w h v c) = true) (w : Nat) (hw : w < 7) (h : Nat) (hh : h < 6) (v : Nat) (hv : v < 4) (c : Nat) (hc : c < 30) : p w h v c = true := by
  have z1 := List.all_eq_true.mp z w (List.mem_range.mpr hw)
  have z2 := List.all_eq_true.mp z1 h (List.mem_range.mpr hh)
  have z3 := List.all_eq_true.mp z2 v (List.mem_range.mpr hv)
  exact List.all_eq_true.mp z3 c (List.mem_range.mpr hc)
set_option maxRecDepth 100000 in
theorem bsS_lt (w : Nat) (hw : w < 7) (h : Nat) (hh : h < 6) (v : Nat) (hv : v < 4) (c : Nat) (hc : c < 30) : 2 ≤ w → 2 ≤ h → c < w * h → bsS w h v c < w * h :=
  of_decide_eq_true (all4 (p := fun w h v c => decide (2 ≤ w → 2 ≤ h → c < w * h → bsS w h v c < w * h)) (by decide +kernel) w hw h hh v hv c hc)
def stA (A : zA) (v c : Nat) : Nat := if hillS A (bsS (A 0 0) (A 0 1) v c) = true then c else bsS (A 0 0) (A 0 1) v c
def mvS (A : zA) (v : Nat) : Nat → Nat → Nat
  | 0, c => c
  | r + 1, c => mvS A v r (stA A v c)
theorem area {A : zA} (h : okA A) : A 0 0 * A 0 1 ≤ 30 ∧ 4 ≤ A 0 0 * A 0 1 := by
  obtain ⟨h1, h2, h3, h4, -⟩ := h
  have a := Nat.mul_le_mul h2 h4
  have b := Nat.mul_le_mul h1 h3
  omega
theorem bs_lt {A : zA} (h : okA A) {v c : Nat} (hv : v < 4) (hc : c < A 0 0 * A 0 1) : bsS (A 0 0) (A 0 1) v c < A 0 0 * A 0 1 := by
  have ha := area h
  obtain ⟨h1, h2, h3, h4, -⟩ := h
  exact bsS_lt _ (by omega) _ (by omega) _ hv _ (by omega) h1 h3 hc
theorem st_lt {A : zA} (h : okA A) {v c : Nat} (hv : v < 4) (hc : c < A 0 0 * A 0 1) : stA A v c < A 0 0 * A 0 1 := by
  unfold stA
  split
  · exact hc
  · exact bs_lt h hv hc
theorem mv_lt {A : zA} (h : okA A) {v : Nat} (hv : v < 4) : ∀ {r c : Nat}, c < A 0 0 * A 0 1 → mvS A v r c < A 0 0 * A 0 1
  | 0, c, hc => hc
  | r + 1, c, hc => by
    rw [mvS]
    exact mv_lt h hv (st_lt h hv hc)
theorem mv_stay {A : zA} {v c : Nat} (h : stA A v c = c) : ∀ r, mvS A v r c = c
  | 0 => rfl
  | r + 1 => by rw [mvS, h, mv_stay h r]
theorem mv_out {A : zA} {v : Nat} : ∀ r c, mvS A v (r + 1) c = stA A v (mvS A v r c)
  | 0, c => rfl
  | r + 1, c => by
    rw [mvS, mv_out r, ← mvS]
/-- a letter's values: 0 weight, 1 from, 2 to, 3 cell, 4 blots, 5 how -/
def bitS (n i : Nat) : Bool := n / 2 ^ i % 2 == 1
def landL (A : zA) (nets e : Nat) (L : zB) : zB := match isleS A e with
  | none => upN L 3 e
  | some i => if i = L 2 then upN (upN (upN L 3 e) 4 (L 4 ||| 2 ^ i)) 5 1 else if bitS nets i = true then upN (upN L 3 e) 5 2 else upN (upN L 3 e) 4 (L 4 ||| 2 ^ i)
theorem land_none {A : zA} {nets e : Nat} {L : zB} (h : isleS A e = none) : landL A nets e L = upN L 3 e := by unfold landL; rw [h]
theorem land_some {A : zA} {nets e i : Nat} {L : zB} (h : isleS A e = some i) : landL A nets e L = if i = L 2 then upN (upN (upN L 3 e) 4 (L 4 ||| 2 ^ i)) 5 1 else if bitS nets i = true then upN (upN L 3 e) 5 2 else upN (upN L 3 e) 4 (L 4 ||| 2 ^ i) := by unfold landL; rw [h]
def stepL (A : zA) (nets v : Nat) (L : zB) : zB :=
  if L 5 = 0 ∧ v < 4 ∧ L 0 < A 0 5 ∧ hillS A (bsS (A 0 0) (A 0 1) v (L 3)) = false then landL A nets (mvS A v (A 0 5 - L 0) (L 3)) L else L
def okL (A : zA) (L : zB) : Prop := 1 ≤ L 0 ∧ L 0 ≤ 5 ∧ L 1 < A 0 2 ∧ L 2 < A 0 2 ∧ L 3 < A 0 0 * A 0 1 ∧ L 4 < 2 ^ A 0 2 ∧ L 5 ≤ 2
theorem or_lt : ∀ n, n < 7 → ∀ a, a < 64 → ∀ i, i < 6 → a < 2 ^ n → i < n → a ||| 2 ^ i < 2 ^ n := by decide +kernel
theorem pow_le64 {n : Nat} (h : n ≤ 6) : 2 ^ n ≤ 64 := Nat.pow_le_pow_right (by omega) h
theorem okL_step {A : zA} (hA : okA A) {L : zB} {nets v : Nat} (h : okL A L) : okL A (stepL A nets v L) := by
  unfold stepL
  split
  · rename_i hc
    obtain ⟨h5, hv, h0, hh⟩ := hc
    have hm := mv_lt hA hv (r := A 0 5 - L 0) h.2.2.2.2.1
    have hi := hA.2.2.2.2.1
    have h4 := h.2.2.2.2.2.1
    have hp := pow_le64 hi
    cases hs : isleS A (mvS A v (A 0 5 - L 0) (L 3)) with
    | none => rw [land_none hs]; exact ⟨h.1, h.2.1, h.2.2.1, h.2.2.2.1, hm, h4, h.2.2.2.2.2.2⟩
    | some i =>
      have hk := (fstS_some hs).1
      have ho := or_lt (A 0 2) (by omega) (L 4) (by omega) i (by omega) h4 hk
      rw [land_some hs]
      split
      · exact ⟨h.1, h.2.1, h.2.2.1, h.2.2.2.1, hm, ho, by show 1 ≤ 2; omega⟩
      · split
        · exact ⟨h.1, h.2.1, h.2.2.1, h.2.2.2.1, hm, h4, by show 2 ≤ 2; omega⟩
        · exact ⟨h.1, h.2.1, h.2.2.1, h.2.2.2.1, hm, ho, h.2.2.2.2.2.2⟩
  · exact h
theorem step_fix {A : zA} {L : zB} {nets v : Nat} : stepL A nets v L 0 = L 0 ∧ stepL A nets v L 1 = L 1 ∧ stepL A nets v L 2 = L 2 := by
  unfold stepL
  by_cases hc : L 5 = 0 ∧ v < 4 ∧ L 0 < A 0 5 ∧ hillS A (bsS (A 0 0) (A 0 1) v (L 3)) = false
  · rw [if_pos hc]
    cases hs : isleS A (mvS A v (A 0 5 - L 0) (L 3)) with
    | none => rw [land_none hs]; exact ⟨rfl, rfl, rfl⟩
    | some i =>
      rw [land_some hs]
      by_cases h1 : i = L 2
      · rw [if_pos h1]; exact ⟨rfl, rfl, rfl⟩
      · rw [if_neg h1]
        by_cases h2 : bitS nets i = true
        · rw [if_pos h2]; exact ⟨rfl, rfl, rfl⟩
        · rw [if_neg h2]; exact ⟨rfl, rfl, rfl⟩
  · rw [if_neg hc]; exact ⟨rfl, rfl, rfl⟩
/-! the machine's numbers of all that -/
theorem bit_get : ∀ n, n < 64 → ∀ i, i < 6 → (nI n >>> (nI i &&& 31)) &&& 1 = if bitS n i = true then 1 else 0 := by decide +kernel
theorem bit_or : ∀ n, n < 64 → ∀ i, i < 6 → nI n ||| ((1 : Int32) <<< (nI i &&& 31)) = nI (n ||| 2 ^ i) := by decide +kernel
theorem bit_one : ∀ i, i < 7 → (1 : Int32) <<< (nI i &&& 31) = nI (2 ^ i) := by decide +kernel
theorem zq_in {i : Int32} {n : Nat} {x : zR} {G : zMem} {tr : Int64} : zpu (Option.map Prod.fst (zin i n x)) G tr = zin i n (zpu (Option.map Prod.fst x) G tr) := by
  unfold zin; split <;> rfl
theorem zq_dv {i : Int32} {x : zR} {G : zMem} {tr : Int64} : zpu (Option.map Prod.fst (zdv i x)) G tr = zdv i (zpu (Option.map Prod.fst x) G tr) := by
  unfold zdv; split <;> rfl
theorem zq_if {c : Prop} [Decidable c] {x y : zR} {G : zMem} {tr : Int64} : zpu (Option.map Prod.fst (if c then x else y)) G tr = if c then zpu (Option.map Prod.fst x) G tr else zpu (Option.map Prod.fst y) G tr := by
  split <;> rfl
theorem zq_some {r : Int32} {G G0 : zMem} {tr tr0 : Int64} : zpu (Option.map Prod.fst (some (r, G0, tr0))) G tr = some (r, G, tr) := rfl
theorem tnc0 : Int32.toNatClampNeg 0 = 0 := rfl
theorem tnc1 : Int32.toNatClampNeg 1 = 1 := rfl
theorem fm_beside_f (N : Nat) (c v : Int32) (G : zMem) (tr : Int64) : fX5_beside N c v G tr = zpu (Option.map Prod.fst (fX5_beside 0 c v (fun _ k => if k = 0 then G 2 0 else G 2 1) 0)) G tr := by
  simp only [fX5_beside, fX5_beside_b63, fX5_beside_b110, zq_in, zq_dv, zq_if, zq_some, tnc0, tnc1, if_true, Nat.one_ne_zero, if_false]
theorem fw_beside_f (N t : Nat) (c v : Int32) (G : zMem) (tr : Int64) : fX0_beside N t c v G tr = zpu (Option.map Prod.fst (fX0_beside 0 0 c v (fun _ k => if k = 0 then G t 0 else G t 1) 0)) G tr := by
  simp only [fX0_beside, zq_in, zq_dv, zq_if, zq_some, if_true, Nat.one_ne_zero, if_false]
set_option maxRecDepth 100000 in
theorem bs_m (w : Nat) (hw : w < 7) (h : Nat) (hh : h < 6) (v : Nat) (hv : v < 4) (c : Nat) (hc : c < 30) : 2 ≤ w → 2 ≤ h → c < w * h → Option.map Prod.fst (fX5_beside 0 (nI c) (nI v) (fun _ k => if k = 0 then nI w else nI h) 0) = some (nI (bsS w h v c)) :=
  of_decide_eq_true (all4 (p := fun w h v c => decide (2 ≤ w → 2 ≤ h → c < w * h → Option.map Prod.fst (fX5_beside 0 (nI c) (nI v) (fun _ k => if k = 0 then nI w else nI h) 0) = some (nI (bsS w h v c)))) (by decide +kernel) w hw h hh v hv c hc)
set_option maxRecDepth 100000 in
theorem bs_x (w : Nat) (hw : w < 7) (h : Nat) (hh : h < 6) (v : Nat) (hv : v < 4) (c : Nat) (hc : c < 30) : 2 ≤ w → 2 ≤ h → c < w * h → Option.map Prod.fst (fX0_beside 0 0 (nI c) (nI v) (fun _ k => if k = 0 then nI w else nI h) 0) = some (nI (bsS w h v c)) :=
  of_decide_eq_true (all4 (p := fun w h v c => decide (2 ≤ w → 2 ≤ h → c < w * h → Option.map Prod.fst (fX0_beside 0 0 (nI c) (nI v) (fun _ k => if k = 0 then nI w else nI h) 0) = some (nI (bsS w h v c)))) (by decide +kernel) w hw h hh v hv c hc)
/-- the reference's sea -/
def gM (A : zA) (G : zMem) : Prop := (∀ k, k < 6 → G 2 k = nI (A 0 k)) ∧ (∀ k, k < A 0 2 → G 3 k = nI (A 1 k)) ∧ (∀ k, k < A 0 3 → G 4 k = nI (A 2 k))
theorem fm_beside {A : zA} {G : zMem} (hA : okA A) (g : gM A G) (N : Nat) (tr : Int64) {c v : Nat} (hv : v < 4) (hc : c < A 0 0 * A 0 1) : fX5_beside N (nI c) (nI v) G tr = some (nI (bsS (A 0 0) (A 0 1) v c), G, tr) := by
  have ha := area hA
  obtain ⟨h1, h2, h3, h4, -⟩ := hA
  rw [fm_beside_f, g.1 0 (by omega), g.1 1 (by omega), bs_m _ (by omega) _ (by omega) _ hv _ (by omega) h1 h3 hc]; rfl
theorem fm_isHill_loop {A : zA} {G : zMem} (hA : okA A) (g : gM A G) (N : Nat) (tr : Int64) {c : Nat} (hc : c < 2 ^ 30) : ∀ (d i n : Nat), i + d = A 0 3 → d < n → fX5_isHill_L4 N (nI c) n (if anyS (A 2) c i = true then 1 else 0) (nI i) G tr = some (if hillS A c = true then 1 else 0, G, tr) := by
  have hh : A 0 3 ≤ 6 := hA.2.2.2.2.2.1
  intro d
  induction d with
  | zero =>
    intro i n hi hn
    obtain ⟨n, rfl⟩ : ∃ k, n = k + 1 := ⟨n - 1, by omega⟩
    rw [fX5_isHill_L4, fX5_isHill_b4, show (3 : Int32) = nI 3 from rfl, zin_ok (by omega) (by omega), nI_clamp (by omega), g.1 3 (by omega), if_pos (nI_le (by omega) (by omega)), zbo_if, show i = A 0 3 by omega]; rfl
  | succ d ih =>
    intro i n hi hn
    obtain ⟨n, rfl⟩ : ∃ k, n = k + 1 := ⟨n - 1, by omega⟩
    have hih := ih (i + 1) n (by omega) (by omega)
    have hA2 : A 2 i < 2 ^ 30 := by
      have := hA.2.2.2.2.2.2.2.2.2.2.1 i (by omega)
      have := area hA
      omega
    rw [fX5_isHill_L4, fX5_isHill_b4, show (3 : Int32) = nI 3 from rfl, zin_ok (by omega) (by omega), nI_clamp (by omega), g.1 3 (by omega), if_neg (nI_ge (by omega) (by omega))]
    rw [anyS] at hih
    by_cases hx : anyS (A 2) c i = true
    · rw [if_pos hx, if_neg (by decide), fX5_isHill_b28, fX5_isHill_b33, nI_1]
      rw [hx, Bool.true_or] at hih
      exact hih
    · rw [if_neg hx, if_pos rfl, zin_ok (by omega) (by omega), nI_clamp (by omega), g.2.2 i (by omega)]
      simp only [Bool.not_eq_true] at hx
      rw [hx, Bool.false_or] at hih
      by_cases hy : A 2 i = c
      · rw [if_pos (by rw [hy]), fX5_isHill_b28, fX5_isHill_b33, nI_1]
        rw [if_pos (by simp [hy])] at hih
        exact hih
      · rw [if_neg (fun z => hy ((nI_eq (by omega) (by omega)).mp z)), fX5_isHill_b33, nI_1]
        rw [if_neg (by simp [hy])] at hih
        exact hih
theorem fm_isHill {A : zA} {G : zMem} (hA : okA A) (g : gM A G) {N : Nat} (hN : 100 < N) (tr : Int64) {c : Nat} (hc : c < 2 ^ 30) : fX5_isHill N (nI c) G tr = some (if hillS A c = true then 1 else 0, G, tr) := by
  have hh : A 0 3 ≤ 6 := hA.2.2.2.2.2.1
  exact fm_isHill_loop hA g N tr hc (A 0 3) 0 N (by omega) (by omega)
/-- an isle's number, as both answer it -/
def isV (o : Option Nat) : Int32 := match o with
  | some k => nI k
  | none => -9
theorem fm_isleAt_loop {A : zA} {G : zMem} (hA : okA A) (g : gM A G) (N : Nat) (tr : Int64) {c : Nat} (hc : c < 2 ^ 30) : ∀ (d i n : Nat), i + d = A 0 2 → d < n → fstS (A 1) c i = none → fX5_isleAt_L2 N (nI c) n (nI i) G tr = some (isV (isleS A c), G, tr) := by
  have hh : A 0 2 ≤ 6 := hA.2.2.2.2.1
  intro d
  induction d with
  | zero =>
    intro i n hi hn hf
    obtain ⟨n, rfl⟩ : ∃ k, n = k + 1 := ⟨n - 1, by omega⟩
    rw [fX5_isleAt_L2, fX5_isleAt_b2, show (2 : Int32) = nI 2 from rfl, zin_ok (by omega) (by omega), nI_clamp (by omega), g.1 2 (by omega), if_pos (nI_le (by omega) (by omega)), isleS, ← show i = A 0 2 by omega, hf]; rfl
  | succ d ih =>
    intro i n hi hn hf
    obtain ⟨n, rfl⟩ : ∃ k, n = k + 1 := ⟨n - 1, by omega⟩
    have hA1 : A 1 i < 2 ^ 30 := by
      have := hA.2.2.2.2.2.2.2.2.2.1 i (by omega)
      have := area hA
      omega
    rw [fX5_isleAt_L2, fX5_isleAt_b2, show (2 : Int32) = nI 2 from rfl, zin_ok (by omega) (by omega), nI_clamp (by omega), g.1 2 (by omega), if_neg (nI_ge (by omega) (by omega)), zin_ok (by omega) (by omega), nI_clamp (by omega), g.2.1 i (by omega)]
    by_cases hy : A 1 i = c
    · rw [if_pos (by rw [hy])]
      have : fstS (A 1) c (i + 1) = some i := by rw [fstS, hf]; simp [hy]
      rw [isleS, fstS_keep this (by omega)]; rfl
    · rw [if_neg (fun z => hy ((nI_eq (by omega) (by omega)).mp z)), nI_1]
      exact ih (i + 1) n (by omega) (by omega) (by rw [fstS, hf]; simp [hy])
theorem fm_isleAt {A : zA} {G : zMem} (hA : okA A) (g : gM A G) {N : Nat} (hN : 100 < N) (tr : Int64) {c : Nat} (hc : c < 2 ^ 30) : fX5_isleAt N (nI c) G tr = some (isV (isleS A c), G, tr) := by
  have hh : A 0 2 ≤ 6 := hA.2.2.2.2.1
  exact fm_isleAt_loop hA g N tr hc (A 0 2) 0 N (by omega) (by omega) rfl
