/-! ===== moments are copied ===== -/
theorem fw_copyL {G : zMem} {tr : Int64} {N t a : Nat} (h : t ≠ a) : ∃ G', fX1_copyFrom N t a G tr = some (0, G', tr) ∧ (∀ c, c ≠ t → G' c = G c) ∧ ∀ j, j < 7 → G' t j = G a j := by
  have ha : a ≠ t := Ne.symm h
  refine ⟨_, rfl, fun c hc => ?_, fun j hj => ?_⟩
  · simp only [up2_ne _ _ _ hc]
  · simp only [up2_ne _ _ _ ha]
    rcases (show j = 0 ∨ j = 1 ∨ j = 2 ∨ j = 3 ∨ j = 4 ∨ j = 5 ∨ j = 6 by omega) with rfl | rfl | rfl | rfl | rfl | rfl | rfl <;> simp [up2, upd]
theorem fw_copy60 {N : Nat} (tr : Int64) {t a : Nat} (hd : t + 8 ≤ a ∨ a + 8 ≤ t) : ∀ (d i n : Nat) (G : zMem), i + d = 5 → d < n → ∃ G', fX2_copyFrom_L60 N t a n (nI i) G tr = some (0, G', tr) ∧ (∀ c, (c < t + 3 ∨ t + 8 ≤ c) → G' c = G c) ∧ (∀ l, l < i → G' (t + 3 + l) = G (t + 3 + l)) ∧ ∀ l, i ≤ l → l < 5 → ∀ j, j < 7 → G' (t + 3 + l) j = G (a + 3 + l) j := by
  intro d
  induction d with
  | zero =>
    intro i n G hi hn
    obtain ⟨n, rfl⟩ : ∃ k, n = k + 1 := ⟨n - 1, by omega⟩
    refine ⟨G, ?_, fun _ _ => rfl, fun _ _ => rfl, fun l h1 h2 => by omega⟩
    rw [fX2_copyFrom_L60, fX2_copyFrom_b60, show (5 : Int32) = nI 5 from rfl, if_pos (nI_le (by omega) (by omega))]
  | succ d ih =>
    intro i n G hi hn
    obtain ⟨n, rfl⟩ : ∃ k, n = k + 1 := ⟨n - 1, by omega⟩
    obtain ⟨G1, e1, k1, v1⟩ := fw_copyL (G := G) (tr := tr) (N := N) (t := t + 3 + i) (a := a + 3 + i) (by omega)
    obtain ⟨G2, e2, k2, k3, v2⟩ := ih (i + 1) n G1 (by omega) (by omega)
    refine ⟨G2, ?_, fun c hc => by rw [k2 c hc, k1 c (by omega)], fun l hl => by rw [k3 l (by omega), k1 _ (by omega)], fun l h1 h2 j hj => ?_⟩
    · rw [fX2_copyFrom_L60, fX2_copyFrom_b60, show (5 : Int32) = nI 5 from rfl, if_neg (nI_ge (by omega) (by omega)), zin_ok (by omega) (by omega), zin_ok (by omega) (by omega), nI_clamp (by omega), e1, zbd_ok, nI_1, e2]
    · by_cases hl : l = i
      · subst hl
        rw [k3 l (by omega)]; exact v1 j hj
      · rw [v2 l (by omega) h2 j hj, k1 _ (by omega)]
theorem fw_copy34 {N : Nat} (tr : Int64) {t a : Nat} (hd : t + 8 ≤ a ∨ a + 8 ≤ t) : ∀ (d i n : Nat) (G : zMem), i + d = 12 → d < n → ∃ G', fX2_copyFrom_L34 N t a n (nI i) G tr = fX2_copyFrom_L60 N t a N 0 G' tr ∧ (∀ c, c ≠ t + 1 → G' c = G c) ∧ (∀ k, k < i → G' (t + 1) k = G (t + 1) k) ∧ ∀ k, i ≤ k → k < 12 → G' (t + 1) k = G (a + 1) k := by
  intro d
  induction d with
  | zero =>
    intro i n G hi hn
    obtain ⟨n, rfl⟩ : ∃ k, n = k + 1 := ⟨n - 1, by omega⟩
    refine ⟨G, ?_, fun _ _ => rfl, fun _ _ => rfl, fun l h1 h2 => by omega⟩
    rw [fX2_copyFrom_L34, fX2_copyFrom_b34, show (12 : Int32) = nI 12 from rfl, if_pos (nI_le (by omega) (by omega))]
  | succ d ih =>
    intro i n G hi hn
    obtain ⟨n, rfl⟩ : ∃ k, n = k + 1 := ⟨n - 1, by omega⟩
    obtain ⟨G2, e2, k2, k3, v2⟩ := ih (i + 1) n (up2 G (t + 1) i (G (a + 1) i)) (by omega) (by omega)
    refine ⟨G2, ?_, fun c hc => by rw [k2 c hc, up2_ne _ _ _ hc], fun k hk => by rw [k3 k (by omega), up2_oth (by omega)], fun k h1 h2 => ?_⟩
    · rw [fX2_copyFrom_L34, fX2_copyFrom_b34, show (12 : Int32) = nI 12 from rfl, if_neg (nI_ge (by omega) (by omega)), zin_ok (by omega) (by omega), zin_ok (by omega) (by omega), nI_clamp (by omega), nI_1, e2]
    · by_cases hl : k = i
      · subst hl
        rw [k3 k (by omega), up2_get]
      · rw [v2 k (by omega) h2, up2_ne _ _ _ (by omega)]
theorem fw_copy {N : Nat} (hN : 100 < N) (tr : Int64) {t a : Nat} (hd : t + 8 ≤ a ∨ a + 8 ≤ t) {A : zA} {B : zB} {G : zMem} (hA : okA A) (hB : B 1 ≤ 5) (m : mX A G a B) : ∃ G', fX2_copyFrom N t a G tr = some (0, G', tr) ∧ (∀ c, (c < t ∨ t + 8 ≤ c) → G' c = G c) ∧ mX A G' t B := by
  have hat : a ≠ t := by omega
  have ht := hA.2.2.2.2.2.2.1
  obtain ⟨m0, m1, m2, m3, m4, m5⟩ := m
  unfold fX2_copyFrom
  simp only [up2_ne _ _ _ hat]
  generalize hG1 : up2 (up2 (up2 (up2 G t 0 (G a 0)) t 1 (G a 1)) t 2 (G a 2)) t 3 (G a 3) = G1
  have k1 : ∀ c, c ≠ t → G1 c = G c := fun c hc => by rw [← hG1]; simp only [up2_ne _ _ _ hc]
  obtain ⟨G2, e2, k2, -, v2⟩ := fw_copy34 (N := N) tr hd 12 0 N G1 (by omega) (by omega)
  obtain ⟨G3, e3, k3, -, v3⟩ := fw_copy60 (N := N) tr hd 5 0 N G2 (by omega) (by omega)
  refine ⟨G3, by rw [show (0 : Int32) = nI 0 from rfl, e2]; exact e3, fun c hc => by rw [k3 c (by omega), k2 c (by omega), k1 c (by omega)], ?_⟩
  have et : G3 t = G1 t := by rw [k3 t (by omega), k2 t (by omega)]
  refine ⟨?_, ?_, ?_, ?_, fun k hk => ?_, fun l hl => ⟨fun j hj => ?_, ?_⟩⟩
  · rw [et, ← hG1, ← m0]; simp [up2, upd]
  · rw [et, ← hG1, ← m1]; simp [up2, upd]
  · rw [et, ← hG1, ← m2]; simp [up2, upd]
  · rw [et, ← hG1, ← m3]; simp [up2, upd]
  · rw [k3 (t + 1) (by omega), v2 k (by omega) (by omega), k1 _ (by omega), m4 k hk]
  · rw [v3 l (by omega) (by omega) j (by omega), k2 _ (by omega), k1 _ (by omega), (m5 l hl).1 j hj]
  · rw [v3 l (by omega) (by omega) 6 (by omega), k2 _ (by omega), k1 _ (by omega), (m5 l hl).2]
/-! the reference's rows -/
theorem fm_notes47 {N : Nat} (tr : Int64) {u : Nat} (hu : u < 10) {B : zB} : ∀ (d i n : Nat) (G : zMem), i + d = 45 → d < n → G 0 18 = nI u → mM G 6 0 B → ∃ G', fX5_notes_L47 N n (nI i) G tr = some (0, G', tr) ∧ (∀ c, c ≠ 0 → c ≠ 9 → G' c = G c) ∧ G' 0 18 = nI (u + 1) ∧ (∀ k, k ≠ 18 → G' 0 k = G 0 k) ∧ (∀ k, i ≤ k → k < 45 → G' 9 (45 * u + k) = nI (B k)) ∧ ∀ k, (k < 45 * u + i ∨ 45 * u + 45 ≤ k) → G' 9 k = G 9 k := by
  intro d
  induction d with
  | zero =>
    intro i n G hi hn h18 m
    obtain ⟨n, rfl⟩ : ∃ k, n = k + 1 := ⟨n - 1, by omega⟩
    refine ⟨up2 G 0 18 (nI (u + 1)), ?_, fun c h0 _ => up2_ne _ _ _ h0, up2_get, fun k hk => up2_oth hk, fun k h1 h2 => by omega, fun k _ => by rw [up2_ne _ _ _ (by omega)]⟩
    rw [fX5_notes_L47, fX5_notes_b47, show (45 : Int32) = nI 45 from rfl, if_pos (nI_le (by omega) (by omega)), h18, nI_1]
  | succ d ih =>
    intro i n G hi hn h18 m
    obtain ⟨n, rfl⟩ : ∃ k, n = k + 1 := ⟨n - 1, by omega⟩
    have hmi := m i (by omega)
    rw [Nat.zero_add] at hmi
    obtain ⟨G2, e2, k2, c2, q2, v2, w2⟩ := ih (i + 1) n (up2 G 9 (45 * u + i) (nI (B i))) (by omega) (by omega) (by rw [up2_ne _ _ _ (by omega)]; exact h18) (by unfold mM; rw [up2_ne _ _ _ (by omega)]; exact m)
    refine ⟨G2, ?_, fun c h0 h9 => by rw [k2 c h0 h9, up2_ne _ _ _ h9], c2, fun k hk => by rw [q2 k hk, up2_ne _ _ _ (by omega)], fun k h1 h2 => ?_, fun k hk => by rw [w2 k (by omega), up2_oth (by omega)]⟩
    · rw [fX5_notes_L47, fX5_notes_b47, show (45 : Int32) = nI 45 from rfl, if_neg (nI_ge (by omega) (by omega)), zin_ok (by omega) (by omega), h18, pk_mul, nI_add, zin_ok (by omega) (by omega), nI_clamp (by omega), nI_clamp (by omega), hmi, nI_1, e2]
    · by_cases hl : k = i
      · subst hl
        rw [w2 _ (by omega), up2_get]
      · exact v2 k (by omega) h2
theorem fm_notes11 {N : Nat} (tr : Int64) : ∀ (d i n : Nat) (G : zMem), i + d = 405 → d < n → ∃ G', fX5_notes_L11 N n (nI i) G tr = fX5_notes_b45 N (up2 G' 0 18 9) tr ∧ (∀ c, c ≠ 9 → G' c = G c) ∧ (∀ k, k < i → G' 9 k = G 9 k) ∧ ∀ k, i ≤ k → k < 405 → G' 9 k = G 9 (k + 45) := by
  intro d
  induction d with
  | zero =>
    intro i n G hi hn
    obtain ⟨n, rfl⟩ : ∃ k, n = k + 1 := ⟨n - 1, by omega⟩
    refine ⟨G, ?_, fun _ _ => rfl, fun _ _ => rfl, fun k h1 h2 => by omega⟩
    rw [fX5_notes_L11, fX5_notes_b11, show (405 : Int32) = nI 405 from rfl, if_pos (nI_le (by omega) (by omega))]
  | succ d ih =>
    intro i n G hi hn
    obtain ⟨n, rfl⟩ : ∃ k, n = k + 1 := ⟨n - 1, by omega⟩
    obtain ⟨G2, e2, k2, w2, v2⟩ := ih (i + 1) n (up2 G 9 i (G 9 (i + 45))) (by omega) (by omega)
    refine ⟨G2, ?_, fun c hc => by rw [k2 c hc, up2_ne _ _ _ hc], fun k hk => by rw [w2 k (by omega), up2_oth (by omega)], fun k h1 h2 => ?_⟩
    · rw [fX5_notes_L11, fX5_notes_b11, show (405 : Int32) = nI 405 from rfl, if_neg (nI_ge (by omega) (by omega)), show (45 : Int32) = nI 45 from rfl, nI_add, zin_ok (by omega) (by omega), zin_ok (by omega) (by omega), nI_clamp (by omega), nI_clamp (by omega), nI_1, e2]
    · by_cases hl : k = i
      · subst hl
        rw [w2 _ (by omega), up2_get]
      · rw [v2 k (by omega) h2, up2_oth (by omega)]
/-- what is remembered -/
def pushU (un : Nat) (U : Nat → zB) (B : zB) : Nat → zB := fun j => if un = 10 then (if j = 9 then B else U (j + 1)) else (if j = un then B else U j)
def pushN (un : Nat) : Nat := if un = 10 then 10 else un + 1
section noteS
variable {A : zA} {len : Nat} {T B : zB} {un : Nat} {U : Nat → zB} {K : Nat → Bool} {I : Nat → zB} {G : zMem}
theorem RO_push (o : RO A len T B un U K I) : RO A len T B (pushN un) (pushU un U B) K I := by
  obtain ⟨h1, h2, h3, h4, h5, h6, h7⟩ := o
  refine ⟨h1, h2, h3, h4, by unfold pushN; split <;> omega, fun j hj => ?_, h7⟩
  unfold pushU
  unfold pushN at hj
  by_cases hu : un = 10
  · rw [if_pos hu] at hj ⊢
    by_cases h9 : j = 9
    · rw [if_pos h9]; exact h4
    · rw [if_neg h9]; exact h6 _ (by omega)
  · rw [if_neg hu] at hj ⊢
    by_cases h9 : j = un
    · rw [if_pos h9]; exact h4
    · rw [if_neg h9]; exact h6 _ (by omega)
theorem fm_notes (o : RO A len T B un U K I) (m : RM A len T B un U K I G) {N : Nat} (hN : 1000 < N) (tr : Int64) : ∃ G', fX5_notes N G tr = some (0, G', tr) ∧ RM A len T B (pushN un) (pushU un U B) K I G' := by
  have hu := o.2.2.2.2.1
  obtain ⟨a1, a2, a3, ⟨a4, a5⟩, a6, a7⟩ := m
  unfold fX5_notes
  by_cases h10 : un = 10
  · subst h10
    rw [a4, if_pos (show nI 10 = 10 from rfl)]
    obtain ⟨G1, e1, k1, -, v1⟩ := fm_notes11 (N := N) tr 405 0 N G (by omega) (by omega)
    obtain ⟨G2, e2, k2, c2, q2, v2, w2⟩ := fm_notes47 (N := N) tr (u := 9) (by omega) (B := B) 45 0 N (up2 G1 0 18 9) (by omega) (by omega) up2_get (by unfold mM; rw [up2_ne _ _ _ (by omega), k1 6 (by omega)]; exact a3)
    refine ⟨G2, by rw [show (0 : Int32) = nI 0 from rfl, e1, fX5_notes_b45]; exact e2, ?_⟩
    have kk : ∀ c, c ≠ 0 → c ≠ 9 → G2 c = G c := fun c h0 h9 => by rw [k2 c h0 h9, up2_ne _ _ _ h0, k1 c h9]
    have k03 : G2 0 3 = G 0 3 := by rw [q2 3 (by omega), up2_oth (by omega), k1 0 (by omega)]
    unfold RM gM
    rw [kk 1 (by omega) (by omega), kk 2 (by omega) (by omega), kk 3 (by omega) (by omega), kk 4 (by omega) (by omega), kk 8 (by omega) (by omega), k03]
    refine ⟨a1, a2, by unfold mM; rw [kk 6 (by omega) (by omega)]; exact a3, ⟨c2, fun j hj => ?_⟩, a6, by unfold mM; rw [kk 7 (by omega) (by omega)]; exact a7⟩
    unfold pushU pushN at *
    rw [if_pos rfl] at hj ⊢
    intro k hk
    by_cases h9 : j = 9
    · subst h9
      rw [if_pos rfl]; exact v2 k (by omega) hk
    · rw [if_neg h9, w2 _ (by omega), up2_ne _ _ _ (by omega), v1 _ (by omega) (by omega)]
      have := a5 (j + 1) (by omega) k hk
      rw [← this]
      congr 1; omega
  · rw [a4, if_neg (show ¬ nI un = 10 from fun z => h10 ((nI_eq (b := 10) (by omega) (by omega)).mp z)), fX5_notes_b45]
    obtain ⟨G2, e2, k2, c2, q2, v2, w2⟩ := fm_notes47 (N := N) tr (u := un) (by omega) (B := B) 45 0 N G (by omega) (by omega) a4 a3
    refine ⟨G2, e2, ?_⟩
    unfold RM gM
    rw [k2 1 (by omega) (by omega), k2 2 (by omega) (by omega), k2 3 (by omega) (by omega), k2 4 (by omega) (by omega), k2 8 (by omega) (by omega), q2 3 (by omega)]
    refine ⟨a1, a2, by unfold mM; rw [k2 6 (by omega) (by omega)]; exact a3, ⟨by rw [c2]; unfold pushN; rw [if_neg h10], fun j hj => ?_⟩, a6, by unfold mM; rw [k2 7 (by omega) (by omega)]; exact a7⟩
    unfold pushU pushN at *
    rw [if_neg h10] at hj ⊢
    intro k hk
    by_cases h9 : j = un
    · subst h9
      rw [if_pos rfl]; exact v2 k (by omega) hk
    · rw [if_neg h9, w2 _ (by omega)]
      exact a5 j (by omega) k hk
theorem fw_remember (o : RO A len T B un U K I) (x : RX A len T B un U K I G) {N : Nat} (hN : 1000 < N) (tr : Int64) : ∃ G', fX4_remember N G tr = some (0, G', tr) ∧ RX A len T B (pushN un) (pushU un U B) K I G' := by
  have hu := o.2.2.2.2.1
  have hc := RX_ch x
  obtain ⟨a1, a2, a3, a4, ⟨a5, pn, a6, a7, a8⟩, a9, a10⟩ := x
  unfold fX4_remember
  rw [a7, zin_ok (by omega) (by omega), nI_clamp (by omega)]
  obtain ⟨G1, e1, k1, m1⟩ := fw_copy (N := N) (by omega) tr (t := 26 + 8 * pn) (a := 18) (by omega) o.1 o.2.2.2.1.2.1 a4
  rw [e1, zbd_ok, k1 0 (by omega), a7]
  have hnext : ∃ pn', pn' < 10 ∧ pn' = (if pn = 9 then 0 else pn + 1) ∧ (if (9 : Int32) ≤ nI pn then fX4_remember_b36 N 0 G1 tr else fX4_remember_b36 N (nI pn + 1) G1 tr) = fX4_remember_b36 N (nI pn') G1 tr := by
    by_cases h9 : pn = 9
    · exact ⟨0, by omega, by rw [if_pos h9], by rw [h9, if_pos (by decide)]; rfl⟩
    · exact ⟨pn + 1, by omega, by rw [if_neg h9], by rw [show (9 : Int32) = nI 9 from rfl, if_neg (nI_ge (by omega) (by omega)), nI_1]⟩
  obtain ⟨pn', hp1, hp2, hp3⟩ := hnext
  rw [hp3, fX4_remember_b36]
  have hk : (if (10 : Int32) < up2 G1 0 5 (nI pn') 0 6 + 1 then (10 : Int32) else up2 G1 0 5 (nI pn') 0 6 + 1) = nI (pushN un) := by
    rw [up2_oth (by omega), k1 0 (by omega), a5, nI_1, show (10 : Int32) = nI 10 from rfl]
    unfold pushN
    by_cases h10 : un = 10
    · rw [if_pos (nI_lt (by omega) (by omega)), if_pos h10]
    · rw [if_neg (nI_nlt (by omega) (by omega)), if_neg h10]
  rw [hk]
  refine ⟨_, rfl, ?_⟩
  generalize hG2 : up2 (up2 G1 0 5 (nI pn')) 0 6 (nI (pushN un)) = G2
  have z0 : ∀ c, c ≠ 0 → G2 c = G1 c := fun c h => by rw [← hG2, up2_ne _ _ _ h, up2_ne _ _ _ h]
  have z5 : G2 0 5 = nI pn' := by rw [← hG2, up2_oth (by omega), up2_get]
  have z6 : G2 0 6 = nI (pushN un) := by rw [← hG2, up2_get]
  have z1 : G2 0 1 = G 0 1 := by rw [← hG2, up2_oth (by omega), up2_oth (by omega), k1 0 (by omega)]
  have z2 : G2 0 2 = G 0 2 := by rw [← hG2, up2_oth (by omega), up2_oth (by omega), k1 0 (by omega)]
  have kk : ∀ c, c ≠ 0 → (c < 26 + 8 * pn ∨ 26 + 8 * pn + 8 ≤ c) → G2 c = G c := fun c h0 h => by rw [z0 c h0, k1 c h]
  refine ⟨by rw [z1, z2]; exact a1, ?_, by rw [kk 1 (by omega) (by omega), kk 2 (by omega) (by omega)]; exact a3, mX_keep o.2.2.2.1.2.1 (fun c _ _ => kk c (by omega) (by omega)) a4, ⟨z6, pn', hp1, z5, fun j hj => ?_⟩, by rw [kk 17 (by omega) (by omega)]; exact a9, fun i hi hK => mX_keep (o.2.2.2.2.2.2 i hi hK).2.1 (fun c _ _ => kk c (by omega) (by omega)) (a10 i hi hK)⟩
  · rw [z1]
    refine gX_keep a2 (fun c h1 h2 => kk c ?_ ?_) <;> rcases hc.2 with e | e <;> omega
  · have hmm : mX A G2 (26 + 8 * pn) B := mX_keep o.2.2.2.1.2.1 (fun c _ _ => z0 c (by omega)) m1
    have other : ∀ i, i < un → (pn + 10 - un + i) % 10 ≠ pn → mX A G2 (26 + 8 * ((pn + 10 - un + i) % 10)) (U i) := fun i hi hne => mX_keep (o.2.2.2.2.2.1 i hi).2.1 (fun c _ _ => kk c (by omega) (by omega)) (a8 i hi)
    unfold pushU
    unfold pushN at hj ⊢
    by_cases h10 : un = 10
    · rw [if_pos h10] at hj ⊢
      rw [if_pos h10]
      by_cases h9 : j = 9
      · rw [if_pos h9]
        have : (pn' + 10 - 10 + j) % 10 = pn := by rw [hp2, h9]; split <;> omega
        rw [this]; exact hmm
      · rw [if_neg h9]
        have : (pn' + 10 - 10 + j) % 10 = (pn + 10 - un + (j + 1)) % 10 := by rw [hp2, h10]; split <;> omega
        rw [this]
        exact other (j + 1) (by omega) (by omega)
    · rw [if_neg h10] at hj ⊢
      rw [if_neg h10]
      by_cases h9 : j = un
      · rw [if_pos h9]
        have : (pn' + 10 - (un + 1) + j) % 10 = pn := by rw [hp2, h9]; split <;> omega
        rw [this]; exact hmm
      · rw [if_neg h9]
        have : (pn' + 10 - (un + 1) + j) % 10 = (pn + 10 - un + j) % 10 := by rw [hp2]; split <;> omega
        rw [this]
        exact other j (by omega) (by omega)
end noteS
