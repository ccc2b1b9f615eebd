/-! ===== the two memories side by side ===== -/
def letB (B : zB) (l : Nat) : zB := fun j => B (15 + 6 * l + j)
/-- B: 0 the hour, 1 letters, 2 nets, 3.. winds, 15.. six of each letter -/
def okB (A : zA) (B : zB) : Prop := B 0 ≤ 9999 ∧ B 1 ≤ 5 ∧ B 2 < 2 ^ A 0 2 ∧ (∀ k, k < A 0 4 → B (3 + k) ≤ 4) ∧ ∀ l, l < B 1 → okL A (letB B l)
def mX (A : zA) (G : zMem) (M : Nat) (B : zB) : Prop := G M 0 = nI (B 0) ∧ G M 1 = nI (B 1) ∧ G M 2 = nI (B 2) ∧ G M 3 = nI (A 0 4) ∧ (∀ k, k < A 0 4 → G (M + 1) k = nI (B (3 + k))) ∧ ∀ l, l < B 1 → repL A G (M + 3 + l) (letB B l)
def mM (G : zMem) (r o : Nat) (B : zB) : Prop := ∀ k, k < 45 → G r (o + k) = nI (B k)
theorem mX_keep {A : zA} {G G' : zMem} {M : Nat} {B : zB} (hB : B 1 ≤ 5) (h : ∀ c, M ≤ c → c < M + 8 → G' c = G c) (m : mX A G M B) : mX A G' M B := by
  obtain ⟨h0, h1, h2, h3, h4, h5⟩ := m
  refine ⟨by rw [h M (by omega) (by omega)]; exact h0, by rw [h M (by omega) (by omega)]; exact h1, by rw [h M (by omega) (by omega)]; exact h2, by rw [h M (by omega) (by omega)]; exact h3, fun k hk => by rw [h (M + 1) (by omega) (by omega)]; exact h4 k hk, fun l hl => repL_keep (h5 l hl) (h _ (by omega) (by omega))⟩
def RO (A : zA) (len : Nat) (T B : zB) (un : Nat) (U : Nat → zB) (K : Nat → Bool) (I : Nat → zB) : Prop := okA A ∧ len ≤ 200 ∧ (∀ i, i < len → T i ≤ 255) ∧ okB A B ∧ un ≤ 10 ∧ (∀ j, j < un → okB A (U j)) ∧ ∀ i, i < 2 → K i = true → okB A (I i)
def RX (A : zA) (len : Nat) (T B : zB) (un : Nat) (U : Nat → zB) (K : Nat → Bool) (I : Nat → zB) (G : zMem) : Prop :=
  ((G 0 1 = 3 ∧ G 0 2 = 8) ∨ (G 0 1 = 8 ∧ G 0 2 = 3)) ∧ gX A G (G 0 1).toNatClampNeg ∧ (G 1 0 = nI len ∧ ∀ i, i < len → G 2 i = nI (T i)) ∧ mX A G 18 B ∧
  (G 0 6 = nI un ∧ ∃ pn, pn < 10 ∧ G 0 5 = nI pn ∧ ∀ j, j < un → mX A G (26 + 8 * ((pn + 10 - un + j) % 10)) (U j)) ∧
  (∀ i, i < 2 → G 17 i = if K i = true then 1 else 0) ∧ ∀ i, i < 2 → K i = true → mX A G (106 + 8 * i) (I i)
def RM (A : zA) (len : Nat) (T B : zB) (un : Nat) (U : Nat → zB) (K : Nat → Bool) (I : Nat → zB) (G : zMem) : Prop :=
  gM A G ∧ (G 0 3 = nI len ∧ ∀ i, i < len → G 1 i = nI (T i)) ∧ mM G 6 0 B ∧ (G 0 18 = nI un ∧ ∀ j, j < un → mM G 9 (45 * j) (U j)) ∧
  (∀ i, i < 2 → G 8 i = if K i = true then 1 else 0) ∧ ∀ i, i < 2 → K i = true → mM G 7 (45 * i) (I i)
def Rel (G : zMem) (tr : Int64) (Gm : zMem) (trm : Int64) : Prop := ∃ (A : zA) (len : Nat) (T B : zB) (un : Nat) (U : Nat → zB) (K : Nat → Bool) (I : Nat → zB), RO A len T B un U K I ∧ RX A len T B un U K I G ∧ RM A len T B un U K I Gm ∧ tr = trm
/-- both answer alike, and stay side by side -/
def zStp (F Fm : zR) : Prop := ∃ (r : Int32) (G' : zMem) (tr' : Int64) (Gm' : zMem) (trm' : Int64), F = some (r, G', tr') ∧ Fm = some (r, Gm', trm') ∧ Rel G' tr' Gm' trm'
section relS
variable {A : zA} {len : Nat} {T B : zB} {un : Nat} {U : Nat → zB} {K : Nat → Bool} {I : Nat → zB} {G G' : zMem}
theorem RX_ch (h : RX A len T B un U K I G) : (G 0 1 = 3 ∨ G 0 1 = 8) ∧ isC (G 0 1).toNatClampNeg := by
  rcases h.1 with ⟨e, -⟩ | ⟨e, -⟩ <;> rw [e]
  · exact ⟨Or.inl rfl, Or.inl rfl⟩
  · exact ⟨Or.inr rfl, Or.inr rfl⟩
theorem RX_keep (o : RO A len T B un U K I) (h : RX A len T B un U K I G) (k : ∀ c, c ≠ 13 → c ≠ 14 → G' c = G c) : RX A len T B un U K I G' := by
  have hc := RX_ch h
  obtain ⟨h1, h2, h3, h4, ⟨h5, pn, h6, h7, h8⟩, h9, h10⟩ := h
  have e0 := k 0 (by omega) (by omega)
  refine ⟨by rw [e0]; exact h1, ?_, by rw [k 1 (by omega) (by omega), k 2 (by omega) (by omega)]; exact h3, mX_keep o.2.2.2.1.2.1 (fun c _ _ => k c (by omega) (by omega)) h4, ⟨by rw [e0]; exact h5, pn, h6, by rw [e0]; exact h7, fun j hj => mX_keep (o.2.2.2.2.2.1 j hj).2.1 (fun c _ _ => k c (by omega) (by omega)) (h8 j hj)⟩, by rw [k 17 (by omega) (by omega)]; exact h9, fun i hi hK => mX_keep (o.2.2.2.2.2.2 i hi hK).2.1 (fun c _ _ => k c (by omega) (by omega)) (h10 i hi hK)⟩
  rw [e0]
  refine gX_keep h2 (fun c h1 h2 => k c ?_ ?_) <;> rcases hc.2 with e | e <;> omega
theorem RM_keep (h : RM A len T B un U K I G) (k : ∀ c, c ≠ 0 → c < 10 → G' c = G c) (k3 : G' 0 3 = G 0 3) (k18 : G' 0 18 = G 0 18) : RM A len T B un U K I G' := by
  unfold RM gM mM at *
  rw [k3, k18, k 1 (by omega) (by omega), k 2 (by omega) (by omega), k 3 (by omega) (by omega), k 4 (by omega) (by omega), k 6 (by omega) (by omega), k 7 (by omega) (by omega), k 8 (by omega) (by omega), k 9 (by omega) (by omega)]
  exact h
theorem RM_thrown (h : RM A len T B un U K I G) : RM A len T B un U K I (up2 G 0 0 0) := RM_keep h (fun c hc _ => up2_ne _ _ _ hc) (up2_oth (by omega)) (up2_oth (by omega))
/-! the small questions -/
theorem fw_isIsle (h : RX A len T B un U K I G) (N : Nat) (a : Int32) (tr : Int64) : fX4_isIsle N a G tr = some (if 0 ≤ a ∧ a ≤ nI (A 0 2) - 1 then 1 else 0, G, tr) := by
  have hc := RX_ch h
  unfold fX4_isIsle
  rw [zch_ok hc.1, fw_within, zbp_ok, zbo_if, h.2.1.2.2.2.1]
theorem fm_isIsle (h : RM A len T B un U K I G) (N : Nat) (a : Int32) (tr : Int64) : fX5_isIsle N a G tr = some (if 0 ≤ a ∧ a ≤ nI (A 0 2) - 1 then 1 else 0, G, tr) := by
  unfold fX5_isIsle
  rw [show zin (2 : Int32) 12 = fun x : zR => x from funext fun x => zin_ok (k := 2) (by omega) (by omega), fm_in, zbp_ok, zbo_if, show Int32.toNatClampNeg 2 = 2 from rfl, h.1.1 2 (by omega)]
theorem fw_isLetter (h : RX A len T B un U K I G) (N : Nat) (a : Int32) (tr : Int64) : fX4_isLetter N a G tr = some (if 0 ≤ a ∧ a ≤ nI (B 1) - 1 then 1 else 0, G, tr) := by
  unfold fX4_isLetter
  rw [fw_within, zbp_ok, zbo_if, h.2.2.2.1.2.1]
theorem fm_isLetter (h : RM A len T B un U K I G) (N : Nat) (a : Int32) (tr : Int64) : fX5_isLetter N a G tr = some (if 0 ≤ a ∧ a ≤ nI (B 1) - 1 then 1 else 0, G, tr) := by
  unfold fX5_isLetter
  rw [show zin (1 : Int32) 45 = fun x : zR => x from funext fun x => zin_ok (k := 1) (by omega) (by omega), fm_in, zbp_ok, zbo_if, show Int32.toNatClampNeg 1 = 0 + 1 from rfl, h.2.2.1 1 (by omega)]
theorem fw_isWay (h : RX A len T B un U K I G) (N : Nat) (a b : Int32) (tr : Int64) : fX4_isWay N a b G tr = some (if (0 ≤ a ∧ a ≤ nI (A 0 2) - 1) ∧ (0 ≤ b ∧ b ≤ nI (A 0 2) - 1) ∧ ¬ a = b then 1 else 0, G, tr) := by
  unfold fX4_isWay
  rw [fw_isIsle h, zbd_ok, zb_if]
  by_cases h1 : 0 ≤ a ∧ a ≤ nI (A 0 2) - 1
  · rw [if_pos h1, fw_isIsle h, zbd_ok, zb_if]
    by_cases h2 : 0 ≤ b ∧ b ≤ nI (A 0 2) - 1
    · rw [if_pos h2]
      by_cases h3 : a = b
      · rw [if_pos h3, if_neg (fun z => z.2.2 h3), zbo_0]
      · rw [if_neg h3, if_pos ⟨h1, h2, h3⟩, zbo_1]
    · rw [if_neg h2, if_neg (fun z => h2 z.2.1), zbo_0]
  · rw [if_neg h1, if_neg (fun z => h1 z.1), zbo_0]
theorem fm_areTwo (h : RM A len T B un U K I G) (N : Nat) (a b : Int32) (tr : Int64) : fX5_areTwo N a b G tr = some (if (0 ≤ a ∧ a ≤ nI (A 0 2) - 1) ∧ (0 ≤ b ∧ b ≤ nI (A 0 2) - 1) ∧ ¬ a = b then 1 else 0, G, tr) := by
  unfold fX5_areTwo
  rw [fm_isIsle h, zbd_ok, zb_if]
  by_cases h1 : 0 ≤ a ∧ a ≤ nI (A 0 2) - 1
  · rw [if_pos h1, fm_isIsle h, zbd_ok, zb_if]
    by_cases h2 : 0 ≤ b ∧ b ≤ nI (A 0 2) - 1
    · rw [if_pos h2]
      by_cases h3 : a = b
      · rw [if_pos h3, if_neg (fun z => z.2.2 h3), zbo_0]
      · rw [if_neg h3, if_pos ⟨h1, h2, h3⟩, zbo_1]
    · rw [if_neg h2, if_neg (fun z => h2 z.2.1), zbo_0]
  · rw [if_neg h1, if_neg (fun z => h1 z.1), zbo_0]
/-- the wind of an hour -/
def windS (A : zA) (B : zB) (z : Int) : Nat := if A 0 4 = 0 then 4 else B (3 + (z % (A 0 4 : Int)).toNat)
theorem windS_le (hA : okA A) (hB : okB A B) (z : Int) : windS A B z ≤ 4 := by
  unfold windS
  split
  · omega
  · rename_i h
    have b0 := Int.emod_nonneg z (show (A 0 4 : Int) ≠ 0 by omega)
    have b1 := Int.emod_lt_of_pos z (show (0 : Int) < A 0 4 by omega)
    exact hB.2.2.2.1 _ (by omega)
theorem fw_windS (hA : okA A) {M : Nat} (m : mX A G M B) (N : Nat) (a : Int32) (tr : Int64) : fX2_windOf N M a G tr = some (nI (windS A B a.toInt), G, tr) := by
  have ht := hA.2.2.2.2.2.2.1
  rw [fw_windOf N a m.2.2.2.1 ht]
  unfold windS
  by_cases h : A 0 4 = 0
  · rw [if_pos h, if_pos h]
  · have b0 := Int.emod_nonneg a.toInt (show (A 0 4 : Int) ≠ 0 by omega)
    have b1 := Int.emod_lt_of_pos a.toInt (show (0 : Int) < A 0 4 by omega)
    rw [if_neg h, if_neg h, m.2.2.2.2.1 _ (by omega)]
theorem fm_windS (hA : okA A) (g : gM A G) (m : mM G 6 0 B) (N : Nat) (a : Int32) (tr : Int64) : fX5_windOf N a G tr = some (nI (windS A B a.toInt), G, tr) := by
  have ht := hA.2.2.2.2.2.2.1
  rw [fm_windOf N a (g.1 4 (by omega)) ht]
  unfold windS
  by_cases h : A 0 4 = 0
  · rw [if_pos h, if_pos h]
  · have b0 := Int.emod_nonneg a.toInt (show (A 0 4 : Int) ≠ 0 by omega)
    have b1 := Int.emod_lt_of_pos a.toInt (show (0 : Int) < A 0 4 by omega)
    have := m (3 + (a.toInt % (A 0 4 : Int)).toNat) (by omega)
    rw [Nat.zero_add] at this
    rw [if_neg h, if_neg h, this]
end relS
section relK
variable {A : zA} {len : Nat} {T B : zB} {un : Nat} {U : Nat → zB} {K : Nat → Bool} {I : Nat → zB} {G G' : zMem}
theorem RX_text (o : RO A len T B un U K I) (h : RX A len T B un U K I G) {len' : Nat} {T' : zB} (k : ∀ c, c ≠ 1 → c ≠ 2 → G' c = G c) (h1 : G' 1 0 = nI len') (h2 : ∀ i, i < len' → G' 2 i = nI (T' i)) : RX A len' T' B un U K I G' := by
  have hc := RX_ch h
  obtain ⟨a1, a2, a3, a4, ⟨a5, pn, a6, a7, a8⟩, a9, a10⟩ := h
  have e0 := k 0 (by omega) (by omega)
  refine ⟨by rw [e0]; exact a1, ?_, ⟨h1, h2⟩, mX_keep o.2.2.2.1.2.1 (fun c _ _ => k c (by omega) (by omega)) a4, ⟨by rw [e0]; exact a5, pn, a6, by rw [e0]; exact a7, fun j hj => mX_keep (o.2.2.2.2.2.1 j hj).2.1 (fun c _ _ => k c (by omega) (by omega)) (a8 j hj)⟩, by rw [k 17 (by omega) (by omega)]; exact a9, fun i hi hK => mX_keep (o.2.2.2.2.2.2 i hi hK).2.1 (fun c _ _ => k c (by omega) (by omega)) (a10 i hi hK)⟩
  rw [e0]
  refine gX_keep a2 (fun c h1 h2 => k c ?_ ?_) <;> rcases hc.2 with e | e <;> omega
/-- the moment of now alone changes (and what is supposed) -/
theorem RX_now (o : RO A len T B un U K I) (h : RX A len T B un U K I G) {B' : zB} (k : ∀ c, (c < 18 ∨ 26 ≤ c) → c ≠ 13 → c ≠ 14 → G' c = G c) (m : mX A G' 18 B') : RX A len T B' un U K I G' := by
  have hc := RX_ch h
  obtain ⟨a1, a2, a3, a4, ⟨a5, pn, a6, a7, a8⟩, a9, a10⟩ := h
  have e0 := k 0 (by omega) (by omega) (by omega)
  refine ⟨by rw [e0]; exact a1, ?_, by rw [k 1 (by omega) (by omega) (by omega), k 2 (by omega) (by omega) (by omega)]; exact a3, m, ⟨by rw [e0]; exact a5, pn, a6, by rw [e0]; exact a7, fun j hj => mX_keep (o.2.2.2.2.2.1 j hj).2.1 (fun c _ _ => k c (by omega) (by omega) (by omega)) (a8 j hj)⟩, by rw [k 17 (by omega) (by omega) (by omega)]; exact a9, fun i hi hK => mX_keep (o.2.2.2.2.2.2 i hi hK).2.1 (fun c _ _ => k c (by omega) (by omega) (by omega)) (a10 i hi hK)⟩
  rw [e0]
  refine gX_keep a2 (fun c h1 h2 => k c ?_ ?_ ?_) <;> rcases hc.2 with e | e <;> omega
theorem RM_text (h : RM A len T B un U K I G) {len' : Nat} {T' : zB} (k : ∀ c, c ≠ 0 → c ≠ 1 → c < 10 → G' c = G c) (k18 : G' 0 18 = G 0 18) (h3 : G' 0 3 = nI len') (h1 : ∀ i, i < len' → G' 1 i = nI (T' i)) : RM A len' T' B un U K I G' := by
  obtain ⟨a1, a2, a3, a4, a5, a6⟩ := h
  unfold RM gM mM at *
  rw [k18, k 2 (by omega) (by omega) (by omega), k 3 (by omega) (by omega) (by omega), k 4 (by omega) (by omega) (by omega), k 6 (by omega) (by omega) (by omega), k 7 (by omega) (by omega) (by omega), k 8 (by omega) (by omega) (by omega), k 9 (by omega) (by omega) (by omega)]
  exact ⟨a1, ⟨h3, h1⟩, a3, a4, a5, a6⟩
theorem RM_now (h : RM A len T B un U K I G) {B' : zB} (k : ∀ c, c ≠ 0 → c ≠ 6 → c < 10 → G' c = G c) (k3 : G' 0 3 = G 0 3) (k18 : G' 0 18 = G 0 18) (m : mM G' 6 0 B') : RM A len T B' un U K I G' := by
  obtain ⟨a1, a2, a3, a4, a5, a6⟩ := h
  unfold RM gM mM at *
  rw [k3, k18, k 1 (by omega) (by omega) (by omega), k 2 (by omega) (by omega) (by omega), k 3 (by omega) (by omega) (by omega), k 4 (by omega) (by omega) (by omega), k 7 (by omega) (by omega) (by omega), k 8 (by omega) (by omega) (by omega), k 9 (by omega) (by omega) (by omega)]
  exact ⟨a1, a2, m, a4, a5, a6⟩
end relK
