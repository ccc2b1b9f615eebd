/-! ===== a letter through many hours ===== -/
def runL (A : zA) (nets : Nat) (wv : Nat → Nat) (L : zB) : Nat → zB
  | 0 => L
  | n + 1 => stepL A nets (wv n) (runL A nets wv L n)
theorem okL_run {A : zA} (hA : okA A) {nets : Nat} {wv : Nat → Nat} {L : zB} (h : okL A L) : ∀ n, okL A (runL A nets wv L n)
  | 0 => h
  | n + 1 => okL_step hA (okL_run hA h n)
/-- the winds from the hour τ on -/
def wvS (A : zA) (B : zB) (τ : Nat) : Nat → Nat := fun k => windS A B ((τ + k : Nat) : Int)
theorem wvS_le {A : zA} {B : zB} (hA : okA A) (hB : okB A B) (τ k : Nat) : wvS A B τ k ≤ 4 := windS_le hA hB _
/-- what the class's calls stand on -/
def cX (A : zA) (B : zB) (G : zMem) : Prop := gX A G (G 0 1).toNatClampNeg ∧ (G 0 1 = 3 ∨ G 0 1 = 8) ∧ mX A G 18 B
def cM (A : zA) (B : zB) (G : zMem) : Prop := gM A G ∧ mM G 6 0 B
theorem cX_keep {A : zA} {B : zB} {G G' : zMem} (hB : B 1 ≤ 5) (h : cX A B G) (k : ∀ c, c ≠ 13 → c ≠ 14 → G' c = G c) : cX A B G' := by
  have e0 := k 0 (by omega) (by omega)
  refine ⟨?_, by rw [e0]; exact h.2.1, mX_keep hB (fun c _ _ => k c (by omega) (by omega)) h.2.2⟩
  rw [e0]
  refine gX_keep h.1 (fun c h1 h2 => k c ?_ ?_) <;> rcases h.2.1 with e | e <;> rw [e] at h1 h2 <;> simp [Int32.toNatClampNeg] at h1 h2 <;> omega
theorem cM_keep {A : zA} {B : zB} {G G' : zMem} (h : cM A B G) (k : ∀ c, c < 10 → G' c = G c) : cM A B G' := by
  unfold cM gM mM
  rw [k 2 (by omega), k 3 (by omega), k 4 (by omega), k 6 (by omega)]
  exact h
theorem cX_of {A : zA} {len : Nat} {T B : zB} {un : Nat} {U : Nat → zB} {K : Nat → Bool} {I : Nat → zB} {G : zMem} (x : RX A len T B un U K I G) : cX A B G := ⟨x.2.1, (RX_ch x).1, x.2.2.2.1⟩
theorem cM_of {A : zA} {len : Nat} {T B : zB} {un : Nat} {U : Nat → zB} {K : Nat → Bool} {I : Nat → zB} {G : zMem} (m : RM A len T B un U K I G) : cM A B G := ⟨m.1, m.2.2.1⟩
theorem cX_ch {A : zA} {B : zB} {G : zMem} (h : cX A B G) : isC (G 0 1).toNatClampNeg := by
  rcases h.2.1 with e | e <;> rw [e]
  · exact Or.inl rfl
  · exact Or.inr rfl
section runs
variable {tr : Int64} {A : zA} {B : zB}
theorem isL_of {t : Nat} (h : t = 13 ∨ t = 14) : isL t := by rcases h with rfl | rfl; exact Or.inl rfl; exact Or.inr (Or.inl rfl)
theorem fw_hours_loop (hA : okA A) (hB : okB A B) (N : Nat) {t τ h : Nat} (ht : t = 13 ∨ t = 14) (hτ : τ < 2 ^ 29) (hh : h < 2 ^ 29) {L : zB} (hL : okL A L) : ∀ (d i n : Nat) (G : zMem), i + d = h → d < n → cX A B G → repL A G t (runL A (B 2) (wvS A B τ) L i) →
    ∃ G', fX4_passHours_L3 N t (nI τ) (nI h) n (nI i) G tr = some (0, G', tr) ∧ repL A G' t (runL A (B 2) (wvS A B τ) L h) ∧ ∀ c, c ≠ t → G' c = G c := by
  have hp := pow_le64 hA.2.2.2.2.1
  have hn2 := hB.2.2.1
  intro d
  induction d with
  | zero =>
    intro i n G hi hn x r
    obtain ⟨n, rfl⟩ : ∃ k, n = k + 1 := ⟨n - 1, by omega⟩
    refine ⟨G, ?_, by rw [← show i = h by omega]; exact r, fun _ _ => rfl⟩
    rw [fX4_passHours_L3, fX4_passHours_b3, if_pos (nI_le (by omega) (by omega))]
  | succ d ih =>
    intro i n G hi hn x r
    obtain ⟨n, rfl⟩ : ∃ k, n = k + 1 := ⟨n - 1, by omega⟩
    obtain ⟨G1, q1, l1, k1⟩ := fw_passHour hA x.1 (cX_ch x) (isL_of ht) N tr (okL_run hA hL i) r (v := wvS A B τ i) (nets := B 2) (wvS_le hA hB τ i) (by omega)
    obtain ⟨G2, q2, l2, k2⟩ := ih (i + 1) n G1 (by omega) (by omega) (cX_keep hB.2.1 x (fun c h1 h2 => k1 c (by rcases ht with e | e <;> omega))) l1
    refine ⟨G2, ?_, l2, fun c hc => by rw [k2 c hc, k1 c hc]⟩
    rw [fX4_passHours_L3, fX4_passHours_b3, if_neg (nI_ge (by omega) (by omega)), zch_ok x.2.1, nI_add, fw_windS hA x.2.2, zbd_ok, nI_toInt (by omega), x.2.2.2.2.1, show nI (windS A B ((τ + i : Nat) : Int)) = nI (wvS A B τ i) from rfl, q1, zbd_ok, nI_1, q2]
theorem fw_passHours (hA : okA A) (hB : okB A B) {N : Nat} {t τ h : Nat} (hN : h < N) (ht : t = 13 ∨ t = 14) (hτ : τ < 2 ^ 29) (hh : h < 2 ^ 29) {L : zB} (hL : okL A L) {G : zMem} (x : cX A B G) (r : repL A G t L) : ∃ G', fX4_passHours N t (nI τ) (nI h) G tr = some (0, G', tr) ∧ repL A G' t (runL A (B 2) (wvS A B τ) L h) ∧ ∀ c, c ≠ t → G' c = G c :=
  fw_hours_loop hA hB N ht hτ hh hL h 0 N G (by omega) hN x r
theorem fm_takes_loop (N : Nat) {r l : Nat} (hr : r = 10 ∨ r = 11) (hl : l < 5) : ∀ (d i n : Nat) (G : zMem), i + d = 6 → d < n → mM G 6 0 B → (∀ j, j < i → G r j = nI (letB B l j)) → ∃ G', fX5_takesLetter_L2 N r (nI l) n (nI i) G tr = some (0, G', tr) ∧ repR G' r 0 (letB B l) ∧ ∀ c, c ≠ r → G' c = G c := by
  intro d
  induction d with
  | zero =>
    intro i n G hi hn m k
    obtain ⟨n, rfl⟩ : ∃ k, n = k + 1 := ⟨n - 1, by omega⟩
    refine ⟨G, ?_, fun j hj => by rw [Nat.zero_add]; exact k j (by omega), fun _ _ => rfl⟩
    rw [fX5_takesLetter_L2, fX5_takesLetter_b2, show (6 : Int32) = nI 6 from rfl, if_pos (nI_le (by omega) (by omega))]
  | succ d ih =>
    intro i n G hi hn m k
    obtain ⟨n, rfl⟩ : ∃ k, n = k + 1 := ⟨n - 1, by omega⟩
    have mi := m (15 + 6 * l + i) (by omega)
    rw [Nat.zero_add] at mi
    have hml : i < mLn r ∧ mLn r < 2 ^ 30 := by rcases hr with rfl | rfl <;> exact ⟨by show i < 6; omega, by decide⟩
    obtain ⟨G2, q2, l2, k2⟩ := ih (i + 1) n (up2 G r i (nI (letB B l i))) (by omega) (by omega) (by unfold mM; rw [up2_ne _ _ _ (by omega)]; exact m) (fun j hj => by
      by_cases hji : j = i
      · rw [hji, up2_get]
      · rw [up2_oth hji]; exact k j (by omega))
    refine ⟨G2, ?_, l2, fun c hc => by rw [k2 c hc, up2_ne _ _ _ hc]⟩
    rw [fX5_takesLetter_L2, fX5_takesLetter_b2, show (6 : Int32) = nI 6 from rfl, if_neg (nI_ge (by omega) (by omega)), show (15 : Int32) = nI 15 from rfl, pk_mul, nI_add, nI_add, zin_ok (by omega) (by omega), zin_ok hml.1 (by omega), nI_clamp (by omega), nI_clamp (by omega), mi, nI_1]
    exact q2
theorem fm_takes {N : Nat} (hN : 100 < N) {r l : Nat} (hr : r = 10 ∨ r = 11) (hl : l < 5) {G : zMem} (m : mM G 6 0 B) : ∃ G', fX5_takesLetter N r (nI l) G tr = some (0, G', tr) ∧ repR G' r 0 (letB B l) ∧ ∀ c, c ≠ r → G' c = G c :=
  fm_takes_loop N hr hl 6 0 N G (by omega) (by omega) m (fun j hj => by omega)
theorem mLn_10 {r : Nat} (h : r = 10 ∨ r = 11) : 0 + 6 ≤ mLn r := by rcases h with rfl | rfl <;> decide
theorem fm_hours_loop (hA : okA A) (hB : okB A B) {N : Nat} (hN : 100 < N) (a : Int32) {h : Nat} (hh : h < 2 ^ 29) {L : zB} (hL : okL A L) : ∀ (d i n : Nat) (G : zMem), i + d = h → d < n → cM A B G → repR G 10 0 (runL A (B 2) (wvS A B (B 0)) L i) →
    ∃ G', fX5_goes_L11 N a (nI h) n (nI i) G tr = some (0, G', tr) ∧ repR G' 10 0 (runL A (B 2) (wvS A B (B 0)) L h) ∧ ∀ c, c ≠ 10 → G' c = G c := by
  have hp := pow_le64 hA.2.2.2.2.1
  have hn2 := hB.2.2.1
  have h9 := hB.1
  intro d
  induction d with
  | zero =>
    intro i n G hi hn x r
    obtain ⟨n, rfl⟩ : ∃ k, n = k + 1 := ⟨n - 1, by omega⟩
    refine ⟨G, ?_, by rw [← show i = h by omega]; exact r, fun _ _ => rfl⟩
    rw [fX5_goes_L11, fX5_goes_b11, if_pos (nI_le (by omega) (by omega))]
  | succ d ih =>
    intro i n G hi hn x r
    obtain ⟨n, rfl⟩ : ∃ k, n = k + 1 := ⟨n - 1, by omega⟩
    obtain ⟨G1, q1, l1, w1⟩ := fm_blows hA x.1 hN tr (r := 10) (a := 0) (Or.inr (Or.inl rfl)) (by decide) (okL_run hA hL i) r (v := wvS A B (B 0) i) (nets := B 2) (wvS_le hA hB _ i) (by omega)
    obtain ⟨G2, q2, l2, k2⟩ := ih (i + 1) n G1 (by omega) (by omega) (cM_keep x (fun c hc => w1.1 c (by omega))) l1
    have e0 := x.2 0 (by omega)
    have e2 := x.2 2 (by omega)
    rw [Nat.zero_add] at e0 e2
    have q1' : fX5_blows N 10 0 (nI (windS A B ((B 0 + i : Nat) : Int))) (nI (B 2)) G tr = some (0, G1, tr) := q1
    refine ⟨G2, ?_, l2, fun c hc => by rw [k2 c hc, w1.1 c hc]⟩
    rw [fX5_goes_L11, fX5_goes_b11, if_neg (nI_ge (by omega) (by omega)), zin_lit 0 45 (i := 0) rfl (by omega) (by omega), tnc0, e0, nI_add, fm_windS hA x.1 x.2, zbd_ok, zin_lit 2 45 (i := 2) rfl (by omega) (by omega), show Int32.toNatClampNeg 2 = 2 from rfl, e2, nI_toInt (by omega), q1', zbd_ok, nI_1, q2]
variable {G Gm : zMem} {trm : Int64}
theorem fw_letterIn (hA : okA A) (hB : okB A B) {N : Nat} (hN : 1000 < N) (x : cX A B G) {l h : Nat} (hl : l < B 1) (hh : h ≤ 400) : ∃ G', fX4_letterIn N (nI l) (nI h) G tr = some (0, G', tr) ∧ repL A G' 13 (runL A (B 2) (wvS A B (B 0)) (letB B l) h) ∧ ∀ c, c ≠ 13 → G' c = G c := by
  have hl5 := hB.2.1
  have h9 := hB.1
  obtain ⟨G1, q1, k1, v1⟩ := fw_copyL (G := G) (tr := tr) (N := N) (t := 13) (a := 21 + l) (by omega)
  have x1 := cX_keep hB.2.1 x (fun c h1 _ => k1 c h1)
  have r0 := x.2.2.2.2.2.2.2 l hl
  have r1 : repL A G1 13 (letB B l) := ⟨fun j hj => by rw [v1 j (by omega)]; exact r0.1 j hj, by rw [v1 6 (by omega)]; exact r0.2⟩
  obtain ⟨G2, q2, l2, k2⟩ := fw_passHours (tr := tr) hA hB (N := N) (t := 13) (τ := B 0) (h := h) (by omega) (Or.inl rfl) (by omega) (by omega) (hB.2.2.2.2 l hl) x1 r1
  refine ⟨G2, ?_, l2, fun c hc => by rw [k2 c hc, k1 c hc]⟩
  unfold fX4_letterIn
  rw [zin_ok (by omega) (by omega), nI_clamp (by omega), q1, zbd_ok, x1.2.2.1, q2, zbd_ok]
theorem fm_goes (hA : okA A) (hB : okB A B) {N : Nat} (hN : 1000 < N) (x : cM A B G) {l h : Nat} (hl : l < B 1) (hh : h ≤ 400) : ∃ G', fX5_goes N (nI l) (nI h) G tr = some (0, G', tr) ∧ repR G' 10 0 (runL A (B 2) (wvS A B (B 0)) (letB B l) h) ∧ ∀ c, c ≠ 10 → G' c = G c := by
  have hl5 := hB.2.1
  obtain ⟨G1, q1, l1, k1⟩ := fm_takes (tr := tr) (N := N) (by omega) (r := 10) (l := l) (Or.inl rfl) (by omega) x.2
  obtain ⟨G2, q2, l2, k2⟩ := fm_hours_loop (tr := tr) hA hB (N := N) (by omega) (nI l) (h := h) (by omega) (hB.2.2.2.2 l hl) h 0 N G1 (by omega) (by omega) (cM_keep x (fun c hc => k1 c (by omega))) l1
  refine ⟨G2, ?_, l2, fun c hc => by rw [k2 c hc, k1 c hc]⟩
  unfold fX5_goes
  rw [q1, zbd_ok]
  exact q2
theorem RX_probe {len : Nat} {T : zB} {un : Nat} {U : Nat → zB} {K : Nat → Bool} {I : Nat → zB} (o : RO A len T B un U K I) (x : RX A len T B un U K I G) {G' : zMem} (k : ∀ c, c ≠ 13 → G' c = G c) : RX A len T B un U K I G' := RX_keep o x (fun c h _ => k c h)
theorem RM_trial {len : Nat} {T : zB} {un : Nat} {U : Nat → zB} {K : Nat → Bool} {I : Nat → zB} (m : RM A len T B un U K I G) {G' : zMem} (k : ∀ c, c < 10 → G' c = G c) : RM A len T B un U K I G' := RM_keep m (fun c _ h => k c h) (by rw [k 0 (by omega)]) (by rw [k 0 (by omega)])
theorem op_where (h : Rel G tr Gm trm) {N : Nat} (hN : 1000 < N) (a b : Int32) : zStp (fX4_where N a b G tr) (fX5_where N a b Gm trm) := by
  obtain ⟨A, len, T, B, un, U, K, I, o, x, m, rfl⟩ := h
  have m0 := RM_thrown m
  have hl5 := o.2.2.2.1.2.1
  unfold fX4_where fX5_where
  generalize up2 Gm 0 0 0 = G0 at m0 ⊢
  rw [fw_isLetter x, fm_isLetter m0, zbd_ok, zbd_ok, zb_if, zb_if, fw_within, fm_in, zbp_ok, zbp_ok, zb_if, zb_if]
  rcases zrng a (n := B 1) (by omega) with ⟨l, hl, rfl, h1⟩ | hno
  · rw [if_pos h1, if_pos h1]
    rcases zrngC b 60 (by omega) with ⟨n, hn, rfl, h2⟩ | hb
    · have hr : (0 : Int32) ≤ nI n ∧ nI n ≤ 60 := h2
      rw [if_pos hr, if_pos hr]
      obtain ⟨G1, q1, r1, k1⟩ := fw_letterIn (tr := tr) o.1 o.2.2.2.1 hN (cX_of x) (l := l) (h := n) hl (by omega)
      obtain ⟨M1, f1, s1, w1⟩ := fm_goes (tr := tr) o.1 o.2.2.2.1 hN (cM_of m0) (l := l) (h := n) hl (by omega)
      have e3 := s1 3 (by omega)
      rw [Nat.zero_add] at e3
      rw [q1, f1, zbd_ok, zbd_ok, zin_lit 3 6 (i := 3) rfl (by omega) (by omega), show Int32.toNatClampNeg 3 = 3 from rfl, e3, r1.1 3 (by omega)]
      exact ⟨_, _, _, _, _, rfl, rfl, Rel_mk o (RX_probe o x k1) (RM_trial m0 (fun c hc => w1 c (by omega)))⟩
    · have hr : ¬ ((0 : Int32) ≤ b ∧ b ≤ 60) := hb
      rw [if_neg hr, if_neg hr]
      exact ⟨_, _, _, _, _, rfl, rfl, Rel_mk o x m0⟩
  · rw [if_neg hno, if_neg hno]
    exact ⟨_, _, _, _, _, rfl, rfl, Rel_mk o x m0⟩
theorem op_blots (h : Rel G tr Gm trm) {N : Nat} (hN : 1000 < N) (a b : Int32) : zStp (fX4_blots N a b G tr) (fX5_blots N a b Gm trm) := by
  obtain ⟨A, len, T, B, un, U, K, I, o, x, m, rfl⟩ := h
  have m0 := RM_thrown m
  have hl5 := o.2.2.2.1.2.1
  unfold fX4_blots fX5_blots
  generalize up2 Gm 0 0 0 = G0 at m0 ⊢
  rw [fw_isLetter x, fm_isLetter m0, zbd_ok, zbd_ok, zb_if, zb_if, fw_within, fm_in, zbp_ok, zbp_ok, zb_if, zb_if]
  rcases zrng a (n := B 1) (by omega) with ⟨l, hl, rfl, h1⟩ | hno
  · rw [if_pos h1, if_pos h1]
    rcases zrngC b 60 (by omega) with ⟨n, hn, rfl, h2⟩ | hb
    · have hr : (0 : Int32) ≤ nI n ∧ nI n ≤ 60 := h2
      rw [if_pos hr, if_pos hr]
      obtain ⟨G1, q1, r1, k1⟩ := fw_letterIn (tr := tr) o.1 o.2.2.2.1 hN (cX_of x) (l := l) (h := n) hl (by omega)
      obtain ⟨M1, f1, s1, w1⟩ := fm_goes (tr := tr) o.1 o.2.2.2.1 hN (cM_of m0) (l := l) (h := n) hl (by omega)
      have e3 := s1 4 (by omega)
      rw [Nat.zero_add] at e3
      rw [q1, f1, zbd_ok, zbd_ok, zin_lit 4 6 (i := 4) rfl (by omega) (by omega), show Int32.toNatClampNeg 4 = 4 from rfl, e3, r1.1 4 (by omega)]
      exact ⟨_, _, _, _, _, rfl, rfl, Rel_mk o (RX_probe o x k1) (RM_trial m0 (fun c hc => w1 c (by omega)))⟩
    · have hr : ¬ ((0 : Int32) ≤ b ∧ b ≤ 60) := hb
      rw [if_neg hr, if_neg hr]
      exact ⟨_, _, _, _, _, rfl, rfl, Rel_mk o x m0⟩
  · rw [if_neg hno, if_neg hno]
    exact ⟨_, _, _, _, _, rfl, rfl, Rel_mk o x m0⟩
end runs
