/-! ===== loop ===== -/
theorem cyc {c : Nat → Nat} {n i j : Nat} (det : ∀ i j, c i = c j → ∀ t, c (i + t) = c (j + t)) (hij : i < j) (hj : j ≤ n) (he : c i = c j) (hd : ∀ a b, a < b → b < j → c a ≠ c b) : c (n + (j - i)) = c n ∧ ∀ x, 0 < x → x < j - i → c (n + x) ≠ c n := by
  have per := det i j he
  have mult : ∀ K t, c (i + t + K * (j - i)) = c (i + t) := by
    intro K t
    induction K with
    | zero => rw [Nat.zero_mul, Nat.add_zero]
    | succ K ih =>
      rw [Nat.add_mul, Nat.one_mul, ← ih, show i + t + (K * (j - i) + (j - i)) = j + (t + K * (j - i)) by omega, show i + t + K * (j - i) = i + (t + K * (j - i)) by omega]
      exact (per _).symm
  refine ⟨?_, fun x h0 hx hc => ?_⟩
  · have := per (n - i)
    rw [show i + (n - i) = n by omega, show j + (n - i) = n + (j - i) by omega] at this
    exact this.symm
  · have hge : n ≤ n * (j - i) := Nat.le_mul_of_pos_right n (by omega)
    have h := det _ _ hc (i + n * (j - i) - n)
    rw [show n + x + (i + n * (j - i) - n) = i + x + n * (j - i) by omega, show n + (i + n * (j - i) - n) = i + 0 + n * (j - i) by omega, mult, mult] at h
    exact hd i (i + x) (by omega) (by omega) h.symm
section lps
variable {A : zA} {B : zB} {G Gm : zMem} {tr trm : Int64}
theorem run_add {nets : Nat} {wv : Nat → Nat} {L : zB} (a : Nat) : ∀ b, runL A nets wv L (a + b) = runL A nets (fun k => wv (a + k)) (runL A nets wv L a) b
  | 0 => rfl
  | b + 1 => by rw [← Nat.add_assoc, runL, run_add a b]; rfl
theorem run_wv {nets : Nat} {wv wv' : Nat → Nat} {L : zB} (h : ∀ k, wv k = wv' k) (n : Nat) : runL A nets wv L n = runL A nets wv' L n := by rw [funext h]
theorem run_turn {nets τ : Nat} {L : zB} (j : Nat) : runL A nets (wvS A B τ) L ((j + 1) * toldS A) = runL A nets (wvS A B τ) (runL A nets (wvS A B τ) L (j * toldS A)) (toldS A) := by
  rw [Nat.add_mul, Nat.one_mul, run_add]
  apply run_wv
  intro k
  have := wv_period A B τ (i := j * toldS A) (j := 0) (by rw [Nat.mul_mod_left, Nat.zero_mod]) k
  rw [Nat.zero_add] at this
  exact this
theorem up_ever {nets τ : Nat} {L : zB} {i j : Nat} (hij : i < j) (hm : i % toldS A = j % toldS A) (h3 : runL A nets (wvS A B τ) L i 3 = runL A nets (wvS A B τ) L j 3) (h5 : runL A nets (wvS A B τ) L j 5 = 0) : ∀ n, runL A nets (wvS A B τ) L n 5 = 0 := by
  have up : ∀ n, n ≤ j → runL A nets (wvS A B τ) L n 5 = 0 := by
    intro n hn
    apply Classical.byContradiction
    intro hne
    have := run_stay hne (j - n)
    rw [show n + (j - n) = j by omega] at this
    rw [this] at h5
    exact hne h5
  have per := run_period h3 ((up i (by omega)).trans h5.symm) (wv_period A B τ hm)
  intro n
  induction n using Nat.strongRecOn with
  | _ n ih =>
    by_cases hn : n ≤ j
    · exact up n hn
    · have := (per (n - j)).2
      rw [show j + (n - j) = n by omega] at this
      rw [← this]
      exact ih (i + (n - j)) (by omega)
theorem fm_turn_loop (hA : okA A) (hB : okB A B) {N : Nat} (hN : 100 < N) (a : Int32) (k68 : Int32 → Int32 → zMem → Int64 → zR) (x3 : Int32) {m : Nat} (hm : m < 100) {L : zB} (hL : okL A L) : ∀ (d i n : Nat) (G : zMem), i + d = m → d < n → cM A B G → repR G 10 0 (runL A (B 2) (wvS A B (B 0)) L i) →
    ∃ G', fX5_loop_L108 N a k68 n (nI m) x3 (nI i) G tr = k68 (nI m) (x3 + 1) G' tr ∧ repR G' 10 0 (runL A (B 2) (wvS A B (B 0)) L m) ∧ ∀ c, c ≠ 10 → G' c = G c := by
  have hp := pow_le64 hA.2.2.2.2.1
  have hn2 := hB.2.2.1
  have h9 := hB.1
  intro d
  induction d with
  | zero =>
    intro i n G hi hn x r
    obtain ⟨n, rfl⟩ : ∃ k, n = k + 1 := ⟨n - 1, by omega⟩
    refine ⟨G, ?_, by rw [← show i = m by omega]; exact r, fun _ _ => rfl⟩
    rw [fX5_loop_L108, fX5_loop_b108, if_pos (nI_le (by omega) (by omega))]
  | succ d ih =>
    intro i n G hi hn x r
    obtain ⟨n, rfl⟩ : ∃ k, n = k + 1 := ⟨n - 1, by omega⟩
    obtain ⟨G1, q1, l1, w1⟩ := fm_blows hA x.1 hN tr (r := 10) (a := 0) (Or.inr (Or.inl rfl)) (by decide) (okL_run hA hL i) r (v := wvS A B (B 0) i) (nets := B 2) (wvS_le hA hB _ i) (by omega)
    obtain ⟨G2, q2, l2, k2⟩ := ih (i + 1) n G1 (by omega) (by omega) (cM_keep x (fun c hc => w1.1 c (by omega))) l1
    have e0 := x.2 0 (by omega)
    have e2 := x.2 2 (by omega)
    rw [Nat.zero_add] at e0 e2
    have q1' : fX5_blows N 10 0 (nI (windS A B ((B 0 + i : Nat) : Int))) (nI (B 2)) G tr = some (0, G1, tr) := q1
    refine ⟨G2, ?_, l2, fun c hc => by rw [k2 c hc, w1.1 c hc]⟩
    rw [fX5_loop_L108, fX5_loop_b108, if_neg (nI_ge (by omega) (by omega)), zin_lit 0 45 (i := 0) rfl (by omega) (by omega), tnc0, e0, nI_add, fm_windS hA x.1 x.2, zbd_ok, zin_lit 2 45 (i := 2) rfl (by omega) (by omega), show Int32.toNatClampNeg 2 = 2 from rfl, e2, nI_toInt (by omega), q1', zbd_ok, nI_1, q2]
theorem fm_l68 (hA : okA A) (hB : okB A B) {N : Nat} (hN : 1000 < N) (a : Int32) {m : Nat} (hm : m < 100) {s : Nat → zB} (hs : ∀ j, okL A (s j)) (hst : ∀ j, s (j + 1) = runL A (B 2) (wvS A B (B 0)) (s j) m) : ∀ (n j : Nat) (G : zMem), j ≤ A 0 0 * A 0 1 → A 0 0 * A 0 1 - j < n → (∀ a b, a < b → b < j → s a 3 ≠ s b 3) → (∀ i, i < j → G 12 (s i 3) = nI i) → (∀ q, q < 30 → (∀ i, i < j → s i 3 ≠ q) → G 12 q = -9) → cM A B G → repR G 10 0 (s j) →
    ∃ v G', fX5_loop_L68 N a n (nI m) (nI j) G tr = some (v, G', tr) ∧ (∀ c, c ≠ 10 → c ≠ 12 → G' c = G c) ∧ ((v = -9 ∧ ∃ k, k ≤ A 0 0 * A 0 1 ∧ s k 5 ≠ 0) ∨ ∃ i k, i < k ∧ k ≤ A 0 0 * A 0 1 ∧ s k 5 = 0 ∧ s i 3 = s k 3 ∧ (∀ a b, a < b → b < k → s a 3 ≠ s b 3) ∧ v = nI m * nI (k - i)) := by
  have ha := area hA
  intro n
  induction n with
  | zero => intro j G hj hn; omega
  | succ n ih =>
    intro j G hj hn hd h1 h2 x r
    have hc : ∀ i, s i 3 < A 0 0 * A 0 1 := fun i => (hs i).2.2.2.2.1
    have hcj := hc j
    have h5 := (hs j).2.2.2.2.2.2
    have e3 := r 3 (by omega)
    have e5 := r 5 (by omega)
    rw [Nat.zero_add] at e3 e5
    rw [fX5_loop_L68, fX5_loop_b68, zin_lit 5 6 (i := 5) rfl (by omega) (by omega), show Int32.toNatClampNeg 5 = 5 from rfl, e5]
    by_cases hu : s j 5 = 0
    · rw [hu, if_pos (show nI 0 = 0 from rfl), zin_lit 3 6 (i := 3) rfl (by omega) (by omega), show Int32.toNatClampNeg 3 = 3 from rfl, e3, zin_ok (by omega) (by omega), nI_clamp (by omega)]
      by_cases hex : ∃ i, i < j ∧ s i 3 = s j 3
      · obtain ⟨i, hi, he⟩ := hex
        have hg := h1 i hi
        rw [he] at hg
        refine ⟨nI m * nI (j - i), G, ?_, fun _ _ _ => rfl, Or.inr ⟨i, j, hi, hj, hu, he, hd, rfl⟩⟩
        rw [hg, if_neg (nI_neg (by omega) (by decide)), fX5_loop_b154, zin_lit 5 6 (i := 5) rfl (by omega) (by omega), show Int32.toNatClampNeg 5 = 5 from rfl, e5, hu, if_pos (show nI 0 = 0 from rfl), zin_lit 3 6 (i := 3) rfl (by omega) (by omega), show Int32.toNatClampNeg 3 = 3 from rfl, e3, zin_ok (by omega) (by omega), nI_clamp (by omega), hg, pk_sub (by omega)]
      · have hne : ∀ i, i < j → s i 3 ≠ s j 3 := fun i hi he => hex ⟨i, hi, he⟩
        have hlt : j < A 0 0 * A 0 1 := by
          apply Classical.byContradiction
          intro hge
          obtain ⟨a, b, hab, hb, he⟩ := pig (A 0 0 * A 0 1) (fun i => s i 3) (fun i _ => hc i)
          by_cases hbj : b = j
          · rw [hbj] at he hab; exact hne a hab he
          · exact hd a b hab (by omega) he
        have x1 : cM A B (up2 G 12 (s j 3) (nI j)) := cM_keep x (fun c hc => up2_ne _ _ _ (by omega))
        have r1 : repR (up2 G 12 (s j 3) (nI j)) 10 0 (runL A (B 2) (wvS A B (B 0)) (s j) 0) := fun k hk => by rw [up2_ne _ _ _ (by omega)]; exact r k hk
        obtain ⟨G1, q1, l1, w1⟩ := fm_turn_loop (tr := tr) hA hB (N := N) (by omega) a (fX5_loop_L68 N a n) (nI j) hm (hs j) m 0 N _ (by omega) (by omega) x1 r1
        have g12 : G1 12 = up2 G 12 (s j 3) (nI j) 12 := w1 12 (by omega)
        obtain ⟨v, G2, q2, k2, h3⟩ := ih (j + 1) G1 (by omega) (by omega) (fun a b hab hb => by
          by_cases hbj : b = j
          · rw [hbj] at hab ⊢; exact hne a hab
          · exact hd a b hab (by omega)) (fun i hi => by
          rw [g12]
          by_cases hij : i = j
          · rw [hij, up2_get]
          · rw [up2_oth (hne i (by omega))]; exact h1 i (by omega)) (fun q hq hno => by
          rw [g12, up2_oth (fun z => hno j (by omega) z.symm)]
          exact h2 q hq (fun i hi => hno i (by omega))) (cM_keep x1 (fun c hc => w1 c (by omega))) (by rw [hst]; exact l1)
        have q1' : fX5_loop_L108 N a (fX5_loop_L68 N a n) N (nI m) (nI j) 0 (up2 G 12 (s j 3) (nI j)) tr = fX5_loop_L68 N a n (nI m) (nI j + 1) G1 tr := q1
        refine ⟨v, G2, ?_, fun c h1 h2 => by rw [k2 c h1 h2, w1 c h1, up2_ne _ _ _ h2], h3⟩
        rw [h2 (s j 3) (by omega) hne, if_pos rfl, zin_lit 3 6 (i := 3) rfl (by omega) (by omega), zin_ok (by omega) (by omega), q1', nI_1, q2]
    · refine ⟨-9, G, ?_, fun _ _ _ => rfl, Or.inl ⟨rfl, j, hj, hu⟩⟩
      rw [if_neg (nI_ne0 (by omega) (by omega)), fX5_loop_b154, zin_lit 5 6 (i := 5) rfl (by omega) (by omega), show Int32.toNatClampNeg 5 = 5 from rfl, e5, if_neg (nI_ne0 (by omega) (by omega))]
theorem fm_l37 (hA : okA A) (N : Nat) (a : Int32) (m : Int32) : ∀ (d i n : Nat) (G : zMem), i + d = 30 → d < n → (∀ q, q < i → G 12 q = -9) → ∃ G', fX5_loop_L37 N a n m (nI i) G tr = zbd (fX5_takesLetter N 10 a G' tr) (fun r_3 G_4 tr_5 => fX5_loop_L68 N a N m 0 G_4 tr_5) ∧ (∀ c, c ≠ 12 → G' c = G c) ∧ ∀ q, q < 30 → G' 12 q = -9 := by
  intro d
  induction d with
  | zero =>
    intro i n G hi hn hq
    obtain ⟨n, rfl⟩ : ∃ k, n = k + 1 := ⟨n - 1, by omega⟩
    refine ⟨G, ?_, fun _ _ => rfl, fun q h => hq q (by omega)⟩
    rw [fX5_loop_L37, fX5_loop_b37, show (30 : Int32) = nI 30 from rfl, if_pos (nI_le (by omega) (by omega))]
  | succ d ih =>
    intro i n G hi hn hq
    obtain ⟨n, rfl⟩ : ∃ k, n = k + 1 := ⟨n - 1, by omega⟩
    obtain ⟨G2, q2, k2, w2⟩ := ih (i + 1) n (up2 G 12 i (-9)) (by omega) (by omega) (fun q h => by
      by_cases hqi : q = i
      · rw [hqi, up2_get]
      · rw [up2_oth hqi]; exact hq q (by omega))
    refine ⟨G2, ?_, fun c hc => by rw [k2 c hc, up2_ne _ _ _ hc], w2⟩
    rw [fX5_loop_L37, fX5_loop_b37, show (30 : Int32) = nI 30 from rfl, if_neg (nI_ge (by omega) (by omega)), zin_ok (by omega) (by omega), nI_clamp (by omega), nI_1, q2]
theorem fw_l56 (hA : okA A) (hB : okB A B) {N : Nat} (hN : 1000 < N) (a : Int32) {m : Nat} (hm : m < 100) {s : Nat → zB} (hs : ∀ j, okL A (s j)) (hst : ∀ j, s (j + 1) = runL A (B 2) (wvS A B (B 0)) (s j) m) {K lam : Nat} (hl : lam ≤ 30) (h1 : s (K + lam) 3 = s K 3) (h2 : ∀ x, 0 < x → x < lam → s (K + x) 3 ≠ s K 3) : ∀ (d y n : Nat) (G : zMem), y + 1 + d = lam → d < n → cX A B G → repL A G 13 (s (K + y)) →
    ∃ G', fX4_loop_L56 N a n (nI m) (nI (s K 3)) (nI (y + 1)) G tr = some (nI lam * nI m, G', tr) ∧ ∀ c, c ≠ 13 → G' c = G c := by
  have ha := area hA
  have h9 := hB.1
  have hc : ∀ i, s i 3 < A 0 0 * A 0 1 := fun i => (hs i).2.2.2.2.1
  intro d
  induction d with
  | zero =>
    intro y n G hi hn x r
    obtain ⟨n, rfl⟩ : ∃ k, n = k + 1 := ⟨n - 1, by omega⟩
    obtain ⟨G1, q1, r1, k1⟩ := fw_passHours (tr := tr) hA hB (N := N) (t := 13) (τ := B 0) (h := m) (by omega) (Or.inl rfl) (by omega) (by omega) (hs (K + y)) x r
    rw [← hst, show K + y + 1 = K + lam by omega] at r1
    refine ⟨G1, ?_, k1⟩
    rw [fX4_loop_L56, fX4_loop_b56, show (30 : Int32) = nI 30 from rfl, if_neg (nI_nlt (by omega) (by omega)), x.2.2.1, q1, zbd_ok, r1.1 3 (by omega), h1, if_pos rfl, show y + 1 = lam by omega]
  | succ d ih =>
    intro y n G hi hn x r
    obtain ⟨n, rfl⟩ : ∃ k, n = k + 1 := ⟨n - 1, by omega⟩
    obtain ⟨G1, q1, r1, k1⟩ := fw_passHours (tr := tr) hA hB (N := N) (t := 13) (τ := B 0) (h := m) (by omega) (Or.inl rfl) (by omega) (by omega) (hs (K + y)) x r
    rw [← hst] at r1
    obtain ⟨G2, q2, k2⟩ := ih (y + 1) n G1 (by omega) (by omega) (cX_keep hB.2.1 x (fun c h1 _ => k1 c h1)) r1
    have hb := hc (K + y + 1)
    have hb2 := hc K
    refine ⟨G2, ?_, fun c hc => by rw [k2 c hc, k1 c hc]⟩
    rw [fX4_loop_L56, fX4_loop_b56, show (30 : Int32) = nI 30 from rfl, if_neg (nI_nlt (by omega) (by omega)), x.2.2.1, q1, zbd_ok, r1.1 3 (by omega), if_neg (show ¬ nI (s (K + y + 1) 3) = nI (s K 3) from zneI (h2 (y + 1) (by omega) (by omega)) (by omega) (by omega)), nI_1, q2]
theorem op_loop (h : Rel G tr Gm trm) {N : Nat} (hN : 1000 < N) (a : Int32) : zStp (fX4_loop N a G tr) (fX5_loop N a Gm trm) := by
  obtain ⟨A, len, T, B, un, U, K, I, o, x, m, rfl⟩ := h
  have m0 := RM_thrown m
  have ob := o.2.2.2.1
  have hl5 := ob.2.1
  have hA := o.1
  have har := area hA
  have htp := toldS_pos hA
  have hcap := capS_le hA
  have ht12 := hA.2.2.2.2.2.2.1
  unfold fX4_loop fX5_loop
  generalize up2 Gm 0 0 0 = G0 at m0 ⊢
  rw [fw_isLetter x, fm_isLetter m0, zbd_ok, zbd_ok, zb_if, zb_if]
  rcases zrng a (n := B 1) (by omega) with ⟨l, hl, rfl, h1⟩ | hno
  · have cx := cX_of x
    have e4 := (cM_of m0).1.1 4 (by omega)
    have hL := ob.2.2.2.2 l hl
    have hmx : (if (1 : Int32) < nI (A 0 4) then nI (A 0 4) else 1) = nI (toldS A) := by
      unfold toldS
      by_cases h0 : A 0 4 = 0
      · rw [h0, if_neg (by decide), if_pos rfl]; rfl
      · by_cases h11 : A 0 4 = 1
        · rw [h11]; rfl
        · rw [show (1 : Int32) = nI 1 from rfl, if_pos (nI_lt (by omega) (by omega)), if_neg h0]
    have hmm : (if nI (A 0 4) = 0 then fX5_loop_b34 N (nI l) 1 G0 tr else fX5_loop_b34 N (nI l) (nI (A 0 4)) G0 tr) = fX5_loop_b34 N (nI l) (nI (toldS A)) G0 tr := by
      unfold toldS
      by_cases h0 : A 0 4 = 0
      · rw [h0, if_pos (show nI 0 = 0 from rfl), if_pos rfl]; rfl
      · rw [if_neg (nI_ne0 (by omega) (by omega)), if_neg h0]
    obtain ⟨s, hsdef⟩ : ∃ s : Nat → zB, ∀ j, s j = runL A (B 2) (wvS A B (B 0)) (letB B l) (j * toldS A) := ⟨_, fun _ => rfl⟩
    have hs : ∀ j, okL A (s j) := fun j => by rw [hsdef]; exact okL_run hA hL _
    have hst : ∀ j, s (j + 1) = runL A (B 2) (wvS A B (B 0)) (s j) (toldS A) := fun j => by rw [hsdef, hsdef, run_turn]
    have hsK : s (A 0 0 * A 0 1) = runL A (B 2) (wvS A B (B 0)) (letB B l) (capS A) := hsdef _
    have hs0 : s 0 = letB B l := by rw [hsdef, Nat.zero_mul]; rfl
    -- the reference
    obtain ⟨M1, f1, w1, g1⟩ := fm_l37 (tr := tr) hA N (nI l) (nI (toldS A)) 30 0 N G0 (by omega) (by omega) (fun q h => by omega)
    have y1 := cM_keep (cM_of m0) (fun c hc => w1 c (by omega))
    obtain ⟨M2, f2, s2, w2⟩ := fm_takes (tr := tr) (N := N) (by omega) (r := 10) (l := l) (Or.inl rfl) (by omega) y1.2
    have y2 := cM_keep y1 (fun c hc => w2 c (by omega))
    obtain ⟨v, M3, f3, w3, hv⟩ := fm_l68 (tr := tr) hA ob hN (nI l) (m := toldS A) (by omega) hs hst N 0 M2 (by omega) (by omega) (fun a b h1 h2 => by omega) (fun i hi => by omega) (fun q hq _ => by rw [w2 12 (by omega)]; exact g1 q hq) y2 (by rw [hs0]; exact s2)
    have fm : fX5_loop_b34 N (nI l) (nI (toldS A)) G0 tr = some (v, M3, tr) := by
      have f1' : fX5_loop_L37 N (nI l) N (nI (toldS A)) 0 G0 tr = _ := f1
      have f3' : fX5_loop_L68 N (nI l) N (nI (toldS A)) 0 M2 tr = some (v, M3, tr) := f3
      rw [fX5_loop_b34, f1', f2, zbd_ok, f3']
    have hkm : ∀ c, c < 10 → M3 c = G0 c := fun c hc => by rw [w3 c (by omega) (by omega), w2 c (by omega), w1 c (by omega)]
    -- the program
    obtain ⟨G1, q1, r1, k1⟩ := fw_letterIn (tr := tr) hA ob hN cx (l := l) (h := capS A) hl (by omega)
    rw [← hsK] at r1
    have x1 := cX_keep ob.2.1 cx (fun c h1 _ => k1 c h1)
    have h5 := (hs (A 0 0 * A 0 1)).2.2.2.2.2.2
    rw [if_pos h1, if_pos h1, zin_lit 4 12 (i := 4) rfl (by omega) (by omega), show Int32.toNatClampNeg 4 = 4 from rfl, e4, zin_lit 4 12 (i := 4) rfl (by omega) (by omega), hmm, fm]
    rw [zch_ok cx.2.1, fw_cells hA cx.1.1 cx.1.2.1, zbd_ok, cx.2.2.2.2.2.1, hmx, pk_mul, show nI (A 0 0 * A 0 1 * toldS A) = nI (capS A) from rfl, q1, zbd_ok, r1.1 5 (by omega)]
    by_cases hu : s (A 0 0 * A 0 1) 5 = 0
    · have hup : ∀ n, runL A (B 2) (wvS A B (B 0)) (letB B l) n 5 = 0 := run_up (B := B) hA hL (by rw [← hsK]; exact hu)
      have hupj : ∀ j, s j 5 = 0 := fun j => by rw [hsdef]; exact hup _
      rcases hv with ⟨-, k, -, h⟩ | ⟨i, k, hik, hk, -, he, hd, rfl⟩
      · exact absurd (hupj k) h
      · have det : ∀ i j, s i 3 = s j 3 → ∀ t, s (i + t) 3 = s (j + t) 3 := fun i j he t => by
          rw [hsdef, hsdef] at he
          have per := run_period he ((hup _).trans (hup _).symm) (wv_period A B (B 0) (i := i * toldS A) (j := j * toldS A) (by rw [Nat.mul_mod_left, Nat.mul_mod_left])) (t * toldS A)
          rw [← Nat.add_mul, ← Nat.add_mul, ← hsdef, ← hsdef] at per
          exact per.1
        obtain ⟨c1, c2⟩ := cyc (c := fun j => s j 3) det hik hk he hd
        obtain ⟨G2, q2, k2⟩ := fw_l56 (tr := tr) hA ob hN (nI l) (m := toldS A) (by omega) hs hst (K := A 0 0 * A 0 1) (lam := k - i) (by omega) c1 c2 (k - i - 1) 0 N G1 (by omega) (by omega) x1 r1
        have q2' : fX4_loop_L56 N (nI l) N (nI (toldS A)) (nI (s (A 0 0 * A 0 1) 3)) 1 G1 tr = some (nI (k - i) * nI (toldS A), G2, tr) := q2
        rw [hu, if_pos (show nI 0 = 0 from rfl), r1.1 3 (by omega), q2', pk_mul, pk_mul, Nat.mul_comm]
        exact ⟨_, _, _, _, _, rfl, rfl, Rel_mk o (RX_probe o x (fun c hc => by rw [k2 c hc, k1 c hc])) (RM_trial m0 hkm)⟩
    · rw [if_neg (nI_ne0 (by omega) (by omega))]
      rcases hv with ⟨rfl, -⟩ | ⟨i, k, hik, hk, h0, he, -, -⟩
      · exact ⟨_, _, _, _, _, rfl, rfl, Rel_mk o (RX_probe o x k1) (RM_trial m0 hkm)⟩
      · rw [hsdef] at h0
        rw [hsdef, hsdef] at he
        have hup := up_ever (Nat.mul_lt_mul_of_pos_right hik (show 0 < toldS A by omega)) (by rw [Nat.mul_mod_left, Nat.mul_mod_left]) he h0
        exact absurd (by rw [hsdef]; exact hup _) hu
  · rw [if_neg hno, if_neg hno]
    exact ⟨_, _, _, _, _, rfl, rfl, Rel_mk o x m0⟩
end lps
