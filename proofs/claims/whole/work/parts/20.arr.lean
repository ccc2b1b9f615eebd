/-! ===== when a letter arrives ===== -/
theorem pig : ∀ (n : Nat) (c : Nat → Nat), (∀ j, j ≤ n → c j < n) → ∃ i j, i < j ∧ j ≤ n ∧ c i = c j
  | 0, c, h => absurd (h 0 (Nat.le_refl 0)) (by omega)
  | n + 1, c, h => by
    by_cases hx : ∃ i, i ≤ n ∧ c i = c (n + 1)
    · obtain ⟨i, hi, he⟩ := hx
      exact ⟨i, n + 1, by omega, Nat.le_refl _, he⟩
    · have hne : ∀ i, i ≤ n → c i ≠ c (n + 1) := fun i hi he => hx ⟨i, hi, he⟩
      obtain ⟨i, j, hij, hj, he⟩ := pig n (fun j => if c j = n then c (n + 1) else c j) (fun j hj => by
        have h1 := h j (by omega)
        have h2 := h (n + 1) (by omega)
        have h3 := hne j hj
        split <;> omega)
      refine ⟨i, j, hij, by omega, ?_⟩
      have h3 := hne j hj
      have h4 := hne i (by omega)
      split at he <;> split at he <;> omega
section arr
variable {A : zA} {B : zB}
theorem run_stay {nets : Nat} {wv : Nat → Nat} {L : zB} {j : Nat} (h : runL A nets wv L j 5 ≠ 0) : ∀ m, runL A nets wv L (j + m) = runL A nets wv L j
  | 0 => rfl
  | m + 1 => by
    rw [← Nat.add_assoc, runL, run_stay h m]
    unfold stepL
    rw [if_neg (fun z => h z.1)]
theorem step_cong {nets v : Nat} {L L' : zB} (h0 : L' 0 = L 0) (h2 : L' 2 = L 2) (h3 : L' 3 = L 3) (h5 : L' 5 = L 5) : stepL A nets v L' 3 = stepL A nets v L 3 ∧ stepL A nets v L' 5 = stepL A nets v L 5 := by
  unfold stepL
  rw [h0, h3, h5]
  by_cases hc : L 5 = 0 ∧ v < 4 ∧ L 0 < A 0 5 ∧ hillS A (bsS (A 0 0) (A 0 1) v (L 3)) = false
  · rw [if_pos hc, if_pos hc]
    cases hs : isleS A (mvS A v (A 0 5 - L 0) (L 3)) with
    | none => rw [land_none hs, land_none hs]; exact ⟨rfl, h5⟩
    | some i =>
      rw [land_some hs, land_some hs, h2]
      by_cases h1 : i = L 2
      · rw [if_pos h1, if_pos h1]; exact ⟨rfl, rfl⟩
      · rw [if_neg h1, if_neg h1]
        by_cases hb : bitS nets i = true
        · rw [if_pos hb, if_pos hb]; exact ⟨rfl, rfl⟩
        · rw [if_neg hb, if_neg hb]; exact ⟨rfl, h5⟩
  · rw [if_neg hc, if_neg hc]; exact ⟨h3, h5⟩
theorem run_fix {nets : Nat} {wv : Nat → Nat} {L : zB} : ∀ n, runL A nets wv L n 0 = L 0 ∧ runL A nets wv L n 1 = L 1 ∧ runL A nets wv L n 2 = L 2
  | 0 => ⟨rfl, rfl, rfl⟩
  | n + 1 => by
    have h := run_fix (nets := nets) (wv := wv) (L := L) n
    have s := step_fix (A := A) (L := runL A nets wv L n) (nets := nets) (v := wv n)
    rw [runL, s.1, s.2.1, s.2.2]
    exact h
theorem run_period {nets : Nat} {wv : Nat → Nat} {L : zB} {i j : Nat} (h3 : runL A nets wv L i 3 = runL A nets wv L j 3) (h5 : runL A nets wv L i 5 = runL A nets wv L j 5) (hw : ∀ m, wv (i + m) = wv (j + m)) : ∀ m, runL A nets wv L (i + m) 3 = runL A nets wv L (j + m) 3 ∧ runL A nets wv L (i + m) 5 = runL A nets wv L (j + m) 5
  | 0 => ⟨h3, h5⟩
  | m + 1 => by
    have ih := run_period h3 h5 hw m
    rw [← Nat.add_assoc, ← Nat.add_assoc, runL, runL, hw m]
    have f1 := run_fix (A := A) (nets := nets) (wv := wv) (L := L) (i + m)
    have f2 := run_fix (A := A) (nets := nets) (wv := wv) (L := L) (j + m)
    exact step_cong (f1.1.trans f2.1.symm) (f1.2.2.trans f2.2.2.symm) ih.1 ih.2
def toldS (A : zA) : Nat := if A 0 4 = 0 then 1 else A 0 4
theorem wv_period (A : zA) (B : zB) (τ : Nat) {i j : Nat} (h : i % toldS A = j % toldS A) : ∀ m, wvS A B τ (i + m) = wvS A B τ (j + m) := by
  intro m
  unfold wvS windS
  unfold toldS at h
  by_cases h0 : A 0 4 = 0
  · rw [if_pos h0, if_pos h0]
  · rw [if_neg h0] at h
    rw [if_neg h0, if_neg h0]
    have e : ((τ + (i + m) : Nat) : Int) % (A 0 4 : Int) = ((τ + (j + m) : Nat) : Int) % (A 0 4 : Int) := by
      rw [← Int.natCast_emod, ← Int.natCast_emod]
      congr 1
      rw [Nat.add_mod τ (i + m), Nat.add_mod i m, h, ← Nat.add_mod j m, ← Nat.add_mod]
    rw [e]
/-- the class's bound -/
def capS (A : zA) : Nat := A 0 0 * A 0 1 * toldS A
theorem toldS_pos (hA : okA A) : 1 ≤ toldS A ∧ toldS A ≤ 12 := by
  have := hA.2.2.2.2.2.2.1
  unfold toldS; split <;> omega
theorem capS_le (hA : okA A) : capS A ≤ 360 ∧ 4 ≤ capS A := by
  have ha := area hA
  have ht := toldS_pos hA
  unfold capS
  have a := Nat.mul_le_mul ha.1 ht.2
  have b := Nat.mul_le_mul ha.2 ht.1
  omega
/-- two hours, not far, alike -/
theorem run_again (hA : okA A) {nets τ : Nat} {L : zB} (hL : okL A L) : ∃ i j, i < j ∧ j ≤ capS A ∧ i % toldS A = j % toldS A ∧ runL A nets (wvS A B τ) L i 3 = runL A nets (wvS A B τ) L j 3 := by
  have ht := toldS_pos hA
  obtain ⟨i, j, hij, hj, he⟩ := pig (capS A) (fun j => runL A nets (wvS A B τ) L j 3 * toldS A + j % toldS A) (fun j _ => by
    have h3 := (okL_run hA hL (nets := nets) (wv := wvS A B τ) j).2.2.2.2.1
    have hm := Nat.mod_lt j (show 0 < toldS A by omega)
    have := Nat.mul_le_mul_right (toldS A) (show runL A nets (wvS A B τ) L j 3 + 1 ≤ A 0 0 * A 0 1 by omega)
    rw [Nat.add_mul] at this
    unfold capS
    omega)
  have h1 := Nat.mod_lt i (show 0 < toldS A by omega)
  have h2 := Nat.mod_lt j (show 0 < toldS A by omega)
  have e1 := congrArg (· / toldS A) he
  have e2 := congrArg (· % toldS A) he
  simp only [Nat.mul_add_mod_self_right, Nat.mod_mod] at e2
  rw [Nat.mul_comm, Nat.mul_comm (runL A nets (wvS A B τ) L j 3)] at he
  refine ⟨i, j, hij, hj, ?_, ?_⟩
  · have q1 : (toldS A * runL A nets (wvS A B τ) L i 3 + i % toldS A) % toldS A = i % toldS A := by rw [Nat.mul_add_mod, Nat.mod_mod]
    have q2 : (toldS A * runL A nets (wvS A B τ) L j 3 + j % toldS A) % toldS A = j % toldS A := by rw [Nat.mul_add_mod, Nat.mod_mod]
    rw [← q1, ← q2, he]
  · have q1 : (toldS A * runL A nets (wvS A B τ) L i 3 + i % toldS A) / toldS A = runL A nets (wvS A B τ) L i 3 := by
      rw [Nat.mul_add_div (by omega), Nat.div_eq_of_lt h1, Nat.add_zero]
    have q2 : (toldS A * runL A nets (wvS A B τ) L j 3 + j % toldS A) / toldS A = runL A nets (wvS A B τ) L j 3 := by
      rw [Nat.mul_add_div (by omega), Nat.div_eq_of_lt h2, Nat.add_zero]
    rw [← q1, ← q2, he]
/-- one that is UP so long is UP for ever -/
theorem run_up (hA : okA A) {nets τ : Nat} {L : zB} (hL : okL A L) (h : runL A nets (wvS A B τ) L (capS A) 5 = 0) : ∀ n, runL A nets (wvS A B τ) L n 5 = 0 := by
  have up : ∀ n, n ≤ capS A → runL A nets (wvS A B τ) L n 5 = 0 := by
    intro n hn
    apply Classical.byContradiction
    intro hne
    have := run_stay hne (capS A - n)
    rw [show n + (capS A - n) = capS A by omega] at this
    rw [this] at h
    exact hne h
  obtain ⟨i, j, hij, hj, hm, h3⟩ := run_again (B := B) hA (nets := nets) (τ := τ) hL
  have per := run_period h3 ((up i (by omega)).trans (up j hj).symm) (wv_period A B τ hm)
  intro n
  induction n using Nat.strongRecOn with
  | _ n ih =>
    by_cases hn : n ≤ capS A
    · exact up n hn
    · have := (per (n - j)).2
      rw [show j + (n - j) = n by omega] at this
      rw [← this]
      exact ih (i + (n - j)) (by omega)
/-- in how many hours it has arrived -/
def arrS (A : zA) (nets : Nat) (wv : Nat → Nat) (L : zB) : Option Nat := fstS (fun k => runL A nets wv L k 5) 1 401
theorem fst_low {f : zB} {c n m : Nat} (hnm : n ≤ m) (h : ∀ k, n ≤ k → k < m → f k ≠ c) : fstS f c n = fstS f c m := by
  cases hs : fstS f c n with
  | some k => rw [fstS_keep hs hnm]
  | none =>
    symm
    rw [fstS_none] at hs ⊢
    intro k hk
    by_cases hkn : k < n
    · exact hs k hkn
    · exact h k (by omega) hk
theorem arr_short (hA : okA A) {nets τ : Nat} {L : zB} (hL : okL A L) : arrS A nets (wvS A B τ) L = fstS (fun k => runL A nets (wvS A B τ) L k 5) 1 (capS A + 1) := by
  have hc := capS_le hA
  symm
  cases hs : fstS (fun k => runL A nets (wvS A B τ) L k 5) 1 (capS A + 1) with
  | some k => exact (fstS_keep hs (m := 401) (by omega)).symm
  | none =>
    symm
    unfold arrS
    rw [fstS_none] at hs ⊢
    intro k hk
    by_cases hkc : k < capS A + 1
    · exact hs k hkc
    · by_cases h0 : runL A nets (wvS A B τ) L (capS A) 5 = 0
      · have := run_up (B := B) hA hL h0 k
        omega
      · have := run_stay h0 (k - capS A)
        rw [show capS A + (k - capS A) = k by omega] at this
        rw [this]
        exact hs (capS A) (by omega)
theorem isV_m9 {o : Option Nat} (h : ∀ k, o = some k → k < 2 ^ 31) : isV o = -9 ↔ o = none := by
  cases o with
  | none => exact ⟨fun _ => rfl, fun _ => rfl⟩
  | some k => exact ⟨fun z => absurd z (nI_neg (h k rfl) (by decide)), fun z => by cases z⟩
theorem arr_lt {nets : Nat} {wv : Nat → Nat} {L : zB} {k : Nat} (h : arrS A nets wv L = some k) : k < 401 ∧ runL A nets wv L k 5 = 1 := fstS_some h
variable {tr : Int64}
theorem fm_comesIn_loop (hA : okA A) (hB : okB A B) {N : Nat} (hN : 100 < N) {κ q : Nat} (hκ : κ < 2 ^ 20) (hq : q < 64) {L : zB} (hL : okL A L) : ∀ (d i n : Nat) (G : zMem), i + d = 401 → d < n → cM A B G → repR G 10 0 (runL A q (wvS A B (B 0 + κ)) L i) → fstS (fun k => runL A q (wvS A B (B 0 + κ)) L k 5) 1 i = none →
    ∃ G', fX5_comesIn_L2 N (nI κ) (nI q) n (nI i) G tr = some (isV (arrS A q (wvS A B (B 0 + κ)) L), G', tr) ∧ (∀ c, c ≠ 10 → G' c = G c) ∧ ∀ k, arrS A q (wvS A B (B 0 + κ)) L = some k → repR G' 10 0 (runL A q (wvS A B (B 0 + κ)) L k) := by
  have h9 := hB.1
  intro d
  induction d with
  | zero =>
    intro i n G hi hn x r hf
    obtain ⟨n, rfl⟩ : ∃ k, n = k + 1 := ⟨n - 1, by omega⟩
    have hi' : i = 401 := by omega
    subst hi'
    have e : arrS A q (wvS A B (B 0 + κ)) L = none := hf
    refine ⟨G, ?_, fun _ _ => rfl, fun k hk => by rw [e] at hk; cases hk⟩
    rw [fX5_comesIn_L2, fX5_comesIn_b2, if_pos (by decide), e]; rfl
  | succ d ih =>
    intro i n G hi hn x r hf
    obtain ⟨n, rfl⟩ : ∃ k, n = k + 1 := ⟨n - 1, by omega⟩
    have r5 := r 5 (by omega)
    rw [Nat.zero_add] at r5
    have h5 := (okL_run hA hL (nets := q) (wv := wvS A B (B 0 + κ)) i).2.2.2.2.2.2
    rw [fX5_comesIn_L2, fX5_comesIn_b2, show (400 : Int32) = nI 400 from rfl, if_neg (nI_nlt (by omega) (by omega)), zin_lit 5 6 (i := 5) rfl (by omega) (by omega), show Int32.toNatClampNeg 5 = 5 from rfl, r5]
    by_cases h1 : runL A q (wvS A B (B 0 + κ)) L i 5 = 1
    · have e : arrS A q (wvS A B (B 0 + κ)) L = some i := by
        refine fstS_keep (n := i + 1) ?_ (by omega)
        rw [fstS, hf]
        simp [h1]
      refine ⟨G, by rw [h1, if_pos (by rfl), e]; rfl, fun _ _ => rfl, fun k hk => ?_⟩
      rw [e] at hk
      cases hk
      exact r
    · rw [if_neg (show ¬ nI _ = 1 from zneI (k := 1) h1 (by omega) (by omega))]
      obtain ⟨G1, q1, l1, w1⟩ := fm_blows hA x.1 hN tr (r := 10) (a := 0) (Or.inr (Or.inl rfl)) (by decide) (okL_run hA hL i) r (v := wvS A B (B 0 + κ) i) (nets := q) (wvS_le hA hB _ i) hq
      obtain ⟨G2, q2, k2, s2⟩ := ih (i + 1) n G1 (by omega) (by omega) (cM_keep x (fun c hc => w1.1 c (by omega))) l1 (by rw [fstS, hf]; simp [h1])
      have e0 := x.2 0 (by omega)
      rw [Nat.zero_add] at e0
      have q1' : fX5_blows N 10 0 (nI (windS A B ((B 0 + κ + i : Nat) : Int))) (nI q) G tr = some (0, G1, tr) := q1
      refine ⟨G2, ?_, fun c hc => by rw [k2 c hc, w1.1 c hc], s2⟩
      rw [zin_lit 0 45 (i := 0) rfl (by omega) (by omega), tnc0, e0, nI_add, nI_add, fm_windS hA x.1 x.2, zbd_ok, nI_toInt (by omega), q1', zbd_ok, nI_1, q2]
theorem fm_comesIn (hA : okA A) (hB : okB A B) {N : Nat} (hN : 1000 < N) {κ q : Nat} (hκ : κ < 2 ^ 20) (hq : q < 64) {L : zB} (hL : okL A L) {G : zMem} (x : cM A B G) (r : repR G 10 0 L) :
    ∃ G', fX5_comesIn N (nI κ) (nI q) G tr = some (isV (arrS A q (wvS A B (B 0 + κ)) L), G', tr) ∧ (∀ c, c ≠ 10 → G' c = G c) ∧ ∀ k, arrS A q (wvS A B (B 0 + κ)) L = some k → repR G' 10 0 (runL A q (wvS A B (B 0 + κ)) L k) :=
  fm_comesIn_loop hA hB (by omega) hκ hq hL 401 0 N G (by omega) (by omega) x r rfl
theorem fw_arr_loop (hA : okA A) (hB : okB A B) (N : Nat) {τ q : Nat} (hτ : τ < 2 ^ 20) (hq : q < 64) {L : zB} (hL : okL A L) : ∀ (d i n : Nat) (G : zMem), i + d = capS A → d < n → cX A B G → repL A G 13 (runL A q (wvS A B τ) L i) → fstS (fun k => runL A q (wvS A B τ) L k 5) 1 (i + 1) = none →
    ∃ G', fX4_arrival_L42 N (nI τ) (nI q) n (nI (capS A)) (nI (i + 1)) G tr = some (isV (arrS A q (wvS A B τ) L), G', tr) ∧ (∀ c, c ≠ 13 → G' c = G c) ∧ ∀ k, arrS A q (wvS A B τ) L = some k → repL A G' 13 (runL A q (wvS A B τ) L k) := by
  have hc := capS_le hA
  intro d
  induction d with
  | zero =>
    intro i n G hi hn x r hf
    obtain ⟨n, rfl⟩ : ∃ k, n = k + 1 := ⟨n - 1, by omega⟩
    have hi' : i = capS A := by omega
    subst hi'
    have e : arrS A q (wvS A B τ) L = none := by rw [arr_short hA hL]; exact hf
    refine ⟨G, ?_, fun _ _ => rfl, fun k hk => by rw [e] at hk; cases hk⟩
    rw [fX4_arrival_L42, fX4_arrival_b42, if_pos (nI_lt (by omega) (by omega)), e]; rfl
  | succ d ih =>
    intro i n G hi hn x r hf
    obtain ⟨n, rfl⟩ : ∃ k, n = k + 1 := ⟨n - 1, by omega⟩
    have h5 := (okL_run hA hL (nets := q) (wv := wvS A B τ) i).2.2.2.2.2.2
    rw [fX4_arrival_L42, fX4_arrival_b42, if_neg (nI_nlt (by omega) (by omega)), r.1 5 (by omega)]
    by_cases h0 : runL A q (wvS A B τ) L i 5 = 0
    · rw [h0, if_pos (show nI 0 = 0 from rfl), zch_ok x.2.1, nI_add, show nI (τ + (i + 1)) - 1 = nI (τ + i) from nI_pred _, fw_windS hA x.2.2, zbd_ok, nI_toInt (by omega)]
      obtain ⟨G1, q1, l1, w1⟩ := fw_passHour hA x.1 (cX_ch x) (isL_of (Or.inl rfl)) N tr (okL_run hA hL i) r (v := wvS A B τ i) (nets := q) (wvS_le hA hB _ i) hq
      have q1' : fX1_passHour N 13 (G 0 1).toNatClampNeg (nI (windS A B ((τ + i : Nat) : Int))) (nI q) G tr = some (0, G1, tr) := q1
      have s5 := (okL_run hA hL (nets := q) (wv := wvS A B τ) (i + 1)).2.2.2.2.2.2
      have l5 : G1 13 5 = nI (runL A q (wvS A B τ) L (i + 1) 5) := l1.1 5 (by omega)
      rw [q1', zbd_ok, l5]
      by_cases h1 : runL A q (wvS A B τ) L (i + 1) 5 = 1
      · have e : arrS A q (wvS A B τ) L = some (i + 1) := by
          rw [arr_short hA hL]
          refine fstS_keep (n := i + 1 + 1) ?_ (by omega)
          rw [fstS, hf]
          simp [h1]
        refine ⟨G1, by rw [h1, if_pos (by rfl), e]; rfl, w1, fun k hk => ?_⟩
        rw [e] at hk
        cases hk
        exact l1
      · obtain ⟨G2, q2, k2, s2⟩ := ih (i + 1) n G1 (by omega) (by omega) (cX_keep hB.2.1 x (fun c h1 h2 => w1 c h1)) l1 (by rw [fstS, hf]; simp [h1])
        refine ⟨G2, by rw [if_neg (show ¬ nI _ = 1 from zneI (k := 1) h1 (by omega) (by omega)), nI_1, q2], fun c hc => by rw [k2 c hc, w1 c hc], s2⟩
    · have e : arrS A q (wvS A B τ) L = none := by
        unfold arrS
        rw [fstS_none] at hf ⊢
        intro k hk
        by_cases hki : k < i + 1
        · exact hf k hki
        · have := run_stay h0 (k - i)
          rw [show i + (k - i) = k by omega] at this
          rw [this]
          exact hf i (by omega)
      refine ⟨G, ?_, fun _ _ => rfl, fun k hk => by rw [e] at hk; cases hk⟩
      rw [if_neg (nI_ne0 (by omega) (by omega)), e]; rfl
theorem fw_arrival (hA : okA A) (hB : okB A B) {N : Nat} (hN : 1000 < N) {τ q : Nat} (hτ : τ < 2 ^ 20) (hq : q < 64) {L : zB} (hL : okL A L) {G : zMem} (x : cX A B G) (r : repL A G 13 L) :
    ∃ G', fX4_arrival N (nI τ) (nI q) G tr = some (isV (arrS A q (wvS A B τ) L), G', tr) ∧ (∀ c, c ≠ 13 → G' c = G c) ∧ ∀ k, arrS A q (wvS A B τ) L = some k → repL A G' 13 (runL A q (wvS A B τ) L k) := by
  have hc := capS_le hA
  have ha := area hA
  have ht := hA.2.2.2.2.2.2.1
  have h5 := hL.2.2.2.2.2.2
  unfold fX4_arrival
  rw [r.1 5 (by omega)]
  by_cases h1 : L 5 = 1
  · have e : arrS A q (wvS A B τ) L = some 0 := by
      refine fstS_keep (n := 1) ?_ (by omega)
      rw [fstS, fstS]
      simp [runL, h1]
    refine ⟨G, by rw [h1, if_pos (by rfl), e]; rfl, fun _ _ => rfl, fun k hk => ?_⟩
    rw [e] at hk
    cases hk
    exact r
  · rw [if_neg (show ¬ nI _ = 1 from zneI (k := 1) h1 (by omega) (by omega)), zch_ok x.2.1, fw_cells hA x.1.1 x.1.2.1, zbd_ok, x.2.2.2.2.2.1]
    have hm : (if (1 : Int32) < nI (A 0 4) then nI (A 0 4) else 1) = nI (toldS A) := by
      unfold toldS
      by_cases h0 : A 0 4 = 0
      · rw [h0, if_neg (by decide), if_pos rfl]; rfl
      · by_cases h11 : A 0 4 = 1
        · rw [h11]; rfl
        · rw [show (1 : Int32) = nI 1 from rfl, if_pos (nI_lt (by omega) (by omega)), if_neg h0]
    have hcap : nI (A 0 0 * A 0 1) * nI (toldS A) = nI (capS A) := pk_mul _ _
    rw [hm, hcap, show (400 : Int32) = nI 400 from rfl, if_pos (nI_lt (by omega) (by omega))]
    exact fw_arr_loop hA hB N hτ hq hL (capS A) 0 N G (by omega) (by omega) x r (by rw [fstS, fstS]; simp [runL, h1])
end arr
