/-! ===== reading a chart: what is free, an isle more, a hill more ===== -/
def adI (D : zA) (c : Nat) : zA := fun r => match r with
  | 0 => upN (D 0) 2 (D 0 2 + 1)
  | 1 => upN (D 1) (D 0 2) c
  | r + 2 => D (r + 2)
def adH (D : zA) (c : Nat) : zA := fun r => match r with
  | 0 => upN (D 0) 3 (D 0 3 + 1)
  | 1 => D 1
  | 2 => upN (D 2) (D 0 3) c
  | r + 3 => D (r + 3)
theorem fstS_congr {f g : zB} {c : Nat} : ∀ {n : Nat}, (∀ k, k < n → f k = g k) → fstS f c n = fstS g c n
  | 0, _ => rfl
  | n + 1, h => by rw [fstS, fstS, fstS_congr (fun k hk => h k (by omega)), h n (by omega)]
theorem anyS_congr {f g : zB} {c : Nat} : ∀ {n : Nat}, (∀ k, k < n → f k = g k) → anyS f c n = anyS g c n
  | 0, _ => rfl
  | n + 1, h => by rw [anyS, anyS, anyS_congr (fun k hk => h k (by omega)), h n (by omega)]
theorem hold_free {D : zA} {c : Nat} (hi : D 0 2 ≤ 6) : holdV D c = -9 ↔ hillS D c = false ∧ isleS D c = none := by
  unfold holdV
  cases hh : hillS D c with
  | true => exact ⟨fun z => absurd z (show ¬ (-5 : Int32) = -9 by decide), fun z => by cases z.1⟩
  | false =>
    rw [if_neg (show ¬ (false = true) by decide)]
    refine ⟨fun z => ⟨rfl, (isV_m9 (fun k hk => ?_)).mp z⟩, fun z => by rw [z.2]; rfl⟩
    have := (fstS_some hk).1
    omega
theorem hold_adI {D : zA} {c : Nat} (h1 : hillS D c = false) (h2 : isleS D c = none) (x : Nat) : holdV (adI D c) x = if x = c then nI (D 0 2) else holdV D x := by
  have e1 : hillS (adI D c) x = hillS D x := rfl
  have e2 : isleS (adI D c) x = match isleS D x with
    | some k => some k
    | none => if c = x then some (D 0 2) else none := by
    show fstS (upN (D 1) (D 0 2) c) x (D 0 2 + 1) = _
    rw [fstS, fstS_congr (g := D 1) (fun k hk => by rw [upN, if_neg (by omega)])]
    show (match isleS D x with | some k => some k | none => if upN (D 1) (D 0 2) c (D 0 2) = x then some (D 0 2) else none) = _
    rw [upN, if_pos rfl]
  unfold holdV
  rw [e1, e2]
  by_cases hx : x = c
  · rw [hx, h1, h2, if_pos rfl]
    simp [isV]
  · rw [if_neg hx]
    cases hs : isleS D x with
    | some k => rfl
    | none =>
      simp only
      rw [if_neg (show ¬ c = x from fun z => hx z.symm)]
theorem hold_adH {D : zA} {c : Nat} (x : Nat) : holdV (adH D c) x = if x = c then -5 else holdV D x := by
  have e1 : hillS (adH D c) x = (hillS D x || c == x) := by
    show anyS (upN (D 2) (D 0 3) c) x (D 0 3 + 1) = _
    rw [anyS, anyS_congr (g := D 2) (fun k hk => by rw [upN, if_neg (by omega)]), upN, if_pos rfl]
    rfl
  have e2 : isleS (adH D c) x = isleS D x := rfl
  unfold holdV
  rw [e1, e2]
  by_cases hx : x = c
  · rw [if_pos hx, hx]; simp
  · rw [if_neg hx, show (c == x) = false from beq_false_of_ne (fun z => hx z.symm), Bool.or_false]
theorem okA_adI {D : zA} {c : Nat} (h : okA D) (hn : D 0 2 < 6) (hc : c < D 0 0 * D 0 1) (h1 : hillS D c = false) (h2 : isleS D c = none) : okA (adI D c) := by
  obtain ⟨o1, o2, o3, o4, o5, o6, o7, o8, o9, o10, o11, o12, o13⟩ := h
  have hni := fstS_none.mp h2
  have hnh : ∀ k, k < D 0 3 → D 2 k ≠ c := fun k hk z => by
    have : hillS D c = true := anyS_iff.mpr ⟨k, hk, z⟩
    rw [h1] at this; cases this
  refine ⟨o1, o2, o3, o4, show D 0 2 + 1 ≤ 6 by omega, o6, o7, o8, o9, fun k hk => ?_, o11, fun j k hj hk he => ?_, fun j k hj hk => ?_⟩
  · have hk' : k < D 0 2 + 1 := hk
    show upN (D 1) (D 0 2) c k < D 0 0 * D 0 1
    unfold upN
    by_cases h : k = D 0 2
    · rw [if_pos h]; exact hc
    · rw [if_neg h]; exact o10 k (by omega)
  · have hj' : j < D 0 2 + 1 := hj
    have hk' : k < D 0 2 + 1 := hk
    have he' : upN (D 1) (D 0 2) c j = upN (D 1) (D 0 2) c k := he
    unfold upN at he'
    by_cases a : j = D 0 2
    · by_cases b : k = D 0 2
      · omega
      · rw [if_pos a, if_neg b] at he'
        exact absurd he'.symm (hni k (by omega))
    · by_cases b : k = D 0 2
      · rw [if_neg a, if_pos b] at he'
        exact absurd he' (hni j (by omega))
      · rw [if_neg a, if_neg b] at he'
        exact o12 j k (by omega) (by omega) he'
  · have hj' : j < D 0 2 + 1 := hj
    show upN (D 1) (D 0 2) c j ≠ D 2 k
    unfold upN
    by_cases a : j = D 0 2
    · rw [if_pos a]; exact fun z => hnh k hk z.symm
    · rw [if_neg a]; exact o13 j k (by omega) hk
theorem okA_adH {D : zA} {c : Nat} (h : okA D) (hm : D 0 3 < 6) (hc : c < D 0 0 * D 0 1) (h2 : isleS D c = none) : okA (adH D c) := by
  obtain ⟨o1, o2, o3, o4, o5, o6, o7, o8, o9, o10, o11, o12, o13⟩ := h
  have hni := fstS_none.mp h2
  refine ⟨o1, o2, o3, o4, o5, show D 0 3 + 1 ≤ 6 by omega, o7, o8, o9, o10, fun k hk => ?_, o12, fun j k hj hk => ?_⟩
  · have hk' : k < D 0 3 + 1 := hk
    show upN (D 2) (D 0 3) c k < D 0 0 * D 0 1
    unfold upN
    by_cases h : k = D 0 3
    · rw [if_pos h]; exact hc
    · rw [if_neg h]; exact o11 k (by omega)
  · have hk' : k < D 0 3 + 1 := hk
    show D 1 j ≠ upN (D 2) (D 0 3) c k
    unfold upN
    by_cases a : k = D 0 3
    · rw [if_pos a]; exact hni j hj
    · rw [if_neg a]; exact o13 j k hj (by omega)
section fre
variable {D : zA} {W : zB} {G Gm : zMem} {tr : Int64}
theorem fm_free67 (hA : okA D) (dm : dM D W Gm) {v : Nat} (hv : v < 2 ^ 30) (N : Nat) (b : Bool) : ∀ (d i n : Nat), i + d = D 0 3 → d < n → fX5_isFree_L67 N (nI v) n (if (b && !anyS (D 2) v i) = true then 1 else 0) (nI i) Gm tr = some (if (b && !anyS (D 2) v (D 0 3)) = true then 1 else 0, Gm, tr) := by
  have ha := area hA
  have h6 := hA.2.2.2.2.2.1
  have e9 : Gm 2 9 = nI (D 0 3) := dm.1 3 (by omega)
  intro d
  induction d with
  | zero =>
    intro i n hi hn
    obtain ⟨n, rfl⟩ : ∃ k, n = k + 1 := ⟨n - 1, by omega⟩
    rw [fX5_isFree_L67, fX5_isFree_b67, zin_lit 9 12 (i := 9) rfl (by omega) (by omega), show Int32.toNatClampNeg 9 = 9 from rfl, e9, if_pos (nI_le (by omega) (by omega)), zbo_if, show i = D 0 3 by omega]
  | succ d ih =>
    intro i n hi hn
    obtain ⟨n, rfl⟩ : ∃ k, n = k + 1 := ⟨n - 1, by omega⟩
    have hih := ih (i + 1) n (by omega) (by omega)
    have e4 := dm.2.2.1 i (by omega)
    have hc : D 2 i < D 0 0 * D 0 1 := hA.2.2.2.2.2.2.2.2.2.2.1 i (by omega)
    rw [fX5_isFree_L67, fX5_isFree_b67, zin_lit 9 12 (i := 9) rfl (by omega) (by omega), show Int32.toNatClampNeg 9 = 9 from rfl, e9, if_neg (nI_ge (by omega) (by omega)), zb_if]
    by_cases hb : (b && !anyS (D 2) v i) = true
    · rw [if_pos hb, show (6 : Int32) = nI 6 from rfl, nI_add, zin_ok (by omega) (by omega), nI_clamp (by omega), e4]
      by_cases he : D 2 i = v
      · have e : (b && !anyS (D 2) v (i + 1)) = false := by rw [anyS, he]; simp
        rw [e, if_neg (show ¬ (false = true) by decide)] at hih
        rw [he, if_pos rfl, fX5_isFree_b99, fX5_isFree_b100, nI_1, hih]
      · have e : (b && !anyS (D 2) v (i + 1)) = true := by rw [anyS, show (D 2 i == v) = false from beq_false_of_ne he, Bool.or_false]; exact hb
        rw [e, if_pos rfl] at hih
        rw [if_neg (zneI he (by omega) (by omega)), fX5_isFree_b100, nI_1, hih]
    · have e : (b && !anyS (D 2) v (i + 1)) = false := by
        rw [anyS]
        cases b with
        | false => rfl
        | true =>
          cases h : anyS (D 2) v i with
          | true => simp
          | false => rw [h] at hb; exact absurd rfl hb
      rw [e, if_neg (show ¬ (false = true) by decide)] at hih
      rw [if_neg hb, fX5_isFree_b99, fX5_isFree_b100, nI_1, hih]
theorem fm_free25 (hA : okA D) (dm : dM D W Gm) {v : Nat} (hv : v < 2 ^ 30) {N : Nat} (hN : 1000 < N) (b : Bool) : ∀ (d i n : Nat), i + d = D 0 2 → d < n → fX5_isFree_L25 N (nI v) n (if (b && !anyS (D 1) v i) = true then 1 else 0) (nI i) Gm tr = some (if ((b && !anyS (D 1) v (D 0 2)) && !anyS (D 2) v (D 0 3)) = true then 1 else 0, Gm, tr) := by
  have ha := area hA
  have h6 := hA.2.2.2.2.1
  have h6' := hA.2.2.2.2.2.1
  have e8 : Gm 2 8 = nI (D 0 2) := dm.1 2 (by omega)
  intro d
  induction d with
  | zero =>
    intro i n hi hn
    obtain ⟨n, rfl⟩ : ∃ k, n = k + 1 := ⟨n - 1, by omega⟩
    have hh := fm_free67 (tr := tr) hA dm hv N (b && !anyS (D 1) v i) (D 0 3) 0 N (by omega) (by omega)
    have e0 : ((b && !anyS (D 1) v i) && !anyS (D 2) v 0) = (b && !anyS (D 1) v i) := by rw [anyS]; simp
    rw [e0] at hh
    have hh' : fX5_isFree_L67 N (nI v) N (if (b && !anyS (D 1) v i) = true then 1 else 0) 0 Gm tr = _ := hh
    rw [fX5_isFree_L25, fX5_isFree_b25, zin_lit 8 12 (i := 8) rfl (by omega) (by omega), show Int32.toNatClampNeg 8 = 8 from rfl, e8, if_pos (nI_le (by omega) (by omega)), hh', show i = D 0 2 by omega]
  | succ d ih =>
    intro i n hi hn
    obtain ⟨n, rfl⟩ : ∃ k, n = k + 1 := ⟨n - 1, by omega⟩
    have hih := ih (i + 1) n (by omega) (by omega)
    have e4 := dm.2.1 i (by omega)
    have hc : D 1 i < D 0 0 * D 0 1 := hA.2.2.2.2.2.2.2.2.2.1 i (by omega)
    rw [fX5_isFree_L25, fX5_isFree_b25, zin_lit 8 12 (i := 8) rfl (by omega) (by omega), show Int32.toNatClampNeg 8 = 8 from rfl, e8, if_neg (nI_ge (by omega) (by omega)), zb_if]
    by_cases hb : (b && !anyS (D 1) v i) = true
    · rw [if_pos hb, show (6 : Int32) = nI 6 from rfl, nI_add, zin_ok (by omega) (by omega), nI_clamp (by omega), e4]
      by_cases he : D 1 i = v
      · have e : (b && !anyS (D 1) v (i + 1)) = false := by rw [anyS, he]; simp
        rw [e, if_neg (show ¬ (false = true) by decide)] at hih
        rw [he, if_pos rfl, fX5_isFree_b57, fX5_isFree_b58, nI_1, hih]
      · have e : (b && !anyS (D 1) v (i + 1)) = true := by rw [anyS, show (D 1 i == v) = false from beq_false_of_ne he, Bool.or_false]; exact hb
        rw [e, if_pos rfl] at hih
        rw [if_neg (zneI he (by omega) (by omega)), fX5_isFree_b58, nI_1, hih]
    · have e : (b && !anyS (D 1) v (i + 1)) = false := by
        rw [anyS]
        cases b with
        | false => rfl
        | true =>
          cases h : anyS (D 1) v i with
          | true => simp
          | false => rw [h] at hb; exact absurd rfl hb
      rw [e, if_neg (show ¬ (false = true) by decide)] at hih
      rw [if_neg hb, fX5_isFree_b57, fX5_isFree_b58, nI_1, hih]
theorem any_isle {D : zA} {v : Nat} : anyS (D 1) v (D 0 2) = false ↔ isleS D v = none := by
  unfold isleS
  rw [fstS_none]
  refine ⟨fun h k hk z => ?_, fun h => ?_⟩
  · have : anyS (D 1) v (D 0 2) = true := anyS_iff.mpr ⟨k, hk, z⟩
    rw [h] at this; cases this
  · cases hc : anyS (D 1) v (D 0 2) with
    | false => rfl
    | true =>
      obtain ⟨k, hk, z⟩ := anyS_iff.mp hc
      exact absurd z (h k hk)
theorem fm_isFree (hA : okA D) (dm : dM D W Gm) {v : Nat} (hv : v < 2 ^ 30) {N : Nat} (hN : 1000 < N) : fX5_isFree N (nI v) Gm tr = some (if v < D 0 0 * D 0 1 ∧ holdV D v = -9 then 1 else 0, Gm, tr) := by
  have ha := area hA
  have h6 := hA.2.2.2.2.1
  have e6 : Gm 2 6 = nI (D 0 0) := dm.1 0 (by omega)
  have e7 : Gm 2 7 = nI (D 0 1) := dm.1 1 (by omega)
  have hh := fm_free25 (tr := tr) hA dm hv hN (decide (v < D 0 0 * D 0 1)) (D 0 2) 0 N (by omega) (by omega)
  have e0 : (decide (v < D 0 0 * D 0 1) && !anyS (D 1) v 0) = decide (v < D 0 0 * D 0 1) := by rw [anyS]; simp
  rw [e0] at hh
  have hin : (if (0 : Int32) ≤ nI v ∧ nI v ≤ nI (D 0 0 * D 0 1 - 1) then (1 : Int32) else 0) = if decide (v < D 0 0 * D 0 1) = true then 1 else 0 := by
    by_cases h : v < D 0 0 * D 0 1
    · rw [if_pos ⟨nI_pos' (by omega), nI_le (by omega) (by omega)⟩, if_pos (decide_eq_true h)]
    · rw [if_neg (fun z => nI_ge (show D 0 0 * D 0 1 - 1 < v by omega) (by omega) z.2), if_neg (fun z => h (of_decide_eq_true z))]
  unfold fX5_isFree
  rw [zin_lit 6 12 (i := 6) rfl (by omega) (by omega), zin_lit 7 12 (i := 7) rfl (by omega) (by omega), show Int32.toNatClampNeg 6 = 6 from rfl, show Int32.toNatClampNeg 7 = 7 from rfl, e6, e7, pk_mul, show (1 : Int32) = nI 1 from rfl, pk_sub (by omega), fm_in, zbp_ok]
  have hh' : fX5_isFree_L25 N (nI v) N (if decide (v < D 0 0 * D 0 1) = true then 1 else 0) 0 Gm tr = _ := hh
  rw [show (nI 1 : Int32) = 1 from rfl, hin, hh']
  congr 3
  refine propext ?_
  rw [Bool.and_eq_true, Bool.and_eq_true, decide_eq_true_iff, Bool.not_eq_true', Bool.not_eq_true', any_isle, hold_free h6]
  exact ⟨fun z => ⟨z.1.1, z.2, z.1.2⟩, fun z => ⟨⟨z.1, z.2.2⟩, z.2.1⟩⟩
end fre
