/-! ===== the class's first world, put together ===== -/
theorem va_P.head {D : va_G} {cl : List vw_C} {q : Nat × va_E} {ws : va_W} {H : Heap} (h : va_P D cl (q :: ws) H) : va_at D cl q H := h 0 q rfl
theorem va_P.tail {D : va_G} {cl : List vw_C} {q : Nat × va_E} {ws : va_W} {H : Heap} (h : va_P D cl (q :: ws) H) : va_P D cl ws H := va_P_iff.mpr fun x hx => va_P_iff.mp h x (List.mem_cons_of_mem _ hx)
def mB (ki : Nat → ClassId) (mo : Nat → Nat → Nat) (k : Nat) : va_W := (List.range k).flatMap (fun i => gW (List.range 8) (mo i) (moE ki (mo i)))
theorem mB_succ (ki : Nat → ClassId) (mo : Nat → Nat → Nat) (k : Nat) : mB ki mo (k + 1) = mB ki mo k ++ gW (List.range 8) (mo k) (moE ki (mo k)) := by
  unfold mB
  rw [List.range_succ (n := k), List.flatMap_append, List.flatMap_singleton]
theorem mB_congr (ki : Nat → ClassId) {mo mo' : Nat → Nat → Nat} : ∀ k, (∀ i, i < k → mo i = mo' i) → mB ki mo k = mB ki mo' k
  | 0, _ => rfl
  | k + 1, h => by rw [mB_succ, mB_succ, mB_congr ki k (fun i hi => h i (by omega)), h k (by omega)]
theorem mB_at {D : va_G} {cl : List vw_C} {ki : Nat → ClassId} {mo : Nat → Nat → Nat} {H : Heap} {k : Nat} (h : va_P D cl (mB ki mo k) H) : ∀ j, j < k → ∀ i, i < 8 → va_at D cl (mo j i, moE ki (mo j) i) H :=
  fun j hj i hi => va_P_iff.mp h _ (List.mem_flatMap.mpr ⟨j, List.mem_range.mpr hj, gW_mem (List.mem_range.mpr hi)⟩)
theorem mB_fst (ki : Nat → ClassId) (mo : Nat → Nat → Nat) : ∀ k, (mB ki mo k).map Prod.fst = (List.range k).flatMap (fun i => (List.range 8).map (mo i))
  | 0 => rfl
  | k + 1 => by rw [mB_succ, List.map_append, mB_fst ki mo k, gW_fst, List.range_succ (n := k), List.flatMap_append, List.flatMap_singleton]
def mo3 (m0 : Nat → Nat) (mo1 mo2 : Nat → Nat → Nat) : Nat → Nat → Nat := fun j => if j = 0 then m0 else if j < 11 then mo1 (j - 1) else mo2 (j - 11)
def fad (h0 : Nat) (tx c1 c2 : Nat → Nat) (prb sec qp qi kp : Nat) (mo : Nat → Nat → Nat) : Nat → Nat := fun c => if c = 0 then h0 else if c < 3 then tx (c - 1) else if c < 8 then c1 (c - 3) else if c < 13 then c2 (c - 8) else if c = 13 then prb else if c = 14 then sec else if c = 15 then qp else if c = 16 then qi else if c = 17 then kp else mo ((c - 18) / 8) ((c - 18) % 8)
def Gf (G2 : zMem) : zMem := fun c => if c = 0 then (fun k => if k = 1 then 3 else if k = 2 then 8 else 0) else if c < 3 then (fun _ => 0) else if c < 8 then G2 c else if c < 13 then G2 (c - 5) else fun _ => 0
theorem Gf_hi {G2 : zMem} {c : Nat} (h : 13 ≤ c) : Gf G2 c = fun _ => 0 := by
  unfold Gf
  rw [if_neg (by omega), if_neg (by omega), if_neg (by omega), if_neg (by omega)]
theorem fad_hi {h0 : Nat} {tx c1 c2 : Nat → Nat} {prb sec qp qi kp : Nat} {mo : Nat → Nat → Nat} (j i : Nat) (hi : i < 8) : fad h0 tx c1 c2 prb sec qp qi kp mo (18 + 8 * j + i) = mo j i := by
  unfold fad
  rw [if_neg (by omega), if_neg (by omega), if_neg (by omega), if_neg (by omega), if_neg (by omega), if_neg (by omega), if_neg (by omega), if_neg (by omega), if_neg (by omega), show (18 + 8 * j + i - 18) / 8 = j by omega, show (18 + 8 * j + i - 18) % 8 = i by omega]
abbrev fWv (tx c1 c2 m0 : Nat → Nat) (prb sec qp qi kp : Nat) : va_E := .inr (4, [.ref (tx 0), .ref (c1 0), .ref (c2 0), .ref (m0 0), .ref qp, .int 0, .int 0, .ref qi, .ref kp, .ref prb, .ref sec, .long 0])
abbrev fL0 : va_E := .inr (1, [.int 0, .int 0, .int 0, .int 0, .int 0, .int 0, .int 0])
abbrev fws (ki : Nat → ClassId) (G2 : zMem) (h0 : Nat) (tx c1 c2 m0 : Nat → Nat) (prb sec qp qi kp : Nat) (mo1 mo2 : Nat → Nat → Nat) (f1 f2 : Nat → Option Nat) : va_W :=
  (h0, fWv tx c1 c2 m0 prb sec qp qi kp) :: (sec, fL0) :: (prb, fL0) :: (kp, .inl (ki 1, 2, .inl (fun _ => 0))) :: (qi, .inl (ki 3, 2, .inr (.inr (.inr (.inr f2))))) :: (mB ki mo2 2 ++ ((qp, .inl (ki 3, 10, .inr (.inr (.inr (.inr f1))))) :: (mB ki mo1 10 ++ (gW (List.range 8) m0 (moE ki m0) ++ (gW (List.range 5) c2 (chE ki G2 c2) ++ (gW (List.range 5) c1 (chE ki G2 c1) ++ (gW (List.range 2) tx (txE ki tx) ++ [])))))))
section fin
variable {D : va_G} {ki : Nat → ClassId} {G2 : zMem} {h0 : Nat} {tx c1 c2 m0 : Nat → Nat} {prb sec qp qi kp : Nat} {mo1 mo2 : Nat → Nat → Nat} {f1 f2 : Nat → Option Nat} {A : Nat → Prop} {H : Heap}
set_option maxHeartbeats 8000000 in
set_option maxRecDepth 100000 in
theorem fin_addr : (List.range 122).map (fad h0 tx c1 c2 prb sec qp qi kp (mo3 m0 mo1 mo2)) = h0 :: ((List.range 2).map tx ++ ((List.range 5).map c1 ++ ((List.range 5).map c2 ++ (prb :: sec :: qp :: qi :: kp :: ((List.range 8).map m0 ++ ((List.range 10).flatMap (fun i => (List.range 8).map (mo1 i)) ++ (List.range 2).flatMap (fun i => (List.range 8).map (mo2 i)))))))) := rfl
theorem fin_D (hD : va_D A (fws ki G2 h0 tx c1 c2 m0 prb sec qp qi kp mo1 mo2 f1 f2)) (E : Nat → va_E) : va_D A (gW (List.range 122) (fad h0 tx c1 c2 prb sec qp qi kp (mo3 m0 mo1 mo2)) E) := by
  have hp : ((gW (List.range 122) (fad h0 tx c1 c2 prb sec qp qi kp (mo3 m0 mo1 mo2)) E).map Prod.fst).Perm ((fws ki G2 h0 tx c1 c2 m0 prb sec qp qi kp mo1 mo2 f1 f2).map Prod.fst) := by
    rw [gW_fst, fin_addr]
    unfold fws
    simp only [List.map_cons, List.map_append, gW_fst, mB_fst, List.map_nil, List.append_nil]
    rw [List.perm_iff_count]
    intro a
    simp only [List.count_cons, List.count_append]
    omega
  rw [va_D_iff] at *
  refine ⟨(hp.pairwise_iff (fun h => Ne.symm h)).mpr hD.1, fun q hq => ?_⟩
  have h1 : q.1 ∈ (fws ki G2 h0 tx c1 c2 m0 prb sec qp qi kp mo1 mo2 f1 f2).map Prod.fst := hp.mem_iff.mp (List.mem_map.mpr ⟨q, hq, rfl⟩)
  obtain ⟨q', hq', e⟩ := List.mem_map.mp h1
  rw [← e]
  exact hD.2 q' hq'
set_option maxHeartbeats 8000000 in
theorem fin_mo (mo : Nat → Nat → Nat) (hm : ∀ j, j < 13 → ∀ i, i < 8 → va_at D vwCl (mo j i, moE ki (mo j) i) H) (c : Nat) (h18 : 18 ≤ c) (h122 : c < 122) : va_at D vwCl (fad h0 tx c1 c2 prb sec qp qi kp mo c, xE ki (fad h0 tx c1 c2 prb sec qp qi kp mo) (Gf G2) 0 c) H := by
  obtain ⟨j, i, hj, hi, rfl⟩ : ∃ j i, j < 13 ∧ i < 8 ∧ c = 18 + 8 * j + i := ⟨(c - 18) / 8, (c - 18) % 8, by omega, by omega, by omega⟩
  have h := hm j hj i hi
  obtain ⟨ad, had⟩ : ∃ ad, ad = fad h0 tx c1 c2 prb sec qp qi kp mo := ⟨_, rfl⟩
  have hh : ∀ k, k < 8 → ad (18 + 8 * j + k) = mo j k := fun k hk => by rw [had]; exact fad_hi j k hk
  rw [← had, hh i hi]
  unfold xE
  rw [Gf_hi (by omega), xE_hi (by omega)]
  rcases (show i = 0 ∨ i = 1 ∨ i = 2 ∨ 3 ≤ i by omega) with rfl | rfl | rfl | h3
  · rw [if_pos (by omega)]
    unfold fsM
    rw [show 18 + 8 * j + 0 + 1 = 18 + 8 * j + 1 from rfl, show 18 + 8 * j + 0 + 2 = 18 + 8 * j + 2 from rfl, hh 1 (by omega), hh 2 (by omega)]
    exact h
  · rw [if_neg (by omega), if_pos (by omega)]
    exact h
  · rw [if_neg (by omega), if_neg (by omega), if_pos (by omega)]
    exact va_at_refs (f := fun k => some (mo j (3 + k))) (fun k hk => by rw [show 18 + 8 * j + 2 + 1 + k = 18 + 8 * j + (3 + k) by omega, hh (3 + k) (by omega)]) h
  · rw [if_neg (by omega), if_neg (by omega), if_neg (by omega)]
    have e : moE ki (mo j) i = .inr (1, [.int 0, .int 0, .int 0, .int 0, .int 0, .int 0, .int 0]) := by
      rcases (show i = 3 ∨ i = 4 ∨ i = 5 ∨ i = 6 ∨ i = 7 by omega) with rfl | rfl | rfl | rfl | rfl <;> rfl
    rw [e] at h
    exact h
set_option maxHeartbeats 16000000 in
set_option maxRecDepth 100000 in
theorem fin_P (hP : va_P D vwCl (fws ki G2 h0 tx c1 c2 m0 prb sec qp qi kp mo1 mo2 f1 f2) H) (e1 : ∀ j, j < 10 → f1 j = some (mo1 j 0)) (e2 : ∀ j, j < 2 → f2 j = some (mo2 j 0)) : va_P D vwCl (gW (List.range 122) (fad h0 tx c1 c2 prb sec qp qi kp (mo3 m0 mo1 mo2)) (xE ki (fad h0 tx c1 c2 prb sec qp qi kp (mo3 m0 mo1 mo2)) (Gf G2) 0)) H := by
  have a0 := hP.head
  have asec := hP.tail.head
  have aprb := hP.tail.tail.head
  have akp := hP.tail.tail.tail.head
  have aqi := hP.tail.tail.tail.tail.head
  have t5 := hP.tail.tail.tail.tail.tail
  have am2 := mB_at t5.left
  have aqp := t5.right.head
  have t6 := t5.right.tail
  have am1 := mB_at t6.left
  have am0 := t6.right.left
  have ac2 := t6.right.right.left
  have ac1 := t6.right.right.right.left
  have atx := t6.right.right.right.right.left
  clear hP t5 t6
  have hm : ∀ j, j < 13 → ∀ i, i < 8 → va_at D vwCl (mo3 m0 mo1 mo2 j i, moE ki (mo3 m0 mo1 mo2 j) i) H := fun j hj i hi => by
    by_cases h0 : j = 0
    · rw [show mo3 m0 mo1 mo2 j = m0 from if_pos h0]
      exact va_P_iff.mp am0 _ (gW_mem (List.mem_range.mpr hi))
    · by_cases h1 : j < 11
      · rw [show mo3 m0 mo1 mo2 j = mo1 (j - 1) from (if_neg h0).trans (if_pos h1)]
        exact am1 _ (by omega) i hi
      · rw [show mo3 m0 mo1 mo2 j = mo2 (j - 11) from (if_neg h0).trans (if_neg h1)]
        exact am2 _ (by omega) i hi
  refine va_P_iff.mpr fun q hq => ?_
  obtain ⟨c, hc, rfl⟩ := List.mem_map.mp hq
  have hc := List.mem_range.mp hc
  by_cases h18 : 18 ≤ c
  · exact fin_mo _ hm c h18 hc
  · have e15 : ∀ j, j < 10 → f1 j = some (fad h0 tx c1 c2 prb sec qp qi kp (mo3 m0 mo1 mo2) (26 + 8 * j)) := fun j hj => by
      rw [show 26 + 8 * j = 18 + 8 * (1 + j) + 0 by omega, fad_hi (1 + j) 0 (by omega), show mo3 m0 mo1 mo2 (1 + j) = mo1 j from by unfold mo3; rw [if_neg (by omega), if_pos (by omega), show 1 + j - 1 = j by omega]]
      exact e1 j hj
    have e16 : ∀ j, j < 2 → f2 j = some (fad h0 tx c1 c2 prb sec qp qi kp (mo3 m0 mo1 mo2) (106 + 8 * j)) := fun j hj => by
      rw [show 106 + 8 * j = 18 + 8 * (11 + j) + 0 by omega, fad_hi (11 + j) 0 (by omega), show mo3 m0 mo1 mo2 (11 + j) = mo2 j from by unfold mo3; rw [if_neg (by omega), if_neg (by omega), show 11 + j - 11 = j by omega]]
      exact e2 j hj
    clear hm am0 am1 am2 e1 e2 hq
    rcases (show c = 0 ∨ c = 1 ∨ c = 2 ∨ c = 3 ∨ c = 4 ∨ c = 5 ∨ c = 6 ∨ c = 7 ∨ c = 8 ∨ c = 9 ∨ c = 10 ∨ c = 11 ∨ c = 12 ∨ c = 13 ∨ c = 14 ∨ c = 15 ∨ c = 16 ∨ c = 17 by omega) with rfl | rfl | rfl | rfl | rfl | rfl | rfl | rfl | rfl | rfl | rfl | rfl | rfl | rfl | rfl | rfl | rfl | rfl
    · exact a0
    · exact atx 0 _ rfl
    · exact atx 1 _ rfl
    · exact ac1 0 _ rfl
    · exact ac1 1 _ rfl
    · exact ac1 2 _ rfl
    · exact ac1 3 _ rfl
    · exact ac1 4 _ rfl
    · exact ac2 0 _ rfl
    · exact ac2 1 _ rfl
    · exact ac2 2 _ rfl
    · exact ac2 3 _ rfl
    · exact ac2 4 _ rfl
    · exact aprb
    · exact asec
    · exact va_at_refs e15 aqp
    · exact va_at_refs e16 aqi
    · exact akp
end fin
theorem first_Rel {G2 : zMem} (g2 : gX D0 G2 3) : Rel (Gf G2) 0 Gm0 0 := by
  refine ⟨D0, 0, fun _ => 0, fun _ => 0, 0, fun _ _ => 0, fun _ => false, fun _ _ => 0, ⟨okA_D0, by omega, fun i hi => by omega, ⟨Nat.zero_le _, Nat.zero_le _, by decide, fun k hk => Nat.zero_le 4, fun l hl => absurd hl (Nat.not_lt_zero l)⟩, by omega, fun j hj => by omega, fun i hi h => by cases h⟩, ⟨Or.inl ⟨rfl, rfl⟩, ?_, ⟨rfl, fun i hi => by omega⟩, ⟨rfl, rfl, rfl, rfl, fun k hk => absurd hk (Nat.not_lt_zero k), fun l hl => absurd hl (Nat.not_lt_zero l)⟩, ⟨rfl, 0, by omega, rfl, fun j hj => by omega⟩, fun i hi => rfl, fun i hi h => by cases h⟩, ⟨?_, ⟨rfl, fun i hi => by omega⟩, ?_, ⟨rfl, fun j hj => by omega⟩, fun i hi => rfl, fun i hi h => by cases h⟩, rfl⟩
  · show gX D0 (Gf G2) 3
    exact gX_keep g2 (fun c h1 h2 => by
      unfold Gf
      rcases (show c = 3 ∨ c = 4 ∨ c = 5 ∨ c = 6 ∨ c = 7 by omega) with rfl | rfl | rfl | rfl | rfl <;> rfl)
  · refine ⟨fun k hk => ?_, fun k hk => absurd hk (Nat.not_lt_zero k), fun k hk => absurd hk (Nat.not_lt_zero k)⟩
    rcases (show k = 0 ∨ k = 1 ∨ k = 2 ∨ k = 3 ∨ k = 4 ∨ k = 5 by omega) with rfl | rfl | rfl | rfl | rfl | rfl <;> rfl
  · intro k hk
    rfl
