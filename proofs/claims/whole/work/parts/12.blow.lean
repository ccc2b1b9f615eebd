/-! ===== one hour of one letter, in both memories ===== -/
theorem nI_neg {n : Nat} {z : Int32} (hn : n < 2 ^ 31) (hz : z.toInt < 0) : ¬ nI n = z := by
  intro h
  rw [← h, nI_toInt hn] at hz
  omega
theorem up2_get {G : zMem} {c k : Nat} {v : Int32} : up2 G c k v c k = v := by rw [up2_self]; exact if_pos rfl
theorem up2_oth {G : zMem} {c k j : Nat} {v : Int32} (h : j ≠ k) : up2 G c k v c j = G c j := by rw [up2_self]; exact if_neg h
theorem up2_val {G : zMem} {c k : Nat} {v : Int32} (h : G c k = v) : up2 G c k v = G := by
  funext c' j
  unfold up2
  split
  · rename_i hc
    unfold upd
    split
    · rename_i hj; rw [hc, hj, h]
    · rw [hc]
  · rfl
theorem up2_two {G : zMem} {c k : Nat} {v w : Int32} : up2 (up2 G c k v) c k w = up2 G c k w := by
  funext c' j
  unfold up2
  split
  · simp only [if_true]
    unfold upd
    split
    · rfl
    · rename_i hj; rfl
  · rfl
def holdV (A : zA) (c : Nat) : Int32 := if hillS A c = true then -5 else isV (isleS A c)
def endV (A : zA) (v r c : Nat) : Int32 := if hillS A (bsS (A 0 0) (A 0 1) v c) = true then -1 else nI (mvS A v r c)
/-- the class's chart, at its cell ch -/
def gX (A : zA) (G : zMem) (ch : Nat) : Prop := G ch 0 = nI (A 0 0) ∧ G ch 1 = nI (A 0 1) ∧ G ch 2 = nI (A 0 5) ∧ G ch 3 = nI (A 0 2) ∧ G ch 4 = nI (A 0 3) ∧ (∀ k, k < A 0 2 → G (ch + 1) k = nI (A 1 k)) ∧ (∀ c, c < 30 → G (ch + 2) c = holdV A c) ∧ (∀ v, v < 4 → ∀ c, c < A 0 0 * A 0 1 → ∀ r, 1 ≤ r → r ≤ 5 → G (ch + 4) (((r - 1) * 4 + v) * 30 + c) = endV A v r c)
theorem gX_keep {A : zA} {G G' : zMem} {ch : Nat} (g : gX A G ch) (h : ∀ c, ch ≤ c → c ≤ ch + 4 → G' c = G c) : gX A G' ch := by
  unfold gX
  rw [h ch (by omega) (by omega), h (ch + 1) (by omega) (by omega), h (ch + 2) (by omega) (by omega), h (ch + 4) (by omega) (by omega)]
  exact g
/-- a letter in the class's cell t -/
def repL (A : zA) (G : zMem) (t : Nat) (L : zB) : Prop := (∀ j, j < 6 → G t j = nI (L j)) ∧ G t 6 = nI (A 0 5) - nI (L 0)
theorem repL_up {A : zA} {G : zMem} {t : Nat} {L : zB} (h : repL A G t L) {k x : Nat} (hk : k < 6) (h0 : k ≠ 0) : repL A (up2 G t k (nI x)) t (upN L k x) := by
  refine ⟨fun j hj => ?_, ?_⟩
  · by_cases hjk : j = k
    · subst hjk
      rw [up2_get]; unfold upN; rw [if_pos rfl]
    · rw [up2_oth hjk, h.1 j hj]; unfold upN; rw [if_neg hjk]
  · rw [up2_oth (by omega), h.2]; unfold upN; rw [if_neg (Ne.symm h0)]
theorem repL_keep {A : zA} {G G' : zMem} {t : Nat} {L : zB} (h : repL A G t L) (e : G' t = G t) : repL A G' t L := by
  unfold repL; rw [e]; exact h
theorem fw_onCell {A : zA} {G : zMem} {ch : Nat} (g : ∀ c, c < 30 → G (ch + 2) c = holdV A c) (N : Nat) (tr : Int64) {c : Nat} (hc : c < 30) : fX0_onCell N ch (nI c) G tr = some (holdV A c, G, tr) := by
  unfold fX0_onCell
  rw [if_neg (nI_pos (by omega)), show (30 : Int32) = nI 30 from rfl, if_neg (nI_ge (by omega) (by omega)), zin_ok (by omega) (by omega), nI_clamp (by omega), g c hc]
theorem fw_endOf {A : zA} {G : zMem} {ch : Nat} (hA : okA A) (g : gX A G ch) (N : Nat) (tr : Int64) {v w0 c : Nat} (hv : v ≤ 4) (hw : 1 ≤ w0 ∧ w0 ≤ 5) (hc : c < A 0 0 * A 0 1) : fX0_endOf N ch (nI (A 0 5) - nI w0) (nI v) (nI c) G tr = some (if v < 4 ∧ w0 < A 0 5 then endV A v (A 0 5 - w0) c else -1, G, tr) := by
  have ha := area hA
  have hf := hA.2.2.2.2.2.2.2.2.1
  have hf1 := hA.2.2.2.2.2.2.2.1
  unfold fX0_endOf
  by_cases h1 : w0 < A 0 5
  · rw [pk_sub (by omega), show (1 : Int32) = nI 1 from rfl, show (5 : Int32) = nI 5 from rfl, show (4 : Int32) = nI 4 from rfl, show (30 : Int32) = nI 30 from rfl, if_neg (nI_nlt (by omega) (by omega)), if_neg (nI_nlt (by omega) (by omega)), if_neg (nI_pos (by omega))]
    by_cases h2 : v < 4
    · rw [if_pos (nI_lt h2 (by omega)), if_neg (nI_pos (by omega)), if_pos (nI_lt (by omega) (by omega)), if_pos ⟨h2, h1⟩, pk_sub (by omega), pk_mul, nI_add, pk_mul, nI_add, zin_ok (by omega) (by omega), nI_clamp (by omega), g.2.2.2.2.2.2.2 v h2 c hc (A 0 5 - w0) (by omega) (by omega)]
    · rw [if_neg (nI_nlt (by omega) (by omega)), if_neg (fun z => h2 z.1)]
  · have hlt : nI (A 0 5) - nI w0 < 1 := by
      rw [zlt, pk_sub_toInt (by omega) (by omega), show (1 : Int32).toInt = 1 from rfl]
      omega
    rw [if_pos hlt, if_neg (fun z => h1 z.2)]
theorem isV_nn {o : Option Nat} (h : ∀ k, o = some k → k < 6) : (0 ≤ isV o ↔ ∃ k, o = some k) := by
  cases o with
  | none => simp only [isV, reduceCtorEq, exists_false, iff_false]; decide
  | some k => simp only [isV, Option.some.injEq, exists_eq', iff_true]; exact nI_pos' (by have := h k rfl; omega)
theorem fw_passHour {A : zA} {G : zMem} {ch t : Nat} (hA : okA A) (g : gX A G ch) (hch : isC ch) (ht : isL t) (N : Nat) (tr : Int64) {L : zB} (hL : okL A L) (hr : repL A G t L) {v nets : Nat} (hv : v ≤ 4) (hn : nets < 64) :
    ∃ G', fX1_passHour N t ch (nI v) (nI nets) G tr = some (0, G', tr) ∧ repL A G' t (stepL A nets v L) ∧ ∀ c, c ≠ t → G' c = G c := by
  have ha := area hA
  have hi6 := hA.2.2.2.2.1
  have hsep : ch + 2 ≠ t := by
    rcases hch with rfl | rfl <;> rcases ht with rfl | rfl | ⟨h1, h2, h3⟩ <;> omega
  unfold fX1_passHour
  rw [hr.1 5 (by omega)]
  by_cases h5 : L 5 = 0
  · rw [h5, if_pos (show nI 0 = 0 from rfl), hr.2, hr.1 3 (by omega), fw_endOf hA g N tr hv ⟨hL.1, hL.2.1⟩ hL.2.2.2.2.1, zbd_ok]
    by_cases hm : v < 4 ∧ L 0 < A 0 5
    · rw [if_pos hm]
      cases hh : hillS A (bsS (A 0 0) (A 0 1) v (L 3)) with
      | true =>
        refine ⟨G, ?_, ?_, fun c _ => rfl⟩
        · rw [endV, if_pos hh, if_pos rfl]
        · unfold stepL
          rw [if_neg (fun z => by rw [hh] at z; exact absurd z.2.2.2 (by decide))]
          exact hr
      | false =>
        have he := mv_lt hA hm.1 (r := A 0 5 - L 0) hL.2.2.2.2.1
        have hst : stepL A nets v L = landL A nets (mvS A v (A 0 5 - L 0) (L 3)) L := by unfold stepL; rw [if_pos ⟨h5, hm.1, hm.2, hh⟩]
        rw [hst, endV, hh]
        generalize mvS A v (A 0 5 - L 0) (L 3) = e at he ⊢
        simp only [Bool.false_eq_true, if_false]
        rw [if_neg (nI_neg (by omega) (by decide)), fw_onCell (A := A) (fun c hc => by rw [up2_ne _ _ _ hsep]; exact g.2.2.2.2.2.2.1 c hc) N tr (by omega), zbd_ok]
        have hr3 := repL_up hr (k := 3) (x := e) (by omega) (by omega)
        have hk3 : ∀ c, c ≠ t → up2 G t 3 (nI e) c = G c := fun c hc => up2_ne _ _ _ hc
        unfold holdV
        by_cases hl : hillS A e = true
        · rw [if_pos hl]
          have hno : isleS A e = none := by
            rw [isleS, fstS_none]
            intro k hk hke
            obtain ⟨j, hj, hje⟩ := anyS_iff.mp hl
            exact hA.2.2.2.2.2.2.2.2.2.2.2.2 k j hk hj (hke.trans hje.symm)
          rw [land_none hno]
          exact ⟨_, by rw [if_neg (by decide)], hr3, hk3⟩
        · rw [if_neg hl]
          cases hs : isleS A e with
          | none => rw [land_none hs]; exact ⟨_, by rw [if_neg (by decide)], hr3, hk3⟩
          | some i =>
            have hi := (fstS_some hs).1
            have h4 := hL.2.2.2.2.2.1
            have hp := pow_le64 hi6
            have h2 := hL.2.2.2.1
            rw [land_some hs, show isV (some i) = nI i from rfl]
            rw [if_pos (nI_pos' (by omega)), up2_oth (by omega), hr.1 2 (by omega)]
            have hb : (up2 (up2 G t 3 (nI e)) t 4 (up2 G t 3 (nI e) t 4 ||| 1 <<< (nI i &&& 31))) = up2 (up2 G t 3 (nI e)) t 4 (nI (L 4 ||| 2 ^ i)) := by
              rw [up2_oth (by omega), hr.1 4 (by omega), bit_or _ (by omega) _ (by omega)]
            have hr4 := repL_up hr3 (k := 4) (x := L 4 ||| 2 ^ i) (by omega) (by omega)
            have hk4 : ∀ c, c ≠ t → up2 (up2 G t 3 (nI e)) t 4 (nI (L 4 ||| 2 ^ i)) c = G c := fun c hc => by rw [up2_ne _ _ _ hc]; exact hk3 c hc
            by_cases hi2 : i = L 2
            · rw [if_pos (by rw [hi2]), if_pos hi2]
              unfold fX1_passHour_b75
              rw [hb, up2_oth (by omega), up2_oth (by omega), hr.1 2 (by omega), if_pos (by rw [hi2])]
              exact ⟨_, rfl, repL_up hr4 (k := 5) (x := 1) (by omega) (by omega), fun c hc => by rw [up2_ne _ _ _ hc]; exact hk4 c hc⟩
            · rw [if_neg (fun z => hi2 ((nI_eq (by omega) (by omega)).mp z)), if_neg hi2]
              unfold fX4_bitOf
              rw [zbp_ok, bit_get _ hn _ (by omega)]
              by_cases hbit : bitS nets i = true
              · rw [if_pos hbit, if_pos rfl, if_pos hbit]
                exact ⟨_, rfl, repL_up hr3 (k := 5) (x := 2) (by omega) (by omega), fun c hc => by rw [up2_ne _ _ _ hc]; exact hk3 c hc⟩
              · rw [if_neg hbit, if_neg (by decide), if_neg hbit]
                unfold fX1_passHour_b75
                rw [hb, up2_oth (by omega), up2_oth (by omega), hr.1 2 (by omega), if_neg (fun z => hi2 ((nI_eq (by omega) (by omega)).mp z))]
                exact ⟨_, rfl, hr4, hk4⟩
    · refine ⟨G, ?_, ?_, fun c _ => rfl⟩
      · rw [if_neg hm, if_pos rfl]
      · unfold stepL
        rw [if_neg (fun z => hm ⟨z.2.1, z.2.2.1⟩)]
        exact hr
  · refine ⟨G, ?_, ?_, fun c _ => rfl⟩
    · have h52 := hL.2.2.2.2.2.2
      rw [if_neg (nI_ne0 (by omega) (by omega))]
    · unfold stepL
      rw [if_neg (fun z => h5 z.1)]
      exact hr
/-! the reference -/
def repR (G : zMem) (r at' : Nat) (L : zB) : Prop := ∀ j, j < 6 → G r (at' + j) = nI (L j)
theorem repR_up {G : zMem} {r a : Nat} {L : zB} (h : repR G r a L) {k x : Nat} : repR (up2 G r (a + k) (nI x)) r a (upN L k x) := by
  intro j hj
  by_cases hjk : j = k
  · subst hjk
    rw [up2_get]; unfold upN; rw [if_pos rfl]
  · rw [up2_oth (by omega), h j hj]; unfold upN; rw [if_neg hjk]
/-- all else stays -/
def offR (G G' : zMem) (r a : Nat) : Prop := (∀ c, c ≠ r → G' c = G c) ∧ ∀ k, (k < a ∨ a + 6 ≤ k) → G' r k = G r k
theorem offR_rf {G : zMem} {r a : Nat} : offR G G r a := ⟨fun _ _ => rfl, fun _ _ => rfl⟩
theorem offR_up {G G' : zMem} {r a k : Nat} {v : Int32} (h : offR G G' r a) (hk : k < 6) : offR G (up2 G' r (a + k) v) r a :=
  ⟨fun c hc => by rw [up2_ne _ _ _ hc]; exact h.1 c hc, fun j hj => by rw [up2_oth (by omega)]; exact h.2 j hj⟩
theorem gM_off {A : zA} {G G' : zMem} {r a : Nat} (g : gM A G) (hr : r = 6 ∨ r = 10 ∨ r = 11) (h : offR G G' r a) : gM A G' := by
  unfold gM
  rw [h.1 2 (by omega), h.1 3 (by omega), h.1 4 (by omega)]
  exact g
theorem mLn_r {r : Nat} (h : r = 6 ∨ r = 10 ∨ r = 11) : mLn r < 2 ^ 30 := by rcases h with rfl | rfl | rfl <;> decide
theorem fm_blows_loop {A : zA} (hA : okA A) {N : Nat} (hN : 100 < N) (tr : Int64) {r a v : Nat} (hr : r = 6 ∨ r = 10 ∨ r = 11) (hat : a + 6 ≤ mLn r) (nt : Int32) (hv : v < 4) : ∀ (d n c : Nat) (w : Int32) (G : zMem), d < n → d ≤ 6 → gM A G → c < A 0 0 * A 0 1 → G r (a + 3) = nI c →
    fX5_blows_L32 N r (nI a) (nI v) nt n (nI d) w G tr = fX5_blows_b78 N r (nI a) (nI v) nt (if 0 < d ∧ hillS A (bsS (A 0 0) (A 0 1) v c) = false then 1 else w) (up2 G r (a + 3) (nI (mvS A v d c))) tr := by
  have ha := area hA
  have hml := mLn_r hr
  intro d
  induction d with
  | zero =>
    intro n c w G hn hd g hc h3
    obtain ⟨n, rfl⟩ : ∃ k, n = k + 1 := ⟨n - 1, by omega⟩
    rw [fX5_blows_L32, fX5_blows_b32, if_pos (by decide), if_neg (by omega), mvS, up2_val h3]
  | succ d ih =>
    intro n c w G hn hd g hc h3
    obtain ⟨n, rfl⟩ : ∃ k, n = k + 1 := ⟨n - 1, by omega⟩
    have hb := bs_lt hA hv hc
    rw [fX5_blows_L32, fX5_blows_b32, if_neg (nI_nle (by omega) (by omega)), show (3 : Int32) = nI 3 from rfl, nI_add, zin_ok (by omega) (by omega), nI_clamp (by omega), h3, fm_beside hA g N tr hv hc, zbd_ok, fm_isHill hA g hN tr (by omega), zbd_ok]
    cases hh : hillS A (bsS (A 0 0) (A 0 1) v c) with
    | true =>
      have hs : stA A v c = c := by unfold stA; rw [if_pos hh]
      rw [zb_if, if_pos rfl, if_neg (by simp), mv_stay hs, up2_val h3]
    | false =>
      have hs : stA A v c = bsS (A 0 0) (A 0 1) v c := by unfold stA; rw [hh]; rfl
      rw [zb_if, if_neg Bool.false_ne_true, zin_ok (by omega) (by omega), h3, fm_beside hA g N tr hv hc, zbd_ok, zin_ok (by omega) (by omega), pk_m1]
      rw [ih n (bsS (A 0 0) (A 0 1) v c) 1 _ (by omega) (by omega) (gM_off g hr (offR_up offR_rf (by omega))) hb up2_get, up2_two, ite_self, if_pos ⟨by omega, rfl⟩, mvS, hs]
theorem fm_blows {A : zA} {G : zMem} (hA : okA A) (g : gM A G) {N : Nat} (hN : 100 < N) (tr : Int64) {r a : Nat} (hr : r = 6 ∨ r = 10 ∨ r = 11) (hat : a + 6 ≤ mLn r) {L : zB} (hL : okL A L) (h : repR G r a L) {v nets : Nat} (hv : v ≤ 4) (hn : nets < 64) :
    ∃ G', fX5_blows N r (nI a) (nI v) (nI nets) G tr = some (0, G', tr) ∧ repR G' r a (stepL A nets v L) ∧ offR G G' r a := by
  have ha := area hA
  have hml := mLn_r hr
  have hi6 := hA.2.2.2.2.1
  have hf6 := hA.2.2.2.2.2.2.2.2.1
  have hL1 := hL.1
  have hL2 := hL.2.1
  -- nothing is blown
  have none' : ∀ w : Int32, w ≤ 0 → fX5_blows_b27 N r (nI a) (nI v) (nI nets) w G tr = some (0, G, tr) := by
    intro w hw
    obtain ⟨n, rfl⟩ : ∃ k, N = k + 1 := ⟨N - 1, by omega⟩
    rw [fX5_blows_b27, fX5_blows_L32, fX5_blows_b32, if_pos hw, fX5_blows_b78, if_pos rfl, fX5_blows_b97, if_pos rfl]
  unfold fX5_blows
  by_cases hv4 : v = 4
  · refine ⟨G, ?_, ?_, offR_rf⟩
    · rw [if_pos (by rw [hv4]; rfl), fX5_blows_b13]; exact none' 0 (by decide)
    · unfold stepL; rw [if_neg (fun z => by omega)]; exact h
  rw [if_neg (show ¬ nI v = 4 from fun z => hv4 ((nI_eq (b := 4) (by omega) (by omega)).mp z)), show (5 : Int32) = nI 5 from rfl, nI_add, zin_ok (by omega) (by omega), nI_clamp (by omega), h 5 (by omega)]
  by_cases h5 : L 5 = 0
  · rw [h5, if_pos (show nI 0 = 0 from rfl), zin_ok (by omega) (by omega), zin_ok (by omega) (by omega), nI_clamp (by omega), nI_clamp (by omega), g.1 5 (by omega), show G r a = nI (L 0) from h 0 (by omega)]
    by_cases hm : L 0 < A 0 5
    · rw [pk_sub (by omega), fX5_blows_b27, fm_blows_loop hA hN tr hr hat (nI nets) (by omega) (A 0 5 - L 0) N (L 3) 0 G (by omega) (by omega) g hL.2.2.2.2.1 (h 3 (by omega))]
      cases hh : hillS A (bsS (A 0 0) (A 0 1) v (L 3)) with
      | true =>
        have hs : stA A v (L 3) = L 3 := by unfold stA; rw [if_pos hh]
        refine ⟨G, ?_, ?_, offR_rf⟩
        · rw [if_neg (by simp), mv_stay hs, up2_val (h 3 (by omega)), fX5_blows_b78, if_pos rfl, fX5_blows_b97, if_pos rfl]
        · unfold stepL; rw [if_neg (fun z => by rw [hh] at z; exact absurd z.2.2.2 (by decide))]; exact h
      | false =>
        have he := mv_lt hA (show v < 4 by omega) (r := A 0 5 - L 0) hL.2.2.2.2.1
        have hst : stepL A nets v L = landL A nets (mvS A v (A 0 5 - L 0) (L 3)) L := by unfold stepL; rw [if_pos ⟨h5, by omega, hm, hh⟩]
        rw [hst, if_pos ⟨by omega, rfl⟩, fX5_blows_b78, if_neg (by decide), show (3 : Int32) = nI 3 from rfl, nI_add, zin_ok (by omega) (by omega), nI_clamp (by omega), up2_get]
        generalize mvS A v (A 0 5 - L 0) (L 3) = e at he ⊢
        have hr3 := repR_up h (k := 3) (x := e)
        have o3 : offR G (up2 G r (a + 3) (nI e)) r a := offR_up offR_rf (by omega)
        generalize hG1 : up2 G r (a + 3) (nI e) = G1 at hr3 o3 ⊢
        rw [fm_isleAt hA (gM_off g hr o3) hN tr (by omega), zbd_ok, fX5_blows_b97]
        cases hs : isleS A e with
        | none => rw [land_none hs]; exact ⟨G1, by rw [if_pos (show isV none = -9 from rfl)], hr3, o3⟩
        | some i =>
          have hi := (fstS_some hs).1
          have h4 := hL.2.2.2.2.2.1
          have hp := pow_le64 hi6
          have h2 := hL.2.2.2.1
          rw [land_some hs, show isV (some i) = nI i from rfl]
          have e2 : G1 r (a + 2) = nI (L 2) := hr3 2 (by omega)
          have e4 : G1 r (a + 4) = nI (L 4) := hr3 4 (by omega)
          rw [if_neg (nI_neg (by omega) (by decide)), show (2 : Int32) = nI 2 from rfl, nI_add, zin_ok (by omega) (by omega), nI_clamp (by omega), e2]
          have fin : ∀ (x8 x9 s0 : Int32) (b : Nat), (nI (L 4) ||| s0) = nI b → fX5_blows_b165 N r (nI a) (nI v) (nI nets) x8 x9 s0 (G1 r (a + 4)) (nI (a + 4)) G1 tr = some (0, up2 (up2 G1 r (a + 4) (nI b)) r (a + 5) (if x8 = 0 then (if x9 = 0 then 0 else 2) else 1), tr) := by
            intro x8 x9 s0 b hb
            rw [fX5_blows_b165, zin_ok (by omega) (by omega), nI_clamp (by omega), e4, hb]
            unfold fX5_blows_b190
            rw [show (5 : Int32) = nI 5 from rfl, nI_add, zin_ok (by omega) (by omega), nI_clamp (by omega)]
            split
            · split
              · rfl
              · rw [zin_ok (by omega) (by omega)]
            · rw [zin_ok (by omega) (by omega)]
          have go : ∀ (x8 s0 : Int32), fX5_blows_b144 N r (nI a) (nI v) (nI nets) (nI i) x8 s0 G1 tr = if s0 = 0 then fX5_blows_b165 N r (nI a) (nI v) (nI nets) x8 s0 (nI (2 ^ i)) (G1 r (a + 4)) (nI (a + 4)) G1 tr else fX5_blows_b165 N r (nI a) (nI v) (nI nets) x8 s0 0 (G1 r (a + 4)) (nI (a + 4)) G1 tr := by
            intro x8 s0
            rw [fX5_blows_b144, show (4 : Int32) = nI 4 from rfl, nI_add, zin_ok (by omega) (by omega), nI_clamp (by omega), bit_one _ (by omega)]
          have hor : nI (L 4) ||| nI (2 ^ i) = nI (L 4 ||| 2 ^ i) := by rw [← bit_one _ (by omega), bit_or _ (by omega) _ (by omega)]
          have hor0 : nI (L 4) ||| 0 = nI (L 4) := by
            have : ∀ n, n < 64 → nI n ||| 0 = nI n := by decide +kernel
            exact this _ (by omega)
          by_cases hi2 : i = L 2
          · rw [if_pos (by rw [hi2]), if_pos hi2, fX5_blows_b121, if_neg (by decide), fX5_blows_b143, go, if_pos rfl, fin _ _ _ _ hor]
            refine ⟨_, rfl, ?_, offR_up (offR_up o3 (by omega)) (by omega)⟩
            exact repR_up (repR_up hr3 (k := 4) (x := L 4 ||| 2 ^ i)) (k := 5) (x := 1)
          · rw [if_neg (fun z => hi2 ((nI_eq (by omega) (by omega)).mp z)), if_neg hi2, fX5_blows_b121, if_pos rfl, bit_get _ hn _ (by omega)]
            by_cases hbit : bitS nets i = true
            · rw [if_pos hbit, if_pos rfl, if_pos hbit, go, if_neg (by decide), fin _ _ _ _ hor0, up2_val e4]
              refine ⟨_, rfl, ?_, offR_up o3 (by omega)⟩
              exact repR_up hr3 (k := 5) (x := 2)
            · rw [if_neg hbit, if_neg (by decide), if_neg hbit, fX5_blows_b143, go, if_pos rfl, fin _ _ _ _ hor]
              have hq := repR_up (repR_up hr3 (k := 4) (x := L 4 ||| 2 ^ i)) (k := 5) (x := 0)
              refine ⟨_, rfl, ?_, offR_up (offR_up o3 (by omega)) (by omega)⟩
              intro j hj
              have := hq j hj
              rw [show (if (0 : Int32) = 0 then (if (0 : Int32) = 0 then (0 : Int32) else 2) else 1) = nI 0 from rfl, this]
              unfold upN
              by_cases hj5 : j = 5
              · rw [if_pos hj5, hj5]; simp [h5]
              · rw [if_neg hj5]
    · refine ⟨G, ?_, ?_, offR_rf⟩
      · apply none'
        rw [zle, pk_sub_toInt (by omega) (by omega), show (0 : Int32).toInt = 0 from rfl]; omega
      · unfold stepL; rw [if_neg (fun z => hm z.2.2.1)]; exact h
  · refine ⟨G, ?_, ?_, offR_rf⟩
    · have h52 := hL.2.2.2.2.2.2
      rw [if_neg (nI_ne0 (by omega) (by omega)), fX5_blows_b13]; exact none' 0 (by decide)
    · unfold stepL; rw [if_neg (fun z => h5 z.1)]; exact h
