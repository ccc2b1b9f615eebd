/-! ===== my base: worlds of numbered cells over one flat memory; rows over them ===== -/
abbrev zMem : Type := Nat → Nat → Int32
abbrev zR : Type := Option (Int32 × zMem × Int64)
def up2 (G : zMem) (c k : Nat) (v : Int32) : zMem := fun c' => if c' = c then upd (G c) k v else G c'
theorem up2_self (G : zMem) (c k : Nat) (v : Int32) : up2 G c k v c = upd (G c) k v := if_pos rfl
theorem up2_ne (G : zMem) {c c' : Nat} (k : Nat) (v : Int32) (h : c' ≠ c) : up2 G c k v c' = G c' := if_neg h
/-- words of the decompiled functions -/
def zin {α : Type} (i : Int32) (n : Nat) (x : Option α) : Option α := if i < 0 ∨ n ≤ i.toNatClampNeg then none else x
theorem zin_some {α : Type} {i : Int32} {n : Nat} {x : Option α} {r : α} (h : zin i n x = some r) : vp_in i n ∧ x = some r := by
  unfold zin at h
  by_cases hc : i < 0 ∨ n ≤ i.toNatClampNeg
  · rw [if_pos hc] at h; cases h
  · rw [if_neg hc] at h; exact ⟨hc, h⟩
def zdv {α : Type} (y : Int32) (x : Option α) : Option α := if y = 0 then none else x
theorem zdv_some {α : Type} {y : Int32} {x : Option α} {r : α} (h : zdv y x = some r) : ¬ y = 0 ∧ x = some r := by
  unfold zdv at h
  by_cases hc : y = 0
  · rw [if_pos hc] at h; cases h
  · rw [if_neg hc] at h; exact ⟨hc, h⟩
def zbd {α β : Type} (F : Option (α × zMem × Int64)) (k : α → zMem → Int64 → Option β) : Option β := match F with
  | none => none
  | some q => k q.1 q.2.1 q.2.2
theorem zbd_some {α β : Type} {F : Option (α × zMem × Int64)} {k : α → zMem → Int64 → Option β} {x : β} (h : zbd F k = some x) : ∃ (r : α) (G : zMem) (tr : Int64), F = some (r, G, tr) ∧ k r G tr = some x := by
  cases F with
  | none => cases h
  | some q => exact ⟨q.1, q.2.1, q.2.2, rfl, h⟩
def zbp {α β : Type} (F : Option α) (k : α → Option β) : Option β := match F with
  | none => none
  | some q => k q
theorem zbp_some {α β : Type} {F : Option α} {k : α → Option β} {x : β} (h : zbp F k = some x) : ∃ r : α, F = some r ∧ k r = some x := by
  cases F with
  | none => cases h
  | some q => exact ⟨q, rfl, h⟩
def zpu (F : Option Int32) (G : zMem) (tr : Int64) : zR := match F with
  | none => none
  | some r => some (r, G, tr)
theorem zpu_some {F : Option Int32} {G G9 : zMem} {tr tr9 : Int64} {r9 : Int32} (h : zpu F G tr = some (r9, G9, tr9)) : F = some r9 ∧ G = G9 ∧ tr = tr9 := by
  cases F with
  | none => cases h
  | some r => cases h; exact ⟨rfl, rfl, rfl⟩
theorem zpu_of {F : Option Int32} {G : zMem} {tr : Int64} {r : Int32} (h : F = some r) : zpu F G tr = some (r, G, tr) := by rw [h]; rfl
/-- a boolean answer -/
def zbo {α : Type} (v : Int32) (x : Option α) : Option α := if v = 0 ∨ v = 1 then x else none
theorem zbo_some {α : Type} {v : Int32} {x : Option α} {r : α} (h : zbo v x = some r) : (v = 0 ∨ v = 1) ∧ x = some r := by
  unfold zbo at h
  by_cases hc : v = 0 ∨ v = 1
  · rw [if_pos hc] at h; exact ⟨hc, h⟩
  · rw [if_neg hc] at h; cases h
theorem zbo_nar {v : Int32} (h : v = 0 ∨ v = 1) : narrow .boolean (.int v) = .int v := by rcases h with rfl | rfl <;> rfl
theorem zbo_vp {v : Int32} (h : v = 0 ∨ v = 1) : vp_nar .boolean v = v := by rcases h with rfl | rfl <;> rfl
theorem zif_pos {α : Type} {c : Prop} [Decidable c] {a b x : α} (hc : c) (h : (if c then a else b) = x) : a = x := (if_pos hc).symm.trans h
theorem zif_neg {α : Type} {c : Prop} [Decidable c] {a b x : α} (hc : ¬ c) (h : (if c then a else b) = x) : b = x := (if_neg hc).symm.trans h
theorem ztoInt_ne {x y : Int32} (h : ¬ x = y) : ¬ x.toInt = y.toInt := fun e => h (Int32.toInt_inj.mp e)
/-! the world -/
def gW (cs : List Nat) (ad : Nat → Nat) (E : Nat → va_E) : va_W := cs.map (fun c => (ad c, E c))
theorem gW_inv {cs : List Nat} {ad : Nat → Nat} {E : Nat → va_E} {k : Nat} {q : Nat × va_E} (h : (gW cs ad E)[k]? = some q) : ∃ c, cs[k]? = some c ∧ q = (ad c, E c) := by
  unfold gW at h
  rw [List.getElem?_map] at h
  cases hc : cs[k]? with
  | none => rw [hc] at h; cases h
  | some c => rw [hc] at h; exact ⟨c, rfl, (Option.some.inj h).symm⟩
theorem gW_at {cs : List Nat} {ad : Nat → Nat} {E : Nat → va_E} {k c : Nat} (h : cs[k]? = some c) : (gW cs ad E)[k]? = some (ad c, E c) := by
  unfold gW
  rw [List.getElem?_map, h]; rfl
theorem gW_get {cs : List Nat} {ad : Nat → Nat} {E : Nat → va_E} {c : Nat} (h : c ∈ cs) : ∃ k : Nat, cs[k]? = some c ∧ (gW cs ad E)[k]? = some (ad c, E c) := by
  obtain ⟨k, hk⟩ := List.getElem?_of_mem h
  exact ⟨k, hk, gW_at hk⟩
theorem gW_len {cs : List Nat} {ad : Nat → Nat} {E : Nat → va_E} : (gW cs ad E).length = cs.length := by simp [gW]
theorem gW_set {cs : List Nat} {ad : Nat → Nat} {E E' : Nat → va_E} {c k : Nat} {e : va_E} {A : Nat → Prop} (hD : va_D A (gW cs ad E)) (h : cs[k]? = some c) (h1 : ∀ c', c' ≠ c → E' c' = E c') (h2 : E' c = e) : (gW cs ad E).set k (ad c, e) = gW cs ad E' := by
  apply List.ext_getElem?
  intro j
  by_cases hj : j = k
  · subst hj
    rw [List.getElem?_set_self (by rw [gW_len]; exact (List.getElem?_eq_some_iff.mp h).1), gW_at h, h2]
  · rw [List.getElem?_set_ne (Ne.symm hj)]
    cases hc : cs[j]? with
    | none =>
      have hl : cs.length ≤ j := List.getElem?_eq_none_iff.mp hc
      rw [List.getElem?_eq_none (by rw [gW_len]; exact hl), List.getElem?_eq_none (by rw [gW_len]; exact hl)]
    | some c' =>
      rw [gW_at hc, gW_at hc]
      have hne : c' ≠ c := by
        intro he
        subst he
        exact hj (hD.1 j k _ _ (gW_at hc) (gW_at h) rfl)
      rw [h1 c' hne]
theorem gD_any {cs : List Nat} {ad : Nat → Nat} {E E' : Nat → va_E} {A : Nat → Prop} (hD : va_D A (gW cs ad E)) : va_D A (gW cs ad E') := by
  refine ⟨fun i j x y hi hj hxy => ?_, fun k q hk => ?_⟩
  · obtain ⟨a, h1, rfl⟩ := gW_inv hi
    obtain ⟨b, h2, rfl⟩ := gW_inv hj
    exact hD.1 i j _ _ (gW_at h1) (gW_at h2) hxy
  · obtain ⟨a, h1, rfl⟩ := gW_inv hk
    exact hD.2 k (ad a, E a) (gW_at h1)
/-- which cells a method may change -/
def gA (cs : List Nat) (ad : Nat → Nat) (sz : Nat) : Nat → Prop := fun q => (∃ c, c ∈ cs ∧ q = ad c) ∨ sz ≤ q
theorem gA_eq {cs : List Nat} {ad : Nat → Nat} {E : Nat → va_E} {sz : Nat} : va_A (gW cs ad E) sz = gA cs ad sz := by
  funext q
  apply propext
  constructor
  · rintro (⟨k, e, h⟩ | h)
    · obtain ⟨c, hk, hq⟩ := gW_inv h
      exact Or.inl ⟨c, List.mem_of_getElem? hk, congrArg Prod.fst hq⟩
    · exact Or.inr h
  · rintro (⟨c, hc, rfl⟩ | h)
    · obtain ⟨k, -, hk⟩ := gW_get (ad := ad) (E := E) hc
      exact Or.inl ⟨k, E c, hk⟩
    · exact Or.inr h
/-- the nest's links -/
def nK (U : State) : Prop := va_Nw (.methodLinkNest "WindPost" 9 yX3_init "WindPost") U ∧ va_Nw (.methodLinkNest "WindPost$Moment" 21 yX1_init "WindPost") U ∧ va_Nw (.methodLinkNest "WindPost" 46 yX1_init "WindPost") U ∧ va_Nw (.methodLinkNest "WindPost$Text" 109 yX4_isWithin "WindPost") U ∧ va_Nw (.methodLinkNest "WindPost$Letter" 49 yX4_bitOf "WindPost") U
theorem nK_same {u U : State} (h : u.vm = U.vm) (z : nK u) : nK U := ⟨va_Nw.same rfl h z.1, va_Nw.same rfl h z.2.1, va_Nw.same rfl h z.2.2.1, va_Nw.same rfl h z.2.2.2.1, va_Nw.same rfl h z.2.2.2.2⟩
theorem nK_warm {s U : State} (h : s.WarmedH U.vm) (z : nK s) : nK U := ⟨va_Nw.warmM h z.1, va_Nw.warmM h z.2.1, va_Nw.warmM h z.2.2.1, va_Nw.warmM h z.2.2.2.1, va_Nw.warmM h z.2.2.2.2⟩
/-- the arrays' classes -/
def zT (ki : Nat → ClassId) : List (ClassId × FieldType) := [(ki 0, .int), (ki 1, .boolean), (ki 2, .object "WindPost$Letter"), (ki 3, .object "WindPost$Moment")]
/-- what stays through a method -/
def gK (D : va_G) (ki : Nat → ClassId) (cs : List Nat) (ad : Nat → Nat) (A : Nat → Prop) (s : State) : Prop := va_K D vwCl (zT ki) s ∧ nK s ∧ (∀ E, va_D A (gW cs ad E)) ∧ ∀ q : Nat, s.heap.size ≤ q → A q
/-- what moves -/
def gS (D : va_G) (cs : List Nat) (ad : Nat → Nat) (E : Nat → va_E) (A : Nat → Prop) (s : State) (H : Heap) (locs : List Loc) : Prop := va_P D vwCl (gW cs ad E) H ∧ va_S A s.heap H locs
/-- a method's start -/
def gB (D : va_G) (ki : Nat → ClassId) (cs : List Nat) (ad : Nat → Nat) (E : Nat → va_E) (sz : Nat) : State → Prop := fun U => U.heap.size = sz ∧ va_K D vwCl (zT ki) U ∧ nK U ∧ va_P D vwCl (gW cs ad E) U.heap ∧ va_D (fun _ => True) (gW cs ad E)
theorem gB_blind {D : va_G} {ki : Nat → ClassId} {cs : List Nat} {ad : Nat → Nat} {E : Nat → va_E} {sz : Nat} {av : List Value} : FrameBlind (va_Pc av (gB D ki cs ad E sz)) := fun a U g mk q => by
  obtain ⟨q0, q1, qK, qN, qP, qD⟩ := q
  exact ⟨q0, q1, va_K.moved (u := U) (U := U.calling g mk a) (Vm.Alike.refl U.vm) qK, nK_same (u := U) (U := U.calling g mk a) rfl qN, qP, qD⟩
theorem gB_pre {D : va_G} {ki : Nat → ClassId} {cs : List Nat} {ad : Nat → Nat} {E : Nat → va_E} {A : Nat → Prop} {s : State} {H : Heap} {locs : List Loc} {av : List Value} (K : gK D ki cs ad A s) (X : gS D cs ad E A s H locs) : ∀ U : State, U.heap = H → s.WarmedH U.vm → va_Pc av (gB D ki cs ad E H.size) av.toArray U :=
  fun U hU hW => ⟨rfl, by rw [hU], va_K.moved hW.alike K.1, nK_warm hW K.2.1, by rw [hU]; exact X.1, (K.2.2.1 E).weaken (fun _ _ _ _ => trivial)⟩
def zQI (below : List Frame) (args : Array Value) (s : State) (D : va_G) (cs : List Nat) (ad : Nat → Nat) (E : Nat → va_E) (r : Int32) : State → Prop := MQ below (va_Qi (S := Unit) (fun r0 _ => r0 = r) (fun _ t => va_P D vwCl (gW cs ad E) t.heap) (gA cs ad s.heap.size)) args s 0 0 (gA cs ad s.heap.size)
def zQV (below : List Frame) (args : Array Value) (s : State) (D : va_G) (cs : List Nat) (ad : Nat → Nat) (E : Nat → va_E) : State → Prop := MQ below (va_Qv (S := Unit) (fun _ => True) (fun _ t => va_P D vwCl (gW cs ad E) t.heap) (gA cs ad s.heap.size)) args s 0 0 (gA cs ad s.heap.size)
def zQL (below : List Frame) (args : Array Value) (s : State) (D : va_G) (cs : List Nat) (ad : Nat → Nat) (E : Nat → va_E) (r : Int64) : State → Prop := MQ below (va_Ql (S := Unit) (fun r0 _ => r0 = r) (fun _ t => va_P D vwCl (gW cs ad E) t.heap) (gA cs ad s.heap.size)) args s 0 0 (gA cs ad s.heap.size)
def zQA (below : List Frame) (args : Array Value) (s : State) (D : va_G) (cs : List Nat) (ad : Nat → Nat) (E : Nat → va_E) (c0 : Nat) : State → Prop := MQ below (va_Qr (S := Unit) (fun _ => True) (fun _ a t => a = ad c0 ∧ va_P D vwCl (gW cs ad E) t.heap) (gA cs ad s.heap.size)) args s 0 0 (gA cs ad s.heap.size)
/-- the contracts: what the function F says, the method does -/
def gMetI (l : Launch) (D : va_G) (ki : Nat → ClassId) (ad : Nat → Nat) (cs : List Nat) (y : MethodName) (ws : List Cond) (rm : Room) (av : List Value) (E : zMem → Int64 → Nat → va_E) (G : zMem) (tr : Int64) (F : zR) : Prop :=
  ∀ (sz : Nat) (r : Int32) (G' : zMem) (tr' : Int64), F = some (r, G', tr') → Met l y ws rm (va_Pc av (gB D ki cs ad (E G tr) sz)) (va_Qi (S := Unit) (fun r0 _ => r0 = r) (fun _ t => va_P D vwCl (gW cs ad (E G' tr')) t.heap) (gA cs ad sz)) 0 0 (gA cs ad sz)
def gMetV (l : Launch) (D : va_G) (ki : Nat → ClassId) (ad : Nat → Nat) (cs : List Nat) (y : MethodName) (ws : List Cond) (rm : Room) (av : List Value) (E : zMem → Int64 → Nat → va_E) (G : zMem) (tr : Int64) (F : zR) : Prop :=
  ∀ (sz : Nat) (r : Int32) (G' : zMem) (tr' : Int64), F = some (r, G', tr') → Met l y ws rm (va_Pc av (gB D ki cs ad (E G tr) sz)) (va_Qv (S := Unit) (fun _ => True) (fun _ t => va_P D vwCl (gW cs ad (E G' tr')) t.heap) (gA cs ad sz)) 0 0 (gA cs ad sz)
def gMetL (l : Launch) (D : va_G) (ki : Nat → ClassId) (ad : Nat → Nat) (cs : List Nat) (y : MethodName) (ws : List Cond) (rm : Room) (av : List Value) (E : zMem → Int64 → Nat → va_E) (G : zMem) (tr : Int64) (F : Option (Int64 × zMem × Int64)) : Prop :=
  ∀ (sz : Nat) (r : Int64) (G' : zMem) (tr' : Int64), F = some (r, G', tr') → Met l y ws rm (va_Pc av (gB D ki cs ad (E G tr) sz)) (va_Ql (S := Unit) (fun r0 _ => r0 = r) (fun _ t => va_P D vwCl (gW cs ad (E G' tr')) t.heap) (gA cs ad sz)) 0 0 (gA cs ad sz)
def gMetA (l : Launch) (D : va_G) (ki : Nat → ClassId) (ad : Nat → Nat) (cs : List Nat) (y : MethodName) (ws : List Cond) (rm : Room) (av : List Value) (E : zMem → Int64 → Nat → va_E) (G : zMem) (tr : Int64) (c0 : Nat) (F : zR) : Prop :=
  ∀ (sz : Nat) (r : Int32) (G' : zMem) (tr' : Int64), F = some (r, G', tr') → Met l y ws rm (va_Pc av (gB D ki cs ad (E G tr) sz)) (va_Qr (S := Unit) (fun _ => True) (fun _ a t => a = ad c0 ∧ va_P D vwCl (gW cs ad (E G' tr')) t.heap) (gA cs ad sz)) 0 0 (gA cs ad sz)
theorem gK_of {D : va_G} {ki : Nat → ClassId} {cs : List Nat} {ad : Nat → Nat} {E : Nat → va_E} {s : State} (hK : va_K D vwCl (zT ki) s) (hN : nK s) (hD : va_D (fun _ => True) (gW cs ad E)) : gK D ki cs ad (gA cs ad s.heap.size) s :=
  ⟨hK, hN, fun E' => gD_any (E := E) (by rw [← gA_eq (E := E)]; exact hD.self), fun q h => Or.inr h⟩
section gStart
variable {l : Launch} {D : va_G} {ki : Nat → ClassId} {ad : Nat → Nat} {cs : List Nat} {y : MethodName} {ws ws' : List Cond} {rm : Room} {av : List Value} {E : zMem → Int64 → Nat → va_E} {G : zMem} {tr : Int64} {cc : ByteArray} {maxL : Nat} {own : String}
theorem gMetI_of {F : zR} {ret : Option FieldType} (hy : plainFor y = true) (hown : y.cls = own) (hw : ws = Cond.code y cc maxL ret :: ws') (hen : (lg_sl av).length ≤ maxL)
    (body : ∀ (r9 : Int32) (G9 : zMem) (tr9 : Int64), F = some (r9, G9, tr9) → ∀ (p : Program) (e : Env) (s : State) (m : MethodId) (below : List Frame) (meth : Method) (c : Code), CallFix p m c cc maxL s av.toArray ws own → meth.sig.returnType = ret → meth.locks = false → gK D ki cs ad (gA cs ad s.heap.size) s → gS D cs ad (E G tr) (gA cs ad s.heap.size) s s.heap [] → ∀ ls : Array Slot, lv_has ls maxL (lv_args 0 av) →
      W p l e (headSpec ws rm).room s m av.toArray below meth c s.heap [] 0 0 (zQI below av.toArray s D cs ad (E G9 tr9) r9) (F0 m 0 ls [])) : gMetI l D ki ad cs y ws rm av E G tr F := by
  intro sz r9 G9 tr9 h
  refine va_MetF (cc := cc) (maxL := maxL) (ret := ret) hy hw ?_
  intro p e s m args below meth c s₁ B hml hv
  obtain ⟨rfl, rfl, hK, hN, hP, hD⟩ := hv
  rw [lg_entry_eq]
  exact body r9 G9 tr9 h p e s m below meth c ⟨B.exec, B.bytes, hml, by rw [← hown]; exact findClass_of_methodNamed B.named, atoms_spec (ws := ws) B.pre⟩ B.returns B.notSynchronized (gK_of hK hN hD) ⟨hP, va_S.rf⟩ _ (lv_entry av hen)
theorem gMetV_of {F : zR} {ret : Option FieldType} (hy : plainFor y = true) (hown : y.cls = own) (hw : ws = Cond.code y cc maxL ret :: ws') (hen : (lg_sl av).length ≤ maxL)
    (body : ∀ (r9 : Int32) (G9 : zMem) (tr9 : Int64), F = some (r9, G9, tr9) → ∀ (p : Program) (e : Env) (s : State) (m : MethodId) (below : List Frame) (meth : Method) (c : Code), CallFix p m c cc maxL s av.toArray ws own → meth.sig.returnType = ret → meth.locks = false → gK D ki cs ad (gA cs ad s.heap.size) s → gS D cs ad (E G tr) (gA cs ad s.heap.size) s s.heap [] → ∀ ls : Array Slot, lv_has ls maxL (lv_args 0 av) →
      W p l e (headSpec ws rm).room s m av.toArray below meth c s.heap [] 0 0 (zQV below av.toArray s D cs ad (E G9 tr9)) (F0 m 0 ls [])) : gMetV l D ki ad cs y ws rm av E G tr F := by
  intro sz r9 G9 tr9 h
  refine va_MetF (cc := cc) (maxL := maxL) (ret := ret) hy hw ?_
  intro p e s m args below meth c s₁ B hml hv
  obtain ⟨rfl, rfl, hK, hN, hP, hD⟩ := hv
  rw [lg_entry_eq]
  exact body r9 G9 tr9 h p e s m below meth c ⟨B.exec, B.bytes, hml, by rw [← hown]; exact findClass_of_methodNamed B.named, atoms_spec (ws := ws) B.pre⟩ B.returns B.notSynchronized (gK_of hK hN hD) ⟨hP, va_S.rf⟩ _ (lv_entry av hen)
theorem gMetL_of {F : Option (Int64 × zMem × Int64)} {ret : Option FieldType} (hy : plainFor y = true) (hown : y.cls = own) (hw : ws = Cond.code y cc maxL ret :: ws') (hen : (lg_sl av).length ≤ maxL)
    (body : ∀ (r9 : Int64) (G9 : zMem) (tr9 : Int64), F = some (r9, G9, tr9) → ∀ (p : Program) (e : Env) (s : State) (m : MethodId) (below : List Frame) (meth : Method) (c : Code), CallFix p m c cc maxL s av.toArray ws own → meth.sig.returnType = ret → meth.locks = false → gK D ki cs ad (gA cs ad s.heap.size) s → gS D cs ad (E G tr) (gA cs ad s.heap.size) s s.heap [] → ∀ ls : Array Slot, lv_has ls maxL (lv_args 0 av) →
      W p l e (headSpec ws rm).room s m av.toArray below meth c s.heap [] 0 0 (zQL below av.toArray s D cs ad (E G9 tr9) r9) (F0 m 0 ls [])) : gMetL l D ki ad cs y ws rm av E G tr F := by
  intro sz r9 G9 tr9 h
  refine va_MetF (cc := cc) (maxL := maxL) (ret := ret) hy hw ?_
  intro p e s m args below meth c s₁ B hml hv
  obtain ⟨rfl, rfl, hK, hN, hP, hD⟩ := hv
  rw [lg_entry_eq]
  exact body r9 G9 tr9 h p e s m below meth c ⟨B.exec, B.bytes, hml, by rw [← hown]; exact findClass_of_methodNamed B.named, atoms_spec (ws := ws) B.pre⟩ B.returns B.notSynchronized (gK_of hK hN hD) ⟨hP, va_S.rf⟩ _ (lv_entry av hen)
theorem gMetA_of {c0 : Nat} {F : zR} {ret : Option FieldType} (hy : plainFor y = true) (hown : y.cls = own) (hw : ws = Cond.code y cc maxL ret :: ws') (hen : (lg_sl av).length ≤ maxL)
    (body : ∀ (r9 : Int32) (G9 : zMem) (tr9 : Int64), F = some (r9, G9, tr9) → ∀ (p : Program) (e : Env) (s : State) (m : MethodId) (below : List Frame) (meth : Method) (c : Code), CallFix p m c cc maxL s av.toArray ws own → meth.sig.returnType = ret → meth.locks = false → gK D ki cs ad (gA cs ad s.heap.size) s → gS D cs ad (E G tr) (gA cs ad s.heap.size) s s.heap [] → ∀ ls : Array Slot, lv_has ls maxL (lv_args 0 av) →
      W p l e (headSpec ws rm).room s m av.toArray below meth c s.heap [] 0 0 (zQA below av.toArray s D cs ad (E G9 tr9) c0) (F0 m 0 ls [])) : gMetA l D ki ad cs y ws rm av E G tr c0 F := by
  intro sz r9 G9 tr9 h
  refine va_MetF (cc := cc) (maxL := maxL) (ret := ret) hy hw ?_
  intro p e s m args below meth c s₁ B hml hv
  obtain ⟨rfl, rfl, hK, hN, hP, hD⟩ := hv
  rw [lg_entry_eq]
  exact body r9 G9 tr9 h p e s m below meth c ⟨B.exec, B.bytes, hml, by rw [← hown]; exact findClass_of_methodNamed B.named, atoms_spec (ws := ws) B.pre⟩ B.returns B.notSynchronized (gK_of hK hN hD) ⟨hP, va_S.rf⟩ _ (lv_entry av hen)
end gStart
/-- a place in the code, with all that the rows need -/
def zAt (p : Program) (l : Launch) (e : Env) (R : Room) (s : State) (m : MethodId) (args : Array Value) (below : List Frame) (meth : Method) (c : Code) (nL : Nat) (D : va_G) (cs : List Nat) (ad : Nat → Nat) (Q : State → Prop) (pc : Nat) (lv : List (Nat × Value)) (st : List Value) (E : Nat → va_E) : Prop :=
  ∀ (H : Heap) (locs : List Loc) (ls : Array Slot), gS D cs ad E (gA cs ad s.heap.size) s H locs → lv_has ls nL lv → W p l e R s m args below meth c H locs 0 0 Q (F0 m pc ls st)
/-- a world's own words change at one cell -/
def zLoc (E : zMem → Int64 → Nat → va_E) : Prop := ∀ (G : zMem) (tr : Int64) (c k : Nat) (v : Int32) (c' : Nat), c' ≠ c → E (up2 G c k v) tr c' = E G tr c'
section gRows
variable {p : Program} {l : Launch} {e : Env} {R : Room} {s : State} {m : MethodId} {args : Array Value} {below : List Frame} {meth : Method} {c : Code} {H : Heap} {locs : List Loc} {cells slots : Nat} {Q : State → Prop}
variable {cc : ByteArray} {nL pc : Nat} {ls : Array Slot} {rest : List Value} {D : va_G} {ki : Nat → ClassId} {cs : List Nat} {ad : Nat → Nat} {A : Nat → Prop} {Ts : List Cond} {own : String}
variable {Eg : zMem → Int64 → Nat → va_E} {G : zMem} {tr : Int64} {c0 : Nat}
theorem zr_get {E : Nat → va_E} {C ref nm ds : String} {T : u_T} {N ci index : Nat} {fs : List Value} {fin : Bool} {v : Value} (S : CallFix p m c cc nL s args Ts own) (K : gK D ki cs ad A s) (X : gS D cs ad E A s H locs) (hc : c0 ∈ cs) (he : E c0 = .inr (ci, fs)) (hcl : vwCl[ci]? = some (C, T, N)) (hin : ∀ w ∈ u_ws C T N, w ∈ Ts) (k : Nat) (hk : k < N) (hl : Cond.fieldLink own index ref nm ds ∈ Ts) (hT : T k = (ref, nm, ds, fin)) (hv : fs[k]? = some v) (hdg : decode cc pc = .ok (.getfield index, 3))
    (kk : W p l e R s m args below meth c H locs cells slots Q (F0 m (pc + 3) ls (v :: rest))) : W p l e R s m args below meth c H locs cells slots Q (F0 m pc ls (.ref (ad c0) :: rest)) := by
  obtain ⟨q0, -, hq⟩ := gW_get (ad := ad) (E := E) hc
  rw [he] at hq
  have h2 : (T k).2.1 = nm := by rw [hT]
  have h3 : (T k).2.2.1 = ds := by rw [hT]
  exact va_get S.1 S.2.1 S.2.2.2.2 hin S.2.2.2.1 K.1 X.1 q0 hq hcl k hk (index := index) (ref := ref) (by rw [h2, h3]; exact S.2.2.2.2 _ hl) (fun x h9 => by rw [hT] at h9 ⊢; exact h9) hv hdg kk
theorem zr_put {C ref nm ds : String} {T : u_T} {N ci index : Nat} {fsf : (Nat → Int32) → List Value} {v : Value} {xv : Int32} {ty : FieldType} (S : CallFix p m c cc nL s args Ts own) (K : gK D ki cs ad A s) (X : gS D cs ad (Eg G tr) A s H locs) (hc : c0 ∈ cs) (hloc : zLoc Eg) (he : ∀ G, Eg G tr c0 = .inr (ci, fsf (G c0))) (hcl : vwCl[ci]? = some (C, T, N)) (hin : ∀ w ∈ u_ws C T N, w ∈ Ts) (ty0 : Nat → FieldType) (hty : ∀ k, k < N → parseFieldDescriptor (T k).2.2.1 = some (ty0 k)) (hnm : ∀ a, a < N → ∀ b, b < N → a ≠ b → (T a).2.1 ≠ (T b).2.1) (k : Nat) (hk : k < N) (hl : Cond.fieldLink own index ref nm ds ∈ Ts) (hT : T k = (ref, nm, ds, false)) (hd : parseFieldDescriptor ds = some ty) (hn : narrow ty v = v) (hfit : fits ty v = true) (hlen : k < (fsf (G c0)).length) (hset : fsf (upd (G c0) k xv) = (fsf (G c0)).set k v) (hdg : decode cc pc = .ok (.putfield index, 3))
    (kk : ∀ (H1 : Heap) (locs1 : List Loc), gS D cs ad (Eg (up2 G c0 k xv) tr) A s H1 locs1 → W p l e R s m args below meth c H1 locs1 cells slots Q (F0 m (pc + 3) ls rest)) : W p l e R s m args below meth c H locs cells slots Q (F0 m pc ls (v :: .ref (ad c0) :: rest)) := by
  obtain ⟨q0, hq1, hq⟩ := gW_get (ad := ad) (E := Eg G tr) hc
  rw [he] at hq
  have h2 : (T k).2.1 = nm := by rw [hT]
  have h3 : (T k).2.2.1 = ds := by rw [hT]
  refine va_put S.1 S.2.1 S.2.2.2.2 hin ty0 hty hnm S.2.2.2.1 K.1 X.1 (K.2.2.1 _) X.2 q0 hq hcl k hk (index := index) (ref := ref) (by rw [h2, h3]; exact S.2.2.2.2 _ hl) (fun x h9 => by rw [hT] at h9 ⊢; exact h9) (by rw [hT]) (by rw [h3]; exact hd) hn hfit hlen hdg (fun H1 locs1 hP hD hS => ?_)
  rw [gW_set (K.2.2.1 _) hq1 (fun c' hc' => hloc G tr c0 k xv c' hc') (by rw [he, up2_self, hset])] at hP
  exact kk H1 locs1 ⟨hP, hS⟩
/-- a long field -/
theorem zr_putL {C ref nm ds : String} {T : u_T} {N ci index : Nat} {fsf : Int64 → List Value} {tr' : Int64} (S : CallFix p m c cc nL s args Ts own) (K : gK D ki cs ad A s) (X : gS D cs ad (Eg G tr) A s H locs) (hc : c0 ∈ cs) (hloc : ∀ c', c' ≠ c0 → Eg G tr' c' = Eg G tr c') (he : ∀ tr, Eg G tr c0 = .inr (ci, fsf tr)) (hcl : vwCl[ci]? = some (C, T, N)) (hin : ∀ w ∈ u_ws C T N, w ∈ Ts) (ty0 : Nat → FieldType) (hty : ∀ k, k < N → parseFieldDescriptor (T k).2.2.1 = some (ty0 k)) (hnm : ∀ a, a < N → ∀ b, b < N → a ≠ b → (T a).2.1 ≠ (T b).2.1) (k : Nat) (hk : k < N) (hl : Cond.fieldLink own index ref nm ds ∈ Ts) (hT : T k = (ref, nm, ds, false)) (hd : parseFieldDescriptor ds = some .long) (hlen : k < (fsf tr).length) (hset : fsf tr' = (fsf tr).set k (.long tr')) (hdg : decode cc pc = .ok (.putfield index, 3))
    (kk : ∀ (H1 : Heap) (locs1 : List Loc), gS D cs ad (Eg G tr') A s H1 locs1 → W p l e R s m args below meth c H1 locs1 cells slots Q (F0 m (pc + 3) ls rest)) : W p l e R s m args below meth c H locs cells slots Q (F0 m pc ls (.long tr' :: .ref (ad c0) :: rest)) := by
  obtain ⟨q0, hq1, hq⟩ := gW_get (ad := ad) (E := Eg G tr) hc
  rw [he] at hq
  have h2 : (T k).2.1 = nm := by rw [hT]
  have h3 : (T k).2.2.1 = ds := by rw [hT]
  refine va_put S.1 S.2.1 S.2.2.2.2 hin ty0 hty hnm S.2.2.2.1 K.1 X.1 (K.2.2.1 _) X.2 q0 hq hcl k hk (index := index) (ref := ref) (ty := .long) (by rw [h2, h3]; exact S.2.2.2.2 _ hl) (fun x h9 => by rw [hT] at h9 ⊢; exact h9) (by rw [hT]) (by rw [h3]; exact hd) rfl rfl hlen hdg (fun H1 locs1 hP hD hS => ?_)
  rw [gW_set (K.2.2.1 _) hq1 (fun c' hc' => hloc c' hc') (by rw [he, hset])] at hP
  exact kk H1 locs1 ⟨hP, hS⟩
theorem zr_iald {E : Nat → va_E} {nn : Nat} {f : Nat → Int32} {i : Int32} (S : CallFix p m c cc nL s args Ts own) (K : gK D ki cs ad A s) (X : gS D cs ad E A s H locs) (hc : c0 ∈ cs) (he : E c0 = .inl (ki 0, nn, .inl f)) (hin : vp_in i nn) (hdg : decode cc pc = .ok (.iaload, 1))
    (kk : W p l e R s m args below meth c H locs cells slots Q (F0 m (pc + 1) ls (.int (f i.toNatClampNeg) :: rest))) : W p l e R s m args below meth c H locs cells slots Q (F0 m pc ls (.int i :: .ref (ad c0) :: rest)) := by
  obtain ⟨q0, -, hq⟩ := gW_get (ad := ad) (E := E) hc
  rw [he] at hq
  exact va_iald S.1 S.2.1 K.1 X.1 q0 0 hq rfl hin hdg kk
theorem zr_zald {E : Nat → va_E} {nn : Nat} {f : Nat → Int32} {i : Int32} (S : CallFix p m c cc nL s args Ts own) (K : gK D ki cs ad A s) (X : gS D cs ad E A s H locs) (hc : c0 ∈ cs) (he : E c0 = .inl (ki 1, nn, .inl f)) (hin : vp_in i nn) (hdg : decode cc pc = .ok (.baload, 1))
    (kk : W p l e R s m args below meth c H locs cells slots Q (F0 m (pc + 1) ls (.int (f i.toNatClampNeg) :: rest))) : W p l e R s m args below meth c H locs cells slots Q (F0 m pc ls (.int i :: .ref (ad c0) :: rest)) := by
  obtain ⟨q0, -, hq⟩ := gW_get (ad := ad) (E := E) hc
  rw [he] at hq
  exact va_zald S.1 S.2.1 K.1 X.1 q0 1 hq rfl hin hdg kk
theorem zr_aald {E : Nat → va_E} {nn t0 : Nat} {C : String} {cA : ClassId} {f : Nat → Nat} {i : Int32} (S : CallFix p m c cc nL s args Ts own) (K : gK D ki cs ad A s) (X : gS D cs ad E A s H locs) (hc : c0 ∈ cs) (he : E c0 = .inl (cA, nn, .inr (.inr (.inr (.inr (fun j => some (ad (f j)))))))) (ht : (zT ki)[t0]? = some (cA, .object C)) (hin : vp_in i nn) (hdg : decode cc pc = .ok (.aaload, 1))
    (kk : W p l e R s m args below meth c H locs cells slots Q (F0 m (pc + 1) ls (.ref (ad (f i.toNatClampNeg)) :: rest))) : W p l e R s m args below meth c H locs cells slots Q (F0 m pc ls (.int i :: .ref (ad c0) :: rest)) := by
  obtain ⟨q0, -, hq⟩ := gW_get (ad := ad) (E := E) hc
  rw [he] at hq
  exact va_aldq S.1 S.2.1 K.1 X.1 q0 t0 hq ht hin hdg kk
theorem zr_iast {nn : Nat} {i x : Int32} (S : CallFix p m c cc nL s args Ts own) (K : gK D ki cs ad A s) (X : gS D cs ad (Eg G tr) A s H locs) (hc : c0 ∈ cs) (hloc : zLoc Eg) (he : ∀ G, Eg G tr c0 = .inl (ki 0, nn, .inl (G c0))) (hin : vp_in i nn) (hdg : decode cc pc = .ok (.iastore, 1))
    (kk : ∀ (H1 : Heap) (locs1 : List Loc), gS D cs ad (Eg (up2 G c0 i.toNatClampNeg x) tr) A s H1 locs1 → W p l e R s m args below meth c H1 locs1 cells slots Q (F0 m (pc + 1) ls rest)) : W p l e R s m args below meth c H locs cells slots Q (F0 m pc ls (.int x :: .int i :: .ref (ad c0) :: rest)) := by
  obtain ⟨q0, hq1, hq⟩ := gW_get (ad := ad) (E := Eg G tr) hc
  rw [he] at hq
  refine va_iast S.1 S.2.1 K.1 X.1 (K.2.2.1 _) X.2 q0 0 hq rfl hin hdg (fun H1 locs1 hP hD hS => ?_)
  rw [gW_set (K.2.2.1 _) hq1 (fun c' hc' => hloc G tr c0 i.toNatClampNeg x c' hc') (by rw [he, up2_self])] at hP
  exact kk H1 locs1 ⟨hP, hS⟩
theorem zr_zast {nn : Nat} {i x : Int32} (S : CallFix p m c cc nL s args Ts own) (K : gK D ki cs ad A s) (X : gS D cs ad (Eg G tr) A s H locs) (hc : c0 ∈ cs) (hloc : zLoc Eg) (he : ∀ G, Eg G tr c0 = .inl (ki 1, nn, .inl (G c0))) (hin : vp_in i nn) (hx : x = 0 ∨ x = 1) (hdg : decode cc pc = .ok (.bastore, 1))
    (kk : ∀ (H1 : Heap) (locs1 : List Loc), gS D cs ad (Eg (up2 G c0 i.toNatClampNeg x) tr) A s H1 locs1 → W p l e R s m args below meth c H1 locs1 cells slots Q (F0 m (pc + 1) ls rest)) : W p l e R s m args below meth c H locs cells slots Q (F0 m pc ls (.int x :: .int i :: .ref (ad c0) :: rest)) := by
  obtain ⟨q0, hq1, hq⟩ := gW_get (ad := ad) (E := Eg G tr) hc
  rw [he] at hq
  refine va_zast S.1 S.2.1 K.1 X.1 (K.2.2.1 _) X.2 q0 1 hq rfl hin hdg (fun H1 locs1 hP hD hS => ?_)
  rw [zbo_vp hx] at hP
  rw [gW_set (K.2.2.1 _) hq1 (fun c' hc' => hloc G tr c0 i.toNatClampNeg x c' hc') (by rw [he, up2_self])] at hP
  exact kk H1 locs1 ⟨hP, hS⟩
/-! behind a call -/
variable {st0 : List Value} {a : Array Value}
theorem zr_free (K : gK D ki cs ad (gA cs ad s.heap.size) s) {E : Nat → va_E} (X : gS D cs ad E (gA cs ad s.heap.size) s H locs) : ∀ q : Nat, gA cs ad H.size q → gA cs ad s.heap.size q := by
  intro q h
  rcases h with h | h
  · exact Or.inl h
  · exact Or.inr (Nat.le_trans X.2.1 h)
theorem zr_calli {E : Nat → va_E} {r : Int32} {G' : zMem} {tr' : Int64} (K : gK D ki cs ad (gA cs ad s.heap.size) s) (X : gS D cs ad E (gA cs ad s.heap.size) s H locs)
    (hr : va_Run p l e R s m args below meth c H locs cells slots 0 0 (F0 m pc ls st0) rest (va_Qi (S := Unit) (fun r0 _ => r0 = r) (fun _ t => va_P D vwCl (gW cs ad (Eg G' tr')) t.heap) (gA cs ad H.size) a) (gA cs ad H.size))
    (kk : ∀ (H1 : Heap) (locs1 : List Loc), gS D cs ad (Eg G' tr') (gA cs ad s.heap.size) s H1 locs1 → W p l e R s m args below meth c H1 locs1 cells slots Q (F0 m (pc + 3) ls (.int r :: rest))) : W p l e R s m args below meth c H locs cells slots Q (F0 m pc ls st0) := by
  refine va_calli hr X.2 (fun q _ h => zr_free K X q h) (zr_free K X) (fun r0 u t H1 locs1 ht hvm hw hB hz1 hk1 hS => ?_)
  subst hw
  rw [ht] at hB
  exact kk H1 locs1 ⟨hB, hS⟩
theorem zr_callv {E : Nat → va_E} {G' : zMem} {tr' : Int64} (K : gK D ki cs ad (gA cs ad s.heap.size) s) (X : gS D cs ad E (gA cs ad s.heap.size) s H locs)
    (hr : va_Run p l e R s m args below meth c H locs cells slots 0 0 (F0 m pc ls st0) rest (va_Qv (S := Unit) (fun _ => True) (fun _ t => va_P D vwCl (gW cs ad (Eg G' tr')) t.heap) (gA cs ad H.size) a) (gA cs ad H.size))
    (kk : ∀ (H1 : Heap) (locs1 : List Loc), gS D cs ad (Eg G' tr') (gA cs ad s.heap.size) s H1 locs1 → W p l e R s m args below meth c H1 locs1 cells slots Q (F0 m (pc + 3) ls rest)) : W p l e R s m args below meth c H locs cells slots Q (F0 m pc ls st0) := by
  refine va_callv hr X.2 (fun q _ h => zr_free K X q h) (zr_free K X) (fun u t H1 locs1 ht hvm hw hB hz1 hk1 hS => ?_)
  rw [ht] at hB
  exact kk H1 locs1 ⟨hB, hS⟩
theorem zr_calla {E : Nat → va_E} {c1 : Nat} {G' : zMem} {tr' : Int64} (K : gK D ki cs ad (gA cs ad s.heap.size) s) (X : gS D cs ad E (gA cs ad s.heap.size) s H locs)
    (hr : va_Run p l e R s m args below meth c H locs cells slots 0 0 (F0 m pc ls st0) rest (va_Qr (S := Unit) (fun _ => True) (fun _ a t => a = ad c1 ∧ va_P D vwCl (gW cs ad (Eg G' tr')) t.heap) (gA cs ad H.size) a) (gA cs ad H.size))
    (kk : ∀ (H1 : Heap) (locs1 : List Loc), gS D cs ad (Eg G' tr') (gA cs ad s.heap.size) s H1 locs1 → W p l e R s m args below meth c H1 locs1 cells slots Q (F0 m (pc + 3) ls (.ref (ad c1) :: rest))) : W p l e R s m args below meth c H locs cells slots Q (F0 m pc ls st0) := by
  refine va_callr hr X.2 (fun q _ h => zr_free K X q h) (zr_free K X) (fun u a1 t H1 locs1 ht hvm hw hB hz1 hk1 hS => ?_)
  obtain ⟨rfl, hB⟩ := hB
  rw [ht] at hB
  exact kk H1 locs1 ⟨hB, hS⟩
theorem zr_pre {E : Nat → va_E} {As : List Value} (K : gK D ki cs ad A s) (X : gS D cs ad E A s H locs) : PreS s H (va_Pc As (gB D ki cs ad E H.size)) As := ⟨gB_blind, gB_pre K X⟩
theorem zr_preV {E : Nat → va_E} {As : List Value} {C : String} {T : u_T} {N ci : Nat} {fs : List Value} (K : gK D ki cs ad A s) (X : gS D cs ad E A s H locs) (hc : c0 ∈ cs) (he : E c0 = .inr (ci, fs)) (hcl : vwCl[ci]? = some (C, T, N)) : PreV s H C (ad c0) (va_Pc (.ref (ad c0) :: As) (gB D ki cs ad E H.size)) As := by
  obtain ⟨q0, -, hq⟩ := gW_get (ad := ad) (E := E) hc
  rw [he] at hq
  exact ⟨gB_blind, va_recv K.1 X.1 hcl hq, gB_pre K X⟩
/-! the ends -/
theorem zr_iret {G9 : zMem} {tr9 : Int64} {r9 v : Int32} (S : CallFix p m c cc nL s args Ts own) (hr : meth.sig.returnType = some .int) (hlk : meth.locks = false) (X : gS D cs ad (Eg G tr) (gA cs ad s.heap.size) s H locs) (h : (some (v, G, tr) : zR) = some (r9, G9, tr9)) (hdg : decode cc pc = .ok (.ireturn, 1)) : W p l e R s m args below meth c H locs 0 0 (zQI below args s D cs ad (Eg G9 tr9) r9) (F0 m pc ls [.int v]) := by
  cases h
  exact W.iret S.1 S.2.1 hr (fun t ht hW => ⟨⟨_, (), rfl, rfl, by show va_P _ _ _ t.heap; rw [ht]; exact X.1⟩, X.2.F ht⟩) X.2.2.2 hdg hlk
theorem zr_zret {G9 : zMem} {tr9 : Int64} {r9 v : Int32} (S : CallFix p m c cc nL s args Ts own) (hr : meth.sig.returnType = some .boolean) (hlk : meth.locks = false) (X : gS D cs ad (Eg G tr) (gA cs ad s.heap.size) s H locs) (h : zbo v (some (v, G, tr) : zR) = some (r9, G9, tr9)) (hdg : decode cc pc = .ok (.ireturn, 1)) : W p l e R s m args below meth c H locs 0 0 (zQI below args s D cs ad (Eg G9 tr9) r9) (F0 m pc ls [.int v]) := by
  obtain ⟨hn, h⟩ := zbo_some h
  cases h
  exact W.zret S.1 S.2.1 hr (zbo_nar hn) (fun t ht hW => ⟨⟨_, (), rfl, rfl, by show va_P _ _ _ t.heap; rw [ht]; exact X.1⟩, X.2.F ht⟩) X.2.2.2 hdg hlk
theorem zr_iretP {E : Nat → va_E} {r9 v : Int32} (S : CallFix p m c cc nL s args Ts own) (hr : meth.sig.returnType = some .int) (hlk : meth.locks = false) (X : gS D cs ad E (gA cs ad s.heap.size) s H locs) (h : some v = some r9) (hdg : decode cc pc = .ok (.ireturn, 1)) : W p l e R s m args below meth c H locs 0 0 (zQI below args s D cs ad E r9) (F0 m pc ls [.int v]) := by
  cases h
  exact W.iret S.1 S.2.1 hr (fun t ht hW => ⟨⟨_, (), rfl, rfl, by show va_P _ _ _ t.heap; rw [ht]; exact X.1⟩, X.2.F ht⟩) X.2.2.2 hdg hlk
theorem zr_zretP {E : Nat → va_E} {r9 v : Int32} (S : CallFix p m c cc nL s args Ts own) (hr : meth.sig.returnType = some .boolean) (hlk : meth.locks = false) (X : gS D cs ad E (gA cs ad s.heap.size) s H locs) (h : zbo v (some v) = some r9) (hdg : decode cc pc = .ok (.ireturn, 1)) : W p l e R s m args below meth c H locs 0 0 (zQI below args s D cs ad E r9) (F0 m pc ls [.int v]) := by
  obtain ⟨hn, h⟩ := zbo_some h
  cases h
  exact W.zret S.1 S.2.1 hr (zbo_nar hn) (fun t ht hW => ⟨⟨_, (), rfl, rfl, by show va_P _ _ _ t.heap; rw [ht]; exact X.1⟩, X.2.F ht⟩) X.2.2.2 hdg hlk
theorem zr_vret {G9 : zMem} {tr9 : Int64} {r9 v : Int32} (S : CallFix p m c cc nL s args Ts own) (hr : meth.sig.returnType = none) (hlk : meth.locks = false) (X : gS D cs ad (Eg G tr) (gA cs ad s.heap.size) s H locs) (h : (some (v, G, tr) : zR) = some (r9, G9, tr9)) (hdg : decode cc pc = .ok (.return_, 1)) : W p l e R s m args below meth c H locs 0 0 (zQV below args s D cs ad (Eg G9 tr9)) (F0 m pc ls []) := by
  cases h
  exact W.vret S.1 S.2.1 hr (fun t ht hW => ⟨⟨(), rfl, trivial, by show va_P _ _ _ t.heap; rw [ht]; exact X.1⟩, X.2.F ht⟩) X.2.2.2 hdg hlk
theorem zr_lret {G9 : zMem} {tr9 r9 v : Int64} (S : CallFix p m c cc nL s args Ts own) (hr : meth.sig.returnType = some .long) (hlk : meth.locks = false) (X : gS D cs ad (Eg G tr) (gA cs ad s.heap.size) s H locs) (h : (some (v, G, tr) : Option (Int64 × zMem × Int64)) = some (r9, G9, tr9)) (hdg : decode cc pc = .ok (.lreturn, 1)) : W p l e R s m args below meth c H locs 0 0 (zQL below args s D cs ad (Eg G9 tr9) r9) (F0 m pc ls [.long v]) := by
  cases h
  exact W.lret S.1 S.2.1 hr (fun t ht hW => ⟨⟨_, (), rfl, rfl, by show va_P _ _ _ t.heap; rw [ht]; exact X.1⟩, X.2.F ht⟩) X.2.2.2 hdg hlk
theorem zr_aret {G9 : zMem} {tr9 : Int64} {r9 v : Int32} {c1 : Nat} {nm : String} (S : CallFix p m c cc nL s args Ts own) (hr : meth.sig.returnType = some (.object nm)) (hlk : meth.locks = false) (X : gS D cs ad (Eg G tr) (gA cs ad s.heap.size) s H locs) (h : (some (v, G, tr) : zR) = some (r9, G9, tr9)) (hdg : decode cc pc = .ok (.areturn, 1)) : W p l e R s m args below meth c H locs 0 0 (zQA below args s D cs ad (Eg G9 tr9) c1) (F0 m pc ls [.ref (ad c1)]) := by
  cases h
  exact W.aret S.1 S.2.1 hr (Or.inl ⟨nm, rfl⟩) (Or.inr ⟨_, rfl⟩) (fun t ht hW => ⟨⟨(), ad c1, rfl, trivial, rfl, by show va_P _ _ _ t.heap; rw [ht]; exact X.1⟩, X.2.F ht⟩) X.2.2.2 hdg hlk
/-! switches -/
theorem zr_swIn (S : CallFix p m c cc nL s args Ts own) {dflt lo hi : Int} {offs : Array Int} {len : Nat} {x y : Int32} {off : Int} {tgt : Nat} (hxy : x = y) (hdg : decode cc pc = .ok (.tableswitch dflt lo hi offs, len)) (h1 : lo ≤ y.toInt ∧ y.toInt ≤ hi ∧ offs[(y.toInt - lo).toNat]? = some off ∧ (pc : Int) + off = (tgt : Int))
    (k : W p l e R s m args below meth c H locs cells slots Q (F0 m tgt ls rest)) : W p l e R s m args below meth c H locs cells slots Q (F0 m pc ls (.int x :: rest)) := by
  subst hxy
  exact lv_tableIn S.1 S.2.1 hdg (Int.not_lt.mpr h1.1) (Int.not_lt.mpr h1.2.1) h1.2.2.1 h1.2.2.2 k
end gRows
/-! ===== the class's world ===== -/
abbrev fsW (ad : Nat → Nat) (tr : Int64) (g : Nat → Int32) : List Value := [.ref (ad 1), .ref (ad (g 1).toNatClampNeg), .ref (ad (g 2).toNatClampNeg), .ref (ad 18), .ref (ad 15), .int (g 5), .int (g 6), .ref (ad 16), .ref (ad 17), .ref (ad 13), .ref (ad 14), .long tr]
abbrev fsT (ad : Nat → Nat) (g : Nat → Int32) : List Value := [.int (g 0), .ref (ad 2), .int (g 2), .int (g 3), .int (g 4), .int (g 5), .int (g 6), .int (g 7)]
abbrev fsC (ad : Nat → Nat) (t : Nat) (g : Nat → Int32) : List Value := [.int (g 0), .int (g 1), .int (g 2), .int (g 3), .int (g 4), .int (g 5), .ref (ad (t + 1)), .ref (ad (t + 2)), .ref (ad (t + 3)), .ref (ad (t + 4))]
abbrev fsL (g : Nat → Int32) : List Value := [.int (g 0), .int (g 1), .int (g 2), .int (g 3), .int (g 4), .int (g 5), .int (g 6)]
abbrev fsM (ad : Nat → Nat) (t : Nat) (g : Nat → Int32) : List Value := [.int (g 0), .int (g 1), .int (g 2), .int (g 3), .ref (ad (t + 1)), .ref (ad (t + 2))]
def xE' (ki : Nat → ClassId) (ad : Nat → Nat) (g : Nat → Int32) (tr : Int64) (c : Nat) : va_E :=
  if c = 0 then .inr (4, fsW ad tr g)
  else if c = 1 then .inr (3, fsT ad g)
  else if c = 2 then .inl (ki 0, 200, .inl g)
  else if c = 3 ∨ c = 8 then .inr (0, fsC ad c g)
  else if c = 4 ∨ c = 9 then .inl (ki 0, 6, .inl g)
  else if c = 5 ∨ c = 10 then .inl (ki 0, 30, .inl g)
  else if c = 6 ∨ c = 11 then .inl (ki 0, 12, .inl g)
  else if c = 7 ∨ c = 12 then .inl (ki 0, 600, .inl g)
  else if c = 13 ∨ c = 14 then .inr (1, fsL g)
  else if c = 15 then .inl (ki 3, 10, .inr (.inr (.inr (.inr (fun j => some (ad (26 + 8 * j)))))))
  else if c = 16 then .inl (ki 3, 2, .inr (.inr (.inr (.inr (fun j => some (ad (106 + 8 * j)))))))
  else if c = 17 then .inl (ki 1, 2, .inl g)
  else if (c - 18) % 8 = 0 then .inr (2, fsM ad c g)
  else if (c - 18) % 8 = 1 then .inl (ki 0, 12, .inl g)
  else if (c - 18) % 8 = 2 then .inl (ki 2, 5, .inr (.inr (.inr (.inr (fun j => some (ad (c + 1 + j)))))))
  else .inr (1, fsL g)
def xE (ki : Nat → ClassId) (ad : Nat → Nat) (G : zMem) (tr : Int64) (c : Nat) : va_E := xE' ki ad (G c) tr c
theorem xE_loc {ki : Nat → ClassId} {ad : Nat → Nat} : zLoc (xE ki ad) := fun G tr c k v c' h => by unfold xE; rw [up2_ne G k v h]
theorem xE_trl {ki : Nat → ClassId} {ad : Nat → Nat} {G : zMem} {tr tr' : Int64} (c' : Nat) (h : c' ≠ 0) : xE ki ad G tr' c' = xE ki ad G tr c' := by unfold xE xE'; rw [if_neg h, if_neg h]
def isC (t : Nat) : Prop := t = 3 ∨ t = 8
def isL (t : Nat) : Prop := t = 13 ∨ t = 14 ∨ (18 ≤ t ∧ t < 122 ∧ 3 ≤ (t - 18) % 8)
def isMo (t : Nat) : Prop := 18 ≤ t ∧ t < 122 ∧ (t - 18) % 8 = 0
/-- all of the class's cells are there -/
def kW (cs : List Nat) : Prop := ∀ c, c < 122 → c ∈ cs
def kC (cs : List Nat) (t : Nat) : Prop := isC t ∧ ∀ i, i < 5 → t + i ∈ cs
def kL (cs : List Nat) (t : Nat) : Prop := isL t ∧ t ∈ cs
def kM (cs : List Nat) (t : Nat) : Prop := isMo t ∧ ∀ i, i < 8 → t + i ∈ cs
section xWorld
variable {ki : Nat → ClassId} {ad : Nat → Nat} {G : zMem} {tr : Int64} {cs : List Nat} {t : Nat}
theorem xE_W : xE ki ad G tr 0 = .inr (4, fsW ad tr (G 0)) := rfl
theorem xE_T : xE ki ad G tr 1 = .inr (3, fsT ad (G 1)) := rfl
theorem xE_2 : xE ki ad G tr 2 = .inl (ki 0, 200, .inl (G 2)) := rfl
theorem xE_15 : xE ki ad G tr 15 = .inl (ki 3, 10, .inr (.inr (.inr (.inr (fun j => some (ad (26 + 8 * j))))))) := rfl
theorem xE_16 : xE ki ad G tr 16 = .inl (ki 3, 2, .inr (.inr (.inr (.inr (fun j => some (ad (106 + 8 * j))))))) := rfl
theorem xE_17 : xE ki ad G tr 17 = .inl (ki 1, 2, .inl (G 17)) := rfl
theorem xE_C (h : kC cs t) : xE ki ad G tr t = .inr (0, fsC ad t (G t)) := by rcases h.1 with rfl | rfl <;> rfl
theorem xE_C1 (h : kC cs t) : xE ki ad G tr (t + 1) = .inl (ki 0, 6, .inl (G (t + 1))) := by rcases h.1 with rfl | rfl <;> rfl
theorem xE_C2 (h : kC cs t) : xE ki ad G tr (t + 2) = .inl (ki 0, 30, .inl (G (t + 2))) := by rcases h.1 with rfl | rfl <;> rfl
theorem xE_C3 (h : kC cs t) : xE ki ad G tr (t + 3) = .inl (ki 0, 12, .inl (G (t + 3))) := by rcases h.1 with rfl | rfl <;> rfl
theorem xE_C4 (h : kC cs t) : xE ki ad G tr (t + 4) = .inl (ki 0, 600, .inl (G (t + 4))) := by rcases h.1 with rfl | rfl <;> rfl
theorem xE_hi {c : Nat} {g : Nat → Int32} (h : 18 ≤ c) : xE' ki ad g tr c = (if (c - 18) % 8 = 0 then .inr (2, fsM ad c g) else if (c - 18) % 8 = 1 then .inl (ki 0, 12, .inl g) else if (c - 18) % 8 = 2 then .inl (ki 2, 5, .inr (.inr (.inr (.inr (fun j => some (ad (c + 1 + j))))))) else .inr (1, fsL g)) := by
  unfold xE'
  rw [if_neg (by omega), if_neg (by omega), if_neg (by omega), if_neg (by omega), if_neg (by omega), if_neg (by omega), if_neg (by omega), if_neg (by omega), if_neg (by omega), if_neg (by omega), if_neg (by omega), if_neg (by omega)]
theorem xE_L (h : kL cs t) : xE ki ad G tr t = .inr (1, fsL (G t)) := by
  rcases h.1 with rfl | rfl | ⟨h1, h2, h3⟩
  · rfl
  · rfl
  · unfold xE
    rw [xE_hi h1, if_neg (by omega), if_neg (by omega), if_neg (by omega)]
theorem xE_M (h : kM cs t) : xE ki ad G tr t = .inr (2, fsM ad t (G t)) := by
  obtain ⟨h1, h2, h3⟩ := h.1
  unfold xE
  rw [xE_hi h1, if_pos h3]
theorem xE_M1 (h : kM cs t) : xE ki ad G tr (t + 1) = .inl (ki 0, 12, .inl (G (t + 1))) := by
  obtain ⟨h1, h2, h3⟩ := h.1
  unfold xE
  rw [xE_hi (by omega), if_neg (by omega), if_pos (by omega)]
theorem xE_M2 (h : kM cs t) : xE ki ad G tr (t + 2) = .inl (ki 2, 5, .inr (.inr (.inr (.inr (fun j => some (ad (t + 3 + j))))))) := by
  obtain ⟨h1, h2, h3⟩ := h.1
  unfold xE
  rw [xE_hi (by omega), if_neg (by omega), if_neg (by omega), if_pos (by omega)]
theorem vp_in_lt {i : Int32} {n : Nat} (h : vp_in i n) : i.toNatClampNeg < n := by
  unfold vp_in at h
  exact Nat.lt_of_not_le (fun z => h (Or.inr z))
theorem kM_now (h : kW cs) : kM cs 18 := ⟨⟨by omega, by omega, by omega⟩, fun i hi => h _ (by omega)⟩
theorem kM_past (h : kW cs) {i : Int32} (hi : vp_in i 10) : kM cs (26 + 8 * i.toNatClampNeg) := by
  have := vp_in_lt hi
  exact ⟨⟨by omega, by omega, by omega⟩, fun i hi => h _ (by omega)⟩
theorem kM_image (h : kW cs) {i : Int32} (hi : vp_in i 2) : kM cs (106 + 8 * i.toNatClampNeg) := by
  have := vp_in_lt hi
  exact ⟨⟨by omega, by omega, by omega⟩, fun i hi => h _ (by omega)⟩
theorem kL_13 (h : kW cs) : kL cs 13 := ⟨Or.inl rfl, h _ (by omega)⟩
theorem kL_14 (h : kW cs) : kL cs 14 := ⟨Or.inr (Or.inl rfl), h _ (by omega)⟩
theorem kL_post (h : kM cs t) {i : Int32} (hi : vp_in i 5) : kL cs (t + 3 + i.toNatClampNeg) := by
  have := vp_in_lt hi
  obtain ⟨⟨h1, h2, h3⟩, h4⟩ := h
  refine ⟨Or.inr (Or.inr ⟨by omega, by omega, by omega⟩), ?_⟩
  rw [Nat.add_assoc]
  exact h4 _ (by omega)
theorem kL_now (h : kW cs) {i : Int32} (hi : vp_in i 5) : kL cs (21 + i.toNatClampNeg) := kL_post (kM_now h) hi
theorem kC_of (h : kW cs) (ht : isC t) : kC cs t := ⟨ht, fun i hi => h _ (by rcases ht with rfl | rfl <;> omega)⟩
theorem kC_3 (h : kW cs) : kC cs 3 := kC_of h (Or.inl rfl)
theorem kC_8 (h : kW cs) : kC cs 8 := kC_of h (Or.inr rfl)
end xWorld
/-- the chart that a field points at -/
def zch {α : Type} (v : Int32) (x : Option α) : Option α := if v = 3 ∨ v = 8 then x else none
theorem zch_some {α : Type} {v : Int32} {x : Option α} {r : α} (h : zch v x = some r) : isC v.toNatClampNeg ∧ x = some r := by
  unfold zch at h
  by_cases hc : v = 3 ∨ v = 8
  · rw [if_pos hc] at h
    exact ⟨by rcases hc with rfl | rfl; exact Or.inl rfl; exact Or.inr rfl, h⟩
  · rw [if_neg hc] at h; cases h
/-! ===== the reference's world ===== -/
abbrev fsR (ad : Nat → Nat) (tr : Int64) (g : Nat → Int32) : List Value := [.int (g 0), .long tr, .ref (ad 1), .int (g 3), .int (g 4), .int (g 5), .int (g 6), .int (g 7), .int (g 8), .ref (ad 2), .ref (ad 3), .ref (ad 4), .ref (ad 5), .int (g 13), .ref (ad 6), .ref (ad 7), .ref (ad 8), .ref (ad 9), .int (g 18), .ref (ad 10), .ref (ad 11), .ref (ad 12)]
def mLn (c : Nat) : Nat := if c = 1 then 200 else if c = 6 then 45 else if c = 7 then 90 else if c = 9 then 450 else if c = 10 then 6 else if c = 11 then 6 else if c = 12 then 30 else 12
def mE (ki : Nat → ClassId) (ad : Nat → Nat) (G : zMem) (tr : Int64) (c : Nat) : va_E :=
  if c = 0 then .inr (5, fsR ad tr (G c)) else if c = 8 then .inl (ki 1, 2, .inl (G c)) else .inl (ki 0, mLn c, .inl (G c))
theorem mE_loc {ki : Nat → ClassId} {ad : Nat → Nat} : zLoc (mE ki ad) := fun G tr c k v c' h => by unfold mE; rw [up2_ne G k v h]
theorem mE_trl {ki : Nat → ClassId} {ad : Nat → Nat} {G : zMem} {tr tr' : Int64} (c' : Nat) (h : c' ≠ 0) : mE ki ad G tr' c' = mE ki ad G tr c' := by unfold mE; rw [if_neg h, if_neg h]
def kR (cs : List Nat) : Prop := ∀ c, c < 13 → c ∈ cs
def kA (cs : List Nat) (t : Nat) : Prop := (t = 6 ∨ t = 10 ∨ t = 11) ∧ t ∈ cs
section mWorld
variable {ki : Nat → ClassId} {ad : Nat → Nat} {G : zMem} {tr : Int64} {cs : List Nat} {t : Nat}
theorem mE_R : mE ki ad G tr 0 = .inr (5, fsR ad tr (G 0)) := rfl
theorem mE_1 : mE ki ad G tr 1 = .inl (ki 0, 200, .inl (G 1)) := rfl
theorem mE_2 : mE ki ad G tr 2 = .inl (ki 0, 12, .inl (G 2)) := rfl
theorem mE_3 : mE ki ad G tr 3 = .inl (ki 0, 12, .inl (G 3)) := rfl
theorem mE_4 : mE ki ad G tr 4 = .inl (ki 0, 12, .inl (G 4)) := rfl
theorem mE_5 : mE ki ad G tr 5 = .inl (ki 0, 12, .inl (G 5)) := rfl
theorem mE_6 : mE ki ad G tr 6 = .inl (ki 0, 45, .inl (G 6)) := rfl
theorem mE_7 : mE ki ad G tr 7 = .inl (ki 0, 90, .inl (G 7)) := rfl
theorem mE_8 : mE ki ad G tr 8 = .inl (ki 1, 2, .inl (G 8)) := rfl
theorem mE_9 : mE ki ad G tr 9 = .inl (ki 0, 450, .inl (G 9)) := rfl
theorem mE_10 : mE ki ad G tr 10 = .inl (ki 0, 6, .inl (G 10)) := rfl
theorem mE_11 : mE ki ad G tr 11 = .inl (ki 0, 6, .inl (G 11)) := rfl
theorem mE_12 : mE ki ad G tr 12 = .inl (ki 0, 30, .inl (G 12)) := rfl
theorem mE_A (h : kA cs t) : mE ki ad G tr t = .inl (ki 0, mLn t, .inl (G t)) := by rcases h.1 with rfl | rfl | rfl <;> rfl
theorem kA_6 (h : kR cs) : kA cs 6 := ⟨Or.inl rfl, h _ (by omega)⟩
theorem kA_10 (h : kR cs) : kA cs 10 := ⟨Or.inr (Or.inl rfl), h _ (by omega)⟩
theorem kA_11 (h : kR cs) : kA cs 11 := ⟨Or.inr (Or.inr rfl), h _ (by omega)⟩
end mWorld
