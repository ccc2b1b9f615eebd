/-! ===== constructors: worlds as sets, a call beside a world ===== -/
def iA (a sz : Nat) : Nat → Prop := fun q => q = a ∨ sz ≤ q
theorem va_P_iff {D : va_G} {cl : List vw_C} {ws : va_W} {H : Heap} : va_P D cl ws H ↔ ∀ q ∈ ws, va_at D cl q H :=
  ⟨fun h q hq => (List.getElem?_of_mem hq).elim (fun k hk => h k q hk), fun h k q hk => h q (List.mem_of_getElem? hk)⟩
theorem va_D_iff {A : Nat → Prop} {ws : va_W} : va_D A ws ↔ (ws.map Prod.fst).Pairwise (fun a b => a ≠ b) ∧ ∀ q ∈ ws, A q.1 := by
  constructor
  · rintro ⟨h1, h2⟩
    refine ⟨?_, fun q hq => (List.getElem?_of_mem hq).elim (fun k hk => h2 k q hk)⟩
    rw [List.pairwise_iff_getElem]
    intro i j hi hj hij he
    have hi' : i < ws.length := by simpa using hi
    have hj' : j < ws.length := by simpa using hj
    rw [List.getElem_map, List.getElem_map] at he
    have := h1 i j ws[i] ws[j] (List.getElem?_eq_getElem hi') (List.getElem?_eq_getElem hj') he
    omega
  · rintro ⟨h1, h2⟩
    rw [List.pairwise_iff_getElem] at h1
    refine ⟨fun i j p q hi hj he => ?_, fun k q hk => h2 q (List.mem_of_getElem? hk)⟩
    obtain ⟨hi', e1⟩ := List.getElem?_eq_some_iff.mp hi
    obtain ⟨hj', e2⟩ := List.getElem?_eq_some_iff.mp hj
    rcases Nat.lt_trichotomy i j with h | h | h
    · exact absurd (by rw [List.getElem_map, List.getElem_map, e1, e2]; exact he) (h1 i j (by simpa using hi') (by simpa using hj') h)
    · exact h
    · exact absurd (by rw [List.getElem_map, List.getElem_map, e1, e2]; exact he.symm) (h1 j i (by simpa using hj') (by simpa using hi') h)
theorem va_P.perm {D : va_G} {cl : List vw_C} {ws ws' : va_W} {H : Heap} (hP : va_P D cl ws H) (h : ws.Perm ws') : va_P D cl ws' H := va_P_iff.mpr fun q hq => va_P_iff.mp hP q (h.mem_iff.mpr hq)
theorem va_D.perm {A : Nat → Prop} {ws ws' : va_W} (hD : va_D A ws) (h : ws.Perm ws') : va_D A ws' := by
  rw [va_D_iff] at *
  exact ⟨((h.map _).pairwise_iff (fun h => Ne.symm h)).mp hD.1, fun q hq => hD.2 q (h.mem_iff.mpr hq)⟩
theorem i_join {A0 : Nat → Prop} {D : va_G} {cl : List vw_C} {blk w1 : va_W} {a : Nat} {e : va_E} {H H1 : Heap} (hP : va_P D cl ((a, e) :: blk) H) (hD : va_D A0 ((a, e) :: blk)) (hk : ∀ q : Nat, q < H.size → ¬ iA a H.size q → H1[q]? = H[q]?) (hA : ∀ q, iA a H.size q → A0 q) (hP1 : va_P D cl w1 H1) (hD1 : va_D (iA a H.size) w1) : va_P D cl (w1 ++ blk) H1 ∧ va_D A0 (w1 ++ blk) := by
  rw [va_P_iff] at *
  rw [va_D_iff] at *
  rw [List.map_cons, List.pairwise_cons] at hD
  have hb : ∀ q ∈ blk, q.1 < H.size ∧ q.1 ≠ a := fun q hq => ⟨(hP q (List.mem_cons_of_mem _ hq)).lt, fun he => hD.1.1 q.1 (List.mem_map.mpr ⟨q, hq, rfl⟩) he.symm⟩
  refine ⟨fun q hq => ?_, ?_, fun q hq => ?_⟩
  · rcases List.mem_append.mp hq with h | h
    · exact hP1 q h
    · exact (hP q (List.mem_cons_of_mem _ h)).kept (hk q.1 (hb q h).1 (fun z => z.elim (hb q h).2 (fun z => absurd (hb q h).1 (Nat.not_lt.mpr z))))
  · rw [List.map_append, List.pairwise_append]
    refine ⟨hD1.1, hD.1.2, fun x hx y hy he => ?_⟩
    obtain ⟨q, hq, rfl⟩ := List.mem_map.mp hx
    obtain ⟨q', hq', rfl⟩ := List.mem_map.mp hy
    have hq2 := hb q' hq'
    rcases hD1.2 q hq with h | h
    · exact hq2.2 (he.symm.trans h)
    · rw [he] at h; omega
  · rcases List.mem_append.mp hq with h | h
    · exact hA _ (hD1.2 q h)
    · exact hD.2 q (List.mem_cons_of_mem _ h)
def iK (D : va_G) (ki : Nat → ClassId) (U : State) : Prop := va_K D vwCl (zT ki) U ∧ nK U ∧ va_AO RX1 U ∧ va_AO RX2 U
theorem iK_blind {D : va_G} {ki : Nat → ClassId} {U : State} (g : JFrame) (mk : MethodId) (a : Array Value) (h : iK D ki U) : True := trivial
theorem iK_warm {D : va_G} {ki : Nat → ClassId} {s U : State} (hW : s.WarmedH U.vm) (h : iK D ki s) : iK D ki U := ⟨va_K.moved hW.alike h.1, nK_warm hW h.2.1, va_AO.moved hW.alike h.2.2.1, va_AO.moved hW.alike h.2.2.2⟩
theorem iK_same {D : va_G} {ki : Nat → ClassId} {u U : State} (e : u.vm = U.vm) (h : iK D ki u) : iK D ki U := ⟨va_K.moved (u := u) (U := U) (e ▸ Vm.Alike.refl u.vm) h.1, nK_same (u := u) (U := U) e h.2.1, va_AO.moved (u := u) (e ▸ Vm.Alike.refl u.vm) h.2.2.1, va_AO.moved (u := u) (e ▸ Vm.Alike.refl u.vm) h.2.2.2⟩
theorem zK_int {D : va_G} {ki : Nat → ClassId} {s : State} {cA : ClassId} (h : va_K D vwCl (zT ki ++ [(cA, .int)]) s) : cA = ki 0 := Option.some.inj ((show s.vm.findClass ("[" ++ FieldType.int.toString) = some cA from (h.2 4 _ rfl).2).symm.trans (show s.vm.findClass ("[" ++ FieldType.int.toString) = some (ki 0) from (h.2 0 _ rfl).2))
theorem zK_bool {D : va_G} {ki : Nat → ClassId} {s : State} {cA : ClassId} (h : va_K D vwCl (zT ki ++ [(cA, .boolean)]) s) : cA = ki 1 := Option.some.inj ((show s.vm.findClass ("[" ++ FieldType.boolean.toString) = some cA from (h.2 4 _ rfl).2).symm.trans (show s.vm.findClass ("[" ++ FieldType.boolean.toString) = some (ki 1) from (h.2 1 _ rfl).2))
theorem zK_let {D : va_G} {ki : Nat → ClassId} {s : State} {cA : ClassId} (h : va_K D vwCl (zT ki ++ [(cA, .object RX1)]) s) : cA = ki 2 := by
  obtain ⟨-, -, -, -, -, e1⟩ := (h.2 4 _ rfl).2
  obtain ⟨-, -, -, -, -, e2⟩ := (h.2 2 _ rfl).2
  exact Option.some.inj (e1.symm.trans e2)
theorem zK_mom {D : va_G} {ki : Nat → ClassId} {s : State} {cA : ClassId} (h : va_K D vwCl (zT ki ++ [(cA, .object RX2)]) s) : cA = ki 3 := by
  obtain ⟨-, -, -, -, -, e1⟩ := (h.2 4 _ rfl).2
  obtain ⟨-, -, -, -, -, e2⟩ := (h.2 3 _ rfl).2
  exact Option.some.inj (e1.symm.trans e2)
def iB (D : va_G) (ki : Nat → ClassId) (h0 : Nat) (e0 : va_E) (sz : Nat) : State → Prop := fun U => U.heap.size = sz ∧ iK D ki U ∧ va_P D vwCl [(h0, e0)] U.heap
def iQ (D : va_G) (n : Nat) (E : (Nat → Nat) → Nat → va_E) (h0 sz : Nat) : Array Value → State → Outcome → State → Prop := va_Qv (S := Nat → Nat) (fun am => am 0 = h0) (fun am t => va_P D vwCl (gW (List.range n) am (E am)) t.heap ∧ va_D (iA h0 sz) (gW (List.range n) am (E am))) (iA h0 sz)
def iMet (l : Launch) (D : va_G) (ki : Nat → ClassId) (y : MethodName) (ws : List Cond) (rm : Room) (h0 : Nat) (e0 : va_E) (n : Nat) (E : (Nat → Nat) → Nat → va_E) (mc ms : Nat) : Prop :=
  ∀ sz : Nat, Met l y ws rm (va_Pc [.ref h0] (iB D ki h0 e0 sz)) (iQ D n E h0 sz) mc ms (iA h0 sz)
theorem iB_blind {D : va_G} {ki : Nat → ClassId} {h0 : Nat} {e0 : va_E} {sz : Nat} {av : List Value} : FrameBlind (va_Pc av (iB D ki h0 e0 sz)) := fun a U g mk q => by
  obtain ⟨q0, q1, qK, qP⟩ := q
  exact ⟨q0, q1, iK_same (u := U) (U := U.calling g mk a) rfl qK, qP⟩
theorem iMet_of {l : Launch} {D : va_G} {ki : Nat → ClassId} {y : MethodName} {ws ws' : List Cond} {rm : Room} {h0 : Nat} {e0 : va_E} {n : Nat} {E : (Nat → Nat) → Nat → va_E} {mc ms maxL : Nat} {cc : ByteArray} {own : String} (hy : plainFor y = true) (hown : y.cls = own) (hn : y.name = "<init>") (hw : ws = Cond.code y cc maxL none :: ws') (hen : (lg_sl [Value.ref h0]).length ≤ maxL)
    (body : ∀ (p : Program) (e : Env) (s : State) (m : MethodId) (below : List Frame) (meth : Method) (c : Code), CallFix p m c cc maxL s ([.ref h0] : List Value).toArray ws own → meth.sig.returnType = none → meth.locks = false → meth.name = "<init>" → iK D ki s → va_P D vwCl [(h0, e0)] s.heap → va_D (iA h0 s.heap.size) [(h0, e0)] → (∀ q : Nat, s.heap.size ≤ q → iA h0 s.heap.size q) → va_S (iA h0 s.heap.size) s.heap s.heap [] → ∀ ls : Array Slot, lv_has ls maxL [(0, .ref h0)] →
      W p l e (headSpec ws rm).room s m ([.ref h0] : List Value).toArray below meth c s.heap [] 0 0 (MQ below (iQ D n E h0 s.heap.size) ([.ref h0] : List Value).toArray s mc ms (iA h0 s.heap.size)) (F0 m 0 ls [])) : iMet l D ki y ws rm h0 e0 n E mc ms := by
  intro sz
  refine va_MetF (cc := cc) (maxL := maxL) (ret := none) hy hw ?_
  intro p e s m args below meth c s₁ B hml hv
  obtain ⟨rfl, rfl, hK, hP⟩ := hv
  rw [lg_entry_eq]
  exact body p e s m below meth c ⟨B.exec, B.bytes, hml, by rw [← hown]; exact findClass_of_methodNamed B.named, atoms_spec (ws := ws) B.pre⟩ B.returns B.notSynchronized ((name_of_methodNamed B.named B.method).1.trans hn) hK hP (va_D_iff.mpr ⟨List.pairwise_singleton _ _, fun q hq => by rw [List.mem_singleton.mp hq]; exact Or.inl rfl⟩) (fun q h => Or.inr h) va_S.rf _ (lv_entry [.ref h0] hen)
section iRows
variable {p : Program} {l : Launch} {e : Env} {R : Room} {s : State} {m : MethodId} {args : Array Value} {below : List Frame} {meth : Method} {c : Code} {H : Heap} {locs : List Loc} {cells slots : Nat} {Q : State → Prop}
variable {cc : ByteArray} {nL pc : Nat} {ls : Array Slot} {rest : List Value} {D : va_G} {ki : Nat → ClassId} {A0 : Nat → Prop} {Ts : List Cond} {own : String} {blk : va_W} {a : Nat} {e0 : va_E}
variable {y : MethodName} {ws : List Cond} {rm : Room} {n : Nat} {E : (Nat → Nat) → Nat → va_E} {mc ms index maxL : Nat} {bytes : ByteArray} {host : String}
theorem i_ctor (S : CallFix p m c cc nL s args Ts own) (K : iK D ki s) (hP : va_P D vwCl ((a, e0) :: blk) H) (hD : va_D A0 ((a, e0) :: blk)) (hS : va_S A0 s.heap H locs) (hA : ∀ q, s.heap.size ≤ q → A0 q) (hM : iMet l D ki y ws rm a e0 n E mc ms) (cw : CallB R s args own index y bytes maxL none ws rm mc ms 0 ∧ y.name = "<init>" ∧ (Cond.instanceMethod y).before args s = true) (hsize : ls.size = nL) (hW : 2 * (F0 m pc ls (.ref a :: rest)).monitorRoom + (rest.map fun v => v.category).sum ≤ 8) (hdg : decode cc pc = .ok (.invokespecial index, 3)) (hf : cells + mc ≤ R.cells ∧ slots + ms ≤ R.slots)
    (kk : ∀ (am : Nat → Nat) (H1 : Heap) (locs1 : List Loc), am 0 = a → va_P D vwCl (gW (List.range n) am (E am) ++ blk) H1 → va_D A0 (gW (List.range n) am (E am) ++ blk) → va_S A0 s.heap H1 locs1 → W p l e R s m args below meth c H1 locs1 (cells + mc) (slots + ms) Q (F0 m (pc + 3) ls rest)) : W p l e R s m args below meth c H locs cells slots Q (F0 m pc ls (.ref a :: rest)) := by
  have hA0 : A0 a := hD.2 0 (a, e0) rfl
  have hf' : ∀ q, iA a H.size q → A0 q := fun q h => h.elim (fun e => e ▸ hA0) (fun h => hA q (Nat.le_trans hS.1 h))
  refine va_callv (va_runI (As := []) (rest := rest) S (hM H.size) cw ⟨iB_blind, fun U hU hW => ⟨rfl, by rw [hU], iK_warm hW K, by rw [hU]; exact hP.sub [0] rfl⟩⟩ rfl rfl hsize rfl hW hdg hf) hS (fun q _ h => hf' q h) hf' (fun am t H1 locs1 ht hvm hw hB hz1 hk1 hS1 => ?_)
  obtain ⟨hP1, hD1⟩ := hB
  rw [ht] at hP1
  obtain ⟨hP2, hD2⟩ := i_join hP hD hk1 hf' hP1 hD1
  exact kk am H1 locs1 hw hP2 hD2 hS1
theorem i_ctorN (S : CallFix p m c cc nL s args Ts own) (K : iK D ki s) (hP : va_P D vwCl ((a, e0) :: blk) H) (hD : va_D A0 ((a, e0) :: blk)) (hS : va_S A0 s.heap H locs) (hA : ∀ q, s.heap.size ≤ q → A0 q) (hM : iMet l D ki y ws rm a e0 n E mc ms) (cw : va_CN R s args own index y host bytes maxL none ws rm mc ms 0 ∧ y.name = "<init>" ∧ (Cond.instanceMethod y).before args s = true) (hsize : ls.size = nL) (hW : 2 * (F0 m pc ls (.ref a :: rest)).monitorRoom + (rest.map fun v => v.category).sum ≤ 8) (hdg : decode cc pc = .ok (.invokespecial index, 3)) (hf : cells + mc ≤ R.cells ∧ slots + ms ≤ R.slots)
    (kk : ∀ (am : Nat → Nat) (H1 : Heap) (locs1 : List Loc), am 0 = a → va_P D vwCl (gW (List.range n) am (E am) ++ blk) H1 → va_D A0 (gW (List.range n) am (E am) ++ blk) → va_S A0 s.heap H1 locs1 → W p l e R s m args below meth c H1 locs1 (cells + mc) (slots + ms) Q (F0 m (pc + 3) ls rest)) : W p l e R s m args below meth c H locs cells slots Q (F0 m pc ls (.ref a :: rest)) := by
  have hA0 : A0 a := hD.2 0 (a, e0) rfl
  have hf' : ∀ q, iA a H.size q → A0 q := fun q h => h.elim (fun e => e ▸ hA0) (fun h => hA q (Nat.le_trans hS.1 h))
  refine va_callv (va_runIN (As := []) (rest := rest) S (hM H.size) cw ⟨iB_blind, fun U hU hW => ⟨rfl, by rw [hU], iK_warm hW K, by rw [hU]; exact hP.sub [0] rfl⟩⟩ rfl rfl hsize rfl hW hdg hf) hS (fun q _ h => hf' q h) hf' (fun am t H1 locs1 ht hvm hw hB hz1 hk1 hS1 => ?_)
  obtain ⟨hP1, hD1⟩ := hB
  rw [ht] at hP1
  obtain ⟨hP2, hD2⟩ := i_join hP hD hk1 hf' hP1 hD1
  exact kk am H1 locs1 hw hP2 hD2 hS1
/-- a new object, put ahead of the world -/
theorem i_new {C : String} {T : u_T} {N ci : Nat} (S : CallFix p m c cc nL s args Ts own) (K : iK D ki s) (hP : va_P D vwCl blk H) (hD : va_D A0 blk) (hS : va_S A0 s.heap H locs) (hA : ∀ q, s.heap.size ≤ q → A0 q) (hin : ∀ w ∈ u_ws C T N, w ∈ Ts) (ty : Nat → FieldType) (hty : ∀ k, k < N → parseFieldDescriptor (T k).2.2.1 = some (ty k)) (hcl : Cond.classLink own index C ∈ Ts) (hinst : Cond.instantiable C N ∈ Ts) (hini : Cond.initialized C ∈ Ts) (hc : vwCl[ci]? = some (C, T, N)) {fs : List Value} (hfs : ∀ j, j < N → defaultValue (ty j) = vp_V fs j) (hcells : cells + 1 ≤ R.cells) (hslots : slots + N ≤ R.slots) (hdg : decode cc pc = .ok (.new index, 3))
    (kk : ∀ (q : Nat) (H1 : Heap), va_P D vwCl ((q, .inr (ci, fs)) :: blk) H1 → va_D A0 ((q, .inr (ci, fs)) :: blk) → va_S A0 s.heap H1 locs → W p l e R s m args below meth c H1 locs (cells + 1) (slots + N) Q (F0 m (pc + 3) ls (.ref q :: rest))) : W p l e R s m args below meth c H locs cells slots Q (F0 m pc ls rest) := by
  refine va_new (ci := ci) (fs := fs) (C := C) (T := T) (N := N) S.1 S.2.1 S.2.2.2.2 hin ty hty S.2.2.2.1 (S.2.2.2.2 _ hcl) (S.2.2.2.2 _ hinst) (S.2.2.2.2 _ hini) K.1 hP hD hS hA hc hfs hcells hslots hdg (fun q H1 hP hD hS => ?_)
  exact kk q H1 (hP.perm (List.perm_append_comm)) (hD.perm (List.perm_append_comm)) hS
/-- a new row of ints, put ahead of the world -/
theorem i_newi {k : Int32} {N' : Nat} (S : CallFix p m c cc nL s args Ts own) (K : iK D ki s) (hP : va_P D vwCl blk H) (hD : va_D A0 blk) (hS : va_S A0 s.heap H locs) (hA : ∀ q, s.heap.size ≤ q → A0 q) (harr : Cond.arrayClass .int ∈ Ts) (hn : ¬ k < 0) (hN : k.toNatClampNeg = N') (hbytes : N' * 4 ≤ 536870912) (hcells : cells + 1 ≤ R.cells) (hslots : slots + N' ≤ R.slots) (hdg : decode cc pc = .ok (.newarray .int, 2))
    (kk : ∀ (q : Nat) (H1 : Heap), va_P D vwCl ((q, .inl (ki 0, N', .inl (fun _ => 0))) :: blk) H1 → va_D A0 ((q, .inl (ki 0, N', .inl (fun _ => 0))) :: blk) → va_S A0 s.heap H1 locs → W p l e R s m args below meth c H1 locs (cells + 1) (slots + N') Q (F0 m (pc + 2) ls (.ref q :: rest))) : W p l e R s m args below meth c H locs cells slots Q (F0 m pc ls (.int k :: rest)) := by
  refine va_newa (atype := .int) (a0 := (N', .inl (fun _ => 0))) S.1 S.2.1 (S.2.2.2.2 _ harr) (ty := .int) rfl K.1 hP hD hS hA (fun _ => rfl) hn hN hbytes hcells hslots hdg (fun q cA H1 hK hP hD hS => ?_)
  rw [zK_int hK] at hP hD
  exact kk q H1 (hP.perm (List.perm_append_comm)) (hD.perm (List.perm_append_comm)) hS
theorem i_newz {k : Int32} {N' : Nat} (S : CallFix p m c cc nL s args Ts own) (K : iK D ki s) (hP : va_P D vwCl blk H) (hD : va_D A0 blk) (hS : va_S A0 s.heap H locs) (hA : ∀ q, s.heap.size ≤ q → A0 q) (harr : Cond.arrayClass .boolean ∈ Ts) (hn : ¬ k < 0) (hN : k.toNatClampNeg = N') (hbytes : N' * 1 ≤ 536870912) (hcells : cells + 1 ≤ R.cells) (hslots : slots + N' ≤ R.slots) (hdg : decode cc pc = .ok (.newarray .boolean, 2))
    (kk : ∀ (q : Nat) (H1 : Heap), va_P D vwCl ((q, .inl (ki 1, N', .inl (fun _ => 0))) :: blk) H1 → va_D A0 ((q, .inl (ki 1, N', .inl (fun _ => 0))) :: blk) → va_S A0 s.heap H1 locs → W p l e R s m args below meth c H1 locs (cells + 1) (slots + N') Q (F0 m (pc + 2) ls (.ref q :: rest))) : W p l e R s m args below meth c H locs cells slots Q (F0 m pc ls (.int k :: rest)) := by
  refine va_newa (atype := .boolean) (a0 := (N', .inl (fun _ => 0))) S.1 S.2.1 (S.2.2.2.2 _ harr) (ty := .boolean) rfl K.1 hP hD hS hA (fun _ => rfl) hn hN hbytes hcells hslots hdg (fun q cA H1 hK hP hD hS => ?_)
  rw [zK_bool hK] at hP hD
  exact kk q H1 (hP.perm (List.perm_append_comm)) (hD.perm (List.perm_append_comm)) hS
/-- a new row of references -/
theorem i_newq {k : Int32} {N' t0 : Nat} {C : String} (S : CallFix p m c cc nL s args Ts own) (K : iK D ki s) (hP : va_P D vwCl blk H) (hD : va_D A0 blk) (hS : va_S A0 s.heap H locs) (hA : ∀ q, s.heap.size ≤ q → A0 q) (hcl : Cond.classLink own index C ∈ Ts) (hao : va_AO C s) (hki : ∀ cA, va_K D vwCl (zT ki ++ [(cA, .object C)]) s → cA = ki t0) (hn : ¬ k < 0) (hN : k.toNatClampNeg = N') (hbytes : N' * 4 ≤ 536870912) (hcells : cells + 1 ≤ R.cells) (hslots : slots + N' ≤ R.slots) (hdg : decode cc pc = .ok (.anewarray index, 3))
    (kk : ∀ (q : Nat) (H1 : Heap), va_P D vwCl ((q, .inl (ki t0, N', .inr (.inr (.inr (.inr (fun _ => none)))))) :: blk) H1 → va_D A0 ((q, .inl (ki t0, N', .inr (.inr (.inr (.inr (fun _ => none)))))) :: blk) → va_S A0 s.heap H1 locs → W p l e R s m args below meth c H1 locs (cells + 1) (slots + N') Q (F0 m (pc + 3) ls (.ref q :: rest))) : W p l e R s m args below meth c H locs cells slots Q (F0 m pc ls (.int k :: rest)) := by
  refine va_newq S.1 S.2.1 S.2.2.2.1 (S.2.2.2.2 _ hcl) hao K.1 hP hD hS hA hn hN hbytes hcells hslots hdg (fun q cA H1 hK hP hD hS => ?_)
  rw [hki cA hK] at hP hD
  exact kk q H1 (hP.perm (List.perm_append_comm)) (hD.perm (List.perm_append_comm)) hS
/-- a final field, in the constructor -/
theorem i_putF {C nm ds : String} {T : u_T} {N ci : Nat} {v : Value} {fs : List Value} {ty : FieldType} {wl : va_W} (S : CallFix p m c cc nL s args Ts own) (K : iK D ki s) (hin2 : meth.name = "<init>") (hP : va_P D vwCl wl H) (hD : va_D A0 wl) (hS : va_S A0 s.heap H locs) (q0 : Nat) (he : wl[q0]? = some (a, .inr (ci, fs))) (hc : vwCl[ci]? = some (C, T, N)) (hin : ∀ w ∈ u_ws C T N, w ∈ Ts) (ty0 : Nat → FieldType) (hty : ∀ k, k < N → parseFieldDescriptor (T k).2.2.1 = some (ty0 k)) (hnm : ∀ a, a < N → ∀ b, b < N → a ≠ b → (T a).2.1 ≠ (T b).2.1) (k : Nat) (hk : k < N) (hl : Cond.fieldLink own index own nm ds ∈ Ts) (hT : T k = (own, nm, ds, true)) (hd : parseFieldDescriptor ds = some ty) (hn : narrow ty v = v) (hfit : fits ty v = true) (hlen : k < fs.length) (hdg : decode cc pc = .ok (.putfield index, 3))
    (kk : ∀ (H1 : Heap) (locs1 : List Loc), va_P D vwCl (wl.set q0 (a, .inr (ci, fs.set k v))) H1 → va_D A0 (wl.set q0 (a, .inr (ci, fs.set k v))) → va_S A0 s.heap H1 locs1 → W p l e R s m args below meth c H1 locs1 cells slots Q (F0 m (pc + 3) ls rest)) : W p l e R s m args below meth c H locs cells slots Q (F0 m pc ls (v :: .ref a :: rest)) := by
  have h2 : (T k).2.1 = nm := by rw [hT]
  have h3 : (T k).2.2.1 = ds := by rw [hT]
  exact va_putF (ref := own) S.1 S.2.1 S.2.2.2.2 hin ty0 hty hnm S.2.2.2.1 K.1 hP hD hS q0 he hc k hk (index := index) (by rw [h2, h3]; exact S.2.2.2.2 _ hl) (fun x h9 => by rw [hT] at h9 ⊢; exact h9) (by rw [hT]) hin2 (by rw [hT]) (ty := ty) (by rw [h3]; exact hd) hn hfit hlen hdg kk
theorem i_put {C nm ds : String} {T : u_T} {N ci : Nat} {v : Value} {fs : List Value} {ty : FieldType} {wl : va_W} (S : CallFix p m c cc nL s args Ts own) (K : iK D ki s) (hP : va_P D vwCl wl H) (hD : va_D A0 wl) (hS : va_S A0 s.heap H locs) (q0 : Nat) (he : wl[q0]? = some (a, .inr (ci, fs))) (hc : vwCl[ci]? = some (C, T, N)) (hin : ∀ w ∈ u_ws C T N, w ∈ Ts) (ty0 : Nat → FieldType) (hty : ∀ k, k < N → parseFieldDescriptor (T k).2.2.1 = some (ty0 k)) (hnm : ∀ a, a < N → ∀ b, b < N → a ≠ b → (T a).2.1 ≠ (T b).2.1) (k : Nat) (hk : k < N) (hl : Cond.fieldLink own index own nm ds ∈ Ts) (hT : T k = (own, nm, ds, false)) (hd : parseFieldDescriptor ds = some ty) (hn : narrow ty v = v) (hfit : fits ty v = true) (hlen : k < fs.length) (hdg : decode cc pc = .ok (.putfield index, 3))
    (kk : ∀ (H1 : Heap) (locs1 : List Loc), va_P D vwCl (wl.set q0 (a, .inr (ci, fs.set k v))) H1 → va_D A0 (wl.set q0 (a, .inr (ci, fs.set k v))) → va_S A0 s.heap H1 locs1 → W p l e R s m args below meth c H1 locs1 cells slots Q (F0 m (pc + 3) ls rest)) : W p l e R s m args below meth c H locs cells slots Q (F0 m pc ls (v :: .ref a :: rest)) := by
  have h2 : (T k).2.1 = nm := by rw [hT]
  have h3 : (T k).2.2.1 = ds := by rw [hT]
  exact va_put (ref := own) S.1 S.2.1 S.2.2.2.2 hin ty0 hty hnm S.2.2.2.1 K.1 hP hD hS q0 he hc k hk (index := index) (by rw [h2, h3]; exact S.2.2.2.2 _ hl) (fun x h9 => by rw [hT] at h9 ⊢; exact h9) (by rw [hT]) (ty := ty) (by rw [h3]; exact hd) hn hfit hlen hdg kk
theorem i_get {C nm ds : String} {T : u_T} {N ci : Nat} {v : Value} {fs : List Value} {fin : Bool} {wl : va_W} (S : CallFix p m c cc nL s args Ts own) (K : iK D ki s) (hP : va_P D vwCl wl H) (q0 : Nat) (he : wl[q0]? = some (a, .inr (ci, fs))) (hc : vwCl[ci]? = some (C, T, N)) (hin : ∀ w ∈ u_ws C T N, w ∈ Ts) (k : Nat) (hk : k < N) (hl : Cond.fieldLink own index own nm ds ∈ Ts) (hT : T k = (own, nm, ds, fin)) (hv : fs[k]? = some v) (hdg : decode cc pc = .ok (.getfield index, 3))
    (kk : W p l e R s m args below meth c H locs cells slots Q (F0 m (pc + 3) ls (v :: rest))) : W p l e R s m args below meth c H locs cells slots Q (F0 m pc ls (.ref a :: rest)) := by
  have h2 : (T k).2.1 = nm := by rw [hT]
  have h3 : (T k).2.2.1 = ds := by rw [hT]
  exact va_get (ref := own) S.1 S.2.1 S.2.2.2.2 hin S.2.2.2.1 K.1 hP q0 he hc k hk (index := index) (by rw [h2, h3]; exact S.2.2.2.2 _ hl) (fun x h9 => by rw [hT] at h9 ⊢; exact h9) hv hdg kk
theorem i_obj (S : CallFix p m c cc nL s args Ts own) (hsize : ls.size = nL) (h1 : Cond.methodLink own index objectInit ∈ Ts) (h2 : Cond.instanceMethod objectInit ∈ Ts) (h3 : Cond.code objectInit ⟨#[0xb1]⟩ 1 none ∈ Ts) (hdg : decode cc pc = .ok (.invokespecial index, 3)) (hfr : 1 ≤ R.frames) (hlo : 2 * (F0 m pc ls (.ref a :: rest)).monitorRoom + (rest.map fun v => v.category).sum + 12 ≤ R.locals)
    (kk : W p l e R s m args below meth c H locs cells slots Q (F0 m (pc + 3) ls rest)) : W p l e R s m args below meth c H locs cells slots Q (F0 m pc ls (.ref a :: rest)) := by
  refine W.objInit S.1 S.2.1 S.2.2.2.1 (S.2.2.2.2 _ h1) (S.2.2.2.2 _ h2) (S.2.2.2.2 _ h3) rfl (by rw [S.2.2.1]; exact hsize) rfl hdg hfr hlo ?_
  exact kk
theorem i_vret {h0 : Nat} {am : Nat → Nat} {mc ms : Nat} (S : CallFix p m c cc nL s args Ts own) (hr : meth.sig.returnType = none) (hlk : meth.locks = false) (h : am 0 = h0) (hP : va_P D vwCl (gW (List.range n) am (E am)) H) (hD : va_D (iA h0 s.heap.size) (gW (List.range n) am (E am))) (hS : va_S (iA h0 s.heap.size) s.heap H locs) (hdg : decode cc pc = .ok (.return_, 1)) : W p l e R s m args below meth c H locs mc ms (MQ below (iQ D n E h0 s.heap.size) args s mc ms (iA h0 s.heap.size)) (F0 m pc ls []) :=
  W.vret S.1 S.2.1 hr (fun t ht hW => ⟨⟨am, rfl, h, by show va_P _ _ _ t.heap; rw [ht]; exact hP, hD⟩, hS.F ht⟩) hS.2.2 hdg hlk
end iRows
/-! ===== a call of a method with a contract of the flat memory, beside another world ===== -/
theorem va_P.left {D : va_G} {cl : List vw_C} {w1 w2 : va_W} {H : Heap} (h : va_P D cl (w1 ++ w2) H) : va_P D cl w1 H := va_P_iff.mpr fun q hq => va_P_iff.mp h q (List.mem_append_left _ hq)
theorem va_P.right {D : va_G} {cl : List vw_C} {w1 w2 : va_W} {H : Heap} (h : va_P D cl (w1 ++ w2) H) : va_P D cl w2 H := va_P_iff.mpr fun q hq => va_P_iff.mp h q (List.mem_append_right _ hq)
theorem va_D.left {A : Nat → Prop} {w1 w2 : va_W} (h : va_D A (w1 ++ w2)) : va_D A w1 := by
  rw [va_D_iff] at *
  rw [List.map_append, List.pairwise_append] at h
  exact ⟨h.1.1, fun q hq => h.2 q (List.mem_append_left _ hq)⟩
theorem va_D.addr {A : Nat → Prop} {ws ws' : va_W} (h : va_D A ws) (e : ws'.map Prod.fst = ws.map Prod.fst) : va_D A ws' := by
  rw [va_D_iff] at *
  refine ⟨by rw [e]; exact h.1, fun q hq => ?_⟩
  have h1 : q.1 ∈ ws.map Prod.fst := by rw [← e]; exact List.mem_map.mpr ⟨q, hq, rfl⟩
  obtain ⟨q', hq', e'⟩ := List.mem_map.mp h1
  rw [← e']
  exact h.2 q' hq'
theorem gW_fst {cs : List Nat} {ad : Nat → Nat} {E : Nat → va_E} : (gW cs ad E).map Prod.fst = cs.map ad := by
  unfold gW
  rw [List.map_map]
  rfl
theorem gW_mem {cs : List Nat} {ad : Nat → Nat} {E : Nat → va_E} {c : Nat} (h : c ∈ cs) : (ad c, E c) ∈ gW cs ad E := List.mem_map.mpr ⟨c, h, rfl⟩
theorem g_side {D : va_G} {A0 : Nat → Prop} {cs : List Nat} {ad : Nat → Nat} {E : Nat → va_E} {w2 : va_W} {H : Heap} (hP : va_P D vwCl (gW cs ad E ++ w2) H) (hD : va_D A0 (gW cs ad E ++ w2)) : ∀ q ∈ w2, q.1 < H.size ∧ ¬ gA cs ad H.size q.1 := by
  intro q hq
  have hlt := (va_P_iff.mp hP q (List.mem_append_right _ hq)).lt
  refine ⟨hlt, fun h => ?_⟩
  rcases h with ⟨c, hc, he⟩ | h
  · have h2 := (va_D_iff.mp hD).1
    rw [List.map_append, List.pairwise_append, gW_fst] at h2
    exact h2.2.2 (ad c) (List.mem_map.mpr ⟨c, hc, rfl⟩) q.1 (List.mem_map.mpr ⟨q, hq, rfl⟩) he.symm
  · omega
theorem g_back {D : va_G} {A0 : Nat → Prop} {cs : List Nat} {ad : Nat → Nat} {E E' : Nat → va_E} {w2 : va_W} {H H1 : Heap} (hP : va_P D vwCl (gW cs ad E ++ w2) H) (hD : va_D A0 (gW cs ad E ++ w2)) (hk : ∀ q : Nat, q < H.size → ¬ gA cs ad H.size q → H1[q]? = H[q]?) (hB : va_P D vwCl (gW cs ad E') H1) : va_P D vwCl (gW cs ad E' ++ w2) H1 ∧ va_D A0 (gW cs ad E' ++ w2) := by
  refine ⟨hB.app (va_P_iff.mpr fun q hq => ?_), hD.addr (by rw [List.map_append, List.map_append, gW_fst, gW_fst])⟩
  have h := g_side hP hD q hq
  exact (va_P_iff.mp hP q (List.mem_append_right _ hq)).kept (hk q.1 h.1 h.2)
theorem g_free {A0 : Nat → Prop} {cs : List Nat} {ad : Nat → Nat} {E : Nat → va_E} {w2 : va_W} {H0 H : Heap} {locs : List Loc} (hD : va_D A0 (gW cs ad E ++ w2)) (hS : va_S A0 H0 H locs) (hA : ∀ q, H0.size ≤ q → A0 q) : ∀ q, gA cs ad H.size q → A0 q := by
  intro q h
  rcases h with ⟨c, hc, rfl⟩ | h
  · exact (va_D_iff.mp hD).2 (ad c, E c) (List.mem_append_left _ (gW_mem hc))
  · exact hA q (Nat.le_trans hS.1 h)
theorem g_pre {D : va_G} {ki : Nat → ClassId} {A0 : Nat → Prop} {cs : List Nat} {ad : Nat → Nat} {E : Nat → va_E} {w2 : va_W} {s : State} {H : Heap} {av : List Value} (hK : va_K D vwCl (zT ki) s) (hN : nK s) (hP : va_P D vwCl (gW cs ad E ++ w2) H) (hD : va_D A0 (gW cs ad E ++ w2)) : ∀ U : State, U.heap = H → s.WarmedH U.vm → va_Pc av (gB D ki cs ad E H.size) av.toArray U :=
  fun U hU hW => ⟨rfl, by rw [hU], va_K.moved hW.alike hK, nK_warm hW hN, by rw [hU]; exact hP.left, hD.left.weaken (fun _ _ _ _ => trivial)⟩
section gCalls
variable {p : Program} {l : Launch} {e : Env} {R : Room} {s : State} {m : MethodId} {args : Array Value} {below : List Frame} {meth : Method} {c : Code} {H : Heap} {locs : List Loc} {cells slots : Nat} {Q : State → Prop}
variable {cc : ByteArray} {nL pc : Nat} {ls : Array Slot} {rest : List Value} {D : va_G} {ki : Nat → ClassId} {A0 : Nat → Prop} {Ts : List Cond} {own : String}
variable {y : MethodName} {ws : List Cond} {rm : Room} {index maxL n : Nat} {bytes : ByteArray} {ret : Option FieldType} {C : String} {T : u_T} {Nf ci c0 : Nat} {fs As : List Value} {cs : List Nat} {ad : Nat → Nat} {Eg : zMem → Int64 → Nat → va_E} {G G' : zMem} {tr tr' : Int64} {w2 : va_W}
theorem g_calli {F : zR} {r : Int32} (S : CallFix p m c cc nL s args Ts own) (hK : va_K D vwCl (zT ki) s) (hN : nK s) (hP : va_P D vwCl (gW cs ad (Eg G tr) ++ w2) H) (hD : va_D A0 (gW cs ad (Eg G tr) ++ w2)) (hS : va_S A0 s.heap H locs) (hA : ∀ q, s.heap.size ≤ q → A0 q) (h0 : c0 ∈ cs) (he : Eg G tr c0 = .inr (ci, fs)) (hcl : vwCl[ci]? = some (C, T, Nf)) (hM : gMetI l D ki ad cs y ws rm (.ref (ad c0) :: As) Eg G tr F) (hF : F = some (r, G', tr')) (cw : CallW R s args own C index y bytes maxL ret ws rm 0 0 n) (hn : As.length = n) (hsize : ls.size = nL) {st0 : List Value} (hst : st0 = As.reverse ++ .ref (ad c0) :: rest) (hW : 2 * (F0 m pc ls st0).monitorRoom + (rest.map fun v => v.category).sum ≤ 8) (hdg : decode cc pc = .ok (.invokevirtual index, 3)) (hf : cells ≤ R.cells ∧ slots ≤ R.slots)
    (kk : ∀ (H1 : Heap) (locs1 : List Loc), va_P D vwCl (gW cs ad (Eg G' tr') ++ w2) H1 → va_D A0 (gW cs ad (Eg G' tr') ++ w2) → va_S A0 s.heap H1 locs1 → W p l e R s m args below meth c H1 locs1 cells slots Q (F0 m (pc + 3) ls (.int r :: rest))) : W p l e R s m args below meth c H locs cells slots Q (F0 m pc ls st0) := by
  obtain ⟨k, hk1, hk2⟩ := gW_get (ad := ad) (E := Eg G tr) h0
  rw [he] at hk2
  have hfr := g_free hD hS hA
  refine va_calli (va_runV (As := As) (rest := rest) S (hM H.size r G' tr' hF) cw ⟨gB_blind, va_recv hK hP.left hcl hk2, g_pre hK hN hP hD⟩ rfl hn hsize hst hW hdg hf) hS (fun q _ h => hfr q h) hfr (fun r0 u t H1 locs1 ht hvm hw hB hz1 hk1 hS1 => ?_)
  subst hw
  rw [ht] at hB
  obtain ⟨hP1, hD1⟩ := g_back hP hD hk1 hB
  exact kk H1 locs1 hP1 hD1 hS1
theorem g_calll {F : Option (Int64 × zMem × Int64)} {r : Int64} (S : CallFix p m c cc nL s args Ts own) (hK : va_K D vwCl (zT ki) s) (hN : nK s) (hP : va_P D vwCl (gW cs ad (Eg G tr) ++ w2) H) (hD : va_D A0 (gW cs ad (Eg G tr) ++ w2)) (hS : va_S A0 s.heap H locs) (hA : ∀ q, s.heap.size ≤ q → A0 q) (h0 : c0 ∈ cs) (he : Eg G tr c0 = .inr (ci, fs)) (hcl : vwCl[ci]? = some (C, T, Nf)) (hM : gMetL l D ki ad cs y ws rm (.ref (ad c0) :: As) Eg G tr F) (hF : F = some (r, G', tr')) (cw : CallW R s args own C index y bytes maxL ret ws rm 0 0 n) (hn : As.length = n) (hsize : ls.size = nL) {st0 : List Value} (hst : st0 = As.reverse ++ .ref (ad c0) :: rest) (hW : 2 * (F0 m pc ls st0).monitorRoom + (rest.map fun v => v.category).sum ≤ 8) (hdg : decode cc pc = .ok (.invokevirtual index, 3)) (hf : cells ≤ R.cells ∧ slots ≤ R.slots)
    (kk : ∀ (H1 : Heap) (locs1 : List Loc), va_P D vwCl (gW cs ad (Eg G' tr') ++ w2) H1 → va_D A0 (gW cs ad (Eg G' tr') ++ w2) → va_S A0 s.heap H1 locs1 → W p l e R s m args below meth c H1 locs1 cells slots Q (F0 m (pc + 3) ls (.long r :: rest))) : W p l e R s m args below meth c H locs cells slots Q (F0 m pc ls st0) := by
  obtain ⟨k, hk1, hk2⟩ := gW_get (ad := ad) (E := Eg G tr) h0
  rw [he] at hk2
  have hfr := g_free hD hS hA
  refine va_calll (va_runV (As := As) (rest := rest) S (hM H.size r G' tr' hF) cw ⟨gB_blind, va_recv hK hP.left hcl hk2, g_pre hK hN hP hD⟩ rfl hn hsize hst hW hdg hf) hS (fun q _ h => hfr q h) hfr (fun r0 u t H1 locs1 ht hvm hw hB hz1 hk1 hS1 => ?_)
  subst hw
  rw [ht] at hB
  obtain ⟨hP1, hD1⟩ := g_back hP hD hk1 hB
  exact kk H1 locs1 hP1 hD1 hS1
theorem g_callv {F : zR} {r : Int32} (S : CallFix p m c cc nL s args Ts own) (hK : va_K D vwCl (zT ki) s) (hN : nK s) (hP : va_P D vwCl (gW cs ad (Eg G tr) ++ w2) H) (hD : va_D A0 (gW cs ad (Eg G tr) ++ w2)) (hS : va_S A0 s.heap H locs) (hA : ∀ q, s.heap.size ≤ q → A0 q) (h0 : c0 ∈ cs) (he : Eg G tr c0 = .inr (ci, fs)) (hcl : vwCl[ci]? = some (C, T, Nf)) (hM : gMetV l D ki ad cs y ws rm (.ref (ad c0) :: As) Eg G tr F) (hF : F = some (r, G', tr')) (cw : CallW R s args own C index y bytes maxL ret ws rm 0 0 n) (hn : As.length = n) (hsize : ls.size = nL) {st0 : List Value} (hst : st0 = As.reverse ++ .ref (ad c0) :: rest) (hW : 2 * (F0 m pc ls st0).monitorRoom + (rest.map fun v => v.category).sum ≤ 8) (hdg : decode cc pc = .ok (.invokevirtual index, 3)) (hf : cells ≤ R.cells ∧ slots ≤ R.slots)
    (kk : ∀ (H1 : Heap) (locs1 : List Loc), va_P D vwCl (gW cs ad (Eg G' tr') ++ w2) H1 → va_D A0 (gW cs ad (Eg G' tr') ++ w2) → va_S A0 s.heap H1 locs1 → W p l e R s m args below meth c H1 locs1 cells slots Q (F0 m (pc + 3) ls rest)) : W p l e R s m args below meth c H locs cells slots Q (F0 m pc ls st0) := by
  obtain ⟨k, hk1, hk2⟩ := gW_get (ad := ad) (E := Eg G tr) h0
  rw [he] at hk2
  have hfr := g_free hD hS hA
  refine va_callv (va_runV (As := As) (rest := rest) S (hM H.size r G' tr' hF) cw ⟨gB_blind, va_recv hK hP.left hcl hk2, g_pre hK hN hP hD⟩ rfl hn hsize hst hW hdg hf) hS (fun q _ h => hfr q h) hfr (fun u t H1 locs1 ht hvm hw hB hz1 hk1 hS1 => ?_)
  rw [ht] at hB
  obtain ⟨hP1, hD1⟩ := g_back hP hD hk1 hB
  exact kk H1 locs1 hP1 hD1 hS1
end gCalls
