/-! ===== the constructors of a letter and of a text ===== -/
set_option maxHeartbeats 4000000 in
theorem iX1_init (l : Launch) (h0 : Nat) : Met l yX1_init wsX1_init { frames := 1, cells := 0, slots := 0, locals := 12 } (va_Pc [.ref h0] (fun _ => True)) (va_Qv (S := Unit) (fun _ => True) (fun _ _ => True) (fun _ => False)) 0 0 (fun _ => False) := by
  refine va_MetF (cc := cX1_init) (maxL := 1) (ret := none) (by decide +kernel) rfl ?_
  intro p e s m args below meth c s₁ B hml hv
  obtain ⟨rfl, -⟩ := hv
  rw [lg_entry_eq]
  have S : CallFix p m c cX1_init 1 s ([.ref h0] : List Value).toArray wsX1_init RX1 := ⟨B.exec, B.bytes, hml, findClass_of_methodNamed B.named, atoms_spec (ws := wsX1_init) B.pre⟩
  have hl := lv_entry ([.ref h0]) (n := 1) (Nat.le_of_ble_eq_true rfl)
  generalize (lg_sl ([.ref h0]) ++ List.replicate (1 - (lg_sl ([.ref h0])).length) Slot.unset).toArray = ls at hl ⊢
  have hl : lv_has ls 1 [(0, .ref h0)] := hl
  refine lv_aload_n S.1 S.2.1 dX1_init_0 rfl (lv_at hl 0 rfl) ?_
  refine i_obj S hl.1 (by decide +kernel) (by decide +kernel) (by decide +kernel) dX1_init_1 (Nat.le_of_ble_eq_true rfl) (Nat.le_of_ble_eq_true rfl) ?_
  exact W.vret S.1 S.2.1 B.returns (fun t ht hW => ⟨⟨(), rfl, trivial, trivial⟩, by rw [ht]; exact Nat.le_refl _, fun q h1 _ => by rw [ht]⟩) (fun q h => absurd h List.not_mem_nil) dX1_init_4 B.notSynchronized
section iLet
variable {p : Program} {l : Launch} {e : Env} {R : Room} {s : State} {m : MethodId} {args : Array Value} {below : List Frame} {meth : Method} {c : Code} {H : Heap} {locs : List Loc} {cells slots : Nat} {Q : State → Prop}
variable {cc : ByteArray} {nL pc : Nat} {ls : Array Slot} {rest : List Value} {D : va_G} {A0 : Nat → Prop} {Ts : List Cond} {own host : String} {wl : va_W} {a index maxL : Nat} {bytes : ByteArray}
theorem i_let (S : CallFix p m c cc nL s args Ts own) (hP : va_P D vwCl wl H) (hS : va_S A0 s.heap H locs) (cw : va_CN R s args own index yX1_init host bytes maxL none wsX1_init { frames := 1, cells := 0, slots := 0, locals := 12 } 0 0 0 ∧ yX1_init.name = "<init>" ∧ (Cond.instanceMethod yX1_init).before args s = true) (hsize : ls.size = nL) (hW : 2 * (F0 m pc ls (.ref a :: rest)).monitorRoom + (rest.map fun v => v.category).sum ≤ 8) (hdg : decode cc pc = .ok (.invokespecial index, 3)) (hf : cells ≤ R.cells ∧ slots ≤ R.slots)
    (kk : ∀ (H1 : Heap) (locs1 : List Loc), va_P D vwCl wl H1 → va_S A0 s.heap H1 locs1 → W p l e R s m args below meth c H1 locs1 cells slots Q (F0 m (pc + 3) ls rest)) : W p l e R s m args below meth c H locs cells slots Q (F0 m pc ls (.ref a :: rest)) := by
  refine va_callv (va_runIN (As := []) (rest := rest) S (iX1_init l a) cw ⟨fun a U g mk q => ⟨q.1, trivial⟩, fun U hU hW => ⟨rfl, trivial⟩⟩ rfl rfl hsize rfl hW hdg hf) hS (fun q _ h => h.elim) (fun q h => h.elim) (fun u t H1 locs1 ht hvm hw hB hz1 hk1 hS1 => ?_)
  exact kk H1 locs1 (hP.kept (fun k q hq => hk1 q.1 ((hP k q hq).lt) (fun z => z))) hS1
end iLet
def am2 (a b : Nat) : Nat → Nat := fun k => match k with
  | 0 => a
  | _ => b
def txE (ki : Nat → ClassId) (am : Nat → Nat) : Nat → va_E := fun k => match k with
  | 0 => .inr (3, [.int 0, .ref (am 1), .int 0, .int 0, .int 0, .int 0, .int 0, .int 0])
  | _ => .inl (ki 0, 200, .inl (fun _ => 0))
set_option maxHeartbeats 4000000 in
theorem iX3_init (l : Launch) (D : va_G) (ki : Nat → ClassId) (h0 : Nat) : iMet l D ki yX3_init wsX3_init { frames := 1, cells := 1, slots := 200, locals := 12 } h0 (.inr (3, [.int 0, .null, .int 0, .int 0, .int 0, .int 0, .int 0, .int 0])) 2 (txE ki) 1 200 := by
  refine iMet_of (cc := cX3_init) (maxL := 1) (own := RX3) (by decide +kernel) rfl rfl rfl (Nat.le_of_ble_eq_true rfl) ?_
  intro p e s m below meth c S hr hlk hin K hP hD hA hS ls hl
  refine lv_aload_n S.1 S.2.1 dX3_init_0 rfl (lv_at hl 0 rfl) ?_
  refine i_obj S hl.1 (by decide +kernel) (by decide +kernel) (by decide +kernel) dX3_init_1 (Nat.le_of_ble_eq_true rfl) (Nat.le_of_ble_eq_true rfl) ?_
  refine lv_aload_n S.1 S.2.1 dX3_init_4 rfl (lv_at hl 0 rfl) ?_
  refine lv_sipush (v := (200 : Int32)) S.1 S.2.1 dX3_init_5 (by decide) ?_
  refine i_newi (N' := 200) S K hP hD hS hA (by decide +kernel) (by decide) rfl (Nat.le_of_ble_eq_true rfl) (Nat.le_of_ble_eq_true rfl) (Nat.le_of_ble_eq_true rfl) dX3_init_8 (fun q H hP hD hS => ?_)
  refine i_putF (ty := .array .int) S K hin hP hD hS 1 rfl rfl (by decide +kernel) tyX3 tyX3_ok nmX3 1 (by decide) (by decide +kernel) rfl (by decide +kernel) rfl rfl (Nat.le_of_ble_eq_true rfl) dX3_init_10 (fun H locs hP hD hS => ?_)
  exact i_vret (am := am2 h0 q) S hr hlk rfl (hP.perm (List.Perm.swap _ _ _)) (hD.perm (List.Perm.swap _ _ _)) hS dX3_init_13
