/-! ===== the constructor of a moment ===== -/
def am8 (a0 a1 a2 a3 a4 a5 a6 a7 : Nat) : Nat → Nat := fun k => match k with
  | 0 => a0
  | 1 => a1
  | 2 => a2
  | 3 => a3
  | 4 => a4
  | 5 => a5
  | 6 => a6
  | _ => a7
def moE (ki : Nat → ClassId) (am : Nat → Nat) : Nat → va_E := fun k => match k with
  | 0 => .inr (2, [.int 0, .int 0, .int 0, .int 0, .ref (am 1), .ref (am 2)])
  | 1 => .inl (ki 0, 12, .inl (fun _ => 0))
  | 2 => .inl (ki 2, 5, .inr (.inr (.inr (.inr (fun j => some (am (3 + j)))))))
  | _ => .inr (1, [.int 0, .int 0, .int 0, .int 0, .int 0, .int 0, .int 0])
theorem va_at_refs {D : va_G} {cl : List vw_C} {cA : ClassId} {n a : Nat} {f g : Nat → Option Nat} {H : Heap} (h : ∀ j, j < n → f j = g j) (hA : va_at D cl (a, .inl (cA, n, .inr (.inr (.inr (.inr f))))) H) : va_at D cl (a, .inl (cA, n, .inr (.inr (.inr (.inr g))))) H := by
  have e : vp_cell cA (n, .inr (.inr (.inr (.inr g)))) = vp_cell cA (n, .inr (.inr (.inr (.inr f)))) := by
    rw [vp_cell_q, vp_cell_q]
    unfold arrV
    rw [show (fun j : Fin n => va_rf (g j.val)) = (fun j : Fin n => va_rf (f j.val)) from funext fun j => by rw [h j.val j.isLt]]
  show H[a]? = some (vp_cell cA (n, .inr (.inr (.inr (.inr g)))))
  rw [e]
  exact hA
theorem va_P_refs {D : va_G} {cl : List vw_C} {cA : ClassId} {n a : Nat} {f g : Nat → Option Nat} {H : Heap} {X Y : va_W} (h : ∀ j, j < n → f j = g j) (hP : va_P D cl (X ++ (a, .inl (cA, n, .inr (.inr (.inr (.inr f))))) :: Y) H) : va_P D cl (X ++ (a, .inl (cA, n, .inr (.inr (.inr (.inr g))))) :: Y) H := by
  rw [va_P_iff] at *
  intro q hq
  rcases List.mem_append.mp hq with z | z
  · exact hP q (List.mem_append_left _ z)
  · rcases List.mem_cons.mp z with z | z
    · rw [z]
      exact va_at_refs h (hP _ (List.mem_append_right _ List.mem_cons_self))
    · exact hP q (List.mem_append_right _ (List.mem_cons_of_mem _ z))
theorem va_D_refs {A : Nat → Prop} {a : Nat} {e e' : va_E} {X Y : va_W} (hD : va_D A (X ++ (a, e) :: Y)) : va_D A (X ++ (a, e') :: Y) := hD.addr (by rw [List.map_append, List.map_append]; rfl)

set_option maxHeartbeats 16000000 in
set_option maxRecDepth 100000 in
theorem iX2_init (l : Launch) (D : va_G) (ki : Nat → ClassId) (h0 : Nat) : iMet l D ki yX2_init wsX2_init { frames := 2, cells := 7, slots := 52, locals := 32 } h0 (.inr (2, [.int 0, .int 0, .int 0, .int 0, .null, .null])) 8 (moE ki) 7 52 := by
  refine iMet_of (cc := cX2_init) (maxL := 2) (own := RX2) (by decide +kernel) rfl rfl rfl (Nat.le_of_ble_eq_true rfl) ?_
  intro p e s m below meth c S hr hlk hin K hP hD hA hS ls hl
  have kN : va_Nw (.methodLinkNest "WindPost$Moment" 21 yX1_init "WindPost") s := K.2.1.2.1
  have cwL : va_CN (headSpec wsX2_init { frames := 2, cells := 7, slots := 52, locals := 32 }).room s ([.ref h0] : List Value).toArray RX2 21 yX1_init "WindPost" cX1_init 1 none wsX1_init { frames := 1, cells := 0, slots := 0, locals := 12 } 0 0 0 ∧ yX1_init.name = "<init>" ∧ (Cond.instanceMethod yX1_init).before ([.ref h0] : List Value).toArray s = true := ⟨va_cnB 0 S.2.2.2.2 gX2_init_X1_init_n21 rfl rfl rfl kN (S.2.2.2.2 (Cond.initialized RX1) (by decide +kernel)) (by decide +kernel) ⟨Nat.le_of_ble_eq_true rfl, Nat.le_of_ble_eq_true rfl⟩, rfl, S.2.2.2.2 (Cond.instanceMethod yX1_init) (by decide +kernel)⟩
  refine lv_aload_n S.1 S.2.1 dX2_init_0 rfl (lv_at hl 0 rfl) ?_
  refine i_obj S hl.1 (by decide +kernel) (by decide +kernel) (by decide +kernel) dX2_init_1 (Nat.le_of_ble_eq_true rfl) (Nat.le_of_ble_eq_true rfl) ?_
  refine lv_aload_n S.1 S.2.1 dX2_init_4 rfl (lv_at hl 0 rfl) ?_
  refine lv_bipush (v := (12 : Int32)) S.1 S.2.1 dX2_init_5 (by decide) ?_
  refine i_newi (N' := 12) S K hP hD hS hA (by decide +kernel) (by decide) rfl (Nat.le_of_ble_eq_true rfl) (Nat.le_of_ble_eq_true rfl) (Nat.le_of_ble_eq_true rfl) dX2_init_7 (fun qw H hP hD hS => ?_)
  refine i_putF (ty := .array .int) S K hin hP hD hS 1 rfl rfl (by decide +kernel) tyX2 tyX2_ok nmX2 4 (by decide) (by decide +kernel) rfl (by decide +kernel) rfl rfl (Nat.le_of_ble_eq_true rfl) dX2_init_9 (fun H locs hP hD hS => ?_)
  refine lv_aload_n S.1 S.2.1 dX2_init_12 rfl (lv_at hl 0 rfl) ?_
  refine lv_iconst (v := (5 : Int32)) S.1 S.2.1 dX2_init_13 (by decide) ?_
  refine i_newq (N' := 5) (t0 := 2) (C := RX1) S K hP hD hS hA (by decide +kernel) K.2.2.1 (fun _ h => zK_let h) (by decide) rfl (Nat.le_of_ble_eq_true rfl) (Nat.le_of_ble_eq_true rfl) (Nat.le_of_ble_eq_true rfl) dX2_init_14 (fun qp H hP hD hS => ?_)
  refine i_putF (ty := .array (.object "WindPost$Letter")) S K hin hP hD hS 2 rfl rfl (by decide +kernel) tyX2 tyX2_ok nmX2 5 (by decide) (by decide +kernel) rfl (by decide +kernel) rfl rfl (Nat.le_of_ble_eq_true rfl) dX2_init_17 (fun H locs hP hD hS => ?_)
  have hP : va_P D vwCl [(qp, .inl (ki 2, 5, .inr (.inr (.inr (.inr (fun _ => none)))))), (qw, .inl (ki 0, 12, .inl (fun _ => 0))), (h0, .inr (2, [.int 0, .int 0, .int 0, .int 0, .ref qw, .ref qp]))] H := hP
  have hD : va_D (iA h0 s.heap.size) [(qp, .inl (ki 2, 5, .inr (.inr (.inr (.inr (fun _ => none)))))), (qw, .inl (ki 0, 12, .inl (fun _ => 0))), (h0, .inr (2, [.int 0, .int 0, .int 0, .int 0, .ref qw, .ref qp]))] := hD
  refine lv_iconst (v := (0 : Int32)) S.1 S.2.1 dX2_init_20 (by decide) ?_
  refine lv_istore_n (lv' := [(1, .int (0 : Int32)), (0, .ref h0)]) S.1 S.2.1 dX2_init_21 rfl hl (by decide) rfl (fun ls hl => ?_)
  refine lv_iload_n S.1 S.2.1 dX2_init_22 rfl (lv_at hl 0 rfl) ?_
  refine lv_iconst (v := (5 : Int32)) S.1 S.2.1 dX2_init_23 (by decide) ?_
  refine lv_icmp_ge (tgt := 46) S.1 S.2.1 dX2_init_24 (by decide) (fun h => absurd h (by decide)) (fun _ => ?_)
  refine lv_aload_n S.1 S.2.1 dX2_init_27 rfl (lv_at hl 1 rfl) ?_
  refine i_get (v := .ref qp) S K hP 2 rfl rfl (by decide +kernel) 5 (by decide) (by decide +kernel) rfl rfl dX2_init_28 ?_
  refine lv_iload_n S.1 S.2.1 dX2_init_31 rfl (lv_at hl 0 rfl) ?_
  refine i_new (ci := 1) (C := RX1) (T := TX1) (N := 7) (fs := [.int 0, .int 0, .int 0, .int 0, .int 0, .int 0, .int 0]) S K hP hD hS hA (by decide +kernel) tyX1 tyX1_ok (by decide +kernel) (by decide +kernel) (by decide +kernel) rfl (fun j hj => by rcases (show j = 0 ∨ j = 1 ∨ j = 2 ∨ j = 3 ∨ j = 4 ∨ j = 5 ∨ j = 6 by omega) with rfl | rfl | rfl | rfl | rfl | rfl | rfl <;> rfl) (Nat.le_of_ble_eq_true rfl) (Nat.le_of_ble_eq_true rfl) dX2_init_32 (fun l0 H hP hD hS => ?_)
  refine lv_dup S.1 S.2.1 dX2_init_35 rfl ?_
  refine i_let (rest := [.ref l0, .int (0 : Int32), .ref qp]) S hP hS cwL hl.1 (lv_room (Nat.le_of_ble_eq_true rfl)) dX2_init_36 ⟨Nat.le_of_ble_eq_true rfl, Nat.le_of_ble_eq_true rfl⟩ (fun H locs hP hS => ?_)
  refine va_astq S.1 S.2.1 K.1 hP hD hS 1 2 0 1 rfl rfl rfl rfl (show ¬ ((0 : Int32) < 0 ∨ 5 ≤ (0 : Int32).toNatClampNeg) by decide) dX2_init_39 (fun H locs hP hD hS => ?_)
  have hP : va_P D vwCl [(l0, .inr (1, [.int 0, .int 0, .int 0, .int 0, .int 0, .int 0, .int 0])), (qp, .inl (ki 2, 5, .inr (.inr (.inr (.inr (va_up (fun _ => none) 0 (some l0))))))), (qw, .inl (ki 0, 12, .inl (fun _ => 0))), (h0, .inr (2, [.int 0, .int 0, .int 0, .int 0, .ref qw, .ref qp]))] H := hP
  have hD : va_D (iA h0 s.heap.size) [(l0, .inr (1, [.int 0, .int 0, .int 0, .int 0, .int 0, .int 0, .int 0])), (qp, .inl (ki 2, 5, .inr (.inr (.inr (.inr (va_up (fun _ => none) 0 (some l0))))))), (qw, .inl (ki 0, 12, .inl (fun _ => 0))), (h0, .inr (2, [.int 0, .int 0, .int 0, .int 0, .ref qw, .ref qp]))] := hD
  refine lv_iinc (v := (1 : Int32)) (lv' := [(1, .int (1 : Int32)), (0, .ref h0)]) S.1 S.2.1 dX2_init_40 hl (k := 0) rfl (by decide) (by decide) rfl (fun ls hl => ?_)
  refine lv_goto (tgt := 22) S.1 S.2.1 dX2_init_43 (by decide) ?_
  refine lv_iload_n S.1 S.2.1 dX2_init_22 rfl (lv_at hl 0 rfl) ?_
  refine lv_iconst (v := (5 : Int32)) S.1 S.2.1 dX2_init_23 (by decide) ?_
  refine lv_icmp_ge (tgt := 46) S.1 S.2.1 dX2_init_24 (by decide) (fun h => absurd h (by decide)) (fun _ => ?_)
  refine lv_aload_n S.1 S.2.1 dX2_init_27 rfl (lv_at hl 1 rfl) ?_
  refine i_get (v := .ref qp) S K hP 3 rfl rfl (by decide +kernel) 5 (by decide) (by decide +kernel) rfl rfl dX2_init_28 ?_
  refine lv_iload_n S.1 S.2.1 dX2_init_31 rfl (lv_at hl 0 rfl) ?_
  refine i_new (ci := 1) (C := RX1) (T := TX1) (N := 7) (fs := [.int 0, .int 0, .int 0, .int 0, .int 0, .int 0, .int 0]) S K hP hD hS hA (by decide +kernel) tyX1 tyX1_ok (by decide +kernel) (by decide +kernel) (by decide +kernel) rfl (fun j hj => by rcases (show j = 0 ∨ j = 1 ∨ j = 2 ∨ j = 3 ∨ j = 4 ∨ j = 5 ∨ j = 6 by omega) with rfl | rfl | rfl | rfl | rfl | rfl | rfl <;> rfl) (Nat.le_of_ble_eq_true rfl) (Nat.le_of_ble_eq_true rfl) dX2_init_32 (fun l1 H hP hD hS => ?_)
  refine lv_dup S.1 S.2.1 dX2_init_35 rfl ?_
  refine i_let (rest := [.ref l1, .int (1 : Int32), .ref qp]) S hP hS cwL hl.1 (lv_room (Nat.le_of_ble_eq_true rfl)) dX2_init_36 ⟨Nat.le_of_ble_eq_true rfl, Nat.le_of_ble_eq_true rfl⟩ (fun H locs hP hS => ?_)
  refine va_astq S.1 S.2.1 K.1 hP hD hS 2 2 0 1 rfl rfl rfl rfl (show ¬ ((1 : Int32) < 0 ∨ 5 ≤ (1 : Int32).toNatClampNeg) by decide) dX2_init_39 (fun H locs hP hD hS => ?_)
  have hP : va_P D vwCl [(l1, .inr (1, [.int 0, .int 0, .int 0, .int 0, .int 0, .int 0, .int 0])), (l0, .inr (1, [.int 0, .int 0, .int 0, .int 0, .int 0, .int 0, .int 0])), (qp, .inl (ki 2, 5, .inr (.inr (.inr (.inr (va_up (va_up (fun _ => none) 0 (some l0)) 1 (some l1))))))), (qw, .inl (ki 0, 12, .inl (fun _ => 0))), (h0, .inr (2, [.int 0, .int 0, .int 0, .int 0, .ref qw, .ref qp]))] H := hP
  have hD : va_D (iA h0 s.heap.size) [(l1, .inr (1, [.int 0, .int 0, .int 0, .int 0, .int 0, .int 0, .int 0])), (l0, .inr (1, [.int 0, .int 0, .int 0, .int 0, .int 0, .int 0, .int 0])), (qp, .inl (ki 2, 5, .inr (.inr (.inr (.inr (va_up (va_up (fun _ => none) 0 (some l0)) 1 (some l1))))))), (qw, .inl (ki 0, 12, .inl (fun _ => 0))), (h0, .inr (2, [.int 0, .int 0, .int 0, .int 0, .ref qw, .ref qp]))] := hD
  refine lv_iinc (v := (2 : Int32)) (lv' := [(1, .int (2 : Int32)), (0, .ref h0)]) S.1 S.2.1 dX2_init_40 hl (k := 0) rfl (by decide) (by decide) rfl (fun ls hl => ?_)
  refine lv_goto (tgt := 22) S.1 S.2.1 dX2_init_43 (by decide) ?_
  refine lv_iload_n S.1 S.2.1 dX2_init_22 rfl (lv_at hl 0 rfl) ?_
  refine lv_iconst (v := (5 : Int32)) S.1 S.2.1 dX2_init_23 (by decide) ?_
  refine lv_icmp_ge (tgt := 46) S.1 S.2.1 dX2_init_24 (by decide) (fun h => absurd h (by decide)) (fun _ => ?_)
  refine lv_aload_n S.1 S.2.1 dX2_init_27 rfl (lv_at hl 1 rfl) ?_
  refine i_get (v := .ref qp) S K hP 4 rfl rfl (by decide +kernel) 5 (by decide) (by decide +kernel) rfl rfl dX2_init_28 ?_
  refine lv_iload_n S.1 S.2.1 dX2_init_31 rfl (lv_at hl 0 rfl) ?_
  refine i_new (ci := 1) (C := RX1) (T := TX1) (N := 7) (fs := [.int 0, .int 0, .int 0, .int 0, .int 0, .int 0, .int 0]) S K hP hD hS hA (by decide +kernel) tyX1 tyX1_ok (by decide +kernel) (by decide +kernel) (by decide +kernel) rfl (fun j hj => by rcases (show j = 0 ∨ j = 1 ∨ j = 2 ∨ j = 3 ∨ j = 4 ∨ j = 5 ∨ j = 6 by omega) with rfl | rfl | rfl | rfl | rfl | rfl | rfl <;> rfl) (Nat.le_of_ble_eq_true rfl) (Nat.le_of_ble_eq_true rfl) dX2_init_32 (fun l2 H hP hD hS => ?_)
  refine lv_dup S.1 S.2.1 dX2_init_35 rfl ?_
  refine i_let (rest := [.ref l2, .int (2 : Int32), .ref qp]) S hP hS cwL hl.1 (lv_room (Nat.le_of_ble_eq_true rfl)) dX2_init_36 ⟨Nat.le_of_ble_eq_true rfl, Nat.le_of_ble_eq_true rfl⟩ (fun H locs hP hS => ?_)
  refine va_astq S.1 S.2.1 K.1 hP hD hS 3 2 0 1 rfl rfl rfl rfl (show ¬ ((2 : Int32) < 0 ∨ 5 ≤ (2 : Int32).toNatClampNeg) by decide) dX2_init_39 (fun H locs hP hD hS => ?_)
  have hP : va_P D vwCl [(l2, .inr (1, [.int 0, .int 0, .int 0, .int 0, .int 0, .int 0, .int 0])), (l1, .inr (1, [.int 0, .int 0, .int 0, .int 0, .int 0, .int 0, .int 0])), (l0, .inr (1, [.int 0, .int 0, .int 0, .int 0, .int 0, .int 0, .int 0])), (qp, .inl (ki 2, 5, .inr (.inr (.inr (.inr (va_up (va_up (va_up (fun _ => none) 0 (some l0)) 1 (some l1)) 2 (some l2))))))), (qw, .inl (ki 0, 12, .inl (fun _ => 0))), (h0, .inr (2, [.int 0, .int 0, .int 0, .int 0, .ref qw, .ref qp]))] H := hP
  have hD : va_D (iA h0 s.heap.size) [(l2, .inr (1, [.int 0, .int 0, .int 0, .int 0, .int 0, .int 0, .int 0])), (l1, .inr (1, [.int 0, .int 0, .int 0, .int 0, .int 0, .int 0, .int 0])), (l0, .inr (1, [.int 0, .int 0, .int 0, .int 0, .int 0, .int 0, .int 0])), (qp, .inl (ki 2, 5, .inr (.inr (.inr (.inr (va_up (va_up (va_up (fun _ => none) 0 (some l0)) 1 (some l1)) 2 (some l2))))))), (qw, .inl (ki 0, 12, .inl (fun _ => 0))), (h0, .inr (2, [.int 0, .int 0, .int 0, .int 0, .ref qw, .ref qp]))] := hD
  refine lv_iinc (v := (3 : Int32)) (lv' := [(1, .int (3 : Int32)), (0, .ref h0)]) S.1 S.2.1 dX2_init_40 hl (k := 0) rfl (by decide) (by decide) rfl (fun ls hl => ?_)
  refine lv_goto (tgt := 22) S.1 S.2.1 dX2_init_43 (by decide) ?_
  refine lv_iload_n S.1 S.2.1 dX2_init_22 rfl (lv_at hl 0 rfl) ?_
  refine lv_iconst (v := (5 : Int32)) S.1 S.2.1 dX2_init_23 (by decide) ?_
  refine lv_icmp_ge (tgt := 46) S.1 S.2.1 dX2_init_24 (by decide) (fun h => absurd h (by decide)) (fun _ => ?_)
  refine lv_aload_n S.1 S.2.1 dX2_init_27 rfl (lv_at hl 1 rfl) ?_
  refine i_get (v := .ref qp) S K hP 5 rfl rfl (by decide +kernel) 5 (by decide) (by decide +kernel) rfl rfl dX2_init_28 ?_
  refine lv_iload_n S.1 S.2.1 dX2_init_31 rfl (lv_at hl 0 rfl) ?_
  refine i_new (ci := 1) (C := RX1) (T := TX1) (N := 7) (fs := [.int 0, .int 0, .int 0, .int 0, .int 0, .int 0, .int 0]) S K hP hD hS hA (by decide +kernel) tyX1 tyX1_ok (by decide +kernel) (by decide +kernel) (by decide +kernel) rfl (fun j hj => by rcases (show j = 0 ∨ j = 1 ∨ j = 2 ∨ j = 3 ∨ j = 4 ∨ j = 5 ∨ j = 6 by omega) with rfl | rfl | rfl | rfl | rfl | rfl | rfl <;> rfl) (Nat.le_of_ble_eq_true rfl) (Nat.le_of_ble_eq_true rfl) dX2_init_32 (fun l3 H hP hD hS => ?_)
  refine lv_dup S.1 S.2.1 dX2_init_35 rfl ?_
  refine i_let (rest := [.ref l3, .int (3 : Int32), .ref qp]) S hP hS cwL hl.1 (lv_room (Nat.le_of_ble_eq_true rfl)) dX2_init_36 ⟨Nat.le_of_ble_eq_true rfl, Nat.le_of_ble_eq_true rfl⟩ (fun H locs hP hS => ?_)
  refine va_astq S.1 S.2.1 K.1 hP hD hS 4 2 0 1 rfl rfl rfl rfl (show ¬ ((3 : Int32) < 0 ∨ 5 ≤ (3 : Int32).toNatClampNeg) by decide) dX2_init_39 (fun H locs hP hD hS => ?_)
  have hP : va_P D vwCl [(l3, .inr (1, [.int 0, .int 0, .int 0, .int 0, .int 0, .int 0, .int 0])), (l2, .inr (1, [.int 0, .int 0, .int 0, .int 0, .int 0, .int 0, .int 0])), (l1, .inr (1, [.int 0, .int 0, .int 0, .int 0, .int 0, .int 0, .int 0])), (l0, .inr (1, [.int 0, .int 0, .int 0, .int 0, .int 0, .int 0, .int 0])), (qp, .inl (ki 2, 5, .inr (.inr (.inr (.inr (va_up (va_up (va_up (va_up (fun _ => none) 0 (some l0)) 1 (some l1)) 2 (some l2)) 3 (some l3))))))), (qw, .inl (ki 0, 12, .inl (fun _ => 0))), (h0, .inr (2, [.int 0, .int 0, .int 0, .int 0, .ref qw, .ref qp]))] H := hP
  have hD : va_D (iA h0 s.heap.size) [(l3, .inr (1, [.int 0, .int 0, .int 0, .int 0, .int 0, .int 0, .int 0])), (l2, .inr (1, [.int 0, .int 0, .int 0, .int 0, .int 0, .int 0, .int 0])), (l1, .inr (1, [.int 0, .int 0, .int 0, .int 0, .int 0, .int 0, .int 0])), (l0, .inr (1, [.int 0, .int 0, .int 0, .int 0, .int 0, .int 0, .int 0])), (qp, .inl (ki 2, 5, .inr (.inr (.inr (.inr (va_up (va_up (va_up (va_up (fun _ => none) 0 (some l0)) 1 (some l1)) 2 (some l2)) 3 (some l3))))))), (qw, .inl (ki 0, 12, .inl (fun _ => 0))), (h0, .inr (2, [.int 0, .int 0, .int 0, .int 0, .ref qw, .ref qp]))] := hD
  refine lv_iinc (v := (4 : Int32)) (lv' := [(1, .int (4 : Int32)), (0, .ref h0)]) S.1 S.2.1 dX2_init_40 hl (k := 0) rfl (by decide) (by decide) rfl (fun ls hl => ?_)
  refine lv_goto (tgt := 22) S.1 S.2.1 dX2_init_43 (by decide) ?_
  refine lv_iload_n S.1 S.2.1 dX2_init_22 rfl (lv_at hl 0 rfl) ?_
  refine lv_iconst (v := (5 : Int32)) S.1 S.2.1 dX2_init_23 (by decide) ?_
  refine lv_icmp_ge (tgt := 46) S.1 S.2.1 dX2_init_24 (by decide) (fun h => absurd h (by decide)) (fun _ => ?_)
  refine lv_aload_n S.1 S.2.1 dX2_init_27 rfl (lv_at hl 1 rfl) ?_
  refine i_get (v := .ref qp) S K hP 6 rfl rfl (by decide +kernel) 5 (by decide) (by decide +kernel) rfl rfl dX2_init_28 ?_
  refine lv_iload_n S.1 S.2.1 dX2_init_31 rfl (lv_at hl 0 rfl) ?_
  refine i_new (ci := 1) (C := RX1) (T := TX1) (N := 7) (fs := [.int 0, .int 0, .int 0, .int 0, .int 0, .int 0, .int 0]) S K hP hD hS hA (by decide +kernel) tyX1 tyX1_ok (by decide +kernel) (by decide +kernel) (by decide +kernel) rfl (fun j hj => by rcases (show j = 0 ∨ j = 1 ∨ j = 2 ∨ j = 3 ∨ j = 4 ∨ j = 5 ∨ j = 6 by omega) with rfl | rfl | rfl | rfl | rfl | rfl | rfl <;> rfl) (Nat.le_of_ble_eq_true rfl) (Nat.le_of_ble_eq_true rfl) dX2_init_32 (fun l4 H hP hD hS => ?_)
  refine lv_dup S.1 S.2.1 dX2_init_35 rfl ?_
  refine i_let (rest := [.ref l4, .int (4 : Int32), .ref qp]) S hP hS cwL hl.1 (lv_room (Nat.le_of_ble_eq_true rfl)) dX2_init_36 ⟨Nat.le_of_ble_eq_true rfl, Nat.le_of_ble_eq_true rfl⟩ (fun H locs hP hS => ?_)
  refine va_astq S.1 S.2.1 K.1 hP hD hS 5 2 0 1 rfl rfl rfl rfl (show ¬ ((4 : Int32) < 0 ∨ 5 ≤ (4 : Int32).toNatClampNeg) by decide) dX2_init_39 (fun H locs hP hD hS => ?_)
  have hP : va_P D vwCl [(l4, .inr (1, [.int 0, .int 0, .int 0, .int 0, .int 0, .int 0, .int 0])), (l3, .inr (1, [.int 0, .int 0, .int 0, .int 0, .int 0, .int 0, .int 0])), (l2, .inr (1, [.int 0, .int 0, .int 0, .int 0, .int 0, .int 0, .int 0])), (l1, .inr (1, [.int 0, .int 0, .int 0, .int 0, .int 0, .int 0, .int 0])), (l0, .inr (1, [.int 0, .int 0, .int 0, .int 0, .int 0, .int 0, .int 0])), (qp, .inl (ki 2, 5, .inr (.inr (.inr (.inr (va_up (va_up (va_up (va_up (va_up (fun _ => none) 0 (some l0)) 1 (some l1)) 2 (some l2)) 3 (some l3)) 4 (some l4))))))), (qw, .inl (ki 0, 12, .inl (fun _ => 0))), (h0, .inr (2, [.int 0, .int 0, .int 0, .int 0, .ref qw, .ref qp]))] H := hP
  have hD : va_D (iA h0 s.heap.size) [(l4, .inr (1, [.int 0, .int 0, .int 0, .int 0, .int 0, .int 0, .int 0])), (l3, .inr (1, [.int 0, .int 0, .int 0, .int 0, .int 0, .int 0, .int 0])), (l2, .inr (1, [.int 0, .int 0, .int 0, .int 0, .int 0, .int 0, .int 0])), (l1, .inr (1, [.int 0, .int 0, .int 0, .int 0, .int 0, .int 0, .int 0])), (l0, .inr (1, [.int 0, .int 0, .int 0, .int 0, .int 0, .int 0, .int 0])), (qp, .inl (ki 2, 5, .inr (.inr (.inr (.inr (va_up (va_up (va_up (va_up (va_up (fun _ => none) 0 (some l0)) 1 (some l1)) 2 (some l2)) 3 (some l3)) 4 (some l4))))))), (qw, .inl (ki 0, 12, .inl (fun _ => 0))), (h0, .inr (2, [.int 0, .int 0, .int 0, .int 0, .ref qw, .ref qp]))] := hD
  refine lv_iinc (v := (5 : Int32)) (lv' := [(1, .int (5 : Int32)), (0, .ref h0)]) S.1 S.2.1 dX2_init_40 hl (k := 0) rfl (by decide) (by decide) rfl (fun ls hl => ?_)
  refine lv_goto (tgt := 22) S.1 S.2.1 dX2_init_43 (by decide) ?_
  refine lv_iload_n S.1 S.2.1 dX2_init_22 rfl (lv_at hl 0 rfl) ?_
  refine lv_iconst (v := (5 : Int32)) S.1 S.2.1 dX2_init_23 (by decide) ?_
  refine lv_icmp_ge (tgt := 46) S.1 S.2.1 dX2_init_24 (by decide) (fun _ => ?_) (fun h => absurd (by decide) h)
  have hP := va_P_refs (X := [(l4, .inr (1, [.int 0, .int 0, .int 0, .int 0, .int 0, .int 0, .int 0])), (l3, .inr (1, [.int 0, .int 0, .int 0, .int 0, .int 0, .int 0, .int 0])), (l2, .inr (1, [.int 0, .int 0, .int 0, .int 0, .int 0, .int 0, .int 0])), (l1, .inr (1, [.int 0, .int 0, .int 0, .int 0, .int 0, .int 0, .int 0])), (l0, .inr (1, [.int 0, .int 0, .int 0, .int 0, .int 0, .int 0, .int 0]))]) (g := fun j => some (am8 h0 qw qp l0 l1 l2 l3 l4 (3 + j))) (fun j hj => by rcases (show j = 0 ∨ j = 1 ∨ j = 2 ∨ j = 3 ∨ j = 4 by omega) with rfl | rfl | rfl | rfl | rfl <;> rfl) hP
  have hD := va_D_refs (e' := .inl (ki 2, 5, .inr (.inr (.inr (.inr (fun j => some (am8 h0 qw qp l0 l1 l2 l3 l4 (3 + j)))))))) (X := [(l4, .inr (1, [.int 0, .int 0, .int 0, .int 0, .int 0, .int 0, .int 0])), (l3, .inr (1, [.int 0, .int 0, .int 0, .int 0, .int 0, .int 0, .int 0])), (l2, .inr (1, [.int 0, .int 0, .int 0, .int 0, .int 0, .int 0, .int 0])), (l1, .inr (1, [.int 0, .int 0, .int 0, .int 0, .int 0, .int 0, .int 0])), (l0, .inr (1, [.int 0, .int 0, .int 0, .int 0, .int 0, .int 0, .int 0]))]) hD
  exact i_vret (am := am8 h0 qw qp l0 l1 l2 l3 l4) S hr hlk rfl (hP.perm (List.reverse_perm _).symm) (hD.perm (List.reverse_perm _).symm) hS dX2_init_46
