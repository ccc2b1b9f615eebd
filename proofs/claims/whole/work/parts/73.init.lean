/-! ===== the constructor of a chart ===== -/
def ad5 (a b c d e : Nat) : Nat → Nat := fun k => match k with
  | 3 => a
  | 4 => b
  | 5 => c
  | 6 => d
  | _ => e
def chE (ki : Nat → ClassId) (G : zMem) (am : Nat → Nat) : Nat → va_E := fun k => match k with
  | 0 => .inr (0, [.int (G 3 0), .int (G 3 1), .int (G 3 2), .int (G 3 3), .int (G 3 4), .int (G 3 5), .ref (am 1), .ref (am 2), .ref (am 3), .ref (am 4)])
  | 1 => .inl (ki 0, 6, .inl (G 4))
  | 2 => .inl (ki 0, 30, .inl (G 5))
  | 3 => .inl (ki 0, 12, .inl (G 6))
  | _ => .inl (ki 0, 600, .inl (G 7))
theorem ch_mem : ∃ G1 G2 : zMem, fX0_untell 2000 3 (fun _ _ => 0) 0 = some (0, G1, 0) ∧ fX0_drawEnds 2000 3 G1 0 = some (0, G2, 0) ∧ gX D0 G2 3 := by
  obtain ⟨G1, q1, -, d1⟩ := fw_untell (G := fun _ _ => 0) (tr := 0) (fun _ => 0) (N := 2000) (by omega) 3
  obtain ⟨G2, q2, -, g2⟩ := fw_ends (tr := 0) okA_D0 (t := 3) (N := 2000) (by omega) d1
  exact ⟨G1, G2, q1, q2, g2⟩
set_option maxHeartbeats 16000000 in
set_option maxRecDepth 100000 in
theorem iX0_init (l : Launch) (D : va_G) (ki : Nat → ClassId) (h0 : Nat) {G1 G2 : zMem} (f1 : fX0_untell 2000 3 (fun _ _ => 0) 0 = some (0, G1, 0)) (f2 : fX0_drawEnds 2000 3 G1 0 = some (0, G2, 0)) : iMet l D ki yX0_init wsX0_init { frames := 3, cells := 4, slots := 648, locals := 72 } h0 (.inr (0, [.int 0, .int 0, .int 0, .int 0, .int 0, .int 0, .null, .null, .null, .null])) 5 (chE ki G2) 4 648 := by
  refine iMet_of (cc := cX0_init) (maxL := 1) (own := RX0) (by decide +kernel) rfl rfl rfl (Nat.le_of_ble_eq_true rfl) ?_
  intro p e s m below meth c S hr hlk hin K hP hD hA hS ls hl
  have hC : kC [3, 4, 5, 6, 7] 3 := ⟨Or.inl rfl, fun i hi => by rcases (show i = 0 ∨ i = 1 ∨ i = 2 ∨ i = 3 ∨ i = 4 by omega) with rfl | rfl | rfl | rfl | rfl <;> decide⟩
  refine lv_aload_n S.1 S.2.1 dX0_init_0 rfl (lv_at hl 0 rfl) ?_
  refine i_obj S hl.1 (by decide +kernel) (by decide +kernel) (by decide +kernel) dX0_init_1 (Nat.le_of_ble_eq_true rfl) (Nat.le_of_ble_eq_true rfl) ?_
  refine lv_aload_n S.1 S.2.1 dX0_init_4 rfl (lv_at hl 0 rfl) ?_
  refine lv_bipush (v := (6 : Int32)) S.1 S.2.1 dX0_init_5 (by decide) ?_
  refine i_newi (N' := 6) S K hP hD hS hA (by decide +kernel) (by decide) rfl (Nat.le_of_ble_eq_true rfl) (Nat.le_of_ble_eq_true rfl) (Nat.le_of_ble_eq_true rfl) dX0_init_7 (fun q1 H hP hD hS => ?_)
  refine i_putF (ty := .array .int) S K hin hP hD hS 1 rfl rfl (by decide +kernel) tyX0 tyX0_ok nmX0 6 (by decide) (by decide +kernel) rfl (by decide +kernel) rfl rfl (Nat.le_of_ble_eq_true rfl) dX0_init_9 (fun H locs hP hD hS => ?_)
  refine lv_aload_n S.1 S.2.1 dX0_init_12 rfl (lv_at hl 0 rfl) ?_
  refine lv_bipush (v := (30 : Int32)) S.1 S.2.1 dX0_init_13 (by decide) ?_
  refine i_newi (N' := 30) S K hP hD hS hA (by decide +kernel) (by decide) rfl (Nat.le_of_ble_eq_true rfl) (Nat.le_of_ble_eq_true rfl) (Nat.le_of_ble_eq_true rfl) dX0_init_15 (fun q2 H hP hD hS => ?_)
  refine i_putF (ty := .array .int) S K hin hP hD hS 2 rfl rfl (by decide +kernel) tyX0 tyX0_ok nmX0 7 (by decide) (by decide +kernel) rfl (by decide +kernel) rfl rfl (Nat.le_of_ble_eq_true rfl) dX0_init_17 (fun H locs hP hD hS => ?_)
  refine lv_aload_n S.1 S.2.1 dX0_init_20 rfl (lv_at hl 0 rfl) ?_
  refine lv_bipush (v := (12 : Int32)) S.1 S.2.1 dX0_init_21 (by decide) ?_
  refine i_newi (N' := 12) S K hP hD hS hA (by decide +kernel) (by decide) rfl (Nat.le_of_ble_eq_true rfl) (Nat.le_of_ble_eq_true rfl) (Nat.le_of_ble_eq_true rfl) dX0_init_23 (fun q3 H hP hD hS => ?_)
  refine i_putF (ty := .array .int) S K hin hP hD hS 3 rfl rfl (by decide +kernel) tyX0 tyX0_ok nmX0 8 (by decide) (by decide +kernel) rfl (by decide +kernel) rfl rfl (Nat.le_of_ble_eq_true rfl) dX0_init_25 (fun H locs hP hD hS => ?_)
  refine lv_aload_n S.1 S.2.1 dX0_init_28 rfl (lv_at hl 0 rfl) ?_
  refine lv_sipush (v := (600 : Int32)) S.1 S.2.1 dX0_init_29 (by decide) ?_
  refine i_newi (N' := 600) S K hP hD hS hA (by decide +kernel) (by decide) rfl (Nat.le_of_ble_eq_true rfl) (Nat.le_of_ble_eq_true rfl) (Nat.le_of_ble_eq_true rfl) dX0_init_32 (fun q4 H hP hD hS => ?_)
  refine i_putF (ty := .array .int) S K hin hP hD hS 4 rfl rfl (by decide +kernel) tyX0 tyX0_ok nmX0 9 (by decide) (by decide +kernel) rfl (by decide +kernel) rfl rfl (Nat.le_of_ble_eq_true rfl) dX0_init_34 (fun H locs hP hD hS => ?_)
  have hP : va_P D vwCl (gW [3, 4, 5, 6, 7] (ad5 h0 q1 q2 q3 q4) (xE ki (ad5 h0 q1 q2 q3 q4) (fun _ _ => 0) 0) ++ []) H := hP.perm (List.reverse_perm _).symm
  have hD : va_D (iA h0 s.heap.size) (gW [3, 4, 5, 6, 7] (ad5 h0 q1 q2 q3 q4) (xE ki (ad5 h0 q1 q2 q3 q4) (fun _ _ => 0) 0) ++ []) := hD.perm (List.reverse_perm _).symm
  refine lv_aload_n S.1 S.2.1 dX0_init_37 rfl (lv_at hl 0 rfl) ?_
  refine g_callv (c0 := 3) (cs := [3, 4, 5, 6, 7]) (ad := ad5 h0 q1 q2 q3 q4) (Eg := xE ki (ad5 h0 q1 q2 q3 q4)) (As := []) (rest := []) (w2 := []) S K.1 K.2.1 hP hD hS hA (by decide) (xE_C hC) rfl (mX0_untell l D ki (ad5 h0 q1 q2 q3 q4) [3, 4, 5, 6, 7] 2000 3 hC (fun _ _ => 0) 0) f1 (cwV 0 S.2.2.2.2 gX0_init_X0_untell rfl rfl rfl (by decide +kernel) ⟨Nat.le_of_ble_eq_true rfl, Nat.le_of_ble_eq_true rfl⟩) rfl hl.1 rfl (lv_room (Nat.le_of_ble_eq_true rfl)) dX0_init_38 ⟨Nat.le_of_ble_eq_true rfl, Nat.le_of_ble_eq_true rfl⟩ (fun H locs hP hD hS => ?_)
  refine lv_aload_n S.1 S.2.1 dX0_init_41 rfl (lv_at hl 0 rfl) ?_
  refine g_callv (c0 := 3) (cs := [3, 4, 5, 6, 7]) (ad := ad5 h0 q1 q2 q3 q4) (Eg := xE ki (ad5 h0 q1 q2 q3 q4)) (As := []) (rest := []) (w2 := []) S K.1 K.2.1 hP hD hS hA (by decide) (xE_C hC) rfl (mX0_drawEnds l D ki (ad5 h0 q1 q2 q3 q4) [3, 4, 5, 6, 7] 2000 3 hC G1 0) f2 (cwV 0 S.2.2.2.2 gX0_init_X0_drawEnds rfl rfl rfl (by decide +kernel) ⟨Nat.le_of_ble_eq_true rfl, Nat.le_of_ble_eq_true rfl⟩) rfl hl.1 rfl (lv_room (Nat.le_of_ble_eq_true rfl)) dX0_init_42 ⟨Nat.le_of_ble_eq_true rfl, Nat.le_of_ble_eq_true rfl⟩ (fun H locs hP hD hS => ?_)
  exact i_vret (am := fun i => ad5 h0 q1 q2 q3 q4 (i + 3)) S hr hlk rfl hP hD hS dX0_init_45
