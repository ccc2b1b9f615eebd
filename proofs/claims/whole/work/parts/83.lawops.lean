/-! ===== the law, op by op (3) ===== -/
section lawC
variable {p : Program} {l : Launch} {e : Env} {s : State} {m : MethodId} {args : Array Value} {below : List Frame} {meth : Method} {c : Code} {H : Heap} {locs : List Loc} {Q : State → Prop} {ls : Array Slot} {D : va_G} {ki : Nat → ClassId} {ad adm : Nat → Nat} {b L i : Nat} {xs : Nat → Int32} {G Gm : zMem} {tr trm : Int64}
set_option maxHeartbeats 8000000 in
set_option maxRecDepth 100000 in
theorem law_loop (S : CallFix p m c cL_law 4 s args lw_tbl RL) (hKK : va_K D vwCl (zT ki) s) (hNN : nK s) (hX : va_X b L xs s s.heap) (hbl : b < s.heap.size) (hi : i + 5 ≤ L) (hL : L ≤ 320) (h : Rel G tr Gm trm) (w : lS D ki ad adm s G tr Gm trm H locs) (hl : lv_has ls 4 [(3, .int (nI i)), (2, .ref (adm 0)), (1, .ref (ad 0)), (0, .ref b)])
    (kk : ∀ (G : zMem) (tr : Int64) (Gm : zMem) (trm : Int64) (H : Heap) (locs : List Loc) (ls : Array Slot), Rel G tr Gm trm → lS D ki ad adm s G tr Gm trm H locs → lv_has ls 4 [(3, .int (nI i)), (2, .ref (adm 0)), (1, .ref (ad 0)), (0, .ref b)] → W p l e room_1 s m args below meth c H locs 600000 7302250 Q (F0 m 1076 ls [])) : W p l e room_1 s m args below meth c H locs 600000 7302250 Q (F0 m 580 ls []) := by
  obtain ⟨hP, hD, hS⟩ := w
  have hA : ∀ q, s.heap.size ≤ q → lA s q := fun _ h => h
  have hbA : ¬ lA s b := Nat.not_le.mpr hbl
  have v1 : vp_in (nI i + nI 1) L := la_in hi hL (by omega)
  obtain ⟨r, G1, tr1, Gm1, trm1, e1, e2, hR⟩ := op_loop h (N := 2000) (by omega) (xs (nI i + nI 1).toNatClampNeg)
  refine lv_aload_n S.1 S.2.1 dL_law_580 rfl (lv_at hl 2 rfl) ?_
  refine lv_aload_n S.1 S.2.1 dL_law_581 rfl (lv_at hl 3 rfl) ?_
  refine lv_iload_n S.1 S.2.1 dL_law_582 rfl (lv_at hl 0 rfl) ?_
  refine lv_iconst (v := nI 1) S.1 S.2.1 dL_law_583 (by decide) ?_
  refine lv_iadd S.1 S.2.1 dL_law_584 ?_
  refine va_sld S.1 S.2.1 hX hbl hbA hS v1 dL_law_585 ?_
  refine g_calli (c0 := 0) (cs := csW) (ad := ad) (Eg := xE ki ad) (As := [.int (xs (nI i + nI 1).toNatClampNeg)]) (rest := []) (w2 := gW csM adm (mE ki adm Gm trm)) S hKK hNN hP hD hS hA (kW_c 0 (by omega)) xE_W rfl (mX4_loop l D ki ad csW kW_c 2000 (xs (nI i + nI 1).toNatClampNeg) G tr) e1 (cwV 1 S.2.2.2.2 lG_X4_loop rfl rfl rfl (by decide +kernel) ⟨Nat.le_of_ble_eq_true rfl, Nat.le_of_ble_eq_true rfl⟩) rfl hl.1 rfl (lv_room (Nat.le_of_ble_eq_true rfl)) dL_law_586 ⟨Nat.le_of_ble_eq_true rfl, Nat.le_of_ble_eq_true rfl⟩ (fun H locs hP hD hS => ?_)
  have hP := hP.perm List.perm_append_comm
  have hD := hD.perm List.perm_append_comm
  refine lv_aload_n S.1 S.2.1 dL_law_589 rfl (lv_at hl 1 rfl) ?_
  refine lv_aload_n S.1 S.2.1 dL_law_590 rfl (lv_at hl 3 rfl) ?_
  refine lv_iload_n S.1 S.2.1 dL_law_591 rfl (lv_at hl 0 rfl) ?_
  refine lv_iconst (v := nI 1) S.1 S.2.1 dL_law_592 (by decide) ?_
  refine lv_iadd S.1 S.2.1 dL_law_593 ?_
  refine va_sld S.1 S.2.1 hX hbl hbA hS v1 dL_law_594 ?_
  refine g_calli (c0 := 0) (cs := csM) (ad := adm) (Eg := mE ki adm) (As := [.int (xs (nI i + nI 1).toNatClampNeg)]) (rest := [.int r]) (w2 := gW csW ad (xE ki ad G1 tr1)) S hKK hNN hP hD hS hA (kR_c 0 (by omega)) mE_R rfl (mX5_loop l D ki adm csM kR_c 2000 (xs (nI i + nI 1).toNatClampNeg) Gm trm) e2 (cwV 1 S.2.2.2.2 lG_X5_loop rfl rfl rfl (by decide +kernel) ⟨Nat.le_of_ble_eq_true rfl, Nat.le_of_ble_eq_true rfl⟩) rfl hl.1 rfl (lv_room (Nat.le_of_ble_eq_true rfl)) dL_law_595 ⟨Nat.le_of_ble_eq_true rfl, Nat.le_of_ble_eq_true rfl⟩ (fun H locs hP hD hS => ?_)
  have hP := hP.perm List.perm_append_comm
  have hD := hD.perm List.perm_append_comm
  exact lv_icmp_eq (tgt := 1076) S.1 S.2.1 dL_law_598 (by decide) (fun _ => kk _ _ _ _ _ _ _ hR ⟨hP, hD, hS⟩ hl) (fun hn => absurd rfl hn)
set_option maxHeartbeats 8000000 in
set_option maxRecDepth 100000 in
theorem law_tangled (S : CallFix p m c cL_law 4 s args lw_tbl RL) (hKK : va_K D vwCl (zT ki) s) (hNN : nK s) (hX : va_X b L xs s s.heap) (hbl : b < s.heap.size) (hi : i + 5 ≤ L) (hL : L ≤ 320) (h : Rel G tr Gm trm) (w : lS D ki ad adm s G tr Gm trm H locs) (hl : lv_has ls 4 [(3, .int (nI i)), (2, .ref (adm 0)), (1, .ref (ad 0)), (0, .ref b)])
    (kk : ∀ (G : zMem) (tr : Int64) (Gm : zMem) (trm : Int64) (H : Heap) (locs : List Loc) (ls : Array Slot), Rel G tr Gm trm → lS D ki ad adm s G tr Gm trm H locs → lv_has ls 4 [(3, .int (nI i)), (2, .ref (adm 0)), (1, .ref (ad 0)), (0, .ref b)] → W p l e room_1 s m args below meth c H locs 600000 7302250 Q (F0 m 1076 ls [])) : W p l e room_1 s m args below meth c H locs 600000 7302250 Q (F0 m 603 ls []) := by
  obtain ⟨hP, hD, hS⟩ := w
  have hA : ∀ q, s.heap.size ≤ q → lA s q := fun _ h => h
  have hbA : ¬ lA s b := Nat.not_le.mpr hbl
  have v1 : vp_in (nI i + nI 1) L := la_in hi hL (by omega)
  have v2 : vp_in (nI i + nI 2) L := la_in hi hL (by omega)
  obtain ⟨r, G1, tr1, Gm1, trm1, e1, e2, hR⟩ := op_tangled h (N := 2000) (by omega) (xs (nI i + nI 1).toNatClampNeg) (xs (nI i + nI 2).toNatClampNeg)
  refine lv_aload_n S.1 S.2.1 dL_law_603 rfl (lv_at hl 2 rfl) ?_
  refine lv_aload_n S.1 S.2.1 dL_law_604 rfl (lv_at hl 3 rfl) ?_
  refine lv_iload_n S.1 S.2.1 dL_law_605 rfl (lv_at hl 0 rfl) ?_
  refine lv_iconst (v := nI 1) S.1 S.2.1 dL_law_606 (by decide) ?_
  refine lv_iadd S.1 S.2.1 dL_law_607 ?_
  refine va_sld S.1 S.2.1 hX hbl hbA hS v1 dL_law_608 ?_
  refine lv_aload_n S.1 S.2.1 dL_law_609 rfl (lv_at hl 3 rfl) ?_
  refine lv_iload_n S.1 S.2.1 dL_law_610 rfl (lv_at hl 0 rfl) ?_
  refine lv_iconst (v := nI 2) S.1 S.2.1 dL_law_611 (by decide) ?_
  refine lv_iadd S.1 S.2.1 dL_law_612 ?_
  refine va_sld S.1 S.2.1 hX hbl hbA hS v2 dL_law_613 ?_
  refine g_calli (c0 := 0) (cs := csW) (ad := ad) (Eg := xE ki ad) (As := [.int (xs (nI i + nI 1).toNatClampNeg), .int (xs (nI i + nI 2).toNatClampNeg)]) (rest := []) (w2 := gW csM adm (mE ki adm Gm trm)) S hKK hNN hP hD hS hA (kW_c 0 (by omega)) xE_W rfl (mX4_tangled l D ki ad csW kW_c 2000 (xs (nI i + nI 1).toNatClampNeg) (xs (nI i + nI 2).toNatClampNeg) G tr) e1 (cwV 2 S.2.2.2.2 lG_X4_tangled rfl rfl rfl (by decide +kernel) ⟨Nat.le_of_ble_eq_true rfl, Nat.le_of_ble_eq_true rfl⟩) rfl hl.1 rfl (lv_room (Nat.le_of_ble_eq_true rfl)) dL_law_614 ⟨Nat.le_of_ble_eq_true rfl, Nat.le_of_ble_eq_true rfl⟩ (fun H locs hP hD hS => ?_)
  have hP := hP.perm List.perm_append_comm
  have hD := hD.perm List.perm_append_comm
  refine lv_aload_n S.1 S.2.1 dL_law_617 rfl (lv_at hl 1 rfl) ?_
  refine lv_aload_n S.1 S.2.1 dL_law_618 rfl (lv_at hl 3 rfl) ?_
  refine lv_iload_n S.1 S.2.1 dL_law_619 rfl (lv_at hl 0 rfl) ?_
  refine lv_iconst (v := nI 1) S.1 S.2.1 dL_law_620 (by decide) ?_
  refine lv_iadd S.1 S.2.1 dL_law_621 ?_
  refine va_sld S.1 S.2.1 hX hbl hbA hS v1 dL_law_622 ?_
  refine lv_aload_n S.1 S.2.1 dL_law_623 rfl (lv_at hl 3 rfl) ?_
  refine lv_iload_n S.1 S.2.1 dL_law_624 rfl (lv_at hl 0 rfl) ?_
  refine lv_iconst (v := nI 2) S.1 S.2.1 dL_law_625 (by decide) ?_
  refine lv_iadd S.1 S.2.1 dL_law_626 ?_
  refine va_sld S.1 S.2.1 hX hbl hbA hS v2 dL_law_627 ?_
  refine g_calli (c0 := 0) (cs := csM) (ad := adm) (Eg := mE ki adm) (As := [.int (xs (nI i + nI 1).toNatClampNeg), .int (xs (nI i + nI 2).toNatClampNeg)]) (rest := [.int r]) (w2 := gW csW ad (xE ki ad G1 tr1)) S hKK hNN hP hD hS hA (kR_c 0 (by omega)) mE_R rfl (mX5_tangled l D ki adm csM kR_c 2000 (xs (nI i + nI 1).toNatClampNeg) (xs (nI i + nI 2).toNatClampNeg) Gm trm) e2 (cwV 2 S.2.2.2.2 lG_X5_tangled rfl rfl rfl (by decide +kernel) ⟨Nat.le_of_ble_eq_true rfl, Nat.le_of_ble_eq_true rfl⟩) rfl hl.1 rfl (lv_room (Nat.le_of_ble_eq_true rfl)) dL_law_628 ⟨Nat.le_of_ble_eq_true rfl, Nat.le_of_ble_eq_true rfl⟩ (fun H locs hP hD hS => ?_)
  have hP := hP.perm List.perm_append_comm
  have hD := hD.perm List.perm_append_comm
  exact lv_icmp_eq (tgt := 1076) S.1 S.2.1 dL_law_631 (by decide) (fun _ => kk _ _ _ _ _ _ _ hR ⟨hP, hD, hS⟩ hl) (fun hn => absurd rfl hn)
set_option maxHeartbeats 8000000 in
set_option maxRecDepth 100000 in
theorem law_soonest (S : CallFix p m c cL_law 4 s args lw_tbl RL) (hKK : va_K D vwCl (zT ki) s) (hNN : nK s) (hX : va_X b L xs s s.heap) (hbl : b < s.heap.size) (hi : i + 5 ≤ L) (hL : L ≤ 320) (h : Rel G tr Gm trm) (w : lS D ki ad adm s G tr Gm trm H locs) (hl : lv_has ls 4 [(3, .int (nI i)), (2, .ref (adm 0)), (1, .ref (ad 0)), (0, .ref b)])
    (kk : ∀ (G : zMem) (tr : Int64) (Gm : zMem) (trm : Int64) (H : Heap) (locs : List Loc) (ls : Array Slot), Rel G tr Gm trm → lS D ki ad adm s G tr Gm trm H locs → lv_has ls 4 [(3, .int (nI i)), (2, .ref (adm 0)), (1, .ref (ad 0)), (0, .ref b)] → W p l e room_1 s m args below meth c H locs 600000 7302250 Q (F0 m 1076 ls [])) : W p l e room_1 s m args below meth c H locs 600000 7302250 Q (F0 m 636 ls []) := by
  obtain ⟨hP, hD, hS⟩ := w
  have hA : ∀ q, s.heap.size ≤ q → lA s q := fun _ h => h
  have hbA : ¬ lA s b := Nat.not_le.mpr hbl
  have v1 : vp_in (nI i + nI 1) L := la_in hi hL (by omega)
  have v2 : vp_in (nI i + nI 2) L := la_in hi hL (by omega)
  have v3 : vp_in (nI i + nI 3) L := la_in hi hL (by omega)
  have v4 : vp_in (nI i + nI 4) L := la_in hi hL (by omega)
  obtain ⟨r, G1, tr1, Gm1, trm1, e1, e2, hR⟩ := op_soonest h (N := 2000) (by omega) (xs (nI i + nI 1).toNatClampNeg) (xs (nI i + nI 2).toNatClampNeg) (xs (nI i + nI 3).toNatClampNeg) (xs (nI i + nI 4).toNatClampNeg)
  refine lv_aload_n S.1 S.2.1 dL_law_636 rfl (lv_at hl 2 rfl) ?_
  refine lv_aload_n S.1 S.2.1 dL_law_637 rfl (lv_at hl 3 rfl) ?_
  refine lv_iload_n S.1 S.2.1 dL_law_638 rfl (lv_at hl 0 rfl) ?_
  refine lv_iconst (v := nI 1) S.1 S.2.1 dL_law_639 (by decide) ?_
  refine lv_iadd S.1 S.2.1 dL_law_640 ?_
  refine va_sld S.1 S.2.1 hX hbl hbA hS v1 dL_law_641 ?_
  refine lv_aload_n S.1 S.2.1 dL_law_642 rfl (lv_at hl 3 rfl) ?_
  refine lv_iload_n S.1 S.2.1 dL_law_643 rfl (lv_at hl 0 rfl) ?_
  refine lv_iconst (v := nI 2) S.1 S.2.1 dL_law_644 (by decide) ?_
  refine lv_iadd S.1 S.2.1 dL_law_645 ?_
  refine va_sld S.1 S.2.1 hX hbl hbA hS v2 dL_law_646 ?_
  refine lv_aload_n S.1 S.2.1 dL_law_647 rfl (lv_at hl 3 rfl) ?_
  refine lv_iload_n S.1 S.2.1 dL_law_648 rfl (lv_at hl 0 rfl) ?_
  refine lv_iconst (v := nI 3) S.1 S.2.1 dL_law_649 (by decide) ?_
  refine lv_iadd S.1 S.2.1 dL_law_650 ?_
  refine va_sld S.1 S.2.1 hX hbl hbA hS v3 dL_law_651 ?_
  refine lv_aload_n S.1 S.2.1 dL_law_652 rfl (lv_at hl 3 rfl) ?_
  refine lv_iload_n S.1 S.2.1 dL_law_653 rfl (lv_at hl 0 rfl) ?_
  refine lv_iconst (v := nI 4) S.1 S.2.1 dL_law_654 (by decide) ?_
  refine lv_iadd S.1 S.2.1 dL_law_655 ?_
  refine va_sld S.1 S.2.1 hX hbl hbA hS v4 dL_law_656 ?_
  refine g_calli (c0 := 0) (cs := csW) (ad := ad) (Eg := xE ki ad) (As := [.int (xs (nI i + nI 1).toNatClampNeg), .int (xs (nI i + nI 2).toNatClampNeg), .int (xs (nI i + nI 3).toNatClampNeg), .int (xs (nI i + nI 4).toNatClampNeg)]) (rest := []) (w2 := gW csM adm (mE ki adm Gm trm)) S hKK hNN hP hD hS hA (kW_c 0 (by omega)) xE_W rfl (mX4_soonest l D ki ad csW kW_c 2000 (xs (nI i + nI 1).toNatClampNeg) (xs (nI i + nI 2).toNatClampNeg) (xs (nI i + nI 3).toNatClampNeg) (xs (nI i + nI 4).toNatClampNeg) G tr) e1 (cwV 4 S.2.2.2.2 lG_X4_soonest rfl rfl rfl (by decide +kernel) ⟨Nat.le_of_ble_eq_true rfl, Nat.le_of_ble_eq_true rfl⟩) rfl hl.1 rfl (lv_room (Nat.le_of_ble_eq_true rfl)) dL_law_657 ⟨Nat.le_of_ble_eq_true rfl, Nat.le_of_ble_eq_true rfl⟩ (fun H locs hP hD hS => ?_)
  have hP := hP.perm List.perm_append_comm
  have hD := hD.perm List.perm_append_comm
  refine lv_aload_n S.1 S.2.1 dL_law_660 rfl (lv_at hl 1 rfl) ?_
  refine lv_aload_n S.1 S.2.1 dL_law_661 rfl (lv_at hl 3 rfl) ?_
  refine lv_iload_n S.1 S.2.1 dL_law_662 rfl (lv_at hl 0 rfl) ?_
  refine lv_iconst (v := nI 1) S.1 S.2.1 dL_law_663 (by decide) ?_
  refine lv_iadd S.1 S.2.1 dL_law_664 ?_
  refine va_sld S.1 S.2.1 hX hbl hbA hS v1 dL_law_665 ?_
  refine lv_aload_n S.1 S.2.1 dL_law_666 rfl (lv_at hl 3 rfl) ?_
  refine lv_iload_n S.1 S.2.1 dL_law_667 rfl (lv_at hl 0 rfl) ?_
  refine lv_iconst (v := nI 2) S.1 S.2.1 dL_law_668 (by decide) ?_
  refine lv_iadd S.1 S.2.1 dL_law_669 ?_
  refine va_sld S.1 S.2.1 hX hbl hbA hS v2 dL_law_670 ?_
  refine lv_aload_n S.1 S.2.1 dL_law_671 rfl (lv_at hl 3 rfl) ?_
  refine lv_iload_n S.1 S.2.1 dL_law_672 rfl (lv_at hl 0 rfl) ?_
  refine lv_iconst (v := nI 3) S.1 S.2.1 dL_law_673 (by decide) ?_
  refine lv_iadd S.1 S.2.1 dL_law_674 ?_
  refine va_sld S.1 S.2.1 hX hbl hbA hS v3 dL_law_675 ?_
  refine lv_aload_n S.1 S.2.1 dL_law_676 rfl (lv_at hl 3 rfl) ?_
  refine lv_iload_n S.1 S.2.1 dL_law_677 rfl (lv_at hl 0 rfl) ?_
  refine lv_iconst (v := nI 4) S.1 S.2.1 dL_law_678 (by decide) ?_
  refine lv_iadd S.1 S.2.1 dL_law_679 ?_
  refine va_sld S.1 S.2.1 hX hbl hbA hS v4 dL_law_680 ?_
  refine g_calli (c0 := 0) (cs := csM) (ad := adm) (Eg := mE ki adm) (As := [.int (xs (nI i + nI 1).toNatClampNeg), .int (xs (nI i + nI 2).toNatClampNeg), .int (xs (nI i + nI 3).toNatClampNeg), .int (xs (nI i + nI 4).toNatClampNeg)]) (rest := [.int r]) (w2 := gW csW ad (xE ki ad G1 tr1)) S hKK hNN hP hD hS hA (kR_c 0 (by omega)) mE_R rfl (mX5_soonest l D ki adm csM kR_c 2000 (xs (nI i + nI 1).toNatClampNeg) (xs (nI i + nI 2).toNatClampNeg) (xs (nI i + nI 3).toNatClampNeg) (xs (nI i + nI 4).toNatClampNeg) Gm trm) e2 (cwV 4 S.2.2.2.2 lG_X5_soonest rfl rfl rfl (by decide +kernel) ⟨Nat.le_of_ble_eq_true rfl, Nat.le_of_ble_eq_true rfl⟩) rfl hl.1 rfl (lv_room (Nat.le_of_ble_eq_true rfl)) dL_law_681 ⟨Nat.le_of_ble_eq_true rfl, Nat.le_of_ble_eq_true rfl⟩ (fun H locs hP hD hS => ?_)
  have hP := hP.perm List.perm_append_comm
  have hD := hD.perm List.perm_append_comm
  exact lv_icmp_eq (tgt := 1076) S.1 S.2.1 dL_law_684 (by decide) (fun _ => kk _ _ _ _ _ _ _ hR ⟨hP, hD, hS⟩ hl) (fun hn => absurd rfl hn)
set_option maxHeartbeats 8000000 in
set_option maxRecDepth 100000 in
theorem law_lightest (S : CallFix p m c cL_law 4 s args lw_tbl RL) (hKK : va_K D vwCl (zT ki) s) (hNN : nK s) (hX : va_X b L xs s s.heap) (hbl : b < s.heap.size) (hi : i + 5 ≤ L) (hL : L ≤ 320) (h : Rel G tr Gm trm) (w : lS D ki ad adm s G tr Gm trm H locs) (hl : lv_has ls 4 [(3, .int (nI i)), (2, .ref (adm 0)), (1, .ref (ad 0)), (0, .ref b)])
    (kk : ∀ (G : zMem) (tr : Int64) (Gm : zMem) (trm : Int64) (H : Heap) (locs : List Loc) (ls : Array Slot), Rel G tr Gm trm → lS D ki ad adm s G tr Gm trm H locs → lv_has ls 4 [(3, .int (nI i)), (2, .ref (adm 0)), (1, .ref (ad 0)), (0, .ref b)] → W p l e room_1 s m args below meth c H locs 600000 7302250 Q (F0 m 1076 ls [])) : W p l e room_1 s m args below meth c H locs 600000 7302250 Q (F0 m 689 ls []) := by
  obtain ⟨hP, hD, hS⟩ := w
  have hA : ∀ q, s.heap.size ≤ q → lA s q := fun _ h => h
  have hbA : ¬ lA s b := Nat.not_le.mpr hbl
  have v1 : vp_in (nI i + nI 1) L := la_in hi hL (by omega)
  have v2 : vp_in (nI i + nI 2) L := la_in hi hL (by omega)
  have v3 : vp_in (nI i + nI 3) L := la_in hi hL (by omega)
  obtain ⟨r, G1, tr1, Gm1, trm1, e1, e2, hR⟩ := op_lightest h (N := 2000) (by omega) (xs (nI i + nI 1).toNatClampNeg) (xs (nI i + nI 2).toNatClampNeg) (xs (nI i + nI 3).toNatClampNeg)
  refine lv_aload_n S.1 S.2.1 dL_law_689 rfl (lv_at hl 2 rfl) ?_
  refine lv_aload_n S.1 S.2.1 dL_law_690 rfl (lv_at hl 3 rfl) ?_
  refine lv_iload_n S.1 S.2.1 dL_law_691 rfl (lv_at hl 0 rfl) ?_
  refine lv_iconst (v := nI 1) S.1 S.2.1 dL_law_692 (by decide) ?_
  refine lv_iadd S.1 S.2.1 dL_law_693 ?_
  refine va_sld S.1 S.2.1 hX hbl hbA hS v1 dL_law_694 ?_
  refine lv_aload_n S.1 S.2.1 dL_law_695 rfl (lv_at hl 3 rfl) ?_
  refine lv_iload_n S.1 S.2.1 dL_law_696 rfl (lv_at hl 0 rfl) ?_
  refine lv_iconst (v := nI 2) S.1 S.2.1 dL_law_697 (by decide) ?_
  refine lv_iadd S.1 S.2.1 dL_law_698 ?_
  refine va_sld S.1 S.2.1 hX hbl hbA hS v2 dL_law_699 ?_
  refine lv_aload_n S.1 S.2.1 dL_law_700 rfl (lv_at hl 3 rfl) ?_
  refine lv_iload_n S.1 S.2.1 dL_law_701 rfl (lv_at hl 0 rfl) ?_
  refine lv_iconst (v := nI 3) S.1 S.2.1 dL_law_702 (by decide) ?_
  refine lv_iadd S.1 S.2.1 dL_law_703 ?_
  refine va_sld S.1 S.2.1 hX hbl hbA hS v3 dL_law_704 ?_
  refine g_calli (c0 := 0) (cs := csW) (ad := ad) (Eg := xE ki ad) (As := [.int (xs (nI i + nI 1).toNatClampNeg), .int (xs (nI i + nI 2).toNatClampNeg), .int (xs (nI i + nI 3).toNatClampNeg)]) (rest := []) (w2 := gW csM adm (mE ki adm Gm trm)) S hKK hNN hP hD hS hA (kW_c 0 (by omega)) xE_W rfl (mX4_lightest l D ki ad csW kW_c 2000 (xs (nI i + nI 1).toNatClampNeg) (xs (nI i + nI 2).toNatClampNeg) (xs (nI i + nI 3).toNatClampNeg) G tr) e1 (cwV 3 S.2.2.2.2 lG_X4_lightest rfl rfl rfl (by decide +kernel) ⟨Nat.le_of_ble_eq_true rfl, Nat.le_of_ble_eq_true rfl⟩) rfl hl.1 rfl (lv_room (Nat.le_of_ble_eq_true rfl)) dL_law_705 ⟨Nat.le_of_ble_eq_true rfl, Nat.le_of_ble_eq_true rfl⟩ (fun H locs hP hD hS => ?_)
  have hP := hP.perm List.perm_append_comm
  have hD := hD.perm List.perm_append_comm
  refine lv_aload_n S.1 S.2.1 dL_law_708 rfl (lv_at hl 1 rfl) ?_
  refine lv_aload_n S.1 S.2.1 dL_law_709 rfl (lv_at hl 3 rfl) ?_
  refine lv_iload_n S.1 S.2.1 dL_law_710 rfl (lv_at hl 0 rfl) ?_
  refine lv_iconst (v := nI 1) S.1 S.2.1 dL_law_711 (by decide) ?_
  refine lv_iadd S.1 S.2.1 dL_law_712 ?_
  refine va_sld S.1 S.2.1 hX hbl hbA hS v1 dL_law_713 ?_
  refine lv_aload_n S.1 S.2.1 dL_law_714 rfl (lv_at hl 3 rfl) ?_
  refine lv_iload_n S.1 S.2.1 dL_law_715 rfl (lv_at hl 0 rfl) ?_
  refine lv_iconst (v := nI 2) S.1 S.2.1 dL_law_716 (by decide) ?_
  refine lv_iadd S.1 S.2.1 dL_law_717 ?_
  refine va_sld S.1 S.2.1 hX hbl hbA hS v2 dL_law_718 ?_
  refine lv_aload_n S.1 S.2.1 dL_law_719 rfl (lv_at hl 3 rfl) ?_
  refine lv_iload_n S.1 S.2.1 dL_law_720 rfl (lv_at hl 0 rfl) ?_
  refine lv_iconst (v := nI 3) S.1 S.2.1 dL_law_721 (by decide) ?_
  refine lv_iadd S.1 S.2.1 dL_law_722 ?_
  refine va_sld S.1 S.2.1 hX hbl hbA hS v3 dL_law_723 ?_
  refine g_calli (c0 := 0) (cs := csM) (ad := adm) (Eg := mE ki adm) (As := [.int (xs (nI i + nI 1).toNatClampNeg), .int (xs (nI i + nI 2).toNatClampNeg), .int (xs (nI i + nI 3).toNatClampNeg)]) (rest := [.int r]) (w2 := gW csW ad (xE ki ad G1 tr1)) S hKK hNN hP hD hS hA (kR_c 0 (by omega)) mE_R rfl (mX5_lightest l D ki adm csM kR_c 2000 (xs (nI i + nI 1).toNatClampNeg) (xs (nI i + nI 2).toNatClampNeg) (xs (nI i + nI 3).toNatClampNeg) Gm trm) e2 (cwV 3 S.2.2.2.2 lG_X5_lightest rfl rfl rfl (by decide +kernel) ⟨Nat.le_of_ble_eq_true rfl, Nat.le_of_ble_eq_true rfl⟩) rfl hl.1 rfl (lv_room (Nat.le_of_ble_eq_true rfl)) dL_law_724 ⟨Nat.le_of_ble_eq_true rfl, Nat.le_of_ble_eq_true rfl⟩ (fun H locs hP hD hS => ?_)
  have hP := hP.perm List.perm_append_comm
  have hD := hD.perm List.perm_append_comm
  exact lv_icmp_eq (tgt := 1076) S.1 S.2.1 dL_law_727 (by decide) (fun _ => kk _ _ _ _ _ _ _ hR ⟨hP, hD, hS⟩ hl) (fun hn => absurd rfl hn)
set_option maxHeartbeats 8000000 in
set_option maxRecDepth 100000 in
theorem law_words (S : CallFix p m c cL_law 4 s args lw_tbl RL) (hKK : va_K D vwCl (zT ki) s) (hNN : nK s) (hX : va_X b L xs s s.heap) (hbl : b < s.heap.size) (hi : i + 5 ≤ L) (hL : L ≤ 320) (h : Rel G tr Gm trm) (w : lS D ki ad adm s G tr Gm trm H locs) (hl : lv_has ls 4 [(3, .int (nI i)), (2, .ref (adm 0)), (1, .ref (ad 0)), (0, .ref b)])
    (kk : ∀ (G : zMem) (tr : Int64) (Gm : zMem) (trm : Int64) (H : Heap) (locs : List Loc) (ls : Array Slot), Rel G tr Gm trm → lS D ki ad adm s G tr Gm trm H locs → lv_has ls 4 [(3, .int (nI i)), (2, .ref (adm 0)), (1, .ref (ad 0)), (0, .ref b)] → W p l e room_1 s m args below meth c H locs 600000 7302250 Q (F0 m 1076 ls [])) : W p l e room_1 s m args below meth c H locs 600000 7302250 Q (F0 m 732 ls []) := by
  obtain ⟨hP, hD, hS⟩ := w
  have hA : ∀ q, s.heap.size ≤ q → lA s q := fun _ h => h
  have hbA : ¬ lA s b := Nat.not_le.mpr hbl
  have v1 : vp_in (nI i + nI 1) L := la_in hi hL (by omega)
  obtain ⟨r, G1, tr1, Gm1, trm1, e1, e2, hR⟩ := op_words h (N := 2000) (by omega) (xs (nI i + nI 1).toNatClampNeg)
  refine lv_aload_n S.1 S.2.1 dL_law_732 rfl (lv_at hl 2 rfl) ?_
  refine lv_aload_n S.1 S.2.1 dL_law_733 rfl (lv_at hl 3 rfl) ?_
  refine lv_iload_n S.1 S.2.1 dL_law_734 rfl (lv_at hl 0 rfl) ?_
  refine lv_iconst (v := nI 1) S.1 S.2.1 dL_law_735 (by decide) ?_
  refine lv_iadd S.1 S.2.1 dL_law_736 ?_
  refine va_sld S.1 S.2.1 hX hbl hbA hS v1 dL_law_737 ?_
  refine g_calli (c0 := 0) (cs := csW) (ad := ad) (Eg := xE ki ad) (As := [.int (xs (nI i + nI 1).toNatClampNeg)]) (rest := []) (w2 := gW csM adm (mE ki adm Gm trm)) S hKK hNN hP hD hS hA (kW_c 0 (by omega)) xE_W rfl (mX4_words l D ki ad csW kW_c 2000 (xs (nI i + nI 1).toNatClampNeg) G tr) e1 (cwV 1 S.2.2.2.2 lG_X4_words rfl rfl rfl (by decide +kernel) ⟨Nat.le_of_ble_eq_true rfl, Nat.le_of_ble_eq_true rfl⟩) rfl hl.1 rfl (lv_room (Nat.le_of_ble_eq_true rfl)) dL_law_738 ⟨Nat.le_of_ble_eq_true rfl, Nat.le_of_ble_eq_true rfl⟩ (fun H locs hP hD hS => ?_)
  have hP := hP.perm List.perm_append_comm
  have hD := hD.perm List.perm_append_comm
  refine lv_aload_n S.1 S.2.1 dL_law_741 rfl (lv_at hl 1 rfl) ?_
  refine lv_aload_n S.1 S.2.1 dL_law_742 rfl (lv_at hl 3 rfl) ?_
  refine lv_iload_n S.1 S.2.1 dL_law_743 rfl (lv_at hl 0 rfl) ?_
  refine lv_iconst (v := nI 1) S.1 S.2.1 dL_law_744 (by decide) ?_
  refine lv_iadd S.1 S.2.1 dL_law_745 ?_
  refine va_sld S.1 S.2.1 hX hbl hbA hS v1 dL_law_746 ?_
  refine g_calli (c0 := 0) (cs := csM) (ad := adm) (Eg := mE ki adm) (As := [.int (xs (nI i + nI 1).toNatClampNeg)]) (rest := [.int r]) (w2 := gW csW ad (xE ki ad G1 tr1)) S hKK hNN hP hD hS hA (kR_c 0 (by omega)) mE_R rfl (mX5_words l D ki adm csM kR_c 2000 (xs (nI i + nI 1).toNatClampNeg) Gm trm) e2 (cwV 1 S.2.2.2.2 lG_X5_words rfl rfl rfl (by decide +kernel) ⟨Nat.le_of_ble_eq_true rfl, Nat.le_of_ble_eq_true rfl⟩) rfl hl.1 rfl (lv_room (Nat.le_of_ble_eq_true rfl)) dL_law_747 ⟨Nat.le_of_ble_eq_true rfl, Nat.le_of_ble_eq_true rfl⟩ (fun H locs hP hD hS => ?_)
  have hP := hP.perm List.perm_append_comm
  have hD := hD.perm List.perm_append_comm
  exact lv_icmp_eq (tgt := 1076) S.1 S.2.1 dL_law_750 (by decide) (fun _ => kk _ _ _ _ _ _ _ hR ⟨hP, hD, hS⟩ hl) (fun hn => absurd rfl hn)
set_option maxHeartbeats 8000000 in
set_option maxRecDepth 100000 in
theorem law_nets (S : CallFix p m c cL_law 4 s args lw_tbl RL) (hKK : va_K D vwCl (zT ki) s) (hNN : nK s) (hX : va_X b L xs s s.heap) (hbl : b < s.heap.size) (hi : i + 5 ≤ L) (hL : L ≤ 320) (h : Rel G tr Gm trm) (w : lS D ki ad adm s G tr Gm trm H locs) (hl : lv_has ls 4 [(3, .int (nI i)), (2, .ref (adm 0)), (1, .ref (ad 0)), (0, .ref b)])
    (kk : ∀ (G : zMem) (tr : Int64) (Gm : zMem) (trm : Int64) (H : Heap) (locs : List Loc) (ls : Array Slot), Rel G tr Gm trm → lS D ki ad adm s G tr Gm trm H locs → lv_has ls 4 [(3, .int (nI i)), (2, .ref (adm 0)), (1, .ref (ad 0)), (0, .ref b)] → W p l e room_1 s m args below meth c H locs 600000 7302250 Q (F0 m 1076 ls [])) : W p l e room_1 s m args below meth c H locs 600000 7302250 Q (F0 m 755 ls []) := by
  obtain ⟨hP, hD, hS⟩ := w
  have hA : ∀ q, s.heap.size ≤ q → lA s q := fun _ h => h
  have hbA : ¬ lA s b := Nat.not_le.mpr hbl
  have v1 : vp_in (nI i + nI 1) L := la_in hi hL (by omega)
  have v2 : vp_in (nI i + nI 2) L := la_in hi hL (by omega)
  have v3 : vp_in (nI i + nI 3) L := la_in hi hL (by omega)
  obtain ⟨r, G1, tr1, Gm1, trm1, e1, e2, hR⟩ := op_nets h (N := 2000) (by omega) (xs (nI i + nI 1).toNatClampNeg) (xs (nI i + nI 2).toNatClampNeg) (xs (nI i + nI 3).toNatClampNeg)
  refine lv_aload_n S.1 S.2.1 dL_law_755 rfl (lv_at hl 2 rfl) ?_
  refine lv_aload_n S.1 S.2.1 dL_law_756 rfl (lv_at hl 3 rfl) ?_
  refine lv_iload_n S.1 S.2.1 dL_law_757 rfl (lv_at hl 0 rfl) ?_
  refine lv_iconst (v := nI 1) S.1 S.2.1 dL_law_758 (by decide) ?_
  refine lv_iadd S.1 S.2.1 dL_law_759 ?_
  refine va_sld S.1 S.2.1 hX hbl hbA hS v1 dL_law_760 ?_
  refine lv_aload_n S.1 S.2.1 dL_law_761 rfl (lv_at hl 3 rfl) ?_
  refine lv_iload_n S.1 S.2.1 dL_law_762 rfl (lv_at hl 0 rfl) ?_
  refine lv_iconst (v := nI 2) S.1 S.2.1 dL_law_763 (by decide) ?_
  refine lv_iadd S.1 S.2.1 dL_law_764 ?_
  refine va_sld S.1 S.2.1 hX hbl hbA hS v2 dL_law_765 ?_
  refine lv_aload_n S.1 S.2.1 dL_law_766 rfl (lv_at hl 3 rfl) ?_
  refine lv_iload_n S.1 S.2.1 dL_law_767 rfl (lv_at hl 0 rfl) ?_
  refine lv_iconst (v := nI 3) S.1 S.2.1 dL_law_768 (by decide) ?_
  refine lv_iadd S.1 S.2.1 dL_law_769 ?_
  refine va_sld S.1 S.2.1 hX hbl hbA hS v3 dL_law_770 ?_
  refine g_calli (c0 := 0) (cs := csW) (ad := ad) (Eg := xE ki ad) (As := [.int (xs (nI i + nI 1).toNatClampNeg), .int (xs (nI i + nI 2).toNatClampNeg), .int (xs (nI i + nI 3).toNatClampNeg)]) (rest := []) (w2 := gW csM adm (mE ki adm Gm trm)) S hKK hNN hP hD hS hA (kW_c 0 (by omega)) xE_W rfl (mX4_nets l D ki ad csW kW_c 2000 (xs (nI i + nI 1).toNatClampNeg) (xs (nI i + nI 2).toNatClampNeg) (xs (nI i + nI 3).toNatClampNeg) G tr) e1 (cwV 3 S.2.2.2.2 lG_X4_nets rfl rfl rfl (by decide +kernel) ⟨Nat.le_of_ble_eq_true rfl, Nat.le_of_ble_eq_true rfl⟩) rfl hl.1 rfl (lv_room (Nat.le_of_ble_eq_true rfl)) dL_law_771 ⟨Nat.le_of_ble_eq_true rfl, Nat.le_of_ble_eq_true rfl⟩ (fun H locs hP hD hS => ?_)
  have hP := hP.perm List.perm_append_comm
  have hD := hD.perm List.perm_append_comm
  refine lv_aload_n S.1 S.2.1 dL_law_774 rfl (lv_at hl 1 rfl) ?_
  refine lv_aload_n S.1 S.2.1 dL_law_775 rfl (lv_at hl 3 rfl) ?_
  refine lv_iload_n S.1 S.2.1 dL_law_776 rfl (lv_at hl 0 rfl) ?_
  refine lv_iconst (v := nI 1) S.1 S.2.1 dL_law_777 (by decide) ?_
  refine lv_iadd S.1 S.2.1 dL_law_778 ?_
  refine va_sld S.1 S.2.1 hX hbl hbA hS v1 dL_law_779 ?_
  refine lv_aload_n S.1 S.2.1 dL_law_780 rfl (lv_at hl 3 rfl) ?_
  refine lv_iload_n S.1 S.2.1 dL_law_781 rfl (lv_at hl 0 rfl) ?_
  refine lv_iconst (v := nI 2) S.1 S.2.1 dL_law_782 (by decide) ?_
  refine lv_iadd S.1 S.2.1 dL_law_783 ?_
  refine va_sld S.1 S.2.1 hX hbl hbA hS v2 dL_law_784 ?_
  refine lv_aload_n S.1 S.2.1 dL_law_785 rfl (lv_at hl 3 rfl) ?_
  refine lv_iload_n S.1 S.2.1 dL_law_786 rfl (lv_at hl 0 rfl) ?_
  refine lv_iconst (v := nI 3) S.1 S.2.1 dL_law_787 (by decide) ?_
  refine lv_iadd S.1 S.2.1 dL_law_788 ?_
  refine va_sld S.1 S.2.1 hX hbl hbA hS v3 dL_law_789 ?_
  refine g_calli (c0 := 0) (cs := csM) (ad := adm) (Eg := mE ki adm) (As := [.int (xs (nI i + nI 1).toNatClampNeg), .int (xs (nI i + nI 2).toNatClampNeg), .int (xs (nI i + nI 3).toNatClampNeg)]) (rest := [.int r]) (w2 := gW csW ad (xE ki ad G1 tr1)) S hKK hNN hP hD hS hA (kR_c 0 (by omega)) mE_R rfl (mX5_nets l D ki adm csM kR_c 2000 (xs (nI i + nI 1).toNatClampNeg) (xs (nI i + nI 2).toNatClampNeg) (xs (nI i + nI 3).toNatClampNeg) Gm trm) e2 (cwV 3 S.2.2.2.2 lG_X5_nets rfl rfl rfl (by decide +kernel) ⟨Nat.le_of_ble_eq_true rfl, Nat.le_of_ble_eq_true rfl⟩) rfl hl.1 rfl (lv_room (Nat.le_of_ble_eq_true rfl)) dL_law_790 ⟨Nat.le_of_ble_eq_true rfl, Nat.le_of_ble_eq_true rfl⟩ (fun H locs hP hD hS => ?_)
  have hP := hP.perm List.perm_append_comm
  have hD := hD.perm List.perm_append_comm
  exact lv_icmp_eq (tgt := 1076) S.1 S.2.1 dL_law_793 (by decide) (fun _ => kk _ _ _ _ _ _ _ hR ⟨hP, hD, hS⟩ hl) (fun hn => absurd rfl hn)
set_option maxHeartbeats 8000000 in
set_option maxRecDepth 100000 in
theorem law_who (S : CallFix p m c cL_law 4 s args lw_tbl RL) (hKK : va_K D vwCl (zT ki) s) (hNN : nK s) (hX : va_X b L xs s s.heap) (hbl : b < s.heap.size) (hi : i + 5 ≤ L) (hL : L ≤ 320) (h : Rel G tr Gm trm) (w : lS D ki ad adm s G tr Gm trm H locs) (hl : lv_has ls 4 [(3, .int (nI i)), (2, .ref (adm 0)), (1, .ref (ad 0)), (0, .ref b)])
    (kk : ∀ (G : zMem) (tr : Int64) (Gm : zMem) (trm : Int64) (H : Heap) (locs : List Loc) (ls : Array Slot), Rel G tr Gm trm → lS D ki ad adm s G tr Gm trm H locs → lv_has ls 4 [(3, .int (nI i)), (2, .ref (adm 0)), (1, .ref (ad 0)), (0, .ref b)] → W p l e room_1 s m args below meth c H locs 600000 7302250 Q (F0 m 1076 ls [])) : W p l e room_1 s m args below meth c H locs 600000 7302250 Q (F0 m 798 ls []) := by
  obtain ⟨hP, hD, hS⟩ := w
  have hA : ∀ q, s.heap.size ≤ q → lA s q := fun _ h => h
  have hbA : ¬ lA s b := Nat.not_le.mpr hbl
  have v1 : vp_in (nI i + nI 1) L := la_in hi hL (by omega)
  have v2 : vp_in (nI i + nI 2) L := la_in hi hL (by omega)
  have v3 : vp_in (nI i + nI 3) L := la_in hi hL (by omega)
  obtain ⟨r, G1, tr1, Gm1, trm1, e1, e2, hR⟩ := op_who h (N := 2000) (by omega) (xs (nI i + nI 1).toNatClampNeg) (xs (nI i + nI 2).toNatClampNeg) (xs (nI i + nI 3).toNatClampNeg)
  refine lv_aload_n S.1 S.2.1 dL_law_798 rfl (lv_at hl 2 rfl) ?_
  refine lv_aload_n S.1 S.2.1 dL_law_799 rfl (lv_at hl 3 rfl) ?_
  refine lv_iload_n S.1 S.2.1 dL_law_800 rfl (lv_at hl 0 rfl) ?_
  refine lv_iconst (v := nI 1) S.1 S.2.1 dL_law_801 (by decide) ?_
  refine lv_iadd S.1 S.2.1 dL_law_802 ?_
  refine va_sld S.1 S.2.1 hX hbl hbA hS v1 dL_law_803 ?_
  refine lv_aload_n S.1 S.2.1 dL_law_804 rfl (lv_at hl 3 rfl) ?_
  refine lv_iload_n S.1 S.2.1 dL_law_805 rfl (lv_at hl 0 rfl) ?_
  refine lv_iconst (v := nI 2) S.1 S.2.1 dL_law_806 (by decide) ?_
  refine lv_iadd S.1 S.2.1 dL_law_807 ?_
  refine va_sld S.1 S.2.1 hX hbl hbA hS v2 dL_law_808 ?_
  refine lv_aload_n S.1 S.2.1 dL_law_809 rfl (lv_at hl 3 rfl) ?_
  refine lv_iload_n S.1 S.2.1 dL_law_810 rfl (lv_at hl 0 rfl) ?_
  refine lv_iconst (v := nI 3) S.1 S.2.1 dL_law_811 (by decide) ?_
  refine lv_iadd S.1 S.2.1 dL_law_812 ?_
  refine va_sld S.1 S.2.1 hX hbl hbA hS v3 dL_law_813 ?_
  refine g_calli (c0 := 0) (cs := csW) (ad := ad) (Eg := xE ki ad) (As := [.int (xs (nI i + nI 1).toNatClampNeg), .int (xs (nI i + nI 2).toNatClampNeg), .int (xs (nI i + nI 3).toNatClampNeg)]) (rest := []) (w2 := gW csM adm (mE ki adm Gm trm)) S hKK hNN hP hD hS hA (kW_c 0 (by omega)) xE_W rfl (mX4_who l D ki ad csW kW_c 2000 (xs (nI i + nI 1).toNatClampNeg) (xs (nI i + nI 2).toNatClampNeg) (xs (nI i + nI 3).toNatClampNeg) G tr) e1 (cwV 3 S.2.2.2.2 lG_X4_who rfl rfl rfl (by decide +kernel) ⟨Nat.le_of_ble_eq_true rfl, Nat.le_of_ble_eq_true rfl⟩) rfl hl.1 rfl (lv_room (Nat.le_of_ble_eq_true rfl)) dL_law_814 ⟨Nat.le_of_ble_eq_true rfl, Nat.le_of_ble_eq_true rfl⟩ (fun H locs hP hD hS => ?_)
  have hP := hP.perm List.perm_append_comm
  have hD := hD.perm List.perm_append_comm
  refine lv_aload_n S.1 S.2.1 dL_law_817 rfl (lv_at hl 1 rfl) ?_
  refine lv_aload_n S.1 S.2.1 dL_law_818 rfl (lv_at hl 3 rfl) ?_
  refine lv_iload_n S.1 S.2.1 dL_law_819 rfl (lv_at hl 0 rfl) ?_
  refine lv_iconst (v := nI 1) S.1 S.2.1 dL_law_820 (by decide) ?_
  refine lv_iadd S.1 S.2.1 dL_law_821 ?_
  refine va_sld S.1 S.2.1 hX hbl hbA hS v1 dL_law_822 ?_
  refine lv_aload_n S.1 S.2.1 dL_law_823 rfl (lv_at hl 3 rfl) ?_
  refine lv_iload_n S.1 S.2.1 dL_law_824 rfl (lv_at hl 0 rfl) ?_
  refine lv_iconst (v := nI 2) S.1 S.2.1 dL_law_825 (by decide) ?_
  refine lv_iadd S.1 S.2.1 dL_law_826 ?_
  refine va_sld S.1 S.2.1 hX hbl hbA hS v2 dL_law_827 ?_
  refine lv_aload_n S.1 S.2.1 dL_law_828 rfl (lv_at hl 3 rfl) ?_
  refine lv_iload_n S.1 S.2.1 dL_law_829 rfl (lv_at hl 0 rfl) ?_
  refine lv_iconst (v := nI 3) S.1 S.2.1 dL_law_830 (by decide) ?_
  refine lv_iadd S.1 S.2.1 dL_law_831 ?_
  refine va_sld S.1 S.2.1 hX hbl hbA hS v3 dL_law_832 ?_
  refine g_calli (c0 := 0) (cs := csM) (ad := adm) (Eg := mE ki adm) (As := [.int (xs (nI i + nI 1).toNatClampNeg), .int (xs (nI i + nI 2).toNatClampNeg), .int (xs (nI i + nI 3).toNatClampNeg)]) (rest := [.int r]) (w2 := gW csW ad (xE ki ad G1 tr1)) S hKK hNN hP hD hS hA (kR_c 0 (by omega)) mE_R rfl (mX5_who l D ki adm csM kR_c 2000 (xs (nI i + nI 1).toNatClampNeg) (xs (nI i + nI 2).toNatClampNeg) (xs (nI i + nI 3).toNatClampNeg) Gm trm) e2 (cwV 3 S.2.2.2.2 lG_X5_who rfl rfl rfl (by decide +kernel) ⟨Nat.le_of_ble_eq_true rfl, Nat.le_of_ble_eq_true rfl⟩) rfl hl.1 rfl (lv_room (Nat.le_of_ble_eq_true rfl)) dL_law_833 ⟨Nat.le_of_ble_eq_true rfl, Nat.le_of_ble_eq_true rfl⟩ (fun H locs hP hD hS => ?_)
  have hP := hP.perm List.perm_append_comm
  have hD := hD.perm List.perm_append_comm
  exact lv_icmp_eq (tgt := 1076) S.1 S.2.1 dL_law_836 (by decide) (fun _ => kk _ _ _ _ _ _ _ hR ⟨hP, hD, hS⟩ hl) (fun hn => absurd rfl hn)
set_option maxHeartbeats 8000000 in
set_option maxRecDepth 100000 in
theorem law_knee (S : CallFix p m c cL_law 4 s args lw_tbl RL) (hKK : va_K D vwCl (zT ki) s) (hNN : nK s) (hX : va_X b L xs s s.heap) (hbl : b < s.heap.size) (hi : i + 5 ≤ L) (hL : L ≤ 320) (h : Rel G tr Gm trm) (w : lS D ki ad adm s G tr Gm trm H locs) (hl : lv_has ls 4 [(3, .int (nI i)), (2, .ref (adm 0)), (1, .ref (ad 0)), (0, .ref b)])
    (kk : ∀ (G : zMem) (tr : Int64) (Gm : zMem) (trm : Int64) (H : Heap) (locs : List Loc) (ls : Array Slot), Rel G tr Gm trm → lS D ki ad adm s G tr Gm trm H locs → lv_has ls 4 [(3, .int (nI i)), (2, .ref (adm 0)), (1, .ref (ad 0)), (0, .ref b)] → W p l e room_1 s m args below meth c H locs 600000 7302250 Q (F0 m 1076 ls [])) : W p l e room_1 s m args below meth c H locs 600000 7302250 Q (F0 m 841 ls []) := by
  obtain ⟨hP, hD, hS⟩ := w
  have hA : ∀ q, s.heap.size ≤ q → lA s q := fun _ h => h
  have hbA : ¬ lA s b := Nat.not_le.mpr hbl
  have v1 : vp_in (nI i + nI 1) L := la_in hi hL (by omega)
  have v2 : vp_in (nI i + nI 2) L := la_in hi hL (by omega)
  obtain ⟨r, G1, tr1, Gm1, trm1, e1, e2, hR⟩ := op_knee h (N := 2000) (by omega) (xs (nI i + nI 1).toNatClampNeg) (xs (nI i + nI 2).toNatClampNeg)
  refine lv_aload_n S.1 S.2.1 dL_law_841 rfl (lv_at hl 2 rfl) ?_
  refine lv_aload_n S.1 S.2.1 dL_law_842 rfl (lv_at hl 3 rfl) ?_
  refine lv_iload_n S.1 S.2.1 dL_law_843 rfl (lv_at hl 0 rfl) ?_
  refine lv_iconst (v := nI 1) S.1 S.2.1 dL_law_844 (by decide) ?_
  refine lv_iadd S.1 S.2.1 dL_law_845 ?_
  refine va_sld S.1 S.2.1 hX hbl hbA hS v1 dL_law_846 ?_
  refine lv_aload_n S.1 S.2.1 dL_law_847 rfl (lv_at hl 3 rfl) ?_
  refine lv_iload_n S.1 S.2.1 dL_law_848 rfl (lv_at hl 0 rfl) ?_
  refine lv_iconst (v := nI 2) S.1 S.2.1 dL_law_849 (by decide) ?_
  refine lv_iadd S.1 S.2.1 dL_law_850 ?_
  refine va_sld S.1 S.2.1 hX hbl hbA hS v2 dL_law_851 ?_
  refine g_calli (c0 := 0) (cs := csW) (ad := ad) (Eg := xE ki ad) (As := [.int (xs (nI i + nI 1).toNatClampNeg), .int (xs (nI i + nI 2).toNatClampNeg)]) (rest := []) (w2 := gW csM adm (mE ki adm Gm trm)) S hKK hNN hP hD hS hA (kW_c 0 (by omega)) xE_W rfl (mX4_knee l D ki ad csW kW_c 2000 (xs (nI i + nI 1).toNatClampNeg) (xs (nI i + nI 2).toNatClampNeg) G tr) e1 (cwV 2 S.2.2.2.2 lG_X4_knee rfl rfl rfl (by decide +kernel) ⟨Nat.le_of_ble_eq_true rfl, Nat.le_of_ble_eq_true rfl⟩) rfl hl.1 rfl (lv_room (Nat.le_of_ble_eq_true rfl)) dL_law_852 ⟨Nat.le_of_ble_eq_true rfl, Nat.le_of_ble_eq_true rfl⟩ (fun H locs hP hD hS => ?_)
  have hP := hP.perm List.perm_append_comm
  have hD := hD.perm List.perm_append_comm
  refine lv_aload_n S.1 S.2.1 dL_law_855 rfl (lv_at hl 1 rfl) ?_
  refine lv_aload_n S.1 S.2.1 dL_law_856 rfl (lv_at hl 3 rfl) ?_
  refine lv_iload_n S.1 S.2.1 dL_law_857 rfl (lv_at hl 0 rfl) ?_
  refine lv_iconst (v := nI 1) S.1 S.2.1 dL_law_858 (by decide) ?_
  refine lv_iadd S.1 S.2.1 dL_law_859 ?_
  refine va_sld S.1 S.2.1 hX hbl hbA hS v1 dL_law_860 ?_
  refine lv_aload_n S.1 S.2.1 dL_law_861 rfl (lv_at hl 3 rfl) ?_
  refine lv_iload_n S.1 S.2.1 dL_law_862 rfl (lv_at hl 0 rfl) ?_
  refine lv_iconst (v := nI 2) S.1 S.2.1 dL_law_863 (by decide) ?_
  refine lv_iadd S.1 S.2.1 dL_law_864 ?_
  refine va_sld S.1 S.2.1 hX hbl hbA hS v2 dL_law_865 ?_
  refine g_calli (c0 := 0) (cs := csM) (ad := adm) (Eg := mE ki adm) (As := [.int (xs (nI i + nI 1).toNatClampNeg), .int (xs (nI i + nI 2).toNatClampNeg)]) (rest := [.int r]) (w2 := gW csW ad (xE ki ad G1 tr1)) S hKK hNN hP hD hS hA (kR_c 0 (by omega)) mE_R rfl (mX5_knee l D ki adm csM kR_c 2000 (xs (nI i + nI 1).toNatClampNeg) (xs (nI i + nI 2).toNatClampNeg) Gm trm) e2 (cwV 2 S.2.2.2.2 lG_X5_knee rfl rfl rfl (by decide +kernel) ⟨Nat.le_of_ble_eq_true rfl, Nat.le_of_ble_eq_true rfl⟩) rfl hl.1 rfl (lv_room (Nat.le_of_ble_eq_true rfl)) dL_law_866 ⟨Nat.le_of_ble_eq_true rfl, Nat.le_of_ble_eq_true rfl⟩ (fun H locs hP hD hS => ?_)
  have hP := hP.perm List.perm_append_comm
  have hD := hD.perm List.perm_append_comm
  exact lv_icmp_eq (tgt := 1076) S.1 S.2.1 dL_law_869 (by decide) (fun _ => kk _ _ _ _ _ _ _ hR ⟨hP, hD, hS⟩ hl) (fun hn => absurd rfl hn)
end lawC
