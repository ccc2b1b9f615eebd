/-! ===== the law, op by op (2) ===== -/
section lawC
variable {p : Program} {l : Launch} {e : Env} {s : State} {m : MethodId} {args : Array Value} {below : List Frame} {meth : Method} {c : Code} {H : Heap} {locs : List Loc} {Q : State → Prop} {ls : Array Slot} {D : va_G} {ki : Nat → ClassId} {ad adm : Nat → Nat} {b L i : Nat} {xs : Nat → Int32} {G Gm : zMem} {tr trm : Int64}
set_option maxHeartbeats 8000000 in
set_option maxRecDepth 100000 in
theorem law_lets (S : CallFix p m c cL_law 4 s args lw_tbl RL) (hKK : va_K D vwCl (zT ki) s) (hNN : nK s) (hX : va_X b L xs s s.heap) (hbl : b < s.heap.size) (hi : i + 5 ≤ L) (hL : L ≤ 320) (h : Rel G tr Gm trm) (w : lS D ki ad adm s G tr Gm trm H locs) (hl : lv_has ls 4 [(3, .int (nI i)), (2, .ref (adm 0)), (1, .ref (ad 0)), (0, .ref b)])
    (kk : ∀ (G : zMem) (tr : Int64) (Gm : zMem) (trm : Int64) (H : Heap) (locs : List Loc) (ls : Array Slot), Rel G tr Gm trm → lS D ki ad adm s G tr Gm trm H locs → lv_has ls 4 [(3, .int (nI i)), (2, .ref (adm 0)), (1, .ref (ad 0)), (0, .ref b)] → W p l e room_1 s m args below meth c H locs 600000 7302250 Q (F0 m 1076 ls [])) : W p l e room_1 s m args below meth c H locs 600000 7302250 Q (F0 m 356 ls []) := by
  obtain ⟨hP, hD, hS⟩ := w
  have hA : ∀ q, s.heap.size ≤ q → lA s q := fun _ h => h
  have hbA : ¬ lA s b := Nat.not_le.mpr hbl
  have v1 : vp_in (nI i + nI 1) L := la_in hi hL (by omega)
  have v2 : vp_in (nI i + nI 2) L := la_in hi hL (by omega)
  have v3 : vp_in (nI i + nI 3) L := la_in hi hL (by omega)
  obtain ⟨r, G1, tr1, Gm1, trm1, e1, e2, hR⟩ := op_lets h (N := 2000) (by omega) (xs (nI i + nI 1).toNatClampNeg) (xs (nI i + nI 2).toNatClampNeg) (xs (nI i + nI 3).toNatClampNeg)
  refine lv_aload_n S.1 S.2.1 dL_law_356 rfl (lv_at hl 2 rfl) ?_
  refine lv_aload_n S.1 S.2.1 dL_law_357 rfl (lv_at hl 3 rfl) ?_
  refine lv_iload_n S.1 S.2.1 dL_law_358 rfl (lv_at hl 0 rfl) ?_
  refine lv_iconst (v := nI 1) S.1 S.2.1 dL_law_359 (by decide) ?_
  refine lv_iadd S.1 S.2.1 dL_law_360 ?_
  refine va_sld S.1 S.2.1 hX hbl hbA hS v1 dL_law_361 ?_
  refine lv_aload_n S.1 S.2.1 dL_law_362 rfl (lv_at hl 3 rfl) ?_
  refine lv_iload_n S.1 S.2.1 dL_law_363 rfl (lv_at hl 0 rfl) ?_
  refine lv_iconst (v := nI 2) S.1 S.2.1 dL_law_364 (by decide) ?_
  refine lv_iadd S.1 S.2.1 dL_law_365 ?_
  refine va_sld S.1 S.2.1 hX hbl hbA hS v2 dL_law_366 ?_
  refine lv_aload_n S.1 S.2.1 dL_law_367 rfl (lv_at hl 3 rfl) ?_
  refine lv_iload_n S.1 S.2.1 dL_law_368 rfl (lv_at hl 0 rfl) ?_
  refine lv_iconst (v := nI 3) S.1 S.2.1 dL_law_369 (by decide) ?_
  refine lv_iadd S.1 S.2.1 dL_law_370 ?_
  refine va_sld S.1 S.2.1 hX hbl hbA hS v3 dL_law_371 ?_
  refine g_calli (c0 := 0) (cs := csW) (ad := ad) (Eg := xE ki ad) (As := [.int (xs (nI i + nI 1).toNatClampNeg), .int (xs (nI i + nI 2).toNatClampNeg), .int (xs (nI i + nI 3).toNatClampNeg)]) (rest := []) (w2 := gW csM adm (mE ki adm Gm trm)) S hKK hNN hP hD hS hA (kW_c 0 (by omega)) xE_W rfl (mX4_lets l D ki ad csW kW_c 2000 (xs (nI i + nI 1).toNatClampNeg) (xs (nI i + nI 2).toNatClampNeg) (xs (nI i + nI 3).toNatClampNeg) G tr) e1 (cwV 3 S.2.2.2.2 lG_X4_lets rfl rfl rfl (by decide +kernel) ⟨Nat.le_of_ble_eq_true rfl, Nat.le_of_ble_eq_true rfl⟩) rfl hl.1 rfl (lv_room (Nat.le_of_ble_eq_true rfl)) dL_law_372 ⟨Nat.le_of_ble_eq_true rfl, Nat.le_of_ble_eq_true rfl⟩ (fun H locs hP hD hS => ?_)
  have hP := hP.perm List.perm_append_comm
  have hD := hD.perm List.perm_append_comm
  refine lv_aload_n S.1 S.2.1 dL_law_375 rfl (lv_at hl 1 rfl) ?_
  refine lv_aload_n S.1 S.2.1 dL_law_376 rfl (lv_at hl 3 rfl) ?_
  refine lv_iload_n S.1 S.2.1 dL_law_377 rfl (lv_at hl 0 rfl) ?_
  refine lv_iconst (v := nI 1) S.1 S.2.1 dL_law_378 (by decide) ?_
  refine lv_iadd S.1 S.2.1 dL_law_379 ?_
  refine va_sld S.1 S.2.1 hX hbl hbA hS v1 dL_law_380 ?_
  refine lv_aload_n S.1 S.2.1 dL_law_381 rfl (lv_at hl 3 rfl) ?_
  refine lv_iload_n S.1 S.2.1 dL_law_382 rfl (lv_at hl 0 rfl) ?_
  refine lv_iconst (v := nI 2) S.1 S.2.1 dL_law_383 (by decide) ?_
  refine lv_iadd S.1 S.2.1 dL_law_384 ?_
  refine va_sld S.1 S.2.1 hX hbl hbA hS v2 dL_law_385 ?_
  refine lv_aload_n S.1 S.2.1 dL_law_386 rfl (lv_at hl 3 rfl) ?_
  refine lv_iload_n S.1 S.2.1 dL_law_387 rfl (lv_at hl 0 rfl) ?_
  refine lv_iconst (v := nI 3) S.1 S.2.1 dL_law_388 (by decide) ?_
  refine lv_iadd S.1 S.2.1 dL_law_389 ?_
  refine va_sld S.1 S.2.1 hX hbl hbA hS v3 dL_law_390 ?_
  refine g_calli (c0 := 0) (cs := csM) (ad := adm) (Eg := mE ki adm) (As := [.int (xs (nI i + nI 1).toNatClampNeg), .int (xs (nI i + nI 2).toNatClampNeg), .int (xs (nI i + nI 3).toNatClampNeg)]) (rest := [.int r]) (w2 := gW csW ad (xE ki ad G1 tr1)) S hKK hNN hP hD hS hA (kR_c 0 (by omega)) mE_R rfl (mX5_lets l D ki adm csM kR_c 2000 (xs (nI i + nI 1).toNatClampNeg) (xs (nI i + nI 2).toNatClampNeg) (xs (nI i + nI 3).toNatClampNeg) Gm trm) e2 (cwV 3 S.2.2.2.2 lG_X5_lets rfl rfl rfl (by decide +kernel) ⟨Nat.le_of_ble_eq_true rfl, Nat.le_of_ble_eq_true rfl⟩) rfl hl.1 rfl (lv_room (Nat.le_of_ble_eq_true rfl)) dL_law_391 ⟨Nat.le_of_ble_eq_true rfl, Nat.le_of_ble_eq_true rfl⟩ (fun H locs hP hD hS => ?_)
  have hP := hP.perm List.perm_append_comm
  have hD := hD.perm List.perm_append_comm
  exact lv_icmp_eq (tgt := 1076) S.1 S.2.1 dL_law_394 (by decide) (fun _ => kk _ _ _ _ _ _ _ hR ⟨hP, hD, hS⟩ hl) (fun hn => absurd rfl hn)
set_option maxHeartbeats 8000000 in
set_option maxRecDepth 100000 in
theorem law_hour (S : CallFix p m c cL_law 4 s args lw_tbl RL) (hKK : va_K D vwCl (zT ki) s) (hNN : nK s) (hX : va_X b L xs s s.heap) (hbl : b < s.heap.size) (hi : i + 5 ≤ L) (hL : L ≤ 320) (h : Rel G tr Gm trm) (w : lS D ki ad adm s G tr Gm trm H locs) (hl : lv_has ls 4 [(3, .int (nI i)), (2, .ref (adm 0)), (1, .ref (ad 0)), (0, .ref b)])
    (kk : ∀ (G : zMem) (tr : Int64) (Gm : zMem) (trm : Int64) (H : Heap) (locs : List Loc) (ls : Array Slot), Rel G tr Gm trm → lS D ki ad adm s G tr Gm trm H locs → lv_has ls 4 [(3, .int (nI i)), (2, .ref (adm 0)), (1, .ref (ad 0)), (0, .ref b)] → W p l e room_1 s m args below meth c H locs 600000 7302250 Q (F0 m 1076 ls [])) : W p l e room_1 s m args below meth c H locs 600000 7302250 Q (F0 m 399 ls []) := by
  obtain ⟨hP, hD, hS⟩ := w
  have hA : ∀ q, s.heap.size ≤ q → lA s q := fun _ h => h
  have hbA : ¬ lA s b := Nat.not_le.mpr hbl
  obtain ⟨r, G1, tr1, Gm1, trm1, e1, e2, hR⟩ := op_hour h (N := 2000) (by omega)
  refine lv_aload_n S.1 S.2.1 dL_law_399 rfl (lv_at hl 2 rfl) ?_
  refine g_calli (c0 := 0) (cs := csW) (ad := ad) (Eg := xE ki ad) (As := []) (rest := []) (w2 := gW csM adm (mE ki adm Gm trm)) S hKK hNN hP hD hS hA (kW_c 0 (by omega)) xE_W rfl (mX4_hour l D ki ad csW kW_c 2000  G tr) e1 (cwV 0 S.2.2.2.2 lG_X4_hour rfl rfl rfl (by decide +kernel) ⟨Nat.le_of_ble_eq_true rfl, Nat.le_of_ble_eq_true rfl⟩) rfl hl.1 rfl (lv_room (Nat.le_of_ble_eq_true rfl)) dL_law_400 ⟨Nat.le_of_ble_eq_true rfl, Nat.le_of_ble_eq_true rfl⟩ (fun H locs hP hD hS => ?_)
  have hP := hP.perm List.perm_append_comm
  have hD := hD.perm List.perm_append_comm
  refine lv_aload_n S.1 S.2.1 dL_law_403 rfl (lv_at hl 1 rfl) ?_
  refine g_calli (c0 := 0) (cs := csM) (ad := adm) (Eg := mE ki adm) (As := []) (rest := [.int r]) (w2 := gW csW ad (xE ki ad G1 tr1)) S hKK hNN hP hD hS hA (kR_c 0 (by omega)) mE_R rfl (mX5_hour l D ki adm csM kR_c 2000  Gm trm) e2 (cwV 0 S.2.2.2.2 lG_X5_hour rfl rfl rfl (by decide +kernel) ⟨Nat.le_of_ble_eq_true rfl, Nat.le_of_ble_eq_true rfl⟩) rfl hl.1 rfl (lv_room (Nat.le_of_ble_eq_true rfl)) dL_law_404 ⟨Nat.le_of_ble_eq_true rfl, Nat.le_of_ble_eq_true rfl⟩ (fun H locs hP hD hS => ?_)
  have hP := hP.perm List.perm_append_comm
  have hD := hD.perm List.perm_append_comm
  exact lv_icmp_eq (tgt := 1076) S.1 S.2.1 dL_law_407 (by decide) (fun _ => kk _ _ _ _ _ _ _ hR ⟨hP, hD, hS⟩ hl) (fun hn => absurd rfl hn)
set_option maxHeartbeats 8000000 in
set_option maxRecDepth 100000 in
theorem law_net (S : CallFix p m c cL_law 4 s args lw_tbl RL) (hKK : va_K D vwCl (zT ki) s) (hNN : nK s) (hX : va_X b L xs s s.heap) (hbl : b < s.heap.size) (hi : i + 5 ≤ L) (hL : L ≤ 320) (h : Rel G tr Gm trm) (w : lS D ki ad adm s G tr Gm trm H locs) (hl : lv_has ls 4 [(3, .int (nI i)), (2, .ref (adm 0)), (1, .ref (ad 0)), (0, .ref b)])
    (kk : ∀ (G : zMem) (tr : Int64) (Gm : zMem) (trm : Int64) (H : Heap) (locs : List Loc) (ls : Array Slot), Rel G tr Gm trm → lS D ki ad adm s G tr Gm trm H locs → lv_has ls 4 [(3, .int (nI i)), (2, .ref (adm 0)), (1, .ref (ad 0)), (0, .ref b)] → W p l e room_1 s m args below meth c H locs 600000 7302250 Q (F0 m 1076 ls [])) : W p l e room_1 s m args below meth c H locs 600000 7302250 Q (F0 m 412 ls []) := by
  obtain ⟨hP, hD, hS⟩ := w
  have hA : ∀ q, s.heap.size ≤ q → lA s q := fun _ h => h
  have hbA : ¬ lA s b := Nat.not_le.mpr hbl
  have v1 : vp_in (nI i + nI 1) L := la_in hi hL (by omega)
  have v2 : vp_in (nI i + nI 2) L := la_in hi hL (by omega)
  obtain ⟨r, G1, tr1, Gm1, trm1, e1, e2, hR⟩ := op_net h (N := 2000) (by omega) (xs (nI i + nI 1).toNatClampNeg) (xs (nI i + nI 2).toNatClampNeg)
  refine lv_aload_n S.1 S.2.1 dL_law_412 rfl (lv_at hl 2 rfl) ?_
  refine lv_aload_n S.1 S.2.1 dL_law_413 rfl (lv_at hl 3 rfl) ?_
  refine lv_iload_n S.1 S.2.1 dL_law_414 rfl (lv_at hl 0 rfl) ?_
  refine lv_iconst (v := nI 1) S.1 S.2.1 dL_law_415 (by decide) ?_
  refine lv_iadd S.1 S.2.1 dL_law_416 ?_
  refine va_sld S.1 S.2.1 hX hbl hbA hS v1 dL_law_417 ?_
  refine lv_aload_n S.1 S.2.1 dL_law_418 rfl (lv_at hl 3 rfl) ?_
  refine lv_iload_n S.1 S.2.1 dL_law_419 rfl (lv_at hl 0 rfl) ?_
  refine lv_iconst (v := nI 2) S.1 S.2.1 dL_law_420 (by decide) ?_
  refine lv_iadd S.1 S.2.1 dL_law_421 ?_
  refine va_sld S.1 S.2.1 hX hbl hbA hS v2 dL_law_422 ?_
  refine g_calli (c0 := 0) (cs := csW) (ad := ad) (Eg := xE ki ad) (As := [.int (xs (nI i + nI 1).toNatClampNeg), .int (xs (nI i + nI 2).toNatClampNeg)]) (rest := []) (w2 := gW csM adm (mE ki adm Gm trm)) S hKK hNN hP hD hS hA (kW_c 0 (by omega)) xE_W rfl (mX4_net l D ki ad csW kW_c 2000 (xs (nI i + nI 1).toNatClampNeg) (xs (nI i + nI 2).toNatClampNeg) G tr) e1 (cwV 2 S.2.2.2.2 lG_X4_net rfl rfl rfl (by decide +kernel) ⟨Nat.le_of_ble_eq_true rfl, Nat.le_of_ble_eq_true rfl⟩) rfl hl.1 rfl (lv_room (Nat.le_of_ble_eq_true rfl)) dL_law_423 ⟨Nat.le_of_ble_eq_true rfl, Nat.le_of_ble_eq_true rfl⟩ (fun H locs hP hD hS => ?_)
  have hP := hP.perm List.perm_append_comm
  have hD := hD.perm List.perm_append_comm
  refine lv_aload_n S.1 S.2.1 dL_law_426 rfl (lv_at hl 1 rfl) ?_
  refine lv_aload_n S.1 S.2.1 dL_law_427 rfl (lv_at hl 3 rfl) ?_
  refine lv_iload_n S.1 S.2.1 dL_law_428 rfl (lv_at hl 0 rfl) ?_
  refine lv_iconst (v := nI 1) S.1 S.2.1 dL_law_429 (by decide) ?_
  refine lv_iadd S.1 S.2.1 dL_law_430 ?_
  refine va_sld S.1 S.2.1 hX hbl hbA hS v1 dL_law_431 ?_
  refine lv_aload_n S.1 S.2.1 dL_law_432 rfl (lv_at hl 3 rfl) ?_
  refine lv_iload_n S.1 S.2.1 dL_law_433 rfl (lv_at hl 0 rfl) ?_
  refine lv_iconst (v := nI 2) S.1 S.2.1 dL_law_434 (by decide) ?_
  refine lv_iadd S.1 S.2.1 dL_law_435 ?_
  refine va_sld S.1 S.2.1 hX hbl hbA hS v2 dL_law_436 ?_
  refine g_calli (c0 := 0) (cs := csM) (ad := adm) (Eg := mE ki adm) (As := [.int (xs (nI i + nI 1).toNatClampNeg), .int (xs (nI i + nI 2).toNatClampNeg)]) (rest := [.int r]) (w2 := gW csW ad (xE ki ad G1 tr1)) S hKK hNN hP hD hS hA (kR_c 0 (by omega)) mE_R rfl (mX5_net l D ki adm csM kR_c 2000 (xs (nI i + nI 1).toNatClampNeg) (xs (nI i + nI 2).toNatClampNeg) Gm trm) e2 (cwV 2 S.2.2.2.2 lG_X5_net rfl rfl rfl (by decide +kernel) ⟨Nat.le_of_ble_eq_true rfl, Nat.le_of_ble_eq_true rfl⟩) rfl hl.1 rfl (lv_room (Nat.le_of_ble_eq_true rfl)) dL_law_437 ⟨Nat.le_of_ble_eq_true rfl, Nat.le_of_ble_eq_true rfl⟩ (fun H locs hP hD hS => ?_)
  have hP := hP.perm List.perm_append_comm
  have hD := hD.perm List.perm_append_comm
  exact lv_icmp_eq (tgt := 1076) S.1 S.2.1 dL_law_440 (by decide) (fun _ => kk _ _ _ _ _ _ _ hR ⟨hP, hD, hS⟩ hl) (fun hn => absurd rfl hn)
set_option maxHeartbeats 8000000 in
set_option maxRecDepth 100000 in
theorem law_turn (S : CallFix p m c cL_law 4 s args lw_tbl RL) (hKK : va_K D vwCl (zT ki) s) (hNN : nK s) (hX : va_X b L xs s s.heap) (hbl : b < s.heap.size) (hi : i + 5 ≤ L) (hL : L ≤ 320) (h : Rel G tr Gm trm) (w : lS D ki ad adm s G tr Gm trm H locs) (hl : lv_has ls 4 [(3, .int (nI i)), (2, .ref (adm 0)), (1, .ref (ad 0)), (0, .ref b)])
    (kk : ∀ (G : zMem) (tr : Int64) (Gm : zMem) (trm : Int64) (H : Heap) (locs : List Loc) (ls : Array Slot), Rel G tr Gm trm → lS D ki ad adm s G tr Gm trm H locs → lv_has ls 4 [(3, .int (nI i)), (2, .ref (adm 0)), (1, .ref (ad 0)), (0, .ref b)] → W p l e room_1 s m args below meth c H locs 600000 7302250 Q (F0 m 1076 ls [])) : W p l e room_1 s m args below meth c H locs 600000 7302250 Q (F0 m 445 ls []) := by
  obtain ⟨hP, hD, hS⟩ := w
  have hA : ∀ q, s.heap.size ≤ q → lA s q := fun _ h => h
  have hbA : ¬ lA s b := Nat.not_le.mpr hbl
  have v1 : vp_in (nI i + nI 1) L := la_in hi hL (by omega)
  have v2 : vp_in (nI i + nI 2) L := la_in hi hL (by omega)
  obtain ⟨r, G1, tr1, Gm1, trm1, e1, e2, hR⟩ := op_turn h (N := 2000) (by omega) (xs (nI i + nI 1).toNatClampNeg) (xs (nI i + nI 2).toNatClampNeg)
  refine lv_aload_n S.1 S.2.1 dL_law_445 rfl (lv_at hl 2 rfl) ?_
  refine lv_aload_n S.1 S.2.1 dL_law_446 rfl (lv_at hl 3 rfl) ?_
  refine lv_iload_n S.1 S.2.1 dL_law_447 rfl (lv_at hl 0 rfl) ?_
  refine lv_iconst (v := nI 1) S.1 S.2.1 dL_law_448 (by decide) ?_
  refine lv_iadd S.1 S.2.1 dL_law_449 ?_
  refine va_sld S.1 S.2.1 hX hbl hbA hS v1 dL_law_450 ?_
  refine lv_aload_n S.1 S.2.1 dL_law_451 rfl (lv_at hl 3 rfl) ?_
  refine lv_iload_n S.1 S.2.1 dL_law_452 rfl (lv_at hl 0 rfl) ?_
  refine lv_iconst (v := nI 2) S.1 S.2.1 dL_law_453 (by decide) ?_
  refine lv_iadd S.1 S.2.1 dL_law_454 ?_
  refine va_sld S.1 S.2.1 hX hbl hbA hS v2 dL_law_455 ?_
  refine g_calli (c0 := 0) (cs := csW) (ad := ad) (Eg := xE ki ad) (As := [.int (xs (nI i + nI 1).toNatClampNeg), .int (xs (nI i + nI 2).toNatClampNeg)]) (rest := []) (w2 := gW csM adm (mE ki adm Gm trm)) S hKK hNN hP hD hS hA (kW_c 0 (by omega)) xE_W rfl (mX4_turn l D ki ad csW kW_c 2000 (xs (nI i + nI 1).toNatClampNeg) (xs (nI i + nI 2).toNatClampNeg) G tr) e1 (cwV 2 S.2.2.2.2 lG_X4_turn rfl rfl rfl (by decide +kernel) ⟨Nat.le_of_ble_eq_true rfl, Nat.le_of_ble_eq_true rfl⟩) rfl hl.1 rfl (lv_room (Nat.le_of_ble_eq_true rfl)) dL_law_456 ⟨Nat.le_of_ble_eq_true rfl, Nat.le_of_ble_eq_true rfl⟩ (fun H locs hP hD hS => ?_)
  have hP := hP.perm List.perm_append_comm
  have hD := hD.perm List.perm_append_comm
  refine lv_aload_n S.1 S.2.1 dL_law_459 rfl (lv_at hl 1 rfl) ?_
  refine lv_aload_n S.1 S.2.1 dL_law_460 rfl (lv_at hl 3 rfl) ?_
  refine lv_iload_n S.1 S.2.1 dL_law_461 rfl (lv_at hl 0 rfl) ?_
  refine lv_iconst (v := nI 1) S.1 S.2.1 dL_law_462 (by decide) ?_
  refine lv_iadd S.1 S.2.1 dL_law_463 ?_
  refine va_sld S.1 S.2.1 hX hbl hbA hS v1 dL_law_464 ?_
  refine lv_aload_n S.1 S.2.1 dL_law_465 rfl (lv_at hl 3 rfl) ?_
  refine lv_iload_n S.1 S.2.1 dL_law_466 rfl (lv_at hl 0 rfl) ?_
  refine lv_iconst (v := nI 2) S.1 S.2.1 dL_law_467 (by decide) ?_
  refine lv_iadd S.1 S.2.1 dL_law_468 ?_
  refine va_sld S.1 S.2.1 hX hbl hbA hS v2 dL_law_469 ?_
  refine g_calli (c0 := 0) (cs := csM) (ad := adm) (Eg := mE ki adm) (As := [.int (xs (nI i + nI 1).toNatClampNeg), .int (xs (nI i + nI 2).toNatClampNeg)]) (rest := [.int r]) (w2 := gW csW ad (xE ki ad G1 tr1)) S hKK hNN hP hD hS hA (kR_c 0 (by omega)) mE_R rfl (mX5_turn l D ki adm csM kR_c 2000 (xs (nI i + nI 1).toNatClampNeg) (xs (nI i + nI 2).toNatClampNeg) Gm trm) e2 (cwV 2 S.2.2.2.2 lG_X5_turn rfl rfl rfl (by decide +kernel) ⟨Nat.le_of_ble_eq_true rfl, Nat.le_of_ble_eq_true rfl⟩) rfl hl.1 rfl (lv_room (Nat.le_of_ble_eq_true rfl)) dL_law_470 ⟨Nat.le_of_ble_eq_true rfl, Nat.le_of_ble_eq_true rfl⟩ (fun H locs hP hD hS => ?_)
  have hP := hP.perm List.perm_append_comm
  have hD := hD.perm List.perm_append_comm
  exact lv_icmp_eq (tgt := 1076) S.1 S.2.1 dL_law_473 (by decide) (fun _ => kk _ _ _ _ _ _ _ hR ⟨hP, hD, hS⟩ hl) (fun hn => absurd rfl hn)
set_option maxHeartbeats 8000000 in
set_option maxRecDepth 100000 in
theorem law_undo (S : CallFix p m c cL_law 4 s args lw_tbl RL) (hKK : va_K D vwCl (zT ki) s) (hNN : nK s) (hX : va_X b L xs s s.heap) (hbl : b < s.heap.size) (hi : i + 5 ≤ L) (hL : L ≤ 320) (h : Rel G tr Gm trm) (w : lS D ki ad adm s G tr Gm trm H locs) (hl : lv_has ls 4 [(3, .int (nI i)), (2, .ref (adm 0)), (1, .ref (ad 0)), (0, .ref b)])
    (kk : ∀ (G : zMem) (tr : Int64) (Gm : zMem) (trm : Int64) (H : Heap) (locs : List Loc) (ls : Array Slot), Rel G tr Gm trm → lS D ki ad adm s G tr Gm trm H locs → lv_has ls 4 [(3, .int (nI i)), (2, .ref (adm 0)), (1, .ref (ad 0)), (0, .ref b)] → W p l e room_1 s m args below meth c H locs 600000 7302250 Q (F0 m 1076 ls [])) : W p l e room_1 s m args below meth c H locs 600000 7302250 Q (F0 m 478 ls []) := by
  obtain ⟨hP, hD, hS⟩ := w
  have hA : ∀ q, s.heap.size ≤ q → lA s q := fun _ h => h
  have hbA : ¬ lA s b := Nat.not_le.mpr hbl
  obtain ⟨r, G1, tr1, Gm1, trm1, e1, e2, hR⟩ := op_undo h (N := 2000) (by omega)
  refine lv_aload_n S.1 S.2.1 dL_law_478 rfl (lv_at hl 2 rfl) ?_
  refine g_calli (c0 := 0) (cs := csW) (ad := ad) (Eg := xE ki ad) (As := []) (rest := []) (w2 := gW csM adm (mE ki adm Gm trm)) S hKK hNN hP hD hS hA (kW_c 0 (by omega)) xE_W rfl (mX4_undo l D ki ad csW kW_c 2000  G tr) e1 (cwV 0 S.2.2.2.2 lG_X4_undo rfl rfl rfl (by decide +kernel) ⟨Nat.le_of_ble_eq_true rfl, Nat.le_of_ble_eq_true rfl⟩) rfl hl.1 rfl (lv_room (Nat.le_of_ble_eq_true rfl)) dL_law_479 ⟨Nat.le_of_ble_eq_true rfl, Nat.le_of_ble_eq_true rfl⟩ (fun H locs hP hD hS => ?_)
  have hP := hP.perm List.perm_append_comm
  have hD := hD.perm List.perm_append_comm
  refine lv_aload_n S.1 S.2.1 dL_law_482 rfl (lv_at hl 1 rfl) ?_
  refine g_calli (c0 := 0) (cs := csM) (ad := adm) (Eg := mE ki adm) (As := []) (rest := [.int r]) (w2 := gW csW ad (xE ki ad G1 tr1)) S hKK hNN hP hD hS hA (kR_c 0 (by omega)) mE_R rfl (mX5_undo l D ki adm csM kR_c 2000  Gm trm) e2 (cwV 0 S.2.2.2.2 lG_X5_undo rfl rfl rfl (by decide +kernel) ⟨Nat.le_of_ble_eq_true rfl, Nat.le_of_ble_eq_true rfl⟩) rfl hl.1 rfl (lv_room (Nat.le_of_ble_eq_true rfl)) dL_law_483 ⟨Nat.le_of_ble_eq_true rfl, Nat.le_of_ble_eq_true rfl⟩ (fun H locs hP hD hS => ?_)
  have hP := hP.perm List.perm_append_comm
  have hD := hD.perm List.perm_append_comm
  exact lv_icmp_eq (tgt := 1076) S.1 S.2.1 dL_law_486 (by decide) (fun _ => kk _ _ _ _ _ _ _ hR ⟨hP, hD, hS⟩ hl) (fun hn => absurd rfl hn)
set_option maxHeartbeats 8000000 in
set_option maxRecDepth 100000 in
theorem law_where (S : CallFix p m c cL_law 4 s args lw_tbl RL) (hKK : va_K D vwCl (zT ki) s) (hNN : nK s) (hX : va_X b L xs s s.heap) (hbl : b < s.heap.size) (hi : i + 5 ≤ L) (hL : L ≤ 320) (h : Rel G tr Gm trm) (w : lS D ki ad adm s G tr Gm trm H locs) (hl : lv_has ls 4 [(3, .int (nI i)), (2, .ref (adm 0)), (1, .ref (ad 0)), (0, .ref b)])
    (kk : ∀ (G : zMem) (tr : Int64) (Gm : zMem) (trm : Int64) (H : Heap) (locs : List Loc) (ls : Array Slot), Rel G tr Gm trm → lS D ki ad adm s G tr Gm trm H locs → lv_has ls 4 [(3, .int (nI i)), (2, .ref (adm 0)), (1, .ref (ad 0)), (0, .ref b)] → W p l e room_1 s m args below meth c H locs 600000 7302250 Q (F0 m 1076 ls [])) : W p l e room_1 s m args below meth c H locs 600000 7302250 Q (F0 m 491 ls []) := by
  obtain ⟨hP, hD, hS⟩ := w
  have hA : ∀ q, s.heap.size ≤ q → lA s q := fun _ h => h
  have hbA : ¬ lA s b := Nat.not_le.mpr hbl
  have v1 : vp_in (nI i + nI 1) L := la_in hi hL (by omega)
  have v2 : vp_in (nI i + nI 2) L := la_in hi hL (by omega)
  obtain ⟨r, G1, tr1, Gm1, trm1, e1, e2, hR⟩ := op_where h (N := 2000) (by omega) (xs (nI i + nI 1).toNatClampNeg) (xs (nI i + nI 2).toNatClampNeg)
  refine lv_aload_n S.1 S.2.1 dL_law_491 rfl (lv_at hl 2 rfl) ?_
  refine lv_aload_n S.1 S.2.1 dL_law_492 rfl (lv_at hl 3 rfl) ?_
  refine lv_iload_n S.1 S.2.1 dL_law_493 rfl (lv_at hl 0 rfl) ?_
  refine lv_iconst (v := nI 1) S.1 S.2.1 dL_law_494 (by decide) ?_
  refine lv_iadd S.1 S.2.1 dL_law_495 ?_
  refine va_sld S.1 S.2.1 hX hbl hbA hS v1 dL_law_496 ?_
  refine lv_aload_n S.1 S.2.1 dL_law_497 rfl (lv_at hl 3 rfl) ?_
  refine lv_iload_n S.1 S.2.1 dL_law_498 rfl (lv_at hl 0 rfl) ?_
  refine lv_iconst (v := nI 2) S.1 S.2.1 dL_law_499 (by decide) ?_
  refine lv_iadd S.1 S.2.1 dL_law_500 ?_
  refine va_sld S.1 S.2.1 hX hbl hbA hS v2 dL_law_501 ?_
  refine g_calli (c0 := 0) (cs := csW) (ad := ad) (Eg := xE ki ad) (As := [.int (xs (nI i + nI 1).toNatClampNeg), .int (xs (nI i + nI 2).toNatClampNeg)]) (rest := []) (w2 := gW csM adm (mE ki adm Gm trm)) S hKK hNN hP hD hS hA (kW_c 0 (by omega)) xE_W rfl (mX4_where l D ki ad csW kW_c 2000 (xs (nI i + nI 1).toNatClampNeg) (xs (nI i + nI 2).toNatClampNeg) G tr) e1 (cwV 2 S.2.2.2.2 lG_X4_where rfl rfl rfl (by decide +kernel) ⟨Nat.le_of_ble_eq_true rfl, Nat.le_of_ble_eq_true rfl⟩) rfl hl.1 rfl (lv_room (Nat.le_of_ble_eq_true rfl)) dL_law_502 ⟨Nat.le_of_ble_eq_true rfl, Nat.le_of_ble_eq_true rfl⟩ (fun H locs hP hD hS => ?_)
  have hP := hP.perm List.perm_append_comm
  have hD := hD.perm List.perm_append_comm
  refine lv_aload_n S.1 S.2.1 dL_law_505 rfl (lv_at hl 1 rfl) ?_
  refine lv_aload_n S.1 S.2.1 dL_law_506 rfl (lv_at hl 3 rfl) ?_
  refine lv_iload_n S.1 S.2.1 dL_law_507 rfl (lv_at hl 0 rfl) ?_
  refine lv_iconst (v := nI 1) S.1 S.2.1 dL_law_508 (by decide) ?_
  refine lv_iadd S.1 S.2.1 dL_law_509 ?_
  refine va_sld S.1 S.2.1 hX hbl hbA hS v1 dL_law_510 ?_
  refine lv_aload_n S.1 S.2.1 dL_law_511 rfl (lv_at hl 3 rfl) ?_
  refine lv_iload_n S.1 S.2.1 dL_law_512 rfl (lv_at hl 0 rfl) ?_
  refine lv_iconst (v := nI 2) S.1 S.2.1 dL_law_513 (by decide) ?_
  refine lv_iadd S.1 S.2.1 dL_law_514 ?_
  refine va_sld S.1 S.2.1 hX hbl hbA hS v2 dL_law_515 ?_
  refine g_calli (c0 := 0) (cs := csM) (ad := adm) (Eg := mE ki adm) (As := [.int (xs (nI i + nI 1).toNatClampNeg), .int (xs (nI i + nI 2).toNatClampNeg)]) (rest := [.int r]) (w2 := gW csW ad (xE ki ad G1 tr1)) S hKK hNN hP hD hS hA (kR_c 0 (by omega)) mE_R rfl (mX5_where l D ki adm csM kR_c 2000 (xs (nI i + nI 1).toNatClampNeg) (xs (nI i + nI 2).toNatClampNeg) Gm trm) e2 (cwV 2 S.2.2.2.2 lG_X5_where rfl rfl rfl (by decide +kernel) ⟨Nat.le_of_ble_eq_true rfl, Nat.le_of_ble_eq_true rfl⟩) rfl hl.1 rfl (lv_room (Nat.le_of_ble_eq_true rfl)) dL_law_516 ⟨Nat.le_of_ble_eq_true rfl, Nat.le_of_ble_eq_true rfl⟩ (fun H locs hP hD hS => ?_)
  have hP := hP.perm List.perm_append_comm
  have hD := hD.perm List.perm_append_comm
  exact lv_icmp_eq (tgt := 1076) S.1 S.2.1 dL_law_519 (by decide) (fun _ => kk _ _ _ _ _ _ _ hR ⟨hP, hD, hS⟩ hl) (fun hn => absurd rfl hn)
set_option maxHeartbeats 8000000 in
set_option maxRecDepth 100000 in
theorem law_comes (S : CallFix p m c cL_law 4 s args lw_tbl RL) (hKK : va_K D vwCl (zT ki) s) (hNN : nK s) (hX : va_X b L xs s s.heap) (hbl : b < s.heap.size) (hi : i + 5 ≤ L) (hL : L ≤ 320) (h : Rel G tr Gm trm) (w : lS D ki ad adm s G tr Gm trm H locs) (hl : lv_has ls 4 [(3, .int (nI i)), (2, .ref (adm 0)), (1, .ref (ad 0)), (0, .ref b)])
    (kk : ∀ (G : zMem) (tr : Int64) (Gm : zMem) (trm : Int64) (H : Heap) (locs : List Loc) (ls : Array Slot), Rel G tr Gm trm → lS D ki ad adm s G tr Gm trm H locs → lv_has ls 4 [(3, .int (nI i)), (2, .ref (adm 0)), (1, .ref (ad 0)), (0, .ref b)] → W p l e room_1 s m args below meth c H locs 600000 7302250 Q (F0 m 1076 ls [])) : W p l e room_1 s m args below meth c H locs 600000 7302250 Q (F0 m 524 ls []) := by
  obtain ⟨hP, hD, hS⟩ := w
  have hA : ∀ q, s.heap.size ≤ q → lA s q := fun _ h => h
  have hbA : ¬ lA s b := Nat.not_le.mpr hbl
  have v1 : vp_in (nI i + nI 1) L := la_in hi hL (by omega)
  obtain ⟨r, G1, tr1, Gm1, trm1, e1, e2, hR⟩ := op_comes h (N := 2000) (by omega) (xs (nI i + nI 1).toNatClampNeg)
  refine lv_aload_n S.1 S.2.1 dL_law_524 rfl (lv_at hl 2 rfl) ?_
  refine lv_aload_n S.1 S.2.1 dL_law_525 rfl (lv_at hl 3 rfl) ?_
  refine lv_iload_n S.1 S.2.1 dL_law_526 rfl (lv_at hl 0 rfl) ?_
  refine lv_iconst (v := nI 1) S.1 S.2.1 dL_law_527 (by decide) ?_
  refine lv_iadd S.1 S.2.1 dL_law_528 ?_
  refine va_sld S.1 S.2.1 hX hbl hbA hS v1 dL_law_529 ?_
  refine g_calli (c0 := 0) (cs := csW) (ad := ad) (Eg := xE ki ad) (As := [.int (xs (nI i + nI 1).toNatClampNeg)]) (rest := []) (w2 := gW csM adm (mE ki adm Gm trm)) S hKK hNN hP hD hS hA (kW_c 0 (by omega)) xE_W rfl (mX4_comes l D ki ad csW kW_c 2000 (xs (nI i + nI 1).toNatClampNeg) G tr) e1 (cwV 1 S.2.2.2.2 lG_X4_comes rfl rfl rfl (by decide +kernel) ⟨Nat.le_of_ble_eq_true rfl, Nat.le_of_ble_eq_true rfl⟩) rfl hl.1 rfl (lv_room (Nat.le_of_ble_eq_true rfl)) dL_law_530 ⟨Nat.le_of_ble_eq_true rfl, Nat.le_of_ble_eq_true rfl⟩ (fun H locs hP hD hS => ?_)
  have hP := hP.perm List.perm_append_comm
  have hD := hD.perm List.perm_append_comm
  refine lv_aload_n S.1 S.2.1 dL_law_533 rfl (lv_at hl 1 rfl) ?_
  refine lv_aload_n S.1 S.2.1 dL_law_534 rfl (lv_at hl 3 rfl) ?_
  refine lv_iload_n S.1 S.2.1 dL_law_535 rfl (lv_at hl 0 rfl) ?_
  refine lv_iconst (v := nI 1) S.1 S.2.1 dL_law_536 (by decide) ?_
  refine lv_iadd S.1 S.2.1 dL_law_537 ?_
  refine va_sld S.1 S.2.1 hX hbl hbA hS v1 dL_law_538 ?_
  refine g_calli (c0 := 0) (cs := csM) (ad := adm) (Eg := mE ki adm) (As := [.int (xs (nI i + nI 1).toNatClampNeg)]) (rest := [.int r]) (w2 := gW csW ad (xE ki ad G1 tr1)) S hKK hNN hP hD hS hA (kR_c 0 (by omega)) mE_R rfl (mX5_comes l D ki adm csM kR_c 2000 (xs (nI i + nI 1).toNatClampNeg) Gm trm) e2 (cwV 1 S.2.2.2.2 lG_X5_comes rfl rfl rfl (by decide +kernel) ⟨Nat.le_of_ble_eq_true rfl, Nat.le_of_ble_eq_true rfl⟩) rfl hl.1 rfl (lv_room (Nat.le_of_ble_eq_true rfl)) dL_law_539 ⟨Nat.le_of_ble_eq_true rfl, Nat.le_of_ble_eq_true rfl⟩ (fun H locs hP hD hS => ?_)
  have hP := hP.perm List.perm_append_comm
  have hD := hD.perm List.perm_append_comm
  exact lv_icmp_eq (tgt := 1076) S.1 S.2.1 dL_law_542 (by decide) (fun _ => kk _ _ _ _ _ _ _ hR ⟨hP, hD, hS⟩ hl) (fun hn => absurd rfl hn)
set_option maxHeartbeats 8000000 in
set_option maxRecDepth 100000 in
theorem law_blots (S : CallFix p m c cL_law 4 s args lw_tbl RL) (hKK : va_K D vwCl (zT ki) s) (hNN : nK s) (hX : va_X b L xs s s.heap) (hbl : b < s.heap.size) (hi : i + 5 ≤ L) (hL : L ≤ 320) (h : Rel G tr Gm trm) (w : lS D ki ad adm s G tr Gm trm H locs) (hl : lv_has ls 4 [(3, .int (nI i)), (2, .ref (adm 0)), (1, .ref (ad 0)), (0, .ref b)])
    (kk : ∀ (G : zMem) (tr : Int64) (Gm : zMem) (trm : Int64) (H : Heap) (locs : List Loc) (ls : Array Slot), Rel G tr Gm trm → lS D ki ad adm s G tr Gm trm H locs → lv_has ls 4 [(3, .int (nI i)), (2, .ref (adm 0)), (1, .ref (ad 0)), (0, .ref b)] → W p l e room_1 s m args below meth c H locs 600000 7302250 Q (F0 m 1076 ls [])) : W p l e room_1 s m args below meth c H locs 600000 7302250 Q (F0 m 547 ls []) := by
  obtain ⟨hP, hD, hS⟩ := w
  have hA : ∀ q, s.heap.size ≤ q → lA s q := fun _ h => h
  have hbA : ¬ lA s b := Nat.not_le.mpr hbl
  have v1 : vp_in (nI i + nI 1) L := la_in hi hL (by omega)
  have v2 : vp_in (nI i + nI 2) L := la_in hi hL (by omega)
  obtain ⟨r, G1, tr1, Gm1, trm1, e1, e2, hR⟩ := op_blots h (N := 2000) (by omega) (xs (nI i + nI 1).toNatClampNeg) (xs (nI i + nI 2).toNatClampNeg)
  refine lv_aload_n S.1 S.2.1 dL_law_547 rfl (lv_at hl 2 rfl) ?_
  refine lv_aload_n S.1 S.2.1 dL_law_548 rfl (lv_at hl 3 rfl) ?_
  refine lv_iload_n S.1 S.2.1 dL_law_549 rfl (lv_at hl 0 rfl) ?_
  refine lv_iconst (v := nI 1) S.1 S.2.1 dL_law_550 (by decide) ?_
  refine lv_iadd S.1 S.2.1 dL_law_551 ?_
  refine va_sld S.1 S.2.1 hX hbl hbA hS v1 dL_law_552 ?_
  refine lv_aload_n S.1 S.2.1 dL_law_553 rfl (lv_at hl 3 rfl) ?_
  refine lv_iload_n S.1 S.2.1 dL_law_554 rfl (lv_at hl 0 rfl) ?_
  refine lv_iconst (v := nI 2) S.1 S.2.1 dL_law_555 (by decide) ?_
  refine lv_iadd S.1 S.2.1 dL_law_556 ?_
  refine va_sld S.1 S.2.1 hX hbl hbA hS v2 dL_law_557 ?_
  refine g_calli (c0 := 0) (cs := csW) (ad := ad) (Eg := xE ki ad) (As := [.int (xs (nI i + nI 1).toNatClampNeg), .int (xs (nI i + nI 2).toNatClampNeg)]) (rest := []) (w2 := gW csM adm (mE ki adm Gm trm)) S hKK hNN hP hD hS hA (kW_c 0 (by omega)) xE_W rfl (mX4_blots l D ki ad csW kW_c 2000 (xs (nI i + nI 1).toNatClampNeg) (xs (nI i + nI 2).toNatClampNeg) G tr) e1 (cwV 2 S.2.2.2.2 lG_X4_blots rfl rfl rfl (by decide +kernel) ⟨Nat.le_of_ble_eq_true rfl, Nat.le_of_ble_eq_true rfl⟩) rfl hl.1 rfl (lv_room (Nat.le_of_ble_eq_true rfl)) dL_law_558 ⟨Nat.le_of_ble_eq_true rfl, Nat.le_of_ble_eq_true rfl⟩ (fun H locs hP hD hS => ?_)
  have hP := hP.perm List.perm_append_comm
  have hD := hD.perm List.perm_append_comm
  refine lv_aload_n S.1 S.2.1 dL_law_561 rfl (lv_at hl 1 rfl) ?_
  refine lv_aload_n S.1 S.2.1 dL_law_562 rfl (lv_at hl 3 rfl) ?_
  refine lv_iload_n S.1 S.2.1 dL_law_563 rfl (lv_at hl 0 rfl) ?_
  refine lv_iconst (v := nI 1) S.1 S.2.1 dL_law_564 (by decide) ?_
  refine lv_iadd S.1 S.2.1 dL_law_565 ?_
  refine va_sld S.1 S.2.1 hX hbl hbA hS v1 dL_law_566 ?_
  refine lv_aload_n S.1 S.2.1 dL_law_567 rfl (lv_at hl 3 rfl) ?_
  refine lv_iload_n S.1 S.2.1 dL_law_568 rfl (lv_at hl 0 rfl) ?_
  refine lv_iconst (v := nI 2) S.1 S.2.1 dL_law_569 (by decide) ?_
  refine lv_iadd S.1 S.2.1 dL_law_570 ?_
  refine va_sld S.1 S.2.1 hX hbl hbA hS v2 dL_law_571 ?_
  refine g_calli (c0 := 0) (cs := csM) (ad := adm) (Eg := mE ki adm) (As := [.int (xs (nI i + nI 1).toNatClampNeg), .int (xs (nI i + nI 2).toNatClampNeg)]) (rest := [.int r]) (w2 := gW csW ad (xE ki ad G1 tr1)) S hKK hNN hP hD hS hA (kR_c 0 (by omega)) mE_R rfl (mX5_blots l D ki adm csM kR_c 2000 (xs (nI i + nI 1).toNatClampNeg) (xs (nI i + nI 2).toNatClampNeg) Gm trm) e2 (cwV 2 S.2.2.2.2 lG_X5_blots rfl rfl rfl (by decide +kernel) ⟨Nat.le_of_ble_eq_true rfl, Nat.le_of_ble_eq_true rfl⟩) rfl hl.1 rfl (lv_room (Nat.le_of_ble_eq_true rfl)) dL_law_572 ⟨Nat.le_of_ble_eq_true rfl, Nat.le_of_ble_eq_true rfl⟩ (fun H locs hP hD hS => ?_)
  have hP := hP.perm List.perm_append_comm
  have hD := hD.perm List.perm_append_comm
  exact lv_icmp_eq (tgt := 1076) S.1 S.2.1 dL_law_575 (by decide) (fun _ => kk _ _ _ _ _ _ _ hR ⟨hP, hD, hS⟩ hl) (fun hn => absurd rfl hn)
end lawC
