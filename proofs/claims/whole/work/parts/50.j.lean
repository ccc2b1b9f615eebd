theorem dJ9_floorMod_7cf53_0 : decode cJ9_floorMod_7cf53 0 = .ok (.iload_n 0, 1) := by decide +kernel
theorem dJ9_floorMod_7cf53_1 : decode cJ9_floorMod_7cf53 1 = .ok (.iload_n 1, 1) := by decide +kernel
theorem dJ9_floorMod_7cf53_2 : decode cJ9_floorMod_7cf53 2 = .ok (.irem, 1) := by decide +kernel
theorem dJ9_floorMod_7cf53_3 : decode cJ9_floorMod_7cf53 3 = .ok (.istore_n 2, 1) := by decide +kernel
theorem dJ9_floorMod_7cf53_4 : decode cJ9_floorMod_7cf53 4 = .ok (.iload_n 0, 1) := by decide +kernel
theorem dJ9_floorMod_7cf53_5 : decode cJ9_floorMod_7cf53 5 = .ok (.iload_n 1, 1) := by decide +kernel
theorem dJ9_floorMod_7cf53_6 : decode cJ9_floorMod_7cf53 6 = .ok (.ixor, 1) := by decide +kernel
theorem dJ9_floorMod_7cf53_7 : decode cJ9_floorMod_7cf53 7 = .ok (.ifCond .ge 11, 3) := by decide +kernel
theorem dJ9_floorMod_7cf53_10 : decode cJ9_floorMod_7cf53 10 = .ok (.iload_n 2, 1) := by decide +kernel
theorem dJ9_floorMod_7cf53_11 : decode cJ9_floorMod_7cf53 11 = .ok (.ifCond .eq 7, 3) := by decide +kernel
theorem dJ9_floorMod_7cf53_14 : decode cJ9_floorMod_7cf53 14 = .ok (.iload_n 2, 1) := by decide +kernel
theorem dJ9_floorMod_7cf53_15 : decode cJ9_floorMod_7cf53 15 = .ok (.iload_n 1, 1) := by decide +kernel
theorem dJ9_floorMod_7cf53_16 : decode cJ9_floorMod_7cf53 16 = .ok (.iadd, 1) := by decide +kernel
theorem dJ9_floorMod_7cf53_17 : decode cJ9_floorMod_7cf53 17 = .ok (.ireturn, 1) := by decide +kernel
theorem dJ9_floorMod_7cf53_18 : decode cJ9_floorMod_7cf53 18 = .ok (.iload_n 2, 1) := by decide +kernel
theorem dJ9_floorMod_7cf53_19 : decode cJ9_floorMod_7cf53 19 = .ok (.ireturn, 1) := by decide +kernel

set_option maxHeartbeats 8000000 in
set_option maxRecDepth 100000 in
theorem mJ9_floorMod_7cf53 (l : Launch) (D : va_G) (ki : Nat → ClassId) (ad : Nat → Nat) (cs : List Nat) (N : Nat) (a0 : Int32) (a1 : Int32) (Eg : zMem → Int64 → Nat → va_E) (G : zMem) (tr : Int64) : gMetI l D ki ad cs yJ9_floorMod_7cf53 wsJ9_floorMod_7cf53 { frames := 0, cells := 0, slots := 0, locals := 0 } [.int a0, .int a1] Eg G tr (zpu (fJ9_floorMod_7cf53 N a0 a1) G tr) := by
  refine gMetI_of (cc := cJ9_floorMod_7cf53) (maxL := 3) (ret := (some .int)) (own := RJ9) (by decide +kernel) rfl rfl (Nat.le_of_ble_eq_true rfl) ?_
  intro r9 G9 tr9 h p e s m below meth c S hr hlk K X ls hl
  obtain ⟨h0, rfl, rfl⟩ := zpu_some h
  clear h
  have h := h0
  clear h0
  have hl : lv_has ls 3 [(0, .int a0), (1, .int a1)] := hl
  unfold fJ9_floorMod_7cf53 at h
  obtain ⟨H, hH⟩ : ∃ H, H = s.heap := ⟨_, rfl⟩
  obtain ⟨locs, hlo⟩ : ∃ locs : List Loc, locs = [] := ⟨_, rfl⟩
  have X : gS D cs ad (Eg G tr) (gA cs ad s.heap.size) s H locs := by rw [hH, hlo]; exact X
  suffices z : W p l e (headSpec wsJ9_floorMod_7cf53 { frames := 0, cells := 0, slots := 0, locals := 0 }).room s m ([.int a0, .int a1] : List Value).toArray below meth c H locs 0 0 (zQI below ([.int a0, .int a1] : List Value).toArray s D cs ad (Eg G tr) r9) (F0 m 0 ls []) by rw [hH, hlo] at z; exact z
  clear hH hlo
  refine lv_iload_n S.1 S.2.1 dJ9_floorMod_7cf53_0 rfl (lv_at hl 0 rfl) ?_
  refine lv_iload_n S.1 S.2.1 dJ9_floorMod_7cf53_1 rfl (lv_at hl 1 rfl) ?_
  obtain ⟨hz_1, h⟩ := zdv_some h
  refine lv_irem S.1 S.2.1 dJ9_floorMod_7cf53_2 hz_1 ?_
  refine lv_istore_n (lv' := [(2, .int (a0 - a0 / a1 * a1)), (0, .int a0), (1, .int a1)]) S.1 S.2.1 dJ9_floorMod_7cf53_3 rfl hl (by decide) rfl (fun ls hl => ?_)
  refine lv_iload_n S.1 S.2.1 dJ9_floorMod_7cf53_4 rfl (lv_at hl 1 rfl) ?_
  refine lv_iload_n S.1 S.2.1 dJ9_floorMod_7cf53_5 rfl (lv_at hl 2 rfl) ?_
  refine lv_ixor S.1 S.2.1 dJ9_floorMod_7cf53_6 ?_
  refine lv_if_ge (tgt := 18) S.1 S.2.1 dJ9_floorMod_7cf53_7 (by decide) (fun hc_2 => ?_) (fun hc_2 => ?_)
  · have h := zif_pos hc_2 h
    refine lv_iload_n S.1 S.2.1 dJ9_floorMod_7cf53_18 rfl (lv_at hl 0 rfl) ?_
    exact zr_iretP S hr hlk X h dJ9_floorMod_7cf53_19
  · have h := zif_neg hc_2 h
    refine lv_iload_n S.1 S.2.1 dJ9_floorMod_7cf53_10 rfl (lv_at hl 0 rfl) ?_
    refine lv_if_eq (tgt := 18) S.1 S.2.1 dJ9_floorMod_7cf53_11 (by decide) (fun hc_3 => ?_) (fun hc_3 => ?_)
    · have h := zif_pos hc_3 h
      refine lv_iload_n S.1 S.2.1 dJ9_floorMod_7cf53_18 rfl (lv_at hl 0 rfl) ?_
      exact zr_iretP S hr hlk X h dJ9_floorMod_7cf53_19
    · have h := zif_neg hc_3 h
      refine lv_iload_n S.1 S.2.1 dJ9_floorMod_7cf53_14 rfl (lv_at hl 0 rfl) ?_
      refine lv_iload_n S.1 S.2.1 dJ9_floorMod_7cf53_15 rfl (lv_at hl 2 rfl) ?_
      refine lv_iadd S.1 S.2.1 dJ9_floorMod_7cf53_16 ?_
      exact zr_iretP S hr hlk X h dJ9_floorMod_7cf53_17
theorem dJ6_bitCount_0f7a4_0 : decode cJ6_bitCount_0f7a4 0 = .ok (.iload_n 0, 1) := by decide +kernel
theorem dJ6_bitCount_0f7a4_1 : decode cJ6_bitCount_0f7a4 1 = .ok (.iload_n 0, 1) := by decide +kernel
theorem dJ6_bitCount_0f7a4_2 : decode cJ6_bitCount_0f7a4 2 = .ok (.iconst 1, 1) := by decide +kernel
theorem dJ6_bitCount_0f7a4_3 : decode cJ6_bitCount_0f7a4 3 = .ok (.iushr, 1) := by decide +kernel
theorem dJ6_bitCount_0f7a4_4 : decode cJ6_bitCount_0f7a4 4 = .ok (.ldc_w 265, 3) := by decide +kernel
theorem dJ6_bitCount_0f7a4_7 : decode cJ6_bitCount_0f7a4 7 = .ok (.iand, 1) := by decide +kernel
theorem dJ6_bitCount_0f7a4_8 : decode cJ6_bitCount_0f7a4 8 = .ok (.isub, 1) := by decide +kernel
theorem dJ6_bitCount_0f7a4_9 : decode cJ6_bitCount_0f7a4 9 = .ok (.istore_n 0, 1) := by decide +kernel
theorem dJ6_bitCount_0f7a4_10 : decode cJ6_bitCount_0f7a4 10 = .ok (.iload_n 0, 1) := by decide +kernel
theorem dJ6_bitCount_0f7a4_11 : decode cJ6_bitCount_0f7a4 11 = .ok (.ldc_w 266, 3) := by decide +kernel
theorem dJ6_bitCount_0f7a4_14 : decode cJ6_bitCount_0f7a4 14 = .ok (.iand, 1) := by decide +kernel
theorem dJ6_bitCount_0f7a4_15 : decode cJ6_bitCount_0f7a4 15 = .ok (.iload_n 0, 1) := by decide +kernel
theorem dJ6_bitCount_0f7a4_16 : decode cJ6_bitCount_0f7a4 16 = .ok (.iconst 2, 1) := by decide +kernel
theorem dJ6_bitCount_0f7a4_17 : decode cJ6_bitCount_0f7a4 17 = .ok (.iushr, 1) := by decide +kernel
theorem dJ6_bitCount_0f7a4_18 : decode cJ6_bitCount_0f7a4 18 = .ok (.ldc_w 266, 3) := by decide +kernel
theorem dJ6_bitCount_0f7a4_21 : decode cJ6_bitCount_0f7a4 21 = .ok (.iand, 1) := by decide +kernel
theorem dJ6_bitCount_0f7a4_22 : decode cJ6_bitCount_0f7a4 22 = .ok (.iadd, 1) := by decide +kernel
theorem dJ6_bitCount_0f7a4_23 : decode cJ6_bitCount_0f7a4 23 = .ok (.istore_n 0, 1) := by decide +kernel
theorem dJ6_bitCount_0f7a4_24 : decode cJ6_bitCount_0f7a4 24 = .ok (.iload_n 0, 1) := by decide +kernel
theorem dJ6_bitCount_0f7a4_25 : decode cJ6_bitCount_0f7a4 25 = .ok (.iload_n 0, 1) := by decide +kernel
theorem dJ6_bitCount_0f7a4_26 : decode cJ6_bitCount_0f7a4 26 = .ok (.iconst 4, 1) := by decide +kernel
theorem dJ6_bitCount_0f7a4_27 : decode cJ6_bitCount_0f7a4 27 = .ok (.iushr, 1) := by decide +kernel
theorem dJ6_bitCount_0f7a4_28 : decode cJ6_bitCount_0f7a4 28 = .ok (.iadd, 1) := by decide +kernel
theorem dJ6_bitCount_0f7a4_29 : decode cJ6_bitCount_0f7a4 29 = .ok (.ldc_w 267, 3) := by decide +kernel
theorem dJ6_bitCount_0f7a4_32 : decode cJ6_bitCount_0f7a4 32 = .ok (.iand, 1) := by decide +kernel
theorem dJ6_bitCount_0f7a4_33 : decode cJ6_bitCount_0f7a4 33 = .ok (.istore_n 0, 1) := by decide +kernel
theorem dJ6_bitCount_0f7a4_34 : decode cJ6_bitCount_0f7a4 34 = .ok (.iload_n 0, 1) := by decide +kernel
theorem dJ6_bitCount_0f7a4_35 : decode cJ6_bitCount_0f7a4 35 = .ok (.iload_n 0, 1) := by decide +kernel
theorem dJ6_bitCount_0f7a4_36 : decode cJ6_bitCount_0f7a4 36 = .ok (.bipush 8, 2) := by decide +kernel
theorem dJ6_bitCount_0f7a4_38 : decode cJ6_bitCount_0f7a4 38 = .ok (.iushr, 1) := by decide +kernel
theorem dJ6_bitCount_0f7a4_39 : decode cJ6_bitCount_0f7a4 39 = .ok (.iadd, 1) := by decide +kernel
theorem dJ6_bitCount_0f7a4_40 : decode cJ6_bitCount_0f7a4 40 = .ok (.istore_n 0, 1) := by decide +kernel
theorem dJ6_bitCount_0f7a4_41 : decode cJ6_bitCount_0f7a4 41 = .ok (.iload_n 0, 1) := by decide +kernel
theorem dJ6_bitCount_0f7a4_42 : decode cJ6_bitCount_0f7a4 42 = .ok (.iload_n 0, 1) := by decide +kernel
theorem dJ6_bitCount_0f7a4_43 : decode cJ6_bitCount_0f7a4 43 = .ok (.bipush 16, 2) := by decide +kernel
theorem dJ6_bitCount_0f7a4_45 : decode cJ6_bitCount_0f7a4 45 = .ok (.iushr, 1) := by decide +kernel
theorem dJ6_bitCount_0f7a4_46 : decode cJ6_bitCount_0f7a4 46 = .ok (.iadd, 1) := by decide +kernel
theorem dJ6_bitCount_0f7a4_47 : decode cJ6_bitCount_0f7a4 47 = .ok (.istore_n 0, 1) := by decide +kernel
theorem dJ6_bitCount_0f7a4_48 : decode cJ6_bitCount_0f7a4 48 = .ok (.iload_n 0, 1) := by decide +kernel
theorem dJ6_bitCount_0f7a4_49 : decode cJ6_bitCount_0f7a4 49 = .ok (.bipush 63, 2) := by decide +kernel
theorem dJ6_bitCount_0f7a4_51 : decode cJ6_bitCount_0f7a4 51 = .ok (.iand, 1) := by decide +kernel
theorem dJ6_bitCount_0f7a4_52 : decode cJ6_bitCount_0f7a4 52 = .ok (.ireturn, 1) := by decide +kernel
set_option maxRecDepth 20000 in
theorem qJ6_bitCount_0f7a4_265 : Cond.constant RJ6 265 (1431655765) ∈ wsJ6_bitCount_0f7a4 := by decide +kernel
set_option maxRecDepth 20000 in
theorem qJ6_bitCount_0f7a4_266 : Cond.constant RJ6 266 (858993459) ∈ wsJ6_bitCount_0f7a4 := by decide +kernel
set_option maxRecDepth 20000 in
theorem qJ6_bitCount_0f7a4_267 : Cond.constant RJ6 267 (252645135) ∈ wsJ6_bitCount_0f7a4 := by decide +kernel
set_option maxHeartbeats 8000000 in
set_option maxRecDepth 100000 in
theorem mJ6_bitCount_0f7a4 (l : Launch) (D : va_G) (ki : Nat → ClassId) (ad : Nat → Nat) (cs : List Nat) (N : Nat) (a0 : Int32) (Eg : zMem → Int64 → Nat → va_E) (G : zMem) (tr : Int64) : gMetI l D ki ad cs yJ6_bitCount_0f7a4 wsJ6_bitCount_0f7a4 { frames := 0, cells := 0, slots := 0, locals := 0 } [.int a0] Eg G tr (zpu (fJ6_bitCount_0f7a4 N a0) G tr) := by
  refine gMetI_of (cc := cJ6_bitCount_0f7a4) (maxL := 1) (ret := (some .int)) (own := RJ6) (by decide +kernel) rfl rfl (Nat.le_of_ble_eq_true rfl) ?_
  intro r9 G9 tr9 h p e s m below meth c S hr hlk K X ls hl
  obtain ⟨h0, rfl, rfl⟩ := zpu_some h
  clear h
  have h := h0
  clear h0
  have hl : lv_has ls 1 [(0, .int a0)] := hl
  unfold fJ6_bitCount_0f7a4 at h
  obtain ⟨H, hH⟩ : ∃ H, H = s.heap := ⟨_, rfl⟩
  obtain ⟨locs, hlo⟩ : ∃ locs : List Loc, locs = [] := ⟨_, rfl⟩
  have X : gS D cs ad (Eg G tr) (gA cs ad s.heap.size) s H locs := by rw [hH, hlo]; exact X
  suffices z : W p l e (headSpec wsJ6_bitCount_0f7a4 { frames := 0, cells := 0, slots := 0, locals := 0 }).room s m ([.int a0] : List Value).toArray below meth c H locs 0 0 (zQI below ([.int a0] : List Value).toArray s D cs ad (Eg G tr) r9) (F0 m 0 ls []) by rw [hH, hlo] at z; exact z
  clear hH hlo
  refine lv_iload_n S.1 S.2.1 dJ6_bitCount_0f7a4_0 rfl (lv_at hl 0 rfl) ?_
  refine lv_iload_n S.1 S.2.1 dJ6_bitCount_0f7a4_1 rfl (lv_at hl 0 rfl) ?_
  refine lv_iconst (v := (1 : Int32)) S.1 S.2.1 dJ6_bitCount_0f7a4_2 (by decide) ?_
  refine lv_iushr (v := (Int32.toUInt32 a0 >>> (Int32.toUInt32 (1 : Int32) &&& Int32.toUInt32 31)).toInt32) S.1 S.2.1 dJ6_bitCount_0f7a4_3 rfl ?_
  refine lv_ldcw (own := RJ6) (v := (1431655765 : Int32)) S.1 S.2.1 S.2.2.2.1 (S.2.2.2.2 _ qJ6_bitCount_0f7a4_265) dJ6_bitCount_0f7a4_4 ?_
  refine lv_iand S.1 S.2.1 dJ6_bitCount_0f7a4_7 ?_
  refine lv_isub S.1 S.2.1 dJ6_bitCount_0f7a4_8 ?_
  refine lv_istore_n (lv' := [(0, .int (a0 - (((Int32.toUInt32 a0 >>> (Int32.toUInt32 (1 : Int32) &&& Int32.toUInt32 31)).toInt32) &&& (1431655765 : Int32))))]) S.1 S.2.1 dJ6_bitCount_0f7a4_9 rfl hl (by decide) rfl (fun ls hl => ?_)
  refine lv_iload_n S.1 S.2.1 dJ6_bitCount_0f7a4_10 rfl (lv_at hl 0 rfl) ?_
  refine lv_ldcw (own := RJ6) (v := (858993459 : Int32)) S.1 S.2.1 S.2.2.2.1 (S.2.2.2.2 _ qJ6_bitCount_0f7a4_266) dJ6_bitCount_0f7a4_11 ?_
  refine lv_iand S.1 S.2.1 dJ6_bitCount_0f7a4_14 ?_
  refine lv_iload_n S.1 S.2.1 dJ6_bitCount_0f7a4_15 rfl (lv_at hl 0 rfl) ?_
  refine lv_iconst (v := (2 : Int32)) S.1 S.2.1 dJ6_bitCount_0f7a4_16 (by decide) ?_
  refine lv_iushr (v := (Int32.toUInt32 (a0 - (((Int32.toUInt32 a0 >>> (Int32.toUInt32 (1 : Int32) &&& Int32.toUInt32 31)).toInt32) &&& (1431655765 : Int32))) >>> (Int32.toUInt32 (2 : Int32) &&& Int32.toUInt32 31)).toInt32) S.1 S.2.1 dJ6_bitCount_0f7a4_17 rfl ?_
  refine lv_ldcw (own := RJ6) (v := (858993459 : Int32)) S.1 S.2.1 S.2.2.2.1 (S.2.2.2.2 _ qJ6_bitCount_0f7a4_266) dJ6_bitCount_0f7a4_18 ?_
  refine lv_iand S.1 S.2.1 dJ6_bitCount_0f7a4_21 ?_
  refine lv_iadd S.1 S.2.1 dJ6_bitCount_0f7a4_22 ?_
  refine lv_istore_n (lv' := [(0, .int (((a0 - (((Int32.toUInt32 a0 >>> (Int32.toUInt32 (1 : Int32) &&& Int32.toUInt32 31)).toInt32) &&& (1431655765 : Int32))) &&& (858993459 : Int32)) + (((Int32.toUInt32 (a0 - (((Int32.toUInt32 a0 >>> (Int32.toUInt32 (1 : Int32) &&& Int32.toUInt32 31)).toInt32) &&& (1431655765 : Int32))) >>> (Int32.toUInt32 (2 : Int32) &&& Int32.toUInt32 31)).toInt32) &&& (858993459 : Int32))))]) S.1 S.2.1 dJ6_bitCount_0f7a4_23 rfl hl (by decide) rfl (fun ls hl => ?_)
  refine lv_iload_n S.1 S.2.1 dJ6_bitCount_0f7a4_24 rfl (lv_at hl 0 rfl) ?_
  refine lv_iload_n S.1 S.2.1 dJ6_bitCount_0f7a4_25 rfl (lv_at hl 0 rfl) ?_
  refine lv_iconst (v := (4 : Int32)) S.1 S.2.1 dJ6_bitCount_0f7a4_26 (by decide) ?_
  refine lv_iushr (v := (Int32.toUInt32 (((a0 - (((Int32.toUInt32 a0 >>> (Int32.toUInt32 (1 : Int32) &&& Int32.toUInt32 31)).toInt32) &&& (1431655765 : Int32))) &&& (858993459 : Int32)) + (((Int32.toUInt32 (a0 - (((Int32.toUInt32 a0 >>> (Int32.toUInt32 (1 : Int32) &&& Int32.toUInt32 31)).toInt32) &&& (1431655765 : Int32))) >>> (Int32.toUInt32 (2 : Int32) &&& Int32.toUInt32 31)).toInt32) &&& (858993459 : Int32))) >>> (Int32.toUInt32 (4 : Int32) &&& Int32.toUInt32 31)).toInt32) S.1 S.2.1 dJ6_bitCount_0f7a4_27 rfl ?_
  refine lv_iadd S.1 S.2.1 dJ6_bitCount_0f7a4_28 ?_
  refine lv_ldcw (own := RJ6) (v := (252645135 : Int32)) S.1 S.2.1 S.2.2.2.1 (S.2.2.2.2 _ qJ6_bitCount_0f7a4_267) dJ6_bitCount_0f7a4_29 ?_
  refine lv_iand S.1 S.2.1 dJ6_bitCount_0f7a4_32 ?_
  refine lv_istore_n (lv' := [(0, .int (((((a0 - (((Int32.toUInt32 a0 >>> (Int32.toUInt32 (1 : Int32) &&& Int32.toUInt32 31)).toInt32) &&& (1431655765 : Int32))) &&& (858993459 : Int32)) + (((Int32.toUInt32 (a0 - (((Int32.toUInt32 a0 >>> (Int32.toUInt32 (1 : Int32) &&& Int32.toUInt32 31)).toInt32) &&& (1431655765 : Int32))) >>> (Int32.toUInt32 (2 : Int32) &&& Int32.toUInt32 31)).toInt32) &&& (858993459 : Int32))) + ((Int32.toUInt32 (((a0 - (((Int32.toUInt32 a0 >>> (Int32.toUInt32 (1 : Int32) &&& Int32.toUInt32 31)).toInt32) &&& (1431655765 : Int32))) &&& (858993459 : Int32)) + (((Int32.toUInt32 (a0 - (((Int32.toUInt32 a0 >>> (Int32.toUInt32 (1 : Int32) &&& Int32.toUInt32 31)).toInt32) &&& (1431655765 : Int32))) >>> (Int32.toUInt32 (2 : Int32) &&& Int32.toUInt32 31)).toInt32) &&& (858993459 : Int32))) >>> (Int32.toUInt32 (4 : Int32) &&& Int32.toUInt32 31)).toInt32)) &&& (252645135 : Int32)))]) S.1 S.2.1 dJ6_bitCount_0f7a4_33 rfl hl (by decide) rfl (fun ls hl => ?_)
  refine lv_iload_n S.1 S.2.1 dJ6_bitCount_0f7a4_34 rfl (lv_at hl 0 rfl) ?_
  refine lv_iload_n S.1 S.2.1 dJ6_bitCount_0f7a4_35 rfl (lv_at hl 0 rfl) ?_
  refine lv_bipush (v := (8 : Int32)) S.1 S.2.1 dJ6_bitCount_0f7a4_36 (by decide) ?_
  refine lv_iushr (v := (Int32.toUInt32 (((((a0 - (((Int32.toUInt32 a0 >>> (Int32.toUInt32 (1 : Int32) &&& Int32.toUInt32 31)).toInt32) &&& (1431655765 : Int32))) &&& (858993459 : Int32)) + (((Int32.toUInt32 (a0 - (((Int32.toUInt32 a0 >>> (Int32.toUInt32 (1 : Int32) &&& Int32.toUInt32 31)).toInt32) &&& (1431655765 : Int32))) >>> (Int32.toUInt32 (2 : Int32) &&& Int32.toUInt32 31)).toInt32) &&& (858993459 : Int32))) + ((Int32.toUInt32 (((a0 - (((Int32.toUInt32 a0 >>> (Int32.toUInt32 (1 : Int32) &&& Int32.toUInt32 31)).toInt32) &&& (1431655765 : Int32))) &&& (858993459 : Int32)) + (((Int32.toUInt32 (a0 - (((Int32.toUInt32 a0 >>> (Int32.toUInt32 (1 : Int32) &&& Int32.toUInt32 31)).toInt32) &&& (1431655765 : Int32))) >>> (Int32.toUInt32 (2 : Int32) &&& Int32.toUInt32 31)).toInt32) &&& (858993459 : Int32))) >>> (Int32.toUInt32 (4 : Int32) &&& Int32.toUInt32 31)).toInt32)) &&& (252645135 : Int32)) >>> (Int32.toUInt32 (8 : Int32) &&& Int32.toUInt32 31)).toInt32) S.1 S.2.1 dJ6_bitCount_0f7a4_38 rfl ?_
  refine lv_iadd S.1 S.2.1 dJ6_bitCount_0f7a4_39 ?_
  refine lv_istore_n (lv' := [(0, .int ((((((a0 - (((Int32.toUInt32 a0 >>> (Int32.toUInt32 (1 : Int32) &&& Int32.toUInt32 31)).toInt32) &&& (1431655765 : Int32))) &&& (858993459 : Int32)) + (((Int32.toUInt32 (a0 - (((Int32.toUInt32 a0 >>> (Int32.toUInt32 (1 : Int32) &&& Int32.toUInt32 31)).toInt32) &&& (1431655765 : Int32))) >>> (Int32.toUInt32 (2 : Int32) &&& Int32.toUInt32 31)).toInt32) &&& (858993459 : Int32))) + ((Int32.toUInt32 (((a0 - (((Int32.toUInt32 a0 >>> (Int32.toUInt32 (1 : Int32) &&& Int32.toUInt32 31)).toInt32) &&& (1431655765 : Int32))) &&& (858993459 : Int32)) + (((Int32.toUInt32 (a0 - (((Int32.toUInt32 a0 >>> (Int32.toUInt32 (1 : Int32) &&& Int32.toUInt32 31)).toInt32) &&& (1431655765 : Int32))) >>> (Int32.toUInt32 (2 : Int32) &&& Int32.toUInt32 31)).toInt32) &&& (858993459 : Int32))) >>> (Int32.toUInt32 (4 : Int32) &&& Int32.toUInt32 31)).toInt32)) &&& (252645135 : Int32)) + ((Int32.toUInt32 (((((a0 - (((Int32.toUInt32 a0 >>> (Int32.toUInt32 (1 : Int32) &&& Int32.toUInt32 31)).toInt32) &&& (1431655765 : Int32))) &&& (858993459 : Int32)) + (((Int32.toUInt32 (a0 - (((Int32.toUInt32 a0 >>> (Int32.toUInt32 (1 : Int32) &&& Int32.toUInt32 31)).toInt32) &&& (1431655765 : Int32))) >>> (Int32.toUInt32 (2 : Int32) &&& Int32.toUInt32 31)).toInt32) &&& (858993459 : Int32))) + ((Int32.toUInt32 (((a0 - (((Int32.toUInt32 a0 >>> (Int32.toUInt32 (1 : Int32) &&& Int32.toUInt32 31)).toInt32) &&& (1431655765 : Int32))) &&& (858993459 : Int32)) + (((Int32.toUInt32 (a0 - (((Int32.toUInt32 a0 >>> (Int32.toUInt32 (1 : Int32) &&& Int32.toUInt32 31)).toInt32) &&& (1431655765 : Int32))) >>> (Int32.toUInt32 (2 : Int32) &&& Int32.toUInt32 31)).toInt32) &&& (858993459 : Int32))) >>> (Int32.toUInt32 (4 : Int32) &&& Int32.toUInt32 31)).toInt32)) &&& (252645135 : Int32)) >>> (Int32.toUInt32 (8 : Int32) &&& Int32.toUInt32 31)).toInt32)))]) S.1 S.2.1 dJ6_bitCount_0f7a4_40 rfl hl (by decide) rfl (fun ls hl => ?_)
  refine lv_iload_n S.1 S.2.1 dJ6_bitCount_0f7a4_41 rfl (lv_at hl 0 rfl) ?_
  refine lv_iload_n S.1 S.2.1 dJ6_bitCount_0f7a4_42 rfl (lv_at hl 0 rfl) ?_
  refine lv_bipush (v := (16 : Int32)) S.1 S.2.1 dJ6_bitCount_0f7a4_43 (by decide) ?_
  refine lv_iushr (v := (Int32.toUInt32 ((((((a0 - (((Int32.toUInt32 a0 >>> (Int32.toUInt32 (1 : Int32) &&& Int32.toUInt32 31)).toInt32) &&& (1431655765 : Int32))) &&& (858993459 : Int32)) + (((Int32.toUInt32 (a0 - (((Int32.toUInt32 a0 >>> (Int32.toUInt32 (1 : Int32) &&& Int32.toUInt32 31)).toInt32) &&& (1431655765 : Int32))) >>> (Int32.toUInt32 (2 : Int32) &&& Int32.toUInt32 31)).toInt32) &&& (858993459 : Int32))) + ((Int32.toUInt32 (((a0 - (((Int32.toUInt32 a0 >>> (Int32.toUInt32 (1 : Int32) &&& Int32.toUInt32 31)).toInt32) &&& (1431655765 : Int32))) &&& (858993459 : Int32)) + (((Int32.toUInt32 (a0 - (((Int32.toUInt32 a0 >>> (Int32.toUInt32 (1 : Int32) &&& Int32.toUInt32 31)).toInt32) &&& (1431655765 : Int32))) >>> (Int32.toUInt32 (2 : Int32) &&& Int32.toUInt32 31)).toInt32) &&& (858993459 : Int32))) >>> (Int32.toUInt32 (4 : Int32) &&& Int32.toUInt32 31)).toInt32)) &&& (252645135 : Int32)) + ((Int32.toUInt32 (((((a0 - (((Int32.toUInt32 a0 >>> (Int32.toUInt32 (1 : Int32) &&& Int32.toUInt32 31)).toInt32) &&& (1431655765 : Int32))) &&& (858993459 : Int32)) + (((Int32.toUInt32 (a0 - (((Int32.toUInt32 a0 >>> (Int32.toUInt32 (1 : Int32) &&& Int32.toUInt32 31)).toInt32) &&& (1431655765 : Int32))) >>> (Int32.toUInt32 (2 : Int32) &&& Int32.toUInt32 31)).toInt32) &&& (858993459 : Int32))) + ((Int32.toUInt32 (((a0 - (((Int32.toUInt32 a0 >>> (Int32.toUInt32 (1 : Int32) &&& Int32.toUInt32 31)).toInt32) &&& (1431655765 : Int32))) &&& (858993459 : Int32)) + (((Int32.toUInt32 (a0 - (((Int32.toUInt32 a0 >>> (Int32.toUInt32 (1 : Int32) &&& Int32.toUInt32 31)).toInt32) &&& (1431655765 : Int32))) >>> (Int32.toUInt32 (2 : Int32) &&& Int32.toUInt32 31)).toInt32) &&& (858993459 : Int32))) >>> (Int32.toUInt32 (4 : Int32) &&& Int32.toUInt32 31)).toInt32)) &&& (252645135 : Int32)) >>> (Int32.toUInt32 (8 : Int32) &&& Int32.toUInt32 31)).toInt32)) >>> (Int32.toUInt32 (16 : Int32) &&& Int32.toUInt32 31)).toInt32) S.1 S.2.1 dJ6_bitCount_0f7a4_45 rfl ?_
  refine lv_iadd S.1 S.2.1 dJ6_bitCount_0f7a4_46 ?_
  refine lv_istore_n (lv' := [(0, .int (((((((a0 - (((Int32.toUInt32 a0 >>> (Int32.toUInt32 (1 : Int32) &&& Int32.toUInt32 31)).toInt32) &&& (1431655765 : Int32))) &&& (858993459 : Int32)) + (((Int32.toUInt32 (a0 - (((Int32.toUInt32 a0 >>> (Int32.toUInt32 (1 : Int32) &&& Int32.toUInt32 31)).toInt32) &&& (1431655765 : Int32))) >>> (Int32.toUInt32 (2 : Int32) &&& Int32.toUInt32 31)).toInt32) &&& (858993459 : Int32))) + ((Int32.toUInt32 (((a0 - (((Int32.toUInt32 a0 >>> (Int32.toUInt32 (1 : Int32) &&& Int32.toUInt32 31)).toInt32) &&& (1431655765 : Int32))) &&& (858993459 : Int32)) + (((Int32.toUInt32 (a0 - (((Int32.toUInt32 a0 >>> (Int32.toUInt32 (1 : Int32) &&& Int32.toUInt32 31)).toInt32) &&& (1431655765 : Int32))) >>> (Int32.toUInt32 (2 : Int32) &&& Int32.toUInt32 31)).toInt32) &&& (858993459 : Int32))) >>> (Int32.toUInt32 (4 : Int32) &&& Int32.toUInt32 31)).toInt32)) &&& (252645135 : Int32)) + ((Int32.toUInt32 (((((a0 - (((Int32.toUInt32 a0 >>> (Int32.toUInt32 (1 : Int32) &&& Int32.toUInt32 31)).toInt32) &&& (1431655765 : Int32))) &&& (858993459 : Int32)) + (((Int32.toUInt32 (a0 - (((Int32.toUInt32 a0 >>> (Int32.toUInt32 (1 : Int32) &&& Int32.toUInt32 31)).toInt32) &&& (1431655765 : Int32))) >>> (Int32.toUInt32 (2 : Int32) &&& Int32.toUInt32 31)).toInt32) &&& (858993459 : Int32))) + ((Int32.toUInt32 (((a0 - (((Int32.toUInt32 a0 >>> (Int32.toUInt32 (1 : Int32) &&& Int32.toUInt32 31)).toInt32) &&& (1431655765 : Int32))) &&& (858993459 : Int32)) + (((Int32.toUInt32 (a0 - (((Int32.toUInt32 a0 >>> (Int32.toUInt32 (1 : Int32) &&& Int32.toUInt32 31)).toInt32) &&& (1431655765 : Int32))) >>> (Int32.toUInt32 (2 : Int32) &&& Int32.toUInt32 31)).toInt32) &&& (858993459 : Int32))) >>> (Int32.toUInt32 (4 : Int32) &&& Int32.toUInt32 31)).toInt32)) &&& (252645135 : Int32)) >>> (Int32.toUInt32 (8 : Int32) &&& Int32.toUInt32 31)).toInt32)) + ((Int32.toUInt32 ((((((a0 - (((Int32.toUInt32 a0 >>> (Int32.toUInt32 (1 : Int32) &&& Int32.toUInt32 31)).toInt32) &&& (1431655765 : Int32))) &&& (858993459 : Int32)) + (((Int32.toUInt32 (a0 - (((Int32.toUInt32 a0 >>> (Int32.toUInt32 (1 : Int32) &&& Int32.toUInt32 31)).toInt32) &&& (1431655765 : Int32))) >>> (Int32.toUInt32 (2 : Int32) &&& Int32.toUInt32 31)).toInt32) &&& (858993459 : Int32))) + ((Int32.toUInt32 (((a0 - (((Int32.toUInt32 a0 >>> (Int32.toUInt32 (1 : Int32) &&& Int32.toUInt32 31)).toInt32) &&& (1431655765 : Int32))) &&& (858993459 : Int32)) + (((Int32.toUInt32 (a0 - (((Int32.toUInt32 a0 >>> (Int32.toUInt32 (1 : Int32) &&& Int32.toUInt32 31)).toInt32) &&& (1431655765 : Int32))) >>> (Int32.toUInt32 (2 : Int32) &&& Int32.toUInt32 31)).toInt32) &&& (858993459 : Int32))) >>> (Int32.toUInt32 (4 : Int32) &&& Int32.toUInt32 31)).toInt32)) &&& (252645135 : Int32)) + ((Int32.toUInt32 (((((a0 - (((Int32.toUInt32 a0 >>> (Int32.toUInt32 (1 : Int32) &&& Int32.toUInt32 31)).toInt32) &&& (1431655765 : Int32))) &&& (858993459 : Int32)) + (((Int32.toUInt32 (a0 - (((Int32.toUInt32 a0 >>> (Int32.toUInt32 (1 : Int32) &&& Int32.toUInt32 31)).toInt32) &&& (1431655765 : Int32))) >>> (Int32.toUInt32 (2 : Int32) &&& Int32.toUInt32 31)).toInt32) &&& (858993459 : Int32))) + ((Int32.toUInt32 (((a0 - (((Int32.toUInt32 a0 >>> (Int32.toUInt32 (1 : Int32) &&& Int32.toUInt32 31)).toInt32) &&& (1431655765 : Int32))) &&& (858993459 : Int32)) + (((Int32.toUInt32 (a0 - (((Int32.toUInt32 a0 >>> (Int32.toUInt32 (1 : Int32) &&& Int32.toUInt32 31)).toInt32) &&& (1431655765 : Int32))) >>> (Int32.toUInt32 (2 : Int32) &&& Int32.toUInt32 31)).toInt32) &&& (858993459 : Int32))) >>> (Int32.toUInt32 (4 : Int32) &&& Int32.toUInt32 31)).toInt32)) &&& (252645135 : Int32)) >>> (Int32.toUInt32 (8 : Int32) &&& Int32.toUInt32 31)).toInt32)) >>> (Int32.toUInt32 (16 : Int32) &&& Int32.toUInt32 31)).toInt32)))]) S.1 S.2.1 dJ6_bitCount_0f7a4_47 rfl hl (by decide) rfl (fun ls hl => ?_)
  refine lv_iload_n S.1 S.2.1 dJ6_bitCount_0f7a4_48 rfl (lv_at hl 0 rfl) ?_
  refine lv_bipush (v := (63 : Int32)) S.1 S.2.1 dJ6_bitCount_0f7a4_49 (by decide) ?_
  refine lv_iand S.1 S.2.1 dJ6_bitCount_0f7a4_51 ?_
  exact zr_iretP S hr hlk X h dJ6_bitCount_0f7a4_52
theorem dX4_bitOf_0 : decode cX4_bitOf 0 = .ok (.iload_n 0, 1) := by decide +kernel
theorem dX4_bitOf_1 : decode cX4_bitOf 1 = .ok (.iload_n 1, 1) := by decide +kernel
theorem dX4_bitOf_2 : decode cX4_bitOf 2 = .ok (.ishr, 1) := by decide +kernel
theorem dX4_bitOf_3 : decode cX4_bitOf 3 = .ok (.iconst 1, 1) := by decide +kernel
theorem dX4_bitOf_4 : decode cX4_bitOf 4 = .ok (.iand, 1) := by decide +kernel
theorem dX4_bitOf_5 : decode cX4_bitOf 5 = .ok (.ireturn, 1) := by decide +kernel

set_option maxHeartbeats 8000000 in
set_option maxRecDepth 100000 in
theorem mX4_bitOf (l : Launch) (D : va_G) (ki : Nat → ClassId) (ad : Nat → Nat) (cs : List Nat) (N : Nat) (a0 : Int32) (a1 : Int32) (Eg : zMem → Int64 → Nat → va_E) (G : zMem) (tr : Int64) : gMetI l D ki ad cs yX4_bitOf wsX4_bitOf { frames := 0, cells := 0, slots := 0, locals := 0 } [.int a0, .int a1] Eg G tr (zpu (fX4_bitOf N a0 a1) G tr) := by
  refine gMetI_of (cc := cX4_bitOf) (maxL := 2) (ret := (some .int)) (own := RX4) (by decide +kernel) rfl rfl (Nat.le_of_ble_eq_true rfl) ?_
  intro r9 G9 tr9 h p e s m below meth c S hr hlk K X ls hl
  obtain ⟨h0, rfl, rfl⟩ := zpu_some h
  clear h
  have h := h0
  clear h0
  have hl : lv_has ls 2 [(0, .int a0), (1, .int a1)] := hl
  unfold fX4_bitOf at h
  obtain ⟨H, hH⟩ : ∃ H, H = s.heap := ⟨_, rfl⟩
  obtain ⟨locs, hlo⟩ : ∃ locs : List Loc, locs = [] := ⟨_, rfl⟩
  have X : gS D cs ad (Eg G tr) (gA cs ad s.heap.size) s H locs := by rw [hH, hlo]; exact X
  suffices z : W p l e (headSpec wsX4_bitOf { frames := 0, cells := 0, slots := 0, locals := 0 }).room s m ([.int a0, .int a1] : List Value).toArray below meth c H locs 0 0 (zQI below ([.int a0, .int a1] : List Value).toArray s D cs ad (Eg G tr) r9) (F0 m 0 ls []) by rw [hH, hlo] at z; exact z
  clear hH hlo
  refine lv_iload_n S.1 S.2.1 dX4_bitOf_0 rfl (lv_at hl 0 rfl) ?_
  refine lv_iload_n S.1 S.2.1 dX4_bitOf_1 rfl (lv_at hl 1 rfl) ?_
  refine lv_ishr S.1 S.2.1 dX4_bitOf_2 ?_
  refine lv_iconst (v := (1 : Int32)) S.1 S.2.1 dX4_bitOf_3 (by decide) ?_
  refine lv_iand S.1 S.2.1 dX4_bitOf_4 ?_
  exact zr_iretP S hr hlk X h dX4_bitOf_5
theorem dX3_isDigit_0 : decode cX3_isDigit 0 = .ok (.iload_n 0, 1) := by decide +kernel
theorem dX3_isDigit_1 : decode cX3_isDigit 1 = .ok (.bipush 48, 2) := by decide +kernel
theorem dX3_isDigit_3 : decode cX3_isDigit 3 = .ok (.if_icmp .lt 13, 3) := by decide +kernel
theorem dX3_isDigit_6 : decode cX3_isDigit 6 = .ok (.iload_n 0, 1) := by decide +kernel
theorem dX3_isDigit_7 : decode cX3_isDigit 7 = .ok (.bipush 57, 2) := by decide +kernel
theorem dX3_isDigit_9 : decode cX3_isDigit 9 = .ok (.if_icmp .gt 7, 3) := by decide +kernel
theorem dX3_isDigit_12 : decode cX3_isDigit 12 = .ok (.iconst 1, 1) := by decide +kernel
theorem dX3_isDigit_13 : decode cX3_isDigit 13 = .ok (.goto 4, 3) := by decide +kernel
theorem dX3_isDigit_16 : decode cX3_isDigit 16 = .ok (.iconst 0, 1) := by decide +kernel
theorem dX3_isDigit_17 : decode cX3_isDigit 17 = .ok (.ireturn, 1) := by decide +kernel

set_option maxHeartbeats 8000000 in
set_option maxRecDepth 100000 in
theorem mX3_isDigit (l : Launch) (D : va_G) (ki : Nat → ClassId) (ad : Nat → Nat) (cs : List Nat) (N : Nat) (a0 : Int32) (Eg : zMem → Int64 → Nat → va_E) (G : zMem) (tr : Int64) : gMetI l D ki ad cs yX3_isDigit wsX3_isDigit { frames := 0, cells := 0, slots := 0, locals := 0 } [.int a0] Eg G tr (zpu (fX3_isDigit N a0) G tr) := by
  refine gMetI_of (cc := cX3_isDigit) (maxL := 1) (ret := (some .boolean)) (own := RX3) (by decide +kernel) rfl rfl (Nat.le_of_ble_eq_true rfl) ?_
  intro r9 G9 tr9 h p e s m below meth c S hr hlk K X ls hl
  obtain ⟨h0, rfl, rfl⟩ := zpu_some h
  clear h
  have h := h0
  clear h0
  have hl : lv_has ls 1 [(0, .int a0)] := hl
  unfold fX3_isDigit at h
  obtain ⟨H, hH⟩ : ∃ H, H = s.heap := ⟨_, rfl⟩
  obtain ⟨locs, hlo⟩ : ∃ locs : List Loc, locs = [] := ⟨_, rfl⟩
  have X : gS D cs ad (Eg G tr) (gA cs ad s.heap.size) s H locs := by rw [hH, hlo]; exact X
  suffices z : W p l e (headSpec wsX3_isDigit { frames := 0, cells := 0, slots := 0, locals := 0 }).room s m ([.int a0] : List Value).toArray below meth c H locs 0 0 (zQI below ([.int a0] : List Value).toArray s D cs ad (Eg G tr) r9) (F0 m 0 ls []) by rw [hH, hlo] at z; exact z
  clear hH hlo
  refine lv_iload_n S.1 S.2.1 dX3_isDigit_0 rfl (lv_at hl 0 rfl) ?_
  refine lv_bipush (v := (48 : Int32)) S.1 S.2.1 dX3_isDigit_1 (by decide) ?_
  refine lv_icmp_lt (tgt := 16) S.1 S.2.1 dX3_isDigit_3 (by decide) (fun hc_1 => ?_) (fun hc_1 => ?_)
  · have h := zif_pos hc_1 h
    refine lv_iconst (v := (0 : Int32)) S.1 S.2.1 dX3_isDigit_16 (by decide) ?_
    exact zr_zretP S hr hlk X h dX3_isDigit_17
  · have h := zif_neg hc_1 h
    refine lv_iload_n S.1 S.2.1 dX3_isDigit_6 rfl (lv_at hl 0 rfl) ?_
    refine lv_bipush (v := (57 : Int32)) S.1 S.2.1 dX3_isDigit_7 (by decide) ?_
    refine lv_icmp_gt (tgt := 16) S.1 S.2.1 dX3_isDigit_9 (by decide) (fun hc_2 => ?_) (fun hc_2 => ?_)
    · have h := zif_pos hc_2 h
      refine lv_iconst (v := (0 : Int32)) S.1 S.2.1 dX3_isDigit_16 (by decide) ?_
      exact zr_zretP S hr hlk X h dX3_isDigit_17
    · have h := zif_neg hc_2 h
      refine lv_iconst (v := (1 : Int32)) S.1 S.2.1 dX3_isDigit_12 (by decide) ?_
      refine lv_goto (tgt := 17) S.1 S.2.1 dX3_isDigit_13 (by decide) ?_
      exact zr_zretP S hr hlk X h dX3_isDigit_17
theorem dX3_isSign_0 : decode cX3_isSign 0 = .ok (.iload_n 0, 1) := by decide +kernel
theorem dX3_isSign_1 : decode cX3_isSign 1 = .ok (.bipush 103, 2) := by decide +kernel
theorem dX3_isSign_3 : decode cX3_isSign 3 = .ok (.if_icmp .eq 33, 3) := by decide +kernel
theorem dX3_isSign_6 : decode cX3_isSign 6 = .ok (.iload_n 0, 1) := by decide +kernel
theorem dX3_isSign_7 : decode cX3_isSign 7 = .ok (.bipush 105, 2) := by decide +kernel
theorem dX3_isSign_9 : decode cX3_isSign 9 = .ok (.if_icmp .eq 27, 3) := by decide +kernel
theorem dX3_isSign_12 : decode cX3_isSign 12 = .ok (.iload_n 0, 1) := by decide +kernel
theorem dX3_isSign_13 : decode cX3_isSign 13 = .ok (.bipush 120, 2) := by decide +kernel
theorem dX3_isSign_15 : decode cX3_isSign 15 = .ok (.if_icmp .eq 21, 3) := by decide +kernel
theorem dX3_isSign_18 : decode cX3_isSign 18 = .ok (.iload_n 0, 1) := by decide +kernel
theorem dX3_isSign_19 : decode cX3_isSign 19 = .ok (.bipush 98, 2) := by decide +kernel
theorem dX3_isSign_21 : decode cX3_isSign 21 = .ok (.if_icmp .eq 15, 3) := by decide +kernel
theorem dX3_isSign_24 : decode cX3_isSign 24 = .ok (.iload_n 0, 1) := by decide +kernel
theorem dX3_isSign_25 : decode cX3_isSign 25 = .ok (.bipush 102, 2) := by decide +kernel
theorem dX3_isSign_27 : decode cX3_isSign 27 = .ok (.if_icmp .eq 9, 3) := by decide +kernel
theorem dX3_isSign_30 : decode cX3_isSign 30 = .ok (.iload_n 0, 1) := by decide +kernel
theorem dX3_isSign_31 : decode cX3_isSign 31 = .ok (.bipush 59, 2) := by decide +kernel
theorem dX3_isSign_33 : decode cX3_isSign 33 = .ok (.if_icmp .ne 7, 3) := by decide +kernel
theorem dX3_isSign_36 : decode cX3_isSign 36 = .ok (.iconst 1, 1) := by decide +kernel
theorem dX3_isSign_37 : decode cX3_isSign 37 = .ok (.goto 4, 3) := by decide +kernel
theorem dX3_isSign_40 : decode cX3_isSign 40 = .ok (.iconst 0, 1) := by decide +kernel
theorem dX3_isSign_41 : decode cX3_isSign 41 = .ok (.ireturn, 1) := by decide +kernel

set_option maxHeartbeats 8000000 in
set_option maxRecDepth 100000 in
theorem mX3_isSign (l : Launch) (D : va_G) (ki : Nat → ClassId) (ad : Nat → Nat) (cs : List Nat) (N : Nat) (a0 : Int32) (Eg : zMem → Int64 → Nat → va_E) (G : zMem) (tr : Int64) : gMetI l D ki ad cs yX3_isSign wsX3_isSign { frames := 0, cells := 0, slots := 0, locals := 0 } [.int a0] Eg G tr (zpu (fX3_isSign N a0) G tr) := by
  refine gMetI_of (cc := cX3_isSign) (maxL := 1) (ret := (some .boolean)) (own := RX3) (by decide +kernel) rfl rfl (Nat.le_of_ble_eq_true rfl) ?_
  intro r9 G9 tr9 h p e s m below meth c S hr hlk K X ls hl
  obtain ⟨h0, rfl, rfl⟩ := zpu_some h
  clear h
  have h := h0
  clear h0
  have hl : lv_has ls 1 [(0, .int a0)] := hl
  unfold fX3_isSign at h
  obtain ⟨H, hH⟩ : ∃ H, H = s.heap := ⟨_, rfl⟩
  obtain ⟨locs, hlo⟩ : ∃ locs : List Loc, locs = [] := ⟨_, rfl⟩
  have X : gS D cs ad (Eg G tr) (gA cs ad s.heap.size) s H locs := by rw [hH, hlo]; exact X
  suffices z : W p l e (headSpec wsX3_isSign { frames := 0, cells := 0, slots := 0, locals := 0 }).room s m ([.int a0] : List Value).toArray below meth c H locs 0 0 (zQI below ([.int a0] : List Value).toArray s D cs ad (Eg G tr) r9) (F0 m 0 ls []) by rw [hH, hlo] at z; exact z
  clear hH hlo
  refine lv_iload_n S.1 S.2.1 dX3_isSign_0 rfl (lv_at hl 0 rfl) ?_
  refine lv_bipush (v := (103 : Int32)) S.1 S.2.1 dX3_isSign_1 (by decide) ?_
  refine lv_icmp_eq (tgt := 36) S.1 S.2.1 dX3_isSign_3 (by decide) (fun hc_1 => ?_) (fun hc_1 => ?_)
  · have h := zif_pos hc_1 h
    refine lv_iconst (v := (1 : Int32)) S.1 S.2.1 dX3_isSign_36 (by decide) ?_
    refine lv_goto (tgt := 41) S.1 S.2.1 dX3_isSign_37 (by decide) ?_
    exact zr_zretP S hr hlk X h dX3_isSign_41
  · have h := zif_neg hc_1 h
    refine lv_iload_n S.1 S.2.1 dX3_isSign_6 rfl (lv_at hl 0 rfl) ?_
    refine lv_bipush (v := (105 : Int32)) S.1 S.2.1 dX3_isSign_7 (by decide) ?_
    refine lv_icmp_eq (tgt := 36) S.1 S.2.1 dX3_isSign_9 (by decide) (fun hc_2 => ?_) (fun hc_2 => ?_)
    · have h := zif_pos hc_2 h
      refine lv_iconst (v := (1 : Int32)) S.1 S.2.1 dX3_isSign_36 (by decide) ?_
      refine lv_goto (tgt := 41) S.1 S.2.1 dX3_isSign_37 (by decide) ?_
      exact zr_zretP S hr hlk X h dX3_isSign_41
    · have h := zif_neg hc_2 h
      refine lv_iload_n S.1 S.2.1 dX3_isSign_12 rfl (lv_at hl 0 rfl) ?_
      refine lv_bipush (v := (120 : Int32)) S.1 S.2.1 dX3_isSign_13 (by decide) ?_
      refine lv_icmp_eq (tgt := 36) S.1 S.2.1 dX3_isSign_15 (by decide) (fun hc_3 => ?_) (fun hc_3 => ?_)
      · have h := zif_pos hc_3 h
        refine lv_iconst (v := (1 : Int32)) S.1 S.2.1 dX3_isSign_36 (by decide) ?_
        refine lv_goto (tgt := 41) S.1 S.2.1 dX3_isSign_37 (by decide) ?_
        exact zr_zretP S hr hlk X h dX3_isSign_41
      · have h := zif_neg hc_3 h
        refine lv_iload_n S.1 S.2.1 dX3_isSign_18 rfl (lv_at hl 0 rfl) ?_
        refine lv_bipush (v := (98 : Int32)) S.1 S.2.1 dX3_isSign_19 (by decide) ?_
        refine lv_icmp_eq (tgt := 36) S.1 S.2.1 dX3_isSign_21 (by decide) (fun hc_4 => ?_) (fun hc_4 => ?_)
        · have h := zif_pos hc_4 h
          refine lv_iconst (v := (1 : Int32)) S.1 S.2.1 dX3_isSign_36 (by decide) ?_
          refine lv_goto (tgt := 41) S.1 S.2.1 dX3_isSign_37 (by decide) ?_
          exact zr_zretP S hr hlk X h dX3_isSign_41
        · have h := zif_neg hc_4 h
          refine lv_iload_n S.1 S.2.1 dX3_isSign_24 rfl (lv_at hl 0 rfl) ?_
          refine lv_bipush (v := (102 : Int32)) S.1 S.2.1 dX3_isSign_25 (by decide) ?_
          refine lv_icmp_eq (tgt := 36) S.1 S.2.1 dX3_isSign_27 (by decide) (fun hc_5 => ?_) (fun hc_5 => ?_)
          · have h := zif_pos hc_5 h
            refine lv_iconst (v := (1 : Int32)) S.1 S.2.1 dX3_isSign_36 (by decide) ?_
            refine lv_goto (tgt := 41) S.1 S.2.1 dX3_isSign_37 (by decide) ?_
            exact zr_zretP S hr hlk X h dX3_isSign_41
          · have h := zif_neg hc_5 h
            refine lv_iload_n S.1 S.2.1 dX3_isSign_30 rfl (lv_at hl 0 rfl) ?_
            refine lv_bipush (v := (59 : Int32)) S.1 S.2.1 dX3_isSign_31 (by decide) ?_
            refine lv_icmp_ne (tgt := 40) S.1 S.2.1 dX3_isSign_33 (by decide) (fun hc_6 => ?_) (fun hc_6 => ?_)
            · have h := zif_neg hc_6 h
              refine lv_iconst (v := (0 : Int32)) S.1 S.2.1 dX3_isSign_40 (by decide) ?_
              exact zr_zretP S hr hlk X h dX3_isSign_41
            · have h := zif_pos hc_6 h
              refine lv_iconst (v := (1 : Int32)) S.1 S.2.1 dX3_isSign_36 (by decide) ?_
              refine lv_goto (tgt := 41) S.1 S.2.1 dX3_isSign_37 (by decide) ?_
              exact zr_zretP S hr hlk X h dX3_isSign_41
theorem dX4_isWithin_0 : decode cX4_isWithin 0 = .ok (.iload_n 0, 1) := by decide +kernel
theorem dX4_isWithin_1 : decode cX4_isWithin 1 = .ok (.iload_n 1, 1) := by decide +kernel
theorem dX4_isWithin_2 : decode cX4_isWithin 2 = .ok (.if_icmp .lt 12, 3) := by decide +kernel
theorem dX4_isWithin_5 : decode cX4_isWithin 5 = .ok (.iload_n 0, 1) := by decide +kernel
theorem dX4_isWithin_6 : decode cX4_isWithin 6 = .ok (.iload_n 2, 1) := by decide +kernel
theorem dX4_isWithin_7 : decode cX4_isWithin 7 = .ok (.if_icmp .gt 7, 3) := by decide +kernel
theorem dX4_isWithin_10 : decode cX4_isWithin 10 = .ok (.iconst 1, 1) := by decide +kernel
theorem dX4_isWithin_11 : decode cX4_isWithin 11 = .ok (.goto 4, 3) := by decide +kernel
theorem dX4_isWithin_14 : decode cX4_isWithin 14 = .ok (.iconst 0, 1) := by decide +kernel
theorem dX4_isWithin_15 : decode cX4_isWithin 15 = .ok (.ireturn, 1) := by decide +kernel

set_option maxHeartbeats 8000000 in
set_option maxRecDepth 100000 in
theorem mX4_isWithin (l : Launch) (D : va_G) (ki : Nat → ClassId) (ad : Nat → Nat) (cs : List Nat) (N : Nat) (a0 : Int32) (a1 : Int32) (a2 : Int32) (Eg : zMem → Int64 → Nat → va_E) (G : zMem) (tr : Int64) : gMetI l D ki ad cs yX4_isWithin wsX4_isWithin { frames := 0, cells := 0, slots := 0, locals := 0 } [.int a0, .int a1, .int a2] Eg G tr (zpu (fX4_isWithin N a0 a1 a2) G tr) := by
  refine gMetI_of (cc := cX4_isWithin) (maxL := 3) (ret := (some .boolean)) (own := RX4) (by decide +kernel) rfl rfl (Nat.le_of_ble_eq_true rfl) ?_
  intro r9 G9 tr9 h p e s m below meth c S hr hlk K X ls hl
  obtain ⟨h0, rfl, rfl⟩ := zpu_some h
  clear h
  have h := h0
  clear h0
  have hl : lv_has ls 3 [(0, .int a0), (1, .int a1), (2, .int a2)] := hl
  unfold fX4_isWithin at h
  obtain ⟨H, hH⟩ : ∃ H, H = s.heap := ⟨_, rfl⟩
  obtain ⟨locs, hlo⟩ : ∃ locs : List Loc, locs = [] := ⟨_, rfl⟩
  have X : gS D cs ad (Eg G tr) (gA cs ad s.heap.size) s H locs := by rw [hH, hlo]; exact X
  suffices z : W p l e (headSpec wsX4_isWithin { frames := 0, cells := 0, slots := 0, locals := 0 }).room s m ([.int a0, .int a1, .int a2] : List Value).toArray below meth c H locs 0 0 (zQI below ([.int a0, .int a1, .int a2] : List Value).toArray s D cs ad (Eg G tr) r9) (F0 m 0 ls []) by rw [hH, hlo] at z; exact z
  clear hH hlo
  refine lv_iload_n S.1 S.2.1 dX4_isWithin_0 rfl (lv_at hl 0 rfl) ?_
  refine lv_iload_n S.1 S.2.1 dX4_isWithin_1 rfl (lv_at hl 1 rfl) ?_
  refine lv_icmp_lt (tgt := 14) S.1 S.2.1 dX4_isWithin_2 (by decide) (fun hc_1 => ?_) (fun hc_1 => ?_)
  · have h := zif_pos hc_1 h
    refine lv_iconst (v := (0 : Int32)) S.1 S.2.1 dX4_isWithin_14 (by decide) ?_
    exact zr_zretP S hr hlk X h dX4_isWithin_15
  · have h := zif_neg hc_1 h
    refine lv_iload_n S.1 S.2.1 dX4_isWithin_5 rfl (lv_at hl 0 rfl) ?_
    refine lv_iload_n S.1 S.2.1 dX4_isWithin_6 rfl (lv_at hl 2 rfl) ?_
    refine lv_icmp_gt (tgt := 14) S.1 S.2.1 dX4_isWithin_7 (by decide) (fun hc_2 => ?_) (fun hc_2 => ?_)
    · have h := zif_pos hc_2 h
      refine lv_iconst (v := (0 : Int32)) S.1 S.2.1 dX4_isWithin_14 (by decide) ?_
      exact zr_zretP S hr hlk X h dX4_isWithin_15
    · have h := zif_neg hc_2 h
      refine lv_iconst (v := (1 : Int32)) S.1 S.2.1 dX4_isWithin_10 (by decide) ?_
      refine lv_goto (tgt := 15) S.1 S.2.1 dX4_isWithin_11 (by decide) ?_
      exact zr_zretP S hr hlk X h dX4_isWithin_15
set_option maxRecDepth 20000 in
theorem ggX4_isWeight_X4_isWithin : GoodIn wsX4_isWeight wsX4_isWithin := goodIn_r _ [4] (by decide +kernel) (by decide +kernel)
set_option maxRecDepth 20000 in
theorem gX4_isWeight_X4_isWithin : GoodIn wsX4_isWeight (va_wsS RX4 54 yX4_isWithin wsX4_isWithin) := goodIn_app (goodIn_of _ (by decide +kernel)) ggX4_isWeight_X4_isWithin
theorem dX4_isWeight_0 : decode cX4_isWeight 0 = .ok (.iload_n 0, 1) := by decide +kernel
theorem dX4_isWeight_1 : decode cX4_isWeight 1 = .ok (.iconst 1, 1) := by decide +kernel
theorem dX4_isWeight_2 : decode cX4_isWeight 2 = .ok (.iconst 5, 1) := by decide +kernel
theorem dX4_isWeight_3 : decode cX4_isWeight 3 = .ok (.invokestatic 54, 3) := by decide +kernel
theorem dX4_isWeight_6 : decode cX4_isWeight 6 = .ok (.ireturn, 1) := by decide +kernel

set_option maxHeartbeats 8000000 in
set_option maxRecDepth 100000 in
theorem mX4_isWeight (l : Launch) (D : va_G) (ki : Nat → ClassId) (ad : Nat → Nat) (cs : List Nat) (N : Nat) (a0 : Int32) (Eg : zMem → Int64 → Nat → va_E) (G : zMem) (tr : Int64) : gMetI l D ki ad cs yX4_isWeight wsX4_isWeight { frames := 1, cells := 0, slots := 0, locals := 22 } [.int a0] Eg G tr (zpu (fX4_isWeight N a0) G tr) := by
  refine gMetI_of (cc := cX4_isWeight) (maxL := 1) (ret := (some .boolean)) (own := RX4) (by decide +kernel) rfl rfl (Nat.le_of_ble_eq_true rfl) ?_
  intro r9 G9 tr9 h p e s m below meth c S hr hlk K X ls hl
  obtain ⟨h0, rfl, rfl⟩ := zpu_some h
  clear h
  have h := h0
  clear h0
  have hl : lv_has ls 1 [(0, .int a0)] := hl
  unfold fX4_isWeight at h
  obtain ⟨H, hH⟩ : ∃ H, H = s.heap := ⟨_, rfl⟩
  obtain ⟨locs, hlo⟩ : ∃ locs : List Loc, locs = [] := ⟨_, rfl⟩
  have X : gS D cs ad (Eg G tr) (gA cs ad s.heap.size) s H locs := by rw [hH, hlo]; exact X
  suffices z : W p l e (headSpec wsX4_isWeight { frames := 1, cells := 0, slots := 0, locals := 22 }).room s m ([.int a0] : List Value).toArray below meth c H locs 0 0 (zQI below ([.int a0] : List Value).toArray s D cs ad (Eg G tr) r9) (F0 m 0 ls []) by rw [hH, hlo] at z; exact z
  clear hH hlo
  refine lv_iload_n S.1 S.2.1 dX4_isWeight_0 rfl (lv_at hl 0 rfl) ?_
  refine lv_iconst (v := (1 : Int32)) S.1 S.2.1 dX4_isWeight_1 (by decide) ?_
  refine lv_iconst (v := (5 : Int32)) S.1 S.2.1 dX4_isWeight_2 (by decide) ?_
  obtain ⟨r_2, hf_1, h⟩ := zbp_some h
  refine zr_calli (Eg := Eg) (G' := G) (tr' := tr) K X (va_runS (As := [.int a0, .int (1 : Int32), .int (5 : Int32)]) (rest := []) S (mX4_isWithin l D ki ad cs N a0 (1 : Int32) (5 : Int32) Eg G tr H.size _ _ _ (zpu_of hf_1)) (va_cwS 3 S.2.2.2.2 gX4_isWeight_X4_isWithin rfl rfl rfl (by decide +kernel) ⟨Nat.le_of_ble_eq_true rfl, Nat.le_of_ble_eq_true rfl⟩) (zr_pre K X) rfl rfl hl.1 rfl (lv_room (Nat.le_of_ble_eq_true rfl)) dX4_isWeight_3 ⟨Nat.zero_le _, Nat.zero_le _⟩) (fun H locs X => ?_)
  exact zr_zretP S hr hlk X h dX4_isWeight_6
theorem dX4_commonDivisor_0 : decode cX4_commonDivisor 0 = .ok (.iload_n 0, 1) := by decide +kernel
theorem dX4_commonDivisor_1 : decode cX4_commonDivisor 1 = .ok (.istore_n 2, 1) := by decide +kernel
theorem dX4_commonDivisor_2 : decode cX4_commonDivisor 2 = .ok (.iload_n 1, 1) := by decide +kernel
theorem dX4_commonDivisor_3 : decode cX4_commonDivisor 3 = .ok (.istore_n 3, 1) := by decide +kernel
theorem dX4_commonDivisor_4 : decode cX4_commonDivisor 4 = .ok (.iconst 0, 1) := by decide +kernel
theorem dX4_commonDivisor_5 : decode cX4_commonDivisor 5 = .ok (.istore 4, 2) := by decide +kernel
theorem dX4_commonDivisor_7 : decode cX4_commonDivisor 7 = .ok (.iload 4, 2) := by decide +kernel
theorem dX4_commonDivisor_9 : decode cX4_commonDivisor 9 = .ok (.bipush 100, 2) := by decide +kernel
theorem dX4_commonDivisor_11 : decode cX4_commonDivisor 11 = .ok (.if_icmp .ge 23, 3) := by decide +kernel
theorem dX4_commonDivisor_14 : decode cX4_commonDivisor 14 = .ok (.iload_n 3, 1) := by decide +kernel
theorem dX4_commonDivisor_15 : decode cX4_commonDivisor 15 = .ok (.ifCond .le 19, 3) := by decide +kernel
theorem dX4_commonDivisor_18 : decode cX4_commonDivisor 18 = .ok (.iload_n 2, 1) := by decide +kernel
theorem dX4_commonDivisor_19 : decode cX4_commonDivisor 19 = .ok (.iload_n 3, 1) := by decide +kernel
theorem dX4_commonDivisor_20 : decode cX4_commonDivisor 20 = .ok (.irem, 1) := by decide +kernel
theorem dX4_commonDivisor_21 : decode cX4_commonDivisor 21 = .ok (.istore 5, 2) := by decide +kernel
theorem dX4_commonDivisor_23 : decode cX4_commonDivisor 23 = .ok (.iload_n 3, 1) := by decide +kernel
theorem dX4_commonDivisor_24 : decode cX4_commonDivisor 24 = .ok (.istore_n 2, 1) := by decide +kernel
theorem dX4_commonDivisor_25 : decode cX4_commonDivisor 25 = .ok (.iload 5, 2) := by decide +kernel
theorem dX4_commonDivisor_27 : decode cX4_commonDivisor 27 = .ok (.istore_n 3, 1) := by decide +kernel
theorem dX4_commonDivisor_28 : decode cX4_commonDivisor 28 = .ok (.iinc 4 1, 3) := by decide +kernel
theorem dX4_commonDivisor_31 : decode cX4_commonDivisor 31 = .ok (.goto (-24), 3) := by decide +kernel
theorem dX4_commonDivisor_34 : decode cX4_commonDivisor 34 = .ok (.iload_n 2, 1) := by decide +kernel
theorem dX4_commonDivisor_35 : decode cX4_commonDivisor 35 = .ok (.ireturn, 1) := by decide +kernel

set_option maxHeartbeats 8000000 in
set_option maxRecDepth 100000 in
theorem mX4_commonDivisor (l : Launch) (D : va_G) (ki : Nat → ClassId) (ad : Nat → Nat) (cs : List Nat) (N : Nat) (a0 : Int32) (a1 : Int32) (Eg : zMem → Int64 → Nat → va_E) (G : zMem) (tr : Int64) : gMetI l D ki ad cs yX4_commonDivisor wsX4_commonDivisor { frames := 0, cells := 0, slots := 0, locals := 0 } [.int a0, .int a1] Eg G tr (zpu (fX4_commonDivisor N a0 a1) G tr) := by
  refine gMetI_of (cc := cX4_commonDivisor) (maxL := 6) (ret := (some .int)) (own := RX4) (by decide +kernel) rfl rfl (Nat.le_of_ble_eq_true rfl) ?_
  intro r9 G9 tr9 h p e s m below meth c S hr hlk K X ls hl
  obtain ⟨h0, rfl, rfl⟩ := zpu_some h
  clear h
  have h := h0
  clear h0
  have hl : lv_has ls 6 [(0, .int a0), (1, .int a1)] := hl
  have b7 : ∀ (k7 : Int32 → Int32 → Int32 → Option Int32) (hk7 : ∀ (x2 : Int32) (x3 : Int32) (x4 : Int32), k7 x2 x3 x4 = some r9 → zAt p l e (headSpec wsX4_commonDivisor { frames := 0, cells := 0, slots := 0, locals := 0 }).room s m ([.int a0, .int a1] : List Value).toArray below meth c 6 D cs ad (zQI below ([.int a0, .int a1] : List Value).toArray s D cs ad (Eg G tr) r9) 7 [(2, .int x2), (3, .int x3), (4, .int x4)] [] (Eg G tr)) (x2 : Int32) (x3 : Int32) (x4 : Int32), fX4_commonDivisor_b7 N a0 a1 k7 x2 x3 x4 = some r9 → zAt p l e (headSpec wsX4_commonDivisor { frames := 0, cells := 0, slots := 0, locals := 0 }).room s m ([.int a0, .int a1] : List Value).toArray below meth c 6 D cs ad (zQI below ([.int a0, .int a1] : List Value).toArray s D cs ad (Eg G tr) r9) 7 [(2, .int x2), (3, .int x3), (4, .int x4)] [] (Eg G tr) := by
    intro k7 hk7 x2 x3 x4 h H locs ls X hl
    unfold fX4_commonDivisor_b7 at h
    refine lv_iload S.1 S.2.1 dX4_commonDivisor_7 (lv_at hl 2 rfl) ?_
    refine lv_bipush (v := (100 : Int32)) S.1 S.2.1 dX4_commonDivisor_9 (by decide) ?_
    refine lv_icmp_ge (tgt := 34) S.1 S.2.1 dX4_commonDivisor_11 (by decide) (fun hc_1 => ?_) (fun hc_1 => ?_)
    · have h := zif_pos hc_1 h
      refine lv_iload_n S.1 S.2.1 dX4_commonDivisor_34 rfl (lv_at hl 0 rfl) ?_
      exact zr_iretP S hr hlk X h dX4_commonDivisor_35
    · have h := zif_neg hc_1 h
      refine lv_iload_n S.1 S.2.1 dX4_commonDivisor_14 rfl (lv_at hl 1 rfl) ?_
      refine lv_if_le (tgt := 34) S.1 S.2.1 dX4_commonDivisor_15 (by decide) (fun hc_2 => ?_) (fun hc_2 => ?_)
      · have h := zif_pos hc_2 h
        refine lv_iload_n S.1 S.2.1 dX4_commonDivisor_34 rfl (lv_at hl 0 rfl) ?_
        exact zr_iretP S hr hlk X h dX4_commonDivisor_35
      · have h := zif_neg hc_2 h
        refine lv_iload_n S.1 S.2.1 dX4_commonDivisor_18 rfl (lv_at hl 0 rfl) ?_
        refine lv_iload_n S.1 S.2.1 dX4_commonDivisor_19 rfl (lv_at hl 1 rfl) ?_
        obtain ⟨hz_3, h⟩ := zdv_some h
        refine lv_irem S.1 S.2.1 dX4_commonDivisor_20 hz_3 ?_
        refine lv_istore (lv' := [(5, .int (x2 - x2 / x3 * x3)), (2, .int x2), (3, .int x3), (4, .int x4)]) S.1 S.2.1 dX4_commonDivisor_21 hl (by decide) rfl (fun ls hl => ?_)
        refine lv_iload_n S.1 S.2.1 dX4_commonDivisor_23 rfl (lv_at hl 2 rfl) ?_
        refine lv_istore_n (lv' := [(2, .int x3), (5, .int (x2 - x2 / x3 * x3)), (3, .int x3), (4, .int x4)]) S.1 S.2.1 dX4_commonDivisor_24 rfl hl (by decide) rfl (fun ls hl => ?_)
        refine lv_iload S.1 S.2.1 dX4_commonDivisor_25 (lv_at hl 1 rfl) ?_
        refine lv_istore_n (lv' := [(3, .int (x2 - x2 / x3 * x3)), (2, .int x3), (5, .int (x2 - x2 / x3 * x3)), (4, .int x4)]) S.1 S.2.1 dX4_commonDivisor_27 rfl hl (by decide) rfl (fun ls hl => ?_)
        refine lv_iinc (v := (x4 + 1)) (lv' := [(4, .int (x4 + 1)), (3, .int (x2 - x2 / x3 * x3)), (2, .int x3), (5, .int (x2 - x2 / x3 * x3))]) S.1 S.2.1 dX4_commonDivisor_28 hl (k := 3) rfl rfl (by decide) rfl (fun ls hl => ?_)
        refine lv_goto (tgt := 7) S.1 S.2.1 dX4_commonDivisor_31 (by decide) ?_
        exact hk7 x3 (x2 - x2 / x3 * x3) (x4 + 1) h _ _ _ X (lv_sub hl [2, 1, 0] rfl)
  have L7 : ∀ (n : Nat) (x2 : Int32) (x3 : Int32) (x4 : Int32), fX4_commonDivisor_L7 N a0 a1 n x2 x3 x4 = some r9 → zAt p l e (headSpec wsX4_commonDivisor { frames := 0, cells := 0, slots := 0, locals := 0 }).room s m ([.int a0, .int a1] : List Value).toArray below meth c 6 D cs ad (zQI below ([.int a0, .int a1] : List Value).toArray s D cs ad (Eg G tr) r9) 7 [(2, .int x2), (3, .int x3), (4, .int x4)] [] (Eg G tr) := by
    intro n
    induction n with
    | zero => intro x2 x3 x4 h; cases h
    | succ n ih => intro x2 x3 x4 h; exact b7 (fX4_commonDivisor_L7 N a0 a1 n) ih x2 x3 x4 h
  unfold fX4_commonDivisor at h
  obtain ⟨H, hH⟩ : ∃ H, H = s.heap := ⟨_, rfl⟩
  obtain ⟨locs, hlo⟩ : ∃ locs : List Loc, locs = [] := ⟨_, rfl⟩
  have X : gS D cs ad (Eg G tr) (gA cs ad s.heap.size) s H locs := by rw [hH, hlo]; exact X
  suffices z : W p l e (headSpec wsX4_commonDivisor { frames := 0, cells := 0, slots := 0, locals := 0 }).room s m ([.int a0, .int a1] : List Value).toArray below meth c H locs 0 0 (zQI below ([.int a0, .int a1] : List Value).toArray s D cs ad (Eg G tr) r9) (F0 m 0 ls []) by rw [hH, hlo] at z; exact z
  clear hH hlo
  refine lv_iload_n S.1 S.2.1 dX4_commonDivisor_0 rfl (lv_at hl 0 rfl) ?_
  refine lv_istore_n (lv' := [(2, .int a0), (0, .int a0), (1, .int a1)]) S.1 S.2.1 dX4_commonDivisor_1 rfl hl (by decide) rfl (fun ls hl => ?_)
  refine lv_iload_n S.1 S.2.1 dX4_commonDivisor_2 rfl (lv_at hl 2 rfl) ?_
  refine lv_istore_n (lv' := [(3, .int a1), (2, .int a0), (0, .int a0), (1, .int a1)]) S.1 S.2.1 dX4_commonDivisor_3 rfl hl (by decide) rfl (fun ls hl => ?_)
  refine lv_iconst (v := (0 : Int32)) S.1 S.2.1 dX4_commonDivisor_4 (by decide) ?_
  refine lv_istore (lv' := [(4, .int (0 : Int32)), (3, .int a1), (2, .int a0), (0, .int a0), (1, .int a1)]) S.1 S.2.1 dX4_commonDivisor_5 hl (by decide) rfl (fun ls hl => ?_)
  exact L7 N a0 a1 (0 : Int32) h _ _ _ X (lv_sub hl [2, 1, 0] rfl)
theorem dX5_in_0 : decode cX5_in 0 = .ok (.iload_n 0, 1) := by decide +kernel
theorem dX5_in_1 : decode cX5_in 1 = .ok (.iload_n 1, 1) := by decide +kernel
theorem dX5_in_2 : decode cX5_in 2 = .ok (.if_icmp .lt 12, 3) := by decide +kernel
theorem dX5_in_5 : decode cX5_in 5 = .ok (.iload_n 0, 1) := by decide +kernel
theorem dX5_in_6 : decode cX5_in 6 = .ok (.iload_n 2, 1) := by decide +kernel
theorem dX5_in_7 : decode cX5_in 7 = .ok (.if_icmp .gt 7, 3) := by decide +kernel
theorem dX5_in_10 : decode cX5_in 10 = .ok (.iconst 1, 1) := by decide +kernel
theorem dX5_in_11 : decode cX5_in 11 = .ok (.goto 4, 3) := by decide +kernel
theorem dX5_in_14 : decode cX5_in 14 = .ok (.iconst 0, 1) := by decide +kernel
theorem dX5_in_15 : decode cX5_in 15 = .ok (.ireturn, 1) := by decide +kernel

set_option maxHeartbeats 8000000 in
set_option maxRecDepth 100000 in
theorem mX5_in (l : Launch) (D : va_G) (ki : Nat → ClassId) (ad : Nat → Nat) (cs : List Nat) (N : Nat) (a0 : Int32) (a1 : Int32) (a2 : Int32) (Eg : zMem → Int64 → Nat → va_E) (G : zMem) (tr : Int64) : gMetI l D ki ad cs yX5_in wsX5_in { frames := 0, cells := 0, slots := 0, locals := 0 } [.int a0, .int a1, .int a2] Eg G tr (zpu (fX5_in N a0 a1 a2) G tr) := by
  refine gMetI_of (cc := cX5_in) (maxL := 3) (ret := (some .boolean)) (own := RX5) (by decide +kernel) rfl rfl (Nat.le_of_ble_eq_true rfl) ?_
  intro r9 G9 tr9 h p e s m below meth c S hr hlk K X ls hl
  obtain ⟨h0, rfl, rfl⟩ := zpu_some h
  clear h
  have h := h0
  clear h0
  have hl : lv_has ls 3 [(0, .int a0), (1, .int a1), (2, .int a2)] := hl
  unfold fX5_in at h
  obtain ⟨H, hH⟩ : ∃ H, H = s.heap := ⟨_, rfl⟩
  obtain ⟨locs, hlo⟩ : ∃ locs : List Loc, locs = [] := ⟨_, rfl⟩
  have X : gS D cs ad (Eg G tr) (gA cs ad s.heap.size) s H locs := by rw [hH, hlo]; exact X
  suffices z : W p l e (headSpec wsX5_in { frames := 0, cells := 0, slots := 0, locals := 0 }).room s m ([.int a0, .int a1, .int a2] : List Value).toArray below meth c H locs 0 0 (zQI below ([.int a0, .int a1, .int a2] : List Value).toArray s D cs ad (Eg G tr) r9) (F0 m 0 ls []) by rw [hH, hlo] at z; exact z
  clear hH hlo
  refine lv_iload_n S.1 S.2.1 dX5_in_0 rfl (lv_at hl 0 rfl) ?_
  refine lv_iload_n S.1 S.2.1 dX5_in_1 rfl (lv_at hl 1 rfl) ?_
  refine lv_icmp_lt (tgt := 14) S.1 S.2.1 dX5_in_2 (by decide) (fun hc_1 => ?_) (fun hc_1 => ?_)
  · have h := zif_pos hc_1 h
    refine lv_iconst (v := (0 : Int32)) S.1 S.2.1 dX5_in_14 (by decide) ?_
    exact zr_zretP S hr hlk X h dX5_in_15
  · have h := zif_neg hc_1 h
    refine lv_iload_n S.1 S.2.1 dX5_in_5 rfl (lv_at hl 0 rfl) ?_
    refine lv_iload_n S.1 S.2.1 dX5_in_6 rfl (lv_at hl 2 rfl) ?_
    refine lv_icmp_gt (tgt := 14) S.1 S.2.1 dX5_in_7 (by decide) (fun hc_2 => ?_) (fun hc_2 => ?_)
    · have h := zif_pos hc_2 h
      refine lv_iconst (v := (0 : Int32)) S.1 S.2.1 dX5_in_14 (by decide) ?_
      exact zr_zretP S hr hlk X h dX5_in_15
    · have h := zif_neg hc_2 h
      refine lv_iconst (v := (1 : Int32)) S.1 S.2.1 dX5_in_10 (by decide) ?_
      refine lv_goto (tgt := 15) S.1 S.2.1 dX5_in_11 (by decide) ?_
      exact zr_zretP S hr hlk X h dX5_in_15
theorem dX5_ones_0 : decode cX5_ones 0 = .ok (.iconst 0, 1) := by decide +kernel
theorem dX5_ones_1 : decode cX5_ones 1 = .ok (.istore_n 1, 1) := by decide +kernel
theorem dX5_ones_2 : decode cX5_ones 2 = .ok (.iconst 0, 1) := by decide +kernel
theorem dX5_ones_3 : decode cX5_ones 3 = .ok (.istore_n 2, 1) := by decide +kernel
theorem dX5_ones_4 : decode cX5_ones 4 = .ok (.iload_n 2, 1) := by decide +kernel
theorem dX5_ones_5 : decode cX5_ones 5 = .ok (.bipush 6, 2) := by decide +kernel
theorem dX5_ones_7 : decode cX5_ones 7 = .ok (.if_icmp .ge 17, 3) := by decide +kernel
theorem dX5_ones_10 : decode cX5_ones 10 = .ok (.iload_n 1, 1) := by decide +kernel
theorem dX5_ones_11 : decode cX5_ones 11 = .ok (.iload_n 0, 1) := by decide +kernel
theorem dX5_ones_12 : decode cX5_ones 12 = .ok (.iload_n 2, 1) := by decide +kernel
theorem dX5_ones_13 : decode cX5_ones 13 = .ok (.ishr, 1) := by decide +kernel
theorem dX5_ones_14 : decode cX5_ones 14 = .ok (.iconst 1, 1) := by decide +kernel
theorem dX5_ones_15 : decode cX5_ones 15 = .ok (.iand, 1) := by decide +kernel
theorem dX5_ones_16 : decode cX5_ones 16 = .ok (.iadd, 1) := by decide +kernel
theorem dX5_ones_17 : decode cX5_ones 17 = .ok (.istore_n 1, 1) := by decide +kernel
theorem dX5_ones_18 : decode cX5_ones 18 = .ok (.iinc 2 1, 3) := by decide +kernel
theorem dX5_ones_21 : decode cX5_ones 21 = .ok (.goto (-17), 3) := by decide +kernel
theorem dX5_ones_24 : decode cX5_ones 24 = .ok (.iload_n 1, 1) := by decide +kernel
theorem dX5_ones_25 : decode cX5_ones 25 = .ok (.ireturn, 1) := by decide +kernel

set_option maxHeartbeats 8000000 in
set_option maxRecDepth 100000 in
theorem mX5_ones (l : Launch) (D : va_G) (ki : Nat → ClassId) (ad : Nat → Nat) (cs : List Nat) (N : Nat) (a0 : Int32) (Eg : zMem → Int64 → Nat → va_E) (G : zMem) (tr : Int64) : gMetI l D ki ad cs yX5_ones wsX5_ones { frames := 0, cells := 0, slots := 0, locals := 0 } [.int a0] Eg G tr (zpu (fX5_ones N a0) G tr) := by
  refine gMetI_of (cc := cX5_ones) (maxL := 3) (ret := (some .int)) (own := RX5) (by decide +kernel) rfl rfl (Nat.le_of_ble_eq_true rfl) ?_
  intro r9 G9 tr9 h p e s m below meth c S hr hlk K X ls hl
  obtain ⟨h0, rfl, rfl⟩ := zpu_some h
  clear h
  have h := h0
  clear h0
  have hl : lv_has ls 3 [(0, .int a0)] := hl
  have b4 : ∀ (k4 : Int32 → Int32 → Option Int32) (hk4 : ∀ (x1 : Int32) (x2 : Int32), k4 x1 x2 = some r9 → zAt p l e (headSpec wsX5_ones { frames := 0, cells := 0, slots := 0, locals := 0 }).room s m ([.int a0] : List Value).toArray below meth c 3 D cs ad (zQI below ([.int a0] : List Value).toArray s D cs ad (Eg G tr) r9) 4 [(0, .int a0), (1, .int x1), (2, .int x2)] [] (Eg G tr)) (x1 : Int32) (x2 : Int32), fX5_ones_b4 N a0 k4 x1 x2 = some r9 → zAt p l e (headSpec wsX5_ones { frames := 0, cells := 0, slots := 0, locals := 0 }).room s m ([.int a0] : List Value).toArray below meth c 3 D cs ad (zQI below ([.int a0] : List Value).toArray s D cs ad (Eg G tr) r9) 4 [(0, .int a0), (1, .int x1), (2, .int x2)] [] (Eg G tr) := by
    intro k4 hk4 x1 x2 h H locs ls X hl
    unfold fX5_ones_b4 at h
    refine lv_iload_n S.1 S.2.1 dX5_ones_4 rfl (lv_at hl 2 rfl) ?_
    refine lv_bipush (v := (6 : Int32)) S.1 S.2.1 dX5_ones_5 (by decide) ?_
    refine lv_icmp_ge (tgt := 24) S.1 S.2.1 dX5_ones_7 (by decide) (fun hc_1 => ?_) (fun hc_1 => ?_)
    · have h := zif_pos hc_1 h
      refine lv_iload_n S.1 S.2.1 dX5_ones_24 rfl (lv_at hl 1 rfl) ?_
      exact zr_iretP S hr hlk X h dX5_ones_25
    · have h := zif_neg hc_1 h
      refine lv_iload_n S.1 S.2.1 dX5_ones_10 rfl (lv_at hl 1 rfl) ?_
      refine lv_iload_n S.1 S.2.1 dX5_ones_11 rfl (lv_at hl 0 rfl) ?_
      refine lv_iload_n S.1 S.2.1 dX5_ones_12 rfl (lv_at hl 2 rfl) ?_
      refine lv_ishr S.1 S.2.1 dX5_ones_13 ?_
      refine lv_iconst (v := (1 : Int32)) S.1 S.2.1 dX5_ones_14 (by decide) ?_
      refine lv_iand S.1 S.2.1 dX5_ones_15 ?_
      refine lv_iadd S.1 S.2.1 dX5_ones_16 ?_
      refine lv_istore_n (lv' := [(1, .int (x1 + ((a0 >>> (x2 &&& 31)) &&& (1 : Int32)))), (0, .int a0), (2, .int x2)]) S.1 S.2.1 dX5_ones_17 rfl hl (by decide) rfl (fun ls hl => ?_)
      refine lv_iinc (v := (x2 + 1)) (lv' := [(2, .int (x2 + 1)), (1, .int (x1 + ((a0 >>> (x2 &&& 31)) &&& (1 : Int32)))), (0, .int a0)]) S.1 S.2.1 dX5_ones_18 hl (k := 2) rfl rfl (by decide) rfl (fun ls hl => ?_)
      refine lv_goto (tgt := 4) S.1 S.2.1 dX5_ones_21 (by decide) ?_
      exact hk4 (x1 + ((a0 >>> (x2 &&& 31)) &&& (1 : Int32))) (x2 + 1) h _ _ _ X (lv_sub hl [2, 1, 0] rfl)
  have L4 : ∀ (n : Nat) (x1 : Int32) (x2 : Int32), fX5_ones_L4 N a0 n x1 x2 = some r9 → zAt p l e (headSpec wsX5_ones { frames := 0, cells := 0, slots := 0, locals := 0 }).room s m ([.int a0] : List Value).toArray below meth c 3 D cs ad (zQI below ([.int a0] : List Value).toArray s D cs ad (Eg G tr) r9) 4 [(0, .int a0), (1, .int x1), (2, .int x2)] [] (Eg G tr) := by
    intro n
    induction n with
    | zero => intro x1 x2 h; cases h
    | succ n ih => intro x1 x2 h; exact b4 (fX5_ones_L4 N a0 n) ih x1 x2 h
  unfold fX5_ones at h
  obtain ⟨H, hH⟩ : ∃ H, H = s.heap := ⟨_, rfl⟩
  obtain ⟨locs, hlo⟩ : ∃ locs : List Loc, locs = [] := ⟨_, rfl⟩
  have X : gS D cs ad (Eg G tr) (gA cs ad s.heap.size) s H locs := by rw [hH, hlo]; exact X
  suffices z : W p l e (headSpec wsX5_ones { frames := 0, cells := 0, slots := 0, locals := 0 }).room s m ([.int a0] : List Value).toArray below meth c H locs 0 0 (zQI below ([.int a0] : List Value).toArray s D cs ad (Eg G tr) r9) (F0 m 0 ls []) by rw [hH, hlo] at z; exact z
  clear hH hlo
  refine lv_iconst (v := (0 : Int32)) S.1 S.2.1 dX5_ones_0 (by decide) ?_
  refine lv_istore_n (lv' := [(1, .int (0 : Int32)), (0, .int a0)]) S.1 S.2.1 dX5_ones_1 rfl hl (by decide) rfl (fun ls hl => ?_)
  refine lv_iconst (v := (0 : Int32)) S.1 S.2.1 dX5_ones_2 (by decide) ?_
  refine lv_istore_n (lv' := [(2, .int (0 : Int32)), (1, .int (0 : Int32)), (0, .int a0)]) S.1 S.2.1 dX5_ones_3 rfl hl (by decide) rfl (fun ls hl => ?_)
  exact L4 N (0 : Int32) (0 : Int32) h _ _ _ X (lv_sub hl [2, 1, 0] rfl)
theorem dX5_power_0 : decode cX5_power 0 = .ok (.iconst 1, 1) := by decide +kernel
theorem dX5_power_1 : decode cX5_power 1 = .ok (.istore_n 2, 1) := by decide +kernel
theorem dX5_power_2 : decode cX5_power 2 = .ok (.iconst 0, 1) := by decide +kernel
theorem dX5_power_3 : decode cX5_power 3 = .ok (.istore_n 3, 1) := by decide +kernel
theorem dX5_power_4 : decode cX5_power 4 = .ok (.iload_n 3, 1) := by decide +kernel
theorem dX5_power_5 : decode cX5_power 5 = .ok (.iload_n 1, 1) := by decide +kernel
theorem dX5_power_6 : decode cX5_power 6 = .ok (.if_icmp .ge 13, 3) := by decide +kernel
theorem dX5_power_9 : decode cX5_power 9 = .ok (.iload_n 2, 1) := by decide +kernel
theorem dX5_power_10 : decode cX5_power 10 = .ok (.iload_n 0, 1) := by decide +kernel
theorem dX5_power_11 : decode cX5_power 11 = .ok (.imul, 1) := by decide +kernel
theorem dX5_power_12 : decode cX5_power 12 = .ok (.istore_n 2, 1) := by decide +kernel
theorem dX5_power_13 : decode cX5_power 13 = .ok (.iinc 3 1, 3) := by decide +kernel
theorem dX5_power_16 : decode cX5_power 16 = .ok (.goto (-12), 3) := by decide +kernel
theorem dX5_power_19 : decode cX5_power 19 = .ok (.iload_n 2, 1) := by decide +kernel
theorem dX5_power_20 : decode cX5_power 20 = .ok (.ireturn, 1) := by decide +kernel

set_option maxHeartbeats 8000000 in
set_option maxRecDepth 100000 in
theorem mX5_power (l : Launch) (D : va_G) (ki : Nat → ClassId) (ad : Nat → Nat) (cs : List Nat) (N : Nat) (a0 : Int32) (a1 : Int32) (Eg : zMem → Int64 → Nat → va_E) (G : zMem) (tr : Int64) : gMetI l D ki ad cs yX5_power wsX5_power { frames := 0, cells := 0, slots := 0, locals := 0 } [.int a0, .int a1] Eg G tr (zpu (fX5_power N a0 a1) G tr) := by
  refine gMetI_of (cc := cX5_power) (maxL := 4) (ret := (some .int)) (own := RX5) (by decide +kernel) rfl rfl (Nat.le_of_ble_eq_true rfl) ?_
  intro r9 G9 tr9 h p e s m below meth c S hr hlk K X ls hl
  obtain ⟨h0, rfl, rfl⟩ := zpu_some h
  clear h
  have h := h0
  clear h0
  have hl : lv_has ls 4 [(0, .int a0), (1, .int a1)] := hl
  have b4 : ∀ (k4 : Int32 → Int32 → Option Int32) (hk4 : ∀ (x2 : Int32) (x3 : Int32), k4 x2 x3 = some r9 → zAt p l e (headSpec wsX5_power { frames := 0, cells := 0, slots := 0, locals := 0 }).room s m ([.int a0, .int a1] : List Value).toArray below meth c 4 D cs ad (zQI below ([.int a0, .int a1] : List Value).toArray s D cs ad (Eg G tr) r9) 4 [(0, .int a0), (1, .int a1), (2, .int x2), (3, .int x3)] [] (Eg G tr)) (x2 : Int32) (x3 : Int32), fX5_power_b4 N a0 a1 k4 x2 x3 = some r9 → zAt p l e (headSpec wsX5_power { frames := 0, cells := 0, slots := 0, locals := 0 }).room s m ([.int a0, .int a1] : List Value).toArray below meth c 4 D cs ad (zQI below ([.int a0, .int a1] : List Value).toArray s D cs ad (Eg G tr) r9) 4 [(0, .int a0), (1, .int a1), (2, .int x2), (3, .int x3)] [] (Eg G tr) := by
    intro k4 hk4 x2 x3 h H locs ls X hl
    unfold fX5_power_b4 at h
    refine lv_iload_n S.1 S.2.1 dX5_power_4 rfl (lv_at hl 3 rfl) ?_
    refine lv_iload_n S.1 S.2.1 dX5_power_5 rfl (lv_at hl 1 rfl) ?_
    refine lv_icmp_ge (tgt := 19) S.1 S.2.1 dX5_power_6 (by decide) (fun hc_1 => ?_) (fun hc_1 => ?_)
    · have h := zif_pos hc_1 h
      refine lv_iload_n S.1 S.2.1 dX5_power_19 rfl (lv_at hl 2 rfl) ?_
      exact zr_iretP S hr hlk X h dX5_power_20
    · have h := zif_neg hc_1 h
      refine lv_iload_n S.1 S.2.1 dX5_power_9 rfl (lv_at hl 2 rfl) ?_
      refine lv_iload_n S.1 S.2.1 dX5_power_10 rfl (lv_at hl 0 rfl) ?_
      refine lv_imul S.1 S.2.1 dX5_power_11 ?_
      refine lv_istore_n (lv' := [(2, .int (x2 * a0)), (0, .int a0), (1, .int a1), (3, .int x3)]) S.1 S.2.1 dX5_power_12 rfl hl (by decide) rfl (fun ls hl => ?_)
      refine lv_iinc (v := (x3 + 1)) (lv' := [(3, .int (x3 + 1)), (2, .int (x2 * a0)), (0, .int a0), (1, .int a1)]) S.1 S.2.1 dX5_power_13 hl (k := 3) rfl rfl (by decide) rfl (fun ls hl => ?_)
      refine lv_goto (tgt := 4) S.1 S.2.1 dX5_power_16 (by decide) ?_
      exact hk4 (x2 * a0) (x3 + 1) h _ _ _ X (lv_sub hl [2, 3, 1, 0] rfl)
  have L4 : ∀ (n : Nat) (x2 : Int32) (x3 : Int32), fX5_power_L4 N a0 a1 n x2 x3 = some r9 → zAt p l e (headSpec wsX5_power { frames := 0, cells := 0, slots := 0, locals := 0 }).room s m ([.int a0, .int a1] : List Value).toArray below meth c 4 D cs ad (zQI below ([.int a0, .int a1] : List Value).toArray s D cs ad (Eg G tr) r9) 4 [(0, .int a0), (1, .int a1), (2, .int x2), (3, .int x3)] [] (Eg G tr) := by
    intro n
    induction n with
    | zero => intro x2 x3 h; cases h
    | succ n ih => intro x2 x3 h; exact b4 (fX5_power_L4 N a0 a1 n) ih x2 x3 h
  unfold fX5_power at h
  obtain ⟨H, hH⟩ : ∃ H, H = s.heap := ⟨_, rfl⟩
  obtain ⟨locs, hlo⟩ : ∃ locs : List Loc, locs = [] := ⟨_, rfl⟩
  have X : gS D cs ad (Eg G tr) (gA cs ad s.heap.size) s H locs := by rw [hH, hlo]; exact X
  suffices z : W p l e (headSpec wsX5_power { frames := 0, cells := 0, slots := 0, locals := 0 }).room s m ([.int a0, .int a1] : List Value).toArray below meth c H locs 0 0 (zQI below ([.int a0, .int a1] : List Value).toArray s D cs ad (Eg G tr) r9) (F0 m 0 ls []) by rw [hH, hlo] at z; exact z
  clear hH hlo
  refine lv_iconst (v := (1 : Int32)) S.1 S.2.1 dX5_power_0 (by decide) ?_
  refine lv_istore_n (lv' := [(2, .int (1 : Int32)), (0, .int a0), (1, .int a1)]) S.1 S.2.1 dX5_power_1 rfl hl (by decide) rfl (fun ls hl => ?_)
  refine lv_iconst (v := (0 : Int32)) S.1 S.2.1 dX5_power_2 (by decide) ?_
  refine lv_istore_n (lv' := [(3, .int (0 : Int32)), (2, .int (1 : Int32)), (0, .int a0), (1, .int a1)]) S.1 S.2.1 dX5_power_3 rfl hl (by decide) rfl (fun ls hl => ?_)
  exact L4 N (1 : Int32) (0 : Int32) h _ _ _ X (lv_sub hl [2, 3, 1, 0] rfl)
theorem dX5_gcd_0 : decode cX5_gcd 0 = .ok (.iload_n 0, 1) := by decide +kernel
theorem dX5_gcd_1 : decode cX5_gcd 1 = .ok (.istore_n 2, 1) := by decide +kernel
theorem dX5_gcd_2 : decode cX5_gcd 2 = .ok (.iload_n 1, 1) := by decide +kernel
theorem dX5_gcd_3 : decode cX5_gcd 3 = .ok (.istore_n 3, 1) := by decide +kernel
theorem dX5_gcd_4 : decode cX5_gcd 4 = .ok (.iload_n 3, 1) := by decide +kernel
theorem dX5_gcd_5 : decode cX5_gcd 5 = .ok (.ifCond .eq 16, 3) := by decide +kernel
theorem dX5_gcd_8 : decode cX5_gcd 8 = .ok (.iload_n 2, 1) := by decide +kernel
theorem dX5_gcd_9 : decode cX5_gcd 9 = .ok (.iload_n 3, 1) := by decide +kernel
theorem dX5_gcd_10 : decode cX5_gcd 10 = .ok (.irem, 1) := by decide +kernel
theorem dX5_gcd_11 : decode cX5_gcd 11 = .ok (.istore 4, 2) := by decide +kernel
theorem dX5_gcd_13 : decode cX5_gcd 13 = .ok (.iload_n 3, 1) := by decide +kernel
theorem dX5_gcd_14 : decode cX5_gcd 14 = .ok (.istore_n 2, 1) := by decide +kernel
theorem dX5_gcd_15 : decode cX5_gcd 15 = .ok (.iload 4, 2) := by decide +kernel
theorem dX5_gcd_17 : decode cX5_gcd 17 = .ok (.istore_n 3, 1) := by decide +kernel
theorem dX5_gcd_18 : decode cX5_gcd 18 = .ok (.goto (-14), 3) := by decide +kernel
theorem dX5_gcd_21 : decode cX5_gcd 21 = .ok (.iload_n 2, 1) := by decide +kernel
theorem dX5_gcd_22 : decode cX5_gcd 22 = .ok (.ireturn, 1) := by decide +kernel

set_option maxHeartbeats 8000000 in
set_option maxRecDepth 100000 in
theorem mX5_gcd (l : Launch) (D : va_G) (ki : Nat → ClassId) (ad : Nat → Nat) (cs : List Nat) (N : Nat) (a0 : Int32) (a1 : Int32) (Eg : zMem → Int64 → Nat → va_E) (G : zMem) (tr : Int64) : gMetI l D ki ad cs yX5_gcd wsX5_gcd { frames := 0, cells := 0, slots := 0, locals := 0 } [.int a0, .int a1] Eg G tr (zpu (fX5_gcd N a0 a1) G tr) := by
  refine gMetI_of (cc := cX5_gcd) (maxL := 5) (ret := (some .int)) (own := RX5) (by decide +kernel) rfl rfl (Nat.le_of_ble_eq_true rfl) ?_
  intro r9 G9 tr9 h p e s m below meth c S hr hlk K X ls hl
  obtain ⟨h0, rfl, rfl⟩ := zpu_some h
  clear h
  have h := h0
  clear h0
  have hl : lv_has ls 5 [(0, .int a0), (1, .int a1)] := hl
  have b4 : ∀ (k4 : Int32 → Int32 → Option Int32) (hk4 : ∀ (x2 : Int32) (x3 : Int32), k4 x2 x3 = some r9 → zAt p l e (headSpec wsX5_gcd { frames := 0, cells := 0, slots := 0, locals := 0 }).room s m ([.int a0, .int a1] : List Value).toArray below meth c 5 D cs ad (zQI below ([.int a0, .int a1] : List Value).toArray s D cs ad (Eg G tr) r9) 4 [(2, .int x2), (3, .int x3)] [] (Eg G tr)) (x2 : Int32) (x3 : Int32), fX5_gcd_b4 N a0 a1 k4 x2 x3 = some r9 → zAt p l e (headSpec wsX5_gcd { frames := 0, cells := 0, slots := 0, locals := 0 }).room s m ([.int a0, .int a1] : List Value).toArray below meth c 5 D cs ad (zQI below ([.int a0, .int a1] : List Value).toArray s D cs ad (Eg G tr) r9) 4 [(2, .int x2), (3, .int x3)] [] (Eg G tr) := by
    intro k4 hk4 x2 x3 h H locs ls X hl
    unfold fX5_gcd_b4 at h
    refine lv_iload_n S.1 S.2.1 dX5_gcd_4 rfl (lv_at hl 1 rfl) ?_
    refine lv_if_eq (tgt := 21) S.1 S.2.1 dX5_gcd_5 (by decide) (fun hc_1 => ?_) (fun hc_1 => ?_)
    · have h := zif_pos hc_1 h
      refine lv_iload_n S.1 S.2.1 dX5_gcd_21 rfl (lv_at hl 0 rfl) ?_
      exact zr_iretP S hr hlk X h dX5_gcd_22
    · have h := zif_neg hc_1 h
      refine lv_iload_n S.1 S.2.1 dX5_gcd_8 rfl (lv_at hl 0 rfl) ?_
      refine lv_iload_n S.1 S.2.1 dX5_gcd_9 rfl (lv_at hl 1 rfl) ?_
      obtain ⟨hz_2, h⟩ := zdv_some h
      refine lv_irem S.1 S.2.1 dX5_gcd_10 hz_2 ?_
      refine lv_istore (lv' := [(4, .int (x2 - x2 / x3 * x3)), (2, .int x2), (3, .int x3)]) S.1 S.2.1 dX5_gcd_11 hl (by decide) rfl (fun ls hl => ?_)
      refine lv_iload_n S.1 S.2.1 dX5_gcd_13 rfl (lv_at hl 2 rfl) ?_
      refine lv_istore_n (lv' := [(2, .int x3), (4, .int (x2 - x2 / x3 * x3)), (3, .int x3)]) S.1 S.2.1 dX5_gcd_14 rfl hl (by decide) rfl (fun ls hl => ?_)
      refine lv_iload S.1 S.2.1 dX5_gcd_15 (lv_at hl 1 rfl) ?_
      refine lv_istore_n (lv' := [(3, .int (x2 - x2 / x3 * x3)), (2, .int x3), (4, .int (x2 - x2 / x3 * x3))]) S.1 S.2.1 dX5_gcd_17 rfl hl (by decide) rfl (fun ls hl => ?_)
      refine lv_goto (tgt := 4) S.1 S.2.1 dX5_gcd_18 (by decide) ?_
      exact hk4 x3 (x2 - x2 / x3 * x3) h _ _ _ X (lv_sub hl [1, 0] rfl)
  have L4 : ∀ (n : Nat) (x2 : Int32) (x3 : Int32), fX5_gcd_L4 N a0 a1 n x2 x3 = some r9 → zAt p l e (headSpec wsX5_gcd { frames := 0, cells := 0, slots := 0, locals := 0 }).room s m ([.int a0, .int a1] : List Value).toArray below meth c 5 D cs ad (zQI below ([.int a0, .int a1] : List Value).toArray s D cs ad (Eg G tr) r9) 4 [(2, .int x2), (3, .int x3)] [] (Eg G tr) := by
    intro n
    induction n with
    | zero => intro x2 x3 h; cases h
    | succ n ih => intro x2 x3 h; exact b4 (fX5_gcd_L4 N a0 a1 n) ih x2 x3 h
  unfold fX5_gcd at h
  obtain ⟨H, hH⟩ : ∃ H, H = s.heap := ⟨_, rfl⟩
  obtain ⟨locs, hlo⟩ : ∃ locs : List Loc, locs = [] := ⟨_, rfl⟩
  have X : gS D cs ad (Eg G tr) (gA cs ad s.heap.size) s H locs := by rw [hH, hlo]; exact X
  suffices z : W p l e (headSpec wsX5_gcd { frames := 0, cells := 0, slots := 0, locals := 0 }).room s m ([.int a0, .int a1] : List Value).toArray below meth c H locs 0 0 (zQI below ([.int a0, .int a1] : List Value).toArray s D cs ad (Eg G tr) r9) (F0 m 0 ls []) by rw [hH, hlo] at z; exact z
  clear hH hlo
  refine lv_iload_n S.1 S.2.1 dX5_gcd_0 rfl (lv_at hl 0 rfl) ?_
  refine lv_istore_n (lv' := [(2, .int a0), (0, .int a0), (1, .int a1)]) S.1 S.2.1 dX5_gcd_1 rfl hl (by decide) rfl (fun ls hl => ?_)
  refine lv_iload_n S.1 S.2.1 dX5_gcd_2 rfl (lv_at hl 2 rfl) ?_
  refine lv_istore_n (lv' := [(3, .int a1), (2, .int a0), (0, .int a0), (1, .int a1)]) S.1 S.2.1 dX5_gcd_3 rfl hl (by decide) rfl (fun ls hl => ?_)
  exact L4 N a0 a1 h _ _ _ X (lv_sub hl [1, 0] rfl)
