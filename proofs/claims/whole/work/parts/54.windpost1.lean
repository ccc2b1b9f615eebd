set_option maxRecDepth 20000 in
theorem ggX4_type_X4_isWithin : GoodIn wsX4_type wsX4_isWithin := goodIn_r _ [6] (by decide +kernel) (by decide +kernel)
set_option maxRecDepth 20000 in
theorem gX4_type_X4_isWithin : GoodIn wsX4_type (va_wsS RX4 54 yX4_isWithin wsX4_isWithin) := goodIn_app (goodIn_of _ (by decide +kernel)) ggX4_type_X4_isWithin
set_option maxRecDepth 20000 in
theorem ggX4_type_X3_add : GoodIn wsX4_type wsX3_add := goodIn_r _ [11, 12, 13, 26, 27, 28, 29, 30, 31, 32, 33] (by decide +kernel) (by decide +kernel)
set_option maxRecDepth 20000 in
theorem gX4_type_X3_add : GoodIn wsX4_type (wsV RX4 62 RX3 yX3_add wsX3_add) := goodIn_app (goodIn_of _ (by decide +kernel)) ggX4_type_X3_add
theorem dX4_type_0 : decode cX4_type 0 = .ok (.iload_n 1, 1) := by decide +kernel
theorem dX4_type_1 : decode cX4_type 1 = .ok (.iconst 0, 1) := by decide +kernel
theorem dX4_type_2 : decode cX4_type 2 = .ok (.sipush 255, 3) := by decide +kernel
theorem dX4_type_5 : decode cX4_type 5 = .ok (.invokestatic 54, 3) := by decide +kernel
theorem dX4_type_8 : decode cX4_type 8 = .ok (.ifCond .ne 5, 3) := by decide +kernel
theorem dX4_type_11 : decode cX4_type 11 = .ok (.iconst (-1), 1) := by decide +kernel
theorem dX4_type_12 : decode cX4_type 12 = .ok (.ireturn, 1) := by decide +kernel
theorem dX4_type_13 : decode cX4_type 13 = .ok (.aload_n 0, 1) := by decide +kernel
theorem dX4_type_14 : decode cX4_type 14 = .ok (.getfield 10, 3) := by decide +kernel
theorem dX4_type_17 : decode cX4_type 17 = .ok (.getfield 58, 3) := by decide +kernel
theorem dX4_type_20 : decode cX4_type 20 = .ok (.sipush 200, 3) := by decide +kernel
theorem dX4_type_23 : decode cX4_type 23 = .ok (.if_icmp .lt 6, 3) := by decide +kernel
theorem dX4_type_26 : decode cX4_type 26 = .ok (.bipush (-3), 2) := by decide +kernel
theorem dX4_type_28 : decode cX4_type 28 = .ok (.ireturn, 1) := by decide +kernel
theorem dX4_type_29 : decode cX4_type 29 = .ok (.aload_n 0, 1) := by decide +kernel
theorem dX4_type_30 : decode cX4_type 30 = .ok (.getfield 10, 3) := by decide +kernel
theorem dX4_type_33 : decode cX4_type 33 = .ok (.iload_n 1, 1) := by decide +kernel
theorem dX4_type_34 : decode cX4_type 34 = .ok (.invokevirtual 62, 3) := by decide +kernel
theorem dX4_type_37 : decode cX4_type 37 = .ok (.aload_n 0, 1) := by decide +kernel
theorem dX4_type_38 : decode cX4_type 38 = .ok (.getfield 10, 3) := by decide +kernel
theorem dX4_type_41 : decode cX4_type 41 = .ok (.getfield 58, 3) := by decide +kernel
theorem dX4_type_44 : decode cX4_type 44 = .ok (.ireturn, 1) := by decide +kernel
set_option maxRecDepth 20000 in
theorem kX4_type_10 : Cond.fieldLink RX4 10 "WindPost" "text" "LWindPost$Text;" ∈ wsX4_type := by decide +kernel
set_option maxRecDepth 20000 in
theorem kX4_type_58 : Cond.fieldLink RX4 58 "WindPost$Text" "length" "I" ∈ wsX4_type := by decide +kernel
set_option maxRecDepth 20000 in
theorem uX4_type_X3 : ∀ w ∈ wsX30, w ∈ wsX4_type := by decide +kernel
set_option maxRecDepth 20000 in
theorem uX4_type_X4 : ∀ w ∈ wsX40, w ∈ wsX4_type := by decide +kernel
set_option maxHeartbeats 8000000 in
set_option maxRecDepth 100000 in
theorem mX4_type (l : Launch) (D : va_G) (ki : Nat → ClassId) (ad : Nat → Nat) (cs : List Nat) (hcs : kW cs) (N : Nat) (a1 : Int32) (G : zMem) (tr : Int64) : gMetI l D ki ad cs yX4_type wsX4_type { frames := 1, cells := 0, slots := 0, locals := 22 } [.ref (ad 0), .int a1] (xE ki ad) G tr (fX4_type N a1 G tr) := by
  refine gMetI_of (cc := cX4_type) (maxL := 2) (ret := (some .int)) (own := RX4) (by decide +kernel) rfl rfl (Nat.le_of_ble_eq_true rfl) ?_
  intro r9 G9 tr9 h p e s m below meth c S hr hlk K X ls hl
  have hl : lv_has ls 2 [(0, .ref (ad 0)), (1, .int a1)] := hl
  unfold fX4_type at h
  obtain ⟨H, hH⟩ : ∃ H, H = s.heap := ⟨_, rfl⟩
  obtain ⟨locs, hlo⟩ : ∃ locs : List Loc, locs = [] := ⟨_, rfl⟩
  have X : gS D cs ad ((xE ki ad) G tr) (gA cs ad s.heap.size) s H locs := by rw [hH, hlo]; exact X
  suffices z : W p l e (headSpec wsX4_type { frames := 1, cells := 0, slots := 0, locals := 22 }).room s m ([.ref (ad 0), .int a1] : List Value).toArray below meth c H locs 0 0 (zQI below ([.ref (ad 0), .int a1] : List Value).toArray s D cs ad ((xE ki ad) G9 tr9) r9) (F0 m 0 ls []) by rw [hH, hlo] at z; exact z
  clear hH hlo
  refine lv_iload_n S.1 S.2.1 dX4_type_0 rfl (lv_at hl 1 rfl) ?_
  refine lv_iconst (v := (0 : Int32)) S.1 S.2.1 dX4_type_1 (by decide) ?_
  refine lv_sipush (v := (255 : Int32)) S.1 S.2.1 dX4_type_2 (by decide) ?_
  obtain ⟨r_2, hf_1, h⟩ := zbp_some h
  refine zr_calli (Eg := (xE ki ad)) (G' := G) (tr' := tr) K X (va_runS (As := [.int a1, .int (0 : Int32), .int (255 : Int32)]) (rest := []) S (mX4_isWithin l D ki ad cs N a1 (0 : Int32) (255 : Int32) (xE ki ad) G tr H.size _ _ _ (zpu_of hf_1)) (va_cwS 3 S.2.2.2.2 gX4_type_X4_isWithin rfl rfl rfl (by decide +kernel) ⟨Nat.le_of_ble_eq_true rfl, Nat.le_of_ble_eq_true rfl⟩) (zr_pre K X) rfl rfl hl.1 rfl (lv_room (Nat.le_of_ble_eq_true rfl)) dX4_type_5 ⟨Nat.zero_le _, Nat.zero_le _⟩) (fun H locs X => ?_)
  refine lv_if_ne (tgt := 13) S.1 S.2.1 dX4_type_8 (by decide) (fun hc_3 => ?_) (fun hc_3 => ?_)
  · have h := zif_neg hc_3 h
    refine lv_aload_n S.1 S.2.1 dX4_type_13 rfl (lv_at hl 0 rfl) ?_
    refine zr_get (v := .ref (ad 1)) S K X (hcs 0 (by decide)) xE_W rfl uX4_type_X4 0 (by decide) kX4_type_10 rfl rfl dX4_type_14 ?_
    refine zr_get (v := .int (G 1 0)) S K X (hcs 1 (by decide)) xE_T rfl uX4_type_X3 0 (by decide) kX4_type_58 rfl rfl dX4_type_17 ?_
    refine lv_sipush (v := (200 : Int32)) S.1 S.2.1 dX4_type_20 (by decide) ?_
    refine lv_icmp_lt (tgt := 29) S.1 S.2.1 dX4_type_23 (by decide) (fun hc_4 => ?_) (fun hc_4 => ?_)
    · have h := zif_pos hc_4 h
      refine lv_aload_n S.1 S.2.1 dX4_type_29 rfl (lv_at hl 0 rfl) ?_
      refine zr_get (v := .ref (ad 1)) S K X (hcs 0 (by decide)) xE_W rfl uX4_type_X4 0 (by decide) kX4_type_10 rfl rfl dX4_type_30 ?_
      refine lv_iload_n S.1 S.2.1 dX4_type_33 rfl (lv_at hl 1 rfl) ?_
      obtain ⟨r_6, G_7, tr_8, hf_5, h⟩ := zbd_some h
      refine zr_callv (Eg := (xE ki ad)) K X (va_runV (As := [.int a1]) (rest := []) S (mX3_add l D ki ad cs hcs N a1 G tr H.size _ _ _ hf_5) (cwV 1 S.2.2.2.2 gX4_type_X3_add rfl rfl rfl (by decide +kernel) ⟨Nat.le_of_ble_eq_true rfl, Nat.le_of_ble_eq_true rfl⟩) (zr_preV (c0 := 1) K X (hcs 1 (by decide)) xE_T rfl) rfl rfl hl.1 rfl (lv_room (Nat.le_of_ble_eq_true rfl)) dX4_type_34 ⟨Nat.zero_le _, Nat.zero_le _⟩) (fun H locs X => ?_)
      refine lv_aload_n S.1 S.2.1 dX4_type_37 rfl (lv_at hl 0 rfl) ?_
      refine zr_get (v := .ref (ad 1)) S K X (hcs 0 (by decide)) xE_W rfl uX4_type_X4 0 (by decide) kX4_type_10 rfl rfl dX4_type_38 ?_
      refine zr_get (v := .int (G_7 1 0)) S K X (hcs 1 (by decide)) xE_T rfl uX4_type_X3 0 (by decide) kX4_type_58 rfl rfl dX4_type_41 ?_
      exact zr_iret S hr hlk X h dX4_type_44
    · have h := zif_neg hc_4 h
      refine lv_bipush (v := (-3 : Int32)) S.1 S.2.1 dX4_type_26 (by decide) ?_
      exact zr_iret S hr hlk X h dX4_type_28
  · have h := zif_pos hc_3 h
    refine lv_iconst (v := (-1 : Int32)) S.1 S.2.1 dX4_type_11 (by decide) ?_
    exact zr_iret S hr hlk X h dX4_type_12
theorem dX4_clear_0 : decode cX4_clear 0 = .ok (.aload_n 0, 1) := by decide +kernel
theorem dX4_clear_1 : decode cX4_clear 1 = .ok (.getfield 10, 3) := by decide +kernel
theorem dX4_clear_4 : decode cX4_clear 4 = .ok (.getfield 58, 3) := by decide +kernel
theorem dX4_clear_7 : decode cX4_clear 7 = .ok (.istore_n 1, 1) := by decide +kernel
theorem dX4_clear_8 : decode cX4_clear 8 = .ok (.aload_n 0, 1) := by decide +kernel
theorem dX4_clear_9 : decode cX4_clear 9 = .ok (.getfield 10, 3) := by decide +kernel
theorem dX4_clear_12 : decode cX4_clear 12 = .ok (.iconst 0, 1) := by decide +kernel
theorem dX4_clear_13 : decode cX4_clear 13 = .ok (.putfield 58, 3) := by decide +kernel
theorem dX4_clear_16 : decode cX4_clear 16 = .ok (.iload_n 1, 1) := by decide +kernel
theorem dX4_clear_17 : decode cX4_clear 17 = .ok (.ireturn, 1) := by decide +kernel
set_option maxRecDepth 20000 in
theorem kX4_clear_10 : Cond.fieldLink RX4 10 "WindPost" "text" "LWindPost$Text;" ∈ wsX4_clear := by decide +kernel
set_option maxRecDepth 20000 in
theorem kX4_clear_58 : Cond.fieldLink RX4 58 "WindPost$Text" "length" "I" ∈ wsX4_clear := by decide +kernel
set_option maxRecDepth 20000 in
theorem uX4_clear_X3 : ∀ w ∈ wsX30, w ∈ wsX4_clear := by decide +kernel
set_option maxRecDepth 20000 in
theorem uX4_clear_X4 : ∀ w ∈ wsX40, w ∈ wsX4_clear := by decide +kernel
set_option maxHeartbeats 8000000 in
set_option maxRecDepth 100000 in
theorem mX4_clear (l : Launch) (D : va_G) (ki : Nat → ClassId) (ad : Nat → Nat) (cs : List Nat) (hcs : kW cs) (N : Nat) (G : zMem) (tr : Int64) : gMetI l D ki ad cs yX4_clear wsX4_clear { frames := 0, cells := 0, slots := 0, locals := 0 } [.ref (ad 0)] (xE ki ad) G tr (fX4_clear N G tr) := by
  refine gMetI_of (cc := cX4_clear) (maxL := 2) (ret := (some .int)) (own := RX4) (by decide +kernel) rfl rfl (Nat.le_of_ble_eq_true rfl) ?_
  intro r9 G9 tr9 h p e s m below meth c S hr hlk K X ls hl
  have hl : lv_has ls 2 [(0, .ref (ad 0))] := hl
  unfold fX4_clear at h
  obtain ⟨H, hH⟩ : ∃ H, H = s.heap := ⟨_, rfl⟩
  obtain ⟨locs, hlo⟩ : ∃ locs : List Loc, locs = [] := ⟨_, rfl⟩
  have X : gS D cs ad ((xE ki ad) G tr) (gA cs ad s.heap.size) s H locs := by rw [hH, hlo]; exact X
  suffices z : W p l e (headSpec wsX4_clear { frames := 0, cells := 0, slots := 0, locals := 0 }).room s m ([.ref (ad 0)] : List Value).toArray below meth c H locs 0 0 (zQI below ([.ref (ad 0)] : List Value).toArray s D cs ad ((xE ki ad) G9 tr9) r9) (F0 m 0 ls []) by rw [hH, hlo] at z; exact z
  clear hH hlo
  refine lv_aload_n S.1 S.2.1 dX4_clear_0 rfl (lv_at hl 0 rfl) ?_
  refine zr_get (v := .ref (ad 1)) S K X (hcs 0 (by decide)) xE_W rfl uX4_clear_X4 0 (by decide) kX4_clear_10 rfl rfl dX4_clear_1 ?_
  refine zr_get (v := .int (G 1 0)) S K X (hcs 1 (by decide)) xE_T rfl uX4_clear_X3 0 (by decide) kX4_clear_58 rfl rfl dX4_clear_4 ?_
  refine lv_istore_n (lv' := [(1, .int (G 1 0)), (0, .ref (ad 0))]) S.1 S.2.1 dX4_clear_7 rfl hl (by decide) rfl (fun ls hl => ?_)
  refine lv_aload_n S.1 S.2.1 dX4_clear_8 rfl (lv_at hl 1 rfl) ?_
  refine zr_get (v := .ref (ad 1)) S K X (hcs 0 (by decide)) xE_W rfl uX4_clear_X4 0 (by decide) kX4_clear_10 rfl rfl dX4_clear_9 ?_
  refine lv_iconst (v := (0 : Int32)) S.1 S.2.1 dX4_clear_12 (by decide) ?_
  refine zr_put (xv := (0 : Int32)) (v := .int (0 : Int32)) (fsf := (fsT ad)) (ty := .int) S K X (hcs 1 (by decide)) xE_loc (fun _ => xE_T) rfl uX4_clear_X3 tyX3 tyX3_ok nmX3 0 (by decide) kX4_clear_58 rfl (by decide +kernel) rfl rfl (by simp) rfl dX4_clear_13 (fun H locs X => ?_)
  refine lv_iload_n S.1 S.2.1 dX4_clear_16 rfl (lv_at hl 0 rfl) ?_
  exact zr_iret S hr hlk X h dX4_clear_17
set_option maxRecDepth 20000 in
theorem ggX4_sea_X3_readInto : GoodIn wsX4_sea wsX3_readInto := goodIn_r _ [12, 13, 14, 15, 16, 17, 18, 19, 20, 21, 22, 23, 24, 25, 26, 27, 28, 29, 30, 31, 32, 11, 33, 34, 35, 36, 37, 38, 39, 40, 41, 42, 43, 44, 45, 46, 47, 48, 49, 50, 51, 52, 53, 54, 55, 56, 57, 58, 59, 60, 61, 62, 63, 64, 65, 66, 67, 68, 69, 70, 71, 72, 73, 74, 75, 76, 77, 78, 79, 80, 81, 82, 83, 84, 85, 86, 87, 88, 89, 90, 91, 92, 93, 94, 95, 96, 97, 98, 99, 100, 101, 102, 103, 104, 105, 106, 107, 108, 109, 110, 150, 151, 152, 153, 154, 155, 156, 157, 158, 159, 160, 161, 162, 163, 164, 165, 166, 167] (by decide +kernel) (by decide +kernel)
set_option maxRecDepth 20000 in
theorem gX4_sea_X3_readInto : GoodIn wsX4_sea (wsV RX4 66 RX3 yX3_readInto wsX3_readInto) := goodIn_app (goodIn_of _ (by decide +kernel)) ggX4_sea_X3_readInto
set_option maxRecDepth 20000 in
theorem ggX4_sea_X0_drawEnds : GoodIn wsX4_sea wsX0_drawEnds := goodIn_r _ [114, 115, 75, 76, 21, 77, 23, 24, 78, 38, 39, 40, 116, 117, 118, 119, 120, 121, 122, 123, 124, 125, 80, 81, 82, 29, 158, 159, 160, 161, 162, 163, 164, 165, 166, 167] (by decide +kernel) (by decide +kernel)
set_option maxRecDepth 20000 in
theorem gX4_sea_X0_drawEnds : GoodIn wsX4_sea (wsV RX4 70 RX0 yX0_drawEnds wsX0_drawEnds) := goodIn_app (goodIn_of _ (by decide +kernel)) ggX4_sea_X0_drawEnds
set_option maxRecDepth 20000 in
theorem ggX4_sea_X2_beginAnew : GoodIn wsX4_sea wsX2_beginAnew := goodIn_r _ [130, 131, 132, 133, 134, 135, 136, 137, 168, 169, 170, 171, 172, 173, 158, 159, 160, 161, 162, 163, 164, 165, 166, 167] (by decide +kernel) (by decide +kernel)
set_option maxRecDepth 20000 in
theorem gX4_sea_X2_beginAnew : GoodIn wsX4_sea (wsV RX4 73 RX2 yX2_beginAnew wsX2_beginAnew) := goodIn_app (goodIn_of _ (by decide +kernel)) ggX4_sea_X2_beginAnew
theorem dX4_sea_0 : decode cX4_sea 0 = .ok (.aload_n 0, 1) := by decide +kernel
theorem dX4_sea_1 : decode cX4_sea 1 = .ok (.getfield 10, 3) := by decide +kernel
theorem dX4_sea_4 : decode cX4_sea 4 = .ok (.aload_n 0, 1) := by decide +kernel
theorem dX4_sea_5 : decode cX4_sea 5 = .ok (.getfield 23, 3) := by decide +kernel
theorem dX4_sea_8 : decode cX4_sea 8 = .ok (.invokevirtual 66, 3) := by decide +kernel
theorem dX4_sea_11 : decode cX4_sea 11 = .ok (.istore_n 1, 1) := by decide +kernel
theorem dX4_sea_12 : decode cX4_sea 12 = .ok (.iload_n 1, 1) := by decide +kernel
theorem dX4_sea_13 : decode cX4_sea 13 = .ok (.ifCond .ge 5, 3) := by decide +kernel
theorem dX4_sea_16 : decode cX4_sea 16 = .ok (.iload_n 1, 1) := by decide +kernel
theorem dX4_sea_17 : decode cX4_sea 17 = .ok (.ireturn, 1) := by decide +kernel
theorem dX4_sea_18 : decode cX4_sea 18 = .ok (.aload_n 0, 1) := by decide +kernel
theorem dX4_sea_19 : decode cX4_sea 19 = .ok (.getfield 19, 3) := by decide +kernel
theorem dX4_sea_22 : decode cX4_sea 22 = .ok (.astore_n 2, 1) := by decide +kernel
theorem dX4_sea_23 : decode cX4_sea 23 = .ok (.aload_n 0, 1) := by decide +kernel
theorem dX4_sea_24 : decode cX4_sea 24 = .ok (.aload_n 0, 1) := by decide +kernel
theorem dX4_sea_25 : decode cX4_sea 25 = .ok (.getfield 23, 3) := by decide +kernel
theorem dX4_sea_28 : decode cX4_sea 28 = .ok (.putfield 19, 3) := by decide +kernel
theorem dX4_sea_31 : decode cX4_sea 31 = .ok (.aload_n 0, 1) := by decide +kernel
theorem dX4_sea_32 : decode cX4_sea 32 = .ok (.aload_n 2, 1) := by decide +kernel
theorem dX4_sea_33 : decode cX4_sea 33 = .ok (.putfield 23, 3) := by decide +kernel
theorem dX4_sea_36 : decode cX4_sea 36 = .ok (.aload_n 0, 1) := by decide +kernel
theorem dX4_sea_37 : decode cX4_sea 37 = .ok (.getfield 19, 3) := by decide +kernel
theorem dX4_sea_40 : decode cX4_sea 40 = .ok (.invokevirtual 70, 3) := by decide +kernel
theorem dX4_sea_43 : decode cX4_sea 43 = .ok (.aload_n 0, 1) := by decide +kernel
theorem dX4_sea_44 : decode cX4_sea 44 = .ok (.getfield 10, 3) := by decide +kernel
theorem dX4_sea_47 : decode cX4_sea 47 = .ok (.iconst 0, 1) := by decide +kernel
theorem dX4_sea_48 : decode cX4_sea 48 = .ok (.putfield 58, 3) := by decide +kernel
theorem dX4_sea_51 : decode cX4_sea 51 = .ok (.aload_n 0, 1) := by decide +kernel
theorem dX4_sea_52 : decode cX4_sea 52 = .ok (.getfield 29, 3) := by decide +kernel
theorem dX4_sea_55 : decode cX4_sea 55 = .ok (.aload_n 0, 1) := by decide +kernel
theorem dX4_sea_56 : decode cX4_sea 56 = .ok (.getfield 19, 3) := by decide +kernel
theorem dX4_sea_59 : decode cX4_sea 59 = .ok (.invokevirtual 73, 3) := by decide +kernel
theorem dX4_sea_62 : decode cX4_sea 62 = .ok (.aload_n 0, 1) := by decide +kernel
theorem dX4_sea_63 : decode cX4_sea 63 = .ok (.iconst 0, 1) := by decide +kernel
theorem dX4_sea_64 : decode cX4_sea 64 = .ok (.putfield 77, 3) := by decide +kernel
theorem dX4_sea_67 : decode cX4_sea 67 = .ok (.iconst 0, 1) := by decide +kernel
theorem dX4_sea_68 : decode cX4_sea 68 = .ok (.istore_n 3, 1) := by decide +kernel
theorem dX4_sea_69 : decode cX4_sea 69 = .ok (.iload_n 3, 1) := by decide +kernel
theorem dX4_sea_70 : decode cX4_sea 70 = .ok (.iconst 2, 1) := by decide +kernel
theorem dX4_sea_71 : decode cX4_sea 71 = .ok (.if_icmp .ge 16, 3) := by decide +kernel
theorem dX4_sea_74 : decode cX4_sea 74 = .ok (.aload_n 0, 1) := by decide +kernel
theorem dX4_sea_75 : decode cX4_sea 75 = .ok (.getfield 40, 3) := by decide +kernel
theorem dX4_sea_78 : decode cX4_sea 78 = .ok (.iload_n 3, 1) := by decide +kernel
theorem dX4_sea_79 : decode cX4_sea 79 = .ok (.iconst 0, 1) := by decide +kernel
theorem dX4_sea_80 : decode cX4_sea 80 = .ok (.bastore, 1) := by decide +kernel
theorem dX4_sea_81 : decode cX4_sea 81 = .ok (.iinc 3 1, 3) := by decide +kernel
theorem dX4_sea_84 : decode cX4_sea 84 = .ok (.goto (-15), 3) := by decide +kernel
theorem dX4_sea_87 : decode cX4_sea 87 = .ok (.iload_n 1, 1) := by decide +kernel
theorem dX4_sea_88 : decode cX4_sea 88 = .ok (.ireturn, 1) := by decide +kernel
set_option maxRecDepth 20000 in
theorem kX4_sea_10 : Cond.fieldLink RX4 10 "WindPost" "text" "LWindPost$Text;" ∈ wsX4_sea := by decide +kernel
set_option maxRecDepth 20000 in
theorem kX4_sea_19 : Cond.fieldLink RX4 19 "WindPost" "chart" "LWindPost$Chart;" ∈ wsX4_sea := by decide +kernel
set_option maxRecDepth 20000 in
theorem kX4_sea_23 : Cond.fieldLink RX4 23 "WindPost" "draft" "LWindPost$Chart;" ∈ wsX4_sea := by decide +kernel
set_option maxRecDepth 20000 in
theorem kX4_sea_29 : Cond.fieldLink RX4 29 "WindPost" "now" "LWindPost$Moment;" ∈ wsX4_sea := by decide +kernel
set_option maxRecDepth 20000 in
theorem kX4_sea_40 : Cond.fieldLink RX4 40 "WindPost" "kept" "[Z" ∈ wsX4_sea := by decide +kernel
set_option maxRecDepth 20000 in
theorem kX4_sea_58 : Cond.fieldLink RX4 58 "WindPost$Text" "length" "I" ∈ wsX4_sea := by decide +kernel
set_option maxRecDepth 20000 in
theorem kX4_sea_77 : Cond.fieldLink RX4 77 "WindPost" "pastKnown" "I" ∈ wsX4_sea := by decide +kernel
set_option maxRecDepth 20000 in
theorem uX4_sea_X3 : ∀ w ∈ wsX30, w ∈ wsX4_sea := by decide +kernel
set_option maxRecDepth 20000 in
theorem uX4_sea_X4 : ∀ w ∈ wsX40, w ∈ wsX4_sea := by decide +kernel
set_option maxHeartbeats 8000000 in
set_option maxRecDepth 100000 in
theorem mX4_sea (l : Launch) (D : va_G) (ki : Nat → ClassId) (ad : Nat → Nat) (cs : List Nat) (hcs : kW cs) (N : Nat) (G : zMem) (tr : Int64) : gMetI l D ki ad cs yX4_sea wsX4_sea { frames := 6, cells := 0, slots := 0, locals := 132 } [.ref (ad 0)] (xE ki ad) G tr (fX4_sea N G tr) := by
  refine gMetI_of (cc := cX4_sea) (maxL := 4) (ret := (some .int)) (own := RX4) (by decide +kernel) rfl rfl (Nat.le_of_ble_eq_true rfl) ?_
  intro r9 G9 tr9 h p e s m below meth c S hr hlk K X ls hl
  have hl : lv_has ls 4 [(0, .ref (ad 0))] := hl
  have b69 : ∀ (k69 : Int32 → Int32 → zMem → Int64 → zR) (hk69 : ∀ (x1 : Int32) (x3 : Int32) (G : zMem) (tr : Int64), k69 x1 x3 G tr = some (r9, G9, tr9) → zAt p l e (headSpec wsX4_sea { frames := 6, cells := 0, slots := 0, locals := 132 }).room s m ([.ref (ad 0)] : List Value).toArray below meth c 4 D cs ad (zQI below ([.ref (ad 0)] : List Value).toArray s D cs ad ((xE ki ad) G9 tr9) r9) 69 [(0, .ref (ad 0)), (1, .int x1), (3, .int x3)] [] ((xE ki ad) G tr)) (x1 : Int32) (x3 : Int32) (G : zMem) (tr : Int64), fX4_sea_b69 N k69 x1 x3 G tr = some (r9, G9, tr9) → zAt p l e (headSpec wsX4_sea { frames := 6, cells := 0, slots := 0, locals := 132 }).room s m ([.ref (ad 0)] : List Value).toArray below meth c 4 D cs ad (zQI below ([.ref (ad 0)] : List Value).toArray s D cs ad ((xE ki ad) G9 tr9) r9) 69 [(0, .ref (ad 0)), (1, .int x1), (3, .int x3)] [] ((xE ki ad) G tr) := by
    intro k69 hk69 x1 x3 G tr h H locs ls X hl
    unfold fX4_sea_b69 at h
    refine lv_iload_n S.1 S.2.1 dX4_sea_69 rfl (lv_at hl 2 rfl) ?_
    refine lv_iconst (v := (2 : Int32)) S.1 S.2.1 dX4_sea_70 (by decide) ?_
    refine lv_icmp_ge (tgt := 87) S.1 S.2.1 dX4_sea_71 (by decide) (fun hc_1 => ?_) (fun hc_1 => ?_)
    · have h := zif_pos hc_1 h
      refine lv_iload_n S.1 S.2.1 dX4_sea_87 rfl (lv_at hl 1 rfl) ?_
      exact zr_iret S hr hlk X h dX4_sea_88
    · have h := zif_neg hc_1 h
      refine lv_aload_n S.1 S.2.1 dX4_sea_74 rfl (lv_at hl 0 rfl) ?_
      refine zr_get (v := .ref (ad 17)) S K X (hcs 0 (by decide)) xE_W rfl uX4_sea_X4 8 (by decide) kX4_sea_40 rfl rfl dX4_sea_75 ?_
      refine lv_iload_n S.1 S.2.1 dX4_sea_78 rfl (lv_at hl 2 rfl) ?_
      refine lv_iconst (v := (0 : Int32)) S.1 S.2.1 dX4_sea_79 (by decide) ?_
      obtain ⟨hi_2, h⟩ := zin_some h
      obtain ⟨hz_3, h⟩ := zbo_some h
      refine zr_zast S K X (hcs 17 (by decide)) xE_loc (fun _ => xE_17) hi_2 hz_3 dX4_sea_80 (fun H locs X => ?_)
      refine lv_iinc (v := (x3 + 1)) (lv' := [(3, .int (x3 + 1)), (0, .ref (ad 0)), (1, .int x1)]) S.1 S.2.1 dX4_sea_81 hl (k := 2) rfl rfl (by decide) rfl (fun ls hl => ?_)
      refine lv_goto (tgt := 69) S.1 S.2.1 dX4_sea_84 (by decide) ?_
      exact hk69 x1 (x3 + 1) (up2 G 17 (Int32.toNatClampNeg x3) (0 : Int32)) tr h _ _ _ X (lv_sub hl [1, 2, 0] rfl)
  have L69 : ∀ (n : Nat) (x1 : Int32) (x3 : Int32) (G : zMem) (tr : Int64), fX4_sea_L69 N n x1 x3 G tr = some (r9, G9, tr9) → zAt p l e (headSpec wsX4_sea { frames := 6, cells := 0, slots := 0, locals := 132 }).room s m ([.ref (ad 0)] : List Value).toArray below meth c 4 D cs ad (zQI below ([.ref (ad 0)] : List Value).toArray s D cs ad ((xE ki ad) G9 tr9) r9) 69 [(0, .ref (ad 0)), (1, .int x1), (3, .int x3)] [] ((xE ki ad) G tr) := by
    intro n
    induction n with
    | zero => intro x1 x3 G tr h; cases h
    | succ n ih => intro x1 x3 G tr h; exact b69 (fX4_sea_L69 N n) ih x1 x3 G tr h
  unfold fX4_sea at h
  obtain ⟨H, hH⟩ : ∃ H, H = s.heap := ⟨_, rfl⟩
  obtain ⟨locs, hlo⟩ : ∃ locs : List Loc, locs = [] := ⟨_, rfl⟩
  have X : gS D cs ad ((xE ki ad) G tr) (gA cs ad s.heap.size) s H locs := by rw [hH, hlo]; exact X
  suffices z : W p l e (headSpec wsX4_sea { frames := 6, cells := 0, slots := 0, locals := 132 }).room s m ([.ref (ad 0)] : List Value).toArray below meth c H locs 0 0 (zQI below ([.ref (ad 0)] : List Value).toArray s D cs ad ((xE ki ad) G9 tr9) r9) (F0 m 0 ls []) by rw [hH, hlo] at z; exact z
  clear hH hlo
  refine lv_aload_n S.1 S.2.1 dX4_sea_0 rfl (lv_at hl 0 rfl) ?_
  refine zr_get (v := .ref (ad 1)) S K X (hcs 0 (by decide)) xE_W rfl uX4_sea_X4 0 (by decide) kX4_sea_10 rfl rfl dX4_sea_1 ?_
  refine lv_aload_n S.1 S.2.1 dX4_sea_4 rfl (lv_at hl 0 rfl) ?_
  obtain ⟨hq_1, h⟩ := zch_some h
  refine zr_get (v := .ref (ad (G 0 2).toNatClampNeg)) S K X (hcs 0 (by decide)) xE_W rfl uX4_sea_X4 2 (by decide) kX4_sea_23 rfl rfl dX4_sea_5 ?_
  obtain ⟨r_3, G_4, tr_5, hf_2, h⟩ := zbd_some h
  refine zr_calli (Eg := (xE ki ad)) K X (va_runV (As := [.ref (ad (G 0 2).toNatClampNeg)]) (rest := []) S (mX3_readInto l D ki ad cs hcs N (G 0 2).toNatClampNeg (kC_of hcs hq_1) G tr H.size _ _ _ hf_2) (cwV 1 S.2.2.2.2 gX4_sea_X3_readInto rfl rfl rfl (by decide +kernel) ⟨Nat.le_of_ble_eq_true rfl, Nat.le_of_ble_eq_true rfl⟩) (zr_preV (c0 := 1) K X (hcs 1 (by decide)) xE_T rfl) rfl rfl hl.1 rfl (lv_room (Nat.le_of_ble_eq_true rfl)) dX4_sea_8 ⟨Nat.zero_le _, Nat.zero_le _⟩) (fun H locs X => ?_)
  refine lv_istore_n (lv' := [(1, .int r_3), (0, .ref (ad 0))]) S.1 S.2.1 dX4_sea_11 rfl hl (by decide) rfl (fun ls hl => ?_)
  refine lv_iload_n S.1 S.2.1 dX4_sea_12 rfl (lv_at hl 0 rfl) ?_
  refine lv_if_ge (tgt := 18) S.1 S.2.1 dX4_sea_13 (by decide) (fun hc_6 => ?_) (fun hc_6 => ?_)
  · have h := zif_pos hc_6 h
    refine lv_aload_n S.1 S.2.1 dX4_sea_18 rfl (lv_at hl 1 rfl) ?_
    obtain ⟨hq_7, h⟩ := zch_some h
    refine zr_get (v := .ref (ad (G_4 0 1).toNatClampNeg)) S K X (hcs 0 (by decide)) xE_W rfl uX4_sea_X4 1 (by decide) kX4_sea_19 rfl rfl dX4_sea_19 ?_
    refine lv_astore_n (lv' := [(2, .ref (ad (G_4 0 1).toNatClampNeg)), (1, .int r_3), (0, .ref (ad 0))]) S.1 S.2.1 dX4_sea_22 rfl hl (by decide) rfl (fun ls hl => ?_)
    refine lv_aload_n S.1 S.2.1 dX4_sea_23 rfl (lv_at hl 2 rfl) ?_
    refine lv_aload_n S.1 S.2.1 dX4_sea_24 rfl (lv_at hl 2 rfl) ?_
    obtain ⟨hq_8, h⟩ := zch_some h
    refine zr_get (v := .ref (ad (G_4 0 2).toNatClampNeg)) S K X (hcs 0 (by decide)) xE_W rfl uX4_sea_X4 2 (by decide) kX4_sea_23 rfl rfl dX4_sea_25 ?_
    refine zr_put (xv := (G_4 0 2)) (v := .ref (ad (G_4 0 2).toNatClampNeg)) (fsf := (fsW ad tr_5)) (ty := .object "WindPost$Chart") S K X (hcs 0 (by decide)) xE_loc (fun _ => xE_W) rfl uX4_sea_X4 tyX4 tyX4_ok nmX4 1 (by decide) kX4_sea_19 rfl (by decide +kernel) rfl rfl (by simp) rfl dX4_sea_28 (fun H locs X => ?_)
    refine lv_aload_n S.1 S.2.1 dX4_sea_31 rfl (lv_at hl 2 rfl) ?_
    refine lv_aload_n S.1 S.2.1 dX4_sea_32 rfl (lv_at hl 0 rfl) ?_
    refine zr_put (xv := (G_4 0 1)) (v := .ref (ad (G_4 0 1).toNatClampNeg)) (fsf := (fsW ad tr_5)) (ty := .object "WindPost$Chart") S K X (hcs 0 (by decide)) xE_loc (fun _ => xE_W) rfl uX4_sea_X4 tyX4 tyX4_ok nmX4 2 (by decide) kX4_sea_23 rfl (by decide +kernel) rfl rfl (by simp) rfl dX4_sea_33 (fun H locs X => ?_)
    refine lv_aload_n S.1 S.2.1 dX4_sea_36 rfl (lv_at hl 2 rfl) ?_
    obtain ⟨hq_9, h⟩ := zch_some h
    refine zr_get (v := .ref (ad ((up2 (up2 G_4 0 1 (G_4 0 2)) 0 2 (G_4 0 1)) 0 1).toNatClampNeg)) S K X (hcs 0 (by decide)) xE_W rfl uX4_sea_X4 1 (by decide) kX4_sea_19 rfl rfl dX4_sea_37 ?_
    obtain ⟨r_11, G_12, tr_13, hf_10, h⟩ := zbd_some h
    refine zr_callv (Eg := (xE ki ad)) K X (va_runV (As := []) (rest := []) S (mX0_drawEnds l D ki ad cs  N ((up2 (up2 G_4 0 1 (G_4 0 2)) 0 2 (G_4 0 1)) 0 1).toNatClampNeg (kC_of hcs hq_9) (up2 (up2 G_4 0 1 (G_4 0 2)) 0 2 (G_4 0 1)) tr_5 H.size _ _ _ hf_10) (cwV 0 S.2.2.2.2 gX4_sea_X0_drawEnds rfl rfl rfl (by decide +kernel) ⟨Nat.le_of_ble_eq_true rfl, Nat.le_of_ble_eq_true rfl⟩) (zr_preV (c0 := ((up2 (up2 G_4 0 1 (G_4 0 2)) 0 2 (G_4 0 1)) 0 1).toNatClampNeg) K X ((kC_of hcs hq_9).2 0 (by decide)) (xE_C (kC_of hcs hq_9)) rfl) rfl rfl hl.1 rfl (lv_room (Nat.le_of_ble_eq_true rfl)) dX4_sea_40 ⟨Nat.zero_le _, Nat.zero_le _⟩) (fun H locs X => ?_)
    refine lv_aload_n S.1 S.2.1 dX4_sea_43 rfl (lv_at hl 2 rfl) ?_
    refine zr_get (v := .ref (ad 1)) S K X (hcs 0 (by decide)) xE_W rfl uX4_sea_X4 0 (by decide) kX4_sea_10 rfl rfl dX4_sea_44 ?_
    refine lv_iconst (v := (0 : Int32)) S.1 S.2.1 dX4_sea_47 (by decide) ?_
    refine zr_put (xv := (0 : Int32)) (v := .int (0 : Int32)) (fsf := (fsT ad)) (ty := .int) S K X (hcs 1 (by decide)) xE_loc (fun _ => xE_T) rfl uX4_sea_X3 tyX3 tyX3_ok nmX3 0 (by decide) kX4_sea_58 rfl (by decide +kernel) rfl rfl (by simp) rfl dX4_sea_48 (fun H locs X => ?_)
    refine lv_aload_n S.1 S.2.1 dX4_sea_51 rfl (lv_at hl 2 rfl) ?_
    refine zr_get (v := .ref (ad 18)) S K X (hcs 0 (by decide)) xE_W rfl uX4_sea_X4 3 (by decide) kX4_sea_29 rfl rfl dX4_sea_52 ?_
    refine lv_aload_n S.1 S.2.1 dX4_sea_55 rfl (lv_at hl 2 rfl) ?_
    obtain ⟨hq_14, h⟩ := zch_some h
    refine zr_get (v := .ref (ad ((up2 G_12 1 0 (0 : Int32)) 0 1).toNatClampNeg)) S K X (hcs 0 (by decide)) xE_W rfl uX4_sea_X4 1 (by decide) kX4_sea_19 rfl rfl dX4_sea_56 ?_
    obtain ⟨r_16, G_17, tr_18, hf_15, h⟩ := zbd_some h
    refine zr_callv (Eg := (xE ki ad)) K X (va_runV (As := [.ref (ad ((up2 G_12 1 0 (0 : Int32)) 0 1).toNatClampNeg)]) (rest := []) S (mX2_beginAnew l D ki ad cs hcs N 18 ((up2 G_12 1 0 (0 : Int32)) 0 1).toNatClampNeg (kM_now hcs) (kC_of hcs hq_14) (up2 G_12 1 0 (0 : Int32)) tr_13 H.size _ _ _ hf_15) (cwV 1 S.2.2.2.2 gX4_sea_X2_beginAnew rfl rfl rfl (by decide +kernel) ⟨Nat.le_of_ble_eq_true rfl, Nat.le_of_ble_eq_true rfl⟩) (zr_preV (c0 := 18) K X ((kM_now hcs).2 0 (by decide)) (xE_M (kM_now hcs)) rfl) rfl rfl hl.1 rfl (lv_room (Nat.le_of_ble_eq_true rfl)) dX4_sea_59 ⟨Nat.zero_le _, Nat.zero_le _⟩) (fun H locs X => ?_)
    refine lv_aload_n S.1 S.2.1 dX4_sea_62 rfl (lv_at hl 2 rfl) ?_
    refine lv_iconst (v := (0 : Int32)) S.1 S.2.1 dX4_sea_63 (by decide) ?_
    refine zr_put (xv := (0 : Int32)) (v := .int (0 : Int32)) (fsf := (fsW ad tr_18)) (ty := .int) S K X (hcs 0 (by decide)) xE_loc (fun _ => xE_W) rfl uX4_sea_X4 tyX4 tyX4_ok nmX4 6 (by decide) kX4_sea_77 rfl (by decide +kernel) rfl rfl (by simp) rfl dX4_sea_64 (fun H locs X => ?_)
    refine lv_iconst (v := (0 : Int32)) S.1 S.2.1 dX4_sea_67 (by decide) ?_
    refine lv_istore_n (lv' := [(3, .int (0 : Int32)), (2, .ref (ad (G_4 0 1).toNatClampNeg)), (1, .int r_3), (0, .ref (ad 0))]) S.1 S.2.1 dX4_sea_68 rfl hl (by decide) rfl (fun ls hl => ?_)
    exact L69 N r_3 (0 : Int32) (up2 G_17 0 6 (0 : Int32)) tr_18 h _ _ _ X (lv_sub hl [3, 2, 0] rfl)
  · have h := zif_neg hc_6 h
    refine lv_iload_n S.1 S.2.1 dX4_sea_16 rfl (lv_at hl 0 rfl) ?_
    exact zr_iret S hr hlk X h dX4_sea_17
set_option maxRecDepth 20000 in
theorem ggX4_isIsle_X4_isWithin : GoodIn wsX4_isIsle wsX4_isWithin := goodIn_r _ [6] (by decide +kernel) (by decide +kernel)
set_option maxRecDepth 20000 in
theorem gX4_isIsle_X4_isWithin : GoodIn wsX4_isIsle (va_wsS RX4 54 yX4_isWithin wsX4_isWithin) := goodIn_app (goodIn_of _ (by decide +kernel)) ggX4_isIsle_X4_isWithin
theorem dX4_isIsle_0 : decode cX4_isIsle 0 = .ok (.iload_n 1, 1) := by decide +kernel
theorem dX4_isIsle_1 : decode cX4_isIsle 1 = .ok (.iconst 0, 1) := by decide +kernel
theorem dX4_isIsle_2 : decode cX4_isIsle 2 = .ok (.aload_n 0, 1) := by decide +kernel
theorem dX4_isIsle_3 : decode cX4_isIsle 3 = .ok (.getfield 19, 3) := by decide +kernel
theorem dX4_isIsle_6 : decode cX4_isIsle 6 = .ok (.getfield 194, 3) := by decide +kernel
theorem dX4_isIsle_9 : decode cX4_isIsle 9 = .ok (.iconst 1, 1) := by decide +kernel
theorem dX4_isIsle_10 : decode cX4_isIsle 10 = .ok (.isub, 1) := by decide +kernel
theorem dX4_isIsle_11 : decode cX4_isIsle 11 = .ok (.invokestatic 54, 3) := by decide +kernel
theorem dX4_isIsle_14 : decode cX4_isIsle 14 = .ok (.ireturn, 1) := by decide +kernel
set_option maxRecDepth 20000 in
theorem kX4_isIsle_19 : Cond.fieldLink RX4 19 "WindPost" "chart" "LWindPost$Chart;" ∈ wsX4_isIsle := by decide +kernel
set_option maxRecDepth 20000 in
theorem kX4_isIsle_194 : Cond.fieldLink RX4 194 "WindPost$Chart" "isles" "I" ∈ wsX4_isIsle := by decide +kernel
set_option maxRecDepth 20000 in
theorem uX4_isIsle_X0 : ∀ w ∈ wsX00, w ∈ wsX4_isIsle := by decide +kernel
set_option maxRecDepth 20000 in
theorem uX4_isIsle_X4 : ∀ w ∈ wsX40, w ∈ wsX4_isIsle := by decide +kernel
set_option maxHeartbeats 8000000 in
set_option maxRecDepth 100000 in
theorem mX4_isIsle (l : Launch) (D : va_G) (ki : Nat → ClassId) (ad : Nat → Nat) (cs : List Nat) (hcs : kW cs) (N : Nat) (a1 : Int32) (G : zMem) (tr : Int64) : gMetI l D ki ad cs yX4_isIsle wsX4_isIsle { frames := 1, cells := 0, slots := 0, locals := 22 } [.ref (ad 0), .int a1] (xE ki ad) G tr (fX4_isIsle N a1 G tr) := by
  refine gMetI_of (cc := cX4_isIsle) (maxL := 2) (ret := (some .boolean)) (own := RX4) (by decide +kernel) rfl rfl (Nat.le_of_ble_eq_true rfl) ?_
  intro r9 G9 tr9 h p e s m below meth c S hr hlk K X ls hl
  have hl : lv_has ls 2 [(0, .ref (ad 0)), (1, .int a1)] := hl
  unfold fX4_isIsle at h
  obtain ⟨H, hH⟩ : ∃ H, H = s.heap := ⟨_, rfl⟩
  obtain ⟨locs, hlo⟩ : ∃ locs : List Loc, locs = [] := ⟨_, rfl⟩
  have X : gS D cs ad ((xE ki ad) G tr) (gA cs ad s.heap.size) s H locs := by rw [hH, hlo]; exact X
  suffices z : W p l e (headSpec wsX4_isIsle { frames := 1, cells := 0, slots := 0, locals := 22 }).room s m ([.ref (ad 0), .int a1] : List Value).toArray below meth c H locs 0 0 (zQI below ([.ref (ad 0), .int a1] : List Value).toArray s D cs ad ((xE ki ad) G9 tr9) r9) (F0 m 0 ls []) by rw [hH, hlo] at z; exact z
  clear hH hlo
  refine lv_iload_n S.1 S.2.1 dX4_isIsle_0 rfl (lv_at hl 1 rfl) ?_
  refine lv_iconst (v := (0 : Int32)) S.1 S.2.1 dX4_isIsle_1 (by decide) ?_
  refine lv_aload_n S.1 S.2.1 dX4_isIsle_2 rfl (lv_at hl 0 rfl) ?_
  obtain ⟨hq_1, h⟩ := zch_some h
  refine zr_get (v := .ref (ad (G 0 1).toNatClampNeg)) S K X (hcs 0 (by decide)) xE_W rfl uX4_isIsle_X4 1 (by decide) kX4_isIsle_19 rfl rfl dX4_isIsle_3 ?_
  refine zr_get (v := .int (G (G 0 1).toNatClampNeg 3)) S K X ((kC_of hcs hq_1).2 0 (by decide)) (xE_C (kC_of hcs hq_1)) rfl uX4_isIsle_X0 3 (by decide) kX4_isIsle_194 rfl rfl dX4_isIsle_6 ?_
  refine lv_iconst (v := (1 : Int32)) S.1 S.2.1 dX4_isIsle_9 (by decide) ?_
  refine lv_isub S.1 S.2.1 dX4_isIsle_10 ?_
  obtain ⟨r_3, hf_2, h⟩ := zbp_some h
  refine zr_calli (Eg := (xE ki ad)) (G' := G) (tr' := tr) K X (va_runS (As := [.int a1, .int (0 : Int32), .int ((G (G 0 1).toNatClampNeg 3) - (1 : Int32))]) (rest := []) S (mX4_isWithin l D ki ad cs N a1 (0 : Int32) ((G (G 0 1).toNatClampNeg 3) - (1 : Int32)) (xE ki ad) G tr H.size _ _ _ (zpu_of hf_2)) (va_cwS 3 S.2.2.2.2 gX4_isIsle_X4_isWithin rfl rfl rfl (by decide +kernel) ⟨Nat.le_of_ble_eq_true rfl, Nat.le_of_ble_eq_true rfl⟩) (zr_pre K X) rfl rfl hl.1 rfl (lv_room (Nat.le_of_ble_eq_true rfl)) dX4_isIsle_11 ⟨Nat.zero_le _, Nat.zero_le _⟩) (fun H locs X => ?_)
  exact zr_zret S hr hlk X h dX4_isIsle_14
set_option maxRecDepth 20000 in
theorem ggX4_isle_X4_isIsle : GoodIn wsX4_isle wsX4_isIsle := goodIn_r _ [9, 1, 10, 11, 12, 8, 13, 17, 18, 19, 20, 21, 22, 23, 24, 25, 26, 27, 28, 29, 30, 31, 32, 33, 34, 35, 36, 37, 38] (by decide +kernel) (by decide +kernel)
set_option maxRecDepth 20000 in
theorem gX4_isle_X4_isIsle : GoodIn wsX4_isle (wsV RX4 80 RX4 yX4_isIsle wsX4_isIsle) := goodIn_app (goodIn_of _ (by decide +kernel)) ggX4_isle_X4_isIsle
set_option maxRecDepth 20000 in
theorem ggX4_isle_X4_isWithin : GoodIn wsX4_isle wsX4_isWithin := goodIn_r _ [13] (by decide +kernel) (by decide +kernel)
set_option maxRecDepth 20000 in
theorem gX4_isle_X4_isWithin : GoodIn wsX4_isle (va_wsS RX4 54 yX4_isWithin wsX4_isWithin) := goodIn_app (goodIn_of _ (by decide +kernel)) ggX4_isle_X4_isWithin
set_option maxRecDepth 20000 in
theorem ggX4_isle_X4_bitOf : GoodIn wsX4_isle wsX4_bitOf := goodIn_r _ [16] (by decide +kernel) (by decide +kernel)
set_option maxRecDepth 20000 in
theorem gX4_isle_X4_bitOf : GoodIn wsX4_isle (va_wsS RX4 91 yX4_bitOf wsX4_bitOf) := goodIn_app (goodIn_of _ (by decide +kernel)) ggX4_isle_X4_bitOf
theorem dX4_isle_0 : decode cX4_isle 0 = .ok (.aload_n 0, 1) := by decide +kernel
theorem dX4_isle_1 : decode cX4_isle 1 = .ok (.iload_n 1, 1) := by decide +kernel
theorem dX4_isle_2 : decode cX4_isle 2 = .ok (.invokevirtual 80, 3) := by decide +kernel
theorem dX4_isle_5 : decode cX4_isle 5 = .ok (.ifCond .eq 12, 3) := by decide +kernel
theorem dX4_isle_8 : decode cX4_isle 8 = .ok (.iload_n 2, 1) := by decide +kernel
theorem dX4_isle_9 : decode cX4_isle 9 = .ok (.iconst 0, 1) := by decide +kernel
theorem dX4_isle_10 : decode cX4_isle 10 = .ok (.iconst 1, 1) := by decide +kernel
theorem dX4_isle_11 : decode cX4_isle 11 = .ok (.invokestatic 54, 3) := by decide +kernel
theorem dX4_isle_14 : decode cX4_isle 14 = .ok (.ifCond .ne 5, 3) := by decide +kernel
theorem dX4_isle_17 : decode cX4_isle 17 = .ok (.iconst (-1), 1) := by decide +kernel
theorem dX4_isle_18 : decode cX4_isle 18 = .ok (.ireturn, 1) := by decide +kernel
theorem dX4_isle_19 : decode cX4_isle 19 = .ok (.iload_n 2, 1) := by decide +kernel
theorem dX4_isle_20 : decode cX4_isle 20 = .ok (.ifCond .ne 15, 3) := by decide +kernel
theorem dX4_isle_23 : decode cX4_isle 23 = .ok (.aload_n 0, 1) := by decide +kernel
theorem dX4_isle_24 : decode cX4_isle 24 = .ok (.getfield 19, 3) := by decide +kernel
theorem dX4_isle_27 : decode cX4_isle 27 = .ok (.getfield 84, 3) := by decide +kernel
theorem dX4_isle_30 : decode cX4_isle 30 = .ok (.iload_n 1, 1) := by decide +kernel
theorem dX4_isle_31 : decode cX4_isle 31 = .ok (.iaload, 1) := by decide +kernel
theorem dX4_isle_32 : decode cX4_isle 32 = .ok (.goto 14, 3) := by decide +kernel
theorem dX4_isle_35 : decode cX4_isle 35 = .ok (.aload_n 0, 1) := by decide +kernel
theorem dX4_isle_36 : decode cX4_isle 36 = .ok (.getfield 29, 3) := by decide +kernel
theorem dX4_isle_39 : decode cX4_isle 39 = .ok (.getfield 88, 3) := by decide +kernel
theorem dX4_isle_42 : decode cX4_isle 42 = .ok (.iload_n 1, 1) := by decide +kernel
theorem dX4_isle_43 : decode cX4_isle 43 = .ok (.invokestatic 91, 3) := by decide +kernel
theorem dX4_isle_46 : decode cX4_isle 46 = .ok (.ireturn, 1) := by decide +kernel
set_option maxRecDepth 20000 in
theorem kX4_isle_19 : Cond.fieldLink RX4 19 "WindPost" "chart" "LWindPost$Chart;" ∈ wsX4_isle := by decide +kernel
set_option maxRecDepth 20000 in
theorem kX4_isle_29 : Cond.fieldLink RX4 29 "WindPost" "now" "LWindPost$Moment;" ∈ wsX4_isle := by decide +kernel
set_option maxRecDepth 20000 in
theorem kX4_isle_84 : Cond.fieldLink RX4 84 "WindPost$Chart" "isleCells" "[I" ∈ wsX4_isle := by decide +kernel
set_option maxRecDepth 20000 in
theorem kX4_isle_88 : Cond.fieldLink RX4 88 "WindPost$Moment" "nets" "I" ∈ wsX4_isle := by decide +kernel
set_option maxRecDepth 20000 in
theorem uX4_isle_X0 : ∀ w ∈ wsX00, w ∈ wsX4_isle := by decide +kernel
set_option maxRecDepth 20000 in
theorem uX4_isle_X2 : ∀ w ∈ wsX20, w ∈ wsX4_isle := by decide +kernel
set_option maxRecDepth 20000 in
theorem uX4_isle_X4 : ∀ w ∈ wsX40, w ∈ wsX4_isle := by decide +kernel
set_option maxHeartbeats 8000000 in
set_option maxRecDepth 100000 in
theorem mX4_isle (l : Launch) (D : va_G) (ki : Nat → ClassId) (ad : Nat → Nat) (cs : List Nat) (hcs : kW cs) (N : Nat) (a1 : Int32) (a2 : Int32) (G : zMem) (tr : Int64) : gMetI l D ki ad cs yX4_isle wsX4_isle { frames := 2, cells := 0, slots := 0, locals := 43 } [.ref (ad 0), .int a1, .int a2] (xE ki ad) G tr (fX4_isle N a1 a2 G tr) := by
  refine gMetI_of (cc := cX4_isle) (maxL := 3) (ret := (some .int)) (own := RX4) (by decide +kernel) rfl rfl (Nat.le_of_ble_eq_true rfl) ?_
  intro r9 G9 tr9 h p e s m below meth c S hr hlk K X ls hl
  have hl : lv_has ls 3 [(0, .ref (ad 0)), (1, .int a1), (2, .int a2)] := hl
  unfold fX4_isle at h
  obtain ⟨H, hH⟩ : ∃ H, H = s.heap := ⟨_, rfl⟩
  obtain ⟨locs, hlo⟩ : ∃ locs : List Loc, locs = [] := ⟨_, rfl⟩
  have X : gS D cs ad ((xE ki ad) G tr) (gA cs ad s.heap.size) s H locs := by rw [hH, hlo]; exact X
  suffices z : W p l e (headSpec wsX4_isle { frames := 2, cells := 0, slots := 0, locals := 43 }).room s m ([.ref (ad 0), .int a1, .int a2] : List Value).toArray below meth c H locs 0 0 (zQI below ([.ref (ad 0), .int a1, .int a2] : List Value).toArray s D cs ad ((xE ki ad) G9 tr9) r9) (F0 m 0 ls []) by rw [hH, hlo] at z; exact z
  clear hH hlo
  refine lv_aload_n S.1 S.2.1 dX4_isle_0 rfl (lv_at hl 0 rfl) ?_
  refine lv_iload_n S.1 S.2.1 dX4_isle_1 rfl (lv_at hl 1 rfl) ?_
  obtain ⟨r_2, G_3, tr_4, hf_1, h⟩ := zbd_some h
  refine zr_calli (Eg := (xE ki ad)) K X (va_runV (As := [.int a1]) (rest := []) S (mX4_isIsle l D ki ad cs hcs N a1 G tr H.size _ _ _ hf_1) (cwV 1 S.2.2.2.2 gX4_isle_X4_isIsle rfl rfl rfl (by decide +kernel) ⟨Nat.le_of_ble_eq_true rfl, Nat.le_of_ble_eq_true rfl⟩) (zr_preV (c0 := 0) K X (hcs 0 (by decide)) xE_W rfl) rfl rfl hl.1 rfl (lv_room (Nat.le_of_ble_eq_true rfl)) dX4_isle_2 ⟨Nat.zero_le _, Nat.zero_le _⟩) (fun H locs X => ?_)
  refine lv_if_eq (tgt := 17) S.1 S.2.1 dX4_isle_5 (by decide) (fun hc_5 => ?_) (fun hc_5 => ?_)
  · have h := zif_pos hc_5 h
    refine lv_iconst (v := (-1 : Int32)) S.1 S.2.1 dX4_isle_17 (by decide) ?_
    exact zr_iret S hr hlk X h dX4_isle_18
  · have h := zif_neg hc_5 h
    refine lv_iload_n S.1 S.2.1 dX4_isle_8 rfl (lv_at hl 2 rfl) ?_
    refine lv_iconst (v := (0 : Int32)) S.1 S.2.1 dX4_isle_9 (by decide) ?_
    refine lv_iconst (v := (1 : Int32)) S.1 S.2.1 dX4_isle_10 (by decide) ?_
    obtain ⟨r_7, hf_6, h⟩ := zbp_some h
    refine zr_calli (Eg := (xE ki ad)) (G' := G_3) (tr' := tr_4) K X (va_runS (As := [.int a2, .int (0 : Int32), .int (1 : Int32)]) (rest := []) S (mX4_isWithin l D ki ad cs N a2 (0 : Int32) (1 : Int32) (xE ki ad) G_3 tr_4 H.size _ _ _ (zpu_of hf_6)) (va_cwS 3 S.2.2.2.2 gX4_isle_X4_isWithin rfl rfl rfl (by decide +kernel) ⟨Nat.le_of_ble_eq_true rfl, Nat.le_of_ble_eq_true rfl⟩) (zr_pre K X) rfl rfl hl.1 rfl (lv_room (Nat.le_of_ble_eq_true rfl)) dX4_isle_11 ⟨Nat.zero_le _, Nat.zero_le _⟩) (fun H locs X => ?_)
    refine lv_if_ne (tgt := 19) S.1 S.2.1 dX4_isle_14 (by decide) (fun hc_8 => ?_) (fun hc_8 => ?_)
    · have h := zif_neg hc_8 h
      refine lv_iload_n S.1 S.2.1 dX4_isle_19 rfl (lv_at hl 2 rfl) ?_
      refine lv_if_ne (tgt := 35) S.1 S.2.1 dX4_isle_20 (by decide) (fun hc_9 => ?_) (fun hc_9 => ?_)
      · have h := zif_neg hc_9 h
        refine lv_aload_n S.1 S.2.1 dX4_isle_35 rfl (lv_at hl 0 rfl) ?_
        refine zr_get (v := .ref (ad 18)) S K X (hcs 0 (by decide)) xE_W rfl uX4_isle_X4 3 (by decide) kX4_isle_29 rfl rfl dX4_isle_36 ?_
        refine zr_get (v := .int (G_3 18 2)) S K X ((kM_now hcs).2 0 (by decide)) (xE_M (kM_now hcs)) rfl uX4_isle_X2 2 (by decide) kX4_isle_88 rfl rfl dX4_isle_39 ?_
        refine lv_iload_n S.1 S.2.1 dX4_isle_42 rfl (lv_at hl 1 rfl) ?_
        obtain ⟨r_11, hf_10, h⟩ := zbp_some h
        refine zr_calli (Eg := (xE ki ad)) (G' := G_3) (tr' := tr_4) K X (va_runS (As := [.int (G_3 18 2), .int a1]) (rest := []) S (mX4_bitOf l D ki ad cs N (G_3 18 2) a1 (xE ki ad) G_3 tr_4 H.size _ _ _ (zpu_of hf_10)) (va_cwS 2 S.2.2.2.2 gX4_isle_X4_bitOf rfl rfl rfl (by decide +kernel) ⟨Nat.le_of_ble_eq_true rfl, Nat.le_of_ble_eq_true rfl⟩) (zr_pre K X) rfl rfl hl.1 rfl (lv_room (Nat.le_of_ble_eq_true rfl)) dX4_isle_43 ⟨Nat.zero_le _, Nat.zero_le _⟩) (fun H locs X => ?_)
        exact zr_iret S hr hlk X h dX4_isle_46
      · have h := zif_pos hc_9 h
        refine lv_aload_n S.1 S.2.1 dX4_isle_23 rfl (lv_at hl 0 rfl) ?_
        obtain ⟨hq_12, h⟩ := zch_some h
        refine zr_get (v := .ref (ad (G_3 0 1).toNatClampNeg)) S K X (hcs 0 (by decide)) xE_W rfl uX4_isle_X4 1 (by decide) kX4_isle_19 rfl rfl dX4_isle_24 ?_
        refine zr_get (v := .ref (ad ((G_3 0 1).toNatClampNeg + 1))) S K X ((kC_of hcs hq_12).2 0 (by decide)) (xE_C (kC_of hcs hq_12)) rfl uX4_isle_X0 6 (by decide) kX4_isle_84 rfl rfl dX4_isle_27 ?_
        refine lv_iload_n S.1 S.2.1 dX4_isle_30 rfl (lv_at hl 1 rfl) ?_
        obtain ⟨hi_13, h⟩ := zin_some h
        refine zr_iald S K X ((kC_of hcs hq_12).2 1 (by decide)) (xE_C1 (kC_of hcs hq_12)) hi_13 dX4_isle_31 ?_
        refine lv_goto (tgt := 46) S.1 S.2.1 dX4_isle_32 (by decide) ?_
        exact zr_iret S hr hlk X h dX4_isle_46
    · have h := zif_pos hc_8 h
      refine lv_iconst (v := (-1 : Int32)) S.1 S.2.1 dX4_isle_17 (by decide) ?_
      exact zr_iret S hr hlk X h dX4_isle_18
set_option maxRecDepth 20000 in
theorem ggX4_cell_X0_cells : GoodIn wsX4_cell wsX0_cells := goodIn_r _ [7, 8, 9, 10, 11, 12, 13, 30, 31, 32, 33, 34, 35, 36, 37, 38, 39] (by decide +kernel) (by decide +kernel)
set_option maxRecDepth 20000 in
theorem gX4_cell_X0_cells : GoodIn wsX4_cell (wsV RX4 95 RX0 yX0_cells wsX0_cells) := goodIn_app (goodIn_of _ (by decide +kernel)) ggX4_cell_X0_cells
set_option maxRecDepth 20000 in
theorem ggX4_cell_X4_isWithin : GoodIn wsX4_cell wsX4_isWithin := goodIn_r _ [17] (by decide +kernel) (by decide +kernel)
set_option maxRecDepth 20000 in
theorem gX4_cell_X4_isWithin : GoodIn wsX4_cell (va_wsS RX4 54 yX4_isWithin wsX4_isWithin) := goodIn_app (goodIn_of _ (by decide +kernel)) ggX4_cell_X4_isWithin
theorem dX4_cell_0 : decode cX4_cell 0 = .ok (.iload_n 1, 1) := by decide +kernel
theorem dX4_cell_1 : decode cX4_cell 1 = .ok (.iconst 0, 1) := by decide +kernel
theorem dX4_cell_2 : decode cX4_cell 2 = .ok (.aload_n 0, 1) := by decide +kernel
theorem dX4_cell_3 : decode cX4_cell 3 = .ok (.getfield 19, 3) := by decide +kernel
theorem dX4_cell_6 : decode cX4_cell 6 = .ok (.invokevirtual 95, 3) := by decide +kernel
theorem dX4_cell_9 : decode cX4_cell 9 = .ok (.iconst 1, 1) := by decide +kernel
theorem dX4_cell_10 : decode cX4_cell 10 = .ok (.isub, 1) := by decide +kernel
theorem dX4_cell_11 : decode cX4_cell 11 = .ok (.invokestatic 54, 3) := by decide +kernel
theorem dX4_cell_14 : decode cX4_cell 14 = .ok (.ifCond .ne 5, 3) := by decide +kernel
theorem dX4_cell_17 : decode cX4_cell 17 = .ok (.iconst (-1), 1) := by decide +kernel
theorem dX4_cell_18 : decode cX4_cell 18 = .ok (.ireturn, 1) := by decide +kernel
theorem dX4_cell_19 : decode cX4_cell 19 = .ok (.aload_n 0, 1) := by decide +kernel
theorem dX4_cell_20 : decode cX4_cell 20 = .ok (.getfield 19, 3) := by decide +kernel
theorem dX4_cell_23 : decode cX4_cell 23 = .ok (.getfield 99, 3) := by decide +kernel
theorem dX4_cell_26 : decode cX4_cell 26 = .ok (.iload_n 1, 1) := by decide +kernel
theorem dX4_cell_27 : decode cX4_cell 27 = .ok (.iaload, 1) := by decide +kernel
theorem dX4_cell_28 : decode cX4_cell 28 = .ok (.ireturn, 1) := by decide +kernel
set_option maxRecDepth 20000 in
theorem kX4_cell_19 : Cond.fieldLink RX4 19 "WindPost" "chart" "LWindPost$Chart;" ∈ wsX4_cell := by decide +kernel
set_option maxRecDepth 20000 in
theorem kX4_cell_99 : Cond.fieldLink RX4 99 "WindPost$Chart" "holds" "[I" ∈ wsX4_cell := by decide +kernel
set_option maxRecDepth 20000 in
theorem uX4_cell_X0 : ∀ w ∈ wsX00, w ∈ wsX4_cell := by decide +kernel
set_option maxRecDepth 20000 in
theorem uX4_cell_X4 : ∀ w ∈ wsX40, w ∈ wsX4_cell := by decide +kernel
set_option maxHeartbeats 8000000 in
set_option maxRecDepth 100000 in
theorem mX4_cell (l : Launch) (D : va_G) (ki : Nat → ClassId) (ad : Nat → Nat) (cs : List Nat) (hcs : kW cs) (N : Nat) (a1 : Int32) (G : zMem) (tr : Int64) : gMetI l D ki ad cs yX4_cell wsX4_cell { frames := 2, cells := 0, slots := 0, locals := 44 } [.ref (ad 0), .int a1] (xE ki ad) G tr (fX4_cell N a1 G tr) := by
  refine gMetI_of (cc := cX4_cell) (maxL := 2) (ret := (some .int)) (own := RX4) (by decide +kernel) rfl rfl (Nat.le_of_ble_eq_true rfl) ?_
  intro r9 G9 tr9 h p e s m below meth c S hr hlk K X ls hl
  have hl : lv_has ls 2 [(0, .ref (ad 0)), (1, .int a1)] := hl
  unfold fX4_cell at h
  obtain ⟨H, hH⟩ : ∃ H, H = s.heap := ⟨_, rfl⟩
  obtain ⟨locs, hlo⟩ : ∃ locs : List Loc, locs = [] := ⟨_, rfl⟩
  have X : gS D cs ad ((xE ki ad) G tr) (gA cs ad s.heap.size) s H locs := by rw [hH, hlo]; exact X
  suffices z : W p l e (headSpec wsX4_cell { frames := 2, cells := 0, slots := 0, locals := 44 }).room s m ([.ref (ad 0), .int a1] : List Value).toArray below meth c H locs 0 0 (zQI below ([.ref (ad 0), .int a1] : List Value).toArray s D cs ad ((xE ki ad) G9 tr9) r9) (F0 m 0 ls []) by rw [hH, hlo] at z; exact z
  clear hH hlo
  refine lv_iload_n S.1 S.2.1 dX4_cell_0 rfl (lv_at hl 1 rfl) ?_
  refine lv_iconst (v := (0 : Int32)) S.1 S.2.1 dX4_cell_1 (by decide) ?_
  refine lv_aload_n S.1 S.2.1 dX4_cell_2 rfl (lv_at hl 0 rfl) ?_
  obtain ⟨hq_1, h⟩ := zch_some h
  refine zr_get (v := .ref (ad (G 0 1).toNatClampNeg)) S K X (hcs 0 (by decide)) xE_W rfl uX4_cell_X4 1 (by decide) kX4_cell_19 rfl rfl dX4_cell_3 ?_
  obtain ⟨r_3, G_4, tr_5, hf_2, h⟩ := zbd_some h
  refine zr_calli (Eg := (xE ki ad)) K X (va_runV (As := []) (rest := [.int (0 : Int32), .int a1]) S (mX0_cells l D ki ad cs  N (G 0 1).toNatClampNeg (kC_of hcs hq_1) G tr H.size _ _ _ hf_2) (cwV 0 S.2.2.2.2 gX4_cell_X0_cells rfl rfl rfl (by decide +kernel) ⟨Nat.le_of_ble_eq_true rfl, Nat.le_of_ble_eq_true rfl⟩) (zr_preV (c0 := (G 0 1).toNatClampNeg) K X ((kC_of hcs hq_1).2 0 (by decide)) (xE_C (kC_of hcs hq_1)) rfl) rfl rfl hl.1 rfl (lv_room (Nat.le_of_ble_eq_true rfl)) dX4_cell_6 ⟨Nat.zero_le _, Nat.zero_le _⟩) (fun H locs X => ?_)
  refine lv_iconst (v := (1 : Int32)) S.1 S.2.1 dX4_cell_9 (by decide) ?_
  refine lv_isub S.1 S.2.1 dX4_cell_10 ?_
  obtain ⟨r_7, hf_6, h⟩ := zbp_some h
  refine zr_calli (Eg := (xE ki ad)) (G' := G_4) (tr' := tr_5) K X (va_runS (As := [.int a1, .int (0 : Int32), .int (r_3 - (1 : Int32))]) (rest := []) S (mX4_isWithin l D ki ad cs N a1 (0 : Int32) (r_3 - (1 : Int32)) (xE ki ad) G_4 tr_5 H.size _ _ _ (zpu_of hf_6)) (va_cwS 3 S.2.2.2.2 gX4_cell_X4_isWithin rfl rfl rfl (by decide +kernel) ⟨Nat.le_of_ble_eq_true rfl, Nat.le_of_ble_eq_true rfl⟩) (zr_pre K X) rfl rfl hl.1 rfl (lv_room (Nat.le_of_ble_eq_true rfl)) dX4_cell_11 ⟨Nat.zero_le _, Nat.zero_le _⟩) (fun H locs X => ?_)
  refine lv_if_ne (tgt := 19) S.1 S.2.1 dX4_cell_14 (by decide) (fun hc_8 => ?_) (fun hc_8 => ?_)
  · have h := zif_neg hc_8 h
    refine lv_aload_n S.1 S.2.1 dX4_cell_19 rfl (lv_at hl 0 rfl) ?_
    obtain ⟨hq_9, h⟩ := zch_some h
    refine zr_get (v := .ref (ad (G_4 0 1).toNatClampNeg)) S K X (hcs 0 (by decide)) xE_W rfl uX4_cell_X4 1 (by decide) kX4_cell_19 rfl rfl dX4_cell_20 ?_
    refine zr_get (v := .ref (ad ((G_4 0 1).toNatClampNeg + 2))) S K X ((kC_of hcs hq_9).2 0 (by decide)) (xE_C (kC_of hcs hq_9)) rfl uX4_cell_X0 7 (by decide) kX4_cell_99 rfl rfl dX4_cell_23 ?_
    refine lv_iload_n S.1 S.2.1 dX4_cell_26 rfl (lv_at hl 1 rfl) ?_
    obtain ⟨hi_10, h⟩ := zin_some h
    refine zr_iald S K X ((kC_of hcs hq_9).2 2 (by decide)) (xE_C2 (kC_of hcs hq_9)) hi_10 dX4_cell_27 ?_
    exact zr_iret S hr hlk X h dX4_cell_28
  · have h := zif_pos hc_8 h
    refine lv_iconst (v := (-1 : Int32)) S.1 S.2.1 dX4_cell_17 (by decide) ?_
    exact zr_iret S hr hlk X h dX4_cell_18
set_option maxRecDepth 20000 in
theorem ggX4_wind_X4_isWithin : GoodIn wsX4_wind wsX4_isWithin := goodIn_r _ [6] (by decide +kernel) (by decide +kernel)
set_option maxRecDepth 20000 in
theorem gX4_wind_X4_isWithin : GoodIn wsX4_wind (va_wsS RX4 54 yX4_isWithin wsX4_isWithin) := goodIn_app (goodIn_of _ (by decide +kernel)) ggX4_wind_X4_isWithin
set_option maxRecDepth 20000 in
theorem ggX4_wind_X2_windOf : GoodIn wsX4_wind wsX2_windOf := goodIn_r _ [11, 12, 13, 14, 15, 16, 17, 30, 31, 32, 33, 34, 35] (by decide +kernel) (by decide +kernel)
set_option maxRecDepth 20000 in
theorem gX4_wind_X2_windOf : GoodIn wsX4_wind (wsV RX4 105 RX2 yX2_windOf wsX2_windOf) := goodIn_app (goodIn_of _ (by decide +kernel)) ggX4_wind_X2_windOf
theorem dX4_wind_0 : decode cX4_wind 0 = .ok (.iload_n 1, 1) := by decide +kernel
theorem dX4_wind_1 : decode cX4_wind 1 = .ok (.iconst 0, 1) := by decide +kernel
theorem dX4_wind_2 : decode cX4_wind 2 = .ok (.sipush 400, 3) := by decide +kernel
theorem dX4_wind_5 : decode cX4_wind 5 = .ok (.invokestatic 54, 3) := by decide +kernel
theorem dX4_wind_8 : decode cX4_wind 8 = .ok (.ifCond .ne 5, 3) := by decide +kernel
theorem dX4_wind_11 : decode cX4_wind 11 = .ok (.iconst (-1), 1) := by decide +kernel
theorem dX4_wind_12 : decode cX4_wind 12 = .ok (.ireturn, 1) := by decide +kernel
theorem dX4_wind_13 : decode cX4_wind 13 = .ok (.aload_n 0, 1) := by decide +kernel
theorem dX4_wind_14 : decode cX4_wind 14 = .ok (.getfield 29, 3) := by decide +kernel
theorem dX4_wind_17 : decode cX4_wind 17 = .ok (.aload_n 0, 1) := by decide +kernel
theorem dX4_wind_18 : decode cX4_wind 18 = .ok (.getfield 29, 3) := by decide +kernel
theorem dX4_wind_21 : decode cX4_wind 21 = .ok (.getfield 102, 3) := by decide +kernel
theorem dX4_wind_24 : decode cX4_wind 24 = .ok (.iload_n 1, 1) := by decide +kernel
theorem dX4_wind_25 : decode cX4_wind 25 = .ok (.iadd, 1) := by decide +kernel
theorem dX4_wind_26 : decode cX4_wind 26 = .ok (.invokevirtual 105, 3) := by decide +kernel
theorem dX4_wind_29 : decode cX4_wind 29 = .ok (.ireturn, 1) := by decide +kernel
set_option maxRecDepth 20000 in
theorem kX4_wind_29 : Cond.fieldLink RX4 29 "WindPost" "now" "LWindPost$Moment;" ∈ wsX4_wind := by decide +kernel
set_option maxRecDepth 20000 in
theorem kX4_wind_102 : Cond.fieldLink RX4 102 "WindPost$Moment" "time" "I" ∈ wsX4_wind := by decide +kernel
set_option maxRecDepth 20000 in
theorem uX4_wind_X2 : ∀ w ∈ wsX20, w ∈ wsX4_wind := by decide +kernel
set_option maxRecDepth 20000 in
theorem uX4_wind_X4 : ∀ w ∈ wsX40, w ∈ wsX4_wind := by decide +kernel
set_option maxHeartbeats 8000000 in
set_option maxRecDepth 100000 in
theorem mX4_wind (l : Launch) (D : va_G) (ki : Nat → ClassId) (ad : Nat → Nat) (cs : List Nat) (hcs : kW cs) (N : Nat) (a1 : Int32) (G : zMem) (tr : Int64) : gMetI l D ki ad cs yX4_wind wsX4_wind { frames := 2, cells := 0, slots := 0, locals := 43 } [.ref (ad 0), .int a1] (xE ki ad) G tr (fX4_wind N a1 G tr) := by
  refine gMetI_of (cc := cX4_wind) (maxL := 2) (ret := (some .int)) (own := RX4) (by decide +kernel) rfl rfl (Nat.le_of_ble_eq_true rfl) ?_
  intro r9 G9 tr9 h p e s m below meth c S hr hlk K X ls hl
  have hl : lv_has ls 2 [(0, .ref (ad 0)), (1, .int a1)] := hl
  unfold fX4_wind at h
  obtain ⟨H, hH⟩ : ∃ H, H = s.heap := ⟨_, rfl⟩
  obtain ⟨locs, hlo⟩ : ∃ locs : List Loc, locs = [] := ⟨_, rfl⟩
  have X : gS D cs ad ((xE ki ad) G tr) (gA cs ad s.heap.size) s H locs := by rw [hH, hlo]; exact X
  suffices z : W p l e (headSpec wsX4_wind { frames := 2, cells := 0, slots := 0, locals := 43 }).room s m ([.ref (ad 0), .int a1] : List Value).toArray below meth c H locs 0 0 (zQI below ([.ref (ad 0), .int a1] : List Value).toArray s D cs ad ((xE ki ad) G9 tr9) r9) (F0 m 0 ls []) by rw [hH, hlo] at z; exact z
  clear hH hlo
  refine lv_iload_n S.1 S.2.1 dX4_wind_0 rfl (lv_at hl 1 rfl) ?_
  refine lv_iconst (v := (0 : Int32)) S.1 S.2.1 dX4_wind_1 (by decide) ?_
  refine lv_sipush (v := (400 : Int32)) S.1 S.2.1 dX4_wind_2 (by decide) ?_
  obtain ⟨r_2, hf_1, h⟩ := zbp_some h
  refine zr_calli (Eg := (xE ki ad)) (G' := G) (tr' := tr) K X (va_runS (As := [.int a1, .int (0 : Int32), .int (400 : Int32)]) (rest := []) S (mX4_isWithin l D ki ad cs N a1 (0 : Int32) (400 : Int32) (xE ki ad) G tr H.size _ _ _ (zpu_of hf_1)) (va_cwS 3 S.2.2.2.2 gX4_wind_X4_isWithin rfl rfl rfl (by decide +kernel) ⟨Nat.le_of_ble_eq_true rfl, Nat.le_of_ble_eq_true rfl⟩) (zr_pre K X) rfl rfl hl.1 rfl (lv_room (Nat.le_of_ble_eq_true rfl)) dX4_wind_5 ⟨Nat.zero_le _, Nat.zero_le _⟩) (fun H locs X => ?_)
  refine lv_if_ne (tgt := 13) S.1 S.2.1 dX4_wind_8 (by decide) (fun hc_3 => ?_) (fun hc_3 => ?_)
  · have h := zif_neg hc_3 h
    refine lv_aload_n S.1 S.2.1 dX4_wind_13 rfl (lv_at hl 0 rfl) ?_
    refine zr_get (v := .ref (ad 18)) S K X (hcs 0 (by decide)) xE_W rfl uX4_wind_X4 3 (by decide) kX4_wind_29 rfl rfl dX4_wind_14 ?_
    refine lv_aload_n S.1 S.2.1 dX4_wind_17 rfl (lv_at hl 0 rfl) ?_
    refine zr_get (v := .ref (ad 18)) S K X (hcs 0 (by decide)) xE_W rfl uX4_wind_X4 3 (by decide) kX4_wind_29 rfl rfl dX4_wind_18 ?_
    refine zr_get (v := .int (G 18 0)) S K X ((kM_now hcs).2 0 (by decide)) (xE_M (kM_now hcs)) rfl uX4_wind_X2 0 (by decide) kX4_wind_102 rfl rfl dX4_wind_21 ?_
    refine lv_iload_n S.1 S.2.1 dX4_wind_24 rfl (lv_at hl 1 rfl) ?_
    refine lv_iadd S.1 S.2.1 dX4_wind_25 ?_
    obtain ⟨r_5, G_6, tr_7, hf_4, h⟩ := zbd_some h
    refine zr_calli (Eg := (xE ki ad)) K X (va_runV (As := [.int ((G 18 0) + a1)]) (rest := []) S (mX2_windOf l D ki ad cs hcs N 18 ((G 18 0) + a1) (kM_now hcs) G tr H.size _ _ _ hf_4) (cwV 1 S.2.2.2.2 gX4_wind_X2_windOf rfl rfl rfl (by decide +kernel) ⟨Nat.le_of_ble_eq_true rfl, Nat.le_of_ble_eq_true rfl⟩) (zr_preV (c0 := 18) K X ((kM_now hcs).2 0 (by decide)) (xE_M (kM_now hcs)) rfl) rfl rfl hl.1 rfl (lv_room (Nat.le_of_ble_eq_true rfl)) dX4_wind_26 ⟨Nat.zero_le _, Nat.zero_le _⟩) (fun H locs X => ?_)
    exact zr_iret S hr hlk X h dX4_wind_29
  · have h := zif_pos hc_3 h
    refine lv_iconst (v := (-1 : Int32)) S.1 S.2.1 dX4_wind_11 (by decide) ?_
    exact zr_iret S hr hlk X h dX4_wind_12
set_option maxRecDepth 20000 in
theorem ggX4_isLetter_X4_isWithin : GoodIn wsX4_isLetter wsX4_isWithin := goodIn_r _ [6] (by decide +kernel) (by decide +kernel)
set_option maxRecDepth 20000 in
theorem gX4_isLetter_X4_isWithin : GoodIn wsX4_isLetter (va_wsS RX4 54 yX4_isWithin wsX4_isWithin) := goodIn_app (goodIn_of _ (by decide +kernel)) ggX4_isLetter_X4_isWithin
theorem dX4_isLetter_0 : decode cX4_isLetter 0 = .ok (.iload_n 1, 1) := by decide +kernel
theorem dX4_isLetter_1 : decode cX4_isLetter 1 = .ok (.iconst 0, 1) := by decide +kernel
theorem dX4_isLetter_2 : decode cX4_isLetter 2 = .ok (.aload_n 0, 1) := by decide +kernel
theorem dX4_isLetter_3 : decode cX4_isLetter 3 = .ok (.getfield 29, 3) := by decide +kernel
theorem dX4_isLetter_6 : decode cX4_isLetter 6 = .ok (.getfield 134, 3) := by decide +kernel
theorem dX4_isLetter_9 : decode cX4_isLetter 9 = .ok (.iconst 1, 1) := by decide +kernel
theorem dX4_isLetter_10 : decode cX4_isLetter 10 = .ok (.isub, 1) := by decide +kernel
theorem dX4_isLetter_11 : decode cX4_isLetter 11 = .ok (.invokestatic 54, 3) := by decide +kernel
theorem dX4_isLetter_14 : decode cX4_isLetter 14 = .ok (.ireturn, 1) := by decide +kernel
set_option maxRecDepth 20000 in
theorem kX4_isLetter_29 : Cond.fieldLink RX4 29 "WindPost" "now" "LWindPost$Moment;" ∈ wsX4_isLetter := by decide +kernel
set_option maxRecDepth 20000 in
theorem kX4_isLetter_134 : Cond.fieldLink RX4 134 "WindPost$Moment" "letters" "I" ∈ wsX4_isLetter := by decide +kernel
set_option maxRecDepth 20000 in
theorem uX4_isLetter_X2 : ∀ w ∈ wsX20, w ∈ wsX4_isLetter := by decide +kernel
set_option maxRecDepth 20000 in
theorem uX4_isLetter_X4 : ∀ w ∈ wsX40, w ∈ wsX4_isLetter := by decide +kernel
set_option maxHeartbeats 8000000 in
set_option maxRecDepth 100000 in
theorem mX4_isLetter (l : Launch) (D : va_G) (ki : Nat → ClassId) (ad : Nat → Nat) (cs : List Nat) (hcs : kW cs) (N : Nat) (a1 : Int32) (G : zMem) (tr : Int64) : gMetI l D ki ad cs yX4_isLetter wsX4_isLetter { frames := 1, cells := 0, slots := 0, locals := 22 } [.ref (ad 0), .int a1] (xE ki ad) G tr (fX4_isLetter N a1 G tr) := by
  refine gMetI_of (cc := cX4_isLetter) (maxL := 2) (ret := (some .boolean)) (own := RX4) (by decide +kernel) rfl rfl (Nat.le_of_ble_eq_true rfl) ?_
  intro r9 G9 tr9 h p e s m below meth c S hr hlk K X ls hl
  have hl : lv_has ls 2 [(0, .ref (ad 0)), (1, .int a1)] := hl
  unfold fX4_isLetter at h
  obtain ⟨H, hH⟩ : ∃ H, H = s.heap := ⟨_, rfl⟩
  obtain ⟨locs, hlo⟩ : ∃ locs : List Loc, locs = [] := ⟨_, rfl⟩
  have X : gS D cs ad ((xE ki ad) G tr) (gA cs ad s.heap.size) s H locs := by rw [hH, hlo]; exact X
  suffices z : W p l e (headSpec wsX4_isLetter { frames := 1, cells := 0, slots := 0, locals := 22 }).room s m ([.ref (ad 0), .int a1] : List Value).toArray below meth c H locs 0 0 (zQI below ([.ref (ad 0), .int a1] : List Value).toArray s D cs ad ((xE ki ad) G9 tr9) r9) (F0 m 0 ls []) by rw [hH, hlo] at z; exact z
  clear hH hlo
  refine lv_iload_n S.1 S.2.1 dX4_isLetter_0 rfl (lv_at hl 1 rfl) ?_
  refine lv_iconst (v := (0 : Int32)) S.1 S.2.1 dX4_isLetter_1 (by decide) ?_
  refine lv_aload_n S.1 S.2.1 dX4_isLetter_2 rfl (lv_at hl 0 rfl) ?_
  refine zr_get (v := .ref (ad 18)) S K X (hcs 0 (by decide)) xE_W rfl uX4_isLetter_X4 3 (by decide) kX4_isLetter_29 rfl rfl dX4_isLetter_3 ?_
  refine zr_get (v := .int (G 18 1)) S K X ((kM_now hcs).2 0 (by decide)) (xE_M (kM_now hcs)) rfl uX4_isLetter_X2 1 (by decide) kX4_isLetter_134 rfl rfl dX4_isLetter_6 ?_
  refine lv_iconst (v := (1 : Int32)) S.1 S.2.1 dX4_isLetter_9 (by decide) ?_
  refine lv_isub S.1 S.2.1 dX4_isLetter_10 ?_
  obtain ⟨r_2, hf_1, h⟩ := zbp_some h
  refine zr_calli (Eg := (xE ki ad)) (G' := G) (tr' := tr) K X (va_runS (As := [.int a1, .int (0 : Int32), .int ((G 18 1) - (1 : Int32))]) (rest := []) S (mX4_isWithin l D ki ad cs N a1 (0 : Int32) ((G 18 1) - (1 : Int32)) (xE ki ad) G tr H.size _ _ _ (zpu_of hf_1)) (va_cwS 3 S.2.2.2.2 gX4_isLetter_X4_isWithin rfl rfl rfl (by decide +kernel) ⟨Nat.le_of_ble_eq_true rfl, Nat.le_of_ble_eq_true rfl⟩) (zr_pre K X) rfl rfl hl.1 rfl (lv_room (Nat.le_of_ble_eq_true rfl)) dX4_isLetter_11 ⟨Nat.zero_le _, Nat.zero_le _⟩) (fun H locs X => ?_)
  exact zr_zret S hr hlk X h dX4_isLetter_14
set_option maxRecDepth 20000 in
theorem ggX4_letter_X4_isLetter : GoodIn wsX4_letter wsX4_isLetter := goodIn_r _ [13, 1, 14, 15, 16, 12, 17, 18, 19, 20, 21, 22, 23, 24, 25, 26, 27, 28, 29, 30, 31, 32, 33, 34, 35] (by decide +kernel) (by decide +kernel)
set_option maxRecDepth 20000 in
theorem gX4_letter_X4_isLetter : GoodIn wsX4_letter (wsV RX4 109 RX4 yX4_isLetter wsX4_isLetter) := goodIn_app (goodIn_of _ (by decide +kernel)) ggX4_letter_X4_isLetter
theorem dX4_letter_0 : decode cX4_letter 0 = .ok (.aload_n 0, 1) := by decide +kernel
theorem dX4_letter_1 : decode cX4_letter 1 = .ok (.iload_n 1, 1) := by decide +kernel
theorem dX4_letter_2 : decode cX4_letter 2 = .ok (.invokevirtual 109, 3) := by decide +kernel
theorem dX4_letter_5 : decode cX4_letter 5 = .ok (.ifCond .ne 5, 3) := by decide +kernel
theorem dX4_letter_8 : decode cX4_letter 8 = .ok (.iconst (-1), 1) := by decide +kernel
theorem dX4_letter_9 : decode cX4_letter 9 = .ok (.ireturn, 1) := by decide +kernel
theorem dX4_letter_10 : decode cX4_letter 10 = .ok (.aload_n 0, 1) := by decide +kernel
theorem dX4_letter_11 : decode cX4_letter 11 = .ok (.getfield 29, 3) := by decide +kernel
theorem dX4_letter_14 : decode cX4_letter 14 = .ok (.getfield 112, 3) := by decide +kernel
theorem dX4_letter_17 : decode cX4_letter 17 = .ok (.iload_n 1, 1) := by decide +kernel
theorem dX4_letter_18 : decode cX4_letter 18 = .ok (.aaload, 1) := by decide +kernel
theorem dX4_letter_19 : decode cX4_letter 19 = .ok (.astore_n 3, 1) := by decide +kernel
theorem dX4_letter_20 : decode cX4_letter 20 = .ok (.iload_n 2, 1) := by decide +kernel
theorem dX4_letter_21 : decode cX4_letter 21 = .ok (.tableswitch 69 0 5 #[39, 44, 49, 54, 59, 64], 39) := by decide +kernel
theorem dX4_letter_60 : decode cX4_letter 60 = .ok (.aload_n 3, 1) := by decide +kernel
theorem dX4_letter_61 : decode cX4_letter 61 = .ok (.getfield 116, 3) := by decide +kernel
theorem dX4_letter_64 : decode cX4_letter 64 = .ok (.ireturn, 1) := by decide +kernel
theorem dX4_letter_65 : decode cX4_letter 65 = .ok (.aload_n 3, 1) := by decide +kernel
theorem dX4_letter_66 : decode cX4_letter 66 = .ok (.getfield 119, 3) := by decide +kernel
theorem dX4_letter_69 : decode cX4_letter 69 = .ok (.ireturn, 1) := by decide +kernel
theorem dX4_letter_70 : decode cX4_letter 70 = .ok (.aload_n 3, 1) := by decide +kernel
theorem dX4_letter_71 : decode cX4_letter 71 = .ok (.getfield 122, 3) := by decide +kernel
theorem dX4_letter_74 : decode cX4_letter 74 = .ok (.ireturn, 1) := by decide +kernel
theorem dX4_letter_75 : decode cX4_letter 75 = .ok (.aload_n 3, 1) := by decide +kernel
theorem dX4_letter_76 : decode cX4_letter 76 = .ok (.getfield 125, 3) := by decide +kernel
theorem dX4_letter_79 : decode cX4_letter 79 = .ok (.ireturn, 1) := by decide +kernel
theorem dX4_letter_80 : decode cX4_letter 80 = .ok (.aload_n 3, 1) := by decide +kernel
theorem dX4_letter_81 : decode cX4_letter 81 = .ok (.getfield 128, 3) := by decide +kernel
theorem dX4_letter_84 : decode cX4_letter 84 = .ok (.ireturn, 1) := by decide +kernel
theorem dX4_letter_85 : decode cX4_letter 85 = .ok (.aload_n 3, 1) := by decide +kernel
theorem dX4_letter_86 : decode cX4_letter 86 = .ok (.getfield 131, 3) := by decide +kernel
theorem dX4_letter_89 : decode cX4_letter 89 = .ok (.ireturn, 1) := by decide +kernel
theorem dX4_letter_90 : decode cX4_letter 90 = .ok (.iconst (-1), 1) := by decide +kernel
theorem dX4_letter_91 : decode cX4_letter 91 = .ok (.ireturn, 1) := by decide +kernel
set_option maxRecDepth 20000 in
theorem kX4_letter_29 : Cond.fieldLink RX4 29 "WindPost" "now" "LWindPost$Moment;" ∈ wsX4_letter := by decide +kernel
set_option maxRecDepth 20000 in
theorem kX4_letter_112 : Cond.fieldLink RX4 112 "WindPost$Moment" "post" "[LWindPost$Letter;" ∈ wsX4_letter := by decide +kernel
set_option maxRecDepth 20000 in
theorem kX4_letter_116 : Cond.fieldLink RX4 116 "WindPost$Letter" "weight" "I" ∈ wsX4_letter := by decide +kernel
set_option maxRecDepth 20000 in
theorem kX4_letter_119 : Cond.fieldLink RX4 119 "WindPost$Letter" "from" "I" ∈ wsX4_letter := by decide +kernel
set_option maxRecDepth 20000 in
theorem kX4_letter_122 : Cond.fieldLink RX4 122 "WindPost$Letter" "to" "I" ∈ wsX4_letter := by decide +kernel
set_option maxRecDepth 20000 in
theorem kX4_letter_125 : Cond.fieldLink RX4 125 "WindPost$Letter" "place" "I" ∈ wsX4_letter := by decide +kernel
set_option maxRecDepth 20000 in
theorem kX4_letter_128 : Cond.fieldLink RX4 128 "WindPost$Letter" "marks" "I" ∈ wsX4_letter := by decide +kernel
set_option maxRecDepth 20000 in
theorem kX4_letter_131 : Cond.fieldLink RX4 131 "WindPost$Letter" "how" "I" ∈ wsX4_letter := by decide +kernel
set_option maxRecDepth 20000 in
theorem uX4_letter_X1 : ∀ w ∈ wsX10, w ∈ wsX4_letter := by decide +kernel
set_option maxRecDepth 20000 in
theorem uX4_letter_X2 : ∀ w ∈ wsX20, w ∈ wsX4_letter := by decide +kernel
set_option maxRecDepth 20000 in
theorem uX4_letter_X4 : ∀ w ∈ wsX40, w ∈ wsX4_letter := by decide +kernel
set_option maxHeartbeats 8000000 in
set_option maxRecDepth 100000 in
theorem mX4_letter (l : Launch) (D : va_G) (ki : Nat → ClassId) (ad : Nat → Nat) (cs : List Nat) (hcs : kW cs) (N : Nat) (a1 : Int32) (a2 : Int32) (G : zMem) (tr : Int64) : gMetI l D ki ad cs yX4_letter wsX4_letter { frames := 2, cells := 0, slots := 0, locals := 43 } [.ref (ad 0), .int a1, .int a2] (xE ki ad) G tr (fX4_letter N a1 a2 G tr) := by
  refine gMetI_of (cc := cX4_letter) (maxL := 4) (ret := (some .int)) (own := RX4) (by decide +kernel) rfl rfl (Nat.le_of_ble_eq_true rfl) ?_
  intro r9 G9 tr9 h p e s m below meth c S hr hlk K X ls hl
  have hl : lv_has ls 4 [(0, .ref (ad 0)), (1, .int a1), (2, .int a2)] := hl
  unfold fX4_letter at h
  obtain ⟨H, hH⟩ : ∃ H, H = s.heap := ⟨_, rfl⟩
  obtain ⟨locs, hlo⟩ : ∃ locs : List Loc, locs = [] := ⟨_, rfl⟩
  have X : gS D cs ad ((xE ki ad) G tr) (gA cs ad s.heap.size) s H locs := by rw [hH, hlo]; exact X
  suffices z : W p l e (headSpec wsX4_letter { frames := 2, cells := 0, slots := 0, locals := 43 }).room s m ([.ref (ad 0), .int a1, .int a2] : List Value).toArray below meth c H locs 0 0 (zQI below ([.ref (ad 0), .int a1, .int a2] : List Value).toArray s D cs ad ((xE ki ad) G9 tr9) r9) (F0 m 0 ls []) by rw [hH, hlo] at z; exact z
  clear hH hlo
  refine lv_aload_n S.1 S.2.1 dX4_letter_0 rfl (lv_at hl 0 rfl) ?_
  refine lv_iload_n S.1 S.2.1 dX4_letter_1 rfl (lv_at hl 1 rfl) ?_
  obtain ⟨r_2, G_3, tr_4, hf_1, h⟩ := zbd_some h
  refine zr_calli (Eg := (xE ki ad)) K X (va_runV (As := [.int a1]) (rest := []) S (mX4_isLetter l D ki ad cs hcs N a1 G tr H.size _ _ _ hf_1) (cwV 1 S.2.2.2.2 gX4_letter_X4_isLetter rfl rfl rfl (by decide +kernel) ⟨Nat.le_of_ble_eq_true rfl, Nat.le_of_ble_eq_true rfl⟩) (zr_preV (c0 := 0) K X (hcs 0 (by decide)) xE_W rfl) rfl rfl hl.1 rfl (lv_room (Nat.le_of_ble_eq_true rfl)) dX4_letter_2 ⟨Nat.zero_le _, Nat.zero_le _⟩) (fun H locs X => ?_)
  refine lv_if_ne (tgt := 10) S.1 S.2.1 dX4_letter_5 (by decide) (fun hc_5 => ?_) (fun hc_5 => ?_)
  · have h := zif_neg hc_5 h
    refine lv_aload_n S.1 S.2.1 dX4_letter_10 rfl (lv_at hl 0 rfl) ?_
    refine zr_get (v := .ref (ad 18)) S K X (hcs 0 (by decide)) xE_W rfl uX4_letter_X4 3 (by decide) kX4_letter_29 rfl rfl dX4_letter_11 ?_
    refine zr_get (v := .ref (ad 20)) S K X ((kM_now hcs).2 0 (by decide)) (xE_M (kM_now hcs)) rfl uX4_letter_X2 5 (by decide) kX4_letter_112 rfl rfl dX4_letter_14 ?_
    refine lv_iload_n S.1 S.2.1 dX4_letter_17 rfl (lv_at hl 1 rfl) ?_
    obtain ⟨hi_6, h⟩ := zin_some h
    refine zr_aald (f := (fun j => 21 + j)) (t0 := 2) (C := "WindPost$Letter") S K X ((kM_now hcs).2 2 (by decide)) (xE_M2 (kM_now hcs)) rfl hi_6 dX4_letter_18 ?_
    refine lv_astore_n (lv' := [(3, .ref (ad (21 + (Int32.toNatClampNeg a1)))), (0, .ref (ad 0)), (1, .int a1), (2, .int a2)]) S.1 S.2.1 dX4_letter_19 rfl hl (by decide) rfl (fun ls hl => ?_)
    refine lv_iload_n S.1 S.2.1 dX4_letter_20 rfl (lv_at hl 3 rfl) ?_
    by_cases hc_7 : a2 = 0
    · have h := zif_pos hc_7 h
      refine zr_swIn (off := 39) (tgt := 60) S hc_7 dX4_letter_21 (by decide) ?_
      refine lv_aload_n S.1 S.2.1 dX4_letter_60 rfl (lv_at hl 0 rfl) ?_
      refine zr_get (v := .int (G_3 (21 + (Int32.toNatClampNeg a1)) 0)) S K X (kL_now hcs hi_6).2 (xE_L (kL_now hcs hi_6)) rfl uX4_letter_X1 0 (by decide) kX4_letter_116 rfl rfl dX4_letter_61 ?_
      exact zr_iret S hr hlk X h dX4_letter_64
    have h := zif_neg hc_7 h
    by_cases hc_8 : a2 = 1
    · have h := zif_pos hc_8 h
      refine zr_swIn (off := 44) (tgt := 65) S hc_8 dX4_letter_21 (by decide) ?_
      refine lv_aload_n S.1 S.2.1 dX4_letter_65 rfl (lv_at hl 0 rfl) ?_
      refine zr_get (v := .int (G_3 (21 + (Int32.toNatClampNeg a1)) 1)) S K X (kL_now hcs hi_6).2 (xE_L (kL_now hcs hi_6)) rfl uX4_letter_X1 1 (by decide) kX4_letter_119 rfl rfl dX4_letter_66 ?_
      exact zr_iret S hr hlk X h dX4_letter_69
    have h := zif_neg hc_8 h
    by_cases hc_9 : a2 = 2
    · have h := zif_pos hc_9 h
      refine zr_swIn (off := 49) (tgt := 70) S hc_9 dX4_letter_21 (by decide) ?_
      refine lv_aload_n S.1 S.2.1 dX4_letter_70 rfl (lv_at hl 0 rfl) ?_
      refine zr_get (v := .int (G_3 (21 + (Int32.toNatClampNeg a1)) 2)) S K X (kL_now hcs hi_6).2 (xE_L (kL_now hcs hi_6)) rfl uX4_letter_X1 2 (by decide) kX4_letter_122 rfl rfl dX4_letter_71 ?_
      exact zr_iret S hr hlk X h dX4_letter_74
    have h := zif_neg hc_9 h
    by_cases hc_10 : a2 = 3
    · have h := zif_pos hc_10 h
      refine zr_swIn (off := 54) (tgt := 75) S hc_10 dX4_letter_21 (by decide) ?_
      refine lv_aload_n S.1 S.2.1 dX4_letter_75 rfl (lv_at hl 0 rfl) ?_
      refine zr_get (v := .int (G_3 (21 + (Int32.toNatClampNeg a1)) 3)) S K X (kL_now hcs hi_6).2 (xE_L (kL_now hcs hi_6)) rfl uX4_letter_X1 3 (by decide) kX4_letter_125 rfl rfl dX4_letter_76 ?_
      exact zr_iret S hr hlk X h dX4_letter_79
    have h := zif_neg hc_10 h
    by_cases hc_11 : a2 = 4
    · have h := zif_pos hc_11 h
      refine zr_swIn (off := 59) (tgt := 80) S hc_11 dX4_letter_21 (by decide) ?_
      refine lv_aload_n S.1 S.2.1 dX4_letter_80 rfl (lv_at hl 0 rfl) ?_
      refine zr_get (v := .int (G_3 (21 + (Int32.toNatClampNeg a1)) 4)) S K X (kL_now hcs hi_6).2 (xE_L (kL_now hcs hi_6)) rfl uX4_letter_X1 4 (by decide) kX4_letter_128 rfl rfl dX4_letter_81 ?_
      exact zr_iret S hr hlk X h dX4_letter_84
    have h := zif_neg hc_11 h
    by_cases hc_12 : a2 = 5
    · have h := zif_pos hc_12 h
      refine zr_swIn (off := 64) (tgt := 85) S hc_12 dX4_letter_21 (by decide) ?_
      refine lv_aload_n S.1 S.2.1 dX4_letter_85 rfl (lv_at hl 0 rfl) ?_
      refine zr_get (v := .int (G_3 (21 + (Int32.toNatClampNeg a1)) 5)) S K X (kL_now hcs hi_6).2 (xE_L (kL_now hcs hi_6)) rfl uX4_letter_X1 5 (by decide) kX4_letter_131 rfl rfl dX4_letter_86 ?_
      exact zr_iret S hr hlk X h dX4_letter_89
    have h := zif_neg hc_12 h
    refine lv_tableOut (tgt := 90) S.1 S.2.1 dX4_letter_21 (by
        have e0 := ztoInt_ne hc_7
        rw [show ((0 : Int32)).toInt = 0 from rfl] at e0
        have e1 := ztoInt_ne hc_8
        rw [show ((1 : Int32)).toInt = 1 from rfl] at e1
        have e2 := ztoInt_ne hc_9
        rw [show ((2 : Int32)).toInt = 2 from rfl] at e2
        have e3 := ztoInt_ne hc_10
        rw [show ((3 : Int32)).toInt = 3 from rfl] at e3
        have e4 := ztoInt_ne hc_11
        rw [show ((4 : Int32)).toInt = 4 from rfl] at e4
        have e5 := ztoInt_ne hc_12
        rw [show ((5 : Int32)).toInt = 5 from rfl] at e5
        omega) (by decide) ?_
    refine lv_iconst (v := (-1 : Int32)) S.1 S.2.1 dX4_letter_90 (by decide) ?_
    exact zr_iret S hr hlk X h dX4_letter_91
  · have h := zif_pos hc_5 h
    refine lv_iconst (v := (-1 : Int32)) S.1 S.2.1 dX4_letter_8 (by decide) ?_
    exact zr_iret S hr hlk X h dX4_letter_9
set_option maxRecDepth 20000 in
theorem ggX4_now_X2_lettersUp : GoodIn wsX4_now wsX2_lettersUp := goodIn_r _ [10, 11, 12, 13, 26, 27, 28, 29, 30, 31, 32, 33, 34, 35, 36, 37, 38] (by decide +kernel) (by decide +kernel)
set_option maxRecDepth 20000 in
theorem gX4_now_X2_lettersUp : GoodIn wsX4_now (wsV RX4 137 RX2 yX2_lettersUp wsX2_lettersUp) := goodIn_app (goodIn_of _ (by decide +kernel)) ggX4_now_X2_lettersUp
theorem dX4_now_0 : decode cX4_now 0 = .ok (.iload_n 1, 1) := by decide +kernel
theorem dX4_now_1 : decode cX4_now 1 = .ok (.tableswitch 72 0 4 #[35, 43, 51, 59, 67], 35) := by decide +kernel
theorem dX4_now_36 : decode cX4_now 36 = .ok (.aload_n 0, 1) := by decide +kernel
theorem dX4_now_37 : decode cX4_now 37 = .ok (.getfield 29, 3) := by decide +kernel
theorem dX4_now_40 : decode cX4_now 40 = .ok (.getfield 102, 3) := by decide +kernel
theorem dX4_now_43 : decode cX4_now 43 = .ok (.ireturn, 1) := by decide +kernel
theorem dX4_now_44 : decode cX4_now 44 = .ok (.aload_n 0, 1) := by decide +kernel
theorem dX4_now_45 : decode cX4_now 45 = .ok (.getfield 29, 3) := by decide +kernel
theorem dX4_now_48 : decode cX4_now 48 = .ok (.getfield 134, 3) := by decide +kernel
theorem dX4_now_51 : decode cX4_now 51 = .ok (.ireturn, 1) := by decide +kernel
theorem dX4_now_52 : decode cX4_now 52 = .ok (.aload_n 0, 1) := by decide +kernel
theorem dX4_now_53 : decode cX4_now 53 = .ok (.getfield 29, 3) := by decide +kernel
theorem dX4_now_56 : decode cX4_now 56 = .ok (.invokevirtual 137, 3) := by decide +kernel
theorem dX4_now_59 : decode cX4_now 59 = .ok (.ireturn, 1) := by decide +kernel
theorem dX4_now_60 : decode cX4_now 60 = .ok (.aload_n 0, 1) := by decide +kernel
theorem dX4_now_61 : decode cX4_now 61 = .ok (.getfield 29, 3) := by decide +kernel
theorem dX4_now_64 : decode cX4_now 64 = .ok (.getfield 88, 3) := by decide +kernel
theorem dX4_now_67 : decode cX4_now 67 = .ok (.ireturn, 1) := by decide +kernel
theorem dX4_now_68 : decode cX4_now 68 = .ok (.aload_n 0, 1) := by decide +kernel
theorem dX4_now_69 : decode cX4_now 69 = .ok (.getfield 77, 3) := by decide +kernel
theorem dX4_now_72 : decode cX4_now 72 = .ok (.ireturn, 1) := by decide +kernel
theorem dX4_now_73 : decode cX4_now 73 = .ok (.iconst (-1), 1) := by decide +kernel
theorem dX4_now_74 : decode cX4_now 74 = .ok (.ireturn, 1) := by decide +kernel
set_option maxRecDepth 20000 in
theorem kX4_now_29 : Cond.fieldLink RX4 29 "WindPost" "now" "LWindPost$Moment;" ∈ wsX4_now := by decide +kernel
set_option maxRecDepth 20000 in
theorem kX4_now_77 : Cond.fieldLink RX4 77 "WindPost" "pastKnown" "I" ∈ wsX4_now := by decide +kernel
set_option maxRecDepth 20000 in
theorem kX4_now_88 : Cond.fieldLink RX4 88 "WindPost$Moment" "nets" "I" ∈ wsX4_now := by decide +kernel
set_option maxRecDepth 20000 in
theorem kX4_now_102 : Cond.fieldLink RX4 102 "WindPost$Moment" "time" "I" ∈ wsX4_now := by decide +kernel
set_option maxRecDepth 20000 in
theorem kX4_now_134 : Cond.fieldLink RX4 134 "WindPost$Moment" "letters" "I" ∈ wsX4_now := by decide +kernel
set_option maxRecDepth 20000 in
theorem uX4_now_X2 : ∀ w ∈ wsX20, w ∈ wsX4_now := by decide +kernel
set_option maxRecDepth 20000 in
theorem uX4_now_X4 : ∀ w ∈ wsX40, w ∈ wsX4_now := by decide +kernel
set_option maxHeartbeats 8000000 in
set_option maxRecDepth 100000 in
theorem mX4_now (l : Launch) (D : va_G) (ki : Nat → ClassId) (ad : Nat → Nat) (cs : List Nat) (hcs : kW cs) (N : Nat) (a1 : Int32) (G : zMem) (tr : Int64) : gMetI l D ki ad cs yX4_now wsX4_now { frames := 1, cells := 0, slots := 0, locals := 22 } [.ref (ad 0), .int a1] (xE ki ad) G tr (fX4_now N a1 G tr) := by
  refine gMetI_of (cc := cX4_now) (maxL := 2) (ret := (some .int)) (own := RX4) (by decide +kernel) rfl rfl (Nat.le_of_ble_eq_true rfl) ?_
  intro r9 G9 tr9 h p e s m below meth c S hr hlk K X ls hl
  have hl : lv_has ls 2 [(0, .ref (ad 0)), (1, .int a1)] := hl
  unfold fX4_now at h
  obtain ⟨H, hH⟩ : ∃ H, H = s.heap := ⟨_, rfl⟩
  obtain ⟨locs, hlo⟩ : ∃ locs : List Loc, locs = [] := ⟨_, rfl⟩
  have X : gS D cs ad ((xE ki ad) G tr) (gA cs ad s.heap.size) s H locs := by rw [hH, hlo]; exact X
  suffices z : W p l e (headSpec wsX4_now { frames := 1, cells := 0, slots := 0, locals := 22 }).room s m ([.ref (ad 0), .int a1] : List Value).toArray below meth c H locs 0 0 (zQI below ([.ref (ad 0), .int a1] : List Value).toArray s D cs ad ((xE ki ad) G9 tr9) r9) (F0 m 0 ls []) by rw [hH, hlo] at z; exact z
  clear hH hlo
  refine lv_iload_n S.1 S.2.1 dX4_now_0 rfl (lv_at hl 1 rfl) ?_
  by_cases hc_1 : a1 = 0
  · have h := zif_pos hc_1 h
    refine zr_swIn (off := 35) (tgt := 36) S hc_1 dX4_now_1 (by decide) ?_
    refine lv_aload_n S.1 S.2.1 dX4_now_36 rfl (lv_at hl 0 rfl) ?_
    refine zr_get (v := .ref (ad 18)) S K X (hcs 0 (by decide)) xE_W rfl uX4_now_X4 3 (by decide) kX4_now_29 rfl rfl dX4_now_37 ?_
    refine zr_get (v := .int (G 18 0)) S K X ((kM_now hcs).2 0 (by decide)) (xE_M (kM_now hcs)) rfl uX4_now_X2 0 (by decide) kX4_now_102 rfl rfl dX4_now_40 ?_
    exact zr_iret S hr hlk X h dX4_now_43
  have h := zif_neg hc_1 h
  by_cases hc_2 : a1 = 1
  · have h := zif_pos hc_2 h
    refine zr_swIn (off := 43) (tgt := 44) S hc_2 dX4_now_1 (by decide) ?_
    refine lv_aload_n S.1 S.2.1 dX4_now_44 rfl (lv_at hl 0 rfl) ?_
    refine zr_get (v := .ref (ad 18)) S K X (hcs 0 (by decide)) xE_W rfl uX4_now_X4 3 (by decide) kX4_now_29 rfl rfl dX4_now_45 ?_
    refine zr_get (v := .int (G 18 1)) S K X ((kM_now hcs).2 0 (by decide)) (xE_M (kM_now hcs)) rfl uX4_now_X2 1 (by decide) kX4_now_134 rfl rfl dX4_now_48 ?_
    exact zr_iret S hr hlk X h dX4_now_51
  have h := zif_neg hc_2 h
  by_cases hc_3 : a1 = 2
  · have h := zif_pos hc_3 h
    refine zr_swIn (off := 51) (tgt := 52) S hc_3 dX4_now_1 (by decide) ?_
    refine lv_aload_n S.1 S.2.1 dX4_now_52 rfl (lv_at hl 0 rfl) ?_
    refine zr_get (v := .ref (ad 18)) S K X (hcs 0 (by decide)) xE_W rfl uX4_now_X4 3 (by decide) kX4_now_29 rfl rfl dX4_now_53 ?_
    obtain ⟨r_5, G_6, tr_7, hf_4, h⟩ := zbd_some h
    refine zr_calli (Eg := (xE ki ad)) K X (va_runV (As := []) (rest := []) S (mX2_lettersUp l D ki ad cs hcs N 18 (kM_now hcs) G tr H.size _ _ _ hf_4) (cwV 0 S.2.2.2.2 gX4_now_X2_lettersUp rfl rfl rfl (by decide +kernel) ⟨Nat.le_of_ble_eq_true rfl, Nat.le_of_ble_eq_true rfl⟩) (zr_preV (c0 := 18) K X ((kM_now hcs).2 0 (by decide)) (xE_M (kM_now hcs)) rfl) rfl rfl hl.1 rfl (lv_room (Nat.le_of_ble_eq_true rfl)) dX4_now_56 ⟨Nat.zero_le _, Nat.zero_le _⟩) (fun H locs X => ?_)
    exact zr_iret S hr hlk X h dX4_now_59
  have h := zif_neg hc_3 h
  by_cases hc_8 : a1 = 3
  · have h := zif_pos hc_8 h
    refine zr_swIn (off := 59) (tgt := 60) S hc_8 dX4_now_1 (by decide) ?_
    refine lv_aload_n S.1 S.2.1 dX4_now_60 rfl (lv_at hl 0 rfl) ?_
    refine zr_get (v := .ref (ad 18)) S K X (hcs 0 (by decide)) xE_W rfl uX4_now_X4 3 (by decide) kX4_now_29 rfl rfl dX4_now_61 ?_
    refine zr_get (v := .int (G 18 2)) S K X ((kM_now hcs).2 0 (by decide)) (xE_M (kM_now hcs)) rfl uX4_now_X2 2 (by decide) kX4_now_88 rfl rfl dX4_now_64 ?_
    exact zr_iret S hr hlk X h dX4_now_67
  have h := zif_neg hc_8 h
  by_cases hc_9 : a1 = 4
  · have h := zif_pos hc_9 h
    refine zr_swIn (off := 67) (tgt := 68) S hc_9 dX4_now_1 (by decide) ?_
    refine lv_aload_n S.1 S.2.1 dX4_now_68 rfl (lv_at hl 0 rfl) ?_
    refine zr_get (v := .int (G 0 6)) S K X (hcs 0 (by decide)) xE_W rfl uX4_now_X4 6 (by decide) kX4_now_77 rfl rfl dX4_now_69 ?_
    exact zr_iret S hr hlk X h dX4_now_72
  have h := zif_neg hc_9 h
  refine lv_tableOut (tgt := 73) S.1 S.2.1 dX4_now_1 (by
      have e0 := ztoInt_ne hc_1
      rw [show ((0 : Int32)).toInt = 0 from rfl] at e0
      have e1 := ztoInt_ne hc_2
      rw [show ((1 : Int32)).toInt = 1 from rfl] at e1
      have e2 := ztoInt_ne hc_3
      rw [show ((2 : Int32)).toInt = 2 from rfl] at e2
      have e3 := ztoInt_ne hc_8
      rw [show ((3 : Int32)).toInt = 3 from rfl] at e3
      have e4 := ztoInt_ne hc_9
      rw [show ((4 : Int32)).toInt = 4 from rfl] at e4
      omega) (by decide) ?_
  refine lv_iconst (v := (-1 : Int32)) S.1 S.2.1 dX4_now_73 (by decide) ?_
  exact zr_iret S hr hlk X h dX4_now_74
set_option maxRecDepth 20000 in
theorem ggX4_isWay_X4_isIsle : GoodIn wsX4_isWay wsX4_isIsle := goodIn_r _ [5, 6, 7, 8, 9, 4, 10, 11, 12, 13, 14, 15, 16, 17, 18, 19, 20, 21, 22, 23, 24, 25, 26, 27, 28, 29, 30, 31, 32] (by decide +kernel) (by decide +kernel)
set_option maxRecDepth 20000 in
theorem gX4_isWay_X4_isIsle : GoodIn wsX4_isWay (wsV RX4 80 RX4 yX4_isIsle wsX4_isIsle) := goodIn_app (goodIn_of _ (by decide +kernel)) ggX4_isWay_X4_isIsle
theorem dX4_isWay_0 : decode cX4_isWay 0 = .ok (.aload_n 0, 1) := by decide +kernel
theorem dX4_isWay_1 : decode cX4_isWay 1 = .ok (.iload_n 1, 1) := by decide +kernel
theorem dX4_isWay_2 : decode cX4_isWay 2 = .ok (.invokevirtual 80, 3) := by decide +kernel
theorem dX4_isWay_5 : decode cX4_isWay 5 = .ok (.ifCond .eq 20, 3) := by decide +kernel
theorem dX4_isWay_8 : decode cX4_isWay 8 = .ok (.aload_n 0, 1) := by decide +kernel
theorem dX4_isWay_9 : decode cX4_isWay 9 = .ok (.iload_n 2, 1) := by decide +kernel
theorem dX4_isWay_10 : decode cX4_isWay 10 = .ok (.invokevirtual 80, 3) := by decide +kernel
theorem dX4_isWay_13 : decode cX4_isWay 13 = .ok (.ifCond .eq 12, 3) := by decide +kernel
theorem dX4_isWay_16 : decode cX4_isWay 16 = .ok (.iload_n 1, 1) := by decide +kernel
theorem dX4_isWay_17 : decode cX4_isWay 17 = .ok (.iload_n 2, 1) := by decide +kernel
theorem dX4_isWay_18 : decode cX4_isWay 18 = .ok (.if_icmp .eq 7, 3) := by decide +kernel
theorem dX4_isWay_21 : decode cX4_isWay 21 = .ok (.iconst 1, 1) := by decide +kernel
theorem dX4_isWay_22 : decode cX4_isWay 22 = .ok (.goto 4, 3) := by decide +kernel
theorem dX4_isWay_25 : decode cX4_isWay 25 = .ok (.iconst 0, 1) := by decide +kernel
theorem dX4_isWay_26 : decode cX4_isWay 26 = .ok (.ireturn, 1) := by decide +kernel

set_option maxHeartbeats 8000000 in
set_option maxRecDepth 100000 in
theorem mX4_isWay (l : Launch) (D : va_G) (ki : Nat → ClassId) (ad : Nat → Nat) (cs : List Nat) (hcs : kW cs) (N : Nat) (a1 : Int32) (a2 : Int32) (G : zMem) (tr : Int64) : gMetI l D ki ad cs yX4_isWay wsX4_isWay { frames := 2, cells := 0, slots := 0, locals := 43 } [.ref (ad 0), .int a1, .int a2] (xE ki ad) G tr (fX4_isWay N a1 a2 G tr) := by
  refine gMetI_of (cc := cX4_isWay) (maxL := 3) (ret := (some .boolean)) (own := RX4) (by decide +kernel) rfl rfl (Nat.le_of_ble_eq_true rfl) ?_
  intro r9 G9 tr9 h p e s m below meth c S hr hlk K X ls hl
  have hl : lv_has ls 3 [(0, .ref (ad 0)), (1, .int a1), (2, .int a2)] := hl
  unfold fX4_isWay at h
  obtain ⟨H, hH⟩ : ∃ H, H = s.heap := ⟨_, rfl⟩
  obtain ⟨locs, hlo⟩ : ∃ locs : List Loc, locs = [] := ⟨_, rfl⟩
  have X : gS D cs ad ((xE ki ad) G tr) (gA cs ad s.heap.size) s H locs := by rw [hH, hlo]; exact X
  suffices z : W p l e (headSpec wsX4_isWay { frames := 2, cells := 0, slots := 0, locals := 43 }).room s m ([.ref (ad 0), .int a1, .int a2] : List Value).toArray below meth c H locs 0 0 (zQI below ([.ref (ad 0), .int a1, .int a2] : List Value).toArray s D cs ad ((xE ki ad) G9 tr9) r9) (F0 m 0 ls []) by rw [hH, hlo] at z; exact z
  clear hH hlo
  refine lv_aload_n S.1 S.2.1 dX4_isWay_0 rfl (lv_at hl 0 rfl) ?_
  refine lv_iload_n S.1 S.2.1 dX4_isWay_1 rfl (lv_at hl 1 rfl) ?_
  obtain ⟨r_2, G_3, tr_4, hf_1, h⟩ := zbd_some h
  refine zr_calli (Eg := (xE ki ad)) K X (va_runV (As := [.int a1]) (rest := []) S (mX4_isIsle l D ki ad cs hcs N a1 G tr H.size _ _ _ hf_1) (cwV 1 S.2.2.2.2 gX4_isWay_X4_isIsle rfl rfl rfl (by decide +kernel) ⟨Nat.le_of_ble_eq_true rfl, Nat.le_of_ble_eq_true rfl⟩) (zr_preV (c0 := 0) K X (hcs 0 (by decide)) xE_W rfl) rfl rfl hl.1 rfl (lv_room (Nat.le_of_ble_eq_true rfl)) dX4_isWay_2 ⟨Nat.zero_le _, Nat.zero_le _⟩) (fun H locs X => ?_)
  refine lv_if_eq (tgt := 25) S.1 S.2.1 dX4_isWay_5 (by decide) (fun hc_5 => ?_) (fun hc_5 => ?_)
  · have h := zif_pos hc_5 h
    refine lv_iconst (v := (0 : Int32)) S.1 S.2.1 dX4_isWay_25 (by decide) ?_
    exact zr_zret S hr hlk X h dX4_isWay_26
  · have h := zif_neg hc_5 h
    refine lv_aload_n S.1 S.2.1 dX4_isWay_8 rfl (lv_at hl 0 rfl) ?_
    refine lv_iload_n S.1 S.2.1 dX4_isWay_9 rfl (lv_at hl 2 rfl) ?_
    obtain ⟨r_7, G_8, tr_9, hf_6, h⟩ := zbd_some h
    refine zr_calli (Eg := (xE ki ad)) K X (va_runV (As := [.int a2]) (rest := []) S (mX4_isIsle l D ki ad cs hcs N a2 G_3 tr_4 H.size _ _ _ hf_6) (cwV 1 S.2.2.2.2 gX4_isWay_X4_isIsle rfl rfl rfl (by decide +kernel) ⟨Nat.le_of_ble_eq_true rfl, Nat.le_of_ble_eq_true rfl⟩) (zr_preV (c0 := 0) K X (hcs 0 (by decide)) xE_W rfl) rfl rfl hl.1 rfl (lv_room (Nat.le_of_ble_eq_true rfl)) dX4_isWay_10 ⟨Nat.zero_le _, Nat.zero_le _⟩) (fun H locs X => ?_)
    refine lv_if_eq (tgt := 25) S.1 S.2.1 dX4_isWay_13 (by decide) (fun hc_10 => ?_) (fun hc_10 => ?_)
    · have h := zif_pos hc_10 h
      refine lv_iconst (v := (0 : Int32)) S.1 S.2.1 dX4_isWay_25 (by decide) ?_
      exact zr_zret S hr hlk X h dX4_isWay_26
    · have h := zif_neg hc_10 h
      refine lv_iload_n S.1 S.2.1 dX4_isWay_16 rfl (lv_at hl 1 rfl) ?_
      refine lv_iload_n S.1 S.2.1 dX4_isWay_17 rfl (lv_at hl 2 rfl) ?_
      refine lv_icmp_eq (tgt := 25) S.1 S.2.1 dX4_isWay_18 (by decide) (fun hc_11 => ?_) (fun hc_11 => ?_)
      · have h := zif_pos hc_11 h
        refine lv_iconst (v := (0 : Int32)) S.1 S.2.1 dX4_isWay_25 (by decide) ?_
        exact zr_zret S hr hlk X h dX4_isWay_26
      · have h := zif_neg hc_11 h
        refine lv_iconst (v := (1 : Int32)) S.1 S.2.1 dX4_isWay_21 (by decide) ?_
        refine lv_goto (tgt := 26) S.1 S.2.1 dX4_isWay_22 (by decide) ?_
        exact zr_zret S hr hlk X h dX4_isWay_26
set_option maxRecDepth 20000 in
theorem ggX4_remember_X2_copyFrom : GoodIn wsX4_remember wsX2_copyFrom := goodIn_r _ [13, 14, 15, 16, 17, 18, 19, 20, 21, 22, 23, 24, 25, 26, 27, 28, 29, 30, 31, 44, 45, 46, 47, 48, 49, 50, 51, 52, 53, 54, 55, 56] (by decide +kernel) (by decide +kernel)
set_option maxRecDepth 20000 in
theorem gX4_remember_X2_copyFrom : GoodIn wsX4_remember (wsV RX4 167 RX2 yX2_copyFrom wsX2_copyFrom) := goodIn_app (goodIn_of _ (by decide +kernel)) ggX4_remember_X2_copyFrom
theorem dX4_remember_0 : decode cX4_remember 0 = .ok (.aload_n 0, 1) := by decide +kernel
theorem dX4_remember_1 : decode cX4_remember 1 = .ok (.getfield 33, 3) := by decide +kernel
theorem dX4_remember_4 : decode cX4_remember 4 = .ok (.aload_n 0, 1) := by decide +kernel
theorem dX4_remember_5 : decode cX4_remember 5 = .ok (.getfield 164, 3) := by decide +kernel
theorem dX4_remember_8 : decode cX4_remember 8 = .ok (.aaload, 1) := by decide +kernel
theorem dX4_remember_9 : decode cX4_remember 9 = .ok (.aload_n 0, 1) := by decide +kernel
theorem dX4_remember_10 : decode cX4_remember 10 = .ok (.getfield 29, 3) := by decide +kernel
theorem dX4_remember_13 : decode cX4_remember 13 = .ok (.invokevirtual 167, 3) := by decide +kernel
theorem dX4_remember_16 : decode cX4_remember 16 = .ok (.aload_n 0, 1) := by decide +kernel
theorem dX4_remember_17 : decode cX4_remember 17 = .ok (.aload_n 0, 1) := by decide +kernel
theorem dX4_remember_18 : decode cX4_remember 18 = .ok (.getfield 164, 3) := by decide +kernel
theorem dX4_remember_21 : decode cX4_remember 21 = .ok (.bipush 9, 2) := by decide +kernel
theorem dX4_remember_23 : decode cX4_remember 23 = .ok (.if_icmp .ge 12, 3) := by decide +kernel
theorem dX4_remember_26 : decode cX4_remember 26 = .ok (.aload_n 0, 1) := by decide +kernel
theorem dX4_remember_27 : decode cX4_remember 27 = .ok (.getfield 164, 3) := by decide +kernel
theorem dX4_remember_30 : decode cX4_remember 30 = .ok (.iconst 1, 1) := by decide +kernel
theorem dX4_remember_31 : decode cX4_remember 31 = .ok (.iadd, 1) := by decide +kernel
theorem dX4_remember_32 : decode cX4_remember 32 = .ok (.goto 4, 3) := by decide +kernel
theorem dX4_remember_35 : decode cX4_remember 35 = .ok (.iconst 0, 1) := by decide +kernel
theorem dX4_remember_36 : decode cX4_remember 36 = .ok (.putfield 164, 3) := by decide +kernel
theorem dX4_remember_39 : decode cX4_remember 39 = .ok (.aload_n 0, 1) := by decide +kernel
theorem dX4_remember_40 : decode cX4_remember 40 = .ok (.aload_n 0, 1) := by decide +kernel
theorem dX4_remember_41 : decode cX4_remember 41 = .ok (.getfield 77, 3) := by decide +kernel
theorem dX4_remember_44 : decode cX4_remember 44 = .ok (.iconst 1, 1) := by decide +kernel
theorem dX4_remember_45 : decode cX4_remember 45 = .ok (.iadd, 1) := by decide +kernel
theorem dX4_remember_46 : decode cX4_remember 46 = .ok (.bipush 10, 2) := by decide +kernel
theorem dX4_remember_48 : decode cX4_remember 48 = .ok (.invokestatic 254, 3) := by decide +kernel
theorem dX4_remember_51 : decode cX4_remember 51 = .ok (.putfield 77, 3) := by decide +kernel
theorem dX4_remember_54 : decode cX4_remember 54 = .ok (.return_, 1) := by decide +kernel
set_option maxRecDepth 20000 in
theorem kX4_remember_29 : Cond.fieldLink RX4 29 "WindPost" "now" "LWindPost$Moment;" ∈ wsX4_remember := by decide +kernel
set_option maxRecDepth 20000 in
theorem kX4_remember_33 : Cond.fieldLink RX4 33 "WindPost" "past" "[LWindPost$Moment;" ∈ wsX4_remember := by decide +kernel
set_option maxRecDepth 20000 in
theorem kX4_remember_77 : Cond.fieldLink RX4 77 "WindPost" "pastKnown" "I" ∈ wsX4_remember := by decide +kernel
set_option maxRecDepth 20000 in
theorem kX4_remember_164 : Cond.fieldLink RX4 164 "WindPost" "pastNext" "I" ∈ wsX4_remember := by decide +kernel
set_option maxRecDepth 20000 in
theorem uX4_remember_X4 : ∀ w ∈ wsX40, w ∈ wsX4_remember := by decide +kernel
set_option maxRecDepth 20000 in
theorem jX4_remember_min_l : Cond.methodLink RX4 254 Lib.Math.min.name ∈ wsX4_remember := by decide +kernel
set_option maxRecDepth 20000 in
theorem jX4_remember_min_s : Cond.static Lib.Math.min.name ∈ wsX4_remember := by decide +kernel
set_option maxRecDepth 20000 in
theorem jX4_remember_min_i : Cond.initialized "java/lang/Math" ∈ wsX4_remember := by decide +kernel
set_option maxRecDepth 20000 in
theorem jX4_remember_min_c : Cond.code Lib.Math.min.name Lib.Math.min.code 2 (some .int) ∈ wsX4_remember := by decide +kernel
set_option maxHeartbeats 8000000 in
set_option maxRecDepth 100000 in
theorem mX4_remember (l : Launch) (D : va_G) (ki : Nat → ClassId) (ad : Nat → Nat) (cs : List Nat) (hcs : kW cs) (N : Nat) (G : zMem) (tr : Int64) : gMetV l D ki ad cs yX4_remember wsX4_remember { frames := 2, cells := 0, slots := 0, locals := 43 } [.ref (ad 0)] (xE ki ad) G tr (fX4_remember N G tr) := by
  refine gMetV_of (cc := cX4_remember) (maxL := 1) (ret := none) (own := RX4) (by decide +kernel) rfl rfl (Nat.le_of_ble_eq_true rfl) ?_
  intro r9 G9 tr9 h p e s m below meth c S hr hlk K X ls hl
  have hl : lv_has ls 1 [(0, .ref (ad 0))] := hl
  have b36 : ∀ (s0 : Int32) (G : zMem) (tr : Int64), fX4_remember_b36 N s0 G tr = some (r9, G9, tr9) → zAt p l e (headSpec wsX4_remember { frames := 2, cells := 0, slots := 0, locals := 43 }).room s m ([.ref (ad 0)] : List Value).toArray below meth c 1 D cs ad (zQV below ([.ref (ad 0)] : List Value).toArray s D cs ad ((xE ki ad) G9 tr9)) 36 [(0, .ref (ad 0))] [.int s0, .ref (ad 0)] ((xE ki ad) G tr) := by
    intro s0 G tr h H locs ls X hl
    unfold fX4_remember_b36 at h
    refine zr_put (xv := s0) (v := .int s0) (fsf := (fsW ad tr)) (ty := .int) S K X (hcs 0 (by decide)) xE_loc (fun _ => xE_W) rfl uX4_remember_X4 tyX4 tyX4_ok nmX4 5 (by decide) kX4_remember_164 rfl (by decide +kernel) rfl rfl (by simp) rfl dX4_remember_36 (fun H locs X => ?_)
    refine lv_aload_n S.1 S.2.1 dX4_remember_39 rfl (lv_at hl 0 rfl) ?_
    refine lv_aload_n S.1 S.2.1 dX4_remember_40 rfl (lv_at hl 0 rfl) ?_
    refine zr_get (v := .int ((up2 G 0 5 s0) 0 6)) S K X (hcs 0 (by decide)) xE_W rfl uX4_remember_X4 6 (by decide) kX4_remember_77 rfl rfl dX4_remember_41 ?_
    refine lv_iconst (v := (1 : Int32)) S.1 S.2.1 dX4_remember_44 (by decide) ?_
    refine lv_iadd S.1 S.2.1 dX4_remember_45 ?_
    refine lv_bipush (v := (10 : Int32)) S.1 S.2.1 dX4_remember_46 (by decide) ?_
    refine va_mmin S.1 S.2.1 (S.2.2.1.trans hl.1.symm) S.2.2.2.1 (S.2.2.2.2 _ jX4_remember_min_l) (S.2.2.2.2 _ jX4_remember_min_s) (S.2.2.2.2 _ jX4_remember_min_i) (S.2.2.2.2 _ jX4_remember_min_c) (Nat.le_of_ble_eq_true rfl) (Nat.le_of_ble_eq_true rfl) (Nat.zero_le _) (Nat.zero_le _) dX4_remember_48 ?_
    refine zr_put (xv := (if (10 : Int32) < (((up2 G 0 5 s0) 0 6) + (1 : Int32)) then (10 : Int32) else (((up2 G 0 5 s0) 0 6) + (1 : Int32)))) (v := .int (if (10 : Int32) < (((up2 G 0 5 s0) 0 6) + (1 : Int32)) then (10 : Int32) else (((up2 G 0 5 s0) 0 6) + (1 : Int32)))) (fsf := (fsW ad tr)) (ty := .int) S K X (hcs 0 (by decide)) xE_loc (fun _ => xE_W) rfl uX4_remember_X4 tyX4 tyX4_ok nmX4 6 (by decide) kX4_remember_77 rfl (by decide +kernel) rfl rfl (by simp) rfl dX4_remember_51 (fun H locs X => ?_)
    exact zr_vret S hr hlk X h dX4_remember_54
  unfold fX4_remember at h
  obtain ⟨H, hH⟩ : ∃ H, H = s.heap := ⟨_, rfl⟩
  obtain ⟨locs, hlo⟩ : ∃ locs : List Loc, locs = [] := ⟨_, rfl⟩
  have X : gS D cs ad ((xE ki ad) G tr) (gA cs ad s.heap.size) s H locs := by rw [hH, hlo]; exact X
  suffices z : W p l e (headSpec wsX4_remember { frames := 2, cells := 0, slots := 0, locals := 43 }).room s m ([.ref (ad 0)] : List Value).toArray below meth c H locs 0 0 (zQV below ([.ref (ad 0)] : List Value).toArray s D cs ad ((xE ki ad) G9 tr9)) (F0 m 0 ls []) by rw [hH, hlo] at z; exact z
  clear hH hlo
  refine lv_aload_n S.1 S.2.1 dX4_remember_0 rfl (lv_at hl 0 rfl) ?_
  refine zr_get (v := .ref (ad 15)) S K X (hcs 0 (by decide)) xE_W rfl uX4_remember_X4 4 (by decide) kX4_remember_33 rfl rfl dX4_remember_1 ?_
  refine lv_aload_n S.1 S.2.1 dX4_remember_4 rfl (lv_at hl 0 rfl) ?_
  refine zr_get (v := .int (G 0 5)) S K X (hcs 0 (by decide)) xE_W rfl uX4_remember_X4 5 (by decide) kX4_remember_164 rfl rfl dX4_remember_5 ?_
  obtain ⟨hi_1, h⟩ := zin_some h
  refine zr_aald (f := (fun j => 26 + 8 * j)) (t0 := 3) (C := "WindPost$Moment") S K X (hcs 15 (by decide)) xE_15 rfl hi_1 dX4_remember_8 ?_
  refine lv_aload_n S.1 S.2.1 dX4_remember_9 rfl (lv_at hl 0 rfl) ?_
  refine zr_get (v := .ref (ad 18)) S K X (hcs 0 (by decide)) xE_W rfl uX4_remember_X4 3 (by decide) kX4_remember_29 rfl rfl dX4_remember_10 ?_
  obtain ⟨r_3, G_4, tr_5, hf_2, h⟩ := zbd_some h
  refine zr_callv (Eg := (xE ki ad)) K X (va_runV (As := [.ref (ad 18)]) (rest := []) S (mX2_copyFrom l D ki ad cs hcs N (26 + 8 * (Int32.toNatClampNeg (G 0 5))) 18 (kM_past hcs hi_1) (kM_now hcs) G tr H.size _ _ _ hf_2) (cwV 1 S.2.2.2.2 gX4_remember_X2_copyFrom rfl rfl rfl (by decide +kernel) ⟨Nat.le_of_ble_eq_true rfl, Nat.le_of_ble_eq_true rfl⟩) (zr_preV (c0 := (26 + 8 * (Int32.toNatClampNeg (G 0 5)))) K X ((kM_past hcs hi_1).2 0 (by decide)) (xE_M (kM_past hcs hi_1)) rfl) rfl rfl hl.1 rfl (lv_room (Nat.le_of_ble_eq_true rfl)) dX4_remember_13 ⟨Nat.zero_le _, Nat.zero_le _⟩) (fun H locs X => ?_)
  refine lv_aload_n S.1 S.2.1 dX4_remember_16 rfl (lv_at hl 0 rfl) ?_
  refine lv_aload_n S.1 S.2.1 dX4_remember_17 rfl (lv_at hl 0 rfl) ?_
  refine zr_get (v := .int (G_4 0 5)) S K X (hcs 0 (by decide)) xE_W rfl uX4_remember_X4 5 (by decide) kX4_remember_164 rfl rfl dX4_remember_18 ?_
  refine lv_bipush (v := (9 : Int32)) S.1 S.2.1 dX4_remember_21 (by decide) ?_
  refine lv_icmp_ge (tgt := 35) S.1 S.2.1 dX4_remember_23 (by decide) (fun hc_6 => ?_) (fun hc_6 => ?_)
  · have h := zif_pos hc_6 h
    refine lv_iconst (v := (0 : Int32)) S.1 S.2.1 dX4_remember_35 (by decide) ?_
    exact b36 (0 : Int32) G_4 tr_5 h _ _ _ X (lv_sub hl [0] rfl)
  · have h := zif_neg hc_6 h
    refine lv_aload_n S.1 S.2.1 dX4_remember_26 rfl (lv_at hl 0 rfl) ?_
    refine zr_get (v := .int (G_4 0 5)) S K X (hcs 0 (by decide)) xE_W rfl uX4_remember_X4 5 (by decide) kX4_remember_164 rfl rfl dX4_remember_27 ?_
    refine lv_iconst (v := (1 : Int32)) S.1 S.2.1 dX4_remember_30 (by decide) ?_
    refine lv_iadd S.1 S.2.1 dX4_remember_31 ?_
    refine lv_goto (tgt := 36) S.1 S.2.1 dX4_remember_32 (by decide) ?_
    exact b36 ((G_4 0 5) + (1 : Int32)) G_4 tr_5 h _ _ _ X (lv_sub hl [0] rfl)
set_option maxRecDepth 20000 in
theorem ggX4_lets_X4_isWay : GoodIn wsX4_lets wsX4_isWay := goodIn_r _ [9, 10, 11, 12, 8, 13, 4, 14, 15, 16, 17, 66, 67, 68, 69, 70, 71, 72, 73, 74, 75, 76, 77, 84, 85, 86, 87, 88, 89, 90, 91, 92, 93] (by decide +kernel) (by decide +kernel)
set_option maxRecDepth 20000 in
theorem gX4_lets_X4_isWay : GoodIn wsX4_lets (wsV RX4 140 RX4 yX4_isWay wsX4_isWay) := goodIn_app (goodIn_of _ (by decide +kernel)) ggX4_lets_X4_isWay
set_option maxRecDepth 20000 in
theorem ggX4_lets_X4_isWeight : GoodIn wsX4_lets wsX4_isWeight := goodIn_r _ [20, 15, 16, 8, 17] (by decide +kernel) (by decide +kernel)
set_option maxRecDepth 20000 in
theorem gX4_lets_X4_isWeight : GoodIn wsX4_lets (va_wsS RX4 144 yX4_isWeight wsX4_isWeight) := goodIn_app (goodIn_of _ (by decide +kernel)) ggX4_lets_X4_isWeight
set_option maxRecDepth 20000 in
theorem ggX4_lets_X4_remember : GoodIn wsX4_lets wsX4_remember := goodIn_r _ [24, 25, 26, 1, 27, 28, 29, 30, 31, 32, 33, 34, 35, 36, 37, 38, 39, 40, 41, 42, 43, 44, 45, 46, 47, 48, 49, 50, 51, 52, 53, 54, 66, 67, 68, 69, 70, 71, 72, 73, 74, 75, 76, 77, 78, 79, 80, 81, 82, 83, 94, 95, 96, 97, 98, 99, 100] (by decide +kernel) (by decide +kernel)
set_option maxRecDepth 20000 in
theorem gX4_lets_X4_remember : GoodIn wsX4_lets (wsV RX4 147 RX4 yX4_remember wsX4_remember) := goodIn_app (goodIn_of _ (by decide +kernel)) ggX4_lets_X4_remember
set_option maxRecDepth 20000 in
theorem ggX4_lets_X1_letUp : GoodIn wsX4_lets wsX1_letUp := goodIn_r _ [58, 48, 49, 50, 51, 52, 53, 59, 54, 60, 61, 62, 63, 64, 65, 94, 95, 96, 97, 98, 99, 100, 84, 85, 86, 87, 88, 89, 90, 91, 92, 93] (by decide +kernel) (by decide +kernel)
set_option maxRecDepth 20000 in
theorem gX4_lets_X1_letUp : GoodIn wsX4_lets (wsV RX4 150 RX1 yX1_letUp wsX1_letUp) := goodIn_app (goodIn_of _ (by decide +kernel)) ggX4_lets_X1_letUp
theorem dX4_lets_0 : decode cX4_lets 0 = .ok (.aload_n 0, 1) := by decide +kernel
theorem dX4_lets_1 : decode cX4_lets 1 = .ok (.iload_n 1, 1) := by decide +kernel
theorem dX4_lets_2 : decode cX4_lets 2 = .ok (.iload_n 2, 1) := by decide +kernel
theorem dX4_lets_3 : decode cX4_lets 3 = .ok (.invokevirtual 140, 3) := by decide +kernel
theorem dX4_lets_6 : decode cX4_lets 6 = .ok (.ifCond .eq 10, 3) := by decide +kernel
theorem dX4_lets_9 : decode cX4_lets 9 = .ok (.iload_n 3, 1) := by decide +kernel
theorem dX4_lets_10 : decode cX4_lets 10 = .ok (.invokestatic 144, 3) := by decide +kernel
theorem dX4_lets_13 : decode cX4_lets 13 = .ok (.ifCond .ne 5, 3) := by decide +kernel
theorem dX4_lets_16 : decode cX4_lets 16 = .ok (.iconst (-1), 1) := by decide +kernel
theorem dX4_lets_17 : decode cX4_lets 17 = .ok (.ireturn, 1) := by decide +kernel
theorem dX4_lets_18 : decode cX4_lets 18 = .ok (.aload_n 0, 1) := by decide +kernel
theorem dX4_lets_19 : decode cX4_lets 19 = .ok (.getfield 29, 3) := by decide +kernel
theorem dX4_lets_22 : decode cX4_lets 22 = .ok (.getfield 134, 3) := by decide +kernel
theorem dX4_lets_25 : decode cX4_lets 25 = .ok (.iconst 5, 1) := by decide +kernel
theorem dX4_lets_26 : decode cX4_lets 26 = .ok (.if_icmp .lt 6, 3) := by decide +kernel
theorem dX4_lets_29 : decode cX4_lets 29 = .ok (.bipush (-3), 2) := by decide +kernel
theorem dX4_lets_31 : decode cX4_lets 31 = .ok (.ireturn, 1) := by decide +kernel
theorem dX4_lets_32 : decode cX4_lets 32 = .ok (.aload_n 0, 1) := by decide +kernel
theorem dX4_lets_33 : decode cX4_lets 33 = .ok (.invokevirtual 147, 3) := by decide +kernel
theorem dX4_lets_36 : decode cX4_lets 36 = .ok (.aload_n 0, 1) := by decide +kernel
theorem dX4_lets_37 : decode cX4_lets 37 = .ok (.getfield 29, 3) := by decide +kernel
theorem dX4_lets_40 : decode cX4_lets 40 = .ok (.getfield 134, 3) := by decide +kernel
theorem dX4_lets_43 : decode cX4_lets 43 = .ok (.istore 4, 2) := by decide +kernel
theorem dX4_lets_45 : decode cX4_lets 45 = .ok (.aload_n 0, 1) := by decide +kernel
theorem dX4_lets_46 : decode cX4_lets 46 = .ok (.getfield 29, 3) := by decide +kernel
theorem dX4_lets_49 : decode cX4_lets 49 = .ok (.getfield 112, 3) := by decide +kernel
theorem dX4_lets_52 : decode cX4_lets 52 = .ok (.iload 4, 2) := by decide +kernel
theorem dX4_lets_54 : decode cX4_lets 54 = .ok (.aaload, 1) := by decide +kernel
theorem dX4_lets_55 : decode cX4_lets 55 = .ok (.aload_n 0, 1) := by decide +kernel
theorem dX4_lets_56 : decode cX4_lets 56 = .ok (.getfield 19, 3) := by decide +kernel
theorem dX4_lets_59 : decode cX4_lets 59 = .ok (.iload_n 1, 1) := by decide +kernel
theorem dX4_lets_60 : decode cX4_lets 60 = .ok (.iload_n 2, 1) := by decide +kernel
theorem dX4_lets_61 : decode cX4_lets 61 = .ok (.iload_n 3, 1) := by decide +kernel
theorem dX4_lets_62 : decode cX4_lets 62 = .ok (.invokevirtual 150, 3) := by decide +kernel
theorem dX4_lets_65 : decode cX4_lets 65 = .ok (.aload_n 0, 1) := by decide +kernel
theorem dX4_lets_66 : decode cX4_lets 66 = .ok (.getfield 29, 3) := by decide +kernel
theorem dX4_lets_69 : decode cX4_lets 69 = .ok (.dup, 1) := by decide +kernel
theorem dX4_lets_70 : decode cX4_lets 70 = .ok (.getfield 134, 3) := by decide +kernel
theorem dX4_lets_73 : decode cX4_lets 73 = .ok (.iconst 1, 1) := by decide +kernel
theorem dX4_lets_74 : decode cX4_lets 74 = .ok (.iadd, 1) := by decide +kernel
theorem dX4_lets_75 : decode cX4_lets 75 = .ok (.putfield 134, 3) := by decide +kernel
theorem dX4_lets_78 : decode cX4_lets 78 = .ok (.iload 4, 2) := by decide +kernel
theorem dX4_lets_80 : decode cX4_lets 80 = .ok (.ireturn, 1) := by decide +kernel
set_option maxRecDepth 20000 in
theorem kX4_lets_19 : Cond.fieldLink RX4 19 "WindPost" "chart" "LWindPost$Chart;" ∈ wsX4_lets := by decide +kernel
set_option maxRecDepth 20000 in
theorem kX4_lets_29 : Cond.fieldLink RX4 29 "WindPost" "now" "LWindPost$Moment;" ∈ wsX4_lets := by decide +kernel
set_option maxRecDepth 20000 in
theorem kX4_lets_112 : Cond.fieldLink RX4 112 "WindPost$Moment" "post" "[LWindPost$Letter;" ∈ wsX4_lets := by decide +kernel
set_option maxRecDepth 20000 in
theorem kX4_lets_134 : Cond.fieldLink RX4 134 "WindPost$Moment" "letters" "I" ∈ wsX4_lets := by decide +kernel
set_option maxRecDepth 20000 in
theorem uX4_lets_X2 : ∀ w ∈ wsX20, w ∈ wsX4_lets := by decide +kernel
set_option maxRecDepth 20000 in
theorem uX4_lets_X4 : ∀ w ∈ wsX40, w ∈ wsX4_lets := by decide +kernel
set_option maxHeartbeats 8000000 in
set_option maxRecDepth 100000 in
theorem mX4_lets (l : Launch) (D : va_G) (ki : Nat → ClassId) (ad : Nat → Nat) (cs : List Nat) (hcs : kW cs) (N : Nat) (a1 : Int32) (a2 : Int32) (a3 : Int32) (G : zMem) (tr : Int64) : gMetI l D ki ad cs yX4_lets wsX4_lets { frames := 3, cells := 0, slots := 0, locals := 65 } [.ref (ad 0), .int a1, .int a2, .int a3] (xE ki ad) G tr (fX4_lets N a1 a2 a3 G tr) := by
  refine gMetI_of (cc := cX4_lets) (maxL := 5) (ret := (some .int)) (own := RX4) (by decide +kernel) rfl rfl (Nat.le_of_ble_eq_true rfl) ?_
  intro r9 G9 tr9 h p e s m below meth c S hr hlk K X ls hl
  have hl : lv_has ls 5 [(0, .ref (ad 0)), (1, .int a1), (2, .int a2), (3, .int a3)] := hl
  unfold fX4_lets at h
  obtain ⟨H, hH⟩ : ∃ H, H = s.heap := ⟨_, rfl⟩
  obtain ⟨locs, hlo⟩ : ∃ locs : List Loc, locs = [] := ⟨_, rfl⟩
  have X : gS D cs ad ((xE ki ad) G tr) (gA cs ad s.heap.size) s H locs := by rw [hH, hlo]; exact X
  suffices z : W p l e (headSpec wsX4_lets { frames := 3, cells := 0, slots := 0, locals := 65 }).room s m ([.ref (ad 0), .int a1, .int a2, .int a3] : List Value).toArray below meth c H locs 0 0 (zQI below ([.ref (ad 0), .int a1, .int a2, .int a3] : List Value).toArray s D cs ad ((xE ki ad) G9 tr9) r9) (F0 m 0 ls []) by rw [hH, hlo] at z; exact z
  clear hH hlo
  refine lv_aload_n S.1 S.2.1 dX4_lets_0 rfl (lv_at hl 0 rfl) ?_
  refine lv_iload_n S.1 S.2.1 dX4_lets_1 rfl (lv_at hl 1 rfl) ?_
  refine lv_iload_n S.1 S.2.1 dX4_lets_2 rfl (lv_at hl 2 rfl) ?_
  obtain ⟨r_2, G_3, tr_4, hf_1, h⟩ := zbd_some h
  refine zr_calli (Eg := (xE ki ad)) K X (va_runV (As := [.int a1, .int a2]) (rest := []) S (mX4_isWay l D ki ad cs hcs N a1 a2 G tr H.size _ _ _ hf_1) (cwV 2 S.2.2.2.2 gX4_lets_X4_isWay rfl rfl rfl (by decide +kernel) ⟨Nat.le_of_ble_eq_true rfl, Nat.le_of_ble_eq_true rfl⟩) (zr_preV (c0 := 0) K X (hcs 0 (by decide)) xE_W rfl) rfl rfl hl.1 rfl (lv_room (Nat.le_of_ble_eq_true rfl)) dX4_lets_3 ⟨Nat.zero_le _, Nat.zero_le _⟩) (fun H locs X => ?_)
  refine lv_if_eq (tgt := 16) S.1 S.2.1 dX4_lets_6 (by decide) (fun hc_5 => ?_) (fun hc_5 => ?_)
  · have h := zif_pos hc_5 h
    refine lv_iconst (v := (-1 : Int32)) S.1 S.2.1 dX4_lets_16 (by decide) ?_
    exact zr_iret S hr hlk X h dX4_lets_17
  · have h := zif_neg hc_5 h
    refine lv_iload_n S.1 S.2.1 dX4_lets_9 rfl (lv_at hl 3 rfl) ?_
    obtain ⟨r_7, hf_6, h⟩ := zbp_some h
    refine zr_calli (Eg := (xE ki ad)) (G' := G_3) (tr' := tr_4) K X (va_runS (As := [.int a3]) (rest := []) S (mX4_isWeight l D ki ad cs N a3 (xE ki ad) G_3 tr_4 H.size _ _ _ (zpu_of hf_6)) (va_cwS 1 S.2.2.2.2 gX4_lets_X4_isWeight rfl rfl rfl (by decide +kernel) ⟨Nat.le_of_ble_eq_true rfl, Nat.le_of_ble_eq_true rfl⟩) (zr_pre K X) rfl rfl hl.1 rfl (lv_room (Nat.le_of_ble_eq_true rfl)) dX4_lets_10 ⟨Nat.zero_le _, Nat.zero_le _⟩) (fun H locs X => ?_)
    refine lv_if_ne (tgt := 18) S.1 S.2.1 dX4_lets_13 (by decide) (fun hc_8 => ?_) (fun hc_8 => ?_)
    · have h := zif_neg hc_8 h
      refine lv_aload_n S.1 S.2.1 dX4_lets_18 rfl (lv_at hl 0 rfl) ?_
      refine zr_get (v := .ref (ad 18)) S K X (hcs 0 (by decide)) xE_W rfl uX4_lets_X4 3 (by decide) kX4_lets_29 rfl rfl dX4_lets_19 ?_
      refine zr_get (v := .int (G_3 18 1)) S K X ((kM_now hcs).2 0 (by decide)) (xE_M (kM_now hcs)) rfl uX4_lets_X2 1 (by decide) kX4_lets_134 rfl rfl dX4_lets_22 ?_
      refine lv_iconst (v := (5 : Int32)) S.1 S.2.1 dX4_lets_25 (by decide) ?_
      refine lv_icmp_lt (tgt := 32) S.1 S.2.1 dX4_lets_26 (by decide) (fun hc_9 => ?_) (fun hc_9 => ?_)
      · have h := zif_pos hc_9 h
        refine lv_aload_n S.1 S.2.1 dX4_lets_32 rfl (lv_at hl 0 rfl) ?_
        obtain ⟨r_11, G_12, tr_13, hf_10, h⟩ := zbd_some h
        refine zr_callv (Eg := (xE ki ad)) K X (va_runV (As := []) (rest := []) S (mX4_remember l D ki ad cs hcs N G_3 tr_4 H.size _ _ _ hf_10) (cwV 0 S.2.2.2.2 gX4_lets_X4_remember rfl rfl rfl (by decide +kernel) ⟨Nat.le_of_ble_eq_true rfl, Nat.le_of_ble_eq_true rfl⟩) (zr_preV (c0 := 0) K X (hcs 0 (by decide)) xE_W rfl) rfl rfl hl.1 rfl (lv_room (Nat.le_of_ble_eq_true rfl)) dX4_lets_33 ⟨Nat.zero_le _, Nat.zero_le _⟩) (fun H locs X => ?_)
        refine lv_aload_n S.1 S.2.1 dX4_lets_36 rfl (lv_at hl 0 rfl) ?_
        refine zr_get (v := .ref (ad 18)) S K X (hcs 0 (by decide)) xE_W rfl uX4_lets_X4 3 (by decide) kX4_lets_29 rfl rfl dX4_lets_37 ?_
        refine zr_get (v := .int (G_12 18 1)) S K X ((kM_now hcs).2 0 (by decide)) (xE_M (kM_now hcs)) rfl uX4_lets_X2 1 (by decide) kX4_lets_134 rfl rfl dX4_lets_40 ?_
        refine lv_istore (lv' := [(4, .int (G_12 18 1)), (0, .ref (ad 0)), (1, .int a1), (2, .int a2), (3, .int a3)]) S.1 S.2.1 dX4_lets_43 hl (by decide) rfl (fun ls hl => ?_)
        refine lv_aload_n S.1 S.2.1 dX4_lets_45 rfl (lv_at hl 1 rfl) ?_
        refine zr_get (v := .ref (ad 18)) S K X (hcs 0 (by decide)) xE_W rfl uX4_lets_X4 3 (by decide) kX4_lets_29 rfl rfl dX4_lets_46 ?_
        refine zr_get (v := .ref (ad 20)) S K X ((kM_now hcs).2 0 (by decide)) (xE_M (kM_now hcs)) rfl uX4_lets_X2 5 (by decide) kX4_lets_112 rfl rfl dX4_lets_49 ?_
        refine lv_iload S.1 S.2.1 dX4_lets_52 (lv_at hl 0 rfl) ?_
        obtain ⟨hi_14, h⟩ := zin_some h
        refine zr_aald (f := (fun j => 21 + j)) (t0 := 2) (C := "WindPost$Letter") S K X ((kM_now hcs).2 2 (by decide)) (xE_M2 (kM_now hcs)) rfl hi_14 dX4_lets_54 ?_
        refine lv_aload_n S.1 S.2.1 dX4_lets_55 rfl (lv_at hl 1 rfl) ?_
        obtain ⟨hq_15, h⟩ := zch_some h
        refine zr_get (v := .ref (ad (G_12 0 1).toNatClampNeg)) S K X (hcs 0 (by decide)) xE_W rfl uX4_lets_X4 1 (by decide) kX4_lets_19 rfl rfl dX4_lets_56 ?_
        refine lv_iload_n S.1 S.2.1 dX4_lets_59 rfl (lv_at hl 2 rfl) ?_
        refine lv_iload_n S.1 S.2.1 dX4_lets_60 rfl (lv_at hl 3 rfl) ?_
        refine lv_iload_n S.1 S.2.1 dX4_lets_61 rfl (lv_at hl 4 rfl) ?_
        obtain ⟨r_17, G_18, tr_19, hf_16, h⟩ := zbd_some h
        refine zr_callv (Eg := (xE ki ad)) K X (va_runV (As := [.ref (ad (G_12 0 1).toNatClampNeg), .int a1, .int a2, .int a3]) (rest := []) S (mX1_letUp l D ki ad cs hcs N (21 + (Int32.toNatClampNeg (G_12 18 1))) (G_12 0 1).toNatClampNeg a1 a2 a3 (kL_now hcs hi_14) (kC_of hcs hq_15) G_12 tr_13 H.size _ _ _ hf_16) (cwV 4 S.2.2.2.2 gX4_lets_X1_letUp rfl rfl rfl (by decide +kernel) ⟨Nat.le_of_ble_eq_true rfl, Nat.le_of_ble_eq_true rfl⟩) (zr_preV (c0 := (21 + (Int32.toNatClampNeg (G_12 18 1)))) K X (kL_now hcs hi_14).2 (xE_L (kL_now hcs hi_14)) rfl) rfl rfl hl.1 rfl (lv_room (Nat.le_of_ble_eq_true rfl)) dX4_lets_62 ⟨Nat.zero_le _, Nat.zero_le _⟩) (fun H locs X => ?_)
        refine lv_aload_n S.1 S.2.1 dX4_lets_65 rfl (lv_at hl 1 rfl) ?_
        refine zr_get (v := .ref (ad 18)) S K X (hcs 0 (by decide)) xE_W rfl uX4_lets_X4 3 (by decide) kX4_lets_29 rfl rfl dX4_lets_66 ?_
        refine lv_dup S.1 S.2.1 dX4_lets_69 rfl ?_
        refine zr_get (v := .int (G_18 18 1)) S K X ((kM_now hcs).2 0 (by decide)) (xE_M (kM_now hcs)) rfl uX4_lets_X2 1 (by decide) kX4_lets_134 rfl rfl dX4_lets_70 ?_
        refine lv_iconst (v := (1 : Int32)) S.1 S.2.1 dX4_lets_73 (by decide) ?_
        refine lv_iadd S.1 S.2.1 dX4_lets_74 ?_
        refine zr_put (xv := ((G_18 18 1) + (1 : Int32))) (v := .int ((G_18 18 1) + (1 : Int32))) (fsf := (fsM ad 18)) (ty := .int) S K X ((kM_now hcs).2 0 (by decide)) xE_loc (fun _ => (xE_M (kM_now hcs))) rfl uX4_lets_X2 tyX2 tyX2_ok nmX2 1 (by decide) kX4_lets_134 rfl (by decide +kernel) rfl rfl (by simp) rfl dX4_lets_75 (fun H locs X => ?_)
        refine lv_iload S.1 S.2.1 dX4_lets_78 (lv_at hl 0 rfl) ?_
        exact zr_iret S hr hlk X h dX4_lets_80
      · have h := zif_neg hc_9 h
        refine lv_bipush (v := (-3 : Int32)) S.1 S.2.1 dX4_lets_29 (by decide) ?_
        exact zr_iret S hr hlk X h dX4_lets_31
    · have h := zif_pos hc_8 h
      refine lv_iconst (v := (-1 : Int32)) S.1 S.2.1 dX4_lets_16 (by decide) ?_
      exact zr_iret S hr hlk X h dX4_lets_17
set_option maxRecDepth 20000 in
theorem ggX4_hour_X4_remember : GoodIn wsX4_hour wsX4_remember := goodIn_r _ [12, 13, 14, 1, 15, 16, 17, 18, 19, 20, 21, 22, 23, 24, 25, 26, 27, 28, 29, 30, 31, 32, 33, 34, 35, 36, 37, 38, 39, 40, 41, 42, 68, 69, 70, 71, 72, 73, 74, 75, 76, 77, 78, 79, 80, 81, 82, 83, 84, 85, 86, 87, 88, 89, 90, 91, 92] (by decide +kernel) (by decide +kernel)
set_option maxRecDepth 20000 in
theorem gX4_hour_X4_remember : GoodIn wsX4_hour (wsV RX4 147 RX4 yX4_remember wsX4_remember) := goodIn_app (goodIn_of _ (by decide +kernel)) ggX4_hour_X4_remember
set_option maxRecDepth 20000 in
theorem ggX4_hour_X2_windOf : GoodIn wsX4_hour wsX2_windOf := goodIn_r _ [46, 28, 29, 47, 48, 49, 50, 80, 81, 82, 83, 84, 85] (by decide +kernel) (by decide +kernel)
set_option maxRecDepth 20000 in
theorem gX4_hour_X2_windOf : GoodIn wsX4_hour (wsV RX4 105 RX2 yX2_windOf wsX2_windOf) := goodIn_app (goodIn_of _ (by decide +kernel)) ggX4_hour_X2_windOf
set_option maxRecDepth 20000 in
theorem ggX4_hour_X1_passHour : GoodIn wsX4_hour wsX1_passHour := goodIn_r _ [54, 41, 42, 39, 38, 40, 55, 56, 57, 58, 59, 60, 61, 62, 63, 64, 65, 66, 11, 67, 86, 87, 88, 89, 90, 91, 92, 93, 94, 95, 96, 97, 98, 99, 100, 101, 102] (by decide +kernel) (by decide +kernel)
set_option maxRecDepth 20000 in
theorem gX4_hour_X1_passHour : GoodIn wsX4_hour (wsV RX4 154 RX1 yX1_passHour wsX1_passHour) := goodIn_app (goodIn_of _ (by decide +kernel)) ggX4_hour_X1_passHour
theorem dX4_hour_0 : decode cX4_hour 0 = .ok (.aload_n 0, 1) := by decide +kernel
theorem dX4_hour_1 : decode cX4_hour 1 = .ok (.getfield 29, 3) := by decide +kernel
theorem dX4_hour_4 : decode cX4_hour 4 = .ok (.getfield 102, 3) := by decide +kernel
theorem dX4_hour_7 : decode cX4_hour 7 = .ok (.sipush 9999, 3) := by decide +kernel
theorem dX4_hour_10 : decode cX4_hour 10 = .ok (.if_icmp .lt 6, 3) := by decide +kernel
theorem dX4_hour_13 : decode cX4_hour 13 = .ok (.bipush (-2), 2) := by decide +kernel
theorem dX4_hour_15 : decode cX4_hour 15 = .ok (.ireturn, 1) := by decide +kernel
theorem dX4_hour_16 : decode cX4_hour 16 = .ok (.aload_n 0, 1) := by decide +kernel
theorem dX4_hour_17 : decode cX4_hour 17 = .ok (.invokevirtual 147, 3) := by decide +kernel
theorem dX4_hour_20 : decode cX4_hour 20 = .ok (.aload_n 0, 1) := by decide +kernel
theorem dX4_hour_21 : decode cX4_hour 21 = .ok (.getfield 29, 3) := by decide +kernel
theorem dX4_hour_24 : decode cX4_hour 24 = .ok (.aload_n 0, 1) := by decide +kernel
theorem dX4_hour_25 : decode cX4_hour 25 = .ok (.getfield 29, 3) := by decide +kernel
theorem dX4_hour_28 : decode cX4_hour 28 = .ok (.getfield 102, 3) := by decide +kernel
theorem dX4_hour_31 : decode cX4_hour 31 = .ok (.invokevirtual 105, 3) := by decide +kernel
theorem dX4_hour_34 : decode cX4_hour 34 = .ok (.istore_n 1, 1) := by decide +kernel
theorem dX4_hour_35 : decode cX4_hour 35 = .ok (.iconst 0, 1) := by decide +kernel
theorem dX4_hour_36 : decode cX4_hour 36 = .ok (.istore_n 2, 1) := by decide +kernel
theorem dX4_hour_37 : decode cX4_hour 37 = .ok (.iconst 0, 1) := by decide +kernel
theorem dX4_hour_38 : decode cX4_hour 38 = .ok (.istore_n 3, 1) := by decide +kernel
theorem dX4_hour_39 : decode cX4_hour 39 = .ok (.iload_n 3, 1) := by decide +kernel
theorem dX4_hour_40 : decode cX4_hour 40 = .ok (.aload_n 0, 1) := by decide +kernel
theorem dX4_hour_41 : decode cX4_hour 41 = .ok (.getfield 29, 3) := by decide +kernel
theorem dX4_hour_44 : decode cX4_hour 44 = .ok (.getfield 134, 3) := by decide +kernel
theorem dX4_hour_47 : decode cX4_hour 47 = .ok (.if_icmp .ge 69, 3) := by decide +kernel
theorem dX4_hour_50 : decode cX4_hour 50 = .ok (.aload_n 0, 1) := by decide +kernel
theorem dX4_hour_51 : decode cX4_hour 51 = .ok (.getfield 29, 3) := by decide +kernel
theorem dX4_hour_54 : decode cX4_hour 54 = .ok (.getfield 112, 3) := by decide +kernel
theorem dX4_hour_57 : decode cX4_hour 57 = .ok (.iload_n 3, 1) := by decide +kernel
theorem dX4_hour_58 : decode cX4_hour 58 = .ok (.aaload, 1) := by decide +kernel
theorem dX4_hour_59 : decode cX4_hour 59 = .ok (.astore 4, 2) := by decide +kernel
theorem dX4_hour_61 : decode cX4_hour 61 = .ok (.aload 4, 2) := by decide +kernel
theorem dX4_hour_63 : decode cX4_hour 63 = .ok (.getfield 131, 3) := by decide +kernel
theorem dX4_hour_66 : decode cX4_hour 66 = .ok (.ifCond .ne 7, 3) := by decide +kernel
theorem dX4_hour_69 : decode cX4_hour 69 = .ok (.iconst 1, 1) := by decide +kernel
theorem dX4_hour_70 : decode cX4_hour 70 = .ok (.goto 4, 3) := by decide +kernel
theorem dX4_hour_73 : decode cX4_hour 73 = .ok (.iconst 0, 1) := by decide +kernel
theorem dX4_hour_74 : decode cX4_hour 74 = .ok (.istore 5, 2) := by decide +kernel
theorem dX4_hour_76 : decode cX4_hour 76 = .ok (.aload 4, 2) := by decide +kernel
theorem dX4_hour_78 : decode cX4_hour 78 = .ok (.aload_n 0, 1) := by decide +kernel
theorem dX4_hour_79 : decode cX4_hour 79 = .ok (.getfield 19, 3) := by decide +kernel
theorem dX4_hour_82 : decode cX4_hour 82 = .ok (.iload_n 1, 1) := by decide +kernel
theorem dX4_hour_83 : decode cX4_hour 83 = .ok (.aload_n 0, 1) := by decide +kernel
theorem dX4_hour_84 : decode cX4_hour 84 = .ok (.getfield 29, 3) := by decide +kernel
theorem dX4_hour_87 : decode cX4_hour 87 = .ok (.getfield 88, 3) := by decide +kernel
theorem dX4_hour_90 : decode cX4_hour 90 = .ok (.invokevirtual 154, 3) := by decide +kernel
theorem dX4_hour_93 : decode cX4_hour 93 = .ok (.iload 5, 2) := by decide +kernel
theorem dX4_hour_95 : decode cX4_hour 95 = .ok (.ifCond .eq 15, 3) := by decide +kernel
theorem dX4_hour_98 : decode cX4_hour 98 = .ok (.aload 4, 2) := by decide +kernel
theorem dX4_hour_100 : decode cX4_hour 100 = .ok (.getfield 131, 3) := by decide +kernel
theorem dX4_hour_103 : decode cX4_hour 103 = .ok (.iconst 1, 1) := by decide +kernel
theorem dX4_hour_104 : decode cX4_hour 104 = .ok (.if_icmp .ne 6, 3) := by decide +kernel
theorem dX4_hour_107 : decode cX4_hour 107 = .ok (.iinc 2 1, 3) := by decide +kernel
theorem dX4_hour_110 : decode cX4_hour 110 = .ok (.iinc 3 1, 3) := by decide +kernel
theorem dX4_hour_113 : decode cX4_hour 113 = .ok (.goto (-74), 3) := by decide +kernel
theorem dX4_hour_116 : decode cX4_hour 116 = .ok (.aload_n 0, 1) := by decide +kernel
theorem dX4_hour_117 : decode cX4_hour 117 = .ok (.getfield 29, 3) := by decide +kernel
theorem dX4_hour_120 : decode cX4_hour 120 = .ok (.dup, 1) := by decide +kernel
theorem dX4_hour_121 : decode cX4_hour 121 = .ok (.getfield 102, 3) := by decide +kernel
theorem dX4_hour_124 : decode cX4_hour 124 = .ok (.iconst 1, 1) := by decide +kernel
theorem dX4_hour_125 : decode cX4_hour 125 = .ok (.iadd, 1) := by decide +kernel
theorem dX4_hour_126 : decode cX4_hour 126 = .ok (.putfield 102, 3) := by decide +kernel
theorem dX4_hour_129 : decode cX4_hour 129 = .ok (.iload_n 2, 1) := by decide +kernel
theorem dX4_hour_130 : decode cX4_hour 130 = .ok (.ireturn, 1) := by decide +kernel
set_option maxRecDepth 20000 in
theorem kX4_hour_19 : Cond.fieldLink RX4 19 "WindPost" "chart" "LWindPost$Chart;" ∈ wsX4_hour := by decide +kernel
set_option maxRecDepth 20000 in
theorem kX4_hour_29 : Cond.fieldLink RX4 29 "WindPost" "now" "LWindPost$Moment;" ∈ wsX4_hour := by decide +kernel
set_option maxRecDepth 20000 in
theorem kX4_hour_88 : Cond.fieldLink RX4 88 "WindPost$Moment" "nets" "I" ∈ wsX4_hour := by decide +kernel
set_option maxRecDepth 20000 in
theorem kX4_hour_102 : Cond.fieldLink RX4 102 "WindPost$Moment" "time" "I" ∈ wsX4_hour := by decide +kernel
set_option maxRecDepth 20000 in
theorem kX4_hour_112 : Cond.fieldLink RX4 112 "WindPost$Moment" "post" "[LWindPost$Letter;" ∈ wsX4_hour := by decide +kernel
set_option maxRecDepth 20000 in
theorem kX4_hour_131 : Cond.fieldLink RX4 131 "WindPost$Letter" "how" "I" ∈ wsX4_hour := by decide +kernel
set_option maxRecDepth 20000 in
theorem kX4_hour_134 : Cond.fieldLink RX4 134 "WindPost$Moment" "letters" "I" ∈ wsX4_hour := by decide +kernel
set_option maxRecDepth 20000 in
theorem uX4_hour_X1 : ∀ w ∈ wsX10, w ∈ wsX4_hour := by decide +kernel
set_option maxRecDepth 20000 in
theorem uX4_hour_X2 : ∀ w ∈ wsX20, w ∈ wsX4_hour := by decide +kernel
set_option maxRecDepth 20000 in
theorem uX4_hour_X4 : ∀ w ∈ wsX40, w ∈ wsX4_hour := by decide +kernel
set_option maxHeartbeats 8000000 in
set_option maxRecDepth 100000 in
theorem mX4_hour (l : Launch) (D : va_G) (ki : Nat → ClassId) (ad : Nat → Nat) (cs : List Nat) (hcs : kW cs) (N : Nat) (G : zMem) (tr : Int64) : gMetI l D ki ad cs yX4_hour wsX4_hour { frames := 3, cells := 0, slots := 0, locals := 63 } [.ref (ad 0)] (xE ki ad) G tr (fX4_hour N G tr) := by
  refine gMetI_of (cc := cX4_hour) (maxL := 6) (ret := (some .int)) (own := RX4) (by decide +kernel) rfl rfl (Nat.le_of_ble_eq_true rfl) ?_
  intro r9 G9 tr9 h p e s m below meth c S hr hlk K X ls hl
  have hl : lv_has ls 6 [(0, .ref (ad 0))] := hl
  have b110 : ∀ (k39 : Int32 → Int32 → Int32 → zMem → Int64 → zR) (hk39 : ∀ (x1 : Int32) (x2 : Int32) (x3 : Int32) (G : zMem) (tr : Int64), k39 x1 x2 x3 G tr = some (r9, G9, tr9) → zAt p l e (headSpec wsX4_hour { frames := 3, cells := 0, slots := 0, locals := 63 }).room s m ([.ref (ad 0)] : List Value).toArray below meth c 6 D cs ad (zQI below ([.ref (ad 0)] : List Value).toArray s D cs ad ((xE ki ad) G9 tr9) r9) 39 [(0, .ref (ad 0)), (1, .int x1), (2, .int x2), (3, .int x3)] [] ((xE ki ad) G tr)) (x1 : Int32) (x2 : Int32) (x3 : Int32) (G : zMem) (tr : Int64), fX4_hour_b110 N k39 x1 x2 x3 G tr = some (r9, G9, tr9) → zAt p l e (headSpec wsX4_hour { frames := 3, cells := 0, slots := 0, locals := 63 }).room s m ([.ref (ad 0)] : List Value).toArray below meth c 6 D cs ad (zQI below ([.ref (ad 0)] : List Value).toArray s D cs ad ((xE ki ad) G9 tr9) r9) 110 [(0, .ref (ad 0)), (1, .int x1), (2, .int x2), (3, .int x3)] [] ((xE ki ad) G tr) := by
    intro k39 hk39 x1 x2 x3 G tr h H locs ls X hl
    unfold fX4_hour_b110 at h
    refine lv_iinc (v := (x3 + 1)) (lv' := [(3, .int (x3 + 1)), (0, .ref (ad 0)), (1, .int x1), (2, .int x2)]) S.1 S.2.1 dX4_hour_110 hl (k := 3) rfl rfl (by decide) rfl (fun ls hl => ?_)
    refine lv_goto (tgt := 39) S.1 S.2.1 dX4_hour_113 (by decide) ?_
    exact hk39 x1 x2 (x3 + 1) G tr h _ _ _ X (lv_sub hl [1, 2, 3, 0] rfl)
  have b74 : ∀ (k39 : Int32 → Int32 → Int32 → zMem → Int64 → zR) (hk39 : ∀ (x1 : Int32) (x2 : Int32) (x3 : Int32) (G : zMem) (tr : Int64), k39 x1 x2 x3 G tr = some (r9, G9, tr9) → zAt p l e (headSpec wsX4_hour { frames := 3, cells := 0, slots := 0, locals := 63 }).room s m ([.ref (ad 0)] : List Value).toArray below meth c 6 D cs ad (zQI below ([.ref (ad 0)] : List Value).toArray s D cs ad ((xE ki ad) G9 tr9) r9) 39 [(0, .ref (ad 0)), (1, .int x1), (2, .int x2), (3, .int x3)] [] ((xE ki ad) G tr)) (x1 : Int32) (x2 : Int32) (x3 : Int32) (x4 : Nat) (s0 : Int32) (hx4 : kL cs x4) (G : zMem) (tr : Int64), fX4_hour_b74 N k39 x1 x2 x3 x4 s0 G tr = some (r9, G9, tr9) → zAt p l e (headSpec wsX4_hour { frames := 3, cells := 0, slots := 0, locals := 63 }).room s m ([.ref (ad 0)] : List Value).toArray below meth c 6 D cs ad (zQI below ([.ref (ad 0)] : List Value).toArray s D cs ad ((xE ki ad) G9 tr9) r9) 74 [(0, .ref (ad 0)), (1, .int x1), (2, .int x2), (3, .int x3), (4, .ref (ad x4))] [.int s0] ((xE ki ad) G tr) := by
    intro k39 hk39 x1 x2 x3 x4 s0 hx4 G tr h H locs ls X hl
    unfold fX4_hour_b74 at h
    refine lv_istore (lv' := [(5, .int s0), (0, .ref (ad 0)), (1, .int x1), (2, .int x2), (3, .int x3), (4, .ref (ad x4))]) S.1 S.2.1 dX4_hour_74 hl (by decide) rfl (fun ls hl => ?_)
    refine lv_aload S.1 S.2.1 dX4_hour_76 (lv_at hl 5 rfl) ?_
    refine lv_aload_n S.1 S.2.1 dX4_hour_78 rfl (lv_at hl 1 rfl) ?_
    obtain ⟨hq_1, h⟩ := zch_some h
    refine zr_get (v := .ref (ad (G 0 1).toNatClampNeg)) S K X (hcs 0 (by decide)) xE_W rfl uX4_hour_X4 1 (by decide) kX4_hour_19 rfl rfl dX4_hour_79 ?_
    refine lv_iload_n S.1 S.2.1 dX4_hour_82 rfl (lv_at hl 2 rfl) ?_
    refine lv_aload_n S.1 S.2.1 dX4_hour_83 rfl (lv_at hl 1 rfl) ?_
    refine zr_get (v := .ref (ad 18)) S K X (hcs 0 (by decide)) xE_W rfl uX4_hour_X4 3 (by decide) kX4_hour_29 rfl rfl dX4_hour_84 ?_
    refine zr_get (v := .int (G 18 2)) S K X ((kM_now hcs).2 0 (by decide)) (xE_M (kM_now hcs)) rfl uX4_hour_X2 2 (by decide) kX4_hour_88 rfl rfl dX4_hour_87 ?_
    obtain ⟨r_3, G_4, tr_5, hf_2, h⟩ := zbd_some h
    refine zr_callv (Eg := (xE ki ad)) K X (va_runV (As := [.ref (ad (G 0 1).toNatClampNeg), .int x1, .int (G 18 2)]) (rest := []) S (mX1_passHour l D ki ad cs hcs N x4 (G 0 1).toNatClampNeg x1 (G 18 2) hx4 (kC_of hcs hq_1) G tr H.size _ _ _ hf_2) (cwV 3 S.2.2.2.2 gX4_hour_X1_passHour rfl rfl rfl (by decide +kernel) ⟨Nat.le_of_ble_eq_true rfl, Nat.le_of_ble_eq_true rfl⟩) (zr_preV (c0 := x4) K X hx4.2 (xE_L hx4) rfl) rfl rfl hl.1 rfl (lv_room (Nat.le_of_ble_eq_true rfl)) dX4_hour_90 ⟨Nat.zero_le _, Nat.zero_le _⟩) (fun H locs X => ?_)
    refine lv_iload S.1 S.2.1 dX4_hour_93 (lv_at hl 0 rfl) ?_
    refine lv_if_eq (tgt := 110) S.1 S.2.1 dX4_hour_95 (by decide) (fun hc_6 => ?_) (fun hc_6 => ?_)
    · have h := zif_pos hc_6 h
      exact b110 k39 hk39 x1 x2 x3 G_4 tr_5 h _ _ _ X (lv_sub hl [1, 2, 3, 4] rfl)
    · have h := zif_neg hc_6 h
      refine lv_aload S.1 S.2.1 dX4_hour_98 (lv_at hl 5 rfl) ?_
      refine zr_get (v := .int (G_4 x4 5)) S K X hx4.2 (xE_L hx4) rfl uX4_hour_X1 5 (by decide) kX4_hour_131 rfl rfl dX4_hour_100 ?_
      refine lv_iconst (v := (1 : Int32)) S.1 S.2.1 dX4_hour_103 (by decide) ?_
      refine lv_icmp_ne (tgt := 110) S.1 S.2.1 dX4_hour_104 (by decide) (fun hc_7 => ?_) (fun hc_7 => ?_)
      · have h := zif_neg hc_7 h
        exact b110 k39 hk39 x1 x2 x3 G_4 tr_5 h _ _ _ X (lv_sub hl [1, 2, 3, 4] rfl)
      · have h := zif_pos hc_7 h
        refine lv_iinc (v := (x2 + 1)) (lv' := [(2, .int (x2 + 1)), (5, .int s0), (0, .ref (ad 0)), (1, .int x1), (3, .int x3), (4, .ref (ad x4))]) S.1 S.2.1 dX4_hour_107 hl (k := 3) rfl rfl (by decide) rfl (fun ls hl => ?_)
        exact b110 k39 hk39 x1 (x2 + 1) x3 G_4 tr_5 h _ _ _ X (lv_sub hl [2, 3, 0, 4] rfl)
  have b39 : ∀ (k39 : Int32 → Int32 → Int32 → zMem → Int64 → zR) (hk39 : ∀ (x1 : Int32) (x2 : Int32) (x3 : Int32) (G : zMem) (tr : Int64), k39 x1 x2 x3 G tr = some (r9, G9, tr9) → zAt p l e (headSpec wsX4_hour { frames := 3, cells := 0, slots := 0, locals := 63 }).room s m ([.ref (ad 0)] : List Value).toArray below meth c 6 D cs ad (zQI below ([.ref (ad 0)] : List Value).toArray s D cs ad ((xE ki ad) G9 tr9) r9) 39 [(0, .ref (ad 0)), (1, .int x1), (2, .int x2), (3, .int x3)] [] ((xE ki ad) G tr)) (x1 : Int32) (x2 : Int32) (x3 : Int32) (G : zMem) (tr : Int64), fX4_hour_b39 N k39 x1 x2 x3 G tr = some (r9, G9, tr9) → zAt p l e (headSpec wsX4_hour { frames := 3, cells := 0, slots := 0, locals := 63 }).room s m ([.ref (ad 0)] : List Value).toArray below meth c 6 D cs ad (zQI below ([.ref (ad 0)] : List Value).toArray s D cs ad ((xE ki ad) G9 tr9) r9) 39 [(0, .ref (ad 0)), (1, .int x1), (2, .int x2), (3, .int x3)] [] ((xE ki ad) G tr) := by
    intro k39 hk39 x1 x2 x3 G tr h H locs ls X hl
    unfold fX4_hour_b39 at h
    refine lv_iload_n S.1 S.2.1 dX4_hour_39 rfl (lv_at hl 3 rfl) ?_
    refine lv_aload_n S.1 S.2.1 dX4_hour_40 rfl (lv_at hl 0 rfl) ?_
    refine zr_get (v := .ref (ad 18)) S K X (hcs 0 (by decide)) xE_W rfl uX4_hour_X4 3 (by decide) kX4_hour_29 rfl rfl dX4_hour_41 ?_
    refine zr_get (v := .int (G 18 1)) S K X ((kM_now hcs).2 0 (by decide)) (xE_M (kM_now hcs)) rfl uX4_hour_X2 1 (by decide) kX4_hour_134 rfl rfl dX4_hour_44 ?_
    refine lv_icmp_ge (tgt := 116) S.1 S.2.1 dX4_hour_47 (by decide) (fun hc_1 => ?_) (fun hc_1 => ?_)
    · have h := zif_pos hc_1 h
      refine lv_aload_n S.1 S.2.1 dX4_hour_116 rfl (lv_at hl 0 rfl) ?_
      refine zr_get (v := .ref (ad 18)) S K X (hcs 0 (by decide)) xE_W rfl uX4_hour_X4 3 (by decide) kX4_hour_29 rfl rfl dX4_hour_117 ?_
      refine lv_dup S.1 S.2.1 dX4_hour_120 rfl ?_
      refine zr_get (v := .int (G 18 0)) S K X ((kM_now hcs).2 0 (by decide)) (xE_M (kM_now hcs)) rfl uX4_hour_X2 0 (by decide) kX4_hour_102 rfl rfl dX4_hour_121 ?_
      refine lv_iconst (v := (1 : Int32)) S.1 S.2.1 dX4_hour_124 (by decide) ?_
      refine lv_iadd S.1 S.2.1 dX4_hour_125 ?_
      refine zr_put (xv := ((G 18 0) + (1 : Int32))) (v := .int ((G 18 0) + (1 : Int32))) (fsf := (fsM ad 18)) (ty := .int) S K X ((kM_now hcs).2 0 (by decide)) xE_loc (fun _ => (xE_M (kM_now hcs))) rfl uX4_hour_X2 tyX2 tyX2_ok nmX2 0 (by decide) kX4_hour_102 rfl (by decide +kernel) rfl rfl (by simp) rfl dX4_hour_126 (fun H locs X => ?_)
      refine lv_iload_n S.1 S.2.1 dX4_hour_129 rfl (lv_at hl 2 rfl) ?_
      exact zr_iret S hr hlk X h dX4_hour_130
    · have h := zif_neg hc_1 h
      refine lv_aload_n S.1 S.2.1 dX4_hour_50 rfl (lv_at hl 0 rfl) ?_
      refine zr_get (v := .ref (ad 18)) S K X (hcs 0 (by decide)) xE_W rfl uX4_hour_X4 3 (by decide) kX4_hour_29 rfl rfl dX4_hour_51 ?_
      refine zr_get (v := .ref (ad 20)) S K X ((kM_now hcs).2 0 (by decide)) (xE_M (kM_now hcs)) rfl uX4_hour_X2 5 (by decide) kX4_hour_112 rfl rfl dX4_hour_54 ?_
      refine lv_iload_n S.1 S.2.1 dX4_hour_57 rfl (lv_at hl 3 rfl) ?_
      obtain ⟨hi_2, h⟩ := zin_some h
      refine zr_aald (f := (fun j => 21 + j)) (t0 := 2) (C := "WindPost$Letter") S K X ((kM_now hcs).2 2 (by decide)) (xE_M2 (kM_now hcs)) rfl hi_2 dX4_hour_58 ?_
      refine lv_astore (lv' := [(4, .ref (ad (21 + (Int32.toNatClampNeg x3)))), (0, .ref (ad 0)), (1, .int x1), (2, .int x2), (3, .int x3)]) S.1 S.2.1 dX4_hour_59 hl (by decide) rfl (fun ls hl => ?_)
      refine lv_aload S.1 S.2.1 dX4_hour_61 (lv_at hl 0 rfl) ?_
      refine zr_get (v := .int (G (21 + (Int32.toNatClampNeg x3)) 5)) S K X (kL_now hcs hi_2).2 (xE_L (kL_now hcs hi_2)) rfl uX4_hour_X1 5 (by decide) kX4_hour_131 rfl rfl dX4_hour_63 ?_
      refine lv_if_ne (tgt := 73) S.1 S.2.1 dX4_hour_66 (by decide) (fun hc_3 => ?_) (fun hc_3 => ?_)
      · have h := zif_neg hc_3 h
        refine lv_iconst (v := (0 : Int32)) S.1 S.2.1 dX4_hour_73 (by decide) ?_
        exact b74 k39 hk39 x1 x2 x3 (21 + (Int32.toNatClampNeg x3)) (0 : Int32) (kL_now hcs hi_2) G tr h _ _ _ X (lv_sub hl [1, 2, 3, 4, 0] rfl)
      · have h := zif_pos hc_3 h
        refine lv_iconst (v := (1 : Int32)) S.1 S.2.1 dX4_hour_69 (by decide) ?_
        refine lv_goto (tgt := 74) S.1 S.2.1 dX4_hour_70 (by decide) ?_
        exact b74 k39 hk39 x1 x2 x3 (21 + (Int32.toNatClampNeg x3)) (1 : Int32) (kL_now hcs hi_2) G tr h _ _ _ X (lv_sub hl [1, 2, 3, 4, 0] rfl)
  have L39 : ∀ (n : Nat) (x1 : Int32) (x2 : Int32) (x3 : Int32) (G : zMem) (tr : Int64), fX4_hour_L39 N n x1 x2 x3 G tr = some (r9, G9, tr9) → zAt p l e (headSpec wsX4_hour { frames := 3, cells := 0, slots := 0, locals := 63 }).room s m ([.ref (ad 0)] : List Value).toArray below meth c 6 D cs ad (zQI below ([.ref (ad 0)] : List Value).toArray s D cs ad ((xE ki ad) G9 tr9) r9) 39 [(0, .ref (ad 0)), (1, .int x1), (2, .int x2), (3, .int x3)] [] ((xE ki ad) G tr) := by
    intro n
    induction n with
    | zero => intro x1 x2 x3 G tr h; cases h
    | succ n ih => intro x1 x2 x3 G tr h; exact b39 (fX4_hour_L39 N n) ih x1 x2 x3 G tr h
  unfold fX4_hour at h
  obtain ⟨H, hH⟩ : ∃ H, H = s.heap := ⟨_, rfl⟩
  obtain ⟨locs, hlo⟩ : ∃ locs : List Loc, locs = [] := ⟨_, rfl⟩
  have X : gS D cs ad ((xE ki ad) G tr) (gA cs ad s.heap.size) s H locs := by rw [hH, hlo]; exact X
  suffices z : W p l e (headSpec wsX4_hour { frames := 3, cells := 0, slots := 0, locals := 63 }).room s m ([.ref (ad 0)] : List Value).toArray below meth c H locs 0 0 (zQI below ([.ref (ad 0)] : List Value).toArray s D cs ad ((xE ki ad) G9 tr9) r9) (F0 m 0 ls []) by rw [hH, hlo] at z; exact z
  clear hH hlo
  refine lv_aload_n S.1 S.2.1 dX4_hour_0 rfl (lv_at hl 0 rfl) ?_
  refine zr_get (v := .ref (ad 18)) S K X (hcs 0 (by decide)) xE_W rfl uX4_hour_X4 3 (by decide) kX4_hour_29 rfl rfl dX4_hour_1 ?_
  refine zr_get (v := .int (G 18 0)) S K X ((kM_now hcs).2 0 (by decide)) (xE_M (kM_now hcs)) rfl uX4_hour_X2 0 (by decide) kX4_hour_102 rfl rfl dX4_hour_4 ?_
  refine lv_sipush (v := (9999 : Int32)) S.1 S.2.1 dX4_hour_7 (by decide) ?_
  refine lv_icmp_lt (tgt := 16) S.1 S.2.1 dX4_hour_10 (by decide) (fun hc_1 => ?_) (fun hc_1 => ?_)
  · have h := zif_pos hc_1 h
    refine lv_aload_n S.1 S.2.1 dX4_hour_16 rfl (lv_at hl 0 rfl) ?_
    obtain ⟨r_3, G_4, tr_5, hf_2, h⟩ := zbd_some h
    refine zr_callv (Eg := (xE ki ad)) K X (va_runV (As := []) (rest := []) S (mX4_remember l D ki ad cs hcs N G tr H.size _ _ _ hf_2) (cwV 0 S.2.2.2.2 gX4_hour_X4_remember rfl rfl rfl (by decide +kernel) ⟨Nat.le_of_ble_eq_true rfl, Nat.le_of_ble_eq_true rfl⟩) (zr_preV (c0 := 0) K X (hcs 0 (by decide)) xE_W rfl) rfl rfl hl.1 rfl (lv_room (Nat.le_of_ble_eq_true rfl)) dX4_hour_17 ⟨Nat.zero_le _, Nat.zero_le _⟩) (fun H locs X => ?_)
    refine lv_aload_n S.1 S.2.1 dX4_hour_20 rfl (lv_at hl 0 rfl) ?_
    refine zr_get (v := .ref (ad 18)) S K X (hcs 0 (by decide)) xE_W rfl uX4_hour_X4 3 (by decide) kX4_hour_29 rfl rfl dX4_hour_21 ?_
    refine lv_aload_n S.1 S.2.1 dX4_hour_24 rfl (lv_at hl 0 rfl) ?_
    refine zr_get (v := .ref (ad 18)) S K X (hcs 0 (by decide)) xE_W rfl uX4_hour_X4 3 (by decide) kX4_hour_29 rfl rfl dX4_hour_25 ?_
    refine zr_get (v := .int (G_4 18 0)) S K X ((kM_now hcs).2 0 (by decide)) (xE_M (kM_now hcs)) rfl uX4_hour_X2 0 (by decide) kX4_hour_102 rfl rfl dX4_hour_28 ?_
    obtain ⟨r_7, G_8, tr_9, hf_6, h⟩ := zbd_some h
    refine zr_calli (Eg := (xE ki ad)) K X (va_runV (As := [.int (G_4 18 0)]) (rest := []) S (mX2_windOf l D ki ad cs hcs N 18 (G_4 18 0) (kM_now hcs) G_4 tr_5 H.size _ _ _ hf_6) (cwV 1 S.2.2.2.2 gX4_hour_X2_windOf rfl rfl rfl (by decide +kernel) ⟨Nat.le_of_ble_eq_true rfl, Nat.le_of_ble_eq_true rfl⟩) (zr_preV (c0 := 18) K X ((kM_now hcs).2 0 (by decide)) (xE_M (kM_now hcs)) rfl) rfl rfl hl.1 rfl (lv_room (Nat.le_of_ble_eq_true rfl)) dX4_hour_31 ⟨Nat.zero_le _, Nat.zero_le _⟩) (fun H locs X => ?_)
    refine lv_istore_n (lv' := [(1, .int r_7), (0, .ref (ad 0))]) S.1 S.2.1 dX4_hour_34 rfl hl (by decide) rfl (fun ls hl => ?_)
    refine lv_iconst (v := (0 : Int32)) S.1 S.2.1 dX4_hour_35 (by decide) ?_
    refine lv_istore_n (lv' := [(2, .int (0 : Int32)), (1, .int r_7), (0, .ref (ad 0))]) S.1 S.2.1 dX4_hour_36 rfl hl (by decide) rfl (fun ls hl => ?_)
    refine lv_iconst (v := (0 : Int32)) S.1 S.2.1 dX4_hour_37 (by decide) ?_
    refine lv_istore_n (lv' := [(3, .int (0 : Int32)), (2, .int (0 : Int32)), (1, .int r_7), (0, .ref (ad 0))]) S.1 S.2.1 dX4_hour_38 rfl hl (by decide) rfl (fun ls hl => ?_)
    exact L39 N r_7 (0 : Int32) (0 : Int32) G_8 tr_9 h _ _ _ X (lv_sub hl [3, 2, 1, 0] rfl)
  · have h := zif_neg hc_1 h
    refine lv_bipush (v := (-2 : Int32)) S.1 S.2.1 dX4_hour_13 (by decide) ?_
    exact zr_iret S hr hlk X h dX4_hour_15
set_option maxRecDepth 20000 in
theorem ggX4_net_X4_isIsle : GoodIn wsX4_net wsX4_isIsle := goodIn_r _ [7, 8, 9, 10, 11, 6, 12, 50, 51, 52, 53, 54, 55, 56, 57, 58, 59, 60, 61, 68, 69, 70, 71, 72, 73, 74, 75, 76, 77] (by decide +kernel) (by decide +kernel)
set_option maxRecDepth 20000 in
theorem gX4_net_X4_isIsle : GoodIn wsX4_net (wsV RX4 80 RX4 yX4_isIsle wsX4_isIsle) := goodIn_app (goodIn_of _ (by decide +kernel)) ggX4_net_X4_isIsle
set_option maxRecDepth 20000 in
theorem ggX4_net_X4_isWithin : GoodIn wsX4_net wsX4_isWithin := goodIn_r _ [12] (by decide +kernel) (by decide +kernel)
set_option maxRecDepth 20000 in
theorem gX4_net_X4_isWithin : GoodIn wsX4_net (va_wsS RX4 54 yX4_isWithin wsX4_isWithin) := goodIn_app (goodIn_of _ (by decide +kernel)) ggX4_net_X4_isWithin
set_option maxRecDepth 20000 in
theorem ggX4_net_X4_remember : GoodIn wsX4_net wsX4_remember := goodIn_r _ [16, 17, 18, 1, 19, 20, 21, 22, 23, 24, 25, 26, 27, 28, 29, 30, 31, 32, 33, 34, 35, 36, 37, 38, 39, 40, 41, 42, 43, 44, 45, 46, 50, 51, 52, 53, 54, 55, 56, 57, 58, 59, 60, 61, 62, 63, 64, 65, 66, 67, 78, 79, 80, 81, 82, 83, 84] (by decide +kernel) (by decide +kernel)
set_option maxRecDepth 20000 in
theorem gX4_net_X4_remember : GoodIn wsX4_net (wsV RX4 147 RX4 yX4_remember wsX4_remember) := goodIn_app (goodIn_of _ (by decide +kernel)) ggX4_net_X4_remember
set_option maxRecDepth 20000 in
theorem ggX4_net_X4_bitOf : GoodIn wsX4_net wsX4_bitOf := goodIn_r _ [49] (by decide +kernel) (by decide +kernel)
set_option maxRecDepth 20000 in
theorem gX4_net_X4_bitOf : GoodIn wsX4_net (va_wsS RX4 91 yX4_bitOf wsX4_bitOf) := goodIn_app (goodIn_of _ (by decide +kernel)) ggX4_net_X4_bitOf
theorem dX4_net_0 : decode cX4_net 0 = .ok (.aload_n 0, 1) := by decide +kernel
theorem dX4_net_1 : decode cX4_net 1 = .ok (.iload_n 1, 1) := by decide +kernel
theorem dX4_net_2 : decode cX4_net 2 = .ok (.invokevirtual 80, 3) := by decide +kernel
theorem dX4_net_5 : decode cX4_net 5 = .ok (.ifCond .eq 12, 3) := by decide +kernel
theorem dX4_net_8 : decode cX4_net 8 = .ok (.iload_n 2, 1) := by decide +kernel
theorem dX4_net_9 : decode cX4_net 9 = .ok (.iconst 0, 1) := by decide +kernel
theorem dX4_net_10 : decode cX4_net 10 = .ok (.iconst 1, 1) := by decide +kernel
theorem dX4_net_11 : decode cX4_net 11 = .ok (.invokestatic 54, 3) := by decide +kernel
theorem dX4_net_14 : decode cX4_net 14 = .ok (.ifCond .ne 5, 3) := by decide +kernel
theorem dX4_net_17 : decode cX4_net 17 = .ok (.iconst (-1), 1) := by decide +kernel
theorem dX4_net_18 : decode cX4_net 18 = .ok (.ireturn, 1) := by decide +kernel
theorem dX4_net_19 : decode cX4_net 19 = .ok (.aload_n 0, 1) := by decide +kernel
theorem dX4_net_20 : decode cX4_net 20 = .ok (.invokevirtual 147, 3) := by decide +kernel
theorem dX4_net_23 : decode cX4_net 23 = .ok (.aload_n 0, 1) := by decide +kernel
theorem dX4_net_24 : decode cX4_net 24 = .ok (.getfield 29, 3) := by decide +kernel
theorem dX4_net_27 : decode cX4_net 27 = .ok (.getfield 88, 3) := by decide +kernel
theorem dX4_net_30 : decode cX4_net 30 = .ok (.iload_n 1, 1) := by decide +kernel
theorem dX4_net_31 : decode cX4_net 31 = .ok (.invokestatic 91, 3) := by decide +kernel
theorem dX4_net_34 : decode cX4_net 34 = .ok (.istore_n 3, 1) := by decide +kernel
theorem dX4_net_35 : decode cX4_net 35 = .ok (.aload_n 0, 1) := by decide +kernel
theorem dX4_net_36 : decode cX4_net 36 = .ok (.getfield 29, 3) := by decide +kernel
theorem dX4_net_39 : decode cX4_net 39 = .ok (.iload_n 2, 1) := by decide +kernel
theorem dX4_net_40 : decode cX4_net 40 = .ok (.iconst 1, 1) := by decide +kernel
theorem dX4_net_41 : decode cX4_net 41 = .ok (.if_icmp .ne 17, 3) := by decide +kernel
theorem dX4_net_44 : decode cX4_net 44 = .ok (.aload_n 0, 1) := by decide +kernel
theorem dX4_net_45 : decode cX4_net 45 = .ok (.getfield 29, 3) := by decide +kernel
theorem dX4_net_48 : decode cX4_net 48 = .ok (.getfield 88, 3) := by decide +kernel
theorem dX4_net_51 : decode cX4_net 51 = .ok (.iconst 1, 1) := by decide +kernel
theorem dX4_net_52 : decode cX4_net 52 = .ok (.iload_n 1, 1) := by decide +kernel
theorem dX4_net_53 : decode cX4_net 53 = .ok (.ishl, 1) := by decide +kernel
theorem dX4_net_54 : decode cX4_net 54 = .ok (.ior, 1) := by decide +kernel
theorem dX4_net_55 : decode cX4_net 55 = .ok (.goto 16, 3) := by decide +kernel
theorem dX4_net_58 : decode cX4_net 58 = .ok (.aload_n 0, 1) := by decide +kernel
theorem dX4_net_59 : decode cX4_net 59 = .ok (.getfield 29, 3) := by decide +kernel
theorem dX4_net_62 : decode cX4_net 62 = .ok (.getfield 88, 3) := by decide +kernel
theorem dX4_net_65 : decode cX4_net 65 = .ok (.iconst 1, 1) := by decide +kernel
theorem dX4_net_66 : decode cX4_net 66 = .ok (.iload_n 1, 1) := by decide +kernel
theorem dX4_net_67 : decode cX4_net 67 = .ok (.ishl, 1) := by decide +kernel
theorem dX4_net_68 : decode cX4_net 68 = .ok (.iconst (-1), 1) := by decide +kernel
theorem dX4_net_69 : decode cX4_net 69 = .ok (.ixor, 1) := by decide +kernel
theorem dX4_net_70 : decode cX4_net 70 = .ok (.iand, 1) := by decide +kernel
theorem dX4_net_71 : decode cX4_net 71 = .ok (.putfield 88, 3) := by decide +kernel
theorem dX4_net_74 : decode cX4_net 74 = .ok (.iload_n 3, 1) := by decide +kernel
theorem dX4_net_75 : decode cX4_net 75 = .ok (.ireturn, 1) := by decide +kernel
set_option maxRecDepth 20000 in
theorem kX4_net_29 : Cond.fieldLink RX4 29 "WindPost" "now" "LWindPost$Moment;" ∈ wsX4_net := by decide +kernel
set_option maxRecDepth 20000 in
theorem kX4_net_88 : Cond.fieldLink RX4 88 "WindPost$Moment" "nets" "I" ∈ wsX4_net := by decide +kernel
set_option maxRecDepth 20000 in
theorem uX4_net_X2 : ∀ w ∈ wsX20, w ∈ wsX4_net := by decide +kernel
set_option maxRecDepth 20000 in
theorem uX4_net_X4 : ∀ w ∈ wsX40, w ∈ wsX4_net := by decide +kernel
set_option maxHeartbeats 8000000 in
set_option maxRecDepth 100000 in
theorem mX4_net (l : Launch) (D : va_G) (ki : Nat → ClassId) (ad : Nat → Nat) (cs : List Nat) (hcs : kW cs) (N : Nat) (a1 : Int32) (a2 : Int32) (G : zMem) (tr : Int64) : gMetI l D ki ad cs yX4_net wsX4_net { frames := 3, cells := 0, slots := 0, locals := 63 } [.ref (ad 0), .int a1, .int a2] (xE ki ad) G tr (fX4_net N a1 a2 G tr) := by
  refine gMetI_of (cc := cX4_net) (maxL := 4) (ret := (some .int)) (own := RX4) (by decide +kernel) rfl rfl (Nat.le_of_ble_eq_true rfl) ?_
  intro r9 G9 tr9 h p e s m below meth c S hr hlk K X ls hl
  have hl : lv_has ls 4 [(0, .ref (ad 0)), (1, .int a1), (2, .int a2)] := hl
  have b71 : ∀ (x3 : Int32) (s0 : Int32) (G : zMem) (tr : Int64), fX4_net_b71 N a1 a2 x3 s0 G tr = some (r9, G9, tr9) → zAt p l e (headSpec wsX4_net { frames := 3, cells := 0, slots := 0, locals := 63 }).room s m ([.ref (ad 0), .int a1, .int a2] : List Value).toArray below meth c 4 D cs ad (zQI below ([.ref (ad 0), .int a1, .int a2] : List Value).toArray s D cs ad ((xE ki ad) G9 tr9) r9) 71 [(3, .int x3)] [.int s0, .ref (ad 18)] ((xE ki ad) G tr) := by
    intro x3 s0 G tr h H locs ls X hl
    unfold fX4_net_b71 at h
    refine zr_put (xv := s0) (v := .int s0) (fsf := (fsM ad 18)) (ty := .int) S K X ((kM_now hcs).2 0 (by decide)) xE_loc (fun _ => (xE_M (kM_now hcs))) rfl uX4_net_X2 tyX2 tyX2_ok nmX2 2 (by decide) kX4_net_88 rfl (by decide +kernel) rfl rfl (by simp) rfl dX4_net_71 (fun H locs X => ?_)
    refine lv_iload_n S.1 S.2.1 dX4_net_74 rfl (lv_at hl 0 rfl) ?_
    exact zr_iret S hr hlk X h dX4_net_75
  unfold fX4_net at h
  obtain ⟨H, hH⟩ : ∃ H, H = s.heap := ⟨_, rfl⟩
  obtain ⟨locs, hlo⟩ : ∃ locs : List Loc, locs = [] := ⟨_, rfl⟩
  have X : gS D cs ad ((xE ki ad) G tr) (gA cs ad s.heap.size) s H locs := by rw [hH, hlo]; exact X
  suffices z : W p l e (headSpec wsX4_net { frames := 3, cells := 0, slots := 0, locals := 63 }).room s m ([.ref (ad 0), .int a1, .int a2] : List Value).toArray below meth c H locs 0 0 (zQI below ([.ref (ad 0), .int a1, .int a2] : List Value).toArray s D cs ad ((xE ki ad) G9 tr9) r9) (F0 m 0 ls []) by rw [hH, hlo] at z; exact z
  clear hH hlo
  refine lv_aload_n S.1 S.2.1 dX4_net_0 rfl (lv_at hl 0 rfl) ?_
  refine lv_iload_n S.1 S.2.1 dX4_net_1 rfl (lv_at hl 1 rfl) ?_
  obtain ⟨r_2, G_3, tr_4, hf_1, h⟩ := zbd_some h
  refine zr_calli (Eg := (xE ki ad)) K X (va_runV (As := [.int a1]) (rest := []) S (mX4_isIsle l D ki ad cs hcs N a1 G tr H.size _ _ _ hf_1) (cwV 1 S.2.2.2.2 gX4_net_X4_isIsle rfl rfl rfl (by decide +kernel) ⟨Nat.le_of_ble_eq_true rfl, Nat.le_of_ble_eq_true rfl⟩) (zr_preV (c0 := 0) K X (hcs 0 (by decide)) xE_W rfl) rfl rfl hl.1 rfl (lv_room (Nat.le_of_ble_eq_true rfl)) dX4_net_2 ⟨Nat.zero_le _, Nat.zero_le _⟩) (fun H locs X => ?_)
  refine lv_if_eq (tgt := 17) S.1 S.2.1 dX4_net_5 (by decide) (fun hc_5 => ?_) (fun hc_5 => ?_)
  · have h := zif_pos hc_5 h
    refine lv_iconst (v := (-1 : Int32)) S.1 S.2.1 dX4_net_17 (by decide) ?_
    exact zr_iret S hr hlk X h dX4_net_18
  · have h := zif_neg hc_5 h
    refine lv_iload_n S.1 S.2.1 dX4_net_8 rfl (lv_at hl 2 rfl) ?_
    refine lv_iconst (v := (0 : Int32)) S.1 S.2.1 dX4_net_9 (by decide) ?_
    refine lv_iconst (v := (1 : Int32)) S.1 S.2.1 dX4_net_10 (by decide) ?_
    obtain ⟨r_7, hf_6, h⟩ := zbp_some h
    refine zr_calli (Eg := (xE ki ad)) (G' := G_3) (tr' := tr_4) K X (va_runS (As := [.int a2, .int (0 : Int32), .int (1 : Int32)]) (rest := []) S (mX4_isWithin l D ki ad cs N a2 (0 : Int32) (1 : Int32) (xE ki ad) G_3 tr_4 H.size _ _ _ (zpu_of hf_6)) (va_cwS 3 S.2.2.2.2 gX4_net_X4_isWithin rfl rfl rfl (by decide +kernel) ⟨Nat.le_of_ble_eq_true rfl, Nat.le_of_ble_eq_true rfl⟩) (zr_pre K X) rfl rfl hl.1 rfl (lv_room (Nat.le_of_ble_eq_true rfl)) dX4_net_11 ⟨Nat.zero_le _, Nat.zero_le _⟩) (fun H locs X => ?_)
    refine lv_if_ne (tgt := 19) S.1 S.2.1 dX4_net_14 (by decide) (fun hc_8 => ?_) (fun hc_8 => ?_)
    · have h := zif_neg hc_8 h
      refine lv_aload_n S.1 S.2.1 dX4_net_19 rfl (lv_at hl 0 rfl) ?_
      obtain ⟨r_10, G_11, tr_12, hf_9, h⟩ := zbd_some h
      refine zr_callv (Eg := (xE ki ad)) K X (va_runV (As := []) (rest := []) S (mX4_remember l D ki ad cs hcs N G_3 tr_4 H.size _ _ _ hf_9) (cwV 0 S.2.2.2.2 gX4_net_X4_remember rfl rfl rfl (by decide +kernel) ⟨Nat.le_of_ble_eq_true rfl, Nat.le_of_ble_eq_true rfl⟩) (zr_preV (c0 := 0) K X (hcs 0 (by decide)) xE_W rfl) rfl rfl hl.1 rfl (lv_room (Nat.le_of_ble_eq_true rfl)) dX4_net_20 ⟨Nat.zero_le _, Nat.zero_le _⟩) (fun H locs X => ?_)
      refine lv_aload_n S.1 S.2.1 dX4_net_23 rfl (lv_at hl 0 rfl) ?_
      refine zr_get (v := .ref (ad 18)) S K X (hcs 0 (by decide)) xE_W rfl uX4_net_X4 3 (by decide) kX4_net_29 rfl rfl dX4_net_24 ?_
      refine zr_get (v := .int (G_11 18 2)) S K X ((kM_now hcs).2 0 (by decide)) (xE_M (kM_now hcs)) rfl uX4_net_X2 2 (by decide) kX4_net_88 rfl rfl dX4_net_27 ?_
      refine lv_iload_n S.1 S.2.1 dX4_net_30 rfl (lv_at hl 1 rfl) ?_
      obtain ⟨r_14, hf_13, h⟩ := zbp_some h
      refine zr_calli (Eg := (xE ki ad)) (G' := G_11) (tr' := tr_12) K X (va_runS (As := [.int (G_11 18 2), .int a1]) (rest := []) S (mX4_bitOf l D ki ad cs N (G_11 18 2) a1 (xE ki ad) G_11 tr_12 H.size _ _ _ (zpu_of hf_13)) (va_cwS 2 S.2.2.2.2 gX4_net_X4_bitOf rfl rfl rfl (by decide +kernel) ⟨Nat.le_of_ble_eq_true rfl, Nat.le_of_ble_eq_true rfl⟩) (zr_pre K X) rfl rfl hl.1 rfl (lv_room (Nat.le_of_ble_eq_true rfl)) dX4_net_31 ⟨Nat.zero_le _, Nat.zero_le _⟩) (fun H locs X => ?_)
      refine lv_istore_n (lv' := [(3, .int r_14), (0, .ref (ad 0)), (1, .int a1), (2, .int a2)]) S.1 S.2.1 dX4_net_34 rfl hl (by decide) rfl (fun ls hl => ?_)
      refine lv_aload_n S.1 S.2.1 dX4_net_35 rfl (lv_at hl 1 rfl) ?_
      refine zr_get (v := .ref (ad 18)) S K X (hcs 0 (by decide)) xE_W rfl uX4_net_X4 3 (by decide) kX4_net_29 rfl rfl dX4_net_36 ?_
      refine lv_iload_n S.1 S.2.1 dX4_net_39 rfl (lv_at hl 3 rfl) ?_
      refine lv_iconst (v := (1 : Int32)) S.1 S.2.1 dX4_net_40 (by decide) ?_
      refine lv_icmp_ne (tgt := 58) S.1 S.2.1 dX4_net_41 (by decide) (fun hc_15 => ?_) (fun hc_15 => ?_)
      · have h := zif_neg hc_15 h
        refine lv_aload_n S.1 S.2.1 dX4_net_58 rfl (lv_at hl 1 rfl) ?_
        refine zr_get (v := .ref (ad 18)) S K X (hcs 0 (by decide)) xE_W rfl uX4_net_X4 3 (by decide) kX4_net_29 rfl rfl dX4_net_59 ?_
        refine zr_get (v := .int (G_11 18 2)) S K X ((kM_now hcs).2 0 (by decide)) (xE_M (kM_now hcs)) rfl uX4_net_X2 2 (by decide) kX4_net_88 rfl rfl dX4_net_62 ?_
        refine lv_iconst (v := (1 : Int32)) S.1 S.2.1 dX4_net_65 (by decide) ?_
        refine lv_iload_n S.1 S.2.1 dX4_net_66 rfl (lv_at hl 2 rfl) ?_
        refine lv_ishl S.1 S.2.1 dX4_net_67 ?_
        refine lv_iconst (v := (-1 : Int32)) S.1 S.2.1 dX4_net_68 (by decide) ?_
        refine lv_ixor S.1 S.2.1 dX4_net_69 ?_
        refine lv_iand S.1 S.2.1 dX4_net_70 ?_
        exact b71 r_14 ((G_11 18 2) &&& (((1 : Int32) <<< (a1 &&& 31)) ^^^ (-1 : Int32))) G_11 tr_12 h _ _ _ X (lv_sub hl [0] rfl)
      · have h := zif_pos hc_15 h
        refine lv_aload_n S.1 S.2.1 dX4_net_44 rfl (lv_at hl 1 rfl) ?_
        refine zr_get (v := .ref (ad 18)) S K X (hcs 0 (by decide)) xE_W rfl uX4_net_X4 3 (by decide) kX4_net_29 rfl rfl dX4_net_45 ?_
        refine zr_get (v := .int (G_11 18 2)) S K X ((kM_now hcs).2 0 (by decide)) (xE_M (kM_now hcs)) rfl uX4_net_X2 2 (by decide) kX4_net_88 rfl rfl dX4_net_48 ?_
        refine lv_iconst (v := (1 : Int32)) S.1 S.2.1 dX4_net_51 (by decide) ?_
        refine lv_iload_n S.1 S.2.1 dX4_net_52 rfl (lv_at hl 2 rfl) ?_
        refine lv_ishl S.1 S.2.1 dX4_net_53 ?_
        refine lv_ior S.1 S.2.1 dX4_net_54 ?_
        refine lv_goto (tgt := 71) S.1 S.2.1 dX4_net_55 (by decide) ?_
        exact b71 r_14 ((G_11 18 2) ||| ((1 : Int32) <<< (a1 &&& 31))) G_11 tr_12 h _ _ _ X (lv_sub hl [0] rfl)
    · have h := zif_pos hc_8 h
      refine lv_iconst (v := (-1 : Int32)) S.1 S.2.1 dX4_net_17 (by decide) ?_
      exact zr_iret S hr hlk X h dX4_net_18
set_option maxRecDepth 20000 in
theorem ggX4_turn_X4_isWithin : GoodIn wsX4_turn wsX4_isWithin := goodIn_r _ [7] (by decide +kernel) (by decide +kernel)
set_option maxRecDepth 20000 in
theorem gX4_turn_X4_isWithin : GoodIn wsX4_turn (va_wsS RX4 54 yX4_isWithin wsX4_isWithin) := goodIn_app (goodIn_of _ (by decide +kernel)) ggX4_turn_X4_isWithin
set_option maxRecDepth 20000 in
theorem ggX4_turn_X4_remember : GoodIn wsX4_turn wsX4_remember := goodIn_r _ [11, 12, 13, 1, 14, 15, 16, 17, 18, 19, 20, 21, 22, 23, 24, 25, 26, 27, 28, 29, 30, 31, 32, 33, 34, 35, 36, 37, 38, 39, 40, 41, 42, 43, 44, 45, 46, 47, 48, 49, 50, 51, 52, 53, 54, 55, 56, 57, 58, 59, 60, 61, 62, 63, 64, 65, 66] (by decide +kernel) (by decide +kernel)
set_option maxRecDepth 20000 in
theorem gX4_turn_X4_remember : GoodIn wsX4_turn (wsV RX4 147 RX4 yX4_remember wsX4_remember) := goodIn_app (goodIn_of _ (by decide +kernel)) ggX4_turn_X4_remember
theorem dX4_turn_0 : decode cX4_turn 0 = .ok (.iload_n 1, 1) := by decide +kernel
theorem dX4_turn_1 : decode cX4_turn 1 = .ok (.iconst 0, 1) := by decide +kernel
theorem dX4_turn_2 : decode cX4_turn 2 = .ok (.aload_n 0, 1) := by decide +kernel
theorem dX4_turn_3 : decode cX4_turn 3 = .ok (.getfield 29, 3) := by decide +kernel
theorem dX4_turn_6 : decode cX4_turn 6 = .ok (.getfield 158, 3) := by decide +kernel
theorem dX4_turn_9 : decode cX4_turn 9 = .ok (.iconst 1, 1) := by decide +kernel
theorem dX4_turn_10 : decode cX4_turn 10 = .ok (.isub, 1) := by decide +kernel
theorem dX4_turn_11 : decode cX4_turn 11 = .ok (.invokestatic 54, 3) := by decide +kernel
theorem dX4_turn_14 : decode cX4_turn 14 = .ok (.ifCond .eq 12, 3) := by decide +kernel
theorem dX4_turn_17 : decode cX4_turn 17 = .ok (.iload_n 2, 1) := by decide +kernel
theorem dX4_turn_18 : decode cX4_turn 18 = .ok (.iconst 0, 1) := by decide +kernel
theorem dX4_turn_19 : decode cX4_turn 19 = .ok (.iconst 4, 1) := by decide +kernel
theorem dX4_turn_20 : decode cX4_turn 20 = .ok (.invokestatic 54, 3) := by decide +kernel
theorem dX4_turn_23 : decode cX4_turn 23 = .ok (.ifCond .ne 5, 3) := by decide +kernel
theorem dX4_turn_26 : decode cX4_turn 26 = .ok (.iconst (-1), 1) := by decide +kernel
theorem dX4_turn_27 : decode cX4_turn 27 = .ok (.ireturn, 1) := by decide +kernel
theorem dX4_turn_28 : decode cX4_turn 28 = .ok (.aload_n 0, 1) := by decide +kernel
theorem dX4_turn_29 : decode cX4_turn 29 = .ok (.invokevirtual 147, 3) := by decide +kernel
theorem dX4_turn_32 : decode cX4_turn 32 = .ok (.aload_n 0, 1) := by decide +kernel
theorem dX4_turn_33 : decode cX4_turn 33 = .ok (.getfield 29, 3) := by decide +kernel
theorem dX4_turn_36 : decode cX4_turn 36 = .ok (.getfield 161, 3) := by decide +kernel
theorem dX4_turn_39 : decode cX4_turn 39 = .ok (.iload_n 1, 1) := by decide +kernel
theorem dX4_turn_40 : decode cX4_turn 40 = .ok (.iaload, 1) := by decide +kernel
theorem dX4_turn_41 : decode cX4_turn 41 = .ok (.istore_n 3, 1) := by decide +kernel
theorem dX4_turn_42 : decode cX4_turn 42 = .ok (.aload_n 0, 1) := by decide +kernel
theorem dX4_turn_43 : decode cX4_turn 43 = .ok (.getfield 29, 3) := by decide +kernel
theorem dX4_turn_46 : decode cX4_turn 46 = .ok (.getfield 161, 3) := by decide +kernel
theorem dX4_turn_49 : decode cX4_turn 49 = .ok (.iload_n 1, 1) := by decide +kernel
theorem dX4_turn_50 : decode cX4_turn 50 = .ok (.iload_n 2, 1) := by decide +kernel
theorem dX4_turn_51 : decode cX4_turn 51 = .ok (.iastore, 1) := by decide +kernel
theorem dX4_turn_52 : decode cX4_turn 52 = .ok (.iload_n 3, 1) := by decide +kernel
theorem dX4_turn_53 : decode cX4_turn 53 = .ok (.ireturn, 1) := by decide +kernel
set_option maxRecDepth 20000 in
theorem kX4_turn_29 : Cond.fieldLink RX4 29 "WindPost" "now" "LWindPost$Moment;" ∈ wsX4_turn := by decide +kernel
set_option maxRecDepth 20000 in
theorem kX4_turn_158 : Cond.fieldLink RX4 158 "WindPost$Moment" "told" "I" ∈ wsX4_turn := by decide +kernel
set_option maxRecDepth 20000 in
theorem kX4_turn_161 : Cond.fieldLink RX4 161 "WindPost$Moment" "winds" "[I" ∈ wsX4_turn := by decide +kernel
set_option maxRecDepth 20000 in
theorem uX4_turn_X2 : ∀ w ∈ wsX20, w ∈ wsX4_turn := by decide +kernel
set_option maxRecDepth 20000 in
theorem uX4_turn_X4 : ∀ w ∈ wsX40, w ∈ wsX4_turn := by decide +kernel
set_option maxHeartbeats 8000000 in
set_option maxRecDepth 100000 in
theorem mX4_turn (l : Launch) (D : va_G) (ki : Nat → ClassId) (ad : Nat → Nat) (cs : List Nat) (hcs : kW cs) (N : Nat) (a1 : Int32) (a2 : Int32) (G : zMem) (tr : Int64) : gMetI l D ki ad cs yX4_turn wsX4_turn { frames := 3, cells := 0, slots := 0, locals := 63 } [.ref (ad 0), .int a1, .int a2] (xE ki ad) G tr (fX4_turn N a1 a2 G tr) := by
  refine gMetI_of (cc := cX4_turn) (maxL := 4) (ret := (some .int)) (own := RX4) (by decide +kernel) rfl rfl (Nat.le_of_ble_eq_true rfl) ?_
  intro r9 G9 tr9 h p e s m below meth c S hr hlk K X ls hl
  have hl : lv_has ls 4 [(0, .ref (ad 0)), (1, .int a1), (2, .int a2)] := hl
  unfold fX4_turn at h
  obtain ⟨H, hH⟩ : ∃ H, H = s.heap := ⟨_, rfl⟩
  obtain ⟨locs, hlo⟩ : ∃ locs : List Loc, locs = [] := ⟨_, rfl⟩
  have X : gS D cs ad ((xE ki ad) G tr) (gA cs ad s.heap.size) s H locs := by rw [hH, hlo]; exact X
  suffices z : W p l e (headSpec wsX4_turn { frames := 3, cells := 0, slots := 0, locals := 63 }).room s m ([.ref (ad 0), .int a1, .int a2] : List Value).toArray below meth c H locs 0 0 (zQI below ([.ref (ad 0), .int a1, .int a2] : List Value).toArray s D cs ad ((xE ki ad) G9 tr9) r9) (F0 m 0 ls []) by rw [hH, hlo] at z; exact z
  clear hH hlo
  refine lv_iload_n S.1 S.2.1 dX4_turn_0 rfl (lv_at hl 1 rfl) ?_
  refine lv_iconst (v := (0 : Int32)) S.1 S.2.1 dX4_turn_1 (by decide) ?_
  refine lv_aload_n S.1 S.2.1 dX4_turn_2 rfl (lv_at hl 0 rfl) ?_
  refine zr_get (v := .ref (ad 18)) S K X (hcs 0 (by decide)) xE_W rfl uX4_turn_X4 3 (by decide) kX4_turn_29 rfl rfl dX4_turn_3 ?_
  refine zr_get (v := .int (G 18 3)) S K X ((kM_now hcs).2 0 (by decide)) (xE_M (kM_now hcs)) rfl uX4_turn_X2 3 (by decide) kX4_turn_158 rfl rfl dX4_turn_6 ?_
  refine lv_iconst (v := (1 : Int32)) S.1 S.2.1 dX4_turn_9 (by decide) ?_
  refine lv_isub S.1 S.2.1 dX4_turn_10 ?_
  obtain ⟨r_2, hf_1, h⟩ := zbp_some h
  refine zr_calli (Eg := (xE ki ad)) (G' := G) (tr' := tr) K X (va_runS (As := [.int a1, .int (0 : Int32), .int ((G 18 3) - (1 : Int32))]) (rest := []) S (mX4_isWithin l D ki ad cs N a1 (0 : Int32) ((G 18 3) - (1 : Int32)) (xE ki ad) G tr H.size _ _ _ (zpu_of hf_1)) (va_cwS 3 S.2.2.2.2 gX4_turn_X4_isWithin rfl rfl rfl (by decide +kernel) ⟨Nat.le_of_ble_eq_true rfl, Nat.le_of_ble_eq_true rfl⟩) (zr_pre K X) rfl rfl hl.1 rfl (lv_room (Nat.le_of_ble_eq_true rfl)) dX4_turn_11 ⟨Nat.zero_le _, Nat.zero_le _⟩) (fun H locs X => ?_)
  refine lv_if_eq (tgt := 26) S.1 S.2.1 dX4_turn_14 (by decide) (fun hc_3 => ?_) (fun hc_3 => ?_)
  · have h := zif_pos hc_3 h
    refine lv_iconst (v := (-1 : Int32)) S.1 S.2.1 dX4_turn_26 (by decide) ?_
    exact zr_iret S hr hlk X h dX4_turn_27
  · have h := zif_neg hc_3 h
    refine lv_iload_n S.1 S.2.1 dX4_turn_17 rfl (lv_at hl 2 rfl) ?_
    refine lv_iconst (v := (0 : Int32)) S.1 S.2.1 dX4_turn_18 (by decide) ?_
    refine lv_iconst (v := (4 : Int32)) S.1 S.2.1 dX4_turn_19 (by decide) ?_
    obtain ⟨r_5, hf_4, h⟩ := zbp_some h
    refine zr_calli (Eg := (xE ki ad)) (G' := G) (tr' := tr) K X (va_runS (As := [.int a2, .int (0 : Int32), .int (4 : Int32)]) (rest := []) S (mX4_isWithin l D ki ad cs N a2 (0 : Int32) (4 : Int32) (xE ki ad) G tr H.size _ _ _ (zpu_of hf_4)) (va_cwS 3 S.2.2.2.2 gX4_turn_X4_isWithin rfl rfl rfl (by decide +kernel) ⟨Nat.le_of_ble_eq_true rfl, Nat.le_of_ble_eq_true rfl⟩) (zr_pre K X) rfl rfl hl.1 rfl (lv_room (Nat.le_of_ble_eq_true rfl)) dX4_turn_20 ⟨Nat.zero_le _, Nat.zero_le _⟩) (fun H locs X => ?_)
    refine lv_if_ne (tgt := 28) S.1 S.2.1 dX4_turn_23 (by decide) (fun hc_6 => ?_) (fun hc_6 => ?_)
    · have h := zif_neg hc_6 h
      refine lv_aload_n S.1 S.2.1 dX4_turn_28 rfl (lv_at hl 0 rfl) ?_
      obtain ⟨r_8, G_9, tr_10, hf_7, h⟩ := zbd_some h
      refine zr_callv (Eg := (xE ki ad)) K X (va_runV (As := []) (rest := []) S (mX4_remember l D ki ad cs hcs N G tr H.size _ _ _ hf_7) (cwV 0 S.2.2.2.2 gX4_turn_X4_remember rfl rfl rfl (by decide +kernel) ⟨Nat.le_of_ble_eq_true rfl, Nat.le_of_ble_eq_true rfl⟩) (zr_preV (c0 := 0) K X (hcs 0 (by decide)) xE_W rfl) rfl rfl hl.1 rfl (lv_room (Nat.le_of_ble_eq_true rfl)) dX4_turn_29 ⟨Nat.zero_le _, Nat.zero_le _⟩) (fun H locs X => ?_)
      refine lv_aload_n S.1 S.2.1 dX4_turn_32 rfl (lv_at hl 0 rfl) ?_
      refine zr_get (v := .ref (ad 18)) S K X (hcs 0 (by decide)) xE_W rfl uX4_turn_X4 3 (by decide) kX4_turn_29 rfl rfl dX4_turn_33 ?_
      refine zr_get (v := .ref (ad 19)) S K X ((kM_now hcs).2 0 (by decide)) (xE_M (kM_now hcs)) rfl uX4_turn_X2 4 (by decide) kX4_turn_161 rfl rfl dX4_turn_36 ?_
      refine lv_iload_n S.1 S.2.1 dX4_turn_39 rfl (lv_at hl 1 rfl) ?_
      obtain ⟨hi_11, h⟩ := zin_some h
      refine zr_iald S K X ((kM_now hcs).2 1 (by decide)) (xE_M1 (kM_now hcs)) hi_11 dX4_turn_40 ?_
      refine lv_istore_n (lv' := [(3, .int (G_9 19 (Int32.toNatClampNeg a1))), (0, .ref (ad 0)), (1, .int a1), (2, .int a2)]) S.1 S.2.1 dX4_turn_41 rfl hl (by decide) rfl (fun ls hl => ?_)
      refine lv_aload_n S.1 S.2.1 dX4_turn_42 rfl (lv_at hl 1 rfl) ?_
      refine zr_get (v := .ref (ad 18)) S K X (hcs 0 (by decide)) xE_W rfl uX4_turn_X4 3 (by decide) kX4_turn_29 rfl rfl dX4_turn_43 ?_
      refine zr_get (v := .ref (ad 19)) S K X ((kM_now hcs).2 0 (by decide)) (xE_M (kM_now hcs)) rfl uX4_turn_X2 4 (by decide) kX4_turn_161 rfl rfl dX4_turn_46 ?_
      refine lv_iload_n S.1 S.2.1 dX4_turn_49 rfl (lv_at hl 2 rfl) ?_
      refine lv_iload_n S.1 S.2.1 dX4_turn_50 rfl (lv_at hl 3 rfl) ?_
      obtain ⟨hi_12, h⟩ := zin_some h
      refine zr_iast S K X ((kM_now hcs).2 1 (by decide)) xE_loc (fun _ => (xE_M1 (kM_now hcs))) hi_12 dX4_turn_51 (fun H locs X => ?_)
      refine lv_iload_n S.1 S.2.1 dX4_turn_52 rfl (lv_at hl 0 rfl) ?_
      exact zr_iret S hr hlk X h dX4_turn_53
    · have h := zif_pos hc_6 h
      refine lv_iconst (v := (-1 : Int32)) S.1 S.2.1 dX4_turn_26 (by decide) ?_
      exact zr_iret S hr hlk X h dX4_turn_27
set_option maxRecDepth 20000 in
theorem ggX4_undo_X2_copyFrom : GoodIn wsX4_undo wsX2_copyFrom := goodIn_r _ [9, 10, 11, 12, 13, 14, 15, 16, 17, 18, 19, 20, 21, 22, 23, 24, 25, 26, 27, 40, 41, 42, 43, 44, 45, 46, 47, 48, 49, 50, 51, 52] (by decide +kernel) (by decide +kernel)
set_option maxRecDepth 20000 in
theorem gX4_undo_X2_copyFrom : GoodIn wsX4_undo (wsV RX4 167 RX2 yX2_copyFrom wsX2_copyFrom) := goodIn_app (goodIn_of _ (by decide +kernel)) ggX4_undo_X2_copyFrom
theorem dX4_undo_0 : decode cX4_undo 0 = .ok (.aload_n 0, 1) := by decide +kernel
theorem dX4_undo_1 : decode cX4_undo 1 = .ok (.getfield 77, 3) := by decide +kernel
theorem dX4_undo_4 : decode cX4_undo 4 = .ok (.iconst 1, 1) := by decide +kernel
theorem dX4_undo_5 : decode cX4_undo 5 = .ok (.if_icmp .ge 6, 3) := by decide +kernel
theorem dX4_undo_8 : decode cX4_undo 8 = .ok (.bipush (-2), 2) := by decide +kernel
theorem dX4_undo_10 : decode cX4_undo 10 = .ok (.ireturn, 1) := by decide +kernel
theorem dX4_undo_11 : decode cX4_undo 11 = .ok (.aload_n 0, 1) := by decide +kernel
theorem dX4_undo_12 : decode cX4_undo 12 = .ok (.aload_n 0, 1) := by decide +kernel
theorem dX4_undo_13 : decode cX4_undo 13 = .ok (.getfield 164, 3) := by decide +kernel
theorem dX4_undo_16 : decode cX4_undo 16 = .ok (.ifCond .le 12, 3) := by decide +kernel
theorem dX4_undo_19 : decode cX4_undo 19 = .ok (.aload_n 0, 1) := by decide +kernel
theorem dX4_undo_20 : decode cX4_undo 20 = .ok (.getfield 164, 3) := by decide +kernel
theorem dX4_undo_23 : decode cX4_undo 23 = .ok (.iconst 1, 1) := by decide +kernel
theorem dX4_undo_24 : decode cX4_undo 24 = .ok (.isub, 1) := by decide +kernel
theorem dX4_undo_25 : decode cX4_undo 25 = .ok (.goto 5, 3) := by decide +kernel
theorem dX4_undo_28 : decode cX4_undo 28 = .ok (.bipush 9, 2) := by decide +kernel
theorem dX4_undo_30 : decode cX4_undo 30 = .ok (.putfield 164, 3) := by decide +kernel
theorem dX4_undo_33 : decode cX4_undo 33 = .ok (.aload_n 0, 1) := by decide +kernel
theorem dX4_undo_34 : decode cX4_undo 34 = .ok (.getfield 29, 3) := by decide +kernel
theorem dX4_undo_37 : decode cX4_undo 37 = .ok (.aload_n 0, 1) := by decide +kernel
theorem dX4_undo_38 : decode cX4_undo 38 = .ok (.getfield 33, 3) := by decide +kernel
theorem dX4_undo_41 : decode cX4_undo 41 = .ok (.aload_n 0, 1) := by decide +kernel
theorem dX4_undo_42 : decode cX4_undo 42 = .ok (.getfield 164, 3) := by decide +kernel
theorem dX4_undo_45 : decode cX4_undo 45 = .ok (.aaload, 1) := by decide +kernel
theorem dX4_undo_46 : decode cX4_undo 46 = .ok (.invokevirtual 167, 3) := by decide +kernel
theorem dX4_undo_49 : decode cX4_undo 49 = .ok (.aload_n 0, 1) := by decide +kernel
theorem dX4_undo_50 : decode cX4_undo 50 = .ok (.dup, 1) := by decide +kernel
theorem dX4_undo_51 : decode cX4_undo 51 = .ok (.getfield 77, 3) := by decide +kernel
theorem dX4_undo_54 : decode cX4_undo 54 = .ok (.iconst 1, 1) := by decide +kernel
theorem dX4_undo_55 : decode cX4_undo 55 = .ok (.isub, 1) := by decide +kernel
theorem dX4_undo_56 : decode cX4_undo 56 = .ok (.putfield 77, 3) := by decide +kernel
theorem dX4_undo_59 : decode cX4_undo 59 = .ok (.aload_n 0, 1) := by decide +kernel
theorem dX4_undo_60 : decode cX4_undo 60 = .ok (.getfield 77, 3) := by decide +kernel
theorem dX4_undo_63 : decode cX4_undo 63 = .ok (.ireturn, 1) := by decide +kernel
set_option maxRecDepth 20000 in
theorem kX4_undo_29 : Cond.fieldLink RX4 29 "WindPost" "now" "LWindPost$Moment;" ∈ wsX4_undo := by decide +kernel
set_option maxRecDepth 20000 in
theorem kX4_undo_33 : Cond.fieldLink RX4 33 "WindPost" "past" "[LWindPost$Moment;" ∈ wsX4_undo := by decide +kernel
set_option maxRecDepth 20000 in
theorem kX4_undo_77 : Cond.fieldLink RX4 77 "WindPost" "pastKnown" "I" ∈ wsX4_undo := by decide +kernel
set_option maxRecDepth 20000 in
theorem kX4_undo_164 : Cond.fieldLink RX4 164 "WindPost" "pastNext" "I" ∈ wsX4_undo := by decide +kernel
set_option maxRecDepth 20000 in
theorem uX4_undo_X4 : ∀ w ∈ wsX40, w ∈ wsX4_undo := by decide +kernel
set_option maxHeartbeats 8000000 in
set_option maxRecDepth 100000 in
theorem mX4_undo (l : Launch) (D : va_G) (ki : Nat → ClassId) (ad : Nat → Nat) (cs : List Nat) (hcs : kW cs) (N : Nat) (G : zMem) (tr : Int64) : gMetI l D ki ad cs yX4_undo wsX4_undo { frames := 2, cells := 0, slots := 0, locals := 43 } [.ref (ad 0)] (xE ki ad) G tr (fX4_undo N G tr) := by
  refine gMetI_of (cc := cX4_undo) (maxL := 1) (ret := (some .int)) (own := RX4) (by decide +kernel) rfl rfl (Nat.le_of_ble_eq_true rfl) ?_
  intro r9 G9 tr9 h p e s m below meth c S hr hlk K X ls hl
  have hl : lv_has ls 1 [(0, .ref (ad 0))] := hl
  have b30 : ∀ (s0 : Int32) (G : zMem) (tr : Int64), fX4_undo_b30 N s0 G tr = some (r9, G9, tr9) → zAt p l e (headSpec wsX4_undo { frames := 2, cells := 0, slots := 0, locals := 43 }).room s m ([.ref (ad 0)] : List Value).toArray below meth c 1 D cs ad (zQI below ([.ref (ad 0)] : List Value).toArray s D cs ad ((xE ki ad) G9 tr9) r9) 30 [(0, .ref (ad 0))] [.int s0, .ref (ad 0)] ((xE ki ad) G tr) := by
    intro s0 G tr h H locs ls X hl
    unfold fX4_undo_b30 at h
    refine zr_put (xv := s0) (v := .int s0) (fsf := (fsW ad tr)) (ty := .int) S K X (hcs 0 (by decide)) xE_loc (fun _ => xE_W) rfl uX4_undo_X4 tyX4 tyX4_ok nmX4 5 (by decide) kX4_undo_164 rfl (by decide +kernel) rfl rfl (by simp) rfl dX4_undo_30 (fun H locs X => ?_)
    refine lv_aload_n S.1 S.2.1 dX4_undo_33 rfl (lv_at hl 0 rfl) ?_
    refine zr_get (v := .ref (ad 18)) S K X (hcs 0 (by decide)) xE_W rfl uX4_undo_X4 3 (by decide) kX4_undo_29 rfl rfl dX4_undo_34 ?_
    refine lv_aload_n S.1 S.2.1 dX4_undo_37 rfl (lv_at hl 0 rfl) ?_
    refine zr_get (v := .ref (ad 15)) S K X (hcs 0 (by decide)) xE_W rfl uX4_undo_X4 4 (by decide) kX4_undo_33 rfl rfl dX4_undo_38 ?_
    refine lv_aload_n S.1 S.2.1 dX4_undo_41 rfl (lv_at hl 0 rfl) ?_
    refine zr_get (v := .int ((up2 G 0 5 s0) 0 5)) S K X (hcs 0 (by decide)) xE_W rfl uX4_undo_X4 5 (by decide) kX4_undo_164 rfl rfl dX4_undo_42 ?_
    obtain ⟨hi_1, h⟩ := zin_some h
    refine zr_aald (f := (fun j => 26 + 8 * j)) (t0 := 3) (C := "WindPost$Moment") S K X (hcs 15 (by decide)) xE_15 rfl hi_1 dX4_undo_45 ?_
    obtain ⟨r_3, G_4, tr_5, hf_2, h⟩ := zbd_some h
    refine zr_callv (Eg := (xE ki ad)) K X (va_runV (As := [.ref (ad (26 + 8 * (Int32.toNatClampNeg ((up2 G 0 5 s0) 0 5))))]) (rest := []) S (mX2_copyFrom l D ki ad cs hcs N 18 (26 + 8 * (Int32.toNatClampNeg ((up2 G 0 5 s0) 0 5))) (kM_now hcs) (kM_past hcs hi_1) (up2 G 0 5 s0) tr H.size _ _ _ hf_2) (cwV 1 S.2.2.2.2 gX4_undo_X2_copyFrom rfl rfl rfl (by decide +kernel) ⟨Nat.le_of_ble_eq_true rfl, Nat.le_of_ble_eq_true rfl⟩) (zr_preV (c0 := 18) K X ((kM_now hcs).2 0 (by decide)) (xE_M (kM_now hcs)) rfl) rfl rfl hl.1 rfl (lv_room (Nat.le_of_ble_eq_true rfl)) dX4_undo_46 ⟨Nat.zero_le _, Nat.zero_le _⟩) (fun H locs X => ?_)
    refine lv_aload_n S.1 S.2.1 dX4_undo_49 rfl (lv_at hl 0 rfl) ?_
    refine lv_dup S.1 S.2.1 dX4_undo_50 rfl ?_
    refine zr_get (v := .int (G_4 0 6)) S K X (hcs 0 (by decide)) xE_W rfl uX4_undo_X4 6 (by decide) kX4_undo_77 rfl rfl dX4_undo_51 ?_
    refine lv_iconst (v := (1 : Int32)) S.1 S.2.1 dX4_undo_54 (by decide) ?_
    refine lv_isub S.1 S.2.1 dX4_undo_55 ?_
    refine zr_put (xv := ((G_4 0 6) - (1 : Int32))) (v := .int ((G_4 0 6) - (1 : Int32))) (fsf := (fsW ad tr_5)) (ty := .int) S K X (hcs 0 (by decide)) xE_loc (fun _ => xE_W) rfl uX4_undo_X4 tyX4 tyX4_ok nmX4 6 (by decide) kX4_undo_77 rfl (by decide +kernel) rfl rfl (by simp) rfl dX4_undo_56 (fun H locs X => ?_)
    refine lv_aload_n S.1 S.2.1 dX4_undo_59 rfl (lv_at hl 0 rfl) ?_
    refine zr_get (v := .int ((up2 G_4 0 6 ((G_4 0 6) - (1 : Int32))) 0 6)) S K X (hcs 0 (by decide)) xE_W rfl uX4_undo_X4 6 (by decide) kX4_undo_77 rfl rfl dX4_undo_60 ?_
    exact zr_iret S hr hlk X h dX4_undo_63
  unfold fX4_undo at h
  obtain ⟨H, hH⟩ : ∃ H, H = s.heap := ⟨_, rfl⟩
  obtain ⟨locs, hlo⟩ : ∃ locs : List Loc, locs = [] := ⟨_, rfl⟩
  have X : gS D cs ad ((xE ki ad) G tr) (gA cs ad s.heap.size) s H locs := by rw [hH, hlo]; exact X
  suffices z : W p l e (headSpec wsX4_undo { frames := 2, cells := 0, slots := 0, locals := 43 }).room s m ([.ref (ad 0)] : List Value).toArray below meth c H locs 0 0 (zQI below ([.ref (ad 0)] : List Value).toArray s D cs ad ((xE ki ad) G9 tr9) r9) (F0 m 0 ls []) by rw [hH, hlo] at z; exact z
  clear hH hlo
  refine lv_aload_n S.1 S.2.1 dX4_undo_0 rfl (lv_at hl 0 rfl) ?_
  refine zr_get (v := .int (G 0 6)) S K X (hcs 0 (by decide)) xE_W rfl uX4_undo_X4 6 (by decide) kX4_undo_77 rfl rfl dX4_undo_1 ?_
  refine lv_iconst (v := (1 : Int32)) S.1 S.2.1 dX4_undo_4 (by decide) ?_
  refine lv_icmp_ge (tgt := 11) S.1 S.2.1 dX4_undo_5 (by decide) (fun hc_1 => ?_) (fun hc_1 => ?_)
  · have h := zif_pos hc_1 h
    refine lv_aload_n S.1 S.2.1 dX4_undo_11 rfl (lv_at hl 0 rfl) ?_
    refine lv_aload_n S.1 S.2.1 dX4_undo_12 rfl (lv_at hl 0 rfl) ?_
    refine zr_get (v := .int (G 0 5)) S K X (hcs 0 (by decide)) xE_W rfl uX4_undo_X4 5 (by decide) kX4_undo_164 rfl rfl dX4_undo_13 ?_
    refine lv_if_le (tgt := 28) S.1 S.2.1 dX4_undo_16 (by decide) (fun hc_2 => ?_) (fun hc_2 => ?_)
    · have h := zif_pos hc_2 h
      refine lv_bipush (v := (9 : Int32)) S.1 S.2.1 dX4_undo_28 (by decide) ?_
      exact b30 (9 : Int32) G tr h _ _ _ X (lv_sub hl [0] rfl)
    · have h := zif_neg hc_2 h
      refine lv_aload_n S.1 S.2.1 dX4_undo_19 rfl (lv_at hl 0 rfl) ?_
      refine zr_get (v := .int (G 0 5)) S K X (hcs 0 (by decide)) xE_W rfl uX4_undo_X4 5 (by decide) kX4_undo_164 rfl rfl dX4_undo_20 ?_
      refine lv_iconst (v := (1 : Int32)) S.1 S.2.1 dX4_undo_23 (by decide) ?_
      refine lv_isub S.1 S.2.1 dX4_undo_24 ?_
      refine lv_goto (tgt := 30) S.1 S.2.1 dX4_undo_25 (by decide) ?_
      exact b30 ((G 0 5) - (1 : Int32)) G tr h _ _ _ X (lv_sub hl [0] rfl)
  · have h := zif_neg hc_1 h
    refine lv_bipush (v := (-2 : Int32)) S.1 S.2.1 dX4_undo_8 (by decide) ?_
    exact zr_iret S hr hlk X h dX4_undo_10
set_option maxRecDepth 20000 in
theorem ggX4_passHours_X2_windOf : GoodIn wsX4_passHours wsX2_windOf := goodIn_r _ [8, 9, 10, 11, 12, 13, 14, 51, 52, 53, 54, 55, 56] (by decide +kernel) (by decide +kernel)
set_option maxRecDepth 20000 in
theorem gX4_passHours_X2_windOf : GoodIn wsX4_passHours (wsV RX4 105 RX2 yX2_windOf wsX2_windOf) := goodIn_app (goodIn_of _ (by decide +kernel)) ggX4_passHours_X2_windOf
set_option maxRecDepth 20000 in
theorem ggX4_passHours_X1_passHour : GoodIn wsX4_passHours wsX1_passHour := goodIn_r _ [19, 20, 21, 22, 23, 24, 25, 26, 27, 28, 29, 30, 31, 32, 33, 34, 35, 36, 37, 38, 57, 58, 59, 60, 61, 62, 63, 64, 65, 66, 67, 68, 69, 70, 71, 72, 73] (by decide +kernel) (by decide +kernel)
set_option maxRecDepth 20000 in
theorem gX4_passHours_X1_passHour : GoodIn wsX4_passHours (wsV RX4 154 RX1 yX1_passHour wsX1_passHour) := goodIn_app (goodIn_of _ (by decide +kernel)) ggX4_passHours_X1_passHour
theorem dX4_passHours_0 : decode cX4_passHours 0 = .ok (.iconst 0, 1) := by decide +kernel
theorem dX4_passHours_1 : decode cX4_passHours 1 = .ok (.istore 4, 2) := by decide +kernel
theorem dX4_passHours_3 : decode cX4_passHours 3 = .ok (.iload 4, 2) := by decide +kernel
theorem dX4_passHours_5 : decode cX4_passHours 5 = .ok (.iload_n 3, 1) := by decide +kernel
theorem dX4_passHours_6 : decode cX4_passHours 6 = .ok (.if_icmp .ge 35, 3) := by decide +kernel
theorem dX4_passHours_9 : decode cX4_passHours 9 = .ok (.aload_n 1, 1) := by decide +kernel
theorem dX4_passHours_10 : decode cX4_passHours 10 = .ok (.aload_n 0, 1) := by decide +kernel
theorem dX4_passHours_11 : decode cX4_passHours 11 = .ok (.getfield 19, 3) := by decide +kernel
theorem dX4_passHours_14 : decode cX4_passHours 14 = .ok (.aload_n 0, 1) := by decide +kernel
theorem dX4_passHours_15 : decode cX4_passHours 15 = .ok (.getfield 29, 3) := by decide +kernel
theorem dX4_passHours_18 : decode cX4_passHours 18 = .ok (.iload_n 2, 1) := by decide +kernel
theorem dX4_passHours_19 : decode cX4_passHours 19 = .ok (.iload 4, 2) := by decide +kernel
theorem dX4_passHours_21 : decode cX4_passHours 21 = .ok (.iadd, 1) := by decide +kernel
theorem dX4_passHours_22 : decode cX4_passHours 22 = .ok (.invokevirtual 105, 3) := by decide +kernel
theorem dX4_passHours_25 : decode cX4_passHours 25 = .ok (.aload_n 0, 1) := by decide +kernel
theorem dX4_passHours_26 : decode cX4_passHours 26 = .ok (.getfield 29, 3) := by decide +kernel
theorem dX4_passHours_29 : decode cX4_passHours 29 = .ok (.getfield 88, 3) := by decide +kernel
theorem dX4_passHours_32 : decode cX4_passHours 32 = .ok (.invokevirtual 154, 3) := by decide +kernel
theorem dX4_passHours_35 : decode cX4_passHours 35 = .ok (.iinc 4 1, 3) := by decide +kernel
theorem dX4_passHours_38 : decode cX4_passHours 38 = .ok (.goto (-35), 3) := by decide +kernel
theorem dX4_passHours_41 : decode cX4_passHours 41 = .ok (.return_, 1) := by decide +kernel
set_option maxRecDepth 20000 in
theorem kX4_passHours_19 : Cond.fieldLink RX4 19 "WindPost" "chart" "LWindPost$Chart;" ∈ wsX4_passHours := by decide +kernel
set_option maxRecDepth 20000 in
theorem kX4_passHours_29 : Cond.fieldLink RX4 29 "WindPost" "now" "LWindPost$Moment;" ∈ wsX4_passHours := by decide +kernel
set_option maxRecDepth 20000 in
theorem kX4_passHours_88 : Cond.fieldLink RX4 88 "WindPost$Moment" "nets" "I" ∈ wsX4_passHours := by decide +kernel
set_option maxRecDepth 20000 in
theorem uX4_passHours_X2 : ∀ w ∈ wsX20, w ∈ wsX4_passHours := by decide +kernel
set_option maxRecDepth 20000 in
theorem uX4_passHours_X4 : ∀ w ∈ wsX40, w ∈ wsX4_passHours := by decide +kernel
set_option maxHeartbeats 8000000 in
set_option maxRecDepth 100000 in
theorem mX4_passHours (l : Launch) (D : va_G) (ki : Nat → ClassId) (ad : Nat → Nat) (cs : List Nat) (hcs : kW cs) (N : Nat) (a1 : Nat) (a2 : Int32) (a3 : Int32) (ha1 : kL cs a1) (G : zMem) (tr : Int64) : gMetV l D ki ad cs yX4_passHours wsX4_passHours { frames := 2, cells := 0, slots := 0, locals := 48 } [.ref (ad 0), .ref (ad a1), .int a2, .int a3] (xE ki ad) G tr (fX4_passHours N a1 a2 a3 G tr) := by
  refine gMetV_of (cc := cX4_passHours) (maxL := 5) (ret := none) (own := RX4) (by decide +kernel) rfl rfl (Nat.le_of_ble_eq_true rfl) ?_
  intro r9 G9 tr9 h p e s m below meth c S hr hlk K X ls hl
  have hl : lv_has ls 5 [(0, .ref (ad 0)), (1, .ref (ad a1)), (2, .int a2), (3, .int a3)] := hl
  have b3 : ∀ (k3 : Int32 → zMem → Int64 → zR) (hk3 : ∀ (x4 : Int32) (G : zMem) (tr : Int64), k3 x4 G tr = some (r9, G9, tr9) → zAt p l e (headSpec wsX4_passHours { frames := 2, cells := 0, slots := 0, locals := 48 }).room s m ([.ref (ad 0), .ref (ad a1), .int a2, .int a3] : List Value).toArray below meth c 5 D cs ad (zQV below ([.ref (ad 0), .ref (ad a1), .int a2, .int a3] : List Value).toArray s D cs ad ((xE ki ad) G9 tr9)) 3 [(0, .ref (ad 0)), (1, .ref (ad a1)), (2, .int a2), (3, .int a3), (4, .int x4)] [] ((xE ki ad) G tr)) (x4 : Int32) (G : zMem) (tr : Int64), fX4_passHours_b3 N a1 a2 a3 k3 x4 G tr = some (r9, G9, tr9) → zAt p l e (headSpec wsX4_passHours { frames := 2, cells := 0, slots := 0, locals := 48 }).room s m ([.ref (ad 0), .ref (ad a1), .int a2, .int a3] : List Value).toArray below meth c 5 D cs ad (zQV below ([.ref (ad 0), .ref (ad a1), .int a2, .int a3] : List Value).toArray s D cs ad ((xE ki ad) G9 tr9)) 3 [(0, .ref (ad 0)), (1, .ref (ad a1)), (2, .int a2), (3, .int a3), (4, .int x4)] [] ((xE ki ad) G tr) := by
    intro k3 hk3 x4 G tr h H locs ls X hl
    unfold fX4_passHours_b3 at h
    refine lv_iload S.1 S.2.1 dX4_passHours_3 (lv_at hl 4 rfl) ?_
    refine lv_iload_n S.1 S.2.1 dX4_passHours_5 rfl (lv_at hl 3 rfl) ?_
    refine lv_icmp_ge (tgt := 41) S.1 S.2.1 dX4_passHours_6 (by decide) (fun hc_1 => ?_) (fun hc_1 => ?_)
    · have h := zif_pos hc_1 h
      exact zr_vret S hr hlk X h dX4_passHours_41
    · have h := zif_neg hc_1 h
      refine lv_aload_n S.1 S.2.1 dX4_passHours_9 rfl (lv_at hl 1 rfl) ?_
      refine lv_aload_n S.1 S.2.1 dX4_passHours_10 rfl (lv_at hl 0 rfl) ?_
      obtain ⟨hq_2, h⟩ := zch_some h
      refine zr_get (v := .ref (ad (G 0 1).toNatClampNeg)) S K X (hcs 0 (by decide)) xE_W rfl uX4_passHours_X4 1 (by decide) kX4_passHours_19 rfl rfl dX4_passHours_11 ?_
      refine lv_aload_n S.1 S.2.1 dX4_passHours_14 rfl (lv_at hl 0 rfl) ?_
      refine zr_get (v := .ref (ad 18)) S K X (hcs 0 (by decide)) xE_W rfl uX4_passHours_X4 3 (by decide) kX4_passHours_29 rfl rfl dX4_passHours_15 ?_
      refine lv_iload_n S.1 S.2.1 dX4_passHours_18 rfl (lv_at hl 2 rfl) ?_
      refine lv_iload S.1 S.2.1 dX4_passHours_19 (lv_at hl 4 rfl) ?_
      refine lv_iadd S.1 S.2.1 dX4_passHours_21 ?_
      obtain ⟨r_4, G_5, tr_6, hf_3, h⟩ := zbd_some h
      refine zr_calli (Eg := (xE ki ad)) K X (va_runV (As := [.int (a2 + x4)]) (rest := [.ref (ad (G 0 1).toNatClampNeg), .ref (ad a1)]) S (mX2_windOf l D ki ad cs hcs N 18 (a2 + x4) (kM_now hcs) G tr H.size _ _ _ hf_3) (cwV 1 S.2.2.2.2 gX4_passHours_X2_windOf rfl rfl rfl (by decide +kernel) ⟨Nat.le_of_ble_eq_true rfl, Nat.le_of_ble_eq_true rfl⟩) (zr_preV (c0 := 18) K X ((kM_now hcs).2 0 (by decide)) (xE_M (kM_now hcs)) rfl) rfl rfl hl.1 rfl (lv_room (Nat.le_of_ble_eq_true rfl)) dX4_passHours_22 ⟨Nat.zero_le _, Nat.zero_le _⟩) (fun H locs X => ?_)
      refine lv_aload_n S.1 S.2.1 dX4_passHours_25 rfl (lv_at hl 0 rfl) ?_
      refine zr_get (v := .ref (ad 18)) S K X (hcs 0 (by decide)) xE_W rfl uX4_passHours_X4 3 (by decide) kX4_passHours_29 rfl rfl dX4_passHours_26 ?_
      refine zr_get (v := .int (G_5 18 2)) S K X ((kM_now hcs).2 0 (by decide)) (xE_M (kM_now hcs)) rfl uX4_passHours_X2 2 (by decide) kX4_passHours_88 rfl rfl dX4_passHours_29 ?_
      obtain ⟨r_8, G_9, tr_10, hf_7, h⟩ := zbd_some h
      refine zr_callv (Eg := (xE ki ad)) K X (va_runV (As := [.ref (ad (G 0 1).toNatClampNeg), .int r_4, .int (G_5 18 2)]) (rest := []) S (mX1_passHour l D ki ad cs hcs N a1 (G 0 1).toNatClampNeg r_4 (G_5 18 2) ha1 (kC_of hcs hq_2) G_5 tr_6 H.size _ _ _ hf_7) (cwV 3 S.2.2.2.2 gX4_passHours_X1_passHour rfl rfl rfl (by decide +kernel) ⟨Nat.le_of_ble_eq_true rfl, Nat.le_of_ble_eq_true rfl⟩) (zr_preV (c0 := a1) K X ha1.2 (xE_L ha1) rfl) rfl rfl hl.1 rfl (lv_room (Nat.le_of_ble_eq_true rfl)) dX4_passHours_32 ⟨Nat.zero_le _, Nat.zero_le _⟩) (fun H locs X => ?_)
      refine lv_iinc (v := (x4 + 1)) (lv' := [(4, .int (x4 + 1)), (0, .ref (ad 0)), (1, .ref (ad a1)), (2, .int a2), (3, .int a3)]) S.1 S.2.1 dX4_passHours_35 hl (k := 4) rfl rfl (by decide) rfl (fun ls hl => ?_)
      refine lv_goto (tgt := 3) S.1 S.2.1 dX4_passHours_38 (by decide) ?_
      exact hk3 (x4 + 1) G_9 tr_10 h _ _ _ X (lv_sub hl [1, 2, 3, 4, 0] rfl)
  have L3 : ∀ (n : Nat) (x4 : Int32) (G : zMem) (tr : Int64), fX4_passHours_L3 N a1 a2 a3 n x4 G tr = some (r9, G9, tr9) → zAt p l e (headSpec wsX4_passHours { frames := 2, cells := 0, slots := 0, locals := 48 }).room s m ([.ref (ad 0), .ref (ad a1), .int a2, .int a3] : List Value).toArray below meth c 5 D cs ad (zQV below ([.ref (ad 0), .ref (ad a1), .int a2, .int a3] : List Value).toArray s D cs ad ((xE ki ad) G9 tr9)) 3 [(0, .ref (ad 0)), (1, .ref (ad a1)), (2, .int a2), (3, .int a3), (4, .int x4)] [] ((xE ki ad) G tr) := by
    intro n
    induction n with
    | zero => intro x4 G tr h; cases h
    | succ n ih => intro x4 G tr h; exact b3 (fX4_passHours_L3 N a1 a2 a3 n) ih x4 G tr h
  unfold fX4_passHours at h
  obtain ⟨H, hH⟩ : ∃ H, H = s.heap := ⟨_, rfl⟩
  obtain ⟨locs, hlo⟩ : ∃ locs : List Loc, locs = [] := ⟨_, rfl⟩
  have X : gS D cs ad ((xE ki ad) G tr) (gA cs ad s.heap.size) s H locs := by rw [hH, hlo]; exact X
  suffices z : W p l e (headSpec wsX4_passHours { frames := 2, cells := 0, slots := 0, locals := 48 }).room s m ([.ref (ad 0), .ref (ad a1), .int a2, .int a3] : List Value).toArray below meth c H locs 0 0 (zQV below ([.ref (ad 0), .ref (ad a1), .int a2, .int a3] : List Value).toArray s D cs ad ((xE ki ad) G9 tr9)) (F0 m 0 ls []) by rw [hH, hlo] at z; exact z
  clear hH hlo
  refine lv_iconst (v := (0 : Int32)) S.1 S.2.1 dX4_passHours_0 (by decide) ?_
  refine lv_istore (lv' := [(4, .int (0 : Int32)), (0, .ref (ad 0)), (1, .ref (ad a1)), (2, .int a2), (3, .int a3)]) S.1 S.2.1 dX4_passHours_1 hl (by decide) rfl (fun ls hl => ?_)
  exact L3 N (0 : Int32) G tr h _ _ _ X (lv_sub hl [1, 2, 3, 4, 0] rfl)
set_option maxRecDepth 20000 in
theorem ggX4_letterIn_X1_copyFrom : GoodIn wsX4_letterIn wsX1_copyFrom := goodIn_r _ [9, 10, 11, 12, 13, 14, 15, 16, 70, 71, 72, 73, 74, 75, 76] (by decide +kernel) (by decide +kernel)
set_option maxRecDepth 20000 in
theorem gX4_letterIn_X1_copyFrom : GoodIn wsX4_letterIn (wsV RX4 175 RX1 yX1_copyFrom wsX1_copyFrom) := goodIn_app (goodIn_of _ (by decide +kernel)) ggX4_letterIn_X1_copyFrom
set_option maxRecDepth 20000 in
theorem ggX4_letterIn_X4_passHours : GoodIn wsX4_letterIn wsX4_passHours := goodIn_r _ [21, 22, 2, 23, 24, 25, 26, 27, 28, 29, 30, 31, 32, 33, 34, 35, 36, 37, 8, 38, 15, 16, 13, 12, 14, 39, 40, 41, 42, 43, 44, 45, 46, 47, 48, 49, 50, 20, 51, 52, 53, 54, 55, 56, 57, 58, 59, 60, 61, 62, 63, 64, 65, 66, 67, 68, 69, 70, 71, 72, 73, 74, 75, 76, 77, 78, 79, 80, 81, 82, 83, 84, 85, 86] (by decide +kernel) (by decide +kernel)
set_option maxRecDepth 20000 in
theorem gX4_letterIn_X4_passHours : GoodIn wsX4_letterIn (wsV RX4 186 RX4 yX4_passHours wsX4_passHours) := goodIn_app (goodIn_of _ (by decide +kernel)) ggX4_letterIn_X4_passHours
theorem dX4_letterIn_0 : decode cX4_letterIn 0 = .ok (.aload_n 0, 1) := by decide +kernel
theorem dX4_letterIn_1 : decode cX4_letterIn 1 = .ok (.getfield 47, 3) := by decide +kernel
theorem dX4_letterIn_4 : decode cX4_letterIn 4 = .ok (.aload_n 0, 1) := by decide +kernel
theorem dX4_letterIn_5 : decode cX4_letterIn 5 = .ok (.getfield 29, 3) := by decide +kernel
theorem dX4_letterIn_8 : decode cX4_letterIn 8 = .ok (.getfield 112, 3) := by decide +kernel
theorem dX4_letterIn_11 : decode cX4_letterIn 11 = .ok (.iload_n 1, 1) := by decide +kernel
theorem dX4_letterIn_12 : decode cX4_letterIn 12 = .ok (.aaload, 1) := by decide +kernel
theorem dX4_letterIn_13 : decode cX4_letterIn 13 = .ok (.invokevirtual 175, 3) := by decide +kernel
theorem dX4_letterIn_16 : decode cX4_letterIn 16 = .ok (.aload_n 0, 1) := by decide +kernel
theorem dX4_letterIn_17 : decode cX4_letterIn 17 = .ok (.aload_n 0, 1) := by decide +kernel
theorem dX4_letterIn_18 : decode cX4_letterIn 18 = .ok (.getfield 47, 3) := by decide +kernel
theorem dX4_letterIn_21 : decode cX4_letterIn 21 = .ok (.aload_n 0, 1) := by decide +kernel
theorem dX4_letterIn_22 : decode cX4_letterIn 22 = .ok (.getfield 29, 3) := by decide +kernel
theorem dX4_letterIn_25 : decode cX4_letterIn 25 = .ok (.getfield 102, 3) := by decide +kernel
theorem dX4_letterIn_28 : decode cX4_letterIn 28 = .ok (.iload_n 2, 1) := by decide +kernel
theorem dX4_letterIn_29 : decode cX4_letterIn 29 = .ok (.invokevirtual 186, 3) := by decide +kernel
theorem dX4_letterIn_32 : decode cX4_letterIn 32 = .ok (.aload_n 0, 1) := by decide +kernel
theorem dX4_letterIn_33 : decode cX4_letterIn 33 = .ok (.getfield 47, 3) := by decide +kernel
theorem dX4_letterIn_36 : decode cX4_letterIn 36 = .ok (.areturn, 1) := by decide +kernel
set_option maxRecDepth 20000 in
theorem kX4_letterIn_29 : Cond.fieldLink RX4 29 "WindPost" "now" "LWindPost$Moment;" ∈ wsX4_letterIn := by decide +kernel
set_option maxRecDepth 20000 in
theorem kX4_letterIn_47 : Cond.fieldLink RX4 47 "WindPost" "probe" "LWindPost$Letter;" ∈ wsX4_letterIn := by decide +kernel
set_option maxRecDepth 20000 in
theorem kX4_letterIn_102 : Cond.fieldLink RX4 102 "WindPost$Moment" "time" "I" ∈ wsX4_letterIn := by decide +kernel
set_option maxRecDepth 20000 in
theorem kX4_letterIn_112 : Cond.fieldLink RX4 112 "WindPost$Moment" "post" "[LWindPost$Letter;" ∈ wsX4_letterIn := by decide +kernel
set_option maxRecDepth 20000 in
theorem uX4_letterIn_X2 : ∀ w ∈ wsX20, w ∈ wsX4_letterIn := by decide +kernel
set_option maxRecDepth 20000 in
theorem uX4_letterIn_X4 : ∀ w ∈ wsX40, w ∈ wsX4_letterIn := by decide +kernel
set_option maxHeartbeats 8000000 in
set_option maxRecDepth 100000 in
theorem mX4_letterIn (l : Launch) (D : va_G) (ki : Nat → ClassId) (ad : Nat → Nat) (cs : List Nat) (hcs : kW cs) (N : Nat) (a1 : Int32) (a2 : Int32) (G : zMem) (tr : Int64) : gMetA l D ki ad cs yX4_letterIn wsX4_letterIn { frames := 3, cells := 0, slots := 0, locals := 72 } [.ref (ad 0), .int a1, .int a2] (xE ki ad) G tr 13 (fX4_letterIn N a1 a2 G tr) := by
  refine gMetA_of (cc := cX4_letterIn) (maxL := 3) (ret := (some (.object "WindPost$Letter"))) (own := RX4) (by decide +kernel) rfl rfl (Nat.le_of_ble_eq_true rfl) ?_
  intro r9 G9 tr9 h p e s m below meth c S hr hlk K X ls hl
  have hl : lv_has ls 3 [(0, .ref (ad 0)), (1, .int a1), (2, .int a2)] := hl
  unfold fX4_letterIn at h
  obtain ⟨H, hH⟩ : ∃ H, H = s.heap := ⟨_, rfl⟩
  obtain ⟨locs, hlo⟩ : ∃ locs : List Loc, locs = [] := ⟨_, rfl⟩
  have X : gS D cs ad ((xE ki ad) G tr) (gA cs ad s.heap.size) s H locs := by rw [hH, hlo]; exact X
  suffices z : W p l e (headSpec wsX4_letterIn { frames := 3, cells := 0, slots := 0, locals := 72 }).room s m ([.ref (ad 0), .int a1, .int a2] : List Value).toArray below meth c H locs 0 0 (zQA below ([.ref (ad 0), .int a1, .int a2] : List Value).toArray s D cs ad ((xE ki ad) G9 tr9) 13) (F0 m 0 ls []) by rw [hH, hlo] at z; exact z
  clear hH hlo
  refine lv_aload_n S.1 S.2.1 dX4_letterIn_0 rfl (lv_at hl 0 rfl) ?_
  refine zr_get (v := .ref (ad 13)) S K X (hcs 0 (by decide)) xE_W rfl uX4_letterIn_X4 9 (by decide) kX4_letterIn_47 rfl rfl dX4_letterIn_1 ?_
  refine lv_aload_n S.1 S.2.1 dX4_letterIn_4 rfl (lv_at hl 0 rfl) ?_
  refine zr_get (v := .ref (ad 18)) S K X (hcs 0 (by decide)) xE_W rfl uX4_letterIn_X4 3 (by decide) kX4_letterIn_29 rfl rfl dX4_letterIn_5 ?_
  refine zr_get (v := .ref (ad 20)) S K X ((kM_now hcs).2 0 (by decide)) (xE_M (kM_now hcs)) rfl uX4_letterIn_X2 5 (by decide) kX4_letterIn_112 rfl rfl dX4_letterIn_8 ?_
  refine lv_iload_n S.1 S.2.1 dX4_letterIn_11 rfl (lv_at hl 1 rfl) ?_
  obtain ⟨hi_1, h⟩ := zin_some h
  refine zr_aald (f := (fun j => 21 + j)) (t0 := 2) (C := "WindPost$Letter") S K X ((kM_now hcs).2 2 (by decide)) (xE_M2 (kM_now hcs)) rfl hi_1 dX4_letterIn_12 ?_
  obtain ⟨r_3, G_4, tr_5, hf_2, h⟩ := zbd_some h
  refine zr_callv (Eg := (xE ki ad)) K X (va_runV (As := [.ref (ad (21 + (Int32.toNatClampNeg a1)))]) (rest := []) S (mX1_copyFrom l D ki ad cs hcs N 13 (21 + (Int32.toNatClampNeg a1)) (kL_13 hcs) (kL_now hcs hi_1) G tr H.size _ _ _ hf_2) (cwV 1 S.2.2.2.2 gX4_letterIn_X1_copyFrom rfl rfl rfl (by decide +kernel) ⟨Nat.le_of_ble_eq_true rfl, Nat.le_of_ble_eq_true rfl⟩) (zr_preV (c0 := 13) K X (kL_13 hcs).2 (xE_L (kL_13 hcs)) rfl) rfl rfl hl.1 rfl (lv_room (Nat.le_of_ble_eq_true rfl)) dX4_letterIn_13 ⟨Nat.zero_le _, Nat.zero_le _⟩) (fun H locs X => ?_)
  refine lv_aload_n S.1 S.2.1 dX4_letterIn_16 rfl (lv_at hl 0 rfl) ?_
  refine lv_aload_n S.1 S.2.1 dX4_letterIn_17 rfl (lv_at hl 0 rfl) ?_
  refine zr_get (v := .ref (ad 13)) S K X (hcs 0 (by decide)) xE_W rfl uX4_letterIn_X4 9 (by decide) kX4_letterIn_47 rfl rfl dX4_letterIn_18 ?_
  refine lv_aload_n S.1 S.2.1 dX4_letterIn_21 rfl (lv_at hl 0 rfl) ?_
  refine zr_get (v := .ref (ad 18)) S K X (hcs 0 (by decide)) xE_W rfl uX4_letterIn_X4 3 (by decide) kX4_letterIn_29 rfl rfl dX4_letterIn_22 ?_
  refine zr_get (v := .int (G_4 18 0)) S K X ((kM_now hcs).2 0 (by decide)) (xE_M (kM_now hcs)) rfl uX4_letterIn_X2 0 (by decide) kX4_letterIn_102 rfl rfl dX4_letterIn_25 ?_
  refine lv_iload_n S.1 S.2.1 dX4_letterIn_28 rfl (lv_at hl 2 rfl) ?_
  obtain ⟨r_7, G_8, tr_9, hf_6, h⟩ := zbd_some h
  refine zr_callv (Eg := (xE ki ad)) K X (va_runV (As := [.ref (ad 13), .int (G_4 18 0), .int a2]) (rest := []) S (mX4_passHours l D ki ad cs hcs N 13 (G_4 18 0) a2 (kL_13 hcs) G_4 tr_5 H.size _ _ _ hf_6) (cwV 3 S.2.2.2.2 gX4_letterIn_X4_passHours rfl rfl rfl (by decide +kernel) ⟨Nat.le_of_ble_eq_true rfl, Nat.le_of_ble_eq_true rfl⟩) (zr_preV (c0 := 0) K X (hcs 0 (by decide)) xE_W rfl) rfl rfl hl.1 rfl (lv_room (Nat.le_of_ble_eq_true rfl)) dX4_letterIn_29 ⟨Nat.zero_le _, Nat.zero_le _⟩) (fun H locs X => ?_)
  refine lv_aload_n S.1 S.2.1 dX4_letterIn_32 rfl (lv_at hl 0 rfl) ?_
  refine zr_get (v := .ref (ad 13)) S K X (hcs 0 (by decide)) xE_W rfl uX4_letterIn_X4 9 (by decide) kX4_letterIn_47 rfl rfl dX4_letterIn_33 ?_
  exact zr_aret S hr hlk X h dX4_letterIn_36
set_option maxRecDepth 20000 in
theorem ggX4_where_X4_isLetter : GoodIn wsX4_where wsX4_isLetter := goodIn_r _ [6, 7, 8, 9, 10, 5, 11, 72, 73, 74, 75, 76, 77, 78, 79, 80, 81, 82, 83, 84, 85, 86, 87, 88, 89] (by decide +kernel) (by decide +kernel)
set_option maxRecDepth 20000 in
theorem gX4_where_X4_isLetter : GoodIn wsX4_where (wsV RX4 109 RX4 yX4_isLetter wsX4_isLetter) := goodIn_app (goodIn_of _ (by decide +kernel)) ggX4_where_X4_isLetter
set_option maxRecDepth 20000 in
theorem ggX4_where_X4_isWithin : GoodIn wsX4_where wsX4_isWithin := goodIn_r _ [11] (by decide +kernel) (by decide +kernel)
set_option maxRecDepth 20000 in
theorem gX4_where_X4_isWithin : GoodIn wsX4_where (va_wsS RX4 54 yX4_isWithin wsX4_isWithin) := goodIn_app (goodIn_of _ (by decide +kernel)) ggX4_where_X4_isWithin
set_option maxRecDepth 20000 in
theorem ggX4_where_X4_letterIn : GoodIn wsX4_where wsX4_letterIn := goodIn_r _ [15, 16, 7, 17, 18, 19, 20, 21, 22, 23, 24, 25, 26, 27, 28, 29, 30, 31, 32, 33, 5, 34, 35, 36, 37, 38, 39, 40, 41, 42, 43, 44, 45, 46, 47, 48, 49, 50, 51, 52, 53, 54, 55, 56, 57, 58, 59, 60, 61, 62, 63, 64, 72, 73, 74, 75, 76, 77, 78, 79, 80, 81, 82, 83, 84, 85, 86, 87, 88, 89, 65, 66, 67, 68, 69, 70, 71, 90, 91, 92, 93, 94, 95, 96, 97, 98, 99] (by decide +kernel) (by decide +kernel)
set_option maxRecDepth 20000 in
theorem gX4_where_X4_letterIn : GoodIn wsX4_where (wsV RX4 171 RX4 yX4_letterIn wsX4_letterIn) := goodIn_app (goodIn_of _ (by decide +kernel)) ggX4_where_X4_letterIn
theorem dX4_where_0 : decode cX4_where 0 = .ok (.aload_n 0, 1) := by decide +kernel
theorem dX4_where_1 : decode cX4_where 1 = .ok (.iload_n 1, 1) := by decide +kernel
theorem dX4_where_2 : decode cX4_where 2 = .ok (.invokevirtual 109, 3) := by decide +kernel
theorem dX4_where_5 : decode cX4_where 5 = .ok (.ifCond .eq 13, 3) := by decide +kernel
theorem dX4_where_8 : decode cX4_where 8 = .ok (.iload_n 2, 1) := by decide +kernel
theorem dX4_where_9 : decode cX4_where 9 = .ok (.iconst 0, 1) := by decide +kernel
theorem dX4_where_10 : decode cX4_where 10 = .ok (.bipush 60, 2) := by decide +kernel
theorem dX4_where_12 : decode cX4_where 12 = .ok (.invokestatic 54, 3) := by decide +kernel
theorem dX4_where_15 : decode cX4_where 15 = .ok (.ifCond .ne 5, 3) := by decide +kernel
theorem dX4_where_18 : decode cX4_where 18 = .ok (.iconst (-1), 1) := by decide +kernel
theorem dX4_where_19 : decode cX4_where 19 = .ok (.ireturn, 1) := by decide +kernel
theorem dX4_where_20 : decode cX4_where 20 = .ok (.aload_n 0, 1) := by decide +kernel
theorem dX4_where_21 : decode cX4_where 21 = .ok (.iload_n 1, 1) := by decide +kernel
theorem dX4_where_22 : decode cX4_where 22 = .ok (.iload_n 2, 1) := by decide +kernel
theorem dX4_where_23 : decode cX4_where 23 = .ok (.invokevirtual 171, 3) := by decide +kernel
theorem dX4_where_26 : decode cX4_where 26 = .ok (.getfield 125, 3) := by decide +kernel
theorem dX4_where_29 : decode cX4_where 29 = .ok (.ireturn, 1) := by decide +kernel
set_option maxRecDepth 20000 in
theorem kX4_where_125 : Cond.fieldLink RX4 125 "WindPost$Letter" "place" "I" ∈ wsX4_where := by decide +kernel
set_option maxRecDepth 20000 in
theorem uX4_where_X1 : ∀ w ∈ wsX10, w ∈ wsX4_where := by decide +kernel
set_option maxHeartbeats 8000000 in
set_option maxRecDepth 100000 in
theorem mX4_where (l : Launch) (D : va_G) (ki : Nat → ClassId) (ad : Nat → Nat) (cs : List Nat) (hcs : kW cs) (N : Nat) (a1 : Int32) (a2 : Int32) (G : zMem) (tr : Int64) : gMetI l D ki ad cs yX4_where wsX4_where { frames := 4, cells := 0, slots := 0, locals := 94 } [.ref (ad 0), .int a1, .int a2] (xE ki ad) G tr (fX4_where N a1 a2 G tr) := by
  refine gMetI_of (cc := cX4_where) (maxL := 3) (ret := (some .int)) (own := RX4) (by decide +kernel) rfl rfl (Nat.le_of_ble_eq_true rfl) ?_
  intro r9 G9 tr9 h p e s m below meth c S hr hlk K X ls hl
  have hl : lv_has ls 3 [(0, .ref (ad 0)), (1, .int a1), (2, .int a2)] := hl
  unfold fX4_where at h
  obtain ⟨H, hH⟩ : ∃ H, H = s.heap := ⟨_, rfl⟩
  obtain ⟨locs, hlo⟩ : ∃ locs : List Loc, locs = [] := ⟨_, rfl⟩
  have X : gS D cs ad ((xE ki ad) G tr) (gA cs ad s.heap.size) s H locs := by rw [hH, hlo]; exact X
  suffices z : W p l e (headSpec wsX4_where { frames := 4, cells := 0, slots := 0, locals := 94 }).room s m ([.ref (ad 0), .int a1, .int a2] : List Value).toArray below meth c H locs 0 0 (zQI below ([.ref (ad 0), .int a1, .int a2] : List Value).toArray s D cs ad ((xE ki ad) G9 tr9) r9) (F0 m 0 ls []) by rw [hH, hlo] at z; exact z
  clear hH hlo
  refine lv_aload_n S.1 S.2.1 dX4_where_0 rfl (lv_at hl 0 rfl) ?_
  refine lv_iload_n S.1 S.2.1 dX4_where_1 rfl (lv_at hl 1 rfl) ?_
  obtain ⟨r_2, G_3, tr_4, hf_1, h⟩ := zbd_some h
  refine zr_calli (Eg := (xE ki ad)) K X (va_runV (As := [.int a1]) (rest := []) S (mX4_isLetter l D ki ad cs hcs N a1 G tr H.size _ _ _ hf_1) (cwV 1 S.2.2.2.2 gX4_where_X4_isLetter rfl rfl rfl (by decide +kernel) ⟨Nat.le_of_ble_eq_true rfl, Nat.le_of_ble_eq_true rfl⟩) (zr_preV (c0 := 0) K X (hcs 0 (by decide)) xE_W rfl) rfl rfl hl.1 rfl (lv_room (Nat.le_of_ble_eq_true rfl)) dX4_where_2 ⟨Nat.zero_le _, Nat.zero_le _⟩) (fun H locs X => ?_)
  refine lv_if_eq (tgt := 18) S.1 S.2.1 dX4_where_5 (by decide) (fun hc_5 => ?_) (fun hc_5 => ?_)
  · have h := zif_pos hc_5 h
    refine lv_iconst (v := (-1 : Int32)) S.1 S.2.1 dX4_where_18 (by decide) ?_
    exact zr_iret S hr hlk X h dX4_where_19
  · have h := zif_neg hc_5 h
    refine lv_iload_n S.1 S.2.1 dX4_where_8 rfl (lv_at hl 2 rfl) ?_
    refine lv_iconst (v := (0 : Int32)) S.1 S.2.1 dX4_where_9 (by decide) ?_
    refine lv_bipush (v := (60 : Int32)) S.1 S.2.1 dX4_where_10 (by decide) ?_
    obtain ⟨r_7, hf_6, h⟩ := zbp_some h
    refine zr_calli (Eg := (xE ki ad)) (G' := G_3) (tr' := tr_4) K X (va_runS (As := [.int a2, .int (0 : Int32), .int (60 : Int32)]) (rest := []) S (mX4_isWithin l D ki ad cs N a2 (0 : Int32) (60 : Int32) (xE ki ad) G_3 tr_4 H.size _ _ _ (zpu_of hf_6)) (va_cwS 3 S.2.2.2.2 gX4_where_X4_isWithin rfl rfl rfl (by decide +kernel) ⟨Nat.le_of_ble_eq_true rfl, Nat.le_of_ble_eq_true rfl⟩) (zr_pre K X) rfl rfl hl.1 rfl (lv_room (Nat.le_of_ble_eq_true rfl)) dX4_where_12 ⟨Nat.zero_le _, Nat.zero_le _⟩) (fun H locs X => ?_)
    refine lv_if_ne (tgt := 20) S.1 S.2.1 dX4_where_15 (by decide) (fun hc_8 => ?_) (fun hc_8 => ?_)
    · have h := zif_neg hc_8 h
      refine lv_aload_n S.1 S.2.1 dX4_where_20 rfl (lv_at hl 0 rfl) ?_
      refine lv_iload_n S.1 S.2.1 dX4_where_21 rfl (lv_at hl 1 rfl) ?_
      refine lv_iload_n S.1 S.2.1 dX4_where_22 rfl (lv_at hl 2 rfl) ?_
      obtain ⟨r_10, G_11, tr_12, hf_9, h⟩ := zbd_some h
      refine zr_calla (Eg := (xE ki ad)) K X (va_runV (As := [.int a1, .int a2]) (rest := []) S (mX4_letterIn l D ki ad cs hcs N a1 a2 G_3 tr_4 H.size _ _ _ hf_9) (cwV 2 S.2.2.2.2 gX4_where_X4_letterIn rfl rfl rfl (by decide +kernel) ⟨Nat.le_of_ble_eq_true rfl, Nat.le_of_ble_eq_true rfl⟩) (zr_preV (c0 := 0) K X (hcs 0 (by decide)) xE_W rfl) rfl rfl hl.1 rfl (lv_room (Nat.le_of_ble_eq_true rfl)) dX4_where_23 ⟨Nat.zero_le _, Nat.zero_le _⟩) (fun H locs X => ?_)
      refine zr_get (v := .int (G_11 13 3)) S K X (kL_13 hcs).2 (xE_L (kL_13 hcs)) rfl uX4_where_X1 3 (by decide) kX4_where_125 rfl rfl dX4_where_26 ?_
      exact zr_iret S hr hlk X h dX4_where_29
    · have h := zif_pos hc_8 h
      refine lv_iconst (v := (-1 : Int32)) S.1 S.2.1 dX4_where_18 (by decide) ?_
      exact zr_iret S hr hlk X h dX4_where_19
set_option maxRecDepth 20000 in
theorem ggX4_arrival_X0_cells : GoodIn wsX4_arrival wsX0_cells := goodIn_r _ [17, 18, 19, 20, 11, 8, 12, 80, 81, 82, 83, 84, 85, 86, 87, 88, 89] (by decide +kernel) (by decide +kernel)
set_option maxRecDepth 20000 in
theorem gX4_arrival_X0_cells : GoodIn wsX4_arrival (wsV RX4 95 RX0 yX0_cells wsX0_cells) := goodIn_app (goodIn_of _ (by decide +kernel)) ggX4_arrival_X0_cells
set_option maxRecDepth 20000 in
theorem ggX4_arrival_X2_windOf : GoodIn wsX4_arrival wsX2_windOf := goodIn_r _ [25, 26, 27, 28, 29, 30, 31, 74, 75, 76, 77, 78, 79] (by decide +kernel) (by decide +kernel)
set_option maxRecDepth 20000 in
theorem gX4_arrival_X2_windOf : GoodIn wsX4_arrival (wsV RX4 105 RX2 yX2_windOf wsX2_windOf) := goodIn_app (goodIn_of _ (by decide +kernel)) ggX4_arrival_X2_windOf
set_option maxRecDepth 20000 in
theorem ggX4_arrival_X1_passHour : GoodIn wsX4_arrival wsX1_passHour := goodIn_r _ [36, 37, 38, 39, 40, 41, 42, 43, 44, 16, 45, 46, 47, 48, 49, 50, 51, 52, 53, 54, 67, 68, 69, 70, 71, 72, 73, 80, 81, 82, 83, 84, 85, 86, 87, 88, 89] (by decide +kernel) (by decide +kernel)
set_option maxRecDepth 20000 in
theorem gX4_arrival_X1_passHour : GoodIn wsX4_arrival (wsV RX4 154 RX1 yX1_passHour wsX1_passHour) := goodIn_app (goodIn_of _ (by decide +kernel)) ggX4_arrival_X1_passHour
theorem dX4_arrival_0 : decode cX4_arrival 0 = .ok (.aload_n 0, 1) := by decide +kernel
theorem dX4_arrival_1 : decode cX4_arrival 1 = .ok (.getfield 47, 3) := by decide +kernel
theorem dX4_arrival_4 : decode cX4_arrival 4 = .ok (.getfield 131, 3) := by decide +kernel
theorem dX4_arrival_7 : decode cX4_arrival 7 = .ok (.iconst 1, 1) := by decide +kernel
theorem dX4_arrival_8 : decode cX4_arrival 8 = .ok (.if_icmp .ne 5, 3) := by decide +kernel
theorem dX4_arrival_11 : decode cX4_arrival 11 = .ok (.iconst 0, 1) := by decide +kernel
theorem dX4_arrival_12 : decode cX4_arrival 12 = .ok (.ireturn, 1) := by decide +kernel
theorem dX4_arrival_13 : decode cX4_arrival 13 = .ok (.sipush 400, 3) := by decide +kernel
theorem dX4_arrival_16 : decode cX4_arrival 16 = .ok (.aload_n 0, 1) := by decide +kernel
theorem dX4_arrival_17 : decode cX4_arrival 17 = .ok (.getfield 19, 3) := by decide +kernel
theorem dX4_arrival_20 : decode cX4_arrival 20 = .ok (.invokevirtual 95, 3) := by decide +kernel
theorem dX4_arrival_23 : decode cX4_arrival 23 = .ok (.iconst 1, 1) := by decide +kernel
theorem dX4_arrival_24 : decode cX4_arrival 24 = .ok (.aload_n 0, 1) := by decide +kernel
theorem dX4_arrival_25 : decode cX4_arrival 25 = .ok (.getfield 29, 3) := by decide +kernel
theorem dX4_arrival_28 : decode cX4_arrival 28 = .ok (.getfield 158, 3) := by decide +kernel
theorem dX4_arrival_31 : decode cX4_arrival 31 = .ok (.invokestatic 181, 3) := by decide +kernel
theorem dX4_arrival_34 : decode cX4_arrival 34 = .ok (.imul, 1) := by decide +kernel
theorem dX4_arrival_35 : decode cX4_arrival 35 = .ok (.invokestatic 254, 3) := by decide +kernel
theorem dX4_arrival_38 : decode cX4_arrival 38 = .ok (.istore_n 3, 1) := by decide +kernel
theorem dX4_arrival_39 : decode cX4_arrival 39 = .ok (.iconst 1, 1) := by decide +kernel
theorem dX4_arrival_40 : decode cX4_arrival 40 = .ok (.istore 4, 2) := by decide +kernel
theorem dX4_arrival_42 : decode cX4_arrival 42 = .ok (.iload 4, 2) := by decide +kernel
theorem dX4_arrival_44 : decode cX4_arrival 44 = .ok (.iload_n 3, 1) := by decide +kernel
theorem dX4_arrival_45 : decode cX4_arrival 45 = .ok (.if_icmp .gt 58, 3) := by decide +kernel
theorem dX4_arrival_48 : decode cX4_arrival 48 = .ok (.aload_n 0, 1) := by decide +kernel
theorem dX4_arrival_49 : decode cX4_arrival 49 = .ok (.getfield 47, 3) := by decide +kernel
theorem dX4_arrival_52 : decode cX4_arrival 52 = .ok (.getfield 131, 3) := by decide +kernel
theorem dX4_arrival_55 : decode cX4_arrival 55 = .ok (.ifCond .ne 48, 3) := by decide +kernel
theorem dX4_arrival_58 : decode cX4_arrival 58 = .ok (.aload_n 0, 1) := by decide +kernel
theorem dX4_arrival_59 : decode cX4_arrival 59 = .ok (.getfield 47, 3) := by decide +kernel
theorem dX4_arrival_62 : decode cX4_arrival 62 = .ok (.aload_n 0, 1) := by decide +kernel
theorem dX4_arrival_63 : decode cX4_arrival 63 = .ok (.getfield 19, 3) := by decide +kernel
theorem dX4_arrival_66 : decode cX4_arrival 66 = .ok (.aload_n 0, 1) := by decide +kernel
theorem dX4_arrival_67 : decode cX4_arrival 67 = .ok (.getfield 29, 3) := by decide +kernel
theorem dX4_arrival_70 : decode cX4_arrival 70 = .ok (.iload_n 1, 1) := by decide +kernel
theorem dX4_arrival_71 : decode cX4_arrival 71 = .ok (.iload 4, 2) := by decide +kernel
theorem dX4_arrival_73 : decode cX4_arrival 73 = .ok (.iadd, 1) := by decide +kernel
theorem dX4_arrival_74 : decode cX4_arrival 74 = .ok (.iconst 1, 1) := by decide +kernel
theorem dX4_arrival_75 : decode cX4_arrival 75 = .ok (.isub, 1) := by decide +kernel
theorem dX4_arrival_76 : decode cX4_arrival 76 = .ok (.invokevirtual 105, 3) := by decide +kernel
theorem dX4_arrival_79 : decode cX4_arrival 79 = .ok (.iload_n 2, 1) := by decide +kernel
theorem dX4_arrival_80 : decode cX4_arrival 80 = .ok (.invokevirtual 154, 3) := by decide +kernel
theorem dX4_arrival_83 : decode cX4_arrival 83 = .ok (.aload_n 0, 1) := by decide +kernel
theorem dX4_arrival_84 : decode cX4_arrival 84 = .ok (.getfield 47, 3) := by decide +kernel
theorem dX4_arrival_87 : decode cX4_arrival 87 = .ok (.getfield 131, 3) := by decide +kernel
theorem dX4_arrival_90 : decode cX4_arrival 90 = .ok (.iconst 1, 1) := by decide +kernel
theorem dX4_arrival_91 : decode cX4_arrival 91 = .ok (.if_icmp .ne 6, 3) := by decide +kernel
theorem dX4_arrival_94 : decode cX4_arrival 94 = .ok (.iload 4, 2) := by decide +kernel
theorem dX4_arrival_96 : decode cX4_arrival 96 = .ok (.ireturn, 1) := by decide +kernel
theorem dX4_arrival_97 : decode cX4_arrival 97 = .ok (.iinc 4 1, 3) := by decide +kernel
theorem dX4_arrival_100 : decode cX4_arrival 100 = .ok (.goto (-58), 3) := by decide +kernel
theorem dX4_arrival_103 : decode cX4_arrival 103 = .ok (.bipush (-9), 2) := by decide +kernel
theorem dX4_arrival_105 : decode cX4_arrival 105 = .ok (.ireturn, 1) := by decide +kernel
set_option maxRecDepth 20000 in
theorem kX4_arrival_19 : Cond.fieldLink RX4 19 "WindPost" "chart" "LWindPost$Chart;" ∈ wsX4_arrival := by decide +kernel
set_option maxRecDepth 20000 in
theorem kX4_arrival_29 : Cond.fieldLink RX4 29 "WindPost" "now" "LWindPost$Moment;" ∈ wsX4_arrival := by decide +kernel
set_option maxRecDepth 20000 in
theorem kX4_arrival_47 : Cond.fieldLink RX4 47 "WindPost" "probe" "LWindPost$Letter;" ∈ wsX4_arrival := by decide +kernel
set_option maxRecDepth 20000 in
theorem kX4_arrival_131 : Cond.fieldLink RX4 131 "WindPost$Letter" "how" "I" ∈ wsX4_arrival := by decide +kernel
set_option maxRecDepth 20000 in
theorem kX4_arrival_158 : Cond.fieldLink RX4 158 "WindPost$Moment" "told" "I" ∈ wsX4_arrival := by decide +kernel
set_option maxRecDepth 20000 in
theorem uX4_arrival_X1 : ∀ w ∈ wsX10, w ∈ wsX4_arrival := by decide +kernel
set_option maxRecDepth 20000 in
theorem uX4_arrival_X2 : ∀ w ∈ wsX20, w ∈ wsX4_arrival := by decide +kernel
set_option maxRecDepth 20000 in
theorem uX4_arrival_X4 : ∀ w ∈ wsX40, w ∈ wsX4_arrival := by decide +kernel
set_option maxRecDepth 20000 in
theorem jX4_arrival_max_l : Cond.methodLink RX4 181 Lib.Math.max.name ∈ wsX4_arrival := by decide +kernel
set_option maxRecDepth 20000 in
theorem jX4_arrival_max_s : Cond.static Lib.Math.max.name ∈ wsX4_arrival := by decide +kernel
set_option maxRecDepth 20000 in
theorem jX4_arrival_max_i : Cond.initialized "java/lang/Math" ∈ wsX4_arrival := by decide +kernel
set_option maxRecDepth 20000 in
theorem jX4_arrival_max_c : Cond.code Lib.Math.max.name Lib.Math.max.code 2 (some .int) ∈ wsX4_arrival := by decide +kernel
set_option maxRecDepth 20000 in
theorem jX4_arrival_min_l : Cond.methodLink RX4 254 Lib.Math.min.name ∈ wsX4_arrival := by decide +kernel
set_option maxRecDepth 20000 in
theorem jX4_arrival_min_s : Cond.static Lib.Math.min.name ∈ wsX4_arrival := by decide +kernel
set_option maxRecDepth 20000 in
theorem jX4_arrival_min_i : Cond.initialized "java/lang/Math" ∈ wsX4_arrival := by decide +kernel
set_option maxRecDepth 20000 in
theorem jX4_arrival_min_c : Cond.code Lib.Math.min.name Lib.Math.min.code 2 (some .int) ∈ wsX4_arrival := by decide +kernel
set_option maxHeartbeats 8000000 in
set_option maxRecDepth 100000 in
theorem mX4_arrival (l : Launch) (D : va_G) (ki : Nat → ClassId) (ad : Nat → Nat) (cs : List Nat) (hcs : kW cs) (N : Nat) (a1 : Int32) (a2 : Int32) (G : zMem) (tr : Int64) : gMetI l D ki ad cs yX4_arrival wsX4_arrival { frames := 2, cells := 0, slots := 0, locals := 48 } [.ref (ad 0), .int a1, .int a2] (xE ki ad) G tr (fX4_arrival N a1 a2 G tr) := by
  refine gMetI_of (cc := cX4_arrival) (maxL := 5) (ret := (some .int)) (own := RX4) (by decide +kernel) rfl rfl (Nat.le_of_ble_eq_true rfl) ?_
  intro r9 G9 tr9 h p e s m below meth c S hr hlk K X ls hl
  have hl : lv_has ls 5 [(0, .ref (ad 0)), (1, .int a1), (2, .int a2)] := hl
  have b42 : ∀ (k42 : Int32 → Int32 → zMem → Int64 → zR) (hk42 : ∀ (x3 : Int32) (x4 : Int32) (G : zMem) (tr : Int64), k42 x3 x4 G tr = some (r9, G9, tr9) → zAt p l e (headSpec wsX4_arrival { frames := 2, cells := 0, slots := 0, locals := 48 }).room s m ([.ref (ad 0), .int a1, .int a2] : List Value).toArray below meth c 5 D cs ad (zQI below ([.ref (ad 0), .int a1, .int a2] : List Value).toArray s D cs ad ((xE ki ad) G9 tr9) r9) 42 [(0, .ref (ad 0)), (1, .int a1), (2, .int a2), (3, .int x3), (4, .int x4)] [] ((xE ki ad) G tr)) (x3 : Int32) (x4 : Int32) (G : zMem) (tr : Int64), fX4_arrival_b42 N a1 a2 k42 x3 x4 G tr = some (r9, G9, tr9) → zAt p l e (headSpec wsX4_arrival { frames := 2, cells := 0, slots := 0, locals := 48 }).room s m ([.ref (ad 0), .int a1, .int a2] : List Value).toArray below meth c 5 D cs ad (zQI below ([.ref (ad 0), .int a1, .int a2] : List Value).toArray s D cs ad ((xE ki ad) G9 tr9) r9) 42 [(0, .ref (ad 0)), (1, .int a1), (2, .int a2), (3, .int x3), (4, .int x4)] [] ((xE ki ad) G tr) := by
    intro k42 hk42 x3 x4 G tr h H locs ls X hl
    unfold fX4_arrival_b42 at h
    refine lv_iload S.1 S.2.1 dX4_arrival_42 (lv_at hl 4 rfl) ?_
    refine lv_iload_n S.1 S.2.1 dX4_arrival_44 rfl (lv_at hl 3 rfl) ?_
    refine lv_icmp_gt (tgt := 103) S.1 S.2.1 dX4_arrival_45 (by decide) (fun hc_1 => ?_) (fun hc_1 => ?_)
    · have h := zif_pos hc_1 h
      refine lv_bipush (v := (-9 : Int32)) S.1 S.2.1 dX4_arrival_103 (by decide) ?_
      exact zr_iret S hr hlk X h dX4_arrival_105
    · have h := zif_neg hc_1 h
      refine lv_aload_n S.1 S.2.1 dX4_arrival_48 rfl (lv_at hl 0 rfl) ?_
      refine zr_get (v := .ref (ad 13)) S K X (hcs 0 (by decide)) xE_W rfl uX4_arrival_X4 9 (by decide) kX4_arrival_47 rfl rfl dX4_arrival_49 ?_
      refine zr_get (v := .int (G 13 5)) S K X (kL_13 hcs).2 (xE_L (kL_13 hcs)) rfl uX4_arrival_X1 5 (by decide) kX4_arrival_131 rfl rfl dX4_arrival_52 ?_
      refine lv_if_ne (tgt := 103) S.1 S.2.1 dX4_arrival_55 (by decide) (fun hc_2 => ?_) (fun hc_2 => ?_)
      · have h := zif_neg hc_2 h
        refine lv_bipush (v := (-9 : Int32)) S.1 S.2.1 dX4_arrival_103 (by decide) ?_
        exact zr_iret S hr hlk X h dX4_arrival_105
      · have h := zif_pos hc_2 h
        refine lv_aload_n S.1 S.2.1 dX4_arrival_58 rfl (lv_at hl 0 rfl) ?_
        refine zr_get (v := .ref (ad 13)) S K X (hcs 0 (by decide)) xE_W rfl uX4_arrival_X4 9 (by decide) kX4_arrival_47 rfl rfl dX4_arrival_59 ?_
        refine lv_aload_n S.1 S.2.1 dX4_arrival_62 rfl (lv_at hl 0 rfl) ?_
        obtain ⟨hq_3, h⟩ := zch_some h
        refine zr_get (v := .ref (ad (G 0 1).toNatClampNeg)) S K X (hcs 0 (by decide)) xE_W rfl uX4_arrival_X4 1 (by decide) kX4_arrival_19 rfl rfl dX4_arrival_63 ?_
        refine lv_aload_n S.1 S.2.1 dX4_arrival_66 rfl (lv_at hl 0 rfl) ?_
        refine zr_get (v := .ref (ad 18)) S K X (hcs 0 (by decide)) xE_W rfl uX4_arrival_X4 3 (by decide) kX4_arrival_29 rfl rfl dX4_arrival_67 ?_
        refine lv_iload_n S.1 S.2.1 dX4_arrival_70 rfl (lv_at hl 1 rfl) ?_
        refine lv_iload S.1 S.2.1 dX4_arrival_71 (lv_at hl 4 rfl) ?_
        refine lv_iadd S.1 S.2.1 dX4_arrival_73 ?_
        refine lv_iconst (v := (1 : Int32)) S.1 S.2.1 dX4_arrival_74 (by decide) ?_
        refine lv_isub S.1 S.2.1 dX4_arrival_75 ?_
        obtain ⟨r_5, G_6, tr_7, hf_4, h⟩ := zbd_some h
        refine zr_calli (Eg := (xE ki ad)) K X (va_runV (As := [.int ((a1 + x4) - (1 : Int32))]) (rest := [.ref (ad (G 0 1).toNatClampNeg), .ref (ad 13)]) S (mX2_windOf l D ki ad cs hcs N 18 ((a1 + x4) - (1 : Int32)) (kM_now hcs) G tr H.size _ _ _ hf_4) (cwV 1 S.2.2.2.2 gX4_arrival_X2_windOf rfl rfl rfl (by decide +kernel) ⟨Nat.le_of_ble_eq_true rfl, Nat.le_of_ble_eq_true rfl⟩) (zr_preV (c0 := 18) K X ((kM_now hcs).2 0 (by decide)) (xE_M (kM_now hcs)) rfl) rfl rfl hl.1 rfl (lv_room (Nat.le_of_ble_eq_true rfl)) dX4_arrival_76 ⟨Nat.zero_le _, Nat.zero_le _⟩) (fun H locs X => ?_)
        refine lv_iload_n S.1 S.2.1 dX4_arrival_79 rfl (lv_at hl 2 rfl) ?_
        obtain ⟨r_9, G_10, tr_11, hf_8, h⟩ := zbd_some h
        refine zr_callv (Eg := (xE ki ad)) K X (va_runV (As := [.ref (ad (G 0 1).toNatClampNeg), .int r_5, .int a2]) (rest := []) S (mX1_passHour l D ki ad cs hcs N 13 (G 0 1).toNatClampNeg r_5 a2 (kL_13 hcs) (kC_of hcs hq_3) G_6 tr_7 H.size _ _ _ hf_8) (cwV 3 S.2.2.2.2 gX4_arrival_X1_passHour rfl rfl rfl (by decide +kernel) ⟨Nat.le_of_ble_eq_true rfl, Nat.le_of_ble_eq_true rfl⟩) (zr_preV (c0 := 13) K X (kL_13 hcs).2 (xE_L (kL_13 hcs)) rfl) rfl rfl hl.1 rfl (lv_room (Nat.le_of_ble_eq_true rfl)) dX4_arrival_80 ⟨Nat.zero_le _, Nat.zero_le _⟩) (fun H locs X => ?_)
        refine lv_aload_n S.1 S.2.1 dX4_arrival_83 rfl (lv_at hl 0 rfl) ?_
        refine zr_get (v := .ref (ad 13)) S K X (hcs 0 (by decide)) xE_W rfl uX4_arrival_X4 9 (by decide) kX4_arrival_47 rfl rfl dX4_arrival_84 ?_
        refine zr_get (v := .int (G_10 13 5)) S K X (kL_13 hcs).2 (xE_L (kL_13 hcs)) rfl uX4_arrival_X1 5 (by decide) kX4_arrival_131 rfl rfl dX4_arrival_87 ?_
        refine lv_iconst (v := (1 : Int32)) S.1 S.2.1 dX4_arrival_90 (by decide) ?_
        refine lv_icmp_ne (tgt := 97) S.1 S.2.1 dX4_arrival_91 (by decide) (fun hc_12 => ?_) (fun hc_12 => ?_)
        · have h := zif_neg hc_12 h
          refine lv_iinc (v := (x4 + 1)) (lv' := [(4, .int (x4 + 1)), (0, .ref (ad 0)), (1, .int a1), (2, .int a2), (3, .int x3)]) S.1 S.2.1 dX4_arrival_97 hl (k := 4) rfl rfl (by decide) rfl (fun ls hl => ?_)
          refine lv_goto (tgt := 42) S.1 S.2.1 dX4_arrival_100 (by decide) ?_
          exact hk42 x3 (x4 + 1) G_10 tr_11 h _ _ _ X (lv_sub hl [1, 2, 3, 4, 0] rfl)
        · have h := zif_pos hc_12 h
          refine lv_iload S.1 S.2.1 dX4_arrival_94 (lv_at hl 4 rfl) ?_
          exact zr_iret S hr hlk X h dX4_arrival_96
  have L42 : ∀ (n : Nat) (x3 : Int32) (x4 : Int32) (G : zMem) (tr : Int64), fX4_arrival_L42 N a1 a2 n x3 x4 G tr = some (r9, G9, tr9) → zAt p l e (headSpec wsX4_arrival { frames := 2, cells := 0, slots := 0, locals := 48 }).room s m ([.ref (ad 0), .int a1, .int a2] : List Value).toArray below meth c 5 D cs ad (zQI below ([.ref (ad 0), .int a1, .int a2] : List Value).toArray s D cs ad ((xE ki ad) G9 tr9) r9) 42 [(0, .ref (ad 0)), (1, .int a1), (2, .int a2), (3, .int x3), (4, .int x4)] [] ((xE ki ad) G tr) := by
    intro n
    induction n with
    | zero => intro x3 x4 G tr h; cases h
    | succ n ih => intro x3 x4 G tr h; exact b42 (fX4_arrival_L42 N a1 a2 n) ih x3 x4 G tr h
  unfold fX4_arrival at h
  obtain ⟨H, hH⟩ : ∃ H, H = s.heap := ⟨_, rfl⟩
  obtain ⟨locs, hlo⟩ : ∃ locs : List Loc, locs = [] := ⟨_, rfl⟩
  have X : gS D cs ad ((xE ki ad) G tr) (gA cs ad s.heap.size) s H locs := by rw [hH, hlo]; exact X
  suffices z : W p l e (headSpec wsX4_arrival { frames := 2, cells := 0, slots := 0, locals := 48 }).room s m ([.ref (ad 0), .int a1, .int a2] : List Value).toArray below meth c H locs 0 0 (zQI below ([.ref (ad 0), .int a1, .int a2] : List Value).toArray s D cs ad ((xE ki ad) G9 tr9) r9) (F0 m 0 ls []) by rw [hH, hlo] at z; exact z
  clear hH hlo
  refine lv_aload_n S.1 S.2.1 dX4_arrival_0 rfl (lv_at hl 0 rfl) ?_
  refine zr_get (v := .ref (ad 13)) S K X (hcs 0 (by decide)) xE_W rfl uX4_arrival_X4 9 (by decide) kX4_arrival_47 rfl rfl dX4_arrival_1 ?_
  refine zr_get (v := .int (G 13 5)) S K X (kL_13 hcs).2 (xE_L (kL_13 hcs)) rfl uX4_arrival_X1 5 (by decide) kX4_arrival_131 rfl rfl dX4_arrival_4 ?_
  refine lv_iconst (v := (1 : Int32)) S.1 S.2.1 dX4_arrival_7 (by decide) ?_
  refine lv_icmp_ne (tgt := 13) S.1 S.2.1 dX4_arrival_8 (by decide) (fun hc_1 => ?_) (fun hc_1 => ?_)
  · have h := zif_neg hc_1 h
    refine lv_sipush (v := (400 : Int32)) S.1 S.2.1 dX4_arrival_13 (by decide) ?_
    refine lv_aload_n S.1 S.2.1 dX4_arrival_16 rfl (lv_at hl 0 rfl) ?_
    obtain ⟨hq_2, h⟩ := zch_some h
    refine zr_get (v := .ref (ad (G 0 1).toNatClampNeg)) S K X (hcs 0 (by decide)) xE_W rfl uX4_arrival_X4 1 (by decide) kX4_arrival_19 rfl rfl dX4_arrival_17 ?_
    obtain ⟨r_4, G_5, tr_6, hf_3, h⟩ := zbd_some h
    refine zr_calli (Eg := (xE ki ad)) K X (va_runV (As := []) (rest := [.int (400 : Int32)]) S (mX0_cells l D ki ad cs  N (G 0 1).toNatClampNeg (kC_of hcs hq_2) G tr H.size _ _ _ hf_3) (cwV 0 S.2.2.2.2 gX4_arrival_X0_cells rfl rfl rfl (by decide +kernel) ⟨Nat.le_of_ble_eq_true rfl, Nat.le_of_ble_eq_true rfl⟩) (zr_preV (c0 := (G 0 1).toNatClampNeg) K X ((kC_of hcs hq_2).2 0 (by decide)) (xE_C (kC_of hcs hq_2)) rfl) rfl rfl hl.1 rfl (lv_room (Nat.le_of_ble_eq_true rfl)) dX4_arrival_20 ⟨Nat.zero_le _, Nat.zero_le _⟩) (fun H locs X => ?_)
    refine lv_iconst (v := (1 : Int32)) S.1 S.2.1 dX4_arrival_23 (by decide) ?_
    refine lv_aload_n S.1 S.2.1 dX4_arrival_24 rfl (lv_at hl 0 rfl) ?_
    refine zr_get (v := .ref (ad 18)) S K X (hcs 0 (by decide)) xE_W rfl uX4_arrival_X4 3 (by decide) kX4_arrival_29 rfl rfl dX4_arrival_25 ?_
    refine zr_get (v := .int (G_5 18 3)) S K X ((kM_now hcs).2 0 (by decide)) (xE_M (kM_now hcs)) rfl uX4_arrival_X2 3 (by decide) kX4_arrival_158 rfl rfl dX4_arrival_28 ?_
    refine va_mmax S.1 S.2.1 (S.2.2.1.trans hl.1.symm) S.2.2.2.1 (S.2.2.2.2 _ jX4_arrival_max_l) (S.2.2.2.2 _ jX4_arrival_max_s) (S.2.2.2.2 _ jX4_arrival_max_i) (S.2.2.2.2 _ jX4_arrival_max_c) (Nat.le_of_ble_eq_true rfl) (Nat.le_of_ble_eq_true rfl) (Nat.zero_le _) (Nat.zero_le _) dX4_arrival_31 ?_
    refine lv_imul S.1 S.2.1 dX4_arrival_34 ?_
    refine va_mmin S.1 S.2.1 (S.2.2.1.trans hl.1.symm) S.2.2.2.1 (S.2.2.2.2 _ jX4_arrival_min_l) (S.2.2.2.2 _ jX4_arrival_min_s) (S.2.2.2.2 _ jX4_arrival_min_i) (S.2.2.2.2 _ jX4_arrival_min_c) (Nat.le_of_ble_eq_true rfl) (Nat.le_of_ble_eq_true rfl) (Nat.zero_le _) (Nat.zero_le _) dX4_arrival_35 ?_
    refine lv_istore_n (lv' := [(3, .int (if (r_4 * (if (1 : Int32) < (G_5 18 3) then (G_5 18 3) else (1 : Int32))) < (400 : Int32) then (r_4 * (if (1 : Int32) < (G_5 18 3) then (G_5 18 3) else (1 : Int32))) else (400 : Int32))), (0, .ref (ad 0)), (1, .int a1), (2, .int a2)]) S.1 S.2.1 dX4_arrival_38 rfl hl (by decide) rfl (fun ls hl => ?_)
    refine lv_iconst (v := (1 : Int32)) S.1 S.2.1 dX4_arrival_39 (by decide) ?_
    refine lv_istore (lv' := [(4, .int (1 : Int32)), (3, .int (if (r_4 * (if (1 : Int32) < (G_5 18 3) then (G_5 18 3) else (1 : Int32))) < (400 : Int32) then (r_4 * (if (1 : Int32) < (G_5 18 3) then (G_5 18 3) else (1 : Int32))) else (400 : Int32))), (0, .ref (ad 0)), (1, .int a1), (2, .int a2)]) S.1 S.2.1 dX4_arrival_40 hl (by decide) rfl (fun ls hl => ?_)
    exact L42 N (if (r_4 * (if (1 : Int32) < (G_5 18 3) then (G_5 18 3) else (1 : Int32))) < (400 : Int32) then (r_4 * (if (1 : Int32) < (G_5 18 3) then (G_5 18 3) else (1 : Int32))) else (400 : Int32)) (1 : Int32) G_5 tr_6 h _ _ _ X (lv_sub hl [2, 3, 4, 1, 0] rfl)
  · have h := zif_pos hc_1 h
    refine lv_iconst (v := (0 : Int32)) S.1 S.2.1 dX4_arrival_11 (by decide) ?_
    exact zr_iret S hr hlk X h dX4_arrival_12
set_option maxRecDepth 20000 in
theorem ggX4_comes_X4_isLetter : GoodIn wsX4_comes wsX4_isLetter := goodIn_r _ [10, 2, 11, 12, 13, 9, 14, 76, 77, 78, 79, 80, 81, 82, 83, 84, 85, 86, 87, 88, 89, 90, 91, 92, 93] (by decide +kernel) (by decide +kernel)
set_option maxRecDepth 20000 in
theorem gX4_comes_X4_isLetter : GoodIn wsX4_comes (wsV RX4 109 RX4 yX4_isLetter wsX4_isLetter) := goodIn_app (goodIn_of _ (by decide +kernel)) ggX4_comes_X4_isLetter
set_option maxRecDepth 20000 in
theorem ggX4_comes_X1_copyFrom : GoodIn wsX4_comes wsX1_copyFrom := goodIn_r _ [19, 20, 21, 22, 23, 24, 25, 26, 94, 95, 96, 97, 98, 99, 100] (by decide +kernel) (by decide +kernel)
set_option maxRecDepth 20000 in
theorem gX4_comes_X1_copyFrom : GoodIn wsX4_comes (wsV RX4 175 RX1 yX1_copyFrom wsX1_copyFrom) := goodIn_app (goodIn_of _ (by decide +kernel)) ggX4_comes_X1_copyFrom
set_option maxRecDepth 20000 in
theorem ggX4_comes_X4_arrival : GoodIn wsX4_comes wsX4_arrival := goodIn_r _ [30, 1, 31, 32, 2, 33, 34, 35, 36, 37, 38, 39, 40, 41, 42, 43, 44, 45, 46, 47, 48, 49, 50, 51, 52, 53, 54, 55, 56, 57, 58, 59, 60, 61, 62, 18, 63, 25, 26, 23, 22, 24, 64, 65, 66, 67, 68, 69, 70, 71, 72, 73, 74, 9, 75, 76, 77, 78, 79, 80, 81, 82, 83, 84, 85, 86, 87, 94, 95, 96, 97, 98, 99, 100, 88, 89, 90, 91, 92, 93, 101, 102, 103, 104, 105, 106, 107, 108, 109, 110] (by decide +kernel) (by decide +kernel)
set_option maxRecDepth 20000 in
theorem gX4_comes_X4_arrival : GoodIn wsX4_comes (wsV RX4 178 RX4 yX4_arrival wsX4_arrival) := goodIn_app (goodIn_of _ (by decide +kernel)) ggX4_comes_X4_arrival
theorem dX4_comes_0 : decode cX4_comes 0 = .ok (.aload_n 0, 1) := by decide +kernel
theorem dX4_comes_1 : decode cX4_comes 1 = .ok (.iload_n 1, 1) := by decide +kernel
theorem dX4_comes_2 : decode cX4_comes 2 = .ok (.invokevirtual 109, 3) := by decide +kernel
theorem dX4_comes_5 : decode cX4_comes 5 = .ok (.ifCond .ne 5, 3) := by decide +kernel
theorem dX4_comes_8 : decode cX4_comes 8 = .ok (.iconst (-1), 1) := by decide +kernel
theorem dX4_comes_9 : decode cX4_comes 9 = .ok (.ireturn, 1) := by decide +kernel
theorem dX4_comes_10 : decode cX4_comes 10 = .ok (.aload_n 0, 1) := by decide +kernel
theorem dX4_comes_11 : decode cX4_comes 11 = .ok (.getfield 47, 3) := by decide +kernel
theorem dX4_comes_14 : decode cX4_comes 14 = .ok (.aload_n 0, 1) := by decide +kernel
theorem dX4_comes_15 : decode cX4_comes 15 = .ok (.getfield 29, 3) := by decide +kernel
theorem dX4_comes_18 : decode cX4_comes 18 = .ok (.getfield 112, 3) := by decide +kernel
theorem dX4_comes_21 : decode cX4_comes 21 = .ok (.iload_n 1, 1) := by decide +kernel
theorem dX4_comes_22 : decode cX4_comes 22 = .ok (.aaload, 1) := by decide +kernel
theorem dX4_comes_23 : decode cX4_comes 23 = .ok (.invokevirtual 175, 3) := by decide +kernel
theorem dX4_comes_26 : decode cX4_comes 26 = .ok (.aload_n 0, 1) := by decide +kernel
theorem dX4_comes_27 : decode cX4_comes 27 = .ok (.aload_n 0, 1) := by decide +kernel
theorem dX4_comes_28 : decode cX4_comes 28 = .ok (.getfield 29, 3) := by decide +kernel
theorem dX4_comes_31 : decode cX4_comes 31 = .ok (.getfield 102, 3) := by decide +kernel
theorem dX4_comes_34 : decode cX4_comes 34 = .ok (.aload_n 0, 1) := by decide +kernel
theorem dX4_comes_35 : decode cX4_comes 35 = .ok (.getfield 29, 3) := by decide +kernel
theorem dX4_comes_38 : decode cX4_comes 38 = .ok (.getfield 88, 3) := by decide +kernel
theorem dX4_comes_41 : decode cX4_comes 41 = .ok (.invokevirtual 178, 3) := by decide +kernel
theorem dX4_comes_44 : decode cX4_comes 44 = .ok (.ireturn, 1) := by decide +kernel
set_option maxRecDepth 20000 in
theorem kX4_comes_29 : Cond.fieldLink RX4 29 "WindPost" "now" "LWindPost$Moment;" ∈ wsX4_comes := by decide +kernel
set_option maxRecDepth 20000 in
theorem kX4_comes_47 : Cond.fieldLink RX4 47 "WindPost" "probe" "LWindPost$Letter;" ∈ wsX4_comes := by decide +kernel
set_option maxRecDepth 20000 in
theorem kX4_comes_88 : Cond.fieldLink RX4 88 "WindPost$Moment" "nets" "I" ∈ wsX4_comes := by decide +kernel
set_option maxRecDepth 20000 in
theorem kX4_comes_102 : Cond.fieldLink RX4 102 "WindPost$Moment" "time" "I" ∈ wsX4_comes := by decide +kernel
set_option maxRecDepth 20000 in
theorem kX4_comes_112 : Cond.fieldLink RX4 112 "WindPost$Moment" "post" "[LWindPost$Letter;" ∈ wsX4_comes := by decide +kernel
set_option maxRecDepth 20000 in
theorem uX4_comes_X2 : ∀ w ∈ wsX20, w ∈ wsX4_comes := by decide +kernel
set_option maxRecDepth 20000 in
theorem uX4_comes_X4 : ∀ w ∈ wsX40, w ∈ wsX4_comes := by decide +kernel
set_option maxHeartbeats 8000000 in
set_option maxRecDepth 100000 in
theorem mX4_comes (l : Launch) (D : va_G) (ki : Nat → ClassId) (ad : Nat → Nat) (cs : List Nat) (hcs : kW cs) (N : Nat) (a1 : Int32) (G : zMem) (tr : Int64) : gMetI l D ki ad cs yX4_comes wsX4_comes { frames := 3, cells := 0, slots := 0, locals := 72 } [.ref (ad 0), .int a1] (xE ki ad) G tr (fX4_comes N a1 G tr) := by
  refine gMetI_of (cc := cX4_comes) (maxL := 2) (ret := (some .int)) (own := RX4) (by decide +kernel) rfl rfl (Nat.le_of_ble_eq_true rfl) ?_
  intro r9 G9 tr9 h p e s m below meth c S hr hlk K X ls hl
  have hl : lv_has ls 2 [(0, .ref (ad 0)), (1, .int a1)] := hl
  unfold fX4_comes at h
  obtain ⟨H, hH⟩ : ∃ H, H = s.heap := ⟨_, rfl⟩
  obtain ⟨locs, hlo⟩ : ∃ locs : List Loc, locs = [] := ⟨_, rfl⟩
  have X : gS D cs ad ((xE ki ad) G tr) (gA cs ad s.heap.size) s H locs := by rw [hH, hlo]; exact X
  suffices z : W p l e (headSpec wsX4_comes { frames := 3, cells := 0, slots := 0, locals := 72 }).room s m ([.ref (ad 0), .int a1] : List Value).toArray below meth c H locs 0 0 (zQI below ([.ref (ad 0), .int a1] : List Value).toArray s D cs ad ((xE ki ad) G9 tr9) r9) (F0 m 0 ls []) by rw [hH, hlo] at z; exact z
  clear hH hlo
  refine lv_aload_n S.1 S.2.1 dX4_comes_0 rfl (lv_at hl 0 rfl) ?_
  refine lv_iload_n S.1 S.2.1 dX4_comes_1 rfl (lv_at hl 1 rfl) ?_
  obtain ⟨r_2, G_3, tr_4, hf_1, h⟩ := zbd_some h
  refine zr_calli (Eg := (xE ki ad)) K X (va_runV (As := [.int a1]) (rest := []) S (mX4_isLetter l D ki ad cs hcs N a1 G tr H.size _ _ _ hf_1) (cwV 1 S.2.2.2.2 gX4_comes_X4_isLetter rfl rfl rfl (by decide +kernel) ⟨Nat.le_of_ble_eq_true rfl, Nat.le_of_ble_eq_true rfl⟩) (zr_preV (c0 := 0) K X (hcs 0 (by decide)) xE_W rfl) rfl rfl hl.1 rfl (lv_room (Nat.le_of_ble_eq_true rfl)) dX4_comes_2 ⟨Nat.zero_le _, Nat.zero_le _⟩) (fun H locs X => ?_)
  refine lv_if_ne (tgt := 10) S.1 S.2.1 dX4_comes_5 (by decide) (fun hc_5 => ?_) (fun hc_5 => ?_)
  · have h := zif_neg hc_5 h
    refine lv_aload_n S.1 S.2.1 dX4_comes_10 rfl (lv_at hl 0 rfl) ?_
    refine zr_get (v := .ref (ad 13)) S K X (hcs 0 (by decide)) xE_W rfl uX4_comes_X4 9 (by decide) kX4_comes_47 rfl rfl dX4_comes_11 ?_
    refine lv_aload_n S.1 S.2.1 dX4_comes_14 rfl (lv_at hl 0 rfl) ?_
    refine zr_get (v := .ref (ad 18)) S K X (hcs 0 (by decide)) xE_W rfl uX4_comes_X4 3 (by decide) kX4_comes_29 rfl rfl dX4_comes_15 ?_
    refine zr_get (v := .ref (ad 20)) S K X ((kM_now hcs).2 0 (by decide)) (xE_M (kM_now hcs)) rfl uX4_comes_X2 5 (by decide) kX4_comes_112 rfl rfl dX4_comes_18 ?_
    refine lv_iload_n S.1 S.2.1 dX4_comes_21 rfl (lv_at hl 1 rfl) ?_
    obtain ⟨hi_6, h⟩ := zin_some h
    refine zr_aald (f := (fun j => 21 + j)) (t0 := 2) (C := "WindPost$Letter") S K X ((kM_now hcs).2 2 (by decide)) (xE_M2 (kM_now hcs)) rfl hi_6 dX4_comes_22 ?_
    obtain ⟨r_8, G_9, tr_10, hf_7, h⟩ := zbd_some h
    refine zr_callv (Eg := (xE ki ad)) K X (va_runV (As := [.ref (ad (21 + (Int32.toNatClampNeg a1)))]) (rest := []) S (mX1_copyFrom l D ki ad cs hcs N 13 (21 + (Int32.toNatClampNeg a1)) (kL_13 hcs) (kL_now hcs hi_6) G_3 tr_4 H.size _ _ _ hf_7) (cwV 1 S.2.2.2.2 gX4_comes_X1_copyFrom rfl rfl rfl (by decide +kernel) ⟨Nat.le_of_ble_eq_true rfl, Nat.le_of_ble_eq_true rfl⟩) (zr_preV (c0 := 13) K X (kL_13 hcs).2 (xE_L (kL_13 hcs)) rfl) rfl rfl hl.1 rfl (lv_room (Nat.le_of_ble_eq_true rfl)) dX4_comes_23 ⟨Nat.zero_le _, Nat.zero_le _⟩) (fun H locs X => ?_)
    refine lv_aload_n S.1 S.2.1 dX4_comes_26 rfl (lv_at hl 0 rfl) ?_
    refine lv_aload_n S.1 S.2.1 dX4_comes_27 rfl (lv_at hl 0 rfl) ?_
    refine zr_get (v := .ref (ad 18)) S K X (hcs 0 (by decide)) xE_W rfl uX4_comes_X4 3 (by decide) kX4_comes_29 rfl rfl dX4_comes_28 ?_
    refine zr_get (v := .int (G_9 18 0)) S K X ((kM_now hcs).2 0 (by decide)) (xE_M (kM_now hcs)) rfl uX4_comes_X2 0 (by decide) kX4_comes_102 rfl rfl dX4_comes_31 ?_
    refine lv_aload_n S.1 S.2.1 dX4_comes_34 rfl (lv_at hl 0 rfl) ?_
    refine zr_get (v := .ref (ad 18)) S K X (hcs 0 (by decide)) xE_W rfl uX4_comes_X4 3 (by decide) kX4_comes_29 rfl rfl dX4_comes_35 ?_
    refine zr_get (v := .int (G_9 18 2)) S K X ((kM_now hcs).2 0 (by decide)) (xE_M (kM_now hcs)) rfl uX4_comes_X2 2 (by decide) kX4_comes_88 rfl rfl dX4_comes_38 ?_
    obtain ⟨r_12, G_13, tr_14, hf_11, h⟩ := zbd_some h
    refine zr_calli (Eg := (xE ki ad)) K X (va_runV (As := [.int (G_9 18 0), .int (G_9 18 2)]) (rest := []) S (mX4_arrival l D ki ad cs hcs N (G_9 18 0) (G_9 18 2) G_9 tr_10 H.size _ _ _ hf_11) (cwV 2 S.2.2.2.2 gX4_comes_X4_arrival rfl rfl rfl (by decide +kernel) ⟨Nat.le_of_ble_eq_true rfl, Nat.le_of_ble_eq_true rfl⟩) (zr_preV (c0 := 0) K X (hcs 0 (by decide)) xE_W rfl) rfl rfl hl.1 rfl (lv_room (Nat.le_of_ble_eq_true rfl)) dX4_comes_41 ⟨Nat.zero_le _, Nat.zero_le _⟩) (fun H locs X => ?_)
    exact zr_iret S hr hlk X h dX4_comes_44
  · have h := zif_pos hc_5 h
    refine lv_iconst (v := (-1 : Int32)) S.1 S.2.1 dX4_comes_8 (by decide) ?_
    exact zr_iret S hr hlk X h dX4_comes_9
set_option maxRecDepth 20000 in
theorem ggX4_blots_X4_isLetter : GoodIn wsX4_blots wsX4_isLetter := goodIn_r _ [6, 7, 8, 9, 10, 5, 11, 72, 73, 74, 75, 76, 77, 78, 79, 80, 81, 82, 83, 84, 85, 86, 87, 88, 89] (by decide +kernel) (by decide +kernel)
set_option maxRecDepth 20000 in
theorem gX4_blots_X4_isLetter : GoodIn wsX4_blots (wsV RX4 109 RX4 yX4_isLetter wsX4_isLetter) := goodIn_app (goodIn_of _ (by decide +kernel)) ggX4_blots_X4_isLetter
set_option maxRecDepth 20000 in
theorem ggX4_blots_X4_isWithin : GoodIn wsX4_blots wsX4_isWithin := goodIn_r _ [11] (by decide +kernel) (by decide +kernel)
set_option maxRecDepth 20000 in
theorem gX4_blots_X4_isWithin : GoodIn wsX4_blots (va_wsS RX4 54 yX4_isWithin wsX4_isWithin) := goodIn_app (goodIn_of _ (by decide +kernel)) ggX4_blots_X4_isWithin
set_option maxRecDepth 20000 in
theorem ggX4_blots_X4_letterIn : GoodIn wsX4_blots wsX4_letterIn := goodIn_r _ [15, 16, 7, 17, 18, 19, 20, 21, 22, 23, 24, 25, 26, 27, 28, 29, 30, 31, 32, 33, 5, 34, 35, 36, 37, 38, 39, 40, 41, 42, 43, 44, 45, 46, 47, 48, 49, 50, 51, 52, 53, 54, 55, 56, 57, 58, 59, 60, 61, 62, 63, 64, 72, 73, 74, 75, 76, 77, 78, 79, 80, 81, 82, 83, 84, 85, 86, 87, 88, 89, 65, 66, 67, 68, 69, 70, 71, 90, 91, 92, 93, 94, 95, 96, 97, 98, 99] (by decide +kernel) (by decide +kernel)
set_option maxRecDepth 20000 in
theorem gX4_blots_X4_letterIn : GoodIn wsX4_blots (wsV RX4 171 RX4 yX4_letterIn wsX4_letterIn) := goodIn_app (goodIn_of _ (by decide +kernel)) ggX4_blots_X4_letterIn
theorem dX4_blots_0 : decode cX4_blots 0 = .ok (.aload_n 0, 1) := by decide +kernel
theorem dX4_blots_1 : decode cX4_blots 1 = .ok (.iload_n 1, 1) := by decide +kernel
theorem dX4_blots_2 : decode cX4_blots 2 = .ok (.invokevirtual 109, 3) := by decide +kernel
theorem dX4_blots_5 : decode cX4_blots 5 = .ok (.ifCond .eq 13, 3) := by decide +kernel
theorem dX4_blots_8 : decode cX4_blots 8 = .ok (.iload_n 2, 1) := by decide +kernel
theorem dX4_blots_9 : decode cX4_blots 9 = .ok (.iconst 0, 1) := by decide +kernel
theorem dX4_blots_10 : decode cX4_blots 10 = .ok (.bipush 60, 2) := by decide +kernel
theorem dX4_blots_12 : decode cX4_blots 12 = .ok (.invokestatic 54, 3) := by decide +kernel
theorem dX4_blots_15 : decode cX4_blots 15 = .ok (.ifCond .ne 5, 3) := by decide +kernel
theorem dX4_blots_18 : decode cX4_blots 18 = .ok (.iconst (-1), 1) := by decide +kernel
theorem dX4_blots_19 : decode cX4_blots 19 = .ok (.ireturn, 1) := by decide +kernel
theorem dX4_blots_20 : decode cX4_blots 20 = .ok (.aload_n 0, 1) := by decide +kernel
theorem dX4_blots_21 : decode cX4_blots 21 = .ok (.iload_n 1, 1) := by decide +kernel
theorem dX4_blots_22 : decode cX4_blots 22 = .ok (.iload_n 2, 1) := by decide +kernel
theorem dX4_blots_23 : decode cX4_blots 23 = .ok (.invokevirtual 171, 3) := by decide +kernel
theorem dX4_blots_26 : decode cX4_blots 26 = .ok (.getfield 128, 3) := by decide +kernel
theorem dX4_blots_29 : decode cX4_blots 29 = .ok (.ireturn, 1) := by decide +kernel
set_option maxRecDepth 20000 in
theorem kX4_blots_128 : Cond.fieldLink RX4 128 "WindPost$Letter" "marks" "I" ∈ wsX4_blots := by decide +kernel
set_option maxRecDepth 20000 in
theorem uX4_blots_X1 : ∀ w ∈ wsX10, w ∈ wsX4_blots := by decide +kernel
set_option maxHeartbeats 8000000 in
set_option maxRecDepth 100000 in
theorem mX4_blots (l : Launch) (D : va_G) (ki : Nat → ClassId) (ad : Nat → Nat) (cs : List Nat) (hcs : kW cs) (N : Nat) (a1 : Int32) (a2 : Int32) (G : zMem) (tr : Int64) : gMetI l D ki ad cs yX4_blots wsX4_blots { frames := 4, cells := 0, slots := 0, locals := 94 } [.ref (ad 0), .int a1, .int a2] (xE ki ad) G tr (fX4_blots N a1 a2 G tr) := by
  refine gMetI_of (cc := cX4_blots) (maxL := 3) (ret := (some .int)) (own := RX4) (by decide +kernel) rfl rfl (Nat.le_of_ble_eq_true rfl) ?_
  intro r9 G9 tr9 h p e s m below meth c S hr hlk K X ls hl
  have hl : lv_has ls 3 [(0, .ref (ad 0)), (1, .int a1), (2, .int a2)] := hl
  unfold fX4_blots at h
  obtain ⟨H, hH⟩ : ∃ H, H = s.heap := ⟨_, rfl⟩
  obtain ⟨locs, hlo⟩ : ∃ locs : List Loc, locs = [] := ⟨_, rfl⟩
  have X : gS D cs ad ((xE ki ad) G tr) (gA cs ad s.heap.size) s H locs := by rw [hH, hlo]; exact X
  suffices z : W p l e (headSpec wsX4_blots { frames := 4, cells := 0, slots := 0, locals := 94 }).room s m ([.ref (ad 0), .int a1, .int a2] : List Value).toArray below meth c H locs 0 0 (zQI below ([.ref (ad 0), .int a1, .int a2] : List Value).toArray s D cs ad ((xE ki ad) G9 tr9) r9) (F0 m 0 ls []) by rw [hH, hlo] at z; exact z
  clear hH hlo
  refine lv_aload_n S.1 S.2.1 dX4_blots_0 rfl (lv_at hl 0 rfl) ?_
  refine lv_iload_n S.1 S.2.1 dX4_blots_1 rfl (lv_at hl 1 rfl) ?_
  obtain ⟨r_2, G_3, tr_4, hf_1, h⟩ := zbd_some h
  refine zr_calli (Eg := (xE ki ad)) K X (va_runV (As := [.int a1]) (rest := []) S (mX4_isLetter l D ki ad cs hcs N a1 G tr H.size _ _ _ hf_1) (cwV 1 S.2.2.2.2 gX4_blots_X4_isLetter rfl rfl rfl (by decide +kernel) ⟨Nat.le_of_ble_eq_true rfl, Nat.le_of_ble_eq_true rfl⟩) (zr_preV (c0 := 0) K X (hcs 0 (by decide)) xE_W rfl) rfl rfl hl.1 rfl (lv_room (Nat.le_of_ble_eq_true rfl)) dX4_blots_2 ⟨Nat.zero_le _, Nat.zero_le _⟩) (fun H locs X => ?_)
  refine lv_if_eq (tgt := 18) S.1 S.2.1 dX4_blots_5 (by decide) (fun hc_5 => ?_) (fun hc_5 => ?_)
  · have h := zif_pos hc_5 h
    refine lv_iconst (v := (-1 : Int32)) S.1 S.2.1 dX4_blots_18 (by decide) ?_
    exact zr_iret S hr hlk X h dX4_blots_19
  · have h := zif_neg hc_5 h
    refine lv_iload_n S.1 S.2.1 dX4_blots_8 rfl (lv_at hl 2 rfl) ?_
    refine lv_iconst (v := (0 : Int32)) S.1 S.2.1 dX4_blots_9 (by decide) ?_
    refine lv_bipush (v := (60 : Int32)) S.1 S.2.1 dX4_blots_10 (by decide) ?_
    obtain ⟨r_7, hf_6, h⟩ := zbp_some h
    refine zr_calli (Eg := (xE ki ad)) (G' := G_3) (tr' := tr_4) K X (va_runS (As := [.int a2, .int (0 : Int32), .int (60 : Int32)]) (rest := []) S (mX4_isWithin l D ki ad cs N a2 (0 : Int32) (60 : Int32) (xE ki ad) G_3 tr_4 H.size _ _ _ (zpu_of hf_6)) (va_cwS 3 S.2.2.2.2 gX4_blots_X4_isWithin rfl rfl rfl (by decide +kernel) ⟨Nat.le_of_ble_eq_true rfl, Nat.le_of_ble_eq_true rfl⟩) (zr_pre K X) rfl rfl hl.1 rfl (lv_room (Nat.le_of_ble_eq_true rfl)) dX4_blots_12 ⟨Nat.zero_le _, Nat.zero_le _⟩) (fun H locs X => ?_)
    refine lv_if_ne (tgt := 20) S.1 S.2.1 dX4_blots_15 (by decide) (fun hc_8 => ?_) (fun hc_8 => ?_)
    · have h := zif_neg hc_8 h
      refine lv_aload_n S.1 S.2.1 dX4_blots_20 rfl (lv_at hl 0 rfl) ?_
      refine lv_iload_n S.1 S.2.1 dX4_blots_21 rfl (lv_at hl 1 rfl) ?_
      refine lv_iload_n S.1 S.2.1 dX4_blots_22 rfl (lv_at hl 2 rfl) ?_
      obtain ⟨r_10, G_11, tr_12, hf_9, h⟩ := zbd_some h
      refine zr_calla (Eg := (xE ki ad)) K X (va_runV (As := [.int a1, .int a2]) (rest := []) S (mX4_letterIn l D ki ad cs hcs N a1 a2 G_3 tr_4 H.size _ _ _ hf_9) (cwV 2 S.2.2.2.2 gX4_blots_X4_letterIn rfl rfl rfl (by decide +kernel) ⟨Nat.le_of_ble_eq_true rfl, Nat.le_of_ble_eq_true rfl⟩) (zr_preV (c0 := 0) K X (hcs 0 (by decide)) xE_W rfl) rfl rfl hl.1 rfl (lv_room (Nat.le_of_ble_eq_true rfl)) dX4_blots_23 ⟨Nat.zero_le _, Nat.zero_le _⟩) (fun H locs X => ?_)
      refine zr_get (v := .int (G_11 13 4)) S K X (kL_13 hcs).2 (xE_L (kL_13 hcs)) rfl uX4_blots_X1 4 (by decide) kX4_blots_128 rfl rfl dX4_blots_26 ?_
      exact zr_iret S hr hlk X h dX4_blots_29
    · have h := zif_pos hc_8 h
      refine lv_iconst (v := (-1 : Int32)) S.1 S.2.1 dX4_blots_18 (by decide) ?_
      exact zr_iret S hr hlk X h dX4_blots_19
set_option maxRecDepth 20000 in
theorem ggX4_loop_X4_isLetter : GoodIn wsX4_loop wsX4_isLetter := goodIn_r _ [16, 1, 17, 18, 19, 15, 20, 80, 81, 82, 83, 84, 85, 86, 87, 88, 89, 90, 91, 92, 93, 94, 95, 96, 97] (by decide +kernel) (by decide +kernel)
set_option maxRecDepth 20000 in
theorem gX4_loop_X4_isLetter : GoodIn wsX4_loop (wsV RX4 109 RX4 yX4_isLetter wsX4_isLetter) := goodIn_app (goodIn_of _ (by decide +kernel)) ggX4_loop_X4_isLetter
set_option maxRecDepth 20000 in
theorem ggX4_loop_X0_cells : GoodIn wsX4_loop wsX0_cells := goodIn_r _ [25, 26, 27, 28, 29, 5, 30, 105, 106, 107, 108, 109, 110, 111, 112, 113, 114] (by decide +kernel) (by decide +kernel)
set_option maxRecDepth 20000 in
theorem gX4_loop_X0_cells : GoodIn wsX4_loop (wsV RX4 95 RX0 yX0_cells wsX0_cells) := goodIn_app (goodIn_of _ (by decide +kernel)) ggX4_loop_X0_cells
set_option maxRecDepth 20000 in
theorem ggX4_loop_X4_letterIn : GoodIn wsX4_loop wsX4_letterIn := goodIn_r _ [34, 9, 1, 35, 11, 36, 37, 38, 39, 40, 41, 42, 43, 44, 45, 46, 47, 48, 49, 50, 15, 51, 7, 52, 53, 54, 55, 56, 57, 58, 59, 60, 61, 62, 63, 64, 65, 66, 67, 68, 69, 70, 24, 71, 72, 73, 74, 75, 76, 77, 78, 79, 80, 81, 82, 83, 84, 85, 86, 87, 88, 89, 90, 91, 92, 93, 94, 95, 96, 97, 98, 99, 100, 101, 102, 103, 104, 105, 106, 107, 108, 109, 110, 111, 112, 113, 114] (by decide +kernel) (by decide +kernel)
set_option maxRecDepth 20000 in
theorem gX4_loop_X4_letterIn : GoodIn wsX4_loop (wsV RX4 171 RX4 yX4_letterIn wsX4_letterIn) := goodIn_app (goodIn_of _ (by decide +kernel)) ggX4_loop_X4_letterIn
set_option maxRecDepth 20000 in
theorem ggX4_loop_X4_passHours : GoodIn wsX4_loop wsX4_passHours := goodIn_r _ [51, 7, 1, 52, 53, 54, 55, 56, 57, 58, 59, 60, 61, 62, 63, 64, 65, 66, 39, 67, 46, 47, 44, 43, 45, 68, 69, 70, 24, 71, 72, 73, 74, 75, 76, 77, 78, 15, 79, 80, 81, 82, 83, 84, 85, 86, 87, 88, 89, 90, 91, 92, 93, 94, 95, 96, 97, 98, 99, 100, 101, 102, 103, 104, 105, 106, 107, 108, 109, 110, 111, 112, 113, 114] (by decide +kernel) (by decide +kernel)
set_option maxRecDepth 20000 in
theorem gX4_loop_X4_passHours : GoodIn wsX4_loop (wsV RX4 186 RX4 yX4_passHours wsX4_passHours) := goodIn_app (goodIn_of _ (by decide +kernel)) ggX4_loop_X4_passHours
theorem dX4_loop_0 : decode cX4_loop 0 = .ok (.aload_n 0, 1) := by decide +kernel
theorem dX4_loop_1 : decode cX4_loop 1 = .ok (.iload_n 1, 1) := by decide +kernel
theorem dX4_loop_2 : decode cX4_loop 2 = .ok (.invokevirtual 109, 3) := by decide +kernel
theorem dX4_loop_5 : decode cX4_loop 5 = .ok (.ifCond .ne 5, 3) := by decide +kernel
theorem dX4_loop_8 : decode cX4_loop 8 = .ok (.iconst (-1), 1) := by decide +kernel
theorem dX4_loop_9 : decode cX4_loop 9 = .ok (.ireturn, 1) := by decide +kernel
theorem dX4_loop_10 : decode cX4_loop 10 = .ok (.iconst 1, 1) := by decide +kernel
theorem dX4_loop_11 : decode cX4_loop 11 = .ok (.aload_n 0, 1) := by decide +kernel
theorem dX4_loop_12 : decode cX4_loop 12 = .ok (.getfield 29, 3) := by decide +kernel
theorem dX4_loop_15 : decode cX4_loop 15 = .ok (.getfield 158, 3) := by decide +kernel
theorem dX4_loop_18 : decode cX4_loop 18 = .ok (.invokestatic 181, 3) := by decide +kernel
theorem dX4_loop_21 : decode cX4_loop 21 = .ok (.istore_n 2, 1) := by decide +kernel
theorem dX4_loop_22 : decode cX4_loop 22 = .ok (.aload_n 0, 1) := by decide +kernel
theorem dX4_loop_23 : decode cX4_loop 23 = .ok (.iload_n 1, 1) := by decide +kernel
theorem dX4_loop_24 : decode cX4_loop 24 = .ok (.aload_n 0, 1) := by decide +kernel
theorem dX4_loop_25 : decode cX4_loop 25 = .ok (.getfield 19, 3) := by decide +kernel
theorem dX4_loop_28 : decode cX4_loop 28 = .ok (.invokevirtual 95, 3) := by decide +kernel
theorem dX4_loop_31 : decode cX4_loop 31 = .ok (.iload_n 2, 1) := by decide +kernel
theorem dX4_loop_32 : decode cX4_loop 32 = .ok (.imul, 1) := by decide +kernel
theorem dX4_loop_33 : decode cX4_loop 33 = .ok (.invokevirtual 171, 3) := by decide +kernel
theorem dX4_loop_36 : decode cX4_loop 36 = .ok (.getfield 131, 3) := by decide +kernel
theorem dX4_loop_39 : decode cX4_loop 39 = .ok (.ifCond .eq 6, 3) := by decide +kernel
theorem dX4_loop_42 : decode cX4_loop 42 = .ok (.bipush (-9), 2) := by decide +kernel
theorem dX4_loop_44 : decode cX4_loop 44 = .ok (.ireturn, 1) := by decide +kernel
theorem dX4_loop_45 : decode cX4_loop 45 = .ok (.aload_n 0, 1) := by decide +kernel
theorem dX4_loop_46 : decode cX4_loop 46 = .ok (.getfield 47, 3) := by decide +kernel
theorem dX4_loop_49 : decode cX4_loop 49 = .ok (.getfield 125, 3) := by decide +kernel
theorem dX4_loop_52 : decode cX4_loop 52 = .ok (.istore_n 3, 1) := by decide +kernel
theorem dX4_loop_53 : decode cX4_loop 53 = .ok (.iconst 1, 1) := by decide +kernel
theorem dX4_loop_54 : decode cX4_loop 54 = .ok (.istore 4, 2) := by decide +kernel
theorem dX4_loop_56 : decode cX4_loop 56 = .ok (.iload 4, 2) := by decide +kernel
theorem dX4_loop_58 : decode cX4_loop 58 = .ok (.bipush 30, 2) := by decide +kernel
theorem dX4_loop_60 : decode cX4_loop 60 = .ok (.if_icmp .gt 41, 3) := by decide +kernel
theorem dX4_loop_63 : decode cX4_loop 63 = .ok (.aload_n 0, 1) := by decide +kernel
theorem dX4_loop_64 : decode cX4_loop 64 = .ok (.aload_n 0, 1) := by decide +kernel
theorem dX4_loop_65 : decode cX4_loop 65 = .ok (.getfield 47, 3) := by decide +kernel
theorem dX4_loop_68 : decode cX4_loop 68 = .ok (.aload_n 0, 1) := by decide +kernel
theorem dX4_loop_69 : decode cX4_loop 69 = .ok (.getfield 29, 3) := by decide +kernel
theorem dX4_loop_72 : decode cX4_loop 72 = .ok (.getfield 102, 3) := by decide +kernel
theorem dX4_loop_75 : decode cX4_loop 75 = .ok (.iload_n 2, 1) := by decide +kernel
theorem dX4_loop_76 : decode cX4_loop 76 = .ok (.invokevirtual 186, 3) := by decide +kernel
theorem dX4_loop_79 : decode cX4_loop 79 = .ok (.aload_n 0, 1) := by decide +kernel
theorem dX4_loop_80 : decode cX4_loop 80 = .ok (.getfield 47, 3) := by decide +kernel
theorem dX4_loop_83 : decode cX4_loop 83 = .ok (.getfield 125, 3) := by decide +kernel
theorem dX4_loop_86 : decode cX4_loop 86 = .ok (.iload_n 3, 1) := by decide +kernel
theorem dX4_loop_87 : decode cX4_loop 87 = .ok (.if_icmp .ne 8, 3) := by decide +kernel
theorem dX4_loop_90 : decode cX4_loop 90 = .ok (.iload 4, 2) := by decide +kernel
theorem dX4_loop_92 : decode cX4_loop 92 = .ok (.iload_n 2, 1) := by decide +kernel
theorem dX4_loop_93 : decode cX4_loop 93 = .ok (.imul, 1) := by decide +kernel
theorem dX4_loop_94 : decode cX4_loop 94 = .ok (.ireturn, 1) := by decide +kernel
theorem dX4_loop_95 : decode cX4_loop 95 = .ok (.iinc 4 1, 3) := by decide +kernel
theorem dX4_loop_98 : decode cX4_loop 98 = .ok (.goto (-42), 3) := by decide +kernel
theorem dX4_loop_101 : decode cX4_loop 101 = .ok (.bipush (-9), 2) := by decide +kernel
theorem dX4_loop_103 : decode cX4_loop 103 = .ok (.ireturn, 1) := by decide +kernel
set_option maxRecDepth 20000 in
theorem kX4_loop_19 : Cond.fieldLink RX4 19 "WindPost" "chart" "LWindPost$Chart;" ∈ wsX4_loop := by decide +kernel
set_option maxRecDepth 20000 in
theorem kX4_loop_29 : Cond.fieldLink RX4 29 "WindPost" "now" "LWindPost$Moment;" ∈ wsX4_loop := by decide +kernel
set_option maxRecDepth 20000 in
theorem kX4_loop_47 : Cond.fieldLink RX4 47 "WindPost" "probe" "LWindPost$Letter;" ∈ wsX4_loop := by decide +kernel
set_option maxRecDepth 20000 in
theorem kX4_loop_102 : Cond.fieldLink RX4 102 "WindPost$Moment" "time" "I" ∈ wsX4_loop := by decide +kernel
set_option maxRecDepth 20000 in
theorem kX4_loop_125 : Cond.fieldLink RX4 125 "WindPost$Letter" "place" "I" ∈ wsX4_loop := by decide +kernel
set_option maxRecDepth 20000 in
theorem kX4_loop_131 : Cond.fieldLink RX4 131 "WindPost$Letter" "how" "I" ∈ wsX4_loop := by decide +kernel
set_option maxRecDepth 20000 in
theorem kX4_loop_158 : Cond.fieldLink RX4 158 "WindPost$Moment" "told" "I" ∈ wsX4_loop := by decide +kernel
set_option maxRecDepth 20000 in
theorem uX4_loop_X1 : ∀ w ∈ wsX10, w ∈ wsX4_loop := by decide +kernel
set_option maxRecDepth 20000 in
theorem uX4_loop_X2 : ∀ w ∈ wsX20, w ∈ wsX4_loop := by decide +kernel
set_option maxRecDepth 20000 in
theorem uX4_loop_X4 : ∀ w ∈ wsX40, w ∈ wsX4_loop := by decide +kernel
set_option maxRecDepth 20000 in
theorem jX4_loop_max_l : Cond.methodLink RX4 181 Lib.Math.max.name ∈ wsX4_loop := by decide +kernel
set_option maxRecDepth 20000 in
theorem jX4_loop_max_s : Cond.static Lib.Math.max.name ∈ wsX4_loop := by decide +kernel
set_option maxRecDepth 20000 in
theorem jX4_loop_max_i : Cond.initialized "java/lang/Math" ∈ wsX4_loop := by decide +kernel
set_option maxRecDepth 20000 in
theorem jX4_loop_max_c : Cond.code Lib.Math.max.name Lib.Math.max.code 2 (some .int) ∈ wsX4_loop := by decide +kernel
set_option maxHeartbeats 8000000 in
set_option maxRecDepth 100000 in
theorem mX4_loop (l : Launch) (D : va_G) (ki : Nat → ClassId) (ad : Nat → Nat) (cs : List Nat) (hcs : kW cs) (N : Nat) (a1 : Int32) (G : zMem) (tr : Int64) : gMetI l D ki ad cs yX4_loop wsX4_loop { frames := 4, cells := 0, slots := 0, locals := 94 } [.ref (ad 0), .int a1] (xE ki ad) G tr (fX4_loop N a1 G tr) := by
  refine gMetI_of (cc := cX4_loop) (maxL := 5) (ret := (some .int)) (own := RX4) (by decide +kernel) rfl rfl (Nat.le_of_ble_eq_true rfl) ?_
  intro r9 G9 tr9 h p e s m below meth c S hr hlk K X ls hl
  have hl : lv_has ls 5 [(0, .ref (ad 0)), (1, .int a1)] := hl
  have b56 : ∀ (k56 : Int32 → Int32 → Int32 → zMem → Int64 → zR) (hk56 : ∀ (x2 : Int32) (x3 : Int32) (x4 : Int32) (G : zMem) (tr : Int64), k56 x2 x3 x4 G tr = some (r9, G9, tr9) → zAt p l e (headSpec wsX4_loop { frames := 4, cells := 0, slots := 0, locals := 94 }).room s m ([.ref (ad 0), .int a1] : List Value).toArray below meth c 5 D cs ad (zQI below ([.ref (ad 0), .int a1] : List Value).toArray s D cs ad ((xE ki ad) G9 tr9) r9) 56 [(0, .ref (ad 0)), (2, .int x2), (3, .int x3), (4, .int x4)] [] ((xE ki ad) G tr)) (x2 : Int32) (x3 : Int32) (x4 : Int32) (G : zMem) (tr : Int64), fX4_loop_b56 N a1 k56 x2 x3 x4 G tr = some (r9, G9, tr9) → zAt p l e (headSpec wsX4_loop { frames := 4, cells := 0, slots := 0, locals := 94 }).room s m ([.ref (ad 0), .int a1] : List Value).toArray below meth c 5 D cs ad (zQI below ([.ref (ad 0), .int a1] : List Value).toArray s D cs ad ((xE ki ad) G9 tr9) r9) 56 [(0, .ref (ad 0)), (2, .int x2), (3, .int x3), (4, .int x4)] [] ((xE ki ad) G tr) := by
    intro k56 hk56 x2 x3 x4 G tr h H locs ls X hl
    unfold fX4_loop_b56 at h
    refine lv_iload S.1 S.2.1 dX4_loop_56 (lv_at hl 3 rfl) ?_
    refine lv_bipush (v := (30 : Int32)) S.1 S.2.1 dX4_loop_58 (by decide) ?_
    refine lv_icmp_gt (tgt := 101) S.1 S.2.1 dX4_loop_60 (by decide) (fun hc_1 => ?_) (fun hc_1 => ?_)
    · have h := zif_pos hc_1 h
      refine lv_bipush (v := (-9 : Int32)) S.1 S.2.1 dX4_loop_101 (by decide) ?_
      exact zr_iret S hr hlk X h dX4_loop_103
    · have h := zif_neg hc_1 h
      refine lv_aload_n S.1 S.2.1 dX4_loop_63 rfl (lv_at hl 0 rfl) ?_
      refine lv_aload_n S.1 S.2.1 dX4_loop_64 rfl (lv_at hl 0 rfl) ?_
      refine zr_get (v := .ref (ad 13)) S K X (hcs 0 (by decide)) xE_W rfl uX4_loop_X4 9 (by decide) kX4_loop_47 rfl rfl dX4_loop_65 ?_
      refine lv_aload_n S.1 S.2.1 dX4_loop_68 rfl (lv_at hl 0 rfl) ?_
      refine zr_get (v := .ref (ad 18)) S K X (hcs 0 (by decide)) xE_W rfl uX4_loop_X4 3 (by decide) kX4_loop_29 rfl rfl dX4_loop_69 ?_
      refine zr_get (v := .int (G 18 0)) S K X ((kM_now hcs).2 0 (by decide)) (xE_M (kM_now hcs)) rfl uX4_loop_X2 0 (by decide) kX4_loop_102 rfl rfl dX4_loop_72 ?_
      refine lv_iload_n S.1 S.2.1 dX4_loop_75 rfl (lv_at hl 1 rfl) ?_
      obtain ⟨r_3, G_4, tr_5, hf_2, h⟩ := zbd_some h
      refine zr_callv (Eg := (xE ki ad)) K X (va_runV (As := [.ref (ad 13), .int (G 18 0), .int x2]) (rest := []) S (mX4_passHours l D ki ad cs hcs N 13 (G 18 0) x2 (kL_13 hcs) G tr H.size _ _ _ hf_2) (cwV 3 S.2.2.2.2 gX4_loop_X4_passHours rfl rfl rfl (by decide +kernel) ⟨Nat.le_of_ble_eq_true rfl, Nat.le_of_ble_eq_true rfl⟩) (zr_preV (c0 := 0) K X (hcs 0 (by decide)) xE_W rfl) rfl rfl hl.1 rfl (lv_room (Nat.le_of_ble_eq_true rfl)) dX4_loop_76 ⟨Nat.zero_le _, Nat.zero_le _⟩) (fun H locs X => ?_)
      refine lv_aload_n S.1 S.2.1 dX4_loop_79 rfl (lv_at hl 0 rfl) ?_
      refine zr_get (v := .ref (ad 13)) S K X (hcs 0 (by decide)) xE_W rfl uX4_loop_X4 9 (by decide) kX4_loop_47 rfl rfl dX4_loop_80 ?_
      refine zr_get (v := .int (G_4 13 3)) S K X (kL_13 hcs).2 (xE_L (kL_13 hcs)) rfl uX4_loop_X1 3 (by decide) kX4_loop_125 rfl rfl dX4_loop_83 ?_
      refine lv_iload_n S.1 S.2.1 dX4_loop_86 rfl (lv_at hl 2 rfl) ?_
      refine lv_icmp_ne (tgt := 95) S.1 S.2.1 dX4_loop_87 (by decide) (fun hc_6 => ?_) (fun hc_6 => ?_)
      · have h := zif_neg hc_6 h
        refine lv_iinc (v := (x4 + 1)) (lv' := [(4, .int (x4 + 1)), (0, .ref (ad 0)), (2, .int x2), (3, .int x3)]) S.1 S.2.1 dX4_loop_95 hl (k := 3) rfl rfl (by decide) rfl (fun ls hl => ?_)
        refine lv_goto (tgt := 56) S.1 S.2.1 dX4_loop_98 (by decide) ?_
        exact hk56 x2 x3 (x4 + 1) G_4 tr_5 h _ _ _ X (lv_sub hl [1, 2, 3, 0] rfl)
      · have h := zif_pos hc_6 h
        refine lv_iload S.1 S.2.1 dX4_loop_90 (lv_at hl 3 rfl) ?_
        refine lv_iload_n S.1 S.2.1 dX4_loop_92 rfl (lv_at hl 1 rfl) ?_
        refine lv_imul S.1 S.2.1 dX4_loop_93 ?_
        exact zr_iret S hr hlk X h dX4_loop_94
  have L56 : ∀ (n : Nat) (x2 : Int32) (x3 : Int32) (x4 : Int32) (G : zMem) (tr : Int64), fX4_loop_L56 N a1 n x2 x3 x4 G tr = some (r9, G9, tr9) → zAt p l e (headSpec wsX4_loop { frames := 4, cells := 0, slots := 0, locals := 94 }).room s m ([.ref (ad 0), .int a1] : List Value).toArray below meth c 5 D cs ad (zQI below ([.ref (ad 0), .int a1] : List Value).toArray s D cs ad ((xE ki ad) G9 tr9) r9) 56 [(0, .ref (ad 0)), (2, .int x2), (3, .int x3), (4, .int x4)] [] ((xE ki ad) G tr) := by
    intro n
    induction n with
    | zero => intro x2 x3 x4 G tr h; cases h
    | succ n ih => intro x2 x3 x4 G tr h; exact b56 (fX4_loop_L56 N a1 n) ih x2 x3 x4 G tr h
  unfold fX4_loop at h
  obtain ⟨H, hH⟩ : ∃ H, H = s.heap := ⟨_, rfl⟩
  obtain ⟨locs, hlo⟩ : ∃ locs : List Loc, locs = [] := ⟨_, rfl⟩
  have X : gS D cs ad ((xE ki ad) G tr) (gA cs ad s.heap.size) s H locs := by rw [hH, hlo]; exact X
  suffices z : W p l e (headSpec wsX4_loop { frames := 4, cells := 0, slots := 0, locals := 94 }).room s m ([.ref (ad 0), .int a1] : List Value).toArray below meth c H locs 0 0 (zQI below ([.ref (ad 0), .int a1] : List Value).toArray s D cs ad ((xE ki ad) G9 tr9) r9) (F0 m 0 ls []) by rw [hH, hlo] at z; exact z
  clear hH hlo
  refine lv_aload_n S.1 S.2.1 dX4_loop_0 rfl (lv_at hl 0 rfl) ?_
  refine lv_iload_n S.1 S.2.1 dX4_loop_1 rfl (lv_at hl 1 rfl) ?_
  obtain ⟨r_2, G_3, tr_4, hf_1, h⟩ := zbd_some h
  refine zr_calli (Eg := (xE ki ad)) K X (va_runV (As := [.int a1]) (rest := []) S (mX4_isLetter l D ki ad cs hcs N a1 G tr H.size _ _ _ hf_1) (cwV 1 S.2.2.2.2 gX4_loop_X4_isLetter rfl rfl rfl (by decide +kernel) ⟨Nat.le_of_ble_eq_true rfl, Nat.le_of_ble_eq_true rfl⟩) (zr_preV (c0 := 0) K X (hcs 0 (by decide)) xE_W rfl) rfl rfl hl.1 rfl (lv_room (Nat.le_of_ble_eq_true rfl)) dX4_loop_2 ⟨Nat.zero_le _, Nat.zero_le _⟩) (fun H locs X => ?_)
  refine lv_if_ne (tgt := 10) S.1 S.2.1 dX4_loop_5 (by decide) (fun hc_5 => ?_) (fun hc_5 => ?_)
  · have h := zif_neg hc_5 h
    refine lv_iconst (v := (1 : Int32)) S.1 S.2.1 dX4_loop_10 (by decide) ?_
    refine lv_aload_n S.1 S.2.1 dX4_loop_11 rfl (lv_at hl 0 rfl) ?_
    refine zr_get (v := .ref (ad 18)) S K X (hcs 0 (by decide)) xE_W rfl uX4_loop_X4 3 (by decide) kX4_loop_29 rfl rfl dX4_loop_12 ?_
    refine zr_get (v := .int (G_3 18 3)) S K X ((kM_now hcs).2 0 (by decide)) (xE_M (kM_now hcs)) rfl uX4_loop_X2 3 (by decide) kX4_loop_158 rfl rfl dX4_loop_15 ?_
    refine va_mmax S.1 S.2.1 (S.2.2.1.trans hl.1.symm) S.2.2.2.1 (S.2.2.2.2 _ jX4_loop_max_l) (S.2.2.2.2 _ jX4_loop_max_s) (S.2.2.2.2 _ jX4_loop_max_i) (S.2.2.2.2 _ jX4_loop_max_c) (Nat.le_of_ble_eq_true rfl) (Nat.le_of_ble_eq_true rfl) (Nat.zero_le _) (Nat.zero_le _) dX4_loop_18 ?_
    refine lv_istore_n (lv' := [(2, .int (if (1 : Int32) < (G_3 18 3) then (G_3 18 3) else (1 : Int32))), (0, .ref (ad 0)), (1, .int a1)]) S.1 S.2.1 dX4_loop_21 rfl hl (by decide) rfl (fun ls hl => ?_)
    refine lv_aload_n S.1 S.2.1 dX4_loop_22 rfl (lv_at hl 1 rfl) ?_
    refine lv_iload_n S.1 S.2.1 dX4_loop_23 rfl (lv_at hl 2 rfl) ?_
    refine lv_aload_n S.1 S.2.1 dX4_loop_24 rfl (lv_at hl 1 rfl) ?_
    obtain ⟨hq_6, h⟩ := zch_some h
    refine zr_get (v := .ref (ad (G_3 0 1).toNatClampNeg)) S K X (hcs 0 (by decide)) xE_W rfl uX4_loop_X4 1 (by decide) kX4_loop_19 rfl rfl dX4_loop_25 ?_
    obtain ⟨r_8, G_9, tr_10, hf_7, h⟩ := zbd_some h
    refine zr_calli (Eg := (xE ki ad)) K X (va_runV (As := []) (rest := [.int a1, .ref (ad 0)]) S (mX0_cells l D ki ad cs  N (G_3 0 1).toNatClampNeg (kC_of hcs hq_6) G_3 tr_4 H.size _ _ _ hf_7) (cwV 0 S.2.2.2.2 gX4_loop_X0_cells rfl rfl rfl (by decide +kernel) ⟨Nat.le_of_ble_eq_true rfl, Nat.le_of_ble_eq_true rfl⟩) (zr_preV (c0 := (G_3 0 1).toNatClampNeg) K X ((kC_of hcs hq_6).2 0 (by decide)) (xE_C (kC_of hcs hq_6)) rfl) rfl rfl hl.1 rfl (lv_room (Nat.le_of_ble_eq_true rfl)) dX4_loop_28 ⟨Nat.zero_le _, Nat.zero_le _⟩) (fun H locs X => ?_)
    refine lv_iload_n S.1 S.2.1 dX4_loop_31 rfl (lv_at hl 0 rfl) ?_
    refine lv_imul S.1 S.2.1 dX4_loop_32 ?_
    obtain ⟨r_12, G_13, tr_14, hf_11, h⟩ := zbd_some h
    refine zr_calla (Eg := (xE ki ad)) K X (va_runV (As := [.int a1, .int (r_8 * (if (1 : Int32) < (G_3 18 3) then (G_3 18 3) else (1 : Int32)))]) (rest := []) S (mX4_letterIn l D ki ad cs hcs N a1 (r_8 * (if (1 : Int32) < (G_3 18 3) then (G_3 18 3) else (1 : Int32))) G_9 tr_10 H.size _ _ _ hf_11) (cwV 2 S.2.2.2.2 gX4_loop_X4_letterIn rfl rfl rfl (by decide +kernel) ⟨Nat.le_of_ble_eq_true rfl, Nat.le_of_ble_eq_true rfl⟩) (zr_preV (c0 := 0) K X (hcs 0 (by decide)) xE_W rfl) rfl rfl hl.1 rfl (lv_room (Nat.le_of_ble_eq_true rfl)) dX4_loop_33 ⟨Nat.zero_le _, Nat.zero_le _⟩) (fun H locs X => ?_)
    refine zr_get (v := .int (G_13 13 5)) S K X (kL_13 hcs).2 (xE_L (kL_13 hcs)) rfl uX4_loop_X1 5 (by decide) kX4_loop_131 rfl rfl dX4_loop_36 ?_
    refine lv_if_eq (tgt := 45) S.1 S.2.1 dX4_loop_39 (by decide) (fun hc_15 => ?_) (fun hc_15 => ?_)
    · have h := zif_pos hc_15 h
      refine lv_aload_n S.1 S.2.1 dX4_loop_45 rfl (lv_at hl 1 rfl) ?_
      refine zr_get (v := .ref (ad 13)) S K X (hcs 0 (by decide)) xE_W rfl uX4_loop_X4 9 (by decide) kX4_loop_47 rfl rfl dX4_loop_46 ?_
      refine zr_get (v := .int (G_13 13 3)) S K X (kL_13 hcs).2 (xE_L (kL_13 hcs)) rfl uX4_loop_X1 3 (by decide) kX4_loop_125 rfl rfl dX4_loop_49 ?_
      refine lv_istore_n (lv' := [(3, .int (G_13 13 3)), (2, .int (if (1 : Int32) < (G_3 18 3) then (G_3 18 3) else (1 : Int32))), (0, .ref (ad 0)), (1, .int a1)]) S.1 S.2.1 dX4_loop_52 rfl hl (by decide) rfl (fun ls hl => ?_)
      refine lv_iconst (v := (1 : Int32)) S.1 S.2.1 dX4_loop_53 (by decide) ?_
      refine lv_istore (lv' := [(4, .int (1 : Int32)), (3, .int (G_13 13 3)), (2, .int (if (1 : Int32) < (G_3 18 3) then (G_3 18 3) else (1 : Int32))), (0, .ref (ad 0)), (1, .int a1)]) S.1 S.2.1 dX4_loop_54 hl (by decide) rfl (fun ls hl => ?_)
      exact L56 N (if (1 : Int32) < (G_3 18 3) then (G_3 18 3) else (1 : Int32)) (G_13 13 3) (1 : Int32) G_13 tr_14 h _ _ _ X (lv_sub hl [3, 2, 1, 0] rfl)
    · have h := zif_neg hc_15 h
      refine lv_bipush (v := (-9 : Int32)) S.1 S.2.1 dX4_loop_42 (by decide) ?_
      exact zr_iret S hr hlk X h dX4_loop_44
  · have h := zif_pos hc_5 h
    refine lv_iconst (v := (-1 : Int32)) S.1 S.2.1 dX4_loop_8 (by decide) ?_
    exact zr_iret S hr hlk X h dX4_loop_9
