set_option maxRecDepth 20000 in
theorem ggX5_cell_X5_in : GoodIn wsX5_cell wsX5_in := goodIn_r _ [6] (by decide +kernel) (by decide +kernel)
set_option maxRecDepth 20000 in
theorem gX5_cell_X5_in : GoodIn wsX5_cell (va_wsS RX5 51 yX5_in wsX5_in) := goodIn_app (goodIn_of _ (by decide +kernel)) ggX5_cell_X5_in
set_option maxRecDepth 20000 in
theorem ggX5_cell_X5_isHill : GoodIn wsX5_cell wsX5_isHill := goodIn_r _ [10, 2, 11, 17, 18, 19, 20, 21, 22, 23, 24, 25, 26, 27, 28, 29, 30, 31, 32, 33, 34, 35, 36, 37, 38] (by decide +kernel) (by decide +kernel)
set_option maxRecDepth 20000 in
theorem gX5_cell_X5_isHill : GoodIn wsX5_cell (wsV RX5 119 RX5 yX5_isHill wsX5_isHill) := goodIn_app (goodIn_of _ (by decide +kernel)) ggX5_cell_X5_isHill
set_option maxRecDepth 20000 in
theorem ggX5_cell_X5_isleAt : GoodIn wsX5_cell wsX5_isleAt := goodIn_r _ [15, 2, 16, 17, 18, 19, 20, 21, 22, 23, 24, 25, 26, 27, 28, 29, 30, 31, 32, 33, 34, 35, 36, 37, 38] (by decide +kernel) (by decide +kernel)
set_option maxRecDepth 20000 in
theorem gX5_cell_X5_isleAt : GoodIn wsX5_cell (wsV RX5 122 RX5 yX5_isleAt wsX5_isleAt) := goodIn_app (goodIn_of _ (by decide +kernel)) ggX5_cell_X5_isleAt
theorem dX5_cell_0 : decode cX5_cell 0 = .ok (.aload_n 0, 1) := by decide +kernel
theorem dX5_cell_1 : decode cX5_cell 1 = .ok (.iconst 0, 1) := by decide +kernel
theorem dX5_cell_2 : decode cX5_cell 2 = .ok (.putfield 47, 3) := by decide +kernel
theorem dX5_cell_5 : decode cX5_cell 5 = .ok (.iload_n 1, 1) := by decide +kernel
theorem dX5_cell_6 : decode cX5_cell 6 = .ok (.iconst 0, 1) := by decide +kernel
theorem dX5_cell_7 : decode cX5_cell 7 = .ok (.aload_n 0, 1) := by decide +kernel
theorem dX5_cell_8 : decode cX5_cell 8 = .ok (.getfield 13, 3) := by decide +kernel
theorem dX5_cell_11 : decode cX5_cell 11 = .ok (.iconst 0, 1) := by decide +kernel
theorem dX5_cell_12 : decode cX5_cell 12 = .ok (.iaload, 1) := by decide +kernel
theorem dX5_cell_13 : decode cX5_cell 13 = .ok (.aload_n 0, 1) := by decide +kernel
theorem dX5_cell_14 : decode cX5_cell 14 = .ok (.getfield 13, 3) := by decide +kernel
theorem dX5_cell_17 : decode cX5_cell 17 = .ok (.iconst 1, 1) := by decide +kernel
theorem dX5_cell_18 : decode cX5_cell 18 = .ok (.iaload, 1) := by decide +kernel
theorem dX5_cell_19 : decode cX5_cell 19 = .ok (.imul, 1) := by decide +kernel
theorem dX5_cell_20 : decode cX5_cell 20 = .ok (.iconst 1, 1) := by decide +kernel
theorem dX5_cell_21 : decode cX5_cell 21 = .ok (.isub, 1) := by decide +kernel
theorem dX5_cell_22 : decode cX5_cell 22 = .ok (.invokestatic 51, 3) := by decide +kernel
theorem dX5_cell_25 : decode cX5_cell 25 = .ok (.ifCond .ne 5, 3) := by decide +kernel
theorem dX5_cell_28 : decode cX5_cell 28 = .ok (.iconst (-1), 1) := by decide +kernel
theorem dX5_cell_29 : decode cX5_cell 29 = .ok (.ireturn, 1) := by decide +kernel
theorem dX5_cell_30 : decode cX5_cell 30 = .ok (.aload_n 0, 1) := by decide +kernel
theorem dX5_cell_31 : decode cX5_cell 31 = .ok (.iload_n 1, 1) := by decide +kernel
theorem dX5_cell_32 : decode cX5_cell 32 = .ok (.invokevirtual 119, 3) := by decide +kernel
theorem dX5_cell_35 : decode cX5_cell 35 = .ok (.ifCond .eq 8, 3) := by decide +kernel
theorem dX5_cell_38 : decode cX5_cell 38 = .ok (.bipush (-5), 2) := by decide +kernel
theorem dX5_cell_40 : decode cX5_cell 40 = .ok (.goto 8, 3) := by decide +kernel
theorem dX5_cell_43 : decode cX5_cell 43 = .ok (.aload_n 0, 1) := by decide +kernel
theorem dX5_cell_44 : decode cX5_cell 44 = .ok (.iload_n 1, 1) := by decide +kernel
theorem dX5_cell_45 : decode cX5_cell 45 = .ok (.invokevirtual 122, 3) := by decide +kernel
theorem dX5_cell_48 : decode cX5_cell 48 = .ok (.ireturn, 1) := by decide +kernel
set_option maxRecDepth 20000 in
theorem kX5_cell_13 : Cond.fieldLink RX5 13 "WindPostModel" "many" "[I" ∈ wsX5_cell := by decide +kernel
set_option maxRecDepth 20000 in
theorem kX5_cell_47 : Cond.fieldLink RX5 47 "WindPostModel" "thrown" "I" ∈ wsX5_cell := by decide +kernel
set_option maxRecDepth 20000 in
theorem uX5_cell_X5 : ∀ w ∈ wsX50, w ∈ wsX5_cell := by decide +kernel
set_option maxHeartbeats 8000000 in
set_option maxRecDepth 100000 in
theorem mX5_cell (l : Launch) (D : va_G) (ki : Nat → ClassId) (ad : Nat → Nat) (cs : List Nat) (hcs : kR cs) (N : Nat) (a1 : Int32) (G : zMem) (tr : Int64) : gMetI l D ki ad cs yX5_cell wsX5_cell { frames := 1, cells := 0, slots := 0, locals := 23 } [.ref (ad 0), .int a1] (mE ki ad) G tr (fX5_cell N a1 G tr) := by
  refine gMetI_of (cc := cX5_cell) (maxL := 2) (ret := (some .int)) (own := RX5) (by decide +kernel) rfl rfl (Nat.le_of_ble_eq_true rfl) ?_
  intro r9 G9 tr9 h p e s m below meth c S hr hlk K X ls hl
  have hl : lv_has ls 2 [(0, .ref (ad 0)), (1, .int a1)] := hl
  unfold fX5_cell at h
  obtain ⟨H, hH⟩ : ∃ H, H = s.heap := ⟨_, rfl⟩
  obtain ⟨locs, hlo⟩ : ∃ locs : List Loc, locs = [] := ⟨_, rfl⟩
  have X : gS D cs ad ((mE ki ad) G tr) (gA cs ad s.heap.size) s H locs := by rw [hH, hlo]; exact X
  suffices z : W p l e (headSpec wsX5_cell { frames := 1, cells := 0, slots := 0, locals := 23 }).room s m ([.ref (ad 0), .int a1] : List Value).toArray below meth c H locs 0 0 (zQI below ([.ref (ad 0), .int a1] : List Value).toArray s D cs ad ((mE ki ad) G9 tr9) r9) (F0 m 0 ls []) by rw [hH, hlo] at z; exact z
  clear hH hlo
  refine lv_aload_n S.1 S.2.1 dX5_cell_0 rfl (lv_at hl 0 rfl) ?_
  refine lv_iconst (v := (0 : Int32)) S.1 S.2.1 dX5_cell_1 (by decide) ?_
  refine zr_put (xv := (0 : Int32)) (v := .int (0 : Int32)) (fsf := (fsR ad tr)) (ty := .int) S K X (hcs 0 (by decide)) mE_loc (fun _ => mE_R) rfl uX5_cell_X5 tyX5 tyX5_ok nmX5 0 (by decide) kX5_cell_47 rfl (by decide +kernel) rfl rfl (by simp) rfl dX5_cell_2 (fun H locs X => ?_)
  refine lv_iload_n S.1 S.2.1 dX5_cell_5 rfl (lv_at hl 1 rfl) ?_
  refine lv_iconst (v := (0 : Int32)) S.1 S.2.1 dX5_cell_6 (by decide) ?_
  refine lv_aload_n S.1 S.2.1 dX5_cell_7 rfl (lv_at hl 0 rfl) ?_
  refine zr_get (v := .ref (ad 2)) S K X (hcs 0 (by decide)) mE_R rfl uX5_cell_X5 9 (by decide) kX5_cell_13 rfl rfl dX5_cell_8 ?_
  refine lv_iconst (v := (0 : Int32)) S.1 S.2.1 dX5_cell_11 (by decide) ?_
  obtain ⟨hi_1, h⟩ := zin_some h
  refine zr_iald S K X (hcs 2 (by decide)) mE_2 hi_1 dX5_cell_12 ?_
  refine lv_aload_n S.1 S.2.1 dX5_cell_13 rfl (lv_at hl 0 rfl) ?_
  refine zr_get (v := .ref (ad 2)) S K X (hcs 0 (by decide)) mE_R rfl uX5_cell_X5 9 (by decide) kX5_cell_13 rfl rfl dX5_cell_14 ?_
  refine lv_iconst (v := (1 : Int32)) S.1 S.2.1 dX5_cell_17 (by decide) ?_
  obtain ⟨hi_2, h⟩ := zin_some h
  refine zr_iald S K X (hcs 2 (by decide)) mE_2 hi_2 dX5_cell_18 ?_
  refine lv_imul S.1 S.2.1 dX5_cell_19 ?_
  refine lv_iconst (v := (1 : Int32)) S.1 S.2.1 dX5_cell_20 (by decide) ?_
  refine lv_isub S.1 S.2.1 dX5_cell_21 ?_
  obtain ⟨r_4, hf_3, h⟩ := zbp_some h
  refine zr_calli (Eg := (mE ki ad)) (G' := (up2 G 0 0 (0 : Int32))) (tr' := tr) K X (va_runS (As := [.int a1, .int (0 : Int32), .int ((((up2 G 0 0 (0 : Int32)) 2 (Int32.toNatClampNeg (0 : Int32))) * ((up2 G 0 0 (0 : Int32)) 2 (Int32.toNatClampNeg (1 : Int32)))) - (1 : Int32))]) (rest := []) S (mX5_in l D ki ad cs N a1 (0 : Int32) ((((up2 G 0 0 (0 : Int32)) 2 (Int32.toNatClampNeg (0 : Int32))) * ((up2 G 0 0 (0 : Int32)) 2 (Int32.toNatClampNeg (1 : Int32)))) - (1 : Int32)) (mE ki ad) (up2 G 0 0 (0 : Int32)) tr H.size _ _ _ (zpu_of hf_3)) (va_cwS 3 S.2.2.2.2 gX5_cell_X5_in rfl rfl rfl (by decide +kernel) ⟨Nat.le_of_ble_eq_true rfl, Nat.le_of_ble_eq_true rfl⟩) (zr_pre K X) rfl rfl hl.1 rfl (lv_room (Nat.le_of_ble_eq_true rfl)) dX5_cell_22 ⟨Nat.zero_le _, Nat.zero_le _⟩) (fun H locs X => ?_)
  refine lv_if_ne (tgt := 30) S.1 S.2.1 dX5_cell_25 (by decide) (fun hc_5 => ?_) (fun hc_5 => ?_)
  · have h := zif_neg hc_5 h
    refine lv_aload_n S.1 S.2.1 dX5_cell_30 rfl (lv_at hl 0 rfl) ?_
    refine lv_iload_n S.1 S.2.1 dX5_cell_31 rfl (lv_at hl 1 rfl) ?_
    obtain ⟨r_7, G_8, tr_9, hf_6, h⟩ := zbd_some h
    refine zr_calli (Eg := (mE ki ad)) K X (va_runV (As := [.int a1]) (rest := []) S (mX5_isHill l D ki ad cs hcs N a1 (up2 G 0 0 (0 : Int32)) tr H.size _ _ _ hf_6) (cwV 1 S.2.2.2.2 gX5_cell_X5_isHill rfl rfl rfl (by decide +kernel) ⟨Nat.le_of_ble_eq_true rfl, Nat.le_of_ble_eq_true rfl⟩) (zr_preV (c0 := 0) K X (hcs 0 (by decide)) mE_R rfl) rfl rfl hl.1 rfl (lv_room (Nat.le_of_ble_eq_true rfl)) dX5_cell_32 ⟨Nat.zero_le _, Nat.zero_le _⟩) (fun H locs X => ?_)
    refine lv_if_eq (tgt := 43) S.1 S.2.1 dX5_cell_35 (by decide) (fun hc_10 => ?_) (fun hc_10 => ?_)
    · have h := zif_pos hc_10 h
      refine lv_aload_n S.1 S.2.1 dX5_cell_43 rfl (lv_at hl 0 rfl) ?_
      refine lv_iload_n S.1 S.2.1 dX5_cell_44 rfl (lv_at hl 1 rfl) ?_
      obtain ⟨r_12, G_13, tr_14, hf_11, h⟩ := zbd_some h
      refine zr_calli (Eg := (mE ki ad)) K X (va_runV (As := [.int a1]) (rest := []) S (mX5_isleAt l D ki ad cs hcs N a1 G_8 tr_9 H.size _ _ _ hf_11) (cwV 1 S.2.2.2.2 gX5_cell_X5_isleAt rfl rfl rfl (by decide +kernel) ⟨Nat.le_of_ble_eq_true rfl, Nat.le_of_ble_eq_true rfl⟩) (zr_preV (c0 := 0) K X (hcs 0 (by decide)) mE_R rfl) rfl rfl hl.1 rfl (lv_room (Nat.le_of_ble_eq_true rfl)) dX5_cell_45 ⟨Nat.zero_le _, Nat.zero_le _⟩) (fun H locs X => ?_)
      exact zr_iret S hr hlk X h dX5_cell_48
    · have h := zif_neg hc_10 h
      refine lv_bipush (v := (-5 : Int32)) S.1 S.2.1 dX5_cell_38 (by decide) ?_
      refine lv_goto (tgt := 48) S.1 S.2.1 dX5_cell_40 (by decide) ?_
      exact zr_iret S hr hlk X h dX5_cell_48
  · have h := zif_pos hc_5 h
    refine lv_iconst (v := (-1 : Int32)) S.1 S.2.1 dX5_cell_28 (by decide) ?_
    exact zr_iret S hr hlk X h dX5_cell_29
theorem dX5_windOf_0 : decode cX5_windOf 0 = .ok (.aload_n 0, 1) := by decide +kernel
theorem dX5_windOf_1 : decode cX5_windOf 1 = .ok (.getfield 13, 3) := by decide +kernel
theorem dX5_windOf_4 : decode cX5_windOf 4 = .ok (.iconst 4, 1) := by decide +kernel
theorem dX5_windOf_5 : decode cX5_windOf 5 = .ok (.iaload, 1) := by decide +kernel
theorem dX5_windOf_6 : decode cX5_windOf 6 = .ok (.ifCond .ne 5, 3) := by decide +kernel
theorem dX5_windOf_9 : decode cX5_windOf 9 = .ok (.iconst 4, 1) := by decide +kernel
theorem dX5_windOf_10 : decode cX5_windOf 10 = .ok (.ireturn, 1) := by decide +kernel
theorem dX5_windOf_11 : decode cX5_windOf 11 = .ok (.iload_n 1, 1) := by decide +kernel
theorem dX5_windOf_12 : decode cX5_windOf 12 = .ok (.aload_n 0, 1) := by decide +kernel
theorem dX5_windOf_13 : decode cX5_windOf 13 = .ok (.getfield 13, 3) := by decide +kernel
theorem dX5_windOf_16 : decode cX5_windOf 16 = .ok (.iconst 4, 1) := by decide +kernel
theorem dX5_windOf_17 : decode cX5_windOf 17 = .ok (.iaload, 1) := by decide +kernel
theorem dX5_windOf_18 : decode cX5_windOf 18 = .ok (.irem, 1) := by decide +kernel
theorem dX5_windOf_19 : decode cX5_windOf 19 = .ok (.istore_n 2, 1) := by decide +kernel
theorem dX5_windOf_20 : decode cX5_windOf 20 = .ok (.aload_n 0, 1) := by decide +kernel
theorem dX5_windOf_21 : decode cX5_windOf 21 = .ok (.getfield 25, 3) := by decide +kernel
theorem dX5_windOf_24 : decode cX5_windOf 24 = .ok (.iconst 3, 1) := by decide +kernel
theorem dX5_windOf_25 : decode cX5_windOf 25 = .ok (.iload_n 2, 1) := by decide +kernel
theorem dX5_windOf_26 : decode cX5_windOf 26 = .ok (.ifCond .ge 14, 3) := by decide +kernel
theorem dX5_windOf_29 : decode cX5_windOf 29 = .ok (.iload_n 2, 1) := by decide +kernel
theorem dX5_windOf_30 : decode cX5_windOf 30 = .ok (.aload_n 0, 1) := by decide +kernel
theorem dX5_windOf_31 : decode cX5_windOf 31 = .ok (.getfield 13, 3) := by decide +kernel
theorem dX5_windOf_34 : decode cX5_windOf 34 = .ok (.iconst 4, 1) := by decide +kernel
theorem dX5_windOf_35 : decode cX5_windOf 35 = .ok (.iaload, 1) := by decide +kernel
theorem dX5_windOf_36 : decode cX5_windOf 36 = .ok (.iadd, 1) := by decide +kernel
theorem dX5_windOf_37 : decode cX5_windOf 37 = .ok (.goto 4, 3) := by decide +kernel
theorem dX5_windOf_40 : decode cX5_windOf 40 = .ok (.iload_n 2, 1) := by decide +kernel
theorem dX5_windOf_41 : decode cX5_windOf 41 = .ok (.iadd, 1) := by decide +kernel
theorem dX5_windOf_42 : decode cX5_windOf 42 = .ok (.iaload, 1) := by decide +kernel
theorem dX5_windOf_43 : decode cX5_windOf 43 = .ok (.ireturn, 1) := by decide +kernel
set_option maxRecDepth 20000 in
theorem kX5_windOf_13 : Cond.fieldLink RX5 13 "WindPostModel" "many" "[I" ∈ wsX5_windOf := by decide +kernel
set_option maxRecDepth 20000 in
theorem kX5_windOf_25 : Cond.fieldLink RX5 25 "WindPostModel" "s" "[I" ∈ wsX5_windOf := by decide +kernel
set_option maxRecDepth 20000 in
theorem uX5_windOf_X5 : ∀ w ∈ wsX50, w ∈ wsX5_windOf := by decide +kernel
set_option maxHeartbeats 8000000 in
set_option maxRecDepth 100000 in
theorem mX5_windOf (l : Launch) (D : va_G) (ki : Nat → ClassId) (ad : Nat → Nat) (cs : List Nat) (hcs : kR cs) (N : Nat) (a1 : Int32) (G : zMem) (tr : Int64) : gMetI l D ki ad cs yX5_windOf wsX5_windOf { frames := 0, cells := 0, slots := 0, locals := 0 } [.ref (ad 0), .int a1] (mE ki ad) G tr (fX5_windOf N a1 G tr) := by
  refine gMetI_of (cc := cX5_windOf) (maxL := 3) (ret := (some .int)) (own := RX5) (by decide +kernel) rfl rfl (Nat.le_of_ble_eq_true rfl) ?_
  intro r9 G9 tr9 h p e s m below meth c S hr hlk K X ls hl
  have hl : lv_has ls 3 [(0, .ref (ad 0)), (1, .int a1)] := hl
  unfold fX5_windOf at h
  obtain ⟨H, hH⟩ : ∃ H, H = s.heap := ⟨_, rfl⟩
  obtain ⟨locs, hlo⟩ : ∃ locs : List Loc, locs = [] := ⟨_, rfl⟩
  have X : gS D cs ad ((mE ki ad) G tr) (gA cs ad s.heap.size) s H locs := by rw [hH, hlo]; exact X
  suffices z : W p l e (headSpec wsX5_windOf { frames := 0, cells := 0, slots := 0, locals := 0 }).room s m ([.ref (ad 0), .int a1] : List Value).toArray below meth c H locs 0 0 (zQI below ([.ref (ad 0), .int a1] : List Value).toArray s D cs ad ((mE ki ad) G9 tr9) r9) (F0 m 0 ls []) by rw [hH, hlo] at z; exact z
  clear hH hlo
  refine lv_aload_n S.1 S.2.1 dX5_windOf_0 rfl (lv_at hl 0 rfl) ?_
  refine zr_get (v := .ref (ad 2)) S K X (hcs 0 (by decide)) mE_R rfl uX5_windOf_X5 9 (by decide) kX5_windOf_13 rfl rfl dX5_windOf_1 ?_
  refine lv_iconst (v := (4 : Int32)) S.1 S.2.1 dX5_windOf_4 (by decide) ?_
  obtain ⟨hi_1, h⟩ := zin_some h
  refine zr_iald S K X (hcs 2 (by decide)) mE_2 hi_1 dX5_windOf_5 ?_
  refine lv_if_ne (tgt := 11) S.1 S.2.1 dX5_windOf_6 (by decide) (fun hc_2 => ?_) (fun hc_2 => ?_)
  · have h := zif_neg hc_2 h
    refine lv_iload_n S.1 S.2.1 dX5_windOf_11 rfl (lv_at hl 1 rfl) ?_
    refine lv_aload_n S.1 S.2.1 dX5_windOf_12 rfl (lv_at hl 0 rfl) ?_
    refine zr_get (v := .ref (ad 2)) S K X (hcs 0 (by decide)) mE_R rfl uX5_windOf_X5 9 (by decide) kX5_windOf_13 rfl rfl dX5_windOf_13 ?_
    refine lv_iconst (v := (4 : Int32)) S.1 S.2.1 dX5_windOf_16 (by decide) ?_
    obtain ⟨hi_3, h⟩ := zin_some h
    refine zr_iald S K X (hcs 2 (by decide)) mE_2 hi_3 dX5_windOf_17 ?_
    obtain ⟨hz_4, h⟩ := zdv_some h
    refine lv_irem S.1 S.2.1 dX5_windOf_18 hz_4 ?_
    refine lv_istore_n (lv' := [(2, .int (a1 - a1 / (G 2 (Int32.toNatClampNeg (4 : Int32))) * (G 2 (Int32.toNatClampNeg (4 : Int32))))), (0, .ref (ad 0)), (1, .int a1)]) S.1 S.2.1 dX5_windOf_19 rfl hl (by decide) rfl (fun ls hl => ?_)
    refine lv_aload_n S.1 S.2.1 dX5_windOf_20 rfl (lv_at hl 1 rfl) ?_
    refine zr_get (v := .ref (ad 6)) S K X (hcs 0 (by decide)) mE_R rfl uX5_windOf_X5 14 (by decide) kX5_windOf_25 rfl rfl dX5_windOf_21 ?_
    refine lv_iconst (v := (3 : Int32)) S.1 S.2.1 dX5_windOf_24 (by decide) ?_
    refine lv_iload_n S.1 S.2.1 dX5_windOf_25 rfl (lv_at hl 0 rfl) ?_
    refine lv_if_ge (tgt := 40) S.1 S.2.1 dX5_windOf_26 (by decide) (fun hc_5 => ?_) (fun hc_5 => ?_)
    · have h := zif_pos hc_5 h
      refine lv_iload_n S.1 S.2.1 dX5_windOf_40 rfl (lv_at hl 0 rfl) ?_
      refine lv_iadd S.1 S.2.1 dX5_windOf_41 ?_
      obtain ⟨hi_6, h⟩ := zin_some h
      refine zr_iald S K X (hcs 6 (by decide)) mE_6 hi_6 dX5_windOf_42 ?_
      exact zr_iret S hr hlk X h dX5_windOf_43
    · have h := zif_neg hc_5 h
      refine lv_iload_n S.1 S.2.1 dX5_windOf_29 rfl (lv_at hl 0 rfl) ?_
      refine lv_aload_n S.1 S.2.1 dX5_windOf_30 rfl (lv_at hl 1 rfl) ?_
      refine zr_get (v := .ref (ad 2)) S K X (hcs 0 (by decide)) mE_R rfl uX5_windOf_X5 9 (by decide) kX5_windOf_13 rfl rfl dX5_windOf_31 ?_
      refine lv_iconst (v := (4 : Int32)) S.1 S.2.1 dX5_windOf_34 (by decide) ?_
      obtain ⟨hi_7, h⟩ := zin_some h
      refine zr_iald S K X (hcs 2 (by decide)) mE_2 hi_7 dX5_windOf_35 ?_
      refine lv_iadd S.1 S.2.1 dX5_windOf_36 ?_
      refine lv_goto (tgt := 41) S.1 S.2.1 dX5_windOf_37 (by decide) ?_
      refine lv_iadd S.1 S.2.1 dX5_windOf_41 ?_
      obtain ⟨hi_8, h⟩ := zin_some h
      refine zr_iald S K X (hcs 6 (by decide)) mE_6 hi_8 dX5_windOf_42 ?_
      exact zr_iret S hr hlk X h dX5_windOf_43
  · have h := zif_pos hc_2 h
    refine lv_iconst (v := (4 : Int32)) S.1 S.2.1 dX5_windOf_9 (by decide) ?_
    exact zr_iret S hr hlk X h dX5_windOf_10
set_option maxRecDepth 20000 in
theorem ggX5_wind_X5_in : GoodIn wsX5_wind wsX5_in := goodIn_r _ [6] (by decide +kernel) (by decide +kernel)
set_option maxRecDepth 20000 in
theorem gX5_wind_X5_in : GoodIn wsX5_wind (va_wsS RX5 51 yX5_in wsX5_in) := goodIn_app (goodIn_of _ (by decide +kernel)) ggX5_wind_X5_in
set_option maxRecDepth 20000 in
theorem ggX5_wind_X5_windOf : GoodIn wsX5_wind wsX5_windOf := goodIn_r _ [10, 11, 2, 12, 13, 14, 15, 16, 17, 18, 19, 20, 21, 22, 23, 24, 25, 26, 27, 28, 29, 30, 31, 32, 33] (by decide +kernel) (by decide +kernel)
set_option maxRecDepth 20000 in
theorem gX5_wind_X5_windOf : GoodIn wsX5_wind (wsV RX5 125 RX5 yX5_windOf wsX5_windOf) := goodIn_app (goodIn_of _ (by decide +kernel)) ggX5_wind_X5_windOf
theorem dX5_wind_0 : decode cX5_wind 0 = .ok (.aload_n 0, 1) := by decide +kernel
theorem dX5_wind_1 : decode cX5_wind 1 = .ok (.iconst 0, 1) := by decide +kernel
theorem dX5_wind_2 : decode cX5_wind 2 = .ok (.putfield 47, 3) := by decide +kernel
theorem dX5_wind_5 : decode cX5_wind 5 = .ok (.iload_n 1, 1) := by decide +kernel
theorem dX5_wind_6 : decode cX5_wind 6 = .ok (.iconst 0, 1) := by decide +kernel
theorem dX5_wind_7 : decode cX5_wind 7 = .ok (.sipush 400, 3) := by decide +kernel
theorem dX5_wind_10 : decode cX5_wind 10 = .ok (.invokestatic 51, 3) := by decide +kernel
theorem dX5_wind_13 : decode cX5_wind 13 = .ok (.ifCond .eq 18, 3) := by decide +kernel
theorem dX5_wind_16 : decode cX5_wind 16 = .ok (.aload_n 0, 1) := by decide +kernel
theorem dX5_wind_17 : decode cX5_wind 17 = .ok (.aload_n 0, 1) := by decide +kernel
theorem dX5_wind_18 : decode cX5_wind 18 = .ok (.getfield 25, 3) := by decide +kernel
theorem dX5_wind_21 : decode cX5_wind 21 = .ok (.iconst 0, 1) := by decide +kernel
theorem dX5_wind_22 : decode cX5_wind 22 = .ok (.iaload, 1) := by decide +kernel
theorem dX5_wind_23 : decode cX5_wind 23 = .ok (.iload_n 1, 1) := by decide +kernel
theorem dX5_wind_24 : decode cX5_wind 24 = .ok (.iadd, 1) := by decide +kernel
theorem dX5_wind_25 : decode cX5_wind 25 = .ok (.invokevirtual 125, 3) := by decide +kernel
theorem dX5_wind_28 : decode cX5_wind 28 = .ok (.goto 4, 3) := by decide +kernel
theorem dX5_wind_31 : decode cX5_wind 31 = .ok (.iconst (-1), 1) := by decide +kernel
theorem dX5_wind_32 : decode cX5_wind 32 = .ok (.ireturn, 1) := by decide +kernel
set_option maxRecDepth 20000 in
theorem kX5_wind_25 : Cond.fieldLink RX5 25 "WindPostModel" "s" "[I" ∈ wsX5_wind := by decide +kernel
set_option maxRecDepth 20000 in
theorem kX5_wind_47 : Cond.fieldLink RX5 47 "WindPostModel" "thrown" "I" ∈ wsX5_wind := by decide +kernel
set_option maxRecDepth 20000 in
theorem uX5_wind_X5 : ∀ w ∈ wsX50, w ∈ wsX5_wind := by decide +kernel
set_option maxHeartbeats 8000000 in
set_option maxRecDepth 100000 in
theorem mX5_wind (l : Launch) (D : va_G) (ki : Nat → ClassId) (ad : Nat → Nat) (cs : List Nat) (hcs : kR cs) (N : Nat) (a1 : Int32) (G : zMem) (tr : Int64) : gMetI l D ki ad cs yX5_wind wsX5_wind { frames := 1, cells := 0, slots := 0, locals := 22 } [.ref (ad 0), .int a1] (mE ki ad) G tr (fX5_wind N a1 G tr) := by
  refine gMetI_of (cc := cX5_wind) (maxL := 2) (ret := (some .int)) (own := RX5) (by decide +kernel) rfl rfl (Nat.le_of_ble_eq_true rfl) ?_
  intro r9 G9 tr9 h p e s m below meth c S hr hlk K X ls hl
  have hl : lv_has ls 2 [(0, .ref (ad 0)), (1, .int a1)] := hl
  unfold fX5_wind at h
  obtain ⟨H, hH⟩ : ∃ H, H = s.heap := ⟨_, rfl⟩
  obtain ⟨locs, hlo⟩ : ∃ locs : List Loc, locs = [] := ⟨_, rfl⟩
  have X : gS D cs ad ((mE ki ad) G tr) (gA cs ad s.heap.size) s H locs := by rw [hH, hlo]; exact X
  suffices z : W p l e (headSpec wsX5_wind { frames := 1, cells := 0, slots := 0, locals := 22 }).room s m ([.ref (ad 0), .int a1] : List Value).toArray below meth c H locs 0 0 (zQI below ([.ref (ad 0), .int a1] : List Value).toArray s D cs ad ((mE ki ad) G9 tr9) r9) (F0 m 0 ls []) by rw [hH, hlo] at z; exact z
  clear hH hlo
  refine lv_aload_n S.1 S.2.1 dX5_wind_0 rfl (lv_at hl 0 rfl) ?_
  refine lv_iconst (v := (0 : Int32)) S.1 S.2.1 dX5_wind_1 (by decide) ?_
  refine zr_put (xv := (0 : Int32)) (v := .int (0 : Int32)) (fsf := (fsR ad tr)) (ty := .int) S K X (hcs 0 (by decide)) mE_loc (fun _ => mE_R) rfl uX5_wind_X5 tyX5 tyX5_ok nmX5 0 (by decide) kX5_wind_47 rfl (by decide +kernel) rfl rfl (by simp) rfl dX5_wind_2 (fun H locs X => ?_)
  refine lv_iload_n S.1 S.2.1 dX5_wind_5 rfl (lv_at hl 1 rfl) ?_
  refine lv_iconst (v := (0 : Int32)) S.1 S.2.1 dX5_wind_6 (by decide) ?_
  refine lv_sipush (v := (400 : Int32)) S.1 S.2.1 dX5_wind_7 (by decide) ?_
  obtain ⟨r_2, hf_1, h⟩ := zbp_some h
  refine zr_calli (Eg := (mE ki ad)) (G' := (up2 G 0 0 (0 : Int32))) (tr' := tr) K X (va_runS (As := [.int a1, .int (0 : Int32), .int (400 : Int32)]) (rest := []) S (mX5_in l D ki ad cs N a1 (0 : Int32) (400 : Int32) (mE ki ad) (up2 G 0 0 (0 : Int32)) tr H.size _ _ _ (zpu_of hf_1)) (va_cwS 3 S.2.2.2.2 gX5_wind_X5_in rfl rfl rfl (by decide +kernel) ⟨Nat.le_of_ble_eq_true rfl, Nat.le_of_ble_eq_true rfl⟩) (zr_pre K X) rfl rfl hl.1 rfl (lv_room (Nat.le_of_ble_eq_true rfl)) dX5_wind_10 ⟨Nat.zero_le _, Nat.zero_le _⟩) (fun H locs X => ?_)
  refine lv_if_eq (tgt := 31) S.1 S.2.1 dX5_wind_13 (by decide) (fun hc_3 => ?_) (fun hc_3 => ?_)
  · have h := zif_pos hc_3 h
    refine lv_iconst (v := (-1 : Int32)) S.1 S.2.1 dX5_wind_31 (by decide) ?_
    exact zr_iret S hr hlk X h dX5_wind_32
  · have h := zif_neg hc_3 h
    refine lv_aload_n S.1 S.2.1 dX5_wind_16 rfl (lv_at hl 0 rfl) ?_
    refine lv_aload_n S.1 S.2.1 dX5_wind_17 rfl (lv_at hl 0 rfl) ?_
    refine zr_get (v := .ref (ad 6)) S K X (hcs 0 (by decide)) mE_R rfl uX5_wind_X5 14 (by decide) kX5_wind_25 rfl rfl dX5_wind_18 ?_
    refine lv_iconst (v := (0 : Int32)) S.1 S.2.1 dX5_wind_21 (by decide) ?_
    obtain ⟨hi_4, h⟩ := zin_some h
    refine zr_iald S K X (hcs 6 (by decide)) mE_6 hi_4 dX5_wind_22 ?_
    refine lv_iload_n S.1 S.2.1 dX5_wind_23 rfl (lv_at hl 1 rfl) ?_
    refine lv_iadd S.1 S.2.1 dX5_wind_24 ?_
    obtain ⟨r_6, G_7, tr_8, hf_5, h⟩ := zbd_some h
    refine zr_calli (Eg := (mE ki ad)) K X (va_runV (As := [.int (((up2 G 0 0 (0 : Int32)) 6 (Int32.toNatClampNeg (0 : Int32))) + a1)]) (rest := []) S (mX5_windOf l D ki ad cs hcs N (((up2 G 0 0 (0 : Int32)) 6 (Int32.toNatClampNeg (0 : Int32))) + a1) (up2 G 0 0 (0 : Int32)) tr H.size _ _ _ hf_5) (cwV 1 S.2.2.2.2 gX5_wind_X5_windOf rfl rfl rfl (by decide +kernel) ⟨Nat.le_of_ble_eq_true rfl, Nat.le_of_ble_eq_true rfl⟩) (zr_preV (c0 := 0) K X (hcs 0 (by decide)) mE_R rfl) rfl rfl hl.1 rfl (lv_room (Nat.le_of_ble_eq_true rfl)) dX5_wind_25 ⟨Nat.zero_le _, Nat.zero_le _⟩) (fun H locs X => ?_)
    refine lv_goto (tgt := 32) S.1 S.2.1 dX5_wind_28 (by decide) ?_
    exact zr_iret S hr hlk X h dX5_wind_32
set_option maxRecDepth 20000 in
theorem ggX5_letter_X5_isLetter : GoodIn wsX5_letter wsX5_isLetter := goodIn_r _ [7, 2, 8, 9, 6, 10, 11, 12, 13, 14, 15, 16, 17, 18, 19, 20, 21, 22, 23, 24, 25, 26, 27, 28, 29, 30, 31, 32] (by decide +kernel) (by decide +kernel)
set_option maxRecDepth 20000 in
theorem gX5_letter_X5_isLetter : GoodIn wsX5_letter (wsV RX5 128 RX5 yX5_isLetter wsX5_isLetter) := goodIn_app (goodIn_of _ (by decide +kernel)) ggX5_letter_X5_isLetter
set_option maxRecDepth 20000 in
theorem ggX5_letter_X5_in : GoodIn wsX5_letter wsX5_in := goodIn_r _ [10] (by decide +kernel) (by decide +kernel)
set_option maxRecDepth 20000 in
theorem gX5_letter_X5_in : GoodIn wsX5_letter (va_wsS RX5 51 yX5_in wsX5_in) := goodIn_app (goodIn_of _ (by decide +kernel)) ggX5_letter_X5_in
theorem dX5_letter_0 : decode cX5_letter 0 = .ok (.aload_n 0, 1) := by decide +kernel
theorem dX5_letter_1 : decode cX5_letter 1 = .ok (.iconst 0, 1) := by decide +kernel
theorem dX5_letter_2 : decode cX5_letter 2 = .ok (.putfield 47, 3) := by decide +kernel
theorem dX5_letter_5 : decode cX5_letter 5 = .ok (.aload_n 0, 1) := by decide +kernel
theorem dX5_letter_6 : decode cX5_letter 6 = .ok (.iload_n 1, 1) := by decide +kernel
theorem dX5_letter_7 : decode cX5_letter 7 = .ok (.invokevirtual 128, 3) := by decide +kernel
theorem dX5_letter_10 : decode cX5_letter 10 = .ok (.ifCond .eq 29, 3) := by decide +kernel
theorem dX5_letter_13 : decode cX5_letter 13 = .ok (.iload_n 2, 1) := by decide +kernel
theorem dX5_letter_14 : decode cX5_letter 14 = .ok (.iconst 0, 1) := by decide +kernel
theorem dX5_letter_15 : decode cX5_letter 15 = .ok (.iconst 5, 1) := by decide +kernel
theorem dX5_letter_16 : decode cX5_letter 16 = .ok (.invokestatic 51, 3) := by decide +kernel
theorem dX5_letter_19 : decode cX5_letter 19 = .ok (.ifCond .eq 20, 3) := by decide +kernel
theorem dX5_letter_22 : decode cX5_letter 22 = .ok (.aload_n 0, 1) := by decide +kernel
theorem dX5_letter_23 : decode cX5_letter 23 = .ok (.getfield 25, 3) := by decide +kernel
theorem dX5_letter_26 : decode cX5_letter 26 = .ok (.bipush 15, 2) := by decide +kernel
theorem dX5_letter_28 : decode cX5_letter 28 = .ok (.bipush 6, 2) := by decide +kernel
theorem dX5_letter_30 : decode cX5_letter 30 = .ok (.iload_n 1, 1) := by decide +kernel
theorem dX5_letter_31 : decode cX5_letter 31 = .ok (.imul, 1) := by decide +kernel
theorem dX5_letter_32 : decode cX5_letter 32 = .ok (.iadd, 1) := by decide +kernel
theorem dX5_letter_33 : decode cX5_letter 33 = .ok (.iload_n 2, 1) := by decide +kernel
theorem dX5_letter_34 : decode cX5_letter 34 = .ok (.iadd, 1) := by decide +kernel
theorem dX5_letter_35 : decode cX5_letter 35 = .ok (.iaload, 1) := by decide +kernel
theorem dX5_letter_36 : decode cX5_letter 36 = .ok (.goto 4, 3) := by decide +kernel
theorem dX5_letter_39 : decode cX5_letter 39 = .ok (.iconst (-1), 1) := by decide +kernel
theorem dX5_letter_40 : decode cX5_letter 40 = .ok (.ireturn, 1) := by decide +kernel
set_option maxRecDepth 20000 in
theorem kX5_letter_25 : Cond.fieldLink RX5 25 "WindPostModel" "s" "[I" ∈ wsX5_letter := by decide +kernel
set_option maxRecDepth 20000 in
theorem kX5_letter_47 : Cond.fieldLink RX5 47 "WindPostModel" "thrown" "I" ∈ wsX5_letter := by decide +kernel
set_option maxRecDepth 20000 in
theorem uX5_letter_X5 : ∀ w ∈ wsX50, w ∈ wsX5_letter := by decide +kernel
set_option maxHeartbeats 8000000 in
set_option maxRecDepth 100000 in
theorem mX5_letter (l : Launch) (D : va_G) (ki : Nat → ClassId) (ad : Nat → Nat) (cs : List Nat) (hcs : kR cs) (N : Nat) (a1 : Int32) (a2 : Int32) (G : zMem) (tr : Int64) : gMetI l D ki ad cs yX5_letter wsX5_letter { frames := 2, cells := 0, slots := 0, locals := 43 } [.ref (ad 0), .int a1, .int a2] (mE ki ad) G tr (fX5_letter N a1 a2 G tr) := by
  refine gMetI_of (cc := cX5_letter) (maxL := 3) (ret := (some .int)) (own := RX5) (by decide +kernel) rfl rfl (Nat.le_of_ble_eq_true rfl) ?_
  intro r9 G9 tr9 h p e s m below meth c S hr hlk K X ls hl
  have hl : lv_has ls 3 [(0, .ref (ad 0)), (1, .int a1), (2, .int a2)] := hl
  unfold fX5_letter at h
  obtain ⟨H, hH⟩ : ∃ H, H = s.heap := ⟨_, rfl⟩
  obtain ⟨locs, hlo⟩ : ∃ locs : List Loc, locs = [] := ⟨_, rfl⟩
  have X : gS D cs ad ((mE ki ad) G tr) (gA cs ad s.heap.size) s H locs := by rw [hH, hlo]; exact X
  suffices z : W p l e (headSpec wsX5_letter { frames := 2, cells := 0, slots := 0, locals := 43 }).room s m ([.ref (ad 0), .int a1, .int a2] : List Value).toArray below meth c H locs 0 0 (zQI below ([.ref (ad 0), .int a1, .int a2] : List Value).toArray s D cs ad ((mE ki ad) G9 tr9) r9) (F0 m 0 ls []) by rw [hH, hlo] at z; exact z
  clear hH hlo
  refine lv_aload_n S.1 S.2.1 dX5_letter_0 rfl (lv_at hl 0 rfl) ?_
  refine lv_iconst (v := (0 : Int32)) S.1 S.2.1 dX5_letter_1 (by decide) ?_
  refine zr_put (xv := (0 : Int32)) (v := .int (0 : Int32)) (fsf := (fsR ad tr)) (ty := .int) S K X (hcs 0 (by decide)) mE_loc (fun _ => mE_R) rfl uX5_letter_X5 tyX5 tyX5_ok nmX5 0 (by decide) kX5_letter_47 rfl (by decide +kernel) rfl rfl (by simp) rfl dX5_letter_2 (fun H locs X => ?_)
  refine lv_aload_n S.1 S.2.1 dX5_letter_5 rfl (lv_at hl 0 rfl) ?_
  refine lv_iload_n S.1 S.2.1 dX5_letter_6 rfl (lv_at hl 1 rfl) ?_
  obtain ⟨r_2, G_3, tr_4, hf_1, h⟩ := zbd_some h
  refine zr_calli (Eg := (mE ki ad)) K X (va_runV (As := [.int a1]) (rest := []) S (mX5_isLetter l D ki ad cs hcs N a1 (up2 G 0 0 (0 : Int32)) tr H.size _ _ _ hf_1) (cwV 1 S.2.2.2.2 gX5_letter_X5_isLetter rfl rfl rfl (by decide +kernel) ⟨Nat.le_of_ble_eq_true rfl, Nat.le_of_ble_eq_true rfl⟩) (zr_preV (c0 := 0) K X (hcs 0 (by decide)) mE_R rfl) rfl rfl hl.1 rfl (lv_room (Nat.le_of_ble_eq_true rfl)) dX5_letter_7 ⟨Nat.zero_le _, Nat.zero_le _⟩) (fun H locs X => ?_)
  refine lv_if_eq (tgt := 39) S.1 S.2.1 dX5_letter_10 (by decide) (fun hc_5 => ?_) (fun hc_5 => ?_)
  · have h := zif_pos hc_5 h
    refine lv_iconst (v := (-1 : Int32)) S.1 S.2.1 dX5_letter_39 (by decide) ?_
    exact zr_iret S hr hlk X h dX5_letter_40
  · have h := zif_neg hc_5 h
    refine lv_iload_n S.1 S.2.1 dX5_letter_13 rfl (lv_at hl 2 rfl) ?_
    refine lv_iconst (v := (0 : Int32)) S.1 S.2.1 dX5_letter_14 (by decide) ?_
    refine lv_iconst (v := (5 : Int32)) S.1 S.2.1 dX5_letter_15 (by decide) ?_
    obtain ⟨r_7, hf_6, h⟩ := zbp_some h
    refine zr_calli (Eg := (mE ki ad)) (G' := G_3) (tr' := tr_4) K X (va_runS (As := [.int a2, .int (0 : Int32), .int (5 : Int32)]) (rest := []) S (mX5_in l D ki ad cs N a2 (0 : Int32) (5 : Int32) (mE ki ad) G_3 tr_4 H.size _ _ _ (zpu_of hf_6)) (va_cwS 3 S.2.2.2.2 gX5_letter_X5_in rfl rfl rfl (by decide +kernel) ⟨Nat.le_of_ble_eq_true rfl, Nat.le_of_ble_eq_true rfl⟩) (zr_pre K X) rfl rfl hl.1 rfl (lv_room (Nat.le_of_ble_eq_true rfl)) dX5_letter_16 ⟨Nat.zero_le _, Nat.zero_le _⟩) (fun H locs X => ?_)
    refine lv_if_eq (tgt := 39) S.1 S.2.1 dX5_letter_19 (by decide) (fun hc_8 => ?_) (fun hc_8 => ?_)
    · have h := zif_pos hc_8 h
      refine lv_iconst (v := (-1 : Int32)) S.1 S.2.1 dX5_letter_39 (by decide) ?_
      exact zr_iret S hr hlk X h dX5_letter_40
    · have h := zif_neg hc_8 h
      refine lv_aload_n S.1 S.2.1 dX5_letter_22 rfl (lv_at hl 0 rfl) ?_
      refine zr_get (v := .ref (ad 6)) S K X (hcs 0 (by decide)) mE_R rfl uX5_letter_X5 14 (by decide) kX5_letter_25 rfl rfl dX5_letter_23 ?_
      refine lv_bipush (v := (15 : Int32)) S.1 S.2.1 dX5_letter_26 (by decide) ?_
      refine lv_bipush (v := (6 : Int32)) S.1 S.2.1 dX5_letter_28 (by decide) ?_
      refine lv_iload_n S.1 S.2.1 dX5_letter_30 rfl (lv_at hl 1 rfl) ?_
      refine lv_imul S.1 S.2.1 dX5_letter_31 ?_
      refine lv_iadd S.1 S.2.1 dX5_letter_32 ?_
      refine lv_iload_n S.1 S.2.1 dX5_letter_33 rfl (lv_at hl 2 rfl) ?_
      refine lv_iadd S.1 S.2.1 dX5_letter_34 ?_
      obtain ⟨hi_9, h⟩ := zin_some h
      refine zr_iald S K X (hcs 6 (by decide)) mE_6 hi_9 dX5_letter_35 ?_
      refine lv_goto (tgt := 40) S.1 S.2.1 dX5_letter_36 (by decide) ?_
      exact zr_iret S hr hlk X h dX5_letter_40
set_option maxRecDepth 20000 in
theorem ggX5_now_X5_in : GoodIn wsX5_now wsX5_in := goodIn_r _ [7] (by decide +kernel) (by decide +kernel)
set_option maxRecDepth 20000 in
theorem gX5_now_X5_in : GoodIn wsX5_now (va_wsS RX5 51 yX5_in wsX5_in) := goodIn_app (goodIn_of _ (by decide +kernel)) ggX5_now_X5_in
theorem dX5_now_0 : decode cX5_now 0 = .ok (.aload_n 0, 1) := by decide +kernel
theorem dX5_now_1 : decode cX5_now 1 = .ok (.iconst 0, 1) := by decide +kernel
theorem dX5_now_2 : decode cX5_now 2 = .ok (.putfield 47, 3) := by decide +kernel
theorem dX5_now_5 : decode cX5_now 5 = .ok (.iload_n 1, 1) := by decide +kernel
theorem dX5_now_6 : decode cX5_now 6 = .ok (.iconst 0, 1) := by decide +kernel
theorem dX5_now_7 : decode cX5_now 7 = .ok (.iconst 4, 1) := by decide +kernel
theorem dX5_now_8 : decode cX5_now 8 = .ok (.invokestatic 51, 3) := by decide +kernel
theorem dX5_now_11 : decode cX5_now 11 = .ok (.ifCond .ne 5, 3) := by decide +kernel
theorem dX5_now_14 : decode cX5_now 14 = .ok (.iconst (-1), 1) := by decide +kernel
theorem dX5_now_15 : decode cX5_now 15 = .ok (.ireturn, 1) := by decide +kernel
theorem dX5_now_16 : decode cX5_now 16 = .ok (.iconst 0, 1) := by decide +kernel
theorem dX5_now_17 : decode cX5_now 17 = .ok (.istore_n 2, 1) := by decide +kernel
theorem dX5_now_18 : decode cX5_now 18 = .ok (.iconst 0, 1) := by decide +kernel
theorem dX5_now_19 : decode cX5_now 19 = .ok (.istore_n 3, 1) := by decide +kernel
theorem dX5_now_20 : decode cX5_now 20 = .ok (.iload_n 3, 1) := by decide +kernel
theorem dX5_now_21 : decode cX5_now 21 = .ok (.aload_n 0, 1) := by decide +kernel
theorem dX5_now_22 : decode cX5_now 22 = .ok (.getfield 25, 3) := by decide +kernel
theorem dX5_now_25 : decode cX5_now 25 = .ok (.iconst 1, 1) := by decide +kernel
theorem dX5_now_26 : decode cX5_now 26 = .ok (.iaload, 1) := by decide +kernel
theorem dX5_now_27 : decode cX5_now 27 = .ok (.if_icmp .ge 36, 3) := by decide +kernel
theorem dX5_now_30 : decode cX5_now 30 = .ok (.iload_n 2, 1) := by decide +kernel
theorem dX5_now_31 : decode cX5_now 31 = .ok (.aload_n 0, 1) := by decide +kernel
theorem dX5_now_32 : decode cX5_now 32 = .ok (.getfield 25, 3) := by decide +kernel
theorem dX5_now_35 : decode cX5_now 35 = .ok (.bipush 15, 2) := by decide +kernel
theorem dX5_now_37 : decode cX5_now 37 = .ok (.bipush 6, 2) := by decide +kernel
theorem dX5_now_39 : decode cX5_now 39 = .ok (.iload_n 3, 1) := by decide +kernel
theorem dX5_now_40 : decode cX5_now 40 = .ok (.imul, 1) := by decide +kernel
theorem dX5_now_41 : decode cX5_now 41 = .ok (.iadd, 1) := by decide +kernel
theorem dX5_now_42 : decode cX5_now 42 = .ok (.iconst 5, 1) := by decide +kernel
theorem dX5_now_43 : decode cX5_now 43 = .ok (.iadd, 1) := by decide +kernel
theorem dX5_now_44 : decode cX5_now 44 = .ok (.iaload, 1) := by decide +kernel
theorem dX5_now_45 : decode cX5_now 45 = .ok (.ifCond .ne 9, 3) := by decide +kernel
theorem dX5_now_48 : decode cX5_now 48 = .ok (.iconst 1, 1) := by decide +kernel
theorem dX5_now_49 : decode cX5_now 49 = .ok (.iload_n 3, 1) := by decide +kernel
theorem dX5_now_50 : decode cX5_now 50 = .ok (.ishl, 1) := by decide +kernel
theorem dX5_now_51 : decode cX5_now 51 = .ok (.goto 4, 3) := by decide +kernel
theorem dX5_now_54 : decode cX5_now 54 = .ok (.iconst 0, 1) := by decide +kernel
theorem dX5_now_55 : decode cX5_now 55 = .ok (.ior, 1) := by decide +kernel
theorem dX5_now_56 : decode cX5_now 56 = .ok (.istore_n 2, 1) := by decide +kernel
theorem dX5_now_57 : decode cX5_now 57 = .ok (.iinc 3 1, 3) := by decide +kernel
theorem dX5_now_60 : decode cX5_now 60 = .ok (.goto (-40), 3) := by decide +kernel
theorem dX5_now_63 : decode cX5_now 63 = .ok (.iload_n 1, 1) := by decide +kernel
theorem dX5_now_64 : decode cX5_now 64 = .ok (.iconst 2, 1) := by decide +kernel
theorem dX5_now_65 : decode cX5_now 65 = .ok (.if_icmp .ge 12, 3) := by decide +kernel
theorem dX5_now_68 : decode cX5_now 68 = .ok (.aload_n 0, 1) := by decide +kernel
theorem dX5_now_69 : decode cX5_now 69 = .ok (.getfield 25, 3) := by decide +kernel
theorem dX5_now_72 : decode cX5_now 72 = .ok (.iload_n 1, 1) := by decide +kernel
theorem dX5_now_73 : decode cX5_now 73 = .ok (.iaload, 1) := by decide +kernel
theorem dX5_now_74 : decode cX5_now 74 = .ok (.goto 30, 3) := by decide +kernel
theorem dX5_now_77 : decode cX5_now 77 = .ok (.iload_n 1, 1) := by decide +kernel
theorem dX5_now_78 : decode cX5_now 78 = .ok (.iconst 2, 1) := by decide +kernel
theorem dX5_now_79 : decode cX5_now 79 = .ok (.if_icmp .ne 7, 3) := by decide +kernel
theorem dX5_now_82 : decode cX5_now 82 = .ok (.iload_n 2, 1) := by decide +kernel
theorem dX5_now_83 : decode cX5_now 83 = .ok (.goto 21, 3) := by decide +kernel
theorem dX5_now_86 : decode cX5_now 86 = .ok (.iload_n 1, 1) := by decide +kernel
theorem dX5_now_87 : decode cX5_now 87 = .ok (.iconst 3, 1) := by decide +kernel
theorem dX5_now_88 : decode cX5_now 88 = .ok (.if_icmp .ne 12, 3) := by decide +kernel
theorem dX5_now_91 : decode cX5_now 91 = .ok (.aload_n 0, 1) := by decide +kernel
theorem dX5_now_92 : decode cX5_now 92 = .ok (.getfield 25, 3) := by decide +kernel
theorem dX5_now_95 : decode cX5_now 95 = .ok (.iconst 2, 1) := by decide +kernel
theorem dX5_now_96 : decode cX5_now 96 = .ok (.iaload, 1) := by decide +kernel
theorem dX5_now_97 : decode cX5_now 97 = .ok (.goto 7, 3) := by decide +kernel
theorem dX5_now_100 : decode cX5_now 100 = .ok (.aload_n 0, 1) := by decide +kernel
theorem dX5_now_101 : decode cX5_now 101 = .ok (.getfield 113, 3) := by decide +kernel
theorem dX5_now_104 : decode cX5_now 104 = .ok (.ireturn, 1) := by decide +kernel
set_option maxRecDepth 20000 in
theorem kX5_now_25 : Cond.fieldLink RX5 25 "WindPostModel" "s" "[I" ∈ wsX5_now := by decide +kernel
set_option maxRecDepth 20000 in
theorem kX5_now_47 : Cond.fieldLink RX5 47 "WindPostModel" "thrown" "I" ∈ wsX5_now := by decide +kernel
set_option maxRecDepth 20000 in
theorem kX5_now_113 : Cond.fieldLink RX5 113 "WindPostModel" "undoMany" "I" ∈ wsX5_now := by decide +kernel
set_option maxRecDepth 20000 in
theorem uX5_now_X5 : ∀ w ∈ wsX50, w ∈ wsX5_now := by decide +kernel
set_option maxHeartbeats 8000000 in
set_option maxRecDepth 100000 in
theorem mX5_now (l : Launch) (D : va_G) (ki : Nat → ClassId) (ad : Nat → Nat) (cs : List Nat) (hcs : kR cs) (N : Nat) (a1 : Int32) (G : zMem) (tr : Int64) : gMetI l D ki ad cs yX5_now wsX5_now { frames := 1, cells := 0, slots := 0, locals := 22 } [.ref (ad 0), .int a1] (mE ki ad) G tr (fX5_now N a1 G tr) := by
  refine gMetI_of (cc := cX5_now) (maxL := 4) (ret := (some .int)) (own := RX5) (by decide +kernel) rfl rfl (Nat.le_of_ble_eq_true rfl) ?_
  intro r9 G9 tr9 h p e s m below meth c S hr hlk K X ls hl
  have hl : lv_has ls 4 [(0, .ref (ad 0)), (1, .int a1)] := hl
  have b55 : ∀ (k20 : Int32 → Int32 → zMem → Int64 → zR) (hk20 : ∀ (x2 : Int32) (x3 : Int32) (G : zMem) (tr : Int64), k20 x2 x3 G tr = some (r9, G9, tr9) → zAt p l e (headSpec wsX5_now { frames := 1, cells := 0, slots := 0, locals := 22 }).room s m ([.ref (ad 0), .int a1] : List Value).toArray below meth c 4 D cs ad (zQI below ([.ref (ad 0), .int a1] : List Value).toArray s D cs ad ((mE ki ad) G9 tr9) r9) 20 [(0, .ref (ad 0)), (1, .int a1), (2, .int x2), (3, .int x3)] [] ((mE ki ad) G tr)) (x3 : Int32) (s0 : Int32) (s1 : Int32) (G : zMem) (tr : Int64), fX5_now_b55 N a1 k20 x3 s0 s1 G tr = some (r9, G9, tr9) → zAt p l e (headSpec wsX5_now { frames := 1, cells := 0, slots := 0, locals := 22 }).room s m ([.ref (ad 0), .int a1] : List Value).toArray below meth c 4 D cs ad (zQI below ([.ref (ad 0), .int a1] : List Value).toArray s D cs ad ((mE ki ad) G9 tr9) r9) 55 [(0, .ref (ad 0)), (1, .int a1), (3, .int x3)] [.int s0, .int s1] ((mE ki ad) G tr) := by
    intro k20 hk20 x3 s0 s1 G tr h H locs ls X hl
    unfold fX5_now_b55 at h
    refine lv_ior S.1 S.2.1 dX5_now_55 ?_
    refine lv_istore_n (lv' := [(2, .int (s1 ||| s0)), (0, .ref (ad 0)), (1, .int a1), (3, .int x3)]) S.1 S.2.1 dX5_now_56 rfl hl (by decide) rfl (fun ls hl => ?_)
    refine lv_iinc (v := (x3 + 1)) (lv' := [(3, .int (x3 + 1)), (2, .int (s1 ||| s0)), (0, .ref (ad 0)), (1, .int a1)]) S.1 S.2.1 dX5_now_57 hl (k := 3) rfl rfl (by decide) rfl (fun ls hl => ?_)
    refine lv_goto (tgt := 20) S.1 S.2.1 dX5_now_60 (by decide) ?_
    exact hk20 (s1 ||| s0) (x3 + 1) G tr h _ _ _ X (lv_sub hl [2, 3, 1, 0] rfl)
  have b20 : ∀ (k20 : Int32 → Int32 → zMem → Int64 → zR) (hk20 : ∀ (x2 : Int32) (x3 : Int32) (G : zMem) (tr : Int64), k20 x2 x3 G tr = some (r9, G9, tr9) → zAt p l e (headSpec wsX5_now { frames := 1, cells := 0, slots := 0, locals := 22 }).room s m ([.ref (ad 0), .int a1] : List Value).toArray below meth c 4 D cs ad (zQI below ([.ref (ad 0), .int a1] : List Value).toArray s D cs ad ((mE ki ad) G9 tr9) r9) 20 [(0, .ref (ad 0)), (1, .int a1), (2, .int x2), (3, .int x3)] [] ((mE ki ad) G tr)) (x2 : Int32) (x3 : Int32) (G : zMem) (tr : Int64), fX5_now_b20 N a1 k20 x2 x3 G tr = some (r9, G9, tr9) → zAt p l e (headSpec wsX5_now { frames := 1, cells := 0, slots := 0, locals := 22 }).room s m ([.ref (ad 0), .int a1] : List Value).toArray below meth c 4 D cs ad (zQI below ([.ref (ad 0), .int a1] : List Value).toArray s D cs ad ((mE ki ad) G9 tr9) r9) 20 [(0, .ref (ad 0)), (1, .int a1), (2, .int x2), (3, .int x3)] [] ((mE ki ad) G tr) := by
    intro k20 hk20 x2 x3 G tr h H locs ls X hl
    unfold fX5_now_b20 at h
    refine lv_iload_n S.1 S.2.1 dX5_now_20 rfl (lv_at hl 3 rfl) ?_
    refine lv_aload_n S.1 S.2.1 dX5_now_21 rfl (lv_at hl 0 rfl) ?_
    refine zr_get (v := .ref (ad 6)) S K X (hcs 0 (by decide)) mE_R rfl uX5_now_X5 14 (by decide) kX5_now_25 rfl rfl dX5_now_22 ?_
    refine lv_iconst (v := (1 : Int32)) S.1 S.2.1 dX5_now_25 (by decide) ?_
    obtain ⟨hi_1, h⟩ := zin_some h
    refine zr_iald S K X (hcs 6 (by decide)) mE_6 hi_1 dX5_now_26 ?_
    refine lv_icmp_ge (tgt := 63) S.1 S.2.1 dX5_now_27 (by decide) (fun hc_2 => ?_) (fun hc_2 => ?_)
    · have h := zif_pos hc_2 h
      refine lv_iload_n S.1 S.2.1 dX5_now_63 rfl (lv_at hl 1 rfl) ?_
      refine lv_iconst (v := (2 : Int32)) S.1 S.2.1 dX5_now_64 (by decide) ?_
      refine lv_icmp_ge (tgt := 77) S.1 S.2.1 dX5_now_65 (by decide) (fun hc_3 => ?_) (fun hc_3 => ?_)
      · have h := zif_pos hc_3 h
        refine lv_iload_n S.1 S.2.1 dX5_now_77 rfl (lv_at hl 1 rfl) ?_
        refine lv_iconst (v := (2 : Int32)) S.1 S.2.1 dX5_now_78 (by decide) ?_
        refine lv_icmp_ne (tgt := 86) S.1 S.2.1 dX5_now_79 (by decide) (fun hc_4 => ?_) (fun hc_4 => ?_)
        · have h := zif_neg hc_4 h
          refine lv_iload_n S.1 S.2.1 dX5_now_86 rfl (lv_at hl 1 rfl) ?_
          refine lv_iconst (v := (3 : Int32)) S.1 S.2.1 dX5_now_87 (by decide) ?_
          refine lv_icmp_ne (tgt := 100) S.1 S.2.1 dX5_now_88 (by decide) (fun hc_5 => ?_) (fun hc_5 => ?_)
          · have h := zif_neg hc_5 h
            refine lv_aload_n S.1 S.2.1 dX5_now_100 rfl (lv_at hl 0 rfl) ?_
            refine zr_get (v := .int (G 0 18)) S K X (hcs 0 (by decide)) mE_R rfl uX5_now_X5 18 (by decide) kX5_now_113 rfl rfl dX5_now_101 ?_
            exact zr_iret S hr hlk X h dX5_now_104
          · have h := zif_pos hc_5 h
            refine lv_aload_n S.1 S.2.1 dX5_now_91 rfl (lv_at hl 0 rfl) ?_
            refine zr_get (v := .ref (ad 6)) S K X (hcs 0 (by decide)) mE_R rfl uX5_now_X5 14 (by decide) kX5_now_25 rfl rfl dX5_now_92 ?_
            refine lv_iconst (v := (2 : Int32)) S.1 S.2.1 dX5_now_95 (by decide) ?_
            obtain ⟨hi_6, h⟩ := zin_some h
            refine zr_iald S K X (hcs 6 (by decide)) mE_6 hi_6 dX5_now_96 ?_
            refine lv_goto (tgt := 104) S.1 S.2.1 dX5_now_97 (by decide) ?_
            exact zr_iret S hr hlk X h dX5_now_104
        · have h := zif_pos hc_4 h
          refine lv_iload_n S.1 S.2.1 dX5_now_82 rfl (lv_at hl 2 rfl) ?_
          refine lv_goto (tgt := 104) S.1 S.2.1 dX5_now_83 (by decide) ?_
          exact zr_iret S hr hlk X h dX5_now_104
      · have h := zif_neg hc_3 h
        refine lv_aload_n S.1 S.2.1 dX5_now_68 rfl (lv_at hl 0 rfl) ?_
        refine zr_get (v := .ref (ad 6)) S K X (hcs 0 (by decide)) mE_R rfl uX5_now_X5 14 (by decide) kX5_now_25 rfl rfl dX5_now_69 ?_
        refine lv_iload_n S.1 S.2.1 dX5_now_72 rfl (lv_at hl 1 rfl) ?_
        obtain ⟨hi_7, h⟩ := zin_some h
        refine zr_iald S K X (hcs 6 (by decide)) mE_6 hi_7 dX5_now_73 ?_
        refine lv_goto (tgt := 104) S.1 S.2.1 dX5_now_74 (by decide) ?_
        exact zr_iret S hr hlk X h dX5_now_104
    · have h := zif_neg hc_2 h
      refine lv_iload_n S.1 S.2.1 dX5_now_30 rfl (lv_at hl 2 rfl) ?_
      refine lv_aload_n S.1 S.2.1 dX5_now_31 rfl (lv_at hl 0 rfl) ?_
      refine zr_get (v := .ref (ad 6)) S K X (hcs 0 (by decide)) mE_R rfl uX5_now_X5 14 (by decide) kX5_now_25 rfl rfl dX5_now_32 ?_
      refine lv_bipush (v := (15 : Int32)) S.1 S.2.1 dX5_now_35 (by decide) ?_
      refine lv_bipush (v := (6 : Int32)) S.1 S.2.1 dX5_now_37 (by decide) ?_
      refine lv_iload_n S.1 S.2.1 dX5_now_39 rfl (lv_at hl 3 rfl) ?_
      refine lv_imul S.1 S.2.1 dX5_now_40 ?_
      refine lv_iadd S.1 S.2.1 dX5_now_41 ?_
      refine lv_iconst (v := (5 : Int32)) S.1 S.2.1 dX5_now_42 (by decide) ?_
      refine lv_iadd S.1 S.2.1 dX5_now_43 ?_
      obtain ⟨hi_8, h⟩ := zin_some h
      refine zr_iald S K X (hcs 6 (by decide)) mE_6 hi_8 dX5_now_44 ?_
      refine lv_if_ne (tgt := 54) S.1 S.2.1 dX5_now_45 (by decide) (fun hc_9 => ?_) (fun hc_9 => ?_)
      · have h := zif_neg hc_9 h
        refine lv_iconst (v := (0 : Int32)) S.1 S.2.1 dX5_now_54 (by decide) ?_
        exact b55 k20 hk20 x3 (0 : Int32) x2 G tr h _ _ _ X (lv_sub hl [0, 1, 3] rfl)
      · have h := zif_pos hc_9 h
        refine lv_iconst (v := (1 : Int32)) S.1 S.2.1 dX5_now_48 (by decide) ?_
        refine lv_iload_n S.1 S.2.1 dX5_now_49 rfl (lv_at hl 3 rfl) ?_
        refine lv_ishl S.1 S.2.1 dX5_now_50 ?_
        refine lv_goto (tgt := 55) S.1 S.2.1 dX5_now_51 (by decide) ?_
        exact b55 k20 hk20 x3 ((1 : Int32) <<< (x3 &&& 31)) x2 G tr h _ _ _ X (lv_sub hl [0, 1, 3] rfl)
  have L20 : ∀ (n : Nat) (x2 : Int32) (x3 : Int32) (G : zMem) (tr : Int64), fX5_now_L20 N a1 n x2 x3 G tr = some (r9, G9, tr9) → zAt p l e (headSpec wsX5_now { frames := 1, cells := 0, slots := 0, locals := 22 }).room s m ([.ref (ad 0), .int a1] : List Value).toArray below meth c 4 D cs ad (zQI below ([.ref (ad 0), .int a1] : List Value).toArray s D cs ad ((mE ki ad) G9 tr9) r9) 20 [(0, .ref (ad 0)), (1, .int a1), (2, .int x2), (3, .int x3)] [] ((mE ki ad) G tr) := by
    intro n
    induction n with
    | zero => intro x2 x3 G tr h; cases h
    | succ n ih => intro x2 x3 G tr h; exact b20 (fX5_now_L20 N a1 n) ih x2 x3 G tr h
  unfold fX5_now at h
  obtain ⟨H, hH⟩ : ∃ H, H = s.heap := ⟨_, rfl⟩
  obtain ⟨locs, hlo⟩ : ∃ locs : List Loc, locs = [] := ⟨_, rfl⟩
  have X : gS D cs ad ((mE ki ad) G tr) (gA cs ad s.heap.size) s H locs := by rw [hH, hlo]; exact X
  suffices z : W p l e (headSpec wsX5_now { frames := 1, cells := 0, slots := 0, locals := 22 }).room s m ([.ref (ad 0), .int a1] : List Value).toArray below meth c H locs 0 0 (zQI below ([.ref (ad 0), .int a1] : List Value).toArray s D cs ad ((mE ki ad) G9 tr9) r9) (F0 m 0 ls []) by rw [hH, hlo] at z; exact z
  clear hH hlo
  refine lv_aload_n S.1 S.2.1 dX5_now_0 rfl (lv_at hl 0 rfl) ?_
  refine lv_iconst (v := (0 : Int32)) S.1 S.2.1 dX5_now_1 (by decide) ?_
  refine zr_put (xv := (0 : Int32)) (v := .int (0 : Int32)) (fsf := (fsR ad tr)) (ty := .int) S K X (hcs 0 (by decide)) mE_loc (fun _ => mE_R) rfl uX5_now_X5 tyX5 tyX5_ok nmX5 0 (by decide) kX5_now_47 rfl (by decide +kernel) rfl rfl (by simp) rfl dX5_now_2 (fun H locs X => ?_)
  refine lv_iload_n S.1 S.2.1 dX5_now_5 rfl (lv_at hl 1 rfl) ?_
  refine lv_iconst (v := (0 : Int32)) S.1 S.2.1 dX5_now_6 (by decide) ?_
  refine lv_iconst (v := (4 : Int32)) S.1 S.2.1 dX5_now_7 (by decide) ?_
  obtain ⟨r_2, hf_1, h⟩ := zbp_some h
  refine zr_calli (Eg := (mE ki ad)) (G' := (up2 G 0 0 (0 : Int32))) (tr' := tr) K X (va_runS (As := [.int a1, .int (0 : Int32), .int (4 : Int32)]) (rest := []) S (mX5_in l D ki ad cs N a1 (0 : Int32) (4 : Int32) (mE ki ad) (up2 G 0 0 (0 : Int32)) tr H.size _ _ _ (zpu_of hf_1)) (va_cwS 3 S.2.2.2.2 gX5_now_X5_in rfl rfl rfl (by decide +kernel) ⟨Nat.le_of_ble_eq_true rfl, Nat.le_of_ble_eq_true rfl⟩) (zr_pre K X) rfl rfl hl.1 rfl (lv_room (Nat.le_of_ble_eq_true rfl)) dX5_now_8 ⟨Nat.zero_le _, Nat.zero_le _⟩) (fun H locs X => ?_)
  refine lv_if_ne (tgt := 16) S.1 S.2.1 dX5_now_11 (by decide) (fun hc_3 => ?_) (fun hc_3 => ?_)
  · have h := zif_neg hc_3 h
    refine lv_iconst (v := (0 : Int32)) S.1 S.2.1 dX5_now_16 (by decide) ?_
    refine lv_istore_n (lv' := [(2, .int (0 : Int32)), (0, .ref (ad 0)), (1, .int a1)]) S.1 S.2.1 dX5_now_17 rfl hl (by decide) rfl (fun ls hl => ?_)
    refine lv_iconst (v := (0 : Int32)) S.1 S.2.1 dX5_now_18 (by decide) ?_
    refine lv_istore_n (lv' := [(3, .int (0 : Int32)), (2, .int (0 : Int32)), (0, .ref (ad 0)), (1, .int a1)]) S.1 S.2.1 dX5_now_19 rfl hl (by decide) rfl (fun ls hl => ?_)
    exact L20 N (0 : Int32) (0 : Int32) (up2 G 0 0 (0 : Int32)) tr h _ _ _ X (lv_sub hl [2, 3, 1, 0] rfl)
  · have h := zif_pos hc_3 h
    refine lv_iconst (v := (-1 : Int32)) S.1 S.2.1 dX5_now_14 (by decide) ?_
    exact zr_iret S hr hlk X h dX5_now_15
theorem dX5_notes_0 : decode cX5_notes 0 = .ok (.aload_n 0, 1) := by decide +kernel
theorem dX5_notes_1 : decode cX5_notes 1 = .ok (.getfield 113, 3) := by decide +kernel
theorem dX5_notes_4 : decode cX5_notes 4 = .ok (.bipush 10, 2) := by decide +kernel
theorem dX5_notes_6 : decode cX5_notes 6 = .ok (.if_icmp .ne 39, 3) := by decide +kernel
theorem dX5_notes_9 : decode cX5_notes 9 = .ok (.iconst 0, 1) := by decide +kernel
theorem dX5_notes_10 : decode cX5_notes 10 = .ok (.istore_n 1, 1) := by decide +kernel
theorem dX5_notes_11 : decode cX5_notes 11 = .ok (.iload_n 1, 1) := by decide +kernel
theorem dX5_notes_12 : decode cX5_notes 12 = .ok (.sipush 405, 3) := by decide +kernel
theorem dX5_notes_15 : decode cX5_notes 15 = .ok (.if_icmp .ge 24, 3) := by decide +kernel
theorem dX5_notes_18 : decode cX5_notes 18 = .ok (.aload_n 0, 1) := by decide +kernel
theorem dX5_notes_19 : decode cX5_notes 19 = .ok (.getfield 35, 3) := by decide +kernel
theorem dX5_notes_22 : decode cX5_notes 22 = .ok (.iload_n 1, 1) := by decide +kernel
theorem dX5_notes_23 : decode cX5_notes 23 = .ok (.aload_n 0, 1) := by decide +kernel
theorem dX5_notes_24 : decode cX5_notes 24 = .ok (.getfield 35, 3) := by decide +kernel
theorem dX5_notes_27 : decode cX5_notes 27 = .ok (.iload_n 1, 1) := by decide +kernel
theorem dX5_notes_28 : decode cX5_notes 28 = .ok (.bipush 45, 2) := by decide +kernel
theorem dX5_notes_30 : decode cX5_notes 30 = .ok (.iadd, 1) := by decide +kernel
theorem dX5_notes_31 : decode cX5_notes 31 = .ok (.iaload, 1) := by decide +kernel
theorem dX5_notes_32 : decode cX5_notes 32 = .ok (.iastore, 1) := by decide +kernel
theorem dX5_notes_33 : decode cX5_notes 33 = .ok (.iinc 1 1, 3) := by decide +kernel
theorem dX5_notes_36 : decode cX5_notes 36 = .ok (.goto (-25), 3) := by decide +kernel
theorem dX5_notes_39 : decode cX5_notes 39 = .ok (.aload_n 0, 1) := by decide +kernel
theorem dX5_notes_40 : decode cX5_notes 40 = .ok (.bipush 9, 2) := by decide +kernel
theorem dX5_notes_42 : decode cX5_notes 42 = .ok (.putfield 113, 3) := by decide +kernel
theorem dX5_notes_45 : decode cX5_notes 45 = .ok (.iconst 0, 1) := by decide +kernel
theorem dX5_notes_46 : decode cX5_notes 46 = .ok (.istore_n 1, 1) := by decide +kernel
theorem dX5_notes_47 : decode cX5_notes 47 = .ok (.iload_n 1, 1) := by decide +kernel
theorem dX5_notes_48 : decode cX5_notes 48 = .ok (.bipush 45, 2) := by decide +kernel
theorem dX5_notes_50 : decode cX5_notes 50 = .ok (.if_icmp .ge 29, 3) := by decide +kernel
theorem dX5_notes_53 : decode cX5_notes 53 = .ok (.aload_n 0, 1) := by decide +kernel
theorem dX5_notes_54 : decode cX5_notes 54 = .ok (.getfield 35, 3) := by decide +kernel
theorem dX5_notes_57 : decode cX5_notes 57 = .ok (.bipush 45, 2) := by decide +kernel
theorem dX5_notes_59 : decode cX5_notes 59 = .ok (.aload_n 0, 1) := by decide +kernel
theorem dX5_notes_60 : decode cX5_notes 60 = .ok (.getfield 113, 3) := by decide +kernel
theorem dX5_notes_63 : decode cX5_notes 63 = .ok (.imul, 1) := by decide +kernel
theorem dX5_notes_64 : decode cX5_notes 64 = .ok (.iload_n 1, 1) := by decide +kernel
theorem dX5_notes_65 : decode cX5_notes 65 = .ok (.iadd, 1) := by decide +kernel
theorem dX5_notes_66 : decode cX5_notes 66 = .ok (.aload_n 0, 1) := by decide +kernel
theorem dX5_notes_67 : decode cX5_notes 67 = .ok (.getfield 25, 3) := by decide +kernel
theorem dX5_notes_70 : decode cX5_notes 70 = .ok (.iload_n 1, 1) := by decide +kernel
theorem dX5_notes_71 : decode cX5_notes 71 = .ok (.iaload, 1) := by decide +kernel
theorem dX5_notes_72 : decode cX5_notes 72 = .ok (.iastore, 1) := by decide +kernel
theorem dX5_notes_73 : decode cX5_notes 73 = .ok (.iinc 1 1, 3) := by decide +kernel
theorem dX5_notes_76 : decode cX5_notes 76 = .ok (.goto (-29), 3) := by decide +kernel
theorem dX5_notes_79 : decode cX5_notes 79 = .ok (.aload_n 0, 1) := by decide +kernel
theorem dX5_notes_80 : decode cX5_notes 80 = .ok (.dup, 1) := by decide +kernel
theorem dX5_notes_81 : decode cX5_notes 81 = .ok (.getfield 113, 3) := by decide +kernel
theorem dX5_notes_84 : decode cX5_notes 84 = .ok (.iconst 1, 1) := by decide +kernel
theorem dX5_notes_85 : decode cX5_notes 85 = .ok (.iadd, 1) := by decide +kernel
theorem dX5_notes_86 : decode cX5_notes 86 = .ok (.putfield 113, 3) := by decide +kernel
theorem dX5_notes_89 : decode cX5_notes 89 = .ok (.return_, 1) := by decide +kernel
set_option maxRecDepth 20000 in
theorem kX5_notes_25 : Cond.fieldLink RX5 25 "WindPostModel" "s" "[I" ∈ wsX5_notes := by decide +kernel
set_option maxRecDepth 20000 in
theorem kX5_notes_35 : Cond.fieldLink RX5 35 "WindPostModel" "undos" "[I" ∈ wsX5_notes := by decide +kernel
set_option maxRecDepth 20000 in
theorem kX5_notes_113 : Cond.fieldLink RX5 113 "WindPostModel" "undoMany" "I" ∈ wsX5_notes := by decide +kernel
set_option maxRecDepth 20000 in
theorem uX5_notes_X5 : ∀ w ∈ wsX50, w ∈ wsX5_notes := by decide +kernel
set_option maxHeartbeats 8000000 in
set_option maxRecDepth 100000 in
theorem mX5_notes (l : Launch) (D : va_G) (ki : Nat → ClassId) (ad : Nat → Nat) (cs : List Nat) (hcs : kR cs) (N : Nat) (G : zMem) (tr : Int64) : gMetV l D ki ad cs yX5_notes wsX5_notes { frames := 0, cells := 0, slots := 0, locals := 0 } [.ref (ad 0)] (mE ki ad) G tr (fX5_notes N G tr) := by
  refine gMetV_of (cc := cX5_notes) (maxL := 2) (ret := none) (own := RX5) (by decide +kernel) rfl rfl (Nat.le_of_ble_eq_true rfl) ?_
  intro r9 G9 tr9 h p e s m below meth c S hr hlk K X ls hl
  have hl : lv_has ls 2 [(0, .ref (ad 0))] := hl
  have b47 : ∀ (k47 : Int32 → zMem → Int64 → zR) (hk47 : ∀ (x1 : Int32) (G : zMem) (tr : Int64), k47 x1 G tr = some (r9, G9, tr9) → zAt p l e (headSpec wsX5_notes { frames := 0, cells := 0, slots := 0, locals := 0 }).room s m ([.ref (ad 0)] : List Value).toArray below meth c 2 D cs ad (zQV below ([.ref (ad 0)] : List Value).toArray s D cs ad ((mE ki ad) G9 tr9)) 47 [(0, .ref (ad 0)), (1, .int x1)] [] ((mE ki ad) G tr)) (x1 : Int32) (G : zMem) (tr : Int64), fX5_notes_b47 N k47 x1 G tr = some (r9, G9, tr9) → zAt p l e (headSpec wsX5_notes { frames := 0, cells := 0, slots := 0, locals := 0 }).room s m ([.ref (ad 0)] : List Value).toArray below meth c 2 D cs ad (zQV below ([.ref (ad 0)] : List Value).toArray s D cs ad ((mE ki ad) G9 tr9)) 47 [(0, .ref (ad 0)), (1, .int x1)] [] ((mE ki ad) G tr) := by
    intro k47 hk47 x1 G tr h H locs ls X hl
    unfold fX5_notes_b47 at h
    refine lv_iload_n S.1 S.2.1 dX5_notes_47 rfl (lv_at hl 1 rfl) ?_
    refine lv_bipush (v := (45 : Int32)) S.1 S.2.1 dX5_notes_48 (by decide) ?_
    refine lv_icmp_ge (tgt := 79) S.1 S.2.1 dX5_notes_50 (by decide) (fun hc_1 => ?_) (fun hc_1 => ?_)
    · have h := zif_pos hc_1 h
      refine lv_aload_n S.1 S.2.1 dX5_notes_79 rfl (lv_at hl 0 rfl) ?_
      refine lv_dup S.1 S.2.1 dX5_notes_80 rfl ?_
      refine zr_get (v := .int (G 0 18)) S K X (hcs 0 (by decide)) mE_R rfl uX5_notes_X5 18 (by decide) kX5_notes_113 rfl rfl dX5_notes_81 ?_
      refine lv_iconst (v := (1 : Int32)) S.1 S.2.1 dX5_notes_84 (by decide) ?_
      refine lv_iadd S.1 S.2.1 dX5_notes_85 ?_
      refine zr_put (xv := ((G 0 18) + (1 : Int32))) (v := .int ((G 0 18) + (1 : Int32))) (fsf := (fsR ad tr)) (ty := .int) S K X (hcs 0 (by decide)) mE_loc (fun _ => mE_R) rfl uX5_notes_X5 tyX5 tyX5_ok nmX5 18 (by decide) kX5_notes_113 rfl (by decide +kernel) rfl rfl (by simp) rfl dX5_notes_86 (fun H locs X => ?_)
      exact zr_vret S hr hlk X h dX5_notes_89
    · have h := zif_neg hc_1 h
      refine lv_aload_n S.1 S.2.1 dX5_notes_53 rfl (lv_at hl 0 rfl) ?_
      refine zr_get (v := .ref (ad 9)) S K X (hcs 0 (by decide)) mE_R rfl uX5_notes_X5 17 (by decide) kX5_notes_35 rfl rfl dX5_notes_54 ?_
      refine lv_bipush (v := (45 : Int32)) S.1 S.2.1 dX5_notes_57 (by decide) ?_
      refine lv_aload_n S.1 S.2.1 dX5_notes_59 rfl (lv_at hl 0 rfl) ?_
      refine zr_get (v := .int (G 0 18)) S K X (hcs 0 (by decide)) mE_R rfl uX5_notes_X5 18 (by decide) kX5_notes_113 rfl rfl dX5_notes_60 ?_
      refine lv_imul S.1 S.2.1 dX5_notes_63 ?_
      refine lv_iload_n S.1 S.2.1 dX5_notes_64 rfl (lv_at hl 1 rfl) ?_
      refine lv_iadd S.1 S.2.1 dX5_notes_65 ?_
      refine lv_aload_n S.1 S.2.1 dX5_notes_66 rfl (lv_at hl 0 rfl) ?_
      refine zr_get (v := .ref (ad 6)) S K X (hcs 0 (by decide)) mE_R rfl uX5_notes_X5 14 (by decide) kX5_notes_25 rfl rfl dX5_notes_67 ?_
      refine lv_iload_n S.1 S.2.1 dX5_notes_70 rfl (lv_at hl 1 rfl) ?_
      obtain ⟨hi_2, h⟩ := zin_some h
      refine zr_iald S K X (hcs 6 (by decide)) mE_6 hi_2 dX5_notes_71 ?_
      obtain ⟨hi_3, h⟩ := zin_some h
      refine zr_iast S K X (hcs 9 (by decide)) mE_loc (fun _ => mE_9) hi_3 dX5_notes_72 (fun H locs X => ?_)
      refine lv_iinc (v := (x1 + 1)) (lv' := [(1, .int (x1 + 1)), (0, .ref (ad 0))]) S.1 S.2.1 dX5_notes_73 hl (k := 1) rfl rfl (by decide) rfl (fun ls hl => ?_)
      refine lv_goto (tgt := 47) S.1 S.2.1 dX5_notes_76 (by decide) ?_
      exact hk47 (x1 + 1) (up2 G 9 (Int32.toNatClampNeg (((45 : Int32) * (G 0 18)) + x1)) (G 6 (Int32.toNatClampNeg x1))) tr h _ _ _ X (lv_sub hl [1, 0] rfl)
  have L47 : ∀ (n : Nat) (x1 : Int32) (G : zMem) (tr : Int64), fX5_notes_L47 N n x1 G tr = some (r9, G9, tr9) → zAt p l e (headSpec wsX5_notes { frames := 0, cells := 0, slots := 0, locals := 0 }).room s m ([.ref (ad 0)] : List Value).toArray below meth c 2 D cs ad (zQV below ([.ref (ad 0)] : List Value).toArray s D cs ad ((mE ki ad) G9 tr9)) 47 [(0, .ref (ad 0)), (1, .int x1)] [] ((mE ki ad) G tr) := by
    intro n
    induction n with
    | zero => intro x1 G tr h; cases h
    | succ n ih => intro x1 G tr h; exact b47 (fX5_notes_L47 N n) ih x1 G tr h
  have b45 : ∀ (G : zMem) (tr : Int64), fX5_notes_b45 N G tr = some (r9, G9, tr9) → zAt p l e (headSpec wsX5_notes { frames := 0, cells := 0, slots := 0, locals := 0 }).room s m ([.ref (ad 0)] : List Value).toArray below meth c 2 D cs ad (zQV below ([.ref (ad 0)] : List Value).toArray s D cs ad ((mE ki ad) G9 tr9)) 45 [(0, .ref (ad 0))] [] ((mE ki ad) G tr) := by
    intro G tr h H locs ls X hl
    unfold fX5_notes_b45 at h
    refine lv_iconst (v := (0 : Int32)) S.1 S.2.1 dX5_notes_45 (by decide) ?_
    refine lv_istore_n (lv' := [(1, .int (0 : Int32)), (0, .ref (ad 0))]) S.1 S.2.1 dX5_notes_46 rfl hl (by decide) rfl (fun ls hl => ?_)
    exact L47 N (0 : Int32) G tr h _ _ _ X (lv_sub hl [1, 0] rfl)
  have b11 : ∀ (k11 : Int32 → zMem → Int64 → zR) (hk11 : ∀ (x1 : Int32) (G : zMem) (tr : Int64), k11 x1 G tr = some (r9, G9, tr9) → zAt p l e (headSpec wsX5_notes { frames := 0, cells := 0, slots := 0, locals := 0 }).room s m ([.ref (ad 0)] : List Value).toArray below meth c 2 D cs ad (zQV below ([.ref (ad 0)] : List Value).toArray s D cs ad ((mE ki ad) G9 tr9)) 11 [(0, .ref (ad 0)), (1, .int x1)] [] ((mE ki ad) G tr)) (x1 : Int32) (G : zMem) (tr : Int64), fX5_notes_b11 N k11 x1 G tr = some (r9, G9, tr9) → zAt p l e (headSpec wsX5_notes { frames := 0, cells := 0, slots := 0, locals := 0 }).room s m ([.ref (ad 0)] : List Value).toArray below meth c 2 D cs ad (zQV below ([.ref (ad 0)] : List Value).toArray s D cs ad ((mE ki ad) G9 tr9)) 11 [(0, .ref (ad 0)), (1, .int x1)] [] ((mE ki ad) G tr) := by
    intro k11 hk11 x1 G tr h H locs ls X hl
    unfold fX5_notes_b11 at h
    refine lv_iload_n S.1 S.2.1 dX5_notes_11 rfl (lv_at hl 1 rfl) ?_
    refine lv_sipush (v := (405 : Int32)) S.1 S.2.1 dX5_notes_12 (by decide) ?_
    refine lv_icmp_ge (tgt := 39) S.1 S.2.1 dX5_notes_15 (by decide) (fun hc_1 => ?_) (fun hc_1 => ?_)
    · have h := zif_pos hc_1 h
      refine lv_aload_n S.1 S.2.1 dX5_notes_39 rfl (lv_at hl 0 rfl) ?_
      refine lv_bipush (v := (9 : Int32)) S.1 S.2.1 dX5_notes_40 (by decide) ?_
      refine zr_put (xv := (9 : Int32)) (v := .int (9 : Int32)) (fsf := (fsR ad tr)) (ty := .int) S K X (hcs 0 (by decide)) mE_loc (fun _ => mE_R) rfl uX5_notes_X5 tyX5 tyX5_ok nmX5 18 (by decide) kX5_notes_113 rfl (by decide +kernel) rfl rfl (by simp) rfl dX5_notes_42 (fun H locs X => ?_)
      exact b45 (up2 G 0 18 (9 : Int32)) tr h _ _ _ X (lv_sub hl [0] rfl)
    · have h := zif_neg hc_1 h
      refine lv_aload_n S.1 S.2.1 dX5_notes_18 rfl (lv_at hl 0 rfl) ?_
      refine zr_get (v := .ref (ad 9)) S K X (hcs 0 (by decide)) mE_R rfl uX5_notes_X5 17 (by decide) kX5_notes_35 rfl rfl dX5_notes_19 ?_
      refine lv_iload_n S.1 S.2.1 dX5_notes_22 rfl (lv_at hl 1 rfl) ?_
      refine lv_aload_n S.1 S.2.1 dX5_notes_23 rfl (lv_at hl 0 rfl) ?_
      refine zr_get (v := .ref (ad 9)) S K X (hcs 0 (by decide)) mE_R rfl uX5_notes_X5 17 (by decide) kX5_notes_35 rfl rfl dX5_notes_24 ?_
      refine lv_iload_n S.1 S.2.1 dX5_notes_27 rfl (lv_at hl 1 rfl) ?_
      refine lv_bipush (v := (45 : Int32)) S.1 S.2.1 dX5_notes_28 (by decide) ?_
      refine lv_iadd S.1 S.2.1 dX5_notes_30 ?_
      obtain ⟨hi_2, h⟩ := zin_some h
      refine zr_iald S K X (hcs 9 (by decide)) mE_9 hi_2 dX5_notes_31 ?_
      obtain ⟨hi_3, h⟩ := zin_some h
      refine zr_iast S K X (hcs 9 (by decide)) mE_loc (fun _ => mE_9) hi_3 dX5_notes_32 (fun H locs X => ?_)
      refine lv_iinc (v := (x1 + 1)) (lv' := [(1, .int (x1 + 1)), (0, .ref (ad 0))]) S.1 S.2.1 dX5_notes_33 hl (k := 1) rfl rfl (by decide) rfl (fun ls hl => ?_)
      refine lv_goto (tgt := 11) S.1 S.2.1 dX5_notes_36 (by decide) ?_
      exact hk11 (x1 + 1) (up2 G 9 (Int32.toNatClampNeg x1) (G 9 (Int32.toNatClampNeg (x1 + (45 : Int32))))) tr h _ _ _ X (lv_sub hl [1, 0] rfl)
  have L11 : ∀ (n : Nat) (x1 : Int32) (G : zMem) (tr : Int64), fX5_notes_L11 N n x1 G tr = some (r9, G9, tr9) → zAt p l e (headSpec wsX5_notes { frames := 0, cells := 0, slots := 0, locals := 0 }).room s m ([.ref (ad 0)] : List Value).toArray below meth c 2 D cs ad (zQV below ([.ref (ad 0)] : List Value).toArray s D cs ad ((mE ki ad) G9 tr9)) 11 [(0, .ref (ad 0)), (1, .int x1)] [] ((mE ki ad) G tr) := by
    intro n
    induction n with
    | zero => intro x1 G tr h; cases h
    | succ n ih => intro x1 G tr h; exact b11 (fX5_notes_L11 N n) ih x1 G tr h
  unfold fX5_notes at h
  obtain ⟨H, hH⟩ : ∃ H, H = s.heap := ⟨_, rfl⟩
  obtain ⟨locs, hlo⟩ : ∃ locs : List Loc, locs = [] := ⟨_, rfl⟩
  have X : gS D cs ad ((mE ki ad) G tr) (gA cs ad s.heap.size) s H locs := by rw [hH, hlo]; exact X
  suffices z : W p l e (headSpec wsX5_notes { frames := 0, cells := 0, slots := 0, locals := 0 }).room s m ([.ref (ad 0)] : List Value).toArray below meth c H locs 0 0 (zQV below ([.ref (ad 0)] : List Value).toArray s D cs ad ((mE ki ad) G9 tr9)) (F0 m 0 ls []) by rw [hH, hlo] at z; exact z
  clear hH hlo
  refine lv_aload_n S.1 S.2.1 dX5_notes_0 rfl (lv_at hl 0 rfl) ?_
  refine zr_get (v := .int (G 0 18)) S K X (hcs 0 (by decide)) mE_R rfl uX5_notes_X5 18 (by decide) kX5_notes_113 rfl rfl dX5_notes_1 ?_
  refine lv_bipush (v := (10 : Int32)) S.1 S.2.1 dX5_notes_4 (by decide) ?_
  refine lv_icmp_ne (tgt := 45) S.1 S.2.1 dX5_notes_6 (by decide) (fun hc_1 => ?_) (fun hc_1 => ?_)
  · have h := zif_neg hc_1 h
    exact b45 G tr h _ _ _ X (lv_sub hl [0] rfl)
  · have h := zif_pos hc_1 h
    refine lv_iconst (v := (0 : Int32)) S.1 S.2.1 dX5_notes_9 (by decide) ?_
    refine lv_istore_n (lv' := [(1, .int (0 : Int32)), (0, .ref (ad 0))]) S.1 S.2.1 dX5_notes_10 rfl hl (by decide) rfl (fun ls hl => ?_)
    exact L11 N (0 : Int32) G tr h _ _ _ X (lv_sub hl [1, 0] rfl)
theorem dX5_puts_0 : decode cX5_puts 0 = .ok (.aload_n 1, 1) := by decide +kernel
theorem dX5_puts_1 : decode cX5_puts 1 = .ok (.iload_n 2, 1) := by decide +kernel
theorem dX5_puts_2 : decode cX5_puts 2 = .ok (.iload 5, 2) := by decide +kernel
theorem dX5_puts_4 : decode cX5_puts 4 = .ok (.iastore, 1) := by decide +kernel
theorem dX5_puts_5 : decode cX5_puts 5 = .ok (.aload_n 1, 1) := by decide +kernel
theorem dX5_puts_6 : decode cX5_puts 6 = .ok (.iload_n 2, 1) := by decide +kernel
theorem dX5_puts_7 : decode cX5_puts 7 = .ok (.iconst 1, 1) := by decide +kernel
theorem dX5_puts_8 : decode cX5_puts 8 = .ok (.iadd, 1) := by decide +kernel
theorem dX5_puts_9 : decode cX5_puts 9 = .ok (.iload_n 3, 1) := by decide +kernel
theorem dX5_puts_10 : decode cX5_puts 10 = .ok (.iastore, 1) := by decide +kernel
theorem dX5_puts_11 : decode cX5_puts 11 = .ok (.aload_n 1, 1) := by decide +kernel
theorem dX5_puts_12 : decode cX5_puts 12 = .ok (.iload_n 2, 1) := by decide +kernel
theorem dX5_puts_13 : decode cX5_puts 13 = .ok (.iconst 2, 1) := by decide +kernel
theorem dX5_puts_14 : decode cX5_puts 14 = .ok (.iadd, 1) := by decide +kernel
theorem dX5_puts_15 : decode cX5_puts 15 = .ok (.iload 4, 2) := by decide +kernel
theorem dX5_puts_17 : decode cX5_puts 17 = .ok (.iastore, 1) := by decide +kernel
theorem dX5_puts_18 : decode cX5_puts 18 = .ok (.aload_n 1, 1) := by decide +kernel
theorem dX5_puts_19 : decode cX5_puts 19 = .ok (.iload_n 2, 1) := by decide +kernel
theorem dX5_puts_20 : decode cX5_puts 20 = .ok (.iconst 3, 1) := by decide +kernel
theorem dX5_puts_21 : decode cX5_puts 21 = .ok (.iadd, 1) := by decide +kernel
theorem dX5_puts_22 : decode cX5_puts 22 = .ok (.aload_n 0, 1) := by decide +kernel
theorem dX5_puts_23 : decode cX5_puts 23 = .ok (.getfield 16, 3) := by decide +kernel
theorem dX5_puts_26 : decode cX5_puts 26 = .ok (.iload_n 3, 1) := by decide +kernel
theorem dX5_puts_27 : decode cX5_puts 27 = .ok (.iaload, 1) := by decide +kernel
theorem dX5_puts_28 : decode cX5_puts 28 = .ok (.iastore, 1) := by decide +kernel
theorem dX5_puts_29 : decode cX5_puts 29 = .ok (.aload_n 1, 1) := by decide +kernel
theorem dX5_puts_30 : decode cX5_puts 30 = .ok (.iload_n 2, 1) := by decide +kernel
theorem dX5_puts_31 : decode cX5_puts 31 = .ok (.iconst 4, 1) := by decide +kernel
theorem dX5_puts_32 : decode cX5_puts 32 = .ok (.iadd, 1) := by decide +kernel
theorem dX5_puts_33 : decode cX5_puts 33 = .ok (.iconst 1, 1) := by decide +kernel
theorem dX5_puts_34 : decode cX5_puts 34 = .ok (.iload_n 3, 1) := by decide +kernel
theorem dX5_puts_35 : decode cX5_puts 35 = .ok (.ishl, 1) := by decide +kernel
theorem dX5_puts_36 : decode cX5_puts 36 = .ok (.iastore, 1) := by decide +kernel
theorem dX5_puts_37 : decode cX5_puts 37 = .ok (.aload_n 1, 1) := by decide +kernel
theorem dX5_puts_38 : decode cX5_puts 38 = .ok (.iload_n 2, 1) := by decide +kernel
theorem dX5_puts_39 : decode cX5_puts 39 = .ok (.iconst 5, 1) := by decide +kernel
theorem dX5_puts_40 : decode cX5_puts 40 = .ok (.iadd, 1) := by decide +kernel
theorem dX5_puts_41 : decode cX5_puts 41 = .ok (.iconst 0, 1) := by decide +kernel
theorem dX5_puts_42 : decode cX5_puts 42 = .ok (.iastore, 1) := by decide +kernel
theorem dX5_puts_43 : decode cX5_puts 43 = .ok (.return_, 1) := by decide +kernel
set_option maxRecDepth 20000 in
theorem kX5_puts_16 : Cond.fieldLink RX5 16 "WindPostModel" "isles" "[I" ∈ wsX5_puts := by decide +kernel
set_option maxRecDepth 20000 in
theorem uX5_puts_X5 : ∀ w ∈ wsX50, w ∈ wsX5_puts := by decide +kernel
set_option maxHeartbeats 8000000 in
set_option maxRecDepth 100000 in
theorem mX5_puts (l : Launch) (D : va_G) (ki : Nat → ClassId) (ad : Nat → Nat) (cs : List Nat) (hcs : kR cs) (N : Nat) (a1 : Nat) (a2 : Int32) (a3 : Int32) (a4 : Int32) (a5 : Int32) (ha1 : kA cs a1) (G : zMem) (tr : Int64) : gMetV l D ki ad cs yX5_puts wsX5_puts { frames := 0, cells := 0, slots := 0, locals := 0 } [.ref (ad 0), .ref (ad a1), .int a2, .int a3, .int a4, .int a5] (mE ki ad) G tr (fX5_puts N a1 a2 a3 a4 a5 G tr) := by
  refine gMetV_of (cc := cX5_puts) (maxL := 6) (ret := none) (own := RX5) (by decide +kernel) rfl rfl (Nat.le_of_ble_eq_true rfl) ?_
  intro r9 G9 tr9 h p e s m below meth c S hr hlk K X ls hl
  have hl : lv_has ls 6 [(0, .ref (ad 0)), (1, .ref (ad a1)), (2, .int a2), (3, .int a3), (4, .int a4), (5, .int a5)] := hl
  unfold fX5_puts at h
  obtain ⟨H, hH⟩ : ∃ H, H = s.heap := ⟨_, rfl⟩
  obtain ⟨locs, hlo⟩ : ∃ locs : List Loc, locs = [] := ⟨_, rfl⟩
  have X : gS D cs ad ((mE ki ad) G tr) (gA cs ad s.heap.size) s H locs := by rw [hH, hlo]; exact X
  suffices z : W p l e (headSpec wsX5_puts { frames := 0, cells := 0, slots := 0, locals := 0 }).room s m ([.ref (ad 0), .ref (ad a1), .int a2, .int a3, .int a4, .int a5] : List Value).toArray below meth c H locs 0 0 (zQV below ([.ref (ad 0), .ref (ad a1), .int a2, .int a3, .int a4, .int a5] : List Value).toArray s D cs ad ((mE ki ad) G9 tr9)) (F0 m 0 ls []) by rw [hH, hlo] at z; exact z
  clear hH hlo
  refine lv_aload_n S.1 S.2.1 dX5_puts_0 rfl (lv_at hl 1 rfl) ?_
  refine lv_iload_n S.1 S.2.1 dX5_puts_1 rfl (lv_at hl 2 rfl) ?_
  refine lv_iload S.1 S.2.1 dX5_puts_2 (lv_at hl 5 rfl) ?_
  obtain ⟨hi_1, h⟩ := zin_some h
  refine zr_iast S K X ha1.2 mE_loc (fun _ => (mE_A ha1)) hi_1 dX5_puts_4 (fun H locs X => ?_)
  refine lv_aload_n S.1 S.2.1 dX5_puts_5 rfl (lv_at hl 1 rfl) ?_
  refine lv_iload_n S.1 S.2.1 dX5_puts_6 rfl (lv_at hl 2 rfl) ?_
  refine lv_iconst (v := (1 : Int32)) S.1 S.2.1 dX5_puts_7 (by decide) ?_
  refine lv_iadd S.1 S.2.1 dX5_puts_8 ?_
  refine lv_iload_n S.1 S.2.1 dX5_puts_9 rfl (lv_at hl 3 rfl) ?_
  obtain ⟨hi_2, h⟩ := zin_some h
  refine zr_iast S K X ha1.2 mE_loc (fun _ => (mE_A ha1)) hi_2 dX5_puts_10 (fun H locs X => ?_)
  refine lv_aload_n S.1 S.2.1 dX5_puts_11 rfl (lv_at hl 1 rfl) ?_
  refine lv_iload_n S.1 S.2.1 dX5_puts_12 rfl (lv_at hl 2 rfl) ?_
  refine lv_iconst (v := (2 : Int32)) S.1 S.2.1 dX5_puts_13 (by decide) ?_
  refine lv_iadd S.1 S.2.1 dX5_puts_14 ?_
  refine lv_iload S.1 S.2.1 dX5_puts_15 (lv_at hl 4 rfl) ?_
  obtain ⟨hi_3, h⟩ := zin_some h
  refine zr_iast S K X ha1.2 mE_loc (fun _ => (mE_A ha1)) hi_3 dX5_puts_17 (fun H locs X => ?_)
  refine lv_aload_n S.1 S.2.1 dX5_puts_18 rfl (lv_at hl 1 rfl) ?_
  refine lv_iload_n S.1 S.2.1 dX5_puts_19 rfl (lv_at hl 2 rfl) ?_
  refine lv_iconst (v := (3 : Int32)) S.1 S.2.1 dX5_puts_20 (by decide) ?_
  refine lv_iadd S.1 S.2.1 dX5_puts_21 ?_
  refine lv_aload_n S.1 S.2.1 dX5_puts_22 rfl (lv_at hl 0 rfl) ?_
  refine zr_get (v := .ref (ad 3)) S K X (hcs 0 (by decide)) mE_R rfl uX5_puts_X5 10 (by decide) kX5_puts_16 rfl rfl dX5_puts_23 ?_
  refine lv_iload_n S.1 S.2.1 dX5_puts_26 rfl (lv_at hl 3 rfl) ?_
  obtain ⟨hi_4, h⟩ := zin_some h
  refine zr_iald S K X (hcs 3 (by decide)) mE_3 hi_4 dX5_puts_27 ?_
  obtain ⟨hi_5, h⟩ := zin_some h
  refine zr_iast S K X ha1.2 mE_loc (fun _ => (mE_A ha1)) hi_5 dX5_puts_28 (fun H locs X => ?_)
  refine lv_aload_n S.1 S.2.1 dX5_puts_29 rfl (lv_at hl 1 rfl) ?_
  refine lv_iload_n S.1 S.2.1 dX5_puts_30 rfl (lv_at hl 2 rfl) ?_
  refine lv_iconst (v := (4 : Int32)) S.1 S.2.1 dX5_puts_31 (by decide) ?_
  refine lv_iadd S.1 S.2.1 dX5_puts_32 ?_
  refine lv_iconst (v := (1 : Int32)) S.1 S.2.1 dX5_puts_33 (by decide) ?_
  refine lv_iload_n S.1 S.2.1 dX5_puts_34 rfl (lv_at hl 3 rfl) ?_
  refine lv_ishl S.1 S.2.1 dX5_puts_35 ?_
  obtain ⟨hi_6, h⟩ := zin_some h
  refine zr_iast S K X ha1.2 mE_loc (fun _ => (mE_A ha1)) hi_6 dX5_puts_36 (fun H locs X => ?_)
  refine lv_aload_n S.1 S.2.1 dX5_puts_37 rfl (lv_at hl 1 rfl) ?_
  refine lv_iload_n S.1 S.2.1 dX5_puts_38 rfl (lv_at hl 2 rfl) ?_
  refine lv_iconst (v := (5 : Int32)) S.1 S.2.1 dX5_puts_39 (by decide) ?_
  refine lv_iadd S.1 S.2.1 dX5_puts_40 ?_
  refine lv_iconst (v := (0 : Int32)) S.1 S.2.1 dX5_puts_41 (by decide) ?_
  obtain ⟨hi_7, h⟩ := zin_some h
  refine zr_iast S K X ha1.2 mE_loc (fun _ => (mE_A ha1)) hi_7 dX5_puts_42 (fun H locs X => ?_)
  exact zr_vret S hr hlk X h dX5_puts_43
set_option maxRecDepth 20000 in
theorem ggX5_areTwo_X5_isIsle : GoodIn wsX5_areTwo wsX5_isIsle := goodIn_r _ [5, 6, 7, 8, 4, 9, 10, 11, 12, 13, 14, 15, 16, 17, 18, 19, 20, 21, 22, 23, 24, 25, 26, 27, 28, 29, 30, 31] (by decide +kernel) (by decide +kernel)
set_option maxRecDepth 20000 in
theorem gX5_areTwo_X5_isIsle : GoodIn wsX5_areTwo (wsV RX5 116 RX5 yX5_isIsle wsX5_isIsle) := goodIn_app (goodIn_of _ (by decide +kernel)) ggX5_areTwo_X5_isIsle
theorem dX5_areTwo_0 : decode cX5_areTwo 0 = .ok (.aload_n 0, 1) := by decide +kernel
theorem dX5_areTwo_1 : decode cX5_areTwo 1 = .ok (.iload_n 1, 1) := by decide +kernel
theorem dX5_areTwo_2 : decode cX5_areTwo 2 = .ok (.invokevirtual 116, 3) := by decide +kernel
theorem dX5_areTwo_5 : decode cX5_areTwo 5 = .ok (.ifCond .eq 20, 3) := by decide +kernel
theorem dX5_areTwo_8 : decode cX5_areTwo 8 = .ok (.aload_n 0, 1) := by decide +kernel
theorem dX5_areTwo_9 : decode cX5_areTwo 9 = .ok (.iload_n 2, 1) := by decide +kernel
theorem dX5_areTwo_10 : decode cX5_areTwo 10 = .ok (.invokevirtual 116, 3) := by decide +kernel
theorem dX5_areTwo_13 : decode cX5_areTwo 13 = .ok (.ifCond .eq 12, 3) := by decide +kernel
theorem dX5_areTwo_16 : decode cX5_areTwo 16 = .ok (.iload_n 1, 1) := by decide +kernel
theorem dX5_areTwo_17 : decode cX5_areTwo 17 = .ok (.iload_n 2, 1) := by decide +kernel
theorem dX5_areTwo_18 : decode cX5_areTwo 18 = .ok (.if_icmp .eq 7, 3) := by decide +kernel
theorem dX5_areTwo_21 : decode cX5_areTwo 21 = .ok (.iconst 1, 1) := by decide +kernel
theorem dX5_areTwo_22 : decode cX5_areTwo 22 = .ok (.goto 4, 3) := by decide +kernel
theorem dX5_areTwo_25 : decode cX5_areTwo 25 = .ok (.iconst 0, 1) := by decide +kernel
theorem dX5_areTwo_26 : decode cX5_areTwo 26 = .ok (.ireturn, 1) := by decide +kernel

set_option maxHeartbeats 8000000 in
set_option maxRecDepth 100000 in
theorem mX5_areTwo (l : Launch) (D : va_G) (ki : Nat → ClassId) (ad : Nat → Nat) (cs : List Nat) (hcs : kR cs) (N : Nat) (a1 : Int32) (a2 : Int32) (G : zMem) (tr : Int64) : gMetI l D ki ad cs yX5_areTwo wsX5_areTwo { frames := 2, cells := 0, slots := 0, locals := 43 } [.ref (ad 0), .int a1, .int a2] (mE ki ad) G tr (fX5_areTwo N a1 a2 G tr) := by
  refine gMetI_of (cc := cX5_areTwo) (maxL := 3) (ret := (some .boolean)) (own := RX5) (by decide +kernel) rfl rfl (Nat.le_of_ble_eq_true rfl) ?_
  intro r9 G9 tr9 h p e s m below meth c S hr hlk K X ls hl
  have hl : lv_has ls 3 [(0, .ref (ad 0)), (1, .int a1), (2, .int a2)] := hl
  unfold fX5_areTwo at h
  obtain ⟨H, hH⟩ : ∃ H, H = s.heap := ⟨_, rfl⟩
  obtain ⟨locs, hlo⟩ : ∃ locs : List Loc, locs = [] := ⟨_, rfl⟩
  have X : gS D cs ad ((mE ki ad) G tr) (gA cs ad s.heap.size) s H locs := by rw [hH, hlo]; exact X
  suffices z : W p l e (headSpec wsX5_areTwo { frames := 2, cells := 0, slots := 0, locals := 43 }).room s m ([.ref (ad 0), .int a1, .int a2] : List Value).toArray below meth c H locs 0 0 (zQI below ([.ref (ad 0), .int a1, .int a2] : List Value).toArray s D cs ad ((mE ki ad) G9 tr9) r9) (F0 m 0 ls []) by rw [hH, hlo] at z; exact z
  clear hH hlo
  refine lv_aload_n S.1 S.2.1 dX5_areTwo_0 rfl (lv_at hl 0 rfl) ?_
  refine lv_iload_n S.1 S.2.1 dX5_areTwo_1 rfl (lv_at hl 1 rfl) ?_
  obtain ⟨r_2, G_3, tr_4, hf_1, h⟩ := zbd_some h
  refine zr_calli (Eg := (mE ki ad)) K X (va_runV (As := [.int a1]) (rest := []) S (mX5_isIsle l D ki ad cs hcs N a1 G tr H.size _ _ _ hf_1) (cwV 1 S.2.2.2.2 gX5_areTwo_X5_isIsle rfl rfl rfl (by decide +kernel) ⟨Nat.le_of_ble_eq_true rfl, Nat.le_of_ble_eq_true rfl⟩) (zr_preV (c0 := 0) K X (hcs 0 (by decide)) mE_R rfl) rfl rfl hl.1 rfl (lv_room (Nat.le_of_ble_eq_true rfl)) dX5_areTwo_2 ⟨Nat.zero_le _, Nat.zero_le _⟩) (fun H locs X => ?_)
  refine lv_if_eq (tgt := 25) S.1 S.2.1 dX5_areTwo_5 (by decide) (fun hc_5 => ?_) (fun hc_5 => ?_)
  · have h := zif_pos hc_5 h
    refine lv_iconst (v := (0 : Int32)) S.1 S.2.1 dX5_areTwo_25 (by decide) ?_
    exact zr_zret S hr hlk X h dX5_areTwo_26
  · have h := zif_neg hc_5 h
    refine lv_aload_n S.1 S.2.1 dX5_areTwo_8 rfl (lv_at hl 0 rfl) ?_
    refine lv_iload_n S.1 S.2.1 dX5_areTwo_9 rfl (lv_at hl 2 rfl) ?_
    obtain ⟨r_7, G_8, tr_9, hf_6, h⟩ := zbd_some h
    refine zr_calli (Eg := (mE ki ad)) K X (va_runV (As := [.int a2]) (rest := []) S (mX5_isIsle l D ki ad cs hcs N a2 G_3 tr_4 H.size _ _ _ hf_6) (cwV 1 S.2.2.2.2 gX5_areTwo_X5_isIsle rfl rfl rfl (by decide +kernel) ⟨Nat.le_of_ble_eq_true rfl, Nat.le_of_ble_eq_true rfl⟩) (zr_preV (c0 := 0) K X (hcs 0 (by decide)) mE_R rfl) rfl rfl hl.1 rfl (lv_room (Nat.le_of_ble_eq_true rfl)) dX5_areTwo_10 ⟨Nat.zero_le _, Nat.zero_le _⟩) (fun H locs X => ?_)
    refine lv_if_eq (tgt := 25) S.1 S.2.1 dX5_areTwo_13 (by decide) (fun hc_10 => ?_) (fun hc_10 => ?_)
    · have h := zif_pos hc_10 h
      refine lv_iconst (v := (0 : Int32)) S.1 S.2.1 dX5_areTwo_25 (by decide) ?_
      exact zr_zret S hr hlk X h dX5_areTwo_26
    · have h := zif_neg hc_10 h
      refine lv_iload_n S.1 S.2.1 dX5_areTwo_16 rfl (lv_at hl 1 rfl) ?_
      refine lv_iload_n S.1 S.2.1 dX5_areTwo_17 rfl (lv_at hl 2 rfl) ?_
      refine lv_icmp_eq (tgt := 25) S.1 S.2.1 dX5_areTwo_18 (by decide) (fun hc_11 => ?_) (fun hc_11 => ?_)
      · have h := zif_pos hc_11 h
        refine lv_iconst (v := (0 : Int32)) S.1 S.2.1 dX5_areTwo_25 (by decide) ?_
        exact zr_zret S hr hlk X h dX5_areTwo_26
      · have h := zif_neg hc_11 h
        refine lv_iconst (v := (1 : Int32)) S.1 S.2.1 dX5_areTwo_21 (by decide) ?_
        refine lv_goto (tgt := 26) S.1 S.2.1 dX5_areTwo_22 (by decide) ?_
        exact zr_zret S hr hlk X h dX5_areTwo_26
set_option maxRecDepth 20000 in
theorem ggX5_lets_X5_areTwo : GoodIn wsX5_lets wsX5_areTwo := goodIn_r _ [7, 8, 9, 10, 6, 11, 12, 13, 14, 15, 27, 28, 29, 30, 31, 32, 33, 34, 35, 36, 37, 38, 39, 40, 41, 42, 43, 44, 45, 46, 47, 48] (by decide +kernel) (by decide +kernel)
set_option maxRecDepth 20000 in
theorem gX5_lets_X5_areTwo : GoodIn wsX5_lets (wsV RX5 131 RX5 yX5_areTwo wsX5_areTwo) := goodIn_app (goodIn_of _ (by decide +kernel)) ggX5_lets_X5_areTwo
set_option maxRecDepth 20000 in
theorem ggX5_lets_X5_in : GoodIn wsX5_lets wsX5_in := goodIn_r _ [15] (by decide +kernel) (by decide +kernel)
set_option maxRecDepth 20000 in
theorem gX5_lets_X5_in : GoodIn wsX5_lets (va_wsS RX5 51 yX5_in wsX5_in) := goodIn_app (goodIn_of _ (by decide +kernel)) ggX5_lets_X5_in
set_option maxRecDepth 20000 in
theorem ggX5_lets_X5_notes : GoodIn wsX5_lets wsX5_notes := goodIn_r _ [19, 20, 21, 2, 27, 28, 29, 30, 31, 32, 33, 34, 35, 36, 37, 38, 39, 40, 41, 42, 43, 44, 45, 46, 47, 48] (by decide +kernel) (by decide +kernel)
set_option maxRecDepth 20000 in
theorem gX5_lets_X5_notes : GoodIn wsX5_lets (wsV RX5 135 RX5 yX5_notes wsX5_notes) := goodIn_app (goodIn_of _ (by decide +kernel)) ggX5_lets_X5_notes
set_option maxRecDepth 20000 in
theorem ggX5_lets_X5_puts : GoodIn wsX5_lets wsX5_puts := goodIn_r _ [25, 26, 27, 28, 29, 30, 31, 32, 33, 34, 35, 36, 37, 38, 39, 40, 41, 42, 43, 44, 45, 46, 47, 48] (by decide +kernel) (by decide +kernel)
set_option maxRecDepth 20000 in
theorem gX5_lets_X5_puts : GoodIn wsX5_lets (wsV RX5 138 RX5 yX5_puts wsX5_puts) := goodIn_app (goodIn_of _ (by decide +kernel)) ggX5_lets_X5_puts
theorem dX5_lets_0 : decode cX5_lets 0 = .ok (.aload_n 0, 1) := by decide +kernel
theorem dX5_lets_1 : decode cX5_lets 1 = .ok (.iconst 0, 1) := by decide +kernel
theorem dX5_lets_2 : decode cX5_lets 2 = .ok (.putfield 47, 3) := by decide +kernel
theorem dX5_lets_5 : decode cX5_lets 5 = .ok (.aload_n 0, 1) := by decide +kernel
theorem dX5_lets_6 : decode cX5_lets 6 = .ok (.iload_n 1, 1) := by decide +kernel
theorem dX5_lets_7 : decode cX5_lets 7 = .ok (.iload_n 2, 1) := by decide +kernel
theorem dX5_lets_8 : decode cX5_lets 8 = .ok (.invokevirtual 131, 3) := by decide +kernel
theorem dX5_lets_11 : decode cX5_lets 11 = .ok (.ifCond .eq 12, 3) := by decide +kernel
theorem dX5_lets_14 : decode cX5_lets 14 = .ok (.iload_n 3, 1) := by decide +kernel
theorem dX5_lets_15 : decode cX5_lets 15 = .ok (.iconst 1, 1) := by decide +kernel
theorem dX5_lets_16 : decode cX5_lets 16 = .ok (.iconst 5, 1) := by decide +kernel
theorem dX5_lets_17 : decode cX5_lets 17 = .ok (.invokestatic 51, 3) := by decide +kernel
theorem dX5_lets_20 : decode cX5_lets 20 = .ok (.ifCond .ne 5, 3) := by decide +kernel
theorem dX5_lets_23 : decode cX5_lets 23 = .ok (.iconst (-1), 1) := by decide +kernel
theorem dX5_lets_24 : decode cX5_lets 24 = .ok (.ireturn, 1) := by decide +kernel
theorem dX5_lets_25 : decode cX5_lets 25 = .ok (.aload_n 0, 1) := by decide +kernel
theorem dX5_lets_26 : decode cX5_lets 26 = .ok (.getfield 25, 3) := by decide +kernel
theorem dX5_lets_29 : decode cX5_lets 29 = .ok (.iconst 1, 1) := by decide +kernel
theorem dX5_lets_30 : decode cX5_lets 30 = .ok (.iaload, 1) := by decide +kernel
theorem dX5_lets_31 : decode cX5_lets 31 = .ok (.iconst 5, 1) := by decide +kernel
theorem dX5_lets_32 : decode cX5_lets 32 = .ok (.if_icmp .ne 6, 3) := by decide +kernel
theorem dX5_lets_35 : decode cX5_lets 35 = .ok (.bipush (-3), 2) := by decide +kernel
theorem dX5_lets_37 : decode cX5_lets 37 = .ok (.ireturn, 1) := by decide +kernel
theorem dX5_lets_38 : decode cX5_lets 38 = .ok (.aload_n 0, 1) := by decide +kernel
theorem dX5_lets_39 : decode cX5_lets 39 = .ok (.invokevirtual 135, 3) := by decide +kernel
theorem dX5_lets_42 : decode cX5_lets 42 = .ok (.aload_n 0, 1) := by decide +kernel
theorem dX5_lets_43 : decode cX5_lets 43 = .ok (.aload_n 0, 1) := by decide +kernel
theorem dX5_lets_44 : decode cX5_lets 44 = .ok (.getfield 25, 3) := by decide +kernel
theorem dX5_lets_47 : decode cX5_lets 47 = .ok (.bipush 15, 2) := by decide +kernel
theorem dX5_lets_49 : decode cX5_lets 49 = .ok (.bipush 6, 2) := by decide +kernel
theorem dX5_lets_51 : decode cX5_lets 51 = .ok (.aload_n 0, 1) := by decide +kernel
theorem dX5_lets_52 : decode cX5_lets 52 = .ok (.getfield 25, 3) := by decide +kernel
theorem dX5_lets_55 : decode cX5_lets 55 = .ok (.iconst 1, 1) := by decide +kernel
theorem dX5_lets_56 : decode cX5_lets 56 = .ok (.iaload, 1) := by decide +kernel
theorem dX5_lets_57 : decode cX5_lets 57 = .ok (.imul, 1) := by decide +kernel
theorem dX5_lets_58 : decode cX5_lets 58 = .ok (.iadd, 1) := by decide +kernel
theorem dX5_lets_59 : decode cX5_lets 59 = .ok (.iload_n 1, 1) := by decide +kernel
theorem dX5_lets_60 : decode cX5_lets 60 = .ok (.iload_n 2, 1) := by decide +kernel
theorem dX5_lets_61 : decode cX5_lets 61 = .ok (.iload_n 3, 1) := by decide +kernel
theorem dX5_lets_62 : decode cX5_lets 62 = .ok (.invokevirtual 138, 3) := by decide +kernel
theorem dX5_lets_65 : decode cX5_lets 65 = .ok (.aload_n 0, 1) := by decide +kernel
theorem dX5_lets_66 : decode cX5_lets 66 = .ok (.getfield 25, 3) := by decide +kernel
theorem dX5_lets_69 : decode cX5_lets 69 = .ok (.iconst 1, 1) := by decide +kernel
theorem dX5_lets_70 : decode cX5_lets 70 = .ok (.dup2, 1) := by decide +kernel
theorem dX5_lets_71 : decode cX5_lets 71 = .ok (.iaload, 1) := by decide +kernel
theorem dX5_lets_72 : decode cX5_lets 72 = .ok (.iconst 1, 1) := by decide +kernel
theorem dX5_lets_73 : decode cX5_lets 73 = .ok (.iadd, 1) := by decide +kernel
theorem dX5_lets_74 : decode cX5_lets 74 = .ok (.iastore, 1) := by decide +kernel
theorem dX5_lets_75 : decode cX5_lets 75 = .ok (.aload_n 0, 1) := by decide +kernel
theorem dX5_lets_76 : decode cX5_lets 76 = .ok (.getfield 25, 3) := by decide +kernel
theorem dX5_lets_79 : decode cX5_lets 79 = .ok (.iconst 1, 1) := by decide +kernel
theorem dX5_lets_80 : decode cX5_lets 80 = .ok (.iaload, 1) := by decide +kernel
theorem dX5_lets_81 : decode cX5_lets 81 = .ok (.iconst 1, 1) := by decide +kernel
theorem dX5_lets_82 : decode cX5_lets 82 = .ok (.isub, 1) := by decide +kernel
theorem dX5_lets_83 : decode cX5_lets 83 = .ok (.ireturn, 1) := by decide +kernel
set_option maxRecDepth 20000 in
theorem kX5_lets_25 : Cond.fieldLink RX5 25 "WindPostModel" "s" "[I" ∈ wsX5_lets := by decide +kernel
set_option maxRecDepth 20000 in
theorem kX5_lets_47 : Cond.fieldLink RX5 47 "WindPostModel" "thrown" "I" ∈ wsX5_lets := by decide +kernel
set_option maxRecDepth 20000 in
theorem uX5_lets_X5 : ∀ w ∈ wsX50, w ∈ wsX5_lets := by decide +kernel
set_option maxHeartbeats 8000000 in
set_option maxRecDepth 100000 in
theorem mX5_lets (l : Launch) (D : va_G) (ki : Nat → ClassId) (ad : Nat → Nat) (cs : List Nat) (hcs : kR cs) (N : Nat) (a1 : Int32) (a2 : Int32) (a3 : Int32) (G : zMem) (tr : Int64) : gMetI l D ki ad cs yX5_lets wsX5_lets { frames := 3, cells := 0, slots := 0, locals := 65 } [.ref (ad 0), .int a1, .int a2, .int a3] (mE ki ad) G tr (fX5_lets N a1 a2 a3 G tr) := by
  refine gMetI_of (cc := cX5_lets) (maxL := 4) (ret := (some .int)) (own := RX5) (by decide +kernel) rfl rfl (Nat.le_of_ble_eq_true rfl) ?_
  intro r9 G9 tr9 h p e s m below meth c S hr hlk K X ls hl
  have hl : lv_has ls 4 [(0, .ref (ad 0)), (1, .int a1), (2, .int a2), (3, .int a3)] := hl
  unfold fX5_lets at h
  obtain ⟨H, hH⟩ : ∃ H, H = s.heap := ⟨_, rfl⟩
  obtain ⟨locs, hlo⟩ : ∃ locs : List Loc, locs = [] := ⟨_, rfl⟩
  have X : gS D cs ad ((mE ki ad) G tr) (gA cs ad s.heap.size) s H locs := by rw [hH, hlo]; exact X
  suffices z : W p l e (headSpec wsX5_lets { frames := 3, cells := 0, slots := 0, locals := 65 }).room s m ([.ref (ad 0), .int a1, .int a2, .int a3] : List Value).toArray below meth c H locs 0 0 (zQI below ([.ref (ad 0), .int a1, .int a2, .int a3] : List Value).toArray s D cs ad ((mE ki ad) G9 tr9) r9) (F0 m 0 ls []) by rw [hH, hlo] at z; exact z
  clear hH hlo
  refine lv_aload_n S.1 S.2.1 dX5_lets_0 rfl (lv_at hl 0 rfl) ?_
  refine lv_iconst (v := (0 : Int32)) S.1 S.2.1 dX5_lets_1 (by decide) ?_
  refine zr_put (xv := (0 : Int32)) (v := .int (0 : Int32)) (fsf := (fsR ad tr)) (ty := .int) S K X (hcs 0 (by decide)) mE_loc (fun _ => mE_R) rfl uX5_lets_X5 tyX5 tyX5_ok nmX5 0 (by decide) kX5_lets_47 rfl (by decide +kernel) rfl rfl (by simp) rfl dX5_lets_2 (fun H locs X => ?_)
  refine lv_aload_n S.1 S.2.1 dX5_lets_5 rfl (lv_at hl 0 rfl) ?_
  refine lv_iload_n S.1 S.2.1 dX5_lets_6 rfl (lv_at hl 1 rfl) ?_
  refine lv_iload_n S.1 S.2.1 dX5_lets_7 rfl (lv_at hl 2 rfl) ?_
  obtain ⟨r_2, G_3, tr_4, hf_1, h⟩ := zbd_some h
  refine zr_calli (Eg := (mE ki ad)) K X (va_runV (As := [.int a1, .int a2]) (rest := []) S (mX5_areTwo l D ki ad cs hcs N a1 a2 (up2 G 0 0 (0 : Int32)) tr H.size _ _ _ hf_1) (cwV 2 S.2.2.2.2 gX5_lets_X5_areTwo rfl rfl rfl (by decide +kernel) ⟨Nat.le_of_ble_eq_true rfl, Nat.le_of_ble_eq_true rfl⟩) (zr_preV (c0 := 0) K X (hcs 0 (by decide)) mE_R rfl) rfl rfl hl.1 rfl (lv_room (Nat.le_of_ble_eq_true rfl)) dX5_lets_8 ⟨Nat.zero_le _, Nat.zero_le _⟩) (fun H locs X => ?_)
  refine lv_if_eq (tgt := 23) S.1 S.2.1 dX5_lets_11 (by decide) (fun hc_5 => ?_) (fun hc_5 => ?_)
  · have h := zif_pos hc_5 h
    refine lv_iconst (v := (-1 : Int32)) S.1 S.2.1 dX5_lets_23 (by decide) ?_
    exact zr_iret S hr hlk X h dX5_lets_24
  · have h := zif_neg hc_5 h
    refine lv_iload_n S.1 S.2.1 dX5_lets_14 rfl (lv_at hl 3 rfl) ?_
    refine lv_iconst (v := (1 : Int32)) S.1 S.2.1 dX5_lets_15 (by decide) ?_
    refine lv_iconst (v := (5 : Int32)) S.1 S.2.1 dX5_lets_16 (by decide) ?_
    obtain ⟨r_7, hf_6, h⟩ := zbp_some h
    refine zr_calli (Eg := (mE ki ad)) (G' := G_3) (tr' := tr_4) K X (va_runS (As := [.int a3, .int (1 : Int32), .int (5 : Int32)]) (rest := []) S (mX5_in l D ki ad cs N a3 (1 : Int32) (5 : Int32) (mE ki ad) G_3 tr_4 H.size _ _ _ (zpu_of hf_6)) (va_cwS 3 S.2.2.2.2 gX5_lets_X5_in rfl rfl rfl (by decide +kernel) ⟨Nat.le_of_ble_eq_true rfl, Nat.le_of_ble_eq_true rfl⟩) (zr_pre K X) rfl rfl hl.1 rfl (lv_room (Nat.le_of_ble_eq_true rfl)) dX5_lets_17 ⟨Nat.zero_le _, Nat.zero_le _⟩) (fun H locs X => ?_)
    refine lv_if_ne (tgt := 25) S.1 S.2.1 dX5_lets_20 (by decide) (fun hc_8 => ?_) (fun hc_8 => ?_)
    · have h := zif_neg hc_8 h
      refine lv_aload_n S.1 S.2.1 dX5_lets_25 rfl (lv_at hl 0 rfl) ?_
      refine zr_get (v := .ref (ad 6)) S K X (hcs 0 (by decide)) mE_R rfl uX5_lets_X5 14 (by decide) kX5_lets_25 rfl rfl dX5_lets_26 ?_
      refine lv_iconst (v := (1 : Int32)) S.1 S.2.1 dX5_lets_29 (by decide) ?_
      obtain ⟨hi_9, h⟩ := zin_some h
      refine zr_iald S K X (hcs 6 (by decide)) mE_6 hi_9 dX5_lets_30 ?_
      refine lv_iconst (v := (5 : Int32)) S.1 S.2.1 dX5_lets_31 (by decide) ?_
      refine lv_icmp_ne (tgt := 38) S.1 S.2.1 dX5_lets_32 (by decide) (fun hc_10 => ?_) (fun hc_10 => ?_)
      · have h := zif_neg hc_10 h
        refine lv_aload_n S.1 S.2.1 dX5_lets_38 rfl (lv_at hl 0 rfl) ?_
        obtain ⟨r_12, G_13, tr_14, hf_11, h⟩ := zbd_some h
        refine zr_callv (Eg := (mE ki ad)) K X (va_runV (As := []) (rest := []) S (mX5_notes l D ki ad cs hcs N G_3 tr_4 H.size _ _ _ hf_11) (cwV 0 S.2.2.2.2 gX5_lets_X5_notes rfl rfl rfl (by decide +kernel) ⟨Nat.le_of_ble_eq_true rfl, Nat.le_of_ble_eq_true rfl⟩) (zr_preV (c0 := 0) K X (hcs 0 (by decide)) mE_R rfl) rfl rfl hl.1 rfl (lv_room (Nat.le_of_ble_eq_true rfl)) dX5_lets_39 ⟨Nat.zero_le _, Nat.zero_le _⟩) (fun H locs X => ?_)
        refine lv_aload_n S.1 S.2.1 dX5_lets_42 rfl (lv_at hl 0 rfl) ?_
        refine lv_aload_n S.1 S.2.1 dX5_lets_43 rfl (lv_at hl 0 rfl) ?_
        refine zr_get (v := .ref (ad 6)) S K X (hcs 0 (by decide)) mE_R rfl uX5_lets_X5 14 (by decide) kX5_lets_25 rfl rfl dX5_lets_44 ?_
        refine lv_bipush (v := (15 : Int32)) S.1 S.2.1 dX5_lets_47 (by decide) ?_
        refine lv_bipush (v := (6 : Int32)) S.1 S.2.1 dX5_lets_49 (by decide) ?_
        refine lv_aload_n S.1 S.2.1 dX5_lets_51 rfl (lv_at hl 0 rfl) ?_
        refine zr_get (v := .ref (ad 6)) S K X (hcs 0 (by decide)) mE_R rfl uX5_lets_X5 14 (by decide) kX5_lets_25 rfl rfl dX5_lets_52 ?_
        refine lv_iconst (v := (1 : Int32)) S.1 S.2.1 dX5_lets_55 (by decide) ?_
        obtain ⟨hi_15, h⟩ := zin_some h
        refine zr_iald S K X (hcs 6 (by decide)) mE_6 hi_15 dX5_lets_56 ?_
        refine lv_imul S.1 S.2.1 dX5_lets_57 ?_
        refine lv_iadd S.1 S.2.1 dX5_lets_58 ?_
        refine lv_iload_n S.1 S.2.1 dX5_lets_59 rfl (lv_at hl 1 rfl) ?_
        refine lv_iload_n S.1 S.2.1 dX5_lets_60 rfl (lv_at hl 2 rfl) ?_
        refine lv_iload_n S.1 S.2.1 dX5_lets_61 rfl (lv_at hl 3 rfl) ?_
        obtain ⟨r_17, G_18, tr_19, hf_16, h⟩ := zbd_some h
        refine zr_callv (Eg := (mE ki ad)) K X (va_runV (As := [.ref (ad 6), .int ((15 : Int32) + ((6 : Int32) * (G_13 6 (Int32.toNatClampNeg (1 : Int32))))), .int a1, .int a2, .int a3]) (rest := []) S (mX5_puts l D ki ad cs hcs N 6 ((15 : Int32) + ((6 : Int32) * (G_13 6 (Int32.toNatClampNeg (1 : Int32))))) a1 a2 a3 (kA_6 hcs) G_13 tr_14 H.size _ _ _ hf_16) (cwV 5 S.2.2.2.2 gX5_lets_X5_puts rfl rfl rfl (by decide +kernel) ⟨Nat.le_of_ble_eq_true rfl, Nat.le_of_ble_eq_true rfl⟩) (zr_preV (c0 := 0) K X (hcs 0 (by decide)) mE_R rfl) rfl rfl hl.1 rfl (lv_room (Nat.le_of_ble_eq_true rfl)) dX5_lets_62 ⟨Nat.zero_le _, Nat.zero_le _⟩) (fun H locs X => ?_)
        refine lv_aload_n S.1 S.2.1 dX5_lets_65 rfl (lv_at hl 0 rfl) ?_
        refine zr_get (v := .ref (ad 6)) S K X (hcs 0 (by decide)) mE_R rfl uX5_lets_X5 14 (by decide) kX5_lets_25 rfl rfl dX5_lets_66 ?_
        refine lv_iconst (v := (1 : Int32)) S.1 S.2.1 dX5_lets_69 (by decide) ?_
        refine lv_dup2_11 S.1 S.2.1 dX5_lets_70 rfl rfl ?_
        obtain ⟨hi_20, h⟩ := zin_some h
        refine zr_iald S K X (hcs 6 (by decide)) mE_6 hi_20 dX5_lets_71 ?_
        refine lv_iconst (v := (1 : Int32)) S.1 S.2.1 dX5_lets_72 (by decide) ?_
        refine lv_iadd S.1 S.2.1 dX5_lets_73 ?_
        obtain ⟨hi_21, h⟩ := zin_some h
        refine zr_iast S K X (hcs 6 (by decide)) mE_loc (fun _ => mE_6) hi_21 dX5_lets_74 (fun H locs X => ?_)
        refine lv_aload_n S.1 S.2.1 dX5_lets_75 rfl (lv_at hl 0 rfl) ?_
        refine zr_get (v := .ref (ad 6)) S K X (hcs 0 (by decide)) mE_R rfl uX5_lets_X5 14 (by decide) kX5_lets_25 rfl rfl dX5_lets_76 ?_
        refine lv_iconst (v := (1 : Int32)) S.1 S.2.1 dX5_lets_79 (by decide) ?_
        obtain ⟨hi_22, h⟩ := zin_some h
        refine zr_iald S K X (hcs 6 (by decide)) mE_6 hi_22 dX5_lets_80 ?_
        refine lv_iconst (v := (1 : Int32)) S.1 S.2.1 dX5_lets_81 (by decide) ?_
        refine lv_isub S.1 S.2.1 dX5_lets_82 ?_
        exact zr_iret S hr hlk X h dX5_lets_83
      · have h := zif_pos hc_10 h
        refine lv_bipush (v := (-3 : Int32)) S.1 S.2.1 dX5_lets_35 (by decide) ?_
        exact zr_iret S hr hlk X h dX5_lets_37
    · have h := zif_pos hc_8 h
      refine lv_iconst (v := (-1 : Int32)) S.1 S.2.1 dX5_lets_23 (by decide) ?_
      exact zr_iret S hr hlk X h dX5_lets_24
theorem dX5_beside_0 : decode cX5_beside 0 = .ok (.iload_n 1, 1) := by decide +kernel
theorem dX5_beside_1 : decode cX5_beside 1 = .ok (.aload_n 0, 1) := by decide +kernel
theorem dX5_beside_2 : decode cX5_beside 2 = .ok (.getfield 13, 3) := by decide +kernel
theorem dX5_beside_5 : decode cX5_beside 5 = .ok (.iconst 0, 1) := by decide +kernel
theorem dX5_beside_6 : decode cX5_beside 6 = .ok (.iaload, 1) := by decide +kernel
theorem dX5_beside_7 : decode cX5_beside 7 = .ok (.irem, 1) := by decide +kernel
theorem dX5_beside_8 : decode cX5_beside 8 = .ok (.istore_n 3, 1) := by decide +kernel
theorem dX5_beside_9 : decode cX5_beside 9 = .ok (.iload_n 1, 1) := by decide +kernel
theorem dX5_beside_10 : decode cX5_beside 10 = .ok (.aload_n 0, 1) := by decide +kernel
theorem dX5_beside_11 : decode cX5_beside 11 = .ok (.getfield 13, 3) := by decide +kernel
theorem dX5_beside_14 : decode cX5_beside 14 = .ok (.iconst 0, 1) := by decide +kernel
theorem dX5_beside_15 : decode cX5_beside 15 = .ok (.iaload, 1) := by decide +kernel
theorem dX5_beside_16 : decode cX5_beside 16 = .ok (.idiv, 1) := by decide +kernel
theorem dX5_beside_17 : decode cX5_beside 17 = .ok (.istore 4, 2) := by decide +kernel
theorem dX5_beside_19 : decode cX5_beside 19 = .ok (.iload_n 2, 1) := by decide +kernel
theorem dX5_beside_20 : decode cX5_beside 20 = .ok (.iconst 1, 1) := by decide +kernel
theorem dX5_beside_21 : decode cX5_beside 21 = .ok (.if_icmp .ne 16, 3) := by decide +kernel
theorem dX5_beside_24 : decode cX5_beside 24 = .ok (.iload_n 3, 1) := by decide +kernel
theorem dX5_beside_25 : decode cX5_beside 25 = .ok (.iconst 1, 1) := by decide +kernel
theorem dX5_beside_26 : decode cX5_beside 26 = .ok (.iadd, 1) := by decide +kernel
theorem dX5_beside_27 : decode cX5_beside 27 = .ok (.aload_n 0, 1) := by decide +kernel
theorem dX5_beside_28 : decode cX5_beside 28 = .ok (.getfield 13, 3) := by decide +kernel
theorem dX5_beside_31 : decode cX5_beside 31 = .ok (.iconst 0, 1) := by decide +kernel
theorem dX5_beside_32 : decode cX5_beside 32 = .ok (.iaload, 1) := by decide +kernel
theorem dX5_beside_33 : decode cX5_beside 33 = .ok (.irem, 1) := by decide +kernel
theorem dX5_beside_34 : decode cX5_beside 34 = .ok (.goto 29, 3) := by decide +kernel
theorem dX5_beside_37 : decode cX5_beside 37 = .ok (.iload_n 2, 1) := by decide +kernel
theorem dX5_beside_38 : decode cX5_beside 38 = .ok (.iconst 3, 1) := by decide +kernel
theorem dX5_beside_39 : decode cX5_beside 39 = .ok (.if_icmp .ne 23, 3) := by decide +kernel
theorem dX5_beside_42 : decode cX5_beside 42 = .ok (.iload_n 3, 1) := by decide +kernel
theorem dX5_beside_43 : decode cX5_beside 43 = .ok (.aload_n 0, 1) := by decide +kernel
theorem dX5_beside_44 : decode cX5_beside 44 = .ok (.getfield 13, 3) := by decide +kernel
theorem dX5_beside_47 : decode cX5_beside 47 = .ok (.iconst 0, 1) := by decide +kernel
theorem dX5_beside_48 : decode cX5_beside 48 = .ok (.iaload, 1) := by decide +kernel
theorem dX5_beside_49 : decode cX5_beside 49 = .ok (.iadd, 1) := by decide +kernel
theorem dX5_beside_50 : decode cX5_beside 50 = .ok (.iconst 1, 1) := by decide +kernel
theorem dX5_beside_51 : decode cX5_beside 51 = .ok (.isub, 1) := by decide +kernel
theorem dX5_beside_52 : decode cX5_beside 52 = .ok (.aload_n 0, 1) := by decide +kernel
theorem dX5_beside_53 : decode cX5_beside 53 = .ok (.getfield 13, 3) := by decide +kernel
theorem dX5_beside_56 : decode cX5_beside 56 = .ok (.iconst 0, 1) := by decide +kernel
theorem dX5_beside_57 : decode cX5_beside 57 = .ok (.iaload, 1) := by decide +kernel
theorem dX5_beside_58 : decode cX5_beside 58 = .ok (.irem, 1) := by decide +kernel
theorem dX5_beside_59 : decode cX5_beside 59 = .ok (.goto 4, 3) := by decide +kernel
theorem dX5_beside_62 : decode cX5_beside 62 = .ok (.iload_n 3, 1) := by decide +kernel
theorem dX5_beside_63 : decode cX5_beside 63 = .ok (.istore_n 3, 1) := by decide +kernel
theorem dX5_beside_64 : decode cX5_beside 64 = .ok (.iload_n 2, 1) := by decide +kernel
theorem dX5_beside_65 : decode cX5_beside 65 = .ok (.iconst 2, 1) := by decide +kernel
theorem dX5_beside_66 : decode cX5_beside 66 = .ok (.if_icmp .ne 17, 3) := by decide +kernel
theorem dX5_beside_69 : decode cX5_beside 69 = .ok (.iload 4, 2) := by decide +kernel
theorem dX5_beside_71 : decode cX5_beside 71 = .ok (.iconst 1, 1) := by decide +kernel
theorem dX5_beside_72 : decode cX5_beside 72 = .ok (.iadd, 1) := by decide +kernel
theorem dX5_beside_73 : decode cX5_beside 73 = .ok (.aload_n 0, 1) := by decide +kernel
theorem dX5_beside_74 : decode cX5_beside 74 = .ok (.getfield 13, 3) := by decide +kernel
theorem dX5_beside_77 : decode cX5_beside 77 = .ok (.iconst 1, 1) := by decide +kernel
theorem dX5_beside_78 : decode cX5_beside 78 = .ok (.iaload, 1) := by decide +kernel
theorem dX5_beside_79 : decode cX5_beside 79 = .ok (.irem, 1) := by decide +kernel
theorem dX5_beside_80 : decode cX5_beside 80 = .ok (.goto 30, 3) := by decide +kernel
theorem dX5_beside_83 : decode cX5_beside 83 = .ok (.iload_n 2, 1) := by decide +kernel
theorem dX5_beside_84 : decode cX5_beside 84 = .ok (.ifCond .ne 24, 3) := by decide +kernel
theorem dX5_beside_87 : decode cX5_beside 87 = .ok (.iload 4, 2) := by decide +kernel
theorem dX5_beside_89 : decode cX5_beside 89 = .ok (.aload_n 0, 1) := by decide +kernel
theorem dX5_beside_90 : decode cX5_beside 90 = .ok (.getfield 13, 3) := by decide +kernel
theorem dX5_beside_93 : decode cX5_beside 93 = .ok (.iconst 1, 1) := by decide +kernel
theorem dX5_beside_94 : decode cX5_beside 94 = .ok (.iaload, 1) := by decide +kernel
theorem dX5_beside_95 : decode cX5_beside 95 = .ok (.iadd, 1) := by decide +kernel
theorem dX5_beside_96 : decode cX5_beside 96 = .ok (.iconst 1, 1) := by decide +kernel
theorem dX5_beside_97 : decode cX5_beside 97 = .ok (.isub, 1) := by decide +kernel
theorem dX5_beside_98 : decode cX5_beside 98 = .ok (.aload_n 0, 1) := by decide +kernel
theorem dX5_beside_99 : decode cX5_beside 99 = .ok (.getfield 13, 3) := by decide +kernel
theorem dX5_beside_102 : decode cX5_beside 102 = .ok (.iconst 1, 1) := by decide +kernel
theorem dX5_beside_103 : decode cX5_beside 103 = .ok (.iaload, 1) := by decide +kernel
theorem dX5_beside_104 : decode cX5_beside 104 = .ok (.irem, 1) := by decide +kernel
theorem dX5_beside_105 : decode cX5_beside 105 = .ok (.goto 5, 3) := by decide +kernel
theorem dX5_beside_108 : decode cX5_beside 108 = .ok (.iload 4, 2) := by decide +kernel
theorem dX5_beside_110 : decode cX5_beside 110 = .ok (.istore 4, 2) := by decide +kernel
theorem dX5_beside_112 : decode cX5_beside 112 = .ok (.aload_n 0, 1) := by decide +kernel
theorem dX5_beside_113 : decode cX5_beside 113 = .ok (.getfield 13, 3) := by decide +kernel
theorem dX5_beside_116 : decode cX5_beside 116 = .ok (.iconst 0, 1) := by decide +kernel
theorem dX5_beside_117 : decode cX5_beside 117 = .ok (.iaload, 1) := by decide +kernel
theorem dX5_beside_118 : decode cX5_beside 118 = .ok (.iload 4, 2) := by decide +kernel
theorem dX5_beside_120 : decode cX5_beside 120 = .ok (.imul, 1) := by decide +kernel
theorem dX5_beside_121 : decode cX5_beside 121 = .ok (.iload_n 3, 1) := by decide +kernel
theorem dX5_beside_122 : decode cX5_beside 122 = .ok (.iadd, 1) := by decide +kernel
theorem dX5_beside_123 : decode cX5_beside 123 = .ok (.ireturn, 1) := by decide +kernel
set_option maxRecDepth 20000 in
theorem kX5_beside_13 : Cond.fieldLink RX5 13 "WindPostModel" "many" "[I" ∈ wsX5_beside := by decide +kernel
set_option maxRecDepth 20000 in
theorem uX5_beside_X5 : ∀ w ∈ wsX50, w ∈ wsX5_beside := by decide +kernel
set_option maxHeartbeats 8000000 in
set_option maxRecDepth 100000 in
theorem mX5_beside (l : Launch) (D : va_G) (ki : Nat → ClassId) (ad : Nat → Nat) (cs : List Nat) (hcs : kR cs) (N : Nat) (a1 : Int32) (a2 : Int32) (G : zMem) (tr : Int64) : gMetI l D ki ad cs yX5_beside wsX5_beside { frames := 0, cells := 0, slots := 0, locals := 0 } [.ref (ad 0), .int a1, .int a2] (mE ki ad) G tr (fX5_beside N a1 a2 G tr) := by
  refine gMetI_of (cc := cX5_beside) (maxL := 5) (ret := (some .int)) (own := RX5) (by decide +kernel) rfl rfl (Nat.le_of_ble_eq_true rfl) ?_
  intro r9 G9 tr9 h p e s m below meth c S hr hlk K X ls hl
  have hl : lv_has ls 5 [(0, .ref (ad 0)), (1, .int a1), (2, .int a2)] := hl
  have b110 : ∀ (x3 : Int32) (s0 : Int32) (G : zMem) (tr : Int64), fX5_beside_b110 N a1 a2 x3 s0 G tr = some (r9, G9, tr9) → zAt p l e (headSpec wsX5_beside { frames := 0, cells := 0, slots := 0, locals := 0 }).room s m ([.ref (ad 0), .int a1, .int a2] : List Value).toArray below meth c 5 D cs ad (zQI below ([.ref (ad 0), .int a1, .int a2] : List Value).toArray s D cs ad ((mE ki ad) G9 tr9) r9) 110 [(0, .ref (ad 0)), (3, .int x3)] [.int s0] ((mE ki ad) G tr) := by
    intro x3 s0 G tr h H locs ls X hl
    unfold fX5_beside_b110 at h
    refine lv_istore (lv' := [(4, .int s0), (0, .ref (ad 0)), (3, .int x3)]) S.1 S.2.1 dX5_beside_110 hl (by decide) rfl (fun ls hl => ?_)
    refine lv_aload_n S.1 S.2.1 dX5_beside_112 rfl (lv_at hl 1 rfl) ?_
    refine zr_get (v := .ref (ad 2)) S K X (hcs 0 (by decide)) mE_R rfl uX5_beside_X5 9 (by decide) kX5_beside_13 rfl rfl dX5_beside_113 ?_
    refine lv_iconst (v := (0 : Int32)) S.1 S.2.1 dX5_beside_116 (by decide) ?_
    obtain ⟨hi_1, h⟩ := zin_some h
    refine zr_iald S K X (hcs 2 (by decide)) mE_2 hi_1 dX5_beside_117 ?_
    refine lv_iload S.1 S.2.1 dX5_beside_118 (lv_at hl 0 rfl) ?_
    refine lv_imul S.1 S.2.1 dX5_beside_120 ?_
    refine lv_iload_n S.1 S.2.1 dX5_beside_121 rfl (lv_at hl 2 rfl) ?_
    refine lv_iadd S.1 S.2.1 dX5_beside_122 ?_
    exact zr_iret S hr hlk X h dX5_beside_123
  have b63 : ∀ (x4 : Int32) (s0 : Int32) (G : zMem) (tr : Int64), fX5_beside_b63 N a1 a2 x4 s0 G tr = some (r9, G9, tr9) → zAt p l e (headSpec wsX5_beside { frames := 0, cells := 0, slots := 0, locals := 0 }).room s m ([.ref (ad 0), .int a1, .int a2] : List Value).toArray below meth c 5 D cs ad (zQI below ([.ref (ad 0), .int a1, .int a2] : List Value).toArray s D cs ad ((mE ki ad) G9 tr9) r9) 63 [(0, .ref (ad 0)), (2, .int a2), (4, .int x4)] [.int s0] ((mE ki ad) G tr) := by
    intro x4 s0 G tr h H locs ls X hl
    unfold fX5_beside_b63 at h
    refine lv_istore_n (lv' := [(3, .int s0), (0, .ref (ad 0)), (2, .int a2), (4, .int x4)]) S.1 S.2.1 dX5_beside_63 rfl hl (by decide) rfl (fun ls hl => ?_)
    refine lv_iload_n S.1 S.2.1 dX5_beside_64 rfl (lv_at hl 2 rfl) ?_
    refine lv_iconst (v := (2 : Int32)) S.1 S.2.1 dX5_beside_65 (by decide) ?_
    refine lv_icmp_ne (tgt := 83) S.1 S.2.1 dX5_beside_66 (by decide) (fun hc_1 => ?_) (fun hc_1 => ?_)
    · have h := zif_neg hc_1 h
      refine lv_iload_n S.1 S.2.1 dX5_beside_83 rfl (lv_at hl 2 rfl) ?_
      refine lv_if_ne (tgt := 108) S.1 S.2.1 dX5_beside_84 (by decide) (fun hc_2 => ?_) (fun hc_2 => ?_)
      · have h := zif_neg hc_2 h
        refine lv_iload S.1 S.2.1 dX5_beside_108 (lv_at hl 3 rfl) ?_
        exact b110 s0 x4 G tr h _ _ _ X (lv_sub hl [1, 0] rfl)
      · have h := zif_pos hc_2 h
        refine lv_iload S.1 S.2.1 dX5_beside_87 (lv_at hl 3 rfl) ?_
        refine lv_aload_n S.1 S.2.1 dX5_beside_89 rfl (lv_at hl 1 rfl) ?_
        refine zr_get (v := .ref (ad 2)) S K X (hcs 0 (by decide)) mE_R rfl uX5_beside_X5 9 (by decide) kX5_beside_13 rfl rfl dX5_beside_90 ?_
        refine lv_iconst (v := (1 : Int32)) S.1 S.2.1 dX5_beside_93 (by decide) ?_
        obtain ⟨hi_3, h⟩ := zin_some h
        refine zr_iald S K X (hcs 2 (by decide)) mE_2 hi_3 dX5_beside_94 ?_
        refine lv_iadd S.1 S.2.1 dX5_beside_95 ?_
        refine lv_iconst (v := (1 : Int32)) S.1 S.2.1 dX5_beside_96 (by decide) ?_
        refine lv_isub S.1 S.2.1 dX5_beside_97 ?_
        refine lv_aload_n S.1 S.2.1 dX5_beside_98 rfl (lv_at hl 1 rfl) ?_
        refine zr_get (v := .ref (ad 2)) S K X (hcs 0 (by decide)) mE_R rfl uX5_beside_X5 9 (by decide) kX5_beside_13 rfl rfl dX5_beside_99 ?_
        refine lv_iconst (v := (1 : Int32)) S.1 S.2.1 dX5_beside_102 (by decide) ?_
        obtain ⟨hi_4, h⟩ := zin_some h
        refine zr_iald S K X (hcs 2 (by decide)) mE_2 hi_4 dX5_beside_103 ?_
        obtain ⟨hz_5, h⟩ := zdv_some h
        refine lv_irem S.1 S.2.1 dX5_beside_104 hz_5 ?_
        refine lv_goto (tgt := 110) S.1 S.2.1 dX5_beside_105 (by decide) ?_
        exact b110 s0 (((x4 + (G 2 (Int32.toNatClampNeg (1 : Int32)))) - (1 : Int32)) - ((x4 + (G 2 (Int32.toNatClampNeg (1 : Int32)))) - (1 : Int32)) / (G 2 (Int32.toNatClampNeg (1 : Int32))) * (G 2 (Int32.toNatClampNeg (1 : Int32)))) G tr h _ _ _ X (lv_sub hl [1, 0] rfl)
    · have h := zif_pos hc_1 h
      refine lv_iload S.1 S.2.1 dX5_beside_69 (lv_at hl 3 rfl) ?_
      refine lv_iconst (v := (1 : Int32)) S.1 S.2.1 dX5_beside_71 (by decide) ?_
      refine lv_iadd S.1 S.2.1 dX5_beside_72 ?_
      refine lv_aload_n S.1 S.2.1 dX5_beside_73 rfl (lv_at hl 1 rfl) ?_
      refine zr_get (v := .ref (ad 2)) S K X (hcs 0 (by decide)) mE_R rfl uX5_beside_X5 9 (by decide) kX5_beside_13 rfl rfl dX5_beside_74 ?_
      refine lv_iconst (v := (1 : Int32)) S.1 S.2.1 dX5_beside_77 (by decide) ?_
      obtain ⟨hi_6, h⟩ := zin_some h
      refine zr_iald S K X (hcs 2 (by decide)) mE_2 hi_6 dX5_beside_78 ?_
      obtain ⟨hz_7, h⟩ := zdv_some h
      refine lv_irem S.1 S.2.1 dX5_beside_79 hz_7 ?_
      refine lv_goto (tgt := 110) S.1 S.2.1 dX5_beside_80 (by decide) ?_
      exact b110 s0 ((x4 + (1 : Int32)) - (x4 + (1 : Int32)) / (G 2 (Int32.toNatClampNeg (1 : Int32))) * (G 2 (Int32.toNatClampNeg (1 : Int32)))) G tr h _ _ _ X (lv_sub hl [1, 0] rfl)
  unfold fX5_beside at h
  obtain ⟨H, hH⟩ : ∃ H, H = s.heap := ⟨_, rfl⟩
  obtain ⟨locs, hlo⟩ : ∃ locs : List Loc, locs = [] := ⟨_, rfl⟩
  have X : gS D cs ad ((mE ki ad) G tr) (gA cs ad s.heap.size) s H locs := by rw [hH, hlo]; exact X
  suffices z : W p l e (headSpec wsX5_beside { frames := 0, cells := 0, slots := 0, locals := 0 }).room s m ([.ref (ad 0), .int a1, .int a2] : List Value).toArray below meth c H locs 0 0 (zQI below ([.ref (ad 0), .int a1, .int a2] : List Value).toArray s D cs ad ((mE ki ad) G9 tr9) r9) (F0 m 0 ls []) by rw [hH, hlo] at z; exact z
  clear hH hlo
  refine lv_iload_n S.1 S.2.1 dX5_beside_0 rfl (lv_at hl 1 rfl) ?_
  refine lv_aload_n S.1 S.2.1 dX5_beside_1 rfl (lv_at hl 0 rfl) ?_
  refine zr_get (v := .ref (ad 2)) S K X (hcs 0 (by decide)) mE_R rfl uX5_beside_X5 9 (by decide) kX5_beside_13 rfl rfl dX5_beside_2 ?_
  refine lv_iconst (v := (0 : Int32)) S.1 S.2.1 dX5_beside_5 (by decide) ?_
  obtain ⟨hi_1, h⟩ := zin_some h
  refine zr_iald S K X (hcs 2 (by decide)) mE_2 hi_1 dX5_beside_6 ?_
  obtain ⟨hz_2, h⟩ := zdv_some h
  refine lv_irem S.1 S.2.1 dX5_beside_7 hz_2 ?_
  refine lv_istore_n (lv' := [(3, .int (a1 - a1 / (G 2 (Int32.toNatClampNeg (0 : Int32))) * (G 2 (Int32.toNatClampNeg (0 : Int32))))), (0, .ref (ad 0)), (1, .int a1), (2, .int a2)]) S.1 S.2.1 dX5_beside_8 rfl hl (by decide) rfl (fun ls hl => ?_)
  refine lv_iload_n S.1 S.2.1 dX5_beside_9 rfl (lv_at hl 2 rfl) ?_
  refine lv_aload_n S.1 S.2.1 dX5_beside_10 rfl (lv_at hl 1 rfl) ?_
  refine zr_get (v := .ref (ad 2)) S K X (hcs 0 (by decide)) mE_R rfl uX5_beside_X5 9 (by decide) kX5_beside_13 rfl rfl dX5_beside_11 ?_
  refine lv_iconst (v := (0 : Int32)) S.1 S.2.1 dX5_beside_14 (by decide) ?_
  obtain ⟨hi_3, h⟩ := zin_some h
  refine zr_iald S K X (hcs 2 (by decide)) mE_2 hi_3 dX5_beside_15 ?_
  obtain ⟨hz_4, h⟩ := zdv_some h
  refine lv_idiv S.1 S.2.1 dX5_beside_16 hz_4 ?_
  refine lv_istore (lv' := [(4, .int (a1 / (G 2 (Int32.toNatClampNeg (0 : Int32))))), (3, .int (a1 - a1 / (G 2 (Int32.toNatClampNeg (0 : Int32))) * (G 2 (Int32.toNatClampNeg (0 : Int32))))), (0, .ref (ad 0)), (1, .int a1), (2, .int a2)]) S.1 S.2.1 dX5_beside_17 hl (by decide) rfl (fun ls hl => ?_)
  refine lv_iload_n S.1 S.2.1 dX5_beside_19 rfl (lv_at hl 4 rfl) ?_
  refine lv_iconst (v := (1 : Int32)) S.1 S.2.1 dX5_beside_20 (by decide) ?_
  refine lv_icmp_ne (tgt := 37) S.1 S.2.1 dX5_beside_21 (by decide) (fun hc_5 => ?_) (fun hc_5 => ?_)
  · have h := zif_neg hc_5 h
    refine lv_iload_n S.1 S.2.1 dX5_beside_37 rfl (lv_at hl 4 rfl) ?_
    refine lv_iconst (v := (3 : Int32)) S.1 S.2.1 dX5_beside_38 (by decide) ?_
    refine lv_icmp_ne (tgt := 62) S.1 S.2.1 dX5_beside_39 (by decide) (fun hc_6 => ?_) (fun hc_6 => ?_)
    · have h := zif_neg hc_6 h
      refine lv_iload_n S.1 S.2.1 dX5_beside_62 rfl (lv_at hl 1 rfl) ?_
      exact b63 (a1 / (G 2 (Int32.toNatClampNeg (0 : Int32)))) (a1 - a1 / (G 2 (Int32.toNatClampNeg (0 : Int32))) * (G 2 (Int32.toNatClampNeg (0 : Int32)))) G tr h _ _ _ X (lv_sub hl [2, 4, 0] rfl)
    · have h := zif_pos hc_6 h
      refine lv_iload_n S.1 S.2.1 dX5_beside_42 rfl (lv_at hl 1 rfl) ?_
      refine lv_aload_n S.1 S.2.1 dX5_beside_43 rfl (lv_at hl 2 rfl) ?_
      refine zr_get (v := .ref (ad 2)) S K X (hcs 0 (by decide)) mE_R rfl uX5_beside_X5 9 (by decide) kX5_beside_13 rfl rfl dX5_beside_44 ?_
      refine lv_iconst (v := (0 : Int32)) S.1 S.2.1 dX5_beside_47 (by decide) ?_
      obtain ⟨hi_7, h⟩ := zin_some h
      refine zr_iald S K X (hcs 2 (by decide)) mE_2 hi_7 dX5_beside_48 ?_
      refine lv_iadd S.1 S.2.1 dX5_beside_49 ?_
      refine lv_iconst (v := (1 : Int32)) S.1 S.2.1 dX5_beside_50 (by decide) ?_
      refine lv_isub S.1 S.2.1 dX5_beside_51 ?_
      refine lv_aload_n S.1 S.2.1 dX5_beside_52 rfl (lv_at hl 2 rfl) ?_
      refine zr_get (v := .ref (ad 2)) S K X (hcs 0 (by decide)) mE_R rfl uX5_beside_X5 9 (by decide) kX5_beside_13 rfl rfl dX5_beside_53 ?_
      refine lv_iconst (v := (0 : Int32)) S.1 S.2.1 dX5_beside_56 (by decide) ?_
      obtain ⟨hi_8, h⟩ := zin_some h
      refine zr_iald S K X (hcs 2 (by decide)) mE_2 hi_8 dX5_beside_57 ?_
      obtain ⟨hz_9, h⟩ := zdv_some h
      refine lv_irem S.1 S.2.1 dX5_beside_58 hz_9 ?_
      refine lv_goto (tgt := 63) S.1 S.2.1 dX5_beside_59 (by decide) ?_
      exact b63 (a1 / (G 2 (Int32.toNatClampNeg (0 : Int32)))) ((((a1 - a1 / (G 2 (Int32.toNatClampNeg (0 : Int32))) * (G 2 (Int32.toNatClampNeg (0 : Int32)))) + (G 2 (Int32.toNatClampNeg (0 : Int32)))) - (1 : Int32)) - (((a1 - a1 / (G 2 (Int32.toNatClampNeg (0 : Int32))) * (G 2 (Int32.toNatClampNeg (0 : Int32)))) + (G 2 (Int32.toNatClampNeg (0 : Int32)))) - (1 : Int32)) / (G 2 (Int32.toNatClampNeg (0 : Int32))) * (G 2 (Int32.toNatClampNeg (0 : Int32)))) G tr h _ _ _ X (lv_sub hl [2, 4, 0] rfl)
  · have h := zif_pos hc_5 h
    refine lv_iload_n S.1 S.2.1 dX5_beside_24 rfl (lv_at hl 1 rfl) ?_
    refine lv_iconst (v := (1 : Int32)) S.1 S.2.1 dX5_beside_25 (by decide) ?_
    refine lv_iadd S.1 S.2.1 dX5_beside_26 ?_
    refine lv_aload_n S.1 S.2.1 dX5_beside_27 rfl (lv_at hl 2 rfl) ?_
    refine zr_get (v := .ref (ad 2)) S K X (hcs 0 (by decide)) mE_R rfl uX5_beside_X5 9 (by decide) kX5_beside_13 rfl rfl dX5_beside_28 ?_
    refine lv_iconst (v := (0 : Int32)) S.1 S.2.1 dX5_beside_31 (by decide) ?_
    obtain ⟨hi_10, h⟩ := zin_some h
    refine zr_iald S K X (hcs 2 (by decide)) mE_2 hi_10 dX5_beside_32 ?_
    obtain ⟨hz_11, h⟩ := zdv_some h
    refine lv_irem S.1 S.2.1 dX5_beside_33 hz_11 ?_
    refine lv_goto (tgt := 63) S.1 S.2.1 dX5_beside_34 (by decide) ?_
    exact b63 (a1 / (G 2 (Int32.toNatClampNeg (0 : Int32)))) (((a1 - a1 / (G 2 (Int32.toNatClampNeg (0 : Int32))) * (G 2 (Int32.toNatClampNeg (0 : Int32)))) + (1 : Int32)) - ((a1 - a1 / (G 2 (Int32.toNatClampNeg (0 : Int32))) * (G 2 (Int32.toNatClampNeg (0 : Int32)))) + (1 : Int32)) / (G 2 (Int32.toNatClampNeg (0 : Int32))) * (G 2 (Int32.toNatClampNeg (0 : Int32)))) G tr h _ _ _ X (lv_sub hl [2, 4, 0] rfl)
set_option maxRecDepth 20000 in
theorem ggX5_blows_X5_beside : GoodIn wsX5_blows wsX5_beside := goodIn_r _ [6, 1, 17, 18, 19, 20, 21, 22, 23, 24, 25, 26, 27, 28, 29, 30, 31, 32, 33, 34, 35, 36, 37, 38] (by decide +kernel) (by decide +kernel)
set_option maxRecDepth 20000 in
theorem gX5_blows_X5_beside : GoodIn wsX5_blows (wsV RX5 142 RX5 yX5_beside wsX5_beside) := goodIn_app (goodIn_of _ (by decide +kernel)) ggX5_blows_X5_beside
set_option maxRecDepth 20000 in
theorem ggX5_blows_X5_isHill : GoodIn wsX5_blows wsX5_isHill := goodIn_r _ [10, 1, 11, 17, 18, 19, 20, 21, 22, 23, 24, 25, 26, 27, 28, 29, 30, 31, 32, 33, 34, 35, 36, 37, 38] (by decide +kernel) (by decide +kernel)
set_option maxRecDepth 20000 in
theorem gX5_blows_X5_isHill : GoodIn wsX5_blows (wsV RX5 119 RX5 yX5_isHill wsX5_isHill) := goodIn_app (goodIn_of _ (by decide +kernel)) ggX5_blows_X5_isHill
set_option maxRecDepth 20000 in
theorem ggX5_blows_X5_isleAt : GoodIn wsX5_blows wsX5_isleAt := goodIn_r _ [15, 1, 16, 17, 18, 19, 20, 21, 22, 23, 24, 25, 26, 27, 28, 29, 30, 31, 32, 33, 34, 35, 36, 37, 38] (by decide +kernel) (by decide +kernel)
set_option maxRecDepth 20000 in
theorem gX5_blows_X5_isleAt : GoodIn wsX5_blows (wsV RX5 122 RX5 yX5_isleAt wsX5_isleAt) := goodIn_app (goodIn_of _ (by decide +kernel)) ggX5_blows_X5_isleAt
theorem dX5_blows_0 : decode cX5_blows 0 = .ok (.iload_n 3, 1) := by decide +kernel
theorem dX5_blows_1 : decode cX5_blows 1 = .ok (.iconst 4, 1) := by decide +kernel
theorem dX5_blows_2 : decode cX5_blows 2 = .ok (.if_icmp .eq 11, 3) := by decide +kernel
theorem dX5_blows_5 : decode cX5_blows 5 = .ok (.aload_n 1, 1) := by decide +kernel
theorem dX5_blows_6 : decode cX5_blows 6 = .ok (.iload_n 2, 1) := by decide +kernel
theorem dX5_blows_7 : decode cX5_blows 7 = .ok (.iconst 5, 1) := by decide +kernel
theorem dX5_blows_8 : decode cX5_blows 8 = .ok (.iadd, 1) := by decide +kernel
theorem dX5_blows_9 : decode cX5_blows 9 = .ok (.iaload, 1) := by decide +kernel
theorem dX5_blows_10 : decode cX5_blows 10 = .ok (.ifCond .eq 7, 3) := by decide +kernel
theorem dX5_blows_13 : decode cX5_blows 13 = .ok (.iconst 0, 1) := by decide +kernel
theorem dX5_blows_14 : decode cX5_blows 14 = .ok (.goto 13, 3) := by decide +kernel
theorem dX5_blows_17 : decode cX5_blows 17 = .ok (.aload_n 0, 1) := by decide +kernel
theorem dX5_blows_18 : decode cX5_blows 18 = .ok (.getfield 13, 3) := by decide +kernel
theorem dX5_blows_21 : decode cX5_blows 21 = .ok (.iconst 5, 1) := by decide +kernel
theorem dX5_blows_22 : decode cX5_blows 22 = .ok (.iaload, 1) := by decide +kernel
theorem dX5_blows_23 : decode cX5_blows 23 = .ok (.aload_n 1, 1) := by decide +kernel
theorem dX5_blows_24 : decode cX5_blows 24 = .ok (.iload_n 2, 1) := by decide +kernel
theorem dX5_blows_25 : decode cX5_blows 25 = .ok (.iaload, 1) := by decide +kernel
theorem dX5_blows_26 : decode cX5_blows 26 = .ok (.isub, 1) := by decide +kernel
theorem dX5_blows_27 : decode cX5_blows 27 = .ok (.istore 5, 2) := by decide +kernel
theorem dX5_blows_29 : decode cX5_blows 29 = .ok (.iconst 0, 1) := by decide +kernel
theorem dX5_blows_30 : decode cX5_blows 30 = .ok (.istore 6, 2) := by decide +kernel
theorem dX5_blows_32 : decode cX5_blows 32 = .ok (.iload 5, 2) := by decide +kernel
theorem dX5_blows_34 : decode cX5_blows 34 = .ok (.ifCond .le 44, 3) := by decide +kernel
theorem dX5_blows_37 : decode cX5_blows 37 = .ok (.aload_n 0, 1) := by decide +kernel
theorem dX5_blows_38 : decode cX5_blows 38 = .ok (.aload_n 0, 1) := by decide +kernel
theorem dX5_blows_39 : decode cX5_blows 39 = .ok (.aload_n 1, 1) := by decide +kernel
theorem dX5_blows_40 : decode cX5_blows 40 = .ok (.iload_n 2, 1) := by decide +kernel
theorem dX5_blows_41 : decode cX5_blows 41 = .ok (.iconst 3, 1) := by decide +kernel
theorem dX5_blows_42 : decode cX5_blows 42 = .ok (.iadd, 1) := by decide +kernel
theorem dX5_blows_43 : decode cX5_blows 43 = .ok (.iaload, 1) := by decide +kernel
theorem dX5_blows_44 : decode cX5_blows 44 = .ok (.iload_n 3, 1) := by decide +kernel
theorem dX5_blows_45 : decode cX5_blows 45 = .ok (.invokevirtual 142, 3) := by decide +kernel
theorem dX5_blows_48 : decode cX5_blows 48 = .ok (.invokevirtual 119, 3) := by decide +kernel
theorem dX5_blows_51 : decode cX5_blows 51 = .ok (.ifCond .ne 27, 3) := by decide +kernel
theorem dX5_blows_54 : decode cX5_blows 54 = .ok (.aload_n 1, 1) := by decide +kernel
theorem dX5_blows_55 : decode cX5_blows 55 = .ok (.iload_n 2, 1) := by decide +kernel
theorem dX5_blows_56 : decode cX5_blows 56 = .ok (.iconst 3, 1) := by decide +kernel
theorem dX5_blows_57 : decode cX5_blows 57 = .ok (.iadd, 1) := by decide +kernel
theorem dX5_blows_58 : decode cX5_blows 58 = .ok (.aload_n 0, 1) := by decide +kernel
theorem dX5_blows_59 : decode cX5_blows 59 = .ok (.aload_n 1, 1) := by decide +kernel
theorem dX5_blows_60 : decode cX5_blows 60 = .ok (.iload_n 2, 1) := by decide +kernel
theorem dX5_blows_61 : decode cX5_blows 61 = .ok (.iconst 3, 1) := by decide +kernel
theorem dX5_blows_62 : decode cX5_blows 62 = .ok (.iadd, 1) := by decide +kernel
theorem dX5_blows_63 : decode cX5_blows 63 = .ok (.iaload, 1) := by decide +kernel
theorem dX5_blows_64 : decode cX5_blows 64 = .ok (.iload_n 3, 1) := by decide +kernel
theorem dX5_blows_65 : decode cX5_blows 65 = .ok (.invokevirtual 142, 3) := by decide +kernel
theorem dX5_blows_68 : decode cX5_blows 68 = .ok (.iastore, 1) := by decide +kernel
theorem dX5_blows_69 : decode cX5_blows 69 = .ok (.iconst 1, 1) := by decide +kernel
theorem dX5_blows_70 : decode cX5_blows 70 = .ok (.istore 6, 2) := by decide +kernel
theorem dX5_blows_72 : decode cX5_blows 72 = .ok (.iinc 5 (-1), 3) := by decide +kernel
theorem dX5_blows_75 : decode cX5_blows 75 = .ok (.goto (-43), 3) := by decide +kernel
theorem dX5_blows_78 : decode cX5_blows 78 = .ok (.iload 6, 2) := by decide +kernel
theorem dX5_blows_80 : decode cX5_blows 80 = .ok (.ifCond .eq 15, 3) := by decide +kernel
theorem dX5_blows_83 : decode cX5_blows 83 = .ok (.aload_n 0, 1) := by decide +kernel
theorem dX5_blows_84 : decode cX5_blows 84 = .ok (.aload_n 1, 1) := by decide +kernel
theorem dX5_blows_85 : decode cX5_blows 85 = .ok (.iload_n 2, 1) := by decide +kernel
theorem dX5_blows_86 : decode cX5_blows 86 = .ok (.iconst 3, 1) := by decide +kernel
theorem dX5_blows_87 : decode cX5_blows 87 = .ok (.iadd, 1) := by decide +kernel
theorem dX5_blows_88 : decode cX5_blows 88 = .ok (.iaload, 1) := by decide +kernel
theorem dX5_blows_89 : decode cX5_blows 89 = .ok (.invokevirtual 122, 3) := by decide +kernel
theorem dX5_blows_92 : decode cX5_blows 92 = .ok (.goto 5, 3) := by decide +kernel
theorem dX5_blows_95 : decode cX5_blows 95 = .ok (.bipush (-9), 2) := by decide +kernel
theorem dX5_blows_97 : decode cX5_blows 97 = .ok (.istore 7, 2) := by decide +kernel
theorem dX5_blows_99 : decode cX5_blows 99 = .ok (.iload 7, 2) := by decide +kernel
theorem dX5_blows_101 : decode cX5_blows 101 = .ok (.bipush (-9), 2) := by decide +kernel
theorem dX5_blows_103 : decode cX5_blows 103 = .ok (.if_icmp .eq 88, 3) := by decide +kernel
theorem dX5_blows_106 : decode cX5_blows 106 = .ok (.iload 7, 2) := by decide +kernel
theorem dX5_blows_108 : decode cX5_blows 108 = .ok (.aload_n 1, 1) := by decide +kernel
theorem dX5_blows_109 : decode cX5_blows 109 = .ok (.iload_n 2, 1) := by decide +kernel
theorem dX5_blows_110 : decode cX5_blows 110 = .ok (.iconst 2, 1) := by decide +kernel
theorem dX5_blows_111 : decode cX5_blows 111 = .ok (.iadd, 1) := by decide +kernel
theorem dX5_blows_112 : decode cX5_blows 112 = .ok (.iaload, 1) := by decide +kernel
theorem dX5_blows_113 : decode cX5_blows 113 = .ok (.if_icmp .ne 7, 3) := by decide +kernel
theorem dX5_blows_116 : decode cX5_blows 116 = .ok (.iconst 1, 1) := by decide +kernel
theorem dX5_blows_117 : decode cX5_blows 117 = .ok (.goto 4, 3) := by decide +kernel
theorem dX5_blows_120 : decode cX5_blows 120 = .ok (.iconst 0, 1) := by decide +kernel
theorem dX5_blows_121 : decode cX5_blows 121 = .ok (.istore 8, 2) := by decide +kernel
theorem dX5_blows_123 : decode cX5_blows 123 = .ok (.iload 8, 2) := by decide +kernel
theorem dX5_blows_125 : decode cX5_blows 125 = .ok (.ifCond .ne 18, 3) := by decide +kernel
theorem dX5_blows_128 : decode cX5_blows 128 = .ok (.iload 4, 2) := by decide +kernel
theorem dX5_blows_130 : decode cX5_blows 130 = .ok (.iload 7, 2) := by decide +kernel
theorem dX5_blows_132 : decode cX5_blows 132 = .ok (.ishr, 1) := by decide +kernel
theorem dX5_blows_133 : decode cX5_blows 133 = .ok (.iconst 1, 1) := by decide +kernel
theorem dX5_blows_134 : decode cX5_blows 134 = .ok (.iand, 1) := by decide +kernel
theorem dX5_blows_135 : decode cX5_blows 135 = .ok (.iconst 1, 1) := by decide +kernel
theorem dX5_blows_136 : decode cX5_blows 136 = .ok (.if_icmp .ne 7, 3) := by decide +kernel
theorem dX5_blows_139 : decode cX5_blows 139 = .ok (.iconst 1, 1) := by decide +kernel
theorem dX5_blows_140 : decode cX5_blows 140 = .ok (.goto 4, 3) := by decide +kernel
theorem dX5_blows_143 : decode cX5_blows 143 = .ok (.iconst 0, 1) := by decide +kernel
theorem dX5_blows_144 : decode cX5_blows 144 = .ok (.istore 9, 2) := by decide +kernel
theorem dX5_blows_146 : decode cX5_blows 146 = .ok (.aload_n 1, 1) := by decide +kernel
theorem dX5_blows_147 : decode cX5_blows 147 = .ok (.iload_n 2, 1) := by decide +kernel
theorem dX5_blows_148 : decode cX5_blows 148 = .ok (.iconst 4, 1) := by decide +kernel
theorem dX5_blows_149 : decode cX5_blows 149 = .ok (.iadd, 1) := by decide +kernel
theorem dX5_blows_150 : decode cX5_blows 150 = .ok (.dup2, 1) := by decide +kernel
theorem dX5_blows_151 : decode cX5_blows 151 = .ok (.iaload, 1) := by decide +kernel
theorem dX5_blows_152 : decode cX5_blows 152 = .ok (.iload 9, 2) := by decide +kernel
theorem dX5_blows_154 : decode cX5_blows 154 = .ok (.ifCond .eq 7, 3) := by decide +kernel
theorem dX5_blows_157 : decode cX5_blows 157 = .ok (.iconst 0, 1) := by decide +kernel
theorem dX5_blows_158 : decode cX5_blows 158 = .ok (.goto 7, 3) := by decide +kernel
theorem dX5_blows_161 : decode cX5_blows 161 = .ok (.iconst 1, 1) := by decide +kernel
theorem dX5_blows_162 : decode cX5_blows 162 = .ok (.iload 7, 2) := by decide +kernel
theorem dX5_blows_164 : decode cX5_blows 164 = .ok (.ishl, 1) := by decide +kernel
theorem dX5_blows_165 : decode cX5_blows 165 = .ok (.ior, 1) := by decide +kernel
theorem dX5_blows_166 : decode cX5_blows 166 = .ok (.iastore, 1) := by decide +kernel
theorem dX5_blows_167 : decode cX5_blows 167 = .ok (.aload_n 1, 1) := by decide +kernel
theorem dX5_blows_168 : decode cX5_blows 168 = .ok (.iload_n 2, 1) := by decide +kernel
theorem dX5_blows_169 : decode cX5_blows 169 = .ok (.iconst 5, 1) := by decide +kernel
theorem dX5_blows_170 : decode cX5_blows 170 = .ok (.iadd, 1) := by decide +kernel
theorem dX5_blows_171 : decode cX5_blows 171 = .ok (.iload 8, 2) := by decide +kernel
theorem dX5_blows_173 : decode cX5_blows 173 = .ok (.ifCond .eq 7, 3) := by decide +kernel
theorem dX5_blows_176 : decode cX5_blows 176 = .ok (.iconst 1, 1) := by decide +kernel
theorem dX5_blows_177 : decode cX5_blows 177 = .ok (.goto 13, 3) := by decide +kernel
theorem dX5_blows_180 : decode cX5_blows 180 = .ok (.iload 9, 2) := by decide +kernel
theorem dX5_blows_182 : decode cX5_blows 182 = .ok (.ifCond .eq 7, 3) := by decide +kernel
theorem dX5_blows_185 : decode cX5_blows 185 = .ok (.iconst 2, 1) := by decide +kernel
theorem dX5_blows_186 : decode cX5_blows 186 = .ok (.goto 4, 3) := by decide +kernel
theorem dX5_blows_189 : decode cX5_blows 189 = .ok (.iconst 0, 1) := by decide +kernel
theorem dX5_blows_190 : decode cX5_blows 190 = .ok (.iastore, 1) := by decide +kernel
theorem dX5_blows_191 : decode cX5_blows 191 = .ok (.return_, 1) := by decide +kernel
set_option maxRecDepth 20000 in
theorem kX5_blows_13 : Cond.fieldLink RX5 13 "WindPostModel" "many" "[I" ∈ wsX5_blows := by decide +kernel
set_option maxRecDepth 20000 in
theorem uX5_blows_X5 : ∀ w ∈ wsX50, w ∈ wsX5_blows := by decide +kernel
set_option maxHeartbeats 8000000 in
set_option maxRecDepth 100000 in
theorem mX5_blows (l : Launch) (D : va_G) (ki : Nat → ClassId) (ad : Nat → Nat) (cs : List Nat) (hcs : kR cs) (N : Nat) (a1 : Nat) (a2 : Int32) (a3 : Int32) (a4 : Int32) (ha1 : kA cs a1) (G : zMem) (tr : Int64) : gMetV l D ki ad cs yX5_blows wsX5_blows { frames := 1, cells := 0, slots := 0, locals := 24 } [.ref (ad 0), .ref (ad a1), .int a2, .int a3, .int a4] (mE ki ad) G tr (fX5_blows N a1 a2 a3 a4 G tr) := by
  refine gMetV_of (cc := cX5_blows) (maxL := 10) (ret := none) (own := RX5) (by decide +kernel) rfl rfl (Nat.le_of_ble_eq_true rfl) ?_
  intro r9 G9 tr9 h p e s m below meth c S hr hlk K X ls hl
  have hl : lv_has ls 10 [(0, .ref (ad 0)), (1, .ref (ad a1)), (2, .int a2), (3, .int a3), (4, .int a4)] := hl
  have b190 : ∀ (s0 : Int32) (s1 : Int32) (G : zMem) (tr : Int64), fX5_blows_b190 N a1 a2 a3 a4 s0 s1 G tr = some (r9, G9, tr9) → zAt p l e (headSpec wsX5_blows { frames := 1, cells := 0, slots := 0, locals := 24 }).room s m ([.ref (ad 0), .ref (ad a1), .int a2, .int a3, .int a4] : List Value).toArray below meth c 10 D cs ad (zQV below ([.ref (ad 0), .ref (ad a1), .int a2, .int a3, .int a4] : List Value).toArray s D cs ad ((mE ki ad) G9 tr9)) 190 [] [.int s0, .int s1, .ref (ad a1)] ((mE ki ad) G tr) := by
    intro s0 s1 G tr h H locs ls X hl
    unfold fX5_blows_b190 at h
    obtain ⟨hi_1, h⟩ := zin_some h
    refine zr_iast S K X ha1.2 mE_loc (fun _ => (mE_A ha1)) hi_1 dX5_blows_190 (fun H locs X => ?_)
    exact zr_vret S hr hlk X h dX5_blows_191
  have b165 : ∀ (x8 : Int32) (x9 : Int32) (s0 : Int32) (s1 : Int32) (s2 : Int32) (G : zMem) (tr : Int64), fX5_blows_b165 N a1 a2 a3 a4 x8 x9 s0 s1 s2 G tr = some (r9, G9, tr9) → zAt p l e (headSpec wsX5_blows { frames := 1, cells := 0, slots := 0, locals := 24 }).room s m ([.ref (ad 0), .ref (ad a1), .int a2, .int a3, .int a4] : List Value).toArray below meth c 10 D cs ad (zQV below ([.ref (ad 0), .ref (ad a1), .int a2, .int a3, .int a4] : List Value).toArray s D cs ad ((mE ki ad) G9 tr9)) 165 [(1, .ref (ad a1)), (2, .int a2), (8, .int x8), (9, .int x9)] [.int s0, .int s1, .int s2, .ref (ad a1)] ((mE ki ad) G tr) := by
    intro x8 x9 s0 s1 s2 G tr h H locs ls X hl
    unfold fX5_blows_b165 at h
    refine lv_ior S.1 S.2.1 dX5_blows_165 ?_
    obtain ⟨hi_1, h⟩ := zin_some h
    refine zr_iast S K X ha1.2 mE_loc (fun _ => (mE_A ha1)) hi_1 dX5_blows_166 (fun H locs X => ?_)
    refine lv_aload_n S.1 S.2.1 dX5_blows_167 rfl (lv_at hl 0 rfl) ?_
    refine lv_iload_n S.1 S.2.1 dX5_blows_168 rfl (lv_at hl 1 rfl) ?_
    refine lv_iconst (v := (5 : Int32)) S.1 S.2.1 dX5_blows_169 (by decide) ?_
    refine lv_iadd S.1 S.2.1 dX5_blows_170 ?_
    refine lv_iload S.1 S.2.1 dX5_blows_171 (lv_at hl 2 rfl) ?_
    refine lv_if_eq (tgt := 180) S.1 S.2.1 dX5_blows_173 (by decide) (fun hc_2 => ?_) (fun hc_2 => ?_)
    · have h := zif_pos hc_2 h
      refine lv_iload S.1 S.2.1 dX5_blows_180 (lv_at hl 3 rfl) ?_
      refine lv_if_eq (tgt := 189) S.1 S.2.1 dX5_blows_182 (by decide) (fun hc_3 => ?_) (fun hc_3 => ?_)
      · have h := zif_pos hc_3 h
        refine lv_iconst (v := (0 : Int32)) S.1 S.2.1 dX5_blows_189 (by decide) ?_
        exact b190 (0 : Int32) (a2 + (5 : Int32)) (up2 G a1 (Int32.toNatClampNeg s2) (s1 ||| s0)) tr h _ _ _ X (lv_sub hl [] rfl)
      · have h := zif_neg hc_3 h
        refine lv_iconst (v := (2 : Int32)) S.1 S.2.1 dX5_blows_185 (by decide) ?_
        refine lv_goto (tgt := 190) S.1 S.2.1 dX5_blows_186 (by decide) ?_
        exact b190 (2 : Int32) (a2 + (5 : Int32)) (up2 G a1 (Int32.toNatClampNeg s2) (s1 ||| s0)) tr h _ _ _ X (lv_sub hl [] rfl)
    · have h := zif_neg hc_2 h
      refine lv_iconst (v := (1 : Int32)) S.1 S.2.1 dX5_blows_176 (by decide) ?_
      refine lv_goto (tgt := 190) S.1 S.2.1 dX5_blows_177 (by decide) ?_
      exact b190 (1 : Int32) (a2 + (5 : Int32)) (up2 G a1 (Int32.toNatClampNeg s2) (s1 ||| s0)) tr h _ _ _ X (lv_sub hl [] rfl)
  have b144 : ∀ (x7 : Int32) (x8 : Int32) (s0 : Int32) (G : zMem) (tr : Int64), fX5_blows_b144 N a1 a2 a3 a4 x7 x8 s0 G tr = some (r9, G9, tr9) → zAt p l e (headSpec wsX5_blows { frames := 1, cells := 0, slots := 0, locals := 24 }).room s m ([.ref (ad 0), .ref (ad a1), .int a2, .int a3, .int a4] : List Value).toArray below meth c 10 D cs ad (zQV below ([.ref (ad 0), .ref (ad a1), .int a2, .int a3, .int a4] : List Value).toArray s D cs ad ((mE ki ad) G9 tr9)) 144 [(1, .ref (ad a1)), (2, .int a2), (7, .int x7), (8, .int x8)] [.int s0] ((mE ki ad) G tr) := by
    intro x7 x8 s0 G tr h H locs ls X hl
    unfold fX5_blows_b144 at h
    refine lv_istore (lv' := [(9, .int s0), (1, .ref (ad a1)), (2, .int a2), (7, .int x7), (8, .int x8)]) S.1 S.2.1 dX5_blows_144 hl (by decide) rfl (fun ls hl => ?_)
    refine lv_aload_n S.1 S.2.1 dX5_blows_146 rfl (lv_at hl 1 rfl) ?_
    refine lv_iload_n S.1 S.2.1 dX5_blows_147 rfl (lv_at hl 2 rfl) ?_
    refine lv_iconst (v := (4 : Int32)) S.1 S.2.1 dX5_blows_148 (by decide) ?_
    refine lv_iadd S.1 S.2.1 dX5_blows_149 ?_
    refine lv_dup2_11 S.1 S.2.1 dX5_blows_150 rfl rfl ?_
    obtain ⟨hi_1, h⟩ := zin_some h
    refine zr_iald S K X ha1.2 (mE_A ha1) hi_1 dX5_blows_151 ?_
    refine lv_iload S.1 S.2.1 dX5_blows_152 (lv_at hl 0 rfl) ?_
    refine lv_if_eq (tgt := 161) S.1 S.2.1 dX5_blows_154 (by decide) (fun hc_2 => ?_) (fun hc_2 => ?_)
    · have h := zif_pos hc_2 h
      refine lv_iconst (v := (1 : Int32)) S.1 S.2.1 dX5_blows_161 (by decide) ?_
      refine lv_iload S.1 S.2.1 dX5_blows_162 (lv_at hl 3 rfl) ?_
      refine lv_ishl S.1 S.2.1 dX5_blows_164 ?_
      exact b165 x8 s0 ((1 : Int32) <<< (x7 &&& 31)) (G a1 (Int32.toNatClampNeg (a2 + (4 : Int32)))) (a2 + (4 : Int32)) G tr h _ _ _ X (lv_sub hl [1, 2, 4, 0] rfl)
    · have h := zif_neg hc_2 h
      refine lv_iconst (v := (0 : Int32)) S.1 S.2.1 dX5_blows_157 (by decide) ?_
      refine lv_goto (tgt := 165) S.1 S.2.1 dX5_blows_158 (by decide) ?_
      exact b165 x8 s0 (0 : Int32) (G a1 (Int32.toNatClampNeg (a2 + (4 : Int32)))) (a2 + (4 : Int32)) G tr h _ _ _ X (lv_sub hl [1, 2, 4, 0] rfl)
  have b143 : ∀ (x7 : Int32) (x8 : Int32) (G : zMem) (tr : Int64), fX5_blows_b143 N a1 a2 a3 a4 x7 x8 G tr = some (r9, G9, tr9) → zAt p l e (headSpec wsX5_blows { frames := 1, cells := 0, slots := 0, locals := 24 }).room s m ([.ref (ad 0), .ref (ad a1), .int a2, .int a3, .int a4] : List Value).toArray below meth c 10 D cs ad (zQV below ([.ref (ad 0), .ref (ad a1), .int a2, .int a3, .int a4] : List Value).toArray s D cs ad ((mE ki ad) G9 tr9)) 143 [(1, .ref (ad a1)), (2, .int a2), (7, .int x7), (8, .int x8)] [] ((mE ki ad) G tr) := by
    intro x7 x8 G tr h H locs ls X hl
    unfold fX5_blows_b143 at h
    refine lv_iconst (v := (0 : Int32)) S.1 S.2.1 dX5_blows_143 (by decide) ?_
    exact b144 x7 x8 (0 : Int32) G tr h _ _ _ X (lv_sub hl [0, 1, 2, 3] rfl)
  have b121 : ∀ (x7 : Int32) (s0 : Int32) (G : zMem) (tr : Int64), fX5_blows_b121 N a1 a2 a3 a4 x7 s0 G tr = some (r9, G9, tr9) → zAt p l e (headSpec wsX5_blows { frames := 1, cells := 0, slots := 0, locals := 24 }).room s m ([.ref (ad 0), .ref (ad a1), .int a2, .int a3, .int a4] : List Value).toArray below meth c 10 D cs ad (zQV below ([.ref (ad 0), .ref (ad a1), .int a2, .int a3, .int a4] : List Value).toArray s D cs ad ((mE ki ad) G9 tr9)) 121 [(1, .ref (ad a1)), (2, .int a2), (4, .int a4), (7, .int x7)] [.int s0] ((mE ki ad) G tr) := by
    intro x7 s0 G tr h H locs ls X hl
    unfold fX5_blows_b121 at h
    refine lv_istore (lv' := [(8, .int s0), (1, .ref (ad a1)), (2, .int a2), (4, .int a4), (7, .int x7)]) S.1 S.2.1 dX5_blows_121 hl (by decide) rfl (fun ls hl => ?_)
    refine lv_iload S.1 S.2.1 dX5_blows_123 (lv_at hl 0 rfl) ?_
    refine lv_if_ne (tgt := 143) S.1 S.2.1 dX5_blows_125 (by decide) (fun hc_1 => ?_) (fun hc_1 => ?_)
    · have h := zif_neg hc_1 h
      exact b143 x7 s0 G tr h _ _ _ X (lv_sub hl [1, 2, 4, 0] rfl)
    · have h := zif_pos hc_1 h
      refine lv_iload S.1 S.2.1 dX5_blows_128 (lv_at hl 3 rfl) ?_
      refine lv_iload S.1 S.2.1 dX5_blows_130 (lv_at hl 4 rfl) ?_
      refine lv_ishr S.1 S.2.1 dX5_blows_132 ?_
      refine lv_iconst (v := (1 : Int32)) S.1 S.2.1 dX5_blows_133 (by decide) ?_
      refine lv_iand S.1 S.2.1 dX5_blows_134 ?_
      refine lv_iconst (v := (1 : Int32)) S.1 S.2.1 dX5_blows_135 (by decide) ?_
      refine lv_icmp_ne (tgt := 143) S.1 S.2.1 dX5_blows_136 (by decide) (fun hc_2 => ?_) (fun hc_2 => ?_)
      · have h := zif_neg hc_2 h
        exact b143 x7 s0 G tr h _ _ _ X (lv_sub hl [1, 2, 4, 0] rfl)
      · have h := zif_pos hc_2 h
        refine lv_iconst (v := (1 : Int32)) S.1 S.2.1 dX5_blows_139 (by decide) ?_
        refine lv_goto (tgt := 144) S.1 S.2.1 dX5_blows_140 (by decide) ?_
        exact b144 x7 s0 (1 : Int32) G tr h _ _ _ X (lv_sub hl [1, 2, 4, 0] rfl)
  have b97 : ∀ (s0 : Int32) (G : zMem) (tr : Int64), fX5_blows_b97 N a1 a2 a3 a4 s0 G tr = some (r9, G9, tr9) → zAt p l e (headSpec wsX5_blows { frames := 1, cells := 0, slots := 0, locals := 24 }).room s m ([.ref (ad 0), .ref (ad a1), .int a2, .int a3, .int a4] : List Value).toArray below meth c 10 D cs ad (zQV below ([.ref (ad 0), .ref (ad a1), .int a2, .int a3, .int a4] : List Value).toArray s D cs ad ((mE ki ad) G9 tr9)) 97 [(1, .ref (ad a1)), (2, .int a2), (4, .int a4)] [.int s0] ((mE ki ad) G tr) := by
    intro s0 G tr h H locs ls X hl
    unfold fX5_blows_b97 at h
    refine lv_istore (lv' := [(7, .int s0), (1, .ref (ad a1)), (2, .int a2), (4, .int a4)]) S.1 S.2.1 dX5_blows_97 hl (by decide) rfl (fun ls hl => ?_)
    refine lv_iload S.1 S.2.1 dX5_blows_99 (lv_at hl 0 rfl) ?_
    refine lv_bipush (v := (-9 : Int32)) S.1 S.2.1 dX5_blows_101 (by decide) ?_
    refine lv_icmp_eq (tgt := 191) S.1 S.2.1 dX5_blows_103 (by decide) (fun hc_1 => ?_) (fun hc_1 => ?_)
    · have h := zif_pos hc_1 h
      exact zr_vret S hr hlk X h dX5_blows_191
    · have h := zif_neg hc_1 h
      refine lv_iload S.1 S.2.1 dX5_blows_106 (lv_at hl 0 rfl) ?_
      refine lv_aload_n S.1 S.2.1 dX5_blows_108 rfl (lv_at hl 1 rfl) ?_
      refine lv_iload_n S.1 S.2.1 dX5_blows_109 rfl (lv_at hl 2 rfl) ?_
      refine lv_iconst (v := (2 : Int32)) S.1 S.2.1 dX5_blows_110 (by decide) ?_
      refine lv_iadd S.1 S.2.1 dX5_blows_111 ?_
      obtain ⟨hi_2, h⟩ := zin_some h
      refine zr_iald S K X ha1.2 (mE_A ha1) hi_2 dX5_blows_112 ?_
      refine lv_icmp_ne (tgt := 120) S.1 S.2.1 dX5_blows_113 (by decide) (fun hc_3 => ?_) (fun hc_3 => ?_)
      · have h := zif_neg hc_3 h
        refine lv_iconst (v := (0 : Int32)) S.1 S.2.1 dX5_blows_120 (by decide) ?_
        exact b121 s0 (0 : Int32) G tr h _ _ _ X (lv_sub hl [1, 2, 3, 0] rfl)
      · have h := zif_pos hc_3 h
        refine lv_iconst (v := (1 : Int32)) S.1 S.2.1 dX5_blows_116 (by decide) ?_
        refine lv_goto (tgt := 121) S.1 S.2.1 dX5_blows_117 (by decide) ?_
        exact b121 s0 (1 : Int32) G tr h _ _ _ X (lv_sub hl [1, 2, 3, 0] rfl)
  have b78 : ∀ (x6 : Int32) (G : zMem) (tr : Int64), fX5_blows_b78 N a1 a2 a3 a4 x6 G tr = some (r9, G9, tr9) → zAt p l e (headSpec wsX5_blows { frames := 1, cells := 0, slots := 0, locals := 24 }).room s m ([.ref (ad 0), .ref (ad a1), .int a2, .int a3, .int a4] : List Value).toArray below meth c 10 D cs ad (zQV below ([.ref (ad 0), .ref (ad a1), .int a2, .int a3, .int a4] : List Value).toArray s D cs ad ((mE ki ad) G9 tr9)) 78 [(0, .ref (ad 0)), (1, .ref (ad a1)), (2, .int a2), (4, .int a4), (6, .int x6)] [] ((mE ki ad) G tr) := by
    intro x6 G tr h H locs ls X hl
    unfold fX5_blows_b78 at h
    refine lv_iload S.1 S.2.1 dX5_blows_78 (lv_at hl 4 rfl) ?_
    refine lv_if_eq (tgt := 95) S.1 S.2.1 dX5_blows_80 (by decide) (fun hc_1 => ?_) (fun hc_1 => ?_)
    · have h := zif_pos hc_1 h
      refine lv_bipush (v := (-9 : Int32)) S.1 S.2.1 dX5_blows_95 (by decide) ?_
      exact b97 (-9 : Int32) G tr h _ _ _ X (lv_sub hl [1, 2, 3] rfl)
    · have h := zif_neg hc_1 h
      refine lv_aload_n S.1 S.2.1 dX5_blows_83 rfl (lv_at hl 0 rfl) ?_
      refine lv_aload_n S.1 S.2.1 dX5_blows_84 rfl (lv_at hl 1 rfl) ?_
      refine lv_iload_n S.1 S.2.1 dX5_blows_85 rfl (lv_at hl 2 rfl) ?_
      refine lv_iconst (v := (3 : Int32)) S.1 S.2.1 dX5_blows_86 (by decide) ?_
      refine lv_iadd S.1 S.2.1 dX5_blows_87 ?_
      obtain ⟨hi_2, h⟩ := zin_some h
      refine zr_iald S K X ha1.2 (mE_A ha1) hi_2 dX5_blows_88 ?_
      obtain ⟨r_4, G_5, tr_6, hf_3, h⟩ := zbd_some h
      refine zr_calli (Eg := (mE ki ad)) K X (va_runV (As := [.int (G a1 (Int32.toNatClampNeg (a2 + (3 : Int32))))]) (rest := []) S (mX5_isleAt l D ki ad cs hcs N (G a1 (Int32.toNatClampNeg (a2 + (3 : Int32)))) G tr H.size _ _ _ hf_3) (cwV 1 S.2.2.2.2 gX5_blows_X5_isleAt rfl rfl rfl (by decide +kernel) ⟨Nat.le_of_ble_eq_true rfl, Nat.le_of_ble_eq_true rfl⟩) (zr_preV (c0 := 0) K X (hcs 0 (by decide)) mE_R rfl) rfl rfl hl.1 rfl (lv_room (Nat.le_of_ble_eq_true rfl)) dX5_blows_89 ⟨Nat.zero_le _, Nat.zero_le _⟩) (fun H locs X => ?_)
      refine lv_goto (tgt := 97) S.1 S.2.1 dX5_blows_92 (by decide) ?_
      exact b97 r_4 G_5 tr_6 h _ _ _ X (lv_sub hl [1, 2, 3] rfl)
  have b32 : ∀ (k32 : Int32 → Int32 → zMem → Int64 → zR) (hk32 : ∀ (x5 : Int32) (x6 : Int32) (G : zMem) (tr : Int64), k32 x5 x6 G tr = some (r9, G9, tr9) → zAt p l e (headSpec wsX5_blows { frames := 1, cells := 0, slots := 0, locals := 24 }).room s m ([.ref (ad 0), .ref (ad a1), .int a2, .int a3, .int a4] : List Value).toArray below meth c 10 D cs ad (zQV below ([.ref (ad 0), .ref (ad a1), .int a2, .int a3, .int a4] : List Value).toArray s D cs ad ((mE ki ad) G9 tr9)) 32 [(0, .ref (ad 0)), (1, .ref (ad a1)), (2, .int a2), (3, .int a3), (4, .int a4), (5, .int x5), (6, .int x6)] [] ((mE ki ad) G tr)) (x5 : Int32) (x6 : Int32) (G : zMem) (tr : Int64), fX5_blows_b32 N a1 a2 a3 a4 k32 x5 x6 G tr = some (r9, G9, tr9) → zAt p l e (headSpec wsX5_blows { frames := 1, cells := 0, slots := 0, locals := 24 }).room s m ([.ref (ad 0), .ref (ad a1), .int a2, .int a3, .int a4] : List Value).toArray below meth c 10 D cs ad (zQV below ([.ref (ad 0), .ref (ad a1), .int a2, .int a3, .int a4] : List Value).toArray s D cs ad ((mE ki ad) G9 tr9)) 32 [(0, .ref (ad 0)), (1, .ref (ad a1)), (2, .int a2), (3, .int a3), (4, .int a4), (5, .int x5), (6, .int x6)] [] ((mE ki ad) G tr) := by
    intro k32 hk32 x5 x6 G tr h H locs ls X hl
    unfold fX5_blows_b32 at h
    refine lv_iload S.1 S.2.1 dX5_blows_32 (lv_at hl 5 rfl) ?_
    refine lv_if_le (tgt := 78) S.1 S.2.1 dX5_blows_34 (by decide) (fun hc_1 => ?_) (fun hc_1 => ?_)
    · have h := zif_pos hc_1 h
      exact b78 x6 G tr h _ _ _ X (lv_sub hl [0, 1, 2, 4, 6] rfl)
    · have h := zif_neg hc_1 h
      refine lv_aload_n S.1 S.2.1 dX5_blows_37 rfl (lv_at hl 0 rfl) ?_
      refine lv_aload_n S.1 S.2.1 dX5_blows_38 rfl (lv_at hl 0 rfl) ?_
      refine lv_aload_n S.1 S.2.1 dX5_blows_39 rfl (lv_at hl 1 rfl) ?_
      refine lv_iload_n S.1 S.2.1 dX5_blows_40 rfl (lv_at hl 2 rfl) ?_
      refine lv_iconst (v := (3 : Int32)) S.1 S.2.1 dX5_blows_41 (by decide) ?_
      refine lv_iadd S.1 S.2.1 dX5_blows_42 ?_
      obtain ⟨hi_2, h⟩ := zin_some h
      refine zr_iald S K X ha1.2 (mE_A ha1) hi_2 dX5_blows_43 ?_
      refine lv_iload_n S.1 S.2.1 dX5_blows_44 rfl (lv_at hl 3 rfl) ?_
      obtain ⟨r_4, G_5, tr_6, hf_3, h⟩ := zbd_some h
      refine zr_calli (Eg := (mE ki ad)) K X (va_runV (As := [.int (G a1 (Int32.toNatClampNeg (a2 + (3 : Int32)))), .int a3]) (rest := [.ref (ad 0)]) S (mX5_beside l D ki ad cs hcs N (G a1 (Int32.toNatClampNeg (a2 + (3 : Int32)))) a3 G tr H.size _ _ _ hf_3) (cwV 2 S.2.2.2.2 gX5_blows_X5_beside rfl rfl rfl (by decide +kernel) ⟨Nat.le_of_ble_eq_true rfl, Nat.le_of_ble_eq_true rfl⟩) (zr_preV (c0 := 0) K X (hcs 0 (by decide)) mE_R rfl) rfl rfl hl.1 rfl (lv_room (Nat.le_of_ble_eq_true rfl)) dX5_blows_45 ⟨Nat.zero_le _, Nat.zero_le _⟩) (fun H locs X => ?_)
      obtain ⟨r_8, G_9, tr_10, hf_7, h⟩ := zbd_some h
      refine zr_calli (Eg := (mE ki ad)) K X (va_runV (As := [.int r_4]) (rest := []) S (mX5_isHill l D ki ad cs hcs N r_4 G_5 tr_6 H.size _ _ _ hf_7) (cwV 1 S.2.2.2.2 gX5_blows_X5_isHill rfl rfl rfl (by decide +kernel) ⟨Nat.le_of_ble_eq_true rfl, Nat.le_of_ble_eq_true rfl⟩) (zr_preV (c0 := 0) K X (hcs 0 (by decide)) mE_R rfl) rfl rfl hl.1 rfl (lv_room (Nat.le_of_ble_eq_true rfl)) dX5_blows_48 ⟨Nat.zero_le _, Nat.zero_le _⟩) (fun H locs X => ?_)
      refine lv_if_ne (tgt := 78) S.1 S.2.1 dX5_blows_51 (by decide) (fun hc_11 => ?_) (fun hc_11 => ?_)
      · have h := zif_neg hc_11 h
        exact b78 x6 G_9 tr_10 h _ _ _ X (lv_sub hl [0, 1, 2, 4, 6] rfl)
      · have h := zif_pos hc_11 h
        refine lv_aload_n S.1 S.2.1 dX5_blows_54 rfl (lv_at hl 1 rfl) ?_
        refine lv_iload_n S.1 S.2.1 dX5_blows_55 rfl (lv_at hl 2 rfl) ?_
        refine lv_iconst (v := (3 : Int32)) S.1 S.2.1 dX5_blows_56 (by decide) ?_
        refine lv_iadd S.1 S.2.1 dX5_blows_57 ?_
        refine lv_aload_n S.1 S.2.1 dX5_blows_58 rfl (lv_at hl 0 rfl) ?_
        refine lv_aload_n S.1 S.2.1 dX5_blows_59 rfl (lv_at hl 1 rfl) ?_
        refine lv_iload_n S.1 S.2.1 dX5_blows_60 rfl (lv_at hl 2 rfl) ?_
        refine lv_iconst (v := (3 : Int32)) S.1 S.2.1 dX5_blows_61 (by decide) ?_
        refine lv_iadd S.1 S.2.1 dX5_blows_62 ?_
        obtain ⟨hi_12, h⟩ := zin_some h
        refine zr_iald S K X ha1.2 (mE_A ha1) hi_12 dX5_blows_63 ?_
        refine lv_iload_n S.1 S.2.1 dX5_blows_64 rfl (lv_at hl 3 rfl) ?_
        obtain ⟨r_14, G_15, tr_16, hf_13, h⟩ := zbd_some h
        refine zr_calli (Eg := (mE ki ad)) K X (va_runV (As := [.int (G_9 a1 (Int32.toNatClampNeg (a2 + (3 : Int32)))), .int a3]) (rest := [.int (a2 + (3 : Int32)), .ref (ad a1)]) S (mX5_beside l D ki ad cs hcs N (G_9 a1 (Int32.toNatClampNeg (a2 + (3 : Int32)))) a3 G_9 tr_10 H.size _ _ _ hf_13) (cwV 2 S.2.2.2.2 gX5_blows_X5_beside rfl rfl rfl (by decide +kernel) ⟨Nat.le_of_ble_eq_true rfl, Nat.le_of_ble_eq_true rfl⟩) (zr_preV (c0 := 0) K X (hcs 0 (by decide)) mE_R rfl) rfl rfl hl.1 rfl (lv_room (Nat.le_of_ble_eq_true rfl)) dX5_blows_65 ⟨Nat.zero_le _, Nat.zero_le _⟩) (fun H locs X => ?_)
        obtain ⟨hi_17, h⟩ := zin_some h
        refine zr_iast S K X ha1.2 mE_loc (fun _ => (mE_A ha1)) hi_17 dX5_blows_68 (fun H locs X => ?_)
        refine lv_iconst (v := (1 : Int32)) S.1 S.2.1 dX5_blows_69 (by decide) ?_
        refine lv_istore (lv' := [(6, .int (1 : Int32)), (0, .ref (ad 0)), (1, .ref (ad a1)), (2, .int a2), (3, .int a3), (4, .int a4), (5, .int x5)]) S.1 S.2.1 dX5_blows_70 hl (by decide) rfl (fun ls hl => ?_)
        refine lv_iinc (v := (x5 + (-1))) (lv' := [(5, .int (x5 + (-1))), (6, .int (1 : Int32)), (0, .ref (ad 0)), (1, .ref (ad a1)), (2, .int a2), (3, .int a3), (4, .int a4)]) S.1 S.2.1 dX5_blows_72 hl (k := 6) rfl rfl (by decide) rfl (fun ls hl => ?_)
        refine lv_goto (tgt := 32) S.1 S.2.1 dX5_blows_75 (by decide) ?_
        exact hk32 (x5 + (-1)) (1 : Int32) (up2 G_15 a1 (Int32.toNatClampNeg (a2 + (3 : Int32))) r_14) tr_16 h _ _ _ X (lv_sub hl [2, 3, 4, 5, 6, 0, 1] rfl)
  have L32 : ∀ (n : Nat) (x5 : Int32) (x6 : Int32) (G : zMem) (tr : Int64), fX5_blows_L32 N a1 a2 a3 a4 n x5 x6 G tr = some (r9, G9, tr9) → zAt p l e (headSpec wsX5_blows { frames := 1, cells := 0, slots := 0, locals := 24 }).room s m ([.ref (ad 0), .ref (ad a1), .int a2, .int a3, .int a4] : List Value).toArray below meth c 10 D cs ad (zQV below ([.ref (ad 0), .ref (ad a1), .int a2, .int a3, .int a4] : List Value).toArray s D cs ad ((mE ki ad) G9 tr9)) 32 [(0, .ref (ad 0)), (1, .ref (ad a1)), (2, .int a2), (3, .int a3), (4, .int a4), (5, .int x5), (6, .int x6)] [] ((mE ki ad) G tr) := by
    intro n
    induction n with
    | zero => intro x5 x6 G tr h; cases h
    | succ n ih => intro x5 x6 G tr h; exact b32 (fX5_blows_L32 N a1 a2 a3 a4 n) ih x5 x6 G tr h
  have b27 : ∀ (s0 : Int32) (G : zMem) (tr : Int64), fX5_blows_b27 N a1 a2 a3 a4 s0 G tr = some (r9, G9, tr9) → zAt p l e (headSpec wsX5_blows { frames := 1, cells := 0, slots := 0, locals := 24 }).room s m ([.ref (ad 0), .ref (ad a1), .int a2, .int a3, .int a4] : List Value).toArray below meth c 10 D cs ad (zQV below ([.ref (ad 0), .ref (ad a1), .int a2, .int a3, .int a4] : List Value).toArray s D cs ad ((mE ki ad) G9 tr9)) 27 [(0, .ref (ad 0)), (1, .ref (ad a1)), (2, .int a2), (3, .int a3), (4, .int a4)] [.int s0] ((mE ki ad) G tr) := by
    intro s0 G tr h H locs ls X hl
    unfold fX5_blows_b27 at h
    refine lv_istore (lv' := [(5, .int s0), (0, .ref (ad 0)), (1, .ref (ad a1)), (2, .int a2), (3, .int a3), (4, .int a4)]) S.1 S.2.1 dX5_blows_27 hl (by decide) rfl (fun ls hl => ?_)
    refine lv_iconst (v := (0 : Int32)) S.1 S.2.1 dX5_blows_29 (by decide) ?_
    refine lv_istore (lv' := [(6, .int (0 : Int32)), (5, .int s0), (0, .ref (ad 0)), (1, .ref (ad a1)), (2, .int a2), (3, .int a3), (4, .int a4)]) S.1 S.2.1 dX5_blows_30 hl (by decide) rfl (fun ls hl => ?_)
    exact L32 N s0 (0 : Int32) G tr h _ _ _ X (lv_sub hl [2, 3, 4, 5, 6, 1, 0] rfl)
  have b13 : ∀ (G : zMem) (tr : Int64), fX5_blows_b13 N a1 a2 a3 a4 G tr = some (r9, G9, tr9) → zAt p l e (headSpec wsX5_blows { frames := 1, cells := 0, slots := 0, locals := 24 }).room s m ([.ref (ad 0), .ref (ad a1), .int a2, .int a3, .int a4] : List Value).toArray below meth c 10 D cs ad (zQV below ([.ref (ad 0), .ref (ad a1), .int a2, .int a3, .int a4] : List Value).toArray s D cs ad ((mE ki ad) G9 tr9)) 13 [(0, .ref (ad 0)), (1, .ref (ad a1)), (2, .int a2), (3, .int a3), (4, .int a4)] [] ((mE ki ad) G tr) := by
    intro G tr h H locs ls X hl
    unfold fX5_blows_b13 at h
    refine lv_iconst (v := (0 : Int32)) S.1 S.2.1 dX5_blows_13 (by decide) ?_
    refine lv_goto (tgt := 27) S.1 S.2.1 dX5_blows_14 (by decide) ?_
    exact b27 (0 : Int32) G tr h _ _ _ X (lv_sub hl [0, 1, 2, 3, 4] rfl)
  unfold fX5_blows at h
  obtain ⟨H, hH⟩ : ∃ H, H = s.heap := ⟨_, rfl⟩
  obtain ⟨locs, hlo⟩ : ∃ locs : List Loc, locs = [] := ⟨_, rfl⟩
  have X : gS D cs ad ((mE ki ad) G tr) (gA cs ad s.heap.size) s H locs := by rw [hH, hlo]; exact X
  suffices z : W p l e (headSpec wsX5_blows { frames := 1, cells := 0, slots := 0, locals := 24 }).room s m ([.ref (ad 0), .ref (ad a1), .int a2, .int a3, .int a4] : List Value).toArray below meth c H locs 0 0 (zQV below ([.ref (ad 0), .ref (ad a1), .int a2, .int a3, .int a4] : List Value).toArray s D cs ad ((mE ki ad) G9 tr9)) (F0 m 0 ls []) by rw [hH, hlo] at z; exact z
  clear hH hlo
  refine lv_iload_n S.1 S.2.1 dX5_blows_0 rfl (lv_at hl 3 rfl) ?_
  refine lv_iconst (v := (4 : Int32)) S.1 S.2.1 dX5_blows_1 (by decide) ?_
  refine lv_icmp_eq (tgt := 13) S.1 S.2.1 dX5_blows_2 (by decide) (fun hc_1 => ?_) (fun hc_1 => ?_)
  · have h := zif_pos hc_1 h
    exact b13 G tr h _ _ _ X (lv_sub hl [0, 1, 2, 3, 4] rfl)
  · have h := zif_neg hc_1 h
    refine lv_aload_n S.1 S.2.1 dX5_blows_5 rfl (lv_at hl 1 rfl) ?_
    refine lv_iload_n S.1 S.2.1 dX5_blows_6 rfl (lv_at hl 2 rfl) ?_
    refine lv_iconst (v := (5 : Int32)) S.1 S.2.1 dX5_blows_7 (by decide) ?_
    refine lv_iadd S.1 S.2.1 dX5_blows_8 ?_
    obtain ⟨hi_2, h⟩ := zin_some h
    refine zr_iald S K X ha1.2 (mE_A ha1) hi_2 dX5_blows_9 ?_
    refine lv_if_eq (tgt := 17) S.1 S.2.1 dX5_blows_10 (by decide) (fun hc_3 => ?_) (fun hc_3 => ?_)
    · have h := zif_pos hc_3 h
      refine lv_aload_n S.1 S.2.1 dX5_blows_17 rfl (lv_at hl 0 rfl) ?_
      refine zr_get (v := .ref (ad 2)) S K X (hcs 0 (by decide)) mE_R rfl uX5_blows_X5 9 (by decide) kX5_blows_13 rfl rfl dX5_blows_18 ?_
      refine lv_iconst (v := (5 : Int32)) S.1 S.2.1 dX5_blows_21 (by decide) ?_
      obtain ⟨hi_4, h⟩ := zin_some h
      refine zr_iald S K X (hcs 2 (by decide)) mE_2 hi_4 dX5_blows_22 ?_
      refine lv_aload_n S.1 S.2.1 dX5_blows_23 rfl (lv_at hl 1 rfl) ?_
      refine lv_iload_n S.1 S.2.1 dX5_blows_24 rfl (lv_at hl 2 rfl) ?_
      obtain ⟨hi_5, h⟩ := zin_some h
      refine zr_iald S K X ha1.2 (mE_A ha1) hi_5 dX5_blows_25 ?_
      refine lv_isub S.1 S.2.1 dX5_blows_26 ?_
      exact b27 ((G 2 (Int32.toNatClampNeg (5 : Int32))) - (G a1 (Int32.toNatClampNeg a2))) G tr h _ _ _ X (lv_sub hl [0, 1, 2, 3, 4] rfl)
    · have h := zif_neg hc_3 h
      exact b13 G tr h _ _ _ X (lv_sub hl [0, 1, 2, 3, 4] rfl)
set_option maxRecDepth 20000 in
theorem ggX5_hour_X5_notes : GoodIn wsX5_hour wsX5_notes := goodIn_r _ [7, 8, 9, 2, 33, 34, 35, 36, 37, 38, 39, 40, 41, 42, 43, 44, 45, 46, 47, 48, 49, 50, 51, 52, 53, 54] (by decide +kernel) (by decide +kernel)
set_option maxRecDepth 20000 in
theorem gX5_hour_X5_notes : GoodIn wsX5_hour (wsV RX5 135 RX5 yX5_notes wsX5_notes) := goodIn_app (goodIn_of _ (by decide +kernel)) ggX5_hour_X5_notes
set_option maxRecDepth 20000 in
theorem ggX5_hour_X5_windOf : GoodIn wsX5_hour wsX5_windOf := goodIn_r _ [13, 14, 2, 33, 34, 35, 36, 37, 38, 39, 40, 41, 42, 43, 44, 45, 46, 47, 48, 49, 50, 51, 52, 53, 54] (by decide +kernel) (by decide +kernel)
set_option maxRecDepth 20000 in
theorem gX5_hour_X5_windOf : GoodIn wsX5_hour (wsV RX5 125 RX5 yX5_windOf wsX5_windOf) := goodIn_app (goodIn_of _ (by decide +kernel)) ggX5_hour_X5_windOf
set_option maxRecDepth 20000 in
theorem ggX5_hour_X5_blows : GoodIn wsX5_hour wsX5_blows := goodIn_r _ [18, 14, 19, 20, 21, 6, 22, 23, 24, 25, 26, 27, 28, 29, 30, 31, 32, 33, 34, 35, 36, 37, 38, 39, 40, 41, 42, 43, 44, 45, 46, 47, 48, 49, 50, 51, 52, 53, 54] (by decide +kernel) (by decide +kernel)
set_option maxRecDepth 20000 in
theorem gX5_hour_X5_blows : GoodIn wsX5_hour (wsV RX5 145 RX5 yX5_blows wsX5_blows) := goodIn_app (goodIn_of _ (by decide +kernel)) ggX5_hour_X5_blows
theorem dX5_hour_0 : decode cX5_hour 0 = .ok (.aload_n 0, 1) := by decide +kernel
theorem dX5_hour_1 : decode cX5_hour 1 = .ok (.iconst 0, 1) := by decide +kernel
theorem dX5_hour_2 : decode cX5_hour 2 = .ok (.putfield 47, 3) := by decide +kernel
theorem dX5_hour_5 : decode cX5_hour 5 = .ok (.aload_n 0, 1) := by decide +kernel
theorem dX5_hour_6 : decode cX5_hour 6 = .ok (.getfield 25, 3) := by decide +kernel
theorem dX5_hour_9 : decode cX5_hour 9 = .ok (.iconst 0, 1) := by decide +kernel
theorem dX5_hour_10 : decode cX5_hour 10 = .ok (.iaload, 1) := by decide +kernel
theorem dX5_hour_11 : decode cX5_hour 11 = .ok (.sipush 9999, 3) := by decide +kernel
theorem dX5_hour_14 : decode cX5_hour 14 = .ok (.if_icmp .ne 6, 3) := by decide +kernel
theorem dX5_hour_17 : decode cX5_hour 17 = .ok (.bipush (-2), 2) := by decide +kernel
theorem dX5_hour_19 : decode cX5_hour 19 = .ok (.ireturn, 1) := by decide +kernel
theorem dX5_hour_20 : decode cX5_hour 20 = .ok (.aload_n 0, 1) := by decide +kernel
theorem dX5_hour_21 : decode cX5_hour 21 = .ok (.invokevirtual 135, 3) := by decide +kernel
theorem dX5_hour_24 : decode cX5_hour 24 = .ok (.iconst 0, 1) := by decide +kernel
theorem dX5_hour_25 : decode cX5_hour 25 = .ok (.istore_n 1, 1) := by decide +kernel
theorem dX5_hour_26 : decode cX5_hour 26 = .ok (.aload_n 0, 1) := by decide +kernel
theorem dX5_hour_27 : decode cX5_hour 27 = .ok (.aload_n 0, 1) := by decide +kernel
theorem dX5_hour_28 : decode cX5_hour 28 = .ok (.getfield 25, 3) := by decide +kernel
theorem dX5_hour_31 : decode cX5_hour 31 = .ok (.iconst 0, 1) := by decide +kernel
theorem dX5_hour_32 : decode cX5_hour 32 = .ok (.iaload, 1) := by decide +kernel
theorem dX5_hour_33 : decode cX5_hour 33 = .ok (.invokevirtual 125, 3) := by decide +kernel
theorem dX5_hour_36 : decode cX5_hour 36 = .ok (.istore_n 2, 1) := by decide +kernel
theorem dX5_hour_37 : decode cX5_hour 37 = .ok (.iconst 0, 1) := by decide +kernel
theorem dX5_hour_38 : decode cX5_hour 38 = .ok (.istore_n 3, 1) := by decide +kernel
theorem dX5_hour_39 : decode cX5_hour 39 = .ok (.iload_n 3, 1) := by decide +kernel
theorem dX5_hour_40 : decode cX5_hour 40 = .ok (.aload_n 0, 1) := by decide +kernel
theorem dX5_hour_41 : decode cX5_hour 41 = .ok (.getfield 25, 3) := by decide +kernel
theorem dX5_hour_44 : decode cX5_hour 44 = .ok (.iconst 1, 1) := by decide +kernel
theorem dX5_hour_45 : decode cX5_hour 45 = .ok (.iaload, 1) := by decide +kernel
theorem dX5_hour_46 : decode cX5_hour 46 = .ok (.if_icmp .ge 72, 3) := by decide +kernel
theorem dX5_hour_49 : decode cX5_hour 49 = .ok (.bipush 15, 2) := by decide +kernel
theorem dX5_hour_51 : decode cX5_hour 51 = .ok (.bipush 6, 2) := by decide +kernel
theorem dX5_hour_53 : decode cX5_hour 53 = .ok (.iload_n 3, 1) := by decide +kernel
theorem dX5_hour_54 : decode cX5_hour 54 = .ok (.imul, 1) := by decide +kernel
theorem dX5_hour_55 : decode cX5_hour 55 = .ok (.iadd, 1) := by decide +kernel
theorem dX5_hour_56 : decode cX5_hour 56 = .ok (.istore 4, 2) := by decide +kernel
theorem dX5_hour_58 : decode cX5_hour 58 = .ok (.aload_n 0, 1) := by decide +kernel
theorem dX5_hour_59 : decode cX5_hour 59 = .ok (.getfield 25, 3) := by decide +kernel
theorem dX5_hour_62 : decode cX5_hour 62 = .ok (.iload 4, 2) := by decide +kernel
theorem dX5_hour_64 : decode cX5_hour 64 = .ok (.iconst 5, 1) := by decide +kernel
theorem dX5_hour_65 : decode cX5_hour 65 = .ok (.iadd, 1) := by decide +kernel
theorem dX5_hour_66 : decode cX5_hour 66 = .ok (.iaload, 1) := by decide +kernel
theorem dX5_hour_67 : decode cX5_hour 67 = .ok (.istore 5, 2) := by decide +kernel
theorem dX5_hour_69 : decode cX5_hour 69 = .ok (.aload_n 0, 1) := by decide +kernel
theorem dX5_hour_70 : decode cX5_hour 70 = .ok (.aload_n 0, 1) := by decide +kernel
theorem dX5_hour_71 : decode cX5_hour 71 = .ok (.getfield 25, 3) := by decide +kernel
theorem dX5_hour_74 : decode cX5_hour 74 = .ok (.iload 4, 2) := by decide +kernel
theorem dX5_hour_76 : decode cX5_hour 76 = .ok (.iload_n 2, 1) := by decide +kernel
theorem dX5_hour_77 : decode cX5_hour 77 = .ok (.aload_n 0, 1) := by decide +kernel
theorem dX5_hour_78 : decode cX5_hour 78 = .ok (.getfield 25, 3) := by decide +kernel
theorem dX5_hour_81 : decode cX5_hour 81 = .ok (.iconst 2, 1) := by decide +kernel
theorem dX5_hour_82 : decode cX5_hour 82 = .ok (.iaload, 1) := by decide +kernel
theorem dX5_hour_83 : decode cX5_hour 83 = .ok (.invokevirtual 145, 3) := by decide +kernel
theorem dX5_hour_86 : decode cX5_hour 86 = .ok (.iload_n 1, 1) := by decide +kernel
theorem dX5_hour_87 : decode cX5_hour 87 = .ok (.iload 5, 2) := by decide +kernel
theorem dX5_hour_89 : decode cX5_hour 89 = .ok (.ifCond .ne 20, 3) := by decide +kernel
theorem dX5_hour_92 : decode cX5_hour 92 = .ok (.aload_n 0, 1) := by decide +kernel
theorem dX5_hour_93 : decode cX5_hour 93 = .ok (.getfield 25, 3) := by decide +kernel
theorem dX5_hour_96 : decode cX5_hour 96 = .ok (.iload 4, 2) := by decide +kernel
theorem dX5_hour_98 : decode cX5_hour 98 = .ok (.iconst 5, 1) := by decide +kernel
theorem dX5_hour_99 : decode cX5_hour 99 = .ok (.iadd, 1) := by decide +kernel
theorem dX5_hour_100 : decode cX5_hour 100 = .ok (.iaload, 1) := by decide +kernel
theorem dX5_hour_101 : decode cX5_hour 101 = .ok (.iconst 1, 1) := by decide +kernel
theorem dX5_hour_102 : decode cX5_hour 102 = .ok (.if_icmp .ne 7, 3) := by decide +kernel
theorem dX5_hour_105 : decode cX5_hour 105 = .ok (.iconst 1, 1) := by decide +kernel
theorem dX5_hour_106 : decode cX5_hour 106 = .ok (.goto 4, 3) := by decide +kernel
theorem dX5_hour_109 : decode cX5_hour 109 = .ok (.iconst 0, 1) := by decide +kernel
theorem dX5_hour_110 : decode cX5_hour 110 = .ok (.iadd, 1) := by decide +kernel
theorem dX5_hour_111 : decode cX5_hour 111 = .ok (.istore_n 1, 1) := by decide +kernel
theorem dX5_hour_112 : decode cX5_hour 112 = .ok (.iinc 3 1, 3) := by decide +kernel
theorem dX5_hour_115 : decode cX5_hour 115 = .ok (.goto (-76), 3) := by decide +kernel
theorem dX5_hour_118 : decode cX5_hour 118 = .ok (.aload_n 0, 1) := by decide +kernel
theorem dX5_hour_119 : decode cX5_hour 119 = .ok (.getfield 25, 3) := by decide +kernel
theorem dX5_hour_122 : decode cX5_hour 122 = .ok (.iconst 0, 1) := by decide +kernel
theorem dX5_hour_123 : decode cX5_hour 123 = .ok (.dup2, 1) := by decide +kernel
theorem dX5_hour_124 : decode cX5_hour 124 = .ok (.iaload, 1) := by decide +kernel
theorem dX5_hour_125 : decode cX5_hour 125 = .ok (.iconst 1, 1) := by decide +kernel
theorem dX5_hour_126 : decode cX5_hour 126 = .ok (.iadd, 1) := by decide +kernel
theorem dX5_hour_127 : decode cX5_hour 127 = .ok (.iastore, 1) := by decide +kernel
theorem dX5_hour_128 : decode cX5_hour 128 = .ok (.iload_n 1, 1) := by decide +kernel
theorem dX5_hour_129 : decode cX5_hour 129 = .ok (.ireturn, 1) := by decide +kernel
set_option maxRecDepth 20000 in
theorem kX5_hour_25 : Cond.fieldLink RX5 25 "WindPostModel" "s" "[I" ∈ wsX5_hour := by decide +kernel
set_option maxRecDepth 20000 in
theorem kX5_hour_47 : Cond.fieldLink RX5 47 "WindPostModel" "thrown" "I" ∈ wsX5_hour := by decide +kernel
set_option maxRecDepth 20000 in
theorem uX5_hour_X5 : ∀ w ∈ wsX50, w ∈ wsX5_hour := by decide +kernel
set_option maxHeartbeats 8000000 in
set_option maxRecDepth 100000 in
theorem mX5_hour (l : Launch) (D : va_G) (ki : Nat → ClassId) (ad : Nat → Nat) (cs : List Nat) (hcs : kR cs) (N : Nat) (G : zMem) (tr : Int64) : gMetI l D ki ad cs yX5_hour wsX5_hour { frames := 2, cells := 0, slots := 0, locals := 53 } [.ref (ad 0)] (mE ki ad) G tr (fX5_hour N G tr) := by
  refine gMetI_of (cc := cX5_hour) (maxL := 6) (ret := (some .int)) (own := RX5) (by decide +kernel) rfl rfl (Nat.le_of_ble_eq_true rfl) ?_
  intro r9 G9 tr9 h p e s m below meth c S hr hlk K X ls hl
  have hl : lv_has ls 6 [(0, .ref (ad 0))] := hl
  have b110 : ∀ (k39 : Int32 → Int32 → Int32 → zMem → Int64 → zR) (hk39 : ∀ (x1 : Int32) (x2 : Int32) (x3 : Int32) (G : zMem) (tr : Int64), k39 x1 x2 x3 G tr = some (r9, G9, tr9) → zAt p l e (headSpec wsX5_hour { frames := 2, cells := 0, slots := 0, locals := 53 }).room s m ([.ref (ad 0)] : List Value).toArray below meth c 6 D cs ad (zQI below ([.ref (ad 0)] : List Value).toArray s D cs ad ((mE ki ad) G9 tr9) r9) 39 [(0, .ref (ad 0)), (1, .int x1), (2, .int x2), (3, .int x3)] [] ((mE ki ad) G tr)) (x2 : Int32) (x3 : Int32) (s0 : Int32) (s1 : Int32) (G : zMem) (tr : Int64), fX5_hour_b110 N k39 x2 x3 s0 s1 G tr = some (r9, G9, tr9) → zAt p l e (headSpec wsX5_hour { frames := 2, cells := 0, slots := 0, locals := 53 }).room s m ([.ref (ad 0)] : List Value).toArray below meth c 6 D cs ad (zQI below ([.ref (ad 0)] : List Value).toArray s D cs ad ((mE ki ad) G9 tr9) r9) 110 [(0, .ref (ad 0)), (2, .int x2), (3, .int x3)] [.int s0, .int s1] ((mE ki ad) G tr) := by
    intro k39 hk39 x2 x3 s0 s1 G tr h H locs ls X hl
    unfold fX5_hour_b110 at h
    refine lv_iadd S.1 S.2.1 dX5_hour_110 ?_
    refine lv_istore_n (lv' := [(1, .int (s1 + s0)), (0, .ref (ad 0)), (2, .int x2), (3, .int x3)]) S.1 S.2.1 dX5_hour_111 rfl hl (by decide) rfl (fun ls hl => ?_)
    refine lv_iinc (v := (x3 + 1)) (lv' := [(3, .int (x3 + 1)), (1, .int (s1 + s0)), (0, .ref (ad 0)), (2, .int x2)]) S.1 S.2.1 dX5_hour_112 hl (k := 3) rfl rfl (by decide) rfl (fun ls hl => ?_)
    refine lv_goto (tgt := 39) S.1 S.2.1 dX5_hour_115 (by decide) ?_
    exact hk39 (s1 + s0) x2 (x3 + 1) G tr h _ _ _ X (lv_sub hl [2, 1, 3, 0] rfl)
  have b109 : ∀ (k39 : Int32 → Int32 → Int32 → zMem → Int64 → zR) (hk39 : ∀ (x1 : Int32) (x2 : Int32) (x3 : Int32) (G : zMem) (tr : Int64), k39 x1 x2 x3 G tr = some (r9, G9, tr9) → zAt p l e (headSpec wsX5_hour { frames := 2, cells := 0, slots := 0, locals := 53 }).room s m ([.ref (ad 0)] : List Value).toArray below meth c 6 D cs ad (zQI below ([.ref (ad 0)] : List Value).toArray s D cs ad ((mE ki ad) G9 tr9) r9) 39 [(0, .ref (ad 0)), (1, .int x1), (2, .int x2), (3, .int x3)] [] ((mE ki ad) G tr)) (x2 : Int32) (x3 : Int32) (s0 : Int32) (G : zMem) (tr : Int64), fX5_hour_b109 N k39 x2 x3 s0 G tr = some (r9, G9, tr9) → zAt p l e (headSpec wsX5_hour { frames := 2, cells := 0, slots := 0, locals := 53 }).room s m ([.ref (ad 0)] : List Value).toArray below meth c 6 D cs ad (zQI below ([.ref (ad 0)] : List Value).toArray s D cs ad ((mE ki ad) G9 tr9) r9) 109 [(0, .ref (ad 0)), (2, .int x2), (3, .int x3)] [.int s0] ((mE ki ad) G tr) := by
    intro k39 hk39 x2 x3 s0 G tr h H locs ls X hl
    unfold fX5_hour_b109 at h
    refine lv_iconst (v := (0 : Int32)) S.1 S.2.1 dX5_hour_109 (by decide) ?_
    exact b110 k39 hk39 x2 x3 (0 : Int32) s0 G tr h _ _ _ X (lv_sub hl [0, 1, 2] rfl)
  have b39 : ∀ (k39 : Int32 → Int32 → Int32 → zMem → Int64 → zR) (hk39 : ∀ (x1 : Int32) (x2 : Int32) (x3 : Int32) (G : zMem) (tr : Int64), k39 x1 x2 x3 G tr = some (r9, G9, tr9) → zAt p l e (headSpec wsX5_hour { frames := 2, cells := 0, slots := 0, locals := 53 }).room s m ([.ref (ad 0)] : List Value).toArray below meth c 6 D cs ad (zQI below ([.ref (ad 0)] : List Value).toArray s D cs ad ((mE ki ad) G9 tr9) r9) 39 [(0, .ref (ad 0)), (1, .int x1), (2, .int x2), (3, .int x3)] [] ((mE ki ad) G tr)) (x1 : Int32) (x2 : Int32) (x3 : Int32) (G : zMem) (tr : Int64), fX5_hour_b39 N k39 x1 x2 x3 G tr = some (r9, G9, tr9) → zAt p l e (headSpec wsX5_hour { frames := 2, cells := 0, slots := 0, locals := 53 }).room s m ([.ref (ad 0)] : List Value).toArray below meth c 6 D cs ad (zQI below ([.ref (ad 0)] : List Value).toArray s D cs ad ((mE ki ad) G9 tr9) r9) 39 [(0, .ref (ad 0)), (1, .int x1), (2, .int x2), (3, .int x3)] [] ((mE ki ad) G tr) := by
    intro k39 hk39 x1 x2 x3 G tr h H locs ls X hl
    unfold fX5_hour_b39 at h
    refine lv_iload_n S.1 S.2.1 dX5_hour_39 rfl (lv_at hl 3 rfl) ?_
    refine lv_aload_n S.1 S.2.1 dX5_hour_40 rfl (lv_at hl 0 rfl) ?_
    refine zr_get (v := .ref (ad 6)) S K X (hcs 0 (by decide)) mE_R rfl uX5_hour_X5 14 (by decide) kX5_hour_25 rfl rfl dX5_hour_41 ?_
    refine lv_iconst (v := (1 : Int32)) S.1 S.2.1 dX5_hour_44 (by decide) ?_
    obtain ⟨hi_1, h⟩ := zin_some h
    refine zr_iald S K X (hcs 6 (by decide)) mE_6 hi_1 dX5_hour_45 ?_
    refine lv_icmp_ge (tgt := 118) S.1 S.2.1 dX5_hour_46 (by decide) (fun hc_2 => ?_) (fun hc_2 => ?_)
    · have h := zif_pos hc_2 h
      refine lv_aload_n S.1 S.2.1 dX5_hour_118 rfl (lv_at hl 0 rfl) ?_
      refine zr_get (v := .ref (ad 6)) S K X (hcs 0 (by decide)) mE_R rfl uX5_hour_X5 14 (by decide) kX5_hour_25 rfl rfl dX5_hour_119 ?_
      refine lv_iconst (v := (0 : Int32)) S.1 S.2.1 dX5_hour_122 (by decide) ?_
      refine lv_dup2_11 S.1 S.2.1 dX5_hour_123 rfl rfl ?_
      obtain ⟨hi_3, h⟩ := zin_some h
      refine zr_iald S K X (hcs 6 (by decide)) mE_6 hi_3 dX5_hour_124 ?_
      refine lv_iconst (v := (1 : Int32)) S.1 S.2.1 dX5_hour_125 (by decide) ?_
      refine lv_iadd S.1 S.2.1 dX5_hour_126 ?_
      obtain ⟨hi_4, h⟩ := zin_some h
      refine zr_iast S K X (hcs 6 (by decide)) mE_loc (fun _ => mE_6) hi_4 dX5_hour_127 (fun H locs X => ?_)
      refine lv_iload_n S.1 S.2.1 dX5_hour_128 rfl (lv_at hl 1 rfl) ?_
      exact zr_iret S hr hlk X h dX5_hour_129
    · have h := zif_neg hc_2 h
      refine lv_bipush (v := (15 : Int32)) S.1 S.2.1 dX5_hour_49 (by decide) ?_
      refine lv_bipush (v := (6 : Int32)) S.1 S.2.1 dX5_hour_51 (by decide) ?_
      refine lv_iload_n S.1 S.2.1 dX5_hour_53 rfl (lv_at hl 3 rfl) ?_
      refine lv_imul S.1 S.2.1 dX5_hour_54 ?_
      refine lv_iadd S.1 S.2.1 dX5_hour_55 ?_
      refine lv_istore (lv' := [(4, .int ((15 : Int32) + ((6 : Int32) * x3))), (0, .ref (ad 0)), (1, .int x1), (2, .int x2), (3, .int x3)]) S.1 S.2.1 dX5_hour_56 hl (by decide) rfl (fun ls hl => ?_)
      refine lv_aload_n S.1 S.2.1 dX5_hour_58 rfl (lv_at hl 1 rfl) ?_
      refine zr_get (v := .ref (ad 6)) S K X (hcs 0 (by decide)) mE_R rfl uX5_hour_X5 14 (by decide) kX5_hour_25 rfl rfl dX5_hour_59 ?_
      refine lv_iload S.1 S.2.1 dX5_hour_62 (lv_at hl 0 rfl) ?_
      refine lv_iconst (v := (5 : Int32)) S.1 S.2.1 dX5_hour_64 (by decide) ?_
      refine lv_iadd S.1 S.2.1 dX5_hour_65 ?_
      obtain ⟨hi_5, h⟩ := zin_some h
      refine zr_iald S K X (hcs 6 (by decide)) mE_6 hi_5 dX5_hour_66 ?_
      refine lv_istore (lv' := [(5, .int (G 6 (Int32.toNatClampNeg (((15 : Int32) + ((6 : Int32) * x3)) + (5 : Int32))))), (4, .int ((15 : Int32) + ((6 : Int32) * x3))), (0, .ref (ad 0)), (1, .int x1), (2, .int x2), (3, .int x3)]) S.1 S.2.1 dX5_hour_67 hl (by decide) rfl (fun ls hl => ?_)
      refine lv_aload_n S.1 S.2.1 dX5_hour_69 rfl (lv_at hl 2 rfl) ?_
      refine lv_aload_n S.1 S.2.1 dX5_hour_70 rfl (lv_at hl 2 rfl) ?_
      refine zr_get (v := .ref (ad 6)) S K X (hcs 0 (by decide)) mE_R rfl uX5_hour_X5 14 (by decide) kX5_hour_25 rfl rfl dX5_hour_71 ?_
      refine lv_iload S.1 S.2.1 dX5_hour_74 (lv_at hl 1 rfl) ?_
      refine lv_iload_n S.1 S.2.1 dX5_hour_76 rfl (lv_at hl 4 rfl) ?_
      refine lv_aload_n S.1 S.2.1 dX5_hour_77 rfl (lv_at hl 2 rfl) ?_
      refine zr_get (v := .ref (ad 6)) S K X (hcs 0 (by decide)) mE_R rfl uX5_hour_X5 14 (by decide) kX5_hour_25 rfl rfl dX5_hour_78 ?_
      refine lv_iconst (v := (2 : Int32)) S.1 S.2.1 dX5_hour_81 (by decide) ?_
      obtain ⟨hi_6, h⟩ := zin_some h
      refine zr_iald S K X (hcs 6 (by decide)) mE_6 hi_6 dX5_hour_82 ?_
      obtain ⟨r_8, G_9, tr_10, hf_7, h⟩ := zbd_some h
      refine zr_callv (Eg := (mE ki ad)) K X (va_runV (As := [.ref (ad 6), .int ((15 : Int32) + ((6 : Int32) * x3)), .int x2, .int (G 6 (Int32.toNatClampNeg (2 : Int32)))]) (rest := []) S (mX5_blows l D ki ad cs hcs N 6 ((15 : Int32) + ((6 : Int32) * x3)) x2 (G 6 (Int32.toNatClampNeg (2 : Int32))) (kA_6 hcs) G tr H.size _ _ _ hf_7) (cwV 4 S.2.2.2.2 gX5_hour_X5_blows rfl rfl rfl (by decide +kernel) ⟨Nat.le_of_ble_eq_true rfl, Nat.le_of_ble_eq_true rfl⟩) (zr_preV (c0 := 0) K X (hcs 0 (by decide)) mE_R rfl) rfl rfl hl.1 rfl (lv_room (Nat.le_of_ble_eq_true rfl)) dX5_hour_83 ⟨Nat.zero_le _, Nat.zero_le _⟩) (fun H locs X => ?_)
      refine lv_iload_n S.1 S.2.1 dX5_hour_86 rfl (lv_at hl 3 rfl) ?_
      refine lv_iload S.1 S.2.1 dX5_hour_87 (lv_at hl 0 rfl) ?_
      refine lv_if_ne (tgt := 109) S.1 S.2.1 dX5_hour_89 (by decide) (fun hc_11 => ?_) (fun hc_11 => ?_)
      · have h := zif_neg hc_11 h
        exact b109 k39 hk39 x2 x3 x1 G_9 tr_10 h _ _ _ X (lv_sub hl [2, 4, 5] rfl)
      · have h := zif_pos hc_11 h
        refine lv_aload_n S.1 S.2.1 dX5_hour_92 rfl (lv_at hl 2 rfl) ?_
        refine zr_get (v := .ref (ad 6)) S K X (hcs 0 (by decide)) mE_R rfl uX5_hour_X5 14 (by decide) kX5_hour_25 rfl rfl dX5_hour_93 ?_
        refine lv_iload S.1 S.2.1 dX5_hour_96 (lv_at hl 1 rfl) ?_
        refine lv_iconst (v := (5 : Int32)) S.1 S.2.1 dX5_hour_98 (by decide) ?_
        refine lv_iadd S.1 S.2.1 dX5_hour_99 ?_
        obtain ⟨hi_12, h⟩ := zin_some h
        refine zr_iald S K X (hcs 6 (by decide)) mE_6 hi_12 dX5_hour_100 ?_
        refine lv_iconst (v := (1 : Int32)) S.1 S.2.1 dX5_hour_101 (by decide) ?_
        refine lv_icmp_ne (tgt := 109) S.1 S.2.1 dX5_hour_102 (by decide) (fun hc_13 => ?_) (fun hc_13 => ?_)
        · have h := zif_neg hc_13 h
          exact b109 k39 hk39 x2 x3 x1 G_9 tr_10 h _ _ _ X (lv_sub hl [2, 4, 5] rfl)
        · have h := zif_pos hc_13 h
          refine lv_iconst (v := (1 : Int32)) S.1 S.2.1 dX5_hour_105 (by decide) ?_
          refine lv_goto (tgt := 110) S.1 S.2.1 dX5_hour_106 (by decide) ?_
          exact b110 k39 hk39 x2 x3 (1 : Int32) x1 G_9 tr_10 h _ _ _ X (lv_sub hl [2, 4, 5] rfl)
  have L39 : ∀ (n : Nat) (x1 : Int32) (x2 : Int32) (x3 : Int32) (G : zMem) (tr : Int64), fX5_hour_L39 N n x1 x2 x3 G tr = some (r9, G9, tr9) → zAt p l e (headSpec wsX5_hour { frames := 2, cells := 0, slots := 0, locals := 53 }).room s m ([.ref (ad 0)] : List Value).toArray below meth c 6 D cs ad (zQI below ([.ref (ad 0)] : List Value).toArray s D cs ad ((mE ki ad) G9 tr9) r9) 39 [(0, .ref (ad 0)), (1, .int x1), (2, .int x2), (3, .int x3)] [] ((mE ki ad) G tr) := by
    intro n
    induction n with
    | zero => intro x1 x2 x3 G tr h; cases h
    | succ n ih => intro x1 x2 x3 G tr h; exact b39 (fX5_hour_L39 N n) ih x1 x2 x3 G tr h
  unfold fX5_hour at h
  obtain ⟨H, hH⟩ : ∃ H, H = s.heap := ⟨_, rfl⟩
  obtain ⟨locs, hlo⟩ : ∃ locs : List Loc, locs = [] := ⟨_, rfl⟩
  have X : gS D cs ad ((mE ki ad) G tr) (gA cs ad s.heap.size) s H locs := by rw [hH, hlo]; exact X
  suffices z : W p l e (headSpec wsX5_hour { frames := 2, cells := 0, slots := 0, locals := 53 }).room s m ([.ref (ad 0)] : List Value).toArray below meth c H locs 0 0 (zQI below ([.ref (ad 0)] : List Value).toArray s D cs ad ((mE ki ad) G9 tr9) r9) (F0 m 0 ls []) by rw [hH, hlo] at z; exact z
  clear hH hlo
  refine lv_aload_n S.1 S.2.1 dX5_hour_0 rfl (lv_at hl 0 rfl) ?_
  refine lv_iconst (v := (0 : Int32)) S.1 S.2.1 dX5_hour_1 (by decide) ?_
  refine zr_put (xv := (0 : Int32)) (v := .int (0 : Int32)) (fsf := (fsR ad tr)) (ty := .int) S K X (hcs 0 (by decide)) mE_loc (fun _ => mE_R) rfl uX5_hour_X5 tyX5 tyX5_ok nmX5 0 (by decide) kX5_hour_47 rfl (by decide +kernel) rfl rfl (by simp) rfl dX5_hour_2 (fun H locs X => ?_)
  refine lv_aload_n S.1 S.2.1 dX5_hour_5 rfl (lv_at hl 0 rfl) ?_
  refine zr_get (v := .ref (ad 6)) S K X (hcs 0 (by decide)) mE_R rfl uX5_hour_X5 14 (by decide) kX5_hour_25 rfl rfl dX5_hour_6 ?_
  refine lv_iconst (v := (0 : Int32)) S.1 S.2.1 dX5_hour_9 (by decide) ?_
  obtain ⟨hi_1, h⟩ := zin_some h
  refine zr_iald S K X (hcs 6 (by decide)) mE_6 hi_1 dX5_hour_10 ?_
  refine lv_sipush (v := (9999 : Int32)) S.1 S.2.1 dX5_hour_11 (by decide) ?_
  refine lv_icmp_ne (tgt := 20) S.1 S.2.1 dX5_hour_14 (by decide) (fun hc_2 => ?_) (fun hc_2 => ?_)
  · have h := zif_neg hc_2 h
    refine lv_aload_n S.1 S.2.1 dX5_hour_20 rfl (lv_at hl 0 rfl) ?_
    obtain ⟨r_4, G_5, tr_6, hf_3, h⟩ := zbd_some h
    refine zr_callv (Eg := (mE ki ad)) K X (va_runV (As := []) (rest := []) S (mX5_notes l D ki ad cs hcs N (up2 G 0 0 (0 : Int32)) tr H.size _ _ _ hf_3) (cwV 0 S.2.2.2.2 gX5_hour_X5_notes rfl rfl rfl (by decide +kernel) ⟨Nat.le_of_ble_eq_true rfl, Nat.le_of_ble_eq_true rfl⟩) (zr_preV (c0 := 0) K X (hcs 0 (by decide)) mE_R rfl) rfl rfl hl.1 rfl (lv_room (Nat.le_of_ble_eq_true rfl)) dX5_hour_21 ⟨Nat.zero_le _, Nat.zero_le _⟩) (fun H locs X => ?_)
    refine lv_iconst (v := (0 : Int32)) S.1 S.2.1 dX5_hour_24 (by decide) ?_
    refine lv_istore_n (lv' := [(1, .int (0 : Int32)), (0, .ref (ad 0))]) S.1 S.2.1 dX5_hour_25 rfl hl (by decide) rfl (fun ls hl => ?_)
    refine lv_aload_n S.1 S.2.1 dX5_hour_26 rfl (lv_at hl 1 rfl) ?_
    refine lv_aload_n S.1 S.2.1 dX5_hour_27 rfl (lv_at hl 1 rfl) ?_
    refine zr_get (v := .ref (ad 6)) S K X (hcs 0 (by decide)) mE_R rfl uX5_hour_X5 14 (by decide) kX5_hour_25 rfl rfl dX5_hour_28 ?_
    refine lv_iconst (v := (0 : Int32)) S.1 S.2.1 dX5_hour_31 (by decide) ?_
    obtain ⟨hi_7, h⟩ := zin_some h
    refine zr_iald S K X (hcs 6 (by decide)) mE_6 hi_7 dX5_hour_32 ?_
    obtain ⟨r_9, G_10, tr_11, hf_8, h⟩ := zbd_some h
    refine zr_calli (Eg := (mE ki ad)) K X (va_runV (As := [.int (G_5 6 (Int32.toNatClampNeg (0 : Int32)))]) (rest := []) S (mX5_windOf l D ki ad cs hcs N (G_5 6 (Int32.toNatClampNeg (0 : Int32))) G_5 tr_6 H.size _ _ _ hf_8) (cwV 1 S.2.2.2.2 gX5_hour_X5_windOf rfl rfl rfl (by decide +kernel) ⟨Nat.le_of_ble_eq_true rfl, Nat.le_of_ble_eq_true rfl⟩) (zr_preV (c0 := 0) K X (hcs 0 (by decide)) mE_R rfl) rfl rfl hl.1 rfl (lv_room (Nat.le_of_ble_eq_true rfl)) dX5_hour_33 ⟨Nat.zero_le _, Nat.zero_le _⟩) (fun H locs X => ?_)
    refine lv_istore_n (lv' := [(2, .int r_9), (1, .int (0 : Int32)), (0, .ref (ad 0))]) S.1 S.2.1 dX5_hour_36 rfl hl (by decide) rfl (fun ls hl => ?_)
    refine lv_iconst (v := (0 : Int32)) S.1 S.2.1 dX5_hour_37 (by decide) ?_
    refine lv_istore_n (lv' := [(3, .int (0 : Int32)), (2, .int r_9), (1, .int (0 : Int32)), (0, .ref (ad 0))]) S.1 S.2.1 dX5_hour_38 rfl hl (by decide) rfl (fun ls hl => ?_)
    exact L39 N (0 : Int32) r_9 (0 : Int32) G_10 tr_11 h _ _ _ X (lv_sub hl [3, 2, 1, 0] rfl)
  · have h := zif_pos hc_2 h
    refine lv_bipush (v := (-2 : Int32)) S.1 S.2.1 dX5_hour_17 (by decide) ?_
    exact zr_iret S hr hlk X h dX5_hour_19
set_option maxRecDepth 20000 in
theorem ggX5_net_X5_isIsle : GoodIn wsX5_net wsX5_isIsle := goodIn_r _ [7, 8, 9, 10, 6, 11, 18, 19, 20, 21, 22, 23, 24, 25, 26, 27, 28, 29, 30, 31, 32, 33, 34, 35, 36, 37, 38, 39] (by decide +kernel) (by decide +kernel)
set_option maxRecDepth 20000 in
theorem gX5_net_X5_isIsle : GoodIn wsX5_net (wsV RX5 116 RX5 yX5_isIsle wsX5_isIsle) := goodIn_app (goodIn_of _ (by decide +kernel)) ggX5_net_X5_isIsle
set_option maxRecDepth 20000 in
theorem ggX5_net_X5_in : GoodIn wsX5_net wsX5_in := goodIn_r _ [11] (by decide +kernel) (by decide +kernel)
set_option maxRecDepth 20000 in
theorem gX5_net_X5_in : GoodIn wsX5_net (va_wsS RX5 51 yX5_in wsX5_in) := goodIn_app (goodIn_of _ (by decide +kernel)) ggX5_net_X5_in
set_option maxRecDepth 20000 in
theorem ggX5_net_X5_notes : GoodIn wsX5_net wsX5_notes := goodIn_r _ [15, 16, 17, 2, 18, 19, 20, 21, 22, 23, 24, 25, 26, 27, 28, 29, 30, 31, 32, 33, 34, 35, 36, 37, 38, 39] (by decide +kernel) (by decide +kernel)
set_option maxRecDepth 20000 in
theorem gX5_net_X5_notes : GoodIn wsX5_net (wsV RX5 135 RX5 yX5_notes wsX5_notes) := goodIn_app (goodIn_of _ (by decide +kernel)) ggX5_net_X5_notes
theorem dX5_net_0 : decode cX5_net 0 = .ok (.aload_n 0, 1) := by decide +kernel
theorem dX5_net_1 : decode cX5_net 1 = .ok (.iconst 0, 1) := by decide +kernel
theorem dX5_net_2 : decode cX5_net 2 = .ok (.putfield 47, 3) := by decide +kernel
theorem dX5_net_5 : decode cX5_net 5 = .ok (.aload_n 0, 1) := by decide +kernel
theorem dX5_net_6 : decode cX5_net 6 = .ok (.iload_n 1, 1) := by decide +kernel
theorem dX5_net_7 : decode cX5_net 7 = .ok (.invokevirtual 116, 3) := by decide +kernel
theorem dX5_net_10 : decode cX5_net 10 = .ok (.ifCond .eq 12, 3) := by decide +kernel
theorem dX5_net_13 : decode cX5_net 13 = .ok (.iload_n 2, 1) := by decide +kernel
theorem dX5_net_14 : decode cX5_net 14 = .ok (.iconst 0, 1) := by decide +kernel
theorem dX5_net_15 : decode cX5_net 15 = .ok (.iconst 1, 1) := by decide +kernel
theorem dX5_net_16 : decode cX5_net 16 = .ok (.invokestatic 51, 3) := by decide +kernel
theorem dX5_net_19 : decode cX5_net 19 = .ok (.ifCond .ne 5, 3) := by decide +kernel
theorem dX5_net_22 : decode cX5_net 22 = .ok (.iconst (-1), 1) := by decide +kernel
theorem dX5_net_23 : decode cX5_net 23 = .ok (.ireturn, 1) := by decide +kernel
theorem dX5_net_24 : decode cX5_net 24 = .ok (.aload_n 0, 1) := by decide +kernel
theorem dX5_net_25 : decode cX5_net 25 = .ok (.invokevirtual 135, 3) := by decide +kernel
theorem dX5_net_28 : decode cX5_net 28 = .ok (.aload_n 0, 1) := by decide +kernel
theorem dX5_net_29 : decode cX5_net 29 = .ok (.getfield 25, 3) := by decide +kernel
theorem dX5_net_32 : decode cX5_net 32 = .ok (.iconst 2, 1) := by decide +kernel
theorem dX5_net_33 : decode cX5_net 33 = .ok (.iaload, 1) := by decide +kernel
theorem dX5_net_34 : decode cX5_net 34 = .ok (.iload_n 1, 1) := by decide +kernel
theorem dX5_net_35 : decode cX5_net 35 = .ok (.ishr, 1) := by decide +kernel
theorem dX5_net_36 : decode cX5_net 36 = .ok (.iconst 1, 1) := by decide +kernel
theorem dX5_net_37 : decode cX5_net 37 = .ok (.iand, 1) := by decide +kernel
theorem dX5_net_38 : decode cX5_net 38 = .ok (.istore_n 3, 1) := by decide +kernel
theorem dX5_net_39 : decode cX5_net 39 = .ok (.aload_n 0, 1) := by decide +kernel
theorem dX5_net_40 : decode cX5_net 40 = .ok (.getfield 25, 3) := by decide +kernel
theorem dX5_net_43 : decode cX5_net 43 = .ok (.iconst 2, 1) := by decide +kernel
theorem dX5_net_44 : decode cX5_net 44 = .ok (.aload_n 0, 1) := by decide +kernel
theorem dX5_net_45 : decode cX5_net 45 = .ok (.getfield 25, 3) := by decide +kernel
theorem dX5_net_48 : decode cX5_net 48 = .ok (.iconst 2, 1) := by decide +kernel
theorem dX5_net_49 : decode cX5_net 49 = .ok (.iaload, 1) := by decide +kernel
theorem dX5_net_50 : decode cX5_net 50 = .ok (.iconst 1, 1) := by decide +kernel
theorem dX5_net_51 : decode cX5_net 51 = .ok (.iload_n 1, 1) := by decide +kernel
theorem dX5_net_52 : decode cX5_net 52 = .ok (.ishl, 1) := by decide +kernel
theorem dX5_net_53 : decode cX5_net 53 = .ok (.iconst (-1), 1) := by decide +kernel
theorem dX5_net_54 : decode cX5_net 54 = .ok (.ixor, 1) := by decide +kernel
theorem dX5_net_55 : decode cX5_net 55 = .ok (.iand, 1) := by decide +kernel
theorem dX5_net_56 : decode cX5_net 56 = .ok (.iload_n 2, 1) := by decide +kernel
theorem dX5_net_57 : decode cX5_net 57 = .ok (.iload_n 1, 1) := by decide +kernel
theorem dX5_net_58 : decode cX5_net 58 = .ok (.ishl, 1) := by decide +kernel
theorem dX5_net_59 : decode cX5_net 59 = .ok (.ior, 1) := by decide +kernel
theorem dX5_net_60 : decode cX5_net 60 = .ok (.iastore, 1) := by decide +kernel
theorem dX5_net_61 : decode cX5_net 61 = .ok (.iload_n 3, 1) := by decide +kernel
theorem dX5_net_62 : decode cX5_net 62 = .ok (.ireturn, 1) := by decide +kernel
set_option maxRecDepth 20000 in
theorem kX5_net_25 : Cond.fieldLink RX5 25 "WindPostModel" "s" "[I" ∈ wsX5_net := by decide +kernel
set_option maxRecDepth 20000 in
theorem kX5_net_47 : Cond.fieldLink RX5 47 "WindPostModel" "thrown" "I" ∈ wsX5_net := by decide +kernel
set_option maxRecDepth 20000 in
theorem uX5_net_X5 : ∀ w ∈ wsX50, w ∈ wsX5_net := by decide +kernel
set_option maxHeartbeats 8000000 in
set_option maxRecDepth 100000 in
theorem mX5_net (l : Launch) (D : va_G) (ki : Nat → ClassId) (ad : Nat → Nat) (cs : List Nat) (hcs : kR cs) (N : Nat) (a1 : Int32) (a2 : Int32) (G : zMem) (tr : Int64) : gMetI l D ki ad cs yX5_net wsX5_net { frames := 2, cells := 0, slots := 0, locals := 43 } [.ref (ad 0), .int a1, .int a2] (mE ki ad) G tr (fX5_net N a1 a2 G tr) := by
  refine gMetI_of (cc := cX5_net) (maxL := 4) (ret := (some .int)) (own := RX5) (by decide +kernel) rfl rfl (Nat.le_of_ble_eq_true rfl) ?_
  intro r9 G9 tr9 h p e s m below meth c S hr hlk K X ls hl
  have hl : lv_has ls 4 [(0, .ref (ad 0)), (1, .int a1), (2, .int a2)] := hl
  unfold fX5_net at h
  obtain ⟨H, hH⟩ : ∃ H, H = s.heap := ⟨_, rfl⟩
  obtain ⟨locs, hlo⟩ : ∃ locs : List Loc, locs = [] := ⟨_, rfl⟩
  have X : gS D cs ad ((mE ki ad) G tr) (gA cs ad s.heap.size) s H locs := by rw [hH, hlo]; exact X
  suffices z : W p l e (headSpec wsX5_net { frames := 2, cells := 0, slots := 0, locals := 43 }).room s m ([.ref (ad 0), .int a1, .int a2] : List Value).toArray below meth c H locs 0 0 (zQI below ([.ref (ad 0), .int a1, .int a2] : List Value).toArray s D cs ad ((mE ki ad) G9 tr9) r9) (F0 m 0 ls []) by rw [hH, hlo] at z; exact z
  clear hH hlo
  refine lv_aload_n S.1 S.2.1 dX5_net_0 rfl (lv_at hl 0 rfl) ?_
  refine lv_iconst (v := (0 : Int32)) S.1 S.2.1 dX5_net_1 (by decide) ?_
  refine zr_put (xv := (0 : Int32)) (v := .int (0 : Int32)) (fsf := (fsR ad tr)) (ty := .int) S K X (hcs 0 (by decide)) mE_loc (fun _ => mE_R) rfl uX5_net_X5 tyX5 tyX5_ok nmX5 0 (by decide) kX5_net_47 rfl (by decide +kernel) rfl rfl (by simp) rfl dX5_net_2 (fun H locs X => ?_)
  refine lv_aload_n S.1 S.2.1 dX5_net_5 rfl (lv_at hl 0 rfl) ?_
  refine lv_iload_n S.1 S.2.1 dX5_net_6 rfl (lv_at hl 1 rfl) ?_
  obtain ⟨r_2, G_3, tr_4, hf_1, h⟩ := zbd_some h
  refine zr_calli (Eg := (mE ki ad)) K X (va_runV (As := [.int a1]) (rest := []) S (mX5_isIsle l D ki ad cs hcs N a1 (up2 G 0 0 (0 : Int32)) tr H.size _ _ _ hf_1) (cwV 1 S.2.2.2.2 gX5_net_X5_isIsle rfl rfl rfl (by decide +kernel) ⟨Nat.le_of_ble_eq_true rfl, Nat.le_of_ble_eq_true rfl⟩) (zr_preV (c0 := 0) K X (hcs 0 (by decide)) mE_R rfl) rfl rfl hl.1 rfl (lv_room (Nat.le_of_ble_eq_true rfl)) dX5_net_7 ⟨Nat.zero_le _, Nat.zero_le _⟩) (fun H locs X => ?_)
  refine lv_if_eq (tgt := 22) S.1 S.2.1 dX5_net_10 (by decide) (fun hc_5 => ?_) (fun hc_5 => ?_)
  · have h := zif_pos hc_5 h
    refine lv_iconst (v := (-1 : Int32)) S.1 S.2.1 dX5_net_22 (by decide) ?_
    exact zr_iret S hr hlk X h dX5_net_23
  · have h := zif_neg hc_5 h
    refine lv_iload_n S.1 S.2.1 dX5_net_13 rfl (lv_at hl 2 rfl) ?_
    refine lv_iconst (v := (0 : Int32)) S.1 S.2.1 dX5_net_14 (by decide) ?_
    refine lv_iconst (v := (1 : Int32)) S.1 S.2.1 dX5_net_15 (by decide) ?_
    obtain ⟨r_7, hf_6, h⟩ := zbp_some h
    refine zr_calli (Eg := (mE ki ad)) (G' := G_3) (tr' := tr_4) K X (va_runS (As := [.int a2, .int (0 : Int32), .int (1 : Int32)]) (rest := []) S (mX5_in l D ki ad cs N a2 (0 : Int32) (1 : Int32) (mE ki ad) G_3 tr_4 H.size _ _ _ (zpu_of hf_6)) (va_cwS 3 S.2.2.2.2 gX5_net_X5_in rfl rfl rfl (by decide +kernel) ⟨Nat.le_of_ble_eq_true rfl, Nat.le_of_ble_eq_true rfl⟩) (zr_pre K X) rfl rfl hl.1 rfl (lv_room (Nat.le_of_ble_eq_true rfl)) dX5_net_16 ⟨Nat.zero_le _, Nat.zero_le _⟩) (fun H locs X => ?_)
    refine lv_if_ne (tgt := 24) S.1 S.2.1 dX5_net_19 (by decide) (fun hc_8 => ?_) (fun hc_8 => ?_)
    · have h := zif_neg hc_8 h
      refine lv_aload_n S.1 S.2.1 dX5_net_24 rfl (lv_at hl 0 rfl) ?_
      obtain ⟨r_10, G_11, tr_12, hf_9, h⟩ := zbd_some h
      refine zr_callv (Eg := (mE ki ad)) K X (va_runV (As := []) (rest := []) S (mX5_notes l D ki ad cs hcs N G_3 tr_4 H.size _ _ _ hf_9) (cwV 0 S.2.2.2.2 gX5_net_X5_notes rfl rfl rfl (by decide +kernel) ⟨Nat.le_of_ble_eq_true rfl, Nat.le_of_ble_eq_true rfl⟩) (zr_preV (c0 := 0) K X (hcs 0 (by decide)) mE_R rfl) rfl rfl hl.1 rfl (lv_room (Nat.le_of_ble_eq_true rfl)) dX5_net_25 ⟨Nat.zero_le _, Nat.zero_le _⟩) (fun H locs X => ?_)
      refine lv_aload_n S.1 S.2.1 dX5_net_28 rfl (lv_at hl 0 rfl) ?_
      refine zr_get (v := .ref (ad 6)) S K X (hcs 0 (by decide)) mE_R rfl uX5_net_X5 14 (by decide) kX5_net_25 rfl rfl dX5_net_29 ?_
      refine lv_iconst (v := (2 : Int32)) S.1 S.2.1 dX5_net_32 (by decide) ?_
      obtain ⟨hi_13, h⟩ := zin_some h
      refine zr_iald S K X (hcs 6 (by decide)) mE_6 hi_13 dX5_net_33 ?_
      refine lv_iload_n S.1 S.2.1 dX5_net_34 rfl (lv_at hl 1 rfl) ?_
      refine lv_ishr S.1 S.2.1 dX5_net_35 ?_
      refine lv_iconst (v := (1 : Int32)) S.1 S.2.1 dX5_net_36 (by decide) ?_
      refine lv_iand S.1 S.2.1 dX5_net_37 ?_
      refine lv_istore_n (lv' := [(3, .int (((G_11 6 (Int32.toNatClampNeg (2 : Int32))) >>> (a1 &&& 31)) &&& (1 : Int32))), (0, .ref (ad 0)), (1, .int a1), (2, .int a2)]) S.1 S.2.1 dX5_net_38 rfl hl (by decide) rfl (fun ls hl => ?_)
      refine lv_aload_n S.1 S.2.1 dX5_net_39 rfl (lv_at hl 1 rfl) ?_
      refine zr_get (v := .ref (ad 6)) S K X (hcs 0 (by decide)) mE_R rfl uX5_net_X5 14 (by decide) kX5_net_25 rfl rfl dX5_net_40 ?_
      refine lv_iconst (v := (2 : Int32)) S.1 S.2.1 dX5_net_43 (by decide) ?_
      refine lv_aload_n S.1 S.2.1 dX5_net_44 rfl (lv_at hl 1 rfl) ?_
      refine zr_get (v := .ref (ad 6)) S K X (hcs 0 (by decide)) mE_R rfl uX5_net_X5 14 (by decide) kX5_net_25 rfl rfl dX5_net_45 ?_
      refine lv_iconst (v := (2 : Int32)) S.1 S.2.1 dX5_net_48 (by decide) ?_
      obtain ⟨hi_14, h⟩ := zin_some h
      refine zr_iald S K X (hcs 6 (by decide)) mE_6 hi_14 dX5_net_49 ?_
      refine lv_iconst (v := (1 : Int32)) S.1 S.2.1 dX5_net_50 (by decide) ?_
      refine lv_iload_n S.1 S.2.1 dX5_net_51 rfl (lv_at hl 2 rfl) ?_
      refine lv_ishl S.1 S.2.1 dX5_net_52 ?_
      refine lv_iconst (v := (-1 : Int32)) S.1 S.2.1 dX5_net_53 (by decide) ?_
      refine lv_ixor S.1 S.2.1 dX5_net_54 ?_
      refine lv_iand S.1 S.2.1 dX5_net_55 ?_
      refine lv_iload_n S.1 S.2.1 dX5_net_56 rfl (lv_at hl 3 rfl) ?_
      refine lv_iload_n S.1 S.2.1 dX5_net_57 rfl (lv_at hl 2 rfl) ?_
      refine lv_ishl S.1 S.2.1 dX5_net_58 ?_
      refine lv_ior S.1 S.2.1 dX5_net_59 ?_
      obtain ⟨hi_15, h⟩ := zin_some h
      refine zr_iast S K X (hcs 6 (by decide)) mE_loc (fun _ => mE_6) hi_15 dX5_net_60 (fun H locs X => ?_)
      refine lv_iload_n S.1 S.2.1 dX5_net_61 rfl (lv_at hl 0 rfl) ?_
      exact zr_iret S hr hlk X h dX5_net_62
    · have h := zif_pos hc_8 h
      refine lv_iconst (v := (-1 : Int32)) S.1 S.2.1 dX5_net_22 (by decide) ?_
      exact zr_iret S hr hlk X h dX5_net_23
set_option maxRecDepth 20000 in
theorem ggX5_turn_X5_in : GoodIn wsX5_turn wsX5_in := goodIn_r _ [7] (by decide +kernel) (by decide +kernel)
set_option maxRecDepth 20000 in
theorem gX5_turn_X5_in : GoodIn wsX5_turn (va_wsS RX5 51 yX5_in wsX5_in) := goodIn_app (goodIn_of _ (by decide +kernel)) ggX5_turn_X5_in
set_option maxRecDepth 20000 in
theorem ggX5_turn_X5_notes : GoodIn wsX5_turn wsX5_notes := goodIn_r _ [11, 12, 13, 3, 14, 15, 16, 17, 18, 19, 20, 21, 22, 23, 24, 25, 26, 27, 28, 29, 30, 31, 32, 33, 34, 35] (by decide +kernel) (by decide +kernel)
set_option maxRecDepth 20000 in
theorem gX5_turn_X5_notes : GoodIn wsX5_turn (wsV RX5 135 RX5 yX5_notes wsX5_notes) := goodIn_app (goodIn_of _ (by decide +kernel)) ggX5_turn_X5_notes
theorem dX5_turn_0 : decode cX5_turn 0 = .ok (.aload_n 0, 1) := by decide +kernel
theorem dX5_turn_1 : decode cX5_turn 1 = .ok (.iconst 0, 1) := by decide +kernel
theorem dX5_turn_2 : decode cX5_turn 2 = .ok (.putfield 47, 3) := by decide +kernel
theorem dX5_turn_5 : decode cX5_turn 5 = .ok (.iload_n 1, 1) := by decide +kernel
theorem dX5_turn_6 : decode cX5_turn 6 = .ok (.iconst 0, 1) := by decide +kernel
theorem dX5_turn_7 : decode cX5_turn 7 = .ok (.aload_n 0, 1) := by decide +kernel
theorem dX5_turn_8 : decode cX5_turn 8 = .ok (.getfield 13, 3) := by decide +kernel
theorem dX5_turn_11 : decode cX5_turn 11 = .ok (.iconst 4, 1) := by decide +kernel
theorem dX5_turn_12 : decode cX5_turn 12 = .ok (.iaload, 1) := by decide +kernel
theorem dX5_turn_13 : decode cX5_turn 13 = .ok (.iconst 1, 1) := by decide +kernel
theorem dX5_turn_14 : decode cX5_turn 14 = .ok (.isub, 1) := by decide +kernel
theorem dX5_turn_15 : decode cX5_turn 15 = .ok (.invokestatic 51, 3) := by decide +kernel
theorem dX5_turn_18 : decode cX5_turn 18 = .ok (.ifCond .eq 12, 3) := by decide +kernel
theorem dX5_turn_21 : decode cX5_turn 21 = .ok (.iload_n 2, 1) := by decide +kernel
theorem dX5_turn_22 : decode cX5_turn 22 = .ok (.iconst 0, 1) := by decide +kernel
theorem dX5_turn_23 : decode cX5_turn 23 = .ok (.iconst 4, 1) := by decide +kernel
theorem dX5_turn_24 : decode cX5_turn 24 = .ok (.invokestatic 51, 3) := by decide +kernel
theorem dX5_turn_27 : decode cX5_turn 27 = .ok (.ifCond .ne 5, 3) := by decide +kernel
theorem dX5_turn_30 : decode cX5_turn 30 = .ok (.iconst (-1), 1) := by decide +kernel
theorem dX5_turn_31 : decode cX5_turn 31 = .ok (.ireturn, 1) := by decide +kernel
theorem dX5_turn_32 : decode cX5_turn 32 = .ok (.aload_n 0, 1) := by decide +kernel
theorem dX5_turn_33 : decode cX5_turn 33 = .ok (.invokevirtual 135, 3) := by decide +kernel
theorem dX5_turn_36 : decode cX5_turn 36 = .ok (.aload_n 0, 1) := by decide +kernel
theorem dX5_turn_37 : decode cX5_turn 37 = .ok (.getfield 25, 3) := by decide +kernel
theorem dX5_turn_40 : decode cX5_turn 40 = .ok (.iconst 3, 1) := by decide +kernel
theorem dX5_turn_41 : decode cX5_turn 41 = .ok (.iload_n 1, 1) := by decide +kernel
theorem dX5_turn_42 : decode cX5_turn 42 = .ok (.iadd, 1) := by decide +kernel
theorem dX5_turn_43 : decode cX5_turn 43 = .ok (.iaload, 1) := by decide +kernel
theorem dX5_turn_44 : decode cX5_turn 44 = .ok (.istore_n 3, 1) := by decide +kernel
theorem dX5_turn_45 : decode cX5_turn 45 = .ok (.aload_n 0, 1) := by decide +kernel
theorem dX5_turn_46 : decode cX5_turn 46 = .ok (.getfield 25, 3) := by decide +kernel
theorem dX5_turn_49 : decode cX5_turn 49 = .ok (.iconst 3, 1) := by decide +kernel
theorem dX5_turn_50 : decode cX5_turn 50 = .ok (.iload_n 1, 1) := by decide +kernel
theorem dX5_turn_51 : decode cX5_turn 51 = .ok (.iadd, 1) := by decide +kernel
theorem dX5_turn_52 : decode cX5_turn 52 = .ok (.iload_n 2, 1) := by decide +kernel
theorem dX5_turn_53 : decode cX5_turn 53 = .ok (.iastore, 1) := by decide +kernel
theorem dX5_turn_54 : decode cX5_turn 54 = .ok (.iload_n 3, 1) := by decide +kernel
theorem dX5_turn_55 : decode cX5_turn 55 = .ok (.ireturn, 1) := by decide +kernel
set_option maxRecDepth 20000 in
theorem kX5_turn_13 : Cond.fieldLink RX5 13 "WindPostModel" "many" "[I" ∈ wsX5_turn := by decide +kernel
set_option maxRecDepth 20000 in
theorem kX5_turn_25 : Cond.fieldLink RX5 25 "WindPostModel" "s" "[I" ∈ wsX5_turn := by decide +kernel
set_option maxRecDepth 20000 in
theorem kX5_turn_47 : Cond.fieldLink RX5 47 "WindPostModel" "thrown" "I" ∈ wsX5_turn := by decide +kernel
set_option maxRecDepth 20000 in
theorem uX5_turn_X5 : ∀ w ∈ wsX50, w ∈ wsX5_turn := by decide +kernel
set_option maxHeartbeats 8000000 in
set_option maxRecDepth 100000 in
theorem mX5_turn (l : Launch) (D : va_G) (ki : Nat → ClassId) (ad : Nat → Nat) (cs : List Nat) (hcs : kR cs) (N : Nat) (a1 : Int32) (a2 : Int32) (G : zMem) (tr : Int64) : gMetI l D ki ad cs yX5_turn wsX5_turn { frames := 1, cells := 0, slots := 0, locals := 22 } [.ref (ad 0), .int a1, .int a2] (mE ki ad) G tr (fX5_turn N a1 a2 G tr) := by
  refine gMetI_of (cc := cX5_turn) (maxL := 4) (ret := (some .int)) (own := RX5) (by decide +kernel) rfl rfl (Nat.le_of_ble_eq_true rfl) ?_
  intro r9 G9 tr9 h p e s m below meth c S hr hlk K X ls hl
  have hl : lv_has ls 4 [(0, .ref (ad 0)), (1, .int a1), (2, .int a2)] := hl
  unfold fX5_turn at h
  obtain ⟨H, hH⟩ : ∃ H, H = s.heap := ⟨_, rfl⟩
  obtain ⟨locs, hlo⟩ : ∃ locs : List Loc, locs = [] := ⟨_, rfl⟩
  have X : gS D cs ad ((mE ki ad) G tr) (gA cs ad s.heap.size) s H locs := by rw [hH, hlo]; exact X
  suffices z : W p l e (headSpec wsX5_turn { frames := 1, cells := 0, slots := 0, locals := 22 }).room s m ([.ref (ad 0), .int a1, .int a2] : List Value).toArray below meth c H locs 0 0 (zQI below ([.ref (ad 0), .int a1, .int a2] : List Value).toArray s D cs ad ((mE ki ad) G9 tr9) r9) (F0 m 0 ls []) by rw [hH, hlo] at z; exact z
  clear hH hlo
  refine lv_aload_n S.1 S.2.1 dX5_turn_0 rfl (lv_at hl 0 rfl) ?_
  refine lv_iconst (v := (0 : Int32)) S.1 S.2.1 dX5_turn_1 (by decide) ?_
  refine zr_put (xv := (0 : Int32)) (v := .int (0 : Int32)) (fsf := (fsR ad tr)) (ty := .int) S K X (hcs 0 (by decide)) mE_loc (fun _ => mE_R) rfl uX5_turn_X5 tyX5 tyX5_ok nmX5 0 (by decide) kX5_turn_47 rfl (by decide +kernel) rfl rfl (by simp) rfl dX5_turn_2 (fun H locs X => ?_)
  refine lv_iload_n S.1 S.2.1 dX5_turn_5 rfl (lv_at hl 1 rfl) ?_
  refine lv_iconst (v := (0 : Int32)) S.1 S.2.1 dX5_turn_6 (by decide) ?_
  refine lv_aload_n S.1 S.2.1 dX5_turn_7 rfl (lv_at hl 0 rfl) ?_
  refine zr_get (v := .ref (ad 2)) S K X (hcs 0 (by decide)) mE_R rfl uX5_turn_X5 9 (by decide) kX5_turn_13 rfl rfl dX5_turn_8 ?_
  refine lv_iconst (v := (4 : Int32)) S.1 S.2.1 dX5_turn_11 (by decide) ?_
  obtain ⟨hi_1, h⟩ := zin_some h
  refine zr_iald S K X (hcs 2 (by decide)) mE_2 hi_1 dX5_turn_12 ?_
  refine lv_iconst (v := (1 : Int32)) S.1 S.2.1 dX5_turn_13 (by decide) ?_
  refine lv_isub S.1 S.2.1 dX5_turn_14 ?_
  obtain ⟨r_3, hf_2, h⟩ := zbp_some h
  refine zr_calli (Eg := (mE ki ad)) (G' := (up2 G 0 0 (0 : Int32))) (tr' := tr) K X (va_runS (As := [.int a1, .int (0 : Int32), .int (((up2 G 0 0 (0 : Int32)) 2 (Int32.toNatClampNeg (4 : Int32))) - (1 : Int32))]) (rest := []) S (mX5_in l D ki ad cs N a1 (0 : Int32) (((up2 G 0 0 (0 : Int32)) 2 (Int32.toNatClampNeg (4 : Int32))) - (1 : Int32)) (mE ki ad) (up2 G 0 0 (0 : Int32)) tr H.size _ _ _ (zpu_of hf_2)) (va_cwS 3 S.2.2.2.2 gX5_turn_X5_in rfl rfl rfl (by decide +kernel) ⟨Nat.le_of_ble_eq_true rfl, Nat.le_of_ble_eq_true rfl⟩) (zr_pre K X) rfl rfl hl.1 rfl (lv_room (Nat.le_of_ble_eq_true rfl)) dX5_turn_15 ⟨Nat.zero_le _, Nat.zero_le _⟩) (fun H locs X => ?_)
  refine lv_if_eq (tgt := 30) S.1 S.2.1 dX5_turn_18 (by decide) (fun hc_4 => ?_) (fun hc_4 => ?_)
  · have h := zif_pos hc_4 h
    refine lv_iconst (v := (-1 : Int32)) S.1 S.2.1 dX5_turn_30 (by decide) ?_
    exact zr_iret S hr hlk X h dX5_turn_31
  · have h := zif_neg hc_4 h
    refine lv_iload_n S.1 S.2.1 dX5_turn_21 rfl (lv_at hl 2 rfl) ?_
    refine lv_iconst (v := (0 : Int32)) S.1 S.2.1 dX5_turn_22 (by decide) ?_
    refine lv_iconst (v := (4 : Int32)) S.1 S.2.1 dX5_turn_23 (by decide) ?_
    obtain ⟨r_6, hf_5, h⟩ := zbp_some h
    refine zr_calli (Eg := (mE ki ad)) (G' := (up2 G 0 0 (0 : Int32))) (tr' := tr) K X (va_runS (As := [.int a2, .int (0 : Int32), .int (4 : Int32)]) (rest := []) S (mX5_in l D ki ad cs N a2 (0 : Int32) (4 : Int32) (mE ki ad) (up2 G 0 0 (0 : Int32)) tr H.size _ _ _ (zpu_of hf_5)) (va_cwS 3 S.2.2.2.2 gX5_turn_X5_in rfl rfl rfl (by decide +kernel) ⟨Nat.le_of_ble_eq_true rfl, Nat.le_of_ble_eq_true rfl⟩) (zr_pre K X) rfl rfl hl.1 rfl (lv_room (Nat.le_of_ble_eq_true rfl)) dX5_turn_24 ⟨Nat.zero_le _, Nat.zero_le _⟩) (fun H locs X => ?_)
    refine lv_if_ne (tgt := 32) S.1 S.2.1 dX5_turn_27 (by decide) (fun hc_7 => ?_) (fun hc_7 => ?_)
    · have h := zif_neg hc_7 h
      refine lv_aload_n S.1 S.2.1 dX5_turn_32 rfl (lv_at hl 0 rfl) ?_
      obtain ⟨r_9, G_10, tr_11, hf_8, h⟩ := zbd_some h
      refine zr_callv (Eg := (mE ki ad)) K X (va_runV (As := []) (rest := []) S (mX5_notes l D ki ad cs hcs N (up2 G 0 0 (0 : Int32)) tr H.size _ _ _ hf_8) (cwV 0 S.2.2.2.2 gX5_turn_X5_notes rfl rfl rfl (by decide +kernel) ⟨Nat.le_of_ble_eq_true rfl, Nat.le_of_ble_eq_true rfl⟩) (zr_preV (c0 := 0) K X (hcs 0 (by decide)) mE_R rfl) rfl rfl hl.1 rfl (lv_room (Nat.le_of_ble_eq_true rfl)) dX5_turn_33 ⟨Nat.zero_le _, Nat.zero_le _⟩) (fun H locs X => ?_)
      refine lv_aload_n S.1 S.2.1 dX5_turn_36 rfl (lv_at hl 0 rfl) ?_
      refine zr_get (v := .ref (ad 6)) S K X (hcs 0 (by decide)) mE_R rfl uX5_turn_X5 14 (by decide) kX5_turn_25 rfl rfl dX5_turn_37 ?_
      refine lv_iconst (v := (3 : Int32)) S.1 S.2.1 dX5_turn_40 (by decide) ?_
      refine lv_iload_n S.1 S.2.1 dX5_turn_41 rfl (lv_at hl 1 rfl) ?_
      refine lv_iadd S.1 S.2.1 dX5_turn_42 ?_
      obtain ⟨hi_12, h⟩ := zin_some h
      refine zr_iald S K X (hcs 6 (by decide)) mE_6 hi_12 dX5_turn_43 ?_
      refine lv_istore_n (lv' := [(3, .int (G_10 6 (Int32.toNatClampNeg ((3 : Int32) + a1)))), (0, .ref (ad 0)), (1, .int a1), (2, .int a2)]) S.1 S.2.1 dX5_turn_44 rfl hl (by decide) rfl (fun ls hl => ?_)
      refine lv_aload_n S.1 S.2.1 dX5_turn_45 rfl (lv_at hl 1 rfl) ?_
      refine zr_get (v := .ref (ad 6)) S K X (hcs 0 (by decide)) mE_R rfl uX5_turn_X5 14 (by decide) kX5_turn_25 rfl rfl dX5_turn_46 ?_
      refine lv_iconst (v := (3 : Int32)) S.1 S.2.1 dX5_turn_49 (by decide) ?_
      refine lv_iload_n S.1 S.2.1 dX5_turn_50 rfl (lv_at hl 2 rfl) ?_
      refine lv_iadd S.1 S.2.1 dX5_turn_51 ?_
      refine lv_iload_n S.1 S.2.1 dX5_turn_52 rfl (lv_at hl 3 rfl) ?_
      obtain ⟨hi_13, h⟩ := zin_some h
      refine zr_iast S K X (hcs 6 (by decide)) mE_loc (fun _ => mE_6) hi_13 dX5_turn_53 (fun H locs X => ?_)
      refine lv_iload_n S.1 S.2.1 dX5_turn_54 rfl (lv_at hl 0 rfl) ?_
      exact zr_iret S hr hlk X h dX5_turn_55
    · have h := zif_pos hc_7 h
      refine lv_iconst (v := (-1 : Int32)) S.1 S.2.1 dX5_turn_30 (by decide) ?_
      exact zr_iret S hr hlk X h dX5_turn_31
theorem dX5_undo_0 : decode cX5_undo 0 = .ok (.aload_n 0, 1) := by decide +kernel
theorem dX5_undo_1 : decode cX5_undo 1 = .ok (.iconst 0, 1) := by decide +kernel
theorem dX5_undo_2 : decode cX5_undo 2 = .ok (.putfield 47, 3) := by decide +kernel
theorem dX5_undo_5 : decode cX5_undo 5 = .ok (.aload_n 0, 1) := by decide +kernel
theorem dX5_undo_6 : decode cX5_undo 6 = .ok (.getfield 113, 3) := by decide +kernel
theorem dX5_undo_9 : decode cX5_undo 9 = .ok (.ifCond .ne 6, 3) := by decide +kernel
theorem dX5_undo_12 : decode cX5_undo 12 = .ok (.bipush (-2), 2) := by decide +kernel
theorem dX5_undo_14 : decode cX5_undo 14 = .ok (.ireturn, 1) := by decide +kernel
theorem dX5_undo_15 : decode cX5_undo 15 = .ok (.aload_n 0, 1) := by decide +kernel
theorem dX5_undo_16 : decode cX5_undo 16 = .ok (.dup, 1) := by decide +kernel
theorem dX5_undo_17 : decode cX5_undo 17 = .ok (.getfield 113, 3) := by decide +kernel
theorem dX5_undo_20 : decode cX5_undo 20 = .ok (.iconst 1, 1) := by decide +kernel
theorem dX5_undo_21 : decode cX5_undo 21 = .ok (.isub, 1) := by decide +kernel
theorem dX5_undo_22 : decode cX5_undo 22 = .ok (.putfield 113, 3) := by decide +kernel
theorem dX5_undo_25 : decode cX5_undo 25 = .ok (.iconst 0, 1) := by decide +kernel
theorem dX5_undo_26 : decode cX5_undo 26 = .ok (.istore_n 1, 1) := by decide +kernel
theorem dX5_undo_27 : decode cX5_undo 27 = .ok (.iload_n 1, 1) := by decide +kernel
theorem dX5_undo_28 : decode cX5_undo 28 = .ok (.bipush 45, 2) := by decide +kernel
theorem dX5_undo_30 : decode cX5_undo 30 = .ok (.if_icmp .ge 29, 3) := by decide +kernel
theorem dX5_undo_33 : decode cX5_undo 33 = .ok (.aload_n 0, 1) := by decide +kernel
theorem dX5_undo_34 : decode cX5_undo 34 = .ok (.getfield 25, 3) := by decide +kernel
theorem dX5_undo_37 : decode cX5_undo 37 = .ok (.iload_n 1, 1) := by decide +kernel
theorem dX5_undo_38 : decode cX5_undo 38 = .ok (.aload_n 0, 1) := by decide +kernel
theorem dX5_undo_39 : decode cX5_undo 39 = .ok (.getfield 35, 3) := by decide +kernel
theorem dX5_undo_42 : decode cX5_undo 42 = .ok (.bipush 45, 2) := by decide +kernel
theorem dX5_undo_44 : decode cX5_undo 44 = .ok (.aload_n 0, 1) := by decide +kernel
theorem dX5_undo_45 : decode cX5_undo 45 = .ok (.getfield 113, 3) := by decide +kernel
theorem dX5_undo_48 : decode cX5_undo 48 = .ok (.imul, 1) := by decide +kernel
theorem dX5_undo_49 : decode cX5_undo 49 = .ok (.iload_n 1, 1) := by decide +kernel
theorem dX5_undo_50 : decode cX5_undo 50 = .ok (.iadd, 1) := by decide +kernel
theorem dX5_undo_51 : decode cX5_undo 51 = .ok (.iaload, 1) := by decide +kernel
theorem dX5_undo_52 : decode cX5_undo 52 = .ok (.iastore, 1) := by decide +kernel
theorem dX5_undo_53 : decode cX5_undo 53 = .ok (.iinc 1 1, 3) := by decide +kernel
theorem dX5_undo_56 : decode cX5_undo 56 = .ok (.goto (-29), 3) := by decide +kernel
theorem dX5_undo_59 : decode cX5_undo 59 = .ok (.aload_n 0, 1) := by decide +kernel
theorem dX5_undo_60 : decode cX5_undo 60 = .ok (.getfield 113, 3) := by decide +kernel
theorem dX5_undo_63 : decode cX5_undo 63 = .ok (.ireturn, 1) := by decide +kernel
set_option maxRecDepth 20000 in
theorem kX5_undo_25 : Cond.fieldLink RX5 25 "WindPostModel" "s" "[I" ∈ wsX5_undo := by decide +kernel
set_option maxRecDepth 20000 in
theorem kX5_undo_35 : Cond.fieldLink RX5 35 "WindPostModel" "undos" "[I" ∈ wsX5_undo := by decide +kernel
set_option maxRecDepth 20000 in
theorem kX5_undo_47 : Cond.fieldLink RX5 47 "WindPostModel" "thrown" "I" ∈ wsX5_undo := by decide +kernel
set_option maxRecDepth 20000 in
theorem kX5_undo_113 : Cond.fieldLink RX5 113 "WindPostModel" "undoMany" "I" ∈ wsX5_undo := by decide +kernel
set_option maxRecDepth 20000 in
theorem uX5_undo_X5 : ∀ w ∈ wsX50, w ∈ wsX5_undo := by decide +kernel
set_option maxHeartbeats 8000000 in
set_option maxRecDepth 100000 in
theorem mX5_undo (l : Launch) (D : va_G) (ki : Nat → ClassId) (ad : Nat → Nat) (cs : List Nat) (hcs : kR cs) (N : Nat) (G : zMem) (tr : Int64) : gMetI l D ki ad cs yX5_undo wsX5_undo { frames := 0, cells := 0, slots := 0, locals := 0 } [.ref (ad 0)] (mE ki ad) G tr (fX5_undo N G tr) := by
  refine gMetI_of (cc := cX5_undo) (maxL := 2) (ret := (some .int)) (own := RX5) (by decide +kernel) rfl rfl (Nat.le_of_ble_eq_true rfl) ?_
  intro r9 G9 tr9 h p e s m below meth c S hr hlk K X ls hl
  have hl : lv_has ls 2 [(0, .ref (ad 0))] := hl
  have b27 : ∀ (k27 : Int32 → zMem → Int64 → zR) (hk27 : ∀ (x1 : Int32) (G : zMem) (tr : Int64), k27 x1 G tr = some (r9, G9, tr9) → zAt p l e (headSpec wsX5_undo { frames := 0, cells := 0, slots := 0, locals := 0 }).room s m ([.ref (ad 0)] : List Value).toArray below meth c 2 D cs ad (zQI below ([.ref (ad 0)] : List Value).toArray s D cs ad ((mE ki ad) G9 tr9) r9) 27 [(0, .ref (ad 0)), (1, .int x1)] [] ((mE ki ad) G tr)) (x1 : Int32) (G : zMem) (tr : Int64), fX5_undo_b27 N k27 x1 G tr = some (r9, G9, tr9) → zAt p l e (headSpec wsX5_undo { frames := 0, cells := 0, slots := 0, locals := 0 }).room s m ([.ref (ad 0)] : List Value).toArray below meth c 2 D cs ad (zQI below ([.ref (ad 0)] : List Value).toArray s D cs ad ((mE ki ad) G9 tr9) r9) 27 [(0, .ref (ad 0)), (1, .int x1)] [] ((mE ki ad) G tr) := by
    intro k27 hk27 x1 G tr h H locs ls X hl
    unfold fX5_undo_b27 at h
    refine lv_iload_n S.1 S.2.1 dX5_undo_27 rfl (lv_at hl 1 rfl) ?_
    refine lv_bipush (v := (45 : Int32)) S.1 S.2.1 dX5_undo_28 (by decide) ?_
    refine lv_icmp_ge (tgt := 59) S.1 S.2.1 dX5_undo_30 (by decide) (fun hc_1 => ?_) (fun hc_1 => ?_)
    · have h := zif_pos hc_1 h
      refine lv_aload_n S.1 S.2.1 dX5_undo_59 rfl (lv_at hl 0 rfl) ?_
      refine zr_get (v := .int (G 0 18)) S K X (hcs 0 (by decide)) mE_R rfl uX5_undo_X5 18 (by decide) kX5_undo_113 rfl rfl dX5_undo_60 ?_
      exact zr_iret S hr hlk X h dX5_undo_63
    · have h := zif_neg hc_1 h
      refine lv_aload_n S.1 S.2.1 dX5_undo_33 rfl (lv_at hl 0 rfl) ?_
      refine zr_get (v := .ref (ad 6)) S K X (hcs 0 (by decide)) mE_R rfl uX5_undo_X5 14 (by decide) kX5_undo_25 rfl rfl dX5_undo_34 ?_
      refine lv_iload_n S.1 S.2.1 dX5_undo_37 rfl (lv_at hl 1 rfl) ?_
      refine lv_aload_n S.1 S.2.1 dX5_undo_38 rfl (lv_at hl 0 rfl) ?_
      refine zr_get (v := .ref (ad 9)) S K X (hcs 0 (by decide)) mE_R rfl uX5_undo_X5 17 (by decide) kX5_undo_35 rfl rfl dX5_undo_39 ?_
      refine lv_bipush (v := (45 : Int32)) S.1 S.2.1 dX5_undo_42 (by decide) ?_
      refine lv_aload_n S.1 S.2.1 dX5_undo_44 rfl (lv_at hl 0 rfl) ?_
      refine zr_get (v := .int (G 0 18)) S K X (hcs 0 (by decide)) mE_R rfl uX5_undo_X5 18 (by decide) kX5_undo_113 rfl rfl dX5_undo_45 ?_
      refine lv_imul S.1 S.2.1 dX5_undo_48 ?_
      refine lv_iload_n S.1 S.2.1 dX5_undo_49 rfl (lv_at hl 1 rfl) ?_
      refine lv_iadd S.1 S.2.1 dX5_undo_50 ?_
      obtain ⟨hi_2, h⟩ := zin_some h
      refine zr_iald S K X (hcs 9 (by decide)) mE_9 hi_2 dX5_undo_51 ?_
      obtain ⟨hi_3, h⟩ := zin_some h
      refine zr_iast S K X (hcs 6 (by decide)) mE_loc (fun _ => mE_6) hi_3 dX5_undo_52 (fun H locs X => ?_)
      refine lv_iinc (v := (x1 + 1)) (lv' := [(1, .int (x1 + 1)), (0, .ref (ad 0))]) S.1 S.2.1 dX5_undo_53 hl (k := 1) rfl rfl (by decide) rfl (fun ls hl => ?_)
      refine lv_goto (tgt := 27) S.1 S.2.1 dX5_undo_56 (by decide) ?_
      exact hk27 (x1 + 1) (up2 G 6 (Int32.toNatClampNeg x1) (G 9 (Int32.toNatClampNeg (((45 : Int32) * (G 0 18)) + x1)))) tr h _ _ _ X (lv_sub hl [1, 0] rfl)
  have L27 : ∀ (n : Nat) (x1 : Int32) (G : zMem) (tr : Int64), fX5_undo_L27 N n x1 G tr = some (r9, G9, tr9) → zAt p l e (headSpec wsX5_undo { frames := 0, cells := 0, slots := 0, locals := 0 }).room s m ([.ref (ad 0)] : List Value).toArray below meth c 2 D cs ad (zQI below ([.ref (ad 0)] : List Value).toArray s D cs ad ((mE ki ad) G9 tr9) r9) 27 [(0, .ref (ad 0)), (1, .int x1)] [] ((mE ki ad) G tr) := by
    intro n
    induction n with
    | zero => intro x1 G tr h; cases h
    | succ n ih => intro x1 G tr h; exact b27 (fX5_undo_L27 N n) ih x1 G tr h
  unfold fX5_undo at h
  obtain ⟨H, hH⟩ : ∃ H, H = s.heap := ⟨_, rfl⟩
  obtain ⟨locs, hlo⟩ : ∃ locs : List Loc, locs = [] := ⟨_, rfl⟩
  have X : gS D cs ad ((mE ki ad) G tr) (gA cs ad s.heap.size) s H locs := by rw [hH, hlo]; exact X
  suffices z : W p l e (headSpec wsX5_undo { frames := 0, cells := 0, slots := 0, locals := 0 }).room s m ([.ref (ad 0)] : List Value).toArray below meth c H locs 0 0 (zQI below ([.ref (ad 0)] : List Value).toArray s D cs ad ((mE ki ad) G9 tr9) r9) (F0 m 0 ls []) by rw [hH, hlo] at z; exact z
  clear hH hlo
  refine lv_aload_n S.1 S.2.1 dX5_undo_0 rfl (lv_at hl 0 rfl) ?_
  refine lv_iconst (v := (0 : Int32)) S.1 S.2.1 dX5_undo_1 (by decide) ?_
  refine zr_put (xv := (0 : Int32)) (v := .int (0 : Int32)) (fsf := (fsR ad tr)) (ty := .int) S K X (hcs 0 (by decide)) mE_loc (fun _ => mE_R) rfl uX5_undo_X5 tyX5 tyX5_ok nmX5 0 (by decide) kX5_undo_47 rfl (by decide +kernel) rfl rfl (by simp) rfl dX5_undo_2 (fun H locs X => ?_)
  refine lv_aload_n S.1 S.2.1 dX5_undo_5 rfl (lv_at hl 0 rfl) ?_
  refine zr_get (v := .int ((up2 G 0 0 (0 : Int32)) 0 18)) S K X (hcs 0 (by decide)) mE_R rfl uX5_undo_X5 18 (by decide) kX5_undo_113 rfl rfl dX5_undo_6 ?_
  refine lv_if_ne (tgt := 15) S.1 S.2.1 dX5_undo_9 (by decide) (fun hc_1 => ?_) (fun hc_1 => ?_)
  · have h := zif_neg hc_1 h
    refine lv_aload_n S.1 S.2.1 dX5_undo_15 rfl (lv_at hl 0 rfl) ?_
    refine lv_dup S.1 S.2.1 dX5_undo_16 rfl ?_
    refine zr_get (v := .int ((up2 G 0 0 (0 : Int32)) 0 18)) S K X (hcs 0 (by decide)) mE_R rfl uX5_undo_X5 18 (by decide) kX5_undo_113 rfl rfl dX5_undo_17 ?_
    refine lv_iconst (v := (1 : Int32)) S.1 S.2.1 dX5_undo_20 (by decide) ?_
    refine lv_isub S.1 S.2.1 dX5_undo_21 ?_
    refine zr_put (xv := (((up2 G 0 0 (0 : Int32)) 0 18) - (1 : Int32))) (v := .int (((up2 G 0 0 (0 : Int32)) 0 18) - (1 : Int32))) (fsf := (fsR ad tr)) (ty := .int) S K X (hcs 0 (by decide)) mE_loc (fun _ => mE_R) rfl uX5_undo_X5 tyX5 tyX5_ok nmX5 18 (by decide) kX5_undo_113 rfl (by decide +kernel) rfl rfl (by simp) rfl dX5_undo_22 (fun H locs X => ?_)
    refine lv_iconst (v := (0 : Int32)) S.1 S.2.1 dX5_undo_25 (by decide) ?_
    refine lv_istore_n (lv' := [(1, .int (0 : Int32)), (0, .ref (ad 0))]) S.1 S.2.1 dX5_undo_26 rfl hl (by decide) rfl (fun ls hl => ?_)
    exact L27 N (0 : Int32) (up2 (up2 G 0 0 (0 : Int32)) 0 18 (((up2 G 0 0 (0 : Int32)) 0 18) - (1 : Int32))) tr h _ _ _ X (lv_sub hl [1, 0] rfl)
  · have h := zif_pos hc_1 h
    refine lv_bipush (v := (-2 : Int32)) S.1 S.2.1 dX5_undo_12 (by decide) ?_
    exact zr_iret S hr hlk X h dX5_undo_14
theorem dX5_takesLetter_0 : decode cX5_takesLetter 0 = .ok (.iconst 0, 1) := by decide +kernel
theorem dX5_takesLetter_1 : decode cX5_takesLetter 1 = .ok (.istore_n 3, 1) := by decide +kernel
theorem dX5_takesLetter_2 : decode cX5_takesLetter 2 = .ok (.iload_n 3, 1) := by decide +kernel
theorem dX5_takesLetter_3 : decode cX5_takesLetter 3 = .ok (.bipush 6, 2) := by decide +kernel
theorem dX5_takesLetter_5 : decode cX5_takesLetter 5 = .ok (.if_icmp .ge 26, 3) := by decide +kernel
theorem dX5_takesLetter_8 : decode cX5_takesLetter 8 = .ok (.aload_n 1, 1) := by decide +kernel
theorem dX5_takesLetter_9 : decode cX5_takesLetter 9 = .ok (.iload_n 3, 1) := by decide +kernel
theorem dX5_takesLetter_10 : decode cX5_takesLetter 10 = .ok (.aload_n 0, 1) := by decide +kernel
theorem dX5_takesLetter_11 : decode cX5_takesLetter 11 = .ok (.getfield 25, 3) := by decide +kernel
theorem dX5_takesLetter_14 : decode cX5_takesLetter 14 = .ok (.bipush 15, 2) := by decide +kernel
theorem dX5_takesLetter_16 : decode cX5_takesLetter 16 = .ok (.bipush 6, 2) := by decide +kernel
theorem dX5_takesLetter_18 : decode cX5_takesLetter 18 = .ok (.iload_n 2, 1) := by decide +kernel
theorem dX5_takesLetter_19 : decode cX5_takesLetter 19 = .ok (.imul, 1) := by decide +kernel
theorem dX5_takesLetter_20 : decode cX5_takesLetter 20 = .ok (.iadd, 1) := by decide +kernel
theorem dX5_takesLetter_21 : decode cX5_takesLetter 21 = .ok (.iload_n 3, 1) := by decide +kernel
theorem dX5_takesLetter_22 : decode cX5_takesLetter 22 = .ok (.iadd, 1) := by decide +kernel
theorem dX5_takesLetter_23 : decode cX5_takesLetter 23 = .ok (.iaload, 1) := by decide +kernel
theorem dX5_takesLetter_24 : decode cX5_takesLetter 24 = .ok (.iastore, 1) := by decide +kernel
theorem dX5_takesLetter_25 : decode cX5_takesLetter 25 = .ok (.iinc 3 1, 3) := by decide +kernel
theorem dX5_takesLetter_28 : decode cX5_takesLetter 28 = .ok (.goto (-26), 3) := by decide +kernel
theorem dX5_takesLetter_31 : decode cX5_takesLetter 31 = .ok (.return_, 1) := by decide +kernel
set_option maxRecDepth 20000 in
theorem kX5_takesLetter_25 : Cond.fieldLink RX5 25 "WindPostModel" "s" "[I" ∈ wsX5_takesLetter := by decide +kernel
set_option maxRecDepth 20000 in
theorem uX5_takesLetter_X5 : ∀ w ∈ wsX50, w ∈ wsX5_takesLetter := by decide +kernel
set_option maxHeartbeats 8000000 in
set_option maxRecDepth 100000 in
theorem mX5_takesLetter (l : Launch) (D : va_G) (ki : Nat → ClassId) (ad : Nat → Nat) (cs : List Nat) (hcs : kR cs) (N : Nat) (a1 : Nat) (a2 : Int32) (ha1 : kA cs a1) (G : zMem) (tr : Int64) : gMetV l D ki ad cs yX5_takesLetter wsX5_takesLetter { frames := 0, cells := 0, slots := 0, locals := 0 } [.ref (ad 0), .ref (ad a1), .int a2] (mE ki ad) G tr (fX5_takesLetter N a1 a2 G tr) := by
  refine gMetV_of (cc := cX5_takesLetter) (maxL := 4) (ret := none) (own := RX5) (by decide +kernel) rfl rfl (Nat.le_of_ble_eq_true rfl) ?_
  intro r9 G9 tr9 h p e s m below meth c S hr hlk K X ls hl
  have hl : lv_has ls 4 [(0, .ref (ad 0)), (1, .ref (ad a1)), (2, .int a2)] := hl
  have b2 : ∀ (k2 : Int32 → zMem → Int64 → zR) (hk2 : ∀ (x3 : Int32) (G : zMem) (tr : Int64), k2 x3 G tr = some (r9, G9, tr9) → zAt p l e (headSpec wsX5_takesLetter { frames := 0, cells := 0, slots := 0, locals := 0 }).room s m ([.ref (ad 0), .ref (ad a1), .int a2] : List Value).toArray below meth c 4 D cs ad (zQV below ([.ref (ad 0), .ref (ad a1), .int a2] : List Value).toArray s D cs ad ((mE ki ad) G9 tr9)) 2 [(0, .ref (ad 0)), (1, .ref (ad a1)), (2, .int a2), (3, .int x3)] [] ((mE ki ad) G tr)) (x3 : Int32) (G : zMem) (tr : Int64), fX5_takesLetter_b2 N a1 a2 k2 x3 G tr = some (r9, G9, tr9) → zAt p l e (headSpec wsX5_takesLetter { frames := 0, cells := 0, slots := 0, locals := 0 }).room s m ([.ref (ad 0), .ref (ad a1), .int a2] : List Value).toArray below meth c 4 D cs ad (zQV below ([.ref (ad 0), .ref (ad a1), .int a2] : List Value).toArray s D cs ad ((mE ki ad) G9 tr9)) 2 [(0, .ref (ad 0)), (1, .ref (ad a1)), (2, .int a2), (3, .int x3)] [] ((mE ki ad) G tr) := by
    intro k2 hk2 x3 G tr h H locs ls X hl
    unfold fX5_takesLetter_b2 at h
    refine lv_iload_n S.1 S.2.1 dX5_takesLetter_2 rfl (lv_at hl 3 rfl) ?_
    refine lv_bipush (v := (6 : Int32)) S.1 S.2.1 dX5_takesLetter_3 (by decide) ?_
    refine lv_icmp_ge (tgt := 31) S.1 S.2.1 dX5_takesLetter_5 (by decide) (fun hc_1 => ?_) (fun hc_1 => ?_)
    · have h := zif_pos hc_1 h
      exact zr_vret S hr hlk X h dX5_takesLetter_31
    · have h := zif_neg hc_1 h
      refine lv_aload_n S.1 S.2.1 dX5_takesLetter_8 rfl (lv_at hl 1 rfl) ?_
      refine lv_iload_n S.1 S.2.1 dX5_takesLetter_9 rfl (lv_at hl 3 rfl) ?_
      refine lv_aload_n S.1 S.2.1 dX5_takesLetter_10 rfl (lv_at hl 0 rfl) ?_
      refine zr_get (v := .ref (ad 6)) S K X (hcs 0 (by decide)) mE_R rfl uX5_takesLetter_X5 14 (by decide) kX5_takesLetter_25 rfl rfl dX5_takesLetter_11 ?_
      refine lv_bipush (v := (15 : Int32)) S.1 S.2.1 dX5_takesLetter_14 (by decide) ?_
      refine lv_bipush (v := (6 : Int32)) S.1 S.2.1 dX5_takesLetter_16 (by decide) ?_
      refine lv_iload_n S.1 S.2.1 dX5_takesLetter_18 rfl (lv_at hl 2 rfl) ?_
      refine lv_imul S.1 S.2.1 dX5_takesLetter_19 ?_
      refine lv_iadd S.1 S.2.1 dX5_takesLetter_20 ?_
      refine lv_iload_n S.1 S.2.1 dX5_takesLetter_21 rfl (lv_at hl 3 rfl) ?_
      refine lv_iadd S.1 S.2.1 dX5_takesLetter_22 ?_
      obtain ⟨hi_2, h⟩ := zin_some h
      refine zr_iald S K X (hcs 6 (by decide)) mE_6 hi_2 dX5_takesLetter_23 ?_
      obtain ⟨hi_3, h⟩ := zin_some h
      refine zr_iast S K X ha1.2 mE_loc (fun _ => (mE_A ha1)) hi_3 dX5_takesLetter_24 (fun H locs X => ?_)
      refine lv_iinc (v := (x3 + 1)) (lv' := [(3, .int (x3 + 1)), (0, .ref (ad 0)), (1, .ref (ad a1)), (2, .int a2)]) S.1 S.2.1 dX5_takesLetter_25 hl (k := 3) rfl rfl (by decide) rfl (fun ls hl => ?_)
      refine lv_goto (tgt := 2) S.1 S.2.1 dX5_takesLetter_28 (by decide) ?_
      exact hk2 (x3 + 1) (up2 G a1 (Int32.toNatClampNeg x3) (G 6 (Int32.toNatClampNeg (((15 : Int32) + ((6 : Int32) * a2)) + x3)))) tr h _ _ _ X (lv_sub hl [1, 2, 3, 0] rfl)
  have L2 : ∀ (n : Nat) (x3 : Int32) (G : zMem) (tr : Int64), fX5_takesLetter_L2 N a1 a2 n x3 G tr = some (r9, G9, tr9) → zAt p l e (headSpec wsX5_takesLetter { frames := 0, cells := 0, slots := 0, locals := 0 }).room s m ([.ref (ad 0), .ref (ad a1), .int a2] : List Value).toArray below meth c 4 D cs ad (zQV below ([.ref (ad 0), .ref (ad a1), .int a2] : List Value).toArray s D cs ad ((mE ki ad) G9 tr9)) 2 [(0, .ref (ad 0)), (1, .ref (ad a1)), (2, .int a2), (3, .int x3)] [] ((mE ki ad) G tr) := by
    intro n
    induction n with
    | zero => intro x3 G tr h; cases h
    | succ n ih => intro x3 G tr h; exact b2 (fX5_takesLetter_L2 N a1 a2 n) ih x3 G tr h
  unfold fX5_takesLetter at h
  obtain ⟨H, hH⟩ : ∃ H, H = s.heap := ⟨_, rfl⟩
  obtain ⟨locs, hlo⟩ : ∃ locs : List Loc, locs = [] := ⟨_, rfl⟩
  have X : gS D cs ad ((mE ki ad) G tr) (gA cs ad s.heap.size) s H locs := by rw [hH, hlo]; exact X
  suffices z : W p l e (headSpec wsX5_takesLetter { frames := 0, cells := 0, slots := 0, locals := 0 }).room s m ([.ref (ad 0), .ref (ad a1), .int a2] : List Value).toArray below meth c H locs 0 0 (zQV below ([.ref (ad 0), .ref (ad a1), .int a2] : List Value).toArray s D cs ad ((mE ki ad) G9 tr9)) (F0 m 0 ls []) by rw [hH, hlo] at z; exact z
  clear hH hlo
  refine lv_iconst (v := (0 : Int32)) S.1 S.2.1 dX5_takesLetter_0 (by decide) ?_
  refine lv_istore_n (lv' := [(3, .int (0 : Int32)), (0, .ref (ad 0)), (1, .ref (ad a1)), (2, .int a2)]) S.1 S.2.1 dX5_takesLetter_1 rfl hl (by decide) rfl (fun ls hl => ?_)
  exact L2 N (0 : Int32) G tr h _ _ _ X (lv_sub hl [1, 2, 3, 0] rfl)
set_option maxRecDepth 20000 in
theorem ggX5_goes_X5_takesLetter : GoodIn wsX5_goes wsX5_takesLetter := goodIn_r _ [7, 2, 31, 32, 33, 34, 35, 36, 37, 38, 39, 40, 41, 42, 43, 44, 45, 46, 47, 48, 49, 50, 51, 52] (by decide +kernel) (by decide +kernel)
set_option maxRecDepth 20000 in
theorem gX5_goes_X5_takesLetter : GoodIn wsX5_goes (wsV RX5 149 RX5 yX5_takesLetter wsX5_takesLetter) := goodIn_app (goodIn_of _ (by decide +kernel)) ggX5_goes_X5_takesLetter
set_option maxRecDepth 20000 in
theorem ggX5_goes_X5_windOf : GoodIn wsX5_goes wsX5_windOf := goodIn_r _ [11, 12, 2, 31, 32, 33, 34, 35, 36, 37, 38, 39, 40, 41, 42, 43, 44, 45, 46, 47, 48, 49, 50, 51, 52] (by decide +kernel) (by decide +kernel)
set_option maxRecDepth 20000 in
theorem gX5_goes_X5_windOf : GoodIn wsX5_goes (wsV RX5 125 RX5 yX5_windOf wsX5_windOf) := goodIn_app (goodIn_of _ (by decide +kernel)) ggX5_goes_X5_windOf
set_option maxRecDepth 20000 in
theorem ggX5_goes_X5_blows : GoodIn wsX5_goes wsX5_blows := goodIn_r _ [16, 12, 17, 18, 19, 6, 20, 21, 22, 23, 24, 25, 26, 27, 28, 29, 30, 31, 32, 33, 34, 35, 36, 37, 38, 39, 40, 41, 42, 43, 44, 45, 46, 47, 48, 49, 50, 51, 52] (by decide +kernel) (by decide +kernel)
set_option maxRecDepth 20000 in
theorem gX5_goes_X5_blows : GoodIn wsX5_goes (wsV RX5 145 RX5 yX5_blows wsX5_blows) := goodIn_app (goodIn_of _ (by decide +kernel)) ggX5_goes_X5_blows
theorem dX5_goes_0 : decode cX5_goes 0 = .ok (.aload_n 0, 1) := by decide +kernel
theorem dX5_goes_1 : decode cX5_goes 1 = .ok (.aload_n 0, 1) := by decide +kernel
theorem dX5_goes_2 : decode cX5_goes 2 = .ok (.getfield 38, 3) := by decide +kernel
theorem dX5_goes_5 : decode cX5_goes 5 = .ok (.iload_n 1, 1) := by decide +kernel
theorem dX5_goes_6 : decode cX5_goes 6 = .ok (.invokevirtual 149, 3) := by decide +kernel
theorem dX5_goes_9 : decode cX5_goes 9 = .ok (.iconst 0, 1) := by decide +kernel
theorem dX5_goes_10 : decode cX5_goes 10 = .ok (.istore_n 3, 1) := by decide +kernel
theorem dX5_goes_11 : decode cX5_goes 11 = .ok (.iload_n 3, 1) := by decide +kernel
theorem dX5_goes_12 : decode cX5_goes 12 = .ok (.iload_n 2, 1) := by decide +kernel
theorem dX5_goes_13 : decode cX5_goes 13 = .ok (.if_icmp .ge 36, 3) := by decide +kernel
theorem dX5_goes_16 : decode cX5_goes 16 = .ok (.aload_n 0, 1) := by decide +kernel
theorem dX5_goes_17 : decode cX5_goes 17 = .ok (.aload_n 0, 1) := by decide +kernel
theorem dX5_goes_18 : decode cX5_goes 18 = .ok (.getfield 38, 3) := by decide +kernel
theorem dX5_goes_21 : decode cX5_goes 21 = .ok (.iconst 0, 1) := by decide +kernel
theorem dX5_goes_22 : decode cX5_goes 22 = .ok (.aload_n 0, 1) := by decide +kernel
theorem dX5_goes_23 : decode cX5_goes 23 = .ok (.aload_n 0, 1) := by decide +kernel
theorem dX5_goes_24 : decode cX5_goes 24 = .ok (.getfield 25, 3) := by decide +kernel
theorem dX5_goes_27 : decode cX5_goes 27 = .ok (.iconst 0, 1) := by decide +kernel
theorem dX5_goes_28 : decode cX5_goes 28 = .ok (.iaload, 1) := by decide +kernel
theorem dX5_goes_29 : decode cX5_goes 29 = .ok (.iload_n 3, 1) := by decide +kernel
theorem dX5_goes_30 : decode cX5_goes 30 = .ok (.iadd, 1) := by decide +kernel
theorem dX5_goes_31 : decode cX5_goes 31 = .ok (.invokevirtual 125, 3) := by decide +kernel
theorem dX5_goes_34 : decode cX5_goes 34 = .ok (.aload_n 0, 1) := by decide +kernel
theorem dX5_goes_35 : decode cX5_goes 35 = .ok (.getfield 25, 3) := by decide +kernel
theorem dX5_goes_38 : decode cX5_goes 38 = .ok (.iconst 2, 1) := by decide +kernel
theorem dX5_goes_39 : decode cX5_goes 39 = .ok (.iaload, 1) := by decide +kernel
theorem dX5_goes_40 : decode cX5_goes 40 = .ok (.invokevirtual 145, 3) := by decide +kernel
theorem dX5_goes_43 : decode cX5_goes 43 = .ok (.iinc 3 1, 3) := by decide +kernel
theorem dX5_goes_46 : decode cX5_goes 46 = .ok (.goto (-35), 3) := by decide +kernel
theorem dX5_goes_49 : decode cX5_goes 49 = .ok (.return_, 1) := by decide +kernel
set_option maxRecDepth 20000 in
theorem kX5_goes_25 : Cond.fieldLink RX5 25 "WindPostModel" "s" "[I" ∈ wsX5_goes := by decide +kernel
set_option maxRecDepth 20000 in
theorem kX5_goes_38 : Cond.fieldLink RX5 38 "WindPostModel" "trial" "[I" ∈ wsX5_goes := by decide +kernel
set_option maxRecDepth 20000 in
theorem uX5_goes_X5 : ∀ w ∈ wsX50, w ∈ wsX5_goes := by decide +kernel
set_option maxHeartbeats 8000000 in
set_option maxRecDepth 100000 in
theorem mX5_goes (l : Launch) (D : va_G) (ki : Nat → ClassId) (ad : Nat → Nat) (cs : List Nat) (hcs : kR cs) (N : Nat) (a1 : Int32) (a2 : Int32) (G : zMem) (tr : Int64) : gMetV l D ki ad cs yX5_goes wsX5_goes { frames := 2, cells := 0, slots := 0, locals := 53 } [.ref (ad 0), .int a1, .int a2] (mE ki ad) G tr (fX5_goes N a1 a2 G tr) := by
  refine gMetV_of (cc := cX5_goes) (maxL := 4) (ret := none) (own := RX5) (by decide +kernel) rfl rfl (Nat.le_of_ble_eq_true rfl) ?_
  intro r9 G9 tr9 h p e s m below meth c S hr hlk K X ls hl
  have hl : lv_has ls 4 [(0, .ref (ad 0)), (1, .int a1), (2, .int a2)] := hl
  have b11 : ∀ (k11 : Int32 → zMem → Int64 → zR) (hk11 : ∀ (x3 : Int32) (G : zMem) (tr : Int64), k11 x3 G tr = some (r9, G9, tr9) → zAt p l e (headSpec wsX5_goes { frames := 2, cells := 0, slots := 0, locals := 53 }).room s m ([.ref (ad 0), .int a1, .int a2] : List Value).toArray below meth c 4 D cs ad (zQV below ([.ref (ad 0), .int a1, .int a2] : List Value).toArray s D cs ad ((mE ki ad) G9 tr9)) 11 [(0, .ref (ad 0)), (2, .int a2), (3, .int x3)] [] ((mE ki ad) G tr)) (x3 : Int32) (G : zMem) (tr : Int64), fX5_goes_b11 N a1 a2 k11 x3 G tr = some (r9, G9, tr9) → zAt p l e (headSpec wsX5_goes { frames := 2, cells := 0, slots := 0, locals := 53 }).room s m ([.ref (ad 0), .int a1, .int a2] : List Value).toArray below meth c 4 D cs ad (zQV below ([.ref (ad 0), .int a1, .int a2] : List Value).toArray s D cs ad ((mE ki ad) G9 tr9)) 11 [(0, .ref (ad 0)), (2, .int a2), (3, .int x3)] [] ((mE ki ad) G tr) := by
    intro k11 hk11 x3 G tr h H locs ls X hl
    unfold fX5_goes_b11 at h
    refine lv_iload_n S.1 S.2.1 dX5_goes_11 rfl (lv_at hl 2 rfl) ?_
    refine lv_iload_n S.1 S.2.1 dX5_goes_12 rfl (lv_at hl 1 rfl) ?_
    refine lv_icmp_ge (tgt := 49) S.1 S.2.1 dX5_goes_13 (by decide) (fun hc_1 => ?_) (fun hc_1 => ?_)
    · have h := zif_pos hc_1 h
      exact zr_vret S hr hlk X h dX5_goes_49
    · have h := zif_neg hc_1 h
      refine lv_aload_n S.1 S.2.1 dX5_goes_16 rfl (lv_at hl 0 rfl) ?_
      refine lv_aload_n S.1 S.2.1 dX5_goes_17 rfl (lv_at hl 0 rfl) ?_
      refine zr_get (v := .ref (ad 10)) S K X (hcs 0 (by decide)) mE_R rfl uX5_goes_X5 19 (by decide) kX5_goes_38 rfl rfl dX5_goes_18 ?_
      refine lv_iconst (v := (0 : Int32)) S.1 S.2.1 dX5_goes_21 (by decide) ?_
      refine lv_aload_n S.1 S.2.1 dX5_goes_22 rfl (lv_at hl 0 rfl) ?_
      refine lv_aload_n S.1 S.2.1 dX5_goes_23 rfl (lv_at hl 0 rfl) ?_
      refine zr_get (v := .ref (ad 6)) S K X (hcs 0 (by decide)) mE_R rfl uX5_goes_X5 14 (by decide) kX5_goes_25 rfl rfl dX5_goes_24 ?_
      refine lv_iconst (v := (0 : Int32)) S.1 S.2.1 dX5_goes_27 (by decide) ?_
      obtain ⟨hi_2, h⟩ := zin_some h
      refine zr_iald S K X (hcs 6 (by decide)) mE_6 hi_2 dX5_goes_28 ?_
      refine lv_iload_n S.1 S.2.1 dX5_goes_29 rfl (lv_at hl 2 rfl) ?_
      refine lv_iadd S.1 S.2.1 dX5_goes_30 ?_
      obtain ⟨r_4, G_5, tr_6, hf_3, h⟩ := zbd_some h
      refine zr_calli (Eg := (mE ki ad)) K X (va_runV (As := [.int ((G 6 (Int32.toNatClampNeg (0 : Int32))) + x3)]) (rest := [.int (0 : Int32), .ref (ad 10), .ref (ad 0)]) S (mX5_windOf l D ki ad cs hcs N ((G 6 (Int32.toNatClampNeg (0 : Int32))) + x3) G tr H.size _ _ _ hf_3) (cwV 1 S.2.2.2.2 gX5_goes_X5_windOf rfl rfl rfl (by decide +kernel) ⟨Nat.le_of_ble_eq_true rfl, Nat.le_of_ble_eq_true rfl⟩) (zr_preV (c0 := 0) K X (hcs 0 (by decide)) mE_R rfl) rfl rfl hl.1 rfl (lv_room (Nat.le_of_ble_eq_true rfl)) dX5_goes_31 ⟨Nat.zero_le _, Nat.zero_le _⟩) (fun H locs X => ?_)
      refine lv_aload_n S.1 S.2.1 dX5_goes_34 rfl (lv_at hl 0 rfl) ?_
      refine zr_get (v := .ref (ad 6)) S K X (hcs 0 (by decide)) mE_R rfl uX5_goes_X5 14 (by decide) kX5_goes_25 rfl rfl dX5_goes_35 ?_
      refine lv_iconst (v := (2 : Int32)) S.1 S.2.1 dX5_goes_38 (by decide) ?_
      obtain ⟨hi_7, h⟩ := zin_some h
      refine zr_iald S K X (hcs 6 (by decide)) mE_6 hi_7 dX5_goes_39 ?_
      obtain ⟨r_9, G_10, tr_11, hf_8, h⟩ := zbd_some h
      refine zr_callv (Eg := (mE ki ad)) K X (va_runV (As := [.ref (ad 10), .int (0 : Int32), .int r_4, .int (G_5 6 (Int32.toNatClampNeg (2 : Int32)))]) (rest := []) S (mX5_blows l D ki ad cs hcs N 10 (0 : Int32) r_4 (G_5 6 (Int32.toNatClampNeg (2 : Int32))) (kA_10 hcs) G_5 tr_6 H.size _ _ _ hf_8) (cwV 4 S.2.2.2.2 gX5_goes_X5_blows rfl rfl rfl (by decide +kernel) ⟨Nat.le_of_ble_eq_true rfl, Nat.le_of_ble_eq_true rfl⟩) (zr_preV (c0 := 0) K X (hcs 0 (by decide)) mE_R rfl) rfl rfl hl.1 rfl (lv_room (Nat.le_of_ble_eq_true rfl)) dX5_goes_40 ⟨Nat.zero_le _, Nat.zero_le _⟩) (fun H locs X => ?_)
      refine lv_iinc (v := (x3 + 1)) (lv' := [(3, .int (x3 + 1)), (0, .ref (ad 0)), (2, .int a2)]) S.1 S.2.1 dX5_goes_43 hl (k := 2) rfl rfl (by decide) rfl (fun ls hl => ?_)
      refine lv_goto (tgt := 11) S.1 S.2.1 dX5_goes_46 (by decide) ?_
      exact hk11 (x3 + 1) G_10 tr_11 h _ _ _ X (lv_sub hl [1, 2, 0] rfl)
  have L11 : ∀ (n : Nat) (x3 : Int32) (G : zMem) (tr : Int64), fX5_goes_L11 N a1 a2 n x3 G tr = some (r9, G9, tr9) → zAt p l e (headSpec wsX5_goes { frames := 2, cells := 0, slots := 0, locals := 53 }).room s m ([.ref (ad 0), .int a1, .int a2] : List Value).toArray below meth c 4 D cs ad (zQV below ([.ref (ad 0), .int a1, .int a2] : List Value).toArray s D cs ad ((mE ki ad) G9 tr9)) 11 [(0, .ref (ad 0)), (2, .int a2), (3, .int x3)] [] ((mE ki ad) G tr) := by
    intro n
    induction n with
    | zero => intro x3 G tr h; cases h
    | succ n ih => intro x3 G tr h; exact b11 (fX5_goes_L11 N a1 a2 n) ih x3 G tr h
  unfold fX5_goes at h
  obtain ⟨H, hH⟩ : ∃ H, H = s.heap := ⟨_, rfl⟩
  obtain ⟨locs, hlo⟩ : ∃ locs : List Loc, locs = [] := ⟨_, rfl⟩
  have X : gS D cs ad ((mE ki ad) G tr) (gA cs ad s.heap.size) s H locs := by rw [hH, hlo]; exact X
  suffices z : W p l e (headSpec wsX5_goes { frames := 2, cells := 0, slots := 0, locals := 53 }).room s m ([.ref (ad 0), .int a1, .int a2] : List Value).toArray below meth c H locs 0 0 (zQV below ([.ref (ad 0), .int a1, .int a2] : List Value).toArray s D cs ad ((mE ki ad) G9 tr9)) (F0 m 0 ls []) by rw [hH, hlo] at z; exact z
  clear hH hlo
  refine lv_aload_n S.1 S.2.1 dX5_goes_0 rfl (lv_at hl 0 rfl) ?_
  refine lv_aload_n S.1 S.2.1 dX5_goes_1 rfl (lv_at hl 0 rfl) ?_
  refine zr_get (v := .ref (ad 10)) S K X (hcs 0 (by decide)) mE_R rfl uX5_goes_X5 19 (by decide) kX5_goes_38 rfl rfl dX5_goes_2 ?_
  refine lv_iload_n S.1 S.2.1 dX5_goes_5 rfl (lv_at hl 1 rfl) ?_
  obtain ⟨r_2, G_3, tr_4, hf_1, h⟩ := zbd_some h
  refine zr_callv (Eg := (mE ki ad)) K X (va_runV (As := [.ref (ad 10), .int a1]) (rest := []) S (mX5_takesLetter l D ki ad cs hcs N 10 a1 (kA_10 hcs) G tr H.size _ _ _ hf_1) (cwV 2 S.2.2.2.2 gX5_goes_X5_takesLetter rfl rfl rfl (by decide +kernel) ⟨Nat.le_of_ble_eq_true rfl, Nat.le_of_ble_eq_true rfl⟩) (zr_preV (c0 := 0) K X (hcs 0 (by decide)) mE_R rfl) rfl rfl hl.1 rfl (lv_room (Nat.le_of_ble_eq_true rfl)) dX5_goes_6 ⟨Nat.zero_le _, Nat.zero_le _⟩) (fun H locs X => ?_)
  refine lv_iconst (v := (0 : Int32)) S.1 S.2.1 dX5_goes_9 (by decide) ?_
  refine lv_istore_n (lv' := [(3, .int (0 : Int32)), (0, .ref (ad 0)), (1, .int a1), (2, .int a2)]) S.1 S.2.1 dX5_goes_10 rfl hl (by decide) rfl (fun ls hl => ?_)
  exact L11 N (0 : Int32) G_3 tr_4 h _ _ _ X (lv_sub hl [1, 3, 0] rfl)
set_option maxRecDepth 20000 in
theorem ggX5_where_X5_isLetter : GoodIn wsX5_where wsX5_isLetter := goodIn_r _ [7, 8, 9, 10, 6, 11, 43, 44, 45, 46, 47, 48, 49, 50, 51, 52, 53, 54, 55, 56, 57, 58, 59, 60, 61, 62, 63, 64] (by decide +kernel) (by decide +kernel)
set_option maxRecDepth 20000 in
theorem gX5_where_X5_isLetter : GoodIn wsX5_where (wsV RX5 128 RX5 yX5_isLetter wsX5_isLetter) := goodIn_app (goodIn_of _ (by decide +kernel)) ggX5_where_X5_isLetter
set_option maxRecDepth 20000 in
theorem ggX5_where_X5_in : GoodIn wsX5_where wsX5_in := goodIn_r _ [11] (by decide +kernel) (by decide +kernel)
set_option maxRecDepth 20000 in
theorem gX5_where_X5_in : GoodIn wsX5_where (va_wsS RX5 51 yX5_in wsX5_in) := goodIn_app (goodIn_of _ (by decide +kernel)) ggX5_where_X5_in
set_option maxRecDepth 20000 in
theorem ggX5_where_X5_goes : GoodIn wsX5_where wsX5_goes := goodIn_r _ [15, 2, 8, 16, 17, 18, 6, 19, 20, 21, 22, 23, 24, 25, 26, 27, 28, 29, 30, 31, 32, 33, 34, 35, 36, 37, 38, 39, 40, 41, 42, 43, 44, 45, 46, 47, 48, 49, 50, 51, 52, 53, 54, 55, 56, 57, 58, 59, 60, 61, 62, 63, 64] (by decide +kernel) (by decide +kernel)
set_option maxRecDepth 20000 in
theorem gX5_where_X5_goes : GoodIn wsX5_where (wsV RX5 153 RX5 yX5_goes wsX5_goes) := goodIn_app (goodIn_of _ (by decide +kernel)) ggX5_where_X5_goes
theorem dX5_where_0 : decode cX5_where 0 = .ok (.aload_n 0, 1) := by decide +kernel
theorem dX5_where_1 : decode cX5_where 1 = .ok (.iconst 0, 1) := by decide +kernel
theorem dX5_where_2 : decode cX5_where 2 = .ok (.putfield 47, 3) := by decide +kernel
theorem dX5_where_5 : decode cX5_where 5 = .ok (.aload_n 0, 1) := by decide +kernel
theorem dX5_where_6 : decode cX5_where 6 = .ok (.iload_n 1, 1) := by decide +kernel
theorem dX5_where_7 : decode cX5_where 7 = .ok (.invokevirtual 128, 3) := by decide +kernel
theorem dX5_where_10 : decode cX5_where 10 = .ok (.ifCond .eq 13, 3) := by decide +kernel
theorem dX5_where_13 : decode cX5_where 13 = .ok (.iload_n 2, 1) := by decide +kernel
theorem dX5_where_14 : decode cX5_where 14 = .ok (.iconst 0, 1) := by decide +kernel
theorem dX5_where_15 : decode cX5_where 15 = .ok (.bipush 60, 2) := by decide +kernel
theorem dX5_where_17 : decode cX5_where 17 = .ok (.invokestatic 51, 3) := by decide +kernel
theorem dX5_where_20 : decode cX5_where 20 = .ok (.ifCond .ne 5, 3) := by decide +kernel
theorem dX5_where_23 : decode cX5_where 23 = .ok (.iconst (-1), 1) := by decide +kernel
theorem dX5_where_24 : decode cX5_where 24 = .ok (.ireturn, 1) := by decide +kernel
theorem dX5_where_25 : decode cX5_where 25 = .ok (.aload_n 0, 1) := by decide +kernel
theorem dX5_where_26 : decode cX5_where 26 = .ok (.iload_n 1, 1) := by decide +kernel
theorem dX5_where_27 : decode cX5_where 27 = .ok (.iload_n 2, 1) := by decide +kernel
theorem dX5_where_28 : decode cX5_where 28 = .ok (.invokevirtual 153, 3) := by decide +kernel
theorem dX5_where_31 : decode cX5_where 31 = .ok (.aload_n 0, 1) := by decide +kernel
theorem dX5_where_32 : decode cX5_where 32 = .ok (.getfield 38, 3) := by decide +kernel
theorem dX5_where_35 : decode cX5_where 35 = .ok (.iconst 3, 1) := by decide +kernel
theorem dX5_where_36 : decode cX5_where 36 = .ok (.iaload, 1) := by decide +kernel
theorem dX5_where_37 : decode cX5_where 37 = .ok (.ireturn, 1) := by decide +kernel
set_option maxRecDepth 20000 in
theorem kX5_where_38 : Cond.fieldLink RX5 38 "WindPostModel" "trial" "[I" ∈ wsX5_where := by decide +kernel
set_option maxRecDepth 20000 in
theorem kX5_where_47 : Cond.fieldLink RX5 47 "WindPostModel" "thrown" "I" ∈ wsX5_where := by decide +kernel
set_option maxRecDepth 20000 in
theorem uX5_where_X5 : ∀ w ∈ wsX50, w ∈ wsX5_where := by decide +kernel
set_option maxHeartbeats 8000000 in
set_option maxRecDepth 100000 in
theorem mX5_where (l : Launch) (D : va_G) (ki : Nat → ClassId) (ad : Nat → Nat) (cs : List Nat) (hcs : kR cs) (N : Nat) (a1 : Int32) (a2 : Int32) (G : zMem) (tr : Int64) : gMetI l D ki ad cs yX5_where wsX5_where { frames := 3, cells := 0, slots := 0, locals := 76 } [.ref (ad 0), .int a1, .int a2] (mE ki ad) G tr (fX5_where N a1 a2 G tr) := by
  refine gMetI_of (cc := cX5_where) (maxL := 3) (ret := (some .int)) (own := RX5) (by decide +kernel) rfl rfl (Nat.le_of_ble_eq_true rfl) ?_
  intro r9 G9 tr9 h p e s m below meth c S hr hlk K X ls hl
  have hl : lv_has ls 3 [(0, .ref (ad 0)), (1, .int a1), (2, .int a2)] := hl
  unfold fX5_where at h
  obtain ⟨H, hH⟩ : ∃ H, H = s.heap := ⟨_, rfl⟩
  obtain ⟨locs, hlo⟩ : ∃ locs : List Loc, locs = [] := ⟨_, rfl⟩
  have X : gS D cs ad ((mE ki ad) G tr) (gA cs ad s.heap.size) s H locs := by rw [hH, hlo]; exact X
  suffices z : W p l e (headSpec wsX5_where { frames := 3, cells := 0, slots := 0, locals := 76 }).room s m ([.ref (ad 0), .int a1, .int a2] : List Value).toArray below meth c H locs 0 0 (zQI below ([.ref (ad 0), .int a1, .int a2] : List Value).toArray s D cs ad ((mE ki ad) G9 tr9) r9) (F0 m 0 ls []) by rw [hH, hlo] at z; exact z
  clear hH hlo
  refine lv_aload_n S.1 S.2.1 dX5_where_0 rfl (lv_at hl 0 rfl) ?_
  refine lv_iconst (v := (0 : Int32)) S.1 S.2.1 dX5_where_1 (by decide) ?_
  refine zr_put (xv := (0 : Int32)) (v := .int (0 : Int32)) (fsf := (fsR ad tr)) (ty := .int) S K X (hcs 0 (by decide)) mE_loc (fun _ => mE_R) rfl uX5_where_X5 tyX5 tyX5_ok nmX5 0 (by decide) kX5_where_47 rfl (by decide +kernel) rfl rfl (by simp) rfl dX5_where_2 (fun H locs X => ?_)
  refine lv_aload_n S.1 S.2.1 dX5_where_5 rfl (lv_at hl 0 rfl) ?_
  refine lv_iload_n S.1 S.2.1 dX5_where_6 rfl (lv_at hl 1 rfl) ?_
  obtain ⟨r_2, G_3, tr_4, hf_1, h⟩ := zbd_some h
  refine zr_calli (Eg := (mE ki ad)) K X (va_runV (As := [.int a1]) (rest := []) S (mX5_isLetter l D ki ad cs hcs N a1 (up2 G 0 0 (0 : Int32)) tr H.size _ _ _ hf_1) (cwV 1 S.2.2.2.2 gX5_where_X5_isLetter rfl rfl rfl (by decide +kernel) ⟨Nat.le_of_ble_eq_true rfl, Nat.le_of_ble_eq_true rfl⟩) (zr_preV (c0 := 0) K X (hcs 0 (by decide)) mE_R rfl) rfl rfl hl.1 rfl (lv_room (Nat.le_of_ble_eq_true rfl)) dX5_where_7 ⟨Nat.zero_le _, Nat.zero_le _⟩) (fun H locs X => ?_)
  refine lv_if_eq (tgt := 23) S.1 S.2.1 dX5_where_10 (by decide) (fun hc_5 => ?_) (fun hc_5 => ?_)
  · have h := zif_pos hc_5 h
    refine lv_iconst (v := (-1 : Int32)) S.1 S.2.1 dX5_where_23 (by decide) ?_
    exact zr_iret S hr hlk X h dX5_where_24
  · have h := zif_neg hc_5 h
    refine lv_iload_n S.1 S.2.1 dX5_where_13 rfl (lv_at hl 2 rfl) ?_
    refine lv_iconst (v := (0 : Int32)) S.1 S.2.1 dX5_where_14 (by decide) ?_
    refine lv_bipush (v := (60 : Int32)) S.1 S.2.1 dX5_where_15 (by decide) ?_
    obtain ⟨r_7, hf_6, h⟩ := zbp_some h
    refine zr_calli (Eg := (mE ki ad)) (G' := G_3) (tr' := tr_4) K X (va_runS (As := [.int a2, .int (0 : Int32), .int (60 : Int32)]) (rest := []) S (mX5_in l D ki ad cs N a2 (0 : Int32) (60 : Int32) (mE ki ad) G_3 tr_4 H.size _ _ _ (zpu_of hf_6)) (va_cwS 3 S.2.2.2.2 gX5_where_X5_in rfl rfl rfl (by decide +kernel) ⟨Nat.le_of_ble_eq_true rfl, Nat.le_of_ble_eq_true rfl⟩) (zr_pre K X) rfl rfl hl.1 rfl (lv_room (Nat.le_of_ble_eq_true rfl)) dX5_where_17 ⟨Nat.zero_le _, Nat.zero_le _⟩) (fun H locs X => ?_)
    refine lv_if_ne (tgt := 25) S.1 S.2.1 dX5_where_20 (by decide) (fun hc_8 => ?_) (fun hc_8 => ?_)
    · have h := zif_neg hc_8 h
      refine lv_aload_n S.1 S.2.1 dX5_where_25 rfl (lv_at hl 0 rfl) ?_
      refine lv_iload_n S.1 S.2.1 dX5_where_26 rfl (lv_at hl 1 rfl) ?_
      refine lv_iload_n S.1 S.2.1 dX5_where_27 rfl (lv_at hl 2 rfl) ?_
      obtain ⟨r_10, G_11, tr_12, hf_9, h⟩ := zbd_some h
      refine zr_callv (Eg := (mE ki ad)) K X (va_runV (As := [.int a1, .int a2]) (rest := []) S (mX5_goes l D ki ad cs hcs N a1 a2 G_3 tr_4 H.size _ _ _ hf_9) (cwV 2 S.2.2.2.2 gX5_where_X5_goes rfl rfl rfl (by decide +kernel) ⟨Nat.le_of_ble_eq_true rfl, Nat.le_of_ble_eq_true rfl⟩) (zr_preV (c0 := 0) K X (hcs 0 (by decide)) mE_R rfl) rfl rfl hl.1 rfl (lv_room (Nat.le_of_ble_eq_true rfl)) dX5_where_28 ⟨Nat.zero_le _, Nat.zero_le _⟩) (fun H locs X => ?_)
      refine lv_aload_n S.1 S.2.1 dX5_where_31 rfl (lv_at hl 0 rfl) ?_
      refine zr_get (v := .ref (ad 10)) S K X (hcs 0 (by decide)) mE_R rfl uX5_where_X5 19 (by decide) kX5_where_38 rfl rfl dX5_where_32 ?_
      refine lv_iconst (v := (3 : Int32)) S.1 S.2.1 dX5_where_35 (by decide) ?_
      obtain ⟨hi_13, h⟩ := zin_some h
      refine zr_iald S K X (hcs 10 (by decide)) mE_10 hi_13 dX5_where_36 ?_
      exact zr_iret S hr hlk X h dX5_where_37
    · have h := zif_pos hc_8 h
      refine lv_iconst (v := (-1 : Int32)) S.1 S.2.1 dX5_where_23 (by decide) ?_
      exact zr_iret S hr hlk X h dX5_where_24
set_option maxRecDepth 20000 in
theorem ggX5_comesIn_X5_windOf : GoodIn wsX5_comesIn wsX5_windOf := goodIn_r _ [7, 8, 2, 27, 28, 29, 30, 31, 32, 33, 34, 35, 36, 37, 38, 39, 40, 41, 42, 43, 44, 45, 46, 47, 48] (by decide +kernel) (by decide +kernel)
set_option maxRecDepth 20000 in
theorem gX5_comesIn_X5_windOf : GoodIn wsX5_comesIn (wsV RX5 125 RX5 yX5_windOf wsX5_windOf) := goodIn_app (goodIn_of _ (by decide +kernel)) ggX5_comesIn_X5_windOf
set_option maxRecDepth 20000 in
theorem ggX5_comesIn_X5_blows : GoodIn wsX5_comesIn wsX5_blows := goodIn_r _ [12, 8, 13, 14, 15, 6, 16, 17, 18, 19, 20, 21, 22, 23, 24, 25, 26, 27, 28, 29, 30, 31, 32, 33, 34, 35, 36, 37, 38, 39, 40, 41, 42, 43, 44, 45, 46, 47, 48] (by decide +kernel) (by decide +kernel)
set_option maxRecDepth 20000 in
theorem gX5_comesIn_X5_blows : GoodIn wsX5_comesIn (wsV RX5 145 RX5 yX5_blows wsX5_blows) := goodIn_app (goodIn_of _ (by decide +kernel)) ggX5_comesIn_X5_blows
theorem dX5_comesIn_0 : decode cX5_comesIn 0 = .ok (.iconst 0, 1) := by decide +kernel
theorem dX5_comesIn_1 : decode cX5_comesIn 1 = .ok (.istore_n 3, 1) := by decide +kernel
theorem dX5_comesIn_2 : decode cX5_comesIn 2 = .ok (.iload_n 3, 1) := by decide +kernel
theorem dX5_comesIn_3 : decode cX5_comesIn 3 = .ok (.sipush 400, 3) := by decide +kernel
theorem dX5_comesIn_6 : decode cX5_comesIn 6 = .ok (.if_icmp .gt 45, 3) := by decide +kernel
theorem dX5_comesIn_9 : decode cX5_comesIn 9 = .ok (.aload_n 0, 1) := by decide +kernel
theorem dX5_comesIn_10 : decode cX5_comesIn 10 = .ok (.getfield 38, 3) := by decide +kernel
theorem dX5_comesIn_13 : decode cX5_comesIn 13 = .ok (.iconst 5, 1) := by decide +kernel
theorem dX5_comesIn_14 : decode cX5_comesIn 14 = .ok (.iaload, 1) := by decide +kernel
theorem dX5_comesIn_15 : decode cX5_comesIn 15 = .ok (.iconst 1, 1) := by decide +kernel
theorem dX5_comesIn_16 : decode cX5_comesIn 16 = .ok (.if_icmp .ne 5, 3) := by decide +kernel
theorem dX5_comesIn_19 : decode cX5_comesIn 19 = .ok (.iload_n 3, 1) := by decide +kernel
theorem dX5_comesIn_20 : decode cX5_comesIn 20 = .ok (.ireturn, 1) := by decide +kernel
theorem dX5_comesIn_21 : decode cX5_comesIn 21 = .ok (.aload_n 0, 1) := by decide +kernel
theorem dX5_comesIn_22 : decode cX5_comesIn 22 = .ok (.aload_n 0, 1) := by decide +kernel
theorem dX5_comesIn_23 : decode cX5_comesIn 23 = .ok (.getfield 38, 3) := by decide +kernel
theorem dX5_comesIn_26 : decode cX5_comesIn 26 = .ok (.iconst 0, 1) := by decide +kernel
theorem dX5_comesIn_27 : decode cX5_comesIn 27 = .ok (.aload_n 0, 1) := by decide +kernel
theorem dX5_comesIn_28 : decode cX5_comesIn 28 = .ok (.aload_n 0, 1) := by decide +kernel
theorem dX5_comesIn_29 : decode cX5_comesIn 29 = .ok (.getfield 25, 3) := by decide +kernel
theorem dX5_comesIn_32 : decode cX5_comesIn 32 = .ok (.iconst 0, 1) := by decide +kernel
theorem dX5_comesIn_33 : decode cX5_comesIn 33 = .ok (.iaload, 1) := by decide +kernel
theorem dX5_comesIn_34 : decode cX5_comesIn 34 = .ok (.iload_n 1, 1) := by decide +kernel
theorem dX5_comesIn_35 : decode cX5_comesIn 35 = .ok (.iadd, 1) := by decide +kernel
theorem dX5_comesIn_36 : decode cX5_comesIn 36 = .ok (.iload_n 3, 1) := by decide +kernel
theorem dX5_comesIn_37 : decode cX5_comesIn 37 = .ok (.iadd, 1) := by decide +kernel
theorem dX5_comesIn_38 : decode cX5_comesIn 38 = .ok (.invokevirtual 125, 3) := by decide +kernel
theorem dX5_comesIn_41 : decode cX5_comesIn 41 = .ok (.iload_n 2, 1) := by decide +kernel
theorem dX5_comesIn_42 : decode cX5_comesIn 42 = .ok (.invokevirtual 145, 3) := by decide +kernel
theorem dX5_comesIn_45 : decode cX5_comesIn 45 = .ok (.iinc 3 1, 3) := by decide +kernel
theorem dX5_comesIn_48 : decode cX5_comesIn 48 = .ok (.goto (-46), 3) := by decide +kernel
theorem dX5_comesIn_51 : decode cX5_comesIn 51 = .ok (.bipush (-9), 2) := by decide +kernel
theorem dX5_comesIn_53 : decode cX5_comesIn 53 = .ok (.ireturn, 1) := by decide +kernel
set_option maxRecDepth 20000 in
theorem kX5_comesIn_25 : Cond.fieldLink RX5 25 "WindPostModel" "s" "[I" ∈ wsX5_comesIn := by decide +kernel
set_option maxRecDepth 20000 in
theorem kX5_comesIn_38 : Cond.fieldLink RX5 38 "WindPostModel" "trial" "[I" ∈ wsX5_comesIn := by decide +kernel
set_option maxRecDepth 20000 in
theorem uX5_comesIn_X5 : ∀ w ∈ wsX50, w ∈ wsX5_comesIn := by decide +kernel
set_option maxHeartbeats 8000000 in
set_option maxRecDepth 100000 in
theorem mX5_comesIn (l : Launch) (D : va_G) (ki : Nat → ClassId) (ad : Nat → Nat) (cs : List Nat) (hcs : kR cs) (N : Nat) (a1 : Int32) (a2 : Int32) (G : zMem) (tr : Int64) : gMetI l D ki ad cs yX5_comesIn wsX5_comesIn { frames := 2, cells := 0, slots := 0, locals := 53 } [.ref (ad 0), .int a1, .int a2] (mE ki ad) G tr (fX5_comesIn N a1 a2 G tr) := by
  refine gMetI_of (cc := cX5_comesIn) (maxL := 4) (ret := (some .int)) (own := RX5) (by decide +kernel) rfl rfl (Nat.le_of_ble_eq_true rfl) ?_
  intro r9 G9 tr9 h p e s m below meth c S hr hlk K X ls hl
  have hl : lv_has ls 4 [(0, .ref (ad 0)), (1, .int a1), (2, .int a2)] := hl
  have b2 : ∀ (k2 : Int32 → zMem → Int64 → zR) (hk2 : ∀ (x3 : Int32) (G : zMem) (tr : Int64), k2 x3 G tr = some (r9, G9, tr9) → zAt p l e (headSpec wsX5_comesIn { frames := 2, cells := 0, slots := 0, locals := 53 }).room s m ([.ref (ad 0), .int a1, .int a2] : List Value).toArray below meth c 4 D cs ad (zQI below ([.ref (ad 0), .int a1, .int a2] : List Value).toArray s D cs ad ((mE ki ad) G9 tr9) r9) 2 [(0, .ref (ad 0)), (1, .int a1), (2, .int a2), (3, .int x3)] [] ((mE ki ad) G tr)) (x3 : Int32) (G : zMem) (tr : Int64), fX5_comesIn_b2 N a1 a2 k2 x3 G tr = some (r9, G9, tr9) → zAt p l e (headSpec wsX5_comesIn { frames := 2, cells := 0, slots := 0, locals := 53 }).room s m ([.ref (ad 0), .int a1, .int a2] : List Value).toArray below meth c 4 D cs ad (zQI below ([.ref (ad 0), .int a1, .int a2] : List Value).toArray s D cs ad ((mE ki ad) G9 tr9) r9) 2 [(0, .ref (ad 0)), (1, .int a1), (2, .int a2), (3, .int x3)] [] ((mE ki ad) G tr) := by
    intro k2 hk2 x3 G tr h H locs ls X hl
    unfold fX5_comesIn_b2 at h
    refine lv_iload_n S.1 S.2.1 dX5_comesIn_2 rfl (lv_at hl 3 rfl) ?_
    refine lv_sipush (v := (400 : Int32)) S.1 S.2.1 dX5_comesIn_3 (by decide) ?_
    refine lv_icmp_gt (tgt := 51) S.1 S.2.1 dX5_comesIn_6 (by decide) (fun hc_1 => ?_) (fun hc_1 => ?_)
    · have h := zif_pos hc_1 h
      refine lv_bipush (v := (-9 : Int32)) S.1 S.2.1 dX5_comesIn_51 (by decide) ?_
      exact zr_iret S hr hlk X h dX5_comesIn_53
    · have h := zif_neg hc_1 h
      refine lv_aload_n S.1 S.2.1 dX5_comesIn_9 rfl (lv_at hl 0 rfl) ?_
      refine zr_get (v := .ref (ad 10)) S K X (hcs 0 (by decide)) mE_R rfl uX5_comesIn_X5 19 (by decide) kX5_comesIn_38 rfl rfl dX5_comesIn_10 ?_
      refine lv_iconst (v := (5 : Int32)) S.1 S.2.1 dX5_comesIn_13 (by decide) ?_
      obtain ⟨hi_2, h⟩ := zin_some h
      refine zr_iald S K X (hcs 10 (by decide)) mE_10 hi_2 dX5_comesIn_14 ?_
      refine lv_iconst (v := (1 : Int32)) S.1 S.2.1 dX5_comesIn_15 (by decide) ?_
      refine lv_icmp_ne (tgt := 21) S.1 S.2.1 dX5_comesIn_16 (by decide) (fun hc_3 => ?_) (fun hc_3 => ?_)
      · have h := zif_neg hc_3 h
        refine lv_aload_n S.1 S.2.1 dX5_comesIn_21 rfl (lv_at hl 0 rfl) ?_
        refine lv_aload_n S.1 S.2.1 dX5_comesIn_22 rfl (lv_at hl 0 rfl) ?_
        refine zr_get (v := .ref (ad 10)) S K X (hcs 0 (by decide)) mE_R rfl uX5_comesIn_X5 19 (by decide) kX5_comesIn_38 rfl rfl dX5_comesIn_23 ?_
        refine lv_iconst (v := (0 : Int32)) S.1 S.2.1 dX5_comesIn_26 (by decide) ?_
        refine lv_aload_n S.1 S.2.1 dX5_comesIn_27 rfl (lv_at hl 0 rfl) ?_
        refine lv_aload_n S.1 S.2.1 dX5_comesIn_28 rfl (lv_at hl 0 rfl) ?_
        refine zr_get (v := .ref (ad 6)) S K X (hcs 0 (by decide)) mE_R rfl uX5_comesIn_X5 14 (by decide) kX5_comesIn_25 rfl rfl dX5_comesIn_29 ?_
        refine lv_iconst (v := (0 : Int32)) S.1 S.2.1 dX5_comesIn_32 (by decide) ?_
        obtain ⟨hi_4, h⟩ := zin_some h
        refine zr_iald S K X (hcs 6 (by decide)) mE_6 hi_4 dX5_comesIn_33 ?_
        refine lv_iload_n S.1 S.2.1 dX5_comesIn_34 rfl (lv_at hl 1 rfl) ?_
        refine lv_iadd S.1 S.2.1 dX5_comesIn_35 ?_
        refine lv_iload_n S.1 S.2.1 dX5_comesIn_36 rfl (lv_at hl 3 rfl) ?_
        refine lv_iadd S.1 S.2.1 dX5_comesIn_37 ?_
        obtain ⟨r_6, G_7, tr_8, hf_5, h⟩ := zbd_some h
        refine zr_calli (Eg := (mE ki ad)) K X (va_runV (As := [.int (((G 6 (Int32.toNatClampNeg (0 : Int32))) + a1) + x3)]) (rest := [.int (0 : Int32), .ref (ad 10), .ref (ad 0)]) S (mX5_windOf l D ki ad cs hcs N (((G 6 (Int32.toNatClampNeg (0 : Int32))) + a1) + x3) G tr H.size _ _ _ hf_5) (cwV 1 S.2.2.2.2 gX5_comesIn_X5_windOf rfl rfl rfl (by decide +kernel) ⟨Nat.le_of_ble_eq_true rfl, Nat.le_of_ble_eq_true rfl⟩) (zr_preV (c0 := 0) K X (hcs 0 (by decide)) mE_R rfl) rfl rfl hl.1 rfl (lv_room (Nat.le_of_ble_eq_true rfl)) dX5_comesIn_38 ⟨Nat.zero_le _, Nat.zero_le _⟩) (fun H locs X => ?_)
        refine lv_iload_n S.1 S.2.1 dX5_comesIn_41 rfl (lv_at hl 2 rfl) ?_
        obtain ⟨r_10, G_11, tr_12, hf_9, h⟩ := zbd_some h
        refine zr_callv (Eg := (mE ki ad)) K X (va_runV (As := [.ref (ad 10), .int (0 : Int32), .int r_6, .int a2]) (rest := []) S (mX5_blows l D ki ad cs hcs N 10 (0 : Int32) r_6 a2 (kA_10 hcs) G_7 tr_8 H.size _ _ _ hf_9) (cwV 4 S.2.2.2.2 gX5_comesIn_X5_blows rfl rfl rfl (by decide +kernel) ⟨Nat.le_of_ble_eq_true rfl, Nat.le_of_ble_eq_true rfl⟩) (zr_preV (c0 := 0) K X (hcs 0 (by decide)) mE_R rfl) rfl rfl hl.1 rfl (lv_room (Nat.le_of_ble_eq_true rfl)) dX5_comesIn_42 ⟨Nat.zero_le _, Nat.zero_le _⟩) (fun H locs X => ?_)
        refine lv_iinc (v := (x3 + 1)) (lv' := [(3, .int (x3 + 1)), (0, .ref (ad 0)), (1, .int a1), (2, .int a2)]) S.1 S.2.1 dX5_comesIn_45 hl (k := 3) rfl rfl (by decide) rfl (fun ls hl => ?_)
        refine lv_goto (tgt := 2) S.1 S.2.1 dX5_comesIn_48 (by decide) ?_
        exact hk2 (x3 + 1) G_11 tr_12 h _ _ _ X (lv_sub hl [1, 2, 3, 0] rfl)
      · have h := zif_pos hc_3 h
        refine lv_iload_n S.1 S.2.1 dX5_comesIn_19 rfl (lv_at hl 3 rfl) ?_
        exact zr_iret S hr hlk X h dX5_comesIn_20
  have L2 : ∀ (n : Nat) (x3 : Int32) (G : zMem) (tr : Int64), fX5_comesIn_L2 N a1 a2 n x3 G tr = some (r9, G9, tr9) → zAt p l e (headSpec wsX5_comesIn { frames := 2, cells := 0, slots := 0, locals := 53 }).room s m ([.ref (ad 0), .int a1, .int a2] : List Value).toArray below meth c 4 D cs ad (zQI below ([.ref (ad 0), .int a1, .int a2] : List Value).toArray s D cs ad ((mE ki ad) G9 tr9) r9) 2 [(0, .ref (ad 0)), (1, .int a1), (2, .int a2), (3, .int x3)] [] ((mE ki ad) G tr) := by
    intro n
    induction n with
    | zero => intro x3 G tr h; cases h
    | succ n ih => intro x3 G tr h; exact b2 (fX5_comesIn_L2 N a1 a2 n) ih x3 G tr h
  unfold fX5_comesIn at h
  obtain ⟨H, hH⟩ : ∃ H, H = s.heap := ⟨_, rfl⟩
  obtain ⟨locs, hlo⟩ : ∃ locs : List Loc, locs = [] := ⟨_, rfl⟩
  have X : gS D cs ad ((mE ki ad) G tr) (gA cs ad s.heap.size) s H locs := by rw [hH, hlo]; exact X
  suffices z : W p l e (headSpec wsX5_comesIn { frames := 2, cells := 0, slots := 0, locals := 53 }).room s m ([.ref (ad 0), .int a1, .int a2] : List Value).toArray below meth c H locs 0 0 (zQI below ([.ref (ad 0), .int a1, .int a2] : List Value).toArray s D cs ad ((mE ki ad) G9 tr9) r9) (F0 m 0 ls []) by rw [hH, hlo] at z; exact z
  clear hH hlo
  refine lv_iconst (v := (0 : Int32)) S.1 S.2.1 dX5_comesIn_0 (by decide) ?_
  refine lv_istore_n (lv' := [(3, .int (0 : Int32)), (0, .ref (ad 0)), (1, .int a1), (2, .int a2)]) S.1 S.2.1 dX5_comesIn_1 rfl hl (by decide) rfl (fun ls hl => ?_)
  exact L2 N (0 : Int32) G tr h _ _ _ X (lv_sub hl [1, 2, 3, 0] rfl)
