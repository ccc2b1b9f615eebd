set_option maxRecDepth 20000 in
theorem ggX5_comes_X5_isLetter : GoodIn wsX5_comes wsX5_isLetter := goodIn_r _ [8, 3, 9, 10, 7, 11, 43, 44, 45, 46, 47, 48, 49, 50, 51, 52, 53, 54, 55, 56, 57, 58, 59, 60, 61, 62, 63, 64] (by decide +kernel) (by decide +kernel)
set_option maxRecDepth 20000 in
theorem gX5_comes_X5_isLetter : GoodIn wsX5_comes (wsV RX5 128 RX5 yX5_isLetter wsX5_isLetter) := goodIn_app (goodIn_of _ (by decide +kernel)) ggX5_comes_X5_isLetter
set_option maxRecDepth 20000 in
theorem ggX5_comes_X5_takesLetter : GoodIn wsX5_comes wsX5_takesLetter := goodIn_r _ [15, 3, 43, 44, 45, 46, 47, 48, 49, 50, 51, 52, 53, 54, 55, 56, 57, 58, 59, 60, 61, 62, 63, 64] (by decide +kernel) (by decide +kernel)
set_option maxRecDepth 20000 in
theorem gX5_comes_X5_takesLetter : GoodIn wsX5_comes (wsV RX5 149 RX5 yX5_takesLetter wsX5_takesLetter) := goodIn_app (goodIn_of _ (by decide +kernel)) ggX5_comes_X5_takesLetter
set_option maxRecDepth 20000 in
theorem ggX5_comes_X5_comesIn : GoodIn wsX5_comes wsX5_comesIn := goodIn_r _ [19, 2, 3, 20, 21, 22, 7, 23, 24, 25, 26, 27, 28, 29, 30, 31, 32, 33, 34, 35, 36, 37, 38, 39, 40, 41, 42, 43, 44, 45, 46, 47, 48, 49, 50, 51, 52, 53, 54, 55, 56, 57, 58, 59, 60, 61, 62, 63, 64] (by decide +kernel) (by decide +kernel)
set_option maxRecDepth 20000 in
theorem gX5_comes_X5_comesIn : GoodIn wsX5_comes (wsV RX5 157 RX5 yX5_comesIn wsX5_comesIn) := goodIn_app (goodIn_of _ (by decide +kernel)) ggX5_comes_X5_comesIn
theorem dX5_comes_0 : decode cX5_comes 0 = .ok (.aload_n 0, 1) := by decide +kernel
theorem dX5_comes_1 : decode cX5_comes 1 = .ok (.iconst 0, 1) := by decide +kernel
theorem dX5_comes_2 : decode cX5_comes 2 = .ok (.putfield 47, 3) := by decide +kernel
theorem dX5_comes_5 : decode cX5_comes 5 = .ok (.aload_n 0, 1) := by decide +kernel
theorem dX5_comes_6 : decode cX5_comes 6 = .ok (.iload_n 1, 1) := by decide +kernel
theorem dX5_comes_7 : decode cX5_comes 7 = .ok (.invokevirtual 128, 3) := by decide +kernel
theorem dX5_comes_10 : decode cX5_comes 10 = .ok (.ifCond .ne 5, 3) := by decide +kernel
theorem dX5_comes_13 : decode cX5_comes 13 = .ok (.iconst (-1), 1) := by decide +kernel
theorem dX5_comes_14 : decode cX5_comes 14 = .ok (.ireturn, 1) := by decide +kernel
theorem dX5_comes_15 : decode cX5_comes 15 = .ok (.aload_n 0, 1) := by decide +kernel
theorem dX5_comes_16 : decode cX5_comes 16 = .ok (.aload_n 0, 1) := by decide +kernel
theorem dX5_comes_17 : decode cX5_comes 17 = .ok (.getfield 38, 3) := by decide +kernel
theorem dX5_comes_20 : decode cX5_comes 20 = .ok (.iload_n 1, 1) := by decide +kernel
theorem dX5_comes_21 : decode cX5_comes 21 = .ok (.invokevirtual 149, 3) := by decide +kernel
theorem dX5_comes_24 : decode cX5_comes 24 = .ok (.aload_n 0, 1) := by decide +kernel
theorem dX5_comes_25 : decode cX5_comes 25 = .ok (.iconst 0, 1) := by decide +kernel
theorem dX5_comes_26 : decode cX5_comes 26 = .ok (.aload_n 0, 1) := by decide +kernel
theorem dX5_comes_27 : decode cX5_comes 27 = .ok (.getfield 25, 3) := by decide +kernel
theorem dX5_comes_30 : decode cX5_comes 30 = .ok (.iconst 2, 1) := by decide +kernel
theorem dX5_comes_31 : decode cX5_comes 31 = .ok (.iaload, 1) := by decide +kernel
theorem dX5_comes_32 : decode cX5_comes 32 = .ok (.invokevirtual 157, 3) := by decide +kernel
theorem dX5_comes_35 : decode cX5_comes 35 = .ok (.ireturn, 1) := by decide +kernel
set_option maxRecDepth 20000 in
theorem kX5_comes_25 : Cond.fieldLink RX5 25 "WindPostModel" "s" "[I" ∈ wsX5_comes := by decide +kernel
set_option maxRecDepth 20000 in
theorem kX5_comes_38 : Cond.fieldLink RX5 38 "WindPostModel" "trial" "[I" ∈ wsX5_comes := by decide +kernel
set_option maxRecDepth 20000 in
theorem kX5_comes_47 : Cond.fieldLink RX5 47 "WindPostModel" "thrown" "I" ∈ wsX5_comes := by decide +kernel
set_option maxRecDepth 20000 in
theorem uX5_comes_X5 : ∀ w ∈ wsX50, w ∈ wsX5_comes := by decide +kernel
set_option maxHeartbeats 8000000 in
set_option maxRecDepth 100000 in
theorem mX5_comes (l : Launch) (D : va_G) (ki : Nat → ClassId) (ad : Nat → Nat) (cs : List Nat) (hcs : kR cs) (N : Nat) (a1 : Int32) (G : zMem) (tr : Int64) : gMetI l D ki ad cs yX5_comes wsX5_comes { frames := 3, cells := 0, slots := 0, locals := 76 } [.ref (ad 0), .int a1] (mE ki ad) G tr (fX5_comes N a1 G tr) := by
  refine gMetI_of (cc := cX5_comes) (maxL := 2) (ret := (some .int)) (own := RX5) (by decide +kernel) rfl rfl (Nat.le_of_ble_eq_true rfl) ?_
  intro r9 G9 tr9 h p e s m below meth c S hr hlk K X ls hl
  have hl : lv_has ls 2 [(0, .ref (ad 0)), (1, .int a1)] := hl
  unfold fX5_comes at h
  obtain ⟨H, hH⟩ : ∃ H, H = s.heap := ⟨_, rfl⟩
  obtain ⟨locs, hlo⟩ : ∃ locs : List Loc, locs = [] := ⟨_, rfl⟩
  have X : gS D cs ad ((mE ki ad) G tr) (gA cs ad s.heap.size) s H locs := by rw [hH, hlo]; exact X
  suffices z : W p l e (headSpec wsX5_comes { frames := 3, cells := 0, slots := 0, locals := 76 }).room s m ([.ref (ad 0), .int a1] : List Value).toArray below meth c H locs 0 0 (zQI below ([.ref (ad 0), .int a1] : List Value).toArray s D cs ad ((mE ki ad) G9 tr9) r9) (F0 m 0 ls []) by rw [hH, hlo] at z; exact z
  clear hH hlo
  refine lv_aload_n S.1 S.2.1 dX5_comes_0 rfl (lv_at hl 0 rfl) ?_
  refine lv_iconst (v := (0 : Int32)) S.1 S.2.1 dX5_comes_1 (by decide) ?_
  refine zr_put (xv := (0 : Int32)) (v := .int (0 : Int32)) (fsf := (fsR ad tr)) (ty := .int) S K X (hcs 0 (by decide)) mE_loc (fun _ => mE_R) rfl uX5_comes_X5 tyX5 tyX5_ok nmX5 0 (by decide) kX5_comes_47 rfl (by decide +kernel) rfl rfl (by simp) rfl dX5_comes_2 (fun H locs X => ?_)
  refine lv_aload_n S.1 S.2.1 dX5_comes_5 rfl (lv_at hl 0 rfl) ?_
  refine lv_iload_n S.1 S.2.1 dX5_comes_6 rfl (lv_at hl 1 rfl) ?_
  obtain ⟨r_2, G_3, tr_4, hf_1, h⟩ := zbd_some h
  refine zr_calli (Eg := (mE ki ad)) K X (va_runV (As := [.int a1]) (rest := []) S (mX5_isLetter l D ki ad cs hcs N a1 (up2 G 0 0 (0 : Int32)) tr H.size _ _ _ hf_1) (cwV 1 S.2.2.2.2 gX5_comes_X5_isLetter rfl rfl rfl (by decide +kernel) ⟨Nat.le_of_ble_eq_true rfl, Nat.le_of_ble_eq_true rfl⟩) (zr_preV (c0 := 0) K X (hcs 0 (by decide)) mE_R rfl) rfl rfl hl.1 rfl (lv_room (Nat.le_of_ble_eq_true rfl)) dX5_comes_7 ⟨Nat.zero_le _, Nat.zero_le _⟩) (fun H locs X => ?_)
  refine lv_if_ne (tgt := 15) S.1 S.2.1 dX5_comes_10 (by decide) (fun hc_5 => ?_) (fun hc_5 => ?_)
  · have h := zif_neg hc_5 h
    refine lv_aload_n S.1 S.2.1 dX5_comes_15 rfl (lv_at hl 0 rfl) ?_
    refine lv_aload_n S.1 S.2.1 dX5_comes_16 rfl (lv_at hl 0 rfl) ?_
    refine zr_get (v := .ref (ad 10)) S K X (hcs 0 (by decide)) mE_R rfl uX5_comes_X5 19 (by decide) kX5_comes_38 rfl rfl dX5_comes_17 ?_
    refine lv_iload_n S.1 S.2.1 dX5_comes_20 rfl (lv_at hl 1 rfl) ?_
    obtain ⟨r_7, G_8, tr_9, hf_6, h⟩ := zbd_some h
    refine zr_callv (Eg := (mE ki ad)) K X (va_runV (As := [.ref (ad 10), .int a1]) (rest := []) S (mX5_takesLetter l D ki ad cs hcs N 10 a1 (kA_10 hcs) G_3 tr_4 H.size _ _ _ hf_6) (cwV 2 S.2.2.2.2 gX5_comes_X5_takesLetter rfl rfl rfl (by decide +kernel) ⟨Nat.le_of_ble_eq_true rfl, Nat.le_of_ble_eq_true rfl⟩) (zr_preV (c0 := 0) K X (hcs 0 (by decide)) mE_R rfl) rfl rfl hl.1 rfl (lv_room (Nat.le_of_ble_eq_true rfl)) dX5_comes_21 ⟨Nat.zero_le _, Nat.zero_le _⟩) (fun H locs X => ?_)
    refine lv_aload_n S.1 S.2.1 dX5_comes_24 rfl (lv_at hl 0 rfl) ?_
    refine lv_iconst (v := (0 : Int32)) S.1 S.2.1 dX5_comes_25 (by decide) ?_
    refine lv_aload_n S.1 S.2.1 dX5_comes_26 rfl (lv_at hl 0 rfl) ?_
    refine zr_get (v := .ref (ad 6)) S K X (hcs 0 (by decide)) mE_R rfl uX5_comes_X5 14 (by decide) kX5_comes_25 rfl rfl dX5_comes_27 ?_
    refine lv_iconst (v := (2 : Int32)) S.1 S.2.1 dX5_comes_30 (by decide) ?_
    obtain ⟨hi_10, h⟩ := zin_some h
    refine zr_iald S K X (hcs 6 (by decide)) mE_6 hi_10 dX5_comes_31 ?_
    obtain ⟨r_12, G_13, tr_14, hf_11, h⟩ := zbd_some h
    refine zr_calli (Eg := (mE ki ad)) K X (va_runV (As := [.int (0 : Int32), .int (G_8 6 (Int32.toNatClampNeg (2 : Int32)))]) (rest := []) S (mX5_comesIn l D ki ad cs hcs N (0 : Int32) (G_8 6 (Int32.toNatClampNeg (2 : Int32))) G_8 tr_9 H.size _ _ _ hf_11) (cwV 2 S.2.2.2.2 gX5_comes_X5_comesIn rfl rfl rfl (by decide +kernel) ⟨Nat.le_of_ble_eq_true rfl, Nat.le_of_ble_eq_true rfl⟩) (zr_preV (c0 := 0) K X (hcs 0 (by decide)) mE_R rfl) rfl rfl hl.1 rfl (lv_room (Nat.le_of_ble_eq_true rfl)) dX5_comes_32 ⟨Nat.zero_le _, Nat.zero_le _⟩) (fun H locs X => ?_)
    exact zr_iret S hr hlk X h dX5_comes_35
  · have h := zif_pos hc_5 h
    refine lv_iconst (v := (-1 : Int32)) S.1 S.2.1 dX5_comes_13 (by decide) ?_
    exact zr_iret S hr hlk X h dX5_comes_14
set_option maxRecDepth 20000 in
theorem ggX5_blots_X5_isLetter : GoodIn wsX5_blots wsX5_isLetter := goodIn_r _ [7, 8, 9, 10, 6, 11, 43, 44, 45, 46, 47, 48, 49, 50, 51, 52, 53, 54, 55, 56, 57, 58, 59, 60, 61, 62, 63, 64] (by decide +kernel) (by decide +kernel)
set_option maxRecDepth 20000 in
theorem gX5_blots_X5_isLetter : GoodIn wsX5_blots (wsV RX5 128 RX5 yX5_isLetter wsX5_isLetter) := goodIn_app (goodIn_of _ (by decide +kernel)) ggX5_blots_X5_isLetter
set_option maxRecDepth 20000 in
theorem ggX5_blots_X5_in : GoodIn wsX5_blots wsX5_in := goodIn_r _ [11] (by decide +kernel) (by decide +kernel)
set_option maxRecDepth 20000 in
theorem gX5_blots_X5_in : GoodIn wsX5_blots (va_wsS RX5 51 yX5_in wsX5_in) := goodIn_app (goodIn_of _ (by decide +kernel)) ggX5_blots_X5_in
set_option maxRecDepth 20000 in
theorem ggX5_blots_X5_goes : GoodIn wsX5_blots wsX5_goes := goodIn_r _ [15, 2, 8, 16, 17, 18, 6, 19, 20, 21, 22, 23, 24, 25, 26, 27, 28, 29, 30, 31, 32, 33, 34, 35, 36, 37, 38, 39, 40, 41, 42, 43, 44, 45, 46, 47, 48, 49, 50, 51, 52, 53, 54, 55, 56, 57, 58, 59, 60, 61, 62, 63, 64] (by decide +kernel) (by decide +kernel)
set_option maxRecDepth 20000 in
theorem gX5_blots_X5_goes : GoodIn wsX5_blots (wsV RX5 153 RX5 yX5_goes wsX5_goes) := goodIn_app (goodIn_of _ (by decide +kernel)) ggX5_blots_X5_goes
theorem dX5_blots_0 : decode cX5_blots 0 = .ok (.aload_n 0, 1) := by decide +kernel
theorem dX5_blots_1 : decode cX5_blots 1 = .ok (.iconst 0, 1) := by decide +kernel
theorem dX5_blots_2 : decode cX5_blots 2 = .ok (.putfield 47, 3) := by decide +kernel
theorem dX5_blots_5 : decode cX5_blots 5 = .ok (.aload_n 0, 1) := by decide +kernel
theorem dX5_blots_6 : decode cX5_blots 6 = .ok (.iload_n 1, 1) := by decide +kernel
theorem dX5_blots_7 : decode cX5_blots 7 = .ok (.invokevirtual 128, 3) := by decide +kernel
theorem dX5_blots_10 : decode cX5_blots 10 = .ok (.ifCond .eq 13, 3) := by decide +kernel
theorem dX5_blots_13 : decode cX5_blots 13 = .ok (.iload_n 2, 1) := by decide +kernel
theorem dX5_blots_14 : decode cX5_blots 14 = .ok (.iconst 0, 1) := by decide +kernel
theorem dX5_blots_15 : decode cX5_blots 15 = .ok (.bipush 60, 2) := by decide +kernel
theorem dX5_blots_17 : decode cX5_blots 17 = .ok (.invokestatic 51, 3) := by decide +kernel
theorem dX5_blots_20 : decode cX5_blots 20 = .ok (.ifCond .ne 5, 3) := by decide +kernel
theorem dX5_blots_23 : decode cX5_blots 23 = .ok (.iconst (-1), 1) := by decide +kernel
theorem dX5_blots_24 : decode cX5_blots 24 = .ok (.ireturn, 1) := by decide +kernel
theorem dX5_blots_25 : decode cX5_blots 25 = .ok (.aload_n 0, 1) := by decide +kernel
theorem dX5_blots_26 : decode cX5_blots 26 = .ok (.iload_n 1, 1) := by decide +kernel
theorem dX5_blots_27 : decode cX5_blots 27 = .ok (.iload_n 2, 1) := by decide +kernel
theorem dX5_blots_28 : decode cX5_blots 28 = .ok (.invokevirtual 153, 3) := by decide +kernel
theorem dX5_blots_31 : decode cX5_blots 31 = .ok (.aload_n 0, 1) := by decide +kernel
theorem dX5_blots_32 : decode cX5_blots 32 = .ok (.getfield 38, 3) := by decide +kernel
theorem dX5_blots_35 : decode cX5_blots 35 = .ok (.iconst 4, 1) := by decide +kernel
theorem dX5_blots_36 : decode cX5_blots 36 = .ok (.iaload, 1) := by decide +kernel
theorem dX5_blots_37 : decode cX5_blots 37 = .ok (.ireturn, 1) := by decide +kernel
set_option maxRecDepth 20000 in
theorem kX5_blots_38 : Cond.fieldLink RX5 38 "WindPostModel" "trial" "[I" ∈ wsX5_blots := by decide +kernel
set_option maxRecDepth 20000 in
theorem kX5_blots_47 : Cond.fieldLink RX5 47 "WindPostModel" "thrown" "I" ∈ wsX5_blots := by decide +kernel
set_option maxRecDepth 20000 in
theorem uX5_blots_X5 : ∀ w ∈ wsX50, w ∈ wsX5_blots := by decide +kernel
set_option maxHeartbeats 8000000 in
set_option maxRecDepth 100000 in
theorem mX5_blots (l : Launch) (D : va_G) (ki : Nat → ClassId) (ad : Nat → Nat) (cs : List Nat) (hcs : kR cs) (N : Nat) (a1 : Int32) (a2 : Int32) (G : zMem) (tr : Int64) : gMetI l D ki ad cs yX5_blots wsX5_blots { frames := 3, cells := 0, slots := 0, locals := 76 } [.ref (ad 0), .int a1, .int a2] (mE ki ad) G tr (fX5_blots N a1 a2 G tr) := by
  refine gMetI_of (cc := cX5_blots) (maxL := 3) (ret := (some .int)) (own := RX5) (by decide +kernel) rfl rfl (Nat.le_of_ble_eq_true rfl) ?_
  intro r9 G9 tr9 h p e s m below meth c S hr hlk K X ls hl
  have hl : lv_has ls 3 [(0, .ref (ad 0)), (1, .int a1), (2, .int a2)] := hl
  unfold fX5_blots at h
  obtain ⟨H, hH⟩ : ∃ H, H = s.heap := ⟨_, rfl⟩
  obtain ⟨locs, hlo⟩ : ∃ locs : List Loc, locs = [] := ⟨_, rfl⟩
  have X : gS D cs ad ((mE ki ad) G tr) (gA cs ad s.heap.size) s H locs := by rw [hH, hlo]; exact X
  suffices z : W p l e (headSpec wsX5_blots { frames := 3, cells := 0, slots := 0, locals := 76 }).room s m ([.ref (ad 0), .int a1, .int a2] : List Value).toArray below meth c H locs 0 0 (zQI below ([.ref (ad 0), .int a1, .int a2] : List Value).toArray s D cs ad ((mE ki ad) G9 tr9) r9) (F0 m 0 ls []) by rw [hH, hlo] at z; exact z
  clear hH hlo
  refine lv_aload_n S.1 S.2.1 dX5_blots_0 rfl (lv_at hl 0 rfl) ?_
  refine lv_iconst (v := (0 : Int32)) S.1 S.2.1 dX5_blots_1 (by decide) ?_
  refine zr_put (xv := (0 : Int32)) (v := .int (0 : Int32)) (fsf := (fsR ad tr)) (ty := .int) S K X (hcs 0 (by decide)) mE_loc (fun _ => mE_R) rfl uX5_blots_X5 tyX5 tyX5_ok nmX5 0 (by decide) kX5_blots_47 rfl (by decide +kernel) rfl rfl (by simp) rfl dX5_blots_2 (fun H locs X => ?_)
  refine lv_aload_n S.1 S.2.1 dX5_blots_5 rfl (lv_at hl 0 rfl) ?_
  refine lv_iload_n S.1 S.2.1 dX5_blots_6 rfl (lv_at hl 1 rfl) ?_
  obtain ⟨r_2, G_3, tr_4, hf_1, h⟩ := zbd_some h
  refine zr_calli (Eg := (mE ki ad)) K X (va_runV (As := [.int a1]) (rest := []) S (mX5_isLetter l D ki ad cs hcs N a1 (up2 G 0 0 (0 : Int32)) tr H.size _ _ _ hf_1) (cwV 1 S.2.2.2.2 gX5_blots_X5_isLetter rfl rfl rfl (by decide +kernel) ⟨Nat.le_of_ble_eq_true rfl, Nat.le_of_ble_eq_true rfl⟩) (zr_preV (c0 := 0) K X (hcs 0 (by decide)) mE_R rfl) rfl rfl hl.1 rfl (lv_room (Nat.le_of_ble_eq_true rfl)) dX5_blots_7 ⟨Nat.zero_le _, Nat.zero_le _⟩) (fun H locs X => ?_)
  refine lv_if_eq (tgt := 23) S.1 S.2.1 dX5_blots_10 (by decide) (fun hc_5 => ?_) (fun hc_5 => ?_)
  · have h := zif_pos hc_5 h
    refine lv_iconst (v := (-1 : Int32)) S.1 S.2.1 dX5_blots_23 (by decide) ?_
    exact zr_iret S hr hlk X h dX5_blots_24
  · have h := zif_neg hc_5 h
    refine lv_iload_n S.1 S.2.1 dX5_blots_13 rfl (lv_at hl 2 rfl) ?_
    refine lv_iconst (v := (0 : Int32)) S.1 S.2.1 dX5_blots_14 (by decide) ?_
    refine lv_bipush (v := (60 : Int32)) S.1 S.2.1 dX5_blots_15 (by decide) ?_
    obtain ⟨r_7, hf_6, h⟩ := zbp_some h
    refine zr_calli (Eg := (mE ki ad)) (G' := G_3) (tr' := tr_4) K X (va_runS (As := [.int a2, .int (0 : Int32), .int (60 : Int32)]) (rest := []) S (mX5_in l D ki ad cs N a2 (0 : Int32) (60 : Int32) (mE ki ad) G_3 tr_4 H.size _ _ _ (zpu_of hf_6)) (va_cwS 3 S.2.2.2.2 gX5_blots_X5_in rfl rfl rfl (by decide +kernel) ⟨Nat.le_of_ble_eq_true rfl, Nat.le_of_ble_eq_true rfl⟩) (zr_pre K X) rfl rfl hl.1 rfl (lv_room (Nat.le_of_ble_eq_true rfl)) dX5_blots_17 ⟨Nat.zero_le _, Nat.zero_le _⟩) (fun H locs X => ?_)
    refine lv_if_ne (tgt := 25) S.1 S.2.1 dX5_blots_20 (by decide) (fun hc_8 => ?_) (fun hc_8 => ?_)
    · have h := zif_neg hc_8 h
      refine lv_aload_n S.1 S.2.1 dX5_blots_25 rfl (lv_at hl 0 rfl) ?_
      refine lv_iload_n S.1 S.2.1 dX5_blots_26 rfl (lv_at hl 1 rfl) ?_
      refine lv_iload_n S.1 S.2.1 dX5_blots_27 rfl (lv_at hl 2 rfl) ?_
      obtain ⟨r_10, G_11, tr_12, hf_9, h⟩ := zbd_some h
      refine zr_callv (Eg := (mE ki ad)) K X (va_runV (As := [.int a1, .int a2]) (rest := []) S (mX5_goes l D ki ad cs hcs N a1 a2 G_3 tr_4 H.size _ _ _ hf_9) (cwV 2 S.2.2.2.2 gX5_blots_X5_goes rfl rfl rfl (by decide +kernel) ⟨Nat.le_of_ble_eq_true rfl, Nat.le_of_ble_eq_true rfl⟩) (zr_preV (c0 := 0) K X (hcs 0 (by decide)) mE_R rfl) rfl rfl hl.1 rfl (lv_room (Nat.le_of_ble_eq_true rfl)) dX5_blots_28 ⟨Nat.zero_le _, Nat.zero_le _⟩) (fun H locs X => ?_)
      refine lv_aload_n S.1 S.2.1 dX5_blots_31 rfl (lv_at hl 0 rfl) ?_
      refine zr_get (v := .ref (ad 10)) S K X (hcs 0 (by decide)) mE_R rfl uX5_blots_X5 19 (by decide) kX5_blots_38 rfl rfl dX5_blots_32 ?_
      refine lv_iconst (v := (4 : Int32)) S.1 S.2.1 dX5_blots_35 (by decide) ?_
      obtain ⟨hi_13, h⟩ := zin_some h
      refine zr_iald S K X (hcs 10 (by decide)) mE_10 hi_13 dX5_blots_36 ?_
      exact zr_iret S hr hlk X h dX5_blots_37
    · have h := zif_pos hc_8 h
      refine lv_iconst (v := (-1 : Int32)) S.1 S.2.1 dX5_blots_23 (by decide) ?_
      exact zr_iret S hr hlk X h dX5_blots_24
set_option maxRecDepth 20000 in
theorem ggX5_loop_X5_isLetter : GoodIn wsX5_loop wsX5_isLetter := goodIn_r _ [10, 5, 11, 12, 9, 13, 40, 41, 42, 43, 44, 45, 46, 47, 48, 49, 50, 51, 52, 53, 54, 55, 56, 57, 58, 59, 60, 61] (by decide +kernel) (by decide +kernel)
set_option maxRecDepth 20000 in
theorem gX5_loop_X5_isLetter : GoodIn wsX5_loop (wsV RX5 128 RX5 yX5_isLetter wsX5_isLetter) := goodIn_app (goodIn_of _ (by decide +kernel)) ggX5_loop_X5_isLetter
set_option maxRecDepth 20000 in
theorem ggX5_loop_X5_takesLetter : GoodIn wsX5_loop wsX5_takesLetter := goodIn_r _ [17, 5, 40, 41, 42, 43, 44, 45, 46, 47, 48, 49, 50, 51, 52, 53, 54, 55, 56, 57, 58, 59, 60, 61] (by decide +kernel) (by decide +kernel)
set_option maxRecDepth 20000 in
theorem gX5_loop_X5_takesLetter : GoodIn wsX5_loop (wsV RX5 149 RX5 yX5_takesLetter wsX5_takesLetter) := goodIn_app (goodIn_of _ (by decide +kernel)) ggX5_loop_X5_takesLetter
set_option maxRecDepth 20000 in
theorem ggX5_loop_X5_windOf : GoodIn wsX5_loop wsX5_windOf := goodIn_r _ [21, 2, 5, 40, 41, 42, 43, 44, 45, 46, 47, 48, 49, 50, 51, 52, 53, 54, 55, 56, 57, 58, 59, 60, 61] (by decide +kernel) (by decide +kernel)
set_option maxRecDepth 20000 in
theorem gX5_loop_X5_windOf : GoodIn wsX5_loop (wsV RX5 125 RX5 yX5_windOf wsX5_windOf) := goodIn_app (goodIn_of _ (by decide +kernel)) ggX5_loop_X5_windOf
set_option maxRecDepth 20000 in
theorem ggX5_loop_X5_blows : GoodIn wsX5_loop wsX5_blows := goodIn_r _ [25, 2, 26, 27, 28, 9, 29, 30, 31, 32, 33, 34, 35, 36, 37, 38, 39, 40, 41, 42, 43, 44, 45, 46, 47, 48, 49, 50, 51, 52, 53, 54, 55, 56, 57, 58, 59, 60, 61] (by decide +kernel) (by decide +kernel)
set_option maxRecDepth 20000 in
theorem gX5_loop_X5_blows : GoodIn wsX5_loop (wsV RX5 145 RX5 yX5_blows wsX5_blows) := goodIn_app (goodIn_of _ (by decide +kernel)) ggX5_loop_X5_blows
theorem dX5_loop_0 : decode cX5_loop 0 = .ok (.aload_n 0, 1) := by decide +kernel
theorem dX5_loop_1 : decode cX5_loop 1 = .ok (.iconst 0, 1) := by decide +kernel
theorem dX5_loop_2 : decode cX5_loop 2 = .ok (.putfield 47, 3) := by decide +kernel
theorem dX5_loop_5 : decode cX5_loop 5 = .ok (.aload_n 0, 1) := by decide +kernel
theorem dX5_loop_6 : decode cX5_loop 6 = .ok (.iload_n 1, 1) := by decide +kernel
theorem dX5_loop_7 : decode cX5_loop 7 = .ok (.invokevirtual 128, 3) := by decide +kernel
theorem dX5_loop_10 : decode cX5_loop 10 = .ok (.ifCond .ne 5, 3) := by decide +kernel
theorem dX5_loop_13 : decode cX5_loop 13 = .ok (.iconst (-1), 1) := by decide +kernel
theorem dX5_loop_14 : decode cX5_loop 14 = .ok (.ireturn, 1) := by decide +kernel
theorem dX5_loop_15 : decode cX5_loop 15 = .ok (.aload_n 0, 1) := by decide +kernel
theorem dX5_loop_16 : decode cX5_loop 16 = .ok (.getfield 13, 3) := by decide +kernel
theorem dX5_loop_19 : decode cX5_loop 19 = .ok (.iconst 4, 1) := by decide +kernel
theorem dX5_loop_20 : decode cX5_loop 20 = .ok (.iaload, 1) := by decide +kernel
theorem dX5_loop_21 : decode cX5_loop 21 = .ok (.ifCond .ne 7, 3) := by decide +kernel
theorem dX5_loop_24 : decode cX5_loop 24 = .ok (.iconst 1, 1) := by decide +kernel
theorem dX5_loop_25 : decode cX5_loop 25 = .ok (.goto 9, 3) := by decide +kernel
theorem dX5_loop_28 : decode cX5_loop 28 = .ok (.aload_n 0, 1) := by decide +kernel
theorem dX5_loop_29 : decode cX5_loop 29 = .ok (.getfield 13, 3) := by decide +kernel
theorem dX5_loop_32 : decode cX5_loop 32 = .ok (.iconst 4, 1) := by decide +kernel
theorem dX5_loop_33 : decode cX5_loop 33 = .ok (.iaload, 1) := by decide +kernel
theorem dX5_loop_34 : decode cX5_loop 34 = .ok (.istore_n 2, 1) := by decide +kernel
theorem dX5_loop_35 : decode cX5_loop 35 = .ok (.iconst 0, 1) := by decide +kernel
theorem dX5_loop_36 : decode cX5_loop 36 = .ok (.istore_n 3, 1) := by decide +kernel
theorem dX5_loop_37 : decode cX5_loop 37 = .ok (.iload_n 3, 1) := by decide +kernel
theorem dX5_loop_38 : decode cX5_loop 38 = .ok (.bipush 30, 2) := by decide +kernel
theorem dX5_loop_40 : decode cX5_loop 40 = .ok (.if_icmp .ge 17, 3) := by decide +kernel
theorem dX5_loop_43 : decode cX5_loop 43 = .ok (.aload_n 0, 1) := by decide +kernel
theorem dX5_loop_44 : decode cX5_loop 44 = .ok (.getfield 44, 3) := by decide +kernel
theorem dX5_loop_47 : decode cX5_loop 47 = .ok (.iload_n 3, 1) := by decide +kernel
theorem dX5_loop_48 : decode cX5_loop 48 = .ok (.bipush (-9), 2) := by decide +kernel
theorem dX5_loop_50 : decode cX5_loop 50 = .ok (.iastore, 1) := by decide +kernel
theorem dX5_loop_51 : decode cX5_loop 51 = .ok (.iinc 3 1, 3) := by decide +kernel
theorem dX5_loop_54 : decode cX5_loop 54 = .ok (.goto (-17), 3) := by decide +kernel
theorem dX5_loop_57 : decode cX5_loop 57 = .ok (.aload_n 0, 1) := by decide +kernel
theorem dX5_loop_58 : decode cX5_loop 58 = .ok (.aload_n 0, 1) := by decide +kernel
theorem dX5_loop_59 : decode cX5_loop 59 = .ok (.getfield 38, 3) := by decide +kernel
theorem dX5_loop_62 : decode cX5_loop 62 = .ok (.iload_n 1, 1) := by decide +kernel
theorem dX5_loop_63 : decode cX5_loop 63 = .ok (.invokevirtual 149, 3) := by decide +kernel
theorem dX5_loop_66 : decode cX5_loop 66 = .ok (.iconst 0, 1) := by decide +kernel
theorem dX5_loop_67 : decode cX5_loop 67 = .ok (.istore_n 3, 1) := by decide +kernel
theorem dX5_loop_68 : decode cX5_loop 68 = .ok (.aload_n 0, 1) := by decide +kernel
theorem dX5_loop_69 : decode cX5_loop 69 = .ok (.getfield 38, 3) := by decide +kernel
theorem dX5_loop_72 : decode cX5_loop 72 = .ok (.iconst 5, 1) := by decide +kernel
theorem dX5_loop_73 : decode cX5_loop 73 = .ok (.iaload, 1) := by decide +kernel
theorem dX5_loop_74 : decode cX5_loop 74 = .ok (.ifCond .ne 80, 3) := by decide +kernel
theorem dX5_loop_77 : decode cX5_loop 77 = .ok (.aload_n 0, 1) := by decide +kernel
theorem dX5_loop_78 : decode cX5_loop 78 = .ok (.getfield 44, 3) := by decide +kernel
theorem dX5_loop_81 : decode cX5_loop 81 = .ok (.aload_n 0, 1) := by decide +kernel
theorem dX5_loop_82 : decode cX5_loop 82 = .ok (.getfield 38, 3) := by decide +kernel
theorem dX5_loop_85 : decode cX5_loop 85 = .ok (.iconst 3, 1) := by decide +kernel
theorem dX5_loop_86 : decode cX5_loop 86 = .ok (.iaload, 1) := by decide +kernel
theorem dX5_loop_87 : decode cX5_loop 87 = .ok (.iaload, 1) := by decide +kernel
theorem dX5_loop_88 : decode cX5_loop 88 = .ok (.bipush (-9), 2) := by decide +kernel
theorem dX5_loop_90 : decode cX5_loop 90 = .ok (.if_icmp .ne 64, 3) := by decide +kernel
theorem dX5_loop_93 : decode cX5_loop 93 = .ok (.aload_n 0, 1) := by decide +kernel
theorem dX5_loop_94 : decode cX5_loop 94 = .ok (.getfield 44, 3) := by decide +kernel
theorem dX5_loop_97 : decode cX5_loop 97 = .ok (.aload_n 0, 1) := by decide +kernel
theorem dX5_loop_98 : decode cX5_loop 98 = .ok (.getfield 38, 3) := by decide +kernel
theorem dX5_loop_101 : decode cX5_loop 101 = .ok (.iconst 3, 1) := by decide +kernel
theorem dX5_loop_102 : decode cX5_loop 102 = .ok (.iaload, 1) := by decide +kernel
theorem dX5_loop_103 : decode cX5_loop 103 = .ok (.iload_n 3, 1) := by decide +kernel
theorem dX5_loop_104 : decode cX5_loop 104 = .ok (.iastore, 1) := by decide +kernel
theorem dX5_loop_105 : decode cX5_loop 105 = .ok (.iconst 0, 1) := by decide +kernel
theorem dX5_loop_106 : decode cX5_loop 106 = .ok (.istore 4, 2) := by decide +kernel
theorem dX5_loop_108 : decode cX5_loop 108 = .ok (.iload 4, 2) := by decide +kernel
theorem dX5_loop_110 : decode cX5_loop 110 = .ok (.iload_n 2, 1) := by decide +kernel
theorem dX5_loop_111 : decode cX5_loop 111 = .ok (.if_icmp .ge 37, 3) := by decide +kernel
theorem dX5_loop_114 : decode cX5_loop 114 = .ok (.aload_n 0, 1) := by decide +kernel
theorem dX5_loop_115 : decode cX5_loop 115 = .ok (.aload_n 0, 1) := by decide +kernel
theorem dX5_loop_116 : decode cX5_loop 116 = .ok (.getfield 38, 3) := by decide +kernel
theorem dX5_loop_119 : decode cX5_loop 119 = .ok (.iconst 0, 1) := by decide +kernel
theorem dX5_loop_120 : decode cX5_loop 120 = .ok (.aload_n 0, 1) := by decide +kernel
theorem dX5_loop_121 : decode cX5_loop 121 = .ok (.aload_n 0, 1) := by decide +kernel
theorem dX5_loop_122 : decode cX5_loop 122 = .ok (.getfield 25, 3) := by decide +kernel
theorem dX5_loop_125 : decode cX5_loop 125 = .ok (.iconst 0, 1) := by decide +kernel
theorem dX5_loop_126 : decode cX5_loop 126 = .ok (.iaload, 1) := by decide +kernel
theorem dX5_loop_127 : decode cX5_loop 127 = .ok (.iload 4, 2) := by decide +kernel
theorem dX5_loop_129 : decode cX5_loop 129 = .ok (.iadd, 1) := by decide +kernel
theorem dX5_loop_130 : decode cX5_loop 130 = .ok (.invokevirtual 125, 3) := by decide +kernel
theorem dX5_loop_133 : decode cX5_loop 133 = .ok (.aload_n 0, 1) := by decide +kernel
theorem dX5_loop_134 : decode cX5_loop 134 = .ok (.getfield 25, 3) := by decide +kernel
theorem dX5_loop_137 : decode cX5_loop 137 = .ok (.iconst 2, 1) := by decide +kernel
theorem dX5_loop_138 : decode cX5_loop 138 = .ok (.iaload, 1) := by decide +kernel
theorem dX5_loop_139 : decode cX5_loop 139 = .ok (.invokevirtual 145, 3) := by decide +kernel
theorem dX5_loop_142 : decode cX5_loop 142 = .ok (.iinc 4 1, 3) := by decide +kernel
theorem dX5_loop_145 : decode cX5_loop 145 = .ok (.goto (-37), 3) := by decide +kernel
theorem dX5_loop_148 : decode cX5_loop 148 = .ok (.iinc 3 1, 3) := by decide +kernel
theorem dX5_loop_151 : decode cX5_loop 151 = .ok (.goto (-83), 3) := by decide +kernel
theorem dX5_loop_154 : decode cX5_loop 154 = .ok (.aload_n 0, 1) := by decide +kernel
theorem dX5_loop_155 : decode cX5_loop 155 = .ok (.getfield 38, 3) := by decide +kernel
theorem dX5_loop_158 : decode cX5_loop 158 = .ok (.iconst 5, 1) := by decide +kernel
theorem dX5_loop_159 : decode cX5_loop 159 = .ok (.iaload, 1) := by decide +kernel
theorem dX5_loop_160 : decode cX5_loop 160 = .ok (.ifCond .ne 21, 3) := by decide +kernel
theorem dX5_loop_163 : decode cX5_loop 163 = .ok (.iload_n 2, 1) := by decide +kernel
theorem dX5_loop_164 : decode cX5_loop 164 = .ok (.iload_n 3, 1) := by decide +kernel
theorem dX5_loop_165 : decode cX5_loop 165 = .ok (.aload_n 0, 1) := by decide +kernel
theorem dX5_loop_166 : decode cX5_loop 166 = .ok (.getfield 44, 3) := by decide +kernel
theorem dX5_loop_169 : decode cX5_loop 169 = .ok (.aload_n 0, 1) := by decide +kernel
theorem dX5_loop_170 : decode cX5_loop 170 = .ok (.getfield 38, 3) := by decide +kernel
theorem dX5_loop_173 : decode cX5_loop 173 = .ok (.iconst 3, 1) := by decide +kernel
theorem dX5_loop_174 : decode cX5_loop 174 = .ok (.iaload, 1) := by decide +kernel
theorem dX5_loop_175 : decode cX5_loop 175 = .ok (.iaload, 1) := by decide +kernel
theorem dX5_loop_176 : decode cX5_loop 176 = .ok (.isub, 1) := by decide +kernel
theorem dX5_loop_177 : decode cX5_loop 177 = .ok (.imul, 1) := by decide +kernel
theorem dX5_loop_178 : decode cX5_loop 178 = .ok (.goto 5, 3) := by decide +kernel
theorem dX5_loop_181 : decode cX5_loop 181 = .ok (.bipush (-9), 2) := by decide +kernel
theorem dX5_loop_183 : decode cX5_loop 183 = .ok (.ireturn, 1) := by decide +kernel
set_option maxRecDepth 20000 in
theorem kX5_loop_13 : Cond.fieldLink RX5 13 "WindPostModel" "many" "[I" ∈ wsX5_loop := by decide +kernel
set_option maxRecDepth 20000 in
theorem kX5_loop_25 : Cond.fieldLink RX5 25 "WindPostModel" "s" "[I" ∈ wsX5_loop := by decide +kernel
set_option maxRecDepth 20000 in
theorem kX5_loop_38 : Cond.fieldLink RX5 38 "WindPostModel" "trial" "[I" ∈ wsX5_loop := by decide +kernel
set_option maxRecDepth 20000 in
theorem kX5_loop_44 : Cond.fieldLink RX5 44 "WindPostModel" "met" "[I" ∈ wsX5_loop := by decide +kernel
set_option maxRecDepth 20000 in
theorem kX5_loop_47 : Cond.fieldLink RX5 47 "WindPostModel" "thrown" "I" ∈ wsX5_loop := by decide +kernel
set_option maxRecDepth 20000 in
theorem uX5_loop_X5 : ∀ w ∈ wsX50, w ∈ wsX5_loop := by decide +kernel
set_option maxHeartbeats 8000000 in
set_option maxRecDepth 100000 in
theorem mX5_loop (l : Launch) (D : va_G) (ki : Nat → ClassId) (ad : Nat → Nat) (cs : List Nat) (hcs : kR cs) (N : Nat) (a1 : Int32) (G : zMem) (tr : Int64) : gMetI l D ki ad cs yX5_loop wsX5_loop { frames := 2, cells := 0, slots := 0, locals := 53 } [.ref (ad 0), .int a1] (mE ki ad) G tr (fX5_loop N a1 G tr) := by
  refine gMetI_of (cc := cX5_loop) (maxL := 5) (ret := (some .int)) (own := RX5) (by decide +kernel) rfl rfl (Nat.le_of_ble_eq_true rfl) ?_
  intro r9 G9 tr9 h p e s m below meth c S hr hlk K X ls hl
  have hl : lv_has ls 5 [(0, .ref (ad 0)), (1, .int a1)] := hl
  have b108 : ∀ (k68 : Int32 → Int32 → zMem → Int64 → zR) (hk68 : ∀ (x2 : Int32) (x3 : Int32) (G : zMem) (tr : Int64), k68 x2 x3 G tr = some (r9, G9, tr9) → zAt p l e (headSpec wsX5_loop { frames := 2, cells := 0, slots := 0, locals := 53 }).room s m ([.ref (ad 0), .int a1] : List Value).toArray below meth c 5 D cs ad (zQI below ([.ref (ad 0), .int a1] : List Value).toArray s D cs ad ((mE ki ad) G9 tr9) r9) 68 [(0, .ref (ad 0)), (2, .int x2), (3, .int x3)] [] ((mE ki ad) G tr)) (k108 : Int32 → Int32 → Int32 → zMem → Int64 → zR) (hk108 : ∀ (x2 : Int32) (x3 : Int32) (x4 : Int32) (G : zMem) (tr : Int64), k108 x2 x3 x4 G tr = some (r9, G9, tr9) → zAt p l e (headSpec wsX5_loop { frames := 2, cells := 0, slots := 0, locals := 53 }).room s m ([.ref (ad 0), .int a1] : List Value).toArray below meth c 5 D cs ad (zQI below ([.ref (ad 0), .int a1] : List Value).toArray s D cs ad ((mE ki ad) G9 tr9) r9) 108 [(0, .ref (ad 0)), (2, .int x2), (3, .int x3), (4, .int x4)] [] ((mE ki ad) G tr)) (x2 : Int32) (x3 : Int32) (x4 : Int32) (G : zMem) (tr : Int64), fX5_loop_b108 N a1 k68 k108 x2 x3 x4 G tr = some (r9, G9, tr9) → zAt p l e (headSpec wsX5_loop { frames := 2, cells := 0, slots := 0, locals := 53 }).room s m ([.ref (ad 0), .int a1] : List Value).toArray below meth c 5 D cs ad (zQI below ([.ref (ad 0), .int a1] : List Value).toArray s D cs ad ((mE ki ad) G9 tr9) r9) 108 [(0, .ref (ad 0)), (2, .int x2), (3, .int x3), (4, .int x4)] [] ((mE ki ad) G tr) := by
    intro k68 hk68 k108 hk108 x2 x3 x4 G tr h H locs ls X hl
    unfold fX5_loop_b108 at h
    refine lv_iload S.1 S.2.1 dX5_loop_108 (lv_at hl 3 rfl) ?_
    refine lv_iload_n S.1 S.2.1 dX5_loop_110 rfl (lv_at hl 1 rfl) ?_
    refine lv_icmp_ge (tgt := 148) S.1 S.2.1 dX5_loop_111 (by decide) (fun hc_1 => ?_) (fun hc_1 => ?_)
    · have h := zif_pos hc_1 h
      refine lv_iinc (v := (x3 + 1)) (lv' := [(3, .int (x3 + 1)), (0, .ref (ad 0)), (2, .int x2), (4, .int x4)]) S.1 S.2.1 dX5_loop_148 hl (k := 2) rfl rfl (by decide) rfl (fun ls hl => ?_)
      refine lv_goto (tgt := 68) S.1 S.2.1 dX5_loop_151 (by decide) ?_
      exact hk68 x2 (x3 + 1) G tr h _ _ _ X (lv_sub hl [1, 2, 0] rfl)
    · have h := zif_neg hc_1 h
      refine lv_aload_n S.1 S.2.1 dX5_loop_114 rfl (lv_at hl 0 rfl) ?_
      refine lv_aload_n S.1 S.2.1 dX5_loop_115 rfl (lv_at hl 0 rfl) ?_
      refine zr_get (v := .ref (ad 10)) S K X (hcs 0 (by decide)) mE_R rfl uX5_loop_X5 19 (by decide) kX5_loop_38 rfl rfl dX5_loop_116 ?_
      refine lv_iconst (v := (0 : Int32)) S.1 S.2.1 dX5_loop_119 (by decide) ?_
      refine lv_aload_n S.1 S.2.1 dX5_loop_120 rfl (lv_at hl 0 rfl) ?_
      refine lv_aload_n S.1 S.2.1 dX5_loop_121 rfl (lv_at hl 0 rfl) ?_
      refine zr_get (v := .ref (ad 6)) S K X (hcs 0 (by decide)) mE_R rfl uX5_loop_X5 14 (by decide) kX5_loop_25 rfl rfl dX5_loop_122 ?_
      refine lv_iconst (v := (0 : Int32)) S.1 S.2.1 dX5_loop_125 (by decide) ?_
      obtain ⟨hi_2, h⟩ := zin_some h
      refine zr_iald S K X (hcs 6 (by decide)) mE_6 hi_2 dX5_loop_126 ?_
      refine lv_iload S.1 S.2.1 dX5_loop_127 (lv_at hl 3 rfl) ?_
      refine lv_iadd S.1 S.2.1 dX5_loop_129 ?_
      obtain ⟨r_4, G_5, tr_6, hf_3, h⟩ := zbd_some h
      refine zr_calli (Eg := (mE ki ad)) K X (va_runV (As := [.int ((G 6 (Int32.toNatClampNeg (0 : Int32))) + x4)]) (rest := [.int (0 : Int32), .ref (ad 10), .ref (ad 0)]) S (mX5_windOf l D ki ad cs hcs N ((G 6 (Int32.toNatClampNeg (0 : Int32))) + x4) G tr H.size _ _ _ hf_3) (cwV 1 S.2.2.2.2 gX5_loop_X5_windOf rfl rfl rfl (by decide +kernel) ⟨Nat.le_of_ble_eq_true rfl, Nat.le_of_ble_eq_true rfl⟩) (zr_preV (c0 := 0) K X (hcs 0 (by decide)) mE_R rfl) rfl rfl hl.1 rfl (lv_room (Nat.le_of_ble_eq_true rfl)) dX5_loop_130 ⟨Nat.zero_le _, Nat.zero_le _⟩) (fun H locs X => ?_)
      refine lv_aload_n S.1 S.2.1 dX5_loop_133 rfl (lv_at hl 0 rfl) ?_
      refine zr_get (v := .ref (ad 6)) S K X (hcs 0 (by decide)) mE_R rfl uX5_loop_X5 14 (by decide) kX5_loop_25 rfl rfl dX5_loop_134 ?_
      refine lv_iconst (v := (2 : Int32)) S.1 S.2.1 dX5_loop_137 (by decide) ?_
      obtain ⟨hi_7, h⟩ := zin_some h
      refine zr_iald S K X (hcs 6 (by decide)) mE_6 hi_7 dX5_loop_138 ?_
      obtain ⟨r_9, G_10, tr_11, hf_8, h⟩ := zbd_some h
      refine zr_callv (Eg := (mE ki ad)) K X (va_runV (As := [.ref (ad 10), .int (0 : Int32), .int r_4, .int (G_5 6 (Int32.toNatClampNeg (2 : Int32)))]) (rest := []) S (mX5_blows l D ki ad cs hcs N 10 (0 : Int32) r_4 (G_5 6 (Int32.toNatClampNeg (2 : Int32))) (kA_10 hcs) G_5 tr_6 H.size _ _ _ hf_8) (cwV 4 S.2.2.2.2 gX5_loop_X5_blows rfl rfl rfl (by decide +kernel) ⟨Nat.le_of_ble_eq_true rfl, Nat.le_of_ble_eq_true rfl⟩) (zr_preV (c0 := 0) K X (hcs 0 (by decide)) mE_R rfl) rfl rfl hl.1 rfl (lv_room (Nat.le_of_ble_eq_true rfl)) dX5_loop_139 ⟨Nat.zero_le _, Nat.zero_le _⟩) (fun H locs X => ?_)
      refine lv_iinc (v := (x4 + 1)) (lv' := [(4, .int (x4 + 1)), (0, .ref (ad 0)), (2, .int x2), (3, .int x3)]) S.1 S.2.1 dX5_loop_142 hl (k := 3) rfl rfl (by decide) rfl (fun ls hl => ?_)
      refine lv_goto (tgt := 108) S.1 S.2.1 dX5_loop_145 (by decide) ?_
      exact hk108 x2 x3 (x4 + 1) G_10 tr_11 h _ _ _ X (lv_sub hl [1, 2, 3, 0] rfl)
  have L108 : ∀ (k68 : Int32 → Int32 → zMem → Int64 → zR) (hk68 : ∀ (x2 : Int32) (x3 : Int32) (G : zMem) (tr : Int64), k68 x2 x3 G tr = some (r9, G9, tr9) → zAt p l e (headSpec wsX5_loop { frames := 2, cells := 0, slots := 0, locals := 53 }).room s m ([.ref (ad 0), .int a1] : List Value).toArray below meth c 5 D cs ad (zQI below ([.ref (ad 0), .int a1] : List Value).toArray s D cs ad ((mE ki ad) G9 tr9) r9) 68 [(0, .ref (ad 0)), (2, .int x2), (3, .int x3)] [] ((mE ki ad) G tr)) (n : Nat) (x2 : Int32) (x3 : Int32) (x4 : Int32) (G : zMem) (tr : Int64), fX5_loop_L108 N a1 k68 n x2 x3 x4 G tr = some (r9, G9, tr9) → zAt p l e (headSpec wsX5_loop { frames := 2, cells := 0, slots := 0, locals := 53 }).room s m ([.ref (ad 0), .int a1] : List Value).toArray below meth c 5 D cs ad (zQI below ([.ref (ad 0), .int a1] : List Value).toArray s D cs ad ((mE ki ad) G9 tr9) r9) 108 [(0, .ref (ad 0)), (2, .int x2), (3, .int x3), (4, .int x4)] [] ((mE ki ad) G tr) := by
    intro k68 hk68 n
    induction n with
    | zero => intro x2 x3 x4 G tr h; cases h
    | succ n ih => intro x2 x3 x4 G tr h; exact b108 k68 hk68 (fX5_loop_L108 N a1 k68 n) ih x2 x3 x4 G tr h
  have b154 : ∀ (x2 : Int32) (x3 : Int32) (G : zMem) (tr : Int64), fX5_loop_b154 N a1 x2 x3 G tr = some (r9, G9, tr9) → zAt p l e (headSpec wsX5_loop { frames := 2, cells := 0, slots := 0, locals := 53 }).room s m ([.ref (ad 0), .int a1] : List Value).toArray below meth c 5 D cs ad (zQI below ([.ref (ad 0), .int a1] : List Value).toArray s D cs ad ((mE ki ad) G9 tr9) r9) 154 [(0, .ref (ad 0)), (2, .int x2), (3, .int x3)] [] ((mE ki ad) G tr) := by
    intro x2 x3 G tr h H locs ls X hl
    unfold fX5_loop_b154 at h
    refine lv_aload_n S.1 S.2.1 dX5_loop_154 rfl (lv_at hl 0 rfl) ?_
    refine zr_get (v := .ref (ad 10)) S K X (hcs 0 (by decide)) mE_R rfl uX5_loop_X5 19 (by decide) kX5_loop_38 rfl rfl dX5_loop_155 ?_
    refine lv_iconst (v := (5 : Int32)) S.1 S.2.1 dX5_loop_158 (by decide) ?_
    obtain ⟨hi_1, h⟩ := zin_some h
    refine zr_iald S K X (hcs 10 (by decide)) mE_10 hi_1 dX5_loop_159 ?_
    refine lv_if_ne (tgt := 181) S.1 S.2.1 dX5_loop_160 (by decide) (fun hc_2 => ?_) (fun hc_2 => ?_)
    · have h := zif_neg hc_2 h
      refine lv_bipush (v := (-9 : Int32)) S.1 S.2.1 dX5_loop_181 (by decide) ?_
      exact zr_iret S hr hlk X h dX5_loop_183
    · have h := zif_pos hc_2 h
      refine lv_iload_n S.1 S.2.1 dX5_loop_163 rfl (lv_at hl 1 rfl) ?_
      refine lv_iload_n S.1 S.2.1 dX5_loop_164 rfl (lv_at hl 2 rfl) ?_
      refine lv_aload_n S.1 S.2.1 dX5_loop_165 rfl (lv_at hl 0 rfl) ?_
      refine zr_get (v := .ref (ad 12)) S K X (hcs 0 (by decide)) mE_R rfl uX5_loop_X5 21 (by decide) kX5_loop_44 rfl rfl dX5_loop_166 ?_
      refine lv_aload_n S.1 S.2.1 dX5_loop_169 rfl (lv_at hl 0 rfl) ?_
      refine zr_get (v := .ref (ad 10)) S K X (hcs 0 (by decide)) mE_R rfl uX5_loop_X5 19 (by decide) kX5_loop_38 rfl rfl dX5_loop_170 ?_
      refine lv_iconst (v := (3 : Int32)) S.1 S.2.1 dX5_loop_173 (by decide) ?_
      obtain ⟨hi_3, h⟩ := zin_some h
      refine zr_iald S K X (hcs 10 (by decide)) mE_10 hi_3 dX5_loop_174 ?_
      obtain ⟨hi_4, h⟩ := zin_some h
      refine zr_iald S K X (hcs 12 (by decide)) mE_12 hi_4 dX5_loop_175 ?_
      refine lv_isub S.1 S.2.1 dX5_loop_176 ?_
      refine lv_imul S.1 S.2.1 dX5_loop_177 ?_
      refine lv_goto (tgt := 183) S.1 S.2.1 dX5_loop_178 (by decide) ?_
      exact zr_iret S hr hlk X h dX5_loop_183
  have b68 : ∀ (k68 : Int32 → Int32 → zMem → Int64 → zR) (hk68 : ∀ (x2 : Int32) (x3 : Int32) (G : zMem) (tr : Int64), k68 x2 x3 G tr = some (r9, G9, tr9) → zAt p l e (headSpec wsX5_loop { frames := 2, cells := 0, slots := 0, locals := 53 }).room s m ([.ref (ad 0), .int a1] : List Value).toArray below meth c 5 D cs ad (zQI below ([.ref (ad 0), .int a1] : List Value).toArray s D cs ad ((mE ki ad) G9 tr9) r9) 68 [(0, .ref (ad 0)), (2, .int x2), (3, .int x3)] [] ((mE ki ad) G tr)) (x2 : Int32) (x3 : Int32) (G : zMem) (tr : Int64), fX5_loop_b68 N a1 k68 x2 x3 G tr = some (r9, G9, tr9) → zAt p l e (headSpec wsX5_loop { frames := 2, cells := 0, slots := 0, locals := 53 }).room s m ([.ref (ad 0), .int a1] : List Value).toArray below meth c 5 D cs ad (zQI below ([.ref (ad 0), .int a1] : List Value).toArray s D cs ad ((mE ki ad) G9 tr9) r9) 68 [(0, .ref (ad 0)), (2, .int x2), (3, .int x3)] [] ((mE ki ad) G tr) := by
    intro k68 hk68 x2 x3 G tr h H locs ls X hl
    unfold fX5_loop_b68 at h
    refine lv_aload_n S.1 S.2.1 dX5_loop_68 rfl (lv_at hl 0 rfl) ?_
    refine zr_get (v := .ref (ad 10)) S K X (hcs 0 (by decide)) mE_R rfl uX5_loop_X5 19 (by decide) kX5_loop_38 rfl rfl dX5_loop_69 ?_
    refine lv_iconst (v := (5 : Int32)) S.1 S.2.1 dX5_loop_72 (by decide) ?_
    obtain ⟨hi_1, h⟩ := zin_some h
    refine zr_iald S K X (hcs 10 (by decide)) mE_10 hi_1 dX5_loop_73 ?_
    refine lv_if_ne (tgt := 154) S.1 S.2.1 dX5_loop_74 (by decide) (fun hc_2 => ?_) (fun hc_2 => ?_)
    · have h := zif_neg hc_2 h
      exact b154 x2 x3 G tr h _ _ _ X (lv_sub hl [0, 1, 2] rfl)
    · have h := zif_pos hc_2 h
      refine lv_aload_n S.1 S.2.1 dX5_loop_77 rfl (lv_at hl 0 rfl) ?_
      refine zr_get (v := .ref (ad 12)) S K X (hcs 0 (by decide)) mE_R rfl uX5_loop_X5 21 (by decide) kX5_loop_44 rfl rfl dX5_loop_78 ?_
      refine lv_aload_n S.1 S.2.1 dX5_loop_81 rfl (lv_at hl 0 rfl) ?_
      refine zr_get (v := .ref (ad 10)) S K X (hcs 0 (by decide)) mE_R rfl uX5_loop_X5 19 (by decide) kX5_loop_38 rfl rfl dX5_loop_82 ?_
      refine lv_iconst (v := (3 : Int32)) S.1 S.2.1 dX5_loop_85 (by decide) ?_
      obtain ⟨hi_3, h⟩ := zin_some h
      refine zr_iald S K X (hcs 10 (by decide)) mE_10 hi_3 dX5_loop_86 ?_
      obtain ⟨hi_4, h⟩ := zin_some h
      refine zr_iald S K X (hcs 12 (by decide)) mE_12 hi_4 dX5_loop_87 ?_
      refine lv_bipush (v := (-9 : Int32)) S.1 S.2.1 dX5_loop_88 (by decide) ?_
      refine lv_icmp_ne (tgt := 154) S.1 S.2.1 dX5_loop_90 (by decide) (fun hc_5 => ?_) (fun hc_5 => ?_)
      · have h := zif_neg hc_5 h
        exact b154 x2 x3 G tr h _ _ _ X (lv_sub hl [0, 1, 2] rfl)
      · have h := zif_pos hc_5 h
        refine lv_aload_n S.1 S.2.1 dX5_loop_93 rfl (lv_at hl 0 rfl) ?_
        refine zr_get (v := .ref (ad 12)) S K X (hcs 0 (by decide)) mE_R rfl uX5_loop_X5 21 (by decide) kX5_loop_44 rfl rfl dX5_loop_94 ?_
        refine lv_aload_n S.1 S.2.1 dX5_loop_97 rfl (lv_at hl 0 rfl) ?_
        refine zr_get (v := .ref (ad 10)) S K X (hcs 0 (by decide)) mE_R rfl uX5_loop_X5 19 (by decide) kX5_loop_38 rfl rfl dX5_loop_98 ?_
        refine lv_iconst (v := (3 : Int32)) S.1 S.2.1 dX5_loop_101 (by decide) ?_
        obtain ⟨hi_6, h⟩ := zin_some h
        refine zr_iald S K X (hcs 10 (by decide)) mE_10 hi_6 dX5_loop_102 ?_
        refine lv_iload_n S.1 S.2.1 dX5_loop_103 rfl (lv_at hl 2 rfl) ?_
        obtain ⟨hi_7, h⟩ := zin_some h
        refine zr_iast S K X (hcs 12 (by decide)) mE_loc (fun _ => mE_12) hi_7 dX5_loop_104 (fun H locs X => ?_)
        refine lv_iconst (v := (0 : Int32)) S.1 S.2.1 dX5_loop_105 (by decide) ?_
        refine lv_istore (lv' := [(4, .int (0 : Int32)), (0, .ref (ad 0)), (2, .int x2), (3, .int x3)]) S.1 S.2.1 dX5_loop_106 hl (by decide) rfl (fun ls hl => ?_)
        exact L108 k68 hk68 N x2 x3 (0 : Int32) (up2 G 12 (Int32.toNatClampNeg (G 10 (Int32.toNatClampNeg (3 : Int32)))) x3) tr h _ _ _ X (lv_sub hl [1, 2, 3, 0] rfl)
  have L68 : ∀ (n : Nat) (x2 : Int32) (x3 : Int32) (G : zMem) (tr : Int64), fX5_loop_L68 N a1 n x2 x3 G tr = some (r9, G9, tr9) → zAt p l e (headSpec wsX5_loop { frames := 2, cells := 0, slots := 0, locals := 53 }).room s m ([.ref (ad 0), .int a1] : List Value).toArray below meth c 5 D cs ad (zQI below ([.ref (ad 0), .int a1] : List Value).toArray s D cs ad ((mE ki ad) G9 tr9) r9) 68 [(0, .ref (ad 0)), (2, .int x2), (3, .int x3)] [] ((mE ki ad) G tr) := by
    intro n
    induction n with
    | zero => intro x2 x3 G tr h; cases h
    | succ n ih => intro x2 x3 G tr h; exact b68 (fX5_loop_L68 N a1 n) ih x2 x3 G tr h
  have b37 : ∀ (k37 : Int32 → Int32 → zMem → Int64 → zR) (hk37 : ∀ (x2 : Int32) (x3 : Int32) (G : zMem) (tr : Int64), k37 x2 x3 G tr = some (r9, G9, tr9) → zAt p l e (headSpec wsX5_loop { frames := 2, cells := 0, slots := 0, locals := 53 }).room s m ([.ref (ad 0), .int a1] : List Value).toArray below meth c 5 D cs ad (zQI below ([.ref (ad 0), .int a1] : List Value).toArray s D cs ad ((mE ki ad) G9 tr9) r9) 37 [(0, .ref (ad 0)), (1, .int a1), (2, .int x2), (3, .int x3)] [] ((mE ki ad) G tr)) (x2 : Int32) (x3 : Int32) (G : zMem) (tr : Int64), fX5_loop_b37 N a1 k37 x2 x3 G tr = some (r9, G9, tr9) → zAt p l e (headSpec wsX5_loop { frames := 2, cells := 0, slots := 0, locals := 53 }).room s m ([.ref (ad 0), .int a1] : List Value).toArray below meth c 5 D cs ad (zQI below ([.ref (ad 0), .int a1] : List Value).toArray s D cs ad ((mE ki ad) G9 tr9) r9) 37 [(0, .ref (ad 0)), (1, .int a1), (2, .int x2), (3, .int x3)] [] ((mE ki ad) G tr) := by
    intro k37 hk37 x2 x3 G tr h H locs ls X hl
    unfold fX5_loop_b37 at h
    refine lv_iload_n S.1 S.2.1 dX5_loop_37 rfl (lv_at hl 3 rfl) ?_
    refine lv_bipush (v := (30 : Int32)) S.1 S.2.1 dX5_loop_38 (by decide) ?_
    refine lv_icmp_ge (tgt := 57) S.1 S.2.1 dX5_loop_40 (by decide) (fun hc_1 => ?_) (fun hc_1 => ?_)
    · have h := zif_pos hc_1 h
      refine lv_aload_n S.1 S.2.1 dX5_loop_57 rfl (lv_at hl 0 rfl) ?_
      refine lv_aload_n S.1 S.2.1 dX5_loop_58 rfl (lv_at hl 0 rfl) ?_
      refine zr_get (v := .ref (ad 10)) S K X (hcs 0 (by decide)) mE_R rfl uX5_loop_X5 19 (by decide) kX5_loop_38 rfl rfl dX5_loop_59 ?_
      refine lv_iload_n S.1 S.2.1 dX5_loop_62 rfl (lv_at hl 1 rfl) ?_
      obtain ⟨r_3, G_4, tr_5, hf_2, h⟩ := zbd_some h
      refine zr_callv (Eg := (mE ki ad)) K X (va_runV (As := [.ref (ad 10), .int a1]) (rest := []) S (mX5_takesLetter l D ki ad cs hcs N 10 a1 (kA_10 hcs) G tr H.size _ _ _ hf_2) (cwV 2 S.2.2.2.2 gX5_loop_X5_takesLetter rfl rfl rfl (by decide +kernel) ⟨Nat.le_of_ble_eq_true rfl, Nat.le_of_ble_eq_true rfl⟩) (zr_preV (c0 := 0) K X (hcs 0 (by decide)) mE_R rfl) rfl rfl hl.1 rfl (lv_room (Nat.le_of_ble_eq_true rfl)) dX5_loop_63 ⟨Nat.zero_le _, Nat.zero_le _⟩) (fun H locs X => ?_)
      refine lv_iconst (v := (0 : Int32)) S.1 S.2.1 dX5_loop_66 (by decide) ?_
      refine lv_istore_n (lv' := [(3, .int (0 : Int32)), (0, .ref (ad 0)), (1, .int a1), (2, .int x2)]) S.1 S.2.1 dX5_loop_67 rfl hl (by decide) rfl (fun ls hl => ?_)
      exact L68 N x2 (0 : Int32) G_4 tr_5 h _ _ _ X (lv_sub hl [1, 3, 0] rfl)
    · have h := zif_neg hc_1 h
      refine lv_aload_n S.1 S.2.1 dX5_loop_43 rfl (lv_at hl 0 rfl) ?_
      refine zr_get (v := .ref (ad 12)) S K X (hcs 0 (by decide)) mE_R rfl uX5_loop_X5 21 (by decide) kX5_loop_44 rfl rfl dX5_loop_44 ?_
      refine lv_iload_n S.1 S.2.1 dX5_loop_47 rfl (lv_at hl 3 rfl) ?_
      refine lv_bipush (v := (-9 : Int32)) S.1 S.2.1 dX5_loop_48 (by decide) ?_
      obtain ⟨hi_6, h⟩ := zin_some h
      refine zr_iast S K X (hcs 12 (by decide)) mE_loc (fun _ => mE_12) hi_6 dX5_loop_50 (fun H locs X => ?_)
      refine lv_iinc (v := (x3 + 1)) (lv' := [(3, .int (x3 + 1)), (0, .ref (ad 0)), (1, .int a1), (2, .int x2)]) S.1 S.2.1 dX5_loop_51 hl (k := 3) rfl rfl (by decide) rfl (fun ls hl => ?_)
      refine lv_goto (tgt := 37) S.1 S.2.1 dX5_loop_54 (by decide) ?_
      exact hk37 x2 (x3 + 1) (up2 G 12 (Int32.toNatClampNeg x3) (-9 : Int32)) tr h _ _ _ X (lv_sub hl [1, 2, 3, 0] rfl)
  have L37 : ∀ (n : Nat) (x2 : Int32) (x3 : Int32) (G : zMem) (tr : Int64), fX5_loop_L37 N a1 n x2 x3 G tr = some (r9, G9, tr9) → zAt p l e (headSpec wsX5_loop { frames := 2, cells := 0, slots := 0, locals := 53 }).room s m ([.ref (ad 0), .int a1] : List Value).toArray below meth c 5 D cs ad (zQI below ([.ref (ad 0), .int a1] : List Value).toArray s D cs ad ((mE ki ad) G9 tr9) r9) 37 [(0, .ref (ad 0)), (1, .int a1), (2, .int x2), (3, .int x3)] [] ((mE ki ad) G tr) := by
    intro n
    induction n with
    | zero => intro x2 x3 G tr h; cases h
    | succ n ih => intro x2 x3 G tr h; exact b37 (fX5_loop_L37 N a1 n) ih x2 x3 G tr h
  have b34 : ∀ (s0 : Int32) (G : zMem) (tr : Int64), fX5_loop_b34 N a1 s0 G tr = some (r9, G9, tr9) → zAt p l e (headSpec wsX5_loop { frames := 2, cells := 0, slots := 0, locals := 53 }).room s m ([.ref (ad 0), .int a1] : List Value).toArray below meth c 5 D cs ad (zQI below ([.ref (ad 0), .int a1] : List Value).toArray s D cs ad ((mE ki ad) G9 tr9) r9) 34 [(0, .ref (ad 0)), (1, .int a1)] [.int s0] ((mE ki ad) G tr) := by
    intro s0 G tr h H locs ls X hl
    unfold fX5_loop_b34 at h
    refine lv_istore_n (lv' := [(2, .int s0), (0, .ref (ad 0)), (1, .int a1)]) S.1 S.2.1 dX5_loop_34 rfl hl (by decide) rfl (fun ls hl => ?_)
    refine lv_iconst (v := (0 : Int32)) S.1 S.2.1 dX5_loop_35 (by decide) ?_
    refine lv_istore_n (lv' := [(3, .int (0 : Int32)), (2, .int s0), (0, .ref (ad 0)), (1, .int a1)]) S.1 S.2.1 dX5_loop_36 rfl hl (by decide) rfl (fun ls hl => ?_)
    exact L37 N s0 (0 : Int32) G tr h _ _ _ X (lv_sub hl [2, 3, 1, 0] rfl)
  unfold fX5_loop at h
  obtain ⟨H, hH⟩ : ∃ H, H = s.heap := ⟨_, rfl⟩
  obtain ⟨locs, hlo⟩ : ∃ locs : List Loc, locs = [] := ⟨_, rfl⟩
  have X : gS D cs ad ((mE ki ad) G tr) (gA cs ad s.heap.size) s H locs := by rw [hH, hlo]; exact X
  suffices z : W p l e (headSpec wsX5_loop { frames := 2, cells := 0, slots := 0, locals := 53 }).room s m ([.ref (ad 0), .int a1] : List Value).toArray below meth c H locs 0 0 (zQI below ([.ref (ad 0), .int a1] : List Value).toArray s D cs ad ((mE ki ad) G9 tr9) r9) (F0 m 0 ls []) by rw [hH, hlo] at z; exact z
  clear hH hlo
  refine lv_aload_n S.1 S.2.1 dX5_loop_0 rfl (lv_at hl 0 rfl) ?_
  refine lv_iconst (v := (0 : Int32)) S.1 S.2.1 dX5_loop_1 (by decide) ?_
  refine zr_put (xv := (0 : Int32)) (v := .int (0 : Int32)) (fsf := (fsR ad tr)) (ty := .int) S K X (hcs 0 (by decide)) mE_loc (fun _ => mE_R) rfl uX5_loop_X5 tyX5 tyX5_ok nmX5 0 (by decide) kX5_loop_47 rfl (by decide +kernel) rfl rfl (by simp) rfl dX5_loop_2 (fun H locs X => ?_)
  refine lv_aload_n S.1 S.2.1 dX5_loop_5 rfl (lv_at hl 0 rfl) ?_
  refine lv_iload_n S.1 S.2.1 dX5_loop_6 rfl (lv_at hl 1 rfl) ?_
  obtain ⟨r_2, G_3, tr_4, hf_1, h⟩ := zbd_some h
  refine zr_calli (Eg := (mE ki ad)) K X (va_runV (As := [.int a1]) (rest := []) S (mX5_isLetter l D ki ad cs hcs N a1 (up2 G 0 0 (0 : Int32)) tr H.size _ _ _ hf_1) (cwV 1 S.2.2.2.2 gX5_loop_X5_isLetter rfl rfl rfl (by decide +kernel) ⟨Nat.le_of_ble_eq_true rfl, Nat.le_of_ble_eq_true rfl⟩) (zr_preV (c0 := 0) K X (hcs 0 (by decide)) mE_R rfl) rfl rfl hl.1 rfl (lv_room (Nat.le_of_ble_eq_true rfl)) dX5_loop_7 ⟨Nat.zero_le _, Nat.zero_le _⟩) (fun H locs X => ?_)
  refine lv_if_ne (tgt := 15) S.1 S.2.1 dX5_loop_10 (by decide) (fun hc_5 => ?_) (fun hc_5 => ?_)
  · have h := zif_neg hc_5 h
    refine lv_aload_n S.1 S.2.1 dX5_loop_15 rfl (lv_at hl 0 rfl) ?_
    refine zr_get (v := .ref (ad 2)) S K X (hcs 0 (by decide)) mE_R rfl uX5_loop_X5 9 (by decide) kX5_loop_13 rfl rfl dX5_loop_16 ?_
    refine lv_iconst (v := (4 : Int32)) S.1 S.2.1 dX5_loop_19 (by decide) ?_
    obtain ⟨hi_6, h⟩ := zin_some h
    refine zr_iald S K X (hcs 2 (by decide)) mE_2 hi_6 dX5_loop_20 ?_
    refine lv_if_ne (tgt := 28) S.1 S.2.1 dX5_loop_21 (by decide) (fun hc_7 => ?_) (fun hc_7 => ?_)
    · have h := zif_neg hc_7 h
      refine lv_aload_n S.1 S.2.1 dX5_loop_28 rfl (lv_at hl 0 rfl) ?_
      refine zr_get (v := .ref (ad 2)) S K X (hcs 0 (by decide)) mE_R rfl uX5_loop_X5 9 (by decide) kX5_loop_13 rfl rfl dX5_loop_29 ?_
      refine lv_iconst (v := (4 : Int32)) S.1 S.2.1 dX5_loop_32 (by decide) ?_
      obtain ⟨hi_8, h⟩ := zin_some h
      refine zr_iald S K X (hcs 2 (by decide)) mE_2 hi_8 dX5_loop_33 ?_
      exact b34 (G_3 2 (Int32.toNatClampNeg (4 : Int32))) G_3 tr_4 h _ _ _ X (lv_sub hl [0, 1] rfl)
    · have h := zif_pos hc_7 h
      refine lv_iconst (v := (1 : Int32)) S.1 S.2.1 dX5_loop_24 (by decide) ?_
      refine lv_goto (tgt := 34) S.1 S.2.1 dX5_loop_25 (by decide) ?_
      exact b34 (1 : Int32) G_3 tr_4 h _ _ _ X (lv_sub hl [0, 1] rfl)
  · have h := zif_pos hc_5 h
    refine lv_iconst (v := (-1 : Int32)) S.1 S.2.1 dX5_loop_13 (by decide) ?_
    exact zr_iret S hr hlk X h dX5_loop_14
set_option maxRecDepth 20000 in
theorem ggX5_tangled_X5_isLetter : GoodIn wsX5_tangled wsX5_isLetter := goodIn_r _ [9, 4, 10, 11, 8, 12, 40, 41, 42, 43, 44, 45, 46, 47, 48, 49, 50, 51, 52, 53, 54, 55, 56, 57, 58, 59, 60, 61] (by decide +kernel) (by decide +kernel)
set_option maxRecDepth 20000 in
theorem gX5_tangled_X5_isLetter : GoodIn wsX5_tangled (wsV RX5 128 RX5 yX5_isLetter wsX5_isLetter) := goodIn_app (goodIn_of _ (by decide +kernel)) ggX5_tangled_X5_isLetter
set_option maxRecDepth 20000 in
theorem ggX5_tangled_X5_takesLetter : GoodIn wsX5_tangled wsX5_takesLetter := goodIn_r _ [16, 4, 40, 41, 42, 43, 44, 45, 46, 47, 48, 49, 50, 51, 52, 53, 54, 55, 56, 57, 58, 59, 60, 61] (by decide +kernel) (by decide +kernel)
set_option maxRecDepth 20000 in
theorem gX5_tangled_X5_takesLetter : GoodIn wsX5_tangled (wsV RX5 149 RX5 yX5_takesLetter wsX5_takesLetter) := goodIn_app (goodIn_of _ (by decide +kernel)) ggX5_tangled_X5_takesLetter
set_option maxRecDepth 20000 in
theorem ggX5_tangled_X5_windOf : GoodIn wsX5_tangled wsX5_windOf := goodIn_r _ [20, 21, 4, 40, 41, 42, 43, 44, 45, 46, 47, 48, 49, 50, 51, 52, 53, 54, 55, 56, 57, 58, 59, 60, 61] (by decide +kernel) (by decide +kernel)
set_option maxRecDepth 20000 in
theorem gX5_tangled_X5_windOf : GoodIn wsX5_tangled (wsV RX5 125 RX5 yX5_windOf wsX5_windOf) := goodIn_app (goodIn_of _ (by decide +kernel)) ggX5_tangled_X5_windOf
set_option maxRecDepth 20000 in
theorem ggX5_tangled_X5_blows : GoodIn wsX5_tangled wsX5_blows := goodIn_r _ [25, 21, 26, 27, 28, 8, 29, 30, 31, 32, 33, 34, 35, 36, 37, 38, 39, 40, 41, 42, 43, 44, 45, 46, 47, 48, 49, 50, 51, 52, 53, 54, 55, 56, 57, 58, 59, 60, 61] (by decide +kernel) (by decide +kernel)
set_option maxRecDepth 20000 in
theorem gX5_tangled_X5_blows : GoodIn wsX5_tangled (wsV RX5 145 RX5 yX5_blows wsX5_blows) := goodIn_app (goodIn_of _ (by decide +kernel)) ggX5_tangled_X5_blows
theorem dX5_tangled_0 : decode cX5_tangled 0 = .ok (.aload_n 0, 1) := by decide +kernel
theorem dX5_tangled_1 : decode cX5_tangled 1 = .ok (.iconst 0, 1) := by decide +kernel
theorem dX5_tangled_2 : decode cX5_tangled 2 = .ok (.putfield 47, 3) := by decide +kernel
theorem dX5_tangled_5 : decode cX5_tangled 5 = .ok (.aload_n 0, 1) := by decide +kernel
theorem dX5_tangled_6 : decode cX5_tangled 6 = .ok (.iload_n 1, 1) := by decide +kernel
theorem dX5_tangled_7 : decode cX5_tangled 7 = .ok (.invokevirtual 128, 3) := by decide +kernel
theorem dX5_tangled_10 : decode cX5_tangled 10 = .ok (.ifCond .eq 16, 3) := by decide +kernel
theorem dX5_tangled_13 : decode cX5_tangled 13 = .ok (.aload_n 0, 1) := by decide +kernel
theorem dX5_tangled_14 : decode cX5_tangled 14 = .ok (.iload_n 2, 1) := by decide +kernel
theorem dX5_tangled_15 : decode cX5_tangled 15 = .ok (.invokevirtual 128, 3) := by decide +kernel
theorem dX5_tangled_18 : decode cX5_tangled 18 = .ok (.ifCond .eq 8, 3) := by decide +kernel
theorem dX5_tangled_21 : decode cX5_tangled 21 = .ok (.iload_n 1, 1) := by decide +kernel
theorem dX5_tangled_22 : decode cX5_tangled 22 = .ok (.iload_n 2, 1) := by decide +kernel
theorem dX5_tangled_23 : decode cX5_tangled 23 = .ok (.if_icmp .ne 5, 3) := by decide +kernel
theorem dX5_tangled_26 : decode cX5_tangled 26 = .ok (.iconst (-1), 1) := by decide +kernel
theorem dX5_tangled_27 : decode cX5_tangled 27 = .ok (.ireturn, 1) := by decide +kernel
theorem dX5_tangled_28 : decode cX5_tangled 28 = .ok (.aload_n 0, 1) := by decide +kernel
theorem dX5_tangled_29 : decode cX5_tangled 29 = .ok (.aload_n 0, 1) := by decide +kernel
theorem dX5_tangled_30 : decode cX5_tangled 30 = .ok (.getfield 38, 3) := by decide +kernel
theorem dX5_tangled_33 : decode cX5_tangled 33 = .ok (.iload_n 1, 1) := by decide +kernel
theorem dX5_tangled_34 : decode cX5_tangled 34 = .ok (.invokevirtual 149, 3) := by decide +kernel
theorem dX5_tangled_37 : decode cX5_tangled 37 = .ok (.aload_n 0, 1) := by decide +kernel
theorem dX5_tangled_38 : decode cX5_tangled 38 = .ok (.aload_n 0, 1) := by decide +kernel
theorem dX5_tangled_39 : decode cX5_tangled 39 = .ok (.getfield 41, 3) := by decide +kernel
theorem dX5_tangled_42 : decode cX5_tangled 42 = .ok (.iload_n 2, 1) := by decide +kernel
theorem dX5_tangled_43 : decode cX5_tangled 43 = .ok (.invokevirtual 149, 3) := by decide +kernel
theorem dX5_tangled_46 : decode cX5_tangled 46 = .ok (.iconst 0, 1) := by decide +kernel
theorem dX5_tangled_47 : decode cX5_tangled 47 = .ok (.istore_n 3, 1) := by decide +kernel
theorem dX5_tangled_48 : decode cX5_tangled 48 = .ok (.iload_n 3, 1) := by decide +kernel
theorem dX5_tangled_49 : decode cX5_tangled 49 = .ok (.sipush 400, 3) := by decide +kernel
theorem dX5_tangled_52 : decode cX5_tangled 52 = .ok (.if_icmp .gt 98, 3) := by decide +kernel
theorem dX5_tangled_55 : decode cX5_tangled 55 = .ok (.aload_n 0, 1) := by decide +kernel
theorem dX5_tangled_56 : decode cX5_tangled 56 = .ok (.getfield 38, 3) := by decide +kernel
theorem dX5_tangled_59 : decode cX5_tangled 59 = .ok (.iconst 5, 1) := by decide +kernel
theorem dX5_tangled_60 : decode cX5_tangled 60 = .ok (.iaload, 1) := by decide +kernel
theorem dX5_tangled_61 : decode cX5_tangled 61 = .ok (.ifCond .ne 29, 3) := by decide +kernel
theorem dX5_tangled_64 : decode cX5_tangled 64 = .ok (.aload_n 0, 1) := by decide +kernel
theorem dX5_tangled_65 : decode cX5_tangled 65 = .ok (.getfield 41, 3) := by decide +kernel
theorem dX5_tangled_68 : decode cX5_tangled 68 = .ok (.iconst 5, 1) := by decide +kernel
theorem dX5_tangled_69 : decode cX5_tangled 69 = .ok (.iaload, 1) := by decide +kernel
theorem dX5_tangled_70 : decode cX5_tangled 70 = .ok (.ifCond .ne 20, 3) := by decide +kernel
theorem dX5_tangled_73 : decode cX5_tangled 73 = .ok (.aload_n 0, 1) := by decide +kernel
theorem dX5_tangled_74 : decode cX5_tangled 74 = .ok (.getfield 38, 3) := by decide +kernel
theorem dX5_tangled_77 : decode cX5_tangled 77 = .ok (.iconst 3, 1) := by decide +kernel
theorem dX5_tangled_78 : decode cX5_tangled 78 = .ok (.iaload, 1) := by decide +kernel
theorem dX5_tangled_79 : decode cX5_tangled 79 = .ok (.aload_n 0, 1) := by decide +kernel
theorem dX5_tangled_80 : decode cX5_tangled 80 = .ok (.getfield 41, 3) := by decide +kernel
theorem dX5_tangled_83 : decode cX5_tangled 83 = .ok (.iconst 3, 1) := by decide +kernel
theorem dX5_tangled_84 : decode cX5_tangled 84 = .ok (.iaload, 1) := by decide +kernel
theorem dX5_tangled_85 : decode cX5_tangled 85 = .ok (.if_icmp .ne 5, 3) := by decide +kernel
theorem dX5_tangled_88 : decode cX5_tangled 88 = .ok (.iload_n 3, 1) := by decide +kernel
theorem dX5_tangled_89 : decode cX5_tangled 89 = .ok (.ireturn, 1) := by decide +kernel
theorem dX5_tangled_90 : decode cX5_tangled 90 = .ok (.aload_n 0, 1) := by decide +kernel
theorem dX5_tangled_91 : decode cX5_tangled 91 = .ok (.aload_n 0, 1) := by decide +kernel
theorem dX5_tangled_92 : decode cX5_tangled 92 = .ok (.getfield 38, 3) := by decide +kernel
theorem dX5_tangled_95 : decode cX5_tangled 95 = .ok (.iconst 0, 1) := by decide +kernel
theorem dX5_tangled_96 : decode cX5_tangled 96 = .ok (.aload_n 0, 1) := by decide +kernel
theorem dX5_tangled_97 : decode cX5_tangled 97 = .ok (.aload_n 0, 1) := by decide +kernel
theorem dX5_tangled_98 : decode cX5_tangled 98 = .ok (.getfield 25, 3) := by decide +kernel
theorem dX5_tangled_101 : decode cX5_tangled 101 = .ok (.iconst 0, 1) := by decide +kernel
theorem dX5_tangled_102 : decode cX5_tangled 102 = .ok (.iaload, 1) := by decide +kernel
theorem dX5_tangled_103 : decode cX5_tangled 103 = .ok (.iload_n 3, 1) := by decide +kernel
theorem dX5_tangled_104 : decode cX5_tangled 104 = .ok (.iadd, 1) := by decide +kernel
theorem dX5_tangled_105 : decode cX5_tangled 105 = .ok (.invokevirtual 125, 3) := by decide +kernel
theorem dX5_tangled_108 : decode cX5_tangled 108 = .ok (.aload_n 0, 1) := by decide +kernel
theorem dX5_tangled_109 : decode cX5_tangled 109 = .ok (.getfield 25, 3) := by decide +kernel
theorem dX5_tangled_112 : decode cX5_tangled 112 = .ok (.iconst 2, 1) := by decide +kernel
theorem dX5_tangled_113 : decode cX5_tangled 113 = .ok (.iaload, 1) := by decide +kernel
theorem dX5_tangled_114 : decode cX5_tangled 114 = .ok (.invokevirtual 145, 3) := by decide +kernel
theorem dX5_tangled_117 : decode cX5_tangled 117 = .ok (.aload_n 0, 1) := by decide +kernel
theorem dX5_tangled_118 : decode cX5_tangled 118 = .ok (.aload_n 0, 1) := by decide +kernel
theorem dX5_tangled_119 : decode cX5_tangled 119 = .ok (.getfield 41, 3) := by decide +kernel
theorem dX5_tangled_122 : decode cX5_tangled 122 = .ok (.iconst 0, 1) := by decide +kernel
theorem dX5_tangled_123 : decode cX5_tangled 123 = .ok (.aload_n 0, 1) := by decide +kernel
theorem dX5_tangled_124 : decode cX5_tangled 124 = .ok (.aload_n 0, 1) := by decide +kernel
theorem dX5_tangled_125 : decode cX5_tangled 125 = .ok (.getfield 25, 3) := by decide +kernel
theorem dX5_tangled_128 : decode cX5_tangled 128 = .ok (.iconst 0, 1) := by decide +kernel
theorem dX5_tangled_129 : decode cX5_tangled 129 = .ok (.iaload, 1) := by decide +kernel
theorem dX5_tangled_130 : decode cX5_tangled 130 = .ok (.iload_n 3, 1) := by decide +kernel
theorem dX5_tangled_131 : decode cX5_tangled 131 = .ok (.iadd, 1) := by decide +kernel
theorem dX5_tangled_132 : decode cX5_tangled 132 = .ok (.invokevirtual 125, 3) := by decide +kernel
theorem dX5_tangled_135 : decode cX5_tangled 135 = .ok (.aload_n 0, 1) := by decide +kernel
theorem dX5_tangled_136 : decode cX5_tangled 136 = .ok (.getfield 25, 3) := by decide +kernel
theorem dX5_tangled_139 : decode cX5_tangled 139 = .ok (.iconst 2, 1) := by decide +kernel
theorem dX5_tangled_140 : decode cX5_tangled 140 = .ok (.iaload, 1) := by decide +kernel
theorem dX5_tangled_141 : decode cX5_tangled 141 = .ok (.invokevirtual 145, 3) := by decide +kernel
theorem dX5_tangled_144 : decode cX5_tangled 144 = .ok (.iinc 3 1, 3) := by decide +kernel
theorem dX5_tangled_147 : decode cX5_tangled 147 = .ok (.goto (-99), 3) := by decide +kernel
theorem dX5_tangled_150 : decode cX5_tangled 150 = .ok (.bipush (-9), 2) := by decide +kernel
theorem dX5_tangled_152 : decode cX5_tangled 152 = .ok (.ireturn, 1) := by decide +kernel
set_option maxRecDepth 20000 in
theorem kX5_tangled_25 : Cond.fieldLink RX5 25 "WindPostModel" "s" "[I" ∈ wsX5_tangled := by decide +kernel
set_option maxRecDepth 20000 in
theorem kX5_tangled_38 : Cond.fieldLink RX5 38 "WindPostModel" "trial" "[I" ∈ wsX5_tangled := by decide +kernel
set_option maxRecDepth 20000 in
theorem kX5_tangled_41 : Cond.fieldLink RX5 41 "WindPostModel" "other" "[I" ∈ wsX5_tangled := by decide +kernel
set_option maxRecDepth 20000 in
theorem kX5_tangled_47 : Cond.fieldLink RX5 47 "WindPostModel" "thrown" "I" ∈ wsX5_tangled := by decide +kernel
set_option maxRecDepth 20000 in
theorem uX5_tangled_X5 : ∀ w ∈ wsX50, w ∈ wsX5_tangled := by decide +kernel
set_option maxHeartbeats 8000000 in
set_option maxRecDepth 100000 in
theorem mX5_tangled (l : Launch) (D : va_G) (ki : Nat → ClassId) (ad : Nat → Nat) (cs : List Nat) (hcs : kR cs) (N : Nat) (a1 : Int32) (a2 : Int32) (G : zMem) (tr : Int64) : gMetI l D ki ad cs yX5_tangled wsX5_tangled { frames := 2, cells := 0, slots := 0, locals := 53 } [.ref (ad 0), .int a1, .int a2] (mE ki ad) G tr (fX5_tangled N a1 a2 G tr) := by
  refine gMetI_of (cc := cX5_tangled) (maxL := 4) (ret := (some .int)) (own := RX5) (by decide +kernel) rfl rfl (Nat.le_of_ble_eq_true rfl) ?_
  intro r9 G9 tr9 h p e s m below meth c S hr hlk K X ls hl
  have hl : lv_has ls 4 [(0, .ref (ad 0)), (1, .int a1), (2, .int a2)] := hl
  have b90 : ∀ (k48 : Int32 → zMem → Int64 → zR) (hk48 : ∀ (x3 : Int32) (G : zMem) (tr : Int64), k48 x3 G tr = some (r9, G9, tr9) → zAt p l e (headSpec wsX5_tangled { frames := 2, cells := 0, slots := 0, locals := 53 }).room s m ([.ref (ad 0), .int a1, .int a2] : List Value).toArray below meth c 4 D cs ad (zQI below ([.ref (ad 0), .int a1, .int a2] : List Value).toArray s D cs ad ((mE ki ad) G9 tr9) r9) 48 [(0, .ref (ad 0)), (3, .int x3)] [] ((mE ki ad) G tr)) (x3 : Int32) (G : zMem) (tr : Int64), fX5_tangled_b90 N a1 a2 k48 x3 G tr = some (r9, G9, tr9) → zAt p l e (headSpec wsX5_tangled { frames := 2, cells := 0, slots := 0, locals := 53 }).room s m ([.ref (ad 0), .int a1, .int a2] : List Value).toArray below meth c 4 D cs ad (zQI below ([.ref (ad 0), .int a1, .int a2] : List Value).toArray s D cs ad ((mE ki ad) G9 tr9) r9) 90 [(0, .ref (ad 0)), (3, .int x3)] [] ((mE ki ad) G tr) := by
    intro k48 hk48 x3 G tr h H locs ls X hl
    unfold fX5_tangled_b90 at h
    refine lv_aload_n S.1 S.2.1 dX5_tangled_90 rfl (lv_at hl 0 rfl) ?_
    refine lv_aload_n S.1 S.2.1 dX5_tangled_91 rfl (lv_at hl 0 rfl) ?_
    refine zr_get (v := .ref (ad 10)) S K X (hcs 0 (by decide)) mE_R rfl uX5_tangled_X5 19 (by decide) kX5_tangled_38 rfl rfl dX5_tangled_92 ?_
    refine lv_iconst (v := (0 : Int32)) S.1 S.2.1 dX5_tangled_95 (by decide) ?_
    refine lv_aload_n S.1 S.2.1 dX5_tangled_96 rfl (lv_at hl 0 rfl) ?_
    refine lv_aload_n S.1 S.2.1 dX5_tangled_97 rfl (lv_at hl 0 rfl) ?_
    refine zr_get (v := .ref (ad 6)) S K X (hcs 0 (by decide)) mE_R rfl uX5_tangled_X5 14 (by decide) kX5_tangled_25 rfl rfl dX5_tangled_98 ?_
    refine lv_iconst (v := (0 : Int32)) S.1 S.2.1 dX5_tangled_101 (by decide) ?_
    obtain ⟨hi_1, h⟩ := zin_some h
    refine zr_iald S K X (hcs 6 (by decide)) mE_6 hi_1 dX5_tangled_102 ?_
    refine lv_iload_n S.1 S.2.1 dX5_tangled_103 rfl (lv_at hl 1 rfl) ?_
    refine lv_iadd S.1 S.2.1 dX5_tangled_104 ?_
    obtain ⟨r_3, G_4, tr_5, hf_2, h⟩ := zbd_some h
    refine zr_calli (Eg := (mE ki ad)) K X (va_runV (As := [.int ((G 6 (Int32.toNatClampNeg (0 : Int32))) + x3)]) (rest := [.int (0 : Int32), .ref (ad 10), .ref (ad 0)]) S (mX5_windOf l D ki ad cs hcs N ((G 6 (Int32.toNatClampNeg (0 : Int32))) + x3) G tr H.size _ _ _ hf_2) (cwV 1 S.2.2.2.2 gX5_tangled_X5_windOf rfl rfl rfl (by decide +kernel) ⟨Nat.le_of_ble_eq_true rfl, Nat.le_of_ble_eq_true rfl⟩) (zr_preV (c0 := 0) K X (hcs 0 (by decide)) mE_R rfl) rfl rfl hl.1 rfl (lv_room (Nat.le_of_ble_eq_true rfl)) dX5_tangled_105 ⟨Nat.zero_le _, Nat.zero_le _⟩) (fun H locs X => ?_)
    refine lv_aload_n S.1 S.2.1 dX5_tangled_108 rfl (lv_at hl 0 rfl) ?_
    refine zr_get (v := .ref (ad 6)) S K X (hcs 0 (by decide)) mE_R rfl uX5_tangled_X5 14 (by decide) kX5_tangled_25 rfl rfl dX5_tangled_109 ?_
    refine lv_iconst (v := (2 : Int32)) S.1 S.2.1 dX5_tangled_112 (by decide) ?_
    obtain ⟨hi_6, h⟩ := zin_some h
    refine zr_iald S K X (hcs 6 (by decide)) mE_6 hi_6 dX5_tangled_113 ?_
    obtain ⟨r_8, G_9, tr_10, hf_7, h⟩ := zbd_some h
    refine zr_callv (Eg := (mE ki ad)) K X (va_runV (As := [.ref (ad 10), .int (0 : Int32), .int r_3, .int (G_4 6 (Int32.toNatClampNeg (2 : Int32)))]) (rest := []) S (mX5_blows l D ki ad cs hcs N 10 (0 : Int32) r_3 (G_4 6 (Int32.toNatClampNeg (2 : Int32))) (kA_10 hcs) G_4 tr_5 H.size _ _ _ hf_7) (cwV 4 S.2.2.2.2 gX5_tangled_X5_blows rfl rfl rfl (by decide +kernel) ⟨Nat.le_of_ble_eq_true rfl, Nat.le_of_ble_eq_true rfl⟩) (zr_preV (c0 := 0) K X (hcs 0 (by decide)) mE_R rfl) rfl rfl hl.1 rfl (lv_room (Nat.le_of_ble_eq_true rfl)) dX5_tangled_114 ⟨Nat.zero_le _, Nat.zero_le _⟩) (fun H locs X => ?_)
    refine lv_aload_n S.1 S.2.1 dX5_tangled_117 rfl (lv_at hl 0 rfl) ?_
    refine lv_aload_n S.1 S.2.1 dX5_tangled_118 rfl (lv_at hl 0 rfl) ?_
    refine zr_get (v := .ref (ad 11)) S K X (hcs 0 (by decide)) mE_R rfl uX5_tangled_X5 20 (by decide) kX5_tangled_41 rfl rfl dX5_tangled_119 ?_
    refine lv_iconst (v := (0 : Int32)) S.1 S.2.1 dX5_tangled_122 (by decide) ?_
    refine lv_aload_n S.1 S.2.1 dX5_tangled_123 rfl (lv_at hl 0 rfl) ?_
    refine lv_aload_n S.1 S.2.1 dX5_tangled_124 rfl (lv_at hl 0 rfl) ?_
    refine zr_get (v := .ref (ad 6)) S K X (hcs 0 (by decide)) mE_R rfl uX5_tangled_X5 14 (by decide) kX5_tangled_25 rfl rfl dX5_tangled_125 ?_
    refine lv_iconst (v := (0 : Int32)) S.1 S.2.1 dX5_tangled_128 (by decide) ?_
    obtain ⟨hi_11, h⟩ := zin_some h
    refine zr_iald S K X (hcs 6 (by decide)) mE_6 hi_11 dX5_tangled_129 ?_
    refine lv_iload_n S.1 S.2.1 dX5_tangled_130 rfl (lv_at hl 1 rfl) ?_
    refine lv_iadd S.1 S.2.1 dX5_tangled_131 ?_
    obtain ⟨r_13, G_14, tr_15, hf_12, h⟩ := zbd_some h
    refine zr_calli (Eg := (mE ki ad)) K X (va_runV (As := [.int ((G_9 6 (Int32.toNatClampNeg (0 : Int32))) + x3)]) (rest := [.int (0 : Int32), .ref (ad 11), .ref (ad 0)]) S (mX5_windOf l D ki ad cs hcs N ((G_9 6 (Int32.toNatClampNeg (0 : Int32))) + x3) G_9 tr_10 H.size _ _ _ hf_12) (cwV 1 S.2.2.2.2 gX5_tangled_X5_windOf rfl rfl rfl (by decide +kernel) ⟨Nat.le_of_ble_eq_true rfl, Nat.le_of_ble_eq_true rfl⟩) (zr_preV (c0 := 0) K X (hcs 0 (by decide)) mE_R rfl) rfl rfl hl.1 rfl (lv_room (Nat.le_of_ble_eq_true rfl)) dX5_tangled_132 ⟨Nat.zero_le _, Nat.zero_le _⟩) (fun H locs X => ?_)
    refine lv_aload_n S.1 S.2.1 dX5_tangled_135 rfl (lv_at hl 0 rfl) ?_
    refine zr_get (v := .ref (ad 6)) S K X (hcs 0 (by decide)) mE_R rfl uX5_tangled_X5 14 (by decide) kX5_tangled_25 rfl rfl dX5_tangled_136 ?_
    refine lv_iconst (v := (2 : Int32)) S.1 S.2.1 dX5_tangled_139 (by decide) ?_
    obtain ⟨hi_16, h⟩ := zin_some h
    refine zr_iald S K X (hcs 6 (by decide)) mE_6 hi_16 dX5_tangled_140 ?_
    obtain ⟨r_18, G_19, tr_20, hf_17, h⟩ := zbd_some h
    refine zr_callv (Eg := (mE ki ad)) K X (va_runV (As := [.ref (ad 11), .int (0 : Int32), .int r_13, .int (G_14 6 (Int32.toNatClampNeg (2 : Int32)))]) (rest := []) S (mX5_blows l D ki ad cs hcs N 11 (0 : Int32) r_13 (G_14 6 (Int32.toNatClampNeg (2 : Int32))) (kA_11 hcs) G_14 tr_15 H.size _ _ _ hf_17) (cwV 4 S.2.2.2.2 gX5_tangled_X5_blows rfl rfl rfl (by decide +kernel) ⟨Nat.le_of_ble_eq_true rfl, Nat.le_of_ble_eq_true rfl⟩) (zr_preV (c0 := 0) K X (hcs 0 (by decide)) mE_R rfl) rfl rfl hl.1 rfl (lv_room (Nat.le_of_ble_eq_true rfl)) dX5_tangled_141 ⟨Nat.zero_le _, Nat.zero_le _⟩) (fun H locs X => ?_)
    refine lv_iinc (v := (x3 + 1)) (lv' := [(3, .int (x3 + 1)), (0, .ref (ad 0))]) S.1 S.2.1 dX5_tangled_144 hl (k := 1) rfl rfl (by decide) rfl (fun ls hl => ?_)
    refine lv_goto (tgt := 48) S.1 S.2.1 dX5_tangled_147 (by decide) ?_
    exact hk48 (x3 + 1) G_19 tr_20 h _ _ _ X (lv_sub hl [1, 0] rfl)
  have b48 : ∀ (k48 : Int32 → zMem → Int64 → zR) (hk48 : ∀ (x3 : Int32) (G : zMem) (tr : Int64), k48 x3 G tr = some (r9, G9, tr9) → zAt p l e (headSpec wsX5_tangled { frames := 2, cells := 0, slots := 0, locals := 53 }).room s m ([.ref (ad 0), .int a1, .int a2] : List Value).toArray below meth c 4 D cs ad (zQI below ([.ref (ad 0), .int a1, .int a2] : List Value).toArray s D cs ad ((mE ki ad) G9 tr9) r9) 48 [(0, .ref (ad 0)), (3, .int x3)] [] ((mE ki ad) G tr)) (x3 : Int32) (G : zMem) (tr : Int64), fX5_tangled_b48 N a1 a2 k48 x3 G tr = some (r9, G9, tr9) → zAt p l e (headSpec wsX5_tangled { frames := 2, cells := 0, slots := 0, locals := 53 }).room s m ([.ref (ad 0), .int a1, .int a2] : List Value).toArray below meth c 4 D cs ad (zQI below ([.ref (ad 0), .int a1, .int a2] : List Value).toArray s D cs ad ((mE ki ad) G9 tr9) r9) 48 [(0, .ref (ad 0)), (3, .int x3)] [] ((mE ki ad) G tr) := by
    intro k48 hk48 x3 G tr h H locs ls X hl
    unfold fX5_tangled_b48 at h
    refine lv_iload_n S.1 S.2.1 dX5_tangled_48 rfl (lv_at hl 1 rfl) ?_
    refine lv_sipush (v := (400 : Int32)) S.1 S.2.1 dX5_tangled_49 (by decide) ?_
    refine lv_icmp_gt (tgt := 150) S.1 S.2.1 dX5_tangled_52 (by decide) (fun hc_1 => ?_) (fun hc_1 => ?_)
    · have h := zif_pos hc_1 h
      refine lv_bipush (v := (-9 : Int32)) S.1 S.2.1 dX5_tangled_150 (by decide) ?_
      exact zr_iret S hr hlk X h dX5_tangled_152
    · have h := zif_neg hc_1 h
      refine lv_aload_n S.1 S.2.1 dX5_tangled_55 rfl (lv_at hl 0 rfl) ?_
      refine zr_get (v := .ref (ad 10)) S K X (hcs 0 (by decide)) mE_R rfl uX5_tangled_X5 19 (by decide) kX5_tangled_38 rfl rfl dX5_tangled_56 ?_
      refine lv_iconst (v := (5 : Int32)) S.1 S.2.1 dX5_tangled_59 (by decide) ?_
      obtain ⟨hi_2, h⟩ := zin_some h
      refine zr_iald S K X (hcs 10 (by decide)) mE_10 hi_2 dX5_tangled_60 ?_
      refine lv_if_ne (tgt := 90) S.1 S.2.1 dX5_tangled_61 (by decide) (fun hc_3 => ?_) (fun hc_3 => ?_)
      · have h := zif_neg hc_3 h
        exact b90 k48 hk48 x3 G tr h _ _ _ X (lv_sub hl [0, 1] rfl)
      · have h := zif_pos hc_3 h
        refine lv_aload_n S.1 S.2.1 dX5_tangled_64 rfl (lv_at hl 0 rfl) ?_
        refine zr_get (v := .ref (ad 11)) S K X (hcs 0 (by decide)) mE_R rfl uX5_tangled_X5 20 (by decide) kX5_tangled_41 rfl rfl dX5_tangled_65 ?_
        refine lv_iconst (v := (5 : Int32)) S.1 S.2.1 dX5_tangled_68 (by decide) ?_
        obtain ⟨hi_4, h⟩ := zin_some h
        refine zr_iald S K X (hcs 11 (by decide)) mE_11 hi_4 dX5_tangled_69 ?_
        refine lv_if_ne (tgt := 90) S.1 S.2.1 dX5_tangled_70 (by decide) (fun hc_5 => ?_) (fun hc_5 => ?_)
        · have h := zif_neg hc_5 h
          exact b90 k48 hk48 x3 G tr h _ _ _ X (lv_sub hl [0, 1] rfl)
        · have h := zif_pos hc_5 h
          refine lv_aload_n S.1 S.2.1 dX5_tangled_73 rfl (lv_at hl 0 rfl) ?_
          refine zr_get (v := .ref (ad 10)) S K X (hcs 0 (by decide)) mE_R rfl uX5_tangled_X5 19 (by decide) kX5_tangled_38 rfl rfl dX5_tangled_74 ?_
          refine lv_iconst (v := (3 : Int32)) S.1 S.2.1 dX5_tangled_77 (by decide) ?_
          obtain ⟨hi_6, h⟩ := zin_some h
          refine zr_iald S K X (hcs 10 (by decide)) mE_10 hi_6 dX5_tangled_78 ?_
          refine lv_aload_n S.1 S.2.1 dX5_tangled_79 rfl (lv_at hl 0 rfl) ?_
          refine zr_get (v := .ref (ad 11)) S K X (hcs 0 (by decide)) mE_R rfl uX5_tangled_X5 20 (by decide) kX5_tangled_41 rfl rfl dX5_tangled_80 ?_
          refine lv_iconst (v := (3 : Int32)) S.1 S.2.1 dX5_tangled_83 (by decide) ?_
          obtain ⟨hi_7, h⟩ := zin_some h
          refine zr_iald S K X (hcs 11 (by decide)) mE_11 hi_7 dX5_tangled_84 ?_
          refine lv_icmp_ne (tgt := 90) S.1 S.2.1 dX5_tangled_85 (by decide) (fun hc_8 => ?_) (fun hc_8 => ?_)
          · have h := zif_neg hc_8 h
            exact b90 k48 hk48 x3 G tr h _ _ _ X (lv_sub hl [0, 1] rfl)
          · have h := zif_pos hc_8 h
            refine lv_iload_n S.1 S.2.1 dX5_tangled_88 rfl (lv_at hl 1 rfl) ?_
            exact zr_iret S hr hlk X h dX5_tangled_89
  have L48 : ∀ (n : Nat) (x3 : Int32) (G : zMem) (tr : Int64), fX5_tangled_L48 N a1 a2 n x3 G tr = some (r9, G9, tr9) → zAt p l e (headSpec wsX5_tangled { frames := 2, cells := 0, slots := 0, locals := 53 }).room s m ([.ref (ad 0), .int a1, .int a2] : List Value).toArray below meth c 4 D cs ad (zQI below ([.ref (ad 0), .int a1, .int a2] : List Value).toArray s D cs ad ((mE ki ad) G9 tr9) r9) 48 [(0, .ref (ad 0)), (3, .int x3)] [] ((mE ki ad) G tr) := by
    intro n
    induction n with
    | zero => intro x3 G tr h; cases h
    | succ n ih => intro x3 G tr h; exact b48 (fX5_tangled_L48 N a1 a2 n) ih x3 G tr h
  unfold fX5_tangled at h
  obtain ⟨H, hH⟩ : ∃ H, H = s.heap := ⟨_, rfl⟩
  obtain ⟨locs, hlo⟩ : ∃ locs : List Loc, locs = [] := ⟨_, rfl⟩
  have X : gS D cs ad ((mE ki ad) G tr) (gA cs ad s.heap.size) s H locs := by rw [hH, hlo]; exact X
  suffices z : W p l e (headSpec wsX5_tangled { frames := 2, cells := 0, slots := 0, locals := 53 }).room s m ([.ref (ad 0), .int a1, .int a2] : List Value).toArray below meth c H locs 0 0 (zQI below ([.ref (ad 0), .int a1, .int a2] : List Value).toArray s D cs ad ((mE ki ad) G9 tr9) r9) (F0 m 0 ls []) by rw [hH, hlo] at z; exact z
  clear hH hlo
  refine lv_aload_n S.1 S.2.1 dX5_tangled_0 rfl (lv_at hl 0 rfl) ?_
  refine lv_iconst (v := (0 : Int32)) S.1 S.2.1 dX5_tangled_1 (by decide) ?_
  refine zr_put (xv := (0 : Int32)) (v := .int (0 : Int32)) (fsf := (fsR ad tr)) (ty := .int) S K X (hcs 0 (by decide)) mE_loc (fun _ => mE_R) rfl uX5_tangled_X5 tyX5 tyX5_ok nmX5 0 (by decide) kX5_tangled_47 rfl (by decide +kernel) rfl rfl (by simp) rfl dX5_tangled_2 (fun H locs X => ?_)
  refine lv_aload_n S.1 S.2.1 dX5_tangled_5 rfl (lv_at hl 0 rfl) ?_
  refine lv_iload_n S.1 S.2.1 dX5_tangled_6 rfl (lv_at hl 1 rfl) ?_
  obtain ⟨r_2, G_3, tr_4, hf_1, h⟩ := zbd_some h
  refine zr_calli (Eg := (mE ki ad)) K X (va_runV (As := [.int a1]) (rest := []) S (mX5_isLetter l D ki ad cs hcs N a1 (up2 G 0 0 (0 : Int32)) tr H.size _ _ _ hf_1) (cwV 1 S.2.2.2.2 gX5_tangled_X5_isLetter rfl rfl rfl (by decide +kernel) ⟨Nat.le_of_ble_eq_true rfl, Nat.le_of_ble_eq_true rfl⟩) (zr_preV (c0 := 0) K X (hcs 0 (by decide)) mE_R rfl) rfl rfl hl.1 rfl (lv_room (Nat.le_of_ble_eq_true rfl)) dX5_tangled_7 ⟨Nat.zero_le _, Nat.zero_le _⟩) (fun H locs X => ?_)
  refine lv_if_eq (tgt := 26) S.1 S.2.1 dX5_tangled_10 (by decide) (fun hc_5 => ?_) (fun hc_5 => ?_)
  · have h := zif_pos hc_5 h
    refine lv_iconst (v := (-1 : Int32)) S.1 S.2.1 dX5_tangled_26 (by decide) ?_
    exact zr_iret S hr hlk X h dX5_tangled_27
  · have h := zif_neg hc_5 h
    refine lv_aload_n S.1 S.2.1 dX5_tangled_13 rfl (lv_at hl 0 rfl) ?_
    refine lv_iload_n S.1 S.2.1 dX5_tangled_14 rfl (lv_at hl 2 rfl) ?_
    obtain ⟨r_7, G_8, tr_9, hf_6, h⟩ := zbd_some h
    refine zr_calli (Eg := (mE ki ad)) K X (va_runV (As := [.int a2]) (rest := []) S (mX5_isLetter l D ki ad cs hcs N a2 G_3 tr_4 H.size _ _ _ hf_6) (cwV 1 S.2.2.2.2 gX5_tangled_X5_isLetter rfl rfl rfl (by decide +kernel) ⟨Nat.le_of_ble_eq_true rfl, Nat.le_of_ble_eq_true rfl⟩) (zr_preV (c0 := 0) K X (hcs 0 (by decide)) mE_R rfl) rfl rfl hl.1 rfl (lv_room (Nat.le_of_ble_eq_true rfl)) dX5_tangled_15 ⟨Nat.zero_le _, Nat.zero_le _⟩) (fun H locs X => ?_)
    refine lv_if_eq (tgt := 26) S.1 S.2.1 dX5_tangled_18 (by decide) (fun hc_10 => ?_) (fun hc_10 => ?_)
    · have h := zif_pos hc_10 h
      refine lv_iconst (v := (-1 : Int32)) S.1 S.2.1 dX5_tangled_26 (by decide) ?_
      exact zr_iret S hr hlk X h dX5_tangled_27
    · have h := zif_neg hc_10 h
      refine lv_iload_n S.1 S.2.1 dX5_tangled_21 rfl (lv_at hl 1 rfl) ?_
      refine lv_iload_n S.1 S.2.1 dX5_tangled_22 rfl (lv_at hl 2 rfl) ?_
      refine lv_icmp_ne (tgt := 28) S.1 S.2.1 dX5_tangled_23 (by decide) (fun hc_11 => ?_) (fun hc_11 => ?_)
      · have h := zif_neg hc_11 h
        refine lv_aload_n S.1 S.2.1 dX5_tangled_28 rfl (lv_at hl 0 rfl) ?_
        refine lv_aload_n S.1 S.2.1 dX5_tangled_29 rfl (lv_at hl 0 rfl) ?_
        refine zr_get (v := .ref (ad 10)) S K X (hcs 0 (by decide)) mE_R rfl uX5_tangled_X5 19 (by decide) kX5_tangled_38 rfl rfl dX5_tangled_30 ?_
        refine lv_iload_n S.1 S.2.1 dX5_tangled_33 rfl (lv_at hl 1 rfl) ?_
        obtain ⟨r_13, G_14, tr_15, hf_12, h⟩ := zbd_some h
        refine zr_callv (Eg := (mE ki ad)) K X (va_runV (As := [.ref (ad 10), .int a1]) (rest := []) S (mX5_takesLetter l D ki ad cs hcs N 10 a1 (kA_10 hcs) G_8 tr_9 H.size _ _ _ hf_12) (cwV 2 S.2.2.2.2 gX5_tangled_X5_takesLetter rfl rfl rfl (by decide +kernel) ⟨Nat.le_of_ble_eq_true rfl, Nat.le_of_ble_eq_true rfl⟩) (zr_preV (c0 := 0) K X (hcs 0 (by decide)) mE_R rfl) rfl rfl hl.1 rfl (lv_room (Nat.le_of_ble_eq_true rfl)) dX5_tangled_34 ⟨Nat.zero_le _, Nat.zero_le _⟩) (fun H locs X => ?_)
        refine lv_aload_n S.1 S.2.1 dX5_tangled_37 rfl (lv_at hl 0 rfl) ?_
        refine lv_aload_n S.1 S.2.1 dX5_tangled_38 rfl (lv_at hl 0 rfl) ?_
        refine zr_get (v := .ref (ad 11)) S K X (hcs 0 (by decide)) mE_R rfl uX5_tangled_X5 20 (by decide) kX5_tangled_41 rfl rfl dX5_tangled_39 ?_
        refine lv_iload_n S.1 S.2.1 dX5_tangled_42 rfl (lv_at hl 2 rfl) ?_
        obtain ⟨r_17, G_18, tr_19, hf_16, h⟩ := zbd_some h
        refine zr_callv (Eg := (mE ki ad)) K X (va_runV (As := [.ref (ad 11), .int a2]) (rest := []) S (mX5_takesLetter l D ki ad cs hcs N 11 a2 (kA_11 hcs) G_14 tr_15 H.size _ _ _ hf_16) (cwV 2 S.2.2.2.2 gX5_tangled_X5_takesLetter rfl rfl rfl (by decide +kernel) ⟨Nat.le_of_ble_eq_true rfl, Nat.le_of_ble_eq_true rfl⟩) (zr_preV (c0 := 0) K X (hcs 0 (by decide)) mE_R rfl) rfl rfl hl.1 rfl (lv_room (Nat.le_of_ble_eq_true rfl)) dX5_tangled_43 ⟨Nat.zero_le _, Nat.zero_le _⟩) (fun H locs X => ?_)
        refine lv_iconst (v := (0 : Int32)) S.1 S.2.1 dX5_tangled_46 (by decide) ?_
        refine lv_istore_n (lv' := [(3, .int (0 : Int32)), (0, .ref (ad 0)), (1, .int a1), (2, .int a2)]) S.1 S.2.1 dX5_tangled_47 rfl hl (by decide) rfl (fun ls hl => ?_)
        exact L48 N (0 : Int32) G_18 tr_19 h _ _ _ X (lv_sub hl [1, 0] rfl)
      · have h := zif_pos hc_11 h
        refine lv_iconst (v := (-1 : Int32)) S.1 S.2.1 dX5_tangled_26 (by decide) ?_
        exact zr_iret S hr hlk X h dX5_tangled_27
set_option maxRecDepth 20000 in
theorem ggX5_comesBy_X5_puts : GoodIn wsX5_comesBy wsX5_puts := goodIn_r _ [6, 7, 35, 36, 37, 38, 39, 40, 41, 42, 43, 44, 45, 46, 47, 48, 49, 50, 51, 52, 53, 54, 55, 56] (by decide +kernel) (by decide +kernel)
set_option maxRecDepth 20000 in
theorem gX5_comesBy_X5_puts : GoodIn wsX5_comesBy (wsV RX5 138 RX5 yX5_puts wsX5_puts) := goodIn_app (goodIn_of _ (by decide +kernel)) ggX5_comesBy_X5_puts
set_option maxRecDepth 20000 in
theorem ggX5_comesBy_X5_comesIn : GoodIn wsX5_comesBy wsX5_comesIn := goodIn_r _ [11, 1, 12, 13, 14, 15, 5, 16, 17, 18, 19, 20, 21, 22, 23, 24, 25, 26, 27, 28, 29, 30, 31, 32, 33, 34, 7, 35, 36, 37, 38, 39, 40, 41, 42, 43, 44, 45, 46, 47, 48, 49, 50, 51, 52, 53, 54, 55, 56] (by decide +kernel) (by decide +kernel)
set_option maxRecDepth 20000 in
theorem gX5_comesBy_X5_comesIn : GoodIn wsX5_comesBy (wsV RX5 157 RX5 yX5_comesIn wsX5_comesIn) := goodIn_app (goodIn_of _ (by decide +kernel)) ggX5_comesBy_X5_comesIn
theorem dX5_comesBy_0 : decode cX5_comesBy 0 = .ok (.aload_n 0, 1) := by decide +kernel
theorem dX5_comesBy_1 : decode cX5_comesBy 1 = .ok (.aload_n 0, 1) := by decide +kernel
theorem dX5_comesBy_2 : decode cX5_comesBy 2 = .ok (.getfield 38, 3) := by decide +kernel
theorem dX5_comesBy_5 : decode cX5_comesBy 5 = .ok (.iconst 0, 1) := by decide +kernel
theorem dX5_comesBy_6 : decode cX5_comesBy 6 = .ok (.iload_n 1, 1) := by decide +kernel
theorem dX5_comesBy_7 : decode cX5_comesBy 7 = .ok (.iload_n 2, 1) := by decide +kernel
theorem dX5_comesBy_8 : decode cX5_comesBy 8 = .ok (.iload_n 3, 1) := by decide +kernel
theorem dX5_comesBy_9 : decode cX5_comesBy 9 = .ok (.invokevirtual 138, 3) := by decide +kernel
theorem dX5_comesBy_12 : decode cX5_comesBy 12 = .ok (.aload_n 0, 1) := by decide +kernel
theorem dX5_comesBy_13 : decode cX5_comesBy 13 = .ok (.iload 4, 2) := by decide +kernel
theorem dX5_comesBy_15 : decode cX5_comesBy 15 = .ok (.iload 5, 2) := by decide +kernel
theorem dX5_comesBy_17 : decode cX5_comesBy 17 = .ok (.invokevirtual 157, 3) := by decide +kernel
theorem dX5_comesBy_20 : decode cX5_comesBy 20 = .ok (.ireturn, 1) := by decide +kernel
set_option maxRecDepth 20000 in
theorem kX5_comesBy_38 : Cond.fieldLink RX5 38 "WindPostModel" "trial" "[I" ∈ wsX5_comesBy := by decide +kernel
set_option maxRecDepth 20000 in
theorem uX5_comesBy_X5 : ∀ w ∈ wsX50, w ∈ wsX5_comesBy := by decide +kernel
set_option maxHeartbeats 8000000 in
set_option maxRecDepth 100000 in
theorem mX5_comesBy (l : Launch) (D : va_G) (ki : Nat → ClassId) (ad : Nat → Nat) (cs : List Nat) (hcs : kR cs) (N : Nat) (a1 : Int32) (a2 : Int32) (a3 : Int32) (a4 : Int32) (a5 : Int32) (G : zMem) (tr : Int64) : gMetI l D ki ad cs yX5_comesBy wsX5_comesBy { frames := 3, cells := 0, slots := 0, locals := 76 } [.ref (ad 0), .int a1, .int a2, .int a3, .int a4, .int a5] (mE ki ad) G tr (fX5_comesBy N a1 a2 a3 a4 a5 G tr) := by
  refine gMetI_of (cc := cX5_comesBy) (maxL := 6) (ret := (some .int)) (own := RX5) (by decide +kernel) rfl rfl (Nat.le_of_ble_eq_true rfl) ?_
  intro r9 G9 tr9 h p e s m below meth c S hr hlk K X ls hl
  have hl : lv_has ls 6 [(0, .ref (ad 0)), (1, .int a1), (2, .int a2), (3, .int a3), (4, .int a4), (5, .int a5)] := hl
  unfold fX5_comesBy at h
  obtain ⟨H, hH⟩ : ∃ H, H = s.heap := ⟨_, rfl⟩
  obtain ⟨locs, hlo⟩ : ∃ locs : List Loc, locs = [] := ⟨_, rfl⟩
  have X : gS D cs ad ((mE ki ad) G tr) (gA cs ad s.heap.size) s H locs := by rw [hH, hlo]; exact X
  suffices z : W p l e (headSpec wsX5_comesBy { frames := 3, cells := 0, slots := 0, locals := 76 }).room s m ([.ref (ad 0), .int a1, .int a2, .int a3, .int a4, .int a5] : List Value).toArray below meth c H locs 0 0 (zQI below ([.ref (ad 0), .int a1, .int a2, .int a3, .int a4, .int a5] : List Value).toArray s D cs ad ((mE ki ad) G9 tr9) r9) (F0 m 0 ls []) by rw [hH, hlo] at z; exact z
  clear hH hlo
  refine lv_aload_n S.1 S.2.1 dX5_comesBy_0 rfl (lv_at hl 0 rfl) ?_
  refine lv_aload_n S.1 S.2.1 dX5_comesBy_1 rfl (lv_at hl 0 rfl) ?_
  refine zr_get (v := .ref (ad 10)) S K X (hcs 0 (by decide)) mE_R rfl uX5_comesBy_X5 19 (by decide) kX5_comesBy_38 rfl rfl dX5_comesBy_2 ?_
  refine lv_iconst (v := (0 : Int32)) S.1 S.2.1 dX5_comesBy_5 (by decide) ?_
  refine lv_iload_n S.1 S.2.1 dX5_comesBy_6 rfl (lv_at hl 1 rfl) ?_
  refine lv_iload_n S.1 S.2.1 dX5_comesBy_7 rfl (lv_at hl 2 rfl) ?_
  refine lv_iload_n S.1 S.2.1 dX5_comesBy_8 rfl (lv_at hl 3 rfl) ?_
  obtain ⟨r_2, G_3, tr_4, hf_1, h⟩ := zbd_some h
  refine zr_callv (Eg := (mE ki ad)) K X (va_runV (As := [.ref (ad 10), .int (0 : Int32), .int a1, .int a2, .int a3]) (rest := []) S (mX5_puts l D ki ad cs hcs N 10 (0 : Int32) a1 a2 a3 (kA_10 hcs) G tr H.size _ _ _ hf_1) (cwV 5 S.2.2.2.2 gX5_comesBy_X5_puts rfl rfl rfl (by decide +kernel) ⟨Nat.le_of_ble_eq_true rfl, Nat.le_of_ble_eq_true rfl⟩) (zr_preV (c0 := 0) K X (hcs 0 (by decide)) mE_R rfl) rfl rfl hl.1 rfl (lv_room (Nat.le_of_ble_eq_true rfl)) dX5_comesBy_9 ⟨Nat.zero_le _, Nat.zero_le _⟩) (fun H locs X => ?_)
  refine lv_aload_n S.1 S.2.1 dX5_comesBy_12 rfl (lv_at hl 0 rfl) ?_
  refine lv_iload S.1 S.2.1 dX5_comesBy_13 (lv_at hl 4 rfl) ?_
  refine lv_iload S.1 S.2.1 dX5_comesBy_15 (lv_at hl 5 rfl) ?_
  obtain ⟨r_6, G_7, tr_8, hf_5, h⟩ := zbd_some h
  refine zr_calli (Eg := (mE ki ad)) K X (va_runV (As := [.int a4, .int a5]) (rest := []) S (mX5_comesIn l D ki ad cs hcs N a4 a5 G_3 tr_4 H.size _ _ _ hf_5) (cwV 2 S.2.2.2.2 gX5_comesBy_X5_comesIn rfl rfl rfl (by decide +kernel) ⟨Nat.le_of_ble_eq_true rfl, Nat.le_of_ble_eq_true rfl⟩) (zr_preV (c0 := 0) K X (hcs 0 (by decide)) mE_R rfl) rfl rfl hl.1 rfl (lv_room (Nat.le_of_ble_eq_true rfl)) dX5_comesBy_17 ⟨Nat.zero_le _, Nat.zero_le _⟩) (fun H locs X => ?_)
  exact zr_iret S hr hlk X h dX5_comesBy_20
set_option maxRecDepth 20000 in
theorem ggX5_bestK_X5_comesBy : GoodIn wsX5_bestK wsX5_comesBy := goodIn_r _ [5, 6, 7, 8, 9, 4, 10, 11, 12, 13, 14, 15, 16, 17, 18, 19, 20, 21, 22, 23, 24, 25, 26, 27, 28, 29, 30, 31, 32, 33, 34, 35, 36, 37, 38, 39, 40, 41, 42, 43, 44, 45, 46, 47, 48, 49, 50, 51, 52, 53, 54, 55, 56, 57, 58, 59, 60] (by decide +kernel) (by decide +kernel)
set_option maxRecDepth 20000 in
theorem gX5_bestK_X5_comesBy : GoodIn wsX5_bestK (wsV RX5 160 RX5 yX5_comesBy wsX5_comesBy) := goodIn_app (goodIn_of _ (by decide +kernel)) ggX5_bestK_X5_comesBy
theorem dX5_bestK_0 : decode cX5_bestK 0 = .ok (.bipush (-9), 2) := by decide +kernel
theorem dX5_bestK_2 : decode cX5_bestK 2 = .ok (.istore 5, 2) := by decide +kernel
theorem dX5_bestK_4 : decode cX5_bestK 4 = .ok (.iconst 0, 1) := by decide +kernel
theorem dX5_bestK_5 : decode cX5_bestK 5 = .ok (.istore 6, 2) := by decide +kernel
theorem dX5_bestK_7 : decode cX5_bestK 7 = .ok (.iconst 0, 1) := by decide +kernel
theorem dX5_bestK_8 : decode cX5_bestK 8 = .ok (.istore 7, 2) := by decide +kernel
theorem dX5_bestK_10 : decode cX5_bestK 10 = .ok (.iload 7, 2) := by decide +kernel
theorem dX5_bestK_12 : decode cX5_bestK 12 = .ok (.bipush 12, 2) := by decide +kernel
theorem dX5_bestK_14 : decode cX5_bestK 14 = .ok (.if_icmp .ge 57, 3) := by decide +kernel
theorem dX5_bestK_17 : decode cX5_bestK 17 = .ok (.aload_n 0, 1) := by decide +kernel
theorem dX5_bestK_18 : decode cX5_bestK 18 = .ok (.iload_n 1, 1) := by decide +kernel
theorem dX5_bestK_19 : decode cX5_bestK 19 = .ok (.iload_n 2, 1) := by decide +kernel
theorem dX5_bestK_20 : decode cX5_bestK 20 = .ok (.iload_n 3, 1) := by decide +kernel
theorem dX5_bestK_21 : decode cX5_bestK 21 = .ok (.iload 7, 2) := by decide +kernel
theorem dX5_bestK_23 : decode cX5_bestK 23 = .ok (.iload 4, 2) := by decide +kernel
theorem dX5_bestK_25 : decode cX5_bestK 25 = .ok (.invokevirtual 160, 3) := by decide +kernel
theorem dX5_bestK_28 : decode cX5_bestK 28 = .ok (.istore 8, 2) := by decide +kernel
theorem dX5_bestK_30 : decode cX5_bestK 30 = .ok (.iload 8, 2) := by decide +kernel
theorem dX5_bestK_32 : decode cX5_bestK 32 = .ok (.bipush (-9), 2) := by decide +kernel
theorem dX5_bestK_34 : decode cX5_bestK 34 = .ok (.if_icmp .eq 31, 3) := by decide +kernel
theorem dX5_bestK_37 : decode cX5_bestK 37 = .ok (.iload 5, 2) := by decide +kernel
theorem dX5_bestK_39 : decode cX5_bestK 39 = .ok (.bipush (-9), 2) := by decide +kernel
theorem dX5_bestK_41 : decode cX5_bestK 41 = .ok (.if_icmp .eq 13, 3) := by decide +kernel
theorem dX5_bestK_44 : decode cX5_bestK 44 = .ok (.iload 7, 2) := by decide +kernel
theorem dX5_bestK_46 : decode cX5_bestK 46 = .ok (.iload 8, 2) := by decide +kernel
theorem dX5_bestK_48 : decode cX5_bestK 48 = .ok (.iadd, 1) := by decide +kernel
theorem dX5_bestK_49 : decode cX5_bestK 49 = .ok (.iload 6, 2) := by decide +kernel
theorem dX5_bestK_51 : decode cX5_bestK 51 = .ok (.if_icmp .ge 14, 3) := by decide +kernel
theorem dX5_bestK_54 : decode cX5_bestK 54 = .ok (.iload 7, 2) := by decide +kernel
theorem dX5_bestK_56 : decode cX5_bestK 56 = .ok (.istore 5, 2) := by decide +kernel
theorem dX5_bestK_58 : decode cX5_bestK 58 = .ok (.iload 7, 2) := by decide +kernel
theorem dX5_bestK_60 : decode cX5_bestK 60 = .ok (.iload 8, 2) := by decide +kernel
theorem dX5_bestK_62 : decode cX5_bestK 62 = .ok (.iadd, 1) := by decide +kernel
theorem dX5_bestK_63 : decode cX5_bestK 63 = .ok (.istore 6, 2) := by decide +kernel
theorem dX5_bestK_65 : decode cX5_bestK 65 = .ok (.iinc 7 1, 3) := by decide +kernel
theorem dX5_bestK_68 : decode cX5_bestK 68 = .ok (.goto (-58), 3) := by decide +kernel
theorem dX5_bestK_71 : decode cX5_bestK 71 = .ok (.iload 5, 2) := by decide +kernel
theorem dX5_bestK_73 : decode cX5_bestK 73 = .ok (.ireturn, 1) := by decide +kernel

set_option maxHeartbeats 8000000 in
set_option maxRecDepth 100000 in
theorem mX5_bestK (l : Launch) (D : va_G) (ki : Nat → ClassId) (ad : Nat → Nat) (cs : List Nat) (hcs : kR cs) (N : Nat) (a1 : Int32) (a2 : Int32) (a3 : Int32) (a4 : Int32) (G : zMem) (tr : Int64) : gMetI l D ki ad cs yX5_bestK wsX5_bestK { frames := 4, cells := 0, slots := 0, locals := 101 } [.ref (ad 0), .int a1, .int a2, .int a3, .int a4] (mE ki ad) G tr (fX5_bestK N a1 a2 a3 a4 G tr) := by
  refine gMetI_of (cc := cX5_bestK) (maxL := 9) (ret := (some .int)) (own := RX5) (by decide +kernel) rfl rfl (Nat.le_of_ble_eq_true rfl) ?_
  intro r9 G9 tr9 h p e s m below meth c S hr hlk K X ls hl
  have hl : lv_has ls 9 [(0, .ref (ad 0)), (1, .int a1), (2, .int a2), (3, .int a3), (4, .int a4)] := hl
  have b65 : ∀ (k10 : Int32 → Int32 → Int32 → zMem → Int64 → zR) (hk10 : ∀ (x5 : Int32) (x6 : Int32) (x7 : Int32) (G : zMem) (tr : Int64), k10 x5 x6 x7 G tr = some (r9, G9, tr9) → zAt p l e (headSpec wsX5_bestK { frames := 4, cells := 0, slots := 0, locals := 101 }).room s m ([.ref (ad 0), .int a1, .int a2, .int a3, .int a4] : List Value).toArray below meth c 9 D cs ad (zQI below ([.ref (ad 0), .int a1, .int a2, .int a3, .int a4] : List Value).toArray s D cs ad ((mE ki ad) G9 tr9) r9) 10 [(0, .ref (ad 0)), (1, .int a1), (2, .int a2), (3, .int a3), (4, .int a4), (5, .int x5), (6, .int x6), (7, .int x7)] [] ((mE ki ad) G tr)) (x5 : Int32) (x6 : Int32) (x7 : Int32) (G : zMem) (tr : Int64), fX5_bestK_b65 N a1 a2 a3 a4 k10 x5 x6 x7 G tr = some (r9, G9, tr9) → zAt p l e (headSpec wsX5_bestK { frames := 4, cells := 0, slots := 0, locals := 101 }).room s m ([.ref (ad 0), .int a1, .int a2, .int a3, .int a4] : List Value).toArray below meth c 9 D cs ad (zQI below ([.ref (ad 0), .int a1, .int a2, .int a3, .int a4] : List Value).toArray s D cs ad ((mE ki ad) G9 tr9) r9) 65 [(0, .ref (ad 0)), (1, .int a1), (2, .int a2), (3, .int a3), (4, .int a4), (5, .int x5), (6, .int x6), (7, .int x7)] [] ((mE ki ad) G tr) := by
    intro k10 hk10 x5 x6 x7 G tr h H locs ls X hl
    unfold fX5_bestK_b65 at h
    refine lv_iinc (v := (x7 + 1)) (lv' := [(7, .int (x7 + 1)), (0, .ref (ad 0)), (1, .int a1), (2, .int a2), (3, .int a3), (4, .int a4), (5, .int x5), (6, .int x6)]) S.1 S.2.1 dX5_bestK_65 hl (k := 7) rfl rfl (by decide) rfl (fun ls hl => ?_)
    refine lv_goto (tgt := 10) S.1 S.2.1 dX5_bestK_68 (by decide) ?_
    exact hk10 x5 x6 (x7 + 1) G tr h _ _ _ X (lv_sub hl [1, 2, 3, 4, 5, 6, 7, 0] rfl)
  have b54 : ∀ (k10 : Int32 → Int32 → Int32 → zMem → Int64 → zR) (hk10 : ∀ (x5 : Int32) (x6 : Int32) (x7 : Int32) (G : zMem) (tr : Int64), k10 x5 x6 x7 G tr = some (r9, G9, tr9) → zAt p l e (headSpec wsX5_bestK { frames := 4, cells := 0, slots := 0, locals := 101 }).room s m ([.ref (ad 0), .int a1, .int a2, .int a3, .int a4] : List Value).toArray below meth c 9 D cs ad (zQI below ([.ref (ad 0), .int a1, .int a2, .int a3, .int a4] : List Value).toArray s D cs ad ((mE ki ad) G9 tr9) r9) 10 [(0, .ref (ad 0)), (1, .int a1), (2, .int a2), (3, .int a3), (4, .int a4), (5, .int x5), (6, .int x6), (7, .int x7)] [] ((mE ki ad) G tr)) (x7 : Int32) (x8 : Int32) (G : zMem) (tr : Int64), fX5_bestK_b54 N a1 a2 a3 a4 k10 x7 x8 G tr = some (r9, G9, tr9) → zAt p l e (headSpec wsX5_bestK { frames := 4, cells := 0, slots := 0, locals := 101 }).room s m ([.ref (ad 0), .int a1, .int a2, .int a3, .int a4] : List Value).toArray below meth c 9 D cs ad (zQI below ([.ref (ad 0), .int a1, .int a2, .int a3, .int a4] : List Value).toArray s D cs ad ((mE ki ad) G9 tr9) r9) 54 [(0, .ref (ad 0)), (1, .int a1), (2, .int a2), (3, .int a3), (4, .int a4), (7, .int x7), (8, .int x8)] [] ((mE ki ad) G tr) := by
    intro k10 hk10 x7 x8 G tr h H locs ls X hl
    unfold fX5_bestK_b54 at h
    refine lv_iload S.1 S.2.1 dX5_bestK_54 (lv_at hl 5 rfl) ?_
    refine lv_istore (lv' := [(5, .int x7), (0, .ref (ad 0)), (1, .int a1), (2, .int a2), (3, .int a3), (4, .int a4), (7, .int x7), (8, .int x8)]) S.1 S.2.1 dX5_bestK_56 hl (by decide) rfl (fun ls hl => ?_)
    refine lv_iload S.1 S.2.1 dX5_bestK_58 (lv_at hl 6 rfl) ?_
    refine lv_iload S.1 S.2.1 dX5_bestK_60 (lv_at hl 7 rfl) ?_
    refine lv_iadd S.1 S.2.1 dX5_bestK_62 ?_
    refine lv_istore (lv' := [(6, .int (x7 + x8)), (5, .int x7), (0, .ref (ad 0)), (1, .int a1), (2, .int a2), (3, .int a3), (4, .int a4), (7, .int x7), (8, .int x8)]) S.1 S.2.1 dX5_bestK_63 hl (by decide) rfl (fun ls hl => ?_)
    exact b65 k10 hk10 x7 (x7 + x8) x7 G tr h _ _ _ X (lv_sub hl [2, 3, 4, 5, 6, 1, 0, 7] rfl)
  have b10 : ∀ (k10 : Int32 → Int32 → Int32 → zMem → Int64 → zR) (hk10 : ∀ (x5 : Int32) (x6 : Int32) (x7 : Int32) (G : zMem) (tr : Int64), k10 x5 x6 x7 G tr = some (r9, G9, tr9) → zAt p l e (headSpec wsX5_bestK { frames := 4, cells := 0, slots := 0, locals := 101 }).room s m ([.ref (ad 0), .int a1, .int a2, .int a3, .int a4] : List Value).toArray below meth c 9 D cs ad (zQI below ([.ref (ad 0), .int a1, .int a2, .int a3, .int a4] : List Value).toArray s D cs ad ((mE ki ad) G9 tr9) r9) 10 [(0, .ref (ad 0)), (1, .int a1), (2, .int a2), (3, .int a3), (4, .int a4), (5, .int x5), (6, .int x6), (7, .int x7)] [] ((mE ki ad) G tr)) (x5 : Int32) (x6 : Int32) (x7 : Int32) (G : zMem) (tr : Int64), fX5_bestK_b10 N a1 a2 a3 a4 k10 x5 x6 x7 G tr = some (r9, G9, tr9) → zAt p l e (headSpec wsX5_bestK { frames := 4, cells := 0, slots := 0, locals := 101 }).room s m ([.ref (ad 0), .int a1, .int a2, .int a3, .int a4] : List Value).toArray below meth c 9 D cs ad (zQI below ([.ref (ad 0), .int a1, .int a2, .int a3, .int a4] : List Value).toArray s D cs ad ((mE ki ad) G9 tr9) r9) 10 [(0, .ref (ad 0)), (1, .int a1), (2, .int a2), (3, .int a3), (4, .int a4), (5, .int x5), (6, .int x6), (7, .int x7)] [] ((mE ki ad) G tr) := by
    intro k10 hk10 x5 x6 x7 G tr h H locs ls X hl
    unfold fX5_bestK_b10 at h
    refine lv_iload S.1 S.2.1 dX5_bestK_10 (lv_at hl 7 rfl) ?_
    refine lv_bipush (v := (12 : Int32)) S.1 S.2.1 dX5_bestK_12 (by decide) ?_
    refine lv_icmp_ge (tgt := 71) S.1 S.2.1 dX5_bestK_14 (by decide) (fun hc_1 => ?_) (fun hc_1 => ?_)
    · have h := zif_pos hc_1 h
      refine lv_iload S.1 S.2.1 dX5_bestK_71 (lv_at hl 5 rfl) ?_
      exact zr_iret S hr hlk X h dX5_bestK_73
    · have h := zif_neg hc_1 h
      refine lv_aload_n S.1 S.2.1 dX5_bestK_17 rfl (lv_at hl 0 rfl) ?_
      refine lv_iload_n S.1 S.2.1 dX5_bestK_18 rfl (lv_at hl 1 rfl) ?_
      refine lv_iload_n S.1 S.2.1 dX5_bestK_19 rfl (lv_at hl 2 rfl) ?_
      refine lv_iload_n S.1 S.2.1 dX5_bestK_20 rfl (lv_at hl 3 rfl) ?_
      refine lv_iload S.1 S.2.1 dX5_bestK_21 (lv_at hl 7 rfl) ?_
      refine lv_iload S.1 S.2.1 dX5_bestK_23 (lv_at hl 4 rfl) ?_
      obtain ⟨r_3, G_4, tr_5, hf_2, h⟩ := zbd_some h
      refine zr_calli (Eg := (mE ki ad)) K X (va_runV (As := [.int a1, .int a2, .int a3, .int x7, .int a4]) (rest := []) S (mX5_comesBy l D ki ad cs hcs N a1 a2 a3 x7 a4 G tr H.size _ _ _ hf_2) (cwV 5 S.2.2.2.2 gX5_bestK_X5_comesBy rfl rfl rfl (by decide +kernel) ⟨Nat.le_of_ble_eq_true rfl, Nat.le_of_ble_eq_true rfl⟩) (zr_preV (c0 := 0) K X (hcs 0 (by decide)) mE_R rfl) rfl rfl hl.1 rfl (lv_room (Nat.le_of_ble_eq_true rfl)) dX5_bestK_25 ⟨Nat.zero_le _, Nat.zero_le _⟩) (fun H locs X => ?_)
      refine lv_istore (lv' := [(8, .int r_3), (0, .ref (ad 0)), (1, .int a1), (2, .int a2), (3, .int a3), (4, .int a4), (5, .int x5), (6, .int x6), (7, .int x7)]) S.1 S.2.1 dX5_bestK_28 hl (by decide) rfl (fun ls hl => ?_)
      refine lv_iload S.1 S.2.1 dX5_bestK_30 (lv_at hl 0 rfl) ?_
      refine lv_bipush (v := (-9 : Int32)) S.1 S.2.1 dX5_bestK_32 (by decide) ?_
      refine lv_icmp_eq (tgt := 65) S.1 S.2.1 dX5_bestK_34 (by decide) (fun hc_6 => ?_) (fun hc_6 => ?_)
      · have h := zif_pos hc_6 h
        exact b65 k10 hk10 x5 x6 x7 G_4 tr_5 h _ _ _ X (lv_sub hl [1, 2, 3, 4, 5, 6, 7, 8] rfl)
      · have h := zif_neg hc_6 h
        refine lv_iload S.1 S.2.1 dX5_bestK_37 (lv_at hl 6 rfl) ?_
        refine lv_bipush (v := (-9 : Int32)) S.1 S.2.1 dX5_bestK_39 (by decide) ?_
        refine lv_icmp_eq (tgt := 54) S.1 S.2.1 dX5_bestK_41 (by decide) (fun hc_7 => ?_) (fun hc_7 => ?_)
        · have h := zif_pos hc_7 h
          exact b54 k10 hk10 x7 r_3 G_4 tr_5 h _ _ _ X (lv_sub hl [1, 2, 3, 4, 5, 8, 0] rfl)
        · have h := zif_neg hc_7 h
          refine lv_iload S.1 S.2.1 dX5_bestK_44 (lv_at hl 8 rfl) ?_
          refine lv_iload S.1 S.2.1 dX5_bestK_46 (lv_at hl 0 rfl) ?_
          refine lv_iadd S.1 S.2.1 dX5_bestK_48 ?_
          refine lv_iload S.1 S.2.1 dX5_bestK_49 (lv_at hl 7 rfl) ?_
          refine lv_icmp_ge (tgt := 65) S.1 S.2.1 dX5_bestK_51 (by decide) (fun hc_8 => ?_) (fun hc_8 => ?_)
          · have h := zif_pos hc_8 h
            exact b65 k10 hk10 x5 x6 x7 G_4 tr_5 h _ _ _ X (lv_sub hl [1, 2, 3, 4, 5, 6, 7, 8] rfl)
          · have h := zif_neg hc_8 h
            exact b54 k10 hk10 x7 r_3 G_4 tr_5 h _ _ _ X (lv_sub hl [1, 2, 3, 4, 5, 8, 0] rfl)
  have L10 : ∀ (n : Nat) (x5 : Int32) (x6 : Int32) (x7 : Int32) (G : zMem) (tr : Int64), fX5_bestK_L10 N a1 a2 a3 a4 n x5 x6 x7 G tr = some (r9, G9, tr9) → zAt p l e (headSpec wsX5_bestK { frames := 4, cells := 0, slots := 0, locals := 101 }).room s m ([.ref (ad 0), .int a1, .int a2, .int a3, .int a4] : List Value).toArray below meth c 9 D cs ad (zQI below ([.ref (ad 0), .int a1, .int a2, .int a3, .int a4] : List Value).toArray s D cs ad ((mE ki ad) G9 tr9) r9) 10 [(0, .ref (ad 0)), (1, .int a1), (2, .int a2), (3, .int a3), (4, .int a4), (5, .int x5), (6, .int x6), (7, .int x7)] [] ((mE ki ad) G tr) := by
    intro n
    induction n with
    | zero => intro x5 x6 x7 G tr h; cases h
    | succ n ih => intro x5 x6 x7 G tr h; exact b10 (fX5_bestK_L10 N a1 a2 a3 a4 n) ih x5 x6 x7 G tr h
  unfold fX5_bestK at h
  obtain ⟨H, hH⟩ : ∃ H, H = s.heap := ⟨_, rfl⟩
  obtain ⟨locs, hlo⟩ : ∃ locs : List Loc, locs = [] := ⟨_, rfl⟩
  have X : gS D cs ad ((mE ki ad) G tr) (gA cs ad s.heap.size) s H locs := by rw [hH, hlo]; exact X
  suffices z : W p l e (headSpec wsX5_bestK { frames := 4, cells := 0, slots := 0, locals := 101 }).room s m ([.ref (ad 0), .int a1, .int a2, .int a3, .int a4] : List Value).toArray below meth c H locs 0 0 (zQI below ([.ref (ad 0), .int a1, .int a2, .int a3, .int a4] : List Value).toArray s D cs ad ((mE ki ad) G9 tr9) r9) (F0 m 0 ls []) by rw [hH, hlo] at z; exact z
  clear hH hlo
  refine lv_bipush (v := (-9 : Int32)) S.1 S.2.1 dX5_bestK_0 (by decide) ?_
  refine lv_istore (lv' := [(5, .int (-9 : Int32)), (0, .ref (ad 0)), (1, .int a1), (2, .int a2), (3, .int a3), (4, .int a4)]) S.1 S.2.1 dX5_bestK_2 hl (by decide) rfl (fun ls hl => ?_)
  refine lv_iconst (v := (0 : Int32)) S.1 S.2.1 dX5_bestK_4 (by decide) ?_
  refine lv_istore (lv' := [(6, .int (0 : Int32)), (5, .int (-9 : Int32)), (0, .ref (ad 0)), (1, .int a1), (2, .int a2), (3, .int a3), (4, .int a4)]) S.1 S.2.1 dX5_bestK_5 hl (by decide) rfl (fun ls hl => ?_)
  refine lv_iconst (v := (0 : Int32)) S.1 S.2.1 dX5_bestK_7 (by decide) ?_
  refine lv_istore (lv' := [(7, .int (0 : Int32)), (6, .int (0 : Int32)), (5, .int (-9 : Int32)), (0, .ref (ad 0)), (1, .int a1), (2, .int a2), (3, .int a3), (4, .int a4)]) S.1 S.2.1 dX5_bestK_8 hl (by decide) rfl (fun ls hl => ?_)
  exact L10 N (-9 : Int32) (0 : Int32) (0 : Int32) G tr h _ _ _ X (lv_sub hl [3, 4, 5, 6, 7, 2, 1, 0] rfl)
set_option maxRecDepth 20000 in
theorem ggX5_soonest_X5_areTwo : GoodIn wsX5_soonest wsX5_areTwo := goodIn_r _ [7, 8, 9, 10, 6, 11, 12, 13, 14, 15, 55, 56, 57, 58, 59, 60, 61, 62, 63, 64, 65, 66, 67, 68, 69, 70, 71, 72, 73, 74, 75, 76] (by decide +kernel) (by decide +kernel)
set_option maxRecDepth 20000 in
theorem gX5_soonest_X5_areTwo : GoodIn wsX5_soonest (wsV RX5 131 RX5 yX5_areTwo wsX5_areTwo) := goodIn_app (goodIn_of _ (by decide +kernel)) ggX5_soonest_X5_areTwo
set_option maxRecDepth 20000 in
theorem ggX5_soonest_X5_in : GoodIn wsX5_soonest wsX5_in := goodIn_r _ [15] (by decide +kernel) (by decide +kernel)
set_option maxRecDepth 20000 in
theorem gX5_soonest_X5_in : GoodIn wsX5_soonest (va_wsS RX5 51 yX5_in wsX5_in) := goodIn_app (goodIn_of _ (by decide +kernel)) ggX5_soonest_X5_in
set_option maxRecDepth 20000 in
theorem ggX5_soonest_X5_bestK : GoodIn wsX5_soonest wsX5_bestK := goodIn_r _ [19, 20, 21, 22, 6, 23, 24, 25, 26, 27, 28, 29, 30, 31, 32, 33, 2, 34, 35, 36, 37, 12, 38, 39, 40, 41, 42, 43, 44, 45, 46, 47, 48, 49, 50, 51, 52, 53, 54, 55, 56, 57, 58, 59, 60, 61, 62, 63, 64, 65, 66, 67, 68, 69, 70, 71, 72, 73, 74, 75, 76] (by decide +kernel) (by decide +kernel)
set_option maxRecDepth 20000 in
theorem gX5_soonest_X5_bestK : GoodIn wsX5_soonest (wsV RX5 164 RX5 yX5_bestK wsX5_bestK) := goodIn_app (goodIn_of _ (by decide +kernel)) ggX5_soonest_X5_bestK
set_option maxRecDepth 20000 in
theorem ggX5_soonest_X5_comesBy : GoodIn wsX5_soonest wsX5_comesBy := goodIn_r _ [23, 24, 25, 26, 27, 6, 28, 29, 30, 31, 32, 33, 2, 34, 35, 36, 37, 12, 38, 39, 40, 41, 42, 43, 44, 45, 46, 47, 48, 49, 50, 51, 52, 53, 54, 55, 56, 57, 58, 59, 60, 61, 62, 63, 64, 65, 66, 67, 68, 69, 70, 71, 72, 73, 74, 75, 76] (by decide +kernel) (by decide +kernel)
set_option maxRecDepth 20000 in
theorem gX5_soonest_X5_comesBy : GoodIn wsX5_soonest (wsV RX5 160 RX5 yX5_comesBy wsX5_comesBy) := goodIn_app (goodIn_of _ (by decide +kernel)) ggX5_soonest_X5_comesBy
theorem dX5_soonest_0 : decode cX5_soonest 0 = .ok (.aload_n 0, 1) := by decide +kernel
theorem dX5_soonest_1 : decode cX5_soonest 1 = .ok (.iconst 0, 1) := by decide +kernel
theorem dX5_soonest_2 : decode cX5_soonest 2 = .ok (.putfield 47, 3) := by decide +kernel
theorem dX5_soonest_5 : decode cX5_soonest 5 = .ok (.aload_n 0, 1) := by decide +kernel
theorem dX5_soonest_6 : decode cX5_soonest 6 = .ok (.iload_n 1, 1) := by decide +kernel
theorem dX5_soonest_7 : decode cX5_soonest 7 = .ok (.iload_n 2, 1) := by decide +kernel
theorem dX5_soonest_8 : decode cX5_soonest 8 = .ok (.invokevirtual 131, 3) := by decide +kernel
theorem dX5_soonest_11 : decode cX5_soonest 11 = .ok (.ifCond .eq 22, 3) := by decide +kernel
theorem dX5_soonest_14 : decode cX5_soonest 14 = .ok (.iload_n 3, 1) := by decide +kernel
theorem dX5_soonest_15 : decode cX5_soonest 15 = .ok (.iconst 1, 1) := by decide +kernel
theorem dX5_soonest_16 : decode cX5_soonest 16 = .ok (.iconst 5, 1) := by decide +kernel
theorem dX5_soonest_17 : decode cX5_soonest 17 = .ok (.invokestatic 51, 3) := by decide +kernel
theorem dX5_soonest_20 : decode cX5_soonest 20 = .ok (.ifCond .eq 13, 3) := by decide +kernel
theorem dX5_soonest_23 : decode cX5_soonest 23 = .ok (.iload 4, 2) := by decide +kernel
theorem dX5_soonest_25 : decode cX5_soonest 25 = .ok (.iconst 0, 1) := by decide +kernel
theorem dX5_soonest_26 : decode cX5_soonest 26 = .ok (.iconst 1, 1) := by decide +kernel
theorem dX5_soonest_27 : decode cX5_soonest 27 = .ok (.invokestatic 51, 3) := by decide +kernel
theorem dX5_soonest_30 : decode cX5_soonest 30 = .ok (.ifCond .ne 5, 3) := by decide +kernel
theorem dX5_soonest_33 : decode cX5_soonest 33 = .ok (.iconst (-1), 1) := by decide +kernel
theorem dX5_soonest_34 : decode cX5_soonest 34 = .ok (.ireturn, 1) := by decide +kernel
theorem dX5_soonest_35 : decode cX5_soonest 35 = .ok (.aload_n 0, 1) := by decide +kernel
theorem dX5_soonest_36 : decode cX5_soonest 36 = .ok (.iload_n 1, 1) := by decide +kernel
theorem dX5_soonest_37 : decode cX5_soonest 37 = .ok (.iload_n 2, 1) := by decide +kernel
theorem dX5_soonest_38 : decode cX5_soonest 38 = .ok (.iload_n 3, 1) := by decide +kernel
theorem dX5_soonest_39 : decode cX5_soonest 39 = .ok (.aload_n 0, 1) := by decide +kernel
theorem dX5_soonest_40 : decode cX5_soonest 40 = .ok (.getfield 25, 3) := by decide +kernel
theorem dX5_soonest_43 : decode cX5_soonest 43 = .ok (.iconst 2, 1) := by decide +kernel
theorem dX5_soonest_44 : decode cX5_soonest 44 = .ok (.iaload, 1) := by decide +kernel
theorem dX5_soonest_45 : decode cX5_soonest 45 = .ok (.invokevirtual 164, 3) := by decide +kernel
theorem dX5_soonest_48 : decode cX5_soonest 48 = .ok (.istore 5, 2) := by decide +kernel
theorem dX5_soonest_50 : decode cX5_soonest 50 = .ok (.iload 5, 2) := by decide +kernel
theorem dX5_soonest_52 : decode cX5_soonest 52 = .ok (.bipush (-9), 2) := by decide +kernel
theorem dX5_soonest_54 : decode cX5_soonest 54 = .ok (.if_icmp .eq 8, 3) := by decide +kernel
theorem dX5_soonest_57 : decode cX5_soonest 57 = .ok (.iload 4, 2) := by decide +kernel
theorem dX5_soonest_59 : decode cX5_soonest 59 = .ok (.ifCond .ne 8, 3) := by decide +kernel
theorem dX5_soonest_62 : decode cX5_soonest 62 = .ok (.iload 5, 2) := by decide +kernel
theorem dX5_soonest_64 : decode cX5_soonest 64 = .ok (.goto 21, 3) := by decide +kernel
theorem dX5_soonest_67 : decode cX5_soonest 67 = .ok (.iload 5, 2) := by decide +kernel
theorem dX5_soonest_69 : decode cX5_soonest 69 = .ok (.aload_n 0, 1) := by decide +kernel
theorem dX5_soonest_70 : decode cX5_soonest 70 = .ok (.iload_n 1, 1) := by decide +kernel
theorem dX5_soonest_71 : decode cX5_soonest 71 = .ok (.iload_n 2, 1) := by decide +kernel
theorem dX5_soonest_72 : decode cX5_soonest 72 = .ok (.iload_n 3, 1) := by decide +kernel
theorem dX5_soonest_73 : decode cX5_soonest 73 = .ok (.iload 5, 2) := by decide +kernel
theorem dX5_soonest_75 : decode cX5_soonest 75 = .ok (.aload_n 0, 1) := by decide +kernel
theorem dX5_soonest_76 : decode cX5_soonest 76 = .ok (.getfield 25, 3) := by decide +kernel
theorem dX5_soonest_79 : decode cX5_soonest 79 = .ok (.iconst 2, 1) := by decide +kernel
theorem dX5_soonest_80 : decode cX5_soonest 80 = .ok (.iaload, 1) := by decide +kernel
theorem dX5_soonest_81 : decode cX5_soonest 81 = .ok (.invokevirtual 160, 3) := by decide +kernel
theorem dX5_soonest_84 : decode cX5_soonest 84 = .ok (.iadd, 1) := by decide +kernel
theorem dX5_soonest_85 : decode cX5_soonest 85 = .ok (.ireturn, 1) := by decide +kernel
set_option maxRecDepth 20000 in
theorem kX5_soonest_25 : Cond.fieldLink RX5 25 "WindPostModel" "s" "[I" ∈ wsX5_soonest := by decide +kernel
set_option maxRecDepth 20000 in
theorem kX5_soonest_47 : Cond.fieldLink RX5 47 "WindPostModel" "thrown" "I" ∈ wsX5_soonest := by decide +kernel
set_option maxRecDepth 20000 in
theorem uX5_soonest_X5 : ∀ w ∈ wsX50, w ∈ wsX5_soonest := by decide +kernel
set_option maxHeartbeats 8000000 in
set_option maxRecDepth 100000 in
theorem mX5_soonest (l : Launch) (D : va_G) (ki : Nat → ClassId) (ad : Nat → Nat) (cs : List Nat) (hcs : kR cs) (N : Nat) (a1 : Int32) (a2 : Int32) (a3 : Int32) (a4 : Int32) (G : zMem) (tr : Int64) : gMetI l D ki ad cs yX5_soonest wsX5_soonest { frames := 5, cells := 0, slots := 0, locals := 129 } [.ref (ad 0), .int a1, .int a2, .int a3, .int a4] (mE ki ad) G tr (fX5_soonest N a1 a2 a3 a4 G tr) := by
  refine gMetI_of (cc := cX5_soonest) (maxL := 6) (ret := (some .int)) (own := RX5) (by decide +kernel) rfl rfl (Nat.le_of_ble_eq_true rfl) ?_
  intro r9 G9 tr9 h p e s m below meth c S hr hlk K X ls hl
  have hl : lv_has ls 6 [(0, .ref (ad 0)), (1, .int a1), (2, .int a2), (3, .int a3), (4, .int a4)] := hl
  unfold fX5_soonest at h
  obtain ⟨H, hH⟩ : ∃ H, H = s.heap := ⟨_, rfl⟩
  obtain ⟨locs, hlo⟩ : ∃ locs : List Loc, locs = [] := ⟨_, rfl⟩
  have X : gS D cs ad ((mE ki ad) G tr) (gA cs ad s.heap.size) s H locs := by rw [hH, hlo]; exact X
  suffices z : W p l e (headSpec wsX5_soonest { frames := 5, cells := 0, slots := 0, locals := 129 }).room s m ([.ref (ad 0), .int a1, .int a2, .int a3, .int a4] : List Value).toArray below meth c H locs 0 0 (zQI below ([.ref (ad 0), .int a1, .int a2, .int a3, .int a4] : List Value).toArray s D cs ad ((mE ki ad) G9 tr9) r9) (F0 m 0 ls []) by rw [hH, hlo] at z; exact z
  clear hH hlo
  refine lv_aload_n S.1 S.2.1 dX5_soonest_0 rfl (lv_at hl 0 rfl) ?_
  refine lv_iconst (v := (0 : Int32)) S.1 S.2.1 dX5_soonest_1 (by decide) ?_
  refine zr_put (xv := (0 : Int32)) (v := .int (0 : Int32)) (fsf := (fsR ad tr)) (ty := .int) S K X (hcs 0 (by decide)) mE_loc (fun _ => mE_R) rfl uX5_soonest_X5 tyX5 tyX5_ok nmX5 0 (by decide) kX5_soonest_47 rfl (by decide +kernel) rfl rfl (by simp) rfl dX5_soonest_2 (fun H locs X => ?_)
  refine lv_aload_n S.1 S.2.1 dX5_soonest_5 rfl (lv_at hl 0 rfl) ?_
  refine lv_iload_n S.1 S.2.1 dX5_soonest_6 rfl (lv_at hl 1 rfl) ?_
  refine lv_iload_n S.1 S.2.1 dX5_soonest_7 rfl (lv_at hl 2 rfl) ?_
  obtain ⟨r_2, G_3, tr_4, hf_1, h⟩ := zbd_some h
  refine zr_calli (Eg := (mE ki ad)) K X (va_runV (As := [.int a1, .int a2]) (rest := []) S (mX5_areTwo l D ki ad cs hcs N a1 a2 (up2 G 0 0 (0 : Int32)) tr H.size _ _ _ hf_1) (cwV 2 S.2.2.2.2 gX5_soonest_X5_areTwo rfl rfl rfl (by decide +kernel) ⟨Nat.le_of_ble_eq_true rfl, Nat.le_of_ble_eq_true rfl⟩) (zr_preV (c0 := 0) K X (hcs 0 (by decide)) mE_R rfl) rfl rfl hl.1 rfl (lv_room (Nat.le_of_ble_eq_true rfl)) dX5_soonest_8 ⟨Nat.zero_le _, Nat.zero_le _⟩) (fun H locs X => ?_)
  refine lv_if_eq (tgt := 33) S.1 S.2.1 dX5_soonest_11 (by decide) (fun hc_5 => ?_) (fun hc_5 => ?_)
  · have h := zif_pos hc_5 h
    refine lv_iconst (v := (-1 : Int32)) S.1 S.2.1 dX5_soonest_33 (by decide) ?_
    exact zr_iret S hr hlk X h dX5_soonest_34
  · have h := zif_neg hc_5 h
    refine lv_iload_n S.1 S.2.1 dX5_soonest_14 rfl (lv_at hl 3 rfl) ?_
    refine lv_iconst (v := (1 : Int32)) S.1 S.2.1 dX5_soonest_15 (by decide) ?_
    refine lv_iconst (v := (5 : Int32)) S.1 S.2.1 dX5_soonest_16 (by decide) ?_
    obtain ⟨r_7, hf_6, h⟩ := zbp_some h
    refine zr_calli (Eg := (mE ki ad)) (G' := G_3) (tr' := tr_4) K X (va_runS (As := [.int a3, .int (1 : Int32), .int (5 : Int32)]) (rest := []) S (mX5_in l D ki ad cs N a3 (1 : Int32) (5 : Int32) (mE ki ad) G_3 tr_4 H.size _ _ _ (zpu_of hf_6)) (va_cwS 3 S.2.2.2.2 gX5_soonest_X5_in rfl rfl rfl (by decide +kernel) ⟨Nat.le_of_ble_eq_true rfl, Nat.le_of_ble_eq_true rfl⟩) (zr_pre K X) rfl rfl hl.1 rfl (lv_room (Nat.le_of_ble_eq_true rfl)) dX5_soonest_17 ⟨Nat.zero_le _, Nat.zero_le _⟩) (fun H locs X => ?_)
    refine lv_if_eq (tgt := 33) S.1 S.2.1 dX5_soonest_20 (by decide) (fun hc_8 => ?_) (fun hc_8 => ?_)
    · have h := zif_pos hc_8 h
      refine lv_iconst (v := (-1 : Int32)) S.1 S.2.1 dX5_soonest_33 (by decide) ?_
      exact zr_iret S hr hlk X h dX5_soonest_34
    · have h := zif_neg hc_8 h
      refine lv_iload S.1 S.2.1 dX5_soonest_23 (lv_at hl 4 rfl) ?_
      refine lv_iconst (v := (0 : Int32)) S.1 S.2.1 dX5_soonest_25 (by decide) ?_
      refine lv_iconst (v := (1 : Int32)) S.1 S.2.1 dX5_soonest_26 (by decide) ?_
      obtain ⟨r_10, hf_9, h⟩ := zbp_some h
      refine zr_calli (Eg := (mE ki ad)) (G' := G_3) (tr' := tr_4) K X (va_runS (As := [.int a4, .int (0 : Int32), .int (1 : Int32)]) (rest := []) S (mX5_in l D ki ad cs N a4 (0 : Int32) (1 : Int32) (mE ki ad) G_3 tr_4 H.size _ _ _ (zpu_of hf_9)) (va_cwS 3 S.2.2.2.2 gX5_soonest_X5_in rfl rfl rfl (by decide +kernel) ⟨Nat.le_of_ble_eq_true rfl, Nat.le_of_ble_eq_true rfl⟩) (zr_pre K X) rfl rfl hl.1 rfl (lv_room (Nat.le_of_ble_eq_true rfl)) dX5_soonest_27 ⟨Nat.zero_le _, Nat.zero_le _⟩) (fun H locs X => ?_)
      refine lv_if_ne (tgt := 35) S.1 S.2.1 dX5_soonest_30 (by decide) (fun hc_11 => ?_) (fun hc_11 => ?_)
      · have h := zif_neg hc_11 h
        refine lv_aload_n S.1 S.2.1 dX5_soonest_35 rfl (lv_at hl 0 rfl) ?_
        refine lv_iload_n S.1 S.2.1 dX5_soonest_36 rfl (lv_at hl 1 rfl) ?_
        refine lv_iload_n S.1 S.2.1 dX5_soonest_37 rfl (lv_at hl 2 rfl) ?_
        refine lv_iload_n S.1 S.2.1 dX5_soonest_38 rfl (lv_at hl 3 rfl) ?_
        refine lv_aload_n S.1 S.2.1 dX5_soonest_39 rfl (lv_at hl 0 rfl) ?_
        refine zr_get (v := .ref (ad 6)) S K X (hcs 0 (by decide)) mE_R rfl uX5_soonest_X5 14 (by decide) kX5_soonest_25 rfl rfl dX5_soonest_40 ?_
        refine lv_iconst (v := (2 : Int32)) S.1 S.2.1 dX5_soonest_43 (by decide) ?_
        obtain ⟨hi_12, h⟩ := zin_some h
        refine zr_iald S K X (hcs 6 (by decide)) mE_6 hi_12 dX5_soonest_44 ?_
        obtain ⟨r_14, G_15, tr_16, hf_13, h⟩ := zbd_some h
        refine zr_calli (Eg := (mE ki ad)) K X (va_runV (As := [.int a1, .int a2, .int a3, .int (G_3 6 (Int32.toNatClampNeg (2 : Int32)))]) (rest := []) S (mX5_bestK l D ki ad cs hcs N a1 a2 a3 (G_3 6 (Int32.toNatClampNeg (2 : Int32))) G_3 tr_4 H.size _ _ _ hf_13) (cwV 4 S.2.2.2.2 gX5_soonest_X5_bestK rfl rfl rfl (by decide +kernel) ⟨Nat.le_of_ble_eq_true rfl, Nat.le_of_ble_eq_true rfl⟩) (zr_preV (c0 := 0) K X (hcs 0 (by decide)) mE_R rfl) rfl rfl hl.1 rfl (lv_room (Nat.le_of_ble_eq_true rfl)) dX5_soonest_45 ⟨Nat.zero_le _, Nat.zero_le _⟩) (fun H locs X => ?_)
        refine lv_istore (lv' := [(5, .int r_14), (0, .ref (ad 0)), (1, .int a1), (2, .int a2), (3, .int a3), (4, .int a4)]) S.1 S.2.1 dX5_soonest_48 hl (by decide) rfl (fun ls hl => ?_)
        refine lv_iload S.1 S.2.1 dX5_soonest_50 (lv_at hl 0 rfl) ?_
        refine lv_bipush (v := (-9 : Int32)) S.1 S.2.1 dX5_soonest_52 (by decide) ?_
        refine lv_icmp_eq (tgt := 62) S.1 S.2.1 dX5_soonest_54 (by decide) (fun hc_17 => ?_) (fun hc_17 => ?_)
        · have h := zif_pos hc_17 h
          refine lv_iload S.1 S.2.1 dX5_soonest_62 (lv_at hl 0 rfl) ?_
          refine lv_goto (tgt := 85) S.1 S.2.1 dX5_soonest_64 (by decide) ?_
          exact zr_iret S hr hlk X h dX5_soonest_85
        · have h := zif_neg hc_17 h
          refine lv_iload S.1 S.2.1 dX5_soonest_57 (lv_at hl 5 rfl) ?_
          refine lv_if_ne (tgt := 67) S.1 S.2.1 dX5_soonest_59 (by decide) (fun hc_18 => ?_) (fun hc_18 => ?_)
          · have h := zif_neg hc_18 h
            refine lv_iload S.1 S.2.1 dX5_soonest_67 (lv_at hl 0 rfl) ?_
            refine lv_aload_n S.1 S.2.1 dX5_soonest_69 rfl (lv_at hl 1 rfl) ?_
            refine lv_iload_n S.1 S.2.1 dX5_soonest_70 rfl (lv_at hl 2 rfl) ?_
            refine lv_iload_n S.1 S.2.1 dX5_soonest_71 rfl (lv_at hl 3 rfl) ?_
            refine lv_iload_n S.1 S.2.1 dX5_soonest_72 rfl (lv_at hl 4 rfl) ?_
            refine lv_iload S.1 S.2.1 dX5_soonest_73 (lv_at hl 0 rfl) ?_
            refine lv_aload_n S.1 S.2.1 dX5_soonest_75 rfl (lv_at hl 1 rfl) ?_
            refine zr_get (v := .ref (ad 6)) S K X (hcs 0 (by decide)) mE_R rfl uX5_soonest_X5 14 (by decide) kX5_soonest_25 rfl rfl dX5_soonest_76 ?_
            refine lv_iconst (v := (2 : Int32)) S.1 S.2.1 dX5_soonest_79 (by decide) ?_
            obtain ⟨hi_19, h⟩ := zin_some h
            refine zr_iald S K X (hcs 6 (by decide)) mE_6 hi_19 dX5_soonest_80 ?_
            obtain ⟨r_21, G_22, tr_23, hf_20, h⟩ := zbd_some h
            refine zr_calli (Eg := (mE ki ad)) K X (va_runV (As := [.int a1, .int a2, .int a3, .int r_14, .int (G_15 6 (Int32.toNatClampNeg (2 : Int32)))]) (rest := [.int r_14]) S (mX5_comesBy l D ki ad cs hcs N a1 a2 a3 r_14 (G_15 6 (Int32.toNatClampNeg (2 : Int32))) G_15 tr_16 H.size _ _ _ hf_20) (cwV 5 S.2.2.2.2 gX5_soonest_X5_comesBy rfl rfl rfl (by decide +kernel) ⟨Nat.le_of_ble_eq_true rfl, Nat.le_of_ble_eq_true rfl⟩) (zr_preV (c0 := 0) K X (hcs 0 (by decide)) mE_R rfl) rfl rfl hl.1 rfl (lv_room (Nat.le_of_ble_eq_true rfl)) dX5_soonest_81 ⟨Nat.zero_le _, Nat.zero_le _⟩) (fun H locs X => ?_)
            refine lv_iadd S.1 S.2.1 dX5_soonest_84 ?_
            exact zr_iret S hr hlk X h dX5_soonest_85
          · have h := zif_pos hc_18 h
            refine lv_iload S.1 S.2.1 dX5_soonest_62 (lv_at hl 0 rfl) ?_
            refine lv_goto (tgt := 85) S.1 S.2.1 dX5_soonest_64 (by decide) ?_
            exact zr_iret S hr hlk X h dX5_soonest_85
      · have h := zif_pos hc_11 h
        refine lv_iconst (v := (-1 : Int32)) S.1 S.2.1 dX5_soonest_33 (by decide) ?_
        exact zr_iret S hr hlk X h dX5_soonest_34
set_option maxRecDepth 20000 in
theorem ggX5_lightest_X5_areTwo : GoodIn wsX5_lightest wsX5_areTwo := goodIn_r _ [7, 8, 9, 10, 6, 11, 12, 13, 14, 15, 51, 52, 53, 54, 55, 56, 57, 58, 59, 60, 61, 62, 63, 64, 65, 66, 67, 68, 69, 70, 71, 72] (by decide +kernel) (by decide +kernel)
set_option maxRecDepth 20000 in
theorem gX5_lightest_X5_areTwo : GoodIn wsX5_lightest (wsV RX5 131 RX5 yX5_areTwo wsX5_areTwo) := goodIn_app (goodIn_of _ (by decide +kernel)) ggX5_lightest_X5_areTwo
set_option maxRecDepth 20000 in
theorem ggX5_lightest_X5_in : GoodIn wsX5_lightest wsX5_in := goodIn_r _ [15] (by decide +kernel) (by decide +kernel)
set_option maxRecDepth 20000 in
theorem gX5_lightest_X5_in : GoodIn wsX5_lightest (va_wsS RX5 51 yX5_in wsX5_in) := goodIn_app (goodIn_of _ (by decide +kernel)) ggX5_lightest_X5_in
set_option maxRecDepth 20000 in
theorem ggX5_lightest_X5_comesBy : GoodIn wsX5_lightest wsX5_comesBy := goodIn_r _ [19, 20, 21, 22, 23, 6, 24, 25, 26, 27, 28, 29, 2, 30, 31, 32, 33, 12, 34, 35, 36, 37, 38, 39, 40, 41, 42, 43, 44, 45, 46, 47, 48, 49, 50, 51, 52, 53, 54, 55, 56, 57, 58, 59, 60, 61, 62, 63, 64, 65, 66, 67, 68, 69, 70, 71, 72] (by decide +kernel) (by decide +kernel)
set_option maxRecDepth 20000 in
theorem gX5_lightest_X5_comesBy : GoodIn wsX5_lightest (wsV RX5 160 RX5 yX5_comesBy wsX5_comesBy) := goodIn_app (goodIn_of _ (by decide +kernel)) ggX5_lightest_X5_comesBy
theorem dX5_lightest_0 : decode cX5_lightest 0 = .ok (.aload_n 0, 1) := by decide +kernel
theorem dX5_lightest_1 : decode cX5_lightest 1 = .ok (.iconst 0, 1) := by decide +kernel
theorem dX5_lightest_2 : decode cX5_lightest 2 = .ok (.putfield 47, 3) := by decide +kernel
theorem dX5_lightest_5 : decode cX5_lightest 5 = .ok (.aload_n 0, 1) := by decide +kernel
theorem dX5_lightest_6 : decode cX5_lightest 6 = .ok (.iload_n 1, 1) := by decide +kernel
theorem dX5_lightest_7 : decode cX5_lightest 7 = .ok (.iload_n 2, 1) := by decide +kernel
theorem dX5_lightest_8 : decode cX5_lightest 8 = .ok (.invokevirtual 131, 3) := by decide +kernel
theorem dX5_lightest_11 : decode cX5_lightest 11 = .ok (.ifCond .eq 13, 3) := by decide +kernel
theorem dX5_lightest_14 : decode cX5_lightest 14 = .ok (.iload_n 3, 1) := by decide +kernel
theorem dX5_lightest_15 : decode cX5_lightest 15 = .ok (.iconst 1, 1) := by decide +kernel
theorem dX5_lightest_16 : decode cX5_lightest 16 = .ok (.bipush 60, 2) := by decide +kernel
theorem dX5_lightest_18 : decode cX5_lightest 18 = .ok (.invokestatic 51, 3) := by decide +kernel
theorem dX5_lightest_21 : decode cX5_lightest 21 = .ok (.ifCond .ne 5, 3) := by decide +kernel
theorem dX5_lightest_24 : decode cX5_lightest 24 = .ok (.iconst (-1), 1) := by decide +kernel
theorem dX5_lightest_25 : decode cX5_lightest 25 = .ok (.ireturn, 1) := by decide +kernel
theorem dX5_lightest_26 : decode cX5_lightest 26 = .ok (.iconst 1, 1) := by decide +kernel
theorem dX5_lightest_27 : decode cX5_lightest 27 = .ok (.istore 4, 2) := by decide +kernel
theorem dX5_lightest_29 : decode cX5_lightest 29 = .ok (.iload 4, 2) := by decide +kernel
theorem dX5_lightest_31 : decode cX5_lightest 31 = .ok (.bipush 6, 2) := by decide +kernel
theorem dX5_lightest_33 : decode cX5_lightest 33 = .ok (.if_icmp .ge 42, 3) := by decide +kernel
theorem dX5_lightest_36 : decode cX5_lightest 36 = .ok (.aload_n 0, 1) := by decide +kernel
theorem dX5_lightest_37 : decode cX5_lightest 37 = .ok (.iload_n 1, 1) := by decide +kernel
theorem dX5_lightest_38 : decode cX5_lightest 38 = .ok (.iload_n 2, 1) := by decide +kernel
theorem dX5_lightest_39 : decode cX5_lightest 39 = .ok (.iload 4, 2) := by decide +kernel
theorem dX5_lightest_41 : decode cX5_lightest 41 = .ok (.iconst 0, 1) := by decide +kernel
theorem dX5_lightest_42 : decode cX5_lightest 42 = .ok (.aload_n 0, 1) := by decide +kernel
theorem dX5_lightest_43 : decode cX5_lightest 43 = .ok (.getfield 25, 3) := by decide +kernel
theorem dX5_lightest_46 : decode cX5_lightest 46 = .ok (.iconst 2, 1) := by decide +kernel
theorem dX5_lightest_47 : decode cX5_lightest 47 = .ok (.iaload, 1) := by decide +kernel
theorem dX5_lightest_48 : decode cX5_lightest 48 = .ok (.invokevirtual 160, 3) := by decide +kernel
theorem dX5_lightest_51 : decode cX5_lightest 51 = .ok (.istore 5, 2) := by decide +kernel
theorem dX5_lightest_53 : decode cX5_lightest 53 = .ok (.iload 5, 2) := by decide +kernel
theorem dX5_lightest_55 : decode cX5_lightest 55 = .ok (.bipush (-9), 2) := by decide +kernel
theorem dX5_lightest_57 : decode cX5_lightest 57 = .ok (.if_icmp .eq 12, 3) := by decide +kernel
theorem dX5_lightest_60 : decode cX5_lightest 60 = .ok (.iload 5, 2) := by decide +kernel
theorem dX5_lightest_62 : decode cX5_lightest 62 = .ok (.iload_n 3, 1) := by decide +kernel
theorem dX5_lightest_63 : decode cX5_lightest 63 = .ok (.if_icmp .gt 6, 3) := by decide +kernel
theorem dX5_lightest_66 : decode cX5_lightest 66 = .ok (.iload 4, 2) := by decide +kernel
theorem dX5_lightest_68 : decode cX5_lightest 68 = .ok (.ireturn, 1) := by decide +kernel
theorem dX5_lightest_69 : decode cX5_lightest 69 = .ok (.iinc 4 1, 3) := by decide +kernel
theorem dX5_lightest_72 : decode cX5_lightest 72 = .ok (.goto (-43), 3) := by decide +kernel
theorem dX5_lightest_75 : decode cX5_lightest 75 = .ok (.bipush (-9), 2) := by decide +kernel
theorem dX5_lightest_77 : decode cX5_lightest 77 = .ok (.ireturn, 1) := by decide +kernel
set_option maxRecDepth 20000 in
theorem kX5_lightest_25 : Cond.fieldLink RX5 25 "WindPostModel" "s" "[I" ∈ wsX5_lightest := by decide +kernel
set_option maxRecDepth 20000 in
theorem kX5_lightest_47 : Cond.fieldLink RX5 47 "WindPostModel" "thrown" "I" ∈ wsX5_lightest := by decide +kernel
set_option maxRecDepth 20000 in
theorem uX5_lightest_X5 : ∀ w ∈ wsX50, w ∈ wsX5_lightest := by decide +kernel
set_option maxHeartbeats 8000000 in
set_option maxRecDepth 100000 in
theorem mX5_lightest (l : Launch) (D : va_G) (ki : Nat → ClassId) (ad : Nat → Nat) (cs : List Nat) (hcs : kR cs) (N : Nat) (a1 : Int32) (a2 : Int32) (a3 : Int32) (G : zMem) (tr : Int64) : gMetI l D ki ad cs yX5_lightest wsX5_lightest { frames := 4, cells := 0, slots := 0, locals := 101 } [.ref (ad 0), .int a1, .int a2, .int a3] (mE ki ad) G tr (fX5_lightest N a1 a2 a3 G tr) := by
  refine gMetI_of (cc := cX5_lightest) (maxL := 6) (ret := (some .int)) (own := RX5) (by decide +kernel) rfl rfl (Nat.le_of_ble_eq_true rfl) ?_
  intro r9 G9 tr9 h p e s m below meth c S hr hlk K X ls hl
  have hl : lv_has ls 6 [(0, .ref (ad 0)), (1, .int a1), (2, .int a2), (3, .int a3)] := hl
  have b69 : ∀ (k29 : Int32 → zMem → Int64 → zR) (hk29 : ∀ (x4 : Int32) (G : zMem) (tr : Int64), k29 x4 G tr = some (r9, G9, tr9) → zAt p l e (headSpec wsX5_lightest { frames := 4, cells := 0, slots := 0, locals := 101 }).room s m ([.ref (ad 0), .int a1, .int a2, .int a3] : List Value).toArray below meth c 6 D cs ad (zQI below ([.ref (ad 0), .int a1, .int a2, .int a3] : List Value).toArray s D cs ad ((mE ki ad) G9 tr9) r9) 29 [(0, .ref (ad 0)), (1, .int a1), (2, .int a2), (3, .int a3), (4, .int x4)] [] ((mE ki ad) G tr)) (x4 : Int32) (G : zMem) (tr : Int64), fX5_lightest_b69 N a1 a2 a3 k29 x4 G tr = some (r9, G9, tr9) → zAt p l e (headSpec wsX5_lightest { frames := 4, cells := 0, slots := 0, locals := 101 }).room s m ([.ref (ad 0), .int a1, .int a2, .int a3] : List Value).toArray below meth c 6 D cs ad (zQI below ([.ref (ad 0), .int a1, .int a2, .int a3] : List Value).toArray s D cs ad ((mE ki ad) G9 tr9) r9) 69 [(0, .ref (ad 0)), (1, .int a1), (2, .int a2), (3, .int a3), (4, .int x4)] [] ((mE ki ad) G tr) := by
    intro k29 hk29 x4 G tr h H locs ls X hl
    unfold fX5_lightest_b69 at h
    refine lv_iinc (v := (x4 + 1)) (lv' := [(4, .int (x4 + 1)), (0, .ref (ad 0)), (1, .int a1), (2, .int a2), (3, .int a3)]) S.1 S.2.1 dX5_lightest_69 hl (k := 4) rfl rfl (by decide) rfl (fun ls hl => ?_)
    refine lv_goto (tgt := 29) S.1 S.2.1 dX5_lightest_72 (by decide) ?_
    exact hk29 (x4 + 1) G tr h _ _ _ X (lv_sub hl [1, 2, 3, 4, 0] rfl)
  have b29 : ∀ (k29 : Int32 → zMem → Int64 → zR) (hk29 : ∀ (x4 : Int32) (G : zMem) (tr : Int64), k29 x4 G tr = some (r9, G9, tr9) → zAt p l e (headSpec wsX5_lightest { frames := 4, cells := 0, slots := 0, locals := 101 }).room s m ([.ref (ad 0), .int a1, .int a2, .int a3] : List Value).toArray below meth c 6 D cs ad (zQI below ([.ref (ad 0), .int a1, .int a2, .int a3] : List Value).toArray s D cs ad ((mE ki ad) G9 tr9) r9) 29 [(0, .ref (ad 0)), (1, .int a1), (2, .int a2), (3, .int a3), (4, .int x4)] [] ((mE ki ad) G tr)) (x4 : Int32) (G : zMem) (tr : Int64), fX5_lightest_b29 N a1 a2 a3 k29 x4 G tr = some (r9, G9, tr9) → zAt p l e (headSpec wsX5_lightest { frames := 4, cells := 0, slots := 0, locals := 101 }).room s m ([.ref (ad 0), .int a1, .int a2, .int a3] : List Value).toArray below meth c 6 D cs ad (zQI below ([.ref (ad 0), .int a1, .int a2, .int a3] : List Value).toArray s D cs ad ((mE ki ad) G9 tr9) r9) 29 [(0, .ref (ad 0)), (1, .int a1), (2, .int a2), (3, .int a3), (4, .int x4)] [] ((mE ki ad) G tr) := by
    intro k29 hk29 x4 G tr h H locs ls X hl
    unfold fX5_lightest_b29 at h
    refine lv_iload S.1 S.2.1 dX5_lightest_29 (lv_at hl 4 rfl) ?_
    refine lv_bipush (v := (6 : Int32)) S.1 S.2.1 dX5_lightest_31 (by decide) ?_
    refine lv_icmp_ge (tgt := 75) S.1 S.2.1 dX5_lightest_33 (by decide) (fun hc_1 => ?_) (fun hc_1 => ?_)
    · have h := zif_pos hc_1 h
      refine lv_bipush (v := (-9 : Int32)) S.1 S.2.1 dX5_lightest_75 (by decide) ?_
      exact zr_iret S hr hlk X h dX5_lightest_77
    · have h := zif_neg hc_1 h
      refine lv_aload_n S.1 S.2.1 dX5_lightest_36 rfl (lv_at hl 0 rfl) ?_
      refine lv_iload_n S.1 S.2.1 dX5_lightest_37 rfl (lv_at hl 1 rfl) ?_
      refine lv_iload_n S.1 S.2.1 dX5_lightest_38 rfl (lv_at hl 2 rfl) ?_
      refine lv_iload S.1 S.2.1 dX5_lightest_39 (lv_at hl 4 rfl) ?_
      refine lv_iconst (v := (0 : Int32)) S.1 S.2.1 dX5_lightest_41 (by decide) ?_
      refine lv_aload_n S.1 S.2.1 dX5_lightest_42 rfl (lv_at hl 0 rfl) ?_
      refine zr_get (v := .ref (ad 6)) S K X (hcs 0 (by decide)) mE_R rfl uX5_lightest_X5 14 (by decide) kX5_lightest_25 rfl rfl dX5_lightest_43 ?_
      refine lv_iconst (v := (2 : Int32)) S.1 S.2.1 dX5_lightest_46 (by decide) ?_
      obtain ⟨hi_2, h⟩ := zin_some h
      refine zr_iald S K X (hcs 6 (by decide)) mE_6 hi_2 dX5_lightest_47 ?_
      obtain ⟨r_4, G_5, tr_6, hf_3, h⟩ := zbd_some h
      refine zr_calli (Eg := (mE ki ad)) K X (va_runV (As := [.int a1, .int a2, .int x4, .int (0 : Int32), .int (G 6 (Int32.toNatClampNeg (2 : Int32)))]) (rest := []) S (mX5_comesBy l D ki ad cs hcs N a1 a2 x4 (0 : Int32) (G 6 (Int32.toNatClampNeg (2 : Int32))) G tr H.size _ _ _ hf_3) (cwV 5 S.2.2.2.2 gX5_lightest_X5_comesBy rfl rfl rfl (by decide +kernel) ⟨Nat.le_of_ble_eq_true rfl, Nat.le_of_ble_eq_true rfl⟩) (zr_preV (c0 := 0) K X (hcs 0 (by decide)) mE_R rfl) rfl rfl hl.1 rfl (lv_room (Nat.le_of_ble_eq_true rfl)) dX5_lightest_48 ⟨Nat.zero_le _, Nat.zero_le _⟩) (fun H locs X => ?_)
      refine lv_istore (lv' := [(5, .int r_4), (0, .ref (ad 0)), (1, .int a1), (2, .int a2), (3, .int a3), (4, .int x4)]) S.1 S.2.1 dX5_lightest_51 hl (by decide) rfl (fun ls hl => ?_)
      refine lv_iload S.1 S.2.1 dX5_lightest_53 (lv_at hl 0 rfl) ?_
      refine lv_bipush (v := (-9 : Int32)) S.1 S.2.1 dX5_lightest_55 (by decide) ?_
      refine lv_icmp_eq (tgt := 69) S.1 S.2.1 dX5_lightest_57 (by decide) (fun hc_7 => ?_) (fun hc_7 => ?_)
      · have h := zif_pos hc_7 h
        exact b69 k29 hk29 x4 G_5 tr_6 h _ _ _ X (lv_sub hl [1, 2, 3, 4, 5] rfl)
      · have h := zif_neg hc_7 h
        refine lv_iload S.1 S.2.1 dX5_lightest_60 (lv_at hl 0 rfl) ?_
        refine lv_iload_n S.1 S.2.1 dX5_lightest_62 rfl (lv_at hl 4 rfl) ?_
        refine lv_icmp_gt (tgt := 69) S.1 S.2.1 dX5_lightest_63 (by decide) (fun hc_8 => ?_) (fun hc_8 => ?_)
        · have h := zif_pos hc_8 h
          exact b69 k29 hk29 x4 G_5 tr_6 h _ _ _ X (lv_sub hl [1, 2, 3, 4, 5] rfl)
        · have h := zif_neg hc_8 h
          refine lv_iload S.1 S.2.1 dX5_lightest_66 (lv_at hl 5 rfl) ?_
          exact zr_iret S hr hlk X h dX5_lightest_68
  have L29 : ∀ (n : Nat) (x4 : Int32) (G : zMem) (tr : Int64), fX5_lightest_L29 N a1 a2 a3 n x4 G tr = some (r9, G9, tr9) → zAt p l e (headSpec wsX5_lightest { frames := 4, cells := 0, slots := 0, locals := 101 }).room s m ([.ref (ad 0), .int a1, .int a2, .int a3] : List Value).toArray below meth c 6 D cs ad (zQI below ([.ref (ad 0), .int a1, .int a2, .int a3] : List Value).toArray s D cs ad ((mE ki ad) G9 tr9) r9) 29 [(0, .ref (ad 0)), (1, .int a1), (2, .int a2), (3, .int a3), (4, .int x4)] [] ((mE ki ad) G tr) := by
    intro n
    induction n with
    | zero => intro x4 G tr h; cases h
    | succ n ih => intro x4 G tr h; exact b29 (fX5_lightest_L29 N a1 a2 a3 n) ih x4 G tr h
  unfold fX5_lightest at h
  obtain ⟨H, hH⟩ : ∃ H, H = s.heap := ⟨_, rfl⟩
  obtain ⟨locs, hlo⟩ : ∃ locs : List Loc, locs = [] := ⟨_, rfl⟩
  have X : gS D cs ad ((mE ki ad) G tr) (gA cs ad s.heap.size) s H locs := by rw [hH, hlo]; exact X
  suffices z : W p l e (headSpec wsX5_lightest { frames := 4, cells := 0, slots := 0, locals := 101 }).room s m ([.ref (ad 0), .int a1, .int a2, .int a3] : List Value).toArray below meth c H locs 0 0 (zQI below ([.ref (ad 0), .int a1, .int a2, .int a3] : List Value).toArray s D cs ad ((mE ki ad) G9 tr9) r9) (F0 m 0 ls []) by rw [hH, hlo] at z; exact z
  clear hH hlo
  refine lv_aload_n S.1 S.2.1 dX5_lightest_0 rfl (lv_at hl 0 rfl) ?_
  refine lv_iconst (v := (0 : Int32)) S.1 S.2.1 dX5_lightest_1 (by decide) ?_
  refine zr_put (xv := (0 : Int32)) (v := .int (0 : Int32)) (fsf := (fsR ad tr)) (ty := .int) S K X (hcs 0 (by decide)) mE_loc (fun _ => mE_R) rfl uX5_lightest_X5 tyX5 tyX5_ok nmX5 0 (by decide) kX5_lightest_47 rfl (by decide +kernel) rfl rfl (by simp) rfl dX5_lightest_2 (fun H locs X => ?_)
  refine lv_aload_n S.1 S.2.1 dX5_lightest_5 rfl (lv_at hl 0 rfl) ?_
  refine lv_iload_n S.1 S.2.1 dX5_lightest_6 rfl (lv_at hl 1 rfl) ?_
  refine lv_iload_n S.1 S.2.1 dX5_lightest_7 rfl (lv_at hl 2 rfl) ?_
  obtain ⟨r_2, G_3, tr_4, hf_1, h⟩ := zbd_some h
  refine zr_calli (Eg := (mE ki ad)) K X (va_runV (As := [.int a1, .int a2]) (rest := []) S (mX5_areTwo l D ki ad cs hcs N a1 a2 (up2 G 0 0 (0 : Int32)) tr H.size _ _ _ hf_1) (cwV 2 S.2.2.2.2 gX5_lightest_X5_areTwo rfl rfl rfl (by decide +kernel) ⟨Nat.le_of_ble_eq_true rfl, Nat.le_of_ble_eq_true rfl⟩) (zr_preV (c0 := 0) K X (hcs 0 (by decide)) mE_R rfl) rfl rfl hl.1 rfl (lv_room (Nat.le_of_ble_eq_true rfl)) dX5_lightest_8 ⟨Nat.zero_le _, Nat.zero_le _⟩) (fun H locs X => ?_)
  refine lv_if_eq (tgt := 24) S.1 S.2.1 dX5_lightest_11 (by decide) (fun hc_5 => ?_) (fun hc_5 => ?_)
  · have h := zif_pos hc_5 h
    refine lv_iconst (v := (-1 : Int32)) S.1 S.2.1 dX5_lightest_24 (by decide) ?_
    exact zr_iret S hr hlk X h dX5_lightest_25
  · have h := zif_neg hc_5 h
    refine lv_iload_n S.1 S.2.1 dX5_lightest_14 rfl (lv_at hl 3 rfl) ?_
    refine lv_iconst (v := (1 : Int32)) S.1 S.2.1 dX5_lightest_15 (by decide) ?_
    refine lv_bipush (v := (60 : Int32)) S.1 S.2.1 dX5_lightest_16 (by decide) ?_
    obtain ⟨r_7, hf_6, h⟩ := zbp_some h
    refine zr_calli (Eg := (mE ki ad)) (G' := G_3) (tr' := tr_4) K X (va_runS (As := [.int a3, .int (1 : Int32), .int (60 : Int32)]) (rest := []) S (mX5_in l D ki ad cs N a3 (1 : Int32) (60 : Int32) (mE ki ad) G_3 tr_4 H.size _ _ _ (zpu_of hf_6)) (va_cwS 3 S.2.2.2.2 gX5_lightest_X5_in rfl rfl rfl (by decide +kernel) ⟨Nat.le_of_ble_eq_true rfl, Nat.le_of_ble_eq_true rfl⟩) (zr_pre K X) rfl rfl hl.1 rfl (lv_room (Nat.le_of_ble_eq_true rfl)) dX5_lightest_18 ⟨Nat.zero_le _, Nat.zero_le _⟩) (fun H locs X => ?_)
    refine lv_if_ne (tgt := 26) S.1 S.2.1 dX5_lightest_21 (by decide) (fun hc_8 => ?_) (fun hc_8 => ?_)
    · have h := zif_neg hc_8 h
      refine lv_iconst (v := (1 : Int32)) S.1 S.2.1 dX5_lightest_26 (by decide) ?_
      refine lv_istore (lv' := [(4, .int (1 : Int32)), (0, .ref (ad 0)), (1, .int a1), (2, .int a2), (3, .int a3)]) S.1 S.2.1 dX5_lightest_27 hl (by decide) rfl (fun ls hl => ?_)
      exact L29 N (1 : Int32) G_3 tr_4 h _ _ _ X (lv_sub hl [1, 2, 3, 4, 0] rfl)
    · have h := zif_pos hc_8 h
      refine lv_iconst (v := (-1 : Int32)) S.1 S.2.1 dX5_lightest_24 (by decide) ?_
      exact zr_iret S hr hlk X h dX5_lightest_25
set_option maxRecDepth 20000 in
theorem ggX5_words_X5_isIsle : GoodIn wsX5_words wsX5_isIsle := goodIn_r _ [8, 2, 9, 10, 7, 11, 51, 52, 53, 54, 55, 56, 57, 58, 59, 60, 61, 62, 63, 64, 65, 66, 67, 68, 69, 70, 71, 72] (by decide +kernel) (by decide +kernel)
set_option maxRecDepth 20000 in
theorem gX5_words_X5_isIsle : GoodIn wsX5_words (wsV RX5 116 RX5 yX5_isIsle wsX5_isIsle) := goodIn_app (goodIn_of _ (by decide +kernel)) ggX5_words_X5_isIsle
set_option maxRecDepth 20000 in
theorem ggX5_words_X5_bestK : GoodIn wsX5_words wsX5_bestK := goodIn_r _ [15, 16, 17, 18, 7, 19, 20, 21, 22, 23, 24, 25, 26, 27, 28, 29, 3, 30, 31, 32, 33, 2, 34, 35, 36, 37, 38, 39, 40, 41, 42, 43, 44, 45, 46, 47, 48, 49, 50, 51, 52, 53, 54, 55, 56, 57, 58, 59, 60, 61, 62, 63, 64, 65, 66, 67, 68, 69, 70, 71, 72] (by decide +kernel) (by decide +kernel)
set_option maxRecDepth 20000 in
theorem gX5_words_X5_bestK : GoodIn wsX5_words (wsV RX5 164 RX5 yX5_bestK wsX5_bestK) := goodIn_app (goodIn_of _ (by decide +kernel)) ggX5_words_X5_bestK
theorem dX5_words_0 : decode cX5_words 0 = .ok (.aload_n 0, 1) := by decide +kernel
theorem dX5_words_1 : decode cX5_words 1 = .ok (.iconst 0, 1) := by decide +kernel
theorem dX5_words_2 : decode cX5_words 2 = .ok (.putfield 47, 3) := by decide +kernel
theorem dX5_words_5 : decode cX5_words 5 = .ok (.aload_n 0, 1) := by decide +kernel
theorem dX5_words_6 : decode cX5_words 6 = .ok (.iload_n 1, 1) := by decide +kernel
theorem dX5_words_7 : decode cX5_words 7 = .ok (.invokevirtual 116, 3) := by decide +kernel
theorem dX5_words_10 : decode cX5_words 10 = .ok (.ifCond .ne 5, 3) := by decide +kernel
theorem dX5_words_13 : decode cX5_words 13 = .ok (.iconst (-1), 1) := by decide +kernel
theorem dX5_words_14 : decode cX5_words 14 = .ok (.ireturn, 1) := by decide +kernel
theorem dX5_words_15 : decode cX5_words 15 = .ok (.iconst 0, 1) := by decide +kernel
theorem dX5_words_16 : decode cX5_words 16 = .ok (.istore_n 2, 1) := by decide +kernel
theorem dX5_words_17 : decode cX5_words 17 = .ok (.iconst 0, 1) := by decide +kernel
theorem dX5_words_18 : decode cX5_words 18 = .ok (.istore_n 3, 1) := by decide +kernel
theorem dX5_words_19 : decode cX5_words 19 = .ok (.iload_n 3, 1) := by decide +kernel
theorem dX5_words_20 : decode cX5_words 20 = .ok (.aload_n 0, 1) := by decide +kernel
theorem dX5_words_21 : decode cX5_words 21 = .ok (.getfield 13, 3) := by decide +kernel
theorem dX5_words_24 : decode cX5_words 24 = .ok (.iconst 2, 1) := by decide +kernel
theorem dX5_words_25 : decode cX5_words 25 = .ok (.iaload, 1) := by decide +kernel
theorem dX5_words_26 : decode cX5_words 26 = .ok (.if_icmp .ge 59, 3) := by decide +kernel
theorem dX5_words_29 : decode cX5_words 29 = .ok (.iconst 1, 1) := by decide +kernel
theorem dX5_words_30 : decode cX5_words 30 = .ok (.istore 4, 2) := by decide +kernel
theorem dX5_words_32 : decode cX5_words 32 = .ok (.iload 4, 2) := by decide +kernel
theorem dX5_words_34 : decode cX5_words 34 = .ok (.bipush 6, 2) := by decide +kernel
theorem dX5_words_36 : decode cX5_words 36 = .ok (.if_icmp .ge 43, 3) := by decide +kernel
theorem dX5_words_39 : decode cX5_words 39 = .ok (.iload_n 3, 1) := by decide +kernel
theorem dX5_words_40 : decode cX5_words 40 = .ok (.iload_n 1, 1) := by decide +kernel
theorem dX5_words_41 : decode cX5_words 41 = .ok (.if_icmp .eq 38, 3) := by decide +kernel
theorem dX5_words_44 : decode cX5_words 44 = .ok (.iload_n 2, 1) := by decide +kernel
theorem dX5_words_45 : decode cX5_words 45 = .ok (.aload_n 0, 1) := by decide +kernel
theorem dX5_words_46 : decode cX5_words 46 = .ok (.iload_n 3, 1) := by decide +kernel
theorem dX5_words_47 : decode cX5_words 47 = .ok (.iload_n 1, 1) := by decide +kernel
theorem dX5_words_48 : decode cX5_words 48 = .ok (.iload 4, 2) := by decide +kernel
theorem dX5_words_50 : decode cX5_words 50 = .ok (.aload_n 0, 1) := by decide +kernel
theorem dX5_words_51 : decode cX5_words 51 = .ok (.getfield 25, 3) := by decide +kernel
theorem dX5_words_54 : decode cX5_words 54 = .ok (.iconst 2, 1) := by decide +kernel
theorem dX5_words_55 : decode cX5_words 55 = .ok (.iaload, 1) := by decide +kernel
theorem dX5_words_56 : decode cX5_words 56 = .ok (.invokevirtual 164, 3) := by decide +kernel
theorem dX5_words_59 : decode cX5_words 59 = .ok (.bipush (-9), 2) := by decide +kernel
theorem dX5_words_61 : decode cX5_words 61 = .ok (.if_icmp .eq 9, 3) := by decide +kernel
theorem dX5_words_64 : decode cX5_words 64 = .ok (.iconst 1, 1) := by decide +kernel
theorem dX5_words_65 : decode cX5_words 65 = .ok (.iload_n 3, 1) := by decide +kernel
theorem dX5_words_66 : decode cX5_words 66 = .ok (.ishl, 1) := by decide +kernel
theorem dX5_words_67 : decode cX5_words 67 = .ok (.goto 4, 3) := by decide +kernel
theorem dX5_words_70 : decode cX5_words 70 = .ok (.iconst 0, 1) := by decide +kernel
theorem dX5_words_71 : decode cX5_words 71 = .ok (.ior, 1) := by decide +kernel
theorem dX5_words_72 : decode cX5_words 72 = .ok (.istore_n 2, 1) := by decide +kernel
theorem dX5_words_73 : decode cX5_words 73 = .ok (.iinc 4 1, 3) := by decide +kernel
theorem dX5_words_76 : decode cX5_words 76 = .ok (.goto (-44), 3) := by decide +kernel
theorem dX5_words_79 : decode cX5_words 79 = .ok (.iinc 3 1, 3) := by decide +kernel
theorem dX5_words_82 : decode cX5_words 82 = .ok (.goto (-63), 3) := by decide +kernel
theorem dX5_words_85 : decode cX5_words 85 = .ok (.iload_n 2, 1) := by decide +kernel
theorem dX5_words_86 : decode cX5_words 86 = .ok (.ireturn, 1) := by decide +kernel
set_option maxRecDepth 20000 in
theorem kX5_words_13 : Cond.fieldLink RX5 13 "WindPostModel" "many" "[I" ∈ wsX5_words := by decide +kernel
set_option maxRecDepth 20000 in
theorem kX5_words_25 : Cond.fieldLink RX5 25 "WindPostModel" "s" "[I" ∈ wsX5_words := by decide +kernel
set_option maxRecDepth 20000 in
theorem kX5_words_47 : Cond.fieldLink RX5 47 "WindPostModel" "thrown" "I" ∈ wsX5_words := by decide +kernel
set_option maxRecDepth 20000 in
theorem uX5_words_X5 : ∀ w ∈ wsX50, w ∈ wsX5_words := by decide +kernel
set_option maxHeartbeats 8000000 in
set_option maxRecDepth 100000 in
theorem mX5_words (l : Launch) (D : va_G) (ki : Nat → ClassId) (ad : Nat → Nat) (cs : List Nat) (hcs : kR cs) (N : Nat) (a1 : Int32) (G : zMem) (tr : Int64) : gMetI l D ki ad cs yX5_words wsX5_words { frames := 5, cells := 0, slots := 0, locals := 129 } [.ref (ad 0), .int a1] (mE ki ad) G tr (fX5_words N a1 G tr) := by
  refine gMetI_of (cc := cX5_words) (maxL := 5) (ret := (some .int)) (own := RX5) (by decide +kernel) rfl rfl (Nat.le_of_ble_eq_true rfl) ?_
  intro r9 G9 tr9 h p e s m below meth c S hr hlk K X ls hl
  have hl : lv_has ls 5 [(0, .ref (ad 0)), (1, .int a1)] := hl
  have b71 : ∀ (k19 : Int32 → Int32 → zMem → Int64 → zR) (hk19 : ∀ (x2 : Int32) (x3 : Int32) (G : zMem) (tr : Int64), k19 x2 x3 G tr = some (r9, G9, tr9) → zAt p l e (headSpec wsX5_words { frames := 5, cells := 0, slots := 0, locals := 129 }).room s m ([.ref (ad 0), .int a1] : List Value).toArray below meth c 5 D cs ad (zQI below ([.ref (ad 0), .int a1] : List Value).toArray s D cs ad ((mE ki ad) G9 tr9) r9) 19 [(0, .ref (ad 0)), (1, .int a1), (2, .int x2), (3, .int x3)] [] ((mE ki ad) G tr)) (k32 : Int32 → Int32 → Int32 → zMem → Int64 → zR) (hk32 : ∀ (x2 : Int32) (x3 : Int32) (x4 : Int32) (G : zMem) (tr : Int64), k32 x2 x3 x4 G tr = some (r9, G9, tr9) → zAt p l e (headSpec wsX5_words { frames := 5, cells := 0, slots := 0, locals := 129 }).room s m ([.ref (ad 0), .int a1] : List Value).toArray below meth c 5 D cs ad (zQI below ([.ref (ad 0), .int a1] : List Value).toArray s D cs ad ((mE ki ad) G9 tr9) r9) 32 [(0, .ref (ad 0)), (1, .int a1), (2, .int x2), (3, .int x3), (4, .int x4)] [] ((mE ki ad) G tr)) (x3 : Int32) (x4 : Int32) (s0 : Int32) (s1 : Int32) (G : zMem) (tr : Int64), fX5_words_b71 N a1 k19 k32 x3 x4 s0 s1 G tr = some (r9, G9, tr9) → zAt p l e (headSpec wsX5_words { frames := 5, cells := 0, slots := 0, locals := 129 }).room s m ([.ref (ad 0), .int a1] : List Value).toArray below meth c 5 D cs ad (zQI below ([.ref (ad 0), .int a1] : List Value).toArray s D cs ad ((mE ki ad) G9 tr9) r9) 71 [(0, .ref (ad 0)), (1, .int a1), (3, .int x3), (4, .int x4)] [.int s0, .int s1] ((mE ki ad) G tr) := by
    intro k19 hk19 k32 hk32 x3 x4 s0 s1 G tr h H locs ls X hl
    unfold fX5_words_b71 at h
    refine lv_ior S.1 S.2.1 dX5_words_71 ?_
    refine lv_istore_n (lv' := [(2, .int (s1 ||| s0)), (0, .ref (ad 0)), (1, .int a1), (3, .int x3), (4, .int x4)]) S.1 S.2.1 dX5_words_72 rfl hl (by decide) rfl (fun ls hl => ?_)
    refine lv_iinc (v := (x4 + 1)) (lv' := [(4, .int (x4 + 1)), (2, .int (s1 ||| s0)), (0, .ref (ad 0)), (1, .int a1), (3, .int x3)]) S.1 S.2.1 dX5_words_73 hl (k := 4) rfl rfl (by decide) rfl (fun ls hl => ?_)
    refine lv_goto (tgt := 32) S.1 S.2.1 dX5_words_76 (by decide) ?_
    exact hk32 (s1 ||| s0) x3 (x4 + 1) G tr h _ _ _ X (lv_sub hl [2, 3, 1, 4, 0] rfl)
  have b79 : ∀ (k19 : Int32 → Int32 → zMem → Int64 → zR) (hk19 : ∀ (x2 : Int32) (x3 : Int32) (G : zMem) (tr : Int64), k19 x2 x3 G tr = some (r9, G9, tr9) → zAt p l e (headSpec wsX5_words { frames := 5, cells := 0, slots := 0, locals := 129 }).room s m ([.ref (ad 0), .int a1] : List Value).toArray below meth c 5 D cs ad (zQI below ([.ref (ad 0), .int a1] : List Value).toArray s D cs ad ((mE ki ad) G9 tr9) r9) 19 [(0, .ref (ad 0)), (1, .int a1), (2, .int x2), (3, .int x3)] [] ((mE ki ad) G tr)) (x2 : Int32) (x3 : Int32) (G : zMem) (tr : Int64), fX5_words_b79 N a1 k19 x2 x3 G tr = some (r9, G9, tr9) → zAt p l e (headSpec wsX5_words { frames := 5, cells := 0, slots := 0, locals := 129 }).room s m ([.ref (ad 0), .int a1] : List Value).toArray below meth c 5 D cs ad (zQI below ([.ref (ad 0), .int a1] : List Value).toArray s D cs ad ((mE ki ad) G9 tr9) r9) 79 [(0, .ref (ad 0)), (1, .int a1), (2, .int x2), (3, .int x3)] [] ((mE ki ad) G tr) := by
    intro k19 hk19 x2 x3 G tr h H locs ls X hl
    unfold fX5_words_b79 at h
    refine lv_iinc (v := (x3 + 1)) (lv' := [(3, .int (x3 + 1)), (0, .ref (ad 0)), (1, .int a1), (2, .int x2)]) S.1 S.2.1 dX5_words_79 hl (k := 3) rfl rfl (by decide) rfl (fun ls hl => ?_)
    refine lv_goto (tgt := 19) S.1 S.2.1 dX5_words_82 (by decide) ?_
    exact hk19 x2 (x3 + 1) G tr h _ _ _ X (lv_sub hl [1, 2, 3, 0] rfl)
  have b32 : ∀ (k19 : Int32 → Int32 → zMem → Int64 → zR) (hk19 : ∀ (x2 : Int32) (x3 : Int32) (G : zMem) (tr : Int64), k19 x2 x3 G tr = some (r9, G9, tr9) → zAt p l e (headSpec wsX5_words { frames := 5, cells := 0, slots := 0, locals := 129 }).room s m ([.ref (ad 0), .int a1] : List Value).toArray below meth c 5 D cs ad (zQI below ([.ref (ad 0), .int a1] : List Value).toArray s D cs ad ((mE ki ad) G9 tr9) r9) 19 [(0, .ref (ad 0)), (1, .int a1), (2, .int x2), (3, .int x3)] [] ((mE ki ad) G tr)) (k32 : Int32 → Int32 → Int32 → zMem → Int64 → zR) (hk32 : ∀ (x2 : Int32) (x3 : Int32) (x4 : Int32) (G : zMem) (tr : Int64), k32 x2 x3 x4 G tr = some (r9, G9, tr9) → zAt p l e (headSpec wsX5_words { frames := 5, cells := 0, slots := 0, locals := 129 }).room s m ([.ref (ad 0), .int a1] : List Value).toArray below meth c 5 D cs ad (zQI below ([.ref (ad 0), .int a1] : List Value).toArray s D cs ad ((mE ki ad) G9 tr9) r9) 32 [(0, .ref (ad 0)), (1, .int a1), (2, .int x2), (3, .int x3), (4, .int x4)] [] ((mE ki ad) G tr)) (x2 : Int32) (x3 : Int32) (x4 : Int32) (G : zMem) (tr : Int64), fX5_words_b32 N a1 k19 k32 x2 x3 x4 G tr = some (r9, G9, tr9) → zAt p l e (headSpec wsX5_words { frames := 5, cells := 0, slots := 0, locals := 129 }).room s m ([.ref (ad 0), .int a1] : List Value).toArray below meth c 5 D cs ad (zQI below ([.ref (ad 0), .int a1] : List Value).toArray s D cs ad ((mE ki ad) G9 tr9) r9) 32 [(0, .ref (ad 0)), (1, .int a1), (2, .int x2), (3, .int x3), (4, .int x4)] [] ((mE ki ad) G tr) := by
    intro k19 hk19 k32 hk32 x2 x3 x4 G tr h H locs ls X hl
    unfold fX5_words_b32 at h
    refine lv_iload S.1 S.2.1 dX5_words_32 (lv_at hl 4 rfl) ?_
    refine lv_bipush (v := (6 : Int32)) S.1 S.2.1 dX5_words_34 (by decide) ?_
    refine lv_icmp_ge (tgt := 79) S.1 S.2.1 dX5_words_36 (by decide) (fun hc_1 => ?_) (fun hc_1 => ?_)
    · have h := zif_pos hc_1 h
      exact b79 k19 hk19 x2 x3 G tr h _ _ _ X (lv_sub hl [0, 1, 2, 3] rfl)
    · have h := zif_neg hc_1 h
      refine lv_iload_n S.1 S.2.1 dX5_words_39 rfl (lv_at hl 3 rfl) ?_
      refine lv_iload_n S.1 S.2.1 dX5_words_40 rfl (lv_at hl 1 rfl) ?_
      refine lv_icmp_eq (tgt := 79) S.1 S.2.1 dX5_words_41 (by decide) (fun hc_2 => ?_) (fun hc_2 => ?_)
      · have h := zif_pos hc_2 h
        exact b79 k19 hk19 x2 x3 G tr h _ _ _ X (lv_sub hl [0, 1, 2, 3] rfl)
      · have h := zif_neg hc_2 h
        refine lv_iload_n S.1 S.2.1 dX5_words_44 rfl (lv_at hl 2 rfl) ?_
        refine lv_aload_n S.1 S.2.1 dX5_words_45 rfl (lv_at hl 0 rfl) ?_
        refine lv_iload_n S.1 S.2.1 dX5_words_46 rfl (lv_at hl 3 rfl) ?_
        refine lv_iload_n S.1 S.2.1 dX5_words_47 rfl (lv_at hl 1 rfl) ?_
        refine lv_iload S.1 S.2.1 dX5_words_48 (lv_at hl 4 rfl) ?_
        refine lv_aload_n S.1 S.2.1 dX5_words_50 rfl (lv_at hl 0 rfl) ?_
        refine zr_get (v := .ref (ad 6)) S K X (hcs 0 (by decide)) mE_R rfl uX5_words_X5 14 (by decide) kX5_words_25 rfl rfl dX5_words_51 ?_
        refine lv_iconst (v := (2 : Int32)) S.1 S.2.1 dX5_words_54 (by decide) ?_
        obtain ⟨hi_3, h⟩ := zin_some h
        refine zr_iald S K X (hcs 6 (by decide)) mE_6 hi_3 dX5_words_55 ?_
        obtain ⟨r_5, G_6, tr_7, hf_4, h⟩ := zbd_some h
        refine zr_calli (Eg := (mE ki ad)) K X (va_runV (As := [.int x3, .int a1, .int x4, .int (G 6 (Int32.toNatClampNeg (2 : Int32)))]) (rest := [.int x2]) S (mX5_bestK l D ki ad cs hcs N x3 a1 x4 (G 6 (Int32.toNatClampNeg (2 : Int32))) G tr H.size _ _ _ hf_4) (cwV 4 S.2.2.2.2 gX5_words_X5_bestK rfl rfl rfl (by decide +kernel) ⟨Nat.le_of_ble_eq_true rfl, Nat.le_of_ble_eq_true rfl⟩) (zr_preV (c0 := 0) K X (hcs 0 (by decide)) mE_R rfl) rfl rfl hl.1 rfl (lv_room (Nat.le_of_ble_eq_true rfl)) dX5_words_56 ⟨Nat.zero_le _, Nat.zero_le _⟩) (fun H locs X => ?_)
        refine lv_bipush (v := (-9 : Int32)) S.1 S.2.1 dX5_words_59 (by decide) ?_
        refine lv_icmp_eq (tgt := 70) S.1 S.2.1 dX5_words_61 (by decide) (fun hc_8 => ?_) (fun hc_8 => ?_)
        · have h := zif_pos hc_8 h
          refine lv_iconst (v := (0 : Int32)) S.1 S.2.1 dX5_words_70 (by decide) ?_
          exact b71 k19 hk19 k32 hk32 x3 x4 (0 : Int32) x2 G_6 tr_7 h _ _ _ X (lv_sub hl [0, 1, 3, 4] rfl)
        · have h := zif_neg hc_8 h
          refine lv_iconst (v := (1 : Int32)) S.1 S.2.1 dX5_words_64 (by decide) ?_
          refine lv_iload_n S.1 S.2.1 dX5_words_65 rfl (lv_at hl 3 rfl) ?_
          refine lv_ishl S.1 S.2.1 dX5_words_66 ?_
          refine lv_goto (tgt := 71) S.1 S.2.1 dX5_words_67 (by decide) ?_
          exact b71 k19 hk19 k32 hk32 x3 x4 ((1 : Int32) <<< (x3 &&& 31)) x2 G_6 tr_7 h _ _ _ X (lv_sub hl [0, 1, 3, 4] rfl)
  have L32 : ∀ (k19 : Int32 → Int32 → zMem → Int64 → zR) (hk19 : ∀ (x2 : Int32) (x3 : Int32) (G : zMem) (tr : Int64), k19 x2 x3 G tr = some (r9, G9, tr9) → zAt p l e (headSpec wsX5_words { frames := 5, cells := 0, slots := 0, locals := 129 }).room s m ([.ref (ad 0), .int a1] : List Value).toArray below meth c 5 D cs ad (zQI below ([.ref (ad 0), .int a1] : List Value).toArray s D cs ad ((mE ki ad) G9 tr9) r9) 19 [(0, .ref (ad 0)), (1, .int a1), (2, .int x2), (3, .int x3)] [] ((mE ki ad) G tr)) (n : Nat) (x2 : Int32) (x3 : Int32) (x4 : Int32) (G : zMem) (tr : Int64), fX5_words_L32 N a1 k19 n x2 x3 x4 G tr = some (r9, G9, tr9) → zAt p l e (headSpec wsX5_words { frames := 5, cells := 0, slots := 0, locals := 129 }).room s m ([.ref (ad 0), .int a1] : List Value).toArray below meth c 5 D cs ad (zQI below ([.ref (ad 0), .int a1] : List Value).toArray s D cs ad ((mE ki ad) G9 tr9) r9) 32 [(0, .ref (ad 0)), (1, .int a1), (2, .int x2), (3, .int x3), (4, .int x4)] [] ((mE ki ad) G tr) := by
    intro k19 hk19 n
    induction n with
    | zero => intro x2 x3 x4 G tr h; cases h
    | succ n ih => intro x2 x3 x4 G tr h; exact b32 k19 hk19 (fX5_words_L32 N a1 k19 n) ih x2 x3 x4 G tr h
  have b19 : ∀ (k19 : Int32 → Int32 → zMem → Int64 → zR) (hk19 : ∀ (x2 : Int32) (x3 : Int32) (G : zMem) (tr : Int64), k19 x2 x3 G tr = some (r9, G9, tr9) → zAt p l e (headSpec wsX5_words { frames := 5, cells := 0, slots := 0, locals := 129 }).room s m ([.ref (ad 0), .int a1] : List Value).toArray below meth c 5 D cs ad (zQI below ([.ref (ad 0), .int a1] : List Value).toArray s D cs ad ((mE ki ad) G9 tr9) r9) 19 [(0, .ref (ad 0)), (1, .int a1), (2, .int x2), (3, .int x3)] [] ((mE ki ad) G tr)) (x2 : Int32) (x3 : Int32) (G : zMem) (tr : Int64), fX5_words_b19 N a1 k19 x2 x3 G tr = some (r9, G9, tr9) → zAt p l e (headSpec wsX5_words { frames := 5, cells := 0, slots := 0, locals := 129 }).room s m ([.ref (ad 0), .int a1] : List Value).toArray below meth c 5 D cs ad (zQI below ([.ref (ad 0), .int a1] : List Value).toArray s D cs ad ((mE ki ad) G9 tr9) r9) 19 [(0, .ref (ad 0)), (1, .int a1), (2, .int x2), (3, .int x3)] [] ((mE ki ad) G tr) := by
    intro k19 hk19 x2 x3 G tr h H locs ls X hl
    unfold fX5_words_b19 at h
    refine lv_iload_n S.1 S.2.1 dX5_words_19 rfl (lv_at hl 3 rfl) ?_
    refine lv_aload_n S.1 S.2.1 dX5_words_20 rfl (lv_at hl 0 rfl) ?_
    refine zr_get (v := .ref (ad 2)) S K X (hcs 0 (by decide)) mE_R rfl uX5_words_X5 9 (by decide) kX5_words_13 rfl rfl dX5_words_21 ?_
    refine lv_iconst (v := (2 : Int32)) S.1 S.2.1 dX5_words_24 (by decide) ?_
    obtain ⟨hi_1, h⟩ := zin_some h
    refine zr_iald S K X (hcs 2 (by decide)) mE_2 hi_1 dX5_words_25 ?_
    refine lv_icmp_ge (tgt := 85) S.1 S.2.1 dX5_words_26 (by decide) (fun hc_2 => ?_) (fun hc_2 => ?_)
    · have h := zif_pos hc_2 h
      refine lv_iload_n S.1 S.2.1 dX5_words_85 rfl (lv_at hl 2 rfl) ?_
      exact zr_iret S hr hlk X h dX5_words_86
    · have h := zif_neg hc_2 h
      refine lv_iconst (v := (1 : Int32)) S.1 S.2.1 dX5_words_29 (by decide) ?_
      refine lv_istore (lv' := [(4, .int (1 : Int32)), (0, .ref (ad 0)), (1, .int a1), (2, .int x2), (3, .int x3)]) S.1 S.2.1 dX5_words_30 hl (by decide) rfl (fun ls hl => ?_)
      exact L32 k19 hk19 N x2 x3 (1 : Int32) G tr h _ _ _ X (lv_sub hl [1, 2, 3, 4, 0] rfl)
  have L19 : ∀ (n : Nat) (x2 : Int32) (x3 : Int32) (G : zMem) (tr : Int64), fX5_words_L19 N a1 n x2 x3 G tr = some (r9, G9, tr9) → zAt p l e (headSpec wsX5_words { frames := 5, cells := 0, slots := 0, locals := 129 }).room s m ([.ref (ad 0), .int a1] : List Value).toArray below meth c 5 D cs ad (zQI below ([.ref (ad 0), .int a1] : List Value).toArray s D cs ad ((mE ki ad) G9 tr9) r9) 19 [(0, .ref (ad 0)), (1, .int a1), (2, .int x2), (3, .int x3)] [] ((mE ki ad) G tr) := by
    intro n
    induction n with
    | zero => intro x2 x3 G tr h; cases h
    | succ n ih => intro x2 x3 G tr h; exact b19 (fX5_words_L19 N a1 n) ih x2 x3 G tr h
  unfold fX5_words at h
  obtain ⟨H, hH⟩ : ∃ H, H = s.heap := ⟨_, rfl⟩
  obtain ⟨locs, hlo⟩ : ∃ locs : List Loc, locs = [] := ⟨_, rfl⟩
  have X : gS D cs ad ((mE ki ad) G tr) (gA cs ad s.heap.size) s H locs := by rw [hH, hlo]; exact X
  suffices z : W p l e (headSpec wsX5_words { frames := 5, cells := 0, slots := 0, locals := 129 }).room s m ([.ref (ad 0), .int a1] : List Value).toArray below meth c H locs 0 0 (zQI below ([.ref (ad 0), .int a1] : List Value).toArray s D cs ad ((mE ki ad) G9 tr9) r9) (F0 m 0 ls []) by rw [hH, hlo] at z; exact z
  clear hH hlo
  refine lv_aload_n S.1 S.2.1 dX5_words_0 rfl (lv_at hl 0 rfl) ?_
  refine lv_iconst (v := (0 : Int32)) S.1 S.2.1 dX5_words_1 (by decide) ?_
  refine zr_put (xv := (0 : Int32)) (v := .int (0 : Int32)) (fsf := (fsR ad tr)) (ty := .int) S K X (hcs 0 (by decide)) mE_loc (fun _ => mE_R) rfl uX5_words_X5 tyX5 tyX5_ok nmX5 0 (by decide) kX5_words_47 rfl (by decide +kernel) rfl rfl (by simp) rfl dX5_words_2 (fun H locs X => ?_)
  refine lv_aload_n S.1 S.2.1 dX5_words_5 rfl (lv_at hl 0 rfl) ?_
  refine lv_iload_n S.1 S.2.1 dX5_words_6 rfl (lv_at hl 1 rfl) ?_
  obtain ⟨r_2, G_3, tr_4, hf_1, h⟩ := zbd_some h
  refine zr_calli (Eg := (mE ki ad)) K X (va_runV (As := [.int a1]) (rest := []) S (mX5_isIsle l D ki ad cs hcs N a1 (up2 G 0 0 (0 : Int32)) tr H.size _ _ _ hf_1) (cwV 1 S.2.2.2.2 gX5_words_X5_isIsle rfl rfl rfl (by decide +kernel) ⟨Nat.le_of_ble_eq_true rfl, Nat.le_of_ble_eq_true rfl⟩) (zr_preV (c0 := 0) K X (hcs 0 (by decide)) mE_R rfl) rfl rfl hl.1 rfl (lv_room (Nat.le_of_ble_eq_true rfl)) dX5_words_7 ⟨Nat.zero_le _, Nat.zero_le _⟩) (fun H locs X => ?_)
  refine lv_if_ne (tgt := 15) S.1 S.2.1 dX5_words_10 (by decide) (fun hc_5 => ?_) (fun hc_5 => ?_)
  · have h := zif_neg hc_5 h
    refine lv_iconst (v := (0 : Int32)) S.1 S.2.1 dX5_words_15 (by decide) ?_
    refine lv_istore_n (lv' := [(2, .int (0 : Int32)), (0, .ref (ad 0)), (1, .int a1)]) S.1 S.2.1 dX5_words_16 rfl hl (by decide) rfl (fun ls hl => ?_)
    refine lv_iconst (v := (0 : Int32)) S.1 S.2.1 dX5_words_17 (by decide) ?_
    refine lv_istore_n (lv' := [(3, .int (0 : Int32)), (2, .int (0 : Int32)), (0, .ref (ad 0)), (1, .int a1)]) S.1 S.2.1 dX5_words_18 rfl hl (by decide) rfl (fun ls hl => ?_)
    exact L19 N (0 : Int32) (0 : Int32) G_3 tr_4 h _ _ _ X (lv_sub hl [2, 3, 1, 0] rfl)
  · have h := zif_pos hc_5 h
    refine lv_iconst (v := (-1 : Int32)) S.1 S.2.1 dX5_words_13 (by decide) ?_
    exact zr_iret S hr hlk X h dX5_words_14
set_option maxRecDepth 20000 in
theorem ggX5_nets_X5_areTwo : GoodIn wsX5_nets wsX5_areTwo := goodIn_r _ [8, 9, 10, 11, 7, 12, 2, 13, 14, 15, 58, 59, 60, 61, 62, 63, 64, 65, 66, 67, 68, 69, 70, 71, 72, 73, 74, 75, 76, 77, 78, 79] (by decide +kernel) (by decide +kernel)
set_option maxRecDepth 20000 in
theorem gX5_nets_X5_areTwo : GoodIn wsX5_nets (wsV RX5 131 RX5 yX5_areTwo wsX5_areTwo) := goodIn_app (goodIn_of _ (by decide +kernel)) ggX5_nets_X5_areTwo
set_option maxRecDepth 20000 in
theorem ggX5_nets_X5_in : GoodIn wsX5_nets wsX5_in := goodIn_r _ [15] (by decide +kernel) (by decide +kernel)
set_option maxRecDepth 20000 in
theorem gX5_nets_X5_in : GoodIn wsX5_nets (va_wsS RX5 51 yX5_in wsX5_in) := goodIn_app (goodIn_of _ (by decide +kernel)) ggX5_nets_X5_in
set_option maxRecDepth 20000 in
theorem ggX5_nets_X5_ones : GoodIn wsX5_nets wsX5_ones := goodIn_r _ [18] (by decide +kernel) (by decide +kernel)
set_option maxRecDepth 20000 in
theorem gX5_nets_X5_ones : GoodIn wsX5_nets (va_wsS RX5 168 yX5_ones wsX5_ones) := goodIn_app (goodIn_of _ (by decide +kernel)) ggX5_nets_X5_ones
set_option maxRecDepth 20000 in
theorem ggX5_nets_X5_bestK : GoodIn wsX5_nets wsX5_bestK := goodIn_r _ [22, 23, 24, 25, 7, 26, 27, 28, 29, 30, 31, 32, 33, 34, 35, 36, 3, 37, 38, 39, 40, 2, 41, 42, 43, 44, 45, 46, 47, 48, 49, 50, 51, 52, 53, 54, 55, 56, 57, 58, 59, 60, 61, 62, 63, 64, 65, 66, 67, 68, 69, 70, 71, 72, 73, 74, 75, 76, 77, 78, 79] (by decide +kernel) (by decide +kernel)
set_option maxRecDepth 20000 in
theorem gX5_nets_X5_bestK : GoodIn wsX5_nets (wsV RX5 164 RX5 yX5_bestK wsX5_bestK) := goodIn_app (goodIn_of _ (by decide +kernel)) ggX5_nets_X5_bestK
theorem dX5_nets_0 : decode cX5_nets 0 = .ok (.aload_n 0, 1) := by decide +kernel
theorem dX5_nets_1 : decode cX5_nets 1 = .ok (.iconst 0, 1) := by decide +kernel
theorem dX5_nets_2 : decode cX5_nets 2 = .ok (.putfield 47, 3) := by decide +kernel
theorem dX5_nets_5 : decode cX5_nets 5 = .ok (.aload_n 0, 1) := by decide +kernel
theorem dX5_nets_6 : decode cX5_nets 6 = .ok (.iload_n 1, 1) := by decide +kernel
theorem dX5_nets_7 : decode cX5_nets 7 = .ok (.iload_n 2, 1) := by decide +kernel
theorem dX5_nets_8 : decode cX5_nets 8 = .ok (.invokevirtual 131, 3) := by decide +kernel
theorem dX5_nets_11 : decode cX5_nets 11 = .ok (.ifCond .eq 12, 3) := by decide +kernel
theorem dX5_nets_14 : decode cX5_nets 14 = .ok (.iload_n 3, 1) := by decide +kernel
theorem dX5_nets_15 : decode cX5_nets 15 = .ok (.iconst 1, 1) := by decide +kernel
theorem dX5_nets_16 : decode cX5_nets 16 = .ok (.iconst 5, 1) := by decide +kernel
theorem dX5_nets_17 : decode cX5_nets 17 = .ok (.invokestatic 51, 3) := by decide +kernel
theorem dX5_nets_20 : decode cX5_nets 20 = .ok (.ifCond .ne 5, 3) := by decide +kernel
theorem dX5_nets_23 : decode cX5_nets 23 = .ok (.iconst (-1), 1) := by decide +kernel
theorem dX5_nets_24 : decode cX5_nets 24 = .ok (.ireturn, 1) := by decide +kernel
theorem dX5_nets_25 : decode cX5_nets 25 = .ok (.bipush (-9), 2) := by decide +kernel
theorem dX5_nets_27 : decode cX5_nets 27 = .ok (.istore 4, 2) := by decide +kernel
theorem dX5_nets_29 : decode cX5_nets 29 = .ok (.iconst 0, 1) := by decide +kernel
theorem dX5_nets_30 : decode cX5_nets 30 = .ok (.istore 5, 2) := by decide +kernel
theorem dX5_nets_32 : decode cX5_nets 32 = .ok (.iload 5, 2) := by decide +kernel
theorem dX5_nets_34 : decode cX5_nets 34 = .ok (.iconst 1, 1) := by decide +kernel
theorem dX5_nets_35 : decode cX5_nets 35 = .ok (.aload_n 0, 1) := by decide +kernel
theorem dX5_nets_36 : decode cX5_nets 36 = .ok (.getfield 13, 3) := by decide +kernel
theorem dX5_nets_39 : decode cX5_nets 39 = .ok (.iconst 2, 1) := by decide +kernel
theorem dX5_nets_40 : decode cX5_nets 40 = .ok (.iaload, 1) := by decide +kernel
theorem dX5_nets_41 : decode cX5_nets 41 = .ok (.ishl, 1) := by decide +kernel
theorem dX5_nets_42 : decode cX5_nets 42 = .ok (.if_icmp .ge 89, 3) := by decide +kernel
theorem dX5_nets_45 : decode cX5_nets 45 = .ok (.iload 5, 2) := by decide +kernel
theorem dX5_nets_47 : decode cX5_nets 47 = .ok (.iload_n 1, 1) := by decide +kernel
theorem dX5_nets_48 : decode cX5_nets 48 = .ok (.ishr, 1) := by decide +kernel
theorem dX5_nets_49 : decode cX5_nets 49 = .ok (.iconst 1, 1) := by decide +kernel
theorem dX5_nets_50 : decode cX5_nets 50 = .ok (.iand, 1) := by decide +kernel
theorem dX5_nets_51 : decode cX5_nets 51 = .ok (.ifCond .ne 36, 3) := by decide +kernel
theorem dX5_nets_54 : decode cX5_nets 54 = .ok (.iload 5, 2) := by decide +kernel
theorem dX5_nets_56 : decode cX5_nets 56 = .ok (.iload_n 2, 1) := by decide +kernel
theorem dX5_nets_57 : decode cX5_nets 57 = .ok (.ishr, 1) := by decide +kernel
theorem dX5_nets_58 : decode cX5_nets 58 = .ok (.iconst 1, 1) := by decide +kernel
theorem dX5_nets_59 : decode cX5_nets 59 = .ok (.iand, 1) := by decide +kernel
theorem dX5_nets_60 : decode cX5_nets 60 = .ok (.ifCond .ne 27, 3) := by decide +kernel
theorem dX5_nets_63 : decode cX5_nets 63 = .ok (.iload 4, 2) := by decide +kernel
theorem dX5_nets_65 : decode cX5_nets 65 = .ok (.bipush (-9), 2) := by decide +kernel
theorem dX5_nets_67 : decode cX5_nets 67 = .ok (.if_icmp .eq 16, 3) := by decide +kernel
theorem dX5_nets_70 : decode cX5_nets 70 = .ok (.iload 5, 2) := by decide +kernel
theorem dX5_nets_72 : decode cX5_nets 72 = .ok (.invokestatic 168, 3) := by decide +kernel
theorem dX5_nets_75 : decode cX5_nets 75 = .ok (.iload 4, 2) := by decide +kernel
theorem dX5_nets_77 : decode cX5_nets 77 = .ok (.invokestatic 168, 3) := by decide +kernel
theorem dX5_nets_80 : decode cX5_nets 80 = .ok (.if_icmp .ge 7, 3) := by decide +kernel
theorem dX5_nets_83 : decode cX5_nets 83 = .ok (.iconst 1, 1) := by decide +kernel
theorem dX5_nets_84 : decode cX5_nets 84 = .ok (.goto 4, 3) := by decide +kernel
theorem dX5_nets_87 : decode cX5_nets 87 = .ok (.iconst 0, 1) := by decide +kernel
theorem dX5_nets_88 : decode cX5_nets 88 = .ok (.istore 6, 2) := by decide +kernel
theorem dX5_nets_90 : decode cX5_nets 90 = .ok (.iload 6, 2) := by decide +kernel
theorem dX5_nets_92 : decode cX5_nets 92 = .ok (.ifCond .eq 29, 3) := by decide +kernel
theorem dX5_nets_95 : decode cX5_nets 95 = .ok (.aload_n 0, 1) := by decide +kernel
theorem dX5_nets_96 : decode cX5_nets 96 = .ok (.iload_n 1, 1) := by decide +kernel
theorem dX5_nets_97 : decode cX5_nets 97 = .ok (.iload_n 2, 1) := by decide +kernel
theorem dX5_nets_98 : decode cX5_nets 98 = .ok (.iload_n 3, 1) := by decide +kernel
theorem dX5_nets_99 : decode cX5_nets 99 = .ok (.aload_n 0, 1) := by decide +kernel
theorem dX5_nets_100 : decode cX5_nets 100 = .ok (.getfield 25, 3) := by decide +kernel
theorem dX5_nets_103 : decode cX5_nets 103 = .ok (.iconst 2, 1) := by decide +kernel
theorem dX5_nets_104 : decode cX5_nets 104 = .ok (.iaload, 1) := by decide +kernel
theorem dX5_nets_105 : decode cX5_nets 105 = .ok (.iload 5, 2) := by decide +kernel
theorem dX5_nets_107 : decode cX5_nets 107 = .ok (.ior, 1) := by decide +kernel
theorem dX5_nets_108 : decode cX5_nets 108 = .ok (.invokevirtual 164, 3) := by decide +kernel
theorem dX5_nets_111 : decode cX5_nets 111 = .ok (.bipush (-9), 2) := by decide +kernel
theorem dX5_nets_113 : decode cX5_nets 113 = .ok (.if_icmp .ne 8, 3) := by decide +kernel
theorem dX5_nets_116 : decode cX5_nets 116 = .ok (.iload 5, 2) := by decide +kernel
theorem dX5_nets_118 : decode cX5_nets 118 = .ok (.goto 5, 3) := by decide +kernel
theorem dX5_nets_121 : decode cX5_nets 121 = .ok (.iload 4, 2) := by decide +kernel
theorem dX5_nets_123 : decode cX5_nets 123 = .ok (.istore 4, 2) := by decide +kernel
theorem dX5_nets_125 : decode cX5_nets 125 = .ok (.iinc 5 1, 3) := by decide +kernel
theorem dX5_nets_128 : decode cX5_nets 128 = .ok (.goto (-96), 3) := by decide +kernel
theorem dX5_nets_131 : decode cX5_nets 131 = .ok (.iload 4, 2) := by decide +kernel
theorem dX5_nets_133 : decode cX5_nets 133 = .ok (.ireturn, 1) := by decide +kernel
set_option maxRecDepth 20000 in
theorem kX5_nets_13 : Cond.fieldLink RX5 13 "WindPostModel" "many" "[I" ∈ wsX5_nets := by decide +kernel
set_option maxRecDepth 20000 in
theorem kX5_nets_25 : Cond.fieldLink RX5 25 "WindPostModel" "s" "[I" ∈ wsX5_nets := by decide +kernel
set_option maxRecDepth 20000 in
theorem kX5_nets_47 : Cond.fieldLink RX5 47 "WindPostModel" "thrown" "I" ∈ wsX5_nets := by decide +kernel
set_option maxRecDepth 20000 in
theorem uX5_nets_X5 : ∀ w ∈ wsX50, w ∈ wsX5_nets := by decide +kernel
set_option maxHeartbeats 8000000 in
set_option maxRecDepth 100000 in
theorem mX5_nets (l : Launch) (D : va_G) (ki : Nat → ClassId) (ad : Nat → Nat) (cs : List Nat) (hcs : kR cs) (N : Nat) (a1 : Int32) (a2 : Int32) (a3 : Int32) (G : zMem) (tr : Int64) : gMetI l D ki ad cs yX5_nets wsX5_nets { frames := 5, cells := 0, slots := 0, locals := 129 } [.ref (ad 0), .int a1, .int a2, .int a3] (mE ki ad) G tr (fX5_nets N a1 a2 a3 G tr) := by
  refine gMetI_of (cc := cX5_nets) (maxL := 7) (ret := (some .int)) (own := RX5) (by decide +kernel) rfl rfl (Nat.le_of_ble_eq_true rfl) ?_
  intro r9 G9 tr9 h p e s m below meth c S hr hlk K X ls hl
  have hl : lv_has ls 7 [(0, .ref (ad 0)), (1, .int a1), (2, .int a2), (3, .int a3)] := hl
  have b123 : ∀ (k32 : Int32 → Int32 → zMem → Int64 → zR) (hk32 : ∀ (x4 : Int32) (x5 : Int32) (G : zMem) (tr : Int64), k32 x4 x5 G tr = some (r9, G9, tr9) → zAt p l e (headSpec wsX5_nets { frames := 5, cells := 0, slots := 0, locals := 129 }).room s m ([.ref (ad 0), .int a1, .int a2, .int a3] : List Value).toArray below meth c 7 D cs ad (zQI below ([.ref (ad 0), .int a1, .int a2, .int a3] : List Value).toArray s D cs ad ((mE ki ad) G9 tr9) r9) 32 [(0, .ref (ad 0)), (1, .int a1), (2, .int a2), (3, .int a3), (4, .int x4), (5, .int x5)] [] ((mE ki ad) G tr)) (x5 : Int32) (s0 : Int32) (G : zMem) (tr : Int64), fX5_nets_b123 N a1 a2 a3 k32 x5 s0 G tr = some (r9, G9, tr9) → zAt p l e (headSpec wsX5_nets { frames := 5, cells := 0, slots := 0, locals := 129 }).room s m ([.ref (ad 0), .int a1, .int a2, .int a3] : List Value).toArray below meth c 7 D cs ad (zQI below ([.ref (ad 0), .int a1, .int a2, .int a3] : List Value).toArray s D cs ad ((mE ki ad) G9 tr9) r9) 123 [(0, .ref (ad 0)), (1, .int a1), (2, .int a2), (3, .int a3), (5, .int x5)] [.int s0] ((mE ki ad) G tr) := by
    intro k32 hk32 x5 s0 G tr h H locs ls X hl
    unfold fX5_nets_b123 at h
    refine lv_istore (lv' := [(4, .int s0), (0, .ref (ad 0)), (1, .int a1), (2, .int a2), (3, .int a3), (5, .int x5)]) S.1 S.2.1 dX5_nets_123 hl (by decide) rfl (fun ls hl => ?_)
    refine lv_iinc (v := (x5 + 1)) (lv' := [(5, .int (x5 + 1)), (4, .int s0), (0, .ref (ad 0)), (1, .int a1), (2, .int a2), (3, .int a3)]) S.1 S.2.1 dX5_nets_125 hl (k := 5) rfl rfl (by decide) rfl (fun ls hl => ?_)
    refine lv_goto (tgt := 32) S.1 S.2.1 dX5_nets_128 (by decide) ?_
    exact hk32 s0 (x5 + 1) G tr h _ _ _ X (lv_sub hl [2, 3, 4, 5, 1, 0] rfl)
  have b121 : ∀ (k32 : Int32 → Int32 → zMem → Int64 → zR) (hk32 : ∀ (x4 : Int32) (x5 : Int32) (G : zMem) (tr : Int64), k32 x4 x5 G tr = some (r9, G9, tr9) → zAt p l e (headSpec wsX5_nets { frames := 5, cells := 0, slots := 0, locals := 129 }).room s m ([.ref (ad 0), .int a1, .int a2, .int a3] : List Value).toArray below meth c 7 D cs ad (zQI below ([.ref (ad 0), .int a1, .int a2, .int a3] : List Value).toArray s D cs ad ((mE ki ad) G9 tr9) r9) 32 [(0, .ref (ad 0)), (1, .int a1), (2, .int a2), (3, .int a3), (4, .int x4), (5, .int x5)] [] ((mE ki ad) G tr)) (x4 : Int32) (x5 : Int32) (G : zMem) (tr : Int64), fX5_nets_b121 N a1 a2 a3 k32 x4 x5 G tr = some (r9, G9, tr9) → zAt p l e (headSpec wsX5_nets { frames := 5, cells := 0, slots := 0, locals := 129 }).room s m ([.ref (ad 0), .int a1, .int a2, .int a3] : List Value).toArray below meth c 7 D cs ad (zQI below ([.ref (ad 0), .int a1, .int a2, .int a3] : List Value).toArray s D cs ad ((mE ki ad) G9 tr9) r9) 121 [(0, .ref (ad 0)), (1, .int a1), (2, .int a2), (3, .int a3), (4, .int x4), (5, .int x5)] [] ((mE ki ad) G tr) := by
    intro k32 hk32 x4 x5 G tr h H locs ls X hl
    unfold fX5_nets_b121 at h
    refine lv_iload S.1 S.2.1 dX5_nets_121 (lv_at hl 4 rfl) ?_
    exact b123 k32 hk32 x5 x4 G tr h _ _ _ X (lv_sub hl [0, 1, 2, 3, 5] rfl)
  have b88 : ∀ (k32 : Int32 → Int32 → zMem → Int64 → zR) (hk32 : ∀ (x4 : Int32) (x5 : Int32) (G : zMem) (tr : Int64), k32 x4 x5 G tr = some (r9, G9, tr9) → zAt p l e (headSpec wsX5_nets { frames := 5, cells := 0, slots := 0, locals := 129 }).room s m ([.ref (ad 0), .int a1, .int a2, .int a3] : List Value).toArray below meth c 7 D cs ad (zQI below ([.ref (ad 0), .int a1, .int a2, .int a3] : List Value).toArray s D cs ad ((mE ki ad) G9 tr9) r9) 32 [(0, .ref (ad 0)), (1, .int a1), (2, .int a2), (3, .int a3), (4, .int x4), (5, .int x5)] [] ((mE ki ad) G tr)) (x4 : Int32) (x5 : Int32) (s0 : Int32) (G : zMem) (tr : Int64), fX5_nets_b88 N a1 a2 a3 k32 x4 x5 s0 G tr = some (r9, G9, tr9) → zAt p l e (headSpec wsX5_nets { frames := 5, cells := 0, slots := 0, locals := 129 }).room s m ([.ref (ad 0), .int a1, .int a2, .int a3] : List Value).toArray below meth c 7 D cs ad (zQI below ([.ref (ad 0), .int a1, .int a2, .int a3] : List Value).toArray s D cs ad ((mE ki ad) G9 tr9) r9) 88 [(0, .ref (ad 0)), (1, .int a1), (2, .int a2), (3, .int a3), (4, .int x4), (5, .int x5)] [.int s0] ((mE ki ad) G tr) := by
    intro k32 hk32 x4 x5 s0 G tr h H locs ls X hl
    unfold fX5_nets_b88 at h
    refine lv_istore (lv' := [(6, .int s0), (0, .ref (ad 0)), (1, .int a1), (2, .int a2), (3, .int a3), (4, .int x4), (5, .int x5)]) S.1 S.2.1 dX5_nets_88 hl (by decide) rfl (fun ls hl => ?_)
    refine lv_iload S.1 S.2.1 dX5_nets_90 (lv_at hl 0 rfl) ?_
    refine lv_if_eq (tgt := 121) S.1 S.2.1 dX5_nets_92 (by decide) (fun hc_1 => ?_) (fun hc_1 => ?_)
    · have h := zif_pos hc_1 h
      exact b121 k32 hk32 x4 x5 G tr h _ _ _ X (lv_sub hl [1, 2, 3, 4, 5, 6] rfl)
    · have h := zif_neg hc_1 h
      refine lv_aload_n S.1 S.2.1 dX5_nets_95 rfl (lv_at hl 1 rfl) ?_
      refine lv_iload_n S.1 S.2.1 dX5_nets_96 rfl (lv_at hl 2 rfl) ?_
      refine lv_iload_n S.1 S.2.1 dX5_nets_97 rfl (lv_at hl 3 rfl) ?_
      refine lv_iload_n S.1 S.2.1 dX5_nets_98 rfl (lv_at hl 4 rfl) ?_
      refine lv_aload_n S.1 S.2.1 dX5_nets_99 rfl (lv_at hl 1 rfl) ?_
      refine zr_get (v := .ref (ad 6)) S K X (hcs 0 (by decide)) mE_R rfl uX5_nets_X5 14 (by decide) kX5_nets_25 rfl rfl dX5_nets_100 ?_
      refine lv_iconst (v := (2 : Int32)) S.1 S.2.1 dX5_nets_103 (by decide) ?_
      obtain ⟨hi_2, h⟩ := zin_some h
      refine zr_iald S K X (hcs 6 (by decide)) mE_6 hi_2 dX5_nets_104 ?_
      refine lv_iload S.1 S.2.1 dX5_nets_105 (lv_at hl 6 rfl) ?_
      refine lv_ior S.1 S.2.1 dX5_nets_107 ?_
      obtain ⟨r_4, G_5, tr_6, hf_3, h⟩ := zbd_some h
      refine zr_calli (Eg := (mE ki ad)) K X (va_runV (As := [.int a1, .int a2, .int a3, .int ((G 6 (Int32.toNatClampNeg (2 : Int32))) ||| x5)]) (rest := []) S (mX5_bestK l D ki ad cs hcs N a1 a2 a3 ((G 6 (Int32.toNatClampNeg (2 : Int32))) ||| x5) G tr H.size _ _ _ hf_3) (cwV 4 S.2.2.2.2 gX5_nets_X5_bestK rfl rfl rfl (by decide +kernel) ⟨Nat.le_of_ble_eq_true rfl, Nat.le_of_ble_eq_true rfl⟩) (zr_preV (c0 := 0) K X (hcs 0 (by decide)) mE_R rfl) rfl rfl hl.1 rfl (lv_room (Nat.le_of_ble_eq_true rfl)) dX5_nets_108 ⟨Nat.zero_le _, Nat.zero_le _⟩) (fun H locs X => ?_)
      refine lv_bipush (v := (-9 : Int32)) S.1 S.2.1 dX5_nets_111 (by decide) ?_
      refine lv_icmp_ne (tgt := 121) S.1 S.2.1 dX5_nets_113 (by decide) (fun hc_7 => ?_) (fun hc_7 => ?_)
      · have h := zif_neg hc_7 h
        exact b121 k32 hk32 x4 x5 G_5 tr_6 h _ _ _ X (lv_sub hl [1, 2, 3, 4, 5, 6] rfl)
      · have h := zif_pos hc_7 h
        refine lv_iload S.1 S.2.1 dX5_nets_116 (lv_at hl 6 rfl) ?_
        refine lv_goto (tgt := 123) S.1 S.2.1 dX5_nets_118 (by decide) ?_
        exact b123 k32 hk32 x5 x5 G_5 tr_6 h _ _ _ X (lv_sub hl [1, 2, 3, 4, 6] rfl)
  have b83 : ∀ (k32 : Int32 → Int32 → zMem → Int64 → zR) (hk32 : ∀ (x4 : Int32) (x5 : Int32) (G : zMem) (tr : Int64), k32 x4 x5 G tr = some (r9, G9, tr9) → zAt p l e (headSpec wsX5_nets { frames := 5, cells := 0, slots := 0, locals := 129 }).room s m ([.ref (ad 0), .int a1, .int a2, .int a3] : List Value).toArray below meth c 7 D cs ad (zQI below ([.ref (ad 0), .int a1, .int a2, .int a3] : List Value).toArray s D cs ad ((mE ki ad) G9 tr9) r9) 32 [(0, .ref (ad 0)), (1, .int a1), (2, .int a2), (3, .int a3), (4, .int x4), (5, .int x5)] [] ((mE ki ad) G tr)) (x4 : Int32) (x5 : Int32) (G : zMem) (tr : Int64), fX5_nets_b83 N a1 a2 a3 k32 x4 x5 G tr = some (r9, G9, tr9) → zAt p l e (headSpec wsX5_nets { frames := 5, cells := 0, slots := 0, locals := 129 }).room s m ([.ref (ad 0), .int a1, .int a2, .int a3] : List Value).toArray below meth c 7 D cs ad (zQI below ([.ref (ad 0), .int a1, .int a2, .int a3] : List Value).toArray s D cs ad ((mE ki ad) G9 tr9) r9) 83 [(0, .ref (ad 0)), (1, .int a1), (2, .int a2), (3, .int a3), (4, .int x4), (5, .int x5)] [] ((mE ki ad) G tr) := by
    intro k32 hk32 x4 x5 G tr h H locs ls X hl
    unfold fX5_nets_b83 at h
    refine lv_iconst (v := (1 : Int32)) S.1 S.2.1 dX5_nets_83 (by decide) ?_
    refine lv_goto (tgt := 88) S.1 S.2.1 dX5_nets_84 (by decide) ?_
    exact b88 k32 hk32 x4 x5 (1 : Int32) G tr h _ _ _ X (lv_sub hl [0, 1, 2, 3, 4, 5] rfl)
  have b87 : ∀ (k32 : Int32 → Int32 → zMem → Int64 → zR) (hk32 : ∀ (x4 : Int32) (x5 : Int32) (G : zMem) (tr : Int64), k32 x4 x5 G tr = some (r9, G9, tr9) → zAt p l e (headSpec wsX5_nets { frames := 5, cells := 0, slots := 0, locals := 129 }).room s m ([.ref (ad 0), .int a1, .int a2, .int a3] : List Value).toArray below meth c 7 D cs ad (zQI below ([.ref (ad 0), .int a1, .int a2, .int a3] : List Value).toArray s D cs ad ((mE ki ad) G9 tr9) r9) 32 [(0, .ref (ad 0)), (1, .int a1), (2, .int a2), (3, .int a3), (4, .int x4), (5, .int x5)] [] ((mE ki ad) G tr)) (x4 : Int32) (x5 : Int32) (G : zMem) (tr : Int64), fX5_nets_b87 N a1 a2 a3 k32 x4 x5 G tr = some (r9, G9, tr9) → zAt p l e (headSpec wsX5_nets { frames := 5, cells := 0, slots := 0, locals := 129 }).room s m ([.ref (ad 0), .int a1, .int a2, .int a3] : List Value).toArray below meth c 7 D cs ad (zQI below ([.ref (ad 0), .int a1, .int a2, .int a3] : List Value).toArray s D cs ad ((mE ki ad) G9 tr9) r9) 87 [(0, .ref (ad 0)), (1, .int a1), (2, .int a2), (3, .int a3), (4, .int x4), (5, .int x5)] [] ((mE ki ad) G tr) := by
    intro k32 hk32 x4 x5 G tr h H locs ls X hl
    unfold fX5_nets_b87 at h
    refine lv_iconst (v := (0 : Int32)) S.1 S.2.1 dX5_nets_87 (by decide) ?_
    exact b88 k32 hk32 x4 x5 (0 : Int32) G tr h _ _ _ X (lv_sub hl [0, 1, 2, 3, 4, 5] rfl)
  have b32 : ∀ (k32 : Int32 → Int32 → zMem → Int64 → zR) (hk32 : ∀ (x4 : Int32) (x5 : Int32) (G : zMem) (tr : Int64), k32 x4 x5 G tr = some (r9, G9, tr9) → zAt p l e (headSpec wsX5_nets { frames := 5, cells := 0, slots := 0, locals := 129 }).room s m ([.ref (ad 0), .int a1, .int a2, .int a3] : List Value).toArray below meth c 7 D cs ad (zQI below ([.ref (ad 0), .int a1, .int a2, .int a3] : List Value).toArray s D cs ad ((mE ki ad) G9 tr9) r9) 32 [(0, .ref (ad 0)), (1, .int a1), (2, .int a2), (3, .int a3), (4, .int x4), (5, .int x5)] [] ((mE ki ad) G tr)) (x4 : Int32) (x5 : Int32) (G : zMem) (tr : Int64), fX5_nets_b32 N a1 a2 a3 k32 x4 x5 G tr = some (r9, G9, tr9) → zAt p l e (headSpec wsX5_nets { frames := 5, cells := 0, slots := 0, locals := 129 }).room s m ([.ref (ad 0), .int a1, .int a2, .int a3] : List Value).toArray below meth c 7 D cs ad (zQI below ([.ref (ad 0), .int a1, .int a2, .int a3] : List Value).toArray s D cs ad ((mE ki ad) G9 tr9) r9) 32 [(0, .ref (ad 0)), (1, .int a1), (2, .int a2), (3, .int a3), (4, .int x4), (5, .int x5)] [] ((mE ki ad) G tr) := by
    intro k32 hk32 x4 x5 G tr h H locs ls X hl
    unfold fX5_nets_b32 at h
    refine lv_iload S.1 S.2.1 dX5_nets_32 (lv_at hl 5 rfl) ?_
    refine lv_iconst (v := (1 : Int32)) S.1 S.2.1 dX5_nets_34 (by decide) ?_
    refine lv_aload_n S.1 S.2.1 dX5_nets_35 rfl (lv_at hl 0 rfl) ?_
    refine zr_get (v := .ref (ad 2)) S K X (hcs 0 (by decide)) mE_R rfl uX5_nets_X5 9 (by decide) kX5_nets_13 rfl rfl dX5_nets_36 ?_
    refine lv_iconst (v := (2 : Int32)) S.1 S.2.1 dX5_nets_39 (by decide) ?_
    obtain ⟨hi_1, h⟩ := zin_some h
    refine zr_iald S K X (hcs 2 (by decide)) mE_2 hi_1 dX5_nets_40 ?_
    refine lv_ishl S.1 S.2.1 dX5_nets_41 ?_
    refine lv_icmp_ge (tgt := 131) S.1 S.2.1 dX5_nets_42 (by decide) (fun hc_2 => ?_) (fun hc_2 => ?_)
    · have h := zif_pos hc_2 h
      refine lv_iload S.1 S.2.1 dX5_nets_131 (lv_at hl 4 rfl) ?_
      exact zr_iret S hr hlk X h dX5_nets_133
    · have h := zif_neg hc_2 h
      refine lv_iload S.1 S.2.1 dX5_nets_45 (lv_at hl 5 rfl) ?_
      refine lv_iload_n S.1 S.2.1 dX5_nets_47 rfl (lv_at hl 1 rfl) ?_
      refine lv_ishr S.1 S.2.1 dX5_nets_48 ?_
      refine lv_iconst (v := (1 : Int32)) S.1 S.2.1 dX5_nets_49 (by decide) ?_
      refine lv_iand S.1 S.2.1 dX5_nets_50 ?_
      refine lv_if_ne (tgt := 87) S.1 S.2.1 dX5_nets_51 (by decide) (fun hc_3 => ?_) (fun hc_3 => ?_)
      · have h := zif_neg hc_3 h
        exact b87 k32 hk32 x4 x5 G tr h _ _ _ X (lv_sub hl [0, 1, 2, 3, 4, 5] rfl)
      · have h := zif_pos hc_3 h
        refine lv_iload S.1 S.2.1 dX5_nets_54 (lv_at hl 5 rfl) ?_
        refine lv_iload_n S.1 S.2.1 dX5_nets_56 rfl (lv_at hl 2 rfl) ?_
        refine lv_ishr S.1 S.2.1 dX5_nets_57 ?_
        refine lv_iconst (v := (1 : Int32)) S.1 S.2.1 dX5_nets_58 (by decide) ?_
        refine lv_iand S.1 S.2.1 dX5_nets_59 ?_
        refine lv_if_ne (tgt := 87) S.1 S.2.1 dX5_nets_60 (by decide) (fun hc_4 => ?_) (fun hc_4 => ?_)
        · have h := zif_neg hc_4 h
          exact b87 k32 hk32 x4 x5 G tr h _ _ _ X (lv_sub hl [0, 1, 2, 3, 4, 5] rfl)
        · have h := zif_pos hc_4 h
          refine lv_iload S.1 S.2.1 dX5_nets_63 (lv_at hl 4 rfl) ?_
          refine lv_bipush (v := (-9 : Int32)) S.1 S.2.1 dX5_nets_65 (by decide) ?_
          refine lv_icmp_eq (tgt := 83) S.1 S.2.1 dX5_nets_67 (by decide) (fun hc_5 => ?_) (fun hc_5 => ?_)
          · have h := zif_pos hc_5 h
            exact b83 k32 hk32 x4 x5 G tr h _ _ _ X (lv_sub hl [0, 1, 2, 3, 4, 5] rfl)
          · have h := zif_neg hc_5 h
            refine lv_iload S.1 S.2.1 dX5_nets_70 (lv_at hl 5 rfl) ?_
            obtain ⟨r_7, hf_6, h⟩ := zbp_some h
            refine zr_calli (Eg := (mE ki ad)) (G' := G) (tr' := tr) K X (va_runS (As := [.int x5]) (rest := []) S (mX5_ones l D ki ad cs N x5 (mE ki ad) G tr H.size _ _ _ (zpu_of hf_6)) (va_cwS 1 S.2.2.2.2 gX5_nets_X5_ones rfl rfl rfl (by decide +kernel) ⟨Nat.le_of_ble_eq_true rfl, Nat.le_of_ble_eq_true rfl⟩) (zr_pre K X) rfl rfl hl.1 rfl (lv_room (Nat.le_of_ble_eq_true rfl)) dX5_nets_72 ⟨Nat.zero_le _, Nat.zero_le _⟩) (fun H locs X => ?_)
            refine lv_iload S.1 S.2.1 dX5_nets_75 (lv_at hl 4 rfl) ?_
            obtain ⟨r_9, hf_8, h⟩ := zbp_some h
            refine zr_calli (Eg := (mE ki ad)) (G' := G) (tr' := tr) K X (va_runS (As := [.int x4]) (rest := [.int r_7]) S (mX5_ones l D ki ad cs N x4 (mE ki ad) G tr H.size _ _ _ (zpu_of hf_8)) (va_cwS 1 S.2.2.2.2 gX5_nets_X5_ones rfl rfl rfl (by decide +kernel) ⟨Nat.le_of_ble_eq_true rfl, Nat.le_of_ble_eq_true rfl⟩) (zr_pre K X) rfl rfl hl.1 rfl (lv_room (Nat.le_of_ble_eq_true rfl)) dX5_nets_77 ⟨Nat.zero_le _, Nat.zero_le _⟩) (fun H locs X => ?_)
            refine lv_icmp_ge (tgt := 87) S.1 S.2.1 dX5_nets_80 (by decide) (fun hc_10 => ?_) (fun hc_10 => ?_)
            · have h := zif_pos hc_10 h
              exact b87 k32 hk32 x4 x5 G tr h _ _ _ X (lv_sub hl [0, 1, 2, 3, 4, 5] rfl)
            · have h := zif_neg hc_10 h
              exact b83 k32 hk32 x4 x5 G tr h _ _ _ X (lv_sub hl [0, 1, 2, 3, 4, 5] rfl)
  have L32 : ∀ (n : Nat) (x4 : Int32) (x5 : Int32) (G : zMem) (tr : Int64), fX5_nets_L32 N a1 a2 a3 n x4 x5 G tr = some (r9, G9, tr9) → zAt p l e (headSpec wsX5_nets { frames := 5, cells := 0, slots := 0, locals := 129 }).room s m ([.ref (ad 0), .int a1, .int a2, .int a3] : List Value).toArray below meth c 7 D cs ad (zQI below ([.ref (ad 0), .int a1, .int a2, .int a3] : List Value).toArray s D cs ad ((mE ki ad) G9 tr9) r9) 32 [(0, .ref (ad 0)), (1, .int a1), (2, .int a2), (3, .int a3), (4, .int x4), (5, .int x5)] [] ((mE ki ad) G tr) := by
    intro n
    induction n with
    | zero => intro x4 x5 G tr h; cases h
    | succ n ih => intro x4 x5 G tr h; exact b32 (fX5_nets_L32 N a1 a2 a3 n) ih x4 x5 G tr h
  unfold fX5_nets at h
  obtain ⟨H, hH⟩ : ∃ H, H = s.heap := ⟨_, rfl⟩
  obtain ⟨locs, hlo⟩ : ∃ locs : List Loc, locs = [] := ⟨_, rfl⟩
  have X : gS D cs ad ((mE ki ad) G tr) (gA cs ad s.heap.size) s H locs := by rw [hH, hlo]; exact X
  suffices z : W p l e (headSpec wsX5_nets { frames := 5, cells := 0, slots := 0, locals := 129 }).room s m ([.ref (ad 0), .int a1, .int a2, .int a3] : List Value).toArray below meth c H locs 0 0 (zQI below ([.ref (ad 0), .int a1, .int a2, .int a3] : List Value).toArray s D cs ad ((mE ki ad) G9 tr9) r9) (F0 m 0 ls []) by rw [hH, hlo] at z; exact z
  clear hH hlo
  refine lv_aload_n S.1 S.2.1 dX5_nets_0 rfl (lv_at hl 0 rfl) ?_
  refine lv_iconst (v := (0 : Int32)) S.1 S.2.1 dX5_nets_1 (by decide) ?_
  refine zr_put (xv := (0 : Int32)) (v := .int (0 : Int32)) (fsf := (fsR ad tr)) (ty := .int) S K X (hcs 0 (by decide)) mE_loc (fun _ => mE_R) rfl uX5_nets_X5 tyX5 tyX5_ok nmX5 0 (by decide) kX5_nets_47 rfl (by decide +kernel) rfl rfl (by simp) rfl dX5_nets_2 (fun H locs X => ?_)
  refine lv_aload_n S.1 S.2.1 dX5_nets_5 rfl (lv_at hl 0 rfl) ?_
  refine lv_iload_n S.1 S.2.1 dX5_nets_6 rfl (lv_at hl 1 rfl) ?_
  refine lv_iload_n S.1 S.2.1 dX5_nets_7 rfl (lv_at hl 2 rfl) ?_
  obtain ⟨r_2, G_3, tr_4, hf_1, h⟩ := zbd_some h
  refine zr_calli (Eg := (mE ki ad)) K X (va_runV (As := [.int a1, .int a2]) (rest := []) S (mX5_areTwo l D ki ad cs hcs N a1 a2 (up2 G 0 0 (0 : Int32)) tr H.size _ _ _ hf_1) (cwV 2 S.2.2.2.2 gX5_nets_X5_areTwo rfl rfl rfl (by decide +kernel) ⟨Nat.le_of_ble_eq_true rfl, Nat.le_of_ble_eq_true rfl⟩) (zr_preV (c0 := 0) K X (hcs 0 (by decide)) mE_R rfl) rfl rfl hl.1 rfl (lv_room (Nat.le_of_ble_eq_true rfl)) dX5_nets_8 ⟨Nat.zero_le _, Nat.zero_le _⟩) (fun H locs X => ?_)
  refine lv_if_eq (tgt := 23) S.1 S.2.1 dX5_nets_11 (by decide) (fun hc_5 => ?_) (fun hc_5 => ?_)
  · have h := zif_pos hc_5 h
    refine lv_iconst (v := (-1 : Int32)) S.1 S.2.1 dX5_nets_23 (by decide) ?_
    exact zr_iret S hr hlk X h dX5_nets_24
  · have h := zif_neg hc_5 h
    refine lv_iload_n S.1 S.2.1 dX5_nets_14 rfl (lv_at hl 3 rfl) ?_
    refine lv_iconst (v := (1 : Int32)) S.1 S.2.1 dX5_nets_15 (by decide) ?_
    refine lv_iconst (v := (5 : Int32)) S.1 S.2.1 dX5_nets_16 (by decide) ?_
    obtain ⟨r_7, hf_6, h⟩ := zbp_some h
    refine zr_calli (Eg := (mE ki ad)) (G' := G_3) (tr' := tr_4) K X (va_runS (As := [.int a3, .int (1 : Int32), .int (5 : Int32)]) (rest := []) S (mX5_in l D ki ad cs N a3 (1 : Int32) (5 : Int32) (mE ki ad) G_3 tr_4 H.size _ _ _ (zpu_of hf_6)) (va_cwS 3 S.2.2.2.2 gX5_nets_X5_in rfl rfl rfl (by decide +kernel) ⟨Nat.le_of_ble_eq_true rfl, Nat.le_of_ble_eq_true rfl⟩) (zr_pre K X) rfl rfl hl.1 rfl (lv_room (Nat.le_of_ble_eq_true rfl)) dX5_nets_17 ⟨Nat.zero_le _, Nat.zero_le _⟩) (fun H locs X => ?_)
    refine lv_if_ne (tgt := 25) S.1 S.2.1 dX5_nets_20 (by decide) (fun hc_8 => ?_) (fun hc_8 => ?_)
    · have h := zif_neg hc_8 h
      refine lv_bipush (v := (-9 : Int32)) S.1 S.2.1 dX5_nets_25 (by decide) ?_
      refine lv_istore (lv' := [(4, .int (-9 : Int32)), (0, .ref (ad 0)), (1, .int a1), (2, .int a2), (3, .int a3)]) S.1 S.2.1 dX5_nets_27 hl (by decide) rfl (fun ls hl => ?_)
      refine lv_iconst (v := (0 : Int32)) S.1 S.2.1 dX5_nets_29 (by decide) ?_
      refine lv_istore (lv' := [(5, .int (0 : Int32)), (4, .int (-9 : Int32)), (0, .ref (ad 0)), (1, .int a1), (2, .int a2), (3, .int a3)]) S.1 S.2.1 dX5_nets_30 hl (by decide) rfl (fun ls hl => ?_)
      exact L32 N (-9 : Int32) (0 : Int32) G_3 tr_4 h _ _ _ X (lv_sub hl [2, 3, 4, 5, 1, 0] rfl)
    · have h := zif_pos hc_8 h
      refine lv_iconst (v := (-1 : Int32)) S.1 S.2.1 dX5_nets_23 (by decide) ?_
      exact zr_iret S hr hlk X h dX5_nets_24
set_option maxRecDepth 20000 in
theorem ggX5_who_X5_isIsle : GoodIn wsX5_who wsX5_isIsle := goodIn_r _ [9, 2, 10, 11, 8, 12, 47, 48, 49, 50, 51, 52, 53, 54, 55, 56, 57, 58, 59, 60, 61, 62, 63, 64, 65, 66, 67, 68] (by decide +kernel) (by decide +kernel)
set_option maxRecDepth 20000 in
theorem gX5_who_X5_isIsle : GoodIn wsX5_who (wsV RX5 116 RX5 yX5_isIsle wsX5_isIsle) := goodIn_app (goodIn_of _ (by decide +kernel)) ggX5_who_X5_isIsle
set_option maxRecDepth 20000 in
theorem ggX5_who_X5_in : GoodIn wsX5_who wsX5_in := goodIn_r _ [12] (by decide +kernel) (by decide +kernel)
set_option maxRecDepth 20000 in
theorem gX5_who_X5_in : GoodIn wsX5_who (va_wsS RX5 51 yX5_in wsX5_in) := goodIn_app (goodIn_of _ (by decide +kernel)) ggX5_who_X5_in
set_option maxRecDepth 20000 in
theorem ggX5_who_X5_comesBy : GoodIn wsX5_who wsX5_comesBy := goodIn_r _ [16, 4, 17, 18, 19, 8, 20, 21, 22, 23, 24, 25, 3, 26, 27, 28, 29, 2, 30, 31, 32, 33, 34, 35, 36, 37, 38, 39, 40, 41, 42, 43, 44, 45, 46, 47, 48, 49, 50, 51, 52, 53, 54, 55, 56, 57, 58, 59, 60, 61, 62, 63, 64, 65, 66, 67, 68] (by decide +kernel) (by decide +kernel)
set_option maxRecDepth 20000 in
theorem gX5_who_X5_comesBy : GoodIn wsX5_who (wsV RX5 160 RX5 yX5_comesBy wsX5_comesBy) := goodIn_app (goodIn_of _ (by decide +kernel)) ggX5_who_X5_comesBy
theorem dX5_who_0 : decode cX5_who 0 = .ok (.aload_n 0, 1) := by decide +kernel
theorem dX5_who_1 : decode cX5_who 1 = .ok (.iconst 0, 1) := by decide +kernel
theorem dX5_who_2 : decode cX5_who 2 = .ok (.putfield 47, 3) := by decide +kernel
theorem dX5_who_5 : decode cX5_who 5 = .ok (.aload_n 0, 1) := by decide +kernel
theorem dX5_who_6 : decode cX5_who 6 = .ok (.iload_n 1, 1) := by decide +kernel
theorem dX5_who_7 : decode cX5_who 7 = .ok (.invokevirtual 116, 3) := by decide +kernel
theorem dX5_who_10 : decode cX5_who 10 = .ok (.ifCond .eq 30, 3) := by decide +kernel
theorem dX5_who_13 : decode cX5_who 13 = .ok (.iload_n 2, 1) := by decide +kernel
theorem dX5_who_14 : decode cX5_who 14 = .ok (.iconst 1, 1) := by decide +kernel
theorem dX5_who_15 : decode cX5_who 15 = .ok (.iconst 5, 1) := by decide +kernel
theorem dX5_who_16 : decode cX5_who 16 = .ok (.invokestatic 51, 3) := by decide +kernel
theorem dX5_who_19 : decode cX5_who 19 = .ok (.ifCond .eq 21, 3) := by decide +kernel
theorem dX5_who_22 : decode cX5_who 22 = .ok (.iload_n 3, 1) := by decide +kernel
theorem dX5_who_23 : decode cX5_who 23 = .ok (.iconst 0, 1) := by decide +kernel
theorem dX5_who_24 : decode cX5_who 24 = .ok (.iconst 1, 1) := by decide +kernel
theorem dX5_who_25 : decode cX5_who 25 = .ok (.aload_n 0, 1) := by decide +kernel
theorem dX5_who_26 : decode cX5_who 26 = .ok (.getfield 13, 3) := by decide +kernel
theorem dX5_who_29 : decode cX5_who 29 = .ok (.iconst 2, 1) := by decide +kernel
theorem dX5_who_30 : decode cX5_who 30 = .ok (.iaload, 1) := by decide +kernel
theorem dX5_who_31 : decode cX5_who 31 = .ok (.ishl, 1) := by decide +kernel
theorem dX5_who_32 : decode cX5_who 32 = .ok (.iconst 1, 1) := by decide +kernel
theorem dX5_who_33 : decode cX5_who 33 = .ok (.isub, 1) := by decide +kernel
theorem dX5_who_34 : decode cX5_who 34 = .ok (.invokestatic 51, 3) := by decide +kernel
theorem dX5_who_37 : decode cX5_who 37 = .ok (.ifCond .ne 5, 3) := by decide +kernel
theorem dX5_who_40 : decode cX5_who 40 = .ok (.iconst (-1), 1) := by decide +kernel
theorem dX5_who_41 : decode cX5_who 41 = .ok (.ireturn, 1) := by decide +kernel
theorem dX5_who_42 : decode cX5_who 42 = .ok (.iconst 0, 1) := by decide +kernel
theorem dX5_who_43 : decode cX5_who 43 = .ok (.istore 4, 2) := by decide +kernel
theorem dX5_who_45 : decode cX5_who 45 = .ok (.iconst 0, 1) := by decide +kernel
theorem dX5_who_46 : decode cX5_who 46 = .ok (.istore 5, 2) := by decide +kernel
theorem dX5_who_48 : decode cX5_who 48 = .ok (.iload 5, 2) := by decide +kernel
theorem dX5_who_50 : decode cX5_who 50 = .ok (.aload_n 0, 1) := by decide +kernel
theorem dX5_who_51 : decode cX5_who 51 = .ok (.getfield 13, 3) := by decide +kernel
theorem dX5_who_54 : decode cX5_who 54 = .ok (.iconst 2, 1) := by decide +kernel
theorem dX5_who_55 : decode cX5_who 55 = .ok (.iaload, 1) := by decide +kernel
theorem dX5_who_56 : decode cX5_who 56 = .ok (.if_icmp .ge 87, 3) := by decide +kernel
theorem dX5_who_59 : decode cX5_who 59 = .ok (.iconst 0, 1) := by decide +kernel
theorem dX5_who_60 : decode cX5_who 60 = .ok (.istore 6, 2) := by decide +kernel
theorem dX5_who_62 : decode cX5_who 62 = .ok (.iload 6, 2) := by decide +kernel
theorem dX5_who_64 : decode cX5_who 64 = .ok (.bipush 12, 2) := by decide +kernel
theorem dX5_who_66 : decode cX5_who 66 = .ok (.if_icmp .ge 71, 3) := by decide +kernel
theorem dX5_who_69 : decode cX5_who 69 = .ok (.iload 5, 2) := by decide +kernel
theorem dX5_who_71 : decode cX5_who 71 = .ok (.iload_n 1, 1) := by decide +kernel
theorem dX5_who_72 : decode cX5_who 72 = .ok (.if_icmp .eq 65, 3) := by decide +kernel
theorem dX5_who_75 : decode cX5_who 75 = .ok (.aload_n 0, 1) := by decide +kernel
theorem dX5_who_76 : decode cX5_who 76 = .ok (.iload 5, 2) := by decide +kernel
theorem dX5_who_78 : decode cX5_who 78 = .ok (.iload_n 1, 1) := by decide +kernel
theorem dX5_who_79 : decode cX5_who 79 = .ok (.iload_n 2, 1) := by decide +kernel
theorem dX5_who_80 : decode cX5_who 80 = .ok (.iload 6, 2) := by decide +kernel
theorem dX5_who_82 : decode cX5_who 82 = .ok (.aload_n 0, 1) := by decide +kernel
theorem dX5_who_83 : decode cX5_who 83 = .ok (.getfield 25, 3) := by decide +kernel
theorem dX5_who_86 : decode cX5_who 86 = .ok (.iconst 2, 1) := by decide +kernel
theorem dX5_who_87 : decode cX5_who 87 = .ok (.iaload, 1) := by decide +kernel
theorem dX5_who_88 : decode cX5_who 88 = .ok (.invokevirtual 160, 3) := by decide +kernel
theorem dX5_who_91 : decode cX5_who 91 = .ok (.bipush (-9), 2) := by decide +kernel
theorem dX5_who_93 : decode cX5_who 93 = .ok (.if_icmp .eq 17, 3) := by decide +kernel
theorem dX5_who_96 : decode cX5_who 96 = .ok (.aload_n 0, 1) := by decide +kernel
theorem dX5_who_97 : decode cX5_who 97 = .ok (.getfield 38, 3) := by decide +kernel
theorem dX5_who_100 : decode cX5_who 100 = .ok (.iconst 4, 1) := by decide +kernel
theorem dX5_who_101 : decode cX5_who 101 = .ok (.iaload, 1) := by decide +kernel
theorem dX5_who_102 : decode cX5_who 102 = .ok (.iload_n 3, 1) := by decide +kernel
theorem dX5_who_103 : decode cX5_who 103 = .ok (.if_icmp .ne 7, 3) := by decide +kernel
theorem dX5_who_106 : decode cX5_who 106 = .ok (.iconst 1, 1) := by decide +kernel
theorem dX5_who_107 : decode cX5_who 107 = .ok (.goto 4, 3) := by decide +kernel
theorem dX5_who_110 : decode cX5_who 110 = .ok (.iconst 0, 1) := by decide +kernel
theorem dX5_who_111 : decode cX5_who 111 = .ok (.istore 7, 2) := by decide +kernel
theorem dX5_who_113 : decode cX5_who 113 = .ok (.iload 4, 2) := by decide +kernel
theorem dX5_who_115 : decode cX5_who 115 = .ok (.iload 7, 2) := by decide +kernel
theorem dX5_who_117 : decode cX5_who 117 = .ok (.ifCond .eq 10, 3) := by decide +kernel
theorem dX5_who_120 : decode cX5_who 120 = .ok (.iconst 1, 1) := by decide +kernel
theorem dX5_who_121 : decode cX5_who 121 = .ok (.iload 5, 2) := by decide +kernel
theorem dX5_who_123 : decode cX5_who 123 = .ok (.ishl, 1) := by decide +kernel
theorem dX5_who_124 : decode cX5_who 124 = .ok (.goto 4, 3) := by decide +kernel
theorem dX5_who_127 : decode cX5_who 127 = .ok (.iconst 0, 1) := by decide +kernel
theorem dX5_who_128 : decode cX5_who 128 = .ok (.ior, 1) := by decide +kernel
theorem dX5_who_129 : decode cX5_who 129 = .ok (.istore 4, 2) := by decide +kernel
theorem dX5_who_131 : decode cX5_who 131 = .ok (.iinc 6 1, 3) := by decide +kernel
theorem dX5_who_134 : decode cX5_who 134 = .ok (.goto (-72), 3) := by decide +kernel
theorem dX5_who_137 : decode cX5_who 137 = .ok (.iinc 5 1, 3) := by decide +kernel
theorem dX5_who_140 : decode cX5_who 140 = .ok (.goto (-92), 3) := by decide +kernel
theorem dX5_who_143 : decode cX5_who 143 = .ok (.iload 4, 2) := by decide +kernel
theorem dX5_who_145 : decode cX5_who 145 = .ok (.ireturn, 1) := by decide +kernel
set_option maxRecDepth 20000 in
theorem kX5_who_13 : Cond.fieldLink RX5 13 "WindPostModel" "many" "[I" ∈ wsX5_who := by decide +kernel
set_option maxRecDepth 20000 in
theorem kX5_who_25 : Cond.fieldLink RX5 25 "WindPostModel" "s" "[I" ∈ wsX5_who := by decide +kernel
set_option maxRecDepth 20000 in
theorem kX5_who_38 : Cond.fieldLink RX5 38 "WindPostModel" "trial" "[I" ∈ wsX5_who := by decide +kernel
set_option maxRecDepth 20000 in
theorem kX5_who_47 : Cond.fieldLink RX5 47 "WindPostModel" "thrown" "I" ∈ wsX5_who := by decide +kernel
set_option maxRecDepth 20000 in
theorem uX5_who_X5 : ∀ w ∈ wsX50, w ∈ wsX5_who := by decide +kernel
set_option maxHeartbeats 8000000 in
set_option maxRecDepth 100000 in
theorem mX5_who (l : Launch) (D : va_G) (ki : Nat → ClassId) (ad : Nat → Nat) (cs : List Nat) (hcs : kR cs) (N : Nat) (a1 : Int32) (a2 : Int32) (a3 : Int32) (G : zMem) (tr : Int64) : gMetI l D ki ad cs yX5_who wsX5_who { frames := 4, cells := 0, slots := 0, locals := 101 } [.ref (ad 0), .int a1, .int a2, .int a3] (mE ki ad) G tr (fX5_who N a1 a2 a3 G tr) := by
  refine gMetI_of (cc := cX5_who) (maxL := 8) (ret := (some .int)) (own := RX5) (by decide +kernel) rfl rfl (Nat.le_of_ble_eq_true rfl) ?_
  intro r9 G9 tr9 h p e s m below meth c S hr hlk K X ls hl
  have hl : lv_has ls 8 [(0, .ref (ad 0)), (1, .int a1), (2, .int a2), (3, .int a3)] := hl
  have b128 : ∀ (k48 : Int32 → Int32 → zMem → Int64 → zR) (hk48 : ∀ (x4 : Int32) (x5 : Int32) (G : zMem) (tr : Int64), k48 x4 x5 G tr = some (r9, G9, tr9) → zAt p l e (headSpec wsX5_who { frames := 4, cells := 0, slots := 0, locals := 101 }).room s m ([.ref (ad 0), .int a1, .int a2, .int a3] : List Value).toArray below meth c 8 D cs ad (zQI below ([.ref (ad 0), .int a1, .int a2, .int a3] : List Value).toArray s D cs ad ((mE ki ad) G9 tr9) r9) 48 [(0, .ref (ad 0)), (1, .int a1), (2, .int a2), (3, .int a3), (4, .int x4), (5, .int x5)] [] ((mE ki ad) G tr)) (k62 : Int32 → Int32 → Int32 → zMem → Int64 → zR) (hk62 : ∀ (x4 : Int32) (x5 : Int32) (x6 : Int32) (G : zMem) (tr : Int64), k62 x4 x5 x6 G tr = some (r9, G9, tr9) → zAt p l e (headSpec wsX5_who { frames := 4, cells := 0, slots := 0, locals := 101 }).room s m ([.ref (ad 0), .int a1, .int a2, .int a3] : List Value).toArray below meth c 8 D cs ad (zQI below ([.ref (ad 0), .int a1, .int a2, .int a3] : List Value).toArray s D cs ad ((mE ki ad) G9 tr9) r9) 62 [(0, .ref (ad 0)), (1, .int a1), (2, .int a2), (3, .int a3), (4, .int x4), (5, .int x5), (6, .int x6)] [] ((mE ki ad) G tr)) (x5 : Int32) (x6 : Int32) (s0 : Int32) (s1 : Int32) (G : zMem) (tr : Int64), fX5_who_b128 N a1 a2 a3 k48 k62 x5 x6 s0 s1 G tr = some (r9, G9, tr9) → zAt p l e (headSpec wsX5_who { frames := 4, cells := 0, slots := 0, locals := 101 }).room s m ([.ref (ad 0), .int a1, .int a2, .int a3] : List Value).toArray below meth c 8 D cs ad (zQI below ([.ref (ad 0), .int a1, .int a2, .int a3] : List Value).toArray s D cs ad ((mE ki ad) G9 tr9) r9) 128 [(0, .ref (ad 0)), (1, .int a1), (2, .int a2), (3, .int a3), (5, .int x5), (6, .int x6)] [.int s0, .int s1] ((mE ki ad) G tr) := by
    intro k48 hk48 k62 hk62 x5 x6 s0 s1 G tr h H locs ls X hl
    unfold fX5_who_b128 at h
    refine lv_ior S.1 S.2.1 dX5_who_128 ?_
    refine lv_istore (lv' := [(4, .int (s1 ||| s0)), (0, .ref (ad 0)), (1, .int a1), (2, .int a2), (3, .int a3), (5, .int x5), (6, .int x6)]) S.1 S.2.1 dX5_who_129 hl (by decide) rfl (fun ls hl => ?_)
    refine lv_iinc (v := (x6 + 1)) (lv' := [(6, .int (x6 + 1)), (4, .int (s1 ||| s0)), (0, .ref (ad 0)), (1, .int a1), (2, .int a2), (3, .int a3), (5, .int x5)]) S.1 S.2.1 dX5_who_131 hl (k := 6) rfl rfl (by decide) rfl (fun ls hl => ?_)
    refine lv_goto (tgt := 62) S.1 S.2.1 dX5_who_134 (by decide) ?_
    exact hk62 (s1 ||| s0) x5 (x6 + 1) G tr h _ _ _ X (lv_sub hl [2, 3, 4, 5, 1, 6, 0] rfl)
  have b111 : ∀ (k48 : Int32 → Int32 → zMem → Int64 → zR) (hk48 : ∀ (x4 : Int32) (x5 : Int32) (G : zMem) (tr : Int64), k48 x4 x5 G tr = some (r9, G9, tr9) → zAt p l e (headSpec wsX5_who { frames := 4, cells := 0, slots := 0, locals := 101 }).room s m ([.ref (ad 0), .int a1, .int a2, .int a3] : List Value).toArray below meth c 8 D cs ad (zQI below ([.ref (ad 0), .int a1, .int a2, .int a3] : List Value).toArray s D cs ad ((mE ki ad) G9 tr9) r9) 48 [(0, .ref (ad 0)), (1, .int a1), (2, .int a2), (3, .int a3), (4, .int x4), (5, .int x5)] [] ((mE ki ad) G tr)) (k62 : Int32 → Int32 → Int32 → zMem → Int64 → zR) (hk62 : ∀ (x4 : Int32) (x5 : Int32) (x6 : Int32) (G : zMem) (tr : Int64), k62 x4 x5 x6 G tr = some (r9, G9, tr9) → zAt p l e (headSpec wsX5_who { frames := 4, cells := 0, slots := 0, locals := 101 }).room s m ([.ref (ad 0), .int a1, .int a2, .int a3] : List Value).toArray below meth c 8 D cs ad (zQI below ([.ref (ad 0), .int a1, .int a2, .int a3] : List Value).toArray s D cs ad ((mE ki ad) G9 tr9) r9) 62 [(0, .ref (ad 0)), (1, .int a1), (2, .int a2), (3, .int a3), (4, .int x4), (5, .int x5), (6, .int x6)] [] ((mE ki ad) G tr)) (x4 : Int32) (x5 : Int32) (x6 : Int32) (s0 : Int32) (G : zMem) (tr : Int64), fX5_who_b111 N a1 a2 a3 k48 k62 x4 x5 x6 s0 G tr = some (r9, G9, tr9) → zAt p l e (headSpec wsX5_who { frames := 4, cells := 0, slots := 0, locals := 101 }).room s m ([.ref (ad 0), .int a1, .int a2, .int a3] : List Value).toArray below meth c 8 D cs ad (zQI below ([.ref (ad 0), .int a1, .int a2, .int a3] : List Value).toArray s D cs ad ((mE ki ad) G9 tr9) r9) 111 [(0, .ref (ad 0)), (1, .int a1), (2, .int a2), (3, .int a3), (4, .int x4), (5, .int x5), (6, .int x6)] [.int s0] ((mE ki ad) G tr) := by
    intro k48 hk48 k62 hk62 x4 x5 x6 s0 G tr h H locs ls X hl
    unfold fX5_who_b111 at h
    refine lv_istore (lv' := [(7, .int s0), (0, .ref (ad 0)), (1, .int a1), (2, .int a2), (3, .int a3), (4, .int x4), (5, .int x5), (6, .int x6)]) S.1 S.2.1 dX5_who_111 hl (by decide) rfl (fun ls hl => ?_)
    refine lv_iload S.1 S.2.1 dX5_who_113 (lv_at hl 5 rfl) ?_
    refine lv_iload S.1 S.2.1 dX5_who_115 (lv_at hl 0 rfl) ?_
    refine lv_if_eq (tgt := 127) S.1 S.2.1 dX5_who_117 (by decide) (fun hc_1 => ?_) (fun hc_1 => ?_)
    · have h := zif_pos hc_1 h
      refine lv_iconst (v := (0 : Int32)) S.1 S.2.1 dX5_who_127 (by decide) ?_
      exact b128 k48 hk48 k62 hk62 x5 x6 (0 : Int32) x4 G tr h _ _ _ X (lv_sub hl [1, 2, 3, 4, 6, 7] rfl)
    · have h := zif_neg hc_1 h
      refine lv_iconst (v := (1 : Int32)) S.1 S.2.1 dX5_who_120 (by decide) ?_
      refine lv_iload S.1 S.2.1 dX5_who_121 (lv_at hl 6 rfl) ?_
      refine lv_ishl S.1 S.2.1 dX5_who_123 ?_
      refine lv_goto (tgt := 128) S.1 S.2.1 dX5_who_124 (by decide) ?_
      exact b128 k48 hk48 k62 hk62 x5 x6 ((1 : Int32) <<< (x5 &&& 31)) x4 G tr h _ _ _ X (lv_sub hl [1, 2, 3, 4, 6, 7] rfl)
  have b110 : ∀ (k48 : Int32 → Int32 → zMem → Int64 → zR) (hk48 : ∀ (x4 : Int32) (x5 : Int32) (G : zMem) (tr : Int64), k48 x4 x5 G tr = some (r9, G9, tr9) → zAt p l e (headSpec wsX5_who { frames := 4, cells := 0, slots := 0, locals := 101 }).room s m ([.ref (ad 0), .int a1, .int a2, .int a3] : List Value).toArray below meth c 8 D cs ad (zQI below ([.ref (ad 0), .int a1, .int a2, .int a3] : List Value).toArray s D cs ad ((mE ki ad) G9 tr9) r9) 48 [(0, .ref (ad 0)), (1, .int a1), (2, .int a2), (3, .int a3), (4, .int x4), (5, .int x5)] [] ((mE ki ad) G tr)) (k62 : Int32 → Int32 → Int32 → zMem → Int64 → zR) (hk62 : ∀ (x4 : Int32) (x5 : Int32) (x6 : Int32) (G : zMem) (tr : Int64), k62 x4 x5 x6 G tr = some (r9, G9, tr9) → zAt p l e (headSpec wsX5_who { frames := 4, cells := 0, slots := 0, locals := 101 }).room s m ([.ref (ad 0), .int a1, .int a2, .int a3] : List Value).toArray below meth c 8 D cs ad (zQI below ([.ref (ad 0), .int a1, .int a2, .int a3] : List Value).toArray s D cs ad ((mE ki ad) G9 tr9) r9) 62 [(0, .ref (ad 0)), (1, .int a1), (2, .int a2), (3, .int a3), (4, .int x4), (5, .int x5), (6, .int x6)] [] ((mE ki ad) G tr)) (x4 : Int32) (x5 : Int32) (x6 : Int32) (G : zMem) (tr : Int64), fX5_who_b110 N a1 a2 a3 k48 k62 x4 x5 x6 G tr = some (r9, G9, tr9) → zAt p l e (headSpec wsX5_who { frames := 4, cells := 0, slots := 0, locals := 101 }).room s m ([.ref (ad 0), .int a1, .int a2, .int a3] : List Value).toArray below meth c 8 D cs ad (zQI below ([.ref (ad 0), .int a1, .int a2, .int a3] : List Value).toArray s D cs ad ((mE ki ad) G9 tr9) r9) 110 [(0, .ref (ad 0)), (1, .int a1), (2, .int a2), (3, .int a3), (4, .int x4), (5, .int x5), (6, .int x6)] [] ((mE ki ad) G tr) := by
    intro k48 hk48 k62 hk62 x4 x5 x6 G tr h H locs ls X hl
    unfold fX5_who_b110 at h
    refine lv_iconst (v := (0 : Int32)) S.1 S.2.1 dX5_who_110 (by decide) ?_
    exact b111 k48 hk48 k62 hk62 x4 x5 x6 (0 : Int32) G tr h _ _ _ X (lv_sub hl [0, 1, 2, 3, 4, 5, 6] rfl)
  have b137 : ∀ (k48 : Int32 → Int32 → zMem → Int64 → zR) (hk48 : ∀ (x4 : Int32) (x5 : Int32) (G : zMem) (tr : Int64), k48 x4 x5 G tr = some (r9, G9, tr9) → zAt p l e (headSpec wsX5_who { frames := 4, cells := 0, slots := 0, locals := 101 }).room s m ([.ref (ad 0), .int a1, .int a2, .int a3] : List Value).toArray below meth c 8 D cs ad (zQI below ([.ref (ad 0), .int a1, .int a2, .int a3] : List Value).toArray s D cs ad ((mE ki ad) G9 tr9) r9) 48 [(0, .ref (ad 0)), (1, .int a1), (2, .int a2), (3, .int a3), (4, .int x4), (5, .int x5)] [] ((mE ki ad) G tr)) (x4 : Int32) (x5 : Int32) (G : zMem) (tr : Int64), fX5_who_b137 N a1 a2 a3 k48 x4 x5 G tr = some (r9, G9, tr9) → zAt p l e (headSpec wsX5_who { frames := 4, cells := 0, slots := 0, locals := 101 }).room s m ([.ref (ad 0), .int a1, .int a2, .int a3] : List Value).toArray below meth c 8 D cs ad (zQI below ([.ref (ad 0), .int a1, .int a2, .int a3] : List Value).toArray s D cs ad ((mE ki ad) G9 tr9) r9) 137 [(0, .ref (ad 0)), (1, .int a1), (2, .int a2), (3, .int a3), (4, .int x4), (5, .int x5)] [] ((mE ki ad) G tr) := by
    intro k48 hk48 x4 x5 G tr h H locs ls X hl
    unfold fX5_who_b137 at h
    refine lv_iinc (v := (x5 + 1)) (lv' := [(5, .int (x5 + 1)), (0, .ref (ad 0)), (1, .int a1), (2, .int a2), (3, .int a3), (4, .int x4)]) S.1 S.2.1 dX5_who_137 hl (k := 5) rfl rfl (by decide) rfl (fun ls hl => ?_)
    refine lv_goto (tgt := 48) S.1 S.2.1 dX5_who_140 (by decide) ?_
    exact hk48 x4 (x5 + 1) G tr h _ _ _ X (lv_sub hl [1, 2, 3, 4, 5, 0] rfl)
  have b62 : ∀ (k48 : Int32 → Int32 → zMem → Int64 → zR) (hk48 : ∀ (x4 : Int32) (x5 : Int32) (G : zMem) (tr : Int64), k48 x4 x5 G tr = some (r9, G9, tr9) → zAt p l e (headSpec wsX5_who { frames := 4, cells := 0, slots := 0, locals := 101 }).room s m ([.ref (ad 0), .int a1, .int a2, .int a3] : List Value).toArray below meth c 8 D cs ad (zQI below ([.ref (ad 0), .int a1, .int a2, .int a3] : List Value).toArray s D cs ad ((mE ki ad) G9 tr9) r9) 48 [(0, .ref (ad 0)), (1, .int a1), (2, .int a2), (3, .int a3), (4, .int x4), (5, .int x5)] [] ((mE ki ad) G tr)) (k62 : Int32 → Int32 → Int32 → zMem → Int64 → zR) (hk62 : ∀ (x4 : Int32) (x5 : Int32) (x6 : Int32) (G : zMem) (tr : Int64), k62 x4 x5 x6 G tr = some (r9, G9, tr9) → zAt p l e (headSpec wsX5_who { frames := 4, cells := 0, slots := 0, locals := 101 }).room s m ([.ref (ad 0), .int a1, .int a2, .int a3] : List Value).toArray below meth c 8 D cs ad (zQI below ([.ref (ad 0), .int a1, .int a2, .int a3] : List Value).toArray s D cs ad ((mE ki ad) G9 tr9) r9) 62 [(0, .ref (ad 0)), (1, .int a1), (2, .int a2), (3, .int a3), (4, .int x4), (5, .int x5), (6, .int x6)] [] ((mE ki ad) G tr)) (x4 : Int32) (x5 : Int32) (x6 : Int32) (G : zMem) (tr : Int64), fX5_who_b62 N a1 a2 a3 k48 k62 x4 x5 x6 G tr = some (r9, G9, tr9) → zAt p l e (headSpec wsX5_who { frames := 4, cells := 0, slots := 0, locals := 101 }).room s m ([.ref (ad 0), .int a1, .int a2, .int a3] : List Value).toArray below meth c 8 D cs ad (zQI below ([.ref (ad 0), .int a1, .int a2, .int a3] : List Value).toArray s D cs ad ((mE ki ad) G9 tr9) r9) 62 [(0, .ref (ad 0)), (1, .int a1), (2, .int a2), (3, .int a3), (4, .int x4), (5, .int x5), (6, .int x6)] [] ((mE ki ad) G tr) := by
    intro k48 hk48 k62 hk62 x4 x5 x6 G tr h H locs ls X hl
    unfold fX5_who_b62 at h
    refine lv_iload S.1 S.2.1 dX5_who_62 (lv_at hl 6 rfl) ?_
    refine lv_bipush (v := (12 : Int32)) S.1 S.2.1 dX5_who_64 (by decide) ?_
    refine lv_icmp_ge (tgt := 137) S.1 S.2.1 dX5_who_66 (by decide) (fun hc_1 => ?_) (fun hc_1 => ?_)
    · have h := zif_pos hc_1 h
      exact b137 k48 hk48 x4 x5 G tr h _ _ _ X (lv_sub hl [0, 1, 2, 3, 4, 5] rfl)
    · have h := zif_neg hc_1 h
      refine lv_iload S.1 S.2.1 dX5_who_69 (lv_at hl 5 rfl) ?_
      refine lv_iload_n S.1 S.2.1 dX5_who_71 rfl (lv_at hl 1 rfl) ?_
      refine lv_icmp_eq (tgt := 137) S.1 S.2.1 dX5_who_72 (by decide) (fun hc_2 => ?_) (fun hc_2 => ?_)
      · have h := zif_pos hc_2 h
        exact b137 k48 hk48 x4 x5 G tr h _ _ _ X (lv_sub hl [0, 1, 2, 3, 4, 5] rfl)
      · have h := zif_neg hc_2 h
        refine lv_aload_n S.1 S.2.1 dX5_who_75 rfl (lv_at hl 0 rfl) ?_
        refine lv_iload S.1 S.2.1 dX5_who_76 (lv_at hl 5 rfl) ?_
        refine lv_iload_n S.1 S.2.1 dX5_who_78 rfl (lv_at hl 1 rfl) ?_
        refine lv_iload_n S.1 S.2.1 dX5_who_79 rfl (lv_at hl 2 rfl) ?_
        refine lv_iload S.1 S.2.1 dX5_who_80 (lv_at hl 6 rfl) ?_
        refine lv_aload_n S.1 S.2.1 dX5_who_82 rfl (lv_at hl 0 rfl) ?_
        refine zr_get (v := .ref (ad 6)) S K X (hcs 0 (by decide)) mE_R rfl uX5_who_X5 14 (by decide) kX5_who_25 rfl rfl dX5_who_83 ?_
        refine lv_iconst (v := (2 : Int32)) S.1 S.2.1 dX5_who_86 (by decide) ?_
        obtain ⟨hi_3, h⟩ := zin_some h
        refine zr_iald S K X (hcs 6 (by decide)) mE_6 hi_3 dX5_who_87 ?_
        obtain ⟨r_5, G_6, tr_7, hf_4, h⟩ := zbd_some h
        refine zr_calli (Eg := (mE ki ad)) K X (va_runV (As := [.int x5, .int a1, .int a2, .int x6, .int (G 6 (Int32.toNatClampNeg (2 : Int32)))]) (rest := []) S (mX5_comesBy l D ki ad cs hcs N x5 a1 a2 x6 (G 6 (Int32.toNatClampNeg (2 : Int32))) G tr H.size _ _ _ hf_4) (cwV 5 S.2.2.2.2 gX5_who_X5_comesBy rfl rfl rfl (by decide +kernel) ⟨Nat.le_of_ble_eq_true rfl, Nat.le_of_ble_eq_true rfl⟩) (zr_preV (c0 := 0) K X (hcs 0 (by decide)) mE_R rfl) rfl rfl hl.1 rfl (lv_room (Nat.le_of_ble_eq_true rfl)) dX5_who_88 ⟨Nat.zero_le _, Nat.zero_le _⟩) (fun H locs X => ?_)
        refine lv_bipush (v := (-9 : Int32)) S.1 S.2.1 dX5_who_91 (by decide) ?_
        refine lv_icmp_eq (tgt := 110) S.1 S.2.1 dX5_who_93 (by decide) (fun hc_8 => ?_) (fun hc_8 => ?_)
        · have h := zif_pos hc_8 h
          exact b110 k48 hk48 k62 hk62 x4 x5 x6 G_6 tr_7 h _ _ _ X (lv_sub hl [0, 1, 2, 3, 4, 5, 6] rfl)
        · have h := zif_neg hc_8 h
          refine lv_aload_n S.1 S.2.1 dX5_who_96 rfl (lv_at hl 0 rfl) ?_
          refine zr_get (v := .ref (ad 10)) S K X (hcs 0 (by decide)) mE_R rfl uX5_who_X5 19 (by decide) kX5_who_38 rfl rfl dX5_who_97 ?_
          refine lv_iconst (v := (4 : Int32)) S.1 S.2.1 dX5_who_100 (by decide) ?_
          obtain ⟨hi_9, h⟩ := zin_some h
          refine zr_iald S K X (hcs 10 (by decide)) mE_10 hi_9 dX5_who_101 ?_
          refine lv_iload_n S.1 S.2.1 dX5_who_102 rfl (lv_at hl 3 rfl) ?_
          refine lv_icmp_ne (tgt := 110) S.1 S.2.1 dX5_who_103 (by decide) (fun hc_10 => ?_) (fun hc_10 => ?_)
          · have h := zif_neg hc_10 h
            exact b110 k48 hk48 k62 hk62 x4 x5 x6 G_6 tr_7 h _ _ _ X (lv_sub hl [0, 1, 2, 3, 4, 5, 6] rfl)
          · have h := zif_pos hc_10 h
            refine lv_iconst (v := (1 : Int32)) S.1 S.2.1 dX5_who_106 (by decide) ?_
            refine lv_goto (tgt := 111) S.1 S.2.1 dX5_who_107 (by decide) ?_
            exact b111 k48 hk48 k62 hk62 x4 x5 x6 (1 : Int32) G_6 tr_7 h _ _ _ X (lv_sub hl [0, 1, 2, 3, 4, 5, 6] rfl)
  have L62 : ∀ (k48 : Int32 → Int32 → zMem → Int64 → zR) (hk48 : ∀ (x4 : Int32) (x5 : Int32) (G : zMem) (tr : Int64), k48 x4 x5 G tr = some (r9, G9, tr9) → zAt p l e (headSpec wsX5_who { frames := 4, cells := 0, slots := 0, locals := 101 }).room s m ([.ref (ad 0), .int a1, .int a2, .int a3] : List Value).toArray below meth c 8 D cs ad (zQI below ([.ref (ad 0), .int a1, .int a2, .int a3] : List Value).toArray s D cs ad ((mE ki ad) G9 tr9) r9) 48 [(0, .ref (ad 0)), (1, .int a1), (2, .int a2), (3, .int a3), (4, .int x4), (5, .int x5)] [] ((mE ki ad) G tr)) (n : Nat) (x4 : Int32) (x5 : Int32) (x6 : Int32) (G : zMem) (tr : Int64), fX5_who_L62 N a1 a2 a3 k48 n x4 x5 x6 G tr = some (r9, G9, tr9) → zAt p l e (headSpec wsX5_who { frames := 4, cells := 0, slots := 0, locals := 101 }).room s m ([.ref (ad 0), .int a1, .int a2, .int a3] : List Value).toArray below meth c 8 D cs ad (zQI below ([.ref (ad 0), .int a1, .int a2, .int a3] : List Value).toArray s D cs ad ((mE ki ad) G9 tr9) r9) 62 [(0, .ref (ad 0)), (1, .int a1), (2, .int a2), (3, .int a3), (4, .int x4), (5, .int x5), (6, .int x6)] [] ((mE ki ad) G tr) := by
    intro k48 hk48 n
    induction n with
    | zero => intro x4 x5 x6 G tr h; cases h
    | succ n ih => intro x4 x5 x6 G tr h; exact b62 k48 hk48 (fX5_who_L62 N a1 a2 a3 k48 n) ih x4 x5 x6 G tr h
  have b48 : ∀ (k48 : Int32 → Int32 → zMem → Int64 → zR) (hk48 : ∀ (x4 : Int32) (x5 : Int32) (G : zMem) (tr : Int64), k48 x4 x5 G tr = some (r9, G9, tr9) → zAt p l e (headSpec wsX5_who { frames := 4, cells := 0, slots := 0, locals := 101 }).room s m ([.ref (ad 0), .int a1, .int a2, .int a3] : List Value).toArray below meth c 8 D cs ad (zQI below ([.ref (ad 0), .int a1, .int a2, .int a3] : List Value).toArray s D cs ad ((mE ki ad) G9 tr9) r9) 48 [(0, .ref (ad 0)), (1, .int a1), (2, .int a2), (3, .int a3), (4, .int x4), (5, .int x5)] [] ((mE ki ad) G tr)) (x4 : Int32) (x5 : Int32) (G : zMem) (tr : Int64), fX5_who_b48 N a1 a2 a3 k48 x4 x5 G tr = some (r9, G9, tr9) → zAt p l e (headSpec wsX5_who { frames := 4, cells := 0, slots := 0, locals := 101 }).room s m ([.ref (ad 0), .int a1, .int a2, .int a3] : List Value).toArray below meth c 8 D cs ad (zQI below ([.ref (ad 0), .int a1, .int a2, .int a3] : List Value).toArray s D cs ad ((mE ki ad) G9 tr9) r9) 48 [(0, .ref (ad 0)), (1, .int a1), (2, .int a2), (3, .int a3), (4, .int x4), (5, .int x5)] [] ((mE ki ad) G tr) := by
    intro k48 hk48 x4 x5 G tr h H locs ls X hl
    unfold fX5_who_b48 at h
    refine lv_iload S.1 S.2.1 dX5_who_48 (lv_at hl 5 rfl) ?_
    refine lv_aload_n S.1 S.2.1 dX5_who_50 rfl (lv_at hl 0 rfl) ?_
    refine zr_get (v := .ref (ad 2)) S K X (hcs 0 (by decide)) mE_R rfl uX5_who_X5 9 (by decide) kX5_who_13 rfl rfl dX5_who_51 ?_
    refine lv_iconst (v := (2 : Int32)) S.1 S.2.1 dX5_who_54 (by decide) ?_
    obtain ⟨hi_1, h⟩ := zin_some h
    refine zr_iald S K X (hcs 2 (by decide)) mE_2 hi_1 dX5_who_55 ?_
    refine lv_icmp_ge (tgt := 143) S.1 S.2.1 dX5_who_56 (by decide) (fun hc_2 => ?_) (fun hc_2 => ?_)
    · have h := zif_pos hc_2 h
      refine lv_iload S.1 S.2.1 dX5_who_143 (lv_at hl 4 rfl) ?_
      exact zr_iret S hr hlk X h dX5_who_145
    · have h := zif_neg hc_2 h
      refine lv_iconst (v := (0 : Int32)) S.1 S.2.1 dX5_who_59 (by decide) ?_
      refine lv_istore (lv' := [(6, .int (0 : Int32)), (0, .ref (ad 0)), (1, .int a1), (2, .int a2), (3, .int a3), (4, .int x4), (5, .int x5)]) S.1 S.2.1 dX5_who_60 hl (by decide) rfl (fun ls hl => ?_)
      exact L62 k48 hk48 N x4 x5 (0 : Int32) G tr h _ _ _ X (lv_sub hl [1, 2, 3, 4, 5, 6, 0] rfl)
  have L48 : ∀ (n : Nat) (x4 : Int32) (x5 : Int32) (G : zMem) (tr : Int64), fX5_who_L48 N a1 a2 a3 n x4 x5 G tr = some (r9, G9, tr9) → zAt p l e (headSpec wsX5_who { frames := 4, cells := 0, slots := 0, locals := 101 }).room s m ([.ref (ad 0), .int a1, .int a2, .int a3] : List Value).toArray below meth c 8 D cs ad (zQI below ([.ref (ad 0), .int a1, .int a2, .int a3] : List Value).toArray s D cs ad ((mE ki ad) G9 tr9) r9) 48 [(0, .ref (ad 0)), (1, .int a1), (2, .int a2), (3, .int a3), (4, .int x4), (5, .int x5)] [] ((mE ki ad) G tr) := by
    intro n
    induction n with
    | zero => intro x4 x5 G tr h; cases h
    | succ n ih => intro x4 x5 G tr h; exact b48 (fX5_who_L48 N a1 a2 a3 n) ih x4 x5 G tr h
  unfold fX5_who at h
  obtain ⟨H, hH⟩ : ∃ H, H = s.heap := ⟨_, rfl⟩
  obtain ⟨locs, hlo⟩ : ∃ locs : List Loc, locs = [] := ⟨_, rfl⟩
  have X : gS D cs ad ((mE ki ad) G tr) (gA cs ad s.heap.size) s H locs := by rw [hH, hlo]; exact X
  suffices z : W p l e (headSpec wsX5_who { frames := 4, cells := 0, slots := 0, locals := 101 }).room s m ([.ref (ad 0), .int a1, .int a2, .int a3] : List Value).toArray below meth c H locs 0 0 (zQI below ([.ref (ad 0), .int a1, .int a2, .int a3] : List Value).toArray s D cs ad ((mE ki ad) G9 tr9) r9) (F0 m 0 ls []) by rw [hH, hlo] at z; exact z
  clear hH hlo
  refine lv_aload_n S.1 S.2.1 dX5_who_0 rfl (lv_at hl 0 rfl) ?_
  refine lv_iconst (v := (0 : Int32)) S.1 S.2.1 dX5_who_1 (by decide) ?_
  refine zr_put (xv := (0 : Int32)) (v := .int (0 : Int32)) (fsf := (fsR ad tr)) (ty := .int) S K X (hcs 0 (by decide)) mE_loc (fun _ => mE_R) rfl uX5_who_X5 tyX5 tyX5_ok nmX5 0 (by decide) kX5_who_47 rfl (by decide +kernel) rfl rfl (by simp) rfl dX5_who_2 (fun H locs X => ?_)
  refine lv_aload_n S.1 S.2.1 dX5_who_5 rfl (lv_at hl 0 rfl) ?_
  refine lv_iload_n S.1 S.2.1 dX5_who_6 rfl (lv_at hl 1 rfl) ?_
  obtain ⟨r_2, G_3, tr_4, hf_1, h⟩ := zbd_some h
  refine zr_calli (Eg := (mE ki ad)) K X (va_runV (As := [.int a1]) (rest := []) S (mX5_isIsle l D ki ad cs hcs N a1 (up2 G 0 0 (0 : Int32)) tr H.size _ _ _ hf_1) (cwV 1 S.2.2.2.2 gX5_who_X5_isIsle rfl rfl rfl (by decide +kernel) ⟨Nat.le_of_ble_eq_true rfl, Nat.le_of_ble_eq_true rfl⟩) (zr_preV (c0 := 0) K X (hcs 0 (by decide)) mE_R rfl) rfl rfl hl.1 rfl (lv_room (Nat.le_of_ble_eq_true rfl)) dX5_who_7 ⟨Nat.zero_le _, Nat.zero_le _⟩) (fun H locs X => ?_)
  refine lv_if_eq (tgt := 40) S.1 S.2.1 dX5_who_10 (by decide) (fun hc_5 => ?_) (fun hc_5 => ?_)
  · have h := zif_pos hc_5 h
    refine lv_iconst (v := (-1 : Int32)) S.1 S.2.1 dX5_who_40 (by decide) ?_
    exact zr_iret S hr hlk X h dX5_who_41
  · have h := zif_neg hc_5 h
    refine lv_iload_n S.1 S.2.1 dX5_who_13 rfl (lv_at hl 2 rfl) ?_
    refine lv_iconst (v := (1 : Int32)) S.1 S.2.1 dX5_who_14 (by decide) ?_
    refine lv_iconst (v := (5 : Int32)) S.1 S.2.1 dX5_who_15 (by decide) ?_
    obtain ⟨r_7, hf_6, h⟩ := zbp_some h
    refine zr_calli (Eg := (mE ki ad)) (G' := G_3) (tr' := tr_4) K X (va_runS (As := [.int a2, .int (1 : Int32), .int (5 : Int32)]) (rest := []) S (mX5_in l D ki ad cs N a2 (1 : Int32) (5 : Int32) (mE ki ad) G_3 tr_4 H.size _ _ _ (zpu_of hf_6)) (va_cwS 3 S.2.2.2.2 gX5_who_X5_in rfl rfl rfl (by decide +kernel) ⟨Nat.le_of_ble_eq_true rfl, Nat.le_of_ble_eq_true rfl⟩) (zr_pre K X) rfl rfl hl.1 rfl (lv_room (Nat.le_of_ble_eq_true rfl)) dX5_who_16 ⟨Nat.zero_le _, Nat.zero_le _⟩) (fun H locs X => ?_)
    refine lv_if_eq (tgt := 40) S.1 S.2.1 dX5_who_19 (by decide) (fun hc_8 => ?_) (fun hc_8 => ?_)
    · have h := zif_pos hc_8 h
      refine lv_iconst (v := (-1 : Int32)) S.1 S.2.1 dX5_who_40 (by decide) ?_
      exact zr_iret S hr hlk X h dX5_who_41
    · have h := zif_neg hc_8 h
      refine lv_iload_n S.1 S.2.1 dX5_who_22 rfl (lv_at hl 3 rfl) ?_
      refine lv_iconst (v := (0 : Int32)) S.1 S.2.1 dX5_who_23 (by decide) ?_
      refine lv_iconst (v := (1 : Int32)) S.1 S.2.1 dX5_who_24 (by decide) ?_
      refine lv_aload_n S.1 S.2.1 dX5_who_25 rfl (lv_at hl 0 rfl) ?_
      refine zr_get (v := .ref (ad 2)) S K X (hcs 0 (by decide)) mE_R rfl uX5_who_X5 9 (by decide) kX5_who_13 rfl rfl dX5_who_26 ?_
      refine lv_iconst (v := (2 : Int32)) S.1 S.2.1 dX5_who_29 (by decide) ?_
      obtain ⟨hi_9, h⟩ := zin_some h
      refine zr_iald S K X (hcs 2 (by decide)) mE_2 hi_9 dX5_who_30 ?_
      refine lv_ishl S.1 S.2.1 dX5_who_31 ?_
      refine lv_iconst (v := (1 : Int32)) S.1 S.2.1 dX5_who_32 (by decide) ?_
      refine lv_isub S.1 S.2.1 dX5_who_33 ?_
      obtain ⟨r_11, hf_10, h⟩ := zbp_some h
      refine zr_calli (Eg := (mE ki ad)) (G' := G_3) (tr' := tr_4) K X (va_runS (As := [.int a3, .int (0 : Int32), .int (((1 : Int32) <<< ((G_3 2 (Int32.toNatClampNeg (2 : Int32))) &&& 31)) - (1 : Int32))]) (rest := []) S (mX5_in l D ki ad cs N a3 (0 : Int32) (((1 : Int32) <<< ((G_3 2 (Int32.toNatClampNeg (2 : Int32))) &&& 31)) - (1 : Int32)) (mE ki ad) G_3 tr_4 H.size _ _ _ (zpu_of hf_10)) (va_cwS 3 S.2.2.2.2 gX5_who_X5_in rfl rfl rfl (by decide +kernel) ⟨Nat.le_of_ble_eq_true rfl, Nat.le_of_ble_eq_true rfl⟩) (zr_pre K X) rfl rfl hl.1 rfl (lv_room (Nat.le_of_ble_eq_true rfl)) dX5_who_34 ⟨Nat.zero_le _, Nat.zero_le _⟩) (fun H locs X => ?_)
      refine lv_if_ne (tgt := 42) S.1 S.2.1 dX5_who_37 (by decide) (fun hc_12 => ?_) (fun hc_12 => ?_)
      · have h := zif_neg hc_12 h
        refine lv_iconst (v := (0 : Int32)) S.1 S.2.1 dX5_who_42 (by decide) ?_
        refine lv_istore (lv' := [(4, .int (0 : Int32)), (0, .ref (ad 0)), (1, .int a1), (2, .int a2), (3, .int a3)]) S.1 S.2.1 dX5_who_43 hl (by decide) rfl (fun ls hl => ?_)
        refine lv_iconst (v := (0 : Int32)) S.1 S.2.1 dX5_who_45 (by decide) ?_
        refine lv_istore (lv' := [(5, .int (0 : Int32)), (4, .int (0 : Int32)), (0, .ref (ad 0)), (1, .int a1), (2, .int a2), (3, .int a3)]) S.1 S.2.1 dX5_who_46 hl (by decide) rfl (fun ls hl => ?_)
        exact L48 N (0 : Int32) (0 : Int32) G_3 tr_4 h _ _ _ X (lv_sub hl [2, 3, 4, 5, 1, 0] rfl)
      · have h := zif_pos hc_12 h
        refine lv_iconst (v := (-1 : Int32)) S.1 S.2.1 dX5_who_40 (by decide) ?_
        exact zr_iret S hr hlk X h dX5_who_41
set_option maxRecDepth 20000 in
theorem ggX5_knee_X5_in : GoodIn wsX5_knee wsX5_in := goodIn_r _ [6] (by decide +kernel) (by decide +kernel)
set_option maxRecDepth 20000 in
theorem gX5_knee_X5_in : GoodIn wsX5_knee (va_wsS RX5 51 yX5_in wsX5_in) := goodIn_app (goodIn_of _ (by decide +kernel)) ggX5_knee_X5_in
set_option maxRecDepth 20000 in
theorem ggX5_knee_X5_windOf : GoodIn wsX5_knee wsX5_windOf := goodIn_r _ [10, 11, 2, 12, 13, 14, 15, 16, 17, 18, 19, 20, 21, 22, 23, 24, 25, 26, 27, 28, 29, 30, 31, 32, 33] (by decide +kernel) (by decide +kernel)
set_option maxRecDepth 20000 in
theorem gX5_knee_X5_windOf : GoodIn wsX5_knee (wsV RX5 125 RX5 yX5_windOf wsX5_windOf) := goodIn_app (goodIn_of _ (by decide +kernel)) ggX5_knee_X5_windOf
theorem dX5_knee_0 : decode cX5_knee 0 = .ok (.aload_n 0, 1) := by decide +kernel
theorem dX5_knee_1 : decode cX5_knee 1 = .ok (.iconst 0, 1) := by decide +kernel
theorem dX5_knee_2 : decode cX5_knee 2 = .ok (.putfield 47, 3) := by decide +kernel
theorem dX5_knee_5 : decode cX5_knee 5 = .ok (.iload_n 1, 1) := by decide +kernel
theorem dX5_knee_6 : decode cX5_knee 6 = .ok (.iconst 1, 1) := by decide +kernel
theorem dX5_knee_7 : decode cX5_knee 7 = .ok (.bipush 12, 2) := by decide +kernel
theorem dX5_knee_9 : decode cX5_knee 9 = .ok (.invokestatic 51, 3) := by decide +kernel
theorem dX5_knee_12 : decode cX5_knee 12 = .ok (.ifCond .eq 13, 3) := by decide +kernel
theorem dX5_knee_15 : decode cX5_knee 15 = .ok (.iload_n 2, 1) := by decide +kernel
theorem dX5_knee_16 : decode cX5_knee 16 = .ok (.iconst 1, 1) := by decide +kernel
theorem dX5_knee_17 : decode cX5_knee 17 = .ok (.bipush 12, 2) := by decide +kernel
theorem dX5_knee_19 : decode cX5_knee 19 = .ok (.invokestatic 51, 3) := by decide +kernel
theorem dX5_knee_22 : decode cX5_knee 22 = .ok (.ifCond .ne 5, 3) := by decide +kernel
theorem dX5_knee_25 : decode cX5_knee 25 = .ok (.iconst (-1), 1) := by decide +kernel
theorem dX5_knee_26 : decode cX5_knee 26 = .ok (.ireturn, 1) := by decide +kernel
theorem dX5_knee_27 : decode cX5_knee 27 = .ok (.iconst 0, 1) := by decide +kernel
theorem dX5_knee_28 : decode cX5_knee 28 = .ok (.istore_n 3, 1) := by decide +kernel
theorem dX5_knee_29 : decode cX5_knee 29 = .ok (.iconst 0, 1) := by decide +kernel
theorem dX5_knee_30 : decode cX5_knee 30 = .ok (.istore 4, 2) := by decide +kernel
theorem dX5_knee_32 : decode cX5_knee 32 = .ok (.iload 4, 2) := by decide +kernel
theorem dX5_knee_34 : decode cX5_knee 34 = .ok (.iload_n 2, 1) := by decide +kernel
theorem dX5_knee_35 : decode cX5_knee 35 = .ok (.if_icmp .ge 48, 3) := by decide +kernel
theorem dX5_knee_38 : decode cX5_knee 38 = .ok (.iload_n 3, 1) := by decide +kernel
theorem dX5_knee_39 : decode cX5_knee 39 = .ok (.aload_n 0, 1) := by decide +kernel
theorem dX5_knee_40 : decode cX5_knee 40 = .ok (.aload_n 0, 1) := by decide +kernel
theorem dX5_knee_41 : decode cX5_knee 41 = .ok (.getfield 25, 3) := by decide +kernel
theorem dX5_knee_44 : decode cX5_knee 44 = .ok (.iconst 0, 1) := by decide +kernel
theorem dX5_knee_45 : decode cX5_knee 45 = .ok (.iaload, 1) := by decide +kernel
theorem dX5_knee_46 : decode cX5_knee 46 = .ok (.iload 4, 2) := by decide +kernel
theorem dX5_knee_48 : decode cX5_knee 48 = .ok (.iadd, 1) := by decide +kernel
theorem dX5_knee_49 : decode cX5_knee 49 = .ok (.invokevirtual 125, 3) := by decide +kernel
theorem dX5_knee_52 : decode cX5_knee 52 = .ok (.aload_n 0, 1) := by decide +kernel
theorem dX5_knee_53 : decode cX5_knee 53 = .ok (.aload_n 0, 1) := by decide +kernel
theorem dX5_knee_54 : decode cX5_knee 54 = .ok (.getfield 25, 3) := by decide +kernel
theorem dX5_knee_57 : decode cX5_knee 57 = .ok (.iconst 0, 1) := by decide +kernel
theorem dX5_knee_58 : decode cX5_knee 58 = .ok (.iaload, 1) := by decide +kernel
theorem dX5_knee_59 : decode cX5_knee 59 = .ok (.iload 4, 2) := by decide +kernel
theorem dX5_knee_61 : decode cX5_knee 61 = .ok (.iadd, 1) := by decide +kernel
theorem dX5_knee_62 : decode cX5_knee 62 = .ok (.iload_n 1, 1) := by decide +kernel
theorem dX5_knee_63 : decode cX5_knee 63 = .ok (.isub, 1) := by decide +kernel
theorem dX5_knee_64 : decode cX5_knee 64 = .ok (.invokevirtual 125, 3) := by decide +kernel
theorem dX5_knee_67 : decode cX5_knee 67 = .ok (.if_icmp .ne 7, 3) := by decide +kernel
theorem dX5_knee_70 : decode cX5_knee 70 = .ok (.iconst 1, 1) := by decide +kernel
theorem dX5_knee_71 : decode cX5_knee 71 = .ok (.goto 4, 3) := by decide +kernel
theorem dX5_knee_74 : decode cX5_knee 74 = .ok (.iconst 0, 1) := by decide +kernel
theorem dX5_knee_75 : decode cX5_knee 75 = .ok (.iadd, 1) := by decide +kernel
theorem dX5_knee_76 : decode cX5_knee 76 = .ok (.istore_n 3, 1) := by decide +kernel
theorem dX5_knee_77 : decode cX5_knee 77 = .ok (.iinc 4 1, 3) := by decide +kernel
theorem dX5_knee_80 : decode cX5_knee 80 = .ok (.goto (-48), 3) := by decide +kernel
theorem dX5_knee_83 : decode cX5_knee 83 = .ok (.iload_n 3, 1) := by decide +kernel
theorem dX5_knee_84 : decode cX5_knee 84 = .ok (.ireturn, 1) := by decide +kernel
set_option maxRecDepth 20000 in
theorem kX5_knee_25 : Cond.fieldLink RX5 25 "WindPostModel" "s" "[I" ∈ wsX5_knee := by decide +kernel
set_option maxRecDepth 20000 in
theorem kX5_knee_47 : Cond.fieldLink RX5 47 "WindPostModel" "thrown" "I" ∈ wsX5_knee := by decide +kernel
set_option maxRecDepth 20000 in
theorem uX5_knee_X5 : ∀ w ∈ wsX50, w ∈ wsX5_knee := by decide +kernel
set_option maxHeartbeats 8000000 in
set_option maxRecDepth 100000 in
theorem mX5_knee (l : Launch) (D : va_G) (ki : Nat → ClassId) (ad : Nat → Nat) (cs : List Nat) (hcs : kR cs) (N : Nat) (a1 : Int32) (a2 : Int32) (G : zMem) (tr : Int64) : gMetI l D ki ad cs yX5_knee wsX5_knee { frames := 1, cells := 0, slots := 0, locals := 22 } [.ref (ad 0), .int a1, .int a2] (mE ki ad) G tr (fX5_knee N a1 a2 G tr) := by
  refine gMetI_of (cc := cX5_knee) (maxL := 5) (ret := (some .int)) (own := RX5) (by decide +kernel) rfl rfl (Nat.le_of_ble_eq_true rfl) ?_
  intro r9 G9 tr9 h p e s m below meth c S hr hlk K X ls hl
  have hl : lv_has ls 5 [(0, .ref (ad 0)), (1, .int a1), (2, .int a2)] := hl
  have b75 : ∀ (k32 : Int32 → Int32 → zMem → Int64 → zR) (hk32 : ∀ (x3 : Int32) (x4 : Int32) (G : zMem) (tr : Int64), k32 x3 x4 G tr = some (r9, G9, tr9) → zAt p l e (headSpec wsX5_knee { frames := 1, cells := 0, slots := 0, locals := 22 }).room s m ([.ref (ad 0), .int a1, .int a2] : List Value).toArray below meth c 5 D cs ad (zQI below ([.ref (ad 0), .int a1, .int a2] : List Value).toArray s D cs ad ((mE ki ad) G9 tr9) r9) 32 [(0, .ref (ad 0)), (1, .int a1), (2, .int a2), (3, .int x3), (4, .int x4)] [] ((mE ki ad) G tr)) (x4 : Int32) (s0 : Int32) (s1 : Int32) (G : zMem) (tr : Int64), fX5_knee_b75 N a1 a2 k32 x4 s0 s1 G tr = some (r9, G9, tr9) → zAt p l e (headSpec wsX5_knee { frames := 1, cells := 0, slots := 0, locals := 22 }).room s m ([.ref (ad 0), .int a1, .int a2] : List Value).toArray below meth c 5 D cs ad (zQI below ([.ref (ad 0), .int a1, .int a2] : List Value).toArray s D cs ad ((mE ki ad) G9 tr9) r9) 75 [(0, .ref (ad 0)), (1, .int a1), (2, .int a2), (4, .int x4)] [.int s0, .int s1] ((mE ki ad) G tr) := by
    intro k32 hk32 x4 s0 s1 G tr h H locs ls X hl
    unfold fX5_knee_b75 at h
    refine lv_iadd S.1 S.2.1 dX5_knee_75 ?_
    refine lv_istore_n (lv' := [(3, .int (s1 + s0)), (0, .ref (ad 0)), (1, .int a1), (2, .int a2), (4, .int x4)]) S.1 S.2.1 dX5_knee_76 rfl hl (by decide) rfl (fun ls hl => ?_)
    refine lv_iinc (v := (x4 + 1)) (lv' := [(4, .int (x4 + 1)), (3, .int (s1 + s0)), (0, .ref (ad 0)), (1, .int a1), (2, .int a2)]) S.1 S.2.1 dX5_knee_77 hl (k := 4) rfl rfl (by decide) rfl (fun ls hl => ?_)
    refine lv_goto (tgt := 32) S.1 S.2.1 dX5_knee_80 (by decide) ?_
    exact hk32 (s1 + s0) (x4 + 1) G tr h _ _ _ X (lv_sub hl [2, 3, 4, 1, 0] rfl)
  have b32 : ∀ (k32 : Int32 → Int32 → zMem → Int64 → zR) (hk32 : ∀ (x3 : Int32) (x4 : Int32) (G : zMem) (tr : Int64), k32 x3 x4 G tr = some (r9, G9, tr9) → zAt p l e (headSpec wsX5_knee { frames := 1, cells := 0, slots := 0, locals := 22 }).room s m ([.ref (ad 0), .int a1, .int a2] : List Value).toArray below meth c 5 D cs ad (zQI below ([.ref (ad 0), .int a1, .int a2] : List Value).toArray s D cs ad ((mE ki ad) G9 tr9) r9) 32 [(0, .ref (ad 0)), (1, .int a1), (2, .int a2), (3, .int x3), (4, .int x4)] [] ((mE ki ad) G tr)) (x3 : Int32) (x4 : Int32) (G : zMem) (tr : Int64), fX5_knee_b32 N a1 a2 k32 x3 x4 G tr = some (r9, G9, tr9) → zAt p l e (headSpec wsX5_knee { frames := 1, cells := 0, slots := 0, locals := 22 }).room s m ([.ref (ad 0), .int a1, .int a2] : List Value).toArray below meth c 5 D cs ad (zQI below ([.ref (ad 0), .int a1, .int a2] : List Value).toArray s D cs ad ((mE ki ad) G9 tr9) r9) 32 [(0, .ref (ad 0)), (1, .int a1), (2, .int a2), (3, .int x3), (4, .int x4)] [] ((mE ki ad) G tr) := by
    intro k32 hk32 x3 x4 G tr h H locs ls X hl
    unfold fX5_knee_b32 at h
    refine lv_iload S.1 S.2.1 dX5_knee_32 (lv_at hl 4 rfl) ?_
    refine lv_iload_n S.1 S.2.1 dX5_knee_34 rfl (lv_at hl 2 rfl) ?_
    refine lv_icmp_ge (tgt := 83) S.1 S.2.1 dX5_knee_35 (by decide) (fun hc_1 => ?_) (fun hc_1 => ?_)
    · have h := zif_pos hc_1 h
      refine lv_iload_n S.1 S.2.1 dX5_knee_83 rfl (lv_at hl 3 rfl) ?_
      exact zr_iret S hr hlk X h dX5_knee_84
    · have h := zif_neg hc_1 h
      refine lv_iload_n S.1 S.2.1 dX5_knee_38 rfl (lv_at hl 3 rfl) ?_
      refine lv_aload_n S.1 S.2.1 dX5_knee_39 rfl (lv_at hl 0 rfl) ?_
      refine lv_aload_n S.1 S.2.1 dX5_knee_40 rfl (lv_at hl 0 rfl) ?_
      refine zr_get (v := .ref (ad 6)) S K X (hcs 0 (by decide)) mE_R rfl uX5_knee_X5 14 (by decide) kX5_knee_25 rfl rfl dX5_knee_41 ?_
      refine lv_iconst (v := (0 : Int32)) S.1 S.2.1 dX5_knee_44 (by decide) ?_
      obtain ⟨hi_2, h⟩ := zin_some h
      refine zr_iald S K X (hcs 6 (by decide)) mE_6 hi_2 dX5_knee_45 ?_
      refine lv_iload S.1 S.2.1 dX5_knee_46 (lv_at hl 4 rfl) ?_
      refine lv_iadd S.1 S.2.1 dX5_knee_48 ?_
      obtain ⟨r_4, G_5, tr_6, hf_3, h⟩ := zbd_some h
      refine zr_calli (Eg := (mE ki ad)) K X (va_runV (As := [.int ((G 6 (Int32.toNatClampNeg (0 : Int32))) + x4)]) (rest := [.int x3]) S (mX5_windOf l D ki ad cs hcs N ((G 6 (Int32.toNatClampNeg (0 : Int32))) + x4) G tr H.size _ _ _ hf_3) (cwV 1 S.2.2.2.2 gX5_knee_X5_windOf rfl rfl rfl (by decide +kernel) ⟨Nat.le_of_ble_eq_true rfl, Nat.le_of_ble_eq_true rfl⟩) (zr_preV (c0 := 0) K X (hcs 0 (by decide)) mE_R rfl) rfl rfl hl.1 rfl (lv_room (Nat.le_of_ble_eq_true rfl)) dX5_knee_49 ⟨Nat.zero_le _, Nat.zero_le _⟩) (fun H locs X => ?_)
      refine lv_aload_n S.1 S.2.1 dX5_knee_52 rfl (lv_at hl 0 rfl) ?_
      refine lv_aload_n S.1 S.2.1 dX5_knee_53 rfl (lv_at hl 0 rfl) ?_
      refine zr_get (v := .ref (ad 6)) S K X (hcs 0 (by decide)) mE_R rfl uX5_knee_X5 14 (by decide) kX5_knee_25 rfl rfl dX5_knee_54 ?_
      refine lv_iconst (v := (0 : Int32)) S.1 S.2.1 dX5_knee_57 (by decide) ?_
      obtain ⟨hi_7, h⟩ := zin_some h
      refine zr_iald S K X (hcs 6 (by decide)) mE_6 hi_7 dX5_knee_58 ?_
      refine lv_iload S.1 S.2.1 dX5_knee_59 (lv_at hl 4 rfl) ?_
      refine lv_iadd S.1 S.2.1 dX5_knee_61 ?_
      refine lv_iload_n S.1 S.2.1 dX5_knee_62 rfl (lv_at hl 1 rfl) ?_
      refine lv_isub S.1 S.2.1 dX5_knee_63 ?_
      obtain ⟨r_9, G_10, tr_11, hf_8, h⟩ := zbd_some h
      refine zr_calli (Eg := (mE ki ad)) K X (va_runV (As := [.int (((G_5 6 (Int32.toNatClampNeg (0 : Int32))) + x4) - a1)]) (rest := [.int r_4, .int x3]) S (mX5_windOf l D ki ad cs hcs N (((G_5 6 (Int32.toNatClampNeg (0 : Int32))) + x4) - a1) G_5 tr_6 H.size _ _ _ hf_8) (cwV 1 S.2.2.2.2 gX5_knee_X5_windOf rfl rfl rfl (by decide +kernel) ⟨Nat.le_of_ble_eq_true rfl, Nat.le_of_ble_eq_true rfl⟩) (zr_preV (c0 := 0) K X (hcs 0 (by decide)) mE_R rfl) rfl rfl hl.1 rfl (lv_room (Nat.le_of_ble_eq_true rfl)) dX5_knee_64 ⟨Nat.zero_le _, Nat.zero_le _⟩) (fun H locs X => ?_)
      refine lv_icmp_ne (tgt := 74) S.1 S.2.1 dX5_knee_67 (by decide) (fun hc_12 => ?_) (fun hc_12 => ?_)
      · have h := zif_neg hc_12 h
        refine lv_iconst (v := (0 : Int32)) S.1 S.2.1 dX5_knee_74 (by decide) ?_
        exact b75 k32 hk32 x4 (0 : Int32) x3 G_10 tr_11 h _ _ _ X (lv_sub hl [0, 1, 2, 4] rfl)
      · have h := zif_pos hc_12 h
        refine lv_iconst (v := (1 : Int32)) S.1 S.2.1 dX5_knee_70 (by decide) ?_
        refine lv_goto (tgt := 75) S.1 S.2.1 dX5_knee_71 (by decide) ?_
        exact b75 k32 hk32 x4 (1 : Int32) x3 G_10 tr_11 h _ _ _ X (lv_sub hl [0, 1, 2, 4] rfl)
  have L32 : ∀ (n : Nat) (x3 : Int32) (x4 : Int32) (G : zMem) (tr : Int64), fX5_knee_L32 N a1 a2 n x3 x4 G tr = some (r9, G9, tr9) → zAt p l e (headSpec wsX5_knee { frames := 1, cells := 0, slots := 0, locals := 22 }).room s m ([.ref (ad 0), .int a1, .int a2] : List Value).toArray below meth c 5 D cs ad (zQI below ([.ref (ad 0), .int a1, .int a2] : List Value).toArray s D cs ad ((mE ki ad) G9 tr9) r9) 32 [(0, .ref (ad 0)), (1, .int a1), (2, .int a2), (3, .int x3), (4, .int x4)] [] ((mE ki ad) G tr) := by
    intro n
    induction n with
    | zero => intro x3 x4 G tr h; cases h
    | succ n ih => intro x3 x4 G tr h; exact b32 (fX5_knee_L32 N a1 a2 n) ih x3 x4 G tr h
  unfold fX5_knee at h
  obtain ⟨H, hH⟩ : ∃ H, H = s.heap := ⟨_, rfl⟩
  obtain ⟨locs, hlo⟩ : ∃ locs : List Loc, locs = [] := ⟨_, rfl⟩
  have X : gS D cs ad ((mE ki ad) G tr) (gA cs ad s.heap.size) s H locs := by rw [hH, hlo]; exact X
  suffices z : W p l e (headSpec wsX5_knee { frames := 1, cells := 0, slots := 0, locals := 22 }).room s m ([.ref (ad 0), .int a1, .int a2] : List Value).toArray below meth c H locs 0 0 (zQI below ([.ref (ad 0), .int a1, .int a2] : List Value).toArray s D cs ad ((mE ki ad) G9 tr9) r9) (F0 m 0 ls []) by rw [hH, hlo] at z; exact z
  clear hH hlo
  refine lv_aload_n S.1 S.2.1 dX5_knee_0 rfl (lv_at hl 0 rfl) ?_
  refine lv_iconst (v := (0 : Int32)) S.1 S.2.1 dX5_knee_1 (by decide) ?_
  refine zr_put (xv := (0 : Int32)) (v := .int (0 : Int32)) (fsf := (fsR ad tr)) (ty := .int) S K X (hcs 0 (by decide)) mE_loc (fun _ => mE_R) rfl uX5_knee_X5 tyX5 tyX5_ok nmX5 0 (by decide) kX5_knee_47 rfl (by decide +kernel) rfl rfl (by simp) rfl dX5_knee_2 (fun H locs X => ?_)
  refine lv_iload_n S.1 S.2.1 dX5_knee_5 rfl (lv_at hl 1 rfl) ?_
  refine lv_iconst (v := (1 : Int32)) S.1 S.2.1 dX5_knee_6 (by decide) ?_
  refine lv_bipush (v := (12 : Int32)) S.1 S.2.1 dX5_knee_7 (by decide) ?_
  obtain ⟨r_2, hf_1, h⟩ := zbp_some h
  refine zr_calli (Eg := (mE ki ad)) (G' := (up2 G 0 0 (0 : Int32))) (tr' := tr) K X (va_runS (As := [.int a1, .int (1 : Int32), .int (12 : Int32)]) (rest := []) S (mX5_in l D ki ad cs N a1 (1 : Int32) (12 : Int32) (mE ki ad) (up2 G 0 0 (0 : Int32)) tr H.size _ _ _ (zpu_of hf_1)) (va_cwS 3 S.2.2.2.2 gX5_knee_X5_in rfl rfl rfl (by decide +kernel) ⟨Nat.le_of_ble_eq_true rfl, Nat.le_of_ble_eq_true rfl⟩) (zr_pre K X) rfl rfl hl.1 rfl (lv_room (Nat.le_of_ble_eq_true rfl)) dX5_knee_9 ⟨Nat.zero_le _, Nat.zero_le _⟩) (fun H locs X => ?_)
  refine lv_if_eq (tgt := 25) S.1 S.2.1 dX5_knee_12 (by decide) (fun hc_3 => ?_) (fun hc_3 => ?_)
  · have h := zif_pos hc_3 h
    refine lv_iconst (v := (-1 : Int32)) S.1 S.2.1 dX5_knee_25 (by decide) ?_
    exact zr_iret S hr hlk X h dX5_knee_26
  · have h := zif_neg hc_3 h
    refine lv_iload_n S.1 S.2.1 dX5_knee_15 rfl (lv_at hl 2 rfl) ?_
    refine lv_iconst (v := (1 : Int32)) S.1 S.2.1 dX5_knee_16 (by decide) ?_
    refine lv_bipush (v := (12 : Int32)) S.1 S.2.1 dX5_knee_17 (by decide) ?_
    obtain ⟨r_5, hf_4, h⟩ := zbp_some h
    refine zr_calli (Eg := (mE ki ad)) (G' := (up2 G 0 0 (0 : Int32))) (tr' := tr) K X (va_runS (As := [.int a2, .int (1 : Int32), .int (12 : Int32)]) (rest := []) S (mX5_in l D ki ad cs N a2 (1 : Int32) (12 : Int32) (mE ki ad) (up2 G 0 0 (0 : Int32)) tr H.size _ _ _ (zpu_of hf_4)) (va_cwS 3 S.2.2.2.2 gX5_knee_X5_in rfl rfl rfl (by decide +kernel) ⟨Nat.le_of_ble_eq_true rfl, Nat.le_of_ble_eq_true rfl⟩) (zr_pre K X) rfl rfl hl.1 rfl (lv_room (Nat.le_of_ble_eq_true rfl)) dX5_knee_19 ⟨Nat.zero_le _, Nat.zero_le _⟩) (fun H locs X => ?_)
    refine lv_if_ne (tgt := 27) S.1 S.2.1 dX5_knee_22 (by decide) (fun hc_6 => ?_) (fun hc_6 => ?_)
    · have h := zif_neg hc_6 h
      refine lv_iconst (v := (0 : Int32)) S.1 S.2.1 dX5_knee_27 (by decide) ?_
      refine lv_istore_n (lv' := [(3, .int (0 : Int32)), (0, .ref (ad 0)), (1, .int a1), (2, .int a2)]) S.1 S.2.1 dX5_knee_28 rfl hl (by decide) rfl (fun ls hl => ?_)
      refine lv_iconst (v := (0 : Int32)) S.1 S.2.1 dX5_knee_29 (by decide) ?_
      refine lv_istore (lv' := [(4, .int (0 : Int32)), (3, .int (0 : Int32)), (0, .ref (ad 0)), (1, .int a1), (2, .int a2)]) S.1 S.2.1 dX5_knee_30 hl (by decide) rfl (fun ls hl => ?_)
      exact L32 N (0 : Int32) (0 : Int32) (up2 G 0 0 (0 : Int32)) tr h _ _ _ X (lv_sub hl [2, 3, 4, 1, 0] rfl)
    · have h := zif_pos hc_6 h
      refine lv_iconst (v := (-1 : Int32)) S.1 S.2.1 dX5_knee_25 (by decide) ?_
      exact zr_iret S hr hlk X h dX5_knee_26
set_option maxRecDepth 20000 in
theorem ggX5_drift_X5_in : GoodIn wsX5_drift wsX5_in := goodIn_r _ [8] (by decide +kernel) (by decide +kernel)
set_option maxRecDepth 20000 in
theorem gX5_drift_X5_in : GoodIn wsX5_drift (va_wsS RX5 51 yX5_in wsX5_in) := goodIn_app (goodIn_of _ (by decide +kernel)) ggX5_drift_X5_in
theorem dX5_drift_0 : decode cX5_drift 0 = .ok (.aload_n 0, 1) := by decide +kernel
theorem dX5_drift_1 : decode cX5_drift 1 = .ok (.iconst 0, 1) := by decide +kernel
theorem dX5_drift_2 : decode cX5_drift 2 = .ok (.putfield 47, 3) := by decide +kernel
theorem dX5_drift_5 : decode cX5_drift 5 = .ok (.iload_n 1, 1) := by decide +kernel
theorem dX5_drift_6 : decode cX5_drift 6 = .ok (.iconst 1, 1) := by decide +kernel
theorem dX5_drift_7 : decode cX5_drift 7 = .ok (.iconst 5, 1) := by decide +kernel
theorem dX5_drift_8 : decode cX5_drift 8 = .ok (.invokestatic 51, 3) := by decide +kernel
theorem dX5_drift_11 : decode cX5_drift 11 = .ok (.ifCond .eq 12, 3) := by decide +kernel
theorem dX5_drift_14 : decode cX5_drift 14 = .ok (.iload_n 2, 1) := by decide +kernel
theorem dX5_drift_15 : decode cX5_drift 15 = .ok (.iconst 0, 1) := by decide +kernel
theorem dX5_drift_16 : decode cX5_drift 16 = .ok (.iconst 1, 1) := by decide +kernel
theorem dX5_drift_17 : decode cX5_drift 17 = .ok (.invokestatic 51, 3) := by decide +kernel
theorem dX5_drift_20 : decode cX5_drift 20 = .ok (.ifCond .ne 6, 3) := by decide +kernel
theorem dX5_drift_23 : decode cX5_drift 23 = .ok (.ldc 171, 2) := by decide +kernel
theorem dX5_drift_25 : decode cX5_drift 25 = .ok (.ireturn, 1) := by decide +kernel
theorem dX5_drift_26 : decode cX5_drift 26 = .ok (.aload_n 0, 1) := by decide +kernel
theorem dX5_drift_27 : decode cX5_drift 27 = .ok (.getfield 13, 3) := by decide +kernel
theorem dX5_drift_30 : decode cX5_drift 30 = .ok (.iconst 5, 1) := by decide +kernel
theorem dX5_drift_31 : decode cX5_drift 31 = .ok (.iaload, 1) := by decide +kernel
theorem dX5_drift_32 : decode cX5_drift 32 = .ok (.iload_n 1, 1) := by decide +kernel
theorem dX5_drift_33 : decode cX5_drift 33 = .ok (.if_icmp .le 14, 3) := by decide +kernel
theorem dX5_drift_36 : decode cX5_drift 36 = .ok (.aload_n 0, 1) := by decide +kernel
theorem dX5_drift_37 : decode cX5_drift 37 = .ok (.getfield 13, 3) := by decide +kernel
theorem dX5_drift_40 : decode cX5_drift 40 = .ok (.iconst 5, 1) := by decide +kernel
theorem dX5_drift_41 : decode cX5_drift 41 = .ok (.iaload, 1) := by decide +kernel
theorem dX5_drift_42 : decode cX5_drift 42 = .ok (.iload_n 1, 1) := by decide +kernel
theorem dX5_drift_43 : decode cX5_drift 43 = .ok (.isub, 1) := by decide +kernel
theorem dX5_drift_44 : decode cX5_drift 44 = .ok (.goto 4, 3) := by decide +kernel
theorem dX5_drift_47 : decode cX5_drift 47 = .ok (.iconst 0, 1) := by decide +kernel
theorem dX5_drift_48 : decode cX5_drift 48 = .ok (.istore_n 3, 1) := by decide +kernel
theorem dX5_drift_49 : decode cX5_drift 49 = .ok (.iconst 0, 1) := by decide +kernel
theorem dX5_drift_50 : decode cX5_drift 50 = .ok (.istore 4, 2) := by decide +kernel
theorem dX5_drift_52 : decode cX5_drift 52 = .ok (.iconst 0, 1) := by decide +kernel
theorem dX5_drift_53 : decode cX5_drift 53 = .ok (.istore 5, 2) := by decide +kernel
theorem dX5_drift_55 : decode cX5_drift 55 = .ok (.iload 5, 2) := by decide +kernel
theorem dX5_drift_57 : decode cX5_drift 57 = .ok (.aload_n 0, 1) := by decide +kernel
theorem dX5_drift_58 : decode cX5_drift 58 = .ok (.getfield 13, 3) := by decide +kernel
theorem dX5_drift_61 : decode cX5_drift 61 = .ok (.iconst 4, 1) := by decide +kernel
theorem dX5_drift_62 : decode cX5_drift 62 = .ok (.iaload, 1) := by decide +kernel
theorem dX5_drift_63 : decode cX5_drift 63 = .ok (.if_icmp .ge 63, 3) := by decide +kernel
theorem dX5_drift_66 : decode cX5_drift 66 = .ok (.aload_n 0, 1) := by decide +kernel
theorem dX5_drift_67 : decode cX5_drift 67 = .ok (.getfield 25, 3) := by decide +kernel
theorem dX5_drift_70 : decode cX5_drift 70 = .ok (.iconst 3, 1) := by decide +kernel
theorem dX5_drift_71 : decode cX5_drift 71 = .ok (.iload 5, 2) := by decide +kernel
theorem dX5_drift_73 : decode cX5_drift 73 = .ok (.iadd, 1) := by decide +kernel
theorem dX5_drift_74 : decode cX5_drift 74 = .ok (.iaload, 1) := by decide +kernel
theorem dX5_drift_75 : decode cX5_drift 75 = .ok (.istore 6, 2) := by decide +kernel
theorem dX5_drift_77 : decode cX5_drift 77 = .ok (.iload 4, 2) := by decide +kernel
theorem dX5_drift_79 : decode cX5_drift 79 = .ok (.iload 6, 2) := by decide +kernel
theorem dX5_drift_81 : decode cX5_drift 81 = .ok (.iload_n 2, 1) := by decide +kernel
theorem dX5_drift_82 : decode cX5_drift 82 = .ok (.ifCond .ne 7, 3) := by decide +kernel
theorem dX5_drift_85 : decode cX5_drift 85 = .ok (.iconst 1, 1) := by decide +kernel
theorem dX5_drift_86 : decode cX5_drift 86 = .ok (.goto 4, 3) := by decide +kernel
theorem dX5_drift_89 : decode cX5_drift 89 = .ok (.iconst 2, 1) := by decide +kernel
theorem dX5_drift_90 : decode cX5_drift 90 = .ok (.if_icmp .ne 7, 3) := by decide +kernel
theorem dX5_drift_93 : decode cX5_drift 93 = .ok (.iload_n 3, 1) := by decide +kernel
theorem dX5_drift_94 : decode cX5_drift 94 = .ok (.goto 23, 3) := by decide +kernel
theorem dX5_drift_97 : decode cX5_drift 97 = .ok (.iload 6, 2) := by decide +kernel
theorem dX5_drift_99 : decode cX5_drift 99 = .ok (.iload_n 2, 1) := by decide +kernel
theorem dX5_drift_100 : decode cX5_drift 100 = .ok (.ifCond .ne 7, 3) := by decide +kernel
theorem dX5_drift_103 : decode cX5_drift 103 = .ok (.iconst 3, 1) := by decide +kernel
theorem dX5_drift_104 : decode cX5_drift 104 = .ok (.goto 4, 3) := by decide +kernel
theorem dX5_drift_107 : decode cX5_drift 107 = .ok (.iconst 0, 1) := by decide +kernel
theorem dX5_drift_108 : decode cX5_drift 108 = .ok (.if_icmp .ne 8, 3) := by decide +kernel
theorem dX5_drift_111 : decode cX5_drift 111 = .ok (.iload_n 3, 1) := by decide +kernel
theorem dX5_drift_112 : decode cX5_drift 112 = .ok (.ineg, 1) := by decide +kernel
theorem dX5_drift_113 : decode cX5_drift 113 = .ok (.goto 4, 3) := by decide +kernel
theorem dX5_drift_116 : decode cX5_drift 116 = .ok (.iconst 0, 1) := by decide +kernel
theorem dX5_drift_117 : decode cX5_drift 117 = .ok (.iadd, 1) := by decide +kernel
theorem dX5_drift_118 : decode cX5_drift 118 = .ok (.istore 4, 2) := by decide +kernel
theorem dX5_drift_120 : decode cX5_drift 120 = .ok (.iinc 5 1, 3) := by decide +kernel
theorem dX5_drift_123 : decode cX5_drift 123 = .ok (.goto (-68), 3) := by decide +kernel
theorem dX5_drift_126 : decode cX5_drift 126 = .ok (.iload 4, 2) := by decide +kernel
theorem dX5_drift_128 : decode cX5_drift 128 = .ok (.ireturn, 1) := by decide +kernel
set_option maxRecDepth 20000 in
theorem kX5_drift_13 : Cond.fieldLink RX5 13 "WindPostModel" "many" "[I" ∈ wsX5_drift := by decide +kernel
set_option maxRecDepth 20000 in
theorem kX5_drift_25 : Cond.fieldLink RX5 25 "WindPostModel" "s" "[I" ∈ wsX5_drift := by decide +kernel
set_option maxRecDepth 20000 in
theorem kX5_drift_47 : Cond.fieldLink RX5 47 "WindPostModel" "thrown" "I" ∈ wsX5_drift := by decide +kernel
set_option maxRecDepth 20000 in
theorem uX5_drift_X5 : ∀ w ∈ wsX50, w ∈ wsX5_drift := by decide +kernel
set_option maxRecDepth 20000 in
theorem qX5_drift_171 : Cond.constant RX5 171 (-1000000) ∈ wsX5_drift := by decide +kernel
set_option maxHeartbeats 8000000 in
set_option maxRecDepth 100000 in
theorem mX5_drift (l : Launch) (D : va_G) (ki : Nat → ClassId) (ad : Nat → Nat) (cs : List Nat) (hcs : kR cs) (N : Nat) (a1 : Int32) (a2 : Int32) (G : zMem) (tr : Int64) : gMetI l D ki ad cs yX5_drift wsX5_drift { frames := 1, cells := 0, slots := 0, locals := 22 } [.ref (ad 0), .int a1, .int a2] (mE ki ad) G tr (fX5_drift N a1 a2 G tr) := by
  refine gMetI_of (cc := cX5_drift) (maxL := 7) (ret := (some .int)) (own := RX5) (by decide +kernel) rfl rfl (Nat.le_of_ble_eq_true rfl) ?_
  intro r9 G9 tr9 h p e s m below meth c S hr hlk K X ls hl
  have hl : lv_has ls 7 [(0, .ref (ad 0)), (1, .int a1), (2, .int a2)] := hl
  have b117 : ∀ (k55 : Int32 → Int32 → Int32 → zMem → Int64 → zR) (hk55 : ∀ (x3 : Int32) (x4 : Int32) (x5 : Int32) (G : zMem) (tr : Int64), k55 x3 x4 x5 G tr = some (r9, G9, tr9) → zAt p l e (headSpec wsX5_drift { frames := 1, cells := 0, slots := 0, locals := 22 }).room s m ([.ref (ad 0), .int a1, .int a2] : List Value).toArray below meth c 7 D cs ad (zQI below ([.ref (ad 0), .int a1, .int a2] : List Value).toArray s D cs ad ((mE ki ad) G9 tr9) r9) 55 [(0, .ref (ad 0)), (2, .int a2), (3, .int x3), (4, .int x4), (5, .int x5)] [] ((mE ki ad) G tr)) (x3 : Int32) (x5 : Int32) (s0 : Int32) (s1 : Int32) (G : zMem) (tr : Int64), fX5_drift_b117 N a1 a2 k55 x3 x5 s0 s1 G tr = some (r9, G9, tr9) → zAt p l e (headSpec wsX5_drift { frames := 1, cells := 0, slots := 0, locals := 22 }).room s m ([.ref (ad 0), .int a1, .int a2] : List Value).toArray below meth c 7 D cs ad (zQI below ([.ref (ad 0), .int a1, .int a2] : List Value).toArray s D cs ad ((mE ki ad) G9 tr9) r9) 117 [(0, .ref (ad 0)), (2, .int a2), (3, .int x3), (5, .int x5)] [.int s0, .int s1] ((mE ki ad) G tr) := by
    intro k55 hk55 x3 x5 s0 s1 G tr h H locs ls X hl
    unfold fX5_drift_b117 at h
    refine lv_iadd S.1 S.2.1 dX5_drift_117 ?_
    refine lv_istore (lv' := [(4, .int (s1 + s0)), (0, .ref (ad 0)), (2, .int a2), (3, .int x3), (5, .int x5)]) S.1 S.2.1 dX5_drift_118 hl (by decide) rfl (fun ls hl => ?_)
    refine lv_iinc (v := (x5 + 1)) (lv' := [(5, .int (x5 + 1)), (4, .int (s1 + s0)), (0, .ref (ad 0)), (2, .int a2), (3, .int x3)]) S.1 S.2.1 dX5_drift_120 hl (k := 4) rfl rfl (by decide) rfl (fun ls hl => ?_)
    refine lv_goto (tgt := 55) S.1 S.2.1 dX5_drift_123 (by decide) ?_
    exact hk55 x3 (s1 + s0) (x5 + 1) G tr h _ _ _ X (lv_sub hl [2, 3, 4, 1, 0] rfl)
  have b108 : ∀ (k55 : Int32 → Int32 → Int32 → zMem → Int64 → zR) (hk55 : ∀ (x3 : Int32) (x4 : Int32) (x5 : Int32) (G : zMem) (tr : Int64), k55 x3 x4 x5 G tr = some (r9, G9, tr9) → zAt p l e (headSpec wsX5_drift { frames := 1, cells := 0, slots := 0, locals := 22 }).room s m ([.ref (ad 0), .int a1, .int a2] : List Value).toArray below meth c 7 D cs ad (zQI below ([.ref (ad 0), .int a1, .int a2] : List Value).toArray s D cs ad ((mE ki ad) G9 tr9) r9) 55 [(0, .ref (ad 0)), (2, .int a2), (3, .int x3), (4, .int x4), (5, .int x5)] [] ((mE ki ad) G tr)) (x3 : Int32) (x5 : Int32) (s0 : Int32) (s1 : Int32) (s2 : Int32) (G : zMem) (tr : Int64), fX5_drift_b108 N a1 a2 k55 x3 x5 s0 s1 s2 G tr = some (r9, G9, tr9) → zAt p l e (headSpec wsX5_drift { frames := 1, cells := 0, slots := 0, locals := 22 }).room s m ([.ref (ad 0), .int a1, .int a2] : List Value).toArray below meth c 7 D cs ad (zQI below ([.ref (ad 0), .int a1, .int a2] : List Value).toArray s D cs ad ((mE ki ad) G9 tr9) r9) 108 [(0, .ref (ad 0)), (2, .int a2), (3, .int x3), (5, .int x5)] [.int s0, .int s1, .int s2] ((mE ki ad) G tr) := by
    intro k55 hk55 x3 x5 s0 s1 s2 G tr h H locs ls X hl
    unfold fX5_drift_b108 at h
    refine lv_icmp_ne (tgt := 116) S.1 S.2.1 dX5_drift_108 (by decide) (fun hc_1 => ?_) (fun hc_1 => ?_)
    · have h := zif_neg hc_1 h
      refine lv_iconst (v := (0 : Int32)) S.1 S.2.1 dX5_drift_116 (by decide) ?_
      exact b117 k55 hk55 x3 x5 (0 : Int32) s2 G tr h _ _ _ X (lv_sub hl [0, 1, 2, 3] rfl)
    · have h := zif_pos hc_1 h
      refine lv_iload_n S.1 S.2.1 dX5_drift_111 rfl (lv_at hl 2 rfl) ?_
      refine lv_ineg S.1 S.2.1 dX5_drift_112 ?_
      refine lv_goto (tgt := 117) S.1 S.2.1 dX5_drift_113 (by decide) ?_
      exact b117 k55 hk55 x3 x5 (-x3) s2 G tr h _ _ _ X (lv_sub hl [0, 1, 2, 3] rfl)
  have b90 : ∀ (k55 : Int32 → Int32 → Int32 → zMem → Int64 → zR) (hk55 : ∀ (x3 : Int32) (x4 : Int32) (x5 : Int32) (G : zMem) (tr : Int64), k55 x3 x4 x5 G tr = some (r9, G9, tr9) → zAt p l e (headSpec wsX5_drift { frames := 1, cells := 0, slots := 0, locals := 22 }).room s m ([.ref (ad 0), .int a1, .int a2] : List Value).toArray below meth c 7 D cs ad (zQI below ([.ref (ad 0), .int a1, .int a2] : List Value).toArray s D cs ad ((mE ki ad) G9 tr9) r9) 55 [(0, .ref (ad 0)), (2, .int a2), (3, .int x3), (4, .int x4), (5, .int x5)] [] ((mE ki ad) G tr)) (x3 : Int32) (x5 : Int32) (x6 : Int32) (s0 : Int32) (s1 : Int32) (s2 : Int32) (G : zMem) (tr : Int64), fX5_drift_b90 N a1 a2 k55 x3 x5 x6 s0 s1 s2 G tr = some (r9, G9, tr9) → zAt p l e (headSpec wsX5_drift { frames := 1, cells := 0, slots := 0, locals := 22 }).room s m ([.ref (ad 0), .int a1, .int a2] : List Value).toArray below meth c 7 D cs ad (zQI below ([.ref (ad 0), .int a1, .int a2] : List Value).toArray s D cs ad ((mE ki ad) G9 tr9) r9) 90 [(0, .ref (ad 0)), (2, .int a2), (3, .int x3), (5, .int x5), (6, .int x6)] [.int s0, .int s1, .int s2] ((mE ki ad) G tr) := by
    intro k55 hk55 x3 x5 x6 s0 s1 s2 G tr h H locs ls X hl
    unfold fX5_drift_b90 at h
    refine lv_icmp_ne (tgt := 97) S.1 S.2.1 dX5_drift_90 (by decide) (fun hc_1 => ?_) (fun hc_1 => ?_)
    · have h := zif_neg hc_1 h
      refine lv_iload S.1 S.2.1 dX5_drift_97 (lv_at hl 4 rfl) ?_
      refine lv_iload_n S.1 S.2.1 dX5_drift_99 rfl (lv_at hl 1 rfl) ?_
      refine lv_if_ne (tgt := 107) S.1 S.2.1 dX5_drift_100 (by decide) (fun hc_2 => ?_) (fun hc_2 => ?_)
      · have h := zif_neg hc_2 h
        refine lv_iconst (v := (0 : Int32)) S.1 S.2.1 dX5_drift_107 (by decide) ?_
        exact b108 k55 hk55 x3 x5 (0 : Int32) x6 s2 G tr h _ _ _ X (lv_sub hl [0, 1, 2, 3] rfl)
      · have h := zif_pos hc_2 h
        refine lv_iconst (v := (3 : Int32)) S.1 S.2.1 dX5_drift_103 (by decide) ?_
        refine lv_goto (tgt := 108) S.1 S.2.1 dX5_drift_104 (by decide) ?_
        exact b108 k55 hk55 x3 x5 (3 : Int32) x6 s2 G tr h _ _ _ X (lv_sub hl [0, 1, 2, 3] rfl)
    · have h := zif_pos hc_1 h
      refine lv_iload_n S.1 S.2.1 dX5_drift_93 rfl (lv_at hl 2 rfl) ?_
      refine lv_goto (tgt := 117) S.1 S.2.1 dX5_drift_94 (by decide) ?_
      exact b117 k55 hk55 x3 x5 x3 s2 G tr h _ _ _ X (lv_sub hl [0, 1, 2, 3] rfl)
  have b55 : ∀ (k55 : Int32 → Int32 → Int32 → zMem → Int64 → zR) (hk55 : ∀ (x3 : Int32) (x4 : Int32) (x5 : Int32) (G : zMem) (tr : Int64), k55 x3 x4 x5 G tr = some (r9, G9, tr9) → zAt p l e (headSpec wsX5_drift { frames := 1, cells := 0, slots := 0, locals := 22 }).room s m ([.ref (ad 0), .int a1, .int a2] : List Value).toArray below meth c 7 D cs ad (zQI below ([.ref (ad 0), .int a1, .int a2] : List Value).toArray s D cs ad ((mE ki ad) G9 tr9) r9) 55 [(0, .ref (ad 0)), (2, .int a2), (3, .int x3), (4, .int x4), (5, .int x5)] [] ((mE ki ad) G tr)) (x3 : Int32) (x4 : Int32) (x5 : Int32) (G : zMem) (tr : Int64), fX5_drift_b55 N a1 a2 k55 x3 x4 x5 G tr = some (r9, G9, tr9) → zAt p l e (headSpec wsX5_drift { frames := 1, cells := 0, slots := 0, locals := 22 }).room s m ([.ref (ad 0), .int a1, .int a2] : List Value).toArray below meth c 7 D cs ad (zQI below ([.ref (ad 0), .int a1, .int a2] : List Value).toArray s D cs ad ((mE ki ad) G9 tr9) r9) 55 [(0, .ref (ad 0)), (2, .int a2), (3, .int x3), (4, .int x4), (5, .int x5)] [] ((mE ki ad) G tr) := by
    intro k55 hk55 x3 x4 x5 G tr h H locs ls X hl
    unfold fX5_drift_b55 at h
    refine lv_iload S.1 S.2.1 dX5_drift_55 (lv_at hl 4 rfl) ?_
    refine lv_aload_n S.1 S.2.1 dX5_drift_57 rfl (lv_at hl 0 rfl) ?_
    refine zr_get (v := .ref (ad 2)) S K X (hcs 0 (by decide)) mE_R rfl uX5_drift_X5 9 (by decide) kX5_drift_13 rfl rfl dX5_drift_58 ?_
    refine lv_iconst (v := (4 : Int32)) S.1 S.2.1 dX5_drift_61 (by decide) ?_
    obtain ⟨hi_1, h⟩ := zin_some h
    refine zr_iald S K X (hcs 2 (by decide)) mE_2 hi_1 dX5_drift_62 ?_
    refine lv_icmp_ge (tgt := 126) S.1 S.2.1 dX5_drift_63 (by decide) (fun hc_2 => ?_) (fun hc_2 => ?_)
    · have h := zif_pos hc_2 h
      refine lv_iload S.1 S.2.1 dX5_drift_126 (lv_at hl 3 rfl) ?_
      exact zr_iret S hr hlk X h dX5_drift_128
    · have h := zif_neg hc_2 h
      refine lv_aload_n S.1 S.2.1 dX5_drift_66 rfl (lv_at hl 0 rfl) ?_
      refine zr_get (v := .ref (ad 6)) S K X (hcs 0 (by decide)) mE_R rfl uX5_drift_X5 14 (by decide) kX5_drift_25 rfl rfl dX5_drift_67 ?_
      refine lv_iconst (v := (3 : Int32)) S.1 S.2.1 dX5_drift_70 (by decide) ?_
      refine lv_iload S.1 S.2.1 dX5_drift_71 (lv_at hl 4 rfl) ?_
      refine lv_iadd S.1 S.2.1 dX5_drift_73 ?_
      obtain ⟨hi_3, h⟩ := zin_some h
      refine zr_iald S K X (hcs 6 (by decide)) mE_6 hi_3 dX5_drift_74 ?_
      refine lv_istore (lv' := [(6, .int (G 6 (Int32.toNatClampNeg ((3 : Int32) + x5)))), (0, .ref (ad 0)), (2, .int a2), (3, .int x3), (4, .int x4), (5, .int x5)]) S.1 S.2.1 dX5_drift_75 hl (by decide) rfl (fun ls hl => ?_)
      refine lv_iload S.1 S.2.1 dX5_drift_77 (lv_at hl 4 rfl) ?_
      refine lv_iload S.1 S.2.1 dX5_drift_79 (lv_at hl 0 rfl) ?_
      refine lv_iload_n S.1 S.2.1 dX5_drift_81 rfl (lv_at hl 2 rfl) ?_
      refine lv_if_ne (tgt := 89) S.1 S.2.1 dX5_drift_82 (by decide) (fun hc_4 => ?_) (fun hc_4 => ?_)
      · have h := zif_neg hc_4 h
        refine lv_iconst (v := (2 : Int32)) S.1 S.2.1 dX5_drift_89 (by decide) ?_
        exact b90 k55 hk55 x3 x5 (G 6 (Int32.toNatClampNeg ((3 : Int32) + x5))) (2 : Int32) (G 6 (Int32.toNatClampNeg ((3 : Int32) + x5))) x4 G tr h _ _ _ X (lv_sub hl [1, 2, 3, 5, 0] rfl)
      · have h := zif_pos hc_4 h
        refine lv_iconst (v := (1 : Int32)) S.1 S.2.1 dX5_drift_85 (by decide) ?_
        refine lv_goto (tgt := 90) S.1 S.2.1 dX5_drift_86 (by decide) ?_
        exact b90 k55 hk55 x3 x5 (G 6 (Int32.toNatClampNeg ((3 : Int32) + x5))) (1 : Int32) (G 6 (Int32.toNatClampNeg ((3 : Int32) + x5))) x4 G tr h _ _ _ X (lv_sub hl [1, 2, 3, 5, 0] rfl)
  have L55 : ∀ (n : Nat) (x3 : Int32) (x4 : Int32) (x5 : Int32) (G : zMem) (tr : Int64), fX5_drift_L55 N a1 a2 n x3 x4 x5 G tr = some (r9, G9, tr9) → zAt p l e (headSpec wsX5_drift { frames := 1, cells := 0, slots := 0, locals := 22 }).room s m ([.ref (ad 0), .int a1, .int a2] : List Value).toArray below meth c 7 D cs ad (zQI below ([.ref (ad 0), .int a1, .int a2] : List Value).toArray s D cs ad ((mE ki ad) G9 tr9) r9) 55 [(0, .ref (ad 0)), (2, .int a2), (3, .int x3), (4, .int x4), (5, .int x5)] [] ((mE ki ad) G tr) := by
    intro n
    induction n with
    | zero => intro x3 x4 x5 G tr h; cases h
    | succ n ih => intro x3 x4 x5 G tr h; exact b55 (fX5_drift_L55 N a1 a2 n) ih x3 x4 x5 G tr h
  have b48 : ∀ (s0 : Int32) (G : zMem) (tr : Int64), fX5_drift_b48 N a1 a2 s0 G tr = some (r9, G9, tr9) → zAt p l e (headSpec wsX5_drift { frames := 1, cells := 0, slots := 0, locals := 22 }).room s m ([.ref (ad 0), .int a1, .int a2] : List Value).toArray below meth c 7 D cs ad (zQI below ([.ref (ad 0), .int a1, .int a2] : List Value).toArray s D cs ad ((mE ki ad) G9 tr9) r9) 48 [(0, .ref (ad 0)), (2, .int a2)] [.int s0] ((mE ki ad) G tr) := by
    intro s0 G tr h H locs ls X hl
    unfold fX5_drift_b48 at h
    refine lv_istore_n (lv' := [(3, .int s0), (0, .ref (ad 0)), (2, .int a2)]) S.1 S.2.1 dX5_drift_48 rfl hl (by decide) rfl (fun ls hl => ?_)
    refine lv_iconst (v := (0 : Int32)) S.1 S.2.1 dX5_drift_49 (by decide) ?_
    refine lv_istore (lv' := [(4, .int (0 : Int32)), (3, .int s0), (0, .ref (ad 0)), (2, .int a2)]) S.1 S.2.1 dX5_drift_50 hl (by decide) rfl (fun ls hl => ?_)
    refine lv_iconst (v := (0 : Int32)) S.1 S.2.1 dX5_drift_52 (by decide) ?_
    refine lv_istore (lv' := [(5, .int (0 : Int32)), (4, .int (0 : Int32)), (3, .int s0), (0, .ref (ad 0)), (2, .int a2)]) S.1 S.2.1 dX5_drift_53 hl (by decide) rfl (fun ls hl => ?_)
    exact L55 N s0 (0 : Int32) (0 : Int32) G tr h _ _ _ X (lv_sub hl [3, 4, 2, 1, 0] rfl)
  unfold fX5_drift at h
  obtain ⟨H, hH⟩ : ∃ H, H = s.heap := ⟨_, rfl⟩
  obtain ⟨locs, hlo⟩ : ∃ locs : List Loc, locs = [] := ⟨_, rfl⟩
  have X : gS D cs ad ((mE ki ad) G tr) (gA cs ad s.heap.size) s H locs := by rw [hH, hlo]; exact X
  suffices z : W p l e (headSpec wsX5_drift { frames := 1, cells := 0, slots := 0, locals := 22 }).room s m ([.ref (ad 0), .int a1, .int a2] : List Value).toArray below meth c H locs 0 0 (zQI below ([.ref (ad 0), .int a1, .int a2] : List Value).toArray s D cs ad ((mE ki ad) G9 tr9) r9) (F0 m 0 ls []) by rw [hH, hlo] at z; exact z
  clear hH hlo
  refine lv_aload_n S.1 S.2.1 dX5_drift_0 rfl (lv_at hl 0 rfl) ?_
  refine lv_iconst (v := (0 : Int32)) S.1 S.2.1 dX5_drift_1 (by decide) ?_
  refine zr_put (xv := (0 : Int32)) (v := .int (0 : Int32)) (fsf := (fsR ad tr)) (ty := .int) S K X (hcs 0 (by decide)) mE_loc (fun _ => mE_R) rfl uX5_drift_X5 tyX5 tyX5_ok nmX5 0 (by decide) kX5_drift_47 rfl (by decide +kernel) rfl rfl (by simp) rfl dX5_drift_2 (fun H locs X => ?_)
  refine lv_iload_n S.1 S.2.1 dX5_drift_5 rfl (lv_at hl 1 rfl) ?_
  refine lv_iconst (v := (1 : Int32)) S.1 S.2.1 dX5_drift_6 (by decide) ?_
  refine lv_iconst (v := (5 : Int32)) S.1 S.2.1 dX5_drift_7 (by decide) ?_
  obtain ⟨r_2, hf_1, h⟩ := zbp_some h
  refine zr_calli (Eg := (mE ki ad)) (G' := (up2 G 0 0 (0 : Int32))) (tr' := tr) K X (va_runS (As := [.int a1, .int (1 : Int32), .int (5 : Int32)]) (rest := []) S (mX5_in l D ki ad cs N a1 (1 : Int32) (5 : Int32) (mE ki ad) (up2 G 0 0 (0 : Int32)) tr H.size _ _ _ (zpu_of hf_1)) (va_cwS 3 S.2.2.2.2 gX5_drift_X5_in rfl rfl rfl (by decide +kernel) ⟨Nat.le_of_ble_eq_true rfl, Nat.le_of_ble_eq_true rfl⟩) (zr_pre K X) rfl rfl hl.1 rfl (lv_room (Nat.le_of_ble_eq_true rfl)) dX5_drift_8 ⟨Nat.zero_le _, Nat.zero_le _⟩) (fun H locs X => ?_)
  refine lv_if_eq (tgt := 23) S.1 S.2.1 dX5_drift_11 (by decide) (fun hc_3 => ?_) (fun hc_3 => ?_)
  · have h := zif_pos hc_3 h
    refine lv_ldc (own := RX5) (v := (-1000000 : Int32)) S.1 S.2.1 S.2.2.2.1 (S.2.2.2.2 _ qX5_drift_171) dX5_drift_23 ?_
    exact zr_iret S hr hlk X h dX5_drift_25
  · have h := zif_neg hc_3 h
    refine lv_iload_n S.1 S.2.1 dX5_drift_14 rfl (lv_at hl 2 rfl) ?_
    refine lv_iconst (v := (0 : Int32)) S.1 S.2.1 dX5_drift_15 (by decide) ?_
    refine lv_iconst (v := (1 : Int32)) S.1 S.2.1 dX5_drift_16 (by decide) ?_
    obtain ⟨r_5, hf_4, h⟩ := zbp_some h
    refine zr_calli (Eg := (mE ki ad)) (G' := (up2 G 0 0 (0 : Int32))) (tr' := tr) K X (va_runS (As := [.int a2, .int (0 : Int32), .int (1 : Int32)]) (rest := []) S (mX5_in l D ki ad cs N a2 (0 : Int32) (1 : Int32) (mE ki ad) (up2 G 0 0 (0 : Int32)) tr H.size _ _ _ (zpu_of hf_4)) (va_cwS 3 S.2.2.2.2 gX5_drift_X5_in rfl rfl rfl (by decide +kernel) ⟨Nat.le_of_ble_eq_true rfl, Nat.le_of_ble_eq_true rfl⟩) (zr_pre K X) rfl rfl hl.1 rfl (lv_room (Nat.le_of_ble_eq_true rfl)) dX5_drift_17 ⟨Nat.zero_le _, Nat.zero_le _⟩) (fun H locs X => ?_)
    refine lv_if_ne (tgt := 26) S.1 S.2.1 dX5_drift_20 (by decide) (fun hc_6 => ?_) (fun hc_6 => ?_)
    · have h := zif_neg hc_6 h
      refine lv_aload_n S.1 S.2.1 dX5_drift_26 rfl (lv_at hl 0 rfl) ?_
      refine zr_get (v := .ref (ad 2)) S K X (hcs 0 (by decide)) mE_R rfl uX5_drift_X5 9 (by decide) kX5_drift_13 rfl rfl dX5_drift_27 ?_
      refine lv_iconst (v := (5 : Int32)) S.1 S.2.1 dX5_drift_30 (by decide) ?_
      obtain ⟨hi_7, h⟩ := zin_some h
      refine zr_iald S K X (hcs 2 (by decide)) mE_2 hi_7 dX5_drift_31 ?_
      refine lv_iload_n S.1 S.2.1 dX5_drift_32 rfl (lv_at hl 1 rfl) ?_
      refine lv_icmp_le (tgt := 47) S.1 S.2.1 dX5_drift_33 (by decide) (fun hc_8 => ?_) (fun hc_8 => ?_)
      · have h := zif_pos hc_8 h
        refine lv_iconst (v := (0 : Int32)) S.1 S.2.1 dX5_drift_47 (by decide) ?_
        exact b48 (0 : Int32) (up2 G 0 0 (0 : Int32)) tr h _ _ _ X (lv_sub hl [0, 2] rfl)
      · have h := zif_neg hc_8 h
        refine lv_aload_n S.1 S.2.1 dX5_drift_36 rfl (lv_at hl 0 rfl) ?_
        refine zr_get (v := .ref (ad 2)) S K X (hcs 0 (by decide)) mE_R rfl uX5_drift_X5 9 (by decide) kX5_drift_13 rfl rfl dX5_drift_37 ?_
        refine lv_iconst (v := (5 : Int32)) S.1 S.2.1 dX5_drift_40 (by decide) ?_
        obtain ⟨hi_9, h⟩ := zin_some h
        refine zr_iald S K X (hcs 2 (by decide)) mE_2 hi_9 dX5_drift_41 ?_
        refine lv_iload_n S.1 S.2.1 dX5_drift_42 rfl (lv_at hl 1 rfl) ?_
        refine lv_isub S.1 S.2.1 dX5_drift_43 ?_
        refine lv_goto (tgt := 48) S.1 S.2.1 dX5_drift_44 (by decide) ?_
        exact b48 (((up2 G 0 0 (0 : Int32)) 2 (Int32.toNatClampNeg (5 : Int32))) - a1) (up2 G 0 0 (0 : Int32)) tr h _ _ _ X (lv_sub hl [0, 2] rfl)
    · have h := zif_pos hc_6 h
      refine lv_ldc (own := RX5) (v := (-1000000 : Int32)) S.1 S.2.1 S.2.2.2.1 (S.2.2.2.2 _ qX5_drift_171) dX5_drift_23 ?_
      exact zr_iret S hr hlk X h dX5_drift_25
set_option maxRecDepth 20000 in
theorem ggX5_odds_X5_isLetter : GoodIn wsX5_odds wsX5_isLetter := goodIn_r _ [8, 3, 9, 10, 7, 11, 45, 46, 47, 48, 49, 50, 51, 52, 53, 54, 55, 56, 57, 58, 59, 60, 61, 62, 63, 64, 65, 66] (by decide +kernel) (by decide +kernel)
set_option maxRecDepth 20000 in
theorem gX5_odds_X5_isLetter : GoodIn wsX5_odds (wsV RX5 128 RX5 yX5_isLetter wsX5_isLetter) := goodIn_app (goodIn_of _ (by decide +kernel)) ggX5_odds_X5_isLetter
set_option maxRecDepth 20000 in
theorem ggX5_odds_X5_in : GoodIn wsX5_odds wsX5_in := goodIn_r _ [11] (by decide +kernel) (by decide +kernel)
set_option maxRecDepth 20000 in
theorem gX5_odds_X5_in : GoodIn wsX5_odds (va_wsS RX5 51 yX5_in wsX5_in) := goodIn_app (goodIn_of _ (by decide +kernel)) ggX5_odds_X5_in
set_option maxRecDepth 20000 in
theorem ggX5_odds_X5_takesLetter : GoodIn wsX5_odds wsX5_takesLetter := goodIn_r _ [15, 3, 45, 46, 47, 48, 49, 50, 51, 52, 53, 54, 55, 56, 57, 58, 59, 60, 61, 62, 63, 64, 65, 66] (by decide +kernel) (by decide +kernel)
set_option maxRecDepth 20000 in
theorem gX5_odds_X5_takesLetter : GoodIn wsX5_odds (wsV RX5 149 RX5 yX5_takesLetter wsX5_takesLetter) := goodIn_app (goodIn_of _ (by decide +kernel)) ggX5_odds_X5_takesLetter
set_option maxRecDepth 20000 in
theorem ggX5_odds_X5_windOf : GoodIn wsX5_odds wsX5_windOf := goodIn_r _ [19, 20, 3, 45, 46, 47, 48, 49, 50, 51, 52, 53, 54, 55, 56, 57, 58, 59, 60, 61, 62, 63, 64, 65, 66] (by decide +kernel) (by decide +kernel)
set_option maxRecDepth 20000 in
theorem gX5_odds_X5_windOf : GoodIn wsX5_odds (wsV RX5 125 RX5 yX5_windOf wsX5_windOf) := goodIn_app (goodIn_of _ (by decide +kernel)) ggX5_odds_X5_windOf
set_option maxRecDepth 20000 in
theorem ggX5_odds_X5_blows : GoodIn wsX5_odds wsX5_blows := goodIn_r _ [24, 20, 25, 26, 27, 7, 28, 29, 30, 31, 32, 33, 34, 35, 36, 37, 38, 45, 46, 47, 48, 49, 50, 51, 52, 53, 54, 55, 56, 57, 58, 59, 60, 61, 62, 63, 64, 65, 66] (by decide +kernel) (by decide +kernel)
set_option maxRecDepth 20000 in
theorem gX5_odds_X5_blows : GoodIn wsX5_odds (wsV RX5 145 RX5 yX5_blows wsX5_blows) := goodIn_app (goodIn_of _ (by decide +kernel)) ggX5_odds_X5_blows
set_option maxRecDepth 20000 in
theorem ggX5_odds_X5_power : GoodIn wsX5_odds wsX5_power := goodIn_r _ [41] (by decide +kernel) (by decide +kernel)
set_option maxRecDepth 20000 in
theorem gX5_odds_X5_power : GoodIn wsX5_odds (va_wsS RX5 172 yX5_power wsX5_power) := goodIn_app (goodIn_of _ (by decide +kernel)) ggX5_odds_X5_power
set_option maxRecDepth 20000 in
theorem ggX5_odds_X5_gcd : GoodIn wsX5_odds wsX5_gcd := goodIn_r _ [44] (by decide +kernel) (by decide +kernel)
set_option maxRecDepth 20000 in
theorem gX5_odds_X5_gcd : GoodIn wsX5_odds (va_wsS RX5 175 yX5_gcd wsX5_gcd) := goodIn_app (goodIn_of _ (by decide +kernel)) ggX5_odds_X5_gcd
theorem dX5_odds_0 : decode cX5_odds 0 = .ok (.aload_n 0, 1) := by decide +kernel
theorem dX5_odds_1 : decode cX5_odds 1 = .ok (.iconst 0, 1) := by decide +kernel
theorem dX5_odds_2 : decode cX5_odds 2 = .ok (.putfield 47, 3) := by decide +kernel
theorem dX5_odds_5 : decode cX5_odds 5 = .ok (.aload_n 0, 1) := by decide +kernel
theorem dX5_odds_6 : decode cX5_odds 6 = .ok (.iload_n 1, 1) := by decide +kernel
theorem dX5_odds_7 : decode cX5_odds 7 = .ok (.invokevirtual 128, 3) := by decide +kernel
theorem dX5_odds_10 : decode cX5_odds 10 = .ok (.ifCond .eq 33, 3) := by decide +kernel
theorem dX5_odds_13 : decode cX5_odds 13 = .ok (.iload_n 2, 1) := by decide +kernel
theorem dX5_odds_14 : decode cX5_odds 14 = .ok (.iconst 0, 1) := by decide +kernel
theorem dX5_odds_15 : decode cX5_odds 15 = .ok (.bipush 10, 2) := by decide +kernel
theorem dX5_odds_17 : decode cX5_odds 17 = .ok (.invokestatic 51, 3) := by decide +kernel
theorem dX5_odds_20 : decode cX5_odds 20 = .ok (.ifCond .eq 23, 3) := by decide +kernel
theorem dX5_odds_23 : decode cX5_odds 23 = .ok (.iload_n 3, 1) := by decide +kernel
theorem dX5_odds_24 : decode cX5_odds 24 = .ok (.iconst 0, 1) := by decide +kernel
theorem dX5_odds_25 : decode cX5_odds 25 = .ok (.bipush 6, 2) := by decide +kernel
theorem dX5_odds_27 : decode cX5_odds 27 = .ok (.invokestatic 51, 3) := by decide +kernel
theorem dX5_odds_30 : decode cX5_odds 30 = .ok (.ifCond .eq 13, 3) := by decide +kernel
theorem dX5_odds_33 : decode cX5_odds 33 = .ok (.iload 4, 2) := by decide +kernel
theorem dX5_odds_35 : decode cX5_odds 35 = .ok (.iconst 0, 1) := by decide +kernel
theorem dX5_odds_36 : decode cX5_odds 36 = .ok (.iconst 1, 1) := by decide +kernel
theorem dX5_odds_37 : decode cX5_odds 37 = .ok (.invokestatic 51, 3) := by decide +kernel
theorem dX5_odds_40 : decode cX5_odds 40 = .ok (.ifCond .ne 5, 3) := by decide +kernel
theorem dX5_odds_43 : decode cX5_odds 43 = .ok (.iconst (-1), 1) := by decide +kernel
theorem dX5_odds_44 : decode cX5_odds 44 = .ok (.ireturn, 1) := by decide +kernel
theorem dX5_odds_45 : decode cX5_odds 45 = .ok (.iconst 0, 1) := by decide +kernel
theorem dX5_odds_46 : decode cX5_odds 46 = .ok (.istore 5, 2) := by decide +kernel
theorem dX5_odds_48 : decode cX5_odds 48 = .ok (.iconst 0, 1) := by decide +kernel
theorem dX5_odds_49 : decode cX5_odds 49 = .ok (.istore 6, 2) := by decide +kernel
theorem dX5_odds_51 : decode cX5_odds 51 = .ok (.iload 6, 2) := by decide +kernel
theorem dX5_odds_53 : decode cX5_odds 53 = .ok (.iconst 1, 1) := by decide +kernel
theorem dX5_odds_54 : decode cX5_odds 54 = .ok (.iload_n 3, 1) := by decide +kernel
theorem dX5_odds_55 : decode cX5_odds 55 = .ok (.ishl, 1) := by decide +kernel
theorem dX5_odds_56 : decode cX5_odds 56 = .ok (.if_icmp .ge 130, 3) := by decide +kernel
theorem dX5_odds_59 : decode cX5_odds 59 = .ok (.iconst 1, 1) := by decide +kernel
theorem dX5_odds_60 : decode cX5_odds 60 = .ok (.istore 7, 2) := by decide +kernel
theorem dX5_odds_62 : decode cX5_odds 62 = .ok (.aload_n 0, 1) := by decide +kernel
theorem dX5_odds_63 : decode cX5_odds 63 = .ok (.aload_n 0, 1) := by decide +kernel
theorem dX5_odds_64 : decode cX5_odds 64 = .ok (.getfield 38, 3) := by decide +kernel
theorem dX5_odds_67 : decode cX5_odds 67 = .ok (.iload_n 1, 1) := by decide +kernel
theorem dX5_odds_68 : decode cX5_odds 68 = .ok (.invokevirtual 149, 3) := by decide +kernel
theorem dX5_odds_71 : decode cX5_odds 71 = .ok (.iconst 0, 1) := by decide +kernel
theorem dX5_odds_72 : decode cX5_odds 72 = .ok (.istore 8, 2) := by decide +kernel
theorem dX5_odds_74 : decode cX5_odds 74 = .ok (.iload 8, 2) := by decide +kernel
theorem dX5_odds_76 : decode cX5_odds 76 = .ok (.iload_n 3, 1) := by decide +kernel
theorem dX5_odds_77 : decode cX5_odds 77 = .ok (.if_icmp .ge 82, 3) := by decide +kernel
theorem dX5_odds_80 : decode cX5_odds 80 = .ok (.iload 6, 2) := by decide +kernel
theorem dX5_odds_82 : decode cX5_odds 82 = .ok (.iload 8, 2) := by decide +kernel
theorem dX5_odds_84 : decode cX5_odds 84 = .ok (.ishr, 1) := by decide +kernel
theorem dX5_odds_85 : decode cX5_odds 85 = .ok (.iconst 1, 1) := by decide +kernel
theorem dX5_odds_86 : decode cX5_odds 86 = .ok (.iand, 1) := by decide +kernel
theorem dX5_odds_87 : decode cX5_odds 87 = .ok (.iconst 1, 1) := by decide +kernel
theorem dX5_odds_88 : decode cX5_odds 88 = .ok (.if_icmp .ne 7, 3) := by decide +kernel
theorem dX5_odds_91 : decode cX5_odds 91 = .ok (.iconst 1, 1) := by decide +kernel
theorem dX5_odds_92 : decode cX5_odds 92 = .ok (.goto 4, 3) := by decide +kernel
theorem dX5_odds_95 : decode cX5_odds 95 = .ok (.iconst 0, 1) := by decide +kernel
theorem dX5_odds_96 : decode cX5_odds 96 = .ok (.istore 9, 2) := by decide +kernel
theorem dX5_odds_98 : decode cX5_odds 98 = .ok (.iload 7, 2) := by decide +kernel
theorem dX5_odds_100 : decode cX5_odds 100 = .ok (.iload 9, 2) := by decide +kernel
theorem dX5_odds_102 : decode cX5_odds 102 = .ok (.ifCond .eq 7, 3) := by decide +kernel
theorem dX5_odds_105 : decode cX5_odds 105 = .ok (.iload_n 2, 1) := by decide +kernel
theorem dX5_odds_106 : decode cX5_odds 106 = .ok (.goto 7, 3) := by decide +kernel
theorem dX5_odds_109 : decode cX5_odds 109 = .ok (.bipush 10, 2) := by decide +kernel
theorem dX5_odds_111 : decode cX5_odds 111 = .ok (.iload_n 2, 1) := by decide +kernel
theorem dX5_odds_112 : decode cX5_odds 112 = .ok (.isub, 1) := by decide +kernel
theorem dX5_odds_113 : decode cX5_odds 113 = .ok (.imul, 1) := by decide +kernel
theorem dX5_odds_114 : decode cX5_odds 114 = .ok (.istore 7, 2) := by decide +kernel
theorem dX5_odds_116 : decode cX5_odds 116 = .ok (.aload_n 0, 1) := by decide +kernel
theorem dX5_odds_117 : decode cX5_odds 117 = .ok (.aload_n 0, 1) := by decide +kernel
theorem dX5_odds_118 : decode cX5_odds 118 = .ok (.getfield 38, 3) := by decide +kernel
theorem dX5_odds_121 : decode cX5_odds 121 = .ok (.iconst 0, 1) := by decide +kernel
theorem dX5_odds_122 : decode cX5_odds 122 = .ok (.iload 9, 2) := by decide +kernel
theorem dX5_odds_124 : decode cX5_odds 124 = .ok (.ifCond .eq 7, 3) := by decide +kernel
theorem dX5_odds_127 : decode cX5_odds 127 = .ok (.iconst 4, 1) := by decide +kernel
theorem dX5_odds_128 : decode cX5_odds 128 = .ok (.goto 16, 3) := by decide +kernel
theorem dX5_odds_131 : decode cX5_odds 131 = .ok (.aload_n 0, 1) := by decide +kernel
theorem dX5_odds_132 : decode cX5_odds 132 = .ok (.aload_n 0, 1) := by decide +kernel
theorem dX5_odds_133 : decode cX5_odds 133 = .ok (.getfield 25, 3) := by decide +kernel
theorem dX5_odds_136 : decode cX5_odds 136 = .ok (.iconst 0, 1) := by decide +kernel
theorem dX5_odds_137 : decode cX5_odds 137 = .ok (.iaload, 1) := by decide +kernel
theorem dX5_odds_138 : decode cX5_odds 138 = .ok (.iload 8, 2) := by decide +kernel
theorem dX5_odds_140 : decode cX5_odds 140 = .ok (.iadd, 1) := by decide +kernel
theorem dX5_odds_141 : decode cX5_odds 141 = .ok (.invokevirtual 125, 3) := by decide +kernel
theorem dX5_odds_144 : decode cX5_odds 144 = .ok (.aload_n 0, 1) := by decide +kernel
theorem dX5_odds_145 : decode cX5_odds 145 = .ok (.getfield 25, 3) := by decide +kernel
theorem dX5_odds_148 : decode cX5_odds 148 = .ok (.iconst 2, 1) := by decide +kernel
theorem dX5_odds_149 : decode cX5_odds 149 = .ok (.iaload, 1) := by decide +kernel
theorem dX5_odds_150 : decode cX5_odds 150 = .ok (.invokevirtual 145, 3) := by decide +kernel
theorem dX5_odds_153 : decode cX5_odds 153 = .ok (.iinc 8 1, 3) := by decide +kernel
theorem dX5_odds_156 : decode cX5_odds 156 = .ok (.goto (-82), 3) := by decide +kernel
theorem dX5_odds_159 : decode cX5_odds 159 = .ok (.iload 5, 2) := by decide +kernel
theorem dX5_odds_161 : decode cX5_odds 161 = .ok (.aload_n 0, 1) := by decide +kernel
theorem dX5_odds_162 : decode cX5_odds 162 = .ok (.getfield 38, 3) := by decide +kernel
theorem dX5_odds_165 : decode cX5_odds 165 = .ok (.iconst 5, 1) := by decide +kernel
theorem dX5_odds_166 : decode cX5_odds 166 = .ok (.iaload, 1) := by decide +kernel
theorem dX5_odds_167 : decode cX5_odds 167 = .ok (.iconst 1, 1) := by decide +kernel
theorem dX5_odds_168 : decode cX5_odds 168 = .ok (.if_icmp .ne 8, 3) := by decide +kernel
theorem dX5_odds_171 : decode cX5_odds 171 = .ok (.iload 7, 2) := by decide +kernel
theorem dX5_odds_173 : decode cX5_odds 173 = .ok (.goto 4, 3) := by decide +kernel
theorem dX5_odds_176 : decode cX5_odds 176 = .ok (.iconst 0, 1) := by decide +kernel
theorem dX5_odds_177 : decode cX5_odds 177 = .ok (.iadd, 1) := by decide +kernel
theorem dX5_odds_178 : decode cX5_odds 178 = .ok (.istore 5, 2) := by decide +kernel
theorem dX5_odds_180 : decode cX5_odds 180 = .ok (.iinc 6 1, 3) := by decide +kernel
theorem dX5_odds_183 : decode cX5_odds 183 = .ok (.goto (-132), 3) := by decide +kernel
theorem dX5_odds_186 : decode cX5_odds 186 = .ok (.bipush 10, 2) := by decide +kernel
theorem dX5_odds_188 : decode cX5_odds 188 = .ok (.iload_n 3, 1) := by decide +kernel
theorem dX5_odds_189 : decode cX5_odds 189 = .ok (.invokestatic 172, 3) := by decide +kernel
theorem dX5_odds_192 : decode cX5_odds 192 = .ok (.istore 6, 2) := by decide +kernel
theorem dX5_odds_194 : decode cX5_odds 194 = .ok (.iload 5, 2) := by decide +kernel
theorem dX5_odds_196 : decode cX5_odds 196 = .ok (.iload 6, 2) := by decide +kernel
theorem dX5_odds_198 : decode cX5_odds 198 = .ok (.invokestatic 175, 3) := by decide +kernel
theorem dX5_odds_201 : decode cX5_odds 201 = .ok (.istore 7, 2) := by decide +kernel
theorem dX5_odds_203 : decode cX5_odds 203 = .ok (.iload 4, 2) := by decide +kernel
theorem dX5_odds_205 : decode cX5_odds 205 = .ok (.ifCond .ne 11, 3) := by decide +kernel
theorem dX5_odds_208 : decode cX5_odds 208 = .ok (.iload 5, 2) := by decide +kernel
theorem dX5_odds_210 : decode cX5_odds 210 = .ok (.iload 7, 2) := by decide +kernel
theorem dX5_odds_212 : decode cX5_odds 212 = .ok (.idiv, 1) := by decide +kernel
theorem dX5_odds_213 : decode cX5_odds 213 = .ok (.goto 8, 3) := by decide +kernel
theorem dX5_odds_216 : decode cX5_odds 216 = .ok (.iload 6, 2) := by decide +kernel
theorem dX5_odds_218 : decode cX5_odds 218 = .ok (.iload 7, 2) := by decide +kernel
theorem dX5_odds_220 : decode cX5_odds 220 = .ok (.idiv, 1) := by decide +kernel
theorem dX5_odds_221 : decode cX5_odds 221 = .ok (.ireturn, 1) := by decide +kernel
set_option maxRecDepth 20000 in
theorem kX5_odds_25 : Cond.fieldLink RX5 25 "WindPostModel" "s" "[I" ∈ wsX5_odds := by decide +kernel
set_option maxRecDepth 20000 in
theorem kX5_odds_38 : Cond.fieldLink RX5 38 "WindPostModel" "trial" "[I" ∈ wsX5_odds := by decide +kernel
set_option maxRecDepth 20000 in
theorem kX5_odds_47 : Cond.fieldLink RX5 47 "WindPostModel" "thrown" "I" ∈ wsX5_odds := by decide +kernel
set_option maxRecDepth 20000 in
theorem uX5_odds_X5 : ∀ w ∈ wsX50, w ∈ wsX5_odds := by decide +kernel
set_option maxHeartbeats 8000000 in
set_option maxRecDepth 100000 in
theorem mX5_odds (l : Launch) (D : va_G) (ki : Nat → ClassId) (ad : Nat → Nat) (cs : List Nat) (hcs : kR cs) (N : Nat) (a1 : Int32) (a2 : Int32) (a3 : Int32) (a4 : Int32) (G : zMem) (tr : Int64) : gMetI l D ki ad cs yX5_odds wsX5_odds { frames := 2, cells := 0, slots := 0, locals := 53 } [.ref (ad 0), .int a1, .int a2, .int a3, .int a4] (mE ki ad) G tr (fX5_odds N a1 a2 a3 a4 G tr) := by
  refine gMetI_of (cc := cX5_odds) (maxL := 10) (ret := (some .int)) (own := RX5) (by decide +kernel) rfl rfl (Nat.le_of_ble_eq_true rfl) ?_
  intro r9 G9 tr9 h p e s m below meth c S hr hlk K X ls hl
  have hl : lv_has ls 10 [(0, .ref (ad 0)), (1, .int a1), (2, .int a2), (3, .int a3), (4, .int a4)] := hl
  have b144 : ∀ (k51 : Int32 → Int32 → zMem → Int64 → zR) (hk51 : ∀ (x5 : Int32) (x6 : Int32) (G : zMem) (tr : Int64), k51 x5 x6 G tr = some (r9, G9, tr9) → zAt p l e (headSpec wsX5_odds { frames := 2, cells := 0, slots := 0, locals := 53 }).room s m ([.ref (ad 0), .int a1, .int a2, .int a3, .int a4] : List Value).toArray below meth c 10 D cs ad (zQI below ([.ref (ad 0), .int a1, .int a2, .int a3, .int a4] : List Value).toArray s D cs ad ((mE ki ad) G9 tr9) r9) 51 [(0, .ref (ad 0)), (1, .int a1), (2, .int a2), (3, .int a3), (4, .int a4), (5, .int x5), (6, .int x6)] [] ((mE ki ad) G tr)) (k74 : Int32 → Int32 → Int32 → Int32 → zMem → Int64 → zR) (hk74 : ∀ (x5 : Int32) (x6 : Int32) (x7 : Int32) (x8 : Int32) (G : zMem) (tr : Int64), k74 x5 x6 x7 x8 G tr = some (r9, G9, tr9) → zAt p l e (headSpec wsX5_odds { frames := 2, cells := 0, slots := 0, locals := 53 }).room s m ([.ref (ad 0), .int a1, .int a2, .int a3, .int a4] : List Value).toArray below meth c 10 D cs ad (zQI below ([.ref (ad 0), .int a1, .int a2, .int a3, .int a4] : List Value).toArray s D cs ad ((mE ki ad) G9 tr9) r9) 74 [(0, .ref (ad 0)), (1, .int a1), (2, .int a2), (3, .int a3), (4, .int a4), (5, .int x5), (6, .int x6), (7, .int x7), (8, .int x8)] [] ((mE ki ad) G tr)) (x5 : Int32) (x6 : Int32) (x7 : Int32) (x8 : Int32) (s0 : Int32) (s1 : Int32) (G : zMem) (tr : Int64), fX5_odds_b144 N a1 a2 a3 a4 k51 k74 x5 x6 x7 x8 s0 s1 G tr = some (r9, G9, tr9) → zAt p l e (headSpec wsX5_odds { frames := 2, cells := 0, slots := 0, locals := 53 }).room s m ([.ref (ad 0), .int a1, .int a2, .int a3, .int a4] : List Value).toArray below meth c 10 D cs ad (zQI below ([.ref (ad 0), .int a1, .int a2, .int a3, .int a4] : List Value).toArray s D cs ad ((mE ki ad) G9 tr9) r9) 144 [(0, .ref (ad 0)), (1, .int a1), (2, .int a2), (3, .int a3), (4, .int a4), (5, .int x5), (6, .int x6), (7, .int x7), (8, .int x8)] [.int s0, .int s1, .ref (ad 10), .ref (ad 0)] ((mE ki ad) G tr) := by
    intro k51 hk51 k74 hk74 x5 x6 x7 x8 s0 s1 G tr h H locs ls X hl
    unfold fX5_odds_b144 at h
    refine lv_aload_n S.1 S.2.1 dX5_odds_144 rfl (lv_at hl 0 rfl) ?_
    refine zr_get (v := .ref (ad 6)) S K X (hcs 0 (by decide)) mE_R rfl uX5_odds_X5 14 (by decide) kX5_odds_25 rfl rfl dX5_odds_145 ?_
    refine lv_iconst (v := (2 : Int32)) S.1 S.2.1 dX5_odds_148 (by decide) ?_
    obtain ⟨hi_1, h⟩ := zin_some h
    refine zr_iald S K X (hcs 6 (by decide)) mE_6 hi_1 dX5_odds_149 ?_
    obtain ⟨r_3, G_4, tr_5, hf_2, h⟩ := zbd_some h
    refine zr_callv (Eg := (mE ki ad)) K X (va_runV (As := [.ref (ad 10), .int s1, .int s0, .int (G 6 (Int32.toNatClampNeg (2 : Int32)))]) (rest := []) S (mX5_blows l D ki ad cs hcs N 10 s1 s0 (G 6 (Int32.toNatClampNeg (2 : Int32))) (kA_10 hcs) G tr H.size _ _ _ hf_2) (cwV 4 S.2.2.2.2 gX5_odds_X5_blows rfl rfl rfl (by decide +kernel) ⟨Nat.le_of_ble_eq_true rfl, Nat.le_of_ble_eq_true rfl⟩) (zr_preV (c0 := 0) K X (hcs 0 (by decide)) mE_R rfl) rfl rfl hl.1 rfl (lv_room (Nat.le_of_ble_eq_true rfl)) dX5_odds_150 ⟨Nat.zero_le _, Nat.zero_le _⟩) (fun H locs X => ?_)
    refine lv_iinc (v := (x8 + 1)) (lv' := [(8, .int (x8 + 1)), (0, .ref (ad 0)), (1, .int a1), (2, .int a2), (3, .int a3), (4, .int a4), (5, .int x5), (6, .int x6), (7, .int x7)]) S.1 S.2.1 dX5_odds_153 hl (k := 8) rfl rfl (by decide) rfl (fun ls hl => ?_)
    refine lv_goto (tgt := 74) S.1 S.2.1 dX5_odds_156 (by decide) ?_
    exact hk74 x5 x6 x7 (x8 + 1) G_4 tr_5 h _ _ _ X (lv_sub hl [1, 2, 3, 4, 5, 6, 7, 8, 0] rfl)
  have b113 : ∀ (k51 : Int32 → Int32 → zMem → Int64 → zR) (hk51 : ∀ (x5 : Int32) (x6 : Int32) (G : zMem) (tr : Int64), k51 x5 x6 G tr = some (r9, G9, tr9) → zAt p l e (headSpec wsX5_odds { frames := 2, cells := 0, slots := 0, locals := 53 }).room s m ([.ref (ad 0), .int a1, .int a2, .int a3, .int a4] : List Value).toArray below meth c 10 D cs ad (zQI below ([.ref (ad 0), .int a1, .int a2, .int a3, .int a4] : List Value).toArray s D cs ad ((mE ki ad) G9 tr9) r9) 51 [(0, .ref (ad 0)), (1, .int a1), (2, .int a2), (3, .int a3), (4, .int a4), (5, .int x5), (6, .int x6)] [] ((mE ki ad) G tr)) (k74 : Int32 → Int32 → Int32 → Int32 → zMem → Int64 → zR) (hk74 : ∀ (x5 : Int32) (x6 : Int32) (x7 : Int32) (x8 : Int32) (G : zMem) (tr : Int64), k74 x5 x6 x7 x8 G tr = some (r9, G9, tr9) → zAt p l e (headSpec wsX5_odds { frames := 2, cells := 0, slots := 0, locals := 53 }).room s m ([.ref (ad 0), .int a1, .int a2, .int a3, .int a4] : List Value).toArray below meth c 10 D cs ad (zQI below ([.ref (ad 0), .int a1, .int a2, .int a3, .int a4] : List Value).toArray s D cs ad ((mE ki ad) G9 tr9) r9) 74 [(0, .ref (ad 0)), (1, .int a1), (2, .int a2), (3, .int a3), (4, .int a4), (5, .int x5), (6, .int x6), (7, .int x7), (8, .int x8)] [] ((mE ki ad) G tr)) (x5 : Int32) (x6 : Int32) (x8 : Int32) (x9 : Int32) (s0 : Int32) (s1 : Int32) (G : zMem) (tr : Int64), fX5_odds_b113 N a1 a2 a3 a4 k51 k74 x5 x6 x8 x9 s0 s1 G tr = some (r9, G9, tr9) → zAt p l e (headSpec wsX5_odds { frames := 2, cells := 0, slots := 0, locals := 53 }).room s m ([.ref (ad 0), .int a1, .int a2, .int a3, .int a4] : List Value).toArray below meth c 10 D cs ad (zQI below ([.ref (ad 0), .int a1, .int a2, .int a3, .int a4] : List Value).toArray s D cs ad ((mE ki ad) G9 tr9) r9) 113 [(0, .ref (ad 0)), (1, .int a1), (2, .int a2), (3, .int a3), (4, .int a4), (5, .int x5), (6, .int x6), (8, .int x8), (9, .int x9)] [.int s0, .int s1] ((mE ki ad) G tr) := by
    intro k51 hk51 k74 hk74 x5 x6 x8 x9 s0 s1 G tr h H locs ls X hl
    unfold fX5_odds_b113 at h
    refine lv_imul S.1 S.2.1 dX5_odds_113 ?_
    refine lv_istore (lv' := [(7, .int (s1 * s0)), (0, .ref (ad 0)), (1, .int a1), (2, .int a2), (3, .int a3), (4, .int a4), (5, .int x5), (6, .int x6), (8, .int x8), (9, .int x9)]) S.1 S.2.1 dX5_odds_114 hl (by decide) rfl (fun ls hl => ?_)
    refine lv_aload_n S.1 S.2.1 dX5_odds_116 rfl (lv_at hl 1 rfl) ?_
    refine lv_aload_n S.1 S.2.1 dX5_odds_117 rfl (lv_at hl 1 rfl) ?_
    refine zr_get (v := .ref (ad 10)) S K X (hcs 0 (by decide)) mE_R rfl uX5_odds_X5 19 (by decide) kX5_odds_38 rfl rfl dX5_odds_118 ?_
    refine lv_iconst (v := (0 : Int32)) S.1 S.2.1 dX5_odds_121 (by decide) ?_
    refine lv_iload S.1 S.2.1 dX5_odds_122 (lv_at hl 9 rfl) ?_
    refine lv_if_eq (tgt := 131) S.1 S.2.1 dX5_odds_124 (by decide) (fun hc_1 => ?_) (fun hc_1 => ?_)
    · have h := zif_pos hc_1 h
      refine lv_aload_n S.1 S.2.1 dX5_odds_131 rfl (lv_at hl 1 rfl) ?_
      refine lv_aload_n S.1 S.2.1 dX5_odds_132 rfl (lv_at hl 1 rfl) ?_
      refine zr_get (v := .ref (ad 6)) S K X (hcs 0 (by decide)) mE_R rfl uX5_odds_X5 14 (by decide) kX5_odds_25 rfl rfl dX5_odds_133 ?_
      refine lv_iconst (v := (0 : Int32)) S.1 S.2.1 dX5_odds_136 (by decide) ?_
      obtain ⟨hi_2, h⟩ := zin_some h
      refine zr_iald S K X (hcs 6 (by decide)) mE_6 hi_2 dX5_odds_137 ?_
      refine lv_iload S.1 S.2.1 dX5_odds_138 (lv_at hl 8 rfl) ?_
      refine lv_iadd S.1 S.2.1 dX5_odds_140 ?_
      obtain ⟨r_4, G_5, tr_6, hf_3, h⟩ := zbd_some h
      refine zr_calli (Eg := (mE ki ad)) K X (va_runV (As := [.int ((G 6 (Int32.toNatClampNeg (0 : Int32))) + x8)]) (rest := [.int (0 : Int32), .ref (ad 10), .ref (ad 0)]) S (mX5_windOf l D ki ad cs hcs N ((G 6 (Int32.toNatClampNeg (0 : Int32))) + x8) G tr H.size _ _ _ hf_3) (cwV 1 S.2.2.2.2 gX5_odds_X5_windOf rfl rfl rfl (by decide +kernel) ⟨Nat.le_of_ble_eq_true rfl, Nat.le_of_ble_eq_true rfl⟩) (zr_preV (c0 := 0) K X (hcs 0 (by decide)) mE_R rfl) rfl rfl hl.1 rfl (lv_room (Nat.le_of_ble_eq_true rfl)) dX5_odds_141 ⟨Nat.zero_le _, Nat.zero_le _⟩) (fun H locs X => ?_)
      exact b144 k51 hk51 k74 hk74 x5 x6 (s1 * s0) x8 r_4 (0 : Int32) G_5 tr_6 h _ _ _ X (lv_sub hl [1, 2, 3, 4, 5, 6, 7, 0, 8] rfl)
    · have h := zif_neg hc_1 h
      refine lv_iconst (v := (4 : Int32)) S.1 S.2.1 dX5_odds_127 (by decide) ?_
      refine lv_goto (tgt := 144) S.1 S.2.1 dX5_odds_128 (by decide) ?_
      exact b144 k51 hk51 k74 hk74 x5 x6 (s1 * s0) x8 (4 : Int32) (0 : Int32) G tr h _ _ _ X (lv_sub hl [1, 2, 3, 4, 5, 6, 7, 0, 8] rfl)
  have b96 : ∀ (k51 : Int32 → Int32 → zMem → Int64 → zR) (hk51 : ∀ (x5 : Int32) (x6 : Int32) (G : zMem) (tr : Int64), k51 x5 x6 G tr = some (r9, G9, tr9) → zAt p l e (headSpec wsX5_odds { frames := 2, cells := 0, slots := 0, locals := 53 }).room s m ([.ref (ad 0), .int a1, .int a2, .int a3, .int a4] : List Value).toArray below meth c 10 D cs ad (zQI below ([.ref (ad 0), .int a1, .int a2, .int a3, .int a4] : List Value).toArray s D cs ad ((mE ki ad) G9 tr9) r9) 51 [(0, .ref (ad 0)), (1, .int a1), (2, .int a2), (3, .int a3), (4, .int a4), (5, .int x5), (6, .int x6)] [] ((mE ki ad) G tr)) (k74 : Int32 → Int32 → Int32 → Int32 → zMem → Int64 → zR) (hk74 : ∀ (x5 : Int32) (x6 : Int32) (x7 : Int32) (x8 : Int32) (G : zMem) (tr : Int64), k74 x5 x6 x7 x8 G tr = some (r9, G9, tr9) → zAt p l e (headSpec wsX5_odds { frames := 2, cells := 0, slots := 0, locals := 53 }).room s m ([.ref (ad 0), .int a1, .int a2, .int a3, .int a4] : List Value).toArray below meth c 10 D cs ad (zQI below ([.ref (ad 0), .int a1, .int a2, .int a3, .int a4] : List Value).toArray s D cs ad ((mE ki ad) G9 tr9) r9) 74 [(0, .ref (ad 0)), (1, .int a1), (2, .int a2), (3, .int a3), (4, .int a4), (5, .int x5), (6, .int x6), (7, .int x7), (8, .int x8)] [] ((mE ki ad) G tr)) (x5 : Int32) (x6 : Int32) (x7 : Int32) (x8 : Int32) (s0 : Int32) (G : zMem) (tr : Int64), fX5_odds_b96 N a1 a2 a3 a4 k51 k74 x5 x6 x7 x8 s0 G tr = some (r9, G9, tr9) → zAt p l e (headSpec wsX5_odds { frames := 2, cells := 0, slots := 0, locals := 53 }).room s m ([.ref (ad 0), .int a1, .int a2, .int a3, .int a4] : List Value).toArray below meth c 10 D cs ad (zQI below ([.ref (ad 0), .int a1, .int a2, .int a3, .int a4] : List Value).toArray s D cs ad ((mE ki ad) G9 tr9) r9) 96 [(0, .ref (ad 0)), (1, .int a1), (2, .int a2), (3, .int a3), (4, .int a4), (5, .int x5), (6, .int x6), (7, .int x7), (8, .int x8)] [.int s0] ((mE ki ad) G tr) := by
    intro k51 hk51 k74 hk74 x5 x6 x7 x8 s0 G tr h H locs ls X hl
    unfold fX5_odds_b96 at h
    refine lv_istore (lv' := [(9, .int s0), (0, .ref (ad 0)), (1, .int a1), (2, .int a2), (3, .int a3), (4, .int a4), (5, .int x5), (6, .int x6), (7, .int x7), (8, .int x8)]) S.1 S.2.1 dX5_odds_96 hl (by decide) rfl (fun ls hl => ?_)
    refine lv_iload S.1 S.2.1 dX5_odds_98 (lv_at hl 8 rfl) ?_
    refine lv_iload S.1 S.2.1 dX5_odds_100 (lv_at hl 0 rfl) ?_
    refine lv_if_eq (tgt := 109) S.1 S.2.1 dX5_odds_102 (by decide) (fun hc_1 => ?_) (fun hc_1 => ?_)
    · have h := zif_pos hc_1 h
      refine lv_bipush (v := (10 : Int32)) S.1 S.2.1 dX5_odds_109 (by decide) ?_
      refine lv_iload_n S.1 S.2.1 dX5_odds_111 rfl (lv_at hl 3 rfl) ?_
      refine lv_isub S.1 S.2.1 dX5_odds_112 ?_
      exact b113 k51 hk51 k74 hk74 x5 x6 x8 s0 ((10 : Int32) - a2) x7 G tr h _ _ _ X (lv_sub hl [1, 2, 3, 4, 5, 6, 7, 9, 0] rfl)
    · have h := zif_neg hc_1 h
      refine lv_iload_n S.1 S.2.1 dX5_odds_105 rfl (lv_at hl 3 rfl) ?_
      refine lv_goto (tgt := 113) S.1 S.2.1 dX5_odds_106 (by decide) ?_
      exact b113 k51 hk51 k74 hk74 x5 x6 x8 s0 a2 x7 G tr h _ _ _ X (lv_sub hl [1, 2, 3, 4, 5, 6, 7, 9, 0] rfl)
  have b177 : ∀ (k51 : Int32 → Int32 → zMem → Int64 → zR) (hk51 : ∀ (x5 : Int32) (x6 : Int32) (G : zMem) (tr : Int64), k51 x5 x6 G tr = some (r9, G9, tr9) → zAt p l e (headSpec wsX5_odds { frames := 2, cells := 0, slots := 0, locals := 53 }).room s m ([.ref (ad 0), .int a1, .int a2, .int a3, .int a4] : List Value).toArray below meth c 10 D cs ad (zQI below ([.ref (ad 0), .int a1, .int a2, .int a3, .int a4] : List Value).toArray s D cs ad ((mE ki ad) G9 tr9) r9) 51 [(0, .ref (ad 0)), (1, .int a1), (2, .int a2), (3, .int a3), (4, .int a4), (5, .int x5), (6, .int x6)] [] ((mE ki ad) G tr)) (x6 : Int32) (s0 : Int32) (s1 : Int32) (G : zMem) (tr : Int64), fX5_odds_b177 N a1 a2 a3 a4 k51 x6 s0 s1 G tr = some (r9, G9, tr9) → zAt p l e (headSpec wsX5_odds { frames := 2, cells := 0, slots := 0, locals := 53 }).room s m ([.ref (ad 0), .int a1, .int a2, .int a3, .int a4] : List Value).toArray below meth c 10 D cs ad (zQI below ([.ref (ad 0), .int a1, .int a2, .int a3, .int a4] : List Value).toArray s D cs ad ((mE ki ad) G9 tr9) r9) 177 [(0, .ref (ad 0)), (1, .int a1), (2, .int a2), (3, .int a3), (4, .int a4), (6, .int x6)] [.int s0, .int s1] ((mE ki ad) G tr) := by
    intro k51 hk51 x6 s0 s1 G tr h H locs ls X hl
    unfold fX5_odds_b177 at h
    refine lv_iadd S.1 S.2.1 dX5_odds_177 ?_
    refine lv_istore (lv' := [(5, .int (s1 + s0)), (0, .ref (ad 0)), (1, .int a1), (2, .int a2), (3, .int a3), (4, .int a4), (6, .int x6)]) S.1 S.2.1 dX5_odds_178 hl (by decide) rfl (fun ls hl => ?_)
    refine lv_iinc (v := (x6 + 1)) (lv' := [(6, .int (x6 + 1)), (5, .int (s1 + s0)), (0, .ref (ad 0)), (1, .int a1), (2, .int a2), (3, .int a3), (4, .int a4)]) S.1 S.2.1 dX5_odds_180 hl (k := 6) rfl rfl (by decide) rfl (fun ls hl => ?_)
    refine lv_goto (tgt := 51) S.1 S.2.1 dX5_odds_183 (by decide) ?_
    exact hk51 (s1 + s0) (x6 + 1) G tr h _ _ _ X (lv_sub hl [2, 3, 4, 5, 6, 1, 0] rfl)
  have b74 : ∀ (k51 : Int32 → Int32 → zMem → Int64 → zR) (hk51 : ∀ (x5 : Int32) (x6 : Int32) (G : zMem) (tr : Int64), k51 x5 x6 G tr = some (r9, G9, tr9) → zAt p l e (headSpec wsX5_odds { frames := 2, cells := 0, slots := 0, locals := 53 }).room s m ([.ref (ad 0), .int a1, .int a2, .int a3, .int a4] : List Value).toArray below meth c 10 D cs ad (zQI below ([.ref (ad 0), .int a1, .int a2, .int a3, .int a4] : List Value).toArray s D cs ad ((mE ki ad) G9 tr9) r9) 51 [(0, .ref (ad 0)), (1, .int a1), (2, .int a2), (3, .int a3), (4, .int a4), (5, .int x5), (6, .int x6)] [] ((mE ki ad) G tr)) (k74 : Int32 → Int32 → Int32 → Int32 → zMem → Int64 → zR) (hk74 : ∀ (x5 : Int32) (x6 : Int32) (x7 : Int32) (x8 : Int32) (G : zMem) (tr : Int64), k74 x5 x6 x7 x8 G tr = some (r9, G9, tr9) → zAt p l e (headSpec wsX5_odds { frames := 2, cells := 0, slots := 0, locals := 53 }).room s m ([.ref (ad 0), .int a1, .int a2, .int a3, .int a4] : List Value).toArray below meth c 10 D cs ad (zQI below ([.ref (ad 0), .int a1, .int a2, .int a3, .int a4] : List Value).toArray s D cs ad ((mE ki ad) G9 tr9) r9) 74 [(0, .ref (ad 0)), (1, .int a1), (2, .int a2), (3, .int a3), (4, .int a4), (5, .int x5), (6, .int x6), (7, .int x7), (8, .int x8)] [] ((mE ki ad) G tr)) (x5 : Int32) (x6 : Int32) (x7 : Int32) (x8 : Int32) (G : zMem) (tr : Int64), fX5_odds_b74 N a1 a2 a3 a4 k51 k74 x5 x6 x7 x8 G tr = some (r9, G9, tr9) → zAt p l e (headSpec wsX5_odds { frames := 2, cells := 0, slots := 0, locals := 53 }).room s m ([.ref (ad 0), .int a1, .int a2, .int a3, .int a4] : List Value).toArray below meth c 10 D cs ad (zQI below ([.ref (ad 0), .int a1, .int a2, .int a3, .int a4] : List Value).toArray s D cs ad ((mE ki ad) G9 tr9) r9) 74 [(0, .ref (ad 0)), (1, .int a1), (2, .int a2), (3, .int a3), (4, .int a4), (5, .int x5), (6, .int x6), (7, .int x7), (8, .int x8)] [] ((mE ki ad) G tr) := by
    intro k51 hk51 k74 hk74 x5 x6 x7 x8 G tr h H locs ls X hl
    unfold fX5_odds_b74 at h
    refine lv_iload S.1 S.2.1 dX5_odds_74 (lv_at hl 8 rfl) ?_
    refine lv_iload_n S.1 S.2.1 dX5_odds_76 rfl (lv_at hl 3 rfl) ?_
    refine lv_icmp_ge (tgt := 159) S.1 S.2.1 dX5_odds_77 (by decide) (fun hc_1 => ?_) (fun hc_1 => ?_)
    · have h := zif_pos hc_1 h
      refine lv_iload S.1 S.2.1 dX5_odds_159 (lv_at hl 5 rfl) ?_
      refine lv_aload_n S.1 S.2.1 dX5_odds_161 rfl (lv_at hl 0 rfl) ?_
      refine zr_get (v := .ref (ad 10)) S K X (hcs 0 (by decide)) mE_R rfl uX5_odds_X5 19 (by decide) kX5_odds_38 rfl rfl dX5_odds_162 ?_
      refine lv_iconst (v := (5 : Int32)) S.1 S.2.1 dX5_odds_165 (by decide) ?_
      obtain ⟨hi_2, h⟩ := zin_some h
      refine zr_iald S K X (hcs 10 (by decide)) mE_10 hi_2 dX5_odds_166 ?_
      refine lv_iconst (v := (1 : Int32)) S.1 S.2.1 dX5_odds_167 (by decide) ?_
      refine lv_icmp_ne (tgt := 176) S.1 S.2.1 dX5_odds_168 (by decide) (fun hc_3 => ?_) (fun hc_3 => ?_)
      · have h := zif_neg hc_3 h
        refine lv_iconst (v := (0 : Int32)) S.1 S.2.1 dX5_odds_176 (by decide) ?_
        exact b177 k51 hk51 x6 (0 : Int32) x5 G tr h _ _ _ X (lv_sub hl [0, 1, 2, 3, 4, 6] rfl)
      · have h := zif_pos hc_3 h
        refine lv_iload S.1 S.2.1 dX5_odds_171 (lv_at hl 7 rfl) ?_
        refine lv_goto (tgt := 177) S.1 S.2.1 dX5_odds_173 (by decide) ?_
        exact b177 k51 hk51 x6 x7 x5 G tr h _ _ _ X (lv_sub hl [0, 1, 2, 3, 4, 6] rfl)
    · have h := zif_neg hc_1 h
      refine lv_iload S.1 S.2.1 dX5_odds_80 (lv_at hl 6 rfl) ?_
      refine lv_iload S.1 S.2.1 dX5_odds_82 (lv_at hl 8 rfl) ?_
      refine lv_ishr S.1 S.2.1 dX5_odds_84 ?_
      refine lv_iconst (v := (1 : Int32)) S.1 S.2.1 dX5_odds_85 (by decide) ?_
      refine lv_iand S.1 S.2.1 dX5_odds_86 ?_
      refine lv_iconst (v := (1 : Int32)) S.1 S.2.1 dX5_odds_87 (by decide) ?_
      refine lv_icmp_ne (tgt := 95) S.1 S.2.1 dX5_odds_88 (by decide) (fun hc_4 => ?_) (fun hc_4 => ?_)
      · have h := zif_neg hc_4 h
        refine lv_iconst (v := (0 : Int32)) S.1 S.2.1 dX5_odds_95 (by decide) ?_
        exact b96 k51 hk51 k74 hk74 x5 x6 x7 x8 (0 : Int32) G tr h _ _ _ X (lv_sub hl [0, 1, 2, 3, 4, 5, 6, 7, 8] rfl)
      · have h := zif_pos hc_4 h
        refine lv_iconst (v := (1 : Int32)) S.1 S.2.1 dX5_odds_91 (by decide) ?_
        refine lv_goto (tgt := 96) S.1 S.2.1 dX5_odds_92 (by decide) ?_
        exact b96 k51 hk51 k74 hk74 x5 x6 x7 x8 (1 : Int32) G tr h _ _ _ X (lv_sub hl [0, 1, 2, 3, 4, 5, 6, 7, 8] rfl)
  have L74 : ∀ (k51 : Int32 → Int32 → zMem → Int64 → zR) (hk51 : ∀ (x5 : Int32) (x6 : Int32) (G : zMem) (tr : Int64), k51 x5 x6 G tr = some (r9, G9, tr9) → zAt p l e (headSpec wsX5_odds { frames := 2, cells := 0, slots := 0, locals := 53 }).room s m ([.ref (ad 0), .int a1, .int a2, .int a3, .int a4] : List Value).toArray below meth c 10 D cs ad (zQI below ([.ref (ad 0), .int a1, .int a2, .int a3, .int a4] : List Value).toArray s D cs ad ((mE ki ad) G9 tr9) r9) 51 [(0, .ref (ad 0)), (1, .int a1), (2, .int a2), (3, .int a3), (4, .int a4), (5, .int x5), (6, .int x6)] [] ((mE ki ad) G tr)) (n : Nat) (x5 : Int32) (x6 : Int32) (x7 : Int32) (x8 : Int32) (G : zMem) (tr : Int64), fX5_odds_L74 N a1 a2 a3 a4 k51 n x5 x6 x7 x8 G tr = some (r9, G9, tr9) → zAt p l e (headSpec wsX5_odds { frames := 2, cells := 0, slots := 0, locals := 53 }).room s m ([.ref (ad 0), .int a1, .int a2, .int a3, .int a4] : List Value).toArray below meth c 10 D cs ad (zQI below ([.ref (ad 0), .int a1, .int a2, .int a3, .int a4] : List Value).toArray s D cs ad ((mE ki ad) G9 tr9) r9) 74 [(0, .ref (ad 0)), (1, .int a1), (2, .int a2), (3, .int a3), (4, .int a4), (5, .int x5), (6, .int x6), (7, .int x7), (8, .int x8)] [] ((mE ki ad) G tr) := by
    intro k51 hk51 n
    induction n with
    | zero => intro x5 x6 x7 x8 G tr h; cases h
    | succ n ih => intro x5 x6 x7 x8 G tr h; exact b74 k51 hk51 (fX5_odds_L74 N a1 a2 a3 a4 k51 n) ih x5 x6 x7 x8 G tr h
  have b51 : ∀ (k51 : Int32 → Int32 → zMem → Int64 → zR) (hk51 : ∀ (x5 : Int32) (x6 : Int32) (G : zMem) (tr : Int64), k51 x5 x6 G tr = some (r9, G9, tr9) → zAt p l e (headSpec wsX5_odds { frames := 2, cells := 0, slots := 0, locals := 53 }).room s m ([.ref (ad 0), .int a1, .int a2, .int a3, .int a4] : List Value).toArray below meth c 10 D cs ad (zQI below ([.ref (ad 0), .int a1, .int a2, .int a3, .int a4] : List Value).toArray s D cs ad ((mE ki ad) G9 tr9) r9) 51 [(0, .ref (ad 0)), (1, .int a1), (2, .int a2), (3, .int a3), (4, .int a4), (5, .int x5), (6, .int x6)] [] ((mE ki ad) G tr)) (x5 : Int32) (x6 : Int32) (G : zMem) (tr : Int64), fX5_odds_b51 N a1 a2 a3 a4 k51 x5 x6 G tr = some (r9, G9, tr9) → zAt p l e (headSpec wsX5_odds { frames := 2, cells := 0, slots := 0, locals := 53 }).room s m ([.ref (ad 0), .int a1, .int a2, .int a3, .int a4] : List Value).toArray below meth c 10 D cs ad (zQI below ([.ref (ad 0), .int a1, .int a2, .int a3, .int a4] : List Value).toArray s D cs ad ((mE ki ad) G9 tr9) r9) 51 [(0, .ref (ad 0)), (1, .int a1), (2, .int a2), (3, .int a3), (4, .int a4), (5, .int x5), (6, .int x6)] [] ((mE ki ad) G tr) := by
    intro k51 hk51 x5 x6 G tr h H locs ls X hl
    unfold fX5_odds_b51 at h
    refine lv_iload S.1 S.2.1 dX5_odds_51 (lv_at hl 6 rfl) ?_
    refine lv_iconst (v := (1 : Int32)) S.1 S.2.1 dX5_odds_53 (by decide) ?_
    refine lv_iload_n S.1 S.2.1 dX5_odds_54 rfl (lv_at hl 3 rfl) ?_
    refine lv_ishl S.1 S.2.1 dX5_odds_55 ?_
    refine lv_icmp_ge (tgt := 186) S.1 S.2.1 dX5_odds_56 (by decide) (fun hc_1 => ?_) (fun hc_1 => ?_)
    · have h := zif_pos hc_1 h
      refine lv_bipush (v := (10 : Int32)) S.1 S.2.1 dX5_odds_186 (by decide) ?_
      refine lv_iload_n S.1 S.2.1 dX5_odds_188 rfl (lv_at hl 3 rfl) ?_
      obtain ⟨r_3, hf_2, h⟩ := zbp_some h
      refine zr_calli (Eg := (mE ki ad)) (G' := G) (tr' := tr) K X (va_runS (As := [.int (10 : Int32), .int a3]) (rest := []) S (mX5_power l D ki ad cs N (10 : Int32) a3 (mE ki ad) G tr H.size _ _ _ (zpu_of hf_2)) (va_cwS 2 S.2.2.2.2 gX5_odds_X5_power rfl rfl rfl (by decide +kernel) ⟨Nat.le_of_ble_eq_true rfl, Nat.le_of_ble_eq_true rfl⟩) (zr_pre K X) rfl rfl hl.1 rfl (lv_room (Nat.le_of_ble_eq_true rfl)) dX5_odds_189 ⟨Nat.zero_le _, Nat.zero_le _⟩) (fun H locs X => ?_)
      refine lv_istore (lv' := [(6, .int r_3), (0, .ref (ad 0)), (1, .int a1), (2, .int a2), (3, .int a3), (4, .int a4), (5, .int x5)]) S.1 S.2.1 dX5_odds_192 hl (by decide) rfl (fun ls hl => ?_)
      refine lv_iload S.1 S.2.1 dX5_odds_194 (lv_at hl 6 rfl) ?_
      refine lv_iload S.1 S.2.1 dX5_odds_196 (lv_at hl 0 rfl) ?_
      obtain ⟨r_5, hf_4, h⟩ := zbp_some h
      refine zr_calli (Eg := (mE ki ad)) (G' := G) (tr' := tr) K X (va_runS (As := [.int x5, .int r_3]) (rest := []) S (mX5_gcd l D ki ad cs N x5 r_3 (mE ki ad) G tr H.size _ _ _ (zpu_of hf_4)) (va_cwS 2 S.2.2.2.2 gX5_odds_X5_gcd rfl rfl rfl (by decide +kernel) ⟨Nat.le_of_ble_eq_true rfl, Nat.le_of_ble_eq_true rfl⟩) (zr_pre K X) rfl rfl hl.1 rfl (lv_room (Nat.le_of_ble_eq_true rfl)) dX5_odds_198 ⟨Nat.zero_le _, Nat.zero_le _⟩) (fun H locs X => ?_)
      refine lv_istore (lv' := [(7, .int r_5), (6, .int r_3), (0, .ref (ad 0)), (1, .int a1), (2, .int a2), (3, .int a3), (4, .int a4), (5, .int x5)]) S.1 S.2.1 dX5_odds_201 hl (by decide) rfl (fun ls hl => ?_)
      refine lv_iload S.1 S.2.1 dX5_odds_203 (lv_at hl 6 rfl) ?_
      refine lv_if_ne (tgt := 216) S.1 S.2.1 dX5_odds_205 (by decide) (fun hc_6 => ?_) (fun hc_6 => ?_)
      · have h := zif_neg hc_6 h
        refine lv_iload S.1 S.2.1 dX5_odds_216 (lv_at hl 1 rfl) ?_
        refine lv_iload S.1 S.2.1 dX5_odds_218 (lv_at hl 0 rfl) ?_
        obtain ⟨hz_7, h⟩ := zdv_some h
        refine lv_idiv S.1 S.2.1 dX5_odds_220 hz_7 ?_
        exact zr_iret S hr hlk X h dX5_odds_221
      · have h := zif_pos hc_6 h
        refine lv_iload S.1 S.2.1 dX5_odds_208 (lv_at hl 7 rfl) ?_
        refine lv_iload S.1 S.2.1 dX5_odds_210 (lv_at hl 0 rfl) ?_
        obtain ⟨hz_8, h⟩ := zdv_some h
        refine lv_idiv S.1 S.2.1 dX5_odds_212 hz_8 ?_
        refine lv_goto (tgt := 221) S.1 S.2.1 dX5_odds_213 (by decide) ?_
        exact zr_iret S hr hlk X h dX5_odds_221
    · have h := zif_neg hc_1 h
      refine lv_iconst (v := (1 : Int32)) S.1 S.2.1 dX5_odds_59 (by decide) ?_
      refine lv_istore (lv' := [(7, .int (1 : Int32)), (0, .ref (ad 0)), (1, .int a1), (2, .int a2), (3, .int a3), (4, .int a4), (5, .int x5), (6, .int x6)]) S.1 S.2.1 dX5_odds_60 hl (by decide) rfl (fun ls hl => ?_)
      refine lv_aload_n S.1 S.2.1 dX5_odds_62 rfl (lv_at hl 1 rfl) ?_
      refine lv_aload_n S.1 S.2.1 dX5_odds_63 rfl (lv_at hl 1 rfl) ?_
      refine zr_get (v := .ref (ad 10)) S K X (hcs 0 (by decide)) mE_R rfl uX5_odds_X5 19 (by decide) kX5_odds_38 rfl rfl dX5_odds_64 ?_
      refine lv_iload_n S.1 S.2.1 dX5_odds_67 rfl (lv_at hl 2 rfl) ?_
      obtain ⟨r_10, G_11, tr_12, hf_9, h⟩ := zbd_some h
      refine zr_callv (Eg := (mE ki ad)) K X (va_runV (As := [.ref (ad 10), .int a1]) (rest := []) S (mX5_takesLetter l D ki ad cs hcs N 10 a1 (kA_10 hcs) G tr H.size _ _ _ hf_9) (cwV 2 S.2.2.2.2 gX5_odds_X5_takesLetter rfl rfl rfl (by decide +kernel) ⟨Nat.le_of_ble_eq_true rfl, Nat.le_of_ble_eq_true rfl⟩) (zr_preV (c0 := 0) K X (hcs 0 (by decide)) mE_R rfl) rfl rfl hl.1 rfl (lv_room (Nat.le_of_ble_eq_true rfl)) dX5_odds_68 ⟨Nat.zero_le _, Nat.zero_le _⟩) (fun H locs X => ?_)
      refine lv_iconst (v := (0 : Int32)) S.1 S.2.1 dX5_odds_71 (by decide) ?_
      refine lv_istore (lv' := [(8, .int (0 : Int32)), (7, .int (1 : Int32)), (0, .ref (ad 0)), (1, .int a1), (2, .int a2), (3, .int a3), (4, .int a4), (5, .int x5), (6, .int x6)]) S.1 S.2.1 dX5_odds_72 hl (by decide) rfl (fun ls hl => ?_)
      exact L74 k51 hk51 N x5 x6 (1 : Int32) (0 : Int32) G_11 tr_12 h _ _ _ X (lv_sub hl [2, 3, 4, 5, 6, 7, 8, 1, 0] rfl)
  have L51 : ∀ (n : Nat) (x5 : Int32) (x6 : Int32) (G : zMem) (tr : Int64), fX5_odds_L51 N a1 a2 a3 a4 n x5 x6 G tr = some (r9, G9, tr9) → zAt p l e (headSpec wsX5_odds { frames := 2, cells := 0, slots := 0, locals := 53 }).room s m ([.ref (ad 0), .int a1, .int a2, .int a3, .int a4] : List Value).toArray below meth c 10 D cs ad (zQI below ([.ref (ad 0), .int a1, .int a2, .int a3, .int a4] : List Value).toArray s D cs ad ((mE ki ad) G9 tr9) r9) 51 [(0, .ref (ad 0)), (1, .int a1), (2, .int a2), (3, .int a3), (4, .int a4), (5, .int x5), (6, .int x6)] [] ((mE ki ad) G tr) := by
    intro n
    induction n with
    | zero => intro x5 x6 G tr h; cases h
    | succ n ih => intro x5 x6 G tr h; exact b51 (fX5_odds_L51 N a1 a2 a3 a4 n) ih x5 x6 G tr h
  unfold fX5_odds at h
  obtain ⟨H, hH⟩ : ∃ H, H = s.heap := ⟨_, rfl⟩
  obtain ⟨locs, hlo⟩ : ∃ locs : List Loc, locs = [] := ⟨_, rfl⟩
  have X : gS D cs ad ((mE ki ad) G tr) (gA cs ad s.heap.size) s H locs := by rw [hH, hlo]; exact X
  suffices z : W p l e (headSpec wsX5_odds { frames := 2, cells := 0, slots := 0, locals := 53 }).room s m ([.ref (ad 0), .int a1, .int a2, .int a3, .int a4] : List Value).toArray below meth c H locs 0 0 (zQI below ([.ref (ad 0), .int a1, .int a2, .int a3, .int a4] : List Value).toArray s D cs ad ((mE ki ad) G9 tr9) r9) (F0 m 0 ls []) by rw [hH, hlo] at z; exact z
  clear hH hlo
  refine lv_aload_n S.1 S.2.1 dX5_odds_0 rfl (lv_at hl 0 rfl) ?_
  refine lv_iconst (v := (0 : Int32)) S.1 S.2.1 dX5_odds_1 (by decide) ?_
  refine zr_put (xv := (0 : Int32)) (v := .int (0 : Int32)) (fsf := (fsR ad tr)) (ty := .int) S K X (hcs 0 (by decide)) mE_loc (fun _ => mE_R) rfl uX5_odds_X5 tyX5 tyX5_ok nmX5 0 (by decide) kX5_odds_47 rfl (by decide +kernel) rfl rfl (by simp) rfl dX5_odds_2 (fun H locs X => ?_)
  refine lv_aload_n S.1 S.2.1 dX5_odds_5 rfl (lv_at hl 0 rfl) ?_
  refine lv_iload_n S.1 S.2.1 dX5_odds_6 rfl (lv_at hl 1 rfl) ?_
  obtain ⟨r_2, G_3, tr_4, hf_1, h⟩ := zbd_some h
  refine zr_calli (Eg := (mE ki ad)) K X (va_runV (As := [.int a1]) (rest := []) S (mX5_isLetter l D ki ad cs hcs N a1 (up2 G 0 0 (0 : Int32)) tr H.size _ _ _ hf_1) (cwV 1 S.2.2.2.2 gX5_odds_X5_isLetter rfl rfl rfl (by decide +kernel) ⟨Nat.le_of_ble_eq_true rfl, Nat.le_of_ble_eq_true rfl⟩) (zr_preV (c0 := 0) K X (hcs 0 (by decide)) mE_R rfl) rfl rfl hl.1 rfl (lv_room (Nat.le_of_ble_eq_true rfl)) dX5_odds_7 ⟨Nat.zero_le _, Nat.zero_le _⟩) (fun H locs X => ?_)
  refine lv_if_eq (tgt := 43) S.1 S.2.1 dX5_odds_10 (by decide) (fun hc_5 => ?_) (fun hc_5 => ?_)
  · have h := zif_pos hc_5 h
    refine lv_iconst (v := (-1 : Int32)) S.1 S.2.1 dX5_odds_43 (by decide) ?_
    exact zr_iret S hr hlk X h dX5_odds_44
  · have h := zif_neg hc_5 h
    refine lv_iload_n S.1 S.2.1 dX5_odds_13 rfl (lv_at hl 2 rfl) ?_
    refine lv_iconst (v := (0 : Int32)) S.1 S.2.1 dX5_odds_14 (by decide) ?_
    refine lv_bipush (v := (10 : Int32)) S.1 S.2.1 dX5_odds_15 (by decide) ?_
    obtain ⟨r_7, hf_6, h⟩ := zbp_some h
    refine zr_calli (Eg := (mE ki ad)) (G' := G_3) (tr' := tr_4) K X (va_runS (As := [.int a2, .int (0 : Int32), .int (10 : Int32)]) (rest := []) S (mX5_in l D ki ad cs N a2 (0 : Int32) (10 : Int32) (mE ki ad) G_3 tr_4 H.size _ _ _ (zpu_of hf_6)) (va_cwS 3 S.2.2.2.2 gX5_odds_X5_in rfl rfl rfl (by decide +kernel) ⟨Nat.le_of_ble_eq_true rfl, Nat.le_of_ble_eq_true rfl⟩) (zr_pre K X) rfl rfl hl.1 rfl (lv_room (Nat.le_of_ble_eq_true rfl)) dX5_odds_17 ⟨Nat.zero_le _, Nat.zero_le _⟩) (fun H locs X => ?_)
    refine lv_if_eq (tgt := 43) S.1 S.2.1 dX5_odds_20 (by decide) (fun hc_8 => ?_) (fun hc_8 => ?_)
    · have h := zif_pos hc_8 h
      refine lv_iconst (v := (-1 : Int32)) S.1 S.2.1 dX5_odds_43 (by decide) ?_
      exact zr_iret S hr hlk X h dX5_odds_44
    · have h := zif_neg hc_8 h
      refine lv_iload_n S.1 S.2.1 dX5_odds_23 rfl (lv_at hl 3 rfl) ?_
      refine lv_iconst (v := (0 : Int32)) S.1 S.2.1 dX5_odds_24 (by decide) ?_
      refine lv_bipush (v := (6 : Int32)) S.1 S.2.1 dX5_odds_25 (by decide) ?_
      obtain ⟨r_10, hf_9, h⟩ := zbp_some h
      refine zr_calli (Eg := (mE ki ad)) (G' := G_3) (tr' := tr_4) K X (va_runS (As := [.int a3, .int (0 : Int32), .int (6 : Int32)]) (rest := []) S (mX5_in l D ki ad cs N a3 (0 : Int32) (6 : Int32) (mE ki ad) G_3 tr_4 H.size _ _ _ (zpu_of hf_9)) (va_cwS 3 S.2.2.2.2 gX5_odds_X5_in rfl rfl rfl (by decide +kernel) ⟨Nat.le_of_ble_eq_true rfl, Nat.le_of_ble_eq_true rfl⟩) (zr_pre K X) rfl rfl hl.1 rfl (lv_room (Nat.le_of_ble_eq_true rfl)) dX5_odds_27 ⟨Nat.zero_le _, Nat.zero_le _⟩) (fun H locs X => ?_)
      refine lv_if_eq (tgt := 43) S.1 S.2.1 dX5_odds_30 (by decide) (fun hc_11 => ?_) (fun hc_11 => ?_)
      · have h := zif_pos hc_11 h
        refine lv_iconst (v := (-1 : Int32)) S.1 S.2.1 dX5_odds_43 (by decide) ?_
        exact zr_iret S hr hlk X h dX5_odds_44
      · have h := zif_neg hc_11 h
        refine lv_iload S.1 S.2.1 dX5_odds_33 (lv_at hl 4 rfl) ?_
        refine lv_iconst (v := (0 : Int32)) S.1 S.2.1 dX5_odds_35 (by decide) ?_
        refine lv_iconst (v := (1 : Int32)) S.1 S.2.1 dX5_odds_36 (by decide) ?_
        obtain ⟨r_13, hf_12, h⟩ := zbp_some h
        refine zr_calli (Eg := (mE ki ad)) (G' := G_3) (tr' := tr_4) K X (va_runS (As := [.int a4, .int (0 : Int32), .int (1 : Int32)]) (rest := []) S (mX5_in l D ki ad cs N a4 (0 : Int32) (1 : Int32) (mE ki ad) G_3 tr_4 H.size _ _ _ (zpu_of hf_12)) (va_cwS 3 S.2.2.2.2 gX5_odds_X5_in rfl rfl rfl (by decide +kernel) ⟨Nat.le_of_ble_eq_true rfl, Nat.le_of_ble_eq_true rfl⟩) (zr_pre K X) rfl rfl hl.1 rfl (lv_room (Nat.le_of_ble_eq_true rfl)) dX5_odds_37 ⟨Nat.zero_le _, Nat.zero_le _⟩) (fun H locs X => ?_)
        refine lv_if_ne (tgt := 45) S.1 S.2.1 dX5_odds_40 (by decide) (fun hc_14 => ?_) (fun hc_14 => ?_)
        · have h := zif_neg hc_14 h
          refine lv_iconst (v := (0 : Int32)) S.1 S.2.1 dX5_odds_45 (by decide) ?_
          refine lv_istore (lv' := [(5, .int (0 : Int32)), (0, .ref (ad 0)), (1, .int a1), (2, .int a2), (3, .int a3), (4, .int a4)]) S.1 S.2.1 dX5_odds_46 hl (by decide) rfl (fun ls hl => ?_)
          refine lv_iconst (v := (0 : Int32)) S.1 S.2.1 dX5_odds_48 (by decide) ?_
          refine lv_istore (lv' := [(6, .int (0 : Int32)), (5, .int (0 : Int32)), (0, .ref (ad 0)), (1, .int a1), (2, .int a2), (3, .int a3), (4, .int a4)]) S.1 S.2.1 dX5_odds_49 hl (by decide) rfl (fun ls hl => ?_)
          exact L51 N (0 : Int32) (0 : Int32) G_3 tr_4 h _ _ _ X (lv_sub hl [2, 3, 4, 5, 6, 1, 0] rfl)
        · have h := zif_pos hc_14 h
          refine lv_iconst (v := (-1 : Int32)) S.1 S.2.1 dX5_odds_43 (by decide) ?_
          exact zr_iret S hr hlk X h dX5_odds_44
set_option maxRecDepth 20000 in
theorem ggX5_rate_X5_in : GoodIn wsX5_rate wsX5_in := goodIn_r _ [13] (by decide +kernel) (by decide +kernel)
set_option maxRecDepth 20000 in
theorem gX5_rate_X5_in : GoodIn wsX5_rate (va_wsS RX5 51 yX5_in wsX5_in) := goodIn_app (goodIn_of _ (by decide +kernel)) ggX5_rate_X5_in
set_option maxRecDepth 20000 in
theorem ggX5_rate_X5_isLetter : GoodIn wsX5_rate wsX5_isLetter := goodIn_r _ [17, 3, 10, 11, 12, 13, 21, 22, 23, 24, 25, 26, 27, 28, 29, 30, 31, 32, 33, 34, 35, 36, 37, 38, 39, 40, 41, 42] (by decide +kernel) (by decide +kernel)
set_option maxRecDepth 20000 in
theorem gX5_rate_X5_isLetter : GoodIn wsX5_rate (wsV RX5 128 RX5 yX5_isLetter wsX5_isLetter) := goodIn_app (goodIn_of _ (by decide +kernel)) ggX5_rate_X5_isLetter
set_option maxRecDepth 20000 in
theorem ggX5_rate_X5_ones : GoodIn wsX5_rate wsX5_ones := goodIn_r _ [20] (by decide +kernel) (by decide +kernel)
set_option maxRecDepth 20000 in
theorem gX5_rate_X5_ones : GoodIn wsX5_rate (va_wsS RX5 168 yX5_ones wsX5_ones) := goodIn_app (goodIn_of _ (by decide +kernel)) ggX5_rate_X5_ones
theorem dX5_rate_0 : decode cX5_rate 0 = .ok (.aload_n 0, 1) := by decide +kernel
theorem dX5_rate_1 : decode cX5_rate 1 = .ok (.iconst 0, 1) := by decide +kernel
theorem dX5_rate_2 : decode cX5_rate 2 = .ok (.putfield 47, 3) := by decide +kernel
theorem dX5_rate_5 : decode cX5_rate 5 = .ok (.iload_n 1, 1) := by decide +kernel
theorem dX5_rate_6 : decode cX5_rate 6 = .ok (.iconst 0, 1) := by decide +kernel
theorem dX5_rate_7 : decode cX5_rate 7 = .ok (.iconst 5, 1) := by decide +kernel
theorem dX5_rate_8 : decode cX5_rate 8 = .ok (.invokestatic 51, 3) := by decide +kernel
theorem dX5_rate_11 : decode cX5_rate 11 = .ok (.ifCond .eq 11, 3) := by decide +kernel
theorem dX5_rate_14 : decode cX5_rate 14 = .ok (.aload_n 0, 1) := by decide +kernel
theorem dX5_rate_15 : decode cX5_rate 15 = .ok (.iload_n 2, 1) := by decide +kernel
theorem dX5_rate_16 : decode cX5_rate 16 = .ok (.invokevirtual 128, 3) := by decide +kernel
theorem dX5_rate_19 : decode cX5_rate 19 = .ok (.ifCond .ne 6, 3) := by decide +kernel
theorem dX5_rate_22 : decode cX5_rate 22 = .ok (.ldc 171, 2) := by decide +kernel
theorem dX5_rate_24 : decode cX5_rate 24 = .ok (.ireturn, 1) := by decide +kernel
theorem dX5_rate_25 : decode cX5_rate 25 = .ok (.bipush 15, 2) := by decide +kernel
theorem dX5_rate_27 : decode cX5_rate 27 = .ok (.bipush 6, 2) := by decide +kernel
theorem dX5_rate_29 : decode cX5_rate 29 = .ok (.iload_n 2, 1) := by decide +kernel
theorem dX5_rate_30 : decode cX5_rate 30 = .ok (.imul, 1) := by decide +kernel
theorem dX5_rate_31 : decode cX5_rate 31 = .ok (.iadd, 1) := by decide +kernel
theorem dX5_rate_32 : decode cX5_rate 32 = .ok (.istore_n 3, 1) := by decide +kernel
theorem dX5_rate_33 : decode cX5_rate 33 = .ok (.aload_n 0, 1) := by decide +kernel
theorem dX5_rate_34 : decode cX5_rate 34 = .ok (.getfield 25, 3) := by decide +kernel
theorem dX5_rate_37 : decode cX5_rate 37 = .ok (.iload_n 3, 1) := by decide +kernel
theorem dX5_rate_38 : decode cX5_rate 38 = .ok (.iaload, 1) := by decide +kernel
theorem dX5_rate_39 : decode cX5_rate 39 = .ok (.istore 4, 2) := by decide +kernel
theorem dX5_rate_41 : decode cX5_rate 41 = .ok (.iload 4, 2) := by decide +kernel
theorem dX5_rate_43 : decode cX5_rate 43 = .ok (.aload_n 0, 1) := by decide +kernel
theorem dX5_rate_44 : decode cX5_rate 44 = .ok (.getfield 25, 3) := by decide +kernel
theorem dX5_rate_47 : decode cX5_rate 47 = .ok (.iload_n 3, 1) := by decide +kernel
theorem dX5_rate_48 : decode cX5_rate 48 = .ok (.iconst 4, 1) := by decide +kernel
theorem dX5_rate_49 : decode cX5_rate 49 = .ok (.iadd, 1) := by decide +kernel
theorem dX5_rate_50 : decode cX5_rate 50 = .ok (.iaload, 1) := by decide +kernel
theorem dX5_rate_51 : decode cX5_rate 51 = .ok (.invokestatic 168, 3) := by decide +kernel
theorem dX5_rate_54 : decode cX5_rate 54 = .ok (.iadd, 1) := by decide +kernel
theorem dX5_rate_55 : decode cX5_rate 55 = .ok (.istore 5, 2) := by decide +kernel
theorem dX5_rate_57 : decode cX5_rate 57 = .ok (.iload 4, 2) := by decide +kernel
theorem dX5_rate_59 : decode cX5_rate 59 = .ok (.aload_n 0, 1) := by decide +kernel
theorem dX5_rate_60 : decode cX5_rate 60 = .ok (.getfield 25, 3) := by decide +kernel
theorem dX5_rate_63 : decode cX5_rate 63 = .ok (.iload_n 3, 1) := by decide +kernel
theorem dX5_rate_64 : decode cX5_rate 64 = .ok (.iconst 3, 1) := by decide +kernel
theorem dX5_rate_65 : decode cX5_rate 65 = .ok (.iadd, 1) := by decide +kernel
theorem dX5_rate_66 : decode cX5_rate 66 = .ok (.iaload, 1) := by decide +kernel
theorem dX5_rate_67 : decode cX5_rate 67 = .ok (.isub, 1) := by decide +kernel
theorem dX5_rate_68 : decode cX5_rate 68 = .ok (.istore 6, 2) := by decide +kernel
theorem dX5_rate_70 : decode cX5_rate 70 = .ok (.aload_n 0, 1) := by decide +kernel
theorem dX5_rate_71 : decode cX5_rate 71 = .ok (.dup, 1) := by decide +kernel
theorem dX5_rate_72 : decode cX5_rate 72 = .ok (.getfield 178, 3) := by decide +kernel
theorem dX5_rate_75 : decode cX5_rate 75 = .ok (.iload_n 1, 1) := by decide +kernel
theorem dX5_rate_76 : decode cX5_rate 76 = .ok (.ifCond .ne 7, 3) := by decide +kernel
theorem dX5_rate_79 : decode cX5_rate 79 = .ok (.lconst 1, 1) := by decide +kernel
theorem dX5_rate_80 : decode cX5_rate 80 = .ok (.goto 50, 3) := by decide +kernel
theorem dX5_rate_83 : decode cX5_rate 83 = .ok (.iload_n 1, 1) := by decide +kernel
theorem dX5_rate_84 : decode cX5_rate 84 = .ok (.iconst 1, 1) := by decide +kernel
theorem dX5_rate_85 : decode cX5_rate 85 = .ok (.if_icmp .ne 9, 3) := by decide +kernel
theorem dX5_rate_88 : decode cX5_rate 88 = .ok (.ldc2_w 182, 3) := by decide +kernel
theorem dX5_rate_91 : decode cX5_rate 91 = .ok (.goto 39, 3) := by decide +kernel
theorem dX5_rate_94 : decode cX5_rate 94 = .ok (.iload_n 1, 1) := by decide +kernel
theorem dX5_rate_95 : decode cX5_rate 95 = .ok (.iconst 2, 1) := by decide +kernel
theorem dX5_rate_96 : decode cX5_rate 96 = .ok (.if_icmp .ne 9, 3) := by decide +kernel
theorem dX5_rate_99 : decode cX5_rate 99 = .ok (.ldc2_w 184, 3) := by decide +kernel
theorem dX5_rate_102 : decode cX5_rate 102 = .ok (.goto 28, 3) := by decide +kernel
theorem dX5_rate_105 : decode cX5_rate 105 = .ok (.iload_n 1, 1) := by decide +kernel
theorem dX5_rate_106 : decode cX5_rate 106 = .ok (.iconst 3, 1) := by decide +kernel
theorem dX5_rate_107 : decode cX5_rate 107 = .ok (.if_icmp .ne 9, 3) := by decide +kernel
theorem dX5_rate_110 : decode cX5_rate 110 = .ok (.ldc2_w 186, 3) := by decide +kernel
theorem dX5_rate_113 : decode cX5_rate 113 = .ok (.goto 17, 3) := by decide +kernel
theorem dX5_rate_116 : decode cX5_rate 116 = .ok (.iload_n 1, 1) := by decide +kernel
theorem dX5_rate_117 : decode cX5_rate 117 = .ok (.iconst 4, 1) := by decide +kernel
theorem dX5_rate_118 : decode cX5_rate 118 = .ok (.if_icmp .ne 9, 3) := by decide +kernel
theorem dX5_rate_121 : decode cX5_rate 121 = .ok (.ldc2_w 188, 3) := by decide +kernel
theorem dX5_rate_124 : decode cX5_rate 124 = .ok (.goto 6, 3) := by decide +kernel
theorem dX5_rate_127 : decode cX5_rate 127 = .ok (.ldc2_w 190, 3) := by decide +kernel
theorem dX5_rate_130 : decode cX5_rate 130 = .ok (.ladd, 1) := by decide +kernel
theorem dX5_rate_131 : decode cX5_rate 131 = .ok (.putfield 178, 3) := by decide +kernel
theorem dX5_rate_134 : decode cX5_rate 134 = .ok (.iload_n 1, 1) := by decide +kernel
theorem dX5_rate_135 : decode cX5_rate 135 = .ok (.ifCond .ne 8, 3) := by decide +kernel
theorem dX5_rate_138 : decode cX5_rate 138 = .ok (.iload 4, 2) := by decide +kernel
theorem dX5_rate_140 : decode cX5_rate 140 = .ok (.goto 56, 3) := by decide +kernel
theorem dX5_rate_143 : decode cX5_rate 143 = .ok (.iload_n 1, 1) := by decide +kernel
theorem dX5_rate_144 : decode cX5_rate 144 = .ok (.iconst 1, 1) := by decide +kernel
theorem dX5_rate_145 : decode cX5_rate 145 = .ok (.if_icmp .ne 8, 3) := by decide +kernel
theorem dX5_rate_148 : decode cX5_rate 148 = .ok (.iload 5, 2) := by decide +kernel
theorem dX5_rate_150 : decode cX5_rate 150 = .ok (.goto 46, 3) := by decide +kernel
theorem dX5_rate_153 : decode cX5_rate 153 = .ok (.iload_n 1, 1) := by decide +kernel
theorem dX5_rate_154 : decode cX5_rate 154 = .ok (.iconst 2, 1) := by decide +kernel
theorem dX5_rate_155 : decode cX5_rate 155 = .ok (.if_icmp .ne 8, 3) := by decide +kernel
theorem dX5_rate_158 : decode cX5_rate 158 = .ok (.iload 6, 2) := by decide +kernel
theorem dX5_rate_160 : decode cX5_rate 160 = .ok (.goto 36, 3) := by decide +kernel
theorem dX5_rate_163 : decode cX5_rate 163 = .ok (.iload_n 1, 1) := by decide +kernel
theorem dX5_rate_164 : decode cX5_rate 164 = .ok (.iconst 3, 1) := by decide +kernel
theorem dX5_rate_165 : decode cX5_rate 165 = .ok (.if_icmp .ne 10, 3) := by decide +kernel
theorem dX5_rate_168 : decode cX5_rate 168 = .ok (.iconst 2, 1) := by decide +kernel
theorem dX5_rate_169 : decode cX5_rate 169 = .ok (.iload 5, 2) := by decide +kernel
theorem dX5_rate_171 : decode cX5_rate 171 = .ok (.imul, 1) := by decide +kernel
theorem dX5_rate_172 : decode cX5_rate 172 = .ok (.goto 24, 3) := by decide +kernel
theorem dX5_rate_175 : decode cX5_rate 175 = .ok (.iload_n 1, 1) := by decide +kernel
theorem dX5_rate_176 : decode cX5_rate 176 = .ok (.iconst 4, 1) := by decide +kernel
theorem dX5_rate_177 : decode cX5_rate 177 = .ok (.if_icmp .ne 10, 3) := by decide +kernel
theorem dX5_rate_180 : decode cX5_rate 180 = .ok (.iload 6, 2) := by decide +kernel
theorem dX5_rate_182 : decode cX5_rate 182 = .ok (.iload_n 2, 1) := by decide +kernel
theorem dX5_rate_183 : decode cX5_rate 183 = .ok (.iadd, 1) := by decide +kernel
theorem dX5_rate_184 : decode cX5_rate 184 = .ok (.goto 12, 3) := by decide +kernel
theorem dX5_rate_187 : decode cX5_rate 187 = .ok (.iload 4, 2) := by decide +kernel
theorem dX5_rate_189 : decode cX5_rate 189 = .ok (.aload_n 0, 1) := by decide +kernel
theorem dX5_rate_190 : decode cX5_rate 190 = .ok (.getfield 25, 3) := by decide +kernel
theorem dX5_rate_193 : decode cX5_rate 193 = .ok (.iconst 0, 1) := by decide +kernel
theorem dX5_rate_194 : decode cX5_rate 194 = .ok (.iaload, 1) := by decide +kernel
theorem dX5_rate_195 : decode cX5_rate 195 = .ok (.iadd, 1) := by decide +kernel
theorem dX5_rate_196 : decode cX5_rate 196 = .ok (.ireturn, 1) := by decide +kernel
set_option maxRecDepth 20000 in
theorem kX5_rate_25 : Cond.fieldLink RX5 25 "WindPostModel" "s" "[I" ∈ wsX5_rate := by decide +kernel
set_option maxRecDepth 20000 in
theorem kX5_rate_47 : Cond.fieldLink RX5 47 "WindPostModel" "thrown" "I" ∈ wsX5_rate := by decide +kernel
set_option maxRecDepth 20000 in
theorem kX5_rate_178 : Cond.fieldLink RX5 178 "WindPostModel" "trace" "J" ∈ wsX5_rate := by decide +kernel
set_option maxRecDepth 20000 in
theorem uX5_rate_X5 : ∀ w ∈ wsX50, w ∈ wsX5_rate := by decide +kernel
set_option maxRecDepth 20000 in
theorem qX5_rate_171 : Cond.constant RX5 171 (-1000000) ∈ wsX5_rate := by decide +kernel
set_option maxRecDepth 20000 in
theorem qX5_rate_190 : Cond.constantLong RX5 190 (100001) ∈ wsX5_rate := by decide +kernel
set_option maxRecDepth 20000 in
theorem qX5_rate_188 : Cond.constantLong RX5 188 (10101) ∈ wsX5_rate := by decide +kernel
set_option maxRecDepth 20000 in
theorem qX5_rate_186 : Cond.constantLong RX5 186 (1011) ∈ wsX5_rate := by decide +kernel
set_option maxRecDepth 20000 in
theorem qX5_rate_184 : Cond.constantLong RX5 184 (101) ∈ wsX5_rate := by decide +kernel
set_option maxRecDepth 20000 in
theorem qX5_rate_182 : Cond.constantLong RX5 182 (11) ∈ wsX5_rate := by decide +kernel
set_option maxHeartbeats 8000000 in
set_option maxRecDepth 100000 in
theorem mX5_rate (l : Launch) (D : va_G) (ki : Nat → ClassId) (ad : Nat → Nat) (cs : List Nat) (hcs : kR cs) (N : Nat) (a1 : Int32) (a2 : Int32) (G : zMem) (tr : Int64) : gMetI l D ki ad cs yX5_rate wsX5_rate { frames := 2, cells := 0, slots := 0, locals := 43 } [.ref (ad 0), .int a1, .int a2] (mE ki ad) G tr (fX5_rate N a1 a2 G tr) := by
  refine gMetI_of (cc := cX5_rate) (maxL := 7) (ret := (some .int)) (own := RX5) (by decide +kernel) rfl rfl (Nat.le_of_ble_eq_true rfl) ?_
  intro r9 G9 tr9 h p e s m below meth c S hr hlk K X ls hl
  have hl : lv_has ls 7 [(0, .ref (ad 0)), (1, .int a1), (2, .int a2)] := hl
  have b130 : ∀ (x4 : Int32) (x5 : Int32) (x6 : Int32) (s0 : Int64) (s1 : Int64) (G : zMem) (tr : Int64), fX5_rate_b130 N a1 a2 x4 x5 x6 s0 s1 G tr = some (r9, G9, tr9) → zAt p l e (headSpec wsX5_rate { frames := 2, cells := 0, slots := 0, locals := 43 }).room s m ([.ref (ad 0), .int a1, .int a2] : List Value).toArray below meth c 7 D cs ad (zQI below ([.ref (ad 0), .int a1, .int a2] : List Value).toArray s D cs ad ((mE ki ad) G9 tr9) r9) 130 [(0, .ref (ad 0)), (1, .int a1), (2, .int a2), (4, .int x4), (5, .int x5), (6, .int x6)] [.long s0, .long s1, .ref (ad 0)] ((mE ki ad) G tr) := by
    intro x4 x5 x6 s0 s1 G tr h H locs ls X hl
    unfold fX5_rate_b130 at h
    refine lv_ladd S.1 S.2.1 dX5_rate_130 ?_
    refine zr_putL (fsf := (fun tr => fsR ad tr (G 0))) S K X (hcs 0 (by decide)) mE_trl (fun _ => rfl) rfl uX5_rate_X5 tyX5 tyX5_ok nmX5 1 (by decide) kX5_rate_178 rfl (by decide +kernel) (by simp) rfl dX5_rate_131 (fun H locs X => ?_)
    refine lv_iload_n S.1 S.2.1 dX5_rate_134 rfl (lv_at hl 1 rfl) ?_
    refine lv_if_ne (tgt := 143) S.1 S.2.1 dX5_rate_135 (by decide) (fun hc_1 => ?_) (fun hc_1 => ?_)
    · have h := zif_neg hc_1 h
      refine lv_iload_n S.1 S.2.1 dX5_rate_143 rfl (lv_at hl 1 rfl) ?_
      refine lv_iconst (v := (1 : Int32)) S.1 S.2.1 dX5_rate_144 (by decide) ?_
      refine lv_icmp_ne (tgt := 153) S.1 S.2.1 dX5_rate_145 (by decide) (fun hc_2 => ?_) (fun hc_2 => ?_)
      · have h := zif_neg hc_2 h
        refine lv_iload_n S.1 S.2.1 dX5_rate_153 rfl (lv_at hl 1 rfl) ?_
        refine lv_iconst (v := (2 : Int32)) S.1 S.2.1 dX5_rate_154 (by decide) ?_
        refine lv_icmp_ne (tgt := 163) S.1 S.2.1 dX5_rate_155 (by decide) (fun hc_3 => ?_) (fun hc_3 => ?_)
        · have h := zif_neg hc_3 h
          refine lv_iload_n S.1 S.2.1 dX5_rate_163 rfl (lv_at hl 1 rfl) ?_
          refine lv_iconst (v := (3 : Int32)) S.1 S.2.1 dX5_rate_164 (by decide) ?_
          refine lv_icmp_ne (tgt := 175) S.1 S.2.1 dX5_rate_165 (by decide) (fun hc_4 => ?_) (fun hc_4 => ?_)
          · have h := zif_neg hc_4 h
            refine lv_iload_n S.1 S.2.1 dX5_rate_175 rfl (lv_at hl 1 rfl) ?_
            refine lv_iconst (v := (4 : Int32)) S.1 S.2.1 dX5_rate_176 (by decide) ?_
            refine lv_icmp_ne (tgt := 187) S.1 S.2.1 dX5_rate_177 (by decide) (fun hc_5 => ?_) (fun hc_5 => ?_)
            · have h := zif_neg hc_5 h
              refine lv_iload S.1 S.2.1 dX5_rate_187 (lv_at hl 3 rfl) ?_
              refine lv_aload_n S.1 S.2.1 dX5_rate_189 rfl (lv_at hl 0 rfl) ?_
              refine zr_get (v := .ref (ad 6)) S K X (hcs 0 (by decide)) mE_R rfl uX5_rate_X5 14 (by decide) kX5_rate_25 rfl rfl dX5_rate_190 ?_
              refine lv_iconst (v := (0 : Int32)) S.1 S.2.1 dX5_rate_193 (by decide) ?_
              obtain ⟨hi_6, h⟩ := zin_some h
              refine zr_iald S K X (hcs 6 (by decide)) mE_6 hi_6 dX5_rate_194 ?_
              refine lv_iadd S.1 S.2.1 dX5_rate_195 ?_
              exact zr_iret S hr hlk X h dX5_rate_196
            · have h := zif_pos hc_5 h
              refine lv_iload S.1 S.2.1 dX5_rate_180 (lv_at hl 5 rfl) ?_
              refine lv_iload_n S.1 S.2.1 dX5_rate_182 rfl (lv_at hl 2 rfl) ?_
              refine lv_iadd S.1 S.2.1 dX5_rate_183 ?_
              refine lv_goto (tgt := 196) S.1 S.2.1 dX5_rate_184 (by decide) ?_
              exact zr_iret S hr hlk X h dX5_rate_196
          · have h := zif_pos hc_4 h
            refine lv_iconst (v := (2 : Int32)) S.1 S.2.1 dX5_rate_168 (by decide) ?_
            refine lv_iload S.1 S.2.1 dX5_rate_169 (lv_at hl 4 rfl) ?_
            refine lv_imul S.1 S.2.1 dX5_rate_171 ?_
            refine lv_goto (tgt := 196) S.1 S.2.1 dX5_rate_172 (by decide) ?_
            exact zr_iret S hr hlk X h dX5_rate_196
        · have h := zif_pos hc_3 h
          refine lv_iload S.1 S.2.1 dX5_rate_158 (lv_at hl 5 rfl) ?_
          refine lv_goto (tgt := 196) S.1 S.2.1 dX5_rate_160 (by decide) ?_
          exact zr_iret S hr hlk X h dX5_rate_196
      · have h := zif_pos hc_2 h
        refine lv_iload S.1 S.2.1 dX5_rate_148 (lv_at hl 4 rfl) ?_
        refine lv_goto (tgt := 196) S.1 S.2.1 dX5_rate_150 (by decide) ?_
        exact zr_iret S hr hlk X h dX5_rate_196
    · have h := zif_pos hc_1 h
      refine lv_iload S.1 S.2.1 dX5_rate_138 (lv_at hl 3 rfl) ?_
      refine lv_goto (tgt := 196) S.1 S.2.1 dX5_rate_140 (by decide) ?_
      exact zr_iret S hr hlk X h dX5_rate_196
  unfold fX5_rate at h
  obtain ⟨H, hH⟩ : ∃ H, H = s.heap := ⟨_, rfl⟩
  obtain ⟨locs, hlo⟩ : ∃ locs : List Loc, locs = [] := ⟨_, rfl⟩
  have X : gS D cs ad ((mE ki ad) G tr) (gA cs ad s.heap.size) s H locs := by rw [hH, hlo]; exact X
  suffices z : W p l e (headSpec wsX5_rate { frames := 2, cells := 0, slots := 0, locals := 43 }).room s m ([.ref (ad 0), .int a1, .int a2] : List Value).toArray below meth c H locs 0 0 (zQI below ([.ref (ad 0), .int a1, .int a2] : List Value).toArray s D cs ad ((mE ki ad) G9 tr9) r9) (F0 m 0 ls []) by rw [hH, hlo] at z; exact z
  clear hH hlo
  refine lv_aload_n S.1 S.2.1 dX5_rate_0 rfl (lv_at hl 0 rfl) ?_
  refine lv_iconst (v := (0 : Int32)) S.1 S.2.1 dX5_rate_1 (by decide) ?_
  refine zr_put (xv := (0 : Int32)) (v := .int (0 : Int32)) (fsf := (fsR ad tr)) (ty := .int) S K X (hcs 0 (by decide)) mE_loc (fun _ => mE_R) rfl uX5_rate_X5 tyX5 tyX5_ok nmX5 0 (by decide) kX5_rate_47 rfl (by decide +kernel) rfl rfl (by simp) rfl dX5_rate_2 (fun H locs X => ?_)
  refine lv_iload_n S.1 S.2.1 dX5_rate_5 rfl (lv_at hl 1 rfl) ?_
  refine lv_iconst (v := (0 : Int32)) S.1 S.2.1 dX5_rate_6 (by decide) ?_
  refine lv_iconst (v := (5 : Int32)) S.1 S.2.1 dX5_rate_7 (by decide) ?_
  obtain ⟨r_2, hf_1, h⟩ := zbp_some h
  refine zr_calli (Eg := (mE ki ad)) (G' := (up2 G 0 0 (0 : Int32))) (tr' := tr) K X (va_runS (As := [.int a1, .int (0 : Int32), .int (5 : Int32)]) (rest := []) S (mX5_in l D ki ad cs N a1 (0 : Int32) (5 : Int32) (mE ki ad) (up2 G 0 0 (0 : Int32)) tr H.size _ _ _ (zpu_of hf_1)) (va_cwS 3 S.2.2.2.2 gX5_rate_X5_in rfl rfl rfl (by decide +kernel) ⟨Nat.le_of_ble_eq_true rfl, Nat.le_of_ble_eq_true rfl⟩) (zr_pre K X) rfl rfl hl.1 rfl (lv_room (Nat.le_of_ble_eq_true rfl)) dX5_rate_8 ⟨Nat.zero_le _, Nat.zero_le _⟩) (fun H locs X => ?_)
  refine lv_if_eq (tgt := 22) S.1 S.2.1 dX5_rate_11 (by decide) (fun hc_3 => ?_) (fun hc_3 => ?_)
  · have h := zif_pos hc_3 h
    refine lv_ldc (own := RX5) (v := (-1000000 : Int32)) S.1 S.2.1 S.2.2.2.1 (S.2.2.2.2 _ qX5_rate_171) dX5_rate_22 ?_
    exact zr_iret S hr hlk X h dX5_rate_24
  · have h := zif_neg hc_3 h
    refine lv_aload_n S.1 S.2.1 dX5_rate_14 rfl (lv_at hl 0 rfl) ?_
    refine lv_iload_n S.1 S.2.1 dX5_rate_15 rfl (lv_at hl 2 rfl) ?_
    obtain ⟨r_5, G_6, tr_7, hf_4, h⟩ := zbd_some h
    refine zr_calli (Eg := (mE ki ad)) K X (va_runV (As := [.int a2]) (rest := []) S (mX5_isLetter l D ki ad cs hcs N a2 (up2 G 0 0 (0 : Int32)) tr H.size _ _ _ hf_4) (cwV 1 S.2.2.2.2 gX5_rate_X5_isLetter rfl rfl rfl (by decide +kernel) ⟨Nat.le_of_ble_eq_true rfl, Nat.le_of_ble_eq_true rfl⟩) (zr_preV (c0 := 0) K X (hcs 0 (by decide)) mE_R rfl) rfl rfl hl.1 rfl (lv_room (Nat.le_of_ble_eq_true rfl)) dX5_rate_16 ⟨Nat.zero_le _, Nat.zero_le _⟩) (fun H locs X => ?_)
    refine lv_if_ne (tgt := 25) S.1 S.2.1 dX5_rate_19 (by decide) (fun hc_8 => ?_) (fun hc_8 => ?_)
    · have h := zif_neg hc_8 h
      refine lv_bipush (v := (15 : Int32)) S.1 S.2.1 dX5_rate_25 (by decide) ?_
      refine lv_bipush (v := (6 : Int32)) S.1 S.2.1 dX5_rate_27 (by decide) ?_
      refine lv_iload_n S.1 S.2.1 dX5_rate_29 rfl (lv_at hl 2 rfl) ?_
      refine lv_imul S.1 S.2.1 dX5_rate_30 ?_
      refine lv_iadd S.1 S.2.1 dX5_rate_31 ?_
      refine lv_istore_n (lv' := [(3, .int ((15 : Int32) + ((6 : Int32) * a2))), (0, .ref (ad 0)), (1, .int a1), (2, .int a2)]) S.1 S.2.1 dX5_rate_32 rfl hl (by decide) rfl (fun ls hl => ?_)
      refine lv_aload_n S.1 S.2.1 dX5_rate_33 rfl (lv_at hl 1 rfl) ?_
      refine zr_get (v := .ref (ad 6)) S K X (hcs 0 (by decide)) mE_R rfl uX5_rate_X5 14 (by decide) kX5_rate_25 rfl rfl dX5_rate_34 ?_
      refine lv_iload_n S.1 S.2.1 dX5_rate_37 rfl (lv_at hl 0 rfl) ?_
      obtain ⟨hi_9, h⟩ := zin_some h
      refine zr_iald S K X (hcs 6 (by decide)) mE_6 hi_9 dX5_rate_38 ?_
      refine lv_istore (lv' := [(4, .int (G_6 6 (Int32.toNatClampNeg ((15 : Int32) + ((6 : Int32) * a2))))), (3, .int ((15 : Int32) + ((6 : Int32) * a2))), (0, .ref (ad 0)), (1, .int a1), (2, .int a2)]) S.1 S.2.1 dX5_rate_39 hl (by decide) rfl (fun ls hl => ?_)
      refine lv_iload S.1 S.2.1 dX5_rate_41 (lv_at hl 0 rfl) ?_
      refine lv_aload_n S.1 S.2.1 dX5_rate_43 rfl (lv_at hl 2 rfl) ?_
      refine zr_get (v := .ref (ad 6)) S K X (hcs 0 (by decide)) mE_R rfl uX5_rate_X5 14 (by decide) kX5_rate_25 rfl rfl dX5_rate_44 ?_
      refine lv_iload_n S.1 S.2.1 dX5_rate_47 rfl (lv_at hl 1 rfl) ?_
      refine lv_iconst (v := (4 : Int32)) S.1 S.2.1 dX5_rate_48 (by decide) ?_
      refine lv_iadd S.1 S.2.1 dX5_rate_49 ?_
      obtain ⟨hi_10, h⟩ := zin_some h
      refine zr_iald S K X (hcs 6 (by decide)) mE_6 hi_10 dX5_rate_50 ?_
      obtain ⟨r_12, hf_11, h⟩ := zbp_some h
      refine zr_calli (Eg := (mE ki ad)) (G' := G_6) (tr' := tr_7) K X (va_runS (As := [.int (G_6 6 (Int32.toNatClampNeg (((15 : Int32) + ((6 : Int32) * a2)) + (4 : Int32))))]) (rest := [.int (G_6 6 (Int32.toNatClampNeg ((15 : Int32) + ((6 : Int32) * a2))))]) S (mX5_ones l D ki ad cs N (G_6 6 (Int32.toNatClampNeg (((15 : Int32) + ((6 : Int32) * a2)) + (4 : Int32)))) (mE ki ad) G_6 tr_7 H.size _ _ _ (zpu_of hf_11)) (va_cwS 1 S.2.2.2.2 gX5_rate_X5_ones rfl rfl rfl (by decide +kernel) ⟨Nat.le_of_ble_eq_true rfl, Nat.le_of_ble_eq_true rfl⟩) (zr_pre K X) rfl rfl hl.1 rfl (lv_room (Nat.le_of_ble_eq_true rfl)) dX5_rate_51 ⟨Nat.zero_le _, Nat.zero_le _⟩) (fun H locs X => ?_)
      refine lv_iadd S.1 S.2.1 dX5_rate_54 ?_
      refine lv_istore (lv' := [(5, .int ((G_6 6 (Int32.toNatClampNeg ((15 : Int32) + ((6 : Int32) * a2)))) + r_12)), (4, .int (G_6 6 (Int32.toNatClampNeg ((15 : Int32) + ((6 : Int32) * a2))))), (3, .int ((15 : Int32) + ((6 : Int32) * a2))), (0, .ref (ad 0)), (1, .int a1), (2, .int a2)]) S.1 S.2.1 dX5_rate_55 hl (by decide) rfl (fun ls hl => ?_)
      refine lv_iload S.1 S.2.1 dX5_rate_57 (lv_at hl 1 rfl) ?_
      refine lv_aload_n S.1 S.2.1 dX5_rate_59 rfl (lv_at hl 3 rfl) ?_
      refine zr_get (v := .ref (ad 6)) S K X (hcs 0 (by decide)) mE_R rfl uX5_rate_X5 14 (by decide) kX5_rate_25 rfl rfl dX5_rate_60 ?_
      refine lv_iload_n S.1 S.2.1 dX5_rate_63 rfl (lv_at hl 2 rfl) ?_
      refine lv_iconst (v := (3 : Int32)) S.1 S.2.1 dX5_rate_64 (by decide) ?_
      refine lv_iadd S.1 S.2.1 dX5_rate_65 ?_
      obtain ⟨hi_13, h⟩ := zin_some h
      refine zr_iald S K X (hcs 6 (by decide)) mE_6 hi_13 dX5_rate_66 ?_
      refine lv_isub S.1 S.2.1 dX5_rate_67 ?_
      refine lv_istore (lv' := [(6, .int ((G_6 6 (Int32.toNatClampNeg ((15 : Int32) + ((6 : Int32) * a2)))) - (G_6 6 (Int32.toNatClampNeg (((15 : Int32) + ((6 : Int32) * a2)) + (3 : Int32)))))), (5, .int ((G_6 6 (Int32.toNatClampNeg ((15 : Int32) + ((6 : Int32) * a2)))) + r_12)), (4, .int (G_6 6 (Int32.toNatClampNeg ((15 : Int32) + ((6 : Int32) * a2))))), (3, .int ((15 : Int32) + ((6 : Int32) * a2))), (0, .ref (ad 0)), (1, .int a1), (2, .int a2)]) S.1 S.2.1 dX5_rate_68 hl (by decide) rfl (fun ls hl => ?_)
      refine lv_aload_n S.1 S.2.1 dX5_rate_70 rfl (lv_at hl 4 rfl) ?_
      refine lv_dup S.1 S.2.1 dX5_rate_71 rfl ?_
      refine zr_get (v := .long tr_7) S K X (hcs 0 (by decide)) mE_R rfl uX5_rate_X5 1 (by decide) kX5_rate_178 rfl rfl dX5_rate_72 ?_
      refine lv_iload_n S.1 S.2.1 dX5_rate_75 rfl (lv_at hl 5 rfl) ?_
      refine lv_if_ne (tgt := 83) S.1 S.2.1 dX5_rate_76 (by decide) (fun hc_14 => ?_) (fun hc_14 => ?_)
      · have h := zif_neg hc_14 h
        refine lv_iload_n S.1 S.2.1 dX5_rate_83 rfl (lv_at hl 5 rfl) ?_
        refine lv_iconst (v := (1 : Int32)) S.1 S.2.1 dX5_rate_84 (by decide) ?_
        refine lv_icmp_ne (tgt := 94) S.1 S.2.1 dX5_rate_85 (by decide) (fun hc_15 => ?_) (fun hc_15 => ?_)
        · have h := zif_neg hc_15 h
          refine lv_iload_n S.1 S.2.1 dX5_rate_94 rfl (lv_at hl 5 rfl) ?_
          refine lv_iconst (v := (2 : Int32)) S.1 S.2.1 dX5_rate_95 (by decide) ?_
          refine lv_icmp_ne (tgt := 105) S.1 S.2.1 dX5_rate_96 (by decide) (fun hc_16 => ?_) (fun hc_16 => ?_)
          · have h := zif_neg hc_16 h
            refine lv_iload_n S.1 S.2.1 dX5_rate_105 rfl (lv_at hl 5 rfl) ?_
            refine lv_iconst (v := (3 : Int32)) S.1 S.2.1 dX5_rate_106 (by decide) ?_
            refine lv_icmp_ne (tgt := 116) S.1 S.2.1 dX5_rate_107 (by decide) (fun hc_17 => ?_) (fun hc_17 => ?_)
            · have h := zif_neg hc_17 h
              refine lv_iload_n S.1 S.2.1 dX5_rate_116 rfl (lv_at hl 5 rfl) ?_
              refine lv_iconst (v := (4 : Int32)) S.1 S.2.1 dX5_rate_117 (by decide) ?_
              refine lv_icmp_ne (tgt := 127) S.1 S.2.1 dX5_rate_118 (by decide) (fun hc_18 => ?_) (fun hc_18 => ?_)
              · have h := zif_neg hc_18 h
                refine lv_ldc2 (own := RX5) (v := 100001) S.1 S.2.1 S.2.2.2.1 (S.2.2.2.2 _ qX5_rate_190) dX5_rate_127 ?_
                exact b130 (G_6 6 (Int32.toNatClampNeg ((15 : Int32) + ((6 : Int32) * a2)))) ((G_6 6 (Int32.toNatClampNeg ((15 : Int32) + ((6 : Int32) * a2)))) + r_12) ((G_6 6 (Int32.toNatClampNeg ((15 : Int32) + ((6 : Int32) * a2)))) - (G_6 6 (Int32.toNatClampNeg (((15 : Int32) + ((6 : Int32) * a2)) + (3 : Int32))))) (100001 : Int64) tr_7 G_6 tr_7 h _ _ _ X (lv_sub hl [4, 5, 6, 2, 1, 0] rfl)
              · have h := zif_pos hc_18 h
                refine lv_ldc2 (own := RX5) (v := 10101) S.1 S.2.1 S.2.2.2.1 (S.2.2.2.2 _ qX5_rate_188) dX5_rate_121 ?_
                refine lv_goto (tgt := 130) S.1 S.2.1 dX5_rate_124 (by decide) ?_
                exact b130 (G_6 6 (Int32.toNatClampNeg ((15 : Int32) + ((6 : Int32) * a2)))) ((G_6 6 (Int32.toNatClampNeg ((15 : Int32) + ((6 : Int32) * a2)))) + r_12) ((G_6 6 (Int32.toNatClampNeg ((15 : Int32) + ((6 : Int32) * a2)))) - (G_6 6 (Int32.toNatClampNeg (((15 : Int32) + ((6 : Int32) * a2)) + (3 : Int32))))) (10101 : Int64) tr_7 G_6 tr_7 h _ _ _ X (lv_sub hl [4, 5, 6, 2, 1, 0] rfl)
            · have h := zif_pos hc_17 h
              refine lv_ldc2 (own := RX5) (v := 1011) S.1 S.2.1 S.2.2.2.1 (S.2.2.2.2 _ qX5_rate_186) dX5_rate_110 ?_
              refine lv_goto (tgt := 130) S.1 S.2.1 dX5_rate_113 (by decide) ?_
              exact b130 (G_6 6 (Int32.toNatClampNeg ((15 : Int32) + ((6 : Int32) * a2)))) ((G_6 6 (Int32.toNatClampNeg ((15 : Int32) + ((6 : Int32) * a2)))) + r_12) ((G_6 6 (Int32.toNatClampNeg ((15 : Int32) + ((6 : Int32) * a2)))) - (G_6 6 (Int32.toNatClampNeg (((15 : Int32) + ((6 : Int32) * a2)) + (3 : Int32))))) (1011 : Int64) tr_7 G_6 tr_7 h _ _ _ X (lv_sub hl [4, 5, 6, 2, 1, 0] rfl)
          · have h := zif_pos hc_16 h
            refine lv_ldc2 (own := RX5) (v := 101) S.1 S.2.1 S.2.2.2.1 (S.2.2.2.2 _ qX5_rate_184) dX5_rate_99 ?_
            refine lv_goto (tgt := 130) S.1 S.2.1 dX5_rate_102 (by decide) ?_
            exact b130 (G_6 6 (Int32.toNatClampNeg ((15 : Int32) + ((6 : Int32) * a2)))) ((G_6 6 (Int32.toNatClampNeg ((15 : Int32) + ((6 : Int32) * a2)))) + r_12) ((G_6 6 (Int32.toNatClampNeg ((15 : Int32) + ((6 : Int32) * a2)))) - (G_6 6 (Int32.toNatClampNeg (((15 : Int32) + ((6 : Int32) * a2)) + (3 : Int32))))) (101 : Int64) tr_7 G_6 tr_7 h _ _ _ X (lv_sub hl [4, 5, 6, 2, 1, 0] rfl)
        · have h := zif_pos hc_15 h
          refine lv_ldc2 (own := RX5) (v := 11) S.1 S.2.1 S.2.2.2.1 (S.2.2.2.2 _ qX5_rate_182) dX5_rate_88 ?_
          refine lv_goto (tgt := 130) S.1 S.2.1 dX5_rate_91 (by decide) ?_
          exact b130 (G_6 6 (Int32.toNatClampNeg ((15 : Int32) + ((6 : Int32) * a2)))) ((G_6 6 (Int32.toNatClampNeg ((15 : Int32) + ((6 : Int32) * a2)))) + r_12) ((G_6 6 (Int32.toNatClampNeg ((15 : Int32) + ((6 : Int32) * a2)))) - (G_6 6 (Int32.toNatClampNeg (((15 : Int32) + ((6 : Int32) * a2)) + (3 : Int32))))) (11 : Int64) tr_7 G_6 tr_7 h _ _ _ X (lv_sub hl [4, 5, 6, 2, 1, 0] rfl)
      · have h := zif_pos hc_14 h
        refine lv_lconst (v := 1) S.1 S.2.1 dX5_rate_79 (by decide) ?_
        refine lv_goto (tgt := 130) S.1 S.2.1 dX5_rate_80 (by decide) ?_
        exact b130 (G_6 6 (Int32.toNatClampNeg ((15 : Int32) + ((6 : Int32) * a2)))) ((G_6 6 (Int32.toNatClampNeg ((15 : Int32) + ((6 : Int32) * a2)))) + r_12) ((G_6 6 (Int32.toNatClampNeg ((15 : Int32) + ((6 : Int32) * a2)))) - (G_6 6 (Int32.toNatClampNeg (((15 : Int32) + ((6 : Int32) * a2)) + (3 : Int32))))) (1 : Int64) tr_7 G_6 tr_7 h _ _ _ X (lv_sub hl [4, 5, 6, 2, 1, 0] rfl)
    · have h := zif_pos hc_8 h
      refine lv_ldc (own := RX5) (v := (-1000000 : Int32)) S.1 S.2.1 S.2.2.2.1 (S.2.2.2.2 _ qX5_rate_171) dX5_rate_22 ?_
      exact zr_iret S hr hlk X h dX5_rate_24
set_option maxRecDepth 20000 in
theorem ggX5_keep_X5_in : GoodIn wsX5_keep wsX5_in := goodIn_r _ [8] (by decide +kernel) (by decide +kernel)
set_option maxRecDepth 20000 in
theorem gX5_keep_X5_in : GoodIn wsX5_keep (va_wsS RX5 51 yX5_in wsX5_in) := goodIn_app (goodIn_of _ (by decide +kernel)) ggX5_keep_X5_in
theorem dX5_keep_0 : decode cX5_keep 0 = .ok (.aload_n 0, 1) := by decide +kernel
theorem dX5_keep_1 : decode cX5_keep 1 = .ok (.iconst 0, 1) := by decide +kernel
theorem dX5_keep_2 : decode cX5_keep 2 = .ok (.putfield 47, 3) := by decide +kernel
theorem dX5_keep_5 : decode cX5_keep 5 = .ok (.iload_n 1, 1) := by decide +kernel
theorem dX5_keep_6 : decode cX5_keep 6 = .ok (.iconst 0, 1) := by decide +kernel
theorem dX5_keep_7 : decode cX5_keep 7 = .ok (.iconst 1, 1) := by decide +kernel
theorem dX5_keep_8 : decode cX5_keep 8 = .ok (.invokestatic 51, 3) := by decide +kernel
theorem dX5_keep_11 : decode cX5_keep 11 = .ok (.ifCond .ne 5, 3) := by decide +kernel
theorem dX5_keep_14 : decode cX5_keep 14 = .ok (.iconst (-1), 1) := by decide +kernel
theorem dX5_keep_15 : decode cX5_keep 15 = .ok (.ireturn, 1) := by decide +kernel
theorem dX5_keep_16 : decode cX5_keep 16 = .ok (.iconst 0, 1) := by decide +kernel
theorem dX5_keep_17 : decode cX5_keep 17 = .ok (.istore_n 2, 1) := by decide +kernel
theorem dX5_keep_18 : decode cX5_keep 18 = .ok (.iload_n 2, 1) := by decide +kernel
theorem dX5_keep_19 : decode cX5_keep 19 = .ok (.bipush 45, 2) := by decide +kernel
theorem dX5_keep_21 : decode cX5_keep 21 = .ok (.if_icmp .ge 26, 3) := by decide +kernel
theorem dX5_keep_24 : decode cX5_keep 24 = .ok (.aload_n 0, 1) := by decide +kernel
theorem dX5_keep_25 : decode cX5_keep 25 = .ok (.getfield 28, 3) := by decide +kernel
theorem dX5_keep_28 : decode cX5_keep 28 = .ok (.bipush 45, 2) := by decide +kernel
theorem dX5_keep_30 : decode cX5_keep 30 = .ok (.iload_n 1, 1) := by decide +kernel
theorem dX5_keep_31 : decode cX5_keep 31 = .ok (.imul, 1) := by decide +kernel
theorem dX5_keep_32 : decode cX5_keep 32 = .ok (.iload_n 2, 1) := by decide +kernel
theorem dX5_keep_33 : decode cX5_keep 33 = .ok (.iadd, 1) := by decide +kernel
theorem dX5_keep_34 : decode cX5_keep 34 = .ok (.aload_n 0, 1) := by decide +kernel
theorem dX5_keep_35 : decode cX5_keep 35 = .ok (.getfield 25, 3) := by decide +kernel
theorem dX5_keep_38 : decode cX5_keep 38 = .ok (.iload_n 2, 1) := by decide +kernel
theorem dX5_keep_39 : decode cX5_keep 39 = .ok (.iaload, 1) := by decide +kernel
theorem dX5_keep_40 : decode cX5_keep 40 = .ok (.iastore, 1) := by decide +kernel
theorem dX5_keep_41 : decode cX5_keep 41 = .ok (.iinc 2 1, 3) := by decide +kernel
theorem dX5_keep_44 : decode cX5_keep 44 = .ok (.goto (-26), 3) := by decide +kernel
theorem dX5_keep_47 : decode cX5_keep 47 = .ok (.aload_n 0, 1) := by decide +kernel
theorem dX5_keep_48 : decode cX5_keep 48 = .ok (.getfield 31, 3) := by decide +kernel
theorem dX5_keep_51 : decode cX5_keep 51 = .ok (.iload_n 1, 1) := by decide +kernel
theorem dX5_keep_52 : decode cX5_keep 52 = .ok (.iconst 1, 1) := by decide +kernel
theorem dX5_keep_53 : decode cX5_keep 53 = .ok (.bastore, 1) := by decide +kernel
theorem dX5_keep_54 : decode cX5_keep 54 = .ok (.aload_n 0, 1) := by decide +kernel
theorem dX5_keep_55 : decode cX5_keep 55 = .ok (.getfield 25, 3) := by decide +kernel
theorem dX5_keep_58 : decode cX5_keep 58 = .ok (.iconst 0, 1) := by decide +kernel
theorem dX5_keep_59 : decode cX5_keep 59 = .ok (.iaload, 1) := by decide +kernel
theorem dX5_keep_60 : decode cX5_keep 60 = .ok (.ireturn, 1) := by decide +kernel
set_option maxRecDepth 20000 in
theorem kX5_keep_25 : Cond.fieldLink RX5 25 "WindPostModel" "s" "[I" ∈ wsX5_keep := by decide +kernel
set_option maxRecDepth 20000 in
theorem kX5_keep_28 : Cond.fieldLink RX5 28 "WindPostModel" "kept" "[I" ∈ wsX5_keep := by decide +kernel
set_option maxRecDepth 20000 in
theorem kX5_keep_31 : Cond.fieldLink RX5 31 "WindPostModel" "isKept" "[Z" ∈ wsX5_keep := by decide +kernel
set_option maxRecDepth 20000 in
theorem kX5_keep_47 : Cond.fieldLink RX5 47 "WindPostModel" "thrown" "I" ∈ wsX5_keep := by decide +kernel
set_option maxRecDepth 20000 in
theorem uX5_keep_X5 : ∀ w ∈ wsX50, w ∈ wsX5_keep := by decide +kernel
set_option maxHeartbeats 8000000 in
set_option maxRecDepth 100000 in
theorem mX5_keep (l : Launch) (D : va_G) (ki : Nat → ClassId) (ad : Nat → Nat) (cs : List Nat) (hcs : kR cs) (N : Nat) (a1 : Int32) (G : zMem) (tr : Int64) : gMetI l D ki ad cs yX5_keep wsX5_keep { frames := 1, cells := 0, slots := 0, locals := 22 } [.ref (ad 0), .int a1] (mE ki ad) G tr (fX5_keep N a1 G tr) := by
  refine gMetI_of (cc := cX5_keep) (maxL := 3) (ret := (some .int)) (own := RX5) (by decide +kernel) rfl rfl (Nat.le_of_ble_eq_true rfl) ?_
  intro r9 G9 tr9 h p e s m below meth c S hr hlk K X ls hl
  have hl : lv_has ls 3 [(0, .ref (ad 0)), (1, .int a1)] := hl
  have b18 : ∀ (k18 : Int32 → zMem → Int64 → zR) (hk18 : ∀ (x2 : Int32) (G : zMem) (tr : Int64), k18 x2 G tr = some (r9, G9, tr9) → zAt p l e (headSpec wsX5_keep { frames := 1, cells := 0, slots := 0, locals := 22 }).room s m ([.ref (ad 0), .int a1] : List Value).toArray below meth c 3 D cs ad (zQI below ([.ref (ad 0), .int a1] : List Value).toArray s D cs ad ((mE ki ad) G9 tr9) r9) 18 [(0, .ref (ad 0)), (1, .int a1), (2, .int x2)] [] ((mE ki ad) G tr)) (x2 : Int32) (G : zMem) (tr : Int64), fX5_keep_b18 N a1 k18 x2 G tr = some (r9, G9, tr9) → zAt p l e (headSpec wsX5_keep { frames := 1, cells := 0, slots := 0, locals := 22 }).room s m ([.ref (ad 0), .int a1] : List Value).toArray below meth c 3 D cs ad (zQI below ([.ref (ad 0), .int a1] : List Value).toArray s D cs ad ((mE ki ad) G9 tr9) r9) 18 [(0, .ref (ad 0)), (1, .int a1), (2, .int x2)] [] ((mE ki ad) G tr) := by
    intro k18 hk18 x2 G tr h H locs ls X hl
    unfold fX5_keep_b18 at h
    refine lv_iload_n S.1 S.2.1 dX5_keep_18 rfl (lv_at hl 2 rfl) ?_
    refine lv_bipush (v := (45 : Int32)) S.1 S.2.1 dX5_keep_19 (by decide) ?_
    refine lv_icmp_ge (tgt := 47) S.1 S.2.1 dX5_keep_21 (by decide) (fun hc_1 => ?_) (fun hc_1 => ?_)
    · have h := zif_pos hc_1 h
      refine lv_aload_n S.1 S.2.1 dX5_keep_47 rfl (lv_at hl 0 rfl) ?_
      refine zr_get (v := .ref (ad 8)) S K X (hcs 0 (by decide)) mE_R rfl uX5_keep_X5 16 (by decide) kX5_keep_31 rfl rfl dX5_keep_48 ?_
      refine lv_iload_n S.1 S.2.1 dX5_keep_51 rfl (lv_at hl 1 rfl) ?_
      refine lv_iconst (v := (1 : Int32)) S.1 S.2.1 dX5_keep_52 (by decide) ?_
      obtain ⟨hi_2, h⟩ := zin_some h
      obtain ⟨hz_4, h⟩ := zbo_some h
      refine zr_zast S K X (hcs 8 (by decide)) mE_loc (fun _ => mE_8) hi_2 hz_4 dX5_keep_53 (fun H locs X => ?_)
      refine lv_aload_n S.1 S.2.1 dX5_keep_54 rfl (lv_at hl 0 rfl) ?_
      refine zr_get (v := .ref (ad 6)) S K X (hcs 0 (by decide)) mE_R rfl uX5_keep_X5 14 (by decide) kX5_keep_25 rfl rfl dX5_keep_55 ?_
      refine lv_iconst (v := (0 : Int32)) S.1 S.2.1 dX5_keep_58 (by decide) ?_
      obtain ⟨hi_3, h⟩ := zin_some h
      refine zr_iald S K X (hcs 6 (by decide)) mE_6 hi_3 dX5_keep_59 ?_
      exact zr_iret S hr hlk X h dX5_keep_60
    · have h := zif_neg hc_1 h
      refine lv_aload_n S.1 S.2.1 dX5_keep_24 rfl (lv_at hl 0 rfl) ?_
      refine zr_get (v := .ref (ad 7)) S K X (hcs 0 (by decide)) mE_R rfl uX5_keep_X5 15 (by decide) kX5_keep_28 rfl rfl dX5_keep_25 ?_
      refine lv_bipush (v := (45 : Int32)) S.1 S.2.1 dX5_keep_28 (by decide) ?_
      refine lv_iload_n S.1 S.2.1 dX5_keep_30 rfl (lv_at hl 1 rfl) ?_
      refine lv_imul S.1 S.2.1 dX5_keep_31 ?_
      refine lv_iload_n S.1 S.2.1 dX5_keep_32 rfl (lv_at hl 2 rfl) ?_
      refine lv_iadd S.1 S.2.1 dX5_keep_33 ?_
      refine lv_aload_n S.1 S.2.1 dX5_keep_34 rfl (lv_at hl 0 rfl) ?_
      refine zr_get (v := .ref (ad 6)) S K X (hcs 0 (by decide)) mE_R rfl uX5_keep_X5 14 (by decide) kX5_keep_25 rfl rfl dX5_keep_35 ?_
      refine lv_iload_n S.1 S.2.1 dX5_keep_38 rfl (lv_at hl 2 rfl) ?_
      obtain ⟨hi_5, h⟩ := zin_some h
      refine zr_iald S K X (hcs 6 (by decide)) mE_6 hi_5 dX5_keep_39 ?_
      obtain ⟨hi_6, h⟩ := zin_some h
      refine zr_iast S K X (hcs 7 (by decide)) mE_loc (fun _ => mE_7) hi_6 dX5_keep_40 (fun H locs X => ?_)
      refine lv_iinc (v := (x2 + 1)) (lv' := [(2, .int (x2 + 1)), (0, .ref (ad 0)), (1, .int a1)]) S.1 S.2.1 dX5_keep_41 hl (k := 2) rfl rfl (by decide) rfl (fun ls hl => ?_)
      refine lv_goto (tgt := 18) S.1 S.2.1 dX5_keep_44 (by decide) ?_
      exact hk18 (x2 + 1) (up2 G 7 (Int32.toNatClampNeg (((45 : Int32) * a1) + x2)) (G 6 (Int32.toNatClampNeg x2))) tr h _ _ _ X (lv_sub hl [1, 2, 0] rfl)
  have L18 : ∀ (n : Nat) (x2 : Int32) (G : zMem) (tr : Int64), fX5_keep_L18 N a1 n x2 G tr = some (r9, G9, tr9) → zAt p l e (headSpec wsX5_keep { frames := 1, cells := 0, slots := 0, locals := 22 }).room s m ([.ref (ad 0), .int a1] : List Value).toArray below meth c 3 D cs ad (zQI below ([.ref (ad 0), .int a1] : List Value).toArray s D cs ad ((mE ki ad) G9 tr9) r9) 18 [(0, .ref (ad 0)), (1, .int a1), (2, .int x2)] [] ((mE ki ad) G tr) := by
    intro n
    induction n with
    | zero => intro x2 G tr h; cases h
    | succ n ih => intro x2 G tr h; exact b18 (fX5_keep_L18 N a1 n) ih x2 G tr h
  unfold fX5_keep at h
  obtain ⟨H, hH⟩ : ∃ H, H = s.heap := ⟨_, rfl⟩
  obtain ⟨locs, hlo⟩ : ∃ locs : List Loc, locs = [] := ⟨_, rfl⟩
  have X : gS D cs ad ((mE ki ad) G tr) (gA cs ad s.heap.size) s H locs := by rw [hH, hlo]; exact X
  suffices z : W p l e (headSpec wsX5_keep { frames := 1, cells := 0, slots := 0, locals := 22 }).room s m ([.ref (ad 0), .int a1] : List Value).toArray below meth c H locs 0 0 (zQI below ([.ref (ad 0), .int a1] : List Value).toArray s D cs ad ((mE ki ad) G9 tr9) r9) (F0 m 0 ls []) by rw [hH, hlo] at z; exact z
  clear hH hlo
  refine lv_aload_n S.1 S.2.1 dX5_keep_0 rfl (lv_at hl 0 rfl) ?_
  refine lv_iconst (v := (0 : Int32)) S.1 S.2.1 dX5_keep_1 (by decide) ?_
  refine zr_put (xv := (0 : Int32)) (v := .int (0 : Int32)) (fsf := (fsR ad tr)) (ty := .int) S K X (hcs 0 (by decide)) mE_loc (fun _ => mE_R) rfl uX5_keep_X5 tyX5 tyX5_ok nmX5 0 (by decide) kX5_keep_47 rfl (by decide +kernel) rfl rfl (by simp) rfl dX5_keep_2 (fun H locs X => ?_)
  refine lv_iload_n S.1 S.2.1 dX5_keep_5 rfl (lv_at hl 1 rfl) ?_
  refine lv_iconst (v := (0 : Int32)) S.1 S.2.1 dX5_keep_6 (by decide) ?_
  refine lv_iconst (v := (1 : Int32)) S.1 S.2.1 dX5_keep_7 (by decide) ?_
  obtain ⟨r_2, hf_1, h⟩ := zbp_some h
  refine zr_calli (Eg := (mE ki ad)) (G' := (up2 G 0 0 (0 : Int32))) (tr' := tr) K X (va_runS (As := [.int a1, .int (0 : Int32), .int (1 : Int32)]) (rest := []) S (mX5_in l D ki ad cs N a1 (0 : Int32) (1 : Int32) (mE ki ad) (up2 G 0 0 (0 : Int32)) tr H.size _ _ _ (zpu_of hf_1)) (va_cwS 3 S.2.2.2.2 gX5_keep_X5_in rfl rfl rfl (by decide +kernel) ⟨Nat.le_of_ble_eq_true rfl, Nat.le_of_ble_eq_true rfl⟩) (zr_pre K X) rfl rfl hl.1 rfl (lv_room (Nat.le_of_ble_eq_true rfl)) dX5_keep_8 ⟨Nat.zero_le _, Nat.zero_le _⟩) (fun H locs X => ?_)
  refine lv_if_ne (tgt := 16) S.1 S.2.1 dX5_keep_11 (by decide) (fun hc_3 => ?_) (fun hc_3 => ?_)
  · have h := zif_neg hc_3 h
    refine lv_iconst (v := (0 : Int32)) S.1 S.2.1 dX5_keep_16 (by decide) ?_
    refine lv_istore_n (lv' := [(2, .int (0 : Int32)), (0, .ref (ad 0)), (1, .int a1)]) S.1 S.2.1 dX5_keep_17 rfl hl (by decide) rfl (fun ls hl => ?_)
    exact L18 N (0 : Int32) (up2 G 0 0 (0 : Int32)) tr h _ _ _ X (lv_sub hl [1, 2, 0] rfl)
  · have h := zif_pos hc_3 h
    refine lv_iconst (v := (-1 : Int32)) S.1 S.2.1 dX5_keep_14 (by decide) ?_
    exact zr_iret S hr hlk X h dX5_keep_15
set_option maxRecDepth 20000 in
theorem ggX5_back_X5_in : GoodIn wsX5_back wsX5_in := goodIn_r _ [9] (by decide +kernel) (by decide +kernel)
set_option maxRecDepth 20000 in
theorem gX5_back_X5_in : GoodIn wsX5_back (va_wsS RX5 51 yX5_in wsX5_in) := goodIn_app (goodIn_of _ (by decide +kernel)) ggX5_back_X5_in
theorem dX5_back_0 : decode cX5_back 0 = .ok (.aload_n 0, 1) := by decide +kernel
theorem dX5_back_1 : decode cX5_back 1 = .ok (.iconst 0, 1) := by decide +kernel
theorem dX5_back_2 : decode cX5_back 2 = .ok (.putfield 47, 3) := by decide +kernel
theorem dX5_back_5 : decode cX5_back 5 = .ok (.iload_n 1, 1) := by decide +kernel
theorem dX5_back_6 : decode cX5_back 6 = .ok (.iconst 0, 1) := by decide +kernel
theorem dX5_back_7 : decode cX5_back 7 = .ok (.iconst 1, 1) := by decide +kernel
theorem dX5_back_8 : decode cX5_back 8 = .ok (.invokestatic 51, 3) := by decide +kernel
theorem dX5_back_11 : decode cX5_back 11 = .ok (.ifCond .ne 5, 3) := by decide +kernel
theorem dX5_back_14 : decode cX5_back 14 = .ok (.iconst (-1), 1) := by decide +kernel
theorem dX5_back_15 : decode cX5_back 15 = .ok (.ireturn, 1) := by decide +kernel
theorem dX5_back_16 : decode cX5_back 16 = .ok (.aload_n 0, 1) := by decide +kernel
theorem dX5_back_17 : decode cX5_back 17 = .ok (.getfield 31, 3) := by decide +kernel
theorem dX5_back_20 : decode cX5_back 20 = .ok (.iload_n 1, 1) := by decide +kernel
theorem dX5_back_21 : decode cX5_back 21 = .ok (.baload, 1) := by decide +kernel
theorem dX5_back_22 : decode cX5_back 22 = .ok (.ifCond .ne 6, 3) := by decide +kernel
theorem dX5_back_25 : decode cX5_back 25 = .ok (.bipush (-2), 2) := by decide +kernel
theorem dX5_back_27 : decode cX5_back 27 = .ok (.ireturn, 1) := by decide +kernel
theorem dX5_back_28 : decode cX5_back 28 = .ok (.iconst 0, 1) := by decide +kernel
theorem dX5_back_29 : decode cX5_back 29 = .ok (.istore_n 2, 1) := by decide +kernel
theorem dX5_back_30 : decode cX5_back 30 = .ok (.iload_n 2, 1) := by decide +kernel
theorem dX5_back_31 : decode cX5_back 31 = .ok (.bipush 45, 2) := by decide +kernel
theorem dX5_back_33 : decode cX5_back 33 = .ok (.if_icmp .ge 26, 3) := by decide +kernel
theorem dX5_back_36 : decode cX5_back 36 = .ok (.aload_n 0, 1) := by decide +kernel
theorem dX5_back_37 : decode cX5_back 37 = .ok (.getfield 25, 3) := by decide +kernel
theorem dX5_back_40 : decode cX5_back 40 = .ok (.iload_n 2, 1) := by decide +kernel
theorem dX5_back_41 : decode cX5_back 41 = .ok (.aload_n 0, 1) := by decide +kernel
theorem dX5_back_42 : decode cX5_back 42 = .ok (.getfield 28, 3) := by decide +kernel
theorem dX5_back_45 : decode cX5_back 45 = .ok (.bipush 45, 2) := by decide +kernel
theorem dX5_back_47 : decode cX5_back 47 = .ok (.iload_n 1, 1) := by decide +kernel
theorem dX5_back_48 : decode cX5_back 48 = .ok (.imul, 1) := by decide +kernel
theorem dX5_back_49 : decode cX5_back 49 = .ok (.iload_n 2, 1) := by decide +kernel
theorem dX5_back_50 : decode cX5_back 50 = .ok (.iadd, 1) := by decide +kernel
theorem dX5_back_51 : decode cX5_back 51 = .ok (.iaload, 1) := by decide +kernel
theorem dX5_back_52 : decode cX5_back 52 = .ok (.iastore, 1) := by decide +kernel
theorem dX5_back_53 : decode cX5_back 53 = .ok (.iinc 2 1, 3) := by decide +kernel
theorem dX5_back_56 : decode cX5_back 56 = .ok (.goto (-26), 3) := by decide +kernel
theorem dX5_back_59 : decode cX5_back 59 = .ok (.aload_n 0, 1) := by decide +kernel
theorem dX5_back_60 : decode cX5_back 60 = .ok (.iconst 0, 1) := by decide +kernel
theorem dX5_back_61 : decode cX5_back 61 = .ok (.putfield 113, 3) := by decide +kernel
theorem dX5_back_64 : decode cX5_back 64 = .ok (.aload_n 0, 1) := by decide +kernel
theorem dX5_back_65 : decode cX5_back 65 = .ok (.getfield 25, 3) := by decide +kernel
theorem dX5_back_68 : decode cX5_back 68 = .ok (.iconst 0, 1) := by decide +kernel
theorem dX5_back_69 : decode cX5_back 69 = .ok (.iaload, 1) := by decide +kernel
theorem dX5_back_70 : decode cX5_back 70 = .ok (.ireturn, 1) := by decide +kernel
set_option maxRecDepth 20000 in
theorem kX5_back_25 : Cond.fieldLink RX5 25 "WindPostModel" "s" "[I" ∈ wsX5_back := by decide +kernel
set_option maxRecDepth 20000 in
theorem kX5_back_28 : Cond.fieldLink RX5 28 "WindPostModel" "kept" "[I" ∈ wsX5_back := by decide +kernel
set_option maxRecDepth 20000 in
theorem kX5_back_31 : Cond.fieldLink RX5 31 "WindPostModel" "isKept" "[Z" ∈ wsX5_back := by decide +kernel
set_option maxRecDepth 20000 in
theorem kX5_back_47 : Cond.fieldLink RX5 47 "WindPostModel" "thrown" "I" ∈ wsX5_back := by decide +kernel
set_option maxRecDepth 20000 in
theorem kX5_back_113 : Cond.fieldLink RX5 113 "WindPostModel" "undoMany" "I" ∈ wsX5_back := by decide +kernel
set_option maxRecDepth 20000 in
theorem uX5_back_X5 : ∀ w ∈ wsX50, w ∈ wsX5_back := by decide +kernel
set_option maxHeartbeats 8000000 in
set_option maxRecDepth 100000 in
theorem mX5_back (l : Launch) (D : va_G) (ki : Nat → ClassId) (ad : Nat → Nat) (cs : List Nat) (hcs : kR cs) (N : Nat) (a1 : Int32) (G : zMem) (tr : Int64) : gMetI l D ki ad cs yX5_back wsX5_back { frames := 1, cells := 0, slots := 0, locals := 22 } [.ref (ad 0), .int a1] (mE ki ad) G tr (fX5_back N a1 G tr) := by
  refine gMetI_of (cc := cX5_back) (maxL := 3) (ret := (some .int)) (own := RX5) (by decide +kernel) rfl rfl (Nat.le_of_ble_eq_true rfl) ?_
  intro r9 G9 tr9 h p e s m below meth c S hr hlk K X ls hl
  have hl : lv_has ls 3 [(0, .ref (ad 0)), (1, .int a1)] := hl
  have b30 : ∀ (k30 : Int32 → zMem → Int64 → zR) (hk30 : ∀ (x2 : Int32) (G : zMem) (tr : Int64), k30 x2 G tr = some (r9, G9, tr9) → zAt p l e (headSpec wsX5_back { frames := 1, cells := 0, slots := 0, locals := 22 }).room s m ([.ref (ad 0), .int a1] : List Value).toArray below meth c 3 D cs ad (zQI below ([.ref (ad 0), .int a1] : List Value).toArray s D cs ad ((mE ki ad) G9 tr9) r9) 30 [(0, .ref (ad 0)), (1, .int a1), (2, .int x2)] [] ((mE ki ad) G tr)) (x2 : Int32) (G : zMem) (tr : Int64), fX5_back_b30 N a1 k30 x2 G tr = some (r9, G9, tr9) → zAt p l e (headSpec wsX5_back { frames := 1, cells := 0, slots := 0, locals := 22 }).room s m ([.ref (ad 0), .int a1] : List Value).toArray below meth c 3 D cs ad (zQI below ([.ref (ad 0), .int a1] : List Value).toArray s D cs ad ((mE ki ad) G9 tr9) r9) 30 [(0, .ref (ad 0)), (1, .int a1), (2, .int x2)] [] ((mE ki ad) G tr) := by
    intro k30 hk30 x2 G tr h H locs ls X hl
    unfold fX5_back_b30 at h
    refine lv_iload_n S.1 S.2.1 dX5_back_30 rfl (lv_at hl 2 rfl) ?_
    refine lv_bipush (v := (45 : Int32)) S.1 S.2.1 dX5_back_31 (by decide) ?_
    refine lv_icmp_ge (tgt := 59) S.1 S.2.1 dX5_back_33 (by decide) (fun hc_1 => ?_) (fun hc_1 => ?_)
    · have h := zif_pos hc_1 h
      refine lv_aload_n S.1 S.2.1 dX5_back_59 rfl (lv_at hl 0 rfl) ?_
      refine lv_iconst (v := (0 : Int32)) S.1 S.2.1 dX5_back_60 (by decide) ?_
      refine zr_put (xv := (0 : Int32)) (v := .int (0 : Int32)) (fsf := (fsR ad tr)) (ty := .int) S K X (hcs 0 (by decide)) mE_loc (fun _ => mE_R) rfl uX5_back_X5 tyX5 tyX5_ok nmX5 18 (by decide) kX5_back_113 rfl (by decide +kernel) rfl rfl (by simp) rfl dX5_back_61 (fun H locs X => ?_)
      refine lv_aload_n S.1 S.2.1 dX5_back_64 rfl (lv_at hl 0 rfl) ?_
      refine zr_get (v := .ref (ad 6)) S K X (hcs 0 (by decide)) mE_R rfl uX5_back_X5 14 (by decide) kX5_back_25 rfl rfl dX5_back_65 ?_
      refine lv_iconst (v := (0 : Int32)) S.1 S.2.1 dX5_back_68 (by decide) ?_
      obtain ⟨hi_2, h⟩ := zin_some h
      refine zr_iald S K X (hcs 6 (by decide)) mE_6 hi_2 dX5_back_69 ?_
      exact zr_iret S hr hlk X h dX5_back_70
    · have h := zif_neg hc_1 h
      refine lv_aload_n S.1 S.2.1 dX5_back_36 rfl (lv_at hl 0 rfl) ?_
      refine zr_get (v := .ref (ad 6)) S K X (hcs 0 (by decide)) mE_R rfl uX5_back_X5 14 (by decide) kX5_back_25 rfl rfl dX5_back_37 ?_
      refine lv_iload_n S.1 S.2.1 dX5_back_40 rfl (lv_at hl 2 rfl) ?_
      refine lv_aload_n S.1 S.2.1 dX5_back_41 rfl (lv_at hl 0 rfl) ?_
      refine zr_get (v := .ref (ad 7)) S K X (hcs 0 (by decide)) mE_R rfl uX5_back_X5 15 (by decide) kX5_back_28 rfl rfl dX5_back_42 ?_
      refine lv_bipush (v := (45 : Int32)) S.1 S.2.1 dX5_back_45 (by decide) ?_
      refine lv_iload_n S.1 S.2.1 dX5_back_47 rfl (lv_at hl 1 rfl) ?_
      refine lv_imul S.1 S.2.1 dX5_back_48 ?_
      refine lv_iload_n S.1 S.2.1 dX5_back_49 rfl (lv_at hl 2 rfl) ?_
      refine lv_iadd S.1 S.2.1 dX5_back_50 ?_
      obtain ⟨hi_3, h⟩ := zin_some h
      refine zr_iald S K X (hcs 7 (by decide)) mE_7 hi_3 dX5_back_51 ?_
      obtain ⟨hi_4, h⟩ := zin_some h
      refine zr_iast S K X (hcs 6 (by decide)) mE_loc (fun _ => mE_6) hi_4 dX5_back_52 (fun H locs X => ?_)
      refine lv_iinc (v := (x2 + 1)) (lv' := [(2, .int (x2 + 1)), (0, .ref (ad 0)), (1, .int a1)]) S.1 S.2.1 dX5_back_53 hl (k := 2) rfl rfl (by decide) rfl (fun ls hl => ?_)
      refine lv_goto (tgt := 30) S.1 S.2.1 dX5_back_56 (by decide) ?_
      exact hk30 (x2 + 1) (up2 G 6 (Int32.toNatClampNeg x2) (G 7 (Int32.toNatClampNeg (((45 : Int32) * a1) + x2)))) tr h _ _ _ X (lv_sub hl [1, 2, 0] rfl)
  have L30 : ∀ (n : Nat) (x2 : Int32) (G : zMem) (tr : Int64), fX5_back_L30 N a1 n x2 G tr = some (r9, G9, tr9) → zAt p l e (headSpec wsX5_back { frames := 1, cells := 0, slots := 0, locals := 22 }).room s m ([.ref (ad 0), .int a1] : List Value).toArray below meth c 3 D cs ad (zQI below ([.ref (ad 0), .int a1] : List Value).toArray s D cs ad ((mE ki ad) G9 tr9) r9) 30 [(0, .ref (ad 0)), (1, .int a1), (2, .int x2)] [] ((mE ki ad) G tr) := by
    intro n
    induction n with
    | zero => intro x2 G tr h; cases h
    | succ n ih => intro x2 G tr h; exact b30 (fX5_back_L30 N a1 n) ih x2 G tr h
  unfold fX5_back at h
  obtain ⟨H, hH⟩ : ∃ H, H = s.heap := ⟨_, rfl⟩
  obtain ⟨locs, hlo⟩ : ∃ locs : List Loc, locs = [] := ⟨_, rfl⟩
  have X : gS D cs ad ((mE ki ad) G tr) (gA cs ad s.heap.size) s H locs := by rw [hH, hlo]; exact X
  suffices z : W p l e (headSpec wsX5_back { frames := 1, cells := 0, slots := 0, locals := 22 }).room s m ([.ref (ad 0), .int a1] : List Value).toArray below meth c H locs 0 0 (zQI below ([.ref (ad 0), .int a1] : List Value).toArray s D cs ad ((mE ki ad) G9 tr9) r9) (F0 m 0 ls []) by rw [hH, hlo] at z; exact z
  clear hH hlo
  refine lv_aload_n S.1 S.2.1 dX5_back_0 rfl (lv_at hl 0 rfl) ?_
  refine lv_iconst (v := (0 : Int32)) S.1 S.2.1 dX5_back_1 (by decide) ?_
  refine zr_put (xv := (0 : Int32)) (v := .int (0 : Int32)) (fsf := (fsR ad tr)) (ty := .int) S K X (hcs 0 (by decide)) mE_loc (fun _ => mE_R) rfl uX5_back_X5 tyX5 tyX5_ok nmX5 0 (by decide) kX5_back_47 rfl (by decide +kernel) rfl rfl (by simp) rfl dX5_back_2 (fun H locs X => ?_)
  refine lv_iload_n S.1 S.2.1 dX5_back_5 rfl (lv_at hl 1 rfl) ?_
  refine lv_iconst (v := (0 : Int32)) S.1 S.2.1 dX5_back_6 (by decide) ?_
  refine lv_iconst (v := (1 : Int32)) S.1 S.2.1 dX5_back_7 (by decide) ?_
  obtain ⟨r_2, hf_1, h⟩ := zbp_some h
  refine zr_calli (Eg := (mE ki ad)) (G' := (up2 G 0 0 (0 : Int32))) (tr' := tr) K X (va_runS (As := [.int a1, .int (0 : Int32), .int (1 : Int32)]) (rest := []) S (mX5_in l D ki ad cs N a1 (0 : Int32) (1 : Int32) (mE ki ad) (up2 G 0 0 (0 : Int32)) tr H.size _ _ _ (zpu_of hf_1)) (va_cwS 3 S.2.2.2.2 gX5_back_X5_in rfl rfl rfl (by decide +kernel) ⟨Nat.le_of_ble_eq_true rfl, Nat.le_of_ble_eq_true rfl⟩) (zr_pre K X) rfl rfl hl.1 rfl (lv_room (Nat.le_of_ble_eq_true rfl)) dX5_back_8 ⟨Nat.zero_le _, Nat.zero_le _⟩) (fun H locs X => ?_)
  refine lv_if_ne (tgt := 16) S.1 S.2.1 dX5_back_11 (by decide) (fun hc_3 => ?_) (fun hc_3 => ?_)
  · have h := zif_neg hc_3 h
    refine lv_aload_n S.1 S.2.1 dX5_back_16 rfl (lv_at hl 0 rfl) ?_
    refine zr_get (v := .ref (ad 8)) S K X (hcs 0 (by decide)) mE_R rfl uX5_back_X5 16 (by decide) kX5_back_31 rfl rfl dX5_back_17 ?_
    refine lv_iload_n S.1 S.2.1 dX5_back_20 rfl (lv_at hl 1 rfl) ?_
    obtain ⟨hi_4, h⟩ := zin_some h
    refine zr_zald S K X (hcs 8 (by decide)) mE_8 hi_4 dX5_back_21 ?_
    refine lv_if_ne (tgt := 28) S.1 S.2.1 dX5_back_22 (by decide) (fun hc_5 => ?_) (fun hc_5 => ?_)
    · have h := zif_neg hc_5 h
      refine lv_iconst (v := (0 : Int32)) S.1 S.2.1 dX5_back_28 (by decide) ?_
      refine lv_istore_n (lv' := [(2, .int (0 : Int32)), (0, .ref (ad 0)), (1, .int a1)]) S.1 S.2.1 dX5_back_29 rfl hl (by decide) rfl (fun ls hl => ?_)
      exact L30 N (0 : Int32) (up2 G 0 0 (0 : Int32)) tr h _ _ _ X (lv_sub hl [1, 2, 0] rfl)
    · have h := zif_pos hc_5 h
      refine lv_bipush (v := (-2 : Int32)) S.1 S.2.1 dX5_back_25 (by decide) ?_
      exact zr_iret S hr hlk X h dX5_back_27
  · have h := zif_pos hc_3 h
    refine lv_iconst (v := (-1 : Int32)) S.1 S.2.1 dX5_back_14 (by decide) ?_
    exact zr_iret S hr hlk X h dX5_back_15
set_option maxRecDepth 20000 in
theorem ggX5_count_X5_in : GoodIn wsX5_count wsX5_in := goodIn_r _ [7] (by decide +kernel) (by decide +kernel)
set_option maxRecDepth 20000 in
theorem gX5_count_X5_in : GoodIn wsX5_count (va_wsS RX5 51 yX5_in wsX5_in) := goodIn_app (goodIn_of _ (by decide +kernel)) ggX5_count_X5_in
theorem dX5_count_0 : decode cX5_count 0 = .ok (.aload_n 0, 1) := by decide +kernel
theorem dX5_count_1 : decode cX5_count 1 = .ok (.iconst 0, 1) := by decide +kernel
theorem dX5_count_2 : decode cX5_count 2 = .ok (.putfield 47, 3) := by decide +kernel
theorem dX5_count_5 : decode cX5_count 5 = .ok (.iload_n 1, 1) := by decide +kernel
theorem dX5_count_6 : decode cX5_count 6 = .ok (.iconst 0, 1) := by decide +kernel
theorem dX5_count_7 : decode cX5_count 7 = .ok (.iconst 5, 1) := by decide +kernel
theorem dX5_count_8 : decode cX5_count 8 = .ok (.invokestatic 51, 3) := by decide +kernel
theorem dX5_count_11 : decode cX5_count 11 = .ok (.ifCond .eq 12, 3) := by decide +kernel
theorem dX5_count_14 : decode cX5_count 14 = .ok (.aload_n 0, 1) := by decide +kernel
theorem dX5_count_15 : decode cX5_count 15 = .ok (.getfield 13, 3) := by decide +kernel
theorem dX5_count_18 : decode cX5_count 18 = .ok (.iload_n 1, 1) := by decide +kernel
theorem dX5_count_19 : decode cX5_count 19 = .ok (.iaload, 1) := by decide +kernel
theorem dX5_count_20 : decode cX5_count 20 = .ok (.goto 17, 3) := by decide +kernel
theorem dX5_count_23 : decode cX5_count 23 = .ok (.iload_n 1, 1) := by decide +kernel
theorem dX5_count_24 : decode cX5_count 24 = .ok (.bipush 6, 2) := by decide +kernel
theorem dX5_count_26 : decode cX5_count 26 = .ok (.if_icmp .ne 10, 3) := by decide +kernel
theorem dX5_count_29 : decode cX5_count 29 = .ok (.aload_n 0, 1) := by decide +kernel
theorem dX5_count_30 : decode cX5_count 30 = .ok (.getfield 55, 3) := by decide +kernel
theorem dX5_count_33 : decode cX5_count 33 = .ok (.goto 4, 3) := by decide +kernel
theorem dX5_count_36 : decode cX5_count 36 = .ok (.iconst (-1), 1) := by decide +kernel
theorem dX5_count_37 : decode cX5_count 37 = .ok (.ireturn, 1) := by decide +kernel
set_option maxRecDepth 20000 in
theorem kX5_count_13 : Cond.fieldLink RX5 13 "WindPostModel" "many" "[I" ∈ wsX5_count := by decide +kernel
set_option maxRecDepth 20000 in
theorem kX5_count_47 : Cond.fieldLink RX5 47 "WindPostModel" "thrown" "I" ∈ wsX5_count := by decide +kernel
set_option maxRecDepth 20000 in
theorem kX5_count_55 : Cond.fieldLink RX5 55 "WindPostModel" "typed" "I" ∈ wsX5_count := by decide +kernel
set_option maxRecDepth 20000 in
theorem uX5_count_X5 : ∀ w ∈ wsX50, w ∈ wsX5_count := by decide +kernel
set_option maxHeartbeats 8000000 in
set_option maxRecDepth 100000 in
theorem mX5_count (l : Launch) (D : va_G) (ki : Nat → ClassId) (ad : Nat → Nat) (cs : List Nat) (hcs : kR cs) (N : Nat) (a1 : Int32) (G : zMem) (tr : Int64) : gMetI l D ki ad cs yX5_count wsX5_count { frames := 1, cells := 0, slots := 0, locals := 22 } [.ref (ad 0), .int a1] (mE ki ad) G tr (fX5_count N a1 G tr) := by
  refine gMetI_of (cc := cX5_count) (maxL := 2) (ret := (some .int)) (own := RX5) (by decide +kernel) rfl rfl (Nat.le_of_ble_eq_true rfl) ?_
  intro r9 G9 tr9 h p e s m below meth c S hr hlk K X ls hl
  have hl : lv_has ls 2 [(0, .ref (ad 0)), (1, .int a1)] := hl
  unfold fX5_count at h
  obtain ⟨H, hH⟩ : ∃ H, H = s.heap := ⟨_, rfl⟩
  obtain ⟨locs, hlo⟩ : ∃ locs : List Loc, locs = [] := ⟨_, rfl⟩
  have X : gS D cs ad ((mE ki ad) G tr) (gA cs ad s.heap.size) s H locs := by rw [hH, hlo]; exact X
  suffices z : W p l e (headSpec wsX5_count { frames := 1, cells := 0, slots := 0, locals := 22 }).room s m ([.ref (ad 0), .int a1] : List Value).toArray below meth c H locs 0 0 (zQI below ([.ref (ad 0), .int a1] : List Value).toArray s D cs ad ((mE ki ad) G9 tr9) r9) (F0 m 0 ls []) by rw [hH, hlo] at z; exact z
  clear hH hlo
  refine lv_aload_n S.1 S.2.1 dX5_count_0 rfl (lv_at hl 0 rfl) ?_
  refine lv_iconst (v := (0 : Int32)) S.1 S.2.1 dX5_count_1 (by decide) ?_
  refine zr_put (xv := (0 : Int32)) (v := .int (0 : Int32)) (fsf := (fsR ad tr)) (ty := .int) S K X (hcs 0 (by decide)) mE_loc (fun _ => mE_R) rfl uX5_count_X5 tyX5 tyX5_ok nmX5 0 (by decide) kX5_count_47 rfl (by decide +kernel) rfl rfl (by simp) rfl dX5_count_2 (fun H locs X => ?_)
  refine lv_iload_n S.1 S.2.1 dX5_count_5 rfl (lv_at hl 1 rfl) ?_
  refine lv_iconst (v := (0 : Int32)) S.1 S.2.1 dX5_count_6 (by decide) ?_
  refine lv_iconst (v := (5 : Int32)) S.1 S.2.1 dX5_count_7 (by decide) ?_
  obtain ⟨r_2, hf_1, h⟩ := zbp_some h
  refine zr_calli (Eg := (mE ki ad)) (G' := (up2 G 0 0 (0 : Int32))) (tr' := tr) K X (va_runS (As := [.int a1, .int (0 : Int32), .int (5 : Int32)]) (rest := []) S (mX5_in l D ki ad cs N a1 (0 : Int32) (5 : Int32) (mE ki ad) (up2 G 0 0 (0 : Int32)) tr H.size _ _ _ (zpu_of hf_1)) (va_cwS 3 S.2.2.2.2 gX5_count_X5_in rfl rfl rfl (by decide +kernel) ⟨Nat.le_of_ble_eq_true rfl, Nat.le_of_ble_eq_true rfl⟩) (zr_pre K X) rfl rfl hl.1 rfl (lv_room (Nat.le_of_ble_eq_true rfl)) dX5_count_8 ⟨Nat.zero_le _, Nat.zero_le _⟩) (fun H locs X => ?_)
  refine lv_if_eq (tgt := 23) S.1 S.2.1 dX5_count_11 (by decide) (fun hc_3 => ?_) (fun hc_3 => ?_)
  · have h := zif_pos hc_3 h
    refine lv_iload_n S.1 S.2.1 dX5_count_23 rfl (lv_at hl 1 rfl) ?_
    refine lv_bipush (v := (6 : Int32)) S.1 S.2.1 dX5_count_24 (by decide) ?_
    refine lv_icmp_ne (tgt := 36) S.1 S.2.1 dX5_count_26 (by decide) (fun hc_4 => ?_) (fun hc_4 => ?_)
    · have h := zif_neg hc_4 h
      refine lv_iconst (v := (-1 : Int32)) S.1 S.2.1 dX5_count_36 (by decide) ?_
      exact zr_iret S hr hlk X h dX5_count_37
    · have h := zif_pos hc_4 h
      refine lv_aload_n S.1 S.2.1 dX5_count_29 rfl (lv_at hl 0 rfl) ?_
      refine zr_get (v := .int ((up2 G 0 0 (0 : Int32)) 0 3)) S K X (hcs 0 (by decide)) mE_R rfl uX5_count_X5 3 (by decide) kX5_count_55 rfl rfl dX5_count_30 ?_
      refine lv_goto (tgt := 37) S.1 S.2.1 dX5_count_33 (by decide) ?_
      exact zr_iret S hr hlk X h dX5_count_37
  · have h := zif_neg hc_3 h
    refine lv_aload_n S.1 S.2.1 dX5_count_14 rfl (lv_at hl 0 rfl) ?_
    refine zr_get (v := .ref (ad 2)) S K X (hcs 0 (by decide)) mE_R rfl uX5_count_X5 9 (by decide) kX5_count_13 rfl rfl dX5_count_15 ?_
    refine lv_iload_n S.1 S.2.1 dX5_count_18 rfl (lv_at hl 1 rfl) ?_
    obtain ⟨hi_5, h⟩ := zin_some h
    refine zr_iald S K X (hcs 2 (by decide)) mE_2 hi_5 dX5_count_19 ?_
    refine lv_goto (tgt := 37) S.1 S.2.1 dX5_count_20 (by decide) ?_
    exact zr_iret S hr hlk X h dX5_count_37
theorem dX5_trace_0 : decode cX5_trace 0 = .ok (.aload_n 0, 1) := by decide +kernel
theorem dX5_trace_1 : decode cX5_trace 1 = .ok (.iconst 0, 1) := by decide +kernel
theorem dX5_trace_2 : decode cX5_trace 2 = .ok (.putfield 47, 3) := by decide +kernel
theorem dX5_trace_5 : decode cX5_trace 5 = .ok (.aload_n 0, 1) := by decide +kernel
theorem dX5_trace_6 : decode cX5_trace 6 = .ok (.getfield 178, 3) := by decide +kernel
theorem dX5_trace_9 : decode cX5_trace 9 = .ok (.lreturn, 1) := by decide +kernel
set_option maxRecDepth 20000 in
theorem kX5_trace_47 : Cond.fieldLink RX5 47 "WindPostModel" "thrown" "I" ∈ wsX5_trace := by decide +kernel
set_option maxRecDepth 20000 in
theorem kX5_trace_178 : Cond.fieldLink RX5 178 "WindPostModel" "trace" "J" ∈ wsX5_trace := by decide +kernel
set_option maxRecDepth 20000 in
theorem uX5_trace_X5 : ∀ w ∈ wsX50, w ∈ wsX5_trace := by decide +kernel
set_option maxHeartbeats 8000000 in
set_option maxRecDepth 100000 in
theorem mX5_trace (l : Launch) (D : va_G) (ki : Nat → ClassId) (ad : Nat → Nat) (cs : List Nat) (hcs : kR cs) (N : Nat) (G : zMem) (tr : Int64) : gMetL l D ki ad cs yX5_trace wsX5_trace { frames := 0, cells := 0, slots := 0, locals := 0 } [.ref (ad 0)] (mE ki ad) G tr (fX5_trace N G tr) := by
  refine gMetL_of (cc := cX5_trace) (maxL := 1) (ret := (some .long)) (own := RX5) (by decide +kernel) rfl rfl (Nat.le_of_ble_eq_true rfl) ?_
  intro r9 G9 tr9 h p e s m below meth c S hr hlk K X ls hl
  have hl : lv_has ls 1 [(0, .ref (ad 0))] := hl
  unfold fX5_trace at h
  obtain ⟨H, hH⟩ : ∃ H, H = s.heap := ⟨_, rfl⟩
  obtain ⟨locs, hlo⟩ : ∃ locs : List Loc, locs = [] := ⟨_, rfl⟩
  have X : gS D cs ad ((mE ki ad) G tr) (gA cs ad s.heap.size) s H locs := by rw [hH, hlo]; exact X
  suffices z : W p l e (headSpec wsX5_trace { frames := 0, cells := 0, slots := 0, locals := 0 }).room s m ([.ref (ad 0)] : List Value).toArray below meth c H locs 0 0 (zQL below ([.ref (ad 0)] : List Value).toArray s D cs ad ((mE ki ad) G9 tr9) r9) (F0 m 0 ls []) by rw [hH, hlo] at z; exact z
  clear hH hlo
  refine lv_aload_n S.1 S.2.1 dX5_trace_0 rfl (lv_at hl 0 rfl) ?_
  refine lv_iconst (v := (0 : Int32)) S.1 S.2.1 dX5_trace_1 (by decide) ?_
  refine zr_put (xv := (0 : Int32)) (v := .int (0 : Int32)) (fsf := (fsR ad tr)) (ty := .int) S K X (hcs 0 (by decide)) mE_loc (fun _ => mE_R) rfl uX5_trace_X5 tyX5 tyX5_ok nmX5 0 (by decide) kX5_trace_47 rfl (by decide +kernel) rfl rfl (by simp) rfl dX5_trace_2 (fun H locs X => ?_)
  refine lv_aload_n S.1 S.2.1 dX5_trace_5 rfl (lv_at hl 0 rfl) ?_
  refine zr_get (v := .long tr) S K X (hcs 0 (by decide)) mE_R rfl uX5_trace_X5 1 (by decide) kX5_trace_178 rfl rfl dX5_trace_6 ?_
  exact zr_lret S hr hlk X h dX5_trace_9
