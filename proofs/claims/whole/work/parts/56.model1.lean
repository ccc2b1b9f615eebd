set_option maxRecDepth 20000 in
theorem ggX5_type_X5_in : GoodIn wsX5_type wsX5_in := goodIn_r _ [7] (by decide +kernel) (by decide +kernel)
set_option maxRecDepth 20000 in
theorem gX5_type_X5_in : GoodIn wsX5_type (va_wsS RX5 51 yX5_in wsX5_in) := goodIn_app (goodIn_of _ (by decide +kernel)) ggX5_type_X5_in
theorem dX5_type_0 : decode cX5_type 0 = .ok (.aload_n 0, 1) := by decide +kernel
theorem dX5_type_1 : decode cX5_type 1 = .ok (.iconst 0, 1) := by decide +kernel
theorem dX5_type_2 : decode cX5_type 2 = .ok (.putfield 47, 3) := by decide +kernel
theorem dX5_type_5 : decode cX5_type 5 = .ok (.iload_n 1, 1) := by decide +kernel
theorem dX5_type_6 : decode cX5_type 6 = .ok (.iconst 0, 1) := by decide +kernel
theorem dX5_type_7 : decode cX5_type 7 = .ok (.sipush 255, 3) := by decide +kernel
theorem dX5_type_10 : decode cX5_type 10 = .ok (.invokestatic 51, 3) := by decide +kernel
theorem dX5_type_13 : decode cX5_type 13 = .ok (.ifCond .ne 5, 3) := by decide +kernel
theorem dX5_type_16 : decode cX5_type 16 = .ok (.iconst (-1), 1) := by decide +kernel
theorem dX5_type_17 : decode cX5_type 17 = .ok (.ireturn, 1) := by decide +kernel
theorem dX5_type_18 : decode cX5_type 18 = .ok (.aload_n 0, 1) := by decide +kernel
theorem dX5_type_19 : decode cX5_type 19 = .ok (.getfield 55, 3) := by decide +kernel
theorem dX5_type_22 : decode cX5_type 22 = .ok (.sipush 200, 3) := by decide +kernel
theorem dX5_type_25 : decode cX5_type 25 = .ok (.if_icmp .ne 6, 3) := by decide +kernel
theorem dX5_type_28 : decode cX5_type 28 = .ok (.bipush (-3), 2) := by decide +kernel
theorem dX5_type_30 : decode cX5_type 30 = .ok (.ireturn, 1) := by decide +kernel
theorem dX5_type_31 : decode cX5_type 31 = .ok (.aload_n 0, 1) := by decide +kernel
theorem dX5_type_32 : decode cX5_type 32 = .ok (.getfield 7, 3) := by decide +kernel
theorem dX5_type_35 : decode cX5_type 35 = .ok (.aload_n 0, 1) := by decide +kernel
theorem dX5_type_36 : decode cX5_type 36 = .ok (.getfield 55, 3) := by decide +kernel
theorem dX5_type_39 : decode cX5_type 39 = .ok (.iload_n 1, 1) := by decide +kernel
theorem dX5_type_40 : decode cX5_type 40 = .ok (.iastore, 1) := by decide +kernel
theorem dX5_type_41 : decode cX5_type 41 = .ok (.aload_n 0, 1) := by decide +kernel
theorem dX5_type_42 : decode cX5_type 42 = .ok (.dup, 1) := by decide +kernel
theorem dX5_type_43 : decode cX5_type 43 = .ok (.getfield 55, 3) := by decide +kernel
theorem dX5_type_46 : decode cX5_type 46 = .ok (.iconst 1, 1) := by decide +kernel
theorem dX5_type_47 : decode cX5_type 47 = .ok (.iadd, 1) := by decide +kernel
theorem dX5_type_48 : decode cX5_type 48 = .ok (.putfield 55, 3) := by decide +kernel
theorem dX5_type_51 : decode cX5_type 51 = .ok (.aload_n 0, 1) := by decide +kernel
theorem dX5_type_52 : decode cX5_type 52 = .ok (.getfield 55, 3) := by decide +kernel
theorem dX5_type_55 : decode cX5_type 55 = .ok (.ireturn, 1) := by decide +kernel
set_option maxRecDepth 20000 in
theorem kX5_type_7 : Cond.fieldLink RX5 7 "WindPostModel" "text" "[I" ∈ wsX5_type := by decide +kernel
set_option maxRecDepth 20000 in
theorem kX5_type_47 : Cond.fieldLink RX5 47 "WindPostModel" "thrown" "I" ∈ wsX5_type := by decide +kernel
set_option maxRecDepth 20000 in
theorem kX5_type_55 : Cond.fieldLink RX5 55 "WindPostModel" "typed" "I" ∈ wsX5_type := by decide +kernel
set_option maxRecDepth 20000 in
theorem uX5_type_X5 : ∀ w ∈ wsX50, w ∈ wsX5_type := by decide +kernel
set_option maxHeartbeats 8000000 in
set_option maxRecDepth 100000 in
theorem mX5_type (l : Launch) (D : va_G) (ki : Nat → ClassId) (ad : Nat → Nat) (cs : List Nat) (hcs : kR cs) (N : Nat) (a1 : Int32) (G : zMem) (tr : Int64) : gMetI l D ki ad cs yX5_type wsX5_type { frames := 1, cells := 0, slots := 0, locals := 22 } [.ref (ad 0), .int a1] (mE ki ad) G tr (fX5_type N a1 G tr) := by
  refine gMetI_of (cc := cX5_type) (maxL := 2) (ret := (some .int)) (own := RX5) (by decide +kernel) rfl rfl (Nat.le_of_ble_eq_true rfl) ?_
  intro r9 G9 tr9 h p e s m below meth c S hr hlk K X ls hl
  have hl : lv_has ls 2 [(0, .ref (ad 0)), (1, .int a1)] := hl
  unfold fX5_type at h
  obtain ⟨H, hH⟩ : ∃ H, H = s.heap := ⟨_, rfl⟩
  obtain ⟨locs, hlo⟩ : ∃ locs : List Loc, locs = [] := ⟨_, rfl⟩
  have X : gS D cs ad ((mE ki ad) G tr) (gA cs ad s.heap.size) s H locs := by rw [hH, hlo]; exact X
  suffices z : W p l e (headSpec wsX5_type { frames := 1, cells := 0, slots := 0, locals := 22 }).room s m ([.ref (ad 0), .int a1] : List Value).toArray below meth c H locs 0 0 (zQI below ([.ref (ad 0), .int a1] : List Value).toArray s D cs ad ((mE ki ad) G9 tr9) r9) (F0 m 0 ls []) by rw [hH, hlo] at z; exact z
  clear hH hlo
  refine lv_aload_n S.1 S.2.1 dX5_type_0 rfl (lv_at hl 0 rfl) ?_
  refine lv_iconst (v := (0 : Int32)) S.1 S.2.1 dX5_type_1 (by decide) ?_
  refine zr_put (xv := (0 : Int32)) (v := .int (0 : Int32)) (fsf := (fsR ad tr)) (ty := .int) S K X (hcs 0 (by decide)) mE_loc (fun _ => mE_R) rfl uX5_type_X5 tyX5 tyX5_ok nmX5 0 (by decide) kX5_type_47 rfl (by decide +kernel) rfl rfl (by simp) rfl dX5_type_2 (fun H locs X => ?_)
  refine lv_iload_n S.1 S.2.1 dX5_type_5 rfl (lv_at hl 1 rfl) ?_
  refine lv_iconst (v := (0 : Int32)) S.1 S.2.1 dX5_type_6 (by decide) ?_
  refine lv_sipush (v := (255 : Int32)) S.1 S.2.1 dX5_type_7 (by decide) ?_
  obtain ⟨r_2, hf_1, h⟩ := zbp_some h
  refine zr_calli (Eg := (mE ki ad)) (G' := (up2 G 0 0 (0 : Int32))) (tr' := tr) K X (va_runS (As := [.int a1, .int (0 : Int32), .int (255 : Int32)]) (rest := []) S (mX5_in l D ki ad cs N a1 (0 : Int32) (255 : Int32) (mE ki ad) (up2 G 0 0 (0 : Int32)) tr H.size _ _ _ (zpu_of hf_1)) (va_cwS 3 S.2.2.2.2 gX5_type_X5_in rfl rfl rfl (by decide +kernel) ⟨Nat.le_of_ble_eq_true rfl, Nat.le_of_ble_eq_true rfl⟩) (zr_pre K X) rfl rfl hl.1 rfl (lv_room (Nat.le_of_ble_eq_true rfl)) dX5_type_10 ⟨Nat.zero_le _, Nat.zero_le _⟩) (fun H locs X => ?_)
  refine lv_if_ne (tgt := 18) S.1 S.2.1 dX5_type_13 (by decide) (fun hc_3 => ?_) (fun hc_3 => ?_)
  · have h := zif_neg hc_3 h
    refine lv_aload_n S.1 S.2.1 dX5_type_18 rfl (lv_at hl 0 rfl) ?_
    refine zr_get (v := .int ((up2 G 0 0 (0 : Int32)) 0 3)) S K X (hcs 0 (by decide)) mE_R rfl uX5_type_X5 3 (by decide) kX5_type_55 rfl rfl dX5_type_19 ?_
    refine lv_sipush (v := (200 : Int32)) S.1 S.2.1 dX5_type_22 (by decide) ?_
    refine lv_icmp_ne (tgt := 31) S.1 S.2.1 dX5_type_25 (by decide) (fun hc_4 => ?_) (fun hc_4 => ?_)
    · have h := zif_neg hc_4 h
      refine lv_aload_n S.1 S.2.1 dX5_type_31 rfl (lv_at hl 0 rfl) ?_
      refine zr_get (v := .ref (ad 1)) S K X (hcs 0 (by decide)) mE_R rfl uX5_type_X5 2 (by decide) kX5_type_7 rfl rfl dX5_type_32 ?_
      refine lv_aload_n S.1 S.2.1 dX5_type_35 rfl (lv_at hl 0 rfl) ?_
      refine zr_get (v := .int ((up2 G 0 0 (0 : Int32)) 0 3)) S K X (hcs 0 (by decide)) mE_R rfl uX5_type_X5 3 (by decide) kX5_type_55 rfl rfl dX5_type_36 ?_
      refine lv_iload_n S.1 S.2.1 dX5_type_39 rfl (lv_at hl 1 rfl) ?_
      obtain ⟨hi_5, h⟩ := zin_some h
      refine zr_iast S K X (hcs 1 (by decide)) mE_loc (fun _ => mE_1) hi_5 dX5_type_40 (fun H locs X => ?_)
      refine lv_aload_n S.1 S.2.1 dX5_type_41 rfl (lv_at hl 0 rfl) ?_
      refine lv_dup S.1 S.2.1 dX5_type_42 rfl ?_
      refine zr_get (v := .int ((up2 (up2 G 0 0 (0 : Int32)) 1 (Int32.toNatClampNeg ((up2 G 0 0 (0 : Int32)) 0 3)) a1) 0 3)) S K X (hcs 0 (by decide)) mE_R rfl uX5_type_X5 3 (by decide) kX5_type_55 rfl rfl dX5_type_43 ?_
      refine lv_iconst (v := (1 : Int32)) S.1 S.2.1 dX5_type_46 (by decide) ?_
      refine lv_iadd S.1 S.2.1 dX5_type_47 ?_
      refine zr_put (xv := (((up2 (up2 G 0 0 (0 : Int32)) 1 (Int32.toNatClampNeg ((up2 G 0 0 (0 : Int32)) 0 3)) a1) 0 3) + (1 : Int32))) (v := .int (((up2 (up2 G 0 0 (0 : Int32)) 1 (Int32.toNatClampNeg ((up2 G 0 0 (0 : Int32)) 0 3)) a1) 0 3) + (1 : Int32))) (fsf := (fsR ad tr)) (ty := .int) S K X (hcs 0 (by decide)) mE_loc (fun _ => mE_R) rfl uX5_type_X5 tyX5 tyX5_ok nmX5 3 (by decide) kX5_type_55 rfl (by decide +kernel) rfl rfl (by simp) rfl dX5_type_48 (fun H locs X => ?_)
      refine lv_aload_n S.1 S.2.1 dX5_type_51 rfl (lv_at hl 0 rfl) ?_
      refine zr_get (v := .int ((up2 (up2 (up2 G 0 0 (0 : Int32)) 1 (Int32.toNatClampNeg ((up2 G 0 0 (0 : Int32)) 0 3)) a1) 0 3 (((up2 (up2 G 0 0 (0 : Int32)) 1 (Int32.toNatClampNeg ((up2 G 0 0 (0 : Int32)) 0 3)) a1) 0 3) + (1 : Int32))) 0 3)) S K X (hcs 0 (by decide)) mE_R rfl uX5_type_X5 3 (by decide) kX5_type_55 rfl rfl dX5_type_52 ?_
      exact zr_iret S hr hlk X h dX5_type_55
    · have h := zif_pos hc_4 h
      refine lv_bipush (v := (-3 : Int32)) S.1 S.2.1 dX5_type_28 (by decide) ?_
      exact zr_iret S hr hlk X h dX5_type_30
  · have h := zif_pos hc_3 h
    refine lv_iconst (v := (-1 : Int32)) S.1 S.2.1 dX5_type_16 (by decide) ?_
    exact zr_iret S hr hlk X h dX5_type_17
theorem dX5_clear_0 : decode cX5_clear 0 = .ok (.aload_n 0, 1) := by decide +kernel
theorem dX5_clear_1 : decode cX5_clear 1 = .ok (.iconst 0, 1) := by decide +kernel
theorem dX5_clear_2 : decode cX5_clear 2 = .ok (.putfield 47, 3) := by decide +kernel
theorem dX5_clear_5 : decode cX5_clear 5 = .ok (.aload_n 0, 1) := by decide +kernel
theorem dX5_clear_6 : decode cX5_clear 6 = .ok (.getfield 55, 3) := by decide +kernel
theorem dX5_clear_9 : decode cX5_clear 9 = .ok (.istore_n 1, 1) := by decide +kernel
theorem dX5_clear_10 : decode cX5_clear 10 = .ok (.aload_n 0, 1) := by decide +kernel
theorem dX5_clear_11 : decode cX5_clear 11 = .ok (.iconst 0, 1) := by decide +kernel
theorem dX5_clear_12 : decode cX5_clear 12 = .ok (.putfield 55, 3) := by decide +kernel
theorem dX5_clear_15 : decode cX5_clear 15 = .ok (.iload_n 1, 1) := by decide +kernel
theorem dX5_clear_16 : decode cX5_clear 16 = .ok (.ireturn, 1) := by decide +kernel
set_option maxRecDepth 20000 in
theorem kX5_clear_47 : Cond.fieldLink RX5 47 "WindPostModel" "thrown" "I" ∈ wsX5_clear := by decide +kernel
set_option maxRecDepth 20000 in
theorem kX5_clear_55 : Cond.fieldLink RX5 55 "WindPostModel" "typed" "I" ∈ wsX5_clear := by decide +kernel
set_option maxRecDepth 20000 in
theorem uX5_clear_X5 : ∀ w ∈ wsX50, w ∈ wsX5_clear := by decide +kernel
set_option maxHeartbeats 8000000 in
set_option maxRecDepth 100000 in
theorem mX5_clear (l : Launch) (D : va_G) (ki : Nat → ClassId) (ad : Nat → Nat) (cs : List Nat) (hcs : kR cs) (N : Nat) (G : zMem) (tr : Int64) : gMetI l D ki ad cs yX5_clear wsX5_clear { frames := 0, cells := 0, slots := 0, locals := 0 } [.ref (ad 0)] (mE ki ad) G tr (fX5_clear N G tr) := by
  refine gMetI_of (cc := cX5_clear) (maxL := 2) (ret := (some .int)) (own := RX5) (by decide +kernel) rfl rfl (Nat.le_of_ble_eq_true rfl) ?_
  intro r9 G9 tr9 h p e s m below meth c S hr hlk K X ls hl
  have hl : lv_has ls 2 [(0, .ref (ad 0))] := hl
  unfold fX5_clear at h
  obtain ⟨H, hH⟩ : ∃ H, H = s.heap := ⟨_, rfl⟩
  obtain ⟨locs, hlo⟩ : ∃ locs : List Loc, locs = [] := ⟨_, rfl⟩
  have X : gS D cs ad ((mE ki ad) G tr) (gA cs ad s.heap.size) s H locs := by rw [hH, hlo]; exact X
  suffices z : W p l e (headSpec wsX5_clear { frames := 0, cells := 0, slots := 0, locals := 0 }).room s m ([.ref (ad 0)] : List Value).toArray below meth c H locs 0 0 (zQI below ([.ref (ad 0)] : List Value).toArray s D cs ad ((mE ki ad) G9 tr9) r9) (F0 m 0 ls []) by rw [hH, hlo] at z; exact z
  clear hH hlo
  refine lv_aload_n S.1 S.2.1 dX5_clear_0 rfl (lv_at hl 0 rfl) ?_
  refine lv_iconst (v := (0 : Int32)) S.1 S.2.1 dX5_clear_1 (by decide) ?_
  refine zr_put (xv := (0 : Int32)) (v := .int (0 : Int32)) (fsf := (fsR ad tr)) (ty := .int) S K X (hcs 0 (by decide)) mE_loc (fun _ => mE_R) rfl uX5_clear_X5 tyX5 tyX5_ok nmX5 0 (by decide) kX5_clear_47 rfl (by decide +kernel) rfl rfl (by simp) rfl dX5_clear_2 (fun H locs X => ?_)
  refine lv_aload_n S.1 S.2.1 dX5_clear_5 rfl (lv_at hl 0 rfl) ?_
  refine zr_get (v := .int ((up2 G 0 0 (0 : Int32)) 0 3)) S K X (hcs 0 (by decide)) mE_R rfl uX5_clear_X5 3 (by decide) kX5_clear_55 rfl rfl dX5_clear_6 ?_
  refine lv_istore_n (lv' := [(1, .int ((up2 G 0 0 (0 : Int32)) 0 3)), (0, .ref (ad 0))]) S.1 S.2.1 dX5_clear_9 rfl hl (by decide) rfl (fun ls hl => ?_)
  refine lv_aload_n S.1 S.2.1 dX5_clear_10 rfl (lv_at hl 1 rfl) ?_
  refine lv_iconst (v := (0 : Int32)) S.1 S.2.1 dX5_clear_11 (by decide) ?_
  refine zr_put (xv := (0 : Int32)) (v := .int (0 : Int32)) (fsf := (fsR ad tr)) (ty := .int) S K X (hcs 0 (by decide)) mE_loc (fun _ => mE_R) rfl uX5_clear_X5 tyX5 tyX5_ok nmX5 3 (by decide) kX5_clear_55 rfl (by decide +kernel) rfl rfl (by simp) rfl dX5_clear_12 (fun H locs X => ?_)
  refine lv_iload_n S.1 S.2.1 dX5_clear_15 rfl (lv_at hl 0 rfl) ?_
  exact zr_iret S hr hlk X h dX5_clear_16
theorem dX5_letterAt_0 : decode cX5_letterAt 0 = .ok (.iload_n 1, 1) := by decide +kernel
theorem dX5_letterAt_1 : decode cX5_letterAt 1 = .ok (.aload_n 0, 1) := by decide +kernel
theorem dX5_letterAt_2 : decode cX5_letterAt 2 = .ok (.getfield 55, 3) := by decide +kernel
theorem dX5_letterAt_5 : decode cX5_letterAt 5 = .ok (.if_icmp .ge 12, 3) := by decide +kernel
theorem dX5_letterAt_8 : decode cX5_letterAt 8 = .ok (.aload_n 0, 1) := by decide +kernel
theorem dX5_letterAt_9 : decode cX5_letterAt 9 = .ok (.getfield 7, 3) := by decide +kernel
theorem dX5_letterAt_12 : decode cX5_letterAt 12 = .ok (.iload_n 1, 1) := by decide +kernel
theorem dX5_letterAt_13 : decode cX5_letterAt 13 = .ok (.iaload, 1) := by decide +kernel
theorem dX5_letterAt_14 : decode cX5_letterAt 14 = .ok (.goto 4, 3) := by decide +kernel
theorem dX5_letterAt_17 : decode cX5_letterAt 17 = .ok (.iconst (-1), 1) := by decide +kernel
theorem dX5_letterAt_18 : decode cX5_letterAt 18 = .ok (.ireturn, 1) := by decide +kernel
set_option maxRecDepth 20000 in
theorem kX5_letterAt_7 : Cond.fieldLink RX5 7 "WindPostModel" "text" "[I" ∈ wsX5_letterAt := by decide +kernel
set_option maxRecDepth 20000 in
theorem kX5_letterAt_55 : Cond.fieldLink RX5 55 "WindPostModel" "typed" "I" ∈ wsX5_letterAt := by decide +kernel
set_option maxRecDepth 20000 in
theorem uX5_letterAt_X5 : ∀ w ∈ wsX50, w ∈ wsX5_letterAt := by decide +kernel
set_option maxHeartbeats 8000000 in
set_option maxRecDepth 100000 in
theorem mX5_letterAt (l : Launch) (D : va_G) (ki : Nat → ClassId) (ad : Nat → Nat) (cs : List Nat) (hcs : kR cs) (N : Nat) (a1 : Int32) (G : zMem) (tr : Int64) : gMetI l D ki ad cs yX5_letterAt wsX5_letterAt { frames := 0, cells := 0, slots := 0, locals := 0 } [.ref (ad 0), .int a1] (mE ki ad) G tr (fX5_letterAt N a1 G tr) := by
  refine gMetI_of (cc := cX5_letterAt) (maxL := 2) (ret := (some .int)) (own := RX5) (by decide +kernel) rfl rfl (Nat.le_of_ble_eq_true rfl) ?_
  intro r9 G9 tr9 h p e s m below meth c S hr hlk K X ls hl
  have hl : lv_has ls 2 [(0, .ref (ad 0)), (1, .int a1)] := hl
  unfold fX5_letterAt at h
  obtain ⟨H, hH⟩ : ∃ H, H = s.heap := ⟨_, rfl⟩
  obtain ⟨locs, hlo⟩ : ∃ locs : List Loc, locs = [] := ⟨_, rfl⟩
  have X : gS D cs ad ((mE ki ad) G tr) (gA cs ad s.heap.size) s H locs := by rw [hH, hlo]; exact X
  suffices z : W p l e (headSpec wsX5_letterAt { frames := 0, cells := 0, slots := 0, locals := 0 }).room s m ([.ref (ad 0), .int a1] : List Value).toArray below meth c H locs 0 0 (zQI below ([.ref (ad 0), .int a1] : List Value).toArray s D cs ad ((mE ki ad) G9 tr9) r9) (F0 m 0 ls []) by rw [hH, hlo] at z; exact z
  clear hH hlo
  refine lv_iload_n S.1 S.2.1 dX5_letterAt_0 rfl (lv_at hl 1 rfl) ?_
  refine lv_aload_n S.1 S.2.1 dX5_letterAt_1 rfl (lv_at hl 0 rfl) ?_
  refine zr_get (v := .int (G 0 3)) S K X (hcs 0 (by decide)) mE_R rfl uX5_letterAt_X5 3 (by decide) kX5_letterAt_55 rfl rfl dX5_letterAt_2 ?_
  refine lv_icmp_ge (tgt := 17) S.1 S.2.1 dX5_letterAt_5 (by decide) (fun hc_1 => ?_) (fun hc_1 => ?_)
  · have h := zif_pos hc_1 h
    refine lv_iconst (v := (-1 : Int32)) S.1 S.2.1 dX5_letterAt_17 (by decide) ?_
    exact zr_iret S hr hlk X h dX5_letterAt_18
  · have h := zif_neg hc_1 h
    refine lv_aload_n S.1 S.2.1 dX5_letterAt_8 rfl (lv_at hl 0 rfl) ?_
    refine zr_get (v := .ref (ad 1)) S K X (hcs 0 (by decide)) mE_R rfl uX5_letterAt_X5 2 (by decide) kX5_letterAt_7 rfl rfl dX5_letterAt_9 ?_
    refine lv_iload_n S.1 S.2.1 dX5_letterAt_12 rfl (lv_at hl 1 rfl) ?_
    obtain ⟨hi_2, h⟩ := zin_some h
    refine zr_iald S K X (hcs 1 (by decide)) mE_1 hi_2 dX5_letterAt_13 ?_
    refine lv_goto (tgt := 18) S.1 S.2.1 dX5_letterAt_14 (by decide) ?_
    exact zr_iret S hr hlk X h dX5_letterAt_18
set_option maxRecDepth 20000 in
theorem ggX5_advances_X5_letterAt : GoodIn wsX5_advances wsX5_letterAt := goodIn_r _ [9, 10, 11, 15, 16, 17, 18, 19, 20, 21, 22, 23, 24, 25, 26, 27, 28, 29, 30, 31, 32, 33, 34, 35, 36] (by decide +kernel) (by decide +kernel)
set_option maxRecDepth 20000 in
theorem gX5_advances_X5_letterAt : GoodIn wsX5_advances (wsV RX5 61 RX5 yX5_letterAt wsX5_letterAt) := goodIn_app (goodIn_of _ (by decide +kernel)) ggX5_advances_X5_letterAt
set_option maxRecDepth 20000 in
theorem ggX5_advances_X5_in : GoodIn wsX5_advances wsX5_in := goodIn_r _ [14] (by decide +kernel) (by decide +kernel)
set_option maxRecDepth 20000 in
theorem gX5_advances_X5_in : GoodIn wsX5_advances (va_wsS RX5 51 yX5_in wsX5_in) := goodIn_app (goodIn_of _ (by decide +kernel)) ggX5_advances_X5_in
theorem dX5_advances_0 : decode cX5_advances 0 = .ok (.aload_n 0, 1) := by decide +kernel
theorem dX5_advances_1 : decode cX5_advances 1 = .ok (.aload_n 0, 1) := by decide +kernel
theorem dX5_advances_2 : decode cX5_advances 2 = .ok (.getfield 58, 3) := by decide +kernel
theorem dX5_advances_5 : decode cX5_advances 5 = .ok (.invokevirtual 61, 3) := by decide +kernel
theorem dX5_advances_8 : decode cX5_advances 8 = .ok (.bipush 32, 2) := by decide +kernel
theorem dX5_advances_10 : decode cX5_advances 10 = .ok (.if_icmp .ne 16, 3) := by decide +kernel
theorem dX5_advances_13 : decode cX5_advances 13 = .ok (.aload_n 0, 1) := by decide +kernel
theorem dX5_advances_14 : decode cX5_advances 14 = .ok (.dup, 1) := by decide +kernel
theorem dX5_advances_15 : decode cX5_advances 15 = .ok (.getfield 58, 3) := by decide +kernel
theorem dX5_advances_18 : decode cX5_advances 18 = .ok (.iconst 1, 1) := by decide +kernel
theorem dX5_advances_19 : decode cX5_advances 19 = .ok (.iadd, 1) := by decide +kernel
theorem dX5_advances_20 : decode cX5_advances 20 = .ok (.putfield 58, 3) := by decide +kernel
theorem dX5_advances_23 : decode cX5_advances 23 = .ok (.goto (-23), 3) := by decide +kernel
theorem dX5_advances_26 : decode cX5_advances 26 = .ok (.aload_n 0, 1) := by decide +kernel
theorem dX5_advances_27 : decode cX5_advances 27 = .ok (.aload_n 0, 1) := by decide +kernel
theorem dX5_advances_28 : decode cX5_advances 28 = .ok (.getfield 58, 3) := by decide +kernel
theorem dX5_advances_31 : decode cX5_advances 31 = .ok (.putfield 65, 3) := by decide +kernel
theorem dX5_advances_34 : decode cX5_advances 34 = .ok (.aload_n 0, 1) := by decide +kernel
theorem dX5_advances_35 : decode cX5_advances 35 = .ok (.aload_n 0, 1) := by decide +kernel
theorem dX5_advances_36 : decode cX5_advances 36 = .ok (.getfield 58, 3) := by decide +kernel
theorem dX5_advances_39 : decode cX5_advances 39 = .ok (.invokevirtual 61, 3) := by decide +kernel
theorem dX5_advances_42 : decode cX5_advances 42 = .ok (.istore_n 1, 1) := by decide +kernel
theorem dX5_advances_43 : decode cX5_advances 43 = .ok (.iload_n 1, 1) := by decide +kernel
theorem dX5_advances_44 : decode cX5_advances 44 = .ok (.ifCond .ge 11, 3) := by decide +kernel
theorem dX5_advances_47 : decode cX5_advances 47 = .ok (.aload_n 0, 1) := by decide +kernel
theorem dX5_advances_48 : decode cX5_advances 48 = .ok (.iconst 0, 1) := by decide +kernel
theorem dX5_advances_49 : decode cX5_advances 49 = .ok (.putfield 68, 3) := by decide +kernel
theorem dX5_advances_52 : decode cX5_advances 52 = .ok (.goto 193, 3) := by decide +kernel
theorem dX5_advances_55 : decode cX5_advances 55 = .ok (.iload_n 1, 1) := by decide +kernel
theorem dX5_advances_56 : decode cX5_advances 56 = .ok (.bipush 48, 2) := by decide +kernel
theorem dX5_advances_58 : decode cX5_advances 58 = .ok (.bipush 57, 2) := by decide +kernel
theorem dX5_advances_60 : decode cX5_advances 60 = .ok (.invokestatic 51, 3) := by decide +kernel
theorem dX5_advances_63 : decode cX5_advances 63 = .ok (.ifCond .eq 118, 3) := by decide +kernel
theorem dX5_advances_66 : decode cX5_advances 66 = .ok (.aload_n 0, 1) := by decide +kernel
theorem dX5_advances_67 : decode cX5_advances 67 = .ok (.iconst 0, 1) := by decide +kernel
theorem dX5_advances_68 : decode cX5_advances 68 = .ok (.putfield 71, 3) := by decide +kernel
theorem dX5_advances_71 : decode cX5_advances 71 = .ok (.aload_n 0, 1) := by decide +kernel
theorem dX5_advances_72 : decode cX5_advances 72 = .ok (.aload_n 0, 1) := by decide +kernel
theorem dX5_advances_73 : decode cX5_advances 73 = .ok (.getfield 58, 3) := by decide +kernel
theorem dX5_advances_76 : decode cX5_advances 76 = .ok (.invokevirtual 61, 3) := by decide +kernel
theorem dX5_advances_79 : decode cX5_advances 79 = .ok (.bipush 48, 2) := by decide +kernel
theorem dX5_advances_81 : decode cX5_advances 81 = .ok (.bipush 57, 2) := by decide +kernel
theorem dX5_advances_83 : decode cX5_advances 83 = .ok (.invokestatic 51, 3) := by decide +kernel
theorem dX5_advances_86 : decode cX5_advances 86 = .ok (.ifCond .eq 55, 3) := by decide +kernel
theorem dX5_advances_89 : decode cX5_advances 89 = .ok (.aload_n 0, 1) := by decide +kernel
theorem dX5_advances_90 : decode cX5_advances 90 = .ok (.aload_n 0, 1) := by decide +kernel
theorem dX5_advances_91 : decode cX5_advances 91 = .ok (.getfield 71, 3) := by decide +kernel
theorem dX5_advances_94 : decode cX5_advances 94 = .ok (.bipush 29, 2) := by decide +kernel
theorem dX5_advances_96 : decode cX5_advances 96 = .ok (.if_icmp .le 10, 3) := by decide +kernel
theorem dX5_advances_99 : decode cX5_advances 99 = .ok (.aload_n 0, 1) := by decide +kernel
theorem dX5_advances_100 : decode cX5_advances 100 = .ok (.getfield 71, 3) := by decide +kernel
theorem dX5_advances_103 : decode cX5_advances 103 = .ok (.goto 22, 3) := by decide +kernel
theorem dX5_advances_106 : decode cX5_advances 106 = .ok (.bipush 10, 2) := by decide +kernel
theorem dX5_advances_108 : decode cX5_advances 108 = .ok (.aload_n 0, 1) := by decide +kernel
theorem dX5_advances_109 : decode cX5_advances 109 = .ok (.getfield 71, 3) := by decide +kernel
theorem dX5_advances_112 : decode cX5_advances 112 = .ok (.imul, 1) := by decide +kernel
theorem dX5_advances_113 : decode cX5_advances 113 = .ok (.aload_n 0, 1) := by decide +kernel
theorem dX5_advances_114 : decode cX5_advances 114 = .ok (.aload_n 0, 1) := by decide +kernel
theorem dX5_advances_115 : decode cX5_advances 115 = .ok (.getfield 58, 3) := by decide +kernel
theorem dX5_advances_118 : decode cX5_advances 118 = .ok (.invokevirtual 61, 3) := by decide +kernel
theorem dX5_advances_121 : decode cX5_advances 121 = .ok (.iadd, 1) := by decide +kernel
theorem dX5_advances_122 : decode cX5_advances 122 = .ok (.bipush 48, 2) := by decide +kernel
theorem dX5_advances_124 : decode cX5_advances 124 = .ok (.isub, 1) := by decide +kernel
theorem dX5_advances_125 : decode cX5_advances 125 = .ok (.putfield 71, 3) := by decide +kernel
theorem dX5_advances_128 : decode cX5_advances 128 = .ok (.aload_n 0, 1) := by decide +kernel
theorem dX5_advances_129 : decode cX5_advances 129 = .ok (.dup, 1) := by decide +kernel
theorem dX5_advances_130 : decode cX5_advances 130 = .ok (.getfield 58, 3) := by decide +kernel
theorem dX5_advances_133 : decode cX5_advances 133 = .ok (.iconst 1, 1) := by decide +kernel
theorem dX5_advances_134 : decode cX5_advances 134 = .ok (.iadd, 1) := by decide +kernel
theorem dX5_advances_135 : decode cX5_advances 135 = .ok (.putfield 58, 3) := by decide +kernel
theorem dX5_advances_138 : decode cX5_advances 138 = .ok (.goto (-67), 3) := by decide +kernel
theorem dX5_advances_141 : decode cX5_advances 141 = .ok (.aload_n 0, 1) := by decide +kernel
theorem dX5_advances_142 : decode cX5_advances 142 = .ok (.aload_n 0, 1) := by decide +kernel
theorem dX5_advances_143 : decode cX5_advances 143 = .ok (.getfield 71, 3) := by decide +kernel
theorem dX5_advances_146 : decode cX5_advances 146 = .ok (.bipush 29, 2) := by decide +kernel
theorem dX5_advances_148 : decode cX5_advances 148 = .ok (.if_icmp .gt 22, 3) := by decide +kernel
theorem dX5_advances_151 : decode cX5_advances 151 = .ok (.iload_n 1, 1) := by decide +kernel
theorem dX5_advances_152 : decode cX5_advances 152 = .ok (.bipush 48, 2) := by decide +kernel
theorem dX5_advances_154 : decode cX5_advances 154 = .ok (.if_icmp .ne 20, 3) := by decide +kernel
theorem dX5_advances_157 : decode cX5_advances 157 = .ok (.aload_n 0, 1) := by decide +kernel
theorem dX5_advances_158 : decode cX5_advances 158 = .ok (.getfield 58, 3) := by decide +kernel
theorem dX5_advances_161 : decode cX5_advances 161 = .ok (.aload_n 0, 1) := by decide +kernel
theorem dX5_advances_162 : decode cX5_advances 162 = .ok (.getfield 65, 3) := by decide +kernel
theorem dX5_advances_165 : decode cX5_advances 165 = .ok (.isub, 1) := by decide +kernel
theorem dX5_advances_166 : decode cX5_advances 166 = .ok (.iconst 1, 1) := by decide +kernel
theorem dX5_advances_167 : decode cX5_advances 167 = .ok (.if_icmp .le 7, 3) := by decide +kernel
theorem dX5_advances_170 : decode cX5_advances 170 = .ok (.iconst 4, 1) := by decide +kernel
theorem dX5_advances_171 : decode cX5_advances 171 = .ok (.goto 4, 3) := by decide +kernel
theorem dX5_advances_174 : decode cX5_advances 174 = .ok (.iconst 2, 1) := by decide +kernel
theorem dX5_advances_175 : decode cX5_advances 175 = .ok (.putfield 68, 3) := by decide +kernel
theorem dX5_advances_178 : decode cX5_advances 178 = .ok (.goto 67, 3) := by decide +kernel
theorem dX5_advances_181 : decode cX5_advances 181 = .ok (.aload_n 0, 1) := by decide +kernel
theorem dX5_advances_182 : decode cX5_advances 182 = .ok (.dup, 1) := by decide +kernel
theorem dX5_advances_183 : decode cX5_advances 183 = .ok (.getfield 58, 3) := by decide +kernel
theorem dX5_advances_186 : decode cX5_advances 186 = .ok (.iconst 1, 1) := by decide +kernel
theorem dX5_advances_187 : decode cX5_advances 187 = .ok (.iadd, 1) := by decide +kernel
theorem dX5_advances_188 : decode cX5_advances 188 = .ok (.putfield 58, 3) := by decide +kernel
theorem dX5_advances_191 : decode cX5_advances 191 = .ok (.aload_n 0, 1) := by decide +kernel
theorem dX5_advances_192 : decode cX5_advances 192 = .ok (.iload_n 1, 1) := by decide +kernel
theorem dX5_advances_193 : decode cX5_advances 193 = .ok (.putfield 71, 3) := by decide +kernel
theorem dX5_advances_196 : decode cX5_advances 196 = .ok (.aload_n 0, 1) := by decide +kernel
theorem dX5_advances_197 : decode cX5_advances 197 = .ok (.iload_n 1, 1) := by decide +kernel
theorem dX5_advances_198 : decode cX5_advances 198 = .ok (.bipush 59, 2) := by decide +kernel
theorem dX5_advances_200 : decode cX5_advances 200 = .ok (.if_icmp .ne 7, 3) := by decide +kernel
theorem dX5_advances_203 : decode cX5_advances 203 = .ok (.iconst 3, 1) := by decide +kernel
theorem dX5_advances_204 : decode cX5_advances 204 = .ok (.goto 38, 3) := by decide +kernel
theorem dX5_advances_207 : decode cX5_advances 207 = .ok (.iload_n 1, 1) := by decide +kernel
theorem dX5_advances_208 : decode cX5_advances 208 = .ok (.bipush 103, 2) := by decide +kernel
theorem dX5_advances_210 : decode cX5_advances 210 = .ok (.if_icmp .eq 27, 3) := by decide +kernel
theorem dX5_advances_213 : decode cX5_advances 213 = .ok (.iload_n 1, 1) := by decide +kernel
theorem dX5_advances_214 : decode cX5_advances 214 = .ok (.bipush 105, 2) := by decide +kernel
theorem dX5_advances_216 : decode cX5_advances 216 = .ok (.if_icmp .eq 21, 3) := by decide +kernel
theorem dX5_advances_219 : decode cX5_advances 219 = .ok (.iload_n 1, 1) := by decide +kernel
theorem dX5_advances_220 : decode cX5_advances 220 = .ok (.bipush 120, 2) := by decide +kernel
theorem dX5_advances_222 : decode cX5_advances 222 = .ok (.if_icmp .eq 15, 3) := by decide +kernel
theorem dX5_advances_225 : decode cX5_advances 225 = .ok (.iload_n 1, 1) := by decide +kernel
theorem dX5_advances_226 : decode cX5_advances 226 = .ok (.bipush 98, 2) := by decide +kernel
theorem dX5_advances_228 : decode cX5_advances 228 = .ok (.if_icmp .eq 9, 3) := by decide +kernel
theorem dX5_advances_231 : decode cX5_advances 231 = .ok (.iload_n 1, 1) := by decide +kernel
theorem dX5_advances_232 : decode cX5_advances 232 = .ok (.bipush 102, 2) := by decide +kernel
theorem dX5_advances_234 : decode cX5_advances 234 = .ok (.if_icmp .ne 7, 3) := by decide +kernel
theorem dX5_advances_237 : decode cX5_advances 237 = .ok (.iconst 1, 1) := by decide +kernel
theorem dX5_advances_238 : decode cX5_advances 238 = .ok (.goto 4, 3) := by decide +kernel
theorem dX5_advances_241 : decode cX5_advances 241 = .ok (.iconst 4, 1) := by decide +kernel
theorem dX5_advances_242 : decode cX5_advances 242 = .ok (.putfield 68, 3) := by decide +kernel
theorem dX5_advances_245 : decode cX5_advances 245 = .ok (.return_, 1) := by decide +kernel
set_option maxRecDepth 20000 in
theorem kX5_advances_58 : Cond.fieldLink RX5 58 "WindPostModel" "next" "I" ∈ wsX5_advances := by decide +kernel
set_option maxRecDepth 20000 in
theorem kX5_advances_65 : Cond.fieldLink RX5 65 "WindPostModel" "place" "I" ∈ wsX5_advances := by decide +kernel
set_option maxRecDepth 20000 in
theorem kX5_advances_68 : Cond.fieldLink RX5 68 "WindPostModel" "token" "I" ∈ wsX5_advances := by decide +kernel
set_option maxRecDepth 20000 in
theorem kX5_advances_71 : Cond.fieldLink RX5 71 "WindPostModel" "value" "I" ∈ wsX5_advances := by decide +kernel
set_option maxRecDepth 20000 in
theorem uX5_advances_X5 : ∀ w ∈ wsX50, w ∈ wsX5_advances := by decide +kernel
set_option maxHeartbeats 8000000 in
set_option maxRecDepth 100000 in
theorem mX5_advances (l : Launch) (D : va_G) (ki : Nat → ClassId) (ad : Nat → Nat) (cs : List Nat) (hcs : kR cs) (N : Nat) (G : zMem) (tr : Int64) : gMetV l D ki ad cs yX5_advances wsX5_advances { frames := 1, cells := 0, slots := 0, locals := 22 } [.ref (ad 0)] (mE ki ad) G tr (fX5_advances N G tr) := by
  refine gMetV_of (cc := cX5_advances) (maxL := 2) (ret := none) (own := RX5) (by decide +kernel) rfl rfl (Nat.le_of_ble_eq_true rfl) ?_
  intro r9 G9 tr9 h p e s m below meth c S hr hlk K X ls hl
  have hl : lv_has ls 2 [(0, .ref (ad 0))] := hl
  have b125 : ∀ (k71 : Int32 → zMem → Int64 → zR) (hk71 : ∀ (x1 : Int32) (G : zMem) (tr : Int64), k71 x1 G tr = some (r9, G9, tr9) → zAt p l e (headSpec wsX5_advances { frames := 1, cells := 0, slots := 0, locals := 22 }).room s m ([.ref (ad 0)] : List Value).toArray below meth c 2 D cs ad (zQV below ([.ref (ad 0)] : List Value).toArray s D cs ad ((mE ki ad) G9 tr9)) 71 [(0, .ref (ad 0)), (1, .int x1)] [] ((mE ki ad) G tr)) (x1 : Int32) (s0 : Int32) (G : zMem) (tr : Int64), fX5_advances_b125 N k71 x1 s0 G tr = some (r9, G9, tr9) → zAt p l e (headSpec wsX5_advances { frames := 1, cells := 0, slots := 0, locals := 22 }).room s m ([.ref (ad 0)] : List Value).toArray below meth c 2 D cs ad (zQV below ([.ref (ad 0)] : List Value).toArray s D cs ad ((mE ki ad) G9 tr9)) 125 [(0, .ref (ad 0)), (1, .int x1)] [.int s0, .ref (ad 0)] ((mE ki ad) G tr) := by
    intro k71 hk71 x1 s0 G tr h H locs ls X hl
    unfold fX5_advances_b125 at h
    refine zr_put (xv := s0) (v := .int s0) (fsf := (fsR ad tr)) (ty := .int) S K X (hcs 0 (by decide)) mE_loc (fun _ => mE_R) rfl uX5_advances_X5 tyX5 tyX5_ok nmX5 7 (by decide) kX5_advances_71 rfl (by decide +kernel) rfl rfl (by simp) rfl dX5_advances_125 (fun H locs X => ?_)
    refine lv_aload_n S.1 S.2.1 dX5_advances_128 rfl (lv_at hl 0 rfl) ?_
    refine lv_dup S.1 S.2.1 dX5_advances_129 rfl ?_
    refine zr_get (v := .int ((up2 G 0 7 s0) 0 4)) S K X (hcs 0 (by decide)) mE_R rfl uX5_advances_X5 4 (by decide) kX5_advances_58 rfl rfl dX5_advances_130 ?_
    refine lv_iconst (v := (1 : Int32)) S.1 S.2.1 dX5_advances_133 (by decide) ?_
    refine lv_iadd S.1 S.2.1 dX5_advances_134 ?_
    refine zr_put (xv := (((up2 G 0 7 s0) 0 4) + (1 : Int32))) (v := .int (((up2 G 0 7 s0) 0 4) + (1 : Int32))) (fsf := (fsR ad tr)) (ty := .int) S K X (hcs 0 (by decide)) mE_loc (fun _ => mE_R) rfl uX5_advances_X5 tyX5 tyX5_ok nmX5 4 (by decide) kX5_advances_58 rfl (by decide +kernel) rfl rfl (by simp) rfl dX5_advances_135 (fun H locs X => ?_)
    refine lv_goto (tgt := 71) S.1 S.2.1 dX5_advances_138 (by decide) ?_
    exact hk71 x1 (up2 (up2 G 0 7 s0) 0 4 (((up2 G 0 7 s0) 0 4) + (1 : Int32))) tr h _ _ _ X (lv_sub hl [0, 1] rfl)
  have b175 : ∀ (s0 : Int32) (G : zMem) (tr : Int64), fX5_advances_b175 N s0 G tr = some (r9, G9, tr9) → zAt p l e (headSpec wsX5_advances { frames := 1, cells := 0, slots := 0, locals := 22 }).room s m ([.ref (ad 0)] : List Value).toArray below meth c 2 D cs ad (zQV below ([.ref (ad 0)] : List Value).toArray s D cs ad ((mE ki ad) G9 tr9)) 175 [] [.int s0, .ref (ad 0)] ((mE ki ad) G tr) := by
    intro s0 G tr h H locs ls X hl
    unfold fX5_advances_b175 at h
    refine zr_put (xv := s0) (v := .int s0) (fsf := (fsR ad tr)) (ty := .int) S K X (hcs 0 (by decide)) mE_loc (fun _ => mE_R) rfl uX5_advances_X5 tyX5 tyX5_ok nmX5 5 (by decide) kX5_advances_68 rfl (by decide +kernel) rfl rfl (by simp) rfl dX5_advances_175 (fun H locs X => ?_)
    refine lv_goto (tgt := 245) S.1 S.2.1 dX5_advances_178 (by decide) ?_
    exact zr_vret S hr hlk X h dX5_advances_245
  have b170 : ∀ (G : zMem) (tr : Int64), fX5_advances_b170 N G tr = some (r9, G9, tr9) → zAt p l e (headSpec wsX5_advances { frames := 1, cells := 0, slots := 0, locals := 22 }).room s m ([.ref (ad 0)] : List Value).toArray below meth c 2 D cs ad (zQV below ([.ref (ad 0)] : List Value).toArray s D cs ad ((mE ki ad) G9 tr9)) 170 [] [.ref (ad 0)] ((mE ki ad) G tr) := by
    intro G tr h H locs ls X hl
    unfold fX5_advances_b170 at h
    refine lv_iconst (v := (4 : Int32)) S.1 S.2.1 dX5_advances_170 (by decide) ?_
    refine lv_goto (tgt := 175) S.1 S.2.1 dX5_advances_171 (by decide) ?_
    exact b175 (4 : Int32) G tr h _ _ _ X (lv_sub hl [] rfl)
  have b174 : ∀ (G : zMem) (tr : Int64), fX5_advances_b174 N G tr = some (r9, G9, tr9) → zAt p l e (headSpec wsX5_advances { frames := 1, cells := 0, slots := 0, locals := 22 }).room s m ([.ref (ad 0)] : List Value).toArray below meth c 2 D cs ad (zQV below ([.ref (ad 0)] : List Value).toArray s D cs ad ((mE ki ad) G9 tr9)) 174 [] [.ref (ad 0)] ((mE ki ad) G tr) := by
    intro G tr h H locs ls X hl
    unfold fX5_advances_b174 at h
    refine lv_iconst (v := (2 : Int32)) S.1 S.2.1 dX5_advances_174 (by decide) ?_
    exact b175 (2 : Int32) G tr h _ _ _ X (lv_sub hl [] rfl)
  have b71 : ∀ (k71 : Int32 → zMem → Int64 → zR) (hk71 : ∀ (x1 : Int32) (G : zMem) (tr : Int64), k71 x1 G tr = some (r9, G9, tr9) → zAt p l e (headSpec wsX5_advances { frames := 1, cells := 0, slots := 0, locals := 22 }).room s m ([.ref (ad 0)] : List Value).toArray below meth c 2 D cs ad (zQV below ([.ref (ad 0)] : List Value).toArray s D cs ad ((mE ki ad) G9 tr9)) 71 [(0, .ref (ad 0)), (1, .int x1)] [] ((mE ki ad) G tr)) (x1 : Int32) (G : zMem) (tr : Int64), fX5_advances_b71 N k71 x1 G tr = some (r9, G9, tr9) → zAt p l e (headSpec wsX5_advances { frames := 1, cells := 0, slots := 0, locals := 22 }).room s m ([.ref (ad 0)] : List Value).toArray below meth c 2 D cs ad (zQV below ([.ref (ad 0)] : List Value).toArray s D cs ad ((mE ki ad) G9 tr9)) 71 [(0, .ref (ad 0)), (1, .int x1)] [] ((mE ki ad) G tr) := by
    intro k71 hk71 x1 G tr h H locs ls X hl
    unfold fX5_advances_b71 at h
    refine lv_aload_n S.1 S.2.1 dX5_advances_71 rfl (lv_at hl 0 rfl) ?_
    refine lv_aload_n S.1 S.2.1 dX5_advances_72 rfl (lv_at hl 0 rfl) ?_
    refine zr_get (v := .int (G 0 4)) S K X (hcs 0 (by decide)) mE_R rfl uX5_advances_X5 4 (by decide) kX5_advances_58 rfl rfl dX5_advances_73 ?_
    obtain ⟨r_2, G_3, tr_4, hf_1, h⟩ := zbd_some h
    refine zr_calli (Eg := (mE ki ad)) K X (va_runV (As := [.int (G 0 4)]) (rest := []) S (mX5_letterAt l D ki ad cs hcs N (G 0 4) G tr H.size _ _ _ hf_1) (cwV 1 S.2.2.2.2 gX5_advances_X5_letterAt rfl rfl rfl (by decide +kernel) ⟨Nat.le_of_ble_eq_true rfl, Nat.le_of_ble_eq_true rfl⟩) (zr_preV (c0 := 0) K X (hcs 0 (by decide)) mE_R rfl) rfl rfl hl.1 rfl (lv_room (Nat.le_of_ble_eq_true rfl)) dX5_advances_76 ⟨Nat.zero_le _, Nat.zero_le _⟩) (fun H locs X => ?_)
    refine lv_bipush (v := (48 : Int32)) S.1 S.2.1 dX5_advances_79 (by decide) ?_
    refine lv_bipush (v := (57 : Int32)) S.1 S.2.1 dX5_advances_81 (by decide) ?_
    obtain ⟨r_6, hf_5, h⟩ := zbp_some h
    refine zr_calli (Eg := (mE ki ad)) (G' := G_3) (tr' := tr_4) K X (va_runS (As := [.int r_2, .int (48 : Int32), .int (57 : Int32)]) (rest := []) S (mX5_in l D ki ad cs N r_2 (48 : Int32) (57 : Int32) (mE ki ad) G_3 tr_4 H.size _ _ _ (zpu_of hf_5)) (va_cwS 3 S.2.2.2.2 gX5_advances_X5_in rfl rfl rfl (by decide +kernel) ⟨Nat.le_of_ble_eq_true rfl, Nat.le_of_ble_eq_true rfl⟩) (zr_pre K X) rfl rfl hl.1 rfl (lv_room (Nat.le_of_ble_eq_true rfl)) dX5_advances_83 ⟨Nat.zero_le _, Nat.zero_le _⟩) (fun H locs X => ?_)
    refine lv_if_eq (tgt := 141) S.1 S.2.1 dX5_advances_86 (by decide) (fun hc_7 => ?_) (fun hc_7 => ?_)
    · have h := zif_pos hc_7 h
      refine lv_aload_n S.1 S.2.1 dX5_advances_141 rfl (lv_at hl 0 rfl) ?_
      refine lv_aload_n S.1 S.2.1 dX5_advances_142 rfl (lv_at hl 0 rfl) ?_
      refine zr_get (v := .int (G_3 0 7)) S K X (hcs 0 (by decide)) mE_R rfl uX5_advances_X5 7 (by decide) kX5_advances_71 rfl rfl dX5_advances_143 ?_
      refine lv_bipush (v := (29 : Int32)) S.1 S.2.1 dX5_advances_146 (by decide) ?_
      refine lv_icmp_gt (tgt := 170) S.1 S.2.1 dX5_advances_148 (by decide) (fun hc_8 => ?_) (fun hc_8 => ?_)
      · have h := zif_pos hc_8 h
        exact b170 G_3 tr_4 h _ _ _ X (lv_sub hl [] rfl)
      · have h := zif_neg hc_8 h
        refine lv_iload_n S.1 S.2.1 dX5_advances_151 rfl (lv_at hl 1 rfl) ?_
        refine lv_bipush (v := (48 : Int32)) S.1 S.2.1 dX5_advances_152 (by decide) ?_
        refine lv_icmp_ne (tgt := 174) S.1 S.2.1 dX5_advances_154 (by decide) (fun hc_9 => ?_) (fun hc_9 => ?_)
        · have h := zif_neg hc_9 h
          exact b174 G_3 tr_4 h _ _ _ X (lv_sub hl [] rfl)
        · have h := zif_pos hc_9 h
          refine lv_aload_n S.1 S.2.1 dX5_advances_157 rfl (lv_at hl 0 rfl) ?_
          refine zr_get (v := .int (G_3 0 4)) S K X (hcs 0 (by decide)) mE_R rfl uX5_advances_X5 4 (by decide) kX5_advances_58 rfl rfl dX5_advances_158 ?_
          refine lv_aload_n S.1 S.2.1 dX5_advances_161 rfl (lv_at hl 0 rfl) ?_
          refine zr_get (v := .int (G_3 0 6)) S K X (hcs 0 (by decide)) mE_R rfl uX5_advances_X5 6 (by decide) kX5_advances_65 rfl rfl dX5_advances_162 ?_
          refine lv_isub S.1 S.2.1 dX5_advances_165 ?_
          refine lv_iconst (v := (1 : Int32)) S.1 S.2.1 dX5_advances_166 (by decide) ?_
          refine lv_icmp_le (tgt := 174) S.1 S.2.1 dX5_advances_167 (by decide) (fun hc_10 => ?_) (fun hc_10 => ?_)
          · have h := zif_pos hc_10 h
            exact b174 G_3 tr_4 h _ _ _ X (lv_sub hl [] rfl)
          · have h := zif_neg hc_10 h
            exact b170 G_3 tr_4 h _ _ _ X (lv_sub hl [] rfl)
    · have h := zif_neg hc_7 h
      refine lv_aload_n S.1 S.2.1 dX5_advances_89 rfl (lv_at hl 0 rfl) ?_
      refine lv_aload_n S.1 S.2.1 dX5_advances_90 rfl (lv_at hl 0 rfl) ?_
      refine zr_get (v := .int (G_3 0 7)) S K X (hcs 0 (by decide)) mE_R rfl uX5_advances_X5 7 (by decide) kX5_advances_71 rfl rfl dX5_advances_91 ?_
      refine lv_bipush (v := (29 : Int32)) S.1 S.2.1 dX5_advances_94 (by decide) ?_
      refine lv_icmp_le (tgt := 106) S.1 S.2.1 dX5_advances_96 (by decide) (fun hc_11 => ?_) (fun hc_11 => ?_)
      · have h := zif_pos hc_11 h
        refine lv_bipush (v := (10 : Int32)) S.1 S.2.1 dX5_advances_106 (by decide) ?_
        refine lv_aload_n S.1 S.2.1 dX5_advances_108 rfl (lv_at hl 0 rfl) ?_
        refine zr_get (v := .int (G_3 0 7)) S K X (hcs 0 (by decide)) mE_R rfl uX5_advances_X5 7 (by decide) kX5_advances_71 rfl rfl dX5_advances_109 ?_
        refine lv_imul S.1 S.2.1 dX5_advances_112 ?_
        refine lv_aload_n S.1 S.2.1 dX5_advances_113 rfl (lv_at hl 0 rfl) ?_
        refine lv_aload_n S.1 S.2.1 dX5_advances_114 rfl (lv_at hl 0 rfl) ?_
        refine zr_get (v := .int (G_3 0 4)) S K X (hcs 0 (by decide)) mE_R rfl uX5_advances_X5 4 (by decide) kX5_advances_58 rfl rfl dX5_advances_115 ?_
        obtain ⟨r_13, G_14, tr_15, hf_12, h⟩ := zbd_some h
        refine zr_calli (Eg := (mE ki ad)) K X (va_runV (As := [.int (G_3 0 4)]) (rest := [.int ((10 : Int32) * (G_3 0 7)), .ref (ad 0)]) S (mX5_letterAt l D ki ad cs hcs N (G_3 0 4) G_3 tr_4 H.size _ _ _ hf_12) (cwV 1 S.2.2.2.2 gX5_advances_X5_letterAt rfl rfl rfl (by decide +kernel) ⟨Nat.le_of_ble_eq_true rfl, Nat.le_of_ble_eq_true rfl⟩) (zr_preV (c0 := 0) K X (hcs 0 (by decide)) mE_R rfl) rfl rfl hl.1 rfl (lv_room (Nat.le_of_ble_eq_true rfl)) dX5_advances_118 ⟨Nat.zero_le _, Nat.zero_le _⟩) (fun H locs X => ?_)
        refine lv_iadd S.1 S.2.1 dX5_advances_121 ?_
        refine lv_bipush (v := (48 : Int32)) S.1 S.2.1 dX5_advances_122 (by decide) ?_
        refine lv_isub S.1 S.2.1 dX5_advances_124 ?_
        exact b125 k71 hk71 x1 ((((10 : Int32) * (G_3 0 7)) + r_13) - (48 : Int32)) G_14 tr_15 h _ _ _ X (lv_sub hl [0, 1] rfl)
      · have h := zif_neg hc_11 h
        refine lv_aload_n S.1 S.2.1 dX5_advances_99 rfl (lv_at hl 0 rfl) ?_
        refine zr_get (v := .int (G_3 0 7)) S K X (hcs 0 (by decide)) mE_R rfl uX5_advances_X5 7 (by decide) kX5_advances_71 rfl rfl dX5_advances_100 ?_
        refine lv_goto (tgt := 125) S.1 S.2.1 dX5_advances_103 (by decide) ?_
        exact b125 k71 hk71 x1 (G_3 0 7) G_3 tr_4 h _ _ _ X (lv_sub hl [0, 1] rfl)
  have L71 : ∀ (n : Nat) (x1 : Int32) (G : zMem) (tr : Int64), fX5_advances_L71 N n x1 G tr = some (r9, G9, tr9) → zAt p l e (headSpec wsX5_advances { frames := 1, cells := 0, slots := 0, locals := 22 }).room s m ([.ref (ad 0)] : List Value).toArray below meth c 2 D cs ad (zQV below ([.ref (ad 0)] : List Value).toArray s D cs ad ((mE ki ad) G9 tr9)) 71 [(0, .ref (ad 0)), (1, .int x1)] [] ((mE ki ad) G tr) := by
    intro n
    induction n with
    | zero => intro x1 G tr h; cases h
    | succ n ih => intro x1 G tr h; exact b71 (fX5_advances_L71 N n) ih x1 G tr h
  have b242 : ∀ (s0 : Int32) (G : zMem) (tr : Int64), fX5_advances_b242 N s0 G tr = some (r9, G9, tr9) → zAt p l e (headSpec wsX5_advances { frames := 1, cells := 0, slots := 0, locals := 22 }).room s m ([.ref (ad 0)] : List Value).toArray below meth c 2 D cs ad (zQV below ([.ref (ad 0)] : List Value).toArray s D cs ad ((mE ki ad) G9 tr9)) 242 [] [.int s0, .ref (ad 0)] ((mE ki ad) G tr) := by
    intro s0 G tr h H locs ls X hl
    unfold fX5_advances_b242 at h
    refine zr_put (xv := s0) (v := .int s0) (fsf := (fsR ad tr)) (ty := .int) S K X (hcs 0 (by decide)) mE_loc (fun _ => mE_R) rfl uX5_advances_X5 tyX5 tyX5_ok nmX5 5 (by decide) kX5_advances_68 rfl (by decide +kernel) rfl rfl (by simp) rfl dX5_advances_242 (fun H locs X => ?_)
    exact zr_vret S hr hlk X h dX5_advances_245
  have b237 : ∀ (G : zMem) (tr : Int64), fX5_advances_b237 N G tr = some (r9, G9, tr9) → zAt p l e (headSpec wsX5_advances { frames := 1, cells := 0, slots := 0, locals := 22 }).room s m ([.ref (ad 0)] : List Value).toArray below meth c 2 D cs ad (zQV below ([.ref (ad 0)] : List Value).toArray s D cs ad ((mE ki ad) G9 tr9)) 237 [] [.ref (ad 0)] ((mE ki ad) G tr) := by
    intro G tr h H locs ls X hl
    unfold fX5_advances_b237 at h
    refine lv_iconst (v := (1 : Int32)) S.1 S.2.1 dX5_advances_237 (by decide) ?_
    refine lv_goto (tgt := 242) S.1 S.2.1 dX5_advances_238 (by decide) ?_
    exact b242 (1 : Int32) G tr h _ _ _ X (lv_sub hl [] rfl)
  have b0 : ∀ (k0 : zMem → Int64 → zR) (hk0 : ∀ (G : zMem) (tr : Int64), k0 G tr = some (r9, G9, tr9) → zAt p l e (headSpec wsX5_advances { frames := 1, cells := 0, slots := 0, locals := 22 }).room s m ([.ref (ad 0)] : List Value).toArray below meth c 2 D cs ad (zQV below ([.ref (ad 0)] : List Value).toArray s D cs ad ((mE ki ad) G9 tr9)) 0 [(0, .ref (ad 0))] [] ((mE ki ad) G tr)) (G : zMem) (tr : Int64), fX5_advances_b0 N k0 G tr = some (r9, G9, tr9) → zAt p l e (headSpec wsX5_advances { frames := 1, cells := 0, slots := 0, locals := 22 }).room s m ([.ref (ad 0)] : List Value).toArray below meth c 2 D cs ad (zQV below ([.ref (ad 0)] : List Value).toArray s D cs ad ((mE ki ad) G9 tr9)) 0 [(0, .ref (ad 0))] [] ((mE ki ad) G tr) := by
    intro k0 hk0 G tr h H locs ls X hl
    unfold fX5_advances_b0 at h
    refine lv_aload_n S.1 S.2.1 dX5_advances_0 rfl (lv_at hl 0 rfl) ?_
    refine lv_aload_n S.1 S.2.1 dX5_advances_1 rfl (lv_at hl 0 rfl) ?_
    refine zr_get (v := .int (G 0 4)) S K X (hcs 0 (by decide)) mE_R rfl uX5_advances_X5 4 (by decide) kX5_advances_58 rfl rfl dX5_advances_2 ?_
    obtain ⟨r_2, G_3, tr_4, hf_1, h⟩ := zbd_some h
    refine zr_calli (Eg := (mE ki ad)) K X (va_runV (As := [.int (G 0 4)]) (rest := []) S (mX5_letterAt l D ki ad cs hcs N (G 0 4) G tr H.size _ _ _ hf_1) (cwV 1 S.2.2.2.2 gX5_advances_X5_letterAt rfl rfl rfl (by decide +kernel) ⟨Nat.le_of_ble_eq_true rfl, Nat.le_of_ble_eq_true rfl⟩) (zr_preV (c0 := 0) K X (hcs 0 (by decide)) mE_R rfl) rfl rfl hl.1 rfl (lv_room (Nat.le_of_ble_eq_true rfl)) dX5_advances_5 ⟨Nat.zero_le _, Nat.zero_le _⟩) (fun H locs X => ?_)
    refine lv_bipush (v := (32 : Int32)) S.1 S.2.1 dX5_advances_8 (by decide) ?_
    refine lv_icmp_ne (tgt := 26) S.1 S.2.1 dX5_advances_10 (by decide) (fun hc_5 => ?_) (fun hc_5 => ?_)
    · have h := zif_neg hc_5 h
      refine lv_aload_n S.1 S.2.1 dX5_advances_26 rfl (lv_at hl 0 rfl) ?_
      refine lv_aload_n S.1 S.2.1 dX5_advances_27 rfl (lv_at hl 0 rfl) ?_
      refine zr_get (v := .int (G_3 0 4)) S K X (hcs 0 (by decide)) mE_R rfl uX5_advances_X5 4 (by decide) kX5_advances_58 rfl rfl dX5_advances_28 ?_
      refine zr_put (xv := (G_3 0 4)) (v := .int (G_3 0 4)) (fsf := (fsR ad tr_4)) (ty := .int) S K X (hcs 0 (by decide)) mE_loc (fun _ => mE_R) rfl uX5_advances_X5 tyX5 tyX5_ok nmX5 6 (by decide) kX5_advances_65 rfl (by decide +kernel) rfl rfl (by simp) rfl dX5_advances_31 (fun H locs X => ?_)
      refine lv_aload_n S.1 S.2.1 dX5_advances_34 rfl (lv_at hl 0 rfl) ?_
      refine lv_aload_n S.1 S.2.1 dX5_advances_35 rfl (lv_at hl 0 rfl) ?_
      refine zr_get (v := .int ((up2 G_3 0 6 (G_3 0 4)) 0 4)) S K X (hcs 0 (by decide)) mE_R rfl uX5_advances_X5 4 (by decide) kX5_advances_58 rfl rfl dX5_advances_36 ?_
      obtain ⟨r_7, G_8, tr_9, hf_6, h⟩ := zbd_some h
      refine zr_calli (Eg := (mE ki ad)) K X (va_runV (As := [.int ((up2 G_3 0 6 (G_3 0 4)) 0 4)]) (rest := []) S (mX5_letterAt l D ki ad cs hcs N ((up2 G_3 0 6 (G_3 0 4)) 0 4) (up2 G_3 0 6 (G_3 0 4)) tr_4 H.size _ _ _ hf_6) (cwV 1 S.2.2.2.2 gX5_advances_X5_letterAt rfl rfl rfl (by decide +kernel) ⟨Nat.le_of_ble_eq_true rfl, Nat.le_of_ble_eq_true rfl⟩) (zr_preV (c0 := 0) K X (hcs 0 (by decide)) mE_R rfl) rfl rfl hl.1 rfl (lv_room (Nat.le_of_ble_eq_true rfl)) dX5_advances_39 ⟨Nat.zero_le _, Nat.zero_le _⟩) (fun H locs X => ?_)
      refine lv_istore_n (lv' := [(1, .int r_7), (0, .ref (ad 0))]) S.1 S.2.1 dX5_advances_42 rfl hl (by decide) rfl (fun ls hl => ?_)
      refine lv_iload_n S.1 S.2.1 dX5_advances_43 rfl (lv_at hl 0 rfl) ?_
      refine lv_if_ge (tgt := 55) S.1 S.2.1 dX5_advances_44 (by decide) (fun hc_10 => ?_) (fun hc_10 => ?_)
      · have h := zif_pos hc_10 h
        refine lv_iload_n S.1 S.2.1 dX5_advances_55 rfl (lv_at hl 0 rfl) ?_
        refine lv_bipush (v := (48 : Int32)) S.1 S.2.1 dX5_advances_56 (by decide) ?_
        refine lv_bipush (v := (57 : Int32)) S.1 S.2.1 dX5_advances_58 (by decide) ?_
        obtain ⟨r_12, hf_11, h⟩ := zbp_some h
        refine zr_calli (Eg := (mE ki ad)) (G' := G_8) (tr' := tr_9) K X (va_runS (As := [.int r_7, .int (48 : Int32), .int (57 : Int32)]) (rest := []) S (mX5_in l D ki ad cs N r_7 (48 : Int32) (57 : Int32) (mE ki ad) G_8 tr_9 H.size _ _ _ (zpu_of hf_11)) (va_cwS 3 S.2.2.2.2 gX5_advances_X5_in rfl rfl rfl (by decide +kernel) ⟨Nat.le_of_ble_eq_true rfl, Nat.le_of_ble_eq_true rfl⟩) (zr_pre K X) rfl rfl hl.1 rfl (lv_room (Nat.le_of_ble_eq_true rfl)) dX5_advances_60 ⟨Nat.zero_le _, Nat.zero_le _⟩) (fun H locs X => ?_)
        refine lv_if_eq (tgt := 181) S.1 S.2.1 dX5_advances_63 (by decide) (fun hc_13 => ?_) (fun hc_13 => ?_)
        · have h := zif_pos hc_13 h
          refine lv_aload_n S.1 S.2.1 dX5_advances_181 rfl (lv_at hl 1 rfl) ?_
          refine lv_dup S.1 S.2.1 dX5_advances_182 rfl ?_
          refine zr_get (v := .int (G_8 0 4)) S K X (hcs 0 (by decide)) mE_R rfl uX5_advances_X5 4 (by decide) kX5_advances_58 rfl rfl dX5_advances_183 ?_
          refine lv_iconst (v := (1 : Int32)) S.1 S.2.1 dX5_advances_186 (by decide) ?_
          refine lv_iadd S.1 S.2.1 dX5_advances_187 ?_
          refine zr_put (xv := ((G_8 0 4) + (1 : Int32))) (v := .int ((G_8 0 4) + (1 : Int32))) (fsf := (fsR ad tr_9)) (ty := .int) S K X (hcs 0 (by decide)) mE_loc (fun _ => mE_R) rfl uX5_advances_X5 tyX5 tyX5_ok nmX5 4 (by decide) kX5_advances_58 rfl (by decide +kernel) rfl rfl (by simp) rfl dX5_advances_188 (fun H locs X => ?_)
          refine lv_aload_n S.1 S.2.1 dX5_advances_191 rfl (lv_at hl 1 rfl) ?_
          refine lv_iload_n S.1 S.2.1 dX5_advances_192 rfl (lv_at hl 0 rfl) ?_
          refine zr_put (xv := r_7) (v := .int r_7) (fsf := (fsR ad tr_9)) (ty := .int) S K X (hcs 0 (by decide)) mE_loc (fun _ => mE_R) rfl uX5_advances_X5 tyX5 tyX5_ok nmX5 7 (by decide) kX5_advances_71 rfl (by decide +kernel) rfl rfl (by simp) rfl dX5_advances_193 (fun H locs X => ?_)
          refine lv_aload_n S.1 S.2.1 dX5_advances_196 rfl (lv_at hl 1 rfl) ?_
          refine lv_iload_n S.1 S.2.1 dX5_advances_197 rfl (lv_at hl 0 rfl) ?_
          refine lv_bipush (v := (59 : Int32)) S.1 S.2.1 dX5_advances_198 (by decide) ?_
          refine lv_icmp_ne (tgt := 207) S.1 S.2.1 dX5_advances_200 (by decide) (fun hc_14 => ?_) (fun hc_14 => ?_)
          · have h := zif_neg hc_14 h
            refine lv_iload_n S.1 S.2.1 dX5_advances_207 rfl (lv_at hl 0 rfl) ?_
            refine lv_bipush (v := (103 : Int32)) S.1 S.2.1 dX5_advances_208 (by decide) ?_
            refine lv_icmp_eq (tgt := 237) S.1 S.2.1 dX5_advances_210 (by decide) (fun hc_15 => ?_) (fun hc_15 => ?_)
            · have h := zif_pos hc_15 h
              exact b237 (up2 (up2 G_8 0 4 ((G_8 0 4) + (1 : Int32))) 0 7 r_7) tr_9 h _ _ _ X (lv_sub hl [] rfl)
            · have h := zif_neg hc_15 h
              refine lv_iload_n S.1 S.2.1 dX5_advances_213 rfl (lv_at hl 0 rfl) ?_
              refine lv_bipush (v := (105 : Int32)) S.1 S.2.1 dX5_advances_214 (by decide) ?_
              refine lv_icmp_eq (tgt := 237) S.1 S.2.1 dX5_advances_216 (by decide) (fun hc_16 => ?_) (fun hc_16 => ?_)
              · have h := zif_pos hc_16 h
                exact b237 (up2 (up2 G_8 0 4 ((G_8 0 4) + (1 : Int32))) 0 7 r_7) tr_9 h _ _ _ X (lv_sub hl [] rfl)
              · have h := zif_neg hc_16 h
                refine lv_iload_n S.1 S.2.1 dX5_advances_219 rfl (lv_at hl 0 rfl) ?_
                refine lv_bipush (v := (120 : Int32)) S.1 S.2.1 dX5_advances_220 (by decide) ?_
                refine lv_icmp_eq (tgt := 237) S.1 S.2.1 dX5_advances_222 (by decide) (fun hc_17 => ?_) (fun hc_17 => ?_)
                · have h := zif_pos hc_17 h
                  exact b237 (up2 (up2 G_8 0 4 ((G_8 0 4) + (1 : Int32))) 0 7 r_7) tr_9 h _ _ _ X (lv_sub hl [] rfl)
                · have h := zif_neg hc_17 h
                  refine lv_iload_n S.1 S.2.1 dX5_advances_225 rfl (lv_at hl 0 rfl) ?_
                  refine lv_bipush (v := (98 : Int32)) S.1 S.2.1 dX5_advances_226 (by decide) ?_
                  refine lv_icmp_eq (tgt := 237) S.1 S.2.1 dX5_advances_228 (by decide) (fun hc_18 => ?_) (fun hc_18 => ?_)
                  · have h := zif_pos hc_18 h
                    exact b237 (up2 (up2 G_8 0 4 ((G_8 0 4) + (1 : Int32))) 0 7 r_7) tr_9 h _ _ _ X (lv_sub hl [] rfl)
                  · have h := zif_neg hc_18 h
                    refine lv_iload_n S.1 S.2.1 dX5_advances_231 rfl (lv_at hl 0 rfl) ?_
                    refine lv_bipush (v := (102 : Int32)) S.1 S.2.1 dX5_advances_232 (by decide) ?_
                    refine lv_icmp_ne (tgt := 241) S.1 S.2.1 dX5_advances_234 (by decide) (fun hc_19 => ?_) (fun hc_19 => ?_)
                    · have h := zif_neg hc_19 h
                      refine lv_iconst (v := (4 : Int32)) S.1 S.2.1 dX5_advances_241 (by decide) ?_
                      exact b242 (4 : Int32) (up2 (up2 G_8 0 4 ((G_8 0 4) + (1 : Int32))) 0 7 r_7) tr_9 h _ _ _ X (lv_sub hl [] rfl)
                    · have h := zif_pos hc_19 h
                      exact b237 (up2 (up2 G_8 0 4 ((G_8 0 4) + (1 : Int32))) 0 7 r_7) tr_9 h _ _ _ X (lv_sub hl [] rfl)
          · have h := zif_pos hc_14 h
            refine lv_iconst (v := (3 : Int32)) S.1 S.2.1 dX5_advances_203 (by decide) ?_
            refine lv_goto (tgt := 242) S.1 S.2.1 dX5_advances_204 (by decide) ?_
            exact b242 (3 : Int32) (up2 (up2 G_8 0 4 ((G_8 0 4) + (1 : Int32))) 0 7 r_7) tr_9 h _ _ _ X (lv_sub hl [] rfl)
        · have h := zif_neg hc_13 h
          refine lv_aload_n S.1 S.2.1 dX5_advances_66 rfl (lv_at hl 1 rfl) ?_
          refine lv_iconst (v := (0 : Int32)) S.1 S.2.1 dX5_advances_67 (by decide) ?_
          refine zr_put (xv := (0 : Int32)) (v := .int (0 : Int32)) (fsf := (fsR ad tr_9)) (ty := .int) S K X (hcs 0 (by decide)) mE_loc (fun _ => mE_R) rfl uX5_advances_X5 tyX5 tyX5_ok nmX5 7 (by decide) kX5_advances_71 rfl (by decide +kernel) rfl rfl (by simp) rfl dX5_advances_68 (fun H locs X => ?_)
          exact L71 N r_7 (up2 G_8 0 7 (0 : Int32)) tr_9 h _ _ _ X (lv_sub hl [1, 0] rfl)
      · have h := zif_neg hc_10 h
        refine lv_aload_n S.1 S.2.1 dX5_advances_47 rfl (lv_at hl 1 rfl) ?_
        refine lv_iconst (v := (0 : Int32)) S.1 S.2.1 dX5_advances_48 (by decide) ?_
        refine zr_put (xv := (0 : Int32)) (v := .int (0 : Int32)) (fsf := (fsR ad tr_9)) (ty := .int) S K X (hcs 0 (by decide)) mE_loc (fun _ => mE_R) rfl uX5_advances_X5 tyX5 tyX5_ok nmX5 5 (by decide) kX5_advances_68 rfl (by decide +kernel) rfl rfl (by simp) rfl dX5_advances_49 (fun H locs X => ?_)
        refine lv_goto (tgt := 245) S.1 S.2.1 dX5_advances_52 (by decide) ?_
        exact zr_vret S hr hlk X h dX5_advances_245
    · have h := zif_pos hc_5 h
      refine lv_aload_n S.1 S.2.1 dX5_advances_13 rfl (lv_at hl 0 rfl) ?_
      refine lv_dup S.1 S.2.1 dX5_advances_14 rfl ?_
      refine zr_get (v := .int (G_3 0 4)) S K X (hcs 0 (by decide)) mE_R rfl uX5_advances_X5 4 (by decide) kX5_advances_58 rfl rfl dX5_advances_15 ?_
      refine lv_iconst (v := (1 : Int32)) S.1 S.2.1 dX5_advances_18 (by decide) ?_
      refine lv_iadd S.1 S.2.1 dX5_advances_19 ?_
      refine zr_put (xv := ((G_3 0 4) + (1 : Int32))) (v := .int ((G_3 0 4) + (1 : Int32))) (fsf := (fsR ad tr_4)) (ty := .int) S K X (hcs 0 (by decide)) mE_loc (fun _ => mE_R) rfl uX5_advances_X5 tyX5 tyX5_ok nmX5 4 (by decide) kX5_advances_58 rfl (by decide +kernel) rfl rfl (by simp) rfl dX5_advances_20 (fun H locs X => ?_)
      refine lv_goto (tgt := 0) S.1 S.2.1 dX5_advances_23 (by decide) ?_
      exact hk0 (up2 G_3 0 4 ((G_3 0 4) + (1 : Int32))) tr_4 h _ _ _ X (lv_sub hl [0] rfl)
  have L0 : ∀ (n : Nat) (G : zMem) (tr : Int64), fX5_advances_L0 N n G tr = some (r9, G9, tr9) → zAt p l e (headSpec wsX5_advances { frames := 1, cells := 0, slots := 0, locals := 22 }).room s m ([.ref (ad 0)] : List Value).toArray below meth c 2 D cs ad (zQV below ([.ref (ad 0)] : List Value).toArray s D cs ad ((mE ki ad) G9 tr9)) 0 [(0, .ref (ad 0))] [] ((mE ki ad) G tr) := by
    intro n
    induction n with
    | zero => intro G tr h; cases h
    | succ n ih => intro G tr h; exact b0 (fX5_advances_L0 N n) ih G tr h
  unfold fX5_advances at h
  obtain ⟨H, hH⟩ : ∃ H, H = s.heap := ⟨_, rfl⟩
  obtain ⟨locs, hlo⟩ : ∃ locs : List Loc, locs = [] := ⟨_, rfl⟩
  have X : gS D cs ad ((mE ki ad) G tr) (gA cs ad s.heap.size) s H locs := by rw [hH, hlo]; exact X
  suffices z : W p l e (headSpec wsX5_advances { frames := 1, cells := 0, slots := 0, locals := 22 }).room s m ([.ref (ad 0)] : List Value).toArray below meth c H locs 0 0 (zQV below ([.ref (ad 0)] : List Value).toArray s D cs ad ((mE ki ad) G9 tr9)) (F0 m 0 ls []) by rw [hH, hlo] at z; exact z
  clear hH hlo
  exact L0 N G tr h _ _ _ X (lv_sub hl [0] rfl)
theorem dX5_isWell_0 : decode cX5_isWell 0 = .ok (.aload_n 0, 1) := by decide +kernel
theorem dX5_isWell_1 : decode cX5_isWell 1 = .ok (.getfield 74, 3) := by decide +kernel
theorem dX5_isWell_4 : decode cX5_isWell 4 = .ok (.ifCond .ge 7, 3) := by decide +kernel
theorem dX5_isWell_7 : decode cX5_isWell 7 = .ok (.iconst 1, 1) := by decide +kernel
theorem dX5_isWell_8 : decode cX5_isWell 8 = .ok (.goto 4, 3) := by decide +kernel
theorem dX5_isWell_11 : decode cX5_isWell 11 = .ok (.iconst 0, 1) := by decide +kernel
theorem dX5_isWell_12 : decode cX5_isWell 12 = .ok (.ireturn, 1) := by decide +kernel
set_option maxRecDepth 20000 in
theorem kX5_isWell_74 : Cond.fieldLink RX5 74 "WindPostModel" "fault" "I" ∈ wsX5_isWell := by decide +kernel
set_option maxRecDepth 20000 in
theorem uX5_isWell_X5 : ∀ w ∈ wsX50, w ∈ wsX5_isWell := by decide +kernel
set_option maxHeartbeats 8000000 in
set_option maxRecDepth 100000 in
theorem mX5_isWell (l : Launch) (D : va_G) (ki : Nat → ClassId) (ad : Nat → Nat) (cs : List Nat) (hcs : kR cs) (N : Nat) (G : zMem) (tr : Int64) : gMetI l D ki ad cs yX5_isWell wsX5_isWell { frames := 0, cells := 0, slots := 0, locals := 0 } [.ref (ad 0)] (mE ki ad) G tr (fX5_isWell N G tr) := by
  refine gMetI_of (cc := cX5_isWell) (maxL := 1) (ret := (some .boolean)) (own := RX5) (by decide +kernel) rfl rfl (Nat.le_of_ble_eq_true rfl) ?_
  intro r9 G9 tr9 h p e s m below meth c S hr hlk K X ls hl
  have hl : lv_has ls 1 [(0, .ref (ad 0))] := hl
  unfold fX5_isWell at h
  obtain ⟨H, hH⟩ : ∃ H, H = s.heap := ⟨_, rfl⟩
  obtain ⟨locs, hlo⟩ : ∃ locs : List Loc, locs = [] := ⟨_, rfl⟩
  have X : gS D cs ad ((mE ki ad) G tr) (gA cs ad s.heap.size) s H locs := by rw [hH, hlo]; exact X
  suffices z : W p l e (headSpec wsX5_isWell { frames := 0, cells := 0, slots := 0, locals := 0 }).room s m ([.ref (ad 0)] : List Value).toArray below meth c H locs 0 0 (zQI below ([.ref (ad 0)] : List Value).toArray s D cs ad ((mE ki ad) G9 tr9) r9) (F0 m 0 ls []) by rw [hH, hlo] at z; exact z
  clear hH hlo
  refine lv_aload_n S.1 S.2.1 dX5_isWell_0 rfl (lv_at hl 0 rfl) ?_
  refine zr_get (v := .int (G 0 8)) S K X (hcs 0 (by decide)) mE_R rfl uX5_isWell_X5 8 (by decide) kX5_isWell_74 rfl rfl dX5_isWell_1 ?_
  refine lv_if_ge (tgt := 11) S.1 S.2.1 dX5_isWell_4 (by decide) (fun hc_1 => ?_) (fun hc_1 => ?_)
  · have h := zif_pos hc_1 h
    refine lv_iconst (v := (0 : Int32)) S.1 S.2.1 dX5_isWell_11 (by decide) ?_
    exact zr_zret S hr hlk X h dX5_isWell_12
  · have h := zif_neg hc_1 h
    refine lv_iconst (v := (1 : Int32)) S.1 S.2.1 dX5_isWell_7 (by decide) ?_
    refine lv_goto (tgt := 12) S.1 S.2.1 dX5_isWell_8 (by decide) ?_
    exact zr_zret S hr hlk X h dX5_isWell_12
set_option maxRecDepth 20000 in
theorem ggX5_takes_X5_isWell : GoodIn wsX5_takes wsX5_isWell := goodIn_r _ [8, 2, 24, 25, 26, 27, 28, 29, 30, 31, 32, 33, 34, 35, 36, 37, 38, 39, 40, 41, 42, 43, 44, 45] (by decide +kernel) (by decide +kernel)
set_option maxRecDepth 20000 in
theorem gX5_takes_X5_isWell : GoodIn wsX5_takes (wsV RX5 77 RX5 yX5_isWell wsX5_isWell) := goodIn_app (goodIn_of _ (by decide +kernel)) ggX5_takes_X5_isWell
set_option maxRecDepth 20000 in
theorem ggX5_takes_X5_advances : GoodIn wsX5_takes wsX5_advances := goodIn_r _ [12, 13, 1, 14, 3, 15, 16, 17, 7, 18, 19, 20, 21, 22, 23, 24, 25, 26, 27, 28, 29, 30, 31, 32, 33, 34, 35, 36, 37, 38, 39, 40, 41, 42, 43, 44, 45] (by decide +kernel) (by decide +kernel)
set_option maxRecDepth 20000 in
theorem gX5_takes_X5_advances : GoodIn wsX5_takes (wsV RX5 81 RX5 yX5_advances wsX5_advances) := goodIn_app (goodIn_of _ (by decide +kernel)) ggX5_takes_X5_advances
theorem dX5_takes_0 : decode cX5_takes 0 = .ok (.aload_n 0, 1) := by decide +kernel
theorem dX5_takes_1 : decode cX5_takes 1 = .ok (.invokevirtual 77, 3) := by decide +kernel
theorem dX5_takes_4 : decode cX5_takes 4 = .ok (.ifCond .ne 5, 3) := by decide +kernel
theorem dX5_takes_7 : decode cX5_takes 7 = .ok (.iconst 0, 1) := by decide +kernel
theorem dX5_takes_8 : decode cX5_takes 8 = .ok (.ireturn, 1) := by decide +kernel
theorem dX5_takes_9 : decode cX5_takes 9 = .ok (.iload_n 1, 1) := by decide +kernel
theorem dX5_takes_10 : decode cX5_takes 10 = .ok (.ifCond .ne 13, 3) := by decide +kernel
theorem dX5_takes_13 : decode cX5_takes 13 = .ok (.aload_n 0, 1) := by decide +kernel
theorem dX5_takes_14 : decode cX5_takes 14 = .ok (.aload_n 0, 1) := by decide +kernel
theorem dX5_takes_15 : decode cX5_takes 15 = .ok (.getfield 65, 3) := by decide +kernel
theorem dX5_takes_18 : decode cX5_takes 18 = .ok (.putfield 74, 3) := by decide +kernel
theorem dX5_takes_21 : decode cX5_takes 21 = .ok (.iconst 0, 1) := by decide +kernel
theorem dX5_takes_22 : decode cX5_takes 22 = .ok (.ireturn, 1) := by decide +kernel
theorem dX5_takes_23 : decode cX5_takes 23 = .ok (.aload_n 0, 1) := by decide +kernel
theorem dX5_takes_24 : decode cX5_takes 24 = .ok (.getfield 71, 3) := by decide +kernel
theorem dX5_takes_27 : decode cX5_takes 27 = .ok (.istore_n 2, 1) := by decide +kernel
theorem dX5_takes_28 : decode cX5_takes 28 = .ok (.aload_n 0, 1) := by decide +kernel
theorem dX5_takes_29 : decode cX5_takes 29 = .ok (.invokevirtual 81, 3) := by decide +kernel
theorem dX5_takes_32 : decode cX5_takes 32 = .ok (.iload_n 2, 1) := by decide +kernel
theorem dX5_takes_33 : decode cX5_takes 33 = .ok (.ireturn, 1) := by decide +kernel
set_option maxRecDepth 20000 in
theorem kX5_takes_65 : Cond.fieldLink RX5 65 "WindPostModel" "place" "I" ∈ wsX5_takes := by decide +kernel
set_option maxRecDepth 20000 in
theorem kX5_takes_71 : Cond.fieldLink RX5 71 "WindPostModel" "value" "I" ∈ wsX5_takes := by decide +kernel
set_option maxRecDepth 20000 in
theorem kX5_takes_74 : Cond.fieldLink RX5 74 "WindPostModel" "fault" "I" ∈ wsX5_takes := by decide +kernel
set_option maxRecDepth 20000 in
theorem uX5_takes_X5 : ∀ w ∈ wsX50, w ∈ wsX5_takes := by decide +kernel
set_option maxHeartbeats 8000000 in
set_option maxRecDepth 100000 in
theorem mX5_takes (l : Launch) (D : va_G) (ki : Nat → ClassId) (ad : Nat → Nat) (cs : List Nat) (hcs : kR cs) (N : Nat) (a1 : Int32) (G : zMem) (tr : Int64) : gMetI l D ki ad cs yX5_takes wsX5_takes { frames := 2, cells := 0, slots := 0, locals := 43 } [.ref (ad 0), .int a1] (mE ki ad) G tr (fX5_takes N a1 G tr) := by
  refine gMetI_of (cc := cX5_takes) (maxL := 3) (ret := (some .int)) (own := RX5) (by decide +kernel) rfl rfl (Nat.le_of_ble_eq_true rfl) ?_
  intro r9 G9 tr9 h p e s m below meth c S hr hlk K X ls hl
  have hl : lv_has ls 3 [(0, .ref (ad 0)), (1, .int a1)] := hl
  unfold fX5_takes at h
  obtain ⟨H, hH⟩ : ∃ H, H = s.heap := ⟨_, rfl⟩
  obtain ⟨locs, hlo⟩ : ∃ locs : List Loc, locs = [] := ⟨_, rfl⟩
  have X : gS D cs ad ((mE ki ad) G tr) (gA cs ad s.heap.size) s H locs := by rw [hH, hlo]; exact X
  suffices z : W p l e (headSpec wsX5_takes { frames := 2, cells := 0, slots := 0, locals := 43 }).room s m ([.ref (ad 0), .int a1] : List Value).toArray below meth c H locs 0 0 (zQI below ([.ref (ad 0), .int a1] : List Value).toArray s D cs ad ((mE ki ad) G9 tr9) r9) (F0 m 0 ls []) by rw [hH, hlo] at z; exact z
  clear hH hlo
  refine lv_aload_n S.1 S.2.1 dX5_takes_0 rfl (lv_at hl 0 rfl) ?_
  obtain ⟨r_2, G_3, tr_4, hf_1, h⟩ := zbd_some h
  refine zr_calli (Eg := (mE ki ad)) K X (va_runV (As := []) (rest := []) S (mX5_isWell l D ki ad cs hcs N G tr H.size _ _ _ hf_1) (cwV 0 S.2.2.2.2 gX5_takes_X5_isWell rfl rfl rfl (by decide +kernel) ⟨Nat.le_of_ble_eq_true rfl, Nat.le_of_ble_eq_true rfl⟩) (zr_preV (c0 := 0) K X (hcs 0 (by decide)) mE_R rfl) rfl rfl hl.1 rfl (lv_room (Nat.le_of_ble_eq_true rfl)) dX5_takes_1 ⟨Nat.zero_le _, Nat.zero_le _⟩) (fun H locs X => ?_)
  refine lv_if_ne (tgt := 9) S.1 S.2.1 dX5_takes_4 (by decide) (fun hc_5 => ?_) (fun hc_5 => ?_)
  · have h := zif_neg hc_5 h
    refine lv_iload_n S.1 S.2.1 dX5_takes_9 rfl (lv_at hl 1 rfl) ?_
    refine lv_if_ne (tgt := 23) S.1 S.2.1 dX5_takes_10 (by decide) (fun hc_6 => ?_) (fun hc_6 => ?_)
    · have h := zif_neg hc_6 h
      refine lv_aload_n S.1 S.2.1 dX5_takes_23 rfl (lv_at hl 0 rfl) ?_
      refine zr_get (v := .int (G_3 0 7)) S K X (hcs 0 (by decide)) mE_R rfl uX5_takes_X5 7 (by decide) kX5_takes_71 rfl rfl dX5_takes_24 ?_
      refine lv_istore_n (lv' := [(2, .int (G_3 0 7)), (0, .ref (ad 0)), (1, .int a1)]) S.1 S.2.1 dX5_takes_27 rfl hl (by decide) rfl (fun ls hl => ?_)
      refine lv_aload_n S.1 S.2.1 dX5_takes_28 rfl (lv_at hl 1 rfl) ?_
      obtain ⟨r_8, G_9, tr_10, hf_7, h⟩ := zbd_some h
      refine zr_callv (Eg := (mE ki ad)) K X (va_runV (As := []) (rest := []) S (mX5_advances l D ki ad cs hcs N G_3 tr_4 H.size _ _ _ hf_7) (cwV 0 S.2.2.2.2 gX5_takes_X5_advances rfl rfl rfl (by decide +kernel) ⟨Nat.le_of_ble_eq_true rfl, Nat.le_of_ble_eq_true rfl⟩) (zr_preV (c0 := 0) K X (hcs 0 (by decide)) mE_R rfl) rfl rfl hl.1 rfl (lv_room (Nat.le_of_ble_eq_true rfl)) dX5_takes_29 ⟨Nat.zero_le _, Nat.zero_le _⟩) (fun H locs X => ?_)
      refine lv_iload_n S.1 S.2.1 dX5_takes_32 rfl (lv_at hl 0 rfl) ?_
      exact zr_iret S hr hlk X h dX5_takes_33
    · have h := zif_pos hc_6 h
      refine lv_aload_n S.1 S.2.1 dX5_takes_13 rfl (lv_at hl 0 rfl) ?_
      refine lv_aload_n S.1 S.2.1 dX5_takes_14 rfl (lv_at hl 0 rfl) ?_
      refine zr_get (v := .int (G_3 0 6)) S K X (hcs 0 (by decide)) mE_R rfl uX5_takes_X5 6 (by decide) kX5_takes_65 rfl rfl dX5_takes_15 ?_
      refine zr_put (xv := (G_3 0 6)) (v := .int (G_3 0 6)) (fsf := (fsR ad tr_4)) (ty := .int) S K X (hcs 0 (by decide)) mE_loc (fun _ => mE_R) rfl uX5_takes_X5 tyX5 tyX5_ok nmX5 8 (by decide) kX5_takes_74 rfl (by decide +kernel) rfl rfl (by simp) rfl dX5_takes_18 (fun H locs X => ?_)
      refine lv_iconst (v := (0 : Int32)) S.1 S.2.1 dX5_takes_21 (by decide) ?_
      exact zr_iret S hr hlk X h dX5_takes_22
  · have h := zif_pos hc_5 h
    refine lv_iconst (v := (0 : Int32)) S.1 S.2.1 dX5_takes_7 (by decide) ?_
    exact zr_iret S hr hlk X h dX5_takes_8
set_option maxRecDepth 20000 in
theorem ggX5_number_X5_in : GoodIn wsX5_number wsX5_in := goodIn_r _ [6] (by decide +kernel) (by decide +kernel)
set_option maxRecDepth 20000 in
theorem gX5_number_X5_in : GoodIn wsX5_number (va_wsS RX5 51 yX5_in wsX5_in) := goodIn_app (goodIn_of _ (by decide +kernel)) ggX5_number_X5_in
set_option maxRecDepth 20000 in
theorem ggX5_number_X5_takes : GoodIn wsX5_number wsX5_takes := goodIn_r _ [10, 11, 12, 2, 13, 14, 15, 5, 16, 17, 18, 19, 20, 21, 1, 22, 23, 24, 25, 26, 27, 3, 4, 6, 28, 29, 30, 31, 32, 33, 34, 35, 36, 37, 38, 39, 40, 41, 42, 43, 44, 45, 46, 47, 48, 49] (by decide +kernel) (by decide +kernel)
set_option maxRecDepth 20000 in
theorem gX5_number_X5_takes : GoodIn wsX5_number (wsV RX5 84 RX5 yX5_takes wsX5_takes) := goodIn_app (goodIn_of _ (by decide +kernel)) ggX5_number_X5_takes
theorem dX5_number_0 : decode cX5_number 0 = .ok (.aload_n 0, 1) := by decide +kernel
theorem dX5_number_1 : decode cX5_number 1 = .ok (.aload_n 0, 1) := by decide +kernel
theorem dX5_number_2 : decode cX5_number 2 = .ok (.getfield 68, 3) := by decide +kernel
theorem dX5_number_5 : decode cX5_number 5 = .ok (.iconst 2, 1) := by decide +kernel
theorem dX5_number_6 : decode cX5_number 6 = .ok (.if_icmp .ne 19, 3) := by decide +kernel
theorem dX5_number_9 : decode cX5_number 9 = .ok (.aload_n 0, 1) := by decide +kernel
theorem dX5_number_10 : decode cX5_number 10 = .ok (.getfield 71, 3) := by decide +kernel
theorem dX5_number_13 : decode cX5_number 13 = .ok (.iload_n 1, 1) := by decide +kernel
theorem dX5_number_14 : decode cX5_number 14 = .ok (.iload_n 2, 1) := by decide +kernel
theorem dX5_number_15 : decode cX5_number 15 = .ok (.invokestatic 51, 3) := by decide +kernel
theorem dX5_number_18 : decode cX5_number 18 = .ok (.ifCond .eq 7, 3) := by decide +kernel
theorem dX5_number_21 : decode cX5_number 21 = .ok (.iconst 1, 1) := by decide +kernel
theorem dX5_number_22 : decode cX5_number 22 = .ok (.goto 4, 3) := by decide +kernel
theorem dX5_number_25 : decode cX5_number 25 = .ok (.iconst 0, 1) := by decide +kernel
theorem dX5_number_26 : decode cX5_number 26 = .ok (.invokevirtual 84, 3) := by decide +kernel
theorem dX5_number_29 : decode cX5_number 29 = .ok (.ireturn, 1) := by decide +kernel
set_option maxRecDepth 20000 in
theorem kX5_number_68 : Cond.fieldLink RX5 68 "WindPostModel" "token" "I" ∈ wsX5_number := by decide +kernel
set_option maxRecDepth 20000 in
theorem kX5_number_71 : Cond.fieldLink RX5 71 "WindPostModel" "value" "I" ∈ wsX5_number := by decide +kernel
set_option maxRecDepth 20000 in
theorem uX5_number_X5 : ∀ w ∈ wsX50, w ∈ wsX5_number := by decide +kernel
set_option maxHeartbeats 8000000 in
set_option maxRecDepth 100000 in
theorem mX5_number (l : Launch) (D : va_G) (ki : Nat → ClassId) (ad : Nat → Nat) (cs : List Nat) (hcs : kR cs) (N : Nat) (a1 : Int32) (a2 : Int32) (G : zMem) (tr : Int64) : gMetI l D ki ad cs yX5_number wsX5_number { frames := 3, cells := 0, slots := 0, locals := 65 } [.ref (ad 0), .int a1, .int a2] (mE ki ad) G tr (fX5_number N a1 a2 G tr) := by
  refine gMetI_of (cc := cX5_number) (maxL := 3) (ret := (some .int)) (own := RX5) (by decide +kernel) rfl rfl (Nat.le_of_ble_eq_true rfl) ?_
  intro r9 G9 tr9 h p e s m below meth c S hr hlk K X ls hl
  have hl : lv_has ls 3 [(0, .ref (ad 0)), (1, .int a1), (2, .int a2)] := hl
  have b26 : ∀ (s0 : Int32) (G : zMem) (tr : Int64), fX5_number_b26 N a1 a2 s0 G tr = some (r9, G9, tr9) → zAt p l e (headSpec wsX5_number { frames := 3, cells := 0, slots := 0, locals := 65 }).room s m ([.ref (ad 0), .int a1, .int a2] : List Value).toArray below meth c 3 D cs ad (zQI below ([.ref (ad 0), .int a1, .int a2] : List Value).toArray s D cs ad ((mE ki ad) G9 tr9) r9) 26 [] [.int s0, .ref (ad 0)] ((mE ki ad) G tr) := by
    intro s0 G tr h H locs ls X hl
    unfold fX5_number_b26 at h
    obtain ⟨r_2, G_3, tr_4, hf_1, h⟩ := zbd_some h
    refine zr_calli (Eg := (mE ki ad)) K X (va_runV (As := [.int s0]) (rest := []) S (mX5_takes l D ki ad cs hcs N s0 G tr H.size _ _ _ hf_1) (cwV 1 S.2.2.2.2 gX5_number_X5_takes rfl rfl rfl (by decide +kernel) ⟨Nat.le_of_ble_eq_true rfl, Nat.le_of_ble_eq_true rfl⟩) (zr_preV (c0 := 0) K X (hcs 0 (by decide)) mE_R rfl) rfl rfl hl.1 rfl (lv_room (Nat.le_of_ble_eq_true rfl)) dX5_number_26 ⟨Nat.zero_le _, Nat.zero_le _⟩) (fun H locs X => ?_)
    exact zr_iret S hr hlk X h dX5_number_29
  have b25 : ∀ (G : zMem) (tr : Int64), fX5_number_b25 N a1 a2 G tr = some (r9, G9, tr9) → zAt p l e (headSpec wsX5_number { frames := 3, cells := 0, slots := 0, locals := 65 }).room s m ([.ref (ad 0), .int a1, .int a2] : List Value).toArray below meth c 3 D cs ad (zQI below ([.ref (ad 0), .int a1, .int a2] : List Value).toArray s D cs ad ((mE ki ad) G9 tr9) r9) 25 [] [.ref (ad 0)] ((mE ki ad) G tr) := by
    intro G tr h H locs ls X hl
    unfold fX5_number_b25 at h
    refine lv_iconst (v := (0 : Int32)) S.1 S.2.1 dX5_number_25 (by decide) ?_
    exact b26 (0 : Int32) G tr h _ _ _ X (lv_sub hl [] rfl)
  unfold fX5_number at h
  obtain ⟨H, hH⟩ : ∃ H, H = s.heap := ⟨_, rfl⟩
  obtain ⟨locs, hlo⟩ : ∃ locs : List Loc, locs = [] := ⟨_, rfl⟩
  have X : gS D cs ad ((mE ki ad) G tr) (gA cs ad s.heap.size) s H locs := by rw [hH, hlo]; exact X
  suffices z : W p l e (headSpec wsX5_number { frames := 3, cells := 0, slots := 0, locals := 65 }).room s m ([.ref (ad 0), .int a1, .int a2] : List Value).toArray below meth c H locs 0 0 (zQI below ([.ref (ad 0), .int a1, .int a2] : List Value).toArray s D cs ad ((mE ki ad) G9 tr9) r9) (F0 m 0 ls []) by rw [hH, hlo] at z; exact z
  clear hH hlo
  refine lv_aload_n S.1 S.2.1 dX5_number_0 rfl (lv_at hl 0 rfl) ?_
  refine lv_aload_n S.1 S.2.1 dX5_number_1 rfl (lv_at hl 0 rfl) ?_
  refine zr_get (v := .int (G 0 5)) S K X (hcs 0 (by decide)) mE_R rfl uX5_number_X5 5 (by decide) kX5_number_68 rfl rfl dX5_number_2 ?_
  refine lv_iconst (v := (2 : Int32)) S.1 S.2.1 dX5_number_5 (by decide) ?_
  refine lv_icmp_ne (tgt := 25) S.1 S.2.1 dX5_number_6 (by decide) (fun hc_1 => ?_) (fun hc_1 => ?_)
  · have h := zif_neg hc_1 h
    exact b25 G tr h _ _ _ X (lv_sub hl [] rfl)
  · have h := zif_pos hc_1 h
    refine lv_aload_n S.1 S.2.1 dX5_number_9 rfl (lv_at hl 0 rfl) ?_
    refine zr_get (v := .int (G 0 7)) S K X (hcs 0 (by decide)) mE_R rfl uX5_number_X5 7 (by decide) kX5_number_71 rfl rfl dX5_number_10 ?_
    refine lv_iload_n S.1 S.2.1 dX5_number_13 rfl (lv_at hl 1 rfl) ?_
    refine lv_iload_n S.1 S.2.1 dX5_number_14 rfl (lv_at hl 2 rfl) ?_
    obtain ⟨r_3, hf_2, h⟩ := zbp_some h
    refine zr_calli (Eg := (mE ki ad)) (G' := G) (tr' := tr) K X (va_runS (As := [.int (G 0 7), .int a1, .int a2]) (rest := [.ref (ad 0)]) S (mX5_in l D ki ad cs N (G 0 7) a1 a2 (mE ki ad) G tr H.size _ _ _ (zpu_of hf_2)) (va_cwS 3 S.2.2.2.2 gX5_number_X5_in rfl rfl rfl (by decide +kernel) ⟨Nat.le_of_ble_eq_true rfl, Nat.le_of_ble_eq_true rfl⟩) (zr_pre K X) rfl rfl hl.1 rfl (lv_room (Nat.le_of_ble_eq_true rfl)) dX5_number_15 ⟨Nat.zero_le _, Nat.zero_le _⟩) (fun H locs X => ?_)
    refine lv_if_eq (tgt := 25) S.1 S.2.1 dX5_number_18 (by decide) (fun hc_4 => ?_) (fun hc_4 => ?_)
    · have h := zif_pos hc_4 h
      exact b25 G tr h _ _ _ X (lv_sub hl [] rfl)
    · have h := zif_neg hc_4 h
      refine lv_iconst (v := (1 : Int32)) S.1 S.2.1 dX5_number_21 (by decide) ?_
      refine lv_goto (tgt := 26) S.1 S.2.1 dX5_number_22 (by decide) ?_
      exact b26 (1 : Int32) G tr h _ _ _ X (lv_sub hl [] rfl)
set_option maxRecDepth 20000 in
theorem ggX5_isFree_X5_in : GoodIn wsX5_isFree wsX5_in := goodIn_r _ [7] (by decide +kernel) (by decide +kernel)
set_option maxRecDepth 20000 in
theorem gX5_isFree_X5_in : GoodIn wsX5_isFree (va_wsS RX5 51 yX5_in wsX5_in) := goodIn_app (goodIn_of _ (by decide +kernel)) ggX5_isFree_X5_in
theorem dX5_isFree_0 : decode cX5_isFree 0 = .ok (.iload_n 1, 1) := by decide +kernel
theorem dX5_isFree_1 : decode cX5_isFree 1 = .ok (.iconst 0, 1) := by decide +kernel
theorem dX5_isFree_2 : decode cX5_isFree 2 = .ok (.aload_n 0, 1) := by decide +kernel
theorem dX5_isFree_3 : decode cX5_isFree 3 = .ok (.getfield 13, 3) := by decide +kernel
theorem dX5_isFree_6 : decode cX5_isFree 6 = .ok (.bipush 6, 2) := by decide +kernel
theorem dX5_isFree_8 : decode cX5_isFree 8 = .ok (.iaload, 1) := by decide +kernel
theorem dX5_isFree_9 : decode cX5_isFree 9 = .ok (.aload_n 0, 1) := by decide +kernel
theorem dX5_isFree_10 : decode cX5_isFree 10 = .ok (.getfield 13, 3) := by decide +kernel
theorem dX5_isFree_13 : decode cX5_isFree 13 = .ok (.bipush 7, 2) := by decide +kernel
theorem dX5_isFree_15 : decode cX5_isFree 15 = .ok (.iaload, 1) := by decide +kernel
theorem dX5_isFree_16 : decode cX5_isFree 16 = .ok (.imul, 1) := by decide +kernel
theorem dX5_isFree_17 : decode cX5_isFree 17 = .ok (.iconst 1, 1) := by decide +kernel
theorem dX5_isFree_18 : decode cX5_isFree 18 = .ok (.isub, 1) := by decide +kernel
theorem dX5_isFree_19 : decode cX5_isFree 19 = .ok (.invokestatic 51, 3) := by decide +kernel
theorem dX5_isFree_22 : decode cX5_isFree 22 = .ok (.istore_n 2, 1) := by decide +kernel
theorem dX5_isFree_23 : decode cX5_isFree 23 = .ok (.iconst 0, 1) := by decide +kernel
theorem dX5_isFree_24 : decode cX5_isFree 24 = .ok (.istore_n 3, 1) := by decide +kernel
theorem dX5_isFree_25 : decode cX5_isFree 25 = .ok (.iload_n 3, 1) := by decide +kernel
theorem dX5_isFree_26 : decode cX5_isFree 26 = .ok (.aload_n 0, 1) := by decide +kernel
theorem dX5_isFree_27 : decode cX5_isFree 27 = .ok (.getfield 13, 3) := by decide +kernel
theorem dX5_isFree_30 : decode cX5_isFree 30 = .ok (.bipush 8, 2) := by decide +kernel
theorem dX5_isFree_32 : decode cX5_isFree 32 = .ok (.iaload, 1) := by decide +kernel
theorem dX5_isFree_33 : decode cX5_isFree 33 = .ok (.if_icmp .ge 32, 3) := by decide +kernel
theorem dX5_isFree_36 : decode cX5_isFree 36 = .ok (.iload_n 2, 1) := by decide +kernel
theorem dX5_isFree_37 : decode cX5_isFree 37 = .ok (.ifCond .eq 20, 3) := by decide +kernel
theorem dX5_isFree_40 : decode cX5_isFree 40 = .ok (.aload_n 0, 1) := by decide +kernel
theorem dX5_isFree_41 : decode cX5_isFree 41 = .ok (.getfield 16, 3) := by decide +kernel
theorem dX5_isFree_44 : decode cX5_isFree 44 = .ok (.bipush 6, 2) := by decide +kernel
theorem dX5_isFree_46 : decode cX5_isFree 46 = .ok (.iload_n 3, 1) := by decide +kernel
theorem dX5_isFree_47 : decode cX5_isFree 47 = .ok (.iadd, 1) := by decide +kernel
theorem dX5_isFree_48 : decode cX5_isFree 48 = .ok (.iaload, 1) := by decide +kernel
theorem dX5_isFree_49 : decode cX5_isFree 49 = .ok (.iload_n 1, 1) := by decide +kernel
theorem dX5_isFree_50 : decode cX5_isFree 50 = .ok (.if_icmp .eq 7, 3) := by decide +kernel
theorem dX5_isFree_53 : decode cX5_isFree 53 = .ok (.iconst 1, 1) := by decide +kernel
theorem dX5_isFree_54 : decode cX5_isFree 54 = .ok (.goto 4, 3) := by decide +kernel
theorem dX5_isFree_57 : decode cX5_isFree 57 = .ok (.iconst 0, 1) := by decide +kernel
theorem dX5_isFree_58 : decode cX5_isFree 58 = .ok (.istore_n 2, 1) := by decide +kernel
theorem dX5_isFree_59 : decode cX5_isFree 59 = .ok (.iinc 3 1, 3) := by decide +kernel
theorem dX5_isFree_62 : decode cX5_isFree 62 = .ok (.goto (-37), 3) := by decide +kernel
theorem dX5_isFree_65 : decode cX5_isFree 65 = .ok (.iconst 0, 1) := by decide +kernel
theorem dX5_isFree_66 : decode cX5_isFree 66 = .ok (.istore_n 3, 1) := by decide +kernel
theorem dX5_isFree_67 : decode cX5_isFree 67 = .ok (.iload_n 3, 1) := by decide +kernel
theorem dX5_isFree_68 : decode cX5_isFree 68 = .ok (.aload_n 0, 1) := by decide +kernel
theorem dX5_isFree_69 : decode cX5_isFree 69 = .ok (.getfield 13, 3) := by decide +kernel
theorem dX5_isFree_72 : decode cX5_isFree 72 = .ok (.bipush 9, 2) := by decide +kernel
theorem dX5_isFree_74 : decode cX5_isFree 74 = .ok (.iaload, 1) := by decide +kernel
theorem dX5_isFree_75 : decode cX5_isFree 75 = .ok (.if_icmp .ge 32, 3) := by decide +kernel
theorem dX5_isFree_78 : decode cX5_isFree 78 = .ok (.iload_n 2, 1) := by decide +kernel
theorem dX5_isFree_79 : decode cX5_isFree 79 = .ok (.ifCond .eq 20, 3) := by decide +kernel
theorem dX5_isFree_82 : decode cX5_isFree 82 = .ok (.aload_n 0, 1) := by decide +kernel
theorem dX5_isFree_83 : decode cX5_isFree 83 = .ok (.getfield 19, 3) := by decide +kernel
theorem dX5_isFree_86 : decode cX5_isFree 86 = .ok (.bipush 6, 2) := by decide +kernel
theorem dX5_isFree_88 : decode cX5_isFree 88 = .ok (.iload_n 3, 1) := by decide +kernel
theorem dX5_isFree_89 : decode cX5_isFree 89 = .ok (.iadd, 1) := by decide +kernel
theorem dX5_isFree_90 : decode cX5_isFree 90 = .ok (.iaload, 1) := by decide +kernel
theorem dX5_isFree_91 : decode cX5_isFree 91 = .ok (.iload_n 1, 1) := by decide +kernel
theorem dX5_isFree_92 : decode cX5_isFree 92 = .ok (.if_icmp .eq 7, 3) := by decide +kernel
theorem dX5_isFree_95 : decode cX5_isFree 95 = .ok (.iconst 1, 1) := by decide +kernel
theorem dX5_isFree_96 : decode cX5_isFree 96 = .ok (.goto 4, 3) := by decide +kernel
theorem dX5_isFree_99 : decode cX5_isFree 99 = .ok (.iconst 0, 1) := by decide +kernel
theorem dX5_isFree_100 : decode cX5_isFree 100 = .ok (.istore_n 2, 1) := by decide +kernel
theorem dX5_isFree_101 : decode cX5_isFree 101 = .ok (.iinc 3 1, 3) := by decide +kernel
theorem dX5_isFree_104 : decode cX5_isFree 104 = .ok (.goto (-37), 3) := by decide +kernel
theorem dX5_isFree_107 : decode cX5_isFree 107 = .ok (.iload_n 2, 1) := by decide +kernel
theorem dX5_isFree_108 : decode cX5_isFree 108 = .ok (.ireturn, 1) := by decide +kernel
set_option maxRecDepth 20000 in
theorem kX5_isFree_13 : Cond.fieldLink RX5 13 "WindPostModel" "many" "[I" ∈ wsX5_isFree := by decide +kernel
set_option maxRecDepth 20000 in
theorem kX5_isFree_16 : Cond.fieldLink RX5 16 "WindPostModel" "isles" "[I" ∈ wsX5_isFree := by decide +kernel
set_option maxRecDepth 20000 in
theorem kX5_isFree_19 : Cond.fieldLink RX5 19 "WindPostModel" "hills" "[I" ∈ wsX5_isFree := by decide +kernel
set_option maxRecDepth 20000 in
theorem uX5_isFree_X5 : ∀ w ∈ wsX50, w ∈ wsX5_isFree := by decide +kernel
set_option maxHeartbeats 8000000 in
set_option maxRecDepth 100000 in
theorem mX5_isFree (l : Launch) (D : va_G) (ki : Nat → ClassId) (ad : Nat → Nat) (cs : List Nat) (hcs : kR cs) (N : Nat) (a1 : Int32) (G : zMem) (tr : Int64) : gMetI l D ki ad cs yX5_isFree wsX5_isFree { frames := 1, cells := 0, slots := 0, locals := 22 } [.ref (ad 0), .int a1] (mE ki ad) G tr (fX5_isFree N a1 G tr) := by
  refine gMetI_of (cc := cX5_isFree) (maxL := 4) (ret := (some .boolean)) (own := RX5) (by decide +kernel) rfl rfl (Nat.le_of_ble_eq_true rfl) ?_
  intro r9 G9 tr9 h p e s m below meth c S hr hlk K X ls hl
  have hl : lv_has ls 4 [(0, .ref (ad 0)), (1, .int a1)] := hl
  have b58 : ∀ (k25 : Int32 → Int32 → zMem → Int64 → zR) (hk25 : ∀ (x2 : Int32) (x3 : Int32) (G : zMem) (tr : Int64), k25 x2 x3 G tr = some (r9, G9, tr9) → zAt p l e (headSpec wsX5_isFree { frames := 1, cells := 0, slots := 0, locals := 22 }).room s m ([.ref (ad 0), .int a1] : List Value).toArray below meth c 4 D cs ad (zQI below ([.ref (ad 0), .int a1] : List Value).toArray s D cs ad ((mE ki ad) G9 tr9) r9) 25 [(0, .ref (ad 0)), (1, .int a1), (2, .int x2), (3, .int x3)] [] ((mE ki ad) G tr)) (x3 : Int32) (s0 : Int32) (G : zMem) (tr : Int64), fX5_isFree_b58 N a1 k25 x3 s0 G tr = some (r9, G9, tr9) → zAt p l e (headSpec wsX5_isFree { frames := 1, cells := 0, slots := 0, locals := 22 }).room s m ([.ref (ad 0), .int a1] : List Value).toArray below meth c 4 D cs ad (zQI below ([.ref (ad 0), .int a1] : List Value).toArray s D cs ad ((mE ki ad) G9 tr9) r9) 58 [(0, .ref (ad 0)), (1, .int a1), (3, .int x3)] [.int s0] ((mE ki ad) G tr) := by
    intro k25 hk25 x3 s0 G tr h H locs ls X hl
    unfold fX5_isFree_b58 at h
    refine lv_istore_n (lv' := [(2, .int s0), (0, .ref (ad 0)), (1, .int a1), (3, .int x3)]) S.1 S.2.1 dX5_isFree_58 rfl hl (by decide) rfl (fun ls hl => ?_)
    refine lv_iinc (v := (x3 + 1)) (lv' := [(3, .int (x3 + 1)), (2, .int s0), (0, .ref (ad 0)), (1, .int a1)]) S.1 S.2.1 dX5_isFree_59 hl (k := 3) rfl rfl (by decide) rfl (fun ls hl => ?_)
    refine lv_goto (tgt := 25) S.1 S.2.1 dX5_isFree_62 (by decide) ?_
    exact hk25 s0 (x3 + 1) G tr h _ _ _ X (lv_sub hl [2, 3, 1, 0] rfl)
  have b57 : ∀ (k25 : Int32 → Int32 → zMem → Int64 → zR) (hk25 : ∀ (x2 : Int32) (x3 : Int32) (G : zMem) (tr : Int64), k25 x2 x3 G tr = some (r9, G9, tr9) → zAt p l e (headSpec wsX5_isFree { frames := 1, cells := 0, slots := 0, locals := 22 }).room s m ([.ref (ad 0), .int a1] : List Value).toArray below meth c 4 D cs ad (zQI below ([.ref (ad 0), .int a1] : List Value).toArray s D cs ad ((mE ki ad) G9 tr9) r9) 25 [(0, .ref (ad 0)), (1, .int a1), (2, .int x2), (3, .int x3)] [] ((mE ki ad) G tr)) (x3 : Int32) (G : zMem) (tr : Int64), fX5_isFree_b57 N a1 k25 x3 G tr = some (r9, G9, tr9) → zAt p l e (headSpec wsX5_isFree { frames := 1, cells := 0, slots := 0, locals := 22 }).room s m ([.ref (ad 0), .int a1] : List Value).toArray below meth c 4 D cs ad (zQI below ([.ref (ad 0), .int a1] : List Value).toArray s D cs ad ((mE ki ad) G9 tr9) r9) 57 [(0, .ref (ad 0)), (1, .int a1), (3, .int x3)] [] ((mE ki ad) G tr) := by
    intro k25 hk25 x3 G tr h H locs ls X hl
    unfold fX5_isFree_b57 at h
    refine lv_iconst (v := (0 : Int32)) S.1 S.2.1 dX5_isFree_57 (by decide) ?_
    exact b58 k25 hk25 x3 (0 : Int32) G tr h _ _ _ X (lv_sub hl [0, 1, 2] rfl)
  have b100 : ∀ (k67 : Int32 → Int32 → zMem → Int64 → zR) (hk67 : ∀ (x2 : Int32) (x3 : Int32) (G : zMem) (tr : Int64), k67 x2 x3 G tr = some (r9, G9, tr9) → zAt p l e (headSpec wsX5_isFree { frames := 1, cells := 0, slots := 0, locals := 22 }).room s m ([.ref (ad 0), .int a1] : List Value).toArray below meth c 4 D cs ad (zQI below ([.ref (ad 0), .int a1] : List Value).toArray s D cs ad ((mE ki ad) G9 tr9) r9) 67 [(0, .ref (ad 0)), (1, .int a1), (2, .int x2), (3, .int x3)] [] ((mE ki ad) G tr)) (x3 : Int32) (s0 : Int32) (G : zMem) (tr : Int64), fX5_isFree_b100 N a1 k67 x3 s0 G tr = some (r9, G9, tr9) → zAt p l e (headSpec wsX5_isFree { frames := 1, cells := 0, slots := 0, locals := 22 }).room s m ([.ref (ad 0), .int a1] : List Value).toArray below meth c 4 D cs ad (zQI below ([.ref (ad 0), .int a1] : List Value).toArray s D cs ad ((mE ki ad) G9 tr9) r9) 100 [(0, .ref (ad 0)), (1, .int a1), (3, .int x3)] [.int s0] ((mE ki ad) G tr) := by
    intro k67 hk67 x3 s0 G tr h H locs ls X hl
    unfold fX5_isFree_b100 at h
    refine lv_istore_n (lv' := [(2, .int s0), (0, .ref (ad 0)), (1, .int a1), (3, .int x3)]) S.1 S.2.1 dX5_isFree_100 rfl hl (by decide) rfl (fun ls hl => ?_)
    refine lv_iinc (v := (x3 + 1)) (lv' := [(3, .int (x3 + 1)), (2, .int s0), (0, .ref (ad 0)), (1, .int a1)]) S.1 S.2.1 dX5_isFree_101 hl (k := 3) rfl rfl (by decide) rfl (fun ls hl => ?_)
    refine lv_goto (tgt := 67) S.1 S.2.1 dX5_isFree_104 (by decide) ?_
    exact hk67 s0 (x3 + 1) G tr h _ _ _ X (lv_sub hl [2, 3, 1, 0] rfl)
  have b99 : ∀ (k67 : Int32 → Int32 → zMem → Int64 → zR) (hk67 : ∀ (x2 : Int32) (x3 : Int32) (G : zMem) (tr : Int64), k67 x2 x3 G tr = some (r9, G9, tr9) → zAt p l e (headSpec wsX5_isFree { frames := 1, cells := 0, slots := 0, locals := 22 }).room s m ([.ref (ad 0), .int a1] : List Value).toArray below meth c 4 D cs ad (zQI below ([.ref (ad 0), .int a1] : List Value).toArray s D cs ad ((mE ki ad) G9 tr9) r9) 67 [(0, .ref (ad 0)), (1, .int a1), (2, .int x2), (3, .int x3)] [] ((mE ki ad) G tr)) (x3 : Int32) (G : zMem) (tr : Int64), fX5_isFree_b99 N a1 k67 x3 G tr = some (r9, G9, tr9) → zAt p l e (headSpec wsX5_isFree { frames := 1, cells := 0, slots := 0, locals := 22 }).room s m ([.ref (ad 0), .int a1] : List Value).toArray below meth c 4 D cs ad (zQI below ([.ref (ad 0), .int a1] : List Value).toArray s D cs ad ((mE ki ad) G9 tr9) r9) 99 [(0, .ref (ad 0)), (1, .int a1), (3, .int x3)] [] ((mE ki ad) G tr) := by
    intro k67 hk67 x3 G tr h H locs ls X hl
    unfold fX5_isFree_b99 at h
    refine lv_iconst (v := (0 : Int32)) S.1 S.2.1 dX5_isFree_99 (by decide) ?_
    exact b100 k67 hk67 x3 (0 : Int32) G tr h _ _ _ X (lv_sub hl [0, 1, 2] rfl)
  have b67 : ∀ (k67 : Int32 → Int32 → zMem → Int64 → zR) (hk67 : ∀ (x2 : Int32) (x3 : Int32) (G : zMem) (tr : Int64), k67 x2 x3 G tr = some (r9, G9, tr9) → zAt p l e (headSpec wsX5_isFree { frames := 1, cells := 0, slots := 0, locals := 22 }).room s m ([.ref (ad 0), .int a1] : List Value).toArray below meth c 4 D cs ad (zQI below ([.ref (ad 0), .int a1] : List Value).toArray s D cs ad ((mE ki ad) G9 tr9) r9) 67 [(0, .ref (ad 0)), (1, .int a1), (2, .int x2), (3, .int x3)] [] ((mE ki ad) G tr)) (x2 : Int32) (x3 : Int32) (G : zMem) (tr : Int64), fX5_isFree_b67 N a1 k67 x2 x3 G tr = some (r9, G9, tr9) → zAt p l e (headSpec wsX5_isFree { frames := 1, cells := 0, slots := 0, locals := 22 }).room s m ([.ref (ad 0), .int a1] : List Value).toArray below meth c 4 D cs ad (zQI below ([.ref (ad 0), .int a1] : List Value).toArray s D cs ad ((mE ki ad) G9 tr9) r9) 67 [(0, .ref (ad 0)), (1, .int a1), (2, .int x2), (3, .int x3)] [] ((mE ki ad) G tr) := by
    intro k67 hk67 x2 x3 G tr h H locs ls X hl
    unfold fX5_isFree_b67 at h
    refine lv_iload_n S.1 S.2.1 dX5_isFree_67 rfl (lv_at hl 3 rfl) ?_
    refine lv_aload_n S.1 S.2.1 dX5_isFree_68 rfl (lv_at hl 0 rfl) ?_
    refine zr_get (v := .ref (ad 2)) S K X (hcs 0 (by decide)) mE_R rfl uX5_isFree_X5 9 (by decide) kX5_isFree_13 rfl rfl dX5_isFree_69 ?_
    refine lv_bipush (v := (9 : Int32)) S.1 S.2.1 dX5_isFree_72 (by decide) ?_
    obtain ⟨hi_1, h⟩ := zin_some h
    refine zr_iald S K X (hcs 2 (by decide)) mE_2 hi_1 dX5_isFree_74 ?_
    refine lv_icmp_ge (tgt := 107) S.1 S.2.1 dX5_isFree_75 (by decide) (fun hc_2 => ?_) (fun hc_2 => ?_)
    · have h := zif_pos hc_2 h
      refine lv_iload_n S.1 S.2.1 dX5_isFree_107 rfl (lv_at hl 2 rfl) ?_
      exact zr_zret S hr hlk X h dX5_isFree_108
    · have h := zif_neg hc_2 h
      refine lv_iload_n S.1 S.2.1 dX5_isFree_78 rfl (lv_at hl 2 rfl) ?_
      refine lv_if_eq (tgt := 99) S.1 S.2.1 dX5_isFree_79 (by decide) (fun hc_3 => ?_) (fun hc_3 => ?_)
      · have h := zif_pos hc_3 h
        exact b99 k67 hk67 x3 G tr h _ _ _ X (lv_sub hl [0, 1, 3] rfl)
      · have h := zif_neg hc_3 h
        refine lv_aload_n S.1 S.2.1 dX5_isFree_82 rfl (lv_at hl 0 rfl) ?_
        refine zr_get (v := .ref (ad 4)) S K X (hcs 0 (by decide)) mE_R rfl uX5_isFree_X5 11 (by decide) kX5_isFree_19 rfl rfl dX5_isFree_83 ?_
        refine lv_bipush (v := (6 : Int32)) S.1 S.2.1 dX5_isFree_86 (by decide) ?_
        refine lv_iload_n S.1 S.2.1 dX5_isFree_88 rfl (lv_at hl 3 rfl) ?_
        refine lv_iadd S.1 S.2.1 dX5_isFree_89 ?_
        obtain ⟨hi_4, h⟩ := zin_some h
        refine zr_iald S K X (hcs 4 (by decide)) mE_4 hi_4 dX5_isFree_90 ?_
        refine lv_iload_n S.1 S.2.1 dX5_isFree_91 rfl (lv_at hl 1 rfl) ?_
        refine lv_icmp_eq (tgt := 99) S.1 S.2.1 dX5_isFree_92 (by decide) (fun hc_5 => ?_) (fun hc_5 => ?_)
        · have h := zif_pos hc_5 h
          exact b99 k67 hk67 x3 G tr h _ _ _ X (lv_sub hl [0, 1, 3] rfl)
        · have h := zif_neg hc_5 h
          refine lv_iconst (v := (1 : Int32)) S.1 S.2.1 dX5_isFree_95 (by decide) ?_
          refine lv_goto (tgt := 100) S.1 S.2.1 dX5_isFree_96 (by decide) ?_
          exact b100 k67 hk67 x3 (1 : Int32) G tr h _ _ _ X (lv_sub hl [0, 1, 3] rfl)
  have L67 : ∀ (n : Nat) (x2 : Int32) (x3 : Int32) (G : zMem) (tr : Int64), fX5_isFree_L67 N a1 n x2 x3 G tr = some (r9, G9, tr9) → zAt p l e (headSpec wsX5_isFree { frames := 1, cells := 0, slots := 0, locals := 22 }).room s m ([.ref (ad 0), .int a1] : List Value).toArray below meth c 4 D cs ad (zQI below ([.ref (ad 0), .int a1] : List Value).toArray s D cs ad ((mE ki ad) G9 tr9) r9) 67 [(0, .ref (ad 0)), (1, .int a1), (2, .int x2), (3, .int x3)] [] ((mE ki ad) G tr) := by
    intro n
    induction n with
    | zero => intro x2 x3 G tr h; cases h
    | succ n ih => intro x2 x3 G tr h; exact b67 (fX5_isFree_L67 N a1 n) ih x2 x3 G tr h
  have b25 : ∀ (k25 : Int32 → Int32 → zMem → Int64 → zR) (hk25 : ∀ (x2 : Int32) (x3 : Int32) (G : zMem) (tr : Int64), k25 x2 x3 G tr = some (r9, G9, tr9) → zAt p l e (headSpec wsX5_isFree { frames := 1, cells := 0, slots := 0, locals := 22 }).room s m ([.ref (ad 0), .int a1] : List Value).toArray below meth c 4 D cs ad (zQI below ([.ref (ad 0), .int a1] : List Value).toArray s D cs ad ((mE ki ad) G9 tr9) r9) 25 [(0, .ref (ad 0)), (1, .int a1), (2, .int x2), (3, .int x3)] [] ((mE ki ad) G tr)) (x2 : Int32) (x3 : Int32) (G : zMem) (tr : Int64), fX5_isFree_b25 N a1 k25 x2 x3 G tr = some (r9, G9, tr9) → zAt p l e (headSpec wsX5_isFree { frames := 1, cells := 0, slots := 0, locals := 22 }).room s m ([.ref (ad 0), .int a1] : List Value).toArray below meth c 4 D cs ad (zQI below ([.ref (ad 0), .int a1] : List Value).toArray s D cs ad ((mE ki ad) G9 tr9) r9) 25 [(0, .ref (ad 0)), (1, .int a1), (2, .int x2), (3, .int x3)] [] ((mE ki ad) G tr) := by
    intro k25 hk25 x2 x3 G tr h H locs ls X hl
    unfold fX5_isFree_b25 at h
    refine lv_iload_n S.1 S.2.1 dX5_isFree_25 rfl (lv_at hl 3 rfl) ?_
    refine lv_aload_n S.1 S.2.1 dX5_isFree_26 rfl (lv_at hl 0 rfl) ?_
    refine zr_get (v := .ref (ad 2)) S K X (hcs 0 (by decide)) mE_R rfl uX5_isFree_X5 9 (by decide) kX5_isFree_13 rfl rfl dX5_isFree_27 ?_
    refine lv_bipush (v := (8 : Int32)) S.1 S.2.1 dX5_isFree_30 (by decide) ?_
    obtain ⟨hi_1, h⟩ := zin_some h
    refine zr_iald S K X (hcs 2 (by decide)) mE_2 hi_1 dX5_isFree_32 ?_
    refine lv_icmp_ge (tgt := 65) S.1 S.2.1 dX5_isFree_33 (by decide) (fun hc_2 => ?_) (fun hc_2 => ?_)
    · have h := zif_pos hc_2 h
      refine lv_iconst (v := (0 : Int32)) S.1 S.2.1 dX5_isFree_65 (by decide) ?_
      refine lv_istore_n (lv' := [(3, .int (0 : Int32)), (0, .ref (ad 0)), (1, .int a1), (2, .int x2)]) S.1 S.2.1 dX5_isFree_66 rfl hl (by decide) rfl (fun ls hl => ?_)
      exact L67 N x2 (0 : Int32) G tr h _ _ _ X (lv_sub hl [1, 2, 3, 0] rfl)
    · have h := zif_neg hc_2 h
      refine lv_iload_n S.1 S.2.1 dX5_isFree_36 rfl (lv_at hl 2 rfl) ?_
      refine lv_if_eq (tgt := 57) S.1 S.2.1 dX5_isFree_37 (by decide) (fun hc_3 => ?_) (fun hc_3 => ?_)
      · have h := zif_pos hc_3 h
        exact b57 k25 hk25 x3 G tr h _ _ _ X (lv_sub hl [0, 1, 3] rfl)
      · have h := zif_neg hc_3 h
        refine lv_aload_n S.1 S.2.1 dX5_isFree_40 rfl (lv_at hl 0 rfl) ?_
        refine zr_get (v := .ref (ad 3)) S K X (hcs 0 (by decide)) mE_R rfl uX5_isFree_X5 10 (by decide) kX5_isFree_16 rfl rfl dX5_isFree_41 ?_
        refine lv_bipush (v := (6 : Int32)) S.1 S.2.1 dX5_isFree_44 (by decide) ?_
        refine lv_iload_n S.1 S.2.1 dX5_isFree_46 rfl (lv_at hl 3 rfl) ?_
        refine lv_iadd S.1 S.2.1 dX5_isFree_47 ?_
        obtain ⟨hi_4, h⟩ := zin_some h
        refine zr_iald S K X (hcs 3 (by decide)) mE_3 hi_4 dX5_isFree_48 ?_
        refine lv_iload_n S.1 S.2.1 dX5_isFree_49 rfl (lv_at hl 1 rfl) ?_
        refine lv_icmp_eq (tgt := 57) S.1 S.2.1 dX5_isFree_50 (by decide) (fun hc_5 => ?_) (fun hc_5 => ?_)
        · have h := zif_pos hc_5 h
          exact b57 k25 hk25 x3 G tr h _ _ _ X (lv_sub hl [0, 1, 3] rfl)
        · have h := zif_neg hc_5 h
          refine lv_iconst (v := (1 : Int32)) S.1 S.2.1 dX5_isFree_53 (by decide) ?_
          refine lv_goto (tgt := 58) S.1 S.2.1 dX5_isFree_54 (by decide) ?_
          exact b58 k25 hk25 x3 (1 : Int32) G tr h _ _ _ X (lv_sub hl [0, 1, 3] rfl)
  have L25 : ∀ (n : Nat) (x2 : Int32) (x3 : Int32) (G : zMem) (tr : Int64), fX5_isFree_L25 N a1 n x2 x3 G tr = some (r9, G9, tr9) → zAt p l e (headSpec wsX5_isFree { frames := 1, cells := 0, slots := 0, locals := 22 }).room s m ([.ref (ad 0), .int a1] : List Value).toArray below meth c 4 D cs ad (zQI below ([.ref (ad 0), .int a1] : List Value).toArray s D cs ad ((mE ki ad) G9 tr9) r9) 25 [(0, .ref (ad 0)), (1, .int a1), (2, .int x2), (3, .int x3)] [] ((mE ki ad) G tr) := by
    intro n
    induction n with
    | zero => intro x2 x3 G tr h; cases h
    | succ n ih => intro x2 x3 G tr h; exact b25 (fX5_isFree_L25 N a1 n) ih x2 x3 G tr h
  unfold fX5_isFree at h
  obtain ⟨H, hH⟩ : ∃ H, H = s.heap := ⟨_, rfl⟩
  obtain ⟨locs, hlo⟩ : ∃ locs : List Loc, locs = [] := ⟨_, rfl⟩
  have X : gS D cs ad ((mE ki ad) G tr) (gA cs ad s.heap.size) s H locs := by rw [hH, hlo]; exact X
  suffices z : W p l e (headSpec wsX5_isFree { frames := 1, cells := 0, slots := 0, locals := 22 }).room s m ([.ref (ad 0), .int a1] : List Value).toArray below meth c H locs 0 0 (zQI below ([.ref (ad 0), .int a1] : List Value).toArray s D cs ad ((mE ki ad) G9 tr9) r9) (F0 m 0 ls []) by rw [hH, hlo] at z; exact z
  clear hH hlo
  refine lv_iload_n S.1 S.2.1 dX5_isFree_0 rfl (lv_at hl 1 rfl) ?_
  refine lv_iconst (v := (0 : Int32)) S.1 S.2.1 dX5_isFree_1 (by decide) ?_
  refine lv_aload_n S.1 S.2.1 dX5_isFree_2 rfl (lv_at hl 0 rfl) ?_
  refine zr_get (v := .ref (ad 2)) S K X (hcs 0 (by decide)) mE_R rfl uX5_isFree_X5 9 (by decide) kX5_isFree_13 rfl rfl dX5_isFree_3 ?_
  refine lv_bipush (v := (6 : Int32)) S.1 S.2.1 dX5_isFree_6 (by decide) ?_
  obtain ⟨hi_1, h⟩ := zin_some h
  refine zr_iald S K X (hcs 2 (by decide)) mE_2 hi_1 dX5_isFree_8 ?_
  refine lv_aload_n S.1 S.2.1 dX5_isFree_9 rfl (lv_at hl 0 rfl) ?_
  refine zr_get (v := .ref (ad 2)) S K X (hcs 0 (by decide)) mE_R rfl uX5_isFree_X5 9 (by decide) kX5_isFree_13 rfl rfl dX5_isFree_10 ?_
  refine lv_bipush (v := (7 : Int32)) S.1 S.2.1 dX5_isFree_13 (by decide) ?_
  obtain ⟨hi_2, h⟩ := zin_some h
  refine zr_iald S K X (hcs 2 (by decide)) mE_2 hi_2 dX5_isFree_15 ?_
  refine lv_imul S.1 S.2.1 dX5_isFree_16 ?_
  refine lv_iconst (v := (1 : Int32)) S.1 S.2.1 dX5_isFree_17 (by decide) ?_
  refine lv_isub S.1 S.2.1 dX5_isFree_18 ?_
  obtain ⟨r_4, hf_3, h⟩ := zbp_some h
  refine zr_calli (Eg := (mE ki ad)) (G' := G) (tr' := tr) K X (va_runS (As := [.int a1, .int (0 : Int32), .int (((G 2 (Int32.toNatClampNeg (6 : Int32))) * (G 2 (Int32.toNatClampNeg (7 : Int32)))) - (1 : Int32))]) (rest := []) S (mX5_in l D ki ad cs N a1 (0 : Int32) (((G 2 (Int32.toNatClampNeg (6 : Int32))) * (G 2 (Int32.toNatClampNeg (7 : Int32)))) - (1 : Int32)) (mE ki ad) G tr H.size _ _ _ (zpu_of hf_3)) (va_cwS 3 S.2.2.2.2 gX5_isFree_X5_in rfl rfl rfl (by decide +kernel) ⟨Nat.le_of_ble_eq_true rfl, Nat.le_of_ble_eq_true rfl⟩) (zr_pre K X) rfl rfl hl.1 rfl (lv_room (Nat.le_of_ble_eq_true rfl)) dX5_isFree_19 ⟨Nat.zero_le _, Nat.zero_le _⟩) (fun H locs X => ?_)
  refine lv_istore_n (lv' := [(2, .int r_4), (0, .ref (ad 0)), (1, .int a1)]) S.1 S.2.1 dX5_isFree_22 rfl hl (by decide) rfl (fun ls hl => ?_)
  refine lv_iconst (v := (0 : Int32)) S.1 S.2.1 dX5_isFree_23 (by decide) ?_
  refine lv_istore_n (lv' := [(3, .int (0 : Int32)), (2, .int r_4), (0, .ref (ad 0)), (1, .int a1)]) S.1 S.2.1 dX5_isFree_24 rfl hl (by decide) rfl (fun ls hl => ?_)
  exact L25 N r_4 (0 : Int32) G tr h _ _ _ X (lv_sub hl [2, 3, 1, 0] rfl)
theorem dX5_mayBegin_0 : decode cX5_mayBegin 0 = .ok (.aload_n 0, 1) := by decide +kernel
theorem dX5_mayBegin_1 : decode cX5_mayBegin 1 = .ok (.getfield 71, 3) := by decide +kernel
theorem dX5_mayBegin_4 : decode cX5_mayBegin 4 = .ok (.bipush 103, 2) := by decide +kernel
theorem dX5_mayBegin_6 : decode cX5_mayBegin 6 = .ok (.if_icmp .ne 15, 3) := by decide +kernel
theorem dX5_mayBegin_9 : decode cX5_mayBegin 9 = .ok (.iload_n 1, 1) := by decide +kernel
theorem dX5_mayBegin_10 : decode cX5_mayBegin 10 = .ok (.ifCond .ne 7, 3) := by decide +kernel
theorem dX5_mayBegin_13 : decode cX5_mayBegin 13 = .ok (.iconst 1, 1) := by decide +kernel
theorem dX5_mayBegin_14 : decode cX5_mayBegin 14 = .ok (.goto 86, 3) := by decide +kernel
theorem dX5_mayBegin_17 : decode cX5_mayBegin 17 = .ok (.iconst 0, 1) := by decide +kernel
theorem dX5_mayBegin_18 : decode cX5_mayBegin 18 = .ok (.goto 82, 3) := by decide +kernel
theorem dX5_mayBegin_21 : decode cX5_mayBegin 21 = .ok (.aload_n 0, 1) := by decide +kernel
theorem dX5_mayBegin_22 : decode cX5_mayBegin 22 = .ok (.getfield 71, 3) := by decide +kernel
theorem dX5_mayBegin_25 : decode cX5_mayBegin 25 = .ok (.bipush 105, 2) := by decide +kernel
theorem dX5_mayBegin_27 : decode cX5_mayBegin 27 = .ok (.if_icmp .ne 23, 3) := by decide +kernel
theorem dX5_mayBegin_30 : decode cX5_mayBegin 30 = .ok (.aload_n 0, 1) := by decide +kernel
theorem dX5_mayBegin_31 : decode cX5_mayBegin 31 = .ok (.getfield 13, 3) := by decide +kernel
theorem dX5_mayBegin_34 : decode cX5_mayBegin 34 = .ok (.bipush 8, 2) := by decide +kernel
theorem dX5_mayBegin_36 : decode cX5_mayBegin 36 = .ok (.iaload, 1) := by decide +kernel
theorem dX5_mayBegin_37 : decode cX5_mayBegin 37 = .ok (.bipush 6, 2) := by decide +kernel
theorem dX5_mayBegin_39 : decode cX5_mayBegin 39 = .ok (.if_icmp .ge 7, 3) := by decide +kernel
theorem dX5_mayBegin_42 : decode cX5_mayBegin 42 = .ok (.iconst 1, 1) := by decide +kernel
theorem dX5_mayBegin_43 : decode cX5_mayBegin 43 = .ok (.goto 57, 3) := by decide +kernel
theorem dX5_mayBegin_46 : decode cX5_mayBegin 46 = .ok (.iconst 0, 1) := by decide +kernel
theorem dX5_mayBegin_47 : decode cX5_mayBegin 47 = .ok (.goto 53, 3) := by decide +kernel
theorem dX5_mayBegin_50 : decode cX5_mayBegin 50 = .ok (.aload_n 0, 1) := by decide +kernel
theorem dX5_mayBegin_51 : decode cX5_mayBegin 51 = .ok (.getfield 71, 3) := by decide +kernel
theorem dX5_mayBegin_54 : decode cX5_mayBegin 54 = .ok (.bipush 120, 2) := by decide +kernel
theorem dX5_mayBegin_56 : decode cX5_mayBegin 56 = .ok (.if_icmp .ne 23, 3) := by decide +kernel
theorem dX5_mayBegin_59 : decode cX5_mayBegin 59 = .ok (.aload_n 0, 1) := by decide +kernel
theorem dX5_mayBegin_60 : decode cX5_mayBegin 60 = .ok (.getfield 13, 3) := by decide +kernel
theorem dX5_mayBegin_63 : decode cX5_mayBegin 63 = .ok (.bipush 9, 2) := by decide +kernel
theorem dX5_mayBegin_65 : decode cX5_mayBegin 65 = .ok (.iaload, 1) := by decide +kernel
theorem dX5_mayBegin_66 : decode cX5_mayBegin 66 = .ok (.bipush 6, 2) := by decide +kernel
theorem dX5_mayBegin_68 : decode cX5_mayBegin 68 = .ok (.if_icmp .ge 7, 3) := by decide +kernel
theorem dX5_mayBegin_71 : decode cX5_mayBegin 71 = .ok (.iconst 1, 1) := by decide +kernel
theorem dX5_mayBegin_72 : decode cX5_mayBegin 72 = .ok (.goto 28, 3) := by decide +kernel
theorem dX5_mayBegin_75 : decode cX5_mayBegin 75 = .ok (.iconst 0, 1) := by decide +kernel
theorem dX5_mayBegin_76 : decode cX5_mayBegin 76 = .ok (.goto 24, 3) := by decide +kernel
theorem dX5_mayBegin_79 : decode cX5_mayBegin 79 = .ok (.aload_n 0, 1) := by decide +kernel
theorem dX5_mayBegin_80 : decode cX5_mayBegin 80 = .ok (.getfield 71, 3) := by decide +kernel
theorem dX5_mayBegin_83 : decode cX5_mayBegin 83 = .ok (.bipush 98, 2) := by decide +kernel
theorem dX5_mayBegin_85 : decode cX5_mayBegin 85 = .ok (.if_icmp .eq 10, 3) := by decide +kernel
theorem dX5_mayBegin_88 : decode cX5_mayBegin 88 = .ok (.aload_n 0, 1) := by decide +kernel
theorem dX5_mayBegin_89 : decode cX5_mayBegin 89 = .ok (.getfield 88, 3) := by decide +kernel
theorem dX5_mayBegin_92 : decode cX5_mayBegin 92 = .ok (.ifCond .ne 7, 3) := by decide +kernel
theorem dX5_mayBegin_95 : decode cX5_mayBegin 95 = .ok (.iconst 1, 1) := by decide +kernel
theorem dX5_mayBegin_96 : decode cX5_mayBegin 96 = .ok (.goto 4, 3) := by decide +kernel
theorem dX5_mayBegin_99 : decode cX5_mayBegin 99 = .ok (.iconst 0, 1) := by decide +kernel
theorem dX5_mayBegin_100 : decode cX5_mayBegin 100 = .ok (.ireturn, 1) := by decide +kernel
set_option maxRecDepth 20000 in
theorem kX5_mayBegin_13 : Cond.fieldLink RX5 13 "WindPostModel" "many" "[I" ∈ wsX5_mayBegin := by decide +kernel
set_option maxRecDepth 20000 in
theorem kX5_mayBegin_71 : Cond.fieldLink RX5 71 "WindPostModel" "value" "I" ∈ wsX5_mayBegin := by decide +kernel
set_option maxRecDepth 20000 in
theorem kX5_mayBegin_88 : Cond.fieldLink RX5 88 "WindPostModel" "isForceTold" "Z" ∈ wsX5_mayBegin := by decide +kernel
set_option maxRecDepth 20000 in
theorem uX5_mayBegin_X5 : ∀ w ∈ wsX50, w ∈ wsX5_mayBegin := by decide +kernel
set_option maxHeartbeats 8000000 in
set_option maxRecDepth 100000 in
theorem mX5_mayBegin (l : Launch) (D : va_G) (ki : Nat → ClassId) (ad : Nat → Nat) (cs : List Nat) (hcs : kR cs) (N : Nat) (a1 : Int32) (G : zMem) (tr : Int64) : gMetI l D ki ad cs yX5_mayBegin wsX5_mayBegin { frames := 0, cells := 0, slots := 0, locals := 0 } [.ref (ad 0), .int a1] (mE ki ad) G tr (fX5_mayBegin N a1 G tr) := by
  refine gMetI_of (cc := cX5_mayBegin) (maxL := 2) (ret := (some .boolean)) (own := RX5) (by decide +kernel) rfl rfl (Nat.le_of_ble_eq_true rfl) ?_
  intro r9 G9 tr9 h p e s m below meth c S hr hlk K X ls hl
  have hl : lv_has ls 2 [(0, .ref (ad 0)), (1, .int a1)] := hl
  unfold fX5_mayBegin at h
  obtain ⟨H, hH⟩ : ∃ H, H = s.heap := ⟨_, rfl⟩
  obtain ⟨locs, hlo⟩ : ∃ locs : List Loc, locs = [] := ⟨_, rfl⟩
  have X : gS D cs ad ((mE ki ad) G tr) (gA cs ad s.heap.size) s H locs := by rw [hH, hlo]; exact X
  suffices z : W p l e (headSpec wsX5_mayBegin { frames := 0, cells := 0, slots := 0, locals := 0 }).room s m ([.ref (ad 0), .int a1] : List Value).toArray below meth c H locs 0 0 (zQI below ([.ref (ad 0), .int a1] : List Value).toArray s D cs ad ((mE ki ad) G9 tr9) r9) (F0 m 0 ls []) by rw [hH, hlo] at z; exact z
  clear hH hlo
  refine lv_aload_n S.1 S.2.1 dX5_mayBegin_0 rfl (lv_at hl 0 rfl) ?_
  refine zr_get (v := .int (G 0 7)) S K X (hcs 0 (by decide)) mE_R rfl uX5_mayBegin_X5 7 (by decide) kX5_mayBegin_71 rfl rfl dX5_mayBegin_1 ?_
  refine lv_bipush (v := (103 : Int32)) S.1 S.2.1 dX5_mayBegin_4 (by decide) ?_
  refine lv_icmp_ne (tgt := 21) S.1 S.2.1 dX5_mayBegin_6 (by decide) (fun hc_1 => ?_) (fun hc_1 => ?_)
  · have h := zif_neg hc_1 h
    refine lv_aload_n S.1 S.2.1 dX5_mayBegin_21 rfl (lv_at hl 0 rfl) ?_
    refine zr_get (v := .int (G 0 7)) S K X (hcs 0 (by decide)) mE_R rfl uX5_mayBegin_X5 7 (by decide) kX5_mayBegin_71 rfl rfl dX5_mayBegin_22 ?_
    refine lv_bipush (v := (105 : Int32)) S.1 S.2.1 dX5_mayBegin_25 (by decide) ?_
    refine lv_icmp_ne (tgt := 50) S.1 S.2.1 dX5_mayBegin_27 (by decide) (fun hc_2 => ?_) (fun hc_2 => ?_)
    · have h := zif_neg hc_2 h
      refine lv_aload_n S.1 S.2.1 dX5_mayBegin_50 rfl (lv_at hl 0 rfl) ?_
      refine zr_get (v := .int (G 0 7)) S K X (hcs 0 (by decide)) mE_R rfl uX5_mayBegin_X5 7 (by decide) kX5_mayBegin_71 rfl rfl dX5_mayBegin_51 ?_
      refine lv_bipush (v := (120 : Int32)) S.1 S.2.1 dX5_mayBegin_54 (by decide) ?_
      refine lv_icmp_ne (tgt := 79) S.1 S.2.1 dX5_mayBegin_56 (by decide) (fun hc_3 => ?_) (fun hc_3 => ?_)
      · have h := zif_neg hc_3 h
        refine lv_aload_n S.1 S.2.1 dX5_mayBegin_79 rfl (lv_at hl 0 rfl) ?_
        refine zr_get (v := .int (G 0 7)) S K X (hcs 0 (by decide)) mE_R rfl uX5_mayBegin_X5 7 (by decide) kX5_mayBegin_71 rfl rfl dX5_mayBegin_80 ?_
        refine lv_bipush (v := (98 : Int32)) S.1 S.2.1 dX5_mayBegin_83 (by decide) ?_
        refine lv_icmp_eq (tgt := 95) S.1 S.2.1 dX5_mayBegin_85 (by decide) (fun hc_4 => ?_) (fun hc_4 => ?_)
        · have h := zif_pos hc_4 h
          refine lv_iconst (v := (1 : Int32)) S.1 S.2.1 dX5_mayBegin_95 (by decide) ?_
          refine lv_goto (tgt := 100) S.1 S.2.1 dX5_mayBegin_96 (by decide) ?_
          exact zr_zret S hr hlk X h dX5_mayBegin_100
        · have h := zif_neg hc_4 h
          refine lv_aload_n S.1 S.2.1 dX5_mayBegin_88 rfl (lv_at hl 0 rfl) ?_
          refine zr_get (v := .int (G 0 13)) S K X (hcs 0 (by decide)) mE_R rfl uX5_mayBegin_X5 13 (by decide) kX5_mayBegin_88 rfl rfl dX5_mayBegin_89 ?_
          refine lv_if_ne (tgt := 99) S.1 S.2.1 dX5_mayBegin_92 (by decide) (fun hc_5 => ?_) (fun hc_5 => ?_)
          · have h := zif_neg hc_5 h
            refine lv_iconst (v := (0 : Int32)) S.1 S.2.1 dX5_mayBegin_99 (by decide) ?_
            exact zr_zret S hr hlk X h dX5_mayBegin_100
          · have h := zif_pos hc_5 h
            refine lv_iconst (v := (1 : Int32)) S.1 S.2.1 dX5_mayBegin_95 (by decide) ?_
            refine lv_goto (tgt := 100) S.1 S.2.1 dX5_mayBegin_96 (by decide) ?_
            exact zr_zret S hr hlk X h dX5_mayBegin_100
      · have h := zif_pos hc_3 h
        refine lv_aload_n S.1 S.2.1 dX5_mayBegin_59 rfl (lv_at hl 0 rfl) ?_
        refine zr_get (v := .ref (ad 2)) S K X (hcs 0 (by decide)) mE_R rfl uX5_mayBegin_X5 9 (by decide) kX5_mayBegin_13 rfl rfl dX5_mayBegin_60 ?_
        refine lv_bipush (v := (9 : Int32)) S.1 S.2.1 dX5_mayBegin_63 (by decide) ?_
        obtain ⟨hi_6, h⟩ := zin_some h
        refine zr_iald S K X (hcs 2 (by decide)) mE_2 hi_6 dX5_mayBegin_65 ?_
        refine lv_bipush (v := (6 : Int32)) S.1 S.2.1 dX5_mayBegin_66 (by decide) ?_
        refine lv_icmp_ge (tgt := 75) S.1 S.2.1 dX5_mayBegin_68 (by decide) (fun hc_7 => ?_) (fun hc_7 => ?_)
        · have h := zif_pos hc_7 h
          refine lv_iconst (v := (0 : Int32)) S.1 S.2.1 dX5_mayBegin_75 (by decide) ?_
          refine lv_goto (tgt := 100) S.1 S.2.1 dX5_mayBegin_76 (by decide) ?_
          exact zr_zret S hr hlk X h dX5_mayBegin_100
        · have h := zif_neg hc_7 h
          refine lv_iconst (v := (1 : Int32)) S.1 S.2.1 dX5_mayBegin_71 (by decide) ?_
          refine lv_goto (tgt := 100) S.1 S.2.1 dX5_mayBegin_72 (by decide) ?_
          exact zr_zret S hr hlk X h dX5_mayBegin_100
    · have h := zif_pos hc_2 h
      refine lv_aload_n S.1 S.2.1 dX5_mayBegin_30 rfl (lv_at hl 0 rfl) ?_
      refine zr_get (v := .ref (ad 2)) S K X (hcs 0 (by decide)) mE_R rfl uX5_mayBegin_X5 9 (by decide) kX5_mayBegin_13 rfl rfl dX5_mayBegin_31 ?_
      refine lv_bipush (v := (8 : Int32)) S.1 S.2.1 dX5_mayBegin_34 (by decide) ?_
      obtain ⟨hi_8, h⟩ := zin_some h
      refine zr_iald S K X (hcs 2 (by decide)) mE_2 hi_8 dX5_mayBegin_36 ?_
      refine lv_bipush (v := (6 : Int32)) S.1 S.2.1 dX5_mayBegin_37 (by decide) ?_
      refine lv_icmp_ge (tgt := 46) S.1 S.2.1 dX5_mayBegin_39 (by decide) (fun hc_9 => ?_) (fun hc_9 => ?_)
      · have h := zif_pos hc_9 h
        refine lv_iconst (v := (0 : Int32)) S.1 S.2.1 dX5_mayBegin_46 (by decide) ?_
        refine lv_goto (tgt := 100) S.1 S.2.1 dX5_mayBegin_47 (by decide) ?_
        exact zr_zret S hr hlk X h dX5_mayBegin_100
      · have h := zif_neg hc_9 h
        refine lv_iconst (v := (1 : Int32)) S.1 S.2.1 dX5_mayBegin_42 (by decide) ?_
        refine lv_goto (tgt := 100) S.1 S.2.1 dX5_mayBegin_43 (by decide) ?_
        exact zr_zret S hr hlk X h dX5_mayBegin_100
  · have h := zif_pos hc_1 h
    refine lv_iload_n S.1 S.2.1 dX5_mayBegin_9 rfl (lv_at hl 1 rfl) ?_
    refine lv_if_ne (tgt := 17) S.1 S.2.1 dX5_mayBegin_10 (by decide) (fun hc_10 => ?_) (fun hc_10 => ?_)
    · have h := zif_neg hc_10 h
      refine lv_iconst (v := (0 : Int32)) S.1 S.2.1 dX5_mayBegin_17 (by decide) ?_
      refine lv_goto (tgt := 100) S.1 S.2.1 dX5_mayBegin_18 (by decide) ?_
      exact zr_zret S hr hlk X h dX5_mayBegin_100
    · have h := zif_pos hc_10 h
      refine lv_iconst (v := (1 : Int32)) S.1 S.2.1 dX5_mayBegin_13 (by decide) ?_
      refine lv_goto (tgt := 100) S.1 S.2.1 dX5_mayBegin_14 (by decide) ?_
      exact zr_zret S hr hlk X h dX5_mayBegin_100
set_option maxRecDepth 20000 in
theorem ggX5_readsWind_X5_in : GoodIn wsX5_readsWind wsX5_in := goodIn_r _ [8] (by decide +kernel) (by decide +kernel)
set_option maxRecDepth 20000 in
theorem gX5_readsWind_X5_in : GoodIn wsX5_readsWind (va_wsS RX5 51 yX5_in wsX5_in) := goodIn_app (goodIn_of _ (by decide +kernel)) ggX5_readsWind_X5_in
set_option maxRecDepth 20000 in
theorem ggX5_readsWind_X5_takes : GoodIn wsX5_readsWind wsX5_takes := goodIn_r _ [12, 13, 14, 2, 15, 16, 17, 7, 18, 19, 20, 21, 22, 23, 1, 24, 25, 26, 27, 28, 29, 5, 6, 8, 30, 31, 32, 33, 34, 35, 36, 37, 38, 39, 40, 41, 42, 43, 44, 45, 46, 47, 48, 49, 50, 51] (by decide +kernel) (by decide +kernel)
set_option maxRecDepth 20000 in
theorem gX5_readsWind_X5_takes : GoodIn wsX5_readsWind (wsV RX5 84 RX5 yX5_takes wsX5_takes) := goodIn_app (goodIn_of _ (by decide +kernel)) ggX5_readsWind_X5_takes
set_option maxRecDepth 20000 in
theorem ggX5_readsWind_X5_isWell : GoodIn wsX5_readsWind wsX5_isWell := goodIn_r _ [18, 14, 30, 31, 32, 33, 34, 35, 36, 37, 38, 39, 40, 41, 42, 43, 44, 45, 46, 47, 48, 49, 50, 51] (by decide +kernel) (by decide +kernel)
set_option maxRecDepth 20000 in
theorem gX5_readsWind_X5_isWell : GoodIn wsX5_readsWind (wsV RX5 77 RX5 yX5_isWell wsX5_isWell) := goodIn_app (goodIn_of _ (by decide +kernel)) ggX5_readsWind_X5_isWell
theorem dX5_readsWind_0 : decode cX5_readsWind 0 = .ok (.aload_n 0, 1) := by decide +kernel
theorem dX5_readsWind_1 : decode cX5_readsWind 1 = .ok (.aload_n 0, 1) := by decide +kernel
theorem dX5_readsWind_2 : decode cX5_readsWind 2 = .ok (.getfield 68, 3) := by decide +kernel
theorem dX5_readsWind_5 : decode cX5_readsWind 5 = .ok (.iconst 2, 1) := by decide +kernel
theorem dX5_readsWind_6 : decode cX5_readsWind 6 = .ok (.if_icmp .ne 31, 3) := by decide +kernel
theorem dX5_readsWind_9 : decode cX5_readsWind 9 = .ok (.aload_n 0, 1) := by decide +kernel
theorem dX5_readsWind_10 : decode cX5_readsWind 10 = .ok (.getfield 71, 3) := by decide +kernel
theorem dX5_readsWind_13 : decode cX5_readsWind 13 = .ok (.iconst 0, 1) := by decide +kernel
theorem dX5_readsWind_14 : decode cX5_readsWind 14 = .ok (.iconst 4, 1) := by decide +kernel
theorem dX5_readsWind_15 : decode cX5_readsWind 15 = .ok (.invokestatic 51, 3) := by decide +kernel
theorem dX5_readsWind_18 : decode cX5_readsWind 18 = .ok (.ifCond .eq 19, 3) := by decide +kernel
theorem dX5_readsWind_21 : decode cX5_readsWind 21 = .ok (.aload_n 0, 1) := by decide +kernel
theorem dX5_readsWind_22 : decode cX5_readsWind 22 = .ok (.getfield 13, 3) := by decide +kernel
theorem dX5_readsWind_25 : decode cX5_readsWind 25 = .ok (.bipush 10, 2) := by decide +kernel
theorem dX5_readsWind_27 : decode cX5_readsWind 27 = .ok (.iaload, 1) := by decide +kernel
theorem dX5_readsWind_28 : decode cX5_readsWind 28 = .ok (.bipush 12, 2) := by decide +kernel
theorem dX5_readsWind_30 : decode cX5_readsWind 30 = .ok (.if_icmp .ge 7, 3) := by decide +kernel
theorem dX5_readsWind_33 : decode cX5_readsWind 33 = .ok (.iconst 1, 1) := by decide +kernel
theorem dX5_readsWind_34 : decode cX5_readsWind 34 = .ok (.goto 4, 3) := by decide +kernel
theorem dX5_readsWind_37 : decode cX5_readsWind 37 = .ok (.iconst 0, 1) := by decide +kernel
theorem dX5_readsWind_38 : decode cX5_readsWind 38 = .ok (.invokevirtual 84, 3) := by decide +kernel
theorem dX5_readsWind_41 : decode cX5_readsWind 41 = .ok (.istore_n 1, 1) := by decide +kernel
theorem dX5_readsWind_42 : decode cX5_readsWind 42 = .ok (.aload_n 0, 1) := by decide +kernel
theorem dX5_readsWind_43 : decode cX5_readsWind 43 = .ok (.invokevirtual 77, 3) := by decide +kernel
theorem dX5_readsWind_46 : decode cX5_readsWind 46 = .ok (.ifCond .eq 27, 3) := by decide +kernel
theorem dX5_readsWind_49 : decode cX5_readsWind 49 = .ok (.aload_n 0, 1) := by decide +kernel
theorem dX5_readsWind_50 : decode cX5_readsWind 50 = .ok (.getfield 22, 3) := by decide +kernel
theorem dX5_readsWind_53 : decode cX5_readsWind 53 = .ok (.aload_n 0, 1) := by decide +kernel
theorem dX5_readsWind_54 : decode cX5_readsWind 54 = .ok (.getfield 13, 3) := by decide +kernel
theorem dX5_readsWind_57 : decode cX5_readsWind 57 = .ok (.bipush 10, 2) := by decide +kernel
theorem dX5_readsWind_59 : decode cX5_readsWind 59 = .ok (.iaload, 1) := by decide +kernel
theorem dX5_readsWind_60 : decode cX5_readsWind 60 = .ok (.iload_n 1, 1) := by decide +kernel
theorem dX5_readsWind_61 : decode cX5_readsWind 61 = .ok (.iastore, 1) := by decide +kernel
theorem dX5_readsWind_62 : decode cX5_readsWind 62 = .ok (.aload_n 0, 1) := by decide +kernel
theorem dX5_readsWind_63 : decode cX5_readsWind 63 = .ok (.getfield 13, 3) := by decide +kernel
theorem dX5_readsWind_66 : decode cX5_readsWind 66 = .ok (.bipush 10, 2) := by decide +kernel
theorem dX5_readsWind_68 : decode cX5_readsWind 68 = .ok (.dup2, 1) := by decide +kernel
theorem dX5_readsWind_69 : decode cX5_readsWind 69 = .ok (.iaload, 1) := by decide +kernel
theorem dX5_readsWind_70 : decode cX5_readsWind 70 = .ok (.iconst 1, 1) := by decide +kernel
theorem dX5_readsWind_71 : decode cX5_readsWind 71 = .ok (.iadd, 1) := by decide +kernel
theorem dX5_readsWind_72 : decode cX5_readsWind 72 = .ok (.iastore, 1) := by decide +kernel
theorem dX5_readsWind_73 : decode cX5_readsWind 73 = .ok (.return_, 1) := by decide +kernel
set_option maxRecDepth 20000 in
theorem kX5_readsWind_13 : Cond.fieldLink RX5 13 "WindPostModel" "many" "[I" ∈ wsX5_readsWind := by decide +kernel
set_option maxRecDepth 20000 in
theorem kX5_readsWind_22 : Cond.fieldLink RX5 22 "WindPostModel" "winds" "[I" ∈ wsX5_readsWind := by decide +kernel
set_option maxRecDepth 20000 in
theorem kX5_readsWind_68 : Cond.fieldLink RX5 68 "WindPostModel" "token" "I" ∈ wsX5_readsWind := by decide +kernel
set_option maxRecDepth 20000 in
theorem kX5_readsWind_71 : Cond.fieldLink RX5 71 "WindPostModel" "value" "I" ∈ wsX5_readsWind := by decide +kernel
set_option maxRecDepth 20000 in
theorem uX5_readsWind_X5 : ∀ w ∈ wsX50, w ∈ wsX5_readsWind := by decide +kernel
set_option maxHeartbeats 8000000 in
set_option maxRecDepth 100000 in
theorem mX5_readsWind (l : Launch) (D : va_G) (ki : Nat → ClassId) (ad : Nat → Nat) (cs : List Nat) (hcs : kR cs) (N : Nat) (G : zMem) (tr : Int64) : gMetV l D ki ad cs yX5_readsWind wsX5_readsWind { frames := 3, cells := 0, slots := 0, locals := 65 } [.ref (ad 0)] (mE ki ad) G tr (fX5_readsWind N G tr) := by
  refine gMetV_of (cc := cX5_readsWind) (maxL := 2) (ret := none) (own := RX5) (by decide +kernel) rfl rfl (Nat.le_of_ble_eq_true rfl) ?_
  intro r9 G9 tr9 h p e s m below meth c S hr hlk K X ls hl
  have hl : lv_has ls 2 [(0, .ref (ad 0))] := hl
  have b38 : ∀ (s0 : Int32) (G : zMem) (tr : Int64), fX5_readsWind_b38 N s0 G tr = some (r9, G9, tr9) → zAt p l e (headSpec wsX5_readsWind { frames := 3, cells := 0, slots := 0, locals := 65 }).room s m ([.ref (ad 0)] : List Value).toArray below meth c 2 D cs ad (zQV below ([.ref (ad 0)] : List Value).toArray s D cs ad ((mE ki ad) G9 tr9)) 38 [(0, .ref (ad 0))] [.int s0, .ref (ad 0)] ((mE ki ad) G tr) := by
    intro s0 G tr h H locs ls X hl
    unfold fX5_readsWind_b38 at h
    obtain ⟨r_2, G_3, tr_4, hf_1, h⟩ := zbd_some h
    refine zr_calli (Eg := (mE ki ad)) K X (va_runV (As := [.int s0]) (rest := []) S (mX5_takes l D ki ad cs hcs N s0 G tr H.size _ _ _ hf_1) (cwV 1 S.2.2.2.2 gX5_readsWind_X5_takes rfl rfl rfl (by decide +kernel) ⟨Nat.le_of_ble_eq_true rfl, Nat.le_of_ble_eq_true rfl⟩) (zr_preV (c0 := 0) K X (hcs 0 (by decide)) mE_R rfl) rfl rfl hl.1 rfl (lv_room (Nat.le_of_ble_eq_true rfl)) dX5_readsWind_38 ⟨Nat.zero_le _, Nat.zero_le _⟩) (fun H locs X => ?_)
    refine lv_istore_n (lv' := [(1, .int r_2), (0, .ref (ad 0))]) S.1 S.2.1 dX5_readsWind_41 rfl hl (by decide) rfl (fun ls hl => ?_)
    refine lv_aload_n S.1 S.2.1 dX5_readsWind_42 rfl (lv_at hl 1 rfl) ?_
    obtain ⟨r_6, G_7, tr_8, hf_5, h⟩ := zbd_some h
    refine zr_calli (Eg := (mE ki ad)) K X (va_runV (As := []) (rest := []) S (mX5_isWell l D ki ad cs hcs N G_3 tr_4 H.size _ _ _ hf_5) (cwV 0 S.2.2.2.2 gX5_readsWind_X5_isWell rfl rfl rfl (by decide +kernel) ⟨Nat.le_of_ble_eq_true rfl, Nat.le_of_ble_eq_true rfl⟩) (zr_preV (c0 := 0) K X (hcs 0 (by decide)) mE_R rfl) rfl rfl hl.1 rfl (lv_room (Nat.le_of_ble_eq_true rfl)) dX5_readsWind_43 ⟨Nat.zero_le _, Nat.zero_le _⟩) (fun H locs X => ?_)
    refine lv_if_eq (tgt := 73) S.1 S.2.1 dX5_readsWind_46 (by decide) (fun hc_9 => ?_) (fun hc_9 => ?_)
    · have h := zif_pos hc_9 h
      exact zr_vret S hr hlk X h dX5_readsWind_73
    · have h := zif_neg hc_9 h
      refine lv_aload_n S.1 S.2.1 dX5_readsWind_49 rfl (lv_at hl 1 rfl) ?_
      refine zr_get (v := .ref (ad 5)) S K X (hcs 0 (by decide)) mE_R rfl uX5_readsWind_X5 12 (by decide) kX5_readsWind_22 rfl rfl dX5_readsWind_50 ?_
      refine lv_aload_n S.1 S.2.1 dX5_readsWind_53 rfl (lv_at hl 1 rfl) ?_
      refine zr_get (v := .ref (ad 2)) S K X (hcs 0 (by decide)) mE_R rfl uX5_readsWind_X5 9 (by decide) kX5_readsWind_13 rfl rfl dX5_readsWind_54 ?_
      refine lv_bipush (v := (10 : Int32)) S.1 S.2.1 dX5_readsWind_57 (by decide) ?_
      obtain ⟨hi_10, h⟩ := zin_some h
      refine zr_iald S K X (hcs 2 (by decide)) mE_2 hi_10 dX5_readsWind_59 ?_
      refine lv_iload_n S.1 S.2.1 dX5_readsWind_60 rfl (lv_at hl 0 rfl) ?_
      obtain ⟨hi_11, h⟩ := zin_some h
      refine zr_iast S K X (hcs 5 (by decide)) mE_loc (fun _ => mE_5) hi_11 dX5_readsWind_61 (fun H locs X => ?_)
      refine lv_aload_n S.1 S.2.1 dX5_readsWind_62 rfl (lv_at hl 1 rfl) ?_
      refine zr_get (v := .ref (ad 2)) S K X (hcs 0 (by decide)) mE_R rfl uX5_readsWind_X5 9 (by decide) kX5_readsWind_13 rfl rfl dX5_readsWind_63 ?_
      refine lv_bipush (v := (10 : Int32)) S.1 S.2.1 dX5_readsWind_66 (by decide) ?_
      refine lv_dup2_11 S.1 S.2.1 dX5_readsWind_68 rfl rfl ?_
      obtain ⟨hi_12, h⟩ := zin_some h
      refine zr_iald S K X (hcs 2 (by decide)) mE_2 hi_12 dX5_readsWind_69 ?_
      refine lv_iconst (v := (1 : Int32)) S.1 S.2.1 dX5_readsWind_70 (by decide) ?_
      refine lv_iadd S.1 S.2.1 dX5_readsWind_71 ?_
      obtain ⟨hi_13, h⟩ := zin_some h
      refine zr_iast S K X (hcs 2 (by decide)) mE_loc (fun _ => mE_2) hi_13 dX5_readsWind_72 (fun H locs X => ?_)
      exact zr_vret S hr hlk X h dX5_readsWind_73
  have b37 : ∀ (G : zMem) (tr : Int64), fX5_readsWind_b37 N G tr = some (r9, G9, tr9) → zAt p l e (headSpec wsX5_readsWind { frames := 3, cells := 0, slots := 0, locals := 65 }).room s m ([.ref (ad 0)] : List Value).toArray below meth c 2 D cs ad (zQV below ([.ref (ad 0)] : List Value).toArray s D cs ad ((mE ki ad) G9 tr9)) 37 [(0, .ref (ad 0))] [.ref (ad 0)] ((mE ki ad) G tr) := by
    intro G tr h H locs ls X hl
    unfold fX5_readsWind_b37 at h
    refine lv_iconst (v := (0 : Int32)) S.1 S.2.1 dX5_readsWind_37 (by decide) ?_
    exact b38 (0 : Int32) G tr h _ _ _ X (lv_sub hl [0] rfl)
  unfold fX5_readsWind at h
  obtain ⟨H, hH⟩ : ∃ H, H = s.heap := ⟨_, rfl⟩
  obtain ⟨locs, hlo⟩ : ∃ locs : List Loc, locs = [] := ⟨_, rfl⟩
  have X : gS D cs ad ((mE ki ad) G tr) (gA cs ad s.heap.size) s H locs := by rw [hH, hlo]; exact X
  suffices z : W p l e (headSpec wsX5_readsWind { frames := 3, cells := 0, slots := 0, locals := 65 }).room s m ([.ref (ad 0)] : List Value).toArray below meth c H locs 0 0 (zQV below ([.ref (ad 0)] : List Value).toArray s D cs ad ((mE ki ad) G9 tr9)) (F0 m 0 ls []) by rw [hH, hlo] at z; exact z
  clear hH hlo
  refine lv_aload_n S.1 S.2.1 dX5_readsWind_0 rfl (lv_at hl 0 rfl) ?_
  refine lv_aload_n S.1 S.2.1 dX5_readsWind_1 rfl (lv_at hl 0 rfl) ?_
  refine zr_get (v := .int (G 0 5)) S K X (hcs 0 (by decide)) mE_R rfl uX5_readsWind_X5 5 (by decide) kX5_readsWind_68 rfl rfl dX5_readsWind_2 ?_
  refine lv_iconst (v := (2 : Int32)) S.1 S.2.1 dX5_readsWind_5 (by decide) ?_
  refine lv_icmp_ne (tgt := 37) S.1 S.2.1 dX5_readsWind_6 (by decide) (fun hc_1 => ?_) (fun hc_1 => ?_)
  · have h := zif_neg hc_1 h
    exact b37 G tr h _ _ _ X (lv_sub hl [0] rfl)
  · have h := zif_pos hc_1 h
    refine lv_aload_n S.1 S.2.1 dX5_readsWind_9 rfl (lv_at hl 0 rfl) ?_
    refine zr_get (v := .int (G 0 7)) S K X (hcs 0 (by decide)) mE_R rfl uX5_readsWind_X5 7 (by decide) kX5_readsWind_71 rfl rfl dX5_readsWind_10 ?_
    refine lv_iconst (v := (0 : Int32)) S.1 S.2.1 dX5_readsWind_13 (by decide) ?_
    refine lv_iconst (v := (4 : Int32)) S.1 S.2.1 dX5_readsWind_14 (by decide) ?_
    obtain ⟨r_3, hf_2, h⟩ := zbp_some h
    refine zr_calli (Eg := (mE ki ad)) (G' := G) (tr' := tr) K X (va_runS (As := [.int (G 0 7), .int (0 : Int32), .int (4 : Int32)]) (rest := [.ref (ad 0)]) S (mX5_in l D ki ad cs N (G 0 7) (0 : Int32) (4 : Int32) (mE ki ad) G tr H.size _ _ _ (zpu_of hf_2)) (va_cwS 3 S.2.2.2.2 gX5_readsWind_X5_in rfl rfl rfl (by decide +kernel) ⟨Nat.le_of_ble_eq_true rfl, Nat.le_of_ble_eq_true rfl⟩) (zr_pre K X) rfl rfl hl.1 rfl (lv_room (Nat.le_of_ble_eq_true rfl)) dX5_readsWind_15 ⟨Nat.zero_le _, Nat.zero_le _⟩) (fun H locs X => ?_)
    refine lv_if_eq (tgt := 37) S.1 S.2.1 dX5_readsWind_18 (by decide) (fun hc_4 => ?_) (fun hc_4 => ?_)
    · have h := zif_pos hc_4 h
      exact b37 G tr h _ _ _ X (lv_sub hl [0] rfl)
    · have h := zif_neg hc_4 h
      refine lv_aload_n S.1 S.2.1 dX5_readsWind_21 rfl (lv_at hl 0 rfl) ?_
      refine zr_get (v := .ref (ad 2)) S K X (hcs 0 (by decide)) mE_R rfl uX5_readsWind_X5 9 (by decide) kX5_readsWind_13 rfl rfl dX5_readsWind_22 ?_
      refine lv_bipush (v := (10 : Int32)) S.1 S.2.1 dX5_readsWind_25 (by decide) ?_
      obtain ⟨hi_5, h⟩ := zin_some h
      refine zr_iald S K X (hcs 2 (by decide)) mE_2 hi_5 dX5_readsWind_27 ?_
      refine lv_bipush (v := (12 : Int32)) S.1 S.2.1 dX5_readsWind_28 (by decide) ?_
      refine lv_icmp_ge (tgt := 37) S.1 S.2.1 dX5_readsWind_30 (by decide) (fun hc_6 => ?_) (fun hc_6 => ?_)
      · have h := zif_pos hc_6 h
        exact b37 G tr h _ _ _ X (lv_sub hl [0] rfl)
      · have h := zif_neg hc_6 h
        refine lv_iconst (v := (1 : Int32)) S.1 S.2.1 dX5_readsWind_33 (by decide) ?_
        refine lv_goto (tgt := 38) S.1 S.2.1 dX5_readsWind_34 (by decide) ?_
        exact b38 (1 : Int32) G tr h _ _ _ X (lv_sub hl [0] rfl)
set_option maxRecDepth 20000 in
theorem ggX5_readsItem_X5_number : GoodIn wsX5_readsItem wsX5_number := goodIn_r _ [11, 3, 4, 12, 13, 10, 14, 15, 16, 17, 18, 19, 20, 21, 22, 23, 24, 25, 26, 27, 28, 29, 30, 31, 32, 33, 34, 35, 45, 46, 47, 48, 49, 50, 51, 52, 53, 54, 55, 56, 57, 58, 59, 60, 61, 62, 63, 64, 65, 66] (by decide +kernel) (by decide +kernel)
set_option maxRecDepth 20000 in
theorem gX5_readsItem_X5_number : GoodIn wsX5_readsItem (wsV RX5 92 RX5 yX5_number wsX5_number) := goodIn_app (goodIn_of _ (by decide +kernel)) ggX5_readsItem_X5_number
set_option maxRecDepth 20000 in
theorem ggX5_readsItem_X5_isFree : GoodIn wsX5_readsItem wsX5_isFree := goodIn_r _ [39, 1, 2, 5, 12, 13, 10, 14, 45, 46, 47, 48, 49, 50, 51, 52, 53, 54, 55, 56, 57, 58, 59, 60, 61, 62, 63, 64, 65, 66] (by decide +kernel) (by decide +kernel)
set_option maxRecDepth 20000 in
theorem gX5_readsItem_X5_isFree : GoodIn wsX5_readsItem (wsV RX5 96 RX5 yX5_isFree wsX5_isFree) := goodIn_app (goodIn_of _ (by decide +kernel)) ggX5_readsItem_X5_isFree
set_option maxRecDepth 20000 in
theorem ggX5_readsItem_X5_takes : GoodIn wsX5_readsItem wsX5_takes := goodIn_r _ [18, 19, 20, 4, 21, 22, 23, 10, 24, 25, 26, 27, 28, 29, 3, 30, 31, 32, 33, 34, 35, 12, 13, 14, 45, 46, 47, 48, 49, 50, 51, 52, 53, 54, 55, 56, 57, 58, 59, 60, 61, 62, 63, 64, 65, 66] (by decide +kernel) (by decide +kernel)
set_option maxRecDepth 20000 in
theorem gX5_readsItem_X5_takes : GoodIn wsX5_readsItem (wsV RX5 84 RX5 yX5_takes wsX5_takes) := goodIn_app (goodIn_of _ (by decide +kernel)) ggX5_readsItem_X5_takes
set_option maxRecDepth 20000 in
theorem ggX5_readsItem_X5_readsWind : GoodIn wsX5_readsItem wsX5_readsWind := goodIn_r _ [43, 3, 4, 1, 44, 12, 13, 10, 14, 15, 16, 17, 18, 19, 20, 21, 22, 23, 24, 25, 26, 27, 28, 29, 30, 31, 32, 33, 34, 35, 45, 46, 47, 48, 49, 50, 51, 52, 53, 54, 55, 56, 57, 58, 59, 60, 61, 62, 63, 64, 65, 66] (by decide +kernel) (by decide +kernel)
set_option maxRecDepth 20000 in
theorem gX5_readsItem_X5_readsWind : GoodIn wsX5_readsItem (wsV RX5 100 RX5 yX5_readsWind wsX5_readsWind) := goodIn_app (goodIn_of _ (by decide +kernel)) ggX5_readsItem_X5_readsWind
set_option maxRecDepth 20000 in
theorem ggX5_readsItem_X5_isWell : GoodIn wsX5_readsItem wsX5_isWell := goodIn_r _ [24, 20, 45, 46, 47, 48, 49, 50, 51, 52, 53, 54, 55, 56, 57, 58, 59, 60, 61, 62, 63, 64, 65, 66] (by decide +kernel) (by decide +kernel)
set_option maxRecDepth 20000 in
theorem gX5_readsItem_X5_isWell : GoodIn wsX5_readsItem (wsV RX5 77 RX5 yX5_isWell wsX5_isWell) := goodIn_app (goodIn_of _ (by decide +kernel)) ggX5_readsItem_X5_isWell
theorem dX5_readsItem_0 : decode cX5_readsItem 0 = .ok (.iload_n 1, 1) := by decide +kernel
theorem dX5_readsItem_1 : decode cX5_readsItem 1 = .ok (.bipush 103, 2) := by decide +kernel
theorem dX5_readsItem_3 : decode cX5_readsItem 3 = .ok (.if_icmp .ne 33, 3) := by decide +kernel
theorem dX5_readsItem_6 : decode cX5_readsItem 6 = .ok (.aload_n 0, 1) := by decide +kernel
theorem dX5_readsItem_7 : decode cX5_readsItem 7 = .ok (.getfield 13, 3) := by decide +kernel
theorem dX5_readsItem_10 : decode cX5_readsItem 10 = .ok (.bipush 6, 2) := by decide +kernel
theorem dX5_readsItem_12 : decode cX5_readsItem 12 = .ok (.aload_n 0, 1) := by decide +kernel
theorem dX5_readsItem_13 : decode cX5_readsItem 13 = .ok (.iconst 2, 1) := by decide +kernel
theorem dX5_readsItem_14 : decode cX5_readsItem 14 = .ok (.bipush 6, 2) := by decide +kernel
theorem dX5_readsItem_16 : decode cX5_readsItem 16 = .ok (.invokevirtual 92, 3) := by decide +kernel
theorem dX5_readsItem_19 : decode cX5_readsItem 19 = .ok (.iastore, 1) := by decide +kernel
theorem dX5_readsItem_20 : decode cX5_readsItem 20 = .ok (.aload_n 0, 1) := by decide +kernel
theorem dX5_readsItem_21 : decode cX5_readsItem 21 = .ok (.getfield 13, 3) := by decide +kernel
theorem dX5_readsItem_24 : decode cX5_readsItem 24 = .ok (.bipush 7, 2) := by decide +kernel
theorem dX5_readsItem_26 : decode cX5_readsItem 26 = .ok (.aload_n 0, 1) := by decide +kernel
theorem dX5_readsItem_27 : decode cX5_readsItem 27 = .ok (.iconst 2, 1) := by decide +kernel
theorem dX5_readsItem_28 : decode cX5_readsItem 28 = .ok (.iconst 5, 1) := by decide +kernel
theorem dX5_readsItem_29 : decode cX5_readsItem 29 = .ok (.invokevirtual 92, 3) := by decide +kernel
theorem dX5_readsItem_32 : decode cX5_readsItem 32 = .ok (.iastore, 1) := by decide +kernel
theorem dX5_readsItem_33 : decode cX5_readsItem 33 = .ok (.goto 180, 3) := by decide +kernel
theorem dX5_readsItem_36 : decode cX5_readsItem 36 = .ok (.iload_n 1, 1) := by decide +kernel
theorem dX5_readsItem_37 : decode cX5_readsItem 37 = .ok (.bipush 105, 2) := by decide +kernel
theorem dX5_readsItem_39 : decode cX5_readsItem 39 = .ok (.if_icmp .ne 60, 3) := by decide +kernel
theorem dX5_readsItem_42 : decode cX5_readsItem 42 = .ok (.aload_n 0, 1) := by decide +kernel
theorem dX5_readsItem_43 : decode cX5_readsItem 43 = .ok (.getfield 16, 3) := by decide +kernel
theorem dX5_readsItem_46 : decode cX5_readsItem 46 = .ok (.bipush 6, 2) := by decide +kernel
theorem dX5_readsItem_48 : decode cX5_readsItem 48 = .ok (.aload_n 0, 1) := by decide +kernel
theorem dX5_readsItem_49 : decode cX5_readsItem 49 = .ok (.getfield 13, 3) := by decide +kernel
theorem dX5_readsItem_52 : decode cX5_readsItem 52 = .ok (.bipush 8, 2) := by decide +kernel
theorem dX5_readsItem_54 : decode cX5_readsItem 54 = .ok (.iaload, 1) := by decide +kernel
theorem dX5_readsItem_55 : decode cX5_readsItem 55 = .ok (.iadd, 1) := by decide +kernel
theorem dX5_readsItem_56 : decode cX5_readsItem 56 = .ok (.aload_n 0, 1) := by decide +kernel
theorem dX5_readsItem_57 : decode cX5_readsItem 57 = .ok (.aload_n 0, 1) := by decide +kernel
theorem dX5_readsItem_58 : decode cX5_readsItem 58 = .ok (.getfield 68, 3) := by decide +kernel
theorem dX5_readsItem_61 : decode cX5_readsItem 61 = .ok (.iconst 2, 1) := by decide +kernel
theorem dX5_readsItem_62 : decode cX5_readsItem 62 = .ok (.if_icmp .ne 18, 3) := by decide +kernel
theorem dX5_readsItem_65 : decode cX5_readsItem 65 = .ok (.aload_n 0, 1) := by decide +kernel
theorem dX5_readsItem_66 : decode cX5_readsItem 66 = .ok (.aload_n 0, 1) := by decide +kernel
theorem dX5_readsItem_67 : decode cX5_readsItem 67 = .ok (.getfield 71, 3) := by decide +kernel
theorem dX5_readsItem_70 : decode cX5_readsItem 70 = .ok (.invokevirtual 96, 3) := by decide +kernel
theorem dX5_readsItem_73 : decode cX5_readsItem 73 = .ok (.ifCond .eq 7, 3) := by decide +kernel
theorem dX5_readsItem_76 : decode cX5_readsItem 76 = .ok (.iconst 1, 1) := by decide +kernel
theorem dX5_readsItem_77 : decode cX5_readsItem 77 = .ok (.goto 4, 3) := by decide +kernel
theorem dX5_readsItem_80 : decode cX5_readsItem 80 = .ok (.iconst 0, 1) := by decide +kernel
theorem dX5_readsItem_81 : decode cX5_readsItem 81 = .ok (.invokevirtual 84, 3) := by decide +kernel
theorem dX5_readsItem_84 : decode cX5_readsItem 84 = .ok (.iastore, 1) := by decide +kernel
theorem dX5_readsItem_85 : decode cX5_readsItem 85 = .ok (.aload_n 0, 1) := by decide +kernel
theorem dX5_readsItem_86 : decode cX5_readsItem 86 = .ok (.getfield 13, 3) := by decide +kernel
theorem dX5_readsItem_89 : decode cX5_readsItem 89 = .ok (.bipush 8, 2) := by decide +kernel
theorem dX5_readsItem_91 : decode cX5_readsItem 91 = .ok (.dup2, 1) := by decide +kernel
theorem dX5_readsItem_92 : decode cX5_readsItem 92 = .ok (.iaload, 1) := by decide +kernel
theorem dX5_readsItem_93 : decode cX5_readsItem 93 = .ok (.iconst 1, 1) := by decide +kernel
theorem dX5_readsItem_94 : decode cX5_readsItem 94 = .ok (.iadd, 1) := by decide +kernel
theorem dX5_readsItem_95 : decode cX5_readsItem 95 = .ok (.iastore, 1) := by decide +kernel
theorem dX5_readsItem_96 : decode cX5_readsItem 96 = .ok (.goto 117, 3) := by decide +kernel
theorem dX5_readsItem_99 : decode cX5_readsItem 99 = .ok (.iload_n 1, 1) := by decide +kernel
theorem dX5_readsItem_100 : decode cX5_readsItem 100 = .ok (.bipush 120, 2) := by decide +kernel
theorem dX5_readsItem_102 : decode cX5_readsItem 102 = .ok (.if_icmp .ne 60, 3) := by decide +kernel
theorem dX5_readsItem_105 : decode cX5_readsItem 105 = .ok (.aload_n 0, 1) := by decide +kernel
theorem dX5_readsItem_106 : decode cX5_readsItem 106 = .ok (.getfield 19, 3) := by decide +kernel
theorem dX5_readsItem_109 : decode cX5_readsItem 109 = .ok (.bipush 6, 2) := by decide +kernel
theorem dX5_readsItem_111 : decode cX5_readsItem 111 = .ok (.aload_n 0, 1) := by decide +kernel
theorem dX5_readsItem_112 : decode cX5_readsItem 112 = .ok (.getfield 13, 3) := by decide +kernel
theorem dX5_readsItem_115 : decode cX5_readsItem 115 = .ok (.bipush 9, 2) := by decide +kernel
theorem dX5_readsItem_117 : decode cX5_readsItem 117 = .ok (.iaload, 1) := by decide +kernel
theorem dX5_readsItem_118 : decode cX5_readsItem 118 = .ok (.iadd, 1) := by decide +kernel
theorem dX5_readsItem_119 : decode cX5_readsItem 119 = .ok (.aload_n 0, 1) := by decide +kernel
theorem dX5_readsItem_120 : decode cX5_readsItem 120 = .ok (.aload_n 0, 1) := by decide +kernel
theorem dX5_readsItem_121 : decode cX5_readsItem 121 = .ok (.getfield 68, 3) := by decide +kernel
theorem dX5_readsItem_124 : decode cX5_readsItem 124 = .ok (.iconst 2, 1) := by decide +kernel
theorem dX5_readsItem_125 : decode cX5_readsItem 125 = .ok (.if_icmp .ne 18, 3) := by decide +kernel
theorem dX5_readsItem_128 : decode cX5_readsItem 128 = .ok (.aload_n 0, 1) := by decide +kernel
theorem dX5_readsItem_129 : decode cX5_readsItem 129 = .ok (.aload_n 0, 1) := by decide +kernel
theorem dX5_readsItem_130 : decode cX5_readsItem 130 = .ok (.getfield 71, 3) := by decide +kernel
theorem dX5_readsItem_133 : decode cX5_readsItem 133 = .ok (.invokevirtual 96, 3) := by decide +kernel
theorem dX5_readsItem_136 : decode cX5_readsItem 136 = .ok (.ifCond .eq 7, 3) := by decide +kernel
theorem dX5_readsItem_139 : decode cX5_readsItem 139 = .ok (.iconst 1, 1) := by decide +kernel
theorem dX5_readsItem_140 : decode cX5_readsItem 140 = .ok (.goto 4, 3) := by decide +kernel
theorem dX5_readsItem_143 : decode cX5_readsItem 143 = .ok (.iconst 0, 1) := by decide +kernel
theorem dX5_readsItem_144 : decode cX5_readsItem 144 = .ok (.invokevirtual 84, 3) := by decide +kernel
theorem dX5_readsItem_147 : decode cX5_readsItem 147 = .ok (.iastore, 1) := by decide +kernel
theorem dX5_readsItem_148 : decode cX5_readsItem 148 = .ok (.aload_n 0, 1) := by decide +kernel
theorem dX5_readsItem_149 : decode cX5_readsItem 149 = .ok (.getfield 13, 3) := by decide +kernel
theorem dX5_readsItem_152 : decode cX5_readsItem 152 = .ok (.bipush 9, 2) := by decide +kernel
theorem dX5_readsItem_154 : decode cX5_readsItem 154 = .ok (.dup2, 1) := by decide +kernel
theorem dX5_readsItem_155 : decode cX5_readsItem 155 = .ok (.iaload, 1) := by decide +kernel
theorem dX5_readsItem_156 : decode cX5_readsItem 156 = .ok (.iconst 1, 1) := by decide +kernel
theorem dX5_readsItem_157 : decode cX5_readsItem 157 = .ok (.iadd, 1) := by decide +kernel
theorem dX5_readsItem_158 : decode cX5_readsItem 158 = .ok (.iastore, 1) := by decide +kernel
theorem dX5_readsItem_159 : decode cX5_readsItem 159 = .ok (.goto 54, 3) := by decide +kernel
theorem dX5_readsItem_162 : decode cX5_readsItem 162 = .ok (.iload_n 1, 1) := by decide +kernel
theorem dX5_readsItem_163 : decode cX5_readsItem 163 = .ok (.bipush 98, 2) := by decide +kernel
theorem dX5_readsItem_165 : decode cX5_readsItem 165 = .ok (.if_icmp .ne 29, 3) := by decide +kernel
theorem dX5_readsItem_168 : decode cX5_readsItem 168 = .ok (.aload_n 0, 1) := by decide +kernel
theorem dX5_readsItem_169 : decode cX5_readsItem 169 = .ok (.invokevirtual 100, 3) := by decide +kernel
theorem dX5_readsItem_172 : decode cX5_readsItem 172 = .ok (.aload_n 0, 1) := by decide +kernel
theorem dX5_readsItem_173 : decode cX5_readsItem 173 = .ok (.invokevirtual 77, 3) := by decide +kernel
theorem dX5_readsItem_176 : decode cX5_readsItem 176 = .ok (.ifCond .eq 37, 3) := by decide +kernel
theorem dX5_readsItem_179 : decode cX5_readsItem 179 = .ok (.aload_n 0, 1) := by decide +kernel
theorem dX5_readsItem_180 : decode cX5_readsItem 180 = .ok (.getfield 68, 3) := by decide +kernel
theorem dX5_readsItem_183 : decode cX5_readsItem 183 = .ok (.iconst 2, 1) := by decide +kernel
theorem dX5_readsItem_184 : decode cX5_readsItem 184 = .ok (.if_icmp .ne 29, 3) := by decide +kernel
theorem dX5_readsItem_187 : decode cX5_readsItem 187 = .ok (.aload_n 0, 1) := by decide +kernel
theorem dX5_readsItem_188 : decode cX5_readsItem 188 = .ok (.invokevirtual 100, 3) := by decide +kernel
theorem dX5_readsItem_191 : decode cX5_readsItem 191 = .ok (.goto (-19), 3) := by decide +kernel
theorem dX5_readsItem_194 : decode cX5_readsItem 194 = .ok (.aload_n 0, 1) := by decide +kernel
theorem dX5_readsItem_195 : decode cX5_readsItem 195 = .ok (.getfield 13, 3) := by decide +kernel
theorem dX5_readsItem_198 : decode cX5_readsItem 198 = .ok (.bipush 11, 2) := by decide +kernel
theorem dX5_readsItem_200 : decode cX5_readsItem 200 = .ok (.aload_n 0, 1) := by decide +kernel
theorem dX5_readsItem_201 : decode cX5_readsItem 201 = .ok (.iconst 1, 1) := by decide +kernel
theorem dX5_readsItem_202 : decode cX5_readsItem 202 = .ok (.bipush 6, 2) := by decide +kernel
theorem dX5_readsItem_204 : decode cX5_readsItem 204 = .ok (.invokevirtual 92, 3) := by decide +kernel
theorem dX5_readsItem_207 : decode cX5_readsItem 207 = .ok (.iastore, 1) := by decide +kernel
theorem dX5_readsItem_208 : decode cX5_readsItem 208 = .ok (.aload_n 0, 1) := by decide +kernel
theorem dX5_readsItem_209 : decode cX5_readsItem 209 = .ok (.iconst 1, 1) := by decide +kernel
theorem dX5_readsItem_210 : decode cX5_readsItem 210 = .ok (.putfield 88, 3) := by decide +kernel
theorem dX5_readsItem_213 : decode cX5_readsItem 213 = .ok (.return_, 1) := by decide +kernel
set_option maxRecDepth 20000 in
theorem kX5_readsItem_13 : Cond.fieldLink RX5 13 "WindPostModel" "many" "[I" ∈ wsX5_readsItem := by decide +kernel
set_option maxRecDepth 20000 in
theorem kX5_readsItem_16 : Cond.fieldLink RX5 16 "WindPostModel" "isles" "[I" ∈ wsX5_readsItem := by decide +kernel
set_option maxRecDepth 20000 in
theorem kX5_readsItem_19 : Cond.fieldLink RX5 19 "WindPostModel" "hills" "[I" ∈ wsX5_readsItem := by decide +kernel
set_option maxRecDepth 20000 in
theorem kX5_readsItem_68 : Cond.fieldLink RX5 68 "WindPostModel" "token" "I" ∈ wsX5_readsItem := by decide +kernel
set_option maxRecDepth 20000 in
theorem kX5_readsItem_71 : Cond.fieldLink RX5 71 "WindPostModel" "value" "I" ∈ wsX5_readsItem := by decide +kernel
set_option maxRecDepth 20000 in
theorem kX5_readsItem_88 : Cond.fieldLink RX5 88 "WindPostModel" "isForceTold" "Z" ∈ wsX5_readsItem := by decide +kernel
set_option maxRecDepth 20000 in
theorem uX5_readsItem_X5 : ∀ w ∈ wsX50, w ∈ wsX5_readsItem := by decide +kernel
set_option maxHeartbeats 8000000 in
set_option maxRecDepth 100000 in
theorem mX5_readsItem (l : Launch) (D : va_G) (ki : Nat → ClassId) (ad : Nat → Nat) (cs : List Nat) (hcs : kR cs) (N : Nat) (a1 : Int32) (G : zMem) (tr : Int64) : gMetV l D ki ad cs yX5_readsItem wsX5_readsItem { frames := 4, cells := 0, slots := 0, locals := 87 } [.ref (ad 0), .int a1] (mE ki ad) G tr (fX5_readsItem N a1 G tr) := by
  refine gMetV_of (cc := cX5_readsItem) (maxL := 2) (ret := none) (own := RX5) (by decide +kernel) rfl rfl (Nat.le_of_ble_eq_true rfl) ?_
  intro r9 G9 tr9 h p e s m below meth c S hr hlk K X ls hl
  have hl : lv_has ls 2 [(0, .ref (ad 0)), (1, .int a1)] := hl
  have b81 : ∀ (s0 : Int32) (s2 : Int32) (G : zMem) (tr : Int64), fX5_readsItem_b81 N a1 s0 s2 G tr = some (r9, G9, tr9) → zAt p l e (headSpec wsX5_readsItem { frames := 4, cells := 0, slots := 0, locals := 87 }).room s m ([.ref (ad 0), .int a1] : List Value).toArray below meth c 2 D cs ad (zQV below ([.ref (ad 0), .int a1] : List Value).toArray s D cs ad ((mE ki ad) G9 tr9)) 81 [(0, .ref (ad 0))] [.int s0, .ref (ad 0), .int s2, .ref (ad 3)] ((mE ki ad) G tr) := by
    intro s0 s2 G tr h H locs ls X hl
    unfold fX5_readsItem_b81 at h
    obtain ⟨r_2, G_3, tr_4, hf_1, h⟩ := zbd_some h
    refine zr_calli (Eg := (mE ki ad)) K X (va_runV (As := [.int s0]) (rest := [.int s2, .ref (ad 3)]) S (mX5_takes l D ki ad cs hcs N s0 G tr H.size _ _ _ hf_1) (cwV 1 S.2.2.2.2 gX5_readsItem_X5_takes rfl rfl rfl (by decide +kernel) ⟨Nat.le_of_ble_eq_true rfl, Nat.le_of_ble_eq_true rfl⟩) (zr_preV (c0 := 0) K X (hcs 0 (by decide)) mE_R rfl) rfl rfl hl.1 rfl (lv_room (Nat.le_of_ble_eq_true rfl)) dX5_readsItem_81 ⟨Nat.zero_le _, Nat.zero_le _⟩) (fun H locs X => ?_)
    obtain ⟨hi_5, h⟩ := zin_some h
    refine zr_iast S K X (hcs 3 (by decide)) mE_loc (fun _ => mE_3) hi_5 dX5_readsItem_84 (fun H locs X => ?_)
    refine lv_aload_n S.1 S.2.1 dX5_readsItem_85 rfl (lv_at hl 0 rfl) ?_
    refine zr_get (v := .ref (ad 2)) S K X (hcs 0 (by decide)) mE_R rfl uX5_readsItem_X5 9 (by decide) kX5_readsItem_13 rfl rfl dX5_readsItem_86 ?_
    refine lv_bipush (v := (8 : Int32)) S.1 S.2.1 dX5_readsItem_89 (by decide) ?_
    refine lv_dup2_11 S.1 S.2.1 dX5_readsItem_91 rfl rfl ?_
    obtain ⟨hi_6, h⟩ := zin_some h
    refine zr_iald S K X (hcs 2 (by decide)) mE_2 hi_6 dX5_readsItem_92 ?_
    refine lv_iconst (v := (1 : Int32)) S.1 S.2.1 dX5_readsItem_93 (by decide) ?_
    refine lv_iadd S.1 S.2.1 dX5_readsItem_94 ?_
    obtain ⟨hi_7, h⟩ := zin_some h
    refine zr_iast S K X (hcs 2 (by decide)) mE_loc (fun _ => mE_2) hi_7 dX5_readsItem_95 (fun H locs X => ?_)
    refine lv_goto (tgt := 213) S.1 S.2.1 dX5_readsItem_96 (by decide) ?_
    exact zr_vret S hr hlk X h dX5_readsItem_213
  have b80 : ∀ (s1 : Int32) (G : zMem) (tr : Int64), fX5_readsItem_b80 N a1 s1 G tr = some (r9, G9, tr9) → zAt p l e (headSpec wsX5_readsItem { frames := 4, cells := 0, slots := 0, locals := 87 }).room s m ([.ref (ad 0), .int a1] : List Value).toArray below meth c 2 D cs ad (zQV below ([.ref (ad 0), .int a1] : List Value).toArray s D cs ad ((mE ki ad) G9 tr9)) 80 [(0, .ref (ad 0))] [.ref (ad 0), .int s1, .ref (ad 3)] ((mE ki ad) G tr) := by
    intro s1 G tr h H locs ls X hl
    unfold fX5_readsItem_b80 at h
    refine lv_iconst (v := (0 : Int32)) S.1 S.2.1 dX5_readsItem_80 (by decide) ?_
    exact b81 (0 : Int32) s1 G tr h _ _ _ X (lv_sub hl [0] rfl)
  have b144 : ∀ (s0 : Int32) (s2 : Int32) (G : zMem) (tr : Int64), fX5_readsItem_b144 N a1 s0 s2 G tr = some (r9, G9, tr9) → zAt p l e (headSpec wsX5_readsItem { frames := 4, cells := 0, slots := 0, locals := 87 }).room s m ([.ref (ad 0), .int a1] : List Value).toArray below meth c 2 D cs ad (zQV below ([.ref (ad 0), .int a1] : List Value).toArray s D cs ad ((mE ki ad) G9 tr9)) 144 [(0, .ref (ad 0))] [.int s0, .ref (ad 0), .int s2, .ref (ad 4)] ((mE ki ad) G tr) := by
    intro s0 s2 G tr h H locs ls X hl
    unfold fX5_readsItem_b144 at h
    obtain ⟨r_2, G_3, tr_4, hf_1, h⟩ := zbd_some h
    refine zr_calli (Eg := (mE ki ad)) K X (va_runV (As := [.int s0]) (rest := [.int s2, .ref (ad 4)]) S (mX5_takes l D ki ad cs hcs N s0 G tr H.size _ _ _ hf_1) (cwV 1 S.2.2.2.2 gX5_readsItem_X5_takes rfl rfl rfl (by decide +kernel) ⟨Nat.le_of_ble_eq_true rfl, Nat.le_of_ble_eq_true rfl⟩) (zr_preV (c0 := 0) K X (hcs 0 (by decide)) mE_R rfl) rfl rfl hl.1 rfl (lv_room (Nat.le_of_ble_eq_true rfl)) dX5_readsItem_144 ⟨Nat.zero_le _, Nat.zero_le _⟩) (fun H locs X => ?_)
    obtain ⟨hi_5, h⟩ := zin_some h
    refine zr_iast S K X (hcs 4 (by decide)) mE_loc (fun _ => mE_4) hi_5 dX5_readsItem_147 (fun H locs X => ?_)
    refine lv_aload_n S.1 S.2.1 dX5_readsItem_148 rfl (lv_at hl 0 rfl) ?_
    refine zr_get (v := .ref (ad 2)) S K X (hcs 0 (by decide)) mE_R rfl uX5_readsItem_X5 9 (by decide) kX5_readsItem_13 rfl rfl dX5_readsItem_149 ?_
    refine lv_bipush (v := (9 : Int32)) S.1 S.2.1 dX5_readsItem_152 (by decide) ?_
    refine lv_dup2_11 S.1 S.2.1 dX5_readsItem_154 rfl rfl ?_
    obtain ⟨hi_6, h⟩ := zin_some h
    refine zr_iald S K X (hcs 2 (by decide)) mE_2 hi_6 dX5_readsItem_155 ?_
    refine lv_iconst (v := (1 : Int32)) S.1 S.2.1 dX5_readsItem_156 (by decide) ?_
    refine lv_iadd S.1 S.2.1 dX5_readsItem_157 ?_
    obtain ⟨hi_7, h⟩ := zin_some h
    refine zr_iast S K X (hcs 2 (by decide)) mE_loc (fun _ => mE_2) hi_7 dX5_readsItem_158 (fun H locs X => ?_)
    refine lv_goto (tgt := 213) S.1 S.2.1 dX5_readsItem_159 (by decide) ?_
    exact zr_vret S hr hlk X h dX5_readsItem_213
  have b143 : ∀ (s1 : Int32) (G : zMem) (tr : Int64), fX5_readsItem_b143 N a1 s1 G tr = some (r9, G9, tr9) → zAt p l e (headSpec wsX5_readsItem { frames := 4, cells := 0, slots := 0, locals := 87 }).room s m ([.ref (ad 0), .int a1] : List Value).toArray below meth c 2 D cs ad (zQV below ([.ref (ad 0), .int a1] : List Value).toArray s D cs ad ((mE ki ad) G9 tr9)) 143 [(0, .ref (ad 0))] [.ref (ad 0), .int s1, .ref (ad 4)] ((mE ki ad) G tr) := by
    intro s1 G tr h H locs ls X hl
    unfold fX5_readsItem_b143 at h
    refine lv_iconst (v := (0 : Int32)) S.1 S.2.1 dX5_readsItem_143 (by decide) ?_
    exact b144 (0 : Int32) s1 G tr h _ _ _ X (lv_sub hl [0] rfl)
  have b172 : ∀ (k172 : zMem → Int64 → zR) (hk172 : ∀ (G : zMem) (tr : Int64), k172 G tr = some (r9, G9, tr9) → zAt p l e (headSpec wsX5_readsItem { frames := 4, cells := 0, slots := 0, locals := 87 }).room s m ([.ref (ad 0), .int a1] : List Value).toArray below meth c 2 D cs ad (zQV below ([.ref (ad 0), .int a1] : List Value).toArray s D cs ad ((mE ki ad) G9 tr9)) 172 [(0, .ref (ad 0))] [] ((mE ki ad) G tr)) (G : zMem) (tr : Int64), fX5_readsItem_b172 N a1 k172 G tr = some (r9, G9, tr9) → zAt p l e (headSpec wsX5_readsItem { frames := 4, cells := 0, slots := 0, locals := 87 }).room s m ([.ref (ad 0), .int a1] : List Value).toArray below meth c 2 D cs ad (zQV below ([.ref (ad 0), .int a1] : List Value).toArray s D cs ad ((mE ki ad) G9 tr9)) 172 [(0, .ref (ad 0))] [] ((mE ki ad) G tr) := by
    intro k172 hk172 G tr h H locs ls X hl
    unfold fX5_readsItem_b172 at h
    refine lv_aload_n S.1 S.2.1 dX5_readsItem_172 rfl (lv_at hl 0 rfl) ?_
    obtain ⟨r_2, G_3, tr_4, hf_1, h⟩ := zbd_some h
    refine zr_calli (Eg := (mE ki ad)) K X (va_runV (As := []) (rest := []) S (mX5_isWell l D ki ad cs hcs N G tr H.size _ _ _ hf_1) (cwV 0 S.2.2.2.2 gX5_readsItem_X5_isWell rfl rfl rfl (by decide +kernel) ⟨Nat.le_of_ble_eq_true rfl, Nat.le_of_ble_eq_true rfl⟩) (zr_preV (c0 := 0) K X (hcs 0 (by decide)) mE_R rfl) rfl rfl hl.1 rfl (lv_room (Nat.le_of_ble_eq_true rfl)) dX5_readsItem_173 ⟨Nat.zero_le _, Nat.zero_le _⟩) (fun H locs X => ?_)
    refine lv_if_eq (tgt := 213) S.1 S.2.1 dX5_readsItem_176 (by decide) (fun hc_5 => ?_) (fun hc_5 => ?_)
    · have h := zif_pos hc_5 h
      exact zr_vret S hr hlk X h dX5_readsItem_213
    · have h := zif_neg hc_5 h
      refine lv_aload_n S.1 S.2.1 dX5_readsItem_179 rfl (lv_at hl 0 rfl) ?_
      refine zr_get (v := .int (G_3 0 5)) S K X (hcs 0 (by decide)) mE_R rfl uX5_readsItem_X5 5 (by decide) kX5_readsItem_68 rfl rfl dX5_readsItem_180 ?_
      refine lv_iconst (v := (2 : Int32)) S.1 S.2.1 dX5_readsItem_183 (by decide) ?_
      refine lv_icmp_ne (tgt := 213) S.1 S.2.1 dX5_readsItem_184 (by decide) (fun hc_6 => ?_) (fun hc_6 => ?_)
      · have h := zif_neg hc_6 h
        exact zr_vret S hr hlk X h dX5_readsItem_213
      · have h := zif_pos hc_6 h
        refine lv_aload_n S.1 S.2.1 dX5_readsItem_187 rfl (lv_at hl 0 rfl) ?_
        obtain ⟨r_8, G_9, tr_10, hf_7, h⟩ := zbd_some h
        refine zr_callv (Eg := (mE ki ad)) K X (va_runV (As := []) (rest := []) S (mX5_readsWind l D ki ad cs hcs N G_3 tr_4 H.size _ _ _ hf_7) (cwV 0 S.2.2.2.2 gX5_readsItem_X5_readsWind rfl rfl rfl (by decide +kernel) ⟨Nat.le_of_ble_eq_true rfl, Nat.le_of_ble_eq_true rfl⟩) (zr_preV (c0 := 0) K X (hcs 0 (by decide)) mE_R rfl) rfl rfl hl.1 rfl (lv_room (Nat.le_of_ble_eq_true rfl)) dX5_readsItem_188 ⟨Nat.zero_le _, Nat.zero_le _⟩) (fun H locs X => ?_)
        refine lv_goto (tgt := 172) S.1 S.2.1 dX5_readsItem_191 (by decide) ?_
        exact hk172 G_9 tr_10 h _ _ _ X (lv_sub hl [0] rfl)
  have L172 : ∀ (n : Nat) (G : zMem) (tr : Int64), fX5_readsItem_L172 N a1 n G tr = some (r9, G9, tr9) → zAt p l e (headSpec wsX5_readsItem { frames := 4, cells := 0, slots := 0, locals := 87 }).room s m ([.ref (ad 0), .int a1] : List Value).toArray below meth c 2 D cs ad (zQV below ([.ref (ad 0), .int a1] : List Value).toArray s D cs ad ((mE ki ad) G9 tr9)) 172 [(0, .ref (ad 0))] [] ((mE ki ad) G tr) := by
    intro n
    induction n with
    | zero => intro G tr h; cases h
    | succ n ih => intro G tr h; exact b172 (fX5_readsItem_L172 N a1 n) ih G tr h
  unfold fX5_readsItem at h
  obtain ⟨H, hH⟩ : ∃ H, H = s.heap := ⟨_, rfl⟩
  obtain ⟨locs, hlo⟩ : ∃ locs : List Loc, locs = [] := ⟨_, rfl⟩
  have X : gS D cs ad ((mE ki ad) G tr) (gA cs ad s.heap.size) s H locs := by rw [hH, hlo]; exact X
  suffices z : W p l e (headSpec wsX5_readsItem { frames := 4, cells := 0, slots := 0, locals := 87 }).room s m ([.ref (ad 0), .int a1] : List Value).toArray below meth c H locs 0 0 (zQV below ([.ref (ad 0), .int a1] : List Value).toArray s D cs ad ((mE ki ad) G9 tr9)) (F0 m 0 ls []) by rw [hH, hlo] at z; exact z
  clear hH hlo
  refine lv_iload_n S.1 S.2.1 dX5_readsItem_0 rfl (lv_at hl 1 rfl) ?_
  refine lv_bipush (v := (103 : Int32)) S.1 S.2.1 dX5_readsItem_1 (by decide) ?_
  refine lv_icmp_ne (tgt := 36) S.1 S.2.1 dX5_readsItem_3 (by decide) (fun hc_1 => ?_) (fun hc_1 => ?_)
  · have h := zif_neg hc_1 h
    refine lv_iload_n S.1 S.2.1 dX5_readsItem_36 rfl (lv_at hl 1 rfl) ?_
    refine lv_bipush (v := (105 : Int32)) S.1 S.2.1 dX5_readsItem_37 (by decide) ?_
    refine lv_icmp_ne (tgt := 99) S.1 S.2.1 dX5_readsItem_39 (by decide) (fun hc_2 => ?_) (fun hc_2 => ?_)
    · have h := zif_neg hc_2 h
      refine lv_iload_n S.1 S.2.1 dX5_readsItem_99 rfl (lv_at hl 1 rfl) ?_
      refine lv_bipush (v := (120 : Int32)) S.1 S.2.1 dX5_readsItem_100 (by decide) ?_
      refine lv_icmp_ne (tgt := 162) S.1 S.2.1 dX5_readsItem_102 (by decide) (fun hc_3 => ?_) (fun hc_3 => ?_)
      · have h := zif_neg hc_3 h
        refine lv_iload_n S.1 S.2.1 dX5_readsItem_162 rfl (lv_at hl 1 rfl) ?_
        refine lv_bipush (v := (98 : Int32)) S.1 S.2.1 dX5_readsItem_163 (by decide) ?_
        refine lv_icmp_ne (tgt := 194) S.1 S.2.1 dX5_readsItem_165 (by decide) (fun hc_4 => ?_) (fun hc_4 => ?_)
        · have h := zif_neg hc_4 h
          refine lv_aload_n S.1 S.2.1 dX5_readsItem_194 rfl (lv_at hl 0 rfl) ?_
          refine zr_get (v := .ref (ad 2)) S K X (hcs 0 (by decide)) mE_R rfl uX5_readsItem_X5 9 (by decide) kX5_readsItem_13 rfl rfl dX5_readsItem_195 ?_
          refine lv_bipush (v := (11 : Int32)) S.1 S.2.1 dX5_readsItem_198 (by decide) ?_
          refine lv_aload_n S.1 S.2.1 dX5_readsItem_200 rfl (lv_at hl 0 rfl) ?_
          refine lv_iconst (v := (1 : Int32)) S.1 S.2.1 dX5_readsItem_201 (by decide) ?_
          refine lv_bipush (v := (6 : Int32)) S.1 S.2.1 dX5_readsItem_202 (by decide) ?_
          obtain ⟨r_6, G_7, tr_8, hf_5, h⟩ := zbd_some h
          refine zr_calli (Eg := (mE ki ad)) K X (va_runV (As := [.int (1 : Int32), .int (6 : Int32)]) (rest := [.int (11 : Int32), .ref (ad 2)]) S (mX5_number l D ki ad cs hcs N (1 : Int32) (6 : Int32) G tr H.size _ _ _ hf_5) (cwV 2 S.2.2.2.2 gX5_readsItem_X5_number rfl rfl rfl (by decide +kernel) ⟨Nat.le_of_ble_eq_true rfl, Nat.le_of_ble_eq_true rfl⟩) (zr_preV (c0 := 0) K X (hcs 0 (by decide)) mE_R rfl) rfl rfl hl.1 rfl (lv_room (Nat.le_of_ble_eq_true rfl)) dX5_readsItem_204 ⟨Nat.zero_le _, Nat.zero_le _⟩) (fun H locs X => ?_)
          obtain ⟨hi_9, h⟩ := zin_some h
          refine zr_iast S K X (hcs 2 (by decide)) mE_loc (fun _ => mE_2) hi_9 dX5_readsItem_207 (fun H locs X => ?_)
          refine lv_aload_n S.1 S.2.1 dX5_readsItem_208 rfl (lv_at hl 0 rfl) ?_
          refine lv_iconst (v := (1 : Int32)) S.1 S.2.1 dX5_readsItem_209 (by decide) ?_
          obtain ⟨hz_10, h⟩ := zbo_some h
          refine zr_put (xv := (1 : Int32)) (v := .int (1 : Int32)) (fsf := (fsR ad tr_8)) (ty := .boolean) S K X (hcs 0 (by decide)) mE_loc (fun _ => mE_R) rfl uX5_readsItem_X5 tyX5 tyX5_ok nmX5 13 (by decide) kX5_readsItem_88 rfl (by decide +kernel) (zbo_nar hz_10) rfl (by simp) rfl dX5_readsItem_210 (fun H locs X => ?_)
          exact zr_vret S hr hlk X h dX5_readsItem_213
        · have h := zif_pos hc_4 h
          refine lv_aload_n S.1 S.2.1 dX5_readsItem_168 rfl (lv_at hl 0 rfl) ?_
          obtain ⟨r_12, G_13, tr_14, hf_11, h⟩ := zbd_some h
          refine zr_callv (Eg := (mE ki ad)) K X (va_runV (As := []) (rest := []) S (mX5_readsWind l D ki ad cs hcs N G tr H.size _ _ _ hf_11) (cwV 0 S.2.2.2.2 gX5_readsItem_X5_readsWind rfl rfl rfl (by decide +kernel) ⟨Nat.le_of_ble_eq_true rfl, Nat.le_of_ble_eq_true rfl⟩) (zr_preV (c0 := 0) K X (hcs 0 (by decide)) mE_R rfl) rfl rfl hl.1 rfl (lv_room (Nat.le_of_ble_eq_true rfl)) dX5_readsItem_169 ⟨Nat.zero_le _, Nat.zero_le _⟩) (fun H locs X => ?_)
          exact L172 N G_13 tr_14 h _ _ _ X (lv_sub hl [0] rfl)
      · have h := zif_pos hc_3 h
        refine lv_aload_n S.1 S.2.1 dX5_readsItem_105 rfl (lv_at hl 0 rfl) ?_
        refine zr_get (v := .ref (ad 4)) S K X (hcs 0 (by decide)) mE_R rfl uX5_readsItem_X5 11 (by decide) kX5_readsItem_19 rfl rfl dX5_readsItem_106 ?_
        refine lv_bipush (v := (6 : Int32)) S.1 S.2.1 dX5_readsItem_109 (by decide) ?_
        refine lv_aload_n S.1 S.2.1 dX5_readsItem_111 rfl (lv_at hl 0 rfl) ?_
        refine zr_get (v := .ref (ad 2)) S K X (hcs 0 (by decide)) mE_R rfl uX5_readsItem_X5 9 (by decide) kX5_readsItem_13 rfl rfl dX5_readsItem_112 ?_
        refine lv_bipush (v := (9 : Int32)) S.1 S.2.1 dX5_readsItem_115 (by decide) ?_
        obtain ⟨hi_15, h⟩ := zin_some h
        refine zr_iald S K X (hcs 2 (by decide)) mE_2 hi_15 dX5_readsItem_117 ?_
        refine lv_iadd S.1 S.2.1 dX5_readsItem_118 ?_
        refine lv_aload_n S.1 S.2.1 dX5_readsItem_119 rfl (lv_at hl 0 rfl) ?_
        refine lv_aload_n S.1 S.2.1 dX5_readsItem_120 rfl (lv_at hl 0 rfl) ?_
        refine zr_get (v := .int (G 0 5)) S K X (hcs 0 (by decide)) mE_R rfl uX5_readsItem_X5 5 (by decide) kX5_readsItem_68 rfl rfl dX5_readsItem_121 ?_
        refine lv_iconst (v := (2 : Int32)) S.1 S.2.1 dX5_readsItem_124 (by decide) ?_
        refine lv_icmp_ne (tgt := 143) S.1 S.2.1 dX5_readsItem_125 (by decide) (fun hc_16 => ?_) (fun hc_16 => ?_)
        · have h := zif_neg hc_16 h
          exact b143 ((6 : Int32) + (G 2 (Int32.toNatClampNeg (9 : Int32)))) G tr h _ _ _ X (lv_sub hl [0] rfl)
        · have h := zif_pos hc_16 h
          refine lv_aload_n S.1 S.2.1 dX5_readsItem_128 rfl (lv_at hl 0 rfl) ?_
          refine lv_aload_n S.1 S.2.1 dX5_readsItem_129 rfl (lv_at hl 0 rfl) ?_
          refine zr_get (v := .int (G 0 7)) S K X (hcs 0 (by decide)) mE_R rfl uX5_readsItem_X5 7 (by decide) kX5_readsItem_71 rfl rfl dX5_readsItem_130 ?_
          obtain ⟨r_18, G_19, tr_20, hf_17, h⟩ := zbd_some h
          refine zr_calli (Eg := (mE ki ad)) K X (va_runV (As := [.int (G 0 7)]) (rest := [.ref (ad 0), .int ((6 : Int32) + (G 2 (Int32.toNatClampNeg (9 : Int32)))), .ref (ad 4)]) S (mX5_isFree l D ki ad cs hcs N (G 0 7) G tr H.size _ _ _ hf_17) (cwV 1 S.2.2.2.2 gX5_readsItem_X5_isFree rfl rfl rfl (by decide +kernel) ⟨Nat.le_of_ble_eq_true rfl, Nat.le_of_ble_eq_true rfl⟩) (zr_preV (c0 := 0) K X (hcs 0 (by decide)) mE_R rfl) rfl rfl hl.1 rfl (lv_room (Nat.le_of_ble_eq_true rfl)) dX5_readsItem_133 ⟨Nat.zero_le _, Nat.zero_le _⟩) (fun H locs X => ?_)
          refine lv_if_eq (tgt := 143) S.1 S.2.1 dX5_readsItem_136 (by decide) (fun hc_21 => ?_) (fun hc_21 => ?_)
          · have h := zif_pos hc_21 h
            exact b143 ((6 : Int32) + (G 2 (Int32.toNatClampNeg (9 : Int32)))) G_19 tr_20 h _ _ _ X (lv_sub hl [0] rfl)
          · have h := zif_neg hc_21 h
            refine lv_iconst (v := (1 : Int32)) S.1 S.2.1 dX5_readsItem_139 (by decide) ?_
            refine lv_goto (tgt := 144) S.1 S.2.1 dX5_readsItem_140 (by decide) ?_
            exact b144 (1 : Int32) ((6 : Int32) + (G 2 (Int32.toNatClampNeg (9 : Int32)))) G_19 tr_20 h _ _ _ X (lv_sub hl [0] rfl)
    · have h := zif_pos hc_2 h
      refine lv_aload_n S.1 S.2.1 dX5_readsItem_42 rfl (lv_at hl 0 rfl) ?_
      refine zr_get (v := .ref (ad 3)) S K X (hcs 0 (by decide)) mE_R rfl uX5_readsItem_X5 10 (by decide) kX5_readsItem_16 rfl rfl dX5_readsItem_43 ?_
      refine lv_bipush (v := (6 : Int32)) S.1 S.2.1 dX5_readsItem_46 (by decide) ?_
      refine lv_aload_n S.1 S.2.1 dX5_readsItem_48 rfl (lv_at hl 0 rfl) ?_
      refine zr_get (v := .ref (ad 2)) S K X (hcs 0 (by decide)) mE_R rfl uX5_readsItem_X5 9 (by decide) kX5_readsItem_13 rfl rfl dX5_readsItem_49 ?_
      refine lv_bipush (v := (8 : Int32)) S.1 S.2.1 dX5_readsItem_52 (by decide) ?_
      obtain ⟨hi_22, h⟩ := zin_some h
      refine zr_iald S K X (hcs 2 (by decide)) mE_2 hi_22 dX5_readsItem_54 ?_
      refine lv_iadd S.1 S.2.1 dX5_readsItem_55 ?_
      refine lv_aload_n S.1 S.2.1 dX5_readsItem_56 rfl (lv_at hl 0 rfl) ?_
      refine lv_aload_n S.1 S.2.1 dX5_readsItem_57 rfl (lv_at hl 0 rfl) ?_
      refine zr_get (v := .int (G 0 5)) S K X (hcs 0 (by decide)) mE_R rfl uX5_readsItem_X5 5 (by decide) kX5_readsItem_68 rfl rfl dX5_readsItem_58 ?_
      refine lv_iconst (v := (2 : Int32)) S.1 S.2.1 dX5_readsItem_61 (by decide) ?_
      refine lv_icmp_ne (tgt := 80) S.1 S.2.1 dX5_readsItem_62 (by decide) (fun hc_23 => ?_) (fun hc_23 => ?_)
      · have h := zif_neg hc_23 h
        exact b80 ((6 : Int32) + (G 2 (Int32.toNatClampNeg (8 : Int32)))) G tr h _ _ _ X (lv_sub hl [0] rfl)
      · have h := zif_pos hc_23 h
        refine lv_aload_n S.1 S.2.1 dX5_readsItem_65 rfl (lv_at hl 0 rfl) ?_
        refine lv_aload_n S.1 S.2.1 dX5_readsItem_66 rfl (lv_at hl 0 rfl) ?_
        refine zr_get (v := .int (G 0 7)) S K X (hcs 0 (by decide)) mE_R rfl uX5_readsItem_X5 7 (by decide) kX5_readsItem_71 rfl rfl dX5_readsItem_67 ?_
        obtain ⟨r_25, G_26, tr_27, hf_24, h⟩ := zbd_some h
        refine zr_calli (Eg := (mE ki ad)) K X (va_runV (As := [.int (G 0 7)]) (rest := [.ref (ad 0), .int ((6 : Int32) + (G 2 (Int32.toNatClampNeg (8 : Int32)))), .ref (ad 3)]) S (mX5_isFree l D ki ad cs hcs N (G 0 7) G tr H.size _ _ _ hf_24) (cwV 1 S.2.2.2.2 gX5_readsItem_X5_isFree rfl rfl rfl (by decide +kernel) ⟨Nat.le_of_ble_eq_true rfl, Nat.le_of_ble_eq_true rfl⟩) (zr_preV (c0 := 0) K X (hcs 0 (by decide)) mE_R rfl) rfl rfl hl.1 rfl (lv_room (Nat.le_of_ble_eq_true rfl)) dX5_readsItem_70 ⟨Nat.zero_le _, Nat.zero_le _⟩) (fun H locs X => ?_)
        refine lv_if_eq (tgt := 80) S.1 S.2.1 dX5_readsItem_73 (by decide) (fun hc_28 => ?_) (fun hc_28 => ?_)
        · have h := zif_pos hc_28 h
          exact b80 ((6 : Int32) + (G 2 (Int32.toNatClampNeg (8 : Int32)))) G_26 tr_27 h _ _ _ X (lv_sub hl [0] rfl)
        · have h := zif_neg hc_28 h
          refine lv_iconst (v := (1 : Int32)) S.1 S.2.1 dX5_readsItem_76 (by decide) ?_
          refine lv_goto (tgt := 81) S.1 S.2.1 dX5_readsItem_77 (by decide) ?_
          exact b81 (1 : Int32) ((6 : Int32) + (G 2 (Int32.toNatClampNeg (8 : Int32)))) G_26 tr_27 h _ _ _ X (lv_sub hl [0] rfl)
  · have h := zif_pos hc_1 h
    refine lv_aload_n S.1 S.2.1 dX5_readsItem_6 rfl (lv_at hl 0 rfl) ?_
    refine zr_get (v := .ref (ad 2)) S K X (hcs 0 (by decide)) mE_R rfl uX5_readsItem_X5 9 (by decide) kX5_readsItem_13 rfl rfl dX5_readsItem_7 ?_
    refine lv_bipush (v := (6 : Int32)) S.1 S.2.1 dX5_readsItem_10 (by decide) ?_
    refine lv_aload_n S.1 S.2.1 dX5_readsItem_12 rfl (lv_at hl 0 rfl) ?_
    refine lv_iconst (v := (2 : Int32)) S.1 S.2.1 dX5_readsItem_13 (by decide) ?_
    refine lv_bipush (v := (6 : Int32)) S.1 S.2.1 dX5_readsItem_14 (by decide) ?_
    obtain ⟨r_30, G_31, tr_32, hf_29, h⟩ := zbd_some h
    refine zr_calli (Eg := (mE ki ad)) K X (va_runV (As := [.int (2 : Int32), .int (6 : Int32)]) (rest := [.int (6 : Int32), .ref (ad 2)]) S (mX5_number l D ki ad cs hcs N (2 : Int32) (6 : Int32) G tr H.size _ _ _ hf_29) (cwV 2 S.2.2.2.2 gX5_readsItem_X5_number rfl rfl rfl (by decide +kernel) ⟨Nat.le_of_ble_eq_true rfl, Nat.le_of_ble_eq_true rfl⟩) (zr_preV (c0 := 0) K X (hcs 0 (by decide)) mE_R rfl) rfl rfl hl.1 rfl (lv_room (Nat.le_of_ble_eq_true rfl)) dX5_readsItem_16 ⟨Nat.zero_le _, Nat.zero_le _⟩) (fun H locs X => ?_)
    obtain ⟨hi_33, h⟩ := zin_some h
    refine zr_iast S K X (hcs 2 (by decide)) mE_loc (fun _ => mE_2) hi_33 dX5_readsItem_19 (fun H locs X => ?_)
    refine lv_aload_n S.1 S.2.1 dX5_readsItem_20 rfl (lv_at hl 0 rfl) ?_
    refine zr_get (v := .ref (ad 2)) S K X (hcs 0 (by decide)) mE_R rfl uX5_readsItem_X5 9 (by decide) kX5_readsItem_13 rfl rfl dX5_readsItem_21 ?_
    refine lv_bipush (v := (7 : Int32)) S.1 S.2.1 dX5_readsItem_24 (by decide) ?_
    refine lv_aload_n S.1 S.2.1 dX5_readsItem_26 rfl (lv_at hl 0 rfl) ?_
    refine lv_iconst (v := (2 : Int32)) S.1 S.2.1 dX5_readsItem_27 (by decide) ?_
    refine lv_iconst (v := (5 : Int32)) S.1 S.2.1 dX5_readsItem_28 (by decide) ?_
    obtain ⟨r_35, G_36, tr_37, hf_34, h⟩ := zbd_some h
    refine zr_calli (Eg := (mE ki ad)) K X (va_runV (As := [.int (2 : Int32), .int (5 : Int32)]) (rest := [.int (7 : Int32), .ref (ad 2)]) S (mX5_number l D ki ad cs hcs N (2 : Int32) (5 : Int32) (up2 G_31 2 (Int32.toNatClampNeg (6 : Int32)) r_30) tr_32 H.size _ _ _ hf_34) (cwV 2 S.2.2.2.2 gX5_readsItem_X5_number rfl rfl rfl (by decide +kernel) ⟨Nat.le_of_ble_eq_true rfl, Nat.le_of_ble_eq_true rfl⟩) (zr_preV (c0 := 0) K X (hcs 0 (by decide)) mE_R rfl) rfl rfl hl.1 rfl (lv_room (Nat.le_of_ble_eq_true rfl)) dX5_readsItem_29 ⟨Nat.zero_le _, Nat.zero_le _⟩) (fun H locs X => ?_)
    obtain ⟨hi_38, h⟩ := zin_some h
    refine zr_iast S K X (hcs 2 (by decide)) mE_loc (fun _ => mE_2) hi_38 dX5_readsItem_32 (fun H locs X => ?_)
    refine lv_goto (tgt := 213) S.1 S.2.1 dX5_readsItem_33 (by decide) ?_
    exact zr_vret S hr hlk X h dX5_readsItem_213
theorem dX5_settles_0 : decode cX5_settles 0 = .ok (.iconst 0, 1) := by decide +kernel
theorem dX5_settles_1 : decode cX5_settles 1 = .ok (.istore_n 1, 1) := by decide +kernel
theorem dX5_settles_2 : decode cX5_settles 2 = .ok (.iload_n 1, 1) := by decide +kernel
theorem dX5_settles_3 : decode cX5_settles 3 = .ok (.bipush 6, 2) := by decide +kernel
theorem dX5_settles_5 : decode cX5_settles 5 = .ok (.if_icmp .ge 54, 3) := by decide +kernel
theorem dX5_settles_8 : decode cX5_settles 8 = .ok (.aload_n 0, 1) := by decide +kernel
theorem dX5_settles_9 : decode cX5_settles 9 = .ok (.getfield 13, 3) := by decide +kernel
theorem dX5_settles_12 : decode cX5_settles 12 = .ok (.iload_n 1, 1) := by decide +kernel
theorem dX5_settles_13 : decode cX5_settles 13 = .ok (.aload_n 0, 1) := by decide +kernel
theorem dX5_settles_14 : decode cX5_settles 14 = .ok (.getfield 13, 3) := by decide +kernel
theorem dX5_settles_17 : decode cX5_settles 17 = .ok (.bipush 6, 2) := by decide +kernel
theorem dX5_settles_19 : decode cX5_settles 19 = .ok (.iload_n 1, 1) := by decide +kernel
theorem dX5_settles_20 : decode cX5_settles 20 = .ok (.iadd, 1) := by decide +kernel
theorem dX5_settles_21 : decode cX5_settles 21 = .ok (.iaload, 1) := by decide +kernel
theorem dX5_settles_22 : decode cX5_settles 22 = .ok (.iastore, 1) := by decide +kernel
theorem dX5_settles_23 : decode cX5_settles 23 = .ok (.aload_n 0, 1) := by decide +kernel
theorem dX5_settles_24 : decode cX5_settles 24 = .ok (.getfield 16, 3) := by decide +kernel
theorem dX5_settles_27 : decode cX5_settles 27 = .ok (.iload_n 1, 1) := by decide +kernel
theorem dX5_settles_28 : decode cX5_settles 28 = .ok (.aload_n 0, 1) := by decide +kernel
theorem dX5_settles_29 : decode cX5_settles 29 = .ok (.getfield 16, 3) := by decide +kernel
theorem dX5_settles_32 : decode cX5_settles 32 = .ok (.bipush 6, 2) := by decide +kernel
theorem dX5_settles_34 : decode cX5_settles 34 = .ok (.iload_n 1, 1) := by decide +kernel
theorem dX5_settles_35 : decode cX5_settles 35 = .ok (.iadd, 1) := by decide +kernel
theorem dX5_settles_36 : decode cX5_settles 36 = .ok (.iaload, 1) := by decide +kernel
theorem dX5_settles_37 : decode cX5_settles 37 = .ok (.iastore, 1) := by decide +kernel
theorem dX5_settles_38 : decode cX5_settles 38 = .ok (.aload_n 0, 1) := by decide +kernel
theorem dX5_settles_39 : decode cX5_settles 39 = .ok (.getfield 19, 3) := by decide +kernel
theorem dX5_settles_42 : decode cX5_settles 42 = .ok (.iload_n 1, 1) := by decide +kernel
theorem dX5_settles_43 : decode cX5_settles 43 = .ok (.aload_n 0, 1) := by decide +kernel
theorem dX5_settles_44 : decode cX5_settles 44 = .ok (.getfield 19, 3) := by decide +kernel
theorem dX5_settles_47 : decode cX5_settles 47 = .ok (.bipush 6, 2) := by decide +kernel
theorem dX5_settles_49 : decode cX5_settles 49 = .ok (.iload_n 1, 1) := by decide +kernel
theorem dX5_settles_50 : decode cX5_settles 50 = .ok (.iadd, 1) := by decide +kernel
theorem dX5_settles_51 : decode cX5_settles 51 = .ok (.iaload, 1) := by decide +kernel
theorem dX5_settles_52 : decode cX5_settles 52 = .ok (.iastore, 1) := by decide +kernel
theorem dX5_settles_53 : decode cX5_settles 53 = .ok (.iinc 1 1, 3) := by decide +kernel
theorem dX5_settles_56 : decode cX5_settles 56 = .ok (.goto (-54), 3) := by decide +kernel
theorem dX5_settles_59 : decode cX5_settles 59 = .ok (.iconst 0, 1) := by decide +kernel
theorem dX5_settles_60 : decode cX5_settles 60 = .ok (.istore_n 1, 1) := by decide +kernel
theorem dX5_settles_61 : decode cX5_settles 61 = .ok (.iload_n 1, 1) := by decide +kernel
theorem dX5_settles_62 : decode cX5_settles 62 = .ok (.bipush 45, 2) := by decide +kernel
theorem dX5_settles_64 : decode cX5_settles 64 = .ok (.if_icmp .ge 16, 3) := by decide +kernel
theorem dX5_settles_67 : decode cX5_settles 67 = .ok (.aload_n 0, 1) := by decide +kernel
theorem dX5_settles_68 : decode cX5_settles 68 = .ok (.getfield 25, 3) := by decide +kernel
theorem dX5_settles_71 : decode cX5_settles 71 = .ok (.iload_n 1, 1) := by decide +kernel
theorem dX5_settles_72 : decode cX5_settles 72 = .ok (.iconst 0, 1) := by decide +kernel
theorem dX5_settles_73 : decode cX5_settles 73 = .ok (.iastore, 1) := by decide +kernel
theorem dX5_settles_74 : decode cX5_settles 74 = .ok (.iinc 1 1, 3) := by decide +kernel
theorem dX5_settles_77 : decode cX5_settles 77 = .ok (.goto (-16), 3) := by decide +kernel
theorem dX5_settles_80 : decode cX5_settles 80 = .ok (.iconst 0, 1) := by decide +kernel
theorem dX5_settles_81 : decode cX5_settles 81 = .ok (.istore_n 1, 1) := by decide +kernel
theorem dX5_settles_82 : decode cX5_settles 82 = .ok (.iload_n 1, 1) := by decide +kernel
theorem dX5_settles_83 : decode cX5_settles 83 = .ok (.aload_n 0, 1) := by decide +kernel
theorem dX5_settles_84 : decode cX5_settles 84 = .ok (.getfield 13, 3) := by decide +kernel
theorem dX5_settles_87 : decode cX5_settles 87 = .ok (.iconst 4, 1) := by decide +kernel
theorem dX5_settles_88 : decode cX5_settles 88 = .ok (.iaload, 1) := by decide +kernel
theorem dX5_settles_89 : decode cX5_settles 89 = .ok (.if_icmp .ge 23, 3) := by decide +kernel
theorem dX5_settles_92 : decode cX5_settles 92 = .ok (.aload_n 0, 1) := by decide +kernel
theorem dX5_settles_93 : decode cX5_settles 93 = .ok (.getfield 25, 3) := by decide +kernel
theorem dX5_settles_96 : decode cX5_settles 96 = .ok (.iconst 3, 1) := by decide +kernel
theorem dX5_settles_97 : decode cX5_settles 97 = .ok (.iload_n 1, 1) := by decide +kernel
theorem dX5_settles_98 : decode cX5_settles 98 = .ok (.iadd, 1) := by decide +kernel
theorem dX5_settles_99 : decode cX5_settles 99 = .ok (.aload_n 0, 1) := by decide +kernel
theorem dX5_settles_100 : decode cX5_settles 100 = .ok (.getfield 22, 3) := by decide +kernel
theorem dX5_settles_103 : decode cX5_settles 103 = .ok (.iload_n 1, 1) := by decide +kernel
theorem dX5_settles_104 : decode cX5_settles 104 = .ok (.iaload, 1) := by decide +kernel
theorem dX5_settles_105 : decode cX5_settles 105 = .ok (.iastore, 1) := by decide +kernel
theorem dX5_settles_106 : decode cX5_settles 106 = .ok (.iinc 1 1, 3) := by decide +kernel
theorem dX5_settles_109 : decode cX5_settles 109 = .ok (.goto (-27), 3) := by decide +kernel
theorem dX5_settles_112 : decode cX5_settles 112 = .ok (.aload_n 0, 1) := by decide +kernel
theorem dX5_settles_113 : decode cX5_settles 113 = .ok (.iconst 0, 1) := by decide +kernel
theorem dX5_settles_114 : decode cX5_settles 114 = .ok (.putfield 55, 3) := by decide +kernel
theorem dX5_settles_117 : decode cX5_settles 117 = .ok (.aload_n 0, 1) := by decide +kernel
theorem dX5_settles_118 : decode cX5_settles 118 = .ok (.iconst 0, 1) := by decide +kernel
theorem dX5_settles_119 : decode cX5_settles 119 = .ok (.putfield 113, 3) := by decide +kernel
theorem dX5_settles_122 : decode cX5_settles 122 = .ok (.aload_n 0, 1) := by decide +kernel
theorem dX5_settles_123 : decode cX5_settles 123 = .ok (.getfield 31, 3) := by decide +kernel
theorem dX5_settles_126 : decode cX5_settles 126 = .ok (.iconst 0, 1) := by decide +kernel
theorem dX5_settles_127 : decode cX5_settles 127 = .ok (.iconst 0, 1) := by decide +kernel
theorem dX5_settles_128 : decode cX5_settles 128 = .ok (.bastore, 1) := by decide +kernel
theorem dX5_settles_129 : decode cX5_settles 129 = .ok (.aload_n 0, 1) := by decide +kernel
theorem dX5_settles_130 : decode cX5_settles 130 = .ok (.getfield 31, 3) := by decide +kernel
theorem dX5_settles_133 : decode cX5_settles 133 = .ok (.iconst 1, 1) := by decide +kernel
theorem dX5_settles_134 : decode cX5_settles 134 = .ok (.iconst 0, 1) := by decide +kernel
theorem dX5_settles_135 : decode cX5_settles 135 = .ok (.bastore, 1) := by decide +kernel
theorem dX5_settles_136 : decode cX5_settles 136 = .ok (.return_, 1) := by decide +kernel
set_option maxRecDepth 20000 in
theorem kX5_settles_13 : Cond.fieldLink RX5 13 "WindPostModel" "many" "[I" ∈ wsX5_settles := by decide +kernel
set_option maxRecDepth 20000 in
theorem kX5_settles_16 : Cond.fieldLink RX5 16 "WindPostModel" "isles" "[I" ∈ wsX5_settles := by decide +kernel
set_option maxRecDepth 20000 in
theorem kX5_settles_19 : Cond.fieldLink RX5 19 "WindPostModel" "hills" "[I" ∈ wsX5_settles := by decide +kernel
set_option maxRecDepth 20000 in
theorem kX5_settles_22 : Cond.fieldLink RX5 22 "WindPostModel" "winds" "[I" ∈ wsX5_settles := by decide +kernel
set_option maxRecDepth 20000 in
theorem kX5_settles_25 : Cond.fieldLink RX5 25 "WindPostModel" "s" "[I" ∈ wsX5_settles := by decide +kernel
set_option maxRecDepth 20000 in
theorem kX5_settles_31 : Cond.fieldLink RX5 31 "WindPostModel" "isKept" "[Z" ∈ wsX5_settles := by decide +kernel
set_option maxRecDepth 20000 in
theorem kX5_settles_55 : Cond.fieldLink RX5 55 "WindPostModel" "typed" "I" ∈ wsX5_settles := by decide +kernel
set_option maxRecDepth 20000 in
theorem kX5_settles_113 : Cond.fieldLink RX5 113 "WindPostModel" "undoMany" "I" ∈ wsX5_settles := by decide +kernel
set_option maxRecDepth 20000 in
theorem uX5_settles_X5 : ∀ w ∈ wsX50, w ∈ wsX5_settles := by decide +kernel
set_option maxHeartbeats 8000000 in
set_option maxRecDepth 100000 in
theorem mX5_settles (l : Launch) (D : va_G) (ki : Nat → ClassId) (ad : Nat → Nat) (cs : List Nat) (hcs : kR cs) (N : Nat) (G : zMem) (tr : Int64) : gMetV l D ki ad cs yX5_settles wsX5_settles { frames := 0, cells := 0, slots := 0, locals := 0 } [.ref (ad 0)] (mE ki ad) G tr (fX5_settles N G tr) := by
  refine gMetV_of (cc := cX5_settles) (maxL := 2) (ret := none) (own := RX5) (by decide +kernel) rfl rfl (Nat.le_of_ble_eq_true rfl) ?_
  intro r9 G9 tr9 h p e s m below meth c S hr hlk K X ls hl
  have hl : lv_has ls 2 [(0, .ref (ad 0))] := hl
  have b82 : ∀ (k82 : Int32 → zMem → Int64 → zR) (hk82 : ∀ (x1 : Int32) (G : zMem) (tr : Int64), k82 x1 G tr = some (r9, G9, tr9) → zAt p l e (headSpec wsX5_settles { frames := 0, cells := 0, slots := 0, locals := 0 }).room s m ([.ref (ad 0)] : List Value).toArray below meth c 2 D cs ad (zQV below ([.ref (ad 0)] : List Value).toArray s D cs ad ((mE ki ad) G9 tr9)) 82 [(0, .ref (ad 0)), (1, .int x1)] [] ((mE ki ad) G tr)) (x1 : Int32) (G : zMem) (tr : Int64), fX5_settles_b82 N k82 x1 G tr = some (r9, G9, tr9) → zAt p l e (headSpec wsX5_settles { frames := 0, cells := 0, slots := 0, locals := 0 }).room s m ([.ref (ad 0)] : List Value).toArray below meth c 2 D cs ad (zQV below ([.ref (ad 0)] : List Value).toArray s D cs ad ((mE ki ad) G9 tr9)) 82 [(0, .ref (ad 0)), (1, .int x1)] [] ((mE ki ad) G tr) := by
    intro k82 hk82 x1 G tr h H locs ls X hl
    unfold fX5_settles_b82 at h
    refine lv_iload_n S.1 S.2.1 dX5_settles_82 rfl (lv_at hl 1 rfl) ?_
    refine lv_aload_n S.1 S.2.1 dX5_settles_83 rfl (lv_at hl 0 rfl) ?_
    refine zr_get (v := .ref (ad 2)) S K X (hcs 0 (by decide)) mE_R rfl uX5_settles_X5 9 (by decide) kX5_settles_13 rfl rfl dX5_settles_84 ?_
    refine lv_iconst (v := (4 : Int32)) S.1 S.2.1 dX5_settles_87 (by decide) ?_
    obtain ⟨hi_1, h⟩ := zin_some h
    refine zr_iald S K X (hcs 2 (by decide)) mE_2 hi_1 dX5_settles_88 ?_
    refine lv_icmp_ge (tgt := 112) S.1 S.2.1 dX5_settles_89 (by decide) (fun hc_2 => ?_) (fun hc_2 => ?_)
    · have h := zif_pos hc_2 h
      refine lv_aload_n S.1 S.2.1 dX5_settles_112 rfl (lv_at hl 0 rfl) ?_
      refine lv_iconst (v := (0 : Int32)) S.1 S.2.1 dX5_settles_113 (by decide) ?_
      refine zr_put (xv := (0 : Int32)) (v := .int (0 : Int32)) (fsf := (fsR ad tr)) (ty := .int) S K X (hcs 0 (by decide)) mE_loc (fun _ => mE_R) rfl uX5_settles_X5 tyX5 tyX5_ok nmX5 3 (by decide) kX5_settles_55 rfl (by decide +kernel) rfl rfl (by simp) rfl dX5_settles_114 (fun H locs X => ?_)
      refine lv_aload_n S.1 S.2.1 dX5_settles_117 rfl (lv_at hl 0 rfl) ?_
      refine lv_iconst (v := (0 : Int32)) S.1 S.2.1 dX5_settles_118 (by decide) ?_
      refine zr_put (xv := (0 : Int32)) (v := .int (0 : Int32)) (fsf := (fsR ad tr)) (ty := .int) S K X (hcs 0 (by decide)) mE_loc (fun _ => mE_R) rfl uX5_settles_X5 tyX5 tyX5_ok nmX5 18 (by decide) kX5_settles_113 rfl (by decide +kernel) rfl rfl (by simp) rfl dX5_settles_119 (fun H locs X => ?_)
      refine lv_aload_n S.1 S.2.1 dX5_settles_122 rfl (lv_at hl 0 rfl) ?_
      refine zr_get (v := .ref (ad 8)) S K X (hcs 0 (by decide)) mE_R rfl uX5_settles_X5 16 (by decide) kX5_settles_31 rfl rfl dX5_settles_123 ?_
      refine lv_iconst (v := (0 : Int32)) S.1 S.2.1 dX5_settles_126 (by decide) ?_
      refine lv_iconst (v := (0 : Int32)) S.1 S.2.1 dX5_settles_127 (by decide) ?_
      obtain ⟨hi_3, h⟩ := zin_some h
      obtain ⟨hz_6, h⟩ := zbo_some h
      refine zr_zast S K X (hcs 8 (by decide)) mE_loc (fun _ => mE_8) hi_3 hz_6 dX5_settles_128 (fun H locs X => ?_)
      refine lv_aload_n S.1 S.2.1 dX5_settles_129 rfl (lv_at hl 0 rfl) ?_
      refine zr_get (v := .ref (ad 8)) S K X (hcs 0 (by decide)) mE_R rfl uX5_settles_X5 16 (by decide) kX5_settles_31 rfl rfl dX5_settles_130 ?_
      refine lv_iconst (v := (1 : Int32)) S.1 S.2.1 dX5_settles_133 (by decide) ?_
      refine lv_iconst (v := (0 : Int32)) S.1 S.2.1 dX5_settles_134 (by decide) ?_
      obtain ⟨hi_4, h⟩ := zin_some h
      obtain ⟨hz_5, h⟩ := zbo_some h
      refine zr_zast S K X (hcs 8 (by decide)) mE_loc (fun _ => mE_8) hi_4 hz_5 dX5_settles_135 (fun H locs X => ?_)
      exact zr_vret S hr hlk X h dX5_settles_136
    · have h := zif_neg hc_2 h
      refine lv_aload_n S.1 S.2.1 dX5_settles_92 rfl (lv_at hl 0 rfl) ?_
      refine zr_get (v := .ref (ad 6)) S K X (hcs 0 (by decide)) mE_R rfl uX5_settles_X5 14 (by decide) kX5_settles_25 rfl rfl dX5_settles_93 ?_
      refine lv_iconst (v := (3 : Int32)) S.1 S.2.1 dX5_settles_96 (by decide) ?_
      refine lv_iload_n S.1 S.2.1 dX5_settles_97 rfl (lv_at hl 1 rfl) ?_
      refine lv_iadd S.1 S.2.1 dX5_settles_98 ?_
      refine lv_aload_n S.1 S.2.1 dX5_settles_99 rfl (lv_at hl 0 rfl) ?_
      refine zr_get (v := .ref (ad 5)) S K X (hcs 0 (by decide)) mE_R rfl uX5_settles_X5 12 (by decide) kX5_settles_22 rfl rfl dX5_settles_100 ?_
      refine lv_iload_n S.1 S.2.1 dX5_settles_103 rfl (lv_at hl 1 rfl) ?_
      obtain ⟨hi_7, h⟩ := zin_some h
      refine zr_iald S K X (hcs 5 (by decide)) mE_5 hi_7 dX5_settles_104 ?_
      obtain ⟨hi_8, h⟩ := zin_some h
      refine zr_iast S K X (hcs 6 (by decide)) mE_loc (fun _ => mE_6) hi_8 dX5_settles_105 (fun H locs X => ?_)
      refine lv_iinc (v := (x1 + 1)) (lv' := [(1, .int (x1 + 1)), (0, .ref (ad 0))]) S.1 S.2.1 dX5_settles_106 hl (k := 1) rfl rfl (by decide) rfl (fun ls hl => ?_)
      refine lv_goto (tgt := 82) S.1 S.2.1 dX5_settles_109 (by decide) ?_
      exact hk82 (x1 + 1) (up2 G 6 (Int32.toNatClampNeg ((3 : Int32) + x1)) (G 5 (Int32.toNatClampNeg x1))) tr h _ _ _ X (lv_sub hl [1, 0] rfl)
  have L82 : ∀ (n : Nat) (x1 : Int32) (G : zMem) (tr : Int64), fX5_settles_L82 N n x1 G tr = some (r9, G9, tr9) → zAt p l e (headSpec wsX5_settles { frames := 0, cells := 0, slots := 0, locals := 0 }).room s m ([.ref (ad 0)] : List Value).toArray below meth c 2 D cs ad (zQV below ([.ref (ad 0)] : List Value).toArray s D cs ad ((mE ki ad) G9 tr9)) 82 [(0, .ref (ad 0)), (1, .int x1)] [] ((mE ki ad) G tr) := by
    intro n
    induction n with
    | zero => intro x1 G tr h; cases h
    | succ n ih => intro x1 G tr h; exact b82 (fX5_settles_L82 N n) ih x1 G tr h
  have b61 : ∀ (k61 : Int32 → zMem → Int64 → zR) (hk61 : ∀ (x1 : Int32) (G : zMem) (tr : Int64), k61 x1 G tr = some (r9, G9, tr9) → zAt p l e (headSpec wsX5_settles { frames := 0, cells := 0, slots := 0, locals := 0 }).room s m ([.ref (ad 0)] : List Value).toArray below meth c 2 D cs ad (zQV below ([.ref (ad 0)] : List Value).toArray s D cs ad ((mE ki ad) G9 tr9)) 61 [(0, .ref (ad 0)), (1, .int x1)] [] ((mE ki ad) G tr)) (x1 : Int32) (G : zMem) (tr : Int64), fX5_settles_b61 N k61 x1 G tr = some (r9, G9, tr9) → zAt p l e (headSpec wsX5_settles { frames := 0, cells := 0, slots := 0, locals := 0 }).room s m ([.ref (ad 0)] : List Value).toArray below meth c 2 D cs ad (zQV below ([.ref (ad 0)] : List Value).toArray s D cs ad ((mE ki ad) G9 tr9)) 61 [(0, .ref (ad 0)), (1, .int x1)] [] ((mE ki ad) G tr) := by
    intro k61 hk61 x1 G tr h H locs ls X hl
    unfold fX5_settles_b61 at h
    refine lv_iload_n S.1 S.2.1 dX5_settles_61 rfl (lv_at hl 1 rfl) ?_
    refine lv_bipush (v := (45 : Int32)) S.1 S.2.1 dX5_settles_62 (by decide) ?_
    refine lv_icmp_ge (tgt := 80) S.1 S.2.1 dX5_settles_64 (by decide) (fun hc_1 => ?_) (fun hc_1 => ?_)
    · have h := zif_pos hc_1 h
      refine lv_iconst (v := (0 : Int32)) S.1 S.2.1 dX5_settles_80 (by decide) ?_
      refine lv_istore_n (lv' := [(1, .int (0 : Int32)), (0, .ref (ad 0))]) S.1 S.2.1 dX5_settles_81 rfl hl (by decide) rfl (fun ls hl => ?_)
      exact L82 N (0 : Int32) G tr h _ _ _ X (lv_sub hl [1, 0] rfl)
    · have h := zif_neg hc_1 h
      refine lv_aload_n S.1 S.2.1 dX5_settles_67 rfl (lv_at hl 0 rfl) ?_
      refine zr_get (v := .ref (ad 6)) S K X (hcs 0 (by decide)) mE_R rfl uX5_settles_X5 14 (by decide) kX5_settles_25 rfl rfl dX5_settles_68 ?_
      refine lv_iload_n S.1 S.2.1 dX5_settles_71 rfl (lv_at hl 1 rfl) ?_
      refine lv_iconst (v := (0 : Int32)) S.1 S.2.1 dX5_settles_72 (by decide) ?_
      obtain ⟨hi_2, h⟩ := zin_some h
      refine zr_iast S K X (hcs 6 (by decide)) mE_loc (fun _ => mE_6) hi_2 dX5_settles_73 (fun H locs X => ?_)
      refine lv_iinc (v := (x1 + 1)) (lv' := [(1, .int (x1 + 1)), (0, .ref (ad 0))]) S.1 S.2.1 dX5_settles_74 hl (k := 1) rfl rfl (by decide) rfl (fun ls hl => ?_)
      refine lv_goto (tgt := 61) S.1 S.2.1 dX5_settles_77 (by decide) ?_
      exact hk61 (x1 + 1) (up2 G 6 (Int32.toNatClampNeg x1) (0 : Int32)) tr h _ _ _ X (lv_sub hl [1, 0] rfl)
  have L61 : ∀ (n : Nat) (x1 : Int32) (G : zMem) (tr : Int64), fX5_settles_L61 N n x1 G tr = some (r9, G9, tr9) → zAt p l e (headSpec wsX5_settles { frames := 0, cells := 0, slots := 0, locals := 0 }).room s m ([.ref (ad 0)] : List Value).toArray below meth c 2 D cs ad (zQV below ([.ref (ad 0)] : List Value).toArray s D cs ad ((mE ki ad) G9 tr9)) 61 [(0, .ref (ad 0)), (1, .int x1)] [] ((mE ki ad) G tr) := by
    intro n
    induction n with
    | zero => intro x1 G tr h; cases h
    | succ n ih => intro x1 G tr h; exact b61 (fX5_settles_L61 N n) ih x1 G tr h
  have b2 : ∀ (k2 : Int32 → zMem → Int64 → zR) (hk2 : ∀ (x1 : Int32) (G : zMem) (tr : Int64), k2 x1 G tr = some (r9, G9, tr9) → zAt p l e (headSpec wsX5_settles { frames := 0, cells := 0, slots := 0, locals := 0 }).room s m ([.ref (ad 0)] : List Value).toArray below meth c 2 D cs ad (zQV below ([.ref (ad 0)] : List Value).toArray s D cs ad ((mE ki ad) G9 tr9)) 2 [(0, .ref (ad 0)), (1, .int x1)] [] ((mE ki ad) G tr)) (x1 : Int32) (G : zMem) (tr : Int64), fX5_settles_b2 N k2 x1 G tr = some (r9, G9, tr9) → zAt p l e (headSpec wsX5_settles { frames := 0, cells := 0, slots := 0, locals := 0 }).room s m ([.ref (ad 0)] : List Value).toArray below meth c 2 D cs ad (zQV below ([.ref (ad 0)] : List Value).toArray s D cs ad ((mE ki ad) G9 tr9)) 2 [(0, .ref (ad 0)), (1, .int x1)] [] ((mE ki ad) G tr) := by
    intro k2 hk2 x1 G tr h H locs ls X hl
    unfold fX5_settles_b2 at h
    refine lv_iload_n S.1 S.2.1 dX5_settles_2 rfl (lv_at hl 1 rfl) ?_
    refine lv_bipush (v := (6 : Int32)) S.1 S.2.1 dX5_settles_3 (by decide) ?_
    refine lv_icmp_ge (tgt := 59) S.1 S.2.1 dX5_settles_5 (by decide) (fun hc_1 => ?_) (fun hc_1 => ?_)
    · have h := zif_pos hc_1 h
      refine lv_iconst (v := (0 : Int32)) S.1 S.2.1 dX5_settles_59 (by decide) ?_
      refine lv_istore_n (lv' := [(1, .int (0 : Int32)), (0, .ref (ad 0))]) S.1 S.2.1 dX5_settles_60 rfl hl (by decide) rfl (fun ls hl => ?_)
      exact L61 N (0 : Int32) G tr h _ _ _ X (lv_sub hl [1, 0] rfl)
    · have h := zif_neg hc_1 h
      refine lv_aload_n S.1 S.2.1 dX5_settles_8 rfl (lv_at hl 0 rfl) ?_
      refine zr_get (v := .ref (ad 2)) S K X (hcs 0 (by decide)) mE_R rfl uX5_settles_X5 9 (by decide) kX5_settles_13 rfl rfl dX5_settles_9 ?_
      refine lv_iload_n S.1 S.2.1 dX5_settles_12 rfl (lv_at hl 1 rfl) ?_
      refine lv_aload_n S.1 S.2.1 dX5_settles_13 rfl (lv_at hl 0 rfl) ?_
      refine zr_get (v := .ref (ad 2)) S K X (hcs 0 (by decide)) mE_R rfl uX5_settles_X5 9 (by decide) kX5_settles_13 rfl rfl dX5_settles_14 ?_
      refine lv_bipush (v := (6 : Int32)) S.1 S.2.1 dX5_settles_17 (by decide) ?_
      refine lv_iload_n S.1 S.2.1 dX5_settles_19 rfl (lv_at hl 1 rfl) ?_
      refine lv_iadd S.1 S.2.1 dX5_settles_20 ?_
      obtain ⟨hi_2, h⟩ := zin_some h
      refine zr_iald S K X (hcs 2 (by decide)) mE_2 hi_2 dX5_settles_21 ?_
      obtain ⟨hi_3, h⟩ := zin_some h
      refine zr_iast S K X (hcs 2 (by decide)) mE_loc (fun _ => mE_2) hi_3 dX5_settles_22 (fun H locs X => ?_)
      refine lv_aload_n S.1 S.2.1 dX5_settles_23 rfl (lv_at hl 0 rfl) ?_
      refine zr_get (v := .ref (ad 3)) S K X (hcs 0 (by decide)) mE_R rfl uX5_settles_X5 10 (by decide) kX5_settles_16 rfl rfl dX5_settles_24 ?_
      refine lv_iload_n S.1 S.2.1 dX5_settles_27 rfl (lv_at hl 1 rfl) ?_
      refine lv_aload_n S.1 S.2.1 dX5_settles_28 rfl (lv_at hl 0 rfl) ?_
      refine zr_get (v := .ref (ad 3)) S K X (hcs 0 (by decide)) mE_R rfl uX5_settles_X5 10 (by decide) kX5_settles_16 rfl rfl dX5_settles_29 ?_
      refine lv_bipush (v := (6 : Int32)) S.1 S.2.1 dX5_settles_32 (by decide) ?_
      refine lv_iload_n S.1 S.2.1 dX5_settles_34 rfl (lv_at hl 1 rfl) ?_
      refine lv_iadd S.1 S.2.1 dX5_settles_35 ?_
      obtain ⟨hi_4, h⟩ := zin_some h
      refine zr_iald S K X (hcs 3 (by decide)) mE_3 hi_4 dX5_settles_36 ?_
      obtain ⟨hi_5, h⟩ := zin_some h
      refine zr_iast S K X (hcs 3 (by decide)) mE_loc (fun _ => mE_3) hi_5 dX5_settles_37 (fun H locs X => ?_)
      refine lv_aload_n S.1 S.2.1 dX5_settles_38 rfl (lv_at hl 0 rfl) ?_
      refine zr_get (v := .ref (ad 4)) S K X (hcs 0 (by decide)) mE_R rfl uX5_settles_X5 11 (by decide) kX5_settles_19 rfl rfl dX5_settles_39 ?_
      refine lv_iload_n S.1 S.2.1 dX5_settles_42 rfl (lv_at hl 1 rfl) ?_
      refine lv_aload_n S.1 S.2.1 dX5_settles_43 rfl (lv_at hl 0 rfl) ?_
      refine zr_get (v := .ref (ad 4)) S K X (hcs 0 (by decide)) mE_R rfl uX5_settles_X5 11 (by decide) kX5_settles_19 rfl rfl dX5_settles_44 ?_
      refine lv_bipush (v := (6 : Int32)) S.1 S.2.1 dX5_settles_47 (by decide) ?_
      refine lv_iload_n S.1 S.2.1 dX5_settles_49 rfl (lv_at hl 1 rfl) ?_
      refine lv_iadd S.1 S.2.1 dX5_settles_50 ?_
      obtain ⟨hi_6, h⟩ := zin_some h
      refine zr_iald S K X (hcs 4 (by decide)) mE_4 hi_6 dX5_settles_51 ?_
      obtain ⟨hi_7, h⟩ := zin_some h
      refine zr_iast S K X (hcs 4 (by decide)) mE_loc (fun _ => mE_4) hi_7 dX5_settles_52 (fun H locs X => ?_)
      refine lv_iinc (v := (x1 + 1)) (lv' := [(1, .int (x1 + 1)), (0, .ref (ad 0))]) S.1 S.2.1 dX5_settles_53 hl (k := 1) rfl rfl (by decide) rfl (fun ls hl => ?_)
      refine lv_goto (tgt := 2) S.1 S.2.1 dX5_settles_56 (by decide) ?_
      exact hk2 (x1 + 1) (up2 (up2 (up2 G 2 (Int32.toNatClampNeg x1) (G 2 (Int32.toNatClampNeg ((6 : Int32) + x1)))) 3 (Int32.toNatClampNeg x1) ((up2 G 2 (Int32.toNatClampNeg x1) (G 2 (Int32.toNatClampNeg ((6 : Int32) + x1)))) 3 (Int32.toNatClampNeg ((6 : Int32) + x1)))) 4 (Int32.toNatClampNeg x1) ((up2 (up2 G 2 (Int32.toNatClampNeg x1) (G 2 (Int32.toNatClampNeg ((6 : Int32) + x1)))) 3 (Int32.toNatClampNeg x1) ((up2 G 2 (Int32.toNatClampNeg x1) (G 2 (Int32.toNatClampNeg ((6 : Int32) + x1)))) 3 (Int32.toNatClampNeg ((6 : Int32) + x1)))) 4 (Int32.toNatClampNeg ((6 : Int32) + x1)))) tr h _ _ _ X (lv_sub hl [1, 0] rfl)
  have L2 : ∀ (n : Nat) (x1 : Int32) (G : zMem) (tr : Int64), fX5_settles_L2 N n x1 G tr = some (r9, G9, tr9) → zAt p l e (headSpec wsX5_settles { frames := 0, cells := 0, slots := 0, locals := 0 }).room s m ([.ref (ad 0)] : List Value).toArray below meth c 2 D cs ad (zQV below ([.ref (ad 0)] : List Value).toArray s D cs ad ((mE ki ad) G9 tr9)) 2 [(0, .ref (ad 0)), (1, .int x1)] [] ((mE ki ad) G tr) := by
    intro n
    induction n with
    | zero => intro x1 G tr h; cases h
    | succ n ih => intro x1 G tr h; exact b2 (fX5_settles_L2 N n) ih x1 G tr h
  unfold fX5_settles at h
  obtain ⟨H, hH⟩ : ∃ H, H = s.heap := ⟨_, rfl⟩
  obtain ⟨locs, hlo⟩ : ∃ locs : List Loc, locs = [] := ⟨_, rfl⟩
  have X : gS D cs ad ((mE ki ad) G tr) (gA cs ad s.heap.size) s H locs := by rw [hH, hlo]; exact X
  suffices z : W p l e (headSpec wsX5_settles { frames := 0, cells := 0, slots := 0, locals := 0 }).room s m ([.ref (ad 0)] : List Value).toArray below meth c H locs 0 0 (zQV below ([.ref (ad 0)] : List Value).toArray s D cs ad ((mE ki ad) G9 tr9)) (F0 m 0 ls []) by rw [hH, hlo] at z; exact z
  clear hH hlo
  refine lv_iconst (v := (0 : Int32)) S.1 S.2.1 dX5_settles_0 (by decide) ?_
  refine lv_istore_n (lv' := [(1, .int (0 : Int32)), (0, .ref (ad 0))]) S.1 S.2.1 dX5_settles_1 rfl hl (by decide) rfl (fun ls hl => ?_)
  exact L2 N (0 : Int32) G tr h _ _ _ X (lv_sub hl [1, 0] rfl)
set_option maxRecDepth 20000 in
theorem ggX5_sea_X5_advances : GoodIn wsX5_sea wsX5_advances := goodIn_r _ [11, 3, 12, 6, 13, 14, 15, 16, 10, 17, 18, 19, 20, 21, 22, 61, 62, 63, 64, 65, 66, 67, 68, 69, 70, 71, 72, 73, 74, 75, 76, 77, 78, 79, 80, 81, 82] (by decide +kernel) (by decide +kernel)
set_option maxRecDepth 20000 in
theorem gX5_sea_X5_advances : GoodIn wsX5_sea (wsV RX5 81 RX5 yX5_advances wsX5_advances) := goodIn_app (goodIn_of _ (by decide +kernel)) ggX5_sea_X5_advances
set_option maxRecDepth 20000 in
theorem ggX5_sea_X5_isWell : GoodIn wsX5_sea wsX5_isWell := goodIn_r _ [26, 2, 61, 62, 63, 64, 65, 66, 67, 68, 69, 70, 71, 72, 73, 74, 75, 76, 77, 78, 79, 80, 81, 82] (by decide +kernel) (by decide +kernel)
set_option maxRecDepth 20000 in
theorem gX5_sea_X5_isWell : GoodIn wsX5_sea (wsV RX5 77 RX5 yX5_isWell wsX5_isWell) := goodIn_app (goodIn_of _ (by decide +kernel)) ggX5_sea_X5_isWell
set_option maxRecDepth 20000 in
theorem ggX5_sea_X5_mayBegin : GoodIn wsX5_sea wsX5_mayBegin := goodIn_r _ [30, 13, 4, 5, 61, 62, 63, 64, 65, 66, 67, 68, 69, 70, 71, 72, 73, 74, 75, 76, 77, 78, 79, 80, 81, 82] (by decide +kernel) (by decide +kernel)
set_option maxRecDepth 20000 in
theorem gX5_sea_X5_mayBegin : GoodIn wsX5_sea (wsV RX5 103 RX5 yX5_mayBegin wsX5_mayBegin) := goodIn_app (goodIn_of _ (by decide +kernel)) ggX5_sea_X5_mayBegin
set_option maxRecDepth 20000 in
theorem ggX5_sea_X5_takes : GoodIn wsX5_sea wsX5_takes := goodIn_r _ [34, 12, 2, 13, 23, 24, 25, 10, 26, 7, 8, 9, 11, 3, 6, 14, 15, 16, 17, 18, 19, 20, 21, 22, 61, 62, 63, 64, 65, 66, 67, 68, 69, 70, 71, 72, 73, 74, 75, 76, 77, 78, 79, 80, 81, 82] (by decide +kernel) (by decide +kernel)
set_option maxRecDepth 20000 in
theorem gX5_sea_X5_takes : GoodIn wsX5_sea (wsV RX5 84 RX5 yX5_takes wsX5_takes) := goodIn_app (goodIn_of _ (by decide +kernel)) ggX5_sea_X5_takes
set_option maxRecDepth 20000 in
theorem ggX5_sea_X5_readsItem : GoodIn wsX5_sea wsX5_readsItem := goodIn_r _ [38, 4, 39, 6, 13, 40, 5, 41, 42, 43, 10, 44, 20, 21, 22, 31, 32, 33, 34, 12, 2, 23, 24, 25, 26, 7, 8, 9, 11, 3, 14, 15, 16, 17, 18, 19, 45, 46, 47, 48, 49, 50, 51, 52, 53, 61, 62, 63, 64, 65, 66, 67, 68, 69, 70, 71, 72, 73, 74, 75, 76, 77, 78, 79, 80, 81, 82] (by decide +kernel) (by decide +kernel)
set_option maxRecDepth 20000 in
theorem gX5_sea_X5_readsItem : GoodIn wsX5_sea (wsV RX5 106 RX5 yX5_readsItem wsX5_readsItem) := goodIn_app (goodIn_of _ (by decide +kernel)) ggX5_sea_X5_readsItem
set_option maxRecDepth 20000 in
theorem ggX5_sea_X5_settles : GoodIn wsX5_sea wsX5_settles := goodIn_r _ [57, 4, 39, 40, 58, 53, 18, 59, 60, 61, 62, 63, 64, 65, 66, 67, 68, 69, 70, 71, 72, 73, 74, 75, 76, 77, 78, 79, 80, 81, 82] (by decide +kernel) (by decide +kernel)
set_option maxRecDepth 20000 in
theorem gX5_sea_X5_settles : GoodIn wsX5_sea (wsV RX5 110 RX5 yX5_settles wsX5_settles) := goodIn_app (goodIn_of _ (by decide +kernel)) ggX5_sea_X5_settles
theorem dX5_sea_0 : decode cX5_sea 0 = .ok (.aload_n 0, 1) := by decide +kernel
theorem dX5_sea_1 : decode cX5_sea 1 = .ok (.iconst 0, 1) := by decide +kernel
theorem dX5_sea_2 : decode cX5_sea 2 = .ok (.putfield 47, 3) := by decide +kernel
theorem dX5_sea_5 : decode cX5_sea 5 = .ok (.aload_n 0, 1) := by decide +kernel
theorem dX5_sea_6 : decode cX5_sea 6 = .ok (.iconst (-1), 1) := by decide +kernel
theorem dX5_sea_7 : decode cX5_sea 7 = .ok (.putfield 74, 3) := by decide +kernel
theorem dX5_sea_10 : decode cX5_sea 10 = .ok (.aload_n 0, 1) := by decide +kernel
theorem dX5_sea_11 : decode cX5_sea 11 = .ok (.iconst 0, 1) := by decide +kernel
theorem dX5_sea_12 : decode cX5_sea 12 = .ok (.putfield 58, 3) := by decide +kernel
theorem dX5_sea_15 : decode cX5_sea 15 = .ok (.iconst 0, 1) := by decide +kernel
theorem dX5_sea_16 : decode cX5_sea 16 = .ok (.istore_n 1, 1) := by decide +kernel
theorem dX5_sea_17 : decode cX5_sea 17 = .ok (.aload_n 0, 1) := by decide +kernel
theorem dX5_sea_18 : decode cX5_sea 18 = .ok (.getfield 13, 3) := by decide +kernel
theorem dX5_sea_21 : decode cX5_sea 21 = .ok (.bipush 6, 2) := by decide +kernel
theorem dX5_sea_23 : decode cX5_sea 23 = .ok (.iconst 4, 1) := by decide +kernel
theorem dX5_sea_24 : decode cX5_sea 24 = .ok (.iastore, 1) := by decide +kernel
theorem dX5_sea_25 : decode cX5_sea 25 = .ok (.aload_n 0, 1) := by decide +kernel
theorem dX5_sea_26 : decode cX5_sea 26 = .ok (.getfield 13, 3) := by decide +kernel
theorem dX5_sea_29 : decode cX5_sea 29 = .ok (.bipush 7, 2) := by decide +kernel
theorem dX5_sea_31 : decode cX5_sea 31 = .ok (.iconst 4, 1) := by decide +kernel
theorem dX5_sea_32 : decode cX5_sea 32 = .ok (.iastore, 1) := by decide +kernel
theorem dX5_sea_33 : decode cX5_sea 33 = .ok (.aload_n 0, 1) := by decide +kernel
theorem dX5_sea_34 : decode cX5_sea 34 = .ok (.getfield 13, 3) := by decide +kernel
theorem dX5_sea_37 : decode cX5_sea 37 = .ok (.bipush 8, 2) := by decide +kernel
theorem dX5_sea_39 : decode cX5_sea 39 = .ok (.iconst 0, 1) := by decide +kernel
theorem dX5_sea_40 : decode cX5_sea 40 = .ok (.iastore, 1) := by decide +kernel
theorem dX5_sea_41 : decode cX5_sea 41 = .ok (.aload_n 0, 1) := by decide +kernel
theorem dX5_sea_42 : decode cX5_sea 42 = .ok (.getfield 13, 3) := by decide +kernel
theorem dX5_sea_45 : decode cX5_sea 45 = .ok (.bipush 9, 2) := by decide +kernel
theorem dX5_sea_47 : decode cX5_sea 47 = .ok (.iconst 0, 1) := by decide +kernel
theorem dX5_sea_48 : decode cX5_sea 48 = .ok (.iastore, 1) := by decide +kernel
theorem dX5_sea_49 : decode cX5_sea 49 = .ok (.aload_n 0, 1) := by decide +kernel
theorem dX5_sea_50 : decode cX5_sea 50 = .ok (.getfield 13, 3) := by decide +kernel
theorem dX5_sea_53 : decode cX5_sea 53 = .ok (.bipush 10, 2) := by decide +kernel
theorem dX5_sea_55 : decode cX5_sea 55 = .ok (.iconst 0, 1) := by decide +kernel
theorem dX5_sea_56 : decode cX5_sea 56 = .ok (.iastore, 1) := by decide +kernel
theorem dX5_sea_57 : decode cX5_sea 57 = .ok (.aload_n 0, 1) := by decide +kernel
theorem dX5_sea_58 : decode cX5_sea 58 = .ok (.getfield 13, 3) := by decide +kernel
theorem dX5_sea_61 : decode cX5_sea 61 = .ok (.bipush 11, 2) := by decide +kernel
theorem dX5_sea_63 : decode cX5_sea 63 = .ok (.iconst 3, 1) := by decide +kernel
theorem dX5_sea_64 : decode cX5_sea 64 = .ok (.iastore, 1) := by decide +kernel
theorem dX5_sea_65 : decode cX5_sea 65 = .ok (.aload_n 0, 1) := by decide +kernel
theorem dX5_sea_66 : decode cX5_sea 66 = .ok (.iconst 0, 1) := by decide +kernel
theorem dX5_sea_67 : decode cX5_sea 67 = .ok (.putfield 88, 3) := by decide +kernel
theorem dX5_sea_70 : decode cX5_sea 70 = .ok (.aload_n 0, 1) := by decide +kernel
theorem dX5_sea_71 : decode cX5_sea 71 = .ok (.invokevirtual 81, 3) := by decide +kernel
theorem dX5_sea_74 : decode cX5_sea 74 = .ok (.aload_n 0, 1) := by decide +kernel
theorem dX5_sea_75 : decode cX5_sea 75 = .ok (.invokevirtual 77, 3) := by decide +kernel
theorem dX5_sea_78 : decode cX5_sea 78 = .ok (.ifCond .eq 72, 3) := by decide +kernel
theorem dX5_sea_81 : decode cX5_sea 81 = .ok (.aload_n 0, 1) := by decide +kernel
theorem dX5_sea_82 : decode cX5_sea 82 = .ok (.getfield 68, 3) := by decide +kernel
theorem dX5_sea_85 : decode cX5_sea 85 = .ok (.ifCond .eq 65, 3) := by decide +kernel
theorem dX5_sea_88 : decode cX5_sea 88 = .ok (.aload_n 0, 1) := by decide +kernel
theorem dX5_sea_89 : decode cX5_sea 89 = .ok (.aload_n 0, 1) := by decide +kernel
theorem dX5_sea_90 : decode cX5_sea 90 = .ok (.getfield 68, 3) := by decide +kernel
theorem dX5_sea_93 : decode cX5_sea 93 = .ok (.iconst 1, 1) := by decide +kernel
theorem dX5_sea_94 : decode cX5_sea 94 = .ok (.if_icmp .ne 15, 3) := by decide +kernel
theorem dX5_sea_97 : decode cX5_sea 97 = .ok (.aload_n 0, 1) := by decide +kernel
theorem dX5_sea_98 : decode cX5_sea 98 = .ok (.iload_n 1, 1) := by decide +kernel
theorem dX5_sea_99 : decode cX5_sea 99 = .ok (.invokevirtual 103, 3) := by decide +kernel
theorem dX5_sea_102 : decode cX5_sea 102 = .ok (.ifCond .eq 7, 3) := by decide +kernel
theorem dX5_sea_105 : decode cX5_sea 105 = .ok (.iconst 1, 1) := by decide +kernel
theorem dX5_sea_106 : decode cX5_sea 106 = .ok (.goto 4, 3) := by decide +kernel
theorem dX5_sea_109 : decode cX5_sea 109 = .ok (.iconst 0, 1) := by decide +kernel
theorem dX5_sea_110 : decode cX5_sea 110 = .ok (.invokevirtual 84, 3) := by decide +kernel
theorem dX5_sea_113 : decode cX5_sea 113 = .ok (.istore_n 2, 1) := by decide +kernel
theorem dX5_sea_114 : decode cX5_sea 114 = .ok (.aload_n 0, 1) := by decide +kernel
theorem dX5_sea_115 : decode cX5_sea 115 = .ok (.invokevirtual 77, 3) := by decide +kernel
theorem dX5_sea_118 : decode cX5_sea 118 = .ok (.ifCond .eq 8, 3) := by decide +kernel
theorem dX5_sea_121 : decode cX5_sea 121 = .ok (.aload_n 0, 1) := by decide +kernel
theorem dX5_sea_122 : decode cX5_sea 122 = .ok (.iload_n 2, 1) := by decide +kernel
theorem dX5_sea_123 : decode cX5_sea 123 = .ok (.invokevirtual 106, 3) := by decide +kernel
theorem dX5_sea_126 : decode cX5_sea 126 = .ok (.aload_n 0, 1) := by decide +kernel
theorem dX5_sea_127 : decode cX5_sea 127 = .ok (.aload_n 0, 1) := by decide +kernel
theorem dX5_sea_128 : decode cX5_sea 128 = .ok (.getfield 68, 3) := by decide +kernel
theorem dX5_sea_131 : decode cX5_sea 131 = .ok (.iconst 3, 1) := by decide +kernel
theorem dX5_sea_132 : decode cX5_sea 132 = .ok (.if_icmp .ne 7, 3) := by decide +kernel
theorem dX5_sea_135 : decode cX5_sea 135 = .ok (.iconst 1, 1) := by decide +kernel
theorem dX5_sea_136 : decode cX5_sea 136 = .ok (.goto 4, 3) := by decide +kernel
theorem dX5_sea_139 : decode cX5_sea 139 = .ok (.iconst 0, 1) := by decide +kernel
theorem dX5_sea_140 : decode cX5_sea 140 = .ok (.invokevirtual 84, 3) := by decide +kernel
theorem dX5_sea_143 : decode cX5_sea 143 = .ok (.pop, 1) := by decide +kernel
theorem dX5_sea_144 : decode cX5_sea 144 = .ok (.iinc 1 1, 3) := by decide +kernel
theorem dX5_sea_147 : decode cX5_sea 147 = .ok (.goto (-73), 3) := by decide +kernel
theorem dX5_sea_150 : decode cX5_sea 150 = .ok (.aload_n 0, 1) := by decide +kernel
theorem dX5_sea_151 : decode cX5_sea 151 = .ok (.invokevirtual 77, 3) := by decide +kernel
theorem dX5_sea_154 : decode cX5_sea 154 = .ok (.ifCond .ne 11, 3) := by decide +kernel
theorem dX5_sea_157 : decode cX5_sea 157 = .ok (.bipush (-10), 2) := by decide +kernel
theorem dX5_sea_159 : decode cX5_sea 159 = .ok (.aload_n 0, 1) := by decide +kernel
theorem dX5_sea_160 : decode cX5_sea 160 = .ok (.getfield 74, 3) := by decide +kernel
theorem dX5_sea_163 : decode cX5_sea 163 = .ok (.isub, 1) := by decide +kernel
theorem dX5_sea_164 : decode cX5_sea 164 = .ok (.ireturn, 1) := by decide +kernel
theorem dX5_sea_165 : decode cX5_sea 165 = .ok (.aload_n 0, 1) := by decide +kernel
theorem dX5_sea_166 : decode cX5_sea 166 = .ok (.invokevirtual 110, 3) := by decide +kernel
theorem dX5_sea_169 : decode cX5_sea 169 = .ok (.iload_n 1, 1) := by decide +kernel
theorem dX5_sea_170 : decode cX5_sea 170 = .ok (.ireturn, 1) := by decide +kernel
set_option maxRecDepth 20000 in
theorem kX5_sea_13 : Cond.fieldLink RX5 13 "WindPostModel" "many" "[I" ∈ wsX5_sea := by decide +kernel
set_option maxRecDepth 20000 in
theorem kX5_sea_47 : Cond.fieldLink RX5 47 "WindPostModel" "thrown" "I" ∈ wsX5_sea := by decide +kernel
set_option maxRecDepth 20000 in
theorem kX5_sea_58 : Cond.fieldLink RX5 58 "WindPostModel" "next" "I" ∈ wsX5_sea := by decide +kernel
set_option maxRecDepth 20000 in
theorem kX5_sea_68 : Cond.fieldLink RX5 68 "WindPostModel" "token" "I" ∈ wsX5_sea := by decide +kernel
set_option maxRecDepth 20000 in
theorem kX5_sea_74 : Cond.fieldLink RX5 74 "WindPostModel" "fault" "I" ∈ wsX5_sea := by decide +kernel
set_option maxRecDepth 20000 in
theorem kX5_sea_88 : Cond.fieldLink RX5 88 "WindPostModel" "isForceTold" "Z" ∈ wsX5_sea := by decide +kernel
set_option maxRecDepth 20000 in
theorem uX5_sea_X5 : ∀ w ∈ wsX50, w ∈ wsX5_sea := by decide +kernel
set_option maxHeartbeats 8000000 in
set_option maxRecDepth 100000 in
theorem mX5_sea (l : Launch) (D : va_G) (ki : Nat → ClassId) (ad : Nat → Nat) (cs : List Nat) (hcs : kR cs) (N : Nat) (G : zMem) (tr : Int64) : gMetI l D ki ad cs yX5_sea wsX5_sea { frames := 5, cells := 0, slots := 0, locals := 108 } [.ref (ad 0)] (mE ki ad) G tr (fX5_sea N G tr) := by
  refine gMetI_of (cc := cX5_sea) (maxL := 3) (ret := (some .int)) (own := RX5) (by decide +kernel) rfl rfl (Nat.le_of_ble_eq_true rfl) ?_
  intro r9 G9 tr9 h p e s m below meth c S hr hlk K X ls hl
  have hl : lv_has ls 3 [(0, .ref (ad 0))] := hl
  have b140 : ∀ (k74 : Int32 → zMem → Int64 → zR) (hk74 : ∀ (x1 : Int32) (G : zMem) (tr : Int64), k74 x1 G tr = some (r9, G9, tr9) → zAt p l e (headSpec wsX5_sea { frames := 5, cells := 0, slots := 0, locals := 108 }).room s m ([.ref (ad 0)] : List Value).toArray below meth c 3 D cs ad (zQI below ([.ref (ad 0)] : List Value).toArray s D cs ad ((mE ki ad) G9 tr9) r9) 74 [(0, .ref (ad 0)), (1, .int x1)] [] ((mE ki ad) G tr)) (x1 : Int32) (s0 : Int32) (G : zMem) (tr : Int64), fX5_sea_b140 N k74 x1 s0 G tr = some (r9, G9, tr9) → zAt p l e (headSpec wsX5_sea { frames := 5, cells := 0, slots := 0, locals := 108 }).room s m ([.ref (ad 0)] : List Value).toArray below meth c 3 D cs ad (zQI below ([.ref (ad 0)] : List Value).toArray s D cs ad ((mE ki ad) G9 tr9) r9) 140 [(0, .ref (ad 0)), (1, .int x1)] [.int s0, .ref (ad 0)] ((mE ki ad) G tr) := by
    intro k74 hk74 x1 s0 G tr h H locs ls X hl
    unfold fX5_sea_b140 at h
    obtain ⟨r_2, G_3, tr_4, hf_1, h⟩ := zbd_some h
    refine zr_calli (Eg := (mE ki ad)) K X (va_runV (As := [.int s0]) (rest := []) S (mX5_takes l D ki ad cs hcs N s0 G tr H.size _ _ _ hf_1) (cwV 1 S.2.2.2.2 gX5_sea_X5_takes rfl rfl rfl (by decide +kernel) ⟨Nat.le_of_ble_eq_true rfl, Nat.le_of_ble_eq_true rfl⟩) (zr_preV (c0 := 0) K X (hcs 0 (by decide)) mE_R rfl) rfl rfl hl.1 rfl (lv_room (Nat.le_of_ble_eq_true rfl)) dX5_sea_140 ⟨Nat.zero_le _, Nat.zero_le _⟩) (fun H locs X => ?_)
    refine lv_pop S.1 S.2.1 dX5_sea_143 rfl ?_
    refine lv_iinc (v := (x1 + 1)) (lv' := [(1, .int (x1 + 1)), (0, .ref (ad 0))]) S.1 S.2.1 dX5_sea_144 hl (k := 1) rfl rfl (by decide) rfl (fun ls hl => ?_)
    refine lv_goto (tgt := 74) S.1 S.2.1 dX5_sea_147 (by decide) ?_
    exact hk74 (x1 + 1) G_3 tr_4 h _ _ _ X (lv_sub hl [1, 0] rfl)
  have b126 : ∀ (k74 : Int32 → zMem → Int64 → zR) (hk74 : ∀ (x1 : Int32) (G : zMem) (tr : Int64), k74 x1 G tr = some (r9, G9, tr9) → zAt p l e (headSpec wsX5_sea { frames := 5, cells := 0, slots := 0, locals := 108 }).room s m ([.ref (ad 0)] : List Value).toArray below meth c 3 D cs ad (zQI below ([.ref (ad 0)] : List Value).toArray s D cs ad ((mE ki ad) G9 tr9) r9) 74 [(0, .ref (ad 0)), (1, .int x1)] [] ((mE ki ad) G tr)) (x1 : Int32) (G : zMem) (tr : Int64), fX5_sea_b126 N k74 x1 G tr = some (r9, G9, tr9) → zAt p l e (headSpec wsX5_sea { frames := 5, cells := 0, slots := 0, locals := 108 }).room s m ([.ref (ad 0)] : List Value).toArray below meth c 3 D cs ad (zQI below ([.ref (ad 0)] : List Value).toArray s D cs ad ((mE ki ad) G9 tr9) r9) 126 [(0, .ref (ad 0)), (1, .int x1)] [] ((mE ki ad) G tr) := by
    intro k74 hk74 x1 G tr h H locs ls X hl
    unfold fX5_sea_b126 at h
    refine lv_aload_n S.1 S.2.1 dX5_sea_126 rfl (lv_at hl 0 rfl) ?_
    refine lv_aload_n S.1 S.2.1 dX5_sea_127 rfl (lv_at hl 0 rfl) ?_
    refine zr_get (v := .int (G 0 5)) S K X (hcs 0 (by decide)) mE_R rfl uX5_sea_X5 5 (by decide) kX5_sea_68 rfl rfl dX5_sea_128 ?_
    refine lv_iconst (v := (3 : Int32)) S.1 S.2.1 dX5_sea_131 (by decide) ?_
    refine lv_icmp_ne (tgt := 139) S.1 S.2.1 dX5_sea_132 (by decide) (fun hc_1 => ?_) (fun hc_1 => ?_)
    · have h := zif_neg hc_1 h
      refine lv_iconst (v := (0 : Int32)) S.1 S.2.1 dX5_sea_139 (by decide) ?_
      exact b140 k74 hk74 x1 (0 : Int32) G tr h _ _ _ X (lv_sub hl [0, 1] rfl)
    · have h := zif_pos hc_1 h
      refine lv_iconst (v := (1 : Int32)) S.1 S.2.1 dX5_sea_135 (by decide) ?_
      refine lv_goto (tgt := 140) S.1 S.2.1 dX5_sea_136 (by decide) ?_
      exact b140 k74 hk74 x1 (1 : Int32) G tr h _ _ _ X (lv_sub hl [0, 1] rfl)
  have b110 : ∀ (k74 : Int32 → zMem → Int64 → zR) (hk74 : ∀ (x1 : Int32) (G : zMem) (tr : Int64), k74 x1 G tr = some (r9, G9, tr9) → zAt p l e (headSpec wsX5_sea { frames := 5, cells := 0, slots := 0, locals := 108 }).room s m ([.ref (ad 0)] : List Value).toArray below meth c 3 D cs ad (zQI below ([.ref (ad 0)] : List Value).toArray s D cs ad ((mE ki ad) G9 tr9) r9) 74 [(0, .ref (ad 0)), (1, .int x1)] [] ((mE ki ad) G tr)) (x1 : Int32) (s0 : Int32) (G : zMem) (tr : Int64), fX5_sea_b110 N k74 x1 s0 G tr = some (r9, G9, tr9) → zAt p l e (headSpec wsX5_sea { frames := 5, cells := 0, slots := 0, locals := 108 }).room s m ([.ref (ad 0)] : List Value).toArray below meth c 3 D cs ad (zQI below ([.ref (ad 0)] : List Value).toArray s D cs ad ((mE ki ad) G9 tr9) r9) 110 [(0, .ref (ad 0)), (1, .int x1)] [.int s0, .ref (ad 0)] ((mE ki ad) G tr) := by
    intro k74 hk74 x1 s0 G tr h H locs ls X hl
    unfold fX5_sea_b110 at h
    obtain ⟨r_2, G_3, tr_4, hf_1, h⟩ := zbd_some h
    refine zr_calli (Eg := (mE ki ad)) K X (va_runV (As := [.int s0]) (rest := []) S (mX5_takes l D ki ad cs hcs N s0 G tr H.size _ _ _ hf_1) (cwV 1 S.2.2.2.2 gX5_sea_X5_takes rfl rfl rfl (by decide +kernel) ⟨Nat.le_of_ble_eq_true rfl, Nat.le_of_ble_eq_true rfl⟩) (zr_preV (c0 := 0) K X (hcs 0 (by decide)) mE_R rfl) rfl rfl hl.1 rfl (lv_room (Nat.le_of_ble_eq_true rfl)) dX5_sea_110 ⟨Nat.zero_le _, Nat.zero_le _⟩) (fun H locs X => ?_)
    refine lv_istore_n (lv' := [(2, .int r_2), (0, .ref (ad 0)), (1, .int x1)]) S.1 S.2.1 dX5_sea_113 rfl hl (by decide) rfl (fun ls hl => ?_)
    refine lv_aload_n S.1 S.2.1 dX5_sea_114 rfl (lv_at hl 1 rfl) ?_
    obtain ⟨r_6, G_7, tr_8, hf_5, h⟩ := zbd_some h
    refine zr_calli (Eg := (mE ki ad)) K X (va_runV (As := []) (rest := []) S (mX5_isWell l D ki ad cs hcs N G_3 tr_4 H.size _ _ _ hf_5) (cwV 0 S.2.2.2.2 gX5_sea_X5_isWell rfl rfl rfl (by decide +kernel) ⟨Nat.le_of_ble_eq_true rfl, Nat.le_of_ble_eq_true rfl⟩) (zr_preV (c0 := 0) K X (hcs 0 (by decide)) mE_R rfl) rfl rfl hl.1 rfl (lv_room (Nat.le_of_ble_eq_true rfl)) dX5_sea_115 ⟨Nat.zero_le _, Nat.zero_le _⟩) (fun H locs X => ?_)
    refine lv_if_eq (tgt := 126) S.1 S.2.1 dX5_sea_118 (by decide) (fun hc_9 => ?_) (fun hc_9 => ?_)
    · have h := zif_pos hc_9 h
      exact b126 k74 hk74 x1 G_7 tr_8 h _ _ _ X (lv_sub hl [1, 2] rfl)
    · have h := zif_neg hc_9 h
      refine lv_aload_n S.1 S.2.1 dX5_sea_121 rfl (lv_at hl 1 rfl) ?_
      refine lv_iload_n S.1 S.2.1 dX5_sea_122 rfl (lv_at hl 0 rfl) ?_
      obtain ⟨r_11, G_12, tr_13, hf_10, h⟩ := zbd_some h
      refine zr_callv (Eg := (mE ki ad)) K X (va_runV (As := [.int r_2]) (rest := []) S (mX5_readsItem l D ki ad cs hcs N r_2 G_7 tr_8 H.size _ _ _ hf_10) (cwV 1 S.2.2.2.2 gX5_sea_X5_readsItem rfl rfl rfl (by decide +kernel) ⟨Nat.le_of_ble_eq_true rfl, Nat.le_of_ble_eq_true rfl⟩) (zr_preV (c0 := 0) K X (hcs 0 (by decide)) mE_R rfl) rfl rfl hl.1 rfl (lv_room (Nat.le_of_ble_eq_true rfl)) dX5_sea_123 ⟨Nat.zero_le _, Nat.zero_le _⟩) (fun H locs X => ?_)
      exact b126 k74 hk74 x1 G_12 tr_13 h _ _ _ X (lv_sub hl [1, 2] rfl)
  have b109 : ∀ (k74 : Int32 → zMem → Int64 → zR) (hk74 : ∀ (x1 : Int32) (G : zMem) (tr : Int64), k74 x1 G tr = some (r9, G9, tr9) → zAt p l e (headSpec wsX5_sea { frames := 5, cells := 0, slots := 0, locals := 108 }).room s m ([.ref (ad 0)] : List Value).toArray below meth c 3 D cs ad (zQI below ([.ref (ad 0)] : List Value).toArray s D cs ad ((mE ki ad) G9 tr9) r9) 74 [(0, .ref (ad 0)), (1, .int x1)] [] ((mE ki ad) G tr)) (x1 : Int32) (G : zMem) (tr : Int64), fX5_sea_b109 N k74 x1 G tr = some (r9, G9, tr9) → zAt p l e (headSpec wsX5_sea { frames := 5, cells := 0, slots := 0, locals := 108 }).room s m ([.ref (ad 0)] : List Value).toArray below meth c 3 D cs ad (zQI below ([.ref (ad 0)] : List Value).toArray s D cs ad ((mE ki ad) G9 tr9) r9) 109 [(0, .ref (ad 0)), (1, .int x1)] [.ref (ad 0)] ((mE ki ad) G tr) := by
    intro k74 hk74 x1 G tr h H locs ls X hl
    unfold fX5_sea_b109 at h
    refine lv_iconst (v := (0 : Int32)) S.1 S.2.1 dX5_sea_109 (by decide) ?_
    exact b110 k74 hk74 x1 (0 : Int32) G tr h _ _ _ X (lv_sub hl [0, 1] rfl)
  have b150 : ∀ (x1 : Int32) (G : zMem) (tr : Int64), fX5_sea_b150 N x1 G tr = some (r9, G9, tr9) → zAt p l e (headSpec wsX5_sea { frames := 5, cells := 0, slots := 0, locals := 108 }).room s m ([.ref (ad 0)] : List Value).toArray below meth c 3 D cs ad (zQI below ([.ref (ad 0)] : List Value).toArray s D cs ad ((mE ki ad) G9 tr9) r9) 150 [(0, .ref (ad 0)), (1, .int x1)] [] ((mE ki ad) G tr) := by
    intro x1 G tr h H locs ls X hl
    unfold fX5_sea_b150 at h
    refine lv_aload_n S.1 S.2.1 dX5_sea_150 rfl (lv_at hl 0 rfl) ?_
    obtain ⟨r_2, G_3, tr_4, hf_1, h⟩ := zbd_some h
    refine zr_calli (Eg := (mE ki ad)) K X (va_runV (As := []) (rest := []) S (mX5_isWell l D ki ad cs hcs N G tr H.size _ _ _ hf_1) (cwV 0 S.2.2.2.2 gX5_sea_X5_isWell rfl rfl rfl (by decide +kernel) ⟨Nat.le_of_ble_eq_true rfl, Nat.le_of_ble_eq_true rfl⟩) (zr_preV (c0 := 0) K X (hcs 0 (by decide)) mE_R rfl) rfl rfl hl.1 rfl (lv_room (Nat.le_of_ble_eq_true rfl)) dX5_sea_151 ⟨Nat.zero_le _, Nat.zero_le _⟩) (fun H locs X => ?_)
    refine lv_if_ne (tgt := 165) S.1 S.2.1 dX5_sea_154 (by decide) (fun hc_5 => ?_) (fun hc_5 => ?_)
    · have h := zif_neg hc_5 h
      refine lv_aload_n S.1 S.2.1 dX5_sea_165 rfl (lv_at hl 0 rfl) ?_
      obtain ⟨r_7, G_8, tr_9, hf_6, h⟩ := zbd_some h
      refine zr_callv (Eg := (mE ki ad)) K X (va_runV (As := []) (rest := []) S (mX5_settles l D ki ad cs hcs N G_3 tr_4 H.size _ _ _ hf_6) (cwV 0 S.2.2.2.2 gX5_sea_X5_settles rfl rfl rfl (by decide +kernel) ⟨Nat.le_of_ble_eq_true rfl, Nat.le_of_ble_eq_true rfl⟩) (zr_preV (c0 := 0) K X (hcs 0 (by decide)) mE_R rfl) rfl rfl hl.1 rfl (lv_room (Nat.le_of_ble_eq_true rfl)) dX5_sea_166 ⟨Nat.zero_le _, Nat.zero_le _⟩) (fun H locs X => ?_)
      refine lv_iload_n S.1 S.2.1 dX5_sea_169 rfl (lv_at hl 1 rfl) ?_
      exact zr_iret S hr hlk X h dX5_sea_170
    · have h := zif_pos hc_5 h
      refine lv_bipush (v := (-10 : Int32)) S.1 S.2.1 dX5_sea_157 (by decide) ?_
      refine lv_aload_n S.1 S.2.1 dX5_sea_159 rfl (lv_at hl 0 rfl) ?_
      refine zr_get (v := .int (G_3 0 8)) S K X (hcs 0 (by decide)) mE_R rfl uX5_sea_X5 8 (by decide) kX5_sea_74 rfl rfl dX5_sea_160 ?_
      refine lv_isub S.1 S.2.1 dX5_sea_163 ?_
      exact zr_iret S hr hlk X h dX5_sea_164
  have b74 : ∀ (k74 : Int32 → zMem → Int64 → zR) (hk74 : ∀ (x1 : Int32) (G : zMem) (tr : Int64), k74 x1 G tr = some (r9, G9, tr9) → zAt p l e (headSpec wsX5_sea { frames := 5, cells := 0, slots := 0, locals := 108 }).room s m ([.ref (ad 0)] : List Value).toArray below meth c 3 D cs ad (zQI below ([.ref (ad 0)] : List Value).toArray s D cs ad ((mE ki ad) G9 tr9) r9) 74 [(0, .ref (ad 0)), (1, .int x1)] [] ((mE ki ad) G tr)) (x1 : Int32) (G : zMem) (tr : Int64), fX5_sea_b74 N k74 x1 G tr = some (r9, G9, tr9) → zAt p l e (headSpec wsX5_sea { frames := 5, cells := 0, slots := 0, locals := 108 }).room s m ([.ref (ad 0)] : List Value).toArray below meth c 3 D cs ad (zQI below ([.ref (ad 0)] : List Value).toArray s D cs ad ((mE ki ad) G9 tr9) r9) 74 [(0, .ref (ad 0)), (1, .int x1)] [] ((mE ki ad) G tr) := by
    intro k74 hk74 x1 G tr h H locs ls X hl
    unfold fX5_sea_b74 at h
    refine lv_aload_n S.1 S.2.1 dX5_sea_74 rfl (lv_at hl 0 rfl) ?_
    obtain ⟨r_2, G_3, tr_4, hf_1, h⟩ := zbd_some h
    refine zr_calli (Eg := (mE ki ad)) K X (va_runV (As := []) (rest := []) S (mX5_isWell l D ki ad cs hcs N G tr H.size _ _ _ hf_1) (cwV 0 S.2.2.2.2 gX5_sea_X5_isWell rfl rfl rfl (by decide +kernel) ⟨Nat.le_of_ble_eq_true rfl, Nat.le_of_ble_eq_true rfl⟩) (zr_preV (c0 := 0) K X (hcs 0 (by decide)) mE_R rfl) rfl rfl hl.1 rfl (lv_room (Nat.le_of_ble_eq_true rfl)) dX5_sea_75 ⟨Nat.zero_le _, Nat.zero_le _⟩) (fun H locs X => ?_)
    refine lv_if_eq (tgt := 150) S.1 S.2.1 dX5_sea_78 (by decide) (fun hc_5 => ?_) (fun hc_5 => ?_)
    · have h := zif_pos hc_5 h
      exact b150 x1 G_3 tr_4 h _ _ _ X (lv_sub hl [0, 1] rfl)
    · have h := zif_neg hc_5 h
      refine lv_aload_n S.1 S.2.1 dX5_sea_81 rfl (lv_at hl 0 rfl) ?_
      refine zr_get (v := .int (G_3 0 5)) S K X (hcs 0 (by decide)) mE_R rfl uX5_sea_X5 5 (by decide) kX5_sea_68 rfl rfl dX5_sea_82 ?_
      refine lv_if_eq (tgt := 150) S.1 S.2.1 dX5_sea_85 (by decide) (fun hc_6 => ?_) (fun hc_6 => ?_)
      · have h := zif_pos hc_6 h
        exact b150 x1 G_3 tr_4 h _ _ _ X (lv_sub hl [0, 1] rfl)
      · have h := zif_neg hc_6 h
        refine lv_aload_n S.1 S.2.1 dX5_sea_88 rfl (lv_at hl 0 rfl) ?_
        refine lv_aload_n S.1 S.2.1 dX5_sea_89 rfl (lv_at hl 0 rfl) ?_
        refine zr_get (v := .int (G_3 0 5)) S K X (hcs 0 (by decide)) mE_R rfl uX5_sea_X5 5 (by decide) kX5_sea_68 rfl rfl dX5_sea_90 ?_
        refine lv_iconst (v := (1 : Int32)) S.1 S.2.1 dX5_sea_93 (by decide) ?_
        refine lv_icmp_ne (tgt := 109) S.1 S.2.1 dX5_sea_94 (by decide) (fun hc_7 => ?_) (fun hc_7 => ?_)
        · have h := zif_neg hc_7 h
          exact b109 k74 hk74 x1 G_3 tr_4 h _ _ _ X (lv_sub hl [0, 1] rfl)
        · have h := zif_pos hc_7 h
          refine lv_aload_n S.1 S.2.1 dX5_sea_97 rfl (lv_at hl 0 rfl) ?_
          refine lv_iload_n S.1 S.2.1 dX5_sea_98 rfl (lv_at hl 1 rfl) ?_
          obtain ⟨r_9, G_10, tr_11, hf_8, h⟩ := zbd_some h
          refine zr_calli (Eg := (mE ki ad)) K X (va_runV (As := [.int x1]) (rest := [.ref (ad 0)]) S (mX5_mayBegin l D ki ad cs hcs N x1 G_3 tr_4 H.size _ _ _ hf_8) (cwV 1 S.2.2.2.2 gX5_sea_X5_mayBegin rfl rfl rfl (by decide +kernel) ⟨Nat.le_of_ble_eq_true rfl, Nat.le_of_ble_eq_true rfl⟩) (zr_preV (c0 := 0) K X (hcs 0 (by decide)) mE_R rfl) rfl rfl hl.1 rfl (lv_room (Nat.le_of_ble_eq_true rfl)) dX5_sea_99 ⟨Nat.zero_le _, Nat.zero_le _⟩) (fun H locs X => ?_)
          refine lv_if_eq (tgt := 109) S.1 S.2.1 dX5_sea_102 (by decide) (fun hc_12 => ?_) (fun hc_12 => ?_)
          · have h := zif_pos hc_12 h
            exact b109 k74 hk74 x1 G_10 tr_11 h _ _ _ X (lv_sub hl [0, 1] rfl)
          · have h := zif_neg hc_12 h
            refine lv_iconst (v := (1 : Int32)) S.1 S.2.1 dX5_sea_105 (by decide) ?_
            refine lv_goto (tgt := 110) S.1 S.2.1 dX5_sea_106 (by decide) ?_
            exact b110 k74 hk74 x1 (1 : Int32) G_10 tr_11 h _ _ _ X (lv_sub hl [0, 1] rfl)
  have L74 : ∀ (n : Nat) (x1 : Int32) (G : zMem) (tr : Int64), fX5_sea_L74 N n x1 G tr = some (r9, G9, tr9) → zAt p l e (headSpec wsX5_sea { frames := 5, cells := 0, slots := 0, locals := 108 }).room s m ([.ref (ad 0)] : List Value).toArray below meth c 3 D cs ad (zQI below ([.ref (ad 0)] : List Value).toArray s D cs ad ((mE ki ad) G9 tr9) r9) 74 [(0, .ref (ad 0)), (1, .int x1)] [] ((mE ki ad) G tr) := by
    intro n
    induction n with
    | zero => intro x1 G tr h; cases h
    | succ n ih => intro x1 G tr h; exact b74 (fX5_sea_L74 N n) ih x1 G tr h
  unfold fX5_sea at h
  obtain ⟨H, hH⟩ : ∃ H, H = s.heap := ⟨_, rfl⟩
  obtain ⟨locs, hlo⟩ : ∃ locs : List Loc, locs = [] := ⟨_, rfl⟩
  have X : gS D cs ad ((mE ki ad) G tr) (gA cs ad s.heap.size) s H locs := by rw [hH, hlo]; exact X
  suffices z : W p l e (headSpec wsX5_sea { frames := 5, cells := 0, slots := 0, locals := 108 }).room s m ([.ref (ad 0)] : List Value).toArray below meth c H locs 0 0 (zQI below ([.ref (ad 0)] : List Value).toArray s D cs ad ((mE ki ad) G9 tr9) r9) (F0 m 0 ls []) by rw [hH, hlo] at z; exact z
  clear hH hlo
  refine lv_aload_n S.1 S.2.1 dX5_sea_0 rfl (lv_at hl 0 rfl) ?_
  refine lv_iconst (v := (0 : Int32)) S.1 S.2.1 dX5_sea_1 (by decide) ?_
  refine zr_put (xv := (0 : Int32)) (v := .int (0 : Int32)) (fsf := (fsR ad tr)) (ty := .int) S K X (hcs 0 (by decide)) mE_loc (fun _ => mE_R) rfl uX5_sea_X5 tyX5 tyX5_ok nmX5 0 (by decide) kX5_sea_47 rfl (by decide +kernel) rfl rfl (by simp) rfl dX5_sea_2 (fun H locs X => ?_)
  refine lv_aload_n S.1 S.2.1 dX5_sea_5 rfl (lv_at hl 0 rfl) ?_
  refine lv_iconst (v := (-1 : Int32)) S.1 S.2.1 dX5_sea_6 (by decide) ?_
  refine zr_put (xv := (-1 : Int32)) (v := .int (-1 : Int32)) (fsf := (fsR ad tr)) (ty := .int) S K X (hcs 0 (by decide)) mE_loc (fun _ => mE_R) rfl uX5_sea_X5 tyX5 tyX5_ok nmX5 8 (by decide) kX5_sea_74 rfl (by decide +kernel) rfl rfl (by simp) rfl dX5_sea_7 (fun H locs X => ?_)
  refine lv_aload_n S.1 S.2.1 dX5_sea_10 rfl (lv_at hl 0 rfl) ?_
  refine lv_iconst (v := (0 : Int32)) S.1 S.2.1 dX5_sea_11 (by decide) ?_
  refine zr_put (xv := (0 : Int32)) (v := .int (0 : Int32)) (fsf := (fsR ad tr)) (ty := .int) S K X (hcs 0 (by decide)) mE_loc (fun _ => mE_R) rfl uX5_sea_X5 tyX5 tyX5_ok nmX5 4 (by decide) kX5_sea_58 rfl (by decide +kernel) rfl rfl (by simp) rfl dX5_sea_12 (fun H locs X => ?_)
  refine lv_iconst (v := (0 : Int32)) S.1 S.2.1 dX5_sea_15 (by decide) ?_
  refine lv_istore_n (lv' := [(1, .int (0 : Int32)), (0, .ref (ad 0))]) S.1 S.2.1 dX5_sea_16 rfl hl (by decide) rfl (fun ls hl => ?_)
  refine lv_aload_n S.1 S.2.1 dX5_sea_17 rfl (lv_at hl 1 rfl) ?_
  refine zr_get (v := .ref (ad 2)) S K X (hcs 0 (by decide)) mE_R rfl uX5_sea_X5 9 (by decide) kX5_sea_13 rfl rfl dX5_sea_18 ?_
  refine lv_bipush (v := (6 : Int32)) S.1 S.2.1 dX5_sea_21 (by decide) ?_
  refine lv_iconst (v := (4 : Int32)) S.1 S.2.1 dX5_sea_23 (by decide) ?_
  obtain ⟨hi_1, h⟩ := zin_some h
  refine zr_iast S K X (hcs 2 (by decide)) mE_loc (fun _ => mE_2) hi_1 dX5_sea_24 (fun H locs X => ?_)
  refine lv_aload_n S.1 S.2.1 dX5_sea_25 rfl (lv_at hl 1 rfl) ?_
  refine zr_get (v := .ref (ad 2)) S K X (hcs 0 (by decide)) mE_R rfl uX5_sea_X5 9 (by decide) kX5_sea_13 rfl rfl dX5_sea_26 ?_
  refine lv_bipush (v := (7 : Int32)) S.1 S.2.1 dX5_sea_29 (by decide) ?_
  refine lv_iconst (v := (4 : Int32)) S.1 S.2.1 dX5_sea_31 (by decide) ?_
  obtain ⟨hi_2, h⟩ := zin_some h
  refine zr_iast S K X (hcs 2 (by decide)) mE_loc (fun _ => mE_2) hi_2 dX5_sea_32 (fun H locs X => ?_)
  refine lv_aload_n S.1 S.2.1 dX5_sea_33 rfl (lv_at hl 1 rfl) ?_
  refine zr_get (v := .ref (ad 2)) S K X (hcs 0 (by decide)) mE_R rfl uX5_sea_X5 9 (by decide) kX5_sea_13 rfl rfl dX5_sea_34 ?_
  refine lv_bipush (v := (8 : Int32)) S.1 S.2.1 dX5_sea_37 (by decide) ?_
  refine lv_iconst (v := (0 : Int32)) S.1 S.2.1 dX5_sea_39 (by decide) ?_
  obtain ⟨hi_3, h⟩ := zin_some h
  refine zr_iast S K X (hcs 2 (by decide)) mE_loc (fun _ => mE_2) hi_3 dX5_sea_40 (fun H locs X => ?_)
  refine lv_aload_n S.1 S.2.1 dX5_sea_41 rfl (lv_at hl 1 rfl) ?_
  refine zr_get (v := .ref (ad 2)) S K X (hcs 0 (by decide)) mE_R rfl uX5_sea_X5 9 (by decide) kX5_sea_13 rfl rfl dX5_sea_42 ?_
  refine lv_bipush (v := (9 : Int32)) S.1 S.2.1 dX5_sea_45 (by decide) ?_
  refine lv_iconst (v := (0 : Int32)) S.1 S.2.1 dX5_sea_47 (by decide) ?_
  obtain ⟨hi_4, h⟩ := zin_some h
  refine zr_iast S K X (hcs 2 (by decide)) mE_loc (fun _ => mE_2) hi_4 dX5_sea_48 (fun H locs X => ?_)
  refine lv_aload_n S.1 S.2.1 dX5_sea_49 rfl (lv_at hl 1 rfl) ?_
  refine zr_get (v := .ref (ad 2)) S K X (hcs 0 (by decide)) mE_R rfl uX5_sea_X5 9 (by decide) kX5_sea_13 rfl rfl dX5_sea_50 ?_
  refine lv_bipush (v := (10 : Int32)) S.1 S.2.1 dX5_sea_53 (by decide) ?_
  refine lv_iconst (v := (0 : Int32)) S.1 S.2.1 dX5_sea_55 (by decide) ?_
  obtain ⟨hi_5, h⟩ := zin_some h
  refine zr_iast S K X (hcs 2 (by decide)) mE_loc (fun _ => mE_2) hi_5 dX5_sea_56 (fun H locs X => ?_)
  refine lv_aload_n S.1 S.2.1 dX5_sea_57 rfl (lv_at hl 1 rfl) ?_
  refine zr_get (v := .ref (ad 2)) S K X (hcs 0 (by decide)) mE_R rfl uX5_sea_X5 9 (by decide) kX5_sea_13 rfl rfl dX5_sea_58 ?_
  refine lv_bipush (v := (11 : Int32)) S.1 S.2.1 dX5_sea_61 (by decide) ?_
  refine lv_iconst (v := (3 : Int32)) S.1 S.2.1 dX5_sea_63 (by decide) ?_
  obtain ⟨hi_6, h⟩ := zin_some h
  refine zr_iast S K X (hcs 2 (by decide)) mE_loc (fun _ => mE_2) hi_6 dX5_sea_64 (fun H locs X => ?_)
  refine lv_aload_n S.1 S.2.1 dX5_sea_65 rfl (lv_at hl 1 rfl) ?_
  refine lv_iconst (v := (0 : Int32)) S.1 S.2.1 dX5_sea_66 (by decide) ?_
  obtain ⟨hz_7, h⟩ := zbo_some h
  refine zr_put (xv := (0 : Int32)) (v := .int (0 : Int32)) (fsf := (fsR ad tr)) (ty := .boolean) S K X (hcs 0 (by decide)) mE_loc (fun _ => mE_R) rfl uX5_sea_X5 tyX5 tyX5_ok nmX5 13 (by decide) kX5_sea_88 rfl (by decide +kernel) (zbo_nar hz_7) rfl (by simp) rfl dX5_sea_67 (fun H locs X => ?_)
  refine lv_aload_n S.1 S.2.1 dX5_sea_70 rfl (lv_at hl 1 rfl) ?_
  obtain ⟨r_9, G_10, tr_11, hf_8, h⟩ := zbd_some h
  refine zr_callv (Eg := (mE ki ad)) K X (va_runV (As := []) (rest := []) S (mX5_advances l D ki ad cs hcs N (up2 (up2 (up2 (up2 (up2 (up2 (up2 (up2 (up2 (up2 G 0 0 (0 : Int32)) 0 8 (-1 : Int32)) 0 4 (0 : Int32)) 2 (Int32.toNatClampNeg (6 : Int32)) (4 : Int32)) 2 (Int32.toNatClampNeg (7 : Int32)) (4 : Int32)) 2 (Int32.toNatClampNeg (8 : Int32)) (0 : Int32)) 2 (Int32.toNatClampNeg (9 : Int32)) (0 : Int32)) 2 (Int32.toNatClampNeg (10 : Int32)) (0 : Int32)) 2 (Int32.toNatClampNeg (11 : Int32)) (3 : Int32)) 0 13 (0 : Int32)) tr H.size _ _ _ hf_8) (cwV 0 S.2.2.2.2 gX5_sea_X5_advances rfl rfl rfl (by decide +kernel) ⟨Nat.le_of_ble_eq_true rfl, Nat.le_of_ble_eq_true rfl⟩) (zr_preV (c0 := 0) K X (hcs 0 (by decide)) mE_R rfl) rfl rfl hl.1 rfl (lv_room (Nat.le_of_ble_eq_true rfl)) dX5_sea_71 ⟨Nat.zero_le _, Nat.zero_le _⟩) (fun H locs X => ?_)
  exact L74 N (0 : Int32) G_10 tr_11 h _ _ _ X (lv_sub hl [1, 0] rfl)
set_option maxRecDepth 20000 in
theorem ggX5_isIsle_X5_in : GoodIn wsX5_isIsle wsX5_in := goodIn_r _ [5] (by decide +kernel) (by decide +kernel)
set_option maxRecDepth 20000 in
theorem gX5_isIsle_X5_in : GoodIn wsX5_isIsle (va_wsS RX5 51 yX5_in wsX5_in) := goodIn_app (goodIn_of _ (by decide +kernel)) ggX5_isIsle_X5_in
theorem dX5_isIsle_0 : decode cX5_isIsle 0 = .ok (.iload_n 1, 1) := by decide +kernel
theorem dX5_isIsle_1 : decode cX5_isIsle 1 = .ok (.iconst 0, 1) := by decide +kernel
theorem dX5_isIsle_2 : decode cX5_isIsle 2 = .ok (.aload_n 0, 1) := by decide +kernel
theorem dX5_isIsle_3 : decode cX5_isIsle 3 = .ok (.getfield 13, 3) := by decide +kernel
theorem dX5_isIsle_6 : decode cX5_isIsle 6 = .ok (.iconst 2, 1) := by decide +kernel
theorem dX5_isIsle_7 : decode cX5_isIsle 7 = .ok (.iaload, 1) := by decide +kernel
theorem dX5_isIsle_8 : decode cX5_isIsle 8 = .ok (.iconst 1, 1) := by decide +kernel
theorem dX5_isIsle_9 : decode cX5_isIsle 9 = .ok (.isub, 1) := by decide +kernel
theorem dX5_isIsle_10 : decode cX5_isIsle 10 = .ok (.invokestatic 51, 3) := by decide +kernel
theorem dX5_isIsle_13 : decode cX5_isIsle 13 = .ok (.ireturn, 1) := by decide +kernel
set_option maxRecDepth 20000 in
theorem kX5_isIsle_13 : Cond.fieldLink RX5 13 "WindPostModel" "many" "[I" ∈ wsX5_isIsle := by decide +kernel
set_option maxRecDepth 20000 in
theorem uX5_isIsle_X5 : ∀ w ∈ wsX50, w ∈ wsX5_isIsle := by decide +kernel
set_option maxHeartbeats 8000000 in
set_option maxRecDepth 100000 in
theorem mX5_isIsle (l : Launch) (D : va_G) (ki : Nat → ClassId) (ad : Nat → Nat) (cs : List Nat) (hcs : kR cs) (N : Nat) (a1 : Int32) (G : zMem) (tr : Int64) : gMetI l D ki ad cs yX5_isIsle wsX5_isIsle { frames := 1, cells := 0, slots := 0, locals := 22 } [.ref (ad 0), .int a1] (mE ki ad) G tr (fX5_isIsle N a1 G tr) := by
  refine gMetI_of (cc := cX5_isIsle) (maxL := 2) (ret := (some .boolean)) (own := RX5) (by decide +kernel) rfl rfl (Nat.le_of_ble_eq_true rfl) ?_
  intro r9 G9 tr9 h p e s m below meth c S hr hlk K X ls hl
  have hl : lv_has ls 2 [(0, .ref (ad 0)), (1, .int a1)] := hl
  unfold fX5_isIsle at h
  obtain ⟨H, hH⟩ : ∃ H, H = s.heap := ⟨_, rfl⟩
  obtain ⟨locs, hlo⟩ : ∃ locs : List Loc, locs = [] := ⟨_, rfl⟩
  have X : gS D cs ad ((mE ki ad) G tr) (gA cs ad s.heap.size) s H locs := by rw [hH, hlo]; exact X
  suffices z : W p l e (headSpec wsX5_isIsle { frames := 1, cells := 0, slots := 0, locals := 22 }).room s m ([.ref (ad 0), .int a1] : List Value).toArray below meth c H locs 0 0 (zQI below ([.ref (ad 0), .int a1] : List Value).toArray s D cs ad ((mE ki ad) G9 tr9) r9) (F0 m 0 ls []) by rw [hH, hlo] at z; exact z
  clear hH hlo
  refine lv_iload_n S.1 S.2.1 dX5_isIsle_0 rfl (lv_at hl 1 rfl) ?_
  refine lv_iconst (v := (0 : Int32)) S.1 S.2.1 dX5_isIsle_1 (by decide) ?_
  refine lv_aload_n S.1 S.2.1 dX5_isIsle_2 rfl (lv_at hl 0 rfl) ?_
  refine zr_get (v := .ref (ad 2)) S K X (hcs 0 (by decide)) mE_R rfl uX5_isIsle_X5 9 (by decide) kX5_isIsle_13 rfl rfl dX5_isIsle_3 ?_
  refine lv_iconst (v := (2 : Int32)) S.1 S.2.1 dX5_isIsle_6 (by decide) ?_
  obtain ⟨hi_1, h⟩ := zin_some h
  refine zr_iald S K X (hcs 2 (by decide)) mE_2 hi_1 dX5_isIsle_7 ?_
  refine lv_iconst (v := (1 : Int32)) S.1 S.2.1 dX5_isIsle_8 (by decide) ?_
  refine lv_isub S.1 S.2.1 dX5_isIsle_9 ?_
  obtain ⟨r_3, hf_2, h⟩ := zbp_some h
  refine zr_calli (Eg := (mE ki ad)) (G' := G) (tr' := tr) K X (va_runS (As := [.int a1, .int (0 : Int32), .int ((G 2 (Int32.toNatClampNeg (2 : Int32))) - (1 : Int32))]) (rest := []) S (mX5_in l D ki ad cs N a1 (0 : Int32) ((G 2 (Int32.toNatClampNeg (2 : Int32))) - (1 : Int32)) (mE ki ad) G tr H.size _ _ _ (zpu_of hf_2)) (va_cwS 3 S.2.2.2.2 gX5_isIsle_X5_in rfl rfl rfl (by decide +kernel) ⟨Nat.le_of_ble_eq_true rfl, Nat.le_of_ble_eq_true rfl⟩) (zr_pre K X) rfl rfl hl.1 rfl (lv_room (Nat.le_of_ble_eq_true rfl)) dX5_isIsle_10 ⟨Nat.zero_le _, Nat.zero_le _⟩) (fun H locs X => ?_)
  exact zr_zret S hr hlk X h dX5_isIsle_13
set_option maxRecDepth 20000 in
theorem ggX5_isLetter_X5_in : GoodIn wsX5_isLetter wsX5_in := goodIn_r _ [5] (by decide +kernel) (by decide +kernel)
set_option maxRecDepth 20000 in
theorem gX5_isLetter_X5_in : GoodIn wsX5_isLetter (va_wsS RX5 51 yX5_in wsX5_in) := goodIn_app (goodIn_of _ (by decide +kernel)) ggX5_isLetter_X5_in
theorem dX5_isLetter_0 : decode cX5_isLetter 0 = .ok (.iload_n 1, 1) := by decide +kernel
theorem dX5_isLetter_1 : decode cX5_isLetter 1 = .ok (.iconst 0, 1) := by decide +kernel
theorem dX5_isLetter_2 : decode cX5_isLetter 2 = .ok (.aload_n 0, 1) := by decide +kernel
theorem dX5_isLetter_3 : decode cX5_isLetter 3 = .ok (.getfield 25, 3) := by decide +kernel
theorem dX5_isLetter_6 : decode cX5_isLetter 6 = .ok (.iconst 1, 1) := by decide +kernel
theorem dX5_isLetter_7 : decode cX5_isLetter 7 = .ok (.iaload, 1) := by decide +kernel
theorem dX5_isLetter_8 : decode cX5_isLetter 8 = .ok (.iconst 1, 1) := by decide +kernel
theorem dX5_isLetter_9 : decode cX5_isLetter 9 = .ok (.isub, 1) := by decide +kernel
theorem dX5_isLetter_10 : decode cX5_isLetter 10 = .ok (.invokestatic 51, 3) := by decide +kernel
theorem dX5_isLetter_13 : decode cX5_isLetter 13 = .ok (.ireturn, 1) := by decide +kernel
set_option maxRecDepth 20000 in
theorem kX5_isLetter_25 : Cond.fieldLink RX5 25 "WindPostModel" "s" "[I" ∈ wsX5_isLetter := by decide +kernel
set_option maxRecDepth 20000 in
theorem uX5_isLetter_X5 : ∀ w ∈ wsX50, w ∈ wsX5_isLetter := by decide +kernel
set_option maxHeartbeats 8000000 in
set_option maxRecDepth 100000 in
theorem mX5_isLetter (l : Launch) (D : va_G) (ki : Nat → ClassId) (ad : Nat → Nat) (cs : List Nat) (hcs : kR cs) (N : Nat) (a1 : Int32) (G : zMem) (tr : Int64) : gMetI l D ki ad cs yX5_isLetter wsX5_isLetter { frames := 1, cells := 0, slots := 0, locals := 22 } [.ref (ad 0), .int a1] (mE ki ad) G tr (fX5_isLetter N a1 G tr) := by
  refine gMetI_of (cc := cX5_isLetter) (maxL := 2) (ret := (some .boolean)) (own := RX5) (by decide +kernel) rfl rfl (Nat.le_of_ble_eq_true rfl) ?_
  intro r9 G9 tr9 h p e s m below meth c S hr hlk K X ls hl
  have hl : lv_has ls 2 [(0, .ref (ad 0)), (1, .int a1)] := hl
  unfold fX5_isLetter at h
  obtain ⟨H, hH⟩ : ∃ H, H = s.heap := ⟨_, rfl⟩
  obtain ⟨locs, hlo⟩ : ∃ locs : List Loc, locs = [] := ⟨_, rfl⟩
  have X : gS D cs ad ((mE ki ad) G tr) (gA cs ad s.heap.size) s H locs := by rw [hH, hlo]; exact X
  suffices z : W p l e (headSpec wsX5_isLetter { frames := 1, cells := 0, slots := 0, locals := 22 }).room s m ([.ref (ad 0), .int a1] : List Value).toArray below meth c H locs 0 0 (zQI below ([.ref (ad 0), .int a1] : List Value).toArray s D cs ad ((mE ki ad) G9 tr9) r9) (F0 m 0 ls []) by rw [hH, hlo] at z; exact z
  clear hH hlo
  refine lv_iload_n S.1 S.2.1 dX5_isLetter_0 rfl (lv_at hl 1 rfl) ?_
  refine lv_iconst (v := (0 : Int32)) S.1 S.2.1 dX5_isLetter_1 (by decide) ?_
  refine lv_aload_n S.1 S.2.1 dX5_isLetter_2 rfl (lv_at hl 0 rfl) ?_
  refine zr_get (v := .ref (ad 6)) S K X (hcs 0 (by decide)) mE_R rfl uX5_isLetter_X5 14 (by decide) kX5_isLetter_25 rfl rfl dX5_isLetter_3 ?_
  refine lv_iconst (v := (1 : Int32)) S.1 S.2.1 dX5_isLetter_6 (by decide) ?_
  obtain ⟨hi_1, h⟩ := zin_some h
  refine zr_iald S K X (hcs 6 (by decide)) mE_6 hi_1 dX5_isLetter_7 ?_
  refine lv_iconst (v := (1 : Int32)) S.1 S.2.1 dX5_isLetter_8 (by decide) ?_
  refine lv_isub S.1 S.2.1 dX5_isLetter_9 ?_
  obtain ⟨r_3, hf_2, h⟩ := zbp_some h
  refine zr_calli (Eg := (mE ki ad)) (G' := G) (tr' := tr) K X (va_runS (As := [.int a1, .int (0 : Int32), .int ((G 6 (Int32.toNatClampNeg (1 : Int32))) - (1 : Int32))]) (rest := []) S (mX5_in l D ki ad cs N a1 (0 : Int32) ((G 6 (Int32.toNatClampNeg (1 : Int32))) - (1 : Int32)) (mE ki ad) G tr H.size _ _ _ (zpu_of hf_2)) (va_cwS 3 S.2.2.2.2 gX5_isLetter_X5_in rfl rfl rfl (by decide +kernel) ⟨Nat.le_of_ble_eq_true rfl, Nat.le_of_ble_eq_true rfl⟩) (zr_pre K X) rfl rfl hl.1 rfl (lv_room (Nat.le_of_ble_eq_true rfl)) dX5_isLetter_10 ⟨Nat.zero_le _, Nat.zero_le _⟩) (fun H locs X => ?_)
  exact zr_zret S hr hlk X h dX5_isLetter_13
theorem dX5_isleAt_0 : decode cX5_isleAt 0 = .ok (.iconst 0, 1) := by decide +kernel
theorem dX5_isleAt_1 : decode cX5_isleAt 1 = .ok (.istore_n 2, 1) := by decide +kernel
theorem dX5_isleAt_2 : decode cX5_isleAt 2 = .ok (.iload_n 2, 1) := by decide +kernel
theorem dX5_isleAt_3 : decode cX5_isleAt 3 = .ok (.aload_n 0, 1) := by decide +kernel
theorem dX5_isleAt_4 : decode cX5_isleAt 4 = .ok (.getfield 13, 3) := by decide +kernel
theorem dX5_isleAt_7 : decode cX5_isleAt 7 = .ok (.iconst 2, 1) := by decide +kernel
theorem dX5_isleAt_8 : decode cX5_isleAt 8 = .ok (.iaload, 1) := by decide +kernel
theorem dX5_isleAt_9 : decode cX5_isleAt 9 = .ok (.if_icmp .ge 21, 3) := by decide +kernel
theorem dX5_isleAt_12 : decode cX5_isleAt 12 = .ok (.aload_n 0, 1) := by decide +kernel
theorem dX5_isleAt_13 : decode cX5_isleAt 13 = .ok (.getfield 16, 3) := by decide +kernel
theorem dX5_isleAt_16 : decode cX5_isleAt 16 = .ok (.iload_n 2, 1) := by decide +kernel
theorem dX5_isleAt_17 : decode cX5_isleAt 17 = .ok (.iaload, 1) := by decide +kernel
theorem dX5_isleAt_18 : decode cX5_isleAt 18 = .ok (.iload_n 1, 1) := by decide +kernel
theorem dX5_isleAt_19 : decode cX5_isleAt 19 = .ok (.if_icmp .ne 5, 3) := by decide +kernel
theorem dX5_isleAt_22 : decode cX5_isleAt 22 = .ok (.iload_n 2, 1) := by decide +kernel
theorem dX5_isleAt_23 : decode cX5_isleAt 23 = .ok (.ireturn, 1) := by decide +kernel
theorem dX5_isleAt_24 : decode cX5_isleAt 24 = .ok (.iinc 2 1, 3) := by decide +kernel
theorem dX5_isleAt_27 : decode cX5_isleAt 27 = .ok (.goto (-25), 3) := by decide +kernel
theorem dX5_isleAt_30 : decode cX5_isleAt 30 = .ok (.bipush (-9), 2) := by decide +kernel
theorem dX5_isleAt_32 : decode cX5_isleAt 32 = .ok (.ireturn, 1) := by decide +kernel
set_option maxRecDepth 20000 in
theorem kX5_isleAt_13 : Cond.fieldLink RX5 13 "WindPostModel" "many" "[I" ∈ wsX5_isleAt := by decide +kernel
set_option maxRecDepth 20000 in
theorem kX5_isleAt_16 : Cond.fieldLink RX5 16 "WindPostModel" "isles" "[I" ∈ wsX5_isleAt := by decide +kernel
set_option maxRecDepth 20000 in
theorem uX5_isleAt_X5 : ∀ w ∈ wsX50, w ∈ wsX5_isleAt := by decide +kernel
set_option maxHeartbeats 8000000 in
set_option maxRecDepth 100000 in
theorem mX5_isleAt (l : Launch) (D : va_G) (ki : Nat → ClassId) (ad : Nat → Nat) (cs : List Nat) (hcs : kR cs) (N : Nat) (a1 : Int32) (G : zMem) (tr : Int64) : gMetI l D ki ad cs yX5_isleAt wsX5_isleAt { frames := 0, cells := 0, slots := 0, locals := 0 } [.ref (ad 0), .int a1] (mE ki ad) G tr (fX5_isleAt N a1 G tr) := by
  refine gMetI_of (cc := cX5_isleAt) (maxL := 3) (ret := (some .int)) (own := RX5) (by decide +kernel) rfl rfl (Nat.le_of_ble_eq_true rfl) ?_
  intro r9 G9 tr9 h p e s m below meth c S hr hlk K X ls hl
  have hl : lv_has ls 3 [(0, .ref (ad 0)), (1, .int a1)] := hl
  have b2 : ∀ (k2 : Int32 → zMem → Int64 → zR) (hk2 : ∀ (x2 : Int32) (G : zMem) (tr : Int64), k2 x2 G tr = some (r9, G9, tr9) → zAt p l e (headSpec wsX5_isleAt { frames := 0, cells := 0, slots := 0, locals := 0 }).room s m ([.ref (ad 0), .int a1] : List Value).toArray below meth c 3 D cs ad (zQI below ([.ref (ad 0), .int a1] : List Value).toArray s D cs ad ((mE ki ad) G9 tr9) r9) 2 [(0, .ref (ad 0)), (1, .int a1), (2, .int x2)] [] ((mE ki ad) G tr)) (x2 : Int32) (G : zMem) (tr : Int64), fX5_isleAt_b2 N a1 k2 x2 G tr = some (r9, G9, tr9) → zAt p l e (headSpec wsX5_isleAt { frames := 0, cells := 0, slots := 0, locals := 0 }).room s m ([.ref (ad 0), .int a1] : List Value).toArray below meth c 3 D cs ad (zQI below ([.ref (ad 0), .int a1] : List Value).toArray s D cs ad ((mE ki ad) G9 tr9) r9) 2 [(0, .ref (ad 0)), (1, .int a1), (2, .int x2)] [] ((mE ki ad) G tr) := by
    intro k2 hk2 x2 G tr h H locs ls X hl
    unfold fX5_isleAt_b2 at h
    refine lv_iload_n S.1 S.2.1 dX5_isleAt_2 rfl (lv_at hl 2 rfl) ?_
    refine lv_aload_n S.1 S.2.1 dX5_isleAt_3 rfl (lv_at hl 0 rfl) ?_
    refine zr_get (v := .ref (ad 2)) S K X (hcs 0 (by decide)) mE_R rfl uX5_isleAt_X5 9 (by decide) kX5_isleAt_13 rfl rfl dX5_isleAt_4 ?_
    refine lv_iconst (v := (2 : Int32)) S.1 S.2.1 dX5_isleAt_7 (by decide) ?_
    obtain ⟨hi_1, h⟩ := zin_some h
    refine zr_iald S K X (hcs 2 (by decide)) mE_2 hi_1 dX5_isleAt_8 ?_
    refine lv_icmp_ge (tgt := 30) S.1 S.2.1 dX5_isleAt_9 (by decide) (fun hc_2 => ?_) (fun hc_2 => ?_)
    · have h := zif_pos hc_2 h
      refine lv_bipush (v := (-9 : Int32)) S.1 S.2.1 dX5_isleAt_30 (by decide) ?_
      exact zr_iret S hr hlk X h dX5_isleAt_32
    · have h := zif_neg hc_2 h
      refine lv_aload_n S.1 S.2.1 dX5_isleAt_12 rfl (lv_at hl 0 rfl) ?_
      refine zr_get (v := .ref (ad 3)) S K X (hcs 0 (by decide)) mE_R rfl uX5_isleAt_X5 10 (by decide) kX5_isleAt_16 rfl rfl dX5_isleAt_13 ?_
      refine lv_iload_n S.1 S.2.1 dX5_isleAt_16 rfl (lv_at hl 2 rfl) ?_
      obtain ⟨hi_3, h⟩ := zin_some h
      refine zr_iald S K X (hcs 3 (by decide)) mE_3 hi_3 dX5_isleAt_17 ?_
      refine lv_iload_n S.1 S.2.1 dX5_isleAt_18 rfl (lv_at hl 1 rfl) ?_
      refine lv_icmp_ne (tgt := 24) S.1 S.2.1 dX5_isleAt_19 (by decide) (fun hc_4 => ?_) (fun hc_4 => ?_)
      · have h := zif_neg hc_4 h
        refine lv_iinc (v := (x2 + 1)) (lv' := [(2, .int (x2 + 1)), (0, .ref (ad 0)), (1, .int a1)]) S.1 S.2.1 dX5_isleAt_24 hl (k := 2) rfl rfl (by decide) rfl (fun ls hl => ?_)
        refine lv_goto (tgt := 2) S.1 S.2.1 dX5_isleAt_27 (by decide) ?_
        exact hk2 (x2 + 1) G tr h _ _ _ X (lv_sub hl [1, 2, 0] rfl)
      · have h := zif_pos hc_4 h
        refine lv_iload_n S.1 S.2.1 dX5_isleAt_22 rfl (lv_at hl 2 rfl) ?_
        exact zr_iret S hr hlk X h dX5_isleAt_23
  have L2 : ∀ (n : Nat) (x2 : Int32) (G : zMem) (tr : Int64), fX5_isleAt_L2 N a1 n x2 G tr = some (r9, G9, tr9) → zAt p l e (headSpec wsX5_isleAt { frames := 0, cells := 0, slots := 0, locals := 0 }).room s m ([.ref (ad 0), .int a1] : List Value).toArray below meth c 3 D cs ad (zQI below ([.ref (ad 0), .int a1] : List Value).toArray s D cs ad ((mE ki ad) G9 tr9) r9) 2 [(0, .ref (ad 0)), (1, .int a1), (2, .int x2)] [] ((mE ki ad) G tr) := by
    intro n
    induction n with
    | zero => intro x2 G tr h; cases h
    | succ n ih => intro x2 G tr h; exact b2 (fX5_isleAt_L2 N a1 n) ih x2 G tr h
  unfold fX5_isleAt at h
  obtain ⟨H, hH⟩ : ∃ H, H = s.heap := ⟨_, rfl⟩
  obtain ⟨locs, hlo⟩ : ∃ locs : List Loc, locs = [] := ⟨_, rfl⟩
  have X : gS D cs ad ((mE ki ad) G tr) (gA cs ad s.heap.size) s H locs := by rw [hH, hlo]; exact X
  suffices z : W p l e (headSpec wsX5_isleAt { frames := 0, cells := 0, slots := 0, locals := 0 }).room s m ([.ref (ad 0), .int a1] : List Value).toArray below meth c H locs 0 0 (zQI below ([.ref (ad 0), .int a1] : List Value).toArray s D cs ad ((mE ki ad) G9 tr9) r9) (F0 m 0 ls []) by rw [hH, hlo] at z; exact z
  clear hH hlo
  refine lv_iconst (v := (0 : Int32)) S.1 S.2.1 dX5_isleAt_0 (by decide) ?_
  refine lv_istore_n (lv' := [(2, .int (0 : Int32)), (0, .ref (ad 0)), (1, .int a1)]) S.1 S.2.1 dX5_isleAt_1 rfl hl (by decide) rfl (fun ls hl => ?_)
  exact L2 N (0 : Int32) G tr h _ _ _ X (lv_sub hl [1, 2, 0] rfl)
theorem dX5_isHill_0 : decode cX5_isHill 0 = .ok (.iconst 0, 1) := by decide +kernel
theorem dX5_isHill_1 : decode cX5_isHill 1 = .ok (.istore_n 2, 1) := by decide +kernel
theorem dX5_isHill_2 : decode cX5_isHill 2 = .ok (.iconst 0, 1) := by decide +kernel
theorem dX5_isHill_3 : decode cX5_isHill 3 = .ok (.istore_n 3, 1) := by decide +kernel
theorem dX5_isHill_4 : decode cX5_isHill 4 = .ok (.iload_n 3, 1) := by decide +kernel
theorem dX5_isHill_5 : decode cX5_isHill 5 = .ok (.aload_n 0, 1) := by decide +kernel
theorem dX5_isHill_6 : decode cX5_isHill 6 = .ok (.getfield 13, 3) := by decide +kernel
theorem dX5_isHill_9 : decode cX5_isHill 9 = .ok (.iconst 3, 1) := by decide +kernel
theorem dX5_isHill_10 : decode cX5_isHill 10 = .ok (.iaload, 1) := by decide +kernel
theorem dX5_isHill_11 : decode cX5_isHill 11 = .ok (.if_icmp .ge 29, 3) := by decide +kernel
theorem dX5_isHill_14 : decode cX5_isHill 14 = .ok (.iload_n 2, 1) := by decide +kernel
theorem dX5_isHill_15 : decode cX5_isHill 15 = .ok (.ifCond .ne 13, 3) := by decide +kernel
theorem dX5_isHill_18 : decode cX5_isHill 18 = .ok (.aload_n 0, 1) := by decide +kernel
theorem dX5_isHill_19 : decode cX5_isHill 19 = .ok (.getfield 19, 3) := by decide +kernel
theorem dX5_isHill_22 : decode cX5_isHill 22 = .ok (.iload_n 3, 1) := by decide +kernel
theorem dX5_isHill_23 : decode cX5_isHill 23 = .ok (.iaload, 1) := by decide +kernel
theorem dX5_isHill_24 : decode cX5_isHill 24 = .ok (.iload_n 1, 1) := by decide +kernel
theorem dX5_isHill_25 : decode cX5_isHill 25 = .ok (.if_icmp .ne 7, 3) := by decide +kernel
theorem dX5_isHill_28 : decode cX5_isHill 28 = .ok (.iconst 1, 1) := by decide +kernel
theorem dX5_isHill_29 : decode cX5_isHill 29 = .ok (.goto 4, 3) := by decide +kernel
theorem dX5_isHill_32 : decode cX5_isHill 32 = .ok (.iconst 0, 1) := by decide +kernel
theorem dX5_isHill_33 : decode cX5_isHill 33 = .ok (.istore_n 2, 1) := by decide +kernel
theorem dX5_isHill_34 : decode cX5_isHill 34 = .ok (.iinc 3 1, 3) := by decide +kernel
theorem dX5_isHill_37 : decode cX5_isHill 37 = .ok (.goto (-33), 3) := by decide +kernel
theorem dX5_isHill_40 : decode cX5_isHill 40 = .ok (.iload_n 2, 1) := by decide +kernel
theorem dX5_isHill_41 : decode cX5_isHill 41 = .ok (.ireturn, 1) := by decide +kernel
set_option maxRecDepth 20000 in
theorem kX5_isHill_13 : Cond.fieldLink RX5 13 "WindPostModel" "many" "[I" ∈ wsX5_isHill := by decide +kernel
set_option maxRecDepth 20000 in
theorem kX5_isHill_19 : Cond.fieldLink RX5 19 "WindPostModel" "hills" "[I" ∈ wsX5_isHill := by decide +kernel
set_option maxRecDepth 20000 in
theorem uX5_isHill_X5 : ∀ w ∈ wsX50, w ∈ wsX5_isHill := by decide +kernel
set_option maxHeartbeats 8000000 in
set_option maxRecDepth 100000 in
theorem mX5_isHill (l : Launch) (D : va_G) (ki : Nat → ClassId) (ad : Nat → Nat) (cs : List Nat) (hcs : kR cs) (N : Nat) (a1 : Int32) (G : zMem) (tr : Int64) : gMetI l D ki ad cs yX5_isHill wsX5_isHill { frames := 0, cells := 0, slots := 0, locals := 0 } [.ref (ad 0), .int a1] (mE ki ad) G tr (fX5_isHill N a1 G tr) := by
  refine gMetI_of (cc := cX5_isHill) (maxL := 4) (ret := (some .boolean)) (own := RX5) (by decide +kernel) rfl rfl (Nat.le_of_ble_eq_true rfl) ?_
  intro r9 G9 tr9 h p e s m below meth c S hr hlk K X ls hl
  have hl : lv_has ls 4 [(0, .ref (ad 0)), (1, .int a1)] := hl
  have b33 : ∀ (k4 : Int32 → Int32 → zMem → Int64 → zR) (hk4 : ∀ (x2 : Int32) (x3 : Int32) (G : zMem) (tr : Int64), k4 x2 x3 G tr = some (r9, G9, tr9) → zAt p l e (headSpec wsX5_isHill { frames := 0, cells := 0, slots := 0, locals := 0 }).room s m ([.ref (ad 0), .int a1] : List Value).toArray below meth c 4 D cs ad (zQI below ([.ref (ad 0), .int a1] : List Value).toArray s D cs ad ((mE ki ad) G9 tr9) r9) 4 [(0, .ref (ad 0)), (1, .int a1), (2, .int x2), (3, .int x3)] [] ((mE ki ad) G tr)) (x3 : Int32) (s0 : Int32) (G : zMem) (tr : Int64), fX5_isHill_b33 N a1 k4 x3 s0 G tr = some (r9, G9, tr9) → zAt p l e (headSpec wsX5_isHill { frames := 0, cells := 0, slots := 0, locals := 0 }).room s m ([.ref (ad 0), .int a1] : List Value).toArray below meth c 4 D cs ad (zQI below ([.ref (ad 0), .int a1] : List Value).toArray s D cs ad ((mE ki ad) G9 tr9) r9) 33 [(0, .ref (ad 0)), (1, .int a1), (3, .int x3)] [.int s0] ((mE ki ad) G tr) := by
    intro k4 hk4 x3 s0 G tr h H locs ls X hl
    unfold fX5_isHill_b33 at h
    refine lv_istore_n (lv' := [(2, .int s0), (0, .ref (ad 0)), (1, .int a1), (3, .int x3)]) S.1 S.2.1 dX5_isHill_33 rfl hl (by decide) rfl (fun ls hl => ?_)
    refine lv_iinc (v := (x3 + 1)) (lv' := [(3, .int (x3 + 1)), (2, .int s0), (0, .ref (ad 0)), (1, .int a1)]) S.1 S.2.1 dX5_isHill_34 hl (k := 3) rfl rfl (by decide) rfl (fun ls hl => ?_)
    refine lv_goto (tgt := 4) S.1 S.2.1 dX5_isHill_37 (by decide) ?_
    exact hk4 s0 (x3 + 1) G tr h _ _ _ X (lv_sub hl [2, 3, 1, 0] rfl)
  have b28 : ∀ (k4 : Int32 → Int32 → zMem → Int64 → zR) (hk4 : ∀ (x2 : Int32) (x3 : Int32) (G : zMem) (tr : Int64), k4 x2 x3 G tr = some (r9, G9, tr9) → zAt p l e (headSpec wsX5_isHill { frames := 0, cells := 0, slots := 0, locals := 0 }).room s m ([.ref (ad 0), .int a1] : List Value).toArray below meth c 4 D cs ad (zQI below ([.ref (ad 0), .int a1] : List Value).toArray s D cs ad ((mE ki ad) G9 tr9) r9) 4 [(0, .ref (ad 0)), (1, .int a1), (2, .int x2), (3, .int x3)] [] ((mE ki ad) G tr)) (x3 : Int32) (G : zMem) (tr : Int64), fX5_isHill_b28 N a1 k4 x3 G tr = some (r9, G9, tr9) → zAt p l e (headSpec wsX5_isHill { frames := 0, cells := 0, slots := 0, locals := 0 }).room s m ([.ref (ad 0), .int a1] : List Value).toArray below meth c 4 D cs ad (zQI below ([.ref (ad 0), .int a1] : List Value).toArray s D cs ad ((mE ki ad) G9 tr9) r9) 28 [(0, .ref (ad 0)), (1, .int a1), (3, .int x3)] [] ((mE ki ad) G tr) := by
    intro k4 hk4 x3 G tr h H locs ls X hl
    unfold fX5_isHill_b28 at h
    refine lv_iconst (v := (1 : Int32)) S.1 S.2.1 dX5_isHill_28 (by decide) ?_
    refine lv_goto (tgt := 33) S.1 S.2.1 dX5_isHill_29 (by decide) ?_
    exact b33 k4 hk4 x3 (1 : Int32) G tr h _ _ _ X (lv_sub hl [0, 1, 2] rfl)
  have b4 : ∀ (k4 : Int32 → Int32 → zMem → Int64 → zR) (hk4 : ∀ (x2 : Int32) (x3 : Int32) (G : zMem) (tr : Int64), k4 x2 x3 G tr = some (r9, G9, tr9) → zAt p l e (headSpec wsX5_isHill { frames := 0, cells := 0, slots := 0, locals := 0 }).room s m ([.ref (ad 0), .int a1] : List Value).toArray below meth c 4 D cs ad (zQI below ([.ref (ad 0), .int a1] : List Value).toArray s D cs ad ((mE ki ad) G9 tr9) r9) 4 [(0, .ref (ad 0)), (1, .int a1), (2, .int x2), (3, .int x3)] [] ((mE ki ad) G tr)) (x2 : Int32) (x3 : Int32) (G : zMem) (tr : Int64), fX5_isHill_b4 N a1 k4 x2 x3 G tr = some (r9, G9, tr9) → zAt p l e (headSpec wsX5_isHill { frames := 0, cells := 0, slots := 0, locals := 0 }).room s m ([.ref (ad 0), .int a1] : List Value).toArray below meth c 4 D cs ad (zQI below ([.ref (ad 0), .int a1] : List Value).toArray s D cs ad ((mE ki ad) G9 tr9) r9) 4 [(0, .ref (ad 0)), (1, .int a1), (2, .int x2), (3, .int x3)] [] ((mE ki ad) G tr) := by
    intro k4 hk4 x2 x3 G tr h H locs ls X hl
    unfold fX5_isHill_b4 at h
    refine lv_iload_n S.1 S.2.1 dX5_isHill_4 rfl (lv_at hl 3 rfl) ?_
    refine lv_aload_n S.1 S.2.1 dX5_isHill_5 rfl (lv_at hl 0 rfl) ?_
    refine zr_get (v := .ref (ad 2)) S K X (hcs 0 (by decide)) mE_R rfl uX5_isHill_X5 9 (by decide) kX5_isHill_13 rfl rfl dX5_isHill_6 ?_
    refine lv_iconst (v := (3 : Int32)) S.1 S.2.1 dX5_isHill_9 (by decide) ?_
    obtain ⟨hi_1, h⟩ := zin_some h
    refine zr_iald S K X (hcs 2 (by decide)) mE_2 hi_1 dX5_isHill_10 ?_
    refine lv_icmp_ge (tgt := 40) S.1 S.2.1 dX5_isHill_11 (by decide) (fun hc_2 => ?_) (fun hc_2 => ?_)
    · have h := zif_pos hc_2 h
      refine lv_iload_n S.1 S.2.1 dX5_isHill_40 rfl (lv_at hl 2 rfl) ?_
      exact zr_zret S hr hlk X h dX5_isHill_41
    · have h := zif_neg hc_2 h
      refine lv_iload_n S.1 S.2.1 dX5_isHill_14 rfl (lv_at hl 2 rfl) ?_
      refine lv_if_ne (tgt := 28) S.1 S.2.1 dX5_isHill_15 (by decide) (fun hc_3 => ?_) (fun hc_3 => ?_)
      · have h := zif_neg hc_3 h
        exact b28 k4 hk4 x3 G tr h _ _ _ X (lv_sub hl [0, 1, 3] rfl)
      · have h := zif_pos hc_3 h
        refine lv_aload_n S.1 S.2.1 dX5_isHill_18 rfl (lv_at hl 0 rfl) ?_
        refine zr_get (v := .ref (ad 4)) S K X (hcs 0 (by decide)) mE_R rfl uX5_isHill_X5 11 (by decide) kX5_isHill_19 rfl rfl dX5_isHill_19 ?_
        refine lv_iload_n S.1 S.2.1 dX5_isHill_22 rfl (lv_at hl 3 rfl) ?_
        obtain ⟨hi_4, h⟩ := zin_some h
        refine zr_iald S K X (hcs 4 (by decide)) mE_4 hi_4 dX5_isHill_23 ?_
        refine lv_iload_n S.1 S.2.1 dX5_isHill_24 rfl (lv_at hl 1 rfl) ?_
        refine lv_icmp_ne (tgt := 32) S.1 S.2.1 dX5_isHill_25 (by decide) (fun hc_5 => ?_) (fun hc_5 => ?_)
        · have h := zif_neg hc_5 h
          refine lv_iconst (v := (0 : Int32)) S.1 S.2.1 dX5_isHill_32 (by decide) ?_
          exact b33 k4 hk4 x3 (0 : Int32) G tr h _ _ _ X (lv_sub hl [0, 1, 3] rfl)
        · have h := zif_pos hc_5 h
          exact b28 k4 hk4 x3 G tr h _ _ _ X (lv_sub hl [0, 1, 3] rfl)
  have L4 : ∀ (n : Nat) (x2 : Int32) (x3 : Int32) (G : zMem) (tr : Int64), fX5_isHill_L4 N a1 n x2 x3 G tr = some (r9, G9, tr9) → zAt p l e (headSpec wsX5_isHill { frames := 0, cells := 0, slots := 0, locals := 0 }).room s m ([.ref (ad 0), .int a1] : List Value).toArray below meth c 4 D cs ad (zQI below ([.ref (ad 0), .int a1] : List Value).toArray s D cs ad ((mE ki ad) G9 tr9) r9) 4 [(0, .ref (ad 0)), (1, .int a1), (2, .int x2), (3, .int x3)] [] ((mE ki ad) G tr) := by
    intro n
    induction n with
    | zero => intro x2 x3 G tr h; cases h
    | succ n ih => intro x2 x3 G tr h; exact b4 (fX5_isHill_L4 N a1 n) ih x2 x3 G tr h
  unfold fX5_isHill at h
  obtain ⟨H, hH⟩ : ∃ H, H = s.heap := ⟨_, rfl⟩
  obtain ⟨locs, hlo⟩ : ∃ locs : List Loc, locs = [] := ⟨_, rfl⟩
  have X : gS D cs ad ((mE ki ad) G tr) (gA cs ad s.heap.size) s H locs := by rw [hH, hlo]; exact X
  suffices z : W p l e (headSpec wsX5_isHill { frames := 0, cells := 0, slots := 0, locals := 0 }).room s m ([.ref (ad 0), .int a1] : List Value).toArray below meth c H locs 0 0 (zQI below ([.ref (ad 0), .int a1] : List Value).toArray s D cs ad ((mE ki ad) G9 tr9) r9) (F0 m 0 ls []) by rw [hH, hlo] at z; exact z
  clear hH hlo
  refine lv_iconst (v := (0 : Int32)) S.1 S.2.1 dX5_isHill_0 (by decide) ?_
  refine lv_istore_n (lv' := [(2, .int (0 : Int32)), (0, .ref (ad 0)), (1, .int a1)]) S.1 S.2.1 dX5_isHill_1 rfl hl (by decide) rfl (fun ls hl => ?_)
  refine lv_iconst (v := (0 : Int32)) S.1 S.2.1 dX5_isHill_2 (by decide) ?_
  refine lv_istore_n (lv' := [(3, .int (0 : Int32)), (2, .int (0 : Int32)), (0, .ref (ad 0)), (1, .int a1)]) S.1 S.2.1 dX5_isHill_3 rfl hl (by decide) rfl (fun ls hl => ?_)
  exact L4 N (0 : Int32) (0 : Int32) G tr h _ _ _ X (lv_sub hl [2, 3, 1, 0] rfl)
set_option maxRecDepth 20000 in
theorem ggX5_isle_X5_isIsle : GoodIn wsX5_isle wsX5_isIsle := goodIn_r _ [8, 9, 10, 11, 7, 12, 13, 14, 15, 16, 17, 18, 19, 20, 21, 22, 23, 24, 25, 26, 27, 28, 29, 30, 31, 32, 33, 34] (by decide +kernel) (by decide +kernel)
set_option maxRecDepth 20000 in
theorem gX5_isle_X5_isIsle : GoodIn wsX5_isle (wsV RX5 116 RX5 yX5_isIsle wsX5_isIsle) := goodIn_app (goodIn_of _ (by decide +kernel)) ggX5_isle_X5_isIsle
set_option maxRecDepth 20000 in
theorem ggX5_isle_X5_in : GoodIn wsX5_isle wsX5_in := goodIn_r _ [12] (by decide +kernel) (by decide +kernel)
set_option maxRecDepth 20000 in
theorem gX5_isle_X5_in : GoodIn wsX5_isle (va_wsS RX5 51 yX5_in wsX5_in) := goodIn_app (goodIn_of _ (by decide +kernel)) ggX5_isle_X5_in
theorem dX5_isle_0 : decode cX5_isle 0 = .ok (.aload_n 0, 1) := by decide +kernel
theorem dX5_isle_1 : decode cX5_isle 1 = .ok (.iconst 0, 1) := by decide +kernel
theorem dX5_isle_2 : decode cX5_isle 2 = .ok (.putfield 47, 3) := by decide +kernel
theorem dX5_isle_5 : decode cX5_isle 5 = .ok (.aload_n 0, 1) := by decide +kernel
theorem dX5_isle_6 : decode cX5_isle 6 = .ok (.iload_n 1, 1) := by decide +kernel
theorem dX5_isle_7 : decode cX5_isle 7 = .ok (.invokevirtual 116, 3) := by decide +kernel
theorem dX5_isle_10 : decode cX5_isle 10 = .ok (.ifCond .eq 12, 3) := by decide +kernel
theorem dX5_isle_13 : decode cX5_isle 13 = .ok (.iload_n 2, 1) := by decide +kernel
theorem dX5_isle_14 : decode cX5_isle 14 = .ok (.iconst 0, 1) := by decide +kernel
theorem dX5_isle_15 : decode cX5_isle 15 = .ok (.iconst 1, 1) := by decide +kernel
theorem dX5_isle_16 : decode cX5_isle 16 = .ok (.invokestatic 51, 3) := by decide +kernel
theorem dX5_isle_19 : decode cX5_isle 19 = .ok (.ifCond .ne 5, 3) := by decide +kernel
theorem dX5_isle_22 : decode cX5_isle 22 = .ok (.iconst (-1), 1) := by decide +kernel
theorem dX5_isle_23 : decode cX5_isle 23 = .ok (.ireturn, 1) := by decide +kernel
theorem dX5_isle_24 : decode cX5_isle 24 = .ok (.iload_n 2, 1) := by decide +kernel
theorem dX5_isle_25 : decode cX5_isle 25 = .ok (.ifCond .ne 12, 3) := by decide +kernel
theorem dX5_isle_28 : decode cX5_isle 28 = .ok (.aload_n 0, 1) := by decide +kernel
theorem dX5_isle_29 : decode cX5_isle 29 = .ok (.getfield 16, 3) := by decide +kernel
theorem dX5_isle_32 : decode cX5_isle 32 = .ok (.iload_n 1, 1) := by decide +kernel
theorem dX5_isle_33 : decode cX5_isle 33 = .ok (.iaload, 1) := by decide +kernel
theorem dX5_isle_34 : decode cX5_isle 34 = .ok (.goto 13, 3) := by decide +kernel
theorem dX5_isle_37 : decode cX5_isle 37 = .ok (.aload_n 0, 1) := by decide +kernel
theorem dX5_isle_38 : decode cX5_isle 38 = .ok (.getfield 25, 3) := by decide +kernel
theorem dX5_isle_41 : decode cX5_isle 41 = .ok (.iconst 2, 1) := by decide +kernel
theorem dX5_isle_42 : decode cX5_isle 42 = .ok (.iaload, 1) := by decide +kernel
theorem dX5_isle_43 : decode cX5_isle 43 = .ok (.iload_n 1, 1) := by decide +kernel
theorem dX5_isle_44 : decode cX5_isle 44 = .ok (.ishr, 1) := by decide +kernel
theorem dX5_isle_45 : decode cX5_isle 45 = .ok (.iconst 1, 1) := by decide +kernel
theorem dX5_isle_46 : decode cX5_isle 46 = .ok (.iand, 1) := by decide +kernel
theorem dX5_isle_47 : decode cX5_isle 47 = .ok (.ireturn, 1) := by decide +kernel
set_option maxRecDepth 20000 in
theorem kX5_isle_16 : Cond.fieldLink RX5 16 "WindPostModel" "isles" "[I" ∈ wsX5_isle := by decide +kernel
set_option maxRecDepth 20000 in
theorem kX5_isle_25 : Cond.fieldLink RX5 25 "WindPostModel" "s" "[I" ∈ wsX5_isle := by decide +kernel
set_option maxRecDepth 20000 in
theorem kX5_isle_47 : Cond.fieldLink RX5 47 "WindPostModel" "thrown" "I" ∈ wsX5_isle := by decide +kernel
set_option maxRecDepth 20000 in
theorem uX5_isle_X5 : ∀ w ∈ wsX50, w ∈ wsX5_isle := by decide +kernel
set_option maxHeartbeats 8000000 in
set_option maxRecDepth 100000 in
theorem mX5_isle (l : Launch) (D : va_G) (ki : Nat → ClassId) (ad : Nat → Nat) (cs : List Nat) (hcs : kR cs) (N : Nat) (a1 : Int32) (a2 : Int32) (G : zMem) (tr : Int64) : gMetI l D ki ad cs yX5_isle wsX5_isle { frames := 2, cells := 0, slots := 0, locals := 43 } [.ref (ad 0), .int a1, .int a2] (mE ki ad) G tr (fX5_isle N a1 a2 G tr) := by
  refine gMetI_of (cc := cX5_isle) (maxL := 3) (ret := (some .int)) (own := RX5) (by decide +kernel) rfl rfl (Nat.le_of_ble_eq_true rfl) ?_
  intro r9 G9 tr9 h p e s m below meth c S hr hlk K X ls hl
  have hl : lv_has ls 3 [(0, .ref (ad 0)), (1, .int a1), (2, .int a2)] := hl
  unfold fX5_isle at h
  obtain ⟨H, hH⟩ : ∃ H, H = s.heap := ⟨_, rfl⟩
  obtain ⟨locs, hlo⟩ : ∃ locs : List Loc, locs = [] := ⟨_, rfl⟩
  have X : gS D cs ad ((mE ki ad) G tr) (gA cs ad s.heap.size) s H locs := by rw [hH, hlo]; exact X
  suffices z : W p l e (headSpec wsX5_isle { frames := 2, cells := 0, slots := 0, locals := 43 }).room s m ([.ref (ad 0), .int a1, .int a2] : List Value).toArray below meth c H locs 0 0 (zQI below ([.ref (ad 0), .int a1, .int a2] : List Value).toArray s D cs ad ((mE ki ad) G9 tr9) r9) (F0 m 0 ls []) by rw [hH, hlo] at z; exact z
  clear hH hlo
  refine lv_aload_n S.1 S.2.1 dX5_isle_0 rfl (lv_at hl 0 rfl) ?_
  refine lv_iconst (v := (0 : Int32)) S.1 S.2.1 dX5_isle_1 (by decide) ?_
  refine zr_put (xv := (0 : Int32)) (v := .int (0 : Int32)) (fsf := (fsR ad tr)) (ty := .int) S K X (hcs 0 (by decide)) mE_loc (fun _ => mE_R) rfl uX5_isle_X5 tyX5 tyX5_ok nmX5 0 (by decide) kX5_isle_47 rfl (by decide +kernel) rfl rfl (by simp) rfl dX5_isle_2 (fun H locs X => ?_)
  refine lv_aload_n S.1 S.2.1 dX5_isle_5 rfl (lv_at hl 0 rfl) ?_
  refine lv_iload_n S.1 S.2.1 dX5_isle_6 rfl (lv_at hl 1 rfl) ?_
  obtain ⟨r_2, G_3, tr_4, hf_1, h⟩ := zbd_some h
  refine zr_calli (Eg := (mE ki ad)) K X (va_runV (As := [.int a1]) (rest := []) S (mX5_isIsle l D ki ad cs hcs N a1 (up2 G 0 0 (0 : Int32)) tr H.size _ _ _ hf_1) (cwV 1 S.2.2.2.2 gX5_isle_X5_isIsle rfl rfl rfl (by decide +kernel) ⟨Nat.le_of_ble_eq_true rfl, Nat.le_of_ble_eq_true rfl⟩) (zr_preV (c0 := 0) K X (hcs 0 (by decide)) mE_R rfl) rfl rfl hl.1 rfl (lv_room (Nat.le_of_ble_eq_true rfl)) dX5_isle_7 ⟨Nat.zero_le _, Nat.zero_le _⟩) (fun H locs X => ?_)
  refine lv_if_eq (tgt := 22) S.1 S.2.1 dX5_isle_10 (by decide) (fun hc_5 => ?_) (fun hc_5 => ?_)
  · have h := zif_pos hc_5 h
    refine lv_iconst (v := (-1 : Int32)) S.1 S.2.1 dX5_isle_22 (by decide) ?_
    exact zr_iret S hr hlk X h dX5_isle_23
  · have h := zif_neg hc_5 h
    refine lv_iload_n S.1 S.2.1 dX5_isle_13 rfl (lv_at hl 2 rfl) ?_
    refine lv_iconst (v := (0 : Int32)) S.1 S.2.1 dX5_isle_14 (by decide) ?_
    refine lv_iconst (v := (1 : Int32)) S.1 S.2.1 dX5_isle_15 (by decide) ?_
    obtain ⟨r_7, hf_6, h⟩ := zbp_some h
    refine zr_calli (Eg := (mE ki ad)) (G' := G_3) (tr' := tr_4) K X (va_runS (As := [.int a2, .int (0 : Int32), .int (1 : Int32)]) (rest := []) S (mX5_in l D ki ad cs N a2 (0 : Int32) (1 : Int32) (mE ki ad) G_3 tr_4 H.size _ _ _ (zpu_of hf_6)) (va_cwS 3 S.2.2.2.2 gX5_isle_X5_in rfl rfl rfl (by decide +kernel) ⟨Nat.le_of_ble_eq_true rfl, Nat.le_of_ble_eq_true rfl⟩) (zr_pre K X) rfl rfl hl.1 rfl (lv_room (Nat.le_of_ble_eq_true rfl)) dX5_isle_16 ⟨Nat.zero_le _, Nat.zero_le _⟩) (fun H locs X => ?_)
    refine lv_if_ne (tgt := 24) S.1 S.2.1 dX5_isle_19 (by decide) (fun hc_8 => ?_) (fun hc_8 => ?_)
    · have h := zif_neg hc_8 h
      refine lv_iload_n S.1 S.2.1 dX5_isle_24 rfl (lv_at hl 2 rfl) ?_
      refine lv_if_ne (tgt := 37) S.1 S.2.1 dX5_isle_25 (by decide) (fun hc_9 => ?_) (fun hc_9 => ?_)
      · have h := zif_neg hc_9 h
        refine lv_aload_n S.1 S.2.1 dX5_isle_37 rfl (lv_at hl 0 rfl) ?_
        refine zr_get (v := .ref (ad 6)) S K X (hcs 0 (by decide)) mE_R rfl uX5_isle_X5 14 (by decide) kX5_isle_25 rfl rfl dX5_isle_38 ?_
        refine lv_iconst (v := (2 : Int32)) S.1 S.2.1 dX5_isle_41 (by decide) ?_
        obtain ⟨hi_10, h⟩ := zin_some h
        refine zr_iald S K X (hcs 6 (by decide)) mE_6 hi_10 dX5_isle_42 ?_
        refine lv_iload_n S.1 S.2.1 dX5_isle_43 rfl (lv_at hl 1 rfl) ?_
        refine lv_ishr S.1 S.2.1 dX5_isle_44 ?_
        refine lv_iconst (v := (1 : Int32)) S.1 S.2.1 dX5_isle_45 (by decide) ?_
        refine lv_iand S.1 S.2.1 dX5_isle_46 ?_
        exact zr_iret S hr hlk X h dX5_isle_47
      · have h := zif_pos hc_9 h
        refine lv_aload_n S.1 S.2.1 dX5_isle_28 rfl (lv_at hl 0 rfl) ?_
        refine zr_get (v := .ref (ad 3)) S K X (hcs 0 (by decide)) mE_R rfl uX5_isle_X5 10 (by decide) kX5_isle_16 rfl rfl dX5_isle_29 ?_
        refine lv_iload_n S.1 S.2.1 dX5_isle_32 rfl (lv_at hl 1 rfl) ?_
        obtain ⟨hi_11, h⟩ := zin_some h
        refine zr_iald S K X (hcs 3 (by decide)) mE_3 hi_11 dX5_isle_33 ?_
        refine lv_goto (tgt := 47) S.1 S.2.1 dX5_isle_34 (by decide) ?_
        exact zr_iret S hr hlk X h dX5_isle_47
    · have h := zif_pos hc_8 h
      refine lv_iconst (v := (-1 : Int32)) S.1 S.2.1 dX5_isle_22 (by decide) ?_
      exact zr_iret S hr hlk X h dX5_isle_23
