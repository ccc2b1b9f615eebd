set_option maxRecDepth 20000 in
theorem ggX4_tangled_X4_isLetter : GoodIn wsX4_tangled wsX4_isLetter := goodIn_r _ [12, 2, 13, 14, 15, 11, 16, 63, 64, 65, 66, 67, 68, 69, 70, 71, 72, 73, 74, 75, 76, 77, 78, 79, 80] (by decide +kernel) (by decide +kernel)
set_option maxRecDepth 20000 in
theorem gX4_tangled_X4_isLetter : GoodIn wsX4_tangled (wsV RX4 109 RX4 yX4_isLetter wsX4_isLetter) := goodIn_app (goodIn_of _ (by decide +kernel)) ggX4_tangled_X4_isLetter
set_option maxRecDepth 20000 in
theorem ggX4_tangled_X1_copyFrom : GoodIn wsX4_tangled wsX1_copyFrom := goodIn_r _ [21, 22, 23, 24, 25, 26, 27, 28, 81, 82, 83, 84, 85, 86, 87] (by decide +kernel) (by decide +kernel)
set_option maxRecDepth 20000 in
theorem gX4_tangled_X1_copyFrom : GoodIn wsX4_tangled (wsV RX4 175 RX1 yX1_copyFrom wsX1_copyFrom) := goodIn_app (goodIn_of _ (by decide +kernel)) ggX4_tangled_X1_copyFrom
set_option maxRecDepth 20000 in
theorem ggX4_tangled_X4_passHours : GoodIn wsX4_tangled wsX4_passHours := goodIn_r _ [32, 33, 2, 34, 35, 36, 37, 38, 39, 40, 41, 42, 43, 44, 45, 46, 47, 48, 20, 49, 27, 28, 25, 24, 26, 50, 51, 52, 53, 54, 55, 56, 57, 58, 59, 60, 61, 11, 62, 63, 64, 65, 66, 67, 68, 69, 70, 71, 72, 73, 74, 75, 76, 77, 78, 79, 80, 81, 82, 83, 84, 85, 86, 87, 88, 89, 90, 91, 92, 93, 94, 95, 96, 97] (by decide +kernel) (by decide +kernel)
set_option maxRecDepth 20000 in
theorem gX4_tangled_X4_passHours : GoodIn wsX4_tangled (wsV RX4 186 RX4 yX4_passHours wsX4_passHours) := goodIn_app (goodIn_of _ (by decide +kernel)) ggX4_tangled_X4_passHours
theorem dX4_tangled_0 : decode cX4_tangled 0 = .ok (.aload_n 0, 1) := by decide +kernel
theorem dX4_tangled_1 : decode cX4_tangled 1 = .ok (.iload_n 1, 1) := by decide +kernel
theorem dX4_tangled_2 : decode cX4_tangled 2 = .ok (.invokevirtual 109, 3) := by decide +kernel
theorem dX4_tangled_5 : decode cX4_tangled 5 = .ok (.ifCond .eq 16, 3) := by decide +kernel
theorem dX4_tangled_8 : decode cX4_tangled 8 = .ok (.aload_n 0, 1) := by decide +kernel
theorem dX4_tangled_9 : decode cX4_tangled 9 = .ok (.iload_n 2, 1) := by decide +kernel
theorem dX4_tangled_10 : decode cX4_tangled 10 = .ok (.invokevirtual 109, 3) := by decide +kernel
theorem dX4_tangled_13 : decode cX4_tangled 13 = .ok (.ifCond .eq 8, 3) := by decide +kernel
theorem dX4_tangled_16 : decode cX4_tangled 16 = .ok (.iload_n 1, 1) := by decide +kernel
theorem dX4_tangled_17 : decode cX4_tangled 17 = .ok (.iload_n 2, 1) := by decide +kernel
theorem dX4_tangled_18 : decode cX4_tangled 18 = .ok (.if_icmp .ne 5, 3) := by decide +kernel
theorem dX4_tangled_21 : decode cX4_tangled 21 = .ok (.iconst (-1), 1) := by decide +kernel
theorem dX4_tangled_22 : decode cX4_tangled 22 = .ok (.ireturn, 1) := by decide +kernel
theorem dX4_tangled_23 : decode cX4_tangled 23 = .ok (.aload_n 0, 1) := by decide +kernel
theorem dX4_tangled_24 : decode cX4_tangled 24 = .ok (.getfield 47, 3) := by decide +kernel
theorem dX4_tangled_27 : decode cX4_tangled 27 = .ok (.aload_n 0, 1) := by decide +kernel
theorem dX4_tangled_28 : decode cX4_tangled 28 = .ok (.getfield 29, 3) := by decide +kernel
theorem dX4_tangled_31 : decode cX4_tangled 31 = .ok (.getfield 112, 3) := by decide +kernel
theorem dX4_tangled_34 : decode cX4_tangled 34 = .ok (.iload_n 1, 1) := by decide +kernel
theorem dX4_tangled_35 : decode cX4_tangled 35 = .ok (.aaload, 1) := by decide +kernel
theorem dX4_tangled_36 : decode cX4_tangled 36 = .ok (.invokevirtual 175, 3) := by decide +kernel
theorem dX4_tangled_39 : decode cX4_tangled 39 = .ok (.aload_n 0, 1) := by decide +kernel
theorem dX4_tangled_40 : decode cX4_tangled 40 = .ok (.getfield 51, 3) := by decide +kernel
theorem dX4_tangled_43 : decode cX4_tangled 43 = .ok (.aload_n 0, 1) := by decide +kernel
theorem dX4_tangled_44 : decode cX4_tangled 44 = .ok (.getfield 29, 3) := by decide +kernel
theorem dX4_tangled_47 : decode cX4_tangled 47 = .ok (.getfield 112, 3) := by decide +kernel
theorem dX4_tangled_50 : decode cX4_tangled 50 = .ok (.iload_n 2, 1) := by decide +kernel
theorem dX4_tangled_51 : decode cX4_tangled 51 = .ok (.aaload, 1) := by decide +kernel
theorem dX4_tangled_52 : decode cX4_tangled 52 = .ok (.invokevirtual 175, 3) := by decide +kernel
theorem dX4_tangled_55 : decode cX4_tangled 55 = .ok (.iconst 0, 1) := by decide +kernel
theorem dX4_tangled_56 : decode cX4_tangled 56 = .ok (.istore_n 3, 1) := by decide +kernel
theorem dX4_tangled_57 : decode cX4_tangled 57 = .ok (.iload_n 3, 1) := by decide +kernel
theorem dX4_tangled_58 : decode cX4_tangled 58 = .ok (.sipush 400, 3) := by decide +kernel
theorem dX4_tangled_61 : decode cX4_tangled 61 = .ok (.if_icmp .gt 87, 3) := by decide +kernel
theorem dX4_tangled_64 : decode cX4_tangled 64 = .ok (.aload_n 0, 1) := by decide +kernel
theorem dX4_tangled_65 : decode cX4_tangled 65 = .ok (.getfield 47, 3) := by decide +kernel
theorem dX4_tangled_68 : decode cX4_tangled 68 = .ok (.getfield 131, 3) := by decide +kernel
theorem dX4_tangled_71 : decode cX4_tangled 71 = .ok (.ifCond .ne 13, 3) := by decide +kernel
theorem dX4_tangled_74 : decode cX4_tangled 74 = .ok (.aload_n 0, 1) := by decide +kernel
theorem dX4_tangled_75 : decode cX4_tangled 75 = .ok (.getfield 51, 3) := by decide +kernel
theorem dX4_tangled_78 : decode cX4_tangled 78 = .ok (.getfield 131, 3) := by decide +kernel
theorem dX4_tangled_81 : decode cX4_tangled 81 = .ok (.ifCond .eq 6, 3) := by decide +kernel
theorem dX4_tangled_84 : decode cX4_tangled 84 = .ok (.bipush (-9), 2) := by decide +kernel
theorem dX4_tangled_86 : decode cX4_tangled 86 = .ok (.ireturn, 1) := by decide +kernel
theorem dX4_tangled_87 : decode cX4_tangled 87 = .ok (.aload_n 0, 1) := by decide +kernel
theorem dX4_tangled_88 : decode cX4_tangled 88 = .ok (.getfield 47, 3) := by decide +kernel
theorem dX4_tangled_91 : decode cX4_tangled 91 = .ok (.getfield 125, 3) := by decide +kernel
theorem dX4_tangled_94 : decode cX4_tangled 94 = .ok (.aload_n 0, 1) := by decide +kernel
theorem dX4_tangled_95 : decode cX4_tangled 95 = .ok (.getfield 51, 3) := by decide +kernel
theorem dX4_tangled_98 : decode cX4_tangled 98 = .ok (.getfield 125, 3) := by decide +kernel
theorem dX4_tangled_101 : decode cX4_tangled 101 = .ok (.if_icmp .ne 5, 3) := by decide +kernel
theorem dX4_tangled_104 : decode cX4_tangled 104 = .ok (.iload_n 3, 1) := by decide +kernel
theorem dX4_tangled_105 : decode cX4_tangled 105 = .ok (.ireturn, 1) := by decide +kernel
theorem dX4_tangled_106 : decode cX4_tangled 106 = .ok (.aload_n 0, 1) := by decide +kernel
theorem dX4_tangled_107 : decode cX4_tangled 107 = .ok (.aload_n 0, 1) := by decide +kernel
theorem dX4_tangled_108 : decode cX4_tangled 108 = .ok (.getfield 47, 3) := by decide +kernel
theorem dX4_tangled_111 : decode cX4_tangled 111 = .ok (.aload_n 0, 1) := by decide +kernel
theorem dX4_tangled_112 : decode cX4_tangled 112 = .ok (.getfield 29, 3) := by decide +kernel
theorem dX4_tangled_115 : decode cX4_tangled 115 = .ok (.getfield 102, 3) := by decide +kernel
theorem dX4_tangled_118 : decode cX4_tangled 118 = .ok (.iload_n 3, 1) := by decide +kernel
theorem dX4_tangled_119 : decode cX4_tangled 119 = .ok (.iadd, 1) := by decide +kernel
theorem dX4_tangled_120 : decode cX4_tangled 120 = .ok (.iconst 1, 1) := by decide +kernel
theorem dX4_tangled_121 : decode cX4_tangled 121 = .ok (.invokevirtual 186, 3) := by decide +kernel
theorem dX4_tangled_124 : decode cX4_tangled 124 = .ok (.aload_n 0, 1) := by decide +kernel
theorem dX4_tangled_125 : decode cX4_tangled 125 = .ok (.aload_n 0, 1) := by decide +kernel
theorem dX4_tangled_126 : decode cX4_tangled 126 = .ok (.getfield 51, 3) := by decide +kernel
theorem dX4_tangled_129 : decode cX4_tangled 129 = .ok (.aload_n 0, 1) := by decide +kernel
theorem dX4_tangled_130 : decode cX4_tangled 130 = .ok (.getfield 29, 3) := by decide +kernel
theorem dX4_tangled_133 : decode cX4_tangled 133 = .ok (.getfield 102, 3) := by decide +kernel
theorem dX4_tangled_136 : decode cX4_tangled 136 = .ok (.iload_n 3, 1) := by decide +kernel
theorem dX4_tangled_137 : decode cX4_tangled 137 = .ok (.iadd, 1) := by decide +kernel
theorem dX4_tangled_138 : decode cX4_tangled 138 = .ok (.iconst 1, 1) := by decide +kernel
theorem dX4_tangled_139 : decode cX4_tangled 139 = .ok (.invokevirtual 186, 3) := by decide +kernel
theorem dX4_tangled_142 : decode cX4_tangled 142 = .ok (.iinc 3 1, 3) := by decide +kernel
theorem dX4_tangled_145 : decode cX4_tangled 145 = .ok (.goto (-88), 3) := by decide +kernel
theorem dX4_tangled_148 : decode cX4_tangled 148 = .ok (.bipush (-9), 2) := by decide +kernel
theorem dX4_tangled_150 : decode cX4_tangled 150 = .ok (.ireturn, 1) := by decide +kernel
set_option maxRecDepth 20000 in
theorem kX4_tangled_29 : Cond.fieldLink RX4 29 "WindPost" "now" "LWindPost$Moment;" ∈ wsX4_tangled := by decide +kernel
set_option maxRecDepth 20000 in
theorem kX4_tangled_47 : Cond.fieldLink RX4 47 "WindPost" "probe" "LWindPost$Letter;" ∈ wsX4_tangled := by decide +kernel
set_option maxRecDepth 20000 in
theorem kX4_tangled_51 : Cond.fieldLink RX4 51 "WindPost" "second" "LWindPost$Letter;" ∈ wsX4_tangled := by decide +kernel
set_option maxRecDepth 20000 in
theorem kX4_tangled_102 : Cond.fieldLink RX4 102 "WindPost$Moment" "time" "I" ∈ wsX4_tangled := by decide +kernel
set_option maxRecDepth 20000 in
theorem kX4_tangled_112 : Cond.fieldLink RX4 112 "WindPost$Moment" "post" "[LWindPost$Letter;" ∈ wsX4_tangled := by decide +kernel
set_option maxRecDepth 20000 in
theorem kX4_tangled_125 : Cond.fieldLink RX4 125 "WindPost$Letter" "place" "I" ∈ wsX4_tangled := by decide +kernel
set_option maxRecDepth 20000 in
theorem kX4_tangled_131 : Cond.fieldLink RX4 131 "WindPost$Letter" "how" "I" ∈ wsX4_tangled := by decide +kernel
set_option maxRecDepth 20000 in
theorem uX4_tangled_X1 : ∀ w ∈ wsX10, w ∈ wsX4_tangled := by decide +kernel
set_option maxRecDepth 20000 in
theorem uX4_tangled_X2 : ∀ w ∈ wsX20, w ∈ wsX4_tangled := by decide +kernel
set_option maxRecDepth 20000 in
theorem uX4_tangled_X4 : ∀ w ∈ wsX40, w ∈ wsX4_tangled := by decide +kernel
set_option maxHeartbeats 8000000 in
set_option maxRecDepth 100000 in
theorem mX4_tangled (l : Launch) (D : va_G) (ki : Nat → ClassId) (ad : Nat → Nat) (cs : List Nat) (hcs : kW cs) (N : Nat) (a1 : Int32) (a2 : Int32) (G : zMem) (tr : Int64) : gMetI l D ki ad cs yX4_tangled wsX4_tangled { frames := 3, cells := 0, slots := 0, locals := 72 } [.ref (ad 0), .int a1, .int a2] (xE ki ad) G tr (fX4_tangled N a1 a2 G tr) := by
  refine gMetI_of (cc := cX4_tangled) (maxL := 4) (ret := (some .int)) (own := RX4) (by decide +kernel) rfl rfl (Nat.le_of_ble_eq_true rfl) ?_
  intro r9 G9 tr9 h p e s m below meth c S hr hlk K X ls hl
  have hl : lv_has ls 4 [(0, .ref (ad 0)), (1, .int a1), (2, .int a2)] := hl
  have b57 : ∀ (k57 : Int32 → zMem → Int64 → zR) (hk57 : ∀ (x3 : Int32) (G : zMem) (tr : Int64), k57 x3 G tr = some (r9, G9, tr9) → zAt p l e (headSpec wsX4_tangled { frames := 3, cells := 0, slots := 0, locals := 72 }).room s m ([.ref (ad 0), .int a1, .int a2] : List Value).toArray below meth c 4 D cs ad (zQI below ([.ref (ad 0), .int a1, .int a2] : List Value).toArray s D cs ad ((xE ki ad) G9 tr9) r9) 57 [(0, .ref (ad 0)), (3, .int x3)] [] ((xE ki ad) G tr)) (x3 : Int32) (G : zMem) (tr : Int64), fX4_tangled_b57 N a1 a2 k57 x3 G tr = some (r9, G9, tr9) → zAt p l e (headSpec wsX4_tangled { frames := 3, cells := 0, slots := 0, locals := 72 }).room s m ([.ref (ad 0), .int a1, .int a2] : List Value).toArray below meth c 4 D cs ad (zQI below ([.ref (ad 0), .int a1, .int a2] : List Value).toArray s D cs ad ((xE ki ad) G9 tr9) r9) 57 [(0, .ref (ad 0)), (3, .int x3)] [] ((xE ki ad) G tr) := by
    intro k57 hk57 x3 G tr h H locs ls X hl
    unfold fX4_tangled_b57 at h
    refine lv_iload_n S.1 S.2.1 dX4_tangled_57 rfl (lv_at hl 1 rfl) ?_
    refine lv_sipush (v := (400 : Int32)) S.1 S.2.1 dX4_tangled_58 (by decide) ?_
    refine lv_icmp_gt (tgt := 148) S.1 S.2.1 dX4_tangled_61 (by decide) (fun hc_1 => ?_) (fun hc_1 => ?_)
    · have h := zif_pos hc_1 h
      refine lv_bipush (v := (-9 : Int32)) S.1 S.2.1 dX4_tangled_148 (by decide) ?_
      exact zr_iret S hr hlk X h dX4_tangled_150
    · have h := zif_neg hc_1 h
      refine lv_aload_n S.1 S.2.1 dX4_tangled_64 rfl (lv_at hl 0 rfl) ?_
      refine zr_get (v := .ref (ad 13)) S K X (hcs 0 (by decide)) xE_W rfl uX4_tangled_X4 9 (by decide) kX4_tangled_47 rfl rfl dX4_tangled_65 ?_
      refine zr_get (v := .int (G 13 5)) S K X (kL_13 hcs).2 (xE_L (kL_13 hcs)) rfl uX4_tangled_X1 5 (by decide) kX4_tangled_131 rfl rfl dX4_tangled_68 ?_
      refine lv_if_ne (tgt := 84) S.1 S.2.1 dX4_tangled_71 (by decide) (fun hc_2 => ?_) (fun hc_2 => ?_)
      · have h := zif_neg hc_2 h
        refine lv_bipush (v := (-9 : Int32)) S.1 S.2.1 dX4_tangled_84 (by decide) ?_
        exact zr_iret S hr hlk X h dX4_tangled_86
      · have h := zif_pos hc_2 h
        refine lv_aload_n S.1 S.2.1 dX4_tangled_74 rfl (lv_at hl 0 rfl) ?_
        refine zr_get (v := .ref (ad 14)) S K X (hcs 0 (by decide)) xE_W rfl uX4_tangled_X4 10 (by decide) kX4_tangled_51 rfl rfl dX4_tangled_75 ?_
        refine zr_get (v := .int (G 14 5)) S K X (kL_14 hcs).2 (xE_L (kL_14 hcs)) rfl uX4_tangled_X1 5 (by decide) kX4_tangled_131 rfl rfl dX4_tangled_78 ?_
        refine lv_if_eq (tgt := 87) S.1 S.2.1 dX4_tangled_81 (by decide) (fun hc_3 => ?_) (fun hc_3 => ?_)
        · have h := zif_pos hc_3 h
          refine lv_aload_n S.1 S.2.1 dX4_tangled_87 rfl (lv_at hl 0 rfl) ?_
          refine zr_get (v := .ref (ad 13)) S K X (hcs 0 (by decide)) xE_W rfl uX4_tangled_X4 9 (by decide) kX4_tangled_47 rfl rfl dX4_tangled_88 ?_
          refine zr_get (v := .int (G 13 3)) S K X (kL_13 hcs).2 (xE_L (kL_13 hcs)) rfl uX4_tangled_X1 3 (by decide) kX4_tangled_125 rfl rfl dX4_tangled_91 ?_
          refine lv_aload_n S.1 S.2.1 dX4_tangled_94 rfl (lv_at hl 0 rfl) ?_
          refine zr_get (v := .ref (ad 14)) S K X (hcs 0 (by decide)) xE_W rfl uX4_tangled_X4 10 (by decide) kX4_tangled_51 rfl rfl dX4_tangled_95 ?_
          refine zr_get (v := .int (G 14 3)) S K X (kL_14 hcs).2 (xE_L (kL_14 hcs)) rfl uX4_tangled_X1 3 (by decide) kX4_tangled_125 rfl rfl dX4_tangled_98 ?_
          refine lv_icmp_ne (tgt := 106) S.1 S.2.1 dX4_tangled_101 (by decide) (fun hc_4 => ?_) (fun hc_4 => ?_)
          · have h := zif_neg hc_4 h
            refine lv_aload_n S.1 S.2.1 dX4_tangled_106 rfl (lv_at hl 0 rfl) ?_
            refine lv_aload_n S.1 S.2.1 dX4_tangled_107 rfl (lv_at hl 0 rfl) ?_
            refine zr_get (v := .ref (ad 13)) S K X (hcs 0 (by decide)) xE_W rfl uX4_tangled_X4 9 (by decide) kX4_tangled_47 rfl rfl dX4_tangled_108 ?_
            refine lv_aload_n S.1 S.2.1 dX4_tangled_111 rfl (lv_at hl 0 rfl) ?_
            refine zr_get (v := .ref (ad 18)) S K X (hcs 0 (by decide)) xE_W rfl uX4_tangled_X4 3 (by decide) kX4_tangled_29 rfl rfl dX4_tangled_112 ?_
            refine zr_get (v := .int (G 18 0)) S K X ((kM_now hcs).2 0 (by decide)) (xE_M (kM_now hcs)) rfl uX4_tangled_X2 0 (by decide) kX4_tangled_102 rfl rfl dX4_tangled_115 ?_
            refine lv_iload_n S.1 S.2.1 dX4_tangled_118 rfl (lv_at hl 1 rfl) ?_
            refine lv_iadd S.1 S.2.1 dX4_tangled_119 ?_
            refine lv_iconst (v := (1 : Int32)) S.1 S.2.1 dX4_tangled_120 (by decide) ?_
            obtain ⟨r_6, G_7, tr_8, hf_5, h⟩ := zbd_some h
            refine zr_callv (Eg := (xE ki ad)) K X (va_runV (As := [.ref (ad 13), .int ((G 18 0) + x3), .int (1 : Int32)]) (rest := []) S (mX4_passHours l D ki ad cs hcs N 13 ((G 18 0) + x3) (1 : Int32) (kL_13 hcs) G tr H.size _ _ _ hf_5) (cwV 3 S.2.2.2.2 gX4_tangled_X4_passHours rfl rfl rfl (by decide +kernel) ⟨Nat.le_of_ble_eq_true rfl, Nat.le_of_ble_eq_true rfl⟩) (zr_preV (c0 := 0) K X (hcs 0 (by decide)) xE_W rfl) rfl rfl hl.1 rfl (lv_room (Nat.le_of_ble_eq_true rfl)) dX4_tangled_121 ⟨Nat.zero_le _, Nat.zero_le _⟩) (fun H locs X => ?_)
            refine lv_aload_n S.1 S.2.1 dX4_tangled_124 rfl (lv_at hl 0 rfl) ?_
            refine lv_aload_n S.1 S.2.1 dX4_tangled_125 rfl (lv_at hl 0 rfl) ?_
            refine zr_get (v := .ref (ad 14)) S K X (hcs 0 (by decide)) xE_W rfl uX4_tangled_X4 10 (by decide) kX4_tangled_51 rfl rfl dX4_tangled_126 ?_
            refine lv_aload_n S.1 S.2.1 dX4_tangled_129 rfl (lv_at hl 0 rfl) ?_
            refine zr_get (v := .ref (ad 18)) S K X (hcs 0 (by decide)) xE_W rfl uX4_tangled_X4 3 (by decide) kX4_tangled_29 rfl rfl dX4_tangled_130 ?_
            refine zr_get (v := .int (G_7 18 0)) S K X ((kM_now hcs).2 0 (by decide)) (xE_M (kM_now hcs)) rfl uX4_tangled_X2 0 (by decide) kX4_tangled_102 rfl rfl dX4_tangled_133 ?_
            refine lv_iload_n S.1 S.2.1 dX4_tangled_136 rfl (lv_at hl 1 rfl) ?_
            refine lv_iadd S.1 S.2.1 dX4_tangled_137 ?_
            refine lv_iconst (v := (1 : Int32)) S.1 S.2.1 dX4_tangled_138 (by decide) ?_
            obtain ⟨r_10, G_11, tr_12, hf_9, h⟩ := zbd_some h
            refine zr_callv (Eg := (xE ki ad)) K X (va_runV (As := [.ref (ad 14), .int ((G_7 18 0) + x3), .int (1 : Int32)]) (rest := []) S (mX4_passHours l D ki ad cs hcs N 14 ((G_7 18 0) + x3) (1 : Int32) (kL_14 hcs) G_7 tr_8 H.size _ _ _ hf_9) (cwV 3 S.2.2.2.2 gX4_tangled_X4_passHours rfl rfl rfl (by decide +kernel) ⟨Nat.le_of_ble_eq_true rfl, Nat.le_of_ble_eq_true rfl⟩) (zr_preV (c0 := 0) K X (hcs 0 (by decide)) xE_W rfl) rfl rfl hl.1 rfl (lv_room (Nat.le_of_ble_eq_true rfl)) dX4_tangled_139 ⟨Nat.zero_le _, Nat.zero_le _⟩) (fun H locs X => ?_)
            refine lv_iinc (v := (x3 + 1)) (lv' := [(3, .int (x3 + 1)), (0, .ref (ad 0))]) S.1 S.2.1 dX4_tangled_142 hl (k := 1) rfl rfl (by decide) rfl (fun ls hl => ?_)
            refine lv_goto (tgt := 57) S.1 S.2.1 dX4_tangled_145 (by decide) ?_
            exact hk57 (x3 + 1) G_11 tr_12 h _ _ _ X (lv_sub hl [1, 0] rfl)
          · have h := zif_pos hc_4 h
            refine lv_iload_n S.1 S.2.1 dX4_tangled_104 rfl (lv_at hl 1 rfl) ?_
            exact zr_iret S hr hlk X h dX4_tangled_105
        · have h := zif_neg hc_3 h
          refine lv_bipush (v := (-9 : Int32)) S.1 S.2.1 dX4_tangled_84 (by decide) ?_
          exact zr_iret S hr hlk X h dX4_tangled_86
  have L57 : ∀ (n : Nat) (x3 : Int32) (G : zMem) (tr : Int64), fX4_tangled_L57 N a1 a2 n x3 G tr = some (r9, G9, tr9) → zAt p l e (headSpec wsX4_tangled { frames := 3, cells := 0, slots := 0, locals := 72 }).room s m ([.ref (ad 0), .int a1, .int a2] : List Value).toArray below meth c 4 D cs ad (zQI below ([.ref (ad 0), .int a1, .int a2] : List Value).toArray s D cs ad ((xE ki ad) G9 tr9) r9) 57 [(0, .ref (ad 0)), (3, .int x3)] [] ((xE ki ad) G tr) := by
    intro n
    induction n with
    | zero => intro x3 G tr h; cases h
    | succ n ih => intro x3 G tr h; exact b57 (fX4_tangled_L57 N a1 a2 n) ih x3 G tr h
  unfold fX4_tangled at h
  obtain ⟨H, hH⟩ : ∃ H, H = s.heap := ⟨_, rfl⟩
  obtain ⟨locs, hlo⟩ : ∃ locs : List Loc, locs = [] := ⟨_, rfl⟩
  have X : gS D cs ad ((xE ki ad) G tr) (gA cs ad s.heap.size) s H locs := by rw [hH, hlo]; exact X
  suffices z : W p l e (headSpec wsX4_tangled { frames := 3, cells := 0, slots := 0, locals := 72 }).room s m ([.ref (ad 0), .int a1, .int a2] : List Value).toArray below meth c H locs 0 0 (zQI below ([.ref (ad 0), .int a1, .int a2] : List Value).toArray s D cs ad ((xE ki ad) G9 tr9) r9) (F0 m 0 ls []) by rw [hH, hlo] at z; exact z
  clear hH hlo
  refine lv_aload_n S.1 S.2.1 dX4_tangled_0 rfl (lv_at hl 0 rfl) ?_
  refine lv_iload_n S.1 S.2.1 dX4_tangled_1 rfl (lv_at hl 1 rfl) ?_
  obtain ⟨r_2, G_3, tr_4, hf_1, h⟩ := zbd_some h
  refine zr_calli (Eg := (xE ki ad)) K X (va_runV (As := [.int a1]) (rest := []) S (mX4_isLetter l D ki ad cs hcs N a1 G tr H.size _ _ _ hf_1) (cwV 1 S.2.2.2.2 gX4_tangled_X4_isLetter rfl rfl rfl (by decide +kernel) ⟨Nat.le_of_ble_eq_true rfl, Nat.le_of_ble_eq_true rfl⟩) (zr_preV (c0 := 0) K X (hcs 0 (by decide)) xE_W rfl) rfl rfl hl.1 rfl (lv_room (Nat.le_of_ble_eq_true rfl)) dX4_tangled_2 ⟨Nat.zero_le _, Nat.zero_le _⟩) (fun H locs X => ?_)
  refine lv_if_eq (tgt := 21) S.1 S.2.1 dX4_tangled_5 (by decide) (fun hc_5 => ?_) (fun hc_5 => ?_)
  · have h := zif_pos hc_5 h
    refine lv_iconst (v := (-1 : Int32)) S.1 S.2.1 dX4_tangled_21 (by decide) ?_
    exact zr_iret S hr hlk X h dX4_tangled_22
  · have h := zif_neg hc_5 h
    refine lv_aload_n S.1 S.2.1 dX4_tangled_8 rfl (lv_at hl 0 rfl) ?_
    refine lv_iload_n S.1 S.2.1 dX4_tangled_9 rfl (lv_at hl 2 rfl) ?_
    obtain ⟨r_7, G_8, tr_9, hf_6, h⟩ := zbd_some h
    refine zr_calli (Eg := (xE ki ad)) K X (va_runV (As := [.int a2]) (rest := []) S (mX4_isLetter l D ki ad cs hcs N a2 G_3 tr_4 H.size _ _ _ hf_6) (cwV 1 S.2.2.2.2 gX4_tangled_X4_isLetter rfl rfl rfl (by decide +kernel) ⟨Nat.le_of_ble_eq_true rfl, Nat.le_of_ble_eq_true rfl⟩) (zr_preV (c0 := 0) K X (hcs 0 (by decide)) xE_W rfl) rfl rfl hl.1 rfl (lv_room (Nat.le_of_ble_eq_true rfl)) dX4_tangled_10 ⟨Nat.zero_le _, Nat.zero_le _⟩) (fun H locs X => ?_)
    refine lv_if_eq (tgt := 21) S.1 S.2.1 dX4_tangled_13 (by decide) (fun hc_10 => ?_) (fun hc_10 => ?_)
    · have h := zif_pos hc_10 h
      refine lv_iconst (v := (-1 : Int32)) S.1 S.2.1 dX4_tangled_21 (by decide) ?_
      exact zr_iret S hr hlk X h dX4_tangled_22
    · have h := zif_neg hc_10 h
      refine lv_iload_n S.1 S.2.1 dX4_tangled_16 rfl (lv_at hl 1 rfl) ?_
      refine lv_iload_n S.1 S.2.1 dX4_tangled_17 rfl (lv_at hl 2 rfl) ?_
      refine lv_icmp_ne (tgt := 23) S.1 S.2.1 dX4_tangled_18 (by decide) (fun hc_11 => ?_) (fun hc_11 => ?_)
      · have h := zif_neg hc_11 h
        refine lv_aload_n S.1 S.2.1 dX4_tangled_23 rfl (lv_at hl 0 rfl) ?_
        refine zr_get (v := .ref (ad 13)) S K X (hcs 0 (by decide)) xE_W rfl uX4_tangled_X4 9 (by decide) kX4_tangled_47 rfl rfl dX4_tangled_24 ?_
        refine lv_aload_n S.1 S.2.1 dX4_tangled_27 rfl (lv_at hl 0 rfl) ?_
        refine zr_get (v := .ref (ad 18)) S K X (hcs 0 (by decide)) xE_W rfl uX4_tangled_X4 3 (by decide) kX4_tangled_29 rfl rfl dX4_tangled_28 ?_
        refine zr_get (v := .ref (ad 20)) S K X ((kM_now hcs).2 0 (by decide)) (xE_M (kM_now hcs)) rfl uX4_tangled_X2 5 (by decide) kX4_tangled_112 rfl rfl dX4_tangled_31 ?_
        refine lv_iload_n S.1 S.2.1 dX4_tangled_34 rfl (lv_at hl 1 rfl) ?_
        obtain ⟨hi_12, h⟩ := zin_some h
        refine zr_aald (f := (fun j => 21 + j)) (t0 := 2) (C := "WindPost$Letter") S K X ((kM_now hcs).2 2 (by decide)) (xE_M2 (kM_now hcs)) rfl hi_12 dX4_tangled_35 ?_
        obtain ⟨r_14, G_15, tr_16, hf_13, h⟩ := zbd_some h
        refine zr_callv (Eg := (xE ki ad)) K X (va_runV (As := [.ref (ad (21 + (Int32.toNatClampNeg a1)))]) (rest := []) S (mX1_copyFrom l D ki ad cs hcs N 13 (21 + (Int32.toNatClampNeg a1)) (kL_13 hcs) (kL_now hcs hi_12) G_8 tr_9 H.size _ _ _ hf_13) (cwV 1 S.2.2.2.2 gX4_tangled_X1_copyFrom rfl rfl rfl (by decide +kernel) ⟨Nat.le_of_ble_eq_true rfl, Nat.le_of_ble_eq_true rfl⟩) (zr_preV (c0 := 13) K X (kL_13 hcs).2 (xE_L (kL_13 hcs)) rfl) rfl rfl hl.1 rfl (lv_room (Nat.le_of_ble_eq_true rfl)) dX4_tangled_36 ⟨Nat.zero_le _, Nat.zero_le _⟩) (fun H locs X => ?_)
        refine lv_aload_n S.1 S.2.1 dX4_tangled_39 rfl (lv_at hl 0 rfl) ?_
        refine zr_get (v := .ref (ad 14)) S K X (hcs 0 (by decide)) xE_W rfl uX4_tangled_X4 10 (by decide) kX4_tangled_51 rfl rfl dX4_tangled_40 ?_
        refine lv_aload_n S.1 S.2.1 dX4_tangled_43 rfl (lv_at hl 0 rfl) ?_
        refine zr_get (v := .ref (ad 18)) S K X (hcs 0 (by decide)) xE_W rfl uX4_tangled_X4 3 (by decide) kX4_tangled_29 rfl rfl dX4_tangled_44 ?_
        refine zr_get (v := .ref (ad 20)) S K X ((kM_now hcs).2 0 (by decide)) (xE_M (kM_now hcs)) rfl uX4_tangled_X2 5 (by decide) kX4_tangled_112 rfl rfl dX4_tangled_47 ?_
        refine lv_iload_n S.1 S.2.1 dX4_tangled_50 rfl (lv_at hl 2 rfl) ?_
        obtain ⟨hi_17, h⟩ := zin_some h
        refine zr_aald (f := (fun j => 21 + j)) (t0 := 2) (C := "WindPost$Letter") S K X ((kM_now hcs).2 2 (by decide)) (xE_M2 (kM_now hcs)) rfl hi_17 dX4_tangled_51 ?_
        obtain ⟨r_19, G_20, tr_21, hf_18, h⟩ := zbd_some h
        refine zr_callv (Eg := (xE ki ad)) K X (va_runV (As := [.ref (ad (21 + (Int32.toNatClampNeg a2)))]) (rest := []) S (mX1_copyFrom l D ki ad cs hcs N 14 (21 + (Int32.toNatClampNeg a2)) (kL_14 hcs) (kL_now hcs hi_17) G_15 tr_16 H.size _ _ _ hf_18) (cwV 1 S.2.2.2.2 gX4_tangled_X1_copyFrom rfl rfl rfl (by decide +kernel) ⟨Nat.le_of_ble_eq_true rfl, Nat.le_of_ble_eq_true rfl⟩) (zr_preV (c0 := 14) K X (kL_14 hcs).2 (xE_L (kL_14 hcs)) rfl) rfl rfl hl.1 rfl (lv_room (Nat.le_of_ble_eq_true rfl)) dX4_tangled_52 ⟨Nat.zero_le _, Nat.zero_le _⟩) (fun H locs X => ?_)
        refine lv_iconst (v := (0 : Int32)) S.1 S.2.1 dX4_tangled_55 (by decide) ?_
        refine lv_istore_n (lv' := [(3, .int (0 : Int32)), (0, .ref (ad 0)), (1, .int a1), (2, .int a2)]) S.1 S.2.1 dX4_tangled_56 rfl hl (by decide) rfl (fun ls hl => ?_)
        exact L57 N (0 : Int32) G_20 tr_21 h _ _ _ X (lv_sub hl [1, 0] rfl)
      · have h := zif_pos hc_11 h
        refine lv_iconst (v := (-1 : Int32)) S.1 S.2.1 dX4_tangled_21 (by decide) ?_
        exact zr_iret S hr hlk X h dX4_tangled_22
set_option maxRecDepth 20000 in
theorem ggX4_supposed_X1_letUp : GoodIn wsX4_supposed wsX1_letUp := goodIn_r _ [10, 11, 12, 13, 14, 15, 16, 17, 18, 19, 20, 21, 22, 23, 24, 85, 86, 87, 88, 89, 90, 91, 98, 99, 100, 101, 102, 103, 104, 105, 106, 107] (by decide +kernel) (by decide +kernel)
set_option maxRecDepth 20000 in
theorem gX4_supposed_X1_letUp : GoodIn wsX4_supposed (wsV RX4 150 RX1 yX1_letUp wsX1_letUp) := goodIn_app (goodIn_of _ (by decide +kernel)) ggX4_supposed_X1_letUp
set_option maxRecDepth 20000 in
theorem ggX4_supposed_X4_arrival : GoodIn wsX4_supposed wsX4_arrival := goodIn_r _ [29, 1, 30, 2, 4, 31, 32, 33, 34, 35, 36, 37, 38, 39, 40, 41, 22, 42, 43, 44, 45, 46, 47, 48, 49, 50, 51, 52, 53, 54, 55, 56, 57, 58, 59, 9, 60, 16, 18, 14, 13, 15, 61, 62, 63, 64, 65, 66, 67, 68, 69, 70, 71, 28, 72, 73, 74, 75, 76, 77, 78, 79, 80, 81, 82, 83, 84, 85, 86, 87, 88, 89, 90, 91, 92, 93, 94, 95, 96, 97, 98, 99, 100, 101, 102, 103, 104, 105, 106, 107] (by decide +kernel) (by decide +kernel)
set_option maxRecDepth 20000 in
theorem gX4_supposed_X4_arrival : GoodIn wsX4_supposed (wsV RX4 178 RX4 yX4_arrival wsX4_arrival) := goodIn_app (goodIn_of _ (by decide +kernel)) ggX4_supposed_X4_arrival
theorem dX4_supposed_0 : decode cX4_supposed 0 = .ok (.aload_n 0, 1) := by decide +kernel
theorem dX4_supposed_1 : decode cX4_supposed 1 = .ok (.getfield 47, 3) := by decide +kernel
theorem dX4_supposed_4 : decode cX4_supposed 4 = .ok (.aload_n 0, 1) := by decide +kernel
theorem dX4_supposed_5 : decode cX4_supposed 5 = .ok (.getfield 19, 3) := by decide +kernel
theorem dX4_supposed_8 : decode cX4_supposed 8 = .ok (.iload_n 1, 1) := by decide +kernel
theorem dX4_supposed_9 : decode cX4_supposed 9 = .ok (.iload_n 2, 1) := by decide +kernel
theorem dX4_supposed_10 : decode cX4_supposed 10 = .ok (.iload_n 3, 1) := by decide +kernel
theorem dX4_supposed_11 : decode cX4_supposed 11 = .ok (.invokevirtual 150, 3) := by decide +kernel
theorem dX4_supposed_14 : decode cX4_supposed 14 = .ok (.aload_n 0, 1) := by decide +kernel
theorem dX4_supposed_15 : decode cX4_supposed 15 = .ok (.getfield 47, 3) := by decide +kernel
theorem dX4_supposed_18 : decode cX4_supposed 18 = .ok (.getfield 257, 3) := by decide +kernel
theorem dX4_supposed_21 : decode cX4_supposed 21 = .ok (.iconst 1, 1) := by decide +kernel
theorem dX4_supposed_22 : decode cX4_supposed 22 = .ok (.if_icmp .ge 6, 3) := by decide +kernel
theorem dX4_supposed_25 : decode cX4_supposed 25 = .ok (.bipush (-9), 2) := by decide +kernel
theorem dX4_supposed_27 : decode cX4_supposed 27 = .ok (.ireturn, 1) := by decide +kernel
theorem dX4_supposed_28 : decode cX4_supposed 28 = .ok (.aload_n 0, 1) := by decide +kernel
theorem dX4_supposed_29 : decode cX4_supposed 29 = .ok (.aload_n 0, 1) := by decide +kernel
theorem dX4_supposed_30 : decode cX4_supposed 30 = .ok (.getfield 29, 3) := by decide +kernel
theorem dX4_supposed_33 : decode cX4_supposed 33 = .ok (.getfield 102, 3) := by decide +kernel
theorem dX4_supposed_36 : decode cX4_supposed 36 = .ok (.iload 4, 2) := by decide +kernel
theorem dX4_supposed_38 : decode cX4_supposed 38 = .ok (.iadd, 1) := by decide +kernel
theorem dX4_supposed_39 : decode cX4_supposed 39 = .ok (.iload 5, 2) := by decide +kernel
theorem dX4_supposed_41 : decode cX4_supposed 41 = .ok (.invokevirtual 178, 3) := by decide +kernel
theorem dX4_supposed_44 : decode cX4_supposed 44 = .ok (.ireturn, 1) := by decide +kernel
set_option maxRecDepth 20000 in
theorem kX4_supposed_19 : Cond.fieldLink RX4 19 "WindPost" "chart" "LWindPost$Chart;" ∈ wsX4_supposed := by decide +kernel
set_option maxRecDepth 20000 in
theorem kX4_supposed_29 : Cond.fieldLink RX4 29 "WindPost" "now" "LWindPost$Moment;" ∈ wsX4_supposed := by decide +kernel
set_option maxRecDepth 20000 in
theorem kX4_supposed_47 : Cond.fieldLink RX4 47 "WindPost" "probe" "LWindPost$Letter;" ∈ wsX4_supposed := by decide +kernel
set_option maxRecDepth 20000 in
theorem kX4_supposed_102 : Cond.fieldLink RX4 102 "WindPost$Moment" "time" "I" ∈ wsX4_supposed := by decide +kernel
set_option maxRecDepth 20000 in
theorem kX4_supposed_257 : Cond.fieldLink RX4 257 "WindPost$Letter" "reach" "I" ∈ wsX4_supposed := by decide +kernel
set_option maxRecDepth 20000 in
theorem uX4_supposed_X1 : ∀ w ∈ wsX10, w ∈ wsX4_supposed := by decide +kernel
set_option maxRecDepth 20000 in
theorem uX4_supposed_X2 : ∀ w ∈ wsX20, w ∈ wsX4_supposed := by decide +kernel
set_option maxRecDepth 20000 in
theorem uX4_supposed_X4 : ∀ w ∈ wsX40, w ∈ wsX4_supposed := by decide +kernel
set_option maxHeartbeats 8000000 in
set_option maxRecDepth 100000 in
theorem mX4_supposed (l : Launch) (D : va_G) (ki : Nat → ClassId) (ad : Nat → Nat) (cs : List Nat) (hcs : kW cs) (N : Nat) (a1 : Int32) (a2 : Int32) (a3 : Int32) (a4 : Int32) (a5 : Int32) (G : zMem) (tr : Int64) : gMetI l D ki ad cs yX4_supposed wsX4_supposed { frames := 3, cells := 0, slots := 0, locals := 72 } [.ref (ad 0), .int a1, .int a2, .int a3, .int a4, .int a5] (xE ki ad) G tr (fX4_supposed N a1 a2 a3 a4 a5 G tr) := by
  refine gMetI_of (cc := cX4_supposed) (maxL := 6) (ret := (some .int)) (own := RX4) (by decide +kernel) rfl rfl (Nat.le_of_ble_eq_true rfl) ?_
  intro r9 G9 tr9 h p e s m below meth c S hr hlk K X ls hl
  have hl : lv_has ls 6 [(0, .ref (ad 0)), (1, .int a1), (2, .int a2), (3, .int a3), (4, .int a4), (5, .int a5)] := hl
  unfold fX4_supposed at h
  obtain ⟨H, hH⟩ : ∃ H, H = s.heap := ⟨_, rfl⟩
  obtain ⟨locs, hlo⟩ : ∃ locs : List Loc, locs = [] := ⟨_, rfl⟩
  have X : gS D cs ad ((xE ki ad) G tr) (gA cs ad s.heap.size) s H locs := by rw [hH, hlo]; exact X
  suffices z : W p l e (headSpec wsX4_supposed { frames := 3, cells := 0, slots := 0, locals := 72 }).room s m ([.ref (ad 0), .int a1, .int a2, .int a3, .int a4, .int a5] : List Value).toArray below meth c H locs 0 0 (zQI below ([.ref (ad 0), .int a1, .int a2, .int a3, .int a4, .int a5] : List Value).toArray s D cs ad ((xE ki ad) G9 tr9) r9) (F0 m 0 ls []) by rw [hH, hlo] at z; exact z
  clear hH hlo
  refine lv_aload_n S.1 S.2.1 dX4_supposed_0 rfl (lv_at hl 0 rfl) ?_
  refine zr_get (v := .ref (ad 13)) S K X (hcs 0 (by decide)) xE_W rfl uX4_supposed_X4 9 (by decide) kX4_supposed_47 rfl rfl dX4_supposed_1 ?_
  refine lv_aload_n S.1 S.2.1 dX4_supposed_4 rfl (lv_at hl 0 rfl) ?_
  obtain ⟨hq_1, h⟩ := zch_some h
  refine zr_get (v := .ref (ad (G 0 1).toNatClampNeg)) S K X (hcs 0 (by decide)) xE_W rfl uX4_supposed_X4 1 (by decide) kX4_supposed_19 rfl rfl dX4_supposed_5 ?_
  refine lv_iload_n S.1 S.2.1 dX4_supposed_8 rfl (lv_at hl 1 rfl) ?_
  refine lv_iload_n S.1 S.2.1 dX4_supposed_9 rfl (lv_at hl 2 rfl) ?_
  refine lv_iload_n S.1 S.2.1 dX4_supposed_10 rfl (lv_at hl 3 rfl) ?_
  obtain ⟨r_3, G_4, tr_5, hf_2, h⟩ := zbd_some h
  refine zr_callv (Eg := (xE ki ad)) K X (va_runV (As := [.ref (ad (G 0 1).toNatClampNeg), .int a1, .int a2, .int a3]) (rest := []) S (mX1_letUp l D ki ad cs hcs N 13 (G 0 1).toNatClampNeg a1 a2 a3 (kL_13 hcs) (kC_of hcs hq_1) G tr H.size _ _ _ hf_2) (cwV 4 S.2.2.2.2 gX4_supposed_X1_letUp rfl rfl rfl (by decide +kernel) ⟨Nat.le_of_ble_eq_true rfl, Nat.le_of_ble_eq_true rfl⟩) (zr_preV (c0 := 13) K X (kL_13 hcs).2 (xE_L (kL_13 hcs)) rfl) rfl rfl hl.1 rfl (lv_room (Nat.le_of_ble_eq_true rfl)) dX4_supposed_11 ⟨Nat.zero_le _, Nat.zero_le _⟩) (fun H locs X => ?_)
  refine lv_aload_n S.1 S.2.1 dX4_supposed_14 rfl (lv_at hl 0 rfl) ?_
  refine zr_get (v := .ref (ad 13)) S K X (hcs 0 (by decide)) xE_W rfl uX4_supposed_X4 9 (by decide) kX4_supposed_47 rfl rfl dX4_supposed_15 ?_
  refine zr_get (v := .int (G_4 13 6)) S K X (kL_13 hcs).2 (xE_L (kL_13 hcs)) rfl uX4_supposed_X1 6 (by decide) kX4_supposed_257 rfl rfl dX4_supposed_18 ?_
  refine lv_iconst (v := (1 : Int32)) S.1 S.2.1 dX4_supposed_21 (by decide) ?_
  refine lv_icmp_ge (tgt := 28) S.1 S.2.1 dX4_supposed_22 (by decide) (fun hc_6 => ?_) (fun hc_6 => ?_)
  · have h := zif_pos hc_6 h
    refine lv_aload_n S.1 S.2.1 dX4_supposed_28 rfl (lv_at hl 0 rfl) ?_
    refine lv_aload_n S.1 S.2.1 dX4_supposed_29 rfl (lv_at hl 0 rfl) ?_
    refine zr_get (v := .ref (ad 18)) S K X (hcs 0 (by decide)) xE_W rfl uX4_supposed_X4 3 (by decide) kX4_supposed_29 rfl rfl dX4_supposed_30 ?_
    refine zr_get (v := .int (G_4 18 0)) S K X ((kM_now hcs).2 0 (by decide)) (xE_M (kM_now hcs)) rfl uX4_supposed_X2 0 (by decide) kX4_supposed_102 rfl rfl dX4_supposed_33 ?_
    refine lv_iload S.1 S.2.1 dX4_supposed_36 (lv_at hl 4 rfl) ?_
    refine lv_iadd S.1 S.2.1 dX4_supposed_38 ?_
    refine lv_iload S.1 S.2.1 dX4_supposed_39 (lv_at hl 5 rfl) ?_
    obtain ⟨r_8, G_9, tr_10, hf_7, h⟩ := zbd_some h
    refine zr_calli (Eg := (xE ki ad)) K X (va_runV (As := [.int ((G_4 18 0) + a4), .int a5]) (rest := []) S (mX4_arrival l D ki ad cs hcs N ((G_4 18 0) + a4) a5 G_4 tr_5 H.size _ _ _ hf_7) (cwV 2 S.2.2.2.2 gX4_supposed_X4_arrival rfl rfl rfl (by decide +kernel) ⟨Nat.le_of_ble_eq_true rfl, Nat.le_of_ble_eq_true rfl⟩) (zr_preV (c0 := 0) K X (hcs 0 (by decide)) xE_W rfl) rfl rfl hl.1 rfl (lv_room (Nat.le_of_ble_eq_true rfl)) dX4_supposed_41 ⟨Nat.zero_le _, Nat.zero_le _⟩) (fun H locs X => ?_)
    exact zr_iret S hr hlk X h dX4_supposed_44
  · have h := zif_neg hc_6 h
    refine lv_bipush (v := (-9 : Int32)) S.1 S.2.1 dX4_supposed_25 (by decide) ?_
    exact zr_iret S hr hlk X h dX4_supposed_27
set_option maxRecDepth 20000 in
theorem ggX4_soonest_X4_isWay : GoodIn wsX4_soonest wsX4_isWay := goodIn_r _ [7, 8, 9, 10, 6, 11, 12, 13, 14, 15, 16, 93, 94, 95, 96, 97, 98, 99, 100, 101, 102, 103, 104, 111, 112, 113, 114, 115, 116, 117, 118, 119, 120] (by decide +kernel) (by decide +kernel)
set_option maxRecDepth 20000 in
theorem gX4_soonest_X4_isWay : GoodIn wsX4_soonest (wsV RX4 140 RX4 yX4_isWay wsX4_isWay) := goodIn_app (goodIn_of _ (by decide +kernel)) ggX4_soonest_X4_isWay
set_option maxRecDepth 20000 in
theorem ggX4_soonest_X4_isWeight : GoodIn wsX4_soonest wsX4_isWeight := goodIn_r _ [19, 14, 15, 6, 16] (by decide +kernel) (by decide +kernel)
set_option maxRecDepth 20000 in
theorem gX4_soonest_X4_isWeight : GoodIn wsX4_soonest (va_wsS RX4 144 yX4_isWeight wsX4_isWeight) := goodIn_app (goodIn_of _ (by decide +kernel)) ggX4_soonest_X4_isWeight
set_option maxRecDepth 20000 in
theorem ggX4_soonest_X4_isWithin : GoodIn wsX4_soonest wsX4_isWithin := goodIn_r _ [16] (by decide +kernel) (by decide +kernel)
set_option maxRecDepth 20000 in
theorem gX4_soonest_X4_isWithin : GoodIn wsX4_soonest (va_wsS RX4 54 yX4_isWithin wsX4_isWithin) := goodIn_app (goodIn_of _ (by decide +kernel)) ggX4_soonest_X4_isWithin
set_option maxRecDepth 20000 in
theorem ggX4_soonest_X4_supposed : GoodIn wsX4_soonest wsX4_supposed := goodIn_r _ [23, 24, 12, 25, 1, 26, 27, 28, 29, 30, 31, 32, 33, 34, 35, 36, 37, 38, 39, 40, 41, 42, 43, 44, 45, 46, 47, 48, 6, 49, 50, 51, 52, 53, 54, 55, 56, 57, 58, 59, 60, 61, 62, 63, 64, 65, 66, 67, 68, 69, 70, 71, 72, 73, 74, 75, 76, 77, 78, 79, 80, 81, 82, 83, 84, 85, 86, 87, 88, 89, 90, 91, 92, 93, 94, 95, 96, 97, 98, 99, 100, 101, 102, 103, 104, 121, 122, 123, 124, 125, 126, 127, 105, 106, 107, 108, 109, 110, 111, 112, 113, 114, 115, 116, 117, 118, 119, 120] (by decide +kernel) (by decide +kernel)
set_option maxRecDepth 20000 in
theorem gX4_soonest_X4_supposed : GoodIn wsX4_soonest (wsV RX4 190 RX4 yX4_supposed wsX4_supposed) := goodIn_app (goodIn_of _ (by decide +kernel)) ggX4_soonest_X4_supposed
theorem dX4_soonest_0 : decode cX4_soonest 0 = .ok (.aload_n 0, 1) := by decide +kernel
theorem dX4_soonest_1 : decode cX4_soonest 1 = .ok (.iload_n 1, 1) := by decide +kernel
theorem dX4_soonest_2 : decode cX4_soonest 2 = .ok (.iload_n 2, 1) := by decide +kernel
theorem dX4_soonest_3 : decode cX4_soonest 3 = .ok (.invokevirtual 140, 3) := by decide +kernel
theorem dX4_soonest_6 : decode cX4_soonest 6 = .ok (.ifCond .eq 20, 3) := by decide +kernel
theorem dX4_soonest_9 : decode cX4_soonest 9 = .ok (.iload_n 3, 1) := by decide +kernel
theorem dX4_soonest_10 : decode cX4_soonest 10 = .ok (.invokestatic 144, 3) := by decide +kernel
theorem dX4_soonest_13 : decode cX4_soonest 13 = .ok (.ifCond .eq 13, 3) := by decide +kernel
theorem dX4_soonest_16 : decode cX4_soonest 16 = .ok (.iload 4, 2) := by decide +kernel
theorem dX4_soonest_18 : decode cX4_soonest 18 = .ok (.iconst 0, 1) := by decide +kernel
theorem dX4_soonest_19 : decode cX4_soonest 19 = .ok (.iconst 1, 1) := by decide +kernel
theorem dX4_soonest_20 : decode cX4_soonest 20 = .ok (.invokestatic 54, 3) := by decide +kernel
theorem dX4_soonest_23 : decode cX4_soonest 23 = .ok (.ifCond .ne 5, 3) := by decide +kernel
theorem dX4_soonest_26 : decode cX4_soonest 26 = .ok (.iconst (-1), 1) := by decide +kernel
theorem dX4_soonest_27 : decode cX4_soonest 27 = .ok (.ireturn, 1) := by decide +kernel
theorem dX4_soonest_28 : decode cX4_soonest 28 = .ok (.bipush (-9), 2) := by decide +kernel
theorem dX4_soonest_30 : decode cX4_soonest 30 = .ok (.istore 5, 2) := by decide +kernel
theorem dX4_soonest_32 : decode cX4_soonest 32 = .ok (.bipush (-9), 2) := by decide +kernel
theorem dX4_soonest_34 : decode cX4_soonest 34 = .ok (.istore 6, 2) := by decide +kernel
theorem dX4_soonest_36 : decode cX4_soonest 36 = .ok (.iconst 0, 1) := by decide +kernel
theorem dX4_soonest_37 : decode cX4_soonest 37 = .ok (.istore 7, 2) := by decide +kernel
theorem dX4_soonest_39 : decode cX4_soonest 39 = .ok (.iload 7, 2) := by decide +kernel
theorem dX4_soonest_41 : decode cX4_soonest 41 = .ok (.bipush 12, 2) := by decide +kernel
theorem dX4_soonest_43 : decode cX4_soonest 43 = .ok (.if_icmp .ge 62, 3) := by decide +kernel
theorem dX4_soonest_46 : decode cX4_soonest 46 = .ok (.aload_n 0, 1) := by decide +kernel
theorem dX4_soonest_47 : decode cX4_soonest 47 = .ok (.iload_n 1, 1) := by decide +kernel
theorem dX4_soonest_48 : decode cX4_soonest 48 = .ok (.iload_n 2, 1) := by decide +kernel
theorem dX4_soonest_49 : decode cX4_soonest 49 = .ok (.iload_n 3, 1) := by decide +kernel
theorem dX4_soonest_50 : decode cX4_soonest 50 = .ok (.iload 7, 2) := by decide +kernel
theorem dX4_soonest_52 : decode cX4_soonest 52 = .ok (.aload_n 0, 1) := by decide +kernel
theorem dX4_soonest_53 : decode cX4_soonest 53 = .ok (.getfield 29, 3) := by decide +kernel
theorem dX4_soonest_56 : decode cX4_soonest 56 = .ok (.getfield 88, 3) := by decide +kernel
theorem dX4_soonest_59 : decode cX4_soonest 59 = .ok (.invokevirtual 190, 3) := by decide +kernel
theorem dX4_soonest_62 : decode cX4_soonest 62 = .ok (.istore 8, 2) := by decide +kernel
theorem dX4_soonest_64 : decode cX4_soonest 64 = .ok (.iload 8, 2) := by decide +kernel
theorem dX4_soonest_66 : decode cX4_soonest 66 = .ok (.bipush (-9), 2) := by decide +kernel
theorem dX4_soonest_68 : decode cX4_soonest 68 = .ok (.if_icmp .eq 31, 3) := by decide +kernel
theorem dX4_soonest_71 : decode cX4_soonest 71 = .ok (.iload 6, 2) := by decide +kernel
theorem dX4_soonest_73 : decode cX4_soonest 73 = .ok (.bipush (-9), 2) := by decide +kernel
theorem dX4_soonest_75 : decode cX4_soonest 75 = .ok (.if_icmp .eq 13, 3) := by decide +kernel
theorem dX4_soonest_78 : decode cX4_soonest 78 = .ok (.iload 7, 2) := by decide +kernel
theorem dX4_soonest_80 : decode cX4_soonest 80 = .ok (.iload 8, 2) := by decide +kernel
theorem dX4_soonest_82 : decode cX4_soonest 82 = .ok (.iadd, 1) := by decide +kernel
theorem dX4_soonest_83 : decode cX4_soonest 83 = .ok (.iload 6, 2) := by decide +kernel
theorem dX4_soonest_85 : decode cX4_soonest 85 = .ok (.if_icmp .ge 14, 3) := by decide +kernel
theorem dX4_soonest_88 : decode cX4_soonest 88 = .ok (.iload 7, 2) := by decide +kernel
theorem dX4_soonest_90 : decode cX4_soonest 90 = .ok (.istore 5, 2) := by decide +kernel
theorem dX4_soonest_92 : decode cX4_soonest 92 = .ok (.iload 7, 2) := by decide +kernel
theorem dX4_soonest_94 : decode cX4_soonest 94 = .ok (.iload 8, 2) := by decide +kernel
theorem dX4_soonest_96 : decode cX4_soonest 96 = .ok (.iadd, 1) := by decide +kernel
theorem dX4_soonest_97 : decode cX4_soonest 97 = .ok (.istore 6, 2) := by decide +kernel
theorem dX4_soonest_99 : decode cX4_soonest 99 = .ok (.iinc 7 1, 3) := by decide +kernel
theorem dX4_soonest_102 : decode cX4_soonest 102 = .ok (.goto (-63), 3) := by decide +kernel
theorem dX4_soonest_105 : decode cX4_soonest 105 = .ok (.iload 4, 2) := by decide +kernel
theorem dX4_soonest_107 : decode cX4_soonest 107 = .ok (.ifCond .ne 8, 3) := by decide +kernel
theorem dX4_soonest_110 : decode cX4_soonest 110 = .ok (.iload 5, 2) := by decide +kernel
theorem dX4_soonest_112 : decode cX4_soonest 112 = .ok (.goto 5, 3) := by decide +kernel
theorem dX4_soonest_115 : decode cX4_soonest 115 = .ok (.iload 6, 2) := by decide +kernel
theorem dX4_soonest_117 : decode cX4_soonest 117 = .ok (.ireturn, 1) := by decide +kernel
set_option maxRecDepth 20000 in
theorem kX4_soonest_29 : Cond.fieldLink RX4 29 "WindPost" "now" "LWindPost$Moment;" ∈ wsX4_soonest := by decide +kernel
set_option maxRecDepth 20000 in
theorem kX4_soonest_88 : Cond.fieldLink RX4 88 "WindPost$Moment" "nets" "I" ∈ wsX4_soonest := by decide +kernel
set_option maxRecDepth 20000 in
theorem uX4_soonest_X2 : ∀ w ∈ wsX20, w ∈ wsX4_soonest := by decide +kernel
set_option maxRecDepth 20000 in
theorem uX4_soonest_X4 : ∀ w ∈ wsX40, w ∈ wsX4_soonest := by decide +kernel
set_option maxHeartbeats 8000000 in
set_option maxRecDepth 100000 in
theorem mX4_soonest (l : Launch) (D : va_G) (ki : Nat → ClassId) (ad : Nat → Nat) (cs : List Nat) (hcs : kW cs) (N : Nat) (a1 : Int32) (a2 : Int32) (a3 : Int32) (a4 : Int32) (G : zMem) (tr : Int64) : gMetI l D ki ad cs yX4_soonest wsX4_soonest { frames := 4, cells := 0, slots := 0, locals := 97 } [.ref (ad 0), .int a1, .int a2, .int a3, .int a4] (xE ki ad) G tr (fX4_soonest N a1 a2 a3 a4 G tr) := by
  refine gMetI_of (cc := cX4_soonest) (maxL := 9) (ret := (some .int)) (own := RX4) (by decide +kernel) rfl rfl (Nat.le_of_ble_eq_true rfl) ?_
  intro r9 G9 tr9 h p e s m below meth c S hr hlk K X ls hl
  have hl : lv_has ls 9 [(0, .ref (ad 0)), (1, .int a1), (2, .int a2), (3, .int a3), (4, .int a4)] := hl
  have b99 : ∀ (k39 : Int32 → Int32 → Int32 → zMem → Int64 → zR) (hk39 : ∀ (x5 : Int32) (x6 : Int32) (x7 : Int32) (G : zMem) (tr : Int64), k39 x5 x6 x7 G tr = some (r9, G9, tr9) → zAt p l e (headSpec wsX4_soonest { frames := 4, cells := 0, slots := 0, locals := 97 }).room s m ([.ref (ad 0), .int a1, .int a2, .int a3, .int a4] : List Value).toArray below meth c 9 D cs ad (zQI below ([.ref (ad 0), .int a1, .int a2, .int a3, .int a4] : List Value).toArray s D cs ad ((xE ki ad) G9 tr9) r9) 39 [(0, .ref (ad 0)), (1, .int a1), (2, .int a2), (3, .int a3), (4, .int a4), (5, .int x5), (6, .int x6), (7, .int x7)] [] ((xE ki ad) G tr)) (x5 : Int32) (x6 : Int32) (x7 : Int32) (G : zMem) (tr : Int64), fX4_soonest_b99 N a1 a2 a3 a4 k39 x5 x6 x7 G tr = some (r9, G9, tr9) → zAt p l e (headSpec wsX4_soonest { frames := 4, cells := 0, slots := 0, locals := 97 }).room s m ([.ref (ad 0), .int a1, .int a2, .int a3, .int a4] : List Value).toArray below meth c 9 D cs ad (zQI below ([.ref (ad 0), .int a1, .int a2, .int a3, .int a4] : List Value).toArray s D cs ad ((xE ki ad) G9 tr9) r9) 99 [(0, .ref (ad 0)), (1, .int a1), (2, .int a2), (3, .int a3), (4, .int a4), (5, .int x5), (6, .int x6), (7, .int x7)] [] ((xE ki ad) G tr) := by
    intro k39 hk39 x5 x6 x7 G tr h H locs ls X hl
    unfold fX4_soonest_b99 at h
    refine lv_iinc (v := (x7 + 1)) (lv' := [(7, .int (x7 + 1)), (0, .ref (ad 0)), (1, .int a1), (2, .int a2), (3, .int a3), (4, .int a4), (5, .int x5), (6, .int x6)]) S.1 S.2.1 dX4_soonest_99 hl (k := 7) rfl rfl (by decide) rfl (fun ls hl => ?_)
    refine lv_goto (tgt := 39) S.1 S.2.1 dX4_soonest_102 (by decide) ?_
    exact hk39 x5 x6 (x7 + 1) G tr h _ _ _ X (lv_sub hl [1, 2, 3, 4, 5, 6, 7, 0] rfl)
  have b88 : ∀ (k39 : Int32 → Int32 → Int32 → zMem → Int64 → zR) (hk39 : ∀ (x5 : Int32) (x6 : Int32) (x7 : Int32) (G : zMem) (tr : Int64), k39 x5 x6 x7 G tr = some (r9, G9, tr9) → zAt p l e (headSpec wsX4_soonest { frames := 4, cells := 0, slots := 0, locals := 97 }).room s m ([.ref (ad 0), .int a1, .int a2, .int a3, .int a4] : List Value).toArray below meth c 9 D cs ad (zQI below ([.ref (ad 0), .int a1, .int a2, .int a3, .int a4] : List Value).toArray s D cs ad ((xE ki ad) G9 tr9) r9) 39 [(0, .ref (ad 0)), (1, .int a1), (2, .int a2), (3, .int a3), (4, .int a4), (5, .int x5), (6, .int x6), (7, .int x7)] [] ((xE ki ad) G tr)) (x7 : Int32) (x8 : Int32) (G : zMem) (tr : Int64), fX4_soonest_b88 N a1 a2 a3 a4 k39 x7 x8 G tr = some (r9, G9, tr9) → zAt p l e (headSpec wsX4_soonest { frames := 4, cells := 0, slots := 0, locals := 97 }).room s m ([.ref (ad 0), .int a1, .int a2, .int a3, .int a4] : List Value).toArray below meth c 9 D cs ad (zQI below ([.ref (ad 0), .int a1, .int a2, .int a3, .int a4] : List Value).toArray s D cs ad ((xE ki ad) G9 tr9) r9) 88 [(0, .ref (ad 0)), (1, .int a1), (2, .int a2), (3, .int a3), (4, .int a4), (7, .int x7), (8, .int x8)] [] ((xE ki ad) G tr) := by
    intro k39 hk39 x7 x8 G tr h H locs ls X hl
    unfold fX4_soonest_b88 at h
    refine lv_iload S.1 S.2.1 dX4_soonest_88 (lv_at hl 5 rfl) ?_
    refine lv_istore (lv' := [(5, .int x7), (0, .ref (ad 0)), (1, .int a1), (2, .int a2), (3, .int a3), (4, .int a4), (7, .int x7), (8, .int x8)]) S.1 S.2.1 dX4_soonest_90 hl (by decide) rfl (fun ls hl => ?_)
    refine lv_iload S.1 S.2.1 dX4_soonest_92 (lv_at hl 6 rfl) ?_
    refine lv_iload S.1 S.2.1 dX4_soonest_94 (lv_at hl 7 rfl) ?_
    refine lv_iadd S.1 S.2.1 dX4_soonest_96 ?_
    refine lv_istore (lv' := [(6, .int (x7 + x8)), (5, .int x7), (0, .ref (ad 0)), (1, .int a1), (2, .int a2), (3, .int a3), (4, .int a4), (7, .int x7), (8, .int x8)]) S.1 S.2.1 dX4_soonest_97 hl (by decide) rfl (fun ls hl => ?_)
    exact b99 k39 hk39 x7 (x7 + x8) x7 G tr h _ _ _ X (lv_sub hl [2, 3, 4, 5, 6, 1, 0, 7] rfl)
  have b39 : ∀ (k39 : Int32 → Int32 → Int32 → zMem → Int64 → zR) (hk39 : ∀ (x5 : Int32) (x6 : Int32) (x7 : Int32) (G : zMem) (tr : Int64), k39 x5 x6 x7 G tr = some (r9, G9, tr9) → zAt p l e (headSpec wsX4_soonest { frames := 4, cells := 0, slots := 0, locals := 97 }).room s m ([.ref (ad 0), .int a1, .int a2, .int a3, .int a4] : List Value).toArray below meth c 9 D cs ad (zQI below ([.ref (ad 0), .int a1, .int a2, .int a3, .int a4] : List Value).toArray s D cs ad ((xE ki ad) G9 tr9) r9) 39 [(0, .ref (ad 0)), (1, .int a1), (2, .int a2), (3, .int a3), (4, .int a4), (5, .int x5), (6, .int x6), (7, .int x7)] [] ((xE ki ad) G tr)) (x5 : Int32) (x6 : Int32) (x7 : Int32) (G : zMem) (tr : Int64), fX4_soonest_b39 N a1 a2 a3 a4 k39 x5 x6 x7 G tr = some (r9, G9, tr9) → zAt p l e (headSpec wsX4_soonest { frames := 4, cells := 0, slots := 0, locals := 97 }).room s m ([.ref (ad 0), .int a1, .int a2, .int a3, .int a4] : List Value).toArray below meth c 9 D cs ad (zQI below ([.ref (ad 0), .int a1, .int a2, .int a3, .int a4] : List Value).toArray s D cs ad ((xE ki ad) G9 tr9) r9) 39 [(0, .ref (ad 0)), (1, .int a1), (2, .int a2), (3, .int a3), (4, .int a4), (5, .int x5), (6, .int x6), (7, .int x7)] [] ((xE ki ad) G tr) := by
    intro k39 hk39 x5 x6 x7 G tr h H locs ls X hl
    unfold fX4_soonest_b39 at h
    refine lv_iload S.1 S.2.1 dX4_soonest_39 (lv_at hl 7 rfl) ?_
    refine lv_bipush (v := (12 : Int32)) S.1 S.2.1 dX4_soonest_41 (by decide) ?_
    refine lv_icmp_ge (tgt := 105) S.1 S.2.1 dX4_soonest_43 (by decide) (fun hc_1 => ?_) (fun hc_1 => ?_)
    · have h := zif_pos hc_1 h
      refine lv_iload S.1 S.2.1 dX4_soonest_105 (lv_at hl 4 rfl) ?_
      refine lv_if_ne (tgt := 115) S.1 S.2.1 dX4_soonest_107 (by decide) (fun hc_2 => ?_) (fun hc_2 => ?_)
      · have h := zif_neg hc_2 h
        refine lv_iload S.1 S.2.1 dX4_soonest_115 (lv_at hl 6 rfl) ?_
        exact zr_iret S hr hlk X h dX4_soonest_117
      · have h := zif_pos hc_2 h
        refine lv_iload S.1 S.2.1 dX4_soonest_110 (lv_at hl 5 rfl) ?_
        refine lv_goto (tgt := 117) S.1 S.2.1 dX4_soonest_112 (by decide) ?_
        exact zr_iret S hr hlk X h dX4_soonest_117
    · have h := zif_neg hc_1 h
      refine lv_aload_n S.1 S.2.1 dX4_soonest_46 rfl (lv_at hl 0 rfl) ?_
      refine lv_iload_n S.1 S.2.1 dX4_soonest_47 rfl (lv_at hl 1 rfl) ?_
      refine lv_iload_n S.1 S.2.1 dX4_soonest_48 rfl (lv_at hl 2 rfl) ?_
      refine lv_iload_n S.1 S.2.1 dX4_soonest_49 rfl (lv_at hl 3 rfl) ?_
      refine lv_iload S.1 S.2.1 dX4_soonest_50 (lv_at hl 7 rfl) ?_
      refine lv_aload_n S.1 S.2.1 dX4_soonest_52 rfl (lv_at hl 0 rfl) ?_
      refine zr_get (v := .ref (ad 18)) S K X (hcs 0 (by decide)) xE_W rfl uX4_soonest_X4 3 (by decide) kX4_soonest_29 rfl rfl dX4_soonest_53 ?_
      refine zr_get (v := .int (G 18 2)) S K X ((kM_now hcs).2 0 (by decide)) (xE_M (kM_now hcs)) rfl uX4_soonest_X2 2 (by decide) kX4_soonest_88 rfl rfl dX4_soonest_56 ?_
      obtain ⟨r_4, G_5, tr_6, hf_3, h⟩ := zbd_some h
      refine zr_calli (Eg := (xE ki ad)) K X (va_runV (As := [.int a1, .int a2, .int a3, .int x7, .int (G 18 2)]) (rest := []) S (mX4_supposed l D ki ad cs hcs N a1 a2 a3 x7 (G 18 2) G tr H.size _ _ _ hf_3) (cwV 5 S.2.2.2.2 gX4_soonest_X4_supposed rfl rfl rfl (by decide +kernel) ⟨Nat.le_of_ble_eq_true rfl, Nat.le_of_ble_eq_true rfl⟩) (zr_preV (c0 := 0) K X (hcs 0 (by decide)) xE_W rfl) rfl rfl hl.1 rfl (lv_room (Nat.le_of_ble_eq_true rfl)) dX4_soonest_59 ⟨Nat.zero_le _, Nat.zero_le _⟩) (fun H locs X => ?_)
      refine lv_istore (lv' := [(8, .int r_4), (0, .ref (ad 0)), (1, .int a1), (2, .int a2), (3, .int a3), (4, .int a4), (5, .int x5), (6, .int x6), (7, .int x7)]) S.1 S.2.1 dX4_soonest_62 hl (by decide) rfl (fun ls hl => ?_)
      refine lv_iload S.1 S.2.1 dX4_soonest_64 (lv_at hl 0 rfl) ?_
      refine lv_bipush (v := (-9 : Int32)) S.1 S.2.1 dX4_soonest_66 (by decide) ?_
      refine lv_icmp_eq (tgt := 99) S.1 S.2.1 dX4_soonest_68 (by decide) (fun hc_7 => ?_) (fun hc_7 => ?_)
      · have h := zif_pos hc_7 h
        exact b99 k39 hk39 x5 x6 x7 G_5 tr_6 h _ _ _ X (lv_sub hl [1, 2, 3, 4, 5, 6, 7, 8] rfl)
      · have h := zif_neg hc_7 h
        refine lv_iload S.1 S.2.1 dX4_soonest_71 (lv_at hl 7 rfl) ?_
        refine lv_bipush (v := (-9 : Int32)) S.1 S.2.1 dX4_soonest_73 (by decide) ?_
        refine lv_icmp_eq (tgt := 88) S.1 S.2.1 dX4_soonest_75 (by decide) (fun hc_8 => ?_) (fun hc_8 => ?_)
        · have h := zif_pos hc_8 h
          exact b88 k39 hk39 x7 r_4 G_5 tr_6 h _ _ _ X (lv_sub hl [1, 2, 3, 4, 5, 8, 0] rfl)
        · have h := zif_neg hc_8 h
          refine lv_iload S.1 S.2.1 dX4_soonest_78 (lv_at hl 8 rfl) ?_
          refine lv_iload S.1 S.2.1 dX4_soonest_80 (lv_at hl 0 rfl) ?_
          refine lv_iadd S.1 S.2.1 dX4_soonest_82 ?_
          refine lv_iload S.1 S.2.1 dX4_soonest_83 (lv_at hl 7 rfl) ?_
          refine lv_icmp_ge (tgt := 99) S.1 S.2.1 dX4_soonest_85 (by decide) (fun hc_9 => ?_) (fun hc_9 => ?_)
          · have h := zif_pos hc_9 h
            exact b99 k39 hk39 x5 x6 x7 G_5 tr_6 h _ _ _ X (lv_sub hl [1, 2, 3, 4, 5, 6, 7, 8] rfl)
          · have h := zif_neg hc_9 h
            exact b88 k39 hk39 x7 r_4 G_5 tr_6 h _ _ _ X (lv_sub hl [1, 2, 3, 4, 5, 8, 0] rfl)
  have L39 : ∀ (n : Nat) (x5 : Int32) (x6 : Int32) (x7 : Int32) (G : zMem) (tr : Int64), fX4_soonest_L39 N a1 a2 a3 a4 n x5 x6 x7 G tr = some (r9, G9, tr9) → zAt p l e (headSpec wsX4_soonest { frames := 4, cells := 0, slots := 0, locals := 97 }).room s m ([.ref (ad 0), .int a1, .int a2, .int a3, .int a4] : List Value).toArray below meth c 9 D cs ad (zQI below ([.ref (ad 0), .int a1, .int a2, .int a3, .int a4] : List Value).toArray s D cs ad ((xE ki ad) G9 tr9) r9) 39 [(0, .ref (ad 0)), (1, .int a1), (2, .int a2), (3, .int a3), (4, .int a4), (5, .int x5), (6, .int x6), (7, .int x7)] [] ((xE ki ad) G tr) := by
    intro n
    induction n with
    | zero => intro x5 x6 x7 G tr h; cases h
    | succ n ih => intro x5 x6 x7 G tr h; exact b39 (fX4_soonest_L39 N a1 a2 a3 a4 n) ih x5 x6 x7 G tr h
  unfold fX4_soonest at h
  obtain ⟨H, hH⟩ : ∃ H, H = s.heap := ⟨_, rfl⟩
  obtain ⟨locs, hlo⟩ : ∃ locs : List Loc, locs = [] := ⟨_, rfl⟩
  have X : gS D cs ad ((xE ki ad) G tr) (gA cs ad s.heap.size) s H locs := by rw [hH, hlo]; exact X
  suffices z : W p l e (headSpec wsX4_soonest { frames := 4, cells := 0, slots := 0, locals := 97 }).room s m ([.ref (ad 0), .int a1, .int a2, .int a3, .int a4] : List Value).toArray below meth c H locs 0 0 (zQI below ([.ref (ad 0), .int a1, .int a2, .int a3, .int a4] : List Value).toArray s D cs ad ((xE ki ad) G9 tr9) r9) (F0 m 0 ls []) by rw [hH, hlo] at z; exact z
  clear hH hlo
  refine lv_aload_n S.1 S.2.1 dX4_soonest_0 rfl (lv_at hl 0 rfl) ?_
  refine lv_iload_n S.1 S.2.1 dX4_soonest_1 rfl (lv_at hl 1 rfl) ?_
  refine lv_iload_n S.1 S.2.1 dX4_soonest_2 rfl (lv_at hl 2 rfl) ?_
  obtain ⟨r_2, G_3, tr_4, hf_1, h⟩ := zbd_some h
  refine zr_calli (Eg := (xE ki ad)) K X (va_runV (As := [.int a1, .int a2]) (rest := []) S (mX4_isWay l D ki ad cs hcs N a1 a2 G tr H.size _ _ _ hf_1) (cwV 2 S.2.2.2.2 gX4_soonest_X4_isWay rfl rfl rfl (by decide +kernel) ⟨Nat.le_of_ble_eq_true rfl, Nat.le_of_ble_eq_true rfl⟩) (zr_preV (c0 := 0) K X (hcs 0 (by decide)) xE_W rfl) rfl rfl hl.1 rfl (lv_room (Nat.le_of_ble_eq_true rfl)) dX4_soonest_3 ⟨Nat.zero_le _, Nat.zero_le _⟩) (fun H locs X => ?_)
  refine lv_if_eq (tgt := 26) S.1 S.2.1 dX4_soonest_6 (by decide) (fun hc_5 => ?_) (fun hc_5 => ?_)
  · have h := zif_pos hc_5 h
    refine lv_iconst (v := (-1 : Int32)) S.1 S.2.1 dX4_soonest_26 (by decide) ?_
    exact zr_iret S hr hlk X h dX4_soonest_27
  · have h := zif_neg hc_5 h
    refine lv_iload_n S.1 S.2.1 dX4_soonest_9 rfl (lv_at hl 3 rfl) ?_
    obtain ⟨r_7, hf_6, h⟩ := zbp_some h
    refine zr_calli (Eg := (xE ki ad)) (G' := G_3) (tr' := tr_4) K X (va_runS (As := [.int a3]) (rest := []) S (mX4_isWeight l D ki ad cs N a3 (xE ki ad) G_3 tr_4 H.size _ _ _ (zpu_of hf_6)) (va_cwS 1 S.2.2.2.2 gX4_soonest_X4_isWeight rfl rfl rfl (by decide +kernel) ⟨Nat.le_of_ble_eq_true rfl, Nat.le_of_ble_eq_true rfl⟩) (zr_pre K X) rfl rfl hl.1 rfl (lv_room (Nat.le_of_ble_eq_true rfl)) dX4_soonest_10 ⟨Nat.zero_le _, Nat.zero_le _⟩) (fun H locs X => ?_)
    refine lv_if_eq (tgt := 26) S.1 S.2.1 dX4_soonest_13 (by decide) (fun hc_8 => ?_) (fun hc_8 => ?_)
    · have h := zif_pos hc_8 h
      refine lv_iconst (v := (-1 : Int32)) S.1 S.2.1 dX4_soonest_26 (by decide) ?_
      exact zr_iret S hr hlk X h dX4_soonest_27
    · have h := zif_neg hc_8 h
      refine lv_iload S.1 S.2.1 dX4_soonest_16 (lv_at hl 4 rfl) ?_
      refine lv_iconst (v := (0 : Int32)) S.1 S.2.1 dX4_soonest_18 (by decide) ?_
      refine lv_iconst (v := (1 : Int32)) S.1 S.2.1 dX4_soonest_19 (by decide) ?_
      obtain ⟨r_10, hf_9, h⟩ := zbp_some h
      refine zr_calli (Eg := (xE ki ad)) (G' := G_3) (tr' := tr_4) K X (va_runS (As := [.int a4, .int (0 : Int32), .int (1 : Int32)]) (rest := []) S (mX4_isWithin l D ki ad cs N a4 (0 : Int32) (1 : Int32) (xE ki ad) G_3 tr_4 H.size _ _ _ (zpu_of hf_9)) (va_cwS 3 S.2.2.2.2 gX4_soonest_X4_isWithin rfl rfl rfl (by decide +kernel) ⟨Nat.le_of_ble_eq_true rfl, Nat.le_of_ble_eq_true rfl⟩) (zr_pre K X) rfl rfl hl.1 rfl (lv_room (Nat.le_of_ble_eq_true rfl)) dX4_soonest_20 ⟨Nat.zero_le _, Nat.zero_le _⟩) (fun H locs X => ?_)
      refine lv_if_ne (tgt := 28) S.1 S.2.1 dX4_soonest_23 (by decide) (fun hc_11 => ?_) (fun hc_11 => ?_)
      · have h := zif_neg hc_11 h
        refine lv_bipush (v := (-9 : Int32)) S.1 S.2.1 dX4_soonest_28 (by decide) ?_
        refine lv_istore (lv' := [(5, .int (-9 : Int32)), (0, .ref (ad 0)), (1, .int a1), (2, .int a2), (3, .int a3), (4, .int a4)]) S.1 S.2.1 dX4_soonest_30 hl (by decide) rfl (fun ls hl => ?_)
        refine lv_bipush (v := (-9 : Int32)) S.1 S.2.1 dX4_soonest_32 (by decide) ?_
        refine lv_istore (lv' := [(6, .int (-9 : Int32)), (5, .int (-9 : Int32)), (0, .ref (ad 0)), (1, .int a1), (2, .int a2), (3, .int a3), (4, .int a4)]) S.1 S.2.1 dX4_soonest_34 hl (by decide) rfl (fun ls hl => ?_)
        refine lv_iconst (v := (0 : Int32)) S.1 S.2.1 dX4_soonest_36 (by decide) ?_
        refine lv_istore (lv' := [(7, .int (0 : Int32)), (6, .int (-9 : Int32)), (5, .int (-9 : Int32)), (0, .ref (ad 0)), (1, .int a1), (2, .int a2), (3, .int a3), (4, .int a4)]) S.1 S.2.1 dX4_soonest_37 hl (by decide) rfl (fun ls hl => ?_)
        exact L39 N (-9 : Int32) (-9 : Int32) (0 : Int32) G_3 tr_4 h _ _ _ X (lv_sub hl [3, 4, 5, 6, 7, 2, 1, 0] rfl)
      · have h := zif_pos hc_11 h
        refine lv_iconst (v := (-1 : Int32)) S.1 S.2.1 dX4_soonest_26 (by decide) ?_
        exact zr_iret S hr hlk X h dX4_soonest_27
set_option maxRecDepth 20000 in
theorem ggX4_lightest_X4_isWay : GoodIn wsX4_lightest wsX4_isWay := goodIn_r _ [7, 8, 9, 10, 6, 11, 12, 13, 14, 15, 16, 90, 91, 92, 93, 94, 95, 96, 97, 98, 99, 100, 101, 108, 109, 110, 111, 112, 113, 114, 115, 116, 117] (by decide +kernel) (by decide +kernel)
set_option maxRecDepth 20000 in
theorem gX4_lightest_X4_isWay : GoodIn wsX4_lightest (wsV RX4 140 RX4 yX4_isWay wsX4_isWay) := goodIn_app (goodIn_of _ (by decide +kernel)) ggX4_lightest_X4_isWay
set_option maxRecDepth 20000 in
theorem ggX4_lightest_X4_isWithin : GoodIn wsX4_lightest wsX4_isWithin := goodIn_r _ [16] (by decide +kernel) (by decide +kernel)
set_option maxRecDepth 20000 in
theorem gX4_lightest_X4_isWithin : GoodIn wsX4_lightest (va_wsS RX4 54 yX4_isWithin wsX4_isWithin) := goodIn_app (goodIn_of _ (by decide +kernel)) ggX4_lightest_X4_isWithin
set_option maxRecDepth 20000 in
theorem ggX4_lightest_X4_supposed : GoodIn wsX4_lightest wsX4_supposed := goodIn_r _ [20, 21, 12, 22, 1, 23, 24, 25, 26, 27, 28, 29, 30, 31, 32, 33, 34, 35, 36, 37, 38, 39, 40, 41, 42, 43, 44, 45, 6, 46, 47, 48, 49, 50, 51, 52, 53, 54, 55, 56, 57, 58, 59, 60, 61, 62, 63, 64, 65, 66, 67, 68, 69, 70, 71, 72, 73, 74, 75, 76, 77, 78, 79, 80, 81, 82, 83, 84, 85, 86, 87, 88, 89, 90, 91, 92, 93, 94, 95, 96, 97, 98, 99, 100, 101, 118, 119, 120, 121, 122, 123, 124, 102, 103, 104, 105, 106, 107, 108, 109, 110, 111, 112, 113, 114, 115, 116, 117] (by decide +kernel) (by decide +kernel)
set_option maxRecDepth 20000 in
theorem gX4_lightest_X4_supposed : GoodIn wsX4_lightest (wsV RX4 190 RX4 yX4_supposed wsX4_supposed) := goodIn_app (goodIn_of _ (by decide +kernel)) ggX4_lightest_X4_supposed
theorem dX4_lightest_0 : decode cX4_lightest 0 = .ok (.aload_n 0, 1) := by decide +kernel
theorem dX4_lightest_1 : decode cX4_lightest 1 = .ok (.iload_n 1, 1) := by decide +kernel
theorem dX4_lightest_2 : decode cX4_lightest 2 = .ok (.iload_n 2, 1) := by decide +kernel
theorem dX4_lightest_3 : decode cX4_lightest 3 = .ok (.invokevirtual 140, 3) := by decide +kernel
theorem dX4_lightest_6 : decode cX4_lightest 6 = .ok (.ifCond .eq 13, 3) := by decide +kernel
theorem dX4_lightest_9 : decode cX4_lightest 9 = .ok (.iload_n 3, 1) := by decide +kernel
theorem dX4_lightest_10 : decode cX4_lightest 10 = .ok (.iconst 1, 1) := by decide +kernel
theorem dX4_lightest_11 : decode cX4_lightest 11 = .ok (.bipush 60, 2) := by decide +kernel
theorem dX4_lightest_13 : decode cX4_lightest 13 = .ok (.invokestatic 54, 3) := by decide +kernel
theorem dX4_lightest_16 : decode cX4_lightest 16 = .ok (.ifCond .ne 5, 3) := by decide +kernel
theorem dX4_lightest_19 : decode cX4_lightest 19 = .ok (.iconst (-1), 1) := by decide +kernel
theorem dX4_lightest_20 : decode cX4_lightest 20 = .ok (.ireturn, 1) := by decide +kernel
theorem dX4_lightest_21 : decode cX4_lightest 21 = .ok (.iconst 1, 1) := by decide +kernel
theorem dX4_lightest_22 : decode cX4_lightest 22 = .ok (.istore 4, 2) := by decide +kernel
theorem dX4_lightest_24 : decode cX4_lightest 24 = .ok (.iload 4, 2) := by decide +kernel
theorem dX4_lightest_26 : decode cX4_lightest 26 = .ok (.iconst 5, 1) := by decide +kernel
theorem dX4_lightest_27 : decode cX4_lightest 27 = .ok (.if_icmp .gt 43, 3) := by decide +kernel
theorem dX4_lightest_30 : decode cX4_lightest 30 = .ok (.aload_n 0, 1) := by decide +kernel
theorem dX4_lightest_31 : decode cX4_lightest 31 = .ok (.iload_n 1, 1) := by decide +kernel
theorem dX4_lightest_32 : decode cX4_lightest 32 = .ok (.iload_n 2, 1) := by decide +kernel
theorem dX4_lightest_33 : decode cX4_lightest 33 = .ok (.iload 4, 2) := by decide +kernel
theorem dX4_lightest_35 : decode cX4_lightest 35 = .ok (.iconst 0, 1) := by decide +kernel
theorem dX4_lightest_36 : decode cX4_lightest 36 = .ok (.aload_n 0, 1) := by decide +kernel
theorem dX4_lightest_37 : decode cX4_lightest 37 = .ok (.getfield 29, 3) := by decide +kernel
theorem dX4_lightest_40 : decode cX4_lightest 40 = .ok (.getfield 88, 3) := by decide +kernel
theorem dX4_lightest_43 : decode cX4_lightest 43 = .ok (.invokevirtual 190, 3) := by decide +kernel
theorem dX4_lightest_46 : decode cX4_lightest 46 = .ok (.istore 5, 2) := by decide +kernel
theorem dX4_lightest_48 : decode cX4_lightest 48 = .ok (.iload 5, 2) := by decide +kernel
theorem dX4_lightest_50 : decode cX4_lightest 50 = .ok (.bipush (-9), 2) := by decide +kernel
theorem dX4_lightest_52 : decode cX4_lightest 52 = .ok (.if_icmp .eq 12, 3) := by decide +kernel
theorem dX4_lightest_55 : decode cX4_lightest 55 = .ok (.iload 5, 2) := by decide +kernel
theorem dX4_lightest_57 : decode cX4_lightest 57 = .ok (.iload_n 3, 1) := by decide +kernel
theorem dX4_lightest_58 : decode cX4_lightest 58 = .ok (.if_icmp .gt 6, 3) := by decide +kernel
theorem dX4_lightest_61 : decode cX4_lightest 61 = .ok (.iload 4, 2) := by decide +kernel
theorem dX4_lightest_63 : decode cX4_lightest 63 = .ok (.ireturn, 1) := by decide +kernel
theorem dX4_lightest_64 : decode cX4_lightest 64 = .ok (.iinc 4 1, 3) := by decide +kernel
theorem dX4_lightest_67 : decode cX4_lightest 67 = .ok (.goto (-43), 3) := by decide +kernel
theorem dX4_lightest_70 : decode cX4_lightest 70 = .ok (.bipush (-9), 2) := by decide +kernel
theorem dX4_lightest_72 : decode cX4_lightest 72 = .ok (.ireturn, 1) := by decide +kernel
set_option maxRecDepth 20000 in
theorem kX4_lightest_29 : Cond.fieldLink RX4 29 "WindPost" "now" "LWindPost$Moment;" ∈ wsX4_lightest := by decide +kernel
set_option maxRecDepth 20000 in
theorem kX4_lightest_88 : Cond.fieldLink RX4 88 "WindPost$Moment" "nets" "I" ∈ wsX4_lightest := by decide +kernel
set_option maxRecDepth 20000 in
theorem uX4_lightest_X2 : ∀ w ∈ wsX20, w ∈ wsX4_lightest := by decide +kernel
set_option maxRecDepth 20000 in
theorem uX4_lightest_X4 : ∀ w ∈ wsX40, w ∈ wsX4_lightest := by decide +kernel
set_option maxHeartbeats 8000000 in
set_option maxRecDepth 100000 in
theorem mX4_lightest (l : Launch) (D : va_G) (ki : Nat → ClassId) (ad : Nat → Nat) (cs : List Nat) (hcs : kW cs) (N : Nat) (a1 : Int32) (a2 : Int32) (a3 : Int32) (G : zMem) (tr : Int64) : gMetI l D ki ad cs yX4_lightest wsX4_lightest { frames := 4, cells := 0, slots := 0, locals := 97 } [.ref (ad 0), .int a1, .int a2, .int a3] (xE ki ad) G tr (fX4_lightest N a1 a2 a3 G tr) := by
  refine gMetI_of (cc := cX4_lightest) (maxL := 6) (ret := (some .int)) (own := RX4) (by decide +kernel) rfl rfl (Nat.le_of_ble_eq_true rfl) ?_
  intro r9 G9 tr9 h p e s m below meth c S hr hlk K X ls hl
  have hl : lv_has ls 6 [(0, .ref (ad 0)), (1, .int a1), (2, .int a2), (3, .int a3)] := hl
  have b64 : ∀ (k24 : Int32 → zMem → Int64 → zR) (hk24 : ∀ (x4 : Int32) (G : zMem) (tr : Int64), k24 x4 G tr = some (r9, G9, tr9) → zAt p l e (headSpec wsX4_lightest { frames := 4, cells := 0, slots := 0, locals := 97 }).room s m ([.ref (ad 0), .int a1, .int a2, .int a3] : List Value).toArray below meth c 6 D cs ad (zQI below ([.ref (ad 0), .int a1, .int a2, .int a3] : List Value).toArray s D cs ad ((xE ki ad) G9 tr9) r9) 24 [(0, .ref (ad 0)), (1, .int a1), (2, .int a2), (3, .int a3), (4, .int x4)] [] ((xE ki ad) G tr)) (x4 : Int32) (G : zMem) (tr : Int64), fX4_lightest_b64 N a1 a2 a3 k24 x4 G tr = some (r9, G9, tr9) → zAt p l e (headSpec wsX4_lightest { frames := 4, cells := 0, slots := 0, locals := 97 }).room s m ([.ref (ad 0), .int a1, .int a2, .int a3] : List Value).toArray below meth c 6 D cs ad (zQI below ([.ref (ad 0), .int a1, .int a2, .int a3] : List Value).toArray s D cs ad ((xE ki ad) G9 tr9) r9) 64 [(0, .ref (ad 0)), (1, .int a1), (2, .int a2), (3, .int a3), (4, .int x4)] [] ((xE ki ad) G tr) := by
    intro k24 hk24 x4 G tr h H locs ls X hl
    unfold fX4_lightest_b64 at h
    refine lv_iinc (v := (x4 + 1)) (lv' := [(4, .int (x4 + 1)), (0, .ref (ad 0)), (1, .int a1), (2, .int a2), (3, .int a3)]) S.1 S.2.1 dX4_lightest_64 hl (k := 4) rfl rfl (by decide) rfl (fun ls hl => ?_)
    refine lv_goto (tgt := 24) S.1 S.2.1 dX4_lightest_67 (by decide) ?_
    exact hk24 (x4 + 1) G tr h _ _ _ X (lv_sub hl [1, 2, 3, 4, 0] rfl)
  have b24 : ∀ (k24 : Int32 → zMem → Int64 → zR) (hk24 : ∀ (x4 : Int32) (G : zMem) (tr : Int64), k24 x4 G tr = some (r9, G9, tr9) → zAt p l e (headSpec wsX4_lightest { frames := 4, cells := 0, slots := 0, locals := 97 }).room s m ([.ref (ad 0), .int a1, .int a2, .int a3] : List Value).toArray below meth c 6 D cs ad (zQI below ([.ref (ad 0), .int a1, .int a2, .int a3] : List Value).toArray s D cs ad ((xE ki ad) G9 tr9) r9) 24 [(0, .ref (ad 0)), (1, .int a1), (2, .int a2), (3, .int a3), (4, .int x4)] [] ((xE ki ad) G tr)) (x4 : Int32) (G : zMem) (tr : Int64), fX4_lightest_b24 N a1 a2 a3 k24 x4 G tr = some (r9, G9, tr9) → zAt p l e (headSpec wsX4_lightest { frames := 4, cells := 0, slots := 0, locals := 97 }).room s m ([.ref (ad 0), .int a1, .int a2, .int a3] : List Value).toArray below meth c 6 D cs ad (zQI below ([.ref (ad 0), .int a1, .int a2, .int a3] : List Value).toArray s D cs ad ((xE ki ad) G9 tr9) r9) 24 [(0, .ref (ad 0)), (1, .int a1), (2, .int a2), (3, .int a3), (4, .int x4)] [] ((xE ki ad) G tr) := by
    intro k24 hk24 x4 G tr h H locs ls X hl
    unfold fX4_lightest_b24 at h
    refine lv_iload S.1 S.2.1 dX4_lightest_24 (lv_at hl 4 rfl) ?_
    refine lv_iconst (v := (5 : Int32)) S.1 S.2.1 dX4_lightest_26 (by decide) ?_
    refine lv_icmp_gt (tgt := 70) S.1 S.2.1 dX4_lightest_27 (by decide) (fun hc_1 => ?_) (fun hc_1 => ?_)
    · have h := zif_pos hc_1 h
      refine lv_bipush (v := (-9 : Int32)) S.1 S.2.1 dX4_lightest_70 (by decide) ?_
      exact zr_iret S hr hlk X h dX4_lightest_72
    · have h := zif_neg hc_1 h
      refine lv_aload_n S.1 S.2.1 dX4_lightest_30 rfl (lv_at hl 0 rfl) ?_
      refine lv_iload_n S.1 S.2.1 dX4_lightest_31 rfl (lv_at hl 1 rfl) ?_
      refine lv_iload_n S.1 S.2.1 dX4_lightest_32 rfl (lv_at hl 2 rfl) ?_
      refine lv_iload S.1 S.2.1 dX4_lightest_33 (lv_at hl 4 rfl) ?_
      refine lv_iconst (v := (0 : Int32)) S.1 S.2.1 dX4_lightest_35 (by decide) ?_
      refine lv_aload_n S.1 S.2.1 dX4_lightest_36 rfl (lv_at hl 0 rfl) ?_
      refine zr_get (v := .ref (ad 18)) S K X (hcs 0 (by decide)) xE_W rfl uX4_lightest_X4 3 (by decide) kX4_lightest_29 rfl rfl dX4_lightest_37 ?_
      refine zr_get (v := .int (G 18 2)) S K X ((kM_now hcs).2 0 (by decide)) (xE_M (kM_now hcs)) rfl uX4_lightest_X2 2 (by decide) kX4_lightest_88 rfl rfl dX4_lightest_40 ?_
      obtain ⟨r_3, G_4, tr_5, hf_2, h⟩ := zbd_some h
      refine zr_calli (Eg := (xE ki ad)) K X (va_runV (As := [.int a1, .int a2, .int x4, .int (0 : Int32), .int (G 18 2)]) (rest := []) S (mX4_supposed l D ki ad cs hcs N a1 a2 x4 (0 : Int32) (G 18 2) G tr H.size _ _ _ hf_2) (cwV 5 S.2.2.2.2 gX4_lightest_X4_supposed rfl rfl rfl (by decide +kernel) ⟨Nat.le_of_ble_eq_true rfl, Nat.le_of_ble_eq_true rfl⟩) (zr_preV (c0 := 0) K X (hcs 0 (by decide)) xE_W rfl) rfl rfl hl.1 rfl (lv_room (Nat.le_of_ble_eq_true rfl)) dX4_lightest_43 ⟨Nat.zero_le _, Nat.zero_le _⟩) (fun H locs X => ?_)
      refine lv_istore (lv' := [(5, .int r_3), (0, .ref (ad 0)), (1, .int a1), (2, .int a2), (3, .int a3), (4, .int x4)]) S.1 S.2.1 dX4_lightest_46 hl (by decide) rfl (fun ls hl => ?_)
      refine lv_iload S.1 S.2.1 dX4_lightest_48 (lv_at hl 0 rfl) ?_
      refine lv_bipush (v := (-9 : Int32)) S.1 S.2.1 dX4_lightest_50 (by decide) ?_
      refine lv_icmp_eq (tgt := 64) S.1 S.2.1 dX4_lightest_52 (by decide) (fun hc_6 => ?_) (fun hc_6 => ?_)
      · have h := zif_pos hc_6 h
        exact b64 k24 hk24 x4 G_4 tr_5 h _ _ _ X (lv_sub hl [1, 2, 3, 4, 5] rfl)
      · have h := zif_neg hc_6 h
        refine lv_iload S.1 S.2.1 dX4_lightest_55 (lv_at hl 0 rfl) ?_
        refine lv_iload_n S.1 S.2.1 dX4_lightest_57 rfl (lv_at hl 4 rfl) ?_
        refine lv_icmp_gt (tgt := 64) S.1 S.2.1 dX4_lightest_58 (by decide) (fun hc_7 => ?_) (fun hc_7 => ?_)
        · have h := zif_pos hc_7 h
          exact b64 k24 hk24 x4 G_4 tr_5 h _ _ _ X (lv_sub hl [1, 2, 3, 4, 5] rfl)
        · have h := zif_neg hc_7 h
          refine lv_iload S.1 S.2.1 dX4_lightest_61 (lv_at hl 5 rfl) ?_
          exact zr_iret S hr hlk X h dX4_lightest_63
  have L24 : ∀ (n : Nat) (x4 : Int32) (G : zMem) (tr : Int64), fX4_lightest_L24 N a1 a2 a3 n x4 G tr = some (r9, G9, tr9) → zAt p l e (headSpec wsX4_lightest { frames := 4, cells := 0, slots := 0, locals := 97 }).room s m ([.ref (ad 0), .int a1, .int a2, .int a3] : List Value).toArray below meth c 6 D cs ad (zQI below ([.ref (ad 0), .int a1, .int a2, .int a3] : List Value).toArray s D cs ad ((xE ki ad) G9 tr9) r9) 24 [(0, .ref (ad 0)), (1, .int a1), (2, .int a2), (3, .int a3), (4, .int x4)] [] ((xE ki ad) G tr) := by
    intro n
    induction n with
    | zero => intro x4 G tr h; cases h
    | succ n ih => intro x4 G tr h; exact b24 (fX4_lightest_L24 N a1 a2 a3 n) ih x4 G tr h
  unfold fX4_lightest at h
  obtain ⟨H, hH⟩ : ∃ H, H = s.heap := ⟨_, rfl⟩
  obtain ⟨locs, hlo⟩ : ∃ locs : List Loc, locs = [] := ⟨_, rfl⟩
  have X : gS D cs ad ((xE ki ad) G tr) (gA cs ad s.heap.size) s H locs := by rw [hH, hlo]; exact X
  suffices z : W p l e (headSpec wsX4_lightest { frames := 4, cells := 0, slots := 0, locals := 97 }).room s m ([.ref (ad 0), .int a1, .int a2, .int a3] : List Value).toArray below meth c H locs 0 0 (zQI below ([.ref (ad 0), .int a1, .int a2, .int a3] : List Value).toArray s D cs ad ((xE ki ad) G9 tr9) r9) (F0 m 0 ls []) by rw [hH, hlo] at z; exact z
  clear hH hlo
  refine lv_aload_n S.1 S.2.1 dX4_lightest_0 rfl (lv_at hl 0 rfl) ?_
  refine lv_iload_n S.1 S.2.1 dX4_lightest_1 rfl (lv_at hl 1 rfl) ?_
  refine lv_iload_n S.1 S.2.1 dX4_lightest_2 rfl (lv_at hl 2 rfl) ?_
  obtain ⟨r_2, G_3, tr_4, hf_1, h⟩ := zbd_some h
  refine zr_calli (Eg := (xE ki ad)) K X (va_runV (As := [.int a1, .int a2]) (rest := []) S (mX4_isWay l D ki ad cs hcs N a1 a2 G tr H.size _ _ _ hf_1) (cwV 2 S.2.2.2.2 gX4_lightest_X4_isWay rfl rfl rfl (by decide +kernel) ⟨Nat.le_of_ble_eq_true rfl, Nat.le_of_ble_eq_true rfl⟩) (zr_preV (c0 := 0) K X (hcs 0 (by decide)) xE_W rfl) rfl rfl hl.1 rfl (lv_room (Nat.le_of_ble_eq_true rfl)) dX4_lightest_3 ⟨Nat.zero_le _, Nat.zero_le _⟩) (fun H locs X => ?_)
  refine lv_if_eq (tgt := 19) S.1 S.2.1 dX4_lightest_6 (by decide) (fun hc_5 => ?_) (fun hc_5 => ?_)
  · have h := zif_pos hc_5 h
    refine lv_iconst (v := (-1 : Int32)) S.1 S.2.1 dX4_lightest_19 (by decide) ?_
    exact zr_iret S hr hlk X h dX4_lightest_20
  · have h := zif_neg hc_5 h
    refine lv_iload_n S.1 S.2.1 dX4_lightest_9 rfl (lv_at hl 3 rfl) ?_
    refine lv_iconst (v := (1 : Int32)) S.1 S.2.1 dX4_lightest_10 (by decide) ?_
    refine lv_bipush (v := (60 : Int32)) S.1 S.2.1 dX4_lightest_11 (by decide) ?_
    obtain ⟨r_7, hf_6, h⟩ := zbp_some h
    refine zr_calli (Eg := (xE ki ad)) (G' := G_3) (tr' := tr_4) K X (va_runS (As := [.int a3, .int (1 : Int32), .int (60 : Int32)]) (rest := []) S (mX4_isWithin l D ki ad cs N a3 (1 : Int32) (60 : Int32) (xE ki ad) G_3 tr_4 H.size _ _ _ (zpu_of hf_6)) (va_cwS 3 S.2.2.2.2 gX4_lightest_X4_isWithin rfl rfl rfl (by decide +kernel) ⟨Nat.le_of_ble_eq_true rfl, Nat.le_of_ble_eq_true rfl⟩) (zr_pre K X) rfl rfl hl.1 rfl (lv_room (Nat.le_of_ble_eq_true rfl)) dX4_lightest_13 ⟨Nat.zero_le _, Nat.zero_le _⟩) (fun H locs X => ?_)
    refine lv_if_ne (tgt := 21) S.1 S.2.1 dX4_lightest_16 (by decide) (fun hc_8 => ?_) (fun hc_8 => ?_)
    · have h := zif_neg hc_8 h
      refine lv_iconst (v := (1 : Int32)) S.1 S.2.1 dX4_lightest_21 (by decide) ?_
      refine lv_istore (lv' := [(4, .int (1 : Int32)), (0, .ref (ad 0)), (1, .int a1), (2, .int a2), (3, .int a3)]) S.1 S.2.1 dX4_lightest_22 hl (by decide) rfl (fun ls hl => ?_)
      exact L24 N (1 : Int32) G_3 tr_4 h _ _ _ X (lv_sub hl [1, 2, 3, 4, 0] rfl)
    · have h := zif_pos hc_8 h
      refine lv_iconst (v := (-1 : Int32)) S.1 S.2.1 dX4_lightest_19 (by decide) ?_
      exact zr_iret S hr hlk X h dX4_lightest_20
set_option maxRecDepth 20000 in
theorem ggX4_keepsOff_X4_supposed : GoodIn wsX4_keepsOff wsX4_supposed := goodIn_r _ [7, 8, 9, 10, 1, 11, 12, 13, 14, 15, 16, 17, 18, 19, 20, 21, 22, 23, 24, 25, 26, 27, 28, 29, 30, 31, 32, 33, 6, 34, 35, 36, 37, 38, 39, 40, 41, 42, 43, 44, 45, 46, 47, 48, 49, 50, 51, 52, 53, 54, 55, 56, 57, 58, 59, 60, 61, 62, 63, 64, 65, 66, 67, 68, 69, 70, 71, 72, 73, 74, 75, 76, 77, 78, 79, 80, 81, 82, 83, 84, 85, 86, 87, 88, 89, 96, 97, 98, 99, 100, 101, 102, 90, 91, 92, 93, 94, 95, 103, 104, 105, 106, 107, 108, 109, 110, 111, 112] (by decide +kernel) (by decide +kernel)
set_option maxRecDepth 20000 in
theorem gX4_keepsOff_X4_supposed : GoodIn wsX4_keepsOff (wsV RX4 190 RX4 yX4_supposed wsX4_supposed) := goodIn_app (goodIn_of _ (by decide +kernel)) ggX4_keepsOff_X4_supposed
theorem dX4_keepsOff_0 : decode cX4_keepsOff 0 = .ok (.iconst 0, 1) := by decide +kernel
theorem dX4_keepsOff_1 : decode cX4_keepsOff 1 = .ok (.istore 5, 2) := by decide +kernel
theorem dX4_keepsOff_3 : decode cX4_keepsOff 3 = .ok (.iload 5, 2) := by decide +kernel
theorem dX4_keepsOff_5 : decode cX4_keepsOff 5 = .ok (.bipush 12, 2) := by decide +kernel
theorem dX4_keepsOff_7 : decode cX4_keepsOff 7 = .ok (.if_icmp .ge 35, 3) := by decide +kernel
theorem dX4_keepsOff_10 : decode cX4_keepsOff 10 = .ok (.aload_n 0, 1) := by decide +kernel
theorem dX4_keepsOff_11 : decode cX4_keepsOff 11 = .ok (.iload_n 1, 1) := by decide +kernel
theorem dX4_keepsOff_12 : decode cX4_keepsOff 12 = .ok (.iload_n 2, 1) := by decide +kernel
theorem dX4_keepsOff_13 : decode cX4_keepsOff 13 = .ok (.iload_n 3, 1) := by decide +kernel
theorem dX4_keepsOff_14 : decode cX4_keepsOff 14 = .ok (.iload 5, 2) := by decide +kernel
theorem dX4_keepsOff_16 : decode cX4_keepsOff 16 = .ok (.aload_n 0, 1) := by decide +kernel
theorem dX4_keepsOff_17 : decode cX4_keepsOff 17 = .ok (.getfield 29, 3) := by decide +kernel
theorem dX4_keepsOff_20 : decode cX4_keepsOff 20 = .ok (.getfield 88, 3) := by decide +kernel
theorem dX4_keepsOff_23 : decode cX4_keepsOff 23 = .ok (.iload 4, 2) := by decide +kernel
theorem dX4_keepsOff_25 : decode cX4_keepsOff 25 = .ok (.ior, 1) := by decide +kernel
theorem dX4_keepsOff_26 : decode cX4_keepsOff 26 = .ok (.invokevirtual 190, 3) := by decide +kernel
theorem dX4_keepsOff_29 : decode cX4_keepsOff 29 = .ok (.bipush (-9), 2) := by decide +kernel
theorem dX4_keepsOff_31 : decode cX4_keepsOff 31 = .ok (.if_icmp .eq 5, 3) := by decide +kernel
theorem dX4_keepsOff_34 : decode cX4_keepsOff 34 = .ok (.iconst 0, 1) := by decide +kernel
theorem dX4_keepsOff_35 : decode cX4_keepsOff 35 = .ok (.ireturn, 1) := by decide +kernel
theorem dX4_keepsOff_36 : decode cX4_keepsOff 36 = .ok (.iinc 5 1, 3) := by decide +kernel
theorem dX4_keepsOff_39 : decode cX4_keepsOff 39 = .ok (.goto (-36), 3) := by decide +kernel
theorem dX4_keepsOff_42 : decode cX4_keepsOff 42 = .ok (.iconst 1, 1) := by decide +kernel
theorem dX4_keepsOff_43 : decode cX4_keepsOff 43 = .ok (.ireturn, 1) := by decide +kernel
set_option maxRecDepth 20000 in
theorem kX4_keepsOff_29 : Cond.fieldLink RX4 29 "WindPost" "now" "LWindPost$Moment;" ∈ wsX4_keepsOff := by decide +kernel
set_option maxRecDepth 20000 in
theorem kX4_keepsOff_88 : Cond.fieldLink RX4 88 "WindPost$Moment" "nets" "I" ∈ wsX4_keepsOff := by decide +kernel
set_option maxRecDepth 20000 in
theorem uX4_keepsOff_X2 : ∀ w ∈ wsX20, w ∈ wsX4_keepsOff := by decide +kernel
set_option maxRecDepth 20000 in
theorem uX4_keepsOff_X4 : ∀ w ∈ wsX40, w ∈ wsX4_keepsOff := by decide +kernel
set_option maxHeartbeats 8000000 in
set_option maxRecDepth 100000 in
theorem mX4_keepsOff (l : Launch) (D : va_G) (ki : Nat → ClassId) (ad : Nat → Nat) (cs : List Nat) (hcs : kW cs) (N : Nat) (a1 : Int32) (a2 : Int32) (a3 : Int32) (a4 : Int32) (G : zMem) (tr : Int64) : gMetI l D ki ad cs yX4_keepsOff wsX4_keepsOff { frames := 4, cells := 0, slots := 0, locals := 97 } [.ref (ad 0), .int a1, .int a2, .int a3, .int a4] (xE ki ad) G tr (fX4_keepsOff N a1 a2 a3 a4 G tr) := by
  refine gMetI_of (cc := cX4_keepsOff) (maxL := 6) (ret := (some .boolean)) (own := RX4) (by decide +kernel) rfl rfl (Nat.le_of_ble_eq_true rfl) ?_
  intro r9 G9 tr9 h p e s m below meth c S hr hlk K X ls hl
  have hl : lv_has ls 6 [(0, .ref (ad 0)), (1, .int a1), (2, .int a2), (3, .int a3), (4, .int a4)] := hl
  have b3 : ∀ (k3 : Int32 → zMem → Int64 → zR) (hk3 : ∀ (x5 : Int32) (G : zMem) (tr : Int64), k3 x5 G tr = some (r9, G9, tr9) → zAt p l e (headSpec wsX4_keepsOff { frames := 4, cells := 0, slots := 0, locals := 97 }).room s m ([.ref (ad 0), .int a1, .int a2, .int a3, .int a4] : List Value).toArray below meth c 6 D cs ad (zQI below ([.ref (ad 0), .int a1, .int a2, .int a3, .int a4] : List Value).toArray s D cs ad ((xE ki ad) G9 tr9) r9) 3 [(0, .ref (ad 0)), (1, .int a1), (2, .int a2), (3, .int a3), (4, .int a4), (5, .int x5)] [] ((xE ki ad) G tr)) (x5 : Int32) (G : zMem) (tr : Int64), fX4_keepsOff_b3 N a1 a2 a3 a4 k3 x5 G tr = some (r9, G9, tr9) → zAt p l e (headSpec wsX4_keepsOff { frames := 4, cells := 0, slots := 0, locals := 97 }).room s m ([.ref (ad 0), .int a1, .int a2, .int a3, .int a4] : List Value).toArray below meth c 6 D cs ad (zQI below ([.ref (ad 0), .int a1, .int a2, .int a3, .int a4] : List Value).toArray s D cs ad ((xE ki ad) G9 tr9) r9) 3 [(0, .ref (ad 0)), (1, .int a1), (2, .int a2), (3, .int a3), (4, .int a4), (5, .int x5)] [] ((xE ki ad) G tr) := by
    intro k3 hk3 x5 G tr h H locs ls X hl
    unfold fX4_keepsOff_b3 at h
    refine lv_iload S.1 S.2.1 dX4_keepsOff_3 (lv_at hl 5 rfl) ?_
    refine lv_bipush (v := (12 : Int32)) S.1 S.2.1 dX4_keepsOff_5 (by decide) ?_
    refine lv_icmp_ge (tgt := 42) S.1 S.2.1 dX4_keepsOff_7 (by decide) (fun hc_1 => ?_) (fun hc_1 => ?_)
    · have h := zif_pos hc_1 h
      refine lv_iconst (v := (1 : Int32)) S.1 S.2.1 dX4_keepsOff_42 (by decide) ?_
      exact zr_zret S hr hlk X h dX4_keepsOff_43
    · have h := zif_neg hc_1 h
      refine lv_aload_n S.1 S.2.1 dX4_keepsOff_10 rfl (lv_at hl 0 rfl) ?_
      refine lv_iload_n S.1 S.2.1 dX4_keepsOff_11 rfl (lv_at hl 1 rfl) ?_
      refine lv_iload_n S.1 S.2.1 dX4_keepsOff_12 rfl (lv_at hl 2 rfl) ?_
      refine lv_iload_n S.1 S.2.1 dX4_keepsOff_13 rfl (lv_at hl 3 rfl) ?_
      refine lv_iload S.1 S.2.1 dX4_keepsOff_14 (lv_at hl 5 rfl) ?_
      refine lv_aload_n S.1 S.2.1 dX4_keepsOff_16 rfl (lv_at hl 0 rfl) ?_
      refine zr_get (v := .ref (ad 18)) S K X (hcs 0 (by decide)) xE_W rfl uX4_keepsOff_X4 3 (by decide) kX4_keepsOff_29 rfl rfl dX4_keepsOff_17 ?_
      refine zr_get (v := .int (G 18 2)) S K X ((kM_now hcs).2 0 (by decide)) (xE_M (kM_now hcs)) rfl uX4_keepsOff_X2 2 (by decide) kX4_keepsOff_88 rfl rfl dX4_keepsOff_20 ?_
      refine lv_iload S.1 S.2.1 dX4_keepsOff_23 (lv_at hl 4 rfl) ?_
      refine lv_ior S.1 S.2.1 dX4_keepsOff_25 ?_
      obtain ⟨r_3, G_4, tr_5, hf_2, h⟩ := zbd_some h
      refine zr_calli (Eg := (xE ki ad)) K X (va_runV (As := [.int a1, .int a2, .int a3, .int x5, .int ((G 18 2) ||| a4)]) (rest := []) S (mX4_supposed l D ki ad cs hcs N a1 a2 a3 x5 ((G 18 2) ||| a4) G tr H.size _ _ _ hf_2) (cwV 5 S.2.2.2.2 gX4_keepsOff_X4_supposed rfl rfl rfl (by decide +kernel) ⟨Nat.le_of_ble_eq_true rfl, Nat.le_of_ble_eq_true rfl⟩) (zr_preV (c0 := 0) K X (hcs 0 (by decide)) xE_W rfl) rfl rfl hl.1 rfl (lv_room (Nat.le_of_ble_eq_true rfl)) dX4_keepsOff_26 ⟨Nat.zero_le _, Nat.zero_le _⟩) (fun H locs X => ?_)
      refine lv_bipush (v := (-9 : Int32)) S.1 S.2.1 dX4_keepsOff_29 (by decide) ?_
      refine lv_icmp_eq (tgt := 36) S.1 S.2.1 dX4_keepsOff_31 (by decide) (fun hc_6 => ?_) (fun hc_6 => ?_)
      · have h := zif_pos hc_6 h
        refine lv_iinc (v := (x5 + 1)) (lv' := [(5, .int (x5 + 1)), (0, .ref (ad 0)), (1, .int a1), (2, .int a2), (3, .int a3), (4, .int a4)]) S.1 S.2.1 dX4_keepsOff_36 hl (k := 5) rfl rfl (by decide) rfl (fun ls hl => ?_)
        refine lv_goto (tgt := 3) S.1 S.2.1 dX4_keepsOff_39 (by decide) ?_
        exact hk3 (x5 + 1) G_4 tr_5 h _ _ _ X (lv_sub hl [1, 2, 3, 4, 5, 0] rfl)
      · have h := zif_neg hc_6 h
        refine lv_iconst (v := (0 : Int32)) S.1 S.2.1 dX4_keepsOff_34 (by decide) ?_
        exact zr_zret S hr hlk X h dX4_keepsOff_35
  have L3 : ∀ (n : Nat) (x5 : Int32) (G : zMem) (tr : Int64), fX4_keepsOff_L3 N a1 a2 a3 a4 n x5 G tr = some (r9, G9, tr9) → zAt p l e (headSpec wsX4_keepsOff { frames := 4, cells := 0, slots := 0, locals := 97 }).room s m ([.ref (ad 0), .int a1, .int a2, .int a3, .int a4] : List Value).toArray below meth c 6 D cs ad (zQI below ([.ref (ad 0), .int a1, .int a2, .int a3, .int a4] : List Value).toArray s D cs ad ((xE ki ad) G9 tr9) r9) 3 [(0, .ref (ad 0)), (1, .int a1), (2, .int a2), (3, .int a3), (4, .int a4), (5, .int x5)] [] ((xE ki ad) G tr) := by
    intro n
    induction n with
    | zero => intro x5 G tr h; cases h
    | succ n ih => intro x5 G tr h; exact b3 (fX4_keepsOff_L3 N a1 a2 a3 a4 n) ih x5 G tr h
  unfold fX4_keepsOff at h
  obtain ⟨H, hH⟩ : ∃ H, H = s.heap := ⟨_, rfl⟩
  obtain ⟨locs, hlo⟩ : ∃ locs : List Loc, locs = [] := ⟨_, rfl⟩
  have X : gS D cs ad ((xE ki ad) G tr) (gA cs ad s.heap.size) s H locs := by rw [hH, hlo]; exact X
  suffices z : W p l e (headSpec wsX4_keepsOff { frames := 4, cells := 0, slots := 0, locals := 97 }).room s m ([.ref (ad 0), .int a1, .int a2, .int a3, .int a4] : List Value).toArray below meth c H locs 0 0 (zQI below ([.ref (ad 0), .int a1, .int a2, .int a3, .int a4] : List Value).toArray s D cs ad ((xE ki ad) G9 tr9) r9) (F0 m 0 ls []) by rw [hH, hlo] at z; exact z
  clear hH hlo
  refine lv_iconst (v := (0 : Int32)) S.1 S.2.1 dX4_keepsOff_0 (by decide) ?_
  refine lv_istore (lv' := [(5, .int (0 : Int32)), (0, .ref (ad 0)), (1, .int a1), (2, .int a2), (3, .int a3), (4, .int a4)]) S.1 S.2.1 dX4_keepsOff_1 hl (by decide) rfl (fun ls hl => ?_)
  exact L3 N (0 : Int32) G tr h _ _ _ X (lv_sub hl [1, 2, 3, 4, 5, 0] rfl)
set_option maxRecDepth 20000 in
theorem ggX4_hasWordOf_X4_keepsOff : GoodIn wsX4_hasWordOf wsX4_keepsOff := goodIn_r _ [5, 6, 7, 8, 9, 10, 4, 11, 12, 13, 14, 15, 16, 17, 18, 19, 20, 21, 22, 23, 24, 25, 26, 27, 28, 29, 30, 31, 32, 33, 34, 35, 36, 37, 38, 39, 40, 41, 42, 43, 44, 45, 46, 47, 48, 49, 50, 51, 52, 53, 54, 55, 56, 57, 58, 59, 60, 61, 62, 63, 64, 65, 66, 67, 68, 69, 70, 71, 72, 73, 74, 75, 76, 77, 78, 79, 80, 81, 82, 83, 84, 85, 86, 87, 88, 89, 90, 91, 92, 93, 94, 95, 96, 97, 98, 99, 100, 101, 102, 103, 104, 105, 106, 107, 108, 109, 110, 111, 112, 113, 114, 115, 116] (by decide +kernel) (by decide +kernel)
set_option maxRecDepth 20000 in
theorem gX4_hasWordOf_X4_keepsOff : GoodIn wsX4_hasWordOf (wsV RX4 205 RX4 yX4_keepsOff wsX4_keepsOff) := goodIn_app (goodIn_of _ (by decide +kernel)) ggX4_hasWordOf_X4_keepsOff
theorem dX4_hasWordOf_0 : decode cX4_hasWordOf 0 = .ok (.iconst 1, 1) := by decide +kernel
theorem dX4_hasWordOf_1 : decode cX4_hasWordOf 1 = .ok (.istore_n 3, 1) := by decide +kernel
theorem dX4_hasWordOf_2 : decode cX4_hasWordOf 2 = .ok (.iload_n 3, 1) := by decide +kernel
theorem dX4_hasWordOf_3 : decode cX4_hasWordOf 3 = .ok (.iconst 5, 1) := by decide +kernel
theorem dX4_hasWordOf_4 : decode cX4_hasWordOf 4 = .ok (.if_icmp .gt 22, 3) := by decide +kernel
theorem dX4_hasWordOf_7 : decode cX4_hasWordOf 7 = .ok (.aload_n 0, 1) := by decide +kernel
theorem dX4_hasWordOf_8 : decode cX4_hasWordOf 8 = .ok (.iload_n 1, 1) := by decide +kernel
theorem dX4_hasWordOf_9 : decode cX4_hasWordOf 9 = .ok (.iload_n 2, 1) := by decide +kernel
theorem dX4_hasWordOf_10 : decode cX4_hasWordOf 10 = .ok (.iload_n 3, 1) := by decide +kernel
theorem dX4_hasWordOf_11 : decode cX4_hasWordOf 11 = .ok (.iconst 0, 1) := by decide +kernel
theorem dX4_hasWordOf_12 : decode cX4_hasWordOf 12 = .ok (.invokevirtual 205, 3) := by decide +kernel
theorem dX4_hasWordOf_15 : decode cX4_hasWordOf 15 = .ok (.ifCond .ne 5, 3) := by decide +kernel
theorem dX4_hasWordOf_18 : decode cX4_hasWordOf 18 = .ok (.iconst 1, 1) := by decide +kernel
theorem dX4_hasWordOf_19 : decode cX4_hasWordOf 19 = .ok (.ireturn, 1) := by decide +kernel
theorem dX4_hasWordOf_20 : decode cX4_hasWordOf 20 = .ok (.iinc 3 1, 3) := by decide +kernel
theorem dX4_hasWordOf_23 : decode cX4_hasWordOf 23 = .ok (.goto (-21), 3) := by decide +kernel
theorem dX4_hasWordOf_26 : decode cX4_hasWordOf 26 = .ok (.iconst 0, 1) := by decide +kernel
theorem dX4_hasWordOf_27 : decode cX4_hasWordOf 27 = .ok (.ireturn, 1) := by decide +kernel

set_option maxHeartbeats 8000000 in
set_option maxRecDepth 100000 in
theorem mX4_hasWordOf (l : Launch) (D : va_G) (ki : Nat → ClassId) (ad : Nat → Nat) (cs : List Nat) (hcs : kW cs) (N : Nat) (a1 : Int32) (a2 : Int32) (G : zMem) (tr : Int64) : gMetI l D ki ad cs yX4_hasWordOf wsX4_hasWordOf { frames := 5, cells := 0, slots := 0, locals := 122 } [.ref (ad 0), .int a1, .int a2] (xE ki ad) G tr (fX4_hasWordOf N a1 a2 G tr) := by
  refine gMetI_of (cc := cX4_hasWordOf) (maxL := 4) (ret := (some .boolean)) (own := RX4) (by decide +kernel) rfl rfl (Nat.le_of_ble_eq_true rfl) ?_
  intro r9 G9 tr9 h p e s m below meth c S hr hlk K X ls hl
  have hl : lv_has ls 4 [(0, .ref (ad 0)), (1, .int a1), (2, .int a2)] := hl
  have b2 : ∀ (k2 : Int32 → zMem → Int64 → zR) (hk2 : ∀ (x3 : Int32) (G : zMem) (tr : Int64), k2 x3 G tr = some (r9, G9, tr9) → zAt p l e (headSpec wsX4_hasWordOf { frames := 5, cells := 0, slots := 0, locals := 122 }).room s m ([.ref (ad 0), .int a1, .int a2] : List Value).toArray below meth c 4 D cs ad (zQI below ([.ref (ad 0), .int a1, .int a2] : List Value).toArray s D cs ad ((xE ki ad) G9 tr9) r9) 2 [(0, .ref (ad 0)), (1, .int a1), (2, .int a2), (3, .int x3)] [] ((xE ki ad) G tr)) (x3 : Int32) (G : zMem) (tr : Int64), fX4_hasWordOf_b2 N a1 a2 k2 x3 G tr = some (r9, G9, tr9) → zAt p l e (headSpec wsX4_hasWordOf { frames := 5, cells := 0, slots := 0, locals := 122 }).room s m ([.ref (ad 0), .int a1, .int a2] : List Value).toArray below meth c 4 D cs ad (zQI below ([.ref (ad 0), .int a1, .int a2] : List Value).toArray s D cs ad ((xE ki ad) G9 tr9) r9) 2 [(0, .ref (ad 0)), (1, .int a1), (2, .int a2), (3, .int x3)] [] ((xE ki ad) G tr) := by
    intro k2 hk2 x3 G tr h H locs ls X hl
    unfold fX4_hasWordOf_b2 at h
    refine lv_iload_n S.1 S.2.1 dX4_hasWordOf_2 rfl (lv_at hl 3 rfl) ?_
    refine lv_iconst (v := (5 : Int32)) S.1 S.2.1 dX4_hasWordOf_3 (by decide) ?_
    refine lv_icmp_gt (tgt := 26) S.1 S.2.1 dX4_hasWordOf_4 (by decide) (fun hc_1 => ?_) (fun hc_1 => ?_)
    · have h := zif_pos hc_1 h
      refine lv_iconst (v := (0 : Int32)) S.1 S.2.1 dX4_hasWordOf_26 (by decide) ?_
      exact zr_zret S hr hlk X h dX4_hasWordOf_27
    · have h := zif_neg hc_1 h
      refine lv_aload_n S.1 S.2.1 dX4_hasWordOf_7 rfl (lv_at hl 0 rfl) ?_
      refine lv_iload_n S.1 S.2.1 dX4_hasWordOf_8 rfl (lv_at hl 1 rfl) ?_
      refine lv_iload_n S.1 S.2.1 dX4_hasWordOf_9 rfl (lv_at hl 2 rfl) ?_
      refine lv_iload_n S.1 S.2.1 dX4_hasWordOf_10 rfl (lv_at hl 3 rfl) ?_
      refine lv_iconst (v := (0 : Int32)) S.1 S.2.1 dX4_hasWordOf_11 (by decide) ?_
      obtain ⟨r_3, G_4, tr_5, hf_2, h⟩ := zbd_some h
      refine zr_calli (Eg := (xE ki ad)) K X (va_runV (As := [.int a1, .int a2, .int x3, .int (0 : Int32)]) (rest := []) S (mX4_keepsOff l D ki ad cs hcs N a1 a2 x3 (0 : Int32) G tr H.size _ _ _ hf_2) (cwV 4 S.2.2.2.2 gX4_hasWordOf_X4_keepsOff rfl rfl rfl (by decide +kernel) ⟨Nat.le_of_ble_eq_true rfl, Nat.le_of_ble_eq_true rfl⟩) (zr_preV (c0 := 0) K X (hcs 0 (by decide)) xE_W rfl) rfl rfl hl.1 rfl (lv_room (Nat.le_of_ble_eq_true rfl)) dX4_hasWordOf_12 ⟨Nat.zero_le _, Nat.zero_le _⟩) (fun H locs X => ?_)
      refine lv_if_ne (tgt := 20) S.1 S.2.1 dX4_hasWordOf_15 (by decide) (fun hc_6 => ?_) (fun hc_6 => ?_)
      · have h := zif_neg hc_6 h
        refine lv_iinc (v := (x3 + 1)) (lv' := [(3, .int (x3 + 1)), (0, .ref (ad 0)), (1, .int a1), (2, .int a2)]) S.1 S.2.1 dX4_hasWordOf_20 hl (k := 3) rfl rfl (by decide) rfl (fun ls hl => ?_)
        refine lv_goto (tgt := 2) S.1 S.2.1 dX4_hasWordOf_23 (by decide) ?_
        exact hk2 (x3 + 1) G_4 tr_5 h _ _ _ X (lv_sub hl [1, 2, 3, 0] rfl)
      · have h := zif_pos hc_6 h
        refine lv_iconst (v := (1 : Int32)) S.1 S.2.1 dX4_hasWordOf_18 (by decide) ?_
        exact zr_zret S hr hlk X h dX4_hasWordOf_19
  have L2 : ∀ (n : Nat) (x3 : Int32) (G : zMem) (tr : Int64), fX4_hasWordOf_L2 N a1 a2 n x3 G tr = some (r9, G9, tr9) → zAt p l e (headSpec wsX4_hasWordOf { frames := 5, cells := 0, slots := 0, locals := 122 }).room s m ([.ref (ad 0), .int a1, .int a2] : List Value).toArray below meth c 4 D cs ad (zQI below ([.ref (ad 0), .int a1, .int a2] : List Value).toArray s D cs ad ((xE ki ad) G9 tr9) r9) 2 [(0, .ref (ad 0)), (1, .int a1), (2, .int a2), (3, .int x3)] [] ((xE ki ad) G tr) := by
    intro n
    induction n with
    | zero => intro x3 G tr h; cases h
    | succ n ih => intro x3 G tr h; exact b2 (fX4_hasWordOf_L2 N a1 a2 n) ih x3 G tr h
  unfold fX4_hasWordOf at h
  obtain ⟨H, hH⟩ : ∃ H, H = s.heap := ⟨_, rfl⟩
  obtain ⟨locs, hlo⟩ : ∃ locs : List Loc, locs = [] := ⟨_, rfl⟩
  have X : gS D cs ad ((xE ki ad) G tr) (gA cs ad s.heap.size) s H locs := by rw [hH, hlo]; exact X
  suffices z : W p l e (headSpec wsX4_hasWordOf { frames := 5, cells := 0, slots := 0, locals := 122 }).room s m ([.ref (ad 0), .int a1, .int a2] : List Value).toArray below meth c H locs 0 0 (zQI below ([.ref (ad 0), .int a1, .int a2] : List Value).toArray s D cs ad ((xE ki ad) G9 tr9) r9) (F0 m 0 ls []) by rw [hH, hlo] at z; exact z
  clear hH hlo
  refine lv_iconst (v := (1 : Int32)) S.1 S.2.1 dX4_hasWordOf_0 (by decide) ?_
  refine lv_istore_n (lv' := [(3, .int (1 : Int32)), (0, .ref (ad 0)), (1, .int a1), (2, .int a2)]) S.1 S.2.1 dX4_hasWordOf_1 rfl hl (by decide) rfl (fun ls hl => ?_)
  exact L2 N (1 : Int32) G tr h _ _ _ X (lv_sub hl [1, 2, 3, 0] rfl)
set_option maxRecDepth 20000 in
theorem ggX4_words_X4_isIsle : GoodIn wsX4_words wsX4_isIsle := goodIn_r _ [7, 1, 2, 8, 9, 6, 10, 94, 95, 96, 97, 98, 99, 100, 101, 102, 103, 104, 105, 106, 107, 108, 109, 110, 111, 112, 113, 114, 115] (by decide +kernel) (by decide +kernel)
set_option maxRecDepth 20000 in
theorem gX4_words_X4_isIsle : GoodIn wsX4_words (wsV RX4 80 RX4 yX4_isIsle wsX4_isIsle) := goodIn_app (goodIn_of _ (by decide +kernel)) ggX4_words_X4_isIsle
set_option maxRecDepth 20000 in
theorem ggX4_words_X4_hasWordOf : GoodIn wsX4_words wsX4_hasWordOf := goodIn_r _ [14, 15, 16, 17, 6, 18, 19, 20, 21, 22, 23, 24, 25, 1, 26, 27, 28, 29, 30, 31, 32, 33, 34, 35, 36, 37, 38, 39, 40, 41, 42, 43, 44, 45, 46, 47, 48, 49, 50, 51, 52, 53, 54, 55, 56, 57, 58, 59, 60, 61, 62, 63, 64, 65, 66, 67, 68, 69, 70, 71, 72, 73, 74, 75, 76, 77, 78, 79, 80, 81, 82, 83, 84, 85, 86, 87, 88, 89, 90, 91, 92, 93, 94, 95, 96, 97, 98, 99, 100, 101, 102, 103, 104, 105, 116, 117, 118, 119, 120, 121, 122, 123, 124, 125, 126, 127, 128, 106, 107, 108, 109, 110, 111, 112, 113, 114, 115] (by decide +kernel) (by decide +kernel)
set_option maxRecDepth 20000 in
theorem gX4_words_X4_hasWordOf : GoodIn wsX4_words (wsV RX4 197 RX4 yX4_hasWordOf wsX4_hasWordOf) := goodIn_app (goodIn_of _ (by decide +kernel)) ggX4_words_X4_hasWordOf
theorem dX4_words_0 : decode cX4_words 0 = .ok (.aload_n 0, 1) := by decide +kernel
theorem dX4_words_1 : decode cX4_words 1 = .ok (.iload_n 1, 1) := by decide +kernel
theorem dX4_words_2 : decode cX4_words 2 = .ok (.invokevirtual 80, 3) := by decide +kernel
theorem dX4_words_5 : decode cX4_words 5 = .ok (.ifCond .ne 5, 3) := by decide +kernel
theorem dX4_words_8 : decode cX4_words 8 = .ok (.iconst (-1), 1) := by decide +kernel
theorem dX4_words_9 : decode cX4_words 9 = .ok (.ireturn, 1) := by decide +kernel
theorem dX4_words_10 : decode cX4_words 10 = .ok (.iconst 0, 1) := by decide +kernel
theorem dX4_words_11 : decode cX4_words 11 = .ok (.istore_n 2, 1) := by decide +kernel
theorem dX4_words_12 : decode cX4_words 12 = .ok (.iconst 0, 1) := by decide +kernel
theorem dX4_words_13 : decode cX4_words 13 = .ok (.istore_n 3, 1) := by decide +kernel
theorem dX4_words_14 : decode cX4_words 14 = .ok (.iload_n 3, 1) := by decide +kernel
theorem dX4_words_15 : decode cX4_words 15 = .ok (.aload_n 0, 1) := by decide +kernel
theorem dX4_words_16 : decode cX4_words 16 = .ok (.getfield 19, 3) := by decide +kernel
theorem dX4_words_19 : decode cX4_words 19 = .ok (.getfield 194, 3) := by decide +kernel
theorem dX4_words_22 : decode cX4_words 22 = .ok (.if_icmp .ge 29, 3) := by decide +kernel
theorem dX4_words_25 : decode cX4_words 25 = .ok (.iload_n 3, 1) := by decide +kernel
theorem dX4_words_26 : decode cX4_words 26 = .ok (.iload_n 1, 1) := by decide +kernel
theorem dX4_words_27 : decode cX4_words 27 = .ok (.if_icmp .eq 18, 3) := by decide +kernel
theorem dX4_words_30 : decode cX4_words 30 = .ok (.aload_n 0, 1) := by decide +kernel
theorem dX4_words_31 : decode cX4_words 31 = .ok (.iload_n 3, 1) := by decide +kernel
theorem dX4_words_32 : decode cX4_words 32 = .ok (.iload_n 1, 1) := by decide +kernel
theorem dX4_words_33 : decode cX4_words 33 = .ok (.invokevirtual 197, 3) := by decide +kernel
theorem dX4_words_36 : decode cX4_words 36 = .ok (.ifCond .eq 9, 3) := by decide +kernel
theorem dX4_words_39 : decode cX4_words 39 = .ok (.iload_n 2, 1) := by decide +kernel
theorem dX4_words_40 : decode cX4_words 40 = .ok (.iconst 1, 1) := by decide +kernel
theorem dX4_words_41 : decode cX4_words 41 = .ok (.iload_n 3, 1) := by decide +kernel
theorem dX4_words_42 : decode cX4_words 42 = .ok (.ishl, 1) := by decide +kernel
theorem dX4_words_43 : decode cX4_words 43 = .ok (.ior, 1) := by decide +kernel
theorem dX4_words_44 : decode cX4_words 44 = .ok (.istore_n 2, 1) := by decide +kernel
theorem dX4_words_45 : decode cX4_words 45 = .ok (.iinc 3 1, 3) := by decide +kernel
theorem dX4_words_48 : decode cX4_words 48 = .ok (.goto (-34), 3) := by decide +kernel
theorem dX4_words_51 : decode cX4_words 51 = .ok (.iload_n 2, 1) := by decide +kernel
theorem dX4_words_52 : decode cX4_words 52 = .ok (.ireturn, 1) := by decide +kernel
set_option maxRecDepth 20000 in
theorem kX4_words_19 : Cond.fieldLink RX4 19 "WindPost" "chart" "LWindPost$Chart;" ∈ wsX4_words := by decide +kernel
set_option maxRecDepth 20000 in
theorem kX4_words_194 : Cond.fieldLink RX4 194 "WindPost$Chart" "isles" "I" ∈ wsX4_words := by decide +kernel
set_option maxRecDepth 20000 in
theorem uX4_words_X0 : ∀ w ∈ wsX00, w ∈ wsX4_words := by decide +kernel
set_option maxRecDepth 20000 in
theorem uX4_words_X4 : ∀ w ∈ wsX40, w ∈ wsX4_words := by decide +kernel
set_option maxHeartbeats 8000000 in
set_option maxRecDepth 100000 in
theorem mX4_words (l : Launch) (D : va_G) (ki : Nat → ClassId) (ad : Nat → Nat) (cs : List Nat) (hcs : kW cs) (N : Nat) (a1 : Int32) (G : zMem) (tr : Int64) : gMetI l D ki ad cs yX4_words wsX4_words { frames := 6, cells := 0, slots := 0, locals := 145 } [.ref (ad 0), .int a1] (xE ki ad) G tr (fX4_words N a1 G tr) := by
  refine gMetI_of (cc := cX4_words) (maxL := 4) (ret := (some .int)) (own := RX4) (by decide +kernel) rfl rfl (Nat.le_of_ble_eq_true rfl) ?_
  intro r9 G9 tr9 h p e s m below meth c S hr hlk K X ls hl
  have hl : lv_has ls 4 [(0, .ref (ad 0)), (1, .int a1)] := hl
  have b45 : ∀ (k14 : Int32 → Int32 → zMem → Int64 → zR) (hk14 : ∀ (x2 : Int32) (x3 : Int32) (G : zMem) (tr : Int64), k14 x2 x3 G tr = some (r9, G9, tr9) → zAt p l e (headSpec wsX4_words { frames := 6, cells := 0, slots := 0, locals := 145 }).room s m ([.ref (ad 0), .int a1] : List Value).toArray below meth c 4 D cs ad (zQI below ([.ref (ad 0), .int a1] : List Value).toArray s D cs ad ((xE ki ad) G9 tr9) r9) 14 [(0, .ref (ad 0)), (1, .int a1), (2, .int x2), (3, .int x3)] [] ((xE ki ad) G tr)) (x2 : Int32) (x3 : Int32) (G : zMem) (tr : Int64), fX4_words_b45 N a1 k14 x2 x3 G tr = some (r9, G9, tr9) → zAt p l e (headSpec wsX4_words { frames := 6, cells := 0, slots := 0, locals := 145 }).room s m ([.ref (ad 0), .int a1] : List Value).toArray below meth c 4 D cs ad (zQI below ([.ref (ad 0), .int a1] : List Value).toArray s D cs ad ((xE ki ad) G9 tr9) r9) 45 [(0, .ref (ad 0)), (1, .int a1), (2, .int x2), (3, .int x3)] [] ((xE ki ad) G tr) := by
    intro k14 hk14 x2 x3 G tr h H locs ls X hl
    unfold fX4_words_b45 at h
    refine lv_iinc (v := (x3 + 1)) (lv' := [(3, .int (x3 + 1)), (0, .ref (ad 0)), (1, .int a1), (2, .int x2)]) S.1 S.2.1 dX4_words_45 hl (k := 3) rfl rfl (by decide) rfl (fun ls hl => ?_)
    refine lv_goto (tgt := 14) S.1 S.2.1 dX4_words_48 (by decide) ?_
    exact hk14 x2 (x3 + 1) G tr h _ _ _ X (lv_sub hl [1, 2, 3, 0] rfl)
  have b14 : ∀ (k14 : Int32 → Int32 → zMem → Int64 → zR) (hk14 : ∀ (x2 : Int32) (x3 : Int32) (G : zMem) (tr : Int64), k14 x2 x3 G tr = some (r9, G9, tr9) → zAt p l e (headSpec wsX4_words { frames := 6, cells := 0, slots := 0, locals := 145 }).room s m ([.ref (ad 0), .int a1] : List Value).toArray below meth c 4 D cs ad (zQI below ([.ref (ad 0), .int a1] : List Value).toArray s D cs ad ((xE ki ad) G9 tr9) r9) 14 [(0, .ref (ad 0)), (1, .int a1), (2, .int x2), (3, .int x3)] [] ((xE ki ad) G tr)) (x2 : Int32) (x3 : Int32) (G : zMem) (tr : Int64), fX4_words_b14 N a1 k14 x2 x3 G tr = some (r9, G9, tr9) → zAt p l e (headSpec wsX4_words { frames := 6, cells := 0, slots := 0, locals := 145 }).room s m ([.ref (ad 0), .int a1] : List Value).toArray below meth c 4 D cs ad (zQI below ([.ref (ad 0), .int a1] : List Value).toArray s D cs ad ((xE ki ad) G9 tr9) r9) 14 [(0, .ref (ad 0)), (1, .int a1), (2, .int x2), (3, .int x3)] [] ((xE ki ad) G tr) := by
    intro k14 hk14 x2 x3 G tr h H locs ls X hl
    unfold fX4_words_b14 at h
    refine lv_iload_n S.1 S.2.1 dX4_words_14 rfl (lv_at hl 3 rfl) ?_
    refine lv_aload_n S.1 S.2.1 dX4_words_15 rfl (lv_at hl 0 rfl) ?_
    obtain ⟨hq_1, h⟩ := zch_some h
    refine zr_get (v := .ref (ad (G 0 1).toNatClampNeg)) S K X (hcs 0 (by decide)) xE_W rfl uX4_words_X4 1 (by decide) kX4_words_19 rfl rfl dX4_words_16 ?_
    refine zr_get (v := .int (G (G 0 1).toNatClampNeg 3)) S K X ((kC_of hcs hq_1).2 0 (by decide)) (xE_C (kC_of hcs hq_1)) rfl uX4_words_X0 3 (by decide) kX4_words_194 rfl rfl dX4_words_19 ?_
    refine lv_icmp_ge (tgt := 51) S.1 S.2.1 dX4_words_22 (by decide) (fun hc_2 => ?_) (fun hc_2 => ?_)
    · have h := zif_pos hc_2 h
      refine lv_iload_n S.1 S.2.1 dX4_words_51 rfl (lv_at hl 2 rfl) ?_
      exact zr_iret S hr hlk X h dX4_words_52
    · have h := zif_neg hc_2 h
      refine lv_iload_n S.1 S.2.1 dX4_words_25 rfl (lv_at hl 3 rfl) ?_
      refine lv_iload_n S.1 S.2.1 dX4_words_26 rfl (lv_at hl 1 rfl) ?_
      refine lv_icmp_eq (tgt := 45) S.1 S.2.1 dX4_words_27 (by decide) (fun hc_3 => ?_) (fun hc_3 => ?_)
      · have h := zif_pos hc_3 h
        exact b45 k14 hk14 x2 x3 G tr h _ _ _ X (lv_sub hl [0, 1, 2, 3] rfl)
      · have h := zif_neg hc_3 h
        refine lv_aload_n S.1 S.2.1 dX4_words_30 rfl (lv_at hl 0 rfl) ?_
        refine lv_iload_n S.1 S.2.1 dX4_words_31 rfl (lv_at hl 3 rfl) ?_
        refine lv_iload_n S.1 S.2.1 dX4_words_32 rfl (lv_at hl 1 rfl) ?_
        obtain ⟨r_5, G_6, tr_7, hf_4, h⟩ := zbd_some h
        refine zr_calli (Eg := (xE ki ad)) K X (va_runV (As := [.int x3, .int a1]) (rest := []) S (mX4_hasWordOf l D ki ad cs hcs N x3 a1 G tr H.size _ _ _ hf_4) (cwV 2 S.2.2.2.2 gX4_words_X4_hasWordOf rfl rfl rfl (by decide +kernel) ⟨Nat.le_of_ble_eq_true rfl, Nat.le_of_ble_eq_true rfl⟩) (zr_preV (c0 := 0) K X (hcs 0 (by decide)) xE_W rfl) rfl rfl hl.1 rfl (lv_room (Nat.le_of_ble_eq_true rfl)) dX4_words_33 ⟨Nat.zero_le _, Nat.zero_le _⟩) (fun H locs X => ?_)
        refine lv_if_eq (tgt := 45) S.1 S.2.1 dX4_words_36 (by decide) (fun hc_8 => ?_) (fun hc_8 => ?_)
        · have h := zif_pos hc_8 h
          exact b45 k14 hk14 x2 x3 G_6 tr_7 h _ _ _ X (lv_sub hl [0, 1, 2, 3] rfl)
        · have h := zif_neg hc_8 h
          refine lv_iload_n S.1 S.2.1 dX4_words_39 rfl (lv_at hl 2 rfl) ?_
          refine lv_iconst (v := (1 : Int32)) S.1 S.2.1 dX4_words_40 (by decide) ?_
          refine lv_iload_n S.1 S.2.1 dX4_words_41 rfl (lv_at hl 3 rfl) ?_
          refine lv_ishl S.1 S.2.1 dX4_words_42 ?_
          refine lv_ior S.1 S.2.1 dX4_words_43 ?_
          refine lv_istore_n (lv' := [(2, .int (x2 ||| ((1 : Int32) <<< (x3 &&& 31)))), (0, .ref (ad 0)), (1, .int a1), (3, .int x3)]) S.1 S.2.1 dX4_words_44 rfl hl (by decide) rfl (fun ls hl => ?_)
          exact b45 k14 hk14 (x2 ||| ((1 : Int32) <<< (x3 &&& 31))) x3 G_6 tr_7 h _ _ _ X (lv_sub hl [1, 2, 0, 3] rfl)
  have L14 : ∀ (n : Nat) (x2 : Int32) (x3 : Int32) (G : zMem) (tr : Int64), fX4_words_L14 N a1 n x2 x3 G tr = some (r9, G9, tr9) → zAt p l e (headSpec wsX4_words { frames := 6, cells := 0, slots := 0, locals := 145 }).room s m ([.ref (ad 0), .int a1] : List Value).toArray below meth c 4 D cs ad (zQI below ([.ref (ad 0), .int a1] : List Value).toArray s D cs ad ((xE ki ad) G9 tr9) r9) 14 [(0, .ref (ad 0)), (1, .int a1), (2, .int x2), (3, .int x3)] [] ((xE ki ad) G tr) := by
    intro n
    induction n with
    | zero => intro x2 x3 G tr h; cases h
    | succ n ih => intro x2 x3 G tr h; exact b14 (fX4_words_L14 N a1 n) ih x2 x3 G tr h
  unfold fX4_words at h
  obtain ⟨H, hH⟩ : ∃ H, H = s.heap := ⟨_, rfl⟩
  obtain ⟨locs, hlo⟩ : ∃ locs : List Loc, locs = [] := ⟨_, rfl⟩
  have X : gS D cs ad ((xE ki ad) G tr) (gA cs ad s.heap.size) s H locs := by rw [hH, hlo]; exact X
  suffices z : W p l e (headSpec wsX4_words { frames := 6, cells := 0, slots := 0, locals := 145 }).room s m ([.ref (ad 0), .int a1] : List Value).toArray below meth c H locs 0 0 (zQI below ([.ref (ad 0), .int a1] : List Value).toArray s D cs ad ((xE ki ad) G9 tr9) r9) (F0 m 0 ls []) by rw [hH, hlo] at z; exact z
  clear hH hlo
  refine lv_aload_n S.1 S.2.1 dX4_words_0 rfl (lv_at hl 0 rfl) ?_
  refine lv_iload_n S.1 S.2.1 dX4_words_1 rfl (lv_at hl 1 rfl) ?_
  obtain ⟨r_2, G_3, tr_4, hf_1, h⟩ := zbd_some h
  refine zr_calli (Eg := (xE ki ad)) K X (va_runV (As := [.int a1]) (rest := []) S (mX4_isIsle l D ki ad cs hcs N a1 G tr H.size _ _ _ hf_1) (cwV 1 S.2.2.2.2 gX4_words_X4_isIsle rfl rfl rfl (by decide +kernel) ⟨Nat.le_of_ble_eq_true rfl, Nat.le_of_ble_eq_true rfl⟩) (zr_preV (c0 := 0) K X (hcs 0 (by decide)) xE_W rfl) rfl rfl hl.1 rfl (lv_room (Nat.le_of_ble_eq_true rfl)) dX4_words_2 ⟨Nat.zero_le _, Nat.zero_le _⟩) (fun H locs X => ?_)
  refine lv_if_ne (tgt := 10) S.1 S.2.1 dX4_words_5 (by decide) (fun hc_5 => ?_) (fun hc_5 => ?_)
  · have h := zif_neg hc_5 h
    refine lv_iconst (v := (0 : Int32)) S.1 S.2.1 dX4_words_10 (by decide) ?_
    refine lv_istore_n (lv' := [(2, .int (0 : Int32)), (0, .ref (ad 0)), (1, .int a1)]) S.1 S.2.1 dX4_words_11 rfl hl (by decide) rfl (fun ls hl => ?_)
    refine lv_iconst (v := (0 : Int32)) S.1 S.2.1 dX4_words_12 (by decide) ?_
    refine lv_istore_n (lv' := [(3, .int (0 : Int32)), (2, .int (0 : Int32)), (0, .ref (ad 0)), (1, .int a1)]) S.1 S.2.1 dX4_words_13 rfl hl (by decide) rfl (fun ls hl => ?_)
    exact L14 N (0 : Int32) (0 : Int32) G_3 tr_4 h _ _ _ X (lv_sub hl [2, 3, 1, 0] rfl)
  · have h := zif_pos hc_5 h
    refine lv_iconst (v := (-1 : Int32)) S.1 S.2.1 dX4_words_8 (by decide) ?_
    exact zr_iret S hr hlk X h dX4_words_9
set_option maxRecDepth 20000 in
theorem ggX4_nets_X4_isWay : GoodIn wsX4_nets wsX4_isWay := goodIn_r _ [7, 8, 9, 10, 6, 11, 1, 2, 12, 13, 14, 104, 105, 106, 107, 108, 109, 110, 111, 112, 113, 114, 115, 116, 117, 118, 119, 120, 121, 122, 123, 124, 125] (by decide +kernel) (by decide +kernel)
set_option maxRecDepth 20000 in
theorem gX4_nets_X4_isWay : GoodIn wsX4_nets (wsV RX4 140 RX4 yX4_isWay wsX4_isWay) := goodIn_app (goodIn_of _ (by decide +kernel)) ggX4_nets_X4_isWay
set_option maxRecDepth 20000 in
theorem ggX4_nets_X4_isWeight : GoodIn wsX4_nets wsX4_isWeight := goodIn_r _ [17, 12, 13, 6, 14] (by decide +kernel) (by decide +kernel)
set_option maxRecDepth 20000 in
theorem gX4_nets_X4_isWeight : GoodIn wsX4_nets (va_wsS RX4 144 yX4_isWeight wsX4_isWeight) := goodIn_app (goodIn_of _ (by decide +kernel)) ggX4_nets_X4_isWeight
set_option maxRecDepth 20000 in
theorem ggX4_nets_J6_bitCount_0f7a4 : GoodIn wsX4_nets wsJ6_bitCount_0f7a4 := goodIn_r _ [21, 22, 23, 24] (by decide +kernel) (by decide +kernel)
set_option maxRecDepth 20000 in
theorem gX4_nets_J6_bitCount_0f7a4 : GoodIn wsX4_nets (va_wsS RX4 200 yJ6_bitCount_0f7a4 wsJ6_bitCount_0f7a4) := goodIn_app (goodIn_of _ (by decide +kernel)) ggX4_nets_J6_bitCount_0f7a4
set_option maxRecDepth 20000 in
theorem ggX4_nets_X4_keepsOff : GoodIn wsX4_nets wsX4_keepsOff := goodIn_r _ [28, 29, 30, 31, 32, 33, 6, 34, 35, 1, 36, 37, 38, 39, 40, 41, 42, 43, 44, 45, 46, 47, 48, 49, 50, 51, 52, 53, 54, 55, 56, 57, 58, 59, 60, 61, 62, 63, 64, 65, 66, 67, 68, 69, 70, 71, 72, 73, 74, 75, 76, 77, 78, 79, 80, 81, 82, 83, 84, 85, 86, 87, 88, 89, 90, 91, 92, 93, 94, 95, 96, 97, 98, 99, 100, 101, 102, 103, 104, 105, 106, 107, 108, 109, 110, 111, 112, 113, 114, 115, 126, 127, 128, 129, 130, 131, 132, 133, 134, 135, 136, 137, 138, 116, 117, 118, 119, 120, 121, 122, 123, 124, 125] (by decide +kernel) (by decide +kernel)
set_option maxRecDepth 20000 in
theorem gX4_nets_X4_keepsOff : GoodIn wsX4_nets (wsV RX4 205 RX4 yX4_keepsOff wsX4_keepsOff) := goodIn_app (goodIn_of _ (by decide +kernel)) ggX4_nets_X4_keepsOff
theorem dX4_nets_0 : decode cX4_nets 0 = .ok (.aload_n 0, 1) := by decide +kernel
theorem dX4_nets_1 : decode cX4_nets 1 = .ok (.iload_n 1, 1) := by decide +kernel
theorem dX4_nets_2 : decode cX4_nets 2 = .ok (.iload_n 2, 1) := by decide +kernel
theorem dX4_nets_3 : decode cX4_nets 3 = .ok (.invokevirtual 140, 3) := by decide +kernel
theorem dX4_nets_6 : decode cX4_nets 6 = .ok (.ifCond .eq 10, 3) := by decide +kernel
theorem dX4_nets_9 : decode cX4_nets 9 = .ok (.iload_n 3, 1) := by decide +kernel
theorem dX4_nets_10 : decode cX4_nets 10 = .ok (.invokestatic 144, 3) := by decide +kernel
theorem dX4_nets_13 : decode cX4_nets 13 = .ok (.ifCond .ne 5, 3) := by decide +kernel
theorem dX4_nets_16 : decode cX4_nets 16 = .ok (.iconst (-1), 1) := by decide +kernel
theorem dX4_nets_17 : decode cX4_nets 17 = .ok (.ireturn, 1) := by decide +kernel
theorem dX4_nets_18 : decode cX4_nets 18 = .ok (.bipush (-9), 2) := by decide +kernel
theorem dX4_nets_20 : decode cX4_nets 20 = .ok (.istore 4, 2) := by decide +kernel
theorem dX4_nets_22 : decode cX4_nets 22 = .ok (.bipush 7, 2) := by decide +kernel
theorem dX4_nets_24 : decode cX4_nets 24 = .ok (.istore 5, 2) := by decide +kernel
theorem dX4_nets_26 : decode cX4_nets 26 = .ok (.iconst 1, 1) := by decide +kernel
theorem dX4_nets_27 : decode cX4_nets 27 = .ok (.iload_n 1, 1) := by decide +kernel
theorem dX4_nets_28 : decode cX4_nets 28 = .ok (.ishl, 1) := by decide +kernel
theorem dX4_nets_29 : decode cX4_nets 29 = .ok (.iconst 1, 1) := by decide +kernel
theorem dX4_nets_30 : decode cX4_nets 30 = .ok (.iload_n 2, 1) := by decide +kernel
theorem dX4_nets_31 : decode cX4_nets 31 = .ok (.ishl, 1) := by decide +kernel
theorem dX4_nets_32 : decode cX4_nets 32 = .ok (.ior, 1) := by decide +kernel
theorem dX4_nets_33 : decode cX4_nets 33 = .ok (.istore 6, 2) := by decide +kernel
theorem dX4_nets_35 : decode cX4_nets 35 = .ok (.iconst 0, 1) := by decide +kernel
theorem dX4_nets_36 : decode cX4_nets 36 = .ok (.istore 7, 2) := by decide +kernel
theorem dX4_nets_38 : decode cX4_nets 38 = .ok (.iload 7, 2) := by decide +kernel
theorem dX4_nets_40 : decode cX4_nets 40 = .ok (.iconst 1, 1) := by decide +kernel
theorem dX4_nets_41 : decode cX4_nets 41 = .ok (.aload_n 0, 1) := by decide +kernel
theorem dX4_nets_42 : decode cX4_nets 42 = .ok (.getfield 19, 3) := by decide +kernel
theorem dX4_nets_45 : decode cX4_nets 45 = .ok (.getfield 194, 3) := by decide +kernel
theorem dX4_nets_48 : decode cX4_nets 48 = .ok (.ishl, 1) := by decide +kernel
theorem dX4_nets_49 : decode cX4_nets 49 = .ok (.if_icmp .ge 51, 3) := by decide +kernel
theorem dX4_nets_52 : decode cX4_nets 52 = .ok (.iload 7, 2) := by decide +kernel
theorem dX4_nets_54 : decode cX4_nets 54 = .ok (.invokestatic 200, 3) := by decide +kernel
theorem dX4_nets_57 : decode cX4_nets 57 = .ok (.istore 8, 2) := by decide +kernel
theorem dX4_nets_59 : decode cX4_nets 59 = .ok (.iload 7, 2) := by decide +kernel
theorem dX4_nets_61 : decode cX4_nets 61 = .ok (.iload 6, 2) := by decide +kernel
theorem dX4_nets_63 : decode cX4_nets 63 = .ok (.iand, 1) := by decide +kernel
theorem dX4_nets_64 : decode cX4_nets 64 = .ok (.ifCond .ne 30, 3) := by decide +kernel
theorem dX4_nets_67 : decode cX4_nets 67 = .ok (.iload 8, 2) := by decide +kernel
theorem dX4_nets_69 : decode cX4_nets 69 = .ok (.iload 5, 2) := by decide +kernel
theorem dX4_nets_71 : decode cX4_nets 71 = .ok (.if_icmp .ge 23, 3) := by decide +kernel
theorem dX4_nets_74 : decode cX4_nets 74 = .ok (.aload_n 0, 1) := by decide +kernel
theorem dX4_nets_75 : decode cX4_nets 75 = .ok (.iload_n 1, 1) := by decide +kernel
theorem dX4_nets_76 : decode cX4_nets 76 = .ok (.iload_n 2, 1) := by decide +kernel
theorem dX4_nets_77 : decode cX4_nets 77 = .ok (.iload_n 3, 1) := by decide +kernel
theorem dX4_nets_78 : decode cX4_nets 78 = .ok (.iload 7, 2) := by decide +kernel
theorem dX4_nets_80 : decode cX4_nets 80 = .ok (.invokevirtual 205, 3) := by decide +kernel
theorem dX4_nets_83 : decode cX4_nets 83 = .ok (.ifCond .eq 11, 3) := by decide +kernel
theorem dX4_nets_86 : decode cX4_nets 86 = .ok (.iload 7, 2) := by decide +kernel
theorem dX4_nets_88 : decode cX4_nets 88 = .ok (.istore 4, 2) := by decide +kernel
theorem dX4_nets_90 : decode cX4_nets 90 = .ok (.iload 8, 2) := by decide +kernel
theorem dX4_nets_92 : decode cX4_nets 92 = .ok (.istore 5, 2) := by decide +kernel
theorem dX4_nets_94 : decode cX4_nets 94 = .ok (.iinc 7 1, 3) := by decide +kernel
theorem dX4_nets_97 : decode cX4_nets 97 = .ok (.goto (-59), 3) := by decide +kernel
theorem dX4_nets_100 : decode cX4_nets 100 = .ok (.iload 4, 2) := by decide +kernel
theorem dX4_nets_102 : decode cX4_nets 102 = .ok (.ireturn, 1) := by decide +kernel
set_option maxRecDepth 20000 in
theorem kX4_nets_19 : Cond.fieldLink RX4 19 "WindPost" "chart" "LWindPost$Chart;" ∈ wsX4_nets := by decide +kernel
set_option maxRecDepth 20000 in
theorem kX4_nets_194 : Cond.fieldLink RX4 194 "WindPost$Chart" "isles" "I" ∈ wsX4_nets := by decide +kernel
set_option maxRecDepth 20000 in
theorem uX4_nets_X0 : ∀ w ∈ wsX00, w ∈ wsX4_nets := by decide +kernel
set_option maxRecDepth 20000 in
theorem uX4_nets_X4 : ∀ w ∈ wsX40, w ∈ wsX4_nets := by decide +kernel
set_option maxHeartbeats 8000000 in
set_option maxRecDepth 100000 in
theorem mX4_nets (l : Launch) (D : va_G) (ki : Nat → ClassId) (ad : Nat → Nat) (cs : List Nat) (hcs : kW cs) (N : Nat) (a1 : Int32) (a2 : Int32) (a3 : Int32) (G : zMem) (tr : Int64) : gMetI l D ki ad cs yX4_nets wsX4_nets { frames := 5, cells := 0, slots := 0, locals := 122 } [.ref (ad 0), .int a1, .int a2, .int a3] (xE ki ad) G tr (fX4_nets N a1 a2 a3 G tr) := by
  refine gMetI_of (cc := cX4_nets) (maxL := 9) (ret := (some .int)) (own := RX4) (by decide +kernel) rfl rfl (Nat.le_of_ble_eq_true rfl) ?_
  intro r9 G9 tr9 h p e s m below meth c S hr hlk K X ls hl
  have hl : lv_has ls 9 [(0, .ref (ad 0)), (1, .int a1), (2, .int a2), (3, .int a3)] := hl
  have b94 : ∀ (k38 : Int32 → Int32 → Int32 → Int32 → zMem → Int64 → zR) (hk38 : ∀ (x4 : Int32) (x5 : Int32) (x6 : Int32) (x7 : Int32) (G : zMem) (tr : Int64), k38 x4 x5 x6 x7 G tr = some (r9, G9, tr9) → zAt p l e (headSpec wsX4_nets { frames := 5, cells := 0, slots := 0, locals := 122 }).room s m ([.ref (ad 0), .int a1, .int a2, .int a3] : List Value).toArray below meth c 9 D cs ad (zQI below ([.ref (ad 0), .int a1, .int a2, .int a3] : List Value).toArray s D cs ad ((xE ki ad) G9 tr9) r9) 38 [(0, .ref (ad 0)), (1, .int a1), (2, .int a2), (3, .int a3), (4, .int x4), (5, .int x5), (6, .int x6), (7, .int x7)] [] ((xE ki ad) G tr)) (x4 : Int32) (x5 : Int32) (x6 : Int32) (x7 : Int32) (G : zMem) (tr : Int64), fX4_nets_b94 N a1 a2 a3 k38 x4 x5 x6 x7 G tr = some (r9, G9, tr9) → zAt p l e (headSpec wsX4_nets { frames := 5, cells := 0, slots := 0, locals := 122 }).room s m ([.ref (ad 0), .int a1, .int a2, .int a3] : List Value).toArray below meth c 9 D cs ad (zQI below ([.ref (ad 0), .int a1, .int a2, .int a3] : List Value).toArray s D cs ad ((xE ki ad) G9 tr9) r9) 94 [(0, .ref (ad 0)), (1, .int a1), (2, .int a2), (3, .int a3), (4, .int x4), (5, .int x5), (6, .int x6), (7, .int x7)] [] ((xE ki ad) G tr) := by
    intro k38 hk38 x4 x5 x6 x7 G tr h H locs ls X hl
    unfold fX4_nets_b94 at h
    refine lv_iinc (v := (x7 + 1)) (lv' := [(7, .int (x7 + 1)), (0, .ref (ad 0)), (1, .int a1), (2, .int a2), (3, .int a3), (4, .int x4), (5, .int x5), (6, .int x6)]) S.1 S.2.1 dX4_nets_94 hl (k := 7) rfl rfl (by decide) rfl (fun ls hl => ?_)
    refine lv_goto (tgt := 38) S.1 S.2.1 dX4_nets_97 (by decide) ?_
    exact hk38 x4 x5 x6 (x7 + 1) G tr h _ _ _ X (lv_sub hl [1, 2, 3, 4, 5, 6, 7, 0] rfl)
  have b38 : ∀ (k38 : Int32 → Int32 → Int32 → Int32 → zMem → Int64 → zR) (hk38 : ∀ (x4 : Int32) (x5 : Int32) (x6 : Int32) (x7 : Int32) (G : zMem) (tr : Int64), k38 x4 x5 x6 x7 G tr = some (r9, G9, tr9) → zAt p l e (headSpec wsX4_nets { frames := 5, cells := 0, slots := 0, locals := 122 }).room s m ([.ref (ad 0), .int a1, .int a2, .int a3] : List Value).toArray below meth c 9 D cs ad (zQI below ([.ref (ad 0), .int a1, .int a2, .int a3] : List Value).toArray s D cs ad ((xE ki ad) G9 tr9) r9) 38 [(0, .ref (ad 0)), (1, .int a1), (2, .int a2), (3, .int a3), (4, .int x4), (5, .int x5), (6, .int x6), (7, .int x7)] [] ((xE ki ad) G tr)) (x4 : Int32) (x5 : Int32) (x6 : Int32) (x7 : Int32) (G : zMem) (tr : Int64), fX4_nets_b38 N a1 a2 a3 k38 x4 x5 x6 x7 G tr = some (r9, G9, tr9) → zAt p l e (headSpec wsX4_nets { frames := 5, cells := 0, slots := 0, locals := 122 }).room s m ([.ref (ad 0), .int a1, .int a2, .int a3] : List Value).toArray below meth c 9 D cs ad (zQI below ([.ref (ad 0), .int a1, .int a2, .int a3] : List Value).toArray s D cs ad ((xE ki ad) G9 tr9) r9) 38 [(0, .ref (ad 0)), (1, .int a1), (2, .int a2), (3, .int a3), (4, .int x4), (5, .int x5), (6, .int x6), (7, .int x7)] [] ((xE ki ad) G tr) := by
    intro k38 hk38 x4 x5 x6 x7 G tr h H locs ls X hl
    unfold fX4_nets_b38 at h
    refine lv_iload S.1 S.2.1 dX4_nets_38 (lv_at hl 7 rfl) ?_
    refine lv_iconst (v := (1 : Int32)) S.1 S.2.1 dX4_nets_40 (by decide) ?_
    refine lv_aload_n S.1 S.2.1 dX4_nets_41 rfl (lv_at hl 0 rfl) ?_
    obtain ⟨hq_1, h⟩ := zch_some h
    refine zr_get (v := .ref (ad (G 0 1).toNatClampNeg)) S K X (hcs 0 (by decide)) xE_W rfl uX4_nets_X4 1 (by decide) kX4_nets_19 rfl rfl dX4_nets_42 ?_
    refine zr_get (v := .int (G (G 0 1).toNatClampNeg 3)) S K X ((kC_of hcs hq_1).2 0 (by decide)) (xE_C (kC_of hcs hq_1)) rfl uX4_nets_X0 3 (by decide) kX4_nets_194 rfl rfl dX4_nets_45 ?_
    refine lv_ishl S.1 S.2.1 dX4_nets_48 ?_
    refine lv_icmp_ge (tgt := 100) S.1 S.2.1 dX4_nets_49 (by decide) (fun hc_2 => ?_) (fun hc_2 => ?_)
    · have h := zif_pos hc_2 h
      refine lv_iload S.1 S.2.1 dX4_nets_100 (lv_at hl 4 rfl) ?_
      exact zr_iret S hr hlk X h dX4_nets_102
    · have h := zif_neg hc_2 h
      refine lv_iload S.1 S.2.1 dX4_nets_52 (lv_at hl 7 rfl) ?_
      obtain ⟨r_4, hf_3, h⟩ := zbp_some h
      refine zr_calli (Eg := (xE ki ad)) (G' := G) (tr' := tr) K X (va_runS (As := [.int x7]) (rest := []) S (mJ6_bitCount_0f7a4 l D ki ad cs N x7 (xE ki ad) G tr H.size _ _ _ (zpu_of hf_3)) (va_cwS 1 S.2.2.2.2 gX4_nets_J6_bitCount_0f7a4 rfl rfl rfl (by decide +kernel) ⟨Nat.le_of_ble_eq_true rfl, Nat.le_of_ble_eq_true rfl⟩) (zr_pre K X) rfl rfl hl.1 rfl (lv_room (Nat.le_of_ble_eq_true rfl)) dX4_nets_54 ⟨Nat.zero_le _, Nat.zero_le _⟩) (fun H locs X => ?_)
      refine lv_istore (lv' := [(8, .int r_4), (0, .ref (ad 0)), (1, .int a1), (2, .int a2), (3, .int a3), (4, .int x4), (5, .int x5), (6, .int x6), (7, .int x7)]) S.1 S.2.1 dX4_nets_57 hl (by decide) rfl (fun ls hl => ?_)
      refine lv_iload S.1 S.2.1 dX4_nets_59 (lv_at hl 8 rfl) ?_
      refine lv_iload S.1 S.2.1 dX4_nets_61 (lv_at hl 7 rfl) ?_
      refine lv_iand S.1 S.2.1 dX4_nets_63 ?_
      refine lv_if_ne (tgt := 94) S.1 S.2.1 dX4_nets_64 (by decide) (fun hc_5 => ?_) (fun hc_5 => ?_)
      · have h := zif_neg hc_5 h
        exact b94 k38 hk38 x4 x5 x6 x7 G tr h _ _ _ X (lv_sub hl [1, 2, 3, 4, 5, 6, 7, 8] rfl)
      · have h := zif_pos hc_5 h
        refine lv_iload S.1 S.2.1 dX4_nets_67 (lv_at hl 0 rfl) ?_
        refine lv_iload S.1 S.2.1 dX4_nets_69 (lv_at hl 6 rfl) ?_
        refine lv_icmp_ge (tgt := 94) S.1 S.2.1 dX4_nets_71 (by decide) (fun hc_6 => ?_) (fun hc_6 => ?_)
        · have h := zif_pos hc_6 h
          exact b94 k38 hk38 x4 x5 x6 x7 G tr h _ _ _ X (lv_sub hl [1, 2, 3, 4, 5, 6, 7, 8] rfl)
        · have h := zif_neg hc_6 h
          refine lv_aload_n S.1 S.2.1 dX4_nets_74 rfl (lv_at hl 1 rfl) ?_
          refine lv_iload_n S.1 S.2.1 dX4_nets_75 rfl (lv_at hl 2 rfl) ?_
          refine lv_iload_n S.1 S.2.1 dX4_nets_76 rfl (lv_at hl 3 rfl) ?_
          refine lv_iload_n S.1 S.2.1 dX4_nets_77 rfl (lv_at hl 4 rfl) ?_
          refine lv_iload S.1 S.2.1 dX4_nets_78 (lv_at hl 8 rfl) ?_
          obtain ⟨r_8, G_9, tr_10, hf_7, h⟩ := zbd_some h
          refine zr_calli (Eg := (xE ki ad)) K X (va_runV (As := [.int a1, .int a2, .int a3, .int x7]) (rest := []) S (mX4_keepsOff l D ki ad cs hcs N a1 a2 a3 x7 G tr H.size _ _ _ hf_7) (cwV 4 S.2.2.2.2 gX4_nets_X4_keepsOff rfl rfl rfl (by decide +kernel) ⟨Nat.le_of_ble_eq_true rfl, Nat.le_of_ble_eq_true rfl⟩) (zr_preV (c0 := 0) K X (hcs 0 (by decide)) xE_W rfl) rfl rfl hl.1 rfl (lv_room (Nat.le_of_ble_eq_true rfl)) dX4_nets_80 ⟨Nat.zero_le _, Nat.zero_le _⟩) (fun H locs X => ?_)
          refine lv_if_eq (tgt := 94) S.1 S.2.1 dX4_nets_83 (by decide) (fun hc_11 => ?_) (fun hc_11 => ?_)
          · have h := zif_pos hc_11 h
            exact b94 k38 hk38 x4 x5 x6 x7 G_9 tr_10 h _ _ _ X (lv_sub hl [1, 2, 3, 4, 5, 6, 7, 8] rfl)
          · have h := zif_neg hc_11 h
            refine lv_iload S.1 S.2.1 dX4_nets_86 (lv_at hl 8 rfl) ?_
            refine lv_istore (lv' := [(4, .int x7), (8, .int r_4), (0, .ref (ad 0)), (1, .int a1), (2, .int a2), (3, .int a3), (5, .int x5), (6, .int x6), (7, .int x7)]) S.1 S.2.1 dX4_nets_88 hl (by decide) rfl (fun ls hl => ?_)
            refine lv_iload S.1 S.2.1 dX4_nets_90 (lv_at hl 1 rfl) ?_
            refine lv_istore (lv' := [(5, .int r_4), (4, .int x7), (8, .int r_4), (0, .ref (ad 0)), (1, .int a1), (2, .int a2), (3, .int a3), (6, .int x6), (7, .int x7)]) S.1 S.2.1 dX4_nets_92 hl (by decide) rfl (fun ls hl => ?_)
            exact b94 k38 hk38 x7 r_4 x6 x7 G_9 tr_10 h _ _ _ X (lv_sub hl [3, 4, 5, 6, 1, 0, 7, 8] rfl)
  have L38 : ∀ (n : Nat) (x4 : Int32) (x5 : Int32) (x6 : Int32) (x7 : Int32) (G : zMem) (tr : Int64), fX4_nets_L38 N a1 a2 a3 n x4 x5 x6 x7 G tr = some (r9, G9, tr9) → zAt p l e (headSpec wsX4_nets { frames := 5, cells := 0, slots := 0, locals := 122 }).room s m ([.ref (ad 0), .int a1, .int a2, .int a3] : List Value).toArray below meth c 9 D cs ad (zQI below ([.ref (ad 0), .int a1, .int a2, .int a3] : List Value).toArray s D cs ad ((xE ki ad) G9 tr9) r9) 38 [(0, .ref (ad 0)), (1, .int a1), (2, .int a2), (3, .int a3), (4, .int x4), (5, .int x5), (6, .int x6), (7, .int x7)] [] ((xE ki ad) G tr) := by
    intro n
    induction n with
    | zero => intro x4 x5 x6 x7 G tr h; cases h
    | succ n ih => intro x4 x5 x6 x7 G tr h; exact b38 (fX4_nets_L38 N a1 a2 a3 n) ih x4 x5 x6 x7 G tr h
  unfold fX4_nets at h
  obtain ⟨H, hH⟩ : ∃ H, H = s.heap := ⟨_, rfl⟩
  obtain ⟨locs, hlo⟩ : ∃ locs : List Loc, locs = [] := ⟨_, rfl⟩
  have X : gS D cs ad ((xE ki ad) G tr) (gA cs ad s.heap.size) s H locs := by rw [hH, hlo]; exact X
  suffices z : W p l e (headSpec wsX4_nets { frames := 5, cells := 0, slots := 0, locals := 122 }).room s m ([.ref (ad 0), .int a1, .int a2, .int a3] : List Value).toArray below meth c H locs 0 0 (zQI below ([.ref (ad 0), .int a1, .int a2, .int a3] : List Value).toArray s D cs ad ((xE ki ad) G9 tr9) r9) (F0 m 0 ls []) by rw [hH, hlo] at z; exact z
  clear hH hlo
  refine lv_aload_n S.1 S.2.1 dX4_nets_0 rfl (lv_at hl 0 rfl) ?_
  refine lv_iload_n S.1 S.2.1 dX4_nets_1 rfl (lv_at hl 1 rfl) ?_
  refine lv_iload_n S.1 S.2.1 dX4_nets_2 rfl (lv_at hl 2 rfl) ?_
  obtain ⟨r_2, G_3, tr_4, hf_1, h⟩ := zbd_some h
  refine zr_calli (Eg := (xE ki ad)) K X (va_runV (As := [.int a1, .int a2]) (rest := []) S (mX4_isWay l D ki ad cs hcs N a1 a2 G tr H.size _ _ _ hf_1) (cwV 2 S.2.2.2.2 gX4_nets_X4_isWay rfl rfl rfl (by decide +kernel) ⟨Nat.le_of_ble_eq_true rfl, Nat.le_of_ble_eq_true rfl⟩) (zr_preV (c0 := 0) K X (hcs 0 (by decide)) xE_W rfl) rfl rfl hl.1 rfl (lv_room (Nat.le_of_ble_eq_true rfl)) dX4_nets_3 ⟨Nat.zero_le _, Nat.zero_le _⟩) (fun H locs X => ?_)
  refine lv_if_eq (tgt := 16) S.1 S.2.1 dX4_nets_6 (by decide) (fun hc_5 => ?_) (fun hc_5 => ?_)
  · have h := zif_pos hc_5 h
    refine lv_iconst (v := (-1 : Int32)) S.1 S.2.1 dX4_nets_16 (by decide) ?_
    exact zr_iret S hr hlk X h dX4_nets_17
  · have h := zif_neg hc_5 h
    refine lv_iload_n S.1 S.2.1 dX4_nets_9 rfl (lv_at hl 3 rfl) ?_
    obtain ⟨r_7, hf_6, h⟩ := zbp_some h
    refine zr_calli (Eg := (xE ki ad)) (G' := G_3) (tr' := tr_4) K X (va_runS (As := [.int a3]) (rest := []) S (mX4_isWeight l D ki ad cs N a3 (xE ki ad) G_3 tr_4 H.size _ _ _ (zpu_of hf_6)) (va_cwS 1 S.2.2.2.2 gX4_nets_X4_isWeight rfl rfl rfl (by decide +kernel) ⟨Nat.le_of_ble_eq_true rfl, Nat.le_of_ble_eq_true rfl⟩) (zr_pre K X) rfl rfl hl.1 rfl (lv_room (Nat.le_of_ble_eq_true rfl)) dX4_nets_10 ⟨Nat.zero_le _, Nat.zero_le _⟩) (fun H locs X => ?_)
    refine lv_if_ne (tgt := 18) S.1 S.2.1 dX4_nets_13 (by decide) (fun hc_8 => ?_) (fun hc_8 => ?_)
    · have h := zif_neg hc_8 h
      refine lv_bipush (v := (-9 : Int32)) S.1 S.2.1 dX4_nets_18 (by decide) ?_
      refine lv_istore (lv' := [(4, .int (-9 : Int32)), (0, .ref (ad 0)), (1, .int a1), (2, .int a2), (3, .int a3)]) S.1 S.2.1 dX4_nets_20 hl (by decide) rfl (fun ls hl => ?_)
      refine lv_bipush (v := (7 : Int32)) S.1 S.2.1 dX4_nets_22 (by decide) ?_
      refine lv_istore (lv' := [(5, .int (7 : Int32)), (4, .int (-9 : Int32)), (0, .ref (ad 0)), (1, .int a1), (2, .int a2), (3, .int a3)]) S.1 S.2.1 dX4_nets_24 hl (by decide) rfl (fun ls hl => ?_)
      refine lv_iconst (v := (1 : Int32)) S.1 S.2.1 dX4_nets_26 (by decide) ?_
      refine lv_iload_n S.1 S.2.1 dX4_nets_27 rfl (lv_at hl 3 rfl) ?_
      refine lv_ishl S.1 S.2.1 dX4_nets_28 ?_
      refine lv_iconst (v := (1 : Int32)) S.1 S.2.1 dX4_nets_29 (by decide) ?_
      refine lv_iload_n S.1 S.2.1 dX4_nets_30 rfl (lv_at hl 4 rfl) ?_
      refine lv_ishl S.1 S.2.1 dX4_nets_31 ?_
      refine lv_ior S.1 S.2.1 dX4_nets_32 ?_
      refine lv_istore (lv' := [(6, .int (((1 : Int32) <<< (a1 &&& 31)) ||| ((1 : Int32) <<< (a2 &&& 31)))), (5, .int (7 : Int32)), (4, .int (-9 : Int32)), (0, .ref (ad 0)), (1, .int a1), (2, .int a2), (3, .int a3)]) S.1 S.2.1 dX4_nets_33 hl (by decide) rfl (fun ls hl => ?_)
      refine lv_iconst (v := (0 : Int32)) S.1 S.2.1 dX4_nets_35 (by decide) ?_
      refine lv_istore (lv' := [(7, .int (0 : Int32)), (6, .int (((1 : Int32) <<< (a1 &&& 31)) ||| ((1 : Int32) <<< (a2 &&& 31)))), (5, .int (7 : Int32)), (4, .int (-9 : Int32)), (0, .ref (ad 0)), (1, .int a1), (2, .int a2), (3, .int a3)]) S.1 S.2.1 dX4_nets_36 hl (by decide) rfl (fun ls hl => ?_)
      exact L38 N (-9 : Int32) (7 : Int32) (((1 : Int32) <<< (a1 &&& 31)) ||| ((1 : Int32) <<< (a2 &&& 31))) (0 : Int32) G_3 tr_4 h _ _ _ X (lv_sub hl [4, 5, 6, 7, 3, 2, 1, 0] rfl)
    · have h := zif_pos hc_8 h
      refine lv_iconst (v := (-1 : Int32)) S.1 S.2.1 dX4_nets_16 (by decide) ?_
      exact zr_iret S hr hlk X h dX4_nets_17
set_option maxRecDepth 20000 in
theorem ggX4_comesWith_X4_supposed : GoodIn wsX4_comesWith wsX4_supposed := goodIn_r _ [9, 3, 10, 11, 1, 12, 13, 14, 15, 16, 17, 18, 19, 20, 21, 22, 23, 24, 25, 26, 27, 28, 29, 30, 31, 32, 33, 34, 8, 35, 36, 37, 38, 39, 40, 41, 42, 43, 44, 45, 46, 47, 48, 49, 50, 51, 52, 53, 54, 55, 56, 57, 58, 59, 60, 61, 62, 63, 64, 65, 66, 67, 68, 69, 70, 71, 72, 73, 74, 75, 76, 77, 78, 79, 80, 81, 82, 83, 84, 85, 86, 87, 88, 89, 90, 97, 98, 99, 100, 101, 102, 103, 91, 92, 93, 94, 95, 96, 104, 105, 106, 107, 108, 109, 110, 111, 112, 113] (by decide +kernel) (by decide +kernel)
set_option maxRecDepth 20000 in
theorem gX4_comesWith_X4_supposed : GoodIn wsX4_comesWith (wsV RX4 190 RX4 yX4_supposed wsX4_supposed) := goodIn_app (goodIn_of _ (by decide +kernel)) ggX4_comesWith_X4_supposed
theorem dX4_comesWith_0 : decode cX4_comesWith 0 = .ok (.iconst 0, 1) := by decide +kernel
theorem dX4_comesWith_1 : decode cX4_comesWith 1 = .ok (.istore 5, 2) := by decide +kernel
theorem dX4_comesWith_3 : decode cX4_comesWith 3 = .ok (.iload 5, 2) := by decide +kernel
theorem dX4_comesWith_5 : decode cX4_comesWith 5 = .ok (.bipush 12, 2) := by decide +kernel
theorem dX4_comesWith_7 : decode cX4_comesWith 7 = .ok (.if_icmp .ge 44, 3) := by decide +kernel
theorem dX4_comesWith_10 : decode cX4_comesWith 10 = .ok (.aload_n 0, 1) := by decide +kernel
theorem dX4_comesWith_11 : decode cX4_comesWith 11 = .ok (.iload_n 1, 1) := by decide +kernel
theorem dX4_comesWith_12 : decode cX4_comesWith 12 = .ok (.iload_n 2, 1) := by decide +kernel
theorem dX4_comesWith_13 : decode cX4_comesWith 13 = .ok (.iload_n 3, 1) := by decide +kernel
theorem dX4_comesWith_14 : decode cX4_comesWith 14 = .ok (.iload 5, 2) := by decide +kernel
theorem dX4_comesWith_16 : decode cX4_comesWith 16 = .ok (.aload_n 0, 1) := by decide +kernel
theorem dX4_comesWith_17 : decode cX4_comesWith 17 = .ok (.getfield 29, 3) := by decide +kernel
theorem dX4_comesWith_20 : decode cX4_comesWith 20 = .ok (.getfield 88, 3) := by decide +kernel
theorem dX4_comesWith_23 : decode cX4_comesWith 23 = .ok (.invokevirtual 190, 3) := by decide +kernel
theorem dX4_comesWith_26 : decode cX4_comesWith 26 = .ok (.bipush (-9), 2) := by decide +kernel
theorem dX4_comesWith_28 : decode cX4_comesWith 28 = .ok (.if_icmp .eq 17, 3) := by decide +kernel
theorem dX4_comesWith_31 : decode cX4_comesWith 31 = .ok (.aload_n 0, 1) := by decide +kernel
theorem dX4_comesWith_32 : decode cX4_comesWith 32 = .ok (.getfield 47, 3) := by decide +kernel
theorem dX4_comesWith_35 : decode cX4_comesWith 35 = .ok (.getfield 128, 3) := by decide +kernel
theorem dX4_comesWith_38 : decode cX4_comesWith 38 = .ok (.iload 4, 2) := by decide +kernel
theorem dX4_comesWith_40 : decode cX4_comesWith 40 = .ok (.if_icmp .ne 5, 3) := by decide +kernel
theorem dX4_comesWith_43 : decode cX4_comesWith 43 = .ok (.iconst 1, 1) := by decide +kernel
theorem dX4_comesWith_44 : decode cX4_comesWith 44 = .ok (.ireturn, 1) := by decide +kernel
theorem dX4_comesWith_45 : decode cX4_comesWith 45 = .ok (.iinc 5 1, 3) := by decide +kernel
theorem dX4_comesWith_48 : decode cX4_comesWith 48 = .ok (.goto (-45), 3) := by decide +kernel
theorem dX4_comesWith_51 : decode cX4_comesWith 51 = .ok (.iconst 0, 1) := by decide +kernel
theorem dX4_comesWith_52 : decode cX4_comesWith 52 = .ok (.ireturn, 1) := by decide +kernel
set_option maxRecDepth 20000 in
theorem kX4_comesWith_29 : Cond.fieldLink RX4 29 "WindPost" "now" "LWindPost$Moment;" ∈ wsX4_comesWith := by decide +kernel
set_option maxRecDepth 20000 in
theorem kX4_comesWith_47 : Cond.fieldLink RX4 47 "WindPost" "probe" "LWindPost$Letter;" ∈ wsX4_comesWith := by decide +kernel
set_option maxRecDepth 20000 in
theorem kX4_comesWith_88 : Cond.fieldLink RX4 88 "WindPost$Moment" "nets" "I" ∈ wsX4_comesWith := by decide +kernel
set_option maxRecDepth 20000 in
theorem kX4_comesWith_128 : Cond.fieldLink RX4 128 "WindPost$Letter" "marks" "I" ∈ wsX4_comesWith := by decide +kernel
set_option maxRecDepth 20000 in
theorem uX4_comesWith_X1 : ∀ w ∈ wsX10, w ∈ wsX4_comesWith := by decide +kernel
set_option maxRecDepth 20000 in
theorem uX4_comesWith_X2 : ∀ w ∈ wsX20, w ∈ wsX4_comesWith := by decide +kernel
set_option maxRecDepth 20000 in
theorem uX4_comesWith_X4 : ∀ w ∈ wsX40, w ∈ wsX4_comesWith := by decide +kernel
set_option maxHeartbeats 8000000 in
set_option maxRecDepth 100000 in
theorem mX4_comesWith (l : Launch) (D : va_G) (ki : Nat → ClassId) (ad : Nat → Nat) (cs : List Nat) (hcs : kW cs) (N : Nat) (a1 : Int32) (a2 : Int32) (a3 : Int32) (a4 : Int32) (G : zMem) (tr : Int64) : gMetI l D ki ad cs yX4_comesWith wsX4_comesWith { frames := 4, cells := 0, slots := 0, locals := 97 } [.ref (ad 0), .int a1, .int a2, .int a3, .int a4] (xE ki ad) G tr (fX4_comesWith N a1 a2 a3 a4 G tr) := by
  refine gMetI_of (cc := cX4_comesWith) (maxL := 6) (ret := (some .boolean)) (own := RX4) (by decide +kernel) rfl rfl (Nat.le_of_ble_eq_true rfl) ?_
  intro r9 G9 tr9 h p e s m below meth c S hr hlk K X ls hl
  have hl : lv_has ls 6 [(0, .ref (ad 0)), (1, .int a1), (2, .int a2), (3, .int a3), (4, .int a4)] := hl
  have b45 : ∀ (k3 : Int32 → zMem → Int64 → zR) (hk3 : ∀ (x5 : Int32) (G : zMem) (tr : Int64), k3 x5 G tr = some (r9, G9, tr9) → zAt p l e (headSpec wsX4_comesWith { frames := 4, cells := 0, slots := 0, locals := 97 }).room s m ([.ref (ad 0), .int a1, .int a2, .int a3, .int a4] : List Value).toArray below meth c 6 D cs ad (zQI below ([.ref (ad 0), .int a1, .int a2, .int a3, .int a4] : List Value).toArray s D cs ad ((xE ki ad) G9 tr9) r9) 3 [(0, .ref (ad 0)), (1, .int a1), (2, .int a2), (3, .int a3), (4, .int a4), (5, .int x5)] [] ((xE ki ad) G tr)) (x5 : Int32) (G : zMem) (tr : Int64), fX4_comesWith_b45 N a1 a2 a3 a4 k3 x5 G tr = some (r9, G9, tr9) → zAt p l e (headSpec wsX4_comesWith { frames := 4, cells := 0, slots := 0, locals := 97 }).room s m ([.ref (ad 0), .int a1, .int a2, .int a3, .int a4] : List Value).toArray below meth c 6 D cs ad (zQI below ([.ref (ad 0), .int a1, .int a2, .int a3, .int a4] : List Value).toArray s D cs ad ((xE ki ad) G9 tr9) r9) 45 [(0, .ref (ad 0)), (1, .int a1), (2, .int a2), (3, .int a3), (4, .int a4), (5, .int x5)] [] ((xE ki ad) G tr) := by
    intro k3 hk3 x5 G tr h H locs ls X hl
    unfold fX4_comesWith_b45 at h
    refine lv_iinc (v := (x5 + 1)) (lv' := [(5, .int (x5 + 1)), (0, .ref (ad 0)), (1, .int a1), (2, .int a2), (3, .int a3), (4, .int a4)]) S.1 S.2.1 dX4_comesWith_45 hl (k := 5) rfl rfl (by decide) rfl (fun ls hl => ?_)
    refine lv_goto (tgt := 3) S.1 S.2.1 dX4_comesWith_48 (by decide) ?_
    exact hk3 (x5 + 1) G tr h _ _ _ X (lv_sub hl [1, 2, 3, 4, 5, 0] rfl)
  have b3 : ∀ (k3 : Int32 → zMem → Int64 → zR) (hk3 : ∀ (x5 : Int32) (G : zMem) (tr : Int64), k3 x5 G tr = some (r9, G9, tr9) → zAt p l e (headSpec wsX4_comesWith { frames := 4, cells := 0, slots := 0, locals := 97 }).room s m ([.ref (ad 0), .int a1, .int a2, .int a3, .int a4] : List Value).toArray below meth c 6 D cs ad (zQI below ([.ref (ad 0), .int a1, .int a2, .int a3, .int a4] : List Value).toArray s D cs ad ((xE ki ad) G9 tr9) r9) 3 [(0, .ref (ad 0)), (1, .int a1), (2, .int a2), (3, .int a3), (4, .int a4), (5, .int x5)] [] ((xE ki ad) G tr)) (x5 : Int32) (G : zMem) (tr : Int64), fX4_comesWith_b3 N a1 a2 a3 a4 k3 x5 G tr = some (r9, G9, tr9) → zAt p l e (headSpec wsX4_comesWith { frames := 4, cells := 0, slots := 0, locals := 97 }).room s m ([.ref (ad 0), .int a1, .int a2, .int a3, .int a4] : List Value).toArray below meth c 6 D cs ad (zQI below ([.ref (ad 0), .int a1, .int a2, .int a3, .int a4] : List Value).toArray s D cs ad ((xE ki ad) G9 tr9) r9) 3 [(0, .ref (ad 0)), (1, .int a1), (2, .int a2), (3, .int a3), (4, .int a4), (5, .int x5)] [] ((xE ki ad) G tr) := by
    intro k3 hk3 x5 G tr h H locs ls X hl
    unfold fX4_comesWith_b3 at h
    refine lv_iload S.1 S.2.1 dX4_comesWith_3 (lv_at hl 5 rfl) ?_
    refine lv_bipush (v := (12 : Int32)) S.1 S.2.1 dX4_comesWith_5 (by decide) ?_
    refine lv_icmp_ge (tgt := 51) S.1 S.2.1 dX4_comesWith_7 (by decide) (fun hc_1 => ?_) (fun hc_1 => ?_)
    · have h := zif_pos hc_1 h
      refine lv_iconst (v := (0 : Int32)) S.1 S.2.1 dX4_comesWith_51 (by decide) ?_
      exact zr_zret S hr hlk X h dX4_comesWith_52
    · have h := zif_neg hc_1 h
      refine lv_aload_n S.1 S.2.1 dX4_comesWith_10 rfl (lv_at hl 0 rfl) ?_
      refine lv_iload_n S.1 S.2.1 dX4_comesWith_11 rfl (lv_at hl 1 rfl) ?_
      refine lv_iload_n S.1 S.2.1 dX4_comesWith_12 rfl (lv_at hl 2 rfl) ?_
      refine lv_iload_n S.1 S.2.1 dX4_comesWith_13 rfl (lv_at hl 3 rfl) ?_
      refine lv_iload S.1 S.2.1 dX4_comesWith_14 (lv_at hl 5 rfl) ?_
      refine lv_aload_n S.1 S.2.1 dX4_comesWith_16 rfl (lv_at hl 0 rfl) ?_
      refine zr_get (v := .ref (ad 18)) S K X (hcs 0 (by decide)) xE_W rfl uX4_comesWith_X4 3 (by decide) kX4_comesWith_29 rfl rfl dX4_comesWith_17 ?_
      refine zr_get (v := .int (G 18 2)) S K X ((kM_now hcs).2 0 (by decide)) (xE_M (kM_now hcs)) rfl uX4_comesWith_X2 2 (by decide) kX4_comesWith_88 rfl rfl dX4_comesWith_20 ?_
      obtain ⟨r_3, G_4, tr_5, hf_2, h⟩ := zbd_some h
      refine zr_calli (Eg := (xE ki ad)) K X (va_runV (As := [.int a1, .int a2, .int a3, .int x5, .int (G 18 2)]) (rest := []) S (mX4_supposed l D ki ad cs hcs N a1 a2 a3 x5 (G 18 2) G tr H.size _ _ _ hf_2) (cwV 5 S.2.2.2.2 gX4_comesWith_X4_supposed rfl rfl rfl (by decide +kernel) ⟨Nat.le_of_ble_eq_true rfl, Nat.le_of_ble_eq_true rfl⟩) (zr_preV (c0 := 0) K X (hcs 0 (by decide)) xE_W rfl) rfl rfl hl.1 rfl (lv_room (Nat.le_of_ble_eq_true rfl)) dX4_comesWith_23 ⟨Nat.zero_le _, Nat.zero_le _⟩) (fun H locs X => ?_)
      refine lv_bipush (v := (-9 : Int32)) S.1 S.2.1 dX4_comesWith_26 (by decide) ?_
      refine lv_icmp_eq (tgt := 45) S.1 S.2.1 dX4_comesWith_28 (by decide) (fun hc_6 => ?_) (fun hc_6 => ?_)
      · have h := zif_pos hc_6 h
        exact b45 k3 hk3 x5 G_4 tr_5 h _ _ _ X (lv_sub hl [0, 1, 2, 3, 4, 5] rfl)
      · have h := zif_neg hc_6 h
        refine lv_aload_n S.1 S.2.1 dX4_comesWith_31 rfl (lv_at hl 0 rfl) ?_
        refine zr_get (v := .ref (ad 13)) S K X (hcs 0 (by decide)) xE_W rfl uX4_comesWith_X4 9 (by decide) kX4_comesWith_47 rfl rfl dX4_comesWith_32 ?_
        refine zr_get (v := .int (G_4 13 4)) S K X (kL_13 hcs).2 (xE_L (kL_13 hcs)) rfl uX4_comesWith_X1 4 (by decide) kX4_comesWith_128 rfl rfl dX4_comesWith_35 ?_
        refine lv_iload S.1 S.2.1 dX4_comesWith_38 (lv_at hl 4 rfl) ?_
        refine lv_icmp_ne (tgt := 45) S.1 S.2.1 dX4_comesWith_40 (by decide) (fun hc_7 => ?_) (fun hc_7 => ?_)
        · have h := zif_neg hc_7 h
          exact b45 k3 hk3 x5 G_4 tr_5 h _ _ _ X (lv_sub hl [0, 1, 2, 3, 4, 5] rfl)
        · have h := zif_pos hc_7 h
          refine lv_iconst (v := (1 : Int32)) S.1 S.2.1 dX4_comesWith_43 (by decide) ?_
          exact zr_zret S hr hlk X h dX4_comesWith_44
  have L3 : ∀ (n : Nat) (x5 : Int32) (G : zMem) (tr : Int64), fX4_comesWith_L3 N a1 a2 a3 a4 n x5 G tr = some (r9, G9, tr9) → zAt p l e (headSpec wsX4_comesWith { frames := 4, cells := 0, slots := 0, locals := 97 }).room s m ([.ref (ad 0), .int a1, .int a2, .int a3, .int a4] : List Value).toArray below meth c 6 D cs ad (zQI below ([.ref (ad 0), .int a1, .int a2, .int a3, .int a4] : List Value).toArray s D cs ad ((xE ki ad) G9 tr9) r9) 3 [(0, .ref (ad 0)), (1, .int a1), (2, .int a2), (3, .int a3), (4, .int a4), (5, .int x5)] [] ((xE ki ad) G tr) := by
    intro n
    induction n with
    | zero => intro x5 G tr h; cases h
    | succ n ih => intro x5 G tr h; exact b3 (fX4_comesWith_L3 N a1 a2 a3 a4 n) ih x5 G tr h
  unfold fX4_comesWith at h
  obtain ⟨H, hH⟩ : ∃ H, H = s.heap := ⟨_, rfl⟩
  obtain ⟨locs, hlo⟩ : ∃ locs : List Loc, locs = [] := ⟨_, rfl⟩
  have X : gS D cs ad ((xE ki ad) G tr) (gA cs ad s.heap.size) s H locs := by rw [hH, hlo]; exact X
  suffices z : W p l e (headSpec wsX4_comesWith { frames := 4, cells := 0, slots := 0, locals := 97 }).room s m ([.ref (ad 0), .int a1, .int a2, .int a3, .int a4] : List Value).toArray below meth c H locs 0 0 (zQI below ([.ref (ad 0), .int a1, .int a2, .int a3, .int a4] : List Value).toArray s D cs ad ((xE ki ad) G9 tr9) r9) (F0 m 0 ls []) by rw [hH, hlo] at z; exact z
  clear hH hlo
  refine lv_iconst (v := (0 : Int32)) S.1 S.2.1 dX4_comesWith_0 (by decide) ?_
  refine lv_istore (lv' := [(5, .int (0 : Int32)), (0, .ref (ad 0)), (1, .int a1), (2, .int a2), (3, .int a3), (4, .int a4)]) S.1 S.2.1 dX4_comesWith_1 hl (by decide) rfl (fun ls hl => ?_)
  exact L3 N (0 : Int32) G tr h _ _ _ X (lv_sub hl [1, 2, 3, 4, 5, 0] rfl)
set_option maxRecDepth 20000 in
theorem ggX4_who_X4_isIsle : GoodIn wsX4_who wsX4_isIsle := goodIn_r _ [7, 1, 2, 8, 9, 6, 10, 94, 95, 96, 97, 98, 99, 100, 101, 102, 103, 104, 105, 106, 107, 108, 109, 110, 111, 112, 113, 114, 115] (by decide +kernel) (by decide +kernel)
set_option maxRecDepth 20000 in
theorem gX4_who_X4_isIsle : GoodIn wsX4_who (wsV RX4 80 RX4 yX4_isIsle wsX4_isIsle) := goodIn_app (goodIn_of _ (by decide +kernel)) ggX4_who_X4_isIsle
set_option maxRecDepth 20000 in
theorem ggX4_who_X4_isWeight : GoodIn wsX4_who wsX4_isWeight := goodIn_r _ [13, 8, 9, 6, 10] (by decide +kernel) (by decide +kernel)
set_option maxRecDepth 20000 in
theorem gX4_who_X4_isWeight : GoodIn wsX4_who (va_wsS RX4 144 yX4_isWeight wsX4_isWeight) := goodIn_app (goodIn_of _ (by decide +kernel)) ggX4_who_X4_isWeight
set_option maxRecDepth 20000 in
theorem ggX4_who_X4_isWithin : GoodIn wsX4_who wsX4_isWithin := goodIn_r _ [10] (by decide +kernel) (by decide +kernel)
set_option maxRecDepth 20000 in
theorem gX4_who_X4_isWithin : GoodIn wsX4_who (va_wsS RX4 54 yX4_isWithin wsX4_isWithin) := goodIn_app (goodIn_of _ (by decide +kernel)) ggX4_who_X4_isWithin
set_option maxRecDepth 20000 in
theorem ggX4_who_X4_comesWith : GoodIn wsX4_who wsX4_comesWith := goodIn_r _ [17, 18, 19, 20, 21, 22, 23, 24, 6, 25, 1, 26, 27, 28, 29, 30, 31, 32, 33, 34, 35, 36, 37, 38, 39, 40, 41, 42, 43, 44, 45, 46, 47, 48, 49, 50, 51, 52, 53, 54, 55, 56, 57, 58, 59, 60, 61, 62, 63, 64, 65, 66, 67, 68, 69, 70, 71, 72, 73, 74, 75, 76, 77, 78, 79, 80, 81, 82, 83, 84, 85, 86, 87, 88, 89, 90, 91, 92, 93, 94, 95, 96, 97, 98, 99, 100, 101, 102, 103, 104, 105, 116, 117, 118, 119, 120, 121, 122, 123, 124, 125, 126, 127, 128, 106, 107, 108, 109, 110, 111, 112, 113, 114, 115] (by decide +kernel) (by decide +kernel)
set_option maxRecDepth 20000 in
theorem gX4_who_X4_comesWith : GoodIn wsX4_who (wsV RX4 209 RX4 yX4_comesWith wsX4_comesWith) := goodIn_app (goodIn_of _ (by decide +kernel)) ggX4_who_X4_comesWith
theorem dX4_who_0 : decode cX4_who 0 = .ok (.aload_n 0, 1) := by decide +kernel
theorem dX4_who_1 : decode cX4_who 1 = .ok (.iload_n 1, 1) := by decide +kernel
theorem dX4_who_2 : decode cX4_who 2 = .ok (.invokevirtual 80, 3) := by decide +kernel
theorem dX4_who_5 : decode cX4_who 5 = .ok (.ifCond .eq 10, 3) := by decide +kernel
theorem dX4_who_8 : decode cX4_who 8 = .ok (.iload_n 2, 1) := by decide +kernel
theorem dX4_who_9 : decode cX4_who 9 = .ok (.invokestatic 144, 3) := by decide +kernel
theorem dX4_who_12 : decode cX4_who 12 = .ok (.ifCond .ne 5, 3) := by decide +kernel
theorem dX4_who_15 : decode cX4_who 15 = .ok (.iconst (-1), 1) := by decide +kernel
theorem dX4_who_16 : decode cX4_who 16 = .ok (.ireturn, 1) := by decide +kernel
theorem dX4_who_17 : decode cX4_who 17 = .ok (.iload_n 3, 1) := by decide +kernel
theorem dX4_who_18 : decode cX4_who 18 = .ok (.iconst 0, 1) := by decide +kernel
theorem dX4_who_19 : decode cX4_who 19 = .ok (.iconst 1, 1) := by decide +kernel
theorem dX4_who_20 : decode cX4_who 20 = .ok (.aload_n 0, 1) := by decide +kernel
theorem dX4_who_21 : decode cX4_who 21 = .ok (.getfield 19, 3) := by decide +kernel
theorem dX4_who_24 : decode cX4_who 24 = .ok (.getfield 194, 3) := by decide +kernel
theorem dX4_who_27 : decode cX4_who 27 = .ok (.ishl, 1) := by decide +kernel
theorem dX4_who_28 : decode cX4_who 28 = .ok (.iconst 1, 1) := by decide +kernel
theorem dX4_who_29 : decode cX4_who 29 = .ok (.isub, 1) := by decide +kernel
theorem dX4_who_30 : decode cX4_who 30 = .ok (.invokestatic 54, 3) := by decide +kernel
theorem dX4_who_33 : decode cX4_who 33 = .ok (.ifCond .ne 5, 3) := by decide +kernel
theorem dX4_who_36 : decode cX4_who 36 = .ok (.iconst (-1), 1) := by decide +kernel
theorem dX4_who_37 : decode cX4_who 37 = .ok (.ireturn, 1) := by decide +kernel
theorem dX4_who_38 : decode cX4_who 38 = .ok (.iconst 0, 1) := by decide +kernel
theorem dX4_who_39 : decode cX4_who 39 = .ok (.istore 4, 2) := by decide +kernel
theorem dX4_who_41 : decode cX4_who 41 = .ok (.iconst 0, 1) := by decide +kernel
theorem dX4_who_42 : decode cX4_who 42 = .ok (.istore 5, 2) := by decide +kernel
theorem dX4_who_44 : decode cX4_who 44 = .ok (.iload 5, 2) := by decide +kernel
theorem dX4_who_46 : decode cX4_who 46 = .ok (.aload_n 0, 1) := by decide +kernel
theorem dX4_who_47 : decode cX4_who 47 = .ok (.getfield 19, 3) := by decide +kernel
theorem dX4_who_50 : decode cX4_who 50 = .ok (.getfield 194, 3) := by decide +kernel
theorem dX4_who_53 : decode cX4_who 53 = .ok (.if_icmp .ge 36, 3) := by decide +kernel
theorem dX4_who_56 : decode cX4_who 56 = .ok (.iload 5, 2) := by decide +kernel
theorem dX4_who_58 : decode cX4_who 58 = .ok (.iload_n 1, 1) := by decide +kernel
theorem dX4_who_59 : decode cX4_who 59 = .ok (.if_icmp .eq 24, 3) := by decide +kernel
theorem dX4_who_62 : decode cX4_who 62 = .ok (.aload_n 0, 1) := by decide +kernel
theorem dX4_who_63 : decode cX4_who 63 = .ok (.iload 5, 2) := by decide +kernel
theorem dX4_who_65 : decode cX4_who 65 = .ok (.iload_n 1, 1) := by decide +kernel
theorem dX4_who_66 : decode cX4_who 66 = .ok (.iload_n 2, 1) := by decide +kernel
theorem dX4_who_67 : decode cX4_who 67 = .ok (.iload_n 3, 1) := by decide +kernel
theorem dX4_who_68 : decode cX4_who 68 = .ok (.invokevirtual 209, 3) := by decide +kernel
theorem dX4_who_71 : decode cX4_who 71 = .ok (.ifCond .eq 12, 3) := by decide +kernel
theorem dX4_who_74 : decode cX4_who 74 = .ok (.iload 4, 2) := by decide +kernel
theorem dX4_who_76 : decode cX4_who 76 = .ok (.iconst 1, 1) := by decide +kernel
theorem dX4_who_77 : decode cX4_who 77 = .ok (.iload 5, 2) := by decide +kernel
theorem dX4_who_79 : decode cX4_who 79 = .ok (.ishl, 1) := by decide +kernel
theorem dX4_who_80 : decode cX4_who 80 = .ok (.ior, 1) := by decide +kernel
theorem dX4_who_81 : decode cX4_who 81 = .ok (.istore 4, 2) := by decide +kernel
theorem dX4_who_83 : decode cX4_who 83 = .ok (.iinc 5 1, 3) := by decide +kernel
theorem dX4_who_86 : decode cX4_who 86 = .ok (.goto (-42), 3) := by decide +kernel
theorem dX4_who_89 : decode cX4_who 89 = .ok (.iload 4, 2) := by decide +kernel
theorem dX4_who_91 : decode cX4_who 91 = .ok (.ireturn, 1) := by decide +kernel
set_option maxRecDepth 20000 in
theorem kX4_who_19 : Cond.fieldLink RX4 19 "WindPost" "chart" "LWindPost$Chart;" ∈ wsX4_who := by decide +kernel
set_option maxRecDepth 20000 in
theorem kX4_who_194 : Cond.fieldLink RX4 194 "WindPost$Chart" "isles" "I" ∈ wsX4_who := by decide +kernel
set_option maxRecDepth 20000 in
theorem uX4_who_X0 : ∀ w ∈ wsX00, w ∈ wsX4_who := by decide +kernel
set_option maxRecDepth 20000 in
theorem uX4_who_X4 : ∀ w ∈ wsX40, w ∈ wsX4_who := by decide +kernel
set_option maxHeartbeats 8000000 in
set_option maxRecDepth 100000 in
theorem mX4_who (l : Launch) (D : va_G) (ki : Nat → ClassId) (ad : Nat → Nat) (cs : List Nat) (hcs : kW cs) (N : Nat) (a1 : Int32) (a2 : Int32) (a3 : Int32) (G : zMem) (tr : Int64) : gMetI l D ki ad cs yX4_who wsX4_who { frames := 5, cells := 0, slots := 0, locals := 122 } [.ref (ad 0), .int a1, .int a2, .int a3] (xE ki ad) G tr (fX4_who N a1 a2 a3 G tr) := by
  refine gMetI_of (cc := cX4_who) (maxL := 6) (ret := (some .int)) (own := RX4) (by decide +kernel) rfl rfl (Nat.le_of_ble_eq_true rfl) ?_
  intro r9 G9 tr9 h p e s m below meth c S hr hlk K X ls hl
  have hl : lv_has ls 6 [(0, .ref (ad 0)), (1, .int a1), (2, .int a2), (3, .int a3)] := hl
  have b83 : ∀ (k44 : Int32 → Int32 → zMem → Int64 → zR) (hk44 : ∀ (x4 : Int32) (x5 : Int32) (G : zMem) (tr : Int64), k44 x4 x5 G tr = some (r9, G9, tr9) → zAt p l e (headSpec wsX4_who { frames := 5, cells := 0, slots := 0, locals := 122 }).room s m ([.ref (ad 0), .int a1, .int a2, .int a3] : List Value).toArray below meth c 6 D cs ad (zQI below ([.ref (ad 0), .int a1, .int a2, .int a3] : List Value).toArray s D cs ad ((xE ki ad) G9 tr9) r9) 44 [(0, .ref (ad 0)), (1, .int a1), (2, .int a2), (3, .int a3), (4, .int x4), (5, .int x5)] [] ((xE ki ad) G tr)) (x4 : Int32) (x5 : Int32) (G : zMem) (tr : Int64), fX4_who_b83 N a1 a2 a3 k44 x4 x5 G tr = some (r9, G9, tr9) → zAt p l e (headSpec wsX4_who { frames := 5, cells := 0, slots := 0, locals := 122 }).room s m ([.ref (ad 0), .int a1, .int a2, .int a3] : List Value).toArray below meth c 6 D cs ad (zQI below ([.ref (ad 0), .int a1, .int a2, .int a3] : List Value).toArray s D cs ad ((xE ki ad) G9 tr9) r9) 83 [(0, .ref (ad 0)), (1, .int a1), (2, .int a2), (3, .int a3), (4, .int x4), (5, .int x5)] [] ((xE ki ad) G tr) := by
    intro k44 hk44 x4 x5 G tr h H locs ls X hl
    unfold fX4_who_b83 at h
    refine lv_iinc (v := (x5 + 1)) (lv' := [(5, .int (x5 + 1)), (0, .ref (ad 0)), (1, .int a1), (2, .int a2), (3, .int a3), (4, .int x4)]) S.1 S.2.1 dX4_who_83 hl (k := 5) rfl rfl (by decide) rfl (fun ls hl => ?_)
    refine lv_goto (tgt := 44) S.1 S.2.1 dX4_who_86 (by decide) ?_
    exact hk44 x4 (x5 + 1) G tr h _ _ _ X (lv_sub hl [1, 2, 3, 4, 5, 0] rfl)
  have b44 : ∀ (k44 : Int32 → Int32 → zMem → Int64 → zR) (hk44 : ∀ (x4 : Int32) (x5 : Int32) (G : zMem) (tr : Int64), k44 x4 x5 G tr = some (r9, G9, tr9) → zAt p l e (headSpec wsX4_who { frames := 5, cells := 0, slots := 0, locals := 122 }).room s m ([.ref (ad 0), .int a1, .int a2, .int a3] : List Value).toArray below meth c 6 D cs ad (zQI below ([.ref (ad 0), .int a1, .int a2, .int a3] : List Value).toArray s D cs ad ((xE ki ad) G9 tr9) r9) 44 [(0, .ref (ad 0)), (1, .int a1), (2, .int a2), (3, .int a3), (4, .int x4), (5, .int x5)] [] ((xE ki ad) G tr)) (x4 : Int32) (x5 : Int32) (G : zMem) (tr : Int64), fX4_who_b44 N a1 a2 a3 k44 x4 x5 G tr = some (r9, G9, tr9) → zAt p l e (headSpec wsX4_who { frames := 5, cells := 0, slots := 0, locals := 122 }).room s m ([.ref (ad 0), .int a1, .int a2, .int a3] : List Value).toArray below meth c 6 D cs ad (zQI below ([.ref (ad 0), .int a1, .int a2, .int a3] : List Value).toArray s D cs ad ((xE ki ad) G9 tr9) r9) 44 [(0, .ref (ad 0)), (1, .int a1), (2, .int a2), (3, .int a3), (4, .int x4), (5, .int x5)] [] ((xE ki ad) G tr) := by
    intro k44 hk44 x4 x5 G tr h H locs ls X hl
    unfold fX4_who_b44 at h
    refine lv_iload S.1 S.2.1 dX4_who_44 (lv_at hl 5 rfl) ?_
    refine lv_aload_n S.1 S.2.1 dX4_who_46 rfl (lv_at hl 0 rfl) ?_
    obtain ⟨hq_1, h⟩ := zch_some h
    refine zr_get (v := .ref (ad (G 0 1).toNatClampNeg)) S K X (hcs 0 (by decide)) xE_W rfl uX4_who_X4 1 (by decide) kX4_who_19 rfl rfl dX4_who_47 ?_
    refine zr_get (v := .int (G (G 0 1).toNatClampNeg 3)) S K X ((kC_of hcs hq_1).2 0 (by decide)) (xE_C (kC_of hcs hq_1)) rfl uX4_who_X0 3 (by decide) kX4_who_194 rfl rfl dX4_who_50 ?_
    refine lv_icmp_ge (tgt := 89) S.1 S.2.1 dX4_who_53 (by decide) (fun hc_2 => ?_) (fun hc_2 => ?_)
    · have h := zif_pos hc_2 h
      refine lv_iload S.1 S.2.1 dX4_who_89 (lv_at hl 4 rfl) ?_
      exact zr_iret S hr hlk X h dX4_who_91
    · have h := zif_neg hc_2 h
      refine lv_iload S.1 S.2.1 dX4_who_56 (lv_at hl 5 rfl) ?_
      refine lv_iload_n S.1 S.2.1 dX4_who_58 rfl (lv_at hl 1 rfl) ?_
      refine lv_icmp_eq (tgt := 83) S.1 S.2.1 dX4_who_59 (by decide) (fun hc_3 => ?_) (fun hc_3 => ?_)
      · have h := zif_pos hc_3 h
        exact b83 k44 hk44 x4 x5 G tr h _ _ _ X (lv_sub hl [0, 1, 2, 3, 4, 5] rfl)
      · have h := zif_neg hc_3 h
        refine lv_aload_n S.1 S.2.1 dX4_who_62 rfl (lv_at hl 0 rfl) ?_
        refine lv_iload S.1 S.2.1 dX4_who_63 (lv_at hl 5 rfl) ?_
        refine lv_iload_n S.1 S.2.1 dX4_who_65 rfl (lv_at hl 1 rfl) ?_
        refine lv_iload_n S.1 S.2.1 dX4_who_66 rfl (lv_at hl 2 rfl) ?_
        refine lv_iload_n S.1 S.2.1 dX4_who_67 rfl (lv_at hl 3 rfl) ?_
        obtain ⟨r_5, G_6, tr_7, hf_4, h⟩ := zbd_some h
        refine zr_calli (Eg := (xE ki ad)) K X (va_runV (As := [.int x5, .int a1, .int a2, .int a3]) (rest := []) S (mX4_comesWith l D ki ad cs hcs N x5 a1 a2 a3 G tr H.size _ _ _ hf_4) (cwV 4 S.2.2.2.2 gX4_who_X4_comesWith rfl rfl rfl (by decide +kernel) ⟨Nat.le_of_ble_eq_true rfl, Nat.le_of_ble_eq_true rfl⟩) (zr_preV (c0 := 0) K X (hcs 0 (by decide)) xE_W rfl) rfl rfl hl.1 rfl (lv_room (Nat.le_of_ble_eq_true rfl)) dX4_who_68 ⟨Nat.zero_le _, Nat.zero_le _⟩) (fun H locs X => ?_)
        refine lv_if_eq (tgt := 83) S.1 S.2.1 dX4_who_71 (by decide) (fun hc_8 => ?_) (fun hc_8 => ?_)
        · have h := zif_pos hc_8 h
          exact b83 k44 hk44 x4 x5 G_6 tr_7 h _ _ _ X (lv_sub hl [0, 1, 2, 3, 4, 5] rfl)
        · have h := zif_neg hc_8 h
          refine lv_iload S.1 S.2.1 dX4_who_74 (lv_at hl 4 rfl) ?_
          refine lv_iconst (v := (1 : Int32)) S.1 S.2.1 dX4_who_76 (by decide) ?_
          refine lv_iload S.1 S.2.1 dX4_who_77 (lv_at hl 5 rfl) ?_
          refine lv_ishl S.1 S.2.1 dX4_who_79 ?_
          refine lv_ior S.1 S.2.1 dX4_who_80 ?_
          refine lv_istore (lv' := [(4, .int (x4 ||| ((1 : Int32) <<< (x5 &&& 31)))), (0, .ref (ad 0)), (1, .int a1), (2, .int a2), (3, .int a3), (5, .int x5)]) S.1 S.2.1 dX4_who_81 hl (by decide) rfl (fun ls hl => ?_)
          exact b83 k44 hk44 (x4 ||| ((1 : Int32) <<< (x5 &&& 31))) x5 G_6 tr_7 h _ _ _ X (lv_sub hl [1, 2, 3, 4, 0, 5] rfl)
  have L44 : ∀ (n : Nat) (x4 : Int32) (x5 : Int32) (G : zMem) (tr : Int64), fX4_who_L44 N a1 a2 a3 n x4 x5 G tr = some (r9, G9, tr9) → zAt p l e (headSpec wsX4_who { frames := 5, cells := 0, slots := 0, locals := 122 }).room s m ([.ref (ad 0), .int a1, .int a2, .int a3] : List Value).toArray below meth c 6 D cs ad (zQI below ([.ref (ad 0), .int a1, .int a2, .int a3] : List Value).toArray s D cs ad ((xE ki ad) G9 tr9) r9) 44 [(0, .ref (ad 0)), (1, .int a1), (2, .int a2), (3, .int a3), (4, .int x4), (5, .int x5)] [] ((xE ki ad) G tr) := by
    intro n
    induction n with
    | zero => intro x4 x5 G tr h; cases h
    | succ n ih => intro x4 x5 G tr h; exact b44 (fX4_who_L44 N a1 a2 a3 n) ih x4 x5 G tr h
  unfold fX4_who at h
  obtain ⟨H, hH⟩ : ∃ H, H = s.heap := ⟨_, rfl⟩
  obtain ⟨locs, hlo⟩ : ∃ locs : List Loc, locs = [] := ⟨_, rfl⟩
  have X : gS D cs ad ((xE ki ad) G tr) (gA cs ad s.heap.size) s H locs := by rw [hH, hlo]; exact X
  suffices z : W p l e (headSpec wsX4_who { frames := 5, cells := 0, slots := 0, locals := 122 }).room s m ([.ref (ad 0), .int a1, .int a2, .int a3] : List Value).toArray below meth c H locs 0 0 (zQI below ([.ref (ad 0), .int a1, .int a2, .int a3] : List Value).toArray s D cs ad ((xE ki ad) G9 tr9) r9) (F0 m 0 ls []) by rw [hH, hlo] at z; exact z
  clear hH hlo
  refine lv_aload_n S.1 S.2.1 dX4_who_0 rfl (lv_at hl 0 rfl) ?_
  refine lv_iload_n S.1 S.2.1 dX4_who_1 rfl (lv_at hl 1 rfl) ?_
  obtain ⟨r_2, G_3, tr_4, hf_1, h⟩ := zbd_some h
  refine zr_calli (Eg := (xE ki ad)) K X (va_runV (As := [.int a1]) (rest := []) S (mX4_isIsle l D ki ad cs hcs N a1 G tr H.size _ _ _ hf_1) (cwV 1 S.2.2.2.2 gX4_who_X4_isIsle rfl rfl rfl (by decide +kernel) ⟨Nat.le_of_ble_eq_true rfl, Nat.le_of_ble_eq_true rfl⟩) (zr_preV (c0 := 0) K X (hcs 0 (by decide)) xE_W rfl) rfl rfl hl.1 rfl (lv_room (Nat.le_of_ble_eq_true rfl)) dX4_who_2 ⟨Nat.zero_le _, Nat.zero_le _⟩) (fun H locs X => ?_)
  refine lv_if_eq (tgt := 15) S.1 S.2.1 dX4_who_5 (by decide) (fun hc_5 => ?_) (fun hc_5 => ?_)
  · have h := zif_pos hc_5 h
    refine lv_iconst (v := (-1 : Int32)) S.1 S.2.1 dX4_who_15 (by decide) ?_
    exact zr_iret S hr hlk X h dX4_who_16
  · have h := zif_neg hc_5 h
    refine lv_iload_n S.1 S.2.1 dX4_who_8 rfl (lv_at hl 2 rfl) ?_
    obtain ⟨r_7, hf_6, h⟩ := zbp_some h
    refine zr_calli (Eg := (xE ki ad)) (G' := G_3) (tr' := tr_4) K X (va_runS (As := [.int a2]) (rest := []) S (mX4_isWeight l D ki ad cs N a2 (xE ki ad) G_3 tr_4 H.size _ _ _ (zpu_of hf_6)) (va_cwS 1 S.2.2.2.2 gX4_who_X4_isWeight rfl rfl rfl (by decide +kernel) ⟨Nat.le_of_ble_eq_true rfl, Nat.le_of_ble_eq_true rfl⟩) (zr_pre K X) rfl rfl hl.1 rfl (lv_room (Nat.le_of_ble_eq_true rfl)) dX4_who_9 ⟨Nat.zero_le _, Nat.zero_le _⟩) (fun H locs X => ?_)
    refine lv_if_ne (tgt := 17) S.1 S.2.1 dX4_who_12 (by decide) (fun hc_8 => ?_) (fun hc_8 => ?_)
    · have h := zif_neg hc_8 h
      refine lv_iload_n S.1 S.2.1 dX4_who_17 rfl (lv_at hl 3 rfl) ?_
      refine lv_iconst (v := (0 : Int32)) S.1 S.2.1 dX4_who_18 (by decide) ?_
      refine lv_iconst (v := (1 : Int32)) S.1 S.2.1 dX4_who_19 (by decide) ?_
      refine lv_aload_n S.1 S.2.1 dX4_who_20 rfl (lv_at hl 0 rfl) ?_
      obtain ⟨hq_9, h⟩ := zch_some h
      refine zr_get (v := .ref (ad (G_3 0 1).toNatClampNeg)) S K X (hcs 0 (by decide)) xE_W rfl uX4_who_X4 1 (by decide) kX4_who_19 rfl rfl dX4_who_21 ?_
      refine zr_get (v := .int (G_3 (G_3 0 1).toNatClampNeg 3)) S K X ((kC_of hcs hq_9).2 0 (by decide)) (xE_C (kC_of hcs hq_9)) rfl uX4_who_X0 3 (by decide) kX4_who_194 rfl rfl dX4_who_24 ?_
      refine lv_ishl S.1 S.2.1 dX4_who_27 ?_
      refine lv_iconst (v := (1 : Int32)) S.1 S.2.1 dX4_who_28 (by decide) ?_
      refine lv_isub S.1 S.2.1 dX4_who_29 ?_
      obtain ⟨r_11, hf_10, h⟩ := zbp_some h
      refine zr_calli (Eg := (xE ki ad)) (G' := G_3) (tr' := tr_4) K X (va_runS (As := [.int a3, .int (0 : Int32), .int (((1 : Int32) <<< ((G_3 (G_3 0 1).toNatClampNeg 3) &&& 31)) - (1 : Int32))]) (rest := []) S (mX4_isWithin l D ki ad cs N a3 (0 : Int32) (((1 : Int32) <<< ((G_3 (G_3 0 1).toNatClampNeg 3) &&& 31)) - (1 : Int32)) (xE ki ad) G_3 tr_4 H.size _ _ _ (zpu_of hf_10)) (va_cwS 3 S.2.2.2.2 gX4_who_X4_isWithin rfl rfl rfl (by decide +kernel) ⟨Nat.le_of_ble_eq_true rfl, Nat.le_of_ble_eq_true rfl⟩) (zr_pre K X) rfl rfl hl.1 rfl (lv_room (Nat.le_of_ble_eq_true rfl)) dX4_who_30 ⟨Nat.zero_le _, Nat.zero_le _⟩) (fun H locs X => ?_)
      refine lv_if_ne (tgt := 38) S.1 S.2.1 dX4_who_33 (by decide) (fun hc_12 => ?_) (fun hc_12 => ?_)
      · have h := zif_neg hc_12 h
        refine lv_iconst (v := (0 : Int32)) S.1 S.2.1 dX4_who_38 (by decide) ?_
        refine lv_istore (lv' := [(4, .int (0 : Int32)), (0, .ref (ad 0)), (1, .int a1), (2, .int a2), (3, .int a3)]) S.1 S.2.1 dX4_who_39 hl (by decide) rfl (fun ls hl => ?_)
        refine lv_iconst (v := (0 : Int32)) S.1 S.2.1 dX4_who_41 (by decide) ?_
        refine lv_istore (lv' := [(5, .int (0 : Int32)), (4, .int (0 : Int32)), (0, .ref (ad 0)), (1, .int a1), (2, .int a2), (3, .int a3)]) S.1 S.2.1 dX4_who_42 hl (by decide) rfl (fun ls hl => ?_)
        exact L44 N (0 : Int32) (0 : Int32) G_3 tr_4 h _ _ _ X (lv_sub hl [2, 3, 4, 5, 1, 0] rfl)
      · have h := zif_pos hc_12 h
        refine lv_iconst (v := (-1 : Int32)) S.1 S.2.1 dX4_who_36 (by decide) ?_
        exact zr_iret S hr hlk X h dX4_who_37
    · have h := zif_pos hc_8 h
      refine lv_iconst (v := (-1 : Int32)) S.1 S.2.1 dX4_who_15 (by decide) ?_
      exact zr_iret S hr hlk X h dX4_who_16
set_option maxRecDepth 20000 in
theorem ggX4_knee_X4_isWithin : GoodIn wsX4_knee wsX4_isWithin := goodIn_r _ [6] (by decide +kernel) (by decide +kernel)
set_option maxRecDepth 20000 in
theorem gX4_knee_X4_isWithin : GoodIn wsX4_knee (va_wsS RX4 54 yX4_isWithin wsX4_isWithin) := goodIn_app (goodIn_of _ (by decide +kernel)) ggX4_knee_X4_isWithin
set_option maxRecDepth 20000 in
theorem ggX4_knee_X2_windOf : GoodIn wsX4_knee wsX2_windOf := goodIn_r _ [11, 12, 13, 14, 15, 16, 17, 30, 31, 32, 33, 34, 35] (by decide +kernel) (by decide +kernel)
set_option maxRecDepth 20000 in
theorem gX4_knee_X2_windOf : GoodIn wsX4_knee (wsV RX4 105 RX2 yX2_windOf wsX2_windOf) := goodIn_app (goodIn_of _ (by decide +kernel)) ggX4_knee_X2_windOf
theorem dX4_knee_0 : decode cX4_knee 0 = .ok (.iload_n 1, 1) := by decide +kernel
theorem dX4_knee_1 : decode cX4_knee 1 = .ok (.iconst 1, 1) := by decide +kernel
theorem dX4_knee_2 : decode cX4_knee 2 = .ok (.bipush 12, 2) := by decide +kernel
theorem dX4_knee_4 : decode cX4_knee 4 = .ok (.invokestatic 54, 3) := by decide +kernel
theorem dX4_knee_7 : decode cX4_knee 7 = .ok (.ifCond .eq 13, 3) := by decide +kernel
theorem dX4_knee_10 : decode cX4_knee 10 = .ok (.iload_n 2, 1) := by decide +kernel
theorem dX4_knee_11 : decode cX4_knee 11 = .ok (.iconst 1, 1) := by decide +kernel
theorem dX4_knee_12 : decode cX4_knee 12 = .ok (.bipush 12, 2) := by decide +kernel
theorem dX4_knee_14 : decode cX4_knee 14 = .ok (.invokestatic 54, 3) := by decide +kernel
theorem dX4_knee_17 : decode cX4_knee 17 = .ok (.ifCond .ne 5, 3) := by decide +kernel
theorem dX4_knee_20 : decode cX4_knee 20 = .ok (.iconst (-1), 1) := by decide +kernel
theorem dX4_knee_21 : decode cX4_knee 21 = .ok (.ireturn, 1) := by decide +kernel
theorem dX4_knee_22 : decode cX4_knee 22 = .ok (.iconst 0, 1) := by decide +kernel
theorem dX4_knee_23 : decode cX4_knee 23 = .ok (.istore_n 3, 1) := by decide +kernel
theorem dX4_knee_24 : decode cX4_knee 24 = .ok (.iconst 0, 1) := by decide +kernel
theorem dX4_knee_25 : decode cX4_knee 25 = .ok (.istore 4, 2) := by decide +kernel
theorem dX4_knee_27 : decode cX4_knee 27 = .ok (.iload 4, 2) := by decide +kernel
theorem dX4_knee_29 : decode cX4_knee 29 = .ok (.iload_n 2, 1) := by decide +kernel
theorem dX4_knee_30 : decode cX4_knee 30 = .ok (.if_icmp .ge 47, 3) := by decide +kernel
theorem dX4_knee_33 : decode cX4_knee 33 = .ok (.aload_n 0, 1) := by decide +kernel
theorem dX4_knee_34 : decode cX4_knee 34 = .ok (.getfield 29, 3) := by decide +kernel
theorem dX4_knee_37 : decode cX4_knee 37 = .ok (.getfield 102, 3) := by decide +kernel
theorem dX4_knee_40 : decode cX4_knee 40 = .ok (.iload 4, 2) := by decide +kernel
theorem dX4_knee_42 : decode cX4_knee 42 = .ok (.iadd, 1) := by decide +kernel
theorem dX4_knee_43 : decode cX4_knee 43 = .ok (.istore 5, 2) := by decide +kernel
theorem dX4_knee_45 : decode cX4_knee 45 = .ok (.aload_n 0, 1) := by decide +kernel
theorem dX4_knee_46 : decode cX4_knee 46 = .ok (.getfield 29, 3) := by decide +kernel
theorem dX4_knee_49 : decode cX4_knee 49 = .ok (.iload 5, 2) := by decide +kernel
theorem dX4_knee_51 : decode cX4_knee 51 = .ok (.invokevirtual 105, 3) := by decide +kernel
theorem dX4_knee_54 : decode cX4_knee 54 = .ok (.aload_n 0, 1) := by decide +kernel
theorem dX4_knee_55 : decode cX4_knee 55 = .ok (.getfield 29, 3) := by decide +kernel
theorem dX4_knee_58 : decode cX4_knee 58 = .ok (.iload 5, 2) := by decide +kernel
theorem dX4_knee_60 : decode cX4_knee 60 = .ok (.iload_n 1, 1) := by decide +kernel
theorem dX4_knee_61 : decode cX4_knee 61 = .ok (.isub, 1) := by decide +kernel
theorem dX4_knee_62 : decode cX4_knee 62 = .ok (.invokevirtual 105, 3) := by decide +kernel
theorem dX4_knee_65 : decode cX4_knee 65 = .ok (.if_icmp .ne 6, 3) := by decide +kernel
theorem dX4_knee_68 : decode cX4_knee 68 = .ok (.iinc 3 1, 3) := by decide +kernel
theorem dX4_knee_71 : decode cX4_knee 71 = .ok (.iinc 4 1, 3) := by decide +kernel
theorem dX4_knee_74 : decode cX4_knee 74 = .ok (.goto (-47), 3) := by decide +kernel
theorem dX4_knee_77 : decode cX4_knee 77 = .ok (.iload_n 3, 1) := by decide +kernel
theorem dX4_knee_78 : decode cX4_knee 78 = .ok (.ireturn, 1) := by decide +kernel
set_option maxRecDepth 20000 in
theorem kX4_knee_29 : Cond.fieldLink RX4 29 "WindPost" "now" "LWindPost$Moment;" ∈ wsX4_knee := by decide +kernel
set_option maxRecDepth 20000 in
theorem kX4_knee_102 : Cond.fieldLink RX4 102 "WindPost$Moment" "time" "I" ∈ wsX4_knee := by decide +kernel
set_option maxRecDepth 20000 in
theorem uX4_knee_X2 : ∀ w ∈ wsX20, w ∈ wsX4_knee := by decide +kernel
set_option maxRecDepth 20000 in
theorem uX4_knee_X4 : ∀ w ∈ wsX40, w ∈ wsX4_knee := by decide +kernel
set_option maxHeartbeats 8000000 in
set_option maxRecDepth 100000 in
theorem mX4_knee (l : Launch) (D : va_G) (ki : Nat → ClassId) (ad : Nat → Nat) (cs : List Nat) (hcs : kW cs) (N : Nat) (a1 : Int32) (a2 : Int32) (G : zMem) (tr : Int64) : gMetI l D ki ad cs yX4_knee wsX4_knee { frames := 2, cells := 0, slots := 0, locals := 43 } [.ref (ad 0), .int a1, .int a2] (xE ki ad) G tr (fX4_knee N a1 a2 G tr) := by
  refine gMetI_of (cc := cX4_knee) (maxL := 6) (ret := (some .int)) (own := RX4) (by decide +kernel) rfl rfl (Nat.le_of_ble_eq_true rfl) ?_
  intro r9 G9 tr9 h p e s m below meth c S hr hlk K X ls hl
  have hl : lv_has ls 6 [(0, .ref (ad 0)), (1, .int a1), (2, .int a2)] := hl
  have b71 : ∀ (k27 : Int32 → Int32 → zMem → Int64 → zR) (hk27 : ∀ (x3 : Int32) (x4 : Int32) (G : zMem) (tr : Int64), k27 x3 x4 G tr = some (r9, G9, tr9) → zAt p l e (headSpec wsX4_knee { frames := 2, cells := 0, slots := 0, locals := 43 }).room s m ([.ref (ad 0), .int a1, .int a2] : List Value).toArray below meth c 6 D cs ad (zQI below ([.ref (ad 0), .int a1, .int a2] : List Value).toArray s D cs ad ((xE ki ad) G9 tr9) r9) 27 [(0, .ref (ad 0)), (1, .int a1), (2, .int a2), (3, .int x3), (4, .int x4)] [] ((xE ki ad) G tr)) (x3 : Int32) (x4 : Int32) (G : zMem) (tr : Int64), fX4_knee_b71 N a1 a2 k27 x3 x4 G tr = some (r9, G9, tr9) → zAt p l e (headSpec wsX4_knee { frames := 2, cells := 0, slots := 0, locals := 43 }).room s m ([.ref (ad 0), .int a1, .int a2] : List Value).toArray below meth c 6 D cs ad (zQI below ([.ref (ad 0), .int a1, .int a2] : List Value).toArray s D cs ad ((xE ki ad) G9 tr9) r9) 71 [(0, .ref (ad 0)), (1, .int a1), (2, .int a2), (3, .int x3), (4, .int x4)] [] ((xE ki ad) G tr) := by
    intro k27 hk27 x3 x4 G tr h H locs ls X hl
    unfold fX4_knee_b71 at h
    refine lv_iinc (v := (x4 + 1)) (lv' := [(4, .int (x4 + 1)), (0, .ref (ad 0)), (1, .int a1), (2, .int a2), (3, .int x3)]) S.1 S.2.1 dX4_knee_71 hl (k := 4) rfl rfl (by decide) rfl (fun ls hl => ?_)
    refine lv_goto (tgt := 27) S.1 S.2.1 dX4_knee_74 (by decide) ?_
    exact hk27 x3 (x4 + 1) G tr h _ _ _ X (lv_sub hl [1, 2, 3, 4, 0] rfl)
  have b27 : ∀ (k27 : Int32 → Int32 → zMem → Int64 → zR) (hk27 : ∀ (x3 : Int32) (x4 : Int32) (G : zMem) (tr : Int64), k27 x3 x4 G tr = some (r9, G9, tr9) → zAt p l e (headSpec wsX4_knee { frames := 2, cells := 0, slots := 0, locals := 43 }).room s m ([.ref (ad 0), .int a1, .int a2] : List Value).toArray below meth c 6 D cs ad (zQI below ([.ref (ad 0), .int a1, .int a2] : List Value).toArray s D cs ad ((xE ki ad) G9 tr9) r9) 27 [(0, .ref (ad 0)), (1, .int a1), (2, .int a2), (3, .int x3), (4, .int x4)] [] ((xE ki ad) G tr)) (x3 : Int32) (x4 : Int32) (G : zMem) (tr : Int64), fX4_knee_b27 N a1 a2 k27 x3 x4 G tr = some (r9, G9, tr9) → zAt p l e (headSpec wsX4_knee { frames := 2, cells := 0, slots := 0, locals := 43 }).room s m ([.ref (ad 0), .int a1, .int a2] : List Value).toArray below meth c 6 D cs ad (zQI below ([.ref (ad 0), .int a1, .int a2] : List Value).toArray s D cs ad ((xE ki ad) G9 tr9) r9) 27 [(0, .ref (ad 0)), (1, .int a1), (2, .int a2), (3, .int x3), (4, .int x4)] [] ((xE ki ad) G tr) := by
    intro k27 hk27 x3 x4 G tr h H locs ls X hl
    unfold fX4_knee_b27 at h
    refine lv_iload S.1 S.2.1 dX4_knee_27 (lv_at hl 4 rfl) ?_
    refine lv_iload_n S.1 S.2.1 dX4_knee_29 rfl (lv_at hl 2 rfl) ?_
    refine lv_icmp_ge (tgt := 77) S.1 S.2.1 dX4_knee_30 (by decide) (fun hc_1 => ?_) (fun hc_1 => ?_)
    · have h := zif_pos hc_1 h
      refine lv_iload_n S.1 S.2.1 dX4_knee_77 rfl (lv_at hl 3 rfl) ?_
      exact zr_iret S hr hlk X h dX4_knee_78
    · have h := zif_neg hc_1 h
      refine lv_aload_n S.1 S.2.1 dX4_knee_33 rfl (lv_at hl 0 rfl) ?_
      refine zr_get (v := .ref (ad 18)) S K X (hcs 0 (by decide)) xE_W rfl uX4_knee_X4 3 (by decide) kX4_knee_29 rfl rfl dX4_knee_34 ?_
      refine zr_get (v := .int (G 18 0)) S K X ((kM_now hcs).2 0 (by decide)) (xE_M (kM_now hcs)) rfl uX4_knee_X2 0 (by decide) kX4_knee_102 rfl rfl dX4_knee_37 ?_
      refine lv_iload S.1 S.2.1 dX4_knee_40 (lv_at hl 4 rfl) ?_
      refine lv_iadd S.1 S.2.1 dX4_knee_42 ?_
      refine lv_istore (lv' := [(5, .int ((G 18 0) + x4)), (0, .ref (ad 0)), (1, .int a1), (2, .int a2), (3, .int x3), (4, .int x4)]) S.1 S.2.1 dX4_knee_43 hl (by decide) rfl (fun ls hl => ?_)
      refine lv_aload_n S.1 S.2.1 dX4_knee_45 rfl (lv_at hl 1 rfl) ?_
      refine zr_get (v := .ref (ad 18)) S K X (hcs 0 (by decide)) xE_W rfl uX4_knee_X4 3 (by decide) kX4_knee_29 rfl rfl dX4_knee_46 ?_
      refine lv_iload S.1 S.2.1 dX4_knee_49 (lv_at hl 0 rfl) ?_
      obtain ⟨r_3, G_4, tr_5, hf_2, h⟩ := zbd_some h
      refine zr_calli (Eg := (xE ki ad)) K X (va_runV (As := [.int ((G 18 0) + x4)]) (rest := []) S (mX2_windOf l D ki ad cs hcs N 18 ((G 18 0) + x4) (kM_now hcs) G tr H.size _ _ _ hf_2) (cwV 1 S.2.2.2.2 gX4_knee_X2_windOf rfl rfl rfl (by decide +kernel) ⟨Nat.le_of_ble_eq_true rfl, Nat.le_of_ble_eq_true rfl⟩) (zr_preV (c0 := 18) K X ((kM_now hcs).2 0 (by decide)) (xE_M (kM_now hcs)) rfl) rfl rfl hl.1 rfl (lv_room (Nat.le_of_ble_eq_true rfl)) dX4_knee_51 ⟨Nat.zero_le _, Nat.zero_le _⟩) (fun H locs X => ?_)
      refine lv_aload_n S.1 S.2.1 dX4_knee_54 rfl (lv_at hl 1 rfl) ?_
      refine zr_get (v := .ref (ad 18)) S K X (hcs 0 (by decide)) xE_W rfl uX4_knee_X4 3 (by decide) kX4_knee_29 rfl rfl dX4_knee_55 ?_
      refine lv_iload S.1 S.2.1 dX4_knee_58 (lv_at hl 0 rfl) ?_
      refine lv_iload_n S.1 S.2.1 dX4_knee_60 rfl (lv_at hl 2 rfl) ?_
      refine lv_isub S.1 S.2.1 dX4_knee_61 ?_
      obtain ⟨r_7, G_8, tr_9, hf_6, h⟩ := zbd_some h
      refine zr_calli (Eg := (xE ki ad)) K X (va_runV (As := [.int (((G 18 0) + x4) - a1)]) (rest := [.int r_3]) S (mX2_windOf l D ki ad cs hcs N 18 (((G 18 0) + x4) - a1) (kM_now hcs) G_4 tr_5 H.size _ _ _ hf_6) (cwV 1 S.2.2.2.2 gX4_knee_X2_windOf rfl rfl rfl (by decide +kernel) ⟨Nat.le_of_ble_eq_true rfl, Nat.le_of_ble_eq_true rfl⟩) (zr_preV (c0 := 18) K X ((kM_now hcs).2 0 (by decide)) (xE_M (kM_now hcs)) rfl) rfl rfl hl.1 rfl (lv_room (Nat.le_of_ble_eq_true rfl)) dX4_knee_62 ⟨Nat.zero_le _, Nat.zero_le _⟩) (fun H locs X => ?_)
      refine lv_icmp_ne (tgt := 71) S.1 S.2.1 dX4_knee_65 (by decide) (fun hc_10 => ?_) (fun hc_10 => ?_)
      · have h := zif_neg hc_10 h
        exact b71 k27 hk27 x3 x4 G_8 tr_9 h _ _ _ X (lv_sub hl [1, 2, 3, 4, 5] rfl)
      · have h := zif_pos hc_10 h
        refine lv_iinc (v := (x3 + 1)) (lv' := [(3, .int (x3 + 1)), (5, .int ((G 18 0) + x4)), (0, .ref (ad 0)), (1, .int a1), (2, .int a2), (4, .int x4)]) S.1 S.2.1 dX4_knee_68 hl (k := 4) rfl rfl (by decide) rfl (fun ls hl => ?_)
        exact b71 k27 hk27 (x3 + 1) x4 G_8 tr_9 h _ _ _ X (lv_sub hl [2, 3, 4, 0, 5] rfl)
  have L27 : ∀ (n : Nat) (x3 : Int32) (x4 : Int32) (G : zMem) (tr : Int64), fX4_knee_L27 N a1 a2 n x3 x4 G tr = some (r9, G9, tr9) → zAt p l e (headSpec wsX4_knee { frames := 2, cells := 0, slots := 0, locals := 43 }).room s m ([.ref (ad 0), .int a1, .int a2] : List Value).toArray below meth c 6 D cs ad (zQI below ([.ref (ad 0), .int a1, .int a2] : List Value).toArray s D cs ad ((xE ki ad) G9 tr9) r9) 27 [(0, .ref (ad 0)), (1, .int a1), (2, .int a2), (3, .int x3), (4, .int x4)] [] ((xE ki ad) G tr) := by
    intro n
    induction n with
    | zero => intro x3 x4 G tr h; cases h
    | succ n ih => intro x3 x4 G tr h; exact b27 (fX4_knee_L27 N a1 a2 n) ih x3 x4 G tr h
  unfold fX4_knee at h
  obtain ⟨H, hH⟩ : ∃ H, H = s.heap := ⟨_, rfl⟩
  obtain ⟨locs, hlo⟩ : ∃ locs : List Loc, locs = [] := ⟨_, rfl⟩
  have X : gS D cs ad ((xE ki ad) G tr) (gA cs ad s.heap.size) s H locs := by rw [hH, hlo]; exact X
  suffices z : W p l e (headSpec wsX4_knee { frames := 2, cells := 0, slots := 0, locals := 43 }).room s m ([.ref (ad 0), .int a1, .int a2] : List Value).toArray below meth c H locs 0 0 (zQI below ([.ref (ad 0), .int a1, .int a2] : List Value).toArray s D cs ad ((xE ki ad) G9 tr9) r9) (F0 m 0 ls []) by rw [hH, hlo] at z; exact z
  clear hH hlo
  refine lv_iload_n S.1 S.2.1 dX4_knee_0 rfl (lv_at hl 1 rfl) ?_
  refine lv_iconst (v := (1 : Int32)) S.1 S.2.1 dX4_knee_1 (by decide) ?_
  refine lv_bipush (v := (12 : Int32)) S.1 S.2.1 dX4_knee_2 (by decide) ?_
  obtain ⟨r_2, hf_1, h⟩ := zbp_some h
  refine zr_calli (Eg := (xE ki ad)) (G' := G) (tr' := tr) K X (va_runS (As := [.int a1, .int (1 : Int32), .int (12 : Int32)]) (rest := []) S (mX4_isWithin l D ki ad cs N a1 (1 : Int32) (12 : Int32) (xE ki ad) G tr H.size _ _ _ (zpu_of hf_1)) (va_cwS 3 S.2.2.2.2 gX4_knee_X4_isWithin rfl rfl rfl (by decide +kernel) ⟨Nat.le_of_ble_eq_true rfl, Nat.le_of_ble_eq_true rfl⟩) (zr_pre K X) rfl rfl hl.1 rfl (lv_room (Nat.le_of_ble_eq_true rfl)) dX4_knee_4 ⟨Nat.zero_le _, Nat.zero_le _⟩) (fun H locs X => ?_)
  refine lv_if_eq (tgt := 20) S.1 S.2.1 dX4_knee_7 (by decide) (fun hc_3 => ?_) (fun hc_3 => ?_)
  · have h := zif_pos hc_3 h
    refine lv_iconst (v := (-1 : Int32)) S.1 S.2.1 dX4_knee_20 (by decide) ?_
    exact zr_iret S hr hlk X h dX4_knee_21
  · have h := zif_neg hc_3 h
    refine lv_iload_n S.1 S.2.1 dX4_knee_10 rfl (lv_at hl 2 rfl) ?_
    refine lv_iconst (v := (1 : Int32)) S.1 S.2.1 dX4_knee_11 (by decide) ?_
    refine lv_bipush (v := (12 : Int32)) S.1 S.2.1 dX4_knee_12 (by decide) ?_
    obtain ⟨r_5, hf_4, h⟩ := zbp_some h
    refine zr_calli (Eg := (xE ki ad)) (G' := G) (tr' := tr) K X (va_runS (As := [.int a2, .int (1 : Int32), .int (12 : Int32)]) (rest := []) S (mX4_isWithin l D ki ad cs N a2 (1 : Int32) (12 : Int32) (xE ki ad) G tr H.size _ _ _ (zpu_of hf_4)) (va_cwS 3 S.2.2.2.2 gX4_knee_X4_isWithin rfl rfl rfl (by decide +kernel) ⟨Nat.le_of_ble_eq_true rfl, Nat.le_of_ble_eq_true rfl⟩) (zr_pre K X) rfl rfl hl.1 rfl (lv_room (Nat.le_of_ble_eq_true rfl)) dX4_knee_14 ⟨Nat.zero_le _, Nat.zero_le _⟩) (fun H locs X => ?_)
    refine lv_if_ne (tgt := 22) S.1 S.2.1 dX4_knee_17 (by decide) (fun hc_6 => ?_) (fun hc_6 => ?_)
    · have h := zif_neg hc_6 h
      refine lv_iconst (v := (0 : Int32)) S.1 S.2.1 dX4_knee_22 (by decide) ?_
      refine lv_istore_n (lv' := [(3, .int (0 : Int32)), (0, .ref (ad 0)), (1, .int a1), (2, .int a2)]) S.1 S.2.1 dX4_knee_23 rfl hl (by decide) rfl (fun ls hl => ?_)
      refine lv_iconst (v := (0 : Int32)) S.1 S.2.1 dX4_knee_24 (by decide) ?_
      refine lv_istore (lv' := [(4, .int (0 : Int32)), (3, .int (0 : Int32)), (0, .ref (ad 0)), (1, .int a1), (2, .int a2)]) S.1 S.2.1 dX4_knee_25 hl (by decide) rfl (fun ls hl => ?_)
      exact L27 N (0 : Int32) (0 : Int32) G tr h _ _ _ X (lv_sub hl [2, 3, 4, 1, 0] rfl)
    · have h := zif_pos hc_6 h
      refine lv_iconst (v := (-1 : Int32)) S.1 S.2.1 dX4_knee_20 (by decide) ?_
      exact zr_iret S hr hlk X h dX4_knee_21
set_option maxRecDepth 20000 in
theorem ggX4_drift_X4_isWeight : GoodIn wsX4_drift wsX4_isWeight := goodIn_r _ [14, 15, 16, 13, 17] (by decide +kernel) (by decide +kernel)
set_option maxRecDepth 20000 in
theorem gX4_drift_X4_isWeight : GoodIn wsX4_drift (va_wsS RX4 144 yX4_isWeight wsX4_isWeight) := goodIn_app (goodIn_of _ (by decide +kernel)) ggX4_drift_X4_isWeight
set_option maxRecDepth 20000 in
theorem ggX4_drift_X4_isWithin : GoodIn wsX4_drift wsX4_isWithin := goodIn_r _ [17] (by decide +kernel) (by decide +kernel)
set_option maxRecDepth 20000 in
theorem gX4_drift_X4_isWithin : GoodIn wsX4_drift (va_wsS RX4 54 yX4_isWithin wsX4_isWithin) := goodIn_app (goodIn_of _ (by decide +kernel)) ggX4_drift_X4_isWithin
theorem dX4_drift_0 : decode cX4_drift 0 = .ok (.iload_n 1, 1) := by decide +kernel
theorem dX4_drift_1 : decode cX4_drift 1 = .ok (.invokestatic 144, 3) := by decide +kernel
theorem dX4_drift_4 : decode cX4_drift 4 = .ok (.ifCond .eq 12, 3) := by decide +kernel
theorem dX4_drift_7 : decode cX4_drift 7 = .ok (.iload_n 2, 1) := by decide +kernel
theorem dX4_drift_8 : decode cX4_drift 8 = .ok (.iconst 0, 1) := by decide +kernel
theorem dX4_drift_9 : decode cX4_drift 9 = .ok (.iconst 1, 1) := by decide +kernel
theorem dX4_drift_10 : decode cX4_drift 10 = .ok (.invokestatic 54, 3) := by decide +kernel
theorem dX4_drift_13 : decode cX4_drift 13 = .ok (.ifCond .ne 6, 3) := by decide +kernel
theorem dX4_drift_16 : decode cX4_drift 16 = .ok (.ldc 212, 2) := by decide +kernel
theorem dX4_drift_18 : decode cX4_drift 18 = .ok (.ireturn, 1) := by decide +kernel
theorem dX4_drift_19 : decode cX4_drift 19 = .ok (.iload_n 2, 1) := by decide +kernel
theorem dX4_drift_20 : decode cX4_drift 20 = .ok (.ifCond .ne 7, 3) := by decide +kernel
theorem dX4_drift_23 : decode cX4_drift 23 = .ok (.iconst 1, 1) := by decide +kernel
theorem dX4_drift_24 : decode cX4_drift 24 = .ok (.goto 4, 3) := by decide +kernel
theorem dX4_drift_27 : decode cX4_drift 27 = .ok (.iconst 2, 1) := by decide +kernel
theorem dX4_drift_28 : decode cX4_drift 28 = .ok (.istore_n 3, 1) := by decide +kernel
theorem dX4_drift_29 : decode cX4_drift 29 = .ok (.iload_n 2, 1) := by decide +kernel
theorem dX4_drift_30 : decode cX4_drift 30 = .ok (.ifCond .ne 7, 3) := by decide +kernel
theorem dX4_drift_33 : decode cX4_drift 33 = .ok (.iconst 3, 1) := by decide +kernel
theorem dX4_drift_34 : decode cX4_drift 34 = .ok (.goto 4, 3) := by decide +kernel
theorem dX4_drift_37 : decode cX4_drift 37 = .ok (.iconst 0, 1) := by decide +kernel
theorem dX4_drift_38 : decode cX4_drift 38 = .ok (.istore 4, 2) := by decide +kernel
theorem dX4_drift_40 : decode cX4_drift 40 = .ok (.iconst 0, 1) := by decide +kernel
theorem dX4_drift_41 : decode cX4_drift 41 = .ok (.istore 5, 2) := by decide +kernel
theorem dX4_drift_43 : decode cX4_drift 43 = .ok (.iconst 0, 1) := by decide +kernel
theorem dX4_drift_44 : decode cX4_drift 44 = .ok (.istore 6, 2) := by decide +kernel
theorem dX4_drift_46 : decode cX4_drift 46 = .ok (.iload 6, 2) := by decide +kernel
theorem dX4_drift_48 : decode cX4_drift 48 = .ok (.aload_n 0, 1) := by decide +kernel
theorem dX4_drift_49 : decode cX4_drift 49 = .ok (.getfield 29, 3) := by decide +kernel
theorem dX4_drift_52 : decode cX4_drift 52 = .ok (.getfield 158, 3) := by decide +kernel
theorem dX4_drift_55 : decode cX4_drift 55 = .ok (.if_icmp .ge 44, 3) := by decide +kernel
theorem dX4_drift_58 : decode cX4_drift 58 = .ok (.aload_n 0, 1) := by decide +kernel
theorem dX4_drift_59 : decode cX4_drift 59 = .ok (.getfield 29, 3) := by decide +kernel
theorem dX4_drift_62 : decode cX4_drift 62 = .ok (.getfield 161, 3) := by decide +kernel
theorem dX4_drift_65 : decode cX4_drift 65 = .ok (.iload 6, 2) := by decide +kernel
theorem dX4_drift_67 : decode cX4_drift 67 = .ok (.iaload, 1) := by decide +kernel
theorem dX4_drift_68 : decode cX4_drift 68 = .ok (.iload_n 3, 1) := by decide +kernel
theorem dX4_drift_69 : decode cX4_drift 69 = .ok (.if_icmp .ne 6, 3) := by decide +kernel
theorem dX4_drift_72 : decode cX4_drift 72 = .ok (.iinc 5 1, 3) := by decide +kernel
theorem dX4_drift_75 : decode cX4_drift 75 = .ok (.aload_n 0, 1) := by decide +kernel
theorem dX4_drift_76 : decode cX4_drift 76 = .ok (.getfield 29, 3) := by decide +kernel
theorem dX4_drift_79 : decode cX4_drift 79 = .ok (.getfield 161, 3) := by decide +kernel
theorem dX4_drift_82 : decode cX4_drift 82 = .ok (.iload 6, 2) := by decide +kernel
theorem dX4_drift_84 : decode cX4_drift 84 = .ok (.iaload, 1) := by decide +kernel
theorem dX4_drift_85 : decode cX4_drift 85 = .ok (.iload 4, 2) := by decide +kernel
theorem dX4_drift_87 : decode cX4_drift 87 = .ok (.if_icmp .ne 6, 3) := by decide +kernel
theorem dX4_drift_90 : decode cX4_drift 90 = .ok (.iinc 5 (-1), 3) := by decide +kernel
theorem dX4_drift_93 : decode cX4_drift 93 = .ok (.iinc 6 1, 3) := by decide +kernel
theorem dX4_drift_96 : decode cX4_drift 96 = .ok (.goto (-50), 3) := by decide +kernel
theorem dX4_drift_99 : decode cX4_drift 99 = .ok (.iload 5, 2) := by decide +kernel
theorem dX4_drift_101 : decode cX4_drift 101 = .ok (.iconst 0, 1) := by decide +kernel
theorem dX4_drift_102 : decode cX4_drift 102 = .ok (.aload_n 0, 1) := by decide +kernel
theorem dX4_drift_103 : decode cX4_drift 103 = .ok (.getfield 19, 3) := by decide +kernel
theorem dX4_drift_106 : decode cX4_drift 106 = .ok (.getfield 213, 3) := by decide +kernel
theorem dX4_drift_109 : decode cX4_drift 109 = .ok (.iload_n 1, 1) := by decide +kernel
theorem dX4_drift_110 : decode cX4_drift 110 = .ok (.isub, 1) := by decide +kernel
theorem dX4_drift_111 : decode cX4_drift 111 = .ok (.invokestatic 181, 3) := by decide +kernel
theorem dX4_drift_114 : decode cX4_drift 114 = .ok (.imul, 1) := by decide +kernel
theorem dX4_drift_115 : decode cX4_drift 115 = .ok (.ireturn, 1) := by decide +kernel
set_option maxRecDepth 20000 in
theorem kX4_drift_19 : Cond.fieldLink RX4 19 "WindPost" "chart" "LWindPost$Chart;" ∈ wsX4_drift := by decide +kernel
set_option maxRecDepth 20000 in
theorem kX4_drift_29 : Cond.fieldLink RX4 29 "WindPost" "now" "LWindPost$Moment;" ∈ wsX4_drift := by decide +kernel
set_option maxRecDepth 20000 in
theorem kX4_drift_158 : Cond.fieldLink RX4 158 "WindPost$Moment" "told" "I" ∈ wsX4_drift := by decide +kernel
set_option maxRecDepth 20000 in
theorem kX4_drift_161 : Cond.fieldLink RX4 161 "WindPost$Moment" "winds" "[I" ∈ wsX4_drift := by decide +kernel
set_option maxRecDepth 20000 in
theorem kX4_drift_213 : Cond.fieldLink RX4 213 "WindPost$Chart" "force" "I" ∈ wsX4_drift := by decide +kernel
set_option maxRecDepth 20000 in
theorem uX4_drift_X0 : ∀ w ∈ wsX00, w ∈ wsX4_drift := by decide +kernel
set_option maxRecDepth 20000 in
theorem uX4_drift_X2 : ∀ w ∈ wsX20, w ∈ wsX4_drift := by decide +kernel
set_option maxRecDepth 20000 in
theorem uX4_drift_X4 : ∀ w ∈ wsX40, w ∈ wsX4_drift := by decide +kernel
set_option maxRecDepth 20000 in
theorem qX4_drift_212 : Cond.constant RX4 212 (-1000000) ∈ wsX4_drift := by decide +kernel
set_option maxRecDepth 20000 in
theorem jX4_drift_max_l : Cond.methodLink RX4 181 Lib.Math.max.name ∈ wsX4_drift := by decide +kernel
set_option maxRecDepth 20000 in
theorem jX4_drift_max_s : Cond.static Lib.Math.max.name ∈ wsX4_drift := by decide +kernel
set_option maxRecDepth 20000 in
theorem jX4_drift_max_i : Cond.initialized "java/lang/Math" ∈ wsX4_drift := by decide +kernel
set_option maxRecDepth 20000 in
theorem jX4_drift_max_c : Cond.code Lib.Math.max.name Lib.Math.max.code 2 (some .int) ∈ wsX4_drift := by decide +kernel
set_option maxHeartbeats 8000000 in
set_option maxRecDepth 100000 in
theorem mX4_drift (l : Launch) (D : va_G) (ki : Nat → ClassId) (ad : Nat → Nat) (cs : List Nat) (hcs : kW cs) (N : Nat) (a1 : Int32) (a2 : Int32) (G : zMem) (tr : Int64) : gMetI l D ki ad cs yX4_drift wsX4_drift { frames := 2, cells := 0, slots := 0, locals := 42 } [.ref (ad 0), .int a1, .int a2] (xE ki ad) G tr (fX4_drift N a1 a2 G tr) := by
  refine gMetI_of (cc := cX4_drift) (maxL := 7) (ret := (some .int)) (own := RX4) (by decide +kernel) rfl rfl (Nat.le_of_ble_eq_true rfl) ?_
  intro r9 G9 tr9 h p e s m below meth c S hr hlk K X ls hl
  have hl : lv_has ls 7 [(0, .ref (ad 0)), (1, .int a1), (2, .int a2)] := hl
  have b93 : ∀ (k46 : Int32 → Int32 → Int32 → Int32 → zMem → Int64 → zR) (hk46 : ∀ (x3 : Int32) (x4 : Int32) (x5 : Int32) (x6 : Int32) (G : zMem) (tr : Int64), k46 x3 x4 x5 x6 G tr = some (r9, G9, tr9) → zAt p l e (headSpec wsX4_drift { frames := 2, cells := 0, slots := 0, locals := 42 }).room s m ([.ref (ad 0), .int a1, .int a2] : List Value).toArray below meth c 7 D cs ad (zQI below ([.ref (ad 0), .int a1, .int a2] : List Value).toArray s D cs ad ((xE ki ad) G9 tr9) r9) 46 [(0, .ref (ad 0)), (1, .int a1), (3, .int x3), (4, .int x4), (5, .int x5), (6, .int x6)] [] ((xE ki ad) G tr)) (x3 : Int32) (x4 : Int32) (x5 : Int32) (x6 : Int32) (G : zMem) (tr : Int64), fX4_drift_b93 N a1 a2 k46 x3 x4 x5 x6 G tr = some (r9, G9, tr9) → zAt p l e (headSpec wsX4_drift { frames := 2, cells := 0, slots := 0, locals := 42 }).room s m ([.ref (ad 0), .int a1, .int a2] : List Value).toArray below meth c 7 D cs ad (zQI below ([.ref (ad 0), .int a1, .int a2] : List Value).toArray s D cs ad ((xE ki ad) G9 tr9) r9) 93 [(0, .ref (ad 0)), (1, .int a1), (3, .int x3), (4, .int x4), (5, .int x5), (6, .int x6)] [] ((xE ki ad) G tr) := by
    intro k46 hk46 x3 x4 x5 x6 G tr h H locs ls X hl
    unfold fX4_drift_b93 at h
    refine lv_iinc (v := (x6 + 1)) (lv' := [(6, .int (x6 + 1)), (0, .ref (ad 0)), (1, .int a1), (3, .int x3), (4, .int x4), (5, .int x5)]) S.1 S.2.1 dX4_drift_93 hl (k := 5) rfl rfl (by decide) rfl (fun ls hl => ?_)
    refine lv_goto (tgt := 46) S.1 S.2.1 dX4_drift_96 (by decide) ?_
    exact hk46 x3 x4 x5 (x6 + 1) G tr h _ _ _ X (lv_sub hl [1, 2, 3, 4, 5, 0] rfl)
  have b75 : ∀ (k46 : Int32 → Int32 → Int32 → Int32 → zMem → Int64 → zR) (hk46 : ∀ (x3 : Int32) (x4 : Int32) (x5 : Int32) (x6 : Int32) (G : zMem) (tr : Int64), k46 x3 x4 x5 x6 G tr = some (r9, G9, tr9) → zAt p l e (headSpec wsX4_drift { frames := 2, cells := 0, slots := 0, locals := 42 }).room s m ([.ref (ad 0), .int a1, .int a2] : List Value).toArray below meth c 7 D cs ad (zQI below ([.ref (ad 0), .int a1, .int a2] : List Value).toArray s D cs ad ((xE ki ad) G9 tr9) r9) 46 [(0, .ref (ad 0)), (1, .int a1), (3, .int x3), (4, .int x4), (5, .int x5), (6, .int x6)] [] ((xE ki ad) G tr)) (x3 : Int32) (x4 : Int32) (x5 : Int32) (x6 : Int32) (G : zMem) (tr : Int64), fX4_drift_b75 N a1 a2 k46 x3 x4 x5 x6 G tr = some (r9, G9, tr9) → zAt p l e (headSpec wsX4_drift { frames := 2, cells := 0, slots := 0, locals := 42 }).room s m ([.ref (ad 0), .int a1, .int a2] : List Value).toArray below meth c 7 D cs ad (zQI below ([.ref (ad 0), .int a1, .int a2] : List Value).toArray s D cs ad ((xE ki ad) G9 tr9) r9) 75 [(0, .ref (ad 0)), (1, .int a1), (3, .int x3), (4, .int x4), (5, .int x5), (6, .int x6)] [] ((xE ki ad) G tr) := by
    intro k46 hk46 x3 x4 x5 x6 G tr h H locs ls X hl
    unfold fX4_drift_b75 at h
    refine lv_aload_n S.1 S.2.1 dX4_drift_75 rfl (lv_at hl 0 rfl) ?_
    refine zr_get (v := .ref (ad 18)) S K X (hcs 0 (by decide)) xE_W rfl uX4_drift_X4 3 (by decide) kX4_drift_29 rfl rfl dX4_drift_76 ?_
    refine zr_get (v := .ref (ad 19)) S K X ((kM_now hcs).2 0 (by decide)) (xE_M (kM_now hcs)) rfl uX4_drift_X2 4 (by decide) kX4_drift_161 rfl rfl dX4_drift_79 ?_
    refine lv_iload S.1 S.2.1 dX4_drift_82 (lv_at hl 5 rfl) ?_
    obtain ⟨hi_1, h⟩ := zin_some h
    refine zr_iald S K X ((kM_now hcs).2 1 (by decide)) (xE_M1 (kM_now hcs)) hi_1 dX4_drift_84 ?_
    refine lv_iload S.1 S.2.1 dX4_drift_85 (lv_at hl 3 rfl) ?_
    refine lv_icmp_ne (tgt := 93) S.1 S.2.1 dX4_drift_87 (by decide) (fun hc_2 => ?_) (fun hc_2 => ?_)
    · have h := zif_neg hc_2 h
      exact b93 k46 hk46 x3 x4 x5 x6 G tr h _ _ _ X (lv_sub hl [0, 1, 2, 3, 4, 5] rfl)
    · have h := zif_pos hc_2 h
      refine lv_iinc (v := (x5 + (-1))) (lv' := [(5, .int (x5 + (-1))), (0, .ref (ad 0)), (1, .int a1), (3, .int x3), (4, .int x4), (6, .int x6)]) S.1 S.2.1 dX4_drift_90 hl (k := 4) rfl rfl (by decide) rfl (fun ls hl => ?_)
      exact b93 k46 hk46 x3 x4 (x5 + (-1)) x6 G tr h _ _ _ X (lv_sub hl [1, 2, 3, 4, 0, 5] rfl)
  have b46 : ∀ (k46 : Int32 → Int32 → Int32 → Int32 → zMem → Int64 → zR) (hk46 : ∀ (x3 : Int32) (x4 : Int32) (x5 : Int32) (x6 : Int32) (G : zMem) (tr : Int64), k46 x3 x4 x5 x6 G tr = some (r9, G9, tr9) → zAt p l e (headSpec wsX4_drift { frames := 2, cells := 0, slots := 0, locals := 42 }).room s m ([.ref (ad 0), .int a1, .int a2] : List Value).toArray below meth c 7 D cs ad (zQI below ([.ref (ad 0), .int a1, .int a2] : List Value).toArray s D cs ad ((xE ki ad) G9 tr9) r9) 46 [(0, .ref (ad 0)), (1, .int a1), (3, .int x3), (4, .int x4), (5, .int x5), (6, .int x6)] [] ((xE ki ad) G tr)) (x3 : Int32) (x4 : Int32) (x5 : Int32) (x6 : Int32) (G : zMem) (tr : Int64), fX4_drift_b46 N a1 a2 k46 x3 x4 x5 x6 G tr = some (r9, G9, tr9) → zAt p l e (headSpec wsX4_drift { frames := 2, cells := 0, slots := 0, locals := 42 }).room s m ([.ref (ad 0), .int a1, .int a2] : List Value).toArray below meth c 7 D cs ad (zQI below ([.ref (ad 0), .int a1, .int a2] : List Value).toArray s D cs ad ((xE ki ad) G9 tr9) r9) 46 [(0, .ref (ad 0)), (1, .int a1), (3, .int x3), (4, .int x4), (5, .int x5), (6, .int x6)] [] ((xE ki ad) G tr) := by
    intro k46 hk46 x3 x4 x5 x6 G tr h H locs ls X hl
    unfold fX4_drift_b46 at h
    refine lv_iload S.1 S.2.1 dX4_drift_46 (lv_at hl 5 rfl) ?_
    refine lv_aload_n S.1 S.2.1 dX4_drift_48 rfl (lv_at hl 0 rfl) ?_
    refine zr_get (v := .ref (ad 18)) S K X (hcs 0 (by decide)) xE_W rfl uX4_drift_X4 3 (by decide) kX4_drift_29 rfl rfl dX4_drift_49 ?_
    refine zr_get (v := .int (G 18 3)) S K X ((kM_now hcs).2 0 (by decide)) (xE_M (kM_now hcs)) rfl uX4_drift_X2 3 (by decide) kX4_drift_158 rfl rfl dX4_drift_52 ?_
    refine lv_icmp_ge (tgt := 99) S.1 S.2.1 dX4_drift_55 (by decide) (fun hc_1 => ?_) (fun hc_1 => ?_)
    · have h := zif_pos hc_1 h
      refine lv_iload S.1 S.2.1 dX4_drift_99 (lv_at hl 4 rfl) ?_
      refine lv_iconst (v := (0 : Int32)) S.1 S.2.1 dX4_drift_101 (by decide) ?_
      refine lv_aload_n S.1 S.2.1 dX4_drift_102 rfl (lv_at hl 0 rfl) ?_
      obtain ⟨hq_2, h⟩ := zch_some h
      refine zr_get (v := .ref (ad (G 0 1).toNatClampNeg)) S K X (hcs 0 (by decide)) xE_W rfl uX4_drift_X4 1 (by decide) kX4_drift_19 rfl rfl dX4_drift_103 ?_
      refine zr_get (v := .int (G (G 0 1).toNatClampNeg 2)) S K X ((kC_of hcs hq_2).2 0 (by decide)) (xE_C (kC_of hcs hq_2)) rfl uX4_drift_X0 2 (by decide) kX4_drift_213 rfl rfl dX4_drift_106 ?_
      refine lv_iload_n S.1 S.2.1 dX4_drift_109 rfl (lv_at hl 1 rfl) ?_
      refine lv_isub S.1 S.2.1 dX4_drift_110 ?_
      refine va_mmax S.1 S.2.1 (S.2.2.1.trans hl.1.symm) S.2.2.2.1 (S.2.2.2.2 _ jX4_drift_max_l) (S.2.2.2.2 _ jX4_drift_max_s) (S.2.2.2.2 _ jX4_drift_max_i) (S.2.2.2.2 _ jX4_drift_max_c) (Nat.le_of_ble_eq_true rfl) (Nat.le_of_ble_eq_true rfl) (Nat.zero_le _) (Nat.zero_le _) dX4_drift_111 ?_
      refine lv_imul S.1 S.2.1 dX4_drift_114 ?_
      exact zr_iret S hr hlk X h dX4_drift_115
    · have h := zif_neg hc_1 h
      refine lv_aload_n S.1 S.2.1 dX4_drift_58 rfl (lv_at hl 0 rfl) ?_
      refine zr_get (v := .ref (ad 18)) S K X (hcs 0 (by decide)) xE_W rfl uX4_drift_X4 3 (by decide) kX4_drift_29 rfl rfl dX4_drift_59 ?_
      refine zr_get (v := .ref (ad 19)) S K X ((kM_now hcs).2 0 (by decide)) (xE_M (kM_now hcs)) rfl uX4_drift_X2 4 (by decide) kX4_drift_161 rfl rfl dX4_drift_62 ?_
      refine lv_iload S.1 S.2.1 dX4_drift_65 (lv_at hl 5 rfl) ?_
      obtain ⟨hi_3, h⟩ := zin_some h
      refine zr_iald S K X ((kM_now hcs).2 1 (by decide)) (xE_M1 (kM_now hcs)) hi_3 dX4_drift_67 ?_
      refine lv_iload_n S.1 S.2.1 dX4_drift_68 rfl (lv_at hl 2 rfl) ?_
      refine lv_icmp_ne (tgt := 75) S.1 S.2.1 dX4_drift_69 (by decide) (fun hc_4 => ?_) (fun hc_4 => ?_)
      · have h := zif_neg hc_4 h
        exact b75 k46 hk46 x3 x4 x5 x6 G tr h _ _ _ X (lv_sub hl [0, 1, 2, 3, 4, 5] rfl)
      · have h := zif_pos hc_4 h
        refine lv_iinc (v := (x5 + 1)) (lv' := [(5, .int (x5 + 1)), (0, .ref (ad 0)), (1, .int a1), (3, .int x3), (4, .int x4), (6, .int x6)]) S.1 S.2.1 dX4_drift_72 hl (k := 4) rfl rfl (by decide) rfl (fun ls hl => ?_)
        exact b75 k46 hk46 x3 x4 (x5 + 1) x6 G tr h _ _ _ X (lv_sub hl [1, 2, 3, 4, 0, 5] rfl)
  have L46 : ∀ (n : Nat) (x3 : Int32) (x4 : Int32) (x5 : Int32) (x6 : Int32) (G : zMem) (tr : Int64), fX4_drift_L46 N a1 a2 n x3 x4 x5 x6 G tr = some (r9, G9, tr9) → zAt p l e (headSpec wsX4_drift { frames := 2, cells := 0, slots := 0, locals := 42 }).room s m ([.ref (ad 0), .int a1, .int a2] : List Value).toArray below meth c 7 D cs ad (zQI below ([.ref (ad 0), .int a1, .int a2] : List Value).toArray s D cs ad ((xE ki ad) G9 tr9) r9) 46 [(0, .ref (ad 0)), (1, .int a1), (3, .int x3), (4, .int x4), (5, .int x5), (6, .int x6)] [] ((xE ki ad) G tr) := by
    intro n
    induction n with
    | zero => intro x3 x4 x5 x6 G tr h; cases h
    | succ n ih => intro x3 x4 x5 x6 G tr h; exact b46 (fX4_drift_L46 N a1 a2 n) ih x3 x4 x5 x6 G tr h
  have b38 : ∀ (x3 : Int32) (s0 : Int32) (G : zMem) (tr : Int64), fX4_drift_b38 N a1 a2 x3 s0 G tr = some (r9, G9, tr9) → zAt p l e (headSpec wsX4_drift { frames := 2, cells := 0, slots := 0, locals := 42 }).room s m ([.ref (ad 0), .int a1, .int a2] : List Value).toArray below meth c 7 D cs ad (zQI below ([.ref (ad 0), .int a1, .int a2] : List Value).toArray s D cs ad ((xE ki ad) G9 tr9) r9) 38 [(0, .ref (ad 0)), (1, .int a1), (3, .int x3)] [.int s0] ((xE ki ad) G tr) := by
    intro x3 s0 G tr h H locs ls X hl
    unfold fX4_drift_b38 at h
    refine lv_istore (lv' := [(4, .int s0), (0, .ref (ad 0)), (1, .int a1), (3, .int x3)]) S.1 S.2.1 dX4_drift_38 hl (by decide) rfl (fun ls hl => ?_)
    refine lv_iconst (v := (0 : Int32)) S.1 S.2.1 dX4_drift_40 (by decide) ?_
    refine lv_istore (lv' := [(5, .int (0 : Int32)), (4, .int s0), (0, .ref (ad 0)), (1, .int a1), (3, .int x3)]) S.1 S.2.1 dX4_drift_41 hl (by decide) rfl (fun ls hl => ?_)
    refine lv_iconst (v := (0 : Int32)) S.1 S.2.1 dX4_drift_43 (by decide) ?_
    refine lv_istore (lv' := [(6, .int (0 : Int32)), (5, .int (0 : Int32)), (4, .int s0), (0, .ref (ad 0)), (1, .int a1), (3, .int x3)]) S.1 S.2.1 dX4_drift_44 hl (by decide) rfl (fun ls hl => ?_)
    exact L46 N x3 s0 (0 : Int32) (0 : Int32) G tr h _ _ _ X (lv_sub hl [3, 4, 5, 2, 1, 0] rfl)
  have b28 : ∀ (s0 : Int32) (G : zMem) (tr : Int64), fX4_drift_b28 N a1 a2 s0 G tr = some (r9, G9, tr9) → zAt p l e (headSpec wsX4_drift { frames := 2, cells := 0, slots := 0, locals := 42 }).room s m ([.ref (ad 0), .int a1, .int a2] : List Value).toArray below meth c 7 D cs ad (zQI below ([.ref (ad 0), .int a1, .int a2] : List Value).toArray s D cs ad ((xE ki ad) G9 tr9) r9) 28 [(0, .ref (ad 0)), (1, .int a1), (2, .int a2)] [.int s0] ((xE ki ad) G tr) := by
    intro s0 G tr h H locs ls X hl
    unfold fX4_drift_b28 at h
    refine lv_istore_n (lv' := [(3, .int s0), (0, .ref (ad 0)), (1, .int a1), (2, .int a2)]) S.1 S.2.1 dX4_drift_28 rfl hl (by decide) rfl (fun ls hl => ?_)
    refine lv_iload_n S.1 S.2.1 dX4_drift_29 rfl (lv_at hl 3 rfl) ?_
    refine lv_if_ne (tgt := 37) S.1 S.2.1 dX4_drift_30 (by decide) (fun hc_1 => ?_) (fun hc_1 => ?_)
    · have h := zif_neg hc_1 h
      refine lv_iconst (v := (0 : Int32)) S.1 S.2.1 dX4_drift_37 (by decide) ?_
      exact b38 s0 (0 : Int32) G tr h _ _ _ X (lv_sub hl [1, 2, 0] rfl)
    · have h := zif_pos hc_1 h
      refine lv_iconst (v := (3 : Int32)) S.1 S.2.1 dX4_drift_33 (by decide) ?_
      refine lv_goto (tgt := 38) S.1 S.2.1 dX4_drift_34 (by decide) ?_
      exact b38 s0 (3 : Int32) G tr h _ _ _ X (lv_sub hl [1, 2, 0] rfl)
  unfold fX4_drift at h
  obtain ⟨H, hH⟩ : ∃ H, H = s.heap := ⟨_, rfl⟩
  obtain ⟨locs, hlo⟩ : ∃ locs : List Loc, locs = [] := ⟨_, rfl⟩
  have X : gS D cs ad ((xE ki ad) G tr) (gA cs ad s.heap.size) s H locs := by rw [hH, hlo]; exact X
  suffices z : W p l e (headSpec wsX4_drift { frames := 2, cells := 0, slots := 0, locals := 42 }).room s m ([.ref (ad 0), .int a1, .int a2] : List Value).toArray below meth c H locs 0 0 (zQI below ([.ref (ad 0), .int a1, .int a2] : List Value).toArray s D cs ad ((xE ki ad) G9 tr9) r9) (F0 m 0 ls []) by rw [hH, hlo] at z; exact z
  clear hH hlo
  refine lv_iload_n S.1 S.2.1 dX4_drift_0 rfl (lv_at hl 1 rfl) ?_
  obtain ⟨r_2, hf_1, h⟩ := zbp_some h
  refine zr_calli (Eg := (xE ki ad)) (G' := G) (tr' := tr) K X (va_runS (As := [.int a1]) (rest := []) S (mX4_isWeight l D ki ad cs N a1 (xE ki ad) G tr H.size _ _ _ (zpu_of hf_1)) (va_cwS 1 S.2.2.2.2 gX4_drift_X4_isWeight rfl rfl rfl (by decide +kernel) ⟨Nat.le_of_ble_eq_true rfl, Nat.le_of_ble_eq_true rfl⟩) (zr_pre K X) rfl rfl hl.1 rfl (lv_room (Nat.le_of_ble_eq_true rfl)) dX4_drift_1 ⟨Nat.zero_le _, Nat.zero_le _⟩) (fun H locs X => ?_)
  refine lv_if_eq (tgt := 16) S.1 S.2.1 dX4_drift_4 (by decide) (fun hc_3 => ?_) (fun hc_3 => ?_)
  · have h := zif_pos hc_3 h
    refine lv_ldc (own := RX4) (v := (-1000000 : Int32)) S.1 S.2.1 S.2.2.2.1 (S.2.2.2.2 _ qX4_drift_212) dX4_drift_16 ?_
    exact zr_iret S hr hlk X h dX4_drift_18
  · have h := zif_neg hc_3 h
    refine lv_iload_n S.1 S.2.1 dX4_drift_7 rfl (lv_at hl 2 rfl) ?_
    refine lv_iconst (v := (0 : Int32)) S.1 S.2.1 dX4_drift_8 (by decide) ?_
    refine lv_iconst (v := (1 : Int32)) S.1 S.2.1 dX4_drift_9 (by decide) ?_
    obtain ⟨r_5, hf_4, h⟩ := zbp_some h
    refine zr_calli (Eg := (xE ki ad)) (G' := G) (tr' := tr) K X (va_runS (As := [.int a2, .int (0 : Int32), .int (1 : Int32)]) (rest := []) S (mX4_isWithin l D ki ad cs N a2 (0 : Int32) (1 : Int32) (xE ki ad) G tr H.size _ _ _ (zpu_of hf_4)) (va_cwS 3 S.2.2.2.2 gX4_drift_X4_isWithin rfl rfl rfl (by decide +kernel) ⟨Nat.le_of_ble_eq_true rfl, Nat.le_of_ble_eq_true rfl⟩) (zr_pre K X) rfl rfl hl.1 rfl (lv_room (Nat.le_of_ble_eq_true rfl)) dX4_drift_10 ⟨Nat.zero_le _, Nat.zero_le _⟩) (fun H locs X => ?_)
    refine lv_if_ne (tgt := 19) S.1 S.2.1 dX4_drift_13 (by decide) (fun hc_6 => ?_) (fun hc_6 => ?_)
    · have h := zif_neg hc_6 h
      refine lv_iload_n S.1 S.2.1 dX4_drift_19 rfl (lv_at hl 2 rfl) ?_
      refine lv_if_ne (tgt := 27) S.1 S.2.1 dX4_drift_20 (by decide) (fun hc_7 => ?_) (fun hc_7 => ?_)
      · have h := zif_neg hc_7 h
        refine lv_iconst (v := (2 : Int32)) S.1 S.2.1 dX4_drift_27 (by decide) ?_
        exact b28 (2 : Int32) G tr h _ _ _ X (lv_sub hl [0, 1, 2] rfl)
      · have h := zif_pos hc_7 h
        refine lv_iconst (v := (1 : Int32)) S.1 S.2.1 dX4_drift_23 (by decide) ?_
        refine lv_goto (tgt := 28) S.1 S.2.1 dX4_drift_24 (by decide) ?_
        exact b28 (1 : Int32) G tr h _ _ _ X (lv_sub hl [0, 1, 2] rfl)
    · have h := zif_pos hc_6 h
      refine lv_ldc (own := RX4) (v := (-1000000 : Int32)) S.1 S.2.1 S.2.2.2.1 (S.2.2.2.2 _ qX4_drift_212) dX4_drift_16 ?_
      exact zr_iret S hr hlk X h dX4_drift_18
set_option maxRecDepth 20000 in
theorem ggX4_shareArrived_X1_copyFrom : GoodIn wsX4_shareArrived wsX1_copyFrom := goodIn_r _ [12, 13, 14, 15, 16, 17, 18, 19, 68, 69, 70, 71, 72, 73, 74] (by decide +kernel) (by decide +kernel)
set_option maxRecDepth 20000 in
theorem gX4_shareArrived_X1_copyFrom : GoodIn wsX4_shareArrived (wsV RX4 175 RX1 yX1_copyFrom wsX1_copyFrom) := goodIn_app (goodIn_of _ (by decide +kernel)) ggX4_shareArrived_X1_copyFrom
set_option maxRecDepth 20000 in
theorem ggX4_shareArrived_X4_bitOf : GoodIn wsX4_shareArrived wsX4_bitOf := goodIn_r _ [23] (by decide +kernel) (by decide +kernel)
set_option maxRecDepth 20000 in
theorem gX4_shareArrived_X4_bitOf : GoodIn wsX4_shareArrived (va_wsS RX4 91 yX4_bitOf wsX4_bitOf) := goodIn_app (goodIn_of _ (by decide +kernel)) ggX4_shareArrived_X4_bitOf
set_option maxRecDepth 20000 in
theorem ggX4_shareArrived_X2_windOf : GoodIn wsX4_shareArrived wsX2_windOf := goodIn_r _ [28, 29, 30, 31, 32, 33, 34, 62, 63, 64, 65, 66, 67] (by decide +kernel) (by decide +kernel)
set_option maxRecDepth 20000 in
theorem gX4_shareArrived_X2_windOf : GoodIn wsX4_shareArrived (wsV RX4 105 RX2 yX2_windOf wsX2_windOf) := goodIn_app (goodIn_of _ (by decide +kernel)) ggX4_shareArrived_X2_windOf
set_option maxRecDepth 20000 in
theorem ggX4_shareArrived_X1_passHour : GoodIn wsX4_shareArrived wsX1_passHour := goodIn_r _ [38, 18, 19, 16, 15, 17, 39, 40, 41, 42, 43, 44, 45, 46, 47, 48, 49, 21, 22, 23, 68, 69, 70, 71, 72, 73, 74, 75, 76, 77, 78, 79, 80, 81, 82, 83, 84] (by decide +kernel) (by decide +kernel)
set_option maxRecDepth 20000 in
theorem gX4_shareArrived_X1_passHour : GoodIn wsX4_shareArrived (wsV RX4 154 RX1 yX1_passHour wsX1_passHour) := goodIn_app (goodIn_of _ (by decide +kernel)) ggX4_shareArrived_X1_passHour
theorem dX4_shareArrived_0 : decode cX4_shareArrived 0 = .ok (.aload_n 0, 1) := by decide +kernel
theorem dX4_shareArrived_1 : decode cX4_shareArrived 1 = .ok (.getfield 47, 3) := by decide +kernel
theorem dX4_shareArrived_4 : decode cX4_shareArrived 4 = .ok (.aload_n 0, 1) := by decide +kernel
theorem dX4_shareArrived_5 : decode cX4_shareArrived 5 = .ok (.getfield 29, 3) := by decide +kernel
theorem dX4_shareArrived_8 : decode cX4_shareArrived 8 = .ok (.getfield 112, 3) := by decide +kernel
theorem dX4_shareArrived_11 : decode cX4_shareArrived 11 = .ok (.iload_n 1, 1) := by decide +kernel
theorem dX4_shareArrived_12 : decode cX4_shareArrived 12 = .ok (.aaload, 1) := by decide +kernel
theorem dX4_shareArrived_13 : decode cX4_shareArrived 13 = .ok (.invokevirtual 175, 3) := by decide +kernel
theorem dX4_shareArrived_16 : decode cX4_shareArrived 16 = .ok (.iconst 1, 1) := by decide +kernel
theorem dX4_shareArrived_17 : decode cX4_shareArrived 17 = .ok (.istore 5, 2) := by decide +kernel
theorem dX4_shareArrived_19 : decode cX4_shareArrived 19 = .ok (.iconst 0, 1) := by decide +kernel
theorem dX4_shareArrived_20 : decode cX4_shareArrived 20 = .ok (.istore 6, 2) := by decide +kernel
theorem dX4_shareArrived_22 : decode cX4_shareArrived 22 = .ok (.iload 6, 2) := by decide +kernel
theorem dX4_shareArrived_24 : decode cX4_shareArrived 24 = .ok (.iload_n 3, 1) := by decide +kernel
theorem dX4_shareArrived_25 : decode cX4_shareArrived 25 = .ok (.if_icmp .ge 89, 3) := by decide +kernel
theorem dX4_shareArrived_28 : decode cX4_shareArrived 28 = .ok (.iload 4, 2) := by decide +kernel
theorem dX4_shareArrived_30 : decode cX4_shareArrived 30 = .ok (.iload 6, 2) := by decide +kernel
theorem dX4_shareArrived_32 : decode cX4_shareArrived 32 = .ok (.invokestatic 91, 3) := by decide +kernel
theorem dX4_shareArrived_35 : decode cX4_shareArrived 35 = .ok (.iconst 1, 1) := by decide +kernel
theorem dX4_shareArrived_36 : decode cX4_shareArrived 36 = .ok (.if_icmp .ne 7, 3) := by decide +kernel
theorem dX4_shareArrived_39 : decode cX4_shareArrived 39 = .ok (.iconst 1, 1) := by decide +kernel
theorem dX4_shareArrived_40 : decode cX4_shareArrived 40 = .ok (.goto 4, 3) := by decide +kernel
theorem dX4_shareArrived_43 : decode cX4_shareArrived 43 = .ok (.iconst 0, 1) := by decide +kernel
theorem dX4_shareArrived_44 : decode cX4_shareArrived 44 = .ok (.istore 7, 2) := by decide +kernel
theorem dX4_shareArrived_46 : decode cX4_shareArrived 46 = .ok (.iload 5, 2) := by decide +kernel
theorem dX4_shareArrived_48 : decode cX4_shareArrived 48 = .ok (.iload 7, 2) := by decide +kernel
theorem dX4_shareArrived_50 : decode cX4_shareArrived 50 = .ok (.ifCond .eq 7, 3) := by decide +kernel
theorem dX4_shareArrived_53 : decode cX4_shareArrived 53 = .ok (.iload_n 2, 1) := by decide +kernel
theorem dX4_shareArrived_54 : decode cX4_shareArrived 54 = .ok (.goto 7, 3) := by decide +kernel
theorem dX4_shareArrived_57 : decode cX4_shareArrived 57 = .ok (.bipush 10, 2) := by decide +kernel
theorem dX4_shareArrived_59 : decode cX4_shareArrived 59 = .ok (.iload_n 2, 1) := by decide +kernel
theorem dX4_shareArrived_60 : decode cX4_shareArrived 60 = .ok (.isub, 1) := by decide +kernel
theorem dX4_shareArrived_61 : decode cX4_shareArrived 61 = .ok (.imul, 1) := by decide +kernel
theorem dX4_shareArrived_62 : decode cX4_shareArrived 62 = .ok (.istore 5, 2) := by decide +kernel
theorem dX4_shareArrived_64 : decode cX4_shareArrived 64 = .ok (.aload_n 0, 1) := by decide +kernel
theorem dX4_shareArrived_65 : decode cX4_shareArrived 65 = .ok (.getfield 47, 3) := by decide +kernel
theorem dX4_shareArrived_68 : decode cX4_shareArrived 68 = .ok (.aload_n 0, 1) := by decide +kernel
theorem dX4_shareArrived_69 : decode cX4_shareArrived 69 = .ok (.getfield 19, 3) := by decide +kernel
theorem dX4_shareArrived_72 : decode cX4_shareArrived 72 = .ok (.iload 7, 2) := by decide +kernel
theorem dX4_shareArrived_74 : decode cX4_shareArrived 74 = .ok (.ifCond .eq 7, 3) := by decide +kernel
theorem dX4_shareArrived_77 : decode cX4_shareArrived 77 = .ok (.iconst 4, 1) := by decide +kernel
theorem dX4_shareArrived_78 : decode cX4_shareArrived 78 = .ok (.goto 20, 3) := by decide +kernel
theorem dX4_shareArrived_81 : decode cX4_shareArrived 81 = .ok (.aload_n 0, 1) := by decide +kernel
theorem dX4_shareArrived_82 : decode cX4_shareArrived 82 = .ok (.getfield 29, 3) := by decide +kernel
theorem dX4_shareArrived_85 : decode cX4_shareArrived 85 = .ok (.aload_n 0, 1) := by decide +kernel
theorem dX4_shareArrived_86 : decode cX4_shareArrived 86 = .ok (.getfield 29, 3) := by decide +kernel
theorem dX4_shareArrived_89 : decode cX4_shareArrived 89 = .ok (.getfield 102, 3) := by decide +kernel
theorem dX4_shareArrived_92 : decode cX4_shareArrived 92 = .ok (.iload 6, 2) := by decide +kernel
theorem dX4_shareArrived_94 : decode cX4_shareArrived 94 = .ok (.iadd, 1) := by decide +kernel
theorem dX4_shareArrived_95 : decode cX4_shareArrived 95 = .ok (.invokevirtual 105, 3) := by decide +kernel
theorem dX4_shareArrived_98 : decode cX4_shareArrived 98 = .ok (.aload_n 0, 1) := by decide +kernel
theorem dX4_shareArrived_99 : decode cX4_shareArrived 99 = .ok (.getfield 29, 3) := by decide +kernel
theorem dX4_shareArrived_102 : decode cX4_shareArrived 102 = .ok (.getfield 88, 3) := by decide +kernel
theorem dX4_shareArrived_105 : decode cX4_shareArrived 105 = .ok (.invokevirtual 154, 3) := by decide +kernel
theorem dX4_shareArrived_108 : decode cX4_shareArrived 108 = .ok (.iinc 6 1, 3) := by decide +kernel
theorem dX4_shareArrived_111 : decode cX4_shareArrived 111 = .ok (.goto (-89), 3) := by decide +kernel
theorem dX4_shareArrived_114 : decode cX4_shareArrived 114 = .ok (.aload_n 0, 1) := by decide +kernel
theorem dX4_shareArrived_115 : decode cX4_shareArrived 115 = .ok (.getfield 47, 3) := by decide +kernel
theorem dX4_shareArrived_118 : decode cX4_shareArrived 118 = .ok (.getfield 131, 3) := by decide +kernel
theorem dX4_shareArrived_121 : decode cX4_shareArrived 121 = .ok (.iconst 1, 1) := by decide +kernel
theorem dX4_shareArrived_122 : decode cX4_shareArrived 122 = .ok (.if_icmp .ne 8, 3) := by decide +kernel
theorem dX4_shareArrived_125 : decode cX4_shareArrived 125 = .ok (.iload 5, 2) := by decide +kernel
theorem dX4_shareArrived_127 : decode cX4_shareArrived 127 = .ok (.goto 4, 3) := by decide +kernel
theorem dX4_shareArrived_130 : decode cX4_shareArrived 130 = .ok (.iconst 0, 1) := by decide +kernel
theorem dX4_shareArrived_131 : decode cX4_shareArrived 131 = .ok (.ireturn, 1) := by decide +kernel
set_option maxRecDepth 20000 in
theorem kX4_shareArrived_19 : Cond.fieldLink RX4 19 "WindPost" "chart" "LWindPost$Chart;" ∈ wsX4_shareArrived := by decide +kernel
set_option maxRecDepth 20000 in
theorem kX4_shareArrived_29 : Cond.fieldLink RX4 29 "WindPost" "now" "LWindPost$Moment;" ∈ wsX4_shareArrived := by decide +kernel
set_option maxRecDepth 20000 in
theorem kX4_shareArrived_47 : Cond.fieldLink RX4 47 "WindPost" "probe" "LWindPost$Letter;" ∈ wsX4_shareArrived := by decide +kernel
set_option maxRecDepth 20000 in
theorem kX4_shareArrived_88 : Cond.fieldLink RX4 88 "WindPost$Moment" "nets" "I" ∈ wsX4_shareArrived := by decide +kernel
set_option maxRecDepth 20000 in
theorem kX4_shareArrived_102 : Cond.fieldLink RX4 102 "WindPost$Moment" "time" "I" ∈ wsX4_shareArrived := by decide +kernel
set_option maxRecDepth 20000 in
theorem kX4_shareArrived_112 : Cond.fieldLink RX4 112 "WindPost$Moment" "post" "[LWindPost$Letter;" ∈ wsX4_shareArrived := by decide +kernel
set_option maxRecDepth 20000 in
theorem kX4_shareArrived_131 : Cond.fieldLink RX4 131 "WindPost$Letter" "how" "I" ∈ wsX4_shareArrived := by decide +kernel
set_option maxRecDepth 20000 in
theorem uX4_shareArrived_X1 : ∀ w ∈ wsX10, w ∈ wsX4_shareArrived := by decide +kernel
set_option maxRecDepth 20000 in
theorem uX4_shareArrived_X2 : ∀ w ∈ wsX20, w ∈ wsX4_shareArrived := by decide +kernel
set_option maxRecDepth 20000 in
theorem uX4_shareArrived_X4 : ∀ w ∈ wsX40, w ∈ wsX4_shareArrived := by decide +kernel
set_option maxHeartbeats 8000000 in
set_option maxRecDepth 100000 in
theorem mX4_shareArrived (l : Launch) (D : va_G) (ki : Nat → ClassId) (ad : Nat → Nat) (cs : List Nat) (hcs : kW cs) (N : Nat) (a1 : Int32) (a2 : Int32) (a3 : Int32) (a4 : Int32) (G : zMem) (tr : Int64) : gMetI l D ki ad cs yX4_shareArrived wsX4_shareArrived { frames := 2, cells := 0, slots := 0, locals := 48 } [.ref (ad 0), .int a1, .int a2, .int a3, .int a4] (xE ki ad) G tr (fX4_shareArrived N a1 a2 a3 a4 G tr) := by
  refine gMetI_of (cc := cX4_shareArrived) (maxL := 8) (ret := (some .int)) (own := RX4) (by decide +kernel) rfl rfl (Nat.le_of_ble_eq_true rfl) ?_
  intro r9 G9 tr9 h p e s m below meth c S hr hlk K X ls hl
  have hl : lv_has ls 8 [(0, .ref (ad 0)), (1, .int a1), (2, .int a2), (3, .int a3), (4, .int a4)] := hl
  have b98 : ∀ (k22 : Int32 → Int32 → zMem → Int64 → zR) (hk22 : ∀ (x5 : Int32) (x6 : Int32) (G : zMem) (tr : Int64), k22 x5 x6 G tr = some (r9, G9, tr9) → zAt p l e (headSpec wsX4_shareArrived { frames := 2, cells := 0, slots := 0, locals := 48 }).room s m ([.ref (ad 0), .int a1, .int a2, .int a3, .int a4] : List Value).toArray below meth c 8 D cs ad (zQI below ([.ref (ad 0), .int a1, .int a2, .int a3, .int a4] : List Value).toArray s D cs ad ((xE ki ad) G9 tr9) r9) 22 [(0, .ref (ad 0)), (2, .int a2), (3, .int a3), (4, .int a4), (5, .int x5), (6, .int x6)] [] ((xE ki ad) G tr)) (x5 : Int32) (x6 : Int32) (s0 : Int32) (s1 : Nat) (hs1 : kC cs s1) (G : zMem) (tr : Int64), fX4_shareArrived_b98 N a1 a2 a3 a4 k22 x5 x6 s0 s1 G tr = some (r9, G9, tr9) → zAt p l e (headSpec wsX4_shareArrived { frames := 2, cells := 0, slots := 0, locals := 48 }).room s m ([.ref (ad 0), .int a1, .int a2, .int a3, .int a4] : List Value).toArray below meth c 8 D cs ad (zQI below ([.ref (ad 0), .int a1, .int a2, .int a3, .int a4] : List Value).toArray s D cs ad ((xE ki ad) G9 tr9) r9) 98 [(0, .ref (ad 0)), (2, .int a2), (3, .int a3), (4, .int a4), (5, .int x5), (6, .int x6)] [.int s0, .ref (ad s1), .ref (ad 13)] ((xE ki ad) G tr) := by
    intro k22 hk22 x5 x6 s0 s1 hs1 G tr h H locs ls X hl
    unfold fX4_shareArrived_b98 at h
    refine lv_aload_n S.1 S.2.1 dX4_shareArrived_98 rfl (lv_at hl 0 rfl) ?_
    refine zr_get (v := .ref (ad 18)) S K X (hcs 0 (by decide)) xE_W rfl uX4_shareArrived_X4 3 (by decide) kX4_shareArrived_29 rfl rfl dX4_shareArrived_99 ?_
    refine zr_get (v := .int (G 18 2)) S K X ((kM_now hcs).2 0 (by decide)) (xE_M (kM_now hcs)) rfl uX4_shareArrived_X2 2 (by decide) kX4_shareArrived_88 rfl rfl dX4_shareArrived_102 ?_
    obtain ⟨r_2, G_3, tr_4, hf_1, h⟩ := zbd_some h
    refine zr_callv (Eg := (xE ki ad)) K X (va_runV (As := [.ref (ad s1), .int s0, .int (G 18 2)]) (rest := []) S (mX1_passHour l D ki ad cs hcs N 13 s1 s0 (G 18 2) (kL_13 hcs) hs1 G tr H.size _ _ _ hf_1) (cwV 3 S.2.2.2.2 gX4_shareArrived_X1_passHour rfl rfl rfl (by decide +kernel) ⟨Nat.le_of_ble_eq_true rfl, Nat.le_of_ble_eq_true rfl⟩) (zr_preV (c0 := 13) K X (kL_13 hcs).2 (xE_L (kL_13 hcs)) rfl) rfl rfl hl.1 rfl (lv_room (Nat.le_of_ble_eq_true rfl)) dX4_shareArrived_105 ⟨Nat.zero_le _, Nat.zero_le _⟩) (fun H locs X => ?_)
    refine lv_iinc (v := (x6 + 1)) (lv' := [(6, .int (x6 + 1)), (0, .ref (ad 0)), (2, .int a2), (3, .int a3), (4, .int a4), (5, .int x5)]) S.1 S.2.1 dX4_shareArrived_108 hl (k := 5) rfl rfl (by decide) rfl (fun ls hl => ?_)
    refine lv_goto (tgt := 22) S.1 S.2.1 dX4_shareArrived_111 (by decide) ?_
    exact hk22 x5 (x6 + 1) G_3 tr_4 h _ _ _ X (lv_sub hl [1, 2, 3, 4, 5, 0] rfl)
  have b61 : ∀ (k22 : Int32 → Int32 → zMem → Int64 → zR) (hk22 : ∀ (x5 : Int32) (x6 : Int32) (G : zMem) (tr : Int64), k22 x5 x6 G tr = some (r9, G9, tr9) → zAt p l e (headSpec wsX4_shareArrived { frames := 2, cells := 0, slots := 0, locals := 48 }).room s m ([.ref (ad 0), .int a1, .int a2, .int a3, .int a4] : List Value).toArray below meth c 8 D cs ad (zQI below ([.ref (ad 0), .int a1, .int a2, .int a3, .int a4] : List Value).toArray s D cs ad ((xE ki ad) G9 tr9) r9) 22 [(0, .ref (ad 0)), (2, .int a2), (3, .int a3), (4, .int a4), (5, .int x5), (6, .int x6)] [] ((xE ki ad) G tr)) (x6 : Int32) (x7 : Int32) (s0 : Int32) (s1 : Int32) (G : zMem) (tr : Int64), fX4_shareArrived_b61 N a1 a2 a3 a4 k22 x6 x7 s0 s1 G tr = some (r9, G9, tr9) → zAt p l e (headSpec wsX4_shareArrived { frames := 2, cells := 0, slots := 0, locals := 48 }).room s m ([.ref (ad 0), .int a1, .int a2, .int a3, .int a4] : List Value).toArray below meth c 8 D cs ad (zQI below ([.ref (ad 0), .int a1, .int a2, .int a3, .int a4] : List Value).toArray s D cs ad ((xE ki ad) G9 tr9) r9) 61 [(0, .ref (ad 0)), (2, .int a2), (3, .int a3), (4, .int a4), (6, .int x6), (7, .int x7)] [.int s0, .int s1] ((xE ki ad) G tr) := by
    intro k22 hk22 x6 x7 s0 s1 G tr h H locs ls X hl
    unfold fX4_shareArrived_b61 at h
    refine lv_imul S.1 S.2.1 dX4_shareArrived_61 ?_
    refine lv_istore (lv' := [(5, .int (s1 * s0)), (0, .ref (ad 0)), (2, .int a2), (3, .int a3), (4, .int a4), (6, .int x6), (7, .int x7)]) S.1 S.2.1 dX4_shareArrived_62 hl (by decide) rfl (fun ls hl => ?_)
    refine lv_aload_n S.1 S.2.1 dX4_shareArrived_64 rfl (lv_at hl 1 rfl) ?_
    refine zr_get (v := .ref (ad 13)) S K X (hcs 0 (by decide)) xE_W rfl uX4_shareArrived_X4 9 (by decide) kX4_shareArrived_47 rfl rfl dX4_shareArrived_65 ?_
    refine lv_aload_n S.1 S.2.1 dX4_shareArrived_68 rfl (lv_at hl 1 rfl) ?_
    obtain ⟨hq_1, h⟩ := zch_some h
    refine zr_get (v := .ref (ad (G 0 1).toNatClampNeg)) S K X (hcs 0 (by decide)) xE_W rfl uX4_shareArrived_X4 1 (by decide) kX4_shareArrived_19 rfl rfl dX4_shareArrived_69 ?_
    refine lv_iload S.1 S.2.1 dX4_shareArrived_72 (lv_at hl 6 rfl) ?_
    refine lv_if_eq (tgt := 81) S.1 S.2.1 dX4_shareArrived_74 (by decide) (fun hc_2 => ?_) (fun hc_2 => ?_)
    · have h := zif_pos hc_2 h
      refine lv_aload_n S.1 S.2.1 dX4_shareArrived_81 rfl (lv_at hl 1 rfl) ?_
      refine zr_get (v := .ref (ad 18)) S K X (hcs 0 (by decide)) xE_W rfl uX4_shareArrived_X4 3 (by decide) kX4_shareArrived_29 rfl rfl dX4_shareArrived_82 ?_
      refine lv_aload_n S.1 S.2.1 dX4_shareArrived_85 rfl (lv_at hl 1 rfl) ?_
      refine zr_get (v := .ref (ad 18)) S K X (hcs 0 (by decide)) xE_W rfl uX4_shareArrived_X4 3 (by decide) kX4_shareArrived_29 rfl rfl dX4_shareArrived_86 ?_
      refine zr_get (v := .int (G 18 0)) S K X ((kM_now hcs).2 0 (by decide)) (xE_M (kM_now hcs)) rfl uX4_shareArrived_X2 0 (by decide) kX4_shareArrived_102 rfl rfl dX4_shareArrived_89 ?_
      refine lv_iload S.1 S.2.1 dX4_shareArrived_92 (lv_at hl 5 rfl) ?_
      refine lv_iadd S.1 S.2.1 dX4_shareArrived_94 ?_
      obtain ⟨r_4, G_5, tr_6, hf_3, h⟩ := zbd_some h
      refine zr_calli (Eg := (xE ki ad)) K X (va_runV (As := [.int ((G 18 0) + x6)]) (rest := [.ref (ad (G 0 1).toNatClampNeg), .ref (ad 13)]) S (mX2_windOf l D ki ad cs hcs N 18 ((G 18 0) + x6) (kM_now hcs) G tr H.size _ _ _ hf_3) (cwV 1 S.2.2.2.2 gX4_shareArrived_X2_windOf rfl rfl rfl (by decide +kernel) ⟨Nat.le_of_ble_eq_true rfl, Nat.le_of_ble_eq_true rfl⟩) (zr_preV (c0 := 18) K X ((kM_now hcs).2 0 (by decide)) (xE_M (kM_now hcs)) rfl) rfl rfl hl.1 rfl (lv_room (Nat.le_of_ble_eq_true rfl)) dX4_shareArrived_95 ⟨Nat.zero_le _, Nat.zero_le _⟩) (fun H locs X => ?_)
      exact b98 k22 hk22 (s1 * s0) x6 r_4 (G 0 1).toNatClampNeg (kC_of hcs hq_1) G_5 tr_6 h _ _ _ X (lv_sub hl [1, 2, 3, 4, 0, 5] rfl)
    · have h := zif_neg hc_2 h
      refine lv_iconst (v := (4 : Int32)) S.1 S.2.1 dX4_shareArrived_77 (by decide) ?_
      refine lv_goto (tgt := 98) S.1 S.2.1 dX4_shareArrived_78 (by decide) ?_
      exact b98 k22 hk22 (s1 * s0) x6 (4 : Int32) (G 0 1).toNatClampNeg (kC_of hcs hq_1) G tr h _ _ _ X (lv_sub hl [1, 2, 3, 4, 0, 5] rfl)
  have b44 : ∀ (k22 : Int32 → Int32 → zMem → Int64 → zR) (hk22 : ∀ (x5 : Int32) (x6 : Int32) (G : zMem) (tr : Int64), k22 x5 x6 G tr = some (r9, G9, tr9) → zAt p l e (headSpec wsX4_shareArrived { frames := 2, cells := 0, slots := 0, locals := 48 }).room s m ([.ref (ad 0), .int a1, .int a2, .int a3, .int a4] : List Value).toArray below meth c 8 D cs ad (zQI below ([.ref (ad 0), .int a1, .int a2, .int a3, .int a4] : List Value).toArray s D cs ad ((xE ki ad) G9 tr9) r9) 22 [(0, .ref (ad 0)), (2, .int a2), (3, .int a3), (4, .int a4), (5, .int x5), (6, .int x6)] [] ((xE ki ad) G tr)) (x5 : Int32) (x6 : Int32) (s0 : Int32) (G : zMem) (tr : Int64), fX4_shareArrived_b44 N a1 a2 a3 a4 k22 x5 x6 s0 G tr = some (r9, G9, tr9) → zAt p l e (headSpec wsX4_shareArrived { frames := 2, cells := 0, slots := 0, locals := 48 }).room s m ([.ref (ad 0), .int a1, .int a2, .int a3, .int a4] : List Value).toArray below meth c 8 D cs ad (zQI below ([.ref (ad 0), .int a1, .int a2, .int a3, .int a4] : List Value).toArray s D cs ad ((xE ki ad) G9 tr9) r9) 44 [(0, .ref (ad 0)), (2, .int a2), (3, .int a3), (4, .int a4), (5, .int x5), (6, .int x6)] [.int s0] ((xE ki ad) G tr) := by
    intro k22 hk22 x5 x6 s0 G tr h H locs ls X hl
    unfold fX4_shareArrived_b44 at h
    refine lv_istore (lv' := [(7, .int s0), (0, .ref (ad 0)), (2, .int a2), (3, .int a3), (4, .int a4), (5, .int x5), (6, .int x6)]) S.1 S.2.1 dX4_shareArrived_44 hl (by decide) rfl (fun ls hl => ?_)
    refine lv_iload S.1 S.2.1 dX4_shareArrived_46 (lv_at hl 5 rfl) ?_
    refine lv_iload S.1 S.2.1 dX4_shareArrived_48 (lv_at hl 0 rfl) ?_
    refine lv_if_eq (tgt := 57) S.1 S.2.1 dX4_shareArrived_50 (by decide) (fun hc_1 => ?_) (fun hc_1 => ?_)
    · have h := zif_pos hc_1 h
      refine lv_bipush (v := (10 : Int32)) S.1 S.2.1 dX4_shareArrived_57 (by decide) ?_
      refine lv_iload_n S.1 S.2.1 dX4_shareArrived_59 rfl (lv_at hl 2 rfl) ?_
      refine lv_isub S.1 S.2.1 dX4_shareArrived_60 ?_
      exact b61 k22 hk22 x6 s0 ((10 : Int32) - a2) x5 G tr h _ _ _ X (lv_sub hl [1, 2, 3, 4, 6, 0] rfl)
    · have h := zif_neg hc_1 h
      refine lv_iload_n S.1 S.2.1 dX4_shareArrived_53 rfl (lv_at hl 2 rfl) ?_
      refine lv_goto (tgt := 61) S.1 S.2.1 dX4_shareArrived_54 (by decide) ?_
      exact b61 k22 hk22 x6 s0 a2 x5 G tr h _ _ _ X (lv_sub hl [1, 2, 3, 4, 6, 0] rfl)
  have b22 : ∀ (k22 : Int32 → Int32 → zMem → Int64 → zR) (hk22 : ∀ (x5 : Int32) (x6 : Int32) (G : zMem) (tr : Int64), k22 x5 x6 G tr = some (r9, G9, tr9) → zAt p l e (headSpec wsX4_shareArrived { frames := 2, cells := 0, slots := 0, locals := 48 }).room s m ([.ref (ad 0), .int a1, .int a2, .int a3, .int a4] : List Value).toArray below meth c 8 D cs ad (zQI below ([.ref (ad 0), .int a1, .int a2, .int a3, .int a4] : List Value).toArray s D cs ad ((xE ki ad) G9 tr9) r9) 22 [(0, .ref (ad 0)), (2, .int a2), (3, .int a3), (4, .int a4), (5, .int x5), (6, .int x6)] [] ((xE ki ad) G tr)) (x5 : Int32) (x6 : Int32) (G : zMem) (tr : Int64), fX4_shareArrived_b22 N a1 a2 a3 a4 k22 x5 x6 G tr = some (r9, G9, tr9) → zAt p l e (headSpec wsX4_shareArrived { frames := 2, cells := 0, slots := 0, locals := 48 }).room s m ([.ref (ad 0), .int a1, .int a2, .int a3, .int a4] : List Value).toArray below meth c 8 D cs ad (zQI below ([.ref (ad 0), .int a1, .int a2, .int a3, .int a4] : List Value).toArray s D cs ad ((xE ki ad) G9 tr9) r9) 22 [(0, .ref (ad 0)), (2, .int a2), (3, .int a3), (4, .int a4), (5, .int x5), (6, .int x6)] [] ((xE ki ad) G tr) := by
    intro k22 hk22 x5 x6 G tr h H locs ls X hl
    unfold fX4_shareArrived_b22 at h
    refine lv_iload S.1 S.2.1 dX4_shareArrived_22 (lv_at hl 5 rfl) ?_
    refine lv_iload_n S.1 S.2.1 dX4_shareArrived_24 rfl (lv_at hl 2 rfl) ?_
    refine lv_icmp_ge (tgt := 114) S.1 S.2.1 dX4_shareArrived_25 (by decide) (fun hc_1 => ?_) (fun hc_1 => ?_)
    · have h := zif_pos hc_1 h
      refine lv_aload_n S.1 S.2.1 dX4_shareArrived_114 rfl (lv_at hl 0 rfl) ?_
      refine zr_get (v := .ref (ad 13)) S K X (hcs 0 (by decide)) xE_W rfl uX4_shareArrived_X4 9 (by decide) kX4_shareArrived_47 rfl rfl dX4_shareArrived_115 ?_
      refine zr_get (v := .int (G 13 5)) S K X (kL_13 hcs).2 (xE_L (kL_13 hcs)) rfl uX4_shareArrived_X1 5 (by decide) kX4_shareArrived_131 rfl rfl dX4_shareArrived_118 ?_
      refine lv_iconst (v := (1 : Int32)) S.1 S.2.1 dX4_shareArrived_121 (by decide) ?_
      refine lv_icmp_ne (tgt := 130) S.1 S.2.1 dX4_shareArrived_122 (by decide) (fun hc_2 => ?_) (fun hc_2 => ?_)
      · have h := zif_neg hc_2 h
        refine lv_iconst (v := (0 : Int32)) S.1 S.2.1 dX4_shareArrived_130 (by decide) ?_
        exact zr_iret S hr hlk X h dX4_shareArrived_131
      · have h := zif_pos hc_2 h
        refine lv_iload S.1 S.2.1 dX4_shareArrived_125 (lv_at hl 4 rfl) ?_
        refine lv_goto (tgt := 131) S.1 S.2.1 dX4_shareArrived_127 (by decide) ?_
        exact zr_iret S hr hlk X h dX4_shareArrived_131
    · have h := zif_neg hc_1 h
      refine lv_iload S.1 S.2.1 dX4_shareArrived_28 (lv_at hl 3 rfl) ?_
      refine lv_iload S.1 S.2.1 dX4_shareArrived_30 (lv_at hl 5 rfl) ?_
      obtain ⟨r_4, hf_3, h⟩ := zbp_some h
      refine zr_calli (Eg := (xE ki ad)) (G' := G) (tr' := tr) K X (va_runS (As := [.int a4, .int x6]) (rest := []) S (mX4_bitOf l D ki ad cs N a4 x6 (xE ki ad) G tr H.size _ _ _ (zpu_of hf_3)) (va_cwS 2 S.2.2.2.2 gX4_shareArrived_X4_bitOf rfl rfl rfl (by decide +kernel) ⟨Nat.le_of_ble_eq_true rfl, Nat.le_of_ble_eq_true rfl⟩) (zr_pre K X) rfl rfl hl.1 rfl (lv_room (Nat.le_of_ble_eq_true rfl)) dX4_shareArrived_32 ⟨Nat.zero_le _, Nat.zero_le _⟩) (fun H locs X => ?_)
      refine lv_iconst (v := (1 : Int32)) S.1 S.2.1 dX4_shareArrived_35 (by decide) ?_
      refine lv_icmp_ne (tgt := 43) S.1 S.2.1 dX4_shareArrived_36 (by decide) (fun hc_5 => ?_) (fun hc_5 => ?_)
      · have h := zif_neg hc_5 h
        refine lv_iconst (v := (0 : Int32)) S.1 S.2.1 dX4_shareArrived_43 (by decide) ?_
        exact b44 k22 hk22 x5 x6 (0 : Int32) G tr h _ _ _ X (lv_sub hl [0, 1, 2, 3, 4, 5] rfl)
      · have h := zif_pos hc_5 h
        refine lv_iconst (v := (1 : Int32)) S.1 S.2.1 dX4_shareArrived_39 (by decide) ?_
        refine lv_goto (tgt := 44) S.1 S.2.1 dX4_shareArrived_40 (by decide) ?_
        exact b44 k22 hk22 x5 x6 (1 : Int32) G tr h _ _ _ X (lv_sub hl [0, 1, 2, 3, 4, 5] rfl)
  have L22 : ∀ (n : Nat) (x5 : Int32) (x6 : Int32) (G : zMem) (tr : Int64), fX4_shareArrived_L22 N a1 a2 a3 a4 n x5 x6 G tr = some (r9, G9, tr9) → zAt p l e (headSpec wsX4_shareArrived { frames := 2, cells := 0, slots := 0, locals := 48 }).room s m ([.ref (ad 0), .int a1, .int a2, .int a3, .int a4] : List Value).toArray below meth c 8 D cs ad (zQI below ([.ref (ad 0), .int a1, .int a2, .int a3, .int a4] : List Value).toArray s D cs ad ((xE ki ad) G9 tr9) r9) 22 [(0, .ref (ad 0)), (2, .int a2), (3, .int a3), (4, .int a4), (5, .int x5), (6, .int x6)] [] ((xE ki ad) G tr) := by
    intro n
    induction n with
    | zero => intro x5 x6 G tr h; cases h
    | succ n ih => intro x5 x6 G tr h; exact b22 (fX4_shareArrived_L22 N a1 a2 a3 a4 n) ih x5 x6 G tr h
  unfold fX4_shareArrived at h
  obtain ⟨H, hH⟩ : ∃ H, H = s.heap := ⟨_, rfl⟩
  obtain ⟨locs, hlo⟩ : ∃ locs : List Loc, locs = [] := ⟨_, rfl⟩
  have X : gS D cs ad ((xE ki ad) G tr) (gA cs ad s.heap.size) s H locs := by rw [hH, hlo]; exact X
  suffices z : W p l e (headSpec wsX4_shareArrived { frames := 2, cells := 0, slots := 0, locals := 48 }).room s m ([.ref (ad 0), .int a1, .int a2, .int a3, .int a4] : List Value).toArray below meth c H locs 0 0 (zQI below ([.ref (ad 0), .int a1, .int a2, .int a3, .int a4] : List Value).toArray s D cs ad ((xE ki ad) G9 tr9) r9) (F0 m 0 ls []) by rw [hH, hlo] at z; exact z
  clear hH hlo
  refine lv_aload_n S.1 S.2.1 dX4_shareArrived_0 rfl (lv_at hl 0 rfl) ?_
  refine zr_get (v := .ref (ad 13)) S K X (hcs 0 (by decide)) xE_W rfl uX4_shareArrived_X4 9 (by decide) kX4_shareArrived_47 rfl rfl dX4_shareArrived_1 ?_
  refine lv_aload_n S.1 S.2.1 dX4_shareArrived_4 rfl (lv_at hl 0 rfl) ?_
  refine zr_get (v := .ref (ad 18)) S K X (hcs 0 (by decide)) xE_W rfl uX4_shareArrived_X4 3 (by decide) kX4_shareArrived_29 rfl rfl dX4_shareArrived_5 ?_
  refine zr_get (v := .ref (ad 20)) S K X ((kM_now hcs).2 0 (by decide)) (xE_M (kM_now hcs)) rfl uX4_shareArrived_X2 5 (by decide) kX4_shareArrived_112 rfl rfl dX4_shareArrived_8 ?_
  refine lv_iload_n S.1 S.2.1 dX4_shareArrived_11 rfl (lv_at hl 1 rfl) ?_
  obtain ⟨hi_1, h⟩ := zin_some h
  refine zr_aald (f := (fun j => 21 + j)) (t0 := 2) (C := "WindPost$Letter") S K X ((kM_now hcs).2 2 (by decide)) (xE_M2 (kM_now hcs)) rfl hi_1 dX4_shareArrived_12 ?_
  obtain ⟨r_3, G_4, tr_5, hf_2, h⟩ := zbd_some h
  refine zr_callv (Eg := (xE ki ad)) K X (va_runV (As := [.ref (ad (21 + (Int32.toNatClampNeg a1)))]) (rest := []) S (mX1_copyFrom l D ki ad cs hcs N 13 (21 + (Int32.toNatClampNeg a1)) (kL_13 hcs) (kL_now hcs hi_1) G tr H.size _ _ _ hf_2) (cwV 1 S.2.2.2.2 gX4_shareArrived_X1_copyFrom rfl rfl rfl (by decide +kernel) ⟨Nat.le_of_ble_eq_true rfl, Nat.le_of_ble_eq_true rfl⟩) (zr_preV (c0 := 13) K X (kL_13 hcs).2 (xE_L (kL_13 hcs)) rfl) rfl rfl hl.1 rfl (lv_room (Nat.le_of_ble_eq_true rfl)) dX4_shareArrived_13 ⟨Nat.zero_le _, Nat.zero_le _⟩) (fun H locs X => ?_)
  refine lv_iconst (v := (1 : Int32)) S.1 S.2.1 dX4_shareArrived_16 (by decide) ?_
  refine lv_istore (lv' := [(5, .int (1 : Int32)), (0, .ref (ad 0)), (1, .int a1), (2, .int a2), (3, .int a3), (4, .int a4)]) S.1 S.2.1 dX4_shareArrived_17 hl (by decide) rfl (fun ls hl => ?_)
  refine lv_iconst (v := (0 : Int32)) S.1 S.2.1 dX4_shareArrived_19 (by decide) ?_
  refine lv_istore (lv' := [(6, .int (0 : Int32)), (5, .int (1 : Int32)), (0, .ref (ad 0)), (1, .int a1), (2, .int a2), (3, .int a3), (4, .int a4)]) S.1 S.2.1 dX4_shareArrived_20 hl (by decide) rfl (fun ls hl => ?_)
  exact L22 N (1 : Int32) (0 : Int32) G_4 tr_5 h _ _ _ X (lv_sub hl [2, 4, 5, 6, 1, 0] rfl)
set_option maxRecDepth 20000 in
theorem ggX4_odds_X4_isLetter : GoodIn wsX4_odds wsX4_isLetter := goodIn_r _ [5, 6, 7, 8, 9, 4, 10, 65, 66, 67, 68, 69, 70, 71, 72, 73, 74, 75, 76, 77, 78, 79, 80, 81, 82] (by decide +kernel) (by decide +kernel)
set_option maxRecDepth 20000 in
theorem gX4_odds_X4_isLetter : GoodIn wsX4_odds (wsV RX4 109 RX4 yX4_isLetter wsX4_isLetter) := goodIn_app (goodIn_of _ (by decide +kernel)) ggX4_odds_X4_isLetter
set_option maxRecDepth 20000 in
theorem ggX4_odds_X4_isWithin : GoodIn wsX4_odds wsX4_isWithin := goodIn_r _ [10] (by decide +kernel) (by decide +kernel)
set_option maxRecDepth 20000 in
theorem gX4_odds_X4_isWithin : GoodIn wsX4_odds (va_wsS RX4 54 yX4_isWithin wsX4_isWithin) := goodIn_app (goodIn_of _ (by decide +kernel)) ggX4_odds_X4_isWithin
set_option maxRecDepth 20000 in
theorem ggX4_odds_X4_shareArrived : GoodIn wsX4_odds wsX4_shareArrived := goodIn_r _ [14, 15, 6, 16, 17, 18, 19, 20, 21, 22, 23, 24, 25, 26, 27, 28, 29, 30, 31, 32, 33, 34, 4, 35, 36, 37, 38, 39, 40, 41, 42, 43, 44, 45, 46, 47, 48, 49, 50, 51, 52, 53, 54, 55, 56, 57, 58, 59, 60, 61, 65, 66, 67, 68, 69, 70, 71, 72, 73, 74, 75, 76, 77, 78, 79, 80, 81, 82, 83, 84, 85, 86, 87, 88, 89, 90, 91, 92, 93, 94, 95, 96, 97, 98, 99] (by decide +kernel) (by decide +kernel)
set_option maxRecDepth 20000 in
theorem gX4_odds_X4_shareArrived : GoodIn wsX4_odds (wsV RX4 216 RX4 yX4_shareArrived wsX4_shareArrived) := goodIn_app (goodIn_of _ (by decide +kernel)) ggX4_odds_X4_shareArrived
set_option maxRecDepth 20000 in
theorem ggX4_odds_X4_commonDivisor : GoodIn wsX4_odds wsX4_commonDivisor := goodIn_r _ [64] (by decide +kernel) (by decide +kernel)
set_option maxRecDepth 20000 in
theorem gX4_odds_X4_commonDivisor : GoodIn wsX4_odds (va_wsS RX4 220 yX4_commonDivisor wsX4_commonDivisor) := goodIn_app (goodIn_of _ (by decide +kernel)) ggX4_odds_X4_commonDivisor
theorem dX4_odds_0 : decode cX4_odds 0 = .ok (.aload_n 0, 1) := by decide +kernel
theorem dX4_odds_1 : decode cX4_odds 1 = .ok (.iload_n 1, 1) := by decide +kernel
theorem dX4_odds_2 : decode cX4_odds 2 = .ok (.invokevirtual 109, 3) := by decide +kernel
theorem dX4_odds_5 : decode cX4_odds 5 = .ok (.ifCond .eq 13, 3) := by decide +kernel
theorem dX4_odds_8 : decode cX4_odds 8 = .ok (.iload_n 2, 1) := by decide +kernel
theorem dX4_odds_9 : decode cX4_odds 9 = .ok (.iconst 0, 1) := by decide +kernel
theorem dX4_odds_10 : decode cX4_odds 10 = .ok (.bipush 10, 2) := by decide +kernel
theorem dX4_odds_12 : decode cX4_odds 12 = .ok (.invokestatic 54, 3) := by decide +kernel
theorem dX4_odds_15 : decode cX4_odds 15 = .ok (.ifCond .ne 5, 3) := by decide +kernel
theorem dX4_odds_18 : decode cX4_odds 18 = .ok (.iconst (-1), 1) := by decide +kernel
theorem dX4_odds_19 : decode cX4_odds 19 = .ok (.ireturn, 1) := by decide +kernel
theorem dX4_odds_20 : decode cX4_odds 20 = .ok (.iload_n 3, 1) := by decide +kernel
theorem dX4_odds_21 : decode cX4_odds 21 = .ok (.iconst 0, 1) := by decide +kernel
theorem dX4_odds_22 : decode cX4_odds 22 = .ok (.bipush 6, 2) := by decide +kernel
theorem dX4_odds_24 : decode cX4_odds 24 = .ok (.invokestatic 54, 3) := by decide +kernel
theorem dX4_odds_27 : decode cX4_odds 27 = .ok (.ifCond .eq 13, 3) := by decide +kernel
theorem dX4_odds_30 : decode cX4_odds 30 = .ok (.iload 4, 2) := by decide +kernel
theorem dX4_odds_32 : decode cX4_odds 32 = .ok (.iconst 0, 1) := by decide +kernel
theorem dX4_odds_33 : decode cX4_odds 33 = .ok (.iconst 1, 1) := by decide +kernel
theorem dX4_odds_34 : decode cX4_odds 34 = .ok (.invokestatic 54, 3) := by decide +kernel
theorem dX4_odds_37 : decode cX4_odds 37 = .ok (.ifCond .ne 5, 3) := by decide +kernel
theorem dX4_odds_40 : decode cX4_odds 40 = .ok (.iconst (-1), 1) := by decide +kernel
theorem dX4_odds_41 : decode cX4_odds 41 = .ok (.ireturn, 1) := by decide +kernel
theorem dX4_odds_42 : decode cX4_odds 42 = .ok (.iconst 0, 1) := by decide +kernel
theorem dX4_odds_43 : decode cX4_odds 43 = .ok (.istore 5, 2) := by decide +kernel
theorem dX4_odds_45 : decode cX4_odds 45 = .ok (.iconst 0, 1) := by decide +kernel
theorem dX4_odds_46 : decode cX4_odds 46 = .ok (.istore 6, 2) := by decide +kernel
theorem dX4_odds_48 : decode cX4_odds 48 = .ok (.iload 6, 2) := by decide +kernel
theorem dX4_odds_50 : decode cX4_odds 50 = .ok (.iconst 1, 1) := by decide +kernel
theorem dX4_odds_51 : decode cX4_odds 51 = .ok (.iload_n 3, 1) := by decide +kernel
theorem dX4_odds_52 : decode cX4_odds 52 = .ok (.ishl, 1) := by decide +kernel
theorem dX4_odds_53 : decode cX4_odds 53 = .ok (.if_icmp .ge 23, 3) := by decide +kernel
theorem dX4_odds_56 : decode cX4_odds 56 = .ok (.iload 5, 2) := by decide +kernel
theorem dX4_odds_58 : decode cX4_odds 58 = .ok (.aload_n 0, 1) := by decide +kernel
theorem dX4_odds_59 : decode cX4_odds 59 = .ok (.iload_n 1, 1) := by decide +kernel
theorem dX4_odds_60 : decode cX4_odds 60 = .ok (.iload_n 2, 1) := by decide +kernel
theorem dX4_odds_61 : decode cX4_odds 61 = .ok (.iload_n 3, 1) := by decide +kernel
theorem dX4_odds_62 : decode cX4_odds 62 = .ok (.iload 6, 2) := by decide +kernel
theorem dX4_odds_64 : decode cX4_odds 64 = .ok (.invokevirtual 216, 3) := by decide +kernel
theorem dX4_odds_67 : decode cX4_odds 67 = .ok (.iadd, 1) := by decide +kernel
theorem dX4_odds_68 : decode cX4_odds 68 = .ok (.istore 5, 2) := by decide +kernel
theorem dX4_odds_70 : decode cX4_odds 70 = .ok (.iinc 6 1, 3) := by decide +kernel
theorem dX4_odds_73 : decode cX4_odds 73 = .ok (.goto (-25), 3) := by decide +kernel
theorem dX4_odds_76 : decode cX4_odds 76 = .ok (.iconst 1, 1) := by decide +kernel
theorem dX4_odds_77 : decode cX4_odds 77 = .ok (.istore 6, 2) := by decide +kernel
theorem dX4_odds_79 : decode cX4_odds 79 = .ok (.iconst 0, 1) := by decide +kernel
theorem dX4_odds_80 : decode cX4_odds 80 = .ok (.istore 7, 2) := by decide +kernel
theorem dX4_odds_82 : decode cX4_odds 82 = .ok (.iload 7, 2) := by decide +kernel
theorem dX4_odds_84 : decode cX4_odds 84 = .ok (.iload_n 3, 1) := by decide +kernel
theorem dX4_odds_85 : decode cX4_odds 85 = .ok (.if_icmp .ge 16, 3) := by decide +kernel
theorem dX4_odds_88 : decode cX4_odds 88 = .ok (.iload 6, 2) := by decide +kernel
theorem dX4_odds_90 : decode cX4_odds 90 = .ok (.bipush 10, 2) := by decide +kernel
theorem dX4_odds_92 : decode cX4_odds 92 = .ok (.imul, 1) := by decide +kernel
theorem dX4_odds_93 : decode cX4_odds 93 = .ok (.istore 6, 2) := by decide +kernel
theorem dX4_odds_95 : decode cX4_odds 95 = .ok (.iinc 7 1, 3) := by decide +kernel
theorem dX4_odds_98 : decode cX4_odds 98 = .ok (.goto (-16), 3) := by decide +kernel
theorem dX4_odds_101 : decode cX4_odds 101 = .ok (.iload 5, 2) := by decide +kernel
theorem dX4_odds_103 : decode cX4_odds 103 = .ok (.iload 6, 2) := by decide +kernel
theorem dX4_odds_105 : decode cX4_odds 105 = .ok (.invokestatic 220, 3) := by decide +kernel
theorem dX4_odds_108 : decode cX4_odds 108 = .ok (.istore 7, 2) := by decide +kernel
theorem dX4_odds_110 : decode cX4_odds 110 = .ok (.iload 7, 2) := by decide +kernel
theorem dX4_odds_112 : decode cX4_odds 112 = .ok (.iconst 1, 1) := by decide +kernel
theorem dX4_odds_113 : decode cX4_odds 113 = .ok (.if_icmp .ge 5, 3) := by decide +kernel
theorem dX4_odds_116 : decode cX4_odds 116 = .ok (.iconst (-1), 1) := by decide +kernel
theorem dX4_odds_117 : decode cX4_odds 117 = .ok (.ireturn, 1) := by decide +kernel
theorem dX4_odds_118 : decode cX4_odds 118 = .ok (.iload 4, 2) := by decide +kernel
theorem dX4_odds_120 : decode cX4_odds 120 = .ok (.ifCond .ne 11, 3) := by decide +kernel
theorem dX4_odds_123 : decode cX4_odds 123 = .ok (.iload 5, 2) := by decide +kernel
theorem dX4_odds_125 : decode cX4_odds 125 = .ok (.iload 7, 2) := by decide +kernel
theorem dX4_odds_127 : decode cX4_odds 127 = .ok (.idiv, 1) := by decide +kernel
theorem dX4_odds_128 : decode cX4_odds 128 = .ok (.goto 8, 3) := by decide +kernel
theorem dX4_odds_131 : decode cX4_odds 131 = .ok (.iload 6, 2) := by decide +kernel
theorem dX4_odds_133 : decode cX4_odds 133 = .ok (.iload 7, 2) := by decide +kernel
theorem dX4_odds_135 : decode cX4_odds 135 = .ok (.idiv, 1) := by decide +kernel
theorem dX4_odds_136 : decode cX4_odds 136 = .ok (.ireturn, 1) := by decide +kernel

set_option maxHeartbeats 8000000 in
set_option maxRecDepth 100000 in
theorem mX4_odds (l : Launch) (D : va_G) (ki : Nat → ClassId) (ad : Nat → Nat) (cs : List Nat) (hcs : kW cs) (N : Nat) (a1 : Int32) (a2 : Int32) (a3 : Int32) (a4 : Int32) (G : zMem) (tr : Int64) : gMetI l D ki ad cs yX4_odds wsX4_odds { frames := 3, cells := 0, slots := 0, locals := 75 } [.ref (ad 0), .int a1, .int a2, .int a3, .int a4] (xE ki ad) G tr (fX4_odds N a1 a2 a3 a4 G tr) := by
  refine gMetI_of (cc := cX4_odds) (maxL := 8) (ret := (some .int)) (own := RX4) (by decide +kernel) rfl rfl (Nat.le_of_ble_eq_true rfl) ?_
  intro r9 G9 tr9 h p e s m below meth c S hr hlk K X ls hl
  have hl : lv_has ls 8 [(0, .ref (ad 0)), (1, .int a1), (2, .int a2), (3, .int a3), (4, .int a4)] := hl
  have b82 : ∀ (k82 : Int32 → Int32 → Int32 → zMem → Int64 → zR) (hk82 : ∀ (x5 : Int32) (x6 : Int32) (x7 : Int32) (G : zMem) (tr : Int64), k82 x5 x6 x7 G tr = some (r9, G9, tr9) → zAt p l e (headSpec wsX4_odds { frames := 3, cells := 0, slots := 0, locals := 75 }).room s m ([.ref (ad 0), .int a1, .int a2, .int a3, .int a4] : List Value).toArray below meth c 8 D cs ad (zQI below ([.ref (ad 0), .int a1, .int a2, .int a3, .int a4] : List Value).toArray s D cs ad ((xE ki ad) G9 tr9) r9) 82 [(3, .int a3), (4, .int a4), (5, .int x5), (6, .int x6), (7, .int x7)] [] ((xE ki ad) G tr)) (x5 : Int32) (x6 : Int32) (x7 : Int32) (G : zMem) (tr : Int64), fX4_odds_b82 N a1 a2 a3 a4 k82 x5 x6 x7 G tr = some (r9, G9, tr9) → zAt p l e (headSpec wsX4_odds { frames := 3, cells := 0, slots := 0, locals := 75 }).room s m ([.ref (ad 0), .int a1, .int a2, .int a3, .int a4] : List Value).toArray below meth c 8 D cs ad (zQI below ([.ref (ad 0), .int a1, .int a2, .int a3, .int a4] : List Value).toArray s D cs ad ((xE ki ad) G9 tr9) r9) 82 [(3, .int a3), (4, .int a4), (5, .int x5), (6, .int x6), (7, .int x7)] [] ((xE ki ad) G tr) := by
    intro k82 hk82 x5 x6 x7 G tr h H locs ls X hl
    unfold fX4_odds_b82 at h
    refine lv_iload S.1 S.2.1 dX4_odds_82 (lv_at hl 4 rfl) ?_
    refine lv_iload_n S.1 S.2.1 dX4_odds_84 rfl (lv_at hl 0 rfl) ?_
    refine lv_icmp_ge (tgt := 101) S.1 S.2.1 dX4_odds_85 (by decide) (fun hc_1 => ?_) (fun hc_1 => ?_)
    · have h := zif_pos hc_1 h
      refine lv_iload S.1 S.2.1 dX4_odds_101 (lv_at hl 2 rfl) ?_
      refine lv_iload S.1 S.2.1 dX4_odds_103 (lv_at hl 3 rfl) ?_
      obtain ⟨r_3, hf_2, h⟩ := zbp_some h
      refine zr_calli (Eg := (xE ki ad)) (G' := G) (tr' := tr) K X (va_runS (As := [.int x5, .int x6]) (rest := []) S (mX4_commonDivisor l D ki ad cs N x5 x6 (xE ki ad) G tr H.size _ _ _ (zpu_of hf_2)) (va_cwS 2 S.2.2.2.2 gX4_odds_X4_commonDivisor rfl rfl rfl (by decide +kernel) ⟨Nat.le_of_ble_eq_true rfl, Nat.le_of_ble_eq_true rfl⟩) (zr_pre K X) rfl rfl hl.1 rfl (lv_room (Nat.le_of_ble_eq_true rfl)) dX4_odds_105 ⟨Nat.zero_le _, Nat.zero_le _⟩) (fun H locs X => ?_)
      refine lv_istore (lv' := [(7, .int r_3), (3, .int a3), (4, .int a4), (5, .int x5), (6, .int x6)]) S.1 S.2.1 dX4_odds_108 hl (by decide) rfl (fun ls hl => ?_)
      refine lv_iload S.1 S.2.1 dX4_odds_110 (lv_at hl 0 rfl) ?_
      refine lv_iconst (v := (1 : Int32)) S.1 S.2.1 dX4_odds_112 (by decide) ?_
      refine lv_icmp_ge (tgt := 118) S.1 S.2.1 dX4_odds_113 (by decide) (fun hc_4 => ?_) (fun hc_4 => ?_)
      · have h := zif_pos hc_4 h
        refine lv_iload S.1 S.2.1 dX4_odds_118 (lv_at hl 2 rfl) ?_
        refine lv_if_ne (tgt := 131) S.1 S.2.1 dX4_odds_120 (by decide) (fun hc_5 => ?_) (fun hc_5 => ?_)
        · have h := zif_neg hc_5 h
          refine lv_iload S.1 S.2.1 dX4_odds_131 (lv_at hl 4 rfl) ?_
          refine lv_iload S.1 S.2.1 dX4_odds_133 (lv_at hl 0 rfl) ?_
          obtain ⟨hz_6, h⟩ := zdv_some h
          refine lv_idiv S.1 S.2.1 dX4_odds_135 hz_6 ?_
          exact zr_iret S hr hlk X h dX4_odds_136
        · have h := zif_pos hc_5 h
          refine lv_iload S.1 S.2.1 dX4_odds_123 (lv_at hl 3 rfl) ?_
          refine lv_iload S.1 S.2.1 dX4_odds_125 (lv_at hl 0 rfl) ?_
          obtain ⟨hz_7, h⟩ := zdv_some h
          refine lv_idiv S.1 S.2.1 dX4_odds_127 hz_7 ?_
          refine lv_goto (tgt := 136) S.1 S.2.1 dX4_odds_128 (by decide) ?_
          exact zr_iret S hr hlk X h dX4_odds_136
      · have h := zif_neg hc_4 h
        refine lv_iconst (v := (-1 : Int32)) S.1 S.2.1 dX4_odds_116 (by decide) ?_
        exact zr_iret S hr hlk X h dX4_odds_117
    · have h := zif_neg hc_1 h
      refine lv_iload S.1 S.2.1 dX4_odds_88 (lv_at hl 3 rfl) ?_
      refine lv_bipush (v := (10 : Int32)) S.1 S.2.1 dX4_odds_90 (by decide) ?_
      refine lv_imul S.1 S.2.1 dX4_odds_92 ?_
      refine lv_istore (lv' := [(6, .int (x6 * (10 : Int32))), (3, .int a3), (4, .int a4), (5, .int x5), (7, .int x7)]) S.1 S.2.1 dX4_odds_93 hl (by decide) rfl (fun ls hl => ?_)
      refine lv_iinc (v := (x7 + 1)) (lv' := [(7, .int (x7 + 1)), (6, .int (x6 * (10 : Int32))), (3, .int a3), (4, .int a4), (5, .int x5)]) S.1 S.2.1 dX4_odds_95 hl (k := 4) rfl rfl (by decide) rfl (fun ls hl => ?_)
      refine lv_goto (tgt := 82) S.1 S.2.1 dX4_odds_98 (by decide) ?_
      exact hk82 x5 (x6 * (10 : Int32)) (x7 + 1) G tr h _ _ _ X (lv_sub hl [2, 3, 4, 1, 0] rfl)
  have L82 : ∀ (n : Nat) (x5 : Int32) (x6 : Int32) (x7 : Int32) (G : zMem) (tr : Int64), fX4_odds_L82 N a1 a2 a3 a4 n x5 x6 x7 G tr = some (r9, G9, tr9) → zAt p l e (headSpec wsX4_odds { frames := 3, cells := 0, slots := 0, locals := 75 }).room s m ([.ref (ad 0), .int a1, .int a2, .int a3, .int a4] : List Value).toArray below meth c 8 D cs ad (zQI below ([.ref (ad 0), .int a1, .int a2, .int a3, .int a4] : List Value).toArray s D cs ad ((xE ki ad) G9 tr9) r9) 82 [(3, .int a3), (4, .int a4), (5, .int x5), (6, .int x6), (7, .int x7)] [] ((xE ki ad) G tr) := by
    intro n
    induction n with
    | zero => intro x5 x6 x7 G tr h; cases h
    | succ n ih => intro x5 x6 x7 G tr h; exact b82 (fX4_odds_L82 N a1 a2 a3 a4 n) ih x5 x6 x7 G tr h
  have b48 : ∀ (k48 : Int32 → Int32 → zMem → Int64 → zR) (hk48 : ∀ (x5 : Int32) (x6 : Int32) (G : zMem) (tr : Int64), k48 x5 x6 G tr = some (r9, G9, tr9) → zAt p l e (headSpec wsX4_odds { frames := 3, cells := 0, slots := 0, locals := 75 }).room s m ([.ref (ad 0), .int a1, .int a2, .int a3, .int a4] : List Value).toArray below meth c 8 D cs ad (zQI below ([.ref (ad 0), .int a1, .int a2, .int a3, .int a4] : List Value).toArray s D cs ad ((xE ki ad) G9 tr9) r9) 48 [(0, .ref (ad 0)), (1, .int a1), (2, .int a2), (3, .int a3), (4, .int a4), (5, .int x5), (6, .int x6)] [] ((xE ki ad) G tr)) (x5 : Int32) (x6 : Int32) (G : zMem) (tr : Int64), fX4_odds_b48 N a1 a2 a3 a4 k48 x5 x6 G tr = some (r9, G9, tr9) → zAt p l e (headSpec wsX4_odds { frames := 3, cells := 0, slots := 0, locals := 75 }).room s m ([.ref (ad 0), .int a1, .int a2, .int a3, .int a4] : List Value).toArray below meth c 8 D cs ad (zQI below ([.ref (ad 0), .int a1, .int a2, .int a3, .int a4] : List Value).toArray s D cs ad ((xE ki ad) G9 tr9) r9) 48 [(0, .ref (ad 0)), (1, .int a1), (2, .int a2), (3, .int a3), (4, .int a4), (5, .int x5), (6, .int x6)] [] ((xE ki ad) G tr) := by
    intro k48 hk48 x5 x6 G tr h H locs ls X hl
    unfold fX4_odds_b48 at h
    refine lv_iload S.1 S.2.1 dX4_odds_48 (lv_at hl 6 rfl) ?_
    refine lv_iconst (v := (1 : Int32)) S.1 S.2.1 dX4_odds_50 (by decide) ?_
    refine lv_iload_n S.1 S.2.1 dX4_odds_51 rfl (lv_at hl 3 rfl) ?_
    refine lv_ishl S.1 S.2.1 dX4_odds_52 ?_
    refine lv_icmp_ge (tgt := 76) S.1 S.2.1 dX4_odds_53 (by decide) (fun hc_1 => ?_) (fun hc_1 => ?_)
    · have h := zif_pos hc_1 h
      refine lv_iconst (v := (1 : Int32)) S.1 S.2.1 dX4_odds_76 (by decide) ?_
      refine lv_istore (lv' := [(6, .int (1 : Int32)), (0, .ref (ad 0)), (1, .int a1), (2, .int a2), (3, .int a3), (4, .int a4), (5, .int x5)]) S.1 S.2.1 dX4_odds_77 hl (by decide) rfl (fun ls hl => ?_)
      refine lv_iconst (v := (0 : Int32)) S.1 S.2.1 dX4_odds_79 (by decide) ?_
      refine lv_istore (lv' := [(7, .int (0 : Int32)), (6, .int (1 : Int32)), (0, .ref (ad 0)), (1, .int a1), (2, .int a2), (3, .int a3), (4, .int a4), (5, .int x5)]) S.1 S.2.1 dX4_odds_80 hl (by decide) rfl (fun ls hl => ?_)
      exact L82 N x5 (1 : Int32) (0 : Int32) G tr h _ _ _ X (lv_sub hl [5, 6, 7, 1, 0] rfl)
    · have h := zif_neg hc_1 h
      refine lv_iload S.1 S.2.1 dX4_odds_56 (lv_at hl 5 rfl) ?_
      refine lv_aload_n S.1 S.2.1 dX4_odds_58 rfl (lv_at hl 0 rfl) ?_
      refine lv_iload_n S.1 S.2.1 dX4_odds_59 rfl (lv_at hl 1 rfl) ?_
      refine lv_iload_n S.1 S.2.1 dX4_odds_60 rfl (lv_at hl 2 rfl) ?_
      refine lv_iload_n S.1 S.2.1 dX4_odds_61 rfl (lv_at hl 3 rfl) ?_
      refine lv_iload S.1 S.2.1 dX4_odds_62 (lv_at hl 6 rfl) ?_
      obtain ⟨r_3, G_4, tr_5, hf_2, h⟩ := zbd_some h
      refine zr_calli (Eg := (xE ki ad)) K X (va_runV (As := [.int a1, .int a2, .int a3, .int x6]) (rest := [.int x5]) S (mX4_shareArrived l D ki ad cs hcs N a1 a2 a3 x6 G tr H.size _ _ _ hf_2) (cwV 4 S.2.2.2.2 gX4_odds_X4_shareArrived rfl rfl rfl (by decide +kernel) ⟨Nat.le_of_ble_eq_true rfl, Nat.le_of_ble_eq_true rfl⟩) (zr_preV (c0 := 0) K X (hcs 0 (by decide)) xE_W rfl) rfl rfl hl.1 rfl (lv_room (Nat.le_of_ble_eq_true rfl)) dX4_odds_64 ⟨Nat.zero_le _, Nat.zero_le _⟩) (fun H locs X => ?_)
      refine lv_iadd S.1 S.2.1 dX4_odds_67 ?_
      refine lv_istore (lv' := [(5, .int (x5 + r_3)), (0, .ref (ad 0)), (1, .int a1), (2, .int a2), (3, .int a3), (4, .int a4), (6, .int x6)]) S.1 S.2.1 dX4_odds_68 hl (by decide) rfl (fun ls hl => ?_)
      refine lv_iinc (v := (x6 + 1)) (lv' := [(6, .int (x6 + 1)), (5, .int (x5 + r_3)), (0, .ref (ad 0)), (1, .int a1), (2, .int a2), (3, .int a3), (4, .int a4)]) S.1 S.2.1 dX4_odds_70 hl (k := 6) rfl rfl (by decide) rfl (fun ls hl => ?_)
      refine lv_goto (tgt := 48) S.1 S.2.1 dX4_odds_73 (by decide) ?_
      exact hk48 (x5 + r_3) (x6 + 1) G_4 tr_5 h _ _ _ X (lv_sub hl [2, 3, 4, 5, 6, 1, 0] rfl)
  have L48 : ∀ (n : Nat) (x5 : Int32) (x6 : Int32) (G : zMem) (tr : Int64), fX4_odds_L48 N a1 a2 a3 a4 n x5 x6 G tr = some (r9, G9, tr9) → zAt p l e (headSpec wsX4_odds { frames := 3, cells := 0, slots := 0, locals := 75 }).room s m ([.ref (ad 0), .int a1, .int a2, .int a3, .int a4] : List Value).toArray below meth c 8 D cs ad (zQI below ([.ref (ad 0), .int a1, .int a2, .int a3, .int a4] : List Value).toArray s D cs ad ((xE ki ad) G9 tr9) r9) 48 [(0, .ref (ad 0)), (1, .int a1), (2, .int a2), (3, .int a3), (4, .int a4), (5, .int x5), (6, .int x6)] [] ((xE ki ad) G tr) := by
    intro n
    induction n with
    | zero => intro x5 x6 G tr h; cases h
    | succ n ih => intro x5 x6 G tr h; exact b48 (fX4_odds_L48 N a1 a2 a3 a4 n) ih x5 x6 G tr h
  unfold fX4_odds at h
  obtain ⟨H, hH⟩ : ∃ H, H = s.heap := ⟨_, rfl⟩
  obtain ⟨locs, hlo⟩ : ∃ locs : List Loc, locs = [] := ⟨_, rfl⟩
  have X : gS D cs ad ((xE ki ad) G tr) (gA cs ad s.heap.size) s H locs := by rw [hH, hlo]; exact X
  suffices z : W p l e (headSpec wsX4_odds { frames := 3, cells := 0, slots := 0, locals := 75 }).room s m ([.ref (ad 0), .int a1, .int a2, .int a3, .int a4] : List Value).toArray below meth c H locs 0 0 (zQI below ([.ref (ad 0), .int a1, .int a2, .int a3, .int a4] : List Value).toArray s D cs ad ((xE ki ad) G9 tr9) r9) (F0 m 0 ls []) by rw [hH, hlo] at z; exact z
  clear hH hlo
  refine lv_aload_n S.1 S.2.1 dX4_odds_0 rfl (lv_at hl 0 rfl) ?_
  refine lv_iload_n S.1 S.2.1 dX4_odds_1 rfl (lv_at hl 1 rfl) ?_
  obtain ⟨r_2, G_3, tr_4, hf_1, h⟩ := zbd_some h
  refine zr_calli (Eg := (xE ki ad)) K X (va_runV (As := [.int a1]) (rest := []) S (mX4_isLetter l D ki ad cs hcs N a1 G tr H.size _ _ _ hf_1) (cwV 1 S.2.2.2.2 gX4_odds_X4_isLetter rfl rfl rfl (by decide +kernel) ⟨Nat.le_of_ble_eq_true rfl, Nat.le_of_ble_eq_true rfl⟩) (zr_preV (c0 := 0) K X (hcs 0 (by decide)) xE_W rfl) rfl rfl hl.1 rfl (lv_room (Nat.le_of_ble_eq_true rfl)) dX4_odds_2 ⟨Nat.zero_le _, Nat.zero_le _⟩) (fun H locs X => ?_)
  refine lv_if_eq (tgt := 18) S.1 S.2.1 dX4_odds_5 (by decide) (fun hc_5 => ?_) (fun hc_5 => ?_)
  · have h := zif_pos hc_5 h
    refine lv_iconst (v := (-1 : Int32)) S.1 S.2.1 dX4_odds_18 (by decide) ?_
    exact zr_iret S hr hlk X h dX4_odds_19
  · have h := zif_neg hc_5 h
    refine lv_iload_n S.1 S.2.1 dX4_odds_8 rfl (lv_at hl 2 rfl) ?_
    refine lv_iconst (v := (0 : Int32)) S.1 S.2.1 dX4_odds_9 (by decide) ?_
    refine lv_bipush (v := (10 : Int32)) S.1 S.2.1 dX4_odds_10 (by decide) ?_
    obtain ⟨r_7, hf_6, h⟩ := zbp_some h
    refine zr_calli (Eg := (xE ki ad)) (G' := G_3) (tr' := tr_4) K X (va_runS (As := [.int a2, .int (0 : Int32), .int (10 : Int32)]) (rest := []) S (mX4_isWithin l D ki ad cs N a2 (0 : Int32) (10 : Int32) (xE ki ad) G_3 tr_4 H.size _ _ _ (zpu_of hf_6)) (va_cwS 3 S.2.2.2.2 gX4_odds_X4_isWithin rfl rfl rfl (by decide +kernel) ⟨Nat.le_of_ble_eq_true rfl, Nat.le_of_ble_eq_true rfl⟩) (zr_pre K X) rfl rfl hl.1 rfl (lv_room (Nat.le_of_ble_eq_true rfl)) dX4_odds_12 ⟨Nat.zero_le _, Nat.zero_le _⟩) (fun H locs X => ?_)
    refine lv_if_ne (tgt := 20) S.1 S.2.1 dX4_odds_15 (by decide) (fun hc_8 => ?_) (fun hc_8 => ?_)
    · have h := zif_neg hc_8 h
      refine lv_iload_n S.1 S.2.1 dX4_odds_20 rfl (lv_at hl 3 rfl) ?_
      refine lv_iconst (v := (0 : Int32)) S.1 S.2.1 dX4_odds_21 (by decide) ?_
      refine lv_bipush (v := (6 : Int32)) S.1 S.2.1 dX4_odds_22 (by decide) ?_
      obtain ⟨r_10, hf_9, h⟩ := zbp_some h
      refine zr_calli (Eg := (xE ki ad)) (G' := G_3) (tr' := tr_4) K X (va_runS (As := [.int a3, .int (0 : Int32), .int (6 : Int32)]) (rest := []) S (mX4_isWithin l D ki ad cs N a3 (0 : Int32) (6 : Int32) (xE ki ad) G_3 tr_4 H.size _ _ _ (zpu_of hf_9)) (va_cwS 3 S.2.2.2.2 gX4_odds_X4_isWithin rfl rfl rfl (by decide +kernel) ⟨Nat.le_of_ble_eq_true rfl, Nat.le_of_ble_eq_true rfl⟩) (zr_pre K X) rfl rfl hl.1 rfl (lv_room (Nat.le_of_ble_eq_true rfl)) dX4_odds_24 ⟨Nat.zero_le _, Nat.zero_le _⟩) (fun H locs X => ?_)
      refine lv_if_eq (tgt := 40) S.1 S.2.1 dX4_odds_27 (by decide) (fun hc_11 => ?_) (fun hc_11 => ?_)
      · have h := zif_pos hc_11 h
        refine lv_iconst (v := (-1 : Int32)) S.1 S.2.1 dX4_odds_40 (by decide) ?_
        exact zr_iret S hr hlk X h dX4_odds_41
      · have h := zif_neg hc_11 h
        refine lv_iload S.1 S.2.1 dX4_odds_30 (lv_at hl 4 rfl) ?_
        refine lv_iconst (v := (0 : Int32)) S.1 S.2.1 dX4_odds_32 (by decide) ?_
        refine lv_iconst (v := (1 : Int32)) S.1 S.2.1 dX4_odds_33 (by decide) ?_
        obtain ⟨r_13, hf_12, h⟩ := zbp_some h
        refine zr_calli (Eg := (xE ki ad)) (G' := G_3) (tr' := tr_4) K X (va_runS (As := [.int a4, .int (0 : Int32), .int (1 : Int32)]) (rest := []) S (mX4_isWithin l D ki ad cs N a4 (0 : Int32) (1 : Int32) (xE ki ad) G_3 tr_4 H.size _ _ _ (zpu_of hf_12)) (va_cwS 3 S.2.2.2.2 gX4_odds_X4_isWithin rfl rfl rfl (by decide +kernel) ⟨Nat.le_of_ble_eq_true rfl, Nat.le_of_ble_eq_true rfl⟩) (zr_pre K X) rfl rfl hl.1 rfl (lv_room (Nat.le_of_ble_eq_true rfl)) dX4_odds_34 ⟨Nat.zero_le _, Nat.zero_le _⟩) (fun H locs X => ?_)
        refine lv_if_ne (tgt := 42) S.1 S.2.1 dX4_odds_37 (by decide) (fun hc_14 => ?_) (fun hc_14 => ?_)
        · have h := zif_neg hc_14 h
          refine lv_iconst (v := (0 : Int32)) S.1 S.2.1 dX4_odds_42 (by decide) ?_
          refine lv_istore (lv' := [(5, .int (0 : Int32)), (0, .ref (ad 0)), (1, .int a1), (2, .int a2), (3, .int a3), (4, .int a4)]) S.1 S.2.1 dX4_odds_43 hl (by decide) rfl (fun ls hl => ?_)
          refine lv_iconst (v := (0 : Int32)) S.1 S.2.1 dX4_odds_45 (by decide) ?_
          refine lv_istore (lv' := [(6, .int (0 : Int32)), (5, .int (0 : Int32)), (0, .ref (ad 0)), (1, .int a1), (2, .int a2), (3, .int a3), (4, .int a4)]) S.1 S.2.1 dX4_odds_46 hl (by decide) rfl (fun ls hl => ?_)
          exact L48 N (0 : Int32) (0 : Int32) G_3 tr_4 h _ _ _ X (lv_sub hl [2, 3, 4, 5, 6, 1, 0] rfl)
        · have h := zif_pos hc_14 h
          refine lv_iconst (v := (-1 : Int32)) S.1 S.2.1 dX4_odds_40 (by decide) ?_
          exact zr_iret S hr hlk X h dX4_odds_41
    · have h := zif_pos hc_8 h
      refine lv_iconst (v := (-1 : Int32)) S.1 S.2.1 dX4_odds_18 (by decide) ?_
      exact zr_iret S hr hlk X h dX4_odds_19
theorem dX4_rateLetter_0 : decode cX4_rateLetter 0 = .ok (.aload_n 0, 1) := by decide +kernel
theorem dX4_rateLetter_1 : decode cX4_rateLetter 1 = .ok (.dup, 1) := by decide +kernel
theorem dX4_rateLetter_2 : decode cX4_rateLetter 2 = .ok (.getfield 250, 3) := by decide +kernel
theorem dX4_rateLetter_5 : decode cX4_rateLetter 5 = .ok (.lconst 1, 1) := by decide +kernel
theorem dX4_rateLetter_6 : decode cX4_rateLetter 6 = .ok (.ladd, 1) := by decide +kernel
theorem dX4_rateLetter_7 : decode cX4_rateLetter 7 = .ok (.putfield 250, 3) := by decide +kernel
theorem dX4_rateLetter_10 : decode cX4_rateLetter 10 = .ok (.aload_n 0, 1) := by decide +kernel
theorem dX4_rateLetter_11 : decode cX4_rateLetter 11 = .ok (.getfield 29, 3) := by decide +kernel
theorem dX4_rateLetter_14 : decode cX4_rateLetter 14 = .ok (.getfield 112, 3) := by decide +kernel
theorem dX4_rateLetter_17 : decode cX4_rateLetter 17 = .ok (.iload_n 1, 1) := by decide +kernel
theorem dX4_rateLetter_18 : decode cX4_rateLetter 18 = .ok (.aaload, 1) := by decide +kernel
theorem dX4_rateLetter_19 : decode cX4_rateLetter 19 = .ok (.getfield 116, 3) := by decide +kernel
theorem dX4_rateLetter_22 : decode cX4_rateLetter 22 = .ok (.ireturn, 1) := by decide +kernel
set_option maxRecDepth 20000 in
theorem kX4_rateLetter_29 : Cond.fieldLink RX4 29 "WindPost" "now" "LWindPost$Moment;" ∈ wsX4_rateLetter := by decide +kernel
set_option maxRecDepth 20000 in
theorem kX4_rateLetter_112 : Cond.fieldLink RX4 112 "WindPost$Moment" "post" "[LWindPost$Letter;" ∈ wsX4_rateLetter := by decide +kernel
set_option maxRecDepth 20000 in
theorem kX4_rateLetter_116 : Cond.fieldLink RX4 116 "WindPost$Letter" "weight" "I" ∈ wsX4_rateLetter := by decide +kernel
set_option maxRecDepth 20000 in
theorem kX4_rateLetter_250 : Cond.fieldLink RX4 250 "WindPost" "traced" "J" ∈ wsX4_rateLetter := by decide +kernel
set_option maxRecDepth 20000 in
theorem uX4_rateLetter_X1 : ∀ w ∈ wsX10, w ∈ wsX4_rateLetter := by decide +kernel
set_option maxRecDepth 20000 in
theorem uX4_rateLetter_X2 : ∀ w ∈ wsX20, w ∈ wsX4_rateLetter := by decide +kernel
set_option maxRecDepth 20000 in
theorem uX4_rateLetter_X4 : ∀ w ∈ wsX40, w ∈ wsX4_rateLetter := by decide +kernel
set_option maxHeartbeats 8000000 in
set_option maxRecDepth 100000 in
theorem mX4_rateLetter (l : Launch) (D : va_G) (ki : Nat → ClassId) (ad : Nat → Nat) (cs : List Nat) (hcs : kW cs) (N : Nat) (a1 : Int32) (G : zMem) (tr : Int64) : gMetI l D ki ad cs yX4_rateLetter wsX4_rateLetter { frames := 0, cells := 0, slots := 0, locals := 0 } [.ref (ad 0), .int a1] (xE ki ad) G tr (fX4_rateLetter N a1 G tr) := by
  refine gMetI_of (cc := cX4_rateLetter) (maxL := 2) (ret := (some .int)) (own := RX4) (by decide +kernel) rfl rfl (Nat.le_of_ble_eq_true rfl) ?_
  intro r9 G9 tr9 h p e s m below meth c S hr hlk K X ls hl
  have hl : lv_has ls 2 [(0, .ref (ad 0)), (1, .int a1)] := hl
  unfold fX4_rateLetter at h
  obtain ⟨H, hH⟩ : ∃ H, H = s.heap := ⟨_, rfl⟩
  obtain ⟨locs, hlo⟩ : ∃ locs : List Loc, locs = [] := ⟨_, rfl⟩
  have X : gS D cs ad ((xE ki ad) G tr) (gA cs ad s.heap.size) s H locs := by rw [hH, hlo]; exact X
  suffices z : W p l e (headSpec wsX4_rateLetter { frames := 0, cells := 0, slots := 0, locals := 0 }).room s m ([.ref (ad 0), .int a1] : List Value).toArray below meth c H locs 0 0 (zQI below ([.ref (ad 0), .int a1] : List Value).toArray s D cs ad ((xE ki ad) G9 tr9) r9) (F0 m 0 ls []) by rw [hH, hlo] at z; exact z
  clear hH hlo
  refine lv_aload_n S.1 S.2.1 dX4_rateLetter_0 rfl (lv_at hl 0 rfl) ?_
  refine lv_dup S.1 S.2.1 dX4_rateLetter_1 rfl ?_
  refine zr_get (v := .long tr) S K X (hcs 0 (by decide)) xE_W rfl uX4_rateLetter_X4 11 (by decide) kX4_rateLetter_250 rfl rfl dX4_rateLetter_2 ?_
  refine lv_lconst (v := 1) S.1 S.2.1 dX4_rateLetter_5 (by decide) ?_
  refine lv_ladd S.1 S.2.1 dX4_rateLetter_6 ?_
  refine zr_putL (fsf := (fun tr => fsW ad tr (G 0))) S K X (hcs 0 (by decide)) xE_trl (fun _ => rfl) rfl uX4_rateLetter_X4 tyX4 tyX4_ok nmX4 11 (by decide) kX4_rateLetter_250 rfl (by decide +kernel) (by simp) rfl dX4_rateLetter_7 (fun H locs X => ?_)
  refine lv_aload_n S.1 S.2.1 dX4_rateLetter_10 rfl (lv_at hl 0 rfl) ?_
  refine zr_get (v := .ref (ad 18)) S K X (hcs 0 (by decide)) xE_W rfl uX4_rateLetter_X4 3 (by decide) kX4_rateLetter_29 rfl rfl dX4_rateLetter_11 ?_
  refine zr_get (v := .ref (ad 20)) S K X ((kM_now hcs).2 0 (by decide)) (xE_M (kM_now hcs)) rfl uX4_rateLetter_X2 5 (by decide) kX4_rateLetter_112 rfl rfl dX4_rateLetter_14 ?_
  refine lv_iload_n S.1 S.2.1 dX4_rateLetter_17 rfl (lv_at hl 1 rfl) ?_
  obtain ⟨hi_1, h⟩ := zin_some h
  refine zr_aald (f := (fun j => 21 + j)) (t0 := 2) (C := "WindPost$Letter") S K X ((kM_now hcs).2 2 (by decide)) (xE_M2 (kM_now hcs)) rfl hi_1 dX4_rateLetter_18 ?_
  refine zr_get (v := .int (G (21 + (Int32.toNatClampNeg a1)) 0)) S K X (kL_now hcs hi_1).2 (xE_L (kL_now hcs hi_1)) rfl uX4_rateLetter_X1 0 (by decide) kX4_rateLetter_116 rfl rfl dX4_rateLetter_19 ?_
  exact zr_iret S hr hlk X h dX4_rateLetter_22
set_option maxRecDepth 20000 in
theorem ggX4_rateSummons_X4_rateLetter : GoodIn wsX4_rateSummons wsX4_rateLetter := goodIn_r _ [10, 1, 3, 4, 11, 19, 20, 21, 22, 23, 24, 25, 26, 27, 28, 29, 30, 31, 32, 33, 34, 35, 36, 37, 38, 39, 40, 41, 42, 43] (by decide +kernel) (by decide +kernel)
set_option maxRecDepth 20000 in
theorem gX4_rateSummons_X4_rateLetter : GoodIn wsX4_rateSummons (wsV RX4 223 RX4 yX4_rateLetter wsX4_rateLetter) := goodIn_app (goodIn_of _ (by decide +kernel)) ggX4_rateSummons_X4_rateLetter
set_option maxRecDepth 20000 in
theorem ggX4_rateSummons_J6_bitCount_0f7a4 : GoodIn wsX4_rateSummons wsJ6_bitCount_0f7a4 := goodIn_r _ [15, 16, 17, 18] (by decide +kernel) (by decide +kernel)
set_option maxRecDepth 20000 in
theorem gX4_rateSummons_J6_bitCount_0f7a4 : GoodIn wsX4_rateSummons (va_wsS RX4 200 yJ6_bitCount_0f7a4 wsJ6_bitCount_0f7a4) := goodIn_app (goodIn_of _ (by decide +kernel)) ggX4_rateSummons_J6_bitCount_0f7a4
theorem dX4_rateSummons_0 : decode cX4_rateSummons 0 = .ok (.aload_n 0, 1) := by decide +kernel
theorem dX4_rateSummons_1 : decode cX4_rateSummons 1 = .ok (.dup, 1) := by decide +kernel
theorem dX4_rateSummons_2 : decode cX4_rateSummons 2 = .ok (.getfield 250, 3) := by decide +kernel
theorem dX4_rateSummons_5 : decode cX4_rateSummons 5 = .ok (.ldc2_w 260, 3) := by decide +kernel
theorem dX4_rateSummons_8 : decode cX4_rateSummons 8 = .ok (.ladd, 1) := by decide +kernel
theorem dX4_rateSummons_9 : decode cX4_rateSummons 9 = .ok (.putfield 250, 3) := by decide +kernel
theorem dX4_rateSummons_12 : decode cX4_rateSummons 12 = .ok (.aload_n 0, 1) := by decide +kernel
theorem dX4_rateSummons_13 : decode cX4_rateSummons 13 = .ok (.iload_n 1, 1) := by decide +kernel
theorem dX4_rateSummons_14 : decode cX4_rateSummons 14 = .ok (.invokevirtual 223, 3) := by decide +kernel
theorem dX4_rateSummons_17 : decode cX4_rateSummons 17 = .ok (.aload_n 0, 1) := by decide +kernel
theorem dX4_rateSummons_18 : decode cX4_rateSummons 18 = .ok (.getfield 29, 3) := by decide +kernel
theorem dX4_rateSummons_21 : decode cX4_rateSummons 21 = .ok (.getfield 112, 3) := by decide +kernel
theorem dX4_rateSummons_24 : decode cX4_rateSummons 24 = .ok (.iload_n 1, 1) := by decide +kernel
theorem dX4_rateSummons_25 : decode cX4_rateSummons 25 = .ok (.aaload, 1) := by decide +kernel
theorem dX4_rateSummons_26 : decode cX4_rateSummons 26 = .ok (.getfield 128, 3) := by decide +kernel
theorem dX4_rateSummons_29 : decode cX4_rateSummons 29 = .ok (.invokestatic 200, 3) := by decide +kernel
theorem dX4_rateSummons_32 : decode cX4_rateSummons 32 = .ok (.iadd, 1) := by decide +kernel
theorem dX4_rateSummons_33 : decode cX4_rateSummons 33 = .ok (.ireturn, 1) := by decide +kernel
set_option maxRecDepth 20000 in
theorem kX4_rateSummons_29 : Cond.fieldLink RX4 29 "WindPost" "now" "LWindPost$Moment;" ∈ wsX4_rateSummons := by decide +kernel
set_option maxRecDepth 20000 in
theorem kX4_rateSummons_112 : Cond.fieldLink RX4 112 "WindPost$Moment" "post" "[LWindPost$Letter;" ∈ wsX4_rateSummons := by decide +kernel
set_option maxRecDepth 20000 in
theorem kX4_rateSummons_128 : Cond.fieldLink RX4 128 "WindPost$Letter" "marks" "I" ∈ wsX4_rateSummons := by decide +kernel
set_option maxRecDepth 20000 in
theorem kX4_rateSummons_250 : Cond.fieldLink RX4 250 "WindPost" "traced" "J" ∈ wsX4_rateSummons := by decide +kernel
set_option maxRecDepth 20000 in
theorem uX4_rateSummons_X1 : ∀ w ∈ wsX10, w ∈ wsX4_rateSummons := by decide +kernel
set_option maxRecDepth 20000 in
theorem uX4_rateSummons_X2 : ∀ w ∈ wsX20, w ∈ wsX4_rateSummons := by decide +kernel
set_option maxRecDepth 20000 in
theorem uX4_rateSummons_X4 : ∀ w ∈ wsX40, w ∈ wsX4_rateSummons := by decide +kernel
set_option maxRecDepth 20000 in
theorem qX4_rateSummons_260 : Cond.constantLong RX4 260 (10) ∈ wsX4_rateSummons := by decide +kernel
set_option maxHeartbeats 8000000 in
set_option maxRecDepth 100000 in
theorem mX4_rateSummons (l : Launch) (D : va_G) (ki : Nat → ClassId) (ad : Nat → Nat) (cs : List Nat) (hcs : kW cs) (N : Nat) (a1 : Int32) (G : zMem) (tr : Int64) : gMetI l D ki ad cs yX4_rateSummons wsX4_rateSummons { frames := 1, cells := 0, slots := 0, locals := 21 } [.ref (ad 0), .int a1] (xE ki ad) G tr (fX4_rateSummons N a1 G tr) := by
  refine gMetI_of (cc := cX4_rateSummons) (maxL := 2) (ret := (some .int)) (own := RX4) (by decide +kernel) rfl rfl (Nat.le_of_ble_eq_true rfl) ?_
  intro r9 G9 tr9 h p e s m below meth c S hr hlk K X ls hl
  have hl : lv_has ls 2 [(0, .ref (ad 0)), (1, .int a1)] := hl
  unfold fX4_rateSummons at h
  obtain ⟨H, hH⟩ : ∃ H, H = s.heap := ⟨_, rfl⟩
  obtain ⟨locs, hlo⟩ : ∃ locs : List Loc, locs = [] := ⟨_, rfl⟩
  have X : gS D cs ad ((xE ki ad) G tr) (gA cs ad s.heap.size) s H locs := by rw [hH, hlo]; exact X
  suffices z : W p l e (headSpec wsX4_rateSummons { frames := 1, cells := 0, slots := 0, locals := 21 }).room s m ([.ref (ad 0), .int a1] : List Value).toArray below meth c H locs 0 0 (zQI below ([.ref (ad 0), .int a1] : List Value).toArray s D cs ad ((xE ki ad) G9 tr9) r9) (F0 m 0 ls []) by rw [hH, hlo] at z; exact z
  clear hH hlo
  refine lv_aload_n S.1 S.2.1 dX4_rateSummons_0 rfl (lv_at hl 0 rfl) ?_
  refine lv_dup S.1 S.2.1 dX4_rateSummons_1 rfl ?_
  refine zr_get (v := .long tr) S K X (hcs 0 (by decide)) xE_W rfl uX4_rateSummons_X4 11 (by decide) kX4_rateSummons_250 rfl rfl dX4_rateSummons_2 ?_
  refine lv_ldc2 (own := RX4) (v := 10) S.1 S.2.1 S.2.2.2.1 (S.2.2.2.2 _ qX4_rateSummons_260) dX4_rateSummons_5 ?_
  refine lv_ladd S.1 S.2.1 dX4_rateSummons_8 ?_
  refine zr_putL (fsf := (fun tr => fsW ad tr (G 0))) S K X (hcs 0 (by decide)) xE_trl (fun _ => rfl) rfl uX4_rateSummons_X4 tyX4 tyX4_ok nmX4 11 (by decide) kX4_rateSummons_250 rfl (by decide +kernel) (by simp) rfl dX4_rateSummons_9 (fun H locs X => ?_)
  refine lv_aload_n S.1 S.2.1 dX4_rateSummons_12 rfl (lv_at hl 0 rfl) ?_
  refine lv_iload_n S.1 S.2.1 dX4_rateSummons_13 rfl (lv_at hl 1 rfl) ?_
  obtain ⟨r_2, G_3, tr_4, hf_1, h⟩ := zbd_some h
  refine zr_calli (Eg := (xE ki ad)) K X (va_runV (As := [.int a1]) (rest := []) S (mX4_rateLetter l D ki ad cs hcs N a1 G (tr + (10 : Int64)) H.size _ _ _ hf_1) (cwV 1 S.2.2.2.2 gX4_rateSummons_X4_rateLetter rfl rfl rfl (by decide +kernel) ⟨Nat.le_of_ble_eq_true rfl, Nat.le_of_ble_eq_true rfl⟩) (zr_preV (c0 := 0) K X (hcs 0 (by decide)) xE_W rfl) rfl rfl hl.1 rfl (lv_room (Nat.le_of_ble_eq_true rfl)) dX4_rateSummons_14 ⟨Nat.zero_le _, Nat.zero_le _⟩) (fun H locs X => ?_)
  refine lv_aload_n S.1 S.2.1 dX4_rateSummons_17 rfl (lv_at hl 0 rfl) ?_
  refine zr_get (v := .ref (ad 18)) S K X (hcs 0 (by decide)) xE_W rfl uX4_rateSummons_X4 3 (by decide) kX4_rateSummons_29 rfl rfl dX4_rateSummons_18 ?_
  refine zr_get (v := .ref (ad 20)) S K X ((kM_now hcs).2 0 (by decide)) (xE_M (kM_now hcs)) rfl uX4_rateSummons_X2 5 (by decide) kX4_rateSummons_112 rfl rfl dX4_rateSummons_21 ?_
  refine lv_iload_n S.1 S.2.1 dX4_rateSummons_24 rfl (lv_at hl 1 rfl) ?_
  obtain ⟨hi_5, h⟩ := zin_some h
  refine zr_aald (f := (fun j => 21 + j)) (t0 := 2) (C := "WindPost$Letter") S K X ((kM_now hcs).2 2 (by decide)) (xE_M2 (kM_now hcs)) rfl hi_5 dX4_rateSummons_25 ?_
  refine zr_get (v := .int (G_3 (21 + (Int32.toNatClampNeg a1)) 4)) S K X (kL_now hcs hi_5).2 (xE_L (kL_now hcs hi_5)) rfl uX4_rateSummons_X1 4 (by decide) kX4_rateSummons_128 rfl rfl dX4_rateSummons_26 ?_
  obtain ⟨r_7, hf_6, h⟩ := zbp_some h
  refine zr_calli (Eg := (xE ki ad)) (G' := G_3) (tr' := tr_4) K X (va_runS (As := [.int (G_3 (21 + (Int32.toNatClampNeg a1)) 4)]) (rest := [.int r_2]) S (mJ6_bitCount_0f7a4 l D ki ad cs N (G_3 (21 + (Int32.toNatClampNeg a1)) 4) (xE ki ad) G_3 tr_4 H.size _ _ _ (zpu_of hf_6)) (va_cwS 1 S.2.2.2.2 gX4_rateSummons_J6_bitCount_0f7a4 rfl rfl rfl (by decide +kernel) ⟨Nat.le_of_ble_eq_true rfl, Nat.le_of_ble_eq_true rfl⟩) (zr_pre K X) rfl rfl hl.1 rfl (lv_room (Nat.le_of_ble_eq_true rfl)) dX4_rateSummons_29 ⟨Nat.zero_le _, Nat.zero_le _⟩) (fun H locs X => ?_)
  refine lv_iadd S.1 S.2.1 dX4_rateSummons_32 ?_
  exact zr_iret S hr hlk X h dX4_rateSummons_33
set_option maxRecDepth 20000 in
theorem ggX4_rateGoose_X4_rateLetter : GoodIn wsX4_rateGoose wsX4_rateLetter := goodIn_r _ [10, 1, 3, 4, 11, 12, 13, 14, 15, 16, 17, 18, 19, 20, 21, 22, 23, 24, 25, 26, 27, 28, 29, 30, 31, 32, 33, 34, 35, 36] (by decide +kernel) (by decide +kernel)
set_option maxRecDepth 20000 in
theorem gX4_rateGoose_X4_rateLetter : GoodIn wsX4_rateGoose (wsV RX4 223 RX4 yX4_rateLetter wsX4_rateLetter) := goodIn_app (goodIn_of _ (by decide +kernel)) ggX4_rateGoose_X4_rateLetter
theorem dX4_rateGoose_0 : decode cX4_rateGoose 0 = .ok (.aload_n 0, 1) := by decide +kernel
theorem dX4_rateGoose_1 : decode cX4_rateGoose 1 = .ok (.dup, 1) := by decide +kernel
theorem dX4_rateGoose_2 : decode cX4_rateGoose 2 = .ok (.getfield 250, 3) := by decide +kernel
theorem dX4_rateGoose_5 : decode cX4_rateGoose 5 = .ok (.ldc2_w 262, 3) := by decide +kernel
theorem dX4_rateGoose_8 : decode cX4_rateGoose 8 = .ok (.ladd, 1) := by decide +kernel
theorem dX4_rateGoose_9 : decode cX4_rateGoose 9 = .ok (.putfield 250, 3) := by decide +kernel
theorem dX4_rateGoose_12 : decode cX4_rateGoose 12 = .ok (.aload_n 0, 1) := by decide +kernel
theorem dX4_rateGoose_13 : decode cX4_rateGoose 13 = .ok (.iload_n 1, 1) := by decide +kernel
theorem dX4_rateGoose_14 : decode cX4_rateGoose 14 = .ok (.invokevirtual 223, 3) := by decide +kernel
theorem dX4_rateGoose_17 : decode cX4_rateGoose 17 = .ok (.aload_n 0, 1) := by decide +kernel
theorem dX4_rateGoose_18 : decode cX4_rateGoose 18 = .ok (.getfield 29, 3) := by decide +kernel
theorem dX4_rateGoose_21 : decode cX4_rateGoose 21 = .ok (.getfield 112, 3) := by decide +kernel
theorem dX4_rateGoose_24 : decode cX4_rateGoose 24 = .ok (.iload_n 1, 1) := by decide +kernel
theorem dX4_rateGoose_25 : decode cX4_rateGoose 25 = .ok (.aaload, 1) := by decide +kernel
theorem dX4_rateGoose_26 : decode cX4_rateGoose 26 = .ok (.getfield 125, 3) := by decide +kernel
theorem dX4_rateGoose_29 : decode cX4_rateGoose 29 = .ok (.isub, 1) := by decide +kernel
theorem dX4_rateGoose_30 : decode cX4_rateGoose 30 = .ok (.ireturn, 1) := by decide +kernel
set_option maxRecDepth 20000 in
theorem kX4_rateGoose_29 : Cond.fieldLink RX4 29 "WindPost" "now" "LWindPost$Moment;" ∈ wsX4_rateGoose := by decide +kernel
set_option maxRecDepth 20000 in
theorem kX4_rateGoose_112 : Cond.fieldLink RX4 112 "WindPost$Moment" "post" "[LWindPost$Letter;" ∈ wsX4_rateGoose := by decide +kernel
set_option maxRecDepth 20000 in
theorem kX4_rateGoose_125 : Cond.fieldLink RX4 125 "WindPost$Letter" "place" "I" ∈ wsX4_rateGoose := by decide +kernel
set_option maxRecDepth 20000 in
theorem kX4_rateGoose_250 : Cond.fieldLink RX4 250 "WindPost" "traced" "J" ∈ wsX4_rateGoose := by decide +kernel
set_option maxRecDepth 20000 in
theorem uX4_rateGoose_X1 : ∀ w ∈ wsX10, w ∈ wsX4_rateGoose := by decide +kernel
set_option maxRecDepth 20000 in
theorem uX4_rateGoose_X2 : ∀ w ∈ wsX20, w ∈ wsX4_rateGoose := by decide +kernel
set_option maxRecDepth 20000 in
theorem uX4_rateGoose_X4 : ∀ w ∈ wsX40, w ∈ wsX4_rateGoose := by decide +kernel
set_option maxRecDepth 20000 in
theorem qX4_rateGoose_262 : Cond.constantLong RX4 262 (100) ∈ wsX4_rateGoose := by decide +kernel
set_option maxHeartbeats 8000000 in
set_option maxRecDepth 100000 in
theorem mX4_rateGoose (l : Launch) (D : va_G) (ki : Nat → ClassId) (ad : Nat → Nat) (cs : List Nat) (hcs : kW cs) (N : Nat) (a1 : Int32) (G : zMem) (tr : Int64) : gMetI l D ki ad cs yX4_rateGoose wsX4_rateGoose { frames := 1, cells := 0, slots := 0, locals := 21 } [.ref (ad 0), .int a1] (xE ki ad) G tr (fX4_rateGoose N a1 G tr) := by
  refine gMetI_of (cc := cX4_rateGoose) (maxL := 2) (ret := (some .int)) (own := RX4) (by decide +kernel) rfl rfl (Nat.le_of_ble_eq_true rfl) ?_
  intro r9 G9 tr9 h p e s m below meth c S hr hlk K X ls hl
  have hl : lv_has ls 2 [(0, .ref (ad 0)), (1, .int a1)] := hl
  unfold fX4_rateGoose at h
  obtain ⟨H, hH⟩ : ∃ H, H = s.heap := ⟨_, rfl⟩
  obtain ⟨locs, hlo⟩ : ∃ locs : List Loc, locs = [] := ⟨_, rfl⟩
  have X : gS D cs ad ((xE ki ad) G tr) (gA cs ad s.heap.size) s H locs := by rw [hH, hlo]; exact X
  suffices z : W p l e (headSpec wsX4_rateGoose { frames := 1, cells := 0, slots := 0, locals := 21 }).room s m ([.ref (ad 0), .int a1] : List Value).toArray below meth c H locs 0 0 (zQI below ([.ref (ad 0), .int a1] : List Value).toArray s D cs ad ((xE ki ad) G9 tr9) r9) (F0 m 0 ls []) by rw [hH, hlo] at z; exact z
  clear hH hlo
  refine lv_aload_n S.1 S.2.1 dX4_rateGoose_0 rfl (lv_at hl 0 rfl) ?_
  refine lv_dup S.1 S.2.1 dX4_rateGoose_1 rfl ?_
  refine zr_get (v := .long tr) S K X (hcs 0 (by decide)) xE_W rfl uX4_rateGoose_X4 11 (by decide) kX4_rateGoose_250 rfl rfl dX4_rateGoose_2 ?_
  refine lv_ldc2 (own := RX4) (v := 100) S.1 S.2.1 S.2.2.2.1 (S.2.2.2.2 _ qX4_rateGoose_262) dX4_rateGoose_5 ?_
  refine lv_ladd S.1 S.2.1 dX4_rateGoose_8 ?_
  refine zr_putL (fsf := (fun tr => fsW ad tr (G 0))) S K X (hcs 0 (by decide)) xE_trl (fun _ => rfl) rfl uX4_rateGoose_X4 tyX4 tyX4_ok nmX4 11 (by decide) kX4_rateGoose_250 rfl (by decide +kernel) (by simp) rfl dX4_rateGoose_9 (fun H locs X => ?_)
  refine lv_aload_n S.1 S.2.1 dX4_rateGoose_12 rfl (lv_at hl 0 rfl) ?_
  refine lv_iload_n S.1 S.2.1 dX4_rateGoose_13 rfl (lv_at hl 1 rfl) ?_
  obtain ⟨r_2, G_3, tr_4, hf_1, h⟩ := zbd_some h
  refine zr_calli (Eg := (xE ki ad)) K X (va_runV (As := [.int a1]) (rest := []) S (mX4_rateLetter l D ki ad cs hcs N a1 G (tr + (100 : Int64)) H.size _ _ _ hf_1) (cwV 1 S.2.2.2.2 gX4_rateGoose_X4_rateLetter rfl rfl rfl (by decide +kernel) ⟨Nat.le_of_ble_eq_true rfl, Nat.le_of_ble_eq_true rfl⟩) (zr_preV (c0 := 0) K X (hcs 0 (by decide)) xE_W rfl) rfl rfl hl.1 rfl (lv_room (Nat.le_of_ble_eq_true rfl)) dX4_rateGoose_14 ⟨Nat.zero_le _, Nat.zero_le _⟩) (fun H locs X => ?_)
  refine lv_aload_n S.1 S.2.1 dX4_rateGoose_17 rfl (lv_at hl 0 rfl) ?_
  refine zr_get (v := .ref (ad 18)) S K X (hcs 0 (by decide)) xE_W rfl uX4_rateGoose_X4 3 (by decide) kX4_rateGoose_29 rfl rfl dX4_rateGoose_18 ?_
  refine zr_get (v := .ref (ad 20)) S K X ((kM_now hcs).2 0 (by decide)) (xE_M (kM_now hcs)) rfl uX4_rateGoose_X2 5 (by decide) kX4_rateGoose_112 rfl rfl dX4_rateGoose_21 ?_
  refine lv_iload_n S.1 S.2.1 dX4_rateGoose_24 rfl (lv_at hl 1 rfl) ?_
  obtain ⟨hi_5, h⟩ := zin_some h
  refine zr_aald (f := (fun j => 21 + j)) (t0 := 2) (C := "WindPost$Letter") S K X ((kM_now hcs).2 2 (by decide)) (xE_M2 (kM_now hcs)) rfl hi_5 dX4_rateGoose_25 ?_
  refine zr_get (v := .int (G_3 (21 + (Int32.toNatClampNeg a1)) 3)) S K X (kL_now hcs hi_5).2 (xE_L (kL_now hcs hi_5)) rfl uX4_rateGoose_X1 3 (by decide) kX4_rateGoose_125 rfl rfl dX4_rateGoose_26 ?_
  refine lv_isub S.1 S.2.1 dX4_rateGoose_29 ?_
  exact zr_iret S hr hlk X h dX4_rateGoose_30
set_option maxRecDepth 20000 in
theorem ggX4_rateBill_X4_rateSummons : GoodIn wsX4_rateBill wsX4_rateSummons := goodIn_r _ [7, 1, 8, 9, 10, 11, 12, 13, 14, 6, 15, 16, 17, 18, 19, 20, 21, 22, 23, 24, 25, 26, 27, 28, 29, 30, 31, 32, 33, 34, 35, 36, 37, 38, 39, 40, 41, 42, 43, 44, 45, 46, 47, 48] (by decide +kernel) (by decide +kernel)
set_option maxRecDepth 20000 in
theorem gX4_rateBill_X4_rateSummons : GoodIn wsX4_rateBill (wsV RX4 226 RX4 yX4_rateSummons wsX4_rateSummons) := goodIn_app (goodIn_of _ (by decide +kernel)) ggX4_rateBill_X4_rateSummons
theorem dX4_rateBill_0 : decode cX4_rateBill 0 = .ok (.aload_n 0, 1) := by decide +kernel
theorem dX4_rateBill_1 : decode cX4_rateBill 1 = .ok (.dup, 1) := by decide +kernel
theorem dX4_rateBill_2 : decode cX4_rateBill 2 = .ok (.getfield 250, 3) := by decide +kernel
theorem dX4_rateBill_5 : decode cX4_rateBill 5 = .ok (.ldc2_w 264, 3) := by decide +kernel
theorem dX4_rateBill_8 : decode cX4_rateBill 8 = .ok (.ladd, 1) := by decide +kernel
theorem dX4_rateBill_9 : decode cX4_rateBill 9 = .ok (.putfield 250, 3) := by decide +kernel
theorem dX4_rateBill_12 : decode cX4_rateBill 12 = .ok (.iconst 2, 1) := by decide +kernel
theorem dX4_rateBill_13 : decode cX4_rateBill 13 = .ok (.aload_n 0, 1) := by decide +kernel
theorem dX4_rateBill_14 : decode cX4_rateBill 14 = .ok (.iload_n 1, 1) := by decide +kernel
theorem dX4_rateBill_15 : decode cX4_rateBill 15 = .ok (.invokevirtual 226, 3) := by decide +kernel
theorem dX4_rateBill_18 : decode cX4_rateBill 18 = .ok (.imul, 1) := by decide +kernel
theorem dX4_rateBill_19 : decode cX4_rateBill 19 = .ok (.ireturn, 1) := by decide +kernel
set_option maxRecDepth 20000 in
theorem kX4_rateBill_250 : Cond.fieldLink RX4 250 "WindPost" "traced" "J" ∈ wsX4_rateBill := by decide +kernel
set_option maxRecDepth 20000 in
theorem uX4_rateBill_X4 : ∀ w ∈ wsX40, w ∈ wsX4_rateBill := by decide +kernel
set_option maxRecDepth 20000 in
theorem qX4_rateBill_264 : Cond.constantLong RX4 264 (1000) ∈ wsX4_rateBill := by decide +kernel
set_option maxHeartbeats 8000000 in
set_option maxRecDepth 100000 in
theorem mX4_rateBill (l : Launch) (D : va_G) (ki : Nat → ClassId) (ad : Nat → Nat) (cs : List Nat) (hcs : kW cs) (N : Nat) (a1 : Int32) (G : zMem) (tr : Int64) : gMetI l D ki ad cs yX4_rateBill wsX4_rateBill { frames := 2, cells := 0, slots := 0, locals := 42 } [.ref (ad 0), .int a1] (xE ki ad) G tr (fX4_rateBill N a1 G tr) := by
  refine gMetI_of (cc := cX4_rateBill) (maxL := 2) (ret := (some .int)) (own := RX4) (by decide +kernel) rfl rfl (Nat.le_of_ble_eq_true rfl) ?_
  intro r9 G9 tr9 h p e s m below meth c S hr hlk K X ls hl
  have hl : lv_has ls 2 [(0, .ref (ad 0)), (1, .int a1)] := hl
  unfold fX4_rateBill at h
  obtain ⟨H, hH⟩ : ∃ H, H = s.heap := ⟨_, rfl⟩
  obtain ⟨locs, hlo⟩ : ∃ locs : List Loc, locs = [] := ⟨_, rfl⟩
  have X : gS D cs ad ((xE ki ad) G tr) (gA cs ad s.heap.size) s H locs := by rw [hH, hlo]; exact X
  suffices z : W p l e (headSpec wsX4_rateBill { frames := 2, cells := 0, slots := 0, locals := 42 }).room s m ([.ref (ad 0), .int a1] : List Value).toArray below meth c H locs 0 0 (zQI below ([.ref (ad 0), .int a1] : List Value).toArray s D cs ad ((xE ki ad) G9 tr9) r9) (F0 m 0 ls []) by rw [hH, hlo] at z; exact z
  clear hH hlo
  refine lv_aload_n S.1 S.2.1 dX4_rateBill_0 rfl (lv_at hl 0 rfl) ?_
  refine lv_dup S.1 S.2.1 dX4_rateBill_1 rfl ?_
  refine zr_get (v := .long tr) S K X (hcs 0 (by decide)) xE_W rfl uX4_rateBill_X4 11 (by decide) kX4_rateBill_250 rfl rfl dX4_rateBill_2 ?_
  refine lv_ldc2 (own := RX4) (v := 1000) S.1 S.2.1 S.2.2.2.1 (S.2.2.2.2 _ qX4_rateBill_264) dX4_rateBill_5 ?_
  refine lv_ladd S.1 S.2.1 dX4_rateBill_8 ?_
  refine zr_putL (fsf := (fun tr => fsW ad tr (G 0))) S K X (hcs 0 (by decide)) xE_trl (fun _ => rfl) rfl uX4_rateBill_X4 tyX4 tyX4_ok nmX4 11 (by decide) kX4_rateBill_250 rfl (by decide +kernel) (by simp) rfl dX4_rateBill_9 (fun H locs X => ?_)
  refine lv_iconst (v := (2 : Int32)) S.1 S.2.1 dX4_rateBill_12 (by decide) ?_
  refine lv_aload_n S.1 S.2.1 dX4_rateBill_13 rfl (lv_at hl 0 rfl) ?_
  refine lv_iload_n S.1 S.2.1 dX4_rateBill_14 rfl (lv_at hl 1 rfl) ?_
  obtain ⟨r_2, G_3, tr_4, hf_1, h⟩ := zbd_some h
  refine zr_calli (Eg := (xE ki ad)) K X (va_runV (As := [.int a1]) (rest := [.int (2 : Int32)]) S (mX4_rateSummons l D ki ad cs hcs N a1 G (tr + (1000 : Int64)) H.size _ _ _ hf_1) (cwV 1 S.2.2.2.2 gX4_rateBill_X4_rateSummons rfl rfl rfl (by decide +kernel) ⟨Nat.le_of_ble_eq_true rfl, Nat.le_of_ble_eq_true rfl⟩) (zr_preV (c0 := 0) K X (hcs 0 (by decide)) xE_W rfl) rfl rfl hl.1 rfl (lv_room (Nat.le_of_ble_eq_true rfl)) dX4_rateBill_15 ⟨Nat.zero_le _, Nat.zero_le _⟩) (fun H locs X => ?_)
  refine lv_imul S.1 S.2.1 dX4_rateBill_18 ?_
  exact zr_iret S hr hlk X h dX4_rateBill_19
set_option maxRecDepth 20000 in
theorem ggX4_rateVow_X4_rateGoose : GoodIn wsX4_rateVow wsX4_rateGoose := goodIn_r _ [7, 1, 8, 9, 10, 11, 12, 13, 14, 6, 15, 16, 17, 18, 19, 20, 21, 22, 23, 24, 25, 26, 27, 28, 29, 30, 31, 32, 33, 34, 35, 36, 37, 38, 39, 40, 41] (by decide +kernel) (by decide +kernel)
set_option maxRecDepth 20000 in
theorem gX4_rateVow_X4_rateGoose : GoodIn wsX4_rateVow (wsV RX4 229 RX4 yX4_rateGoose wsX4_rateGoose) := goodIn_app (goodIn_of _ (by decide +kernel)) ggX4_rateVow_X4_rateGoose
theorem dX4_rateVow_0 : decode cX4_rateVow 0 = .ok (.aload_n 0, 1) := by decide +kernel
theorem dX4_rateVow_1 : decode cX4_rateVow 1 = .ok (.dup, 1) := by decide +kernel
theorem dX4_rateVow_2 : decode cX4_rateVow 2 = .ok (.getfield 250, 3) := by decide +kernel
theorem dX4_rateVow_5 : decode cX4_rateVow 5 = .ok (.ldc2_w 266, 3) := by decide +kernel
theorem dX4_rateVow_8 : decode cX4_rateVow 8 = .ok (.ladd, 1) := by decide +kernel
theorem dX4_rateVow_9 : decode cX4_rateVow 9 = .ok (.putfield 250, 3) := by decide +kernel
theorem dX4_rateVow_12 : decode cX4_rateVow 12 = .ok (.aload_n 0, 1) := by decide +kernel
theorem dX4_rateVow_13 : decode cX4_rateVow 13 = .ok (.iload_n 1, 1) := by decide +kernel
theorem dX4_rateVow_14 : decode cX4_rateVow 14 = .ok (.invokevirtual 229, 3) := by decide +kernel
theorem dX4_rateVow_17 : decode cX4_rateVow 17 = .ok (.iload_n 1, 1) := by decide +kernel
theorem dX4_rateVow_18 : decode cX4_rateVow 18 = .ok (.iadd, 1) := by decide +kernel
theorem dX4_rateVow_19 : decode cX4_rateVow 19 = .ok (.ireturn, 1) := by decide +kernel
set_option maxRecDepth 20000 in
theorem kX4_rateVow_250 : Cond.fieldLink RX4 250 "WindPost" "traced" "J" ∈ wsX4_rateVow := by decide +kernel
set_option maxRecDepth 20000 in
theorem uX4_rateVow_X4 : ∀ w ∈ wsX40, w ∈ wsX4_rateVow := by decide +kernel
set_option maxRecDepth 20000 in
theorem qX4_rateVow_266 : Cond.constantLong RX4 266 (10000) ∈ wsX4_rateVow := by decide +kernel
set_option maxHeartbeats 8000000 in
set_option maxRecDepth 100000 in
theorem mX4_rateVow (l : Launch) (D : va_G) (ki : Nat → ClassId) (ad : Nat → Nat) (cs : List Nat) (hcs : kW cs) (N : Nat) (a1 : Int32) (G : zMem) (tr : Int64) : gMetI l D ki ad cs yX4_rateVow wsX4_rateVow { frames := 2, cells := 0, slots := 0, locals := 42 } [.ref (ad 0), .int a1] (xE ki ad) G tr (fX4_rateVow N a1 G tr) := by
  refine gMetI_of (cc := cX4_rateVow) (maxL := 2) (ret := (some .int)) (own := RX4) (by decide +kernel) rfl rfl (Nat.le_of_ble_eq_true rfl) ?_
  intro r9 G9 tr9 h p e s m below meth c S hr hlk K X ls hl
  have hl : lv_has ls 2 [(0, .ref (ad 0)), (1, .int a1)] := hl
  unfold fX4_rateVow at h
  obtain ⟨H, hH⟩ : ∃ H, H = s.heap := ⟨_, rfl⟩
  obtain ⟨locs, hlo⟩ : ∃ locs : List Loc, locs = [] := ⟨_, rfl⟩
  have X : gS D cs ad ((xE ki ad) G tr) (gA cs ad s.heap.size) s H locs := by rw [hH, hlo]; exact X
  suffices z : W p l e (headSpec wsX4_rateVow { frames := 2, cells := 0, slots := 0, locals := 42 }).room s m ([.ref (ad 0), .int a1] : List Value).toArray below meth c H locs 0 0 (zQI below ([.ref (ad 0), .int a1] : List Value).toArray s D cs ad ((xE ki ad) G9 tr9) r9) (F0 m 0 ls []) by rw [hH, hlo] at z; exact z
  clear hH hlo
  refine lv_aload_n S.1 S.2.1 dX4_rateVow_0 rfl (lv_at hl 0 rfl) ?_
  refine lv_dup S.1 S.2.1 dX4_rateVow_1 rfl ?_
  refine zr_get (v := .long tr) S K X (hcs 0 (by decide)) xE_W rfl uX4_rateVow_X4 11 (by decide) kX4_rateVow_250 rfl rfl dX4_rateVow_2 ?_
  refine lv_ldc2 (own := RX4) (v := 10000) S.1 S.2.1 S.2.2.2.1 (S.2.2.2.2 _ qX4_rateVow_266) dX4_rateVow_5 ?_
  refine lv_ladd S.1 S.2.1 dX4_rateVow_8 ?_
  refine zr_putL (fsf := (fun tr => fsW ad tr (G 0))) S K X (hcs 0 (by decide)) xE_trl (fun _ => rfl) rfl uX4_rateVow_X4 tyX4 tyX4_ok nmX4 11 (by decide) kX4_rateVow_250 rfl (by decide +kernel) (by simp) rfl dX4_rateVow_9 (fun H locs X => ?_)
  refine lv_aload_n S.1 S.2.1 dX4_rateVow_12 rfl (lv_at hl 0 rfl) ?_
  refine lv_iload_n S.1 S.2.1 dX4_rateVow_13 rfl (lv_at hl 1 rfl) ?_
  obtain ⟨r_2, G_3, tr_4, hf_1, h⟩ := zbd_some h
  refine zr_calli (Eg := (xE ki ad)) K X (va_runV (As := [.int a1]) (rest := []) S (mX4_rateGoose l D ki ad cs hcs N a1 G (tr + (10000 : Int64)) H.size _ _ _ hf_1) (cwV 1 S.2.2.2.2 gX4_rateVow_X4_rateGoose rfl rfl rfl (by decide +kernel) ⟨Nat.le_of_ble_eq_true rfl, Nat.le_of_ble_eq_true rfl⟩) (zr_preV (c0 := 0) K X (hcs 0 (by decide)) xE_W rfl) rfl rfl hl.1 rfl (lv_room (Nat.le_of_ble_eq_true rfl)) dX4_rateVow_14 ⟨Nat.zero_le _, Nat.zero_le _⟩) (fun H locs X => ?_)
  refine lv_iload_n S.1 S.2.1 dX4_rateVow_17 rfl (lv_at hl 1 rfl) ?_
  refine lv_iadd S.1 S.2.1 dX4_rateVow_18 ?_
  exact zr_iret S hr hlk X h dX4_rateVow_19
set_option maxRecDepth 20000 in
theorem ggX4_rateKite_X4_rateLetter : GoodIn wsX4_rateKite wsX4_rateLetter := goodIn_r _ [9, 1, 3, 10, 11, 12, 13, 14, 15, 16, 17, 18, 19, 20, 21, 22, 23, 24, 25, 26, 27, 28, 29, 30, 31, 32, 33, 34, 35, 36] (by decide +kernel) (by decide +kernel)
set_option maxRecDepth 20000 in
theorem gX4_rateKite_X4_rateLetter : GoodIn wsX4_rateKite (wsV RX4 223 RX4 yX4_rateLetter wsX4_rateLetter) := goodIn_app (goodIn_of _ (by decide +kernel)) ggX4_rateKite_X4_rateLetter
theorem dX4_rateKite_0 : decode cX4_rateKite 0 = .ok (.aload_n 0, 1) := by decide +kernel
theorem dX4_rateKite_1 : decode cX4_rateKite 1 = .ok (.dup, 1) := by decide +kernel
theorem dX4_rateKite_2 : decode cX4_rateKite 2 = .ok (.getfield 250, 3) := by decide +kernel
theorem dX4_rateKite_5 : decode cX4_rateKite 5 = .ok (.ldc2_w 268, 3) := by decide +kernel
theorem dX4_rateKite_8 : decode cX4_rateKite 8 = .ok (.ladd, 1) := by decide +kernel
theorem dX4_rateKite_9 : decode cX4_rateKite 9 = .ok (.putfield 250, 3) := by decide +kernel
theorem dX4_rateKite_12 : decode cX4_rateKite 12 = .ok (.aload_n 0, 1) := by decide +kernel
theorem dX4_rateKite_13 : decode cX4_rateKite 13 = .ok (.iload_n 1, 1) := by decide +kernel
theorem dX4_rateKite_14 : decode cX4_rateKite 14 = .ok (.invokevirtual 223, 3) := by decide +kernel
theorem dX4_rateKite_17 : decode cX4_rateKite 17 = .ok (.aload_n 0, 1) := by decide +kernel
theorem dX4_rateKite_18 : decode cX4_rateKite 18 = .ok (.getfield 29, 3) := by decide +kernel
theorem dX4_rateKite_21 : decode cX4_rateKite 21 = .ok (.getfield 102, 3) := by decide +kernel
theorem dX4_rateKite_24 : decode cX4_rateKite 24 = .ok (.iadd, 1) := by decide +kernel
theorem dX4_rateKite_25 : decode cX4_rateKite 25 = .ok (.ireturn, 1) := by decide +kernel
set_option maxRecDepth 20000 in
theorem kX4_rateKite_29 : Cond.fieldLink RX4 29 "WindPost" "now" "LWindPost$Moment;" ∈ wsX4_rateKite := by decide +kernel
set_option maxRecDepth 20000 in
theorem kX4_rateKite_102 : Cond.fieldLink RX4 102 "WindPost$Moment" "time" "I" ∈ wsX4_rateKite := by decide +kernel
set_option maxRecDepth 20000 in
theorem kX4_rateKite_250 : Cond.fieldLink RX4 250 "WindPost" "traced" "J" ∈ wsX4_rateKite := by decide +kernel
set_option maxRecDepth 20000 in
theorem uX4_rateKite_X2 : ∀ w ∈ wsX20, w ∈ wsX4_rateKite := by decide +kernel
set_option maxRecDepth 20000 in
theorem uX4_rateKite_X4 : ∀ w ∈ wsX40, w ∈ wsX4_rateKite := by decide +kernel
set_option maxRecDepth 20000 in
theorem qX4_rateKite_268 : Cond.constantLong RX4 268 (100000) ∈ wsX4_rateKite := by decide +kernel
set_option maxHeartbeats 8000000 in
set_option maxRecDepth 100000 in
theorem mX4_rateKite (l : Launch) (D : va_G) (ki : Nat → ClassId) (ad : Nat → Nat) (cs : List Nat) (hcs : kW cs) (N : Nat) (a1 : Int32) (G : zMem) (tr : Int64) : gMetI l D ki ad cs yX4_rateKite wsX4_rateKite { frames := 1, cells := 0, slots := 0, locals := 21 } [.ref (ad 0), .int a1] (xE ki ad) G tr (fX4_rateKite N a1 G tr) := by
  refine gMetI_of (cc := cX4_rateKite) (maxL := 2) (ret := (some .int)) (own := RX4) (by decide +kernel) rfl rfl (Nat.le_of_ble_eq_true rfl) ?_
  intro r9 G9 tr9 h p e s m below meth c S hr hlk K X ls hl
  have hl : lv_has ls 2 [(0, .ref (ad 0)), (1, .int a1)] := hl
  unfold fX4_rateKite at h
  obtain ⟨H, hH⟩ : ∃ H, H = s.heap := ⟨_, rfl⟩
  obtain ⟨locs, hlo⟩ : ∃ locs : List Loc, locs = [] := ⟨_, rfl⟩
  have X : gS D cs ad ((xE ki ad) G tr) (gA cs ad s.heap.size) s H locs := by rw [hH, hlo]; exact X
  suffices z : W p l e (headSpec wsX4_rateKite { frames := 1, cells := 0, slots := 0, locals := 21 }).room s m ([.ref (ad 0), .int a1] : List Value).toArray below meth c H locs 0 0 (zQI below ([.ref (ad 0), .int a1] : List Value).toArray s D cs ad ((xE ki ad) G9 tr9) r9) (F0 m 0 ls []) by rw [hH, hlo] at z; exact z
  clear hH hlo
  refine lv_aload_n S.1 S.2.1 dX4_rateKite_0 rfl (lv_at hl 0 rfl) ?_
  refine lv_dup S.1 S.2.1 dX4_rateKite_1 rfl ?_
  refine zr_get (v := .long tr) S K X (hcs 0 (by decide)) xE_W rfl uX4_rateKite_X4 11 (by decide) kX4_rateKite_250 rfl rfl dX4_rateKite_2 ?_
  refine lv_ldc2 (own := RX4) (v := 100000) S.1 S.2.1 S.2.2.2.1 (S.2.2.2.2 _ qX4_rateKite_268) dX4_rateKite_5 ?_
  refine lv_ladd S.1 S.2.1 dX4_rateKite_8 ?_
  refine zr_putL (fsf := (fun tr => fsW ad tr (G 0))) S K X (hcs 0 (by decide)) xE_trl (fun _ => rfl) rfl uX4_rateKite_X4 tyX4 tyX4_ok nmX4 11 (by decide) kX4_rateKite_250 rfl (by decide +kernel) (by simp) rfl dX4_rateKite_9 (fun H locs X => ?_)
  refine lv_aload_n S.1 S.2.1 dX4_rateKite_12 rfl (lv_at hl 0 rfl) ?_
  refine lv_iload_n S.1 S.2.1 dX4_rateKite_13 rfl (lv_at hl 1 rfl) ?_
  obtain ⟨r_2, G_3, tr_4, hf_1, h⟩ := zbd_some h
  refine zr_calli (Eg := (xE ki ad)) K X (va_runV (As := [.int a1]) (rest := []) S (mX4_rateLetter l D ki ad cs hcs N a1 G (tr + (100000 : Int64)) H.size _ _ _ hf_1) (cwV 1 S.2.2.2.2 gX4_rateKite_X4_rateLetter rfl rfl rfl (by decide +kernel) ⟨Nat.le_of_ble_eq_true rfl, Nat.le_of_ble_eq_true rfl⟩) (zr_preV (c0 := 0) K X (hcs 0 (by decide)) xE_W rfl) rfl rfl hl.1 rfl (lv_room (Nat.le_of_ble_eq_true rfl)) dX4_rateKite_14 ⟨Nat.zero_le _, Nat.zero_le _⟩) (fun H locs X => ?_)
  refine lv_aload_n S.1 S.2.1 dX4_rateKite_17 rfl (lv_at hl 0 rfl) ?_
  refine zr_get (v := .ref (ad 18)) S K X (hcs 0 (by decide)) xE_W rfl uX4_rateKite_X4 3 (by decide) kX4_rateKite_29 rfl rfl dX4_rateKite_18 ?_
  refine zr_get (v := .int (G_3 18 0)) S K X ((kM_now hcs).2 0 (by decide)) (xE_M (kM_now hcs)) rfl uX4_rateKite_X2 0 (by decide) kX4_rateKite_102 rfl rfl dX4_rateKite_21 ?_
  refine lv_iadd S.1 S.2.1 dX4_rateKite_24 ?_
  exact zr_iret S hr hlk X h dX4_rateKite_25
set_option maxRecDepth 20000 in
theorem ggX4_rate_X4_isLetter : GoodIn wsX4_rate wsX4_isLetter := goodIn_r _ [6, 7, 8, 9, 10, 5, 11, 54, 55, 56, 57, 58, 59, 60, 61, 62, 63, 64, 65, 66, 67, 68, 69, 70, 71] (by decide +kernel) (by decide +kernel)
set_option maxRecDepth 20000 in
theorem gX4_rate_X4_isLetter : GoodIn wsX4_rate (wsV RX4 109 RX4 yX4_isLetter wsX4_isLetter) := goodIn_app (goodIn_of _ (by decide +kernel)) ggX4_rate_X4_isLetter
set_option maxRecDepth 20000 in
theorem ggX4_rate_X4_rateLetter : GoodIn wsX4_rate wsX4_rateLetter := goodIn_r _ [15, 16, 7, 17, 18, 54, 55, 56, 57, 58, 59, 60, 61, 62, 63, 64, 65, 66, 67, 68, 69, 70, 71, 72, 73, 74, 75, 76, 77, 78] (by decide +kernel) (by decide +kernel)
set_option maxRecDepth 20000 in
theorem gX4_rate_X4_rateLetter : GoodIn wsX4_rate (wsV RX4 223 RX4 yX4_rateLetter wsX4_rateLetter) := goodIn_app (goodIn_of _ (by decide +kernel)) ggX4_rate_X4_rateLetter
set_option maxRecDepth 20000 in
theorem ggX4_rate_X4_rateSummons : GoodIn wsX4_rate wsX4_rateSummons := goodIn_r _ [22, 16, 23, 7, 17, 24, 12, 13, 14, 5, 15, 18, 25, 26, 27, 28, 29, 30, 31, 54, 55, 56, 57, 58, 59, 60, 61, 62, 63, 64, 65, 66, 67, 68, 69, 70, 71, 72, 73, 74, 75, 76, 77, 78] (by decide +kernel) (by decide +kernel)
set_option maxRecDepth 20000 in
theorem gX4_rate_X4_rateSummons : GoodIn wsX4_rate (wsV RX4 226 RX4 yX4_rateSummons wsX4_rateSummons) := goodIn_app (goodIn_of _ (by decide +kernel)) ggX4_rate_X4_rateSummons
set_option maxRecDepth 20000 in
theorem ggX4_rate_X4_rateGoose : GoodIn wsX4_rate wsX4_rateGoose := goodIn_r _ [35, 16, 36, 7, 17, 37, 12, 13, 14, 5, 15, 18, 54, 55, 56, 57, 58, 59, 60, 61, 62, 63, 64, 65, 66, 67, 68, 69, 70, 71, 72, 73, 74, 75, 76, 77, 78] (by decide +kernel) (by decide +kernel)
set_option maxRecDepth 20000 in
theorem gX4_rate_X4_rateGoose : GoodIn wsX4_rate (wsV RX4 229 RX4 yX4_rateGoose wsX4_rateGoose) := goodIn_app (goodIn_of _ (by decide +kernel)) ggX4_rate_X4_rateGoose
set_option maxRecDepth 20000 in
theorem ggX4_rate_X4_rateBill : GoodIn wsX4_rate wsX4_rateBill := goodIn_r _ [41, 16, 42, 19, 20, 21, 5, 22, 23, 7, 17, 24, 12, 13, 14, 15, 18, 25, 26, 27, 28, 29, 30, 31, 54, 55, 56, 57, 58, 59, 60, 61, 62, 63, 64, 65, 66, 67, 68, 69, 70, 71, 72, 73, 74, 75, 76, 77, 78] (by decide +kernel) (by decide +kernel)
set_option maxRecDepth 20000 in
theorem gX4_rate_X4_rateBill : GoodIn wsX4_rate (wsV RX4 232 RX4 yX4_rateBill wsX4_rateBill) := goodIn_app (goodIn_of _ (by decide +kernel)) ggX4_rate_X4_rateBill
set_option maxRecDepth 20000 in
theorem ggX4_rate_X4_rateVow : GoodIn wsX4_rate wsX4_rateVow := goodIn_r _ [46, 16, 47, 32, 33, 34, 5, 35, 36, 7, 17, 37, 12, 13, 14, 15, 18, 54, 55, 56, 57, 58, 59, 60, 61, 62, 63, 64, 65, 66, 67, 68, 69, 70, 71, 72, 73, 74, 75, 76, 77, 78] (by decide +kernel) (by decide +kernel)
set_option maxRecDepth 20000 in
theorem gX4_rate_X4_rateVow : GoodIn wsX4_rate (wsV RX4 235 RX4 yX4_rateVow wsX4_rateVow) := goodIn_app (goodIn_of _ (by decide +kernel)) ggX4_rate_X4_rateVow
set_option maxRecDepth 20000 in
theorem ggX4_rate_X4_rateKite : GoodIn wsX4_rate wsX4_rateKite := goodIn_r _ [51, 16, 52, 7, 53, 12, 13, 14, 5, 15, 17, 18, 54, 55, 56, 57, 58, 59, 60, 61, 62, 63, 64, 65, 66, 67, 68, 69, 70, 71, 72, 73, 74, 75, 76, 77, 78] (by decide +kernel) (by decide +kernel)
set_option maxRecDepth 20000 in
theorem gX4_rate_X4_rateKite : GoodIn wsX4_rate (wsV RX4 238 RX4 yX4_rateKite wsX4_rateKite) := goodIn_app (goodIn_of _ (by decide +kernel)) ggX4_rate_X4_rateKite
theorem dX4_rate_0 : decode cX4_rate 0 = .ok (.aload_n 0, 1) := by decide +kernel
theorem dX4_rate_1 : decode cX4_rate 1 = .ok (.iload_n 2, 1) := by decide +kernel
theorem dX4_rate_2 : decode cX4_rate 2 = .ok (.invokevirtual 109, 3) := by decide +kernel
theorem dX4_rate_5 : decode cX4_rate 5 = .ok (.ifCond .ne 6, 3) := by decide +kernel
theorem dX4_rate_8 : decode cX4_rate 8 = .ok (.ldc 212, 2) := by decide +kernel
theorem dX4_rate_10 : decode cX4_rate 10 = .ok (.ireturn, 1) := by decide +kernel
theorem dX4_rate_11 : decode cX4_rate 11 = .ok (.iload_n 1, 1) := by decide +kernel
theorem dX4_rate_12 : decode cX4_rate 12 = .ok (.tableswitch 76 0 5 #[40, 46, 52, 58, 64, 70], 40) := by decide +kernel
theorem dX4_rate_52 : decode cX4_rate 52 = .ok (.aload_n 0, 1) := by decide +kernel
theorem dX4_rate_53 : decode cX4_rate 53 = .ok (.iload_n 2, 1) := by decide +kernel
theorem dX4_rate_54 : decode cX4_rate 54 = .ok (.invokevirtual 223, 3) := by decide +kernel
theorem dX4_rate_57 : decode cX4_rate 57 = .ok (.ireturn, 1) := by decide +kernel
theorem dX4_rate_58 : decode cX4_rate 58 = .ok (.aload_n 0, 1) := by decide +kernel
theorem dX4_rate_59 : decode cX4_rate 59 = .ok (.iload_n 2, 1) := by decide +kernel
theorem dX4_rate_60 : decode cX4_rate 60 = .ok (.invokevirtual 226, 3) := by decide +kernel
theorem dX4_rate_63 : decode cX4_rate 63 = .ok (.ireturn, 1) := by decide +kernel
theorem dX4_rate_64 : decode cX4_rate 64 = .ok (.aload_n 0, 1) := by decide +kernel
theorem dX4_rate_65 : decode cX4_rate 65 = .ok (.iload_n 2, 1) := by decide +kernel
theorem dX4_rate_66 : decode cX4_rate 66 = .ok (.invokevirtual 229, 3) := by decide +kernel
theorem dX4_rate_69 : decode cX4_rate 69 = .ok (.ireturn, 1) := by decide +kernel
theorem dX4_rate_70 : decode cX4_rate 70 = .ok (.aload_n 0, 1) := by decide +kernel
theorem dX4_rate_71 : decode cX4_rate 71 = .ok (.iload_n 2, 1) := by decide +kernel
theorem dX4_rate_72 : decode cX4_rate 72 = .ok (.invokevirtual 232, 3) := by decide +kernel
theorem dX4_rate_75 : decode cX4_rate 75 = .ok (.ireturn, 1) := by decide +kernel
theorem dX4_rate_76 : decode cX4_rate 76 = .ok (.aload_n 0, 1) := by decide +kernel
theorem dX4_rate_77 : decode cX4_rate 77 = .ok (.iload_n 2, 1) := by decide +kernel
theorem dX4_rate_78 : decode cX4_rate 78 = .ok (.invokevirtual 235, 3) := by decide +kernel
theorem dX4_rate_81 : decode cX4_rate 81 = .ok (.ireturn, 1) := by decide +kernel
theorem dX4_rate_82 : decode cX4_rate 82 = .ok (.aload_n 0, 1) := by decide +kernel
theorem dX4_rate_83 : decode cX4_rate 83 = .ok (.iload_n 2, 1) := by decide +kernel
theorem dX4_rate_84 : decode cX4_rate 84 = .ok (.invokevirtual 238, 3) := by decide +kernel
theorem dX4_rate_87 : decode cX4_rate 87 = .ok (.ireturn, 1) := by decide +kernel
theorem dX4_rate_88 : decode cX4_rate 88 = .ok (.ldc 212, 2) := by decide +kernel
theorem dX4_rate_90 : decode cX4_rate 90 = .ok (.ireturn, 1) := by decide +kernel
set_option maxRecDepth 20000 in
theorem qX4_rate_212 : Cond.constant RX4 212 (-1000000) ∈ wsX4_rate := by decide +kernel
set_option maxHeartbeats 8000000 in
set_option maxRecDepth 100000 in
theorem mX4_rate (l : Launch) (D : va_G) (ki : Nat → ClassId) (ad : Nat → Nat) (cs : List Nat) (hcs : kW cs) (N : Nat) (a1 : Int32) (a2 : Int32) (G : zMem) (tr : Int64) : gMetI l D ki ad cs yX4_rate wsX4_rate { frames := 3, cells := 0, slots := 0, locals := 63 } [.ref (ad 0), .int a1, .int a2] (xE ki ad) G tr (fX4_rate N a1 a2 G tr) := by
  refine gMetI_of (cc := cX4_rate) (maxL := 3) (ret := (some .int)) (own := RX4) (by decide +kernel) rfl rfl (Nat.le_of_ble_eq_true rfl) ?_
  intro r9 G9 tr9 h p e s m below meth c S hr hlk K X ls hl
  have hl : lv_has ls 3 [(0, .ref (ad 0)), (1, .int a1), (2, .int a2)] := hl
  unfold fX4_rate at h
  obtain ⟨H, hH⟩ : ∃ H, H = s.heap := ⟨_, rfl⟩
  obtain ⟨locs, hlo⟩ : ∃ locs : List Loc, locs = [] := ⟨_, rfl⟩
  have X : gS D cs ad ((xE ki ad) G tr) (gA cs ad s.heap.size) s H locs := by rw [hH, hlo]; exact X
  suffices z : W p l e (headSpec wsX4_rate { frames := 3, cells := 0, slots := 0, locals := 63 }).room s m ([.ref (ad 0), .int a1, .int a2] : List Value).toArray below meth c H locs 0 0 (zQI below ([.ref (ad 0), .int a1, .int a2] : List Value).toArray s D cs ad ((xE ki ad) G9 tr9) r9) (F0 m 0 ls []) by rw [hH, hlo] at z; exact z
  clear hH hlo
  refine lv_aload_n S.1 S.2.1 dX4_rate_0 rfl (lv_at hl 0 rfl) ?_
  refine lv_iload_n S.1 S.2.1 dX4_rate_1 rfl (lv_at hl 2 rfl) ?_
  obtain ⟨r_2, G_3, tr_4, hf_1, h⟩ := zbd_some h
  refine zr_calli (Eg := (xE ki ad)) K X (va_runV (As := [.int a2]) (rest := []) S (mX4_isLetter l D ki ad cs hcs N a2 G tr H.size _ _ _ hf_1) (cwV 1 S.2.2.2.2 gX4_rate_X4_isLetter rfl rfl rfl (by decide +kernel) ⟨Nat.le_of_ble_eq_true rfl, Nat.le_of_ble_eq_true rfl⟩) (zr_preV (c0 := 0) K X (hcs 0 (by decide)) xE_W rfl) rfl rfl hl.1 rfl (lv_room (Nat.le_of_ble_eq_true rfl)) dX4_rate_2 ⟨Nat.zero_le _, Nat.zero_le _⟩) (fun H locs X => ?_)
  refine lv_if_ne (tgt := 11) S.1 S.2.1 dX4_rate_5 (by decide) (fun hc_5 => ?_) (fun hc_5 => ?_)
  · have h := zif_neg hc_5 h
    refine lv_iload_n S.1 S.2.1 dX4_rate_11 rfl (lv_at hl 1 rfl) ?_
    by_cases hc_6 : a1 = 0
    · have h := zif_pos hc_6 h
      refine zr_swIn (off := 40) (tgt := 52) S hc_6 dX4_rate_12 (by decide) ?_
      refine lv_aload_n S.1 S.2.1 dX4_rate_52 rfl (lv_at hl 0 rfl) ?_
      refine lv_iload_n S.1 S.2.1 dX4_rate_53 rfl (lv_at hl 2 rfl) ?_
      obtain ⟨r_8, G_9, tr_10, hf_7, h⟩ := zbd_some h
      refine zr_calli (Eg := (xE ki ad)) K X (va_runV (As := [.int a2]) (rest := []) S (mX4_rateLetter l D ki ad cs hcs N a2 G_3 tr_4 H.size _ _ _ hf_7) (cwV 1 S.2.2.2.2 gX4_rate_X4_rateLetter rfl rfl rfl (by decide +kernel) ⟨Nat.le_of_ble_eq_true rfl, Nat.le_of_ble_eq_true rfl⟩) (zr_preV (c0 := 0) K X (hcs 0 (by decide)) xE_W rfl) rfl rfl hl.1 rfl (lv_room (Nat.le_of_ble_eq_true rfl)) dX4_rate_54 ⟨Nat.zero_le _, Nat.zero_le _⟩) (fun H locs X => ?_)
      exact zr_iret S hr hlk X h dX4_rate_57
    have h := zif_neg hc_6 h
    by_cases hc_11 : a1 = 1
    · have h := zif_pos hc_11 h
      refine zr_swIn (off := 46) (tgt := 58) S hc_11 dX4_rate_12 (by decide) ?_
      refine lv_aload_n S.1 S.2.1 dX4_rate_58 rfl (lv_at hl 0 rfl) ?_
      refine lv_iload_n S.1 S.2.1 dX4_rate_59 rfl (lv_at hl 2 rfl) ?_
      obtain ⟨r_13, G_14, tr_15, hf_12, h⟩ := zbd_some h
      refine zr_calli (Eg := (xE ki ad)) K X (va_runV (As := [.int a2]) (rest := []) S (mX4_rateSummons l D ki ad cs hcs N a2 G_3 tr_4 H.size _ _ _ hf_12) (cwV 1 S.2.2.2.2 gX4_rate_X4_rateSummons rfl rfl rfl (by decide +kernel) ⟨Nat.le_of_ble_eq_true rfl, Nat.le_of_ble_eq_true rfl⟩) (zr_preV (c0 := 0) K X (hcs 0 (by decide)) xE_W rfl) rfl rfl hl.1 rfl (lv_room (Nat.le_of_ble_eq_true rfl)) dX4_rate_60 ⟨Nat.zero_le _, Nat.zero_le _⟩) (fun H locs X => ?_)
      exact zr_iret S hr hlk X h dX4_rate_63
    have h := zif_neg hc_11 h
    by_cases hc_16 : a1 = 2
    · have h := zif_pos hc_16 h
      refine zr_swIn (off := 52) (tgt := 64) S hc_16 dX4_rate_12 (by decide) ?_
      refine lv_aload_n S.1 S.2.1 dX4_rate_64 rfl (lv_at hl 0 rfl) ?_
      refine lv_iload_n S.1 S.2.1 dX4_rate_65 rfl (lv_at hl 2 rfl) ?_
      obtain ⟨r_18, G_19, tr_20, hf_17, h⟩ := zbd_some h
      refine zr_calli (Eg := (xE ki ad)) K X (va_runV (As := [.int a2]) (rest := []) S (mX4_rateGoose l D ki ad cs hcs N a2 G_3 tr_4 H.size _ _ _ hf_17) (cwV 1 S.2.2.2.2 gX4_rate_X4_rateGoose rfl rfl rfl (by decide +kernel) ⟨Nat.le_of_ble_eq_true rfl, Nat.le_of_ble_eq_true rfl⟩) (zr_preV (c0 := 0) K X (hcs 0 (by decide)) xE_W rfl) rfl rfl hl.1 rfl (lv_room (Nat.le_of_ble_eq_true rfl)) dX4_rate_66 ⟨Nat.zero_le _, Nat.zero_le _⟩) (fun H locs X => ?_)
      exact zr_iret S hr hlk X h dX4_rate_69
    have h := zif_neg hc_16 h
    by_cases hc_21 : a1 = 3
    · have h := zif_pos hc_21 h
      refine zr_swIn (off := 58) (tgt := 70) S hc_21 dX4_rate_12 (by decide) ?_
      refine lv_aload_n S.1 S.2.1 dX4_rate_70 rfl (lv_at hl 0 rfl) ?_
      refine lv_iload_n S.1 S.2.1 dX4_rate_71 rfl (lv_at hl 2 rfl) ?_
      obtain ⟨r_23, G_24, tr_25, hf_22, h⟩ := zbd_some h
      refine zr_calli (Eg := (xE ki ad)) K X (va_runV (As := [.int a2]) (rest := []) S (mX4_rateBill l D ki ad cs hcs N a2 G_3 tr_4 H.size _ _ _ hf_22) (cwV 1 S.2.2.2.2 gX4_rate_X4_rateBill rfl rfl rfl (by decide +kernel) ⟨Nat.le_of_ble_eq_true rfl, Nat.le_of_ble_eq_true rfl⟩) (zr_preV (c0 := 0) K X (hcs 0 (by decide)) xE_W rfl) rfl rfl hl.1 rfl (lv_room (Nat.le_of_ble_eq_true rfl)) dX4_rate_72 ⟨Nat.zero_le _, Nat.zero_le _⟩) (fun H locs X => ?_)
      exact zr_iret S hr hlk X h dX4_rate_75
    have h := zif_neg hc_21 h
    by_cases hc_26 : a1 = 4
    · have h := zif_pos hc_26 h
      refine zr_swIn (off := 64) (tgt := 76) S hc_26 dX4_rate_12 (by decide) ?_
      refine lv_aload_n S.1 S.2.1 dX4_rate_76 rfl (lv_at hl 0 rfl) ?_
      refine lv_iload_n S.1 S.2.1 dX4_rate_77 rfl (lv_at hl 2 rfl) ?_
      obtain ⟨r_28, G_29, tr_30, hf_27, h⟩ := zbd_some h
      refine zr_calli (Eg := (xE ki ad)) K X (va_runV (As := [.int a2]) (rest := []) S (mX4_rateVow l D ki ad cs hcs N a2 G_3 tr_4 H.size _ _ _ hf_27) (cwV 1 S.2.2.2.2 gX4_rate_X4_rateVow rfl rfl rfl (by decide +kernel) ⟨Nat.le_of_ble_eq_true rfl, Nat.le_of_ble_eq_true rfl⟩) (zr_preV (c0 := 0) K X (hcs 0 (by decide)) xE_W rfl) rfl rfl hl.1 rfl (lv_room (Nat.le_of_ble_eq_true rfl)) dX4_rate_78 ⟨Nat.zero_le _, Nat.zero_le _⟩) (fun H locs X => ?_)
      exact zr_iret S hr hlk X h dX4_rate_81
    have h := zif_neg hc_26 h
    by_cases hc_31 : a1 = 5
    · have h := zif_pos hc_31 h
      refine zr_swIn (off := 70) (tgt := 82) S hc_31 dX4_rate_12 (by decide) ?_
      refine lv_aload_n S.1 S.2.1 dX4_rate_82 rfl (lv_at hl 0 rfl) ?_
      refine lv_iload_n S.1 S.2.1 dX4_rate_83 rfl (lv_at hl 2 rfl) ?_
      obtain ⟨r_33, G_34, tr_35, hf_32, h⟩ := zbd_some h
      refine zr_calli (Eg := (xE ki ad)) K X (va_runV (As := [.int a2]) (rest := []) S (mX4_rateKite l D ki ad cs hcs N a2 G_3 tr_4 H.size _ _ _ hf_32) (cwV 1 S.2.2.2.2 gX4_rate_X4_rateKite rfl rfl rfl (by decide +kernel) ⟨Nat.le_of_ble_eq_true rfl, Nat.le_of_ble_eq_true rfl⟩) (zr_preV (c0 := 0) K X (hcs 0 (by decide)) xE_W rfl) rfl rfl hl.1 rfl (lv_room (Nat.le_of_ble_eq_true rfl)) dX4_rate_84 ⟨Nat.zero_le _, Nat.zero_le _⟩) (fun H locs X => ?_)
      exact zr_iret S hr hlk X h dX4_rate_87
    have h := zif_neg hc_31 h
    refine lv_tableOut (tgt := 88) S.1 S.2.1 dX4_rate_12 (by
        have e0 := ztoInt_ne hc_6
        rw [show ((0 : Int32)).toInt = 0 from rfl] at e0
        have e1 := ztoInt_ne hc_11
        rw [show ((1 : Int32)).toInt = 1 from rfl] at e1
        have e2 := ztoInt_ne hc_16
        rw [show ((2 : Int32)).toInt = 2 from rfl] at e2
        have e3 := ztoInt_ne hc_21
        rw [show ((3 : Int32)).toInt = 3 from rfl] at e3
        have e4 := ztoInt_ne hc_26
        rw [show ((4 : Int32)).toInt = 4 from rfl] at e4
        have e5 := ztoInt_ne hc_31
        rw [show ((5 : Int32)).toInt = 5 from rfl] at e5
        omega) (by decide) ?_
    refine lv_ldc (own := RX4) (v := (-1000000 : Int32)) S.1 S.2.1 S.2.2.2.1 (S.2.2.2.2 _ qX4_rate_212) dX4_rate_88 ?_
    exact zr_iret S hr hlk X h dX4_rate_90
  · have h := zif_pos hc_5 h
    refine lv_ldc (own := RX4) (v := (-1000000 : Int32)) S.1 S.2.1 S.2.2.2.1 (S.2.2.2.2 _ qX4_rate_212) dX4_rate_8 ?_
    exact zr_iret S hr hlk X h dX4_rate_10
set_option maxRecDepth 20000 in
theorem ggX4_keep_X4_isWithin : GoodIn wsX4_keep wsX4_isWithin := goodIn_r _ [8] (by decide +kernel) (by decide +kernel)
set_option maxRecDepth 20000 in
theorem gX4_keep_X4_isWithin : GoodIn wsX4_keep (va_wsS RX4 54 yX4_isWithin wsX4_isWithin) := goodIn_app (goodIn_of _ (by decide +kernel)) ggX4_keep_X4_isWithin
set_option maxRecDepth 20000 in
theorem ggX4_keep_X2_copyFrom : GoodIn wsX4_keep wsX2_copyFrom := goodIn_r _ [13, 14, 15, 16, 17, 18, 19, 20, 21, 22, 23, 24, 25, 26, 27, 28, 29, 30, 31, 44, 45, 46, 47, 48, 49, 50, 51, 52, 53, 54, 55, 56] (by decide +kernel) (by decide +kernel)
set_option maxRecDepth 20000 in
theorem gX4_keep_X2_copyFrom : GoodIn wsX4_keep (wsV RX4 167 RX2 yX2_copyFrom wsX2_copyFrom) := goodIn_app (goodIn_of _ (by decide +kernel)) ggX4_keep_X2_copyFrom
theorem dX4_keep_0 : decode cX4_keep 0 = .ok (.iload_n 1, 1) := by decide +kernel
theorem dX4_keep_1 : decode cX4_keep 1 = .ok (.iconst 0, 1) := by decide +kernel
theorem dX4_keep_2 : decode cX4_keep 2 = .ok (.iconst 1, 1) := by decide +kernel
theorem dX4_keep_3 : decode cX4_keep 3 = .ok (.invokestatic 54, 3) := by decide +kernel
theorem dX4_keep_6 : decode cX4_keep 6 = .ok (.ifCond .ne 5, 3) := by decide +kernel
theorem dX4_keep_9 : decode cX4_keep 9 = .ok (.iconst (-1), 1) := by decide +kernel
theorem dX4_keep_10 : decode cX4_keep 10 = .ok (.ireturn, 1) := by decide +kernel
theorem dX4_keep_11 : decode cX4_keep 11 = .ok (.aload_n 0, 1) := by decide +kernel
theorem dX4_keep_12 : decode cX4_keep 12 = .ok (.getfield 37, 3) := by decide +kernel
theorem dX4_keep_15 : decode cX4_keep 15 = .ok (.iload_n 1, 1) := by decide +kernel
theorem dX4_keep_16 : decode cX4_keep 16 = .ok (.aaload, 1) := by decide +kernel
theorem dX4_keep_17 : decode cX4_keep 17 = .ok (.aload_n 0, 1) := by decide +kernel
theorem dX4_keep_18 : decode cX4_keep 18 = .ok (.getfield 29, 3) := by decide +kernel
theorem dX4_keep_21 : decode cX4_keep 21 = .ok (.invokevirtual 167, 3) := by decide +kernel
theorem dX4_keep_24 : decode cX4_keep 24 = .ok (.aload_n 0, 1) := by decide +kernel
theorem dX4_keep_25 : decode cX4_keep 25 = .ok (.getfield 40, 3) := by decide +kernel
theorem dX4_keep_28 : decode cX4_keep 28 = .ok (.iload_n 1, 1) := by decide +kernel
theorem dX4_keep_29 : decode cX4_keep 29 = .ok (.iconst 1, 1) := by decide +kernel
theorem dX4_keep_30 : decode cX4_keep 30 = .ok (.bastore, 1) := by decide +kernel
theorem dX4_keep_31 : decode cX4_keep 31 = .ok (.aload_n 0, 1) := by decide +kernel
theorem dX4_keep_32 : decode cX4_keep 32 = .ok (.getfield 29, 3) := by decide +kernel
theorem dX4_keep_35 : decode cX4_keep 35 = .ok (.getfield 102, 3) := by decide +kernel
theorem dX4_keep_38 : decode cX4_keep 38 = .ok (.ireturn, 1) := by decide +kernel
set_option maxRecDepth 20000 in
theorem kX4_keep_29 : Cond.fieldLink RX4 29 "WindPost" "now" "LWindPost$Moment;" ∈ wsX4_keep := by decide +kernel
set_option maxRecDepth 20000 in
theorem kX4_keep_37 : Cond.fieldLink RX4 37 "WindPost" "images" "[LWindPost$Moment;" ∈ wsX4_keep := by decide +kernel
set_option maxRecDepth 20000 in
theorem kX4_keep_40 : Cond.fieldLink RX4 40 "WindPost" "kept" "[Z" ∈ wsX4_keep := by decide +kernel
set_option maxRecDepth 20000 in
theorem kX4_keep_102 : Cond.fieldLink RX4 102 "WindPost$Moment" "time" "I" ∈ wsX4_keep := by decide +kernel
set_option maxRecDepth 20000 in
theorem uX4_keep_X2 : ∀ w ∈ wsX20, w ∈ wsX4_keep := by decide +kernel
set_option maxRecDepth 20000 in
theorem uX4_keep_X4 : ∀ w ∈ wsX40, w ∈ wsX4_keep := by decide +kernel
set_option maxHeartbeats 8000000 in
set_option maxRecDepth 100000 in
theorem mX4_keep (l : Launch) (D : va_G) (ki : Nat → ClassId) (ad : Nat → Nat) (cs : List Nat) (hcs : kW cs) (N : Nat) (a1 : Int32) (G : zMem) (tr : Int64) : gMetI l D ki ad cs yX4_keep wsX4_keep { frames := 2, cells := 0, slots := 0, locals := 43 } [.ref (ad 0), .int a1] (xE ki ad) G tr (fX4_keep N a1 G tr) := by
  refine gMetI_of (cc := cX4_keep) (maxL := 2) (ret := (some .int)) (own := RX4) (by decide +kernel) rfl rfl (Nat.le_of_ble_eq_true rfl) ?_
  intro r9 G9 tr9 h p e s m below meth c S hr hlk K X ls hl
  have hl : lv_has ls 2 [(0, .ref (ad 0)), (1, .int a1)] := hl
  unfold fX4_keep at h
  obtain ⟨H, hH⟩ : ∃ H, H = s.heap := ⟨_, rfl⟩
  obtain ⟨locs, hlo⟩ : ∃ locs : List Loc, locs = [] := ⟨_, rfl⟩
  have X : gS D cs ad ((xE ki ad) G tr) (gA cs ad s.heap.size) s H locs := by rw [hH, hlo]; exact X
  suffices z : W p l e (headSpec wsX4_keep { frames := 2, cells := 0, slots := 0, locals := 43 }).room s m ([.ref (ad 0), .int a1] : List Value).toArray below meth c H locs 0 0 (zQI below ([.ref (ad 0), .int a1] : List Value).toArray s D cs ad ((xE ki ad) G9 tr9) r9) (F0 m 0 ls []) by rw [hH, hlo] at z; exact z
  clear hH hlo
  refine lv_iload_n S.1 S.2.1 dX4_keep_0 rfl (lv_at hl 1 rfl) ?_
  refine lv_iconst (v := (0 : Int32)) S.1 S.2.1 dX4_keep_1 (by decide) ?_
  refine lv_iconst (v := (1 : Int32)) S.1 S.2.1 dX4_keep_2 (by decide) ?_
  obtain ⟨r_2, hf_1, h⟩ := zbp_some h
  refine zr_calli (Eg := (xE ki ad)) (G' := G) (tr' := tr) K X (va_runS (As := [.int a1, .int (0 : Int32), .int (1 : Int32)]) (rest := []) S (mX4_isWithin l D ki ad cs N a1 (0 : Int32) (1 : Int32) (xE ki ad) G tr H.size _ _ _ (zpu_of hf_1)) (va_cwS 3 S.2.2.2.2 gX4_keep_X4_isWithin rfl rfl rfl (by decide +kernel) ⟨Nat.le_of_ble_eq_true rfl, Nat.le_of_ble_eq_true rfl⟩) (zr_pre K X) rfl rfl hl.1 rfl (lv_room (Nat.le_of_ble_eq_true rfl)) dX4_keep_3 ⟨Nat.zero_le _, Nat.zero_le _⟩) (fun H locs X => ?_)
  refine lv_if_ne (tgt := 11) S.1 S.2.1 dX4_keep_6 (by decide) (fun hc_3 => ?_) (fun hc_3 => ?_)
  · have h := zif_neg hc_3 h
    refine lv_aload_n S.1 S.2.1 dX4_keep_11 rfl (lv_at hl 0 rfl) ?_
    refine zr_get (v := .ref (ad 16)) S K X (hcs 0 (by decide)) xE_W rfl uX4_keep_X4 7 (by decide) kX4_keep_37 rfl rfl dX4_keep_12 ?_
    refine lv_iload_n S.1 S.2.1 dX4_keep_15 rfl (lv_at hl 1 rfl) ?_
    obtain ⟨hi_4, h⟩ := zin_some h
    refine zr_aald (f := (fun j => 106 + 8 * j)) (t0 := 3) (C := "WindPost$Moment") S K X (hcs 16 (by decide)) xE_16 rfl hi_4 dX4_keep_16 ?_
    refine lv_aload_n S.1 S.2.1 dX4_keep_17 rfl (lv_at hl 0 rfl) ?_
    refine zr_get (v := .ref (ad 18)) S K X (hcs 0 (by decide)) xE_W rfl uX4_keep_X4 3 (by decide) kX4_keep_29 rfl rfl dX4_keep_18 ?_
    obtain ⟨r_6, G_7, tr_8, hf_5, h⟩ := zbd_some h
    refine zr_callv (Eg := (xE ki ad)) K X (va_runV (As := [.ref (ad 18)]) (rest := []) S (mX2_copyFrom l D ki ad cs hcs N (106 + 8 * (Int32.toNatClampNeg a1)) 18 (kM_image hcs hi_4) (kM_now hcs) G tr H.size _ _ _ hf_5) (cwV 1 S.2.2.2.2 gX4_keep_X2_copyFrom rfl rfl rfl (by decide +kernel) ⟨Nat.le_of_ble_eq_true rfl, Nat.le_of_ble_eq_true rfl⟩) (zr_preV (c0 := (106 + 8 * (Int32.toNatClampNeg a1))) K X ((kM_image hcs hi_4).2 0 (by decide)) (xE_M (kM_image hcs hi_4)) rfl) rfl rfl hl.1 rfl (lv_room (Nat.le_of_ble_eq_true rfl)) dX4_keep_21 ⟨Nat.zero_le _, Nat.zero_le _⟩) (fun H locs X => ?_)
    refine lv_aload_n S.1 S.2.1 dX4_keep_24 rfl (lv_at hl 0 rfl) ?_
    refine zr_get (v := .ref (ad 17)) S K X (hcs 0 (by decide)) xE_W rfl uX4_keep_X4 8 (by decide) kX4_keep_40 rfl rfl dX4_keep_25 ?_
    refine lv_iload_n S.1 S.2.1 dX4_keep_28 rfl (lv_at hl 1 rfl) ?_
    refine lv_iconst (v := (1 : Int32)) S.1 S.2.1 dX4_keep_29 (by decide) ?_
    obtain ⟨hi_9, h⟩ := zin_some h
    obtain ⟨hz_10, h⟩ := zbo_some h
    refine zr_zast S K X (hcs 17 (by decide)) xE_loc (fun _ => xE_17) hi_9 hz_10 dX4_keep_30 (fun H locs X => ?_)
    refine lv_aload_n S.1 S.2.1 dX4_keep_31 rfl (lv_at hl 0 rfl) ?_
    refine zr_get (v := .ref (ad 18)) S K X (hcs 0 (by decide)) xE_W rfl uX4_keep_X4 3 (by decide) kX4_keep_29 rfl rfl dX4_keep_32 ?_
    refine zr_get (v := .int ((up2 G_7 17 (Int32.toNatClampNeg a1) (1 : Int32)) 18 0)) S K X ((kM_now hcs).2 0 (by decide)) (xE_M (kM_now hcs)) rfl uX4_keep_X2 0 (by decide) kX4_keep_102 rfl rfl dX4_keep_35 ?_
    exact zr_iret S hr hlk X h dX4_keep_38
  · have h := zif_pos hc_3 h
    refine lv_iconst (v := (-1 : Int32)) S.1 S.2.1 dX4_keep_9 (by decide) ?_
    exact zr_iret S hr hlk X h dX4_keep_10
set_option maxRecDepth 20000 in
theorem ggX4_back_X4_isWithin : GoodIn wsX4_back wsX4_isWithin := goodIn_r _ [9] (by decide +kernel) (by decide +kernel)
set_option maxRecDepth 20000 in
theorem gX4_back_X4_isWithin : GoodIn wsX4_back (va_wsS RX4 54 yX4_isWithin wsX4_isWithin) := goodIn_app (goodIn_of _ (by decide +kernel)) ggX4_back_X4_isWithin
set_option maxRecDepth 20000 in
theorem ggX4_back_X2_copyFrom : GoodIn wsX4_back wsX2_copyFrom := goodIn_r _ [14, 15, 16, 17, 18, 19, 20, 21, 22, 23, 24, 25, 26, 27, 28, 29, 30, 31, 32, 45, 46, 47, 48, 49, 50, 51, 52, 53, 54, 55, 56, 57] (by decide +kernel) (by decide +kernel)
set_option maxRecDepth 20000 in
theorem gX4_back_X2_copyFrom : GoodIn wsX4_back (wsV RX4 167 RX2 yX2_copyFrom wsX2_copyFrom) := goodIn_app (goodIn_of _ (by decide +kernel)) ggX4_back_X2_copyFrom
theorem dX4_back_0 : decode cX4_back 0 = .ok (.iload_n 1, 1) := by decide +kernel
theorem dX4_back_1 : decode cX4_back 1 = .ok (.iconst 0, 1) := by decide +kernel
theorem dX4_back_2 : decode cX4_back 2 = .ok (.iconst 1, 1) := by decide +kernel
theorem dX4_back_3 : decode cX4_back 3 = .ok (.invokestatic 54, 3) := by decide +kernel
theorem dX4_back_6 : decode cX4_back 6 = .ok (.ifCond .ne 5, 3) := by decide +kernel
theorem dX4_back_9 : decode cX4_back 9 = .ok (.iconst (-1), 1) := by decide +kernel
theorem dX4_back_10 : decode cX4_back 10 = .ok (.ireturn, 1) := by decide +kernel
theorem dX4_back_11 : decode cX4_back 11 = .ok (.aload_n 0, 1) := by decide +kernel
theorem dX4_back_12 : decode cX4_back 12 = .ok (.getfield 40, 3) := by decide +kernel
theorem dX4_back_15 : decode cX4_back 15 = .ok (.iload_n 1, 1) := by decide +kernel
theorem dX4_back_16 : decode cX4_back 16 = .ok (.baload, 1) := by decide +kernel
theorem dX4_back_17 : decode cX4_back 17 = .ok (.ifCond .ne 6, 3) := by decide +kernel
theorem dX4_back_20 : decode cX4_back 20 = .ok (.bipush (-2), 2) := by decide +kernel
theorem dX4_back_22 : decode cX4_back 22 = .ok (.ireturn, 1) := by decide +kernel
theorem dX4_back_23 : decode cX4_back 23 = .ok (.aload_n 0, 1) := by decide +kernel
theorem dX4_back_24 : decode cX4_back 24 = .ok (.getfield 29, 3) := by decide +kernel
theorem dX4_back_27 : decode cX4_back 27 = .ok (.aload_n 0, 1) := by decide +kernel
theorem dX4_back_28 : decode cX4_back 28 = .ok (.getfield 37, 3) := by decide +kernel
theorem dX4_back_31 : decode cX4_back 31 = .ok (.iload_n 1, 1) := by decide +kernel
theorem dX4_back_32 : decode cX4_back 32 = .ok (.aaload, 1) := by decide +kernel
theorem dX4_back_33 : decode cX4_back 33 = .ok (.invokevirtual 167, 3) := by decide +kernel
theorem dX4_back_36 : decode cX4_back 36 = .ok (.aload_n 0, 1) := by decide +kernel
theorem dX4_back_37 : decode cX4_back 37 = .ok (.iconst 0, 1) := by decide +kernel
theorem dX4_back_38 : decode cX4_back 38 = .ok (.putfield 77, 3) := by decide +kernel
theorem dX4_back_41 : decode cX4_back 41 = .ok (.aload_n 0, 1) := by decide +kernel
theorem dX4_back_42 : decode cX4_back 42 = .ok (.getfield 29, 3) := by decide +kernel
theorem dX4_back_45 : decode cX4_back 45 = .ok (.getfield 102, 3) := by decide +kernel
theorem dX4_back_48 : decode cX4_back 48 = .ok (.ireturn, 1) := by decide +kernel
set_option maxRecDepth 20000 in
theorem kX4_back_29 : Cond.fieldLink RX4 29 "WindPost" "now" "LWindPost$Moment;" ∈ wsX4_back := by decide +kernel
set_option maxRecDepth 20000 in
theorem kX4_back_37 : Cond.fieldLink RX4 37 "WindPost" "images" "[LWindPost$Moment;" ∈ wsX4_back := by decide +kernel
set_option maxRecDepth 20000 in
theorem kX4_back_40 : Cond.fieldLink RX4 40 "WindPost" "kept" "[Z" ∈ wsX4_back := by decide +kernel
set_option maxRecDepth 20000 in
theorem kX4_back_77 : Cond.fieldLink RX4 77 "WindPost" "pastKnown" "I" ∈ wsX4_back := by decide +kernel
set_option maxRecDepth 20000 in
theorem kX4_back_102 : Cond.fieldLink RX4 102 "WindPost$Moment" "time" "I" ∈ wsX4_back := by decide +kernel
set_option maxRecDepth 20000 in
theorem uX4_back_X2 : ∀ w ∈ wsX20, w ∈ wsX4_back := by decide +kernel
set_option maxRecDepth 20000 in
theorem uX4_back_X4 : ∀ w ∈ wsX40, w ∈ wsX4_back := by decide +kernel
set_option maxHeartbeats 8000000 in
set_option maxRecDepth 100000 in
theorem mX4_back (l : Launch) (D : va_G) (ki : Nat → ClassId) (ad : Nat → Nat) (cs : List Nat) (hcs : kW cs) (N : Nat) (a1 : Int32) (G : zMem) (tr : Int64) : gMetI l D ki ad cs yX4_back wsX4_back { frames := 2, cells := 0, slots := 0, locals := 43 } [.ref (ad 0), .int a1] (xE ki ad) G tr (fX4_back N a1 G tr) := by
  refine gMetI_of (cc := cX4_back) (maxL := 2) (ret := (some .int)) (own := RX4) (by decide +kernel) rfl rfl (Nat.le_of_ble_eq_true rfl) ?_
  intro r9 G9 tr9 h p e s m below meth c S hr hlk K X ls hl
  have hl : lv_has ls 2 [(0, .ref (ad 0)), (1, .int a1)] := hl
  unfold fX4_back at h
  obtain ⟨H, hH⟩ : ∃ H, H = s.heap := ⟨_, rfl⟩
  obtain ⟨locs, hlo⟩ : ∃ locs : List Loc, locs = [] := ⟨_, rfl⟩
  have X : gS D cs ad ((xE ki ad) G tr) (gA cs ad s.heap.size) s H locs := by rw [hH, hlo]; exact X
  suffices z : W p l e (headSpec wsX4_back { frames := 2, cells := 0, slots := 0, locals := 43 }).room s m ([.ref (ad 0), .int a1] : List Value).toArray below meth c H locs 0 0 (zQI below ([.ref (ad 0), .int a1] : List Value).toArray s D cs ad ((xE ki ad) G9 tr9) r9) (F0 m 0 ls []) by rw [hH, hlo] at z; exact z
  clear hH hlo
  refine lv_iload_n S.1 S.2.1 dX4_back_0 rfl (lv_at hl 1 rfl) ?_
  refine lv_iconst (v := (0 : Int32)) S.1 S.2.1 dX4_back_1 (by decide) ?_
  refine lv_iconst (v := (1 : Int32)) S.1 S.2.1 dX4_back_2 (by decide) ?_
  obtain ⟨r_2, hf_1, h⟩ := zbp_some h
  refine zr_calli (Eg := (xE ki ad)) (G' := G) (tr' := tr) K X (va_runS (As := [.int a1, .int (0 : Int32), .int (1 : Int32)]) (rest := []) S (mX4_isWithin l D ki ad cs N a1 (0 : Int32) (1 : Int32) (xE ki ad) G tr H.size _ _ _ (zpu_of hf_1)) (va_cwS 3 S.2.2.2.2 gX4_back_X4_isWithin rfl rfl rfl (by decide +kernel) ⟨Nat.le_of_ble_eq_true rfl, Nat.le_of_ble_eq_true rfl⟩) (zr_pre K X) rfl rfl hl.1 rfl (lv_room (Nat.le_of_ble_eq_true rfl)) dX4_back_3 ⟨Nat.zero_le _, Nat.zero_le _⟩) (fun H locs X => ?_)
  refine lv_if_ne (tgt := 11) S.1 S.2.1 dX4_back_6 (by decide) (fun hc_3 => ?_) (fun hc_3 => ?_)
  · have h := zif_neg hc_3 h
    refine lv_aload_n S.1 S.2.1 dX4_back_11 rfl (lv_at hl 0 rfl) ?_
    refine zr_get (v := .ref (ad 17)) S K X (hcs 0 (by decide)) xE_W rfl uX4_back_X4 8 (by decide) kX4_back_40 rfl rfl dX4_back_12 ?_
    refine lv_iload_n S.1 S.2.1 dX4_back_15 rfl (lv_at hl 1 rfl) ?_
    obtain ⟨hi_4, h⟩ := zin_some h
    refine zr_zald S K X (hcs 17 (by decide)) xE_17 hi_4 dX4_back_16 ?_
    refine lv_if_ne (tgt := 23) S.1 S.2.1 dX4_back_17 (by decide) (fun hc_5 => ?_) (fun hc_5 => ?_)
    · have h := zif_neg hc_5 h
      refine lv_aload_n S.1 S.2.1 dX4_back_23 rfl (lv_at hl 0 rfl) ?_
      refine zr_get (v := .ref (ad 18)) S K X (hcs 0 (by decide)) xE_W rfl uX4_back_X4 3 (by decide) kX4_back_29 rfl rfl dX4_back_24 ?_
      refine lv_aload_n S.1 S.2.1 dX4_back_27 rfl (lv_at hl 0 rfl) ?_
      refine zr_get (v := .ref (ad 16)) S K X (hcs 0 (by decide)) xE_W rfl uX4_back_X4 7 (by decide) kX4_back_37 rfl rfl dX4_back_28 ?_
      refine lv_iload_n S.1 S.2.1 dX4_back_31 rfl (lv_at hl 1 rfl) ?_
      obtain ⟨hi_6, h⟩ := zin_some h
      refine zr_aald (f := (fun j => 106 + 8 * j)) (t0 := 3) (C := "WindPost$Moment") S K X (hcs 16 (by decide)) xE_16 rfl hi_6 dX4_back_32 ?_
      obtain ⟨r_8, G_9, tr_10, hf_7, h⟩ := zbd_some h
      refine zr_callv (Eg := (xE ki ad)) K X (va_runV (As := [.ref (ad (106 + 8 * (Int32.toNatClampNeg a1)))]) (rest := []) S (mX2_copyFrom l D ki ad cs hcs N 18 (106 + 8 * (Int32.toNatClampNeg a1)) (kM_now hcs) (kM_image hcs hi_6) G tr H.size _ _ _ hf_7) (cwV 1 S.2.2.2.2 gX4_back_X2_copyFrom rfl rfl rfl (by decide +kernel) ⟨Nat.le_of_ble_eq_true rfl, Nat.le_of_ble_eq_true rfl⟩) (zr_preV (c0 := 18) K X ((kM_now hcs).2 0 (by decide)) (xE_M (kM_now hcs)) rfl) rfl rfl hl.1 rfl (lv_room (Nat.le_of_ble_eq_true rfl)) dX4_back_33 ⟨Nat.zero_le _, Nat.zero_le _⟩) (fun H locs X => ?_)
      refine lv_aload_n S.1 S.2.1 dX4_back_36 rfl (lv_at hl 0 rfl) ?_
      refine lv_iconst (v := (0 : Int32)) S.1 S.2.1 dX4_back_37 (by decide) ?_
      refine zr_put (xv := (0 : Int32)) (v := .int (0 : Int32)) (fsf := (fsW ad tr_10)) (ty := .int) S K X (hcs 0 (by decide)) xE_loc (fun _ => xE_W) rfl uX4_back_X4 tyX4 tyX4_ok nmX4 6 (by decide) kX4_back_77 rfl (by decide +kernel) rfl rfl (by simp) rfl dX4_back_38 (fun H locs X => ?_)
      refine lv_aload_n S.1 S.2.1 dX4_back_41 rfl (lv_at hl 0 rfl) ?_
      refine zr_get (v := .ref (ad 18)) S K X (hcs 0 (by decide)) xE_W rfl uX4_back_X4 3 (by decide) kX4_back_29 rfl rfl dX4_back_42 ?_
      refine zr_get (v := .int ((up2 G_9 0 6 (0 : Int32)) 18 0)) S K X ((kM_now hcs).2 0 (by decide)) (xE_M (kM_now hcs)) rfl uX4_back_X2 0 (by decide) kX4_back_102 rfl rfl dX4_back_45 ?_
      exact zr_iret S hr hlk X h dX4_back_48
    · have h := zif_pos hc_5 h
      refine lv_bipush (v := (-2 : Int32)) S.1 S.2.1 dX4_back_20 (by decide) ?_
      exact zr_iret S hr hlk X h dX4_back_22
  · have h := zif_pos hc_3 h
    refine lv_iconst (v := (-1 : Int32)) S.1 S.2.1 dX4_back_9 (by decide) ?_
    exact zr_iret S hr hlk X h dX4_back_10
theorem dX4_count_0 : decode cX4_count 0 = .ok (.iload_n 1, 1) := by decide +kernel
theorem dX4_count_1 : decode cX4_count 1 = .ok (.tableswitch 99 0 6 #[43, 51, 59, 67, 75, 83, 91], 43) := by decide +kernel
theorem dX4_count_44 : decode cX4_count 44 = .ok (.aload_n 0, 1) := by decide +kernel
theorem dX4_count_45 : decode cX4_count 45 = .ok (.getfield 19, 3) := by decide +kernel
theorem dX4_count_48 : decode cX4_count 48 = .ok (.getfield 241, 3) := by decide +kernel
theorem dX4_count_51 : decode cX4_count 51 = .ok (.ireturn, 1) := by decide +kernel
theorem dX4_count_52 : decode cX4_count 52 = .ok (.aload_n 0, 1) := by decide +kernel
theorem dX4_count_53 : decode cX4_count 53 = .ok (.getfield 19, 3) := by decide +kernel
theorem dX4_count_56 : decode cX4_count 56 = .ok (.getfield 244, 3) := by decide +kernel
theorem dX4_count_59 : decode cX4_count 59 = .ok (.ireturn, 1) := by decide +kernel
theorem dX4_count_60 : decode cX4_count 60 = .ok (.aload_n 0, 1) := by decide +kernel
theorem dX4_count_61 : decode cX4_count 61 = .ok (.getfield 19, 3) := by decide +kernel
theorem dX4_count_64 : decode cX4_count 64 = .ok (.getfield 194, 3) := by decide +kernel
theorem dX4_count_67 : decode cX4_count 67 = .ok (.ireturn, 1) := by decide +kernel
theorem dX4_count_68 : decode cX4_count 68 = .ok (.aload_n 0, 1) := by decide +kernel
theorem dX4_count_69 : decode cX4_count 69 = .ok (.getfield 19, 3) := by decide +kernel
theorem dX4_count_72 : decode cX4_count 72 = .ok (.getfield 247, 3) := by decide +kernel
theorem dX4_count_75 : decode cX4_count 75 = .ok (.ireturn, 1) := by decide +kernel
theorem dX4_count_76 : decode cX4_count 76 = .ok (.aload_n 0, 1) := by decide +kernel
theorem dX4_count_77 : decode cX4_count 77 = .ok (.getfield 29, 3) := by decide +kernel
theorem dX4_count_80 : decode cX4_count 80 = .ok (.getfield 158, 3) := by decide +kernel
theorem dX4_count_83 : decode cX4_count 83 = .ok (.ireturn, 1) := by decide +kernel
theorem dX4_count_84 : decode cX4_count 84 = .ok (.aload_n 0, 1) := by decide +kernel
theorem dX4_count_85 : decode cX4_count 85 = .ok (.getfield 19, 3) := by decide +kernel
theorem dX4_count_88 : decode cX4_count 88 = .ok (.getfield 213, 3) := by decide +kernel
theorem dX4_count_91 : decode cX4_count 91 = .ok (.ireturn, 1) := by decide +kernel
theorem dX4_count_92 : decode cX4_count 92 = .ok (.aload_n 0, 1) := by decide +kernel
theorem dX4_count_93 : decode cX4_count 93 = .ok (.getfield 10, 3) := by decide +kernel
theorem dX4_count_96 : decode cX4_count 96 = .ok (.getfield 58, 3) := by decide +kernel
theorem dX4_count_99 : decode cX4_count 99 = .ok (.ireturn, 1) := by decide +kernel
theorem dX4_count_100 : decode cX4_count 100 = .ok (.iconst (-1), 1) := by decide +kernel
theorem dX4_count_101 : decode cX4_count 101 = .ok (.ireturn, 1) := by decide +kernel
set_option maxRecDepth 20000 in
theorem kX4_count_10 : Cond.fieldLink RX4 10 "WindPost" "text" "LWindPost$Text;" ∈ wsX4_count := by decide +kernel
set_option maxRecDepth 20000 in
theorem kX4_count_19 : Cond.fieldLink RX4 19 "WindPost" "chart" "LWindPost$Chart;" ∈ wsX4_count := by decide +kernel
set_option maxRecDepth 20000 in
theorem kX4_count_29 : Cond.fieldLink RX4 29 "WindPost" "now" "LWindPost$Moment;" ∈ wsX4_count := by decide +kernel
set_option maxRecDepth 20000 in
theorem kX4_count_58 : Cond.fieldLink RX4 58 "WindPost$Text" "length" "I" ∈ wsX4_count := by decide +kernel
set_option maxRecDepth 20000 in
theorem kX4_count_158 : Cond.fieldLink RX4 158 "WindPost$Moment" "told" "I" ∈ wsX4_count := by decide +kernel
set_option maxRecDepth 20000 in
theorem kX4_count_194 : Cond.fieldLink RX4 194 "WindPost$Chart" "isles" "I" ∈ wsX4_count := by decide +kernel
set_option maxRecDepth 20000 in
theorem kX4_count_213 : Cond.fieldLink RX4 213 "WindPost$Chart" "force" "I" ∈ wsX4_count := by decide +kernel
set_option maxRecDepth 20000 in
theorem kX4_count_241 : Cond.fieldLink RX4 241 "WindPost$Chart" "wide" "I" ∈ wsX4_count := by decide +kernel
set_option maxRecDepth 20000 in
theorem kX4_count_244 : Cond.fieldLink RX4 244 "WindPost$Chart" "high" "I" ∈ wsX4_count := by decide +kernel
set_option maxRecDepth 20000 in
theorem kX4_count_247 : Cond.fieldLink RX4 247 "WindPost$Chart" "hills" "I" ∈ wsX4_count := by decide +kernel
set_option maxRecDepth 20000 in
theorem uX4_count_X0 : ∀ w ∈ wsX00, w ∈ wsX4_count := by decide +kernel
set_option maxRecDepth 20000 in
theorem uX4_count_X2 : ∀ w ∈ wsX20, w ∈ wsX4_count := by decide +kernel
set_option maxRecDepth 20000 in
theorem uX4_count_X3 : ∀ w ∈ wsX30, w ∈ wsX4_count := by decide +kernel
set_option maxRecDepth 20000 in
theorem uX4_count_X4 : ∀ w ∈ wsX40, w ∈ wsX4_count := by decide +kernel
set_option maxHeartbeats 8000000 in
set_option maxRecDepth 100000 in
theorem mX4_count (l : Launch) (D : va_G) (ki : Nat → ClassId) (ad : Nat → Nat) (cs : List Nat) (hcs : kW cs) (N : Nat) (a1 : Int32) (G : zMem) (tr : Int64) : gMetI l D ki ad cs yX4_count wsX4_count { frames := 0, cells := 0, slots := 0, locals := 0 } [.ref (ad 0), .int a1] (xE ki ad) G tr (fX4_count N a1 G tr) := by
  refine gMetI_of (cc := cX4_count) (maxL := 2) (ret := (some .int)) (own := RX4) (by decide +kernel) rfl rfl (Nat.le_of_ble_eq_true rfl) ?_
  intro r9 G9 tr9 h p e s m below meth c S hr hlk K X ls hl
  have hl : lv_has ls 2 [(0, .ref (ad 0)), (1, .int a1)] := hl
  unfold fX4_count at h
  obtain ⟨H, hH⟩ : ∃ H, H = s.heap := ⟨_, rfl⟩
  obtain ⟨locs, hlo⟩ : ∃ locs : List Loc, locs = [] := ⟨_, rfl⟩
  have X : gS D cs ad ((xE ki ad) G tr) (gA cs ad s.heap.size) s H locs := by rw [hH, hlo]; exact X
  suffices z : W p l e (headSpec wsX4_count { frames := 0, cells := 0, slots := 0, locals := 0 }).room s m ([.ref (ad 0), .int a1] : List Value).toArray below meth c H locs 0 0 (zQI below ([.ref (ad 0), .int a1] : List Value).toArray s D cs ad ((xE ki ad) G9 tr9) r9) (F0 m 0 ls []) by rw [hH, hlo] at z; exact z
  clear hH hlo
  refine lv_iload_n S.1 S.2.1 dX4_count_0 rfl (lv_at hl 1 rfl) ?_
  by_cases hc_1 : a1 = 0
  · have h := zif_pos hc_1 h
    refine zr_swIn (off := 43) (tgt := 44) S hc_1 dX4_count_1 (by decide) ?_
    refine lv_aload_n S.1 S.2.1 dX4_count_44 rfl (lv_at hl 0 rfl) ?_
    obtain ⟨hq_2, h⟩ := zch_some h
    refine zr_get (v := .ref (ad (G 0 1).toNatClampNeg)) S K X (hcs 0 (by decide)) xE_W rfl uX4_count_X4 1 (by decide) kX4_count_19 rfl rfl dX4_count_45 ?_
    refine zr_get (v := .int (G (G 0 1).toNatClampNeg 0)) S K X ((kC_of hcs hq_2).2 0 (by decide)) (xE_C (kC_of hcs hq_2)) rfl uX4_count_X0 0 (by decide) kX4_count_241 rfl rfl dX4_count_48 ?_
    exact zr_iret S hr hlk X h dX4_count_51
  have h := zif_neg hc_1 h
  by_cases hc_3 : a1 = 1
  · have h := zif_pos hc_3 h
    refine zr_swIn (off := 51) (tgt := 52) S hc_3 dX4_count_1 (by decide) ?_
    refine lv_aload_n S.1 S.2.1 dX4_count_52 rfl (lv_at hl 0 rfl) ?_
    obtain ⟨hq_4, h⟩ := zch_some h
    refine zr_get (v := .ref (ad (G 0 1).toNatClampNeg)) S K X (hcs 0 (by decide)) xE_W rfl uX4_count_X4 1 (by decide) kX4_count_19 rfl rfl dX4_count_53 ?_
    refine zr_get (v := .int (G (G 0 1).toNatClampNeg 1)) S K X ((kC_of hcs hq_4).2 0 (by decide)) (xE_C (kC_of hcs hq_4)) rfl uX4_count_X0 1 (by decide) kX4_count_244 rfl rfl dX4_count_56 ?_
    exact zr_iret S hr hlk X h dX4_count_59
  have h := zif_neg hc_3 h
  by_cases hc_5 : a1 = 2
  · have h := zif_pos hc_5 h
    refine zr_swIn (off := 59) (tgt := 60) S hc_5 dX4_count_1 (by decide) ?_
    refine lv_aload_n S.1 S.2.1 dX4_count_60 rfl (lv_at hl 0 rfl) ?_
    obtain ⟨hq_6, h⟩ := zch_some h
    refine zr_get (v := .ref (ad (G 0 1).toNatClampNeg)) S K X (hcs 0 (by decide)) xE_W rfl uX4_count_X4 1 (by decide) kX4_count_19 rfl rfl dX4_count_61 ?_
    refine zr_get (v := .int (G (G 0 1).toNatClampNeg 3)) S K X ((kC_of hcs hq_6).2 0 (by decide)) (xE_C (kC_of hcs hq_6)) rfl uX4_count_X0 3 (by decide) kX4_count_194 rfl rfl dX4_count_64 ?_
    exact zr_iret S hr hlk X h dX4_count_67
  have h := zif_neg hc_5 h
  by_cases hc_7 : a1 = 3
  · have h := zif_pos hc_7 h
    refine zr_swIn (off := 67) (tgt := 68) S hc_7 dX4_count_1 (by decide) ?_
    refine lv_aload_n S.1 S.2.1 dX4_count_68 rfl (lv_at hl 0 rfl) ?_
    obtain ⟨hq_8, h⟩ := zch_some h
    refine zr_get (v := .ref (ad (G 0 1).toNatClampNeg)) S K X (hcs 0 (by decide)) xE_W rfl uX4_count_X4 1 (by decide) kX4_count_19 rfl rfl dX4_count_69 ?_
    refine zr_get (v := .int (G (G 0 1).toNatClampNeg 4)) S K X ((kC_of hcs hq_8).2 0 (by decide)) (xE_C (kC_of hcs hq_8)) rfl uX4_count_X0 4 (by decide) kX4_count_247 rfl rfl dX4_count_72 ?_
    exact zr_iret S hr hlk X h dX4_count_75
  have h := zif_neg hc_7 h
  by_cases hc_9 : a1 = 4
  · have h := zif_pos hc_9 h
    refine zr_swIn (off := 75) (tgt := 76) S hc_9 dX4_count_1 (by decide) ?_
    refine lv_aload_n S.1 S.2.1 dX4_count_76 rfl (lv_at hl 0 rfl) ?_
    refine zr_get (v := .ref (ad 18)) S K X (hcs 0 (by decide)) xE_W rfl uX4_count_X4 3 (by decide) kX4_count_29 rfl rfl dX4_count_77 ?_
    refine zr_get (v := .int (G 18 3)) S K X ((kM_now hcs).2 0 (by decide)) (xE_M (kM_now hcs)) rfl uX4_count_X2 3 (by decide) kX4_count_158 rfl rfl dX4_count_80 ?_
    exact zr_iret S hr hlk X h dX4_count_83
  have h := zif_neg hc_9 h
  by_cases hc_10 : a1 = 5
  · have h := zif_pos hc_10 h
    refine zr_swIn (off := 83) (tgt := 84) S hc_10 dX4_count_1 (by decide) ?_
    refine lv_aload_n S.1 S.2.1 dX4_count_84 rfl (lv_at hl 0 rfl) ?_
    obtain ⟨hq_11, h⟩ := zch_some h
    refine zr_get (v := .ref (ad (G 0 1).toNatClampNeg)) S K X (hcs 0 (by decide)) xE_W rfl uX4_count_X4 1 (by decide) kX4_count_19 rfl rfl dX4_count_85 ?_
    refine zr_get (v := .int (G (G 0 1).toNatClampNeg 2)) S K X ((kC_of hcs hq_11).2 0 (by decide)) (xE_C (kC_of hcs hq_11)) rfl uX4_count_X0 2 (by decide) kX4_count_213 rfl rfl dX4_count_88 ?_
    exact zr_iret S hr hlk X h dX4_count_91
  have h := zif_neg hc_10 h
  by_cases hc_12 : a1 = 6
  · have h := zif_pos hc_12 h
    refine zr_swIn (off := 91) (tgt := 92) S hc_12 dX4_count_1 (by decide) ?_
    refine lv_aload_n S.1 S.2.1 dX4_count_92 rfl (lv_at hl 0 rfl) ?_
    refine zr_get (v := .ref (ad 1)) S K X (hcs 0 (by decide)) xE_W rfl uX4_count_X4 0 (by decide) kX4_count_10 rfl rfl dX4_count_93 ?_
    refine zr_get (v := .int (G 1 0)) S K X (hcs 1 (by decide)) xE_T rfl uX4_count_X3 0 (by decide) kX4_count_58 rfl rfl dX4_count_96 ?_
    exact zr_iret S hr hlk X h dX4_count_99
  have h := zif_neg hc_12 h
  refine lv_tableOut (tgt := 100) S.1 S.2.1 dX4_count_1 (by
      have e0 := ztoInt_ne hc_1
      rw [show ((0 : Int32)).toInt = 0 from rfl] at e0
      have e1 := ztoInt_ne hc_3
      rw [show ((1 : Int32)).toInt = 1 from rfl] at e1
      have e2 := ztoInt_ne hc_5
      rw [show ((2 : Int32)).toInt = 2 from rfl] at e2
      have e3 := ztoInt_ne hc_7
      rw [show ((3 : Int32)).toInt = 3 from rfl] at e3
      have e4 := ztoInt_ne hc_9
      rw [show ((4 : Int32)).toInt = 4 from rfl] at e4
      have e5 := ztoInt_ne hc_10
      rw [show ((5 : Int32)).toInt = 5 from rfl] at e5
      have e6 := ztoInt_ne hc_12
      rw [show ((6 : Int32)).toInt = 6 from rfl] at e6
      omega) (by decide) ?_
  refine lv_iconst (v := (-1 : Int32)) S.1 S.2.1 dX4_count_100 (by decide) ?_
  exact zr_iret S hr hlk X h dX4_count_101
theorem dX4_trace_0 : decode cX4_trace 0 = .ok (.aload_n 0, 1) := by decide +kernel
theorem dX4_trace_1 : decode cX4_trace 1 = .ok (.getfield 250, 3) := by decide +kernel
theorem dX4_trace_4 : decode cX4_trace 4 = .ok (.lreturn, 1) := by decide +kernel
set_option maxRecDepth 20000 in
theorem kX4_trace_250 : Cond.fieldLink RX4 250 "WindPost" "traced" "J" ∈ wsX4_trace := by decide +kernel
set_option maxRecDepth 20000 in
theorem uX4_trace_X4 : ∀ w ∈ wsX40, w ∈ wsX4_trace := by decide +kernel
set_option maxHeartbeats 8000000 in
set_option maxRecDepth 100000 in
theorem mX4_trace (l : Launch) (D : va_G) (ki : Nat → ClassId) (ad : Nat → Nat) (cs : List Nat) (hcs : kW cs) (N : Nat) (G : zMem) (tr : Int64) : gMetL l D ki ad cs yX4_trace wsX4_trace { frames := 0, cells := 0, slots := 0, locals := 0 } [.ref (ad 0)] (xE ki ad) G tr (fX4_trace N G tr) := by
  refine gMetL_of (cc := cX4_trace) (maxL := 1) (ret := (some .long)) (own := RX4) (by decide +kernel) rfl rfl (Nat.le_of_ble_eq_true rfl) ?_
  intro r9 G9 tr9 h p e s m below meth c S hr hlk K X ls hl
  have hl : lv_has ls 1 [(0, .ref (ad 0))] := hl
  unfold fX4_trace at h
  obtain ⟨H, hH⟩ : ∃ H, H = s.heap := ⟨_, rfl⟩
  obtain ⟨locs, hlo⟩ : ∃ locs : List Loc, locs = [] := ⟨_, rfl⟩
  have X : gS D cs ad ((xE ki ad) G tr) (gA cs ad s.heap.size) s H locs := by rw [hH, hlo]; exact X
  suffices z : W p l e (headSpec wsX4_trace { frames := 0, cells := 0, slots := 0, locals := 0 }).room s m ([.ref (ad 0)] : List Value).toArray below meth c H locs 0 0 (zQL below ([.ref (ad 0)] : List Value).toArray s D cs ad ((xE ki ad) G9 tr9) r9) (F0 m 0 ls []) by rw [hH, hlo] at z; exact z
  clear hH hlo
  refine lv_aload_n S.1 S.2.1 dX4_trace_0 rfl (lv_at hl 0 rfl) ?_
  refine zr_get (v := .long tr) S K X (hcs 0 (by decide)) xE_W rfl uX4_trace_X4 11 (by decide) kX4_trace_250 rfl rfl dX4_trace_1 ?_
  exact zr_lret S hr hlk X h dX4_trace_4
