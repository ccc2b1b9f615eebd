theorem dX3_add_0 : decode cX3_add 0 = .ok (.aload_n 0, 1) := by decide +kernel
theorem dX3_add_1 : decode cX3_add 1 = .ok (.getfield 15, 3) := by decide +kernel
theorem dX3_add_4 : decode cX3_add 4 = .ok (.sipush 200, 3) := by decide +kernel
theorem dX3_add_7 : decode cX3_add 7 = .ok (.if_icmp .lt 4, 3) := by decide +kernel
theorem dX3_add_10 : decode cX3_add 10 = .ok (.return_, 1) := by decide +kernel
theorem dX3_add_11 : decode cX3_add 11 = .ok (.aload_n 0, 1) := by decide +kernel
theorem dX3_add_12 : decode cX3_add 12 = .ok (.getfield 9, 3) := by decide +kernel
theorem dX3_add_15 : decode cX3_add 15 = .ok (.aload_n 0, 1) := by decide +kernel
theorem dX3_add_16 : decode cX3_add 16 = .ok (.getfield 15, 3) := by decide +kernel
theorem dX3_add_19 : decode cX3_add 19 = .ok (.iload_n 1, 1) := by decide +kernel
theorem dX3_add_20 : decode cX3_add 20 = .ok (.iastore, 1) := by decide +kernel
theorem dX3_add_21 : decode cX3_add 21 = .ok (.aload_n 0, 1) := by decide +kernel
theorem dX3_add_22 : decode cX3_add 22 = .ok (.dup, 1) := by decide +kernel
theorem dX3_add_23 : decode cX3_add 23 = .ok (.getfield 15, 3) := by decide +kernel
theorem dX3_add_26 : decode cX3_add 26 = .ok (.iconst 1, 1) := by decide +kernel
theorem dX3_add_27 : decode cX3_add 27 = .ok (.iadd, 1) := by decide +kernel
theorem dX3_add_28 : decode cX3_add 28 = .ok (.putfield 15, 3) := by decide +kernel
theorem dX3_add_31 : decode cX3_add 31 = .ok (.return_, 1) := by decide +kernel
set_option maxRecDepth 20000 in
theorem kX3_add_9 : Cond.fieldLink RX3 9 "WindPost$Text" "signs" "[I" ∈ wsX3_add := by decide +kernel
set_option maxRecDepth 20000 in
theorem kX3_add_15 : Cond.fieldLink RX3 15 "WindPost$Text" "length" "I" ∈ wsX3_add := by decide +kernel
set_option maxRecDepth 20000 in
theorem uX3_add_X3 : ∀ w ∈ wsX30, w ∈ wsX3_add := by decide +kernel
set_option maxHeartbeats 8000000 in
set_option maxRecDepth 100000 in
theorem mX3_add (l : Launch) (D : va_G) (ki : Nat → ClassId) (ad : Nat → Nat) (cs : List Nat) (hcs : kW cs) (N : Nat) (a1 : Int32) (G : zMem) (tr : Int64) : gMetV l D ki ad cs yX3_add wsX3_add { frames := 0, cells := 0, slots := 0, locals := 0 } [.ref (ad 1), .int a1] (xE ki ad) G tr (fX3_add N a1 G tr) := by
  refine gMetV_of (cc := cX3_add) (maxL := 2) (ret := none) (own := RX3) (by decide +kernel) rfl rfl (Nat.le_of_ble_eq_true rfl) ?_
  intro r9 G9 tr9 h p e s m below meth c S hr hlk K X ls hl
  have hl : lv_has ls 2 [(0, .ref (ad 1)), (1, .int a1)] := hl
  unfold fX3_add at h
  obtain ⟨H, hH⟩ : ∃ H, H = s.heap := ⟨_, rfl⟩
  obtain ⟨locs, hlo⟩ : ∃ locs : List Loc, locs = [] := ⟨_, rfl⟩
  have X : gS D cs ad ((xE ki ad) G tr) (gA cs ad s.heap.size) s H locs := by rw [hH, hlo]; exact X
  suffices z : W p l e (headSpec wsX3_add { frames := 0, cells := 0, slots := 0, locals := 0 }).room s m ([.ref (ad 1), .int a1] : List Value).toArray below meth c H locs 0 0 (zQV below ([.ref (ad 1), .int a1] : List Value).toArray s D cs ad ((xE ki ad) G9 tr9)) (F0 m 0 ls []) by rw [hH, hlo] at z; exact z
  clear hH hlo
  refine lv_aload_n S.1 S.2.1 dX3_add_0 rfl (lv_at hl 0 rfl) ?_
  refine zr_get (v := .int (G 1 0)) S K X (hcs 1 (by decide)) xE_T rfl uX3_add_X3 0 (by decide) kX3_add_15 rfl rfl dX3_add_1 ?_
  refine lv_sipush (v := (200 : Int32)) S.1 S.2.1 dX3_add_4 (by decide) ?_
  refine lv_icmp_lt (tgt := 11) S.1 S.2.1 dX3_add_7 (by decide) (fun hc_1 => ?_) (fun hc_1 => ?_)
  · have h := zif_pos hc_1 h
    refine lv_aload_n S.1 S.2.1 dX3_add_11 rfl (lv_at hl 0 rfl) ?_
    refine zr_get (v := .ref (ad 2)) S K X (hcs 1 (by decide)) xE_T rfl uX3_add_X3 1 (by decide) kX3_add_9 rfl rfl dX3_add_12 ?_
    refine lv_aload_n S.1 S.2.1 dX3_add_15 rfl (lv_at hl 0 rfl) ?_
    refine zr_get (v := .int (G 1 0)) S K X (hcs 1 (by decide)) xE_T rfl uX3_add_X3 0 (by decide) kX3_add_15 rfl rfl dX3_add_16 ?_
    refine lv_iload_n S.1 S.2.1 dX3_add_19 rfl (lv_at hl 1 rfl) ?_
    obtain ⟨hi_2, h⟩ := zin_some h
    refine zr_iast S K X (hcs 2 (by decide)) xE_loc (fun _ => xE_2) hi_2 dX3_add_20 (fun H locs X => ?_)
    refine lv_aload_n S.1 S.2.1 dX3_add_21 rfl (lv_at hl 0 rfl) ?_
    refine lv_dup S.1 S.2.1 dX3_add_22 rfl ?_
    refine zr_get (v := .int ((up2 G 2 (Int32.toNatClampNeg (G 1 0)) a1) 1 0)) S K X (hcs 1 (by decide)) xE_T rfl uX3_add_X3 0 (by decide) kX3_add_15 rfl rfl dX3_add_23 ?_
    refine lv_iconst (v := (1 : Int32)) S.1 S.2.1 dX3_add_26 (by decide) ?_
    refine lv_iadd S.1 S.2.1 dX3_add_27 ?_
    refine zr_put (xv := (((up2 G 2 (Int32.toNatClampNeg (G 1 0)) a1) 1 0) + (1 : Int32))) (v := .int (((up2 G 2 (Int32.toNatClampNeg (G 1 0)) a1) 1 0) + (1 : Int32))) (fsf := (fsT ad)) (ty := .int) S K X (hcs 1 (by decide)) xE_loc (fun _ => xE_T) rfl uX3_add_X3 tyX3 tyX3_ok nmX3 0 (by decide) kX3_add_15 rfl (by decide +kernel) rfl rfl (by simp) rfl dX3_add_28 (fun H locs X => ?_)
    exact zr_vret S hr hlk X h dX3_add_31
  · have h := zif_neg hc_1 h
    exact zr_vret S hr hlk X h dX3_add_10
set_option maxRecDepth 20000 in
theorem ggX3_step_X3_isDigit : GoodIn wsX3_step wsX3_isDigit := goodIn_r _ [14] (by decide +kernel) (by decide +kernel)
set_option maxRecDepth 20000 in
theorem gX3_step_X3_isDigit : GoodIn wsX3_step (va_wsS RX3 113 yX3_isDigit wsX3_isDigit) := goodIn_app (goodIn_of _ (by decide +kernel)) ggX3_step_X3_isDigit
set_option maxRecDepth 20000 in
theorem ggX3_step_X3_isSign : GoodIn wsX3_step wsX3_isSign := goodIn_r _ [17] (by decide +kernel) (by decide +kernel)
set_option maxRecDepth 20000 in
theorem gX3_step_X3_isSign : GoodIn wsX3_step (va_wsS RX3 123 yX3_isSign wsX3_isSign) := goodIn_app (goodIn_of _ (by decide +kernel)) ggX3_step_X3_isSign
theorem dX3_step_0 : decode cX3_step 0 = .ok (.aload_n 0, 1) := by decide +kernel
theorem dX3_step_1 : decode cX3_step 1 = .ok (.getfield 24, 3) := by decide +kernel
theorem dX3_step_4 : decode cX3_step 4 = .ok (.aload_n 0, 1) := by decide +kernel
theorem dX3_step_5 : decode cX3_step 5 = .ok (.getfield 15, 3) := by decide +kernel
theorem dX3_step_8 : decode cX3_step 8 = .ok (.if_icmp .ge 30, 3) := by decide +kernel
theorem dX3_step_11 : decode cX3_step 11 = .ok (.aload_n 0, 1) := by decide +kernel
theorem dX3_step_12 : decode cX3_step 12 = .ok (.getfield 9, 3) := by decide +kernel
theorem dX3_step_15 : decode cX3_step 15 = .ok (.aload_n 0, 1) := by decide +kernel
theorem dX3_step_16 : decode cX3_step 16 = .ok (.getfield 24, 3) := by decide +kernel
theorem dX3_step_19 : decode cX3_step 19 = .ok (.iaload, 1) := by decide +kernel
theorem dX3_step_20 : decode cX3_step 20 = .ok (.bipush 32, 2) := by decide +kernel
theorem dX3_step_22 : decode cX3_step 22 = .ok (.if_icmp .ne 16, 3) := by decide +kernel
theorem dX3_step_25 : decode cX3_step 25 = .ok (.aload_n 0, 1) := by decide +kernel
theorem dX3_step_26 : decode cX3_step 26 = .ok (.dup, 1) := by decide +kernel
theorem dX3_step_27 : decode cX3_step 27 = .ok (.getfield 24, 3) := by decide +kernel
theorem dX3_step_30 : decode cX3_step 30 = .ok (.iconst 1, 1) := by decide +kernel
theorem dX3_step_31 : decode cX3_step 31 = .ok (.iadd, 1) := by decide +kernel
theorem dX3_step_32 : decode cX3_step 32 = .ok (.putfield 24, 3) := by decide +kernel
theorem dX3_step_35 : decode cX3_step 35 = .ok (.goto (-35), 3) := by decide +kernel
theorem dX3_step_38 : decode cX3_step 38 = .ok (.aload_n 0, 1) := by decide +kernel
theorem dX3_step_39 : decode cX3_step 39 = .ok (.aload_n 0, 1) := by decide +kernel
theorem dX3_step_40 : decode cX3_step 40 = .ok (.getfield 24, 3) := by decide +kernel
theorem dX3_step_43 : decode cX3_step 43 = .ok (.putfield 44, 3) := by decide +kernel
theorem dX3_step_46 : decode cX3_step 46 = .ok (.aload_n 0, 1) := by decide +kernel
theorem dX3_step_47 : decode cX3_step 47 = .ok (.iconst 0, 1) := by decide +kernel
theorem dX3_step_48 : decode cX3_step 48 = .ok (.putfield 72, 3) := by decide +kernel
theorem dX3_step_51 : decode cX3_step 51 = .ok (.aload_n 0, 1) := by decide +kernel
theorem dX3_step_52 : decode cX3_step 52 = .ok (.getfield 24, 3) := by decide +kernel
theorem dX3_step_55 : decode cX3_step 55 = .ok (.aload_n 0, 1) := by decide +kernel
theorem dX3_step_56 : decode cX3_step 56 = .ok (.getfield 15, 3) := by decide +kernel
theorem dX3_step_59 : decode cX3_step 59 = .ok (.if_icmp .ge 60, 3) := by decide +kernel
theorem dX3_step_62 : decode cX3_step 62 = .ok (.aload_n 0, 1) := by decide +kernel
theorem dX3_step_63 : decode cX3_step 63 = .ok (.getfield 9, 3) := by decide +kernel
theorem dX3_step_66 : decode cX3_step 66 = .ok (.aload_n 0, 1) := by decide +kernel
theorem dX3_step_67 : decode cX3_step 67 = .ok (.getfield 24, 3) := by decide +kernel
theorem dX3_step_70 : decode cX3_step 70 = .ok (.iaload, 1) := by decide +kernel
theorem dX3_step_71 : decode cX3_step 71 = .ok (.invokestatic 113, 3) := by decide +kernel
theorem dX3_step_74 : decode cX3_step 74 = .ok (.ifCond .eq 45, 3) := by decide +kernel
theorem dX3_step_77 : decode cX3_step 77 = .ok (.aload_n 0, 1) := by decide +kernel
theorem dX3_step_78 : decode cX3_step 78 = .ok (.aload_n 0, 1) := by decide +kernel
theorem dX3_step_79 : decode cX3_step 79 = .ok (.getfield 72, 3) := by decide +kernel
theorem dX3_step_82 : decode cX3_step 82 = .ok (.bipush 10, 2) := by decide +kernel
theorem dX3_step_84 : decode cX3_step 84 = .ok (.imul, 1) := by decide +kernel
theorem dX3_step_85 : decode cX3_step 85 = .ok (.aload_n 0, 1) := by decide +kernel
theorem dX3_step_86 : decode cX3_step 86 = .ok (.getfield 9, 3) := by decide +kernel
theorem dX3_step_89 : decode cX3_step 89 = .ok (.aload_n 0, 1) := by decide +kernel
theorem dX3_step_90 : decode cX3_step 90 = .ok (.getfield 24, 3) := by decide +kernel
theorem dX3_step_93 : decode cX3_step 93 = .ok (.iaload, 1) := by decide +kernel
theorem dX3_step_94 : decode cX3_step 94 = .ok (.iadd, 1) := by decide +kernel
theorem dX3_step_95 : decode cX3_step 95 = .ok (.bipush 48, 2) := by decide +kernel
theorem dX3_step_97 : decode cX3_step 97 = .ok (.isub, 1) := by decide +kernel
theorem dX3_step_98 : decode cX3_step 98 = .ok (.bipush 30, 2) := by decide +kernel
theorem dX3_step_100 : decode cX3_step 100 = .ok (.invokestatic 117, 3) := by decide +kernel
theorem dX3_step_103 : decode cX3_step 103 = .ok (.putfield 72, 3) := by decide +kernel
theorem dX3_step_106 : decode cX3_step 106 = .ok (.aload_n 0, 1) := by decide +kernel
theorem dX3_step_107 : decode cX3_step 107 = .ok (.dup, 1) := by decide +kernel
theorem dX3_step_108 : decode cX3_step 108 = .ok (.getfield 24, 3) := by decide +kernel
theorem dX3_step_111 : decode cX3_step 111 = .ok (.iconst 1, 1) := by decide +kernel
theorem dX3_step_112 : decode cX3_step 112 = .ok (.iadd, 1) := by decide +kernel
theorem dX3_step_113 : decode cX3_step 113 = .ok (.putfield 24, 3) := by decide +kernel
theorem dX3_step_116 : decode cX3_step 116 = .ok (.goto (-65), 3) := by decide +kernel
theorem dX3_step_119 : decode cX3_step 119 = .ok (.aload_n 0, 1) := by decide +kernel
theorem dX3_step_120 : decode cX3_step 120 = .ok (.getfield 24, 3) := by decide +kernel
theorem dX3_step_123 : decode cX3_step 123 = .ok (.aload_n 0, 1) := by decide +kernel
theorem dX3_step_124 : decode cX3_step 124 = .ok (.getfield 44, 3) := by decide +kernel
theorem dX3_step_127 : decode cX3_step 127 = .ok (.isub, 1) := by decide +kernel
theorem dX3_step_128 : decode cX3_step 128 = .ok (.istore_n 1, 1) := by decide +kernel
theorem dX3_step_129 : decode cX3_step 129 = .ok (.iload_n 1, 1) := by decide +kernel
theorem dX3_step_130 : decode cX3_step 130 = .ok (.ifCond .le 57, 3) := by decide +kernel
theorem dX3_step_133 : decode cX3_step 133 = .ok (.iload_n 1, 1) := by decide +kernel
theorem dX3_step_134 : decode cX3_step 134 = .ok (.iconst 1, 1) := by decide +kernel
theorem dX3_step_135 : decode cX3_step 135 = .ok (.if_icmp .le 21, 3) := by decide +kernel
theorem dX3_step_138 : decode cX3_step 138 = .ok (.aload_n 0, 1) := by decide +kernel
theorem dX3_step_139 : decode cX3_step 139 = .ok (.getfield 9, 3) := by decide +kernel
theorem dX3_step_142 : decode cX3_step 142 = .ok (.aload_n 0, 1) := by decide +kernel
theorem dX3_step_143 : decode cX3_step 143 = .ok (.getfield 44, 3) := by decide +kernel
theorem dX3_step_146 : decode cX3_step 146 = .ok (.iaload, 1) := by decide +kernel
theorem dX3_step_147 : decode cX3_step 147 = .ok (.bipush 48, 2) := by decide +kernel
theorem dX3_step_149 : decode cX3_step 149 = .ok (.if_icmp .ne 7, 3) := by decide +kernel
theorem dX3_step_152 : decode cX3_step 152 = .ok (.iconst 1, 1) := by decide +kernel
theorem dX3_step_153 : decode cX3_step 153 = .ok (.goto 4, 3) := by decide +kernel
theorem dX3_step_156 : decode cX3_step 156 = .ok (.iconst 0, 1) := by decide +kernel
theorem dX3_step_157 : decode cX3_step 157 = .ok (.istore_n 2, 1) := by decide +kernel
theorem dX3_step_158 : decode cX3_step 158 = .ok (.aload_n 0, 1) := by decide +kernel
theorem dX3_step_159 : decode cX3_step 159 = .ok (.iload_n 2, 1) := by decide +kernel
theorem dX3_step_160 : decode cX3_step 160 = .ok (.ifCond .ne 12, 3) := by decide +kernel
theorem dX3_step_163 : decode cX3_step 163 = .ok (.aload_n 0, 1) := by decide +kernel
theorem dX3_step_164 : decode cX3_step 164 = .ok (.getfield 72, 3) := by decide +kernel
theorem dX3_step_167 : decode cX3_step 167 = .ok (.bipush 29, 2) := by decide +kernel
theorem dX3_step_169 : decode cX3_step 169 = .ok (.if_icmp .le 9, 3) := by decide +kernel
theorem dX3_step_172 : decode cX3_step 172 = .ok (.sipush 258, 3) := by decide +kernel
theorem dX3_step_175 : decode cX3_step 175 = .ok (.goto 6, 3) := by decide +kernel
theorem dX3_step_178 : decode cX3_step 178 = .ok (.sipush 256, 3) := by decide +kernel
theorem dX3_step_181 : decode cX3_step 181 = .ok (.putfield 37, 3) := by decide +kernel
theorem dX3_step_184 : decode cX3_step 184 = .ok (.goto 68, 3) := by decide +kernel
theorem dX3_step_187 : decode cX3_step 187 = .ok (.aload_n 0, 1) := by decide +kernel
theorem dX3_step_188 : decode cX3_step 188 = .ok (.getfield 24, 3) := by decide +kernel
theorem dX3_step_191 : decode cX3_step 191 = .ok (.aload_n 0, 1) := by decide +kernel
theorem dX3_step_192 : decode cX3_step 192 = .ok (.getfield 15, 3) := by decide +kernel
theorem dX3_step_195 : decode cX3_step 195 = .ok (.if_icmp .lt 13, 3) := by decide +kernel
theorem dX3_step_198 : decode cX3_step 198 = .ok (.aload_n 0, 1) := by decide +kernel
theorem dX3_step_199 : decode cX3_step 199 = .ok (.sipush 257, 3) := by decide +kernel
theorem dX3_step_202 : decode cX3_step 202 = .ok (.putfield 37, 3) := by decide +kernel
theorem dX3_step_205 : decode cX3_step 205 = .ok (.goto 47, 3) := by decide +kernel
theorem dX3_step_208 : decode cX3_step 208 = .ok (.aload_n 0, 1) := by decide +kernel
theorem dX3_step_209 : decode cX3_step 209 = .ok (.aload_n 0, 1) := by decide +kernel
theorem dX3_step_210 : decode cX3_step 210 = .ok (.getfield 9, 3) := by decide +kernel
theorem dX3_step_213 : decode cX3_step 213 = .ok (.aload_n 0, 1) := by decide +kernel
theorem dX3_step_214 : decode cX3_step 214 = .ok (.getfield 24, 3) := by decide +kernel
theorem dX3_step_217 : decode cX3_step 217 = .ok (.iaload, 1) := by decide +kernel
theorem dX3_step_218 : decode cX3_step 218 = .ok (.invokestatic 123, 3) := by decide +kernel
theorem dX3_step_221 : decode cX3_step 221 = .ok (.ifCond .eq 15, 3) := by decide +kernel
theorem dX3_step_224 : decode cX3_step 224 = .ok (.aload_n 0, 1) := by decide +kernel
theorem dX3_step_225 : decode cX3_step 225 = .ok (.getfield 9, 3) := by decide +kernel
theorem dX3_step_228 : decode cX3_step 228 = .ok (.aload_n 0, 1) := by decide +kernel
theorem dX3_step_229 : decode cX3_step 229 = .ok (.getfield 24, 3) := by decide +kernel
theorem dX3_step_232 : decode cX3_step 232 = .ok (.iaload, 1) := by decide +kernel
theorem dX3_step_233 : decode cX3_step 233 = .ok (.goto 6, 3) := by decide +kernel
theorem dX3_step_236 : decode cX3_step 236 = .ok (.sipush 258, 3) := by decide +kernel
theorem dX3_step_239 : decode cX3_step 239 = .ok (.putfield 37, 3) := by decide +kernel
theorem dX3_step_242 : decode cX3_step 242 = .ok (.aload_n 0, 1) := by decide +kernel
theorem dX3_step_243 : decode cX3_step 243 = .ok (.dup, 1) := by decide +kernel
theorem dX3_step_244 : decode cX3_step 244 = .ok (.getfield 24, 3) := by decide +kernel
theorem dX3_step_247 : decode cX3_step 247 = .ok (.iconst 1, 1) := by decide +kernel
theorem dX3_step_248 : decode cX3_step 248 = .ok (.iadd, 1) := by decide +kernel
theorem dX3_step_249 : decode cX3_step 249 = .ok (.putfield 24, 3) := by decide +kernel
theorem dX3_step_252 : decode cX3_step 252 = .ok (.return_, 1) := by decide +kernel
set_option maxRecDepth 20000 in
theorem kX3_step_9 : Cond.fieldLink RX3 9 "WindPost$Text" "signs" "[I" ∈ wsX3_step := by decide +kernel
set_option maxRecDepth 20000 in
theorem kX3_step_15 : Cond.fieldLink RX3 15 "WindPost$Text" "length" "I" ∈ wsX3_step := by decide +kernel
set_option maxRecDepth 20000 in
theorem kX3_step_24 : Cond.fieldLink RX3 24 "WindPost$Text" "next" "I" ∈ wsX3_step := by decide +kernel
set_option maxRecDepth 20000 in
theorem kX3_step_37 : Cond.fieldLink RX3 37 "WindPost$Text" "token" "I" ∈ wsX3_step := by decide +kernel
set_option maxRecDepth 20000 in
theorem kX3_step_44 : Cond.fieldLink RX3 44 "WindPost$Text" "place" "I" ∈ wsX3_step := by decide +kernel
set_option maxRecDepth 20000 in
theorem kX3_step_72 : Cond.fieldLink RX3 72 "WindPost$Text" "number" "I" ∈ wsX3_step := by decide +kernel
set_option maxRecDepth 20000 in
theorem uX3_step_X3 : ∀ w ∈ wsX30, w ∈ wsX3_step := by decide +kernel
set_option maxRecDepth 20000 in
theorem jX3_step_min_l : Cond.methodLink RX3 117 Lib.Math.min.name ∈ wsX3_step := by decide +kernel
set_option maxRecDepth 20000 in
theorem jX3_step_min_s : Cond.static Lib.Math.min.name ∈ wsX3_step := by decide +kernel
set_option maxRecDepth 20000 in
theorem jX3_step_min_i : Cond.initialized "java/lang/Math" ∈ wsX3_step := by decide +kernel
set_option maxRecDepth 20000 in
theorem jX3_step_min_c : Cond.code Lib.Math.min.name Lib.Math.min.code 2 (some .int) ∈ wsX3_step := by decide +kernel
set_option maxHeartbeats 8000000 in
set_option maxRecDepth 100000 in
theorem mX3_step (l : Launch) (D : va_G) (ki : Nat → ClassId) (ad : Nat → Nat) (cs : List Nat) (hcs : kW cs) (N : Nat) (G : zMem) (tr : Int64) : gMetV l D ki ad cs yX3_step wsX3_step { frames := 1, cells := 0, slots := 0, locals := 24 } [.ref (ad 1)] (xE ki ad) G tr (fX3_step N G tr) := by
  refine gMetV_of (cc := cX3_step) (maxL := 3) (ret := none) (own := RX3) (by decide +kernel) rfl rfl (Nat.le_of_ble_eq_true rfl) ?_
  intro r9 G9 tr9 h p e s m below meth c S hr hlk K X ls hl
  have hl : lv_has ls 3 [(0, .ref (ad 1))] := hl
  have b181 : ∀ (s0 : Int32) (G : zMem) (tr : Int64), fX3_step_b181 N s0 G tr = some (r9, G9, tr9) → zAt p l e (headSpec wsX3_step { frames := 1, cells := 0, slots := 0, locals := 24 }).room s m ([.ref (ad 1)] : List Value).toArray below meth c 3 D cs ad (zQV below ([.ref (ad 1)] : List Value).toArray s D cs ad ((xE ki ad) G9 tr9)) 181 [] [.int s0, .ref (ad 1)] ((xE ki ad) G tr) := by
    intro s0 G tr h H locs ls X hl
    unfold fX3_step_b181 at h
    refine zr_put (xv := s0) (v := .int s0) (fsf := (fsT ad)) (ty := .int) S K X (hcs 1 (by decide)) xE_loc (fun _ => xE_T) rfl uX3_step_X3 tyX3 tyX3_ok nmX3 4 (by decide) kX3_step_37 rfl (by decide +kernel) rfl rfl (by simp) rfl dX3_step_181 (fun H locs X => ?_)
    refine lv_goto (tgt := 252) S.1 S.2.1 dX3_step_184 (by decide) ?_
    exact zr_vret S hr hlk X h dX3_step_252
  have b172 : ∀ (G : zMem) (tr : Int64), fX3_step_b172 N G tr = some (r9, G9, tr9) → zAt p l e (headSpec wsX3_step { frames := 1, cells := 0, slots := 0, locals := 24 }).room s m ([.ref (ad 1)] : List Value).toArray below meth c 3 D cs ad (zQV below ([.ref (ad 1)] : List Value).toArray s D cs ad ((xE ki ad) G9 tr9)) 172 [] [.ref (ad 1)] ((xE ki ad) G tr) := by
    intro G tr h H locs ls X hl
    unfold fX3_step_b172 at h
    refine lv_sipush (v := (258 : Int32)) S.1 S.2.1 dX3_step_172 (by decide) ?_
    refine lv_goto (tgt := 181) S.1 S.2.1 dX3_step_175 (by decide) ?_
    exact b181 (258 : Int32) G tr h _ _ _ X (lv_sub hl [] rfl)
  have b157 : ∀ (s0 : Int32) (G : zMem) (tr : Int64), fX3_step_b157 N s0 G tr = some (r9, G9, tr9) → zAt p l e (headSpec wsX3_step { frames := 1, cells := 0, slots := 0, locals := 24 }).room s m ([.ref (ad 1)] : List Value).toArray below meth c 3 D cs ad (zQV below ([.ref (ad 1)] : List Value).toArray s D cs ad ((xE ki ad) G9 tr9)) 157 [(0, .ref (ad 1))] [.int s0] ((xE ki ad) G tr) := by
    intro s0 G tr h H locs ls X hl
    unfold fX3_step_b157 at h
    refine lv_istore_n (lv' := [(2, .int s0), (0, .ref (ad 1))]) S.1 S.2.1 dX3_step_157 rfl hl (by decide) rfl (fun ls hl => ?_)
    refine lv_aload_n S.1 S.2.1 dX3_step_158 rfl (lv_at hl 1 rfl) ?_
    refine lv_iload_n S.1 S.2.1 dX3_step_159 rfl (lv_at hl 0 rfl) ?_
    refine lv_if_ne (tgt := 172) S.1 S.2.1 dX3_step_160 (by decide) (fun hc_1 => ?_) (fun hc_1 => ?_)
    · have h := zif_neg hc_1 h
      exact b172 G tr h _ _ _ X (lv_sub hl [] rfl)
    · have h := zif_pos hc_1 h
      refine lv_aload_n S.1 S.2.1 dX3_step_163 rfl (lv_at hl 1 rfl) ?_
      refine zr_get (v := .int (G 1 5)) S K X (hcs 1 (by decide)) xE_T rfl uX3_step_X3 5 (by decide) kX3_step_72 rfl rfl dX3_step_164 ?_
      refine lv_bipush (v := (29 : Int32)) S.1 S.2.1 dX3_step_167 (by decide) ?_
      refine lv_icmp_le (tgt := 178) S.1 S.2.1 dX3_step_169 (by decide) (fun hc_2 => ?_) (fun hc_2 => ?_)
      · have h := zif_pos hc_2 h
        refine lv_sipush (v := (256 : Int32)) S.1 S.2.1 dX3_step_178 (by decide) ?_
        exact b181 (256 : Int32) G tr h _ _ _ X (lv_sub hl [] rfl)
      · have h := zif_neg hc_2 h
        exact b172 G tr h _ _ _ X (lv_sub hl [] rfl)
  have b156 : ∀ (G : zMem) (tr : Int64), fX3_step_b156 N G tr = some (r9, G9, tr9) → zAt p l e (headSpec wsX3_step { frames := 1, cells := 0, slots := 0, locals := 24 }).room s m ([.ref (ad 1)] : List Value).toArray below meth c 3 D cs ad (zQV below ([.ref (ad 1)] : List Value).toArray s D cs ad ((xE ki ad) G9 tr9)) 156 [(0, .ref (ad 1))] [] ((xE ki ad) G tr) := by
    intro G tr h H locs ls X hl
    unfold fX3_step_b156 at h
    refine lv_iconst (v := (0 : Int32)) S.1 S.2.1 dX3_step_156 (by decide) ?_
    exact b157 (0 : Int32) G tr h _ _ _ X (lv_sub hl [0] rfl)
  have b239 : ∀ (s0 : Int32) (G : zMem) (tr : Int64), fX3_step_b239 N s0 G tr = some (r9, G9, tr9) → zAt p l e (headSpec wsX3_step { frames := 1, cells := 0, slots := 0, locals := 24 }).room s m ([.ref (ad 1)] : List Value).toArray below meth c 3 D cs ad (zQV below ([.ref (ad 1)] : List Value).toArray s D cs ad ((xE ki ad) G9 tr9)) 239 [(0, .ref (ad 1))] [.int s0, .ref (ad 1)] ((xE ki ad) G tr) := by
    intro s0 G tr h H locs ls X hl
    unfold fX3_step_b239 at h
    refine zr_put (xv := s0) (v := .int s0) (fsf := (fsT ad)) (ty := .int) S K X (hcs 1 (by decide)) xE_loc (fun _ => xE_T) rfl uX3_step_X3 tyX3 tyX3_ok nmX3 4 (by decide) kX3_step_37 rfl (by decide +kernel) rfl rfl (by simp) rfl dX3_step_239 (fun H locs X => ?_)
    refine lv_aload_n S.1 S.2.1 dX3_step_242 rfl (lv_at hl 0 rfl) ?_
    refine lv_dup S.1 S.2.1 dX3_step_243 rfl ?_
    refine zr_get (v := .int ((up2 G 1 4 s0) 1 2)) S K X (hcs 1 (by decide)) xE_T rfl uX3_step_X3 2 (by decide) kX3_step_24 rfl rfl dX3_step_244 ?_
    refine lv_iconst (v := (1 : Int32)) S.1 S.2.1 dX3_step_247 (by decide) ?_
    refine lv_iadd S.1 S.2.1 dX3_step_248 ?_
    refine zr_put (xv := (((up2 G 1 4 s0) 1 2) + (1 : Int32))) (v := .int (((up2 G 1 4 s0) 1 2) + (1 : Int32))) (fsf := (fsT ad)) (ty := .int) S K X (hcs 1 (by decide)) xE_loc (fun _ => xE_T) rfl uX3_step_X3 tyX3 tyX3_ok nmX3 2 (by decide) kX3_step_24 rfl (by decide +kernel) rfl rfl (by simp) rfl dX3_step_249 (fun H locs X => ?_)
    exact zr_vret S hr hlk X h dX3_step_252
  have b119 : ∀ (G : zMem) (tr : Int64), fX3_step_b119 N G tr = some (r9, G9, tr9) → zAt p l e (headSpec wsX3_step { frames := 1, cells := 0, slots := 0, locals := 24 }).room s m ([.ref (ad 1)] : List Value).toArray below meth c 3 D cs ad (zQV below ([.ref (ad 1)] : List Value).toArray s D cs ad ((xE ki ad) G9 tr9)) 119 [(0, .ref (ad 1))] [] ((xE ki ad) G tr) := by
    intro G tr h H locs ls X hl
    unfold fX3_step_b119 at h
    refine lv_aload_n S.1 S.2.1 dX3_step_119 rfl (lv_at hl 0 rfl) ?_
    refine zr_get (v := .int (G 1 2)) S K X (hcs 1 (by decide)) xE_T rfl uX3_step_X3 2 (by decide) kX3_step_24 rfl rfl dX3_step_120 ?_
    refine lv_aload_n S.1 S.2.1 dX3_step_123 rfl (lv_at hl 0 rfl) ?_
    refine zr_get (v := .int (G 1 3)) S K X (hcs 1 (by decide)) xE_T rfl uX3_step_X3 3 (by decide) kX3_step_44 rfl rfl dX3_step_124 ?_
    refine lv_isub S.1 S.2.1 dX3_step_127 ?_
    refine lv_istore_n (lv' := [(1, .int ((G 1 2) - (G 1 3))), (0, .ref (ad 1))]) S.1 S.2.1 dX3_step_128 rfl hl (by decide) rfl (fun ls hl => ?_)
    refine lv_iload_n S.1 S.2.1 dX3_step_129 rfl (lv_at hl 0 rfl) ?_
    refine lv_if_le (tgt := 187) S.1 S.2.1 dX3_step_130 (by decide) (fun hc_1 => ?_) (fun hc_1 => ?_)
    · have h := zif_pos hc_1 h
      refine lv_aload_n S.1 S.2.1 dX3_step_187 rfl (lv_at hl 1 rfl) ?_
      refine zr_get (v := .int (G 1 2)) S K X (hcs 1 (by decide)) xE_T rfl uX3_step_X3 2 (by decide) kX3_step_24 rfl rfl dX3_step_188 ?_
      refine lv_aload_n S.1 S.2.1 dX3_step_191 rfl (lv_at hl 1 rfl) ?_
      refine zr_get (v := .int (G 1 0)) S K X (hcs 1 (by decide)) xE_T rfl uX3_step_X3 0 (by decide) kX3_step_15 rfl rfl dX3_step_192 ?_
      refine lv_icmp_lt (tgt := 208) S.1 S.2.1 dX3_step_195 (by decide) (fun hc_2 => ?_) (fun hc_2 => ?_)
      · have h := zif_pos hc_2 h
        refine lv_aload_n S.1 S.2.1 dX3_step_208 rfl (lv_at hl 1 rfl) ?_
        refine lv_aload_n S.1 S.2.1 dX3_step_209 rfl (lv_at hl 1 rfl) ?_
        refine zr_get (v := .ref (ad 2)) S K X (hcs 1 (by decide)) xE_T rfl uX3_step_X3 1 (by decide) kX3_step_9 rfl rfl dX3_step_210 ?_
        refine lv_aload_n S.1 S.2.1 dX3_step_213 rfl (lv_at hl 1 rfl) ?_
        refine zr_get (v := .int (G 1 2)) S K X (hcs 1 (by decide)) xE_T rfl uX3_step_X3 2 (by decide) kX3_step_24 rfl rfl dX3_step_214 ?_
        obtain ⟨hi_3, h⟩ := zin_some h
        refine zr_iald S K X (hcs 2 (by decide)) xE_2 hi_3 dX3_step_217 ?_
        obtain ⟨r_5, hf_4, h⟩ := zbp_some h
        refine zr_calli (Eg := (xE ki ad)) (G' := G) (tr' := tr) K X (va_runS (As := [.int (G 2 (Int32.toNatClampNeg (G 1 2)))]) (rest := [.ref (ad 1)]) S (mX3_isSign l D ki ad cs N (G 2 (Int32.toNatClampNeg (G 1 2))) (xE ki ad) G tr H.size _ _ _ (zpu_of hf_4)) (va_cwS 1 S.2.2.2.2 gX3_step_X3_isSign rfl rfl rfl (by decide +kernel) ⟨Nat.le_of_ble_eq_true rfl, Nat.le_of_ble_eq_true rfl⟩) (zr_pre K X) rfl rfl hl.1 rfl (lv_room (Nat.le_of_ble_eq_true rfl)) dX3_step_218 ⟨Nat.zero_le _, Nat.zero_le _⟩) (fun H locs X => ?_)
        refine lv_if_eq (tgt := 236) S.1 S.2.1 dX3_step_221 (by decide) (fun hc_6 => ?_) (fun hc_6 => ?_)
        · have h := zif_pos hc_6 h
          refine lv_sipush (v := (258 : Int32)) S.1 S.2.1 dX3_step_236 (by decide) ?_
          exact b239 (258 : Int32) G tr h _ _ _ X (lv_sub hl [1] rfl)
        · have h := zif_neg hc_6 h
          refine lv_aload_n S.1 S.2.1 dX3_step_224 rfl (lv_at hl 1 rfl) ?_
          refine zr_get (v := .ref (ad 2)) S K X (hcs 1 (by decide)) xE_T rfl uX3_step_X3 1 (by decide) kX3_step_9 rfl rfl dX3_step_225 ?_
          refine lv_aload_n S.1 S.2.1 dX3_step_228 rfl (lv_at hl 1 rfl) ?_
          refine zr_get (v := .int (G 1 2)) S K X (hcs 1 (by decide)) xE_T rfl uX3_step_X3 2 (by decide) kX3_step_24 rfl rfl dX3_step_229 ?_
          obtain ⟨hi_7, h⟩ := zin_some h
          refine zr_iald S K X (hcs 2 (by decide)) xE_2 hi_7 dX3_step_232 ?_
          refine lv_goto (tgt := 239) S.1 S.2.1 dX3_step_233 (by decide) ?_
          exact b239 (G 2 (Int32.toNatClampNeg (G 1 2))) G tr h _ _ _ X (lv_sub hl [1] rfl)
      · have h := zif_neg hc_2 h
        refine lv_aload_n S.1 S.2.1 dX3_step_198 rfl (lv_at hl 1 rfl) ?_
        refine lv_sipush (v := (257 : Int32)) S.1 S.2.1 dX3_step_199 (by decide) ?_
        refine zr_put (xv := (257 : Int32)) (v := .int (257 : Int32)) (fsf := (fsT ad)) (ty := .int) S K X (hcs 1 (by decide)) xE_loc (fun _ => xE_T) rfl uX3_step_X3 tyX3 tyX3_ok nmX3 4 (by decide) kX3_step_37 rfl (by decide +kernel) rfl rfl (by simp) rfl dX3_step_202 (fun H locs X => ?_)
        refine lv_goto (tgt := 252) S.1 S.2.1 dX3_step_205 (by decide) ?_
        exact zr_vret S hr hlk X h dX3_step_252
    · have h := zif_neg hc_1 h
      refine lv_iload_n S.1 S.2.1 dX3_step_133 rfl (lv_at hl 0 rfl) ?_
      refine lv_iconst (v := (1 : Int32)) S.1 S.2.1 dX3_step_134 (by decide) ?_
      refine lv_icmp_le (tgt := 156) S.1 S.2.1 dX3_step_135 (by decide) (fun hc_8 => ?_) (fun hc_8 => ?_)
      · have h := zif_pos hc_8 h
        exact b156 G tr h _ _ _ X (lv_sub hl [1] rfl)
      · have h := zif_neg hc_8 h
        refine lv_aload_n S.1 S.2.1 dX3_step_138 rfl (lv_at hl 1 rfl) ?_
        refine zr_get (v := .ref (ad 2)) S K X (hcs 1 (by decide)) xE_T rfl uX3_step_X3 1 (by decide) kX3_step_9 rfl rfl dX3_step_139 ?_
        refine lv_aload_n S.1 S.2.1 dX3_step_142 rfl (lv_at hl 1 rfl) ?_
        refine zr_get (v := .int (G 1 3)) S K X (hcs 1 (by decide)) xE_T rfl uX3_step_X3 3 (by decide) kX3_step_44 rfl rfl dX3_step_143 ?_
        obtain ⟨hi_9, h⟩ := zin_some h
        refine zr_iald S K X (hcs 2 (by decide)) xE_2 hi_9 dX3_step_146 ?_
        refine lv_bipush (v := (48 : Int32)) S.1 S.2.1 dX3_step_147 (by decide) ?_
        refine lv_icmp_ne (tgt := 156) S.1 S.2.1 dX3_step_149 (by decide) (fun hc_10 => ?_) (fun hc_10 => ?_)
        · have h := zif_neg hc_10 h
          exact b156 G tr h _ _ _ X (lv_sub hl [1] rfl)
        · have h := zif_pos hc_10 h
          refine lv_iconst (v := (1 : Int32)) S.1 S.2.1 dX3_step_152 (by decide) ?_
          refine lv_goto (tgt := 157) S.1 S.2.1 dX3_step_153 (by decide) ?_
          exact b157 (1 : Int32) G tr h _ _ _ X (lv_sub hl [1] rfl)
  have b51 : ∀ (k51 : zMem → Int64 → zR) (hk51 : ∀ (G : zMem) (tr : Int64), k51 G tr = some (r9, G9, tr9) → zAt p l e (headSpec wsX3_step { frames := 1, cells := 0, slots := 0, locals := 24 }).room s m ([.ref (ad 1)] : List Value).toArray below meth c 3 D cs ad (zQV below ([.ref (ad 1)] : List Value).toArray s D cs ad ((xE ki ad) G9 tr9)) 51 [(0, .ref (ad 1))] [] ((xE ki ad) G tr)) (G : zMem) (tr : Int64), fX3_step_b51 N k51 G tr = some (r9, G9, tr9) → zAt p l e (headSpec wsX3_step { frames := 1, cells := 0, slots := 0, locals := 24 }).room s m ([.ref (ad 1)] : List Value).toArray below meth c 3 D cs ad (zQV below ([.ref (ad 1)] : List Value).toArray s D cs ad ((xE ki ad) G9 tr9)) 51 [(0, .ref (ad 1))] [] ((xE ki ad) G tr) := by
    intro k51 hk51 G tr h H locs ls X hl
    unfold fX3_step_b51 at h
    refine lv_aload_n S.1 S.2.1 dX3_step_51 rfl (lv_at hl 0 rfl) ?_
    refine zr_get (v := .int (G 1 2)) S K X (hcs 1 (by decide)) xE_T rfl uX3_step_X3 2 (by decide) kX3_step_24 rfl rfl dX3_step_52 ?_
    refine lv_aload_n S.1 S.2.1 dX3_step_55 rfl (lv_at hl 0 rfl) ?_
    refine zr_get (v := .int (G 1 0)) S K X (hcs 1 (by decide)) xE_T rfl uX3_step_X3 0 (by decide) kX3_step_15 rfl rfl dX3_step_56 ?_
    refine lv_icmp_ge (tgt := 119) S.1 S.2.1 dX3_step_59 (by decide) (fun hc_1 => ?_) (fun hc_1 => ?_)
    · have h := zif_pos hc_1 h
      exact b119 G tr h _ _ _ X (lv_sub hl [0] rfl)
    · have h := zif_neg hc_1 h
      refine lv_aload_n S.1 S.2.1 dX3_step_62 rfl (lv_at hl 0 rfl) ?_
      refine zr_get (v := .ref (ad 2)) S K X (hcs 1 (by decide)) xE_T rfl uX3_step_X3 1 (by decide) kX3_step_9 rfl rfl dX3_step_63 ?_
      refine lv_aload_n S.1 S.2.1 dX3_step_66 rfl (lv_at hl 0 rfl) ?_
      refine zr_get (v := .int (G 1 2)) S K X (hcs 1 (by decide)) xE_T rfl uX3_step_X3 2 (by decide) kX3_step_24 rfl rfl dX3_step_67 ?_
      obtain ⟨hi_2, h⟩ := zin_some h
      refine zr_iald S K X (hcs 2 (by decide)) xE_2 hi_2 dX3_step_70 ?_
      obtain ⟨r_4, hf_3, h⟩ := zbp_some h
      refine zr_calli (Eg := (xE ki ad)) (G' := G) (tr' := tr) K X (va_runS (As := [.int (G 2 (Int32.toNatClampNeg (G 1 2)))]) (rest := []) S (mX3_isDigit l D ki ad cs N (G 2 (Int32.toNatClampNeg (G 1 2))) (xE ki ad) G tr H.size _ _ _ (zpu_of hf_3)) (va_cwS 1 S.2.2.2.2 gX3_step_X3_isDigit rfl rfl rfl (by decide +kernel) ⟨Nat.le_of_ble_eq_true rfl, Nat.le_of_ble_eq_true rfl⟩) (zr_pre K X) rfl rfl hl.1 rfl (lv_room (Nat.le_of_ble_eq_true rfl)) dX3_step_71 ⟨Nat.zero_le _, Nat.zero_le _⟩) (fun H locs X => ?_)
      refine lv_if_eq (tgt := 119) S.1 S.2.1 dX3_step_74 (by decide) (fun hc_5 => ?_) (fun hc_5 => ?_)
      · have h := zif_pos hc_5 h
        exact b119 G tr h _ _ _ X (lv_sub hl [0] rfl)
      · have h := zif_neg hc_5 h
        refine lv_aload_n S.1 S.2.1 dX3_step_77 rfl (lv_at hl 0 rfl) ?_
        refine lv_aload_n S.1 S.2.1 dX3_step_78 rfl (lv_at hl 0 rfl) ?_
        refine zr_get (v := .int (G 1 5)) S K X (hcs 1 (by decide)) xE_T rfl uX3_step_X3 5 (by decide) kX3_step_72 rfl rfl dX3_step_79 ?_
        refine lv_bipush (v := (10 : Int32)) S.1 S.2.1 dX3_step_82 (by decide) ?_
        refine lv_imul S.1 S.2.1 dX3_step_84 ?_
        refine lv_aload_n S.1 S.2.1 dX3_step_85 rfl (lv_at hl 0 rfl) ?_
        refine zr_get (v := .ref (ad 2)) S K X (hcs 1 (by decide)) xE_T rfl uX3_step_X3 1 (by decide) kX3_step_9 rfl rfl dX3_step_86 ?_
        refine lv_aload_n S.1 S.2.1 dX3_step_89 rfl (lv_at hl 0 rfl) ?_
        refine zr_get (v := .int (G 1 2)) S K X (hcs 1 (by decide)) xE_T rfl uX3_step_X3 2 (by decide) kX3_step_24 rfl rfl dX3_step_90 ?_
        obtain ⟨hi_6, h⟩ := zin_some h
        refine zr_iald S K X (hcs 2 (by decide)) xE_2 hi_6 dX3_step_93 ?_
        refine lv_iadd S.1 S.2.1 dX3_step_94 ?_
        refine lv_bipush (v := (48 : Int32)) S.1 S.2.1 dX3_step_95 (by decide) ?_
        refine lv_isub S.1 S.2.1 dX3_step_97 ?_
        refine lv_bipush (v := (30 : Int32)) S.1 S.2.1 dX3_step_98 (by decide) ?_
        refine va_mmin S.1 S.2.1 (S.2.2.1.trans hl.1.symm) S.2.2.2.1 (S.2.2.2.2 _ jX3_step_min_l) (S.2.2.2.2 _ jX3_step_min_s) (S.2.2.2.2 _ jX3_step_min_i) (S.2.2.2.2 _ jX3_step_min_c) (Nat.le_of_ble_eq_true rfl) (Nat.le_of_ble_eq_true rfl) (Nat.zero_le _) (Nat.zero_le _) dX3_step_100 ?_
        refine zr_put (xv := (if (30 : Int32) < ((((G 1 5) * (10 : Int32)) + (G 2 (Int32.toNatClampNeg (G 1 2)))) - (48 : Int32)) then (30 : Int32) else ((((G 1 5) * (10 : Int32)) + (G 2 (Int32.toNatClampNeg (G 1 2)))) - (48 : Int32)))) (v := .int (if (30 : Int32) < ((((G 1 5) * (10 : Int32)) + (G 2 (Int32.toNatClampNeg (G 1 2)))) - (48 : Int32)) then (30 : Int32) else ((((G 1 5) * (10 : Int32)) + (G 2 (Int32.toNatClampNeg (G 1 2)))) - (48 : Int32)))) (fsf := (fsT ad)) (ty := .int) S K X (hcs 1 (by decide)) xE_loc (fun _ => xE_T) rfl uX3_step_X3 tyX3 tyX3_ok nmX3 5 (by decide) kX3_step_72 rfl (by decide +kernel) rfl rfl (by simp) rfl dX3_step_103 (fun H locs X => ?_)
        refine lv_aload_n S.1 S.2.1 dX3_step_106 rfl (lv_at hl 0 rfl) ?_
        refine lv_dup S.1 S.2.1 dX3_step_107 rfl ?_
        refine zr_get (v := .int ((up2 G 1 5 (if (30 : Int32) < ((((G 1 5) * (10 : Int32)) + (G 2 (Int32.toNatClampNeg (G 1 2)))) - (48 : Int32)) then (30 : Int32) else ((((G 1 5) * (10 : Int32)) + (G 2 (Int32.toNatClampNeg (G 1 2)))) - (48 : Int32)))) 1 2)) S K X (hcs 1 (by decide)) xE_T rfl uX3_step_X3 2 (by decide) kX3_step_24 rfl rfl dX3_step_108 ?_
        refine lv_iconst (v := (1 : Int32)) S.1 S.2.1 dX3_step_111 (by decide) ?_
        refine lv_iadd S.1 S.2.1 dX3_step_112 ?_
        refine zr_put (xv := (((up2 G 1 5 (if (30 : Int32) < ((((G 1 5) * (10 : Int32)) + (G 2 (Int32.toNatClampNeg (G 1 2)))) - (48 : Int32)) then (30 : Int32) else ((((G 1 5) * (10 : Int32)) + (G 2 (Int32.toNatClampNeg (G 1 2)))) - (48 : Int32)))) 1 2) + (1 : Int32))) (v := .int (((up2 G 1 5 (if (30 : Int32) < ((((G 1 5) * (10 : Int32)) + (G 2 (Int32.toNatClampNeg (G 1 2)))) - (48 : Int32)) then (30 : Int32) else ((((G 1 5) * (10 : Int32)) + (G 2 (Int32.toNatClampNeg (G 1 2)))) - (48 : Int32)))) 1 2) + (1 : Int32))) (fsf := (fsT ad)) (ty := .int) S K X (hcs 1 (by decide)) xE_loc (fun _ => xE_T) rfl uX3_step_X3 tyX3 tyX3_ok nmX3 2 (by decide) kX3_step_24 rfl (by decide +kernel) rfl rfl (by simp) rfl dX3_step_113 (fun H locs X => ?_)
        refine lv_goto (tgt := 51) S.1 S.2.1 dX3_step_116 (by decide) ?_
        exact hk51 (up2 (up2 G 1 5 (if (30 : Int32) < ((((G 1 5) * (10 : Int32)) + (G 2 (Int32.toNatClampNeg (G 1 2)))) - (48 : Int32)) then (30 : Int32) else ((((G 1 5) * (10 : Int32)) + (G 2 (Int32.toNatClampNeg (G 1 2)))) - (48 : Int32)))) 1 2 (((up2 G 1 5 (if (30 : Int32) < ((((G 1 5) * (10 : Int32)) + (G 2 (Int32.toNatClampNeg (G 1 2)))) - (48 : Int32)) then (30 : Int32) else ((((G 1 5) * (10 : Int32)) + (G 2 (Int32.toNatClampNeg (G 1 2)))) - (48 : Int32)))) 1 2) + (1 : Int32))) tr h _ _ _ X (lv_sub hl [0] rfl)
  have L51 : ∀ (n : Nat) (G : zMem) (tr : Int64), fX3_step_L51 N n G tr = some (r9, G9, tr9) → zAt p l e (headSpec wsX3_step { frames := 1, cells := 0, slots := 0, locals := 24 }).room s m ([.ref (ad 1)] : List Value).toArray below meth c 3 D cs ad (zQV below ([.ref (ad 1)] : List Value).toArray s D cs ad ((xE ki ad) G9 tr9)) 51 [(0, .ref (ad 1))] [] ((xE ki ad) G tr) := by
    intro n
    induction n with
    | zero => intro G tr h; cases h
    | succ n ih => intro G tr h; exact b51 (fX3_step_L51 N n) ih G tr h
  have b38 : ∀ (G : zMem) (tr : Int64), fX3_step_b38 N G tr = some (r9, G9, tr9) → zAt p l e (headSpec wsX3_step { frames := 1, cells := 0, slots := 0, locals := 24 }).room s m ([.ref (ad 1)] : List Value).toArray below meth c 3 D cs ad (zQV below ([.ref (ad 1)] : List Value).toArray s D cs ad ((xE ki ad) G9 tr9)) 38 [(0, .ref (ad 1))] [] ((xE ki ad) G tr) := by
    intro G tr h H locs ls X hl
    unfold fX3_step_b38 at h
    refine lv_aload_n S.1 S.2.1 dX3_step_38 rfl (lv_at hl 0 rfl) ?_
    refine lv_aload_n S.1 S.2.1 dX3_step_39 rfl (lv_at hl 0 rfl) ?_
    refine zr_get (v := .int (G 1 2)) S K X (hcs 1 (by decide)) xE_T rfl uX3_step_X3 2 (by decide) kX3_step_24 rfl rfl dX3_step_40 ?_
    refine zr_put (xv := (G 1 2)) (v := .int (G 1 2)) (fsf := (fsT ad)) (ty := .int) S K X (hcs 1 (by decide)) xE_loc (fun _ => xE_T) rfl uX3_step_X3 tyX3 tyX3_ok nmX3 3 (by decide) kX3_step_44 rfl (by decide +kernel) rfl rfl (by simp) rfl dX3_step_43 (fun H locs X => ?_)
    refine lv_aload_n S.1 S.2.1 dX3_step_46 rfl (lv_at hl 0 rfl) ?_
    refine lv_iconst (v := (0 : Int32)) S.1 S.2.1 dX3_step_47 (by decide) ?_
    refine zr_put (xv := (0 : Int32)) (v := .int (0 : Int32)) (fsf := (fsT ad)) (ty := .int) S K X (hcs 1 (by decide)) xE_loc (fun _ => xE_T) rfl uX3_step_X3 tyX3 tyX3_ok nmX3 5 (by decide) kX3_step_72 rfl (by decide +kernel) rfl rfl (by simp) rfl dX3_step_48 (fun H locs X => ?_)
    exact L51 N (up2 (up2 G 1 3 (G 1 2)) 1 5 (0 : Int32)) tr h _ _ _ X (lv_sub hl [0] rfl)
  have b0 : ∀ (k0 : zMem → Int64 → zR) (hk0 : ∀ (G : zMem) (tr : Int64), k0 G tr = some (r9, G9, tr9) → zAt p l e (headSpec wsX3_step { frames := 1, cells := 0, slots := 0, locals := 24 }).room s m ([.ref (ad 1)] : List Value).toArray below meth c 3 D cs ad (zQV below ([.ref (ad 1)] : List Value).toArray s D cs ad ((xE ki ad) G9 tr9)) 0 [(0, .ref (ad 1))] [] ((xE ki ad) G tr)) (G : zMem) (tr : Int64), fX3_step_b0 N k0 G tr = some (r9, G9, tr9) → zAt p l e (headSpec wsX3_step { frames := 1, cells := 0, slots := 0, locals := 24 }).room s m ([.ref (ad 1)] : List Value).toArray below meth c 3 D cs ad (zQV below ([.ref (ad 1)] : List Value).toArray s D cs ad ((xE ki ad) G9 tr9)) 0 [(0, .ref (ad 1))] [] ((xE ki ad) G tr) := by
    intro k0 hk0 G tr h H locs ls X hl
    unfold fX3_step_b0 at h
    refine lv_aload_n S.1 S.2.1 dX3_step_0 rfl (lv_at hl 0 rfl) ?_
    refine zr_get (v := .int (G 1 2)) S K X (hcs 1 (by decide)) xE_T rfl uX3_step_X3 2 (by decide) kX3_step_24 rfl rfl dX3_step_1 ?_
    refine lv_aload_n S.1 S.2.1 dX3_step_4 rfl (lv_at hl 0 rfl) ?_
    refine zr_get (v := .int (G 1 0)) S K X (hcs 1 (by decide)) xE_T rfl uX3_step_X3 0 (by decide) kX3_step_15 rfl rfl dX3_step_5 ?_
    refine lv_icmp_ge (tgt := 38) S.1 S.2.1 dX3_step_8 (by decide) (fun hc_1 => ?_) (fun hc_1 => ?_)
    · have h := zif_pos hc_1 h
      exact b38 G tr h _ _ _ X (lv_sub hl [0] rfl)
    · have h := zif_neg hc_1 h
      refine lv_aload_n S.1 S.2.1 dX3_step_11 rfl (lv_at hl 0 rfl) ?_
      refine zr_get (v := .ref (ad 2)) S K X (hcs 1 (by decide)) xE_T rfl uX3_step_X3 1 (by decide) kX3_step_9 rfl rfl dX3_step_12 ?_
      refine lv_aload_n S.1 S.2.1 dX3_step_15 rfl (lv_at hl 0 rfl) ?_
      refine zr_get (v := .int (G 1 2)) S K X (hcs 1 (by decide)) xE_T rfl uX3_step_X3 2 (by decide) kX3_step_24 rfl rfl dX3_step_16 ?_
      obtain ⟨hi_2, h⟩ := zin_some h
      refine zr_iald S K X (hcs 2 (by decide)) xE_2 hi_2 dX3_step_19 ?_
      refine lv_bipush (v := (32 : Int32)) S.1 S.2.1 dX3_step_20 (by decide) ?_
      refine lv_icmp_ne (tgt := 38) S.1 S.2.1 dX3_step_22 (by decide) (fun hc_3 => ?_) (fun hc_3 => ?_)
      · have h := zif_neg hc_3 h
        exact b38 G tr h _ _ _ X (lv_sub hl [0] rfl)
      · have h := zif_pos hc_3 h
        refine lv_aload_n S.1 S.2.1 dX3_step_25 rfl (lv_at hl 0 rfl) ?_
        refine lv_dup S.1 S.2.1 dX3_step_26 rfl ?_
        refine zr_get (v := .int (G 1 2)) S K X (hcs 1 (by decide)) xE_T rfl uX3_step_X3 2 (by decide) kX3_step_24 rfl rfl dX3_step_27 ?_
        refine lv_iconst (v := (1 : Int32)) S.1 S.2.1 dX3_step_30 (by decide) ?_
        refine lv_iadd S.1 S.2.1 dX3_step_31 ?_
        refine zr_put (xv := ((G 1 2) + (1 : Int32))) (v := .int ((G 1 2) + (1 : Int32))) (fsf := (fsT ad)) (ty := .int) S K X (hcs 1 (by decide)) xE_loc (fun _ => xE_T) rfl uX3_step_X3 tyX3 tyX3_ok nmX3 2 (by decide) kX3_step_24 rfl (by decide +kernel) rfl rfl (by simp) rfl dX3_step_32 (fun H locs X => ?_)
        refine lv_goto (tgt := 0) S.1 S.2.1 dX3_step_35 (by decide) ?_
        exact hk0 (up2 G 1 2 ((G 1 2) + (1 : Int32))) tr h _ _ _ X (lv_sub hl [0] rfl)
  have L0 : ∀ (n : Nat) (G : zMem) (tr : Int64), fX3_step_L0 N n G tr = some (r9, G9, tr9) → zAt p l e (headSpec wsX3_step { frames := 1, cells := 0, slots := 0, locals := 24 }).room s m ([.ref (ad 1)] : List Value).toArray below meth c 3 D cs ad (zQV below ([.ref (ad 1)] : List Value).toArray s D cs ad ((xE ki ad) G9 tr9)) 0 [(0, .ref (ad 1))] [] ((xE ki ad) G tr) := by
    intro n
    induction n with
    | zero => intro G tr h; cases h
    | succ n ih => intro G tr h; exact b0 (fX3_step_L0 N n) ih G tr h
  unfold fX3_step at h
  obtain ⟨H, hH⟩ : ∃ H, H = s.heap := ⟨_, rfl⟩
  obtain ⟨locs, hlo⟩ : ∃ locs : List Loc, locs = [] := ⟨_, rfl⟩
  have X : gS D cs ad ((xE ki ad) G tr) (gA cs ad s.heap.size) s H locs := by rw [hH, hlo]; exact X
  suffices z : W p l e (headSpec wsX3_step { frames := 1, cells := 0, slots := 0, locals := 24 }).room s m ([.ref (ad 1)] : List Value).toArray below meth c H locs 0 0 (zQV below ([.ref (ad 1)] : List Value).toArray s D cs ad ((xE ki ad) G9 tr9)) (F0 m 0 ls []) by rw [hH, hlo] at z; exact z
  clear hH hlo
  exact L0 N G tr h _ _ _ X (lv_sub hl [0] rfl)
set_option maxRecDepth 20000 in
theorem ggX3_stepsToNumber_X3_step : GoodIn wsX3_stepsToNumber wsX3_step := goodIn_r _ [7, 8, 9, 10, 11, 2, 12, 13, 14, 15, 1, 16, 17, 6, 18, 19, 20, 21, 25, 26, 27, 28, 29, 30, 31, 32] (by decide +kernel) (by decide +kernel)
set_option maxRecDepth 20000 in
theorem gX3_stepsToNumber_X3_step : GoodIn wsX3_stepsToNumber (wsV RX3 34 RX3 yX3_step wsX3_step) := goodIn_app (goodIn_of _ (by decide +kernel)) ggX3_stepsToNumber_X3_step
set_option maxRecDepth 20000 in
theorem ggX3_stepsToNumber_X4_isWithin : GoodIn wsX3_stepsToNumber wsX4_isWithin := goodIn_r _ [24] (by decide +kernel) (by decide +kernel)
set_option maxRecDepth 20000 in
theorem gX3_stepsToNumber_X4_isWithin_n109 : GoodIn wsX3_stepsToNumber (wsX4_isWithin) := ggX3_stepsToNumber_X4_isWithin
theorem dX3_stepsToNumber_0 : decode cX3_stepsToNumber 0 = .ok (.aload_n 0, 1) := by decide +kernel
theorem dX3_stepsToNumber_1 : decode cX3_stepsToNumber 1 = .ok (.invokevirtual 34, 3) := by decide +kernel
theorem dX3_stepsToNumber_4 : decode cX3_stepsToNumber 4 = .ok (.aload_n 0, 1) := by decide +kernel
theorem dX3_stepsToNumber_5 : decode cX3_stepsToNumber 5 = .ok (.getfield 37, 3) := by decide +kernel
theorem dX3_stepsToNumber_8 : decode cX3_stepsToNumber 8 = .ok (.sipush 256, 3) := by decide +kernel
theorem dX3_stepsToNumber_11 : decode cX3_stepsToNumber 11 = .ok (.if_icmp .ne 19, 3) := by decide +kernel
theorem dX3_stepsToNumber_14 : decode cX3_stepsToNumber 14 = .ok (.aload_n 0, 1) := by decide +kernel
theorem dX3_stepsToNumber_15 : decode cX3_stepsToNumber 15 = .ok (.getfield 72, 3) := by decide +kernel
theorem dX3_stepsToNumber_18 : decode cX3_stepsToNumber 18 = .ok (.iload_n 1, 1) := by decide +kernel
theorem dX3_stepsToNumber_19 : decode cX3_stepsToNumber 19 = .ok (.iload_n 2, 1) := by decide +kernel
theorem dX3_stepsToNumber_20 : decode cX3_stepsToNumber 20 = .ok (.invokestatic 109, 3) := by decide +kernel
theorem dX3_stepsToNumber_23 : decode cX3_stepsToNumber 23 = .ok (.ifCond .eq 7, 3) := by decide +kernel
theorem dX3_stepsToNumber_26 : decode cX3_stepsToNumber 26 = .ok (.iconst 1, 1) := by decide +kernel
theorem dX3_stepsToNumber_27 : decode cX3_stepsToNumber 27 = .ok (.goto 4, 3) := by decide +kernel
theorem dX3_stepsToNumber_30 : decode cX3_stepsToNumber 30 = .ok (.iconst 0, 1) := by decide +kernel
theorem dX3_stepsToNumber_31 : decode cX3_stepsToNumber 31 = .ok (.ireturn, 1) := by decide +kernel
set_option maxRecDepth 20000 in
theorem kX3_stepsToNumber_37 : Cond.fieldLink RX3 37 "WindPost$Text" "token" "I" ∈ wsX3_stepsToNumber := by decide +kernel
set_option maxRecDepth 20000 in
theorem kX3_stepsToNumber_72 : Cond.fieldLink RX3 72 "WindPost$Text" "number" "I" ∈ wsX3_stepsToNumber := by decide +kernel
set_option maxRecDepth 20000 in
theorem uX3_stepsToNumber_X3 : ∀ w ∈ wsX30, w ∈ wsX3_stepsToNumber := by decide +kernel
set_option maxRecDepth 20000 in
theorem nX3_stepsToNumber_109_s : Cond.static yX4_isWithin ∈ wsX3_stepsToNumber := by decide +kernel
set_option maxRecDepth 20000 in
theorem nX3_stepsToNumber_109_i : Cond.initialized RX4 ∈ wsX3_stepsToNumber := by decide +kernel
set_option maxHeartbeats 8000000 in
set_option maxRecDepth 100000 in
theorem mX3_stepsToNumber (l : Launch) (D : va_G) (ki : Nat → ClassId) (ad : Nat → Nat) (cs : List Nat) (hcs : kW cs) (N : Nat) (a1 : Int32) (a2 : Int32) (G : zMem) (tr : Int64) : gMetI l D ki ad cs yX3_stepsToNumber wsX3_stepsToNumber { frames := 2, cells := 0, slots := 0, locals := 46 } [.ref (ad 1), .int a1, .int a2] (xE ki ad) G tr (fX3_stepsToNumber N a1 a2 G tr) := by
  refine gMetI_of (cc := cX3_stepsToNumber) (maxL := 3) (ret := (some .boolean)) (own := RX3) (by decide +kernel) rfl rfl (Nat.le_of_ble_eq_true rfl) ?_
  intro r9 G9 tr9 h p e s m below meth c S hr hlk K X ls hl
  have hl : lv_has ls 3 [(0, .ref (ad 1)), (1, .int a1), (2, .int a2)] := hl
  unfold fX3_stepsToNumber at h
  obtain ⟨H, hH⟩ : ∃ H, H = s.heap := ⟨_, rfl⟩
  obtain ⟨locs, hlo⟩ : ∃ locs : List Loc, locs = [] := ⟨_, rfl⟩
  have X : gS D cs ad ((xE ki ad) G tr) (gA cs ad s.heap.size) s H locs := by rw [hH, hlo]; exact X
  suffices z : W p l e (headSpec wsX3_stepsToNumber { frames := 2, cells := 0, slots := 0, locals := 46 }).room s m ([.ref (ad 1), .int a1, .int a2] : List Value).toArray below meth c H locs 0 0 (zQI below ([.ref (ad 1), .int a1, .int a2] : List Value).toArray s D cs ad ((xE ki ad) G9 tr9) r9) (F0 m 0 ls []) by rw [hH, hlo] at z; exact z
  clear hH hlo
  refine lv_aload_n S.1 S.2.1 dX3_stepsToNumber_0 rfl (lv_at hl 0 rfl) ?_
  obtain ⟨r_2, G_3, tr_4, hf_1, h⟩ := zbd_some h
  refine zr_callv (Eg := (xE ki ad)) K X (va_runV (As := []) (rest := []) S (mX3_step l D ki ad cs hcs N G tr H.size _ _ _ hf_1) (cwV 0 S.2.2.2.2 gX3_stepsToNumber_X3_step rfl rfl rfl (by decide +kernel) ⟨Nat.le_of_ble_eq_true rfl, Nat.le_of_ble_eq_true rfl⟩) (zr_preV (c0 := 1) K X (hcs 1 (by decide)) xE_T rfl) rfl rfl hl.1 rfl (lv_room (Nat.le_of_ble_eq_true rfl)) dX3_stepsToNumber_1 ⟨Nat.zero_le _, Nat.zero_le _⟩) (fun H locs X => ?_)
  refine lv_aload_n S.1 S.2.1 dX3_stepsToNumber_4 rfl (lv_at hl 0 rfl) ?_
  refine zr_get (v := .int (G_3 1 4)) S K X (hcs 1 (by decide)) xE_T rfl uX3_stepsToNumber_X3 4 (by decide) kX3_stepsToNumber_37 rfl rfl dX3_stepsToNumber_5 ?_
  refine lv_sipush (v := (256 : Int32)) S.1 S.2.1 dX3_stepsToNumber_8 (by decide) ?_
  refine lv_icmp_ne (tgt := 30) S.1 S.2.1 dX3_stepsToNumber_11 (by decide) (fun hc_5 => ?_) (fun hc_5 => ?_)
  · have h := zif_neg hc_5 h
    refine lv_iconst (v := (0 : Int32)) S.1 S.2.1 dX3_stepsToNumber_30 (by decide) ?_
    exact zr_zret S hr hlk X h dX3_stepsToNumber_31
  · have h := zif_pos hc_5 h
    refine lv_aload_n S.1 S.2.1 dX3_stepsToNumber_14 rfl (lv_at hl 0 rfl) ?_
    refine zr_get (v := .int (G_3 1 5)) S K X (hcs 1 (by decide)) xE_T rfl uX3_stepsToNumber_X3 5 (by decide) kX3_stepsToNumber_72 rfl rfl dX3_stepsToNumber_15 ?_
    refine lv_iload_n S.1 S.2.1 dX3_stepsToNumber_18 rfl (lv_at hl 1 rfl) ?_
    refine lv_iload_n S.1 S.2.1 dX3_stepsToNumber_19 rfl (lv_at hl 2 rfl) ?_
    obtain ⟨r_7, hf_6, h⟩ := zbp_some h
    refine zr_calli (Eg := (xE ki ad)) (G' := G_3) (tr' := tr_4) K X (va_runSN (As := [.int (G_3 1 5), .int a1, .int a2]) (rest := []) S (mX4_isWithin l D ki ad cs N (G_3 1 5) a1 a2 (xE ki ad) G_3 tr_4 H.size _ _ _ (zpu_of hf_6)) ⟨va_cnB 3 S.2.2.2.2 gX3_stepsToNumber_X4_isWithin_n109 rfl rfl rfl K.2.1.2.2.2.1 (S.2.2.2.2 _ nX3_stepsToNumber_109_i) (by decide +kernel) ⟨Nat.le_of_ble_eq_true rfl, Nat.le_of_ble_eq_true rfl⟩, S.2.2.2.2 _ nX3_stepsToNumber_109_s, trivial⟩ (zr_pre K X) rfl rfl hl.1 rfl (lv_room (Nat.le_of_ble_eq_true rfl)) dX3_stepsToNumber_20 ⟨Nat.zero_le _, Nat.zero_le _⟩) (fun H locs X => ?_)
    refine lv_if_eq (tgt := 30) S.1 S.2.1 dX3_stepsToNumber_23 (by decide) (fun hc_8 => ?_) (fun hc_8 => ?_)
    · have h := zif_pos hc_8 h
      refine lv_iconst (v := (0 : Int32)) S.1 S.2.1 dX3_stepsToNumber_30 (by decide) ?_
      exact zr_zret S hr hlk X h dX3_stepsToNumber_31
    · have h := zif_neg hc_8 h
      refine lv_iconst (v := (1 : Int32)) S.1 S.2.1 dX3_stepsToNumber_26 (by decide) ?_
      refine lv_goto (tgt := 31) S.1 S.2.1 dX3_stepsToNumber_27 (by decide) ?_
      exact zr_zret S hr hlk X h dX3_stepsToNumber_31
set_option maxRecDepth 20000 in
theorem ggX3_stepsToEnd_X3_step : GoodIn wsX3_stepsToEnd wsX3_step := goodIn_r _ [6, 7, 8, 9, 10, 11, 12, 13, 14, 15, 1, 16, 17, 5, 18, 19, 20, 21, 22, 23, 24, 25, 26, 27, 28, 29] (by decide +kernel) (by decide +kernel)
set_option maxRecDepth 20000 in
theorem gX3_stepsToEnd_X3_step : GoodIn wsX3_stepsToEnd (wsV RX3 34 RX3 yX3_step wsX3_step) := goodIn_app (goodIn_of _ (by decide +kernel)) ggX3_stepsToEnd_X3_step
theorem dX3_stepsToEnd_0 : decode cX3_stepsToEnd 0 = .ok (.aload_n 0, 1) := by decide +kernel
theorem dX3_stepsToEnd_1 : decode cX3_stepsToEnd 1 = .ok (.invokevirtual 34, 3) := by decide +kernel
theorem dX3_stepsToEnd_4 : decode cX3_stepsToEnd 4 = .ok (.aload_n 0, 1) := by decide +kernel
theorem dX3_stepsToEnd_5 : decode cX3_stepsToEnd 5 = .ok (.getfield 37, 3) := by decide +kernel
theorem dX3_stepsToEnd_8 : decode cX3_stepsToEnd 8 = .ok (.bipush 59, 2) := by decide +kernel
theorem dX3_stepsToEnd_10 : decode cX3_stepsToEnd 10 = .ok (.if_icmp .ne 7, 3) := by decide +kernel
theorem dX3_stepsToEnd_13 : decode cX3_stepsToEnd 13 = .ok (.iconst 1, 1) := by decide +kernel
theorem dX3_stepsToEnd_14 : decode cX3_stepsToEnd 14 = .ok (.goto 4, 3) := by decide +kernel
theorem dX3_stepsToEnd_17 : decode cX3_stepsToEnd 17 = .ok (.iconst 0, 1) := by decide +kernel
theorem dX3_stepsToEnd_18 : decode cX3_stepsToEnd 18 = .ok (.ireturn, 1) := by decide +kernel
set_option maxRecDepth 20000 in
theorem kX3_stepsToEnd_37 : Cond.fieldLink RX3 37 "WindPost$Text" "token" "I" ∈ wsX3_stepsToEnd := by decide +kernel
set_option maxRecDepth 20000 in
theorem uX3_stepsToEnd_X3 : ∀ w ∈ wsX30, w ∈ wsX3_stepsToEnd := by decide +kernel
set_option maxHeartbeats 8000000 in
set_option maxRecDepth 100000 in
theorem mX3_stepsToEnd (l : Launch) (D : va_G) (ki : Nat → ClassId) (ad : Nat → Nat) (cs : List Nat) (hcs : kW cs) (N : Nat) (G : zMem) (tr : Int64) : gMetI l D ki ad cs yX3_stepsToEnd wsX3_stepsToEnd { frames := 2, cells := 0, slots := 0, locals := 46 } [.ref (ad 1)] (xE ki ad) G tr (fX3_stepsToEnd N G tr) := by
  refine gMetI_of (cc := cX3_stepsToEnd) (maxL := 1) (ret := (some .boolean)) (own := RX3) (by decide +kernel) rfl rfl (Nat.le_of_ble_eq_true rfl) ?_
  intro r9 G9 tr9 h p e s m below meth c S hr hlk K X ls hl
  have hl : lv_has ls 1 [(0, .ref (ad 1))] := hl
  unfold fX3_stepsToEnd at h
  obtain ⟨H, hH⟩ : ∃ H, H = s.heap := ⟨_, rfl⟩
  obtain ⟨locs, hlo⟩ : ∃ locs : List Loc, locs = [] := ⟨_, rfl⟩
  have X : gS D cs ad ((xE ki ad) G tr) (gA cs ad s.heap.size) s H locs := by rw [hH, hlo]; exact X
  suffices z : W p l e (headSpec wsX3_stepsToEnd { frames := 2, cells := 0, slots := 0, locals := 46 }).room s m ([.ref (ad 1)] : List Value).toArray below meth c H locs 0 0 (zQI below ([.ref (ad 1)] : List Value).toArray s D cs ad ((xE ki ad) G9 tr9) r9) (F0 m 0 ls []) by rw [hH, hlo] at z; exact z
  clear hH hlo
  refine lv_aload_n S.1 S.2.1 dX3_stepsToEnd_0 rfl (lv_at hl 0 rfl) ?_
  obtain ⟨r_2, G_3, tr_4, hf_1, h⟩ := zbd_some h
  refine zr_callv (Eg := (xE ki ad)) K X (va_runV (As := []) (rest := []) S (mX3_step l D ki ad cs hcs N G tr H.size _ _ _ hf_1) (cwV 0 S.2.2.2.2 gX3_stepsToEnd_X3_step rfl rfl rfl (by decide +kernel) ⟨Nat.le_of_ble_eq_true rfl, Nat.le_of_ble_eq_true rfl⟩) (zr_preV (c0 := 1) K X (hcs 1 (by decide)) xE_T rfl) rfl rfl hl.1 rfl (lv_room (Nat.le_of_ble_eq_true rfl)) dX3_stepsToEnd_1 ⟨Nat.zero_le _, Nat.zero_le _⟩) (fun H locs X => ?_)
  refine lv_aload_n S.1 S.2.1 dX3_stepsToEnd_4 rfl (lv_at hl 0 rfl) ?_
  refine zr_get (v := .int (G_3 1 4)) S K X (hcs 1 (by decide)) xE_T rfl uX3_stepsToEnd_X3 4 (by decide) kX3_stepsToEnd_37 rfl rfl dX3_stepsToEnd_5 ?_
  refine lv_bipush (v := (59 : Int32)) S.1 S.2.1 dX3_stepsToEnd_8 (by decide) ?_
  refine lv_icmp_ne (tgt := 17) S.1 S.2.1 dX3_stepsToEnd_10 (by decide) (fun hc_5 => ?_) (fun hc_5 => ?_)
  · have h := zif_neg hc_5 h
    refine lv_iconst (v := (0 : Int32)) S.1 S.2.1 dX3_stepsToEnd_17 (by decide) ?_
    exact zr_zret S hr hlk X h dX3_stepsToEnd_18
  · have h := zif_pos hc_5 h
    refine lv_iconst (v := (1 : Int32)) S.1 S.2.1 dX3_stepsToEnd_13 (by decide) ?_
    refine lv_goto (tgt := 18) S.1 S.2.1 dX3_stepsToEnd_14 (by decide) ?_
    exact zr_zret S hr hlk X h dX3_stepsToEnd_18
set_option maxRecDepth 20000 in
theorem ggX3_readSize_X3_stepsToNumber : GoodIn wsX3_readSize wsX3_stepsToNumber := goodIn_r _ [8, 9, 1, 10, 11, 12, 7, 13, 14, 15, 16, 17, 18, 19, 20, 21, 22, 23, 24, 25, 26, 27, 28, 29, 30, 35, 36, 37, 38, 39, 40, 41, 42] (by decide +kernel) (by decide +kernel)
set_option maxRecDepth 20000 in
theorem gX3_readSize_X3_stepsToNumber : GoodIn wsX3_readSize (wsV RX3 68 RX3 yX3_stepsToNumber wsX3_stepsToNumber) := goodIn_app (goodIn_of _ (by decide +kernel)) ggX3_readSize_X3_stepsToNumber
set_option maxRecDepth 20000 in
theorem ggX3_readSize_X3_stepsToEnd : GoodIn wsX3_readSize wsX3_stepsToEnd := goodIn_r _ [34, 9, 10, 11, 12, 7, 13, 14, 15, 16, 17, 1, 18, 19, 20, 21, 22, 23, 24, 25, 26, 27, 35, 36, 37, 38, 39, 40, 41, 42] (by decide +kernel) (by decide +kernel)
set_option maxRecDepth 20000 in
theorem gX3_readSize_X3_stepsToEnd : GoodIn wsX3_readSize (wsV RX3 81 RX3 yX3_stepsToEnd wsX3_stepsToEnd) := goodIn_app (goodIn_of _ (by decide +kernel)) ggX3_readSize_X3_stepsToEnd
theorem dX3_readSize_0 : decode cX3_readSize 0 = .ok (.aload_n 0, 1) := by decide +kernel
theorem dX3_readSize_1 : decode cX3_readSize 1 = .ok (.iconst 2, 1) := by decide +kernel
theorem dX3_readSize_2 : decode cX3_readSize 2 = .ok (.bipush 6, 2) := by decide +kernel
theorem dX3_readSize_4 : decode cX3_readSize 4 = .ok (.invokevirtual 68, 3) := by decide +kernel
theorem dX3_readSize_7 : decode cX3_readSize 7 = .ok (.ifCond .ne 5, 3) := by decide +kernel
theorem dX3_readSize_10 : decode cX3_readSize 10 = .ok (.iconst 0, 1) := by decide +kernel
theorem dX3_readSize_11 : decode cX3_readSize 11 = .ok (.ireturn, 1) := by decide +kernel
theorem dX3_readSize_12 : decode cX3_readSize 12 = .ok (.aload_n 1, 1) := by decide +kernel
theorem dX3_readSize_13 : decode cX3_readSize 13 = .ok (.aload_n 0, 1) := by decide +kernel
theorem dX3_readSize_14 : decode cX3_readSize 14 = .ok (.getfield 72, 3) := by decide +kernel
theorem dX3_readSize_17 : decode cX3_readSize 17 = .ok (.putfield 75, 3) := by decide +kernel
theorem dX3_readSize_20 : decode cX3_readSize 20 = .ok (.aload_n 0, 1) := by decide +kernel
theorem dX3_readSize_21 : decode cX3_readSize 21 = .ok (.iconst 2, 1) := by decide +kernel
theorem dX3_readSize_22 : decode cX3_readSize 22 = .ok (.iconst 5, 1) := by decide +kernel
theorem dX3_readSize_23 : decode cX3_readSize 23 = .ok (.invokevirtual 68, 3) := by decide +kernel
theorem dX3_readSize_26 : decode cX3_readSize 26 = .ok (.ifCond .ne 5, 3) := by decide +kernel
theorem dX3_readSize_29 : decode cX3_readSize 29 = .ok (.iconst 0, 1) := by decide +kernel
theorem dX3_readSize_30 : decode cX3_readSize 30 = .ok (.ireturn, 1) := by decide +kernel
theorem dX3_readSize_31 : decode cX3_readSize 31 = .ok (.aload_n 1, 1) := by decide +kernel
theorem dX3_readSize_32 : decode cX3_readSize 32 = .ok (.aload_n 0, 1) := by decide +kernel
theorem dX3_readSize_33 : decode cX3_readSize 33 = .ok (.getfield 72, 3) := by decide +kernel
theorem dX3_readSize_36 : decode cX3_readSize 36 = .ok (.putfield 78, 3) := by decide +kernel
theorem dX3_readSize_39 : decode cX3_readSize 39 = .ok (.aload_n 0, 1) := by decide +kernel
theorem dX3_readSize_40 : decode cX3_readSize 40 = .ok (.invokevirtual 81, 3) := by decide +kernel
theorem dX3_readSize_43 : decode cX3_readSize 43 = .ok (.ireturn, 1) := by decide +kernel
set_option maxRecDepth 20000 in
theorem kX3_readSize_72 : Cond.fieldLink RX3 72 "WindPost$Text" "number" "I" ∈ wsX3_readSize := by decide +kernel
set_option maxRecDepth 20000 in
theorem kX3_readSize_75 : Cond.fieldLink RX3 75 "WindPost$Chart" "wide" "I" ∈ wsX3_readSize := by decide +kernel
set_option maxRecDepth 20000 in
theorem kX3_readSize_78 : Cond.fieldLink RX3 78 "WindPost$Chart" "high" "I" ∈ wsX3_readSize := by decide +kernel
set_option maxRecDepth 20000 in
theorem uX3_readSize_X0 : ∀ w ∈ wsX00, w ∈ wsX3_readSize := by decide +kernel
set_option maxRecDepth 20000 in
theorem uX3_readSize_X3 : ∀ w ∈ wsX30, w ∈ wsX3_readSize := by decide +kernel
set_option maxHeartbeats 8000000 in
set_option maxRecDepth 100000 in
theorem mX3_readSize (l : Launch) (D : va_G) (ki : Nat → ClassId) (ad : Nat → Nat) (cs : List Nat) (hcs : kW cs) (N : Nat) (a1 : Nat) (ha1 : kC cs a1) (G : zMem) (tr : Int64) : gMetI l D ki ad cs yX3_readSize wsX3_readSize { frames := 3, cells := 0, slots := 0, locals := 68 } [.ref (ad 1), .ref (ad a1)] (xE ki ad) G tr (fX3_readSize N a1 G tr) := by
  refine gMetI_of (cc := cX3_readSize) (maxL := 2) (ret := (some .boolean)) (own := RX3) (by decide +kernel) rfl rfl (Nat.le_of_ble_eq_true rfl) ?_
  intro r9 G9 tr9 h p e s m below meth c S hr hlk K X ls hl
  have hl : lv_has ls 2 [(0, .ref (ad 1)), (1, .ref (ad a1))] := hl
  unfold fX3_readSize at h
  obtain ⟨H, hH⟩ : ∃ H, H = s.heap := ⟨_, rfl⟩
  obtain ⟨locs, hlo⟩ : ∃ locs : List Loc, locs = [] := ⟨_, rfl⟩
  have X : gS D cs ad ((xE ki ad) G tr) (gA cs ad s.heap.size) s H locs := by rw [hH, hlo]; exact X
  suffices z : W p l e (headSpec wsX3_readSize { frames := 3, cells := 0, slots := 0, locals := 68 }).room s m ([.ref (ad 1), .ref (ad a1)] : List Value).toArray below meth c H locs 0 0 (zQI below ([.ref (ad 1), .ref (ad a1)] : List Value).toArray s D cs ad ((xE ki ad) G9 tr9) r9) (F0 m 0 ls []) by rw [hH, hlo] at z; exact z
  clear hH hlo
  refine lv_aload_n S.1 S.2.1 dX3_readSize_0 rfl (lv_at hl 0 rfl) ?_
  refine lv_iconst (v := (2 : Int32)) S.1 S.2.1 dX3_readSize_1 (by decide) ?_
  refine lv_bipush (v := (6 : Int32)) S.1 S.2.1 dX3_readSize_2 (by decide) ?_
  obtain ⟨r_2, G_3, tr_4, hf_1, h⟩ := zbd_some h
  refine zr_calli (Eg := (xE ki ad)) K X (va_runV (As := [.int (2 : Int32), .int (6 : Int32)]) (rest := []) S (mX3_stepsToNumber l D ki ad cs hcs N (2 : Int32) (6 : Int32) G tr H.size _ _ _ hf_1) (cwV 2 S.2.2.2.2 gX3_readSize_X3_stepsToNumber rfl rfl rfl (by decide +kernel) ⟨Nat.le_of_ble_eq_true rfl, Nat.le_of_ble_eq_true rfl⟩) (zr_preV (c0 := 1) K X (hcs 1 (by decide)) xE_T rfl) rfl rfl hl.1 rfl (lv_room (Nat.le_of_ble_eq_true rfl)) dX3_readSize_4 ⟨Nat.zero_le _, Nat.zero_le _⟩) (fun H locs X => ?_)
  refine lv_if_ne (tgt := 12) S.1 S.2.1 dX3_readSize_7 (by decide) (fun hc_5 => ?_) (fun hc_5 => ?_)
  · have h := zif_neg hc_5 h
    refine lv_aload_n S.1 S.2.1 dX3_readSize_12 rfl (lv_at hl 1 rfl) ?_
    refine lv_aload_n S.1 S.2.1 dX3_readSize_13 rfl (lv_at hl 0 rfl) ?_
    refine zr_get (v := .int (G_3 1 5)) S K X (hcs 1 (by decide)) xE_T rfl uX3_readSize_X3 5 (by decide) kX3_readSize_72 rfl rfl dX3_readSize_14 ?_
    refine zr_put (xv := (G_3 1 5)) (v := .int (G_3 1 5)) (fsf := (fsC ad a1)) (ty := .int) S K X (ha1.2 0 (by decide)) xE_loc (fun _ => (xE_C ha1)) rfl uX3_readSize_X0 tyX0 tyX0_ok nmX0 0 (by decide) kX3_readSize_75 rfl (by decide +kernel) rfl rfl (by simp) rfl dX3_readSize_17 (fun H locs X => ?_)
    refine lv_aload_n S.1 S.2.1 dX3_readSize_20 rfl (lv_at hl 0 rfl) ?_
    refine lv_iconst (v := (2 : Int32)) S.1 S.2.1 dX3_readSize_21 (by decide) ?_
    refine lv_iconst (v := (5 : Int32)) S.1 S.2.1 dX3_readSize_22 (by decide) ?_
    obtain ⟨r_7, G_8, tr_9, hf_6, h⟩ := zbd_some h
    refine zr_calli (Eg := (xE ki ad)) K X (va_runV (As := [.int (2 : Int32), .int (5 : Int32)]) (rest := []) S (mX3_stepsToNumber l D ki ad cs hcs N (2 : Int32) (5 : Int32) (up2 G_3 a1 0 (G_3 1 5)) tr_4 H.size _ _ _ hf_6) (cwV 2 S.2.2.2.2 gX3_readSize_X3_stepsToNumber rfl rfl rfl (by decide +kernel) ⟨Nat.le_of_ble_eq_true rfl, Nat.le_of_ble_eq_true rfl⟩) (zr_preV (c0 := 1) K X (hcs 1 (by decide)) xE_T rfl) rfl rfl hl.1 rfl (lv_room (Nat.le_of_ble_eq_true rfl)) dX3_readSize_23 ⟨Nat.zero_le _, Nat.zero_le _⟩) (fun H locs X => ?_)
    refine lv_if_ne (tgt := 31) S.1 S.2.1 dX3_readSize_26 (by decide) (fun hc_10 => ?_) (fun hc_10 => ?_)
    · have h := zif_neg hc_10 h
      refine lv_aload_n S.1 S.2.1 dX3_readSize_31 rfl (lv_at hl 1 rfl) ?_
      refine lv_aload_n S.1 S.2.1 dX3_readSize_32 rfl (lv_at hl 0 rfl) ?_
      refine zr_get (v := .int (G_8 1 5)) S K X (hcs 1 (by decide)) xE_T rfl uX3_readSize_X3 5 (by decide) kX3_readSize_72 rfl rfl dX3_readSize_33 ?_
      refine zr_put (xv := (G_8 1 5)) (v := .int (G_8 1 5)) (fsf := (fsC ad a1)) (ty := .int) S K X (ha1.2 0 (by decide)) xE_loc (fun _ => (xE_C ha1)) rfl uX3_readSize_X0 tyX0 tyX0_ok nmX0 1 (by decide) kX3_readSize_78 rfl (by decide +kernel) rfl rfl (by simp) rfl dX3_readSize_36 (fun H locs X => ?_)
      refine lv_aload_n S.1 S.2.1 dX3_readSize_39 rfl (lv_at hl 0 rfl) ?_
      obtain ⟨r_12, G_13, tr_14, hf_11, h⟩ := zbd_some h
      refine zr_calli (Eg := (xE ki ad)) K X (va_runV (As := []) (rest := []) S (mX3_stepsToEnd l D ki ad cs hcs N (up2 G_8 a1 1 (G_8 1 5)) tr_9 H.size _ _ _ hf_11) (cwV 0 S.2.2.2.2 gX3_readSize_X3_stepsToEnd rfl rfl rfl (by decide +kernel) ⟨Nat.le_of_ble_eq_true rfl, Nat.le_of_ble_eq_true rfl⟩) (zr_preV (c0 := 1) K X (hcs 1 (by decide)) xE_T rfl) rfl rfl hl.1 rfl (lv_room (Nat.le_of_ble_eq_true rfl)) dX3_readSize_40 ⟨Nat.zero_le _, Nat.zero_le _⟩) (fun H locs X => ?_)
      exact zr_zret S hr hlk X h dX3_readSize_43
    · have h := zif_pos hc_10 h
      refine lv_iconst (v := (0 : Int32)) S.1 S.2.1 dX3_readSize_29 (by decide) ?_
      exact zr_zret S hr hlk X h dX3_readSize_30
  · have h := zif_pos hc_5 h
    refine lv_iconst (v := (0 : Int32)) S.1 S.2.1 dX3_readSize_10 (by decide) ?_
    exact zr_zret S hr hlk X h dX3_readSize_11
set_option maxRecDepth 20000 in
theorem ggX3_readIsle_X0_cells : GoodIn wsX3_readIsle wsX0_cells := goodIn_r _ [6, 7, 8, 9, 10, 11, 12, 60, 61, 62, 63, 64, 65, 66, 67, 68, 69] (by decide +kernel) (by decide +kernel)
set_option maxRecDepth 20000 in
theorem gX3_readIsle_X0_cells : GoodIn wsX3_readIsle (wsV RX3 85 RX0 yX0_cells wsX0_cells) := goodIn_app (goodIn_of _ (by decide +kernel)) ggX3_readIsle_X0_cells
set_option maxRecDepth 20000 in
theorem ggX3_readIsle_X3_stepsToNumber : GoodIn wsX3_readIsle wsX3_stepsToNumber := goodIn_r _ [17, 18, 1, 19, 20, 21, 16, 22, 23, 24, 25, 26, 27, 10, 11, 12, 28, 29, 30, 31, 32, 33, 34, 35, 36, 52, 53, 54, 55, 56, 57, 58, 59] (by decide +kernel) (by decide +kernel)
set_option maxRecDepth 20000 in
theorem gX3_readIsle_X3_stepsToNumber : GoodIn wsX3_readIsle (wsV RX3 68 RX3 yX3_stepsToNumber wsX3_stepsToNumber) := goodIn_app (goodIn_of _ (by decide +kernel)) ggX3_readIsle_X3_stepsToNumber
set_option maxRecDepth 20000 in
theorem ggX3_readIsle_X0_onCell : GoodIn wsX3_readIsle wsX0_onCell := goodIn_r _ [40, 41, 60, 61, 62, 63, 64, 65, 66, 67, 68, 69] (by decide +kernel) (by decide +kernel)
set_option maxRecDepth 20000 in
theorem gX3_readIsle_X0_onCell : GoodIn wsX3_readIsle (wsV RX3 89 RX0 yX0_onCell wsX0_onCell) := goodIn_app (goodIn_of _ (by decide +kernel)) ggX3_readIsle_X0_onCell
set_option maxRecDepth 20000 in
theorem ggX3_readIsle_X0_addIsle : GoodIn wsX3_readIsle wsX0_addIsle := goodIn_r _ [45, 46, 47, 41, 60, 61, 62, 63, 64, 65, 66, 67, 68, 69] (by decide +kernel) (by decide +kernel)
set_option maxRecDepth 20000 in
theorem gX3_readIsle_X0_addIsle : GoodIn wsX3_readIsle (wsV RX3 93 RX0 yX0_addIsle wsX0_addIsle) := goodIn_app (goodIn_of _ (by decide +kernel)) ggX3_readIsle_X0_addIsle
set_option maxRecDepth 20000 in
theorem ggX3_readIsle_X3_stepsToEnd : GoodIn wsX3_readIsle wsX3_stepsToEnd := goodIn_r _ [51, 18, 19, 20, 21, 16, 22, 23, 24, 25, 26, 1, 27, 10, 11, 12, 28, 29, 30, 31, 32, 33, 52, 53, 54, 55, 56, 57, 58, 59] (by decide +kernel) (by decide +kernel)
set_option maxRecDepth 20000 in
theorem gX3_readIsle_X3_stepsToEnd : GoodIn wsX3_readIsle (wsV RX3 81 RX3 yX3_stepsToEnd wsX3_stepsToEnd) := goodIn_app (goodIn_of _ (by decide +kernel)) ggX3_readIsle_X3_stepsToEnd
theorem dX3_readIsle_0 : decode cX3_readIsle 0 = .ok (.aload_n 0, 1) := by decide +kernel
theorem dX3_readIsle_1 : decode cX3_readIsle 1 = .ok (.iconst 0, 1) := by decide +kernel
theorem dX3_readIsle_2 : decode cX3_readIsle 2 = .ok (.aload_n 1, 1) := by decide +kernel
theorem dX3_readIsle_3 : decode cX3_readIsle 3 = .ok (.invokevirtual 85, 3) := by decide +kernel
theorem dX3_readIsle_6 : decode cX3_readIsle 6 = .ok (.iconst 1, 1) := by decide +kernel
theorem dX3_readIsle_7 : decode cX3_readIsle 7 = .ok (.isub, 1) := by decide +kernel
theorem dX3_readIsle_8 : decode cX3_readIsle 8 = .ok (.invokevirtual 68, 3) := by decide +kernel
theorem dX3_readIsle_11 : decode cX3_readIsle 11 = .ok (.ifCond .eq 16, 3) := by decide +kernel
theorem dX3_readIsle_14 : decode cX3_readIsle 14 = .ok (.aload_n 1, 1) := by decide +kernel
theorem dX3_readIsle_15 : decode cX3_readIsle 15 = .ok (.aload_n 0, 1) := by decide +kernel
theorem dX3_readIsle_16 : decode cX3_readIsle 16 = .ok (.getfield 72, 3) := by decide +kernel
theorem dX3_readIsle_19 : decode cX3_readIsle 19 = .ok (.invokevirtual 89, 3) := by decide +kernel
theorem dX3_readIsle_22 : decode cX3_readIsle 22 = .ok (.bipush (-9), 2) := by decide +kernel
theorem dX3_readIsle_24 : decode cX3_readIsle 24 = .ok (.if_icmp .eq 5, 3) := by decide +kernel
theorem dX3_readIsle_27 : decode cX3_readIsle 27 = .ok (.iconst 0, 1) := by decide +kernel
theorem dX3_readIsle_28 : decode cX3_readIsle 28 = .ok (.ireturn, 1) := by decide +kernel
theorem dX3_readIsle_29 : decode cX3_readIsle 29 = .ok (.aload_n 1, 1) := by decide +kernel
theorem dX3_readIsle_30 : decode cX3_readIsle 30 = .ok (.aload_n 0, 1) := by decide +kernel
theorem dX3_readIsle_31 : decode cX3_readIsle 31 = .ok (.getfield 72, 3) := by decide +kernel
theorem dX3_readIsle_34 : decode cX3_readIsle 34 = .ok (.invokevirtual 93, 3) := by decide +kernel
theorem dX3_readIsle_37 : decode cX3_readIsle 37 = .ok (.aload_n 0, 1) := by decide +kernel
theorem dX3_readIsle_38 : decode cX3_readIsle 38 = .ok (.invokevirtual 81, 3) := by decide +kernel
theorem dX3_readIsle_41 : decode cX3_readIsle 41 = .ok (.ireturn, 1) := by decide +kernel
set_option maxRecDepth 20000 in
theorem kX3_readIsle_72 : Cond.fieldLink RX3 72 "WindPost$Text" "number" "I" ∈ wsX3_readIsle := by decide +kernel
set_option maxRecDepth 20000 in
theorem uX3_readIsle_X3 : ∀ w ∈ wsX30, w ∈ wsX3_readIsle := by decide +kernel
set_option maxHeartbeats 8000000 in
set_option maxRecDepth 100000 in
theorem mX3_readIsle (l : Launch) (D : va_G) (ki : Nat → ClassId) (ad : Nat → Nat) (cs : List Nat) (hcs : kW cs) (N : Nat) (a1 : Nat) (ha1 : kC cs a1) (G : zMem) (tr : Int64) : gMetI l D ki ad cs yX3_readIsle wsX3_readIsle { frames := 3, cells := 0, slots := 0, locals := 68 } [.ref (ad 1), .ref (ad a1)] (xE ki ad) G tr (fX3_readIsle N a1 G tr) := by
  refine gMetI_of (cc := cX3_readIsle) (maxL := 2) (ret := (some .boolean)) (own := RX3) (by decide +kernel) rfl rfl (Nat.le_of_ble_eq_true rfl) ?_
  intro r9 G9 tr9 h p e s m below meth c S hr hlk K X ls hl
  have hl : lv_has ls 2 [(0, .ref (ad 1)), (1, .ref (ad a1))] := hl
  unfold fX3_readIsle at h
  obtain ⟨H, hH⟩ : ∃ H, H = s.heap := ⟨_, rfl⟩
  obtain ⟨locs, hlo⟩ : ∃ locs : List Loc, locs = [] := ⟨_, rfl⟩
  have X : gS D cs ad ((xE ki ad) G tr) (gA cs ad s.heap.size) s H locs := by rw [hH, hlo]; exact X
  suffices z : W p l e (headSpec wsX3_readIsle { frames := 3, cells := 0, slots := 0, locals := 68 }).room s m ([.ref (ad 1), .ref (ad a1)] : List Value).toArray below meth c H locs 0 0 (zQI below ([.ref (ad 1), .ref (ad a1)] : List Value).toArray s D cs ad ((xE ki ad) G9 tr9) r9) (F0 m 0 ls []) by rw [hH, hlo] at z; exact z
  clear hH hlo
  refine lv_aload_n S.1 S.2.1 dX3_readIsle_0 rfl (lv_at hl 0 rfl) ?_
  refine lv_iconst (v := (0 : Int32)) S.1 S.2.1 dX3_readIsle_1 (by decide) ?_
  refine lv_aload_n S.1 S.2.1 dX3_readIsle_2 rfl (lv_at hl 1 rfl) ?_
  obtain ⟨r_2, G_3, tr_4, hf_1, h⟩ := zbd_some h
  refine zr_calli (Eg := (xE ki ad)) K X (va_runV (As := []) (rest := [.int (0 : Int32), .ref (ad 1)]) S (mX0_cells l D ki ad cs  N a1 ha1 G tr H.size _ _ _ hf_1) (cwV 0 S.2.2.2.2 gX3_readIsle_X0_cells rfl rfl rfl (by decide +kernel) ⟨Nat.le_of_ble_eq_true rfl, Nat.le_of_ble_eq_true rfl⟩) (zr_preV (c0 := a1) K X (ha1.2 0 (by decide)) (xE_C ha1) rfl) rfl rfl hl.1 rfl (lv_room (Nat.le_of_ble_eq_true rfl)) dX3_readIsle_3 ⟨Nat.zero_le _, Nat.zero_le _⟩) (fun H locs X => ?_)
  refine lv_iconst (v := (1 : Int32)) S.1 S.2.1 dX3_readIsle_6 (by decide) ?_
  refine lv_isub S.1 S.2.1 dX3_readIsle_7 ?_
  obtain ⟨r_6, G_7, tr_8, hf_5, h⟩ := zbd_some h
  refine zr_calli (Eg := (xE ki ad)) K X (va_runV (As := [.int (0 : Int32), .int (r_2 - (1 : Int32))]) (rest := []) S (mX3_stepsToNumber l D ki ad cs hcs N (0 : Int32) (r_2 - (1 : Int32)) G_3 tr_4 H.size _ _ _ hf_5) (cwV 2 S.2.2.2.2 gX3_readIsle_X3_stepsToNumber rfl rfl rfl (by decide +kernel) ⟨Nat.le_of_ble_eq_true rfl, Nat.le_of_ble_eq_true rfl⟩) (zr_preV (c0 := 1) K X (hcs 1 (by decide)) xE_T rfl) rfl rfl hl.1 rfl (lv_room (Nat.le_of_ble_eq_true rfl)) dX3_readIsle_8 ⟨Nat.zero_le _, Nat.zero_le _⟩) (fun H locs X => ?_)
  refine lv_if_eq (tgt := 27) S.1 S.2.1 dX3_readIsle_11 (by decide) (fun hc_9 => ?_) (fun hc_9 => ?_)
  · have h := zif_pos hc_9 h
    refine lv_iconst (v := (0 : Int32)) S.1 S.2.1 dX3_readIsle_27 (by decide) ?_
    exact zr_zret S hr hlk X h dX3_readIsle_28
  · have h := zif_neg hc_9 h
    refine lv_aload_n S.1 S.2.1 dX3_readIsle_14 rfl (lv_at hl 1 rfl) ?_
    refine lv_aload_n S.1 S.2.1 dX3_readIsle_15 rfl (lv_at hl 0 rfl) ?_
    refine zr_get (v := .int (G_7 1 5)) S K X (hcs 1 (by decide)) xE_T rfl uX3_readIsle_X3 5 (by decide) kX3_readIsle_72 rfl rfl dX3_readIsle_16 ?_
    obtain ⟨r_11, G_12, tr_13, hf_10, h⟩ := zbd_some h
    refine zr_calli (Eg := (xE ki ad)) K X (va_runV (As := [.int (G_7 1 5)]) (rest := []) S (mX0_onCell l D ki ad cs  N a1 (G_7 1 5) ha1 G_7 tr_8 H.size _ _ _ hf_10) (cwV 1 S.2.2.2.2 gX3_readIsle_X0_onCell rfl rfl rfl (by decide +kernel) ⟨Nat.le_of_ble_eq_true rfl, Nat.le_of_ble_eq_true rfl⟩) (zr_preV (c0 := a1) K X (ha1.2 0 (by decide)) (xE_C ha1) rfl) rfl rfl hl.1 rfl (lv_room (Nat.le_of_ble_eq_true rfl)) dX3_readIsle_19 ⟨Nat.zero_le _, Nat.zero_le _⟩) (fun H locs X => ?_)
    refine lv_bipush (v := (-9 : Int32)) S.1 S.2.1 dX3_readIsle_22 (by decide) ?_
    refine lv_icmp_eq (tgt := 29) S.1 S.2.1 dX3_readIsle_24 (by decide) (fun hc_14 => ?_) (fun hc_14 => ?_)
    · have h := zif_pos hc_14 h
      refine lv_aload_n S.1 S.2.1 dX3_readIsle_29 rfl (lv_at hl 1 rfl) ?_
      refine lv_aload_n S.1 S.2.1 dX3_readIsle_30 rfl (lv_at hl 0 rfl) ?_
      refine zr_get (v := .int (G_12 1 5)) S K X (hcs 1 (by decide)) xE_T rfl uX3_readIsle_X3 5 (by decide) kX3_readIsle_72 rfl rfl dX3_readIsle_31 ?_
      obtain ⟨r_16, G_17, tr_18, hf_15, h⟩ := zbd_some h
      refine zr_callv (Eg := (xE ki ad)) K X (va_runV (As := [.int (G_12 1 5)]) (rest := []) S (mX0_addIsle l D ki ad cs  N a1 (G_12 1 5) ha1 G_12 tr_13 H.size _ _ _ hf_15) (cwV 1 S.2.2.2.2 gX3_readIsle_X0_addIsle rfl rfl rfl (by decide +kernel) ⟨Nat.le_of_ble_eq_true rfl, Nat.le_of_ble_eq_true rfl⟩) (zr_preV (c0 := a1) K X (ha1.2 0 (by decide)) (xE_C ha1) rfl) rfl rfl hl.1 rfl (lv_room (Nat.le_of_ble_eq_true rfl)) dX3_readIsle_34 ⟨Nat.zero_le _, Nat.zero_le _⟩) (fun H locs X => ?_)
      refine lv_aload_n S.1 S.2.1 dX3_readIsle_37 rfl (lv_at hl 0 rfl) ?_
      obtain ⟨r_20, G_21, tr_22, hf_19, h⟩ := zbd_some h
      refine zr_calli (Eg := (xE ki ad)) K X (va_runV (As := []) (rest := []) S (mX3_stepsToEnd l D ki ad cs hcs N G_17 tr_18 H.size _ _ _ hf_19) (cwV 0 S.2.2.2.2 gX3_readIsle_X3_stepsToEnd rfl rfl rfl (by decide +kernel) ⟨Nat.le_of_ble_eq_true rfl, Nat.le_of_ble_eq_true rfl⟩) (zr_preV (c0 := 1) K X (hcs 1 (by decide)) xE_T rfl) rfl rfl hl.1 rfl (lv_room (Nat.le_of_ble_eq_true rfl)) dX3_readIsle_38 ⟨Nat.zero_le _, Nat.zero_le _⟩) (fun H locs X => ?_)
      exact zr_zret S hr hlk X h dX3_readIsle_41
    · have h := zif_neg hc_14 h
      refine lv_iconst (v := (0 : Int32)) S.1 S.2.1 dX3_readIsle_27 (by decide) ?_
      exact zr_zret S hr hlk X h dX3_readIsle_28
set_option maxRecDepth 20000 in
theorem ggX3_readHill_X0_cells : GoodIn wsX3_readHill wsX0_cells := goodIn_r _ [6, 7, 8, 9, 10, 11, 12, 59, 60, 61, 62, 63, 64, 65, 66, 67, 68] (by decide +kernel) (by decide +kernel)
set_option maxRecDepth 20000 in
theorem gX3_readHill_X0_cells : GoodIn wsX3_readHill (wsV RX3 85 RX0 yX0_cells wsX0_cells) := goodIn_app (goodIn_of _ (by decide +kernel)) ggX3_readHill_X0_cells
set_option maxRecDepth 20000 in
theorem ggX3_readHill_X3_stepsToNumber : GoodIn wsX3_readHill wsX3_stepsToNumber := goodIn_r _ [17, 18, 1, 19, 20, 21, 16, 22, 23, 24, 25, 26, 27, 10, 11, 12, 28, 29, 30, 31, 32, 33, 34, 35, 36, 51, 52, 53, 54, 55, 56, 57, 58] (by decide +kernel) (by decide +kernel)
set_option maxRecDepth 20000 in
theorem gX3_readHill_X3_stepsToNumber : GoodIn wsX3_readHill (wsV RX3 68 RX3 yX3_stepsToNumber wsX3_stepsToNumber) := goodIn_app (goodIn_of _ (by decide +kernel)) ggX3_readHill_X3_stepsToNumber
set_option maxRecDepth 20000 in
theorem ggX3_readHill_X0_onCell : GoodIn wsX3_readHill wsX0_onCell := goodIn_r _ [40, 41, 59, 60, 61, 62, 63, 64, 65, 66, 67, 68] (by decide +kernel) (by decide +kernel)
set_option maxRecDepth 20000 in
theorem gX3_readHill_X0_onCell : GoodIn wsX3_readHill (wsV RX3 89 RX0 yX0_onCell wsX0_onCell) := goodIn_app (goodIn_of _ (by decide +kernel)) ggX3_readHill_X0_onCell
set_option maxRecDepth 20000 in
theorem ggX3_readHill_X0_addHill : GoodIn wsX3_readHill wsX0_addHill := goodIn_r _ [45, 41, 46, 59, 60, 61, 62, 63, 64, 65, 66, 67, 68] (by decide +kernel) (by decide +kernel)
set_option maxRecDepth 20000 in
theorem gX3_readHill_X0_addHill : GoodIn wsX3_readHill (wsV RX3 97 RX0 yX0_addHill wsX0_addHill) := goodIn_app (goodIn_of _ (by decide +kernel)) ggX3_readHill_X0_addHill
set_option maxRecDepth 20000 in
theorem ggX3_readHill_X3_stepsToEnd : GoodIn wsX3_readHill wsX3_stepsToEnd := goodIn_r _ [50, 18, 19, 20, 21, 16, 22, 23, 24, 25, 26, 1, 27, 10, 11, 12, 28, 29, 30, 31, 32, 33, 51, 52, 53, 54, 55, 56, 57, 58] (by decide +kernel) (by decide +kernel)
set_option maxRecDepth 20000 in
theorem gX3_readHill_X3_stepsToEnd : GoodIn wsX3_readHill (wsV RX3 81 RX3 yX3_stepsToEnd wsX3_stepsToEnd) := goodIn_app (goodIn_of _ (by decide +kernel)) ggX3_readHill_X3_stepsToEnd
theorem dX3_readHill_0 : decode cX3_readHill 0 = .ok (.aload_n 0, 1) := by decide +kernel
theorem dX3_readHill_1 : decode cX3_readHill 1 = .ok (.iconst 0, 1) := by decide +kernel
theorem dX3_readHill_2 : decode cX3_readHill 2 = .ok (.aload_n 1, 1) := by decide +kernel
theorem dX3_readHill_3 : decode cX3_readHill 3 = .ok (.invokevirtual 85, 3) := by decide +kernel
theorem dX3_readHill_6 : decode cX3_readHill 6 = .ok (.iconst 1, 1) := by decide +kernel
theorem dX3_readHill_7 : decode cX3_readHill 7 = .ok (.isub, 1) := by decide +kernel
theorem dX3_readHill_8 : decode cX3_readHill 8 = .ok (.invokevirtual 68, 3) := by decide +kernel
theorem dX3_readHill_11 : decode cX3_readHill 11 = .ok (.ifCond .eq 16, 3) := by decide +kernel
theorem dX3_readHill_14 : decode cX3_readHill 14 = .ok (.aload_n 1, 1) := by decide +kernel
theorem dX3_readHill_15 : decode cX3_readHill 15 = .ok (.aload_n 0, 1) := by decide +kernel
theorem dX3_readHill_16 : decode cX3_readHill 16 = .ok (.getfield 72, 3) := by decide +kernel
theorem dX3_readHill_19 : decode cX3_readHill 19 = .ok (.invokevirtual 89, 3) := by decide +kernel
theorem dX3_readHill_22 : decode cX3_readHill 22 = .ok (.bipush (-9), 2) := by decide +kernel
theorem dX3_readHill_24 : decode cX3_readHill 24 = .ok (.if_icmp .eq 5, 3) := by decide +kernel
theorem dX3_readHill_27 : decode cX3_readHill 27 = .ok (.iconst 0, 1) := by decide +kernel
theorem dX3_readHill_28 : decode cX3_readHill 28 = .ok (.ireturn, 1) := by decide +kernel
theorem dX3_readHill_29 : decode cX3_readHill 29 = .ok (.aload_n 1, 1) := by decide +kernel
theorem dX3_readHill_30 : decode cX3_readHill 30 = .ok (.aload_n 0, 1) := by decide +kernel
theorem dX3_readHill_31 : decode cX3_readHill 31 = .ok (.getfield 72, 3) := by decide +kernel
theorem dX3_readHill_34 : decode cX3_readHill 34 = .ok (.invokevirtual 97, 3) := by decide +kernel
theorem dX3_readHill_37 : decode cX3_readHill 37 = .ok (.aload_n 0, 1) := by decide +kernel
theorem dX3_readHill_38 : decode cX3_readHill 38 = .ok (.invokevirtual 81, 3) := by decide +kernel
theorem dX3_readHill_41 : decode cX3_readHill 41 = .ok (.ireturn, 1) := by decide +kernel
set_option maxRecDepth 20000 in
theorem kX3_readHill_72 : Cond.fieldLink RX3 72 "WindPost$Text" "number" "I" ∈ wsX3_readHill := by decide +kernel
set_option maxRecDepth 20000 in
theorem uX3_readHill_X3 : ∀ w ∈ wsX30, w ∈ wsX3_readHill := by decide +kernel
set_option maxHeartbeats 8000000 in
set_option maxRecDepth 100000 in
theorem mX3_readHill (l : Launch) (D : va_G) (ki : Nat → ClassId) (ad : Nat → Nat) (cs : List Nat) (hcs : kW cs) (N : Nat) (a1 : Nat) (ha1 : kC cs a1) (G : zMem) (tr : Int64) : gMetI l D ki ad cs yX3_readHill wsX3_readHill { frames := 3, cells := 0, slots := 0, locals := 68 } [.ref (ad 1), .ref (ad a1)] (xE ki ad) G tr (fX3_readHill N a1 G tr) := by
  refine gMetI_of (cc := cX3_readHill) (maxL := 2) (ret := (some .boolean)) (own := RX3) (by decide +kernel) rfl rfl (Nat.le_of_ble_eq_true rfl) ?_
  intro r9 G9 tr9 h p e s m below meth c S hr hlk K X ls hl
  have hl : lv_has ls 2 [(0, .ref (ad 1)), (1, .ref (ad a1))] := hl
  unfold fX3_readHill at h
  obtain ⟨H, hH⟩ : ∃ H, H = s.heap := ⟨_, rfl⟩
  obtain ⟨locs, hlo⟩ : ∃ locs : List Loc, locs = [] := ⟨_, rfl⟩
  have X : gS D cs ad ((xE ki ad) G tr) (gA cs ad s.heap.size) s H locs := by rw [hH, hlo]; exact X
  suffices z : W p l e (headSpec wsX3_readHill { frames := 3, cells := 0, slots := 0, locals := 68 }).room s m ([.ref (ad 1), .ref (ad a1)] : List Value).toArray below meth c H locs 0 0 (zQI below ([.ref (ad 1), .ref (ad a1)] : List Value).toArray s D cs ad ((xE ki ad) G9 tr9) r9) (F0 m 0 ls []) by rw [hH, hlo] at z; exact z
  clear hH hlo
  refine lv_aload_n S.1 S.2.1 dX3_readHill_0 rfl (lv_at hl 0 rfl) ?_
  refine lv_iconst (v := (0 : Int32)) S.1 S.2.1 dX3_readHill_1 (by decide) ?_
  refine lv_aload_n S.1 S.2.1 dX3_readHill_2 rfl (lv_at hl 1 rfl) ?_
  obtain ⟨r_2, G_3, tr_4, hf_1, h⟩ := zbd_some h
  refine zr_calli (Eg := (xE ki ad)) K X (va_runV (As := []) (rest := [.int (0 : Int32), .ref (ad 1)]) S (mX0_cells l D ki ad cs  N a1 ha1 G tr H.size _ _ _ hf_1) (cwV 0 S.2.2.2.2 gX3_readHill_X0_cells rfl rfl rfl (by decide +kernel) ⟨Nat.le_of_ble_eq_true rfl, Nat.le_of_ble_eq_true rfl⟩) (zr_preV (c0 := a1) K X (ha1.2 0 (by decide)) (xE_C ha1) rfl) rfl rfl hl.1 rfl (lv_room (Nat.le_of_ble_eq_true rfl)) dX3_readHill_3 ⟨Nat.zero_le _, Nat.zero_le _⟩) (fun H locs X => ?_)
  refine lv_iconst (v := (1 : Int32)) S.1 S.2.1 dX3_readHill_6 (by decide) ?_
  refine lv_isub S.1 S.2.1 dX3_readHill_7 ?_
  obtain ⟨r_6, G_7, tr_8, hf_5, h⟩ := zbd_some h
  refine zr_calli (Eg := (xE ki ad)) K X (va_runV (As := [.int (0 : Int32), .int (r_2 - (1 : Int32))]) (rest := []) S (mX3_stepsToNumber l D ki ad cs hcs N (0 : Int32) (r_2 - (1 : Int32)) G_3 tr_4 H.size _ _ _ hf_5) (cwV 2 S.2.2.2.2 gX3_readHill_X3_stepsToNumber rfl rfl rfl (by decide +kernel) ⟨Nat.le_of_ble_eq_true rfl, Nat.le_of_ble_eq_true rfl⟩) (zr_preV (c0 := 1) K X (hcs 1 (by decide)) xE_T rfl) rfl rfl hl.1 rfl (lv_room (Nat.le_of_ble_eq_true rfl)) dX3_readHill_8 ⟨Nat.zero_le _, Nat.zero_le _⟩) (fun H locs X => ?_)
  refine lv_if_eq (tgt := 27) S.1 S.2.1 dX3_readHill_11 (by decide) (fun hc_9 => ?_) (fun hc_9 => ?_)
  · have h := zif_pos hc_9 h
    refine lv_iconst (v := (0 : Int32)) S.1 S.2.1 dX3_readHill_27 (by decide) ?_
    exact zr_zret S hr hlk X h dX3_readHill_28
  · have h := zif_neg hc_9 h
    refine lv_aload_n S.1 S.2.1 dX3_readHill_14 rfl (lv_at hl 1 rfl) ?_
    refine lv_aload_n S.1 S.2.1 dX3_readHill_15 rfl (lv_at hl 0 rfl) ?_
    refine zr_get (v := .int (G_7 1 5)) S K X (hcs 1 (by decide)) xE_T rfl uX3_readHill_X3 5 (by decide) kX3_readHill_72 rfl rfl dX3_readHill_16 ?_
    obtain ⟨r_11, G_12, tr_13, hf_10, h⟩ := zbd_some h
    refine zr_calli (Eg := (xE ki ad)) K X (va_runV (As := [.int (G_7 1 5)]) (rest := []) S (mX0_onCell l D ki ad cs  N a1 (G_7 1 5) ha1 G_7 tr_8 H.size _ _ _ hf_10) (cwV 1 S.2.2.2.2 gX3_readHill_X0_onCell rfl rfl rfl (by decide +kernel) ⟨Nat.le_of_ble_eq_true rfl, Nat.le_of_ble_eq_true rfl⟩) (zr_preV (c0 := a1) K X (ha1.2 0 (by decide)) (xE_C ha1) rfl) rfl rfl hl.1 rfl (lv_room (Nat.le_of_ble_eq_true rfl)) dX3_readHill_19 ⟨Nat.zero_le _, Nat.zero_le _⟩) (fun H locs X => ?_)
    refine lv_bipush (v := (-9 : Int32)) S.1 S.2.1 dX3_readHill_22 (by decide) ?_
    refine lv_icmp_eq (tgt := 29) S.1 S.2.1 dX3_readHill_24 (by decide) (fun hc_14 => ?_) (fun hc_14 => ?_)
    · have h := zif_pos hc_14 h
      refine lv_aload_n S.1 S.2.1 dX3_readHill_29 rfl (lv_at hl 1 rfl) ?_
      refine lv_aload_n S.1 S.2.1 dX3_readHill_30 rfl (lv_at hl 0 rfl) ?_
      refine zr_get (v := .int (G_12 1 5)) S K X (hcs 1 (by decide)) xE_T rfl uX3_readHill_X3 5 (by decide) kX3_readHill_72 rfl rfl dX3_readHill_31 ?_
      obtain ⟨r_16, G_17, tr_18, hf_15, h⟩ := zbd_some h
      refine zr_callv (Eg := (xE ki ad)) K X (va_runV (As := [.int (G_12 1 5)]) (rest := []) S (mX0_addHill l D ki ad cs  N a1 (G_12 1 5) ha1 G_12 tr_13 H.size _ _ _ hf_15) (cwV 1 S.2.2.2.2 gX3_readHill_X0_addHill rfl rfl rfl (by decide +kernel) ⟨Nat.le_of_ble_eq_true rfl, Nat.le_of_ble_eq_true rfl⟩) (zr_preV (c0 := a1) K X (ha1.2 0 (by decide)) (xE_C ha1) rfl) rfl rfl hl.1 rfl (lv_room (Nat.le_of_ble_eq_true rfl)) dX3_readHill_34 ⟨Nat.zero_le _, Nat.zero_le _⟩) (fun H locs X => ?_)
      refine lv_aload_n S.1 S.2.1 dX3_readHill_37 rfl (lv_at hl 0 rfl) ?_
      obtain ⟨r_20, G_21, tr_22, hf_19, h⟩ := zbd_some h
      refine zr_calli (Eg := (xE ki ad)) K X (va_runV (As := []) (rest := []) S (mX3_stepsToEnd l D ki ad cs hcs N G_17 tr_18 H.size _ _ _ hf_19) (cwV 0 S.2.2.2.2 gX3_readHill_X3_stepsToEnd rfl rfl rfl (by decide +kernel) ⟨Nat.le_of_ble_eq_true rfl, Nat.le_of_ble_eq_true rfl⟩) (zr_preV (c0 := 1) K X (hcs 1 (by decide)) xE_T rfl) rfl rfl hl.1 rfl (lv_room (Nat.le_of_ble_eq_true rfl)) dX3_readHill_38 ⟨Nat.zero_le _, Nat.zero_le _⟩) (fun H locs X => ?_)
      exact zr_zret S hr hlk X h dX3_readHill_41
    · have h := zif_neg hc_14 h
      refine lv_iconst (v := (0 : Int32)) S.1 S.2.1 dX3_readHill_27 (by decide) ?_
      exact zr_zret S hr hlk X h dX3_readHill_28
set_option maxRecDepth 20000 in
theorem ggX3_readWinds_X3_step : GoodIn wsX3_readWinds wsX3_step := goodIn_r _ [8, 9, 10, 11, 12, 2, 13, 14, 15, 16, 1, 17, 18, 7, 19, 20, 21, 22, 30, 31, 32, 33, 34, 35, 36, 37] (by decide +kernel) (by decide +kernel)
set_option maxRecDepth 20000 in
theorem gX3_readWinds_X3_step : GoodIn wsX3_readWinds (wsV RX3 34 RX3 yX3_step wsX3_step) := goodIn_app (goodIn_of _ (by decide +kernel)) ggX3_readWinds_X3_step
set_option maxRecDepth 20000 in
theorem ggX3_readWinds_X0_addWind : GoodIn wsX3_readWinds wsX0_addWind := goodIn_r _ [27, 28, 29, 38, 39, 40, 41, 42, 43, 44, 45, 46, 47] (by decide +kernel) (by decide +kernel)
set_option maxRecDepth 20000 in
theorem gX3_readWinds_X0_addWind : GoodIn wsX3_readWinds (wsV RX3 106 RX0 yX0_addWind wsX0_addWind) := goodIn_app (goodIn_of _ (by decide +kernel)) ggX3_readWinds_X0_addWind
theorem dX3_readWinds_0 : decode cX3_readWinds 0 = .ok (.iconst 0, 1) := by decide +kernel
theorem dX3_readWinds_1 : decode cX3_readWinds 1 = .ok (.istore_n 2, 1) := by decide +kernel
theorem dX3_readWinds_2 : decode cX3_readWinds 2 = .ok (.iload_n 2, 1) := by decide +kernel
theorem dX3_readWinds_3 : decode cX3_readWinds 3 = .ok (.bipush 12, 2) := by decide +kernel
theorem dX3_readWinds_5 : decode cX3_readWinds 5 = .ok (.if_icmp .gt 65, 3) := by decide +kernel
theorem dX3_readWinds_8 : decode cX3_readWinds 8 = .ok (.aload_n 0, 1) := by decide +kernel
theorem dX3_readWinds_9 : decode cX3_readWinds 9 = .ok (.invokevirtual 34, 3) := by decide +kernel
theorem dX3_readWinds_12 : decode cX3_readWinds 12 = .ok (.iload_n 2, 1) := by decide +kernel
theorem dX3_readWinds_13 : decode cX3_readWinds 13 = .ok (.ifCond .le 14, 3) := by decide +kernel
theorem dX3_readWinds_16 : decode cX3_readWinds 16 = .ok (.aload_n 0, 1) := by decide +kernel
theorem dX3_readWinds_17 : decode cX3_readWinds 17 = .ok (.getfield 37, 3) := by decide +kernel
theorem dX3_readWinds_20 : decode cX3_readWinds 20 = .ok (.bipush 59, 2) := by decide +kernel
theorem dX3_readWinds_22 : decode cX3_readWinds 22 = .ok (.if_icmp .ne 5, 3) := by decide +kernel
theorem dX3_readWinds_25 : decode cX3_readWinds 25 = .ok (.iconst 1, 1) := by decide +kernel
theorem dX3_readWinds_26 : decode cX3_readWinds 26 = .ok (.ireturn, 1) := by decide +kernel
theorem dX3_readWinds_27 : decode cX3_readWinds 27 = .ok (.aload_n 0, 1) := by decide +kernel
theorem dX3_readWinds_28 : decode cX3_readWinds 28 = .ok (.getfield 37, 3) := by decide +kernel
theorem dX3_readWinds_31 : decode cX3_readWinds 31 = .ok (.sipush 256, 3) := by decide +kernel
theorem dX3_readWinds_34 : decode cX3_readWinds 34 = .ok (.if_icmp .ne 20, 3) := by decide +kernel
theorem dX3_readWinds_37 : decode cX3_readWinds 37 = .ok (.aload_n 0, 1) := by decide +kernel
theorem dX3_readWinds_38 : decode cX3_readWinds 38 = .ok (.getfield 72, 3) := by decide +kernel
theorem dX3_readWinds_41 : decode cX3_readWinds 41 = .ok (.iconst 4, 1) := by decide +kernel
theorem dX3_readWinds_42 : decode cX3_readWinds 42 = .ok (.if_icmp .gt 12, 3) := by decide +kernel
theorem dX3_readWinds_45 : decode cX3_readWinds 45 = .ok (.aload_n 1, 1) := by decide +kernel
theorem dX3_readWinds_46 : decode cX3_readWinds 46 = .ok (.getfield 103, 3) := by decide +kernel
theorem dX3_readWinds_49 : decode cX3_readWinds 49 = .ok (.bipush 12, 2) := by decide +kernel
theorem dX3_readWinds_51 : decode cX3_readWinds 51 = .ok (.if_icmp .lt 5, 3) := by decide +kernel
theorem dX3_readWinds_54 : decode cX3_readWinds 54 = .ok (.iconst 0, 1) := by decide +kernel
theorem dX3_readWinds_55 : decode cX3_readWinds 55 = .ok (.ireturn, 1) := by decide +kernel
theorem dX3_readWinds_56 : decode cX3_readWinds 56 = .ok (.aload_n 1, 1) := by decide +kernel
theorem dX3_readWinds_57 : decode cX3_readWinds 57 = .ok (.aload_n 0, 1) := by decide +kernel
theorem dX3_readWinds_58 : decode cX3_readWinds 58 = .ok (.getfield 72, 3) := by decide +kernel
theorem dX3_readWinds_61 : decode cX3_readWinds 61 = .ok (.invokevirtual 106, 3) := by decide +kernel
theorem dX3_readWinds_64 : decode cX3_readWinds 64 = .ok (.iinc 2 1, 3) := by decide +kernel
theorem dX3_readWinds_67 : decode cX3_readWinds 67 = .ok (.goto (-65), 3) := by decide +kernel
theorem dX3_readWinds_70 : decode cX3_readWinds 70 = .ok (.iconst 0, 1) := by decide +kernel
theorem dX3_readWinds_71 : decode cX3_readWinds 71 = .ok (.ireturn, 1) := by decide +kernel
set_option maxRecDepth 20000 in
theorem kX3_readWinds_37 : Cond.fieldLink RX3 37 "WindPost$Text" "token" "I" ∈ wsX3_readWinds := by decide +kernel
set_option maxRecDepth 20000 in
theorem kX3_readWinds_72 : Cond.fieldLink RX3 72 "WindPost$Text" "number" "I" ∈ wsX3_readWinds := by decide +kernel
set_option maxRecDepth 20000 in
theorem kX3_readWinds_103 : Cond.fieldLink RX3 103 "WindPost$Chart" "told" "I" ∈ wsX3_readWinds := by decide +kernel
set_option maxRecDepth 20000 in
theorem uX3_readWinds_X0 : ∀ w ∈ wsX00, w ∈ wsX3_readWinds := by decide +kernel
set_option maxRecDepth 20000 in
theorem uX3_readWinds_X3 : ∀ w ∈ wsX30, w ∈ wsX3_readWinds := by decide +kernel
set_option maxHeartbeats 8000000 in
set_option maxRecDepth 100000 in
theorem mX3_readWinds (l : Launch) (D : va_G) (ki : Nat → ClassId) (ad : Nat → Nat) (cs : List Nat) (hcs : kW cs) (N : Nat) (a1 : Nat) (ha1 : kC cs a1) (G : zMem) (tr : Int64) : gMetI l D ki ad cs yX3_readWinds wsX3_readWinds { frames := 2, cells := 0, slots := 0, locals := 46 } [.ref (ad 1), .ref (ad a1)] (xE ki ad) G tr (fX3_readWinds N a1 G tr) := by
  refine gMetI_of (cc := cX3_readWinds) (maxL := 3) (ret := (some .boolean)) (own := RX3) (by decide +kernel) rfl rfl (Nat.le_of_ble_eq_true rfl) ?_
  intro r9 G9 tr9 h p e s m below meth c S hr hlk K X ls hl
  have hl : lv_has ls 3 [(0, .ref (ad 1)), (1, .ref (ad a1))] := hl
  have b27 : ∀ (k2 : Int32 → zMem → Int64 → zR) (hk2 : ∀ (x2 : Int32) (G : zMem) (tr : Int64), k2 x2 G tr = some (r9, G9, tr9) → zAt p l e (headSpec wsX3_readWinds { frames := 2, cells := 0, slots := 0, locals := 46 }).room s m ([.ref (ad 1), .ref (ad a1)] : List Value).toArray below meth c 3 D cs ad (zQI below ([.ref (ad 1), .ref (ad a1)] : List Value).toArray s D cs ad ((xE ki ad) G9 tr9) r9) 2 [(0, .ref (ad 1)), (1, .ref (ad a1)), (2, .int x2)] [] ((xE ki ad) G tr)) (x2 : Int32) (G : zMem) (tr : Int64), fX3_readWinds_b27 N a1 k2 x2 G tr = some (r9, G9, tr9) → zAt p l e (headSpec wsX3_readWinds { frames := 2, cells := 0, slots := 0, locals := 46 }).room s m ([.ref (ad 1), .ref (ad a1)] : List Value).toArray below meth c 3 D cs ad (zQI below ([.ref (ad 1), .ref (ad a1)] : List Value).toArray s D cs ad ((xE ki ad) G9 tr9) r9) 27 [(0, .ref (ad 1)), (1, .ref (ad a1)), (2, .int x2)] [] ((xE ki ad) G tr) := by
    intro k2 hk2 x2 G tr h H locs ls X hl
    unfold fX3_readWinds_b27 at h
    refine lv_aload_n S.1 S.2.1 dX3_readWinds_27 rfl (lv_at hl 0 rfl) ?_
    refine zr_get (v := .int (G 1 4)) S K X (hcs 1 (by decide)) xE_T rfl uX3_readWinds_X3 4 (by decide) kX3_readWinds_37 rfl rfl dX3_readWinds_28 ?_
    refine lv_sipush (v := (256 : Int32)) S.1 S.2.1 dX3_readWinds_31 (by decide) ?_
    refine lv_icmp_ne (tgt := 54) S.1 S.2.1 dX3_readWinds_34 (by decide) (fun hc_1 => ?_) (fun hc_1 => ?_)
    · have h := zif_neg hc_1 h
      refine lv_iconst (v := (0 : Int32)) S.1 S.2.1 dX3_readWinds_54 (by decide) ?_
      exact zr_zret S hr hlk X h dX3_readWinds_55
    · have h := zif_pos hc_1 h
      refine lv_aload_n S.1 S.2.1 dX3_readWinds_37 rfl (lv_at hl 0 rfl) ?_
      refine zr_get (v := .int (G 1 5)) S K X (hcs 1 (by decide)) xE_T rfl uX3_readWinds_X3 5 (by decide) kX3_readWinds_72 rfl rfl dX3_readWinds_38 ?_
      refine lv_iconst (v := (4 : Int32)) S.1 S.2.1 dX3_readWinds_41 (by decide) ?_
      refine lv_icmp_gt (tgt := 54) S.1 S.2.1 dX3_readWinds_42 (by decide) (fun hc_2 => ?_) (fun hc_2 => ?_)
      · have h := zif_pos hc_2 h
        refine lv_iconst (v := (0 : Int32)) S.1 S.2.1 dX3_readWinds_54 (by decide) ?_
        exact zr_zret S hr hlk X h dX3_readWinds_55
      · have h := zif_neg hc_2 h
        refine lv_aload_n S.1 S.2.1 dX3_readWinds_45 rfl (lv_at hl 1 rfl) ?_
        refine zr_get (v := .int (G a1 5)) S K X (ha1.2 0 (by decide)) (xE_C ha1) rfl uX3_readWinds_X0 5 (by decide) kX3_readWinds_103 rfl rfl dX3_readWinds_46 ?_
        refine lv_bipush (v := (12 : Int32)) S.1 S.2.1 dX3_readWinds_49 (by decide) ?_
        refine lv_icmp_lt (tgt := 56) S.1 S.2.1 dX3_readWinds_51 (by decide) (fun hc_3 => ?_) (fun hc_3 => ?_)
        · have h := zif_pos hc_3 h
          refine lv_aload_n S.1 S.2.1 dX3_readWinds_56 rfl (lv_at hl 1 rfl) ?_
          refine lv_aload_n S.1 S.2.1 dX3_readWinds_57 rfl (lv_at hl 0 rfl) ?_
          refine zr_get (v := .int (G 1 5)) S K X (hcs 1 (by decide)) xE_T rfl uX3_readWinds_X3 5 (by decide) kX3_readWinds_72 rfl rfl dX3_readWinds_58 ?_
          obtain ⟨r_5, G_6, tr_7, hf_4, h⟩ := zbd_some h
          refine zr_callv (Eg := (xE ki ad)) K X (va_runV (As := [.int (G 1 5)]) (rest := []) S (mX0_addWind l D ki ad cs  N a1 (G 1 5) ha1 G tr H.size _ _ _ hf_4) (cwV 1 S.2.2.2.2 gX3_readWinds_X0_addWind rfl rfl rfl (by decide +kernel) ⟨Nat.le_of_ble_eq_true rfl, Nat.le_of_ble_eq_true rfl⟩) (zr_preV (c0 := a1) K X (ha1.2 0 (by decide)) (xE_C ha1) rfl) rfl rfl hl.1 rfl (lv_room (Nat.le_of_ble_eq_true rfl)) dX3_readWinds_61 ⟨Nat.zero_le _, Nat.zero_le _⟩) (fun H locs X => ?_)
          refine lv_iinc (v := (x2 + 1)) (lv' := [(2, .int (x2 + 1)), (0, .ref (ad 1)), (1, .ref (ad a1))]) S.1 S.2.1 dX3_readWinds_64 hl (k := 2) rfl rfl (by decide) rfl (fun ls hl => ?_)
          refine lv_goto (tgt := 2) S.1 S.2.1 dX3_readWinds_67 (by decide) ?_
          exact hk2 (x2 + 1) G_6 tr_7 h _ _ _ X (lv_sub hl [1, 2, 0] rfl)
        · have h := zif_neg hc_3 h
          refine lv_iconst (v := (0 : Int32)) S.1 S.2.1 dX3_readWinds_54 (by decide) ?_
          exact zr_zret S hr hlk X h dX3_readWinds_55
  have b2 : ∀ (k2 : Int32 → zMem → Int64 → zR) (hk2 : ∀ (x2 : Int32) (G : zMem) (tr : Int64), k2 x2 G tr = some (r9, G9, tr9) → zAt p l e (headSpec wsX3_readWinds { frames := 2, cells := 0, slots := 0, locals := 46 }).room s m ([.ref (ad 1), .ref (ad a1)] : List Value).toArray below meth c 3 D cs ad (zQI below ([.ref (ad 1), .ref (ad a1)] : List Value).toArray s D cs ad ((xE ki ad) G9 tr9) r9) 2 [(0, .ref (ad 1)), (1, .ref (ad a1)), (2, .int x2)] [] ((xE ki ad) G tr)) (x2 : Int32) (G : zMem) (tr : Int64), fX3_readWinds_b2 N a1 k2 x2 G tr = some (r9, G9, tr9) → zAt p l e (headSpec wsX3_readWinds { frames := 2, cells := 0, slots := 0, locals := 46 }).room s m ([.ref (ad 1), .ref (ad a1)] : List Value).toArray below meth c 3 D cs ad (zQI below ([.ref (ad 1), .ref (ad a1)] : List Value).toArray s D cs ad ((xE ki ad) G9 tr9) r9) 2 [(0, .ref (ad 1)), (1, .ref (ad a1)), (2, .int x2)] [] ((xE ki ad) G tr) := by
    intro k2 hk2 x2 G tr h H locs ls X hl
    unfold fX3_readWinds_b2 at h
    refine lv_iload_n S.1 S.2.1 dX3_readWinds_2 rfl (lv_at hl 2 rfl) ?_
    refine lv_bipush (v := (12 : Int32)) S.1 S.2.1 dX3_readWinds_3 (by decide) ?_
    refine lv_icmp_gt (tgt := 70) S.1 S.2.1 dX3_readWinds_5 (by decide) (fun hc_1 => ?_) (fun hc_1 => ?_)
    · have h := zif_pos hc_1 h
      refine lv_iconst (v := (0 : Int32)) S.1 S.2.1 dX3_readWinds_70 (by decide) ?_
      exact zr_zret S hr hlk X h dX3_readWinds_71
    · have h := zif_neg hc_1 h
      refine lv_aload_n S.1 S.2.1 dX3_readWinds_8 rfl (lv_at hl 0 rfl) ?_
      obtain ⟨r_3, G_4, tr_5, hf_2, h⟩ := zbd_some h
      refine zr_callv (Eg := (xE ki ad)) K X (va_runV (As := []) (rest := []) S (mX3_step l D ki ad cs hcs N G tr H.size _ _ _ hf_2) (cwV 0 S.2.2.2.2 gX3_readWinds_X3_step rfl rfl rfl (by decide +kernel) ⟨Nat.le_of_ble_eq_true rfl, Nat.le_of_ble_eq_true rfl⟩) (zr_preV (c0 := 1) K X (hcs 1 (by decide)) xE_T rfl) rfl rfl hl.1 rfl (lv_room (Nat.le_of_ble_eq_true rfl)) dX3_readWinds_9 ⟨Nat.zero_le _, Nat.zero_le _⟩) (fun H locs X => ?_)
      refine lv_iload_n S.1 S.2.1 dX3_readWinds_12 rfl (lv_at hl 2 rfl) ?_
      refine lv_if_le (tgt := 27) S.1 S.2.1 dX3_readWinds_13 (by decide) (fun hc_6 => ?_) (fun hc_6 => ?_)
      · have h := zif_pos hc_6 h
        exact b27 k2 hk2 x2 G_4 tr_5 h _ _ _ X (lv_sub hl [0, 1, 2] rfl)
      · have h := zif_neg hc_6 h
        refine lv_aload_n S.1 S.2.1 dX3_readWinds_16 rfl (lv_at hl 0 rfl) ?_
        refine zr_get (v := .int (G_4 1 4)) S K X (hcs 1 (by decide)) xE_T rfl uX3_readWinds_X3 4 (by decide) kX3_readWinds_37 rfl rfl dX3_readWinds_17 ?_
        refine lv_bipush (v := (59 : Int32)) S.1 S.2.1 dX3_readWinds_20 (by decide) ?_
        refine lv_icmp_ne (tgt := 27) S.1 S.2.1 dX3_readWinds_22 (by decide) (fun hc_7 => ?_) (fun hc_7 => ?_)
        · have h := zif_neg hc_7 h
          exact b27 k2 hk2 x2 G_4 tr_5 h _ _ _ X (lv_sub hl [0, 1, 2] rfl)
        · have h := zif_pos hc_7 h
          refine lv_iconst (v := (1 : Int32)) S.1 S.2.1 dX3_readWinds_25 (by decide) ?_
          exact zr_zret S hr hlk X h dX3_readWinds_26
  have L2 : ∀ (n : Nat) (x2 : Int32) (G : zMem) (tr : Int64), fX3_readWinds_L2 N a1 n x2 G tr = some (r9, G9, tr9) → zAt p l e (headSpec wsX3_readWinds { frames := 2, cells := 0, slots := 0, locals := 46 }).room s m ([.ref (ad 1), .ref (ad a1)] : List Value).toArray below meth c 3 D cs ad (zQI below ([.ref (ad 1), .ref (ad a1)] : List Value).toArray s D cs ad ((xE ki ad) G9 tr9) r9) 2 [(0, .ref (ad 1)), (1, .ref (ad a1)), (2, .int x2)] [] ((xE ki ad) G tr) := by
    intro n
    induction n with
    | zero => intro x2 G tr h; cases h
    | succ n ih => intro x2 G tr h; exact b2 (fX3_readWinds_L2 N a1 n) ih x2 G tr h
  unfold fX3_readWinds at h
  obtain ⟨H, hH⟩ : ∃ H, H = s.heap := ⟨_, rfl⟩
  obtain ⟨locs, hlo⟩ : ∃ locs : List Loc, locs = [] := ⟨_, rfl⟩
  have X : gS D cs ad ((xE ki ad) G tr) (gA cs ad s.heap.size) s H locs := by rw [hH, hlo]; exact X
  suffices z : W p l e (headSpec wsX3_readWinds { frames := 2, cells := 0, slots := 0, locals := 46 }).room s m ([.ref (ad 1), .ref (ad a1)] : List Value).toArray below meth c H locs 0 0 (zQI below ([.ref (ad 1), .ref (ad a1)] : List Value).toArray s D cs ad ((xE ki ad) G9 tr9) r9) (F0 m 0 ls []) by rw [hH, hlo] at z; exact z
  clear hH hlo
  refine lv_iconst (v := (0 : Int32)) S.1 S.2.1 dX3_readWinds_0 (by decide) ?_
  refine lv_istore_n (lv' := [(2, .int (0 : Int32)), (0, .ref (ad 1)), (1, .ref (ad a1))]) S.1 S.2.1 dX3_readWinds_1 rfl hl (by decide) rfl (fun ls hl => ?_)
  exact L2 N (0 : Int32) G tr h _ _ _ X (lv_sub hl [1, 2, 0] rfl)
set_option maxRecDepth 20000 in
theorem ggX3_readForce_X3_stepsToNumber : GoodIn wsX3_readForce wsX3_stepsToNumber := goodIn_r _ [8, 9, 1, 10, 11, 12, 7, 13, 14, 15, 16, 17, 18, 19, 20, 21, 22, 23, 24, 25, 26, 27, 28, 29, 30, 35, 36, 37, 38, 39, 40, 41, 42] (by decide +kernel) (by decide +kernel)
set_option maxRecDepth 20000 in
theorem gX3_readForce_X3_stepsToNumber : GoodIn wsX3_readForce (wsV RX3 68 RX3 yX3_stepsToNumber wsX3_stepsToNumber) := goodIn_app (goodIn_of _ (by decide +kernel)) ggX3_readForce_X3_stepsToNumber
set_option maxRecDepth 20000 in
theorem ggX3_readForce_X3_stepsToEnd : GoodIn wsX3_readForce wsX3_stepsToEnd := goodIn_r _ [34, 9, 10, 11, 12, 7, 13, 14, 15, 16, 17, 1, 18, 19, 20, 21, 22, 23, 24, 25, 26, 27, 35, 36, 37, 38, 39, 40, 41, 42] (by decide +kernel) (by decide +kernel)
set_option maxRecDepth 20000 in
theorem gX3_readForce_X3_stepsToEnd : GoodIn wsX3_readForce (wsV RX3 81 RX3 yX3_stepsToEnd wsX3_stepsToEnd) := goodIn_app (goodIn_of _ (by decide +kernel)) ggX3_readForce_X3_stepsToEnd
theorem dX3_readForce_0 : decode cX3_readForce 0 = .ok (.aload_n 0, 1) := by decide +kernel
theorem dX3_readForce_1 : decode cX3_readForce 1 = .ok (.iconst 1, 1) := by decide +kernel
theorem dX3_readForce_2 : decode cX3_readForce 2 = .ok (.bipush 6, 2) := by decide +kernel
theorem dX3_readForce_4 : decode cX3_readForce 4 = .ok (.invokevirtual 68, 3) := by decide +kernel
theorem dX3_readForce_7 : decode cX3_readForce 7 = .ok (.ifCond .ne 5, 3) := by decide +kernel
theorem dX3_readForce_10 : decode cX3_readForce 10 = .ok (.iconst 0, 1) := by decide +kernel
theorem dX3_readForce_11 : decode cX3_readForce 11 = .ok (.ireturn, 1) := by decide +kernel
theorem dX3_readForce_12 : decode cX3_readForce 12 = .ok (.aload_n 1, 1) := by decide +kernel
theorem dX3_readForce_13 : decode cX3_readForce 13 = .ok (.aload_n 0, 1) := by decide +kernel
theorem dX3_readForce_14 : decode cX3_readForce 14 = .ok (.getfield 72, 3) := by decide +kernel
theorem dX3_readForce_17 : decode cX3_readForce 17 = .ok (.putfield 100, 3) := by decide +kernel
theorem dX3_readForce_20 : decode cX3_readForce 20 = .ok (.aload_n 0, 1) := by decide +kernel
theorem dX3_readForce_21 : decode cX3_readForce 21 = .ok (.iconst 1, 1) := by decide +kernel
theorem dX3_readForce_22 : decode cX3_readForce 22 = .ok (.putfield 30, 3) := by decide +kernel
theorem dX3_readForce_25 : decode cX3_readForce 25 = .ok (.aload_n 0, 1) := by decide +kernel
theorem dX3_readForce_26 : decode cX3_readForce 26 = .ok (.invokevirtual 81, 3) := by decide +kernel
theorem dX3_readForce_29 : decode cX3_readForce 29 = .ok (.ireturn, 1) := by decide +kernel
set_option maxRecDepth 20000 in
theorem kX3_readForce_30 : Cond.fieldLink RX3 30 "WindPost$Text" "forceTold" "Z" ∈ wsX3_readForce := by decide +kernel
set_option maxRecDepth 20000 in
theorem kX3_readForce_72 : Cond.fieldLink RX3 72 "WindPost$Text" "number" "I" ∈ wsX3_readForce := by decide +kernel
set_option maxRecDepth 20000 in
theorem kX3_readForce_100 : Cond.fieldLink RX3 100 "WindPost$Chart" "force" "I" ∈ wsX3_readForce := by decide +kernel
set_option maxRecDepth 20000 in
theorem uX3_readForce_X0 : ∀ w ∈ wsX00, w ∈ wsX3_readForce := by decide +kernel
set_option maxRecDepth 20000 in
theorem uX3_readForce_X3 : ∀ w ∈ wsX30, w ∈ wsX3_readForce := by decide +kernel
set_option maxHeartbeats 8000000 in
set_option maxRecDepth 100000 in
theorem mX3_readForce (l : Launch) (D : va_G) (ki : Nat → ClassId) (ad : Nat → Nat) (cs : List Nat) (hcs : kW cs) (N : Nat) (a1 : Nat) (ha1 : kC cs a1) (G : zMem) (tr : Int64) : gMetI l D ki ad cs yX3_readForce wsX3_readForce { frames := 3, cells := 0, slots := 0, locals := 68 } [.ref (ad 1), .ref (ad a1)] (xE ki ad) G tr (fX3_readForce N a1 G tr) := by
  refine gMetI_of (cc := cX3_readForce) (maxL := 2) (ret := (some .boolean)) (own := RX3) (by decide +kernel) rfl rfl (Nat.le_of_ble_eq_true rfl) ?_
  intro r9 G9 tr9 h p e s m below meth c S hr hlk K X ls hl
  have hl : lv_has ls 2 [(0, .ref (ad 1)), (1, .ref (ad a1))] := hl
  unfold fX3_readForce at h
  obtain ⟨H, hH⟩ : ∃ H, H = s.heap := ⟨_, rfl⟩
  obtain ⟨locs, hlo⟩ : ∃ locs : List Loc, locs = [] := ⟨_, rfl⟩
  have X : gS D cs ad ((xE ki ad) G tr) (gA cs ad s.heap.size) s H locs := by rw [hH, hlo]; exact X
  suffices z : W p l e (headSpec wsX3_readForce { frames := 3, cells := 0, slots := 0, locals := 68 }).room s m ([.ref (ad 1), .ref (ad a1)] : List Value).toArray below meth c H locs 0 0 (zQI below ([.ref (ad 1), .ref (ad a1)] : List Value).toArray s D cs ad ((xE ki ad) G9 tr9) r9) (F0 m 0 ls []) by rw [hH, hlo] at z; exact z
  clear hH hlo
  refine lv_aload_n S.1 S.2.1 dX3_readForce_0 rfl (lv_at hl 0 rfl) ?_
  refine lv_iconst (v := (1 : Int32)) S.1 S.2.1 dX3_readForce_1 (by decide) ?_
  refine lv_bipush (v := (6 : Int32)) S.1 S.2.1 dX3_readForce_2 (by decide) ?_
  obtain ⟨r_2, G_3, tr_4, hf_1, h⟩ := zbd_some h
  refine zr_calli (Eg := (xE ki ad)) K X (va_runV (As := [.int (1 : Int32), .int (6 : Int32)]) (rest := []) S (mX3_stepsToNumber l D ki ad cs hcs N (1 : Int32) (6 : Int32) G tr H.size _ _ _ hf_1) (cwV 2 S.2.2.2.2 gX3_readForce_X3_stepsToNumber rfl rfl rfl (by decide +kernel) ⟨Nat.le_of_ble_eq_true rfl, Nat.le_of_ble_eq_true rfl⟩) (zr_preV (c0 := 1) K X (hcs 1 (by decide)) xE_T rfl) rfl rfl hl.1 rfl (lv_room (Nat.le_of_ble_eq_true rfl)) dX3_readForce_4 ⟨Nat.zero_le _, Nat.zero_le _⟩) (fun H locs X => ?_)
  refine lv_if_ne (tgt := 12) S.1 S.2.1 dX3_readForce_7 (by decide) (fun hc_5 => ?_) (fun hc_5 => ?_)
  · have h := zif_neg hc_5 h
    refine lv_aload_n S.1 S.2.1 dX3_readForce_12 rfl (lv_at hl 1 rfl) ?_
    refine lv_aload_n S.1 S.2.1 dX3_readForce_13 rfl (lv_at hl 0 rfl) ?_
    refine zr_get (v := .int (G_3 1 5)) S K X (hcs 1 (by decide)) xE_T rfl uX3_readForce_X3 5 (by decide) kX3_readForce_72 rfl rfl dX3_readForce_14 ?_
    refine zr_put (xv := (G_3 1 5)) (v := .int (G_3 1 5)) (fsf := (fsC ad a1)) (ty := .int) S K X (ha1.2 0 (by decide)) xE_loc (fun _ => (xE_C ha1)) rfl uX3_readForce_X0 tyX0 tyX0_ok nmX0 2 (by decide) kX3_readForce_100 rfl (by decide +kernel) rfl rfl (by simp) rfl dX3_readForce_17 (fun H locs X => ?_)
    refine lv_aload_n S.1 S.2.1 dX3_readForce_20 rfl (lv_at hl 0 rfl) ?_
    refine lv_iconst (v := (1 : Int32)) S.1 S.2.1 dX3_readForce_21 (by decide) ?_
    obtain ⟨hz_6, h⟩ := zbo_some h
    refine zr_put (xv := (1 : Int32)) (v := .int (1 : Int32)) (fsf := (fsT ad)) (ty := .boolean) S K X (hcs 1 (by decide)) xE_loc (fun _ => xE_T) rfl uX3_readForce_X3 tyX3 tyX3_ok nmX3 7 (by decide) kX3_readForce_30 rfl (by decide +kernel) (zbo_nar hz_6) rfl (by simp) rfl dX3_readForce_22 (fun H locs X => ?_)
    refine lv_aload_n S.1 S.2.1 dX3_readForce_25 rfl (lv_at hl 0 rfl) ?_
    obtain ⟨r_8, G_9, tr_10, hf_7, h⟩ := zbd_some h
    refine zr_calli (Eg := (xE ki ad)) K X (va_runV (As := []) (rest := []) S (mX3_stepsToEnd l D ki ad cs hcs N (up2 (up2 G_3 a1 2 (G_3 1 5)) 1 7 (1 : Int32)) tr_4 H.size _ _ _ hf_7) (cwV 0 S.2.2.2.2 gX3_readForce_X3_stepsToEnd rfl rfl rfl (by decide +kernel) ⟨Nat.le_of_ble_eq_true rfl, Nat.le_of_ble_eq_true rfl⟩) (zr_preV (c0 := 1) K X (hcs 1 (by decide)) xE_T rfl) rfl rfl hl.1 rfl (lv_room (Nat.le_of_ble_eq_true rfl)) dX3_readForce_26 ⟨Nat.zero_le _, Nat.zero_le _⟩) (fun H locs X => ?_)
    exact zr_zret S hr hlk X h dX3_readForce_29
  · have h := zif_pos hc_5 h
    refine lv_iconst (v := (0 : Int32)) S.1 S.2.1 dX3_readForce_10 (by decide) ?_
    exact zr_zret S hr hlk X h dX3_readForce_11
set_option maxRecDepth 20000 in
theorem ggX3_readItem_X3_readSize : GoodIn wsX3_readItem wsX3_readSize := goodIn_r _ [10, 11, 12, 13, 14, 15, 16, 9, 17, 1, 18, 19, 20, 21, 22, 23, 24, 25, 26, 27, 28, 29, 30, 31, 32, 33, 34, 35, 36, 37, 38, 39, 40, 41, 42, 91, 92, 93, 94, 95, 96, 97, 98, 99, 100, 101, 102, 103, 104, 105, 106, 107, 108] (by decide +kernel) (by decide +kernel)
set_option maxRecDepth 20000 in
theorem gX3_readItem_X3_readSize : GoodIn wsX3_readItem (wsV RX3 47 RX3 yX3_readSize wsX3_readSize) := goodIn_app (goodIn_of _ (by decide +kernel)) ggX3_readItem_X3_readSize
set_option maxRecDepth 20000 in
theorem ggX3_readItem_X3_readIsle : GoodIn wsX3_readItem wsX3_readIsle := goodIn_r _ [46, 11, 47, 48, 49, 50, 51, 52, 53, 54, 27, 28, 29, 14, 15, 16, 9, 17, 1, 18, 19, 20, 21, 22, 23, 24, 25, 26, 30, 31, 32, 33, 34, 35, 36, 37, 38, 55, 56, 57, 58, 59, 60, 61, 62, 63, 64, 65, 39, 40, 41, 42, 91, 92, 93, 94, 95, 96, 97, 98, 99, 100, 101, 102, 103, 104, 105, 106, 107, 108] (by decide +kernel) (by decide +kernel)
set_option maxRecDepth 20000 in
theorem gX3_readItem_X3_readIsle : GoodIn wsX3_readItem (wsV RX3 53 RX3 yX3_readIsle wsX3_readIsle) := goodIn_app (goodIn_of _ (by decide +kernel)) ggX3_readItem_X3_readIsle
set_option maxRecDepth 20000 in
theorem ggX3_readItem_X3_readHill : GoodIn wsX3_readItem wsX3_readHill := goodIn_r _ [69, 11, 47, 48, 49, 50, 51, 52, 53, 54, 27, 28, 29, 14, 15, 16, 9, 17, 1, 18, 19, 20, 21, 22, 23, 24, 25, 26, 30, 31, 32, 33, 34, 35, 36, 37, 38, 55, 56, 57, 58, 59, 70, 71, 72, 73, 74, 39, 40, 41, 42, 91, 92, 93, 94, 95, 96, 97, 98, 99, 100, 101, 102, 103, 104, 105, 106, 107, 108] (by decide +kernel) (by decide +kernel)
set_option maxRecDepth 20000 in
theorem gX3_readItem_X3_readHill : GoodIn wsX3_readItem (wsV RX3 59 RX3 yX3_readHill wsX3_readHill) := goodIn_app (goodIn_of _ (by decide +kernel)) ggX3_readItem_X3_readHill
set_option maxRecDepth 20000 in
theorem ggX3_readItem_X3_readWinds : GoodIn wsX3_readItem wsX3_readWinds := goodIn_r _ [78, 1, 11, 79, 18, 19, 20, 9, 21, 22, 23, 24, 25, 26, 27, 28, 29, 30, 31, 32, 33, 34, 35, 80, 81, 82, 50, 83, 84, 85, 91, 92, 93, 94, 95, 96, 97, 98, 99, 100, 101, 102, 103, 104, 105, 106, 107, 108] (by decide +kernel) (by decide +kernel)
set_option maxRecDepth 20000 in
theorem gX3_readItem_X3_readWinds : GoodIn wsX3_readItem (wsV RX3 62 RX3 yX3_readWinds wsX3_readWinds) := goodIn_app (goodIn_of _ (by decide +kernel)) ggX3_readItem_X3_readWinds
set_option maxRecDepth 20000 in
theorem ggX3_readItem_X3_readForce : GoodIn wsX3_readItem wsX3_readForce := goodIn_r _ [89, 11, 90, 5, 14, 15, 16, 9, 17, 1, 18, 19, 20, 21, 22, 23, 24, 25, 26, 27, 28, 29, 30, 31, 32, 33, 34, 35, 36, 37, 38, 39, 40, 41, 42, 91, 92, 93, 94, 95, 96, 97, 98, 99, 100, 101, 102, 103, 104, 105, 106, 107, 108] (by decide +kernel) (by decide +kernel)
set_option maxRecDepth 20000 in
theorem gX3_readItem_X3_readForce : GoodIn wsX3_readItem (wsV RX3 65 RX3 yX3_readForce wsX3_readForce) := goodIn_app (goodIn_of _ (by decide +kernel)) ggX3_readItem_X3_readForce
theorem dX3_readItem_0 : decode cX3_readItem 0 = .ok (.aload_n 0, 1) := by decide +kernel
theorem dX3_readItem_1 : decode cX3_readItem 1 = .ok (.getfield 37, 3) := by decide +kernel
theorem dX3_readItem_4 : decode cX3_readItem 4 = .ok (.lookupswitch 146 #[(98, 119), (102, 125), (103, 52), (105, 73), (120, 96)], 52) := by decide +kernel
theorem dX3_readItem_56 : decode cX3_readItem 56 = .ok (.aload_n 0, 1) := by decide +kernel
theorem dX3_readItem_57 : decode cX3_readItem 57 = .ok (.getfield 27, 3) := by decide +kernel
theorem dX3_readItem_60 : decode cX3_readItem 60 = .ok (.ifCond .ne 15, 3) := by decide +kernel
theorem dX3_readItem_63 : decode cX3_readItem 63 = .ok (.aload_n 0, 1) := by decide +kernel
theorem dX3_readItem_64 : decode cX3_readItem 64 = .ok (.aload_n 1, 1) := by decide +kernel
theorem dX3_readItem_65 : decode cX3_readItem 65 = .ok (.invokevirtual 47, 3) := by decide +kernel
theorem dX3_readItem_68 : decode cX3_readItem 68 = .ok (.ifCond .eq 7, 3) := by decide +kernel
theorem dX3_readItem_71 : decode cX3_readItem 71 = .ok (.iconst 1, 1) := by decide +kernel
theorem dX3_readItem_72 : decode cX3_readItem 72 = .ok (.goto 4, 3) := by decide +kernel
theorem dX3_readItem_75 : decode cX3_readItem 75 = .ok (.iconst 0, 1) := by decide +kernel
theorem dX3_readItem_76 : decode cX3_readItem 76 = .ok (.ireturn, 1) := by decide +kernel
theorem dX3_readItem_77 : decode cX3_readItem 77 = .ok (.aload_n 1, 1) := by decide +kernel
theorem dX3_readItem_78 : decode cX3_readItem 78 = .ok (.getfield 50, 3) := by decide +kernel
theorem dX3_readItem_81 : decode cX3_readItem 81 = .ok (.bipush 6, 2) := by decide +kernel
theorem dX3_readItem_83 : decode cX3_readItem 83 = .ok (.if_icmp .ge 15, 3) := by decide +kernel
theorem dX3_readItem_86 : decode cX3_readItem 86 = .ok (.aload_n 0, 1) := by decide +kernel
theorem dX3_readItem_87 : decode cX3_readItem 87 = .ok (.aload_n 1, 1) := by decide +kernel
theorem dX3_readItem_88 : decode cX3_readItem 88 = .ok (.invokevirtual 53, 3) := by decide +kernel
theorem dX3_readItem_91 : decode cX3_readItem 91 = .ok (.ifCond .eq 7, 3) := by decide +kernel
theorem dX3_readItem_94 : decode cX3_readItem 94 = .ok (.iconst 1, 1) := by decide +kernel
theorem dX3_readItem_95 : decode cX3_readItem 95 = .ok (.goto 4, 3) := by decide +kernel
theorem dX3_readItem_98 : decode cX3_readItem 98 = .ok (.iconst 0, 1) := by decide +kernel
theorem dX3_readItem_99 : decode cX3_readItem 99 = .ok (.ireturn, 1) := by decide +kernel
theorem dX3_readItem_100 : decode cX3_readItem 100 = .ok (.aload_n 1, 1) := by decide +kernel
theorem dX3_readItem_101 : decode cX3_readItem 101 = .ok (.getfield 56, 3) := by decide +kernel
theorem dX3_readItem_104 : decode cX3_readItem 104 = .ok (.bipush 6, 2) := by decide +kernel
theorem dX3_readItem_106 : decode cX3_readItem 106 = .ok (.if_icmp .ge 15, 3) := by decide +kernel
theorem dX3_readItem_109 : decode cX3_readItem 109 = .ok (.aload_n 0, 1) := by decide +kernel
theorem dX3_readItem_110 : decode cX3_readItem 110 = .ok (.aload_n 1, 1) := by decide +kernel
theorem dX3_readItem_111 : decode cX3_readItem 111 = .ok (.invokevirtual 59, 3) := by decide +kernel
theorem dX3_readItem_114 : decode cX3_readItem 114 = .ok (.ifCond .eq 7, 3) := by decide +kernel
theorem dX3_readItem_117 : decode cX3_readItem 117 = .ok (.iconst 1, 1) := by decide +kernel
theorem dX3_readItem_118 : decode cX3_readItem 118 = .ok (.goto 4, 3) := by decide +kernel
theorem dX3_readItem_121 : decode cX3_readItem 121 = .ok (.iconst 0, 1) := by decide +kernel
theorem dX3_readItem_122 : decode cX3_readItem 122 = .ok (.ireturn, 1) := by decide +kernel
theorem dX3_readItem_123 : decode cX3_readItem 123 = .ok (.aload_n 0, 1) := by decide +kernel
theorem dX3_readItem_124 : decode cX3_readItem 124 = .ok (.aload_n 1, 1) := by decide +kernel
theorem dX3_readItem_125 : decode cX3_readItem 125 = .ok (.invokevirtual 62, 3) := by decide +kernel
theorem dX3_readItem_128 : decode cX3_readItem 128 = .ok (.ireturn, 1) := by decide +kernel
theorem dX3_readItem_129 : decode cX3_readItem 129 = .ok (.aload_n 0, 1) := by decide +kernel
theorem dX3_readItem_130 : decode cX3_readItem 130 = .ok (.getfield 30, 3) := by decide +kernel
theorem dX3_readItem_133 : decode cX3_readItem 133 = .ok (.ifCond .ne 15, 3) := by decide +kernel
theorem dX3_readItem_136 : decode cX3_readItem 136 = .ok (.aload_n 0, 1) := by decide +kernel
theorem dX3_readItem_137 : decode cX3_readItem 137 = .ok (.aload_n 1, 1) := by decide +kernel
theorem dX3_readItem_138 : decode cX3_readItem 138 = .ok (.invokevirtual 65, 3) := by decide +kernel
theorem dX3_readItem_141 : decode cX3_readItem 141 = .ok (.ifCond .eq 7, 3) := by decide +kernel
theorem dX3_readItem_144 : decode cX3_readItem 144 = .ok (.iconst 1, 1) := by decide +kernel
theorem dX3_readItem_145 : decode cX3_readItem 145 = .ok (.goto 4, 3) := by decide +kernel
theorem dX3_readItem_148 : decode cX3_readItem 148 = .ok (.iconst 0, 1) := by decide +kernel
theorem dX3_readItem_149 : decode cX3_readItem 149 = .ok (.ireturn, 1) := by decide +kernel
theorem dX3_readItem_150 : decode cX3_readItem 150 = .ok (.iconst 0, 1) := by decide +kernel
theorem dX3_readItem_151 : decode cX3_readItem 151 = .ok (.ireturn, 1) := by decide +kernel
set_option maxRecDepth 20000 in
theorem kX3_readItem_27 : Cond.fieldLink RX3 27 "WindPost$Text" "items" "I" ∈ wsX3_readItem := by decide +kernel
set_option maxRecDepth 20000 in
theorem kX3_readItem_30 : Cond.fieldLink RX3 30 "WindPost$Text" "forceTold" "Z" ∈ wsX3_readItem := by decide +kernel
set_option maxRecDepth 20000 in
theorem kX3_readItem_37 : Cond.fieldLink RX3 37 "WindPost$Text" "token" "I" ∈ wsX3_readItem := by decide +kernel
set_option maxRecDepth 20000 in
theorem kX3_readItem_50 : Cond.fieldLink RX3 50 "WindPost$Chart" "isles" "I" ∈ wsX3_readItem := by decide +kernel
set_option maxRecDepth 20000 in
theorem kX3_readItem_56 : Cond.fieldLink RX3 56 "WindPost$Chart" "hills" "I" ∈ wsX3_readItem := by decide +kernel
set_option maxRecDepth 20000 in
theorem uX3_readItem_X0 : ∀ w ∈ wsX00, w ∈ wsX3_readItem := by decide +kernel
set_option maxRecDepth 20000 in
theorem uX3_readItem_X3 : ∀ w ∈ wsX30, w ∈ wsX3_readItem := by decide +kernel
set_option maxHeartbeats 8000000 in
set_option maxRecDepth 100000 in
theorem mX3_readItem (l : Launch) (D : va_G) (ki : Nat → ClassId) (ad : Nat → Nat) (cs : List Nat) (hcs : kW cs) (N : Nat) (a1 : Nat) (ha1 : kC cs a1) (G : zMem) (tr : Int64) : gMetI l D ki ad cs yX3_readItem wsX3_readItem { frames := 4, cells := 0, slots := 0, locals := 89 } [.ref (ad 1), .ref (ad a1)] (xE ki ad) G tr (fX3_readItem N a1 G tr) := by
  refine gMetI_of (cc := cX3_readItem) (maxL := 2) (ret := (some .boolean)) (own := RX3) (by decide +kernel) rfl rfl (Nat.le_of_ble_eq_true rfl) ?_
  intro r9 G9 tr9 h p e s m below meth c S hr hlk K X ls hl
  have hl : lv_has ls 2 [(0, .ref (ad 1)), (1, .ref (ad a1))] := hl
  unfold fX3_readItem at h
  obtain ⟨H, hH⟩ : ∃ H, H = s.heap := ⟨_, rfl⟩
  obtain ⟨locs, hlo⟩ : ∃ locs : List Loc, locs = [] := ⟨_, rfl⟩
  have X : gS D cs ad ((xE ki ad) G tr) (gA cs ad s.heap.size) s H locs := by rw [hH, hlo]; exact X
  suffices z : W p l e (headSpec wsX3_readItem { frames := 4, cells := 0, slots := 0, locals := 89 }).room s m ([.ref (ad 1), .ref (ad a1)] : List Value).toArray below meth c H locs 0 0 (zQI below ([.ref (ad 1), .ref (ad a1)] : List Value).toArray s D cs ad ((xE ki ad) G9 tr9) r9) (F0 m 0 ls []) by rw [hH, hlo] at z; exact z
  clear hH hlo
  refine lv_aload_n S.1 S.2.1 dX3_readItem_0 rfl (lv_at hl 0 rfl) ?_
  refine zr_get (v := .int (G 1 4)) S K X (hcs 1 (by decide)) xE_T rfl uX3_readItem_X3 4 (by decide) kX3_readItem_37 rfl rfl dX3_readItem_1 ?_
  by_cases hc_1 : (G 1 4) = 98
  · have h := zif_pos hc_1 h
    refine lv_lookup (off := 119) (tgt := 123) S.1 S.2.1 dX3_readItem_4 (by decide) (by rw [hc_1]; decide) (by decide) ?_
    refine lv_aload_n S.1 S.2.1 dX3_readItem_123 rfl (lv_at hl 0 rfl) ?_
    refine lv_aload_n S.1 S.2.1 dX3_readItem_124 rfl (lv_at hl 1 rfl) ?_
    obtain ⟨r_3, G_4, tr_5, hf_2, h⟩ := zbd_some h
    refine zr_calli (Eg := (xE ki ad)) K X (va_runV (As := [.ref (ad a1)]) (rest := []) S (mX3_readWinds l D ki ad cs hcs N a1 ha1 G tr H.size _ _ _ hf_2) (cwV 1 S.2.2.2.2 gX3_readItem_X3_readWinds rfl rfl rfl (by decide +kernel) ⟨Nat.le_of_ble_eq_true rfl, Nat.le_of_ble_eq_true rfl⟩) (zr_preV (c0 := 1) K X (hcs 1 (by decide)) xE_T rfl) rfl rfl hl.1 rfl (lv_room (Nat.le_of_ble_eq_true rfl)) dX3_readItem_125 ⟨Nat.zero_le _, Nat.zero_le _⟩) (fun H locs X => ?_)
    exact zr_zret S hr hlk X h dX3_readItem_128
  have h := zif_neg hc_1 h
  by_cases hc_6 : (G 1 4) = 102
  · have h := zif_pos hc_6 h
    refine lv_lookup (off := 125) (tgt := 129) S.1 S.2.1 dX3_readItem_4 (by decide) (by rw [hc_6]; decide) (by decide) ?_
    refine lv_aload_n S.1 S.2.1 dX3_readItem_129 rfl (lv_at hl 0 rfl) ?_
    refine zr_get (v := .int (G 1 7)) S K X (hcs 1 (by decide)) xE_T rfl uX3_readItem_X3 7 (by decide) kX3_readItem_30 rfl rfl dX3_readItem_130 ?_
    refine lv_if_ne (tgt := 148) S.1 S.2.1 dX3_readItem_133 (by decide) (fun hc_7 => ?_) (fun hc_7 => ?_)
    · have h := zif_neg hc_7 h
      refine lv_iconst (v := (0 : Int32)) S.1 S.2.1 dX3_readItem_148 (by decide) ?_
      exact zr_zret S hr hlk X h dX3_readItem_149
    · have h := zif_pos hc_7 h
      refine lv_aload_n S.1 S.2.1 dX3_readItem_136 rfl (lv_at hl 0 rfl) ?_
      refine lv_aload_n S.1 S.2.1 dX3_readItem_137 rfl (lv_at hl 1 rfl) ?_
      obtain ⟨r_9, G_10, tr_11, hf_8, h⟩ := zbd_some h
      refine zr_calli (Eg := (xE ki ad)) K X (va_runV (As := [.ref (ad a1)]) (rest := []) S (mX3_readForce l D ki ad cs hcs N a1 ha1 G tr H.size _ _ _ hf_8) (cwV 1 S.2.2.2.2 gX3_readItem_X3_readForce rfl rfl rfl (by decide +kernel) ⟨Nat.le_of_ble_eq_true rfl, Nat.le_of_ble_eq_true rfl⟩) (zr_preV (c0 := 1) K X (hcs 1 (by decide)) xE_T rfl) rfl rfl hl.1 rfl (lv_room (Nat.le_of_ble_eq_true rfl)) dX3_readItem_138 ⟨Nat.zero_le _, Nat.zero_le _⟩) (fun H locs X => ?_)
      refine lv_if_eq (tgt := 148) S.1 S.2.1 dX3_readItem_141 (by decide) (fun hc_12 => ?_) (fun hc_12 => ?_)
      · have h := zif_pos hc_12 h
        refine lv_iconst (v := (0 : Int32)) S.1 S.2.1 dX3_readItem_148 (by decide) ?_
        exact zr_zret S hr hlk X h dX3_readItem_149
      · have h := zif_neg hc_12 h
        refine lv_iconst (v := (1 : Int32)) S.1 S.2.1 dX3_readItem_144 (by decide) ?_
        refine lv_goto (tgt := 149) S.1 S.2.1 dX3_readItem_145 (by decide) ?_
        exact zr_zret S hr hlk X h dX3_readItem_149
  have h := zif_neg hc_6 h
  by_cases hc_13 : (G 1 4) = 103
  · have h := zif_pos hc_13 h
    refine lv_lookup (off := 52) (tgt := 56) S.1 S.2.1 dX3_readItem_4 (by decide) (by rw [hc_13]; decide) (by decide) ?_
    refine lv_aload_n S.1 S.2.1 dX3_readItem_56 rfl (lv_at hl 0 rfl) ?_
    refine zr_get (v := .int (G 1 6)) S K X (hcs 1 (by decide)) xE_T rfl uX3_readItem_X3 6 (by decide) kX3_readItem_27 rfl rfl dX3_readItem_57 ?_
    refine lv_if_ne (tgt := 75) S.1 S.2.1 dX3_readItem_60 (by decide) (fun hc_14 => ?_) (fun hc_14 => ?_)
    · have h := zif_neg hc_14 h
      refine lv_iconst (v := (0 : Int32)) S.1 S.2.1 dX3_readItem_75 (by decide) ?_
      exact zr_zret S hr hlk X h dX3_readItem_76
    · have h := zif_pos hc_14 h
      refine lv_aload_n S.1 S.2.1 dX3_readItem_63 rfl (lv_at hl 0 rfl) ?_
      refine lv_aload_n S.1 S.2.1 dX3_readItem_64 rfl (lv_at hl 1 rfl) ?_
      obtain ⟨r_16, G_17, tr_18, hf_15, h⟩ := zbd_some h
      refine zr_calli (Eg := (xE ki ad)) K X (va_runV (As := [.ref (ad a1)]) (rest := []) S (mX3_readSize l D ki ad cs hcs N a1 ha1 G tr H.size _ _ _ hf_15) (cwV 1 S.2.2.2.2 gX3_readItem_X3_readSize rfl rfl rfl (by decide +kernel) ⟨Nat.le_of_ble_eq_true rfl, Nat.le_of_ble_eq_true rfl⟩) (zr_preV (c0 := 1) K X (hcs 1 (by decide)) xE_T rfl) rfl rfl hl.1 rfl (lv_room (Nat.le_of_ble_eq_true rfl)) dX3_readItem_65 ⟨Nat.zero_le _, Nat.zero_le _⟩) (fun H locs X => ?_)
      refine lv_if_eq (tgt := 75) S.1 S.2.1 dX3_readItem_68 (by decide) (fun hc_19 => ?_) (fun hc_19 => ?_)
      · have h := zif_pos hc_19 h
        refine lv_iconst (v := (0 : Int32)) S.1 S.2.1 dX3_readItem_75 (by decide) ?_
        exact zr_zret S hr hlk X h dX3_readItem_76
      · have h := zif_neg hc_19 h
        refine lv_iconst (v := (1 : Int32)) S.1 S.2.1 dX3_readItem_71 (by decide) ?_
        refine lv_goto (tgt := 76) S.1 S.2.1 dX3_readItem_72 (by decide) ?_
        exact zr_zret S hr hlk X h dX3_readItem_76
  have h := zif_neg hc_13 h
  by_cases hc_20 : (G 1 4) = 105
  · have h := zif_pos hc_20 h
    refine lv_lookup (off := 73) (tgt := 77) S.1 S.2.1 dX3_readItem_4 (by decide) (by rw [hc_20]; decide) (by decide) ?_
    refine lv_aload_n S.1 S.2.1 dX3_readItem_77 rfl (lv_at hl 1 rfl) ?_
    refine zr_get (v := .int (G a1 3)) S K X (ha1.2 0 (by decide)) (xE_C ha1) rfl uX3_readItem_X0 3 (by decide) kX3_readItem_50 rfl rfl dX3_readItem_78 ?_
    refine lv_bipush (v := (6 : Int32)) S.1 S.2.1 dX3_readItem_81 (by decide) ?_
    refine lv_icmp_ge (tgt := 98) S.1 S.2.1 dX3_readItem_83 (by decide) (fun hc_21 => ?_) (fun hc_21 => ?_)
    · have h := zif_pos hc_21 h
      refine lv_iconst (v := (0 : Int32)) S.1 S.2.1 dX3_readItem_98 (by decide) ?_
      exact zr_zret S hr hlk X h dX3_readItem_99
    · have h := zif_neg hc_21 h
      refine lv_aload_n S.1 S.2.1 dX3_readItem_86 rfl (lv_at hl 0 rfl) ?_
      refine lv_aload_n S.1 S.2.1 dX3_readItem_87 rfl (lv_at hl 1 rfl) ?_
      obtain ⟨r_23, G_24, tr_25, hf_22, h⟩ := zbd_some h
      refine zr_calli (Eg := (xE ki ad)) K X (va_runV (As := [.ref (ad a1)]) (rest := []) S (mX3_readIsle l D ki ad cs hcs N a1 ha1 G tr H.size _ _ _ hf_22) (cwV 1 S.2.2.2.2 gX3_readItem_X3_readIsle rfl rfl rfl (by decide +kernel) ⟨Nat.le_of_ble_eq_true rfl, Nat.le_of_ble_eq_true rfl⟩) (zr_preV (c0 := 1) K X (hcs 1 (by decide)) xE_T rfl) rfl rfl hl.1 rfl (lv_room (Nat.le_of_ble_eq_true rfl)) dX3_readItem_88 ⟨Nat.zero_le _, Nat.zero_le _⟩) (fun H locs X => ?_)
      refine lv_if_eq (tgt := 98) S.1 S.2.1 dX3_readItem_91 (by decide) (fun hc_26 => ?_) (fun hc_26 => ?_)
      · have h := zif_pos hc_26 h
        refine lv_iconst (v := (0 : Int32)) S.1 S.2.1 dX3_readItem_98 (by decide) ?_
        exact zr_zret S hr hlk X h dX3_readItem_99
      · have h := zif_neg hc_26 h
        refine lv_iconst (v := (1 : Int32)) S.1 S.2.1 dX3_readItem_94 (by decide) ?_
        refine lv_goto (tgt := 99) S.1 S.2.1 dX3_readItem_95 (by decide) ?_
        exact zr_zret S hr hlk X h dX3_readItem_99
  have h := zif_neg hc_20 h
  by_cases hc_27 : (G 1 4) = 120
  · have h := zif_pos hc_27 h
    refine lv_lookup (off := 96) (tgt := 100) S.1 S.2.1 dX3_readItem_4 (by decide) (by rw [hc_27]; decide) (by decide) ?_
    refine lv_aload_n S.1 S.2.1 dX3_readItem_100 rfl (lv_at hl 1 rfl) ?_
    refine zr_get (v := .int (G a1 4)) S K X (ha1.2 0 (by decide)) (xE_C ha1) rfl uX3_readItem_X0 4 (by decide) kX3_readItem_56 rfl rfl dX3_readItem_101 ?_
    refine lv_bipush (v := (6 : Int32)) S.1 S.2.1 dX3_readItem_104 (by decide) ?_
    refine lv_icmp_ge (tgt := 121) S.1 S.2.1 dX3_readItem_106 (by decide) (fun hc_28 => ?_) (fun hc_28 => ?_)
    · have h := zif_pos hc_28 h
      refine lv_iconst (v := (0 : Int32)) S.1 S.2.1 dX3_readItem_121 (by decide) ?_
      exact zr_zret S hr hlk X h dX3_readItem_122
    · have h := zif_neg hc_28 h
      refine lv_aload_n S.1 S.2.1 dX3_readItem_109 rfl (lv_at hl 0 rfl) ?_
      refine lv_aload_n S.1 S.2.1 dX3_readItem_110 rfl (lv_at hl 1 rfl) ?_
      obtain ⟨r_30, G_31, tr_32, hf_29, h⟩ := zbd_some h
      refine zr_calli (Eg := (xE ki ad)) K X (va_runV (As := [.ref (ad a1)]) (rest := []) S (mX3_readHill l D ki ad cs hcs N a1 ha1 G tr H.size _ _ _ hf_29) (cwV 1 S.2.2.2.2 gX3_readItem_X3_readHill rfl rfl rfl (by decide +kernel) ⟨Nat.le_of_ble_eq_true rfl, Nat.le_of_ble_eq_true rfl⟩) (zr_preV (c0 := 1) K X (hcs 1 (by decide)) xE_T rfl) rfl rfl hl.1 rfl (lv_room (Nat.le_of_ble_eq_true rfl)) dX3_readItem_111 ⟨Nat.zero_le _, Nat.zero_le _⟩) (fun H locs X => ?_)
      refine lv_if_eq (tgt := 121) S.1 S.2.1 dX3_readItem_114 (by decide) (fun hc_33 => ?_) (fun hc_33 => ?_)
      · have h := zif_pos hc_33 h
        refine lv_iconst (v := (0 : Int32)) S.1 S.2.1 dX3_readItem_121 (by decide) ?_
        exact zr_zret S hr hlk X h dX3_readItem_122
      · have h := zif_neg hc_33 h
        refine lv_iconst (v := (1 : Int32)) S.1 S.2.1 dX3_readItem_117 (by decide) ?_
        refine lv_goto (tgt := 122) S.1 S.2.1 dX3_readItem_118 (by decide) ?_
        exact zr_zret S hr hlk X h dX3_readItem_122
  have h := zif_neg hc_27 h
  refine lv_lookup (off := 146) (tgt := 150) S.1 S.2.1 dX3_readItem_4 (by decide) (by
      have e0 := ztoInt_ne hc_1
      rw [show ((98 : Int32)).toInt = 98 from rfl] at e0
      have e1 := ztoInt_ne hc_6
      rw [show ((102 : Int32)).toInt = 102 from rfl] at e1
      have e2 := ztoInt_ne hc_13
      rw [show ((103 : Int32)).toInt = 103 from rfl] at e2
      have e3 := ztoInt_ne hc_20
      rw [show ((105 : Int32)).toInt = 105 from rfl] at e3
      have e4 := ztoInt_ne hc_27
      rw [show ((120 : Int32)).toInt = 120 from rfl] at e4
      simp [Op.lookupswitch.offset, e0, e1, e2, e3, e4, Ne.symm e0, Ne.symm e1, Ne.symm e2, Ne.symm e3, Ne.symm e4]) (by decide) ?_
  refine lv_iconst (v := (0 : Int32)) S.1 S.2.1 dX3_readItem_150 (by decide) ?_
  exact zr_zret S hr hlk X h dX3_readItem_151
set_option maxRecDepth 20000 in
theorem ggX3_readInto_X0_untell : GoodIn wsX3_readInto wsX0_untell := goodIn_r _ [10, 11, 12, 13, 14, 15, 16, 17, 108, 109, 110, 111, 112, 113, 114, 115, 116, 117] (by decide +kernel) (by decide +kernel)
set_option maxRecDepth 20000 in
theorem gX3_readInto_X0_untell : GoodIn wsX3_readInto (wsV RX3 19 RX0 yX0_untell wsX0_untell) := goodIn_app (goodIn_of _ (by decide +kernel)) ggX3_readInto_X0_untell
set_option maxRecDepth 20000 in
theorem ggX3_readInto_X3_step : GoodIn wsX3_readInto wsX3_step := goodIn_r _ [22, 1, 23, 24, 5, 25, 26, 27, 28, 29, 4, 30, 31, 21, 32, 33, 34, 35, 100, 101, 102, 103, 104, 105, 106, 107] (by decide +kernel) (by decide +kernel)
set_option maxRecDepth 20000 in
theorem gX3_readInto_X3_step : GoodIn wsX3_readInto (wsV RX3 34 RX3 yX3_step wsX3_step) := goodIn_app (goodIn_of _ (by decide +kernel)) ggX3_readInto_X3_step
set_option maxRecDepth 20000 in
theorem ggX3_readInto_X3_readItem : GoodIn wsX3_readInto wsX3_readItem := goodIn_r _ [39, 4, 2, 40, 41, 3, 42, 43, 44, 21, 45, 25, 46, 47, 48, 49, 50, 51, 18, 19, 20, 22, 1, 23, 24, 5, 26, 27, 28, 29, 30, 31, 32, 33, 34, 35, 52, 53, 54, 55, 56, 57, 58, 59, 60, 61, 62, 63, 64, 65, 9, 66, 11, 12, 67, 68, 69, 70, 71, 17, 72, 73, 74, 75, 14, 76, 77, 78, 79, 80, 81, 82, 83, 84, 15, 85, 86, 87, 88, 89, 90, 91, 92, 93, 16, 94, 95, 96, 97, 98, 99, 100, 101, 102, 103, 104, 105, 106, 107, 108, 109, 110, 111, 112, 113, 114, 115, 116, 117] (by decide +kernel) (by decide +kernel)
set_option maxRecDepth 20000 in
theorem gX3_readInto_X3_readItem : GoodIn wsX3_readInto (wsV RX3 40 RX3 yX3_readItem wsX3_readItem) := goodIn_app (goodIn_of _ (by decide +kernel)) ggX3_readInto_X3_readItem
theorem dX3_readInto_0 : decode cX3_readInto 0 = .ok (.aload_n 1, 1) := by decide +kernel
theorem dX3_readInto_1 : decode cX3_readInto 1 = .ok (.invokevirtual 19, 3) := by decide +kernel
theorem dX3_readInto_4 : decode cX3_readInto 4 = .ok (.aload_n 0, 1) := by decide +kernel
theorem dX3_readInto_5 : decode cX3_readInto 5 = .ok (.iconst 0, 1) := by decide +kernel
theorem dX3_readInto_6 : decode cX3_readInto 6 = .ok (.putfield 24, 3) := by decide +kernel
theorem dX3_readInto_9 : decode cX3_readInto 9 = .ok (.aload_n 0, 1) := by decide +kernel
theorem dX3_readInto_10 : decode cX3_readInto 10 = .ok (.iconst 0, 1) := by decide +kernel
theorem dX3_readInto_11 : decode cX3_readInto 11 = .ok (.putfield 27, 3) := by decide +kernel
theorem dX3_readInto_14 : decode cX3_readInto 14 = .ok (.aload_n 0, 1) := by decide +kernel
theorem dX3_readInto_15 : decode cX3_readInto 15 = .ok (.iconst 0, 1) := by decide +kernel
theorem dX3_readInto_16 : decode cX3_readInto 16 = .ok (.putfield 30, 3) := by decide +kernel
theorem dX3_readInto_19 : decode cX3_readInto 19 = .ok (.iconst 0, 1) := by decide +kernel
theorem dX3_readInto_20 : decode cX3_readInto 20 = .ok (.istore_n 2, 1) := by decide +kernel
theorem dX3_readInto_21 : decode cX3_readInto 21 = .ok (.iload_n 2, 1) := by decide +kernel
theorem dX3_readInto_22 : decode cX3_readInto 22 = .ok (.sipush 200, 3) := by decide +kernel
theorem dX3_readInto_25 : decode cX3_readInto 25 = .ok (.if_icmp .gt 54, 3) := by decide +kernel
theorem dX3_readInto_28 : decode cX3_readInto 28 = .ok (.aload_n 0, 1) := by decide +kernel
theorem dX3_readInto_29 : decode cX3_readInto 29 = .ok (.invokevirtual 34, 3) := by decide +kernel
theorem dX3_readInto_32 : decode cX3_readInto 32 = .ok (.aload_n 0, 1) := by decide +kernel
theorem dX3_readInto_33 : decode cX3_readInto 33 = .ok (.getfield 37, 3) := by decide +kernel
theorem dX3_readInto_36 : decode cX3_readInto 36 = .ok (.sipush 257, 3) := by decide +kernel
theorem dX3_readInto_39 : decode cX3_readInto 39 = .ok (.if_icmp .ne 8, 3) := by decide +kernel
theorem dX3_readInto_42 : decode cX3_readInto 42 = .ok (.aload_n 0, 1) := by decide +kernel
theorem dX3_readInto_43 : decode cX3_readInto 43 = .ok (.getfield 27, 3) := by decide +kernel
theorem dX3_readInto_46 : decode cX3_readInto 46 = .ok (.ireturn, 1) := by decide +kernel
theorem dX3_readInto_47 : decode cX3_readInto 47 = .ok (.aload_n 0, 1) := by decide +kernel
theorem dX3_readInto_48 : decode cX3_readInto 48 = .ok (.aload_n 1, 1) := by decide +kernel
theorem dX3_readInto_49 : decode cX3_readInto 49 = .ok (.invokevirtual 40, 3) := by decide +kernel
theorem dX3_readInto_52 : decode cX3_readInto 52 = .ok (.ifCond .ne 11, 3) := by decide +kernel
theorem dX3_readInto_55 : decode cX3_readInto 55 = .ok (.bipush (-10), 2) := by decide +kernel
theorem dX3_readInto_57 : decode cX3_readInto 57 = .ok (.aload_n 0, 1) := by decide +kernel
theorem dX3_readInto_58 : decode cX3_readInto 58 = .ok (.getfield 44, 3) := by decide +kernel
theorem dX3_readInto_61 : decode cX3_readInto 61 = .ok (.isub, 1) := by decide +kernel
theorem dX3_readInto_62 : decode cX3_readInto 62 = .ok (.ireturn, 1) := by decide +kernel
theorem dX3_readInto_63 : decode cX3_readInto 63 = .ok (.aload_n 0, 1) := by decide +kernel
theorem dX3_readInto_64 : decode cX3_readInto 64 = .ok (.dup, 1) := by decide +kernel
theorem dX3_readInto_65 : decode cX3_readInto 65 = .ok (.getfield 27, 3) := by decide +kernel
theorem dX3_readInto_68 : decode cX3_readInto 68 = .ok (.iconst 1, 1) := by decide +kernel
theorem dX3_readInto_69 : decode cX3_readInto 69 = .ok (.iadd, 1) := by decide +kernel
theorem dX3_readInto_70 : decode cX3_readInto 70 = .ok (.putfield 27, 3) := by decide +kernel
theorem dX3_readInto_73 : decode cX3_readInto 73 = .ok (.iinc 2 1, 3) := by decide +kernel
theorem dX3_readInto_76 : decode cX3_readInto 76 = .ok (.goto (-55), 3) := by decide +kernel
theorem dX3_readInto_79 : decode cX3_readInto 79 = .ok (.aload_n 0, 1) := by decide +kernel
theorem dX3_readInto_80 : decode cX3_readInto 80 = .ok (.getfield 27, 3) := by decide +kernel
theorem dX3_readInto_83 : decode cX3_readInto 83 = .ok (.ireturn, 1) := by decide +kernel
set_option maxRecDepth 20000 in
theorem kX3_readInto_24 : Cond.fieldLink RX3 24 "WindPost$Text" "next" "I" ∈ wsX3_readInto := by decide +kernel
set_option maxRecDepth 20000 in
theorem kX3_readInto_27 : Cond.fieldLink RX3 27 "WindPost$Text" "items" "I" ∈ wsX3_readInto := by decide +kernel
set_option maxRecDepth 20000 in
theorem kX3_readInto_30 : Cond.fieldLink RX3 30 "WindPost$Text" "forceTold" "Z" ∈ wsX3_readInto := by decide +kernel
set_option maxRecDepth 20000 in
theorem kX3_readInto_37 : Cond.fieldLink RX3 37 "WindPost$Text" "token" "I" ∈ wsX3_readInto := by decide +kernel
set_option maxRecDepth 20000 in
theorem kX3_readInto_44 : Cond.fieldLink RX3 44 "WindPost$Text" "place" "I" ∈ wsX3_readInto := by decide +kernel
set_option maxRecDepth 20000 in
theorem uX3_readInto_X3 : ∀ w ∈ wsX30, w ∈ wsX3_readInto := by decide +kernel
set_option maxHeartbeats 8000000 in
set_option maxRecDepth 100000 in
theorem mX3_readInto (l : Launch) (D : va_G) (ki : Nat → ClassId) (ad : Nat → Nat) (cs : List Nat) (hcs : kW cs) (N : Nat) (a1 : Nat) (ha1 : kC cs a1) (G : zMem) (tr : Int64) : gMetI l D ki ad cs yX3_readInto wsX3_readInto { frames := 5, cells := 0, slots := 0, locals := 110 } [.ref (ad 1), .ref (ad a1)] (xE ki ad) G tr (fX3_readInto N a1 G tr) := by
  refine gMetI_of (cc := cX3_readInto) (maxL := 3) (ret := (some .int)) (own := RX3) (by decide +kernel) rfl rfl (Nat.le_of_ble_eq_true rfl) ?_
  intro r9 G9 tr9 h p e s m below meth c S hr hlk K X ls hl
  have hl : lv_has ls 3 [(0, .ref (ad 1)), (1, .ref (ad a1))] := hl
  have b21 : ∀ (k21 : Int32 → zMem → Int64 → zR) (hk21 : ∀ (x2 : Int32) (G : zMem) (tr : Int64), k21 x2 G tr = some (r9, G9, tr9) → zAt p l e (headSpec wsX3_readInto { frames := 5, cells := 0, slots := 0, locals := 110 }).room s m ([.ref (ad 1), .ref (ad a1)] : List Value).toArray below meth c 3 D cs ad (zQI below ([.ref (ad 1), .ref (ad a1)] : List Value).toArray s D cs ad ((xE ki ad) G9 tr9) r9) 21 [(0, .ref (ad 1)), (1, .ref (ad a1)), (2, .int x2)] [] ((xE ki ad) G tr)) (x2 : Int32) (G : zMem) (tr : Int64), fX3_readInto_b21 N a1 k21 x2 G tr = some (r9, G9, tr9) → zAt p l e (headSpec wsX3_readInto { frames := 5, cells := 0, slots := 0, locals := 110 }).room s m ([.ref (ad 1), .ref (ad a1)] : List Value).toArray below meth c 3 D cs ad (zQI below ([.ref (ad 1), .ref (ad a1)] : List Value).toArray s D cs ad ((xE ki ad) G9 tr9) r9) 21 [(0, .ref (ad 1)), (1, .ref (ad a1)), (2, .int x2)] [] ((xE ki ad) G tr) := by
    intro k21 hk21 x2 G tr h H locs ls X hl
    unfold fX3_readInto_b21 at h
    refine lv_iload_n S.1 S.2.1 dX3_readInto_21 rfl (lv_at hl 2 rfl) ?_
    refine lv_sipush (v := (200 : Int32)) S.1 S.2.1 dX3_readInto_22 (by decide) ?_
    refine lv_icmp_gt (tgt := 79) S.1 S.2.1 dX3_readInto_25 (by decide) (fun hc_1 => ?_) (fun hc_1 => ?_)
    · have h := zif_pos hc_1 h
      refine lv_aload_n S.1 S.2.1 dX3_readInto_79 rfl (lv_at hl 0 rfl) ?_
      refine zr_get (v := .int (G 1 6)) S K X (hcs 1 (by decide)) xE_T rfl uX3_readInto_X3 6 (by decide) kX3_readInto_27 rfl rfl dX3_readInto_80 ?_
      exact zr_iret S hr hlk X h dX3_readInto_83
    · have h := zif_neg hc_1 h
      refine lv_aload_n S.1 S.2.1 dX3_readInto_28 rfl (lv_at hl 0 rfl) ?_
      obtain ⟨r_3, G_4, tr_5, hf_2, h⟩ := zbd_some h
      refine zr_callv (Eg := (xE ki ad)) K X (va_runV (As := []) (rest := []) S (mX3_step l D ki ad cs hcs N G tr H.size _ _ _ hf_2) (cwV 0 S.2.2.2.2 gX3_readInto_X3_step rfl rfl rfl (by decide +kernel) ⟨Nat.le_of_ble_eq_true rfl, Nat.le_of_ble_eq_true rfl⟩) (zr_preV (c0 := 1) K X (hcs 1 (by decide)) xE_T rfl) rfl rfl hl.1 rfl (lv_room (Nat.le_of_ble_eq_true rfl)) dX3_readInto_29 ⟨Nat.zero_le _, Nat.zero_le _⟩) (fun H locs X => ?_)
      refine lv_aload_n S.1 S.2.1 dX3_readInto_32 rfl (lv_at hl 0 rfl) ?_
      refine zr_get (v := .int (G_4 1 4)) S K X (hcs 1 (by decide)) xE_T rfl uX3_readInto_X3 4 (by decide) kX3_readInto_37 rfl rfl dX3_readInto_33 ?_
      refine lv_sipush (v := (257 : Int32)) S.1 S.2.1 dX3_readInto_36 (by decide) ?_
      refine lv_icmp_ne (tgt := 47) S.1 S.2.1 dX3_readInto_39 (by decide) (fun hc_6 => ?_) (fun hc_6 => ?_)
      · have h := zif_neg hc_6 h
        refine lv_aload_n S.1 S.2.1 dX3_readInto_47 rfl (lv_at hl 0 rfl) ?_
        refine lv_aload_n S.1 S.2.1 dX3_readInto_48 rfl (lv_at hl 1 rfl) ?_
        obtain ⟨r_8, G_9, tr_10, hf_7, h⟩ := zbd_some h
        refine zr_calli (Eg := (xE ki ad)) K X (va_runV (As := [.ref (ad a1)]) (rest := []) S (mX3_readItem l D ki ad cs hcs N a1 ha1 G_4 tr_5 H.size _ _ _ hf_7) (cwV 1 S.2.2.2.2 gX3_readInto_X3_readItem rfl rfl rfl (by decide +kernel) ⟨Nat.le_of_ble_eq_true rfl, Nat.le_of_ble_eq_true rfl⟩) (zr_preV (c0 := 1) K X (hcs 1 (by decide)) xE_T rfl) rfl rfl hl.1 rfl (lv_room (Nat.le_of_ble_eq_true rfl)) dX3_readInto_49 ⟨Nat.zero_le _, Nat.zero_le _⟩) (fun H locs X => ?_)
        refine lv_if_ne (tgt := 63) S.1 S.2.1 dX3_readInto_52 (by decide) (fun hc_11 => ?_) (fun hc_11 => ?_)
        · have h := zif_neg hc_11 h
          refine lv_aload_n S.1 S.2.1 dX3_readInto_63 rfl (lv_at hl 0 rfl) ?_
          refine lv_dup S.1 S.2.1 dX3_readInto_64 rfl ?_
          refine zr_get (v := .int (G_9 1 6)) S K X (hcs 1 (by decide)) xE_T rfl uX3_readInto_X3 6 (by decide) kX3_readInto_27 rfl rfl dX3_readInto_65 ?_
          refine lv_iconst (v := (1 : Int32)) S.1 S.2.1 dX3_readInto_68 (by decide) ?_
          refine lv_iadd S.1 S.2.1 dX3_readInto_69 ?_
          refine zr_put (xv := ((G_9 1 6) + (1 : Int32))) (v := .int ((G_9 1 6) + (1 : Int32))) (fsf := (fsT ad)) (ty := .int) S K X (hcs 1 (by decide)) xE_loc (fun _ => xE_T) rfl uX3_readInto_X3 tyX3 tyX3_ok nmX3 6 (by decide) kX3_readInto_27 rfl (by decide +kernel) rfl rfl (by simp) rfl dX3_readInto_70 (fun H locs X => ?_)
          refine lv_iinc (v := (x2 + 1)) (lv' := [(2, .int (x2 + 1)), (0, .ref (ad 1)), (1, .ref (ad a1))]) S.1 S.2.1 dX3_readInto_73 hl (k := 2) rfl rfl (by decide) rfl (fun ls hl => ?_)
          refine lv_goto (tgt := 21) S.1 S.2.1 dX3_readInto_76 (by decide) ?_
          exact hk21 (x2 + 1) (up2 G_9 1 6 ((G_9 1 6) + (1 : Int32))) tr_10 h _ _ _ X (lv_sub hl [1, 2, 0] rfl)
        · have h := zif_pos hc_11 h
          refine lv_bipush (v := (-10 : Int32)) S.1 S.2.1 dX3_readInto_55 (by decide) ?_
          refine lv_aload_n S.1 S.2.1 dX3_readInto_57 rfl (lv_at hl 0 rfl) ?_
          refine zr_get (v := .int (G_9 1 3)) S K X (hcs 1 (by decide)) xE_T rfl uX3_readInto_X3 3 (by decide) kX3_readInto_44 rfl rfl dX3_readInto_58 ?_
          refine lv_isub S.1 S.2.1 dX3_readInto_61 ?_
          exact zr_iret S hr hlk X h dX3_readInto_62
      · have h := zif_pos hc_6 h
        refine lv_aload_n S.1 S.2.1 dX3_readInto_42 rfl (lv_at hl 0 rfl) ?_
        refine zr_get (v := .int (G_4 1 6)) S K X (hcs 1 (by decide)) xE_T rfl uX3_readInto_X3 6 (by decide) kX3_readInto_27 rfl rfl dX3_readInto_43 ?_
        exact zr_iret S hr hlk X h dX3_readInto_46
  have L21 : ∀ (n : Nat) (x2 : Int32) (G : zMem) (tr : Int64), fX3_readInto_L21 N a1 n x2 G tr = some (r9, G9, tr9) → zAt p l e (headSpec wsX3_readInto { frames := 5, cells := 0, slots := 0, locals := 110 }).room s m ([.ref (ad 1), .ref (ad a1)] : List Value).toArray below meth c 3 D cs ad (zQI below ([.ref (ad 1), .ref (ad a1)] : List Value).toArray s D cs ad ((xE ki ad) G9 tr9) r9) 21 [(0, .ref (ad 1)), (1, .ref (ad a1)), (2, .int x2)] [] ((xE ki ad) G tr) := by
    intro n
    induction n with
    | zero => intro x2 G tr h; cases h
    | succ n ih => intro x2 G tr h; exact b21 (fX3_readInto_L21 N a1 n) ih x2 G tr h
  unfold fX3_readInto at h
  obtain ⟨H, hH⟩ : ∃ H, H = s.heap := ⟨_, rfl⟩
  obtain ⟨locs, hlo⟩ : ∃ locs : List Loc, locs = [] := ⟨_, rfl⟩
  have X : gS D cs ad ((xE ki ad) G tr) (gA cs ad s.heap.size) s H locs := by rw [hH, hlo]; exact X
  suffices z : W p l e (headSpec wsX3_readInto { frames := 5, cells := 0, slots := 0, locals := 110 }).room s m ([.ref (ad 1), .ref (ad a1)] : List Value).toArray below meth c H locs 0 0 (zQI below ([.ref (ad 1), .ref (ad a1)] : List Value).toArray s D cs ad ((xE ki ad) G9 tr9) r9) (F0 m 0 ls []) by rw [hH, hlo] at z; exact z
  clear hH hlo
  refine lv_aload_n S.1 S.2.1 dX3_readInto_0 rfl (lv_at hl 1 rfl) ?_
  obtain ⟨r_2, G_3, tr_4, hf_1, h⟩ := zbd_some h
  refine zr_callv (Eg := (xE ki ad)) K X (va_runV (As := []) (rest := []) S (mX0_untell l D ki ad cs  N a1 ha1 G tr H.size _ _ _ hf_1) (cwV 0 S.2.2.2.2 gX3_readInto_X0_untell rfl rfl rfl (by decide +kernel) ⟨Nat.le_of_ble_eq_true rfl, Nat.le_of_ble_eq_true rfl⟩) (zr_preV (c0 := a1) K X (ha1.2 0 (by decide)) (xE_C ha1) rfl) rfl rfl hl.1 rfl (lv_room (Nat.le_of_ble_eq_true rfl)) dX3_readInto_1 ⟨Nat.zero_le _, Nat.zero_le _⟩) (fun H locs X => ?_)
  refine lv_aload_n S.1 S.2.1 dX3_readInto_4 rfl (lv_at hl 0 rfl) ?_
  refine lv_iconst (v := (0 : Int32)) S.1 S.2.1 dX3_readInto_5 (by decide) ?_
  refine zr_put (xv := (0 : Int32)) (v := .int (0 : Int32)) (fsf := (fsT ad)) (ty := .int) S K X (hcs 1 (by decide)) xE_loc (fun _ => xE_T) rfl uX3_readInto_X3 tyX3 tyX3_ok nmX3 2 (by decide) kX3_readInto_24 rfl (by decide +kernel) rfl rfl (by simp) rfl dX3_readInto_6 (fun H locs X => ?_)
  refine lv_aload_n S.1 S.2.1 dX3_readInto_9 rfl (lv_at hl 0 rfl) ?_
  refine lv_iconst (v := (0 : Int32)) S.1 S.2.1 dX3_readInto_10 (by decide) ?_
  refine zr_put (xv := (0 : Int32)) (v := .int (0 : Int32)) (fsf := (fsT ad)) (ty := .int) S K X (hcs 1 (by decide)) xE_loc (fun _ => xE_T) rfl uX3_readInto_X3 tyX3 tyX3_ok nmX3 6 (by decide) kX3_readInto_27 rfl (by decide +kernel) rfl rfl (by simp) rfl dX3_readInto_11 (fun H locs X => ?_)
  refine lv_aload_n S.1 S.2.1 dX3_readInto_14 rfl (lv_at hl 0 rfl) ?_
  refine lv_iconst (v := (0 : Int32)) S.1 S.2.1 dX3_readInto_15 (by decide) ?_
  obtain ⟨hz_5, h⟩ := zbo_some h
  refine zr_put (xv := (0 : Int32)) (v := .int (0 : Int32)) (fsf := (fsT ad)) (ty := .boolean) S K X (hcs 1 (by decide)) xE_loc (fun _ => xE_T) rfl uX3_readInto_X3 tyX3 tyX3_ok nmX3 7 (by decide) kX3_readInto_30 rfl (by decide +kernel) (zbo_nar hz_5) rfl (by simp) rfl dX3_readInto_16 (fun H locs X => ?_)
  refine lv_iconst (v := (0 : Int32)) S.1 S.2.1 dX3_readInto_19 (by decide) ?_
  refine lv_istore_n (lv' := [(2, .int (0 : Int32)), (0, .ref (ad 1)), (1, .ref (ad a1))]) S.1 S.2.1 dX3_readInto_20 rfl hl (by decide) rfl (fun ls hl => ?_)
  exact L21 N (0 : Int32) (up2 (up2 (up2 G_3 1 2 (0 : Int32)) 1 6 (0 : Int32)) 1 7 (0 : Int32)) tr_4 h _ _ _ X (lv_sub hl [1, 2, 0] rfl)
