theorem lk_0 : (Cond.code yX4_init cX4_init 2 none) ∈ lw_tbl := List.mem_of_getElem? (i := 67) (by decide +kernel)
theorem lk_1 : (Cond.methodLink RX4 1 objectInit) ∈ lw_tbl := List.mem_of_getElem? (i := 68) (by decide +kernel)
theorem lk_2 : (Cond.instanceMethod objectInit) ∈ lw_tbl := List.mem_of_getElem? (i := 69) (by decide +kernel)
theorem lk_3 : (Cond.code objectInit ⟨#[0xb1]⟩ 1 none) ∈ lw_tbl := List.mem_of_getElem? (i := 70) (by decide +kernel)
theorem lk_4 : (Cond.classLink RX4 7 RX3) ∈ lw_tbl := List.mem_of_getElem? (i := 71) (by decide +kernel)
theorem lk_5 : (Cond.instantiable RX3 8) ∈ lw_tbl := List.mem_of_getElem? (i := 72) (by decide +kernel)
theorem lk_6 : (Cond.initialized RX3) ∈ lw_tbl := List.mem_of_getElem? (i := 56) (by decide +kernel)
theorem lk_7 : (Cond.fieldLink RX4 10 "WindPost" "text" "LWindPost$Text;") ∈ lw_tbl := List.mem_of_getElem? (i := 255) (by decide +kernel)
theorem lk_8 : (Cond.classLink RX4 16 RX0) ∈ lw_tbl := List.mem_of_getElem? (i := 104) (by decide +kernel)
theorem lk_9 : (Cond.instantiable RX0 10) ∈ lw_tbl := List.mem_of_getElem? (i := 105) (by decide +kernel)
theorem lk_10 : (Cond.initialized RX0) ∈ lw_tbl := List.mem_of_getElem? (i := 57) (by decide +kernel)
theorem lk_11 : (Cond.fieldLink RX4 19 "WindPost" "chart" "LWindPost$Chart;") ∈ lw_tbl := List.mem_of_getElem? (i := 256) (by decide +kernel)
theorem lk_12 : (Cond.fieldLink RX4 23 "WindPost" "draft" "LWindPost$Chart;") ∈ lw_tbl := List.mem_of_getElem? (i := 257) (by decide +kernel)
theorem lk_13 : (Cond.classLink RX4 26 RX2) ∈ lw_tbl := List.mem_of_getElem? (i := 184) (by decide +kernel)
theorem lk_14 : (Cond.instantiable RX2 6) ∈ lw_tbl := List.mem_of_getElem? (i := 185) (by decide +kernel)
theorem lk_15 : (Cond.initialized RX2) ∈ lw_tbl := List.mem_of_getElem? (i := 59) (by decide +kernel)
theorem lk_16 : (Cond.fieldLink RX4 29 "WindPost" "now" "LWindPost$Moment;") ∈ lw_tbl := List.mem_of_getElem? (i := 258) (by decide +kernel)
theorem lk_17 : (Cond.fieldLink RX4 33 "WindPost" "past" "[LWindPost$Moment;") ∈ lw_tbl := List.mem_of_getElem? (i := 259) (by decide +kernel)
theorem lk_18 : (Cond.fieldLink RX4 37 "WindPost" "images" "[LWindPost$Moment;") ∈ lw_tbl := List.mem_of_getElem? (i := 262) (by decide +kernel)
theorem lk_19 : (Cond.arrayClass .boolean) ∈ lw_tbl := List.mem_of_getElem? (i := 292) (by decide +kernel)
theorem lk_20 : (Cond.fieldLink RX4 40 "WindPost" "kept" "[Z") ∈ lw_tbl := List.mem_of_getElem? (i := 263) (by decide +kernel)
theorem lk_21 : (Cond.classLink RX4 44 RX1) ∈ lw_tbl := List.mem_of_getElem? (i := 253) (by decide +kernel)
theorem lk_22 : (Cond.instantiable RX1 7) ∈ lw_tbl := List.mem_of_getElem? (i := 192) (by decide +kernel)
theorem lk_23 : (Cond.initialized RX1) ∈ lw_tbl := List.mem_of_getElem? (i := 60) (by decide +kernel)
theorem lk_24 : (Cond.fieldLink RX4 47 "WindPost" "probe" "LWindPost$Letter;") ∈ lw_tbl := List.mem_of_getElem? (i := 264) (by decide +kernel)
set_option maxRecDepth 20000 in
theorem lm_wsX4_init_r1 : ∀ w ∈ wsX4_init_r1, w ∈ lw_tbl := by
  unfold wsX4_init_r1
  exact (List.forall_mem_cons.mpr ⟨lk_1, List.forall_mem_cons.mpr ⟨lk_2, List.forall_mem_cons.mpr ⟨lk_3, List.forall_mem_cons.mpr ⟨lk_4, List.forall_mem_cons.mpr ⟨lk_5, List.forall_mem_cons.mpr ⟨lk_6, List.forall_mem_cons.mpr ⟨lk_7, List.forall_mem_cons.mpr ⟨lk_8, List.forall_mem_cons.mpr ⟨lk_9, List.forall_mem_cons.mpr ⟨lk_10, List.forall_mem_cons.mpr ⟨lk_11, List.forall_mem_cons.mpr ⟨lk_12, List.forall_mem_cons.mpr ⟨lk_13, List.forall_mem_cons.mpr ⟨lk_14, List.forall_mem_cons.mpr ⟨lk_15, List.forall_mem_cons.mpr ⟨lk_16, List.forall_mem_cons.mpr ⟨lk_17, List.forall_mem_cons.mpr ⟨lk_18, List.forall_mem_cons.mpr ⟨lk_19, List.forall_mem_cons.mpr ⟨lk_20, List.forall_mem_cons.mpr ⟨lk_21, List.forall_mem_cons.mpr ⟨lk_22, List.forall_mem_cons.mpr ⟨lk_23, List.forall_mem_cons.mpr ⟨lk_24, (fun _ h => absurd h List.not_mem_nil)⟩⟩⟩⟩⟩⟩⟩⟩⟩⟩⟩⟩⟩⟩⟩⟩⟩⟩⟩⟩⟩⟩⟩⟩)
theorem lk_25 : (Cond.fieldLink RX4 51 "WindPost" "second" "LWindPost$Letter;") ∈ lw_tbl := List.mem_of_getElem? (i := 265) (by decide +kernel)
theorem lk_26 : (Cond.instanceMethod yX3_init) ∈ lw_tbl := List.mem_of_getElem? (i := 74) (by decide +kernel)
theorem lk_27 : (Cond.code yX3_init cX3_init 1 none) ∈ lw_tbl := List.mem_of_getElem? (i := 75) (by decide +kernel)
theorem lk_28 : (Cond.methodLink RX3 3 objectInit) ∈ lw_tbl := List.mem_of_getElem? (i := 76) (by decide +kernel)
theorem lk_29 : (Cond.arrayClass .int) ∈ lw_tbl := List.mem_of_getElem? (i := 103) (by decide +kernel)
theorem lk_30 : (Cond.fieldLink RX3 9 "WindPost$Text" "signs" "[I") ∈ lw_tbl := List.mem_of_getElem? (i := 79) (by decide +kernel)
theorem lk_31 : (Cond.methodLink RX4 18 yX0_init) ∈ lw_tbl := List.mem_of_getElem? (i := 106) (by decide +kernel)
theorem lk_32 : (Cond.instanceMethod yX0_init) ∈ lw_tbl := List.mem_of_getElem? (i := 107) (by decide +kernel)
theorem lk_33 : (Cond.code yX0_init cX0_init 1 none) ∈ lw_tbl := List.mem_of_getElem? (i := 108) (by decide +kernel)
theorem lk_34 : (Cond.methodLink RX0 3 objectInit) ∈ lw_tbl := List.mem_of_getElem? (i := 109) (by decide +kernel)
theorem lk_35 : (Cond.fieldLink RX0 9 "WindPost$Chart" "isleCells" "[I") ∈ lw_tbl := List.mem_of_getElem? (i := 156) (by decide +kernel)
theorem lk_36 : (Cond.fieldLink RX0 15 "WindPost$Chart" "holds" "[I") ∈ lw_tbl := List.mem_of_getElem? (i := 158) (by decide +kernel)
theorem lk_37 : (Cond.fieldLink RX0 18 "WindPost$Chart" "winds" "[I") ∈ lw_tbl := List.mem_of_getElem? (i := 160) (by decide +kernel)
theorem lk_38 : (Cond.fieldLink RX0 21 "WindPost$Chart" "ends" "[I") ∈ lw_tbl := List.mem_of_getElem? (i := 162) (by decide +kernel)
theorem lk_39 : (Cond.methodLink RX0 24 yX0_untell) ∈ lw_tbl := List.mem_of_getElem? (i := 110) (by decide +kernel)
theorem lk_40 : (Cond.instanceMethod yX0_untell) ∈ lw_tbl := List.mem_of_getElem? (i := 111) (by decide +kernel)
theorem lk_41 : (Cond.selects RX0 yX0_untell yX0_untell) ∈ lw_tbl := List.mem_of_getElem? (i := 112) (by decide +kernel)
theorem lk_42 : (Cond.code yX0_untell cX0_untell 2 none) ∈ lw_tbl := List.mem_of_getElem? (i := 113) (by decide +kernel)
theorem lk_43 : (Cond.fieldLink RX0 30 "WindPost$Chart" "wide" "I") ∈ lw_tbl := List.mem_of_getElem? (i := 137) (by decide +kernel)
theorem lk_44 : (Cond.fieldLink RX0 34 "WindPost$Chart" "high" "I") ∈ lw_tbl := List.mem_of_getElem? (i := 140) (by decide +kernel)
theorem lk_45 : (Cond.fieldLink RX0 37 "WindPost$Chart" "force" "I") ∈ lw_tbl := List.mem_of_getElem? (i := 143) (by decide +kernel)
theorem lk_46 : (Cond.fieldLink RX0 40 "WindPost$Chart" "isles" "I") ∈ lw_tbl := List.mem_of_getElem? (i := 147) (by decide +kernel)
theorem lk_47 : (Cond.fieldLink RX0 43 "WindPost$Chart" "hills" "I") ∈ lw_tbl := List.mem_of_getElem? (i := 150) (by decide +kernel)
theorem lk_48 : (Cond.fieldLink RX0 46 "WindPost$Chart" "told" "I") ∈ lw_tbl := List.mem_of_getElem? (i := 154) (by decide +kernel)
set_option maxRecDepth 20000 in
theorem lm_wsX4_init_r2 : ∀ w ∈ wsX4_init_r2, w ∈ lw_tbl := by
  unfold wsX4_init_r2
  exact (List.forall_mem_cons.mpr ⟨lk_25, List.forall_mem_cons.mpr ⟨lk_26, List.forall_mem_cons.mpr ⟨lk_27, List.forall_mem_cons.mpr ⟨lk_28, List.forall_mem_cons.mpr ⟨lk_29, List.forall_mem_cons.mpr ⟨lk_30, List.forall_mem_cons.mpr ⟨lk_31, List.forall_mem_cons.mpr ⟨lk_32, List.forall_mem_cons.mpr ⟨lk_33, List.forall_mem_cons.mpr ⟨lk_34, List.forall_mem_cons.mpr ⟨lk_35, List.forall_mem_cons.mpr ⟨lk_36, List.forall_mem_cons.mpr ⟨lk_37, List.forall_mem_cons.mpr ⟨lk_38, List.forall_mem_cons.mpr ⟨lk_39, List.forall_mem_cons.mpr ⟨lk_40, List.forall_mem_cons.mpr ⟨lk_41, List.forall_mem_cons.mpr ⟨lk_42, List.forall_mem_cons.mpr ⟨lk_43, List.forall_mem_cons.mpr ⟨lk_44, List.forall_mem_cons.mpr ⟨lk_45, List.forall_mem_cons.mpr ⟨lk_46, List.forall_mem_cons.mpr ⟨lk_47, List.forall_mem_cons.mpr ⟨lk_48, (fun _ h => absurd h List.not_mem_nil)⟩⟩⟩⟩⟩⟩⟩⟩⟩⟩⟩⟩⟩⟩⟩⟩⟩⟩⟩⟩⟩⟩⟩⟩)
theorem lk_49 : (Cond.methodLink RX0 27 yX0_drawEnds) ∈ lw_tbl := List.mem_of_getElem? (i := 114) (by decide +kernel)
theorem lk_50 : (Cond.instanceMethod yX0_drawEnds) ∈ lw_tbl := List.mem_of_getElem? (i := 115) (by decide +kernel)
theorem lk_51 : (Cond.selects RX0 yX0_drawEnds yX0_drawEnds) ∈ lw_tbl := List.mem_of_getElem? (i := 116) (by decide +kernel)
theorem lk_52 : (Cond.code yX0_drawEnds cX0_drawEnds 3 none) ∈ lw_tbl := List.mem_of_getElem? (i := 117) (by decide +kernel)
theorem lk_53 : (Cond.methodLink RX0 55 yX0_cells) ∈ lw_tbl := List.mem_of_getElem? (i := 118) (by decide +kernel)
theorem lk_54 : (Cond.instanceMethod yX0_cells) ∈ lw_tbl := List.mem_of_getElem? (i := 119) (by decide +kernel)
theorem lk_55 : (Cond.selects RX0 yX0_cells yX0_cells) ∈ lw_tbl := List.mem_of_getElem? (i := 120) (by decide +kernel)
theorem lk_56 : (Cond.code yX0_cells cX0_cells 1 (some .int)) ∈ lw_tbl := List.mem_of_getElem? (i := 121) (by decide +kernel)
theorem lk_57 : (Cond.methodLink RX0 49 Lib.Math.min.name) ∈ lw_tbl := List.mem_of_getElem? (i := 122) (by decide +kernel)
theorem lk_58 : (Cond.static Lib.Math.min.name) ∈ lw_tbl := List.mem_of_getElem? (i := 123) (by decide +kernel)
theorem lk_59 : (Cond.initialized "java/lang/Math") ∈ lw_tbl := List.mem_of_getElem? (i := 58) (by decide +kernel)
theorem lk_60 : (Cond.code Lib.Math.min.name Lib.Math.min.code 2 (some .int)) ∈ lw_tbl := List.mem_of_getElem? (i := 124) (by decide +kernel)
theorem lk_61 : (Cond.methodLink RX0 59 yX0_drawWay) ∈ lw_tbl := List.mem_of_getElem? (i := 125) (by decide +kernel)
theorem lk_62 : (Cond.instanceMethod yX0_drawWay) ∈ lw_tbl := List.mem_of_getElem? (i := 127) (by decide +kernel)
theorem lk_63 : (Cond.selects RX0 yX0_drawWay yX0_drawWay) ∈ lw_tbl := List.mem_of_getElem? (i := 0) (by decide +kernel)
theorem lk_64 : (Cond.code yX0_drawWay cX0_drawWay 7 none) ∈ lw_tbl := List.mem_of_getElem? (i := 128) (by decide +kernel)
theorem lk_65 : (Cond.methodLink RX0 63 yX0_beside) ∈ lw_tbl := List.mem_of_getElem? (i := 129) (by decide +kernel)
theorem lk_66 : (Cond.instanceMethod yX0_beside) ∈ lw_tbl := List.mem_of_getElem? (i := 131) (by decide +kernel)
theorem lk_67 : (Cond.selects RX0 yX0_beside yX0_beside) ∈ lw_tbl := List.mem_of_getElem? (i := 1) (by decide +kernel)
theorem lk_68 : (Cond.code yX0_beside cX0_beside 5 (some .int)) ∈ lw_tbl := List.mem_of_getElem? (i := 132) (by decide +kernel)
theorem lk_69 : (Cond.methodLink RX0 66 yX0_onCell) ∈ lw_tbl := List.mem_of_getElem? (i := 133) (by decide +kernel)
theorem lk_70 : (Cond.instanceMethod yX0_onCell) ∈ lw_tbl := List.mem_of_getElem? (i := 134) (by decide +kernel)
theorem lk_71 : (Cond.selects RX0 yX0_onCell yX0_onCell) ∈ lw_tbl := List.mem_of_getElem? (i := 135) (by decide +kernel)
theorem lk_72 : (Cond.code yX0_onCell cX0_onCell 2 (some .int)) ∈ lw_tbl := List.mem_of_getElem? (i := 136) (by decide +kernel)
set_option maxRecDepth 20000 in
theorem lm_wsX4_init_r3 : ∀ w ∈ wsX4_init_r3, w ∈ lw_tbl := by
  unfold wsX4_init_r3
  exact (List.forall_mem_cons.mpr ⟨lk_49, List.forall_mem_cons.mpr ⟨lk_50, List.forall_mem_cons.mpr ⟨lk_51, List.forall_mem_cons.mpr ⟨lk_52, List.forall_mem_cons.mpr ⟨lk_53, List.forall_mem_cons.mpr ⟨lk_54, List.forall_mem_cons.mpr ⟨lk_55, List.forall_mem_cons.mpr ⟨lk_56, List.forall_mem_cons.mpr ⟨lk_57, List.forall_mem_cons.mpr ⟨lk_58, List.forall_mem_cons.mpr ⟨lk_59, List.forall_mem_cons.mpr ⟨lk_60, List.forall_mem_cons.mpr ⟨lk_61, List.forall_mem_cons.mpr ⟨lk_62, List.forall_mem_cons.mpr ⟨lk_63, List.forall_mem_cons.mpr ⟨lk_64, List.forall_mem_cons.mpr ⟨lk_65, List.forall_mem_cons.mpr ⟨lk_66, List.forall_mem_cons.mpr ⟨lk_67, List.forall_mem_cons.mpr ⟨lk_68, List.forall_mem_cons.mpr ⟨lk_69, List.forall_mem_cons.mpr ⟨lk_70, List.forall_mem_cons.mpr ⟨lk_71, List.forall_mem_cons.mpr ⟨lk_72, (fun _ h => absurd h List.not_mem_nil)⟩⟩⟩⟩⟩⟩⟩⟩⟩⟩⟩⟩⟩⟩⟩⟩⟩⟩⟩⟩⟩⟩⟩⟩)
theorem lk_73 : (Cond.methodLink RX4 28 yX2_init) ∈ lw_tbl := List.mem_of_getElem? (i := 186) (by decide +kernel)
theorem lk_74 : (Cond.instanceMethod yX2_init) ∈ lw_tbl := List.mem_of_getElem? (i := 187) (by decide +kernel)
theorem lk_75 : (Cond.code yX2_init cX2_init 2 none) ∈ lw_tbl := List.mem_of_getElem? (i := 188) (by decide +kernel)
theorem lk_76 : (Cond.methodLink RX2 3 objectInit) ∈ lw_tbl := List.mem_of_getElem? (i := 189) (by decide +kernel)
theorem lk_77 : (Cond.fieldLink RX2 9 "WindPost$Moment" "winds" "[I") ∈ lw_tbl := List.mem_of_getElem? (i := 235) (by decide +kernel)
theorem lk_78 : (Cond.classLink RX2 15 RX1) ∈ lw_tbl := List.mem_of_getElem? (i := 190) (by decide +kernel)
theorem lk_79 : (Cond.fieldLink RX2 17 "WindPost$Moment" "post" "[LWindPost$Letter;") ∈ lw_tbl := List.mem_of_getElem? (i := 237) (by decide +kernel)
theorem lk_80 : (Cond.instanceMethod yX1_init) ∈ lw_tbl := List.mem_of_getElem? (i := 194) (by decide +kernel)
theorem lk_81 : (Cond.code yX1_init cX1_init 1 none) ∈ lw_tbl := List.mem_of_getElem? (i := 195) (by decide +kernel)
theorem lk_82 : (Cond.methodLink RX1 3 objectInit) ∈ lw_tbl := List.mem_of_getElem? (i := 196) (by decide +kernel)
set_option maxRecDepth 20000 in
theorem lm_wsX4_init_r4 : ∀ w ∈ wsX4_init_r4, w ∈ lw_tbl := by
  unfold wsX4_init_r4
  exact (List.forall_mem_cons.mpr ⟨lk_73, List.forall_mem_cons.mpr ⟨lk_74, List.forall_mem_cons.mpr ⟨lk_75, List.forall_mem_cons.mpr ⟨lk_76, List.forall_mem_cons.mpr ⟨lk_77, List.forall_mem_cons.mpr ⟨lk_78, List.forall_mem_cons.mpr ⟨lk_79, List.forall_mem_cons.mpr ⟨lk_80, List.forall_mem_cons.mpr ⟨lk_81, List.forall_mem_cons.mpr ⟨lk_82, (fun _ h => absurd h List.not_mem_nil)⟩⟩⟩⟩⟩⟩⟩⟩⟩⟩)
set_option maxRecDepth 20000 in
theorem lm_wsX30 : ∀ w ∈ wsX30, w ∈ lw_tbl := by
  show ∀ w ∈ [u_lay RX3 TX3 0, u_lay RX3 TX3 1, u_lay RX3 TX3 2, u_lay RX3 TX3 3, u_lay RX3 TX3 4, u_lay RX3 TX3 5, u_lay RX3 TX3 6, u_lay RX3 TX3 7], w ∈ lw_tbl
  exact List.forall_mem_cons.mpr ⟨List.mem_of_getElem? (i := 86) (by decide +kernel), List.forall_mem_cons.mpr ⟨List.mem_of_getElem? (i := 88) (by decide +kernel), List.forall_mem_cons.mpr ⟨List.mem_of_getElem? (i := 90) (by decide +kernel), List.forall_mem_cons.mpr ⟨List.mem_of_getElem? (i := 92) (by decide +kernel), List.forall_mem_cons.mpr ⟨List.mem_of_getElem? (i := 94) (by decide +kernel), List.forall_mem_cons.mpr ⟨List.mem_of_getElem? (i := 96) (by decide +kernel), List.forall_mem_cons.mpr ⟨List.mem_of_getElem? (i := 98) (by decide +kernel), List.forall_mem_cons.mpr ⟨List.mem_of_getElem? (i := 100) (by decide +kernel), (fun _ h => absurd h List.not_mem_nil)⟩⟩⟩⟩⟩⟩⟩⟩
set_option maxRecDepth 20000 in
theorem lm_wsX40 : ∀ w ∈ wsX40, w ∈ lw_tbl := by
  show ∀ w ∈ [u_lay RX4 TX4 0, u_lay RX4 TX4 1, u_lay RX4 TX4 2, u_lay RX4 TX4 3, u_lay RX4 TX4 4, u_lay RX4 TX4 5, u_lay RX4 TX4 6, u_lay RX4 TX4 7, u_lay RX4 TX4 8, u_lay RX4 TX4 9, u_lay RX4 TX4 10, u_lay RX4 TX4 11], w ∈ lw_tbl
  exact List.forall_mem_cons.mpr ⟨List.mem_of_getElem? (i := 267) (by decide +kernel), List.forall_mem_cons.mpr ⟨List.mem_of_getElem? (i := 269) (by decide +kernel), List.forall_mem_cons.mpr ⟨List.mem_of_getElem? (i := 271) (by decide +kernel), List.forall_mem_cons.mpr ⟨List.mem_of_getElem? (i := 273) (by decide +kernel), List.forall_mem_cons.mpr ⟨List.mem_of_getElem? (i := 275) (by decide +kernel), List.forall_mem_cons.mpr ⟨List.mem_of_getElem? (i := 277) (by decide +kernel), List.forall_mem_cons.mpr ⟨List.mem_of_getElem? (i := 279) (by decide +kernel), List.forall_mem_cons.mpr ⟨List.mem_of_getElem? (i := 281) (by decide +kernel), List.forall_mem_cons.mpr ⟨List.mem_of_getElem? (i := 283) (by decide +kernel), List.forall_mem_cons.mpr ⟨List.mem_of_getElem? (i := 285) (by decide +kernel), List.forall_mem_cons.mpr ⟨List.mem_of_getElem? (i := 287) (by decide +kernel), List.forall_mem_cons.mpr ⟨List.mem_of_getElem? (i := 289) (by decide +kernel), (fun _ h => absurd h List.not_mem_nil)⟩⟩⟩⟩⟩⟩⟩⟩⟩⟩⟩⟩
set_option maxRecDepth 20000 in
theorem lm_wsX00 : ∀ w ∈ wsX00, w ∈ lw_tbl := by
  show ∀ w ∈ [u_lay RX0 TX0 0, u_lay RX0 TX0 1, u_lay RX0 TX0 2, u_lay RX0 TX0 3, u_lay RX0 TX0 4, u_lay RX0 TX0 5, u_lay RX0 TX0 6, u_lay RX0 TX0 7, u_lay RX0 TX0 8, u_lay RX0 TX0 9], w ∈ lw_tbl
  exact List.forall_mem_cons.mpr ⟨List.mem_of_getElem? (i := 163) (by decide +kernel), List.forall_mem_cons.mpr ⟨List.mem_of_getElem? (i := 165) (by decide +kernel), List.forall_mem_cons.mpr ⟨List.mem_of_getElem? (i := 167) (by decide +kernel), List.forall_mem_cons.mpr ⟨List.mem_of_getElem? (i := 169) (by decide +kernel), List.forall_mem_cons.mpr ⟨List.mem_of_getElem? (i := 171) (by decide +kernel), List.forall_mem_cons.mpr ⟨List.mem_of_getElem? (i := 173) (by decide +kernel), List.forall_mem_cons.mpr ⟨List.mem_of_getElem? (i := 175) (by decide +kernel), List.forall_mem_cons.mpr ⟨List.mem_of_getElem? (i := 177) (by decide +kernel), List.forall_mem_cons.mpr ⟨List.mem_of_getElem? (i := 179) (by decide +kernel), List.forall_mem_cons.mpr ⟨List.mem_of_getElem? (i := 181) (by decide +kernel), (fun _ h => absurd h List.not_mem_nil)⟩⟩⟩⟩⟩⟩⟩⟩⟩⟩
set_option maxRecDepth 20000 in
theorem lm_wsX20 : ∀ w ∈ wsX20, w ∈ lw_tbl := by
  show ∀ w ∈ [u_lay RX2 TX2 0, u_lay RX2 TX2 1, u_lay RX2 TX2 2, u_lay RX2 TX2 3, u_lay RX2 TX2 4, u_lay RX2 TX2 5], w ∈ lw_tbl
  exact List.forall_mem_cons.mpr ⟨List.mem_of_getElem? (i := 239) (by decide +kernel), List.forall_mem_cons.mpr ⟨List.mem_of_getElem? (i := 241) (by decide +kernel), List.forall_mem_cons.mpr ⟨List.mem_of_getElem? (i := 243) (by decide +kernel), List.forall_mem_cons.mpr ⟨List.mem_of_getElem? (i := 245) (by decide +kernel), List.forall_mem_cons.mpr ⟨List.mem_of_getElem? (i := 247) (by decide +kernel), List.forall_mem_cons.mpr ⟨List.mem_of_getElem? (i := 249) (by decide +kernel), (fun _ h => absurd h List.not_mem_nil)⟩⟩⟩⟩⟩⟩
set_option maxRecDepth 20000 in
theorem lm_wsX10 : ∀ w ∈ wsX10, w ∈ lw_tbl := by
  show ∀ w ∈ [u_lay RX1 TX1 0, u_lay RX1 TX1 1, u_lay RX1 TX1 2, u_lay RX1 TX1 3, u_lay RX1 TX1 4, u_lay RX1 TX1 5, u_lay RX1 TX1 6], w ∈ lw_tbl
  exact List.forall_mem_cons.mpr ⟨List.mem_of_getElem? (i := 212) (by decide +kernel), List.forall_mem_cons.mpr ⟨List.mem_of_getElem? (i := 214) (by decide +kernel), List.forall_mem_cons.mpr ⟨List.mem_of_getElem? (i := 216) (by decide +kernel), List.forall_mem_cons.mpr ⟨List.mem_of_getElem? (i := 218) (by decide +kernel), List.forall_mem_cons.mpr ⟨List.mem_of_getElem? (i := 220) (by decide +kernel), List.forall_mem_cons.mpr ⟨List.mem_of_getElem? (i := 222) (by decide +kernel), List.forall_mem_cons.mpr ⟨List.mem_of_getElem? (i := 224) (by decide +kernel), (fun _ h => absurd h List.not_mem_nil)⟩⟩⟩⟩⟩⟩⟩
set_option maxRecDepth 20000 in
theorem lm_wsX4_init : ∀ w ∈ wsX4_init, w ∈ lw_tbl := by
  unfold wsX4_init
  exact (List.forall_mem_cons.mpr ⟨lk_0, (List.forall_mem_append.mpr ⟨(List.forall_mem_append.mpr ⟨(List.forall_mem_append.mpr ⟨(List.forall_mem_append.mpr ⟨(List.forall_mem_append.mpr ⟨(List.forall_mem_append.mpr ⟨lm_wsX4_init_r1, (List.forall_mem_append.mpr ⟨lm_wsX4_init_r2, (List.forall_mem_append.mpr ⟨lm_wsX4_init_r3, lm_wsX4_init_r4⟩)⟩)⟩), lm_wsX30⟩), lm_wsX40⟩), lm_wsX00⟩), lm_wsX20⟩), lm_wsX10⟩)⟩)
set_option maxRecDepth 20000 in
theorem lg_X4_init : GoodIn lw_tbl wsX4_init := goodIn_sub lm_wsX4_init (by decide +kernel)
theorem lk_83 : (Cond.methodLink RL 9 yX4_init) ∈ lw_tbl := List.mem_of_getElem? (i := 65) (by decide +kernel)
theorem lk_84 : (Cond.instanceMethod yX4_init) ∈ lw_tbl := List.mem_of_getElem? (i := 66) (by decide +kernel)
theorem lk_85 : (Cond.initialized RX4) ∈ lw_tbl := List.mem_of_getElem? (i := 55) (by decide +kernel)
theorem lk_86 : (Cond.code yX5_init cX5_init 1 none) ∈ lw_tbl := List.mem_of_getElem? (i := 632) (by decide +kernel)
theorem lk_87 : (Cond.methodLink RX5 1 objectInit) ∈ lw_tbl := List.mem_of_getElem? (i := 633) (by decide +kernel)
theorem lk_88 : (Cond.fieldLink RX5 7 "WindPostModel" "text" "[I") ∈ lw_tbl := List.mem_of_getElem? (i := 636) (by decide +kernel)
theorem lk_89 : (Cond.fieldLink RX5 13 "WindPostModel" "many" "[I") ∈ lw_tbl := List.mem_of_getElem? (i := 643) (by decide +kernel)
theorem lk_90 : (Cond.fieldLink RX5 16 "WindPostModel" "isles" "[I") ∈ lw_tbl := List.mem_of_getElem? (i := 644) (by decide +kernel)
theorem lk_91 : (Cond.fieldLink RX5 19 "WindPostModel" "hills" "[I") ∈ lw_tbl := List.mem_of_getElem? (i := 645) (by decide +kernel)
theorem lk_92 : (Cond.fieldLink RX5 22 "WindPostModel" "winds" "[I") ∈ lw_tbl := List.mem_of_getElem? (i := 646) (by decide +kernel)
theorem lk_93 : (Cond.fieldLink RX5 25 "WindPostModel" "s" "[I") ∈ lw_tbl := List.mem_of_getElem? (i := 648) (by decide +kernel)
theorem lk_94 : (Cond.fieldLink RX5 28 "WindPostModel" "kept" "[I") ∈ lw_tbl := List.mem_of_getElem? (i := 649) (by decide +kernel)
theorem lk_95 : (Cond.fieldLink RX5 31 "WindPostModel" "isKept" "[Z") ∈ lw_tbl := List.mem_of_getElem? (i := 650) (by decide +kernel)
theorem lk_96 : (Cond.fieldLink RX5 35 "WindPostModel" "undos" "[I") ∈ lw_tbl := List.mem_of_getElem? (i := 651) (by decide +kernel)
theorem lk_97 : (Cond.fieldLink RX5 38 "WindPostModel" "trial" "[I") ∈ lw_tbl := List.mem_of_getElem? (i := 653) (by decide +kernel)
theorem lk_98 : (Cond.fieldLink RX5 41 "WindPostModel" "other" "[I") ∈ lw_tbl := List.mem_of_getElem? (i := 654) (by decide +kernel)
theorem lk_99 : (Cond.fieldLink RX5 44 "WindPostModel" "met" "[I") ∈ lw_tbl := List.mem_of_getElem? (i := 655) (by decide +kernel)
set_option maxRecDepth 20000 in
theorem lm_wsX50 : ∀ w ∈ wsX50, w ∈ lw_tbl := by
  show ∀ w ∈ [u_lay RX5 TX5 0, u_lay RX5 TX5 1, u_lay RX5 TX5 2, u_lay RX5 TX5 3, u_lay RX5 TX5 4, u_lay RX5 TX5 5, u_lay RX5 TX5 6, u_lay RX5 TX5 7, u_lay RX5 TX5 8, u_lay RX5 TX5 9, u_lay RX5 TX5 10, u_lay RX5 TX5 11, u_lay RX5 TX5 12, u_lay RX5 TX5 13, u_lay RX5 TX5 14, u_lay RX5 TX5 15, u_lay RX5 TX5 16, u_lay RX5 TX5 17, u_lay RX5 TX5 18, u_lay RX5 TX5 19, u_lay RX5 TX5 20, u_lay RX5 TX5 21], w ∈ lw_tbl
  exact List.forall_mem_cons.mpr ⟨List.mem_of_getElem? (i := 656) (by decide +kernel), List.forall_mem_cons.mpr ⟨List.mem_of_getElem? (i := 658) (by decide +kernel), List.forall_mem_cons.mpr ⟨List.mem_of_getElem? (i := 660) (by decide +kernel), List.forall_mem_cons.mpr ⟨List.mem_of_getElem? (i := 662) (by decide +kernel), List.forall_mem_cons.mpr ⟨List.mem_of_getElem? (i := 664) (by decide +kernel), List.forall_mem_cons.mpr ⟨List.mem_of_getElem? (i := 666) (by decide +kernel), List.forall_mem_cons.mpr ⟨List.mem_of_getElem? (i := 668) (by decide +kernel), List.forall_mem_cons.mpr ⟨List.mem_of_getElem? (i := 670) (by decide +kernel), List.forall_mem_cons.mpr ⟨List.mem_of_getElem? (i := 672) (by decide +kernel), List.forall_mem_cons.mpr ⟨List.mem_of_getElem? (i := 674) (by decide +kernel), List.forall_mem_cons.mpr ⟨List.mem_of_getElem? (i := 676) (by decide +kernel), List.forall_mem_cons.mpr ⟨List.mem_of_getElem? (i := 678) (by decide +kernel), List.forall_mem_cons.mpr ⟨List.mem_of_getElem? (i := 680) (by decide +kernel), List.forall_mem_cons.mpr ⟨List.mem_of_getElem? (i := 682) (by decide +kernel), List.forall_mem_cons.mpr ⟨List.mem_of_getElem? (i := 684) (by decide +kernel), List.forall_mem_cons.mpr ⟨List.mem_of_getElem? (i := 686) (by decide +kernel), List.forall_mem_cons.mpr ⟨List.mem_of_getElem? (i := 688) (by decide +kernel), List.forall_mem_cons.mpr ⟨List.mem_of_getElem? (i := 690) (by decide +kernel), List.forall_mem_cons.mpr ⟨List.mem_of_getElem? (i := 692) (by decide +kernel), List.forall_mem_cons.mpr ⟨List.mem_of_getElem? (i := 694) (by decide +kernel), List.forall_mem_cons.mpr ⟨List.mem_of_getElem? (i := 696) (by decide +kernel), List.forall_mem_cons.mpr ⟨List.mem_of_getElem? (i := 698) (by decide +kernel), (fun _ h => absurd h List.not_mem_nil)⟩⟩⟩⟩⟩⟩⟩⟩⟩⟩⟩⟩⟩⟩⟩⟩⟩⟩⟩⟩⟩⟩
set_option maxRecDepth 20000 in
theorem lm_wsX5_init : ∀ w ∈ wsX5_init, w ∈ lw_tbl := by
  unfold wsX5_init
  exact (List.forall_mem_cons.mpr ⟨lk_86, (List.forall_mem_append.mpr ⟨(List.forall_mem_cons.mpr ⟨lk_87, List.forall_mem_cons.mpr ⟨lk_2, List.forall_mem_cons.mpr ⟨lk_3, List.forall_mem_cons.mpr ⟨lk_29, List.forall_mem_cons.mpr ⟨lk_88, List.forall_mem_cons.mpr ⟨lk_89, List.forall_mem_cons.mpr ⟨lk_90, List.forall_mem_cons.mpr ⟨lk_91, List.forall_mem_cons.mpr ⟨lk_92, List.forall_mem_cons.mpr ⟨lk_93, List.forall_mem_cons.mpr ⟨lk_94, List.forall_mem_cons.mpr ⟨lk_19, List.forall_mem_cons.mpr ⟨lk_95, List.forall_mem_cons.mpr ⟨lk_96, List.forall_mem_cons.mpr ⟨lk_97, List.forall_mem_cons.mpr ⟨lk_98, List.forall_mem_cons.mpr ⟨lk_99, (fun _ h => absurd h List.not_mem_nil)⟩⟩⟩⟩⟩⟩⟩⟩⟩⟩⟩⟩⟩⟩⟩⟩⟩), lm_wsX50⟩)⟩)
set_option maxRecDepth 20000 in
theorem lg_X5_init : GoodIn lw_tbl wsX5_init := goodIn_sub lm_wsX5_init (by decide +kernel)
theorem lk_100 : (Cond.methodLink RL 12 yX5_init) ∈ lw_tbl := List.mem_of_getElem? (i := 630) (by decide +kernel)
theorem lk_101 : (Cond.instanceMethod yX5_init) ∈ lw_tbl := List.mem_of_getElem? (i := 631) (by decide +kernel)
theorem lk_102 : (Cond.initialized RX5) ∈ lw_tbl := List.mem_of_getElem? (i := 61) (by decide +kernel)
theorem lk_103 : (Cond.code yX4_type cX4_type 2 (some .int)) ∈ lw_tbl := List.mem_of_getElem? (i := 296) (by decide +kernel)
theorem lk_104 : (Cond.fieldLink RX4 58 "WindPost$Text" "length" "I") ∈ lw_tbl := List.mem_of_getElem? (i := 78) (by decide +kernel)
theorem lk_105 : (Cond.methodLink RX4 54 yX4_isWithin) ∈ lw_tbl := List.mem_of_getElem? (i := 297) (by decide +kernel)
theorem lk_106 : (Cond.static yX4_isWithin) ∈ lw_tbl := List.mem_of_getElem? (i := 298) (by decide +kernel)
theorem lk_107 : (Cond.code yX4_isWithin cX4_isWithin 3 (some .boolean)) ∈ lw_tbl := List.mem_of_getElem? (i := 299) (by decide +kernel)
theorem lk_108 : (Cond.methodLink RX4 62 yX3_add) ∈ lw_tbl := List.mem_of_getElem? (i := 300) (by decide +kernel)
theorem lk_109 : (Cond.instanceMethod yX3_add) ∈ lw_tbl := List.mem_of_getElem? (i := 301) (by decide +kernel)
theorem lk_110 : (Cond.selects RX3 yX3_add yX3_add) ∈ lw_tbl := List.mem_of_getElem? (i := 302) (by decide +kernel)
theorem lk_111 : (Cond.code yX3_add cX3_add 2 none) ∈ lw_tbl := List.mem_of_getElem? (i := 303) (by decide +kernel)
theorem lk_112 : (Cond.fieldLink RX3 15 "WindPost$Text" "length" "I") ∈ lw_tbl := List.mem_of_getElem? (i := 77) (by decide +kernel)
set_option maxRecDepth 20000 in
theorem lm_wsX4_type : ∀ w ∈ wsX4_type, w ∈ lw_tbl := by
  unfold wsX4_type
  exact (List.forall_mem_cons.mpr ⟨lk_103, (List.forall_mem_append.mpr ⟨(List.forall_mem_append.mpr ⟨(List.forall_mem_cons.mpr ⟨lk_7, List.forall_mem_cons.mpr ⟨lk_104, List.forall_mem_cons.mpr ⟨lk_105, List.forall_mem_cons.mpr ⟨lk_106, List.forall_mem_cons.mpr ⟨lk_85, List.forall_mem_cons.mpr ⟨lk_107, List.forall_mem_cons.mpr ⟨lk_108, List.forall_mem_cons.mpr ⟨lk_109, List.forall_mem_cons.mpr ⟨lk_110, List.forall_mem_cons.mpr ⟨lk_6, List.forall_mem_cons.mpr ⟨lk_111, List.forall_mem_cons.mpr ⟨lk_112, List.forall_mem_cons.mpr ⟨lk_30, (fun _ h => absurd h List.not_mem_nil)⟩⟩⟩⟩⟩⟩⟩⟩⟩⟩⟩⟩⟩), lm_wsX40⟩), lm_wsX30⟩)⟩)
set_option maxRecDepth 20000 in
theorem lg_X4_type : GoodIn lw_tbl wsX4_type := goodIn_sub lm_wsX4_type (by decide +kernel)
theorem lk_113 : (Cond.methodLink RL 13 yX4_type) ∈ lw_tbl := List.mem_of_getElem? (i := 293) (by decide +kernel)
theorem lk_114 : (Cond.instanceMethod yX4_type) ∈ lw_tbl := List.mem_of_getElem? (i := 294) (by decide +kernel)
theorem lk_115 : (Cond.selects RX4 yX4_type yX4_type) ∈ lw_tbl := List.mem_of_getElem? (i := 295) (by decide +kernel)
theorem lG_X4_type : GoodIn lw_tbl (wsV RL 13 RX4 yX4_type wsX4_type) := goodIn_app (goodIn_sub (List.forall_mem_cons.mpr ⟨lk_113, List.forall_mem_cons.mpr ⟨lk_114, List.forall_mem_cons.mpr ⟨lk_115, List.forall_mem_cons.mpr ⟨lk_85, (fun _ h => absurd h List.not_mem_nil)⟩⟩⟩⟩) (by decide +kernel)) lg_X4_type
theorem lk_116 : (Cond.code yX5_type cX5_type 2 (some .int)) ∈ lw_tbl := List.mem_of_getElem? (i := 704) (by decide +kernel)
theorem lk_117 : (Cond.fieldLink RX5 47 "WindPostModel" "thrown" "I") ∈ lw_tbl := List.mem_of_getElem? (i := 634) (by decide +kernel)
theorem lk_118 : (Cond.fieldLink RX5 55 "WindPostModel" "typed" "I") ∈ lw_tbl := List.mem_of_getElem? (i := 637) (by decide +kernel)
theorem lk_119 : (Cond.methodLink RX5 51 yX5_in) ∈ lw_tbl := List.mem_of_getElem? (i := 705) (by decide +kernel)
theorem lk_120 : (Cond.static yX5_in) ∈ lw_tbl := List.mem_of_getElem? (i := 706) (by decide +kernel)
theorem lk_121 : (Cond.code yX5_in cX5_in 3 (some .boolean)) ∈ lw_tbl := List.mem_of_getElem? (i := 707) (by decide +kernel)
set_option maxRecDepth 20000 in
theorem lm_wsX5_type : ∀ w ∈ wsX5_type, w ∈ lw_tbl := by
  unfold wsX5_type
  exact (List.forall_mem_cons.mpr ⟨lk_116, (List.forall_mem_append.mpr ⟨(List.forall_mem_cons.mpr ⟨lk_117, List.forall_mem_cons.mpr ⟨lk_118, List.forall_mem_cons.mpr ⟨lk_88, List.forall_mem_cons.mpr ⟨lk_119, List.forall_mem_cons.mpr ⟨lk_120, List.forall_mem_cons.mpr ⟨lk_102, List.forall_mem_cons.mpr ⟨lk_121, (fun _ h => absurd h List.not_mem_nil)⟩⟩⟩⟩⟩⟩⟩), lm_wsX50⟩)⟩)
set_option maxRecDepth 20000 in
theorem lg_X5_type : GoodIn lw_tbl wsX5_type := goodIn_sub lm_wsX5_type (by decide +kernel)
theorem lk_122 : (Cond.methodLink RL 17 yX5_type) ∈ lw_tbl := List.mem_of_getElem? (i := 701) (by decide +kernel)
theorem lk_123 : (Cond.instanceMethod yX5_type) ∈ lw_tbl := List.mem_of_getElem? (i := 702) (by decide +kernel)
theorem lk_124 : (Cond.selects RX5 yX5_type yX5_type) ∈ lw_tbl := List.mem_of_getElem? (i := 703) (by decide +kernel)
theorem lG_X5_type : GoodIn lw_tbl (wsV RL 17 RX5 yX5_type wsX5_type) := goodIn_app (goodIn_sub (List.forall_mem_cons.mpr ⟨lk_122, List.forall_mem_cons.mpr ⟨lk_123, List.forall_mem_cons.mpr ⟨lk_124, List.forall_mem_cons.mpr ⟨lk_102, (fun _ h => absurd h List.not_mem_nil)⟩⟩⟩⟩) (by decide +kernel)) lg_X5_type
theorem lk_125 : (Cond.code yX4_clear cX4_clear 2 (some .int)) ∈ lw_tbl := List.mem_of_getElem? (i := 307) (by decide +kernel)
set_option maxRecDepth 20000 in
theorem lm_wsX4_clear : ∀ w ∈ wsX4_clear, w ∈ lw_tbl := by
  unfold wsX4_clear
  exact (List.forall_mem_cons.mpr ⟨lk_125, (List.forall_mem_append.mpr ⟨(List.forall_mem_append.mpr ⟨(List.forall_mem_cons.mpr ⟨lk_7, List.forall_mem_cons.mpr ⟨lk_104, (fun _ h => absurd h List.not_mem_nil)⟩⟩), lm_wsX40⟩), lm_wsX30⟩)⟩)
set_option maxRecDepth 20000 in
theorem lg_X4_clear : GoodIn lw_tbl wsX4_clear := goodIn_sub lm_wsX4_clear (by decide +kernel)
theorem lk_126 : (Cond.methodLink RL 18 yX4_clear) ∈ lw_tbl := List.mem_of_getElem? (i := 304) (by decide +kernel)
theorem lk_127 : (Cond.instanceMethod yX4_clear) ∈ lw_tbl := List.mem_of_getElem? (i := 305) (by decide +kernel)
theorem lk_128 : (Cond.selects RX4 yX4_clear yX4_clear) ∈ lw_tbl := List.mem_of_getElem? (i := 306) (by decide +kernel)
theorem lG_X4_clear : GoodIn lw_tbl (wsV RL 18 RX4 yX4_clear wsX4_clear) := goodIn_app (goodIn_sub (List.forall_mem_cons.mpr ⟨lk_126, List.forall_mem_cons.mpr ⟨lk_127, List.forall_mem_cons.mpr ⟨lk_128, List.forall_mem_cons.mpr ⟨lk_85, (fun _ h => absurd h List.not_mem_nil)⟩⟩⟩⟩) (by decide +kernel)) lg_X4_clear
theorem lk_129 : (Cond.code yX5_clear cX5_clear 2 (some .int)) ∈ lw_tbl := List.mem_of_getElem? (i := 711) (by decide +kernel)
set_option maxRecDepth 20000 in
theorem lm_wsX5_clear : ∀ w ∈ wsX5_clear, w ∈ lw_tbl := by
  unfold wsX5_clear
  exact (List.forall_mem_cons.mpr ⟨lk_129, (List.forall_mem_append.mpr ⟨(List.forall_mem_cons.mpr ⟨lk_117, List.forall_mem_cons.mpr ⟨lk_118, (fun _ h => absurd h List.not_mem_nil)⟩⟩), lm_wsX50⟩)⟩)
set_option maxRecDepth 20000 in
theorem lg_X5_clear : GoodIn lw_tbl wsX5_clear := goodIn_sub lm_wsX5_clear (by decide +kernel)
theorem lk_130 : (Cond.methodLink RL 22 yX5_clear) ∈ lw_tbl := List.mem_of_getElem? (i := 708) (by decide +kernel)
theorem lk_131 : (Cond.instanceMethod yX5_clear) ∈ lw_tbl := List.mem_of_getElem? (i := 709) (by decide +kernel)
theorem lk_132 : (Cond.selects RX5 yX5_clear yX5_clear) ∈ lw_tbl := List.mem_of_getElem? (i := 710) (by decide +kernel)
theorem lG_X5_clear : GoodIn lw_tbl (wsV RL 22 RX5 yX5_clear wsX5_clear) := goodIn_app (goodIn_sub (List.forall_mem_cons.mpr ⟨lk_130, List.forall_mem_cons.mpr ⟨lk_131, List.forall_mem_cons.mpr ⟨lk_132, List.forall_mem_cons.mpr ⟨lk_102, (fun _ h => absurd h List.not_mem_nil)⟩⟩⟩⟩) (by decide +kernel)) lg_X5_clear
theorem lk_133 : (Cond.code yX4_sea cX4_sea 4 (some .int)) ∈ lw_tbl := List.mem_of_getElem? (i := 311) (by decide +kernel)
theorem lk_134 : (Cond.fieldLink RX4 77 "WindPost" "pastKnown" "I") ∈ lw_tbl := List.mem_of_getElem? (i := 261) (by decide +kernel)
theorem lk_135 : (Cond.methodLink RX4 66 yX3_readInto) ∈ lw_tbl := List.mem_of_getElem? (i := 312) (by decide +kernel)
theorem lk_136 : (Cond.instanceMethod yX3_readInto) ∈ lw_tbl := List.mem_of_getElem? (i := 313) (by decide +kernel)
theorem lk_137 : (Cond.selects RX3 yX3_readInto yX3_readInto) ∈ lw_tbl := List.mem_of_getElem? (i := 314) (by decide +kernel)
theorem lk_138 : (Cond.code yX3_readInto cX3_readInto 3 (some .int)) ∈ lw_tbl := List.mem_of_getElem? (i := 315) (by decide +kernel)
theorem lk_139 : (Cond.fieldLink RX3 24 "WindPost$Text" "next" "I") ∈ lw_tbl := List.mem_of_getElem? (i := 80) (by decide +kernel)
theorem lk_140 : (Cond.fieldLink RX3 27 "WindPost$Text" "items" "I") ∈ lw_tbl := List.mem_of_getElem? (i := 84) (by decide +kernel)
theorem lk_141 : (Cond.fieldLink RX3 30 "WindPost$Text" "forceTold" "Z") ∈ lw_tbl := List.mem_of_getElem? (i := 85) (by decide +kernel)
theorem lk_142 : (Cond.fieldLink RX3 37 "WindPost$Text" "token" "I") ∈ lw_tbl := List.mem_of_getElem? (i := 82) (by decide +kernel)
theorem lk_143 : (Cond.fieldLink RX3 44 "WindPost$Text" "place" "I") ∈ lw_tbl := List.mem_of_getElem? (i := 81) (by decide +kernel)
theorem lk_144 : (Cond.methodLink RX3 19 yX0_untell) ∈ lw_tbl := List.mem_of_getElem? (i := 316) (by decide +kernel)
set_option maxRecDepth 20000 in
theorem lm_wsX4_sea_r1 : ∀ w ∈ wsX4_sea_r1, w ∈ lw_tbl := by
  unfold wsX4_sea_r1
  exact (List.forall_mem_cons.mpr ⟨lk_7, List.forall_mem_cons.mpr ⟨lk_12, List.forall_mem_cons.mpr ⟨lk_11, List.forall_mem_cons.mpr ⟨lk_104, List.forall_mem_cons.mpr ⟨lk_16, List.forall_mem_cons.mpr ⟨lk_134, List.forall_mem_cons.mpr ⟨lk_20, List.forall_mem_cons.mpr ⟨lk_135, List.forall_mem_cons.mpr ⟨lk_136, List.forall_mem_cons.mpr ⟨lk_137, List.forall_mem_cons.mpr ⟨lk_6, List.forall_mem_cons.mpr ⟨lk_138, List.forall_mem_cons.mpr ⟨lk_139, List.forall_mem_cons.mpr ⟨lk_140, List.forall_mem_cons.mpr ⟨lk_141, List.forall_mem_cons.mpr ⟨lk_142, List.forall_mem_cons.mpr ⟨lk_143, List.forall_mem_cons.mpr ⟨lk_144, List.forall_mem_cons.mpr ⟨lk_40, List.forall_mem_cons.mpr ⟨lk_41, List.forall_mem_cons.mpr ⟨lk_10, List.forall_mem_cons.mpr ⟨lk_42, List.forall_mem_cons.mpr ⟨lk_43, List.forall_mem_cons.mpr ⟨lk_44, (fun _ h => absurd h List.not_mem_nil)⟩⟩⟩⟩⟩⟩⟩⟩⟩⟩⟩⟩⟩⟩⟩⟩⟩⟩⟩⟩⟩⟩⟩⟩)
theorem lk_145 : (Cond.methodLink RX3 34 yX3_step) ∈ lw_tbl := List.mem_of_getElem? (i := 317) (by decide +kernel)
theorem lk_146 : (Cond.instanceMethod yX3_step) ∈ lw_tbl := List.mem_of_getElem? (i := 319) (by decide +kernel)
theorem lk_147 : (Cond.selects RX3 yX3_step yX3_step) ∈ lw_tbl := List.mem_of_getElem? (i := 2) (by decide +kernel)
theorem lk_148 : (Cond.code yX3_step cX3_step 3 none) ∈ lw_tbl := List.mem_of_getElem? (i := 320) (by decide +kernel)
theorem lk_149 : (Cond.fieldLink RX3 72 "WindPost$Text" "number" "I") ∈ lw_tbl := List.mem_of_getElem? (i := 83) (by decide +kernel)
theorem lk_150 : (Cond.methodLink RX3 117 Lib.Math.min.name) ∈ lw_tbl := List.mem_of_getElem? (i := 324) (by decide +kernel)
theorem lk_151 : (Cond.methodLink RX3 113 yX3_isDigit) ∈ lw_tbl := List.mem_of_getElem? (i := 321) (by decide +kernel)
theorem lk_152 : (Cond.static yX3_isDigit) ∈ lw_tbl := List.mem_of_getElem? (i := 322) (by decide +kernel)
theorem lk_153 : (Cond.code yX3_isDigit cX3_isDigit 1 (some .boolean)) ∈ lw_tbl := List.mem_of_getElem? (i := 323) (by decide +kernel)
theorem lk_154 : (Cond.methodLink RX3 123 yX3_isSign) ∈ lw_tbl := List.mem_of_getElem? (i := 325) (by decide +kernel)
theorem lk_155 : (Cond.static yX3_isSign) ∈ lw_tbl := List.mem_of_getElem? (i := 326) (by decide +kernel)
theorem lk_156 : (Cond.code yX3_isSign cX3_isSign 1 (some .boolean)) ∈ lw_tbl := List.mem_of_getElem? (i := 327) (by decide +kernel)
theorem lk_157 : (Cond.methodLink RX3 40 yX3_readItem) ∈ lw_tbl := List.mem_of_getElem? (i := 328) (by decide +kernel)
theorem lk_158 : (Cond.instanceMethod yX3_readItem) ∈ lw_tbl := List.mem_of_getElem? (i := 330) (by decide +kernel)
set_option maxRecDepth 20000 in
theorem lm_wsX4_sea_r2 : ∀ w ∈ wsX4_sea_r2, w ∈ lw_tbl := by
  unfold wsX4_sea_r2
  exact (List.forall_mem_cons.mpr ⟨lk_45, List.forall_mem_cons.mpr ⟨lk_46, List.forall_mem_cons.mpr ⟨lk_47, List.forall_mem_cons.mpr ⟨lk_48, List.forall_mem_cons.mpr ⟨lk_36, List.forall_mem_cons.mpr ⟨lk_145, List.forall_mem_cons.mpr ⟨lk_146, List.forall_mem_cons.mpr ⟨lk_147, List.forall_mem_cons.mpr ⟨lk_148, List.forall_mem_cons.mpr ⟨lk_112, List.forall_mem_cons.mpr ⟨lk_30, List.forall_mem_cons.mpr ⟨lk_149, List.forall_mem_cons.mpr ⟨lk_150, List.forall_mem_cons.mpr ⟨lk_58, List.forall_mem_cons.mpr ⟨lk_59, List.forall_mem_cons.mpr ⟨lk_60, List.forall_mem_cons.mpr ⟨lk_151, List.forall_mem_cons.mpr ⟨lk_152, List.forall_mem_cons.mpr ⟨lk_153, List.forall_mem_cons.mpr ⟨lk_154, List.forall_mem_cons.mpr ⟨lk_155, List.forall_mem_cons.mpr ⟨lk_156, List.forall_mem_cons.mpr ⟨lk_157, List.forall_mem_cons.mpr ⟨lk_158, (fun _ h => absurd h List.not_mem_nil)⟩⟩⟩⟩⟩⟩⟩⟩⟩⟩⟩⟩⟩⟩⟩⟩⟩⟩⟩⟩⟩⟩⟩⟩)
theorem lk_159 : (Cond.selects RX3 yX3_readItem yX3_readItem) ∈ lw_tbl := List.mem_of_getElem? (i := 3) (by decide +kernel)
theorem lk_160 : (Cond.code yX3_readItem cX3_readItem 2 (some .boolean)) ∈ lw_tbl := List.mem_of_getElem? (i := 331) (by decide +kernel)
theorem lk_161 : (Cond.fieldLink RX3 50 "WindPost$Chart" "isles" "I") ∈ lw_tbl := List.mem_of_getElem? (i := 148) (by decide +kernel)
theorem lk_162 : (Cond.fieldLink RX3 56 "WindPost$Chart" "hills" "I") ∈ lw_tbl := List.mem_of_getElem? (i := 151) (by decide +kernel)
theorem lk_163 : (Cond.methodLink RX3 47 yX3_readSize) ∈ lw_tbl := List.mem_of_getElem? (i := 332) (by decide +kernel)
theorem lk_164 : (Cond.instanceMethod yX3_readSize) ∈ lw_tbl := List.mem_of_getElem? (i := 334) (by decide +kernel)
theorem lk_165 : (Cond.selects RX3 yX3_readSize yX3_readSize) ∈ lw_tbl := List.mem_of_getElem? (i := 4) (by decide +kernel)
theorem lk_166 : (Cond.code yX3_readSize cX3_readSize 2 (some .boolean)) ∈ lw_tbl := List.mem_of_getElem? (i := 335) (by decide +kernel)
theorem lk_167 : (Cond.fieldLink RX3 75 "WindPost$Chart" "wide" "I") ∈ lw_tbl := List.mem_of_getElem? (i := 138) (by decide +kernel)
theorem lk_168 : (Cond.fieldLink RX3 78 "WindPost$Chart" "high" "I") ∈ lw_tbl := List.mem_of_getElem? (i := 141) (by decide +kernel)
theorem lk_169 : (Cond.methodLink RX3 68 yX3_stepsToNumber) ∈ lw_tbl := List.mem_of_getElem? (i := 336) (by decide +kernel)
theorem lk_170 : (Cond.instanceMethod yX3_stepsToNumber) ∈ lw_tbl := List.mem_of_getElem? (i := 338) (by decide +kernel)
theorem lk_171 : (Cond.selects RX3 yX3_stepsToNumber yX3_stepsToNumber) ∈ lw_tbl := List.mem_of_getElem? (i := 5) (by decide +kernel)
theorem lk_172 : (Cond.code yX3_stepsToNumber cX3_stepsToNumber 3 (some .boolean)) ∈ lw_tbl := List.mem_of_getElem? (i := 339) (by decide +kernel)
theorem lk_173 : (Cond.methodLink RX3 81 yX3_stepsToEnd) ∈ lw_tbl := List.mem_of_getElem? (i := 341) (by decide +kernel)
theorem lk_174 : (Cond.instanceMethod yX3_stepsToEnd) ∈ lw_tbl := List.mem_of_getElem? (i := 343) (by decide +kernel)
theorem lk_175 : (Cond.selects RX3 yX3_stepsToEnd yX3_stepsToEnd) ∈ lw_tbl := List.mem_of_getElem? (i := 6) (by decide +kernel)
theorem lk_176 : (Cond.code yX3_stepsToEnd cX3_stepsToEnd 1 (some .boolean)) ∈ lw_tbl := List.mem_of_getElem? (i := 344) (by decide +kernel)
theorem lk_177 : (Cond.methodLink RX3 53 yX3_readIsle) ∈ lw_tbl := List.mem_of_getElem? (i := 345) (by decide +kernel)
theorem lk_178 : (Cond.instanceMethod yX3_readIsle) ∈ lw_tbl := List.mem_of_getElem? (i := 347) (by decide +kernel)
theorem lk_179 : (Cond.selects RX3 yX3_readIsle yX3_readIsle) ∈ lw_tbl := List.mem_of_getElem? (i := 7) (by decide +kernel)
set_option maxRecDepth 20000 in
theorem lm_wsX4_sea_r3 : ∀ w ∈ wsX4_sea_r3, w ∈ lw_tbl := by
  unfold wsX4_sea_r3
  exact (List.forall_mem_cons.mpr ⟨lk_159, List.forall_mem_cons.mpr ⟨lk_160, List.forall_mem_cons.mpr ⟨lk_161, List.forall_mem_cons.mpr ⟨lk_162, List.forall_mem_cons.mpr ⟨lk_163, List.forall_mem_cons.mpr ⟨lk_164, List.forall_mem_cons.mpr ⟨lk_165, List.forall_mem_cons.mpr ⟨lk_166, List.forall_mem_cons.mpr ⟨lk_167, List.forall_mem_cons.mpr ⟨lk_168, List.forall_mem_cons.mpr ⟨lk_169, List.forall_mem_cons.mpr ⟨lk_170, List.forall_mem_cons.mpr ⟨lk_171, List.forall_mem_cons.mpr ⟨lk_172, List.forall_mem_cons.mpr ⟨lk_106, List.forall_mem_cons.mpr ⟨lk_85, List.forall_mem_cons.mpr ⟨lk_107, List.forall_mem_cons.mpr ⟨lk_173, List.forall_mem_cons.mpr ⟨lk_174, List.forall_mem_cons.mpr ⟨lk_175, List.forall_mem_cons.mpr ⟨lk_176, List.forall_mem_cons.mpr ⟨lk_177, List.forall_mem_cons.mpr ⟨lk_178, List.forall_mem_cons.mpr ⟨lk_179, (fun _ h => absurd h List.not_mem_nil)⟩⟩⟩⟩⟩⟩⟩⟩⟩⟩⟩⟩⟩⟩⟩⟩⟩⟩⟩⟩⟩⟩⟩⟩)
theorem lk_180 : (Cond.code yX3_readIsle cX3_readIsle 2 (some .boolean)) ∈ lw_tbl := List.mem_of_getElem? (i := 348) (by decide +kernel)
theorem lk_181 : (Cond.methodLink RX3 85 yX0_cells) ∈ lw_tbl := List.mem_of_getElem? (i := 349) (by decide +kernel)
theorem lk_182 : (Cond.methodLink RX3 89 yX0_onCell) ∈ lw_tbl := List.mem_of_getElem? (i := 350) (by decide +kernel)
theorem lk_183 : (Cond.methodLink RX3 93 yX0_addIsle) ∈ lw_tbl := List.mem_of_getElem? (i := 351) (by decide +kernel)
theorem lk_184 : (Cond.instanceMethod yX0_addIsle) ∈ lw_tbl := List.mem_of_getElem? (i := 352) (by decide +kernel)
theorem lk_185 : (Cond.selects RX0 yX0_addIsle yX0_addIsle) ∈ lw_tbl := List.mem_of_getElem? (i := 353) (by decide +kernel)
theorem lk_186 : (Cond.code yX0_addIsle cX0_addIsle 2 none) ∈ lw_tbl := List.mem_of_getElem? (i := 354) (by decide +kernel)
theorem lk_187 : (Cond.methodLink RX3 59 yX3_readHill) ∈ lw_tbl := List.mem_of_getElem? (i := 355) (by decide +kernel)
theorem lk_188 : (Cond.instanceMethod yX3_readHill) ∈ lw_tbl := List.mem_of_getElem? (i := 357) (by decide +kernel)
theorem lk_189 : (Cond.selects RX3 yX3_readHill yX3_readHill) ∈ lw_tbl := List.mem_of_getElem? (i := 8) (by decide +kernel)
theorem lk_190 : (Cond.code yX3_readHill cX3_readHill 2 (some .boolean)) ∈ lw_tbl := List.mem_of_getElem? (i := 358) (by decide +kernel)
theorem lk_191 : (Cond.methodLink RX3 97 yX0_addHill) ∈ lw_tbl := List.mem_of_getElem? (i := 359) (by decide +kernel)
theorem lk_192 : (Cond.instanceMethod yX0_addHill) ∈ lw_tbl := List.mem_of_getElem? (i := 360) (by decide +kernel)
theorem lk_193 : (Cond.selects RX0 yX0_addHill yX0_addHill) ∈ lw_tbl := List.mem_of_getElem? (i := 361) (by decide +kernel)
theorem lk_194 : (Cond.code yX0_addHill cX0_addHill 2 none) ∈ lw_tbl := List.mem_of_getElem? (i := 362) (by decide +kernel)
theorem lk_195 : (Cond.methodLink RX3 62 yX3_readWinds) ∈ lw_tbl := List.mem_of_getElem? (i := 363) (by decide +kernel)
set_option maxRecDepth 20000 in
theorem lm_wsX4_sea_r4 : ∀ w ∈ wsX4_sea_r4, w ∈ lw_tbl := by
  unfold wsX4_sea_r4
  exact (List.forall_mem_cons.mpr ⟨lk_180, List.forall_mem_cons.mpr ⟨lk_181, List.forall_mem_cons.mpr ⟨lk_54, List.forall_mem_cons.mpr ⟨lk_55, List.forall_mem_cons.mpr ⟨lk_56, List.forall_mem_cons.mpr ⟨lk_57, List.forall_mem_cons.mpr ⟨lk_182, List.forall_mem_cons.mpr ⟨lk_70, List.forall_mem_cons.mpr ⟨lk_71, List.forall_mem_cons.mpr ⟨lk_72, List.forall_mem_cons.mpr ⟨lk_183, List.forall_mem_cons.mpr ⟨lk_184, List.forall_mem_cons.mpr ⟨lk_185, List.forall_mem_cons.mpr ⟨lk_186, List.forall_mem_cons.mpr ⟨lk_35, List.forall_mem_cons.mpr ⟨lk_187, List.forall_mem_cons.mpr ⟨lk_188, List.forall_mem_cons.mpr ⟨lk_189, List.forall_mem_cons.mpr ⟨lk_190, List.forall_mem_cons.mpr ⟨lk_191, List.forall_mem_cons.mpr ⟨lk_192, List.forall_mem_cons.mpr ⟨lk_193, List.forall_mem_cons.mpr ⟨lk_194, List.forall_mem_cons.mpr ⟨lk_195, (fun _ h => absurd h List.not_mem_nil)⟩⟩⟩⟩⟩⟩⟩⟩⟩⟩⟩⟩⟩⟩⟩⟩⟩⟩⟩⟩⟩⟩⟩⟩)
theorem lk_196 : (Cond.instanceMethod yX3_readWinds) ∈ lw_tbl := List.mem_of_getElem? (i := 365) (by decide +kernel)
theorem lk_197 : (Cond.selects RX3 yX3_readWinds yX3_readWinds) ∈ lw_tbl := List.mem_of_getElem? (i := 9) (by decide +kernel)
theorem lk_198 : (Cond.code yX3_readWinds cX3_readWinds 3 (some .boolean)) ∈ lw_tbl := List.mem_of_getElem? (i := 366) (by decide +kernel)
theorem lk_199 : (Cond.fieldLink RX3 103 "WindPost$Chart" "told" "I") ∈ lw_tbl := List.mem_of_getElem? (i := 155) (by decide +kernel)
theorem lk_200 : (Cond.methodLink RX3 106 yX0_addWind) ∈ lw_tbl := List.mem_of_getElem? (i := 367) (by decide +kernel)
theorem lk_201 : (Cond.instanceMethod yX0_addWind) ∈ lw_tbl := List.mem_of_getElem? (i := 368) (by decide +kernel)
theorem lk_202 : (Cond.selects RX0 yX0_addWind yX0_addWind) ∈ lw_tbl := List.mem_of_getElem? (i := 369) (by decide +kernel)
theorem lk_203 : (Cond.code yX0_addWind cX0_addWind 2 none) ∈ lw_tbl := List.mem_of_getElem? (i := 370) (by decide +kernel)
theorem lk_204 : (Cond.methodLink RX3 65 yX3_readForce) ∈ lw_tbl := List.mem_of_getElem? (i := 371) (by decide +kernel)
theorem lk_205 : (Cond.instanceMethod yX3_readForce) ∈ lw_tbl := List.mem_of_getElem? (i := 373) (by decide +kernel)
theorem lk_206 : (Cond.selects RX3 yX3_readForce yX3_readForce) ∈ lw_tbl := List.mem_of_getElem? (i := 10) (by decide +kernel)
theorem lk_207 : (Cond.code yX3_readForce cX3_readForce 2 (some .boolean)) ∈ lw_tbl := List.mem_of_getElem? (i := 374) (by decide +kernel)
theorem lk_208 : (Cond.fieldLink RX3 100 "WindPost$Chart" "force" "I") ∈ lw_tbl := List.mem_of_getElem? (i := 145) (by decide +kernel)
theorem lk_209 : (Cond.methodLink RX4 70 yX0_drawEnds) ∈ lw_tbl := List.mem_of_getElem? (i := 375) (by decide +kernel)
set_option maxRecDepth 20000 in
theorem lm_wsX4_sea_r5 : ∀ w ∈ wsX4_sea_r5, w ∈ lw_tbl := by
  unfold wsX4_sea_r5
  exact (List.forall_mem_cons.mpr ⟨lk_196, List.forall_mem_cons.mpr ⟨lk_197, List.forall_mem_cons.mpr ⟨lk_198, List.forall_mem_cons.mpr ⟨lk_199, List.forall_mem_cons.mpr ⟨lk_200, List.forall_mem_cons.mpr ⟨lk_201, List.forall_mem_cons.mpr ⟨lk_202, List.forall_mem_cons.mpr ⟨lk_203, List.forall_mem_cons.mpr ⟨lk_37, List.forall_mem_cons.mpr ⟨lk_204, List.forall_mem_cons.mpr ⟨lk_205, List.forall_mem_cons.mpr ⟨lk_206, List.forall_mem_cons.mpr ⟨lk_207, List.forall_mem_cons.mpr ⟨lk_208, List.forall_mem_cons.mpr ⟨lk_209, List.forall_mem_cons.mpr ⟨lk_50, List.forall_mem_cons.mpr ⟨lk_51, List.forall_mem_cons.mpr ⟨lk_52, List.forall_mem_cons.mpr ⟨lk_53, List.forall_mem_cons.mpr ⟨lk_61, List.forall_mem_cons.mpr ⟨lk_62, List.forall_mem_cons.mpr ⟨lk_63, List.forall_mem_cons.mpr ⟨lk_64, List.forall_mem_cons.mpr ⟨lk_38, (fun _ h => absurd h List.not_mem_nil)⟩⟩⟩⟩⟩⟩⟩⟩⟩⟩⟩⟩⟩⟩⟩⟩⟩⟩⟩⟩⟩⟩⟩⟩)
theorem lk_210 : (Cond.methodLink RX4 73 yX2_beginAnew) ∈ lw_tbl := List.mem_of_getElem? (i := 376) (by decide +kernel)
theorem lk_211 : (Cond.instanceMethod yX2_beginAnew) ∈ lw_tbl := List.mem_of_getElem? (i := 377) (by decide +kernel)
theorem lk_212 : (Cond.selects RX2 yX2_beginAnew yX2_beginAnew) ∈ lw_tbl := List.mem_of_getElem? (i := 378) (by decide +kernel)
theorem lk_213 : (Cond.code yX2_beginAnew cX2_beginAnew 3 none) ∈ lw_tbl := List.mem_of_getElem? (i := 379) (by decide +kernel)
theorem lk_214 : (Cond.fieldLink RX2 22 "WindPost$Moment" "time" "I") ∈ lw_tbl := List.mem_of_getElem? (i := 227) (by decide +kernel)
theorem lk_215 : (Cond.fieldLink RX2 26 "WindPost$Moment" "letters" "I") ∈ lw_tbl := List.mem_of_getElem? (i := 229) (by decide +kernel)
theorem lk_216 : (Cond.fieldLink RX2 29 "WindPost$Moment" "nets" "I") ∈ lw_tbl := List.mem_of_getElem? (i := 231) (by decide +kernel)
theorem lk_217 : (Cond.fieldLink RX2 32 "WindPost$Chart" "told" "I") ∈ lw_tbl := List.mem_of_getElem? (i := 153) (by decide +kernel)
theorem lk_218 : (Cond.fieldLink RX2 37 "WindPost$Moment" "told" "I") ∈ lw_tbl := List.mem_of_getElem? (i := 233) (by decide +kernel)
theorem lk_219 : (Cond.fieldLink RX2 38 "WindPost$Chart" "winds" "[I") ∈ lw_tbl := List.mem_of_getElem? (i := 161) (by decide +kernel)
set_option maxRecDepth 20000 in
theorem lm_wsX4_sea_r6 : ∀ w ∈ wsX4_sea_r6, w ∈ lw_tbl := by
  unfold wsX4_sea_r6
  exact (List.forall_mem_cons.mpr ⟨lk_65, List.forall_mem_cons.mpr ⟨lk_66, List.forall_mem_cons.mpr ⟨lk_67, List.forall_mem_cons.mpr ⟨lk_68, List.forall_mem_cons.mpr ⟨lk_69, List.forall_mem_cons.mpr ⟨lk_210, List.forall_mem_cons.mpr ⟨lk_211, List.forall_mem_cons.mpr ⟨lk_212, List.forall_mem_cons.mpr ⟨lk_15, List.forall_mem_cons.mpr ⟨lk_213, List.forall_mem_cons.mpr ⟨lk_214, List.forall_mem_cons.mpr ⟨lk_215, List.forall_mem_cons.mpr ⟨lk_216, List.forall_mem_cons.mpr ⟨lk_217, List.forall_mem_cons.mpr ⟨lk_218, List.forall_mem_cons.mpr ⟨lk_77, List.forall_mem_cons.mpr ⟨lk_219, (fun _ h => absurd h List.not_mem_nil)⟩⟩⟩⟩⟩⟩⟩⟩⟩⟩⟩⟩⟩⟩⟩⟩⟩)
set_option maxRecDepth 20000 in
theorem lm_wsX4_sea : ∀ w ∈ wsX4_sea, w ∈ lw_tbl := by
  unfold wsX4_sea
  exact (List.forall_mem_cons.mpr ⟨lk_133, (List.forall_mem_append.mpr ⟨(List.forall_mem_append.mpr ⟨(List.forall_mem_append.mpr ⟨(List.forall_mem_append.mpr ⟨(List.forall_mem_append.mpr ⟨lm_wsX4_sea_r1, (List.forall_mem_append.mpr ⟨lm_wsX4_sea_r2, (List.forall_mem_append.mpr ⟨lm_wsX4_sea_r3, (List.forall_mem_append.mpr ⟨lm_wsX4_sea_r4, (List.forall_mem_append.mpr ⟨lm_wsX4_sea_r5, lm_wsX4_sea_r6⟩)⟩)⟩)⟩)⟩), lm_wsX40⟩), lm_wsX30⟩), lm_wsX00⟩), lm_wsX20⟩)⟩)
set_option maxRecDepth 20000 in
theorem lg_X4_sea : GoodIn lw_tbl wsX4_sea := goodIn_sub lm_wsX4_sea (by decide +kernel)
theorem lk_220 : (Cond.methodLink RL 23 yX4_sea) ∈ lw_tbl := List.mem_of_getElem? (i := 308) (by decide +kernel)
theorem lk_221 : (Cond.instanceMethod yX4_sea) ∈ lw_tbl := List.mem_of_getElem? (i := 309) (by decide +kernel)
theorem lk_222 : (Cond.selects RX4 yX4_sea yX4_sea) ∈ lw_tbl := List.mem_of_getElem? (i := 310) (by decide +kernel)
theorem lG_X4_sea : GoodIn lw_tbl (wsV RL 23 RX4 yX4_sea wsX4_sea) := goodIn_app (goodIn_sub (List.forall_mem_cons.mpr ⟨lk_220, List.forall_mem_cons.mpr ⟨lk_221, List.forall_mem_cons.mpr ⟨lk_222, List.forall_mem_cons.mpr ⟨lk_85, (fun _ h => absurd h List.not_mem_nil)⟩⟩⟩⟩) (by decide +kernel)) lg_X4_sea
theorem lk_223 : (Cond.code yX5_sea cX5_sea 3 (some .int)) ∈ lw_tbl := List.mem_of_getElem? (i := 715) (by decide +kernel)
theorem lk_224 : (Cond.fieldLink RX5 74 "WindPostModel" "fault" "I") ∈ lw_tbl := List.mem_of_getElem? (i := 642) (by decide +kernel)
theorem lk_225 : (Cond.fieldLink RX5 58 "WindPostModel" "next" "I") ∈ lw_tbl := List.mem_of_getElem? (i := 638) (by decide +kernel)
theorem lk_226 : (Cond.fieldLink RX5 88 "WindPostModel" "isForceTold" "Z") ∈ lw_tbl := List.mem_of_getElem? (i := 647) (by decide +kernel)
theorem lk_227 : (Cond.fieldLink RX5 68 "WindPostModel" "token" "I") ∈ lw_tbl := List.mem_of_getElem? (i := 639) (by decide +kernel)
theorem lk_228 : (Cond.methodLink RX5 81 yX5_advances) ∈ lw_tbl := List.mem_of_getElem? (i := 716) (by decide +kernel)
theorem lk_229 : (Cond.instanceMethod yX5_advances) ∈ lw_tbl := List.mem_of_getElem? (i := 718) (by decide +kernel)
theorem lk_230 : (Cond.selects RX5 yX5_advances yX5_advances) ∈ lw_tbl := List.mem_of_getElem? (i := 29) (by decide +kernel)
theorem lk_231 : (Cond.code yX5_advances cX5_advances 2 none) ∈ lw_tbl := List.mem_of_getElem? (i := 719) (by decide +kernel)
theorem lk_232 : (Cond.fieldLink RX5 65 "WindPostModel" "place" "I") ∈ lw_tbl := List.mem_of_getElem? (i := 640) (by decide +kernel)
theorem lk_233 : (Cond.fieldLink RX5 71 "WindPostModel" "value" "I") ∈ lw_tbl := List.mem_of_getElem? (i := 641) (by decide +kernel)
theorem lk_234 : (Cond.methodLink RX5 61 yX5_letterAt) ∈ lw_tbl := List.mem_of_getElem? (i := 720) (by decide +kernel)
theorem lk_235 : (Cond.instanceMethod yX5_letterAt) ∈ lw_tbl := List.mem_of_getElem? (i := 722) (by decide +kernel)
theorem lk_236 : (Cond.selects RX5 yX5_letterAt yX5_letterAt) ∈ lw_tbl := List.mem_of_getElem? (i := 30) (by decide +kernel)
theorem lk_237 : (Cond.code yX5_letterAt cX5_letterAt 2 (some .int)) ∈ lw_tbl := List.mem_of_getElem? (i := 723) (by decide +kernel)
theorem lk_238 : (Cond.methodLink RX5 77 yX5_isWell) ∈ lw_tbl := List.mem_of_getElem? (i := 724) (by decide +kernel)
theorem lk_239 : (Cond.instanceMethod yX5_isWell) ∈ lw_tbl := List.mem_of_getElem? (i := 726) (by decide +kernel)
set_option maxRecDepth 20000 in
theorem lm_wsX5_sea_r1 : ∀ w ∈ wsX5_sea_r1, w ∈ lw_tbl := by
  unfold wsX5_sea_r1
  exact (List.forall_mem_cons.mpr ⟨lk_117, List.forall_mem_cons.mpr ⟨lk_224, List.forall_mem_cons.mpr ⟨lk_225, List.forall_mem_cons.mpr ⟨lk_89, List.forall_mem_cons.mpr ⟨lk_226, List.forall_mem_cons.mpr ⟨lk_227, List.forall_mem_cons.mpr ⟨lk_228, List.forall_mem_cons.mpr ⟨lk_229, List.forall_mem_cons.mpr ⟨lk_230, List.forall_mem_cons.mpr ⟨lk_102, List.forall_mem_cons.mpr ⟨lk_231, List.forall_mem_cons.mpr ⟨lk_232, List.forall_mem_cons.mpr ⟨lk_233, List.forall_mem_cons.mpr ⟨lk_234, List.forall_mem_cons.mpr ⟨lk_235, List.forall_mem_cons.mpr ⟨lk_236, List.forall_mem_cons.mpr ⟨lk_237, List.forall_mem_cons.mpr ⟨lk_118, List.forall_mem_cons.mpr ⟨lk_88, List.forall_mem_cons.mpr ⟨lk_119, List.forall_mem_cons.mpr ⟨lk_120, List.forall_mem_cons.mpr ⟨lk_121, List.forall_mem_cons.mpr ⟨lk_238, List.forall_mem_cons.mpr ⟨lk_239, (fun _ h => absurd h List.not_mem_nil)⟩⟩⟩⟩⟩⟩⟩⟩⟩⟩⟩⟩⟩⟩⟩⟩⟩⟩⟩⟩⟩⟩⟩⟩)
theorem lk_240 : (Cond.selects RX5 yX5_isWell yX5_isWell) ∈ lw_tbl := List.mem_of_getElem? (i := 31) (by decide +kernel)
theorem lk_241 : (Cond.code yX5_isWell cX5_isWell 1 (some .boolean)) ∈ lw_tbl := List.mem_of_getElem? (i := 727) (by decide +kernel)
theorem lk_242 : (Cond.methodLink RX5 103 yX5_mayBegin) ∈ lw_tbl := List.mem_of_getElem? (i := 728) (by decide +kernel)
theorem lk_243 : (Cond.instanceMethod yX5_mayBegin) ∈ lw_tbl := List.mem_of_getElem? (i := 730) (by decide +kernel)
theorem lk_244 : (Cond.selects RX5 yX5_mayBegin yX5_mayBegin) ∈ lw_tbl := List.mem_of_getElem? (i := 32) (by decide +kernel)
theorem lk_245 : (Cond.code yX5_mayBegin cX5_mayBegin 2 (some .boolean)) ∈ lw_tbl := List.mem_of_getElem? (i := 731) (by decide +kernel)
theorem lk_246 : (Cond.methodLink RX5 84 yX5_takes) ∈ lw_tbl := List.mem_of_getElem? (i := 732) (by decide +kernel)
theorem lk_247 : (Cond.instanceMethod yX5_takes) ∈ lw_tbl := List.mem_of_getElem? (i := 734) (by decide +kernel)
theorem lk_248 : (Cond.selects RX5 yX5_takes yX5_takes) ∈ lw_tbl := List.mem_of_getElem? (i := 33) (by decide +kernel)
theorem lk_249 : (Cond.code yX5_takes cX5_takes 3 (some .int)) ∈ lw_tbl := List.mem_of_getElem? (i := 735) (by decide +kernel)
theorem lk_250 : (Cond.methodLink RX5 106 yX5_readsItem) ∈ lw_tbl := List.mem_of_getElem? (i := 736) (by decide +kernel)
theorem lk_251 : (Cond.instanceMethod yX5_readsItem) ∈ lw_tbl := List.mem_of_getElem? (i := 738) (by decide +kernel)
theorem lk_252 : (Cond.selects RX5 yX5_readsItem yX5_readsItem) ∈ lw_tbl := List.mem_of_getElem? (i := 34) (by decide +kernel)
theorem lk_253 : (Cond.code yX5_readsItem cX5_readsItem 2 none) ∈ lw_tbl := List.mem_of_getElem? (i := 739) (by decide +kernel)
theorem lk_254 : (Cond.methodLink RX5 92 yX5_number) ∈ lw_tbl := List.mem_of_getElem? (i := 740) (by decide +kernel)
theorem lk_255 : (Cond.instanceMethod yX5_number) ∈ lw_tbl := List.mem_of_getElem? (i := 742) (by decide +kernel)
theorem lk_256 : (Cond.selects RX5 yX5_number yX5_number) ∈ lw_tbl := List.mem_of_getElem? (i := 35) (by decide +kernel)
theorem lk_257 : (Cond.code yX5_number cX5_number 3 (some .int)) ∈ lw_tbl := List.mem_of_getElem? (i := 743) (by decide +kernel)
theorem lk_258 : (Cond.methodLink RX5 96 yX5_isFree) ∈ lw_tbl := List.mem_of_getElem? (i := 744) (by decide +kernel)
theorem lk_259 : (Cond.instanceMethod yX5_isFree) ∈ lw_tbl := List.mem_of_getElem? (i := 746) (by decide +kernel)
theorem lk_260 : (Cond.selects RX5 yX5_isFree yX5_isFree) ∈ lw_tbl := List.mem_of_getElem? (i := 36) (by decide +kernel)
theorem lk_261 : (Cond.code yX5_isFree cX5_isFree 4 (some .boolean)) ∈ lw_tbl := List.mem_of_getElem? (i := 747) (by decide +kernel)
set_option maxRecDepth 20000 in
theorem lm_wsX5_sea_r2 : ∀ w ∈ wsX5_sea_r2, w ∈ lw_tbl := by
  unfold wsX5_sea_r2
  exact (List.forall_mem_cons.mpr ⟨lk_240, List.forall_mem_cons.mpr ⟨lk_241, List.forall_mem_cons.mpr ⟨lk_242, List.forall_mem_cons.mpr ⟨lk_243, List.forall_mem_cons.mpr ⟨lk_244, List.forall_mem_cons.mpr ⟨lk_245, List.forall_mem_cons.mpr ⟨lk_246, List.forall_mem_cons.mpr ⟨lk_247, List.forall_mem_cons.mpr ⟨lk_248, List.forall_mem_cons.mpr ⟨lk_249, List.forall_mem_cons.mpr ⟨lk_250, List.forall_mem_cons.mpr ⟨lk_251, List.forall_mem_cons.mpr ⟨lk_252, List.forall_mem_cons.mpr ⟨lk_253, List.forall_mem_cons.mpr ⟨lk_90, List.forall_mem_cons.mpr ⟨lk_91, List.forall_mem_cons.mpr ⟨lk_254, List.forall_mem_cons.mpr ⟨lk_255, List.forall_mem_cons.mpr ⟨lk_256, List.forall_mem_cons.mpr ⟨lk_257, List.forall_mem_cons.mpr ⟨lk_258, List.forall_mem_cons.mpr ⟨lk_259, List.forall_mem_cons.mpr ⟨lk_260, List.forall_mem_cons.mpr ⟨lk_261, (fun _ h => absurd h List.not_mem_nil)⟩⟩⟩⟩⟩⟩⟩⟩⟩⟩⟩⟩⟩⟩⟩⟩⟩⟩⟩⟩⟩⟩⟩⟩)
theorem lk_262 : (Cond.methodLink RX5 100 yX5_readsWind) ∈ lw_tbl := List.mem_of_getElem? (i := 748) (by decide +kernel)
theorem lk_263 : (Cond.instanceMethod yX5_readsWind) ∈ lw_tbl := List.mem_of_getElem? (i := 750) (by decide +kernel)
theorem lk_264 : (Cond.selects RX5 yX5_readsWind yX5_readsWind) ∈ lw_tbl := List.mem_of_getElem? (i := 37) (by decide +kernel)
theorem lk_265 : (Cond.code yX5_readsWind cX5_readsWind 2 none) ∈ lw_tbl := List.mem_of_getElem? (i := 751) (by decide +kernel)
theorem lk_266 : (Cond.methodLink RX5 110 yX5_settles) ∈ lw_tbl := List.mem_of_getElem? (i := 752) (by decide +kernel)
theorem lk_267 : (Cond.instanceMethod yX5_settles) ∈ lw_tbl := List.mem_of_getElem? (i := 754) (by decide +kernel)
theorem lk_268 : (Cond.selects RX5 yX5_settles yX5_settles) ∈ lw_tbl := List.mem_of_getElem? (i := 38) (by decide +kernel)
theorem lk_269 : (Cond.code yX5_settles cX5_settles 2 none) ∈ lw_tbl := List.mem_of_getElem? (i := 755) (by decide +kernel)
theorem lk_270 : (Cond.fieldLink RX5 113 "WindPostModel" "undoMany" "I") ∈ lw_tbl := List.mem_of_getElem? (i := 652) (by decide +kernel)
set_option maxRecDepth 20000 in
theorem lm_wsX5_sea_r3 : ∀ w ∈ wsX5_sea_r3, w ∈ lw_tbl := by
  unfold wsX5_sea_r3
  exact (List.forall_mem_cons.mpr ⟨lk_262, List.forall_mem_cons.mpr ⟨lk_263, List.forall_mem_cons.mpr ⟨lk_264, List.forall_mem_cons.mpr ⟨lk_265, List.forall_mem_cons.mpr ⟨lk_92, List.forall_mem_cons.mpr ⟨lk_266, List.forall_mem_cons.mpr ⟨lk_267, List.forall_mem_cons.mpr ⟨lk_268, List.forall_mem_cons.mpr ⟨lk_269, List.forall_mem_cons.mpr ⟨lk_93, List.forall_mem_cons.mpr ⟨lk_270, List.forall_mem_cons.mpr ⟨lk_95, (fun _ h => absurd h List.not_mem_nil)⟩⟩⟩⟩⟩⟩⟩⟩⟩⟩⟩⟩)
set_option maxRecDepth 20000 in
theorem lm_wsX5_sea : ∀ w ∈ wsX5_sea, w ∈ lw_tbl := by
  unfold wsX5_sea
  exact (List.forall_mem_cons.mpr ⟨lk_223, (List.forall_mem_append.mpr ⟨(List.forall_mem_append.mpr ⟨lm_wsX5_sea_r1, (List.forall_mem_append.mpr ⟨lm_wsX5_sea_r2, lm_wsX5_sea_r3⟩)⟩), lm_wsX50⟩)⟩)
set_option maxRecDepth 20000 in
theorem lg_X5_sea : GoodIn lw_tbl wsX5_sea := goodIn_sub lm_wsX5_sea (by decide +kernel)
theorem lk_271 : (Cond.methodLink RL 26 yX5_sea) ∈ lw_tbl := List.mem_of_getElem? (i := 712) (by decide +kernel)
theorem lk_272 : (Cond.instanceMethod yX5_sea) ∈ lw_tbl := List.mem_of_getElem? (i := 713) (by decide +kernel)
theorem lk_273 : (Cond.selects RX5 yX5_sea yX5_sea) ∈ lw_tbl := List.mem_of_getElem? (i := 714) (by decide +kernel)
theorem lG_X5_sea : GoodIn lw_tbl (wsV RL 26 RX5 yX5_sea wsX5_sea) := goodIn_app (goodIn_sub (List.forall_mem_cons.mpr ⟨lk_271, List.forall_mem_cons.mpr ⟨lk_272, List.forall_mem_cons.mpr ⟨lk_273, List.forall_mem_cons.mpr ⟨lk_102, (fun _ h => absurd h List.not_mem_nil)⟩⟩⟩⟩) (by decide +kernel)) lg_X5_sea
theorem lk_274 : (Cond.code yX4_isle cX4_isle 3 (some .int)) ∈ lw_tbl := List.mem_of_getElem? (i := 383) (by decide +kernel)
theorem lk_275 : (Cond.fieldLink RX4 84 "WindPost$Chart" "isleCells" "[I") ∈ lw_tbl := List.mem_of_getElem? (i := 157) (by decide +kernel)
theorem lk_276 : (Cond.fieldLink RX4 88 "WindPost$Moment" "nets" "I") ∈ lw_tbl := List.mem_of_getElem? (i := 232) (by decide +kernel)
theorem lk_277 : (Cond.methodLink RX4 80 yX4_isIsle) ∈ lw_tbl := List.mem_of_getElem? (i := 384) (by decide +kernel)
theorem lk_278 : (Cond.instanceMethod yX4_isIsle) ∈ lw_tbl := List.mem_of_getElem? (i := 386) (by decide +kernel)
theorem lk_279 : (Cond.selects RX4 yX4_isIsle yX4_isIsle) ∈ lw_tbl := List.mem_of_getElem? (i := 11) (by decide +kernel)
theorem lk_280 : (Cond.code yX4_isIsle cX4_isIsle 2 (some .boolean)) ∈ lw_tbl := List.mem_of_getElem? (i := 387) (by decide +kernel)
theorem lk_281 : (Cond.fieldLink RX4 194 "WindPost$Chart" "isles" "I") ∈ lw_tbl := List.mem_of_getElem? (i := 149) (by decide +kernel)
theorem lk_282 : (Cond.methodLink RX4 91 yX4_bitOf) ∈ lw_tbl := List.mem_of_getElem? (i := 388) (by decide +kernel)
theorem lk_283 : (Cond.static yX4_bitOf) ∈ lw_tbl := List.mem_of_getElem? (i := 389) (by decide +kernel)
theorem lk_284 : (Cond.code yX4_bitOf cX4_bitOf 2 (some .int)) ∈ lw_tbl := List.mem_of_getElem? (i := 390) (by decide +kernel)
set_option maxRecDepth 20000 in
theorem lm_wsX4_isle : ∀ w ∈ wsX4_isle, w ∈ lw_tbl := by
  unfold wsX4_isle
  exact (List.forall_mem_cons.mpr ⟨lk_274, (List.forall_mem_append.mpr ⟨(List.forall_mem_append.mpr ⟨(List.forall_mem_append.mpr ⟨(List.forall_mem_cons.mpr ⟨lk_11, List.forall_mem_cons.mpr ⟨lk_275, List.forall_mem_cons.mpr ⟨lk_16, List.forall_mem_cons.mpr ⟨lk_276, List.forall_mem_cons.mpr ⟨lk_277, List.forall_mem_cons.mpr ⟨lk_278, List.forall_mem_cons.mpr ⟨lk_279, List.forall_mem_cons.mpr ⟨lk_85, List.forall_mem_cons.mpr ⟨lk_280, List.forall_mem_cons.mpr ⟨lk_281, List.forall_mem_cons.mpr ⟨lk_105, List.forall_mem_cons.mpr ⟨lk_106, List.forall_mem_cons.mpr ⟨lk_107, List.forall_mem_cons.mpr ⟨lk_282, List.forall_mem_cons.mpr ⟨lk_283, List.forall_mem_cons.mpr ⟨lk_284, (fun _ h => absurd h List.not_mem_nil)⟩⟩⟩⟩⟩⟩⟩⟩⟩⟩⟩⟩⟩⟩⟩⟩), lm_wsX40⟩), lm_wsX00⟩), lm_wsX20⟩)⟩)
set_option maxRecDepth 20000 in
theorem lg_X4_isle : GoodIn lw_tbl wsX4_isle := goodIn_sub lm_wsX4_isle (by decide +kernel)
theorem lk_285 : (Cond.methodLink RL 27 yX4_isle) ∈ lw_tbl := List.mem_of_getElem? (i := 380) (by decide +kernel)
theorem lk_286 : (Cond.instanceMethod yX4_isle) ∈ lw_tbl := List.mem_of_getElem? (i := 381) (by decide +kernel)
theorem lk_287 : (Cond.selects RX4 yX4_isle yX4_isle) ∈ lw_tbl := List.mem_of_getElem? (i := 382) (by decide +kernel)
theorem lG_X4_isle : GoodIn lw_tbl (wsV RL 27 RX4 yX4_isle wsX4_isle) := goodIn_app (goodIn_sub (List.forall_mem_cons.mpr ⟨lk_285, List.forall_mem_cons.mpr ⟨lk_286, List.forall_mem_cons.mpr ⟨lk_287, List.forall_mem_cons.mpr ⟨lk_85, (fun _ h => absurd h List.not_mem_nil)⟩⟩⟩⟩) (by decide +kernel)) lg_X4_isle
theorem lk_288 : (Cond.code yX5_isle cX5_isle 3 (some .int)) ∈ lw_tbl := List.mem_of_getElem? (i := 759) (by decide +kernel)
theorem lk_289 : (Cond.methodLink RX5 116 yX5_isIsle) ∈ lw_tbl := List.mem_of_getElem? (i := 760) (by decide +kernel)
theorem lk_290 : (Cond.instanceMethod yX5_isIsle) ∈ lw_tbl := List.mem_of_getElem? (i := 762) (by decide +kernel)
theorem lk_291 : (Cond.selects RX5 yX5_isIsle yX5_isIsle) ∈ lw_tbl := List.mem_of_getElem? (i := 39) (by decide +kernel)
theorem lk_292 : (Cond.code yX5_isIsle cX5_isIsle 2 (some .boolean)) ∈ lw_tbl := List.mem_of_getElem? (i := 763) (by decide +kernel)
set_option maxRecDepth 20000 in
theorem lm_wsX5_isle : ∀ w ∈ wsX5_isle, w ∈ lw_tbl := by
  unfold wsX5_isle
  exact (List.forall_mem_cons.mpr ⟨lk_288, (List.forall_mem_append.mpr ⟨(List.forall_mem_cons.mpr ⟨lk_117, List.forall_mem_cons.mpr ⟨lk_90, List.forall_mem_cons.mpr ⟨lk_93, List.forall_mem_cons.mpr ⟨lk_289, List.forall_mem_cons.mpr ⟨lk_290, List.forall_mem_cons.mpr ⟨lk_291, List.forall_mem_cons.mpr ⟨lk_102, List.forall_mem_cons.mpr ⟨lk_292, List.forall_mem_cons.mpr ⟨lk_89, List.forall_mem_cons.mpr ⟨lk_119, List.forall_mem_cons.mpr ⟨lk_120, List.forall_mem_cons.mpr ⟨lk_121, (fun _ h => absurd h List.not_mem_nil)⟩⟩⟩⟩⟩⟩⟩⟩⟩⟩⟩⟩), lm_wsX50⟩)⟩)
set_option maxRecDepth 20000 in
theorem lg_X5_isle : GoodIn lw_tbl wsX5_isle := goodIn_sub lm_wsX5_isle (by decide +kernel)
theorem lk_293 : (Cond.methodLink RL 31 yX5_isle) ∈ lw_tbl := List.mem_of_getElem? (i := 756) (by decide +kernel)
theorem lk_294 : (Cond.instanceMethod yX5_isle) ∈ lw_tbl := List.mem_of_getElem? (i := 757) (by decide +kernel)
theorem lk_295 : (Cond.selects RX5 yX5_isle yX5_isle) ∈ lw_tbl := List.mem_of_getElem? (i := 758) (by decide +kernel)
theorem lG_X5_isle : GoodIn lw_tbl (wsV RL 31 RX5 yX5_isle wsX5_isle) := goodIn_app (goodIn_sub (List.forall_mem_cons.mpr ⟨lk_293, List.forall_mem_cons.mpr ⟨lk_294, List.forall_mem_cons.mpr ⟨lk_295, List.forall_mem_cons.mpr ⟨lk_102, (fun _ h => absurd h List.not_mem_nil)⟩⟩⟩⟩) (by decide +kernel)) lg_X5_isle
theorem lk_296 : (Cond.code yX4_cell cX4_cell 2 (some .int)) ∈ lw_tbl := List.mem_of_getElem? (i := 394) (by decide +kernel)
theorem lk_297 : (Cond.fieldLink RX4 99 "WindPost$Chart" "holds" "[I") ∈ lw_tbl := List.mem_of_getElem? (i := 159) (by decide +kernel)
theorem lk_298 : (Cond.methodLink RX4 95 yX0_cells) ∈ lw_tbl := List.mem_of_getElem? (i := 395) (by decide +kernel)
set_option maxRecDepth 20000 in
theorem lm_wsX4_cell : ∀ w ∈ wsX4_cell, w ∈ lw_tbl := by
  unfold wsX4_cell
  exact (List.forall_mem_cons.mpr ⟨lk_296, (List.forall_mem_append.mpr ⟨(List.forall_mem_append.mpr ⟨(List.forall_mem_cons.mpr ⟨lk_11, List.forall_mem_cons.mpr ⟨lk_297, List.forall_mem_cons.mpr ⟨lk_298, List.forall_mem_cons.mpr ⟨lk_54, List.forall_mem_cons.mpr ⟨lk_55, List.forall_mem_cons.mpr ⟨lk_10, List.forall_mem_cons.mpr ⟨lk_56, List.forall_mem_cons.mpr ⟨lk_43, List.forall_mem_cons.mpr ⟨lk_44, List.forall_mem_cons.mpr ⟨lk_57, List.forall_mem_cons.mpr ⟨lk_58, List.forall_mem_cons.mpr ⟨lk_59, List.forall_mem_cons.mpr ⟨lk_60, List.forall_mem_cons.mpr ⟨lk_105, List.forall_mem_cons.mpr ⟨lk_106, List.forall_mem_cons.mpr ⟨lk_85, List.forall_mem_cons.mpr ⟨lk_107, (fun _ h => absurd h List.not_mem_nil)⟩⟩⟩⟩⟩⟩⟩⟩⟩⟩⟩⟩⟩⟩⟩⟩⟩), lm_wsX40⟩), lm_wsX00⟩)⟩)
set_option maxRecDepth 20000 in
theorem lg_X4_cell : GoodIn lw_tbl wsX4_cell := goodIn_sub lm_wsX4_cell (by decide +kernel)
theorem lk_299 : (Cond.methodLink RL 32 yX4_cell) ∈ lw_tbl := List.mem_of_getElem? (i := 391) (by decide +kernel)
theorem lk_300 : (Cond.instanceMethod yX4_cell) ∈ lw_tbl := List.mem_of_getElem? (i := 392) (by decide +kernel)
theorem lk_301 : (Cond.selects RX4 yX4_cell yX4_cell) ∈ lw_tbl := List.mem_of_getElem? (i := 393) (by decide +kernel)
theorem lG_X4_cell : GoodIn lw_tbl (wsV RL 32 RX4 yX4_cell wsX4_cell) := goodIn_app (goodIn_sub (List.forall_mem_cons.mpr ⟨lk_299, List.forall_mem_cons.mpr ⟨lk_300, List.forall_mem_cons.mpr ⟨lk_301, List.forall_mem_cons.mpr ⟨lk_85, (fun _ h => absurd h List.not_mem_nil)⟩⟩⟩⟩) (by decide +kernel)) lg_X4_cell
theorem lk_302 : (Cond.code yX5_cell cX5_cell 2 (some .int)) ∈ lw_tbl := List.mem_of_getElem? (i := 767) (by decide +kernel)
theorem lk_303 : (Cond.methodLink RX5 119 yX5_isHill) ∈ lw_tbl := List.mem_of_getElem? (i := 768) (by decide +kernel)
theorem lk_304 : (Cond.instanceMethod yX5_isHill) ∈ lw_tbl := List.mem_of_getElem? (i := 770) (by decide +kernel)
theorem lk_305 : (Cond.selects RX5 yX5_isHill yX5_isHill) ∈ lw_tbl := List.mem_of_getElem? (i := 40) (by decide +kernel)
theorem lk_306 : (Cond.code yX5_isHill cX5_isHill 4 (some .boolean)) ∈ lw_tbl := List.mem_of_getElem? (i := 771) (by decide +kernel)
theorem lk_307 : (Cond.methodLink RX5 122 yX5_isleAt) ∈ lw_tbl := List.mem_of_getElem? (i := 772) (by decide +kernel)
theorem lk_308 : (Cond.instanceMethod yX5_isleAt) ∈ lw_tbl := List.mem_of_getElem? (i := 774) (by decide +kernel)
theorem lk_309 : (Cond.selects RX5 yX5_isleAt yX5_isleAt) ∈ lw_tbl := List.mem_of_getElem? (i := 41) (by decide +kernel)
theorem lk_310 : (Cond.code yX5_isleAt cX5_isleAt 3 (some .int)) ∈ lw_tbl := List.mem_of_getElem? (i := 775) (by decide +kernel)
set_option maxRecDepth 20000 in
theorem lm_wsX5_cell : ∀ w ∈ wsX5_cell, w ∈ lw_tbl := by
  unfold wsX5_cell
  exact (List.forall_mem_cons.mpr ⟨lk_302, (List.forall_mem_append.mpr ⟨(List.forall_mem_cons.mpr ⟨lk_117, List.forall_mem_cons.mpr ⟨lk_89, List.forall_mem_cons.mpr ⟨lk_119, List.forall_mem_cons.mpr ⟨lk_120, List.forall_mem_cons.mpr ⟨lk_102, List.forall_mem_cons.mpr ⟨lk_121, List.forall_mem_cons.mpr ⟨lk_303, List.forall_mem_cons.mpr ⟨lk_304, List.forall_mem_cons.mpr ⟨lk_305, List.forall_mem_cons.mpr ⟨lk_306, List.forall_mem_cons.mpr ⟨lk_91, List.forall_mem_cons.mpr ⟨lk_307, List.forall_mem_cons.mpr ⟨lk_308, List.forall_mem_cons.mpr ⟨lk_309, List.forall_mem_cons.mpr ⟨lk_310, List.forall_mem_cons.mpr ⟨lk_90, (fun _ h => absurd h List.not_mem_nil)⟩⟩⟩⟩⟩⟩⟩⟩⟩⟩⟩⟩⟩⟩⟩⟩), lm_wsX50⟩)⟩)
set_option maxRecDepth 20000 in
theorem lg_X5_cell : GoodIn lw_tbl wsX5_cell := goodIn_sub lm_wsX5_cell (by decide +kernel)
theorem lk_311 : (Cond.methodLink RL 35 yX5_cell) ∈ lw_tbl := List.mem_of_getElem? (i := 764) (by decide +kernel)
theorem lk_312 : (Cond.instanceMethod yX5_cell) ∈ lw_tbl := List.mem_of_getElem? (i := 765) (by decide +kernel)
theorem lk_313 : (Cond.selects RX5 yX5_cell yX5_cell) ∈ lw_tbl := List.mem_of_getElem? (i := 766) (by decide +kernel)
theorem lG_X5_cell : GoodIn lw_tbl (wsV RL 35 RX5 yX5_cell wsX5_cell) := goodIn_app (goodIn_sub (List.forall_mem_cons.mpr ⟨lk_311, List.forall_mem_cons.mpr ⟨lk_312, List.forall_mem_cons.mpr ⟨lk_313, List.forall_mem_cons.mpr ⟨lk_102, (fun _ h => absurd h List.not_mem_nil)⟩⟩⟩⟩) (by decide +kernel)) lg_X5_cell
theorem lk_314 : (Cond.code yX4_wind cX4_wind 2 (some .int)) ∈ lw_tbl := List.mem_of_getElem? (i := 399) (by decide +kernel)
theorem lk_315 : (Cond.fieldLink RX4 102 "WindPost$Moment" "time" "I") ∈ lw_tbl := List.mem_of_getElem? (i := 228) (by decide +kernel)
theorem lk_316 : (Cond.methodLink RX4 105 yX2_windOf) ∈ lw_tbl := List.mem_of_getElem? (i := 400) (by decide +kernel)
theorem lk_317 : (Cond.instanceMethod yX2_windOf) ∈ lw_tbl := List.mem_of_getElem? (i := 401) (by decide +kernel)
theorem lk_318 : (Cond.selects RX2 yX2_windOf yX2_windOf) ∈ lw_tbl := List.mem_of_getElem? (i := 402) (by decide +kernel)
theorem lk_319 : (Cond.code yX2_windOf cX2_windOf 2 (some .int)) ∈ lw_tbl := List.mem_of_getElem? (i := 403) (by decide +kernel)
theorem lk_320 : (Cond.methodLink RX2 43 yJ9_floorMod_7cf53) ∈ lw_tbl := List.mem_of_getElem? (i := 404) (by decide +kernel)
theorem lk_321 : (Cond.static yJ9_floorMod_7cf53) ∈ lw_tbl := List.mem_of_getElem? (i := 405) (by decide +kernel)
theorem lk_322 : (Cond.initialized RJ9) ∈ lw_tbl := List.mem_of_getElem? (i := 58) (by decide +kernel)
theorem lk_323 : (Cond.code yJ9_floorMod_7cf53 cJ9_floorMod_7cf53 3 (some .int)) ∈ lw_tbl := List.mem_of_getElem? (i := 406) (by decide +kernel)
set_option maxRecDepth 20000 in
theorem lm_wsX4_wind : ∀ w ∈ wsX4_wind, w ∈ lw_tbl := by
  unfold wsX4_wind
  exact (List.forall_mem_cons.mpr ⟨lk_314, (List.forall_mem_append.mpr ⟨(List.forall_mem_append.mpr ⟨(List.forall_mem_cons.mpr ⟨lk_16, List.forall_mem_cons.mpr ⟨lk_315, List.forall_mem_cons.mpr ⟨lk_105, List.forall_mem_cons.mpr ⟨lk_106, List.forall_mem_cons.mpr ⟨lk_85, List.forall_mem_cons.mpr ⟨lk_107, List.forall_mem_cons.mpr ⟨lk_316, List.forall_mem_cons.mpr ⟨lk_317, List.forall_mem_cons.mpr ⟨lk_318, List.forall_mem_cons.mpr ⟨lk_15, List.forall_mem_cons.mpr ⟨lk_319, List.forall_mem_cons.mpr ⟨lk_218, List.forall_mem_cons.mpr ⟨lk_77, List.forall_mem_cons.mpr ⟨lk_320, List.forall_mem_cons.mpr ⟨lk_321, List.forall_mem_cons.mpr ⟨lk_322, List.forall_mem_cons.mpr ⟨lk_323, (fun _ h => absurd h List.not_mem_nil)⟩⟩⟩⟩⟩⟩⟩⟩⟩⟩⟩⟩⟩⟩⟩⟩⟩), lm_wsX40⟩), lm_wsX20⟩)⟩)
set_option maxRecDepth 20000 in
theorem lg_X4_wind : GoodIn lw_tbl wsX4_wind := goodIn_sub lm_wsX4_wind (by decide +kernel)
theorem lk_324 : (Cond.methodLink RL 36 yX4_wind) ∈ lw_tbl := List.mem_of_getElem? (i := 396) (by decide +kernel)
theorem lk_325 : (Cond.instanceMethod yX4_wind) ∈ lw_tbl := List.mem_of_getElem? (i := 397) (by decide +kernel)
theorem lk_326 : (Cond.selects RX4 yX4_wind yX4_wind) ∈ lw_tbl := List.mem_of_getElem? (i := 398) (by decide +kernel)
theorem lG_X4_wind : GoodIn lw_tbl (wsV RL 36 RX4 yX4_wind wsX4_wind) := goodIn_app (goodIn_sub (List.forall_mem_cons.mpr ⟨lk_324, List.forall_mem_cons.mpr ⟨lk_325, List.forall_mem_cons.mpr ⟨lk_326, List.forall_mem_cons.mpr ⟨lk_85, (fun _ h => absurd h List.not_mem_nil)⟩⟩⟩⟩) (by decide +kernel)) lg_X4_wind
theorem lk_327 : (Cond.code yX5_wind cX5_wind 2 (some .int)) ∈ lw_tbl := List.mem_of_getElem? (i := 779) (by decide +kernel)
theorem lk_328 : (Cond.methodLink RX5 125 yX5_windOf) ∈ lw_tbl := List.mem_of_getElem? (i := 780) (by decide +kernel)
theorem lk_329 : (Cond.instanceMethod yX5_windOf) ∈ lw_tbl := List.mem_of_getElem? (i := 782) (by decide +kernel)
theorem lk_330 : (Cond.selects RX5 yX5_windOf yX5_windOf) ∈ lw_tbl := List.mem_of_getElem? (i := 42) (by decide +kernel)
theorem lk_331 : (Cond.code yX5_windOf cX5_windOf 3 (some .int)) ∈ lw_tbl := List.mem_of_getElem? (i := 783) (by decide +kernel)
set_option maxRecDepth 20000 in
theorem lm_wsX5_wind : ∀ w ∈ wsX5_wind, w ∈ lw_tbl := by
  unfold wsX5_wind
  exact (List.forall_mem_cons.mpr ⟨lk_327, (List.forall_mem_append.mpr ⟨(List.forall_mem_cons.mpr ⟨lk_117, List.forall_mem_cons.mpr ⟨lk_93, List.forall_mem_cons.mpr ⟨lk_119, List.forall_mem_cons.mpr ⟨lk_120, List.forall_mem_cons.mpr ⟨lk_102, List.forall_mem_cons.mpr ⟨lk_121, List.forall_mem_cons.mpr ⟨lk_328, List.forall_mem_cons.mpr ⟨lk_329, List.forall_mem_cons.mpr ⟨lk_330, List.forall_mem_cons.mpr ⟨lk_331, List.forall_mem_cons.mpr ⟨lk_89, (fun _ h => absurd h List.not_mem_nil)⟩⟩⟩⟩⟩⟩⟩⟩⟩⟩⟩), lm_wsX50⟩)⟩)
set_option maxRecDepth 20000 in
theorem lg_X5_wind : GoodIn lw_tbl wsX5_wind := goodIn_sub lm_wsX5_wind (by decide +kernel)
theorem lk_332 : (Cond.methodLink RL 39 yX5_wind) ∈ lw_tbl := List.mem_of_getElem? (i := 776) (by decide +kernel)
theorem lk_333 : (Cond.instanceMethod yX5_wind) ∈ lw_tbl := List.mem_of_getElem? (i := 777) (by decide +kernel)
theorem lk_334 : (Cond.selects RX5 yX5_wind yX5_wind) ∈ lw_tbl := List.mem_of_getElem? (i := 778) (by decide +kernel)
theorem lG_X5_wind : GoodIn lw_tbl (wsV RL 39 RX5 yX5_wind wsX5_wind) := goodIn_app (goodIn_sub (List.forall_mem_cons.mpr ⟨lk_332, List.forall_mem_cons.mpr ⟨lk_333, List.forall_mem_cons.mpr ⟨lk_334, List.forall_mem_cons.mpr ⟨lk_102, (fun _ h => absurd h List.not_mem_nil)⟩⟩⟩⟩) (by decide +kernel)) lg_X5_wind
theorem lk_335 : (Cond.code yX4_letter cX4_letter 4 (some .int)) ∈ lw_tbl := List.mem_of_getElem? (i := 410) (by decide +kernel)
theorem lk_336 : (Cond.fieldLink RX4 112 "WindPost$Moment" "post" "[LWindPost$Letter;") ∈ lw_tbl := List.mem_of_getElem? (i := 238) (by decide +kernel)
theorem lk_337 : (Cond.fieldLink RX4 116 "WindPost$Letter" "weight" "I") ∈ lw_tbl := List.mem_of_getElem? (i := 198) (by decide +kernel)
theorem lk_338 : (Cond.fieldLink RX4 119 "WindPost$Letter" "from" "I") ∈ lw_tbl := List.mem_of_getElem? (i := 200) (by decide +kernel)
theorem lk_339 : (Cond.fieldLink RX4 122 "WindPost$Letter" "to" "I") ∈ lw_tbl := List.mem_of_getElem? (i := 202) (by decide +kernel)
theorem lk_340 : (Cond.fieldLink RX4 125 "WindPost$Letter" "place" "I") ∈ lw_tbl := List.mem_of_getElem? (i := 204) (by decide +kernel)
theorem lk_341 : (Cond.fieldLink RX4 128 "WindPost$Letter" "marks" "I") ∈ lw_tbl := List.mem_of_getElem? (i := 206) (by decide +kernel)
theorem lk_342 : (Cond.fieldLink RX4 131 "WindPost$Letter" "how" "I") ∈ lw_tbl := List.mem_of_getElem? (i := 209) (by decide +kernel)
theorem lk_343 : (Cond.methodLink RX4 109 yX4_isLetter) ∈ lw_tbl := List.mem_of_getElem? (i := 411) (by decide +kernel)
theorem lk_344 : (Cond.instanceMethod yX4_isLetter) ∈ lw_tbl := List.mem_of_getElem? (i := 413) (by decide +kernel)
theorem lk_345 : (Cond.selects RX4 yX4_isLetter yX4_isLetter) ∈ lw_tbl := List.mem_of_getElem? (i := 12) (by decide +kernel)
theorem lk_346 : (Cond.code yX4_isLetter cX4_isLetter 2 (some .boolean)) ∈ lw_tbl := List.mem_of_getElem? (i := 414) (by decide +kernel)
theorem lk_347 : (Cond.fieldLink RX4 134 "WindPost$Moment" "letters" "I") ∈ lw_tbl := List.mem_of_getElem? (i := 230) (by decide +kernel)
set_option maxRecDepth 20000 in
theorem lm_wsX4_letter : ∀ w ∈ wsX4_letter, w ∈ lw_tbl := by
  unfold wsX4_letter
  exact (List.forall_mem_cons.mpr ⟨lk_335, (List.forall_mem_append.mpr ⟨(List.forall_mem_append.mpr ⟨(List.forall_mem_append.mpr ⟨(List.forall_mem_cons.mpr ⟨lk_16, List.forall_mem_cons.mpr ⟨lk_336, List.forall_mem_cons.mpr ⟨lk_337, List.forall_mem_cons.mpr ⟨lk_338, List.forall_mem_cons.mpr ⟨lk_339, List.forall_mem_cons.mpr ⟨lk_340, List.forall_mem_cons.mpr ⟨lk_341, List.forall_mem_cons.mpr ⟨lk_342, List.forall_mem_cons.mpr ⟨lk_343, List.forall_mem_cons.mpr ⟨lk_344, List.forall_mem_cons.mpr ⟨lk_345, List.forall_mem_cons.mpr ⟨lk_85, List.forall_mem_cons.mpr ⟨lk_346, List.forall_mem_cons.mpr ⟨lk_347, List.forall_mem_cons.mpr ⟨lk_105, List.forall_mem_cons.mpr ⟨lk_106, List.forall_mem_cons.mpr ⟨lk_107, (fun _ h => absurd h List.not_mem_nil)⟩⟩⟩⟩⟩⟩⟩⟩⟩⟩⟩⟩⟩⟩⟩⟩⟩), lm_wsX40⟩), lm_wsX20⟩), lm_wsX10⟩)⟩)
set_option maxRecDepth 20000 in
theorem lg_X4_letter : GoodIn lw_tbl wsX4_letter := goodIn_sub lm_wsX4_letter (by decide +kernel)
theorem lk_348 : (Cond.methodLink RL 40 yX4_letter) ∈ lw_tbl := List.mem_of_getElem? (i := 407) (by decide +kernel)
theorem lk_349 : (Cond.instanceMethod yX4_letter) ∈ lw_tbl := List.mem_of_getElem? (i := 408) (by decide +kernel)
theorem lk_350 : (Cond.selects RX4 yX4_letter yX4_letter) ∈ lw_tbl := List.mem_of_getElem? (i := 409) (by decide +kernel)
theorem lG_X4_letter : GoodIn lw_tbl (wsV RL 40 RX4 yX4_letter wsX4_letter) := goodIn_app (goodIn_sub (List.forall_mem_cons.mpr ⟨lk_348, List.forall_mem_cons.mpr ⟨lk_349, List.forall_mem_cons.mpr ⟨lk_350, List.forall_mem_cons.mpr ⟨lk_85, (fun _ h => absurd h List.not_mem_nil)⟩⟩⟩⟩) (by decide +kernel)) lg_X4_letter
theorem lk_351 : (Cond.code yX5_letter cX5_letter 3 (some .int)) ∈ lw_tbl := List.mem_of_getElem? (i := 787) (by decide +kernel)
theorem lk_352 : (Cond.methodLink RX5 128 yX5_isLetter) ∈ lw_tbl := List.mem_of_getElem? (i := 788) (by decide +kernel)
theorem lk_353 : (Cond.instanceMethod yX5_isLetter) ∈ lw_tbl := List.mem_of_getElem? (i := 790) (by decide +kernel)
theorem lk_354 : (Cond.selects RX5 yX5_isLetter yX5_isLetter) ∈ lw_tbl := List.mem_of_getElem? (i := 43) (by decide +kernel)
theorem lk_355 : (Cond.code yX5_isLetter cX5_isLetter 2 (some .boolean)) ∈ lw_tbl := List.mem_of_getElem? (i := 791) (by decide +kernel)
set_option maxRecDepth 20000 in
theorem lm_wsX5_letter : ∀ w ∈ wsX5_letter, w ∈ lw_tbl := by
  unfold wsX5_letter
  exact (List.forall_mem_cons.mpr ⟨lk_351, (List.forall_mem_append.mpr ⟨(List.forall_mem_cons.mpr ⟨lk_117, List.forall_mem_cons.mpr ⟨lk_93, List.forall_mem_cons.mpr ⟨lk_352, List.forall_mem_cons.mpr ⟨lk_353, List.forall_mem_cons.mpr ⟨lk_354, List.forall_mem_cons.mpr ⟨lk_102, List.forall_mem_cons.mpr ⟨lk_355, List.forall_mem_cons.mpr ⟨lk_119, List.forall_mem_cons.mpr ⟨lk_120, List.forall_mem_cons.mpr ⟨lk_121, (fun _ h => absurd h List.not_mem_nil)⟩⟩⟩⟩⟩⟩⟩⟩⟩⟩), lm_wsX50⟩)⟩)
set_option maxRecDepth 20000 in
theorem lg_X5_letter : GoodIn lw_tbl wsX5_letter := goodIn_sub lm_wsX5_letter (by decide +kernel)
theorem lk_356 : (Cond.methodLink RL 43 yX5_letter) ∈ lw_tbl := List.mem_of_getElem? (i := 784) (by decide +kernel)
theorem lk_357 : (Cond.instanceMethod yX5_letter) ∈ lw_tbl := List.mem_of_getElem? (i := 785) (by decide +kernel)
theorem lk_358 : (Cond.selects RX5 yX5_letter yX5_letter) ∈ lw_tbl := List.mem_of_getElem? (i := 786) (by decide +kernel)
theorem lG_X5_letter : GoodIn lw_tbl (wsV RL 43 RX5 yX5_letter wsX5_letter) := goodIn_app (goodIn_sub (List.forall_mem_cons.mpr ⟨lk_356, List.forall_mem_cons.mpr ⟨lk_357, List.forall_mem_cons.mpr ⟨lk_358, List.forall_mem_cons.mpr ⟨lk_102, (fun _ h => absurd h List.not_mem_nil)⟩⟩⟩⟩) (by decide +kernel)) lg_X5_letter
theorem lk_359 : (Cond.code yX4_now cX4_now 2 (some .int)) ∈ lw_tbl := List.mem_of_getElem? (i := 418) (by decide +kernel)
theorem lk_360 : (Cond.methodLink RX4 137 yX2_lettersUp) ∈ lw_tbl := List.mem_of_getElem? (i := 419) (by decide +kernel)
theorem lk_361 : (Cond.instanceMethod yX2_lettersUp) ∈ lw_tbl := List.mem_of_getElem? (i := 420) (by decide +kernel)
theorem lk_362 : (Cond.selects RX2 yX2_lettersUp yX2_lettersUp) ∈ lw_tbl := List.mem_of_getElem? (i := 421) (by decide +kernel)
theorem lk_363 : (Cond.code yX2_lettersUp cX2_lettersUp 3 (some .int)) ∈ lw_tbl := List.mem_of_getElem? (i := 422) (by decide +kernel)
theorem lk_364 : (Cond.fieldLink RX2 49 "WindPost$Letter" "how" "I") ∈ lw_tbl := List.mem_of_getElem? (i := 208) (by decide +kernel)
set_option maxRecDepth 20000 in
theorem lm_wsX4_now : ∀ w ∈ wsX4_now, w ∈ lw_tbl := by
  unfold wsX4_now
  exact (List.forall_mem_cons.mpr ⟨lk_359, (List.forall_mem_append.mpr ⟨(List.forall_mem_append.mpr ⟨(List.forall_mem_append.mpr ⟨(List.forall_mem_cons.mpr ⟨lk_16, List.forall_mem_cons.mpr ⟨lk_315, List.forall_mem_cons.mpr ⟨lk_347, List.forall_mem_cons.mpr ⟨lk_276, List.forall_mem_cons.mpr ⟨lk_134, List.forall_mem_cons.mpr ⟨lk_360, List.forall_mem_cons.mpr ⟨lk_361, List.forall_mem_cons.mpr ⟨lk_362, List.forall_mem_cons.mpr ⟨lk_15, List.forall_mem_cons.mpr ⟨lk_363, List.forall_mem_cons.mpr ⟨lk_215, List.forall_mem_cons.mpr ⟨lk_79, List.forall_mem_cons.mpr ⟨lk_364, (fun _ h => absurd h List.not_mem_nil)⟩⟩⟩⟩⟩⟩⟩⟩⟩⟩⟩⟩⟩), lm_wsX40⟩), lm_wsX20⟩), lm_wsX10⟩)⟩)
set_option maxRecDepth 20000 in
theorem lg_X4_now : GoodIn lw_tbl wsX4_now := goodIn_sub lm_wsX4_now (by decide +kernel)
theorem lk_365 : (Cond.methodLink RL 44 yX4_now) ∈ lw_tbl := List.mem_of_getElem? (i := 415) (by decide +kernel)
theorem lk_366 : (Cond.instanceMethod yX4_now) ∈ lw_tbl := List.mem_of_getElem? (i := 416) (by decide +kernel)
theorem lk_367 : (Cond.selects RX4 yX4_now yX4_now) ∈ lw_tbl := List.mem_of_getElem? (i := 417) (by decide +kernel)
theorem lG_X4_now : GoodIn lw_tbl (wsV RL 44 RX4 yX4_now wsX4_now) := goodIn_app (goodIn_sub (List.forall_mem_cons.mpr ⟨lk_365, List.forall_mem_cons.mpr ⟨lk_366, List.forall_mem_cons.mpr ⟨lk_367, List.forall_mem_cons.mpr ⟨lk_85, (fun _ h => absurd h List.not_mem_nil)⟩⟩⟩⟩) (by decide +kernel)) lg_X4_now
theorem lk_368 : (Cond.code yX5_now cX5_now 4 (some .int)) ∈ lw_tbl := List.mem_of_getElem? (i := 795) (by decide +kernel)
set_option maxRecDepth 20000 in
theorem lm_wsX5_now : ∀ w ∈ wsX5_now, w ∈ lw_tbl := by
  unfold wsX5_now
  exact (List.forall_mem_cons.mpr ⟨lk_368, (List.forall_mem_append.mpr ⟨(List.forall_mem_cons.mpr ⟨lk_117, List.forall_mem_cons.mpr ⟨lk_93, List.forall_mem_cons.mpr ⟨lk_270, List.forall_mem_cons.mpr ⟨lk_119, List.forall_mem_cons.mpr ⟨lk_120, List.forall_mem_cons.mpr ⟨lk_102, List.forall_mem_cons.mpr ⟨lk_121, (fun _ h => absurd h List.not_mem_nil)⟩⟩⟩⟩⟩⟩⟩), lm_wsX50⟩)⟩)
set_option maxRecDepth 20000 in
theorem lg_X5_now : GoodIn lw_tbl wsX5_now := goodIn_sub lm_wsX5_now (by decide +kernel)
theorem lk_369 : (Cond.methodLink RL 47 yX5_now) ∈ lw_tbl := List.mem_of_getElem? (i := 792) (by decide +kernel)
theorem lk_370 : (Cond.instanceMethod yX5_now) ∈ lw_tbl := List.mem_of_getElem? (i := 793) (by decide +kernel)
theorem lk_371 : (Cond.selects RX5 yX5_now yX5_now) ∈ lw_tbl := List.mem_of_getElem? (i := 794) (by decide +kernel)
theorem lG_X5_now : GoodIn lw_tbl (wsV RL 47 RX5 yX5_now wsX5_now) := goodIn_app (goodIn_sub (List.forall_mem_cons.mpr ⟨lk_369, List.forall_mem_cons.mpr ⟨lk_370, List.forall_mem_cons.mpr ⟨lk_371, List.forall_mem_cons.mpr ⟨lk_102, (fun _ h => absurd h List.not_mem_nil)⟩⟩⟩⟩) (by decide +kernel)) lg_X5_now
theorem lk_372 : (Cond.code yX4_lets cX4_lets 5 (some .int)) ∈ lw_tbl := List.mem_of_getElem? (i := 426) (by decide +kernel)
theorem lk_373 : (Cond.methodLink RX4 140 yX4_isWay) ∈ lw_tbl := List.mem_of_getElem? (i := 427) (by decide +kernel)
theorem lk_374 : (Cond.instanceMethod yX4_isWay) ∈ lw_tbl := List.mem_of_getElem? (i := 429) (by decide +kernel)
theorem lk_375 : (Cond.selects RX4 yX4_isWay yX4_isWay) ∈ lw_tbl := List.mem_of_getElem? (i := 13) (by decide +kernel)
theorem lk_376 : (Cond.code yX4_isWay cX4_isWay 3 (some .boolean)) ∈ lw_tbl := List.mem_of_getElem? (i := 430) (by decide +kernel)
theorem lk_377 : (Cond.methodLink RX4 144 yX4_isWeight) ∈ lw_tbl := List.mem_of_getElem? (i := 431) (by decide +kernel)
theorem lk_378 : (Cond.static yX4_isWeight) ∈ lw_tbl := List.mem_of_getElem? (i := 432) (by decide +kernel)
theorem lk_379 : (Cond.code yX4_isWeight cX4_isWeight 1 (some .boolean)) ∈ lw_tbl := List.mem_of_getElem? (i := 433) (by decide +kernel)
theorem lk_380 : (Cond.methodLink RX4 147 yX4_remember) ∈ lw_tbl := List.mem_of_getElem? (i := 434) (by decide +kernel)
theorem lk_381 : (Cond.instanceMethod yX4_remember) ∈ lw_tbl := List.mem_of_getElem? (i := 436) (by decide +kernel)
theorem lk_382 : (Cond.selects RX4 yX4_remember yX4_remember) ∈ lw_tbl := List.mem_of_getElem? (i := 14) (by decide +kernel)
theorem lk_383 : (Cond.code yX4_remember cX4_remember 1 none) ∈ lw_tbl := List.mem_of_getElem? (i := 437) (by decide +kernel)
set_option maxRecDepth 20000 in
theorem lm_wsX4_lets_r1 : ∀ w ∈ wsX4_lets_r1, w ∈ lw_tbl := by
  unfold wsX4_lets_r1
  exact (List.forall_mem_cons.mpr ⟨lk_16, List.forall_mem_cons.mpr ⟨lk_347, List.forall_mem_cons.mpr ⟨lk_336, List.forall_mem_cons.mpr ⟨lk_11, List.forall_mem_cons.mpr ⟨lk_373, List.forall_mem_cons.mpr ⟨lk_374, List.forall_mem_cons.mpr ⟨lk_375, List.forall_mem_cons.mpr ⟨lk_85, List.forall_mem_cons.mpr ⟨lk_376, List.forall_mem_cons.mpr ⟨lk_277, List.forall_mem_cons.mpr ⟨lk_278, List.forall_mem_cons.mpr ⟨lk_279, List.forall_mem_cons.mpr ⟨lk_280, List.forall_mem_cons.mpr ⟨lk_281, List.forall_mem_cons.mpr ⟨lk_105, List.forall_mem_cons.mpr ⟨lk_106, List.forall_mem_cons.mpr ⟨lk_107, List.forall_mem_cons.mpr ⟨lk_377, List.forall_mem_cons.mpr ⟨lk_378, List.forall_mem_cons.mpr ⟨lk_379, List.forall_mem_cons.mpr ⟨lk_380, List.forall_mem_cons.mpr ⟨lk_381, List.forall_mem_cons.mpr ⟨lk_382, List.forall_mem_cons.mpr ⟨lk_383, (fun _ h => absurd h List.not_mem_nil)⟩⟩⟩⟩⟩⟩⟩⟩⟩⟩⟩⟩⟩⟩⟩⟩⟩⟩⟩⟩⟩⟩⟩⟩)
theorem lk_384 : (Cond.fieldLink RX4 164 "WindPost" "pastNext" "I") ∈ lw_tbl := List.mem_of_getElem? (i := 260) (by decide +kernel)
theorem lk_385 : (Cond.methodLink RX4 254 Lib.Math.min.name) ∈ lw_tbl := List.mem_of_getElem? (i := 446) (by decide +kernel)
theorem lk_386 : (Cond.methodLink RX4 167 yX2_copyFrom) ∈ lw_tbl := List.mem_of_getElem? (i := 438) (by decide +kernel)
theorem lk_387 : (Cond.instanceMethod yX2_copyFrom) ∈ lw_tbl := List.mem_of_getElem? (i := 439) (by decide +kernel)
theorem lk_388 : (Cond.selects RX2 yX2_copyFrom yX2_copyFrom) ∈ lw_tbl := List.mem_of_getElem? (i := 440) (by decide +kernel)
theorem lk_389 : (Cond.code yX2_copyFrom cX2_copyFrom 3 none) ∈ lw_tbl := List.mem_of_getElem? (i := 441) (by decide +kernel)
theorem lk_390 : (Cond.methodLink RX2 39 yX1_copyFrom) ∈ lw_tbl := List.mem_of_getElem? (i := 442) (by decide +kernel)
theorem lk_391 : (Cond.instanceMethod yX1_copyFrom) ∈ lw_tbl := List.mem_of_getElem? (i := 443) (by decide +kernel)
theorem lk_392 : (Cond.selects RX1 yX1_copyFrom yX1_copyFrom) ∈ lw_tbl := List.mem_of_getElem? (i := 444) (by decide +kernel)
theorem lk_393 : (Cond.code yX1_copyFrom cX1_copyFrom 2 none) ∈ lw_tbl := List.mem_of_getElem? (i := 445) (by decide +kernel)
theorem lk_394 : (Cond.fieldLink RX1 9 "WindPost$Letter" "weight" "I") ∈ lw_tbl := List.mem_of_getElem? (i := 197) (by decide +kernel)
set_option maxRecDepth 20000 in
theorem lm_wsX4_lets_r2 : ∀ w ∈ wsX4_lets_r2, w ∈ lw_tbl := by
  unfold wsX4_lets_r2
  exact (List.forall_mem_cons.mpr ⟨lk_17, List.forall_mem_cons.mpr ⟨lk_384, List.forall_mem_cons.mpr ⟨lk_134, List.forall_mem_cons.mpr ⟨lk_385, List.forall_mem_cons.mpr ⟨lk_58, List.forall_mem_cons.mpr ⟨lk_59, List.forall_mem_cons.mpr ⟨lk_60, List.forall_mem_cons.mpr ⟨lk_386, List.forall_mem_cons.mpr ⟨lk_387, List.forall_mem_cons.mpr ⟨lk_388, List.forall_mem_cons.mpr ⟨lk_15, List.forall_mem_cons.mpr ⟨lk_389, List.forall_mem_cons.mpr ⟨lk_214, List.forall_mem_cons.mpr ⟨lk_215, List.forall_mem_cons.mpr ⟨lk_216, List.forall_mem_cons.mpr ⟨lk_218, List.forall_mem_cons.mpr ⟨lk_77, List.forall_mem_cons.mpr ⟨lk_79, List.forall_mem_cons.mpr ⟨lk_390, List.forall_mem_cons.mpr ⟨lk_391, List.forall_mem_cons.mpr ⟨lk_392, List.forall_mem_cons.mpr ⟨lk_23, List.forall_mem_cons.mpr ⟨lk_393, List.forall_mem_cons.mpr ⟨lk_394, (fun _ h => absurd h List.not_mem_nil)⟩⟩⟩⟩⟩⟩⟩⟩⟩⟩⟩⟩⟩⟩⟩⟩⟩⟩⟩⟩⟩⟩⟩⟩)
theorem lk_395 : (Cond.fieldLink RX1 15 "WindPost$Letter" "from" "I") ∈ lw_tbl := List.mem_of_getElem? (i := 199) (by decide +kernel)
theorem lk_396 : (Cond.fieldLink RX1 18 "WindPost$Letter" "to" "I") ∈ lw_tbl := List.mem_of_getElem? (i := 201) (by decide +kernel)
theorem lk_397 : (Cond.fieldLink RX1 27 "WindPost$Letter" "place" "I") ∈ lw_tbl := List.mem_of_getElem? (i := 203) (by decide +kernel)
theorem lk_398 : (Cond.fieldLink RX1 30 "WindPost$Letter" "marks" "I") ∈ lw_tbl := List.mem_of_getElem? (i := 205) (by decide +kernel)
theorem lk_399 : (Cond.fieldLink RX1 33 "WindPost$Letter" "how" "I") ∈ lw_tbl := List.mem_of_getElem? (i := 207) (by decide +kernel)
theorem lk_400 : (Cond.fieldLink RX1 39 "WindPost$Letter" "reach" "I") ∈ lw_tbl := List.mem_of_getElem? (i := 210) (by decide +kernel)
theorem lk_401 : (Cond.methodLink RX4 150 yX1_letUp) ∈ lw_tbl := List.mem_of_getElem? (i := 447) (by decide +kernel)
theorem lk_402 : (Cond.instanceMethod yX1_letUp) ∈ lw_tbl := List.mem_of_getElem? (i := 448) (by decide +kernel)
theorem lk_403 : (Cond.selects RX1 yX1_letUp yX1_letUp) ∈ lw_tbl := List.mem_of_getElem? (i := 449) (by decide +kernel)
theorem lk_404 : (Cond.code yX1_letUp cX1_letUp 5 none) ∈ lw_tbl := List.mem_of_getElem? (i := 450) (by decide +kernel)
theorem lk_405 : (Cond.fieldLink RX1 36 "WindPost$Chart" "force" "I") ∈ lw_tbl := List.mem_of_getElem? (i := 144) (by decide +kernel)
theorem lk_406 : (Cond.methodLink RX1 21 yX0_cellOfIsle) ∈ lw_tbl := List.mem_of_getElem? (i := 451) (by decide +kernel)
theorem lk_407 : (Cond.instanceMethod yX0_cellOfIsle) ∈ lw_tbl := List.mem_of_getElem? (i := 452) (by decide +kernel)
theorem lk_408 : (Cond.selects RX0 yX0_cellOfIsle yX0_cellOfIsle) ∈ lw_tbl := List.mem_of_getElem? (i := 453) (by decide +kernel)
theorem lk_409 : (Cond.code yX0_cellOfIsle cX0_cellOfIsle 2 (some .int)) ∈ lw_tbl := List.mem_of_getElem? (i := 454) (by decide +kernel)
set_option maxRecDepth 20000 in
theorem lm_wsX4_lets_r3 : ∀ w ∈ wsX4_lets_r3, w ∈ lw_tbl := by
  unfold wsX4_lets_r3
  exact (List.forall_mem_cons.mpr ⟨lk_395, List.forall_mem_cons.mpr ⟨lk_396, List.forall_mem_cons.mpr ⟨lk_397, List.forall_mem_cons.mpr ⟨lk_398, List.forall_mem_cons.mpr ⟨lk_399, List.forall_mem_cons.mpr ⟨lk_400, List.forall_mem_cons.mpr ⟨lk_401, List.forall_mem_cons.mpr ⟨lk_402, List.forall_mem_cons.mpr ⟨lk_403, List.forall_mem_cons.mpr ⟨lk_404, List.forall_mem_cons.mpr ⟨lk_405, List.forall_mem_cons.mpr ⟨lk_406, List.forall_mem_cons.mpr ⟨lk_407, List.forall_mem_cons.mpr ⟨lk_408, List.forall_mem_cons.mpr ⟨lk_10, List.forall_mem_cons.mpr ⟨lk_409, List.forall_mem_cons.mpr ⟨lk_35, (fun _ h => absurd h List.not_mem_nil)⟩⟩⟩⟩⟩⟩⟩⟩⟩⟩⟩⟩⟩⟩⟩⟩⟩)
set_option maxRecDepth 20000 in
theorem lm_wsX4_lets : ∀ w ∈ wsX4_lets, w ∈ lw_tbl := by
  unfold wsX4_lets
  exact (List.forall_mem_cons.mpr ⟨lk_372, (List.forall_mem_append.mpr ⟨(List.forall_mem_append.mpr ⟨(List.forall_mem_append.mpr ⟨(List.forall_mem_append.mpr ⟨(List.forall_mem_append.mpr ⟨lm_wsX4_lets_r1, (List.forall_mem_append.mpr ⟨lm_wsX4_lets_r2, lm_wsX4_lets_r3⟩)⟩), lm_wsX40⟩), lm_wsX20⟩), lm_wsX00⟩), lm_wsX10⟩)⟩)
set_option maxRecDepth 20000 in
theorem lg_X4_lets : GoodIn lw_tbl wsX4_lets := goodIn_sub lm_wsX4_lets (by decide +kernel)
theorem lk_410 : (Cond.methodLink RL 48 yX4_lets) ∈ lw_tbl := List.mem_of_getElem? (i := 423) (by decide +kernel)
theorem lk_411 : (Cond.instanceMethod yX4_lets) ∈ lw_tbl := List.mem_of_getElem? (i := 424) (by decide +kernel)
theorem lk_412 : (Cond.selects RX4 yX4_lets yX4_lets) ∈ lw_tbl := List.mem_of_getElem? (i := 425) (by decide +kernel)
theorem lG_X4_lets : GoodIn lw_tbl (wsV RL 48 RX4 yX4_lets wsX4_lets) := goodIn_app (goodIn_sub (List.forall_mem_cons.mpr ⟨lk_410, List.forall_mem_cons.mpr ⟨lk_411, List.forall_mem_cons.mpr ⟨lk_412, List.forall_mem_cons.mpr ⟨lk_85, (fun _ h => absurd h List.not_mem_nil)⟩⟩⟩⟩) (by decide +kernel)) lg_X4_lets
theorem lk_413 : (Cond.code yX5_lets cX5_lets 4 (some .int)) ∈ lw_tbl := List.mem_of_getElem? (i := 799) (by decide +kernel)
theorem lk_414 : (Cond.methodLink RX5 131 yX5_areTwo) ∈ lw_tbl := List.mem_of_getElem? (i := 800) (by decide +kernel)
theorem lk_415 : (Cond.instanceMethod yX5_areTwo) ∈ lw_tbl := List.mem_of_getElem? (i := 802) (by decide +kernel)
theorem lk_416 : (Cond.selects RX5 yX5_areTwo yX5_areTwo) ∈ lw_tbl := List.mem_of_getElem? (i := 44) (by decide +kernel)
theorem lk_417 : (Cond.code yX5_areTwo cX5_areTwo 3 (some .boolean)) ∈ lw_tbl := List.mem_of_getElem? (i := 803) (by decide +kernel)
theorem lk_418 : (Cond.methodLink RX5 135 yX5_notes) ∈ lw_tbl := List.mem_of_getElem? (i := 804) (by decide +kernel)
theorem lk_419 : (Cond.instanceMethod yX5_notes) ∈ lw_tbl := List.mem_of_getElem? (i := 806) (by decide +kernel)
theorem lk_420 : (Cond.selects RX5 yX5_notes yX5_notes) ∈ lw_tbl := List.mem_of_getElem? (i := 45) (by decide +kernel)
theorem lk_421 : (Cond.code yX5_notes cX5_notes 2 none) ∈ lw_tbl := List.mem_of_getElem? (i := 807) (by decide +kernel)
theorem lk_422 : (Cond.methodLink RX5 138 yX5_puts) ∈ lw_tbl := List.mem_of_getElem? (i := 808) (by decide +kernel)
theorem lk_423 : (Cond.instanceMethod yX5_puts) ∈ lw_tbl := List.mem_of_getElem? (i := 810) (by decide +kernel)
theorem lk_424 : (Cond.selects RX5 yX5_puts yX5_puts) ∈ lw_tbl := List.mem_of_getElem? (i := 46) (by decide +kernel)
set_option maxRecDepth 20000 in
theorem lm_wsX5_lets_r1 : ∀ w ∈ wsX5_lets_r1, w ∈ lw_tbl := by
  unfold wsX5_lets_r1
  exact (List.forall_mem_cons.mpr ⟨lk_117, List.forall_mem_cons.mpr ⟨lk_93, List.forall_mem_cons.mpr ⟨lk_414, List.forall_mem_cons.mpr ⟨lk_415, List.forall_mem_cons.mpr ⟨lk_416, List.forall_mem_cons.mpr ⟨lk_102, List.forall_mem_cons.mpr ⟨lk_417, List.forall_mem_cons.mpr ⟨lk_289, List.forall_mem_cons.mpr ⟨lk_290, List.forall_mem_cons.mpr ⟨lk_291, List.forall_mem_cons.mpr ⟨lk_292, List.forall_mem_cons.mpr ⟨lk_89, List.forall_mem_cons.mpr ⟨lk_119, List.forall_mem_cons.mpr ⟨lk_120, List.forall_mem_cons.mpr ⟨lk_121, List.forall_mem_cons.mpr ⟨lk_418, List.forall_mem_cons.mpr ⟨lk_419, List.forall_mem_cons.mpr ⟨lk_420, List.forall_mem_cons.mpr ⟨lk_421, List.forall_mem_cons.mpr ⟨lk_270, List.forall_mem_cons.mpr ⟨lk_96, List.forall_mem_cons.mpr ⟨lk_422, List.forall_mem_cons.mpr ⟨lk_423, List.forall_mem_cons.mpr ⟨lk_424, (fun _ h => absurd h List.not_mem_nil)⟩⟩⟩⟩⟩⟩⟩⟩⟩⟩⟩⟩⟩⟩⟩⟩⟩⟩⟩⟩⟩⟩⟩⟩)
theorem lk_425 : (Cond.code yX5_puts cX5_puts 6 none) ∈ lw_tbl := List.mem_of_getElem? (i := 811) (by decide +kernel)
set_option maxRecDepth 20000 in
theorem lm_wsX5_lets_r2 : ∀ w ∈ wsX5_lets_r2, w ∈ lw_tbl := by
  unfold wsX5_lets_r2
  exact (List.forall_mem_cons.mpr ⟨lk_425, List.forall_mem_cons.mpr ⟨lk_90, (fun _ h => absurd h List.not_mem_nil)⟩⟩)
set_option maxRecDepth 20000 in
theorem lm_wsX5_lets : ∀ w ∈ wsX5_lets, w ∈ lw_tbl := by
  unfold wsX5_lets
  exact (List.forall_mem_cons.mpr ⟨lk_413, (List.forall_mem_append.mpr ⟨(List.forall_mem_append.mpr ⟨lm_wsX5_lets_r1, lm_wsX5_lets_r2⟩), lm_wsX50⟩)⟩)
set_option maxRecDepth 20000 in
theorem lg_X5_lets : GoodIn lw_tbl wsX5_lets := goodIn_sub lm_wsX5_lets (by decide +kernel)
theorem lk_426 : (Cond.methodLink RL 52 yX5_lets) ∈ lw_tbl := List.mem_of_getElem? (i := 796) (by decide +kernel)
theorem lk_427 : (Cond.instanceMethod yX5_lets) ∈ lw_tbl := List.mem_of_getElem? (i := 797) (by decide +kernel)
theorem lk_428 : (Cond.selects RX5 yX5_lets yX5_lets) ∈ lw_tbl := List.mem_of_getElem? (i := 798) (by decide +kernel)
theorem lG_X5_lets : GoodIn lw_tbl (wsV RL 52 RX5 yX5_lets wsX5_lets) := goodIn_app (goodIn_sub (List.forall_mem_cons.mpr ⟨lk_426, List.forall_mem_cons.mpr ⟨lk_427, List.forall_mem_cons.mpr ⟨lk_428, List.forall_mem_cons.mpr ⟨lk_102, (fun _ h => absurd h List.not_mem_nil)⟩⟩⟩⟩) (by decide +kernel)) lg_X5_lets
theorem lk_429 : (Cond.code yX4_hour cX4_hour 6 (some .int)) ∈ lw_tbl := List.mem_of_getElem? (i := 458) (by decide +kernel)
set_option maxRecDepth 20000 in
theorem lm_wsX4_hour_r1 : ∀ w ∈ wsX4_hour_r1, w ∈ lw_tbl := by
  unfold wsX4_hour_r1
  exact (List.forall_mem_cons.mpr ⟨lk_16, List.forall_mem_cons.mpr ⟨lk_315, List.forall_mem_cons.mpr ⟨lk_347, List.forall_mem_cons.mpr ⟨lk_336, List.forall_mem_cons.mpr ⟨lk_342, List.forall_mem_cons.mpr ⟨lk_11, List.forall_mem_cons.mpr ⟨lk_276, List.forall_mem_cons.mpr ⟨lk_380, List.forall_mem_cons.mpr ⟨lk_381, List.forall_mem_cons.mpr ⟨lk_382, List.forall_mem_cons.mpr ⟨lk_85, List.forall_mem_cons.mpr ⟨lk_383, List.forall_mem_cons.mpr ⟨lk_17, List.forall_mem_cons.mpr ⟨lk_384, List.forall_mem_cons.mpr ⟨lk_134, List.forall_mem_cons.mpr ⟨lk_385, List.forall_mem_cons.mpr ⟨lk_58, List.forall_mem_cons.mpr ⟨lk_59, List.forall_mem_cons.mpr ⟨lk_60, List.forall_mem_cons.mpr ⟨lk_386, List.forall_mem_cons.mpr ⟨lk_387, List.forall_mem_cons.mpr ⟨lk_388, List.forall_mem_cons.mpr ⟨lk_15, List.forall_mem_cons.mpr ⟨lk_389, (fun _ h => absurd h List.not_mem_nil)⟩⟩⟩⟩⟩⟩⟩⟩⟩⟩⟩⟩⟩⟩⟩⟩⟩⟩⟩⟩⟩⟩⟩⟩)
set_option maxRecDepth 20000 in
theorem lm_wsX4_hour_r2 : ∀ w ∈ wsX4_hour_r2, w ∈ lw_tbl := by
  unfold wsX4_hour_r2
  exact (List.forall_mem_cons.mpr ⟨lk_214, List.forall_mem_cons.mpr ⟨lk_215, List.forall_mem_cons.mpr ⟨lk_216, List.forall_mem_cons.mpr ⟨lk_218, List.forall_mem_cons.mpr ⟨lk_77, List.forall_mem_cons.mpr ⟨lk_79, List.forall_mem_cons.mpr ⟨lk_390, List.forall_mem_cons.mpr ⟨lk_391, List.forall_mem_cons.mpr ⟨lk_392, List.forall_mem_cons.mpr ⟨lk_23, List.forall_mem_cons.mpr ⟨lk_393, List.forall_mem_cons.mpr ⟨lk_394, List.forall_mem_cons.mpr ⟨lk_395, List.forall_mem_cons.mpr ⟨lk_396, List.forall_mem_cons.mpr ⟨lk_397, List.forall_mem_cons.mpr ⟨lk_398, List.forall_mem_cons.mpr ⟨lk_399, List.forall_mem_cons.mpr ⟨lk_400, List.forall_mem_cons.mpr ⟨lk_316, List.forall_mem_cons.mpr ⟨lk_317, List.forall_mem_cons.mpr ⟨lk_318, List.forall_mem_cons.mpr ⟨lk_319, List.forall_mem_cons.mpr ⟨lk_320, List.forall_mem_cons.mpr ⟨lk_321, (fun _ h => absurd h List.not_mem_nil)⟩⟩⟩⟩⟩⟩⟩⟩⟩⟩⟩⟩⟩⟩⟩⟩⟩⟩⟩⟩⟩⟩⟩⟩)
theorem lk_430 : (Cond.methodLink RX4 154 yX1_passHour) ∈ lw_tbl := List.mem_of_getElem? (i := 459) (by decide +kernel)
theorem lk_431 : (Cond.instanceMethod yX1_passHour) ∈ lw_tbl := List.mem_of_getElem? (i := 460) (by decide +kernel)
theorem lk_432 : (Cond.selects RX1 yX1_passHour yX1_passHour) ∈ lw_tbl := List.mem_of_getElem? (i := 461) (by decide +kernel)
theorem lk_433 : (Cond.code yX1_passHour cX1_passHour 6 none) ∈ lw_tbl := List.mem_of_getElem? (i := 462) (by decide +kernel)
theorem lk_434 : (Cond.methodLink RX1 42 yX0_endOf) ∈ lw_tbl := List.mem_of_getElem? (i := 463) (by decide +kernel)
theorem lk_435 : (Cond.instanceMethod yX0_endOf) ∈ lw_tbl := List.mem_of_getElem? (i := 464) (by decide +kernel)
theorem lk_436 : (Cond.selects RX0 yX0_endOf yX0_endOf) ∈ lw_tbl := List.mem_of_getElem? (i := 465) (by decide +kernel)
theorem lk_437 : (Cond.code yX0_endOf cX0_endOf 4 (some .int)) ∈ lw_tbl := List.mem_of_getElem? (i := 466) (by decide +kernel)
theorem lk_438 : (Cond.methodLink RX1 46 yX0_onCell) ∈ lw_tbl := List.mem_of_getElem? (i := 467) (by decide +kernel)
set_option maxRecDepth 20000 in
theorem lm_wsX4_hour_r3 : ∀ w ∈ wsX4_hour_r3, w ∈ lw_tbl := by
  unfold wsX4_hour_r3
  exact (List.forall_mem_cons.mpr ⟨lk_322, List.forall_mem_cons.mpr ⟨lk_323, List.forall_mem_cons.mpr ⟨lk_430, List.forall_mem_cons.mpr ⟨lk_431, List.forall_mem_cons.mpr ⟨lk_432, List.forall_mem_cons.mpr ⟨lk_433, List.forall_mem_cons.mpr ⟨lk_434, List.forall_mem_cons.mpr ⟨lk_435, List.forall_mem_cons.mpr ⟨lk_436, List.forall_mem_cons.mpr ⟨lk_10, List.forall_mem_cons.mpr ⟨lk_437, List.forall_mem_cons.mpr ⟨lk_38, List.forall_mem_cons.mpr ⟨lk_438, List.forall_mem_cons.mpr ⟨lk_70, List.forall_mem_cons.mpr ⟨lk_71, List.forall_mem_cons.mpr ⟨lk_72, List.forall_mem_cons.mpr ⟨lk_36, List.forall_mem_cons.mpr ⟨lk_283, List.forall_mem_cons.mpr ⟨lk_284, (fun _ h => absurd h List.not_mem_nil)⟩⟩⟩⟩⟩⟩⟩⟩⟩⟩⟩⟩⟩⟩⟩⟩⟩⟩⟩)
set_option maxRecDepth 20000 in
theorem lm_wsX4_hour : ∀ w ∈ wsX4_hour, w ∈ lw_tbl := by
  unfold wsX4_hour
  exact (List.forall_mem_cons.mpr ⟨lk_429, (List.forall_mem_append.mpr ⟨(List.forall_mem_append.mpr ⟨(List.forall_mem_append.mpr ⟨(List.forall_mem_append.mpr ⟨(List.forall_mem_append.mpr ⟨lm_wsX4_hour_r1, (List.forall_mem_append.mpr ⟨lm_wsX4_hour_r2, lm_wsX4_hour_r3⟩)⟩), lm_wsX40⟩), lm_wsX20⟩), lm_wsX10⟩), lm_wsX00⟩)⟩)
set_option maxRecDepth 20000 in
theorem lg_X4_hour : GoodIn lw_tbl wsX4_hour := goodIn_sub lm_wsX4_hour (by decide +kernel)
theorem lk_439 : (Cond.methodLink RL 53 yX4_hour) ∈ lw_tbl := List.mem_of_getElem? (i := 455) (by decide +kernel)
theorem lk_440 : (Cond.instanceMethod yX4_hour) ∈ lw_tbl := List.mem_of_getElem? (i := 456) (by decide +kernel)
theorem lk_441 : (Cond.selects RX4 yX4_hour yX4_hour) ∈ lw_tbl := List.mem_of_getElem? (i := 457) (by decide +kernel)
theorem lG_X4_hour : GoodIn lw_tbl (wsV RL 53 RX4 yX4_hour wsX4_hour) := goodIn_app (goodIn_sub (List.forall_mem_cons.mpr ⟨lk_439, List.forall_mem_cons.mpr ⟨lk_440, List.forall_mem_cons.mpr ⟨lk_441, List.forall_mem_cons.mpr ⟨lk_85, (fun _ h => absurd h List.not_mem_nil)⟩⟩⟩⟩) (by decide +kernel)) lg_X4_hour
theorem lk_442 : (Cond.code yX5_hour cX5_hour 6 (some .int)) ∈ lw_tbl := List.mem_of_getElem? (i := 815) (by decide +kernel)
theorem lk_443 : (Cond.methodLink RX5 145 yX5_blows) ∈ lw_tbl := List.mem_of_getElem? (i := 816) (by decide +kernel)
theorem lk_444 : (Cond.instanceMethod yX5_blows) ∈ lw_tbl := List.mem_of_getElem? (i := 818) (by decide +kernel)
theorem lk_445 : (Cond.selects RX5 yX5_blows yX5_blows) ∈ lw_tbl := List.mem_of_getElem? (i := 47) (by decide +kernel)
theorem lk_446 : (Cond.code yX5_blows cX5_blows 10 none) ∈ lw_tbl := List.mem_of_getElem? (i := 819) (by decide +kernel)
theorem lk_447 : (Cond.methodLink RX5 142 yX5_beside) ∈ lw_tbl := List.mem_of_getElem? (i := 820) (by decide +kernel)
theorem lk_448 : (Cond.instanceMethod yX5_beside) ∈ lw_tbl := List.mem_of_getElem? (i := 822) (by decide +kernel)
theorem lk_449 : (Cond.selects RX5 yX5_beside yX5_beside) ∈ lw_tbl := List.mem_of_getElem? (i := 48) (by decide +kernel)
theorem lk_450 : (Cond.code yX5_beside cX5_beside 5 (some .int)) ∈ lw_tbl := List.mem_of_getElem? (i := 823) (by decide +kernel)
set_option maxRecDepth 20000 in
theorem lm_wsX5_hour_r1 : ∀ w ∈ wsX5_hour_r1, w ∈ lw_tbl := by
  unfold wsX5_hour_r1
  exact (List.forall_mem_cons.mpr ⟨lk_117, List.forall_mem_cons.mpr ⟨lk_93, List.forall_mem_cons.mpr ⟨lk_418, List.forall_mem_cons.mpr ⟨lk_419, List.forall_mem_cons.mpr ⟨lk_420, List.forall_mem_cons.mpr ⟨lk_102, List.forall_mem_cons.mpr ⟨lk_421, List.forall_mem_cons.mpr ⟨lk_270, List.forall_mem_cons.mpr ⟨lk_96, List.forall_mem_cons.mpr ⟨lk_328, List.forall_mem_cons.mpr ⟨lk_329, List.forall_mem_cons.mpr ⟨lk_330, List.forall_mem_cons.mpr ⟨lk_331, List.forall_mem_cons.mpr ⟨lk_89, List.forall_mem_cons.mpr ⟨lk_443, List.forall_mem_cons.mpr ⟨lk_444, List.forall_mem_cons.mpr ⟨lk_445, List.forall_mem_cons.mpr ⟨lk_446, List.forall_mem_cons.mpr ⟨lk_447, List.forall_mem_cons.mpr ⟨lk_448, List.forall_mem_cons.mpr ⟨lk_449, List.forall_mem_cons.mpr ⟨lk_450, List.forall_mem_cons.mpr ⟨lk_303, List.forall_mem_cons.mpr ⟨lk_304, (fun _ h => absurd h List.not_mem_nil)⟩⟩⟩⟩⟩⟩⟩⟩⟩⟩⟩⟩⟩⟩⟩⟩⟩⟩⟩⟩⟩⟩⟩⟩)
set_option maxRecDepth 20000 in
theorem lm_wsX5_hour_r2 : ∀ w ∈ wsX5_hour_r2, w ∈ lw_tbl := by
  unfold wsX5_hour_r2
  exact (List.forall_mem_cons.mpr ⟨lk_305, List.forall_mem_cons.mpr ⟨lk_306, List.forall_mem_cons.mpr ⟨lk_91, List.forall_mem_cons.mpr ⟨lk_307, List.forall_mem_cons.mpr ⟨lk_308, List.forall_mem_cons.mpr ⟨lk_309, List.forall_mem_cons.mpr ⟨lk_310, List.forall_mem_cons.mpr ⟨lk_90, (fun _ h => absurd h List.not_mem_nil)⟩⟩⟩⟩⟩⟩⟩⟩)
set_option maxRecDepth 20000 in
theorem lm_wsX5_hour : ∀ w ∈ wsX5_hour, w ∈ lw_tbl := by
  unfold wsX5_hour
  exact (List.forall_mem_cons.mpr ⟨lk_442, (List.forall_mem_append.mpr ⟨(List.forall_mem_append.mpr ⟨lm_wsX5_hour_r1, lm_wsX5_hour_r2⟩), lm_wsX50⟩)⟩)
set_option maxRecDepth 20000 in
theorem lg_X5_hour : GoodIn lw_tbl wsX5_hour := goodIn_sub lm_wsX5_hour (by decide +kernel)
theorem lk_451 : (Cond.methodLink RL 56 yX5_hour) ∈ lw_tbl := List.mem_of_getElem? (i := 812) (by decide +kernel)
theorem lk_452 : (Cond.instanceMethod yX5_hour) ∈ lw_tbl := List.mem_of_getElem? (i := 813) (by decide +kernel)
theorem lk_453 : (Cond.selects RX5 yX5_hour yX5_hour) ∈ lw_tbl := List.mem_of_getElem? (i := 814) (by decide +kernel)
theorem lG_X5_hour : GoodIn lw_tbl (wsV RL 56 RX5 yX5_hour wsX5_hour) := goodIn_app (goodIn_sub (List.forall_mem_cons.mpr ⟨lk_451, List.forall_mem_cons.mpr ⟨lk_452, List.forall_mem_cons.mpr ⟨lk_453, List.forall_mem_cons.mpr ⟨lk_102, (fun _ h => absurd h List.not_mem_nil)⟩⟩⟩⟩) (by decide +kernel)) lg_X5_hour
theorem lk_454 : (Cond.code yX4_net cX4_net 4 (some .int)) ∈ lw_tbl := List.mem_of_getElem? (i := 472) (by decide +kernel)
set_option maxRecDepth 20000 in
theorem lm_wsX4_net_r1 : ∀ w ∈ wsX4_net_r1, w ∈ lw_tbl := by
  unfold wsX4_net_r1
  exact (List.forall_mem_cons.mpr ⟨lk_16, List.forall_mem_cons.mpr ⟨lk_276, List.forall_mem_cons.mpr ⟨lk_277, List.forall_mem_cons.mpr ⟨lk_278, List.forall_mem_cons.mpr ⟨lk_279, List.forall_mem_cons.mpr ⟨lk_85, List.forall_mem_cons.mpr ⟨lk_280, List.forall_mem_cons.mpr ⟨lk_11, List.forall_mem_cons.mpr ⟨lk_281, List.forall_mem_cons.mpr ⟨lk_105, List.forall_mem_cons.mpr ⟨lk_106, List.forall_mem_cons.mpr ⟨lk_107, List.forall_mem_cons.mpr ⟨lk_380, List.forall_mem_cons.mpr ⟨lk_381, List.forall_mem_cons.mpr ⟨lk_382, List.forall_mem_cons.mpr ⟨lk_383, List.forall_mem_cons.mpr ⟨lk_17, List.forall_mem_cons.mpr ⟨lk_384, List.forall_mem_cons.mpr ⟨lk_134, List.forall_mem_cons.mpr ⟨lk_385, List.forall_mem_cons.mpr ⟨lk_58, List.forall_mem_cons.mpr ⟨lk_59, List.forall_mem_cons.mpr ⟨lk_60, List.forall_mem_cons.mpr ⟨lk_386, (fun _ h => absurd h List.not_mem_nil)⟩⟩⟩⟩⟩⟩⟩⟩⟩⟩⟩⟩⟩⟩⟩⟩⟩⟩⟩⟩⟩⟩⟩⟩)
set_option maxRecDepth 20000 in
theorem lm_wsX4_net_r2 : ∀ w ∈ wsX4_net_r2, w ∈ lw_tbl := by
  unfold wsX4_net_r2
  exact (List.forall_mem_cons.mpr ⟨lk_387, List.forall_mem_cons.mpr ⟨lk_388, List.forall_mem_cons.mpr ⟨lk_15, List.forall_mem_cons.mpr ⟨lk_389, List.forall_mem_cons.mpr ⟨lk_214, List.forall_mem_cons.mpr ⟨lk_215, List.forall_mem_cons.mpr ⟨lk_216, List.forall_mem_cons.mpr ⟨lk_218, List.forall_mem_cons.mpr ⟨lk_77, List.forall_mem_cons.mpr ⟨lk_79, List.forall_mem_cons.mpr ⟨lk_390, List.forall_mem_cons.mpr ⟨lk_391, List.forall_mem_cons.mpr ⟨lk_392, List.forall_mem_cons.mpr ⟨lk_23, List.forall_mem_cons.mpr ⟨lk_393, List.forall_mem_cons.mpr ⟨lk_394, List.forall_mem_cons.mpr ⟨lk_395, List.forall_mem_cons.mpr ⟨lk_396, List.forall_mem_cons.mpr ⟨lk_397, List.forall_mem_cons.mpr ⟨lk_398, List.forall_mem_cons.mpr ⟨lk_399, List.forall_mem_cons.mpr ⟨lk_400, List.forall_mem_cons.mpr ⟨lk_282, List.forall_mem_cons.mpr ⟨lk_283, (fun _ h => absurd h List.not_mem_nil)⟩⟩⟩⟩⟩⟩⟩⟩⟩⟩⟩⟩⟩⟩⟩⟩⟩⟩⟩⟩⟩⟩⟩⟩)
set_option maxRecDepth 20000 in
theorem lm_wsX4_net_r3 : ∀ w ∈ wsX4_net_r3, w ∈ lw_tbl := by
  unfold wsX4_net_r3
  exact (List.forall_mem_cons.mpr ⟨lk_284, (fun _ h => absurd h List.not_mem_nil)⟩)
set_option maxRecDepth 20000 in
theorem lm_wsX4_net : ∀ w ∈ wsX4_net, w ∈ lw_tbl := by
  unfold wsX4_net
  exact (List.forall_mem_cons.mpr ⟨lk_454, (List.forall_mem_append.mpr ⟨(List.forall_mem_append.mpr ⟨(List.forall_mem_append.mpr ⟨(List.forall_mem_append.mpr ⟨(List.forall_mem_append.mpr ⟨lm_wsX4_net_r1, (List.forall_mem_append.mpr ⟨lm_wsX4_net_r2, lm_wsX4_net_r3⟩)⟩), lm_wsX40⟩), lm_wsX20⟩), lm_wsX00⟩), lm_wsX10⟩)⟩)
set_option maxRecDepth 20000 in
theorem lg_X4_net : GoodIn lw_tbl wsX4_net := goodIn_sub lm_wsX4_net (by decide +kernel)
theorem lk_455 : (Cond.methodLink RL 57 yX4_net) ∈ lw_tbl := List.mem_of_getElem? (i := 469) (by decide +kernel)
theorem lk_456 : (Cond.instanceMethod yX4_net) ∈ lw_tbl := List.mem_of_getElem? (i := 470) (by decide +kernel)
theorem lk_457 : (Cond.selects RX4 yX4_net yX4_net) ∈ lw_tbl := List.mem_of_getElem? (i := 471) (by decide +kernel)
theorem lG_X4_net : GoodIn lw_tbl (wsV RL 57 RX4 yX4_net wsX4_net) := goodIn_app (goodIn_sub (List.forall_mem_cons.mpr ⟨lk_455, List.forall_mem_cons.mpr ⟨lk_456, List.forall_mem_cons.mpr ⟨lk_457, List.forall_mem_cons.mpr ⟨lk_85, (fun _ h => absurd h List.not_mem_nil)⟩⟩⟩⟩) (by decide +kernel)) lg_X4_net
theorem lk_458 : (Cond.code yX5_net cX5_net 4 (some .int)) ∈ lw_tbl := List.mem_of_getElem? (i := 827) (by decide +kernel)
set_option maxRecDepth 20000 in
theorem lm_wsX5_net : ∀ w ∈ wsX5_net, w ∈ lw_tbl := by
  unfold wsX5_net
  exact (List.forall_mem_cons.mpr ⟨lk_458, (List.forall_mem_append.mpr ⟨(List.forall_mem_cons.mpr ⟨lk_117, List.forall_mem_cons.mpr ⟨lk_93, List.forall_mem_cons.mpr ⟨lk_289, List.forall_mem_cons.mpr ⟨lk_290, List.forall_mem_cons.mpr ⟨lk_291, List.forall_mem_cons.mpr ⟨lk_102, List.forall_mem_cons.mpr ⟨lk_292, List.forall_mem_cons.mpr ⟨lk_89, List.forall_mem_cons.mpr ⟨lk_119, List.forall_mem_cons.mpr ⟨lk_120, List.forall_mem_cons.mpr ⟨lk_121, List.forall_mem_cons.mpr ⟨lk_418, List.forall_mem_cons.mpr ⟨lk_419, List.forall_mem_cons.mpr ⟨lk_420, List.forall_mem_cons.mpr ⟨lk_421, List.forall_mem_cons.mpr ⟨lk_270, List.forall_mem_cons.mpr ⟨lk_96, (fun _ h => absurd h List.not_mem_nil)⟩⟩⟩⟩⟩⟩⟩⟩⟩⟩⟩⟩⟩⟩⟩⟩⟩), lm_wsX50⟩)⟩)
set_option maxRecDepth 20000 in
theorem lg_X5_net : GoodIn lw_tbl wsX5_net := goodIn_sub lm_wsX5_net (by decide +kernel)
theorem lk_459 : (Cond.methodLink RL 60 yX5_net) ∈ lw_tbl := List.mem_of_getElem? (i := 824) (by decide +kernel)
theorem lk_460 : (Cond.instanceMethod yX5_net) ∈ lw_tbl := List.mem_of_getElem? (i := 825) (by decide +kernel)
theorem lk_461 : (Cond.selects RX5 yX5_net yX5_net) ∈ lw_tbl := List.mem_of_getElem? (i := 826) (by decide +kernel)
theorem lG_X5_net : GoodIn lw_tbl (wsV RL 60 RX5 yX5_net wsX5_net) := goodIn_app (goodIn_sub (List.forall_mem_cons.mpr ⟨lk_459, List.forall_mem_cons.mpr ⟨lk_460, List.forall_mem_cons.mpr ⟨lk_461, List.forall_mem_cons.mpr ⟨lk_102, (fun _ h => absurd h List.not_mem_nil)⟩⟩⟩⟩) (by decide +kernel)) lg_X5_net
theorem lk_462 : (Cond.code yX4_turn cX4_turn 4 (some .int)) ∈ lw_tbl := List.mem_of_getElem? (i := 476) (by decide +kernel)
theorem lk_463 : (Cond.fieldLink RX4 158 "WindPost$Moment" "told" "I") ∈ lw_tbl := List.mem_of_getElem? (i := 234) (by decide +kernel)
theorem lk_464 : (Cond.fieldLink RX4 161 "WindPost$Moment" "winds" "[I") ∈ lw_tbl := List.mem_of_getElem? (i := 236) (by decide +kernel)
set_option maxRecDepth 20000 in
theorem lm_wsX4_turn_r1 : ∀ w ∈ wsX4_turn_r1, w ∈ lw_tbl := by
  unfold wsX4_turn_r1
  exact (List.forall_mem_cons.mpr ⟨lk_16, List.forall_mem_cons.mpr ⟨lk_463, List.forall_mem_cons.mpr ⟨lk_464, List.forall_mem_cons.mpr ⟨lk_105, List.forall_mem_cons.mpr ⟨lk_106, List.forall_mem_cons.mpr ⟨lk_85, List.forall_mem_cons.mpr ⟨lk_107, List.forall_mem_cons.mpr ⟨lk_380, List.forall_mem_cons.mpr ⟨lk_381, List.forall_mem_cons.mpr ⟨lk_382, List.forall_mem_cons.mpr ⟨lk_383, List.forall_mem_cons.mpr ⟨lk_17, List.forall_mem_cons.mpr ⟨lk_384, List.forall_mem_cons.mpr ⟨lk_134, List.forall_mem_cons.mpr ⟨lk_385, List.forall_mem_cons.mpr ⟨lk_58, List.forall_mem_cons.mpr ⟨lk_59, List.forall_mem_cons.mpr ⟨lk_60, List.forall_mem_cons.mpr ⟨lk_386, List.forall_mem_cons.mpr ⟨lk_387, List.forall_mem_cons.mpr ⟨lk_388, List.forall_mem_cons.mpr ⟨lk_15, List.forall_mem_cons.mpr ⟨lk_389, List.forall_mem_cons.mpr ⟨lk_214, (fun _ h => absurd h List.not_mem_nil)⟩⟩⟩⟩⟩⟩⟩⟩⟩⟩⟩⟩⟩⟩⟩⟩⟩⟩⟩⟩⟩⟩⟩⟩)
set_option maxRecDepth 20000 in
theorem lm_wsX4_turn_r2 : ∀ w ∈ wsX4_turn_r2, w ∈ lw_tbl := by
  unfold wsX4_turn_r2
  exact (List.forall_mem_cons.mpr ⟨lk_215, List.forall_mem_cons.mpr ⟨lk_216, List.forall_mem_cons.mpr ⟨lk_218, List.forall_mem_cons.mpr ⟨lk_77, List.forall_mem_cons.mpr ⟨lk_79, List.forall_mem_cons.mpr ⟨lk_390, List.forall_mem_cons.mpr ⟨lk_391, List.forall_mem_cons.mpr ⟨lk_392, List.forall_mem_cons.mpr ⟨lk_23, List.forall_mem_cons.mpr ⟨lk_393, List.forall_mem_cons.mpr ⟨lk_394, List.forall_mem_cons.mpr ⟨lk_395, List.forall_mem_cons.mpr ⟨lk_396, List.forall_mem_cons.mpr ⟨lk_397, List.forall_mem_cons.mpr ⟨lk_398, List.forall_mem_cons.mpr ⟨lk_399, List.forall_mem_cons.mpr ⟨lk_400, (fun _ h => absurd h List.not_mem_nil)⟩⟩⟩⟩⟩⟩⟩⟩⟩⟩⟩⟩⟩⟩⟩⟩⟩)
set_option maxRecDepth 20000 in
theorem lm_wsX4_turn : ∀ w ∈ wsX4_turn, w ∈ lw_tbl := by
  unfold wsX4_turn
  exact (List.forall_mem_cons.mpr ⟨lk_462, (List.forall_mem_append.mpr ⟨(List.forall_mem_append.mpr ⟨(List.forall_mem_append.mpr ⟨(List.forall_mem_append.mpr ⟨lm_wsX4_turn_r1, lm_wsX4_turn_r2⟩), lm_wsX40⟩), lm_wsX20⟩), lm_wsX10⟩)⟩)
set_option maxRecDepth 20000 in
theorem lg_X4_turn : GoodIn lw_tbl wsX4_turn := goodIn_sub lm_wsX4_turn (by decide +kernel)
theorem lk_465 : (Cond.methodLink RL 61 yX4_turn) ∈ lw_tbl := List.mem_of_getElem? (i := 473) (by decide +kernel)
theorem lk_466 : (Cond.instanceMethod yX4_turn) ∈ lw_tbl := List.mem_of_getElem? (i := 474) (by decide +kernel)
theorem lk_467 : (Cond.selects RX4 yX4_turn yX4_turn) ∈ lw_tbl := List.mem_of_getElem? (i := 475) (by decide +kernel)
theorem lG_X4_turn : GoodIn lw_tbl (wsV RL 61 RX4 yX4_turn wsX4_turn) := goodIn_app (goodIn_sub (List.forall_mem_cons.mpr ⟨lk_465, List.forall_mem_cons.mpr ⟨lk_466, List.forall_mem_cons.mpr ⟨lk_467, List.forall_mem_cons.mpr ⟨lk_85, (fun _ h => absurd h List.not_mem_nil)⟩⟩⟩⟩) (by decide +kernel)) lg_X4_turn
theorem lk_468 : (Cond.code yX5_turn cX5_turn 4 (some .int)) ∈ lw_tbl := List.mem_of_getElem? (i := 831) (by decide +kernel)
set_option maxRecDepth 20000 in
theorem lm_wsX5_turn : ∀ w ∈ wsX5_turn, w ∈ lw_tbl := by
  unfold wsX5_turn
  exact (List.forall_mem_cons.mpr ⟨lk_468, (List.forall_mem_append.mpr ⟨(List.forall_mem_cons.mpr ⟨lk_117, List.forall_mem_cons.mpr ⟨lk_89, List.forall_mem_cons.mpr ⟨lk_93, List.forall_mem_cons.mpr ⟨lk_119, List.forall_mem_cons.mpr ⟨lk_120, List.forall_mem_cons.mpr ⟨lk_102, List.forall_mem_cons.mpr ⟨lk_121, List.forall_mem_cons.mpr ⟨lk_418, List.forall_mem_cons.mpr ⟨lk_419, List.forall_mem_cons.mpr ⟨lk_420, List.forall_mem_cons.mpr ⟨lk_421, List.forall_mem_cons.mpr ⟨lk_270, List.forall_mem_cons.mpr ⟨lk_96, (fun _ h => absurd h List.not_mem_nil)⟩⟩⟩⟩⟩⟩⟩⟩⟩⟩⟩⟩⟩), lm_wsX50⟩)⟩)
set_option maxRecDepth 20000 in
theorem lg_X5_turn : GoodIn lw_tbl wsX5_turn := goodIn_sub lm_wsX5_turn (by decide +kernel)
theorem lk_469 : (Cond.methodLink RL 64 yX5_turn) ∈ lw_tbl := List.mem_of_getElem? (i := 828) (by decide +kernel)
theorem lk_470 : (Cond.instanceMethod yX5_turn) ∈ lw_tbl := List.mem_of_getElem? (i := 829) (by decide +kernel)
theorem lk_471 : (Cond.selects RX5 yX5_turn yX5_turn) ∈ lw_tbl := List.mem_of_getElem? (i := 830) (by decide +kernel)
theorem lG_X5_turn : GoodIn lw_tbl (wsV RL 64 RX5 yX5_turn wsX5_turn) := goodIn_app (goodIn_sub (List.forall_mem_cons.mpr ⟨lk_469, List.forall_mem_cons.mpr ⟨lk_470, List.forall_mem_cons.mpr ⟨lk_471, List.forall_mem_cons.mpr ⟨lk_102, (fun _ h => absurd h List.not_mem_nil)⟩⟩⟩⟩) (by decide +kernel)) lg_X5_turn
theorem lk_472 : (Cond.code yX4_undo cX4_undo 1 (some .int)) ∈ lw_tbl := List.mem_of_getElem? (i := 480) (by decide +kernel)
set_option maxRecDepth 20000 in
theorem lm_wsX4_undo_r1 : ∀ w ∈ wsX4_undo_r1, w ∈ lw_tbl := by
  unfold wsX4_undo_r1
  exact (List.forall_mem_cons.mpr ⟨lk_134, List.forall_mem_cons.mpr ⟨lk_384, List.forall_mem_cons.mpr ⟨lk_16, List.forall_mem_cons.mpr ⟨lk_17, List.forall_mem_cons.mpr ⟨lk_386, List.forall_mem_cons.mpr ⟨lk_387, List.forall_mem_cons.mpr ⟨lk_388, List.forall_mem_cons.mpr ⟨lk_15, List.forall_mem_cons.mpr ⟨lk_389, List.forall_mem_cons.mpr ⟨lk_214, List.forall_mem_cons.mpr ⟨lk_215, List.forall_mem_cons.mpr ⟨lk_216, List.forall_mem_cons.mpr ⟨lk_218, List.forall_mem_cons.mpr ⟨lk_77, List.forall_mem_cons.mpr ⟨lk_79, List.forall_mem_cons.mpr ⟨lk_390, List.forall_mem_cons.mpr ⟨lk_391, List.forall_mem_cons.mpr ⟨lk_392, List.forall_mem_cons.mpr ⟨lk_23, List.forall_mem_cons.mpr ⟨lk_393, List.forall_mem_cons.mpr ⟨lk_394, List.forall_mem_cons.mpr ⟨lk_395, List.forall_mem_cons.mpr ⟨lk_396, List.forall_mem_cons.mpr ⟨lk_397, (fun _ h => absurd h List.not_mem_nil)⟩⟩⟩⟩⟩⟩⟩⟩⟩⟩⟩⟩⟩⟩⟩⟩⟩⟩⟩⟩⟩⟩⟩⟩)
set_option maxRecDepth 20000 in
theorem lm_wsX4_undo_r2 : ∀ w ∈ wsX4_undo_r2, w ∈ lw_tbl := by
  unfold wsX4_undo_r2
  exact (List.forall_mem_cons.mpr ⟨lk_398, List.forall_mem_cons.mpr ⟨lk_399, List.forall_mem_cons.mpr ⟨lk_400, (fun _ h => absurd h List.not_mem_nil)⟩⟩⟩)
set_option maxRecDepth 20000 in
theorem lm_wsX4_undo : ∀ w ∈ wsX4_undo, w ∈ lw_tbl := by
  unfold wsX4_undo
  exact (List.forall_mem_cons.mpr ⟨lk_472, (List.forall_mem_append.mpr ⟨(List.forall_mem_append.mpr ⟨(List.forall_mem_append.mpr ⟨(List.forall_mem_append.mpr ⟨lm_wsX4_undo_r1, lm_wsX4_undo_r2⟩), lm_wsX40⟩), lm_wsX20⟩), lm_wsX10⟩)⟩)
set_option maxRecDepth 20000 in
theorem lg_X4_undo : GoodIn lw_tbl wsX4_undo := goodIn_sub lm_wsX4_undo (by decide +kernel)
theorem lk_473 : (Cond.methodLink RL 65 yX4_undo) ∈ lw_tbl := List.mem_of_getElem? (i := 477) (by decide +kernel)
theorem lk_474 : (Cond.instanceMethod yX4_undo) ∈ lw_tbl := List.mem_of_getElem? (i := 478) (by decide +kernel)
theorem lk_475 : (Cond.selects RX4 yX4_undo yX4_undo) ∈ lw_tbl := List.mem_of_getElem? (i := 479) (by decide +kernel)
theorem lG_X4_undo : GoodIn lw_tbl (wsV RL 65 RX4 yX4_undo wsX4_undo) := goodIn_app (goodIn_sub (List.forall_mem_cons.mpr ⟨lk_473, List.forall_mem_cons.mpr ⟨lk_474, List.forall_mem_cons.mpr ⟨lk_475, List.forall_mem_cons.mpr ⟨lk_85, (fun _ h => absurd h List.not_mem_nil)⟩⟩⟩⟩) (by decide +kernel)) lg_X4_undo
theorem lk_476 : (Cond.code yX5_undo cX5_undo 2 (some .int)) ∈ lw_tbl := List.mem_of_getElem? (i := 835) (by decide +kernel)
set_option maxRecDepth 20000 in
theorem lm_wsX5_undo : ∀ w ∈ wsX5_undo, w ∈ lw_tbl := by
  unfold wsX5_undo
  exact (List.forall_mem_cons.mpr ⟨lk_476, (List.forall_mem_append.mpr ⟨(List.forall_mem_cons.mpr ⟨lk_117, List.forall_mem_cons.mpr ⟨lk_270, List.forall_mem_cons.mpr ⟨lk_93, List.forall_mem_cons.mpr ⟨lk_96, (fun _ h => absurd h List.not_mem_nil)⟩⟩⟩⟩), lm_wsX50⟩)⟩)
set_option maxRecDepth 20000 in
theorem lg_X5_undo : GoodIn lw_tbl wsX5_undo := goodIn_sub lm_wsX5_undo (by decide +kernel)
theorem lk_477 : (Cond.methodLink RL 68 yX5_undo) ∈ lw_tbl := List.mem_of_getElem? (i := 832) (by decide +kernel)
theorem lk_478 : (Cond.instanceMethod yX5_undo) ∈ lw_tbl := List.mem_of_getElem? (i := 833) (by decide +kernel)
theorem lk_479 : (Cond.selects RX5 yX5_undo yX5_undo) ∈ lw_tbl := List.mem_of_getElem? (i := 834) (by decide +kernel)
theorem lG_X5_undo : GoodIn lw_tbl (wsV RL 68 RX5 yX5_undo wsX5_undo) := goodIn_app (goodIn_sub (List.forall_mem_cons.mpr ⟨lk_477, List.forall_mem_cons.mpr ⟨lk_478, List.forall_mem_cons.mpr ⟨lk_479, List.forall_mem_cons.mpr ⟨lk_102, (fun _ h => absurd h List.not_mem_nil)⟩⟩⟩⟩) (by decide +kernel)) lg_X5_undo
theorem lk_480 : (Cond.code yX4_where cX4_where 3 (some .int)) ∈ lw_tbl := List.mem_of_getElem? (i := 484) (by decide +kernel)
theorem lk_481 : (Cond.methodLink RX4 171 yX4_letterIn) ∈ lw_tbl := List.mem_of_getElem? (i := 485) (by decide +kernel)
theorem lk_482 : (Cond.instanceMethod yX4_letterIn) ∈ lw_tbl := List.mem_of_getElem? (i := 487) (by decide +kernel)
theorem lk_483 : (Cond.selects RX4 yX4_letterIn yX4_letterIn) ∈ lw_tbl := List.mem_of_getElem? (i := 15) (by decide +kernel)
theorem lk_484 : (Cond.code yX4_letterIn cX4_letterIn 3 (some (.object "WindPost$Letter"))) ∈ lw_tbl := List.mem_of_getElem? (i := 488) (by decide +kernel)
theorem lk_485 : (Cond.methodLink RX4 175 yX1_copyFrom) ∈ lw_tbl := List.mem_of_getElem? (i := 489) (by decide +kernel)
set_option maxRecDepth 20000 in
theorem lm_wsX4_where_r1 : ∀ w ∈ wsX4_where_r1, w ∈ lw_tbl := by
  unfold wsX4_where_r1
  exact (List.forall_mem_cons.mpr ⟨lk_340, List.forall_mem_cons.mpr ⟨lk_343, List.forall_mem_cons.mpr ⟨lk_344, List.forall_mem_cons.mpr ⟨lk_345, List.forall_mem_cons.mpr ⟨lk_85, List.forall_mem_cons.mpr ⟨lk_346, List.forall_mem_cons.mpr ⟨lk_16, List.forall_mem_cons.mpr ⟨lk_347, List.forall_mem_cons.mpr ⟨lk_105, List.forall_mem_cons.mpr ⟨lk_106, List.forall_mem_cons.mpr ⟨lk_107, List.forall_mem_cons.mpr ⟨lk_481, List.forall_mem_cons.mpr ⟨lk_482, List.forall_mem_cons.mpr ⟨lk_483, List.forall_mem_cons.mpr ⟨lk_484, List.forall_mem_cons.mpr ⟨lk_24, List.forall_mem_cons.mpr ⟨lk_336, List.forall_mem_cons.mpr ⟨lk_315, List.forall_mem_cons.mpr ⟨lk_485, List.forall_mem_cons.mpr ⟨lk_391, List.forall_mem_cons.mpr ⟨lk_392, List.forall_mem_cons.mpr ⟨lk_23, List.forall_mem_cons.mpr ⟨lk_393, List.forall_mem_cons.mpr ⟨lk_394, (fun _ h => absurd h List.not_mem_nil)⟩⟩⟩⟩⟩⟩⟩⟩⟩⟩⟩⟩⟩⟩⟩⟩⟩⟩⟩⟩⟩⟩⟩⟩)
theorem lk_486 : (Cond.methodLink RX4 186 yX4_passHours) ∈ lw_tbl := List.mem_of_getElem? (i := 490) (by decide +kernel)
theorem lk_487 : (Cond.instanceMethod yX4_passHours) ∈ lw_tbl := List.mem_of_getElem? (i := 492) (by decide +kernel)
theorem lk_488 : (Cond.selects RX4 yX4_passHours yX4_passHours) ∈ lw_tbl := List.mem_of_getElem? (i := 16) (by decide +kernel)
theorem lk_489 : (Cond.code yX4_passHours cX4_passHours 5 none) ∈ lw_tbl := List.mem_of_getElem? (i := 493) (by decide +kernel)
set_option maxRecDepth 20000 in
theorem lm_wsX4_where_r2 : ∀ w ∈ wsX4_where_r2, w ∈ lw_tbl := by
  unfold wsX4_where_r2
  exact (List.forall_mem_cons.mpr ⟨lk_395, List.forall_mem_cons.mpr ⟨lk_396, List.forall_mem_cons.mpr ⟨lk_397, List.forall_mem_cons.mpr ⟨lk_398, List.forall_mem_cons.mpr ⟨lk_399, List.forall_mem_cons.mpr ⟨lk_400, List.forall_mem_cons.mpr ⟨lk_486, List.forall_mem_cons.mpr ⟨lk_487, List.forall_mem_cons.mpr ⟨lk_488, List.forall_mem_cons.mpr ⟨lk_489, List.forall_mem_cons.mpr ⟨lk_11, List.forall_mem_cons.mpr ⟨lk_276, List.forall_mem_cons.mpr ⟨lk_316, List.forall_mem_cons.mpr ⟨lk_317, List.forall_mem_cons.mpr ⟨lk_318, List.forall_mem_cons.mpr ⟨lk_15, List.forall_mem_cons.mpr ⟨lk_319, List.forall_mem_cons.mpr ⟨lk_218, List.forall_mem_cons.mpr ⟨lk_77, List.forall_mem_cons.mpr ⟨lk_320, List.forall_mem_cons.mpr ⟨lk_321, List.forall_mem_cons.mpr ⟨lk_322, List.forall_mem_cons.mpr ⟨lk_323, List.forall_mem_cons.mpr ⟨lk_430, (fun _ h => absurd h List.not_mem_nil)⟩⟩⟩⟩⟩⟩⟩⟩⟩⟩⟩⟩⟩⟩⟩⟩⟩⟩⟩⟩⟩⟩⟩⟩)
set_option maxRecDepth 20000 in
theorem lm_wsX4_where_r3 : ∀ w ∈ wsX4_where_r3, w ∈ lw_tbl := by
  unfold wsX4_where_r3
  exact (List.forall_mem_cons.mpr ⟨lk_431, List.forall_mem_cons.mpr ⟨lk_432, List.forall_mem_cons.mpr ⟨lk_433, List.forall_mem_cons.mpr ⟨lk_434, List.forall_mem_cons.mpr ⟨lk_435, List.forall_mem_cons.mpr ⟨lk_436, List.forall_mem_cons.mpr ⟨lk_10, List.forall_mem_cons.mpr ⟨lk_437, List.forall_mem_cons.mpr ⟨lk_38, List.forall_mem_cons.mpr ⟨lk_438, List.forall_mem_cons.mpr ⟨lk_70, List.forall_mem_cons.mpr ⟨lk_71, List.forall_mem_cons.mpr ⟨lk_72, List.forall_mem_cons.mpr ⟨lk_36, List.forall_mem_cons.mpr ⟨lk_283, List.forall_mem_cons.mpr ⟨lk_284, (fun _ h => absurd h List.not_mem_nil)⟩⟩⟩⟩⟩⟩⟩⟩⟩⟩⟩⟩⟩⟩⟩⟩)
set_option maxRecDepth 20000 in
theorem lm_wsX4_where : ∀ w ∈ wsX4_where, w ∈ lw_tbl := by
  unfold wsX4_where
  exact (List.forall_mem_cons.mpr ⟨lk_480, (List.forall_mem_append.mpr ⟨(List.forall_mem_append.mpr ⟨(List.forall_mem_append.mpr ⟨(List.forall_mem_append.mpr ⟨(List.forall_mem_append.mpr ⟨lm_wsX4_where_r1, (List.forall_mem_append.mpr ⟨lm_wsX4_where_r2, lm_wsX4_where_r3⟩)⟩), lm_wsX10⟩), lm_wsX40⟩), lm_wsX20⟩), lm_wsX00⟩)⟩)
set_option maxRecDepth 20000 in
theorem lg_X4_where : GoodIn lw_tbl wsX4_where := goodIn_sub lm_wsX4_where (by decide +kernel)
theorem lk_490 : (Cond.methodLink RL 69 yX4_where) ∈ lw_tbl := List.mem_of_getElem? (i := 481) (by decide +kernel)
theorem lk_491 : (Cond.instanceMethod yX4_where) ∈ lw_tbl := List.mem_of_getElem? (i := 482) (by decide +kernel)
theorem lk_492 : (Cond.selects RX4 yX4_where yX4_where) ∈ lw_tbl := List.mem_of_getElem? (i := 483) (by decide +kernel)
theorem lG_X4_where : GoodIn lw_tbl (wsV RL 69 RX4 yX4_where wsX4_where) := goodIn_app (goodIn_sub (List.forall_mem_cons.mpr ⟨lk_490, List.forall_mem_cons.mpr ⟨lk_491, List.forall_mem_cons.mpr ⟨lk_492, List.forall_mem_cons.mpr ⟨lk_85, (fun _ h => absurd h List.not_mem_nil)⟩⟩⟩⟩) (by decide +kernel)) lg_X4_where
theorem lk_493 : (Cond.code yX5_where cX5_where 3 (some .int)) ∈ lw_tbl := List.mem_of_getElem? (i := 839) (by decide +kernel)
theorem lk_494 : (Cond.methodLink RX5 153 yX5_goes) ∈ lw_tbl := List.mem_of_getElem? (i := 840) (by decide +kernel)
theorem lk_495 : (Cond.instanceMethod yX5_goes) ∈ lw_tbl := List.mem_of_getElem? (i := 842) (by decide +kernel)
theorem lk_496 : (Cond.selects RX5 yX5_goes yX5_goes) ∈ lw_tbl := List.mem_of_getElem? (i := 49) (by decide +kernel)
theorem lk_497 : (Cond.code yX5_goes cX5_goes 4 none) ∈ lw_tbl := List.mem_of_getElem? (i := 843) (by decide +kernel)
theorem lk_498 : (Cond.methodLink RX5 149 yX5_takesLetter) ∈ lw_tbl := List.mem_of_getElem? (i := 844) (by decide +kernel)
theorem lk_499 : (Cond.instanceMethod yX5_takesLetter) ∈ lw_tbl := List.mem_of_getElem? (i := 846) (by decide +kernel)
theorem lk_500 : (Cond.selects RX5 yX5_takesLetter yX5_takesLetter) ∈ lw_tbl := List.mem_of_getElem? (i := 50) (by decide +kernel)
theorem lk_501 : (Cond.code yX5_takesLetter cX5_takesLetter 4 none) ∈ lw_tbl := List.mem_of_getElem? (i := 847) (by decide +kernel)
set_option maxRecDepth 20000 in
theorem lm_wsX5_where_r1 : ∀ w ∈ wsX5_where_r1, w ∈ lw_tbl := by
  unfold wsX5_where_r1
  exact (List.forall_mem_cons.mpr ⟨lk_117, List.forall_mem_cons.mpr ⟨lk_97, List.forall_mem_cons.mpr ⟨lk_352, List.forall_mem_cons.mpr ⟨lk_353, List.forall_mem_cons.mpr ⟨lk_354, List.forall_mem_cons.mpr ⟨lk_102, List.forall_mem_cons.mpr ⟨lk_355, List.forall_mem_cons.mpr ⟨lk_93, List.forall_mem_cons.mpr ⟨lk_119, List.forall_mem_cons.mpr ⟨lk_120, List.forall_mem_cons.mpr ⟨lk_121, List.forall_mem_cons.mpr ⟨lk_494, List.forall_mem_cons.mpr ⟨lk_495, List.forall_mem_cons.mpr ⟨lk_496, List.forall_mem_cons.mpr ⟨lk_497, List.forall_mem_cons.mpr ⟨lk_498, List.forall_mem_cons.mpr ⟨lk_499, List.forall_mem_cons.mpr ⟨lk_500, List.forall_mem_cons.mpr ⟨lk_501, List.forall_mem_cons.mpr ⟨lk_328, List.forall_mem_cons.mpr ⟨lk_329, List.forall_mem_cons.mpr ⟨lk_330, List.forall_mem_cons.mpr ⟨lk_331, List.forall_mem_cons.mpr ⟨lk_89, (fun _ h => absurd h List.not_mem_nil)⟩⟩⟩⟩⟩⟩⟩⟩⟩⟩⟩⟩⟩⟩⟩⟩⟩⟩⟩⟩⟩⟩⟩⟩)
set_option maxRecDepth 20000 in
theorem lm_wsX5_where_r2 : ∀ w ∈ wsX5_where_r2, w ∈ lw_tbl := by
  unfold wsX5_where_r2
  exact (List.forall_mem_cons.mpr ⟨lk_443, List.forall_mem_cons.mpr ⟨lk_444, List.forall_mem_cons.mpr ⟨lk_445, List.forall_mem_cons.mpr ⟨lk_446, List.forall_mem_cons.mpr ⟨lk_447, List.forall_mem_cons.mpr ⟨lk_448, List.forall_mem_cons.mpr ⟨lk_449, List.forall_mem_cons.mpr ⟨lk_450, List.forall_mem_cons.mpr ⟨lk_303, List.forall_mem_cons.mpr ⟨lk_304, List.forall_mem_cons.mpr ⟨lk_305, List.forall_mem_cons.mpr ⟨lk_306, List.forall_mem_cons.mpr ⟨lk_91, List.forall_mem_cons.mpr ⟨lk_307, List.forall_mem_cons.mpr ⟨lk_308, List.forall_mem_cons.mpr ⟨lk_309, List.forall_mem_cons.mpr ⟨lk_310, List.forall_mem_cons.mpr ⟨lk_90, (fun _ h => absurd h List.not_mem_nil)⟩⟩⟩⟩⟩⟩⟩⟩⟩⟩⟩⟩⟩⟩⟩⟩⟩⟩)
set_option maxRecDepth 20000 in
theorem lm_wsX5_where : ∀ w ∈ wsX5_where, w ∈ lw_tbl := by
  unfold wsX5_where
  exact (List.forall_mem_cons.mpr ⟨lk_493, (List.forall_mem_append.mpr ⟨(List.forall_mem_append.mpr ⟨lm_wsX5_where_r1, lm_wsX5_where_r2⟩), lm_wsX50⟩)⟩)
set_option maxRecDepth 20000 in
theorem lg_X5_where : GoodIn lw_tbl wsX5_where := goodIn_sub lm_wsX5_where (by decide +kernel)
theorem lk_502 : (Cond.methodLink RL 72 yX5_where) ∈ lw_tbl := List.mem_of_getElem? (i := 836) (by decide +kernel)
theorem lk_503 : (Cond.instanceMethod yX5_where) ∈ lw_tbl := List.mem_of_getElem? (i := 837) (by decide +kernel)
theorem lk_504 : (Cond.selects RX5 yX5_where yX5_where) ∈ lw_tbl := List.mem_of_getElem? (i := 838) (by decide +kernel)
theorem lG_X5_where : GoodIn lw_tbl (wsV RL 72 RX5 yX5_where wsX5_where) := goodIn_app (goodIn_sub (List.forall_mem_cons.mpr ⟨lk_502, List.forall_mem_cons.mpr ⟨lk_503, List.forall_mem_cons.mpr ⟨lk_504, List.forall_mem_cons.mpr ⟨lk_102, (fun _ h => absurd h List.not_mem_nil)⟩⟩⟩⟩) (by decide +kernel)) lg_X5_where
theorem lk_505 : (Cond.code yX4_comes cX4_comes 2 (some .int)) ∈ lw_tbl := List.mem_of_getElem? (i := 497) (by decide +kernel)
set_option maxRecDepth 20000 in
theorem lm_wsX4_comes_r1 : ∀ w ∈ wsX4_comes_r1, w ∈ lw_tbl := by
  unfold wsX4_comes_r1
  exact (List.forall_mem_cons.mpr ⟨lk_24, List.forall_mem_cons.mpr ⟨lk_16, List.forall_mem_cons.mpr ⟨lk_336, List.forall_mem_cons.mpr ⟨lk_315, List.forall_mem_cons.mpr ⟨lk_276, List.forall_mem_cons.mpr ⟨lk_343, List.forall_mem_cons.mpr ⟨lk_344, List.forall_mem_cons.mpr ⟨lk_345, List.forall_mem_cons.mpr ⟨lk_85, List.forall_mem_cons.mpr ⟨lk_346, List.forall_mem_cons.mpr ⟨lk_347, List.forall_mem_cons.mpr ⟨lk_105, List.forall_mem_cons.mpr ⟨lk_106, List.forall_mem_cons.mpr ⟨lk_107, List.forall_mem_cons.mpr ⟨lk_485, List.forall_mem_cons.mpr ⟨lk_391, List.forall_mem_cons.mpr ⟨lk_392, List.forall_mem_cons.mpr ⟨lk_23, List.forall_mem_cons.mpr ⟨lk_393, List.forall_mem_cons.mpr ⟨lk_394, List.forall_mem_cons.mpr ⟨lk_395, List.forall_mem_cons.mpr ⟨lk_396, List.forall_mem_cons.mpr ⟨lk_397, List.forall_mem_cons.mpr ⟨lk_398, (fun _ h => absurd h List.not_mem_nil)⟩⟩⟩⟩⟩⟩⟩⟩⟩⟩⟩⟩⟩⟩⟩⟩⟩⟩⟩⟩⟩⟩⟩⟩)
theorem lk_506 : (Cond.methodLink RX4 178 yX4_arrival) ∈ lw_tbl := List.mem_of_getElem? (i := 498) (by decide +kernel)
theorem lk_507 : (Cond.instanceMethod yX4_arrival) ∈ lw_tbl := List.mem_of_getElem? (i := 500) (by decide +kernel)
theorem lk_508 : (Cond.selects RX4 yX4_arrival yX4_arrival) ∈ lw_tbl := List.mem_of_getElem? (i := 17) (by decide +kernel)
theorem lk_509 : (Cond.code yX4_arrival cX4_arrival 5 (some .int)) ∈ lw_tbl := List.mem_of_getElem? (i := 501) (by decide +kernel)
theorem lk_510 : (Cond.methodLink RX4 181 Lib.Math.max.name) ∈ lw_tbl := List.mem_of_getElem? (i := 502) (by decide +kernel)
theorem lk_511 : (Cond.static Lib.Math.max.name) ∈ lw_tbl := List.mem_of_getElem? (i := 503) (by decide +kernel)
theorem lk_512 : (Cond.code Lib.Math.max.name Lib.Math.max.code 2 (some .int)) ∈ lw_tbl := List.mem_of_getElem? (i := 504) (by decide +kernel)
set_option maxRecDepth 20000 in
theorem lm_wsX4_comes_r2 : ∀ w ∈ wsX4_comes_r2, w ∈ lw_tbl := by
  unfold wsX4_comes_r2
  exact (List.forall_mem_cons.mpr ⟨lk_399, List.forall_mem_cons.mpr ⟨lk_400, List.forall_mem_cons.mpr ⟨lk_506, List.forall_mem_cons.mpr ⟨lk_507, List.forall_mem_cons.mpr ⟨lk_508, List.forall_mem_cons.mpr ⟨lk_509, List.forall_mem_cons.mpr ⟨lk_342, List.forall_mem_cons.mpr ⟨lk_11, List.forall_mem_cons.mpr ⟨lk_463, List.forall_mem_cons.mpr ⟨lk_510, List.forall_mem_cons.mpr ⟨lk_511, List.forall_mem_cons.mpr ⟨lk_59, List.forall_mem_cons.mpr ⟨lk_512, List.forall_mem_cons.mpr ⟨lk_385, List.forall_mem_cons.mpr ⟨lk_58, List.forall_mem_cons.mpr ⟨lk_60, List.forall_mem_cons.mpr ⟨lk_298, List.forall_mem_cons.mpr ⟨lk_54, List.forall_mem_cons.mpr ⟨lk_55, List.forall_mem_cons.mpr ⟨lk_10, List.forall_mem_cons.mpr ⟨lk_56, List.forall_mem_cons.mpr ⟨lk_43, List.forall_mem_cons.mpr ⟨lk_44, List.forall_mem_cons.mpr ⟨lk_57, (fun _ h => absurd h List.not_mem_nil)⟩⟩⟩⟩⟩⟩⟩⟩⟩⟩⟩⟩⟩⟩⟩⟩⟩⟩⟩⟩⟩⟩⟩⟩)
set_option maxRecDepth 20000 in
theorem lm_wsX4_comes_r3 : ∀ w ∈ wsX4_comes_r3, w ∈ lw_tbl := by
  unfold wsX4_comes_r3
  exact (List.forall_mem_cons.mpr ⟨lk_316, List.forall_mem_cons.mpr ⟨lk_317, List.forall_mem_cons.mpr ⟨lk_318, List.forall_mem_cons.mpr ⟨lk_15, List.forall_mem_cons.mpr ⟨lk_319, List.forall_mem_cons.mpr ⟨lk_218, List.forall_mem_cons.mpr ⟨lk_77, List.forall_mem_cons.mpr ⟨lk_320, List.forall_mem_cons.mpr ⟨lk_321, List.forall_mem_cons.mpr ⟨lk_322, List.forall_mem_cons.mpr ⟨lk_323, List.forall_mem_cons.mpr ⟨lk_430, List.forall_mem_cons.mpr ⟨lk_431, List.forall_mem_cons.mpr ⟨lk_432, List.forall_mem_cons.mpr ⟨lk_433, List.forall_mem_cons.mpr ⟨lk_434, List.forall_mem_cons.mpr ⟨lk_435, List.forall_mem_cons.mpr ⟨lk_436, List.forall_mem_cons.mpr ⟨lk_437, List.forall_mem_cons.mpr ⟨lk_38, List.forall_mem_cons.mpr ⟨lk_438, List.forall_mem_cons.mpr ⟨lk_70, List.forall_mem_cons.mpr ⟨lk_71, List.forall_mem_cons.mpr ⟨lk_72, (fun _ h => absurd h List.not_mem_nil)⟩⟩⟩⟩⟩⟩⟩⟩⟩⟩⟩⟩⟩⟩⟩⟩⟩⟩⟩⟩⟩⟩⟩⟩)
set_option maxRecDepth 20000 in
theorem lm_wsX4_comes_r4 : ∀ w ∈ wsX4_comes_r4, w ∈ lw_tbl := by
  unfold wsX4_comes_r4
  exact (List.forall_mem_cons.mpr ⟨lk_36, List.forall_mem_cons.mpr ⟨lk_283, List.forall_mem_cons.mpr ⟨lk_284, (fun _ h => absurd h List.not_mem_nil)⟩⟩⟩)
set_option maxRecDepth 20000 in
theorem lm_wsX4_comes : ∀ w ∈ wsX4_comes, w ∈ lw_tbl := by
  unfold wsX4_comes
  exact (List.forall_mem_cons.mpr ⟨lk_505, (List.forall_mem_append.mpr ⟨(List.forall_mem_append.mpr ⟨(List.forall_mem_append.mpr ⟨(List.forall_mem_append.mpr ⟨(List.forall_mem_append.mpr ⟨lm_wsX4_comes_r1, (List.forall_mem_append.mpr ⟨lm_wsX4_comes_r2, (List.forall_mem_append.mpr ⟨lm_wsX4_comes_r3, lm_wsX4_comes_r4⟩)⟩)⟩), lm_wsX40⟩), lm_wsX20⟩), lm_wsX10⟩), lm_wsX00⟩)⟩)
set_option maxRecDepth 20000 in
theorem lg_X4_comes : GoodIn lw_tbl wsX4_comes := goodIn_sub lm_wsX4_comes (by decide +kernel)
theorem lk_513 : (Cond.methodLink RL 73 yX4_comes) ∈ lw_tbl := List.mem_of_getElem? (i := 494) (by decide +kernel)
theorem lk_514 : (Cond.instanceMethod yX4_comes) ∈ lw_tbl := List.mem_of_getElem? (i := 495) (by decide +kernel)
theorem lk_515 : (Cond.selects RX4 yX4_comes yX4_comes) ∈ lw_tbl := List.mem_of_getElem? (i := 496) (by decide +kernel)
theorem lG_X4_comes : GoodIn lw_tbl (wsV RL 73 RX4 yX4_comes wsX4_comes) := goodIn_app (goodIn_sub (List.forall_mem_cons.mpr ⟨lk_513, List.forall_mem_cons.mpr ⟨lk_514, List.forall_mem_cons.mpr ⟨lk_515, List.forall_mem_cons.mpr ⟨lk_85, (fun _ h => absurd h List.not_mem_nil)⟩⟩⟩⟩) (by decide +kernel)) lg_X4_comes
theorem lk_516 : (Cond.code yX5_comes cX5_comes 2 (some .int)) ∈ lw_tbl := List.mem_of_getElem? (i := 851) (by decide +kernel)
theorem lk_517 : (Cond.methodLink RX5 157 yX5_comesIn) ∈ lw_tbl := List.mem_of_getElem? (i := 852) (by decide +kernel)
theorem lk_518 : (Cond.instanceMethod yX5_comesIn) ∈ lw_tbl := List.mem_of_getElem? (i := 854) (by decide +kernel)
theorem lk_519 : (Cond.selects RX5 yX5_comesIn yX5_comesIn) ∈ lw_tbl := List.mem_of_getElem? (i := 51) (by decide +kernel)
theorem lk_520 : (Cond.code yX5_comesIn cX5_comesIn 4 (some .int)) ∈ lw_tbl := List.mem_of_getElem? (i := 855) (by decide +kernel)
set_option maxRecDepth 20000 in
theorem lm_wsX5_comes_r1 : ∀ w ∈ wsX5_comes_r1, w ∈ lw_tbl := by
  unfold wsX5_comes_r1
  exact (List.forall_mem_cons.mpr ⟨lk_117, List.forall_mem_cons.mpr ⟨lk_97, List.forall_mem_cons.mpr ⟨lk_93, List.forall_mem_cons.mpr ⟨lk_352, List.forall_mem_cons.mpr ⟨lk_353, List.forall_mem_cons.mpr ⟨lk_354, List.forall_mem_cons.mpr ⟨lk_102, List.forall_mem_cons.mpr ⟨lk_355, List.forall_mem_cons.mpr ⟨lk_119, List.forall_mem_cons.mpr ⟨lk_120, List.forall_mem_cons.mpr ⟨lk_121, List.forall_mem_cons.mpr ⟨lk_498, List.forall_mem_cons.mpr ⟨lk_499, List.forall_mem_cons.mpr ⟨lk_500, List.forall_mem_cons.mpr ⟨lk_501, List.forall_mem_cons.mpr ⟨lk_517, List.forall_mem_cons.mpr ⟨lk_518, List.forall_mem_cons.mpr ⟨lk_519, List.forall_mem_cons.mpr ⟨lk_520, List.forall_mem_cons.mpr ⟨lk_328, List.forall_mem_cons.mpr ⟨lk_329, List.forall_mem_cons.mpr ⟨lk_330, List.forall_mem_cons.mpr ⟨lk_331, List.forall_mem_cons.mpr ⟨lk_89, (fun _ h => absurd h List.not_mem_nil)⟩⟩⟩⟩⟩⟩⟩⟩⟩⟩⟩⟩⟩⟩⟩⟩⟩⟩⟩⟩⟩⟩⟩⟩)
set_option maxRecDepth 20000 in
theorem lm_wsX5_comes_r2 : ∀ w ∈ wsX5_comes_r2, w ∈ lw_tbl := by
  unfold wsX5_comes_r2
  exact (List.forall_mem_cons.mpr ⟨lk_443, List.forall_mem_cons.mpr ⟨lk_444, List.forall_mem_cons.mpr ⟨lk_445, List.forall_mem_cons.mpr ⟨lk_446, List.forall_mem_cons.mpr ⟨lk_447, List.forall_mem_cons.mpr ⟨lk_448, List.forall_mem_cons.mpr ⟨lk_449, List.forall_mem_cons.mpr ⟨lk_450, List.forall_mem_cons.mpr ⟨lk_303, List.forall_mem_cons.mpr ⟨lk_304, List.forall_mem_cons.mpr ⟨lk_305, List.forall_mem_cons.mpr ⟨lk_306, List.forall_mem_cons.mpr ⟨lk_91, List.forall_mem_cons.mpr ⟨lk_307, List.forall_mem_cons.mpr ⟨lk_308, List.forall_mem_cons.mpr ⟨lk_309, List.forall_mem_cons.mpr ⟨lk_310, List.forall_mem_cons.mpr ⟨lk_90, (fun _ h => absurd h List.not_mem_nil)⟩⟩⟩⟩⟩⟩⟩⟩⟩⟩⟩⟩⟩⟩⟩⟩⟩⟩)
set_option maxRecDepth 20000 in
theorem lm_wsX5_comes : ∀ w ∈ wsX5_comes, w ∈ lw_tbl := by
  unfold wsX5_comes
  exact (List.forall_mem_cons.mpr ⟨lk_516, (List.forall_mem_append.mpr ⟨(List.forall_mem_append.mpr ⟨lm_wsX5_comes_r1, lm_wsX5_comes_r2⟩), lm_wsX50⟩)⟩)
set_option maxRecDepth 20000 in
theorem lg_X5_comes : GoodIn lw_tbl wsX5_comes := goodIn_sub lm_wsX5_comes (by decide +kernel)
theorem lk_521 : (Cond.methodLink RL 76 yX5_comes) ∈ lw_tbl := List.mem_of_getElem? (i := 848) (by decide +kernel)
theorem lk_522 : (Cond.instanceMethod yX5_comes) ∈ lw_tbl := List.mem_of_getElem? (i := 849) (by decide +kernel)
theorem lk_523 : (Cond.selects RX5 yX5_comes yX5_comes) ∈ lw_tbl := List.mem_of_getElem? (i := 850) (by decide +kernel)
theorem lG_X5_comes : GoodIn lw_tbl (wsV RL 76 RX5 yX5_comes wsX5_comes) := goodIn_app (goodIn_sub (List.forall_mem_cons.mpr ⟨lk_521, List.forall_mem_cons.mpr ⟨lk_522, List.forall_mem_cons.mpr ⟨lk_523, List.forall_mem_cons.mpr ⟨lk_102, (fun _ h => absurd h List.not_mem_nil)⟩⟩⟩⟩) (by decide +kernel)) lg_X5_comes
theorem lk_524 : (Cond.code yX4_blots cX4_blots 3 (some .int)) ∈ lw_tbl := List.mem_of_getElem? (i := 508) (by decide +kernel)
set_option maxRecDepth 20000 in
theorem lm_wsX4_blots_r1 : ∀ w ∈ wsX4_blots_r1, w ∈ lw_tbl := by
  unfold wsX4_blots_r1
  exact (List.forall_mem_cons.mpr ⟨lk_341, List.forall_mem_cons.mpr ⟨lk_343, List.forall_mem_cons.mpr ⟨lk_344, List.forall_mem_cons.mpr ⟨lk_345, List.forall_mem_cons.mpr ⟨lk_85, List.forall_mem_cons.mpr ⟨lk_346, List.forall_mem_cons.mpr ⟨lk_16, List.forall_mem_cons.mpr ⟨lk_347, List.forall_mem_cons.mpr ⟨lk_105, List.forall_mem_cons.mpr ⟨lk_106, List.forall_mem_cons.mpr ⟨lk_107, List.forall_mem_cons.mpr ⟨lk_481, List.forall_mem_cons.mpr ⟨lk_482, List.forall_mem_cons.mpr ⟨lk_483, List.forall_mem_cons.mpr ⟨lk_484, List.forall_mem_cons.mpr ⟨lk_24, List.forall_mem_cons.mpr ⟨lk_336, List.forall_mem_cons.mpr ⟨lk_315, List.forall_mem_cons.mpr ⟨lk_485, List.forall_mem_cons.mpr ⟨lk_391, List.forall_mem_cons.mpr ⟨lk_392, List.forall_mem_cons.mpr ⟨lk_23, List.forall_mem_cons.mpr ⟨lk_393, List.forall_mem_cons.mpr ⟨lk_394, (fun _ h => absurd h List.not_mem_nil)⟩⟩⟩⟩⟩⟩⟩⟩⟩⟩⟩⟩⟩⟩⟩⟩⟩⟩⟩⟩⟩⟩⟩⟩)
set_option maxRecDepth 20000 in
theorem lm_wsX4_blots_r2 : ∀ w ∈ wsX4_blots_r2, w ∈ lw_tbl := by
  unfold wsX4_blots_r2
  exact (List.forall_mem_cons.mpr ⟨lk_395, List.forall_mem_cons.mpr ⟨lk_396, List.forall_mem_cons.mpr ⟨lk_397, List.forall_mem_cons.mpr ⟨lk_398, List.forall_mem_cons.mpr ⟨lk_399, List.forall_mem_cons.mpr ⟨lk_400, List.forall_mem_cons.mpr ⟨lk_486, List.forall_mem_cons.mpr ⟨lk_487, List.forall_mem_cons.mpr ⟨lk_488, List.forall_mem_cons.mpr ⟨lk_489, List.forall_mem_cons.mpr ⟨lk_11, List.forall_mem_cons.mpr ⟨lk_276, List.forall_mem_cons.mpr ⟨lk_316, List.forall_mem_cons.mpr ⟨lk_317, List.forall_mem_cons.mpr ⟨lk_318, List.forall_mem_cons.mpr ⟨lk_15, List.forall_mem_cons.mpr ⟨lk_319, List.forall_mem_cons.mpr ⟨lk_218, List.forall_mem_cons.mpr ⟨lk_77, List.forall_mem_cons.mpr ⟨lk_320, List.forall_mem_cons.mpr ⟨lk_321, List.forall_mem_cons.mpr ⟨lk_322, List.forall_mem_cons.mpr ⟨lk_323, List.forall_mem_cons.mpr ⟨lk_430, (fun _ h => absurd h List.not_mem_nil)⟩⟩⟩⟩⟩⟩⟩⟩⟩⟩⟩⟩⟩⟩⟩⟩⟩⟩⟩⟩⟩⟩⟩⟩)
set_option maxRecDepth 20000 in
theorem lm_wsX4_blots_r3 : ∀ w ∈ wsX4_blots_r3, w ∈ lw_tbl := by
  unfold wsX4_blots_r3
  exact (List.forall_mem_cons.mpr ⟨lk_431, List.forall_mem_cons.mpr ⟨lk_432, List.forall_mem_cons.mpr ⟨lk_433, List.forall_mem_cons.mpr ⟨lk_434, List.forall_mem_cons.mpr ⟨lk_435, List.forall_mem_cons.mpr ⟨lk_436, List.forall_mem_cons.mpr ⟨lk_10, List.forall_mem_cons.mpr ⟨lk_437, List.forall_mem_cons.mpr ⟨lk_38, List.forall_mem_cons.mpr ⟨lk_438, List.forall_mem_cons.mpr ⟨lk_70, List.forall_mem_cons.mpr ⟨lk_71, List.forall_mem_cons.mpr ⟨lk_72, List.forall_mem_cons.mpr ⟨lk_36, List.forall_mem_cons.mpr ⟨lk_283, List.forall_mem_cons.mpr ⟨lk_284, (fun _ h => absurd h List.not_mem_nil)⟩⟩⟩⟩⟩⟩⟩⟩⟩⟩⟩⟩⟩⟩⟩⟩)
set_option maxRecDepth 20000 in
theorem lm_wsX4_blots : ∀ w ∈ wsX4_blots, w ∈ lw_tbl := by
  unfold wsX4_blots
  exact (List.forall_mem_cons.mpr ⟨lk_524, (List.forall_mem_append.mpr ⟨(List.forall_mem_append.mpr ⟨(List.forall_mem_append.mpr ⟨(List.forall_mem_append.mpr ⟨(List.forall_mem_append.mpr ⟨lm_wsX4_blots_r1, (List.forall_mem_append.mpr ⟨lm_wsX4_blots_r2, lm_wsX4_blots_r3⟩)⟩), lm_wsX10⟩), lm_wsX40⟩), lm_wsX20⟩), lm_wsX00⟩)⟩)
set_option maxRecDepth 20000 in
theorem lg_X4_blots : GoodIn lw_tbl wsX4_blots := goodIn_sub lm_wsX4_blots (by decide +kernel)
theorem lk_525 : (Cond.methodLink RL 77 yX4_blots) ∈ lw_tbl := List.mem_of_getElem? (i := 505) (by decide +kernel)
theorem lk_526 : (Cond.instanceMethod yX4_blots) ∈ lw_tbl := List.mem_of_getElem? (i := 506) (by decide +kernel)
theorem lk_527 : (Cond.selects RX4 yX4_blots yX4_blots) ∈ lw_tbl := List.mem_of_getElem? (i := 507) (by decide +kernel)
theorem lG_X4_blots : GoodIn lw_tbl (wsV RL 77 RX4 yX4_blots wsX4_blots) := goodIn_app (goodIn_sub (List.forall_mem_cons.mpr ⟨lk_525, List.forall_mem_cons.mpr ⟨lk_526, List.forall_mem_cons.mpr ⟨lk_527, List.forall_mem_cons.mpr ⟨lk_85, (fun _ h => absurd h List.not_mem_nil)⟩⟩⟩⟩) (by decide +kernel)) lg_X4_blots
theorem lk_528 : (Cond.code yX5_blots cX5_blots 3 (some .int)) ∈ lw_tbl := List.mem_of_getElem? (i := 859) (by decide +kernel)
set_option maxRecDepth 20000 in
theorem lm_wsX5_blots_r1 : ∀ w ∈ wsX5_blots_r1, w ∈ lw_tbl := by
  unfold wsX5_blots_r1
  exact (List.forall_mem_cons.mpr ⟨lk_117, List.forall_mem_cons.mpr ⟨lk_97, List.forall_mem_cons.mpr ⟨lk_352, List.forall_mem_cons.mpr ⟨lk_353, List.forall_mem_cons.mpr ⟨lk_354, List.forall_mem_cons.mpr ⟨lk_102, List.forall_mem_cons.mpr ⟨lk_355, List.forall_mem_cons.mpr ⟨lk_93, List.forall_mem_cons.mpr ⟨lk_119, List.forall_mem_cons.mpr ⟨lk_120, List.forall_mem_cons.mpr ⟨lk_121, List.forall_mem_cons.mpr ⟨lk_494, List.forall_mem_cons.mpr ⟨lk_495, List.forall_mem_cons.mpr ⟨lk_496, List.forall_mem_cons.mpr ⟨lk_497, List.forall_mem_cons.mpr ⟨lk_498, List.forall_mem_cons.mpr ⟨lk_499, List.forall_mem_cons.mpr ⟨lk_500, List.forall_mem_cons.mpr ⟨lk_501, List.forall_mem_cons.mpr ⟨lk_328, List.forall_mem_cons.mpr ⟨lk_329, List.forall_mem_cons.mpr ⟨lk_330, List.forall_mem_cons.mpr ⟨lk_331, List.forall_mem_cons.mpr ⟨lk_89, (fun _ h => absurd h List.not_mem_nil)⟩⟩⟩⟩⟩⟩⟩⟩⟩⟩⟩⟩⟩⟩⟩⟩⟩⟩⟩⟩⟩⟩⟩⟩)
set_option maxRecDepth 20000 in
theorem lm_wsX5_blots_r2 : ∀ w ∈ wsX5_blots_r2, w ∈ lw_tbl := by
  unfold wsX5_blots_r2
  exact (List.forall_mem_cons.mpr ⟨lk_443, List.forall_mem_cons.mpr ⟨lk_444, List.forall_mem_cons.mpr ⟨lk_445, List.forall_mem_cons.mpr ⟨lk_446, List.forall_mem_cons.mpr ⟨lk_447, List.forall_mem_cons.mpr ⟨lk_448, List.forall_mem_cons.mpr ⟨lk_449, List.forall_mem_cons.mpr ⟨lk_450, List.forall_mem_cons.mpr ⟨lk_303, List.forall_mem_cons.mpr ⟨lk_304, List.forall_mem_cons.mpr ⟨lk_305, List.forall_mem_cons.mpr ⟨lk_306, List.forall_mem_cons.mpr ⟨lk_91, List.forall_mem_cons.mpr ⟨lk_307, List.forall_mem_cons.mpr ⟨lk_308, List.forall_mem_cons.mpr ⟨lk_309, List.forall_mem_cons.mpr ⟨lk_310, List.forall_mem_cons.mpr ⟨lk_90, (fun _ h => absurd h List.not_mem_nil)⟩⟩⟩⟩⟩⟩⟩⟩⟩⟩⟩⟩⟩⟩⟩⟩⟩⟩)
set_option maxRecDepth 20000 in
theorem lm_wsX5_blots : ∀ w ∈ wsX5_blots, w ∈ lw_tbl := by
  unfold wsX5_blots
  exact (List.forall_mem_cons.mpr ⟨lk_528, (List.forall_mem_append.mpr ⟨(List.forall_mem_append.mpr ⟨lm_wsX5_blots_r1, lm_wsX5_blots_r2⟩), lm_wsX50⟩)⟩)
set_option maxRecDepth 20000 in
theorem lg_X5_blots : GoodIn lw_tbl wsX5_blots := goodIn_sub lm_wsX5_blots (by decide +kernel)
theorem lk_529 : (Cond.methodLink RL 80 yX5_blots) ∈ lw_tbl := List.mem_of_getElem? (i := 856) (by decide +kernel)
theorem lk_530 : (Cond.instanceMethod yX5_blots) ∈ lw_tbl := List.mem_of_getElem? (i := 857) (by decide +kernel)
theorem lk_531 : (Cond.selects RX5 yX5_blots yX5_blots) ∈ lw_tbl := List.mem_of_getElem? (i := 858) (by decide +kernel)
theorem lG_X5_blots : GoodIn lw_tbl (wsV RL 80 RX5 yX5_blots wsX5_blots) := goodIn_app (goodIn_sub (List.forall_mem_cons.mpr ⟨lk_529, List.forall_mem_cons.mpr ⟨lk_530, List.forall_mem_cons.mpr ⟨lk_531, List.forall_mem_cons.mpr ⟨lk_102, (fun _ h => absurd h List.not_mem_nil)⟩⟩⟩⟩) (by decide +kernel)) lg_X5_blots
theorem lk_532 : (Cond.code yX4_loop cX4_loop 5 (some .int)) ∈ lw_tbl := List.mem_of_getElem? (i := 512) (by decide +kernel)
set_option maxRecDepth 20000 in
theorem lm_wsX4_loop_r1 : ∀ w ∈ wsX4_loop_r1, w ∈ lw_tbl := by
  unfold wsX4_loop_r1
  exact (List.forall_mem_cons.mpr ⟨lk_16, List.forall_mem_cons.mpr ⟨lk_463, List.forall_mem_cons.mpr ⟨lk_510, List.forall_mem_cons.mpr ⟨lk_511, List.forall_mem_cons.mpr ⟨lk_59, List.forall_mem_cons.mpr ⟨lk_512, List.forall_mem_cons.mpr ⟨lk_11, List.forall_mem_cons.mpr ⟨lk_342, List.forall_mem_cons.mpr ⟨lk_24, List.forall_mem_cons.mpr ⟨lk_340, List.forall_mem_cons.mpr ⟨lk_315, List.forall_mem_cons.mpr ⟨lk_343, List.forall_mem_cons.mpr ⟨lk_344, List.forall_mem_cons.mpr ⟨lk_345, List.forall_mem_cons.mpr ⟨lk_85, List.forall_mem_cons.mpr ⟨lk_346, List.forall_mem_cons.mpr ⟨lk_347, List.forall_mem_cons.mpr ⟨lk_105, List.forall_mem_cons.mpr ⟨lk_106, List.forall_mem_cons.mpr ⟨lk_107, List.forall_mem_cons.mpr ⟨lk_298, List.forall_mem_cons.mpr ⟨lk_54, List.forall_mem_cons.mpr ⟨lk_55, List.forall_mem_cons.mpr ⟨lk_10, (fun _ h => absurd h List.not_mem_nil)⟩⟩⟩⟩⟩⟩⟩⟩⟩⟩⟩⟩⟩⟩⟩⟩⟩⟩⟩⟩⟩⟩⟩⟩)
set_option maxRecDepth 20000 in
theorem lm_wsX4_loop_r2 : ∀ w ∈ wsX4_loop_r2, w ∈ lw_tbl := by
  unfold wsX4_loop_r2
  exact (List.forall_mem_cons.mpr ⟨lk_56, List.forall_mem_cons.mpr ⟨lk_43, List.forall_mem_cons.mpr ⟨lk_44, List.forall_mem_cons.mpr ⟨lk_57, List.forall_mem_cons.mpr ⟨lk_58, List.forall_mem_cons.mpr ⟨lk_60, List.forall_mem_cons.mpr ⟨lk_481, List.forall_mem_cons.mpr ⟨lk_482, List.forall_mem_cons.mpr ⟨lk_483, List.forall_mem_cons.mpr ⟨lk_484, List.forall_mem_cons.mpr ⟨lk_336, List.forall_mem_cons.mpr ⟨lk_485, List.forall_mem_cons.mpr ⟨lk_391, List.forall_mem_cons.mpr ⟨lk_392, List.forall_mem_cons.mpr ⟨lk_23, List.forall_mem_cons.mpr ⟨lk_393, List.forall_mem_cons.mpr ⟨lk_394, List.forall_mem_cons.mpr ⟨lk_395, List.forall_mem_cons.mpr ⟨lk_396, List.forall_mem_cons.mpr ⟨lk_397, List.forall_mem_cons.mpr ⟨lk_398, List.forall_mem_cons.mpr ⟨lk_399, List.forall_mem_cons.mpr ⟨lk_400, List.forall_mem_cons.mpr ⟨lk_486, (fun _ h => absurd h List.not_mem_nil)⟩⟩⟩⟩⟩⟩⟩⟩⟩⟩⟩⟩⟩⟩⟩⟩⟩⟩⟩⟩⟩⟩⟩⟩)
set_option maxRecDepth 20000 in
theorem lm_wsX4_loop_r3 : ∀ w ∈ wsX4_loop_r3, w ∈ lw_tbl := by
  unfold wsX4_loop_r3
  exact (List.forall_mem_cons.mpr ⟨lk_487, List.forall_mem_cons.mpr ⟨lk_488, List.forall_mem_cons.mpr ⟨lk_489, List.forall_mem_cons.mpr ⟨lk_276, List.forall_mem_cons.mpr ⟨lk_316, List.forall_mem_cons.mpr ⟨lk_317, List.forall_mem_cons.mpr ⟨lk_318, List.forall_mem_cons.mpr ⟨lk_15, List.forall_mem_cons.mpr ⟨lk_319, List.forall_mem_cons.mpr ⟨lk_218, List.forall_mem_cons.mpr ⟨lk_77, List.forall_mem_cons.mpr ⟨lk_320, List.forall_mem_cons.mpr ⟨lk_321, List.forall_mem_cons.mpr ⟨lk_322, List.forall_mem_cons.mpr ⟨lk_323, List.forall_mem_cons.mpr ⟨lk_430, List.forall_mem_cons.mpr ⟨lk_431, List.forall_mem_cons.mpr ⟨lk_432, List.forall_mem_cons.mpr ⟨lk_433, List.forall_mem_cons.mpr ⟨lk_434, List.forall_mem_cons.mpr ⟨lk_435, List.forall_mem_cons.mpr ⟨lk_436, List.forall_mem_cons.mpr ⟨lk_437, List.forall_mem_cons.mpr ⟨lk_38, (fun _ h => absurd h List.not_mem_nil)⟩⟩⟩⟩⟩⟩⟩⟩⟩⟩⟩⟩⟩⟩⟩⟩⟩⟩⟩⟩⟩⟩⟩⟩)
set_option maxRecDepth 20000 in
theorem lm_wsX4_loop_r4 : ∀ w ∈ wsX4_loop_r4, w ∈ lw_tbl := by
  unfold wsX4_loop_r4
  exact (List.forall_mem_cons.mpr ⟨lk_438, List.forall_mem_cons.mpr ⟨lk_70, List.forall_mem_cons.mpr ⟨lk_71, List.forall_mem_cons.mpr ⟨lk_72, List.forall_mem_cons.mpr ⟨lk_36, List.forall_mem_cons.mpr ⟨lk_283, List.forall_mem_cons.mpr ⟨lk_284, (fun _ h => absurd h List.not_mem_nil)⟩⟩⟩⟩⟩⟩⟩)
set_option maxRecDepth 20000 in
theorem lm_wsX4_loop : ∀ w ∈ wsX4_loop, w ∈ lw_tbl := by
  unfold wsX4_loop
  exact (List.forall_mem_cons.mpr ⟨lk_532, (List.forall_mem_append.mpr ⟨(List.forall_mem_append.mpr ⟨(List.forall_mem_append.mpr ⟨(List.forall_mem_append.mpr ⟨(List.forall_mem_append.mpr ⟨lm_wsX4_loop_r1, (List.forall_mem_append.mpr ⟨lm_wsX4_loop_r2, (List.forall_mem_append.mpr ⟨lm_wsX4_loop_r3, lm_wsX4_loop_r4⟩)⟩)⟩), lm_wsX40⟩), lm_wsX20⟩), lm_wsX10⟩), lm_wsX00⟩)⟩)
set_option maxRecDepth 20000 in
theorem lg_X4_loop : GoodIn lw_tbl wsX4_loop := goodIn_sub lm_wsX4_loop (by decide +kernel)
theorem lk_533 : (Cond.methodLink RL 81 yX4_loop) ∈ lw_tbl := List.mem_of_getElem? (i := 509) (by decide +kernel)
theorem lk_534 : (Cond.instanceMethod yX4_loop) ∈ lw_tbl := List.mem_of_getElem? (i := 510) (by decide +kernel)
theorem lk_535 : (Cond.selects RX4 yX4_loop yX4_loop) ∈ lw_tbl := List.mem_of_getElem? (i := 511) (by decide +kernel)
theorem lG_X4_loop : GoodIn lw_tbl (wsV RL 81 RX4 yX4_loop wsX4_loop) := goodIn_app (goodIn_sub (List.forall_mem_cons.mpr ⟨lk_533, List.forall_mem_cons.mpr ⟨lk_534, List.forall_mem_cons.mpr ⟨lk_535, List.forall_mem_cons.mpr ⟨lk_85, (fun _ h => absurd h List.not_mem_nil)⟩⟩⟩⟩) (by decide +kernel)) lg_X4_loop
theorem lk_536 : (Cond.code yX5_loop cX5_loop 5 (some .int)) ∈ lw_tbl := List.mem_of_getElem? (i := 863) (by decide +kernel)
set_option maxRecDepth 20000 in
theorem lm_wsX5_loop_r1 : ∀ w ∈ wsX5_loop_r1, w ∈ lw_tbl := by
  unfold wsX5_loop_r1
  exact (List.forall_mem_cons.mpr ⟨lk_117, List.forall_mem_cons.mpr ⟨lk_89, List.forall_mem_cons.mpr ⟨lk_99, List.forall_mem_cons.mpr ⟨lk_97, List.forall_mem_cons.mpr ⟨lk_93, List.forall_mem_cons.mpr ⟨lk_352, List.forall_mem_cons.mpr ⟨lk_353, List.forall_mem_cons.mpr ⟨lk_354, List.forall_mem_cons.mpr ⟨lk_102, List.forall_mem_cons.mpr ⟨lk_355, List.forall_mem_cons.mpr ⟨lk_119, List.forall_mem_cons.mpr ⟨lk_120, List.forall_mem_cons.mpr ⟨lk_121, List.forall_mem_cons.mpr ⟨lk_498, List.forall_mem_cons.mpr ⟨lk_499, List.forall_mem_cons.mpr ⟨lk_500, List.forall_mem_cons.mpr ⟨lk_501, List.forall_mem_cons.mpr ⟨lk_328, List.forall_mem_cons.mpr ⟨lk_329, List.forall_mem_cons.mpr ⟨lk_330, List.forall_mem_cons.mpr ⟨lk_331, List.forall_mem_cons.mpr ⟨lk_443, List.forall_mem_cons.mpr ⟨lk_444, List.forall_mem_cons.mpr ⟨lk_445, (fun _ h => absurd h List.not_mem_nil)⟩⟩⟩⟩⟩⟩⟩⟩⟩⟩⟩⟩⟩⟩⟩⟩⟩⟩⟩⟩⟩⟩⟩⟩)
set_option maxRecDepth 20000 in
theorem lm_wsX5_loop_r2 : ∀ w ∈ wsX5_loop_r2, w ∈ lw_tbl := by
  unfold wsX5_loop_r2
  exact (List.forall_mem_cons.mpr ⟨lk_446, List.forall_mem_cons.mpr ⟨lk_447, List.forall_mem_cons.mpr ⟨lk_448, List.forall_mem_cons.mpr ⟨lk_449, List.forall_mem_cons.mpr ⟨lk_450, List.forall_mem_cons.mpr ⟨lk_303, List.forall_mem_cons.mpr ⟨lk_304, List.forall_mem_cons.mpr ⟨lk_305, List.forall_mem_cons.mpr ⟨lk_306, List.forall_mem_cons.mpr ⟨lk_91, List.forall_mem_cons.mpr ⟨lk_307, List.forall_mem_cons.mpr ⟨lk_308, List.forall_mem_cons.mpr ⟨lk_309, List.forall_mem_cons.mpr ⟨lk_310, List.forall_mem_cons.mpr ⟨lk_90, (fun _ h => absurd h List.not_mem_nil)⟩⟩⟩⟩⟩⟩⟩⟩⟩⟩⟩⟩⟩⟩⟩)
set_option maxRecDepth 20000 in
theorem lm_wsX5_loop : ∀ w ∈ wsX5_loop, w ∈ lw_tbl := by
  unfold wsX5_loop
  exact (List.forall_mem_cons.mpr ⟨lk_536, (List.forall_mem_append.mpr ⟨(List.forall_mem_append.mpr ⟨lm_wsX5_loop_r1, lm_wsX5_loop_r2⟩), lm_wsX50⟩)⟩)
set_option maxRecDepth 20000 in
theorem lg_X5_loop : GoodIn lw_tbl wsX5_loop := goodIn_sub lm_wsX5_loop (by decide +kernel)
theorem lk_537 : (Cond.methodLink RL 84 yX5_loop) ∈ lw_tbl := List.mem_of_getElem? (i := 860) (by decide +kernel)
theorem lk_538 : (Cond.instanceMethod yX5_loop) ∈ lw_tbl := List.mem_of_getElem? (i := 861) (by decide +kernel)
theorem lk_539 : (Cond.selects RX5 yX5_loop yX5_loop) ∈ lw_tbl := List.mem_of_getElem? (i := 862) (by decide +kernel)
theorem lG_X5_loop : GoodIn lw_tbl (wsV RL 84 RX5 yX5_loop wsX5_loop) := goodIn_app (goodIn_sub (List.forall_mem_cons.mpr ⟨lk_537, List.forall_mem_cons.mpr ⟨lk_538, List.forall_mem_cons.mpr ⟨lk_539, List.forall_mem_cons.mpr ⟨lk_102, (fun _ h => absurd h List.not_mem_nil)⟩⟩⟩⟩) (by decide +kernel)) lg_X5_loop
theorem lk_540 : (Cond.code yX4_tangled cX4_tangled 4 (some .int)) ∈ lw_tbl := List.mem_of_getElem? (i := 516) (by decide +kernel)
set_option maxRecDepth 20000 in
theorem lm_wsX4_tangled_r1 : ∀ w ∈ wsX4_tangled_r1, w ∈ lw_tbl := by
  unfold wsX4_tangled_r1
  exact (List.forall_mem_cons.mpr ⟨lk_24, List.forall_mem_cons.mpr ⟨lk_16, List.forall_mem_cons.mpr ⟨lk_336, List.forall_mem_cons.mpr ⟨lk_25, List.forall_mem_cons.mpr ⟨lk_342, List.forall_mem_cons.mpr ⟨lk_340, List.forall_mem_cons.mpr ⟨lk_315, List.forall_mem_cons.mpr ⟨lk_343, List.forall_mem_cons.mpr ⟨lk_344, List.forall_mem_cons.mpr ⟨lk_345, List.forall_mem_cons.mpr ⟨lk_85, List.forall_mem_cons.mpr ⟨lk_346, List.forall_mem_cons.mpr ⟨lk_347, List.forall_mem_cons.mpr ⟨lk_105, List.forall_mem_cons.mpr ⟨lk_106, List.forall_mem_cons.mpr ⟨lk_107, List.forall_mem_cons.mpr ⟨lk_485, List.forall_mem_cons.mpr ⟨lk_391, List.forall_mem_cons.mpr ⟨lk_392, List.forall_mem_cons.mpr ⟨lk_23, List.forall_mem_cons.mpr ⟨lk_393, List.forall_mem_cons.mpr ⟨lk_394, List.forall_mem_cons.mpr ⟨lk_395, List.forall_mem_cons.mpr ⟨lk_396, (fun _ h => absurd h List.not_mem_nil)⟩⟩⟩⟩⟩⟩⟩⟩⟩⟩⟩⟩⟩⟩⟩⟩⟩⟩⟩⟩⟩⟩⟩⟩)
set_option maxRecDepth 20000 in
theorem lm_wsX4_tangled_r2 : ∀ w ∈ wsX4_tangled_r2, w ∈ lw_tbl := by
  unfold wsX4_tangled_r2
  exact (List.forall_mem_cons.mpr ⟨lk_397, List.forall_mem_cons.mpr ⟨lk_398, List.forall_mem_cons.mpr ⟨lk_399, List.forall_mem_cons.mpr ⟨lk_400, List.forall_mem_cons.mpr ⟨lk_486, List.forall_mem_cons.mpr ⟨lk_487, List.forall_mem_cons.mpr ⟨lk_488, List.forall_mem_cons.mpr ⟨lk_489, List.forall_mem_cons.mpr ⟨lk_11, List.forall_mem_cons.mpr ⟨lk_276, List.forall_mem_cons.mpr ⟨lk_316, List.forall_mem_cons.mpr ⟨lk_317, List.forall_mem_cons.mpr ⟨lk_318, List.forall_mem_cons.mpr ⟨lk_15, List.forall_mem_cons.mpr ⟨lk_319, List.forall_mem_cons.mpr ⟨lk_218, List.forall_mem_cons.mpr ⟨lk_77, List.forall_mem_cons.mpr ⟨lk_320, List.forall_mem_cons.mpr ⟨lk_321, List.forall_mem_cons.mpr ⟨lk_322, List.forall_mem_cons.mpr ⟨lk_323, List.forall_mem_cons.mpr ⟨lk_430, List.forall_mem_cons.mpr ⟨lk_431, List.forall_mem_cons.mpr ⟨lk_432, (fun _ h => absurd h List.not_mem_nil)⟩⟩⟩⟩⟩⟩⟩⟩⟩⟩⟩⟩⟩⟩⟩⟩⟩⟩⟩⟩⟩⟩⟩⟩)
set_option maxRecDepth 20000 in
theorem lm_wsX4_tangled_r3 : ∀ w ∈ wsX4_tangled_r3, w ∈ lw_tbl := by
  unfold wsX4_tangled_r3
  exact (List.forall_mem_cons.mpr ⟨lk_433, List.forall_mem_cons.mpr ⟨lk_434, List.forall_mem_cons.mpr ⟨lk_435, List.forall_mem_cons.mpr ⟨lk_436, List.forall_mem_cons.mpr ⟨lk_10, List.forall_mem_cons.mpr ⟨lk_437, List.forall_mem_cons.mpr ⟨lk_38, List.forall_mem_cons.mpr ⟨lk_438, List.forall_mem_cons.mpr ⟨lk_70, List.forall_mem_cons.mpr ⟨lk_71, List.forall_mem_cons.mpr ⟨lk_72, List.forall_mem_cons.mpr ⟨lk_36, List.forall_mem_cons.mpr ⟨lk_283, List.forall_mem_cons.mpr ⟨lk_284, (fun _ h => absurd h List.not_mem_nil)⟩⟩⟩⟩⟩⟩⟩⟩⟩⟩⟩⟩⟩⟩)
set_option maxRecDepth 20000 in
theorem lm_wsX4_tangled : ∀ w ∈ wsX4_tangled, w ∈ lw_tbl := by
  unfold wsX4_tangled
  exact (List.forall_mem_cons.mpr ⟨lk_540, (List.forall_mem_append.mpr ⟨(List.forall_mem_append.mpr ⟨(List.forall_mem_append.mpr ⟨(List.forall_mem_append.mpr ⟨(List.forall_mem_append.mpr ⟨lm_wsX4_tangled_r1, (List.forall_mem_append.mpr ⟨lm_wsX4_tangled_r2, lm_wsX4_tangled_r3⟩)⟩), lm_wsX40⟩), lm_wsX20⟩), lm_wsX10⟩), lm_wsX00⟩)⟩)
set_option maxRecDepth 20000 in
theorem lg_X4_tangled : GoodIn lw_tbl wsX4_tangled := goodIn_sub lm_wsX4_tangled (by decide +kernel)
theorem lk_541 : (Cond.methodLink RL 85 yX4_tangled) ∈ lw_tbl := List.mem_of_getElem? (i := 513) (by decide +kernel)
theorem lk_542 : (Cond.instanceMethod yX4_tangled) ∈ lw_tbl := List.mem_of_getElem? (i := 514) (by decide +kernel)
theorem lk_543 : (Cond.selects RX4 yX4_tangled yX4_tangled) ∈ lw_tbl := List.mem_of_getElem? (i := 515) (by decide +kernel)
theorem lG_X4_tangled : GoodIn lw_tbl (wsV RL 85 RX4 yX4_tangled wsX4_tangled) := goodIn_app (goodIn_sub (List.forall_mem_cons.mpr ⟨lk_541, List.forall_mem_cons.mpr ⟨lk_542, List.forall_mem_cons.mpr ⟨lk_543, List.forall_mem_cons.mpr ⟨lk_85, (fun _ h => absurd h List.not_mem_nil)⟩⟩⟩⟩) (by decide +kernel)) lg_X4_tangled
theorem lk_544 : (Cond.code yX5_tangled cX5_tangled 4 (some .int)) ∈ lw_tbl := List.mem_of_getElem? (i := 867) (by decide +kernel)
set_option maxRecDepth 20000 in
theorem lm_wsX5_tangled_r1 : ∀ w ∈ wsX5_tangled_r1, w ∈ lw_tbl := by
  unfold wsX5_tangled_r1
  exact (List.forall_mem_cons.mpr ⟨lk_117, List.forall_mem_cons.mpr ⟨lk_97, List.forall_mem_cons.mpr ⟨lk_98, List.forall_mem_cons.mpr ⟨lk_93, List.forall_mem_cons.mpr ⟨lk_352, List.forall_mem_cons.mpr ⟨lk_353, List.forall_mem_cons.mpr ⟨lk_354, List.forall_mem_cons.mpr ⟨lk_102, List.forall_mem_cons.mpr ⟨lk_355, List.forall_mem_cons.mpr ⟨lk_119, List.forall_mem_cons.mpr ⟨lk_120, List.forall_mem_cons.mpr ⟨lk_121, List.forall_mem_cons.mpr ⟨lk_498, List.forall_mem_cons.mpr ⟨lk_499, List.forall_mem_cons.mpr ⟨lk_500, List.forall_mem_cons.mpr ⟨lk_501, List.forall_mem_cons.mpr ⟨lk_328, List.forall_mem_cons.mpr ⟨lk_329, List.forall_mem_cons.mpr ⟨lk_330, List.forall_mem_cons.mpr ⟨lk_331, List.forall_mem_cons.mpr ⟨lk_89, List.forall_mem_cons.mpr ⟨lk_443, List.forall_mem_cons.mpr ⟨lk_444, List.forall_mem_cons.mpr ⟨lk_445, (fun _ h => absurd h List.not_mem_nil)⟩⟩⟩⟩⟩⟩⟩⟩⟩⟩⟩⟩⟩⟩⟩⟩⟩⟩⟩⟩⟩⟩⟩⟩)
set_option maxRecDepth 20000 in
theorem lm_wsX5_tangled_r2 : ∀ w ∈ wsX5_tangled_r2, w ∈ lw_tbl := by
  unfold wsX5_tangled_r2
  exact (List.forall_mem_cons.mpr ⟨lk_446, List.forall_mem_cons.mpr ⟨lk_447, List.forall_mem_cons.mpr ⟨lk_448, List.forall_mem_cons.mpr ⟨lk_449, List.forall_mem_cons.mpr ⟨lk_450, List.forall_mem_cons.mpr ⟨lk_303, List.forall_mem_cons.mpr ⟨lk_304, List.forall_mem_cons.mpr ⟨lk_305, List.forall_mem_cons.mpr ⟨lk_306, List.forall_mem_cons.mpr ⟨lk_91, List.forall_mem_cons.mpr ⟨lk_307, List.forall_mem_cons.mpr ⟨lk_308, List.forall_mem_cons.mpr ⟨lk_309, List.forall_mem_cons.mpr ⟨lk_310, List.forall_mem_cons.mpr ⟨lk_90, (fun _ h => absurd h List.not_mem_nil)⟩⟩⟩⟩⟩⟩⟩⟩⟩⟩⟩⟩⟩⟩⟩)
set_option maxRecDepth 20000 in
theorem lm_wsX5_tangled : ∀ w ∈ wsX5_tangled, w ∈ lw_tbl := by
  unfold wsX5_tangled
  exact (List.forall_mem_cons.mpr ⟨lk_544, (List.forall_mem_append.mpr ⟨(List.forall_mem_append.mpr ⟨lm_wsX5_tangled_r1, lm_wsX5_tangled_r2⟩), lm_wsX50⟩)⟩)
set_option maxRecDepth 20000 in
theorem lg_X5_tangled : GoodIn lw_tbl wsX5_tangled := goodIn_sub lm_wsX5_tangled (by decide +kernel)
theorem lk_545 : (Cond.methodLink RL 88 yX5_tangled) ∈ lw_tbl := List.mem_of_getElem? (i := 864) (by decide +kernel)
theorem lk_546 : (Cond.instanceMethod yX5_tangled) ∈ lw_tbl := List.mem_of_getElem? (i := 865) (by decide +kernel)
theorem lk_547 : (Cond.selects RX5 yX5_tangled yX5_tangled) ∈ lw_tbl := List.mem_of_getElem? (i := 866) (by decide +kernel)
theorem lG_X5_tangled : GoodIn lw_tbl (wsV RL 88 RX5 yX5_tangled wsX5_tangled) := goodIn_app (goodIn_sub (List.forall_mem_cons.mpr ⟨lk_545, List.forall_mem_cons.mpr ⟨lk_546, List.forall_mem_cons.mpr ⟨lk_547, List.forall_mem_cons.mpr ⟨lk_102, (fun _ h => absurd h List.not_mem_nil)⟩⟩⟩⟩) (by decide +kernel)) lg_X5_tangled
theorem lk_548 : (Cond.code yX4_soonest cX4_soonest 9 (some .int)) ∈ lw_tbl := List.mem_of_getElem? (i := 520) (by decide +kernel)
theorem lk_549 : (Cond.methodLink RX4 190 yX4_supposed) ∈ lw_tbl := List.mem_of_getElem? (i := 521) (by decide +kernel)
theorem lk_550 : (Cond.instanceMethod yX4_supposed) ∈ lw_tbl := List.mem_of_getElem? (i := 523) (by decide +kernel)
theorem lk_551 : (Cond.selects RX4 yX4_supposed yX4_supposed) ∈ lw_tbl := List.mem_of_getElem? (i := 18) (by decide +kernel)
theorem lk_552 : (Cond.code yX4_supposed cX4_supposed 6 (some .int)) ∈ lw_tbl := List.mem_of_getElem? (i := 524) (by decide +kernel)
set_option maxRecDepth 20000 in
theorem lm_wsX4_soonest_r1 : ∀ w ∈ wsX4_soonest_r1, w ∈ lw_tbl := by
  unfold wsX4_soonest_r1
  exact (List.forall_mem_cons.mpr ⟨lk_16, List.forall_mem_cons.mpr ⟨lk_276, List.forall_mem_cons.mpr ⟨lk_373, List.forall_mem_cons.mpr ⟨lk_374, List.forall_mem_cons.mpr ⟨lk_375, List.forall_mem_cons.mpr ⟨lk_85, List.forall_mem_cons.mpr ⟨lk_376, List.forall_mem_cons.mpr ⟨lk_277, List.forall_mem_cons.mpr ⟨lk_278, List.forall_mem_cons.mpr ⟨lk_279, List.forall_mem_cons.mpr ⟨lk_280, List.forall_mem_cons.mpr ⟨lk_11, List.forall_mem_cons.mpr ⟨lk_281, List.forall_mem_cons.mpr ⟨lk_105, List.forall_mem_cons.mpr ⟨lk_106, List.forall_mem_cons.mpr ⟨lk_107, List.forall_mem_cons.mpr ⟨lk_377, List.forall_mem_cons.mpr ⟨lk_378, List.forall_mem_cons.mpr ⟨lk_379, List.forall_mem_cons.mpr ⟨lk_549, List.forall_mem_cons.mpr ⟨lk_550, List.forall_mem_cons.mpr ⟨lk_551, List.forall_mem_cons.mpr ⟨lk_552, List.forall_mem_cons.mpr ⟨lk_24, (fun _ h => absurd h List.not_mem_nil)⟩⟩⟩⟩⟩⟩⟩⟩⟩⟩⟩⟩⟩⟩⟩⟩⟩⟩⟩⟩⟩⟩⟩⟩)
theorem lk_553 : (Cond.fieldLink RX4 257 "WindPost$Letter" "reach" "I") ∈ lw_tbl := List.mem_of_getElem? (i := 211) (by decide +kernel)
set_option maxRecDepth 20000 in
theorem lm_wsX4_soonest_r2 : ∀ w ∈ wsX4_soonest_r2, w ∈ lw_tbl := by
  unfold wsX4_soonest_r2
  exact (List.forall_mem_cons.mpr ⟨lk_553, List.forall_mem_cons.mpr ⟨lk_315, List.forall_mem_cons.mpr ⟨lk_401, List.forall_mem_cons.mpr ⟨lk_402, List.forall_mem_cons.mpr ⟨lk_403, List.forall_mem_cons.mpr ⟨lk_23, List.forall_mem_cons.mpr ⟨lk_404, List.forall_mem_cons.mpr ⟨lk_394, List.forall_mem_cons.mpr ⟨lk_395, List.forall_mem_cons.mpr ⟨lk_396, List.forall_mem_cons.mpr ⟨lk_397, List.forall_mem_cons.mpr ⟨lk_398, List.forall_mem_cons.mpr ⟨lk_399, List.forall_mem_cons.mpr ⟨lk_405, List.forall_mem_cons.mpr ⟨lk_400, List.forall_mem_cons.mpr ⟨lk_406, List.forall_mem_cons.mpr ⟨lk_407, List.forall_mem_cons.mpr ⟨lk_408, List.forall_mem_cons.mpr ⟨lk_10, List.forall_mem_cons.mpr ⟨lk_409, List.forall_mem_cons.mpr ⟨lk_35, List.forall_mem_cons.mpr ⟨lk_506, List.forall_mem_cons.mpr ⟨lk_507, List.forall_mem_cons.mpr ⟨lk_508, (fun _ h => absurd h List.not_mem_nil)⟩⟩⟩⟩⟩⟩⟩⟩⟩⟩⟩⟩⟩⟩⟩⟩⟩⟩⟩⟩⟩⟩⟩⟩)
set_option maxRecDepth 20000 in
theorem lm_wsX4_soonest_r3 : ∀ w ∈ wsX4_soonest_r3, w ∈ lw_tbl := by
  unfold wsX4_soonest_r3
  exact (List.forall_mem_cons.mpr ⟨lk_509, List.forall_mem_cons.mpr ⟨lk_342, List.forall_mem_cons.mpr ⟨lk_463, List.forall_mem_cons.mpr ⟨lk_510, List.forall_mem_cons.mpr ⟨lk_511, List.forall_mem_cons.mpr ⟨lk_59, List.forall_mem_cons.mpr ⟨lk_512, List.forall_mem_cons.mpr ⟨lk_385, List.forall_mem_cons.mpr ⟨lk_58, List.forall_mem_cons.mpr ⟨lk_60, List.forall_mem_cons.mpr ⟨lk_298, List.forall_mem_cons.mpr ⟨lk_54, List.forall_mem_cons.mpr ⟨lk_55, List.forall_mem_cons.mpr ⟨lk_56, List.forall_mem_cons.mpr ⟨lk_43, List.forall_mem_cons.mpr ⟨lk_44, List.forall_mem_cons.mpr ⟨lk_57, List.forall_mem_cons.mpr ⟨lk_316, List.forall_mem_cons.mpr ⟨lk_317, List.forall_mem_cons.mpr ⟨lk_318, List.forall_mem_cons.mpr ⟨lk_15, List.forall_mem_cons.mpr ⟨lk_319, List.forall_mem_cons.mpr ⟨lk_218, List.forall_mem_cons.mpr ⟨lk_77, (fun _ h => absurd h List.not_mem_nil)⟩⟩⟩⟩⟩⟩⟩⟩⟩⟩⟩⟩⟩⟩⟩⟩⟩⟩⟩⟩⟩⟩⟩⟩)
set_option maxRecDepth 20000 in
theorem lm_wsX4_soonest_r4 : ∀ w ∈ wsX4_soonest_r4, w ∈ lw_tbl := by
  unfold wsX4_soonest_r4
  exact (List.forall_mem_cons.mpr ⟨lk_320, List.forall_mem_cons.mpr ⟨lk_321, List.forall_mem_cons.mpr ⟨lk_322, List.forall_mem_cons.mpr ⟨lk_323, List.forall_mem_cons.mpr ⟨lk_430, List.forall_mem_cons.mpr ⟨lk_431, List.forall_mem_cons.mpr ⟨lk_432, List.forall_mem_cons.mpr ⟨lk_433, List.forall_mem_cons.mpr ⟨lk_434, List.forall_mem_cons.mpr ⟨lk_435, List.forall_mem_cons.mpr ⟨lk_436, List.forall_mem_cons.mpr ⟨lk_437, List.forall_mem_cons.mpr ⟨lk_38, List.forall_mem_cons.mpr ⟨lk_438, List.forall_mem_cons.mpr ⟨lk_70, List.forall_mem_cons.mpr ⟨lk_71, List.forall_mem_cons.mpr ⟨lk_72, List.forall_mem_cons.mpr ⟨lk_36, List.forall_mem_cons.mpr ⟨lk_283, List.forall_mem_cons.mpr ⟨lk_284, (fun _ h => absurd h List.not_mem_nil)⟩⟩⟩⟩⟩⟩⟩⟩⟩⟩⟩⟩⟩⟩⟩⟩⟩⟩⟩⟩)
set_option maxRecDepth 20000 in
theorem lm_wsX4_soonest : ∀ w ∈ wsX4_soonest, w ∈ lw_tbl := by
  unfold wsX4_soonest
  exact (List.forall_mem_cons.mpr ⟨lk_548, (List.forall_mem_append.mpr ⟨(List.forall_mem_append.mpr ⟨(List.forall_mem_append.mpr ⟨(List.forall_mem_append.mpr ⟨(List.forall_mem_append.mpr ⟨lm_wsX4_soonest_r1, (List.forall_mem_append.mpr ⟨lm_wsX4_soonest_r2, (List.forall_mem_append.mpr ⟨lm_wsX4_soonest_r3, lm_wsX4_soonest_r4⟩)⟩)⟩), lm_wsX40⟩), lm_wsX20⟩), lm_wsX00⟩), lm_wsX10⟩)⟩)
set_option maxRecDepth 20000 in
theorem lg_X4_soonest : GoodIn lw_tbl wsX4_soonest := goodIn_sub lm_wsX4_soonest (by decide +kernel)
theorem lk_554 : (Cond.methodLink RL 89 yX4_soonest) ∈ lw_tbl := List.mem_of_getElem? (i := 517) (by decide +kernel)
theorem lk_555 : (Cond.instanceMethod yX4_soonest) ∈ lw_tbl := List.mem_of_getElem? (i := 518) (by decide +kernel)
theorem lk_556 : (Cond.selects RX4 yX4_soonest yX4_soonest) ∈ lw_tbl := List.mem_of_getElem? (i := 519) (by decide +kernel)
theorem lG_X4_soonest : GoodIn lw_tbl (wsV RL 89 RX4 yX4_soonest wsX4_soonest) := goodIn_app (goodIn_sub (List.forall_mem_cons.mpr ⟨lk_554, List.forall_mem_cons.mpr ⟨lk_555, List.forall_mem_cons.mpr ⟨lk_556, List.forall_mem_cons.mpr ⟨lk_85, (fun _ h => absurd h List.not_mem_nil)⟩⟩⟩⟩) (by decide +kernel)) lg_X4_soonest
theorem lk_557 : (Cond.code yX5_soonest cX5_soonest 6 (some .int)) ∈ lw_tbl := List.mem_of_getElem? (i := 871) (by decide +kernel)
theorem lk_558 : (Cond.methodLink RX5 164 yX5_bestK) ∈ lw_tbl := List.mem_of_getElem? (i := 872) (by decide +kernel)
theorem lk_559 : (Cond.instanceMethod yX5_bestK) ∈ lw_tbl := List.mem_of_getElem? (i := 874) (by decide +kernel)
theorem lk_560 : (Cond.selects RX5 yX5_bestK yX5_bestK) ∈ lw_tbl := List.mem_of_getElem? (i := 52) (by decide +kernel)
theorem lk_561 : (Cond.code yX5_bestK cX5_bestK 9 (some .int)) ∈ lw_tbl := List.mem_of_getElem? (i := 875) (by decide +kernel)
theorem lk_562 : (Cond.methodLink RX5 160 yX5_comesBy) ∈ lw_tbl := List.mem_of_getElem? (i := 876) (by decide +kernel)
theorem lk_563 : (Cond.instanceMethod yX5_comesBy) ∈ lw_tbl := List.mem_of_getElem? (i := 878) (by decide +kernel)
theorem lk_564 : (Cond.selects RX5 yX5_comesBy yX5_comesBy) ∈ lw_tbl := List.mem_of_getElem? (i := 53) (by decide +kernel)
theorem lk_565 : (Cond.code yX5_comesBy cX5_comesBy 6 (some .int)) ∈ lw_tbl := List.mem_of_getElem? (i := 879) (by decide +kernel)
set_option maxRecDepth 20000 in
theorem lm_wsX5_soonest_r1 : ∀ w ∈ wsX5_soonest_r1, w ∈ lw_tbl := by
  unfold wsX5_soonest_r1
  exact (List.forall_mem_cons.mpr ⟨lk_117, List.forall_mem_cons.mpr ⟨lk_93, List.forall_mem_cons.mpr ⟨lk_414, List.forall_mem_cons.mpr ⟨lk_415, List.forall_mem_cons.mpr ⟨lk_416, List.forall_mem_cons.mpr ⟨lk_102, List.forall_mem_cons.mpr ⟨lk_417, List.forall_mem_cons.mpr ⟨lk_289, List.forall_mem_cons.mpr ⟨lk_290, List.forall_mem_cons.mpr ⟨lk_291, List.forall_mem_cons.mpr ⟨lk_292, List.forall_mem_cons.mpr ⟨lk_89, List.forall_mem_cons.mpr ⟨lk_119, List.forall_mem_cons.mpr ⟨lk_120, List.forall_mem_cons.mpr ⟨lk_121, List.forall_mem_cons.mpr ⟨lk_558, List.forall_mem_cons.mpr ⟨lk_559, List.forall_mem_cons.mpr ⟨lk_560, List.forall_mem_cons.mpr ⟨lk_561, List.forall_mem_cons.mpr ⟨lk_562, List.forall_mem_cons.mpr ⟨lk_563, List.forall_mem_cons.mpr ⟨lk_564, List.forall_mem_cons.mpr ⟨lk_565, List.forall_mem_cons.mpr ⟨lk_97, (fun _ h => absurd h List.not_mem_nil)⟩⟩⟩⟩⟩⟩⟩⟩⟩⟩⟩⟩⟩⟩⟩⟩⟩⟩⟩⟩⟩⟩⟩⟩)
set_option maxRecDepth 20000 in
theorem lm_wsX5_soonest_r2 : ∀ w ∈ wsX5_soonest_r2, w ∈ lw_tbl := by
  unfold wsX5_soonest_r2
  exact (List.forall_mem_cons.mpr ⟨lk_422, List.forall_mem_cons.mpr ⟨lk_423, List.forall_mem_cons.mpr ⟨lk_424, List.forall_mem_cons.mpr ⟨lk_425, List.forall_mem_cons.mpr ⟨lk_90, List.forall_mem_cons.mpr ⟨lk_517, List.forall_mem_cons.mpr ⟨lk_518, List.forall_mem_cons.mpr ⟨lk_519, List.forall_mem_cons.mpr ⟨lk_520, List.forall_mem_cons.mpr ⟨lk_328, List.forall_mem_cons.mpr ⟨lk_329, List.forall_mem_cons.mpr ⟨lk_330, List.forall_mem_cons.mpr ⟨lk_331, List.forall_mem_cons.mpr ⟨lk_443, List.forall_mem_cons.mpr ⟨lk_444, List.forall_mem_cons.mpr ⟨lk_445, List.forall_mem_cons.mpr ⟨lk_446, List.forall_mem_cons.mpr ⟨lk_447, List.forall_mem_cons.mpr ⟨lk_448, List.forall_mem_cons.mpr ⟨lk_449, List.forall_mem_cons.mpr ⟨lk_450, List.forall_mem_cons.mpr ⟨lk_303, List.forall_mem_cons.mpr ⟨lk_304, List.forall_mem_cons.mpr ⟨lk_305, (fun _ h => absurd h List.not_mem_nil)⟩⟩⟩⟩⟩⟩⟩⟩⟩⟩⟩⟩⟩⟩⟩⟩⟩⟩⟩⟩⟩⟩⟩⟩)
set_option maxRecDepth 20000 in
theorem lm_wsX5_soonest_r3 : ∀ w ∈ wsX5_soonest_r3, w ∈ lw_tbl := by
  unfold wsX5_soonest_r3
  exact (List.forall_mem_cons.mpr ⟨lk_306, List.forall_mem_cons.mpr ⟨lk_91, List.forall_mem_cons.mpr ⟨lk_307, List.forall_mem_cons.mpr ⟨lk_308, List.forall_mem_cons.mpr ⟨lk_309, List.forall_mem_cons.mpr ⟨lk_310, (fun _ h => absurd h List.not_mem_nil)⟩⟩⟩⟩⟩⟩)
set_option maxRecDepth 20000 in
theorem lm_wsX5_soonest : ∀ w ∈ wsX5_soonest, w ∈ lw_tbl := by
  unfold wsX5_soonest
  exact (List.forall_mem_cons.mpr ⟨lk_557, (List.forall_mem_append.mpr ⟨(List.forall_mem_append.mpr ⟨lm_wsX5_soonest_r1, (List.forall_mem_append.mpr ⟨lm_wsX5_soonest_r2, lm_wsX5_soonest_r3⟩)⟩), lm_wsX50⟩)⟩)
set_option maxRecDepth 20000 in
theorem lg_X5_soonest : GoodIn lw_tbl wsX5_soonest := goodIn_sub lm_wsX5_soonest (by decide +kernel)
theorem lk_566 : (Cond.methodLink RL 93 yX5_soonest) ∈ lw_tbl := List.mem_of_getElem? (i := 868) (by decide +kernel)
theorem lk_567 : (Cond.instanceMethod yX5_soonest) ∈ lw_tbl := List.mem_of_getElem? (i := 869) (by decide +kernel)
theorem lk_568 : (Cond.selects RX5 yX5_soonest yX5_soonest) ∈ lw_tbl := List.mem_of_getElem? (i := 870) (by decide +kernel)
theorem lG_X5_soonest : GoodIn lw_tbl (wsV RL 93 RX5 yX5_soonest wsX5_soonest) := goodIn_app (goodIn_sub (List.forall_mem_cons.mpr ⟨lk_566, List.forall_mem_cons.mpr ⟨lk_567, List.forall_mem_cons.mpr ⟨lk_568, List.forall_mem_cons.mpr ⟨lk_102, (fun _ h => absurd h List.not_mem_nil)⟩⟩⟩⟩) (by decide +kernel)) lg_X5_soonest
theorem lk_569 : (Cond.code yX4_lightest cX4_lightest 6 (some .int)) ∈ lw_tbl := List.mem_of_getElem? (i := 528) (by decide +kernel)
set_option maxRecDepth 20000 in
theorem lm_wsX4_lightest_r1 : ∀ w ∈ wsX4_lightest_r1, w ∈ lw_tbl := by
  unfold wsX4_lightest_r1
  exact (List.forall_mem_cons.mpr ⟨lk_16, List.forall_mem_cons.mpr ⟨lk_276, List.forall_mem_cons.mpr ⟨lk_373, List.forall_mem_cons.mpr ⟨lk_374, List.forall_mem_cons.mpr ⟨lk_375, List.forall_mem_cons.mpr ⟨lk_85, List.forall_mem_cons.mpr ⟨lk_376, List.forall_mem_cons.mpr ⟨lk_277, List.forall_mem_cons.mpr ⟨lk_278, List.forall_mem_cons.mpr ⟨lk_279, List.forall_mem_cons.mpr ⟨lk_280, List.forall_mem_cons.mpr ⟨lk_11, List.forall_mem_cons.mpr ⟨lk_281, List.forall_mem_cons.mpr ⟨lk_105, List.forall_mem_cons.mpr ⟨lk_106, List.forall_mem_cons.mpr ⟨lk_107, List.forall_mem_cons.mpr ⟨lk_549, List.forall_mem_cons.mpr ⟨lk_550, List.forall_mem_cons.mpr ⟨lk_551, List.forall_mem_cons.mpr ⟨lk_552, List.forall_mem_cons.mpr ⟨lk_24, List.forall_mem_cons.mpr ⟨lk_553, List.forall_mem_cons.mpr ⟨lk_315, List.forall_mem_cons.mpr ⟨lk_401, (fun _ h => absurd h List.not_mem_nil)⟩⟩⟩⟩⟩⟩⟩⟩⟩⟩⟩⟩⟩⟩⟩⟩⟩⟩⟩⟩⟩⟩⟩⟩)
set_option maxRecDepth 20000 in
theorem lm_wsX4_lightest_r2 : ∀ w ∈ wsX4_lightest_r2, w ∈ lw_tbl := by
  unfold wsX4_lightest_r2
  exact (List.forall_mem_cons.mpr ⟨lk_402, List.forall_mem_cons.mpr ⟨lk_403, List.forall_mem_cons.mpr ⟨lk_23, List.forall_mem_cons.mpr ⟨lk_404, List.forall_mem_cons.mpr ⟨lk_394, List.forall_mem_cons.mpr ⟨lk_395, List.forall_mem_cons.mpr ⟨lk_396, List.forall_mem_cons.mpr ⟨lk_397, List.forall_mem_cons.mpr ⟨lk_398, List.forall_mem_cons.mpr ⟨lk_399, List.forall_mem_cons.mpr ⟨lk_405, List.forall_mem_cons.mpr ⟨lk_400, List.forall_mem_cons.mpr ⟨lk_406, List.forall_mem_cons.mpr ⟨lk_407, List.forall_mem_cons.mpr ⟨lk_408, List.forall_mem_cons.mpr ⟨lk_10, List.forall_mem_cons.mpr ⟨lk_409, List.forall_mem_cons.mpr ⟨lk_35, List.forall_mem_cons.mpr ⟨lk_506, List.forall_mem_cons.mpr ⟨lk_507, List.forall_mem_cons.mpr ⟨lk_508, List.forall_mem_cons.mpr ⟨lk_509, List.forall_mem_cons.mpr ⟨lk_342, List.forall_mem_cons.mpr ⟨lk_463, (fun _ h => absurd h List.not_mem_nil)⟩⟩⟩⟩⟩⟩⟩⟩⟩⟩⟩⟩⟩⟩⟩⟩⟩⟩⟩⟩⟩⟩⟩⟩)
set_option maxRecDepth 20000 in
theorem lm_wsX4_lightest_r3 : ∀ w ∈ wsX4_lightest_r3, w ∈ lw_tbl := by
  unfold wsX4_lightest_r3
  exact (List.forall_mem_cons.mpr ⟨lk_510, List.forall_mem_cons.mpr ⟨lk_511, List.forall_mem_cons.mpr ⟨lk_59, List.forall_mem_cons.mpr ⟨lk_512, List.forall_mem_cons.mpr ⟨lk_385, List.forall_mem_cons.mpr ⟨lk_58, List.forall_mem_cons.mpr ⟨lk_60, List.forall_mem_cons.mpr ⟨lk_298, List.forall_mem_cons.mpr ⟨lk_54, List.forall_mem_cons.mpr ⟨lk_55, List.forall_mem_cons.mpr ⟨lk_56, List.forall_mem_cons.mpr ⟨lk_43, List.forall_mem_cons.mpr ⟨lk_44, List.forall_mem_cons.mpr ⟨lk_57, List.forall_mem_cons.mpr ⟨lk_316, List.forall_mem_cons.mpr ⟨lk_317, List.forall_mem_cons.mpr ⟨lk_318, List.forall_mem_cons.mpr ⟨lk_15, List.forall_mem_cons.mpr ⟨lk_319, List.forall_mem_cons.mpr ⟨lk_218, List.forall_mem_cons.mpr ⟨lk_77, List.forall_mem_cons.mpr ⟨lk_320, List.forall_mem_cons.mpr ⟨lk_321, List.forall_mem_cons.mpr ⟨lk_322, (fun _ h => absurd h List.not_mem_nil)⟩⟩⟩⟩⟩⟩⟩⟩⟩⟩⟩⟩⟩⟩⟩⟩⟩⟩⟩⟩⟩⟩⟩⟩)
set_option maxRecDepth 20000 in
theorem lm_wsX4_lightest_r4 : ∀ w ∈ wsX4_lightest_r4, w ∈ lw_tbl := by
  unfold wsX4_lightest_r4
  exact (List.forall_mem_cons.mpr ⟨lk_323, List.forall_mem_cons.mpr ⟨lk_430, List.forall_mem_cons.mpr ⟨lk_431, List.forall_mem_cons.mpr ⟨lk_432, List.forall_mem_cons.mpr ⟨lk_433, List.forall_mem_cons.mpr ⟨lk_434, List.forall_mem_cons.mpr ⟨lk_435, List.forall_mem_cons.mpr ⟨lk_436, List.forall_mem_cons.mpr ⟨lk_437, List.forall_mem_cons.mpr ⟨lk_38, List.forall_mem_cons.mpr ⟨lk_438, List.forall_mem_cons.mpr ⟨lk_70, List.forall_mem_cons.mpr ⟨lk_71, List.forall_mem_cons.mpr ⟨lk_72, List.forall_mem_cons.mpr ⟨lk_36, List.forall_mem_cons.mpr ⟨lk_283, List.forall_mem_cons.mpr ⟨lk_284, (fun _ h => absurd h List.not_mem_nil)⟩⟩⟩⟩⟩⟩⟩⟩⟩⟩⟩⟩⟩⟩⟩⟩⟩)
set_option maxRecDepth 20000 in
theorem lm_wsX4_lightest : ∀ w ∈ wsX4_lightest, w ∈ lw_tbl := by
  unfold wsX4_lightest
  exact (List.forall_mem_cons.mpr ⟨lk_569, (List.forall_mem_append.mpr ⟨(List.forall_mem_append.mpr ⟨(List.forall_mem_append.mpr ⟨(List.forall_mem_append.mpr ⟨(List.forall_mem_append.mpr ⟨lm_wsX4_lightest_r1, (List.forall_mem_append.mpr ⟨lm_wsX4_lightest_r2, (List.forall_mem_append.mpr ⟨lm_wsX4_lightest_r3, lm_wsX4_lightest_r4⟩)⟩)⟩), lm_wsX40⟩), lm_wsX20⟩), lm_wsX00⟩), lm_wsX10⟩)⟩)
set_option maxRecDepth 20000 in
theorem lg_X4_lightest : GoodIn lw_tbl wsX4_lightest := goodIn_sub lm_wsX4_lightest (by decide +kernel)
theorem lk_570 : (Cond.methodLink RL 94 yX4_lightest) ∈ lw_tbl := List.mem_of_getElem? (i := 525) (by decide +kernel)
theorem lk_571 : (Cond.instanceMethod yX4_lightest) ∈ lw_tbl := List.mem_of_getElem? (i := 526) (by decide +kernel)
theorem lk_572 : (Cond.selects RX4 yX4_lightest yX4_lightest) ∈ lw_tbl := List.mem_of_getElem? (i := 527) (by decide +kernel)
theorem lG_X4_lightest : GoodIn lw_tbl (wsV RL 94 RX4 yX4_lightest wsX4_lightest) := goodIn_app (goodIn_sub (List.forall_mem_cons.mpr ⟨lk_570, List.forall_mem_cons.mpr ⟨lk_571, List.forall_mem_cons.mpr ⟨lk_572, List.forall_mem_cons.mpr ⟨lk_85, (fun _ h => absurd h List.not_mem_nil)⟩⟩⟩⟩) (by decide +kernel)) lg_X4_lightest
theorem lk_573 : (Cond.code yX5_lightest cX5_lightest 6 (some .int)) ∈ lw_tbl := List.mem_of_getElem? (i := 883) (by decide +kernel)
set_option maxRecDepth 20000 in
theorem lm_wsX5_lightest_r1 : ∀ w ∈ wsX5_lightest_r1, w ∈ lw_tbl := by
  unfold wsX5_lightest_r1
  exact (List.forall_mem_cons.mpr ⟨lk_117, List.forall_mem_cons.mpr ⟨lk_93, List.forall_mem_cons.mpr ⟨lk_414, List.forall_mem_cons.mpr ⟨lk_415, List.forall_mem_cons.mpr ⟨lk_416, List.forall_mem_cons.mpr ⟨lk_102, List.forall_mem_cons.mpr ⟨lk_417, List.forall_mem_cons.mpr ⟨lk_289, List.forall_mem_cons.mpr ⟨lk_290, List.forall_mem_cons.mpr ⟨lk_291, List.forall_mem_cons.mpr ⟨lk_292, List.forall_mem_cons.mpr ⟨lk_89, List.forall_mem_cons.mpr ⟨lk_119, List.forall_mem_cons.mpr ⟨lk_120, List.forall_mem_cons.mpr ⟨lk_121, List.forall_mem_cons.mpr ⟨lk_562, List.forall_mem_cons.mpr ⟨lk_563, List.forall_mem_cons.mpr ⟨lk_564, List.forall_mem_cons.mpr ⟨lk_565, List.forall_mem_cons.mpr ⟨lk_97, List.forall_mem_cons.mpr ⟨lk_422, List.forall_mem_cons.mpr ⟨lk_423, List.forall_mem_cons.mpr ⟨lk_424, List.forall_mem_cons.mpr ⟨lk_425, (fun _ h => absurd h List.not_mem_nil)⟩⟩⟩⟩⟩⟩⟩⟩⟩⟩⟩⟩⟩⟩⟩⟩⟩⟩⟩⟩⟩⟩⟩⟩)
set_option maxRecDepth 20000 in
theorem lm_wsX5_lightest_r2 : ∀ w ∈ wsX5_lightest_r2, w ∈ lw_tbl := by
  unfold wsX5_lightest_r2
  exact (List.forall_mem_cons.mpr ⟨lk_90, List.forall_mem_cons.mpr ⟨lk_517, List.forall_mem_cons.mpr ⟨lk_518, List.forall_mem_cons.mpr ⟨lk_519, List.forall_mem_cons.mpr ⟨lk_520, List.forall_mem_cons.mpr ⟨lk_328, List.forall_mem_cons.mpr ⟨lk_329, List.forall_mem_cons.mpr ⟨lk_330, List.forall_mem_cons.mpr ⟨lk_331, List.forall_mem_cons.mpr ⟨lk_443, List.forall_mem_cons.mpr ⟨lk_444, List.forall_mem_cons.mpr ⟨lk_445, List.forall_mem_cons.mpr ⟨lk_446, List.forall_mem_cons.mpr ⟨lk_447, List.forall_mem_cons.mpr ⟨lk_448, List.forall_mem_cons.mpr ⟨lk_449, List.forall_mem_cons.mpr ⟨lk_450, List.forall_mem_cons.mpr ⟨lk_303, List.forall_mem_cons.mpr ⟨lk_304, List.forall_mem_cons.mpr ⟨lk_305, List.forall_mem_cons.mpr ⟨lk_306, List.forall_mem_cons.mpr ⟨lk_91, List.forall_mem_cons.mpr ⟨lk_307, List.forall_mem_cons.mpr ⟨lk_308, (fun _ h => absurd h List.not_mem_nil)⟩⟩⟩⟩⟩⟩⟩⟩⟩⟩⟩⟩⟩⟩⟩⟩⟩⟩⟩⟩⟩⟩⟩⟩)
set_option maxRecDepth 20000 in
theorem lm_wsX5_lightest_r3 : ∀ w ∈ wsX5_lightest_r3, w ∈ lw_tbl := by
  unfold wsX5_lightest_r3
  exact (List.forall_mem_cons.mpr ⟨lk_309, List.forall_mem_cons.mpr ⟨lk_310, (fun _ h => absurd h List.not_mem_nil)⟩⟩)
set_option maxRecDepth 20000 in
theorem lm_wsX5_lightest : ∀ w ∈ wsX5_lightest, w ∈ lw_tbl := by
  unfold wsX5_lightest
  exact (List.forall_mem_cons.mpr ⟨lk_573, (List.forall_mem_append.mpr ⟨(List.forall_mem_append.mpr ⟨lm_wsX5_lightest_r1, (List.forall_mem_append.mpr ⟨lm_wsX5_lightest_r2, lm_wsX5_lightest_r3⟩)⟩), lm_wsX50⟩)⟩)
set_option maxRecDepth 20000 in
theorem lg_X5_lightest : GoodIn lw_tbl wsX5_lightest := goodIn_sub lm_wsX5_lightest (by decide +kernel)
theorem lk_574 : (Cond.methodLink RL 97 yX5_lightest) ∈ lw_tbl := List.mem_of_getElem? (i := 880) (by decide +kernel)
theorem lk_575 : (Cond.instanceMethod yX5_lightest) ∈ lw_tbl := List.mem_of_getElem? (i := 881) (by decide +kernel)
theorem lk_576 : (Cond.selects RX5 yX5_lightest yX5_lightest) ∈ lw_tbl := List.mem_of_getElem? (i := 882) (by decide +kernel)
theorem lG_X5_lightest : GoodIn lw_tbl (wsV RL 97 RX5 yX5_lightest wsX5_lightest) := goodIn_app (goodIn_sub (List.forall_mem_cons.mpr ⟨lk_574, List.forall_mem_cons.mpr ⟨lk_575, List.forall_mem_cons.mpr ⟨lk_576, List.forall_mem_cons.mpr ⟨lk_102, (fun _ h => absurd h List.not_mem_nil)⟩⟩⟩⟩) (by decide +kernel)) lg_X5_lightest
theorem lk_577 : (Cond.code yX4_words cX4_words 4 (some .int)) ∈ lw_tbl := List.mem_of_getElem? (i := 532) (by decide +kernel)
theorem lk_578 : (Cond.methodLink RX4 197 yX4_hasWordOf) ∈ lw_tbl := List.mem_of_getElem? (i := 533) (by decide +kernel)
theorem lk_579 : (Cond.instanceMethod yX4_hasWordOf) ∈ lw_tbl := List.mem_of_getElem? (i := 535) (by decide +kernel)
theorem lk_580 : (Cond.selects RX4 yX4_hasWordOf yX4_hasWordOf) ∈ lw_tbl := List.mem_of_getElem? (i := 19) (by decide +kernel)
theorem lk_581 : (Cond.code yX4_hasWordOf cX4_hasWordOf 4 (some .boolean)) ∈ lw_tbl := List.mem_of_getElem? (i := 536) (by decide +kernel)
theorem lk_582 : (Cond.methodLink RX4 205 yX4_keepsOff) ∈ lw_tbl := List.mem_of_getElem? (i := 537) (by decide +kernel)
theorem lk_583 : (Cond.instanceMethod yX4_keepsOff) ∈ lw_tbl := List.mem_of_getElem? (i := 539) (by decide +kernel)
theorem lk_584 : (Cond.selects RX4 yX4_keepsOff yX4_keepsOff) ∈ lw_tbl := List.mem_of_getElem? (i := 20) (by decide +kernel)
theorem lk_585 : (Cond.code yX4_keepsOff cX4_keepsOff 6 (some .boolean)) ∈ lw_tbl := List.mem_of_getElem? (i := 540) (by decide +kernel)
set_option maxRecDepth 20000 in
theorem lm_wsX4_words_r1 : ∀ w ∈ wsX4_words_r1, w ∈ lw_tbl := by
  unfold wsX4_words_r1
  exact (List.forall_mem_cons.mpr ⟨lk_11, List.forall_mem_cons.mpr ⟨lk_281, List.forall_mem_cons.mpr ⟨lk_277, List.forall_mem_cons.mpr ⟨lk_278, List.forall_mem_cons.mpr ⟨lk_279, List.forall_mem_cons.mpr ⟨lk_85, List.forall_mem_cons.mpr ⟨lk_280, List.forall_mem_cons.mpr ⟨lk_105, List.forall_mem_cons.mpr ⟨lk_106, List.forall_mem_cons.mpr ⟨lk_107, List.forall_mem_cons.mpr ⟨lk_578, List.forall_mem_cons.mpr ⟨lk_579, List.forall_mem_cons.mpr ⟨lk_580, List.forall_mem_cons.mpr ⟨lk_581, List.forall_mem_cons.mpr ⟨lk_582, List.forall_mem_cons.mpr ⟨lk_583, List.forall_mem_cons.mpr ⟨lk_584, List.forall_mem_cons.mpr ⟨lk_585, List.forall_mem_cons.mpr ⟨lk_16, List.forall_mem_cons.mpr ⟨lk_276, List.forall_mem_cons.mpr ⟨lk_549, List.forall_mem_cons.mpr ⟨lk_550, List.forall_mem_cons.mpr ⟨lk_551, List.forall_mem_cons.mpr ⟨lk_552, (fun _ h => absurd h List.not_mem_nil)⟩⟩⟩⟩⟩⟩⟩⟩⟩⟩⟩⟩⟩⟩⟩⟩⟩⟩⟩⟩⟩⟩⟩⟩)
set_option maxRecDepth 20000 in
theorem lm_wsX4_words_r2 : ∀ w ∈ wsX4_words_r2, w ∈ lw_tbl := by
  unfold wsX4_words_r2
  exact (List.forall_mem_cons.mpr ⟨lk_24, List.forall_mem_cons.mpr ⟨lk_553, List.forall_mem_cons.mpr ⟨lk_315, List.forall_mem_cons.mpr ⟨lk_401, List.forall_mem_cons.mpr ⟨lk_402, List.forall_mem_cons.mpr ⟨lk_403, List.forall_mem_cons.mpr ⟨lk_23, List.forall_mem_cons.mpr ⟨lk_404, List.forall_mem_cons.mpr ⟨lk_394, List.forall_mem_cons.mpr ⟨lk_395, List.forall_mem_cons.mpr ⟨lk_396, List.forall_mem_cons.mpr ⟨lk_397, List.forall_mem_cons.mpr ⟨lk_398, List.forall_mem_cons.mpr ⟨lk_399, List.forall_mem_cons.mpr ⟨lk_405, List.forall_mem_cons.mpr ⟨lk_400, List.forall_mem_cons.mpr ⟨lk_406, List.forall_mem_cons.mpr ⟨lk_407, List.forall_mem_cons.mpr ⟨lk_408, List.forall_mem_cons.mpr ⟨lk_10, List.forall_mem_cons.mpr ⟨lk_409, List.forall_mem_cons.mpr ⟨lk_35, List.forall_mem_cons.mpr ⟨lk_506, List.forall_mem_cons.mpr ⟨lk_507, (fun _ h => absurd h List.not_mem_nil)⟩⟩⟩⟩⟩⟩⟩⟩⟩⟩⟩⟩⟩⟩⟩⟩⟩⟩⟩⟩⟩⟩⟩⟩)
set_option maxRecDepth 20000 in
theorem lm_wsX4_words_r3 : ∀ w ∈ wsX4_words_r3, w ∈ lw_tbl := by
  unfold wsX4_words_r3
  exact (List.forall_mem_cons.mpr ⟨lk_508, List.forall_mem_cons.mpr ⟨lk_509, List.forall_mem_cons.mpr ⟨lk_342, List.forall_mem_cons.mpr ⟨lk_463, List.forall_mem_cons.mpr ⟨lk_510, List.forall_mem_cons.mpr ⟨lk_511, List.forall_mem_cons.mpr ⟨lk_59, List.forall_mem_cons.mpr ⟨lk_512, List.forall_mem_cons.mpr ⟨lk_385, List.forall_mem_cons.mpr ⟨lk_58, List.forall_mem_cons.mpr ⟨lk_60, List.forall_mem_cons.mpr ⟨lk_298, List.forall_mem_cons.mpr ⟨lk_54, List.forall_mem_cons.mpr ⟨lk_55, List.forall_mem_cons.mpr ⟨lk_56, List.forall_mem_cons.mpr ⟨lk_43, List.forall_mem_cons.mpr ⟨lk_44, List.forall_mem_cons.mpr ⟨lk_57, List.forall_mem_cons.mpr ⟨lk_316, List.forall_mem_cons.mpr ⟨lk_317, List.forall_mem_cons.mpr ⟨lk_318, List.forall_mem_cons.mpr ⟨lk_15, List.forall_mem_cons.mpr ⟨lk_319, List.forall_mem_cons.mpr ⟨lk_218, (fun _ h => absurd h List.not_mem_nil)⟩⟩⟩⟩⟩⟩⟩⟩⟩⟩⟩⟩⟩⟩⟩⟩⟩⟩⟩⟩⟩⟩⟩⟩)
set_option maxRecDepth 20000 in
theorem lm_wsX4_words_r4 : ∀ w ∈ wsX4_words_r4, w ∈ lw_tbl := by
  unfold wsX4_words_r4
  exact (List.forall_mem_cons.mpr ⟨lk_77, List.forall_mem_cons.mpr ⟨lk_320, List.forall_mem_cons.mpr ⟨lk_321, List.forall_mem_cons.mpr ⟨lk_322, List.forall_mem_cons.mpr ⟨lk_323, List.forall_mem_cons.mpr ⟨lk_430, List.forall_mem_cons.mpr ⟨lk_431, List.forall_mem_cons.mpr ⟨lk_432, List.forall_mem_cons.mpr ⟨lk_433, List.forall_mem_cons.mpr ⟨lk_434, List.forall_mem_cons.mpr ⟨lk_435, List.forall_mem_cons.mpr ⟨lk_436, List.forall_mem_cons.mpr ⟨lk_437, List.forall_mem_cons.mpr ⟨lk_38, List.forall_mem_cons.mpr ⟨lk_438, List.forall_mem_cons.mpr ⟨lk_70, List.forall_mem_cons.mpr ⟨lk_71, List.forall_mem_cons.mpr ⟨lk_72, List.forall_mem_cons.mpr ⟨lk_36, List.forall_mem_cons.mpr ⟨lk_283, List.forall_mem_cons.mpr ⟨lk_284, (fun _ h => absurd h List.not_mem_nil)⟩⟩⟩⟩⟩⟩⟩⟩⟩⟩⟩⟩⟩⟩⟩⟩⟩⟩⟩⟩⟩)
set_option maxRecDepth 20000 in
theorem lm_wsX4_words : ∀ w ∈ wsX4_words, w ∈ lw_tbl := by
  unfold wsX4_words
  exact (List.forall_mem_cons.mpr ⟨lk_577, (List.forall_mem_append.mpr ⟨(List.forall_mem_append.mpr ⟨(List.forall_mem_append.mpr ⟨(List.forall_mem_append.mpr ⟨(List.forall_mem_append.mpr ⟨lm_wsX4_words_r1, (List.forall_mem_append.mpr ⟨lm_wsX4_words_r2, (List.forall_mem_append.mpr ⟨lm_wsX4_words_r3, lm_wsX4_words_r4⟩)⟩)⟩), lm_wsX40⟩), lm_wsX00⟩), lm_wsX20⟩), lm_wsX10⟩)⟩)
set_option maxRecDepth 20000 in
theorem lg_X4_words : GoodIn lw_tbl wsX4_words := goodIn_sub lm_wsX4_words (by decide +kernel)
theorem lk_586 : (Cond.methodLink RL 98 yX4_words) ∈ lw_tbl := List.mem_of_getElem? (i := 529) (by decide +kernel)
theorem lk_587 : (Cond.instanceMethod yX4_words) ∈ lw_tbl := List.mem_of_getElem? (i := 530) (by decide +kernel)
theorem lk_588 : (Cond.selects RX4 yX4_words yX4_words) ∈ lw_tbl := List.mem_of_getElem? (i := 531) (by decide +kernel)
theorem lG_X4_words : GoodIn lw_tbl (wsV RL 98 RX4 yX4_words wsX4_words) := goodIn_app (goodIn_sub (List.forall_mem_cons.mpr ⟨lk_586, List.forall_mem_cons.mpr ⟨lk_587, List.forall_mem_cons.mpr ⟨lk_588, List.forall_mem_cons.mpr ⟨lk_85, (fun _ h => absurd h List.not_mem_nil)⟩⟩⟩⟩) (by decide +kernel)) lg_X4_words
theorem lk_589 : (Cond.code yX5_words cX5_words 5 (some .int)) ∈ lw_tbl := List.mem_of_getElem? (i := 887) (by decide +kernel)
set_option maxRecDepth 20000 in
theorem lm_wsX5_words_r1 : ∀ w ∈ wsX5_words_r1, w ∈ lw_tbl := by
  unfold wsX5_words_r1
  exact (List.forall_mem_cons.mpr ⟨lk_117, List.forall_mem_cons.mpr ⟨lk_89, List.forall_mem_cons.mpr ⟨lk_93, List.forall_mem_cons.mpr ⟨lk_289, List.forall_mem_cons.mpr ⟨lk_290, List.forall_mem_cons.mpr ⟨lk_291, List.forall_mem_cons.mpr ⟨lk_102, List.forall_mem_cons.mpr ⟨lk_292, List.forall_mem_cons.mpr ⟨lk_119, List.forall_mem_cons.mpr ⟨lk_120, List.forall_mem_cons.mpr ⟨lk_121, List.forall_mem_cons.mpr ⟨lk_558, List.forall_mem_cons.mpr ⟨lk_559, List.forall_mem_cons.mpr ⟨lk_560, List.forall_mem_cons.mpr ⟨lk_561, List.forall_mem_cons.mpr ⟨lk_562, List.forall_mem_cons.mpr ⟨lk_563, List.forall_mem_cons.mpr ⟨lk_564, List.forall_mem_cons.mpr ⟨lk_565, List.forall_mem_cons.mpr ⟨lk_97, List.forall_mem_cons.mpr ⟨lk_422, List.forall_mem_cons.mpr ⟨lk_423, List.forall_mem_cons.mpr ⟨lk_424, List.forall_mem_cons.mpr ⟨lk_425, (fun _ h => absurd h List.not_mem_nil)⟩⟩⟩⟩⟩⟩⟩⟩⟩⟩⟩⟩⟩⟩⟩⟩⟩⟩⟩⟩⟩⟩⟩⟩)
set_option maxRecDepth 20000 in
theorem lm_wsX5_words_r2 : ∀ w ∈ wsX5_words_r2, w ∈ lw_tbl := by
  unfold wsX5_words_r2
  exact (List.forall_mem_cons.mpr ⟨lk_90, List.forall_mem_cons.mpr ⟨lk_517, List.forall_mem_cons.mpr ⟨lk_518, List.forall_mem_cons.mpr ⟨lk_519, List.forall_mem_cons.mpr ⟨lk_520, List.forall_mem_cons.mpr ⟨lk_328, List.forall_mem_cons.mpr ⟨lk_329, List.forall_mem_cons.mpr ⟨lk_330, List.forall_mem_cons.mpr ⟨lk_331, List.forall_mem_cons.mpr ⟨lk_443, List.forall_mem_cons.mpr ⟨lk_444, List.forall_mem_cons.mpr ⟨lk_445, List.forall_mem_cons.mpr ⟨lk_446, List.forall_mem_cons.mpr ⟨lk_447, List.forall_mem_cons.mpr ⟨lk_448, List.forall_mem_cons.mpr ⟨lk_449, List.forall_mem_cons.mpr ⟨lk_450, List.forall_mem_cons.mpr ⟨lk_303, List.forall_mem_cons.mpr ⟨lk_304, List.forall_mem_cons.mpr ⟨lk_305, List.forall_mem_cons.mpr ⟨lk_306, List.forall_mem_cons.mpr ⟨lk_91, List.forall_mem_cons.mpr ⟨lk_307, List.forall_mem_cons.mpr ⟨lk_308, (fun _ h => absurd h List.not_mem_nil)⟩⟩⟩⟩⟩⟩⟩⟩⟩⟩⟩⟩⟩⟩⟩⟩⟩⟩⟩⟩⟩⟩⟩⟩)
set_option maxRecDepth 20000 in
theorem lm_wsX5_words_r3 : ∀ w ∈ wsX5_words_r3, w ∈ lw_tbl := by
  unfold wsX5_words_r3
  exact (List.forall_mem_cons.mpr ⟨lk_309, List.forall_mem_cons.mpr ⟨lk_310, (fun _ h => absurd h List.not_mem_nil)⟩⟩)
set_option maxRecDepth 20000 in
theorem lm_wsX5_words : ∀ w ∈ wsX5_words, w ∈ lw_tbl := by
  unfold wsX5_words
  exact (List.forall_mem_cons.mpr ⟨lk_589, (List.forall_mem_append.mpr ⟨(List.forall_mem_append.mpr ⟨lm_wsX5_words_r1, (List.forall_mem_append.mpr ⟨lm_wsX5_words_r2, lm_wsX5_words_r3⟩)⟩), lm_wsX50⟩)⟩)
set_option maxRecDepth 20000 in
theorem lg_X5_words : GoodIn lw_tbl wsX5_words := goodIn_sub lm_wsX5_words (by decide +kernel)
theorem lk_590 : (Cond.methodLink RL 101 yX5_words) ∈ lw_tbl := List.mem_of_getElem? (i := 884) (by decide +kernel)
theorem lk_591 : (Cond.instanceMethod yX5_words) ∈ lw_tbl := List.mem_of_getElem? (i := 885) (by decide +kernel)
theorem lk_592 : (Cond.selects RX5 yX5_words yX5_words) ∈ lw_tbl := List.mem_of_getElem? (i := 886) (by decide +kernel)
theorem lG_X5_words : GoodIn lw_tbl (wsV RL 101 RX5 yX5_words wsX5_words) := goodIn_app (goodIn_sub (List.forall_mem_cons.mpr ⟨lk_590, List.forall_mem_cons.mpr ⟨lk_591, List.forall_mem_cons.mpr ⟨lk_592, List.forall_mem_cons.mpr ⟨lk_102, (fun _ h => absurd h List.not_mem_nil)⟩⟩⟩⟩) (by decide +kernel)) lg_X5_words
theorem lk_593 : (Cond.code yX4_nets cX4_nets 9 (some .int)) ∈ lw_tbl := List.mem_of_getElem? (i := 544) (by decide +kernel)
theorem lk_594 : (Cond.methodLink RX4 200 yJ6_bitCount_0f7a4) ∈ lw_tbl := List.mem_of_getElem? (i := 545) (by decide +kernel)
theorem lk_595 : (Cond.static yJ6_bitCount_0f7a4) ∈ lw_tbl := List.mem_of_getElem? (i := 546) (by decide +kernel)
theorem lk_596 : (Cond.initialized RJ6) ∈ lw_tbl := List.mem_of_getElem? (i := 62) (by decide +kernel)
theorem lk_597 : (Cond.code yJ6_bitCount_0f7a4 cJ6_bitCount_0f7a4 1 (some .int)) ∈ lw_tbl := List.mem_of_getElem? (i := 547) (by decide +kernel)
theorem lk_598 : (Cond.constant RJ6 265 (1431655765)) ∈ lw_tbl := List.mem_of_getElem? (i := 548) (by decide +kernel)
theorem lk_599 : (Cond.constant RJ6 266 (858993459)) ∈ lw_tbl := List.mem_of_getElem? (i := 549) (by decide +kernel)
theorem lk_600 : (Cond.constant RJ6 267 (252645135)) ∈ lw_tbl := List.mem_of_getElem? (i := 550) (by decide +kernel)
set_option maxRecDepth 20000 in
theorem lm_wsX4_nets_r1 : ∀ w ∈ wsX4_nets_r1, w ∈ lw_tbl := by
  unfold wsX4_nets_r1
  exact (List.forall_mem_cons.mpr ⟨lk_11, List.forall_mem_cons.mpr ⟨lk_281, List.forall_mem_cons.mpr ⟨lk_373, List.forall_mem_cons.mpr ⟨lk_374, List.forall_mem_cons.mpr ⟨lk_375, List.forall_mem_cons.mpr ⟨lk_85, List.forall_mem_cons.mpr ⟨lk_376, List.forall_mem_cons.mpr ⟨lk_277, List.forall_mem_cons.mpr ⟨lk_278, List.forall_mem_cons.mpr ⟨lk_279, List.forall_mem_cons.mpr ⟨lk_280, List.forall_mem_cons.mpr ⟨lk_105, List.forall_mem_cons.mpr ⟨lk_106, List.forall_mem_cons.mpr ⟨lk_107, List.forall_mem_cons.mpr ⟨lk_377, List.forall_mem_cons.mpr ⟨lk_378, List.forall_mem_cons.mpr ⟨lk_379, List.forall_mem_cons.mpr ⟨lk_594, List.forall_mem_cons.mpr ⟨lk_595, List.forall_mem_cons.mpr ⟨lk_596, List.forall_mem_cons.mpr ⟨lk_597, List.forall_mem_cons.mpr ⟨lk_598, List.forall_mem_cons.mpr ⟨lk_599, List.forall_mem_cons.mpr ⟨lk_600, (fun _ h => absurd h List.not_mem_nil)⟩⟩⟩⟩⟩⟩⟩⟩⟩⟩⟩⟩⟩⟩⟩⟩⟩⟩⟩⟩⟩⟩⟩⟩)
set_option maxRecDepth 20000 in
theorem lm_wsX4_nets_r2 : ∀ w ∈ wsX4_nets_r2, w ∈ lw_tbl := by
  unfold wsX4_nets_r2
  exact (List.forall_mem_cons.mpr ⟨lk_582, List.forall_mem_cons.mpr ⟨lk_583, List.forall_mem_cons.mpr ⟨lk_584, List.forall_mem_cons.mpr ⟨lk_585, List.forall_mem_cons.mpr ⟨lk_16, List.forall_mem_cons.mpr ⟨lk_276, List.forall_mem_cons.mpr ⟨lk_549, List.forall_mem_cons.mpr ⟨lk_550, List.forall_mem_cons.mpr ⟨lk_551, List.forall_mem_cons.mpr ⟨lk_552, List.forall_mem_cons.mpr ⟨lk_24, List.forall_mem_cons.mpr ⟨lk_553, List.forall_mem_cons.mpr ⟨lk_315, List.forall_mem_cons.mpr ⟨lk_401, List.forall_mem_cons.mpr ⟨lk_402, List.forall_mem_cons.mpr ⟨lk_403, List.forall_mem_cons.mpr ⟨lk_23, List.forall_mem_cons.mpr ⟨lk_404, List.forall_mem_cons.mpr ⟨lk_394, List.forall_mem_cons.mpr ⟨lk_395, List.forall_mem_cons.mpr ⟨lk_396, List.forall_mem_cons.mpr ⟨lk_397, List.forall_mem_cons.mpr ⟨lk_398, List.forall_mem_cons.mpr ⟨lk_399, (fun _ h => absurd h List.not_mem_nil)⟩⟩⟩⟩⟩⟩⟩⟩⟩⟩⟩⟩⟩⟩⟩⟩⟩⟩⟩⟩⟩⟩⟩⟩)
set_option maxRecDepth 20000 in
theorem lm_wsX4_nets_r3 : ∀ w ∈ wsX4_nets_r3, w ∈ lw_tbl := by
  unfold wsX4_nets_r3
  exact (List.forall_mem_cons.mpr ⟨lk_405, List.forall_mem_cons.mpr ⟨lk_400, List.forall_mem_cons.mpr ⟨lk_406, List.forall_mem_cons.mpr ⟨lk_407, List.forall_mem_cons.mpr ⟨lk_408, List.forall_mem_cons.mpr ⟨lk_10, List.forall_mem_cons.mpr ⟨lk_409, List.forall_mem_cons.mpr ⟨lk_35, List.forall_mem_cons.mpr ⟨lk_506, List.forall_mem_cons.mpr ⟨lk_507, List.forall_mem_cons.mpr ⟨lk_508, List.forall_mem_cons.mpr ⟨lk_509, List.forall_mem_cons.mpr ⟨lk_342, List.forall_mem_cons.mpr ⟨lk_463, List.forall_mem_cons.mpr ⟨lk_510, List.forall_mem_cons.mpr ⟨lk_511, List.forall_mem_cons.mpr ⟨lk_59, List.forall_mem_cons.mpr ⟨lk_512, List.forall_mem_cons.mpr ⟨lk_385, List.forall_mem_cons.mpr ⟨lk_58, List.forall_mem_cons.mpr ⟨lk_60, List.forall_mem_cons.mpr ⟨lk_298, List.forall_mem_cons.mpr ⟨lk_54, List.forall_mem_cons.mpr ⟨lk_55, (fun _ h => absurd h List.not_mem_nil)⟩⟩⟩⟩⟩⟩⟩⟩⟩⟩⟩⟩⟩⟩⟩⟩⟩⟩⟩⟩⟩⟩⟩⟩)
set_option maxRecDepth 20000 in
theorem lm_wsX4_nets_r4 : ∀ w ∈ wsX4_nets_r4, w ∈ lw_tbl := by
  unfold wsX4_nets_r4
  exact (List.forall_mem_cons.mpr ⟨lk_56, List.forall_mem_cons.mpr ⟨lk_43, List.forall_mem_cons.mpr ⟨lk_44, List.forall_mem_cons.mpr ⟨lk_57, List.forall_mem_cons.mpr ⟨lk_316, List.forall_mem_cons.mpr ⟨lk_317, List.forall_mem_cons.mpr ⟨lk_318, List.forall_mem_cons.mpr ⟨lk_15, List.forall_mem_cons.mpr ⟨lk_319, List.forall_mem_cons.mpr ⟨lk_218, List.forall_mem_cons.mpr ⟨lk_77, List.forall_mem_cons.mpr ⟨lk_320, List.forall_mem_cons.mpr ⟨lk_321, List.forall_mem_cons.mpr ⟨lk_322, List.forall_mem_cons.mpr ⟨lk_323, List.forall_mem_cons.mpr ⟨lk_430, List.forall_mem_cons.mpr ⟨lk_431, List.forall_mem_cons.mpr ⟨lk_432, List.forall_mem_cons.mpr ⟨lk_433, List.forall_mem_cons.mpr ⟨lk_434, List.forall_mem_cons.mpr ⟨lk_435, List.forall_mem_cons.mpr ⟨lk_436, List.forall_mem_cons.mpr ⟨lk_437, List.forall_mem_cons.mpr ⟨lk_38, (fun _ h => absurd h List.not_mem_nil)⟩⟩⟩⟩⟩⟩⟩⟩⟩⟩⟩⟩⟩⟩⟩⟩⟩⟩⟩⟩⟩⟩⟩⟩)
set_option maxRecDepth 20000 in
theorem lm_wsX4_nets_r5 : ∀ w ∈ wsX4_nets_r5, w ∈ lw_tbl := by
  unfold wsX4_nets_r5
  exact (List.forall_mem_cons.mpr ⟨lk_438, List.forall_mem_cons.mpr ⟨lk_70, List.forall_mem_cons.mpr ⟨lk_71, List.forall_mem_cons.mpr ⟨lk_72, List.forall_mem_cons.mpr ⟨lk_36, List.forall_mem_cons.mpr ⟨lk_283, List.forall_mem_cons.mpr ⟨lk_284, (fun _ h => absurd h List.not_mem_nil)⟩⟩⟩⟩⟩⟩⟩)
set_option maxRecDepth 20000 in
theorem lm_wsX4_nets : ∀ w ∈ wsX4_nets, w ∈ lw_tbl := by
  unfold wsX4_nets
  exact (List.forall_mem_cons.mpr ⟨lk_593, (List.forall_mem_append.mpr ⟨(List.forall_mem_append.mpr ⟨(List.forall_mem_append.mpr ⟨(List.forall_mem_append.mpr ⟨(List.forall_mem_append.mpr ⟨lm_wsX4_nets_r1, (List.forall_mem_append.mpr ⟨lm_wsX4_nets_r2, (List.forall_mem_append.mpr ⟨lm_wsX4_nets_r3, (List.forall_mem_append.mpr ⟨lm_wsX4_nets_r4, lm_wsX4_nets_r5⟩)⟩)⟩)⟩), lm_wsX40⟩), lm_wsX00⟩), lm_wsX20⟩), lm_wsX10⟩)⟩)
set_option maxRecDepth 20000 in
theorem lg_X4_nets : GoodIn lw_tbl wsX4_nets := goodIn_sub lm_wsX4_nets (by decide +kernel)
theorem lk_601 : (Cond.methodLink RL 102 yX4_nets) ∈ lw_tbl := List.mem_of_getElem? (i := 541) (by decide +kernel)
theorem lk_602 : (Cond.instanceMethod yX4_nets) ∈ lw_tbl := List.mem_of_getElem? (i := 542) (by decide +kernel)
theorem lk_603 : (Cond.selects RX4 yX4_nets yX4_nets) ∈ lw_tbl := List.mem_of_getElem? (i := 543) (by decide +kernel)
theorem lG_X4_nets : GoodIn lw_tbl (wsV RL 102 RX4 yX4_nets wsX4_nets) := goodIn_app (goodIn_sub (List.forall_mem_cons.mpr ⟨lk_601, List.forall_mem_cons.mpr ⟨lk_602, List.forall_mem_cons.mpr ⟨lk_603, List.forall_mem_cons.mpr ⟨lk_85, (fun _ h => absurd h List.not_mem_nil)⟩⟩⟩⟩) (by decide +kernel)) lg_X4_nets
theorem lk_604 : (Cond.code yX5_nets cX5_nets 7 (some .int)) ∈ lw_tbl := List.mem_of_getElem? (i := 891) (by decide +kernel)
theorem lk_605 : (Cond.methodLink RX5 168 yX5_ones) ∈ lw_tbl := List.mem_of_getElem? (i := 892) (by decide +kernel)
theorem lk_606 : (Cond.static yX5_ones) ∈ lw_tbl := List.mem_of_getElem? (i := 893) (by decide +kernel)
theorem lk_607 : (Cond.code yX5_ones cX5_ones 3 (some .int)) ∈ lw_tbl := List.mem_of_getElem? (i := 894) (by decide +kernel)
set_option maxRecDepth 20000 in
theorem lm_wsX5_nets_r1 : ∀ w ∈ wsX5_nets_r1, w ∈ lw_tbl := by
  unfold wsX5_nets_r1
  exact (List.forall_mem_cons.mpr ⟨lk_117, List.forall_mem_cons.mpr ⟨lk_89, List.forall_mem_cons.mpr ⟨lk_93, List.forall_mem_cons.mpr ⟨lk_414, List.forall_mem_cons.mpr ⟨lk_415, List.forall_mem_cons.mpr ⟨lk_416, List.forall_mem_cons.mpr ⟨lk_102, List.forall_mem_cons.mpr ⟨lk_417, List.forall_mem_cons.mpr ⟨lk_289, List.forall_mem_cons.mpr ⟨lk_290, List.forall_mem_cons.mpr ⟨lk_291, List.forall_mem_cons.mpr ⟨lk_292, List.forall_mem_cons.mpr ⟨lk_119, List.forall_mem_cons.mpr ⟨lk_120, List.forall_mem_cons.mpr ⟨lk_121, List.forall_mem_cons.mpr ⟨lk_605, List.forall_mem_cons.mpr ⟨lk_606, List.forall_mem_cons.mpr ⟨lk_607, List.forall_mem_cons.mpr ⟨lk_558, List.forall_mem_cons.mpr ⟨lk_559, List.forall_mem_cons.mpr ⟨lk_560, List.forall_mem_cons.mpr ⟨lk_561, List.forall_mem_cons.mpr ⟨lk_562, List.forall_mem_cons.mpr ⟨lk_563, (fun _ h => absurd h List.not_mem_nil)⟩⟩⟩⟩⟩⟩⟩⟩⟩⟩⟩⟩⟩⟩⟩⟩⟩⟩⟩⟩⟩⟩⟩⟩)
set_option maxRecDepth 20000 in
theorem lm_wsX5_nets_r2 : ∀ w ∈ wsX5_nets_r2, w ∈ lw_tbl := by
  unfold wsX5_nets_r2
  exact (List.forall_mem_cons.mpr ⟨lk_564, List.forall_mem_cons.mpr ⟨lk_565, List.forall_mem_cons.mpr ⟨lk_97, List.forall_mem_cons.mpr ⟨lk_422, List.forall_mem_cons.mpr ⟨lk_423, List.forall_mem_cons.mpr ⟨lk_424, List.forall_mem_cons.mpr ⟨lk_425, List.forall_mem_cons.mpr ⟨lk_90, List.forall_mem_cons.mpr ⟨lk_517, List.forall_mem_cons.mpr ⟨lk_518, List.forall_mem_cons.mpr ⟨lk_519, List.forall_mem_cons.mpr ⟨lk_520, List.forall_mem_cons.mpr ⟨lk_328, List.forall_mem_cons.mpr ⟨lk_329, List.forall_mem_cons.mpr ⟨lk_330, List.forall_mem_cons.mpr ⟨lk_331, List.forall_mem_cons.mpr ⟨lk_443, List.forall_mem_cons.mpr ⟨lk_444, List.forall_mem_cons.mpr ⟨lk_445, List.forall_mem_cons.mpr ⟨lk_446, List.forall_mem_cons.mpr ⟨lk_447, List.forall_mem_cons.mpr ⟨lk_448, List.forall_mem_cons.mpr ⟨lk_449, List.forall_mem_cons.mpr ⟨lk_450, (fun _ h => absurd h List.not_mem_nil)⟩⟩⟩⟩⟩⟩⟩⟩⟩⟩⟩⟩⟩⟩⟩⟩⟩⟩⟩⟩⟩⟩⟩⟩)
set_option maxRecDepth 20000 in
theorem lm_wsX5_nets_r3 : ∀ w ∈ wsX5_nets_r3, w ∈ lw_tbl := by
  unfold wsX5_nets_r3
  exact (List.forall_mem_cons.mpr ⟨lk_303, List.forall_mem_cons.mpr ⟨lk_304, List.forall_mem_cons.mpr ⟨lk_305, List.forall_mem_cons.mpr ⟨lk_306, List.forall_mem_cons.mpr ⟨lk_91, List.forall_mem_cons.mpr ⟨lk_307, List.forall_mem_cons.mpr ⟨lk_308, List.forall_mem_cons.mpr ⟨lk_309, List.forall_mem_cons.mpr ⟨lk_310, (fun _ h => absurd h List.not_mem_nil)⟩⟩⟩⟩⟩⟩⟩⟩⟩)
set_option maxRecDepth 20000 in
theorem lm_wsX5_nets : ∀ w ∈ wsX5_nets, w ∈ lw_tbl := by
  unfold wsX5_nets
  exact (List.forall_mem_cons.mpr ⟨lk_604, (List.forall_mem_append.mpr ⟨(List.forall_mem_append.mpr ⟨lm_wsX5_nets_r1, (List.forall_mem_append.mpr ⟨lm_wsX5_nets_r2, lm_wsX5_nets_r3⟩)⟩), lm_wsX50⟩)⟩)
set_option maxRecDepth 20000 in
theorem lg_X5_nets : GoodIn lw_tbl wsX5_nets := goodIn_sub lm_wsX5_nets (by decide +kernel)
theorem lk_608 : (Cond.methodLink RL 105 yX5_nets) ∈ lw_tbl := List.mem_of_getElem? (i := 888) (by decide +kernel)
theorem lk_609 : (Cond.instanceMethod yX5_nets) ∈ lw_tbl := List.mem_of_getElem? (i := 889) (by decide +kernel)
theorem lk_610 : (Cond.selects RX5 yX5_nets yX5_nets) ∈ lw_tbl := List.mem_of_getElem? (i := 890) (by decide +kernel)
theorem lG_X5_nets : GoodIn lw_tbl (wsV RL 105 RX5 yX5_nets wsX5_nets) := goodIn_app (goodIn_sub (List.forall_mem_cons.mpr ⟨lk_608, List.forall_mem_cons.mpr ⟨lk_609, List.forall_mem_cons.mpr ⟨lk_610, List.forall_mem_cons.mpr ⟨lk_102, (fun _ h => absurd h List.not_mem_nil)⟩⟩⟩⟩) (by decide +kernel)) lg_X5_nets
theorem lk_611 : (Cond.code yX4_who cX4_who 6 (some .int)) ∈ lw_tbl := List.mem_of_getElem? (i := 554) (by decide +kernel)
theorem lk_612 : (Cond.methodLink RX4 209 yX4_comesWith) ∈ lw_tbl := List.mem_of_getElem? (i := 555) (by decide +kernel)
theorem lk_613 : (Cond.instanceMethod yX4_comesWith) ∈ lw_tbl := List.mem_of_getElem? (i := 557) (by decide +kernel)
theorem lk_614 : (Cond.selects RX4 yX4_comesWith yX4_comesWith) ∈ lw_tbl := List.mem_of_getElem? (i := 21) (by decide +kernel)
theorem lk_615 : (Cond.code yX4_comesWith cX4_comesWith 6 (some .boolean)) ∈ lw_tbl := List.mem_of_getElem? (i := 558) (by decide +kernel)
set_option maxRecDepth 20000 in
theorem lm_wsX4_who_r1 : ∀ w ∈ wsX4_who_r1, w ∈ lw_tbl := by
  unfold wsX4_who_r1
  exact (List.forall_mem_cons.mpr ⟨lk_11, List.forall_mem_cons.mpr ⟨lk_281, List.forall_mem_cons.mpr ⟨lk_277, List.forall_mem_cons.mpr ⟨lk_278, List.forall_mem_cons.mpr ⟨lk_279, List.forall_mem_cons.mpr ⟨lk_85, List.forall_mem_cons.mpr ⟨lk_280, List.forall_mem_cons.mpr ⟨lk_105, List.forall_mem_cons.mpr ⟨lk_106, List.forall_mem_cons.mpr ⟨lk_107, List.forall_mem_cons.mpr ⟨lk_377, List.forall_mem_cons.mpr ⟨lk_378, List.forall_mem_cons.mpr ⟨lk_379, List.forall_mem_cons.mpr ⟨lk_612, List.forall_mem_cons.mpr ⟨lk_613, List.forall_mem_cons.mpr ⟨lk_614, List.forall_mem_cons.mpr ⟨lk_615, List.forall_mem_cons.mpr ⟨lk_16, List.forall_mem_cons.mpr ⟨lk_276, List.forall_mem_cons.mpr ⟨lk_24, List.forall_mem_cons.mpr ⟨lk_341, List.forall_mem_cons.mpr ⟨lk_549, List.forall_mem_cons.mpr ⟨lk_550, List.forall_mem_cons.mpr ⟨lk_551, (fun _ h => absurd h List.not_mem_nil)⟩⟩⟩⟩⟩⟩⟩⟩⟩⟩⟩⟩⟩⟩⟩⟩⟩⟩⟩⟩⟩⟩⟩⟩)
set_option maxRecDepth 20000 in
theorem lm_wsX4_who_r2 : ∀ w ∈ wsX4_who_r2, w ∈ lw_tbl := by
  unfold wsX4_who_r2
  exact (List.forall_mem_cons.mpr ⟨lk_552, List.forall_mem_cons.mpr ⟨lk_553, List.forall_mem_cons.mpr ⟨lk_315, List.forall_mem_cons.mpr ⟨lk_401, List.forall_mem_cons.mpr ⟨lk_402, List.forall_mem_cons.mpr ⟨lk_403, List.forall_mem_cons.mpr ⟨lk_23, List.forall_mem_cons.mpr ⟨lk_404, List.forall_mem_cons.mpr ⟨lk_394, List.forall_mem_cons.mpr ⟨lk_395, List.forall_mem_cons.mpr ⟨lk_396, List.forall_mem_cons.mpr ⟨lk_397, List.forall_mem_cons.mpr ⟨lk_398, List.forall_mem_cons.mpr ⟨lk_399, List.forall_mem_cons.mpr ⟨lk_405, List.forall_mem_cons.mpr ⟨lk_400, List.forall_mem_cons.mpr ⟨lk_406, List.forall_mem_cons.mpr ⟨lk_407, List.forall_mem_cons.mpr ⟨lk_408, List.forall_mem_cons.mpr ⟨lk_10, List.forall_mem_cons.mpr ⟨lk_409, List.forall_mem_cons.mpr ⟨lk_35, List.forall_mem_cons.mpr ⟨lk_506, List.forall_mem_cons.mpr ⟨lk_507, (fun _ h => absurd h List.not_mem_nil)⟩⟩⟩⟩⟩⟩⟩⟩⟩⟩⟩⟩⟩⟩⟩⟩⟩⟩⟩⟩⟩⟩⟩⟩)
set_option maxRecDepth 20000 in
theorem lm_wsX4_who_r3 : ∀ w ∈ wsX4_who_r3, w ∈ lw_tbl := by
  unfold wsX4_who_r3
  exact (List.forall_mem_cons.mpr ⟨lk_508, List.forall_mem_cons.mpr ⟨lk_509, List.forall_mem_cons.mpr ⟨lk_342, List.forall_mem_cons.mpr ⟨lk_463, List.forall_mem_cons.mpr ⟨lk_510, List.forall_mem_cons.mpr ⟨lk_511, List.forall_mem_cons.mpr ⟨lk_59, List.forall_mem_cons.mpr ⟨lk_512, List.forall_mem_cons.mpr ⟨lk_385, List.forall_mem_cons.mpr ⟨lk_58, List.forall_mem_cons.mpr ⟨lk_60, List.forall_mem_cons.mpr ⟨lk_298, List.forall_mem_cons.mpr ⟨lk_54, List.forall_mem_cons.mpr ⟨lk_55, List.forall_mem_cons.mpr ⟨lk_56, List.forall_mem_cons.mpr ⟨lk_43, List.forall_mem_cons.mpr ⟨lk_44, List.forall_mem_cons.mpr ⟨lk_57, List.forall_mem_cons.mpr ⟨lk_316, List.forall_mem_cons.mpr ⟨lk_317, List.forall_mem_cons.mpr ⟨lk_318, List.forall_mem_cons.mpr ⟨lk_15, List.forall_mem_cons.mpr ⟨lk_319, List.forall_mem_cons.mpr ⟨lk_218, (fun _ h => absurd h List.not_mem_nil)⟩⟩⟩⟩⟩⟩⟩⟩⟩⟩⟩⟩⟩⟩⟩⟩⟩⟩⟩⟩⟩⟩⟩⟩)
set_option maxRecDepth 20000 in
theorem lm_wsX4_who_r4 : ∀ w ∈ wsX4_who_r4, w ∈ lw_tbl := by
  unfold wsX4_who_r4
  exact (List.forall_mem_cons.mpr ⟨lk_77, List.forall_mem_cons.mpr ⟨lk_320, List.forall_mem_cons.mpr ⟨lk_321, List.forall_mem_cons.mpr ⟨lk_322, List.forall_mem_cons.mpr ⟨lk_323, List.forall_mem_cons.mpr ⟨lk_430, List.forall_mem_cons.mpr ⟨lk_431, List.forall_mem_cons.mpr ⟨lk_432, List.forall_mem_cons.mpr ⟨lk_433, List.forall_mem_cons.mpr ⟨lk_434, List.forall_mem_cons.mpr ⟨lk_435, List.forall_mem_cons.mpr ⟨lk_436, List.forall_mem_cons.mpr ⟨lk_437, List.forall_mem_cons.mpr ⟨lk_38, List.forall_mem_cons.mpr ⟨lk_438, List.forall_mem_cons.mpr ⟨lk_70, List.forall_mem_cons.mpr ⟨lk_71, List.forall_mem_cons.mpr ⟨lk_72, List.forall_mem_cons.mpr ⟨lk_36, List.forall_mem_cons.mpr ⟨lk_283, List.forall_mem_cons.mpr ⟨lk_284, (fun _ h => absurd h List.not_mem_nil)⟩⟩⟩⟩⟩⟩⟩⟩⟩⟩⟩⟩⟩⟩⟩⟩⟩⟩⟩⟩⟩)
set_option maxRecDepth 20000 in
theorem lm_wsX4_who : ∀ w ∈ wsX4_who, w ∈ lw_tbl := by
  unfold wsX4_who
  exact (List.forall_mem_cons.mpr ⟨lk_611, (List.forall_mem_append.mpr ⟨(List.forall_mem_append.mpr ⟨(List.forall_mem_append.mpr ⟨(List.forall_mem_append.mpr ⟨(List.forall_mem_append.mpr ⟨lm_wsX4_who_r1, (List.forall_mem_append.mpr ⟨lm_wsX4_who_r2, (List.forall_mem_append.mpr ⟨lm_wsX4_who_r3, lm_wsX4_who_r4⟩)⟩)⟩), lm_wsX40⟩), lm_wsX00⟩), lm_wsX20⟩), lm_wsX10⟩)⟩)
set_option maxRecDepth 20000 in
theorem lg_X4_who : GoodIn lw_tbl wsX4_who := goodIn_sub lm_wsX4_who (by decide +kernel)
theorem lk_616 : (Cond.methodLink RL 106 yX4_who) ∈ lw_tbl := List.mem_of_getElem? (i := 551) (by decide +kernel)
theorem lk_617 : (Cond.instanceMethod yX4_who) ∈ lw_tbl := List.mem_of_getElem? (i := 552) (by decide +kernel)
theorem lk_618 : (Cond.selects RX4 yX4_who yX4_who) ∈ lw_tbl := List.mem_of_getElem? (i := 553) (by decide +kernel)
theorem lG_X4_who : GoodIn lw_tbl (wsV RL 106 RX4 yX4_who wsX4_who) := goodIn_app (goodIn_sub (List.forall_mem_cons.mpr ⟨lk_616, List.forall_mem_cons.mpr ⟨lk_617, List.forall_mem_cons.mpr ⟨lk_618, List.forall_mem_cons.mpr ⟨lk_85, (fun _ h => absurd h List.not_mem_nil)⟩⟩⟩⟩) (by decide +kernel)) lg_X4_who
theorem lk_619 : (Cond.code yX5_who cX5_who 8 (some .int)) ∈ lw_tbl := List.mem_of_getElem? (i := 898) (by decide +kernel)
set_option maxRecDepth 20000 in
theorem lm_wsX5_who_r1 : ∀ w ∈ wsX5_who_r1, w ∈ lw_tbl := by
  unfold wsX5_who_r1
  exact (List.forall_mem_cons.mpr ⟨lk_117, List.forall_mem_cons.mpr ⟨lk_89, List.forall_mem_cons.mpr ⟨lk_93, List.forall_mem_cons.mpr ⟨lk_97, List.forall_mem_cons.mpr ⟨lk_289, List.forall_mem_cons.mpr ⟨lk_290, List.forall_mem_cons.mpr ⟨lk_291, List.forall_mem_cons.mpr ⟨lk_102, List.forall_mem_cons.mpr ⟨lk_292, List.forall_mem_cons.mpr ⟨lk_119, List.forall_mem_cons.mpr ⟨lk_120, List.forall_mem_cons.mpr ⟨lk_121, List.forall_mem_cons.mpr ⟨lk_562, List.forall_mem_cons.mpr ⟨lk_563, List.forall_mem_cons.mpr ⟨lk_564, List.forall_mem_cons.mpr ⟨lk_565, List.forall_mem_cons.mpr ⟨lk_422, List.forall_mem_cons.mpr ⟨lk_423, List.forall_mem_cons.mpr ⟨lk_424, List.forall_mem_cons.mpr ⟨lk_425, List.forall_mem_cons.mpr ⟨lk_90, List.forall_mem_cons.mpr ⟨lk_517, List.forall_mem_cons.mpr ⟨lk_518, List.forall_mem_cons.mpr ⟨lk_519, (fun _ h => absurd h List.not_mem_nil)⟩⟩⟩⟩⟩⟩⟩⟩⟩⟩⟩⟩⟩⟩⟩⟩⟩⟩⟩⟩⟩⟩⟩⟩)
set_option maxRecDepth 20000 in
theorem lm_wsX5_who_r2 : ∀ w ∈ wsX5_who_r2, w ∈ lw_tbl := by
  unfold wsX5_who_r2
  exact (List.forall_mem_cons.mpr ⟨lk_520, List.forall_mem_cons.mpr ⟨lk_328, List.forall_mem_cons.mpr ⟨lk_329, List.forall_mem_cons.mpr ⟨lk_330, List.forall_mem_cons.mpr ⟨lk_331, List.forall_mem_cons.mpr ⟨lk_443, List.forall_mem_cons.mpr ⟨lk_444, List.forall_mem_cons.mpr ⟨lk_445, List.forall_mem_cons.mpr ⟨lk_446, List.forall_mem_cons.mpr ⟨lk_447, List.forall_mem_cons.mpr ⟨lk_448, List.forall_mem_cons.mpr ⟨lk_449, List.forall_mem_cons.mpr ⟨lk_450, List.forall_mem_cons.mpr ⟨lk_303, List.forall_mem_cons.mpr ⟨lk_304, List.forall_mem_cons.mpr ⟨lk_305, List.forall_mem_cons.mpr ⟨lk_306, List.forall_mem_cons.mpr ⟨lk_91, List.forall_mem_cons.mpr ⟨lk_307, List.forall_mem_cons.mpr ⟨lk_308, List.forall_mem_cons.mpr ⟨lk_309, List.forall_mem_cons.mpr ⟨lk_310, (fun _ h => absurd h List.not_mem_nil)⟩⟩⟩⟩⟩⟩⟩⟩⟩⟩⟩⟩⟩⟩⟩⟩⟩⟩⟩⟩⟩⟩)
set_option maxRecDepth 20000 in
theorem lm_wsX5_who : ∀ w ∈ wsX5_who, w ∈ lw_tbl := by
  unfold wsX5_who
  exact (List.forall_mem_cons.mpr ⟨lk_619, (List.forall_mem_append.mpr ⟨(List.forall_mem_append.mpr ⟨lm_wsX5_who_r1, lm_wsX5_who_r2⟩), lm_wsX50⟩)⟩)
set_option maxRecDepth 20000 in
theorem lg_X5_who : GoodIn lw_tbl wsX5_who := goodIn_sub lm_wsX5_who (by decide +kernel)
theorem lk_620 : (Cond.methodLink RL 109 yX5_who) ∈ lw_tbl := List.mem_of_getElem? (i := 895) (by decide +kernel)
theorem lk_621 : (Cond.instanceMethod yX5_who) ∈ lw_tbl := List.mem_of_getElem? (i := 896) (by decide +kernel)
theorem lk_622 : (Cond.selects RX5 yX5_who yX5_who) ∈ lw_tbl := List.mem_of_getElem? (i := 897) (by decide +kernel)
theorem lG_X5_who : GoodIn lw_tbl (wsV RL 109 RX5 yX5_who wsX5_who) := goodIn_app (goodIn_sub (List.forall_mem_cons.mpr ⟨lk_620, List.forall_mem_cons.mpr ⟨lk_621, List.forall_mem_cons.mpr ⟨lk_622, List.forall_mem_cons.mpr ⟨lk_102, (fun _ h => absurd h List.not_mem_nil)⟩⟩⟩⟩) (by decide +kernel)) lg_X5_who
theorem lk_623 : (Cond.code yX4_knee cX4_knee 6 (some .int)) ∈ lw_tbl := List.mem_of_getElem? (i := 562) (by decide +kernel)
set_option maxRecDepth 20000 in
theorem lm_wsX4_knee : ∀ w ∈ wsX4_knee, w ∈ lw_tbl := by
  unfold wsX4_knee
  exact (List.forall_mem_cons.mpr ⟨lk_623, (List.forall_mem_append.mpr ⟨(List.forall_mem_append.mpr ⟨(List.forall_mem_cons.mpr ⟨lk_16, List.forall_mem_cons.mpr ⟨lk_315, List.forall_mem_cons.mpr ⟨lk_105, List.forall_mem_cons.mpr ⟨lk_106, List.forall_mem_cons.mpr ⟨lk_85, List.forall_mem_cons.mpr ⟨lk_107, List.forall_mem_cons.mpr ⟨lk_316, List.forall_mem_cons.mpr ⟨lk_317, List.forall_mem_cons.mpr ⟨lk_318, List.forall_mem_cons.mpr ⟨lk_15, List.forall_mem_cons.mpr ⟨lk_319, List.forall_mem_cons.mpr ⟨lk_218, List.forall_mem_cons.mpr ⟨lk_77, List.forall_mem_cons.mpr ⟨lk_320, List.forall_mem_cons.mpr ⟨lk_321, List.forall_mem_cons.mpr ⟨lk_322, List.forall_mem_cons.mpr ⟨lk_323, (fun _ h => absurd h List.not_mem_nil)⟩⟩⟩⟩⟩⟩⟩⟩⟩⟩⟩⟩⟩⟩⟩⟩⟩), lm_wsX40⟩), lm_wsX20⟩)⟩)
set_option maxRecDepth 20000 in
theorem lg_X4_knee : GoodIn lw_tbl wsX4_knee := goodIn_sub lm_wsX4_knee (by decide +kernel)
theorem lk_624 : (Cond.methodLink RL 110 yX4_knee) ∈ lw_tbl := List.mem_of_getElem? (i := 559) (by decide +kernel)
theorem lk_625 : (Cond.instanceMethod yX4_knee) ∈ lw_tbl := List.mem_of_getElem? (i := 560) (by decide +kernel)
theorem lk_626 : (Cond.selects RX4 yX4_knee yX4_knee) ∈ lw_tbl := List.mem_of_getElem? (i := 561) (by decide +kernel)
theorem lG_X4_knee : GoodIn lw_tbl (wsV RL 110 RX4 yX4_knee wsX4_knee) := goodIn_app (goodIn_sub (List.forall_mem_cons.mpr ⟨lk_624, List.forall_mem_cons.mpr ⟨lk_625, List.forall_mem_cons.mpr ⟨lk_626, List.forall_mem_cons.mpr ⟨lk_85, (fun _ h => absurd h List.not_mem_nil)⟩⟩⟩⟩) (by decide +kernel)) lg_X4_knee
theorem lk_627 : (Cond.code yX5_knee cX5_knee 5 (some .int)) ∈ lw_tbl := List.mem_of_getElem? (i := 902) (by decide +kernel)
set_option maxRecDepth 20000 in
theorem lm_wsX5_knee : ∀ w ∈ wsX5_knee, w ∈ lw_tbl := by
  unfold wsX5_knee
  exact (List.forall_mem_cons.mpr ⟨lk_627, (List.forall_mem_append.mpr ⟨(List.forall_mem_cons.mpr ⟨lk_117, List.forall_mem_cons.mpr ⟨lk_93, List.forall_mem_cons.mpr ⟨lk_119, List.forall_mem_cons.mpr ⟨lk_120, List.forall_mem_cons.mpr ⟨lk_102, List.forall_mem_cons.mpr ⟨lk_121, List.forall_mem_cons.mpr ⟨lk_328, List.forall_mem_cons.mpr ⟨lk_329, List.forall_mem_cons.mpr ⟨lk_330, List.forall_mem_cons.mpr ⟨lk_331, List.forall_mem_cons.mpr ⟨lk_89, (fun _ h => absurd h List.not_mem_nil)⟩⟩⟩⟩⟩⟩⟩⟩⟩⟩⟩), lm_wsX50⟩)⟩)
set_option maxRecDepth 20000 in
theorem lg_X5_knee : GoodIn lw_tbl wsX5_knee := goodIn_sub lm_wsX5_knee (by decide +kernel)
theorem lk_628 : (Cond.methodLink RL 113 yX5_knee) ∈ lw_tbl := List.mem_of_getElem? (i := 899) (by decide +kernel)
theorem lk_629 : (Cond.instanceMethod yX5_knee) ∈ lw_tbl := List.mem_of_getElem? (i := 900) (by decide +kernel)
theorem lk_630 : (Cond.selects RX5 yX5_knee yX5_knee) ∈ lw_tbl := List.mem_of_getElem? (i := 901) (by decide +kernel)
theorem lG_X5_knee : GoodIn lw_tbl (wsV RL 113 RX5 yX5_knee wsX5_knee) := goodIn_app (goodIn_sub (List.forall_mem_cons.mpr ⟨lk_628, List.forall_mem_cons.mpr ⟨lk_629, List.forall_mem_cons.mpr ⟨lk_630, List.forall_mem_cons.mpr ⟨lk_102, (fun _ h => absurd h List.not_mem_nil)⟩⟩⟩⟩) (by decide +kernel)) lg_X5_knee
theorem lk_631 : (Cond.code yX4_drift cX4_drift 7 (some .int)) ∈ lw_tbl := List.mem_of_getElem? (i := 566) (by decide +kernel)
theorem lk_632 : (Cond.constant RX4 212 (-1000000)) ∈ lw_tbl := List.mem_of_getElem? (i := 567) (by decide +kernel)
theorem lk_633 : (Cond.fieldLink RX4 213 "WindPost$Chart" "force" "I") ∈ lw_tbl := List.mem_of_getElem? (i := 146) (by decide +kernel)
set_option maxRecDepth 20000 in
theorem lm_wsX4_drift : ∀ w ∈ wsX4_drift, w ∈ lw_tbl := by
  unfold wsX4_drift
  exact (List.forall_mem_cons.mpr ⟨lk_631, (List.forall_mem_append.mpr ⟨(List.forall_mem_append.mpr ⟨(List.forall_mem_append.mpr ⟨(List.forall_mem_cons.mpr ⟨lk_632, List.forall_mem_cons.mpr ⟨lk_16, List.forall_mem_cons.mpr ⟨lk_463, List.forall_mem_cons.mpr ⟨lk_464, List.forall_mem_cons.mpr ⟨lk_11, List.forall_mem_cons.mpr ⟨lk_633, List.forall_mem_cons.mpr ⟨lk_510, List.forall_mem_cons.mpr ⟨lk_511, List.forall_mem_cons.mpr ⟨lk_59, List.forall_mem_cons.mpr ⟨lk_512, List.forall_mem_cons.mpr ⟨lk_377, List.forall_mem_cons.mpr ⟨lk_378, List.forall_mem_cons.mpr ⟨lk_85, List.forall_mem_cons.mpr ⟨lk_379, List.forall_mem_cons.mpr ⟨lk_105, List.forall_mem_cons.mpr ⟨lk_106, List.forall_mem_cons.mpr ⟨lk_107, (fun _ h => absurd h List.not_mem_nil)⟩⟩⟩⟩⟩⟩⟩⟩⟩⟩⟩⟩⟩⟩⟩⟩⟩), lm_wsX40⟩), lm_wsX20⟩), lm_wsX00⟩)⟩)
set_option maxRecDepth 20000 in
theorem lg_X4_drift : GoodIn lw_tbl wsX4_drift := goodIn_sub lm_wsX4_drift (by decide +kernel)
theorem lk_634 : (Cond.methodLink RL 114 yX4_drift) ∈ lw_tbl := List.mem_of_getElem? (i := 563) (by decide +kernel)
theorem lk_635 : (Cond.instanceMethod yX4_drift) ∈ lw_tbl := List.mem_of_getElem? (i := 564) (by decide +kernel)
theorem lk_636 : (Cond.selects RX4 yX4_drift yX4_drift) ∈ lw_tbl := List.mem_of_getElem? (i := 565) (by decide +kernel)
theorem lG_X4_drift : GoodIn lw_tbl (wsV RL 114 RX4 yX4_drift wsX4_drift) := goodIn_app (goodIn_sub (List.forall_mem_cons.mpr ⟨lk_634, List.forall_mem_cons.mpr ⟨lk_635, List.forall_mem_cons.mpr ⟨lk_636, List.forall_mem_cons.mpr ⟨lk_85, (fun _ h => absurd h List.not_mem_nil)⟩⟩⟩⟩) (by decide +kernel)) lg_X4_drift
theorem lk_637 : (Cond.code yX5_drift cX5_drift 7 (some .int)) ∈ lw_tbl := List.mem_of_getElem? (i := 906) (by decide +kernel)
theorem lk_638 : (Cond.constant RX5 171 (-1000000)) ∈ lw_tbl := List.mem_of_getElem? (i := 907) (by decide +kernel)
set_option maxRecDepth 20000 in
theorem lm_wsX5_drift : ∀ w ∈ wsX5_drift, w ∈ lw_tbl := by
  unfold wsX5_drift
  exact (List.forall_mem_cons.mpr ⟨lk_637, (List.forall_mem_append.mpr ⟨(List.forall_mem_cons.mpr ⟨lk_117, List.forall_mem_cons.mpr ⟨lk_638, List.forall_mem_cons.mpr ⟨lk_89, List.forall_mem_cons.mpr ⟨lk_93, List.forall_mem_cons.mpr ⟨lk_119, List.forall_mem_cons.mpr ⟨lk_120, List.forall_mem_cons.mpr ⟨lk_102, List.forall_mem_cons.mpr ⟨lk_121, (fun _ h => absurd h List.not_mem_nil)⟩⟩⟩⟩⟩⟩⟩⟩), lm_wsX50⟩)⟩)
set_option maxRecDepth 20000 in
theorem lg_X5_drift : GoodIn lw_tbl wsX5_drift := goodIn_sub lm_wsX5_drift (by decide +kernel)
theorem lk_639 : (Cond.methodLink RL 117 yX5_drift) ∈ lw_tbl := List.mem_of_getElem? (i := 903) (by decide +kernel)
theorem lk_640 : (Cond.instanceMethod yX5_drift) ∈ lw_tbl := List.mem_of_getElem? (i := 904) (by decide +kernel)
theorem lk_641 : (Cond.selects RX5 yX5_drift yX5_drift) ∈ lw_tbl := List.mem_of_getElem? (i := 905) (by decide +kernel)
theorem lG_X5_drift : GoodIn lw_tbl (wsV RL 117 RX5 yX5_drift wsX5_drift) := goodIn_app (goodIn_sub (List.forall_mem_cons.mpr ⟨lk_639, List.forall_mem_cons.mpr ⟨lk_640, List.forall_mem_cons.mpr ⟨lk_641, List.forall_mem_cons.mpr ⟨lk_102, (fun _ h => absurd h List.not_mem_nil)⟩⟩⟩⟩) (by decide +kernel)) lg_X5_drift
theorem lk_642 : (Cond.code yX4_odds cX4_odds 8 (some .int)) ∈ lw_tbl := List.mem_of_getElem? (i := 571) (by decide +kernel)
theorem lk_643 : (Cond.methodLink RX4 216 yX4_shareArrived) ∈ lw_tbl := List.mem_of_getElem? (i := 572) (by decide +kernel)
theorem lk_644 : (Cond.instanceMethod yX4_shareArrived) ∈ lw_tbl := List.mem_of_getElem? (i := 574) (by decide +kernel)
theorem lk_645 : (Cond.selects RX4 yX4_shareArrived yX4_shareArrived) ∈ lw_tbl := List.mem_of_getElem? (i := 22) (by decide +kernel)
theorem lk_646 : (Cond.code yX4_shareArrived cX4_shareArrived 8 (some .int)) ∈ lw_tbl := List.mem_of_getElem? (i := 575) (by decide +kernel)
set_option maxRecDepth 20000 in
theorem lm_wsX4_odds_r1 : ∀ w ∈ wsX4_odds_r1, w ∈ lw_tbl := by
  unfold wsX4_odds_r1
  exact (List.forall_mem_cons.mpr ⟨lk_343, List.forall_mem_cons.mpr ⟨lk_344, List.forall_mem_cons.mpr ⟨lk_345, List.forall_mem_cons.mpr ⟨lk_85, List.forall_mem_cons.mpr ⟨lk_346, List.forall_mem_cons.mpr ⟨lk_16, List.forall_mem_cons.mpr ⟨lk_347, List.forall_mem_cons.mpr ⟨lk_105, List.forall_mem_cons.mpr ⟨lk_106, List.forall_mem_cons.mpr ⟨lk_107, List.forall_mem_cons.mpr ⟨lk_643, List.forall_mem_cons.mpr ⟨lk_644, List.forall_mem_cons.mpr ⟨lk_645, List.forall_mem_cons.mpr ⟨lk_646, List.forall_mem_cons.mpr ⟨lk_24, List.forall_mem_cons.mpr ⟨lk_336, List.forall_mem_cons.mpr ⟨lk_11, List.forall_mem_cons.mpr ⟨lk_315, List.forall_mem_cons.mpr ⟨lk_276, List.forall_mem_cons.mpr ⟨lk_342, List.forall_mem_cons.mpr ⟨lk_485, List.forall_mem_cons.mpr ⟨lk_391, List.forall_mem_cons.mpr ⟨lk_392, List.forall_mem_cons.mpr ⟨lk_23, (fun _ h => absurd h List.not_mem_nil)⟩⟩⟩⟩⟩⟩⟩⟩⟩⟩⟩⟩⟩⟩⟩⟩⟩⟩⟩⟩⟩⟩⟩⟩)
set_option maxRecDepth 20000 in
theorem lm_wsX4_odds_r2 : ∀ w ∈ wsX4_odds_r2, w ∈ lw_tbl := by
  unfold wsX4_odds_r2
  exact (List.forall_mem_cons.mpr ⟨lk_393, List.forall_mem_cons.mpr ⟨lk_394, List.forall_mem_cons.mpr ⟨lk_395, List.forall_mem_cons.mpr ⟨lk_396, List.forall_mem_cons.mpr ⟨lk_397, List.forall_mem_cons.mpr ⟨lk_398, List.forall_mem_cons.mpr ⟨lk_399, List.forall_mem_cons.mpr ⟨lk_400, List.forall_mem_cons.mpr ⟨lk_282, List.forall_mem_cons.mpr ⟨lk_283, List.forall_mem_cons.mpr ⟨lk_284, List.forall_mem_cons.mpr ⟨lk_316, List.forall_mem_cons.mpr ⟨lk_317, List.forall_mem_cons.mpr ⟨lk_318, List.forall_mem_cons.mpr ⟨lk_15, List.forall_mem_cons.mpr ⟨lk_319, List.forall_mem_cons.mpr ⟨lk_218, List.forall_mem_cons.mpr ⟨lk_77, List.forall_mem_cons.mpr ⟨lk_320, List.forall_mem_cons.mpr ⟨lk_321, List.forall_mem_cons.mpr ⟨lk_322, List.forall_mem_cons.mpr ⟨lk_323, List.forall_mem_cons.mpr ⟨lk_430, List.forall_mem_cons.mpr ⟨lk_431, (fun _ h => absurd h List.not_mem_nil)⟩⟩⟩⟩⟩⟩⟩⟩⟩⟩⟩⟩⟩⟩⟩⟩⟩⟩⟩⟩⟩⟩⟩⟩)
theorem lk_647 : (Cond.methodLink RX4 220 yX4_commonDivisor) ∈ lw_tbl := List.mem_of_getElem? (i := 576) (by decide +kernel)
theorem lk_648 : (Cond.static yX4_commonDivisor) ∈ lw_tbl := List.mem_of_getElem? (i := 577) (by decide +kernel)
theorem lk_649 : (Cond.code yX4_commonDivisor cX4_commonDivisor 6 (some .int)) ∈ lw_tbl := List.mem_of_getElem? (i := 578) (by decide +kernel)
set_option maxRecDepth 20000 in
theorem lm_wsX4_odds_r3 : ∀ w ∈ wsX4_odds_r3, w ∈ lw_tbl := by
  unfold wsX4_odds_r3
  exact (List.forall_mem_cons.mpr ⟨lk_432, List.forall_mem_cons.mpr ⟨lk_433, List.forall_mem_cons.mpr ⟨lk_434, List.forall_mem_cons.mpr ⟨lk_435, List.forall_mem_cons.mpr ⟨lk_436, List.forall_mem_cons.mpr ⟨lk_10, List.forall_mem_cons.mpr ⟨lk_437, List.forall_mem_cons.mpr ⟨lk_38, List.forall_mem_cons.mpr ⟨lk_438, List.forall_mem_cons.mpr ⟨lk_70, List.forall_mem_cons.mpr ⟨lk_71, List.forall_mem_cons.mpr ⟨lk_72, List.forall_mem_cons.mpr ⟨lk_36, List.forall_mem_cons.mpr ⟨lk_647, List.forall_mem_cons.mpr ⟨lk_648, List.forall_mem_cons.mpr ⟨lk_649, (fun _ h => absurd h List.not_mem_nil)⟩⟩⟩⟩⟩⟩⟩⟩⟩⟩⟩⟩⟩⟩⟩⟩)
set_option maxRecDepth 20000 in
theorem lm_wsX4_odds : ∀ w ∈ wsX4_odds, w ∈ lw_tbl := by
  unfold wsX4_odds
  exact (List.forall_mem_cons.mpr ⟨lk_642, (List.forall_mem_append.mpr ⟨(List.forall_mem_append.mpr ⟨(List.forall_mem_append.mpr ⟨(List.forall_mem_append.mpr ⟨(List.forall_mem_append.mpr ⟨lm_wsX4_odds_r1, (List.forall_mem_append.mpr ⟨lm_wsX4_odds_r2, lm_wsX4_odds_r3⟩)⟩), lm_wsX40⟩), lm_wsX20⟩), lm_wsX10⟩), lm_wsX00⟩)⟩)
set_option maxRecDepth 20000 in
theorem lg_X4_odds : GoodIn lw_tbl wsX4_odds := goodIn_sub lm_wsX4_odds (by decide +kernel)
theorem lk_650 : (Cond.methodLink RL 118 yX4_odds) ∈ lw_tbl := List.mem_of_getElem? (i := 568) (by decide +kernel)
theorem lk_651 : (Cond.instanceMethod yX4_odds) ∈ lw_tbl := List.mem_of_getElem? (i := 569) (by decide +kernel)
theorem lk_652 : (Cond.selects RX4 yX4_odds yX4_odds) ∈ lw_tbl := List.mem_of_getElem? (i := 570) (by decide +kernel)
theorem lG_X4_odds : GoodIn lw_tbl (wsV RL 118 RX4 yX4_odds wsX4_odds) := goodIn_app (goodIn_sub (List.forall_mem_cons.mpr ⟨lk_650, List.forall_mem_cons.mpr ⟨lk_651, List.forall_mem_cons.mpr ⟨lk_652, List.forall_mem_cons.mpr ⟨lk_85, (fun _ h => absurd h List.not_mem_nil)⟩⟩⟩⟩) (by decide +kernel)) lg_X4_odds
theorem lk_653 : (Cond.code yX5_odds cX5_odds 10 (some .int)) ∈ lw_tbl := List.mem_of_getElem? (i := 911) (by decide +kernel)
set_option maxRecDepth 20000 in
theorem lm_wsX5_odds_r1 : ∀ w ∈ wsX5_odds_r1, w ∈ lw_tbl := by
  unfold wsX5_odds_r1
  exact (List.forall_mem_cons.mpr ⟨lk_117, List.forall_mem_cons.mpr ⟨lk_97, List.forall_mem_cons.mpr ⟨lk_93, List.forall_mem_cons.mpr ⟨lk_352, List.forall_mem_cons.mpr ⟨lk_353, List.forall_mem_cons.mpr ⟨lk_354, List.forall_mem_cons.mpr ⟨lk_102, List.forall_mem_cons.mpr ⟨lk_355, List.forall_mem_cons.mpr ⟨lk_119, List.forall_mem_cons.mpr ⟨lk_120, List.forall_mem_cons.mpr ⟨lk_121, List.forall_mem_cons.mpr ⟨lk_498, List.forall_mem_cons.mpr ⟨lk_499, List.forall_mem_cons.mpr ⟨lk_500, List.forall_mem_cons.mpr ⟨lk_501, List.forall_mem_cons.mpr ⟨lk_328, List.forall_mem_cons.mpr ⟨lk_329, List.forall_mem_cons.mpr ⟨lk_330, List.forall_mem_cons.mpr ⟨lk_331, List.forall_mem_cons.mpr ⟨lk_89, List.forall_mem_cons.mpr ⟨lk_443, List.forall_mem_cons.mpr ⟨lk_444, List.forall_mem_cons.mpr ⟨lk_445, List.forall_mem_cons.mpr ⟨lk_446, (fun _ h => absurd h List.not_mem_nil)⟩⟩⟩⟩⟩⟩⟩⟩⟩⟩⟩⟩⟩⟩⟩⟩⟩⟩⟩⟩⟩⟩⟩⟩)
theorem lk_654 : (Cond.methodLink RX5 172 yX5_power) ∈ lw_tbl := List.mem_of_getElem? (i := 912) (by decide +kernel)
theorem lk_655 : (Cond.static yX5_power) ∈ lw_tbl := List.mem_of_getElem? (i := 913) (by decide +kernel)
theorem lk_656 : (Cond.code yX5_power cX5_power 4 (some .int)) ∈ lw_tbl := List.mem_of_getElem? (i := 914) (by decide +kernel)
theorem lk_657 : (Cond.methodLink RX5 175 yX5_gcd) ∈ lw_tbl := List.mem_of_getElem? (i := 915) (by decide +kernel)
theorem lk_658 : (Cond.static yX5_gcd) ∈ lw_tbl := List.mem_of_getElem? (i := 916) (by decide +kernel)
theorem lk_659 : (Cond.code yX5_gcd cX5_gcd 5 (some .int)) ∈ lw_tbl := List.mem_of_getElem? (i := 917) (by decide +kernel)
set_option maxRecDepth 20000 in
theorem lm_wsX5_odds_r2 : ∀ w ∈ wsX5_odds_r2, w ∈ lw_tbl := by
  unfold wsX5_odds_r2
  exact (List.forall_mem_cons.mpr ⟨lk_447, List.forall_mem_cons.mpr ⟨lk_448, List.forall_mem_cons.mpr ⟨lk_449, List.forall_mem_cons.mpr ⟨lk_450, List.forall_mem_cons.mpr ⟨lk_303, List.forall_mem_cons.mpr ⟨lk_304, List.forall_mem_cons.mpr ⟨lk_305, List.forall_mem_cons.mpr ⟨lk_306, List.forall_mem_cons.mpr ⟨lk_91, List.forall_mem_cons.mpr ⟨lk_307, List.forall_mem_cons.mpr ⟨lk_308, List.forall_mem_cons.mpr ⟨lk_309, List.forall_mem_cons.mpr ⟨lk_310, List.forall_mem_cons.mpr ⟨lk_90, List.forall_mem_cons.mpr ⟨lk_654, List.forall_mem_cons.mpr ⟨lk_655, List.forall_mem_cons.mpr ⟨lk_656, List.forall_mem_cons.mpr ⟨lk_657, List.forall_mem_cons.mpr ⟨lk_658, List.forall_mem_cons.mpr ⟨lk_659, (fun _ h => absurd h List.not_mem_nil)⟩⟩⟩⟩⟩⟩⟩⟩⟩⟩⟩⟩⟩⟩⟩⟩⟩⟩⟩⟩)
set_option maxRecDepth 20000 in
theorem lm_wsX5_odds : ∀ w ∈ wsX5_odds, w ∈ lw_tbl := by
  unfold wsX5_odds
  exact (List.forall_mem_cons.mpr ⟨lk_653, (List.forall_mem_append.mpr ⟨(List.forall_mem_append.mpr ⟨lm_wsX5_odds_r1, lm_wsX5_odds_r2⟩), lm_wsX50⟩)⟩)
set_option maxRecDepth 20000 in
theorem lg_X5_odds : GoodIn lw_tbl wsX5_odds := goodIn_sub lm_wsX5_odds (by decide +kernel)
theorem lk_660 : (Cond.methodLink RL 121 yX5_odds) ∈ lw_tbl := List.mem_of_getElem? (i := 908) (by decide +kernel)
theorem lk_661 : (Cond.instanceMethod yX5_odds) ∈ lw_tbl := List.mem_of_getElem? (i := 909) (by decide +kernel)
theorem lk_662 : (Cond.selects RX5 yX5_odds yX5_odds) ∈ lw_tbl := List.mem_of_getElem? (i := 910) (by decide +kernel)
theorem lG_X5_odds : GoodIn lw_tbl (wsV RL 121 RX5 yX5_odds wsX5_odds) := goodIn_app (goodIn_sub (List.forall_mem_cons.mpr ⟨lk_660, List.forall_mem_cons.mpr ⟨lk_661, List.forall_mem_cons.mpr ⟨lk_662, List.forall_mem_cons.mpr ⟨lk_102, (fun _ h => absurd h List.not_mem_nil)⟩⟩⟩⟩) (by decide +kernel)) lg_X5_odds
theorem lk_663 : (Cond.code yX4_rate cX4_rate 3 (some .int)) ∈ lw_tbl := List.mem_of_getElem? (i := 582) (by decide +kernel)
theorem lk_664 : (Cond.methodLink RX4 223 yX4_rateLetter) ∈ lw_tbl := List.mem_of_getElem? (i := 583) (by decide +kernel)
theorem lk_665 : (Cond.instanceMethod yX4_rateLetter) ∈ lw_tbl := List.mem_of_getElem? (i := 585) (by decide +kernel)
theorem lk_666 : (Cond.selects RX4 yX4_rateLetter yX4_rateLetter) ∈ lw_tbl := List.mem_of_getElem? (i := 23) (by decide +kernel)
theorem lk_667 : (Cond.code yX4_rateLetter cX4_rateLetter 2 (some .int)) ∈ lw_tbl := List.mem_of_getElem? (i := 586) (by decide +kernel)
theorem lk_668 : (Cond.fieldLink RX4 250 "WindPost" "traced" "J") ∈ lw_tbl := List.mem_of_getElem? (i := 266) (by decide +kernel)
theorem lk_669 : (Cond.methodLink RX4 226 yX4_rateSummons) ∈ lw_tbl := List.mem_of_getElem? (i := 587) (by decide +kernel)
theorem lk_670 : (Cond.instanceMethod yX4_rateSummons) ∈ lw_tbl := List.mem_of_getElem? (i := 589) (by decide +kernel)
theorem lk_671 : (Cond.selects RX4 yX4_rateSummons yX4_rateSummons) ∈ lw_tbl := List.mem_of_getElem? (i := 24) (by decide +kernel)
theorem lk_672 : (Cond.code yX4_rateSummons cX4_rateSummons 2 (some .int)) ∈ lw_tbl := List.mem_of_getElem? (i := 590) (by decide +kernel)
theorem lk_673 : (Cond.constantLong RX4 260 (10)) ∈ lw_tbl := List.mem_of_getElem? (i := 591) (by decide +kernel)
set_option maxRecDepth 20000 in
theorem lm_wsX4_rate_r1 : ∀ w ∈ wsX4_rate_r1, w ∈ lw_tbl := by
  unfold wsX4_rate_r1
  exact (List.forall_mem_cons.mpr ⟨lk_632, List.forall_mem_cons.mpr ⟨lk_343, List.forall_mem_cons.mpr ⟨lk_344, List.forall_mem_cons.mpr ⟨lk_345, List.forall_mem_cons.mpr ⟨lk_85, List.forall_mem_cons.mpr ⟨lk_346, List.forall_mem_cons.mpr ⟨lk_16, List.forall_mem_cons.mpr ⟨lk_347, List.forall_mem_cons.mpr ⟨lk_105, List.forall_mem_cons.mpr ⟨lk_106, List.forall_mem_cons.mpr ⟨lk_107, List.forall_mem_cons.mpr ⟨lk_664, List.forall_mem_cons.mpr ⟨lk_665, List.forall_mem_cons.mpr ⟨lk_666, List.forall_mem_cons.mpr ⟨lk_667, List.forall_mem_cons.mpr ⟨lk_668, List.forall_mem_cons.mpr ⟨lk_336, List.forall_mem_cons.mpr ⟨lk_337, List.forall_mem_cons.mpr ⟨lk_669, List.forall_mem_cons.mpr ⟨lk_670, List.forall_mem_cons.mpr ⟨lk_671, List.forall_mem_cons.mpr ⟨lk_672, List.forall_mem_cons.mpr ⟨lk_673, List.forall_mem_cons.mpr ⟨lk_341, (fun _ h => absurd h List.not_mem_nil)⟩⟩⟩⟩⟩⟩⟩⟩⟩⟩⟩⟩⟩⟩⟩⟩⟩⟩⟩⟩⟩⟩⟩⟩)
theorem lk_674 : (Cond.methodLink RX4 229 yX4_rateGoose) ∈ lw_tbl := List.mem_of_getElem? (i := 592) (by decide +kernel)
theorem lk_675 : (Cond.instanceMethod yX4_rateGoose) ∈ lw_tbl := List.mem_of_getElem? (i := 594) (by decide +kernel)
theorem lk_676 : (Cond.selects RX4 yX4_rateGoose yX4_rateGoose) ∈ lw_tbl := List.mem_of_getElem? (i := 25) (by decide +kernel)
theorem lk_677 : (Cond.code yX4_rateGoose cX4_rateGoose 2 (some .int)) ∈ lw_tbl := List.mem_of_getElem? (i := 595) (by decide +kernel)
theorem lk_678 : (Cond.constantLong RX4 262 (100)) ∈ lw_tbl := List.mem_of_getElem? (i := 596) (by decide +kernel)
theorem lk_679 : (Cond.methodLink RX4 232 yX4_rateBill) ∈ lw_tbl := List.mem_of_getElem? (i := 597) (by decide +kernel)
theorem lk_680 : (Cond.instanceMethod yX4_rateBill) ∈ lw_tbl := List.mem_of_getElem? (i := 599) (by decide +kernel)
theorem lk_681 : (Cond.selects RX4 yX4_rateBill yX4_rateBill) ∈ lw_tbl := List.mem_of_getElem? (i := 26) (by decide +kernel)
theorem lk_682 : (Cond.code yX4_rateBill cX4_rateBill 2 (some .int)) ∈ lw_tbl := List.mem_of_getElem? (i := 600) (by decide +kernel)
theorem lk_683 : (Cond.constantLong RX4 264 (1000)) ∈ lw_tbl := List.mem_of_getElem? (i := 601) (by decide +kernel)
theorem lk_684 : (Cond.methodLink RX4 235 yX4_rateVow) ∈ lw_tbl := List.mem_of_getElem? (i := 602) (by decide +kernel)
theorem lk_685 : (Cond.instanceMethod yX4_rateVow) ∈ lw_tbl := List.mem_of_getElem? (i := 604) (by decide +kernel)
theorem lk_686 : (Cond.selects RX4 yX4_rateVow yX4_rateVow) ∈ lw_tbl := List.mem_of_getElem? (i := 27) (by decide +kernel)
theorem lk_687 : (Cond.code yX4_rateVow cX4_rateVow 2 (some .int)) ∈ lw_tbl := List.mem_of_getElem? (i := 605) (by decide +kernel)
theorem lk_688 : (Cond.constantLong RX4 266 (10000)) ∈ lw_tbl := List.mem_of_getElem? (i := 606) (by decide +kernel)
theorem lk_689 : (Cond.methodLink RX4 238 yX4_rateKite) ∈ lw_tbl := List.mem_of_getElem? (i := 607) (by decide +kernel)
set_option maxRecDepth 20000 in
theorem lm_wsX4_rate_r2 : ∀ w ∈ wsX4_rate_r2, w ∈ lw_tbl := by
  unfold wsX4_rate_r2
  exact (List.forall_mem_cons.mpr ⟨lk_594, List.forall_mem_cons.mpr ⟨lk_595, List.forall_mem_cons.mpr ⟨lk_596, List.forall_mem_cons.mpr ⟨lk_597, List.forall_mem_cons.mpr ⟨lk_598, List.forall_mem_cons.mpr ⟨lk_599, List.forall_mem_cons.mpr ⟨lk_600, List.forall_mem_cons.mpr ⟨lk_674, List.forall_mem_cons.mpr ⟨lk_675, List.forall_mem_cons.mpr ⟨lk_676, List.forall_mem_cons.mpr ⟨lk_677, List.forall_mem_cons.mpr ⟨lk_678, List.forall_mem_cons.mpr ⟨lk_340, List.forall_mem_cons.mpr ⟨lk_679, List.forall_mem_cons.mpr ⟨lk_680, List.forall_mem_cons.mpr ⟨lk_681, List.forall_mem_cons.mpr ⟨lk_682, List.forall_mem_cons.mpr ⟨lk_683, List.forall_mem_cons.mpr ⟨lk_684, List.forall_mem_cons.mpr ⟨lk_685, List.forall_mem_cons.mpr ⟨lk_686, List.forall_mem_cons.mpr ⟨lk_687, List.forall_mem_cons.mpr ⟨lk_688, List.forall_mem_cons.mpr ⟨lk_689, (fun _ h => absurd h List.not_mem_nil)⟩⟩⟩⟩⟩⟩⟩⟩⟩⟩⟩⟩⟩⟩⟩⟩⟩⟩⟩⟩⟩⟩⟩⟩)
theorem lk_690 : (Cond.instanceMethod yX4_rateKite) ∈ lw_tbl := List.mem_of_getElem? (i := 609) (by decide +kernel)
theorem lk_691 : (Cond.selects RX4 yX4_rateKite yX4_rateKite) ∈ lw_tbl := List.mem_of_getElem? (i := 28) (by decide +kernel)
theorem lk_692 : (Cond.code yX4_rateKite cX4_rateKite 2 (some .int)) ∈ lw_tbl := List.mem_of_getElem? (i := 610) (by decide +kernel)
theorem lk_693 : (Cond.constantLong RX4 268 (100000)) ∈ lw_tbl := List.mem_of_getElem? (i := 611) (by decide +kernel)
set_option maxRecDepth 20000 in
theorem lm_wsX4_rate_r3 : ∀ w ∈ wsX4_rate_r3, w ∈ lw_tbl := by
  unfold wsX4_rate_r3
  exact (List.forall_mem_cons.mpr ⟨lk_690, List.forall_mem_cons.mpr ⟨lk_691, List.forall_mem_cons.mpr ⟨lk_692, List.forall_mem_cons.mpr ⟨lk_693, List.forall_mem_cons.mpr ⟨lk_315, (fun _ h => absurd h List.not_mem_nil)⟩⟩⟩⟩⟩)
set_option maxRecDepth 20000 in
theorem lm_wsX4_rate : ∀ w ∈ wsX4_rate, w ∈ lw_tbl := by
  unfold wsX4_rate
  exact (List.forall_mem_cons.mpr ⟨lk_663, (List.forall_mem_append.mpr ⟨(List.forall_mem_append.mpr ⟨(List.forall_mem_append.mpr ⟨(List.forall_mem_append.mpr ⟨lm_wsX4_rate_r1, (List.forall_mem_append.mpr ⟨lm_wsX4_rate_r2, lm_wsX4_rate_r3⟩)⟩), lm_wsX40⟩), lm_wsX20⟩), lm_wsX10⟩)⟩)
set_option maxRecDepth 20000 in
theorem lg_X4_rate : GoodIn lw_tbl wsX4_rate := goodIn_sub lm_wsX4_rate (by decide +kernel)
theorem lk_694 : (Cond.methodLink RL 122 yX4_rate) ∈ lw_tbl := List.mem_of_getElem? (i := 579) (by decide +kernel)
theorem lk_695 : (Cond.instanceMethod yX4_rate) ∈ lw_tbl := List.mem_of_getElem? (i := 580) (by decide +kernel)
theorem lk_696 : (Cond.selects RX4 yX4_rate yX4_rate) ∈ lw_tbl := List.mem_of_getElem? (i := 581) (by decide +kernel)
theorem lG_X4_rate : GoodIn lw_tbl (wsV RL 122 RX4 yX4_rate wsX4_rate) := goodIn_app (goodIn_sub (List.forall_mem_cons.mpr ⟨lk_694, List.forall_mem_cons.mpr ⟨lk_695, List.forall_mem_cons.mpr ⟨lk_696, List.forall_mem_cons.mpr ⟨lk_85, (fun _ h => absurd h List.not_mem_nil)⟩⟩⟩⟩) (by decide +kernel)) lg_X4_rate
theorem lk_697 : (Cond.code yX5_rate cX5_rate 7 (some .int)) ∈ lw_tbl := List.mem_of_getElem? (i := 921) (by decide +kernel)
theorem lk_698 : (Cond.fieldLink RX5 178 "WindPostModel" "trace" "J") ∈ lw_tbl := List.mem_of_getElem? (i := 635) (by decide +kernel)
theorem lk_699 : (Cond.constantLong RX5 182 (11)) ∈ lw_tbl := List.mem_of_getElem? (i := 922) (by decide +kernel)
theorem lk_700 : (Cond.constantLong RX5 184 (101)) ∈ lw_tbl := List.mem_of_getElem? (i := 923) (by decide +kernel)
theorem lk_701 : (Cond.constantLong RX5 186 (1011)) ∈ lw_tbl := List.mem_of_getElem? (i := 924) (by decide +kernel)
theorem lk_702 : (Cond.constantLong RX5 188 (10101)) ∈ lw_tbl := List.mem_of_getElem? (i := 925) (by decide +kernel)
theorem lk_703 : (Cond.constantLong RX5 190 (100001)) ∈ lw_tbl := List.mem_of_getElem? (i := 926) (by decide +kernel)
set_option maxRecDepth 20000 in
theorem lm_wsX5_rate : ∀ w ∈ wsX5_rate, w ∈ lw_tbl := by
  unfold wsX5_rate
  exact (List.forall_mem_cons.mpr ⟨lk_697, (List.forall_mem_append.mpr ⟨(List.forall_mem_cons.mpr ⟨lk_117, List.forall_mem_cons.mpr ⟨lk_638, List.forall_mem_cons.mpr ⟨lk_93, List.forall_mem_cons.mpr ⟨lk_698, List.forall_mem_cons.mpr ⟨lk_699, List.forall_mem_cons.mpr ⟨lk_700, List.forall_mem_cons.mpr ⟨lk_701, List.forall_mem_cons.mpr ⟨lk_702, List.forall_mem_cons.mpr ⟨lk_703, List.forall_mem_cons.mpr ⟨lk_119, List.forall_mem_cons.mpr ⟨lk_120, List.forall_mem_cons.mpr ⟨lk_102, List.forall_mem_cons.mpr ⟨lk_121, List.forall_mem_cons.mpr ⟨lk_352, List.forall_mem_cons.mpr ⟨lk_353, List.forall_mem_cons.mpr ⟨lk_354, List.forall_mem_cons.mpr ⟨lk_355, List.forall_mem_cons.mpr ⟨lk_605, List.forall_mem_cons.mpr ⟨lk_606, List.forall_mem_cons.mpr ⟨lk_607, (fun _ h => absurd h List.not_mem_nil)⟩⟩⟩⟩⟩⟩⟩⟩⟩⟩⟩⟩⟩⟩⟩⟩⟩⟩⟩⟩), lm_wsX50⟩)⟩)
set_option maxRecDepth 20000 in
theorem lg_X5_rate : GoodIn lw_tbl wsX5_rate := goodIn_sub lm_wsX5_rate (by decide +kernel)
theorem lk_704 : (Cond.methodLink RL 125 yX5_rate) ∈ lw_tbl := List.mem_of_getElem? (i := 918) (by decide +kernel)
theorem lk_705 : (Cond.instanceMethod yX5_rate) ∈ lw_tbl := List.mem_of_getElem? (i := 919) (by decide +kernel)
theorem lk_706 : (Cond.selects RX5 yX5_rate yX5_rate) ∈ lw_tbl := List.mem_of_getElem? (i := 920) (by decide +kernel)
theorem lG_X5_rate : GoodIn lw_tbl (wsV RL 125 RX5 yX5_rate wsX5_rate) := goodIn_app (goodIn_sub (List.forall_mem_cons.mpr ⟨lk_704, List.forall_mem_cons.mpr ⟨lk_705, List.forall_mem_cons.mpr ⟨lk_706, List.forall_mem_cons.mpr ⟨lk_102, (fun _ h => absurd h List.not_mem_nil)⟩⟩⟩⟩) (by decide +kernel)) lg_X5_rate
theorem lk_707 : (Cond.code yX4_keep cX4_keep 2 (some .int)) ∈ lw_tbl := List.mem_of_getElem? (i := 615) (by decide +kernel)
set_option maxRecDepth 20000 in
theorem lm_wsX4_keep_r1 : ∀ w ∈ wsX4_keep_r1, w ∈ lw_tbl := by
  unfold wsX4_keep_r1
  exact (List.forall_mem_cons.mpr ⟨lk_18, List.forall_mem_cons.mpr ⟨lk_16, List.forall_mem_cons.mpr ⟨lk_20, List.forall_mem_cons.mpr ⟨lk_315, List.forall_mem_cons.mpr ⟨lk_105, List.forall_mem_cons.mpr ⟨lk_106, List.forall_mem_cons.mpr ⟨lk_85, List.forall_mem_cons.mpr ⟨lk_107, List.forall_mem_cons.mpr ⟨lk_386, List.forall_mem_cons.mpr ⟨lk_387, List.forall_mem_cons.mpr ⟨lk_388, List.forall_mem_cons.mpr ⟨lk_15, List.forall_mem_cons.mpr ⟨lk_389, List.forall_mem_cons.mpr ⟨lk_214, List.forall_mem_cons.mpr ⟨lk_215, List.forall_mem_cons.mpr ⟨lk_216, List.forall_mem_cons.mpr ⟨lk_218, List.forall_mem_cons.mpr ⟨lk_77, List.forall_mem_cons.mpr ⟨lk_79, List.forall_mem_cons.mpr ⟨lk_390, List.forall_mem_cons.mpr ⟨lk_391, List.forall_mem_cons.mpr ⟨lk_392, List.forall_mem_cons.mpr ⟨lk_23, List.forall_mem_cons.mpr ⟨lk_393, (fun _ h => absurd h List.not_mem_nil)⟩⟩⟩⟩⟩⟩⟩⟩⟩⟩⟩⟩⟩⟩⟩⟩⟩⟩⟩⟩⟩⟩⟩⟩)
set_option maxRecDepth 20000 in
theorem lm_wsX4_keep_r2 : ∀ w ∈ wsX4_keep_r2, w ∈ lw_tbl := by
  unfold wsX4_keep_r2
  exact (List.forall_mem_cons.mpr ⟨lk_394, List.forall_mem_cons.mpr ⟨lk_395, List.forall_mem_cons.mpr ⟨lk_396, List.forall_mem_cons.mpr ⟨lk_397, List.forall_mem_cons.mpr ⟨lk_398, List.forall_mem_cons.mpr ⟨lk_399, List.forall_mem_cons.mpr ⟨lk_400, (fun _ h => absurd h List.not_mem_nil)⟩⟩⟩⟩⟩⟩⟩)
set_option maxRecDepth 20000 in
theorem lm_wsX4_keep : ∀ w ∈ wsX4_keep, w ∈ lw_tbl := by
  unfold wsX4_keep
  exact (List.forall_mem_cons.mpr ⟨lk_707, (List.forall_mem_append.mpr ⟨(List.forall_mem_append.mpr ⟨(List.forall_mem_append.mpr ⟨(List.forall_mem_append.mpr ⟨lm_wsX4_keep_r1, lm_wsX4_keep_r2⟩), lm_wsX40⟩), lm_wsX20⟩), lm_wsX10⟩)⟩)
set_option maxRecDepth 20000 in
theorem lg_X4_keep : GoodIn lw_tbl wsX4_keep := goodIn_sub lm_wsX4_keep (by decide +kernel)
theorem lk_708 : (Cond.methodLink RL 126 yX4_keep) ∈ lw_tbl := List.mem_of_getElem? (i := 612) (by decide +kernel)
theorem lk_709 : (Cond.instanceMethod yX4_keep) ∈ lw_tbl := List.mem_of_getElem? (i := 613) (by decide +kernel)
theorem lk_710 : (Cond.selects RX4 yX4_keep yX4_keep) ∈ lw_tbl := List.mem_of_getElem? (i := 614) (by decide +kernel)
theorem lG_X4_keep : GoodIn lw_tbl (wsV RL 126 RX4 yX4_keep wsX4_keep) := goodIn_app (goodIn_sub (List.forall_mem_cons.mpr ⟨lk_708, List.forall_mem_cons.mpr ⟨lk_709, List.forall_mem_cons.mpr ⟨lk_710, List.forall_mem_cons.mpr ⟨lk_85, (fun _ h => absurd h List.not_mem_nil)⟩⟩⟩⟩) (by decide +kernel)) lg_X4_keep
theorem lk_711 : (Cond.code yX5_keep cX5_keep 3 (some .int)) ∈ lw_tbl := List.mem_of_getElem? (i := 930) (by decide +kernel)
set_option maxRecDepth 20000 in
theorem lm_wsX5_keep : ∀ w ∈ wsX5_keep, w ∈ lw_tbl := by
  unfold wsX5_keep
  exact (List.forall_mem_cons.mpr ⟨lk_711, (List.forall_mem_append.mpr ⟨(List.forall_mem_cons.mpr ⟨lk_117, List.forall_mem_cons.mpr ⟨lk_94, List.forall_mem_cons.mpr ⟨lk_93, List.forall_mem_cons.mpr ⟨lk_95, List.forall_mem_cons.mpr ⟨lk_119, List.forall_mem_cons.mpr ⟨lk_120, List.forall_mem_cons.mpr ⟨lk_102, List.forall_mem_cons.mpr ⟨lk_121, (fun _ h => absurd h List.not_mem_nil)⟩⟩⟩⟩⟩⟩⟩⟩), lm_wsX50⟩)⟩)
set_option maxRecDepth 20000 in
theorem lg_X5_keep : GoodIn lw_tbl wsX5_keep := goodIn_sub lm_wsX5_keep (by decide +kernel)
theorem lk_712 : (Cond.methodLink RL 129 yX5_keep) ∈ lw_tbl := List.mem_of_getElem? (i := 927) (by decide +kernel)
theorem lk_713 : (Cond.instanceMethod yX5_keep) ∈ lw_tbl := List.mem_of_getElem? (i := 928) (by decide +kernel)
theorem lk_714 : (Cond.selects RX5 yX5_keep yX5_keep) ∈ lw_tbl := List.mem_of_getElem? (i := 929) (by decide +kernel)
theorem lG_X5_keep : GoodIn lw_tbl (wsV RL 129 RX5 yX5_keep wsX5_keep) := goodIn_app (goodIn_sub (List.forall_mem_cons.mpr ⟨lk_712, List.forall_mem_cons.mpr ⟨lk_713, List.forall_mem_cons.mpr ⟨lk_714, List.forall_mem_cons.mpr ⟨lk_102, (fun _ h => absurd h List.not_mem_nil)⟩⟩⟩⟩) (by decide +kernel)) lg_X5_keep
theorem lk_715 : (Cond.code yX4_back cX4_back 2 (some .int)) ∈ lw_tbl := List.mem_of_getElem? (i := 619) (by decide +kernel)
set_option maxRecDepth 20000 in
theorem lm_wsX4_back_r1 : ∀ w ∈ wsX4_back_r1, w ∈ lw_tbl := by
  unfold wsX4_back_r1
  exact (List.forall_mem_cons.mpr ⟨lk_20, List.forall_mem_cons.mpr ⟨lk_16, List.forall_mem_cons.mpr ⟨lk_18, List.forall_mem_cons.mpr ⟨lk_134, List.forall_mem_cons.mpr ⟨lk_315, List.forall_mem_cons.mpr ⟨lk_105, List.forall_mem_cons.mpr ⟨lk_106, List.forall_mem_cons.mpr ⟨lk_85, List.forall_mem_cons.mpr ⟨lk_107, List.forall_mem_cons.mpr ⟨lk_386, List.forall_mem_cons.mpr ⟨lk_387, List.forall_mem_cons.mpr ⟨lk_388, List.forall_mem_cons.mpr ⟨lk_15, List.forall_mem_cons.mpr ⟨lk_389, List.forall_mem_cons.mpr ⟨lk_214, List.forall_mem_cons.mpr ⟨lk_215, List.forall_mem_cons.mpr ⟨lk_216, List.forall_mem_cons.mpr ⟨lk_218, List.forall_mem_cons.mpr ⟨lk_77, List.forall_mem_cons.mpr ⟨lk_79, List.forall_mem_cons.mpr ⟨lk_390, List.forall_mem_cons.mpr ⟨lk_391, List.forall_mem_cons.mpr ⟨lk_392, List.forall_mem_cons.mpr ⟨lk_23, (fun _ h => absurd h List.not_mem_nil)⟩⟩⟩⟩⟩⟩⟩⟩⟩⟩⟩⟩⟩⟩⟩⟩⟩⟩⟩⟩⟩⟩⟩⟩)
set_option maxRecDepth 20000 in
theorem lm_wsX4_back_r2 : ∀ w ∈ wsX4_back_r2, w ∈ lw_tbl := by
  unfold wsX4_back_r2
  exact (List.forall_mem_cons.mpr ⟨lk_393, List.forall_mem_cons.mpr ⟨lk_394, List.forall_mem_cons.mpr ⟨lk_395, List.forall_mem_cons.mpr ⟨lk_396, List.forall_mem_cons.mpr ⟨lk_397, List.forall_mem_cons.mpr ⟨lk_398, List.forall_mem_cons.mpr ⟨lk_399, List.forall_mem_cons.mpr ⟨lk_400, (fun _ h => absurd h List.not_mem_nil)⟩⟩⟩⟩⟩⟩⟩⟩)
set_option maxRecDepth 20000 in
theorem lm_wsX4_back : ∀ w ∈ wsX4_back, w ∈ lw_tbl := by
  unfold wsX4_back
  exact (List.forall_mem_cons.mpr ⟨lk_715, (List.forall_mem_append.mpr ⟨(List.forall_mem_append.mpr ⟨(List.forall_mem_append.mpr ⟨(List.forall_mem_append.mpr ⟨lm_wsX4_back_r1, lm_wsX4_back_r2⟩), lm_wsX40⟩), lm_wsX20⟩), lm_wsX10⟩)⟩)
set_option maxRecDepth 20000 in
theorem lg_X4_back : GoodIn lw_tbl wsX4_back := goodIn_sub lm_wsX4_back (by decide +kernel)
theorem lk_716 : (Cond.methodLink RL 130 yX4_back) ∈ lw_tbl := List.mem_of_getElem? (i := 616) (by decide +kernel)
theorem lk_717 : (Cond.instanceMethod yX4_back) ∈ lw_tbl := List.mem_of_getElem? (i := 617) (by decide +kernel)
theorem lk_718 : (Cond.selects RX4 yX4_back yX4_back) ∈ lw_tbl := List.mem_of_getElem? (i := 618) (by decide +kernel)
theorem lG_X4_back : GoodIn lw_tbl (wsV RL 130 RX4 yX4_back wsX4_back) := goodIn_app (goodIn_sub (List.forall_mem_cons.mpr ⟨lk_716, List.forall_mem_cons.mpr ⟨lk_717, List.forall_mem_cons.mpr ⟨lk_718, List.forall_mem_cons.mpr ⟨lk_85, (fun _ h => absurd h List.not_mem_nil)⟩⟩⟩⟩) (by decide +kernel)) lg_X4_back
theorem lk_719 : (Cond.code yX5_back cX5_back 3 (some .int)) ∈ lw_tbl := List.mem_of_getElem? (i := 934) (by decide +kernel)
set_option maxRecDepth 20000 in
theorem lm_wsX5_back : ∀ w ∈ wsX5_back, w ∈ lw_tbl := by
  unfold wsX5_back
  exact (List.forall_mem_cons.mpr ⟨lk_719, (List.forall_mem_append.mpr ⟨(List.forall_mem_cons.mpr ⟨lk_117, List.forall_mem_cons.mpr ⟨lk_95, List.forall_mem_cons.mpr ⟨lk_93, List.forall_mem_cons.mpr ⟨lk_94, List.forall_mem_cons.mpr ⟨lk_270, List.forall_mem_cons.mpr ⟨lk_119, List.forall_mem_cons.mpr ⟨lk_120, List.forall_mem_cons.mpr ⟨lk_102, List.forall_mem_cons.mpr ⟨lk_121, (fun _ h => absurd h List.not_mem_nil)⟩⟩⟩⟩⟩⟩⟩⟩⟩), lm_wsX50⟩)⟩)
set_option maxRecDepth 20000 in
theorem lg_X5_back : GoodIn lw_tbl wsX5_back := goodIn_sub lm_wsX5_back (by decide +kernel)
theorem lk_720 : (Cond.methodLink RL 133 yX5_back) ∈ lw_tbl := List.mem_of_getElem? (i := 931) (by decide +kernel)
theorem lk_721 : (Cond.instanceMethod yX5_back) ∈ lw_tbl := List.mem_of_getElem? (i := 932) (by decide +kernel)
theorem lk_722 : (Cond.selects RX5 yX5_back yX5_back) ∈ lw_tbl := List.mem_of_getElem? (i := 933) (by decide +kernel)
theorem lG_X5_back : GoodIn lw_tbl (wsV RL 133 RX5 yX5_back wsX5_back) := goodIn_app (goodIn_sub (List.forall_mem_cons.mpr ⟨lk_720, List.forall_mem_cons.mpr ⟨lk_721, List.forall_mem_cons.mpr ⟨lk_722, List.forall_mem_cons.mpr ⟨lk_102, (fun _ h => absurd h List.not_mem_nil)⟩⟩⟩⟩) (by decide +kernel)) lg_X5_back
theorem lk_723 : (Cond.code yX4_count cX4_count 2 (some .int)) ∈ lw_tbl := List.mem_of_getElem? (i := 623) (by decide +kernel)
theorem lk_724 : (Cond.fieldLink RX4 241 "WindPost$Chart" "wide" "I") ∈ lw_tbl := List.mem_of_getElem? (i := 139) (by decide +kernel)
theorem lk_725 : (Cond.fieldLink RX4 244 "WindPost$Chart" "high" "I") ∈ lw_tbl := List.mem_of_getElem? (i := 142) (by decide +kernel)
theorem lk_726 : (Cond.fieldLink RX4 247 "WindPost$Chart" "hills" "I") ∈ lw_tbl := List.mem_of_getElem? (i := 152) (by decide +kernel)
set_option maxRecDepth 20000 in
theorem lm_wsX4_count : ∀ w ∈ wsX4_count, w ∈ lw_tbl := by
  unfold wsX4_count
  exact (List.forall_mem_cons.mpr ⟨lk_723, (List.forall_mem_append.mpr ⟨(List.forall_mem_append.mpr ⟨(List.forall_mem_append.mpr ⟨(List.forall_mem_append.mpr ⟨(List.forall_mem_cons.mpr ⟨lk_11, List.forall_mem_cons.mpr ⟨lk_724, List.forall_mem_cons.mpr ⟨lk_725, List.forall_mem_cons.mpr ⟨lk_281, List.forall_mem_cons.mpr ⟨lk_726, List.forall_mem_cons.mpr ⟨lk_16, List.forall_mem_cons.mpr ⟨lk_463, List.forall_mem_cons.mpr ⟨lk_633, List.forall_mem_cons.mpr ⟨lk_7, List.forall_mem_cons.mpr ⟨lk_104, (fun _ h => absurd h List.not_mem_nil)⟩⟩⟩⟩⟩⟩⟩⟩⟩⟩), lm_wsX40⟩), lm_wsX00⟩), lm_wsX20⟩), lm_wsX30⟩)⟩)
set_option maxRecDepth 20000 in
theorem lg_X4_count : GoodIn lw_tbl wsX4_count := goodIn_sub lm_wsX4_count (by decide +kernel)
theorem lk_727 : (Cond.methodLink RL 134 yX4_count) ∈ lw_tbl := List.mem_of_getElem? (i := 620) (by decide +kernel)
theorem lk_728 : (Cond.instanceMethod yX4_count) ∈ lw_tbl := List.mem_of_getElem? (i := 621) (by decide +kernel)
theorem lk_729 : (Cond.selects RX4 yX4_count yX4_count) ∈ lw_tbl := List.mem_of_getElem? (i := 622) (by decide +kernel)
theorem lG_X4_count : GoodIn lw_tbl (wsV RL 134 RX4 yX4_count wsX4_count) := goodIn_app (goodIn_sub (List.forall_mem_cons.mpr ⟨lk_727, List.forall_mem_cons.mpr ⟨lk_728, List.forall_mem_cons.mpr ⟨lk_729, List.forall_mem_cons.mpr ⟨lk_85, (fun _ h => absurd h List.not_mem_nil)⟩⟩⟩⟩) (by decide +kernel)) lg_X4_count
theorem lk_730 : (Cond.code yX5_count cX5_count 2 (some .int)) ∈ lw_tbl := List.mem_of_getElem? (i := 938) (by decide +kernel)
set_option maxRecDepth 20000 in
theorem lm_wsX5_count : ∀ w ∈ wsX5_count, w ∈ lw_tbl := by
  unfold wsX5_count
  exact (List.forall_mem_cons.mpr ⟨lk_730, (List.forall_mem_append.mpr ⟨(List.forall_mem_cons.mpr ⟨lk_117, List.forall_mem_cons.mpr ⟨lk_89, List.forall_mem_cons.mpr ⟨lk_118, List.forall_mem_cons.mpr ⟨lk_119, List.forall_mem_cons.mpr ⟨lk_120, List.forall_mem_cons.mpr ⟨lk_102, List.forall_mem_cons.mpr ⟨lk_121, (fun _ h => absurd h List.not_mem_nil)⟩⟩⟩⟩⟩⟩⟩), lm_wsX50⟩)⟩)
set_option maxRecDepth 20000 in
theorem lg_X5_count : GoodIn lw_tbl wsX5_count := goodIn_sub lm_wsX5_count (by decide +kernel)
theorem lk_731 : (Cond.methodLink RL 137 yX5_count) ∈ lw_tbl := List.mem_of_getElem? (i := 935) (by decide +kernel)
theorem lk_732 : (Cond.instanceMethod yX5_count) ∈ lw_tbl := List.mem_of_getElem? (i := 936) (by decide +kernel)
theorem lk_733 : (Cond.selects RX5 yX5_count yX5_count) ∈ lw_tbl := List.mem_of_getElem? (i := 937) (by decide +kernel)
theorem lG_X5_count : GoodIn lw_tbl (wsV RL 137 RX5 yX5_count wsX5_count) := goodIn_app (goodIn_sub (List.forall_mem_cons.mpr ⟨lk_731, List.forall_mem_cons.mpr ⟨lk_732, List.forall_mem_cons.mpr ⟨lk_733, List.forall_mem_cons.mpr ⟨lk_102, (fun _ h => absurd h List.not_mem_nil)⟩⟩⟩⟩) (by decide +kernel)) lg_X5_count
theorem lk_734 : (Cond.code yX4_trace cX4_trace 1 (some .long)) ∈ lw_tbl := List.mem_of_getElem? (i := 627) (by decide +kernel)
set_option maxRecDepth 20000 in
theorem lm_wsX4_trace : ∀ w ∈ wsX4_trace, w ∈ lw_tbl := by
  unfold wsX4_trace
  exact (List.forall_mem_cons.mpr ⟨lk_734, (List.forall_mem_append.mpr ⟨(List.forall_mem_cons.mpr ⟨lk_668, (fun _ h => absurd h List.not_mem_nil)⟩), lm_wsX40⟩)⟩)
set_option maxRecDepth 20000 in
theorem lg_X4_trace : GoodIn lw_tbl wsX4_trace := goodIn_sub lm_wsX4_trace (by decide +kernel)
theorem lk_735 : (Cond.methodLink RL 138 yX4_trace) ∈ lw_tbl := List.mem_of_getElem? (i := 624) (by decide +kernel)
theorem lk_736 : (Cond.instanceMethod yX4_trace) ∈ lw_tbl := List.mem_of_getElem? (i := 625) (by decide +kernel)
theorem lk_737 : (Cond.selects RX4 yX4_trace yX4_trace) ∈ lw_tbl := List.mem_of_getElem? (i := 626) (by decide +kernel)
theorem lG_X4_trace : GoodIn lw_tbl (wsV RL 138 RX4 yX4_trace wsX4_trace) := goodIn_app (goodIn_sub (List.forall_mem_cons.mpr ⟨lk_735, List.forall_mem_cons.mpr ⟨lk_736, List.forall_mem_cons.mpr ⟨lk_737, List.forall_mem_cons.mpr ⟨lk_85, (fun _ h => absurd h List.not_mem_nil)⟩⟩⟩⟩) (by decide +kernel)) lg_X4_trace
theorem lk_738 : (Cond.code yX5_trace cX5_trace 1 (some .long)) ∈ lw_tbl := List.mem_of_getElem? (i := 942) (by decide +kernel)
set_option maxRecDepth 20000 in
theorem lm_wsX5_trace : ∀ w ∈ wsX5_trace, w ∈ lw_tbl := by
  unfold wsX5_trace
  exact (List.forall_mem_cons.mpr ⟨lk_738, (List.forall_mem_append.mpr ⟨(List.forall_mem_cons.mpr ⟨lk_117, List.forall_mem_cons.mpr ⟨lk_698, (fun _ h => absurd h List.not_mem_nil)⟩⟩), lm_wsX50⟩)⟩)
set_option maxRecDepth 20000 in
theorem lg_X5_trace : GoodIn lw_tbl wsX5_trace := goodIn_sub lm_wsX5_trace (by decide +kernel)
theorem lk_739 : (Cond.methodLink RL 142 yX5_trace) ∈ lw_tbl := List.mem_of_getElem? (i := 939) (by decide +kernel)
theorem lk_740 : (Cond.instanceMethod yX5_trace) ∈ lw_tbl := List.mem_of_getElem? (i := 940) (by decide +kernel)
theorem lk_741 : (Cond.selects RX5 yX5_trace yX5_trace) ∈ lw_tbl := List.mem_of_getElem? (i := 941) (by decide +kernel)
theorem lG_X5_trace : GoodIn lw_tbl (wsV RL 142 RX5 yX5_trace wsX5_trace) := goodIn_app (goodIn_sub (List.forall_mem_cons.mpr ⟨lk_739, List.forall_mem_cons.mpr ⟨lk_740, List.forall_mem_cons.mpr ⟨lk_741, List.forall_mem_cons.mpr ⟨lk_102, (fun _ h => absurd h List.not_mem_nil)⟩⟩⟩⟩) (by decide +kernel)) lg_X5_trace
theorem lk_742 : (Cond.classLink RL 7 RX4) ∈ lw_tbl := List.mem_of_getElem? (i := 63) (by decide +kernel)
theorem lk_743 : (Cond.instantiable RX4 12) ∈ lw_tbl := List.mem_of_getElem? (i := 64) (by decide +kernel)
theorem lk_744 : (Cond.classLink RL 10 RX5) ∈ lw_tbl := List.mem_of_getElem? (i := 628) (by decide +kernel)
theorem lk_745 : (Cond.instantiable RX5 22) ∈ lw_tbl := List.mem_of_getElem? (i := 629) (by decide +kernel)
