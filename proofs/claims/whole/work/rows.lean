section
-- ===== PART A: goes FIRST, ahead of the names: the tables' words, and 'selects' of the private methods out of them =====
/-- a private method of a class that the tables say can be made, by its rows of tables_1 -/
def lw_okq (q : MethodName × Nat) : Prop := (q.1.cls ≠ "java/lang/invoke/MethodHandle" ∧ q.1.cls ≠ "java/lang/invoke/VarHandle") ∧ Cond.instantiable q.1.cls q.2 ∈ tables_1 ∧ Cond.privateMethod q.1 ∈ tables_1 ∧ Cond.instanceMethod q.1 ∈ tables_1
theorem lw_p0 : lw_okq (⟨"WindPost$Chart", "drawWay", "(II)V"⟩, 10) := ⟨⟨by decide +kernel, by decide +kernel⟩, List.mem_of_getElem? (i := 51) (by decide +kernel), List.mem_of_getElem? (i := 72) (by decide +kernel), List.mem_of_getElem? (i := 73) (by decide +kernel)⟩
theorem lw_p1 : lw_okq (⟨"WindPost$Chart", "beside", "(II)I"⟩, 10) := ⟨⟨by decide +kernel, by decide +kernel⟩, List.mem_of_getElem? (i := 51) (by decide +kernel), List.mem_of_getElem? (i := 76) (by decide +kernel), List.mem_of_getElem? (i := 77) (by decide +kernel)⟩
theorem lw_p2 : lw_okq (⟨"WindPost$Text", "step", "()V"⟩, 8) := ⟨⟨by decide +kernel, by decide +kernel⟩, List.mem_of_getElem? (i := 18) (by decide +kernel), List.mem_of_getElem? (i := 264) (by decide +kernel), List.mem_of_getElem? (i := 265) (by decide +kernel)⟩
theorem lw_p3 : lw_okq (⟨"WindPost$Text", "readItem", "(LWindPost$Chart;)Z"⟩, 8) := ⟨⟨by decide +kernel, by decide +kernel⟩, List.mem_of_getElem? (i := 18) (by decide +kernel), List.mem_of_getElem? (i := 275) (by decide +kernel), List.mem_of_getElem? (i := 276) (by decide +kernel)⟩
theorem lw_p4 : lw_okq (⟨"WindPost$Text", "readSize", "(LWindPost$Chart;)Z"⟩, 8) := ⟨⟨by decide +kernel, by decide +kernel⟩, List.mem_of_getElem? (i := 18) (by decide +kernel), List.mem_of_getElem? (i := 279) (by decide +kernel), List.mem_of_getElem? (i := 280) (by decide +kernel)⟩
theorem lw_p5 : lw_okq (⟨"WindPost$Text", "stepsToNumber", "(II)Z"⟩, 8) := ⟨⟨by decide +kernel, by decide +kernel⟩, List.mem_of_getElem? (i := 18) (by decide +kernel), List.mem_of_getElem? (i := 283) (by decide +kernel), List.mem_of_getElem? (i := 284) (by decide +kernel)⟩
theorem lw_p6 : lw_okq (⟨"WindPost$Text", "stepsToEnd", "()Z"⟩, 8) := ⟨⟨by decide +kernel, by decide +kernel⟩, List.mem_of_getElem? (i := 18) (by decide +kernel), List.mem_of_getElem? (i := 288) (by decide +kernel), List.mem_of_getElem? (i := 289) (by decide +kernel)⟩
theorem lw_p7 : lw_okq (⟨"WindPost$Text", "readIsle", "(LWindPost$Chart;)Z"⟩, 8) := ⟨⟨by decide +kernel, by decide +kernel⟩, List.mem_of_getElem? (i := 18) (by decide +kernel), List.mem_of_getElem? (i := 292) (by decide +kernel), List.mem_of_getElem? (i := 293) (by decide +kernel)⟩
theorem lw_p8 : lw_okq (⟨"WindPost$Text", "readHill", "(LWindPost$Chart;)Z"⟩, 8) := ⟨⟨by decide +kernel, by decide +kernel⟩, List.mem_of_getElem? (i := 18) (by decide +kernel), List.mem_of_getElem? (i := 302) (by decide +kernel), List.mem_of_getElem? (i := 303) (by decide +kernel)⟩
theorem lw_p9 : lw_okq (⟨"WindPost$Text", "readWinds", "(LWindPost$Chart;)Z"⟩, 8) := ⟨⟨by decide +kernel, by decide +kernel⟩, List.mem_of_getElem? (i := 18) (by decide +kernel), List.mem_of_getElem? (i := 310) (by decide +kernel), List.mem_of_getElem? (i := 311) (by decide +kernel)⟩
theorem lw_p10 : lw_okq (⟨"WindPost$Text", "readForce", "(LWindPost$Chart;)Z"⟩, 8) := ⟨⟨by decide +kernel, by decide +kernel⟩, List.mem_of_getElem? (i := 18) (by decide +kernel), List.mem_of_getElem? (i := 318) (by decide +kernel), List.mem_of_getElem? (i := 319) (by decide +kernel)⟩
theorem lw_p11 : lw_okq (⟨"WindPost", "isIsle", "(I)Z"⟩, 12) := ⟨⟨by decide +kernel, by decide +kernel⟩, List.mem_of_getElem? (i := 10) (by decide +kernel), List.mem_of_getElem? (i := 331) (by decide +kernel), List.mem_of_getElem? (i := 332) (by decide +kernel)⟩
theorem lw_p12 : lw_okq (⟨"WindPost", "isLetter", "(I)Z"⟩, 12) := ⟨⟨by decide +kernel, by decide +kernel⟩, List.mem_of_getElem? (i := 10) (by decide +kernel), List.mem_of_getElem? (i := 358) (by decide +kernel), List.mem_of_getElem? (i := 359) (by decide +kernel)⟩
theorem lw_p13 : lw_okq (⟨"WindPost", "isWay", "(II)Z"⟩, 12) := ⟨⟨by decide +kernel, by decide +kernel⟩, List.mem_of_getElem? (i := 10) (by decide +kernel), List.mem_of_getElem? (i := 374) (by decide +kernel), List.mem_of_getElem? (i := 375) (by decide +kernel)⟩
theorem lw_p14 : lw_okq (⟨"WindPost", "remember", "()V"⟩, 12) := ⟨⟨by decide +kernel, by decide +kernel⟩, List.mem_of_getElem? (i := 10) (by decide +kernel), List.mem_of_getElem? (i := 381) (by decide +kernel), List.mem_of_getElem? (i := 382) (by decide +kernel)⟩
theorem lw_p15 : lw_okq (⟨"WindPost", "letterIn", "(II)LWindPost$Letter;"⟩, 12) := ⟨⟨by decide +kernel, by decide +kernel⟩, List.mem_of_getElem? (i := 10) (by decide +kernel), List.mem_of_getElem? (i := 432) (by decide +kernel), List.mem_of_getElem? (i := 433) (by decide +kernel)⟩
def lw_privs_1 : List (MethodName × Nat) := [(⟨"WindPost$Chart", "drawWay", "(II)V"⟩, 10), (⟨"WindPost$Chart", "beside", "(II)I"⟩, 10), (⟨"WindPost$Text", "step", "()V"⟩, 8), (⟨"WindPost$Text", "readItem", "(LWindPost$Chart;)Z"⟩, 8), (⟨"WindPost$Text", "readSize", "(LWindPost$Chart;)Z"⟩, 8), (⟨"WindPost$Text", "stepsToNumber", "(II)Z"⟩, 8), (⟨"WindPost$Text", "stepsToEnd", "()Z"⟩, 8), (⟨"WindPost$Text", "readIsle", "(LWindPost$Chart;)Z"⟩, 8), (⟨"WindPost$Text", "readHill", "(LWindPost$Chart;)Z"⟩, 8), (⟨"WindPost$Text", "readWinds", "(LWindPost$Chart;)Z"⟩, 8), (⟨"WindPost$Text", "readForce", "(LWindPost$Chart;)Z"⟩, 8), (⟨"WindPost", "isIsle", "(I)Z"⟩, 12), (⟨"WindPost", "isLetter", "(I)Z"⟩, 12), (⟨"WindPost", "isWay", "(II)Z"⟩, 12), (⟨"WindPost", "remember", "()V"⟩, 12), (⟨"WindPost", "letterIn", "(II)LWindPost$Letter;"⟩, 12)]
theorem lw_r1 : ∀ q ∈ lw_privs_1, lw_okq q := List.forall_mem_cons.mpr ⟨lw_p0, List.forall_mem_cons.mpr ⟨lw_p1, List.forall_mem_cons.mpr ⟨lw_p2, List.forall_mem_cons.mpr ⟨lw_p3, List.forall_mem_cons.mpr ⟨lw_p4, List.forall_mem_cons.mpr ⟨lw_p5, List.forall_mem_cons.mpr ⟨lw_p6, List.forall_mem_cons.mpr ⟨lw_p7, List.forall_mem_cons.mpr ⟨lw_p8, List.forall_mem_cons.mpr ⟨lw_p9, List.forall_mem_cons.mpr ⟨lw_p10, List.forall_mem_cons.mpr ⟨lw_p11, List.forall_mem_cons.mpr ⟨lw_p12, List.forall_mem_cons.mpr ⟨lw_p13, List.forall_mem_cons.mpr ⟨lw_p14, List.forall_mem_cons.mpr ⟨lw_p15, fun _ h => absurd h List.not_mem_nil⟩⟩⟩⟩⟩⟩⟩⟩⟩⟩⟩⟩⟩⟩⟩⟩
theorem lw_p16 : lw_okq (⟨"WindPost", "passHours", "(LWindPost$Letter;II)V"⟩, 12) := ⟨⟨by decide +kernel, by decide +kernel⟩, List.mem_of_getElem? (i := 10) (by decide +kernel), List.mem_of_getElem? (i := 437) (by decide +kernel), List.mem_of_getElem? (i := 438) (by decide +kernel)⟩
theorem lw_p17 : lw_okq (⟨"WindPost", "arrival", "(II)I"⟩, 12) := ⟨⟨by decide +kernel, by decide +kernel⟩, List.mem_of_getElem? (i := 10) (by decide +kernel), List.mem_of_getElem? (i := 445) (by decide +kernel), List.mem_of_getElem? (i := 446) (by decide +kernel)⟩
theorem lw_p18 : lw_okq (⟨"WindPost", "supposed", "(IIIII)I"⟩, 12) := ⟨⟨by decide +kernel, by decide +kernel⟩, List.mem_of_getElem? (i := 10) (by decide +kernel), List.mem_of_getElem? (i := 468) (by decide +kernel), List.mem_of_getElem? (i := 469) (by decide +kernel)⟩
theorem lw_p19 : lw_okq (⟨"WindPost", "hasWordOf", "(II)Z"⟩, 12) := ⟨⟨by decide +kernel, by decide +kernel⟩, List.mem_of_getElem? (i := 10) (by decide +kernel), List.mem_of_getElem? (i := 480) (by decide +kernel), List.mem_of_getElem? (i := 481) (by decide +kernel)⟩
theorem lw_p20 : lw_okq (⟨"WindPost", "keepsOff", "(IIII)Z"⟩, 12) := ⟨⟨by decide +kernel, by decide +kernel⟩, List.mem_of_getElem? (i := 10) (by decide +kernel), List.mem_of_getElem? (i := 484) (by decide +kernel), List.mem_of_getElem? (i := 485) (by decide +kernel)⟩
theorem lw_p21 : lw_okq (⟨"WindPost", "comesWith", "(IIII)Z"⟩, 12) := ⟨⟨by decide +kernel, by decide +kernel⟩, List.mem_of_getElem? (i := 10) (by decide +kernel), List.mem_of_getElem? (i := 502) (by decide +kernel), List.mem_of_getElem? (i := 503) (by decide +kernel)⟩
theorem lw_p22 : lw_okq (⟨"WindPost", "shareArrived", "(IIII)I"⟩, 12) := ⟨⟨by decide +kernel, by decide +kernel⟩, List.mem_of_getElem? (i := 10) (by decide +kernel), List.mem_of_getElem? (i := 519) (by decide +kernel), List.mem_of_getElem? (i := 520) (by decide +kernel)⟩
theorem lw_p23 : lw_okq (⟨"WindPost", "rateLetter", "(I)I"⟩, 12) := ⟨⟨by decide +kernel, by decide +kernel⟩, List.mem_of_getElem? (i := 10) (by decide +kernel), List.mem_of_getElem? (i := 530) (by decide +kernel), List.mem_of_getElem? (i := 531) (by decide +kernel)⟩
theorem lw_p24 : lw_okq (⟨"WindPost", "rateSummons", "(I)I"⟩, 12) := ⟨⟨by decide +kernel, by decide +kernel⟩, List.mem_of_getElem? (i := 10) (by decide +kernel), List.mem_of_getElem? (i := 534) (by decide +kernel), List.mem_of_getElem? (i := 535) (by decide +kernel)⟩
theorem lw_p25 : lw_okq (⟨"WindPost", "rateGoose", "(I)I"⟩, 12) := ⟨⟨by decide +kernel, by decide +kernel⟩, List.mem_of_getElem? (i := 10) (by decide +kernel), List.mem_of_getElem? (i := 539) (by decide +kernel), List.mem_of_getElem? (i := 540) (by decide +kernel)⟩
theorem lw_p26 : lw_okq (⟨"WindPost", "rateBill", "(I)I"⟩, 12) := ⟨⟨by decide +kernel, by decide +kernel⟩, List.mem_of_getElem? (i := 10) (by decide +kernel), List.mem_of_getElem? (i := 544) (by decide +kernel), List.mem_of_getElem? (i := 545) (by decide +kernel)⟩
theorem lw_p27 : lw_okq (⟨"WindPost", "rateVow", "(I)I"⟩, 12) := ⟨⟨by decide +kernel, by decide +kernel⟩, List.mem_of_getElem? (i := 10) (by decide +kernel), List.mem_of_getElem? (i := 549) (by decide +kernel), List.mem_of_getElem? (i := 550) (by decide +kernel)⟩
theorem lw_p28 : lw_okq (⟨"WindPost", "rateKite", "(I)I"⟩, 12) := ⟨⟨by decide +kernel, by decide +kernel⟩, List.mem_of_getElem? (i := 10) (by decide +kernel), List.mem_of_getElem? (i := 554) (by decide +kernel), List.mem_of_getElem? (i := 555) (by decide +kernel)⟩
theorem lw_p29 : lw_okq (⟨"WindPostModel", "advances", "()V"⟩, 22) := ⟨⟨by decide +kernel, by decide +kernel⟩, List.mem_of_getElem? (i := 575) (by decide +kernel), List.mem_of_getElem? (i := 663) (by decide +kernel), List.mem_of_getElem? (i := 664) (by decide +kernel)⟩
theorem lw_p30 : lw_okq (⟨"WindPostModel", "letterAt", "(I)I"⟩, 22) := ⟨⟨by decide +kernel, by decide +kernel⟩, List.mem_of_getElem? (i := 575) (by decide +kernel), List.mem_of_getElem? (i := 667) (by decide +kernel), List.mem_of_getElem? (i := 668) (by decide +kernel)⟩
theorem lw_p31 : lw_okq (⟨"WindPostModel", "isWell", "()Z"⟩, 22) := ⟨⟨by decide +kernel, by decide +kernel⟩, List.mem_of_getElem? (i := 575) (by decide +kernel), List.mem_of_getElem? (i := 671) (by decide +kernel), List.mem_of_getElem? (i := 672) (by decide +kernel)⟩
def lw_privs_2 : List (MethodName × Nat) := [(⟨"WindPost", "passHours", "(LWindPost$Letter;II)V"⟩, 12), (⟨"WindPost", "arrival", "(II)I"⟩, 12), (⟨"WindPost", "supposed", "(IIIII)I"⟩, 12), (⟨"WindPost", "hasWordOf", "(II)Z"⟩, 12), (⟨"WindPost", "keepsOff", "(IIII)Z"⟩, 12), (⟨"WindPost", "comesWith", "(IIII)Z"⟩, 12), (⟨"WindPost", "shareArrived", "(IIII)I"⟩, 12), (⟨"WindPost", "rateLetter", "(I)I"⟩, 12), (⟨"WindPost", "rateSummons", "(I)I"⟩, 12), (⟨"WindPost", "rateGoose", "(I)I"⟩, 12), (⟨"WindPost", "rateBill", "(I)I"⟩, 12), (⟨"WindPost", "rateVow", "(I)I"⟩, 12), (⟨"WindPost", "rateKite", "(I)I"⟩, 12), (⟨"WindPostModel", "advances", "()V"⟩, 22), (⟨"WindPostModel", "letterAt", "(I)I"⟩, 22), (⟨"WindPostModel", "isWell", "()Z"⟩, 22)]
theorem lw_r2 : ∀ q ∈ lw_privs_2, lw_okq q := List.forall_mem_cons.mpr ⟨lw_p16, List.forall_mem_cons.mpr ⟨lw_p17, List.forall_mem_cons.mpr ⟨lw_p18, List.forall_mem_cons.mpr ⟨lw_p19, List.forall_mem_cons.mpr ⟨lw_p20, List.forall_mem_cons.mpr ⟨lw_p21, List.forall_mem_cons.mpr ⟨lw_p22, List.forall_mem_cons.mpr ⟨lw_p23, List.forall_mem_cons.mpr ⟨lw_p24, List.forall_mem_cons.mpr ⟨lw_p25, List.forall_mem_cons.mpr ⟨lw_p26, List.forall_mem_cons.mpr ⟨lw_p27, List.forall_mem_cons.mpr ⟨lw_p28, List.forall_mem_cons.mpr ⟨lw_p29, List.forall_mem_cons.mpr ⟨lw_p30, List.forall_mem_cons.mpr ⟨lw_p31, fun _ h => absurd h List.not_mem_nil⟩⟩⟩⟩⟩⟩⟩⟩⟩⟩⟩⟩⟩⟩⟩⟩
theorem lw_p32 : lw_okq (⟨"WindPostModel", "mayBegin", "(I)Z"⟩, 22) := ⟨⟨by decide +kernel, by decide +kernel⟩, List.mem_of_getElem? (i := 575) (by decide +kernel), List.mem_of_getElem? (i := 675) (by decide +kernel), List.mem_of_getElem? (i := 676) (by decide +kernel)⟩
theorem lw_p33 : lw_okq (⟨"WindPostModel", "takes", "(Z)I"⟩, 22) := ⟨⟨by decide +kernel, by decide +kernel⟩, List.mem_of_getElem? (i := 575) (by decide +kernel), List.mem_of_getElem? (i := 679) (by decide +kernel), List.mem_of_getElem? (i := 680) (by decide +kernel)⟩
theorem lw_p34 : lw_okq (⟨"WindPostModel", "readsItem", "(I)V"⟩, 22) := ⟨⟨by decide +kernel, by decide +kernel⟩, List.mem_of_getElem? (i := 575) (by decide +kernel), List.mem_of_getElem? (i := 683) (by decide +kernel), List.mem_of_getElem? (i := 684) (by decide +kernel)⟩
theorem lw_p35 : lw_okq (⟨"WindPostModel", "number", "(II)I"⟩, 22) := ⟨⟨by decide +kernel, by decide +kernel⟩, List.mem_of_getElem? (i := 575) (by decide +kernel), List.mem_of_getElem? (i := 687) (by decide +kernel), List.mem_of_getElem? (i := 688) (by decide +kernel)⟩
theorem lw_p36 : lw_okq (⟨"WindPostModel", "isFree", "(I)Z"⟩, 22) := ⟨⟨by decide +kernel, by decide +kernel⟩, List.mem_of_getElem? (i := 575) (by decide +kernel), List.mem_of_getElem? (i := 691) (by decide +kernel), List.mem_of_getElem? (i := 692) (by decide +kernel)⟩
theorem lw_p37 : lw_okq (⟨"WindPostModel", "readsWind", "()V"⟩, 22) := ⟨⟨by decide +kernel, by decide +kernel⟩, List.mem_of_getElem? (i := 575) (by decide +kernel), List.mem_of_getElem? (i := 695) (by decide +kernel), List.mem_of_getElem? (i := 696) (by decide +kernel)⟩
theorem lw_p38 : lw_okq (⟨"WindPostModel", "settles", "()V"⟩, 22) := ⟨⟨by decide +kernel, by decide +kernel⟩, List.mem_of_getElem? (i := 575) (by decide +kernel), List.mem_of_getElem? (i := 699) (by decide +kernel), List.mem_of_getElem? (i := 700) (by decide +kernel)⟩
theorem lw_p39 : lw_okq (⟨"WindPostModel", "isIsle", "(I)Z"⟩, 22) := ⟨⟨by decide +kernel, by decide +kernel⟩, List.mem_of_getElem? (i := 575) (by decide +kernel), List.mem_of_getElem? (i := 707) (by decide +kernel), List.mem_of_getElem? (i := 708) (by decide +kernel)⟩
theorem lw_p40 : lw_okq (⟨"WindPostModel", "isHill", "(I)Z"⟩, 22) := ⟨⟨by decide +kernel, by decide +kernel⟩, List.mem_of_getElem? (i := 575) (by decide +kernel), List.mem_of_getElem? (i := 715) (by decide +kernel), List.mem_of_getElem? (i := 716) (by decide +kernel)⟩
theorem lw_p41 : lw_okq (⟨"WindPostModel", "isleAt", "(I)I"⟩, 22) := ⟨⟨by decide +kernel, by decide +kernel⟩, List.mem_of_getElem? (i := 575) (by decide +kernel), List.mem_of_getElem? (i := 719) (by decide +kernel), List.mem_of_getElem? (i := 720) (by decide +kernel)⟩
theorem lw_p42 : lw_okq (⟨"WindPostModel", "windOf", "(I)I"⟩, 22) := ⟨⟨by decide +kernel, by decide +kernel⟩, List.mem_of_getElem? (i := 575) (by decide +kernel), List.mem_of_getElem? (i := 727) (by decide +kernel), List.mem_of_getElem? (i := 728) (by decide +kernel)⟩
theorem lw_p43 : lw_okq (⟨"WindPostModel", "isLetter", "(I)Z"⟩, 22) := ⟨⟨by decide +kernel, by decide +kernel⟩, List.mem_of_getElem? (i := 575) (by decide +kernel), List.mem_of_getElem? (i := 735) (by decide +kernel), List.mem_of_getElem? (i := 736) (by decide +kernel)⟩
theorem lw_p44 : lw_okq (⟨"WindPostModel", "areTwo", "(II)Z"⟩, 22) := ⟨⟨by decide +kernel, by decide +kernel⟩, List.mem_of_getElem? (i := 575) (by decide +kernel), List.mem_of_getElem? (i := 747) (by decide +kernel), List.mem_of_getElem? (i := 748) (by decide +kernel)⟩
theorem lw_p45 : lw_okq (⟨"WindPostModel", "notes", "()V"⟩, 22) := ⟨⟨by decide +kernel, by decide +kernel⟩, List.mem_of_getElem? (i := 575) (by decide +kernel), List.mem_of_getElem? (i := 751) (by decide +kernel), List.mem_of_getElem? (i := 752) (by decide +kernel)⟩
theorem lw_p46 : lw_okq (⟨"WindPostModel", "puts", "([IIIII)V"⟩, 22) := ⟨⟨by decide +kernel, by decide +kernel⟩, List.mem_of_getElem? (i := 575) (by decide +kernel), List.mem_of_getElem? (i := 755) (by decide +kernel), List.mem_of_getElem? (i := 756) (by decide +kernel)⟩
theorem lw_p47 : lw_okq (⟨"WindPostModel", "blows", "([IIII)V"⟩, 22) := ⟨⟨by decide +kernel, by decide +kernel⟩, List.mem_of_getElem? (i := 575) (by decide +kernel), List.mem_of_getElem? (i := 763) (by decide +kernel), List.mem_of_getElem? (i := 764) (by decide +kernel)⟩
def lw_privs_3 : List (MethodName × Nat) := [(⟨"WindPostModel", "mayBegin", "(I)Z"⟩, 22), (⟨"WindPostModel", "takes", "(Z)I"⟩, 22), (⟨"WindPostModel", "readsItem", "(I)V"⟩, 22), (⟨"WindPostModel", "number", "(II)I"⟩, 22), (⟨"WindPostModel", "isFree", "(I)Z"⟩, 22), (⟨"WindPostModel", "readsWind", "()V"⟩, 22), (⟨"WindPostModel", "settles", "()V"⟩, 22), (⟨"WindPostModel", "isIsle", "(I)Z"⟩, 22), (⟨"WindPostModel", "isHill", "(I)Z"⟩, 22), (⟨"WindPostModel", "isleAt", "(I)I"⟩, 22), (⟨"WindPostModel", "windOf", "(I)I"⟩, 22), (⟨"WindPostModel", "isLetter", "(I)Z"⟩, 22), (⟨"WindPostModel", "areTwo", "(II)Z"⟩, 22), (⟨"WindPostModel", "notes", "()V"⟩, 22), (⟨"WindPostModel", "puts", "([IIIII)V"⟩, 22), (⟨"WindPostModel", "blows", "([IIII)V"⟩, 22)]
theorem lw_r3 : ∀ q ∈ lw_privs_3, lw_okq q := List.forall_mem_cons.mpr ⟨lw_p32, List.forall_mem_cons.mpr ⟨lw_p33, List.forall_mem_cons.mpr ⟨lw_p34, List.forall_mem_cons.mpr ⟨lw_p35, List.forall_mem_cons.mpr ⟨lw_p36, List.forall_mem_cons.mpr ⟨lw_p37, List.forall_mem_cons.mpr ⟨lw_p38, List.forall_mem_cons.mpr ⟨lw_p39, List.forall_mem_cons.mpr ⟨lw_p40, List.forall_mem_cons.mpr ⟨lw_p41, List.forall_mem_cons.mpr ⟨lw_p42, List.forall_mem_cons.mpr ⟨lw_p43, List.forall_mem_cons.mpr ⟨lw_p44, List.forall_mem_cons.mpr ⟨lw_p45, List.forall_mem_cons.mpr ⟨lw_p46, List.forall_mem_cons.mpr ⟨lw_p47, fun _ h => absurd h List.not_mem_nil⟩⟩⟩⟩⟩⟩⟩⟩⟩⟩⟩⟩⟩⟩⟩⟩
theorem lw_p48 : lw_okq (⟨"WindPostModel", "beside", "(II)I"⟩, 22) := ⟨⟨by decide +kernel, by decide +kernel⟩, List.mem_of_getElem? (i := 575) (by decide +kernel), List.mem_of_getElem? (i := 767) (by decide +kernel), List.mem_of_getElem? (i := 768) (by decide +kernel)⟩
theorem lw_p49 : lw_okq (⟨"WindPostModel", "goes", "(II)V"⟩, 22) := ⟨⟨by decide +kernel, by decide +kernel⟩, List.mem_of_getElem? (i := 575) (by decide +kernel), List.mem_of_getElem? (i := 787) (by decide +kernel), List.mem_of_getElem? (i := 788) (by decide +kernel)⟩
theorem lw_p50 : lw_okq (⟨"WindPostModel", "takesLetter", "([II)V"⟩, 22) := ⟨⟨by decide +kernel, by decide +kernel⟩, List.mem_of_getElem? (i := 575) (by decide +kernel), List.mem_of_getElem? (i := 791) (by decide +kernel), List.mem_of_getElem? (i := 792) (by decide +kernel)⟩
theorem lw_p51 : lw_okq (⟨"WindPostModel", "comesIn", "(II)I"⟩, 22) := ⟨⟨by decide +kernel, by decide +kernel⟩, List.mem_of_getElem? (i := 575) (by decide +kernel), List.mem_of_getElem? (i := 799) (by decide +kernel), List.mem_of_getElem? (i := 800) (by decide +kernel)⟩
theorem lw_p52 : lw_okq (⟨"WindPostModel", "bestK", "(IIII)I"⟩, 22) := ⟨⟨by decide +kernel, by decide +kernel⟩, List.mem_of_getElem? (i := 575) (by decide +kernel), List.mem_of_getElem? (i := 819) (by decide +kernel), List.mem_of_getElem? (i := 820) (by decide +kernel)⟩
theorem lw_p53 : lw_okq (⟨"WindPostModel", "comesBy", "(IIIII)I"⟩, 22) := ⟨⟨by decide +kernel, by decide +kernel⟩, List.mem_of_getElem? (i := 575) (by decide +kernel), List.mem_of_getElem? (i := 823) (by decide +kernel), List.mem_of_getElem? (i := 824) (by decide +kernel)⟩
def lw_privs_4 : List (MethodName × Nat) := [(⟨"WindPostModel", "beside", "(II)I"⟩, 22), (⟨"WindPostModel", "goes", "(II)V"⟩, 22), (⟨"WindPostModel", "takesLetter", "([II)V"⟩, 22), (⟨"WindPostModel", "comesIn", "(II)I"⟩, 22), (⟨"WindPostModel", "bestK", "(IIII)I"⟩, 22), (⟨"WindPostModel", "comesBy", "(IIIII)I"⟩, 22)]
theorem lw_r4 : ∀ q ∈ lw_privs_4, lw_okq q := List.forall_mem_cons.mpr ⟨lw_p48, List.forall_mem_cons.mpr ⟨lw_p49, List.forall_mem_cons.mpr ⟨lw_p50, List.forall_mem_cons.mpr ⟨lw_p51, List.forall_mem_cons.mpr ⟨lw_p52, List.forall_mem_cons.mpr ⟨lw_p53, fun _ h => absurd h List.not_mem_nil⟩⟩⟩⟩⟩⟩
def lw_privs : List (MethodName × Nat) := lw_privs_1 ++ (lw_privs_2 ++ (lw_privs_3 ++ (lw_privs_4)))
def lw_tbl : List Cond := k2_sels lw_privs ++ tables_1
theorem lw_privs_ok : ∀ q ∈ lw_privs, lw_okq q := by
  show ∀ q ∈ lw_privs_1 ++ (lw_privs_2 ++ (lw_privs_3 ++ (lw_privs_4))), lw_okq q
  exact List.forall_mem_append.mpr ⟨lw_r1, List.forall_mem_append.mpr ⟨lw_r2, List.forall_mem_append.mpr ⟨lw_r3, lw_r4⟩⟩⟩
end
section
/-! ===== BEGIN words of one list among another's, by their places ===== -/
theorem goodIn_r {big : List Cond} (ws : List Cond) (ps : List Nat) (hp : ws = ps.filterMap (fun i => big[i]?)) (h : ws.all goodWord = true) : GoodIn big ws := by
  intro w hw
  have h1 := List.all_eq_true.mp h w hw
  rw [hp] at hw
  obtain ⟨i, -, hi⟩ := List.mem_filterMap.mp hw
  have hm : w ∈ big := by first | exact List.mem_of_getElem? hi | exact List.getElem?_mem hi
  exact ⟨hm, good_of_word h1⟩
theorem goodIn_app {big a b : List Cond} (ha : GoodIn big a) (hb : GoodIn big b) : GoodIn big (a ++ b) := fun w h => (List.mem_append.mp h).elim (ha w) (hb w)
theorem goodIn_ca {big a b : List Cond} {c : Cond} (ha : GoodIn big (c :: a)) (hb : GoodIn big b) : GoodIn big (c :: (a ++ b)) := fun w h => (List.mem_cons.mp h).elim (fun e => ha w (List.mem_cons.mpr (Or.inl e))) (fun h => (List.mem_append.mp h).elim (fun h => ha w (List.mem_cons.mpr (Or.inr h))) (hb w))
theorem goodIn_sub {big ws : List Cond} (hm : ∀ w ∈ ws, w ∈ big) (h : ws.all goodWord = true) : GoodIn big ws := fun w hw => ⟨hm w hw, good_of_word (List.all_eq_true.mp h w hw)⟩
/-! ===== END ===== -/

/-! ===== BEGIN printed: names, fields, word lists, decode rows ===== -/
def RX0 : String := "WindPost$Chart"
def TX0 : u_T := fun k => match k with
  | 0 => ("WindPost$Chart", "wide", "I", false)
  | 1 => ("WindPost$Chart", "high", "I", false)
  | 2 => ("WindPost$Chart", "force", "I", false)
  | 3 => ("WindPost$Chart", "isles", "I", false)
  | 4 => ("WindPost$Chart", "hills", "I", false)
  | 5 => ("WindPost$Chart", "told", "I", false)
  | 6 => ("WindPost$Chart", "isleCells", "[I", true)
  | 7 => ("WindPost$Chart", "holds", "[I", true)
  | 8 => ("WindPost$Chart", "winds", "[I", true)
  | _ => ("WindPost$Chart", "ends", "[I", true)
def tyX0 : Nat → FieldType := fun k => match k with
  | 0 => .int
  | 1 => .int
  | 2 => .int
  | 3 => .int
  | 4 => .int
  | 5 => .int
  | 6 => .array .int
  | 7 => .array .int
  | 8 => .array .int
  | _ => .array .int
abbrev wsX00 : List Cond := u_ws RX0 TX0 10
theorem nmX0 : ∀ a, a < 10 → ∀ b, b < 10 → a ≠ b → (TX0 a).2.1 ≠ (TX0 b).2.1 := by decide +kernel
theorem tyX0_ok : ∀ k, k < 10 → parseFieldDescriptor (TX0 k).2.2.1 = some (tyX0 k) := by decide +kernel
abbrev cX0_init : ByteArray := prog_2_method_1_code
def yX0_init : MethodName := ⟨RX0, "<init>", "()V"⟩
abbrev cX0_untell : ByteArray := prog_2_method_2_code
def yX0_untell : MethodName := ⟨RX0, "untell", "()V"⟩
abbrev cX0_cells : ByteArray := prog_2_method_3_code
def yX0_cells : MethodName := ⟨RX0, "cells", "()I"⟩
abbrev cX0_cellOfIsle : ByteArray := prog_2_method_4_code
def yX0_cellOfIsle : MethodName := ⟨RX0, "cellOfIsle", "(I)I"⟩
abbrev cX0_onCell : ByteArray := prog_2_method_5_code
def yX0_onCell : MethodName := ⟨RX0, "onCell", "(I)I"⟩
abbrev cX0_addIsle : ByteArray := prog_2_method_6_code
def yX0_addIsle : MethodName := ⟨RX0, "addIsle", "(I)V"⟩
abbrev cX0_addHill : ByteArray := prog_2_method_7_code
def yX0_addHill : MethodName := ⟨RX0, "addHill", "(I)V"⟩
abbrev cX0_addWind : ByteArray := prog_2_method_8_code
def yX0_addWind : MethodName := ⟨RX0, "addWind", "(I)V"⟩
abbrev cX0_drawEnds : ByteArray := prog_2_method_9_code
def yX0_drawEnds : MethodName := ⟨RX0, "drawEnds", "()V"⟩
abbrev cX0_drawWay : ByteArray := prog_2_method_10_code
def yX0_drawWay : MethodName := ⟨RX0, "drawWay", "(II)V"⟩
abbrev cX0_beside : ByteArray := prog_2_method_11_code
def yX0_beside : MethodName := ⟨RX0, "beside", "(II)I"⟩
abbrev cX0_endOf : ByteArray := prog_2_method_12_code
def yX0_endOf : MethodName := ⟨RX0, "endOf", "(III)I"⟩
def RX1 : String := "WindPost$Letter"
def TX1 : u_T := fun k => match k with
  | 0 => ("WindPost$Letter", "weight", "I", false)
  | 1 => ("WindPost$Letter", "from", "I", false)
  | 2 => ("WindPost$Letter", "to", "I", false)
  | 3 => ("WindPost$Letter", "place", "I", false)
  | 4 => ("WindPost$Letter", "marks", "I", false)
  | 5 => ("WindPost$Letter", "how", "I", false)
  | _ => ("WindPost$Letter", "reach", "I", false)
def tyX1 : Nat → FieldType := fun k => match k with
  | 0 => .int
  | 1 => .int
  | 2 => .int
  | 3 => .int
  | 4 => .int
  | 5 => .int
  | _ => .int
abbrev wsX10 : List Cond := u_ws RX1 TX1 7
theorem nmX1 : ∀ a, a < 7 → ∀ b, b < 7 → a ≠ b → (TX1 a).2.1 ≠ (TX1 b).2.1 := by decide +kernel
theorem tyX1_ok : ∀ k, k < 7 → parseFieldDescriptor (TX1 k).2.2.1 = some (tyX1 k) := by decide +kernel
abbrev cX1_init : ByteArray := prog_3_method_1_code
def yX1_init : MethodName := ⟨RX1, "<init>", "()V"⟩
abbrev cX1_letUp : ByteArray := prog_3_method_2_code
def yX1_letUp : MethodName := ⟨RX1, "letUp", "(LWindPost$Chart;III)V"⟩
abbrev cX1_copyFrom : ByteArray := prog_3_method_3_code
def yX1_copyFrom : MethodName := ⟨RX1, "copyFrom", "(LWindPost$Letter;)V"⟩
abbrev cX1_passHour : ByteArray := prog_3_method_4_code
def yX1_passHour : MethodName := ⟨RX1, "passHour", "(LWindPost$Chart;II)V"⟩
def RX2 : String := "WindPost$Moment"
def TX2 : u_T := fun k => match k with
  | 0 => ("WindPost$Moment", "time", "I", false)
  | 1 => ("WindPost$Moment", "letters", "I", false)
  | 2 => ("WindPost$Moment", "nets", "I", false)
  | 3 => ("WindPost$Moment", "told", "I", false)
  | 4 => ("WindPost$Moment", "winds", "[I", true)
  | _ => ("WindPost$Moment", "post", "[LWindPost$Letter;", true)
def tyX2 : Nat → FieldType := fun k => match k with
  | 0 => .int
  | 1 => .int
  | 2 => .int
  | 3 => .int
  | 4 => .array .int
  | _ => .array (.object "WindPost$Letter")
abbrev wsX20 : List Cond := u_ws RX2 TX2 6
theorem nmX2 : ∀ a, a < 6 → ∀ b, b < 6 → a ≠ b → (TX2 a).2.1 ≠ (TX2 b).2.1 := by decide +kernel
theorem tyX2_ok : ∀ k, k < 6 → parseFieldDescriptor (TX2 k).2.2.1 = some (tyX2 k) := by decide +kernel
abbrev cX2_init : ByteArray := prog_4_method_1_code
def yX2_init : MethodName := ⟨RX2, "<init>", "()V"⟩
abbrev cX2_beginAnew : ByteArray := prog_4_method_2_code
def yX2_beginAnew : MethodName := ⟨RX2, "beginAnew", "(LWindPost$Chart;)V"⟩
abbrev cX2_copyFrom : ByteArray := prog_4_method_3_code
def yX2_copyFrom : MethodName := ⟨RX2, "copyFrom", "(LWindPost$Moment;)V"⟩
abbrev cX2_windOf : ByteArray := prog_4_method_4_code
def yX2_windOf : MethodName := ⟨RX2, "windOf", "(I)I"⟩
abbrev cX2_lettersUp : ByteArray := prog_4_method_5_code
def yX2_lettersUp : MethodName := ⟨RX2, "lettersUp", "()I"⟩
def RX3 : String := "WindPost$Text"
def TX3 : u_T := fun k => match k with
  | 0 => ("WindPost$Text", "length", "I", false)
  | 1 => ("WindPost$Text", "signs", "[I", true)
  | 2 => ("WindPost$Text", "next", "I", false)
  | 3 => ("WindPost$Text", "place", "I", false)
  | 4 => ("WindPost$Text", "token", "I", false)
  | 5 => ("WindPost$Text", "number", "I", false)
  | 6 => ("WindPost$Text", "items", "I", false)
  | _ => ("WindPost$Text", "forceTold", "Z", false)
def tyX3 : Nat → FieldType := fun k => match k with
  | 0 => .int
  | 1 => .array .int
  | 2 => .int
  | 3 => .int
  | 4 => .int
  | 5 => .int
  | 6 => .int
  | _ => .boolean
abbrev wsX30 : List Cond := u_ws RX3 TX3 8
theorem nmX3 : ∀ a, a < 8 → ∀ b, b < 8 → a ≠ b → (TX3 a).2.1 ≠ (TX3 b).2.1 := by decide +kernel
theorem tyX3_ok : ∀ k, k < 8 → parseFieldDescriptor (TX3 k).2.2.1 = some (tyX3 k) := by decide +kernel
abbrev cX3_init : ByteArray := prog_5_method_1_code
def yX3_init : MethodName := ⟨RX3, "<init>", "()V"⟩
abbrev cX3_add : ByteArray := prog_5_method_2_code
def yX3_add : MethodName := ⟨RX3, "add", "(I)V"⟩
abbrev cX3_readInto : ByteArray := prog_5_method_3_code
def yX3_readInto : MethodName := ⟨RX3, "readInto", "(LWindPost$Chart;)I"⟩
abbrev cX3_readItem : ByteArray := prog_5_method_4_code
def yX3_readItem : MethodName := ⟨RX3, "readItem", "(LWindPost$Chart;)Z"⟩
abbrev cX3_readSize : ByteArray := prog_5_method_5_code
def yX3_readSize : MethodName := ⟨RX3, "readSize", "(LWindPost$Chart;)Z"⟩
abbrev cX3_readIsle : ByteArray := prog_5_method_6_code
def yX3_readIsle : MethodName := ⟨RX3, "readIsle", "(LWindPost$Chart;)Z"⟩
abbrev cX3_readHill : ByteArray := prog_5_method_7_code
def yX3_readHill : MethodName := ⟨RX3, "readHill", "(LWindPost$Chart;)Z"⟩
abbrev cX3_readForce : ByteArray := prog_5_method_8_code
def yX3_readForce : MethodName := ⟨RX3, "readForce", "(LWindPost$Chart;)Z"⟩
abbrev cX3_readWinds : ByteArray := prog_5_method_9_code
def yX3_readWinds : MethodName := ⟨RX3, "readWinds", "(LWindPost$Chart;)Z"⟩
abbrev cX3_stepsToNumber : ByteArray := prog_5_method_10_code
def yX3_stepsToNumber : MethodName := ⟨RX3, "stepsToNumber", "(II)Z"⟩
abbrev cX3_stepsToEnd : ByteArray := prog_5_method_11_code
def yX3_stepsToEnd : MethodName := ⟨RX3, "stepsToEnd", "()Z"⟩
abbrev cX3_step : ByteArray := prog_5_method_12_code
def yX3_step : MethodName := ⟨RX3, "step", "()V"⟩
abbrev cX3_isDigit : ByteArray := prog_5_method_13_code
def yX3_isDigit : MethodName := ⟨RX3, "isDigit", "(I)Z"⟩
abbrev cX3_isSign : ByteArray := prog_5_method_14_code
def yX3_isSign : MethodName := ⟨RX3, "isSign", "(I)Z"⟩
def RX4 : String := "WindPost"
def TX4 : u_T := fun k => match k with
  | 0 => ("WindPost", "text", "LWindPost$Text;", true)
  | 1 => ("WindPost", "chart", "LWindPost$Chart;", false)
  | 2 => ("WindPost", "draft", "LWindPost$Chart;", false)
  | 3 => ("WindPost", "now", "LWindPost$Moment;", true)
  | 4 => ("WindPost", "past", "[LWindPost$Moment;", true)
  | 5 => ("WindPost", "pastNext", "I", false)
  | 6 => ("WindPost", "pastKnown", "I", false)
  | 7 => ("WindPost", "images", "[LWindPost$Moment;", true)
  | 8 => ("WindPost", "kept", "[Z", true)
  | 9 => ("WindPost", "probe", "LWindPost$Letter;", true)
  | 10 => ("WindPost", "second", "LWindPost$Letter;", true)
  | _ => ("WindPost", "traced", "J", false)
def tyX4 : Nat → FieldType := fun k => match k with
  | 0 => .object "WindPost$Text"
  | 1 => .object "WindPost$Chart"
  | 2 => .object "WindPost$Chart"
  | 3 => .object "WindPost$Moment"
  | 4 => .array (.object "WindPost$Moment")
  | 5 => .int
  | 6 => .int
  | 7 => .array (.object "WindPost$Moment")
  | 8 => .array .boolean
  | 9 => .object "WindPost$Letter"
  | 10 => .object "WindPost$Letter"
  | _ => .long
abbrev wsX40 : List Cond := u_ws RX4 TX4 12
theorem nmX4 : ∀ a, a < 12 → ∀ b, b < 12 → a ≠ b → (TX4 a).2.1 ≠ (TX4 b).2.1 := by decide +kernel
theorem tyX4_ok : ∀ k, k < 12 → parseFieldDescriptor (TX4 k).2.2.1 = some (tyX4 k) := by decide +kernel
abbrev cX4_init : ByteArray := prog_1_method_1_code
def yX4_init : MethodName := ⟨RX4, "<init>", "()V"⟩
abbrev cX4_type : ByteArray := prog_1_method_2_code
def yX4_type : MethodName := ⟨RX4, "type", "(I)I"⟩
abbrev cX4_clear : ByteArray := prog_1_method_3_code
def yX4_clear : MethodName := ⟨RX4, "clear", "()I"⟩
abbrev cX4_sea : ByteArray := prog_1_method_4_code
def yX4_sea : MethodName := ⟨RX4, "sea", "()I"⟩
abbrev cX4_isle : ByteArray := prog_1_method_5_code
def yX4_isle : MethodName := ⟨RX4, "isle", "(II)I"⟩
abbrev cX4_cell : ByteArray := prog_1_method_6_code
def yX4_cell : MethodName := ⟨RX4, "cell", "(I)I"⟩
abbrev cX4_wind : ByteArray := prog_1_method_7_code
def yX4_wind : MethodName := ⟨RX4, "wind", "(I)I"⟩
abbrev cX4_letter : ByteArray := prog_1_method_8_code
def yX4_letter : MethodName := ⟨RX4, "letter", "(II)I"⟩
abbrev cX4_now : ByteArray := prog_1_method_9_code
def yX4_now : MethodName := ⟨RX4, "now", "(I)I"⟩
abbrev cX4_lets : ByteArray := prog_1_method_10_code
def yX4_lets : MethodName := ⟨RX4, "lets", "(III)I"⟩
abbrev cX4_hour : ByteArray := prog_1_method_11_code
def yX4_hour : MethodName := ⟨RX4, "hour", "()I"⟩
abbrev cX4_net : ByteArray := prog_1_method_12_code
def yX4_net : MethodName := ⟨RX4, "net", "(II)I"⟩
abbrev cX4_turn : ByteArray := prog_1_method_13_code
def yX4_turn : MethodName := ⟨RX4, "turn", "(II)I"⟩
abbrev cX4_undo : ByteArray := prog_1_method_14_code
def yX4_undo : MethodName := ⟨RX4, "undo", "()I"⟩
abbrev cX4_where : ByteArray := prog_1_method_15_code
def yX4_where : MethodName := ⟨RX4, "where", "(II)I"⟩
abbrev cX4_comes : ByteArray := prog_1_method_16_code
def yX4_comes : MethodName := ⟨RX4, "comes", "(I)I"⟩
abbrev cX4_blots : ByteArray := prog_1_method_17_code
def yX4_blots : MethodName := ⟨RX4, "blots", "(II)I"⟩
abbrev cX4_loop : ByteArray := prog_1_method_18_code
def yX4_loop : MethodName := ⟨RX4, "loop", "(I)I"⟩
abbrev cX4_tangled : ByteArray := prog_1_method_19_code
def yX4_tangled : MethodName := ⟨RX4, "tangled", "(II)I"⟩
abbrev cX4_soonest : ByteArray := prog_1_method_20_code
def yX4_soonest : MethodName := ⟨RX4, "soonest", "(IIII)I"⟩
abbrev cX4_lightest : ByteArray := prog_1_method_21_code
def yX4_lightest : MethodName := ⟨RX4, "lightest", "(III)I"⟩
abbrev cX4_words : ByteArray := prog_1_method_22_code
def yX4_words : MethodName := ⟨RX4, "words", "(I)I"⟩
abbrev cX4_nets : ByteArray := prog_1_method_23_code
def yX4_nets : MethodName := ⟨RX4, "nets", "(III)I"⟩
abbrev cX4_who : ByteArray := prog_1_method_24_code
def yX4_who : MethodName := ⟨RX4, "who", "(III)I"⟩
abbrev cX4_knee : ByteArray := prog_1_method_25_code
def yX4_knee : MethodName := ⟨RX4, "knee", "(II)I"⟩
abbrev cX4_drift : ByteArray := prog_1_method_26_code
def yX4_drift : MethodName := ⟨RX4, "drift", "(II)I"⟩
abbrev cX4_odds : ByteArray := prog_1_method_27_code
def yX4_odds : MethodName := ⟨RX4, "odds", "(IIII)I"⟩
abbrev cX4_rate : ByteArray := prog_1_method_28_code
def yX4_rate : MethodName := ⟨RX4, "rate", "(II)I"⟩
abbrev cX4_keep : ByteArray := prog_1_method_29_code
def yX4_keep : MethodName := ⟨RX4, "keep", "(I)I"⟩
abbrev cX4_back : ByteArray := prog_1_method_30_code
def yX4_back : MethodName := ⟨RX4, "back", "(I)I"⟩
abbrev cX4_count : ByteArray := prog_1_method_31_code
def yX4_count : MethodName := ⟨RX4, "count", "(I)I"⟩
abbrev cX4_trace : ByteArray := prog_1_method_32_code
def yX4_trace : MethodName := ⟨RX4, "trace", "()J"⟩
abbrev cX4_isWithin : ByteArray := prog_1_method_33_code
def yX4_isWithin : MethodName := ⟨RX4, "isWithin", "(III)Z"⟩
abbrev cX4_bitOf : ByteArray := prog_1_method_34_code
def yX4_bitOf : MethodName := ⟨RX4, "bitOf", "(II)I"⟩
abbrev cX4_isIsle : ByteArray := prog_1_method_35_code
def yX4_isIsle : MethodName := ⟨RX4, "isIsle", "(I)Z"⟩
abbrev cX4_isLetter : ByteArray := prog_1_method_36_code
def yX4_isLetter : MethodName := ⟨RX4, "isLetter", "(I)Z"⟩
abbrev cX4_isWeight : ByteArray := prog_1_method_37_code
def yX4_isWeight : MethodName := ⟨RX4, "isWeight", "(I)Z"⟩
abbrev cX4_isWay : ByteArray := prog_1_method_38_code
def yX4_isWay : MethodName := ⟨RX4, "isWay", "(II)Z"⟩
abbrev cX4_remember : ByteArray := prog_1_method_39_code
def yX4_remember : MethodName := ⟨RX4, "remember", "()V"⟩
abbrev cX4_passHours : ByteArray := prog_1_method_40_code
def yX4_passHours : MethodName := ⟨RX4, "passHours", "(LWindPost$Letter;II)V"⟩
abbrev cX4_letterIn : ByteArray := prog_1_method_41_code
def yX4_letterIn : MethodName := ⟨RX4, "letterIn", "(II)LWindPost$Letter;"⟩
abbrev cX4_arrival : ByteArray := prog_1_method_42_code
def yX4_arrival : MethodName := ⟨RX4, "arrival", "(II)I"⟩
abbrev cX4_supposed : ByteArray := prog_1_method_43_code
def yX4_supposed : MethodName := ⟨RX4, "supposed", "(IIIII)I"⟩
abbrev cX4_hasWordOf : ByteArray := prog_1_method_44_code
def yX4_hasWordOf : MethodName := ⟨RX4, "hasWordOf", "(II)Z"⟩
abbrev cX4_keepsOff : ByteArray := prog_1_method_45_code
def yX4_keepsOff : MethodName := ⟨RX4, "keepsOff", "(IIII)Z"⟩
abbrev cX4_comesWith : ByteArray := prog_1_method_46_code
def yX4_comesWith : MethodName := ⟨RX4, "comesWith", "(IIII)Z"⟩
abbrev cX4_shareArrived : ByteArray := prog_1_method_47_code
def yX4_shareArrived : MethodName := ⟨RX4, "shareArrived", "(IIII)I"⟩
abbrev cX4_commonDivisor : ByteArray := prog_1_method_48_code
def yX4_commonDivisor : MethodName := ⟨RX4, "commonDivisor", "(II)I"⟩
abbrev cX4_rateLetter : ByteArray := prog_1_method_49_code
def yX4_rateLetter : MethodName := ⟨RX4, "rateLetter", "(I)I"⟩
abbrev cX4_rateSummons : ByteArray := prog_1_method_50_code
def yX4_rateSummons : MethodName := ⟨RX4, "rateSummons", "(I)I"⟩
abbrev cX4_rateGoose : ByteArray := prog_1_method_51_code
def yX4_rateGoose : MethodName := ⟨RX4, "rateGoose", "(I)I"⟩
abbrev cX4_rateBill : ByteArray := prog_1_method_52_code
def yX4_rateBill : MethodName := ⟨RX4, "rateBill", "(I)I"⟩
abbrev cX4_rateVow : ByteArray := prog_1_method_53_code
def yX4_rateVow : MethodName := ⟨RX4, "rateVow", "(I)I"⟩
abbrev cX4_rateKite : ByteArray := prog_1_method_54_code
def yX4_rateKite : MethodName := ⟨RX4, "rateKite", "(I)I"⟩
def RX5 : String := "WindPostModel"
def TX5 : u_T := fun k => match k with
  | 0 => ("WindPostModel", "thrown", "I", false)
  | 1 => ("WindPostModel", "trace", "J", false)
  | 2 => ("WindPostModel", "text", "[I", true)
  | 3 => ("WindPostModel", "typed", "I", false)
  | 4 => ("WindPostModel", "next", "I", false)
  | 5 => ("WindPostModel", "token", "I", false)
  | 6 => ("WindPostModel", "place", "I", false)
  | 7 => ("WindPostModel", "value", "I", false)
  | 8 => ("WindPostModel", "fault", "I", false)
  | 9 => ("WindPostModel", "many", "[I", true)
  | 10 => ("WindPostModel", "isles", "[I", true)
  | 11 => ("WindPostModel", "hills", "[I", true)
  | 12 => ("WindPostModel", "winds", "[I", true)
  | 13 => ("WindPostModel", "isForceTold", "Z", false)
  | 14 => ("WindPostModel", "s", "[I", true)
  | 15 => ("WindPostModel", "kept", "[I", true)
  | 16 => ("WindPostModel", "isKept", "[Z", true)
  | 17 => ("WindPostModel", "undos", "[I", true)
  | 18 => ("WindPostModel", "undoMany", "I", false)
  | 19 => ("WindPostModel", "trial", "[I", true)
  | 20 => ("WindPostModel", "other", "[I", true)
  | _ => ("WindPostModel", "met", "[I", true)
def tyX5 : Nat → FieldType := fun k => match k with
  | 0 => .int
  | 1 => .long
  | 2 => .array .int
  | 3 => .int
  | 4 => .int
  | 5 => .int
  | 6 => .int
  | 7 => .int
  | 8 => .int
  | 9 => .array .int
  | 10 => .array .int
  | 11 => .array .int
  | 12 => .array .int
  | 13 => .boolean
  | 14 => .array .int
  | 15 => .array .int
  | 16 => .array .boolean
  | 17 => .array .int
  | 18 => .int
  | 19 => .array .int
  | 20 => .array .int
  | _ => .array .int
abbrev wsX50 : List Cond := u_ws RX5 TX5 22
theorem nmX5 : ∀ a, a < 22 → ∀ b, b < 22 → a ≠ b → (TX5 a).2.1 ≠ (TX5 b).2.1 := by decide +kernel
theorem tyX5_ok : ∀ k, k < 22 → parseFieldDescriptor (TX5 k).2.2.1 = some (tyX5 k) := by decide +kernel
abbrev cX5_init : ByteArray := prog_7_method_1_code
def yX5_init : MethodName := ⟨RX5, "<init>", "()V"⟩
abbrev cX5_in : ByteArray := prog_7_method_3_code
def yX5_in : MethodName := ⟨RX5, "in", "(III)Z"⟩
abbrev cX5_ones : ByteArray := prog_7_method_4_code
def yX5_ones : MethodName := ⟨RX5, "ones", "(I)I"⟩
abbrev cX5_type : ByteArray := prog_7_method_5_code
def yX5_type : MethodName := ⟨RX5, "type", "(I)I"⟩
abbrev cX5_clear : ByteArray := prog_7_method_6_code
def yX5_clear : MethodName := ⟨RX5, "clear", "()I"⟩
abbrev cX5_letterAt : ByteArray := prog_7_method_7_code
def yX5_letterAt : MethodName := ⟨RX5, "letterAt", "(I)I"⟩
abbrev cX5_advances : ByteArray := prog_7_method_8_code
def yX5_advances : MethodName := ⟨RX5, "advances", "()V"⟩
abbrev cX5_isWell : ByteArray := prog_7_method_9_code
def yX5_isWell : MethodName := ⟨RX5, "isWell", "()Z"⟩
abbrev cX5_takes : ByteArray := prog_7_method_10_code
def yX5_takes : MethodName := ⟨RX5, "takes", "(Z)I"⟩
abbrev cX5_number : ByteArray := prog_7_method_11_code
def yX5_number : MethodName := ⟨RX5, "number", "(II)I"⟩
abbrev cX5_isFree : ByteArray := prog_7_method_12_code
def yX5_isFree : MethodName := ⟨RX5, "isFree", "(I)Z"⟩
abbrev cX5_mayBegin : ByteArray := prog_7_method_13_code
def yX5_mayBegin : MethodName := ⟨RX5, "mayBegin", "(I)Z"⟩
abbrev cX5_readsItem : ByteArray := prog_7_method_14_code
def yX5_readsItem : MethodName := ⟨RX5, "readsItem", "(I)V"⟩
abbrev cX5_readsWind : ByteArray := prog_7_method_15_code
def yX5_readsWind : MethodName := ⟨RX5, "readsWind", "()V"⟩
abbrev cX5_sea : ByteArray := prog_7_method_16_code
def yX5_sea : MethodName := ⟨RX5, "sea", "()I"⟩
abbrev cX5_settles : ByteArray := prog_7_method_17_code
def yX5_settles : MethodName := ⟨RX5, "settles", "()V"⟩
abbrev cX5_isIsle : ByteArray := prog_7_method_18_code
def yX5_isIsle : MethodName := ⟨RX5, "isIsle", "(I)Z"⟩
abbrev cX5_isLetter : ByteArray := prog_7_method_19_code
def yX5_isLetter : MethodName := ⟨RX5, "isLetter", "(I)Z"⟩
abbrev cX5_isleAt : ByteArray := prog_7_method_20_code
def yX5_isleAt : MethodName := ⟨RX5, "isleAt", "(I)I"⟩
abbrev cX5_isHill : ByteArray := prog_7_method_21_code
def yX5_isHill : MethodName := ⟨RX5, "isHill", "(I)Z"⟩
abbrev cX5_isle : ByteArray := prog_7_method_22_code
def yX5_isle : MethodName := ⟨RX5, "isle", "(II)I"⟩
abbrev cX5_cell : ByteArray := prog_7_method_23_code
def yX5_cell : MethodName := ⟨RX5, "cell", "(I)I"⟩
abbrev cX5_windOf : ByteArray := prog_7_method_24_code
def yX5_windOf : MethodName := ⟨RX5, "windOf", "(I)I"⟩
abbrev cX5_wind : ByteArray := prog_7_method_25_code
def yX5_wind : MethodName := ⟨RX5, "wind", "(I)I"⟩
abbrev cX5_letter : ByteArray := prog_7_method_26_code
def yX5_letter : MethodName := ⟨RX5, "letter", "(II)I"⟩
abbrev cX5_now : ByteArray := prog_7_method_27_code
def yX5_now : MethodName := ⟨RX5, "now", "(I)I"⟩
abbrev cX5_notes : ByteArray := prog_7_method_28_code
def yX5_notes : MethodName := ⟨RX5, "notes", "()V"⟩
abbrev cX5_puts : ByteArray := prog_7_method_29_code
def yX5_puts : MethodName := ⟨RX5, "puts", "([IIIII)V"⟩
abbrev cX5_areTwo : ByteArray := prog_7_method_30_code
def yX5_areTwo : MethodName := ⟨RX5, "areTwo", "(II)Z"⟩
abbrev cX5_lets : ByteArray := prog_7_method_31_code
def yX5_lets : MethodName := ⟨RX5, "lets", "(III)I"⟩
abbrev cX5_beside : ByteArray := prog_7_method_32_code
def yX5_beside : MethodName := ⟨RX5, "beside", "(II)I"⟩
abbrev cX5_blows : ByteArray := prog_7_method_33_code
def yX5_blows : MethodName := ⟨RX5, "blows", "([IIII)V"⟩
abbrev cX5_hour : ByteArray := prog_7_method_34_code
def yX5_hour : MethodName := ⟨RX5, "hour", "()I"⟩
abbrev cX5_net : ByteArray := prog_7_method_35_code
def yX5_net : MethodName := ⟨RX5, "net", "(II)I"⟩
abbrev cX5_turn : ByteArray := prog_7_method_36_code
def yX5_turn : MethodName := ⟨RX5, "turn", "(II)I"⟩
abbrev cX5_undo : ByteArray := prog_7_method_37_code
def yX5_undo : MethodName := ⟨RX5, "undo", "()I"⟩
abbrev cX5_takesLetter : ByteArray := prog_7_method_38_code
def yX5_takesLetter : MethodName := ⟨RX5, "takesLetter", "([II)V"⟩
abbrev cX5_goes : ByteArray := prog_7_method_39_code
def yX5_goes : MethodName := ⟨RX5, "goes", "(II)V"⟩
abbrev cX5_where : ByteArray := prog_7_method_40_code
def yX5_where : MethodName := ⟨RX5, "where", "(II)I"⟩
abbrev cX5_comesIn : ByteArray := prog_7_method_41_code
def yX5_comesIn : MethodName := ⟨RX5, "comesIn", "(II)I"⟩
abbrev cX5_comes : ByteArray := prog_7_method_42_code
def yX5_comes : MethodName := ⟨RX5, "comes", "(I)I"⟩
abbrev cX5_blots : ByteArray := prog_7_method_43_code
def yX5_blots : MethodName := ⟨RX5, "blots", "(II)I"⟩
abbrev cX5_loop : ByteArray := prog_7_method_44_code
def yX5_loop : MethodName := ⟨RX5, "loop", "(I)I"⟩
abbrev cX5_tangled : ByteArray := prog_7_method_45_code
def yX5_tangled : MethodName := ⟨RX5, "tangled", "(II)I"⟩
abbrev cX5_comesBy : ByteArray := prog_7_method_46_code
def yX5_comesBy : MethodName := ⟨RX5, "comesBy", "(IIIII)I"⟩
abbrev cX5_bestK : ByteArray := prog_7_method_47_code
def yX5_bestK : MethodName := ⟨RX5, "bestK", "(IIII)I"⟩
abbrev cX5_soonest : ByteArray := prog_7_method_48_code
def yX5_soonest : MethodName := ⟨RX5, "soonest", "(IIII)I"⟩
abbrev cX5_lightest : ByteArray := prog_7_method_49_code
def yX5_lightest : MethodName := ⟨RX5, "lightest", "(III)I"⟩
abbrev cX5_words : ByteArray := prog_7_method_50_code
def yX5_words : MethodName := ⟨RX5, "words", "(I)I"⟩
abbrev cX5_nets : ByteArray := prog_7_method_51_code
def yX5_nets : MethodName := ⟨RX5, "nets", "(III)I"⟩
abbrev cX5_who : ByteArray := prog_7_method_52_code
def yX5_who : MethodName := ⟨RX5, "who", "(III)I"⟩
abbrev cX5_knee : ByteArray := prog_7_method_53_code
def yX5_knee : MethodName := ⟨RX5, "knee", "(II)I"⟩
abbrev cX5_drift : ByteArray := prog_7_method_54_code
def yX5_drift : MethodName := ⟨RX5, "drift", "(II)I"⟩
abbrev cX5_power : ByteArray := prog_7_method_55_code
def yX5_power : MethodName := ⟨RX5, "power", "(II)I"⟩
abbrev cX5_gcd : ByteArray := prog_7_method_56_code
def yX5_gcd : MethodName := ⟨RX5, "gcd", "(II)I"⟩
abbrev cX5_odds : ByteArray := prog_7_method_57_code
def yX5_odds : MethodName := ⟨RX5, "odds", "(IIII)I"⟩
abbrev cX5_rate : ByteArray := prog_7_method_58_code
def yX5_rate : MethodName := ⟨RX5, "rate", "(II)I"⟩
abbrev cX5_keep : ByteArray := prog_7_method_59_code
def yX5_keep : MethodName := ⟨RX5, "keep", "(I)I"⟩
abbrev cX5_back : ByteArray := prog_7_method_60_code
def yX5_back : MethodName := ⟨RX5, "back", "(I)I"⟩
abbrev cX5_count : ByteArray := prog_7_method_61_code
def yX5_count : MethodName := ⟨RX5, "count", "(I)I"⟩
abbrev cX5_trace : ByteArray := prog_7_method_62_code
def yX5_trace : MethodName := ⟨RX5, "trace", "()J"⟩
def RJ6 : String := "java/lang/Integer"
def TJ6 : u_T := fun k => match k with
  | _ => ("", "", "", false)
def tyJ6 : Nat → FieldType := fun k => match k with
  | _ => .int
abbrev wsJ60 : List Cond := u_ws RJ6 TJ6 0
theorem nmJ6 : ∀ a, a < 0 → ∀ b, b < 0 → a ≠ b → (TJ6 a).2.1 ≠ (TJ6 b).2.1 := by decide +kernel
theorem tyJ6_ok : ∀ k, k < 0 → parseFieldDescriptor (TJ6 k).2.2.1 = some (tyJ6 k) := by decide +kernel
abbrev cJ6_bitCount_0f7a4 : ByteArray := prog_8_method_49_code
def yJ6_bitCount_0f7a4 : MethodName := ⟨RJ6, "bitCount", "(I)I"⟩
def RJ9 : String := "java/lang/Math"
def TJ9 : u_T := fun k => match k with
  | _ => ("", "", "", false)
def tyJ9 : Nat → FieldType := fun k => match k with
  | _ => .int
abbrev wsJ90 : List Cond := u_ws RJ9 TJ9 0
theorem nmJ9 : ∀ a, a < 0 → ∀ b, b < 0 → a ≠ b → (TJ9 a).2.1 ≠ (TJ9 b).2.1 := by decide +kernel
theorem tyJ9_ok : ∀ k, k < 0 → parseFieldDescriptor (TJ9 k).2.2.1 = some (tyJ9 k) := by decide +kernel
abbrev cJ9_floorMod_7cf53 : ByteArray := prog_9_method_50_code
def yJ9_floorMod_7cf53 : MethodName := ⟨RJ9, "floorMod", "(II)I"⟩
abbrev cJ9_max_7cf53 : ByteArray := prog_9_method_65_code
def yJ9_max_7cf53 : MethodName := ⟨RJ9, "max", "(II)I"⟩
abbrev cJ9_min_7cf53 : ByteArray := prog_9_method_69_code
def yJ9_min_7cf53 : MethodName := ⟨RJ9, "min", "(II)I"⟩
def RL : String := "WindPostLaw"
abbrev cL_law : ByteArray := code
def yL_law : MethodName := ⟨RL, "law", "([I)Z"⟩
def wsX0_untell : List Cond := .code yX0_untell cX0_untell 2 none :: ([.fieldLink RX0 30 "WindPost$Chart" "wide" "I", .fieldLink RX0 34 "WindPost$Chart" "high" "I", .fieldLink RX0 37 "WindPost$Chart" "force" "I", .fieldLink RX0 40 "WindPost$Chart" "isles" "I", .fieldLink RX0 43 "WindPost$Chart" "hills" "I", .fieldLink RX0 46 "WindPost$Chart" "told" "I", .fieldLink RX0 15 "WindPost$Chart" "holds" "[I"] ++ wsX00)
def wsX0_cells : List Cond := .code yX0_cells cX0_cells 1 (some .int) :: ([.fieldLink RX0 30 "WindPost$Chart" "wide" "I", .fieldLink RX0 34 "WindPost$Chart" "high" "I", .methodLink RX0 49 Lib.Math.min.name, .static Lib.Math.min.name, .initialized "java/lang/Math", .code Lib.Math.min.name Lib.Math.min.code 2 (some .int)] ++ wsX00)
def wsX0_beside : List Cond := .code yX0_beside cX0_beside 5 (some .int) :: ([.fieldLink RX0 30 "WindPost$Chart" "wide" "I", .fieldLink RX0 34 "WindPost$Chart" "high" "I"] ++ wsX00)
def wsX0_onCell : List Cond := .code yX0_onCell cX0_onCell 2 (some .int) :: ([.fieldLink RX0 15 "WindPost$Chart" "holds" "[I"] ++ wsX00)
def wsX0_drawWay : List Cond := .code yX0_drawWay cX0_drawWay 7 none :: ([.fieldLink RX0 21 "WindPost$Chart" "ends" "[I", .methodLink RX0 63 yX0_beside, .instanceMethod yX0_beside, .selects RX0 yX0_beside yX0_beside, .initialized RX0, .code yX0_beside cX0_beside 5 (some .int), .fieldLink RX0 30 "WindPost$Chart" "wide" "I", .fieldLink RX0 34 "WindPost$Chart" "high" "I", .methodLink RX0 66 yX0_onCell, .instanceMethod yX0_onCell, .selects RX0 yX0_onCell yX0_onCell, .code yX0_onCell cX0_onCell 2 (some .int), .fieldLink RX0 15 "WindPost$Chart" "holds" "[I"] ++ wsX00)
def wsX0_drawEnds_r1 : List Cond := [Cond.methodLink RX0 55 yX0_cells, Cond.instanceMethod yX0_cells, Cond.selects RX0 yX0_cells yX0_cells, Cond.initialized RX0, Cond.code yX0_cells cX0_cells 1 (some .int), Cond.fieldLink RX0 30 "WindPost$Chart" "wide" "I", Cond.fieldLink RX0 34 "WindPost$Chart" "high" "I", Cond.methodLink RX0 49 Lib.Math.min.name, Cond.static Lib.Math.min.name, Cond.initialized "java/lang/Math", Cond.code Lib.Math.min.name Lib.Math.min.code 2 (some .int), Cond.methodLink RX0 59 yX0_drawWay, Cond.instanceMethod yX0_drawWay, Cond.selects RX0 yX0_drawWay yX0_drawWay, Cond.code yX0_drawWay cX0_drawWay 7 none, Cond.fieldLink RX0 21 "WindPost$Chart" "ends" "[I", Cond.methodLink RX0 63 yX0_beside, Cond.instanceMethod yX0_beside, Cond.selects RX0 yX0_beside yX0_beside, Cond.code yX0_beside cX0_beside 5 (some .int), Cond.methodLink RX0 66 yX0_onCell, Cond.instanceMethod yX0_onCell, Cond.selects RX0 yX0_onCell yX0_onCell, Cond.code yX0_onCell cX0_onCell 2 (some .int)]
def wsX0_drawEnds_r2 : List Cond := [Cond.fieldLink RX0 15 "WindPost$Chart" "holds" "[I"]
def wsX0_drawEnds : List Cond := .code yX0_drawEnds cX0_drawEnds 3 none :: ((wsX0_drawEnds_r1 ++ wsX0_drawEnds_r2) ++ wsX00)
def wsX0_init_r1 : List Cond := [Cond.methodLink RX0 3 objectInit, Cond.instanceMethod objectInit, Cond.code objectInit ⟨#[0xb1]⟩ 1 none, Cond.arrayClass .int, Cond.fieldLink RX0 9 "WindPost$Chart" "isleCells" "[I", Cond.fieldLink RX0 15 "WindPost$Chart" "holds" "[I", Cond.fieldLink RX0 18 "WindPost$Chart" "winds" "[I", Cond.fieldLink RX0 21 "WindPost$Chart" "ends" "[I", Cond.methodLink RX0 24 yX0_untell, Cond.instanceMethod yX0_untell, Cond.selects RX0 yX0_untell yX0_untell, Cond.initialized RX0, Cond.code yX0_untell cX0_untell 2 none, Cond.fieldLink RX0 30 "WindPost$Chart" "wide" "I", Cond.fieldLink RX0 34 "WindPost$Chart" "high" "I", Cond.fieldLink RX0 37 "WindPost$Chart" "force" "I", Cond.fieldLink RX0 40 "WindPost$Chart" "isles" "I", Cond.fieldLink RX0 43 "WindPost$Chart" "hills" "I", Cond.fieldLink RX0 46 "WindPost$Chart" "told" "I", Cond.methodLink RX0 27 yX0_drawEnds, Cond.instanceMethod yX0_drawEnds, Cond.selects RX0 yX0_drawEnds yX0_drawEnds, Cond.code yX0_drawEnds cX0_drawEnds 3 none, Cond.methodLink RX0 55 yX0_cells]
def wsX0_init_r2 : List Cond := [Cond.instanceMethod yX0_cells, Cond.selects RX0 yX0_cells yX0_cells, Cond.code yX0_cells cX0_cells 1 (some .int), Cond.methodLink RX0 49 Lib.Math.min.name, Cond.static Lib.Math.min.name, Cond.initialized "java/lang/Math", Cond.code Lib.Math.min.name Lib.Math.min.code 2 (some .int), Cond.methodLink RX0 59 yX0_drawWay, Cond.instanceMethod yX0_drawWay, Cond.selects RX0 yX0_drawWay yX0_drawWay, Cond.code yX0_drawWay cX0_drawWay 7 none, Cond.methodLink RX0 63 yX0_beside, Cond.instanceMethod yX0_beside, Cond.selects RX0 yX0_beside yX0_beside, Cond.code yX0_beside cX0_beside 5 (some .int), Cond.methodLink RX0 66 yX0_onCell, Cond.instanceMethod yX0_onCell, Cond.selects RX0 yX0_onCell yX0_onCell, Cond.code yX0_onCell cX0_onCell 2 (some .int)]
def wsX0_init : List Cond := .code yX0_init cX0_init 1 none :: ((wsX0_init_r1 ++ wsX0_init_r2) ++ wsX00)
def wsX0_cellOfIsle : List Cond := .code yX0_cellOfIsle cX0_cellOfIsle 2 (some .int) :: ([.fieldLink RX0 9 "WindPost$Chart" "isleCells" "[I"] ++ wsX00)
def wsX0_addIsle : List Cond := .code yX0_addIsle cX0_addIsle 2 none :: ([.fieldLink RX0 40 "WindPost$Chart" "isles" "I", .fieldLink RX0 9 "WindPost$Chart" "isleCells" "[I", .fieldLink RX0 15 "WindPost$Chart" "holds" "[I"] ++ wsX00)
def wsX0_addHill : List Cond := .code yX0_addHill cX0_addHill 2 none :: ([.fieldLink RX0 15 "WindPost$Chart" "holds" "[I", .fieldLink RX0 43 "WindPost$Chart" "hills" "I"] ++ wsX00)
def wsX0_addWind : List Cond := .code yX0_addWind cX0_addWind 2 none :: ([.fieldLink RX0 46 "WindPost$Chart" "told" "I", .fieldLink RX0 18 "WindPost$Chart" "winds" "[I"] ++ wsX00)
def wsX0_endOf : List Cond := .code yX0_endOf cX0_endOf 4 (some .int) :: ([.fieldLink RX0 21 "WindPost$Chart" "ends" "[I"] ++ wsX00)
def wsX1_init : List Cond := .code yX1_init cX1_init 1 none :: ([.methodLink RX1 3 objectInit, .instanceMethod objectInit, .code objectInit ⟨#[0xb1]⟩ 1 none])
def wsX1_letUp : List Cond := .code yX1_letUp cX1_letUp 5 none :: ([.fieldLink RX1 9 "WindPost$Letter" "weight" "I", .fieldLink RX1 15 "WindPost$Letter" "from" "I", .fieldLink RX1 18 "WindPost$Letter" "to" "I", .fieldLink RX1 27 "WindPost$Letter" "place" "I", .fieldLink RX1 30 "WindPost$Letter" "marks" "I", .fieldLink RX1 33 "WindPost$Letter" "how" "I", .fieldLink RX1 36 "WindPost$Chart" "force" "I", .fieldLink RX1 39 "WindPost$Letter" "reach" "I", .methodLink RX1 21 yX0_cellOfIsle, .instanceMethod yX0_cellOfIsle, .selects RX0 yX0_cellOfIsle yX0_cellOfIsle, .initialized RX0, .code yX0_cellOfIsle cX0_cellOfIsle 2 (some .int), .fieldLink RX0 9 "WindPost$Chart" "isleCells" "[I"] ++ wsX10 ++ wsX00)
def wsX1_copyFrom : List Cond := .code yX1_copyFrom cX1_copyFrom 2 none :: ([.fieldLink RX1 9 "WindPost$Letter" "weight" "I", .fieldLink RX1 15 "WindPost$Letter" "from" "I", .fieldLink RX1 18 "WindPost$Letter" "to" "I", .fieldLink RX1 27 "WindPost$Letter" "place" "I", .fieldLink RX1 30 "WindPost$Letter" "marks" "I", .fieldLink RX1 33 "WindPost$Letter" "how" "I", .fieldLink RX1 39 "WindPost$Letter" "reach" "I"] ++ wsX10)
def wsX4_bitOf : List Cond := .code yX4_bitOf cX4_bitOf 2 (some .int) :: ([])
def wsX1_passHour : List Cond := .code yX1_passHour cX1_passHour 6 none :: ([.fieldLink RX1 33 "WindPost$Letter" "how" "I", .fieldLink RX1 39 "WindPost$Letter" "reach" "I", .fieldLink RX1 27 "WindPost$Letter" "place" "I", .fieldLink RX1 18 "WindPost$Letter" "to" "I", .fieldLink RX1 30 "WindPost$Letter" "marks" "I", .methodLink RX1 42 yX0_endOf, .instanceMethod yX0_endOf, .selects RX0 yX0_endOf yX0_endOf, .initialized RX0, .code yX0_endOf cX0_endOf 4 (some .int), .fieldLink RX0 21 "WindPost$Chart" "ends" "[I", .methodLink RX1 46 yX0_onCell, .instanceMethod yX0_onCell, .selects RX0 yX0_onCell yX0_onCell, .code yX0_onCell cX0_onCell 2 (some .int), .fieldLink RX0 15 "WindPost$Chart" "holds" "[I", .static yX4_bitOf, .initialized RX4, .code yX4_bitOf cX4_bitOf 2 (some .int)] ++ wsX10 ++ wsX00)
def wsX2_init : List Cond := .code yX2_init cX2_init 2 none :: ([.methodLink RX2 3 objectInit, .instanceMethod objectInit, .code objectInit ⟨#[0xb1]⟩ 1 none, .arrayClass .int, .fieldLink RX2 9 "WindPost$Moment" "winds" "[I", .classLink RX2 15 RX1, .fieldLink RX2 17 "WindPost$Moment" "post" "[LWindPost$Letter;", .instantiable RX1 7, .initialized RX1, .instanceMethod yX1_init, .code yX1_init cX1_init 1 none, .methodLink RX1 3 objectInit] ++ wsX20 ++ wsX10)
def wsX2_beginAnew : List Cond := .code yX2_beginAnew cX2_beginAnew 3 none :: ([.fieldLink RX2 22 "WindPost$Moment" "time" "I", .fieldLink RX2 26 "WindPost$Moment" "letters" "I", .fieldLink RX2 29 "WindPost$Moment" "nets" "I", .fieldLink RX2 32 "WindPost$Chart" "told" "I", .fieldLink RX2 37 "WindPost$Moment" "told" "I", .fieldLink RX2 9 "WindPost$Moment" "winds" "[I", .fieldLink RX2 38 "WindPost$Chart" "winds" "[I"] ++ wsX20 ++ wsX00)
def wsX2_copyFrom : List Cond := .code yX2_copyFrom cX2_copyFrom 3 none :: ([.fieldLink RX2 22 "WindPost$Moment" "time" "I", .fieldLink RX2 26 "WindPost$Moment" "letters" "I", .fieldLink RX2 29 "WindPost$Moment" "nets" "I", .fieldLink RX2 37 "WindPost$Moment" "told" "I", .fieldLink RX2 9 "WindPost$Moment" "winds" "[I", .fieldLink RX2 17 "WindPost$Moment" "post" "[LWindPost$Letter;", .methodLink RX2 39 yX1_copyFrom, .instanceMethod yX1_copyFrom, .selects RX1 yX1_copyFrom yX1_copyFrom, .initialized RX1, .code yX1_copyFrom cX1_copyFrom 2 none, .fieldLink RX1 9 "WindPost$Letter" "weight" "I", .fieldLink RX1 15 "WindPost$Letter" "from" "I", .fieldLink RX1 18 "WindPost$Letter" "to" "I", .fieldLink RX1 27 "WindPost$Letter" "place" "I", .fieldLink RX1 30 "WindPost$Letter" "marks" "I", .fieldLink RX1 33 "WindPost$Letter" "how" "I", .fieldLink RX1 39 "WindPost$Letter" "reach" "I"] ++ wsX20 ++ wsX10)
def wsJ9_floorMod_7cf53 : List Cond := .code yJ9_floorMod_7cf53 cJ9_floorMod_7cf53 3 (some .int) :: ([])
def wsX2_windOf : List Cond := .code yX2_windOf cX2_windOf 2 (some .int) :: ([.fieldLink RX2 37 "WindPost$Moment" "told" "I", .fieldLink RX2 9 "WindPost$Moment" "winds" "[I", .methodLink RX2 43 yJ9_floorMod_7cf53, .static yJ9_floorMod_7cf53, .initialized RJ9, .code yJ9_floorMod_7cf53 cJ9_floorMod_7cf53 3 (some .int)] ++ wsX20)
def wsX2_lettersUp : List Cond := .code yX2_lettersUp cX2_lettersUp 3 (some .int) :: ([.fieldLink RX2 26 "WindPost$Moment" "letters" "I", .fieldLink RX2 17 "WindPost$Moment" "post" "[LWindPost$Letter;", .fieldLink RX2 49 "WindPost$Letter" "how" "I"] ++ wsX20 ++ wsX10)
def wsX3_init : List Cond := .code yX3_init cX3_init 1 none :: ([.methodLink RX3 3 objectInit, .instanceMethod objectInit, .code objectInit ⟨#[0xb1]⟩ 1 none, .arrayClass .int, .fieldLink RX3 9 "WindPost$Text" "signs" "[I"] ++ wsX30)
def wsX3_add : List Cond := .code yX3_add cX3_add 2 none :: ([.fieldLink RX3 15 "WindPost$Text" "length" "I", .fieldLink RX3 9 "WindPost$Text" "signs" "[I"] ++ wsX30)
def wsX3_isDigit : List Cond := .code yX3_isDigit cX3_isDigit 1 (some .boolean) :: ([])
def wsX3_isSign : List Cond := .code yX3_isSign cX3_isSign 1 (some .boolean) :: ([])
def wsX3_step : List Cond := .code yX3_step cX3_step 3 none :: ([.fieldLink RX3 24 "WindPost$Text" "next" "I", .fieldLink RX3 15 "WindPost$Text" "length" "I", .fieldLink RX3 9 "WindPost$Text" "signs" "[I", .fieldLink RX3 44 "WindPost$Text" "place" "I", .fieldLink RX3 72 "WindPost$Text" "number" "I", .methodLink RX3 117 Lib.Math.min.name, .static Lib.Math.min.name, .initialized "java/lang/Math", .code Lib.Math.min.name Lib.Math.min.code 2 (some .int), .fieldLink RX3 37 "WindPost$Text" "token" "I", .methodLink RX3 113 yX3_isDigit, .static yX3_isDigit, .initialized RX3, .code yX3_isDigit cX3_isDigit 1 (some .boolean), .methodLink RX3 123 yX3_isSign, .static yX3_isSign, .code yX3_isSign cX3_isSign 1 (some .boolean)] ++ wsX30)
def wsX4_isWithin : List Cond := .code yX4_isWithin cX4_isWithin 3 (some .boolean) :: ([])
def wsX3_stepsToNumber : List Cond := .code yX3_stepsToNumber cX3_stepsToNumber 3 (some .boolean) :: ([.fieldLink RX3 37 "WindPost$Text" "token" "I", .fieldLink RX3 72 "WindPost$Text" "number" "I", .methodLink RX3 34 yX3_step, .instanceMethod yX3_step, .selects RX3 yX3_step yX3_step, .initialized RX3, .code yX3_step cX3_step 3 none, .fieldLink RX3 24 "WindPost$Text" "next" "I", .fieldLink RX3 15 "WindPost$Text" "length" "I", .fieldLink RX3 9 "WindPost$Text" "signs" "[I", .fieldLink RX3 44 "WindPost$Text" "place" "I", .methodLink RX3 117 Lib.Math.min.name, .static Lib.Math.min.name, .initialized "java/lang/Math", .code Lib.Math.min.name Lib.Math.min.code 2 (some .int), .methodLink RX3 113 yX3_isDigit, .static yX3_isDigit, .code yX3_isDigit cX3_isDigit 1 (some .boolean), .methodLink RX3 123 yX3_isSign, .static yX3_isSign, .code yX3_isSign cX3_isSign 1 (some .boolean), .static yX4_isWithin, .initialized RX4, .code yX4_isWithin cX4_isWithin 3 (some .boolean)] ++ wsX30)
def wsX3_stepsToEnd : List Cond := .code yX3_stepsToEnd cX3_stepsToEnd 1 (some .boolean) :: ([.fieldLink RX3 37 "WindPost$Text" "token" "I", .methodLink RX3 34 yX3_step, .instanceMethod yX3_step, .selects RX3 yX3_step yX3_step, .initialized RX3, .code yX3_step cX3_step 3 none, .fieldLink RX3 24 "WindPost$Text" "next" "I", .fieldLink RX3 15 "WindPost$Text" "length" "I", .fieldLink RX3 9 "WindPost$Text" "signs" "[I", .fieldLink RX3 44 "WindPost$Text" "place" "I", .fieldLink RX3 72 "WindPost$Text" "number" "I", .methodLink RX3 117 Lib.Math.min.name, .static Lib.Math.min.name, .initialized "java/lang/Math", .code Lib.Math.min.name Lib.Math.min.code 2 (some .int), .methodLink RX3 113 yX3_isDigit, .static yX3_isDigit, .code yX3_isDigit cX3_isDigit 1 (some .boolean), .methodLink RX3 123 yX3_isSign, .static yX3_isSign, .code yX3_isSign cX3_isSign 1 (some .boolean)] ++ wsX30)
def wsX3_readSize_r1 : List Cond := [Cond.fieldLink RX3 72 "WindPost$Text" "number" "I", Cond.fieldLink RX3 75 "WindPost$Chart" "wide" "I", Cond.fieldLink RX3 78 "WindPost$Chart" "high" "I", Cond.methodLink RX3 68 yX3_stepsToNumber, Cond.instanceMethod yX3_stepsToNumber, Cond.selects RX3 yX3_stepsToNumber yX3_stepsToNumber, Cond.initialized RX3, Cond.code yX3_stepsToNumber cX3_stepsToNumber 3 (some .boolean), Cond.fieldLink RX3 37 "WindPost$Text" "token" "I", Cond.methodLink RX3 34 yX3_step, Cond.instanceMethod yX3_step, Cond.selects RX3 yX3_step yX3_step, Cond.code yX3_step cX3_step 3 none, Cond.fieldLink RX3 24 "WindPost$Text" "next" "I", Cond.fieldLink RX3 15 "WindPost$Text" "length" "I", Cond.fieldLink RX3 9 "WindPost$Text" "signs" "[I", Cond.fieldLink RX3 44 "WindPost$Text" "place" "I", Cond.methodLink RX3 117 Lib.Math.min.name, Cond.static Lib.Math.min.name, Cond.initialized "java/lang/Math", Cond.code Lib.Math.min.name Lib.Math.min.code 2 (some .int), Cond.methodLink RX3 113 yX3_isDigit, Cond.static yX3_isDigit, Cond.code yX3_isDigit cX3_isDigit 1 (some .boolean)]
def wsX3_readSize_r2 : List Cond := [Cond.methodLink RX3 123 yX3_isSign, Cond.static yX3_isSign, Cond.code yX3_isSign cX3_isSign 1 (some .boolean), Cond.static yX4_isWithin, Cond.initialized RX4, Cond.code yX4_isWithin cX4_isWithin 3 (some .boolean), Cond.methodLink RX3 81 yX3_stepsToEnd, Cond.instanceMethod yX3_stepsToEnd, Cond.selects RX3 yX3_stepsToEnd yX3_stepsToEnd, Cond.code yX3_stepsToEnd cX3_stepsToEnd 1 (some .boolean)]
def wsX3_readSize : List Cond := .code yX3_readSize cX3_readSize 2 (some .boolean) :: ((wsX3_readSize_r1 ++ wsX3_readSize_r2) ++ wsX30 ++ wsX00)
def wsX3_readIsle_r1 : List Cond := [Cond.fieldLink RX3 72 "WindPost$Text" "number" "I", Cond.methodLink RX3 85 yX0_cells, Cond.instanceMethod yX0_cells, Cond.selects RX0 yX0_cells yX0_cells, Cond.initialized RX0, Cond.code yX0_cells cX0_cells 1 (some .int), Cond.fieldLink RX0 30 "WindPost$Chart" "wide" "I", Cond.fieldLink RX0 34 "WindPost$Chart" "high" "I", Cond.methodLink RX0 49 Lib.Math.min.name, Cond.static Lib.Math.min.name, Cond.initialized "java/lang/Math", Cond.code Lib.Math.min.name Lib.Math.min.code 2 (some .int), Cond.methodLink RX3 68 yX3_stepsToNumber, Cond.instanceMethod yX3_stepsToNumber, Cond.selects RX3 yX3_stepsToNumber yX3_stepsToNumber, Cond.initialized RX3, Cond.code yX3_stepsToNumber cX3_stepsToNumber 3 (some .boolean), Cond.fieldLink RX3 37 "WindPost$Text" "token" "I", Cond.methodLink RX3 34 yX3_step, Cond.instanceMethod yX3_step, Cond.selects RX3 yX3_step yX3_step, Cond.code yX3_step cX3_step 3 none, Cond.fieldLink RX3 24 "WindPost$Text" "next" "I", Cond.fieldLink RX3 15 "WindPost$Text" "length" "I"]
def wsX3_readIsle_r2 : List Cond := [Cond.fieldLink RX3 9 "WindPost$Text" "signs" "[I", Cond.fieldLink RX3 44 "WindPost$Text" "place" "I", Cond.methodLink RX3 117 Lib.Math.min.name, Cond.methodLink RX3 113 yX3_isDigit, Cond.static yX3_isDigit, Cond.code yX3_isDigit cX3_isDigit 1 (some .boolean), Cond.methodLink RX3 123 yX3_isSign, Cond.static yX3_isSign, Cond.code yX3_isSign cX3_isSign 1 (some .boolean), Cond.static yX4_isWithin, Cond.initialized RX4, Cond.code yX4_isWithin cX4_isWithin 3 (some .boolean), Cond.methodLink RX3 89 yX0_onCell, Cond.instanceMethod yX0_onCell, Cond.selects RX0 yX0_onCell yX0_onCell, Cond.code yX0_onCell cX0_onCell 2 (some .int), Cond.fieldLink RX0 15 "WindPost$Chart" "holds" "[I", Cond.methodLink RX3 93 yX0_addIsle, Cond.instanceMethod yX0_addIsle, Cond.selects RX0 yX0_addIsle yX0_addIsle, Cond.code yX0_addIsle cX0_addIsle 2 none, Cond.fieldLink RX0 40 "WindPost$Chart" "isles" "I", Cond.fieldLink RX0 9 "WindPost$Chart" "isleCells" "[I", Cond.methodLink RX3 81 yX3_stepsToEnd]
def wsX3_readIsle_r3 : List Cond := [Cond.instanceMethod yX3_stepsToEnd, Cond.selects RX3 yX3_stepsToEnd yX3_stepsToEnd, Cond.code yX3_stepsToEnd cX3_stepsToEnd 1 (some .boolean)]
def wsX3_readIsle : List Cond := .code yX3_readIsle cX3_readIsle 2 (some .boolean) :: ((wsX3_readIsle_r1 ++ (wsX3_readIsle_r2 ++ wsX3_readIsle_r3)) ++ wsX30 ++ wsX00)
def wsX3_readHill_r1 : List Cond := [Cond.fieldLink RX3 72 "WindPost$Text" "number" "I", Cond.methodLink RX3 85 yX0_cells, Cond.instanceMethod yX0_cells, Cond.selects RX0 yX0_cells yX0_cells, Cond.initialized RX0, Cond.code yX0_cells cX0_cells 1 (some .int), Cond.fieldLink RX0 30 "WindPost$Chart" "wide" "I", Cond.fieldLink RX0 34 "WindPost$Chart" "high" "I", Cond.methodLink RX0 49 Lib.Math.min.name, Cond.static Lib.Math.min.name, Cond.initialized "java/lang/Math", Cond.code Lib.Math.min.name Lib.Math.min.code 2 (some .int), Cond.methodLink RX3 68 yX3_stepsToNumber, Cond.instanceMethod yX3_stepsToNumber, Cond.selects RX3 yX3_stepsToNumber yX3_stepsToNumber, Cond.initialized RX3, Cond.code yX3_stepsToNumber cX3_stepsToNumber 3 (some .boolean), Cond.fieldLink RX3 37 "WindPost$Text" "token" "I", Cond.methodLink RX3 34 yX3_step, Cond.instanceMethod yX3_step, Cond.selects RX3 yX3_step yX3_step, Cond.code yX3_step cX3_step 3 none, Cond.fieldLink RX3 24 "WindPost$Text" "next" "I", Cond.fieldLink RX3 15 "WindPost$Text" "length" "I"]
def wsX3_readHill_r2 : List Cond := [Cond.fieldLink RX3 9 "WindPost$Text" "signs" "[I", Cond.fieldLink RX3 44 "WindPost$Text" "place" "I", Cond.methodLink RX3 117 Lib.Math.min.name, Cond.methodLink RX3 113 yX3_isDigit, Cond.static yX3_isDigit, Cond.code yX3_isDigit cX3_isDigit 1 (some .boolean), Cond.methodLink RX3 123 yX3_isSign, Cond.static yX3_isSign, Cond.code yX3_isSign cX3_isSign 1 (some .boolean), Cond.static yX4_isWithin, Cond.initialized RX4, Cond.code yX4_isWithin cX4_isWithin 3 (some .boolean), Cond.methodLink RX3 89 yX0_onCell, Cond.instanceMethod yX0_onCell, Cond.selects RX0 yX0_onCell yX0_onCell, Cond.code yX0_onCell cX0_onCell 2 (some .int), Cond.fieldLink RX0 15 "WindPost$Chart" "holds" "[I", Cond.methodLink RX3 97 yX0_addHill, Cond.instanceMethod yX0_addHill, Cond.selects RX0 yX0_addHill yX0_addHill, Cond.code yX0_addHill cX0_addHill 2 none, Cond.fieldLink RX0 43 "WindPost$Chart" "hills" "I", Cond.methodLink RX3 81 yX3_stepsToEnd, Cond.instanceMethod yX3_stepsToEnd]
def wsX3_readHill_r3 : List Cond := [Cond.selects RX3 yX3_stepsToEnd yX3_stepsToEnd, Cond.code yX3_stepsToEnd cX3_stepsToEnd 1 (some .boolean)]
def wsX3_readHill : List Cond := .code yX3_readHill cX3_readHill 2 (some .boolean) :: ((wsX3_readHill_r1 ++ (wsX3_readHill_r2 ++ wsX3_readHill_r3)) ++ wsX30 ++ wsX00)
def wsX3_readWinds_r1 : List Cond := [Cond.fieldLink RX3 37 "WindPost$Text" "token" "I", Cond.fieldLink RX3 72 "WindPost$Text" "number" "I", Cond.fieldLink RX3 103 "WindPost$Chart" "told" "I", Cond.methodLink RX3 34 yX3_step, Cond.instanceMethod yX3_step, Cond.selects RX3 yX3_step yX3_step, Cond.initialized RX3, Cond.code yX3_step cX3_step 3 none, Cond.fieldLink RX3 24 "WindPost$Text" "next" "I", Cond.fieldLink RX3 15 "WindPost$Text" "length" "I", Cond.fieldLink RX3 9 "WindPost$Text" "signs" "[I", Cond.fieldLink RX3 44 "WindPost$Text" "place" "I", Cond.methodLink RX3 117 Lib.Math.min.name, Cond.static Lib.Math.min.name, Cond.initialized "java/lang/Math", Cond.code Lib.Math.min.name Lib.Math.min.code 2 (some .int), Cond.methodLink RX3 113 yX3_isDigit, Cond.static yX3_isDigit, Cond.code yX3_isDigit cX3_isDigit 1 (some .boolean), Cond.methodLink RX3 123 yX3_isSign, Cond.static yX3_isSign, Cond.code yX3_isSign cX3_isSign 1 (some .boolean), Cond.methodLink RX3 106 yX0_addWind, Cond.instanceMethod yX0_addWind]
def wsX3_readWinds_r2 : List Cond := [Cond.selects RX0 yX0_addWind yX0_addWind, Cond.initialized RX0, Cond.code yX0_addWind cX0_addWind 2 none, Cond.fieldLink RX0 46 "WindPost$Chart" "told" "I", Cond.fieldLink RX0 18 "WindPost$Chart" "winds" "[I"]
def wsX3_readWinds : List Cond := .code yX3_readWinds cX3_readWinds 3 (some .boolean) :: ((wsX3_readWinds_r1 ++ wsX3_readWinds_r2) ++ wsX30 ++ wsX00)
def wsX3_readForce_r1 : List Cond := [Cond.fieldLink RX3 72 "WindPost$Text" "number" "I", Cond.fieldLink RX3 100 "WindPost$Chart" "force" "I", Cond.fieldLink RX3 30 "WindPost$Text" "forceTold" "Z", Cond.methodLink RX3 68 yX3_stepsToNumber, Cond.instanceMethod yX3_stepsToNumber, Cond.selects RX3 yX3_stepsToNumber yX3_stepsToNumber, Cond.initialized RX3, Cond.code yX3_stepsToNumber cX3_stepsToNumber 3 (some .boolean), Cond.fieldLink RX3 37 "WindPost$Text" "token" "I", Cond.methodLink RX3 34 yX3_step, Cond.instanceMethod yX3_step, Cond.selects RX3 yX3_step yX3_step, Cond.code yX3_step cX3_step 3 none, Cond.fieldLink RX3 24 "WindPost$Text" "next" "I", Cond.fieldLink RX3 15 "WindPost$Text" "length" "I", Cond.fieldLink RX3 9 "WindPost$Text" "signs" "[I", Cond.fieldLink RX3 44 "WindPost$Text" "place" "I", Cond.methodLink RX3 117 Lib.Math.min.name, Cond.static Lib.Math.min.name, Cond.initialized "java/lang/Math", Cond.code Lib.Math.min.name Lib.Math.min.code 2 (some .int), Cond.methodLink RX3 113 yX3_isDigit, Cond.static yX3_isDigit, Cond.code yX3_isDigit cX3_isDigit 1 (some .boolean)]
def wsX3_readForce_r2 : List Cond := [Cond.methodLink RX3 123 yX3_isSign, Cond.static yX3_isSign, Cond.code yX3_isSign cX3_isSign 1 (some .boolean), Cond.static yX4_isWithin, Cond.initialized RX4, Cond.code yX4_isWithin cX4_isWithin 3 (some .boolean), Cond.methodLink RX3 81 yX3_stepsToEnd, Cond.instanceMethod yX3_stepsToEnd, Cond.selects RX3 yX3_stepsToEnd yX3_stepsToEnd, Cond.code yX3_stepsToEnd cX3_stepsToEnd 1 (some .boolean)]
def wsX3_readForce : List Cond := .code yX3_readForce cX3_readForce 2 (some .boolean) :: ((wsX3_readForce_r1 ++ wsX3_readForce_r2) ++ wsX30 ++ wsX00)
def wsX3_readItem_r1 : List Cond := [Cond.fieldLink RX3 37 "WindPost$Text" "token" "I", Cond.fieldLink RX3 27 "WindPost$Text" "items" "I", Cond.fieldLink RX3 50 "WindPost$Chart" "isles" "I", Cond.fieldLink RX3 56 "WindPost$Chart" "hills" "I", Cond.fieldLink RX3 30 "WindPost$Text" "forceTold" "Z", Cond.methodLink RX3 47 yX3_readSize, Cond.instanceMethod yX3_readSize, Cond.selects RX3 yX3_readSize yX3_readSize, Cond.initialized RX3, Cond.code yX3_readSize cX3_readSize 2 (some .boolean), Cond.fieldLink RX3 72 "WindPost$Text" "number" "I", Cond.fieldLink RX3 75 "WindPost$Chart" "wide" "I", Cond.fieldLink RX3 78 "WindPost$Chart" "high" "I", Cond.methodLink RX3 68 yX3_stepsToNumber, Cond.instanceMethod yX3_stepsToNumber, Cond.selects RX3 yX3_stepsToNumber yX3_stepsToNumber, Cond.code yX3_stepsToNumber cX3_stepsToNumber 3 (some .boolean), Cond.methodLink RX3 34 yX3_step, Cond.instanceMethod yX3_step, Cond.selects RX3 yX3_step yX3_step, Cond.code yX3_step cX3_step 3 none, Cond.fieldLink RX3 24 "WindPost$Text" "next" "I", Cond.fieldLink RX3 15 "WindPost$Text" "length" "I", Cond.fieldLink RX3 9 "WindPost$Text" "signs" "[I"]
def wsX3_readItem_r2 : List Cond := [Cond.fieldLink RX3 44 "WindPost$Text" "place" "I", Cond.methodLink RX3 117 Lib.Math.min.name, Cond.static Lib.Math.min.name, Cond.initialized "java/lang/Math", Cond.code Lib.Math.min.name Lib.Math.min.code 2 (some .int), Cond.methodLink RX3 113 yX3_isDigit, Cond.static yX3_isDigit, Cond.code yX3_isDigit cX3_isDigit 1 (some .boolean), Cond.methodLink RX3 123 yX3_isSign, Cond.static yX3_isSign, Cond.code yX3_isSign cX3_isSign 1 (some .boolean), Cond.static yX4_isWithin, Cond.initialized RX4, Cond.code yX4_isWithin cX4_isWithin 3 (some .boolean), Cond.methodLink RX3 81 yX3_stepsToEnd, Cond.instanceMethod yX3_stepsToEnd, Cond.selects RX3 yX3_stepsToEnd yX3_stepsToEnd, Cond.code yX3_stepsToEnd cX3_stepsToEnd 1 (some .boolean), Cond.methodLink RX3 53 yX3_readIsle, Cond.instanceMethod yX3_readIsle, Cond.selects RX3 yX3_readIsle yX3_readIsle, Cond.code yX3_readIsle cX3_readIsle 2 (some .boolean), Cond.methodLink RX3 85 yX0_cells, Cond.instanceMethod yX0_cells]
def wsX3_readItem_r3 : List Cond := [Cond.selects RX0 yX0_cells yX0_cells, Cond.initialized RX0, Cond.code yX0_cells cX0_cells 1 (some .int), Cond.fieldLink RX0 30 "WindPost$Chart" "wide" "I", Cond.fieldLink RX0 34 "WindPost$Chart" "high" "I", Cond.methodLink RX0 49 Lib.Math.min.name, Cond.methodLink RX3 89 yX0_onCell, Cond.instanceMethod yX0_onCell, Cond.selects RX0 yX0_onCell yX0_onCell, Cond.code yX0_onCell cX0_onCell 2 (some .int), Cond.fieldLink RX0 15 "WindPost$Chart" "holds" "[I", Cond.methodLink RX3 93 yX0_addIsle, Cond.instanceMethod yX0_addIsle, Cond.selects RX0 yX0_addIsle yX0_addIsle, Cond.code yX0_addIsle cX0_addIsle 2 none, Cond.fieldLink RX0 40 "WindPost$Chart" "isles" "I", Cond.fieldLink RX0 9 "WindPost$Chart" "isleCells" "[I", Cond.methodLink RX3 59 yX3_readHill, Cond.instanceMethod yX3_readHill, Cond.selects RX3 yX3_readHill yX3_readHill, Cond.code yX3_readHill cX3_readHill 2 (some .boolean), Cond.methodLink RX3 97 yX0_addHill, Cond.instanceMethod yX0_addHill, Cond.selects RX0 yX0_addHill yX0_addHill]
def wsX3_readItem_r4 : List Cond := [Cond.code yX0_addHill cX0_addHill 2 none, Cond.fieldLink RX0 43 "WindPost$Chart" "hills" "I", Cond.methodLink RX3 62 yX3_readWinds, Cond.instanceMethod yX3_readWinds, Cond.selects RX3 yX3_readWinds yX3_readWinds, Cond.code yX3_readWinds cX3_readWinds 3 (some .boolean), Cond.fieldLink RX3 103 "WindPost$Chart" "told" "I", Cond.methodLink RX3 106 yX0_addWind, Cond.instanceMethod yX0_addWind, Cond.selects RX0 yX0_addWind yX0_addWind, Cond.code yX0_addWind cX0_addWind 2 none, Cond.fieldLink RX0 46 "WindPost$Chart" "told" "I", Cond.fieldLink RX0 18 "WindPost$Chart" "winds" "[I", Cond.methodLink RX3 65 yX3_readForce, Cond.instanceMethod yX3_readForce, Cond.selects RX3 yX3_readForce yX3_readForce, Cond.code yX3_readForce cX3_readForce 2 (some .boolean), Cond.fieldLink RX3 100 "WindPost$Chart" "force" "I"]
def wsX3_readItem : List Cond := .code yX3_readItem cX3_readItem 2 (some .boolean) :: ((wsX3_readItem_r1 ++ (wsX3_readItem_r2 ++ (wsX3_readItem_r3 ++ wsX3_readItem_r4))) ++ wsX30 ++ wsX00)
def wsX3_readInto_r1 : List Cond := [Cond.fieldLink RX3 24 "WindPost$Text" "next" "I", Cond.fieldLink RX3 27 "WindPost$Text" "items" "I", Cond.fieldLink RX3 30 "WindPost$Text" "forceTold" "Z", Cond.fieldLink RX3 37 "WindPost$Text" "token" "I", Cond.fieldLink RX3 44 "WindPost$Text" "place" "I", Cond.methodLink RX3 19 yX0_untell, Cond.instanceMethod yX0_untell, Cond.selects RX0 yX0_untell yX0_untell, Cond.initialized RX0, Cond.code yX0_untell cX0_untell 2 none, Cond.fieldLink RX0 30 "WindPost$Chart" "wide" "I", Cond.fieldLink RX0 34 "WindPost$Chart" "high" "I", Cond.fieldLink RX0 37 "WindPost$Chart" "force" "I", Cond.fieldLink RX0 40 "WindPost$Chart" "isles" "I", Cond.fieldLink RX0 43 "WindPost$Chart" "hills" "I", Cond.fieldLink RX0 46 "WindPost$Chart" "told" "I", Cond.fieldLink RX0 15 "WindPost$Chart" "holds" "[I", Cond.methodLink RX3 34 yX3_step, Cond.instanceMethod yX3_step, Cond.selects RX3 yX3_step yX3_step, Cond.initialized RX3, Cond.code yX3_step cX3_step 3 none, Cond.fieldLink RX3 15 "WindPost$Text" "length" "I", Cond.fieldLink RX3 9 "WindPost$Text" "signs" "[I"]
def wsX3_readInto_r2 : List Cond := [Cond.fieldLink RX3 72 "WindPost$Text" "number" "I", Cond.methodLink RX3 117 Lib.Math.min.name, Cond.static Lib.Math.min.name, Cond.initialized "java/lang/Math", Cond.code Lib.Math.min.name Lib.Math.min.code 2 (some .int), Cond.methodLink RX3 113 yX3_isDigit, Cond.static yX3_isDigit, Cond.code yX3_isDigit cX3_isDigit 1 (some .boolean), Cond.methodLink RX3 123 yX3_isSign, Cond.static yX3_isSign, Cond.code yX3_isSign cX3_isSign 1 (some .boolean), Cond.methodLink RX3 40 yX3_readItem, Cond.instanceMethod yX3_readItem, Cond.selects RX3 yX3_readItem yX3_readItem, Cond.code yX3_readItem cX3_readItem 2 (some .boolean), Cond.fieldLink RX3 50 "WindPost$Chart" "isles" "I", Cond.fieldLink RX3 56 "WindPost$Chart" "hills" "I", Cond.methodLink RX3 47 yX3_readSize, Cond.instanceMethod yX3_readSize, Cond.selects RX3 yX3_readSize yX3_readSize, Cond.code yX3_readSize cX3_readSize 2 (some .boolean), Cond.fieldLink RX3 75 "WindPost$Chart" "wide" "I", Cond.fieldLink RX3 78 "WindPost$Chart" "high" "I", Cond.methodLink RX3 68 yX3_stepsToNumber]
def wsX3_readInto_r3 : List Cond := [Cond.instanceMethod yX3_stepsToNumber, Cond.selects RX3 yX3_stepsToNumber yX3_stepsToNumber, Cond.code yX3_stepsToNumber cX3_stepsToNumber 3 (some .boolean), Cond.static yX4_isWithin, Cond.initialized RX4, Cond.code yX4_isWithin cX4_isWithin 3 (some .boolean), Cond.methodLink RX3 81 yX3_stepsToEnd, Cond.instanceMethod yX3_stepsToEnd, Cond.selects RX3 yX3_stepsToEnd yX3_stepsToEnd, Cond.code yX3_stepsToEnd cX3_stepsToEnd 1 (some .boolean), Cond.methodLink RX3 53 yX3_readIsle, Cond.instanceMethod yX3_readIsle, Cond.selects RX3 yX3_readIsle yX3_readIsle, Cond.code yX3_readIsle cX3_readIsle 2 (some .boolean), Cond.methodLink RX3 85 yX0_cells, Cond.instanceMethod yX0_cells, Cond.selects RX0 yX0_cells yX0_cells, Cond.code yX0_cells cX0_cells 1 (some .int), Cond.methodLink RX0 49 Lib.Math.min.name, Cond.methodLink RX3 89 yX0_onCell, Cond.instanceMethod yX0_onCell, Cond.selects RX0 yX0_onCell yX0_onCell, Cond.code yX0_onCell cX0_onCell 2 (some .int), Cond.methodLink RX3 93 yX0_addIsle]
def wsX3_readInto_r4 : List Cond := [Cond.instanceMethod yX0_addIsle, Cond.selects RX0 yX0_addIsle yX0_addIsle, Cond.code yX0_addIsle cX0_addIsle 2 none, Cond.fieldLink RX0 9 "WindPost$Chart" "isleCells" "[I", Cond.methodLink RX3 59 yX3_readHill, Cond.instanceMethod yX3_readHill, Cond.selects RX3 yX3_readHill yX3_readHill, Cond.code yX3_readHill cX3_readHill 2 (some .boolean), Cond.methodLink RX3 97 yX0_addHill, Cond.instanceMethod yX0_addHill, Cond.selects RX0 yX0_addHill yX0_addHill, Cond.code yX0_addHill cX0_addHill 2 none, Cond.methodLink RX3 62 yX3_readWinds, Cond.instanceMethod yX3_readWinds, Cond.selects RX3 yX3_readWinds yX3_readWinds, Cond.code yX3_readWinds cX3_readWinds 3 (some .boolean), Cond.fieldLink RX3 103 "WindPost$Chart" "told" "I", Cond.methodLink RX3 106 yX0_addWind, Cond.instanceMethod yX0_addWind, Cond.selects RX0 yX0_addWind yX0_addWind, Cond.code yX0_addWind cX0_addWind 2 none, Cond.fieldLink RX0 18 "WindPost$Chart" "winds" "[I", Cond.methodLink RX3 65 yX3_readForce, Cond.instanceMethod yX3_readForce]
def wsX3_readInto_r5 : List Cond := [Cond.selects RX3 yX3_readForce yX3_readForce, Cond.code yX3_readForce cX3_readForce 2 (some .boolean), Cond.fieldLink RX3 100 "WindPost$Chart" "force" "I"]
def wsX3_readInto : List Cond := .code yX3_readInto cX3_readInto 3 (some .int) :: ((wsX3_readInto_r1 ++ (wsX3_readInto_r2 ++ (wsX3_readInto_r3 ++ (wsX3_readInto_r4 ++ wsX3_readInto_r5)))) ++ wsX30 ++ wsX00)
def wsX4_init_r1 : List Cond := [Cond.methodLink RX4 1 objectInit, Cond.instanceMethod objectInit, Cond.code objectInit ⟨#[0xb1]⟩ 1 none, Cond.classLink RX4 7 RX3, Cond.instantiable RX3 8, Cond.initialized RX3, Cond.fieldLink RX4 10 "WindPost" "text" "LWindPost$Text;", Cond.classLink RX4 16 RX0, Cond.instantiable RX0 10, Cond.initialized RX0, Cond.fieldLink RX4 19 "WindPost" "chart" "LWindPost$Chart;", Cond.fieldLink RX4 23 "WindPost" "draft" "LWindPost$Chart;", Cond.classLink RX4 26 RX2, Cond.instantiable RX2 6, Cond.initialized RX2, Cond.fieldLink RX4 29 "WindPost" "now" "LWindPost$Moment;", Cond.fieldLink RX4 33 "WindPost" "past" "[LWindPost$Moment;", Cond.fieldLink RX4 37 "WindPost" "images" "[LWindPost$Moment;", Cond.arrayClass .boolean, Cond.fieldLink RX4 40 "WindPost" "kept" "[Z", Cond.classLink RX4 44 RX1, Cond.instantiable RX1 7, Cond.initialized RX1, Cond.fieldLink RX4 47 "WindPost" "probe" "LWindPost$Letter;"]
def wsX4_init_r2 : List Cond := [Cond.fieldLink RX4 51 "WindPost" "second" "LWindPost$Letter;", Cond.instanceMethod yX3_init, Cond.code yX3_init cX3_init 1 none, Cond.methodLink RX3 3 objectInit, Cond.arrayClass .int, Cond.fieldLink RX3 9 "WindPost$Text" "signs" "[I", Cond.methodLink RX4 18 yX0_init, Cond.instanceMethod yX0_init, Cond.code yX0_init cX0_init 1 none, Cond.methodLink RX0 3 objectInit, Cond.fieldLink RX0 9 "WindPost$Chart" "isleCells" "[I", Cond.fieldLink RX0 15 "WindPost$Chart" "holds" "[I", Cond.fieldLink RX0 18 "WindPost$Chart" "winds" "[I", Cond.fieldLink RX0 21 "WindPost$Chart" "ends" "[I", Cond.methodLink RX0 24 yX0_untell, Cond.instanceMethod yX0_untell, Cond.selects RX0 yX0_untell yX0_untell, Cond.code yX0_untell cX0_untell 2 none, Cond.fieldLink RX0 30 "WindPost$Chart" "wide" "I", Cond.fieldLink RX0 34 "WindPost$Chart" "high" "I", Cond.fieldLink RX0 37 "WindPost$Chart" "force" "I", Cond.fieldLink RX0 40 "WindPost$Chart" "isles" "I", Cond.fieldLink RX0 43 "WindPost$Chart" "hills" "I", Cond.fieldLink RX0 46 "WindPost$Chart" "told" "I"]
def wsX4_init_r3 : List Cond := [Cond.methodLink RX0 27 yX0_drawEnds, Cond.instanceMethod yX0_drawEnds, Cond.selects RX0 yX0_drawEnds yX0_drawEnds, Cond.code yX0_drawEnds cX0_drawEnds 3 none, Cond.methodLink RX0 55 yX0_cells, Cond.instanceMethod yX0_cells, Cond.selects RX0 yX0_cells yX0_cells, Cond.code yX0_cells cX0_cells 1 (some .int), Cond.methodLink RX0 49 Lib.Math.min.name, Cond.static Lib.Math.min.name, Cond.initialized "java/lang/Math", Cond.code Lib.Math.min.name Lib.Math.min.code 2 (some .int), Cond.methodLink RX0 59 yX0_drawWay, Cond.instanceMethod yX0_drawWay, Cond.selects RX0 yX0_drawWay yX0_drawWay, Cond.code yX0_drawWay cX0_drawWay 7 none, Cond.methodLink RX0 63 yX0_beside, Cond.instanceMethod yX0_beside, Cond.selects RX0 yX0_beside yX0_beside, Cond.code yX0_beside cX0_beside 5 (some .int), Cond.methodLink RX0 66 yX0_onCell, Cond.instanceMethod yX0_onCell, Cond.selects RX0 yX0_onCell yX0_onCell, Cond.code yX0_onCell cX0_onCell 2 (some .int)]
def wsX4_init_r4 : List Cond := [Cond.methodLink RX4 28 yX2_init, Cond.instanceMethod yX2_init, Cond.code yX2_init cX2_init 2 none, Cond.methodLink RX2 3 objectInit, Cond.fieldLink RX2 9 "WindPost$Moment" "winds" "[I", Cond.classLink RX2 15 RX1, Cond.fieldLink RX2 17 "WindPost$Moment" "post" "[LWindPost$Letter;", Cond.instanceMethod yX1_init, Cond.code yX1_init cX1_init 1 none, Cond.methodLink RX1 3 objectInit]
def wsX4_init : List Cond := .code yX4_init cX4_init 2 none :: ((wsX4_init_r1 ++ (wsX4_init_r2 ++ (wsX4_init_r3 ++ wsX4_init_r4))) ++ wsX30 ++ wsX40 ++ wsX00 ++ wsX20 ++ wsX10)
def wsX4_type : List Cond := .code yX4_type cX4_type 2 (some .int) :: ([.fieldLink RX4 10 "WindPost" "text" "LWindPost$Text;", .fieldLink RX4 58 "WindPost$Text" "length" "I", .methodLink RX4 54 yX4_isWithin, .static yX4_isWithin, .initialized RX4, .code yX4_isWithin cX4_isWithin 3 (some .boolean), .methodLink RX4 62 yX3_add, .instanceMethod yX3_add, .selects RX3 yX3_add yX3_add, .initialized RX3, .code yX3_add cX3_add 2 none, .fieldLink RX3 15 "WindPost$Text" "length" "I", .fieldLink RX3 9 "WindPost$Text" "signs" "[I"] ++ wsX40 ++ wsX30)
def wsX4_clear : List Cond := .code yX4_clear cX4_clear 2 (some .int) :: ([.fieldLink RX4 10 "WindPost" "text" "LWindPost$Text;", .fieldLink RX4 58 "WindPost$Text" "length" "I"] ++ wsX40 ++ wsX30)
def wsX4_sea_r1 : List Cond := [Cond.fieldLink RX4 10 "WindPost" "text" "LWindPost$Text;", Cond.fieldLink RX4 23 "WindPost" "draft" "LWindPost$Chart;", Cond.fieldLink RX4 19 "WindPost" "chart" "LWindPost$Chart;", Cond.fieldLink RX4 58 "WindPost$Text" "length" "I", Cond.fieldLink RX4 29 "WindPost" "now" "LWindPost$Moment;", Cond.fieldLink RX4 77 "WindPost" "pastKnown" "I", Cond.fieldLink RX4 40 "WindPost" "kept" "[Z", Cond.methodLink RX4 66 yX3_readInto, Cond.instanceMethod yX3_readInto, Cond.selects RX3 yX3_readInto yX3_readInto, Cond.initialized RX3, Cond.code yX3_readInto cX3_readInto 3 (some .int), Cond.fieldLink RX3 24 "WindPost$Text" "next" "I", Cond.fieldLink RX3 27 "WindPost$Text" "items" "I", Cond.fieldLink RX3 30 "WindPost$Text" "forceTold" "Z", Cond.fieldLink RX3 37 "WindPost$Text" "token" "I", Cond.fieldLink RX3 44 "WindPost$Text" "place" "I", Cond.methodLink RX3 19 yX0_untell, Cond.instanceMethod yX0_untell, Cond.selects RX0 yX0_untell yX0_untell, Cond.initialized RX0, Cond.code yX0_untell cX0_untell 2 none, Cond.fieldLink RX0 30 "WindPost$Chart" "wide" "I", Cond.fieldLink RX0 34 "WindPost$Chart" "high" "I"]
def wsX4_sea_r2 : List Cond := [Cond.fieldLink RX0 37 "WindPost$Chart" "force" "I", Cond.fieldLink RX0 40 "WindPost$Chart" "isles" "I", Cond.fieldLink RX0 43 "WindPost$Chart" "hills" "I", Cond.fieldLink RX0 46 "WindPost$Chart" "told" "I", Cond.fieldLink RX0 15 "WindPost$Chart" "holds" "[I", Cond.methodLink RX3 34 yX3_step, Cond.instanceMethod yX3_step, Cond.selects RX3 yX3_step yX3_step, Cond.code yX3_step cX3_step 3 none, Cond.fieldLink RX3 15 "WindPost$Text" "length" "I", Cond.fieldLink RX3 9 "WindPost$Text" "signs" "[I", Cond.fieldLink RX3 72 "WindPost$Text" "number" "I", Cond.methodLink RX3 117 Lib.Math.min.name, Cond.static Lib.Math.min.name, Cond.initialized "java/lang/Math", Cond.code Lib.Math.min.name Lib.Math.min.code 2 (some .int), Cond.methodLink RX3 113 yX3_isDigit, Cond.static yX3_isDigit, Cond.code yX3_isDigit cX3_isDigit 1 (some .boolean), Cond.methodLink RX3 123 yX3_isSign, Cond.static yX3_isSign, Cond.code yX3_isSign cX3_isSign 1 (some .boolean), Cond.methodLink RX3 40 yX3_readItem, Cond.instanceMethod yX3_readItem]
def wsX4_sea_r3 : List Cond := [Cond.selects RX3 yX3_readItem yX3_readItem, Cond.code yX3_readItem cX3_readItem 2 (some .boolean), Cond.fieldLink RX3 50 "WindPost$Chart" "isles" "I", Cond.fieldLink RX3 56 "WindPost$Chart" "hills" "I", Cond.methodLink RX3 47 yX3_readSize, Cond.instanceMethod yX3_readSize, Cond.selects RX3 yX3_readSize yX3_readSize, Cond.code yX3_readSize cX3_readSize 2 (some .boolean), Cond.fieldLink RX3 75 "WindPost$Chart" "wide" "I", Cond.fieldLink RX3 78 "WindPost$Chart" "high" "I", Cond.methodLink RX3 68 yX3_stepsToNumber, Cond.instanceMethod yX3_stepsToNumber, Cond.selects RX3 yX3_stepsToNumber yX3_stepsToNumber, Cond.code yX3_stepsToNumber cX3_stepsToNumber 3 (some .boolean), Cond.static yX4_isWithin, Cond.initialized RX4, Cond.code yX4_isWithin cX4_isWithin 3 (some .boolean), Cond.methodLink RX3 81 yX3_stepsToEnd, Cond.instanceMethod yX3_stepsToEnd, Cond.selects RX3 yX3_stepsToEnd yX3_stepsToEnd, Cond.code yX3_stepsToEnd cX3_stepsToEnd 1 (some .boolean), Cond.methodLink RX3 53 yX3_readIsle, Cond.instanceMethod yX3_readIsle, Cond.selects RX3 yX3_readIsle yX3_readIsle]
def wsX4_sea_r4 : List Cond := [Cond.code yX3_readIsle cX3_readIsle 2 (some .boolean), Cond.methodLink RX3 85 yX0_cells, Cond.instanceMethod yX0_cells, Cond.selects RX0 yX0_cells yX0_cells, Cond.code yX0_cells cX0_cells 1 (some .int), Cond.methodLink RX0 49 Lib.Math.min.name, Cond.methodLink RX3 89 yX0_onCell, Cond.instanceMethod yX0_onCell, Cond.selects RX0 yX0_onCell yX0_onCell, Cond.code yX0_onCell cX0_onCell 2 (some .int), Cond.methodLink RX3 93 yX0_addIsle, Cond.instanceMethod yX0_addIsle, Cond.selects RX0 yX0_addIsle yX0_addIsle, Cond.code yX0_addIsle cX0_addIsle 2 none, Cond.fieldLink RX0 9 "WindPost$Chart" "isleCells" "[I", Cond.methodLink RX3 59 yX3_readHill, Cond.instanceMethod yX3_readHill, Cond.selects RX3 yX3_readHill yX3_readHill, Cond.code yX3_readHill cX3_readHill 2 (some .boolean), Cond.methodLink RX3 97 yX0_addHill, Cond.instanceMethod yX0_addHill, Cond.selects RX0 yX0_addHill yX0_addHill, Cond.code yX0_addHill cX0_addHill 2 none, Cond.methodLink RX3 62 yX3_readWinds]
def wsX4_sea_r5 : List Cond := [Cond.instanceMethod yX3_readWinds, Cond.selects RX3 yX3_readWinds yX3_readWinds, Cond.code yX3_readWinds cX3_readWinds 3 (some .boolean), Cond.fieldLink RX3 103 "WindPost$Chart" "told" "I", Cond.methodLink RX3 106 yX0_addWind, Cond.instanceMethod yX0_addWind, Cond.selects RX0 yX0_addWind yX0_addWind, Cond.code yX0_addWind cX0_addWind 2 none, Cond.fieldLink RX0 18 "WindPost$Chart" "winds" "[I", Cond.methodLink RX3 65 yX3_readForce, Cond.instanceMethod yX3_readForce, Cond.selects RX3 yX3_readForce yX3_readForce, Cond.code yX3_readForce cX3_readForce 2 (some .boolean), Cond.fieldLink RX3 100 "WindPost$Chart" "force" "I", Cond.methodLink RX4 70 yX0_drawEnds, Cond.instanceMethod yX0_drawEnds, Cond.selects RX0 yX0_drawEnds yX0_drawEnds, Cond.code yX0_drawEnds cX0_drawEnds 3 none, Cond.methodLink RX0 55 yX0_cells, Cond.methodLink RX0 59 yX0_drawWay, Cond.instanceMethod yX0_drawWay, Cond.selects RX0 yX0_drawWay yX0_drawWay, Cond.code yX0_drawWay cX0_drawWay 7 none, Cond.fieldLink RX0 21 "WindPost$Chart" "ends" "[I"]
def wsX4_sea_r6 : List Cond := [Cond.methodLink RX0 63 yX0_beside, Cond.instanceMethod yX0_beside, Cond.selects RX0 yX0_beside yX0_beside, Cond.code yX0_beside cX0_beside 5 (some .int), Cond.methodLink RX0 66 yX0_onCell, Cond.methodLink RX4 73 yX2_beginAnew, Cond.instanceMethod yX2_beginAnew, Cond.selects RX2 yX2_beginAnew yX2_beginAnew, Cond.initialized RX2, Cond.code yX2_beginAnew cX2_beginAnew 3 none, Cond.fieldLink RX2 22 "WindPost$Moment" "time" "I", Cond.fieldLink RX2 26 "WindPost$Moment" "letters" "I", Cond.fieldLink RX2 29 "WindPost$Moment" "nets" "I", Cond.fieldLink RX2 32 "WindPost$Chart" "told" "I", Cond.fieldLink RX2 37 "WindPost$Moment" "told" "I", Cond.fieldLink RX2 9 "WindPost$Moment" "winds" "[I", Cond.fieldLink RX2 38 "WindPost$Chart" "winds" "[I"]
def wsX4_sea : List Cond := .code yX4_sea cX4_sea 4 (some .int) :: ((wsX4_sea_r1 ++ (wsX4_sea_r2 ++ (wsX4_sea_r3 ++ (wsX4_sea_r4 ++ (wsX4_sea_r5 ++ wsX4_sea_r6))))) ++ wsX40 ++ wsX30 ++ wsX00 ++ wsX20)
def wsX4_isIsle : List Cond := .code yX4_isIsle cX4_isIsle 2 (some .boolean) :: ([.fieldLink RX4 19 "WindPost" "chart" "LWindPost$Chart;", .fieldLink RX4 194 "WindPost$Chart" "isles" "I", .methodLink RX4 54 yX4_isWithin, .static yX4_isWithin, .initialized RX4, .code yX4_isWithin cX4_isWithin 3 (some .boolean)] ++ wsX40 ++ wsX00)
def wsX4_isle : List Cond := .code yX4_isle cX4_isle 3 (some .int) :: ([.fieldLink RX4 19 "WindPost" "chart" "LWindPost$Chart;", .fieldLink RX4 84 "WindPost$Chart" "isleCells" "[I", .fieldLink RX4 29 "WindPost" "now" "LWindPost$Moment;", .fieldLink RX4 88 "WindPost$Moment" "nets" "I", .methodLink RX4 80 yX4_isIsle, .instanceMethod yX4_isIsle, .selects RX4 yX4_isIsle yX4_isIsle, .initialized RX4, .code yX4_isIsle cX4_isIsle 2 (some .boolean), .fieldLink RX4 194 "WindPost$Chart" "isles" "I", .methodLink RX4 54 yX4_isWithin, .static yX4_isWithin, .code yX4_isWithin cX4_isWithin 3 (some .boolean), .methodLink RX4 91 yX4_bitOf, .static yX4_bitOf, .code yX4_bitOf cX4_bitOf 2 (some .int)] ++ wsX40 ++ wsX00 ++ wsX20)
def wsX4_cell : List Cond := .code yX4_cell cX4_cell 2 (some .int) :: ([.fieldLink RX4 19 "WindPost" "chart" "LWindPost$Chart;", .fieldLink RX4 99 "WindPost$Chart" "holds" "[I", .methodLink RX4 95 yX0_cells, .instanceMethod yX0_cells, .selects RX0 yX0_cells yX0_cells, .initialized RX0, .code yX0_cells cX0_cells 1 (some .int), .fieldLink RX0 30 "WindPost$Chart" "wide" "I", .fieldLink RX0 34 "WindPost$Chart" "high" "I", .methodLink RX0 49 Lib.Math.min.name, .static Lib.Math.min.name, .initialized "java/lang/Math", .code Lib.Math.min.name Lib.Math.min.code 2 (some .int), .methodLink RX4 54 yX4_isWithin, .static yX4_isWithin, .initialized RX4, .code yX4_isWithin cX4_isWithin 3 (some .boolean)] ++ wsX40 ++ wsX00)
def wsX4_wind : List Cond := .code yX4_wind cX4_wind 2 (some .int) :: ([.fieldLink RX4 29 "WindPost" "now" "LWindPost$Moment;", .fieldLink RX4 102 "WindPost$Moment" "time" "I", .methodLink RX4 54 yX4_isWithin, .static yX4_isWithin, .initialized RX4, .code yX4_isWithin cX4_isWithin 3 (some .boolean), .methodLink RX4 105 yX2_windOf, .instanceMethod yX2_windOf, .selects RX2 yX2_windOf yX2_windOf, .initialized RX2, .code yX2_windOf cX2_windOf 2 (some .int), .fieldLink RX2 37 "WindPost$Moment" "told" "I", .fieldLink RX2 9 "WindPost$Moment" "winds" "[I", .methodLink RX2 43 yJ9_floorMod_7cf53, .static yJ9_floorMod_7cf53, .initialized RJ9, .code yJ9_floorMod_7cf53 cJ9_floorMod_7cf53 3 (some .int)] ++ wsX40 ++ wsX20)
def wsX4_isLetter : List Cond := .code yX4_isLetter cX4_isLetter 2 (some .boolean) :: ([.fieldLink RX4 29 "WindPost" "now" "LWindPost$Moment;", .fieldLink RX4 134 "WindPost$Moment" "letters" "I", .methodLink RX4 54 yX4_isWithin, .static yX4_isWithin, .initialized RX4, .code yX4_isWithin cX4_isWithin 3 (some .boolean)] ++ wsX40 ++ wsX20)
def wsX4_letter : List Cond := .code yX4_letter cX4_letter 4 (some .int) :: ([.fieldLink RX4 29 "WindPost" "now" "LWindPost$Moment;", .fieldLink RX4 112 "WindPost$Moment" "post" "[LWindPost$Letter;", .fieldLink RX4 116 "WindPost$Letter" "weight" "I", .fieldLink RX4 119 "WindPost$Letter" "from" "I", .fieldLink RX4 122 "WindPost$Letter" "to" "I", .fieldLink RX4 125 "WindPost$Letter" "place" "I", .fieldLink RX4 128 "WindPost$Letter" "marks" "I", .fieldLink RX4 131 "WindPost$Letter" "how" "I", .methodLink RX4 109 yX4_isLetter, .instanceMethod yX4_isLetter, .selects RX4 yX4_isLetter yX4_isLetter, .initialized RX4, .code yX4_isLetter cX4_isLetter 2 (some .boolean), .fieldLink RX4 134 "WindPost$Moment" "letters" "I", .methodLink RX4 54 yX4_isWithin, .static yX4_isWithin, .code yX4_isWithin cX4_isWithin 3 (some .boolean)] ++ wsX40 ++ wsX20 ++ wsX10)
def wsX4_now : List Cond := .code yX4_now cX4_now 2 (some .int) :: ([.fieldLink RX4 29 "WindPost" "now" "LWindPost$Moment;", .fieldLink RX4 102 "WindPost$Moment" "time" "I", .fieldLink RX4 134 "WindPost$Moment" "letters" "I", .fieldLink RX4 88 "WindPost$Moment" "nets" "I", .fieldLink RX4 77 "WindPost" "pastKnown" "I", .methodLink RX4 137 yX2_lettersUp, .instanceMethod yX2_lettersUp, .selects RX2 yX2_lettersUp yX2_lettersUp, .initialized RX2, .code yX2_lettersUp cX2_lettersUp 3 (some .int), .fieldLink RX2 26 "WindPost$Moment" "letters" "I", .fieldLink RX2 17 "WindPost$Moment" "post" "[LWindPost$Letter;", .fieldLink RX2 49 "WindPost$Letter" "how" "I"] ++ wsX40 ++ wsX20 ++ wsX10)
def wsX4_isWay : List Cond := .code yX4_isWay cX4_isWay 3 (some .boolean) :: ([.methodLink RX4 80 yX4_isIsle, .instanceMethod yX4_isIsle, .selects RX4 yX4_isIsle yX4_isIsle, .initialized RX4, .code yX4_isIsle cX4_isIsle 2 (some .boolean), .fieldLink RX4 19 "WindPost" "chart" "LWindPost$Chart;", .fieldLink RX4 194 "WindPost$Chart" "isles" "I", .methodLink RX4 54 yX4_isWithin, .static yX4_isWithin, .code yX4_isWithin cX4_isWithin 3 (some .boolean)] ++ wsX40 ++ wsX00)
def wsX4_isWeight : List Cond := .code yX4_isWeight cX4_isWeight 1 (some .boolean) :: ([.methodLink RX4 54 yX4_isWithin, .static yX4_isWithin, .initialized RX4, .code yX4_isWithin cX4_isWithin 3 (some .boolean)])
def wsX4_remember_r1 : List Cond := [Cond.fieldLink RX4 33 "WindPost" "past" "[LWindPost$Moment;", Cond.fieldLink RX4 164 "WindPost" "pastNext" "I", Cond.fieldLink RX4 29 "WindPost" "now" "LWindPost$Moment;", Cond.fieldLink RX4 77 "WindPost" "pastKnown" "I", Cond.methodLink RX4 254 Lib.Math.min.name, Cond.static Lib.Math.min.name, Cond.initialized "java/lang/Math", Cond.code Lib.Math.min.name Lib.Math.min.code 2 (some .int), Cond.methodLink RX4 167 yX2_copyFrom, Cond.instanceMethod yX2_copyFrom, Cond.selects RX2 yX2_copyFrom yX2_copyFrom, Cond.initialized RX2, Cond.code yX2_copyFrom cX2_copyFrom 3 none, Cond.fieldLink RX2 22 "WindPost$Moment" "time" "I", Cond.fieldLink RX2 26 "WindPost$Moment" "letters" "I", Cond.fieldLink RX2 29 "WindPost$Moment" "nets" "I", Cond.fieldLink RX2 37 "WindPost$Moment" "told" "I", Cond.fieldLink RX2 9 "WindPost$Moment" "winds" "[I", Cond.fieldLink RX2 17 "WindPost$Moment" "post" "[LWindPost$Letter;", Cond.methodLink RX2 39 yX1_copyFrom, Cond.instanceMethod yX1_copyFrom, Cond.selects RX1 yX1_copyFrom yX1_copyFrom, Cond.initialized RX1, Cond.code yX1_copyFrom cX1_copyFrom 2 none]
def wsX4_remember_r2 : List Cond := [Cond.fieldLink RX1 9 "WindPost$Letter" "weight" "I", Cond.fieldLink RX1 15 "WindPost$Letter" "from" "I", Cond.fieldLink RX1 18 "WindPost$Letter" "to" "I", Cond.fieldLink RX1 27 "WindPost$Letter" "place" "I", Cond.fieldLink RX1 30 "WindPost$Letter" "marks" "I", Cond.fieldLink RX1 33 "WindPost$Letter" "how" "I", Cond.fieldLink RX1 39 "WindPost$Letter" "reach" "I"]
def wsX4_remember : List Cond := .code yX4_remember cX4_remember 1 none :: ((wsX4_remember_r1 ++ wsX4_remember_r2) ++ wsX40 ++ wsX20 ++ wsX10)
def wsX4_lets_r1 : List Cond := [Cond.fieldLink RX4 29 "WindPost" "now" "LWindPost$Moment;", Cond.fieldLink RX4 134 "WindPost$Moment" "letters" "I", Cond.fieldLink RX4 112 "WindPost$Moment" "post" "[LWindPost$Letter;", Cond.fieldLink RX4 19 "WindPost" "chart" "LWindPost$Chart;", Cond.methodLink RX4 140 yX4_isWay, Cond.instanceMethod yX4_isWay, Cond.selects RX4 yX4_isWay yX4_isWay, Cond.initialized RX4, Cond.code yX4_isWay cX4_isWay 3 (some .boolean), Cond.methodLink RX4 80 yX4_isIsle, Cond.instanceMethod yX4_isIsle, Cond.selects RX4 yX4_isIsle yX4_isIsle, Cond.code yX4_isIsle cX4_isIsle 2 (some .boolean), Cond.fieldLink RX4 194 "WindPost$Chart" "isles" "I", Cond.methodLink RX4 54 yX4_isWithin, Cond.static yX4_isWithin, Cond.code yX4_isWithin cX4_isWithin 3 (some .boolean), Cond.methodLink RX4 144 yX4_isWeight, Cond.static yX4_isWeight, Cond.code yX4_isWeight cX4_isWeight 1 (some .boolean), Cond.methodLink RX4 147 yX4_remember, Cond.instanceMethod yX4_remember, Cond.selects RX4 yX4_remember yX4_remember, Cond.code yX4_remember cX4_remember 1 none]
def wsX4_lets_r2 : List Cond := [Cond.fieldLink RX4 33 "WindPost" "past" "[LWindPost$Moment;", Cond.fieldLink RX4 164 "WindPost" "pastNext" "I", Cond.fieldLink RX4 77 "WindPost" "pastKnown" "I", Cond.methodLink RX4 254 Lib.Math.min.name, Cond.static Lib.Math.min.name, Cond.initialized "java/lang/Math", Cond.code Lib.Math.min.name Lib.Math.min.code 2 (some .int), Cond.methodLink RX4 167 yX2_copyFrom, Cond.instanceMethod yX2_copyFrom, Cond.selects RX2 yX2_copyFrom yX2_copyFrom, Cond.initialized RX2, Cond.code yX2_copyFrom cX2_copyFrom 3 none, Cond.fieldLink RX2 22 "WindPost$Moment" "time" "I", Cond.fieldLink RX2 26 "WindPost$Moment" "letters" "I", Cond.fieldLink RX2 29 "WindPost$Moment" "nets" "I", Cond.fieldLink RX2 37 "WindPost$Moment" "told" "I", Cond.fieldLink RX2 9 "WindPost$Moment" "winds" "[I", Cond.fieldLink RX2 17 "WindPost$Moment" "post" "[LWindPost$Letter;", Cond.methodLink RX2 39 yX1_copyFrom, Cond.instanceMethod yX1_copyFrom, Cond.selects RX1 yX1_copyFrom yX1_copyFrom, Cond.initialized RX1, Cond.code yX1_copyFrom cX1_copyFrom 2 none, Cond.fieldLink RX1 9 "WindPost$Letter" "weight" "I"]
def wsX4_lets_r3 : List Cond := [Cond.fieldLink RX1 15 "WindPost$Letter" "from" "I", Cond.fieldLink RX1 18 "WindPost$Letter" "to" "I", Cond.fieldLink RX1 27 "WindPost$Letter" "place" "I", Cond.fieldLink RX1 30 "WindPost$Letter" "marks" "I", Cond.fieldLink RX1 33 "WindPost$Letter" "how" "I", Cond.fieldLink RX1 39 "WindPost$Letter" "reach" "I", Cond.methodLink RX4 150 yX1_letUp, Cond.instanceMethod yX1_letUp, Cond.selects RX1 yX1_letUp yX1_letUp, Cond.code yX1_letUp cX1_letUp 5 none, Cond.fieldLink RX1 36 "WindPost$Chart" "force" "I", Cond.methodLink RX1 21 yX0_cellOfIsle, Cond.instanceMethod yX0_cellOfIsle, Cond.selects RX0 yX0_cellOfIsle yX0_cellOfIsle, Cond.initialized RX0, Cond.code yX0_cellOfIsle cX0_cellOfIsle 2 (some .int), Cond.fieldLink RX0 9 "WindPost$Chart" "isleCells" "[I"]
def wsX4_lets : List Cond := .code yX4_lets cX4_lets 5 (some .int) :: ((wsX4_lets_r1 ++ (wsX4_lets_r2 ++ wsX4_lets_r3)) ++ wsX40 ++ wsX20 ++ wsX00 ++ wsX10)
def wsX4_hour_r1 : List Cond := [Cond.fieldLink RX4 29 "WindPost" "now" "LWindPost$Moment;", Cond.fieldLink RX4 102 "WindPost$Moment" "time" "I", Cond.fieldLink RX4 134 "WindPost$Moment" "letters" "I", Cond.fieldLink RX4 112 "WindPost$Moment" "post" "[LWindPost$Letter;", Cond.fieldLink RX4 131 "WindPost$Letter" "how" "I", Cond.fieldLink RX4 19 "WindPost" "chart" "LWindPost$Chart;", Cond.fieldLink RX4 88 "WindPost$Moment" "nets" "I", Cond.methodLink RX4 147 yX4_remember, Cond.instanceMethod yX4_remember, Cond.selects RX4 yX4_remember yX4_remember, Cond.initialized RX4, Cond.code yX4_remember cX4_remember 1 none, Cond.fieldLink RX4 33 "WindPost" "past" "[LWindPost$Moment;", Cond.fieldLink RX4 164 "WindPost" "pastNext" "I", Cond.fieldLink RX4 77 "WindPost" "pastKnown" "I", Cond.methodLink RX4 254 Lib.Math.min.name, Cond.static Lib.Math.min.name, Cond.initialized "java/lang/Math", Cond.code Lib.Math.min.name Lib.Math.min.code 2 (some .int), Cond.methodLink RX4 167 yX2_copyFrom, Cond.instanceMethod yX2_copyFrom, Cond.selects RX2 yX2_copyFrom yX2_copyFrom, Cond.initialized RX2, Cond.code yX2_copyFrom cX2_copyFrom 3 none]
def wsX4_hour_r2 : List Cond := [Cond.fieldLink RX2 22 "WindPost$Moment" "time" "I", Cond.fieldLink RX2 26 "WindPost$Moment" "letters" "I", Cond.fieldLink RX2 29 "WindPost$Moment" "nets" "I", Cond.fieldLink RX2 37 "WindPost$Moment" "told" "I", Cond.fieldLink RX2 9 "WindPost$Moment" "winds" "[I", Cond.fieldLink RX2 17 "WindPost$Moment" "post" "[LWindPost$Letter;", Cond.methodLink RX2 39 yX1_copyFrom, Cond.instanceMethod yX1_copyFrom, Cond.selects RX1 yX1_copyFrom yX1_copyFrom, Cond.initialized RX1, Cond.code yX1_copyFrom cX1_copyFrom 2 none, Cond.fieldLink RX1 9 "WindPost$Letter" "weight" "I", Cond.fieldLink RX1 15 "WindPost$Letter" "from" "I", Cond.fieldLink RX1 18 "WindPost$Letter" "to" "I", Cond.fieldLink RX1 27 "WindPost$Letter" "place" "I", Cond.fieldLink RX1 30 "WindPost$Letter" "marks" "I", Cond.fieldLink RX1 33 "WindPost$Letter" "how" "I", Cond.fieldLink RX1 39 "WindPost$Letter" "reach" "I", Cond.methodLink RX4 105 yX2_windOf, Cond.instanceMethod yX2_windOf, Cond.selects RX2 yX2_windOf yX2_windOf, Cond.code yX2_windOf cX2_windOf 2 (some .int), Cond.methodLink RX2 43 yJ9_floorMod_7cf53, Cond.static yJ9_floorMod_7cf53]
def wsX4_hour_r3 : List Cond := [Cond.initialized RJ9, Cond.code yJ9_floorMod_7cf53 cJ9_floorMod_7cf53 3 (some .int), Cond.methodLink RX4 154 yX1_passHour, Cond.instanceMethod yX1_passHour, Cond.selects RX1 yX1_passHour yX1_passHour, Cond.code yX1_passHour cX1_passHour 6 none, Cond.methodLink RX1 42 yX0_endOf, Cond.instanceMethod yX0_endOf, Cond.selects RX0 yX0_endOf yX0_endOf, Cond.initialized RX0, Cond.code yX0_endOf cX0_endOf 4 (some .int), Cond.fieldLink RX0 21 "WindPost$Chart" "ends" "[I", Cond.methodLink RX1 46 yX0_onCell, Cond.instanceMethod yX0_onCell, Cond.selects RX0 yX0_onCell yX0_onCell, Cond.code yX0_onCell cX0_onCell 2 (some .int), Cond.fieldLink RX0 15 "WindPost$Chart" "holds" "[I", Cond.static yX4_bitOf, Cond.code yX4_bitOf cX4_bitOf 2 (some .int)]
def wsX4_hour : List Cond := .code yX4_hour cX4_hour 6 (some .int) :: ((wsX4_hour_r1 ++ (wsX4_hour_r2 ++ wsX4_hour_r3)) ++ wsX40 ++ wsX20 ++ wsX10 ++ wsX00)
def wsX4_net_r1 : List Cond := [Cond.fieldLink RX4 29 "WindPost" "now" "LWindPost$Moment;", Cond.fieldLink RX4 88 "WindPost$Moment" "nets" "I", Cond.methodLink RX4 80 yX4_isIsle, Cond.instanceMethod yX4_isIsle, Cond.selects RX4 yX4_isIsle yX4_isIsle, Cond.initialized RX4, Cond.code yX4_isIsle cX4_isIsle 2 (some .boolean), Cond.fieldLink RX4 19 "WindPost" "chart" "LWindPost$Chart;", Cond.fieldLink RX4 194 "WindPost$Chart" "isles" "I", Cond.methodLink RX4 54 yX4_isWithin, Cond.static yX4_isWithin, Cond.code yX4_isWithin cX4_isWithin 3 (some .boolean), Cond.methodLink RX4 147 yX4_remember, Cond.instanceMethod yX4_remember, Cond.selects RX4 yX4_remember yX4_remember, Cond.code yX4_remember cX4_remember 1 none, Cond.fieldLink RX4 33 "WindPost" "past" "[LWindPost$Moment;", Cond.fieldLink RX4 164 "WindPost" "pastNext" "I", Cond.fieldLink RX4 77 "WindPost" "pastKnown" "I", Cond.methodLink RX4 254 Lib.Math.min.name, Cond.static Lib.Math.min.name, Cond.initialized "java/lang/Math", Cond.code Lib.Math.min.name Lib.Math.min.code 2 (some .int), Cond.methodLink RX4 167 yX2_copyFrom]
def wsX4_net_r2 : List Cond := [Cond.instanceMethod yX2_copyFrom, Cond.selects RX2 yX2_copyFrom yX2_copyFrom, Cond.initialized RX2, Cond.code yX2_copyFrom cX2_copyFrom 3 none, Cond.fieldLink RX2 22 "WindPost$Moment" "time" "I", Cond.fieldLink RX2 26 "WindPost$Moment" "letters" "I", Cond.fieldLink RX2 29 "WindPost$Moment" "nets" "I", Cond.fieldLink RX2 37 "WindPost$Moment" "told" "I", Cond.fieldLink RX2 9 "WindPost$Moment" "winds" "[I", Cond.fieldLink RX2 17 "WindPost$Moment" "post" "[LWindPost$Letter;", Cond.methodLink RX2 39 yX1_copyFrom, Cond.instanceMethod yX1_copyFrom, Cond.selects RX1 yX1_copyFrom yX1_copyFrom, Cond.initialized RX1, Cond.code yX1_copyFrom cX1_copyFrom 2 none, Cond.fieldLink RX1 9 "WindPost$Letter" "weight" "I", Cond.fieldLink RX1 15 "WindPost$Letter" "from" "I", Cond.fieldLink RX1 18 "WindPost$Letter" "to" "I", Cond.fieldLink RX1 27 "WindPost$Letter" "place" "I", Cond.fieldLink RX1 30 "WindPost$Letter" "marks" "I", Cond.fieldLink RX1 33 "WindPost$Letter" "how" "I", Cond.fieldLink RX1 39 "WindPost$Letter" "reach" "I", Cond.methodLink RX4 91 yX4_bitOf, Cond.static yX4_bitOf]
def wsX4_net_r3 : List Cond := [Cond.code yX4_bitOf cX4_bitOf 2 (some .int)]
def wsX4_net : List Cond := .code yX4_net cX4_net 4 (some .int) :: ((wsX4_net_r1 ++ (wsX4_net_r2 ++ wsX4_net_r3)) ++ wsX40 ++ wsX20 ++ wsX00 ++ wsX10)
def wsX4_turn_r1 : List Cond := [Cond.fieldLink RX4 29 "WindPost" "now" "LWindPost$Moment;", Cond.fieldLink RX4 158 "WindPost$Moment" "told" "I", Cond.fieldLink RX4 161 "WindPost$Moment" "winds" "[I", Cond.methodLink RX4 54 yX4_isWithin, Cond.static yX4_isWithin, Cond.initialized RX4, Cond.code yX4_isWithin cX4_isWithin 3 (some .boolean), Cond.methodLink RX4 147 yX4_remember, Cond.instanceMethod yX4_remember, Cond.selects RX4 yX4_remember yX4_remember, Cond.code yX4_remember cX4_remember 1 none, Cond.fieldLink RX4 33 "WindPost" "past" "[LWindPost$Moment;", Cond.fieldLink RX4 164 "WindPost" "pastNext" "I", Cond.fieldLink RX4 77 "WindPost" "pastKnown" "I", Cond.methodLink RX4 254 Lib.Math.min.name, Cond.static Lib.Math.min.name, Cond.initialized "java/lang/Math", Cond.code Lib.Math.min.name Lib.Math.min.code 2 (some .int), Cond.methodLink RX4 167 yX2_copyFrom, Cond.instanceMethod yX2_copyFrom, Cond.selects RX2 yX2_copyFrom yX2_copyFrom, Cond.initialized RX2, Cond.code yX2_copyFrom cX2_copyFrom 3 none, Cond.fieldLink RX2 22 "WindPost$Moment" "time" "I"]
def wsX4_turn_r2 : List Cond := [Cond.fieldLink RX2 26 "WindPost$Moment" "letters" "I", Cond.fieldLink RX2 29 "WindPost$Moment" "nets" "I", Cond.fieldLink RX2 37 "WindPost$Moment" "told" "I", Cond.fieldLink RX2 9 "WindPost$Moment" "winds" "[I", Cond.fieldLink RX2 17 "WindPost$Moment" "post" "[LWindPost$Letter;", Cond.methodLink RX2 39 yX1_copyFrom, Cond.instanceMethod yX1_copyFrom, Cond.selects RX1 yX1_copyFrom yX1_copyFrom, Cond.initialized RX1, Cond.code yX1_copyFrom cX1_copyFrom 2 none, Cond.fieldLink RX1 9 "WindPost$Letter" "weight" "I", Cond.fieldLink RX1 15 "WindPost$Letter" "from" "I", Cond.fieldLink RX1 18 "WindPost$Letter" "to" "I", Cond.fieldLink RX1 27 "WindPost$Letter" "place" "I", Cond.fieldLink RX1 30 "WindPost$Letter" "marks" "I", Cond.fieldLink RX1 33 "WindPost$Letter" "how" "I", Cond.fieldLink RX1 39 "WindPost$Letter" "reach" "I"]
def wsX4_turn : List Cond := .code yX4_turn cX4_turn 4 (some .int) :: ((wsX4_turn_r1 ++ wsX4_turn_r2) ++ wsX40 ++ wsX20 ++ wsX10)
def wsX4_undo_r1 : List Cond := [Cond.fieldLink RX4 77 "WindPost" "pastKnown" "I", Cond.fieldLink RX4 164 "WindPost" "pastNext" "I", Cond.fieldLink RX4 29 "WindPost" "now" "LWindPost$Moment;", Cond.fieldLink RX4 33 "WindPost" "past" "[LWindPost$Moment;", Cond.methodLink RX4 167 yX2_copyFrom, Cond.instanceMethod yX2_copyFrom, Cond.selects RX2 yX2_copyFrom yX2_copyFrom, Cond.initialized RX2, Cond.code yX2_copyFrom cX2_copyFrom 3 none, Cond.fieldLink RX2 22 "WindPost$Moment" "time" "I", Cond.fieldLink RX2 26 "WindPost$Moment" "letters" "I", Cond.fieldLink RX2 29 "WindPost$Moment" "nets" "I", Cond.fieldLink RX2 37 "WindPost$Moment" "told" "I", Cond.fieldLink RX2 9 "WindPost$Moment" "winds" "[I", Cond.fieldLink RX2 17 "WindPost$Moment" "post" "[LWindPost$Letter;", Cond.methodLink RX2 39 yX1_copyFrom, Cond.instanceMethod yX1_copyFrom, Cond.selects RX1 yX1_copyFrom yX1_copyFrom, Cond.initialized RX1, Cond.code yX1_copyFrom cX1_copyFrom 2 none, Cond.fieldLink RX1 9 "WindPost$Letter" "weight" "I", Cond.fieldLink RX1 15 "WindPost$Letter" "from" "I", Cond.fieldLink RX1 18 "WindPost$Letter" "to" "I", Cond.fieldLink RX1 27 "WindPost$Letter" "place" "I"]
def wsX4_undo_r2 : List Cond := [Cond.fieldLink RX1 30 "WindPost$Letter" "marks" "I", Cond.fieldLink RX1 33 "WindPost$Letter" "how" "I", Cond.fieldLink RX1 39 "WindPost$Letter" "reach" "I"]
def wsX4_undo : List Cond := .code yX4_undo cX4_undo 1 (some .int) :: ((wsX4_undo_r1 ++ wsX4_undo_r2) ++ wsX40 ++ wsX20 ++ wsX10)
def wsX4_passHours_r1 : List Cond := [Cond.fieldLink RX4 19 "WindPost" "chart" "LWindPost$Chart;", Cond.fieldLink RX4 29 "WindPost" "now" "LWindPost$Moment;", Cond.fieldLink RX4 88 "WindPost$Moment" "nets" "I", Cond.methodLink RX4 105 yX2_windOf, Cond.instanceMethod yX2_windOf, Cond.selects RX2 yX2_windOf yX2_windOf, Cond.initialized RX2, Cond.code yX2_windOf cX2_windOf 2 (some .int), Cond.fieldLink RX2 37 "WindPost$Moment" "told" "I", Cond.fieldLink RX2 9 "WindPost$Moment" "winds" "[I", Cond.methodLink RX2 43 yJ9_floorMod_7cf53, Cond.static yJ9_floorMod_7cf53, Cond.initialized RJ9, Cond.code yJ9_floorMod_7cf53 cJ9_floorMod_7cf53 3 (some .int), Cond.methodLink RX4 154 yX1_passHour, Cond.instanceMethod yX1_passHour, Cond.selects RX1 yX1_passHour yX1_passHour, Cond.initialized RX1, Cond.code yX1_passHour cX1_passHour 6 none, Cond.fieldLink RX1 33 "WindPost$Letter" "how" "I", Cond.fieldLink RX1 39 "WindPost$Letter" "reach" "I", Cond.fieldLink RX1 27 "WindPost$Letter" "place" "I", Cond.fieldLink RX1 18 "WindPost$Letter" "to" "I", Cond.fieldLink RX1 30 "WindPost$Letter" "marks" "I"]
def wsX4_passHours_r2 : List Cond := [Cond.methodLink RX1 42 yX0_endOf, Cond.instanceMethod yX0_endOf, Cond.selects RX0 yX0_endOf yX0_endOf, Cond.initialized RX0, Cond.code yX0_endOf cX0_endOf 4 (some .int), Cond.fieldLink RX0 21 "WindPost$Chart" "ends" "[I", Cond.methodLink RX1 46 yX0_onCell, Cond.instanceMethod yX0_onCell, Cond.selects RX0 yX0_onCell yX0_onCell, Cond.code yX0_onCell cX0_onCell 2 (some .int), Cond.fieldLink RX0 15 "WindPost$Chart" "holds" "[I", Cond.static yX4_bitOf, Cond.initialized RX4, Cond.code yX4_bitOf cX4_bitOf 2 (some .int)]
def wsX4_passHours : List Cond := .code yX4_passHours cX4_passHours 5 none :: ((wsX4_passHours_r1 ++ wsX4_passHours_r2) ++ wsX40 ++ wsX20 ++ wsX10 ++ wsX00)
def wsX4_letterIn_r1 : List Cond := [Cond.fieldLink RX4 47 "WindPost" "probe" "LWindPost$Letter;", Cond.fieldLink RX4 29 "WindPost" "now" "LWindPost$Moment;", Cond.fieldLink RX4 112 "WindPost$Moment" "post" "[LWindPost$Letter;", Cond.fieldLink RX4 102 "WindPost$Moment" "time" "I", Cond.methodLink RX4 175 yX1_copyFrom, Cond.instanceMethod yX1_copyFrom, Cond.selects RX1 yX1_copyFrom yX1_copyFrom, Cond.initialized RX1, Cond.code yX1_copyFrom cX1_copyFrom 2 none, Cond.fieldLink RX1 9 "WindPost$Letter" "weight" "I", Cond.fieldLink RX1 15 "WindPost$Letter" "from" "I", Cond.fieldLink RX1 18 "WindPost$Letter" "to" "I", Cond.fieldLink RX1 27 "WindPost$Letter" "place" "I", Cond.fieldLink RX1 30 "WindPost$Letter" "marks" "I", Cond.fieldLink RX1 33 "WindPost$Letter" "how" "I", Cond.fieldLink RX1 39 "WindPost$Letter" "reach" "I", Cond.methodLink RX4 186 yX4_passHours, Cond.instanceMethod yX4_passHours, Cond.selects RX4 yX4_passHours yX4_passHours, Cond.initialized RX4, Cond.code yX4_passHours cX4_passHours 5 none, Cond.fieldLink RX4 19 "WindPost" "chart" "LWindPost$Chart;", Cond.fieldLink RX4 88 "WindPost$Moment" "nets" "I", Cond.methodLink RX4 105 yX2_windOf]
def wsX4_letterIn_r2 : List Cond := [Cond.instanceMethod yX2_windOf, Cond.selects RX2 yX2_windOf yX2_windOf, Cond.initialized RX2, Cond.code yX2_windOf cX2_windOf 2 (some .int), Cond.fieldLink RX2 37 "WindPost$Moment" "told" "I", Cond.fieldLink RX2 9 "WindPost$Moment" "winds" "[I", Cond.methodLink RX2 43 yJ9_floorMod_7cf53, Cond.static yJ9_floorMod_7cf53, Cond.initialized RJ9, Cond.code yJ9_floorMod_7cf53 cJ9_floorMod_7cf53 3 (some .int), Cond.methodLink RX4 154 yX1_passHour, Cond.instanceMethod yX1_passHour, Cond.selects RX1 yX1_passHour yX1_passHour, Cond.code yX1_passHour cX1_passHour 6 none, Cond.methodLink RX1 42 yX0_endOf, Cond.instanceMethod yX0_endOf, Cond.selects RX0 yX0_endOf yX0_endOf, Cond.initialized RX0, Cond.code yX0_endOf cX0_endOf 4 (some .int), Cond.fieldLink RX0 21 "WindPost$Chart" "ends" "[I", Cond.methodLink RX1 46 yX0_onCell, Cond.instanceMethod yX0_onCell, Cond.selects RX0 yX0_onCell yX0_onCell, Cond.code yX0_onCell cX0_onCell 2 (some .int)]
def wsX4_letterIn_r3 : List Cond := [Cond.fieldLink RX0 15 "WindPost$Chart" "holds" "[I", Cond.static yX4_bitOf, Cond.code yX4_bitOf cX4_bitOf 2 (some .int)]
def wsX4_letterIn : List Cond := .code yX4_letterIn cX4_letterIn 3 (some (.object "WindPost$Letter")) :: ((wsX4_letterIn_r1 ++ (wsX4_letterIn_r2 ++ wsX4_letterIn_r3)) ++ wsX40 ++ wsX20 ++ wsX10 ++ wsX00)
def wsX4_where_r1 : List Cond := [Cond.fieldLink RX4 125 "WindPost$Letter" "place" "I", Cond.methodLink RX4 109 yX4_isLetter, Cond.instanceMethod yX4_isLetter, Cond.selects RX4 yX4_isLetter yX4_isLetter, Cond.initialized RX4, Cond.code yX4_isLetter cX4_isLetter 2 (some .boolean), Cond.fieldLink RX4 29 "WindPost" "now" "LWindPost$Moment;", Cond.fieldLink RX4 134 "WindPost$Moment" "letters" "I", Cond.methodLink RX4 54 yX4_isWithin, Cond.static yX4_isWithin, Cond.code yX4_isWithin cX4_isWithin 3 (some .boolean), Cond.methodLink RX4 171 yX4_letterIn, Cond.instanceMethod yX4_letterIn, Cond.selects RX4 yX4_letterIn yX4_letterIn, Cond.code yX4_letterIn cX4_letterIn 3 (some (.object "WindPost$Letter")), Cond.fieldLink RX4 47 "WindPost" "probe" "LWindPost$Letter;", Cond.fieldLink RX4 112 "WindPost$Moment" "post" "[LWindPost$Letter;", Cond.fieldLink RX4 102 "WindPost$Moment" "time" "I", Cond.methodLink RX4 175 yX1_copyFrom, Cond.instanceMethod yX1_copyFrom, Cond.selects RX1 yX1_copyFrom yX1_copyFrom, Cond.initialized RX1, Cond.code yX1_copyFrom cX1_copyFrom 2 none, Cond.fieldLink RX1 9 "WindPost$Letter" "weight" "I"]
def wsX4_where_r2 : List Cond := [Cond.fieldLink RX1 15 "WindPost$Letter" "from" "I", Cond.fieldLink RX1 18 "WindPost$Letter" "to" "I", Cond.fieldLink RX1 27 "WindPost$Letter" "place" "I", Cond.fieldLink RX1 30 "WindPost$Letter" "marks" "I", Cond.fieldLink RX1 33 "WindPost$Letter" "how" "I", Cond.fieldLink RX1 39 "WindPost$Letter" "reach" "I", Cond.methodLink RX4 186 yX4_passHours, Cond.instanceMethod yX4_passHours, Cond.selects RX4 yX4_passHours yX4_passHours, Cond.code yX4_passHours cX4_passHours 5 none, Cond.fieldLink RX4 19 "WindPost" "chart" "LWindPost$Chart;", Cond.fieldLink RX4 88 "WindPost$Moment" "nets" "I", Cond.methodLink RX4 105 yX2_windOf, Cond.instanceMethod yX2_windOf, Cond.selects RX2 yX2_windOf yX2_windOf, Cond.initialized RX2, Cond.code yX2_windOf cX2_windOf 2 (some .int), Cond.fieldLink RX2 37 "WindPost$Moment" "told" "I", Cond.fieldLink RX2 9 "WindPost$Moment" "winds" "[I", Cond.methodLink RX2 43 yJ9_floorMod_7cf53, Cond.static yJ9_floorMod_7cf53, Cond.initialized RJ9, Cond.code yJ9_floorMod_7cf53 cJ9_floorMod_7cf53 3 (some .int), Cond.methodLink RX4 154 yX1_passHour]
def wsX4_where_r3 : List Cond := [Cond.instanceMethod yX1_passHour, Cond.selects RX1 yX1_passHour yX1_passHour, Cond.code yX1_passHour cX1_passHour 6 none, Cond.methodLink RX1 42 yX0_endOf, Cond.instanceMethod yX0_endOf, Cond.selects RX0 yX0_endOf yX0_endOf, Cond.initialized RX0, Cond.code yX0_endOf cX0_endOf 4 (some .int), Cond.fieldLink RX0 21 "WindPost$Chart" "ends" "[I", Cond.methodLink RX1 46 yX0_onCell, Cond.instanceMethod yX0_onCell, Cond.selects RX0 yX0_onCell yX0_onCell, Cond.code yX0_onCell cX0_onCell 2 (some .int), Cond.fieldLink RX0 15 "WindPost$Chart" "holds" "[I", Cond.static yX4_bitOf, Cond.code yX4_bitOf cX4_bitOf 2 (some .int)]
def wsX4_where : List Cond := .code yX4_where cX4_where 3 (some .int) :: ((wsX4_where_r1 ++ (wsX4_where_r2 ++ wsX4_where_r3)) ++ wsX10 ++ wsX40 ++ wsX20 ++ wsX00)
def wsX4_arrival_r1 : List Cond := [Cond.fieldLink RX4 47 "WindPost" "probe" "LWindPost$Letter;", Cond.fieldLink RX4 131 "WindPost$Letter" "how" "I", Cond.fieldLink RX4 19 "WindPost" "chart" "LWindPost$Chart;", Cond.fieldLink RX4 29 "WindPost" "now" "LWindPost$Moment;", Cond.fieldLink RX4 158 "WindPost$Moment" "told" "I", Cond.methodLink RX4 181 Lib.Math.max.name, Cond.static Lib.Math.max.name, Cond.initialized "java/lang/Math", Cond.code Lib.Math.max.name Lib.Math.max.code 2 (some .int), Cond.methodLink RX4 254 Lib.Math.min.name, Cond.static Lib.Math.min.name, Cond.code Lib.Math.min.name Lib.Math.min.code 2 (some .int), Cond.methodLink RX4 95 yX0_cells, Cond.instanceMethod yX0_cells, Cond.selects RX0 yX0_cells yX0_cells, Cond.initialized RX0, Cond.code yX0_cells cX0_cells 1 (some .int), Cond.fieldLink RX0 30 "WindPost$Chart" "wide" "I", Cond.fieldLink RX0 34 "WindPost$Chart" "high" "I", Cond.methodLink RX0 49 Lib.Math.min.name, Cond.methodLink RX4 105 yX2_windOf, Cond.instanceMethod yX2_windOf, Cond.selects RX2 yX2_windOf yX2_windOf, Cond.initialized RX2]
def wsX4_arrival_r2 : List Cond := [Cond.code yX2_windOf cX2_windOf 2 (some .int), Cond.fieldLink RX2 37 "WindPost$Moment" "told" "I", Cond.fieldLink RX2 9 "WindPost$Moment" "winds" "[I", Cond.methodLink RX2 43 yJ9_floorMod_7cf53, Cond.static yJ9_floorMod_7cf53, Cond.initialized RJ9, Cond.code yJ9_floorMod_7cf53 cJ9_floorMod_7cf53 3 (some .int), Cond.methodLink RX4 154 yX1_passHour, Cond.instanceMethod yX1_passHour, Cond.selects RX1 yX1_passHour yX1_passHour, Cond.initialized RX1, Cond.code yX1_passHour cX1_passHour 6 none, Cond.fieldLink RX1 33 "WindPost$Letter" "how" "I", Cond.fieldLink RX1 39 "WindPost$Letter" "reach" "I", Cond.fieldLink RX1 27 "WindPost$Letter" "place" "I", Cond.fieldLink RX1 18 "WindPost$Letter" "to" "I", Cond.fieldLink RX1 30 "WindPost$Letter" "marks" "I", Cond.methodLink RX1 42 yX0_endOf, Cond.instanceMethod yX0_endOf, Cond.selects RX0 yX0_endOf yX0_endOf, Cond.code yX0_endOf cX0_endOf 4 (some .int), Cond.fieldLink RX0 21 "WindPost$Chart" "ends" "[I", Cond.methodLink RX1 46 yX0_onCell, Cond.instanceMethod yX0_onCell]
def wsX4_arrival_r3 : List Cond := [Cond.selects RX0 yX0_onCell yX0_onCell, Cond.code yX0_onCell cX0_onCell 2 (some .int), Cond.fieldLink RX0 15 "WindPost$Chart" "holds" "[I", Cond.static yX4_bitOf, Cond.initialized RX4, Cond.code yX4_bitOf cX4_bitOf 2 (some .int)]
def wsX4_arrival : List Cond := .code yX4_arrival cX4_arrival 5 (some .int) :: ((wsX4_arrival_r1 ++ (wsX4_arrival_r2 ++ wsX4_arrival_r3)) ++ wsX40 ++ wsX10 ++ wsX20 ++ wsX00)
def wsX4_comes_r1 : List Cond := [Cond.fieldLink RX4 47 "WindPost" "probe" "LWindPost$Letter;", Cond.fieldLink RX4 29 "WindPost" "now" "LWindPost$Moment;", Cond.fieldLink RX4 112 "WindPost$Moment" "post" "[LWindPost$Letter;", Cond.fieldLink RX4 102 "WindPost$Moment" "time" "I", Cond.fieldLink RX4 88 "WindPost$Moment" "nets" "I", Cond.methodLink RX4 109 yX4_isLetter, Cond.instanceMethod yX4_isLetter, Cond.selects RX4 yX4_isLetter yX4_isLetter, Cond.initialized RX4, Cond.code yX4_isLetter cX4_isLetter 2 (some .boolean), Cond.fieldLink RX4 134 "WindPost$Moment" "letters" "I", Cond.methodLink RX4 54 yX4_isWithin, Cond.static yX4_isWithin, Cond.code yX4_isWithin cX4_isWithin 3 (some .boolean), Cond.methodLink RX4 175 yX1_copyFrom, Cond.instanceMethod yX1_copyFrom, Cond.selects RX1 yX1_copyFrom yX1_copyFrom, Cond.initialized RX1, Cond.code yX1_copyFrom cX1_copyFrom 2 none, Cond.fieldLink RX1 9 "WindPost$Letter" "weight" "I", Cond.fieldLink RX1 15 "WindPost$Letter" "from" "I", Cond.fieldLink RX1 18 "WindPost$Letter" "to" "I", Cond.fieldLink RX1 27 "WindPost$Letter" "place" "I", Cond.fieldLink RX1 30 "WindPost$Letter" "marks" "I"]
def wsX4_comes_r2 : List Cond := [Cond.fieldLink RX1 33 "WindPost$Letter" "how" "I", Cond.fieldLink RX1 39 "WindPost$Letter" "reach" "I", Cond.methodLink RX4 178 yX4_arrival, Cond.instanceMethod yX4_arrival, Cond.selects RX4 yX4_arrival yX4_arrival, Cond.code yX4_arrival cX4_arrival 5 (some .int), Cond.fieldLink RX4 131 "WindPost$Letter" "how" "I", Cond.fieldLink RX4 19 "WindPost" "chart" "LWindPost$Chart;", Cond.fieldLink RX4 158 "WindPost$Moment" "told" "I", Cond.methodLink RX4 181 Lib.Math.max.name, Cond.static Lib.Math.max.name, Cond.initialized "java/lang/Math", Cond.code Lib.Math.max.name Lib.Math.max.code 2 (some .int), Cond.methodLink RX4 254 Lib.Math.min.name, Cond.static Lib.Math.min.name, Cond.code Lib.Math.min.name Lib.Math.min.code 2 (some .int), Cond.methodLink RX4 95 yX0_cells, Cond.instanceMethod yX0_cells, Cond.selects RX0 yX0_cells yX0_cells, Cond.initialized RX0, Cond.code yX0_cells cX0_cells 1 (some .int), Cond.fieldLink RX0 30 "WindPost$Chart" "wide" "I", Cond.fieldLink RX0 34 "WindPost$Chart" "high" "I", Cond.methodLink RX0 49 Lib.Math.min.name]
def wsX4_comes_r3 : List Cond := [Cond.methodLink RX4 105 yX2_windOf, Cond.instanceMethod yX2_windOf, Cond.selects RX2 yX2_windOf yX2_windOf, Cond.initialized RX2, Cond.code yX2_windOf cX2_windOf 2 (some .int), Cond.fieldLink RX2 37 "WindPost$Moment" "told" "I", Cond.fieldLink RX2 9 "WindPost$Moment" "winds" "[I", Cond.methodLink RX2 43 yJ9_floorMod_7cf53, Cond.static yJ9_floorMod_7cf53, Cond.initialized RJ9, Cond.code yJ9_floorMod_7cf53 cJ9_floorMod_7cf53 3 (some .int), Cond.methodLink RX4 154 yX1_passHour, Cond.instanceMethod yX1_passHour, Cond.selects RX1 yX1_passHour yX1_passHour, Cond.code yX1_passHour cX1_passHour 6 none, Cond.methodLink RX1 42 yX0_endOf, Cond.instanceMethod yX0_endOf, Cond.selects RX0 yX0_endOf yX0_endOf, Cond.code yX0_endOf cX0_endOf 4 (some .int), Cond.fieldLink RX0 21 "WindPost$Chart" "ends" "[I", Cond.methodLink RX1 46 yX0_onCell, Cond.instanceMethod yX0_onCell, Cond.selects RX0 yX0_onCell yX0_onCell, Cond.code yX0_onCell cX0_onCell 2 (some .int)]
def wsX4_comes_r4 : List Cond := [Cond.fieldLink RX0 15 "WindPost$Chart" "holds" "[I", Cond.static yX4_bitOf, Cond.code yX4_bitOf cX4_bitOf 2 (some .int)]
def wsX4_comes : List Cond := .code yX4_comes cX4_comes 2 (some .int) :: ((wsX4_comes_r1 ++ (wsX4_comes_r2 ++ (wsX4_comes_r3 ++ wsX4_comes_r4))) ++ wsX40 ++ wsX20 ++ wsX10 ++ wsX00)
def wsX4_blots_r1 : List Cond := [Cond.fieldLink RX4 128 "WindPost$Letter" "marks" "I", Cond.methodLink RX4 109 yX4_isLetter, Cond.instanceMethod yX4_isLetter, Cond.selects RX4 yX4_isLetter yX4_isLetter, Cond.initialized RX4, Cond.code yX4_isLetter cX4_isLetter 2 (some .boolean), Cond.fieldLink RX4 29 "WindPost" "now" "LWindPost$Moment;", Cond.fieldLink RX4 134 "WindPost$Moment" "letters" "I", Cond.methodLink RX4 54 yX4_isWithin, Cond.static yX4_isWithin, Cond.code yX4_isWithin cX4_isWithin 3 (some .boolean), Cond.methodLink RX4 171 yX4_letterIn, Cond.instanceMethod yX4_letterIn, Cond.selects RX4 yX4_letterIn yX4_letterIn, Cond.code yX4_letterIn cX4_letterIn 3 (some (.object "WindPost$Letter")), Cond.fieldLink RX4 47 "WindPost" "probe" "LWindPost$Letter;", Cond.fieldLink RX4 112 "WindPost$Moment" "post" "[LWindPost$Letter;", Cond.fieldLink RX4 102 "WindPost$Moment" "time" "I", Cond.methodLink RX4 175 yX1_copyFrom, Cond.instanceMethod yX1_copyFrom, Cond.selects RX1 yX1_copyFrom yX1_copyFrom, Cond.initialized RX1, Cond.code yX1_copyFrom cX1_copyFrom 2 none, Cond.fieldLink RX1 9 "WindPost$Letter" "weight" "I"]
def wsX4_blots_r2 : List Cond := [Cond.fieldLink RX1 15 "WindPost$Letter" "from" "I", Cond.fieldLink RX1 18 "WindPost$Letter" "to" "I", Cond.fieldLink RX1 27 "WindPost$Letter" "place" "I", Cond.fieldLink RX1 30 "WindPost$Letter" "marks" "I", Cond.fieldLink RX1 33 "WindPost$Letter" "how" "I", Cond.fieldLink RX1 39 "WindPost$Letter" "reach" "I", Cond.methodLink RX4 186 yX4_passHours, Cond.instanceMethod yX4_passHours, Cond.selects RX4 yX4_passHours yX4_passHours, Cond.code yX4_passHours cX4_passHours 5 none, Cond.fieldLink RX4 19 "WindPost" "chart" "LWindPost$Chart;", Cond.fieldLink RX4 88 "WindPost$Moment" "nets" "I", Cond.methodLink RX4 105 yX2_windOf, Cond.instanceMethod yX2_windOf, Cond.selects RX2 yX2_windOf yX2_windOf, Cond.initialized RX2, Cond.code yX2_windOf cX2_windOf 2 (some .int), Cond.fieldLink RX2 37 "WindPost$Moment" "told" "I", Cond.fieldLink RX2 9 "WindPost$Moment" "winds" "[I", Cond.methodLink RX2 43 yJ9_floorMod_7cf53, Cond.static yJ9_floorMod_7cf53, Cond.initialized RJ9, Cond.code yJ9_floorMod_7cf53 cJ9_floorMod_7cf53 3 (some .int), Cond.methodLink RX4 154 yX1_passHour]
def wsX4_blots_r3 : List Cond := [Cond.instanceMethod yX1_passHour, Cond.selects RX1 yX1_passHour yX1_passHour, Cond.code yX1_passHour cX1_passHour 6 none, Cond.methodLink RX1 42 yX0_endOf, Cond.instanceMethod yX0_endOf, Cond.selects RX0 yX0_endOf yX0_endOf, Cond.initialized RX0, Cond.code yX0_endOf cX0_endOf 4 (some .int), Cond.fieldLink RX0 21 "WindPost$Chart" "ends" "[I", Cond.methodLink RX1 46 yX0_onCell, Cond.instanceMethod yX0_onCell, Cond.selects RX0 yX0_onCell yX0_onCell, Cond.code yX0_onCell cX0_onCell 2 (some .int), Cond.fieldLink RX0 15 "WindPost$Chart" "holds" "[I", Cond.static yX4_bitOf, Cond.code yX4_bitOf cX4_bitOf 2 (some .int)]
def wsX4_blots : List Cond := .code yX4_blots cX4_blots 3 (some .int) :: ((wsX4_blots_r1 ++ (wsX4_blots_r2 ++ wsX4_blots_r3)) ++ wsX10 ++ wsX40 ++ wsX20 ++ wsX00)
def wsX4_loop_r1 : List Cond := [Cond.fieldLink RX4 29 "WindPost" "now" "LWindPost$Moment;", Cond.fieldLink RX4 158 "WindPost$Moment" "told" "I", Cond.methodLink RX4 181 Lib.Math.max.name, Cond.static Lib.Math.max.name, Cond.initialized "java/lang/Math", Cond.code Lib.Math.max.name Lib.Math.max.code 2 (some .int), Cond.fieldLink RX4 19 "WindPost" "chart" "LWindPost$Chart;", Cond.fieldLink RX4 131 "WindPost$Letter" "how" "I", Cond.fieldLink RX4 47 "WindPost" "probe" "LWindPost$Letter;", Cond.fieldLink RX4 125 "WindPost$Letter" "place" "I", Cond.fieldLink RX4 102 "WindPost$Moment" "time" "I", Cond.methodLink RX4 109 yX4_isLetter, Cond.instanceMethod yX4_isLetter, Cond.selects RX4 yX4_isLetter yX4_isLetter, Cond.initialized RX4, Cond.code yX4_isLetter cX4_isLetter 2 (some .boolean), Cond.fieldLink RX4 134 "WindPost$Moment" "letters" "I", Cond.methodLink RX4 54 yX4_isWithin, Cond.static yX4_isWithin, Cond.code yX4_isWithin cX4_isWithin 3 (some .boolean), Cond.methodLink RX4 95 yX0_cells, Cond.instanceMethod yX0_cells, Cond.selects RX0 yX0_cells yX0_cells, Cond.initialized RX0]
def wsX4_loop_r2 : List Cond := [Cond.code yX0_cells cX0_cells 1 (some .int), Cond.fieldLink RX0 30 "WindPost$Chart" "wide" "I", Cond.fieldLink RX0 34 "WindPost$Chart" "high" "I", Cond.methodLink RX0 49 Lib.Math.min.name, Cond.static Lib.Math.min.name, Cond.code Lib.Math.min.name Lib.Math.min.code 2 (some .int), Cond.methodLink RX4 171 yX4_letterIn, Cond.instanceMethod yX4_letterIn, Cond.selects RX4 yX4_letterIn yX4_letterIn, Cond.code yX4_letterIn cX4_letterIn 3 (some (.object "WindPost$Letter")), Cond.fieldLink RX4 112 "WindPost$Moment" "post" "[LWindPost$Letter;", Cond.methodLink RX4 175 yX1_copyFrom, Cond.instanceMethod yX1_copyFrom, Cond.selects RX1 yX1_copyFrom yX1_copyFrom, Cond.initialized RX1, Cond.code yX1_copyFrom cX1_copyFrom 2 none, Cond.fieldLink RX1 9 "WindPost$Letter" "weight" "I", Cond.fieldLink RX1 15 "WindPost$Letter" "from" "I", Cond.fieldLink RX1 18 "WindPost$Letter" "to" "I", Cond.fieldLink RX1 27 "WindPost$Letter" "place" "I", Cond.fieldLink RX1 30 "WindPost$Letter" "marks" "I", Cond.fieldLink RX1 33 "WindPost$Letter" "how" "I", Cond.fieldLink RX1 39 "WindPost$Letter" "reach" "I", Cond.methodLink RX4 186 yX4_passHours]
def wsX4_loop_r3 : List Cond := [Cond.instanceMethod yX4_passHours, Cond.selects RX4 yX4_passHours yX4_passHours, Cond.code yX4_passHours cX4_passHours 5 none, Cond.fieldLink RX4 88 "WindPost$Moment" "nets" "I", Cond.methodLink RX4 105 yX2_windOf, Cond.instanceMethod yX2_windOf, Cond.selects RX2 yX2_windOf yX2_windOf, Cond.initialized RX2, Cond.code yX2_windOf cX2_windOf 2 (some .int), Cond.fieldLink RX2 37 "WindPost$Moment" "told" "I", Cond.fieldLink RX2 9 "WindPost$Moment" "winds" "[I", Cond.methodLink RX2 43 yJ9_floorMod_7cf53, Cond.static yJ9_floorMod_7cf53, Cond.initialized RJ9, Cond.code yJ9_floorMod_7cf53 cJ9_floorMod_7cf53 3 (some .int), Cond.methodLink RX4 154 yX1_passHour, Cond.instanceMethod yX1_passHour, Cond.selects RX1 yX1_passHour yX1_passHour, Cond.code yX1_passHour cX1_passHour 6 none, Cond.methodLink RX1 42 yX0_endOf, Cond.instanceMethod yX0_endOf, Cond.selects RX0 yX0_endOf yX0_endOf, Cond.code yX0_endOf cX0_endOf 4 (some .int), Cond.fieldLink RX0 21 "WindPost$Chart" "ends" "[I"]
def wsX4_loop_r4 : List Cond := [Cond.methodLink RX1 46 yX0_onCell, Cond.instanceMethod yX0_onCell, Cond.selects RX0 yX0_onCell yX0_onCell, Cond.code yX0_onCell cX0_onCell 2 (some .int), Cond.fieldLink RX0 15 "WindPost$Chart" "holds" "[I", Cond.static yX4_bitOf, Cond.code yX4_bitOf cX4_bitOf 2 (some .int)]
def wsX4_loop : List Cond := .code yX4_loop cX4_loop 5 (some .int) :: ((wsX4_loop_r1 ++ (wsX4_loop_r2 ++ (wsX4_loop_r3 ++ wsX4_loop_r4))) ++ wsX40 ++ wsX20 ++ wsX10 ++ wsX00)
def wsX4_tangled_r1 : List Cond := [Cond.fieldLink RX4 47 "WindPost" "probe" "LWindPost$Letter;", Cond.fieldLink RX4 29 "WindPost" "now" "LWindPost$Moment;", Cond.fieldLink RX4 112 "WindPost$Moment" "post" "[LWindPost$Letter;", Cond.fieldLink RX4 51 "WindPost" "second" "LWindPost$Letter;", Cond.fieldLink RX4 131 "WindPost$Letter" "how" "I", Cond.fieldLink RX4 125 "WindPost$Letter" "place" "I", Cond.fieldLink RX4 102 "WindPost$Moment" "time" "I", Cond.methodLink RX4 109 yX4_isLetter, Cond.instanceMethod yX4_isLetter, Cond.selects RX4 yX4_isLetter yX4_isLetter, Cond.initialized RX4, Cond.code yX4_isLetter cX4_isLetter 2 (some .boolean), Cond.fieldLink RX4 134 "WindPost$Moment" "letters" "I", Cond.methodLink RX4 54 yX4_isWithin, Cond.static yX4_isWithin, Cond.code yX4_isWithin cX4_isWithin 3 (some .boolean), Cond.methodLink RX4 175 yX1_copyFrom, Cond.instanceMethod yX1_copyFrom, Cond.selects RX1 yX1_copyFrom yX1_copyFrom, Cond.initialized RX1, Cond.code yX1_copyFrom cX1_copyFrom 2 none, Cond.fieldLink RX1 9 "WindPost$Letter" "weight" "I", Cond.fieldLink RX1 15 "WindPost$Letter" "from" "I", Cond.fieldLink RX1 18 "WindPost$Letter" "to" "I"]
def wsX4_tangled_r2 : List Cond := [Cond.fieldLink RX1 27 "WindPost$Letter" "place" "I", Cond.fieldLink RX1 30 "WindPost$Letter" "marks" "I", Cond.fieldLink RX1 33 "WindPost$Letter" "how" "I", Cond.fieldLink RX1 39 "WindPost$Letter" "reach" "I", Cond.methodLink RX4 186 yX4_passHours, Cond.instanceMethod yX4_passHours, Cond.selects RX4 yX4_passHours yX4_passHours, Cond.code yX4_passHours cX4_passHours 5 none, Cond.fieldLink RX4 19 "WindPost" "chart" "LWindPost$Chart;", Cond.fieldLink RX4 88 "WindPost$Moment" "nets" "I", Cond.methodLink RX4 105 yX2_windOf, Cond.instanceMethod yX2_windOf, Cond.selects RX2 yX2_windOf yX2_windOf, Cond.initialized RX2, Cond.code yX2_windOf cX2_windOf 2 (some .int), Cond.fieldLink RX2 37 "WindPost$Moment" "told" "I", Cond.fieldLink RX2 9 "WindPost$Moment" "winds" "[I", Cond.methodLink RX2 43 yJ9_floorMod_7cf53, Cond.static yJ9_floorMod_7cf53, Cond.initialized RJ9, Cond.code yJ9_floorMod_7cf53 cJ9_floorMod_7cf53 3 (some .int), Cond.methodLink RX4 154 yX1_passHour, Cond.instanceMethod yX1_passHour, Cond.selects RX1 yX1_passHour yX1_passHour]
def wsX4_tangled_r3 : List Cond := [Cond.code yX1_passHour cX1_passHour 6 none, Cond.methodLink RX1 42 yX0_endOf, Cond.instanceMethod yX0_endOf, Cond.selects RX0 yX0_endOf yX0_endOf, Cond.initialized RX0, Cond.code yX0_endOf cX0_endOf 4 (some .int), Cond.fieldLink RX0 21 "WindPost$Chart" "ends" "[I", Cond.methodLink RX1 46 yX0_onCell, Cond.instanceMethod yX0_onCell, Cond.selects RX0 yX0_onCell yX0_onCell, Cond.code yX0_onCell cX0_onCell 2 (some .int), Cond.fieldLink RX0 15 "WindPost$Chart" "holds" "[I", Cond.static yX4_bitOf, Cond.code yX4_bitOf cX4_bitOf 2 (some .int)]
def wsX4_tangled : List Cond := .code yX4_tangled cX4_tangled 4 (some .int) :: ((wsX4_tangled_r1 ++ (wsX4_tangled_r2 ++ wsX4_tangled_r3)) ++ wsX40 ++ wsX20 ++ wsX10 ++ wsX00)
def wsX4_supposed_r1 : List Cond := [Cond.fieldLink RX4 47 "WindPost" "probe" "LWindPost$Letter;", Cond.fieldLink RX4 19 "WindPost" "chart" "LWindPost$Chart;", Cond.fieldLink RX4 257 "WindPost$Letter" "reach" "I", Cond.fieldLink RX4 29 "WindPost" "now" "LWindPost$Moment;", Cond.fieldLink RX4 102 "WindPost$Moment" "time" "I", Cond.methodLink RX4 150 yX1_letUp, Cond.instanceMethod yX1_letUp, Cond.selects RX1 yX1_letUp yX1_letUp, Cond.initialized RX1, Cond.code yX1_letUp cX1_letUp 5 none, Cond.fieldLink RX1 9 "WindPost$Letter" "weight" "I", Cond.fieldLink RX1 15 "WindPost$Letter" "from" "I", Cond.fieldLink RX1 18 "WindPost$Letter" "to" "I", Cond.fieldLink RX1 27 "WindPost$Letter" "place" "I", Cond.fieldLink RX1 30 "WindPost$Letter" "marks" "I", Cond.fieldLink RX1 33 "WindPost$Letter" "how" "I", Cond.fieldLink RX1 36 "WindPost$Chart" "force" "I", Cond.fieldLink RX1 39 "WindPost$Letter" "reach" "I", Cond.methodLink RX1 21 yX0_cellOfIsle, Cond.instanceMethod yX0_cellOfIsle, Cond.selects RX0 yX0_cellOfIsle yX0_cellOfIsle, Cond.initialized RX0, Cond.code yX0_cellOfIsle cX0_cellOfIsle 2 (some .int), Cond.fieldLink RX0 9 "WindPost$Chart" "isleCells" "[I"]
def wsX4_supposed_r2 : List Cond := [Cond.methodLink RX4 178 yX4_arrival, Cond.instanceMethod yX4_arrival, Cond.selects RX4 yX4_arrival yX4_arrival, Cond.initialized RX4, Cond.code yX4_arrival cX4_arrival 5 (some .int), Cond.fieldLink RX4 131 "WindPost$Letter" "how" "I", Cond.fieldLink RX4 158 "WindPost$Moment" "told" "I", Cond.methodLink RX4 181 Lib.Math.max.name, Cond.static Lib.Math.max.name, Cond.initialized "java/lang/Math", Cond.code Lib.Math.max.name Lib.Math.max.code 2 (some .int), Cond.methodLink RX4 254 Lib.Math.min.name, Cond.static Lib.Math.min.name, Cond.code Lib.Math.min.name Lib.Math.min.code 2 (some .int), Cond.methodLink RX4 95 yX0_cells, Cond.instanceMethod yX0_cells, Cond.selects RX0 yX0_cells yX0_cells, Cond.code yX0_cells cX0_cells 1 (some .int), Cond.fieldLink RX0 30 "WindPost$Chart" "wide" "I", Cond.fieldLink RX0 34 "WindPost$Chart" "high" "I", Cond.methodLink RX0 49 Lib.Math.min.name, Cond.methodLink RX4 105 yX2_windOf, Cond.instanceMethod yX2_windOf, Cond.selects RX2 yX2_windOf yX2_windOf]
def wsX4_supposed_r3 : List Cond := [Cond.initialized RX2, Cond.code yX2_windOf cX2_windOf 2 (some .int), Cond.fieldLink RX2 37 "WindPost$Moment" "told" "I", Cond.fieldLink RX2 9 "WindPost$Moment" "winds" "[I", Cond.methodLink RX2 43 yJ9_floorMod_7cf53, Cond.static yJ9_floorMod_7cf53, Cond.initialized RJ9, Cond.code yJ9_floorMod_7cf53 cJ9_floorMod_7cf53 3 (some .int), Cond.methodLink RX4 154 yX1_passHour, Cond.instanceMethod yX1_passHour, Cond.selects RX1 yX1_passHour yX1_passHour, Cond.code yX1_passHour cX1_passHour 6 none, Cond.methodLink RX1 42 yX0_endOf, Cond.instanceMethod yX0_endOf, Cond.selects RX0 yX0_endOf yX0_endOf, Cond.code yX0_endOf cX0_endOf 4 (some .int), Cond.fieldLink RX0 21 "WindPost$Chart" "ends" "[I", Cond.methodLink RX1 46 yX0_onCell, Cond.instanceMethod yX0_onCell, Cond.selects RX0 yX0_onCell yX0_onCell, Cond.code yX0_onCell cX0_onCell 2 (some .int), Cond.fieldLink RX0 15 "WindPost$Chart" "holds" "[I", Cond.static yX4_bitOf, Cond.code yX4_bitOf cX4_bitOf 2 (some .int)]
def wsX4_supposed : List Cond := .code yX4_supposed cX4_supposed 6 (some .int) :: ((wsX4_supposed_r1 ++ (wsX4_supposed_r2 ++ wsX4_supposed_r3)) ++ wsX40 ++ wsX10 ++ wsX20 ++ wsX00)
def wsX4_soonest_r1 : List Cond := [Cond.fieldLink RX4 29 "WindPost" "now" "LWindPost$Moment;", Cond.fieldLink RX4 88 "WindPost$Moment" "nets" "I", Cond.methodLink RX4 140 yX4_isWay, Cond.instanceMethod yX4_isWay, Cond.selects RX4 yX4_isWay yX4_isWay, Cond.initialized RX4, Cond.code yX4_isWay cX4_isWay 3 (some .boolean), Cond.methodLink RX4 80 yX4_isIsle, Cond.instanceMethod yX4_isIsle, Cond.selects RX4 yX4_isIsle yX4_isIsle, Cond.code yX4_isIsle cX4_isIsle 2 (some .boolean), Cond.fieldLink RX4 19 "WindPost" "chart" "LWindPost$Chart;", Cond.fieldLink RX4 194 "WindPost$Chart" "isles" "I", Cond.methodLink RX4 54 yX4_isWithin, Cond.static yX4_isWithin, Cond.code yX4_isWithin cX4_isWithin 3 (some .boolean), Cond.methodLink RX4 144 yX4_isWeight, Cond.static yX4_isWeight, Cond.code yX4_isWeight cX4_isWeight 1 (some .boolean), Cond.methodLink RX4 190 yX4_supposed, Cond.instanceMethod yX4_supposed, Cond.selects RX4 yX4_supposed yX4_supposed, Cond.code yX4_supposed cX4_supposed 6 (some .int), Cond.fieldLink RX4 47 "WindPost" "probe" "LWindPost$Letter;"]
def wsX4_soonest_r2 : List Cond := [Cond.fieldLink RX4 257 "WindPost$Letter" "reach" "I", Cond.fieldLink RX4 102 "WindPost$Moment" "time" "I", Cond.methodLink RX4 150 yX1_letUp, Cond.instanceMethod yX1_letUp, Cond.selects RX1 yX1_letUp yX1_letUp, Cond.initialized RX1, Cond.code yX1_letUp cX1_letUp 5 none, Cond.fieldLink RX1 9 "WindPost$Letter" "weight" "I", Cond.fieldLink RX1 15 "WindPost$Letter" "from" "I", Cond.fieldLink RX1 18 "WindPost$Letter" "to" "I", Cond.fieldLink RX1 27 "WindPost$Letter" "place" "I", Cond.fieldLink RX1 30 "WindPost$Letter" "marks" "I", Cond.fieldLink RX1 33 "WindPost$Letter" "how" "I", Cond.fieldLink RX1 36 "WindPost$Chart" "force" "I", Cond.fieldLink RX1 39 "WindPost$Letter" "reach" "I", Cond.methodLink RX1 21 yX0_cellOfIsle, Cond.instanceMethod yX0_cellOfIsle, Cond.selects RX0 yX0_cellOfIsle yX0_cellOfIsle, Cond.initialized RX0, Cond.code yX0_cellOfIsle cX0_cellOfIsle 2 (some .int), Cond.fieldLink RX0 9 "WindPost$Chart" "isleCells" "[I", Cond.methodLink RX4 178 yX4_arrival, Cond.instanceMethod yX4_arrival, Cond.selects RX4 yX4_arrival yX4_arrival]
def wsX4_soonest_r3 : List Cond := [Cond.code yX4_arrival cX4_arrival 5 (some .int), Cond.fieldLink RX4 131 "WindPost$Letter" "how" "I", Cond.fieldLink RX4 158 "WindPost$Moment" "told" "I", Cond.methodLink RX4 181 Lib.Math.max.name, Cond.static Lib.Math.max.name, Cond.initialized "java/lang/Math", Cond.code Lib.Math.max.name Lib.Math.max.code 2 (some .int), Cond.methodLink RX4 254 Lib.Math.min.name, Cond.static Lib.Math.min.name, Cond.code Lib.Math.min.name Lib.Math.min.code 2 (some .int), Cond.methodLink RX4 95 yX0_cells, Cond.instanceMethod yX0_cells, Cond.selects RX0 yX0_cells yX0_cells, Cond.code yX0_cells cX0_cells 1 (some .int), Cond.fieldLink RX0 30 "WindPost$Chart" "wide" "I", Cond.fieldLink RX0 34 "WindPost$Chart" "high" "I", Cond.methodLink RX0 49 Lib.Math.min.name, Cond.methodLink RX4 105 yX2_windOf, Cond.instanceMethod yX2_windOf, Cond.selects RX2 yX2_windOf yX2_windOf, Cond.initialized RX2, Cond.code yX2_windOf cX2_windOf 2 (some .int), Cond.fieldLink RX2 37 "WindPost$Moment" "told" "I", Cond.fieldLink RX2 9 "WindPost$Moment" "winds" "[I"]
def wsX4_soonest_r4 : List Cond := [Cond.methodLink RX2 43 yJ9_floorMod_7cf53, Cond.static yJ9_floorMod_7cf53, Cond.initialized RJ9, Cond.code yJ9_floorMod_7cf53 cJ9_floorMod_7cf53 3 (some .int), Cond.methodLink RX4 154 yX1_passHour, Cond.instanceMethod yX1_passHour, Cond.selects RX1 yX1_passHour yX1_passHour, Cond.code yX1_passHour cX1_passHour 6 none, Cond.methodLink RX1 42 yX0_endOf, Cond.instanceMethod yX0_endOf, Cond.selects RX0 yX0_endOf yX0_endOf, Cond.code yX0_endOf cX0_endOf 4 (some .int), Cond.fieldLink RX0 21 "WindPost$Chart" "ends" "[I", Cond.methodLink RX1 46 yX0_onCell, Cond.instanceMethod yX0_onCell, Cond.selects RX0 yX0_onCell yX0_onCell, Cond.code yX0_onCell cX0_onCell 2 (some .int), Cond.fieldLink RX0 15 "WindPost$Chart" "holds" "[I", Cond.static yX4_bitOf, Cond.code yX4_bitOf cX4_bitOf 2 (some .int)]
def wsX4_soonest : List Cond := .code yX4_soonest cX4_soonest 9 (some .int) :: ((wsX4_soonest_r1 ++ (wsX4_soonest_r2 ++ (wsX4_soonest_r3 ++ wsX4_soonest_r4))) ++ wsX40 ++ wsX20 ++ wsX00 ++ wsX10)
def wsX4_lightest_r1 : List Cond := [Cond.fieldLink RX4 29 "WindPost" "now" "LWindPost$Moment;", Cond.fieldLink RX4 88 "WindPost$Moment" "nets" "I", Cond.methodLink RX4 140 yX4_isWay, Cond.instanceMethod yX4_isWay, Cond.selects RX4 yX4_isWay yX4_isWay, Cond.initialized RX4, Cond.code yX4_isWay cX4_isWay 3 (some .boolean), Cond.methodLink RX4 80 yX4_isIsle, Cond.instanceMethod yX4_isIsle, Cond.selects RX4 yX4_isIsle yX4_isIsle, Cond.code yX4_isIsle cX4_isIsle 2 (some .boolean), Cond.fieldLink RX4 19 "WindPost" "chart" "LWindPost$Chart;", Cond.fieldLink RX4 194 "WindPost$Chart" "isles" "I", Cond.methodLink RX4 54 yX4_isWithin, Cond.static yX4_isWithin, Cond.code yX4_isWithin cX4_isWithin 3 (some .boolean), Cond.methodLink RX4 190 yX4_supposed, Cond.instanceMethod yX4_supposed, Cond.selects RX4 yX4_supposed yX4_supposed, Cond.code yX4_supposed cX4_supposed 6 (some .int), Cond.fieldLink RX4 47 "WindPost" "probe" "LWindPost$Letter;", Cond.fieldLink RX4 257 "WindPost$Letter" "reach" "I", Cond.fieldLink RX4 102 "WindPost$Moment" "time" "I", Cond.methodLink RX4 150 yX1_letUp]
def wsX4_lightest_r2 : List Cond := [Cond.instanceMethod yX1_letUp, Cond.selects RX1 yX1_letUp yX1_letUp, Cond.initialized RX1, Cond.code yX1_letUp cX1_letUp 5 none, Cond.fieldLink RX1 9 "WindPost$Letter" "weight" "I", Cond.fieldLink RX1 15 "WindPost$Letter" "from" "I", Cond.fieldLink RX1 18 "WindPost$Letter" "to" "I", Cond.fieldLink RX1 27 "WindPost$Letter" "place" "I", Cond.fieldLink RX1 30 "WindPost$Letter" "marks" "I", Cond.fieldLink RX1 33 "WindPost$Letter" "how" "I", Cond.fieldLink RX1 36 "WindPost$Chart" "force" "I", Cond.fieldLink RX1 39 "WindPost$Letter" "reach" "I", Cond.methodLink RX1 21 yX0_cellOfIsle, Cond.instanceMethod yX0_cellOfIsle, Cond.selects RX0 yX0_cellOfIsle yX0_cellOfIsle, Cond.initialized RX0, Cond.code yX0_cellOfIsle cX0_cellOfIsle 2 (some .int), Cond.fieldLink RX0 9 "WindPost$Chart" "isleCells" "[I", Cond.methodLink RX4 178 yX4_arrival, Cond.instanceMethod yX4_arrival, Cond.selects RX4 yX4_arrival yX4_arrival, Cond.code yX4_arrival cX4_arrival 5 (some .int), Cond.fieldLink RX4 131 "WindPost$Letter" "how" "I", Cond.fieldLink RX4 158 "WindPost$Moment" "told" "I"]
def wsX4_lightest_r3 : List Cond := [Cond.methodLink RX4 181 Lib.Math.max.name, Cond.static Lib.Math.max.name, Cond.initialized "java/lang/Math", Cond.code Lib.Math.max.name Lib.Math.max.code 2 (some .int), Cond.methodLink RX4 254 Lib.Math.min.name, Cond.static Lib.Math.min.name, Cond.code Lib.Math.min.name Lib.Math.min.code 2 (some .int), Cond.methodLink RX4 95 yX0_cells, Cond.instanceMethod yX0_cells, Cond.selects RX0 yX0_cells yX0_cells, Cond.code yX0_cells cX0_cells 1 (some .int), Cond.fieldLink RX0 30 "WindPost$Chart" "wide" "I", Cond.fieldLink RX0 34 "WindPost$Chart" "high" "I", Cond.methodLink RX0 49 Lib.Math.min.name, Cond.methodLink RX4 105 yX2_windOf, Cond.instanceMethod yX2_windOf, Cond.selects RX2 yX2_windOf yX2_windOf, Cond.initialized RX2, Cond.code yX2_windOf cX2_windOf 2 (some .int), Cond.fieldLink RX2 37 "WindPost$Moment" "told" "I", Cond.fieldLink RX2 9 "WindPost$Moment" "winds" "[I", Cond.methodLink RX2 43 yJ9_floorMod_7cf53, Cond.static yJ9_floorMod_7cf53, Cond.initialized RJ9]
def wsX4_lightest_r4 : List Cond := [Cond.code yJ9_floorMod_7cf53 cJ9_floorMod_7cf53 3 (some .int), Cond.methodLink RX4 154 yX1_passHour, Cond.instanceMethod yX1_passHour, Cond.selects RX1 yX1_passHour yX1_passHour, Cond.code yX1_passHour cX1_passHour 6 none, Cond.methodLink RX1 42 yX0_endOf, Cond.instanceMethod yX0_endOf, Cond.selects RX0 yX0_endOf yX0_endOf, Cond.code yX0_endOf cX0_endOf 4 (some .int), Cond.fieldLink RX0 21 "WindPost$Chart" "ends" "[I", Cond.methodLink RX1 46 yX0_onCell, Cond.instanceMethod yX0_onCell, Cond.selects RX0 yX0_onCell yX0_onCell, Cond.code yX0_onCell cX0_onCell 2 (some .int), Cond.fieldLink RX0 15 "WindPost$Chart" "holds" "[I", Cond.static yX4_bitOf, Cond.code yX4_bitOf cX4_bitOf 2 (some .int)]
def wsX4_lightest : List Cond := .code yX4_lightest cX4_lightest 6 (some .int) :: ((wsX4_lightest_r1 ++ (wsX4_lightest_r2 ++ (wsX4_lightest_r3 ++ wsX4_lightest_r4))) ++ wsX40 ++ wsX20 ++ wsX00 ++ wsX10)
def wsX4_keepsOff_r1 : List Cond := [Cond.fieldLink RX4 29 "WindPost" "now" "LWindPost$Moment;", Cond.fieldLink RX4 88 "WindPost$Moment" "nets" "I", Cond.methodLink RX4 190 yX4_supposed, Cond.instanceMethod yX4_supposed, Cond.selects RX4 yX4_supposed yX4_supposed, Cond.initialized RX4, Cond.code yX4_supposed cX4_supposed 6 (some .int), Cond.fieldLink RX4 47 "WindPost" "probe" "LWindPost$Letter;", Cond.fieldLink RX4 19 "WindPost" "chart" "LWindPost$Chart;", Cond.fieldLink RX4 257 "WindPost$Letter" "reach" "I", Cond.fieldLink RX4 102 "WindPost$Moment" "time" "I", Cond.methodLink RX4 150 yX1_letUp, Cond.instanceMethod yX1_letUp, Cond.selects RX1 yX1_letUp yX1_letUp, Cond.initialized RX1, Cond.code yX1_letUp cX1_letUp 5 none, Cond.fieldLink RX1 9 "WindPost$Letter" "weight" "I", Cond.fieldLink RX1 15 "WindPost$Letter" "from" "I", Cond.fieldLink RX1 18 "WindPost$Letter" "to" "I", Cond.fieldLink RX1 27 "WindPost$Letter" "place" "I", Cond.fieldLink RX1 30 "WindPost$Letter" "marks" "I", Cond.fieldLink RX1 33 "WindPost$Letter" "how" "I", Cond.fieldLink RX1 36 "WindPost$Chart" "force" "I", Cond.fieldLink RX1 39 "WindPost$Letter" "reach" "I"]
def wsX4_keepsOff_r2 : List Cond := [Cond.methodLink RX1 21 yX0_cellOfIsle, Cond.instanceMethod yX0_cellOfIsle, Cond.selects RX0 yX0_cellOfIsle yX0_cellOfIsle, Cond.initialized RX0, Cond.code yX0_cellOfIsle cX0_cellOfIsle 2 (some .int), Cond.fieldLink RX0 9 "WindPost$Chart" "isleCells" "[I", Cond.methodLink RX4 178 yX4_arrival, Cond.instanceMethod yX4_arrival, Cond.selects RX4 yX4_arrival yX4_arrival, Cond.code yX4_arrival cX4_arrival 5 (some .int), Cond.fieldLink RX4 131 "WindPost$Letter" "how" "I", Cond.fieldLink RX4 158 "WindPost$Moment" "told" "I", Cond.methodLink RX4 181 Lib.Math.max.name, Cond.static Lib.Math.max.name, Cond.initialized "java/lang/Math", Cond.code Lib.Math.max.name Lib.Math.max.code 2 (some .int), Cond.methodLink RX4 254 Lib.Math.min.name, Cond.static Lib.Math.min.name, Cond.code Lib.Math.min.name Lib.Math.min.code 2 (some .int), Cond.methodLink RX4 95 yX0_cells, Cond.instanceMethod yX0_cells, Cond.selects RX0 yX0_cells yX0_cells, Cond.code yX0_cells cX0_cells 1 (some .int), Cond.fieldLink RX0 30 "WindPost$Chart" "wide" "I"]
def wsX4_keepsOff_r3 : List Cond := [Cond.fieldLink RX0 34 "WindPost$Chart" "high" "I", Cond.methodLink RX0 49 Lib.Math.min.name, Cond.methodLink RX4 105 yX2_windOf, Cond.instanceMethod yX2_windOf, Cond.selects RX2 yX2_windOf yX2_windOf, Cond.initialized RX2, Cond.code yX2_windOf cX2_windOf 2 (some .int), Cond.fieldLink RX2 37 "WindPost$Moment" "told" "I", Cond.fieldLink RX2 9 "WindPost$Moment" "winds" "[I", Cond.methodLink RX2 43 yJ9_floorMod_7cf53, Cond.static yJ9_floorMod_7cf53, Cond.initialized RJ9, Cond.code yJ9_floorMod_7cf53 cJ9_floorMod_7cf53 3 (some .int), Cond.methodLink RX4 154 yX1_passHour, Cond.instanceMethod yX1_passHour, Cond.selects RX1 yX1_passHour yX1_passHour, Cond.code yX1_passHour cX1_passHour 6 none, Cond.methodLink RX1 42 yX0_endOf, Cond.instanceMethod yX0_endOf, Cond.selects RX0 yX0_endOf yX0_endOf, Cond.code yX0_endOf cX0_endOf 4 (some .int), Cond.fieldLink RX0 21 "WindPost$Chart" "ends" "[I", Cond.methodLink RX1 46 yX0_onCell, Cond.instanceMethod yX0_onCell]
def wsX4_keepsOff_r4 : List Cond := [Cond.selects RX0 yX0_onCell yX0_onCell, Cond.code yX0_onCell cX0_onCell 2 (some .int), Cond.fieldLink RX0 15 "WindPost$Chart" "holds" "[I", Cond.static yX4_bitOf, Cond.code yX4_bitOf cX4_bitOf 2 (some .int)]
def wsX4_keepsOff : List Cond := .code yX4_keepsOff cX4_keepsOff 6 (some .boolean) :: ((wsX4_keepsOff_r1 ++ (wsX4_keepsOff_r2 ++ (wsX4_keepsOff_r3 ++ wsX4_keepsOff_r4))) ++ wsX40 ++ wsX20 ++ wsX10 ++ wsX00)
def wsX4_hasWordOf_r1 : List Cond := [Cond.methodLink RX4 205 yX4_keepsOff, Cond.instanceMethod yX4_keepsOff, Cond.selects RX4 yX4_keepsOff yX4_keepsOff, Cond.initialized RX4, Cond.code yX4_keepsOff cX4_keepsOff 6 (some .boolean), Cond.fieldLink RX4 29 "WindPost" "now" "LWindPost$Moment;", Cond.fieldLink RX4 88 "WindPost$Moment" "nets" "I", Cond.methodLink RX4 190 yX4_supposed, Cond.instanceMethod yX4_supposed, Cond.selects RX4 yX4_supposed yX4_supposed, Cond.code yX4_supposed cX4_supposed 6 (some .int), Cond.fieldLink RX4 47 "WindPost" "probe" "LWindPost$Letter;", Cond.fieldLink RX4 19 "WindPost" "chart" "LWindPost$Chart;", Cond.fieldLink RX4 257 "WindPost$Letter" "reach" "I", Cond.fieldLink RX4 102 "WindPost$Moment" "time" "I", Cond.methodLink RX4 150 yX1_letUp, Cond.instanceMethod yX1_letUp, Cond.selects RX1 yX1_letUp yX1_letUp, Cond.initialized RX1, Cond.code yX1_letUp cX1_letUp 5 none, Cond.fieldLink RX1 9 "WindPost$Letter" "weight" "I", Cond.fieldLink RX1 15 "WindPost$Letter" "from" "I", Cond.fieldLink RX1 18 "WindPost$Letter" "to" "I", Cond.fieldLink RX1 27 "WindPost$Letter" "place" "I"]
abbrev vwCl : List vw_C := [(RX0, TX0, 10), (RX1, TX1, 7), (RX2, TX2, 6), (RX3, TX3, 8), (RX4, TX4, 12), (RX5, TX5, 22)]
end
section
/-! ===== my base: worlds of numbered cells over one flat memory; rows over them ===== -/
abbrev zMem : Type := Nat → Nat → Int32
abbrev zR : Type := Option (Int32 × zMem × Int64)
def up2 (G : zMem) (c k : Nat) (v : Int32) : zMem := fun c' => if c' = c then upd (G c) k v else G c'
theorem up2_self (G : zMem) (c k : Nat) (v : Int32) : up2 G c k v c = upd (G c) k v := if_pos rfl
theorem up2_ne (G : zMem) {c c' : Nat} (k : Nat) (v : Int32) (h : c' ≠ c) : up2 G c k v c' = G c' := if_neg h
/-- words of the decompiled functions -/
def zin {α : Type} (i : Int32) (n : Nat) (x : Option α) : Option α := if i < 0 ∨ n ≤ i.toNatClampNeg then none else x
theorem zin_some {α : Type} {i : Int32} {n : Nat} {x : Option α} {r : α} (h : zin i n x = some r) : vp_in i n ∧ x = some r := by
  unfold zin at h
  by_cases hc : i < 0 ∨ n ≤ i.toNatClampNeg
  · rw [if_pos hc] at h; cases h
  · rw [if_neg hc] at h; exact ⟨hc, h⟩
def zdv {α : Type} (y : Int32) (x : Option α) : Option α := if y = 0 then none else x
theorem zdv_some {α : Type} {y : Int32} {x : Option α} {r : α} (h : zdv y x = some r) : ¬ y = 0 ∧ x = some r := by
  unfold zdv at h
  by_cases hc : y = 0
  · rw [if_pos hc] at h; cases h
  · rw [if_neg hc] at h; exact ⟨hc, h⟩
def zbd {α β : Type} (F : Option (α × zMem × Int64)) (k : α → zMem → Int64 → Option β) : Option β := match F with
  | none => none
  | some q => k q.1 q.2.1 q.2.2
theorem zbd_some {α β : Type} {F : Option (α × zMem × Int64)} {k : α → zMem → Int64 → Option β} {x : β} (h : zbd F k = some x) : ∃ (r : α) (G : zMem) (tr : Int64), F = some (r, G, tr) ∧ k r G tr = some x := by
  cases F with
  | none => cases h
  | some q => exact ⟨q.1, q.2.1, q.2.2, rfl, h⟩
def zbp {α β : Type} (F : Option α) (k : α → Option β) : Option β := match F with
  | none => none
  | some q => k q
theorem zbp_some {α β : Type} {F : Option α} {k : α → Option β} {x : β} (h : zbp F k = some x) : ∃ r : α, F = some r ∧ k r = some x := by
  cases F with
  | none => cases h
  | some q => exact ⟨q, rfl, h⟩
def zpu (F : Option Int32) (G : zMem) (tr : Int64) : zR := match F with
  | none => none
  | some r => some (r, G, tr)
theorem zpu_some {F : Option Int32} {G G9 : zMem} {tr tr9 : Int64} {r9 : Int32} (h : zpu F G tr = some (r9, G9, tr9)) : F = some r9 ∧ G = G9 ∧ tr = tr9 := by
  cases F with
  | none => cases h
  | some r => cases h; exact ⟨rfl, rfl, rfl⟩
theorem zpu_of {F : Option Int32} {G : zMem} {tr : Int64} {r : Int32} (h : F = some r) : zpu F G tr = some (r, G, tr) := by rw [h]; rfl
/-- a boolean answer -/
def zbo {α : Type} (v : Int32) (x : Option α) : Option α := if v = 0 ∨ v = 1 then x else none
theorem zbo_some {α : Type} {v : Int32} {x : Option α} {r : α} (h : zbo v x = some r) : (v = 0 ∨ v = 1) ∧ x = some r := by
  unfold zbo at h
  by_cases hc : v = 0 ∨ v = 1
  · rw [if_pos hc] at h; exact ⟨hc, h⟩
  · rw [if_neg hc] at h; cases h
theorem zbo_nar {v : Int32} (h : v = 0 ∨ v = 1) : narrow .boolean (.int v) = .int v := by rcases h with rfl | rfl <;> rfl
theorem zbo_vp {v : Int32} (h : v = 0 ∨ v = 1) : vp_nar .boolean v = v := by rcases h with rfl | rfl <;> rfl
theorem zif_pos {α : Type} {c : Prop} [Decidable c] {a b x : α} (hc : c) (h : (if c then a else b) = x) : a = x := (if_pos hc).symm.trans h
theorem zif_neg {α : Type} {c : Prop} [Decidable c] {a b x : α} (hc : ¬ c) (h : (if c then a else b) = x) : b = x := (if_neg hc).symm.trans h
theorem ztoInt_ne {x y : Int32} (h : ¬ x = y) : ¬ x.toInt = y.toInt := fun e => h (Int32.toInt_inj.mp e)
/-! the world -/
def gW (cs : List Nat) (ad : Nat → Nat) (E : Nat → va_E) : va_W := cs.map (fun c => (ad c, E c))
theorem gW_inv {cs : List Nat} {ad : Nat → Nat} {E : Nat → va_E} {k : Nat} {q : Nat × va_E} (h : (gW cs ad E)[k]? = some q) : ∃ c, cs[k]? = some c ∧ q = (ad c, E c) := by
  unfold gW at h
  rw [List.getElem?_map] at h
  cases hc : cs[k]? with
  | none => rw [hc] at h; cases h
  | some c => rw [hc] at h; exact ⟨c, rfl, (Option.some.inj h).symm⟩
theorem gW_at {cs : List Nat} {ad : Nat → Nat} {E : Nat → va_E} {k c : Nat} (h : cs[k]? = some c) : (gW cs ad E)[k]? = some (ad c, E c) := by
  unfold gW
  rw [List.getElem?_map, h]; rfl
theorem gW_get {cs : List Nat} {ad : Nat → Nat} {E : Nat → va_E} {c : Nat} (h : c ∈ cs) : ∃ k : Nat, cs[k]? = some c ∧ (gW cs ad E)[k]? = some (ad c, E c) := by
  obtain ⟨k, hk⟩ := List.getElem?_of_mem h
  exact ⟨k, hk, gW_at hk⟩
theorem gW_len {cs : List Nat} {ad : Nat → Nat} {E : Nat → va_E} : (gW cs ad E).length = cs.length := by simp [gW]
theorem gW_set {cs : List Nat} {ad : Nat → Nat} {E E' : Nat → va_E} {c k : Nat} {e : va_E} {A : Nat → Prop} (hD : va_D A (gW cs ad E)) (h : cs[k]? = some c) (h1 : ∀ c', c' ≠ c → E' c' = E c') (h2 : E' c = e) : (gW cs ad E).set k (ad c, e) = gW cs ad E' := by
  apply List.ext_getElem?
  intro j
  by_cases hj : j = k
  · subst hj
    rw [List.getElem?_set_self (by rw [gW_len]; exact (List.getElem?_eq_some_iff.mp h).1), gW_at h, h2]
  · rw [List.getElem?_set_ne (Ne.symm hj)]
    cases hc : cs[j]? with
    | none =>
      have hl : cs.length ≤ j := List.getElem?_eq_none_iff.mp hc
      rw [List.getElem?_eq_none (by rw [gW_len]; exact hl), List.getElem?_eq_none (by rw [gW_len]; exact hl)]
    | some c' =>
      rw [gW_at hc, gW_at hc]
      have hne : c' ≠ c := by
        intro he
        subst he
        exact hj (hD.1 j k _ _ (gW_at hc) (gW_at h) rfl)
      rw [h1 c' hne]
theorem gD_any {cs : List Nat} {ad : Nat → Nat} {E E' : Nat → va_E} {A : Nat → Prop} (hD : va_D A (gW cs ad E)) : va_D A (gW cs ad E') := by
  refine ⟨fun i j x y hi hj hxy => ?_, fun k q hk => ?_⟩
  · obtain ⟨a, h1, rfl⟩ := gW_inv hi
    obtain ⟨b, h2, rfl⟩ := gW_inv hj
    exact hD.1 i j _ _ (gW_at h1) (gW_at h2) hxy
  · obtain ⟨a, h1, rfl⟩ := gW_inv hk
    exact hD.2 k (ad a, E a) (gW_at h1)
/-- which cells a method may change -/
def gA (cs : List Nat) (ad : Nat → Nat) (sz : Nat) : Nat → Prop := fun q => (∃ c, c ∈ cs ∧ q = ad c) ∨ sz ≤ q
theorem gA_eq {cs : List Nat} {ad : Nat → Nat} {E : Nat → va_E} {sz : Nat} : va_A (gW cs ad E) sz = gA cs ad sz := by
  funext q
  apply propext
  constructor
  · rintro (⟨k, e, h⟩ | h)
    · obtain ⟨c, hk, hq⟩ := gW_inv h
      exact Or.inl ⟨c, List.mem_of_getElem? hk, congrArg Prod.fst hq⟩
    · exact Or.inr h
  · rintro (⟨c, hc, rfl⟩ | h)
    · obtain ⟨k, -, hk⟩ := gW_get (ad := ad) (E := E) hc
      exact Or.inl ⟨k, E c, hk⟩
    · exact Or.inr h
/-- the nest's links -/
def nK (U : State) : Prop := va_Nw (.methodLinkNest "WindPost" 9 yX3_init "WindPost") U ∧ va_Nw (.methodLinkNest "WindPost$Moment" 21 yX1_init "WindPost") U ∧ va_Nw (.methodLinkNest "WindPost" 46 yX1_init "WindPost") U ∧ va_Nw (.methodLinkNest "WindPost$Text" 109 yX4_isWithin "WindPost") U ∧ va_Nw (.methodLinkNest "WindPost$Letter" 49 yX4_bitOf "WindPost") U
theorem nK_same {u U : State} (h : u.vm = U.vm) (z : nK u) : nK U := ⟨va_Nw.same rfl h z.1, va_Nw.same rfl h z.2.1, va_Nw.same rfl h z.2.2.1, va_Nw.same rfl h z.2.2.2.1, va_Nw.same rfl h z.2.2.2.2⟩
theorem nK_warm {s U : State} (h : s.WarmedH U.vm) (z : nK s) : nK U := ⟨va_Nw.warmM h z.1, va_Nw.warmM h z.2.1, va_Nw.warmM h z.2.2.1, va_Nw.warmM h z.2.2.2.1, va_Nw.warmM h z.2.2.2.2⟩
/-- the arrays' classes -/
def zT (ki : Nat → ClassId) : List (ClassId × FieldType) := [(ki 0, .int), (ki 1, .boolean), (ki 2, .object "WindPost$Letter"), (ki 3, .object "WindPost$Moment")]
/-- what stays through a method -/
def gK (D : va_G) (ki : Nat → ClassId) (cs : List Nat) (ad : Nat → Nat) (A : Nat → Prop) (s : State) : Prop := va_K D vwCl (zT ki) s ∧ nK s ∧ (∀ E, va_D A (gW cs ad E)) ∧ ∀ q : Nat, s.heap.size ≤ q → A q
/-- what moves -/
def gS (D : va_G) (cs : List Nat) (ad : Nat → Nat) (E : Nat → va_E) (A : Nat → Prop) (s : State) (H : Heap) (locs : List Loc) : Prop := va_P D vwCl (gW cs ad E) H ∧ va_S A s.heap H locs
/-- a method's start -/
def gB (D : va_G) (ki : Nat → ClassId) (cs : List Nat) (ad : Nat → Nat) (E : Nat → va_E) (sz : Nat) : State → Prop := fun U => U.heap.size = sz ∧ va_K D vwCl (zT ki) U ∧ nK U ∧ va_P D vwCl (gW cs ad E) U.heap ∧ va_D (fun _ => True) (gW cs ad E)
theorem gB_blind {D : va_G} {ki : Nat → ClassId} {cs : List Nat} {ad : Nat → Nat} {E : Nat → va_E} {sz : Nat} {av : List Value} : FrameBlind (va_Pc av (gB D ki cs ad E sz)) := fun a U g mk q => by
  obtain ⟨q0, q1, qK, qN, qP, qD⟩ := q
  exact ⟨q0, q1, va_K.moved (u := U) (U := U.calling g mk a) (Vm.Alike.refl U.vm) qK, nK_same (u := U) (U := U.calling g mk a) rfl qN, qP, qD⟩
theorem gB_pre {D : va_G} {ki : Nat → ClassId} {cs : List Nat} {ad : Nat → Nat} {E : Nat → va_E} {A : Nat → Prop} {s : State} {H : Heap} {locs : List Loc} {av : List Value} (K : gK D ki cs ad A s) (X : gS D cs ad E A s H locs) : ∀ U : State, U.heap = H → s.WarmedH U.vm → va_Pc av (gB D ki cs ad E H.size) av.toArray U :=
  fun U hU hW => ⟨rfl, by rw [hU], va_K.moved hW.alike K.1, nK_warm hW K.2.1, by rw [hU]; exact X.1, (K.2.2.1 E).weaken (fun _ _ _ _ => trivial)⟩
def zQI (below : List Frame) (args : Array Value) (s : State) (D : va_G) (cs : List Nat) (ad : Nat → Nat) (E : Nat → va_E) (r : Int32) : State → Prop := MQ below (va_Qi (S := Unit) (fun r0 _ => r0 = r) (fun _ t => va_P D vwCl (gW cs ad E) t.heap) (gA cs ad s.heap.size)) args s 0 0 (gA cs ad s.heap.size)
def zQV (below : List Frame) (args : Array Value) (s : State) (D : va_G) (cs : List Nat) (ad : Nat → Nat) (E : Nat → va_E) : State → Prop := MQ below (va_Qv (S := Unit) (fun _ => True) (fun _ t => va_P D vwCl (gW cs ad E) t.heap) (gA cs ad s.heap.size)) args s 0 0 (gA cs ad s.heap.size)
def zQL (below : List Frame) (args : Array Value) (s : State) (D : va_G) (cs : List Nat) (ad : Nat → Nat) (E : Nat → va_E) (r : Int64) : State → Prop := MQ below (va_Ql (S := Unit) (fun r0 _ => r0 = r) (fun _ t => va_P D vwCl (gW cs ad E) t.heap) (gA cs ad s.heap.size)) args s 0 0 (gA cs ad s.heap.size)
def zQA (below : List Frame) (args : Array Value) (s : State) (D : va_G) (cs : List Nat) (ad : Nat → Nat) (E : Nat → va_E) (c0 : Nat) : State → Prop := MQ below (va_Qr (S := Unit) (fun _ => True) (fun _ a t => a = ad c0 ∧ va_P D vwCl (gW cs ad E) t.heap) (gA cs ad s.heap.size)) args s 0 0 (gA cs ad s.heap.size)
/-- the contracts: what the function F says, the method does -/
def gMetI (l : Launch) (D : va_G) (ki : Nat → ClassId) (ad : Nat → Nat) (cs : List Nat) (y : MethodName) (ws : List Cond) (rm : Room) (av : List Value) (E : zMem → Int64 → Nat → va_E) (G : zMem) (tr : Int64) (F : zR) : Prop :=
  ∀ (sz : Nat) (r : Int32) (G' : zMem) (tr' : Int64), F = some (r, G', tr') → Met l y ws rm (va_Pc av (gB D ki cs ad (E G tr) sz)) (va_Qi (S := Unit) (fun r0 _ => r0 = r) (fun _ t => va_P D vwCl (gW cs ad (E G' tr')) t.heap) (gA cs ad sz)) 0 0 (gA cs ad sz)
def gMetV (l : Launch) (D : va_G) (ki : Nat → ClassId) (ad : Nat → Nat) (cs : List Nat) (y : MethodName) (ws : List Cond) (rm : Room) (av : List Value) (E : zMem → Int64 → Nat → va_E) (G : zMem) (tr : Int64) (F : zR) : Prop :=
  ∀ (sz : Nat) (r : Int32) (G' : zMem) (tr' : Int64), F = some (r, G', tr') → Met l y ws rm (va_Pc av (gB D ki cs ad (E G tr) sz)) (va_Qv (S := Unit) (fun _ => True) (fun _ t => va_P D vwCl (gW cs ad (E G' tr')) t.heap) (gA cs ad sz)) 0 0 (gA cs ad sz)
def gMetL (l : Launch) (D : va_G) (ki : Nat → ClassId) (ad : Nat → Nat) (cs : List Nat) (y : MethodName) (ws : List Cond) (rm : Room) (av : List Value) (E : zMem → Int64 → Nat → va_E) (G : zMem) (tr : Int64) (F : Option (Int64 × zMem × Int64)) : Prop :=
  ∀ (sz : Nat) (r : Int64) (G' : zMem) (tr' : Int64), F = some (r, G', tr') → Met l y ws rm (va_Pc av (gB D ki cs ad (E G tr) sz)) (va_Ql (S := Unit) (fun r0 _ => r0 = r) (fun _ t => va_P D vwCl (gW cs ad (E G' tr')) t.heap) (gA cs ad sz)) 0 0 (gA cs ad sz)
def gMetA (l : Launch) (D : va_G) (ki : Nat → ClassId) (ad : Nat → Nat) (cs : List Nat) (y : MethodName) (ws : List Cond) (rm : Room) (av : List Value) (E : zMem → Int64 → Nat → va_E) (G : zMem) (tr : Int64) (c0 : Nat) (F : zR) : Prop :=
  ∀ (sz : Nat) (r : Int32) (G' : zMem) (tr' : Int64), F = some (r, G', tr') → Met l y ws rm (va_Pc av (gB D ki cs ad (E G tr) sz)) (va_Qr (S := Unit) (fun _ => True) (fun _ a t => a = ad c0 ∧ va_P D vwCl (gW cs ad (E G' tr')) t.heap) (gA cs ad sz)) 0 0 (gA cs ad sz)
theorem gK_of {D : va_G} {ki : Nat → ClassId} {cs : List Nat} {ad : Nat → Nat} {E : Nat → va_E} {s : State} (hK : va_K D vwCl (zT ki) s) (hN : nK s) (hD : va_D (fun _ => True) (gW cs ad E)) : gK D ki cs ad (gA cs ad s.heap.size) s :=
  ⟨hK, hN, fun E' => gD_any (E := E) (by rw [← gA_eq (E := E)]; exact hD.self), fun q h => Or.inr h⟩
section gStart
variable {l : Launch} {D : va_G} {ki : Nat → ClassId} {ad : Nat → Nat} {cs : List Nat} {y : MethodName} {ws ws' : List Cond} {rm : Room} {av : List Value} {E : zMem → Int64 → Nat → va_E} {G : zMem} {tr : Int64} {cc : ByteArray} {maxL : Nat} {own : String}
theorem gMetI_of {F : zR} {ret : Option FieldType} (hy : plainFor y = true) (hown : y.cls = own) (hw : ws = Cond.code y cc maxL ret :: ws') (hen : (lg_sl av).length ≤ maxL)
    (body : ∀ (r9 : Int32) (G9 : zMem) (tr9 : Int64), F = some (r9, G9, tr9) → ∀ (p : Program) (e : Env) (s : State) (m : MethodId) (below : List Frame) (meth : Method) (c : Code), CallFix p m c cc maxL s av.toArray ws own → meth.sig.returnType = ret → meth.locks = false → gK D ki cs ad (gA cs ad s.heap.size) s → gS D cs ad (E G tr) (gA cs ad s.heap.size) s s.heap [] → ∀ ls : Array Slot, lv_has ls maxL (lv_args 0 av) →
      W p l e (headSpec ws rm).room s m av.toArray below meth c s.heap [] 0 0 (zQI below av.toArray s D cs ad (E G9 tr9) r9) (F0 m 0 ls [])) : gMetI l D ki ad cs y ws rm av E G tr F := by
  intro sz r9 G9 tr9 h
  refine va_MetF (cc := cc) (maxL := maxL) (ret := ret) hy hw ?_
  intro p e s m args below meth c s₁ B hml hv
  obtain ⟨rfl, rfl, hK, hN, hP, hD⟩ := hv
  rw [lg_entry_eq]
  exact body r9 G9 tr9 h p e s m below meth c ⟨B.exec, B.bytes, hml, by rw [← hown]; exact findClass_of_methodNamed B.named, atoms_spec (ws := ws) B.pre⟩ B.returns B.notSynchronized (gK_of hK hN hD) ⟨hP, va_S.rf⟩ _ (lv_entry av hen)
theorem gMetV_of {F : zR} {ret : Option FieldType} (hy : plainFor y = true) (hown : y.cls = own) (hw : ws = Cond.code y cc maxL ret :: ws') (hen : (lg_sl av).length ≤ maxL)
    (body : ∀ (r9 : Int32) (G9 : zMem) (tr9 : Int64), F = some (r9, G9, tr9) → ∀ (p : Program) (e : Env) (s : State) (m : MethodId) (below : List Frame) (meth : Method) (c : Code), CallFix p m c cc maxL s av.toArray ws own → meth.sig.returnType = ret → meth.locks = false → gK D ki cs ad (gA cs ad s.heap.size) s → gS D cs ad (E G tr) (gA cs ad s.heap.size) s s.heap [] → ∀ ls : Array Slot, lv_has ls maxL (lv_args 0 av) →
      W p l e (headSpec ws rm).room s m av.toArray below meth c s.heap [] 0 0 (zQV below av.toArray s D cs ad (E G9 tr9)) (F0 m 0 ls [])) : gMetV l D ki ad cs y ws rm av E G tr F := by
  intro sz r9 G9 tr9 h
  refine va_MetF (cc := cc) (maxL := maxL) (ret := ret) hy hw ?_
  intro p e s m args below meth c s₁ B hml hv
  obtain ⟨rfl, rfl, hK, hN, hP, hD⟩ := hv
  rw [lg_entry_eq]
  exact body r9 G9 tr9 h p e s m below meth c ⟨B.exec, B.bytes, hml, by rw [← hown]; exact findClass_of_methodNamed B.named, atoms_spec (ws := ws) B.pre⟩ B.returns B.notSynchronized (gK_of hK hN hD) ⟨hP, va_S.rf⟩ _ (lv_entry av hen)
theorem gMetL_of {F : Option (Int64 × zMem × Int64)} {ret : Option FieldType} (hy : plainFor y = true) (hown : y.cls = own) (hw : ws = Cond.code y cc maxL ret :: ws') (hen : (lg_sl av).length ≤ maxL)
    (body : ∀ (r9 : Int64) (G9 : zMem) (tr9 : Int64), F = some (r9, G9, tr9) → ∀ (p : Program) (e : Env) (s : State) (m : MethodId) (below : List Frame) (meth : Method) (c : Code), CallFix p m c cc maxL s av.toArray ws own → meth.sig.returnType = ret → meth.locks = false → gK D ki cs ad (gA cs ad s.heap.size) s → gS D cs ad (E G tr) (gA cs ad s.heap.size) s s.heap [] → ∀ ls : Array Slot, lv_has ls maxL (lv_args 0 av) →
      W p l e (headSpec ws rm).room s m av.toArray below meth c s.heap [] 0 0 (zQL below av.toArray s D cs ad (E G9 tr9) r9) (F0 m 0 ls [])) : gMetL l D ki ad cs y ws rm av E G tr F := by
  intro sz r9 G9 tr9 h
  refine va_MetF (cc := cc) (maxL := maxL) (ret := ret) hy hw ?_
  intro p e s m args below meth c s₁ B hml hv
  obtain ⟨rfl, rfl, hK, hN, hP, hD⟩ := hv
  rw [lg_entry_eq]
  exact body r9 G9 tr9 h p e s m below meth c ⟨B.exec, B.bytes, hml, by rw [← hown]; exact findClass_of_methodNamed B.named, atoms_spec (ws := ws) B.pre⟩ B.returns B.notSynchronized (gK_of hK hN hD) ⟨hP, va_S.rf⟩ _ (lv_entry av hen)
theorem gMetA_of {c0 : Nat} {F : zR} {ret : Option FieldType} (hy : plainFor y = true) (hown : y.cls = own) (hw : ws = Cond.code y cc maxL ret :: ws') (hen : (lg_sl av).length ≤ maxL)
    (body : ∀ (r9 : Int32) (G9 : zMem) (tr9 : Int64), F = some (r9, G9, tr9) → ∀ (p : Program) (e : Env) (s : State) (m : MethodId) (below : List Frame) (meth : Method) (c : Code), CallFix p m c cc maxL s av.toArray ws own → meth.sig.returnType = ret → meth.locks = false → gK D ki cs ad (gA cs ad s.heap.size) s → gS D cs ad (E G tr) (gA cs ad s.heap.size) s s.heap [] → ∀ ls : Array Slot, lv_has ls maxL (lv_args 0 av) →
      W p l e (headSpec ws rm).room s m av.toArray below meth c s.heap [] 0 0 (zQA below av.toArray s D cs ad (E G9 tr9) c0) (F0 m 0 ls [])) : gMetA l D ki ad cs y ws rm av E G tr c0 F := by
  intro sz r9 G9 tr9 h
  refine va_MetF (cc := cc) (maxL := maxL) (ret := ret) hy hw ?_
  intro p e s m args below meth c s₁ B hml hv
  obtain ⟨rfl, rfl, hK, hN, hP, hD⟩ := hv
  rw [lg_entry_eq]
  exact body r9 G9 tr9 h p e s m below meth c ⟨B.exec, B.bytes, hml, by rw [← hown]; exact findClass_of_methodNamed B.named, atoms_spec (ws := ws) B.pre⟩ B.returns B.notSynchronized (gK_of hK hN hD) ⟨hP, va_S.rf⟩ _ (lv_entry av hen)
end gStart
/-- a place in the code, with all that the rows need -/
def zAt (p : Program) (l : Launch) (e : Env) (R : Room) (s : State) (m : MethodId) (args : Array Value) (below : List Frame) (meth : Method) (c : Code) (nL : Nat) (D : va_G) (cs : List Nat) (ad : Nat → Nat) (Q : State → Prop) (pc : Nat) (lv : List (Nat × Value)) (st : List Value) (E : Nat → va_E) : Prop :=
  ∀ (H : Heap) (locs : List Loc) (ls : Array Slot), gS D cs ad E (gA cs ad s.heap.size) s H locs → lv_has ls nL lv → W p l e R s m args below meth c H locs 0 0 Q (F0 m pc ls st)
/-- a world's own words change at one cell -/
def zLoc (E : zMem → Int64 → Nat → va_E) : Prop := ∀ (G : zMem) (tr : Int64) (c k : Nat) (v : Int32) (c' : Nat), c' ≠ c → E (up2 G c k v) tr c' = E G tr c'
section gRows
variable {p : Program} {l : Launch} {e : Env} {R : Room} {s : State} {m : MethodId} {args : Array Value} {below : List Frame} {meth : Method} {c : Code} {H : Heap} {locs : List Loc} {cells slots : Nat} {Q : State → Prop}
variable {cc : ByteArray} {nL pc : Nat} {ls : Array Slot} {rest : List Value} {D : va_G} {ki : Nat → ClassId} {cs : List Nat} {ad : Nat → Nat} {A : Nat → Prop} {Ts : List Cond} {own : String}
variable {Eg : zMem → Int64 → Nat → va_E} {G : zMem} {tr : Int64} {c0 : Nat}
theorem zr_get {E : Nat → va_E} {C ref nm ds : String} {T : u_T} {N ci index : Nat} {fs : List Value} {fin : Bool} {v : Value} (S : CallFix p m c cc nL s args Ts own) (K : gK D ki cs ad A s) (X : gS D cs ad E A s H locs) (hc : c0 ∈ cs) (he : E c0 = .inr (ci, fs)) (hcl : vwCl[ci]? = some (C, T, N)) (hin : ∀ w ∈ u_ws C T N, w ∈ Ts) (k : Nat) (hk : k < N) (hl : Cond.fieldLink own index ref nm ds ∈ Ts) (hT : T k = (ref, nm, ds, fin)) (hv : fs[k]? = some v) (hdg : decode cc pc = .ok (.getfield index, 3))
    (kk : W p l e R s m args below meth c H locs cells slots Q (F0 m (pc + 3) ls (v :: rest))) : W p l e R s m args below meth c H locs cells slots Q (F0 m pc ls (.ref (ad c0) :: rest)) := by
  obtain ⟨q0, -, hq⟩ := gW_get (ad := ad) (E := E) hc
  rw [he] at hq
  have h2 : (T k).2.1 = nm := by rw [hT]
  have h3 : (T k).2.2.1 = ds := by rw [hT]
  exact va_get S.1 S.2.1 S.2.2.2.2 hin S.2.2.2.1 K.1 X.1 q0 hq hcl k hk (index := index) (ref := ref) (by rw [h2, h3]; exact S.2.2.2.2 _ hl) (fun x h9 => by rw [hT] at h9 ⊢; exact h9) hv hdg kk
theorem zr_put {C ref nm ds : String} {T : u_T} {N ci index : Nat} {fsf : (Nat → Int32) → List Value} {v : Value} {xv : Int32} {ty : FieldType} (S : CallFix p m c cc nL s args Ts own) (K : gK D ki cs ad A s) (X : gS D cs ad (Eg G tr) A s H locs) (hc : c0 ∈ cs) (hloc : zLoc Eg) (he : ∀ G, Eg G tr c0 = .inr (ci, fsf (G c0))) (hcl : vwCl[ci]? = some (C, T, N)) (hin : ∀ w ∈ u_ws C T N, w ∈ Ts) (ty0 : Nat → FieldType) (hty : ∀ k, k < N → parseFieldDescriptor (T k).2.2.1 = some (ty0 k)) (hnm : ∀ a, a < N → ∀ b, b < N → a ≠ b → (T a).2.1 ≠ (T b).2.1) (k : Nat) (hk : k < N) (hl : Cond.fieldLink own index ref nm ds ∈ Ts) (hT : T k = (ref, nm, ds, false)) (hd : parseFieldDescriptor ds = some ty) (hn : narrow ty v = v) (hfit : fits ty v = true) (hlen : k < (fsf (G c0)).length) (hset : fsf (upd (G c0) k xv) = (fsf (G c0)).set k v) (hdg : decode cc pc = .ok (.putfield index, 3))
    (kk : ∀ (H1 : Heap) (locs1 : List Loc), gS D cs ad (Eg (up2 G c0 k xv) tr) A s H1 locs1 → W p l e R s m args below meth c H1 locs1 cells slots Q (F0 m (pc + 3) ls rest)) : W p l e R s m args below meth c H locs cells slots Q (F0 m pc ls (v :: .ref (ad c0) :: rest)) := by
  obtain ⟨q0, hq1, hq⟩ := gW_get (ad := ad) (E := Eg G tr) hc
  rw [he] at hq
  have h2 : (T k).2.1 = nm := by rw [hT]
  have h3 : (T k).2.2.1 = ds := by rw [hT]
  refine va_put S.1 S.2.1 S.2.2.2.2 hin ty0 hty hnm S.2.2.2.1 K.1 X.1 (K.2.2.1 _) X.2 q0 hq hcl k hk (index := index) (ref := ref) (by rw [h2, h3]; exact S.2.2.2.2 _ hl) (fun x h9 => by rw [hT] at h9 ⊢; exact h9) (by rw [hT]) (by rw [h3]; exact hd) hn hfit hlen hdg (fun H1 locs1 hP hD hS => ?_)
  rw [gW_set (K.2.2.1 _) hq1 (fun c' hc' => hloc G tr c0 k xv c' hc') (by rw [he, up2_self, hset])] at hP
  exact kk H1 locs1 ⟨hP, hS⟩
/-- a long field -/
theorem zr_putL {C ref nm ds : String} {T : u_T} {N ci index : Nat} {fsf : Int64 → List Value} {tr' : Int64} (S : CallFix p m c cc nL s args Ts own) (K : gK D ki cs ad A s) (X : gS D cs ad (Eg G tr) A s H locs) (hc : c0 ∈ cs) (hloc : ∀ c', c' ≠ c0 → Eg G tr' c' = Eg G tr c') (he : ∀ tr, Eg G tr c0 = .inr (ci, fsf tr)) (hcl : vwCl[ci]? = some (C, T, N)) (hin : ∀ w ∈ u_ws C T N, w ∈ Ts) (ty0 : Nat → FieldType) (hty : ∀ k, k < N → parseFieldDescriptor (T k).2.2.1 = some (ty0 k)) (hnm : ∀ a, a < N → ∀ b, b < N → a ≠ b → (T a).2.1 ≠ (T b).2.1) (k : Nat) (hk : k < N) (hl : Cond.fieldLink own index ref nm ds ∈ Ts) (hT : T k = (ref, nm, ds, false)) (hd : parseFieldDescriptor ds = some .long) (hlen : k < (fsf tr).length) (hset : fsf tr' = (fsf tr).set k (.long tr')) (hdg : decode cc pc = .ok (.putfield index, 3))
    (kk : ∀ (H1 : Heap) (locs1 : List Loc), gS D cs ad (Eg G tr') A s H1 locs1 → W p l e R s m args below meth c H1 locs1 cells slots Q (F0 m (pc + 3) ls rest)) : W p l e R s m args below meth c H locs cells slots Q (F0 m pc ls (.long tr' :: .ref (ad c0) :: rest)) := by
  obtain ⟨q0, hq1, hq⟩ := gW_get (ad := ad) (E := Eg G tr) hc
  rw [he] at hq
  have h2 : (T k).2.1 = nm := by rw [hT]
  have h3 : (T k).2.2.1 = ds := by rw [hT]
  refine va_put S.1 S.2.1 S.2.2.2.2 hin ty0 hty hnm S.2.2.2.1 K.1 X.1 (K.2.2.1 _) X.2 q0 hq hcl k hk (index := index) (ref := ref) (ty := .long) (by rw [h2, h3]; exact S.2.2.2.2 _ hl) (fun x h9 => by rw [hT] at h9 ⊢; exact h9) (by rw [hT]) (by rw [h3]; exact hd) rfl rfl hlen hdg (fun H1 locs1 hP hD hS => ?_)
  rw [gW_set (K.2.2.1 _) hq1 (fun c' hc' => hloc c' hc') (by rw [he, hset])] at hP
  exact kk H1 locs1 ⟨hP, hS⟩
theorem zr_iald {E : Nat → va_E} {nn : Nat} {f : Nat → Int32} {i : Int32} (S : CallFix p m c cc nL s args Ts own) (K : gK D ki cs ad A s) (X : gS D cs ad E A s H locs) (hc : c0 ∈ cs) (he : E c0 = .inl (ki 0, nn, .inl f)) (hin : vp_in i nn) (hdg : decode cc pc = .ok (.iaload, 1))
    (kk : W p l e R s m args below meth c H locs cells slots Q (F0 m (pc + 1) ls (.int (f i.toNatClampNeg) :: rest))) : W p l e R s m args below meth c H locs cells slots Q (F0 m pc ls (.int i :: .ref (ad c0) :: rest)) := by
  obtain ⟨q0, -, hq⟩ := gW_get (ad := ad) (E := E) hc
  rw [he] at hq
  exact va_iald S.1 S.2.1 K.1 X.1 q0 0 hq rfl hin hdg kk
theorem zr_zald {E : Nat → va_E} {nn : Nat} {f : Nat → Int32} {i : Int32} (S : CallFix p m c cc nL s args Ts own) (K : gK D ki cs ad A s) (X : gS D cs ad E A s H locs) (hc : c0 ∈ cs) (he : E c0 = .inl (ki 1, nn, .inl f)) (hin : vp_in i nn) (hdg : decode cc pc = .ok (.baload, 1))
    (kk : W p l e R s m args below meth c H locs cells slots Q (F0 m (pc + 1) ls (.int (f i.toNatClampNeg) :: rest))) : W p l e R s m args below meth c H locs cells slots Q (F0 m pc ls (.int i :: .ref (ad c0) :: rest)) := by
  obtain ⟨q0, -, hq⟩ := gW_get (ad := ad) (E := E) hc
  rw [he] at hq
  exact va_zald S.1 S.2.1 K.1 X.1 q0 1 hq rfl hin hdg kk
theorem zr_aald {E : Nat → va_E} {nn t0 : Nat} {C : String} {cA : ClassId} {f : Nat → Nat} {i : Int32} (S : CallFix p m c cc nL s args Ts own) (K : gK D ki cs ad A s) (X : gS D cs ad E A s H locs) (hc : c0 ∈ cs) (he : E c0 = .inl (cA, nn, .inr (.inr (.inr (.inr (fun j => some (ad (f j)))))))) (ht : (zT ki)[t0]? = some (cA, .object C)) (hin : vp_in i nn) (hdg : decode cc pc = .ok (.aaload, 1))
    (kk : W p l e R s m args below meth c H locs cells slots Q (F0 m (pc + 1) ls (.ref (ad (f i.toNatClampNeg)) :: rest))) : W p l e R s m args below meth c H locs cells slots Q (F0 m pc ls (.int i :: .ref (ad c0) :: rest)) := by
  obtain ⟨q0, -, hq⟩ := gW_get (ad := ad) (E := E) hc
  rw [he] at hq
  exact va_aldq S.1 S.2.1 K.1 X.1 q0 t0 hq ht hin hdg kk
theorem zr_iast {nn : Nat} {i x : Int32} (S : CallFix p m c cc nL s args Ts own) (K : gK D ki cs ad A s) (X : gS D cs ad (Eg G tr) A s H locs) (hc : c0 ∈ cs) (hloc : zLoc Eg) (he : ∀ G, Eg G tr c0 = .inl (ki 0, nn, .inl (G c0))) (hin : vp_in i nn) (hdg : decode cc pc = .ok (.iastore, 1))
    (kk : ∀ (H1 : Heap) (locs1 : List Loc), gS D cs ad (Eg (up2 G c0 i.toNatClampNeg x) tr) A s H1 locs1 → W p l e R s m args below meth c H1 locs1 cells slots Q (F0 m (pc + 1) ls rest)) : W p l e R s m args below meth c H locs cells slots Q (F0 m pc ls (.int x :: .int i :: .ref (ad c0) :: rest)) := by
  obtain ⟨q0, hq1, hq⟩ := gW_get (ad := ad) (E := Eg G tr) hc
  rw [he] at hq
  refine va_iast S.1 S.2.1 K.1 X.1 (K.2.2.1 _) X.2 q0 0 hq rfl hin hdg (fun H1 locs1 hP hD hS => ?_)
  rw [gW_set (K.2.2.1 _) hq1 (fun c' hc' => hloc G tr c0 i.toNatClampNeg x c' hc') (by rw [he, up2_self])] at hP
  exact kk H1 locs1 ⟨hP, hS⟩
theorem zr_zast {nn : Nat} {i x : Int32} (S : CallFix p m c cc nL s args Ts own) (K : gK D ki cs ad A s) (X : gS D cs ad (Eg G tr) A s H locs) (hc : c0 ∈ cs) (hloc : zLoc Eg) (he : ∀ G, Eg G tr c0 = .inl (ki 1, nn, .inl (G c0))) (hin : vp_in i nn) (hx : x = 0 ∨ x = 1) (hdg : decode cc pc = .ok (.bastore, 1))
    (kk : ∀ (H1 : Heap) (locs1 : List Loc), gS D cs ad (Eg (up2 G c0 i.toNatClampNeg x) tr) A s H1 locs1 → W p l e R s m args below meth c H1 locs1 cells slots Q (F0 m (pc + 1) ls rest)) : W p l e R s m args below meth c H locs cells slots Q (F0 m pc ls (.int x :: .int i :: .ref (ad c0) :: rest)) := by
  obtain ⟨q0, hq1, hq⟩ := gW_get (ad := ad) (E := Eg G tr) hc
  rw [he] at hq
  refine va_zast S.1 S.2.1 K.1 X.1 (K.2.2.1 _) X.2 q0 1 hq rfl hin hdg (fun H1 locs1 hP hD hS => ?_)
  rw [zbo_vp hx] at hP
  rw [gW_set (K.2.2.1 _) hq1 (fun c' hc' => hloc G tr c0 i.toNatClampNeg x c' hc') (by rw [he, up2_self])] at hP
  exact kk H1 locs1 ⟨hP, hS⟩
/-! behind a call -/
variable {st0 : List Value} {a : Array Value}
theorem zr_free (K : gK D ki cs ad (gA cs ad s.heap.size) s) {E : Nat → va_E} (X : gS D cs ad E (gA cs ad s.heap.size) s H locs) : ∀ q : Nat, gA cs ad H.size q → gA cs ad s.heap.size q := by
  intro q h
  rcases h with h | h
  · exact Or.inl h
  · exact Or.inr (Nat.le_trans X.2.1 h)
theorem zr_calli {E : Nat → va_E} {r : Int32} {G' : zMem} {tr' : Int64} (K : gK D ki cs ad (gA cs ad s.heap.size) s) (X : gS D cs ad E (gA cs ad s.heap.size) s H locs)
    (hr : va_Run p l e R s m args below meth c H locs cells slots 0 0 (F0 m pc ls st0) rest (va_Qi (S := Unit) (fun r0 _ => r0 = r) (fun _ t => va_P D vwCl (gW cs ad (Eg G' tr')) t.heap) (gA cs ad H.size) a) (gA cs ad H.size))
    (kk : ∀ (H1 : Heap) (locs1 : List Loc), gS D cs ad (Eg G' tr') (gA cs ad s.heap.size) s H1 locs1 → W p l e R s m args below meth c H1 locs1 cells slots Q (F0 m (pc + 3) ls (.int r :: rest))) : W p l e R s m args below meth c H locs cells slots Q (F0 m pc ls st0) := by
  refine va_calli hr X.2 (fun q _ h => zr_free K X q h) (zr_free K X) (fun r0 u t H1 locs1 ht hvm hw hB hz1 hk1 hS => ?_)
  subst hw
  rw [ht] at hB
  exact kk H1 locs1 ⟨hB, hS⟩
theorem zr_callv {E : Nat → va_E} {G' : zMem} {tr' : Int64} (K : gK D ki cs ad (gA cs ad s.heap.size) s) (X : gS D cs ad E (gA cs ad s.heap.size) s H locs)
    (hr : va_Run p l e R s m args below meth c H locs cells slots 0 0 (F0 m pc ls st0) rest (va_Qv (S := Unit) (fun _ => True) (fun _ t => va_P D vwCl (gW cs ad (Eg G' tr')) t.heap) (gA cs ad H.size) a) (gA cs ad H.size))
    (kk : ∀ (H1 : Heap) (locs1 : List Loc), gS D cs ad (Eg G' tr') (gA cs ad s.heap.size) s H1 locs1 → W p l e R s m args below meth c H1 locs1 cells slots Q (F0 m (pc + 3) ls rest)) : W p l e R s m args below meth c H locs cells slots Q (F0 m pc ls st0) := by
  refine va_callv hr X.2 (fun q _ h => zr_free K X q h) (zr_free K X) (fun u t H1 locs1 ht hvm hw hB hz1 hk1 hS => ?_)
  rw [ht] at hB
  exact kk H1 locs1 ⟨hB, hS⟩
theorem zr_calla {E : Nat → va_E} {c1 : Nat} {G' : zMem} {tr' : Int64} (K : gK D ki cs ad (gA cs ad s.heap.size) s) (X : gS D cs ad E (gA cs ad s.heap.size) s H locs)
    (hr : va_Run p l e R s m args below meth c H locs cells slots 0 0 (F0 m pc ls st0) rest (va_Qr (S := Unit) (fun _ => True) (fun _ a t => a = ad c1 ∧ va_P D vwCl (gW cs ad (Eg G' tr')) t.heap) (gA cs ad H.size) a) (gA cs ad H.size))
    (kk : ∀ (H1 : Heap) (locs1 : List Loc), gS D cs ad (Eg G' tr') (gA cs ad s.heap.size) s H1 locs1 → W p l e R s m args below meth c H1 locs1 cells slots Q (F0 m (pc + 3) ls (.ref (ad c1) :: rest))) : W p l e R s m args below meth c H locs cells slots Q (F0 m pc ls st0) := by
  refine va_callr hr X.2 (fun q _ h => zr_free K X q h) (zr_free K X) (fun u a1 t H1 locs1 ht hvm hw hB hz1 hk1 hS => ?_)
  obtain ⟨rfl, hB⟩ := hB
  rw [ht] at hB
  exact kk H1 locs1 ⟨hB, hS⟩
theorem zr_pre {E : Nat → va_E} {As : List Value} (K : gK D ki cs ad A s) (X : gS D cs ad E A s H locs) : PreS s H (va_Pc As (gB D ki cs ad E H.size)) As := ⟨gB_blind, gB_pre K X⟩
theorem zr_preV {E : Nat → va_E} {As : List Value} {C : String} {T : u_T} {N ci : Nat} {fs : List Value} (K : gK D ki cs ad A s) (X : gS D cs ad E A s H locs) (hc : c0 ∈ cs) (he : E c0 = .inr (ci, fs)) (hcl : vwCl[ci]? = some (C, T, N)) : PreV s H C (ad c0) (va_Pc (.ref (ad c0) :: As) (gB D ki cs ad E H.size)) As := by
  obtain ⟨q0, -, hq⟩ := gW_get (ad := ad) (E := E) hc
  rw [he] at hq
  exact ⟨gB_blind, va_recv K.1 X.1 hcl hq, gB_pre K X⟩
/-! the ends -/
theorem zr_iret {G9 : zMem} {tr9 : Int64} {r9 v : Int32} (S : CallFix p m c cc nL s args Ts own) (hr : meth.sig.returnType = some .int) (hlk : meth.locks = false) (X : gS D cs ad (Eg G tr) (gA cs ad s.heap.size) s H locs) (h : (some (v, G, tr) : zR) = some (r9, G9, tr9)) (hdg : decode cc pc = .ok (.ireturn, 1)) : W p l e R s m args below meth c H locs 0 0 (zQI below args s D cs ad (Eg G9 tr9) r9) (F0 m pc ls [.int v]) := by
  cases h
  exact W.iret S.1 S.2.1 hr (fun t ht hW => ⟨⟨_, (), rfl, rfl, by show va_P _ _ _ t.heap; rw [ht]; exact X.1⟩, X.2.F ht⟩) X.2.2.2 hdg hlk
theorem zr_zret {G9 : zMem} {tr9 : Int64} {r9 v : Int32} (S : CallFix p m c cc nL s args Ts own) (hr : meth.sig.returnType = some .boolean) (hlk : meth.locks = false) (X : gS D cs ad (Eg G tr) (gA cs ad s.heap.size) s H locs) (h : zbo v (some (v, G, tr) : zR) = some (r9, G9, tr9)) (hdg : decode cc pc = .ok (.ireturn, 1)) : W p l e R s m args below meth c H locs 0 0 (zQI below args s D cs ad (Eg G9 tr9) r9) (F0 m pc ls [.int v]) := by
  obtain ⟨hn, h⟩ := zbo_some h
  cases h
  exact W.zret S.1 S.2.1 hr (zbo_nar hn) (fun t ht hW => ⟨⟨_, (), rfl, rfl, by show va_P _ _ _ t.heap; rw [ht]; exact X.1⟩, X.2.F ht⟩) X.2.2.2 hdg hlk
theorem zr_iretP {E : Nat → va_E} {r9 v : Int32} (S : CallFix p m c cc nL s args Ts own) (hr : meth.sig.returnType = some .int) (hlk : meth.locks = false) (X : gS D cs ad E (gA cs ad s.heap.size) s H locs) (h : some v = some r9) (hdg : decode cc pc = .ok (.ireturn, 1)) : W p l e R s m args below meth c H locs 0 0 (zQI below args s D cs ad E r9) (F0 m pc ls [.int v]) := by
  cases h
  exact W.iret S.1 S.2.1 hr (fun t ht hW => ⟨⟨_, (), rfl, rfl, by show va_P _ _ _ t.heap; rw [ht]; exact X.1⟩, X.2.F ht⟩) X.2.2.2 hdg hlk
theorem zr_zretP {E : Nat → va_E} {r9 v : Int32} (S : CallFix p m c cc nL s args Ts own) (hr : meth.sig.returnType = some .boolean) (hlk : meth.locks = false) (X : gS D cs ad E (gA cs ad s.heap.size) s H locs) (h : zbo v (some v) = some r9) (hdg : decode cc pc = .ok (.ireturn, 1)) : W p l e R s m args below meth c H locs 0 0 (zQI below args s D cs ad E r9) (F0 m pc ls [.int v]) := by
  obtain ⟨hn, h⟩ := zbo_some h
  cases h
  exact W.zret S.1 S.2.1 hr (zbo_nar hn) (fun t ht hW => ⟨⟨_, (), rfl, rfl, by show va_P _ _ _ t.heap; rw [ht]; exact X.1⟩, X.2.F ht⟩) X.2.2.2 hdg hlk
theorem zr_vret {G9 : zMem} {tr9 : Int64} {r9 v : Int32} (S : CallFix p m c cc nL s args Ts own) (hr : meth.sig.returnType = none) (hlk : meth.locks = false) (X : gS D cs ad (Eg G tr) (gA cs ad s.heap.size) s H locs) (h : (some (v, G, tr) : zR) = some (r9, G9, tr9)) (hdg : decode cc pc = .ok (.return_, 1)) : W p l e R s m args below meth c H locs 0 0 (zQV below args s D cs ad (Eg G9 tr9)) (F0 m pc ls []) := by
  cases h
  exact W.vret S.1 S.2.1 hr (fun t ht hW => ⟨⟨(), rfl, trivial, by show va_P _ _ _ t.heap; rw [ht]; exact X.1⟩, X.2.F ht⟩) X.2.2.2 hdg hlk
theorem zr_lret {G9 : zMem} {tr9 r9 v : Int64} (S : CallFix p m c cc nL s args Ts own) (hr : meth.sig.returnType = some .long) (hlk : meth.locks = false) (X : gS D cs ad (Eg G tr) (gA cs ad s.heap.size) s H locs) (h : (some (v, G, tr) : Option (Int64 × zMem × Int64)) = some (r9, G9, tr9)) (hdg : decode cc pc = .ok (.lreturn, 1)) : W p l e R s m args below meth c H locs 0 0 (zQL below args s D cs ad (Eg G9 tr9) r9) (F0 m pc ls [.long v]) := by
  cases h
  exact W.lret S.1 S.2.1 hr (fun t ht hW => ⟨⟨_, (), rfl, rfl, by show va_P _ _ _ t.heap; rw [ht]; exact X.1⟩, X.2.F ht⟩) X.2.2.2 hdg hlk
theorem zr_aret {G9 : zMem} {tr9 : Int64} {r9 v : Int32} {c1 : Nat} {nm : String} (S : CallFix p m c cc nL s args Ts own) (hr : meth.sig.returnType = some (.object nm)) (hlk : meth.locks = false) (X : gS D cs ad (Eg G tr) (gA cs ad s.heap.size) s H locs) (h : (some (v, G, tr) : zR) = some (r9, G9, tr9)) (hdg : decode cc pc = .ok (.areturn, 1)) : W p l e R s m args below meth c H locs 0 0 (zQA below args s D cs ad (Eg G9 tr9) c1) (F0 m pc ls [.ref (ad c1)]) := by
  cases h
  exact W.aret S.1 S.2.1 hr (Or.inl ⟨nm, rfl⟩) (Or.inr ⟨_, rfl⟩) (fun t ht hW => ⟨⟨(), ad c1, rfl, trivial, rfl, by show va_P _ _ _ t.heap; rw [ht]; exact X.1⟩, X.2.F ht⟩) X.2.2.2 hdg hlk
/-! switches -/
theorem zr_swIn (S : CallFix p m c cc nL s args Ts own) {dflt lo hi : Int} {offs : Array Int} {len : Nat} {x y : Int32} {off : Int} {tgt : Nat} (hxy : x = y) (hdg : decode cc pc = .ok (.tableswitch dflt lo hi offs, len)) (h1 : lo ≤ y.toInt ∧ y.toInt ≤ hi ∧ offs[(y.toInt - lo).toNat]? = some off ∧ (pc : Int) + off = (tgt : Int))
    (k : W p l e R s m args below meth c H locs cells slots Q (F0 m tgt ls rest)) : W p l e R s m args below meth c H locs cells slots Q (F0 m pc ls (.int x :: rest)) := by
  subst hxy
  exact lv_tableIn S.1 S.2.1 hdg (Int.not_lt.mpr h1.1) (Int.not_lt.mpr h1.2.1) h1.2.2.1 h1.2.2.2 k
end gRows
/-! ===== the class's world ===== -/
abbrev fsW (ad : Nat → Nat) (tr : Int64) (g : Nat → Int32) : List Value := [.ref (ad 1), .ref (ad (g 1).toNatClampNeg), .ref (ad (g 2).toNatClampNeg), .ref (ad 18), .ref (ad 15), .int (g 5), .int (g 6), .ref (ad 16), .ref (ad 17), .ref (ad 13), .ref (ad 14), .long tr]
abbrev fsT (ad : Nat → Nat) (g : Nat → Int32) : List Value := [.int (g 0), .ref (ad 2), .int (g 2), .int (g 3), .int (g 4), .int (g 5), .int (g 6), .int (g 7)]
abbrev fsC (ad : Nat → Nat) (t : Nat) (g : Nat → Int32) : List Value := [.int (g 0), .int (g 1), .int (g 2), .int (g 3), .int (g 4), .int (g 5), .ref (ad (t + 1)), .ref (ad (t + 2)), .ref (ad (t + 3)), .ref (ad (t + 4))]
abbrev fsL (g : Nat → Int32) : List Value := [.int (g 0), .int (g 1), .int (g 2), .int (g 3), .int (g 4), .int (g 5), .int (g 6)]
abbrev fsM (ad : Nat → Nat) (t : Nat) (g : Nat → Int32) : List Value := [.int (g 0), .int (g 1), .int (g 2), .int (g 3), .ref (ad (t + 1)), .ref (ad (t + 2))]
def xE' (ki : Nat → ClassId) (ad : Nat → Nat) (g : Nat → Int32) (tr : Int64) (c : Nat) : va_E :=
  if c = 0 then .inr (4, fsW ad tr g)
  else if c = 1 then .inr (3, fsT ad g)
  else if c = 2 then .inl (ki 0, 200, .inl g)
  else if c = 3 ∨ c = 8 then .inr (0, fsC ad c g)
  else if c = 4 ∨ c = 9 then .inl (ki 0, 6, .inl g)
  else if c = 5 ∨ c = 10 then .inl (ki 0, 30, .inl g)
  else if c = 6 ∨ c = 11 then .inl (ki 0, 12, .inl g)
  else if c = 7 ∨ c = 12 then .inl (ki 0, 600, .inl g)
  else if c = 13 ∨ c = 14 then .inr (1, fsL g)
  else if c = 15 then .inl (ki 3, 10, .inr (.inr (.inr (.inr (fun j => some (ad (26 + 8 * j)))))))
  else if c = 16 then .inl (ki 3, 2, .inr (.inr (.inr (.inr (fun j => some (ad (106 + 8 * j)))))))
  else if c = 17 then .inl (ki 1, 2, .inl g)
  else if (c - 18) % 8 = 0 then .inr (2, fsM ad c g)
  else if (c - 18) % 8 = 1 then .inl (ki 0, 12, .inl g)
  else if (c - 18) % 8 = 2 then .inl (ki 2, 5, .inr (.inr (.inr (.inr (fun j => some (ad (c + 1 + j)))))))
  else .inr (1, fsL g)
def xE (ki : Nat → ClassId) (ad : Nat → Nat) (G : zMem) (tr : Int64) (c : Nat) : va_E := xE' ki ad (G c) tr c
theorem xE_loc {ki : Nat → ClassId} {ad : Nat → Nat} : zLoc (xE ki ad) := fun G tr c k v c' h => by unfold xE; rw [up2_ne G k v h]
theorem xE_trl {ki : Nat → ClassId} {ad : Nat → Nat} {G : zMem} {tr tr' : Int64} (c' : Nat) (h : c' ≠ 0) : xE ki ad G tr' c' = xE ki ad G tr c' := by unfold xE xE'; rw [if_neg h, if_neg h]
def isC (t : Nat) : Prop := t = 3 ∨ t = 8
def isL (t : Nat) : Prop := t = 13 ∨ t = 14 ∨ (18 ≤ t ∧ t < 122 ∧ 3 ≤ (t - 18) % 8)
def isMo (t : Nat) : Prop := 18 ≤ t ∧ t < 122 ∧ (t - 18) % 8 = 0
/-- all of the class's cells are there -/
def kW (cs : List Nat) : Prop := ∀ c, c < 122 → c ∈ cs
def kC (cs : List Nat) (t : Nat) : Prop := isC t ∧ ∀ i, i < 5 → t + i ∈ cs
def kL (cs : List Nat) (t : Nat) : Prop := isL t ∧ t ∈ cs
def kM (cs : List Nat) (t : Nat) : Prop := isMo t ∧ ∀ i, i < 8 → t + i ∈ cs
section xWorld
variable {ki : Nat → ClassId} {ad : Nat → Nat} {G : zMem} {tr : Int64} {cs : List Nat} {t : Nat}
theorem xE_W : xE ki ad G tr 0 = .inr (4, fsW ad tr (G 0)) := rfl
theorem xE_T : xE ki ad G tr 1 = .inr (3, fsT ad (G 1)) := rfl
theorem xE_2 : xE ki ad G tr 2 = .inl (ki 0, 200, .inl (G 2)) := rfl
theorem xE_15 : xE ki ad G tr 15 = .inl (ki 3, 10, .inr (.inr (.inr (.inr (fun j => some (ad (26 + 8 * j))))))) := rfl
theorem xE_16 : xE ki ad G tr 16 = .inl (ki 3, 2, .inr (.inr (.inr (.inr (fun j => some (ad (106 + 8 * j))))))) := rfl
theorem xE_17 : xE ki ad G tr 17 = .inl (ki 1, 2, .inl (G 17)) := rfl
theorem xE_C (h : kC cs t) : xE ki ad G tr t = .inr (0, fsC ad t (G t)) := by rcases h.1 with rfl | rfl <;> rfl
theorem xE_C1 (h : kC cs t) : xE ki ad G tr (t + 1) = .inl (ki 0, 6, .inl (G (t + 1))) := by rcases h.1 with rfl | rfl <;> rfl
theorem xE_C2 (h : kC cs t) : xE ki ad G tr (t + 2) = .inl (ki 0, 30, .inl (G (t + 2))) := by rcases h.1 with rfl | rfl <;> rfl
theorem xE_C3 (h : kC cs t) : xE ki ad G tr (t + 3) = .inl (ki 0, 12, .inl (G (t + 3))) := by rcases h.1 with rfl | rfl <;> rfl
theorem xE_C4 (h : kC cs t) : xE ki ad G tr (t + 4) = .inl (ki 0, 600, .inl (G (t + 4))) := by rcases h.1 with rfl | rfl <;> rfl
theorem xE_hi {c : Nat} {g : Nat → Int32} (h : 18 ≤ c) : xE' ki ad g tr c = (if (c - 18) % 8 = 0 then .inr (2, fsM ad c g) else if (c - 18) % 8 = 1 then .inl (ki 0, 12, .inl g) else if (c - 18) % 8 = 2 then .inl (ki 2, 5, .inr (.inr (.inr (.inr (fun j => some (ad (c + 1 + j))))))) else .inr (1, fsL g)) := by
  unfold xE'
  rw [if_neg (by omega), if_neg (by omega), if_neg (by omega), if_neg (by omega), if_neg (by omega), if_neg (by omega), if_neg (by omega), if_neg (by omega), if_neg (by omega), if_neg (by omega), if_neg (by omega), if_neg (by omega)]
theorem xE_L (h : kL cs t) : xE ki ad G tr t = .inr (1, fsL (G t)) := by
  rcases h.1 with rfl | rfl | ⟨h1, h2, h3⟩
  · rfl
  · rfl
  · unfold xE
    rw [xE_hi h1, if_neg (by omega), if_neg (by omega), if_neg (by omega)]
theorem xE_M (h : kM cs t) : xE ki ad G tr t = .inr (2, fsM ad t (G t)) := by
  obtain ⟨h1, h2, h3⟩ := h.1
  unfold xE
  rw [xE_hi h1, if_pos h3]
theorem xE_M1 (h : kM cs t) : xE ki ad G tr (t + 1) = .inl (ki 0, 12, .inl (G (t + 1))) := by
  obtain ⟨h1, h2, h3⟩ := h.1
  unfold xE
  rw [xE_hi (by omega), if_neg (by omega), if_pos (by omega)]
theorem xE_M2 (h : kM cs t) : xE ki ad G tr (t + 2) = .inl (ki 2, 5, .inr (.inr (.inr (.inr (fun j => some (ad (t + 3 + j))))))) := by
  obtain ⟨h1, h2, h3⟩ := h.1
  unfold xE
  rw [xE_hi (by omega), if_neg (by omega), if_neg (by omega), if_pos (by omega)]
theorem vp_in_lt {i : Int32} {n : Nat} (h : vp_in i n) : i.toNatClampNeg < n := by
  unfold vp_in at h
  exact Nat.lt_of_not_le (fun z => h (Or.inr z))
theorem kM_now (h : kW cs) : kM cs 18 := ⟨⟨by omega, by omega, by omega⟩, fun i hi => h _ (by omega)⟩
theorem kM_past (h : kW cs) {i : Int32} (hi : vp_in i 10) : kM cs (26 + 8 * i.toNatClampNeg) := by
  have := vp_in_lt hi
  exact ⟨⟨by omega, by omega, by omega⟩, fun i hi => h _ (by omega)⟩
theorem kM_image (h : kW cs) {i : Int32} (hi : vp_in i 2) : kM cs (106 + 8 * i.toNatClampNeg) := by
  have := vp_in_lt hi
  exact ⟨⟨by omega, by omega, by omega⟩, fun i hi => h _ (by omega)⟩
theorem kL_13 (h : kW cs) : kL cs 13 := ⟨Or.inl rfl, h _ (by omega)⟩
theorem kL_14 (h : kW cs) : kL cs 14 := ⟨Or.inr (Or.inl rfl), h _ (by omega)⟩
theorem kL_post (h : kM cs t) {i : Int32} (hi : vp_in i 5) : kL cs (t + 3 + i.toNatClampNeg) := by
  have := vp_in_lt hi
  obtain ⟨⟨h1, h2, h3⟩, h4⟩ := h
  refine ⟨Or.inr (Or.inr ⟨by omega, by omega, by omega⟩), ?_⟩
  rw [Nat.add_assoc]
  exact h4 _ (by omega)
theorem kL_now (h : kW cs) {i : Int32} (hi : vp_in i 5) : kL cs (21 + i.toNatClampNeg) := kL_post (kM_now h) hi
theorem kC_of (h : kW cs) (ht : isC t) : kC cs t := ⟨ht, fun i hi => h _ (by rcases ht with rfl | rfl <;> omega)⟩
theorem kC_3 (h : kW cs) : kC cs 3 := kC_of h (Or.inl rfl)
theorem kC_8 (h : kW cs) : kC cs 8 := kC_of h (Or.inr rfl)
end xWorld
/-- the chart that a field points at -/
def zch {α : Type} (v : Int32) (x : Option α) : Option α := if v = 3 ∨ v = 8 then x else none
theorem zch_some {α : Type} {v : Int32} {x : Option α} {r : α} (h : zch v x = some r) : isC v.toNatClampNeg ∧ x = some r := by
  unfold zch at h
  by_cases hc : v = 3 ∨ v = 8
  · rw [if_pos hc] at h
    exact ⟨by rcases hc with rfl | rfl; exact Or.inl rfl; exact Or.inr rfl, h⟩
  · rw [if_neg hc] at h; cases h
/-! ===== the reference's world ===== -/
abbrev fsR (ad : Nat → Nat) (tr : Int64) (g : Nat → Int32) : List Value := [.int (g 0), .long tr, .ref (ad 1), .int (g 3), .int (g 4), .int (g 5), .int (g 6), .int (g 7), .int (g 8), .ref (ad 2), .ref (ad 3), .ref (ad 4), .ref (ad 5), .int (g 13), .ref (ad 6), .ref (ad 7), .ref (ad 8), .ref (ad 9), .int (g 18), .ref (ad 10), .ref (ad 11), .ref (ad 12)]
def mLn (c : Nat) : Nat := if c = 1 then 200 else if c = 6 then 45 else if c = 7 then 90 else if c = 9 then 450 else if c = 10 then 6 else if c = 11 then 6 else if c = 12 then 30 else 12
def mE (ki : Nat → ClassId) (ad : Nat → Nat) (G : zMem) (tr : Int64) (c : Nat) : va_E :=
  if c = 0 then .inr (5, fsR ad tr (G c)) else if c = 8 then .inl (ki 1, 2, .inl (G c)) else .inl (ki 0, mLn c, .inl (G c))
theorem mE_loc {ki : Nat → ClassId} {ad : Nat → Nat} : zLoc (mE ki ad) := fun G tr c k v c' h => by unfold mE; rw [up2_ne G k v h]
theorem mE_trl {ki : Nat → ClassId} {ad : Nat → Nat} {G : zMem} {tr tr' : Int64} (c' : Nat) (h : c' ≠ 0) : mE ki ad G tr' c' = mE ki ad G tr c' := by unfold mE; rw [if_neg h, if_neg h]
def kR (cs : List Nat) : Prop := ∀ c, c < 13 → c ∈ cs
def kA (cs : List Nat) (t : Nat) : Prop := (t = 6 ∨ t = 10 ∨ t = 11) ∧ t ∈ cs
section mWorld
variable {ki : Nat → ClassId} {ad : Nat → Nat} {G : zMem} {tr : Int64} {cs : List Nat} {t : Nat}
theorem mE_R : mE ki ad G tr 0 = .inr (5, fsR ad tr (G 0)) := rfl
theorem mE_1 : mE ki ad G tr 1 = .inl (ki 0, 200, .inl (G 1)) := rfl
theorem mE_2 : mE ki ad G tr 2 = .inl (ki 0, 12, .inl (G 2)) := rfl
theorem mE_3 : mE ki ad G tr 3 = .inl (ki 0, 12, .inl (G 3)) := rfl
theorem mE_4 : mE ki ad G tr 4 = .inl (ki 0, 12, .inl (G 4)) := rfl
theorem mE_5 : mE ki ad G tr 5 = .inl (ki 0, 12, .inl (G 5)) := rfl
theorem mE_6 : mE ki ad G tr 6 = .inl (ki 0, 45, .inl (G 6)) := rfl
theorem mE_7 : mE ki ad G tr 7 = .inl (ki 0, 90, .inl (G 7)) := rfl
theorem mE_8 : mE ki ad G tr 8 = .inl (ki 1, 2, .inl (G 8)) := rfl
theorem mE_9 : mE ki ad G tr 9 = .inl (ki 0, 450, .inl (G 9)) := rfl
theorem mE_10 : mE ki ad G tr 10 = .inl (ki 0, 6, .inl (G 10)) := rfl
theorem mE_11 : mE ki ad G tr 11 = .inl (ki 0, 6, .inl (G 11)) := rfl
theorem mE_12 : mE ki ad G tr 12 = .inl (ki 0, 30, .inl (G 12)) := rfl
theorem mE_A (h : kA cs t) : mE ki ad G tr t = .inl (ki 0, mLn t, .inl (G t)) := by rcases h.1 with rfl | rfl | rfl <;> rfl
theorem kA_6 (h : kR cs) : kA cs 6 := ⟨Or.inl rfl, h _ (by omega)⟩
theorem kA_10 (h : kR cs) : kA cs 10 := ⟨Or.inr (Or.inl rfl), h _ (by omega)⟩
theorem kA_11 (h : kR cs) : kA cs 11 := ⟨Or.inr (Or.inr rfl), h _ (by omega)⟩
end mWorld
end
section
theorem dX0_untell_0 : decode cX0_untell 0 = .ok (.aload_n 0, 1) := by decide +kernel
theorem dX0_untell_1 : decode cX0_untell 1 = .ok (.iconst 4, 1) := by decide +kernel
theorem dX0_untell_2 : decode cX0_untell 2 = .ok (.putfield 30, 3) := by decide +kernel
theorem dX0_untell_5 : decode cX0_untell 5 = .ok (.aload_n 0, 1) := by decide +kernel
theorem dX0_untell_6 : decode cX0_untell 6 = .ok (.iconst 4, 1) := by decide +kernel
theorem dX0_untell_7 : decode cX0_untell 7 = .ok (.putfield 34, 3) := by decide +kernel
theorem dX0_untell_10 : decode cX0_untell 10 = .ok (.aload_n 0, 1) := by decide +kernel
theorem dX0_untell_11 : decode cX0_untell 11 = .ok (.iconst 3, 1) := by decide +kernel
theorem dX0_untell_12 : decode cX0_untell 12 = .ok (.putfield 37, 3) := by decide +kernel
theorem dX0_untell_15 : decode cX0_untell 15 = .ok (.aload_n 0, 1) := by decide +kernel
theorem dX0_untell_16 : decode cX0_untell 16 = .ok (.iconst 0, 1) := by decide +kernel
theorem dX0_untell_17 : decode cX0_untell 17 = .ok (.putfield 40, 3) := by decide +kernel
theorem dX0_untell_20 : decode cX0_untell 20 = .ok (.aload_n 0, 1) := by decide +kernel
theorem dX0_untell_21 : decode cX0_untell 21 = .ok (.iconst 0, 1) := by decide +kernel
theorem dX0_untell_22 : decode cX0_untell 22 = .ok (.putfield 43, 3) := by decide +kernel
theorem dX0_untell_25 : decode cX0_untell 25 = .ok (.aload_n 0, 1) := by decide +kernel
theorem dX0_untell_26 : decode cX0_untell 26 = .ok (.iconst 0, 1) := by decide +kernel
theorem dX0_untell_27 : decode cX0_untell 27 = .ok (.putfield 46, 3) := by decide +kernel
theorem dX0_untell_30 : decode cX0_untell 30 = .ok (.iconst 0, 1) := by decide +kernel
theorem dX0_untell_31 : decode cX0_untell 31 = .ok (.istore_n 1, 1) := by decide +kernel
theorem dX0_untell_32 : decode cX0_untell 32 = .ok (.iload_n 1, 1) := by decide +kernel
theorem dX0_untell_33 : decode cX0_untell 33 = .ok (.bipush 30, 2) := by decide +kernel
theorem dX0_untell_35 : decode cX0_untell 35 = .ok (.if_icmp .ge 17, 3) := by decide +kernel
theorem dX0_untell_38 : decode cX0_untell 38 = .ok (.aload_n 0, 1) := by decide +kernel
theorem dX0_untell_39 : decode cX0_untell 39 = .ok (.getfield 15, 3) := by decide +kernel
theorem dX0_untell_42 : decode cX0_untell 42 = .ok (.iload_n 1, 1) := by decide +kernel
theorem dX0_untell_43 : decode cX0_untell 43 = .ok (.bipush (-9), 2) := by decide +kernel
theorem dX0_untell_45 : decode cX0_untell 45 = .ok (.iastore, 1) := by decide +kernel
theorem dX0_untell_46 : decode cX0_untell 46 = .ok (.iinc 1 1, 3) := by decide +kernel
theorem dX0_untell_49 : decode cX0_untell 49 = .ok (.goto (-17), 3) := by decide +kernel
theorem dX0_untell_52 : decode cX0_untell 52 = .ok (.return_, 1) := by decide +kernel
theorem dX0_cells_0 : decode cX0_cells 0 = .ok (.aload_n 0, 1) := by decide +kernel
theorem dX0_cells_1 : decode cX0_cells 1 = .ok (.getfield 30, 3) := by decide +kernel
theorem dX0_cells_4 : decode cX0_cells 4 = .ok (.aload_n 0, 1) := by decide +kernel
theorem dX0_cells_5 : decode cX0_cells 5 = .ok (.getfield 34, 3) := by decide +kernel
theorem dX0_cells_8 : decode cX0_cells 8 = .ok (.imul, 1) := by decide +kernel
theorem dX0_cells_9 : decode cX0_cells 9 = .ok (.bipush 30, 2) := by decide +kernel
theorem dX0_cells_11 : decode cX0_cells 11 = .ok (.invokestatic 49, 3) := by decide +kernel
theorem dX0_cells_14 : decode cX0_cells 14 = .ok (.ireturn, 1) := by decide +kernel
theorem dX0_cellOfIsle_0 : decode cX0_cellOfIsle 0 = .ok (.iload_n 1, 1) := by decide +kernel
theorem dX0_cellOfIsle_1 : decode cX0_cellOfIsle 1 = .ok (.ifCond .lt 18, 3) := by decide +kernel
theorem dX0_cellOfIsle_4 : decode cX0_cellOfIsle 4 = .ok (.iload_n 1, 1) := by decide +kernel
theorem dX0_cellOfIsle_5 : decode cX0_cellOfIsle 5 = .ok (.bipush 6, 2) := by decide +kernel
theorem dX0_cellOfIsle_7 : decode cX0_cellOfIsle 7 = .ok (.if_icmp .ge 12, 3) := by decide +kernel
theorem dX0_cellOfIsle_10 : decode cX0_cellOfIsle 10 = .ok (.aload_n 0, 1) := by decide +kernel
theorem dX0_cellOfIsle_11 : decode cX0_cellOfIsle 11 = .ok (.getfield 9, 3) := by decide +kernel
theorem dX0_cellOfIsle_14 : decode cX0_cellOfIsle 14 = .ok (.iload_n 1, 1) := by decide +kernel
theorem dX0_cellOfIsle_15 : decode cX0_cellOfIsle 15 = .ok (.iaload, 1) := by decide +kernel
theorem dX0_cellOfIsle_16 : decode cX0_cellOfIsle 16 = .ok (.goto 4, 3) := by decide +kernel
theorem dX0_cellOfIsle_19 : decode cX0_cellOfIsle 19 = .ok (.iconst 0, 1) := by decide +kernel
theorem dX0_cellOfIsle_20 : decode cX0_cellOfIsle 20 = .ok (.ireturn, 1) := by decide +kernel
theorem dX0_onCell_0 : decode cX0_onCell 0 = .ok (.iload_n 1, 1) := by decide +kernel
theorem dX0_onCell_1 : decode cX0_onCell 1 = .ok (.ifCond .lt 18, 3) := by decide +kernel
theorem dX0_onCell_4 : decode cX0_onCell 4 = .ok (.iload_n 1, 1) := by decide +kernel
theorem dX0_onCell_5 : decode cX0_onCell 5 = .ok (.bipush 30, 2) := by decide +kernel
theorem dX0_onCell_7 : decode cX0_onCell 7 = .ok (.if_icmp .ge 12, 3) := by decide +kernel
theorem dX0_onCell_10 : decode cX0_onCell 10 = .ok (.aload_n 0, 1) := by decide +kernel
theorem dX0_onCell_11 : decode cX0_onCell 11 = .ok (.getfield 15, 3) := by decide +kernel
theorem dX0_onCell_14 : decode cX0_onCell 14 = .ok (.iload_n 1, 1) := by decide +kernel
theorem dX0_onCell_15 : decode cX0_onCell 15 = .ok (.iaload, 1) := by decide +kernel
theorem dX0_onCell_16 : decode cX0_onCell 16 = .ok (.goto 5, 3) := by decide +kernel
theorem dX0_onCell_19 : decode cX0_onCell 19 = .ok (.bipush (-9), 2) := by decide +kernel
theorem dX0_onCell_21 : decode cX0_onCell 21 = .ok (.ireturn, 1) := by decide +kernel
set_option maxRecDepth 20000 in
theorem ggX0_drawEnds_X0_cells : GoodIn wsX0_drawEnds wsX0_cells := goodIn_r _ [5, 6, 7, 8, 9, 10, 11, 26, 27, 28, 29, 30, 31, 32, 33, 34, 35] (by decide +kernel) (by decide +kernel)
set_option maxRecDepth 20000 in
theorem gX0_drawEnds_X0_cells : GoodIn wsX0_drawEnds (wsV RX0 55 RX0 yX0_cells wsX0_cells) := goodIn_app (goodIn_of _ (by decide +kernel)) ggX0_drawEnds_X0_cells
set_option maxRecDepth 20000 in
theorem ggX0_drawEnds_X0_drawWay : GoodIn wsX0_drawEnds wsX0_drawWay := goodIn_r _ [15, 16, 17, 18, 19, 4, 20, 6, 7, 21, 22, 23, 24, 25, 26, 27, 28, 29, 30, 31, 32, 33, 34, 35] (by decide +kernel) (by decide +kernel)
set_option maxRecDepth 20000 in
theorem gX0_drawEnds_X0_drawWay : GoodIn wsX0_drawEnds (wsV RX0 59 RX0 yX0_drawWay wsX0_drawWay) := goodIn_app (goodIn_of _ (by decide +kernel)) ggX0_drawEnds_X0_drawWay
theorem dX0_drawEnds_0 : decode cX0_drawEnds 0 = .ok (.iconst 0, 1) := by decide +kernel
theorem dX0_drawEnds_1 : decode cX0_drawEnds 1 = .ok (.istore_n 1, 1) := by decide +kernel
theorem dX0_drawEnds_2 : decode cX0_drawEnds 2 = .ok (.iload_n 1, 1) := by decide +kernel
theorem dX0_drawEnds_3 : decode cX0_drawEnds 3 = .ok (.iconst 4, 1) := by decide +kernel
theorem dX0_drawEnds_4 : decode cX0_drawEnds 4 = .ok (.if_icmp .ge 31, 3) := by decide +kernel
theorem dX0_drawEnds_7 : decode cX0_drawEnds 7 = .ok (.iconst 0, 1) := by decide +kernel
theorem dX0_drawEnds_8 : decode cX0_drawEnds 8 = .ok (.istore_n 2, 1) := by decide +kernel
theorem dX0_drawEnds_9 : decode cX0_drawEnds 9 = .ok (.iload_n 2, 1) := by decide +kernel
theorem dX0_drawEnds_10 : decode cX0_drawEnds 10 = .ok (.aload_n 0, 1) := by decide +kernel
theorem dX0_drawEnds_11 : decode cX0_drawEnds 11 = .ok (.invokevirtual 55, 3) := by decide +kernel
theorem dX0_drawEnds_14 : decode cX0_drawEnds 14 = .ok (.if_icmp .ge 15, 3) := by decide +kernel
theorem dX0_drawEnds_17 : decode cX0_drawEnds 17 = .ok (.aload_n 0, 1) := by decide +kernel
theorem dX0_drawEnds_18 : decode cX0_drawEnds 18 = .ok (.iload_n 1, 1) := by decide +kernel
theorem dX0_drawEnds_19 : decode cX0_drawEnds 19 = .ok (.iload_n 2, 1) := by decide +kernel
theorem dX0_drawEnds_20 : decode cX0_drawEnds 20 = .ok (.invokevirtual 59, 3) := by decide +kernel
theorem dX0_drawEnds_23 : decode cX0_drawEnds 23 = .ok (.iinc 2 1, 3) := by decide +kernel
theorem dX0_drawEnds_26 : decode cX0_drawEnds 26 = .ok (.goto (-17), 3) := by decide +kernel
theorem dX0_drawEnds_29 : decode cX0_drawEnds 29 = .ok (.iinc 1 1, 3) := by decide +kernel
theorem dX0_drawEnds_32 : decode cX0_drawEnds 32 = .ok (.goto (-30), 3) := by decide +kernel
theorem dX0_drawEnds_35 : decode cX0_drawEnds 35 = .ok (.return_, 1) := by decide +kernel
set_option maxRecDepth 20000 in
theorem ggX0_drawWay_X0_beside : GoodIn wsX0_drawWay wsX0_beside := goodIn_r _ [6, 7, 8, 14, 15, 16, 17, 18, 19, 20, 21, 22, 23] (by decide +kernel) (by decide +kernel)
set_option maxRecDepth 20000 in
theorem gX0_drawWay_X0_beside : GoodIn wsX0_drawWay (wsV RX0 63 RX0 yX0_beside wsX0_beside) := goodIn_app (goodIn_of _ (by decide +kernel)) ggX0_drawWay_X0_beside
set_option maxRecDepth 20000 in
theorem ggX0_drawWay_X0_onCell : GoodIn wsX0_drawWay wsX0_onCell := goodIn_r _ [12, 13, 14, 15, 16, 17, 18, 19, 20, 21, 22, 23] (by decide +kernel) (by decide +kernel)
set_option maxRecDepth 20000 in
theorem gX0_drawWay_X0_onCell : GoodIn wsX0_drawWay (wsV RX0 66 RX0 yX0_onCell wsX0_onCell) := goodIn_app (goodIn_of _ (by decide +kernel)) ggX0_drawWay_X0_onCell
theorem dX0_drawWay_0 : decode cX0_drawWay 0 = .ok (.iload_n 2, 1) := by decide +kernel
theorem dX0_drawWay_1 : decode cX0_drawWay 1 = .ok (.istore_n 3, 1) := by decide +kernel
theorem dX0_drawWay_2 : decode cX0_drawWay 2 = .ok (.iconst (-1), 1) := by decide +kernel
theorem dX0_drawWay_3 : decode cX0_drawWay 3 = .ok (.istore 4, 2) := by decide +kernel
theorem dX0_drawWay_5 : decode cX0_drawWay 5 = .ok (.iconst 1, 1) := by decide +kernel
theorem dX0_drawWay_6 : decode cX0_drawWay 6 = .ok (.istore 5, 2) := by decide +kernel
theorem dX0_drawWay_8 : decode cX0_drawWay 8 = .ok (.iload 5, 2) := by decide +kernel
theorem dX0_drawWay_10 : decode cX0_drawWay 10 = .ok (.iconst 5, 1) := by decide +kernel
theorem dX0_drawWay_11 : decode cX0_drawWay 11 = .ok (.if_icmp .gt 55, 3) := by decide +kernel
theorem dX0_drawWay_14 : decode cX0_drawWay 14 = .ok (.aload_n 0, 1) := by decide +kernel
theorem dX0_drawWay_15 : decode cX0_drawWay 15 = .ok (.iload_n 3, 1) := by decide +kernel
theorem dX0_drawWay_16 : decode cX0_drawWay 16 = .ok (.iload_n 1, 1) := by decide +kernel
theorem dX0_drawWay_17 : decode cX0_drawWay 17 = .ok (.invokevirtual 63, 3) := by decide +kernel
theorem dX0_drawWay_20 : decode cX0_drawWay 20 = .ok (.istore 6, 2) := by decide +kernel
theorem dX0_drawWay_22 : decode cX0_drawWay 22 = .ok (.aload_n 0, 1) := by decide +kernel
theorem dX0_drawWay_23 : decode cX0_drawWay 23 = .ok (.iload 6, 2) := by decide +kernel
theorem dX0_drawWay_25 : decode cX0_drawWay 25 = .ok (.invokevirtual 66, 3) := by decide +kernel
theorem dX0_drawWay_28 : decode cX0_drawWay 28 = .ok (.bipush (-5), 2) := by decide +kernel
theorem dX0_drawWay_30 : decode cX0_drawWay 30 = .ok (.if_icmp .eq 10, 3) := by decide +kernel
theorem dX0_drawWay_33 : decode cX0_drawWay 33 = .ok (.iload 6, 2) := by decide +kernel
theorem dX0_drawWay_35 : decode cX0_drawWay 35 = .ok (.istore_n 3, 1) := by decide +kernel
theorem dX0_drawWay_36 : decode cX0_drawWay 36 = .ok (.iload 6, 2) := by decide +kernel
theorem dX0_drawWay_38 : decode cX0_drawWay 38 = .ok (.istore 4, 2) := by decide +kernel
theorem dX0_drawWay_40 : decode cX0_drawWay 40 = .ok (.aload_n 0, 1) := by decide +kernel
theorem dX0_drawWay_41 : decode cX0_drawWay 41 = .ok (.getfield 21, 3) := by decide +kernel
theorem dX0_drawWay_44 : decode cX0_drawWay 44 = .ok (.iload 5, 2) := by decide +kernel
theorem dX0_drawWay_46 : decode cX0_drawWay 46 = .ok (.iconst 1, 1) := by decide +kernel
theorem dX0_drawWay_47 : decode cX0_drawWay 47 = .ok (.isub, 1) := by decide +kernel
theorem dX0_drawWay_48 : decode cX0_drawWay 48 = .ok (.iconst 4, 1) := by decide +kernel
theorem dX0_drawWay_49 : decode cX0_drawWay 49 = .ok (.imul, 1) := by decide +kernel
theorem dX0_drawWay_50 : decode cX0_drawWay 50 = .ok (.iload_n 1, 1) := by decide +kernel
theorem dX0_drawWay_51 : decode cX0_drawWay 51 = .ok (.iadd, 1) := by decide +kernel
theorem dX0_drawWay_52 : decode cX0_drawWay 52 = .ok (.bipush 30, 2) := by decide +kernel
theorem dX0_drawWay_54 : decode cX0_drawWay 54 = .ok (.imul, 1) := by decide +kernel
theorem dX0_drawWay_55 : decode cX0_drawWay 55 = .ok (.iload_n 2, 1) := by decide +kernel
theorem dX0_drawWay_56 : decode cX0_drawWay 56 = .ok (.iadd, 1) := by decide +kernel
theorem dX0_drawWay_57 : decode cX0_drawWay 57 = .ok (.iload 4, 2) := by decide +kernel
theorem dX0_drawWay_59 : decode cX0_drawWay 59 = .ok (.iastore, 1) := by decide +kernel
theorem dX0_drawWay_60 : decode cX0_drawWay 60 = .ok (.iinc 5 1, 3) := by decide +kernel
theorem dX0_drawWay_63 : decode cX0_drawWay 63 = .ok (.goto (-55), 3) := by decide +kernel
theorem dX0_drawWay_66 : decode cX0_drawWay 66 = .ok (.return_, 1) := by decide +kernel
theorem dX0_beside_0 : decode cX0_beside 0 = .ok (.aload_n 0, 1) := by decide +kernel
theorem dX0_beside_1 : decode cX0_beside 1 = .ok (.getfield 30, 3) := by decide +kernel
theorem dX0_beside_4 : decode cX0_beside 4 = .ok (.iconst 1, 1) := by decide +kernel
theorem dX0_beside_5 : decode cX0_beside 5 = .ok (.if_icmp .ge 5, 3) := by decide +kernel
theorem dX0_beside_8 : decode cX0_beside 8 = .ok (.iload_n 1, 1) := by decide +kernel
theorem dX0_beside_9 : decode cX0_beside 9 = .ok (.ireturn, 1) := by decide +kernel
theorem dX0_beside_10 : decode cX0_beside 10 = .ok (.aload_n 0, 1) := by decide +kernel
theorem dX0_beside_11 : decode cX0_beside 11 = .ok (.getfield 30, 3) := by decide +kernel
theorem dX0_beside_14 : decode cX0_beside 14 = .ok (.aload_n 0, 1) := by decide +kernel
theorem dX0_beside_15 : decode cX0_beside 15 = .ok (.getfield 34, 3) := by decide +kernel
theorem dX0_beside_18 : decode cX0_beside 18 = .ok (.imul, 1) := by decide +kernel
theorem dX0_beside_19 : decode cX0_beside 19 = .ok (.istore_n 3, 1) := by decide +kernel
theorem dX0_beside_20 : decode cX0_beside 20 = .ok (.iload_n 1, 1) := by decide +kernel
theorem dX0_beside_21 : decode cX0_beside 21 = .ok (.aload_n 0, 1) := by decide +kernel
theorem dX0_beside_22 : decode cX0_beside 22 = .ok (.getfield 30, 3) := by decide +kernel
theorem dX0_beside_25 : decode cX0_beside 25 = .ok (.irem, 1) := by decide +kernel
theorem dX0_beside_26 : decode cX0_beside 26 = .ok (.istore 4, 2) := by decide +kernel
theorem dX0_beside_28 : decode cX0_beside 28 = .ok (.iload_n 2, 1) := by decide +kernel
theorem dX0_beside_29 : decode cX0_beside 29 = .ok (.tableswitch 127 0 3 #[31, 57, 79, 107], 31) := by decide +kernel
theorem dX0_beside_60 : decode cX0_beside 60 = .ok (.iload_n 1, 1) := by decide +kernel
theorem dX0_beside_61 : decode cX0_beside 61 = .ok (.aload_n 0, 1) := by decide +kernel
theorem dX0_beside_62 : decode cX0_beside 62 = .ok (.getfield 30, 3) := by decide +kernel
theorem dX0_beside_65 : decode cX0_beside 65 = .ok (.if_icmp .lt 12, 3) := by decide +kernel
theorem dX0_beside_68 : decode cX0_beside 68 = .ok (.iload_n 1, 1) := by decide +kernel
theorem dX0_beside_69 : decode cX0_beside 69 = .ok (.aload_n 0, 1) := by decide +kernel
theorem dX0_beside_70 : decode cX0_beside 70 = .ok (.getfield 30, 3) := by decide +kernel
theorem dX0_beside_73 : decode cX0_beside 73 = .ok (.isub, 1) := by decide +kernel
theorem dX0_beside_74 : decode cX0_beside 74 = .ok (.goto 11, 3) := by decide +kernel
theorem dX0_beside_77 : decode cX0_beside 77 = .ok (.iload_n 1, 1) := by decide +kernel
theorem dX0_beside_78 : decode cX0_beside 78 = .ok (.aload_n 0, 1) := by decide +kernel
theorem dX0_beside_79 : decode cX0_beside 79 = .ok (.getfield 30, 3) := by decide +kernel
theorem dX0_beside_82 : decode cX0_beside 82 = .ok (.isub, 1) := by decide +kernel
theorem dX0_beside_83 : decode cX0_beside 83 = .ok (.iload_n 3, 1) := by decide +kernel
theorem dX0_beside_84 : decode cX0_beside 84 = .ok (.iadd, 1) := by decide +kernel
theorem dX0_beside_85 : decode cX0_beside 85 = .ok (.ireturn, 1) := by decide +kernel
theorem dX0_beside_86 : decode cX0_beside 86 = .ok (.iload 4, 2) := by decide +kernel
theorem dX0_beside_88 : decode cX0_beside 88 = .ok (.aload_n 0, 1) := by decide +kernel
theorem dX0_beside_89 : decode cX0_beside 89 = .ok (.getfield 30, 3) := by decide +kernel
theorem dX0_beside_92 : decode cX0_beside 92 = .ok (.iconst 1, 1) := by decide +kernel
theorem dX0_beside_93 : decode cX0_beside 93 = .ok (.isub, 1) := by decide +kernel
theorem dX0_beside_94 : decode cX0_beside 94 = .ok (.if_icmp .ge 9, 3) := by decide +kernel
theorem dX0_beside_97 : decode cX0_beside 97 = .ok (.iload_n 1, 1) := by decide +kernel
theorem dX0_beside_98 : decode cX0_beside 98 = .ok (.iconst 1, 1) := by decide +kernel
theorem dX0_beside_99 : decode cX0_beside 99 = .ok (.iadd, 1) := by decide +kernel
theorem dX0_beside_100 : decode cX0_beside 100 = .ok (.goto 7, 3) := by decide +kernel
theorem dX0_beside_103 : decode cX0_beside 103 = .ok (.iload_n 1, 1) := by decide +kernel
theorem dX0_beside_104 : decode cX0_beside 104 = .ok (.iload 4, 2) := by decide +kernel
theorem dX0_beside_106 : decode cX0_beside 106 = .ok (.isub, 1) := by decide +kernel
theorem dX0_beside_107 : decode cX0_beside 107 = .ok (.ireturn, 1) := by decide +kernel
theorem dX0_beside_108 : decode cX0_beside 108 = .ok (.iload_n 1, 1) := by decide +kernel
theorem dX0_beside_109 : decode cX0_beside 109 = .ok (.iload_n 3, 1) := by decide +kernel
theorem dX0_beside_110 : decode cX0_beside 110 = .ok (.aload_n 0, 1) := by decide +kernel
theorem dX0_beside_111 : decode cX0_beside 111 = .ok (.getfield 30, 3) := by decide +kernel
theorem dX0_beside_114 : decode cX0_beside 114 = .ok (.isub, 1) := by decide +kernel
theorem dX0_beside_115 : decode cX0_beside 115 = .ok (.if_icmp .ge 12, 3) := by decide +kernel
theorem dX0_beside_118 : decode cX0_beside 118 = .ok (.iload_n 1, 1) := by decide +kernel
theorem dX0_beside_119 : decode cX0_beside 119 = .ok (.aload_n 0, 1) := by decide +kernel
theorem dX0_beside_120 : decode cX0_beside 120 = .ok (.getfield 30, 3) := by decide +kernel
theorem dX0_beside_123 : decode cX0_beside 123 = .ok (.iadd, 1) := by decide +kernel
theorem dX0_beside_124 : decode cX0_beside 124 = .ok (.goto 11, 3) := by decide +kernel
theorem dX0_beside_127 : decode cX0_beside 127 = .ok (.iload_n 1, 1) := by decide +kernel
theorem dX0_beside_128 : decode cX0_beside 128 = .ok (.aload_n 0, 1) := by decide +kernel
theorem dX0_beside_129 : decode cX0_beside 129 = .ok (.getfield 30, 3) := by decide +kernel
theorem dX0_beside_132 : decode cX0_beside 132 = .ok (.iadd, 1) := by decide +kernel
theorem dX0_beside_133 : decode cX0_beside 133 = .ok (.iload_n 3, 1) := by decide +kernel
theorem dX0_beside_134 : decode cX0_beside 134 = .ok (.isub, 1) := by decide +kernel
theorem dX0_beside_135 : decode cX0_beside 135 = .ok (.ireturn, 1) := by decide +kernel
theorem dX0_beside_136 : decode cX0_beside 136 = .ok (.iload 4, 2) := by decide +kernel
theorem dX0_beside_138 : decode cX0_beside 138 = .ok (.ifCond .le 9, 3) := by decide +kernel
theorem dX0_beside_141 : decode cX0_beside 141 = .ok (.iload_n 1, 1) := by decide +kernel
theorem dX0_beside_142 : decode cX0_beside 142 = .ok (.iconst 1, 1) := by decide +kernel
theorem dX0_beside_143 : decode cX0_beside 143 = .ok (.isub, 1) := by decide +kernel
theorem dX0_beside_144 : decode cX0_beside 144 = .ok (.goto 11, 3) := by decide +kernel
theorem dX0_beside_147 : decode cX0_beside 147 = .ok (.iload_n 1, 1) := by decide +kernel
theorem dX0_beside_148 : decode cX0_beside 148 = .ok (.aload_n 0, 1) := by decide +kernel
theorem dX0_beside_149 : decode cX0_beside 149 = .ok (.getfield 30, 3) := by decide +kernel
theorem dX0_beside_152 : decode cX0_beside 152 = .ok (.iadd, 1) := by decide +kernel
theorem dX0_beside_153 : decode cX0_beside 153 = .ok (.iconst 1, 1) := by decide +kernel
theorem dX0_beside_154 : decode cX0_beside 154 = .ok (.isub, 1) := by decide +kernel
theorem dX0_beside_155 : decode cX0_beside 155 = .ok (.ireturn, 1) := by decide +kernel
theorem dX0_beside_156 : decode cX0_beside 156 = .ok (.iload_n 1, 1) := by decide +kernel
theorem dX0_beside_157 : decode cX0_beside 157 = .ok (.ireturn, 1) := by decide +kernel
theorem dX0_endOf_0 : decode cX0_endOf 0 = .ok (.iload_n 1, 1) := by decide +kernel
theorem dX0_endOf_1 : decode cX0_endOf 1 = .ok (.iconst 1, 1) := by decide +kernel
theorem dX0_endOf_2 : decode cX0_endOf 2 = .ok (.if_icmp .lt 17, 3) := by decide +kernel
theorem dX0_endOf_5 : decode cX0_endOf 5 = .ok (.iload_n 1, 1) := by decide +kernel
theorem dX0_endOf_6 : decode cX0_endOf 6 = .ok (.iconst 5, 1) := by decide +kernel
theorem dX0_endOf_7 : decode cX0_endOf 7 = .ok (.if_icmp .gt 12, 3) := by decide +kernel
theorem dX0_endOf_10 : decode cX0_endOf 10 = .ok (.iload_n 2, 1) := by decide +kernel
theorem dX0_endOf_11 : decode cX0_endOf 11 = .ok (.ifCond .lt 8, 3) := by decide +kernel
theorem dX0_endOf_14 : decode cX0_endOf 14 = .ok (.iload_n 2, 1) := by decide +kernel
theorem dX0_endOf_15 : decode cX0_endOf 15 = .ok (.iconst 4, 1) := by decide +kernel
theorem dX0_endOf_16 : decode cX0_endOf 16 = .ok (.if_icmp .lt 5, 3) := by decide +kernel
theorem dX0_endOf_19 : decode cX0_endOf 19 = .ok (.iconst (-1), 1) := by decide +kernel
theorem dX0_endOf_20 : decode cX0_endOf 20 = .ok (.ireturn, 1) := by decide +kernel
theorem dX0_endOf_21 : decode cX0_endOf 21 = .ok (.iload_n 3, 1) := by decide +kernel
theorem dX0_endOf_22 : decode cX0_endOf 22 = .ok (.ifCond .lt 9, 3) := by decide +kernel
theorem dX0_endOf_25 : decode cX0_endOf 25 = .ok (.iload_n 3, 1) := by decide +kernel
theorem dX0_endOf_26 : decode cX0_endOf 26 = .ok (.bipush 30, 2) := by decide +kernel
theorem dX0_endOf_28 : decode cX0_endOf 28 = .ok (.if_icmp .lt 5, 3) := by decide +kernel
theorem dX0_endOf_31 : decode cX0_endOf 31 = .ok (.iconst (-1), 1) := by decide +kernel
theorem dX0_endOf_32 : decode cX0_endOf 32 = .ok (.ireturn, 1) := by decide +kernel
theorem dX0_endOf_33 : decode cX0_endOf 33 = .ok (.aload_n 0, 1) := by decide +kernel
theorem dX0_endOf_34 : decode cX0_endOf 34 = .ok (.getfield 21, 3) := by decide +kernel
theorem dX0_endOf_37 : decode cX0_endOf 37 = .ok (.iload_n 1, 1) := by decide +kernel
theorem dX0_endOf_38 : decode cX0_endOf 38 = .ok (.iconst 1, 1) := by decide +kernel
theorem dX0_endOf_39 : decode cX0_endOf 39 = .ok (.isub, 1) := by decide +kernel
theorem dX0_endOf_40 : decode cX0_endOf 40 = .ok (.iconst 4, 1) := by decide +kernel
theorem dX0_endOf_41 : decode cX0_endOf 41 = .ok (.imul, 1) := by decide +kernel
theorem dX0_endOf_42 : decode cX0_endOf 42 = .ok (.iload_n 2, 1) := by decide +kernel
theorem dX0_endOf_43 : decode cX0_endOf 43 = .ok (.iadd, 1) := by decide +kernel
theorem dX0_endOf_44 : decode cX0_endOf 44 = .ok (.bipush 30, 2) := by decide +kernel
theorem dX0_endOf_46 : decode cX0_endOf 46 = .ok (.imul, 1) := by decide +kernel
theorem dX0_endOf_47 : decode cX0_endOf 47 = .ok (.iload_n 3, 1) := by decide +kernel
theorem dX0_endOf_48 : decode cX0_endOf 48 = .ok (.iadd, 1) := by decide +kernel
theorem dX0_endOf_49 : decode cX0_endOf 49 = .ok (.iaload, 1) := by decide +kernel
theorem dX0_endOf_50 : decode cX0_endOf 50 = .ok (.ireturn, 1) := by decide +kernel
set_option maxRecDepth 20000 in
theorem ggX1_letUp_X0_cellOfIsle : GoodIn wsX1_letUp wsX0_cellOfIsle := goodIn_r _ [13, 14, 22, 23, 24, 25, 26, 27, 28, 29, 30, 31] (by decide +kernel) (by decide +kernel)
set_option maxRecDepth 20000 in
theorem gX1_letUp_X0_cellOfIsle : GoodIn wsX1_letUp (wsV RX1 21 RX0 yX0_cellOfIsle wsX0_cellOfIsle) := goodIn_app (goodIn_of _ (by decide +kernel)) ggX1_letUp_X0_cellOfIsle
theorem dX1_letUp_0 : decode cX1_letUp 0 = .ok (.aload_n 0, 1) := by decide +kernel
theorem dX1_letUp_1 : decode cX1_letUp 1 = .ok (.iload 4, 2) := by decide +kernel
theorem dX1_letUp_3 : decode cX1_letUp 3 = .ok (.putfield 9, 3) := by decide +kernel
theorem dX1_letUp_6 : decode cX1_letUp 6 = .ok (.aload_n 0, 1) := by decide +kernel
theorem dX1_letUp_7 : decode cX1_letUp 7 = .ok (.iload_n 2, 1) := by decide +kernel
theorem dX1_letUp_8 : decode cX1_letUp 8 = .ok (.putfield 15, 3) := by decide +kernel
theorem dX1_letUp_11 : decode cX1_letUp 11 = .ok (.aload_n 0, 1) := by decide +kernel
theorem dX1_letUp_12 : decode cX1_letUp 12 = .ok (.iload_n 3, 1) := by decide +kernel
theorem dX1_letUp_13 : decode cX1_letUp 13 = .ok (.putfield 18, 3) := by decide +kernel
theorem dX1_letUp_16 : decode cX1_letUp 16 = .ok (.aload_n 0, 1) := by decide +kernel
theorem dX1_letUp_17 : decode cX1_letUp 17 = .ok (.aload_n 1, 1) := by decide +kernel
theorem dX1_letUp_18 : decode cX1_letUp 18 = .ok (.iload_n 2, 1) := by decide +kernel
theorem dX1_letUp_19 : decode cX1_letUp 19 = .ok (.invokevirtual 21, 3) := by decide +kernel
theorem dX1_letUp_22 : decode cX1_letUp 22 = .ok (.putfield 27, 3) := by decide +kernel
theorem dX1_letUp_25 : decode cX1_letUp 25 = .ok (.aload_n 0, 1) := by decide +kernel
theorem dX1_letUp_26 : decode cX1_letUp 26 = .ok (.iconst 1, 1) := by decide +kernel
theorem dX1_letUp_27 : decode cX1_letUp 27 = .ok (.iload_n 2, 1) := by decide +kernel
theorem dX1_letUp_28 : decode cX1_letUp 28 = .ok (.ishl, 1) := by decide +kernel
theorem dX1_letUp_29 : decode cX1_letUp 29 = .ok (.putfield 30, 3) := by decide +kernel
theorem dX1_letUp_32 : decode cX1_letUp 32 = .ok (.aload_n 0, 1) := by decide +kernel
theorem dX1_letUp_33 : decode cX1_letUp 33 = .ok (.iconst 0, 1) := by decide +kernel
theorem dX1_letUp_34 : decode cX1_letUp 34 = .ok (.putfield 33, 3) := by decide +kernel
theorem dX1_letUp_37 : decode cX1_letUp 37 = .ok (.aload_n 0, 1) := by decide +kernel
theorem dX1_letUp_38 : decode cX1_letUp 38 = .ok (.aload_n 1, 1) := by decide +kernel
theorem dX1_letUp_39 : decode cX1_letUp 39 = .ok (.getfield 36, 3) := by decide +kernel
theorem dX1_letUp_42 : decode cX1_letUp 42 = .ok (.iload 4, 2) := by decide +kernel
theorem dX1_letUp_44 : decode cX1_letUp 44 = .ok (.isub, 1) := by decide +kernel
theorem dX1_letUp_45 : decode cX1_letUp 45 = .ok (.putfield 39, 3) := by decide +kernel
theorem dX1_letUp_48 : decode cX1_letUp 48 = .ok (.return_, 1) := by decide +kernel
theorem dX1_copyFrom_0 : decode cX1_copyFrom 0 = .ok (.aload_n 0, 1) := by decide +kernel
theorem dX1_copyFrom_1 : decode cX1_copyFrom 1 = .ok (.aload_n 1, 1) := by decide +kernel
theorem dX1_copyFrom_2 : decode cX1_copyFrom 2 = .ok (.getfield 9, 3) := by decide +kernel
theorem dX1_copyFrom_5 : decode cX1_copyFrom 5 = .ok (.putfield 9, 3) := by decide +kernel
theorem dX1_copyFrom_8 : decode cX1_copyFrom 8 = .ok (.aload_n 0, 1) := by decide +kernel
theorem dX1_copyFrom_9 : decode cX1_copyFrom 9 = .ok (.aload_n 1, 1) := by decide +kernel
theorem dX1_copyFrom_10 : decode cX1_copyFrom 10 = .ok (.getfield 15, 3) := by decide +kernel
theorem dX1_copyFrom_13 : decode cX1_copyFrom 13 = .ok (.putfield 15, 3) := by decide +kernel
theorem dX1_copyFrom_16 : decode cX1_copyFrom 16 = .ok (.aload_n 0, 1) := by decide +kernel
theorem dX1_copyFrom_17 : decode cX1_copyFrom 17 = .ok (.aload_n 1, 1) := by decide +kernel
theorem dX1_copyFrom_18 : decode cX1_copyFrom 18 = .ok (.getfield 18, 3) := by decide +kernel
theorem dX1_copyFrom_21 : decode cX1_copyFrom 21 = .ok (.putfield 18, 3) := by decide +kernel
theorem dX1_copyFrom_24 : decode cX1_copyFrom 24 = .ok (.aload_n 0, 1) := by decide +kernel
theorem dX1_copyFrom_25 : decode cX1_copyFrom 25 = .ok (.aload_n 1, 1) := by decide +kernel
theorem dX1_copyFrom_26 : decode cX1_copyFrom 26 = .ok (.getfield 27, 3) := by decide +kernel
theorem dX1_copyFrom_29 : decode cX1_copyFrom 29 = .ok (.putfield 27, 3) := by decide +kernel
theorem dX1_copyFrom_32 : decode cX1_copyFrom 32 = .ok (.aload_n 0, 1) := by decide +kernel
theorem dX1_copyFrom_33 : decode cX1_copyFrom 33 = .ok (.aload_n 1, 1) := by decide +kernel
theorem dX1_copyFrom_34 : decode cX1_copyFrom 34 = .ok (.getfield 30, 3) := by decide +kernel
theorem dX1_copyFrom_37 : decode cX1_copyFrom 37 = .ok (.putfield 30, 3) := by decide +kernel
theorem dX1_copyFrom_40 : decode cX1_copyFrom 40 = .ok (.aload_n 0, 1) := by decide +kernel
theorem dX1_copyFrom_41 : decode cX1_copyFrom 41 = .ok (.aload_n 1, 1) := by decide +kernel
theorem dX1_copyFrom_42 : decode cX1_copyFrom 42 = .ok (.getfield 33, 3) := by decide +kernel
theorem dX1_copyFrom_45 : decode cX1_copyFrom 45 = .ok (.putfield 33, 3) := by decide +kernel
theorem dX1_copyFrom_48 : decode cX1_copyFrom 48 = .ok (.aload_n 0, 1) := by decide +kernel
theorem dX1_copyFrom_49 : decode cX1_copyFrom 49 = .ok (.aload_n 1, 1) := by decide +kernel
theorem dX1_copyFrom_50 : decode cX1_copyFrom 50 = .ok (.getfield 39, 3) := by decide +kernel
theorem dX1_copyFrom_53 : decode cX1_copyFrom 53 = .ok (.putfield 39, 3) := by decide +kernel
theorem dX1_copyFrom_56 : decode cX1_copyFrom 56 = .ok (.return_, 1) := by decide +kernel
set_option maxRecDepth 20000 in
theorem ggX1_passHour_X0_endOf : GoodIn wsX1_passHour wsX0_endOf := goodIn_r _ [10, 11, 27, 28, 29, 30, 31, 32, 33, 34, 35, 36] (by decide +kernel) (by decide +kernel)
set_option maxRecDepth 20000 in
theorem gX1_passHour_X0_endOf : GoodIn wsX1_passHour (wsV RX1 42 RX0 yX0_endOf wsX0_endOf) := goodIn_app (goodIn_of _ (by decide +kernel)) ggX1_passHour_X0_endOf
set_option maxRecDepth 20000 in
theorem ggX1_passHour_X0_onCell : GoodIn wsX1_passHour wsX0_onCell := goodIn_r _ [15, 16, 27, 28, 29, 30, 31, 32, 33, 34, 35, 36] (by decide +kernel) (by decide +kernel)
set_option maxRecDepth 20000 in
theorem gX1_passHour_X0_onCell : GoodIn wsX1_passHour (wsV RX1 46 RX0 yX0_onCell wsX0_onCell) := goodIn_app (goodIn_of _ (by decide +kernel)) ggX1_passHour_X0_onCell
set_option maxRecDepth 20000 in
theorem ggX1_passHour_X4_bitOf : GoodIn wsX1_passHour wsX4_bitOf := goodIn_r _ [19] (by decide +kernel) (by decide +kernel)
set_option maxRecDepth 20000 in
theorem gX1_passHour_X4_bitOf_n49 : GoodIn wsX1_passHour (wsX4_bitOf) := ggX1_passHour_X4_bitOf
theorem dX1_passHour_0 : decode cX1_passHour 0 = .ok (.aload_n 0, 1) := by decide +kernel
theorem dX1_passHour_1 : decode cX1_passHour 1 = .ok (.getfield 33, 3) := by decide +kernel
theorem dX1_passHour_4 : decode cX1_passHour 4 = .ok (.ifCond .eq 4, 3) := by decide +kernel
theorem dX1_passHour_7 : decode cX1_passHour 7 = .ok (.return_, 1) := by decide +kernel
theorem dX1_passHour_8 : decode cX1_passHour 8 = .ok (.aload_n 1, 1) := by decide +kernel
theorem dX1_passHour_9 : decode cX1_passHour 9 = .ok (.aload_n 0, 1) := by decide +kernel
theorem dX1_passHour_10 : decode cX1_passHour 10 = .ok (.getfield 39, 3) := by decide +kernel
theorem dX1_passHour_13 : decode cX1_passHour 13 = .ok (.iload_n 2, 1) := by decide +kernel
theorem dX1_passHour_14 : decode cX1_passHour 14 = .ok (.aload_n 0, 1) := by decide +kernel
theorem dX1_passHour_15 : decode cX1_passHour 15 = .ok (.getfield 27, 3) := by decide +kernel
theorem dX1_passHour_18 : decode cX1_passHour 18 = .ok (.invokevirtual 42, 3) := by decide +kernel
theorem dX1_passHour_21 : decode cX1_passHour 21 = .ok (.istore 4, 2) := by decide +kernel
theorem dX1_passHour_23 : decode cX1_passHour 23 = .ok (.iload 4, 2) := by decide +kernel
theorem dX1_passHour_25 : decode cX1_passHour 25 = .ok (.iconst (-1), 1) := by decide +kernel
theorem dX1_passHour_26 : decode cX1_passHour 26 = .ok (.if_icmp .ne 4, 3) := by decide +kernel
theorem dX1_passHour_29 : decode cX1_passHour 29 = .ok (.return_, 1) := by decide +kernel
theorem dX1_passHour_30 : decode cX1_passHour 30 = .ok (.aload_n 0, 1) := by decide +kernel
theorem dX1_passHour_31 : decode cX1_passHour 31 = .ok (.iload 4, 2) := by decide +kernel
theorem dX1_passHour_33 : decode cX1_passHour 33 = .ok (.putfield 27, 3) := by decide +kernel
theorem dX1_passHour_36 : decode cX1_passHour 36 = .ok (.aload_n 1, 1) := by decide +kernel
theorem dX1_passHour_37 : decode cX1_passHour 37 = .ok (.iload 4, 2) := by decide +kernel
theorem dX1_passHour_39 : decode cX1_passHour 39 = .ok (.invokevirtual 46, 3) := by decide +kernel
theorem dX1_passHour_42 : decode cX1_passHour 42 = .ok (.istore 5, 2) := by decide +kernel
theorem dX1_passHour_44 : decode cX1_passHour 44 = .ok (.iload 5, 2) := by decide +kernel
theorem dX1_passHour_46 : decode cX1_passHour 46 = .ok (.ifCond .ge 4, 3) := by decide +kernel
theorem dX1_passHour_49 : decode cX1_passHour 49 = .ok (.return_, 1) := by decide +kernel
theorem dX1_passHour_50 : decode cX1_passHour 50 = .ok (.iload 5, 2) := by decide +kernel
theorem dX1_passHour_52 : decode cX1_passHour 52 = .ok (.aload_n 0, 1) := by decide +kernel
theorem dX1_passHour_53 : decode cX1_passHour 53 = .ok (.getfield 18, 3) := by decide +kernel
theorem dX1_passHour_56 : decode cX1_passHour 56 = .ok (.if_icmp .eq 19, 3) := by decide +kernel
theorem dX1_passHour_59 : decode cX1_passHour 59 = .ok (.iload_n 3, 1) := by decide +kernel
theorem dX1_passHour_60 : decode cX1_passHour 60 = .ok (.iload 5, 2) := by decide +kernel
theorem dX1_passHour_62 : decode cX1_passHour 62 = .ok (.invokestatic 49, 3) := by decide +kernel
theorem dX1_passHour_65 : decode cX1_passHour 65 = .ok (.iconst 1, 1) := by decide +kernel
theorem dX1_passHour_66 : decode cX1_passHour 66 = .ok (.if_icmp .ne 9, 3) := by decide +kernel
theorem dX1_passHour_69 : decode cX1_passHour 69 = .ok (.aload_n 0, 1) := by decide +kernel
theorem dX1_passHour_70 : decode cX1_passHour 70 = .ok (.iconst 2, 1) := by decide +kernel
theorem dX1_passHour_71 : decode cX1_passHour 71 = .ok (.putfield 33, 3) := by decide +kernel
theorem dX1_passHour_74 : decode cX1_passHour 74 = .ok (.return_, 1) := by decide +kernel
theorem dX1_passHour_75 : decode cX1_passHour 75 = .ok (.aload_n 0, 1) := by decide +kernel
theorem dX1_passHour_76 : decode cX1_passHour 76 = .ok (.dup, 1) := by decide +kernel
theorem dX1_passHour_77 : decode cX1_passHour 77 = .ok (.getfield 30, 3) := by decide +kernel
theorem dX1_passHour_80 : decode cX1_passHour 80 = .ok (.iconst 1, 1) := by decide +kernel
theorem dX1_passHour_81 : decode cX1_passHour 81 = .ok (.iload 5, 2) := by decide +kernel
theorem dX1_passHour_83 : decode cX1_passHour 83 = .ok (.ishl, 1) := by decide +kernel
theorem dX1_passHour_84 : decode cX1_passHour 84 = .ok (.ior, 1) := by decide +kernel
theorem dX1_passHour_85 : decode cX1_passHour 85 = .ok (.putfield 30, 3) := by decide +kernel
theorem dX1_passHour_88 : decode cX1_passHour 88 = .ok (.iload 5, 2) := by decide +kernel
theorem dX1_passHour_90 : decode cX1_passHour 90 = .ok (.aload_n 0, 1) := by decide +kernel
theorem dX1_passHour_91 : decode cX1_passHour 91 = .ok (.getfield 18, 3) := by decide +kernel
theorem dX1_passHour_94 : decode cX1_passHour 94 = .ok (.if_icmp .ne 8, 3) := by decide +kernel
theorem dX1_passHour_97 : decode cX1_passHour 97 = .ok (.aload_n 0, 1) := by decide +kernel
theorem dX1_passHour_98 : decode cX1_passHour 98 = .ok (.iconst 1, 1) := by decide +kernel
theorem dX1_passHour_99 : decode cX1_passHour 99 = .ok (.putfield 33, 3) := by decide +kernel
theorem dX1_passHour_102 : decode cX1_passHour 102 = .ok (.return_, 1) := by decide +kernel
theorem dX2_beginAnew_0 : decode cX2_beginAnew 0 = .ok (.aload_n 0, 1) := by decide +kernel
theorem dX2_beginAnew_1 : decode cX2_beginAnew 1 = .ok (.iconst 0, 1) := by decide +kernel
theorem dX2_beginAnew_2 : decode cX2_beginAnew 2 = .ok (.putfield 22, 3) := by decide +kernel
theorem dX2_beginAnew_5 : decode cX2_beginAnew 5 = .ok (.aload_n 0, 1) := by decide +kernel
theorem dX2_beginAnew_6 : decode cX2_beginAnew 6 = .ok (.iconst 0, 1) := by decide +kernel
theorem dX2_beginAnew_7 : decode cX2_beginAnew 7 = .ok (.putfield 26, 3) := by decide +kernel
theorem dX2_beginAnew_10 : decode cX2_beginAnew 10 = .ok (.aload_n 0, 1) := by decide +kernel
theorem dX2_beginAnew_11 : decode cX2_beginAnew 11 = .ok (.iconst 0, 1) := by decide +kernel
theorem dX2_beginAnew_12 : decode cX2_beginAnew 12 = .ok (.putfield 29, 3) := by decide +kernel
theorem dX2_beginAnew_15 : decode cX2_beginAnew 15 = .ok (.aload_n 0, 1) := by decide +kernel
theorem dX2_beginAnew_16 : decode cX2_beginAnew 16 = .ok (.aload_n 1, 1) := by decide +kernel
theorem dX2_beginAnew_17 : decode cX2_beginAnew 17 = .ok (.getfield 32, 3) := by decide +kernel
theorem dX2_beginAnew_20 : decode cX2_beginAnew 20 = .ok (.putfield 37, 3) := by decide +kernel
theorem dX2_beginAnew_23 : decode cX2_beginAnew 23 = .ok (.iconst 0, 1) := by decide +kernel
theorem dX2_beginAnew_24 : decode cX2_beginAnew 24 = .ok (.istore_n 2, 1) := by decide +kernel
theorem dX2_beginAnew_25 : decode cX2_beginAnew 25 = .ok (.iload_n 2, 1) := by decide +kernel
theorem dX2_beginAnew_26 : decode cX2_beginAnew 26 = .ok (.bipush 12, 2) := by decide +kernel
theorem dX2_beginAnew_28 : decode cX2_beginAnew 28 = .ok (.if_icmp .ge 21, 3) := by decide +kernel
theorem dX2_beginAnew_31 : decode cX2_beginAnew 31 = .ok (.aload_n 0, 1) := by decide +kernel
theorem dX2_beginAnew_32 : decode cX2_beginAnew 32 = .ok (.getfield 9, 3) := by decide +kernel
theorem dX2_beginAnew_35 : decode cX2_beginAnew 35 = .ok (.iload_n 2, 1) := by decide +kernel
theorem dX2_beginAnew_36 : decode cX2_beginAnew 36 = .ok (.aload_n 1, 1) := by decide +kernel
theorem dX2_beginAnew_37 : decode cX2_beginAnew 37 = .ok (.getfield 38, 3) := by decide +kernel
theorem dX2_beginAnew_40 : decode cX2_beginAnew 40 = .ok (.iload_n 2, 1) := by decide +kernel
theorem dX2_beginAnew_41 : decode cX2_beginAnew 41 = .ok (.iaload, 1) := by decide +kernel
theorem dX2_beginAnew_42 : decode cX2_beginAnew 42 = .ok (.iastore, 1) := by decide +kernel
theorem dX2_beginAnew_43 : decode cX2_beginAnew 43 = .ok (.iinc 2 1, 3) := by decide +kernel
theorem dX2_beginAnew_46 : decode cX2_beginAnew 46 = .ok (.goto (-21), 3) := by decide +kernel
theorem dX2_beginAnew_49 : decode cX2_beginAnew 49 = .ok (.return_, 1) := by decide +kernel
set_option maxRecDepth 20000 in
theorem ggX2_copyFrom_X1_copyFrom : GoodIn wsX2_copyFrom wsX1_copyFrom := goodIn_r _ [11, 12, 13, 14, 15, 16, 17, 18, 25, 26, 27, 28, 29, 30, 31] (by decide +kernel) (by decide +kernel)
set_option maxRecDepth 20000 in
theorem gX2_copyFrom_X1_copyFrom : GoodIn wsX2_copyFrom (wsV RX2 39 RX1 yX1_copyFrom wsX1_copyFrom) := goodIn_app (goodIn_of _ (by decide +kernel)) ggX2_copyFrom_X1_copyFrom
theorem dX2_copyFrom_0 : decode cX2_copyFrom 0 = .ok (.aload_n 0, 1) := by decide +kernel
theorem dX2_copyFrom_1 : decode cX2_copyFrom 1 = .ok (.aload_n 1, 1) := by decide +kernel
theorem dX2_copyFrom_2 : decode cX2_copyFrom 2 = .ok (.getfield 22, 3) := by decide +kernel
theorem dX2_copyFrom_5 : decode cX2_copyFrom 5 = .ok (.putfield 22, 3) := by decide +kernel
theorem dX2_copyFrom_8 : decode cX2_copyFrom 8 = .ok (.aload_n 0, 1) := by decide +kernel
theorem dX2_copyFrom_9 : decode cX2_copyFrom 9 = .ok (.aload_n 1, 1) := by decide +kernel
theorem dX2_copyFrom_10 : decode cX2_copyFrom 10 = .ok (.getfield 26, 3) := by decide +kernel
theorem dX2_copyFrom_13 : decode cX2_copyFrom 13 = .ok (.putfield 26, 3) := by decide +kernel
theorem dX2_copyFrom_16 : decode cX2_copyFrom 16 = .ok (.aload_n 0, 1) := by decide +kernel
theorem dX2_copyFrom_17 : decode cX2_copyFrom 17 = .ok (.aload_n 1, 1) := by decide +kernel
theorem dX2_copyFrom_18 : decode cX2_copyFrom 18 = .ok (.getfield 29, 3) := by decide +kernel
theorem dX2_copyFrom_21 : decode cX2_copyFrom 21 = .ok (.putfield 29, 3) := by decide +kernel
theorem dX2_copyFrom_24 : decode cX2_copyFrom 24 = .ok (.aload_n 0, 1) := by decide +kernel
theorem dX2_copyFrom_25 : decode cX2_copyFrom 25 = .ok (.aload_n 1, 1) := by decide +kernel
theorem dX2_copyFrom_26 : decode cX2_copyFrom 26 = .ok (.getfield 37, 3) := by decide +kernel
theorem dX2_copyFrom_29 : decode cX2_copyFrom 29 = .ok (.putfield 37, 3) := by decide +kernel
theorem dX2_copyFrom_32 : decode cX2_copyFrom 32 = .ok (.iconst 0, 1) := by decide +kernel
theorem dX2_copyFrom_33 : decode cX2_copyFrom 33 = .ok (.istore_n 2, 1) := by decide +kernel
theorem dX2_copyFrom_34 : decode cX2_copyFrom 34 = .ok (.iload_n 2, 1) := by decide +kernel
theorem dX2_copyFrom_35 : decode cX2_copyFrom 35 = .ok (.bipush 12, 2) := by decide +kernel
theorem dX2_copyFrom_37 : decode cX2_copyFrom 37 = .ok (.if_icmp .ge 21, 3) := by decide +kernel
theorem dX2_copyFrom_40 : decode cX2_copyFrom 40 = .ok (.aload_n 0, 1) := by decide +kernel
theorem dX2_copyFrom_41 : decode cX2_copyFrom 41 = .ok (.getfield 9, 3) := by decide +kernel
theorem dX2_copyFrom_44 : decode cX2_copyFrom 44 = .ok (.iload_n 2, 1) := by decide +kernel
theorem dX2_copyFrom_45 : decode cX2_copyFrom 45 = .ok (.aload_n 1, 1) := by decide +kernel
theorem dX2_copyFrom_46 : decode cX2_copyFrom 46 = .ok (.getfield 9, 3) := by decide +kernel
theorem dX2_copyFrom_49 : decode cX2_copyFrom 49 = .ok (.iload_n 2, 1) := by decide +kernel
theorem dX2_copyFrom_50 : decode cX2_copyFrom 50 = .ok (.iaload, 1) := by decide +kernel
theorem dX2_copyFrom_51 : decode cX2_copyFrom 51 = .ok (.iastore, 1) := by decide +kernel
theorem dX2_copyFrom_52 : decode cX2_copyFrom 52 = .ok (.iinc 2 1, 3) := by decide +kernel
theorem dX2_copyFrom_55 : decode cX2_copyFrom 55 = .ok (.goto (-21), 3) := by decide +kernel
theorem dX2_copyFrom_58 : decode cX2_copyFrom 58 = .ok (.iconst 0, 1) := by decide +kernel
theorem dX2_copyFrom_59 : decode cX2_copyFrom 59 = .ok (.istore_n 2, 1) := by decide +kernel
theorem dX2_copyFrom_60 : decode cX2_copyFrom 60 = .ok (.iload_n 2, 1) := by decide +kernel
theorem dX2_copyFrom_61 : decode cX2_copyFrom 61 = .ok (.iconst 5, 1) := by decide +kernel
theorem dX2_copyFrom_62 : decode cX2_copyFrom 62 = .ok (.if_icmp .ge 24, 3) := by decide +kernel
theorem dX2_copyFrom_65 : decode cX2_copyFrom 65 = .ok (.aload_n 0, 1) := by decide +kernel
theorem dX2_copyFrom_66 : decode cX2_copyFrom 66 = .ok (.getfield 17, 3) := by decide +kernel
theorem dX2_copyFrom_69 : decode cX2_copyFrom 69 = .ok (.iload_n 2, 1) := by decide +kernel
theorem dX2_copyFrom_70 : decode cX2_copyFrom 70 = .ok (.aaload, 1) := by decide +kernel
theorem dX2_copyFrom_71 : decode cX2_copyFrom 71 = .ok (.aload_n 1, 1) := by decide +kernel
theorem dX2_copyFrom_72 : decode cX2_copyFrom 72 = .ok (.getfield 17, 3) := by decide +kernel
theorem dX2_copyFrom_75 : decode cX2_copyFrom 75 = .ok (.iload_n 2, 1) := by decide +kernel
theorem dX2_copyFrom_76 : decode cX2_copyFrom 76 = .ok (.aaload, 1) := by decide +kernel
theorem dX2_copyFrom_77 : decode cX2_copyFrom 77 = .ok (.invokevirtual 39, 3) := by decide +kernel
theorem dX2_copyFrom_80 : decode cX2_copyFrom 80 = .ok (.iinc 2 1, 3) := by decide +kernel
theorem dX2_copyFrom_83 : decode cX2_copyFrom 83 = .ok (.goto (-23), 3) := by decide +kernel
theorem dX2_copyFrom_86 : decode cX2_copyFrom 86 = .ok (.return_, 1) := by decide +kernel
set_option maxRecDepth 20000 in
theorem ggX2_windOf_J9_floorMod_7cf53 : GoodIn wsX2_windOf wsJ9_floorMod_7cf53 := goodIn_r _ [6] (by decide +kernel) (by decide +kernel)
set_option maxRecDepth 20000 in
theorem gX2_windOf_J9_floorMod_7cf53 : GoodIn wsX2_windOf (va_wsS RX2 43 yJ9_floorMod_7cf53 wsJ9_floorMod_7cf53) := goodIn_app (goodIn_of _ (by decide +kernel)) ggX2_windOf_J9_floorMod_7cf53
theorem dX2_windOf_0 : decode cX2_windOf 0 = .ok (.aload_n 0, 1) := by decide +kernel
theorem dX2_windOf_1 : decode cX2_windOf 1 = .ok (.getfield 37, 3) := by decide +kernel
theorem dX2_windOf_4 : decode cX2_windOf 4 = .ok (.iconst 1, 1) := by decide +kernel
theorem dX2_windOf_5 : decode cX2_windOf 5 = .ok (.if_icmp .lt 12, 3) := by decide +kernel
theorem dX2_windOf_8 : decode cX2_windOf 8 = .ok (.aload_n 0, 1) := by decide +kernel
theorem dX2_windOf_9 : decode cX2_windOf 9 = .ok (.getfield 37, 3) := by decide +kernel
theorem dX2_windOf_12 : decode cX2_windOf 12 = .ok (.bipush 12, 2) := by decide +kernel
theorem dX2_windOf_14 : decode cX2_windOf 14 = .ok (.if_icmp .le 5, 3) := by decide +kernel
theorem dX2_windOf_17 : decode cX2_windOf 17 = .ok (.iconst 4, 1) := by decide +kernel
theorem dX2_windOf_18 : decode cX2_windOf 18 = .ok (.ireturn, 1) := by decide +kernel
theorem dX2_windOf_19 : decode cX2_windOf 19 = .ok (.aload_n 0, 1) := by decide +kernel
theorem dX2_windOf_20 : decode cX2_windOf 20 = .ok (.getfield 9, 3) := by decide +kernel
theorem dX2_windOf_23 : decode cX2_windOf 23 = .ok (.iload_n 1, 1) := by decide +kernel
theorem dX2_windOf_24 : decode cX2_windOf 24 = .ok (.aload_n 0, 1) := by decide +kernel
theorem dX2_windOf_25 : decode cX2_windOf 25 = .ok (.getfield 37, 3) := by decide +kernel
theorem dX2_windOf_28 : decode cX2_windOf 28 = .ok (.invokestatic 43, 3) := by decide +kernel
theorem dX2_windOf_31 : decode cX2_windOf 31 = .ok (.iaload, 1) := by decide +kernel
theorem dX2_windOf_32 : decode cX2_windOf 32 = .ok (.ireturn, 1) := by decide +kernel
theorem dX3_add_0 : decode cX3_add 0 = .ok (.aload_n 0, 1) := by decide +kernel
theorem dX3_add_1 : decode cX3_add 1 = .ok (.getfield 15, 3) := by decide +kernel
theorem dX3_add_4 : decode cX3_add 4 = .ok (.sipush 200, 3) := by decide +kernel
theorem dX3_add_7 : decode cX3_add 7 = .ok (.if_icmp .lt 4, 3) := by decide +kernel
theorem dX3_add_10 : decode cX3_add 10 = .ok (.return_, 1) := by decide +kernel
theorem dX3_add_11 : decode cX3_add 11 = .ok (.aload_n 0, 1) := by decide +kernel
theorem dX3_add_12 : decode cX3_add 12 = .ok (.getfield 9, 3) := by decide +kernel
theorem dX3_add_15 : decode cX3_add 15 = .ok (.aload_n 0, 1) := by decide +kernel
theorem dX3_add_16 : decode cX3_add 16 = .ok (.getfield 15, 3) := by decide +kernel
theorem dX3_add_19 : decode cX3_add 19 = .ok (.iload_n 1, 1) := by decide +kernel
theorem dX3_add_20 : decode cX3_add 20 = .ok (.iastore, 1) := by decide +kernel
theorem dX3_add_21 : decode cX3_add 21 = .ok (.aload_n 0, 1) := by decide +kernel
theorem dX3_add_22 : decode cX3_add 22 = .ok (.dup, 1) := by decide +kernel
theorem dX3_add_23 : decode cX3_add 23 = .ok (.getfield 15, 3) := by decide +kernel
theorem dX3_add_26 : decode cX3_add 26 = .ok (.iconst 1, 1) := by decide +kernel
theorem dX3_add_27 : decode cX3_add 27 = .ok (.iadd, 1) := by decide +kernel
theorem dX3_add_28 : decode cX3_add 28 = .ok (.putfield 15, 3) := by decide +kernel
theorem dX3_add_31 : decode cX3_add 31 = .ok (.return_, 1) := by decide +kernel
set_option maxRecDepth 20000 in
theorem ggX4_type_X4_isWithin : GoodIn wsX4_type wsX4_isWithin := goodIn_r _ [6] (by decide +kernel) (by decide +kernel)
set_option maxRecDepth 20000 in
theorem gX4_type_X4_isWithin : GoodIn wsX4_type (va_wsS RX4 54 yX4_isWithin wsX4_isWithin) := goodIn_app (goodIn_of _ (by decide +kernel)) ggX4_type_X4_isWithin
set_option maxRecDepth 20000 in
theorem ggX4_type_X3_add : GoodIn wsX4_type wsX3_add := goodIn_r _ [11, 12, 13, 26, 27, 28, 29, 30, 31, 32, 33] (by decide +kernel) (by decide +kernel)
set_option maxRecDepth 20000 in
theorem gX4_type_X3_add : GoodIn wsX4_type (wsV RX4 62 RX3 yX3_add wsX3_add) := goodIn_app (goodIn_of _ (by decide +kernel)) ggX4_type_X3_add
theorem dX4_type_0 : decode cX4_type 0 = .ok (.iload_n 1, 1) := by decide +kernel
theorem dX4_type_1 : decode cX4_type 1 = .ok (.iconst 0, 1) := by decide +kernel
theorem dX4_type_2 : decode cX4_type 2 = .ok (.sipush 255, 3) := by decide +kernel
theorem dX4_type_5 : decode cX4_type 5 = .ok (.invokestatic 54, 3) := by decide +kernel
theorem dX4_type_8 : decode cX4_type 8 = .ok (.ifCond .ne 5, 3) := by decide +kernel
theorem dX4_type_11 : decode cX4_type 11 = .ok (.iconst (-1), 1) := by decide +kernel
theorem dX4_type_12 : decode cX4_type 12 = .ok (.ireturn, 1) := by decide +kernel
theorem dX4_type_13 : decode cX4_type 13 = .ok (.aload_n 0, 1) := by decide +kernel
theorem dX4_type_14 : decode cX4_type 14 = .ok (.getfield 10, 3) := by decide +kernel
theorem dX4_type_17 : decode cX4_type 17 = .ok (.getfield 58, 3) := by decide +kernel
theorem dX4_type_20 : decode cX4_type 20 = .ok (.sipush 200, 3) := by decide +kernel
theorem dX4_type_23 : decode cX4_type 23 = .ok (.if_icmp .lt 6, 3) := by decide +kernel
theorem dX4_type_26 : decode cX4_type 26 = .ok (.bipush (-3), 2) := by decide +kernel
theorem dX4_type_28 : decode cX4_type 28 = .ok (.ireturn, 1) := by decide +kernel
theorem dX4_type_29 : decode cX4_type 29 = .ok (.aload_n 0, 1) := by decide +kernel
theorem dX4_type_30 : decode cX4_type 30 = .ok (.getfield 10, 3) := by decide +kernel
theorem dX4_type_33 : decode cX4_type 33 = .ok (.iload_n 1, 1) := by decide +kernel
theorem dX4_type_34 : decode cX4_type 34 = .ok (.invokevirtual 62, 3) := by decide +kernel
theorem dX4_type_37 : decode cX4_type 37 = .ok (.aload_n 0, 1) := by decide +kernel
theorem dX4_type_38 : decode cX4_type 38 = .ok (.getfield 10, 3) := by decide +kernel
theorem dX4_type_41 : decode cX4_type 41 = .ok (.getfield 58, 3) := by decide +kernel
theorem dX4_type_44 : decode cX4_type 44 = .ok (.ireturn, 1) := by decide +kernel
theorem dX4_clear_0 : decode cX4_clear 0 = .ok (.aload_n 0, 1) := by decide +kernel
theorem dX4_clear_1 : decode cX4_clear 1 = .ok (.getfield 10, 3) := by decide +kernel
theorem dX4_clear_4 : decode cX4_clear 4 = .ok (.getfield 58, 3) := by decide +kernel
theorem dX4_clear_7 : decode cX4_clear 7 = .ok (.istore_n 1, 1) := by decide +kernel
theorem dX4_clear_8 : decode cX4_clear 8 = .ok (.aload_n 0, 1) := by decide +kernel
theorem dX4_clear_9 : decode cX4_clear 9 = .ok (.getfield 10, 3) := by decide +kernel
theorem dX4_clear_12 : decode cX4_clear 12 = .ok (.iconst 0, 1) := by decide +kernel
theorem dX4_clear_13 : decode cX4_clear 13 = .ok (.putfield 58, 3) := by decide +kernel
theorem dX4_clear_16 : decode cX4_clear 16 = .ok (.iload_n 1, 1) := by decide +kernel
theorem dX4_clear_17 : decode cX4_clear 17 = .ok (.ireturn, 1) := by decide +kernel
set_option maxRecDepth 20000 in
theorem ggX4_letter_X4_isLetter : GoodIn wsX4_letter wsX4_isLetter := goodIn_r _ [13, 1, 14, 15, 16, 12, 17, 18, 19, 20, 21, 22, 23, 24, 25, 26, 27, 28, 29, 30, 31, 32, 33, 34, 35] (by decide +kernel) (by decide +kernel)
set_option maxRecDepth 20000 in
theorem gX4_letter_X4_isLetter : GoodIn wsX4_letter (wsV RX4 109 RX4 yX4_isLetter wsX4_isLetter) := goodIn_app (goodIn_of _ (by decide +kernel)) ggX4_letter_X4_isLetter
theorem dX4_letter_0 : decode cX4_letter 0 = .ok (.aload_n 0, 1) := by decide +kernel
theorem dX4_letter_1 : decode cX4_letter 1 = .ok (.iload_n 1, 1) := by decide +kernel
theorem dX4_letter_2 : decode cX4_letter 2 = .ok (.invokevirtual 109, 3) := by decide +kernel
theorem dX4_letter_5 : decode cX4_letter 5 = .ok (.ifCond .ne 5, 3) := by decide +kernel
theorem dX4_letter_8 : decode cX4_letter 8 = .ok (.iconst (-1), 1) := by decide +kernel
theorem dX4_letter_9 : decode cX4_letter 9 = .ok (.ireturn, 1) := by decide +kernel
theorem dX4_letter_10 : decode cX4_letter 10 = .ok (.aload_n 0, 1) := by decide +kernel
theorem dX4_letter_11 : decode cX4_letter 11 = .ok (.getfield 29, 3) := by decide +kernel
theorem dX4_letter_14 : decode cX4_letter 14 = .ok (.getfield 112, 3) := by decide +kernel
theorem dX4_letter_17 : decode cX4_letter 17 = .ok (.iload_n 1, 1) := by decide +kernel
theorem dX4_letter_18 : decode cX4_letter 18 = .ok (.aaload, 1) := by decide +kernel
theorem dX4_letter_19 : decode cX4_letter 19 = .ok (.astore_n 3, 1) := by decide +kernel
theorem dX4_letter_20 : decode cX4_letter 20 = .ok (.iload_n 2, 1) := by decide +kernel
theorem dX4_letter_21 : decode cX4_letter 21 = .ok (.tableswitch 69 0 5 #[39, 44, 49, 54, 59, 64], 39) := by decide +kernel
theorem dX4_letter_60 : decode cX4_letter 60 = .ok (.aload_n 3, 1) := by decide +kernel
theorem dX4_letter_61 : decode cX4_letter 61 = .ok (.getfield 116, 3) := by decide +kernel
theorem dX4_letter_64 : decode cX4_letter 64 = .ok (.ireturn, 1) := by decide +kernel
theorem dX4_letter_65 : decode cX4_letter 65 = .ok (.aload_n 3, 1) := by decide +kernel
theorem dX4_letter_66 : decode cX4_letter 66 = .ok (.getfield 119, 3) := by decide +kernel
theorem dX4_letter_69 : decode cX4_letter 69 = .ok (.ireturn, 1) := by decide +kernel
theorem dX4_letter_70 : decode cX4_letter 70 = .ok (.aload_n 3, 1) := by decide +kernel
theorem dX4_letter_71 : decode cX4_letter 71 = .ok (.getfield 122, 3) := by decide +kernel
theorem dX4_letter_74 : decode cX4_letter 74 = .ok (.ireturn, 1) := by decide +kernel
theorem dX4_letter_75 : decode cX4_letter 75 = .ok (.aload_n 3, 1) := by decide +kernel
theorem dX4_letter_76 : decode cX4_letter 76 = .ok (.getfield 125, 3) := by decide +kernel
theorem dX4_letter_79 : decode cX4_letter 79 = .ok (.ireturn, 1) := by decide +kernel
theorem dX4_letter_80 : decode cX4_letter 80 = .ok (.aload_n 3, 1) := by decide +kernel
theorem dX4_letter_81 : decode cX4_letter 81 = .ok (.getfield 128, 3) := by decide +kernel
theorem dX4_letter_84 : decode cX4_letter 84 = .ok (.ireturn, 1) := by decide +kernel
theorem dX4_letter_85 : decode cX4_letter 85 = .ok (.aload_n 3, 1) := by decide +kernel
theorem dX4_letter_86 : decode cX4_letter 86 = .ok (.getfield 131, 3) := by decide +kernel
theorem dX4_letter_89 : decode cX4_letter 89 = .ok (.ireturn, 1) := by decide +kernel
theorem dX4_letter_90 : decode cX4_letter 90 = .ok (.iconst (-1), 1) := by decide +kernel
theorem dX4_letter_91 : decode cX4_letter 91 = .ok (.ireturn, 1) := by decide +kernel
set_option maxRecDepth 20000 in
theorem ggX4_hour_X4_remember : GoodIn wsX4_hour wsX4_remember := goodIn_r _ [12, 13, 14, 1, 15, 16, 17, 18, 19, 20, 21, 22, 23, 24, 25, 26, 27, 28, 29, 30, 31, 32, 33, 34, 35, 36, 37, 38, 39, 40, 41, 42, 68, 69, 70, 71, 72, 73, 74, 75, 76, 77, 78, 79, 80, 81, 82, 83, 84, 85, 86, 87, 88, 89, 90, 91, 92] (by decide +kernel) (by decide +kernel)
set_option maxRecDepth 20000 in
theorem gX4_hour_X4_remember : GoodIn wsX4_hour (wsV RX4 147 RX4 yX4_remember wsX4_remember) := goodIn_app (goodIn_of _ (by decide +kernel)) ggX4_hour_X4_remember
set_option maxRecDepth 20000 in
theorem ggX4_hour_X2_windOf : GoodIn wsX4_hour wsX2_windOf := goodIn_r _ [46, 28, 29, 47, 48, 49, 50, 80, 81, 82, 83, 84, 85] (by decide +kernel) (by decide +kernel)
set_option maxRecDepth 20000 in
theorem gX4_hour_X2_windOf : GoodIn wsX4_hour (wsV RX4 105 RX2 yX2_windOf wsX2_windOf) := goodIn_app (goodIn_of _ (by decide +kernel)) ggX4_hour_X2_windOf
set_option maxRecDepth 20000 in
theorem ggX4_hour_X1_passHour : GoodIn wsX4_hour wsX1_passHour := goodIn_r _ [54, 41, 42, 39, 38, 40, 55, 56, 57, 58, 59, 60, 61, 62, 63, 64, 65, 66, 11, 67, 86, 87, 88, 89, 90, 91, 92, 93, 94, 95, 96, 97, 98, 99, 100, 101, 102] (by decide +kernel) (by decide +kernel)
set_option maxRecDepth 20000 in
theorem gX4_hour_X1_passHour : GoodIn wsX4_hour (wsV RX4 154 RX1 yX1_passHour wsX1_passHour) := goodIn_app (goodIn_of _ (by decide +kernel)) ggX4_hour_X1_passHour
theorem dX4_hour_0 : decode cX4_hour 0 = .ok (.aload_n 0, 1) := by decide +kernel
theorem dX4_hour_1 : decode cX4_hour 1 = .ok (.getfield 29, 3) := by decide +kernel
theorem dX4_hour_4 : decode cX4_hour 4 = .ok (.getfield 102, 3) := by decide +kernel
theorem dX4_hour_7 : decode cX4_hour 7 = .ok (.sipush 9999, 3) := by decide +kernel
theorem dX4_hour_10 : decode cX4_hour 10 = .ok (.if_icmp .lt 6, 3) := by decide +kernel
theorem dX4_hour_13 : decode cX4_hour 13 = .ok (.bipush (-2), 2) := by decide +kernel
theorem dX4_hour_15 : decode cX4_hour 15 = .ok (.ireturn, 1) := by decide +kernel
theorem dX4_hour_16 : decode cX4_hour 16 = .ok (.aload_n 0, 1) := by decide +kernel
theorem dX4_hour_17 : decode cX4_hour 17 = .ok (.invokevirtual 147, 3) := by decide +kernel
theorem dX4_hour_20 : decode cX4_hour 20 = .ok (.aload_n 0, 1) := by decide +kernel
theorem dX4_hour_21 : decode cX4_hour 21 = .ok (.getfield 29, 3) := by decide +kernel
theorem dX4_hour_24 : decode cX4_hour 24 = .ok (.aload_n 0, 1) := by decide +kernel
theorem dX4_hour_25 : decode cX4_hour 25 = .ok (.getfield 29, 3) := by decide +kernel
theorem dX4_hour_28 : decode cX4_hour 28 = .ok (.getfield 102, 3) := by decide +kernel
theorem dX4_hour_31 : decode cX4_hour 31 = .ok (.invokevirtual 105, 3) := by decide +kernel
theorem dX4_hour_34 : decode cX4_hour 34 = .ok (.istore_n 1, 1) := by decide +kernel
theorem dX4_hour_35 : decode cX4_hour 35 = .ok (.iconst 0, 1) := by decide +kernel
theorem dX4_hour_36 : decode cX4_hour 36 = .ok (.istore_n 2, 1) := by decide +kernel
theorem dX4_hour_37 : decode cX4_hour 37 = .ok (.iconst 0, 1) := by decide +kernel
theorem dX4_hour_38 : decode cX4_hour 38 = .ok (.istore_n 3, 1) := by decide +kernel
theorem dX4_hour_39 : decode cX4_hour 39 = .ok (.iload_n 3, 1) := by decide +kernel
theorem dX4_hour_40 : decode cX4_hour 40 = .ok (.aload_n 0, 1) := by decide +kernel
theorem dX4_hour_41 : decode cX4_hour 41 = .ok (.getfield 29, 3) := by decide +kernel
theorem dX4_hour_44 : decode cX4_hour 44 = .ok (.getfield 134, 3) := by decide +kernel
theorem dX4_hour_47 : decode cX4_hour 47 = .ok (.if_icmp .ge 69, 3) := by decide +kernel
theorem dX4_hour_50 : decode cX4_hour 50 = .ok (.aload_n 0, 1) := by decide +kernel
theorem dX4_hour_51 : decode cX4_hour 51 = .ok (.getfield 29, 3) := by decide +kernel
theorem dX4_hour_54 : decode cX4_hour 54 = .ok (.getfield 112, 3) := by decide +kernel
theorem dX4_hour_57 : decode cX4_hour 57 = .ok (.iload_n 3, 1) := by decide +kernel
theorem dX4_hour_58 : decode cX4_hour 58 = .ok (.aaload, 1) := by decide +kernel
theorem dX4_hour_59 : decode cX4_hour 59 = .ok (.astore 4, 2) := by decide +kernel
theorem dX4_hour_61 : decode cX4_hour 61 = .ok (.aload 4, 2) := by decide +kernel
theorem dX4_hour_63 : decode cX4_hour 63 = .ok (.getfield 131, 3) := by decide +kernel
theorem dX4_hour_66 : decode cX4_hour 66 = .ok (.ifCond .ne 7, 3) := by decide +kernel
theorem dX4_hour_69 : decode cX4_hour 69 = .ok (.iconst 1, 1) := by decide +kernel
theorem dX4_hour_70 : decode cX4_hour 70 = .ok (.goto 4, 3) := by decide +kernel
theorem dX4_hour_73 : decode cX4_hour 73 = .ok (.iconst 0, 1) := by decide +kernel
theorem dX4_hour_74 : decode cX4_hour 74 = .ok (.istore 5, 2) := by decide +kernel
theorem dX4_hour_76 : decode cX4_hour 76 = .ok (.aload 4, 2) := by decide +kernel
theorem dX4_hour_78 : decode cX4_hour 78 = .ok (.aload_n 0, 1) := by decide +kernel
theorem dX4_hour_79 : decode cX4_hour 79 = .ok (.getfield 19, 3) := by decide +kernel
theorem dX4_hour_82 : decode cX4_hour 82 = .ok (.iload_n 1, 1) := by decide +kernel
theorem dX4_hour_83 : decode cX4_hour 83 = .ok (.aload_n 0, 1) := by decide +kernel
theorem dX4_hour_84 : decode cX4_hour 84 = .ok (.getfield 29, 3) := by decide +kernel
theorem dX4_hour_87 : decode cX4_hour 87 = .ok (.getfield 88, 3) := by decide +kernel
theorem dX4_hour_90 : decode cX4_hour 90 = .ok (.invokevirtual 154, 3) := by decide +kernel
theorem dX4_hour_93 : decode cX4_hour 93 = .ok (.iload 5, 2) := by decide +kernel
theorem dX4_hour_95 : decode cX4_hour 95 = .ok (.ifCond .eq 15, 3) := by decide +kernel
theorem dX4_hour_98 : decode cX4_hour 98 = .ok (.aload 4, 2) := by decide +kernel
theorem dX4_hour_100 : decode cX4_hour 100 = .ok (.getfield 131, 3) := by decide +kernel
theorem dX4_hour_103 : decode cX4_hour 103 = .ok (.iconst 1, 1) := by decide +kernel
theorem dX4_hour_104 : decode cX4_hour 104 = .ok (.if_icmp .ne 6, 3) := by decide +kernel
theorem dX4_hour_107 : decode cX4_hour 107 = .ok (.iinc 2 1, 3) := by decide +kernel
theorem dX4_hour_110 : decode cX4_hour 110 = .ok (.iinc 3 1, 3) := by decide +kernel
theorem dX4_hour_113 : decode cX4_hour 113 = .ok (.goto (-74), 3) := by decide +kernel
theorem dX4_hour_116 : decode cX4_hour 116 = .ok (.aload_n 0, 1) := by decide +kernel
theorem dX4_hour_117 : decode cX4_hour 117 = .ok (.getfield 29, 3) := by decide +kernel
theorem dX4_hour_120 : decode cX4_hour 120 = .ok (.dup, 1) := by decide +kernel
theorem dX4_hour_121 : decode cX4_hour 121 = .ok (.getfield 102, 3) := by decide +kernel
theorem dX4_hour_124 : decode cX4_hour 124 = .ok (.iconst 1, 1) := by decide +kernel
theorem dX4_hour_125 : decode cX4_hour 125 = .ok (.iadd, 1) := by decide +kernel
theorem dX4_hour_126 : decode cX4_hour 126 = .ok (.putfield 102, 3) := by decide +kernel
theorem dX4_hour_129 : decode cX4_hour 129 = .ok (.iload_n 2, 1) := by decide +kernel
theorem dX4_hour_130 : decode cX4_hour 130 = .ok (.ireturn, 1) := by decide +kernel
theorem dX4_count_0 : decode cX4_count 0 = .ok (.iload_n 1, 1) := by decide +kernel
theorem dX4_count_1 : decode cX4_count 1 = .ok (.tableswitch 99 0 6 #[43, 51, 59, 67, 75, 83, 91], 43) := by decide +kernel
theorem dX4_count_44 : decode cX4_count 44 = .ok (.aload_n 0, 1) := by decide +kernel
theorem dX4_count_45 : decode cX4_count 45 = .ok (.getfield 19, 3) := by decide +kernel
theorem dX4_count_48 : decode cX4_count 48 = .ok (.getfield 241, 3) := by decide +kernel
theorem dX4_count_51 : decode cX4_count 51 = .ok (.ireturn, 1) := by decide +kernel
theorem dX4_count_52 : decode cX4_count 52 = .ok (.aload_n 0, 1) := by decide +kernel
theorem dX4_count_53 : decode cX4_count 53 = .ok (.getfield 19, 3) := by decide +kernel
theorem dX4_count_56 : decode cX4_count 56 = .ok (.getfield 244, 3) := by decide +kernel
theorem dX4_count_59 : decode cX4_count 59 = .ok (.ireturn, 1) := by decide +kernel
theorem dX4_count_60 : decode cX4_count 60 = .ok (.aload_n 0, 1) := by decide +kernel
theorem dX4_count_61 : decode cX4_count 61 = .ok (.getfield 19, 3) := by decide +kernel
theorem dX4_count_64 : decode cX4_count 64 = .ok (.getfield 194, 3) := by decide +kernel
theorem dX4_count_67 : decode cX4_count 67 = .ok (.ireturn, 1) := by decide +kernel
theorem dX4_count_68 : decode cX4_count 68 = .ok (.aload_n 0, 1) := by decide +kernel
theorem dX4_count_69 : decode cX4_count 69 = .ok (.getfield 19, 3) := by decide +kernel
theorem dX4_count_72 : decode cX4_count 72 = .ok (.getfield 247, 3) := by decide +kernel
theorem dX4_count_75 : decode cX4_count 75 = .ok (.ireturn, 1) := by decide +kernel
theorem dX4_count_76 : decode cX4_count 76 = .ok (.aload_n 0, 1) := by decide +kernel
theorem dX4_count_77 : decode cX4_count 77 = .ok (.getfield 29, 3) := by decide +kernel
theorem dX4_count_80 : decode cX4_count 80 = .ok (.getfield 158, 3) := by decide +kernel
theorem dX4_count_83 : decode cX4_count 83 = .ok (.ireturn, 1) := by decide +kernel
theorem dX4_count_84 : decode cX4_count 84 = .ok (.aload_n 0, 1) := by decide +kernel
theorem dX4_count_85 : decode cX4_count 85 = .ok (.getfield 19, 3) := by decide +kernel
theorem dX4_count_88 : decode cX4_count 88 = .ok (.getfield 213, 3) := by decide +kernel
theorem dX4_count_91 : decode cX4_count 91 = .ok (.ireturn, 1) := by decide +kernel
theorem dX4_count_92 : decode cX4_count 92 = .ok (.aload_n 0, 1) := by decide +kernel
theorem dX4_count_93 : decode cX4_count 93 = .ok (.getfield 10, 3) := by decide +kernel
theorem dX4_count_96 : decode cX4_count 96 = .ok (.getfield 58, 3) := by decide +kernel
theorem dX4_count_99 : decode cX4_count 99 = .ok (.ireturn, 1) := by decide +kernel
theorem dX4_count_100 : decode cX4_count 100 = .ok (.iconst (-1), 1) := by decide +kernel
theorem dX4_count_101 : decode cX4_count 101 = .ok (.ireturn, 1) := by decide +kernel
theorem dX4_isWithin_0 : decode cX4_isWithin 0 = .ok (.iload_n 0, 1) := by decide +kernel
theorem dX4_isWithin_1 : decode cX4_isWithin 1 = .ok (.iload_n 1, 1) := by decide +kernel
theorem dX4_isWithin_2 : decode cX4_isWithin 2 = .ok (.if_icmp .lt 12, 3) := by decide +kernel
theorem dX4_isWithin_5 : decode cX4_isWithin 5 = .ok (.iload_n 0, 1) := by decide +kernel
theorem dX4_isWithin_6 : decode cX4_isWithin 6 = .ok (.iload_n 2, 1) := by decide +kernel
theorem dX4_isWithin_7 : decode cX4_isWithin 7 = .ok (.if_icmp .gt 7, 3) := by decide +kernel
theorem dX4_isWithin_10 : decode cX4_isWithin 10 = .ok (.iconst 1, 1) := by decide +kernel
theorem dX4_isWithin_11 : decode cX4_isWithin 11 = .ok (.goto 4, 3) := by decide +kernel
theorem dX4_isWithin_14 : decode cX4_isWithin 14 = .ok (.iconst 0, 1) := by decide +kernel
theorem dX4_isWithin_15 : decode cX4_isWithin 15 = .ok (.ireturn, 1) := by decide +kernel
theorem dX4_bitOf_0 : decode cX4_bitOf 0 = .ok (.iload_n 0, 1) := by decide +kernel
theorem dX4_bitOf_1 : decode cX4_bitOf 1 = .ok (.iload_n 1, 1) := by decide +kernel
theorem dX4_bitOf_2 : decode cX4_bitOf 2 = .ok (.ishr, 1) := by decide +kernel
theorem dX4_bitOf_3 : decode cX4_bitOf 3 = .ok (.iconst 1, 1) := by decide +kernel
theorem dX4_bitOf_4 : decode cX4_bitOf 4 = .ok (.iand, 1) := by decide +kernel
theorem dX4_bitOf_5 : decode cX4_bitOf 5 = .ok (.ireturn, 1) := by decide +kernel
set_option maxRecDepth 20000 in
theorem ggX4_isLetter_X4_isWithin : GoodIn wsX4_isLetter wsX4_isWithin := goodIn_r _ [6] (by decide +kernel) (by decide +kernel)
set_option maxRecDepth 20000 in
theorem gX4_isLetter_X4_isWithin : GoodIn wsX4_isLetter (va_wsS RX4 54 yX4_isWithin wsX4_isWithin) := goodIn_app (goodIn_of _ (by decide +kernel)) ggX4_isLetter_X4_isWithin
theorem dX4_isLetter_0 : decode cX4_isLetter 0 = .ok (.iload_n 1, 1) := by decide +kernel
theorem dX4_isLetter_1 : decode cX4_isLetter 1 = .ok (.iconst 0, 1) := by decide +kernel
theorem dX4_isLetter_2 : decode cX4_isLetter 2 = .ok (.aload_n 0, 1) := by decide +kernel
theorem dX4_isLetter_3 : decode cX4_isLetter 3 = .ok (.getfield 29, 3) := by decide +kernel
theorem dX4_isLetter_6 : decode cX4_isLetter 6 = .ok (.getfield 134, 3) := by decide +kernel
theorem dX4_isLetter_9 : decode cX4_isLetter 9 = .ok (.iconst 1, 1) := by decide +kernel
theorem dX4_isLetter_10 : decode cX4_isLetter 10 = .ok (.isub, 1) := by decide +kernel
theorem dX4_isLetter_11 : decode cX4_isLetter 11 = .ok (.invokestatic 54, 3) := by decide +kernel
theorem dX4_isLetter_14 : decode cX4_isLetter 14 = .ok (.ireturn, 1) := by decide +kernel
set_option maxRecDepth 20000 in
theorem ggX4_remember_X2_copyFrom : GoodIn wsX4_remember wsX2_copyFrom := goodIn_r _ [13, 14, 15, 16, 17, 18, 19, 20, 21, 22, 23, 24, 25, 26, 27, 28, 29, 30, 31, 44, 45, 46, 47, 48, 49, 50, 51, 52, 53, 54, 55, 56] (by decide +kernel) (by decide +kernel)
set_option maxRecDepth 20000 in
theorem gX4_remember_X2_copyFrom : GoodIn wsX4_remember (wsV RX4 167 RX2 yX2_copyFrom wsX2_copyFrom) := goodIn_app (goodIn_of _ (by decide +kernel)) ggX4_remember_X2_copyFrom
theorem dX4_remember_0 : decode cX4_remember 0 = .ok (.aload_n 0, 1) := by decide +kernel
theorem dX4_remember_1 : decode cX4_remember 1 = .ok (.getfield 33, 3) := by decide +kernel
theorem dX4_remember_4 : decode cX4_remember 4 = .ok (.aload_n 0, 1) := by decide +kernel
theorem dX4_remember_5 : decode cX4_remember 5 = .ok (.getfield 164, 3) := by decide +kernel
theorem dX4_remember_8 : decode cX4_remember 8 = .ok (.aaload, 1) := by decide +kernel
theorem dX4_remember_9 : decode cX4_remember 9 = .ok (.aload_n 0, 1) := by decide +kernel
theorem dX4_remember_10 : decode cX4_remember 10 = .ok (.getfield 29, 3) := by decide +kernel
theorem dX4_remember_13 : decode cX4_remember 13 = .ok (.invokevirtual 167, 3) := by decide +kernel
theorem dX4_remember_16 : decode cX4_remember 16 = .ok (.aload_n 0, 1) := by decide +kernel
theorem dX4_remember_17 : decode cX4_remember 17 = .ok (.aload_n 0, 1) := by decide +kernel
theorem dX4_remember_18 : decode cX4_remember 18 = .ok (.getfield 164, 3) := by decide +kernel
theorem dX4_remember_21 : decode cX4_remember 21 = .ok (.bipush 9, 2) := by decide +kernel
theorem dX4_remember_23 : decode cX4_remember 23 = .ok (.if_icmp .ge 12, 3) := by decide +kernel
theorem dX4_remember_26 : decode cX4_remember 26 = .ok (.aload_n 0, 1) := by decide +kernel
theorem dX4_remember_27 : decode cX4_remember 27 = .ok (.getfield 164, 3) := by decide +kernel
theorem dX4_remember_30 : decode cX4_remember 30 = .ok (.iconst 1, 1) := by decide +kernel
theorem dX4_remember_31 : decode cX4_remember 31 = .ok (.iadd, 1) := by decide +kernel
theorem dX4_remember_32 : decode cX4_remember 32 = .ok (.goto 4, 3) := by decide +kernel
theorem dX4_remember_35 : decode cX4_remember 35 = .ok (.iconst 0, 1) := by decide +kernel
theorem dX4_remember_36 : decode cX4_remember 36 = .ok (.putfield 164, 3) := by decide +kernel
theorem dX4_remember_39 : decode cX4_remember 39 = .ok (.aload_n 0, 1) := by decide +kernel
theorem dX4_remember_40 : decode cX4_remember 40 = .ok (.aload_n 0, 1) := by decide +kernel
theorem dX4_remember_41 : decode cX4_remember 41 = .ok (.getfield 77, 3) := by decide +kernel
theorem dX4_remember_44 : decode cX4_remember 44 = .ok (.iconst 1, 1) := by decide +kernel
theorem dX4_remember_45 : decode cX4_remember 45 = .ok (.iadd, 1) := by decide +kernel
theorem dX4_remember_46 : decode cX4_remember 46 = .ok (.bipush 10, 2) := by decide +kernel
theorem dX4_remember_48 : decode cX4_remember 48 = .ok (.invokestatic 254, 3) := by decide +kernel
theorem dX4_remember_51 : decode cX4_remember 51 = .ok (.putfield 77, 3) := by decide +kernel
theorem dX4_remember_54 : decode cX4_remember 54 = .ok (.return_, 1) := by decide +kernel
set_option maxRecDepth 20000 in
theorem ggX4_passHours_X2_windOf : GoodIn wsX4_passHours wsX2_windOf := goodIn_r _ [8, 9, 10, 11, 12, 13, 14, 51, 52, 53, 54, 55, 56] (by decide +kernel) (by decide +kernel)
set_option maxRecDepth 20000 in
theorem gX4_passHours_X2_windOf : GoodIn wsX4_passHours (wsV RX4 105 RX2 yX2_windOf wsX2_windOf) := goodIn_app (goodIn_of _ (by decide +kernel)) ggX4_passHours_X2_windOf
set_option maxRecDepth 20000 in
theorem ggX4_passHours_X1_passHour : GoodIn wsX4_passHours wsX1_passHour := goodIn_r _ [19, 20, 21, 22, 23, 24, 25, 26, 27, 28, 29, 30, 31, 32, 33, 34, 35, 36, 37, 38, 57, 58, 59, 60, 61, 62, 63, 64, 65, 66, 67, 68, 69, 70, 71, 72, 73] (by decide +kernel) (by decide +kernel)
set_option maxRecDepth 20000 in
theorem gX4_passHours_X1_passHour : GoodIn wsX4_passHours (wsV RX4 154 RX1 yX1_passHour wsX1_passHour) := goodIn_app (goodIn_of _ (by decide +kernel)) ggX4_passHours_X1_passHour
theorem dX4_passHours_0 : decode cX4_passHours 0 = .ok (.iconst 0, 1) := by decide +kernel
theorem dX4_passHours_1 : decode cX4_passHours 1 = .ok (.istore 4, 2) := by decide +kernel
theorem dX4_passHours_3 : decode cX4_passHours 3 = .ok (.iload 4, 2) := by decide +kernel
theorem dX4_passHours_5 : decode cX4_passHours 5 = .ok (.iload_n 3, 1) := by decide +kernel
theorem dX4_passHours_6 : decode cX4_passHours 6 = .ok (.if_icmp .ge 35, 3) := by decide +kernel
theorem dX4_passHours_9 : decode cX4_passHours 9 = .ok (.aload_n 1, 1) := by decide +kernel
theorem dX4_passHours_10 : decode cX4_passHours 10 = .ok (.aload_n 0, 1) := by decide +kernel
theorem dX4_passHours_11 : decode cX4_passHours 11 = .ok (.getfield 19, 3) := by decide +kernel
theorem dX4_passHours_14 : decode cX4_passHours 14 = .ok (.aload_n 0, 1) := by decide +kernel
theorem dX4_passHours_15 : decode cX4_passHours 15 = .ok (.getfield 29, 3) := by decide +kernel
theorem dX4_passHours_18 : decode cX4_passHours 18 = .ok (.iload_n 2, 1) := by decide +kernel
theorem dX4_passHours_19 : decode cX4_passHours 19 = .ok (.iload 4, 2) := by decide +kernel
theorem dX4_passHours_21 : decode cX4_passHours 21 = .ok (.iadd, 1) := by decide +kernel
theorem dX4_passHours_22 : decode cX4_passHours 22 = .ok (.invokevirtual 105, 3) := by decide +kernel
theorem dX4_passHours_25 : decode cX4_passHours 25 = .ok (.aload_n 0, 1) := by decide +kernel
theorem dX4_passHours_26 : decode cX4_passHours 26 = .ok (.getfield 29, 3) := by decide +kernel
theorem dX4_passHours_29 : decode cX4_passHours 29 = .ok (.getfield 88, 3) := by decide +kernel
theorem dX4_passHours_32 : decode cX4_passHours 32 = .ok (.invokevirtual 154, 3) := by decide +kernel
theorem dX4_passHours_35 : decode cX4_passHours 35 = .ok (.iinc 4 1, 3) := by decide +kernel
theorem dX4_passHours_38 : decode cX4_passHours 38 = .ok (.goto (-35), 3) := by decide +kernel
theorem dX4_passHours_41 : decode cX4_passHours 41 = .ok (.return_, 1) := by decide +kernel
set_option maxRecDepth 20000 in
theorem ggX4_letterIn_X1_copyFrom : GoodIn wsX4_letterIn wsX1_copyFrom := goodIn_r _ [9, 10, 11, 12, 13, 14, 15, 16, 70, 71, 72, 73, 74, 75, 76] (by decide +kernel) (by decide +kernel)
set_option maxRecDepth 20000 in
theorem gX4_letterIn_X1_copyFrom : GoodIn wsX4_letterIn (wsV RX4 175 RX1 yX1_copyFrom wsX1_copyFrom) := goodIn_app (goodIn_of _ (by decide +kernel)) ggX4_letterIn_X1_copyFrom
set_option maxRecDepth 20000 in
theorem ggX4_letterIn_X4_passHours : GoodIn wsX4_letterIn wsX4_passHours := goodIn_r _ [21, 22, 2, 23, 24, 25, 26, 27, 28, 29, 30, 31, 32, 33, 34, 35, 36, 37, 8, 38, 15, 16, 13, 12, 14, 39, 40, 41, 42, 43, 44, 45, 46, 47, 48, 49, 50, 20, 51, 52, 53, 54, 55, 56, 57, 58, 59, 60, 61, 62, 63, 64, 65, 66, 67, 68, 69, 70, 71, 72, 73, 74, 75, 76, 77, 78, 79, 80, 81, 82, 83, 84, 85, 86] (by decide +kernel) (by decide +kernel)
set_option maxRecDepth 20000 in
theorem gX4_letterIn_X4_passHours : GoodIn wsX4_letterIn (wsV RX4 186 RX4 yX4_passHours wsX4_passHours) := goodIn_app (goodIn_of _ (by decide +kernel)) ggX4_letterIn_X4_passHours
theorem dX4_letterIn_0 : decode cX4_letterIn 0 = .ok (.aload_n 0, 1) := by decide +kernel
theorem dX4_letterIn_1 : decode cX4_letterIn 1 = .ok (.getfield 47, 3) := by decide +kernel
theorem dX4_letterIn_4 : decode cX4_letterIn 4 = .ok (.aload_n 0, 1) := by decide +kernel
theorem dX4_letterIn_5 : decode cX4_letterIn 5 = .ok (.getfield 29, 3) := by decide +kernel
theorem dX4_letterIn_8 : decode cX4_letterIn 8 = .ok (.getfield 112, 3) := by decide +kernel
theorem dX4_letterIn_11 : decode cX4_letterIn 11 = .ok (.iload_n 1, 1) := by decide +kernel
theorem dX4_letterIn_12 : decode cX4_letterIn 12 = .ok (.aaload, 1) := by decide +kernel
theorem dX4_letterIn_13 : decode cX4_letterIn 13 = .ok (.invokevirtual 175, 3) := by decide +kernel
theorem dX4_letterIn_16 : decode cX4_letterIn 16 = .ok (.aload_n 0, 1) := by decide +kernel
theorem dX4_letterIn_17 : decode cX4_letterIn 17 = .ok (.aload_n 0, 1) := by decide +kernel
theorem dX4_letterIn_18 : decode cX4_letterIn 18 = .ok (.getfield 47, 3) := by decide +kernel
theorem dX4_letterIn_21 : decode cX4_letterIn 21 = .ok (.aload_n 0, 1) := by decide +kernel
theorem dX4_letterIn_22 : decode cX4_letterIn 22 = .ok (.getfield 29, 3) := by decide +kernel
theorem dX4_letterIn_25 : decode cX4_letterIn 25 = .ok (.getfield 102, 3) := by decide +kernel
theorem dX4_letterIn_28 : decode cX4_letterIn 28 = .ok (.iload_n 2, 1) := by decide +kernel
theorem dX4_letterIn_29 : decode cX4_letterIn 29 = .ok (.invokevirtual 186, 3) := by decide +kernel
theorem dX4_letterIn_32 : decode cX4_letterIn 32 = .ok (.aload_n 0, 1) := by decide +kernel
theorem dX4_letterIn_33 : decode cX4_letterIn 33 = .ok (.getfield 47, 3) := by decide +kernel
theorem dX4_letterIn_36 : decode cX4_letterIn 36 = .ok (.areturn, 1) := by decide +kernel
set_option maxRecDepth 20000 in
theorem ggX4_arrival_X0_cells : GoodIn wsX4_arrival wsX0_cells := goodIn_r _ [17, 18, 19, 20, 11, 8, 12, 80, 81, 82, 83, 84, 85, 86, 87, 88, 89] (by decide +kernel) (by decide +kernel)
set_option maxRecDepth 20000 in
theorem gX4_arrival_X0_cells : GoodIn wsX4_arrival (wsV RX4 95 RX0 yX0_cells wsX0_cells) := goodIn_app (goodIn_of _ (by decide +kernel)) ggX4_arrival_X0_cells
set_option maxRecDepth 20000 in
theorem ggX4_arrival_X2_windOf : GoodIn wsX4_arrival wsX2_windOf := goodIn_r _ [25, 26, 27, 28, 29, 30, 31, 74, 75, 76, 77, 78, 79] (by decide +kernel) (by decide +kernel)
set_option maxRecDepth 20000 in
theorem gX4_arrival_X2_windOf : GoodIn wsX4_arrival (wsV RX4 105 RX2 yX2_windOf wsX2_windOf) := goodIn_app (goodIn_of _ (by decide +kernel)) ggX4_arrival_X2_windOf
set_option maxRecDepth 20000 in
theorem ggX4_arrival_X1_passHour : GoodIn wsX4_arrival wsX1_passHour := goodIn_r _ [36, 37, 38, 39, 40, 41, 42, 43, 44, 16, 45, 46, 47, 48, 49, 50, 51, 52, 53, 54, 67, 68, 69, 70, 71, 72, 73, 80, 81, 82, 83, 84, 85, 86, 87, 88, 89] (by decide +kernel) (by decide +kernel)
set_option maxRecDepth 20000 in
theorem gX4_arrival_X1_passHour : GoodIn wsX4_arrival (wsV RX4 154 RX1 yX1_passHour wsX1_passHour) := goodIn_app (goodIn_of _ (by decide +kernel)) ggX4_arrival_X1_passHour
theorem dX4_arrival_0 : decode cX4_arrival 0 = .ok (.aload_n 0, 1) := by decide +kernel
theorem dX4_arrival_1 : decode cX4_arrival 1 = .ok (.getfield 47, 3) := by decide +kernel
theorem dX4_arrival_4 : decode cX4_arrival 4 = .ok (.getfield 131, 3) := by decide +kernel
theorem dX4_arrival_7 : decode cX4_arrival 7 = .ok (.iconst 1, 1) := by decide +kernel
theorem dX4_arrival_8 : decode cX4_arrival 8 = .ok (.if_icmp .ne 5, 3) := by decide +kernel
theorem dX4_arrival_11 : decode cX4_arrival 11 = .ok (.iconst 0, 1) := by decide +kernel
theorem dX4_arrival_12 : decode cX4_arrival 12 = .ok (.ireturn, 1) := by decide +kernel
theorem dX4_arrival_13 : decode cX4_arrival 13 = .ok (.sipush 400, 3) := by decide +kernel
theorem dX4_arrival_16 : decode cX4_arrival 16 = .ok (.aload_n 0, 1) := by decide +kernel
theorem dX4_arrival_17 : decode cX4_arrival 17 = .ok (.getfield 19, 3) := by decide +kernel
theorem dX4_arrival_20 : decode cX4_arrival 20 = .ok (.invokevirtual 95, 3) := by decide +kernel
theorem dX4_arrival_23 : decode cX4_arrival 23 = .ok (.iconst 1, 1) := by decide +kernel
theorem dX4_arrival_24 : decode cX4_arrival 24 = .ok (.aload_n 0, 1) := by decide +kernel
theorem dX4_arrival_25 : decode cX4_arrival 25 = .ok (.getfield 29, 3) := by decide +kernel
theorem dX4_arrival_28 : decode cX4_arrival 28 = .ok (.getfield 158, 3) := by decide +kernel
theorem dX4_arrival_31 : decode cX4_arrival 31 = .ok (.invokestatic 181, 3) := by decide +kernel
theorem dX4_arrival_34 : decode cX4_arrival 34 = .ok (.imul, 1) := by decide +kernel
theorem dX4_arrival_35 : decode cX4_arrival 35 = .ok (.invokestatic 254, 3) := by decide +kernel
theorem dX4_arrival_38 : decode cX4_arrival 38 = .ok (.istore_n 3, 1) := by decide +kernel
theorem dX4_arrival_39 : decode cX4_arrival 39 = .ok (.iconst 1, 1) := by decide +kernel
theorem dX4_arrival_40 : decode cX4_arrival 40 = .ok (.istore 4, 2) := by decide +kernel
theorem dX4_arrival_42 : decode cX4_arrival 42 = .ok (.iload 4, 2) := by decide +kernel
theorem dX4_arrival_44 : decode cX4_arrival 44 = .ok (.iload_n 3, 1) := by decide +kernel
theorem dX4_arrival_45 : decode cX4_arrival 45 = .ok (.if_icmp .gt 58, 3) := by decide +kernel
theorem dX4_arrival_48 : decode cX4_arrival 48 = .ok (.aload_n 0, 1) := by decide +kernel
theorem dX4_arrival_49 : decode cX4_arrival 49 = .ok (.getfield 47, 3) := by decide +kernel
theorem dX4_arrival_52 : decode cX4_arrival 52 = .ok (.getfield 131, 3) := by decide +kernel
theorem dX4_arrival_55 : decode cX4_arrival 55 = .ok (.ifCond .ne 48, 3) := by decide +kernel
theorem dX4_arrival_58 : decode cX4_arrival 58 = .ok (.aload_n 0, 1) := by decide +kernel
theorem dX4_arrival_59 : decode cX4_arrival 59 = .ok (.getfield 47, 3) := by decide +kernel
theorem dX4_arrival_62 : decode cX4_arrival 62 = .ok (.aload_n 0, 1) := by decide +kernel
theorem dX4_arrival_63 : decode cX4_arrival 63 = .ok (.getfield 19, 3) := by decide +kernel
theorem dX4_arrival_66 : decode cX4_arrival 66 = .ok (.aload_n 0, 1) := by decide +kernel
theorem dX4_arrival_67 : decode cX4_arrival 67 = .ok (.getfield 29, 3) := by decide +kernel
theorem dX4_arrival_70 : decode cX4_arrival 70 = .ok (.iload_n 1, 1) := by decide +kernel
theorem dX4_arrival_71 : decode cX4_arrival 71 = .ok (.iload 4, 2) := by decide +kernel
theorem dX4_arrival_73 : decode cX4_arrival 73 = .ok (.iadd, 1) := by decide +kernel
theorem dX4_arrival_74 : decode cX4_arrival 74 = .ok (.iconst 1, 1) := by decide +kernel
theorem dX4_arrival_75 : decode cX4_arrival 75 = .ok (.isub, 1) := by decide +kernel
theorem dX4_arrival_76 : decode cX4_arrival 76 = .ok (.invokevirtual 105, 3) := by decide +kernel
theorem dX4_arrival_79 : decode cX4_arrival 79 = .ok (.iload_n 2, 1) := by decide +kernel
theorem dX4_arrival_80 : decode cX4_arrival 80 = .ok (.invokevirtual 154, 3) := by decide +kernel
theorem dX4_arrival_83 : decode cX4_arrival 83 = .ok (.aload_n 0, 1) := by decide +kernel
theorem dX4_arrival_84 : decode cX4_arrival 84 = .ok (.getfield 47, 3) := by decide +kernel
theorem dX4_arrival_87 : decode cX4_arrival 87 = .ok (.getfield 131, 3) := by decide +kernel
theorem dX4_arrival_90 : decode cX4_arrival 90 = .ok (.iconst 1, 1) := by decide +kernel
theorem dX4_arrival_91 : decode cX4_arrival 91 = .ok (.if_icmp .ne 6, 3) := by decide +kernel
theorem dX4_arrival_94 : decode cX4_arrival 94 = .ok (.iload 4, 2) := by decide +kernel
theorem dX4_arrival_96 : decode cX4_arrival 96 = .ok (.ireturn, 1) := by decide +kernel
theorem dX4_arrival_97 : decode cX4_arrival 97 = .ok (.iinc 4 1, 3) := by decide +kernel
theorem dX4_arrival_100 : decode cX4_arrival 100 = .ok (.goto (-58), 3) := by decide +kernel
theorem dX4_arrival_103 : decode cX4_arrival 103 = .ok (.bipush (-9), 2) := by decide +kernel
theorem dX4_arrival_105 : decode cX4_arrival 105 = .ok (.ireturn, 1) := by decide +kernel
theorem dX4_rateLetter_0 : decode cX4_rateLetter 0 = .ok (.aload_n 0, 1) := by decide +kernel
theorem dX4_rateLetter_1 : decode cX4_rateLetter 1 = .ok (.dup, 1) := by decide +kernel
theorem dX4_rateLetter_2 : decode cX4_rateLetter 2 = .ok (.getfield 250, 3) := by decide +kernel
theorem dX4_rateLetter_5 : decode cX4_rateLetter 5 = .ok (.lconst 1, 1) := by decide +kernel
theorem dX4_rateLetter_6 : decode cX4_rateLetter 6 = .ok (.ladd, 1) := by decide +kernel
theorem dX4_rateLetter_7 : decode cX4_rateLetter 7 = .ok (.putfield 250, 3) := by decide +kernel
theorem dX4_rateLetter_10 : decode cX4_rateLetter 10 = .ok (.aload_n 0, 1) := by decide +kernel
theorem dX4_rateLetter_11 : decode cX4_rateLetter 11 = .ok (.getfield 29, 3) := by decide +kernel
theorem dX4_rateLetter_14 : decode cX4_rateLetter 14 = .ok (.getfield 112, 3) := by decide +kernel
theorem dX4_rateLetter_17 : decode cX4_rateLetter 17 = .ok (.iload_n 1, 1) := by decide +kernel
theorem dX4_rateLetter_18 : decode cX4_rateLetter 18 = .ok (.aaload, 1) := by decide +kernel
theorem dX4_rateLetter_19 : decode cX4_rateLetter 19 = .ok (.getfield 116, 3) := by decide +kernel
theorem dX4_rateLetter_22 : decode cX4_rateLetter 22 = .ok (.ireturn, 1) := by decide +kernel
theorem dJ9_floorMod_7cf53_0 : decode cJ9_floorMod_7cf53 0 = .ok (.iload_n 0, 1) := by decide +kernel
theorem dJ9_floorMod_7cf53_1 : decode cJ9_floorMod_7cf53 1 = .ok (.iload_n 1, 1) := by decide +kernel
theorem dJ9_floorMod_7cf53_2 : decode cJ9_floorMod_7cf53 2 = .ok (.irem, 1) := by decide +kernel
theorem dJ9_floorMod_7cf53_3 : decode cJ9_floorMod_7cf53 3 = .ok (.istore_n 2, 1) := by decide +kernel
theorem dJ9_floorMod_7cf53_4 : decode cJ9_floorMod_7cf53 4 = .ok (.iload_n 0, 1) := by decide +kernel
theorem dJ9_floorMod_7cf53_5 : decode cJ9_floorMod_7cf53 5 = .ok (.iload_n 1, 1) := by decide +kernel
theorem dJ9_floorMod_7cf53_6 : decode cJ9_floorMod_7cf53 6 = .ok (.ixor, 1) := by decide +kernel
theorem dJ9_floorMod_7cf53_7 : decode cJ9_floorMod_7cf53 7 = .ok (.ifCond .ge 11, 3) := by decide +kernel
theorem dJ9_floorMod_7cf53_10 : decode cJ9_floorMod_7cf53 10 = .ok (.iload_n 2, 1) := by decide +kernel
theorem dJ9_floorMod_7cf53_11 : decode cJ9_floorMod_7cf53 11 = .ok (.ifCond .eq 7, 3) := by decide +kernel
theorem dJ9_floorMod_7cf53_14 : decode cJ9_floorMod_7cf53 14 = .ok (.iload_n 2, 1) := by decide +kernel
theorem dJ9_floorMod_7cf53_15 : decode cJ9_floorMod_7cf53 15 = .ok (.iload_n 1, 1) := by decide +kernel
theorem dJ9_floorMod_7cf53_16 : decode cJ9_floorMod_7cf53 16 = .ok (.iadd, 1) := by decide +kernel
theorem dJ9_floorMod_7cf53_17 : decode cJ9_floorMod_7cf53 17 = .ok (.ireturn, 1) := by decide +kernel
theorem dJ9_floorMod_7cf53_18 : decode cJ9_floorMod_7cf53 18 = .ok (.iload_n 2, 1) := by decide +kernel
theorem dJ9_floorMod_7cf53_19 : decode cJ9_floorMod_7cf53 19 = .ok (.ireturn, 1) := by decide +kernel
def fX0_untell_b32 (N : Nat) (t : Nat) (k32 : Int32 → zMem → Int64 → zR) (x1 : Int32) (G : zMem) (tr : Int64) : zR :=
  if (30 : Int32) ≤ x1 then some (0, G, tr) else zin x1 30 (k32 (x1 + 1) (up2 G (t + 2) (Int32.toNatClampNeg x1) (-9 : Int32)) tr)
def fX0_untell_L32 (N : Nat) (t : Nat) : Nat → Int32 → zMem → Int64 → zR
  | 0, _, _, _ => none
  | n + 1, x1, G, tr => fX0_untell_b32 N t (fX0_untell_L32 N t n) x1 G tr
def fX0_untell (N : Nat) (t : Nat) (G : zMem) (tr : Int64) : zR :=
  fX0_untell_L32 N t N (0 : Int32) (up2 (up2 (up2 (up2 (up2 (up2 G t 0 (4 : Int32)) t 1 (4 : Int32)) t 2 (3 : Int32)) t 3 (0 : Int32)) t 4 (0 : Int32)) t 5 (0 : Int32)) tr
def fX0_cells (N : Nat) (t : Nat) (G : zMem) (tr : Int64) : zR :=
  some ((if (30 : Int32) < ((G t 0) * (G t 1)) then (30 : Int32) else ((G t 0) * (G t 1))), G, tr)
def fX0_cellOfIsle (N : Nat) (t : Nat) (a1 : Int32) (G : zMem) (tr : Int64) : zR :=
  if a1 < 0 then some ((0 : Int32), G, tr) else if (6 : Int32) ≤ a1 then some ((0 : Int32), G, tr) else zin a1 6 (some ((G (t + 1) (Int32.toNatClampNeg a1)), G, tr))
def fX0_onCell (N : Nat) (t : Nat) (a1 : Int32) (G : zMem) (tr : Int64) : zR :=
  if a1 < 0 then some ((-9 : Int32), G, tr) else if (30 : Int32) ≤ a1 then some ((-9 : Int32), G, tr) else zin a1 30 (some ((G (t + 2) (Int32.toNatClampNeg a1)), G, tr))
def fX0_beside (N : Nat) (t : Nat) (a1 : Int32) (a2 : Int32) (G : zMem) (tr : Int64) : zR :=
  if (1 : Int32) ≤ (G t 0) then zdv (G t 0) (if a2 = 0 then if a1 < (G t 0) then some (((a1 - (G t 0)) + ((G t 0) * (G t 1))), G, tr) else some ((a1 - (G t 0)), G, tr) else if a2 = 1 then if ((G t 0) - (1 : Int32)) ≤ (a1 - a1 / (G t 0) * (G t 0)) then some ((a1 - (a1 - a1 / (G t 0) * (G t 0))), G, tr) else some ((a1 + (1 : Int32)), G, tr) else if a2 = 2 then if (((G t 0) * (G t 1)) - (G t 0)) ≤ a1 then some (((a1 + (G t 0)) - ((G t 0) * (G t 1))), G, tr) else some ((a1 + (G t 0)), G, tr) else if a2 = 3 then if (a1 - a1 / (G t 0) * (G t 0)) ≤ 0 then some (((a1 + (G t 0)) - (1 : Int32)), G, tr) else some ((a1 - (1 : Int32)), G, tr) else some (a1, G, tr)) else some (a1, G, tr)
def fX0_drawWay_b40 (N : Nat) (t : Nat) (a1 : Int32) (a2 : Int32) (k8 : Int32 → Int32 → Int32 → zMem → Int64 → zR) (x3 : Int32) (x4 : Int32) (x5 : Int32) (G : zMem) (tr : Int64) : zR :=
  zin (((((x5 - (1 : Int32)) * (4 : Int32)) + a1) * (30 : Int32)) + a2) 600 (k8 x3 x4 (x5 + 1) (up2 G (t + 4) (Int32.toNatClampNeg (((((x5 - (1 : Int32)) * (4 : Int32)) + a1) * (30 : Int32)) + a2)) x4) tr)
def fX0_drawWay_b8 (N : Nat) (t : Nat) (a1 : Int32) (a2 : Int32) (k8 : Int32 → Int32 → Int32 → zMem → Int64 → zR) (x3 : Int32) (x4 : Int32) (x5 : Int32) (G : zMem) (tr : Int64) : zR :=
  if (5 : Int32) < x5 then some (0, G, tr) else zbd (fX0_beside N t x3 a1 G tr) (fun r_3 G_4 tr_5 => zbd (fX0_onCell N t r_3 G_4 tr_5) (fun r_7 G_8 tr_9 => if r_7 = (-5 : Int32) then fX0_drawWay_b40 N t a1 a2 k8 x3 x4 x5 G_8 tr_9 else fX0_drawWay_b40 N t a1 a2 k8 r_3 r_3 x5 G_8 tr_9))
def fX0_drawWay_L8 (N : Nat) (t : Nat) (a1 : Int32) (a2 : Int32) : Nat → Int32 → Int32 → Int32 → zMem → Int64 → zR
  | 0, _, _, _, _, _ => none
  | n + 1, x3, x4, x5, G, tr => fX0_drawWay_b8 N t a1 a2 (fX0_drawWay_L8 N t a1 a2 n) x3 x4 x5 G tr
def fX0_drawWay (N : Nat) (t : Nat) (a1 : Int32) (a2 : Int32) (G : zMem) (tr : Int64) : zR :=
  fX0_drawWay_L8 N t a1 a2 N a2 (-1 : Int32) (1 : Int32) G tr
def fX0_drawEnds_b9 (N : Nat) (t : Nat) (k2 : Int32 → zMem → Int64 → zR) (k9 : Int32 → Int32 → zMem → Int64 → zR) (x1 : Int32) (x2 : Int32) (G : zMem) (tr : Int64) : zR :=
  zbd (fX0_cells N t G tr) (fun r_2 G_3 tr_4 => if r_2 ≤ x2 then k2 (x1 + 1) G_3 tr_4 else zbd (fX0_drawWay N t x1 x2 G_3 tr_4) (fun r_7 G_8 tr_9 => k9 x1 (x2 + 1) G_8 tr_9))
def fX0_drawEnds_L9 (N : Nat) (t : Nat) (k2 : Int32 → zMem → Int64 → zR) : Nat → Int32 → Int32 → zMem → Int64 → zR
  | 0, _, _, _, _ => none
  | n + 1, x1, x2, G, tr => fX0_drawEnds_b9 N t k2 (fX0_drawEnds_L9 N t k2 n) x1 x2 G tr
def fX0_drawEnds_b2 (N : Nat) (t : Nat) (k2 : Int32 → zMem → Int64 → zR) (x1 : Int32) (G : zMem) (tr : Int64) : zR :=
  if (4 : Int32) ≤ x1 then some (0, G, tr) else fX0_drawEnds_L9 N t k2 N x1 (0 : Int32) G tr
def fX0_drawEnds_L2 (N : Nat) (t : Nat) : Nat → Int32 → zMem → Int64 → zR
  | 0, _, _, _ => none
  | n + 1, x1, G, tr => fX0_drawEnds_b2 N t (fX0_drawEnds_L2 N t n) x1 G tr
def fX0_drawEnds (N : Nat) (t : Nat) (G : zMem) (tr : Int64) : zR :=
  fX0_drawEnds_L2 N t N (0 : Int32) G tr
def fX0_endOf (N : Nat) (t : Nat) (a1 : Int32) (a2 : Int32) (a3 : Int32) (G : zMem) (tr : Int64) : zR :=
  if a1 < (1 : Int32) then some ((-1 : Int32), G, tr) else if (5 : Int32) < a1 then some ((-1 : Int32), G, tr) else if a2 < 0 then some ((-1 : Int32), G, tr) else if a2 < (4 : Int32) then if a3 < 0 then some ((-1 : Int32), G, tr) else if a3 < (30 : Int32) then zin (((((a1 - (1 : Int32)) * (4 : Int32)) + a2) * (30 : Int32)) + a3) 600 (some ((G (t + 4) (Int32.toNatClampNeg (((((a1 - (1 : Int32)) * (4 : Int32)) + a2) * (30 : Int32)) + a3))), G, tr)) else some ((-1 : Int32), G, tr) else some ((-1 : Int32), G, tr)
def fX1_letUp (N : Nat) (t : Nat) (a1 : Nat) (a2 : Int32) (a3 : Int32) (a4 : Int32) (G : zMem) (tr : Int64) : zR :=
  zbd (fX0_cellOfIsle N a1 a2 (up2 (up2 (up2 G t 0 a4) t 1 a2) t 2 a3) tr) (fun r_2 G_3 tr_4 => some (0, (up2 (up2 (up2 (up2 G_3 t 3 r_2) t 4 ((1 : Int32) <<< (a2 &&& 31))) t 5 (0 : Int32)) t 6 (((up2 (up2 (up2 G_3 t 3 r_2) t 4 ((1 : Int32) <<< (a2 &&& 31))) t 5 (0 : Int32)) a1 2) - a4)), tr_4))
def fX1_copyFrom (N : Nat) (t : Nat) (a1 : Nat) (G : zMem) (tr : Int64) : zR :=
  some (0, (up2 (up2 (up2 (up2 (up2 (up2 (up2 G t 0 (G a1 0)) t 1 ((up2 G t 0 (G a1 0)) a1 1)) t 2 ((up2 (up2 G t 0 (G a1 0)) t 1 ((up2 G t 0 (G a1 0)) a1 1)) a1 2)) t 3 ((up2 (up2 (up2 G t 0 (G a1 0)) t 1 ((up2 G t 0 (G a1 0)) a1 1)) t 2 ((up2 (up2 G t 0 (G a1 0)) t 1 ((up2 G t 0 (G a1 0)) a1 1)) a1 2)) a1 3)) t 4 ((up2 (up2 (up2 (up2 G t 0 (G a1 0)) t 1 ((up2 G t 0 (G a1 0)) a1 1)) t 2 ((up2 (up2 G t 0 (G a1 0)) t 1 ((up2 G t 0 (G a1 0)) a1 1)) a1 2)) t 3 ((up2 (up2 (up2 G t 0 (G a1 0)) t 1 ((up2 G t 0 (G a1 0)) a1 1)) t 2 ((up2 (up2 G t 0 (G a1 0)) t 1 ((up2 G t 0 (G a1 0)) a1 1)) a1 2)) a1 3)) a1 4)) t 5 ((up2 (up2 (up2 (up2 (up2 G t 0 (G a1 0)) t 1 ((up2 G t 0 (G a1 0)) a1 1)) t 2 ((up2 (up2 G t 0 (G a1 0)) t 1 ((up2 G t 0 (G a1 0)) a1 1)) a1 2)) t 3 ((up2 (up2 (up2 G t 0 (G a1 0)) t 1 ((up2 G t 0 (G a1 0)) a1 1)) t 2 ((up2 (up2 G t 0 (G a1 0)) t 1 ((up2 G t 0 (G a1 0)) a1 1)) a1 2)) a1 3)) t 4 ((up2 (up2 (up2 (up2 G t 0 (G a1 0)) t 1 ((up2 G t 0 (G a1 0)) a1 1)) t 2 ((up2 (up2 G t 0 (G a1 0)) t 1 ((up2 G t 0 (G a1 0)) a1 1)) a1 2)) t 3 ((up2 (up2 (up2 G t 0 (G a1 0)) t 1 ((up2 G t 0 (G a1 0)) a1 1)) t 2 ((up2 (up2 G t 0 (G a1 0)) t 1 ((up2 G t 0 (G a1 0)) a1 1)) a1 2)) a1 3)) a1 4)) a1 5)) t 6 ((up2 (up2 (up2 (up2 (up2 (up2 G t 0 (G a1 0)) t 1 ((up2 G t 0 (G a1 0)) a1 1)) t 2 ((up2 (up2 G t 0 (G a1 0)) t 1 ((up2 G t 0 (G a1 0)) a1 1)) a1 2)) t 3 ((up2 (up2 (up2 G t 0 (G a1 0)) t 1 ((up2 G t 0 (G a1 0)) a1 1)) t 2 ((up2 (up2 G t 0 (G a1 0)) t 1 ((up2 G t 0 (G a1 0)) a1 1)) a1 2)) a1 3)) t 4 ((up2 (up2 (up2 (up2 G t 0 (G a1 0)) t 1 ((up2 G t 0 (G a1 0)) a1 1)) t 2 ((up2 (up2 G t 0 (G a1 0)) t 1 ((up2 G t 0 (G a1 0)) a1 1)) a1 2)) t 3 ((up2 (up2 (up2 G t 0 (G a1 0)) t 1 ((up2 G t 0 (G a1 0)) a1 1)) t 2 ((up2 (up2 G t 0 (G a1 0)) t 1 ((up2 G t 0 (G a1 0)) a1 1)) a1 2)) a1 3)) a1 4)) t 5 ((up2 (up2 (up2 (up2 (up2 G t 0 (G a1 0)) t 1 ((up2 G t 0 (G a1 0)) a1 1)) t 2 ((up2 (up2 G t 0 (G a1 0)) t 1 ((up2 G t 0 (G a1 0)) a1 1)) a1 2)) t 3 ((up2 (up2 (up2 G t 0 (G a1 0)) t 1 ((up2 G t 0 (G a1 0)) a1 1)) t 2 ((up2 (up2 G t 0 (G a1 0)) t 1 ((up2 G t 0 (G a1 0)) a1 1)) a1 2)) a1 3)) t 4 ((up2 (up2 (up2 (up2 G t 0 (G a1 0)) t 1 ((up2 G t 0 (G a1 0)) a1 1)) t 2 ((up2 (up2 G t 0 (G a1 0)) t 1 ((up2 G t 0 (G a1 0)) a1 1)) a1 2)) t 3 ((up2 (up2 (up2 G t 0 (G a1 0)) t 1 ((up2 G t 0 (G a1 0)) a1 1)) t 2 ((up2 (up2 G t 0 (G a1 0)) t 1 ((up2 G t 0 (G a1 0)) a1 1)) a1 2)) a1 3)) a1 4)) a1 5)) a1 6)), tr)
def fX4_bitOf (N : Nat) (a0 : Int32) (a1 : Int32) : Option Int32 :=
  some ((a0 >>> (a1 &&& 31)) &&& (1 : Int32))
def fX1_passHour_b75 (N : Nat) (t : Nat) (a1 : Nat) (a2 : Int32) (a3 : Int32) (x5 : Int32) (G : zMem) (tr : Int64) : zR :=
  if x5 = ((up2 G t 4 ((G t 4) ||| ((1 : Int32) <<< (x5 &&& 31)))) t 2) then some (0, (up2 (up2 G t 4 ((G t 4) ||| ((1 : Int32) <<< (x5 &&& 31)))) t 5 (1 : Int32)), tr) else some (0, (up2 G t 4 ((G t 4) ||| ((1 : Int32) <<< (x5 &&& 31)))), tr)
def fX1_passHour (N : Nat) (t : Nat) (a1 : Nat) (a2 : Int32) (a3 : Int32) (G : zMem) (tr : Int64) : zR :=
  if (G t 5) = 0 then zbd (fX0_endOf N a1 (G t 6) a2 (G t 3) G tr) (fun r_3 G_4 tr_5 => if r_3 = (-1 : Int32) then some (0, G_4, tr_5) else zbd (fX0_onCell N a1 r_3 (up2 G_4 t 3 r_3) tr_5) (fun r_8 G_9 tr_10 => if 0 ≤ r_8 then if r_8 = (G_9 t 2) then fX1_passHour_b75 N t a1 a2 a3 r_8 G_9 tr_10 else zbp (fX4_bitOf N a3 r_8) (fun r_14 => if r_14 = (1 : Int32) then some (0, (up2 G_9 t 5 (2 : Int32)), tr_10) else fX1_passHour_b75 N t a1 a2 a3 r_8 G_9 tr_10) else some (0, G_9, tr_10))) else some (0, G, tr)
def fX2_beginAnew_b25 (N : Nat) (t : Nat) (a1 : Nat) (k25 : Int32 → zMem → Int64 → zR) (x2 : Int32) (G : zMem) (tr : Int64) : zR :=
  if (12 : Int32) ≤ x2 then some (0, G, tr) else zin x2 12 (zin x2 12 (k25 (x2 + 1) (up2 G (t + 1) (Int32.toNatClampNeg x2) (G (a1 + 3) (Int32.toNatClampNeg x2))) tr))
def fX2_beginAnew_L25 (N : Nat) (t : Nat) (a1 : Nat) : Nat → Int32 → zMem → Int64 → zR
  | 0, _, _, _ => none
  | n + 1, x2, G, tr => fX2_beginAnew_b25 N t a1 (fX2_beginAnew_L25 N t a1 n) x2 G tr
def fX2_beginAnew (N : Nat) (t : Nat) (a1 : Nat) (G : zMem) (tr : Int64) : zR :=
  fX2_beginAnew_L25 N t a1 N (0 : Int32) (up2 (up2 (up2 (up2 G t 0 (0 : Int32)) t 1 (0 : Int32)) t 2 (0 : Int32)) t 3 ((up2 (up2 (up2 G t 0 (0 : Int32)) t 1 (0 : Int32)) t 2 (0 : Int32)) a1 5)) tr
def fX2_copyFrom_b60 (N : Nat) (t : Nat) (a1 : Nat) (k60 : Int32 → zMem → Int64 → zR) (x2 : Int32) (G : zMem) (tr : Int64) : zR :=
  if (5 : Int32) ≤ x2 then some (0, G, tr) else zin x2 5 (zin x2 5 (zbd (fX1_copyFrom N ((t + 3) + (Int32.toNatClampNeg x2)) ((a1 + 3) + (Int32.toNatClampNeg x2)) G tr) (fun r_5 G_6 tr_7 => k60 (x2 + 1) G_6 tr_7)))
def fX2_copyFrom_L60 (N : Nat) (t : Nat) (a1 : Nat) : Nat → Int32 → zMem → Int64 → zR
  | 0, _, _, _ => none
  | n + 1, x2, G, tr => fX2_copyFrom_b60 N t a1 (fX2_copyFrom_L60 N t a1 n) x2 G tr
def fX2_copyFrom_b34 (N : Nat) (t : Nat) (a1 : Nat) (k34 : Int32 → zMem → Int64 → zR) (x2 : Int32) (G : zMem) (tr : Int64) : zR :=
  if (12 : Int32) ≤ x2 then fX2_copyFrom_L60 N t a1 N (0 : Int32) G tr else zin x2 12 (zin x2 12 (k34 (x2 + 1) (up2 G (t + 1) (Int32.toNatClampNeg x2) (G (a1 + 1) (Int32.toNatClampNeg x2))) tr))
def fX2_copyFrom_L34 (N : Nat) (t : Nat) (a1 : Nat) : Nat → Int32 → zMem → Int64 → zR
  | 0, _, _, _ => none
  | n + 1, x2, G, tr => fX2_copyFrom_b34 N t a1 (fX2_copyFrom_L34 N t a1 n) x2 G tr
def fX2_copyFrom (N : Nat) (t : Nat) (a1 : Nat) (G : zMem) (tr : Int64) : zR :=
  fX2_copyFrom_L34 N t a1 N (0 : Int32) (up2 (up2 (up2 (up2 G t 0 (G a1 0)) t 1 ((up2 G t 0 (G a1 0)) a1 1)) t 2 ((up2 (up2 G t 0 (G a1 0)) t 1 ((up2 G t 0 (G a1 0)) a1 1)) a1 2)) t 3 ((up2 (up2 (up2 G t 0 (G a1 0)) t 1 ((up2 G t 0 (G a1 0)) a1 1)) t 2 ((up2 (up2 G t 0 (G a1 0)) t 1 ((up2 G t 0 (G a1 0)) a1 1)) a1 2)) a1 3)) tr
def fJ9_floorMod_7cf53 (N : Nat) (a0 : Int32) (a1 : Int32) : Option Int32 :=
  zdv a1 (if 0 ≤ (a0 ^^^ a1) then some (a0 - a0 / a1 * a1) else if (a0 - a0 / a1 * a1) = 0 then some (a0 - a0 / a1 * a1) else some ((a0 - a0 / a1 * a1) + a1))
def fX2_windOf (N : Nat) (t : Nat) (a1 : Int32) (G : zMem) (tr : Int64) : zR :=
  if (G t 3) < (1 : Int32) then some ((4 : Int32), G, tr) else if (G t 3) ≤ (12 : Int32) then zbp (fJ9_floorMod_7cf53 N a1 (G t 3)) (fun r_4 => zin r_4 12 (some ((G (t + 1) (Int32.toNatClampNeg r_4)), G, tr))) else some ((4 : Int32), G, tr)
def fX3_add (N : Nat) (a1 : Int32) (G : zMem) (tr : Int64) : zR :=
  if (G 1 0) < (200 : Int32) then zin (G 1 0) 200 (some (0, (up2 (up2 G 2 (Int32.toNatClampNeg (G 1 0)) a1) 1 0 (((up2 G 2 (Int32.toNatClampNeg (G 1 0)) a1) 1 0) + (1 : Int32))), tr)) else some (0, G, tr)
def fX4_isWithin (N : Nat) (a0 : Int32) (a1 : Int32) (a2 : Int32) : Option Int32 :=
  if a0 < a1 then zbo (0 : Int32) (some (0 : Int32)) else if a2 < a0 then zbo (0 : Int32) (some (0 : Int32)) else zbo (1 : Int32) (some (1 : Int32))
def fX4_type (N : Nat) (a1 : Int32) (G : zMem) (tr : Int64) : zR :=
  zbp (fX4_isWithin N a1 (0 : Int32) (255 : Int32)) (fun r_2 => if r_2 = 0 then some ((-1 : Int32), G, tr) else if (G 1 0) < (200 : Int32) then zbd (fX3_add N a1 G tr) (fun r_6 G_7 tr_8 => some ((G_7 1 0), G_7, tr_8)) else some ((-3 : Int32), G, tr))
def fX4_clear (N : Nat) (G : zMem) (tr : Int64) : zR :=
  some ((G 1 0), (up2 G 1 0 (0 : Int32)), tr)
def fX4_isLetter (N : Nat) (a1 : Int32) (G : zMem) (tr : Int64) : zR :=
  zbp (fX4_isWithin N a1 (0 : Int32) ((G 18 1) - (1 : Int32))) (fun r_2 => zbo r_2 (some (r_2, G, tr)))
def fX4_letter (N : Nat) (a1 : Int32) (a2 : Int32) (G : zMem) (tr : Int64) : zR :=
  zbd (fX4_isLetter N a1 G tr) (fun r_2 G_3 tr_4 => if r_2 = 0 then some ((-1 : Int32), G_3, tr_4) else zin a1 5 (if a2 = 0 then some ((G_3 (21 + (Int32.toNatClampNeg a1)) 0), G_3, tr_4) else if a2 = 1 then some ((G_3 (21 + (Int32.toNatClampNeg a1)) 1), G_3, tr_4) else if a2 = 2 then some ((G_3 (21 + (Int32.toNatClampNeg a1)) 2), G_3, tr_4) else if a2 = 3 then some ((G_3 (21 + (Int32.toNatClampNeg a1)) 3), G_3, tr_4) else if a2 = 4 then some ((G_3 (21 + (Int32.toNatClampNeg a1)) 4), G_3, tr_4) else if a2 = 5 then some ((G_3 (21 + (Int32.toNatClampNeg a1)) 5), G_3, tr_4) else some ((-1 : Int32), G_3, tr_4)))
def fX4_remember_b36 (N : Nat) (s0 : Int32) (G : zMem) (tr : Int64) : zR :=
  some (0, (up2 (up2 G 0 5 s0) 0 6 (if (10 : Int32) < (((up2 G 0 5 s0) 0 6) + (1 : Int32)) then (10 : Int32) else (((up2 G 0 5 s0) 0 6) + (1 : Int32)))), tr)
def fX4_remember (N : Nat) (G : zMem) (tr : Int64) : zR :=
  zin (G 0 5) 10 (zbd (fX2_copyFrom N (26 + 8 * (Int32.toNatClampNeg (G 0 5))) 18 G tr) (fun r_3 G_4 tr_5 => if (9 : Int32) ≤ (G_4 0 5) then fX4_remember_b36 N (0 : Int32) G_4 tr_5 else fX4_remember_b36 N ((G_4 0 5) + (1 : Int32)) G_4 tr_5))
def fX4_hour_b110 (N : Nat) (k39 : Int32 → Int32 → Int32 → zMem → Int64 → zR) (x1 : Int32) (x2 : Int32) (x3 : Int32) (G : zMem) (tr : Int64) : zR :=
  k39 x1 x2 (x3 + 1) G tr
def fX4_hour_b74 (N : Nat) (k39 : Int32 → Int32 → Int32 → zMem → Int64 → zR) (x1 : Int32) (x2 : Int32) (x3 : Int32) (x4 : Nat) (s0 : Int32) (G : zMem) (tr : Int64) : zR :=
  zch (G 0 1) (zbd (fX1_passHour N x4 (G 0 1).toNatClampNeg x1 (G 18 2) G tr) (fun r_3 G_4 tr_5 => if s0 = 0 then fX4_hour_b110 N k39 x1 x2 x3 G_4 tr_5 else if (G_4 x4 5) = (1 : Int32) then fX4_hour_b110 N k39 x1 (x2 + 1) x3 G_4 tr_5 else fX4_hour_b110 N k39 x1 x2 x3 G_4 tr_5))
def fX4_hour_b39 (N : Nat) (k39 : Int32 → Int32 → Int32 → zMem → Int64 → zR) (x1 : Int32) (x2 : Int32) (x3 : Int32) (G : zMem) (tr : Int64) : zR :=
  if (G 18 1) ≤ x3 then some (x2, (up2 G 18 0 ((G 18 0) + (1 : Int32))), tr) else zin x3 5 (if (G (21 + (Int32.toNatClampNeg x3)) 5) = 0 then fX4_hour_b74 N k39 x1 x2 x3 (21 + (Int32.toNatClampNeg x3)) (1 : Int32) G tr else fX4_hour_b74 N k39 x1 x2 x3 (21 + (Int32.toNatClampNeg x3)) (0 : Int32) G tr)
def fX4_hour_L39 (N : Nat) : Nat → Int32 → Int32 → Int32 → zMem → Int64 → zR
  | 0, _, _, _, _, _ => none
  | n + 1, x1, x2, x3, G, tr => fX4_hour_b39 N (fX4_hour_L39 N n) x1 x2 x3 G tr
def fX4_hour (N : Nat) (G : zMem) (tr : Int64) : zR :=
  if (G 18 0) < (9999 : Int32) then zbd (fX4_remember N G tr) (fun r_3 G_4 tr_5 => zbd (fX2_windOf N 18 (G_4 18 0) G_4 tr_5) (fun r_7 G_8 tr_9 => fX4_hour_L39 N N r_7 (0 : Int32) (0 : Int32) G_8 tr_9)) else some ((-2 : Int32), G, tr)
def fX4_passHours_b3 (N : Nat) (a1 : Nat) (a2 : Int32) (a3 : Int32) (k3 : Int32 → zMem → Int64 → zR) (x4 : Int32) (G : zMem) (tr : Int64) : zR :=
  if a3 ≤ x4 then some (0, G, tr) else zch (G 0 1) (zbd (fX2_windOf N 18 (a2 + x4) G tr) (fun r_4 G_5 tr_6 => zbd (fX1_passHour N a1 (G 0 1).toNatClampNeg r_4 (G_5 18 2) G_5 tr_6) (fun r_8 G_9 tr_10 => k3 (x4 + 1) G_9 tr_10)))
def fX4_passHours_L3 (N : Nat) (a1 : Nat) (a2 : Int32) (a3 : Int32) : Nat → Int32 → zMem → Int64 → zR
  | 0, _, _, _ => none
  | n + 1, x4, G, tr => fX4_passHours_b3 N a1 a2 a3 (fX4_passHours_L3 N a1 a2 a3 n) x4 G tr
def fX4_passHours (N : Nat) (a1 : Nat) (a2 : Int32) (a3 : Int32) (G : zMem) (tr : Int64) : zR :=
  fX4_passHours_L3 N a1 a2 a3 N (0 : Int32) G tr
def fX4_letterIn (N : Nat) (a1 : Int32) (a2 : Int32) (G : zMem) (tr : Int64) : zR :=
  zin a1 5 (zbd (fX1_copyFrom N 13 (21 + (Int32.toNatClampNeg a1)) G tr) (fun r_3 G_4 tr_5 => zbd (fX4_passHours N 13 (G_4 18 0) a2 G_4 tr_5) (fun r_7 G_8 tr_9 => some (0, G_8, tr_9))))
def fX4_arrival_b42 (N : Nat) (a1 : Int32) (a2 : Int32) (k42 : Int32 → Int32 → zMem → Int64 → zR) (x3 : Int32) (x4 : Int32) (G : zMem) (tr : Int64) : zR :=
  if x3 < x4 then some ((-9 : Int32), G, tr) else if (G 13 5) = 0 then zch (G 0 1) (zbd (fX2_windOf N 18 ((a1 + x4) - (1 : Int32)) G tr) (fun r_5 G_6 tr_7 => zbd (fX1_passHour N 13 (G 0 1).toNatClampNeg r_5 a2 G_6 tr_7) (fun r_9 G_10 tr_11 => if (G_10 13 5) = (1 : Int32) then some (x4, G_10, tr_11) else k42 x3 (x4 + 1) G_10 tr_11))) else some ((-9 : Int32), G, tr)
def fX4_arrival_L42 (N : Nat) (a1 : Int32) (a2 : Int32) : Nat → Int32 → Int32 → zMem → Int64 → zR
  | 0, _, _, _, _ => none
  | n + 1, x3, x4, G, tr => fX4_arrival_b42 N a1 a2 (fX4_arrival_L42 N a1 a2 n) x3 x4 G tr
def fX4_arrival (N : Nat) (a1 : Int32) (a2 : Int32) (G : zMem) (tr : Int64) : zR :=
  if (G 13 5) = (1 : Int32) then some ((0 : Int32), G, tr) else zch (G 0 1) (zbd (fX0_cells N (G 0 1).toNatClampNeg G tr) (fun r_4 G_5 tr_6 => fX4_arrival_L42 N a1 a2 N (if (r_4 * (if (1 : Int32) < (G_5 18 3) then (G_5 18 3) else (1 : Int32))) < (400 : Int32) then (r_4 * (if (1 : Int32) < (G_5 18 3) then (G_5 18 3) else (1 : Int32))) else (400 : Int32)) (1 : Int32) G_5 tr_6))
def fX4_rateLetter (N : Nat) (a1 : Int32) (G : zMem) (tr : Int64) : zR :=
  zin a1 5 (some ((G (21 + (Int32.toNatClampNeg a1)) 0), G, (tr + (1 : Int64))))
def fX4_count (N : Nat) (a1 : Int32) (G : zMem) (tr : Int64) : zR :=
  if a1 = 0 then zch (G 0 1) (some ((G (G 0 1).toNatClampNeg 0), G, tr)) else if a1 = 1 then zch (G 0 1) (some ((G (G 0 1).toNatClampNeg 1), G, tr)) else if a1 = 2 then zch (G 0 1) (some ((G (G 0 1).toNatClampNeg 3), G, tr)) else if a1 = 3 then zch (G 0 1) (some ((G (G 0 1).toNatClampNeg 4), G, tr)) else if a1 = 4 then some ((G 18 3), G, tr) else if a1 = 5 then zch (G 0 1) (some ((G (G 0 1).toNatClampNeg 2), G, tr)) else if a1 = 6 then some ((G 1 0), G, tr) else some ((-1 : Int32), G, tr)
set_option maxRecDepth 20000 in
theorem kX0_untell_15 : Cond.fieldLink RX0 15 "WindPost$Chart" "holds" "[I" ∈ wsX0_untell := by decide +kernel
set_option maxRecDepth 20000 in
theorem kX0_untell_30 : Cond.fieldLink RX0 30 "WindPost$Chart" "wide" "I" ∈ wsX0_untell := by decide +kernel
set_option maxRecDepth 20000 in
theorem kX0_untell_34 : Cond.fieldLink RX0 34 "WindPost$Chart" "high" "I" ∈ wsX0_untell := by decide +kernel
set_option maxRecDepth 20000 in
theorem kX0_untell_37 : Cond.fieldLink RX0 37 "WindPost$Chart" "force" "I" ∈ wsX0_untell := by decide +kernel
set_option maxRecDepth 20000 in
theorem kX0_untell_40 : Cond.fieldLink RX0 40 "WindPost$Chart" "isles" "I" ∈ wsX0_untell := by decide +kernel
set_option maxRecDepth 20000 in
theorem kX0_untell_43 : Cond.fieldLink RX0 43 "WindPost$Chart" "hills" "I" ∈ wsX0_untell := by decide +kernel
set_option maxRecDepth 20000 in
theorem kX0_untell_46 : Cond.fieldLink RX0 46 "WindPost$Chart" "told" "I" ∈ wsX0_untell := by decide +kernel
set_option maxRecDepth 20000 in
theorem uX0_untell_X0 : ∀ w ∈ wsX00, w ∈ wsX0_untell := by decide +kernel
set_option maxHeartbeats 8000000 in
set_option maxRecDepth 100000 in
theorem mX0_untell (l : Launch) (D : va_G) (ki : Nat → ClassId) (ad : Nat → Nat) (cs : List Nat) (N : Nat) (t : Nat) (ht : kC cs t) (G : zMem) (tr : Int64) : gMetV l D ki ad cs yX0_untell wsX0_untell { frames := 0, cells := 0, slots := 0, locals := 0 } [.ref (ad t)] (xE ki ad) G tr (fX0_untell N t G tr) := by
  refine gMetV_of (cc := cX0_untell) (maxL := 2) (ret := none) (own := RX0) (by decide +kernel) rfl rfl (Nat.le_of_ble_eq_true rfl) ?_
  intro r9 G9 tr9 h p e s m below meth c S hr hlk K X ls hl
  have hl : lv_has ls 2 [(0, .ref (ad t))] := hl
  have b32 : ∀ (k32 : Int32 → zMem → Int64 → zR) (hk32 : ∀ (x1 : Int32) (G : zMem) (tr : Int64), k32 x1 G tr = some (r9, G9, tr9) → zAt p l e (headSpec wsX0_untell { frames := 0, cells := 0, slots := 0, locals := 0 }).room s m ([.ref (ad t)] : List Value).toArray below meth c 2 D cs ad (zQV below ([.ref (ad t)] : List Value).toArray s D cs ad ((xE ki ad) G9 tr9)) 32 [(0, .ref (ad t)), (1, .int x1)] [] ((xE ki ad) G tr)) (x1 : Int32) (G : zMem) (tr : Int64), fX0_untell_b32 N t k32 x1 G tr = some (r9, G9, tr9) → zAt p l e (headSpec wsX0_untell { frames := 0, cells := 0, slots := 0, locals := 0 }).room s m ([.ref (ad t)] : List Value).toArray below meth c 2 D cs ad (zQV below ([.ref (ad t)] : List Value).toArray s D cs ad ((xE ki ad) G9 tr9)) 32 [(0, .ref (ad t)), (1, .int x1)] [] ((xE ki ad) G tr) := by
    intro k32 hk32 x1 G tr h H locs ls X hl
    unfold fX0_untell_b32 at h
    refine lv_iload_n S.1 S.2.1 dX0_untell_32 rfl (lv_at hl 1 rfl) ?_
    refine lv_bipush (v := (30 : Int32)) S.1 S.2.1 dX0_untell_33 (by decide) ?_
    refine lv_icmp_ge (tgt := 52) S.1 S.2.1 dX0_untell_35 (by decide) (fun hc_1 => ?_) (fun hc_1 => ?_)
    · have h := zif_pos hc_1 h
      exact zr_vret S hr hlk X h dX0_untell_52
    · have h := zif_neg hc_1 h
      refine lv_aload_n S.1 S.2.1 dX0_untell_38 rfl (lv_at hl 0 rfl) ?_
      refine zr_get (v := .ref (ad (t + 2))) S K X (ht.2 0 (by decide)) (xE_C ht) rfl uX0_untell_X0 7 (by decide) kX0_untell_15 rfl rfl dX0_untell_39 ?_
      refine lv_iload_n S.1 S.2.1 dX0_untell_42 rfl (lv_at hl 1 rfl) ?_
      refine lv_bipush (v := (-9 : Int32)) S.1 S.2.1 dX0_untell_43 (by decide) ?_
      obtain ⟨hi_2, h⟩ := zin_some h
      refine zr_iast S K X (ht.2 2 (by decide)) xE_loc (fun _ => (xE_C2 ht)) hi_2 dX0_untell_45 (fun H locs X => ?_)
      refine lv_iinc (v := (x1 + 1)) (lv' := [(1, .int (x1 + 1)), (0, .ref (ad t))]) S.1 S.2.1 dX0_untell_46 hl (k := 1) rfl rfl (by decide) rfl (fun ls hl => ?_)
      refine lv_goto (tgt := 32) S.1 S.2.1 dX0_untell_49 (by decide) ?_
      exact hk32 (x1 + 1) (up2 G (t + 2) (Int32.toNatClampNeg x1) (-9 : Int32)) tr h _ _ _ X (lv_sub hl [1, 0] rfl)
  have L32 : ∀ (n : Nat) (x1 : Int32) (G : zMem) (tr : Int64), fX0_untell_L32 N t n x1 G tr = some (r9, G9, tr9) → zAt p l e (headSpec wsX0_untell { frames := 0, cells := 0, slots := 0, locals := 0 }).room s m ([.ref (ad t)] : List Value).toArray below meth c 2 D cs ad (zQV below ([.ref (ad t)] : List Value).toArray s D cs ad ((xE ki ad) G9 tr9)) 32 [(0, .ref (ad t)), (1, .int x1)] [] ((xE ki ad) G tr) := by
    intro n
    induction n with
    | zero => intro x1 G tr h; cases h
    | succ n ih => intro x1 G tr h; exact b32 (fX0_untell_L32 N t n) ih x1 G tr h
  unfold fX0_untell at h
  obtain ⟨H, hH⟩ : ∃ H, H = s.heap := ⟨_, rfl⟩
  obtain ⟨locs, hlo⟩ : ∃ locs : List Loc, locs = [] := ⟨_, rfl⟩
  have X : gS D cs ad ((xE ki ad) G tr) (gA cs ad s.heap.size) s H locs := by rw [hH, hlo]; exact X
  suffices z : W p l e (headSpec wsX0_untell { frames := 0, cells := 0, slots := 0, locals := 0 }).room s m ([.ref (ad t)] : List Value).toArray below meth c H locs 0 0 (zQV below ([.ref (ad t)] : List Value).toArray s D cs ad ((xE ki ad) G9 tr9)) (F0 m 0 ls []) by rw [hH, hlo] at z; exact z
  clear hH hlo
  refine lv_aload_n S.1 S.2.1 dX0_untell_0 rfl (lv_at hl 0 rfl) ?_
  refine lv_iconst (v := (4 : Int32)) S.1 S.2.1 dX0_untell_1 (by decide) ?_
  refine zr_put (xv := (4 : Int32)) (v := .int (4 : Int32)) (fsf := (fsC ad t)) (ty := .int) S K X (ht.2 0 (by decide)) xE_loc (fun _ => (xE_C ht)) rfl uX0_untell_X0 tyX0 tyX0_ok nmX0 0 (by decide) kX0_untell_30 rfl (by decide +kernel) rfl rfl (by simp) rfl dX0_untell_2 (fun H locs X => ?_)
  refine lv_aload_n S.1 S.2.1 dX0_untell_5 rfl (lv_at hl 0 rfl) ?_
  refine lv_iconst (v := (4 : Int32)) S.1 S.2.1 dX0_untell_6 (by decide) ?_
  refine zr_put (xv := (4 : Int32)) (v := .int (4 : Int32)) (fsf := (fsC ad t)) (ty := .int) S K X (ht.2 0 (by decide)) xE_loc (fun _ => (xE_C ht)) rfl uX0_untell_X0 tyX0 tyX0_ok nmX0 1 (by decide) kX0_untell_34 rfl (by decide +kernel) rfl rfl (by simp) rfl dX0_untell_7 (fun H locs X => ?_)
  refine lv_aload_n S.1 S.2.1 dX0_untell_10 rfl (lv_at hl 0 rfl) ?_
  refine lv_iconst (v := (3 : Int32)) S.1 S.2.1 dX0_untell_11 (by decide) ?_
  refine zr_put (xv := (3 : Int32)) (v := .int (3 : Int32)) (fsf := (fsC ad t)) (ty := .int) S K X (ht.2 0 (by decide)) xE_loc (fun _ => (xE_C ht)) rfl uX0_untell_X0 tyX0 tyX0_ok nmX0 2 (by decide) kX0_untell_37 rfl (by decide +kernel) rfl rfl (by simp) rfl dX0_untell_12 (fun H locs X => ?_)
  refine lv_aload_n S.1 S.2.1 dX0_untell_15 rfl (lv_at hl 0 rfl) ?_
  refine lv_iconst (v := (0 : Int32)) S.1 S.2.1 dX0_untell_16 (by decide) ?_
  refine zr_put (xv := (0 : Int32)) (v := .int (0 : Int32)) (fsf := (fsC ad t)) (ty := .int) S K X (ht.2 0 (by decide)) xE_loc (fun _ => (xE_C ht)) rfl uX0_untell_X0 tyX0 tyX0_ok nmX0 3 (by decide) kX0_untell_40 rfl (by decide +kernel) rfl rfl (by simp) rfl dX0_untell_17 (fun H locs X => ?_)
  refine lv_aload_n S.1 S.2.1 dX0_untell_20 rfl (lv_at hl 0 rfl) ?_
  refine lv_iconst (v := (0 : Int32)) S.1 S.2.1 dX0_untell_21 (by decide) ?_
  refine zr_put (xv := (0 : Int32)) (v := .int (0 : Int32)) (fsf := (fsC ad t)) (ty := .int) S K X (ht.2 0 (by decide)) xE_loc (fun _ => (xE_C ht)) rfl uX0_untell_X0 tyX0 tyX0_ok nmX0 4 (by decide) kX0_untell_43 rfl (by decide +kernel) rfl rfl (by simp) rfl dX0_untell_22 (fun H locs X => ?_)
  refine lv_aload_n S.1 S.2.1 dX0_untell_25 rfl (lv_at hl 0 rfl) ?_
  refine lv_iconst (v := (0 : Int32)) S.1 S.2.1 dX0_untell_26 (by decide) ?_
  refine zr_put (xv := (0 : Int32)) (v := .int (0 : Int32)) (fsf := (fsC ad t)) (ty := .int) S K X (ht.2 0 (by decide)) xE_loc (fun _ => (xE_C ht)) rfl uX0_untell_X0 tyX0 tyX0_ok nmX0 5 (by decide) kX0_untell_46 rfl (by decide +kernel) rfl rfl (by simp) rfl dX0_untell_27 (fun H locs X => ?_)
  refine lv_iconst (v := (0 : Int32)) S.1 S.2.1 dX0_untell_30 (by decide) ?_
  refine lv_istore_n (lv' := [(1, .int (0 : Int32)), (0, .ref (ad t))]) S.1 S.2.1 dX0_untell_31 rfl hl (by decide) rfl (fun ls hl => ?_)
  exact L32 N (0 : Int32) (up2 (up2 (up2 (up2 (up2 (up2 G t 0 (4 : Int32)) t 1 (4 : Int32)) t 2 (3 : Int32)) t 3 (0 : Int32)) t 4 (0 : Int32)) t 5 (0 : Int32)) tr h _ _ _ X (lv_sub hl [1, 0] rfl)
set_option maxRecDepth 20000 in
theorem kX0_cells_30 : Cond.fieldLink RX0 30 "WindPost$Chart" "wide" "I" ∈ wsX0_cells := by decide +kernel
set_option maxRecDepth 20000 in
theorem kX0_cells_34 : Cond.fieldLink RX0 34 "WindPost$Chart" "high" "I" ∈ wsX0_cells := by decide +kernel
set_option maxRecDepth 20000 in
theorem uX0_cells_X0 : ∀ w ∈ wsX00, w ∈ wsX0_cells := by decide +kernel
set_option maxRecDepth 20000 in
theorem jX0_cells_min_l : Cond.methodLink RX0 49 Lib.Math.min.name ∈ wsX0_cells := by decide +kernel
set_option maxRecDepth 20000 in
theorem jX0_cells_min_s : Cond.static Lib.Math.min.name ∈ wsX0_cells := by decide +kernel
set_option maxRecDepth 20000 in
theorem jX0_cells_min_i : Cond.initialized "java/lang/Math" ∈ wsX0_cells := by decide +kernel
set_option maxRecDepth 20000 in
theorem jX0_cells_min_c : Cond.code Lib.Math.min.name Lib.Math.min.code 2 (some .int) ∈ wsX0_cells := by decide +kernel
set_option maxHeartbeats 8000000 in
set_option maxRecDepth 100000 in
theorem mX0_cells (l : Launch) (D : va_G) (ki : Nat → ClassId) (ad : Nat → Nat) (cs : List Nat) (N : Nat) (t : Nat) (ht : kC cs t) (G : zMem) (tr : Int64) : gMetI l D ki ad cs yX0_cells wsX0_cells { frames := 1, cells := 0, slots := 0, locals := 24 } [.ref (ad t)] (xE ki ad) G tr (fX0_cells N t G tr) := by
  refine gMetI_of (cc := cX0_cells) (maxL := 1) (ret := (some .int)) (own := RX0) (by decide +kernel) rfl rfl (Nat.le_of_ble_eq_true rfl) ?_
  intro r9 G9 tr9 h p e s m below meth c S hr hlk K X ls hl
  have hl : lv_has ls 1 [(0, .ref (ad t))] := hl
  unfold fX0_cells at h
  obtain ⟨H, hH⟩ : ∃ H, H = s.heap := ⟨_, rfl⟩
  obtain ⟨locs, hlo⟩ : ∃ locs : List Loc, locs = [] := ⟨_, rfl⟩
  have X : gS D cs ad ((xE ki ad) G tr) (gA cs ad s.heap.size) s H locs := by rw [hH, hlo]; exact X
  suffices z : W p l e (headSpec wsX0_cells { frames := 1, cells := 0, slots := 0, locals := 24 }).room s m ([.ref (ad t)] : List Value).toArray below meth c H locs 0 0 (zQI below ([.ref (ad t)] : List Value).toArray s D cs ad ((xE ki ad) G9 tr9) r9) (F0 m 0 ls []) by rw [hH, hlo] at z; exact z
  clear hH hlo
  refine lv_aload_n S.1 S.2.1 dX0_cells_0 rfl (lv_at hl 0 rfl) ?_
  refine zr_get (v := .int (G t 0)) S K X (ht.2 0 (by decide)) (xE_C ht) rfl uX0_cells_X0 0 (by decide) kX0_cells_30 rfl rfl dX0_cells_1 ?_
  refine lv_aload_n S.1 S.2.1 dX0_cells_4 rfl (lv_at hl 0 rfl) ?_
  refine zr_get (v := .int (G t 1)) S K X (ht.2 0 (by decide)) (xE_C ht) rfl uX0_cells_X0 1 (by decide) kX0_cells_34 rfl rfl dX0_cells_5 ?_
  refine lv_imul S.1 S.2.1 dX0_cells_8 ?_
  refine lv_bipush (v := (30 : Int32)) S.1 S.2.1 dX0_cells_9 (by decide) ?_
  refine va_mmin S.1 S.2.1 (S.2.2.1.trans hl.1.symm) S.2.2.2.1 (S.2.2.2.2 _ jX0_cells_min_l) (S.2.2.2.2 _ jX0_cells_min_s) (S.2.2.2.2 _ jX0_cells_min_i) (S.2.2.2.2 _ jX0_cells_min_c) (Nat.le_of_ble_eq_true rfl) (Nat.le_of_ble_eq_true rfl) (Nat.zero_le _) (Nat.zero_le _) dX0_cells_11 ?_
  exact zr_iret S hr hlk X h dX0_cells_14
set_option maxRecDepth 20000 in
theorem kX0_cellOfIsle_9 : Cond.fieldLink RX0 9 "WindPost$Chart" "isleCells" "[I" ∈ wsX0_cellOfIsle := by decide +kernel
set_option maxRecDepth 20000 in
theorem uX0_cellOfIsle_X0 : ∀ w ∈ wsX00, w ∈ wsX0_cellOfIsle := by decide +kernel
set_option maxHeartbeats 8000000 in
set_option maxRecDepth 100000 in
theorem mX0_cellOfIsle (l : Launch) (D : va_G) (ki : Nat → ClassId) (ad : Nat → Nat) (cs : List Nat) (N : Nat) (t : Nat) (a1 : Int32) (ht : kC cs t) (G : zMem) (tr : Int64) : gMetI l D ki ad cs yX0_cellOfIsle wsX0_cellOfIsle { frames := 0, cells := 0, slots := 0, locals := 0 } [.ref (ad t), .int a1] (xE ki ad) G tr (fX0_cellOfIsle N t a1 G tr) := by
  refine gMetI_of (cc := cX0_cellOfIsle) (maxL := 2) (ret := (some .int)) (own := RX0) (by decide +kernel) rfl rfl (Nat.le_of_ble_eq_true rfl) ?_
  intro r9 G9 tr9 h p e s m below meth c S hr hlk K X ls hl
  have hl : lv_has ls 2 [(0, .ref (ad t)), (1, .int a1)] := hl
  unfold fX0_cellOfIsle at h
  obtain ⟨H, hH⟩ : ∃ H, H = s.heap := ⟨_, rfl⟩
  obtain ⟨locs, hlo⟩ : ∃ locs : List Loc, locs = [] := ⟨_, rfl⟩
  have X : gS D cs ad ((xE ki ad) G tr) (gA cs ad s.heap.size) s H locs := by rw [hH, hlo]; exact X
  suffices z : W p l e (headSpec wsX0_cellOfIsle { frames := 0, cells := 0, slots := 0, locals := 0 }).room s m ([.ref (ad t), .int a1] : List Value).toArray below meth c H locs 0 0 (zQI below ([.ref (ad t), .int a1] : List Value).toArray s D cs ad ((xE ki ad) G9 tr9) r9) (F0 m 0 ls []) by rw [hH, hlo] at z; exact z
  clear hH hlo
  refine lv_iload_n S.1 S.2.1 dX0_cellOfIsle_0 rfl (lv_at hl 1 rfl) ?_
  refine lv_if_lt (tgt := 19) S.1 S.2.1 dX0_cellOfIsle_1 (by decide) (fun hc_1 => ?_) (fun hc_1 => ?_)
  · have h := zif_pos hc_1 h
    refine lv_iconst (v := (0 : Int32)) S.1 S.2.1 dX0_cellOfIsle_19 (by decide) ?_
    exact zr_iret S hr hlk X h dX0_cellOfIsle_20
  · have h := zif_neg hc_1 h
    refine lv_iload_n S.1 S.2.1 dX0_cellOfIsle_4 rfl (lv_at hl 1 rfl) ?_
    refine lv_bipush (v := (6 : Int32)) S.1 S.2.1 dX0_cellOfIsle_5 (by decide) ?_
    refine lv_icmp_ge (tgt := 19) S.1 S.2.1 dX0_cellOfIsle_7 (by decide) (fun hc_2 => ?_) (fun hc_2 => ?_)
    · have h := zif_pos hc_2 h
      refine lv_iconst (v := (0 : Int32)) S.1 S.2.1 dX0_cellOfIsle_19 (by decide) ?_
      exact zr_iret S hr hlk X h dX0_cellOfIsle_20
    · have h := zif_neg hc_2 h
      refine lv_aload_n S.1 S.2.1 dX0_cellOfIsle_10 rfl (lv_at hl 0 rfl) ?_
      refine zr_get (v := .ref (ad (t + 1))) S K X (ht.2 0 (by decide)) (xE_C ht) rfl uX0_cellOfIsle_X0 6 (by decide) kX0_cellOfIsle_9 rfl rfl dX0_cellOfIsle_11 ?_
      refine lv_iload_n S.1 S.2.1 dX0_cellOfIsle_14 rfl (lv_at hl 1 rfl) ?_
      obtain ⟨hi_3, h⟩ := zin_some h
      refine zr_iald S K X (ht.2 1 (by decide)) (xE_C1 ht) hi_3 dX0_cellOfIsle_15 ?_
      refine lv_goto (tgt := 20) S.1 S.2.1 dX0_cellOfIsle_16 (by decide) ?_
      exact zr_iret S hr hlk X h dX0_cellOfIsle_20
set_option maxRecDepth 20000 in
theorem kX0_onCell_15 : Cond.fieldLink RX0 15 "WindPost$Chart" "holds" "[I" ∈ wsX0_onCell := by decide +kernel
set_option maxRecDepth 20000 in
theorem uX0_onCell_X0 : ∀ w ∈ wsX00, w ∈ wsX0_onCell := by decide +kernel
set_option maxHeartbeats 8000000 in
set_option maxRecDepth 100000 in
theorem mX0_onCell (l : Launch) (D : va_G) (ki : Nat → ClassId) (ad : Nat → Nat) (cs : List Nat) (N : Nat) (t : Nat) (a1 : Int32) (ht : kC cs t) (G : zMem) (tr : Int64) : gMetI l D ki ad cs yX0_onCell wsX0_onCell { frames := 0, cells := 0, slots := 0, locals := 0 } [.ref (ad t), .int a1] (xE ki ad) G tr (fX0_onCell N t a1 G tr) := by
  refine gMetI_of (cc := cX0_onCell) (maxL := 2) (ret := (some .int)) (own := RX0) (by decide +kernel) rfl rfl (Nat.le_of_ble_eq_true rfl) ?_
  intro r9 G9 tr9 h p e s m below meth c S hr hlk K X ls hl
  have hl : lv_has ls 2 [(0, .ref (ad t)), (1, .int a1)] := hl
  unfold fX0_onCell at h
  obtain ⟨H, hH⟩ : ∃ H, H = s.heap := ⟨_, rfl⟩
  obtain ⟨locs, hlo⟩ : ∃ locs : List Loc, locs = [] := ⟨_, rfl⟩
  have X : gS D cs ad ((xE ki ad) G tr) (gA cs ad s.heap.size) s H locs := by rw [hH, hlo]; exact X
  suffices z : W p l e (headSpec wsX0_onCell { frames := 0, cells := 0, slots := 0, locals := 0 }).room s m ([.ref (ad t), .int a1] : List Value).toArray below meth c H locs 0 0 (zQI below ([.ref (ad t), .int a1] : List Value).toArray s D cs ad ((xE ki ad) G9 tr9) r9) (F0 m 0 ls []) by rw [hH, hlo] at z; exact z
  clear hH hlo
  refine lv_iload_n S.1 S.2.1 dX0_onCell_0 rfl (lv_at hl 1 rfl) ?_
  refine lv_if_lt (tgt := 19) S.1 S.2.1 dX0_onCell_1 (by decide) (fun hc_1 => ?_) (fun hc_1 => ?_)
  · have h := zif_pos hc_1 h
    refine lv_bipush (v := (-9 : Int32)) S.1 S.2.1 dX0_onCell_19 (by decide) ?_
    exact zr_iret S hr hlk X h dX0_onCell_21
  · have h := zif_neg hc_1 h
    refine lv_iload_n S.1 S.2.1 dX0_onCell_4 rfl (lv_at hl 1 rfl) ?_
    refine lv_bipush (v := (30 : Int32)) S.1 S.2.1 dX0_onCell_5 (by decide) ?_
    refine lv_icmp_ge (tgt := 19) S.1 S.2.1 dX0_onCell_7 (by decide) (fun hc_2 => ?_) (fun hc_2 => ?_)
    · have h := zif_pos hc_2 h
      refine lv_bipush (v := (-9 : Int32)) S.1 S.2.1 dX0_onCell_19 (by decide) ?_
      exact zr_iret S hr hlk X h dX0_onCell_21
    · have h := zif_neg hc_2 h
      refine lv_aload_n S.1 S.2.1 dX0_onCell_10 rfl (lv_at hl 0 rfl) ?_
      refine zr_get (v := .ref (ad (t + 2))) S K X (ht.2 0 (by decide)) (xE_C ht) rfl uX0_onCell_X0 7 (by decide) kX0_onCell_15 rfl rfl dX0_onCell_11 ?_
      refine lv_iload_n S.1 S.2.1 dX0_onCell_14 rfl (lv_at hl 1 rfl) ?_
      obtain ⟨hi_3, h⟩ := zin_some h
      refine zr_iald S K X (ht.2 2 (by decide)) (xE_C2 ht) hi_3 dX0_onCell_15 ?_
      refine lv_goto (tgt := 21) S.1 S.2.1 dX0_onCell_16 (by decide) ?_
      exact zr_iret S hr hlk X h dX0_onCell_21
set_option maxRecDepth 20000 in
theorem kX0_beside_30 : Cond.fieldLink RX0 30 "WindPost$Chart" "wide" "I" ∈ wsX0_beside := by decide +kernel
set_option maxRecDepth 20000 in
theorem kX0_beside_34 : Cond.fieldLink RX0 34 "WindPost$Chart" "high" "I" ∈ wsX0_beside := by decide +kernel
set_option maxRecDepth 20000 in
theorem uX0_beside_X0 : ∀ w ∈ wsX00, w ∈ wsX0_beside := by decide +kernel
set_option maxHeartbeats 8000000 in
set_option maxRecDepth 100000 in
theorem mX0_beside (l : Launch) (D : va_G) (ki : Nat → ClassId) (ad : Nat → Nat) (cs : List Nat) (N : Nat) (t : Nat) (a1 : Int32) (a2 : Int32) (ht : kC cs t) (G : zMem) (tr : Int64) : gMetI l D ki ad cs yX0_beside wsX0_beside { frames := 0, cells := 0, slots := 0, locals := 0 } [.ref (ad t), .int a1, .int a2] (xE ki ad) G tr (fX0_beside N t a1 a2 G tr) := by
  refine gMetI_of (cc := cX0_beside) (maxL := 5) (ret := (some .int)) (own := RX0) (by decide +kernel) rfl rfl (Nat.le_of_ble_eq_true rfl) ?_
  intro r9 G9 tr9 h p e s m below meth c S hr hlk K X ls hl
  have hl : lv_has ls 5 [(0, .ref (ad t)), (1, .int a1), (2, .int a2)] := hl
  unfold fX0_beside at h
  obtain ⟨H, hH⟩ : ∃ H, H = s.heap := ⟨_, rfl⟩
  obtain ⟨locs, hlo⟩ : ∃ locs : List Loc, locs = [] := ⟨_, rfl⟩
  have X : gS D cs ad ((xE ki ad) G tr) (gA cs ad s.heap.size) s H locs := by rw [hH, hlo]; exact X
  suffices z : W p l e (headSpec wsX0_beside { frames := 0, cells := 0, slots := 0, locals := 0 }).room s m ([.ref (ad t), .int a1, .int a2] : List Value).toArray below meth c H locs 0 0 (zQI below ([.ref (ad t), .int a1, .int a2] : List Value).toArray s D cs ad ((xE ki ad) G9 tr9) r9) (F0 m 0 ls []) by rw [hH, hlo] at z; exact z
  clear hH hlo
  refine lv_aload_n S.1 S.2.1 dX0_beside_0 rfl (lv_at hl 0 rfl) ?_
  refine zr_get (v := .int (G t 0)) S K X (ht.2 0 (by decide)) (xE_C ht) rfl uX0_beside_X0 0 (by decide) kX0_beside_30 rfl rfl dX0_beside_1 ?_
  refine lv_iconst (v := (1 : Int32)) S.1 S.2.1 dX0_beside_4 (by decide) ?_
  refine lv_icmp_ge (tgt := 10) S.1 S.2.1 dX0_beside_5 (by decide) (fun hc_1 => ?_) (fun hc_1 => ?_)
  · have h := zif_pos hc_1 h
    refine lv_aload_n S.1 S.2.1 dX0_beside_10 rfl (lv_at hl 0 rfl) ?_
    refine zr_get (v := .int (G t 0)) S K X (ht.2 0 (by decide)) (xE_C ht) rfl uX0_beside_X0 0 (by decide) kX0_beside_30 rfl rfl dX0_beside_11 ?_
    refine lv_aload_n S.1 S.2.1 dX0_beside_14 rfl (lv_at hl 0 rfl) ?_
    refine zr_get (v := .int (G t 1)) S K X (ht.2 0 (by decide)) (xE_C ht) rfl uX0_beside_X0 1 (by decide) kX0_beside_34 rfl rfl dX0_beside_15 ?_
    refine lv_imul S.1 S.2.1 dX0_beside_18 ?_
    refine lv_istore_n (lv' := [(3, .int ((G t 0) * (G t 1))), (0, .ref (ad t)), (1, .int a1), (2, .int a2)]) S.1 S.2.1 dX0_beside_19 rfl hl (by decide) rfl (fun ls hl => ?_)
    refine lv_iload_n S.1 S.2.1 dX0_beside_20 rfl (lv_at hl 2 rfl) ?_
    refine lv_aload_n S.1 S.2.1 dX0_beside_21 rfl (lv_at hl 1 rfl) ?_
    refine zr_get (v := .int (G t 0)) S K X (ht.2 0 (by decide)) (xE_C ht) rfl uX0_beside_X0 0 (by decide) kX0_beside_30 rfl rfl dX0_beside_22 ?_
    obtain ⟨hz_2, h⟩ := zdv_some h
    refine lv_irem S.1 S.2.1 dX0_beside_25 hz_2 ?_
    refine lv_istore (lv' := [(4, .int (a1 - a1 / (G t 0) * (G t 0))), (3, .int ((G t 0) * (G t 1))), (0, .ref (ad t)), (1, .int a1), (2, .int a2)]) S.1 S.2.1 dX0_beside_26 hl (by decide) rfl (fun ls hl => ?_)
    refine lv_iload_n S.1 S.2.1 dX0_beside_28 rfl (lv_at hl 4 rfl) ?_
    by_cases hc_3 : a2 = 0
    · have h := zif_pos hc_3 h
      refine zr_swIn (tgt := 60) S hc_3 dX0_beside_29 (by decide) ?_
      refine lv_iload_n S.1 S.2.1 dX0_beside_60 rfl (lv_at hl 3 rfl) ?_
      refine lv_aload_n S.1 S.2.1 dX0_beside_61 rfl (lv_at hl 2 rfl) ?_
      refine zr_get (v := .int (G t 0)) S K X (ht.2 0 (by decide)) (xE_C ht) rfl uX0_beside_X0 0 (by decide) kX0_beside_30 rfl rfl dX0_beside_62 ?_
      refine lv_icmp_lt (tgt := 77) S.1 S.2.1 dX0_beside_65 (by decide) (fun hc_4 => ?_) (fun hc_4 => ?_)
      · have h := zif_pos hc_4 h
        refine lv_iload_n S.1 S.2.1 dX0_beside_77 rfl (lv_at hl 3 rfl) ?_
        refine lv_aload_n S.1 S.2.1 dX0_beside_78 rfl (lv_at hl 2 rfl) ?_
        refine zr_get (v := .int (G t 0)) S K X (ht.2 0 (by decide)) (xE_C ht) rfl uX0_beside_X0 0 (by decide) kX0_beside_30 rfl rfl dX0_beside_79 ?_
        refine lv_isub S.1 S.2.1 dX0_beside_82 ?_
        refine lv_iload_n S.1 S.2.1 dX0_beside_83 rfl (lv_at hl 1 rfl) ?_
        refine lv_iadd S.1 S.2.1 dX0_beside_84 ?_
        exact zr_iret S hr hlk X h dX0_beside_85
      · have h := zif_neg hc_4 h
        refine lv_iload_n S.1 S.2.1 dX0_beside_68 rfl (lv_at hl 3 rfl) ?_
        refine lv_aload_n S.1 S.2.1 dX0_beside_69 rfl (lv_at hl 2 rfl) ?_
        refine zr_get (v := .int (G t 0)) S K X (ht.2 0 (by decide)) (xE_C ht) rfl uX0_beside_X0 0 (by decide) kX0_beside_30 rfl rfl dX0_beside_70 ?_
        refine lv_isub S.1 S.2.1 dX0_beside_73 ?_
        refine lv_goto (tgt := 85) S.1 S.2.1 dX0_beside_74 (by decide) ?_
        exact zr_iret S hr hlk X h dX0_beside_85
    have h := zif_neg hc_3 h
    by_cases hc_5 : a2 = 1
    · have h := zif_pos hc_5 h
      refine zr_swIn (tgt := 86) S hc_5 dX0_beside_29 (by decide) ?_
      refine lv_iload S.1 S.2.1 dX0_beside_86 (lv_at hl 0 rfl) ?_
      refine lv_aload_n S.1 S.2.1 dX0_beside_88 rfl (lv_at hl 2 rfl) ?_
      refine zr_get (v := .int (G t 0)) S K X (ht.2 0 (by decide)) (xE_C ht) rfl uX0_beside_X0 0 (by decide) kX0_beside_30 rfl rfl dX0_beside_89 ?_
      refine lv_iconst (v := (1 : Int32)) S.1 S.2.1 dX0_beside_92 (by decide) ?_
      refine lv_isub S.1 S.2.1 dX0_beside_93 ?_
      refine lv_icmp_ge (tgt := 103) S.1 S.2.1 dX0_beside_94 (by decide) (fun hc_6 => ?_) (fun hc_6 => ?_)
      · have h := zif_pos hc_6 h
        refine lv_iload_n S.1 S.2.1 dX0_beside_103 rfl (lv_at hl 3 rfl) ?_
        refine lv_iload S.1 S.2.1 dX0_beside_104 (lv_at hl 0 rfl) ?_
        refine lv_isub S.1 S.2.1 dX0_beside_106 ?_
        exact zr_iret S hr hlk X h dX0_beside_107
      · have h := zif_neg hc_6 h
        refine lv_iload_n S.1 S.2.1 dX0_beside_97 rfl (lv_at hl 3 rfl) ?_
        refine lv_iconst (v := (1 : Int32)) S.1 S.2.1 dX0_beside_98 (by decide) ?_
        refine lv_iadd S.1 S.2.1 dX0_beside_99 ?_
        refine lv_goto (tgt := 107) S.1 S.2.1 dX0_beside_100 (by decide) ?_
        exact zr_iret S hr hlk X h dX0_beside_107
    have h := zif_neg hc_5 h
    by_cases hc_7 : a2 = 2
    · have h := zif_pos hc_7 h
      refine zr_swIn (tgt := 108) S hc_7 dX0_beside_29 (by decide) ?_
      refine lv_iload_n S.1 S.2.1 dX0_beside_108 rfl (lv_at hl 3 rfl) ?_
      refine lv_iload_n S.1 S.2.1 dX0_beside_109 rfl (lv_at hl 1 rfl) ?_
      refine lv_aload_n S.1 S.2.1 dX0_beside_110 rfl (lv_at hl 2 rfl) ?_
      refine zr_get (v := .int (G t 0)) S K X (ht.2 0 (by decide)) (xE_C ht) rfl uX0_beside_X0 0 (by decide) kX0_beside_30 rfl rfl dX0_beside_111 ?_
      refine lv_isub S.1 S.2.1 dX0_beside_114 ?_
      refine lv_icmp_ge (tgt := 127) S.1 S.2.1 dX0_beside_115 (by decide) (fun hc_8 => ?_) (fun hc_8 => ?_)
      · have h := zif_pos hc_8 h
        refine lv_iload_n S.1 S.2.1 dX0_beside_127 rfl (lv_at hl 3 rfl) ?_
        refine lv_aload_n S.1 S.2.1 dX0_beside_128 rfl (lv_at hl 2 rfl) ?_
        refine zr_get (v := .int (G t 0)) S K X (ht.2 0 (by decide)) (xE_C ht) rfl uX0_beside_X0 0 (by decide) kX0_beside_30 rfl rfl dX0_beside_129 ?_
        refine lv_iadd S.1 S.2.1 dX0_beside_132 ?_
        refine lv_iload_n S.1 S.2.1 dX0_beside_133 rfl (lv_at hl 1 rfl) ?_
        refine lv_isub S.1 S.2.1 dX0_beside_134 ?_
        exact zr_iret S hr hlk X h dX0_beside_135
      · have h := zif_neg hc_8 h
        refine lv_iload_n S.1 S.2.1 dX0_beside_118 rfl (lv_at hl 3 rfl) ?_
        refine lv_aload_n S.1 S.2.1 dX0_beside_119 rfl (lv_at hl 2 rfl) ?_
        refine zr_get (v := .int (G t 0)) S K X (ht.2 0 (by decide)) (xE_C ht) rfl uX0_beside_X0 0 (by decide) kX0_beside_30 rfl rfl dX0_beside_120 ?_
        refine lv_iadd S.1 S.2.1 dX0_beside_123 ?_
        refine lv_goto (tgt := 135) S.1 S.2.1 dX0_beside_124 (by decide) ?_
        exact zr_iret S hr hlk X h dX0_beside_135
    have h := zif_neg hc_7 h
    by_cases hc_9 : a2 = 3
    · have h := zif_pos hc_9 h
      refine zr_swIn (tgt := 136) S hc_9 dX0_beside_29 (by decide) ?_
      refine lv_iload S.1 S.2.1 dX0_beside_136 (lv_at hl 0 rfl) ?_
      refine lv_if_le (tgt := 147) S.1 S.2.1 dX0_beside_138 (by decide) (fun hc_10 => ?_) (fun hc_10 => ?_)
      · have h := zif_pos hc_10 h
        refine lv_iload_n S.1 S.2.1 dX0_beside_147 rfl (lv_at hl 3 rfl) ?_
        refine lv_aload_n S.1 S.2.1 dX0_beside_148 rfl (lv_at hl 2 rfl) ?_
        refine zr_get (v := .int (G t 0)) S K X (ht.2 0 (by decide)) (xE_C ht) rfl uX0_beside_X0 0 (by decide) kX0_beside_30 rfl rfl dX0_beside_149 ?_
        refine lv_iadd S.1 S.2.1 dX0_beside_152 ?_
        refine lv_iconst (v := (1 : Int32)) S.1 S.2.1 dX0_beside_153 (by decide) ?_
        refine lv_isub S.1 S.2.1 dX0_beside_154 ?_
        exact zr_iret S hr hlk X h dX0_beside_155
      · have h := zif_neg hc_10 h
        refine lv_iload_n S.1 S.2.1 dX0_beside_141 rfl (lv_at hl 3 rfl) ?_
        refine lv_iconst (v := (1 : Int32)) S.1 S.2.1 dX0_beside_142 (by decide) ?_
        refine lv_isub S.1 S.2.1 dX0_beside_143 ?_
        refine lv_goto (tgt := 155) S.1 S.2.1 dX0_beside_144 (by decide) ?_
        exact zr_iret S hr hlk X h dX0_beside_155
    have h := zif_neg hc_9 h
    refine lv_tableOut (tgt := 156) S.1 S.2.1 dX0_beside_29 (by
        have e0 := ztoInt_ne hc_3
        rw [show ((0 : Int32)).toInt = 0 from rfl] at e0
        have e1 := ztoInt_ne hc_5
        rw [show ((1 : Int32)).toInt = 1 from rfl] at e1
        have e2 := ztoInt_ne hc_7
        rw [show ((2 : Int32)).toInt = 2 from rfl] at e2
        have e3 := ztoInt_ne hc_9
        rw [show ((3 : Int32)).toInt = 3 from rfl] at e3
        omega) (by decide) ?_
    refine lv_iload_n S.1 S.2.1 dX0_beside_156 rfl (lv_at hl 3 rfl) ?_
    exact zr_iret S hr hlk X h dX0_beside_157
  · have h := zif_neg hc_1 h
    refine lv_iload_n S.1 S.2.1 dX0_beside_8 rfl (lv_at hl 1 rfl) ?_
    exact zr_iret S hr hlk X h dX0_beside_9
set_option maxRecDepth 20000 in
theorem kX0_drawWay_21 : Cond.fieldLink RX0 21 "WindPost$Chart" "ends" "[I" ∈ wsX0_drawWay := by decide +kernel
set_option maxRecDepth 20000 in
theorem uX0_drawWay_X0 : ∀ w ∈ wsX00, w ∈ wsX0_drawWay := by decide +kernel
set_option maxHeartbeats 8000000 in
set_option maxRecDepth 100000 in
theorem mX0_drawWay (l : Launch) (D : va_G) (ki : Nat → ClassId) (ad : Nat → Nat) (cs : List Nat) (N : Nat) (t : Nat) (a1 : Int32) (a2 : Int32) (ht : kC cs t) (G : zMem) (tr : Int64) : gMetV l D ki ad cs yX0_drawWay wsX0_drawWay { frames := 1, cells := 0, slots := 0, locals := 24 } [.ref (ad t), .int a1, .int a2] (xE ki ad) G tr (fX0_drawWay N t a1 a2 G tr) := by
  refine gMetV_of (cc := cX0_drawWay) (maxL := 7) (ret := none) (own := RX0) (by decide +kernel) rfl rfl (Nat.le_of_ble_eq_true rfl) ?_
  intro r9 G9 tr9 h p e s m below meth c S hr hlk K X ls hl
  have hl : lv_has ls 7 [(0, .ref (ad t)), (1, .int a1), (2, .int a2)] := hl
  have b40 : ∀ (k8 : Int32 → Int32 → Int32 → zMem → Int64 → zR) (hk8 : ∀ (x3 : Int32) (x4 : Int32) (x5 : Int32) (G : zMem) (tr : Int64), k8 x3 x4 x5 G tr = some (r9, G9, tr9) → zAt p l e (headSpec wsX0_drawWay { frames := 1, cells := 0, slots := 0, locals := 24 }).room s m ([.ref (ad t), .int a1, .int a2] : List Value).toArray below meth c 7 D cs ad (zQV below ([.ref (ad t), .int a1, .int a2] : List Value).toArray s D cs ad ((xE ki ad) G9 tr9)) 8 [(0, .ref (ad t)), (1, .int a1), (2, .int a2), (3, .int x3), (4, .int x4), (5, .int x5)] [] ((xE ki ad) G tr)) (x3 : Int32) (x4 : Int32) (x5 : Int32) (G : zMem) (tr : Int64), fX0_drawWay_b40 N t a1 a2 k8 x3 x4 x5 G tr = some (r9, G9, tr9) → zAt p l e (headSpec wsX0_drawWay { frames := 1, cells := 0, slots := 0, locals := 24 }).room s m ([.ref (ad t), .int a1, .int a2] : List Value).toArray below meth c 7 D cs ad (zQV below ([.ref (ad t), .int a1, .int a2] : List Value).toArray s D cs ad ((xE ki ad) G9 tr9)) 40 [(0, .ref (ad t)), (1, .int a1), (2, .int a2), (3, .int x3), (4, .int x4), (5, .int x5)] [] ((xE ki ad) G tr) := by
    intro k8 hk8 x3 x4 x5 G tr h H locs ls X hl
    unfold fX0_drawWay_b40 at h
    refine lv_aload_n S.1 S.2.1 dX0_drawWay_40 rfl (lv_at hl 0 rfl) ?_
    refine zr_get (v := .ref (ad (t + 4))) S K X (ht.2 0 (by decide)) (xE_C ht) rfl uX0_drawWay_X0 9 (by decide) kX0_drawWay_21 rfl rfl dX0_drawWay_41 ?_
    refine lv_iload S.1 S.2.1 dX0_drawWay_44 (lv_at hl 5 rfl) ?_
    refine lv_iconst (v := (1 : Int32)) S.1 S.2.1 dX0_drawWay_46 (by decide) ?_
    refine lv_isub S.1 S.2.1 dX0_drawWay_47 ?_
    refine lv_iconst (v := (4 : Int32)) S.1 S.2.1 dX0_drawWay_48 (by decide) ?_
    refine lv_imul S.1 S.2.1 dX0_drawWay_49 ?_
    refine lv_iload_n S.1 S.2.1 dX0_drawWay_50 rfl (lv_at hl 1 rfl) ?_
    refine lv_iadd S.1 S.2.1 dX0_drawWay_51 ?_
    refine lv_bipush (v := (30 : Int32)) S.1 S.2.1 dX0_drawWay_52 (by decide) ?_
    refine lv_imul S.1 S.2.1 dX0_drawWay_54 ?_
    refine lv_iload_n S.1 S.2.1 dX0_drawWay_55 rfl (lv_at hl 2 rfl) ?_
    refine lv_iadd S.1 S.2.1 dX0_drawWay_56 ?_
    refine lv_iload S.1 S.2.1 dX0_drawWay_57 (lv_at hl 4 rfl) ?_
    obtain ⟨hi_1, h⟩ := zin_some h
    refine zr_iast S K X (ht.2 4 (by decide)) xE_loc (fun _ => (xE_C4 ht)) hi_1 dX0_drawWay_59 (fun H locs X => ?_)
    refine lv_iinc (v := (x5 + 1)) (lv' := [(5, .int (x5 + 1)), (0, .ref (ad t)), (1, .int a1), (2, .int a2), (3, .int x3), (4, .int x4)]) S.1 S.2.1 dX0_drawWay_60 hl (k := 5) rfl rfl (by decide) rfl (fun ls hl => ?_)
    refine lv_goto (tgt := 8) S.1 S.2.1 dX0_drawWay_63 (by decide) ?_
    exact hk8 x3 x4 (x5 + 1) (up2 G (t + 4) (Int32.toNatClampNeg (((((x5 - (1 : Int32)) * (4 : Int32)) + a1) * (30 : Int32)) + a2)) x4) tr h _ _ _ X (lv_sub hl [1, 2, 3, 4, 5, 0] rfl)
  have b8 : ∀ (k8 : Int32 → Int32 → Int32 → zMem → Int64 → zR) (hk8 : ∀ (x3 : Int32) (x4 : Int32) (x5 : Int32) (G : zMem) (tr : Int64), k8 x3 x4 x5 G tr = some (r9, G9, tr9) → zAt p l e (headSpec wsX0_drawWay { frames := 1, cells := 0, slots := 0, locals := 24 }).room s m ([.ref (ad t), .int a1, .int a2] : List Value).toArray below meth c 7 D cs ad (zQV below ([.ref (ad t), .int a1, .int a2] : List Value).toArray s D cs ad ((xE ki ad) G9 tr9)) 8 [(0, .ref (ad t)), (1, .int a1), (2, .int a2), (3, .int x3), (4, .int x4), (5, .int x5)] [] ((xE ki ad) G tr)) (x3 : Int32) (x4 : Int32) (x5 : Int32) (G : zMem) (tr : Int64), fX0_drawWay_b8 N t a1 a2 k8 x3 x4 x5 G tr = some (r9, G9, tr9) → zAt p l e (headSpec wsX0_drawWay { frames := 1, cells := 0, slots := 0, locals := 24 }).room s m ([.ref (ad t), .int a1, .int a2] : List Value).toArray below meth c 7 D cs ad (zQV below ([.ref (ad t), .int a1, .int a2] : List Value).toArray s D cs ad ((xE ki ad) G9 tr9)) 8 [(0, .ref (ad t)), (1, .int a1), (2, .int a2), (3, .int x3), (4, .int x4), (5, .int x5)] [] ((xE ki ad) G tr) := by
    intro k8 hk8 x3 x4 x5 G tr h H locs ls X hl
    unfold fX0_drawWay_b8 at h
    refine lv_iload S.1 S.2.1 dX0_drawWay_8 (lv_at hl 5 rfl) ?_
    refine lv_iconst (v := (5 : Int32)) S.1 S.2.1 dX0_drawWay_10 (by decide) ?_
    refine lv_icmp_gt (tgt := 66) S.1 S.2.1 dX0_drawWay_11 (by decide) (fun hc_1 => ?_) (fun hc_1 => ?_)
    · have h := zif_pos hc_1 h
      exact zr_vret S hr hlk X h dX0_drawWay_66
    · have h := zif_neg hc_1 h
      refine lv_aload_n S.1 S.2.1 dX0_drawWay_14 rfl (lv_at hl 0 rfl) ?_
      refine lv_iload_n S.1 S.2.1 dX0_drawWay_15 rfl (lv_at hl 3 rfl) ?_
      refine lv_iload_n S.1 S.2.1 dX0_drawWay_16 rfl (lv_at hl 1 rfl) ?_
      obtain ⟨r_3, G_4, tr_5, hf_2, h⟩ := zbd_some h
      refine zr_calli (Eg := (xE ki ad)) K X (va_runV (As := [.int x3, .int a1]) (rest := []) S (mX0_beside l D ki ad cs  N t x3 a1 ht G tr H.size _ _ _ hf_2) (cwV 2 S.2.2.2.2 gX0_drawWay_X0_beside rfl rfl rfl (by decide +kernel) ⟨Nat.le_of_ble_eq_true rfl, Nat.le_of_ble_eq_true rfl⟩) (zr_preV (c0 := t) K X (ht.2 0 (by decide)) (xE_C ht) rfl) rfl rfl hl.1 rfl (lv_room (Nat.le_of_ble_eq_true rfl)) dX0_drawWay_17 ⟨Nat.zero_le _, Nat.zero_le _⟩) (fun H locs X => ?_)
      refine lv_istore (lv' := [(6, .int r_3), (0, .ref (ad t)), (1, .int a1), (2, .int a2), (3, .int x3), (4, .int x4), (5, .int x5)]) S.1 S.2.1 dX0_drawWay_20 hl (by decide) rfl (fun ls hl => ?_)
      refine lv_aload_n S.1 S.2.1 dX0_drawWay_22 rfl (lv_at hl 1 rfl) ?_
      refine lv_iload S.1 S.2.1 dX0_drawWay_23 (lv_at hl 0 rfl) ?_
      obtain ⟨r_7, G_8, tr_9, hf_6, h⟩ := zbd_some h
      refine zr_calli (Eg := (xE ki ad)) K X (va_runV (As := [.int r_3]) (rest := []) S (mX0_onCell l D ki ad cs  N t r_3 ht G_4 tr_5 H.size _ _ _ hf_6) (cwV 1 S.2.2.2.2 gX0_drawWay_X0_onCell rfl rfl rfl (by decide +kernel) ⟨Nat.le_of_ble_eq_true rfl, Nat.le_of_ble_eq_true rfl⟩) (zr_preV (c0 := t) K X (ht.2 0 (by decide)) (xE_C ht) rfl) rfl rfl hl.1 rfl (lv_room (Nat.le_of_ble_eq_true rfl)) dX0_drawWay_25 ⟨Nat.zero_le _, Nat.zero_le _⟩) (fun H locs X => ?_)
      refine lv_bipush (v := (-5 : Int32)) S.1 S.2.1 dX0_drawWay_28 (by decide) ?_
      refine lv_icmp_eq (tgt := 40) S.1 S.2.1 dX0_drawWay_30 (by decide) (fun hc_10 => ?_) (fun hc_10 => ?_)
      · have h := zif_pos hc_10 h
        exact b40 k8 hk8 x3 x4 x5 G_8 tr_9 h _ _ _ X (lv_sub hl [1, 2, 3, 4, 5, 6] rfl)
      · have h := zif_neg hc_10 h
        refine lv_iload S.1 S.2.1 dX0_drawWay_33 (lv_at hl 0 rfl) ?_
        refine lv_istore_n (lv' := [(3, .int r_3), (6, .int r_3), (0, .ref (ad t)), (1, .int a1), (2, .int a2), (4, .int x4), (5, .int x5)]) S.1 S.2.1 dX0_drawWay_35 rfl hl (by decide) rfl (fun ls hl => ?_)
        refine lv_iload S.1 S.2.1 dX0_drawWay_36 (lv_at hl 1 rfl) ?_
        refine lv_istore (lv' := [(4, .int r_3), (3, .int r_3), (6, .int r_3), (0, .ref (ad t)), (1, .int a1), (2, .int a2), (5, .int x5)]) S.1 S.2.1 dX0_drawWay_38 hl (by decide) rfl (fun ls hl => ?_)
        exact b40 k8 hk8 r_3 r_3 x5 G_8 tr_9 h _ _ _ X (lv_sub hl [3, 4, 5, 1, 0, 6] rfl)
  have L8 : ∀ (n : Nat) (x3 : Int32) (x4 : Int32) (x5 : Int32) (G : zMem) (tr : Int64), fX0_drawWay_L8 N t a1 a2 n x3 x4 x5 G tr = some (r9, G9, tr9) → zAt p l e (headSpec wsX0_drawWay { frames := 1, cells := 0, slots := 0, locals := 24 }).room s m ([.ref (ad t), .int a1, .int a2] : List Value).toArray below meth c 7 D cs ad (zQV below ([.ref (ad t), .int a1, .int a2] : List Value).toArray s D cs ad ((xE ki ad) G9 tr9)) 8 [(0, .ref (ad t)), (1, .int a1), (2, .int a2), (3, .int x3), (4, .int x4), (5, .int x5)] [] ((xE ki ad) G tr) := by
    intro n
    induction n with
    | zero => intro x3 x4 x5 G tr h; cases h
    | succ n ih => intro x3 x4 x5 G tr h; exact b8 (fX0_drawWay_L8 N t a1 a2 n) ih x3 x4 x5 G tr h
  unfold fX0_drawWay at h
  obtain ⟨H, hH⟩ : ∃ H, H = s.heap := ⟨_, rfl⟩
  obtain ⟨locs, hlo⟩ : ∃ locs : List Loc, locs = [] := ⟨_, rfl⟩
  have X : gS D cs ad ((xE ki ad) G tr) (gA cs ad s.heap.size) s H locs := by rw [hH, hlo]; exact X
  suffices z : W p l e (headSpec wsX0_drawWay { frames := 1, cells := 0, slots := 0, locals := 24 }).room s m ([.ref (ad t), .int a1, .int a2] : List Value).toArray below meth c H locs 0 0 (zQV below ([.ref (ad t), .int a1, .int a2] : List Value).toArray s D cs ad ((xE ki ad) G9 tr9)) (F0 m 0 ls []) by rw [hH, hlo] at z; exact z
  clear hH hlo
  refine lv_iload_n S.1 S.2.1 dX0_drawWay_0 rfl (lv_at hl 2 rfl) ?_
  refine lv_istore_n (lv' := [(3, .int a2), (0, .ref (ad t)), (1, .int a1), (2, .int a2)]) S.1 S.2.1 dX0_drawWay_1 rfl hl (by decide) rfl (fun ls hl => ?_)
  refine lv_iconst (v := (-1 : Int32)) S.1 S.2.1 dX0_drawWay_2 (by decide) ?_
  refine lv_istore (lv' := [(4, .int (-1 : Int32)), (3, .int a2), (0, .ref (ad t)), (1, .int a1), (2, .int a2)]) S.1 S.2.1 dX0_drawWay_3 hl (by decide) rfl (fun ls hl => ?_)
  refine lv_iconst (v := (1 : Int32)) S.1 S.2.1 dX0_drawWay_5 (by decide) ?_
  refine lv_istore (lv' := [(5, .int (1 : Int32)), (4, .int (-1 : Int32)), (3, .int a2), (0, .ref (ad t)), (1, .int a1), (2, .int a2)]) S.1 S.2.1 dX0_drawWay_6 hl (by decide) rfl (fun ls hl => ?_)
  exact L8 N a2 (-1 : Int32) (1 : Int32) G tr h _ _ _ X (lv_sub hl [3, 4, 5, 2, 1, 0] rfl)

set_option maxHeartbeats 8000000 in
set_option maxRecDepth 100000 in
theorem mX0_drawEnds (l : Launch) (D : va_G) (ki : Nat → ClassId) (ad : Nat → Nat) (cs : List Nat) (N : Nat) (t : Nat) (ht : kC cs t) (G : zMem) (tr : Int64) : gMetV l D ki ad cs yX0_drawEnds wsX0_drawEnds { frames := 2, cells := 0, slots := 0, locals := 50 } [.ref (ad t)] (xE ki ad) G tr (fX0_drawEnds N t G tr) := by
  refine gMetV_of (cc := cX0_drawEnds) (maxL := 3) (ret := none) (own := RX0) (by decide +kernel) rfl rfl (Nat.le_of_ble_eq_true rfl) ?_
  intro r9 G9 tr9 h p e s m below meth c S hr hlk K X ls hl
  have hl : lv_has ls 3 [(0, .ref (ad t))] := hl
  have b9 : ∀ (k2 : Int32 → zMem → Int64 → zR) (hk2 : ∀ (x1 : Int32) (G : zMem) (tr : Int64), k2 x1 G tr = some (r9, G9, tr9) → zAt p l e (headSpec wsX0_drawEnds { frames := 2, cells := 0, slots := 0, locals := 50 }).room s m ([.ref (ad t)] : List Value).toArray below meth c 3 D cs ad (zQV below ([.ref (ad t)] : List Value).toArray s D cs ad ((xE ki ad) G9 tr9)) 2 [(0, .ref (ad t)), (1, .int x1)] [] ((xE ki ad) G tr)) (k9 : Int32 → Int32 → zMem → Int64 → zR) (hk9 : ∀ (x1 : Int32) (x2 : Int32) (G : zMem) (tr : Int64), k9 x1 x2 G tr = some (r9, G9, tr9) → zAt p l e (headSpec wsX0_drawEnds { frames := 2, cells := 0, slots := 0, locals := 50 }).room s m ([.ref (ad t)] : List Value).toArray below meth c 3 D cs ad (zQV below ([.ref (ad t)] : List Value).toArray s D cs ad ((xE ki ad) G9 tr9)) 9 [(0, .ref (ad t)), (1, .int x1), (2, .int x2)] [] ((xE ki ad) G tr)) (x1 : Int32) (x2 : Int32) (G : zMem) (tr : Int64), fX0_drawEnds_b9 N t k2 k9 x1 x2 G tr = some (r9, G9, tr9) → zAt p l e (headSpec wsX0_drawEnds { frames := 2, cells := 0, slots := 0, locals := 50 }).room s m ([.ref (ad t)] : List Value).toArray below meth c 3 D cs ad (zQV below ([.ref (ad t)] : List Value).toArray s D cs ad ((xE ki ad) G9 tr9)) 9 [(0, .ref (ad t)), (1, .int x1), (2, .int x2)] [] ((xE ki ad) G tr) := by
    intro k2 hk2 k9 hk9 x1 x2 G tr h H locs ls X hl
    unfold fX0_drawEnds_b9 at h
    refine lv_iload_n S.1 S.2.1 dX0_drawEnds_9 rfl (lv_at hl 2 rfl) ?_
    refine lv_aload_n S.1 S.2.1 dX0_drawEnds_10 rfl (lv_at hl 0 rfl) ?_
    obtain ⟨r_2, G_3, tr_4, hf_1, h⟩ := zbd_some h
    refine zr_calli (Eg := (xE ki ad)) K X (va_runV (As := []) (rest := [.int x2]) S (mX0_cells l D ki ad cs  N t ht G tr H.size _ _ _ hf_1) (cwV 0 S.2.2.2.2 gX0_drawEnds_X0_cells rfl rfl rfl (by decide +kernel) ⟨Nat.le_of_ble_eq_true rfl, Nat.le_of_ble_eq_true rfl⟩) (zr_preV (c0 := t) K X (ht.2 0 (by decide)) (xE_C ht) rfl) rfl rfl hl.1 rfl (lv_room (Nat.le_of_ble_eq_true rfl)) dX0_drawEnds_11 ⟨Nat.zero_le _, Nat.zero_le _⟩) (fun H locs X => ?_)
    refine lv_icmp_ge (tgt := 29) S.1 S.2.1 dX0_drawEnds_14 (by decide) (fun hc_5 => ?_) (fun hc_5 => ?_)
    · have h := zif_pos hc_5 h
      refine lv_iinc (v := (x1 + 1)) (lv' := [(1, .int (x1 + 1)), (0, .ref (ad t)), (2, .int x2)]) S.1 S.2.1 dX0_drawEnds_29 hl (k := 1) rfl rfl (by decide) rfl (fun ls hl => ?_)
      refine lv_goto (tgt := 2) S.1 S.2.1 dX0_drawEnds_32 (by decide) ?_
      exact hk2 (x1 + 1) G_3 tr_4 h _ _ _ X (lv_sub hl [1, 0] rfl)
    · have h := zif_neg hc_5 h
      refine lv_aload_n S.1 S.2.1 dX0_drawEnds_17 rfl (lv_at hl 0 rfl) ?_
      refine lv_iload_n S.1 S.2.1 dX0_drawEnds_18 rfl (lv_at hl 1 rfl) ?_
      refine lv_iload_n S.1 S.2.1 dX0_drawEnds_19 rfl (lv_at hl 2 rfl) ?_
      obtain ⟨r_7, G_8, tr_9, hf_6, h⟩ := zbd_some h
      refine zr_callv (Eg := (xE ki ad)) K X (va_runV (As := [.int x1, .int x2]) (rest := []) S (mX0_drawWay l D ki ad cs  N t x1 x2 ht G_3 tr_4 H.size _ _ _ hf_6) (cwV 2 S.2.2.2.2 gX0_drawEnds_X0_drawWay rfl rfl rfl (by decide +kernel) ⟨Nat.le_of_ble_eq_true rfl, Nat.le_of_ble_eq_true rfl⟩) (zr_preV (c0 := t) K X (ht.2 0 (by decide)) (xE_C ht) rfl) rfl rfl hl.1 rfl (lv_room (Nat.le_of_ble_eq_true rfl)) dX0_drawEnds_20 ⟨Nat.zero_le _, Nat.zero_le _⟩) (fun H locs X => ?_)
      refine lv_iinc (v := (x2 + 1)) (lv' := [(2, .int (x2 + 1)), (0, .ref (ad t)), (1, .int x1)]) S.1 S.2.1 dX0_drawEnds_23 hl (k := 2) rfl rfl (by decide) rfl (fun ls hl => ?_)
      refine lv_goto (tgt := 9) S.1 S.2.1 dX0_drawEnds_26 (by decide) ?_
      exact hk9 x1 (x2 + 1) G_8 tr_9 h _ _ _ X (lv_sub hl [1, 2, 0] rfl)
  have L9 : ∀ (k2 : Int32 → zMem → Int64 → zR) (hk2 : ∀ (x1 : Int32) (G : zMem) (tr : Int64), k2 x1 G tr = some (r9, G9, tr9) → zAt p l e (headSpec wsX0_drawEnds { frames := 2, cells := 0, slots := 0, locals := 50 }).room s m ([.ref (ad t)] : List Value).toArray below meth c 3 D cs ad (zQV below ([.ref (ad t)] : List Value).toArray s D cs ad ((xE ki ad) G9 tr9)) 2 [(0, .ref (ad t)), (1, .int x1)] [] ((xE ki ad) G tr)) (n : Nat) (x1 : Int32) (x2 : Int32) (G : zMem) (tr : Int64), fX0_drawEnds_L9 N t k2 n x1 x2 G tr = some (r9, G9, tr9) → zAt p l e (headSpec wsX0_drawEnds { frames := 2, cells := 0, slots := 0, locals := 50 }).room s m ([.ref (ad t)] : List Value).toArray below meth c 3 D cs ad (zQV below ([.ref (ad t)] : List Value).toArray s D cs ad ((xE ki ad) G9 tr9)) 9 [(0, .ref (ad t)), (1, .int x1), (2, .int x2)] [] ((xE ki ad) G tr) := by
    intro k2 hk2 n
    induction n with
    | zero => intro x1 x2 G tr h; cases h
    | succ n ih => intro x1 x2 G tr h; exact b9 k2 hk2 (fX0_drawEnds_L9 N t k2 n) ih x1 x2 G tr h
  have b2 : ∀ (k2 : Int32 → zMem → Int64 → zR) (hk2 : ∀ (x1 : Int32) (G : zMem) (tr : Int64), k2 x1 G tr = some (r9, G9, tr9) → zAt p l e (headSpec wsX0_drawEnds { frames := 2, cells := 0, slots := 0, locals := 50 }).room s m ([.ref (ad t)] : List Value).toArray below meth c 3 D cs ad (zQV below ([.ref (ad t)] : List Value).toArray s D cs ad ((xE ki ad) G9 tr9)) 2 [(0, .ref (ad t)), (1, .int x1)] [] ((xE ki ad) G tr)) (x1 : Int32) (G : zMem) (tr : Int64), fX0_drawEnds_b2 N t k2 x1 G tr = some (r9, G9, tr9) → zAt p l e (headSpec wsX0_drawEnds { frames := 2, cells := 0, slots := 0, locals := 50 }).room s m ([.ref (ad t)] : List Value).toArray below meth c 3 D cs ad (zQV below ([.ref (ad t)] : List Value).toArray s D cs ad ((xE ki ad) G9 tr9)) 2 [(0, .ref (ad t)), (1, .int x1)] [] ((xE ki ad) G tr) := by
    intro k2 hk2 x1 G tr h H locs ls X hl
    unfold fX0_drawEnds_b2 at h
    refine lv_iload_n S.1 S.2.1 dX0_drawEnds_2 rfl (lv_at hl 1 rfl) ?_
    refine lv_iconst (v := (4 : Int32)) S.1 S.2.1 dX0_drawEnds_3 (by decide) ?_
    refine lv_icmp_ge (tgt := 35) S.1 S.2.1 dX0_drawEnds_4 (by decide) (fun hc_1 => ?_) (fun hc_1 => ?_)
    · have h := zif_pos hc_1 h
      exact zr_vret S hr hlk X h dX0_drawEnds_35
    · have h := zif_neg hc_1 h
      refine lv_iconst (v := (0 : Int32)) S.1 S.2.1 dX0_drawEnds_7 (by decide) ?_
      refine lv_istore_n (lv' := [(2, .int (0 : Int32)), (0, .ref (ad t)), (1, .int x1)]) S.1 S.2.1 dX0_drawEnds_8 rfl hl (by decide) rfl (fun ls hl => ?_)
      exact L9 k2 hk2 N x1 (0 : Int32) G tr h _ _ _ X (lv_sub hl [1, 2, 0] rfl)
  have L2 : ∀ (n : Nat) (x1 : Int32) (G : zMem) (tr : Int64), fX0_drawEnds_L2 N t n x1 G tr = some (r9, G9, tr9) → zAt p l e (headSpec wsX0_drawEnds { frames := 2, cells := 0, slots := 0, locals := 50 }).room s m ([.ref (ad t)] : List Value).toArray below meth c 3 D cs ad (zQV below ([.ref (ad t)] : List Value).toArray s D cs ad ((xE ki ad) G9 tr9)) 2 [(0, .ref (ad t)), (1, .int x1)] [] ((xE ki ad) G tr) := by
    intro n
    induction n with
    | zero => intro x1 G tr h; cases h
    | succ n ih => intro x1 G tr h; exact b2 (fX0_drawEnds_L2 N t n) ih x1 G tr h
  unfold fX0_drawEnds at h
  obtain ⟨H, hH⟩ : ∃ H, H = s.heap := ⟨_, rfl⟩
  obtain ⟨locs, hlo⟩ : ∃ locs : List Loc, locs = [] := ⟨_, rfl⟩
  have X : gS D cs ad ((xE ki ad) G tr) (gA cs ad s.heap.size) s H locs := by rw [hH, hlo]; exact X
  suffices z : W p l e (headSpec wsX0_drawEnds { frames := 2, cells := 0, slots := 0, locals := 50 }).room s m ([.ref (ad t)] : List Value).toArray below meth c H locs 0 0 (zQV below ([.ref (ad t)] : List Value).toArray s D cs ad ((xE ki ad) G9 tr9)) (F0 m 0 ls []) by rw [hH, hlo] at z; exact z
  clear hH hlo
  refine lv_iconst (v := (0 : Int32)) S.1 S.2.1 dX0_drawEnds_0 (by decide) ?_
  refine lv_istore_n (lv' := [(1, .int (0 : Int32)), (0, .ref (ad t))]) S.1 S.2.1 dX0_drawEnds_1 rfl hl (by decide) rfl (fun ls hl => ?_)
  exact L2 N (0 : Int32) G tr h _ _ _ X (lv_sub hl [1, 0] rfl)
set_option maxRecDepth 20000 in
theorem kX0_endOf_21 : Cond.fieldLink RX0 21 "WindPost$Chart" "ends" "[I" ∈ wsX0_endOf := by decide +kernel
set_option maxRecDepth 20000 in
theorem uX0_endOf_X0 : ∀ w ∈ wsX00, w ∈ wsX0_endOf := by decide +kernel
set_option maxHeartbeats 8000000 in
set_option maxRecDepth 100000 in
theorem mX0_endOf (l : Launch) (D : va_G) (ki : Nat → ClassId) (ad : Nat → Nat) (cs : List Nat) (N : Nat) (t : Nat) (a1 : Int32) (a2 : Int32) (a3 : Int32) (ht : kC cs t) (G : zMem) (tr : Int64) : gMetI l D ki ad cs yX0_endOf wsX0_endOf { frames := 0, cells := 0, slots := 0, locals := 0 } [.ref (ad t), .int a1, .int a2, .int a3] (xE ki ad) G tr (fX0_endOf N t a1 a2 a3 G tr) := by
  refine gMetI_of (cc := cX0_endOf) (maxL := 4) (ret := (some .int)) (own := RX0) (by decide +kernel) rfl rfl (Nat.le_of_ble_eq_true rfl) ?_
  intro r9 G9 tr9 h p e s m below meth c S hr hlk K X ls hl
  have hl : lv_has ls 4 [(0, .ref (ad t)), (1, .int a1), (2, .int a2), (3, .int a3)] := hl
  unfold fX0_endOf at h
  obtain ⟨H, hH⟩ : ∃ H, H = s.heap := ⟨_, rfl⟩
  obtain ⟨locs, hlo⟩ : ∃ locs : List Loc, locs = [] := ⟨_, rfl⟩
  have X : gS D cs ad ((xE ki ad) G tr) (gA cs ad s.heap.size) s H locs := by rw [hH, hlo]; exact X
  suffices z : W p l e (headSpec wsX0_endOf { frames := 0, cells := 0, slots := 0, locals := 0 }).room s m ([.ref (ad t), .int a1, .int a2, .int a3] : List Value).toArray below meth c H locs 0 0 (zQI below ([.ref (ad t), .int a1, .int a2, .int a3] : List Value).toArray s D cs ad ((xE ki ad) G9 tr9) r9) (F0 m 0 ls []) by rw [hH, hlo] at z; exact z
  clear hH hlo
  refine lv_iload_n S.1 S.2.1 dX0_endOf_0 rfl (lv_at hl 1 rfl) ?_
  refine lv_iconst (v := (1 : Int32)) S.1 S.2.1 dX0_endOf_1 (by decide) ?_
  refine lv_icmp_lt (tgt := 19) S.1 S.2.1 dX0_endOf_2 (by decide) (fun hc_1 => ?_) (fun hc_1 => ?_)
  · have h := zif_pos hc_1 h
    refine lv_iconst (v := (-1 : Int32)) S.1 S.2.1 dX0_endOf_19 (by decide) ?_
    exact zr_iret S hr hlk X h dX0_endOf_20
  · have h := zif_neg hc_1 h
    refine lv_iload_n S.1 S.2.1 dX0_endOf_5 rfl (lv_at hl 1 rfl) ?_
    refine lv_iconst (v := (5 : Int32)) S.1 S.2.1 dX0_endOf_6 (by decide) ?_
    refine lv_icmp_gt (tgt := 19) S.1 S.2.1 dX0_endOf_7 (by decide) (fun hc_2 => ?_) (fun hc_2 => ?_)
    · have h := zif_pos hc_2 h
      refine lv_iconst (v := (-1 : Int32)) S.1 S.2.1 dX0_endOf_19 (by decide) ?_
      exact zr_iret S hr hlk X h dX0_endOf_20
    · have h := zif_neg hc_2 h
      refine lv_iload_n S.1 S.2.1 dX0_endOf_10 rfl (lv_at hl 2 rfl) ?_
      refine lv_if_lt (tgt := 19) S.1 S.2.1 dX0_endOf_11 (by decide) (fun hc_3 => ?_) (fun hc_3 => ?_)
      · have h := zif_pos hc_3 h
        refine lv_iconst (v := (-1 : Int32)) S.1 S.2.1 dX0_endOf_19 (by decide) ?_
        exact zr_iret S hr hlk X h dX0_endOf_20
      · have h := zif_neg hc_3 h
        refine lv_iload_n S.1 S.2.1 dX0_endOf_14 rfl (lv_at hl 2 rfl) ?_
        refine lv_iconst (v := (4 : Int32)) S.1 S.2.1 dX0_endOf_15 (by decide) ?_
        refine lv_icmp_lt (tgt := 21) S.1 S.2.1 dX0_endOf_16 (by decide) (fun hc_4 => ?_) (fun hc_4 => ?_)
        · have h := zif_pos hc_4 h
          refine lv_iload_n S.1 S.2.1 dX0_endOf_21 rfl (lv_at hl 3 rfl) ?_
          refine lv_if_lt (tgt := 31) S.1 S.2.1 dX0_endOf_22 (by decide) (fun hc_5 => ?_) (fun hc_5 => ?_)
          · have h := zif_pos hc_5 h
            refine lv_iconst (v := (-1 : Int32)) S.1 S.2.1 dX0_endOf_31 (by decide) ?_
            exact zr_iret S hr hlk X h dX0_endOf_32
          · have h := zif_neg hc_5 h
            refine lv_iload_n S.1 S.2.1 dX0_endOf_25 rfl (lv_at hl 3 rfl) ?_
            refine lv_bipush (v := (30 : Int32)) S.1 S.2.1 dX0_endOf_26 (by decide) ?_
            refine lv_icmp_lt (tgt := 33) S.1 S.2.1 dX0_endOf_28 (by decide) (fun hc_6 => ?_) (fun hc_6 => ?_)
            · have h := zif_pos hc_6 h
              refine lv_aload_n S.1 S.2.1 dX0_endOf_33 rfl (lv_at hl 0 rfl) ?_
              refine zr_get (v := .ref (ad (t + 4))) S K X (ht.2 0 (by decide)) (xE_C ht) rfl uX0_endOf_X0 9 (by decide) kX0_endOf_21 rfl rfl dX0_endOf_34 ?_
              refine lv_iload_n S.1 S.2.1 dX0_endOf_37 rfl (lv_at hl 1 rfl) ?_
              refine lv_iconst (v := (1 : Int32)) S.1 S.2.1 dX0_endOf_38 (by decide) ?_
              refine lv_isub S.1 S.2.1 dX0_endOf_39 ?_
              refine lv_iconst (v := (4 : Int32)) S.1 S.2.1 dX0_endOf_40 (by decide) ?_
              refine lv_imul S.1 S.2.1 dX0_endOf_41 ?_
              refine lv_iload_n S.1 S.2.1 dX0_endOf_42 rfl (lv_at hl 2 rfl) ?_
              refine lv_iadd S.1 S.2.1 dX0_endOf_43 ?_
              refine lv_bipush (v := (30 : Int32)) S.1 S.2.1 dX0_endOf_44 (by decide) ?_
              refine lv_imul S.1 S.2.1 dX0_endOf_46 ?_
              refine lv_iload_n S.1 S.2.1 dX0_endOf_47 rfl (lv_at hl 3 rfl) ?_
              refine lv_iadd S.1 S.2.1 dX0_endOf_48 ?_
              obtain ⟨hi_7, h⟩ := zin_some h
              refine zr_iald S K X (ht.2 4 (by decide)) (xE_C4 ht) hi_7 dX0_endOf_49 ?_
              exact zr_iret S hr hlk X h dX0_endOf_50
            · have h := zif_neg hc_6 h
              refine lv_iconst (v := (-1 : Int32)) S.1 S.2.1 dX0_endOf_31 (by decide) ?_
              exact zr_iret S hr hlk X h dX0_endOf_32
        · have h := zif_neg hc_4 h
          refine lv_iconst (v := (-1 : Int32)) S.1 S.2.1 dX0_endOf_19 (by decide) ?_
          exact zr_iret S hr hlk X h dX0_endOf_20
set_option maxRecDepth 20000 in
theorem kX1_letUp_9 : Cond.fieldLink RX1 9 "WindPost$Letter" "weight" "I" ∈ wsX1_letUp := by decide +kernel
set_option maxRecDepth 20000 in
theorem kX1_letUp_15 : Cond.fieldLink RX1 15 "WindPost$Letter" "from" "I" ∈ wsX1_letUp := by decide +kernel
set_option maxRecDepth 20000 in
theorem kX1_letUp_18 : Cond.fieldLink RX1 18 "WindPost$Letter" "to" "I" ∈ wsX1_letUp := by decide +kernel
set_option maxRecDepth 20000 in
theorem kX1_letUp_27 : Cond.fieldLink RX1 27 "WindPost$Letter" "place" "I" ∈ wsX1_letUp := by decide +kernel
set_option maxRecDepth 20000 in
theorem kX1_letUp_30 : Cond.fieldLink RX1 30 "WindPost$Letter" "marks" "I" ∈ wsX1_letUp := by decide +kernel
set_option maxRecDepth 20000 in
theorem kX1_letUp_33 : Cond.fieldLink RX1 33 "WindPost$Letter" "how" "I" ∈ wsX1_letUp := by decide +kernel
set_option maxRecDepth 20000 in
theorem kX1_letUp_36 : Cond.fieldLink RX1 36 "WindPost$Chart" "force" "I" ∈ wsX1_letUp := by decide +kernel
set_option maxRecDepth 20000 in
theorem kX1_letUp_39 : Cond.fieldLink RX1 39 "WindPost$Letter" "reach" "I" ∈ wsX1_letUp := by decide +kernel
set_option maxRecDepth 20000 in
theorem uX1_letUp_X0 : ∀ w ∈ wsX00, w ∈ wsX1_letUp := by decide +kernel
set_option maxRecDepth 20000 in
theorem uX1_letUp_X1 : ∀ w ∈ wsX10, w ∈ wsX1_letUp := by decide +kernel
set_option maxHeartbeats 8000000 in
set_option maxRecDepth 100000 in
theorem mX1_letUp (l : Launch) (D : va_G) (ki : Nat → ClassId) (ad : Nat → Nat) (cs : List Nat) (hcs : kW cs) (N : Nat) (t : Nat) (a1 : Nat) (a2 : Int32) (a3 : Int32) (a4 : Int32) (ht : kL cs t) (ha1 : kC cs a1) (G : zMem) (tr : Int64) : gMetV l D ki ad cs yX1_letUp wsX1_letUp { frames := 1, cells := 0, slots := 0, locals := 21 } [.ref (ad t), .ref (ad a1), .int a2, .int a3, .int a4] (xE ki ad) G tr (fX1_letUp N t a1 a2 a3 a4 G tr) := by
  refine gMetV_of (cc := cX1_letUp) (maxL := 5) (ret := none) (own := RX1) (by decide +kernel) rfl rfl (Nat.le_of_ble_eq_true rfl) ?_
  intro r9 G9 tr9 h p e s m below meth c S hr hlk K X ls hl
  have hl : lv_has ls 5 [(0, .ref (ad t)), (1, .ref (ad a1)), (2, .int a2), (3, .int a3), (4, .int a4)] := hl
  unfold fX1_letUp at h
  obtain ⟨H, hH⟩ : ∃ H, H = s.heap := ⟨_, rfl⟩
  obtain ⟨locs, hlo⟩ : ∃ locs : List Loc, locs = [] := ⟨_, rfl⟩
  have X : gS D cs ad ((xE ki ad) G tr) (gA cs ad s.heap.size) s H locs := by rw [hH, hlo]; exact X
  suffices z : W p l e (headSpec wsX1_letUp { frames := 1, cells := 0, slots := 0, locals := 21 }).room s m ([.ref (ad t), .ref (ad a1), .int a2, .int a3, .int a4] : List Value).toArray below meth c H locs 0 0 (zQV below ([.ref (ad t), .ref (ad a1), .int a2, .int a3, .int a4] : List Value).toArray s D cs ad ((xE ki ad) G9 tr9)) (F0 m 0 ls []) by rw [hH, hlo] at z; exact z
  clear hH hlo
  refine lv_aload_n S.1 S.2.1 dX1_letUp_0 rfl (lv_at hl 0 rfl) ?_
  refine lv_iload S.1 S.2.1 dX1_letUp_1 (lv_at hl 4 rfl) ?_
  refine zr_put (xv := a4) (v := .int a4) (fsf := fsL) (ty := .int) S K X ht.2 xE_loc (fun _ => (xE_L ht)) rfl uX1_letUp_X1 tyX1 tyX1_ok nmX1 0 (by decide) kX1_letUp_9 rfl (by decide +kernel) rfl rfl (by simp) rfl dX1_letUp_3 (fun H locs X => ?_)
  refine lv_aload_n S.1 S.2.1 dX1_letUp_6 rfl (lv_at hl 0 rfl) ?_
  refine lv_iload_n S.1 S.2.1 dX1_letUp_7 rfl (lv_at hl 2 rfl) ?_
  refine zr_put (xv := a2) (v := .int a2) (fsf := fsL) (ty := .int) S K X ht.2 xE_loc (fun _ => (xE_L ht)) rfl uX1_letUp_X1 tyX1 tyX1_ok nmX1 1 (by decide) kX1_letUp_15 rfl (by decide +kernel) rfl rfl (by simp) rfl dX1_letUp_8 (fun H locs X => ?_)
  refine lv_aload_n S.1 S.2.1 dX1_letUp_11 rfl (lv_at hl 0 rfl) ?_
  refine lv_iload_n S.1 S.2.1 dX1_letUp_12 rfl (lv_at hl 3 rfl) ?_
  refine zr_put (xv := a3) (v := .int a3) (fsf := fsL) (ty := .int) S K X ht.2 xE_loc (fun _ => (xE_L ht)) rfl uX1_letUp_X1 tyX1 tyX1_ok nmX1 2 (by decide) kX1_letUp_18 rfl (by decide +kernel) rfl rfl (by simp) rfl dX1_letUp_13 (fun H locs X => ?_)
  refine lv_aload_n S.1 S.2.1 dX1_letUp_16 rfl (lv_at hl 0 rfl) ?_
  refine lv_aload_n S.1 S.2.1 dX1_letUp_17 rfl (lv_at hl 1 rfl) ?_
  refine lv_iload_n S.1 S.2.1 dX1_letUp_18 rfl (lv_at hl 2 rfl) ?_
  obtain ⟨r_2, G_3, tr_4, hf_1, h⟩ := zbd_some h
  refine zr_calli (Eg := (xE ki ad)) K X (va_runV (As := [.int a2]) (rest := [.ref (ad t)]) S (mX0_cellOfIsle l D ki ad cs  N a1 a2 ha1 (up2 (up2 (up2 G t 0 a4) t 1 a2) t 2 a3) tr H.size _ _ _ hf_1) (cwV 1 S.2.2.2.2 gX1_letUp_X0_cellOfIsle rfl rfl rfl (by decide +kernel) ⟨Nat.le_of_ble_eq_true rfl, Nat.le_of_ble_eq_true rfl⟩) (zr_preV (c0 := a1) K X (ha1.2 0 (by decide)) (xE_C ha1) rfl) rfl rfl hl.1 rfl (lv_room (Nat.le_of_ble_eq_true rfl)) dX1_letUp_19 ⟨Nat.zero_le _, Nat.zero_le _⟩) (fun H locs X => ?_)
  refine zr_put (xv := r_2) (v := .int r_2) (fsf := fsL) (ty := .int) S K X ht.2 xE_loc (fun _ => (xE_L ht)) rfl uX1_letUp_X1 tyX1 tyX1_ok nmX1 3 (by decide) kX1_letUp_27 rfl (by decide +kernel) rfl rfl (by simp) rfl dX1_letUp_22 (fun H locs X => ?_)
  refine lv_aload_n S.1 S.2.1 dX1_letUp_25 rfl (lv_at hl 0 rfl) ?_
  refine lv_iconst (v := (1 : Int32)) S.1 S.2.1 dX1_letUp_26 (by decide) ?_
  refine lv_iload_n S.1 S.2.1 dX1_letUp_27 rfl (lv_at hl 2 rfl) ?_
  refine lv_ishl S.1 S.2.1 dX1_letUp_28 ?_
  refine zr_put (xv := ((1 : Int32) <<< (a2 &&& 31))) (v := .int ((1 : Int32) <<< (a2 &&& 31))) (fsf := fsL) (ty := .int) S K X ht.2 xE_loc (fun _ => (xE_L ht)) rfl uX1_letUp_X1 tyX1 tyX1_ok nmX1 4 (by decide) kX1_letUp_30 rfl (by decide +kernel) rfl rfl (by simp) rfl dX1_letUp_29 (fun H locs X => ?_)
  refine lv_aload_n S.1 S.2.1 dX1_letUp_32 rfl (lv_at hl 0 rfl) ?_
  refine lv_iconst (v := (0 : Int32)) S.1 S.2.1 dX1_letUp_33 (by decide) ?_
  refine zr_put (xv := (0 : Int32)) (v := .int (0 : Int32)) (fsf := fsL) (ty := .int) S K X ht.2 xE_loc (fun _ => (xE_L ht)) rfl uX1_letUp_X1 tyX1 tyX1_ok nmX1 5 (by decide) kX1_letUp_33 rfl (by decide +kernel) rfl rfl (by simp) rfl dX1_letUp_34 (fun H locs X => ?_)
  refine lv_aload_n S.1 S.2.1 dX1_letUp_37 rfl (lv_at hl 0 rfl) ?_
  refine lv_aload_n S.1 S.2.1 dX1_letUp_38 rfl (lv_at hl 1 rfl) ?_
  refine zr_get (v := .int ((up2 (up2 (up2 G_3 t 3 r_2) t 4 ((1 : Int32) <<< (a2 &&& 31))) t 5 (0 : Int32)) a1 2)) S K X (ha1.2 0 (by decide)) (xE_C ha1) rfl uX1_letUp_X0 2 (by decide) kX1_letUp_36 rfl rfl dX1_letUp_39 ?_
  refine lv_iload S.1 S.2.1 dX1_letUp_42 (lv_at hl 4 rfl) ?_
  refine lv_isub S.1 S.2.1 dX1_letUp_44 ?_
  refine zr_put (xv := (((up2 (up2 (up2 G_3 t 3 r_2) t 4 ((1 : Int32) <<< (a2 &&& 31))) t 5 (0 : Int32)) a1 2) - a4)) (v := .int (((up2 (up2 (up2 G_3 t 3 r_2) t 4 ((1 : Int32) <<< (a2 &&& 31))) t 5 (0 : Int32)) a1 2) - a4)) (fsf := fsL) (ty := .int) S K X ht.2 xE_loc (fun _ => (xE_L ht)) rfl uX1_letUp_X1 tyX1 tyX1_ok nmX1 6 (by decide) kX1_letUp_39 rfl (by decide +kernel) rfl rfl (by simp) rfl dX1_letUp_45 (fun H locs X => ?_)
  exact zr_vret S hr hlk X h dX1_letUp_48
set_option maxRecDepth 20000 in
theorem kX1_copyFrom_9 : Cond.fieldLink RX1 9 "WindPost$Letter" "weight" "I" ∈ wsX1_copyFrom := by decide +kernel
set_option maxRecDepth 20000 in
theorem kX1_copyFrom_15 : Cond.fieldLink RX1 15 "WindPost$Letter" "from" "I" ∈ wsX1_copyFrom := by decide +kernel
set_option maxRecDepth 20000 in
theorem kX1_copyFrom_18 : Cond.fieldLink RX1 18 "WindPost$Letter" "to" "I" ∈ wsX1_copyFrom := by decide +kernel
set_option maxRecDepth 20000 in
theorem kX1_copyFrom_27 : Cond.fieldLink RX1 27 "WindPost$Letter" "place" "I" ∈ wsX1_copyFrom := by decide +kernel
set_option maxRecDepth 20000 in
theorem kX1_copyFrom_30 : Cond.fieldLink RX1 30 "WindPost$Letter" "marks" "I" ∈ wsX1_copyFrom := by decide +kernel
set_option maxRecDepth 20000 in
theorem kX1_copyFrom_33 : Cond.fieldLink RX1 33 "WindPost$Letter" "how" "I" ∈ wsX1_copyFrom := by decide +kernel
set_option maxRecDepth 20000 in
theorem kX1_copyFrom_39 : Cond.fieldLink RX1 39 "WindPost$Letter" "reach" "I" ∈ wsX1_copyFrom := by decide +kernel
set_option maxRecDepth 20000 in
theorem uX1_copyFrom_X1 : ∀ w ∈ wsX10, w ∈ wsX1_copyFrom := by decide +kernel
set_option maxHeartbeats 8000000 in
set_option maxRecDepth 100000 in
theorem mX1_copyFrom (l : Launch) (D : va_G) (ki : Nat → ClassId) (ad : Nat → Nat) (cs : List Nat) (hcs : kW cs) (N : Nat) (t : Nat) (a1 : Nat) (ht : kL cs t) (ha1 : kL cs a1) (G : zMem) (tr : Int64) : gMetV l D ki ad cs yX1_copyFrom wsX1_copyFrom { frames := 0, cells := 0, slots := 0, locals := 0 } [.ref (ad t), .ref (ad a1)] (xE ki ad) G tr (fX1_copyFrom N t a1 G tr) := by
  refine gMetV_of (cc := cX1_copyFrom) (maxL := 2) (ret := none) (own := RX1) (by decide +kernel) rfl rfl (Nat.le_of_ble_eq_true rfl) ?_
  intro r9 G9 tr9 h p e s m below meth c S hr hlk K X ls hl
  have hl : lv_has ls 2 [(0, .ref (ad t)), (1, .ref (ad a1))] := hl
  unfold fX1_copyFrom at h
  obtain ⟨H, hH⟩ : ∃ H, H = s.heap := ⟨_, rfl⟩
  obtain ⟨locs, hlo⟩ : ∃ locs : List Loc, locs = [] := ⟨_, rfl⟩
  have X : gS D cs ad ((xE ki ad) G tr) (gA cs ad s.heap.size) s H locs := by rw [hH, hlo]; exact X
  suffices z : W p l e (headSpec wsX1_copyFrom { frames := 0, cells := 0, slots := 0, locals := 0 }).room s m ([.ref (ad t), .ref (ad a1)] : List Value).toArray below meth c H locs 0 0 (zQV below ([.ref (ad t), .ref (ad a1)] : List Value).toArray s D cs ad ((xE ki ad) G9 tr9)) (F0 m 0 ls []) by rw [hH, hlo] at z; exact z
  clear hH hlo
  refine lv_aload_n S.1 S.2.1 dX1_copyFrom_0 rfl (lv_at hl 0 rfl) ?_
  refine lv_aload_n S.1 S.2.1 dX1_copyFrom_1 rfl (lv_at hl 1 rfl) ?_
  refine zr_get (v := .int (G a1 0)) S K X ha1.2 (xE_L ha1) rfl uX1_copyFrom_X1 0 (by decide) kX1_copyFrom_9 rfl rfl dX1_copyFrom_2 ?_
  refine zr_put (xv := (G a1 0)) (v := .int (G a1 0)) (fsf := fsL) (ty := .int) S K X ht.2 xE_loc (fun _ => (xE_L ht)) rfl uX1_copyFrom_X1 tyX1 tyX1_ok nmX1 0 (by decide) kX1_copyFrom_9 rfl (by decide +kernel) rfl rfl (by simp) rfl dX1_copyFrom_5 (fun H locs X => ?_)
  refine lv_aload_n S.1 S.2.1 dX1_copyFrom_8 rfl (lv_at hl 0 rfl) ?_
  refine lv_aload_n S.1 S.2.1 dX1_copyFrom_9 rfl (lv_at hl 1 rfl) ?_
  refine zr_get (v := .int ((up2 G t 0 (G a1 0)) a1 1)) S K X ha1.2 (xE_L ha1) rfl uX1_copyFrom_X1 1 (by decide) kX1_copyFrom_15 rfl rfl dX1_copyFrom_10 ?_
  refine zr_put (xv := ((up2 G t 0 (G a1 0)) a1 1)) (v := .int ((up2 G t 0 (G a1 0)) a1 1)) (fsf := fsL) (ty := .int) S K X ht.2 xE_loc (fun _ => (xE_L ht)) rfl uX1_copyFrom_X1 tyX1 tyX1_ok nmX1 1 (by decide) kX1_copyFrom_15 rfl (by decide +kernel) rfl rfl (by simp) rfl dX1_copyFrom_13 (fun H locs X => ?_)
  refine lv_aload_n S.1 S.2.1 dX1_copyFrom_16 rfl (lv_at hl 0 rfl) ?_
  refine lv_aload_n S.1 S.2.1 dX1_copyFrom_17 rfl (lv_at hl 1 rfl) ?_
  refine zr_get (v := .int ((up2 (up2 G t 0 (G a1 0)) t 1 ((up2 G t 0 (G a1 0)) a1 1)) a1 2)) S K X ha1.2 (xE_L ha1) rfl uX1_copyFrom_X1 2 (by decide) kX1_copyFrom_18 rfl rfl dX1_copyFrom_18 ?_
  refine zr_put (xv := ((up2 (up2 G t 0 (G a1 0)) t 1 ((up2 G t 0 (G a1 0)) a1 1)) a1 2)) (v := .int ((up2 (up2 G t 0 (G a1 0)) t 1 ((up2 G t 0 (G a1 0)) a1 1)) a1 2)) (fsf := fsL) (ty := .int) S K X ht.2 xE_loc (fun _ => (xE_L ht)) rfl uX1_copyFrom_X1 tyX1 tyX1_ok nmX1 2 (by decide) kX1_copyFrom_18 rfl (by decide +kernel) rfl rfl (by simp) rfl dX1_copyFrom_21 (fun H locs X => ?_)
  refine lv_aload_n S.1 S.2.1 dX1_copyFrom_24 rfl (lv_at hl 0 rfl) ?_
  refine lv_aload_n S.1 S.2.1 dX1_copyFrom_25 rfl (lv_at hl 1 rfl) ?_
  refine zr_get (v := .int ((up2 (up2 (up2 G t 0 (G a1 0)) t 1 ((up2 G t 0 (G a1 0)) a1 1)) t 2 ((up2 (up2 G t 0 (G a1 0)) t 1 ((up2 G t 0 (G a1 0)) a1 1)) a1 2)) a1 3)) S K X ha1.2 (xE_L ha1) rfl uX1_copyFrom_X1 3 (by decide) kX1_copyFrom_27 rfl rfl dX1_copyFrom_26 ?_
  refine zr_put (xv := ((up2 (up2 (up2 G t 0 (G a1 0)) t 1 ((up2 G t 0 (G a1 0)) a1 1)) t 2 ((up2 (up2 G t 0 (G a1 0)) t 1 ((up2 G t 0 (G a1 0)) a1 1)) a1 2)) a1 3)) (v := .int ((up2 (up2 (up2 G t 0 (G a1 0)) t 1 ((up2 G t 0 (G a1 0)) a1 1)) t 2 ((up2 (up2 G t 0 (G a1 0)) t 1 ((up2 G t 0 (G a1 0)) a1 1)) a1 2)) a1 3)) (fsf := fsL) (ty := .int) S K X ht.2 xE_loc (fun _ => (xE_L ht)) rfl uX1_copyFrom_X1 tyX1 tyX1_ok nmX1 3 (by decide) kX1_copyFrom_27 rfl (by decide +kernel) rfl rfl (by simp) rfl dX1_copyFrom_29 (fun H locs X => ?_)
  refine lv_aload_n S.1 S.2.1 dX1_copyFrom_32 rfl (lv_at hl 0 rfl) ?_
  refine lv_aload_n S.1 S.2.1 dX1_copyFrom_33 rfl (lv_at hl 1 rfl) ?_
  refine zr_get (v := .int ((up2 (up2 (up2 (up2 G t 0 (G a1 0)) t 1 ((up2 G t 0 (G a1 0)) a1 1)) t 2 ((up2 (up2 G t 0 (G a1 0)) t 1 ((up2 G t 0 (G a1 0)) a1 1)) a1 2)) t 3 ((up2 (up2 (up2 G t 0 (G a1 0)) t 1 ((up2 G t 0 (G a1 0)) a1 1)) t 2 ((up2 (up2 G t 0 (G a1 0)) t 1 ((up2 G t 0 (G a1 0)) a1 1)) a1 2)) a1 3)) a1 4)) S K X ha1.2 (xE_L ha1) rfl uX1_copyFrom_X1 4 (by decide) kX1_copyFrom_30 rfl rfl dX1_copyFrom_34 ?_
  refine zr_put (xv := ((up2 (up2 (up2 (up2 G t 0 (G a1 0)) t 1 ((up2 G t 0 (G a1 0)) a1 1)) t 2 ((up2 (up2 G t 0 (G a1 0)) t 1 ((up2 G t 0 (G a1 0)) a1 1)) a1 2)) t 3 ((up2 (up2 (up2 G t 0 (G a1 0)) t 1 ((up2 G t 0 (G a1 0)) a1 1)) t 2 ((up2 (up2 G t 0 (G a1 0)) t 1 ((up2 G t 0 (G a1 0)) a1 1)) a1 2)) a1 3)) a1 4)) (v := .int ((up2 (up2 (up2 (up2 G t 0 (G a1 0)) t 1 ((up2 G t 0 (G a1 0)) a1 1)) t 2 ((up2 (up2 G t 0 (G a1 0)) t 1 ((up2 G t 0 (G a1 0)) a1 1)) a1 2)) t 3 ((up2 (up2 (up2 G t 0 (G a1 0)) t 1 ((up2 G t 0 (G a1 0)) a1 1)) t 2 ((up2 (up2 G t 0 (G a1 0)) t 1 ((up2 G t 0 (G a1 0)) a1 1)) a1 2)) a1 3)) a1 4)) (fsf := fsL) (ty := .int) S K X ht.2 xE_loc (fun _ => (xE_L ht)) rfl uX1_copyFrom_X1 tyX1 tyX1_ok nmX1 4 (by decide) kX1_copyFrom_30 rfl (by decide +kernel) rfl rfl (by simp) rfl dX1_copyFrom_37 (fun H locs X => ?_)
  refine lv_aload_n S.1 S.2.1 dX1_copyFrom_40 rfl (lv_at hl 0 rfl) ?_
  refine lv_aload_n S.1 S.2.1 dX1_copyFrom_41 rfl (lv_at hl 1 rfl) ?_
  refine zr_get (v := .int ((up2 (up2 (up2 (up2 (up2 G t 0 (G a1 0)) t 1 ((up2 G t 0 (G a1 0)) a1 1)) t 2 ((up2 (up2 G t 0 (G a1 0)) t 1 ((up2 G t 0 (G a1 0)) a1 1)) a1 2)) t 3 ((up2 (up2 (up2 G t 0 (G a1 0)) t 1 ((up2 G t 0 (G a1 0)) a1 1)) t 2 ((up2 (up2 G t 0 (G a1 0)) t 1 ((up2 G t 0 (G a1 0)) a1 1)) a1 2)) a1 3)) t 4 ((up2 (up2 (up2 (up2 G t 0 (G a1 0)) t 1 ((up2 G t 0 (G a1 0)) a1 1)) t 2 ((up2 (up2 G t 0 (G a1 0)) t 1 ((up2 G t 0 (G a1 0)) a1 1)) a1 2)) t 3 ((up2 (up2 (up2 G t 0 (G a1 0)) t 1 ((up2 G t 0 (G a1 0)) a1 1)) t 2 ((up2 (up2 G t 0 (G a1 0)) t 1 ((up2 G t 0 (G a1 0)) a1 1)) a1 2)) a1 3)) a1 4)) a1 5)) S K X ha1.2 (xE_L ha1) rfl uX1_copyFrom_X1 5 (by decide) kX1_copyFrom_33 rfl rfl dX1_copyFrom_42 ?_
  refine zr_put (xv := ((up2 (up2 (up2 (up2 (up2 G t 0 (G a1 0)) t 1 ((up2 G t 0 (G a1 0)) a1 1)) t 2 ((up2 (up2 G t 0 (G a1 0)) t 1 ((up2 G t 0 (G a1 0)) a1 1)) a1 2)) t 3 ((up2 (up2 (up2 G t 0 (G a1 0)) t 1 ((up2 G t 0 (G a1 0)) a1 1)) t 2 ((up2 (up2 G t 0 (G a1 0)) t 1 ((up2 G t 0 (G a1 0)) a1 1)) a1 2)) a1 3)) t 4 ((up2 (up2 (up2 (up2 G t 0 (G a1 0)) t 1 ((up2 G t 0 (G a1 0)) a1 1)) t 2 ((up2 (up2 G t 0 (G a1 0)) t 1 ((up2 G t 0 (G a1 0)) a1 1)) a1 2)) t 3 ((up2 (up2 (up2 G t 0 (G a1 0)) t 1 ((up2 G t 0 (G a1 0)) a1 1)) t 2 ((up2 (up2 G t 0 (G a1 0)) t 1 ((up2 G t 0 (G a1 0)) a1 1)) a1 2)) a1 3)) a1 4)) a1 5)) (v := .int ((up2 (up2 (up2 (up2 (up2 G t 0 (G a1 0)) t 1 ((up2 G t 0 (G a1 0)) a1 1)) t 2 ((up2 (up2 G t 0 (G a1 0)) t 1 ((up2 G t 0 (G a1 0)) a1 1)) a1 2)) t 3 ((up2 (up2 (up2 G t 0 (G a1 0)) t 1 ((up2 G t 0 (G a1 0)) a1 1)) t 2 ((up2 (up2 G t 0 (G a1 0)) t 1 ((up2 G t 0 (G a1 0)) a1 1)) a1 2)) a1 3)) t 4 ((up2 (up2 (up2 (up2 G t 0 (G a1 0)) t 1 ((up2 G t 0 (G a1 0)) a1 1)) t 2 ((up2 (up2 G t 0 (G a1 0)) t 1 ((up2 G t 0 (G a1 0)) a1 1)) a1 2)) t 3 ((up2 (up2 (up2 G t 0 (G a1 0)) t 1 ((up2 G t 0 (G a1 0)) a1 1)) t 2 ((up2 (up2 G t 0 (G a1 0)) t 1 ((up2 G t 0 (G a1 0)) a1 1)) a1 2)) a1 3)) a1 4)) a1 5)) (fsf := fsL) (ty := .int) S K X ht.2 xE_loc (fun _ => (xE_L ht)) rfl uX1_copyFrom_X1 tyX1 tyX1_ok nmX1 5 (by decide) kX1_copyFrom_33 rfl (by decide +kernel) rfl rfl (by simp) rfl dX1_copyFrom_45 (fun H locs X => ?_)
  refine lv_aload_n S.1 S.2.1 dX1_copyFrom_48 rfl (lv_at hl 0 rfl) ?_
  refine lv_aload_n S.1 S.2.1 dX1_copyFrom_49 rfl (lv_at hl 1 rfl) ?_
  refine zr_get (v := .int ((up2 (up2 (up2 (up2 (up2 (up2 G t 0 (G a1 0)) t 1 ((up2 G t 0 (G a1 0)) a1 1)) t 2 ((up2 (up2 G t 0 (G a1 0)) t 1 ((up2 G t 0 (G a1 0)) a1 1)) a1 2)) t 3 ((up2 (up2 (up2 G t 0 (G a1 0)) t 1 ((up2 G t 0 (G a1 0)) a1 1)) t 2 ((up2 (up2 G t 0 (G a1 0)) t 1 ((up2 G t 0 (G a1 0)) a1 1)) a1 2)) a1 3)) t 4 ((up2 (up2 (up2 (up2 G t 0 (G a1 0)) t 1 ((up2 G t 0 (G a1 0)) a1 1)) t 2 ((up2 (up2 G t 0 (G a1 0)) t 1 ((up2 G t 0 (G a1 0)) a1 1)) a1 2)) t 3 ((up2 (up2 (up2 G t 0 (G a1 0)) t 1 ((up2 G t 0 (G a1 0)) a1 1)) t 2 ((up2 (up2 G t 0 (G a1 0)) t 1 ((up2 G t 0 (G a1 0)) a1 1)) a1 2)) a1 3)) a1 4)) t 5 ((up2 (up2 (up2 (up2 (up2 G t 0 (G a1 0)) t 1 ((up2 G t 0 (G a1 0)) a1 1)) t 2 ((up2 (up2 G t 0 (G a1 0)) t 1 ((up2 G t 0 (G a1 0)) a1 1)) a1 2)) t 3 ((up2 (up2 (up2 G t 0 (G a1 0)) t 1 ((up2 G t 0 (G a1 0)) a1 1)) t 2 ((up2 (up2 G t 0 (G a1 0)) t 1 ((up2 G t 0 (G a1 0)) a1 1)) a1 2)) a1 3)) t 4 ((up2 (up2 (up2 (up2 G t 0 (G a1 0)) t 1 ((up2 G t 0 (G a1 0)) a1 1)) t 2 ((up2 (up2 G t 0 (G a1 0)) t 1 ((up2 G t 0 (G a1 0)) a1 1)) a1 2)) t 3 ((up2 (up2 (up2 G t 0 (G a1 0)) t 1 ((up2 G t 0 (G a1 0)) a1 1)) t 2 ((up2 (up2 G t 0 (G a1 0)) t 1 ((up2 G t 0 (G a1 0)) a1 1)) a1 2)) a1 3)) a1 4)) a1 5)) a1 6)) S K X ha1.2 (xE_L ha1) rfl uX1_copyFrom_X1 6 (by decide) kX1_copyFrom_39 rfl rfl dX1_copyFrom_50 ?_
  refine zr_put (xv := ((up2 (up2 (up2 (up2 (up2 (up2 G t 0 (G a1 0)) t 1 ((up2 G t 0 (G a1 0)) a1 1)) t 2 ((up2 (up2 G t 0 (G a1 0)) t 1 ((up2 G t 0 (G a1 0)) a1 1)) a1 2)) t 3 ((up2 (up2 (up2 G t 0 (G a1 0)) t 1 ((up2 G t 0 (G a1 0)) a1 1)) t 2 ((up2 (up2 G t 0 (G a1 0)) t 1 ((up2 G t 0 (G a1 0)) a1 1)) a1 2)) a1 3)) t 4 ((up2 (up2 (up2 (up2 G t 0 (G a1 0)) t 1 ((up2 G t 0 (G a1 0)) a1 1)) t 2 ((up2 (up2 G t 0 (G a1 0)) t 1 ((up2 G t 0 (G a1 0)) a1 1)) a1 2)) t 3 ((up2 (up2 (up2 G t 0 (G a1 0)) t 1 ((up2 G t 0 (G a1 0)) a1 1)) t 2 ((up2 (up2 G t 0 (G a1 0)) t 1 ((up2 G t 0 (G a1 0)) a1 1)) a1 2)) a1 3)) a1 4)) t 5 ((up2 (up2 (up2 (up2 (up2 G t 0 (G a1 0)) t 1 ((up2 G t 0 (G a1 0)) a1 1)) t 2 ((up2 (up2 G t 0 (G a1 0)) t 1 ((up2 G t 0 (G a1 0)) a1 1)) a1 2)) t 3 ((up2 (up2 (up2 G t 0 (G a1 0)) t 1 ((up2 G t 0 (G a1 0)) a1 1)) t 2 ((up2 (up2 G t 0 (G a1 0)) t 1 ((up2 G t 0 (G a1 0)) a1 1)) a1 2)) a1 3)) t 4 ((up2 (up2 (up2 (up2 G t 0 (G a1 0)) t 1 ((up2 G t 0 (G a1 0)) a1 1)) t 2 ((up2 (up2 G t 0 (G a1 0)) t 1 ((up2 G t 0 (G a1 0)) a1 1)) a1 2)) t 3 ((up2 (up2 (up2 G t 0 (G a1 0)) t 1 ((up2 G t 0 (G a1 0)) a1 1)) t 2 ((up2 (up2 G t 0 (G a1 0)) t 1 ((up2 G t 0 (G a1 0)) a1 1)) a1 2)) a1 3)) a1 4)) a1 5)) a1 6)) (v := .int ((up2 (up2 (up2 (up2 (up2 (up2 G t 0 (G a1 0)) t 1 ((up2 G t 0 (G a1 0)) a1 1)) t 2 ((up2 (up2 G t 0 (G a1 0)) t 1 ((up2 G t 0 (G a1 0)) a1 1)) a1 2)) t 3 ((up2 (up2 (up2 G t 0 (G a1 0)) t 1 ((up2 G t 0 (G a1 0)) a1 1)) t 2 ((up2 (up2 G t 0 (G a1 0)) t 1 ((up2 G t 0 (G a1 0)) a1 1)) a1 2)) a1 3)) t 4 ((up2 (up2 (up2 (up2 G t 0 (G a1 0)) t 1 ((up2 G t 0 (G a1 0)) a1 1)) t 2 ((up2 (up2 G t 0 (G a1 0)) t 1 ((up2 G t 0 (G a1 0)) a1 1)) a1 2)) t 3 ((up2 (up2 (up2 G t 0 (G a1 0)) t 1 ((up2 G t 0 (G a1 0)) a1 1)) t 2 ((up2 (up2 G t 0 (G a1 0)) t 1 ((up2 G t 0 (G a1 0)) a1 1)) a1 2)) a1 3)) a1 4)) t 5 ((up2 (up2 (up2 (up2 (up2 G t 0 (G a1 0)) t 1 ((up2 G t 0 (G a1 0)) a1 1)) t 2 ((up2 (up2 G t 0 (G a1 0)) t 1 ((up2 G t 0 (G a1 0)) a1 1)) a1 2)) t 3 ((up2 (up2 (up2 G t 0 (G a1 0)) t 1 ((up2 G t 0 (G a1 0)) a1 1)) t 2 ((up2 (up2 G t 0 (G a1 0)) t 1 ((up2 G t 0 (G a1 0)) a1 1)) a1 2)) a1 3)) t 4 ((up2 (up2 (up2 (up2 G t 0 (G a1 0)) t 1 ((up2 G t 0 (G a1 0)) a1 1)) t 2 ((up2 (up2 G t 0 (G a1 0)) t 1 ((up2 G t 0 (G a1 0)) a1 1)) a1 2)) t 3 ((up2 (up2 (up2 G t 0 (G a1 0)) t 1 ((up2 G t 0 (G a1 0)) a1 1)) t 2 ((up2 (up2 G t 0 (G a1 0)) t 1 ((up2 G t 0 (G a1 0)) a1 1)) a1 2)) a1 3)) a1 4)) a1 5)) a1 6)) (fsf := fsL) (ty := .int) S K X ht.2 xE_loc (fun _ => (xE_L ht)) rfl uX1_copyFrom_X1 tyX1 tyX1_ok nmX1 6 (by decide) kX1_copyFrom_39 rfl (by decide +kernel) rfl rfl (by simp) rfl dX1_copyFrom_53 (fun H locs X => ?_)
  exact zr_vret S hr hlk X h dX1_copyFrom_56

set_option maxHeartbeats 8000000 in
set_option maxRecDepth 100000 in
theorem mX4_bitOf (l : Launch) (D : va_G) (ki : Nat → ClassId) (ad : Nat → Nat) (cs : List Nat) (N : Nat) (a0 : Int32) (a1 : Int32) (Eg : zMem → Int64 → Nat → va_E) (G : zMem) (tr : Int64) : gMetI l D ki ad cs yX4_bitOf wsX4_bitOf { frames := 0, cells := 0, slots := 0, locals := 0 } [.int a0, .int a1] Eg G tr (zpu (fX4_bitOf N a0 a1) G tr) := by
  refine gMetI_of (cc := cX4_bitOf) (maxL := 2) (ret := (some .int)) (own := RX4) (by decide +kernel) rfl rfl (Nat.le_of_ble_eq_true rfl) ?_
  intro r9 G9 tr9 h p e s m below meth c S hr hlk K X ls hl
  obtain ⟨h0, rfl, rfl⟩ := zpu_some h
  clear h
  have h := h0
  clear h0
  have hl : lv_has ls 2 [(0, .int a0), (1, .int a1)] := hl
  unfold fX4_bitOf at h
  obtain ⟨H, hH⟩ : ∃ H, H = s.heap := ⟨_, rfl⟩
  obtain ⟨locs, hlo⟩ : ∃ locs : List Loc, locs = [] := ⟨_, rfl⟩
  have X : gS D cs ad (Eg G tr) (gA cs ad s.heap.size) s H locs := by rw [hH, hlo]; exact X
  suffices z : W p l e (headSpec wsX4_bitOf { frames := 0, cells := 0, slots := 0, locals := 0 }).room s m ([.int a0, .int a1] : List Value).toArray below meth c H locs 0 0 (zQI below ([.int a0, .int a1] : List Value).toArray s D cs ad (Eg G tr) r9) (F0 m 0 ls []) by rw [hH, hlo] at z; exact z
  clear hH hlo
  refine lv_iload_n S.1 S.2.1 dX4_bitOf_0 rfl (lv_at hl 0 rfl) ?_
  refine lv_iload_n S.1 S.2.1 dX4_bitOf_1 rfl (lv_at hl 1 rfl) ?_
  refine lv_ishr S.1 S.2.1 dX4_bitOf_2 ?_
  refine lv_iconst (v := (1 : Int32)) S.1 S.2.1 dX4_bitOf_3 (by decide) ?_
  refine lv_iand S.1 S.2.1 dX4_bitOf_4 ?_
  exact zr_iretP S hr hlk X h dX4_bitOf_5
set_option maxRecDepth 20000 in
theorem kX1_passHour_18 : Cond.fieldLink RX1 18 "WindPost$Letter" "to" "I" ∈ wsX1_passHour := by decide +kernel
set_option maxRecDepth 20000 in
theorem kX1_passHour_27 : Cond.fieldLink RX1 27 "WindPost$Letter" "place" "I" ∈ wsX1_passHour := by decide +kernel
set_option maxRecDepth 20000 in
theorem kX1_passHour_30 : Cond.fieldLink RX1 30 "WindPost$Letter" "marks" "I" ∈ wsX1_passHour := by decide +kernel
set_option maxRecDepth 20000 in
theorem kX1_passHour_33 : Cond.fieldLink RX1 33 "WindPost$Letter" "how" "I" ∈ wsX1_passHour := by decide +kernel
set_option maxRecDepth 20000 in
theorem kX1_passHour_39 : Cond.fieldLink RX1 39 "WindPost$Letter" "reach" "I" ∈ wsX1_passHour := by decide +kernel
set_option maxRecDepth 20000 in
theorem uX1_passHour_X1 : ∀ w ∈ wsX10, w ∈ wsX1_passHour := by decide +kernel
set_option maxRecDepth 20000 in
theorem nX1_passHour_49_s : Cond.static yX4_bitOf ∈ wsX1_passHour := by decide +kernel
set_option maxRecDepth 20000 in
theorem nX1_passHour_49_i : Cond.initialized RX4 ∈ wsX1_passHour := by decide +kernel
set_option maxHeartbeats 8000000 in
set_option maxRecDepth 100000 in
theorem mX1_passHour (l : Launch) (D : va_G) (ki : Nat → ClassId) (ad : Nat → Nat) (cs : List Nat) (hcs : kW cs) (N : Nat) (t : Nat) (a1 : Nat) (a2 : Int32) (a3 : Int32) (ht : kL cs t) (ha1 : kC cs a1) (G : zMem) (tr : Int64) : gMetV l D ki ad cs yX1_passHour wsX1_passHour { frames := 1, cells := 0, slots := 0, locals := 23 } [.ref (ad t), .ref (ad a1), .int a2, .int a3] (xE ki ad) G tr (fX1_passHour N t a1 a2 a3 G tr) := by
  refine gMetV_of (cc := cX1_passHour) (maxL := 6) (ret := none) (own := RX1) (by decide +kernel) rfl rfl (Nat.le_of_ble_eq_true rfl) ?_
  intro r9 G9 tr9 h p e s m below meth c S hr hlk K X ls hl
  have hl : lv_has ls 6 [(0, .ref (ad t)), (1, .ref (ad a1)), (2, .int a2), (3, .int a3)] := hl
  have b75 : ∀ (x5 : Int32) (G : zMem) (tr : Int64), fX1_passHour_b75 N t a1 a2 a3 x5 G tr = some (r9, G9, tr9) → zAt p l e (headSpec wsX1_passHour { frames := 1, cells := 0, slots := 0, locals := 23 }).room s m ([.ref (ad t), .ref (ad a1), .int a2, .int a3] : List Value).toArray below meth c 6 D cs ad (zQV below ([.ref (ad t), .ref (ad a1), .int a2, .int a3] : List Value).toArray s D cs ad ((xE ki ad) G9 tr9)) 75 [(0, .ref (ad t)), (5, .int x5)] [] ((xE ki ad) G tr) := by
    intro x5 G tr h H locs ls X hl
    unfold fX1_passHour_b75 at h
    refine lv_aload_n S.1 S.2.1 dX1_passHour_75 rfl (lv_at hl 0 rfl) ?_
    refine lv_dup S.1 S.2.1 dX1_passHour_76 rfl ?_
    refine zr_get (v := .int (G t 4)) S K X ht.2 (xE_L ht) rfl uX1_passHour_X1 4 (by decide) kX1_passHour_30 rfl rfl dX1_passHour_77 ?_
    refine lv_iconst (v := (1 : Int32)) S.1 S.2.1 dX1_passHour_80 (by decide) ?_
    refine lv_iload S.1 S.2.1 dX1_passHour_81 (lv_at hl 1 rfl) ?_
    refine lv_ishl S.1 S.2.1 dX1_passHour_83 ?_
    refine lv_ior S.1 S.2.1 dX1_passHour_84 ?_
    refine zr_put (xv := ((G t 4) ||| ((1 : Int32) <<< (x5 &&& 31)))) (v := .int ((G t 4) ||| ((1 : Int32) <<< (x5 &&& 31)))) (fsf := fsL) (ty := .int) S K X ht.2 xE_loc (fun _ => (xE_L ht)) rfl uX1_passHour_X1 tyX1 tyX1_ok nmX1 4 (by decide) kX1_passHour_30 rfl (by decide +kernel) rfl rfl (by simp) rfl dX1_passHour_85 (fun H locs X => ?_)
    refine lv_iload S.1 S.2.1 dX1_passHour_88 (lv_at hl 1 rfl) ?_
    refine lv_aload_n S.1 S.2.1 dX1_passHour_90 rfl (lv_at hl 0 rfl) ?_
    refine zr_get (v := .int ((up2 G t 4 ((G t 4) ||| ((1 : Int32) <<< (x5 &&& 31)))) t 2)) S K X ht.2 (xE_L ht) rfl uX1_passHour_X1 2 (by decide) kX1_passHour_18 rfl rfl dX1_passHour_91 ?_
    refine lv_icmp_ne (tgt := 102) S.1 S.2.1 dX1_passHour_94 (by decide) (fun hc_1 => ?_) (fun hc_1 => ?_)
    · have h := zif_neg hc_1 h
      exact zr_vret S hr hlk X h dX1_passHour_102
    · have h := zif_pos hc_1 h
      refine lv_aload_n S.1 S.2.1 dX1_passHour_97 rfl (lv_at hl 0 rfl) ?_
      refine lv_iconst (v := (1 : Int32)) S.1 S.2.1 dX1_passHour_98 (by decide) ?_
      refine zr_put (xv := (1 : Int32)) (v := .int (1 : Int32)) (fsf := fsL) (ty := .int) S K X ht.2 xE_loc (fun _ => (xE_L ht)) rfl uX1_passHour_X1 tyX1 tyX1_ok nmX1 5 (by decide) kX1_passHour_33 rfl (by decide +kernel) rfl rfl (by simp) rfl dX1_passHour_99 (fun H locs X => ?_)
      exact zr_vret S hr hlk X h dX1_passHour_102
  unfold fX1_passHour at h
  obtain ⟨H, hH⟩ : ∃ H, H = s.heap := ⟨_, rfl⟩
  obtain ⟨locs, hlo⟩ : ∃ locs : List Loc, locs = [] := ⟨_, rfl⟩
  have X : gS D cs ad ((xE ki ad) G tr) (gA cs ad s.heap.size) s H locs := by rw [hH, hlo]; exact X
  suffices z : W p l e (headSpec wsX1_passHour { frames := 1, cells := 0, slots := 0, locals := 23 }).room s m ([.ref (ad t), .ref (ad a1), .int a2, .int a3] : List Value).toArray below meth c H locs 0 0 (zQV below ([.ref (ad t), .ref (ad a1), .int a2, .int a3] : List Value).toArray s D cs ad ((xE ki ad) G9 tr9)) (F0 m 0 ls []) by rw [hH, hlo] at z; exact z
  clear hH hlo
  refine lv_aload_n S.1 S.2.1 dX1_passHour_0 rfl (lv_at hl 0 rfl) ?_
  refine zr_get (v := .int (G t 5)) S K X ht.2 (xE_L ht) rfl uX1_passHour_X1 5 (by decide) kX1_passHour_33 rfl rfl dX1_passHour_1 ?_
  refine lv_if_eq (tgt := 8) S.1 S.2.1 dX1_passHour_4 (by decide) (fun hc_1 => ?_) (fun hc_1 => ?_)
  · have h := zif_pos hc_1 h
    refine lv_aload_n S.1 S.2.1 dX1_passHour_8 rfl (lv_at hl 1 rfl) ?_
    refine lv_aload_n S.1 S.2.1 dX1_passHour_9 rfl (lv_at hl 0 rfl) ?_
    refine zr_get (v := .int (G t 6)) S K X ht.2 (xE_L ht) rfl uX1_passHour_X1 6 (by decide) kX1_passHour_39 rfl rfl dX1_passHour_10 ?_
    refine lv_iload_n S.1 S.2.1 dX1_passHour_13 rfl (lv_at hl 2 rfl) ?_
    refine lv_aload_n S.1 S.2.1 dX1_passHour_14 rfl (lv_at hl 0 rfl) ?_
    refine zr_get (v := .int (G t 3)) S K X ht.2 (xE_L ht) rfl uX1_passHour_X1 3 (by decide) kX1_passHour_27 rfl rfl dX1_passHour_15 ?_
    obtain ⟨r_3, G_4, tr_5, hf_2, h⟩ := zbd_some h
    refine zr_calli (Eg := (xE ki ad)) K X (va_runV (As := [.int (G t 6), .int a2, .int (G t 3)]) (rest := []) S (mX0_endOf l D ki ad cs  N a1 (G t 6) a2 (G t 3) ha1 G tr H.size _ _ _ hf_2) (cwV 3 S.2.2.2.2 gX1_passHour_X0_endOf rfl rfl rfl (by decide +kernel) ⟨Nat.le_of_ble_eq_true rfl, Nat.le_of_ble_eq_true rfl⟩) (zr_preV (c0 := a1) K X (ha1.2 0 (by decide)) (xE_C ha1) rfl) rfl rfl hl.1 rfl (lv_room (Nat.le_of_ble_eq_true rfl)) dX1_passHour_18 ⟨Nat.zero_le _, Nat.zero_le _⟩) (fun H locs X => ?_)
    refine lv_istore (lv' := [(4, .int r_3), (0, .ref (ad t)), (1, .ref (ad a1)), (2, .int a2), (3, .int a3)]) S.1 S.2.1 dX1_passHour_21 hl (by decide) rfl (fun ls hl => ?_)
    refine lv_iload S.1 S.2.1 dX1_passHour_23 (lv_at hl 0 rfl) ?_
    refine lv_iconst (v := (-1 : Int32)) S.1 S.2.1 dX1_passHour_25 (by decide) ?_
    refine lv_icmp_ne (tgt := 30) S.1 S.2.1 dX1_passHour_26 (by decide) (fun hc_6 => ?_) (fun hc_6 => ?_)
    · have h := zif_neg hc_6 h
      refine lv_aload_n S.1 S.2.1 dX1_passHour_30 rfl (lv_at hl 1 rfl) ?_
      refine lv_iload S.1 S.2.1 dX1_passHour_31 (lv_at hl 0 rfl) ?_
      refine zr_put (xv := r_3) (v := .int r_3) (fsf := fsL) (ty := .int) S K X ht.2 xE_loc (fun _ => (xE_L ht)) rfl uX1_passHour_X1 tyX1 tyX1_ok nmX1 3 (by decide) kX1_passHour_27 rfl (by decide +kernel) rfl rfl (by simp) rfl dX1_passHour_33 (fun H locs X => ?_)
      refine lv_aload_n S.1 S.2.1 dX1_passHour_36 rfl (lv_at hl 2 rfl) ?_
      refine lv_iload S.1 S.2.1 dX1_passHour_37 (lv_at hl 0 rfl) ?_
      obtain ⟨r_8, G_9, tr_10, hf_7, h⟩ := zbd_some h
      refine zr_calli (Eg := (xE ki ad)) K X (va_runV (As := [.int r_3]) (rest := []) S (mX0_onCell l D ki ad cs  N a1 r_3 ha1 (up2 G_4 t 3 r_3) tr_5 H.size _ _ _ hf_7) (cwV 1 S.2.2.2.2 gX1_passHour_X0_onCell rfl rfl rfl (by decide +kernel) ⟨Nat.le_of_ble_eq_true rfl, Nat.le_of_ble_eq_true rfl⟩) (zr_preV (c0 := a1) K X (ha1.2 0 (by decide)) (xE_C ha1) rfl) rfl rfl hl.1 rfl (lv_room (Nat.le_of_ble_eq_true rfl)) dX1_passHour_39 ⟨Nat.zero_le _, Nat.zero_le _⟩) (fun H locs X => ?_)
      refine lv_istore (lv' := [(5, .int r_8), (4, .int r_3), (0, .ref (ad t)), (1, .ref (ad a1)), (2, .int a2), (3, .int a3)]) S.1 S.2.1 dX1_passHour_42 hl (by decide) rfl (fun ls hl => ?_)
      refine lv_iload S.1 S.2.1 dX1_passHour_44 (lv_at hl 0 rfl) ?_
      refine lv_if_ge (tgt := 50) S.1 S.2.1 dX1_passHour_46 (by decide) (fun hc_11 => ?_) (fun hc_11 => ?_)
      · have h := zif_pos hc_11 h
        refine lv_iload S.1 S.2.1 dX1_passHour_50 (lv_at hl 0 rfl) ?_
        refine lv_aload_n S.1 S.2.1 dX1_passHour_52 rfl (lv_at hl 2 rfl) ?_
        refine zr_get (v := .int (G_9 t 2)) S K X ht.2 (xE_L ht) rfl uX1_passHour_X1 2 (by decide) kX1_passHour_18 rfl rfl dX1_passHour_53 ?_
        refine lv_icmp_eq (tgt := 75) S.1 S.2.1 dX1_passHour_56 (by decide) (fun hc_12 => ?_) (fun hc_12 => ?_)
        · have h := zif_pos hc_12 h
          exact b75 r_8 G_9 tr_10 h _ _ _ X (lv_sub hl [2, 0] rfl)
        · have h := zif_neg hc_12 h
          refine lv_iload_n S.1 S.2.1 dX1_passHour_59 rfl (lv_at hl 5 rfl) ?_
          refine lv_iload S.1 S.2.1 dX1_passHour_60 (lv_at hl 0 rfl) ?_
          obtain ⟨r_14, hf_13, h⟩ := zbp_some h
          refine zr_calli (Eg := (xE ki ad)) (G' := G_9) (tr' := tr_10) K X (va_runSN (As := [.int a3, .int r_8]) (rest := []) S (mX4_bitOf l D ki ad cs N a3 r_8 (xE ki ad) G_9 tr_10 H.size _ _ _ (zpu_of hf_13)) ⟨va_cnB 2 S.2.2.2.2 gX1_passHour_X4_bitOf_n49 rfl rfl rfl K.2.1.2.2.2.2 (S.2.2.2.2 _ nX1_passHour_49_i) (by decide +kernel) ⟨Nat.le_of_ble_eq_true rfl, Nat.le_of_ble_eq_true rfl⟩, S.2.2.2.2 _ nX1_passHour_49_s, trivial⟩ (zr_pre K X) rfl rfl hl.1 rfl (lv_room (Nat.le_of_ble_eq_true rfl)) dX1_passHour_62 ⟨Nat.zero_le _, Nat.zero_le _⟩) (fun H locs X => ?_)
          refine lv_iconst (v := (1 : Int32)) S.1 S.2.1 dX1_passHour_65 (by decide) ?_
          refine lv_icmp_ne (tgt := 75) S.1 S.2.1 dX1_passHour_66 (by decide) (fun hc_15 => ?_) (fun hc_15 => ?_)
          · have h := zif_neg hc_15 h
            exact b75 r_8 G_9 tr_10 h _ _ _ X (lv_sub hl [2, 0] rfl)
          · have h := zif_pos hc_15 h
            refine lv_aload_n S.1 S.2.1 dX1_passHour_69 rfl (lv_at hl 2 rfl) ?_
            refine lv_iconst (v := (2 : Int32)) S.1 S.2.1 dX1_passHour_70 (by decide) ?_
            refine zr_put (xv := (2 : Int32)) (v := .int (2 : Int32)) (fsf := fsL) (ty := .int) S K X ht.2 xE_loc (fun _ => (xE_L ht)) rfl uX1_passHour_X1 tyX1 tyX1_ok nmX1 5 (by decide) kX1_passHour_33 rfl (by decide +kernel) rfl rfl (by simp) rfl dX1_passHour_71 (fun H locs X => ?_)
            exact zr_vret S hr hlk X h dX1_passHour_74
      · have h := zif_neg hc_11 h
        exact zr_vret S hr hlk X h dX1_passHour_49
    · have h := zif_pos hc_6 h
      exact zr_vret S hr hlk X h dX1_passHour_29
  · have h := zif_neg hc_1 h
    exact zr_vret S hr hlk X h dX1_passHour_7
set_option maxRecDepth 20000 in
theorem kX2_beginAnew_9 : Cond.fieldLink RX2 9 "WindPost$Moment" "winds" "[I" ∈ wsX2_beginAnew := by decide +kernel
set_option maxRecDepth 20000 in
theorem kX2_beginAnew_22 : Cond.fieldLink RX2 22 "WindPost$Moment" "time" "I" ∈ wsX2_beginAnew := by decide +kernel
set_option maxRecDepth 20000 in
theorem kX2_beginAnew_26 : Cond.fieldLink RX2 26 "WindPost$Moment" "letters" "I" ∈ wsX2_beginAnew := by decide +kernel
set_option maxRecDepth 20000 in
theorem kX2_beginAnew_29 : Cond.fieldLink RX2 29 "WindPost$Moment" "nets" "I" ∈ wsX2_beginAnew := by decide +kernel
set_option maxRecDepth 20000 in
theorem kX2_beginAnew_32 : Cond.fieldLink RX2 32 "WindPost$Chart" "told" "I" ∈ wsX2_beginAnew := by decide +kernel
set_option maxRecDepth 20000 in
theorem kX2_beginAnew_37 : Cond.fieldLink RX2 37 "WindPost$Moment" "told" "I" ∈ wsX2_beginAnew := by decide +kernel
set_option maxRecDepth 20000 in
theorem kX2_beginAnew_38 : Cond.fieldLink RX2 38 "WindPost$Chart" "winds" "[I" ∈ wsX2_beginAnew := by decide +kernel
set_option maxRecDepth 20000 in
theorem uX2_beginAnew_X0 : ∀ w ∈ wsX00, w ∈ wsX2_beginAnew := by decide +kernel
set_option maxRecDepth 20000 in
theorem uX2_beginAnew_X2 : ∀ w ∈ wsX20, w ∈ wsX2_beginAnew := by decide +kernel
set_option maxHeartbeats 8000000 in
set_option maxRecDepth 100000 in
theorem mX2_beginAnew (l : Launch) (D : va_G) (ki : Nat → ClassId) (ad : Nat → Nat) (cs : List Nat) (hcs : kW cs) (N : Nat) (t : Nat) (a1 : Nat) (ht : kM cs t) (ha1 : kC cs a1) (G : zMem) (tr : Int64) : gMetV l D ki ad cs yX2_beginAnew wsX2_beginAnew { frames := 0, cells := 0, slots := 0, locals := 0 } [.ref (ad t), .ref (ad a1)] (xE ki ad) G tr (fX2_beginAnew N t a1 G tr) := by
  refine gMetV_of (cc := cX2_beginAnew) (maxL := 3) (ret := none) (own := RX2) (by decide +kernel) rfl rfl (Nat.le_of_ble_eq_true rfl) ?_
  intro r9 G9 tr9 h p e s m below meth c S hr hlk K X ls hl
  have hl : lv_has ls 3 [(0, .ref (ad t)), (1, .ref (ad a1))] := hl
  have b25 : ∀ (k25 : Int32 → zMem → Int64 → zR) (hk25 : ∀ (x2 : Int32) (G : zMem) (tr : Int64), k25 x2 G tr = some (r9, G9, tr9) → zAt p l e (headSpec wsX2_beginAnew { frames := 0, cells := 0, slots := 0, locals := 0 }).room s m ([.ref (ad t), .ref (ad a1)] : List Value).toArray below meth c 3 D cs ad (zQV below ([.ref (ad t), .ref (ad a1)] : List Value).toArray s D cs ad ((xE ki ad) G9 tr9)) 25 [(0, .ref (ad t)), (1, .ref (ad a1)), (2, .int x2)] [] ((xE ki ad) G tr)) (x2 : Int32) (G : zMem) (tr : Int64), fX2_beginAnew_b25 N t a1 k25 x2 G tr = some (r9, G9, tr9) → zAt p l e (headSpec wsX2_beginAnew { frames := 0, cells := 0, slots := 0, locals := 0 }).room s m ([.ref (ad t), .ref (ad a1)] : List Value).toArray below meth c 3 D cs ad (zQV below ([.ref (ad t), .ref (ad a1)] : List Value).toArray s D cs ad ((xE ki ad) G9 tr9)) 25 [(0, .ref (ad t)), (1, .ref (ad a1)), (2, .int x2)] [] ((xE ki ad) G tr) := by
    intro k25 hk25 x2 G tr h H locs ls X hl
    unfold fX2_beginAnew_b25 at h
    refine lv_iload_n S.1 S.2.1 dX2_beginAnew_25 rfl (lv_at hl 2 rfl) ?_
    refine lv_bipush (v := (12 : Int32)) S.1 S.2.1 dX2_beginAnew_26 (by decide) ?_
    refine lv_icmp_ge (tgt := 49) S.1 S.2.1 dX2_beginAnew_28 (by decide) (fun hc_1 => ?_) (fun hc_1 => ?_)
    · have h := zif_pos hc_1 h
      exact zr_vret S hr hlk X h dX2_beginAnew_49
    · have h := zif_neg hc_1 h
      refine lv_aload_n S.1 S.2.1 dX2_beginAnew_31 rfl (lv_at hl 0 rfl) ?_
      refine zr_get (v := .ref (ad (t + 1))) S K X (ht.2 0 (by decide)) (xE_M ht) rfl uX2_beginAnew_X2 4 (by decide) kX2_beginAnew_9 rfl rfl dX2_beginAnew_32 ?_
      refine lv_iload_n S.1 S.2.1 dX2_beginAnew_35 rfl (lv_at hl 2 rfl) ?_
      refine lv_aload_n S.1 S.2.1 dX2_beginAnew_36 rfl (lv_at hl 1 rfl) ?_
      refine zr_get (v := .ref (ad (a1 + 3))) S K X (ha1.2 0 (by decide)) (xE_C ha1) rfl uX2_beginAnew_X0 8 (by decide) kX2_beginAnew_38 rfl rfl dX2_beginAnew_37 ?_
      refine lv_iload_n S.1 S.2.1 dX2_beginAnew_40 rfl (lv_at hl 2 rfl) ?_
      obtain ⟨hi_2, h⟩ := zin_some h
      refine zr_iald S K X (ha1.2 3 (by decide)) (xE_C3 ha1) hi_2 dX2_beginAnew_41 ?_
      obtain ⟨hi_3, h⟩ := zin_some h
      refine zr_iast S K X (ht.2 1 (by decide)) xE_loc (fun _ => (xE_M1 ht)) hi_3 dX2_beginAnew_42 (fun H locs X => ?_)
      refine lv_iinc (v := (x2 + 1)) (lv' := [(2, .int (x2 + 1)), (0, .ref (ad t)), (1, .ref (ad a1))]) S.1 S.2.1 dX2_beginAnew_43 hl (k := 2) rfl rfl (by decide) rfl (fun ls hl => ?_)
      refine lv_goto (tgt := 25) S.1 S.2.1 dX2_beginAnew_46 (by decide) ?_
      exact hk25 (x2 + 1) (up2 G (t + 1) (Int32.toNatClampNeg x2) (G (a1 + 3) (Int32.toNatClampNeg x2))) tr h _ _ _ X (lv_sub hl [1, 2, 0] rfl)
  have L25 : ∀ (n : Nat) (x2 : Int32) (G : zMem) (tr : Int64), fX2_beginAnew_L25 N t a1 n x2 G tr = some (r9, G9, tr9) → zAt p l e (headSpec wsX2_beginAnew { frames := 0, cells := 0, slots := 0, locals := 0 }).room s m ([.ref (ad t), .ref (ad a1)] : List Value).toArray below meth c 3 D cs ad (zQV below ([.ref (ad t), .ref (ad a1)] : List Value).toArray s D cs ad ((xE ki ad) G9 tr9)) 25 [(0, .ref (ad t)), (1, .ref (ad a1)), (2, .int x2)] [] ((xE ki ad) G tr) := by
    intro n
    induction n with
    | zero => intro x2 G tr h; cases h
    | succ n ih => intro x2 G tr h; exact b25 (fX2_beginAnew_L25 N t a1 n) ih x2 G tr h
  unfold fX2_beginAnew at h
  obtain ⟨H, hH⟩ : ∃ H, H = s.heap := ⟨_, rfl⟩
  obtain ⟨locs, hlo⟩ : ∃ locs : List Loc, locs = [] := ⟨_, rfl⟩
  have X : gS D cs ad ((xE ki ad) G tr) (gA cs ad s.heap.size) s H locs := by rw [hH, hlo]; exact X
  suffices z : W p l e (headSpec wsX2_beginAnew { frames := 0, cells := 0, slots := 0, locals := 0 }).room s m ([.ref (ad t), .ref (ad a1)] : List Value).toArray below meth c H locs 0 0 (zQV below ([.ref (ad t), .ref (ad a1)] : List Value).toArray s D cs ad ((xE ki ad) G9 tr9)) (F0 m 0 ls []) by rw [hH, hlo] at z; exact z
  clear hH hlo
  refine lv_aload_n S.1 S.2.1 dX2_beginAnew_0 rfl (lv_at hl 0 rfl) ?_
  refine lv_iconst (v := (0 : Int32)) S.1 S.2.1 dX2_beginAnew_1 (by decide) ?_
  refine zr_put (xv := (0 : Int32)) (v := .int (0 : Int32)) (fsf := (fsM ad t)) (ty := .int) S K X (ht.2 0 (by decide)) xE_loc (fun _ => (xE_M ht)) rfl uX2_beginAnew_X2 tyX2 tyX2_ok nmX2 0 (by decide) kX2_beginAnew_22 rfl (by decide +kernel) rfl rfl (by simp) rfl dX2_beginAnew_2 (fun H locs X => ?_)
  refine lv_aload_n S.1 S.2.1 dX2_beginAnew_5 rfl (lv_at hl 0 rfl) ?_
  refine lv_iconst (v := (0 : Int32)) S.1 S.2.1 dX2_beginAnew_6 (by decide) ?_
  refine zr_put (xv := (0 : Int32)) (v := .int (0 : Int32)) (fsf := (fsM ad t)) (ty := .int) S K X (ht.2 0 (by decide)) xE_loc (fun _ => (xE_M ht)) rfl uX2_beginAnew_X2 tyX2 tyX2_ok nmX2 1 (by decide) kX2_beginAnew_26 rfl (by decide +kernel) rfl rfl (by simp) rfl dX2_beginAnew_7 (fun H locs X => ?_)
  refine lv_aload_n S.1 S.2.1 dX2_beginAnew_10 rfl (lv_at hl 0 rfl) ?_
  refine lv_iconst (v := (0 : Int32)) S.1 S.2.1 dX2_beginAnew_11 (by decide) ?_
  refine zr_put (xv := (0 : Int32)) (v := .int (0 : Int32)) (fsf := (fsM ad t)) (ty := .int) S K X (ht.2 0 (by decide)) xE_loc (fun _ => (xE_M ht)) rfl uX2_beginAnew_X2 tyX2 tyX2_ok nmX2 2 (by decide) kX2_beginAnew_29 rfl (by decide +kernel) rfl rfl (by simp) rfl dX2_beginAnew_12 (fun H locs X => ?_)
  refine lv_aload_n S.1 S.2.1 dX2_beginAnew_15 rfl (lv_at hl 0 rfl) ?_
  refine lv_aload_n S.1 S.2.1 dX2_beginAnew_16 rfl (lv_at hl 1 rfl) ?_
  refine zr_get (v := .int ((up2 (up2 (up2 G t 0 (0 : Int32)) t 1 (0 : Int32)) t 2 (0 : Int32)) a1 5)) S K X (ha1.2 0 (by decide)) (xE_C ha1) rfl uX2_beginAnew_X0 5 (by decide) kX2_beginAnew_32 rfl rfl dX2_beginAnew_17 ?_
  refine zr_put (xv := ((up2 (up2 (up2 G t 0 (0 : Int32)) t 1 (0 : Int32)) t 2 (0 : Int32)) a1 5)) (v := .int ((up2 (up2 (up2 G t 0 (0 : Int32)) t 1 (0 : Int32)) t 2 (0 : Int32)) a1 5)) (fsf := (fsM ad t)) (ty := .int) S K X (ht.2 0 (by decide)) xE_loc (fun _ => (xE_M ht)) rfl uX2_beginAnew_X2 tyX2 tyX2_ok nmX2 3 (by decide) kX2_beginAnew_37 rfl (by decide +kernel) rfl rfl (by simp) rfl dX2_beginAnew_20 (fun H locs X => ?_)
  refine lv_iconst (v := (0 : Int32)) S.1 S.2.1 dX2_beginAnew_23 (by decide) ?_
  refine lv_istore_n (lv' := [(2, .int (0 : Int32)), (0, .ref (ad t)), (1, .ref (ad a1))]) S.1 S.2.1 dX2_beginAnew_24 rfl hl (by decide) rfl (fun ls hl => ?_)
  exact L25 N (0 : Int32) (up2 (up2 (up2 (up2 G t 0 (0 : Int32)) t 1 (0 : Int32)) t 2 (0 : Int32)) t 3 ((up2 (up2 (up2 G t 0 (0 : Int32)) t 1 (0 : Int32)) t 2 (0 : Int32)) a1 5)) tr h _ _ _ X (lv_sub hl [1, 2, 0] rfl)
set_option maxRecDepth 20000 in
theorem kX2_copyFrom_9 : Cond.fieldLink RX2 9 "WindPost$Moment" "winds" "[I" ∈ wsX2_copyFrom := by decide +kernel
set_option maxRecDepth 20000 in
theorem kX2_copyFrom_17 : Cond.fieldLink RX2 17 "WindPost$Moment" "post" "[LWindPost$Letter;" ∈ wsX2_copyFrom := by decide +kernel
set_option maxRecDepth 20000 in
theorem kX2_copyFrom_22 : Cond.fieldLink RX2 22 "WindPost$Moment" "time" "I" ∈ wsX2_copyFrom := by decide +kernel
set_option maxRecDepth 20000 in
theorem kX2_copyFrom_26 : Cond.fieldLink RX2 26 "WindPost$Moment" "letters" "I" ∈ wsX2_copyFrom := by decide +kernel
set_option maxRecDepth 20000 in
theorem kX2_copyFrom_29 : Cond.fieldLink RX2 29 "WindPost$Moment" "nets" "I" ∈ wsX2_copyFrom := by decide +kernel
set_option maxRecDepth 20000 in
theorem kX2_copyFrom_37 : Cond.fieldLink RX2 37 "WindPost$Moment" "told" "I" ∈ wsX2_copyFrom := by decide +kernel
set_option maxRecDepth 20000 in
theorem uX2_copyFrom_X2 : ∀ w ∈ wsX20, w ∈ wsX2_copyFrom := by decide +kernel
set_option maxHeartbeats 8000000 in
set_option maxRecDepth 100000 in
theorem mX2_copyFrom (l : Launch) (D : va_G) (ki : Nat → ClassId) (ad : Nat → Nat) (cs : List Nat) (hcs : kW cs) (N : Nat) (t : Nat) (a1 : Nat) (ht : kM cs t) (ha1 : kM cs a1) (G : zMem) (tr : Int64) : gMetV l D ki ad cs yX2_copyFrom wsX2_copyFrom { frames := 1, cells := 0, slots := 0, locals := 21 } [.ref (ad t), .ref (ad a1)] (xE ki ad) G tr (fX2_copyFrom N t a1 G tr) := by
  refine gMetV_of (cc := cX2_copyFrom) (maxL := 3) (ret := none) (own := RX2) (by decide +kernel) rfl rfl (Nat.le_of_ble_eq_true rfl) ?_
  intro r9 G9 tr9 h p e s m below meth c S hr hlk K X ls hl
  have hl : lv_has ls 3 [(0, .ref (ad t)), (1, .ref (ad a1))] := hl
  have b60 : ∀ (k60 : Int32 → zMem → Int64 → zR) (hk60 : ∀ (x2 : Int32) (G : zMem) (tr : Int64), k60 x2 G tr = some (r9, G9, tr9) → zAt p l e (headSpec wsX2_copyFrom { frames := 1, cells := 0, slots := 0, locals := 21 }).room s m ([.ref (ad t), .ref (ad a1)] : List Value).toArray below meth c 3 D cs ad (zQV below ([.ref (ad t), .ref (ad a1)] : List Value).toArray s D cs ad ((xE ki ad) G9 tr9)) 60 [(0, .ref (ad t)), (1, .ref (ad a1)), (2, .int x2)] [] ((xE ki ad) G tr)) (x2 : Int32) (G : zMem) (tr : Int64), fX2_copyFrom_b60 N t a1 k60 x2 G tr = some (r9, G9, tr9) → zAt p l e (headSpec wsX2_copyFrom { frames := 1, cells := 0, slots := 0, locals := 21 }).room s m ([.ref (ad t), .ref (ad a1)] : List Value).toArray below meth c 3 D cs ad (zQV below ([.ref (ad t), .ref (ad a1)] : List Value).toArray s D cs ad ((xE ki ad) G9 tr9)) 60 [(0, .ref (ad t)), (1, .ref (ad a1)), (2, .int x2)] [] ((xE ki ad) G tr) := by
    intro k60 hk60 x2 G tr h H locs ls X hl
    unfold fX2_copyFrom_b60 at h
    refine lv_iload_n S.1 S.2.1 dX2_copyFrom_60 rfl (lv_at hl 2 rfl) ?_
    refine lv_iconst (v := (5 : Int32)) S.1 S.2.1 dX2_copyFrom_61 (by decide) ?_
    refine lv_icmp_ge (tgt := 86) S.1 S.2.1 dX2_copyFrom_62 (by decide) (fun hc_1 => ?_) (fun hc_1 => ?_)
    · have h := zif_pos hc_1 h
      exact zr_vret S hr hlk X h dX2_copyFrom_86
    · have h := zif_neg hc_1 h
      refine lv_aload_n S.1 S.2.1 dX2_copyFrom_65 rfl (lv_at hl 0 rfl) ?_
      refine zr_get (v := .ref (ad (t + 2))) S K X (ht.2 0 (by decide)) (xE_M ht) rfl uX2_copyFrom_X2 5 (by decide) kX2_copyFrom_17 rfl rfl dX2_copyFrom_66 ?_
      refine lv_iload_n S.1 S.2.1 dX2_copyFrom_69 rfl (lv_at hl 2 rfl) ?_
      obtain ⟨hi_2, h⟩ := zin_some h
      refine zr_aald (f := (fun j => (t + 3) + j)) (t0 := 2) (C := "WindPost$Letter") S K X (ht.2 2 (by decide)) (xE_M2 ht) rfl hi_2 dX2_copyFrom_70 ?_
      refine lv_aload_n S.1 S.2.1 dX2_copyFrom_71 rfl (lv_at hl 1 rfl) ?_
      refine zr_get (v := .ref (ad (a1 + 2))) S K X (ha1.2 0 (by decide)) (xE_M ha1) rfl uX2_copyFrom_X2 5 (by decide) kX2_copyFrom_17 rfl rfl dX2_copyFrom_72 ?_
      refine lv_iload_n S.1 S.2.1 dX2_copyFrom_75 rfl (lv_at hl 2 rfl) ?_
      obtain ⟨hi_3, h⟩ := zin_some h
      refine zr_aald (f := (fun j => (a1 + 3) + j)) (t0 := 2) (C := "WindPost$Letter") S K X (ha1.2 2 (by decide)) (xE_M2 ha1) rfl hi_3 dX2_copyFrom_76 ?_
      obtain ⟨r_5, G_6, tr_7, hf_4, h⟩ := zbd_some h
      refine zr_callv (Eg := (xE ki ad)) K X (va_runV (As := [.ref (ad ((a1 + 3) + (Int32.toNatClampNeg x2)))]) (rest := []) S (mX1_copyFrom l D ki ad cs hcs N ((t + 3) + (Int32.toNatClampNeg x2)) ((a1 + 3) + (Int32.toNatClampNeg x2)) (kL_post ht hi_2) (kL_post ha1 hi_3) G tr H.size _ _ _ hf_4) (cwV 1 S.2.2.2.2 gX2_copyFrom_X1_copyFrom rfl rfl rfl (by decide +kernel) ⟨Nat.le_of_ble_eq_true rfl, Nat.le_of_ble_eq_true rfl⟩) (zr_preV (c0 := ((t + 3) + (Int32.toNatClampNeg x2))) K X (kL_post ht hi_2).2 (xE_L (kL_post ht hi_2)) rfl) rfl rfl hl.1 rfl (lv_room (Nat.le_of_ble_eq_true rfl)) dX2_copyFrom_77 ⟨Nat.zero_le _, Nat.zero_le _⟩) (fun H locs X => ?_)
      refine lv_iinc (v := (x2 + 1)) (lv' := [(2, .int (x2 + 1)), (0, .ref (ad t)), (1, .ref (ad a1))]) S.1 S.2.1 dX2_copyFrom_80 hl (k := 2) rfl rfl (by decide) rfl (fun ls hl => ?_)
      refine lv_goto (tgt := 60) S.1 S.2.1 dX2_copyFrom_83 (by decide) ?_
      exact hk60 (x2 + 1) G_6 tr_7 h _ _ _ X (lv_sub hl [1, 2, 0] rfl)
  have L60 : ∀ (n : Nat) (x2 : Int32) (G : zMem) (tr : Int64), fX2_copyFrom_L60 N t a1 n x2 G tr = some (r9, G9, tr9) → zAt p l e (headSpec wsX2_copyFrom { frames := 1, cells := 0, slots := 0, locals := 21 }).room s m ([.ref (ad t), .ref (ad a1)] : List Value).toArray below meth c 3 D cs ad (zQV below ([.ref (ad t), .ref (ad a1)] : List Value).toArray s D cs ad ((xE ki ad) G9 tr9)) 60 [(0, .ref (ad t)), (1, .ref (ad a1)), (2, .int x2)] [] ((xE ki ad) G tr) := by
    intro n
    induction n with
    | zero => intro x2 G tr h; cases h
    | succ n ih => intro x2 G tr h; exact b60 (fX2_copyFrom_L60 N t a1 n) ih x2 G tr h
  have b34 : ∀ (k34 : Int32 → zMem → Int64 → zR) (hk34 : ∀ (x2 : Int32) (G : zMem) (tr : Int64), k34 x2 G tr = some (r9, G9, tr9) → zAt p l e (headSpec wsX2_copyFrom { frames := 1, cells := 0, slots := 0, locals := 21 }).room s m ([.ref (ad t), .ref (ad a1)] : List Value).toArray below meth c 3 D cs ad (zQV below ([.ref (ad t), .ref (ad a1)] : List Value).toArray s D cs ad ((xE ki ad) G9 tr9)) 34 [(0, .ref (ad t)), (1, .ref (ad a1)), (2, .int x2)] [] ((xE ki ad) G tr)) (x2 : Int32) (G : zMem) (tr : Int64), fX2_copyFrom_b34 N t a1 k34 x2 G tr = some (r9, G9, tr9) → zAt p l e (headSpec wsX2_copyFrom { frames := 1, cells := 0, slots := 0, locals := 21 }).room s m ([.ref (ad t), .ref (ad a1)] : List Value).toArray below meth c 3 D cs ad (zQV below ([.ref (ad t), .ref (ad a1)] : List Value).toArray s D cs ad ((xE ki ad) G9 tr9)) 34 [(0, .ref (ad t)), (1, .ref (ad a1)), (2, .int x2)] [] ((xE ki ad) G tr) := by
    intro k34 hk34 x2 G tr h H locs ls X hl
    unfold fX2_copyFrom_b34 at h
    refine lv_iload_n S.1 S.2.1 dX2_copyFrom_34 rfl (lv_at hl 2 rfl) ?_
    refine lv_bipush (v := (12 : Int32)) S.1 S.2.1 dX2_copyFrom_35 (by decide) ?_
    refine lv_icmp_ge (tgt := 58) S.1 S.2.1 dX2_copyFrom_37 (by decide) (fun hc_1 => ?_) (fun hc_1 => ?_)
    · have h := zif_pos hc_1 h
      refine lv_iconst (v := (0 : Int32)) S.1 S.2.1 dX2_copyFrom_58 (by decide) ?_
      refine lv_istore_n (lv' := [(2, .int (0 : Int32)), (0, .ref (ad t)), (1, .ref (ad a1))]) S.1 S.2.1 dX2_copyFrom_59 rfl hl (by decide) rfl (fun ls hl => ?_)
      exact L60 N (0 : Int32) G tr h _ _ _ X (lv_sub hl [1, 2, 0] rfl)
    · have h := zif_neg hc_1 h
      refine lv_aload_n S.1 S.2.1 dX2_copyFrom_40 rfl (lv_at hl 0 rfl) ?_
      refine zr_get (v := .ref (ad (t + 1))) S K X (ht.2 0 (by decide)) (xE_M ht) rfl uX2_copyFrom_X2 4 (by decide) kX2_copyFrom_9 rfl rfl dX2_copyFrom_41 ?_
      refine lv_iload_n S.1 S.2.1 dX2_copyFrom_44 rfl (lv_at hl 2 rfl) ?_
      refine lv_aload_n S.1 S.2.1 dX2_copyFrom_45 rfl (lv_at hl 1 rfl) ?_
      refine zr_get (v := .ref (ad (a1 + 1))) S K X (ha1.2 0 (by decide)) (xE_M ha1) rfl uX2_copyFrom_X2 4 (by decide) kX2_copyFrom_9 rfl rfl dX2_copyFrom_46 ?_
      refine lv_iload_n S.1 S.2.1 dX2_copyFrom_49 rfl (lv_at hl 2 rfl) ?_
      obtain ⟨hi_2, h⟩ := zin_some h
      refine zr_iald S K X (ha1.2 1 (by decide)) (xE_M1 ha1) hi_2 dX2_copyFrom_50 ?_
      obtain ⟨hi_3, h⟩ := zin_some h
      refine zr_iast S K X (ht.2 1 (by decide)) xE_loc (fun _ => (xE_M1 ht)) hi_3 dX2_copyFrom_51 (fun H locs X => ?_)
      refine lv_iinc (v := (x2 + 1)) (lv' := [(2, .int (x2 + 1)), (0, .ref (ad t)), (1, .ref (ad a1))]) S.1 S.2.1 dX2_copyFrom_52 hl (k := 2) rfl rfl (by decide) rfl (fun ls hl => ?_)
      refine lv_goto (tgt := 34) S.1 S.2.1 dX2_copyFrom_55 (by decide) ?_
      exact hk34 (x2 + 1) (up2 G (t + 1) (Int32.toNatClampNeg x2) (G (a1 + 1) (Int32.toNatClampNeg x2))) tr h _ _ _ X (lv_sub hl [1, 2, 0] rfl)
  have L34 : ∀ (n : Nat) (x2 : Int32) (G : zMem) (tr : Int64), fX2_copyFrom_L34 N t a1 n x2 G tr = some (r9, G9, tr9) → zAt p l e (headSpec wsX2_copyFrom { frames := 1, cells := 0, slots := 0, locals := 21 }).room s m ([.ref (ad t), .ref (ad a1)] : List Value).toArray below meth c 3 D cs ad (zQV below ([.ref (ad t), .ref (ad a1)] : List Value).toArray s D cs ad ((xE ki ad) G9 tr9)) 34 [(0, .ref (ad t)), (1, .ref (ad a1)), (2, .int x2)] [] ((xE ki ad) G tr) := by
    intro n
    induction n with
    | zero => intro x2 G tr h; cases h
    | succ n ih => intro x2 G tr h; exact b34 (fX2_copyFrom_L34 N t a1 n) ih x2 G tr h
  unfold fX2_copyFrom at h
  obtain ⟨H, hH⟩ : ∃ H, H = s.heap := ⟨_, rfl⟩
  obtain ⟨locs, hlo⟩ : ∃ locs : List Loc, locs = [] := ⟨_, rfl⟩
  have X : gS D cs ad ((xE ki ad) G tr) (gA cs ad s.heap.size) s H locs := by rw [hH, hlo]; exact X
  suffices z : W p l e (headSpec wsX2_copyFrom { frames := 1, cells := 0, slots := 0, locals := 21 }).room s m ([.ref (ad t), .ref (ad a1)] : List Value).toArray below meth c H locs 0 0 (zQV below ([.ref (ad t), .ref (ad a1)] : List Value).toArray s D cs ad ((xE ki ad) G9 tr9)) (F0 m 0 ls []) by rw [hH, hlo] at z; exact z
  clear hH hlo
  refine lv_aload_n S.1 S.2.1 dX2_copyFrom_0 rfl (lv_at hl 0 rfl) ?_
  refine lv_aload_n S.1 S.2.1 dX2_copyFrom_1 rfl (lv_at hl 1 rfl) ?_
  refine zr_get (v := .int (G a1 0)) S K X (ha1.2 0 (by decide)) (xE_M ha1) rfl uX2_copyFrom_X2 0 (by decide) kX2_copyFrom_22 rfl rfl dX2_copyFrom_2 ?_
  refine zr_put (xv := (G a1 0)) (v := .int (G a1 0)) (fsf := (fsM ad t)) (ty := .int) S K X (ht.2 0 (by decide)) xE_loc (fun _ => (xE_M ht)) rfl uX2_copyFrom_X2 tyX2 tyX2_ok nmX2 0 (by decide) kX2_copyFrom_22 rfl (by decide +kernel) rfl rfl (by simp) rfl dX2_copyFrom_5 (fun H locs X => ?_)
  refine lv_aload_n S.1 S.2.1 dX2_copyFrom_8 rfl (lv_at hl 0 rfl) ?_
  refine lv_aload_n S.1 S.2.1 dX2_copyFrom_9 rfl (lv_at hl 1 rfl) ?_
  refine zr_get (v := .int ((up2 G t 0 (G a1 0)) a1 1)) S K X (ha1.2 0 (by decide)) (xE_M ha1) rfl uX2_copyFrom_X2 1 (by decide) kX2_copyFrom_26 rfl rfl dX2_copyFrom_10 ?_
  refine zr_put (xv := ((up2 G t 0 (G a1 0)) a1 1)) (v := .int ((up2 G t 0 (G a1 0)) a1 1)) (fsf := (fsM ad t)) (ty := .int) S K X (ht.2 0 (by decide)) xE_loc (fun _ => (xE_M ht)) rfl uX2_copyFrom_X2 tyX2 tyX2_ok nmX2 1 (by decide) kX2_copyFrom_26 rfl (by decide +kernel) rfl rfl (by simp) rfl dX2_copyFrom_13 (fun H locs X => ?_)
  refine lv_aload_n S.1 S.2.1 dX2_copyFrom_16 rfl (lv_at hl 0 rfl) ?_
  refine lv_aload_n S.1 S.2.1 dX2_copyFrom_17 rfl (lv_at hl 1 rfl) ?_
  refine zr_get (v := .int ((up2 (up2 G t 0 (G a1 0)) t 1 ((up2 G t 0 (G a1 0)) a1 1)) a1 2)) S K X (ha1.2 0 (by decide)) (xE_M ha1) rfl uX2_copyFrom_X2 2 (by decide) kX2_copyFrom_29 rfl rfl dX2_copyFrom_18 ?_
  refine zr_put (xv := ((up2 (up2 G t 0 (G a1 0)) t 1 ((up2 G t 0 (G a1 0)) a1 1)) a1 2)) (v := .int ((up2 (up2 G t 0 (G a1 0)) t 1 ((up2 G t 0 (G a1 0)) a1 1)) a1 2)) (fsf := (fsM ad t)) (ty := .int) S K X (ht.2 0 (by decide)) xE_loc (fun _ => (xE_M ht)) rfl uX2_copyFrom_X2 tyX2 tyX2_ok nmX2 2 (by decide) kX2_copyFrom_29 rfl (by decide +kernel) rfl rfl (by simp) rfl dX2_copyFrom_21 (fun H locs X => ?_)
  refine lv_aload_n S.1 S.2.1 dX2_copyFrom_24 rfl (lv_at hl 0 rfl) ?_
  refine lv_aload_n S.1 S.2.1 dX2_copyFrom_25 rfl (lv_at hl 1 rfl) ?_
  refine zr_get (v := .int ((up2 (up2 (up2 G t 0 (G a1 0)) t 1 ((up2 G t 0 (G a1 0)) a1 1)) t 2 ((up2 (up2 G t 0 (G a1 0)) t 1 ((up2 G t 0 (G a1 0)) a1 1)) a1 2)) a1 3)) S K X (ha1.2 0 (by decide)) (xE_M ha1) rfl uX2_copyFrom_X2 3 (by decide) kX2_copyFrom_37 rfl rfl dX2_copyFrom_26 ?_
  refine zr_put (xv := ((up2 (up2 (up2 G t 0 (G a1 0)) t 1 ((up2 G t 0 (G a1 0)) a1 1)) t 2 ((up2 (up2 G t 0 (G a1 0)) t 1 ((up2 G t 0 (G a1 0)) a1 1)) a1 2)) a1 3)) (v := .int ((up2 (up2 (up2 G t 0 (G a1 0)) t 1 ((up2 G t 0 (G a1 0)) a1 1)) t 2 ((up2 (up2 G t 0 (G a1 0)) t 1 ((up2 G t 0 (G a1 0)) a1 1)) a1 2)) a1 3)) (fsf := (fsM ad t)) (ty := .int) S K X (ht.2 0 (by decide)) xE_loc (fun _ => (xE_M ht)) rfl uX2_copyFrom_X2 tyX2 tyX2_ok nmX2 3 (by decide) kX2_copyFrom_37 rfl (by decide +kernel) rfl rfl (by simp) rfl dX2_copyFrom_29 (fun H locs X => ?_)
  refine lv_iconst (v := (0 : Int32)) S.1 S.2.1 dX2_copyFrom_32 (by decide) ?_
  refine lv_istore_n (lv' := [(2, .int (0 : Int32)), (0, .ref (ad t)), (1, .ref (ad a1))]) S.1 S.2.1 dX2_copyFrom_33 rfl hl (by decide) rfl (fun ls hl => ?_)
  exact L34 N (0 : Int32) (up2 (up2 (up2 (up2 G t 0 (G a1 0)) t 1 ((up2 G t 0 (G a1 0)) a1 1)) t 2 ((up2 (up2 G t 0 (G a1 0)) t 1 ((up2 G t 0 (G a1 0)) a1 1)) a1 2)) t 3 ((up2 (up2 (up2 G t 0 (G a1 0)) t 1 ((up2 G t 0 (G a1 0)) a1 1)) t 2 ((up2 (up2 G t 0 (G a1 0)) t 1 ((up2 G t 0 (G a1 0)) a1 1)) a1 2)) a1 3)) tr h _ _ _ X (lv_sub hl [1, 2, 0] rfl)

set_option maxHeartbeats 8000000 in
set_option maxRecDepth 100000 in
theorem mJ9_floorMod_7cf53 (l : Launch) (D : va_G) (ki : Nat → ClassId) (ad : Nat → Nat) (cs : List Nat) (N : Nat) (a0 : Int32) (a1 : Int32) (Eg : zMem → Int64 → Nat → va_E) (G : zMem) (tr : Int64) : gMetI l D ki ad cs yJ9_floorMod_7cf53 wsJ9_floorMod_7cf53 { frames := 0, cells := 0, slots := 0, locals := 0 } [.int a0, .int a1] Eg G tr (zpu (fJ9_floorMod_7cf53 N a0 a1) G tr) := by
  refine gMetI_of (cc := cJ9_floorMod_7cf53) (maxL := 3) (ret := (some .int)) (own := RJ9) (by decide +kernel) rfl rfl (Nat.le_of_ble_eq_true rfl) ?_
  intro r9 G9 tr9 h p e s m below meth c S hr hlk K X ls hl
  obtain ⟨h0, rfl, rfl⟩ := zpu_some h
  clear h
  have h := h0
  clear h0
  have hl : lv_has ls 3 [(0, .int a0), (1, .int a1)] := hl
  unfold fJ9_floorMod_7cf53 at h
  obtain ⟨H, hH⟩ : ∃ H, H = s.heap := ⟨_, rfl⟩
  obtain ⟨locs, hlo⟩ : ∃ locs : List Loc, locs = [] := ⟨_, rfl⟩
  have X : gS D cs ad (Eg G tr) (gA cs ad s.heap.size) s H locs := by rw [hH, hlo]; exact X
  suffices z : W p l e (headSpec wsJ9_floorMod_7cf53 { frames := 0, cells := 0, slots := 0, locals := 0 }).room s m ([.int a0, .int a1] : List Value).toArray below meth c H locs 0 0 (zQI below ([.int a0, .int a1] : List Value).toArray s D cs ad (Eg G tr) r9) (F0 m 0 ls []) by rw [hH, hlo] at z; exact z
  clear hH hlo
  refine lv_iload_n S.1 S.2.1 dJ9_floorMod_7cf53_0 rfl (lv_at hl 0 rfl) ?_
  refine lv_iload_n S.1 S.2.1 dJ9_floorMod_7cf53_1 rfl (lv_at hl 1 rfl) ?_
  obtain ⟨hz_1, h⟩ := zdv_some h
  refine lv_irem S.1 S.2.1 dJ9_floorMod_7cf53_2 hz_1 ?_
  refine lv_istore_n (lv' := [(2, .int (a0 - a0 / a1 * a1)), (0, .int a0), (1, .int a1)]) S.1 S.2.1 dJ9_floorMod_7cf53_3 rfl hl (by decide) rfl (fun ls hl => ?_)
  refine lv_iload_n S.1 S.2.1 dJ9_floorMod_7cf53_4 rfl (lv_at hl 1 rfl) ?_
  refine lv_iload_n S.1 S.2.1 dJ9_floorMod_7cf53_5 rfl (lv_at hl 2 rfl) ?_
  refine lv_ixor S.1 S.2.1 dJ9_floorMod_7cf53_6 ?_
  refine lv_if_ge (tgt := 18) S.1 S.2.1 dJ9_floorMod_7cf53_7 (by decide) (fun hc_2 => ?_) (fun hc_2 => ?_)
  · have h := zif_pos hc_2 h
    refine lv_iload_n S.1 S.2.1 dJ9_floorMod_7cf53_18 rfl (lv_at hl 0 rfl) ?_
    exact zr_iretP S hr hlk X h dJ9_floorMod_7cf53_19
  · have h := zif_neg hc_2 h
    refine lv_iload_n S.1 S.2.1 dJ9_floorMod_7cf53_10 rfl (lv_at hl 0 rfl) ?_
    refine lv_if_eq (tgt := 18) S.1 S.2.1 dJ9_floorMod_7cf53_11 (by decide) (fun hc_3 => ?_) (fun hc_3 => ?_)
    · have h := zif_pos hc_3 h
      refine lv_iload_n S.1 S.2.1 dJ9_floorMod_7cf53_18 rfl (lv_at hl 0 rfl) ?_
      exact zr_iretP S hr hlk X h dJ9_floorMod_7cf53_19
    · have h := zif_neg hc_3 h
      refine lv_iload_n S.1 S.2.1 dJ9_floorMod_7cf53_14 rfl (lv_at hl 0 rfl) ?_
      refine lv_iload_n S.1 S.2.1 dJ9_floorMod_7cf53_15 rfl (lv_at hl 2 rfl) ?_
      refine lv_iadd S.1 S.2.1 dJ9_floorMod_7cf53_16 ?_
      exact zr_iretP S hr hlk X h dJ9_floorMod_7cf53_17
set_option maxRecDepth 20000 in
theorem kX2_windOf_9 : Cond.fieldLink RX2 9 "WindPost$Moment" "winds" "[I" ∈ wsX2_windOf := by decide +kernel
set_option maxRecDepth 20000 in
theorem kX2_windOf_37 : Cond.fieldLink RX2 37 "WindPost$Moment" "told" "I" ∈ wsX2_windOf := by decide +kernel
set_option maxRecDepth 20000 in
theorem uX2_windOf_X2 : ∀ w ∈ wsX20, w ∈ wsX2_windOf := by decide +kernel
set_option maxHeartbeats 8000000 in
set_option maxRecDepth 100000 in
theorem mX2_windOf (l : Launch) (D : va_G) (ki : Nat → ClassId) (ad : Nat → Nat) (cs : List Nat) (hcs : kW cs) (N : Nat) (t : Nat) (a1 : Int32) (ht : kM cs t) (G : zMem) (tr : Int64) : gMetI l D ki ad cs yX2_windOf wsX2_windOf { frames := 1, cells := 0, slots := 0, locals := 22 } [.ref (ad t), .int a1] (xE ki ad) G tr (fX2_windOf N t a1 G tr) := by
  refine gMetI_of (cc := cX2_windOf) (maxL := 2) (ret := (some .int)) (own := RX2) (by decide +kernel) rfl rfl (Nat.le_of_ble_eq_true rfl) ?_
  intro r9 G9 tr9 h p e s m below meth c S hr hlk K X ls hl
  have hl : lv_has ls 2 [(0, .ref (ad t)), (1, .int a1)] := hl
  unfold fX2_windOf at h
  obtain ⟨H, hH⟩ : ∃ H, H = s.heap := ⟨_, rfl⟩
  obtain ⟨locs, hlo⟩ : ∃ locs : List Loc, locs = [] := ⟨_, rfl⟩
  have X : gS D cs ad ((xE ki ad) G tr) (gA cs ad s.heap.size) s H locs := by rw [hH, hlo]; exact X
  suffices z : W p l e (headSpec wsX2_windOf { frames := 1, cells := 0, slots := 0, locals := 22 }).room s m ([.ref (ad t), .int a1] : List Value).toArray below meth c H locs 0 0 (zQI below ([.ref (ad t), .int a1] : List Value).toArray s D cs ad ((xE ki ad) G9 tr9) r9) (F0 m 0 ls []) by rw [hH, hlo] at z; exact z
  clear hH hlo
  refine lv_aload_n S.1 S.2.1 dX2_windOf_0 rfl (lv_at hl 0 rfl) ?_
  refine zr_get (v := .int (G t 3)) S K X (ht.2 0 (by decide)) (xE_M ht) rfl uX2_windOf_X2 3 (by decide) kX2_windOf_37 rfl rfl dX2_windOf_1 ?_
  refine lv_iconst (v := (1 : Int32)) S.1 S.2.1 dX2_windOf_4 (by decide) ?_
  refine lv_icmp_lt (tgt := 17) S.1 S.2.1 dX2_windOf_5 (by decide) (fun hc_1 => ?_) (fun hc_1 => ?_)
  · have h := zif_pos hc_1 h
    refine lv_iconst (v := (4 : Int32)) S.1 S.2.1 dX2_windOf_17 (by decide) ?_
    exact zr_iret S hr hlk X h dX2_windOf_18
  · have h := zif_neg hc_1 h
    refine lv_aload_n S.1 S.2.1 dX2_windOf_8 rfl (lv_at hl 0 rfl) ?_
    refine zr_get (v := .int (G t 3)) S K X (ht.2 0 (by decide)) (xE_M ht) rfl uX2_windOf_X2 3 (by decide) kX2_windOf_37 rfl rfl dX2_windOf_9 ?_
    refine lv_bipush (v := (12 : Int32)) S.1 S.2.1 dX2_windOf_12 (by decide) ?_
    refine lv_icmp_le (tgt := 19) S.1 S.2.1 dX2_windOf_14 (by decide) (fun hc_2 => ?_) (fun hc_2 => ?_)
    · have h := zif_pos hc_2 h
      refine lv_aload_n S.1 S.2.1 dX2_windOf_19 rfl (lv_at hl 0 rfl) ?_
      refine zr_get (v := .ref (ad (t + 1))) S K X (ht.2 0 (by decide)) (xE_M ht) rfl uX2_windOf_X2 4 (by decide) kX2_windOf_9 rfl rfl dX2_windOf_20 ?_
      refine lv_iload_n S.1 S.2.1 dX2_windOf_23 rfl (lv_at hl 1 rfl) ?_
      refine lv_aload_n S.1 S.2.1 dX2_windOf_24 rfl (lv_at hl 0 rfl) ?_
      refine zr_get (v := .int (G t 3)) S K X (ht.2 0 (by decide)) (xE_M ht) rfl uX2_windOf_X2 3 (by decide) kX2_windOf_37 rfl rfl dX2_windOf_25 ?_
      obtain ⟨r_4, hf_3, h⟩ := zbp_some h
      refine zr_calli (Eg := (xE ki ad)) (G' := G) (tr' := tr) K X (va_runS (As := [.int a1, .int (G t 3)]) (rest := [.ref (ad (t + 1))]) S (mJ9_floorMod_7cf53 l D ki ad cs N a1 (G t 3) (xE ki ad) G tr H.size _ _ _ (zpu_of hf_3)) (va_cwS 2 S.2.2.2.2 gX2_windOf_J9_floorMod_7cf53 rfl rfl rfl (by decide +kernel) ⟨Nat.le_of_ble_eq_true rfl, Nat.le_of_ble_eq_true rfl⟩) (zr_pre K X) rfl rfl hl.1 rfl (lv_room (Nat.le_of_ble_eq_true rfl)) dX2_windOf_28 ⟨Nat.zero_le _, Nat.zero_le _⟩) (fun H locs X => ?_)
      obtain ⟨hi_5, h⟩ := zin_some h
      refine zr_iald S K X (ht.2 1 (by decide)) (xE_M1 ht) hi_5 dX2_windOf_31 ?_
      exact zr_iret S hr hlk X h dX2_windOf_32
    · have h := zif_neg hc_2 h
      refine lv_iconst (v := (4 : Int32)) S.1 S.2.1 dX2_windOf_17 (by decide) ?_
      exact zr_iret S hr hlk X h dX2_windOf_18
set_option maxRecDepth 20000 in
theorem kX3_add_9 : Cond.fieldLink RX3 9 "WindPost$Text" "signs" "[I" ∈ wsX3_add := by decide +kernel
set_option maxRecDepth 20000 in
theorem kX3_add_15 : Cond.fieldLink RX3 15 "WindPost$Text" "length" "I" ∈ wsX3_add := by decide +kernel
set_option maxRecDepth 20000 in
theorem uX3_add_X3 : ∀ w ∈ wsX30, w ∈ wsX3_add := by decide +kernel
set_option maxHeartbeats 8000000 in
set_option maxRecDepth 100000 in
theorem mX3_add (l : Launch) (D : va_G) (ki : Nat → ClassId) (ad : Nat → Nat) (cs : List Nat) (hcs : kW cs) (N : Nat) (a1 : Int32) (G : zMem) (tr : Int64) : gMetV l D ki ad cs yX3_add wsX3_add { frames := 0, cells := 0, slots := 0, locals := 0 } [.ref (ad 1), .int a1] (xE ki ad) G tr (fX3_add N a1 G tr) := by
  refine gMetV_of (cc := cX3_add) (maxL := 2) (ret := none) (own := RX3) (by decide +kernel) rfl rfl (Nat.le_of_ble_eq_true rfl) ?_
  intro r9 G9 tr9 h p e s m below meth c S hr hlk K X ls hl
  have hl : lv_has ls 2 [(0, .ref (ad 1)), (1, .int a1)] := hl
  unfold fX3_add at h
  obtain ⟨H, hH⟩ : ∃ H, H = s.heap := ⟨_, rfl⟩
  obtain ⟨locs, hlo⟩ : ∃ locs : List Loc, locs = [] := ⟨_, rfl⟩
  have X : gS D cs ad ((xE ki ad) G tr) (gA cs ad s.heap.size) s H locs := by rw [hH, hlo]; exact X
  suffices z : W p l e (headSpec wsX3_add { frames := 0, cells := 0, slots := 0, locals := 0 }).room s m ([.ref (ad 1), .int a1] : List Value).toArray below meth c H locs 0 0 (zQV below ([.ref (ad 1), .int a1] : List Value).toArray s D cs ad ((xE ki ad) G9 tr9)) (F0 m 0 ls []) by rw [hH, hlo] at z; exact z
  clear hH hlo
  refine lv_aload_n S.1 S.2.1 dX3_add_0 rfl (lv_at hl 0 rfl) ?_
  refine zr_get (v := .int (G 1 0)) S K X (hcs 1 (by decide)) xE_T rfl uX3_add_X3 0 (by decide) kX3_add_15 rfl rfl dX3_add_1 ?_
  refine lv_sipush (v := (200 : Int32)) S.1 S.2.1 dX3_add_4 (by decide) ?_
  refine lv_icmp_lt (tgt := 11) S.1 S.2.1 dX3_add_7 (by decide) (fun hc_1 => ?_) (fun hc_1 => ?_)
  · have h := zif_pos hc_1 h
    refine lv_aload_n S.1 S.2.1 dX3_add_11 rfl (lv_at hl 0 rfl) ?_
    refine zr_get (v := .ref (ad 2)) S K X (hcs 1 (by decide)) xE_T rfl uX3_add_X3 1 (by decide) kX3_add_9 rfl rfl dX3_add_12 ?_
    refine lv_aload_n S.1 S.2.1 dX3_add_15 rfl (lv_at hl 0 rfl) ?_
    refine zr_get (v := .int (G 1 0)) S K X (hcs 1 (by decide)) xE_T rfl uX3_add_X3 0 (by decide) kX3_add_15 rfl rfl dX3_add_16 ?_
    refine lv_iload_n S.1 S.2.1 dX3_add_19 rfl (lv_at hl 1 rfl) ?_
    obtain ⟨hi_2, h⟩ := zin_some h
    refine zr_iast S K X (hcs 2 (by decide)) xE_loc (fun _ => xE_2) hi_2 dX3_add_20 (fun H locs X => ?_)
    refine lv_aload_n S.1 S.2.1 dX3_add_21 rfl (lv_at hl 0 rfl) ?_
    refine lv_dup S.1 S.2.1 dX3_add_22 rfl ?_
    refine zr_get (v := .int ((up2 G 2 (Int32.toNatClampNeg (G 1 0)) a1) 1 0)) S K X (hcs 1 (by decide)) xE_T rfl uX3_add_X3 0 (by decide) kX3_add_15 rfl rfl dX3_add_23 ?_
    refine lv_iconst (v := (1 : Int32)) S.1 S.2.1 dX3_add_26 (by decide) ?_
    refine lv_iadd S.1 S.2.1 dX3_add_27 ?_
    refine zr_put (xv := (((up2 G 2 (Int32.toNatClampNeg (G 1 0)) a1) 1 0) + (1 : Int32))) (v := .int (((up2 G 2 (Int32.toNatClampNeg (G 1 0)) a1) 1 0) + (1 : Int32))) (fsf := (fsT ad)) (ty := .int) S K X (hcs 1 (by decide)) xE_loc (fun _ => xE_T) rfl uX3_add_X3 tyX3 tyX3_ok nmX3 0 (by decide) kX3_add_15 rfl (by decide +kernel) rfl rfl (by simp) rfl dX3_add_28 (fun H locs X => ?_)
    exact zr_vret S hr hlk X h dX3_add_31
  · have h := zif_neg hc_1 h
    exact zr_vret S hr hlk X h dX3_add_10

set_option maxHeartbeats 8000000 in
set_option maxRecDepth 100000 in
theorem mX4_isWithin (l : Launch) (D : va_G) (ki : Nat → ClassId) (ad : Nat → Nat) (cs : List Nat) (N : Nat) (a0 : Int32) (a1 : Int32) (a2 : Int32) (Eg : zMem → Int64 → Nat → va_E) (G : zMem) (tr : Int64) : gMetI l D ki ad cs yX4_isWithin wsX4_isWithin { frames := 0, cells := 0, slots := 0, locals := 0 } [.int a0, .int a1, .int a2] Eg G tr (zpu (fX4_isWithin N a0 a1 a2) G tr) := by
  refine gMetI_of (cc := cX4_isWithin) (maxL := 3) (ret := (some .boolean)) (own := RX4) (by decide +kernel) rfl rfl (Nat.le_of_ble_eq_true rfl) ?_
  intro r9 G9 tr9 h p e s m below meth c S hr hlk K X ls hl
  obtain ⟨h0, rfl, rfl⟩ := zpu_some h
  clear h
  have h := h0
  clear h0
  have hl : lv_has ls 3 [(0, .int a0), (1, .int a1), (2, .int a2)] := hl
  unfold fX4_isWithin at h
  obtain ⟨H, hH⟩ : ∃ H, H = s.heap := ⟨_, rfl⟩
  obtain ⟨locs, hlo⟩ : ∃ locs : List Loc, locs = [] := ⟨_, rfl⟩
  have X : gS D cs ad (Eg G tr) (gA cs ad s.heap.size) s H locs := by rw [hH, hlo]; exact X
  suffices z : W p l e (headSpec wsX4_isWithin { frames := 0, cells := 0, slots := 0, locals := 0 }).room s m ([.int a0, .int a1, .int a2] : List Value).toArray below meth c H locs 0 0 (zQI below ([.int a0, .int a1, .int a2] : List Value).toArray s D cs ad (Eg G tr) r9) (F0 m 0 ls []) by rw [hH, hlo] at z; exact z
  clear hH hlo
  refine lv_iload_n S.1 S.2.1 dX4_isWithin_0 rfl (lv_at hl 0 rfl) ?_
  refine lv_iload_n S.1 S.2.1 dX4_isWithin_1 rfl (lv_at hl 1 rfl) ?_
  refine lv_icmp_lt (tgt := 14) S.1 S.2.1 dX4_isWithin_2 (by decide) (fun hc_1 => ?_) (fun hc_1 => ?_)
  · have h := zif_pos hc_1 h
    refine lv_iconst (v := (0 : Int32)) S.1 S.2.1 dX4_isWithin_14 (by decide) ?_
    exact zr_zretP S hr hlk X h dX4_isWithin_15
  · have h := zif_neg hc_1 h
    refine lv_iload_n S.1 S.2.1 dX4_isWithin_5 rfl (lv_at hl 0 rfl) ?_
    refine lv_iload_n S.1 S.2.1 dX4_isWithin_6 rfl (lv_at hl 2 rfl) ?_
    refine lv_icmp_gt (tgt := 14) S.1 S.2.1 dX4_isWithin_7 (by decide) (fun hc_2 => ?_) (fun hc_2 => ?_)
    · have h := zif_pos hc_2 h
      refine lv_iconst (v := (0 : Int32)) S.1 S.2.1 dX4_isWithin_14 (by decide) ?_
      exact zr_zretP S hr hlk X h dX4_isWithin_15
    · have h := zif_neg hc_2 h
      refine lv_iconst (v := (1 : Int32)) S.1 S.2.1 dX4_isWithin_10 (by decide) ?_
      refine lv_goto (tgt := 15) S.1 S.2.1 dX4_isWithin_11 (by decide) ?_
      exact zr_zretP S hr hlk X h dX4_isWithin_15
set_option maxRecDepth 20000 in
theorem kX4_type_10 : Cond.fieldLink RX4 10 "WindPost" "text" "LWindPost$Text;" ∈ wsX4_type := by decide +kernel
set_option maxRecDepth 20000 in
theorem kX4_type_58 : Cond.fieldLink RX4 58 "WindPost$Text" "length" "I" ∈ wsX4_type := by decide +kernel
set_option maxRecDepth 20000 in
theorem uX4_type_X3 : ∀ w ∈ wsX30, w ∈ wsX4_type := by decide +kernel
set_option maxRecDepth 20000 in
theorem uX4_type_X4 : ∀ w ∈ wsX40, w ∈ wsX4_type := by decide +kernel
set_option maxHeartbeats 8000000 in
set_option maxRecDepth 100000 in
theorem mX4_type (l : Launch) (D : va_G) (ki : Nat → ClassId) (ad : Nat → Nat) (cs : List Nat) (hcs : kW cs) (N : Nat) (a1 : Int32) (G : zMem) (tr : Int64) : gMetI l D ki ad cs yX4_type wsX4_type { frames := 1, cells := 0, slots := 0, locals := 22 } [.ref (ad 0), .int a1] (xE ki ad) G tr (fX4_type N a1 G tr) := by
  refine gMetI_of (cc := cX4_type) (maxL := 2) (ret := (some .int)) (own := RX4) (by decide +kernel) rfl rfl (Nat.le_of_ble_eq_true rfl) ?_
  intro r9 G9 tr9 h p e s m below meth c S hr hlk K X ls hl
  have hl : lv_has ls 2 [(0, .ref (ad 0)), (1, .int a1)] := hl
  unfold fX4_type at h
  obtain ⟨H, hH⟩ : ∃ H, H = s.heap := ⟨_, rfl⟩
  obtain ⟨locs, hlo⟩ : ∃ locs : List Loc, locs = [] := ⟨_, rfl⟩
  have X : gS D cs ad ((xE ki ad) G tr) (gA cs ad s.heap.size) s H locs := by rw [hH, hlo]; exact X
  suffices z : W p l e (headSpec wsX4_type { frames := 1, cells := 0, slots := 0, locals := 22 }).room s m ([.ref (ad 0), .int a1] : List Value).toArray below meth c H locs 0 0 (zQI below ([.ref (ad 0), .int a1] : List Value).toArray s D cs ad ((xE ki ad) G9 tr9) r9) (F0 m 0 ls []) by rw [hH, hlo] at z; exact z
  clear hH hlo
  refine lv_iload_n S.1 S.2.1 dX4_type_0 rfl (lv_at hl 1 rfl) ?_
  refine lv_iconst (v := (0 : Int32)) S.1 S.2.1 dX4_type_1 (by decide) ?_
  refine lv_sipush (v := (255 : Int32)) S.1 S.2.1 dX4_type_2 (by decide) ?_
  obtain ⟨r_2, hf_1, h⟩ := zbp_some h
  refine zr_calli (Eg := (xE ki ad)) (G' := G) (tr' := tr) K X (va_runS (As := [.int a1, .int (0 : Int32), .int (255 : Int32)]) (rest := []) S (mX4_isWithin l D ki ad cs N a1 (0 : Int32) (255 : Int32) (xE ki ad) G tr H.size _ _ _ (zpu_of hf_1)) (va_cwS 3 S.2.2.2.2 gX4_type_X4_isWithin rfl rfl rfl (by decide +kernel) ⟨Nat.le_of_ble_eq_true rfl, Nat.le_of_ble_eq_true rfl⟩) (zr_pre K X) rfl rfl hl.1 rfl (lv_room (Nat.le_of_ble_eq_true rfl)) dX4_type_5 ⟨Nat.zero_le _, Nat.zero_le _⟩) (fun H locs X => ?_)
  refine lv_if_ne (tgt := 13) S.1 S.2.1 dX4_type_8 (by decide) (fun hc_3 => ?_) (fun hc_3 => ?_)
  · have h := zif_neg hc_3 h
    refine lv_aload_n S.1 S.2.1 dX4_type_13 rfl (lv_at hl 0 rfl) ?_
    refine zr_get (v := .ref (ad 1)) S K X (hcs 0 (by decide)) xE_W rfl uX4_type_X4 0 (by decide) kX4_type_10 rfl rfl dX4_type_14 ?_
    refine zr_get (v := .int (G 1 0)) S K X (hcs 1 (by decide)) xE_T rfl uX4_type_X3 0 (by decide) kX4_type_58 rfl rfl dX4_type_17 ?_
    refine lv_sipush (v := (200 : Int32)) S.1 S.2.1 dX4_type_20 (by decide) ?_
    refine lv_icmp_lt (tgt := 29) S.1 S.2.1 dX4_type_23 (by decide) (fun hc_4 => ?_) (fun hc_4 => ?_)
    · have h := zif_pos hc_4 h
      refine lv_aload_n S.1 S.2.1 dX4_type_29 rfl (lv_at hl 0 rfl) ?_
      refine zr_get (v := .ref (ad 1)) S K X (hcs 0 (by decide)) xE_W rfl uX4_type_X4 0 (by decide) kX4_type_10 rfl rfl dX4_type_30 ?_
      refine lv_iload_n S.1 S.2.1 dX4_type_33 rfl (lv_at hl 1 rfl) ?_
      obtain ⟨r_6, G_7, tr_8, hf_5, h⟩ := zbd_some h
      refine zr_callv (Eg := (xE ki ad)) K X (va_runV (As := [.int a1]) (rest := []) S (mX3_add l D ki ad cs hcs N a1 G tr H.size _ _ _ hf_5) (cwV 1 S.2.2.2.2 gX4_type_X3_add rfl rfl rfl (by decide +kernel) ⟨Nat.le_of_ble_eq_true rfl, Nat.le_of_ble_eq_true rfl⟩) (zr_preV (c0 := 1) K X (hcs 1 (by decide)) xE_T rfl) rfl rfl hl.1 rfl (lv_room (Nat.le_of_ble_eq_true rfl)) dX4_type_34 ⟨Nat.zero_le _, Nat.zero_le _⟩) (fun H locs X => ?_)
      refine lv_aload_n S.1 S.2.1 dX4_type_37 rfl (lv_at hl 0 rfl) ?_
      refine zr_get (v := .ref (ad 1)) S K X (hcs 0 (by decide)) xE_W rfl uX4_type_X4 0 (by decide) kX4_type_10 rfl rfl dX4_type_38 ?_
      refine zr_get (v := .int (G_7 1 0)) S K X (hcs 1 (by decide)) xE_T rfl uX4_type_X3 0 (by decide) kX4_type_58 rfl rfl dX4_type_41 ?_
      exact zr_iret S hr hlk X h dX4_type_44
    · have h := zif_neg hc_4 h
      refine lv_bipush (v := (-3 : Int32)) S.1 S.2.1 dX4_type_26 (by decide) ?_
      exact zr_iret S hr hlk X h dX4_type_28
  · have h := zif_pos hc_3 h
    refine lv_iconst (v := (-1 : Int32)) S.1 S.2.1 dX4_type_11 (by decide) ?_
    exact zr_iret S hr hlk X h dX4_type_12
set_option maxRecDepth 20000 in
theorem kX4_clear_10 : Cond.fieldLink RX4 10 "WindPost" "text" "LWindPost$Text;" ∈ wsX4_clear := by decide +kernel
set_option maxRecDepth 20000 in
theorem kX4_clear_58 : Cond.fieldLink RX4 58 "WindPost$Text" "length" "I" ∈ wsX4_clear := by decide +kernel
set_option maxRecDepth 20000 in
theorem uX4_clear_X3 : ∀ w ∈ wsX30, w ∈ wsX4_clear := by decide +kernel
set_option maxRecDepth 20000 in
theorem uX4_clear_X4 : ∀ w ∈ wsX40, w ∈ wsX4_clear := by decide +kernel
set_option maxHeartbeats 8000000 in
set_option maxRecDepth 100000 in
theorem mX4_clear (l : Launch) (D : va_G) (ki : Nat → ClassId) (ad : Nat → Nat) (cs : List Nat) (hcs : kW cs) (N : Nat) (G : zMem) (tr : Int64) : gMetI l D ki ad cs yX4_clear wsX4_clear { frames := 0, cells := 0, slots := 0, locals := 0 } [.ref (ad 0)] (xE ki ad) G tr (fX4_clear N G tr) := by
  refine gMetI_of (cc := cX4_clear) (maxL := 2) (ret := (some .int)) (own := RX4) (by decide +kernel) rfl rfl (Nat.le_of_ble_eq_true rfl) ?_
  intro r9 G9 tr9 h p e s m below meth c S hr hlk K X ls hl
  have hl : lv_has ls 2 [(0, .ref (ad 0))] := hl
  unfold fX4_clear at h
  obtain ⟨H, hH⟩ : ∃ H, H = s.heap := ⟨_, rfl⟩
  obtain ⟨locs, hlo⟩ : ∃ locs : List Loc, locs = [] := ⟨_, rfl⟩
  have X : gS D cs ad ((xE ki ad) G tr) (gA cs ad s.heap.size) s H locs := by rw [hH, hlo]; exact X
  suffices z : W p l e (headSpec wsX4_clear { frames := 0, cells := 0, slots := 0, locals := 0 }).room s m ([.ref (ad 0)] : List Value).toArray below meth c H locs 0 0 (zQI below ([.ref (ad 0)] : List Value).toArray s D cs ad ((xE ki ad) G9 tr9) r9) (F0 m 0 ls []) by rw [hH, hlo] at z; exact z
  clear hH hlo
  refine lv_aload_n S.1 S.2.1 dX4_clear_0 rfl (lv_at hl 0 rfl) ?_
  refine zr_get (v := .ref (ad 1)) S K X (hcs 0 (by decide)) xE_W rfl uX4_clear_X4 0 (by decide) kX4_clear_10 rfl rfl dX4_clear_1 ?_
  refine zr_get (v := .int (G 1 0)) S K X (hcs 1 (by decide)) xE_T rfl uX4_clear_X3 0 (by decide) kX4_clear_58 rfl rfl dX4_clear_4 ?_
  refine lv_istore_n (lv' := [(1, .int (G 1 0)), (0, .ref (ad 0))]) S.1 S.2.1 dX4_clear_7 rfl hl (by decide) rfl (fun ls hl => ?_)
  refine lv_aload_n S.1 S.2.1 dX4_clear_8 rfl (lv_at hl 1 rfl) ?_
  refine zr_get (v := .ref (ad 1)) S K X (hcs 0 (by decide)) xE_W rfl uX4_clear_X4 0 (by decide) kX4_clear_10 rfl rfl dX4_clear_9 ?_
  refine lv_iconst (v := (0 : Int32)) S.1 S.2.1 dX4_clear_12 (by decide) ?_
  refine zr_put (xv := (0 : Int32)) (v := .int (0 : Int32)) (fsf := (fsT ad)) (ty := .int) S K X (hcs 1 (by decide)) xE_loc (fun _ => xE_T) rfl uX4_clear_X3 tyX3 tyX3_ok nmX3 0 (by decide) kX4_clear_58 rfl (by decide +kernel) rfl rfl (by simp) rfl dX4_clear_13 (fun H locs X => ?_)
  refine lv_iload_n S.1 S.2.1 dX4_clear_16 rfl (lv_at hl 0 rfl) ?_
  exact zr_iret S hr hlk X h dX4_clear_17
set_option maxRecDepth 20000 in
theorem kX4_isLetter_29 : Cond.fieldLink RX4 29 "WindPost" "now" "LWindPost$Moment;" ∈ wsX4_isLetter := by decide +kernel
set_option maxRecDepth 20000 in
theorem kX4_isLetter_134 : Cond.fieldLink RX4 134 "WindPost$Moment" "letters" "I" ∈ wsX4_isLetter := by decide +kernel
set_option maxRecDepth 20000 in
theorem uX4_isLetter_X2 : ∀ w ∈ wsX20, w ∈ wsX4_isLetter := by decide +kernel
set_option maxRecDepth 20000 in
theorem uX4_isLetter_X4 : ∀ w ∈ wsX40, w ∈ wsX4_isLetter := by decide +kernel
set_option maxHeartbeats 8000000 in
set_option maxRecDepth 100000 in
theorem mX4_isLetter (l : Launch) (D : va_G) (ki : Nat → ClassId) (ad : Nat → Nat) (cs : List Nat) (hcs : kW cs) (N : Nat) (a1 : Int32) (G : zMem) (tr : Int64) : gMetI l D ki ad cs yX4_isLetter wsX4_isLetter { frames := 1, cells := 0, slots := 0, locals := 22 } [.ref (ad 0), .int a1] (xE ki ad) G tr (fX4_isLetter N a1 G tr) := by
  refine gMetI_of (cc := cX4_isLetter) (maxL := 2) (ret := (some .boolean)) (own := RX4) (by decide +kernel) rfl rfl (Nat.le_of_ble_eq_true rfl) ?_
  intro r9 G9 tr9 h p e s m below meth c S hr hlk K X ls hl
  have hl : lv_has ls 2 [(0, .ref (ad 0)), (1, .int a1)] := hl
  unfold fX4_isLetter at h
  obtain ⟨H, hH⟩ : ∃ H, H = s.heap := ⟨_, rfl⟩
  obtain ⟨locs, hlo⟩ : ∃ locs : List Loc, locs = [] := ⟨_, rfl⟩
  have X : gS D cs ad ((xE ki ad) G tr) (gA cs ad s.heap.size) s H locs := by rw [hH, hlo]; exact X
  suffices z : W p l e (headSpec wsX4_isLetter { frames := 1, cells := 0, slots := 0, locals := 22 }).room s m ([.ref (ad 0), .int a1] : List Value).toArray below meth c H locs 0 0 (zQI below ([.ref (ad 0), .int a1] : List Value).toArray s D cs ad ((xE ki ad) G9 tr9) r9) (F0 m 0 ls []) by rw [hH, hlo] at z; exact z
  clear hH hlo
  refine lv_iload_n S.1 S.2.1 dX4_isLetter_0 rfl (lv_at hl 1 rfl) ?_
  refine lv_iconst (v := (0 : Int32)) S.1 S.2.1 dX4_isLetter_1 (by decide) ?_
  refine lv_aload_n S.1 S.2.1 dX4_isLetter_2 rfl (lv_at hl 0 rfl) ?_
  refine zr_get (v := .ref (ad 18)) S K X (hcs 0 (by decide)) xE_W rfl uX4_isLetter_X4 3 (by decide) kX4_isLetter_29 rfl rfl dX4_isLetter_3 ?_
  refine zr_get (v := .int (G 18 1)) S K X ((kM_now hcs).2 0 (by decide)) (xE_M (kM_now hcs)) rfl uX4_isLetter_X2 1 (by decide) kX4_isLetter_134 rfl rfl dX4_isLetter_6 ?_
  refine lv_iconst (v := (1 : Int32)) S.1 S.2.1 dX4_isLetter_9 (by decide) ?_
  refine lv_isub S.1 S.2.1 dX4_isLetter_10 ?_
  obtain ⟨r_2, hf_1, h⟩ := zbp_some h
  refine zr_calli (Eg := (xE ki ad)) (G' := G) (tr' := tr) K X (va_runS (As := [.int a1, .int (0 : Int32), .int ((G 18 1) - (1 : Int32))]) (rest := []) S (mX4_isWithin l D ki ad cs N a1 (0 : Int32) ((G 18 1) - (1 : Int32)) (xE ki ad) G tr H.size _ _ _ (zpu_of hf_1)) (va_cwS 3 S.2.2.2.2 gX4_isLetter_X4_isWithin rfl rfl rfl (by decide +kernel) ⟨Nat.le_of_ble_eq_true rfl, Nat.le_of_ble_eq_true rfl⟩) (zr_pre K X) rfl rfl hl.1 rfl (lv_room (Nat.le_of_ble_eq_true rfl)) dX4_isLetter_11 ⟨Nat.zero_le _, Nat.zero_le _⟩) (fun H locs X => ?_)
  exact zr_zret S hr hlk X h dX4_isLetter_14
set_option maxRecDepth 20000 in
theorem kX4_letter_29 : Cond.fieldLink RX4 29 "WindPost" "now" "LWindPost$Moment;" ∈ wsX4_letter := by decide +kernel
set_option maxRecDepth 20000 in
theorem kX4_letter_112 : Cond.fieldLink RX4 112 "WindPost$Moment" "post" "[LWindPost$Letter;" ∈ wsX4_letter := by decide +kernel
set_option maxRecDepth 20000 in
theorem kX4_letter_116 : Cond.fieldLink RX4 116 "WindPost$Letter" "weight" "I" ∈ wsX4_letter := by decide +kernel
set_option maxRecDepth 20000 in
theorem kX4_letter_119 : Cond.fieldLink RX4 119 "WindPost$Letter" "from" "I" ∈ wsX4_letter := by decide +kernel
set_option maxRecDepth 20000 in
theorem kX4_letter_122 : Cond.fieldLink RX4 122 "WindPost$Letter" "to" "I" ∈ wsX4_letter := by decide +kernel
set_option maxRecDepth 20000 in
theorem kX4_letter_125 : Cond.fieldLink RX4 125 "WindPost$Letter" "place" "I" ∈ wsX4_letter := by decide +kernel
set_option maxRecDepth 20000 in
theorem kX4_letter_128 : Cond.fieldLink RX4 128 "WindPost$Letter" "marks" "I" ∈ wsX4_letter := by decide +kernel
set_option maxRecDepth 20000 in
theorem kX4_letter_131 : Cond.fieldLink RX4 131 "WindPost$Letter" "how" "I" ∈ wsX4_letter := by decide +kernel
set_option maxRecDepth 20000 in
theorem uX4_letter_X1 : ∀ w ∈ wsX10, w ∈ wsX4_letter := by decide +kernel
set_option maxRecDepth 20000 in
theorem uX4_letter_X2 : ∀ w ∈ wsX20, w ∈ wsX4_letter := by decide +kernel
set_option maxRecDepth 20000 in
theorem uX4_letter_X4 : ∀ w ∈ wsX40, w ∈ wsX4_letter := by decide +kernel
set_option maxHeartbeats 8000000 in
set_option maxRecDepth 100000 in
theorem mX4_letter (l : Launch) (D : va_G) (ki : Nat → ClassId) (ad : Nat → Nat) (cs : List Nat) (hcs : kW cs) (N : Nat) (a1 : Int32) (a2 : Int32) (G : zMem) (tr : Int64) : gMetI l D ki ad cs yX4_letter wsX4_letter { frames := 2, cells := 0, slots := 0, locals := 43 } [.ref (ad 0), .int a1, .int a2] (xE ki ad) G tr (fX4_letter N a1 a2 G tr) := by
  refine gMetI_of (cc := cX4_letter) (maxL := 4) (ret := (some .int)) (own := RX4) (by decide +kernel) rfl rfl (Nat.le_of_ble_eq_true rfl) ?_
  intro r9 G9 tr9 h p e s m below meth c S hr hlk K X ls hl
  have hl : lv_has ls 4 [(0, .ref (ad 0)), (1, .int a1), (2, .int a2)] := hl
  unfold fX4_letter at h
  obtain ⟨H, hH⟩ : ∃ H, H = s.heap := ⟨_, rfl⟩
  obtain ⟨locs, hlo⟩ : ∃ locs : List Loc, locs = [] := ⟨_, rfl⟩
  have X : gS D cs ad ((xE ki ad) G tr) (gA cs ad s.heap.size) s H locs := by rw [hH, hlo]; exact X
  suffices z : W p l e (headSpec wsX4_letter { frames := 2, cells := 0, slots := 0, locals := 43 }).room s m ([.ref (ad 0), .int a1, .int a2] : List Value).toArray below meth c H locs 0 0 (zQI below ([.ref (ad 0), .int a1, .int a2] : List Value).toArray s D cs ad ((xE ki ad) G9 tr9) r9) (F0 m 0 ls []) by rw [hH, hlo] at z; exact z
  clear hH hlo
  refine lv_aload_n S.1 S.2.1 dX4_letter_0 rfl (lv_at hl 0 rfl) ?_
  refine lv_iload_n S.1 S.2.1 dX4_letter_1 rfl (lv_at hl 1 rfl) ?_
  obtain ⟨r_2, G_3, tr_4, hf_1, h⟩ := zbd_some h
  refine zr_calli (Eg := (xE ki ad)) K X (va_runV (As := [.int a1]) (rest := []) S (mX4_isLetter l D ki ad cs hcs N a1 G tr H.size _ _ _ hf_1) (cwV 1 S.2.2.2.2 gX4_letter_X4_isLetter rfl rfl rfl (by decide +kernel) ⟨Nat.le_of_ble_eq_true rfl, Nat.le_of_ble_eq_true rfl⟩) (zr_preV (c0 := 0) K X (hcs 0 (by decide)) xE_W rfl) rfl rfl hl.1 rfl (lv_room (Nat.le_of_ble_eq_true rfl)) dX4_letter_2 ⟨Nat.zero_le _, Nat.zero_le _⟩) (fun H locs X => ?_)
  refine lv_if_ne (tgt := 10) S.1 S.2.1 dX4_letter_5 (by decide) (fun hc_5 => ?_) (fun hc_5 => ?_)
  · have h := zif_neg hc_5 h
    refine lv_aload_n S.1 S.2.1 dX4_letter_10 rfl (lv_at hl 0 rfl) ?_
    refine zr_get (v := .ref (ad 18)) S K X (hcs 0 (by decide)) xE_W rfl uX4_letter_X4 3 (by decide) kX4_letter_29 rfl rfl dX4_letter_11 ?_
    refine zr_get (v := .ref (ad 20)) S K X ((kM_now hcs).2 0 (by decide)) (xE_M (kM_now hcs)) rfl uX4_letter_X2 5 (by decide) kX4_letter_112 rfl rfl dX4_letter_14 ?_
    refine lv_iload_n S.1 S.2.1 dX4_letter_17 rfl (lv_at hl 1 rfl) ?_
    obtain ⟨hi_6, h⟩ := zin_some h
    refine zr_aald (f := (fun j => 21 + j)) (t0 := 2) (C := "WindPost$Letter") S K X ((kM_now hcs).2 2 (by decide)) (xE_M2 (kM_now hcs)) rfl hi_6 dX4_letter_18 ?_
    refine lv_astore_n (lv' := [(3, .ref (ad (21 + (Int32.toNatClampNeg a1)))), (0, .ref (ad 0)), (1, .int a1), (2, .int a2)]) S.1 S.2.1 dX4_letter_19 rfl hl (by decide) rfl (fun ls hl => ?_)
    refine lv_iload_n S.1 S.2.1 dX4_letter_20 rfl (lv_at hl 3 rfl) ?_
    by_cases hc_7 : a2 = 0
    · have h := zif_pos hc_7 h
      refine zr_swIn (tgt := 60) S hc_7 dX4_letter_21 (by decide) ?_
      refine lv_aload_n S.1 S.2.1 dX4_letter_60 rfl (lv_at hl 0 rfl) ?_
      refine zr_get (v := .int (G_3 (21 + (Int32.toNatClampNeg a1)) 0)) S K X (kL_now hcs hi_6).2 (xE_L (kL_now hcs hi_6)) rfl uX4_letter_X1 0 (by decide) kX4_letter_116 rfl rfl dX4_letter_61 ?_
      exact zr_iret S hr hlk X h dX4_letter_64
    have h := zif_neg hc_7 h
    by_cases hc_8 : a2 = 1
    · have h := zif_pos hc_8 h
      refine zr_swIn (tgt := 65) S hc_8 dX4_letter_21 (by decide) ?_
      refine lv_aload_n S.1 S.2.1 dX4_letter_65 rfl (lv_at hl 0 rfl) ?_
      refine zr_get (v := .int (G_3 (21 + (Int32.toNatClampNeg a1)) 1)) S K X (kL_now hcs hi_6).2 (xE_L (kL_now hcs hi_6)) rfl uX4_letter_X1 1 (by decide) kX4_letter_119 rfl rfl dX4_letter_66 ?_
      exact zr_iret S hr hlk X h dX4_letter_69
    have h := zif_neg hc_8 h
    by_cases hc_9 : a2 = 2
    · have h := zif_pos hc_9 h
      refine zr_swIn (tgt := 70) S hc_9 dX4_letter_21 (by decide) ?_
      refine lv_aload_n S.1 S.2.1 dX4_letter_70 rfl (lv_at hl 0 rfl) ?_
      refine zr_get (v := .int (G_3 (21 + (Int32.toNatClampNeg a1)) 2)) S K X (kL_now hcs hi_6).2 (xE_L (kL_now hcs hi_6)) rfl uX4_letter_X1 2 (by decide) kX4_letter_122 rfl rfl dX4_letter_71 ?_
      exact zr_iret S hr hlk X h dX4_letter_74
    have h := zif_neg hc_9 h
    by_cases hc_10 : a2 = 3
    · have h := zif_pos hc_10 h
      refine zr_swIn (tgt := 75) S hc_10 dX4_letter_21 (by decide) ?_
      refine lv_aload_n S.1 S.2.1 dX4_letter_75 rfl (lv_at hl 0 rfl) ?_
      refine zr_get (v := .int (G_3 (21 + (Int32.toNatClampNeg a1)) 3)) S K X (kL_now hcs hi_6).2 (xE_L (kL_now hcs hi_6)) rfl uX4_letter_X1 3 (by decide) kX4_letter_125 rfl rfl dX4_letter_76 ?_
      exact zr_iret S hr hlk X h dX4_letter_79
    have h := zif_neg hc_10 h
    by_cases hc_11 : a2 = 4
    · have h := zif_pos hc_11 h
      refine zr_swIn (tgt := 80) S hc_11 dX4_letter_21 (by decide) ?_
      refine lv_aload_n S.1 S.2.1 dX4_letter_80 rfl (lv_at hl 0 rfl) ?_
      refine zr_get (v := .int (G_3 (21 + (Int32.toNatClampNeg a1)) 4)) S K X (kL_now hcs hi_6).2 (xE_L (kL_now hcs hi_6)) rfl uX4_letter_X1 4 (by decide) kX4_letter_128 rfl rfl dX4_letter_81 ?_
      exact zr_iret S hr hlk X h dX4_letter_84
    have h := zif_neg hc_11 h
    by_cases hc_12 : a2 = 5
    · have h := zif_pos hc_12 h
      refine zr_swIn (tgt := 85) S hc_12 dX4_letter_21 (by decide) ?_
      refine lv_aload_n S.1 S.2.1 dX4_letter_85 rfl (lv_at hl 0 rfl) ?_
      refine zr_get (v := .int (G_3 (21 + (Int32.toNatClampNeg a1)) 5)) S K X (kL_now hcs hi_6).2 (xE_L (kL_now hcs hi_6)) rfl uX4_letter_X1 5 (by decide) kX4_letter_131 rfl rfl dX4_letter_86 ?_
      exact zr_iret S hr hlk X h dX4_letter_89
    have h := zif_neg hc_12 h
    refine lv_tableOut (tgt := 90) S.1 S.2.1 dX4_letter_21 (by
        have e0 := ztoInt_ne hc_7
        rw [show ((0 : Int32)).toInt = 0 from rfl] at e0
        have e1 := ztoInt_ne hc_8
        rw [show ((1 : Int32)).toInt = 1 from rfl] at e1
        have e2 := ztoInt_ne hc_9
        rw [show ((2 : Int32)).toInt = 2 from rfl] at e2
        have e3 := ztoInt_ne hc_10
        rw [show ((3 : Int32)).toInt = 3 from rfl] at e3
        have e4 := ztoInt_ne hc_11
        rw [show ((4 : Int32)).toInt = 4 from rfl] at e4
        have e5 := ztoInt_ne hc_12
        rw [show ((5 : Int32)).toInt = 5 from rfl] at e5
        omega) (by decide) ?_
    refine lv_iconst (v := (-1 : Int32)) S.1 S.2.1 dX4_letter_90 (by decide) ?_
    exact zr_iret S hr hlk X h dX4_letter_91
  · have h := zif_pos hc_5 h
    refine lv_iconst (v := (-1 : Int32)) S.1 S.2.1 dX4_letter_8 (by decide) ?_
    exact zr_iret S hr hlk X h dX4_letter_9
set_option maxRecDepth 20000 in
theorem kX4_remember_29 : Cond.fieldLink RX4 29 "WindPost" "now" "LWindPost$Moment;" ∈ wsX4_remember := by decide +kernel
set_option maxRecDepth 20000 in
theorem kX4_remember_33 : Cond.fieldLink RX4 33 "WindPost" "past" "[LWindPost$Moment;" ∈ wsX4_remember := by decide +kernel
set_option maxRecDepth 20000 in
theorem kX4_remember_77 : Cond.fieldLink RX4 77 "WindPost" "pastKnown" "I" ∈ wsX4_remember := by decide +kernel
set_option maxRecDepth 20000 in
theorem kX4_remember_164 : Cond.fieldLink RX4 164 "WindPost" "pastNext" "I" ∈ wsX4_remember := by decide +kernel
set_option maxRecDepth 20000 in
theorem uX4_remember_X4 : ∀ w ∈ wsX40, w ∈ wsX4_remember := by decide +kernel
set_option maxRecDepth 20000 in
theorem jX4_remember_min_l : Cond.methodLink RX4 254 Lib.Math.min.name ∈ wsX4_remember := by decide +kernel
set_option maxRecDepth 20000 in
theorem jX4_remember_min_s : Cond.static Lib.Math.min.name ∈ wsX4_remember := by decide +kernel
set_option maxRecDepth 20000 in
theorem jX4_remember_min_i : Cond.initialized "java/lang/Math" ∈ wsX4_remember := by decide +kernel
set_option maxRecDepth 20000 in
theorem jX4_remember_min_c : Cond.code Lib.Math.min.name Lib.Math.min.code 2 (some .int) ∈ wsX4_remember := by decide +kernel
set_option maxHeartbeats 8000000 in
set_option maxRecDepth 100000 in
theorem mX4_remember (l : Launch) (D : va_G) (ki : Nat → ClassId) (ad : Nat → Nat) (cs : List Nat) (hcs : kW cs) (N : Nat) (G : zMem) (tr : Int64) : gMetV l D ki ad cs yX4_remember wsX4_remember { frames := 2, cells := 0, slots := 0, locals := 43 } [.ref (ad 0)] (xE ki ad) G tr (fX4_remember N G tr) := by
  refine gMetV_of (cc := cX4_remember) (maxL := 1) (ret := none) (own := RX4) (by decide +kernel) rfl rfl (Nat.le_of_ble_eq_true rfl) ?_
  intro r9 G9 tr9 h p e s m below meth c S hr hlk K X ls hl
  have hl : lv_has ls 1 [(0, .ref (ad 0))] := hl
  have b36 : ∀ (s0 : Int32) (G : zMem) (tr : Int64), fX4_remember_b36 N s0 G tr = some (r9, G9, tr9) → zAt p l e (headSpec wsX4_remember { frames := 2, cells := 0, slots := 0, locals := 43 }).room s m ([.ref (ad 0)] : List Value).toArray below meth c 1 D cs ad (zQV below ([.ref (ad 0)] : List Value).toArray s D cs ad ((xE ki ad) G9 tr9)) 36 [(0, .ref (ad 0))] [.int s0, .ref (ad 0)] ((xE ki ad) G tr) := by
    intro s0 G tr h H locs ls X hl
    unfold fX4_remember_b36 at h
    refine zr_put (xv := s0) (v := .int s0) (fsf := (fsW ad tr)) (ty := .int) S K X (hcs 0 (by decide)) xE_loc (fun _ => xE_W) rfl uX4_remember_X4 tyX4 tyX4_ok nmX4 5 (by decide) kX4_remember_164 rfl (by decide +kernel) rfl rfl (by simp) rfl dX4_remember_36 (fun H locs X => ?_)
    refine lv_aload_n S.1 S.2.1 dX4_remember_39 rfl (lv_at hl 0 rfl) ?_
    refine lv_aload_n S.1 S.2.1 dX4_remember_40 rfl (lv_at hl 0 rfl) ?_
    refine zr_get (v := .int ((up2 G 0 5 s0) 0 6)) S K X (hcs 0 (by decide)) xE_W rfl uX4_remember_X4 6 (by decide) kX4_remember_77 rfl rfl dX4_remember_41 ?_
    refine lv_iconst (v := (1 : Int32)) S.1 S.2.1 dX4_remember_44 (by decide) ?_
    refine lv_iadd S.1 S.2.1 dX4_remember_45 ?_
    refine lv_bipush (v := (10 : Int32)) S.1 S.2.1 dX4_remember_46 (by decide) ?_
    refine va_mmin S.1 S.2.1 (S.2.2.1.trans hl.1.symm) S.2.2.2.1 (S.2.2.2.2 _ jX4_remember_min_l) (S.2.2.2.2 _ jX4_remember_min_s) (S.2.2.2.2 _ jX4_remember_min_i) (S.2.2.2.2 _ jX4_remember_min_c) (Nat.le_of_ble_eq_true rfl) (Nat.le_of_ble_eq_true rfl) (Nat.zero_le _) (Nat.zero_le _) dX4_remember_48 ?_
    refine zr_put (xv := (if (10 : Int32) < (((up2 G 0 5 s0) 0 6) + (1 : Int32)) then (10 : Int32) else (((up2 G 0 5 s0) 0 6) + (1 : Int32)))) (v := .int (if (10 : Int32) < (((up2 G 0 5 s0) 0 6) + (1 : Int32)) then (10 : Int32) else (((up2 G 0 5 s0) 0 6) + (1 : Int32)))) (fsf := (fsW ad tr)) (ty := .int) S K X (hcs 0 (by decide)) xE_loc (fun _ => xE_W) rfl uX4_remember_X4 tyX4 tyX4_ok nmX4 6 (by decide) kX4_remember_77 rfl (by decide +kernel) rfl rfl (by simp) rfl dX4_remember_51 (fun H locs X => ?_)
    exact zr_vret S hr hlk X h dX4_remember_54
  unfold fX4_remember at h
  obtain ⟨H, hH⟩ : ∃ H, H = s.heap := ⟨_, rfl⟩
  obtain ⟨locs, hlo⟩ : ∃ locs : List Loc, locs = [] := ⟨_, rfl⟩
  have X : gS D cs ad ((xE ki ad) G tr) (gA cs ad s.heap.size) s H locs := by rw [hH, hlo]; exact X
  suffices z : W p l e (headSpec wsX4_remember { frames := 2, cells := 0, slots := 0, locals := 43 }).room s m ([.ref (ad 0)] : List Value).toArray below meth c H locs 0 0 (zQV below ([.ref (ad 0)] : List Value).toArray s D cs ad ((xE ki ad) G9 tr9)) (F0 m 0 ls []) by rw [hH, hlo] at z; exact z
  clear hH hlo
  refine lv_aload_n S.1 S.2.1 dX4_remember_0 rfl (lv_at hl 0 rfl) ?_
  refine zr_get (v := .ref (ad 15)) S K X (hcs 0 (by decide)) xE_W rfl uX4_remember_X4 4 (by decide) kX4_remember_33 rfl rfl dX4_remember_1 ?_
  refine lv_aload_n S.1 S.2.1 dX4_remember_4 rfl (lv_at hl 0 rfl) ?_
  refine zr_get (v := .int (G 0 5)) S K X (hcs 0 (by decide)) xE_W rfl uX4_remember_X4 5 (by decide) kX4_remember_164 rfl rfl dX4_remember_5 ?_
  obtain ⟨hi_1, h⟩ := zin_some h
  refine zr_aald (f := (fun j => 26 + 8 * j)) (t0 := 3) (C := "WindPost$Moment") S K X (hcs 15 (by decide)) xE_15 rfl hi_1 dX4_remember_8 ?_
  refine lv_aload_n S.1 S.2.1 dX4_remember_9 rfl (lv_at hl 0 rfl) ?_
  refine zr_get (v := .ref (ad 18)) S K X (hcs 0 (by decide)) xE_W rfl uX4_remember_X4 3 (by decide) kX4_remember_29 rfl rfl dX4_remember_10 ?_
  obtain ⟨r_3, G_4, tr_5, hf_2, h⟩ := zbd_some h
  refine zr_callv (Eg := (xE ki ad)) K X (va_runV (As := [.ref (ad 18)]) (rest := []) S (mX2_copyFrom l D ki ad cs hcs N (26 + 8 * (Int32.toNatClampNeg (G 0 5))) 18 (kM_past hcs hi_1) (kM_now hcs) G tr H.size _ _ _ hf_2) (cwV 1 S.2.2.2.2 gX4_remember_X2_copyFrom rfl rfl rfl (by decide +kernel) ⟨Nat.le_of_ble_eq_true rfl, Nat.le_of_ble_eq_true rfl⟩) (zr_preV (c0 := (26 + 8 * (Int32.toNatClampNeg (G 0 5)))) K X ((kM_past hcs hi_1).2 0 (by decide)) (xE_M (kM_past hcs hi_1)) rfl) rfl rfl hl.1 rfl (lv_room (Nat.le_of_ble_eq_true rfl)) dX4_remember_13 ⟨Nat.zero_le _, Nat.zero_le _⟩) (fun H locs X => ?_)
  refine lv_aload_n S.1 S.2.1 dX4_remember_16 rfl (lv_at hl 0 rfl) ?_
  refine lv_aload_n S.1 S.2.1 dX4_remember_17 rfl (lv_at hl 0 rfl) ?_
  refine zr_get (v := .int (G_4 0 5)) S K X (hcs 0 (by decide)) xE_W rfl uX4_remember_X4 5 (by decide) kX4_remember_164 rfl rfl dX4_remember_18 ?_
  refine lv_bipush (v := (9 : Int32)) S.1 S.2.1 dX4_remember_21 (by decide) ?_
  refine lv_icmp_ge (tgt := 35) S.1 S.2.1 dX4_remember_23 (by decide) (fun hc_6 => ?_) (fun hc_6 => ?_)
  · have h := zif_pos hc_6 h
    refine lv_iconst (v := (0 : Int32)) S.1 S.2.1 dX4_remember_35 (by decide) ?_
    exact b36 (0 : Int32) G_4 tr_5 h _ _ _ X (lv_sub hl [0] rfl)
  · have h := zif_neg hc_6 h
    refine lv_aload_n S.1 S.2.1 dX4_remember_26 rfl (lv_at hl 0 rfl) ?_
    refine zr_get (v := .int (G_4 0 5)) S K X (hcs 0 (by decide)) xE_W rfl uX4_remember_X4 5 (by decide) kX4_remember_164 rfl rfl dX4_remember_27 ?_
    refine lv_iconst (v := (1 : Int32)) S.1 S.2.1 dX4_remember_30 (by decide) ?_
    refine lv_iadd S.1 S.2.1 dX4_remember_31 ?_
    refine lv_goto (tgt := 36) S.1 S.2.1 dX4_remember_32 (by decide) ?_
    exact b36 ((G_4 0 5) + (1 : Int32)) G_4 tr_5 h _ _ _ X (lv_sub hl [0] rfl)
set_option maxRecDepth 20000 in
theorem kX4_hour_19 : Cond.fieldLink RX4 19 "WindPost" "chart" "LWindPost$Chart;" ∈ wsX4_hour := by decide +kernel
set_option maxRecDepth 20000 in
theorem kX4_hour_29 : Cond.fieldLink RX4 29 "WindPost" "now" "LWindPost$Moment;" ∈ wsX4_hour := by decide +kernel
set_option maxRecDepth 20000 in
theorem kX4_hour_88 : Cond.fieldLink RX4 88 "WindPost$Moment" "nets" "I" ∈ wsX4_hour := by decide +kernel
set_option maxRecDepth 20000 in
theorem kX4_hour_102 : Cond.fieldLink RX4 102 "WindPost$Moment" "time" "I" ∈ wsX4_hour := by decide +kernel
set_option maxRecDepth 20000 in
theorem kX4_hour_112 : Cond.fieldLink RX4 112 "WindPost$Moment" "post" "[LWindPost$Letter;" ∈ wsX4_hour := by decide +kernel
set_option maxRecDepth 20000 in
theorem kX4_hour_131 : Cond.fieldLink RX4 131 "WindPost$Letter" "how" "I" ∈ wsX4_hour := by decide +kernel
set_option maxRecDepth 20000 in
theorem kX4_hour_134 : Cond.fieldLink RX4 134 "WindPost$Moment" "letters" "I" ∈ wsX4_hour := by decide +kernel
set_option maxRecDepth 20000 in
theorem uX4_hour_X1 : ∀ w ∈ wsX10, w ∈ wsX4_hour := by decide +kernel
set_option maxRecDepth 20000 in
theorem uX4_hour_X2 : ∀ w ∈ wsX20, w ∈ wsX4_hour := by decide +kernel
set_option maxRecDepth 20000 in
theorem uX4_hour_X4 : ∀ w ∈ wsX40, w ∈ wsX4_hour := by decide +kernel
set_option maxHeartbeats 8000000 in
set_option maxRecDepth 100000 in
theorem mX4_hour (l : Launch) (D : va_G) (ki : Nat → ClassId) (ad : Nat → Nat) (cs : List Nat) (hcs : kW cs) (N : Nat) (G : zMem) (tr : Int64) : gMetI l D ki ad cs yX4_hour wsX4_hour { frames := 3, cells := 0, slots := 0, locals := 63 } [.ref (ad 0)] (xE ki ad) G tr (fX4_hour N G tr) := by
  refine gMetI_of (cc := cX4_hour) (maxL := 6) (ret := (some .int)) (own := RX4) (by decide +kernel) rfl rfl (Nat.le_of_ble_eq_true rfl) ?_
  intro r9 G9 tr9 h p e s m below meth c S hr hlk K X ls hl
  have hl : lv_has ls 6 [(0, .ref (ad 0))] := hl
  have b110 : ∀ (k39 : Int32 → Int32 → Int32 → zMem → Int64 → zR) (hk39 : ∀ (x1 : Int32) (x2 : Int32) (x3 : Int32) (G : zMem) (tr : Int64), k39 x1 x2 x3 G tr = some (r9, G9, tr9) → zAt p l e (headSpec wsX4_hour { frames := 3, cells := 0, slots := 0, locals := 63 }).room s m ([.ref (ad 0)] : List Value).toArray below meth c 6 D cs ad (zQI below ([.ref (ad 0)] : List Value).toArray s D cs ad ((xE ki ad) G9 tr9) r9) 39 [(0, .ref (ad 0)), (1, .int x1), (2, .int x2), (3, .int x3)] [] ((xE ki ad) G tr)) (x1 : Int32) (x2 : Int32) (x3 : Int32) (G : zMem) (tr : Int64), fX4_hour_b110 N k39 x1 x2 x3 G tr = some (r9, G9, tr9) → zAt p l e (headSpec wsX4_hour { frames := 3, cells := 0, slots := 0, locals := 63 }).room s m ([.ref (ad 0)] : List Value).toArray below meth c 6 D cs ad (zQI below ([.ref (ad 0)] : List Value).toArray s D cs ad ((xE ki ad) G9 tr9) r9) 110 [(0, .ref (ad 0)), (1, .int x1), (2, .int x2), (3, .int x3)] [] ((xE ki ad) G tr) := by
    intro k39 hk39 x1 x2 x3 G tr h H locs ls X hl
    unfold fX4_hour_b110 at h
    refine lv_iinc (v := (x3 + 1)) (lv' := [(3, .int (x3 + 1)), (0, .ref (ad 0)), (1, .int x1), (2, .int x2)]) S.1 S.2.1 dX4_hour_110 hl (k := 3) rfl rfl (by decide) rfl (fun ls hl => ?_)
    refine lv_goto (tgt := 39) S.1 S.2.1 dX4_hour_113 (by decide) ?_
    exact hk39 x1 x2 (x3 + 1) G tr h _ _ _ X (lv_sub hl [1, 2, 3, 0] rfl)
  have b74 : ∀ (k39 : Int32 → Int32 → Int32 → zMem → Int64 → zR) (hk39 : ∀ (x1 : Int32) (x2 : Int32) (x3 : Int32) (G : zMem) (tr : Int64), k39 x1 x2 x3 G tr = some (r9, G9, tr9) → zAt p l e (headSpec wsX4_hour { frames := 3, cells := 0, slots := 0, locals := 63 }).room s m ([.ref (ad 0)] : List Value).toArray below meth c 6 D cs ad (zQI below ([.ref (ad 0)] : List Value).toArray s D cs ad ((xE ki ad) G9 tr9) r9) 39 [(0, .ref (ad 0)), (1, .int x1), (2, .int x2), (3, .int x3)] [] ((xE ki ad) G tr)) (x1 : Int32) (x2 : Int32) (x3 : Int32) (x4 : Nat) (s0 : Int32) (hx4 : kL cs x4) (G : zMem) (tr : Int64), fX4_hour_b74 N k39 x1 x2 x3 x4 s0 G tr = some (r9, G9, tr9) → zAt p l e (headSpec wsX4_hour { frames := 3, cells := 0, slots := 0, locals := 63 }).room s m ([.ref (ad 0)] : List Value).toArray below meth c 6 D cs ad (zQI below ([.ref (ad 0)] : List Value).toArray s D cs ad ((xE ki ad) G9 tr9) r9) 74 [(0, .ref (ad 0)), (1, .int x1), (2, .int x2), (3, .int x3), (4, .ref (ad x4))] [.int s0] ((xE ki ad) G tr) := by
    intro k39 hk39 x1 x2 x3 x4 s0 hx4 G tr h H locs ls X hl
    unfold fX4_hour_b74 at h
    refine lv_istore (lv' := [(5, .int s0), (0, .ref (ad 0)), (1, .int x1), (2, .int x2), (3, .int x3), (4, .ref (ad x4))]) S.1 S.2.1 dX4_hour_74 hl (by decide) rfl (fun ls hl => ?_)
    refine lv_aload S.1 S.2.1 dX4_hour_76 (lv_at hl 5 rfl) ?_
    refine lv_aload_n S.1 S.2.1 dX4_hour_78 rfl (lv_at hl 1 rfl) ?_
    obtain ⟨hq_1, h⟩ := zch_some h
    refine zr_get (v := .ref (ad (G 0 1).toNatClampNeg)) S K X (hcs 0 (by decide)) xE_W rfl uX4_hour_X4 1 (by decide) kX4_hour_19 rfl rfl dX4_hour_79 ?_
    refine lv_iload_n S.1 S.2.1 dX4_hour_82 rfl (lv_at hl 2 rfl) ?_
    refine lv_aload_n S.1 S.2.1 dX4_hour_83 rfl (lv_at hl 1 rfl) ?_
    refine zr_get (v := .ref (ad 18)) S K X (hcs 0 (by decide)) xE_W rfl uX4_hour_X4 3 (by decide) kX4_hour_29 rfl rfl dX4_hour_84 ?_
    refine zr_get (v := .int (G 18 2)) S K X ((kM_now hcs).2 0 (by decide)) (xE_M (kM_now hcs)) rfl uX4_hour_X2 2 (by decide) kX4_hour_88 rfl rfl dX4_hour_87 ?_
    obtain ⟨r_3, G_4, tr_5, hf_2, h⟩ := zbd_some h
    refine zr_callv (Eg := (xE ki ad)) K X (va_runV (As := [.ref (ad (G 0 1).toNatClampNeg), .int x1, .int (G 18 2)]) (rest := []) S (mX1_passHour l D ki ad cs hcs N x4 (G 0 1).toNatClampNeg x1 (G 18 2) hx4 (kC_of hcs hq_1) G tr H.size _ _ _ hf_2) (cwV 3 S.2.2.2.2 gX4_hour_X1_passHour rfl rfl rfl (by decide +kernel) ⟨Nat.le_of_ble_eq_true rfl, Nat.le_of_ble_eq_true rfl⟩) (zr_preV (c0 := x4) K X hx4.2 (xE_L hx4) rfl) rfl rfl hl.1 rfl (lv_room (Nat.le_of_ble_eq_true rfl)) dX4_hour_90 ⟨Nat.zero_le _, Nat.zero_le _⟩) (fun H locs X => ?_)
    refine lv_iload S.1 S.2.1 dX4_hour_93 (lv_at hl 0 rfl) ?_
    refine lv_if_eq (tgt := 110) S.1 S.2.1 dX4_hour_95 (by decide) (fun hc_6 => ?_) (fun hc_6 => ?_)
    · have h := zif_pos hc_6 h
      exact b110 k39 hk39 x1 x2 x3 G_4 tr_5 h _ _ _ X (lv_sub hl [1, 2, 3, 4] rfl)
    · have h := zif_neg hc_6 h
      refine lv_aload S.1 S.2.1 dX4_hour_98 (lv_at hl 5 rfl) ?_
      refine zr_get (v := .int (G_4 x4 5)) S K X hx4.2 (xE_L hx4) rfl uX4_hour_X1 5 (by decide) kX4_hour_131 rfl rfl dX4_hour_100 ?_
      refine lv_iconst (v := (1 : Int32)) S.1 S.2.1 dX4_hour_103 (by decide) ?_
      refine lv_icmp_ne (tgt := 110) S.1 S.2.1 dX4_hour_104 (by decide) (fun hc_7 => ?_) (fun hc_7 => ?_)
      · have h := zif_neg hc_7 h
        exact b110 k39 hk39 x1 x2 x3 G_4 tr_5 h _ _ _ X (lv_sub hl [1, 2, 3, 4] rfl)
      · have h := zif_pos hc_7 h
        refine lv_iinc (v := (x2 + 1)) (lv' := [(2, .int (x2 + 1)), (5, .int s0), (0, .ref (ad 0)), (1, .int x1), (3, .int x3), (4, .ref (ad x4))]) S.1 S.2.1 dX4_hour_107 hl (k := 3) rfl rfl (by decide) rfl (fun ls hl => ?_)
        exact b110 k39 hk39 x1 (x2 + 1) x3 G_4 tr_5 h _ _ _ X (lv_sub hl [2, 3, 0, 4] rfl)
  have b39 : ∀ (k39 : Int32 → Int32 → Int32 → zMem → Int64 → zR) (hk39 : ∀ (x1 : Int32) (x2 : Int32) (x3 : Int32) (G : zMem) (tr : Int64), k39 x1 x2 x3 G tr = some (r9, G9, tr9) → zAt p l e (headSpec wsX4_hour { frames := 3, cells := 0, slots := 0, locals := 63 }).room s m ([.ref (ad 0)] : List Value).toArray below meth c 6 D cs ad (zQI below ([.ref (ad 0)] : List Value).toArray s D cs ad ((xE ki ad) G9 tr9) r9) 39 [(0, .ref (ad 0)), (1, .int x1), (2, .int x2), (3, .int x3)] [] ((xE ki ad) G tr)) (x1 : Int32) (x2 : Int32) (x3 : Int32) (G : zMem) (tr : Int64), fX4_hour_b39 N k39 x1 x2 x3 G tr = some (r9, G9, tr9) → zAt p l e (headSpec wsX4_hour { frames := 3, cells := 0, slots := 0, locals := 63 }).room s m ([.ref (ad 0)] : List Value).toArray below meth c 6 D cs ad (zQI below ([.ref (ad 0)] : List Value).toArray s D cs ad ((xE ki ad) G9 tr9) r9) 39 [(0, .ref (ad 0)), (1, .int x1), (2, .int x2), (3, .int x3)] [] ((xE ki ad) G tr) := by
    intro k39 hk39 x1 x2 x3 G tr h H locs ls X hl
    unfold fX4_hour_b39 at h
    refine lv_iload_n S.1 S.2.1 dX4_hour_39 rfl (lv_at hl 3 rfl) ?_
    refine lv_aload_n S.1 S.2.1 dX4_hour_40 rfl (lv_at hl 0 rfl) ?_
    refine zr_get (v := .ref (ad 18)) S K X (hcs 0 (by decide)) xE_W rfl uX4_hour_X4 3 (by decide) kX4_hour_29 rfl rfl dX4_hour_41 ?_
    refine zr_get (v := .int (G 18 1)) S K X ((kM_now hcs).2 0 (by decide)) (xE_M (kM_now hcs)) rfl uX4_hour_X2 1 (by decide) kX4_hour_134 rfl rfl dX4_hour_44 ?_
    refine lv_icmp_ge (tgt := 116) S.1 S.2.1 dX4_hour_47 (by decide) (fun hc_1 => ?_) (fun hc_1 => ?_)
    · have h := zif_pos hc_1 h
      refine lv_aload_n S.1 S.2.1 dX4_hour_116 rfl (lv_at hl 0 rfl) ?_
      refine zr_get (v := .ref (ad 18)) S K X (hcs 0 (by decide)) xE_W rfl uX4_hour_X4 3 (by decide) kX4_hour_29 rfl rfl dX4_hour_117 ?_
      refine lv_dup S.1 S.2.1 dX4_hour_120 rfl ?_
      refine zr_get (v := .int (G 18 0)) S K X ((kM_now hcs).2 0 (by decide)) (xE_M (kM_now hcs)) rfl uX4_hour_X2 0 (by decide) kX4_hour_102 rfl rfl dX4_hour_121 ?_
      refine lv_iconst (v := (1 : Int32)) S.1 S.2.1 dX4_hour_124 (by decide) ?_
      refine lv_iadd S.1 S.2.1 dX4_hour_125 ?_
      refine zr_put (xv := ((G 18 0) + (1 : Int32))) (v := .int ((G 18 0) + (1 : Int32))) (fsf := (fsM ad 18)) (ty := .int) S K X ((kM_now hcs).2 0 (by decide)) xE_loc (fun _ => (xE_M (kM_now hcs))) rfl uX4_hour_X2 tyX2 tyX2_ok nmX2 0 (by decide) kX4_hour_102 rfl (by decide +kernel) rfl rfl (by simp) rfl dX4_hour_126 (fun H locs X => ?_)
      refine lv_iload_n S.1 S.2.1 dX4_hour_129 rfl (lv_at hl 2 rfl) ?_
      exact zr_iret S hr hlk X h dX4_hour_130
    · have h := zif_neg hc_1 h
      refine lv_aload_n S.1 S.2.1 dX4_hour_50 rfl (lv_at hl 0 rfl) ?_
      refine zr_get (v := .ref (ad 18)) S K X (hcs 0 (by decide)) xE_W rfl uX4_hour_X4 3 (by decide) kX4_hour_29 rfl rfl dX4_hour_51 ?_
      refine zr_get (v := .ref (ad 20)) S K X ((kM_now hcs).2 0 (by decide)) (xE_M (kM_now hcs)) rfl uX4_hour_X2 5 (by decide) kX4_hour_112 rfl rfl dX4_hour_54 ?_
      refine lv_iload_n S.1 S.2.1 dX4_hour_57 rfl (lv_at hl 3 rfl) ?_
      obtain ⟨hi_2, h⟩ := zin_some h
      refine zr_aald (f := (fun j => 21 + j)) (t0 := 2) (C := "WindPost$Letter") S K X ((kM_now hcs).2 2 (by decide)) (xE_M2 (kM_now hcs)) rfl hi_2 dX4_hour_58 ?_
      refine lv_astore (lv' := [(4, .ref (ad (21 + (Int32.toNatClampNeg x3)))), (0, .ref (ad 0)), (1, .int x1), (2, .int x2), (3, .int x3)]) S.1 S.2.1 dX4_hour_59 hl (by decide) rfl (fun ls hl => ?_)
      refine lv_aload S.1 S.2.1 dX4_hour_61 (lv_at hl 0 rfl) ?_
      refine zr_get (v := .int (G (21 + (Int32.toNatClampNeg x3)) 5)) S K X (kL_now hcs hi_2).2 (xE_L (kL_now hcs hi_2)) rfl uX4_hour_X1 5 (by decide) kX4_hour_131 rfl rfl dX4_hour_63 ?_
      refine lv_if_ne (tgt := 73) S.1 S.2.1 dX4_hour_66 (by decide) (fun hc_3 => ?_) (fun hc_3 => ?_)
      · have h := zif_neg hc_3 h
        refine lv_iconst (v := (0 : Int32)) S.1 S.2.1 dX4_hour_73 (by decide) ?_
        exact b74 k39 hk39 x1 x2 x3 (21 + (Int32.toNatClampNeg x3)) (0 : Int32) (kL_now hcs hi_2) G tr h _ _ _ X (lv_sub hl [1, 2, 3, 4, 0] rfl)
      · have h := zif_pos hc_3 h
        refine lv_iconst (v := (1 : Int32)) S.1 S.2.1 dX4_hour_69 (by decide) ?_
        refine lv_goto (tgt := 74) S.1 S.2.1 dX4_hour_70 (by decide) ?_
        exact b74 k39 hk39 x1 x2 x3 (21 + (Int32.toNatClampNeg x3)) (1 : Int32) (kL_now hcs hi_2) G tr h _ _ _ X (lv_sub hl [1, 2, 3, 4, 0] rfl)
  have L39 : ∀ (n : Nat) (x1 : Int32) (x2 : Int32) (x3 : Int32) (G : zMem) (tr : Int64), fX4_hour_L39 N n x1 x2 x3 G tr = some (r9, G9, tr9) → zAt p l e (headSpec wsX4_hour { frames := 3, cells := 0, slots := 0, locals := 63 }).room s m ([.ref (ad 0)] : List Value).toArray below meth c 6 D cs ad (zQI below ([.ref (ad 0)] : List Value).toArray s D cs ad ((xE ki ad) G9 tr9) r9) 39 [(0, .ref (ad 0)), (1, .int x1), (2, .int x2), (3, .int x3)] [] ((xE ki ad) G tr) := by
    intro n
    induction n with
    | zero => intro x1 x2 x3 G tr h; cases h
    | succ n ih => intro x1 x2 x3 G tr h; exact b39 (fX4_hour_L39 N n) ih x1 x2 x3 G tr h
  unfold fX4_hour at h
  obtain ⟨H, hH⟩ : ∃ H, H = s.heap := ⟨_, rfl⟩
  obtain ⟨locs, hlo⟩ : ∃ locs : List Loc, locs = [] := ⟨_, rfl⟩
  have X : gS D cs ad ((xE ki ad) G tr) (gA cs ad s.heap.size) s H locs := by rw [hH, hlo]; exact X
  suffices z : W p l e (headSpec wsX4_hour { frames := 3, cells := 0, slots := 0, locals := 63 }).room s m ([.ref (ad 0)] : List Value).toArray below meth c H locs 0 0 (zQI below ([.ref (ad 0)] : List Value).toArray s D cs ad ((xE ki ad) G9 tr9) r9) (F0 m 0 ls []) by rw [hH, hlo] at z; exact z
  clear hH hlo
  refine lv_aload_n S.1 S.2.1 dX4_hour_0 rfl (lv_at hl 0 rfl) ?_
  refine zr_get (v := .ref (ad 18)) S K X (hcs 0 (by decide)) xE_W rfl uX4_hour_X4 3 (by decide) kX4_hour_29 rfl rfl dX4_hour_1 ?_
  refine zr_get (v := .int (G 18 0)) S K X ((kM_now hcs).2 0 (by decide)) (xE_M (kM_now hcs)) rfl uX4_hour_X2 0 (by decide) kX4_hour_102 rfl rfl dX4_hour_4 ?_
  refine lv_sipush (v := (9999 : Int32)) S.1 S.2.1 dX4_hour_7 (by decide) ?_
  refine lv_icmp_lt (tgt := 16) S.1 S.2.1 dX4_hour_10 (by decide) (fun hc_1 => ?_) (fun hc_1 => ?_)
  · have h := zif_pos hc_1 h
    refine lv_aload_n S.1 S.2.1 dX4_hour_16 rfl (lv_at hl 0 rfl) ?_
    obtain ⟨r_3, G_4, tr_5, hf_2, h⟩ := zbd_some h
    refine zr_callv (Eg := (xE ki ad)) K X (va_runV (As := []) (rest := []) S (mX4_remember l D ki ad cs hcs N G tr H.size _ _ _ hf_2) (cwV 0 S.2.2.2.2 gX4_hour_X4_remember rfl rfl rfl (by decide +kernel) ⟨Nat.le_of_ble_eq_true rfl, Nat.le_of_ble_eq_true rfl⟩) (zr_preV (c0 := 0) K X (hcs 0 (by decide)) xE_W rfl) rfl rfl hl.1 rfl (lv_room (Nat.le_of_ble_eq_true rfl)) dX4_hour_17 ⟨Nat.zero_le _, Nat.zero_le _⟩) (fun H locs X => ?_)
    refine lv_aload_n S.1 S.2.1 dX4_hour_20 rfl (lv_at hl 0 rfl) ?_
    refine zr_get (v := .ref (ad 18)) S K X (hcs 0 (by decide)) xE_W rfl uX4_hour_X4 3 (by decide) kX4_hour_29 rfl rfl dX4_hour_21 ?_
    refine lv_aload_n S.1 S.2.1 dX4_hour_24 rfl (lv_at hl 0 rfl) ?_
    refine zr_get (v := .ref (ad 18)) S K X (hcs 0 (by decide)) xE_W rfl uX4_hour_X4 3 (by decide) kX4_hour_29 rfl rfl dX4_hour_25 ?_
    refine zr_get (v := .int (G_4 18 0)) S K X ((kM_now hcs).2 0 (by decide)) (xE_M (kM_now hcs)) rfl uX4_hour_X2 0 (by decide) kX4_hour_102 rfl rfl dX4_hour_28 ?_
    obtain ⟨r_7, G_8, tr_9, hf_6, h⟩ := zbd_some h
    refine zr_calli (Eg := (xE ki ad)) K X (va_runV (As := [.int (G_4 18 0)]) (rest := []) S (mX2_windOf l D ki ad cs hcs N 18 (G_4 18 0) (kM_now hcs) G_4 tr_5 H.size _ _ _ hf_6) (cwV 1 S.2.2.2.2 gX4_hour_X2_windOf rfl rfl rfl (by decide +kernel) ⟨Nat.le_of_ble_eq_true rfl, Nat.le_of_ble_eq_true rfl⟩) (zr_preV (c0 := 18) K X ((kM_now hcs).2 0 (by decide)) (xE_M (kM_now hcs)) rfl) rfl rfl hl.1 rfl (lv_room (Nat.le_of_ble_eq_true rfl)) dX4_hour_31 ⟨Nat.zero_le _, Nat.zero_le _⟩) (fun H locs X => ?_)
    refine lv_istore_n (lv' := [(1, .int r_7), (0, .ref (ad 0))]) S.1 S.2.1 dX4_hour_34 rfl hl (by decide) rfl (fun ls hl => ?_)
    refine lv_iconst (v := (0 : Int32)) S.1 S.2.1 dX4_hour_35 (by decide) ?_
    refine lv_istore_n (lv' := [(2, .int (0 : Int32)), (1, .int r_7), (0, .ref (ad 0))]) S.1 S.2.1 dX4_hour_36 rfl hl (by decide) rfl (fun ls hl => ?_)
    refine lv_iconst (v := (0 : Int32)) S.1 S.2.1 dX4_hour_37 (by decide) ?_
    refine lv_istore_n (lv' := [(3, .int (0 : Int32)), (2, .int (0 : Int32)), (1, .int r_7), (0, .ref (ad 0))]) S.1 S.2.1 dX4_hour_38 rfl hl (by decide) rfl (fun ls hl => ?_)
    exact L39 N r_7 (0 : Int32) (0 : Int32) G_8 tr_9 h _ _ _ X (lv_sub hl [3, 2, 1, 0] rfl)
  · have h := zif_neg hc_1 h
    refine lv_bipush (v := (-2 : Int32)) S.1 S.2.1 dX4_hour_13 (by decide) ?_
    exact zr_iret S hr hlk X h dX4_hour_15
set_option maxRecDepth 20000 in
theorem kX4_passHours_19 : Cond.fieldLink RX4 19 "WindPost" "chart" "LWindPost$Chart;" ∈ wsX4_passHours := by decide +kernel
set_option maxRecDepth 20000 in
theorem kX4_passHours_29 : Cond.fieldLink RX4 29 "WindPost" "now" "LWindPost$Moment;" ∈ wsX4_passHours := by decide +kernel
set_option maxRecDepth 20000 in
theorem kX4_passHours_88 : Cond.fieldLink RX4 88 "WindPost$Moment" "nets" "I" ∈ wsX4_passHours := by decide +kernel
set_option maxRecDepth 20000 in
theorem uX4_passHours_X2 : ∀ w ∈ wsX20, w ∈ wsX4_passHours := by decide +kernel
set_option maxRecDepth 20000 in
theorem uX4_passHours_X4 : ∀ w ∈ wsX40, w ∈ wsX4_passHours := by decide +kernel
set_option maxHeartbeats 8000000 in
set_option maxRecDepth 100000 in
theorem mX4_passHours (l : Launch) (D : va_G) (ki : Nat → ClassId) (ad : Nat → Nat) (cs : List Nat) (hcs : kW cs) (N : Nat) (a1 : Nat) (a2 : Int32) (a3 : Int32) (ha1 : kL cs a1) (G : zMem) (tr : Int64) : gMetV l D ki ad cs yX4_passHours wsX4_passHours { frames := 2, cells := 0, slots := 0, locals := 48 } [.ref (ad 0), .ref (ad a1), .int a2, .int a3] (xE ki ad) G tr (fX4_passHours N a1 a2 a3 G tr) := by
  refine gMetV_of (cc := cX4_passHours) (maxL := 5) (ret := none) (own := RX4) (by decide +kernel) rfl rfl (Nat.le_of_ble_eq_true rfl) ?_
  intro r9 G9 tr9 h p e s m below meth c S hr hlk K X ls hl
  have hl : lv_has ls 5 [(0, .ref (ad 0)), (1, .ref (ad a1)), (2, .int a2), (3, .int a3)] := hl
  have b3 : ∀ (k3 : Int32 → zMem → Int64 → zR) (hk3 : ∀ (x4 : Int32) (G : zMem) (tr : Int64), k3 x4 G tr = some (r9, G9, tr9) → zAt p l e (headSpec wsX4_passHours { frames := 2, cells := 0, slots := 0, locals := 48 }).room s m ([.ref (ad 0), .ref (ad a1), .int a2, .int a3] : List Value).toArray below meth c 5 D cs ad (zQV below ([.ref (ad 0), .ref (ad a1), .int a2, .int a3] : List Value).toArray s D cs ad ((xE ki ad) G9 tr9)) 3 [(0, .ref (ad 0)), (1, .ref (ad a1)), (2, .int a2), (3, .int a3), (4, .int x4)] [] ((xE ki ad) G tr)) (x4 : Int32) (G : zMem) (tr : Int64), fX4_passHours_b3 N a1 a2 a3 k3 x4 G tr = some (r9, G9, tr9) → zAt p l e (headSpec wsX4_passHours { frames := 2, cells := 0, slots := 0, locals := 48 }).room s m ([.ref (ad 0), .ref (ad a1), .int a2, .int a3] : List Value).toArray below meth c 5 D cs ad (zQV below ([.ref (ad 0), .ref (ad a1), .int a2, .int a3] : List Value).toArray s D cs ad ((xE ki ad) G9 tr9)) 3 [(0, .ref (ad 0)), (1, .ref (ad a1)), (2, .int a2), (3, .int a3), (4, .int x4)] [] ((xE ki ad) G tr) := by
    intro k3 hk3 x4 G tr h H locs ls X hl
    unfold fX4_passHours_b3 at h
    refine lv_iload S.1 S.2.1 dX4_passHours_3 (lv_at hl 4 rfl) ?_
    refine lv_iload_n S.1 S.2.1 dX4_passHours_5 rfl (lv_at hl 3 rfl) ?_
    refine lv_icmp_ge (tgt := 41) S.1 S.2.1 dX4_passHours_6 (by decide) (fun hc_1 => ?_) (fun hc_1 => ?_)
    · have h := zif_pos hc_1 h
      exact zr_vret S hr hlk X h dX4_passHours_41
    · have h := zif_neg hc_1 h
      refine lv_aload_n S.1 S.2.1 dX4_passHours_9 rfl (lv_at hl 1 rfl) ?_
      refine lv_aload_n S.1 S.2.1 dX4_passHours_10 rfl (lv_at hl 0 rfl) ?_
      obtain ⟨hq_2, h⟩ := zch_some h
      refine zr_get (v := .ref (ad (G 0 1).toNatClampNeg)) S K X (hcs 0 (by decide)) xE_W rfl uX4_passHours_X4 1 (by decide) kX4_passHours_19 rfl rfl dX4_passHours_11 ?_
      refine lv_aload_n S.1 S.2.1 dX4_passHours_14 rfl (lv_at hl 0 rfl) ?_
      refine zr_get (v := .ref (ad 18)) S K X (hcs 0 (by decide)) xE_W rfl uX4_passHours_X4 3 (by decide) kX4_passHours_29 rfl rfl dX4_passHours_15 ?_
      refine lv_iload_n S.1 S.2.1 dX4_passHours_18 rfl (lv_at hl 2 rfl) ?_
      refine lv_iload S.1 S.2.1 dX4_passHours_19 (lv_at hl 4 rfl) ?_
      refine lv_iadd S.1 S.2.1 dX4_passHours_21 ?_
      obtain ⟨r_4, G_5, tr_6, hf_3, h⟩ := zbd_some h
      refine zr_calli (Eg := (xE ki ad)) K X (va_runV (As := [.int (a2 + x4)]) (rest := [.ref (ad (G 0 1).toNatClampNeg), .ref (ad a1)]) S (mX2_windOf l D ki ad cs hcs N 18 (a2 + x4) (kM_now hcs) G tr H.size _ _ _ hf_3) (cwV 1 S.2.2.2.2 gX4_passHours_X2_windOf rfl rfl rfl (by decide +kernel) ⟨Nat.le_of_ble_eq_true rfl, Nat.le_of_ble_eq_true rfl⟩) (zr_preV (c0 := 18) K X ((kM_now hcs).2 0 (by decide)) (xE_M (kM_now hcs)) rfl) rfl rfl hl.1 rfl (lv_room (Nat.le_of_ble_eq_true rfl)) dX4_passHours_22 ⟨Nat.zero_le _, Nat.zero_le _⟩) (fun H locs X => ?_)
      refine lv_aload_n S.1 S.2.1 dX4_passHours_25 rfl (lv_at hl 0 rfl) ?_
      refine zr_get (v := .ref (ad 18)) S K X (hcs 0 (by decide)) xE_W rfl uX4_passHours_X4 3 (by decide) kX4_passHours_29 rfl rfl dX4_passHours_26 ?_
      refine zr_get (v := .int (G_5 18 2)) S K X ((kM_now hcs).2 0 (by decide)) (xE_M (kM_now hcs)) rfl uX4_passHours_X2 2 (by decide) kX4_passHours_88 rfl rfl dX4_passHours_29 ?_
      obtain ⟨r_8, G_9, tr_10, hf_7, h⟩ := zbd_some h
      refine zr_callv (Eg := (xE ki ad)) K X (va_runV (As := [.ref (ad (G 0 1).toNatClampNeg), .int r_4, .int (G_5 18 2)]) (rest := []) S (mX1_passHour l D ki ad cs hcs N a1 (G 0 1).toNatClampNeg r_4 (G_5 18 2) ha1 (kC_of hcs hq_2) G_5 tr_6 H.size _ _ _ hf_7) (cwV 3 S.2.2.2.2 gX4_passHours_X1_passHour rfl rfl rfl (by decide +kernel) ⟨Nat.le_of_ble_eq_true rfl, Nat.le_of_ble_eq_true rfl⟩) (zr_preV (c0 := a1) K X ha1.2 (xE_L ha1) rfl) rfl rfl hl.1 rfl (lv_room (Nat.le_of_ble_eq_true rfl)) dX4_passHours_32 ⟨Nat.zero_le _, Nat.zero_le _⟩) (fun H locs X => ?_)
      refine lv_iinc (v := (x4 + 1)) (lv' := [(4, .int (x4 + 1)), (0, .ref (ad 0)), (1, .ref (ad a1)), (2, .int a2), (3, .int a3)]) S.1 S.2.1 dX4_passHours_35 hl (k := 4) rfl rfl (by decide) rfl (fun ls hl => ?_)
      refine lv_goto (tgt := 3) S.1 S.2.1 dX4_passHours_38 (by decide) ?_
      exact hk3 (x4 + 1) G_9 tr_10 h _ _ _ X (lv_sub hl [1, 2, 3, 4, 0] rfl)
  have L3 : ∀ (n : Nat) (x4 : Int32) (G : zMem) (tr : Int64), fX4_passHours_L3 N a1 a2 a3 n x4 G tr = some (r9, G9, tr9) → zAt p l e (headSpec wsX4_passHours { frames := 2, cells := 0, slots := 0, locals := 48 }).room s m ([.ref (ad 0), .ref (ad a1), .int a2, .int a3] : List Value).toArray below meth c 5 D cs ad (zQV below ([.ref (ad 0), .ref (ad a1), .int a2, .int a3] : List Value).toArray s D cs ad ((xE ki ad) G9 tr9)) 3 [(0, .ref (ad 0)), (1, .ref (ad a1)), (2, .int a2), (3, .int a3), (4, .int x4)] [] ((xE ki ad) G tr) := by
    intro n
    induction n with
    | zero => intro x4 G tr h; cases h
    | succ n ih => intro x4 G tr h; exact b3 (fX4_passHours_L3 N a1 a2 a3 n) ih x4 G tr h
  unfold fX4_passHours at h
  obtain ⟨H, hH⟩ : ∃ H, H = s.heap := ⟨_, rfl⟩
  obtain ⟨locs, hlo⟩ : ∃ locs : List Loc, locs = [] := ⟨_, rfl⟩
  have X : gS D cs ad ((xE ki ad) G tr) (gA cs ad s.heap.size) s H locs := by rw [hH, hlo]; exact X
  suffices z : W p l e (headSpec wsX4_passHours { frames := 2, cells := 0, slots := 0, locals := 48 }).room s m ([.ref (ad 0), .ref (ad a1), .int a2, .int a3] : List Value).toArray below meth c H locs 0 0 (zQV below ([.ref (ad 0), .ref (ad a1), .int a2, .int a3] : List Value).toArray s D cs ad ((xE ki ad) G9 tr9)) (F0 m 0 ls []) by rw [hH, hlo] at z; exact z
  clear hH hlo
  refine lv_iconst (v := (0 : Int32)) S.1 S.2.1 dX4_passHours_0 (by decide) ?_
  refine lv_istore (lv' := [(4, .int (0 : Int32)), (0, .ref (ad 0)), (1, .ref (ad a1)), (2, .int a2), (3, .int a3)]) S.1 S.2.1 dX4_passHours_1 hl (by decide) rfl (fun ls hl => ?_)
  exact L3 N (0 : Int32) G tr h _ _ _ X (lv_sub hl [1, 2, 3, 4, 0] rfl)
set_option maxRecDepth 20000 in
theorem kX4_letterIn_29 : Cond.fieldLink RX4 29 "WindPost" "now" "LWindPost$Moment;" ∈ wsX4_letterIn := by decide +kernel
set_option maxRecDepth 20000 in
theorem kX4_letterIn_47 : Cond.fieldLink RX4 47 "WindPost" "probe" "LWindPost$Letter;" ∈ wsX4_letterIn := by decide +kernel
set_option maxRecDepth 20000 in
theorem kX4_letterIn_102 : Cond.fieldLink RX4 102 "WindPost$Moment" "time" "I" ∈ wsX4_letterIn := by decide +kernel
set_option maxRecDepth 20000 in
theorem kX4_letterIn_112 : Cond.fieldLink RX4 112 "WindPost$Moment" "post" "[LWindPost$Letter;" ∈ wsX4_letterIn := by decide +kernel
set_option maxRecDepth 20000 in
theorem uX4_letterIn_X2 : ∀ w ∈ wsX20, w ∈ wsX4_letterIn := by decide +kernel
set_option maxRecDepth 20000 in
theorem uX4_letterIn_X4 : ∀ w ∈ wsX40, w ∈ wsX4_letterIn := by decide +kernel
set_option maxHeartbeats 8000000 in
set_option maxRecDepth 100000 in
theorem mX4_letterIn (l : Launch) (D : va_G) (ki : Nat → ClassId) (ad : Nat → Nat) (cs : List Nat) (hcs : kW cs) (N : Nat) (a1 : Int32) (a2 : Int32) (G : zMem) (tr : Int64) : gMetA l D ki ad cs yX4_letterIn wsX4_letterIn { frames := 3, cells := 0, slots := 0, locals := 72 } [.ref (ad 0), .int a1, .int a2] (xE ki ad) G tr 13 (fX4_letterIn N a1 a2 G tr) := by
  refine gMetA_of (cc := cX4_letterIn) (maxL := 3) (ret := (some (.object "WindPost$Letter"))) (own := RX4) (by decide +kernel) rfl rfl (Nat.le_of_ble_eq_true rfl) ?_
  intro r9 G9 tr9 h p e s m below meth c S hr hlk K X ls hl
  have hl : lv_has ls 3 [(0, .ref (ad 0)), (1, .int a1), (2, .int a2)] := hl
  unfold fX4_letterIn at h
  obtain ⟨H, hH⟩ : ∃ H, H = s.heap := ⟨_, rfl⟩
  obtain ⟨locs, hlo⟩ : ∃ locs : List Loc, locs = [] := ⟨_, rfl⟩
  have X : gS D cs ad ((xE ki ad) G tr) (gA cs ad s.heap.size) s H locs := by rw [hH, hlo]; exact X
  suffices z : W p l e (headSpec wsX4_letterIn { frames := 3, cells := 0, slots := 0, locals := 72 }).room s m ([.ref (ad 0), .int a1, .int a2] : List Value).toArray below meth c H locs 0 0 (zQA below ([.ref (ad 0), .int a1, .int a2] : List Value).toArray s D cs ad ((xE ki ad) G9 tr9) 13) (F0 m 0 ls []) by rw [hH, hlo] at z; exact z
  clear hH hlo
  refine lv_aload_n S.1 S.2.1 dX4_letterIn_0 rfl (lv_at hl 0 rfl) ?_
  refine zr_get (v := .ref (ad 13)) S K X (hcs 0 (by decide)) xE_W rfl uX4_letterIn_X4 9 (by decide) kX4_letterIn_47 rfl rfl dX4_letterIn_1 ?_
  refine lv_aload_n S.1 S.2.1 dX4_letterIn_4 rfl (lv_at hl 0 rfl) ?_
  refine zr_get (v := .ref (ad 18)) S K X (hcs 0 (by decide)) xE_W rfl uX4_letterIn_X4 3 (by decide) kX4_letterIn_29 rfl rfl dX4_letterIn_5 ?_
  refine zr_get (v := .ref (ad 20)) S K X ((kM_now hcs).2 0 (by decide)) (xE_M (kM_now hcs)) rfl uX4_letterIn_X2 5 (by decide) kX4_letterIn_112 rfl rfl dX4_letterIn_8 ?_
  refine lv_iload_n S.1 S.2.1 dX4_letterIn_11 rfl (lv_at hl 1 rfl) ?_
  obtain ⟨hi_1, h⟩ := zin_some h
  refine zr_aald (f := (fun j => 21 + j)) (t0 := 2) (C := "WindPost$Letter") S K X ((kM_now hcs).2 2 (by decide)) (xE_M2 (kM_now hcs)) rfl hi_1 dX4_letterIn_12 ?_
  obtain ⟨r_3, G_4, tr_5, hf_2, h⟩ := zbd_some h
  refine zr_callv (Eg := (xE ki ad)) K X (va_runV (As := [.ref (ad (21 + (Int32.toNatClampNeg a1)))]) (rest := []) S (mX1_copyFrom l D ki ad cs hcs N 13 (21 + (Int32.toNatClampNeg a1)) (kL_13 hcs) (kL_now hcs hi_1) G tr H.size _ _ _ hf_2) (cwV 1 S.2.2.2.2 gX4_letterIn_X1_copyFrom rfl rfl rfl (by decide +kernel) ⟨Nat.le_of_ble_eq_true rfl, Nat.le_of_ble_eq_true rfl⟩) (zr_preV (c0 := 13) K X (kL_13 hcs).2 (xE_L (kL_13 hcs)) rfl) rfl rfl hl.1 rfl (lv_room (Nat.le_of_ble_eq_true rfl)) dX4_letterIn_13 ⟨Nat.zero_le _, Nat.zero_le _⟩) (fun H locs X => ?_)
  refine lv_aload_n S.1 S.2.1 dX4_letterIn_16 rfl (lv_at hl 0 rfl) ?_
  refine lv_aload_n S.1 S.2.1 dX4_letterIn_17 rfl (lv_at hl 0 rfl) ?_
  refine zr_get (v := .ref (ad 13)) S K X (hcs 0 (by decide)) xE_W rfl uX4_letterIn_X4 9 (by decide) kX4_letterIn_47 rfl rfl dX4_letterIn_18 ?_
  refine lv_aload_n S.1 S.2.1 dX4_letterIn_21 rfl (lv_at hl 0 rfl) ?_
  refine zr_get (v := .ref (ad 18)) S K X (hcs 0 (by decide)) xE_W rfl uX4_letterIn_X4 3 (by decide) kX4_letterIn_29 rfl rfl dX4_letterIn_22 ?_
  refine zr_get (v := .int (G_4 18 0)) S K X ((kM_now hcs).2 0 (by decide)) (xE_M (kM_now hcs)) rfl uX4_letterIn_X2 0 (by decide) kX4_letterIn_102 rfl rfl dX4_letterIn_25 ?_
  refine lv_iload_n S.1 S.2.1 dX4_letterIn_28 rfl (lv_at hl 2 rfl) ?_
  obtain ⟨r_7, G_8, tr_9, hf_6, h⟩ := zbd_some h
  refine zr_callv (Eg := (xE ki ad)) K X (va_runV (As := [.ref (ad 13), .int (G_4 18 0), .int a2]) (rest := []) S (mX4_passHours l D ki ad cs hcs N 13 (G_4 18 0) a2 (kL_13 hcs) G_4 tr_5 H.size _ _ _ hf_6) (cwV 3 S.2.2.2.2 gX4_letterIn_X4_passHours rfl rfl rfl (by decide +kernel) ⟨Nat.le_of_ble_eq_true rfl, Nat.le_of_ble_eq_true rfl⟩) (zr_preV (c0 := 0) K X (hcs 0 (by decide)) xE_W rfl) rfl rfl hl.1 rfl (lv_room (Nat.le_of_ble_eq_true rfl)) dX4_letterIn_29 ⟨Nat.zero_le _, Nat.zero_le _⟩) (fun H locs X => ?_)
  refine lv_aload_n S.1 S.2.1 dX4_letterIn_32 rfl (lv_at hl 0 rfl) ?_
  refine zr_get (v := .ref (ad 13)) S K X (hcs 0 (by decide)) xE_W rfl uX4_letterIn_X4 9 (by decide) kX4_letterIn_47 rfl rfl dX4_letterIn_33 ?_
  exact zr_aret S hr hlk X h dX4_letterIn_36
set_option maxRecDepth 20000 in
theorem kX4_arrival_19 : Cond.fieldLink RX4 19 "WindPost" "chart" "LWindPost$Chart;" ∈ wsX4_arrival := by decide +kernel
set_option maxRecDepth 20000 in
theorem kX4_arrival_29 : Cond.fieldLink RX4 29 "WindPost" "now" "LWindPost$Moment;" ∈ wsX4_arrival := by decide +kernel
set_option maxRecDepth 20000 in
theorem kX4_arrival_47 : Cond.fieldLink RX4 47 "WindPost" "probe" "LWindPost$Letter;" ∈ wsX4_arrival := by decide +kernel
set_option maxRecDepth 20000 in
theorem kX4_arrival_131 : Cond.fieldLink RX4 131 "WindPost$Letter" "how" "I" ∈ wsX4_arrival := by decide +kernel
set_option maxRecDepth 20000 in
theorem kX4_arrival_158 : Cond.fieldLink RX4 158 "WindPost$Moment" "told" "I" ∈ wsX4_arrival := by decide +kernel
set_option maxRecDepth 20000 in
theorem uX4_arrival_X1 : ∀ w ∈ wsX10, w ∈ wsX4_arrival := by decide +kernel
set_option maxRecDepth 20000 in
theorem uX4_arrival_X2 : ∀ w ∈ wsX20, w ∈ wsX4_arrival := by decide +kernel
set_option maxRecDepth 20000 in
theorem uX4_arrival_X4 : ∀ w ∈ wsX40, w ∈ wsX4_arrival := by decide +kernel
set_option maxRecDepth 20000 in
theorem jX4_arrival_max_l : Cond.methodLink RX4 181 Lib.Math.max.name ∈ wsX4_arrival := by decide +kernel
set_option maxRecDepth 20000 in
theorem jX4_arrival_max_s : Cond.static Lib.Math.max.name ∈ wsX4_arrival := by decide +kernel
set_option maxRecDepth 20000 in
theorem jX4_arrival_max_i : Cond.initialized "java/lang/Math" ∈ wsX4_arrival := by decide +kernel
set_option maxRecDepth 20000 in
theorem jX4_arrival_max_c : Cond.code Lib.Math.max.name Lib.Math.max.code 2 (some .int) ∈ wsX4_arrival := by decide +kernel
set_option maxRecDepth 20000 in
theorem jX4_arrival_min_l : Cond.methodLink RX4 254 Lib.Math.min.name ∈ wsX4_arrival := by decide +kernel
set_option maxRecDepth 20000 in
theorem jX4_arrival_min_s : Cond.static Lib.Math.min.name ∈ wsX4_arrival := by decide +kernel
set_option maxRecDepth 20000 in
theorem jX4_arrival_min_i : Cond.initialized "java/lang/Math" ∈ wsX4_arrival := by decide +kernel
set_option maxRecDepth 20000 in
theorem jX4_arrival_min_c : Cond.code Lib.Math.min.name Lib.Math.min.code 2 (some .int) ∈ wsX4_arrival := by decide +kernel
set_option maxHeartbeats 8000000 in
set_option maxRecDepth 100000 in
theorem mX4_arrival (l : Launch) (D : va_G) (ki : Nat → ClassId) (ad : Nat → Nat) (cs : List Nat) (hcs : kW cs) (N : Nat) (a1 : Int32) (a2 : Int32) (G : zMem) (tr : Int64) : gMetI l D ki ad cs yX4_arrival wsX4_arrival { frames := 2, cells := 0, slots := 0, locals := 48 } [.ref (ad 0), .int a1, .int a2] (xE ki ad) G tr (fX4_arrival N a1 a2 G tr) := by
  refine gMetI_of (cc := cX4_arrival) (maxL := 5) (ret := (some .int)) (own := RX4) (by decide +kernel) rfl rfl (Nat.le_of_ble_eq_true rfl) ?_
  intro r9 G9 tr9 h p e s m below meth c S hr hlk K X ls hl
  have hl : lv_has ls 5 [(0, .ref (ad 0)), (1, .int a1), (2, .int a2)] := hl
  have b42 : ∀ (k42 : Int32 → Int32 → zMem → Int64 → zR) (hk42 : ∀ (x3 : Int32) (x4 : Int32) (G : zMem) (tr : Int64), k42 x3 x4 G tr = some (r9, G9, tr9) → zAt p l e (headSpec wsX4_arrival { frames := 2, cells := 0, slots := 0, locals := 48 }).room s m ([.ref (ad 0), .int a1, .int a2] : List Value).toArray below meth c 5 D cs ad (zQI below ([.ref (ad 0), .int a1, .int a2] : List Value).toArray s D cs ad ((xE ki ad) G9 tr9) r9) 42 [(0, .ref (ad 0)), (1, .int a1), (2, .int a2), (3, .int x3), (4, .int x4)] [] ((xE ki ad) G tr)) (x3 : Int32) (x4 : Int32) (G : zMem) (tr : Int64), fX4_arrival_b42 N a1 a2 k42 x3 x4 G tr = some (r9, G9, tr9) → zAt p l e (headSpec wsX4_arrival { frames := 2, cells := 0, slots := 0, locals := 48 }).room s m ([.ref (ad 0), .int a1, .int a2] : List Value).toArray below meth c 5 D cs ad (zQI below ([.ref (ad 0), .int a1, .int a2] : List Value).toArray s D cs ad ((xE ki ad) G9 tr9) r9) 42 [(0, .ref (ad 0)), (1, .int a1), (2, .int a2), (3, .int x3), (4, .int x4)] [] ((xE ki ad) G tr) := by
    intro k42 hk42 x3 x4 G tr h H locs ls X hl
    unfold fX4_arrival_b42 at h
    refine lv_iload S.1 S.2.1 dX4_arrival_42 (lv_at hl 4 rfl) ?_
    refine lv_iload_n S.1 S.2.1 dX4_arrival_44 rfl (lv_at hl 3 rfl) ?_
    refine lv_icmp_gt (tgt := 103) S.1 S.2.1 dX4_arrival_45 (by decide) (fun hc_1 => ?_) (fun hc_1 => ?_)
    · have h := zif_pos hc_1 h
      refine lv_bipush (v := (-9 : Int32)) S.1 S.2.1 dX4_arrival_103 (by decide) ?_
      exact zr_iret S hr hlk X h dX4_arrival_105
    · have h := zif_neg hc_1 h
      refine lv_aload_n S.1 S.2.1 dX4_arrival_48 rfl (lv_at hl 0 rfl) ?_
      refine zr_get (v := .ref (ad 13)) S K X (hcs 0 (by decide)) xE_W rfl uX4_arrival_X4 9 (by decide) kX4_arrival_47 rfl rfl dX4_arrival_49 ?_
      refine zr_get (v := .int (G 13 5)) S K X (kL_13 hcs).2 (xE_L (kL_13 hcs)) rfl uX4_arrival_X1 5 (by decide) kX4_arrival_131 rfl rfl dX4_arrival_52 ?_
      refine lv_if_ne (tgt := 103) S.1 S.2.1 dX4_arrival_55 (by decide) (fun hc_2 => ?_) (fun hc_2 => ?_)
      · have h := zif_neg hc_2 h
        refine lv_bipush (v := (-9 : Int32)) S.1 S.2.1 dX4_arrival_103 (by decide) ?_
        exact zr_iret S hr hlk X h dX4_arrival_105
      · have h := zif_pos hc_2 h
        refine lv_aload_n S.1 S.2.1 dX4_arrival_58 rfl (lv_at hl 0 rfl) ?_
        refine zr_get (v := .ref (ad 13)) S K X (hcs 0 (by decide)) xE_W rfl uX4_arrival_X4 9 (by decide) kX4_arrival_47 rfl rfl dX4_arrival_59 ?_
        refine lv_aload_n S.1 S.2.1 dX4_arrival_62 rfl (lv_at hl 0 rfl) ?_
        obtain ⟨hq_3, h⟩ := zch_some h
        refine zr_get (v := .ref (ad (G 0 1).toNatClampNeg)) S K X (hcs 0 (by decide)) xE_W rfl uX4_arrival_X4 1 (by decide) kX4_arrival_19 rfl rfl dX4_arrival_63 ?_
        refine lv_aload_n S.1 S.2.1 dX4_arrival_66 rfl (lv_at hl 0 rfl) ?_
        refine zr_get (v := .ref (ad 18)) S K X (hcs 0 (by decide)) xE_W rfl uX4_arrival_X4 3 (by decide) kX4_arrival_29 rfl rfl dX4_arrival_67 ?_
        refine lv_iload_n S.1 S.2.1 dX4_arrival_70 rfl (lv_at hl 1 rfl) ?_
        refine lv_iload S.1 S.2.1 dX4_arrival_71 (lv_at hl 4 rfl) ?_
        refine lv_iadd S.1 S.2.1 dX4_arrival_73 ?_
        refine lv_iconst (v := (1 : Int32)) S.1 S.2.1 dX4_arrival_74 (by decide) ?_
        refine lv_isub S.1 S.2.1 dX4_arrival_75 ?_
        obtain ⟨r_5, G_6, tr_7, hf_4, h⟩ := zbd_some h
        refine zr_calli (Eg := (xE ki ad)) K X (va_runV (As := [.int ((a1 + x4) - (1 : Int32))]) (rest := [.ref (ad (G 0 1).toNatClampNeg), .ref (ad 13)]) S (mX2_windOf l D ki ad cs hcs N 18 ((a1 + x4) - (1 : Int32)) (kM_now hcs) G tr H.size _ _ _ hf_4) (cwV 1 S.2.2.2.2 gX4_arrival_X2_windOf rfl rfl rfl (by decide +kernel) ⟨Nat.le_of_ble_eq_true rfl, Nat.le_of_ble_eq_true rfl⟩) (zr_preV (c0 := 18) K X ((kM_now hcs).2 0 (by decide)) (xE_M (kM_now hcs)) rfl) rfl rfl hl.1 rfl (lv_room (Nat.le_of_ble_eq_true rfl)) dX4_arrival_76 ⟨Nat.zero_le _, Nat.zero_le _⟩) (fun H locs X => ?_)
        refine lv_iload_n S.1 S.2.1 dX4_arrival_79 rfl (lv_at hl 2 rfl) ?_
        obtain ⟨r_9, G_10, tr_11, hf_8, h⟩ := zbd_some h
        refine zr_callv (Eg := (xE ki ad)) K X (va_runV (As := [.ref (ad (G 0 1).toNatClampNeg), .int r_5, .int a2]) (rest := []) S (mX1_passHour l D ki ad cs hcs N 13 (G 0 1).toNatClampNeg r_5 a2 (kL_13 hcs) (kC_of hcs hq_3) G_6 tr_7 H.size _ _ _ hf_8) (cwV 3 S.2.2.2.2 gX4_arrival_X1_passHour rfl rfl rfl (by decide +kernel) ⟨Nat.le_of_ble_eq_true rfl, Nat.le_of_ble_eq_true rfl⟩) (zr_preV (c0 := 13) K X (kL_13 hcs).2 (xE_L (kL_13 hcs)) rfl) rfl rfl hl.1 rfl (lv_room (Nat.le_of_ble_eq_true rfl)) dX4_arrival_80 ⟨Nat.zero_le _, Nat.zero_le _⟩) (fun H locs X => ?_)
        refine lv_aload_n S.1 S.2.1 dX4_arrival_83 rfl (lv_at hl 0 rfl) ?_
        refine zr_get (v := .ref (ad 13)) S K X (hcs 0 (by decide)) xE_W rfl uX4_arrival_X4 9 (by decide) kX4_arrival_47 rfl rfl dX4_arrival_84 ?_
        refine zr_get (v := .int (G_10 13 5)) S K X (kL_13 hcs).2 (xE_L (kL_13 hcs)) rfl uX4_arrival_X1 5 (by decide) kX4_arrival_131 rfl rfl dX4_arrival_87 ?_
        refine lv_iconst (v := (1 : Int32)) S.1 S.2.1 dX4_arrival_90 (by decide) ?_
        refine lv_icmp_ne (tgt := 97) S.1 S.2.1 dX4_arrival_91 (by decide) (fun hc_12 => ?_) (fun hc_12 => ?_)
        · have h := zif_neg hc_12 h
          refine lv_iinc (v := (x4 + 1)) (lv' := [(4, .int (x4 + 1)), (0, .ref (ad 0)), (1, .int a1), (2, .int a2), (3, .int x3)]) S.1 S.2.1 dX4_arrival_97 hl (k := 4) rfl rfl (by decide) rfl (fun ls hl => ?_)
          refine lv_goto (tgt := 42) S.1 S.2.1 dX4_arrival_100 (by decide) ?_
          exact hk42 x3 (x4 + 1) G_10 tr_11 h _ _ _ X (lv_sub hl [1, 2, 3, 4, 0] rfl)
        · have h := zif_pos hc_12 h
          refine lv_iload S.1 S.2.1 dX4_arrival_94 (lv_at hl 4 rfl) ?_
          exact zr_iret S hr hlk X h dX4_arrival_96
  have L42 : ∀ (n : Nat) (x3 : Int32) (x4 : Int32) (G : zMem) (tr : Int64), fX4_arrival_L42 N a1 a2 n x3 x4 G tr = some (r9, G9, tr9) → zAt p l e (headSpec wsX4_arrival { frames := 2, cells := 0, slots := 0, locals := 48 }).room s m ([.ref (ad 0), .int a1, .int a2] : List Value).toArray below meth c 5 D cs ad (zQI below ([.ref (ad 0), .int a1, .int a2] : List Value).toArray s D cs ad ((xE ki ad) G9 tr9) r9) 42 [(0, .ref (ad 0)), (1, .int a1), (2, .int a2), (3, .int x3), (4, .int x4)] [] ((xE ki ad) G tr) := by
    intro n
    induction n with
    | zero => intro x3 x4 G tr h; cases h
    | succ n ih => intro x3 x4 G tr h; exact b42 (fX4_arrival_L42 N a1 a2 n) ih x3 x4 G tr h
  unfold fX4_arrival at h
  obtain ⟨H, hH⟩ : ∃ H, H = s.heap := ⟨_, rfl⟩
  obtain ⟨locs, hlo⟩ : ∃ locs : List Loc, locs = [] := ⟨_, rfl⟩
  have X : gS D cs ad ((xE ki ad) G tr) (gA cs ad s.heap.size) s H locs := by rw [hH, hlo]; exact X
  suffices z : W p l e (headSpec wsX4_arrival { frames := 2, cells := 0, slots := 0, locals := 48 }).room s m ([.ref (ad 0), .int a1, .int a2] : List Value).toArray below meth c H locs 0 0 (zQI below ([.ref (ad 0), .int a1, .int a2] : List Value).toArray s D cs ad ((xE ki ad) G9 tr9) r9) (F0 m 0 ls []) by rw [hH, hlo] at z; exact z
  clear hH hlo
  refine lv_aload_n S.1 S.2.1 dX4_arrival_0 rfl (lv_at hl 0 rfl) ?_
  refine zr_get (v := .ref (ad 13)) S K X (hcs 0 (by decide)) xE_W rfl uX4_arrival_X4 9 (by decide) kX4_arrival_47 rfl rfl dX4_arrival_1 ?_
  refine zr_get (v := .int (G 13 5)) S K X (kL_13 hcs).2 (xE_L (kL_13 hcs)) rfl uX4_arrival_X1 5 (by decide) kX4_arrival_131 rfl rfl dX4_arrival_4 ?_
  refine lv_iconst (v := (1 : Int32)) S.1 S.2.1 dX4_arrival_7 (by decide) ?_
  refine lv_icmp_ne (tgt := 13) S.1 S.2.1 dX4_arrival_8 (by decide) (fun hc_1 => ?_) (fun hc_1 => ?_)
  · have h := zif_neg hc_1 h
    refine lv_sipush (v := (400 : Int32)) S.1 S.2.1 dX4_arrival_13 (by decide) ?_
    refine lv_aload_n S.1 S.2.1 dX4_arrival_16 rfl (lv_at hl 0 rfl) ?_
    obtain ⟨hq_2, h⟩ := zch_some h
    refine zr_get (v := .ref (ad (G 0 1).toNatClampNeg)) S K X (hcs 0 (by decide)) xE_W rfl uX4_arrival_X4 1 (by decide) kX4_arrival_19 rfl rfl dX4_arrival_17 ?_
    obtain ⟨r_4, G_5, tr_6, hf_3, h⟩ := zbd_some h
    refine zr_calli (Eg := (xE ki ad)) K X (va_runV (As := []) (rest := [.int (400 : Int32)]) S (mX0_cells l D ki ad cs  N (G 0 1).toNatClampNeg (kC_of hcs hq_2) G tr H.size _ _ _ hf_3) (cwV 0 S.2.2.2.2 gX4_arrival_X0_cells rfl rfl rfl (by decide +kernel) ⟨Nat.le_of_ble_eq_true rfl, Nat.le_of_ble_eq_true rfl⟩) (zr_preV (c0 := (G 0 1).toNatClampNeg) K X ((kC_of hcs hq_2).2 0 (by decide)) (xE_C (kC_of hcs hq_2)) rfl) rfl rfl hl.1 rfl (lv_room (Nat.le_of_ble_eq_true rfl)) dX4_arrival_20 ⟨Nat.zero_le _, Nat.zero_le _⟩) (fun H locs X => ?_)
    refine lv_iconst (v := (1 : Int32)) S.1 S.2.1 dX4_arrival_23 (by decide) ?_
    refine lv_aload_n S.1 S.2.1 dX4_arrival_24 rfl (lv_at hl 0 rfl) ?_
    refine zr_get (v := .ref (ad 18)) S K X (hcs 0 (by decide)) xE_W rfl uX4_arrival_X4 3 (by decide) kX4_arrival_29 rfl rfl dX4_arrival_25 ?_
    refine zr_get (v := .int (G_5 18 3)) S K X ((kM_now hcs).2 0 (by decide)) (xE_M (kM_now hcs)) rfl uX4_arrival_X2 3 (by decide) kX4_arrival_158 rfl rfl dX4_arrival_28 ?_
    refine va_mmax S.1 S.2.1 (S.2.2.1.trans hl.1.symm) S.2.2.2.1 (S.2.2.2.2 _ jX4_arrival_max_l) (S.2.2.2.2 _ jX4_arrival_max_s) (S.2.2.2.2 _ jX4_arrival_max_i) (S.2.2.2.2 _ jX4_arrival_max_c) (Nat.le_of_ble_eq_true rfl) (Nat.le_of_ble_eq_true rfl) (Nat.zero_le _) (Nat.zero_le _) dX4_arrival_31 ?_
    refine lv_imul S.1 S.2.1 dX4_arrival_34 ?_
    refine va_mmin S.1 S.2.1 (S.2.2.1.trans hl.1.symm) S.2.2.2.1 (S.2.2.2.2 _ jX4_arrival_min_l) (S.2.2.2.2 _ jX4_arrival_min_s) (S.2.2.2.2 _ jX4_arrival_min_i) (S.2.2.2.2 _ jX4_arrival_min_c) (Nat.le_of_ble_eq_true rfl) (Nat.le_of_ble_eq_true rfl) (Nat.zero_le _) (Nat.zero_le _) dX4_arrival_35 ?_
    refine lv_istore_n (lv' := [(3, .int (if (r_4 * (if (1 : Int32) < (G_5 18 3) then (G_5 18 3) else (1 : Int32))) < (400 : Int32) then (r_4 * (if (1 : Int32) < (G_5 18 3) then (G_5 18 3) else (1 : Int32))) else (400 : Int32))), (0, .ref (ad 0)), (1, .int a1), (2, .int a2)]) S.1 S.2.1 dX4_arrival_38 rfl hl (by decide) rfl (fun ls hl => ?_)
    refine lv_iconst (v := (1 : Int32)) S.1 S.2.1 dX4_arrival_39 (by decide) ?_
    refine lv_istore (lv' := [(4, .int (1 : Int32)), (3, .int (if (r_4 * (if (1 : Int32) < (G_5 18 3) then (G_5 18 3) else (1 : Int32))) < (400 : Int32) then (r_4 * (if (1 : Int32) < (G_5 18 3) then (G_5 18 3) else (1 : Int32))) else (400 : Int32))), (0, .ref (ad 0)), (1, .int a1), (2, .int a2)]) S.1 S.2.1 dX4_arrival_40 hl (by decide) rfl (fun ls hl => ?_)
    exact L42 N (if (r_4 * (if (1 : Int32) < (G_5 18 3) then (G_5 18 3) else (1 : Int32))) < (400 : Int32) then (r_4 * (if (1 : Int32) < (G_5 18 3) then (G_5 18 3) else (1 : Int32))) else (400 : Int32)) (1 : Int32) G_5 tr_6 h _ _ _ X (lv_sub hl [2, 3, 4, 1, 0] rfl)
  · have h := zif_pos hc_1 h
    refine lv_iconst (v := (0 : Int32)) S.1 S.2.1 dX4_arrival_11 (by decide) ?_
    exact zr_iret S hr hlk X h dX4_arrival_12
set_option maxRecDepth 20000 in
theorem kX4_rateLetter_29 : Cond.fieldLink RX4 29 "WindPost" "now" "LWindPost$Moment;" ∈ wsX4_rateLetter := by decide +kernel
set_option maxRecDepth 20000 in
theorem kX4_rateLetter_112 : Cond.fieldLink RX4 112 "WindPost$Moment" "post" "[LWindPost$Letter;" ∈ wsX4_rateLetter := by decide +kernel
set_option maxRecDepth 20000 in
theorem kX4_rateLetter_116 : Cond.fieldLink RX4 116 "WindPost$Letter" "weight" "I" ∈ wsX4_rateLetter := by decide +kernel
set_option maxRecDepth 20000 in
theorem kX4_rateLetter_250 : Cond.fieldLink RX4 250 "WindPost" "traced" "J" ∈ wsX4_rateLetter := by decide +kernel
set_option maxRecDepth 20000 in
theorem uX4_rateLetter_X1 : ∀ w ∈ wsX10, w ∈ wsX4_rateLetter := by decide +kernel
set_option maxRecDepth 20000 in
theorem uX4_rateLetter_X2 : ∀ w ∈ wsX20, w ∈ wsX4_rateLetter := by decide +kernel
set_option maxRecDepth 20000 in
theorem uX4_rateLetter_X4 : ∀ w ∈ wsX40, w ∈ wsX4_rateLetter := by decide +kernel
set_option maxHeartbeats 8000000 in
set_option maxRecDepth 100000 in
theorem mX4_rateLetter (l : Launch) (D : va_G) (ki : Nat → ClassId) (ad : Nat → Nat) (cs : List Nat) (hcs : kW cs) (N : Nat) (a1 : Int32) (G : zMem) (tr : Int64) : gMetI l D ki ad cs yX4_rateLetter wsX4_rateLetter { frames := 0, cells := 0, slots := 0, locals := 0 } [.ref (ad 0), .int a1] (xE ki ad) G tr (fX4_rateLetter N a1 G tr) := by
  refine gMetI_of (cc := cX4_rateLetter) (maxL := 2) (ret := (some .int)) (own := RX4) (by decide +kernel) rfl rfl (Nat.le_of_ble_eq_true rfl) ?_
  intro r9 G9 tr9 h p e s m below meth c S hr hlk K X ls hl
  have hl : lv_has ls 2 [(0, .ref (ad 0)), (1, .int a1)] := hl
  unfold fX4_rateLetter at h
  obtain ⟨H, hH⟩ : ∃ H, H = s.heap := ⟨_, rfl⟩
  obtain ⟨locs, hlo⟩ : ∃ locs : List Loc, locs = [] := ⟨_, rfl⟩
  have X : gS D cs ad ((xE ki ad) G tr) (gA cs ad s.heap.size) s H locs := by rw [hH, hlo]; exact X
  suffices z : W p l e (headSpec wsX4_rateLetter { frames := 0, cells := 0, slots := 0, locals := 0 }).room s m ([.ref (ad 0), .int a1] : List Value).toArray below meth c H locs 0 0 (zQI below ([.ref (ad 0), .int a1] : List Value).toArray s D cs ad ((xE ki ad) G9 tr9) r9) (F0 m 0 ls []) by rw [hH, hlo] at z; exact z
  clear hH hlo
  refine lv_aload_n S.1 S.2.1 dX4_rateLetter_0 rfl (lv_at hl 0 rfl) ?_
  refine lv_dup S.1 S.2.1 dX4_rateLetter_1 rfl ?_
  refine zr_get (v := .long tr) S K X (hcs 0 (by decide)) xE_W rfl uX4_rateLetter_X4 11 (by decide) kX4_rateLetter_250 rfl rfl dX4_rateLetter_2 ?_
  refine lv_lconst (v := 1) S.1 S.2.1 dX4_rateLetter_5 (by decide) ?_
  refine lv_ladd S.1 S.2.1 dX4_rateLetter_6 ?_
  refine zr_putL (fsf := (fun tr => fsW ad tr (G 0))) S K X (hcs 0 (by decide)) xE_trl (fun _ => rfl) rfl uX4_rateLetter_X4 tyX4 tyX4_ok nmX4 11 (by decide) kX4_rateLetter_250 rfl (by decide +kernel) (by simp) rfl dX4_rateLetter_7 (fun H locs X => ?_)
  refine lv_aload_n S.1 S.2.1 dX4_rateLetter_10 rfl (lv_at hl 0 rfl) ?_
  refine zr_get (v := .ref (ad 18)) S K X (hcs 0 (by decide)) xE_W rfl uX4_rateLetter_X4 3 (by decide) kX4_rateLetter_29 rfl rfl dX4_rateLetter_11 ?_
  refine zr_get (v := .ref (ad 20)) S K X ((kM_now hcs).2 0 (by decide)) (xE_M (kM_now hcs)) rfl uX4_rateLetter_X2 5 (by decide) kX4_rateLetter_112 rfl rfl dX4_rateLetter_14 ?_
  refine lv_iload_n S.1 S.2.1 dX4_rateLetter_17 rfl (lv_at hl 1 rfl) ?_
  obtain ⟨hi_1, h⟩ := zin_some h
  refine zr_aald (f := (fun j => 21 + j)) (t0 := 2) (C := "WindPost$Letter") S K X ((kM_now hcs).2 2 (by decide)) (xE_M2 (kM_now hcs)) rfl hi_1 dX4_rateLetter_18 ?_
  refine zr_get (v := .int (G (21 + (Int32.toNatClampNeg a1)) 0)) S K X (kL_now hcs hi_1).2 (xE_L (kL_now hcs hi_1)) rfl uX4_rateLetter_X1 0 (by decide) kX4_rateLetter_116 rfl rfl dX4_rateLetter_19 ?_
  exact zr_iret S hr hlk X h dX4_rateLetter_22
set_option maxRecDepth 20000 in
theorem kX4_count_10 : Cond.fieldLink RX4 10 "WindPost" "text" "LWindPost$Text;" ∈ wsX4_count := by decide +kernel
set_option maxRecDepth 20000 in
theorem kX4_count_19 : Cond.fieldLink RX4 19 "WindPost" "chart" "LWindPost$Chart;" ∈ wsX4_count := by decide +kernel
set_option maxRecDepth 20000 in
theorem kX4_count_29 : Cond.fieldLink RX4 29 "WindPost" "now" "LWindPost$Moment;" ∈ wsX4_count := by decide +kernel
set_option maxRecDepth 20000 in
theorem kX4_count_58 : Cond.fieldLink RX4 58 "WindPost$Text" "length" "I" ∈ wsX4_count := by decide +kernel
set_option maxRecDepth 20000 in
theorem kX4_count_158 : Cond.fieldLink RX4 158 "WindPost$Moment" "told" "I" ∈ wsX4_count := by decide +kernel
set_option maxRecDepth 20000 in
theorem kX4_count_194 : Cond.fieldLink RX4 194 "WindPost$Chart" "isles" "I" ∈ wsX4_count := by decide +kernel
set_option maxRecDepth 20000 in
theorem kX4_count_213 : Cond.fieldLink RX4 213 "WindPost$Chart" "force" "I" ∈ wsX4_count := by decide +kernel
set_option maxRecDepth 20000 in
theorem kX4_count_241 : Cond.fieldLink RX4 241 "WindPost$Chart" "wide" "I" ∈ wsX4_count := by decide +kernel
set_option maxRecDepth 20000 in
theorem kX4_count_244 : Cond.fieldLink RX4 244 "WindPost$Chart" "high" "I" ∈ wsX4_count := by decide +kernel
set_option maxRecDepth 20000 in
theorem kX4_count_247 : Cond.fieldLink RX4 247 "WindPost$Chart" "hills" "I" ∈ wsX4_count := by decide +kernel
set_option maxRecDepth 20000 in
theorem uX4_count_X0 : ∀ w ∈ wsX00, w ∈ wsX4_count := by decide +kernel
set_option maxRecDepth 20000 in
theorem uX4_count_X2 : ∀ w ∈ wsX20, w ∈ wsX4_count := by decide +kernel
set_option maxRecDepth 20000 in
theorem uX4_count_X3 : ∀ w ∈ wsX30, w ∈ wsX4_count := by decide +kernel
set_option maxRecDepth 20000 in
theorem uX4_count_X4 : ∀ w ∈ wsX40, w ∈ wsX4_count := by decide +kernel
set_option maxHeartbeats 8000000 in
set_option maxRecDepth 100000 in
theorem mX4_count (l : Launch) (D : va_G) (ki : Nat → ClassId) (ad : Nat → Nat) (cs : List Nat) (hcs : kW cs) (N : Nat) (a1 : Int32) (G : zMem) (tr : Int64) : gMetI l D ki ad cs yX4_count wsX4_count { frames := 0, cells := 0, slots := 0, locals := 0 } [.ref (ad 0), .int a1] (xE ki ad) G tr (fX4_count N a1 G tr) := by
  refine gMetI_of (cc := cX4_count) (maxL := 2) (ret := (some .int)) (own := RX4) (by decide +kernel) rfl rfl (Nat.le_of_ble_eq_true rfl) ?_
  intro r9 G9 tr9 h p e s m below meth c S hr hlk K X ls hl
  have hl : lv_has ls 2 [(0, .ref (ad 0)), (1, .int a1)] := hl
  unfold fX4_count at h
  obtain ⟨H, hH⟩ : ∃ H, H = s.heap := ⟨_, rfl⟩
  obtain ⟨locs, hlo⟩ : ∃ locs : List Loc, locs = [] := ⟨_, rfl⟩
  have X : gS D cs ad ((xE ki ad) G tr) (gA cs ad s.heap.size) s H locs := by rw [hH, hlo]; exact X
  suffices z : W p l e (headSpec wsX4_count { frames := 0, cells := 0, slots := 0, locals := 0 }).room s m ([.ref (ad 0), .int a1] : List Value).toArray below meth c H locs 0 0 (zQI below ([.ref (ad 0), .int a1] : List Value).toArray s D cs ad ((xE ki ad) G9 tr9) r9) (F0 m 0 ls []) by rw [hH, hlo] at z; exact z
  clear hH hlo
  refine lv_iload_n S.1 S.2.1 dX4_count_0 rfl (lv_at hl 1 rfl) ?_
  by_cases hc_1 : a1 = 0
  · have h := zif_pos hc_1 h
    refine zr_swIn (tgt := 44) S hc_1 dX4_count_1 (by decide) ?_
    refine lv_aload_n S.1 S.2.1 dX4_count_44 rfl (lv_at hl 0 rfl) ?_
    obtain ⟨hq_2, h⟩ := zch_some h
    refine zr_get (v := .ref (ad (G 0 1).toNatClampNeg)) S K X (hcs 0 (by decide)) xE_W rfl uX4_count_X4 1 (by decide) kX4_count_19 rfl rfl dX4_count_45 ?_
    refine zr_get (v := .int (G (G 0 1).toNatClampNeg 0)) S K X ((kC_of hcs hq_2).2 0 (by decide)) (xE_C (kC_of hcs hq_2)) rfl uX4_count_X0 0 (by decide) kX4_count_241 rfl rfl dX4_count_48 ?_
    exact zr_iret S hr hlk X h dX4_count_51
  have h := zif_neg hc_1 h
  by_cases hc_3 : a1 = 1
  · have h := zif_pos hc_3 h
    refine zr_swIn (tgt := 52) S hc_3 dX4_count_1 (by decide) ?_
    refine lv_aload_n S.1 S.2.1 dX4_count_52 rfl (lv_at hl 0 rfl) ?_
    obtain ⟨hq_4, h⟩ := zch_some h
    refine zr_get (v := .ref (ad (G 0 1).toNatClampNeg)) S K X (hcs 0 (by decide)) xE_W rfl uX4_count_X4 1 (by decide) kX4_count_19 rfl rfl dX4_count_53 ?_
    refine zr_get (v := .int (G (G 0 1).toNatClampNeg 1)) S K X ((kC_of hcs hq_4).2 0 (by decide)) (xE_C (kC_of hcs hq_4)) rfl uX4_count_X0 1 (by decide) kX4_count_244 rfl rfl dX4_count_56 ?_
    exact zr_iret S hr hlk X h dX4_count_59
  have h := zif_neg hc_3 h
  by_cases hc_5 : a1 = 2
  · have h := zif_pos hc_5 h
    refine zr_swIn (tgt := 60) S hc_5 dX4_count_1 (by decide) ?_
    refine lv_aload_n S.1 S.2.1 dX4_count_60 rfl (lv_at hl 0 rfl) ?_
    obtain ⟨hq_6, h⟩ := zch_some h
    refine zr_get (v := .ref (ad (G 0 1).toNatClampNeg)) S K X (hcs 0 (by decide)) xE_W rfl uX4_count_X4 1 (by decide) kX4_count_19 rfl rfl dX4_count_61 ?_
    refine zr_get (v := .int (G (G 0 1).toNatClampNeg 3)) S K X ((kC_of hcs hq_6).2 0 (by decide)) (xE_C (kC_of hcs hq_6)) rfl uX4_count_X0 3 (by decide) kX4_count_194 rfl rfl dX4_count_64 ?_
    exact zr_iret S hr hlk X h dX4_count_67
  have h := zif_neg hc_5 h
  by_cases hc_7 : a1 = 3
  · have h := zif_pos hc_7 h
    refine zr_swIn (tgt := 68) S hc_7 dX4_count_1 (by decide) ?_
    refine lv_aload_n S.1 S.2.1 dX4_count_68 rfl (lv_at hl 0 rfl) ?_
    obtain ⟨hq_8, h⟩ := zch_some h
    refine zr_get (v := .ref (ad (G 0 1).toNatClampNeg)) S K X (hcs 0 (by decide)) xE_W rfl uX4_count_X4 1 (by decide) kX4_count_19 rfl rfl dX4_count_69 ?_
    refine zr_get (v := .int (G (G 0 1).toNatClampNeg 4)) S K X ((kC_of hcs hq_8).2 0 (by decide)) (xE_C (kC_of hcs hq_8)) rfl uX4_count_X0 4 (by decide) kX4_count_247 rfl rfl dX4_count_72 ?_
    exact zr_iret S hr hlk X h dX4_count_75
  have h := zif_neg hc_7 h
  by_cases hc_9 : a1 = 4
  · have h := zif_pos hc_9 h
    refine zr_swIn (tgt := 76) S hc_9 dX4_count_1 (by decide) ?_
    refine lv_aload_n S.1 S.2.1 dX4_count_76 rfl (lv_at hl 0 rfl) ?_
    refine zr_get (v := .ref (ad 18)) S K X (hcs 0 (by decide)) xE_W rfl uX4_count_X4 3 (by decide) kX4_count_29 rfl rfl dX4_count_77 ?_
    refine zr_get (v := .int (G 18 3)) S K X ((kM_now hcs).2 0 (by decide)) (xE_M (kM_now hcs)) rfl uX4_count_X2 3 (by decide) kX4_count_158 rfl rfl dX4_count_80 ?_
    exact zr_iret S hr hlk X h dX4_count_83
  have h := zif_neg hc_9 h
  by_cases hc_10 : a1 = 5
  · have h := zif_pos hc_10 h
    refine zr_swIn (tgt := 84) S hc_10 dX4_count_1 (by decide) ?_
    refine lv_aload_n S.1 S.2.1 dX4_count_84 rfl (lv_at hl 0 rfl) ?_
    obtain ⟨hq_11, h⟩ := zch_some h
    refine zr_get (v := .ref (ad (G 0 1).toNatClampNeg)) S K X (hcs 0 (by decide)) xE_W rfl uX4_count_X4 1 (by decide) kX4_count_19 rfl rfl dX4_count_85 ?_
    refine zr_get (v := .int (G (G 0 1).toNatClampNeg 2)) S K X ((kC_of hcs hq_11).2 0 (by decide)) (xE_C (kC_of hcs hq_11)) rfl uX4_count_X0 2 (by decide) kX4_count_213 rfl rfl dX4_count_88 ?_
    exact zr_iret S hr hlk X h dX4_count_91
  have h := zif_neg hc_10 h
  by_cases hc_12 : a1 = 6
  · have h := zif_pos hc_12 h
    refine zr_swIn (tgt := 92) S hc_12 dX4_count_1 (by decide) ?_
    refine lv_aload_n S.1 S.2.1 dX4_count_92 rfl (lv_at hl 0 rfl) ?_
    refine zr_get (v := .ref (ad 1)) S K X (hcs 0 (by decide)) xE_W rfl uX4_count_X4 0 (by decide) kX4_count_10 rfl rfl dX4_count_93 ?_
    refine zr_get (v := .int (G 1 0)) S K X (hcs 1 (by decide)) xE_T rfl uX4_count_X3 0 (by decide) kX4_count_58 rfl rfl dX4_count_96 ?_
    exact zr_iret S hr hlk X h dX4_count_99
  have h := zif_neg hc_12 h
  refine lv_tableOut (tgt := 100) S.1 S.2.1 dX4_count_1 (by
      have e0 := ztoInt_ne hc_1
      rw [show ((0 : Int32)).toInt = 0 from rfl] at e0
      have e1 := ztoInt_ne hc_3
      rw [show ((1 : Int32)).toInt = 1 from rfl] at e1
      have e2 := ztoInt_ne hc_5
      rw [show ((2 : Int32)).toInt = 2 from rfl] at e2
      have e3 := ztoInt_ne hc_7
      rw [show ((3 : Int32)).toInt = 3 from rfl] at e3
      have e4 := ztoInt_ne hc_9
      rw [show ((4 : Int32)).toInt = 4 from rfl] at e4
      have e5 := ztoInt_ne hc_10
      rw [show ((5 : Int32)).toInt = 5 from rfl] at e5
      have e6 := ztoInt_ne hc_12
      rw [show ((6 : Int32)).toInt = 6 from rfl] at e6
      omega) (by decide) ?_
  refine lv_iconst (v := (-1 : Int32)) S.1 S.2.1 dX4_count_100 (by decide) ?_
  exact zr_iret S hr hlk X h dX4_count_101
end
section
theorem zz_last : True := trivial
end
