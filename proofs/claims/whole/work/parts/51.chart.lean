theorem dX0_untell_0 : decode cX0_untell 0 = .ok (.aload_n 0, 1) := by decide +kernel
theorem dX0_untell_1 : decode cX0_untell 1 = .ok (.iconst 4, 1) := by decide +kernel
theorem dX0_untell_2 : decode cX0_untell 2 = .ok (.putfield 30, 3) := by decide +kernel
theorem dX0_untell_5 : decode cX0_untell 5 = .ok (.aload_n 0, 1) := by decide +kernel
theorem dX0_untell_6 : decode cX0_untell 6 = .ok (.iconst 4, 1) := by decide +kernel
theorem dX0_untell_7 : decode cX0_untell 7 = .ok (.putfield 34, 3) := by decide +kernel
theorem dX0_untell_10 : decode cX0_untell 10 = .ok (.aload_n 0, 1) := by decide +kernel
theorem dX0_untell_11 : decode cX0_untell 11 = .ok (.iconst 3, 1) := by decide +kernel
theorem dX0_untell_12 : decode cX0_untell 12 = .ok (.putfield 37, 3) := by decide +kernel
theorem dX0_untell_15 : decode cX0_untell 15 = .ok (.aload_n 0, 1) := by decide +kernel
theorem dX0_untell_16 : decode cX0_untell 16 = .ok (.iconst 0, 1) := by decide +kernel
theorem dX0_untell_17 : decode cX0_untell 17 = .ok (.putfield 40, 3) := by decide +kernel
theorem dX0_untell_20 : decode cX0_untell 20 = .ok (.aload_n 0, 1) := by decide +kernel
theorem dX0_untell_21 : decode cX0_untell 21 = .ok (.iconst 0, 1) := by decide +kernel
theorem dX0_untell_22 : decode cX0_untell 22 = .ok (.putfield 43, 3) := by decide +kernel
theorem dX0_untell_25 : decode cX0_untell 25 = .ok (.aload_n 0, 1) := by decide +kernel
theorem dX0_untell_26 : decode cX0_untell 26 = .ok (.iconst 0, 1) := by decide +kernel
theorem dX0_untell_27 : decode cX0_untell 27 = .ok (.putfield 46, 3) := by decide +kernel
theorem dX0_untell_30 : decode cX0_untell 30 = .ok (.iconst 0, 1) := by decide +kernel
theorem dX0_untell_31 : decode cX0_untell 31 = .ok (.istore_n 1, 1) := by decide +kernel
theorem dX0_untell_32 : decode cX0_untell 32 = .ok (.iload_n 1, 1) := by decide +kernel
theorem dX0_untell_33 : decode cX0_untell 33 = .ok (.bipush 30, 2) := by decide +kernel
theorem dX0_untell_35 : decode cX0_untell 35 = .ok (.if_icmp .ge 17, 3) := by decide +kernel
theorem dX0_untell_38 : decode cX0_untell 38 = .ok (.aload_n 0, 1) := by decide +kernel
theorem dX0_untell_39 : decode cX0_untell 39 = .ok (.getfield 15, 3) := by decide +kernel
theorem dX0_untell_42 : decode cX0_untell 42 = .ok (.iload_n 1, 1) := by decide +kernel
theorem dX0_untell_43 : decode cX0_untell 43 = .ok (.bipush (-9), 2) := by decide +kernel
theorem dX0_untell_45 : decode cX0_untell 45 = .ok (.iastore, 1) := by decide +kernel
theorem dX0_untell_46 : decode cX0_untell 46 = .ok (.iinc 1 1, 3) := by decide +kernel
theorem dX0_untell_49 : decode cX0_untell 49 = .ok (.goto (-17), 3) := by decide +kernel
theorem dX0_untell_52 : decode cX0_untell 52 = .ok (.return_, 1) := by decide +kernel
set_option maxRecDepth 20000 in
theorem kX0_untell_15 : Cond.fieldLink RX0 15 "WindPost$Chart" "holds" "[I" ∈ wsX0_untell := by decide +kernel
set_option maxRecDepth 20000 in
theorem kX0_untell_30 : Cond.fieldLink RX0 30 "WindPost$Chart" "wide" "I" ∈ wsX0_untell := by decide +kernel
set_option maxRecDepth 20000 in
theorem kX0_untell_34 : Cond.fieldLink RX0 34 "WindPost$Chart" "high" "I" ∈ wsX0_untell := by decide +kernel
set_option maxRecDepth 20000 in
theorem kX0_untell_37 : Cond.fieldLink RX0 37 "WindPost$Chart" "force" "I" ∈ wsX0_untell := by decide +kernel
set_option maxRecDepth 20000 in
theorem kX0_untell_40 : Cond.fieldLink RX0 40 "WindPost$Chart" "isles" "I" ∈ wsX0_untell := by decide +kernel
set_option maxRecDepth 20000 in
theorem kX0_untell_43 : Cond.fieldLink RX0 43 "WindPost$Chart" "hills" "I" ∈ wsX0_untell := by decide +kernel
set_option maxRecDepth 20000 in
theorem kX0_untell_46 : Cond.fieldLink RX0 46 "WindPost$Chart" "told" "I" ∈ wsX0_untell := by decide +kernel
set_option maxRecDepth 20000 in
theorem uX0_untell_X0 : ∀ w ∈ wsX00, w ∈ wsX0_untell := by decide +kernel
set_option maxHeartbeats 8000000 in
set_option maxRecDepth 100000 in
theorem mX0_untell (l : Launch) (D : va_G) (ki : Nat → ClassId) (ad : Nat → Nat) (cs : List Nat) (N : Nat) (t : Nat) (ht : kC cs t) (G : zMem) (tr : Int64) : gMetV l D ki ad cs yX0_untell wsX0_untell { frames := 0, cells := 0, slots := 0, locals := 0 } [.ref (ad t)] (xE ki ad) G tr (fX0_untell N t G tr) := by
  refine gMetV_of (cc := cX0_untell) (maxL := 2) (ret := none) (own := RX0) (by decide +kernel) rfl rfl (Nat.le_of_ble_eq_true rfl) ?_
  intro r9 G9 tr9 h p e s m below meth c S hr hlk K X ls hl
  have hl : lv_has ls 2 [(0, .ref (ad t))] := hl
  have b32 : ∀ (k32 : Int32 → zMem → Int64 → zR) (hk32 : ∀ (x1 : Int32) (G : zMem) (tr : Int64), k32 x1 G tr = some (r9, G9, tr9) → zAt p l e (headSpec wsX0_untell { frames := 0, cells := 0, slots := 0, locals := 0 }).room s m ([.ref (ad t)] : List Value).toArray below meth c 2 D cs ad (zQV below ([.ref (ad t)] : List Value).toArray s D cs ad ((xE ki ad) G9 tr9)) 32 [(0, .ref (ad t)), (1, .int x1)] [] ((xE ki ad) G tr)) (x1 : Int32) (G : zMem) (tr : Int64), fX0_untell_b32 N t k32 x1 G tr = some (r9, G9, tr9) → zAt p l e (headSpec wsX0_untell { frames := 0, cells := 0, slots := 0, locals := 0 }).room s m ([.ref (ad t)] : List Value).toArray below meth c 2 D cs ad (zQV below ([.ref (ad t)] : List Value).toArray s D cs ad ((xE ki ad) G9 tr9)) 32 [(0, .ref (ad t)), (1, .int x1)] [] ((xE ki ad) G tr) := by
    intro k32 hk32 x1 G tr h H locs ls X hl
    unfold fX0_untell_b32 at h
    refine lv_iload_n S.1 S.2.1 dX0_untell_32 rfl (lv_at hl 1 rfl) ?_
    refine lv_bipush (v := (30 : Int32)) S.1 S.2.1 dX0_untell_33 (by decide) ?_
    refine lv_icmp_ge (tgt := 52) S.1 S.2.1 dX0_untell_35 (by decide) (fun hc_1 => ?_) (fun hc_1 => ?_)
    · have h := zif_pos hc_1 h
      exact zr_vret S hr hlk X h dX0_untell_52
    · have h := zif_neg hc_1 h
      refine lv_aload_n S.1 S.2.1 dX0_untell_38 rfl (lv_at hl 0 rfl) ?_
      refine zr_get (v := .ref (ad (t + 2))) S K X (ht.2 0 (by decide)) (xE_C ht) rfl uX0_untell_X0 7 (by decide) kX0_untell_15 rfl rfl dX0_untell_39 ?_
      refine lv_iload_n S.1 S.2.1 dX0_untell_42 rfl (lv_at hl 1 rfl) ?_
      refine lv_bipush (v := (-9 : Int32)) S.1 S.2.1 dX0_untell_43 (by decide) ?_
      obtain ⟨hi_2, h⟩ := zin_some h
      refine zr_iast S K X (ht.2 2 (by decide)) xE_loc (fun _ => (xE_C2 ht)) hi_2 dX0_untell_45 (fun H locs X => ?_)
      refine lv_iinc (v := (x1 + 1)) (lv' := [(1, .int (x1 + 1)), (0, .ref (ad t))]) S.1 S.2.1 dX0_untell_46 hl (k := 1) rfl rfl (by decide) rfl (fun ls hl => ?_)
      refine lv_goto (tgt := 32) S.1 S.2.1 dX0_untell_49 (by decide) ?_
      exact hk32 (x1 + 1) (up2 G (t + 2) (Int32.toNatClampNeg x1) (-9 : Int32)) tr h _ _ _ X (lv_sub hl [1, 0] rfl)
  have L32 : ∀ (n : Nat) (x1 : Int32) (G : zMem) (tr : Int64), fX0_untell_L32 N t n x1 G tr = some (r9, G9, tr9) → zAt p l e (headSpec wsX0_untell { frames := 0, cells := 0, slots := 0, locals := 0 }).room s m ([.ref (ad t)] : List Value).toArray below meth c 2 D cs ad (zQV below ([.ref (ad t)] : List Value).toArray s D cs ad ((xE ki ad) G9 tr9)) 32 [(0, .ref (ad t)), (1, .int x1)] [] ((xE ki ad) G tr) := by
    intro n
    induction n with
    | zero => intro x1 G tr h; cases h
    | succ n ih => intro x1 G tr h; exact b32 (fX0_untell_L32 N t n) ih x1 G tr h
  unfold fX0_untell at h
  obtain ⟨H, hH⟩ : ∃ H, H = s.heap := ⟨_, rfl⟩
  obtain ⟨locs, hlo⟩ : ∃ locs : List Loc, locs = [] := ⟨_, rfl⟩
  have X : gS D cs ad ((xE ki ad) G tr) (gA cs ad s.heap.size) s H locs := by rw [hH, hlo]; exact X
  suffices z : W p l e (headSpec wsX0_untell { frames := 0, cells := 0, slots := 0, locals := 0 }).room s m ([.ref (ad t)] : List Value).toArray below meth c H locs 0 0 (zQV below ([.ref (ad t)] : List Value).toArray s D cs ad ((xE ki ad) G9 tr9)) (F0 m 0 ls []) by rw [hH, hlo] at z; exact z
  clear hH hlo
  refine lv_aload_n S.1 S.2.1 dX0_untell_0 rfl (lv_at hl 0 rfl) ?_
  refine lv_iconst (v := (4 : Int32)) S.1 S.2.1 dX0_untell_1 (by decide) ?_
  refine zr_put (xv := (4 : Int32)) (v := .int (4 : Int32)) (fsf := (fsC ad t)) (ty := .int) S K X (ht.2 0 (by decide)) xE_loc (fun _ => (xE_C ht)) rfl uX0_untell_X0 tyX0 tyX0_ok nmX0 0 (by decide) kX0_untell_30 rfl (by decide +kernel) rfl rfl (by simp) rfl dX0_untell_2 (fun H locs X => ?_)
  refine lv_aload_n S.1 S.2.1 dX0_untell_5 rfl (lv_at hl 0 rfl) ?_
  refine lv_iconst (v := (4 : Int32)) S.1 S.2.1 dX0_untell_6 (by decide) ?_
  refine zr_put (xv := (4 : Int32)) (v := .int (4 : Int32)) (fsf := (fsC ad t)) (ty := .int) S K X (ht.2 0 (by decide)) xE_loc (fun _ => (xE_C ht)) rfl uX0_untell_X0 tyX0 tyX0_ok nmX0 1 (by decide) kX0_untell_34 rfl (by decide +kernel) rfl rfl (by simp) rfl dX0_untell_7 (fun H locs X => ?_)
  refine lv_aload_n S.1 S.2.1 dX0_untell_10 rfl (lv_at hl 0 rfl) ?_
  refine lv_iconst (v := (3 : Int32)) S.1 S.2.1 dX0_untell_11 (by decide) ?_
  refine zr_put (xv := (3 : Int32)) (v := .int (3 : Int32)) (fsf := (fsC ad t)) (ty := .int) S K X (ht.2 0 (by decide)) xE_loc (fun _ => (xE_C ht)) rfl uX0_untell_X0 tyX0 tyX0_ok nmX0 2 (by decide) kX0_untell_37 rfl (by decide +kernel) rfl rfl (by simp) rfl dX0_untell_12 (fun H locs X => ?_)
  refine lv_aload_n S.1 S.2.1 dX0_untell_15 rfl (lv_at hl 0 rfl) ?_
  refine lv_iconst (v := (0 : Int32)) S.1 S.2.1 dX0_untell_16 (by decide) ?_
  refine zr_put (xv := (0 : Int32)) (v := .int (0 : Int32)) (fsf := (fsC ad t)) (ty := .int) S K X (ht.2 0 (by decide)) xE_loc (fun _ => (xE_C ht)) rfl uX0_untell_X0 tyX0 tyX0_ok nmX0 3 (by decide) kX0_untell_40 rfl (by decide +kernel) rfl rfl (by simp) rfl dX0_untell_17 (fun H locs X => ?_)
  refine lv_aload_n S.1 S.2.1 dX0_untell_20 rfl (lv_at hl 0 rfl) ?_
  refine lv_iconst (v := (0 : Int32)) S.1 S.2.1 dX0_untell_21 (by decide) ?_
  refine zr_put (xv := (0 : Int32)) (v := .int (0 : Int32)) (fsf := (fsC ad t)) (ty := .int) S K X (ht.2 0 (by decide)) xE_loc (fun _ => (xE_C ht)) rfl uX0_untell_X0 tyX0 tyX0_ok nmX0 4 (by decide) kX0_untell_43 rfl (by decide +kernel) rfl rfl (by simp) rfl dX0_untell_22 (fun H locs X => ?_)
  refine lv_aload_n S.1 S.2.1 dX0_untell_25 rfl (lv_at hl 0 rfl) ?_
  refine lv_iconst (v := (0 : Int32)) S.1 S.2.1 dX0_untell_26 (by decide) ?_
  refine zr_put (xv := (0 : Int32)) (v := .int (0 : Int32)) (fsf := (fsC ad t)) (ty := .int) S K X (ht.2 0 (by decide)) xE_loc (fun _ => (xE_C ht)) rfl uX0_untell_X0 tyX0 tyX0_ok nmX0 5 (by decide) kX0_untell_46 rfl (by decide +kernel) rfl rfl (by simp) rfl dX0_untell_27 (fun H locs X => ?_)
  refine lv_iconst (v := (0 : Int32)) S.1 S.2.1 dX0_untell_30 (by decide) ?_
  refine lv_istore_n (lv' := [(1, .int (0 : Int32)), (0, .ref (ad t))]) S.1 S.2.1 dX0_untell_31 rfl hl (by decide) rfl (fun ls hl => ?_)
  exact L32 N (0 : Int32) (up2 (up2 (up2 (up2 (up2 (up2 G t 0 (4 : Int32)) t 1 (4 : Int32)) t 2 (3 : Int32)) t 3 (0 : Int32)) t 4 (0 : Int32)) t 5 (0 : Int32)) tr h _ _ _ X (lv_sub hl [1, 0] rfl)
theorem dX0_cells_0 : decode cX0_cells 0 = .ok (.aload_n 0, 1) := by decide +kernel
theorem dX0_cells_1 : decode cX0_cells 1 = .ok (.getfield 30, 3) := by decide +kernel
theorem dX0_cells_4 : decode cX0_cells 4 = .ok (.aload_n 0, 1) := by decide +kernel
theorem dX0_cells_5 : decode cX0_cells 5 = .ok (.getfield 34, 3) := by decide +kernel
theorem dX0_cells_8 : decode cX0_cells 8 = .ok (.imul, 1) := by decide +kernel
theorem dX0_cells_9 : decode cX0_cells 9 = .ok (.bipush 30, 2) := by decide +kernel
theorem dX0_cells_11 : decode cX0_cells 11 = .ok (.invokestatic 49, 3) := by decide +kernel
theorem dX0_cells_14 : decode cX0_cells 14 = .ok (.ireturn, 1) := by decide +kernel
set_option maxRecDepth 20000 in
theorem kX0_cells_30 : Cond.fieldLink RX0 30 "WindPost$Chart" "wide" "I" ∈ wsX0_cells := by decide +kernel
set_option maxRecDepth 20000 in
theorem kX0_cells_34 : Cond.fieldLink RX0 34 "WindPost$Chart" "high" "I" ∈ wsX0_cells := by decide +kernel
set_option maxRecDepth 20000 in
theorem uX0_cells_X0 : ∀ w ∈ wsX00, w ∈ wsX0_cells := by decide +kernel
set_option maxRecDepth 20000 in
theorem jX0_cells_min_l : Cond.methodLink RX0 49 Lib.Math.min.name ∈ wsX0_cells := by decide +kernel
set_option maxRecDepth 20000 in
theorem jX0_cells_min_s : Cond.static Lib.Math.min.name ∈ wsX0_cells := by decide +kernel
set_option maxRecDepth 20000 in
theorem jX0_cells_min_i : Cond.initialized "java/lang/Math" ∈ wsX0_cells := by decide +kernel
set_option maxRecDepth 20000 in
theorem jX0_cells_min_c : Cond.code Lib.Math.min.name Lib.Math.min.code 2 (some .int) ∈ wsX0_cells := by decide +kernel
set_option maxHeartbeats 8000000 in
set_option maxRecDepth 100000 in
theorem mX0_cells (l : Launch) (D : va_G) (ki : Nat → ClassId) (ad : Nat → Nat) (cs : List Nat) (N : Nat) (t : Nat) (ht : kC cs t) (G : zMem) (tr : Int64) : gMetI l D ki ad cs yX0_cells wsX0_cells { frames := 1, cells := 0, slots := 0, locals := 24 } [.ref (ad t)] (xE ki ad) G tr (fX0_cells N t G tr) := by
  refine gMetI_of (cc := cX0_cells) (maxL := 1) (ret := (some .int)) (own := RX0) (by decide +kernel) rfl rfl (Nat.le_of_ble_eq_true rfl) ?_
  intro r9 G9 tr9 h p e s m below meth c S hr hlk K X ls hl
  have hl : lv_has ls 1 [(0, .ref (ad t))] := hl
  unfold fX0_cells at h
  obtain ⟨H, hH⟩ : ∃ H, H = s.heap := ⟨_, rfl⟩
  obtain ⟨locs, hlo⟩ : ∃ locs : List Loc, locs = [] := ⟨_, rfl⟩
  have X : gS D cs ad ((xE ki ad) G tr) (gA cs ad s.heap.size) s H locs := by rw [hH, hlo]; exact X
  suffices z : W p l e (headSpec wsX0_cells { frames := 1, cells := 0, slots := 0, locals := 24 }).room s m ([.ref (ad t)] : List Value).toArray below meth c H locs 0 0 (zQI below ([.ref (ad t)] : List Value).toArray s D cs ad ((xE ki ad) G9 tr9) r9) (F0 m 0 ls []) by rw [hH, hlo] at z; exact z
  clear hH hlo
  refine lv_aload_n S.1 S.2.1 dX0_cells_0 rfl (lv_at hl 0 rfl) ?_
  refine zr_get (v := .int (G t 0)) S K X (ht.2 0 (by decide)) (xE_C ht) rfl uX0_cells_X0 0 (by decide) kX0_cells_30 rfl rfl dX0_cells_1 ?_
  refine lv_aload_n S.1 S.2.1 dX0_cells_4 rfl (lv_at hl 0 rfl) ?_
  refine zr_get (v := .int (G t 1)) S K X (ht.2 0 (by decide)) (xE_C ht) rfl uX0_cells_X0 1 (by decide) kX0_cells_34 rfl rfl dX0_cells_5 ?_
  refine lv_imul S.1 S.2.1 dX0_cells_8 ?_
  refine lv_bipush (v := (30 : Int32)) S.1 S.2.1 dX0_cells_9 (by decide) ?_
  refine va_mmin S.1 S.2.1 (S.2.2.1.trans hl.1.symm) S.2.2.2.1 (S.2.2.2.2 _ jX0_cells_min_l) (S.2.2.2.2 _ jX0_cells_min_s) (S.2.2.2.2 _ jX0_cells_min_i) (S.2.2.2.2 _ jX0_cells_min_c) (Nat.le_of_ble_eq_true rfl) (Nat.le_of_ble_eq_true rfl) (Nat.zero_le _) (Nat.zero_le _) dX0_cells_11 ?_
  exact zr_iret S hr hlk X h dX0_cells_14
theorem dX0_cellOfIsle_0 : decode cX0_cellOfIsle 0 = .ok (.iload_n 1, 1) := by decide +kernel
theorem dX0_cellOfIsle_1 : decode cX0_cellOfIsle 1 = .ok (.ifCond .lt 18, 3) := by decide +kernel
theorem dX0_cellOfIsle_4 : decode cX0_cellOfIsle 4 = .ok (.iload_n 1, 1) := by decide +kernel
theorem dX0_cellOfIsle_5 : decode cX0_cellOfIsle 5 = .ok (.bipush 6, 2) := by decide +kernel
theorem dX0_cellOfIsle_7 : decode cX0_cellOfIsle 7 = .ok (.if_icmp .ge 12, 3) := by decide +kernel
theorem dX0_cellOfIsle_10 : decode cX0_cellOfIsle 10 = .ok (.aload_n 0, 1) := by decide +kernel
theorem dX0_cellOfIsle_11 : decode cX0_cellOfIsle 11 = .ok (.getfield 9, 3) := by decide +kernel
theorem dX0_cellOfIsle_14 : decode cX0_cellOfIsle 14 = .ok (.iload_n 1, 1) := by decide +kernel
theorem dX0_cellOfIsle_15 : decode cX0_cellOfIsle 15 = .ok (.iaload, 1) := by decide +kernel
theorem dX0_cellOfIsle_16 : decode cX0_cellOfIsle 16 = .ok (.goto 4, 3) := by decide +kernel
theorem dX0_cellOfIsle_19 : decode cX0_cellOfIsle 19 = .ok (.iconst 0, 1) := by decide +kernel
theorem dX0_cellOfIsle_20 : decode cX0_cellOfIsle 20 = .ok (.ireturn, 1) := by decide +kernel
set_option maxRecDepth 20000 in
theorem kX0_cellOfIsle_9 : Cond.fieldLink RX0 9 "WindPost$Chart" "isleCells" "[I" ∈ wsX0_cellOfIsle := by decide +kernel
set_option maxRecDepth 20000 in
theorem uX0_cellOfIsle_X0 : ∀ w ∈ wsX00, w ∈ wsX0_cellOfIsle := by decide +kernel
set_option maxHeartbeats 8000000 in
set_option maxRecDepth 100000 in
theorem mX0_cellOfIsle (l : Launch) (D : va_G) (ki : Nat → ClassId) (ad : Nat → Nat) (cs : List Nat) (N : Nat) (t : Nat) (a1 : Int32) (ht : kC cs t) (G : zMem) (tr : Int64) : gMetI l D ki ad cs yX0_cellOfIsle wsX0_cellOfIsle { frames := 0, cells := 0, slots := 0, locals := 0 } [.ref (ad t), .int a1] (xE ki ad) G tr (fX0_cellOfIsle N t a1 G tr) := by
  refine gMetI_of (cc := cX0_cellOfIsle) (maxL := 2) (ret := (some .int)) (own := RX0) (by decide +kernel) rfl rfl (Nat.le_of_ble_eq_true rfl) ?_
  intro r9 G9 tr9 h p e s m below meth c S hr hlk K X ls hl
  have hl : lv_has ls 2 [(0, .ref (ad t)), (1, .int a1)] := hl
  unfold fX0_cellOfIsle at h
  obtain ⟨H, hH⟩ : ∃ H, H = s.heap := ⟨_, rfl⟩
  obtain ⟨locs, hlo⟩ : ∃ locs : List Loc, locs = [] := ⟨_, rfl⟩
  have X : gS D cs ad ((xE ki ad) G tr) (gA cs ad s.heap.size) s H locs := by rw [hH, hlo]; exact X
  suffices z : W p l e (headSpec wsX0_cellOfIsle { frames := 0, cells := 0, slots := 0, locals := 0 }).room s m ([.ref (ad t), .int a1] : List Value).toArray below meth c H locs 0 0 (zQI below ([.ref (ad t), .int a1] : List Value).toArray s D cs ad ((xE ki ad) G9 tr9) r9) (F0 m 0 ls []) by rw [hH, hlo] at z; exact z
  clear hH hlo
  refine lv_iload_n S.1 S.2.1 dX0_cellOfIsle_0 rfl (lv_at hl 1 rfl) ?_
  refine lv_if_lt (tgt := 19) S.1 S.2.1 dX0_cellOfIsle_1 (by decide) (fun hc_1 => ?_) (fun hc_1 => ?_)
  · have h := zif_pos hc_1 h
    refine lv_iconst (v := (0 : Int32)) S.1 S.2.1 dX0_cellOfIsle_19 (by decide) ?_
    exact zr_iret S hr hlk X h dX0_cellOfIsle_20
  · have h := zif_neg hc_1 h
    refine lv_iload_n S.1 S.2.1 dX0_cellOfIsle_4 rfl (lv_at hl 1 rfl) ?_
    refine lv_bipush (v := (6 : Int32)) S.1 S.2.1 dX0_cellOfIsle_5 (by decide) ?_
    refine lv_icmp_ge (tgt := 19) S.1 S.2.1 dX0_cellOfIsle_7 (by decide) (fun hc_2 => ?_) (fun hc_2 => ?_)
    · have h := zif_pos hc_2 h
      refine lv_iconst (v := (0 : Int32)) S.1 S.2.1 dX0_cellOfIsle_19 (by decide) ?_
      exact zr_iret S hr hlk X h dX0_cellOfIsle_20
    · have h := zif_neg hc_2 h
      refine lv_aload_n S.1 S.2.1 dX0_cellOfIsle_10 rfl (lv_at hl 0 rfl) ?_
      refine zr_get (v := .ref (ad (t + 1))) S K X (ht.2 0 (by decide)) (xE_C ht) rfl uX0_cellOfIsle_X0 6 (by decide) kX0_cellOfIsle_9 rfl rfl dX0_cellOfIsle_11 ?_
      refine lv_iload_n S.1 S.2.1 dX0_cellOfIsle_14 rfl (lv_at hl 1 rfl) ?_
      obtain ⟨hi_3, h⟩ := zin_some h
      refine zr_iald S K X (ht.2 1 (by decide)) (xE_C1 ht) hi_3 dX0_cellOfIsle_15 ?_
      refine lv_goto (tgt := 20) S.1 S.2.1 dX0_cellOfIsle_16 (by decide) ?_
      exact zr_iret S hr hlk X h dX0_cellOfIsle_20
theorem dX0_onCell_0 : decode cX0_onCell 0 = .ok (.iload_n 1, 1) := by decide +kernel
theorem dX0_onCell_1 : decode cX0_onCell 1 = .ok (.ifCond .lt 18, 3) := by decide +kernel
theorem dX0_onCell_4 : decode cX0_onCell 4 = .ok (.iload_n 1, 1) := by decide +kernel
theorem dX0_onCell_5 : decode cX0_onCell 5 = .ok (.bipush 30, 2) := by decide +kernel
theorem dX0_onCell_7 : decode cX0_onCell 7 = .ok (.if_icmp .ge 12, 3) := by decide +kernel
theorem dX0_onCell_10 : decode cX0_onCell 10 = .ok (.aload_n 0, 1) := by decide +kernel
theorem dX0_onCell_11 : decode cX0_onCell 11 = .ok (.getfield 15, 3) := by decide +kernel
theorem dX0_onCell_14 : decode cX0_onCell 14 = .ok (.iload_n 1, 1) := by decide +kernel
theorem dX0_onCell_15 : decode cX0_onCell 15 = .ok (.iaload, 1) := by decide +kernel
theorem dX0_onCell_16 : decode cX0_onCell 16 = .ok (.goto 5, 3) := by decide +kernel
theorem dX0_onCell_19 : decode cX0_onCell 19 = .ok (.bipush (-9), 2) := by decide +kernel
theorem dX0_onCell_21 : decode cX0_onCell 21 = .ok (.ireturn, 1) := by decide +kernel
set_option maxRecDepth 20000 in
theorem kX0_onCell_15 : Cond.fieldLink RX0 15 "WindPost$Chart" "holds" "[I" ∈ wsX0_onCell := by decide +kernel
set_option maxRecDepth 20000 in
theorem uX0_onCell_X0 : ∀ w ∈ wsX00, w ∈ wsX0_onCell := by decide +kernel
set_option maxHeartbeats 8000000 in
set_option maxRecDepth 100000 in
theorem mX0_onCell (l : Launch) (D : va_G) (ki : Nat → ClassId) (ad : Nat → Nat) (cs : List Nat) (N : Nat) (t : Nat) (a1 : Int32) (ht : kC cs t) (G : zMem) (tr : Int64) : gMetI l D ki ad cs yX0_onCell wsX0_onCell { frames := 0, cells := 0, slots := 0, locals := 0 } [.ref (ad t), .int a1] (xE ki ad) G tr (fX0_onCell N t a1 G tr) := by
  refine gMetI_of (cc := cX0_onCell) (maxL := 2) (ret := (some .int)) (own := RX0) (by decide +kernel) rfl rfl (Nat.le_of_ble_eq_true rfl) ?_
  intro r9 G9 tr9 h p e s m below meth c S hr hlk K X ls hl
  have hl : lv_has ls 2 [(0, .ref (ad t)), (1, .int a1)] := hl
  unfold fX0_onCell at h
  obtain ⟨H, hH⟩ : ∃ H, H = s.heap := ⟨_, rfl⟩
  obtain ⟨locs, hlo⟩ : ∃ locs : List Loc, locs = [] := ⟨_, rfl⟩
  have X : gS D cs ad ((xE ki ad) G tr) (gA cs ad s.heap.size) s H locs := by rw [hH, hlo]; exact X
  suffices z : W p l e (headSpec wsX0_onCell { frames := 0, cells := 0, slots := 0, locals := 0 }).room s m ([.ref (ad t), .int a1] : List Value).toArray below meth c H locs 0 0 (zQI below ([.ref (ad t), .int a1] : List Value).toArray s D cs ad ((xE ki ad) G9 tr9) r9) (F0 m 0 ls []) by rw [hH, hlo] at z; exact z
  clear hH hlo
  refine lv_iload_n S.1 S.2.1 dX0_onCell_0 rfl (lv_at hl 1 rfl) ?_
  refine lv_if_lt (tgt := 19) S.1 S.2.1 dX0_onCell_1 (by decide) (fun hc_1 => ?_) (fun hc_1 => ?_)
  · have h := zif_pos hc_1 h
    refine lv_bipush (v := (-9 : Int32)) S.1 S.2.1 dX0_onCell_19 (by decide) ?_
    exact zr_iret S hr hlk X h dX0_onCell_21
  · have h := zif_neg hc_1 h
    refine lv_iload_n S.1 S.2.1 dX0_onCell_4 rfl (lv_at hl 1 rfl) ?_
    refine lv_bipush (v := (30 : Int32)) S.1 S.2.1 dX0_onCell_5 (by decide) ?_
    refine lv_icmp_ge (tgt := 19) S.1 S.2.1 dX0_onCell_7 (by decide) (fun hc_2 => ?_) (fun hc_2 => ?_)
    · have h := zif_pos hc_2 h
      refine lv_bipush (v := (-9 : Int32)) S.1 S.2.1 dX0_onCell_19 (by decide) ?_
      exact zr_iret S hr hlk X h dX0_onCell_21
    · have h := zif_neg hc_2 h
      refine lv_aload_n S.1 S.2.1 dX0_onCell_10 rfl (lv_at hl 0 rfl) ?_
      refine zr_get (v := .ref (ad (t + 2))) S K X (ht.2 0 (by decide)) (xE_C ht) rfl uX0_onCell_X0 7 (by decide) kX0_onCell_15 rfl rfl dX0_onCell_11 ?_
      refine lv_iload_n S.1 S.2.1 dX0_onCell_14 rfl (lv_at hl 1 rfl) ?_
      obtain ⟨hi_3, h⟩ := zin_some h
      refine zr_iald S K X (ht.2 2 (by decide)) (xE_C2 ht) hi_3 dX0_onCell_15 ?_
      refine lv_goto (tgt := 21) S.1 S.2.1 dX0_onCell_16 (by decide) ?_
      exact zr_iret S hr hlk X h dX0_onCell_21
theorem dX0_addIsle_0 : decode cX0_addIsle 0 = .ok (.aload_n 0, 1) := by decide +kernel
theorem dX0_addIsle_1 : decode cX0_addIsle 1 = .ok (.getfield 40, 3) := by decide +kernel
theorem dX0_addIsle_4 : decode cX0_addIsle 4 = .ok (.bipush 6, 2) := by decide +kernel
theorem dX0_addIsle_6 : decode cX0_addIsle 6 = .ok (.if_icmp .ge 13, 3) := by decide +kernel
theorem dX0_addIsle_9 : decode cX0_addIsle 9 = .ok (.iload_n 1, 1) := by decide +kernel
theorem dX0_addIsle_10 : decode cX0_addIsle 10 = .ok (.ifCond .lt 9, 3) := by decide +kernel
theorem dX0_addIsle_13 : decode cX0_addIsle 13 = .ok (.iload_n 1, 1) := by decide +kernel
theorem dX0_addIsle_14 : decode cX0_addIsle 14 = .ok (.bipush 30, 2) := by decide +kernel
theorem dX0_addIsle_16 : decode cX0_addIsle 16 = .ok (.if_icmp .lt 4, 3) := by decide +kernel
theorem dX0_addIsle_19 : decode cX0_addIsle 19 = .ok (.return_, 1) := by decide +kernel
theorem dX0_addIsle_20 : decode cX0_addIsle 20 = .ok (.aload_n 0, 1) := by decide +kernel
theorem dX0_addIsle_21 : decode cX0_addIsle 21 = .ok (.getfield 9, 3) := by decide +kernel
theorem dX0_addIsle_24 : decode cX0_addIsle 24 = .ok (.aload_n 0, 1) := by decide +kernel
theorem dX0_addIsle_25 : decode cX0_addIsle 25 = .ok (.getfield 40, 3) := by decide +kernel
theorem dX0_addIsle_28 : decode cX0_addIsle 28 = .ok (.iload_n 1, 1) := by decide +kernel
theorem dX0_addIsle_29 : decode cX0_addIsle 29 = .ok (.iastore, 1) := by decide +kernel
theorem dX0_addIsle_30 : decode cX0_addIsle 30 = .ok (.aload_n 0, 1) := by decide +kernel
theorem dX0_addIsle_31 : decode cX0_addIsle 31 = .ok (.getfield 15, 3) := by decide +kernel
theorem dX0_addIsle_34 : decode cX0_addIsle 34 = .ok (.iload_n 1, 1) := by decide +kernel
theorem dX0_addIsle_35 : decode cX0_addIsle 35 = .ok (.aload_n 0, 1) := by decide +kernel
theorem dX0_addIsle_36 : decode cX0_addIsle 36 = .ok (.getfield 40, 3) := by decide +kernel
theorem dX0_addIsle_39 : decode cX0_addIsle 39 = .ok (.iastore, 1) := by decide +kernel
theorem dX0_addIsle_40 : decode cX0_addIsle 40 = .ok (.aload_n 0, 1) := by decide +kernel
theorem dX0_addIsle_41 : decode cX0_addIsle 41 = .ok (.dup, 1) := by decide +kernel
theorem dX0_addIsle_42 : decode cX0_addIsle 42 = .ok (.getfield 40, 3) := by decide +kernel
theorem dX0_addIsle_45 : decode cX0_addIsle 45 = .ok (.iconst 1, 1) := by decide +kernel
theorem dX0_addIsle_46 : decode cX0_addIsle 46 = .ok (.iadd, 1) := by decide +kernel
theorem dX0_addIsle_47 : decode cX0_addIsle 47 = .ok (.putfield 40, 3) := by decide +kernel
theorem dX0_addIsle_50 : decode cX0_addIsle 50 = .ok (.return_, 1) := by decide +kernel
set_option maxRecDepth 20000 in
theorem kX0_addIsle_9 : Cond.fieldLink RX0 9 "WindPost$Chart" "isleCells" "[I" ∈ wsX0_addIsle := by decide +kernel
set_option maxRecDepth 20000 in
theorem kX0_addIsle_15 : Cond.fieldLink RX0 15 "WindPost$Chart" "holds" "[I" ∈ wsX0_addIsle := by decide +kernel
set_option maxRecDepth 20000 in
theorem kX0_addIsle_40 : Cond.fieldLink RX0 40 "WindPost$Chart" "isles" "I" ∈ wsX0_addIsle := by decide +kernel
set_option maxRecDepth 20000 in
theorem uX0_addIsle_X0 : ∀ w ∈ wsX00, w ∈ wsX0_addIsle := by decide +kernel
set_option maxHeartbeats 8000000 in
set_option maxRecDepth 100000 in
theorem mX0_addIsle (l : Launch) (D : va_G) (ki : Nat → ClassId) (ad : Nat → Nat) (cs : List Nat) (N : Nat) (t : Nat) (a1 : Int32) (ht : kC cs t) (G : zMem) (tr : Int64) : gMetV l D ki ad cs yX0_addIsle wsX0_addIsle { frames := 0, cells := 0, slots := 0, locals := 0 } [.ref (ad t), .int a1] (xE ki ad) G tr (fX0_addIsle N t a1 G tr) := by
  refine gMetV_of (cc := cX0_addIsle) (maxL := 2) (ret := none) (own := RX0) (by decide +kernel) rfl rfl (Nat.le_of_ble_eq_true rfl) ?_
  intro r9 G9 tr9 h p e s m below meth c S hr hlk K X ls hl
  have hl : lv_has ls 2 [(0, .ref (ad t)), (1, .int a1)] := hl
  unfold fX0_addIsle at h
  obtain ⟨H, hH⟩ : ∃ H, H = s.heap := ⟨_, rfl⟩
  obtain ⟨locs, hlo⟩ : ∃ locs : List Loc, locs = [] := ⟨_, rfl⟩
  have X : gS D cs ad ((xE ki ad) G tr) (gA cs ad s.heap.size) s H locs := by rw [hH, hlo]; exact X
  suffices z : W p l e (headSpec wsX0_addIsle { frames := 0, cells := 0, slots := 0, locals := 0 }).room s m ([.ref (ad t), .int a1] : List Value).toArray below meth c H locs 0 0 (zQV below ([.ref (ad t), .int a1] : List Value).toArray s D cs ad ((xE ki ad) G9 tr9)) (F0 m 0 ls []) by rw [hH, hlo] at z; exact z
  clear hH hlo
  refine lv_aload_n S.1 S.2.1 dX0_addIsle_0 rfl (lv_at hl 0 rfl) ?_
  refine zr_get (v := .int (G t 3)) S K X (ht.2 0 (by decide)) (xE_C ht) rfl uX0_addIsle_X0 3 (by decide) kX0_addIsle_40 rfl rfl dX0_addIsle_1 ?_
  refine lv_bipush (v := (6 : Int32)) S.1 S.2.1 dX0_addIsle_4 (by decide) ?_
  refine lv_icmp_ge (tgt := 19) S.1 S.2.1 dX0_addIsle_6 (by decide) (fun hc_1 => ?_) (fun hc_1 => ?_)
  · have h := zif_pos hc_1 h
    exact zr_vret S hr hlk X h dX0_addIsle_19
  · have h := zif_neg hc_1 h
    refine lv_iload_n S.1 S.2.1 dX0_addIsle_9 rfl (lv_at hl 1 rfl) ?_
    refine lv_if_lt (tgt := 19) S.1 S.2.1 dX0_addIsle_10 (by decide) (fun hc_2 => ?_) (fun hc_2 => ?_)
    · have h := zif_pos hc_2 h
      exact zr_vret S hr hlk X h dX0_addIsle_19
    · have h := zif_neg hc_2 h
      refine lv_iload_n S.1 S.2.1 dX0_addIsle_13 rfl (lv_at hl 1 rfl) ?_
      refine lv_bipush (v := (30 : Int32)) S.1 S.2.1 dX0_addIsle_14 (by decide) ?_
      refine lv_icmp_lt (tgt := 20) S.1 S.2.1 dX0_addIsle_16 (by decide) (fun hc_3 => ?_) (fun hc_3 => ?_)
      · have h := zif_pos hc_3 h
        refine lv_aload_n S.1 S.2.1 dX0_addIsle_20 rfl (lv_at hl 0 rfl) ?_
        refine zr_get (v := .ref (ad (t + 1))) S K X (ht.2 0 (by decide)) (xE_C ht) rfl uX0_addIsle_X0 6 (by decide) kX0_addIsle_9 rfl rfl dX0_addIsle_21 ?_
        refine lv_aload_n S.1 S.2.1 dX0_addIsle_24 rfl (lv_at hl 0 rfl) ?_
        refine zr_get (v := .int (G t 3)) S K X (ht.2 0 (by decide)) (xE_C ht) rfl uX0_addIsle_X0 3 (by decide) kX0_addIsle_40 rfl rfl dX0_addIsle_25 ?_
        refine lv_iload_n S.1 S.2.1 dX0_addIsle_28 rfl (lv_at hl 1 rfl) ?_
        obtain ⟨hi_4, h⟩ := zin_some h
        refine zr_iast S K X (ht.2 1 (by decide)) xE_loc (fun _ => (xE_C1 ht)) hi_4 dX0_addIsle_29 (fun H locs X => ?_)
        refine lv_aload_n S.1 S.2.1 dX0_addIsle_30 rfl (lv_at hl 0 rfl) ?_
        refine zr_get (v := .ref (ad (t + 2))) S K X (ht.2 0 (by decide)) (xE_C ht) rfl uX0_addIsle_X0 7 (by decide) kX0_addIsle_15 rfl rfl dX0_addIsle_31 ?_
        refine lv_iload_n S.1 S.2.1 dX0_addIsle_34 rfl (lv_at hl 1 rfl) ?_
        refine lv_aload_n S.1 S.2.1 dX0_addIsle_35 rfl (lv_at hl 0 rfl) ?_
        refine zr_get (v := .int ((up2 G (t + 1) (Int32.toNatClampNeg (G t 3)) a1) t 3)) S K X (ht.2 0 (by decide)) (xE_C ht) rfl uX0_addIsle_X0 3 (by decide) kX0_addIsle_40 rfl rfl dX0_addIsle_36 ?_
        obtain ⟨hi_5, h⟩ := zin_some h
        refine zr_iast S K X (ht.2 2 (by decide)) xE_loc (fun _ => (xE_C2 ht)) hi_5 dX0_addIsle_39 (fun H locs X => ?_)
        refine lv_aload_n S.1 S.2.1 dX0_addIsle_40 rfl (lv_at hl 0 rfl) ?_
        refine lv_dup S.1 S.2.1 dX0_addIsle_41 rfl ?_
        refine zr_get (v := .int ((up2 (up2 G (t + 1) (Int32.toNatClampNeg (G t 3)) a1) (t + 2) (Int32.toNatClampNeg a1) ((up2 G (t + 1) (Int32.toNatClampNeg (G t 3)) a1) t 3)) t 3)) S K X (ht.2 0 (by decide)) (xE_C ht) rfl uX0_addIsle_X0 3 (by decide) kX0_addIsle_40 rfl rfl dX0_addIsle_42 ?_
        refine lv_iconst (v := (1 : Int32)) S.1 S.2.1 dX0_addIsle_45 (by decide) ?_
        refine lv_iadd S.1 S.2.1 dX0_addIsle_46 ?_
        refine zr_put (xv := (((up2 (up2 G (t + 1) (Int32.toNatClampNeg (G t 3)) a1) (t + 2) (Int32.toNatClampNeg a1) ((up2 G (t + 1) (Int32.toNatClampNeg (G t 3)) a1) t 3)) t 3) + (1 : Int32))) (v := .int (((up2 (up2 G (t + 1) (Int32.toNatClampNeg (G t 3)) a1) (t + 2) (Int32.toNatClampNeg a1) ((up2 G (t + 1) (Int32.toNatClampNeg (G t 3)) a1) t 3)) t 3) + (1 : Int32))) (fsf := (fsC ad t)) (ty := .int) S K X (ht.2 0 (by decide)) xE_loc (fun _ => (xE_C ht)) rfl uX0_addIsle_X0 tyX0 tyX0_ok nmX0 3 (by decide) kX0_addIsle_40 rfl (by decide +kernel) rfl rfl (by simp) rfl dX0_addIsle_47 (fun H locs X => ?_)
        exact zr_vret S hr hlk X h dX0_addIsle_50
      · have h := zif_neg hc_3 h
        exact zr_vret S hr hlk X h dX0_addIsle_19
theorem dX0_addHill_0 : decode cX0_addHill 0 = .ok (.iload_n 1, 1) := by decide +kernel
theorem dX0_addHill_1 : decode cX0_addHill 1 = .ok (.ifCond .lt 9, 3) := by decide +kernel
theorem dX0_addHill_4 : decode cX0_addHill 4 = .ok (.iload_n 1, 1) := by decide +kernel
theorem dX0_addHill_5 : decode cX0_addHill 5 = .ok (.bipush 30, 2) := by decide +kernel
theorem dX0_addHill_7 : decode cX0_addHill 7 = .ok (.if_icmp .lt 4, 3) := by decide +kernel
theorem dX0_addHill_10 : decode cX0_addHill 10 = .ok (.return_, 1) := by decide +kernel
theorem dX0_addHill_11 : decode cX0_addHill 11 = .ok (.aload_n 0, 1) := by decide +kernel
theorem dX0_addHill_12 : decode cX0_addHill 12 = .ok (.getfield 15, 3) := by decide +kernel
theorem dX0_addHill_15 : decode cX0_addHill 15 = .ok (.iload_n 1, 1) := by decide +kernel
theorem dX0_addHill_16 : decode cX0_addHill 16 = .ok (.bipush (-5), 2) := by decide +kernel
theorem dX0_addHill_18 : decode cX0_addHill 18 = .ok (.iastore, 1) := by decide +kernel
theorem dX0_addHill_19 : decode cX0_addHill 19 = .ok (.aload_n 0, 1) := by decide +kernel
theorem dX0_addHill_20 : decode cX0_addHill 20 = .ok (.dup, 1) := by decide +kernel
theorem dX0_addHill_21 : decode cX0_addHill 21 = .ok (.getfield 43, 3) := by decide +kernel
theorem dX0_addHill_24 : decode cX0_addHill 24 = .ok (.iconst 1, 1) := by decide +kernel
theorem dX0_addHill_25 : decode cX0_addHill 25 = .ok (.iadd, 1) := by decide +kernel
theorem dX0_addHill_26 : decode cX0_addHill 26 = .ok (.putfield 43, 3) := by decide +kernel
theorem dX0_addHill_29 : decode cX0_addHill 29 = .ok (.return_, 1) := by decide +kernel
set_option maxRecDepth 20000 in
theorem kX0_addHill_15 : Cond.fieldLink RX0 15 "WindPost$Chart" "holds" "[I" ∈ wsX0_addHill := by decide +kernel
set_option maxRecDepth 20000 in
theorem kX0_addHill_43 : Cond.fieldLink RX0 43 "WindPost$Chart" "hills" "I" ∈ wsX0_addHill := by decide +kernel
set_option maxRecDepth 20000 in
theorem uX0_addHill_X0 : ∀ w ∈ wsX00, w ∈ wsX0_addHill := by decide +kernel
set_option maxHeartbeats 8000000 in
set_option maxRecDepth 100000 in
theorem mX0_addHill (l : Launch) (D : va_G) (ki : Nat → ClassId) (ad : Nat → Nat) (cs : List Nat) (N : Nat) (t : Nat) (a1 : Int32) (ht : kC cs t) (G : zMem) (tr : Int64) : gMetV l D ki ad cs yX0_addHill wsX0_addHill { frames := 0, cells := 0, slots := 0, locals := 0 } [.ref (ad t), .int a1] (xE ki ad) G tr (fX0_addHill N t a1 G tr) := by
  refine gMetV_of (cc := cX0_addHill) (maxL := 2) (ret := none) (own := RX0) (by decide +kernel) rfl rfl (Nat.le_of_ble_eq_true rfl) ?_
  intro r9 G9 tr9 h p e s m below meth c S hr hlk K X ls hl
  have hl : lv_has ls 2 [(0, .ref (ad t)), (1, .int a1)] := hl
  unfold fX0_addHill at h
  obtain ⟨H, hH⟩ : ∃ H, H = s.heap := ⟨_, rfl⟩
  obtain ⟨locs, hlo⟩ : ∃ locs : List Loc, locs = [] := ⟨_, rfl⟩
  have X : gS D cs ad ((xE ki ad) G tr) (gA cs ad s.heap.size) s H locs := by rw [hH, hlo]; exact X
  suffices z : W p l e (headSpec wsX0_addHill { frames := 0, cells := 0, slots := 0, locals := 0 }).room s m ([.ref (ad t), .int a1] : List Value).toArray below meth c H locs 0 0 (zQV below ([.ref (ad t), .int a1] : List Value).toArray s D cs ad ((xE ki ad) G9 tr9)) (F0 m 0 ls []) by rw [hH, hlo] at z; exact z
  clear hH hlo
  refine lv_iload_n S.1 S.2.1 dX0_addHill_0 rfl (lv_at hl 1 rfl) ?_
  refine lv_if_lt (tgt := 10) S.1 S.2.1 dX0_addHill_1 (by decide) (fun hc_1 => ?_) (fun hc_1 => ?_)
  · have h := zif_pos hc_1 h
    exact zr_vret S hr hlk X h dX0_addHill_10
  · have h := zif_neg hc_1 h
    refine lv_iload_n S.1 S.2.1 dX0_addHill_4 rfl (lv_at hl 1 rfl) ?_
    refine lv_bipush (v := (30 : Int32)) S.1 S.2.1 dX0_addHill_5 (by decide) ?_
    refine lv_icmp_lt (tgt := 11) S.1 S.2.1 dX0_addHill_7 (by decide) (fun hc_2 => ?_) (fun hc_2 => ?_)
    · have h := zif_pos hc_2 h
      refine lv_aload_n S.1 S.2.1 dX0_addHill_11 rfl (lv_at hl 0 rfl) ?_
      refine zr_get (v := .ref (ad (t + 2))) S K X (ht.2 0 (by decide)) (xE_C ht) rfl uX0_addHill_X0 7 (by decide) kX0_addHill_15 rfl rfl dX0_addHill_12 ?_
      refine lv_iload_n S.1 S.2.1 dX0_addHill_15 rfl (lv_at hl 1 rfl) ?_
      refine lv_bipush (v := (-5 : Int32)) S.1 S.2.1 dX0_addHill_16 (by decide) ?_
      obtain ⟨hi_3, h⟩ := zin_some h
      refine zr_iast S K X (ht.2 2 (by decide)) xE_loc (fun _ => (xE_C2 ht)) hi_3 dX0_addHill_18 (fun H locs X => ?_)
      refine lv_aload_n S.1 S.2.1 dX0_addHill_19 rfl (lv_at hl 0 rfl) ?_
      refine lv_dup S.1 S.2.1 dX0_addHill_20 rfl ?_
      refine zr_get (v := .int ((up2 G (t + 2) (Int32.toNatClampNeg a1) (-5 : Int32)) t 4)) S K X (ht.2 0 (by decide)) (xE_C ht) rfl uX0_addHill_X0 4 (by decide) kX0_addHill_43 rfl rfl dX0_addHill_21 ?_
      refine lv_iconst (v := (1 : Int32)) S.1 S.2.1 dX0_addHill_24 (by decide) ?_
      refine lv_iadd S.1 S.2.1 dX0_addHill_25 ?_
      refine zr_put (xv := (((up2 G (t + 2) (Int32.toNatClampNeg a1) (-5 : Int32)) t 4) + (1 : Int32))) (v := .int (((up2 G (t + 2) (Int32.toNatClampNeg a1) (-5 : Int32)) t 4) + (1 : Int32))) (fsf := (fsC ad t)) (ty := .int) S K X (ht.2 0 (by decide)) xE_loc (fun _ => (xE_C ht)) rfl uX0_addHill_X0 tyX0 tyX0_ok nmX0 4 (by decide) kX0_addHill_43 rfl (by decide +kernel) rfl rfl (by simp) rfl dX0_addHill_26 (fun H locs X => ?_)
      exact zr_vret S hr hlk X h dX0_addHill_29
    · have h := zif_neg hc_2 h
      exact zr_vret S hr hlk X h dX0_addHill_10
theorem dX0_addWind_0 : decode cX0_addWind 0 = .ok (.aload_n 0, 1) := by decide +kernel
theorem dX0_addWind_1 : decode cX0_addWind 1 = .ok (.getfield 46, 3) := by decide +kernel
theorem dX0_addWind_4 : decode cX0_addWind 4 = .ok (.bipush 12, 2) := by decide +kernel
theorem dX0_addWind_6 : decode cX0_addWind 6 = .ok (.if_icmp .lt 4, 3) := by decide +kernel
theorem dX0_addWind_9 : decode cX0_addWind 9 = .ok (.return_, 1) := by decide +kernel
theorem dX0_addWind_10 : decode cX0_addWind 10 = .ok (.aload_n 0, 1) := by decide +kernel
theorem dX0_addWind_11 : decode cX0_addWind 11 = .ok (.getfield 18, 3) := by decide +kernel
theorem dX0_addWind_14 : decode cX0_addWind 14 = .ok (.aload_n 0, 1) := by decide +kernel
theorem dX0_addWind_15 : decode cX0_addWind 15 = .ok (.getfield 46, 3) := by decide +kernel
theorem dX0_addWind_18 : decode cX0_addWind 18 = .ok (.iload_n 1, 1) := by decide +kernel
theorem dX0_addWind_19 : decode cX0_addWind 19 = .ok (.iastore, 1) := by decide +kernel
theorem dX0_addWind_20 : decode cX0_addWind 20 = .ok (.aload_n 0, 1) := by decide +kernel
theorem dX0_addWind_21 : decode cX0_addWind 21 = .ok (.dup, 1) := by decide +kernel
theorem dX0_addWind_22 : decode cX0_addWind 22 = .ok (.getfield 46, 3) := by decide +kernel
theorem dX0_addWind_25 : decode cX0_addWind 25 = .ok (.iconst 1, 1) := by decide +kernel
theorem dX0_addWind_26 : decode cX0_addWind 26 = .ok (.iadd, 1) := by decide +kernel
theorem dX0_addWind_27 : decode cX0_addWind 27 = .ok (.putfield 46, 3) := by decide +kernel
theorem dX0_addWind_30 : decode cX0_addWind 30 = .ok (.return_, 1) := by decide +kernel
set_option maxRecDepth 20000 in
theorem kX0_addWind_18 : Cond.fieldLink RX0 18 "WindPost$Chart" "winds" "[I" ∈ wsX0_addWind := by decide +kernel
set_option maxRecDepth 20000 in
theorem kX0_addWind_46 : Cond.fieldLink RX0 46 "WindPost$Chart" "told" "I" ∈ wsX0_addWind := by decide +kernel
set_option maxRecDepth 20000 in
theorem uX0_addWind_X0 : ∀ w ∈ wsX00, w ∈ wsX0_addWind := by decide +kernel
set_option maxHeartbeats 8000000 in
set_option maxRecDepth 100000 in
theorem mX0_addWind (l : Launch) (D : va_G) (ki : Nat → ClassId) (ad : Nat → Nat) (cs : List Nat) (N : Nat) (t : Nat) (a1 : Int32) (ht : kC cs t) (G : zMem) (tr : Int64) : gMetV l D ki ad cs yX0_addWind wsX0_addWind { frames := 0, cells := 0, slots := 0, locals := 0 } [.ref (ad t), .int a1] (xE ki ad) G tr (fX0_addWind N t a1 G tr) := by
  refine gMetV_of (cc := cX0_addWind) (maxL := 2) (ret := none) (own := RX0) (by decide +kernel) rfl rfl (Nat.le_of_ble_eq_true rfl) ?_
  intro r9 G9 tr9 h p e s m below meth c S hr hlk K X ls hl
  have hl : lv_has ls 2 [(0, .ref (ad t)), (1, .int a1)] := hl
  unfold fX0_addWind at h
  obtain ⟨H, hH⟩ : ∃ H, H = s.heap := ⟨_, rfl⟩
  obtain ⟨locs, hlo⟩ : ∃ locs : List Loc, locs = [] := ⟨_, rfl⟩
  have X : gS D cs ad ((xE ki ad) G tr) (gA cs ad s.heap.size) s H locs := by rw [hH, hlo]; exact X
  suffices z : W p l e (headSpec wsX0_addWind { frames := 0, cells := 0, slots := 0, locals := 0 }).room s m ([.ref (ad t), .int a1] : List Value).toArray below meth c H locs 0 0 (zQV below ([.ref (ad t), .int a1] : List Value).toArray s D cs ad ((xE ki ad) G9 tr9)) (F0 m 0 ls []) by rw [hH, hlo] at z; exact z
  clear hH hlo
  refine lv_aload_n S.1 S.2.1 dX0_addWind_0 rfl (lv_at hl 0 rfl) ?_
  refine zr_get (v := .int (G t 5)) S K X (ht.2 0 (by decide)) (xE_C ht) rfl uX0_addWind_X0 5 (by decide) kX0_addWind_46 rfl rfl dX0_addWind_1 ?_
  refine lv_bipush (v := (12 : Int32)) S.1 S.2.1 dX0_addWind_4 (by decide) ?_
  refine lv_icmp_lt (tgt := 10) S.1 S.2.1 dX0_addWind_6 (by decide) (fun hc_1 => ?_) (fun hc_1 => ?_)
  · have h := zif_pos hc_1 h
    refine lv_aload_n S.1 S.2.1 dX0_addWind_10 rfl (lv_at hl 0 rfl) ?_
    refine zr_get (v := .ref (ad (t + 3))) S K X (ht.2 0 (by decide)) (xE_C ht) rfl uX0_addWind_X0 8 (by decide) kX0_addWind_18 rfl rfl dX0_addWind_11 ?_
    refine lv_aload_n S.1 S.2.1 dX0_addWind_14 rfl (lv_at hl 0 rfl) ?_
    refine zr_get (v := .int (G t 5)) S K X (ht.2 0 (by decide)) (xE_C ht) rfl uX0_addWind_X0 5 (by decide) kX0_addWind_46 rfl rfl dX0_addWind_15 ?_
    refine lv_iload_n S.1 S.2.1 dX0_addWind_18 rfl (lv_at hl 1 rfl) ?_
    obtain ⟨hi_2, h⟩ := zin_some h
    refine zr_iast S K X (ht.2 3 (by decide)) xE_loc (fun _ => (xE_C3 ht)) hi_2 dX0_addWind_19 (fun H locs X => ?_)
    refine lv_aload_n S.1 S.2.1 dX0_addWind_20 rfl (lv_at hl 0 rfl) ?_
    refine lv_dup S.1 S.2.1 dX0_addWind_21 rfl ?_
    refine zr_get (v := .int ((up2 G (t + 3) (Int32.toNatClampNeg (G t 5)) a1) t 5)) S K X (ht.2 0 (by decide)) (xE_C ht) rfl uX0_addWind_X0 5 (by decide) kX0_addWind_46 rfl rfl dX0_addWind_22 ?_
    refine lv_iconst (v := (1 : Int32)) S.1 S.2.1 dX0_addWind_25 (by decide) ?_
    refine lv_iadd S.1 S.2.1 dX0_addWind_26 ?_
    refine zr_put (xv := (((up2 G (t + 3) (Int32.toNatClampNeg (G t 5)) a1) t 5) + (1 : Int32))) (v := .int (((up2 G (t + 3) (Int32.toNatClampNeg (G t 5)) a1) t 5) + (1 : Int32))) (fsf := (fsC ad t)) (ty := .int) S K X (ht.2 0 (by decide)) xE_loc (fun _ => (xE_C ht)) rfl uX0_addWind_X0 tyX0 tyX0_ok nmX0 5 (by decide) kX0_addWind_46 rfl (by decide +kernel) rfl rfl (by simp) rfl dX0_addWind_27 (fun H locs X => ?_)
    exact zr_vret S hr hlk X h dX0_addWind_30
  · have h := zif_neg hc_1 h
    exact zr_vret S hr hlk X h dX0_addWind_9
theorem dX0_beside_0 : decode cX0_beside 0 = .ok (.aload_n 0, 1) := by decide +kernel
theorem dX0_beside_1 : decode cX0_beside 1 = .ok (.getfield 30, 3) := by decide +kernel
theorem dX0_beside_4 : decode cX0_beside 4 = .ok (.iconst 1, 1) := by decide +kernel
theorem dX0_beside_5 : decode cX0_beside 5 = .ok (.if_icmp .ge 5, 3) := by decide +kernel
theorem dX0_beside_8 : decode cX0_beside 8 = .ok (.iload_n 1, 1) := by decide +kernel
theorem dX0_beside_9 : decode cX0_beside 9 = .ok (.ireturn, 1) := by decide +kernel
theorem dX0_beside_10 : decode cX0_beside 10 = .ok (.aload_n 0, 1) := by decide +kernel
theorem dX0_beside_11 : decode cX0_beside 11 = .ok (.getfield 30, 3) := by decide +kernel
theorem dX0_beside_14 : decode cX0_beside 14 = .ok (.aload_n 0, 1) := by decide +kernel
theorem dX0_beside_15 : decode cX0_beside 15 = .ok (.getfield 34, 3) := by decide +kernel
theorem dX0_beside_18 : decode cX0_beside 18 = .ok (.imul, 1) := by decide +kernel
theorem dX0_beside_19 : decode cX0_beside 19 = .ok (.istore_n 3, 1) := by decide +kernel
theorem dX0_beside_20 : decode cX0_beside 20 = .ok (.iload_n 1, 1) := by decide +kernel
theorem dX0_beside_21 : decode cX0_beside 21 = .ok (.aload_n 0, 1) := by decide +kernel
theorem dX0_beside_22 : decode cX0_beside 22 = .ok (.getfield 30, 3) := by decide +kernel
theorem dX0_beside_25 : decode cX0_beside 25 = .ok (.irem, 1) := by decide +kernel
theorem dX0_beside_26 : decode cX0_beside 26 = .ok (.istore 4, 2) := by decide +kernel
theorem dX0_beside_28 : decode cX0_beside 28 = .ok (.iload_n 2, 1) := by decide +kernel
theorem dX0_beside_29 : decode cX0_beside 29 = .ok (.tableswitch 127 0 3 #[31, 57, 79, 107], 31) := by decide +kernel
theorem dX0_beside_60 : decode cX0_beside 60 = .ok (.iload_n 1, 1) := by decide +kernel
theorem dX0_beside_61 : decode cX0_beside 61 = .ok (.aload_n 0, 1) := by decide +kernel
theorem dX0_beside_62 : decode cX0_beside 62 = .ok (.getfield 30, 3) := by decide +kernel
theorem dX0_beside_65 : decode cX0_beside 65 = .ok (.if_icmp .lt 12, 3) := by decide +kernel
theorem dX0_beside_68 : decode cX0_beside 68 = .ok (.iload_n 1, 1) := by decide +kernel
theorem dX0_beside_69 : decode cX0_beside 69 = .ok (.aload_n 0, 1) := by decide +kernel
theorem dX0_beside_70 : decode cX0_beside 70 = .ok (.getfield 30, 3) := by decide +kernel
theorem dX0_beside_73 : decode cX0_beside 73 = .ok (.isub, 1) := by decide +kernel
theorem dX0_beside_74 : decode cX0_beside 74 = .ok (.goto 11, 3) := by decide +kernel
theorem dX0_beside_77 : decode cX0_beside 77 = .ok (.iload_n 1, 1) := by decide +kernel
theorem dX0_beside_78 : decode cX0_beside 78 = .ok (.aload_n 0, 1) := by decide +kernel
theorem dX0_beside_79 : decode cX0_beside 79 = .ok (.getfield 30, 3) := by decide +kernel
theorem dX0_beside_82 : decode cX0_beside 82 = .ok (.isub, 1) := by decide +kernel
theorem dX0_beside_83 : decode cX0_beside 83 = .ok (.iload_n 3, 1) := by decide +kernel
theorem dX0_beside_84 : decode cX0_beside 84 = .ok (.iadd, 1) := by decide +kernel
theorem dX0_beside_85 : decode cX0_beside 85 = .ok (.ireturn, 1) := by decide +kernel
theorem dX0_beside_86 : decode cX0_beside 86 = .ok (.iload 4, 2) := by decide +kernel
theorem dX0_beside_88 : decode cX0_beside 88 = .ok (.aload_n 0, 1) := by decide +kernel
theorem dX0_beside_89 : decode cX0_beside 89 = .ok (.getfield 30, 3) := by decide +kernel
theorem dX0_beside_92 : decode cX0_beside 92 = .ok (.iconst 1, 1) := by decide +kernel
theorem dX0_beside_93 : decode cX0_beside 93 = .ok (.isub, 1) := by decide +kernel
theorem dX0_beside_94 : decode cX0_beside 94 = .ok (.if_icmp .ge 9, 3) := by decide +kernel
theorem dX0_beside_97 : decode cX0_beside 97 = .ok (.iload_n 1, 1) := by decide +kernel
theorem dX0_beside_98 : decode cX0_beside 98 = .ok (.iconst 1, 1) := by decide +kernel
theorem dX0_beside_99 : decode cX0_beside 99 = .ok (.iadd, 1) := by decide +kernel
theorem dX0_beside_100 : decode cX0_beside 100 = .ok (.goto 7, 3) := by decide +kernel
theorem dX0_beside_103 : decode cX0_beside 103 = .ok (.iload_n 1, 1) := by decide +kernel
theorem dX0_beside_104 : decode cX0_beside 104 = .ok (.iload 4, 2) := by decide +kernel
theorem dX0_beside_106 : decode cX0_beside 106 = .ok (.isub, 1) := by decide +kernel
theorem dX0_beside_107 : decode cX0_beside 107 = .ok (.ireturn, 1) := by decide +kernel
theorem dX0_beside_108 : decode cX0_beside 108 = .ok (.iload_n 1, 1) := by decide +kernel
theorem dX0_beside_109 : decode cX0_beside 109 = .ok (.iload_n 3, 1) := by decide +kernel
theorem dX0_beside_110 : decode cX0_beside 110 = .ok (.aload_n 0, 1) := by decide +kernel
theorem dX0_beside_111 : decode cX0_beside 111 = .ok (.getfield 30, 3) := by decide +kernel
theorem dX0_beside_114 : decode cX0_beside 114 = .ok (.isub, 1) := by decide +kernel
theorem dX0_beside_115 : decode cX0_beside 115 = .ok (.if_icmp .ge 12, 3) := by decide +kernel
theorem dX0_beside_118 : decode cX0_beside 118 = .ok (.iload_n 1, 1) := by decide +kernel
theorem dX0_beside_119 : decode cX0_beside 119 = .ok (.aload_n 0, 1) := by decide +kernel
theorem dX0_beside_120 : decode cX0_beside 120 = .ok (.getfield 30, 3) := by decide +kernel
theorem dX0_beside_123 : decode cX0_beside 123 = .ok (.iadd, 1) := by decide +kernel
theorem dX0_beside_124 : decode cX0_beside 124 = .ok (.goto 11, 3) := by decide +kernel
theorem dX0_beside_127 : decode cX0_beside 127 = .ok (.iload_n 1, 1) := by decide +kernel
theorem dX0_beside_128 : decode cX0_beside 128 = .ok (.aload_n 0, 1) := by decide +kernel
theorem dX0_beside_129 : decode cX0_beside 129 = .ok (.getfield 30, 3) := by decide +kernel
theorem dX0_beside_132 : decode cX0_beside 132 = .ok (.iadd, 1) := by decide +kernel
theorem dX0_beside_133 : decode cX0_beside 133 = .ok (.iload_n 3, 1) := by decide +kernel
theorem dX0_beside_134 : decode cX0_beside 134 = .ok (.isub, 1) := by decide +kernel
theorem dX0_beside_135 : decode cX0_beside 135 = .ok (.ireturn, 1) := by decide +kernel
theorem dX0_beside_136 : decode cX0_beside 136 = .ok (.iload 4, 2) := by decide +kernel
theorem dX0_beside_138 : decode cX0_beside 138 = .ok (.ifCond .le 9, 3) := by decide +kernel
theorem dX0_beside_141 : decode cX0_beside 141 = .ok (.iload_n 1, 1) := by decide +kernel
theorem dX0_beside_142 : decode cX0_beside 142 = .ok (.iconst 1, 1) := by decide +kernel
theorem dX0_beside_143 : decode cX0_beside 143 = .ok (.isub, 1) := by decide +kernel
theorem dX0_beside_144 : decode cX0_beside 144 = .ok (.goto 11, 3) := by decide +kernel
theorem dX0_beside_147 : decode cX0_beside 147 = .ok (.iload_n 1, 1) := by decide +kernel
theorem dX0_beside_148 : decode cX0_beside 148 = .ok (.aload_n 0, 1) := by decide +kernel
theorem dX0_beside_149 : decode cX0_beside 149 = .ok (.getfield 30, 3) := by decide +kernel
theorem dX0_beside_152 : decode cX0_beside 152 = .ok (.iadd, 1) := by decide +kernel
theorem dX0_beside_153 : decode cX0_beside 153 = .ok (.iconst 1, 1) := by decide +kernel
theorem dX0_beside_154 : decode cX0_beside 154 = .ok (.isub, 1) := by decide +kernel
theorem dX0_beside_155 : decode cX0_beside 155 = .ok (.ireturn, 1) := by decide +kernel
theorem dX0_beside_156 : decode cX0_beside 156 = .ok (.iload_n 1, 1) := by decide +kernel
theorem dX0_beside_157 : decode cX0_beside 157 = .ok (.ireturn, 1) := by decide +kernel
set_option maxRecDepth 20000 in
theorem kX0_beside_30 : Cond.fieldLink RX0 30 "WindPost$Chart" "wide" "I" ∈ wsX0_beside := by decide +kernel
set_option maxRecDepth 20000 in
theorem kX0_beside_34 : Cond.fieldLink RX0 34 "WindPost$Chart" "high" "I" ∈ wsX0_beside := by decide +kernel
set_option maxRecDepth 20000 in
theorem uX0_beside_X0 : ∀ w ∈ wsX00, w ∈ wsX0_beside := by decide +kernel
set_option maxHeartbeats 8000000 in
set_option maxRecDepth 100000 in
theorem mX0_beside (l : Launch) (D : va_G) (ki : Nat → ClassId) (ad : Nat → Nat) (cs : List Nat) (N : Nat) (t : Nat) (a1 : Int32) (a2 : Int32) (ht : kC cs t) (G : zMem) (tr : Int64) : gMetI l D ki ad cs yX0_beside wsX0_beside { frames := 0, cells := 0, slots := 0, locals := 0 } [.ref (ad t), .int a1, .int a2] (xE ki ad) G tr (fX0_beside N t a1 a2 G tr) := by
  refine gMetI_of (cc := cX0_beside) (maxL := 5) (ret := (some .int)) (own := RX0) (by decide +kernel) rfl rfl (Nat.le_of_ble_eq_true rfl) ?_
  intro r9 G9 tr9 h p e s m below meth c S hr hlk K X ls hl
  have hl : lv_has ls 5 [(0, .ref (ad t)), (1, .int a1), (2, .int a2)] := hl
  unfold fX0_beside at h
  obtain ⟨H, hH⟩ : ∃ H, H = s.heap := ⟨_, rfl⟩
  obtain ⟨locs, hlo⟩ : ∃ locs : List Loc, locs = [] := ⟨_, rfl⟩
  have X : gS D cs ad ((xE ki ad) G tr) (gA cs ad s.heap.size) s H locs := by rw [hH, hlo]; exact X
  suffices z : W p l e (headSpec wsX0_beside { frames := 0, cells := 0, slots := 0, locals := 0 }).room s m ([.ref (ad t), .int a1, .int a2] : List Value).toArray below meth c H locs 0 0 (zQI below ([.ref (ad t), .int a1, .int a2] : List Value).toArray s D cs ad ((xE ki ad) G9 tr9) r9) (F0 m 0 ls []) by rw [hH, hlo] at z; exact z
  clear hH hlo
  refine lv_aload_n S.1 S.2.1 dX0_beside_0 rfl (lv_at hl 0 rfl) ?_
  refine zr_get (v := .int (G t 0)) S K X (ht.2 0 (by decide)) (xE_C ht) rfl uX0_beside_X0 0 (by decide) kX0_beside_30 rfl rfl dX0_beside_1 ?_
  refine lv_iconst (v := (1 : Int32)) S.1 S.2.1 dX0_beside_4 (by decide) ?_
  refine lv_icmp_ge (tgt := 10) S.1 S.2.1 dX0_beside_5 (by decide) (fun hc_1 => ?_) (fun hc_1 => ?_)
  · have h := zif_pos hc_1 h
    refine lv_aload_n S.1 S.2.1 dX0_beside_10 rfl (lv_at hl 0 rfl) ?_
    refine zr_get (v := .int (G t 0)) S K X (ht.2 0 (by decide)) (xE_C ht) rfl uX0_beside_X0 0 (by decide) kX0_beside_30 rfl rfl dX0_beside_11 ?_
    refine lv_aload_n S.1 S.2.1 dX0_beside_14 rfl (lv_at hl 0 rfl) ?_
    refine zr_get (v := .int (G t 1)) S K X (ht.2 0 (by decide)) (xE_C ht) rfl uX0_beside_X0 1 (by decide) kX0_beside_34 rfl rfl dX0_beside_15 ?_
    refine lv_imul S.1 S.2.1 dX0_beside_18 ?_
    refine lv_istore_n (lv' := [(3, .int ((G t 0) * (G t 1))), (0, .ref (ad t)), (1, .int a1), (2, .int a2)]) S.1 S.2.1 dX0_beside_19 rfl hl (by decide) rfl (fun ls hl => ?_)
    refine lv_iload_n S.1 S.2.1 dX0_beside_20 rfl (lv_at hl 2 rfl) ?_
    refine lv_aload_n S.1 S.2.1 dX0_beside_21 rfl (lv_at hl 1 rfl) ?_
    refine zr_get (v := .int (G t 0)) S K X (ht.2 0 (by decide)) (xE_C ht) rfl uX0_beside_X0 0 (by decide) kX0_beside_30 rfl rfl dX0_beside_22 ?_
    obtain ⟨hz_2, h⟩ := zdv_some h
    refine lv_irem S.1 S.2.1 dX0_beside_25 hz_2 ?_
    refine lv_istore (lv' := [(4, .int (a1 - a1 / (G t 0) * (G t 0))), (3, .int ((G t 0) * (G t 1))), (0, .ref (ad t)), (1, .int a1), (2, .int a2)]) S.1 S.2.1 dX0_beside_26 hl (by decide) rfl (fun ls hl => ?_)
    refine lv_iload_n S.1 S.2.1 dX0_beside_28 rfl (lv_at hl 4 rfl) ?_
    by_cases hc_3 : a2 = 0
    · have h := zif_pos hc_3 h
      refine zr_swIn (off := 31) (tgt := 60) S hc_3 dX0_beside_29 (by decide) ?_
      refine lv_iload_n S.1 S.2.1 dX0_beside_60 rfl (lv_at hl 3 rfl) ?_
      refine lv_aload_n S.1 S.2.1 dX0_beside_61 rfl (lv_at hl 2 rfl) ?_
      refine zr_get (v := .int (G t 0)) S K X (ht.2 0 (by decide)) (xE_C ht) rfl uX0_beside_X0 0 (by decide) kX0_beside_30 rfl rfl dX0_beside_62 ?_
      refine lv_icmp_lt (tgt := 77) S.1 S.2.1 dX0_beside_65 (by decide) (fun hc_4 => ?_) (fun hc_4 => ?_)
      · have h := zif_pos hc_4 h
        refine lv_iload_n S.1 S.2.1 dX0_beside_77 rfl (lv_at hl 3 rfl) ?_
        refine lv_aload_n S.1 S.2.1 dX0_beside_78 rfl (lv_at hl 2 rfl) ?_
        refine zr_get (v := .int (G t 0)) S K X (ht.2 0 (by decide)) (xE_C ht) rfl uX0_beside_X0 0 (by decide) kX0_beside_30 rfl rfl dX0_beside_79 ?_
        refine lv_isub S.1 S.2.1 dX0_beside_82 ?_
        refine lv_iload_n S.1 S.2.1 dX0_beside_83 rfl (lv_at hl 1 rfl) ?_
        refine lv_iadd S.1 S.2.1 dX0_beside_84 ?_
        exact zr_iret S hr hlk X h dX0_beside_85
      · have h := zif_neg hc_4 h
        refine lv_iload_n S.1 S.2.1 dX0_beside_68 rfl (lv_at hl 3 rfl) ?_
        refine lv_aload_n S.1 S.2.1 dX0_beside_69 rfl (lv_at hl 2 rfl) ?_
        refine zr_get (v := .int (G t 0)) S K X (ht.2 0 (by decide)) (xE_C ht) rfl uX0_beside_X0 0 (by decide) kX0_beside_30 rfl rfl dX0_beside_70 ?_
        refine lv_isub S.1 S.2.1 dX0_beside_73 ?_
        refine lv_goto (tgt := 85) S.1 S.2.1 dX0_beside_74 (by decide) ?_
        exact zr_iret S hr hlk X h dX0_beside_85
    have h := zif_neg hc_3 h
    by_cases hc_5 : a2 = 1
    · have h := zif_pos hc_5 h
      refine zr_swIn (off := 57) (tgt := 86) S hc_5 dX0_beside_29 (by decide) ?_
      refine lv_iload S.1 S.2.1 dX0_beside_86 (lv_at hl 0 rfl) ?_
      refine lv_aload_n S.1 S.2.1 dX0_beside_88 rfl (lv_at hl 2 rfl) ?_
      refine zr_get (v := .int (G t 0)) S K X (ht.2 0 (by decide)) (xE_C ht) rfl uX0_beside_X0 0 (by decide) kX0_beside_30 rfl rfl dX0_beside_89 ?_
      refine lv_iconst (v := (1 : Int32)) S.1 S.2.1 dX0_beside_92 (by decide) ?_
      refine lv_isub S.1 S.2.1 dX0_beside_93 ?_
      refine lv_icmp_ge (tgt := 103) S.1 S.2.1 dX0_beside_94 (by decide) (fun hc_6 => ?_) (fun hc_6 => ?_)
      · have h := zif_pos hc_6 h
        refine lv_iload_n S.1 S.2.1 dX0_beside_103 rfl (lv_at hl 3 rfl) ?_
        refine lv_iload S.1 S.2.1 dX0_beside_104 (lv_at hl 0 rfl) ?_
        refine lv_isub S.1 S.2.1 dX0_beside_106 ?_
        exact zr_iret S hr hlk X h dX0_beside_107
      · have h := zif_neg hc_6 h
        refine lv_iload_n S.1 S.2.1 dX0_beside_97 rfl (lv_at hl 3 rfl) ?_
        refine lv_iconst (v := (1 : Int32)) S.1 S.2.1 dX0_beside_98 (by decide) ?_
        refine lv_iadd S.1 S.2.1 dX0_beside_99 ?_
        refine lv_goto (tgt := 107) S.1 S.2.1 dX0_beside_100 (by decide) ?_
        exact zr_iret S hr hlk X h dX0_beside_107
    have h := zif_neg hc_5 h
    by_cases hc_7 : a2 = 2
    · have h := zif_pos hc_7 h
      refine zr_swIn (off := 79) (tgt := 108) S hc_7 dX0_beside_29 (by decide) ?_
      refine lv_iload_n S.1 S.2.1 dX0_beside_108 rfl (lv_at hl 3 rfl) ?_
      refine lv_iload_n S.1 S.2.1 dX0_beside_109 rfl (lv_at hl 1 rfl) ?_
      refine lv_aload_n S.1 S.2.1 dX0_beside_110 rfl (lv_at hl 2 rfl) ?_
      refine zr_get (v := .int (G t 0)) S K X (ht.2 0 (by decide)) (xE_C ht) rfl uX0_beside_X0 0 (by decide) kX0_beside_30 rfl rfl dX0_beside_111 ?_
      refine lv_isub S.1 S.2.1 dX0_beside_114 ?_
      refine lv_icmp_ge (tgt := 127) S.1 S.2.1 dX0_beside_115 (by decide) (fun hc_8 => ?_) (fun hc_8 => ?_)
      · have h := zif_pos hc_8 h
        refine lv_iload_n S.1 S.2.1 dX0_beside_127 rfl (lv_at hl 3 rfl) ?_
        refine lv_aload_n S.1 S.2.1 dX0_beside_128 rfl (lv_at hl 2 rfl) ?_
        refine zr_get (v := .int (G t 0)) S K X (ht.2 0 (by decide)) (xE_C ht) rfl uX0_beside_X0 0 (by decide) kX0_beside_30 rfl rfl dX0_beside_129 ?_
        refine lv_iadd S.1 S.2.1 dX0_beside_132 ?_
        refine lv_iload_n S.1 S.2.1 dX0_beside_133 rfl (lv_at hl 1 rfl) ?_
        refine lv_isub S.1 S.2.1 dX0_beside_134 ?_
        exact zr_iret S hr hlk X h dX0_beside_135
      · have h := zif_neg hc_8 h
        refine lv_iload_n S.1 S.2.1 dX0_beside_118 rfl (lv_at hl 3 rfl) ?_
        refine lv_aload_n S.1 S.2.1 dX0_beside_119 rfl (lv_at hl 2 rfl) ?_
        refine zr_get (v := .int (G t 0)) S K X (ht.2 0 (by decide)) (xE_C ht) rfl uX0_beside_X0 0 (by decide) kX0_beside_30 rfl rfl dX0_beside_120 ?_
        refine lv_iadd S.1 S.2.1 dX0_beside_123 ?_
        refine lv_goto (tgt := 135) S.1 S.2.1 dX0_beside_124 (by decide) ?_
        exact zr_iret S hr hlk X h dX0_beside_135
    have h := zif_neg hc_7 h
    by_cases hc_9 : a2 = 3
    · have h := zif_pos hc_9 h
      refine zr_swIn (off := 107) (tgt := 136) S hc_9 dX0_beside_29 (by decide) ?_
      refine lv_iload S.1 S.2.1 dX0_beside_136 (lv_at hl 0 rfl) ?_
      refine lv_if_le (tgt := 147) S.1 S.2.1 dX0_beside_138 (by decide) (fun hc_10 => ?_) (fun hc_10 => ?_)
      · have h := zif_pos hc_10 h
        refine lv_iload_n S.1 S.2.1 dX0_beside_147 rfl (lv_at hl 3 rfl) ?_
        refine lv_aload_n S.1 S.2.1 dX0_beside_148 rfl (lv_at hl 2 rfl) ?_
        refine zr_get (v := .int (G t 0)) S K X (ht.2 0 (by decide)) (xE_C ht) rfl uX0_beside_X0 0 (by decide) kX0_beside_30 rfl rfl dX0_beside_149 ?_
        refine lv_iadd S.1 S.2.1 dX0_beside_152 ?_
        refine lv_iconst (v := (1 : Int32)) S.1 S.2.1 dX0_beside_153 (by decide) ?_
        refine lv_isub S.1 S.2.1 dX0_beside_154 ?_
        exact zr_iret S hr hlk X h dX0_beside_155
      · have h := zif_neg hc_10 h
        refine lv_iload_n S.1 S.2.1 dX0_beside_141 rfl (lv_at hl 3 rfl) ?_
        refine lv_iconst (v := (1 : Int32)) S.1 S.2.1 dX0_beside_142 (by decide) ?_
        refine lv_isub S.1 S.2.1 dX0_beside_143 ?_
        refine lv_goto (tgt := 155) S.1 S.2.1 dX0_beside_144 (by decide) ?_
        exact zr_iret S hr hlk X h dX0_beside_155
    have h := zif_neg hc_9 h
    refine lv_tableOut (tgt := 156) S.1 S.2.1 dX0_beside_29 (by
        have e0 := ztoInt_ne hc_3
        rw [show ((0 : Int32)).toInt = 0 from rfl] at e0
        have e1 := ztoInt_ne hc_5
        rw [show ((1 : Int32)).toInt = 1 from rfl] at e1
        have e2 := ztoInt_ne hc_7
        rw [show ((2 : Int32)).toInt = 2 from rfl] at e2
        have e3 := ztoInt_ne hc_9
        rw [show ((3 : Int32)).toInt = 3 from rfl] at e3
        omega) (by decide) ?_
    refine lv_iload_n S.1 S.2.1 dX0_beside_156 rfl (lv_at hl 3 rfl) ?_
    exact zr_iret S hr hlk X h dX0_beside_157
  · have h := zif_neg hc_1 h
    refine lv_iload_n S.1 S.2.1 dX0_beside_8 rfl (lv_at hl 1 rfl) ?_
    exact zr_iret S hr hlk X h dX0_beside_9
set_option maxRecDepth 20000 in
theorem ggX0_drawWay_X0_beside : GoodIn wsX0_drawWay wsX0_beside := goodIn_r _ [6, 7, 8, 14, 15, 16, 17, 18, 19, 20, 21, 22, 23] (by decide +kernel) (by decide +kernel)
set_option maxRecDepth 20000 in
theorem gX0_drawWay_X0_beside : GoodIn wsX0_drawWay (wsV RX0 63 RX0 yX0_beside wsX0_beside) := goodIn_app (goodIn_of _ (by decide +kernel)) ggX0_drawWay_X0_beside
set_option maxRecDepth 20000 in
theorem ggX0_drawWay_X0_onCell : GoodIn wsX0_drawWay wsX0_onCell := goodIn_r _ [12, 13, 14, 15, 16, 17, 18, 19, 20, 21, 22, 23] (by decide +kernel) (by decide +kernel)
set_option maxRecDepth 20000 in
theorem gX0_drawWay_X0_onCell : GoodIn wsX0_drawWay (wsV RX0 66 RX0 yX0_onCell wsX0_onCell) := goodIn_app (goodIn_of _ (by decide +kernel)) ggX0_drawWay_X0_onCell
theorem dX0_drawWay_0 : decode cX0_drawWay 0 = .ok (.iload_n 2, 1) := by decide +kernel
theorem dX0_drawWay_1 : decode cX0_drawWay 1 = .ok (.istore_n 3, 1) := by decide +kernel
theorem dX0_drawWay_2 : decode cX0_drawWay 2 = .ok (.iconst (-1), 1) := by decide +kernel
theorem dX0_drawWay_3 : decode cX0_drawWay 3 = .ok (.istore 4, 2) := by decide +kernel
theorem dX0_drawWay_5 : decode cX0_drawWay 5 = .ok (.iconst 1, 1) := by decide +kernel
theorem dX0_drawWay_6 : decode cX0_drawWay 6 = .ok (.istore 5, 2) := by decide +kernel
theorem dX0_drawWay_8 : decode cX0_drawWay 8 = .ok (.iload 5, 2) := by decide +kernel
theorem dX0_drawWay_10 : decode cX0_drawWay 10 = .ok (.iconst 5, 1) := by decide +kernel
theorem dX0_drawWay_11 : decode cX0_drawWay 11 = .ok (.if_icmp .gt 55, 3) := by decide +kernel
theorem dX0_drawWay_14 : decode cX0_drawWay 14 = .ok (.aload_n 0, 1) := by decide +kernel
theorem dX0_drawWay_15 : decode cX0_drawWay 15 = .ok (.iload_n 3, 1) := by decide +kernel
theorem dX0_drawWay_16 : decode cX0_drawWay 16 = .ok (.iload_n 1, 1) := by decide +kernel
theorem dX0_drawWay_17 : decode cX0_drawWay 17 = .ok (.invokevirtual 63, 3) := by decide +kernel
theorem dX0_drawWay_20 : decode cX0_drawWay 20 = .ok (.istore 6, 2) := by decide +kernel
theorem dX0_drawWay_22 : decode cX0_drawWay 22 = .ok (.aload_n 0, 1) := by decide +kernel
theorem dX0_drawWay_23 : decode cX0_drawWay 23 = .ok (.iload 6, 2) := by decide +kernel
theorem dX0_drawWay_25 : decode cX0_drawWay 25 = .ok (.invokevirtual 66, 3) := by decide +kernel
theorem dX0_drawWay_28 : decode cX0_drawWay 28 = .ok (.bipush (-5), 2) := by decide +kernel
theorem dX0_drawWay_30 : decode cX0_drawWay 30 = .ok (.if_icmp .eq 10, 3) := by decide +kernel
theorem dX0_drawWay_33 : decode cX0_drawWay 33 = .ok (.iload 6, 2) := by decide +kernel
theorem dX0_drawWay_35 : decode cX0_drawWay 35 = .ok (.istore_n 3, 1) := by decide +kernel
theorem dX0_drawWay_36 : decode cX0_drawWay 36 = .ok (.iload 6, 2) := by decide +kernel
theorem dX0_drawWay_38 : decode cX0_drawWay 38 = .ok (.istore 4, 2) := by decide +kernel
theorem dX0_drawWay_40 : decode cX0_drawWay 40 = .ok (.aload_n 0, 1) := by decide +kernel
theorem dX0_drawWay_41 : decode cX0_drawWay 41 = .ok (.getfield 21, 3) := by decide +kernel
theorem dX0_drawWay_44 : decode cX0_drawWay 44 = .ok (.iload 5, 2) := by decide +kernel
theorem dX0_drawWay_46 : decode cX0_drawWay 46 = .ok (.iconst 1, 1) := by decide +kernel
theorem dX0_drawWay_47 : decode cX0_drawWay 47 = .ok (.isub, 1) := by decide +kernel
theorem dX0_drawWay_48 : decode cX0_drawWay 48 = .ok (.iconst 4, 1) := by decide +kernel
theorem dX0_drawWay_49 : decode cX0_drawWay 49 = .ok (.imul, 1) := by decide +kernel
theorem dX0_drawWay_50 : decode cX0_drawWay 50 = .ok (.iload_n 1, 1) := by decide +kernel
theorem dX0_drawWay_51 : decode cX0_drawWay 51 = .ok (.iadd, 1) := by decide +kernel
theorem dX0_drawWay_52 : decode cX0_drawWay 52 = .ok (.bipush 30, 2) := by decide +kernel
theorem dX0_drawWay_54 : decode cX0_drawWay 54 = .ok (.imul, 1) := by decide +kernel
theorem dX0_drawWay_55 : decode cX0_drawWay 55 = .ok (.iload_n 2, 1) := by decide +kernel
theorem dX0_drawWay_56 : decode cX0_drawWay 56 = .ok (.iadd, 1) := by decide +kernel
theorem dX0_drawWay_57 : decode cX0_drawWay 57 = .ok (.iload 4, 2) := by decide +kernel
theorem dX0_drawWay_59 : decode cX0_drawWay 59 = .ok (.iastore, 1) := by decide +kernel
theorem dX0_drawWay_60 : decode cX0_drawWay 60 = .ok (.iinc 5 1, 3) := by decide +kernel
theorem dX0_drawWay_63 : decode cX0_drawWay 63 = .ok (.goto (-55), 3) := by decide +kernel
theorem dX0_drawWay_66 : decode cX0_drawWay 66 = .ok (.return_, 1) := by decide +kernel
set_option maxRecDepth 20000 in
theorem kX0_drawWay_21 : Cond.fieldLink RX0 21 "WindPost$Chart" "ends" "[I" ∈ wsX0_drawWay := by decide +kernel
set_option maxRecDepth 20000 in
theorem uX0_drawWay_X0 : ∀ w ∈ wsX00, w ∈ wsX0_drawWay := by decide +kernel
set_option maxHeartbeats 8000000 in
set_option maxRecDepth 100000 in
theorem mX0_drawWay (l : Launch) (D : va_G) (ki : Nat → ClassId) (ad : Nat → Nat) (cs : List Nat) (N : Nat) (t : Nat) (a1 : Int32) (a2 : Int32) (ht : kC cs t) (G : zMem) (tr : Int64) : gMetV l D ki ad cs yX0_drawWay wsX0_drawWay { frames := 1, cells := 0, slots := 0, locals := 24 } [.ref (ad t), .int a1, .int a2] (xE ki ad) G tr (fX0_drawWay N t a1 a2 G tr) := by
  refine gMetV_of (cc := cX0_drawWay) (maxL := 7) (ret := none) (own := RX0) (by decide +kernel) rfl rfl (Nat.le_of_ble_eq_true rfl) ?_
  intro r9 G9 tr9 h p e s m below meth c S hr hlk K X ls hl
  have hl : lv_has ls 7 [(0, .ref (ad t)), (1, .int a1), (2, .int a2)] := hl
  have b40 : ∀ (k8 : Int32 → Int32 → Int32 → zMem → Int64 → zR) (hk8 : ∀ (x3 : Int32) (x4 : Int32) (x5 : Int32) (G : zMem) (tr : Int64), k8 x3 x4 x5 G tr = some (r9, G9, tr9) → zAt p l e (headSpec wsX0_drawWay { frames := 1, cells := 0, slots := 0, locals := 24 }).room s m ([.ref (ad t), .int a1, .int a2] : List Value).toArray below meth c 7 D cs ad (zQV below ([.ref (ad t), .int a1, .int a2] : List Value).toArray s D cs ad ((xE ki ad) G9 tr9)) 8 [(0, .ref (ad t)), (1, .int a1), (2, .int a2), (3, .int x3), (4, .int x4), (5, .int x5)] [] ((xE ki ad) G tr)) (x3 : Int32) (x4 : Int32) (x5 : Int32) (G : zMem) (tr : Int64), fX0_drawWay_b40 N t a1 a2 k8 x3 x4 x5 G tr = some (r9, G9, tr9) → zAt p l e (headSpec wsX0_drawWay { frames := 1, cells := 0, slots := 0, locals := 24 }).room s m ([.ref (ad t), .int a1, .int a2] : List Value).toArray below meth c 7 D cs ad (zQV below ([.ref (ad t), .int a1, .int a2] : List Value).toArray s D cs ad ((xE ki ad) G9 tr9)) 40 [(0, .ref (ad t)), (1, .int a1), (2, .int a2), (3, .int x3), (4, .int x4), (5, .int x5)] [] ((xE ki ad) G tr) := by
    intro k8 hk8 x3 x4 x5 G tr h H locs ls X hl
    unfold fX0_drawWay_b40 at h
    refine lv_aload_n S.1 S.2.1 dX0_drawWay_40 rfl (lv_at hl 0 rfl) ?_
    refine zr_get (v := .ref (ad (t + 4))) S K X (ht.2 0 (by decide)) (xE_C ht) rfl uX0_drawWay_X0 9 (by decide) kX0_drawWay_21 rfl rfl dX0_drawWay_41 ?_
    refine lv_iload S.1 S.2.1 dX0_drawWay_44 (lv_at hl 5 rfl) ?_
    refine lv_iconst (v := (1 : Int32)) S.1 S.2.1 dX0_drawWay_46 (by decide) ?_
    refine lv_isub S.1 S.2.1 dX0_drawWay_47 ?_
    refine lv_iconst (v := (4 : Int32)) S.1 S.2.1 dX0_drawWay_48 (by decide) ?_
    refine lv_imul S.1 S.2.1 dX0_drawWay_49 ?_
    refine lv_iload_n S.1 S.2.1 dX0_drawWay_50 rfl (lv_at hl 1 rfl) ?_
    refine lv_iadd S.1 S.2.1 dX0_drawWay_51 ?_
    refine lv_bipush (v := (30 : Int32)) S.1 S.2.1 dX0_drawWay_52 (by decide) ?_
    refine lv_imul S.1 S.2.1 dX0_drawWay_54 ?_
    refine lv_iload_n S.1 S.2.1 dX0_drawWay_55 rfl (lv_at hl 2 rfl) ?_
    refine lv_iadd S.1 S.2.1 dX0_drawWay_56 ?_
    refine lv_iload S.1 S.2.1 dX0_drawWay_57 (lv_at hl 4 rfl) ?_
    obtain ⟨hi_1, h⟩ := zin_some h
    refine zr_iast S K X (ht.2 4 (by decide)) xE_loc (fun _ => (xE_C4 ht)) hi_1 dX0_drawWay_59 (fun H locs X => ?_)
    refine lv_iinc (v := (x5 + 1)) (lv' := [(5, .int (x5 + 1)), (0, .ref (ad t)), (1, .int a1), (2, .int a2), (3, .int x3), (4, .int x4)]) S.1 S.2.1 dX0_drawWay_60 hl (k := 5) rfl rfl (by decide) rfl (fun ls hl => ?_)
    refine lv_goto (tgt := 8) S.1 S.2.1 dX0_drawWay_63 (by decide) ?_
    exact hk8 x3 x4 (x5 + 1) (up2 G (t + 4) (Int32.toNatClampNeg (((((x5 - (1 : Int32)) * (4 : Int32)) + a1) * (30 : Int32)) + a2)) x4) tr h _ _ _ X (lv_sub hl [1, 2, 3, 4, 5, 0] rfl)
  have b8 : ∀ (k8 : Int32 → Int32 → Int32 → zMem → Int64 → zR) (hk8 : ∀ (x3 : Int32) (x4 : Int32) (x5 : Int32) (G : zMem) (tr : Int64), k8 x3 x4 x5 G tr = some (r9, G9, tr9) → zAt p l e (headSpec wsX0_drawWay { frames := 1, cells := 0, slots := 0, locals := 24 }).room s m ([.ref (ad t), .int a1, .int a2] : List Value).toArray below meth c 7 D cs ad (zQV below ([.ref (ad t), .int a1, .int a2] : List Value).toArray s D cs ad ((xE ki ad) G9 tr9)) 8 [(0, .ref (ad t)), (1, .int a1), (2, .int a2), (3, .int x3), (4, .int x4), (5, .int x5)] [] ((xE ki ad) G tr)) (x3 : Int32) (x4 : Int32) (x5 : Int32) (G : zMem) (tr : Int64), fX0_drawWay_b8 N t a1 a2 k8 x3 x4 x5 G tr = some (r9, G9, tr9) → zAt p l e (headSpec wsX0_drawWay { frames := 1, cells := 0, slots := 0, locals := 24 }).room s m ([.ref (ad t), .int a1, .int a2] : List Value).toArray below meth c 7 D cs ad (zQV below ([.ref (ad t), .int a1, .int a2] : List Value).toArray s D cs ad ((xE ki ad) G9 tr9)) 8 [(0, .ref (ad t)), (1, .int a1), (2, .int a2), (3, .int x3), (4, .int x4), (5, .int x5)] [] ((xE ki ad) G tr) := by
    intro k8 hk8 x3 x4 x5 G tr h H locs ls X hl
    unfold fX0_drawWay_b8 at h
    refine lv_iload S.1 S.2.1 dX0_drawWay_8 (lv_at hl 5 rfl) ?_
    refine lv_iconst (v := (5 : Int32)) S.1 S.2.1 dX0_drawWay_10 (by decide) ?_
    refine lv_icmp_gt (tgt := 66) S.1 S.2.1 dX0_drawWay_11 (by decide) (fun hc_1 => ?_) (fun hc_1 => ?_)
    · have h := zif_pos hc_1 h
      exact zr_vret S hr hlk X h dX0_drawWay_66
    · have h := zif_neg hc_1 h
      refine lv_aload_n S.1 S.2.1 dX0_drawWay_14 rfl (lv_at hl 0 rfl) ?_
      refine lv_iload_n S.1 S.2.1 dX0_drawWay_15 rfl (lv_at hl 3 rfl) ?_
      refine lv_iload_n S.1 S.2.1 dX0_drawWay_16 rfl (lv_at hl 1 rfl) ?_
      obtain ⟨r_3, G_4, tr_5, hf_2, h⟩ := zbd_some h
      refine zr_calli (Eg := (xE ki ad)) K X (va_runV (As := [.int x3, .int a1]) (rest := []) S (mX0_beside l D ki ad cs  N t x3 a1 ht G tr H.size _ _ _ hf_2) (cwV 2 S.2.2.2.2 gX0_drawWay_X0_beside rfl rfl rfl (by decide +kernel) ⟨Nat.le_of_ble_eq_true rfl, Nat.le_of_ble_eq_true rfl⟩) (zr_preV (c0 := t) K X (ht.2 0 (by decide)) (xE_C ht) rfl) rfl rfl hl.1 rfl (lv_room (Nat.le_of_ble_eq_true rfl)) dX0_drawWay_17 ⟨Nat.zero_le _, Nat.zero_le _⟩) (fun H locs X => ?_)
      refine lv_istore (lv' := [(6, .int r_3), (0, .ref (ad t)), (1, .int a1), (2, .int a2), (3, .int x3), (4, .int x4), (5, .int x5)]) S.1 S.2.1 dX0_drawWay_20 hl (by decide) rfl (fun ls hl => ?_)
      refine lv_aload_n S.1 S.2.1 dX0_drawWay_22 rfl (lv_at hl 1 rfl) ?_
      refine lv_iload S.1 S.2.1 dX0_drawWay_23 (lv_at hl 0 rfl) ?_
      obtain ⟨r_7, G_8, tr_9, hf_6, h⟩ := zbd_some h
      refine zr_calli (Eg := (xE ki ad)) K X (va_runV (As := [.int r_3]) (rest := []) S (mX0_onCell l D ki ad cs  N t r_3 ht G_4 tr_5 H.size _ _ _ hf_6) (cwV 1 S.2.2.2.2 gX0_drawWay_X0_onCell rfl rfl rfl (by decide +kernel) ⟨Nat.le_of_ble_eq_true rfl, Nat.le_of_ble_eq_true rfl⟩) (zr_preV (c0 := t) K X (ht.2 0 (by decide)) (xE_C ht) rfl) rfl rfl hl.1 rfl (lv_room (Nat.le_of_ble_eq_true rfl)) dX0_drawWay_25 ⟨Nat.zero_le _, Nat.zero_le _⟩) (fun H locs X => ?_)
      refine lv_bipush (v := (-5 : Int32)) S.1 S.2.1 dX0_drawWay_28 (by decide) ?_
      refine lv_icmp_eq (tgt := 40) S.1 S.2.1 dX0_drawWay_30 (by decide) (fun hc_10 => ?_) (fun hc_10 => ?_)
      · have h := zif_pos hc_10 h
        exact b40 k8 hk8 x3 x4 x5 G_8 tr_9 h _ _ _ X (lv_sub hl [1, 2, 3, 4, 5, 6] rfl)
      · have h := zif_neg hc_10 h
        refine lv_iload S.1 S.2.1 dX0_drawWay_33 (lv_at hl 0 rfl) ?_
        refine lv_istore_n (lv' := [(3, .int r_3), (6, .int r_3), (0, .ref (ad t)), (1, .int a1), (2, .int a2), (4, .int x4), (5, .int x5)]) S.1 S.2.1 dX0_drawWay_35 rfl hl (by decide) rfl (fun ls hl => ?_)
        refine lv_iload S.1 S.2.1 dX0_drawWay_36 (lv_at hl 1 rfl) ?_
        refine lv_istore (lv' := [(4, .int r_3), (3, .int r_3), (6, .int r_3), (0, .ref (ad t)), (1, .int a1), (2, .int a2), (5, .int x5)]) S.1 S.2.1 dX0_drawWay_38 hl (by decide) rfl (fun ls hl => ?_)
        exact b40 k8 hk8 r_3 r_3 x5 G_8 tr_9 h _ _ _ X (lv_sub hl [3, 4, 5, 1, 0, 6] rfl)
  have L8 : ∀ (n : Nat) (x3 : Int32) (x4 : Int32) (x5 : Int32) (G : zMem) (tr : Int64), fX0_drawWay_L8 N t a1 a2 n x3 x4 x5 G tr = some (r9, G9, tr9) → zAt p l e (headSpec wsX0_drawWay { frames := 1, cells := 0, slots := 0, locals := 24 }).room s m ([.ref (ad t), .int a1, .int a2] : List Value).toArray below meth c 7 D cs ad (zQV below ([.ref (ad t), .int a1, .int a2] : List Value).toArray s D cs ad ((xE ki ad) G9 tr9)) 8 [(0, .ref (ad t)), (1, .int a1), (2, .int a2), (3, .int x3), (4, .int x4), (5, .int x5)] [] ((xE ki ad) G tr) := by
    intro n
    induction n with
    | zero => intro x3 x4 x5 G tr h; cases h
    | succ n ih => intro x3 x4 x5 G tr h; exact b8 (fX0_drawWay_L8 N t a1 a2 n) ih x3 x4 x5 G tr h
  unfold fX0_drawWay at h
  obtain ⟨H, hH⟩ : ∃ H, H = s.heap := ⟨_, rfl⟩
  obtain ⟨locs, hlo⟩ : ∃ locs : List Loc, locs = [] := ⟨_, rfl⟩
  have X : gS D cs ad ((xE ki ad) G tr) (gA cs ad s.heap.size) s H locs := by rw [hH, hlo]; exact X
  suffices z : W p l e (headSpec wsX0_drawWay { frames := 1, cells := 0, slots := 0, locals := 24 }).room s m ([.ref (ad t), .int a1, .int a2] : List Value).toArray below meth c H locs 0 0 (zQV below ([.ref (ad t), .int a1, .int a2] : List Value).toArray s D cs ad ((xE ki ad) G9 tr9)) (F0 m 0 ls []) by rw [hH, hlo] at z; exact z
  clear hH hlo
  refine lv_iload_n S.1 S.2.1 dX0_drawWay_0 rfl (lv_at hl 2 rfl) ?_
  refine lv_istore_n (lv' := [(3, .int a2), (0, .ref (ad t)), (1, .int a1), (2, .int a2)]) S.1 S.2.1 dX0_drawWay_1 rfl hl (by decide) rfl (fun ls hl => ?_)
  refine lv_iconst (v := (-1 : Int32)) S.1 S.2.1 dX0_drawWay_2 (by decide) ?_
  refine lv_istore (lv' := [(4, .int (-1 : Int32)), (3, .int a2), (0, .ref (ad t)), (1, .int a1), (2, .int a2)]) S.1 S.2.1 dX0_drawWay_3 hl (by decide) rfl (fun ls hl => ?_)
  refine lv_iconst (v := (1 : Int32)) S.1 S.2.1 dX0_drawWay_5 (by decide) ?_
  refine lv_istore (lv' := [(5, .int (1 : Int32)), (4, .int (-1 : Int32)), (3, .int a2), (0, .ref (ad t)), (1, .int a1), (2, .int a2)]) S.1 S.2.1 dX0_drawWay_6 hl (by decide) rfl (fun ls hl => ?_)
  exact L8 N a2 (-1 : Int32) (1 : Int32) G tr h _ _ _ X (lv_sub hl [3, 4, 5, 2, 1, 0] rfl)
set_option maxRecDepth 20000 in
theorem ggX0_drawEnds_X0_cells : GoodIn wsX0_drawEnds wsX0_cells := goodIn_r _ [5, 6, 7, 8, 9, 10, 11, 26, 27, 28, 29, 30, 31, 32, 33, 34, 35] (by decide +kernel) (by decide +kernel)
set_option maxRecDepth 20000 in
theorem gX0_drawEnds_X0_cells : GoodIn wsX0_drawEnds (wsV RX0 55 RX0 yX0_cells wsX0_cells) := goodIn_app (goodIn_of _ (by decide +kernel)) ggX0_drawEnds_X0_cells
set_option maxRecDepth 20000 in
theorem ggX0_drawEnds_X0_drawWay : GoodIn wsX0_drawEnds wsX0_drawWay := goodIn_r _ [15, 16, 17, 18, 19, 4, 20, 6, 7, 21, 22, 23, 24, 25, 26, 27, 28, 29, 30, 31, 32, 33, 34, 35] (by decide +kernel) (by decide +kernel)
set_option maxRecDepth 20000 in
theorem gX0_drawEnds_X0_drawWay : GoodIn wsX0_drawEnds (wsV RX0 59 RX0 yX0_drawWay wsX0_drawWay) := goodIn_app (goodIn_of _ (by decide +kernel)) ggX0_drawEnds_X0_drawWay
theorem dX0_drawEnds_0 : decode cX0_drawEnds 0 = .ok (.iconst 0, 1) := by decide +kernel
theorem dX0_drawEnds_1 : decode cX0_drawEnds 1 = .ok (.istore_n 1, 1) := by decide +kernel
theorem dX0_drawEnds_2 : decode cX0_drawEnds 2 = .ok (.iload_n 1, 1) := by decide +kernel
theorem dX0_drawEnds_3 : decode cX0_drawEnds 3 = .ok (.iconst 4, 1) := by decide +kernel
theorem dX0_drawEnds_4 : decode cX0_drawEnds 4 = .ok (.if_icmp .ge 31, 3) := by decide +kernel
theorem dX0_drawEnds_7 : decode cX0_drawEnds 7 = .ok (.iconst 0, 1) := by decide +kernel
theorem dX0_drawEnds_8 : decode cX0_drawEnds 8 = .ok (.istore_n 2, 1) := by decide +kernel
theorem dX0_drawEnds_9 : decode cX0_drawEnds 9 = .ok (.iload_n 2, 1) := by decide +kernel
theorem dX0_drawEnds_10 : decode cX0_drawEnds 10 = .ok (.aload_n 0, 1) := by decide +kernel
theorem dX0_drawEnds_11 : decode cX0_drawEnds 11 = .ok (.invokevirtual 55, 3) := by decide +kernel
theorem dX0_drawEnds_14 : decode cX0_drawEnds 14 = .ok (.if_icmp .ge 15, 3) := by decide +kernel
theorem dX0_drawEnds_17 : decode cX0_drawEnds 17 = .ok (.aload_n 0, 1) := by decide +kernel
theorem dX0_drawEnds_18 : decode cX0_drawEnds 18 = .ok (.iload_n 1, 1) := by decide +kernel
theorem dX0_drawEnds_19 : decode cX0_drawEnds 19 = .ok (.iload_n 2, 1) := by decide +kernel
theorem dX0_drawEnds_20 : decode cX0_drawEnds 20 = .ok (.invokevirtual 59, 3) := by decide +kernel
theorem dX0_drawEnds_23 : decode cX0_drawEnds 23 = .ok (.iinc 2 1, 3) := by decide +kernel
theorem dX0_drawEnds_26 : decode cX0_drawEnds 26 = .ok (.goto (-17), 3) := by decide +kernel
theorem dX0_drawEnds_29 : decode cX0_drawEnds 29 = .ok (.iinc 1 1, 3) := by decide +kernel
theorem dX0_drawEnds_32 : decode cX0_drawEnds 32 = .ok (.goto (-30), 3) := by decide +kernel
theorem dX0_drawEnds_35 : decode cX0_drawEnds 35 = .ok (.return_, 1) := by decide +kernel

set_option maxHeartbeats 8000000 in
set_option maxRecDepth 100000 in
theorem mX0_drawEnds (l : Launch) (D : va_G) (ki : Nat → ClassId) (ad : Nat → Nat) (cs : List Nat) (N : Nat) (t : Nat) (ht : kC cs t) (G : zMem) (tr : Int64) : gMetV l D ki ad cs yX0_drawEnds wsX0_drawEnds { frames := 2, cells := 0, slots := 0, locals := 50 } [.ref (ad t)] (xE ki ad) G tr (fX0_drawEnds N t G tr) := by
  refine gMetV_of (cc := cX0_drawEnds) (maxL := 3) (ret := none) (own := RX0) (by decide +kernel) rfl rfl (Nat.le_of_ble_eq_true rfl) ?_
  intro r9 G9 tr9 h p e s m below meth c S hr hlk K X ls hl
  have hl : lv_has ls 3 [(0, .ref (ad t))] := hl
  have b9 : ∀ (k2 : Int32 → zMem → Int64 → zR) (hk2 : ∀ (x1 : Int32) (G : zMem) (tr : Int64), k2 x1 G tr = some (r9, G9, tr9) → zAt p l e (headSpec wsX0_drawEnds { frames := 2, cells := 0, slots := 0, locals := 50 }).room s m ([.ref (ad t)] : List Value).toArray below meth c 3 D cs ad (zQV below ([.ref (ad t)] : List Value).toArray s D cs ad ((xE ki ad) G9 tr9)) 2 [(0, .ref (ad t)), (1, .int x1)] [] ((xE ki ad) G tr)) (k9 : Int32 → Int32 → zMem → Int64 → zR) (hk9 : ∀ (x1 : Int32) (x2 : Int32) (G : zMem) (tr : Int64), k9 x1 x2 G tr = some (r9, G9, tr9) → zAt p l e (headSpec wsX0_drawEnds { frames := 2, cells := 0, slots := 0, locals := 50 }).room s m ([.ref (ad t)] : List Value).toArray below meth c 3 D cs ad (zQV below ([.ref (ad t)] : List Value).toArray s D cs ad ((xE ki ad) G9 tr9)) 9 [(0, .ref (ad t)), (1, .int x1), (2, .int x2)] [] ((xE ki ad) G tr)) (x1 : Int32) (x2 : Int32) (G : zMem) (tr : Int64), fX0_drawEnds_b9 N t k2 k9 x1 x2 G tr = some (r9, G9, tr9) → zAt p l e (headSpec wsX0_drawEnds { frames := 2, cells := 0, slots := 0, locals := 50 }).room s m ([.ref (ad t)] : List Value).toArray below meth c 3 D cs ad (zQV below ([.ref (ad t)] : List Value).toArray s D cs ad ((xE ki ad) G9 tr9)) 9 [(0, .ref (ad t)), (1, .int x1), (2, .int x2)] [] ((xE ki ad) G tr) := by
    intro k2 hk2 k9 hk9 x1 x2 G tr h H locs ls X hl
    unfold fX0_drawEnds_b9 at h
    refine lv_iload_n S.1 S.2.1 dX0_drawEnds_9 rfl (lv_at hl 2 rfl) ?_
    refine lv_aload_n S.1 S.2.1 dX0_drawEnds_10 rfl (lv_at hl 0 rfl) ?_
    obtain ⟨r_2, G_3, tr_4, hf_1, h⟩ := zbd_some h
    refine zr_calli (Eg := (xE ki ad)) K X (va_runV (As := []) (rest := [.int x2]) S (mX0_cells l D ki ad cs  N t ht G tr H.size _ _ _ hf_1) (cwV 0 S.2.2.2.2 gX0_drawEnds_X0_cells rfl rfl rfl (by decide +kernel) ⟨Nat.le_of_ble_eq_true rfl, Nat.le_of_ble_eq_true rfl⟩) (zr_preV (c0 := t) K X (ht.2 0 (by decide)) (xE_C ht) rfl) rfl rfl hl.1 rfl (lv_room (Nat.le_of_ble_eq_true rfl)) dX0_drawEnds_11 ⟨Nat.zero_le _, Nat.zero_le _⟩) (fun H locs X => ?_)
    refine lv_icmp_ge (tgt := 29) S.1 S.2.1 dX0_drawEnds_14 (by decide) (fun hc_5 => ?_) (fun hc_5 => ?_)
    · have h := zif_pos hc_5 h
      refine lv_iinc (v := (x1 + 1)) (lv' := [(1, .int (x1 + 1)), (0, .ref (ad t)), (2, .int x2)]) S.1 S.2.1 dX0_drawEnds_29 hl (k := 1) rfl rfl (by decide) rfl (fun ls hl => ?_)
      refine lv_goto (tgt := 2) S.1 S.2.1 dX0_drawEnds_32 (by decide) ?_
      exact hk2 (x1 + 1) G_3 tr_4 h _ _ _ X (lv_sub hl [1, 0] rfl)
    · have h := zif_neg hc_5 h
      refine lv_aload_n S.1 S.2.1 dX0_drawEnds_17 rfl (lv_at hl 0 rfl) ?_
      refine lv_iload_n S.1 S.2.1 dX0_drawEnds_18 rfl (lv_at hl 1 rfl) ?_
      refine lv_iload_n S.1 S.2.1 dX0_drawEnds_19 rfl (lv_at hl 2 rfl) ?_
      obtain ⟨r_7, G_8, tr_9, hf_6, h⟩ := zbd_some h
      refine zr_callv (Eg := (xE ki ad)) K X (va_runV (As := [.int x1, .int x2]) (rest := []) S (mX0_drawWay l D ki ad cs  N t x1 x2 ht G_3 tr_4 H.size _ _ _ hf_6) (cwV 2 S.2.2.2.2 gX0_drawEnds_X0_drawWay rfl rfl rfl (by decide +kernel) ⟨Nat.le_of_ble_eq_true rfl, Nat.le_of_ble_eq_true rfl⟩) (zr_preV (c0 := t) K X (ht.2 0 (by decide)) (xE_C ht) rfl) rfl rfl hl.1 rfl (lv_room (Nat.le_of_ble_eq_true rfl)) dX0_drawEnds_20 ⟨Nat.zero_le _, Nat.zero_le _⟩) (fun H locs X => ?_)
      refine lv_iinc (v := (x2 + 1)) (lv' := [(2, .int (x2 + 1)), (0, .ref (ad t)), (1, .int x1)]) S.1 S.2.1 dX0_drawEnds_23 hl (k := 2) rfl rfl (by decide) rfl (fun ls hl => ?_)
      refine lv_goto (tgt := 9) S.1 S.2.1 dX0_drawEnds_26 (by decide) ?_
      exact hk9 x1 (x2 + 1) G_8 tr_9 h _ _ _ X (lv_sub hl [1, 2, 0] rfl)
  have L9 : ∀ (k2 : Int32 → zMem → Int64 → zR) (hk2 : ∀ (x1 : Int32) (G : zMem) (tr : Int64), k2 x1 G tr = some (r9, G9, tr9) → zAt p l e (headSpec wsX0_drawEnds { frames := 2, cells := 0, slots := 0, locals := 50 }).room s m ([.ref (ad t)] : List Value).toArray below meth c 3 D cs ad (zQV below ([.ref (ad t)] : List Value).toArray s D cs ad ((xE ki ad) G9 tr9)) 2 [(0, .ref (ad t)), (1, .int x1)] [] ((xE ki ad) G tr)) (n : Nat) (x1 : Int32) (x2 : Int32) (G : zMem) (tr : Int64), fX0_drawEnds_L9 N t k2 n x1 x2 G tr = some (r9, G9, tr9) → zAt p l e (headSpec wsX0_drawEnds { frames := 2, cells := 0, slots := 0, locals := 50 }).room s m ([.ref (ad t)] : List Value).toArray below meth c 3 D cs ad (zQV below ([.ref (ad t)] : List Value).toArray s D cs ad ((xE ki ad) G9 tr9)) 9 [(0, .ref (ad t)), (1, .int x1), (2, .int x2)] [] ((xE ki ad) G tr) := by
    intro k2 hk2 n
    induction n with
    | zero => intro x1 x2 G tr h; cases h
    | succ n ih => intro x1 x2 G tr h; exact b9 k2 hk2 (fX0_drawEnds_L9 N t k2 n) ih x1 x2 G tr h
  have b2 : ∀ (k2 : Int32 → zMem → Int64 → zR) (hk2 : ∀ (x1 : Int32) (G : zMem) (tr : Int64), k2 x1 G tr = some (r9, G9, tr9) → zAt p l e (headSpec wsX0_drawEnds { frames := 2, cells := 0, slots := 0, locals := 50 }).room s m ([.ref (ad t)] : List Value).toArray below meth c 3 D cs ad (zQV below ([.ref (ad t)] : List Value).toArray s D cs ad ((xE ki ad) G9 tr9)) 2 [(0, .ref (ad t)), (1, .int x1)] [] ((xE ki ad) G tr)) (x1 : Int32) (G : zMem) (tr : Int64), fX0_drawEnds_b2 N t k2 x1 G tr = some (r9, G9, tr9) → zAt p l e (headSpec wsX0_drawEnds { frames := 2, cells := 0, slots := 0, locals := 50 }).room s m ([.ref (ad t)] : List Value).toArray below meth c 3 D cs ad (zQV below ([.ref (ad t)] : List Value).toArray s D cs ad ((xE ki ad) G9 tr9)) 2 [(0, .ref (ad t)), (1, .int x1)] [] ((xE ki ad) G tr) := by
    intro k2 hk2 x1 G tr h H locs ls X hl
    unfold fX0_drawEnds_b2 at h
    refine lv_iload_n S.1 S.2.1 dX0_drawEnds_2 rfl (lv_at hl 1 rfl) ?_
    refine lv_iconst (v := (4 : Int32)) S.1 S.2.1 dX0_drawEnds_3 (by decide) ?_
    refine lv_icmp_ge (tgt := 35) S.1 S.2.1 dX0_drawEnds_4 (by decide) (fun hc_1 => ?_) (fun hc_1 => ?_)
    · have h := zif_pos hc_1 h
      exact zr_vret S hr hlk X h dX0_drawEnds_35
    · have h := zif_neg hc_1 h
      refine lv_iconst (v := (0 : Int32)) S.1 S.2.1 dX0_drawEnds_7 (by decide) ?_
      refine lv_istore_n (lv' := [(2, .int (0 : Int32)), (0, .ref (ad t)), (1, .int x1)]) S.1 S.2.1 dX0_drawEnds_8 rfl hl (by decide) rfl (fun ls hl => ?_)
      exact L9 k2 hk2 N x1 (0 : Int32) G tr h _ _ _ X (lv_sub hl [1, 2, 0] rfl)
  have L2 : ∀ (n : Nat) (x1 : Int32) (G : zMem) (tr : Int64), fX0_drawEnds_L2 N t n x1 G tr = some (r9, G9, tr9) → zAt p l e (headSpec wsX0_drawEnds { frames := 2, cells := 0, slots := 0, locals := 50 }).room s m ([.ref (ad t)] : List Value).toArray below meth c 3 D cs ad (zQV below ([.ref (ad t)] : List Value).toArray s D cs ad ((xE ki ad) G9 tr9)) 2 [(0, .ref (ad t)), (1, .int x1)] [] ((xE ki ad) G tr) := by
    intro n
    induction n with
    | zero => intro x1 G tr h; cases h
    | succ n ih => intro x1 G tr h; exact b2 (fX0_drawEnds_L2 N t n) ih x1 G tr h
  unfold fX0_drawEnds at h
  obtain ⟨H, hH⟩ : ∃ H, H = s.heap := ⟨_, rfl⟩
  obtain ⟨locs, hlo⟩ : ∃ locs : List Loc, locs = [] := ⟨_, rfl⟩
  have X : gS D cs ad ((xE ki ad) G tr) (gA cs ad s.heap.size) s H locs := by rw [hH, hlo]; exact X
  suffices z : W p l e (headSpec wsX0_drawEnds { frames := 2, cells := 0, slots := 0, locals := 50 }).room s m ([.ref (ad t)] : List Value).toArray below meth c H locs 0 0 (zQV below ([.ref (ad t)] : List Value).toArray s D cs ad ((xE ki ad) G9 tr9)) (F0 m 0 ls []) by rw [hH, hlo] at z; exact z
  clear hH hlo
  refine lv_iconst (v := (0 : Int32)) S.1 S.2.1 dX0_drawEnds_0 (by decide) ?_
  refine lv_istore_n (lv' := [(1, .int (0 : Int32)), (0, .ref (ad t))]) S.1 S.2.1 dX0_drawEnds_1 rfl hl (by decide) rfl (fun ls hl => ?_)
  exact L2 N (0 : Int32) G tr h _ _ _ X (lv_sub hl [1, 0] rfl)
theorem dX0_endOf_0 : decode cX0_endOf 0 = .ok (.iload_n 1, 1) := by decide +kernel
theorem dX0_endOf_1 : decode cX0_endOf 1 = .ok (.iconst 1, 1) := by decide +kernel
theorem dX0_endOf_2 : decode cX0_endOf 2 = .ok (.if_icmp .lt 17, 3) := by decide +kernel
theorem dX0_endOf_5 : decode cX0_endOf 5 = .ok (.iload_n 1, 1) := by decide +kernel
theorem dX0_endOf_6 : decode cX0_endOf 6 = .ok (.iconst 5, 1) := by decide +kernel
theorem dX0_endOf_7 : decode cX0_endOf 7 = .ok (.if_icmp .gt 12, 3) := by decide +kernel
theorem dX0_endOf_10 : decode cX0_endOf 10 = .ok (.iload_n 2, 1) := by decide +kernel
theorem dX0_endOf_11 : decode cX0_endOf 11 = .ok (.ifCond .lt 8, 3) := by decide +kernel
theorem dX0_endOf_14 : decode cX0_endOf 14 = .ok (.iload_n 2, 1) := by decide +kernel
theorem dX0_endOf_15 : decode cX0_endOf 15 = .ok (.iconst 4, 1) := by decide +kernel
theorem dX0_endOf_16 : decode cX0_endOf 16 = .ok (.if_icmp .lt 5, 3) := by decide +kernel
theorem dX0_endOf_19 : decode cX0_endOf 19 = .ok (.iconst (-1), 1) := by decide +kernel
theorem dX0_endOf_20 : decode cX0_endOf 20 = .ok (.ireturn, 1) := by decide +kernel
theorem dX0_endOf_21 : decode cX0_endOf 21 = .ok (.iload_n 3, 1) := by decide +kernel
theorem dX0_endOf_22 : decode cX0_endOf 22 = .ok (.ifCond .lt 9, 3) := by decide +kernel
theorem dX0_endOf_25 : decode cX0_endOf 25 = .ok (.iload_n 3, 1) := by decide +kernel
theorem dX0_endOf_26 : decode cX0_endOf 26 = .ok (.bipush 30, 2) := by decide +kernel
theorem dX0_endOf_28 : decode cX0_endOf 28 = .ok (.if_icmp .lt 5, 3) := by decide +kernel
theorem dX0_endOf_31 : decode cX0_endOf 31 = .ok (.iconst (-1), 1) := by decide +kernel
theorem dX0_endOf_32 : decode cX0_endOf 32 = .ok (.ireturn, 1) := by decide +kernel
theorem dX0_endOf_33 : decode cX0_endOf 33 = .ok (.aload_n 0, 1) := by decide +kernel
theorem dX0_endOf_34 : decode cX0_endOf 34 = .ok (.getfield 21, 3) := by decide +kernel
theorem dX0_endOf_37 : decode cX0_endOf 37 = .ok (.iload_n 1, 1) := by decide +kernel
theorem dX0_endOf_38 : decode cX0_endOf 38 = .ok (.iconst 1, 1) := by decide +kernel
theorem dX0_endOf_39 : decode cX0_endOf 39 = .ok (.isub, 1) := by decide +kernel
theorem dX0_endOf_40 : decode cX0_endOf 40 = .ok (.iconst 4, 1) := by decide +kernel
theorem dX0_endOf_41 : decode cX0_endOf 41 = .ok (.imul, 1) := by decide +kernel
theorem dX0_endOf_42 : decode cX0_endOf 42 = .ok (.iload_n 2, 1) := by decide +kernel
theorem dX0_endOf_43 : decode cX0_endOf 43 = .ok (.iadd, 1) := by decide +kernel
theorem dX0_endOf_44 : decode cX0_endOf 44 = .ok (.bipush 30, 2) := by decide +kernel
theorem dX0_endOf_46 : decode cX0_endOf 46 = .ok (.imul, 1) := by decide +kernel
theorem dX0_endOf_47 : decode cX0_endOf 47 = .ok (.iload_n 3, 1) := by decide +kernel
theorem dX0_endOf_48 : decode cX0_endOf 48 = .ok (.iadd, 1) := by decide +kernel
theorem dX0_endOf_49 : decode cX0_endOf 49 = .ok (.iaload, 1) := by decide +kernel
theorem dX0_endOf_50 : decode cX0_endOf 50 = .ok (.ireturn, 1) := by decide +kernel
set_option maxRecDepth 20000 in
theorem kX0_endOf_21 : Cond.fieldLink RX0 21 "WindPost$Chart" "ends" "[I" ∈ wsX0_endOf := by decide +kernel
set_option maxRecDepth 20000 in
theorem uX0_endOf_X0 : ∀ w ∈ wsX00, w ∈ wsX0_endOf := by decide +kernel
set_option maxHeartbeats 8000000 in
set_option maxRecDepth 100000 in
theorem mX0_endOf (l : Launch) (D : va_G) (ki : Nat → ClassId) (ad : Nat → Nat) (cs : List Nat) (N : Nat) (t : Nat) (a1 : Int32) (a2 : Int32) (a3 : Int32) (ht : kC cs t) (G : zMem) (tr : Int64) : gMetI l D ki ad cs yX0_endOf wsX0_endOf { frames := 0, cells := 0, slots := 0, locals := 0 } [.ref (ad t), .int a1, .int a2, .int a3] (xE ki ad) G tr (fX0_endOf N t a1 a2 a3 G tr) := by
  refine gMetI_of (cc := cX0_endOf) (maxL := 4) (ret := (some .int)) (own := RX0) (by decide +kernel) rfl rfl (Nat.le_of_ble_eq_true rfl) ?_
  intro r9 G9 tr9 h p e s m below meth c S hr hlk K X ls hl
  have hl : lv_has ls 4 [(0, .ref (ad t)), (1, .int a1), (2, .int a2), (3, .int a3)] := hl
  unfold fX0_endOf at h
  obtain ⟨H, hH⟩ : ∃ H, H = s.heap := ⟨_, rfl⟩
  obtain ⟨locs, hlo⟩ : ∃ locs : List Loc, locs = [] := ⟨_, rfl⟩
  have X : gS D cs ad ((xE ki ad) G tr) (gA cs ad s.heap.size) s H locs := by rw [hH, hlo]; exact X
  suffices z : W p l e (headSpec wsX0_endOf { frames := 0, cells := 0, slots := 0, locals := 0 }).room s m ([.ref (ad t), .int a1, .int a2, .int a3] : List Value).toArray below meth c H locs 0 0 (zQI below ([.ref (ad t), .int a1, .int a2, .int a3] : List Value).toArray s D cs ad ((xE ki ad) G9 tr9) r9) (F0 m 0 ls []) by rw [hH, hlo] at z; exact z
  clear hH hlo
  refine lv_iload_n S.1 S.2.1 dX0_endOf_0 rfl (lv_at hl 1 rfl) ?_
  refine lv_iconst (v := (1 : Int32)) S.1 S.2.1 dX0_endOf_1 (by decide) ?_
  refine lv_icmp_lt (tgt := 19) S.1 S.2.1 dX0_endOf_2 (by decide) (fun hc_1 => ?_) (fun hc_1 => ?_)
  · have h := zif_pos hc_1 h
    refine lv_iconst (v := (-1 : Int32)) S.1 S.2.1 dX0_endOf_19 (by decide) ?_
    exact zr_iret S hr hlk X h dX0_endOf_20
  · have h := zif_neg hc_1 h
    refine lv_iload_n S.1 S.2.1 dX0_endOf_5 rfl (lv_at hl 1 rfl) ?_
    refine lv_iconst (v := (5 : Int32)) S.1 S.2.1 dX0_endOf_6 (by decide) ?_
    refine lv_icmp_gt (tgt := 19) S.1 S.2.1 dX0_endOf_7 (by decide) (fun hc_2 => ?_) (fun hc_2 => ?_)
    · have h := zif_pos hc_2 h
      refine lv_iconst (v := (-1 : Int32)) S.1 S.2.1 dX0_endOf_19 (by decide) ?_
      exact zr_iret S hr hlk X h dX0_endOf_20
    · have h := zif_neg hc_2 h
      refine lv_iload_n S.1 S.2.1 dX0_endOf_10 rfl (lv_at hl 2 rfl) ?_
      refine lv_if_lt (tgt := 19) S.1 S.2.1 dX0_endOf_11 (by decide) (fun hc_3 => ?_) (fun hc_3 => ?_)
      · have h := zif_pos hc_3 h
        refine lv_iconst (v := (-1 : Int32)) S.1 S.2.1 dX0_endOf_19 (by decide) ?_
        exact zr_iret S hr hlk X h dX0_endOf_20
      · have h := zif_neg hc_3 h
        refine lv_iload_n S.1 S.2.1 dX0_endOf_14 rfl (lv_at hl 2 rfl) ?_
        refine lv_iconst (v := (4 : Int32)) S.1 S.2.1 dX0_endOf_15 (by decide) ?_
        refine lv_icmp_lt (tgt := 21) S.1 S.2.1 dX0_endOf_16 (by decide) (fun hc_4 => ?_) (fun hc_4 => ?_)
        · have h := zif_pos hc_4 h
          refine lv_iload_n S.1 S.2.1 dX0_endOf_21 rfl (lv_at hl 3 rfl) ?_
          refine lv_if_lt (tgt := 31) S.1 S.2.1 dX0_endOf_22 (by decide) (fun hc_5 => ?_) (fun hc_5 => ?_)
          · have h := zif_pos hc_5 h
            refine lv_iconst (v := (-1 : Int32)) S.1 S.2.1 dX0_endOf_31 (by decide) ?_
            exact zr_iret S hr hlk X h dX0_endOf_32
          · have h := zif_neg hc_5 h
            refine lv_iload_n S.1 S.2.1 dX0_endOf_25 rfl (lv_at hl 3 rfl) ?_
            refine lv_bipush (v := (30 : Int32)) S.1 S.2.1 dX0_endOf_26 (by decide) ?_
            refine lv_icmp_lt (tgt := 33) S.1 S.2.1 dX0_endOf_28 (by decide) (fun hc_6 => ?_) (fun hc_6 => ?_)
            · have h := zif_pos hc_6 h
              refine lv_aload_n S.1 S.2.1 dX0_endOf_33 rfl (lv_at hl 0 rfl) ?_
              refine zr_get (v := .ref (ad (t + 4))) S K X (ht.2 0 (by decide)) (xE_C ht) rfl uX0_endOf_X0 9 (by decide) kX0_endOf_21 rfl rfl dX0_endOf_34 ?_
              refine lv_iload_n S.1 S.2.1 dX0_endOf_37 rfl (lv_at hl 1 rfl) ?_
              refine lv_iconst (v := (1 : Int32)) S.1 S.2.1 dX0_endOf_38 (by decide) ?_
              refine lv_isub S.1 S.2.1 dX0_endOf_39 ?_
              refine lv_iconst (v := (4 : Int32)) S.1 S.2.1 dX0_endOf_40 (by decide) ?_
              refine lv_imul S.1 S.2.1 dX0_endOf_41 ?_
              refine lv_iload_n S.1 S.2.1 dX0_endOf_42 rfl (lv_at hl 2 rfl) ?_
              refine lv_iadd S.1 S.2.1 dX0_endOf_43 ?_
              refine lv_bipush (v := (30 : Int32)) S.1 S.2.1 dX0_endOf_44 (by decide) ?_
              refine lv_imul S.1 S.2.1 dX0_endOf_46 ?_
              refine lv_iload_n S.1 S.2.1 dX0_endOf_47 rfl (lv_at hl 3 rfl) ?_
              refine lv_iadd S.1 S.2.1 dX0_endOf_48 ?_
              obtain ⟨hi_7, h⟩ := zin_some h
              refine zr_iald S K X (ht.2 4 (by decide)) (xE_C4 ht) hi_7 dX0_endOf_49 ?_
              exact zr_iret S hr hlk X h dX0_endOf_50
            · have h := zif_neg hc_6 h
              refine lv_iconst (v := (-1 : Int32)) S.1 S.2.1 dX0_endOf_31 (by decide) ?_
              exact zr_iret S hr hlk X h dX0_endOf_32
        · have h := zif_neg hc_4 h
          refine lv_iconst (v := (-1 : Int32)) S.1 S.2.1 dX0_endOf_19 (by decide) ?_
          exact zr_iret S hr hlk X h dX0_endOf_20
