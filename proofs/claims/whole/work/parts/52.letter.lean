set_option maxRecDepth 20000 in
theorem ggX1_letUp_X0_cellOfIsle : GoodIn wsX1_letUp wsX0_cellOfIsle := goodIn_r _ [13, 14, 22, 23, 24, 25, 26, 27, 28, 29, 30, 31] (by decide +kernel) (by decide +kernel)
set_option maxRecDepth 20000 in
theorem gX1_letUp_X0_cellOfIsle : GoodIn wsX1_letUp (wsV RX1 21 RX0 yX0_cellOfIsle wsX0_cellOfIsle) := goodIn_app (goodIn_of _ (by decide +kernel)) ggX1_letUp_X0_cellOfIsle
theorem dX1_letUp_0 : decode cX1_letUp 0 = .ok (.aload_n 0, 1) := by decide +kernel
theorem dX1_letUp_1 : decode cX1_letUp 1 = .ok (.iload 4, 2) := by decide +kernel
theorem dX1_letUp_3 : decode cX1_letUp 3 = .ok (.putfield 9, 3) := by decide +kernel
theorem dX1_letUp_6 : decode cX1_letUp 6 = .ok (.aload_n 0, 1) := by decide +kernel
theorem dX1_letUp_7 : decode cX1_letUp 7 = .ok (.iload_n 2, 1) := by decide +kernel
theorem dX1_letUp_8 : decode cX1_letUp 8 = .ok (.putfield 15, 3) := by decide +kernel
theorem dX1_letUp_11 : decode cX1_letUp 11 = .ok (.aload_n 0, 1) := by decide +kernel
theorem dX1_letUp_12 : decode cX1_letUp 12 = .ok (.iload_n 3, 1) := by decide +kernel
theorem dX1_letUp_13 : decode cX1_letUp 13 = .ok (.putfield 18, 3) := by decide +kernel
theorem dX1_letUp_16 : decode cX1_letUp 16 = .ok (.aload_n 0, 1) := by decide +kernel
theorem dX1_letUp_17 : decode cX1_letUp 17 = .ok (.aload_n 1, 1) := by decide +kernel
theorem dX1_letUp_18 : decode cX1_letUp 18 = .ok (.iload_n 2, 1) := by decide +kernel
theorem dX1_letUp_19 : decode cX1_letUp 19 = .ok (.invokevirtual 21, 3) := by decide +kernel
theorem dX1_letUp_22 : decode cX1_letUp 22 = .ok (.putfield 27, 3) := by decide +kernel
theorem dX1_letUp_25 : decode cX1_letUp 25 = .ok (.aload_n 0, 1) := by decide +kernel
theorem dX1_letUp_26 : decode cX1_letUp 26 = .ok (.iconst 1, 1) := by decide +kernel
theorem dX1_letUp_27 : decode cX1_letUp 27 = .ok (.iload_n 2, 1) := by decide +kernel
theorem dX1_letUp_28 : decode cX1_letUp 28 = .ok (.ishl, 1) := by decide +kernel
theorem dX1_letUp_29 : decode cX1_letUp 29 = .ok (.putfield 30, 3) := by decide +kernel
theorem dX1_letUp_32 : decode cX1_letUp 32 = .ok (.aload_n 0, 1) := by decide +kernel
theorem dX1_letUp_33 : decode cX1_letUp 33 = .ok (.iconst 0, 1) := by decide +kernel
theorem dX1_letUp_34 : decode cX1_letUp 34 = .ok (.putfield 33, 3) := by decide +kernel
theorem dX1_letUp_37 : decode cX1_letUp 37 = .ok (.aload_n 0, 1) := by decide +kernel
theorem dX1_letUp_38 : decode cX1_letUp 38 = .ok (.aload_n 1, 1) := by decide +kernel
theorem dX1_letUp_39 : decode cX1_letUp 39 = .ok (.getfield 36, 3) := by decide +kernel
theorem dX1_letUp_42 : decode cX1_letUp 42 = .ok (.iload 4, 2) := by decide +kernel
theorem dX1_letUp_44 : decode cX1_letUp 44 = .ok (.isub, 1) := by decide +kernel
theorem dX1_letUp_45 : decode cX1_letUp 45 = .ok (.putfield 39, 3) := by decide +kernel
theorem dX1_letUp_48 : decode cX1_letUp 48 = .ok (.return_, 1) := by decide +kernel
set_option maxRecDepth 20000 in
theorem kX1_letUp_9 : Cond.fieldLink RX1 9 "WindPost$Letter" "weight" "I" ∈ wsX1_letUp := by decide +kernel
set_option maxRecDepth 20000 in
theorem kX1_letUp_15 : Cond.fieldLink RX1 15 "WindPost$Letter" "from" "I" ∈ wsX1_letUp := by decide +kernel
set_option maxRecDepth 20000 in
theorem kX1_letUp_18 : Cond.fieldLink RX1 18 "WindPost$Letter" "to" "I" ∈ wsX1_letUp := by decide +kernel
set_option maxRecDepth 20000 in
theorem kX1_letUp_27 : Cond.fieldLink RX1 27 "WindPost$Letter" "place" "I" ∈ wsX1_letUp := by decide +kernel
set_option maxRecDepth 20000 in
theorem kX1_letUp_30 : Cond.fieldLink RX1 30 "WindPost$Letter" "marks" "I" ∈ wsX1_letUp := by decide +kernel
set_option maxRecDepth 20000 in
theorem kX1_letUp_33 : Cond.fieldLink RX1 33 "WindPost$Letter" "how" "I" ∈ wsX1_letUp := by decide +kernel
set_option maxRecDepth 20000 in
theorem kX1_letUp_36 : Cond.fieldLink RX1 36 "WindPost$Chart" "force" "I" ∈ wsX1_letUp := by decide +kernel
set_option maxRecDepth 20000 in
theorem kX1_letUp_39 : Cond.fieldLink RX1 39 "WindPost$Letter" "reach" "I" ∈ wsX1_letUp := by decide +kernel
set_option maxRecDepth 20000 in
theorem uX1_letUp_X0 : ∀ w ∈ wsX00, w ∈ wsX1_letUp := by decide +kernel
set_option maxRecDepth 20000 in
theorem uX1_letUp_X1 : ∀ w ∈ wsX10, w ∈ wsX1_letUp := by decide +kernel
set_option maxHeartbeats 8000000 in
set_option maxRecDepth 100000 in
theorem mX1_letUp (l : Launch) (D : va_G) (ki : Nat → ClassId) (ad : Nat → Nat) (cs : List Nat) (hcs : kW cs) (N : Nat) (t : Nat) (a1 : Nat) (a2 : Int32) (a3 : Int32) (a4 : Int32) (ht : kL cs t) (ha1 : kC cs a1) (G : zMem) (tr : Int64) : gMetV l D ki ad cs yX1_letUp wsX1_letUp { frames := 1, cells := 0, slots := 0, locals := 21 } [.ref (ad t), .ref (ad a1), .int a2, .int a3, .int a4] (xE ki ad) G tr (fX1_letUp N t a1 a2 a3 a4 G tr) := by
  refine gMetV_of (cc := cX1_letUp) (maxL := 5) (ret := none) (own := RX1) (by decide +kernel) rfl rfl (Nat.le_of_ble_eq_true rfl) ?_
  intro r9 G9 tr9 h p e s m below meth c S hr hlk K X ls hl
  have hl : lv_has ls 5 [(0, .ref (ad t)), (1, .ref (ad a1)), (2, .int a2), (3, .int a3), (4, .int a4)] := hl
  unfold fX1_letUp at h
  obtain ⟨H, hH⟩ : ∃ H, H = s.heap := ⟨_, rfl⟩
  obtain ⟨locs, hlo⟩ : ∃ locs : List Loc, locs = [] := ⟨_, rfl⟩
  have X : gS D cs ad ((xE ki ad) G tr) (gA cs ad s.heap.size) s H locs := by rw [hH, hlo]; exact X
  suffices z : W p l e (headSpec wsX1_letUp { frames := 1, cells := 0, slots := 0, locals := 21 }).room s m ([.ref (ad t), .ref (ad a1), .int a2, .int a3, .int a4] : List Value).toArray below meth c H locs 0 0 (zQV below ([.ref (ad t), .ref (ad a1), .int a2, .int a3, .int a4] : List Value).toArray s D cs ad ((xE ki ad) G9 tr9)) (F0 m 0 ls []) by rw [hH, hlo] at z; exact z
  clear hH hlo
  refine lv_aload_n S.1 S.2.1 dX1_letUp_0 rfl (lv_at hl 0 rfl) ?_
  refine lv_iload S.1 S.2.1 dX1_letUp_1 (lv_at hl 4 rfl) ?_
  refine zr_put (xv := a4) (v := .int a4) (fsf := fsL) (ty := .int) S K X ht.2 xE_loc (fun _ => (xE_L ht)) rfl uX1_letUp_X1 tyX1 tyX1_ok nmX1 0 (by decide) kX1_letUp_9 rfl (by decide +kernel) rfl rfl (by simp) rfl dX1_letUp_3 (fun H locs X => ?_)
  refine lv_aload_n S.1 S.2.1 dX1_letUp_6 rfl (lv_at hl 0 rfl) ?_
  refine lv_iload_n S.1 S.2.1 dX1_letUp_7 rfl (lv_at hl 2 rfl) ?_
  refine zr_put (xv := a2) (v := .int a2) (fsf := fsL) (ty := .int) S K X ht.2 xE_loc (fun _ => (xE_L ht)) rfl uX1_letUp_X1 tyX1 tyX1_ok nmX1 1 (by decide) kX1_letUp_15 rfl (by decide +kernel) rfl rfl (by simp) rfl dX1_letUp_8 (fun H locs X => ?_)
  refine lv_aload_n S.1 S.2.1 dX1_letUp_11 rfl (lv_at hl 0 rfl) ?_
  refine lv_iload_n S.1 S.2.1 dX1_letUp_12 rfl (lv_at hl 3 rfl) ?_
  refine zr_put (xv := a3) (v := .int a3) (fsf := fsL) (ty := .int) S K X ht.2 xE_loc (fun _ => (xE_L ht)) rfl uX1_letUp_X1 tyX1 tyX1_ok nmX1 2 (by decide) kX1_letUp_18 rfl (by decide +kernel) rfl rfl (by simp) rfl dX1_letUp_13 (fun H locs X => ?_)
  refine lv_aload_n S.1 S.2.1 dX1_letUp_16 rfl (lv_at hl 0 rfl) ?_
  refine lv_aload_n S.1 S.2.1 dX1_letUp_17 rfl (lv_at hl 1 rfl) ?_
  refine lv_iload_n S.1 S.2.1 dX1_letUp_18 rfl (lv_at hl 2 rfl) ?_
  obtain ⟨r_2, G_3, tr_4, hf_1, h⟩ := zbd_some h
  refine zr_calli (Eg := (xE ki ad)) K X (va_runV (As := [.int a2]) (rest := [.ref (ad t)]) S (mX0_cellOfIsle l D ki ad cs  N a1 a2 ha1 (up2 (up2 (up2 G t 0 a4) t 1 a2) t 2 a3) tr H.size _ _ _ hf_1) (cwV 1 S.2.2.2.2 gX1_letUp_X0_cellOfIsle rfl rfl rfl (by decide +kernel) ⟨Nat.le_of_ble_eq_true rfl, Nat.le_of_ble_eq_true rfl⟩) (zr_preV (c0 := a1) K X (ha1.2 0 (by decide)) (xE_C ha1) rfl) rfl rfl hl.1 rfl (lv_room (Nat.le_of_ble_eq_true rfl)) dX1_letUp_19 ⟨Nat.zero_le _, Nat.zero_le _⟩) (fun H locs X => ?_)
  refine zr_put (xv := r_2) (v := .int r_2) (fsf := fsL) (ty := .int) S K X ht.2 xE_loc (fun _ => (xE_L ht)) rfl uX1_letUp_X1 tyX1 tyX1_ok nmX1 3 (by decide) kX1_letUp_27 rfl (by decide +kernel) rfl rfl (by simp) rfl dX1_letUp_22 (fun H locs X => ?_)
  refine lv_aload_n S.1 S.2.1 dX1_letUp_25 rfl (lv_at hl 0 rfl) ?_
  refine lv_iconst (v := (1 : Int32)) S.1 S.2.1 dX1_letUp_26 (by decide) ?_
  refine lv_iload_n S.1 S.2.1 dX1_letUp_27 rfl (lv_at hl 2 rfl) ?_
  refine lv_ishl S.1 S.2.1 dX1_letUp_28 ?_
  refine zr_put (xv := ((1 : Int32) <<< (a2 &&& 31))) (v := .int ((1 : Int32) <<< (a2 &&& 31))) (fsf := fsL) (ty := .int) S K X ht.2 xE_loc (fun _ => (xE_L ht)) rfl uX1_letUp_X1 tyX1 tyX1_ok nmX1 4 (by decide) kX1_letUp_30 rfl (by decide +kernel) rfl rfl (by simp) rfl dX1_letUp_29 (fun H locs X => ?_)
  refine lv_aload_n S.1 S.2.1 dX1_letUp_32 rfl (lv_at hl 0 rfl) ?_
  refine lv_iconst (v := (0 : Int32)) S.1 S.2.1 dX1_letUp_33 (by decide) ?_
  refine zr_put (xv := (0 : Int32)) (v := .int (0 : Int32)) (fsf := fsL) (ty := .int) S K X ht.2 xE_loc (fun _ => (xE_L ht)) rfl uX1_letUp_X1 tyX1 tyX1_ok nmX1 5 (by decide) kX1_letUp_33 rfl (by decide +kernel) rfl rfl (by simp) rfl dX1_letUp_34 (fun H locs X => ?_)
  refine lv_aload_n S.1 S.2.1 dX1_letUp_37 rfl (lv_at hl 0 rfl) ?_
  refine lv_aload_n S.1 S.2.1 dX1_letUp_38 rfl (lv_at hl 1 rfl) ?_
  refine zr_get (v := .int ((up2 (up2 (up2 G_3 t 3 r_2) t 4 ((1 : Int32) <<< (a2 &&& 31))) t 5 (0 : Int32)) a1 2)) S K X (ha1.2 0 (by decide)) (xE_C ha1) rfl uX1_letUp_X0 2 (by decide) kX1_letUp_36 rfl rfl dX1_letUp_39 ?_
  refine lv_iload S.1 S.2.1 dX1_letUp_42 (lv_at hl 4 rfl) ?_
  refine lv_isub S.1 S.2.1 dX1_letUp_44 ?_
  refine zr_put (xv := (((up2 (up2 (up2 G_3 t 3 r_2) t 4 ((1 : Int32) <<< (a2 &&& 31))) t 5 (0 : Int32)) a1 2) - a4)) (v := .int (((up2 (up2 (up2 G_3 t 3 r_2) t 4 ((1 : Int32) <<< (a2 &&& 31))) t 5 (0 : Int32)) a1 2) - a4)) (fsf := fsL) (ty := .int) S K X ht.2 xE_loc (fun _ => (xE_L ht)) rfl uX1_letUp_X1 tyX1 tyX1_ok nmX1 6 (by decide) kX1_letUp_39 rfl (by decide +kernel) rfl rfl (by simp) rfl dX1_letUp_45 (fun H locs X => ?_)
  exact zr_vret S hr hlk X h dX1_letUp_48
theorem dX1_copyFrom_0 : decode cX1_copyFrom 0 = .ok (.aload_n 0, 1) := by decide +kernel
theorem dX1_copyFrom_1 : decode cX1_copyFrom 1 = .ok (.aload_n 1, 1) := by decide +kernel
theorem dX1_copyFrom_2 : decode cX1_copyFrom 2 = .ok (.getfield 9, 3) := by decide +kernel
theorem dX1_copyFrom_5 : decode cX1_copyFrom 5 = .ok (.putfield 9, 3) := by decide +kernel
theorem dX1_copyFrom_8 : decode cX1_copyFrom 8 = .ok (.aload_n 0, 1) := by decide +kernel
theorem dX1_copyFrom_9 : decode cX1_copyFrom 9 = .ok (.aload_n 1, 1) := by decide +kernel
theorem dX1_copyFrom_10 : decode cX1_copyFrom 10 = .ok (.getfield 15, 3) := by decide +kernel
theorem dX1_copyFrom_13 : decode cX1_copyFrom 13 = .ok (.putfield 15, 3) := by decide +kernel
theorem dX1_copyFrom_16 : decode cX1_copyFrom 16 = .ok (.aload_n 0, 1) := by decide +kernel
theorem dX1_copyFrom_17 : decode cX1_copyFrom 17 = .ok (.aload_n 1, 1) := by decide +kernel
theorem dX1_copyFrom_18 : decode cX1_copyFrom 18 = .ok (.getfield 18, 3) := by decide +kernel
theorem dX1_copyFrom_21 : decode cX1_copyFrom 21 = .ok (.putfield 18, 3) := by decide +kernel
theorem dX1_copyFrom_24 : decode cX1_copyFrom 24 = .ok (.aload_n 0, 1) := by decide +kernel
theorem dX1_copyFrom_25 : decode cX1_copyFrom 25 = .ok (.aload_n 1, 1) := by decide +kernel
theorem dX1_copyFrom_26 : decode cX1_copyFrom 26 = .ok (.getfield 27, 3) := by decide +kernel
theorem dX1_copyFrom_29 : decode cX1_copyFrom 29 = .ok (.putfield 27, 3) := by decide +kernel
theorem dX1_copyFrom_32 : decode cX1_copyFrom 32 = .ok (.aload_n 0, 1) := by decide +kernel
theorem dX1_copyFrom_33 : decode cX1_copyFrom 33 = .ok (.aload_n 1, 1) := by decide +kernel
theorem dX1_copyFrom_34 : decode cX1_copyFrom 34 = .ok (.getfield 30, 3) := by decide +kernel
theorem dX1_copyFrom_37 : decode cX1_copyFrom 37 = .ok (.putfield 30, 3) := by decide +kernel
theorem dX1_copyFrom_40 : decode cX1_copyFrom 40 = .ok (.aload_n 0, 1) := by decide +kernel
theorem dX1_copyFrom_41 : decode cX1_copyFrom 41 = .ok (.aload_n 1, 1) := by decide +kernel
theorem dX1_copyFrom_42 : decode cX1_copyFrom 42 = .ok (.getfield 33, 3) := by decide +kernel
theorem dX1_copyFrom_45 : decode cX1_copyFrom 45 = .ok (.putfield 33, 3) := by decide +kernel
theorem dX1_copyFrom_48 : decode cX1_copyFrom 48 = .ok (.aload_n 0, 1) := by decide +kernel
theorem dX1_copyFrom_49 : decode cX1_copyFrom 49 = .ok (.aload_n 1, 1) := by decide +kernel
theorem dX1_copyFrom_50 : decode cX1_copyFrom 50 = .ok (.getfield 39, 3) := by decide +kernel
theorem dX1_copyFrom_53 : decode cX1_copyFrom 53 = .ok (.putfield 39, 3) := by decide +kernel
theorem dX1_copyFrom_56 : decode cX1_copyFrom 56 = .ok (.return_, 1) := by decide +kernel
set_option maxRecDepth 20000 in
theorem kX1_copyFrom_9 : Cond.fieldLink RX1 9 "WindPost$Letter" "weight" "I" ∈ wsX1_copyFrom := by decide +kernel
set_option maxRecDepth 20000 in
theorem kX1_copyFrom_15 : Cond.fieldLink RX1 15 "WindPost$Letter" "from" "I" ∈ wsX1_copyFrom := by decide +kernel
set_option maxRecDepth 20000 in
theorem kX1_copyFrom_18 : Cond.fieldLink RX1 18 "WindPost$Letter" "to" "I" ∈ wsX1_copyFrom := by decide +kernel
set_option maxRecDepth 20000 in
theorem kX1_copyFrom_27 : Cond.fieldLink RX1 27 "WindPost$Letter" "place" "I" ∈ wsX1_copyFrom := by decide +kernel
set_option maxRecDepth 20000 in
theorem kX1_copyFrom_30 : Cond.fieldLink RX1 30 "WindPost$Letter" "marks" "I" ∈ wsX1_copyFrom := by decide +kernel
set_option maxRecDepth 20000 in
theorem kX1_copyFrom_33 : Cond.fieldLink RX1 33 "WindPost$Letter" "how" "I" ∈ wsX1_copyFrom := by decide +kernel
set_option maxRecDepth 20000 in
theorem kX1_copyFrom_39 : Cond.fieldLink RX1 39 "WindPost$Letter" "reach" "I" ∈ wsX1_copyFrom := by decide +kernel
set_option maxRecDepth 20000 in
theorem uX1_copyFrom_X1 : ∀ w ∈ wsX10, w ∈ wsX1_copyFrom := by decide +kernel
set_option maxHeartbeats 8000000 in
set_option maxRecDepth 100000 in
theorem mX1_copyFrom (l : Launch) (D : va_G) (ki : Nat → ClassId) (ad : Nat → Nat) (cs : List Nat) (hcs : kW cs) (N : Nat) (t : Nat) (a1 : Nat) (ht : kL cs t) (ha1 : kL cs a1) (G : zMem) (tr : Int64) : gMetV l D ki ad cs yX1_copyFrom wsX1_copyFrom { frames := 0, cells := 0, slots := 0, locals := 0 } [.ref (ad t), .ref (ad a1)] (xE ki ad) G tr (fX1_copyFrom N t a1 G tr) := by
  refine gMetV_of (cc := cX1_copyFrom) (maxL := 2) (ret := none) (own := RX1) (by decide +kernel) rfl rfl (Nat.le_of_ble_eq_true rfl) ?_
  intro r9 G9 tr9 h p e s m below meth c S hr hlk K X ls hl
  have hl : lv_has ls 2 [(0, .ref (ad t)), (1, .ref (ad a1))] := hl
  unfold fX1_copyFrom at h
  obtain ⟨H, hH⟩ : ∃ H, H = s.heap := ⟨_, rfl⟩
  obtain ⟨locs, hlo⟩ : ∃ locs : List Loc, locs = [] := ⟨_, rfl⟩
  have X : gS D cs ad ((xE ki ad) G tr) (gA cs ad s.heap.size) s H locs := by rw [hH, hlo]; exact X
  suffices z : W p l e (headSpec wsX1_copyFrom { frames := 0, cells := 0, slots := 0, locals := 0 }).room s m ([.ref (ad t), .ref (ad a1)] : List Value).toArray below meth c H locs 0 0 (zQV below ([.ref (ad t), .ref (ad a1)] : List Value).toArray s D cs ad ((xE ki ad) G9 tr9)) (F0 m 0 ls []) by rw [hH, hlo] at z; exact z
  clear hH hlo
  refine lv_aload_n S.1 S.2.1 dX1_copyFrom_0 rfl (lv_at hl 0 rfl) ?_
  refine lv_aload_n S.1 S.2.1 dX1_copyFrom_1 rfl (lv_at hl 1 rfl) ?_
  refine zr_get (v := .int (G a1 0)) S K X ha1.2 (xE_L ha1) rfl uX1_copyFrom_X1 0 (by decide) kX1_copyFrom_9 rfl rfl dX1_copyFrom_2 ?_
  refine zr_put (xv := (G a1 0)) (v := .int (G a1 0)) (fsf := fsL) (ty := .int) S K X ht.2 xE_loc (fun _ => (xE_L ht)) rfl uX1_copyFrom_X1 tyX1 tyX1_ok nmX1 0 (by decide) kX1_copyFrom_9 rfl (by decide +kernel) rfl rfl (by simp) rfl dX1_copyFrom_5 (fun H locs X => ?_)
  refine lv_aload_n S.1 S.2.1 dX1_copyFrom_8 rfl (lv_at hl 0 rfl) ?_
  refine lv_aload_n S.1 S.2.1 dX1_copyFrom_9 rfl (lv_at hl 1 rfl) ?_
  refine zr_get (v := .int ((up2 G t 0 (G a1 0)) a1 1)) S K X ha1.2 (xE_L ha1) rfl uX1_copyFrom_X1 1 (by decide) kX1_copyFrom_15 rfl rfl dX1_copyFrom_10 ?_
  refine zr_put (xv := ((up2 G t 0 (G a1 0)) a1 1)) (v := .int ((up2 G t 0 (G a1 0)) a1 1)) (fsf := fsL) (ty := .int) S K X ht.2 xE_loc (fun _ => (xE_L ht)) rfl uX1_copyFrom_X1 tyX1 tyX1_ok nmX1 1 (by decide) kX1_copyFrom_15 rfl (by decide +kernel) rfl rfl (by simp) rfl dX1_copyFrom_13 (fun H locs X => ?_)
  refine lv_aload_n S.1 S.2.1 dX1_copyFrom_16 rfl (lv_at hl 0 rfl) ?_
  refine lv_aload_n S.1 S.2.1 dX1_copyFrom_17 rfl (lv_at hl 1 rfl) ?_
  refine zr_get (v := .int ((up2 (up2 G t 0 (G a1 0)) t 1 ((up2 G t 0 (G a1 0)) a1 1)) a1 2)) S K X ha1.2 (xE_L ha1) rfl uX1_copyFrom_X1 2 (by decide) kX1_copyFrom_18 rfl rfl dX1_copyFrom_18 ?_
  refine zr_put (xv := ((up2 (up2 G t 0 (G a1 0)) t 1 ((up2 G t 0 (G a1 0)) a1 1)) a1 2)) (v := .int ((up2 (up2 G t 0 (G a1 0)) t 1 ((up2 G t 0 (G a1 0)) a1 1)) a1 2)) (fsf := fsL) (ty := .int) S K X ht.2 xE_loc (fun _ => (xE_L ht)) rfl uX1_copyFrom_X1 tyX1 tyX1_ok nmX1 2 (by decide) kX1_copyFrom_18 rfl (by decide +kernel) rfl rfl (by simp) rfl dX1_copyFrom_21 (fun H locs X => ?_)
  refine lv_aload_n S.1 S.2.1 dX1_copyFrom_24 rfl (lv_at hl 0 rfl) ?_
  refine lv_aload_n S.1 S.2.1 dX1_copyFrom_25 rfl (lv_at hl 1 rfl) ?_
  refine zr_get (v := .int ((up2 (up2 (up2 G t 0 (G a1 0)) t 1 ((up2 G t 0 (G a1 0)) a1 1)) t 2 ((up2 (up2 G t 0 (G a1 0)) t 1 ((up2 G t 0 (G a1 0)) a1 1)) a1 2)) a1 3)) S K X ha1.2 (xE_L ha1) rfl uX1_copyFrom_X1 3 (by decide) kX1_copyFrom_27 rfl rfl dX1_copyFrom_26 ?_
  refine zr_put (xv := ((up2 (up2 (up2 G t 0 (G a1 0)) t 1 ((up2 G t 0 (G a1 0)) a1 1)) t 2 ((up2 (up2 G t 0 (G a1 0)) t 1 ((up2 G t 0 (G a1 0)) a1 1)) a1 2)) a1 3)) (v := .int ((up2 (up2 (up2 G t 0 (G a1 0)) t 1 ((up2 G t 0 (G a1 0)) a1 1)) t 2 ((up2 (up2 G t 0 (G a1 0)) t 1 ((up2 G t 0 (G a1 0)) a1 1)) a1 2)) a1 3)) (fsf := fsL) (ty := .int) S K X ht.2 xE_loc (fun _ => (xE_L ht)) rfl uX1_copyFrom_X1 tyX1 tyX1_ok nmX1 3 (by decide) kX1_copyFrom_27 rfl (by decide +kernel) rfl rfl (by simp) rfl dX1_copyFrom_29 (fun H locs X => ?_)
  refine lv_aload_n S.1 S.2.1 dX1_copyFrom_32 rfl (lv_at hl 0 rfl) ?_
  refine lv_aload_n S.1 S.2.1 dX1_copyFrom_33 rfl (lv_at hl 1 rfl) ?_
  refine zr_get (v := .int ((up2 (up2 (up2 (up2 G t 0 (G a1 0)) t 1 ((up2 G t 0 (G a1 0)) a1 1)) t 2 ((up2 (up2 G t 0 (G a1 0)) t 1 ((up2 G t 0 (G a1 0)) a1 1)) a1 2)) t 3 ((up2 (up2 (up2 G t 0 (G a1 0)) t 1 ((up2 G t 0 (G a1 0)) a1 1)) t 2 ((up2 (up2 G t 0 (G a1 0)) t 1 ((up2 G t 0 (G a1 0)) a1 1)) a1 2)) a1 3)) a1 4)) S K X ha1.2 (xE_L ha1) rfl uX1_copyFrom_X1 4 (by decide) kX1_copyFrom_30 rfl rfl dX1_copyFrom_34 ?_
  refine zr_put (xv := ((up2 (up2 (up2 (up2 G t 0 (G a1 0)) t 1 ((up2 G t 0 (G a1 0)) a1 1)) t 2 ((up2 (up2 G t 0 (G a1 0)) t 1 ((up2 G t 0 (G a1 0)) a1 1)) a1 2)) t 3 ((up2 (up2 (up2 G t 0 (G a1 0)) t 1 ((up2 G t 0 (G a1 0)) a1 1)) t 2 ((up2 (up2 G t 0 (G a1 0)) t 1 ((up2 G t 0 (G a1 0)) a1 1)) a1 2)) a1 3)) a1 4)) (v := .int ((up2 (up2 (up2 (up2 G t 0 (G a1 0)) t 1 ((up2 G t 0 (G a1 0)) a1 1)) t 2 ((up2 (up2 G t 0 (G a1 0)) t 1 ((up2 G t 0 (G a1 0)) a1 1)) a1 2)) t 3 ((up2 (up2 (up2 G t 0 (G a1 0)) t 1 ((up2 G t 0 (G a1 0)) a1 1)) t 2 ((up2 (up2 G t 0 (G a1 0)) t 1 ((up2 G t 0 (G a1 0)) a1 1)) a1 2)) a1 3)) a1 4)) (fsf := fsL) (ty := .int) S K X ht.2 xE_loc (fun _ => (xE_L ht)) rfl uX1_copyFrom_X1 tyX1 tyX1_ok nmX1 4 (by decide) kX1_copyFrom_30 rfl (by decide +kernel) rfl rfl (by simp) rfl dX1_copyFrom_37 (fun H locs X => ?_)
  refine lv_aload_n S.1 S.2.1 dX1_copyFrom_40 rfl (lv_at hl 0 rfl) ?_
  refine lv_aload_n S.1 S.2.1 dX1_copyFrom_41 rfl (lv_at hl 1 rfl) ?_
  refine zr_get (v := .int ((up2 (up2 (up2 (up2 (up2 G t 0 (G a1 0)) t 1 ((up2 G t 0 (G a1 0)) a1 1)) t 2 ((up2 (up2 G t 0 (G a1 0)) t 1 ((up2 G t 0 (G a1 0)) a1 1)) a1 2)) t 3 ((up2 (up2 (up2 G t 0 (G a1 0)) t 1 ((up2 G t 0 (G a1 0)) a1 1)) t 2 ((up2 (up2 G t 0 (G a1 0)) t 1 ((up2 G t 0 (G a1 0)) a1 1)) a1 2)) a1 3)) t 4 ((up2 (up2 (up2 (up2 G t 0 (G a1 0)) t 1 ((up2 G t 0 (G a1 0)) a1 1)) t 2 ((up2 (up2 G t 0 (G a1 0)) t 1 ((up2 G t 0 (G a1 0)) a1 1)) a1 2)) t 3 ((up2 (up2 (up2 G t 0 (G a1 0)) t 1 ((up2 G t 0 (G a1 0)) a1 1)) t 2 ((up2 (up2 G t 0 (G a1 0)) t 1 ((up2 G t 0 (G a1 0)) a1 1)) a1 2)) a1 3)) a1 4)) a1 5)) S K X ha1.2 (xE_L ha1) rfl uX1_copyFrom_X1 5 (by decide) kX1_copyFrom_33 rfl rfl dX1_copyFrom_42 ?_
  refine zr_put (xv := ((up2 (up2 (up2 (up2 (up2 G t 0 (G a1 0)) t 1 ((up2 G t 0 (G a1 0)) a1 1)) t 2 ((up2 (up2 G t 0 (G a1 0)) t 1 ((up2 G t 0 (G a1 0)) a1 1)) a1 2)) t 3 ((up2 (up2 (up2 G t 0 (G a1 0)) t 1 ((up2 G t 0 (G a1 0)) a1 1)) t 2 ((up2 (up2 G t 0 (G a1 0)) t 1 ((up2 G t 0 (G a1 0)) a1 1)) a1 2)) a1 3)) t 4 ((up2 (up2 (up2 (up2 G t 0 (G a1 0)) t 1 ((up2 G t 0 (G a1 0)) a1 1)) t 2 ((up2 (up2 G t 0 (G a1 0)) t 1 ((up2 G t 0 (G a1 0)) a1 1)) a1 2)) t 3 ((up2 (up2 (up2 G t 0 (G a1 0)) t 1 ((up2 G t 0 (G a1 0)) a1 1)) t 2 ((up2 (up2 G t 0 (G a1 0)) t 1 ((up2 G t 0 (G a1 0)) a1 1)) a1 2)) a1 3)) a1 4)) a1 5)) (v := .int ((up2 (up2 (up2 (up2 (up2 G t 0 (G a1 0)) t 1 ((up2 G t 0 (G a1 0)) a1 1)) t 2 ((up2 (up2 G t 0 (G a1 0)) t 1 ((up2 G t 0 (G a1 0)) a1 1)) a1 2)) t 3 ((up2 (up2 (up2 G t 0 (G a1 0)) t 1 ((up2 G t 0 (G a1 0)) a1 1)) t 2 ((up2 (up2 G t 0 (G a1 0)) t 1 ((up2 G t 0 (G a1 0)) a1 1)) a1 2)) a1 3)) t 4 ((up2 (up2 (up2 (up2 G t 0 (G a1 0)) t 1 ((up2 G t 0 (G a1 0)) a1 1)) t 2 ((up2 (up2 G t 0 (G a1 0)) t 1 ((up2 G t 0 (G a1 0)) a1 1)) a1 2)) t 3 ((up2 (up2 (up2 G t 0 (G a1 0)) t 1 ((up2 G t 0 (G a1 0)) a1 1)) t 2 ((up2 (up2 G t 0 (G a1 0)) t 1 ((up2 G t 0 (G a1 0)) a1 1)) a1 2)) a1 3)) a1 4)) a1 5)) (fsf := fsL) (ty := .int) S K X ht.2 xE_loc (fun _ => (xE_L ht)) rfl uX1_copyFrom_X1 tyX1 tyX1_ok nmX1 5 (by decide) kX1_copyFrom_33 rfl (by decide +kernel) rfl rfl (by simp) rfl dX1_copyFrom_45 (fun H locs X => ?_)
  refine lv_aload_n S.1 S.2.1 dX1_copyFrom_48 rfl (lv_at hl 0 rfl) ?_
  refine lv_aload_n S.1 S.2.1 dX1_copyFrom_49 rfl (lv_at hl 1 rfl) ?_
  refine zr_get (v := .int ((up2 (up2 (up2 (up2 (up2 (up2 G t 0 (G a1 0)) t 1 ((up2 G t 0 (G a1 0)) a1 1)) t 2 ((up2 (up2 G t 0 (G a1 0)) t 1 ((up2 G t 0 (G a1 0)) a1 1)) a1 2)) t 3 ((up2 (up2 (up2 G t 0 (G a1 0)) t 1 ((up2 G t 0 (G a1 0)) a1 1)) t 2 ((up2 (up2 G t 0 (G a1 0)) t 1 ((up2 G t 0 (G a1 0)) a1 1)) a1 2)) a1 3)) t 4 ((up2 (up2 (up2 (up2 G t 0 (G a1 0)) t 1 ((up2 G t 0 (G a1 0)) a1 1)) t 2 ((up2 (up2 G t 0 (G a1 0)) t 1 ((up2 G t 0 (G a1 0)) a1 1)) a1 2)) t 3 ((up2 (up2 (up2 G t 0 (G a1 0)) t 1 ((up2 G t 0 (G a1 0)) a1 1)) t 2 ((up2 (up2 G t 0 (G a1 0)) t 1 ((up2 G t 0 (G a1 0)) a1 1)) a1 2)) a1 3)) a1 4)) t 5 ((up2 (up2 (up2 (up2 (up2 G t 0 (G a1 0)) t 1 ((up2 G t 0 (G a1 0)) a1 1)) t 2 ((up2 (up2 G t 0 (G a1 0)) t 1 ((up2 G t 0 (G a1 0)) a1 1)) a1 2)) t 3 ((up2 (up2 (up2 G t 0 (G a1 0)) t 1 ((up2 G t 0 (G a1 0)) a1 1)) t 2 ((up2 (up2 G t 0 (G a1 0)) t 1 ((up2 G t 0 (G a1 0)) a1 1)) a1 2)) a1 3)) t 4 ((up2 (up2 (up2 (up2 G t 0 (G a1 0)) t 1 ((up2 G t 0 (G a1 0)) a1 1)) t 2 ((up2 (up2 G t 0 (G a1 0)) t 1 ((up2 G t 0 (G a1 0)) a1 1)) a1 2)) t 3 ((up2 (up2 (up2 G t 0 (G a1 0)) t 1 ((up2 G t 0 (G a1 0)) a1 1)) t 2 ((up2 (up2 G t 0 (G a1 0)) t 1 ((up2 G t 0 (G a1 0)) a1 1)) a1 2)) a1 3)) a1 4)) a1 5)) a1 6)) S K X ha1.2 (xE_L ha1) rfl uX1_copyFrom_X1 6 (by decide) kX1_copyFrom_39 rfl rfl dX1_copyFrom_50 ?_
  refine zr_put (xv := ((up2 (up2 (up2 (up2 (up2 (up2 G t 0 (G a1 0)) t 1 ((up2 G t 0 (G a1 0)) a1 1)) t 2 ((up2 (up2 G t 0 (G a1 0)) t 1 ((up2 G t 0 (G a1 0)) a1 1)) a1 2)) t 3 ((up2 (up2 (up2 G t 0 (G a1 0)) t 1 ((up2 G t 0 (G a1 0)) a1 1)) t 2 ((up2 (up2 G t 0 (G a1 0)) t 1 ((up2 G t 0 (G a1 0)) a1 1)) a1 2)) a1 3)) t 4 ((up2 (up2 (up2 (up2 G t 0 (G a1 0)) t 1 ((up2 G t 0 (G a1 0)) a1 1)) t 2 ((up2 (up2 G t 0 (G a1 0)) t 1 ((up2 G t 0 (G a1 0)) a1 1)) a1 2)) t 3 ((up2 (up2 (up2 G t 0 (G a1 0)) t 1 ((up2 G t 0 (G a1 0)) a1 1)) t 2 ((up2 (up2 G t 0 (G a1 0)) t 1 ((up2 G t 0 (G a1 0)) a1 1)) a1 2)) a1 3)) a1 4)) t 5 ((up2 (up2 (up2 (up2 (up2 G t 0 (G a1 0)) t 1 ((up2 G t 0 (G a1 0)) a1 1)) t 2 ((up2 (up2 G t 0 (G a1 0)) t 1 ((up2 G t 0 (G a1 0)) a1 1)) a1 2)) t 3 ((up2 (up2 (up2 G t 0 (G a1 0)) t 1 ((up2 G t 0 (G a1 0)) a1 1)) t 2 ((up2 (up2 G t 0 (G a1 0)) t 1 ((up2 G t 0 (G a1 0)) a1 1)) a1 2)) a1 3)) t 4 ((up2 (up2 (up2 (up2 G t 0 (G a1 0)) t 1 ((up2 G t 0 (G a1 0)) a1 1)) t 2 ((up2 (up2 G t 0 (G a1 0)) t 1 ((up2 G t 0 (G a1 0)) a1 1)) a1 2)) t 3 ((up2 (up2 (up2 G t 0 (G a1 0)) t 1 ((up2 G t 0 (G a1 0)) a1 1)) t 2 ((up2 (up2 G t 0 (G a1 0)) t 1 ((up2 G t 0 (G a1 0)) a1 1)) a1 2)) a1 3)) a1 4)) a1 5)) a1 6)) (v := .int ((up2 (up2 (up2 (up2 (up2 (up2 G t 0 (G a1 0)) t 1 ((up2 G t 0 (G a1 0)) a1 1)) t 2 ((up2 (up2 G t 0 (G a1 0)) t 1 ((up2 G t 0 (G a1 0)) a1 1)) a1 2)) t 3 ((up2 (up2 (up2 G t 0 (G a1 0)) t 1 ((up2 G t 0 (G a1 0)) a1 1)) t 2 ((up2 (up2 G t 0 (G a1 0)) t 1 ((up2 G t 0 (G a1 0)) a1 1)) a1 2)) a1 3)) t 4 ((up2 (up2 (up2 (up2 G t 0 (G a1 0)) t 1 ((up2 G t 0 (G a1 0)) a1 1)) t 2 ((up2 (up2 G t 0 (G a1 0)) t 1 ((up2 G t 0 (G a1 0)) a1 1)) a1 2)) t 3 ((up2 (up2 (up2 G t 0 (G a1 0)) t 1 ((up2 G t 0 (G a1 0)) a1 1)) t 2 ((up2 (up2 G t 0 (G a1 0)) t 1 ((up2 G t 0 (G a1 0)) a1 1)) a1 2)) a1 3)) a1 4)) t 5 ((up2 (up2 (up2 (up2 (up2 G t 0 (G a1 0)) t 1 ((up2 G t 0 (G a1 0)) a1 1)) t 2 ((up2 (up2 G t 0 (G a1 0)) t 1 ((up2 G t 0 (G a1 0)) a1 1)) a1 2)) t 3 ((up2 (up2 (up2 G t 0 (G a1 0)) t 1 ((up2 G t 0 (G a1 0)) a1 1)) t 2 ((up2 (up2 G t 0 (G a1 0)) t 1 ((up2 G t 0 (G a1 0)) a1 1)) a1 2)) a1 3)) t 4 ((up2 (up2 (up2 (up2 G t 0 (G a1 0)) t 1 ((up2 G t 0 (G a1 0)) a1 1)) t 2 ((up2 (up2 G t 0 (G a1 0)) t 1 ((up2 G t 0 (G a1 0)) a1 1)) a1 2)) t 3 ((up2 (up2 (up2 G t 0 (G a1 0)) t 1 ((up2 G t 0 (G a1 0)) a1 1)) t 2 ((up2 (up2 G t 0 (G a1 0)) t 1 ((up2 G t 0 (G a1 0)) a1 1)) a1 2)) a1 3)) a1 4)) a1 5)) a1 6)) (fsf := fsL) (ty := .int) S K X ht.2 xE_loc (fun _ => (xE_L ht)) rfl uX1_copyFrom_X1 tyX1 tyX1_ok nmX1 6 (by decide) kX1_copyFrom_39 rfl (by decide +kernel) rfl rfl (by simp) rfl dX1_copyFrom_53 (fun H locs X => ?_)
  exact zr_vret S hr hlk X h dX1_copyFrom_56
set_option maxRecDepth 20000 in
theorem ggX1_passHour_X0_endOf : GoodIn wsX1_passHour wsX0_endOf := goodIn_r _ [10, 11, 27, 28, 29, 30, 31, 32, 33, 34, 35, 36] (by decide +kernel) (by decide +kernel)
set_option maxRecDepth 20000 in
theorem gX1_passHour_X0_endOf : GoodIn wsX1_passHour (wsV RX1 42 RX0 yX0_endOf wsX0_endOf) := goodIn_app (goodIn_of _ (by decide +kernel)) ggX1_passHour_X0_endOf
set_option maxRecDepth 20000 in
theorem ggX1_passHour_X0_onCell : GoodIn wsX1_passHour wsX0_onCell := goodIn_r _ [15, 16, 27, 28, 29, 30, 31, 32, 33, 34, 35, 36] (by decide +kernel) (by decide +kernel)
set_option maxRecDepth 20000 in
theorem gX1_passHour_X0_onCell : GoodIn wsX1_passHour (wsV RX1 46 RX0 yX0_onCell wsX0_onCell) := goodIn_app (goodIn_of _ (by decide +kernel)) ggX1_passHour_X0_onCell
set_option maxRecDepth 20000 in
theorem ggX1_passHour_X4_bitOf : GoodIn wsX1_passHour wsX4_bitOf := goodIn_r _ [19] (by decide +kernel) (by decide +kernel)
set_option maxRecDepth 20000 in
theorem gX1_passHour_X4_bitOf_n49 : GoodIn wsX1_passHour (wsX4_bitOf) := ggX1_passHour_X4_bitOf
theorem dX1_passHour_0 : decode cX1_passHour 0 = .ok (.aload_n 0, 1) := by decide +kernel
theorem dX1_passHour_1 : decode cX1_passHour 1 = .ok (.getfield 33, 3) := by decide +kernel
theorem dX1_passHour_4 : decode cX1_passHour 4 = .ok (.ifCond .eq 4, 3) := by decide +kernel
theorem dX1_passHour_7 : decode cX1_passHour 7 = .ok (.return_, 1) := by decide +kernel
theorem dX1_passHour_8 : decode cX1_passHour 8 = .ok (.aload_n 1, 1) := by decide +kernel
theorem dX1_passHour_9 : decode cX1_passHour 9 = .ok (.aload_n 0, 1) := by decide +kernel
theorem dX1_passHour_10 : decode cX1_passHour 10 = .ok (.getfield 39, 3) := by decide +kernel
theorem dX1_passHour_13 : decode cX1_passHour 13 = .ok (.iload_n 2, 1) := by decide +kernel
theorem dX1_passHour_14 : decode cX1_passHour 14 = .ok (.aload_n 0, 1) := by decide +kernel
theorem dX1_passHour_15 : decode cX1_passHour 15 = .ok (.getfield 27, 3) := by decide +kernel
theorem dX1_passHour_18 : decode cX1_passHour 18 = .ok (.invokevirtual 42, 3) := by decide +kernel
theorem dX1_passHour_21 : decode cX1_passHour 21 = .ok (.istore 4, 2) := by decide +kernel
theorem dX1_passHour_23 : decode cX1_passHour 23 = .ok (.iload 4, 2) := by decide +kernel
theorem dX1_passHour_25 : decode cX1_passHour 25 = .ok (.iconst (-1), 1) := by decide +kernel
theorem dX1_passHour_26 : decode cX1_passHour 26 = .ok (.if_icmp .ne 4, 3) := by decide +kernel
theorem dX1_passHour_29 : decode cX1_passHour 29 = .ok (.return_, 1) := by decide +kernel
theorem dX1_passHour_30 : decode cX1_passHour 30 = .ok (.aload_n 0, 1) := by decide +kernel
theorem dX1_passHour_31 : decode cX1_passHour 31 = .ok (.iload 4, 2) := by decide +kernel
theorem dX1_passHour_33 : decode cX1_passHour 33 = .ok (.putfield 27, 3) := by decide +kernel
theorem dX1_passHour_36 : decode cX1_passHour 36 = .ok (.aload_n 1, 1) := by decide +kernel
theorem dX1_passHour_37 : decode cX1_passHour 37 = .ok (.iload 4, 2) := by decide +kernel
theorem dX1_passHour_39 : decode cX1_passHour 39 = .ok (.invokevirtual 46, 3) := by decide +kernel
theorem dX1_passHour_42 : decode cX1_passHour 42 = .ok (.istore 5, 2) := by decide +kernel
theorem dX1_passHour_44 : decode cX1_passHour 44 = .ok (.iload 5, 2) := by decide +kernel
theorem dX1_passHour_46 : decode cX1_passHour 46 = .ok (.ifCond .ge 4, 3) := by decide +kernel
theorem dX1_passHour_49 : decode cX1_passHour 49 = .ok (.return_, 1) := by decide +kernel
theorem dX1_passHour_50 : decode cX1_passHour 50 = .ok (.iload 5, 2) := by decide +kernel
theorem dX1_passHour_52 : decode cX1_passHour 52 = .ok (.aload_n 0, 1) := by decide +kernel
theorem dX1_passHour_53 : decode cX1_passHour 53 = .ok (.getfield 18, 3) := by decide +kernel
theorem dX1_passHour_56 : decode cX1_passHour 56 = .ok (.if_icmp .eq 19, 3) := by decide +kernel
theorem dX1_passHour_59 : decode cX1_passHour 59 = .ok (.iload_n 3, 1) := by decide +kernel
theorem dX1_passHour_60 : decode cX1_passHour 60 = .ok (.iload 5, 2) := by decide +kernel
theorem dX1_passHour_62 : decode cX1_passHour 62 = .ok (.invokestatic 49, 3) := by decide +kernel
theorem dX1_passHour_65 : decode cX1_passHour 65 = .ok (.iconst 1, 1) := by decide +kernel
theorem dX1_passHour_66 : decode cX1_passHour 66 = .ok (.if_icmp .ne 9, 3) := by decide +kernel
theorem dX1_passHour_69 : decode cX1_passHour 69 = .ok (.aload_n 0, 1) := by decide +kernel
theorem dX1_passHour_70 : decode cX1_passHour 70 = .ok (.iconst 2, 1) := by decide +kernel
theorem dX1_passHour_71 : decode cX1_passHour 71 = .ok (.putfield 33, 3) := by decide +kernel
theorem dX1_passHour_74 : decode cX1_passHour 74 = .ok (.return_, 1) := by decide +kernel
theorem dX1_passHour_75 : decode cX1_passHour 75 = .ok (.aload_n 0, 1) := by decide +kernel
theorem dX1_passHour_76 : decode cX1_passHour 76 = .ok (.dup, 1) := by decide +kernel
theorem dX1_passHour_77 : decode cX1_passHour 77 = .ok (.getfield 30, 3) := by decide +kernel
theorem dX1_passHour_80 : decode cX1_passHour 80 = .ok (.iconst 1, 1) := by decide +kernel
theorem dX1_passHour_81 : decode cX1_passHour 81 = .ok (.iload 5, 2) := by decide +kernel
theorem dX1_passHour_83 : decode cX1_passHour 83 = .ok (.ishl, 1) := by decide +kernel
theorem dX1_passHour_84 : decode cX1_passHour 84 = .ok (.ior, 1) := by decide +kernel
theorem dX1_passHour_85 : decode cX1_passHour 85 = .ok (.putfield 30, 3) := by decide +kernel
theorem dX1_passHour_88 : decode cX1_passHour 88 = .ok (.iload 5, 2) := by decide +kernel
theorem dX1_passHour_90 : decode cX1_passHour 90 = .ok (.aload_n 0, 1) := by decide +kernel
theorem dX1_passHour_91 : decode cX1_passHour 91 = .ok (.getfield 18, 3) := by decide +kernel
theorem dX1_passHour_94 : decode cX1_passHour 94 = .ok (.if_icmp .ne 8, 3) := by decide +kernel
theorem dX1_passHour_97 : decode cX1_passHour 97 = .ok (.aload_n 0, 1) := by decide +kernel
theorem dX1_passHour_98 : decode cX1_passHour 98 = .ok (.iconst 1, 1) := by decide +kernel
theorem dX1_passHour_99 : decode cX1_passHour 99 = .ok (.putfield 33, 3) := by decide +kernel
theorem dX1_passHour_102 : decode cX1_passHour 102 = .ok (.return_, 1) := by decide +kernel
set_option maxRecDepth 20000 in
theorem kX1_passHour_18 : Cond.fieldLink RX1 18 "WindPost$Letter" "to" "I" ∈ wsX1_passHour := by decide +kernel
set_option maxRecDepth 20000 in
theorem kX1_passHour_27 : Cond.fieldLink RX1 27 "WindPost$Letter" "place" "I" ∈ wsX1_passHour := by decide +kernel
set_option maxRecDepth 20000 in
theorem kX1_passHour_30 : Cond.fieldLink RX1 30 "WindPost$Letter" "marks" "I" ∈ wsX1_passHour := by decide +kernel
set_option maxRecDepth 20000 in
theorem kX1_passHour_33 : Cond.fieldLink RX1 33 "WindPost$Letter" "how" "I" ∈ wsX1_passHour := by decide +kernel
set_option maxRecDepth 20000 in
theorem kX1_passHour_39 : Cond.fieldLink RX1 39 "WindPost$Letter" "reach" "I" ∈ wsX1_passHour := by decide +kernel
set_option maxRecDepth 20000 in
theorem uX1_passHour_X1 : ∀ w ∈ wsX10, w ∈ wsX1_passHour := by decide +kernel
set_option maxRecDepth 20000 in
theorem nX1_passHour_49_s : Cond.static yX4_bitOf ∈ wsX1_passHour := by decide +kernel
set_option maxRecDepth 20000 in
theorem nX1_passHour_49_i : Cond.initialized RX4 ∈ wsX1_passHour := by decide +kernel
set_option maxHeartbeats 8000000 in
set_option maxRecDepth 100000 in
theorem mX1_passHour (l : Launch) (D : va_G) (ki : Nat → ClassId) (ad : Nat → Nat) (cs : List Nat) (hcs : kW cs) (N : Nat) (t : Nat) (a1 : Nat) (a2 : Int32) (a3 : Int32) (ht : kL cs t) (ha1 : kC cs a1) (G : zMem) (tr : Int64) : gMetV l D ki ad cs yX1_passHour wsX1_passHour { frames := 1, cells := 0, slots := 0, locals := 23 } [.ref (ad t), .ref (ad a1), .int a2, .int a3] (xE ki ad) G tr (fX1_passHour N t a1 a2 a3 G tr) := by
  refine gMetV_of (cc := cX1_passHour) (maxL := 6) (ret := none) (own := RX1) (by decide +kernel) rfl rfl (Nat.le_of_ble_eq_true rfl) ?_
  intro r9 G9 tr9 h p e s m below meth c S hr hlk K X ls hl
  have hl : lv_has ls 6 [(0, .ref (ad t)), (1, .ref (ad a1)), (2, .int a2), (3, .int a3)] := hl
  have b75 : ∀ (x5 : Int32) (G : zMem) (tr : Int64), fX1_passHour_b75 N t a1 a2 a3 x5 G tr = some (r9, G9, tr9) → zAt p l e (headSpec wsX1_passHour { frames := 1, cells := 0, slots := 0, locals := 23 }).room s m ([.ref (ad t), .ref (ad a1), .int a2, .int a3] : List Value).toArray below meth c 6 D cs ad (zQV below ([.ref (ad t), .ref (ad a1), .int a2, .int a3] : List Value).toArray s D cs ad ((xE ki ad) G9 tr9)) 75 [(0, .ref (ad t)), (5, .int x5)] [] ((xE ki ad) G tr) := by
    intro x5 G tr h H locs ls X hl
    unfold fX1_passHour_b75 at h
    refine lv_aload_n S.1 S.2.1 dX1_passHour_75 rfl (lv_at hl 0 rfl) ?_
    refine lv_dup S.1 S.2.1 dX1_passHour_76 rfl ?_
    refine zr_get (v := .int (G t 4)) S K X ht.2 (xE_L ht) rfl uX1_passHour_X1 4 (by decide) kX1_passHour_30 rfl rfl dX1_passHour_77 ?_
    refine lv_iconst (v := (1 : Int32)) S.1 S.2.1 dX1_passHour_80 (by decide) ?_
    refine lv_iload S.1 S.2.1 dX1_passHour_81 (lv_at hl 1 rfl) ?_
    refine lv_ishl S.1 S.2.1 dX1_passHour_83 ?_
    refine lv_ior S.1 S.2.1 dX1_passHour_84 ?_
    refine zr_put (xv := ((G t 4) ||| ((1 : Int32) <<< (x5 &&& 31)))) (v := .int ((G t 4) ||| ((1 : Int32) <<< (x5 &&& 31)))) (fsf := fsL) (ty := .int) S K X ht.2 xE_loc (fun _ => (xE_L ht)) rfl uX1_passHour_X1 tyX1 tyX1_ok nmX1 4 (by decide) kX1_passHour_30 rfl (by decide +kernel) rfl rfl (by simp) rfl dX1_passHour_85 (fun H locs X => ?_)
    refine lv_iload S.1 S.2.1 dX1_passHour_88 (lv_at hl 1 rfl) ?_
    refine lv_aload_n S.1 S.2.1 dX1_passHour_90 rfl (lv_at hl 0 rfl) ?_
    refine zr_get (v := .int ((up2 G t 4 ((G t 4) ||| ((1 : Int32) <<< (x5 &&& 31)))) t 2)) S K X ht.2 (xE_L ht) rfl uX1_passHour_X1 2 (by decide) kX1_passHour_18 rfl rfl dX1_passHour_91 ?_
    refine lv_icmp_ne (tgt := 102) S.1 S.2.1 dX1_passHour_94 (by decide) (fun hc_1 => ?_) (fun hc_1 => ?_)
    · have h := zif_neg hc_1 h
      exact zr_vret S hr hlk X h dX1_passHour_102
    · have h := zif_pos hc_1 h
      refine lv_aload_n S.1 S.2.1 dX1_passHour_97 rfl (lv_at hl 0 rfl) ?_
      refine lv_iconst (v := (1 : Int32)) S.1 S.2.1 dX1_passHour_98 (by decide) ?_
      refine zr_put (xv := (1 : Int32)) (v := .int (1 : Int32)) (fsf := fsL) (ty := .int) S K X ht.2 xE_loc (fun _ => (xE_L ht)) rfl uX1_passHour_X1 tyX1 tyX1_ok nmX1 5 (by decide) kX1_passHour_33 rfl (by decide +kernel) rfl rfl (by simp) rfl dX1_passHour_99 (fun H locs X => ?_)
      exact zr_vret S hr hlk X h dX1_passHour_102
  unfold fX1_passHour at h
  obtain ⟨H, hH⟩ : ∃ H, H = s.heap := ⟨_, rfl⟩
  obtain ⟨locs, hlo⟩ : ∃ locs : List Loc, locs = [] := ⟨_, rfl⟩
  have X : gS D cs ad ((xE ki ad) G tr) (gA cs ad s.heap.size) s H locs := by rw [hH, hlo]; exact X
  suffices z : W p l e (headSpec wsX1_passHour { frames := 1, cells := 0, slots := 0, locals := 23 }).room s m ([.ref (ad t), .ref (ad a1), .int a2, .int a3] : List Value).toArray below meth c H locs 0 0 (zQV below ([.ref (ad t), .ref (ad a1), .int a2, .int a3] : List Value).toArray s D cs ad ((xE ki ad) G9 tr9)) (F0 m 0 ls []) by rw [hH, hlo] at z; exact z
  clear hH hlo
  refine lv_aload_n S.1 S.2.1 dX1_passHour_0 rfl (lv_at hl 0 rfl) ?_
  refine zr_get (v := .int (G t 5)) S K X ht.2 (xE_L ht) rfl uX1_passHour_X1 5 (by decide) kX1_passHour_33 rfl rfl dX1_passHour_1 ?_
  refine lv_if_eq (tgt := 8) S.1 S.2.1 dX1_passHour_4 (by decide) (fun hc_1 => ?_) (fun hc_1 => ?_)
  · have h := zif_pos hc_1 h
    refine lv_aload_n S.1 S.2.1 dX1_passHour_8 rfl (lv_at hl 1 rfl) ?_
    refine lv_aload_n S.1 S.2.1 dX1_passHour_9 rfl (lv_at hl 0 rfl) ?_
    refine zr_get (v := .int (G t 6)) S K X ht.2 (xE_L ht) rfl uX1_passHour_X1 6 (by decide) kX1_passHour_39 rfl rfl dX1_passHour_10 ?_
    refine lv_iload_n S.1 S.2.1 dX1_passHour_13 rfl (lv_at hl 2 rfl) ?_
    refine lv_aload_n S.1 S.2.1 dX1_passHour_14 rfl (lv_at hl 0 rfl) ?_
    refine zr_get (v := .int (G t 3)) S K X ht.2 (xE_L ht) rfl uX1_passHour_X1 3 (by decide) kX1_passHour_27 rfl rfl dX1_passHour_15 ?_
    obtain ⟨r_3, G_4, tr_5, hf_2, h⟩ := zbd_some h
    refine zr_calli (Eg := (xE ki ad)) K X (va_runV (As := [.int (G t 6), .int a2, .int (G t 3)]) (rest := []) S (mX0_endOf l D ki ad cs  N a1 (G t 6) a2 (G t 3) ha1 G tr H.size _ _ _ hf_2) (cwV 3 S.2.2.2.2 gX1_passHour_X0_endOf rfl rfl rfl (by decide +kernel) ⟨Nat.le_of_ble_eq_true rfl, Nat.le_of_ble_eq_true rfl⟩) (zr_preV (c0 := a1) K X (ha1.2 0 (by decide)) (xE_C ha1) rfl) rfl rfl hl.1 rfl (lv_room (Nat.le_of_ble_eq_true rfl)) dX1_passHour_18 ⟨Nat.zero_le _, Nat.zero_le _⟩) (fun H locs X => ?_)
    refine lv_istore (lv' := [(4, .int r_3), (0, .ref (ad t)), (1, .ref (ad a1)), (2, .int a2), (3, .int a3)]) S.1 S.2.1 dX1_passHour_21 hl (by decide) rfl (fun ls hl => ?_)
    refine lv_iload S.1 S.2.1 dX1_passHour_23 (lv_at hl 0 rfl) ?_
    refine lv_iconst (v := (-1 : Int32)) S.1 S.2.1 dX1_passHour_25 (by decide) ?_
    refine lv_icmp_ne (tgt := 30) S.1 S.2.1 dX1_passHour_26 (by decide) (fun hc_6 => ?_) (fun hc_6 => ?_)
    · have h := zif_neg hc_6 h
      refine lv_aload_n S.1 S.2.1 dX1_passHour_30 rfl (lv_at hl 1 rfl) ?_
      refine lv_iload S.1 S.2.1 dX1_passHour_31 (lv_at hl 0 rfl) ?_
      refine zr_put (xv := r_3) (v := .int r_3) (fsf := fsL) (ty := .int) S K X ht.2 xE_loc (fun _ => (xE_L ht)) rfl uX1_passHour_X1 tyX1 tyX1_ok nmX1 3 (by decide) kX1_passHour_27 rfl (by decide +kernel) rfl rfl (by simp) rfl dX1_passHour_33 (fun H locs X => ?_)
      refine lv_aload_n S.1 S.2.1 dX1_passHour_36 rfl (lv_at hl 2 rfl) ?_
      refine lv_iload S.1 S.2.1 dX1_passHour_37 (lv_at hl 0 rfl) ?_
      obtain ⟨r_8, G_9, tr_10, hf_7, h⟩ := zbd_some h
      refine zr_calli (Eg := (xE ki ad)) K X (va_runV (As := [.int r_3]) (rest := []) S (mX0_onCell l D ki ad cs  N a1 r_3 ha1 (up2 G_4 t 3 r_3) tr_5 H.size _ _ _ hf_7) (cwV 1 S.2.2.2.2 gX1_passHour_X0_onCell rfl rfl rfl (by decide +kernel) ⟨Nat.le_of_ble_eq_true rfl, Nat.le_of_ble_eq_true rfl⟩) (zr_preV (c0 := a1) K X (ha1.2 0 (by decide)) (xE_C ha1) rfl) rfl rfl hl.1 rfl (lv_room (Nat.le_of_ble_eq_true rfl)) dX1_passHour_39 ⟨Nat.zero_le _, Nat.zero_le _⟩) (fun H locs X => ?_)
      refine lv_istore (lv' := [(5, .int r_8), (4, .int r_3), (0, .ref (ad t)), (1, .ref (ad a1)), (2, .int a2), (3, .int a3)]) S.1 S.2.1 dX1_passHour_42 hl (by decide) rfl (fun ls hl => ?_)
      refine lv_iload S.1 S.2.1 dX1_passHour_44 (lv_at hl 0 rfl) ?_
      refine lv_if_ge (tgt := 50) S.1 S.2.1 dX1_passHour_46 (by decide) (fun hc_11 => ?_) (fun hc_11 => ?_)
      · have h := zif_pos hc_11 h
        refine lv_iload S.1 S.2.1 dX1_passHour_50 (lv_at hl 0 rfl) ?_
        refine lv_aload_n S.1 S.2.1 dX1_passHour_52 rfl (lv_at hl 2 rfl) ?_
        refine zr_get (v := .int (G_9 t 2)) S K X ht.2 (xE_L ht) rfl uX1_passHour_X1 2 (by decide) kX1_passHour_18 rfl rfl dX1_passHour_53 ?_
        refine lv_icmp_eq (tgt := 75) S.1 S.2.1 dX1_passHour_56 (by decide) (fun hc_12 => ?_) (fun hc_12 => ?_)
        · have h := zif_pos hc_12 h
          exact b75 r_8 G_9 tr_10 h _ _ _ X (lv_sub hl [2, 0] rfl)
        · have h := zif_neg hc_12 h
          refine lv_iload_n S.1 S.2.1 dX1_passHour_59 rfl (lv_at hl 5 rfl) ?_
          refine lv_iload S.1 S.2.1 dX1_passHour_60 (lv_at hl 0 rfl) ?_
          obtain ⟨r_14, hf_13, h⟩ := zbp_some h
          refine zr_calli (Eg := (xE ki ad)) (G' := G_9) (tr' := tr_10) K X (va_runSN (As := [.int a3, .int r_8]) (rest := []) S (mX4_bitOf l D ki ad cs N a3 r_8 (xE ki ad) G_9 tr_10 H.size _ _ _ (zpu_of hf_13)) ⟨va_cnB 2 S.2.2.2.2 gX1_passHour_X4_bitOf_n49 rfl rfl rfl K.2.1.2.2.2.2 (S.2.2.2.2 _ nX1_passHour_49_i) (by decide +kernel) ⟨Nat.le_of_ble_eq_true rfl, Nat.le_of_ble_eq_true rfl⟩, S.2.2.2.2 _ nX1_passHour_49_s, trivial⟩ (zr_pre K X) rfl rfl hl.1 rfl (lv_room (Nat.le_of_ble_eq_true rfl)) dX1_passHour_62 ⟨Nat.zero_le _, Nat.zero_le _⟩) (fun H locs X => ?_)
          refine lv_iconst (v := (1 : Int32)) S.1 S.2.1 dX1_passHour_65 (by decide) ?_
          refine lv_icmp_ne (tgt := 75) S.1 S.2.1 dX1_passHour_66 (by decide) (fun hc_15 => ?_) (fun hc_15 => ?_)
          · have h := zif_neg hc_15 h
            exact b75 r_8 G_9 tr_10 h _ _ _ X (lv_sub hl [2, 0] rfl)
          · have h := zif_pos hc_15 h
            refine lv_aload_n S.1 S.2.1 dX1_passHour_69 rfl (lv_at hl 2 rfl) ?_
            refine lv_iconst (v := (2 : Int32)) S.1 S.2.1 dX1_passHour_70 (by decide) ?_
            refine zr_put (xv := (2 : Int32)) (v := .int (2 : Int32)) (fsf := fsL) (ty := .int) S K X ht.2 xE_loc (fun _ => (xE_L ht)) rfl uX1_passHour_X1 tyX1 tyX1_ok nmX1 5 (by decide) kX1_passHour_33 rfl (by decide +kernel) rfl rfl (by simp) rfl dX1_passHour_71 (fun H locs X => ?_)
            exact zr_vret S hr hlk X h dX1_passHour_74
      · have h := zif_neg hc_11 h
        exact zr_vret S hr hlk X h dX1_passHour_49
    · have h := zif_pos hc_6 h
      exact zr_vret S hr hlk X h dX1_passHour_29
  · have h := zif_neg hc_1 h
    exact zr_vret S hr hlk X h dX1_passHour_7
theorem dX2_beginAnew_0 : decode cX2_beginAnew 0 = .ok (.aload_n 0, 1) := by decide +kernel
theorem dX2_beginAnew_1 : decode cX2_beginAnew 1 = .ok (.iconst 0, 1) := by decide +kernel
theorem dX2_beginAnew_2 : decode cX2_beginAnew 2 = .ok (.putfield 22, 3) := by decide +kernel
theorem dX2_beginAnew_5 : decode cX2_beginAnew 5 = .ok (.aload_n 0, 1) := by decide +kernel
theorem dX2_beginAnew_6 : decode cX2_beginAnew 6 = .ok (.iconst 0, 1) := by decide +kernel
theorem dX2_beginAnew_7 : decode cX2_beginAnew 7 = .ok (.putfield 26, 3) := by decide +kernel
theorem dX2_beginAnew_10 : decode cX2_beginAnew 10 = .ok (.aload_n 0, 1) := by decide +kernel
theorem dX2_beginAnew_11 : decode cX2_beginAnew 11 = .ok (.iconst 0, 1) := by decide +kernel
theorem dX2_beginAnew_12 : decode cX2_beginAnew 12 = .ok (.putfield 29, 3) := by decide +kernel
theorem dX2_beginAnew_15 : decode cX2_beginAnew 15 = .ok (.aload_n 0, 1) := by decide +kernel
theorem dX2_beginAnew_16 : decode cX2_beginAnew 16 = .ok (.aload_n 1, 1) := by decide +kernel
theorem dX2_beginAnew_17 : decode cX2_beginAnew 17 = .ok (.getfield 32, 3) := by decide +kernel
theorem dX2_beginAnew_20 : decode cX2_beginAnew 20 = .ok (.putfield 37, 3) := by decide +kernel
theorem dX2_beginAnew_23 : decode cX2_beginAnew 23 = .ok (.iconst 0, 1) := by decide +kernel
theorem dX2_beginAnew_24 : decode cX2_beginAnew 24 = .ok (.istore_n 2, 1) := by decide +kernel
theorem dX2_beginAnew_25 : decode cX2_beginAnew 25 = .ok (.iload_n 2, 1) := by decide +kernel
theorem dX2_beginAnew_26 : decode cX2_beginAnew 26 = .ok (.bipush 12, 2) := by decide +kernel
theorem dX2_beginAnew_28 : decode cX2_beginAnew 28 = .ok (.if_icmp .ge 21, 3) := by decide +kernel
theorem dX2_beginAnew_31 : decode cX2_beginAnew 31 = .ok (.aload_n 0, 1) := by decide +kernel
theorem dX2_beginAnew_32 : decode cX2_beginAnew 32 = .ok (.getfield 9, 3) := by decide +kernel
theorem dX2_beginAnew_35 : decode cX2_beginAnew 35 = .ok (.iload_n 2, 1) := by decide +kernel
theorem dX2_beginAnew_36 : decode cX2_beginAnew 36 = .ok (.aload_n 1, 1) := by decide +kernel
theorem dX2_beginAnew_37 : decode cX2_beginAnew 37 = .ok (.getfield 38, 3) := by decide +kernel
theorem dX2_beginAnew_40 : decode cX2_beginAnew 40 = .ok (.iload_n 2, 1) := by decide +kernel
theorem dX2_beginAnew_41 : decode cX2_beginAnew 41 = .ok (.iaload, 1) := by decide +kernel
theorem dX2_beginAnew_42 : decode cX2_beginAnew 42 = .ok (.iastore, 1) := by decide +kernel
theorem dX2_beginAnew_43 : decode cX2_beginAnew 43 = .ok (.iinc 2 1, 3) := by decide +kernel
theorem dX2_beginAnew_46 : decode cX2_beginAnew 46 = .ok (.goto (-21), 3) := by decide +kernel
theorem dX2_beginAnew_49 : decode cX2_beginAnew 49 = .ok (.return_, 1) := by decide +kernel
set_option maxRecDepth 20000 in
theorem kX2_beginAnew_9 : Cond.fieldLink RX2 9 "WindPost$Moment" "winds" "[I" ∈ wsX2_beginAnew := by decide +kernel
set_option maxRecDepth 20000 in
theorem kX2_beginAnew_22 : Cond.fieldLink RX2 22 "WindPost$Moment" "time" "I" ∈ wsX2_beginAnew := by decide +kernel
set_option maxRecDepth 20000 in
theorem kX2_beginAnew_26 : Cond.fieldLink RX2 26 "WindPost$Moment" "letters" "I" ∈ wsX2_beginAnew := by decide +kernel
set_option maxRecDepth 20000 in
theorem kX2_beginAnew_29 : Cond.fieldLink RX2 29 "WindPost$Moment" "nets" "I" ∈ wsX2_beginAnew := by decide +kernel
set_option maxRecDepth 20000 in
theorem kX2_beginAnew_32 : Cond.fieldLink RX2 32 "WindPost$Chart" "told" "I" ∈ wsX2_beginAnew := by decide +kernel
set_option maxRecDepth 20000 in
theorem kX2_beginAnew_37 : Cond.fieldLink RX2 37 "WindPost$Moment" "told" "I" ∈ wsX2_beginAnew := by decide +kernel
set_option maxRecDepth 20000 in
theorem kX2_beginAnew_38 : Cond.fieldLink RX2 38 "WindPost$Chart" "winds" "[I" ∈ wsX2_beginAnew := by decide +kernel
set_option maxRecDepth 20000 in
theorem uX2_beginAnew_X0 : ∀ w ∈ wsX00, w ∈ wsX2_beginAnew := by decide +kernel
set_option maxRecDepth 20000 in
theorem uX2_beginAnew_X2 : ∀ w ∈ wsX20, w ∈ wsX2_beginAnew := by decide +kernel
set_option maxHeartbeats 8000000 in
set_option maxRecDepth 100000 in
theorem mX2_beginAnew (l : Launch) (D : va_G) (ki : Nat → ClassId) (ad : Nat → Nat) (cs : List Nat) (hcs : kW cs) (N : Nat) (t : Nat) (a1 : Nat) (ht : kM cs t) (ha1 : kC cs a1) (G : zMem) (tr : Int64) : gMetV l D ki ad cs yX2_beginAnew wsX2_beginAnew { frames := 0, cells := 0, slots := 0, locals := 0 } [.ref (ad t), .ref (ad a1)] (xE ki ad) G tr (fX2_beginAnew N t a1 G tr) := by
  refine gMetV_of (cc := cX2_beginAnew) (maxL := 3) (ret := none) (own := RX2) (by decide +kernel) rfl rfl (Nat.le_of_ble_eq_true rfl) ?_
  intro r9 G9 tr9 h p e s m below meth c S hr hlk K X ls hl
  have hl : lv_has ls 3 [(0, .ref (ad t)), (1, .ref (ad a1))] := hl
  have b25 : ∀ (k25 : Int32 → zMem → Int64 → zR) (hk25 : ∀ (x2 : Int32) (G : zMem) (tr : Int64), k25 x2 G tr = some (r9, G9, tr9) → zAt p l e (headSpec wsX2_beginAnew { frames := 0, cells := 0, slots := 0, locals := 0 }).room s m ([.ref (ad t), .ref (ad a1)] : List Value).toArray below meth c 3 D cs ad (zQV below ([.ref (ad t), .ref (ad a1)] : List Value).toArray s D cs ad ((xE ki ad) G9 tr9)) 25 [(0, .ref (ad t)), (1, .ref (ad a1)), (2, .int x2)] [] ((xE ki ad) G tr)) (x2 : Int32) (G : zMem) (tr : Int64), fX2_beginAnew_b25 N t a1 k25 x2 G tr = some (r9, G9, tr9) → zAt p l e (headSpec wsX2_beginAnew { frames := 0, cells := 0, slots := 0, locals := 0 }).room s m ([.ref (ad t), .ref (ad a1)] : List Value).toArray below meth c 3 D cs ad (zQV below ([.ref (ad t), .ref (ad a1)] : List Value).toArray s D cs ad ((xE ki ad) G9 tr9)) 25 [(0, .ref (ad t)), (1, .ref (ad a1)), (2, .int x2)] [] ((xE ki ad) G tr) := by
    intro k25 hk25 x2 G tr h H locs ls X hl
    unfold fX2_beginAnew_b25 at h
    refine lv_iload_n S.1 S.2.1 dX2_beginAnew_25 rfl (lv_at hl 2 rfl) ?_
    refine lv_bipush (v := (12 : Int32)) S.1 S.2.1 dX2_beginAnew_26 (by decide) ?_
    refine lv_icmp_ge (tgt := 49) S.1 S.2.1 dX2_beginAnew_28 (by decide) (fun hc_1 => ?_) (fun hc_1 => ?_)
    · have h := zif_pos hc_1 h
      exact zr_vret S hr hlk X h dX2_beginAnew_49
    · have h := zif_neg hc_1 h
      refine lv_aload_n S.1 S.2.1 dX2_beginAnew_31 rfl (lv_at hl 0 rfl) ?_
      refine zr_get (v := .ref (ad (t + 1))) S K X (ht.2 0 (by decide)) (xE_M ht) rfl uX2_beginAnew_X2 4 (by decide) kX2_beginAnew_9 rfl rfl dX2_beginAnew_32 ?_
      refine lv_iload_n S.1 S.2.1 dX2_beginAnew_35 rfl (lv_at hl 2 rfl) ?_
      refine lv_aload_n S.1 S.2.1 dX2_beginAnew_36 rfl (lv_at hl 1 rfl) ?_
      refine zr_get (v := .ref (ad (a1 + 3))) S K X (ha1.2 0 (by decide)) (xE_C ha1) rfl uX2_beginAnew_X0 8 (by decide) kX2_beginAnew_38 rfl rfl dX2_beginAnew_37 ?_
      refine lv_iload_n S.1 S.2.1 dX2_beginAnew_40 rfl (lv_at hl 2 rfl) ?_
      obtain ⟨hi_2, h⟩ := zin_some h
      refine zr_iald S K X (ha1.2 3 (by decide)) (xE_C3 ha1) hi_2 dX2_beginAnew_41 ?_
      obtain ⟨hi_3, h⟩ := zin_some h
      refine zr_iast S K X (ht.2 1 (by decide)) xE_loc (fun _ => (xE_M1 ht)) hi_3 dX2_beginAnew_42 (fun H locs X => ?_)
      refine lv_iinc (v := (x2 + 1)) (lv' := [(2, .int (x2 + 1)), (0, .ref (ad t)), (1, .ref (ad a1))]) S.1 S.2.1 dX2_beginAnew_43 hl (k := 2) rfl rfl (by decide) rfl (fun ls hl => ?_)
      refine lv_goto (tgt := 25) S.1 S.2.1 dX2_beginAnew_46 (by decide) ?_
      exact hk25 (x2 + 1) (up2 G (t + 1) (Int32.toNatClampNeg x2) (G (a1 + 3) (Int32.toNatClampNeg x2))) tr h _ _ _ X (lv_sub hl [1, 2, 0] rfl)
  have L25 : ∀ (n : Nat) (x2 : Int32) (G : zMem) (tr : Int64), fX2_beginAnew_L25 N t a1 n x2 G tr = some (r9, G9, tr9) → zAt p l e (headSpec wsX2_beginAnew { frames := 0, cells := 0, slots := 0, locals := 0 }).room s m ([.ref (ad t), .ref (ad a1)] : List Value).toArray below meth c 3 D cs ad (zQV below ([.ref (ad t), .ref (ad a1)] : List Value).toArray s D cs ad ((xE ki ad) G9 tr9)) 25 [(0, .ref (ad t)), (1, .ref (ad a1)), (2, .int x2)] [] ((xE ki ad) G tr) := by
    intro n
    induction n with
    | zero => intro x2 G tr h; cases h
    | succ n ih => intro x2 G tr h; exact b25 (fX2_beginAnew_L25 N t a1 n) ih x2 G tr h
  unfold fX2_beginAnew at h
  obtain ⟨H, hH⟩ : ∃ H, H = s.heap := ⟨_, rfl⟩
  obtain ⟨locs, hlo⟩ : ∃ locs : List Loc, locs = [] := ⟨_, rfl⟩
  have X : gS D cs ad ((xE ki ad) G tr) (gA cs ad s.heap.size) s H locs := by rw [hH, hlo]; exact X
  suffices z : W p l e (headSpec wsX2_beginAnew { frames := 0, cells := 0, slots := 0, locals := 0 }).room s m ([.ref (ad t), .ref (ad a1)] : List Value).toArray below meth c H locs 0 0 (zQV below ([.ref (ad t), .ref (ad a1)] : List Value).toArray s D cs ad ((xE ki ad) G9 tr9)) (F0 m 0 ls []) by rw [hH, hlo] at z; exact z
  clear hH hlo
  refine lv_aload_n S.1 S.2.1 dX2_beginAnew_0 rfl (lv_at hl 0 rfl) ?_
  refine lv_iconst (v := (0 : Int32)) S.1 S.2.1 dX2_beginAnew_1 (by decide) ?_
  refine zr_put (xv := (0 : Int32)) (v := .int (0 : Int32)) (fsf := (fsM ad t)) (ty := .int) S K X (ht.2 0 (by decide)) xE_loc (fun _ => (xE_M ht)) rfl uX2_beginAnew_X2 tyX2 tyX2_ok nmX2 0 (by decide) kX2_beginAnew_22 rfl (by decide +kernel) rfl rfl (by simp) rfl dX2_beginAnew_2 (fun H locs X => ?_)
  refine lv_aload_n S.1 S.2.1 dX2_beginAnew_5 rfl (lv_at hl 0 rfl) ?_
  refine lv_iconst (v := (0 : Int32)) S.1 S.2.1 dX2_beginAnew_6 (by decide) ?_
  refine zr_put (xv := (0 : Int32)) (v := .int (0 : Int32)) (fsf := (fsM ad t)) (ty := .int) S K X (ht.2 0 (by decide)) xE_loc (fun _ => (xE_M ht)) rfl uX2_beginAnew_X2 tyX2 tyX2_ok nmX2 1 (by decide) kX2_beginAnew_26 rfl (by decide +kernel) rfl rfl (by simp) rfl dX2_beginAnew_7 (fun H locs X => ?_)
  refine lv_aload_n S.1 S.2.1 dX2_beginAnew_10 rfl (lv_at hl 0 rfl) ?_
  refine lv_iconst (v := (0 : Int32)) S.1 S.2.1 dX2_beginAnew_11 (by decide) ?_
  refine zr_put (xv := (0 : Int32)) (v := .int (0 : Int32)) (fsf := (fsM ad t)) (ty := .int) S K X (ht.2 0 (by decide)) xE_loc (fun _ => (xE_M ht)) rfl uX2_beginAnew_X2 tyX2 tyX2_ok nmX2 2 (by decide) kX2_beginAnew_29 rfl (by decide +kernel) rfl rfl (by simp) rfl dX2_beginAnew_12 (fun H locs X => ?_)
  refine lv_aload_n S.1 S.2.1 dX2_beginAnew_15 rfl (lv_at hl 0 rfl) ?_
  refine lv_aload_n S.1 S.2.1 dX2_beginAnew_16 rfl (lv_at hl 1 rfl) ?_
  refine zr_get (v := .int ((up2 (up2 (up2 G t 0 (0 : Int32)) t 1 (0 : Int32)) t 2 (0 : Int32)) a1 5)) S K X (ha1.2 0 (by decide)) (xE_C ha1) rfl uX2_beginAnew_X0 5 (by decide) kX2_beginAnew_32 rfl rfl dX2_beginAnew_17 ?_
  refine zr_put (xv := ((up2 (up2 (up2 G t 0 (0 : Int32)) t 1 (0 : Int32)) t 2 (0 : Int32)) a1 5)) (v := .int ((up2 (up2 (up2 G t 0 (0 : Int32)) t 1 (0 : Int32)) t 2 (0 : Int32)) a1 5)) (fsf := (fsM ad t)) (ty := .int) S K X (ht.2 0 (by decide)) xE_loc (fun _ => (xE_M ht)) rfl uX2_beginAnew_X2 tyX2 tyX2_ok nmX2 3 (by decide) kX2_beginAnew_37 rfl (by decide +kernel) rfl rfl (by simp) rfl dX2_beginAnew_20 (fun H locs X => ?_)
  refine lv_iconst (v := (0 : Int32)) S.1 S.2.1 dX2_beginAnew_23 (by decide) ?_
  refine lv_istore_n (lv' := [(2, .int (0 : Int32)), (0, .ref (ad t)), (1, .ref (ad a1))]) S.1 S.2.1 dX2_beginAnew_24 rfl hl (by decide) rfl (fun ls hl => ?_)
  exact L25 N (0 : Int32) (up2 (up2 (up2 (up2 G t 0 (0 : Int32)) t 1 (0 : Int32)) t 2 (0 : Int32)) t 3 ((up2 (up2 (up2 G t 0 (0 : Int32)) t 1 (0 : Int32)) t 2 (0 : Int32)) a1 5)) tr h _ _ _ X (lv_sub hl [1, 2, 0] rfl)
set_option maxRecDepth 20000 in
theorem ggX2_copyFrom_X1_copyFrom : GoodIn wsX2_copyFrom wsX1_copyFrom := goodIn_r _ [11, 12, 13, 14, 15, 16, 17, 18, 25, 26, 27, 28, 29, 30, 31] (by decide +kernel) (by decide +kernel)
set_option maxRecDepth 20000 in
theorem gX2_copyFrom_X1_copyFrom : GoodIn wsX2_copyFrom (wsV RX2 39 RX1 yX1_copyFrom wsX1_copyFrom) := goodIn_app (goodIn_of _ (by decide +kernel)) ggX2_copyFrom_X1_copyFrom
theorem dX2_copyFrom_0 : decode cX2_copyFrom 0 = .ok (.aload_n 0, 1) := by decide +kernel
theorem dX2_copyFrom_1 : decode cX2_copyFrom 1 = .ok (.aload_n 1, 1) := by decide +kernel
theorem dX2_copyFrom_2 : decode cX2_copyFrom 2 = .ok (.getfield 22, 3) := by decide +kernel
theorem dX2_copyFrom_5 : decode cX2_copyFrom 5 = .ok (.putfield 22, 3) := by decide +kernel
theorem dX2_copyFrom_8 : decode cX2_copyFrom 8 = .ok (.aload_n 0, 1) := by decide +kernel
theorem dX2_copyFrom_9 : decode cX2_copyFrom 9 = .ok (.aload_n 1, 1) := by decide +kernel
theorem dX2_copyFrom_10 : decode cX2_copyFrom 10 = .ok (.getfield 26, 3) := by decide +kernel
theorem dX2_copyFrom_13 : decode cX2_copyFrom 13 = .ok (.putfield 26, 3) := by decide +kernel
theorem dX2_copyFrom_16 : decode cX2_copyFrom 16 = .ok (.aload_n 0, 1) := by decide +kernel
theorem dX2_copyFrom_17 : decode cX2_copyFrom 17 = .ok (.aload_n 1, 1) := by decide +kernel
theorem dX2_copyFrom_18 : decode cX2_copyFrom 18 = .ok (.getfield 29, 3) := by decide +kernel
theorem dX2_copyFrom_21 : decode cX2_copyFrom 21 = .ok (.putfield 29, 3) := by decide +kernel
theorem dX2_copyFrom_24 : decode cX2_copyFrom 24 = .ok (.aload_n 0, 1) := by decide +kernel
theorem dX2_copyFrom_25 : decode cX2_copyFrom 25 = .ok (.aload_n 1, 1) := by decide +kernel
theorem dX2_copyFrom_26 : decode cX2_copyFrom 26 = .ok (.getfield 37, 3) := by decide +kernel
theorem dX2_copyFrom_29 : decode cX2_copyFrom 29 = .ok (.putfield 37, 3) := by decide +kernel
theorem dX2_copyFrom_32 : decode cX2_copyFrom 32 = .ok (.iconst 0, 1) := by decide +kernel
theorem dX2_copyFrom_33 : decode cX2_copyFrom 33 = .ok (.istore_n 2, 1) := by decide +kernel
theorem dX2_copyFrom_34 : decode cX2_copyFrom 34 = .ok (.iload_n 2, 1) := by decide +kernel
theorem dX2_copyFrom_35 : decode cX2_copyFrom 35 = .ok (.bipush 12, 2) := by decide +kernel
theorem dX2_copyFrom_37 : decode cX2_copyFrom 37 = .ok (.if_icmp .ge 21, 3) := by decide +kernel
theorem dX2_copyFrom_40 : decode cX2_copyFrom 40 = .ok (.aload_n 0, 1) := by decide +kernel
theorem dX2_copyFrom_41 : decode cX2_copyFrom 41 = .ok (.getfield 9, 3) := by decide +kernel
theorem dX2_copyFrom_44 : decode cX2_copyFrom 44 = .ok (.iload_n 2, 1) := by decide +kernel
theorem dX2_copyFrom_45 : decode cX2_copyFrom 45 = .ok (.aload_n 1, 1) := by decide +kernel
theorem dX2_copyFrom_46 : decode cX2_copyFrom 46 = .ok (.getfield 9, 3) := by decide +kernel
theorem dX2_copyFrom_49 : decode cX2_copyFrom 49 = .ok (.iload_n 2, 1) := by decide +kernel
theorem dX2_copyFrom_50 : decode cX2_copyFrom 50 = .ok (.iaload, 1) := by decide +kernel
theorem dX2_copyFrom_51 : decode cX2_copyFrom 51 = .ok (.iastore, 1) := by decide +kernel
theorem dX2_copyFrom_52 : decode cX2_copyFrom 52 = .ok (.iinc 2 1, 3) := by decide +kernel
theorem dX2_copyFrom_55 : decode cX2_copyFrom 55 = .ok (.goto (-21), 3) := by decide +kernel
theorem dX2_copyFrom_58 : decode cX2_copyFrom 58 = .ok (.iconst 0, 1) := by decide +kernel
theorem dX2_copyFrom_59 : decode cX2_copyFrom 59 = .ok (.istore_n 2, 1) := by decide +kernel
theorem dX2_copyFrom_60 : decode cX2_copyFrom 60 = .ok (.iload_n 2, 1) := by decide +kernel
theorem dX2_copyFrom_61 : decode cX2_copyFrom 61 = .ok (.iconst 5, 1) := by decide +kernel
theorem dX2_copyFrom_62 : decode cX2_copyFrom 62 = .ok (.if_icmp .ge 24, 3) := by decide +kernel
theorem dX2_copyFrom_65 : decode cX2_copyFrom 65 = .ok (.aload_n 0, 1) := by decide +kernel
theorem dX2_copyFrom_66 : decode cX2_copyFrom 66 = .ok (.getfield 17, 3) := by decide +kernel
theorem dX2_copyFrom_69 : decode cX2_copyFrom 69 = .ok (.iload_n 2, 1) := by decide +kernel
theorem dX2_copyFrom_70 : decode cX2_copyFrom 70 = .ok (.aaload, 1) := by decide +kernel
theorem dX2_copyFrom_71 : decode cX2_copyFrom 71 = .ok (.aload_n 1, 1) := by decide +kernel
theorem dX2_copyFrom_72 : decode cX2_copyFrom 72 = .ok (.getfield 17, 3) := by decide +kernel
theorem dX2_copyFrom_75 : decode cX2_copyFrom 75 = .ok (.iload_n 2, 1) := by decide +kernel
theorem dX2_copyFrom_76 : decode cX2_copyFrom 76 = .ok (.aaload, 1) := by decide +kernel
theorem dX2_copyFrom_77 : decode cX2_copyFrom 77 = .ok (.invokevirtual 39, 3) := by decide +kernel
theorem dX2_copyFrom_80 : decode cX2_copyFrom 80 = .ok (.iinc 2 1, 3) := by decide +kernel
theorem dX2_copyFrom_83 : decode cX2_copyFrom 83 = .ok (.goto (-23), 3) := by decide +kernel
theorem dX2_copyFrom_86 : decode cX2_copyFrom 86 = .ok (.return_, 1) := by decide +kernel
set_option maxRecDepth 20000 in
theorem kX2_copyFrom_9 : Cond.fieldLink RX2 9 "WindPost$Moment" "winds" "[I" ∈ wsX2_copyFrom := by decide +kernel
set_option maxRecDepth 20000 in
theorem kX2_copyFrom_17 : Cond.fieldLink RX2 17 "WindPost$Moment" "post" "[LWindPost$Letter;" ∈ wsX2_copyFrom := by decide +kernel
set_option maxRecDepth 20000 in
theorem kX2_copyFrom_22 : Cond.fieldLink RX2 22 "WindPost$Moment" "time" "I" ∈ wsX2_copyFrom := by decide +kernel
set_option maxRecDepth 20000 in
theorem kX2_copyFrom_26 : Cond.fieldLink RX2 26 "WindPost$Moment" "letters" "I" ∈ wsX2_copyFrom := by decide +kernel
set_option maxRecDepth 20000 in
theorem kX2_copyFrom_29 : Cond.fieldLink RX2 29 "WindPost$Moment" "nets" "I" ∈ wsX2_copyFrom := by decide +kernel
set_option maxRecDepth 20000 in
theorem kX2_copyFrom_37 : Cond.fieldLink RX2 37 "WindPost$Moment" "told" "I" ∈ wsX2_copyFrom := by decide +kernel
set_option maxRecDepth 20000 in
theorem uX2_copyFrom_X2 : ∀ w ∈ wsX20, w ∈ wsX2_copyFrom := by decide +kernel
set_option maxHeartbeats 8000000 in
set_option maxRecDepth 100000 in
theorem mX2_copyFrom (l : Launch) (D : va_G) (ki : Nat → ClassId) (ad : Nat → Nat) (cs : List Nat) (hcs : kW cs) (N : Nat) (t : Nat) (a1 : Nat) (ht : kM cs t) (ha1 : kM cs a1) (G : zMem) (tr : Int64) : gMetV l D ki ad cs yX2_copyFrom wsX2_copyFrom { frames := 1, cells := 0, slots := 0, locals := 21 } [.ref (ad t), .ref (ad a1)] (xE ki ad) G tr (fX2_copyFrom N t a1 G tr) := by
  refine gMetV_of (cc := cX2_copyFrom) (maxL := 3) (ret := none) (own := RX2) (by decide +kernel) rfl rfl (Nat.le_of_ble_eq_true rfl) ?_
  intro r9 G9 tr9 h p e s m below meth c S hr hlk K X ls hl
  have hl : lv_has ls 3 [(0, .ref (ad t)), (1, .ref (ad a1))] := hl
  have b60 : ∀ (k60 : Int32 → zMem → Int64 → zR) (hk60 : ∀ (x2 : Int32) (G : zMem) (tr : Int64), k60 x2 G tr = some (r9, G9, tr9) → zAt p l e (headSpec wsX2_copyFrom { frames := 1, cells := 0, slots := 0, locals := 21 }).room s m ([.ref (ad t), .ref (ad a1)] : List Value).toArray below meth c 3 D cs ad (zQV below ([.ref (ad t), .ref (ad a1)] : List Value).toArray s D cs ad ((xE ki ad) G9 tr9)) 60 [(0, .ref (ad t)), (1, .ref (ad a1)), (2, .int x2)] [] ((xE ki ad) G tr)) (x2 : Int32) (G : zMem) (tr : Int64), fX2_copyFrom_b60 N t a1 k60 x2 G tr = some (r9, G9, tr9) → zAt p l e (headSpec wsX2_copyFrom { frames := 1, cells := 0, slots := 0, locals := 21 }).room s m ([.ref (ad t), .ref (ad a1)] : List Value).toArray below meth c 3 D cs ad (zQV below ([.ref (ad t), .ref (ad a1)] : List Value).toArray s D cs ad ((xE ki ad) G9 tr9)) 60 [(0, .ref (ad t)), (1, .ref (ad a1)), (2, .int x2)] [] ((xE ki ad) G tr) := by
    intro k60 hk60 x2 G tr h H locs ls X hl
    unfold fX2_copyFrom_b60 at h
    refine lv_iload_n S.1 S.2.1 dX2_copyFrom_60 rfl (lv_at hl 2 rfl) ?_
    refine lv_iconst (v := (5 : Int32)) S.1 S.2.1 dX2_copyFrom_61 (by decide) ?_
    refine lv_icmp_ge (tgt := 86) S.1 S.2.1 dX2_copyFrom_62 (by decide) (fun hc_1 => ?_) (fun hc_1 => ?_)
    · have h := zif_pos hc_1 h
      exact zr_vret S hr hlk X h dX2_copyFrom_86
    · have h := zif_neg hc_1 h
      refine lv_aload_n S.1 S.2.1 dX2_copyFrom_65 rfl (lv_at hl 0 rfl) ?_
      refine zr_get (v := .ref (ad (t + 2))) S K X (ht.2 0 (by decide)) (xE_M ht) rfl uX2_copyFrom_X2 5 (by decide) kX2_copyFrom_17 rfl rfl dX2_copyFrom_66 ?_
      refine lv_iload_n S.1 S.2.1 dX2_copyFrom_69 rfl (lv_at hl 2 rfl) ?_
      obtain ⟨hi_2, h⟩ := zin_some h
      refine zr_aald (f := (fun j => (t + 3) + j)) (t0 := 2) (C := "WindPost$Letter") S K X (ht.2 2 (by decide)) (xE_M2 ht) rfl hi_2 dX2_copyFrom_70 ?_
      refine lv_aload_n S.1 S.2.1 dX2_copyFrom_71 rfl (lv_at hl 1 rfl) ?_
      refine zr_get (v := .ref (ad (a1 + 2))) S K X (ha1.2 0 (by decide)) (xE_M ha1) rfl uX2_copyFrom_X2 5 (by decide) kX2_copyFrom_17 rfl rfl dX2_copyFrom_72 ?_
      refine lv_iload_n S.1 S.2.1 dX2_copyFrom_75 rfl (lv_at hl 2 rfl) ?_
      obtain ⟨hi_3, h⟩ := zin_some h
      refine zr_aald (f := (fun j => (a1 + 3) + j)) (t0 := 2) (C := "WindPost$Letter") S K X (ha1.2 2 (by decide)) (xE_M2 ha1) rfl hi_3 dX2_copyFrom_76 ?_
      obtain ⟨r_5, G_6, tr_7, hf_4, h⟩ := zbd_some h
      refine zr_callv (Eg := (xE ki ad)) K X (va_runV (As := [.ref (ad ((a1 + 3) + (Int32.toNatClampNeg x2)))]) (rest := []) S (mX1_copyFrom l D ki ad cs hcs N ((t + 3) + (Int32.toNatClampNeg x2)) ((a1 + 3) + (Int32.toNatClampNeg x2)) (kL_post ht hi_2) (kL_post ha1 hi_3) G tr H.size _ _ _ hf_4) (cwV 1 S.2.2.2.2 gX2_copyFrom_X1_copyFrom rfl rfl rfl (by decide +kernel) ⟨Nat.le_of_ble_eq_true rfl, Nat.le_of_ble_eq_true rfl⟩) (zr_preV (c0 := ((t + 3) + (Int32.toNatClampNeg x2))) K X (kL_post ht hi_2).2 (xE_L (kL_post ht hi_2)) rfl) rfl rfl hl.1 rfl (lv_room (Nat.le_of_ble_eq_true rfl)) dX2_copyFrom_77 ⟨Nat.zero_le _, Nat.zero_le _⟩) (fun H locs X => ?_)
      refine lv_iinc (v := (x2 + 1)) (lv' := [(2, .int (x2 + 1)), (0, .ref (ad t)), (1, .ref (ad a1))]) S.1 S.2.1 dX2_copyFrom_80 hl (k := 2) rfl rfl (by decide) rfl (fun ls hl => ?_)
      refine lv_goto (tgt := 60) S.1 S.2.1 dX2_copyFrom_83 (by decide) ?_
      exact hk60 (x2 + 1) G_6 tr_7 h _ _ _ X (lv_sub hl [1, 2, 0] rfl)
  have L60 : ∀ (n : Nat) (x2 : Int32) (G : zMem) (tr : Int64), fX2_copyFrom_L60 N t a1 n x2 G tr = some (r9, G9, tr9) → zAt p l e (headSpec wsX2_copyFrom { frames := 1, cells := 0, slots := 0, locals := 21 }).room s m ([.ref (ad t), .ref (ad a1)] : List Value).toArray below meth c 3 D cs ad (zQV below ([.ref (ad t), .ref (ad a1)] : List Value).toArray s D cs ad ((xE ki ad) G9 tr9)) 60 [(0, .ref (ad t)), (1, .ref (ad a1)), (2, .int x2)] [] ((xE ki ad) G tr) := by
    intro n
    induction n with
    | zero => intro x2 G tr h; cases h
    | succ n ih => intro x2 G tr h; exact b60 (fX2_copyFrom_L60 N t a1 n) ih x2 G tr h
  have b34 : ∀ (k34 : Int32 → zMem → Int64 → zR) (hk34 : ∀ (x2 : Int32) (G : zMem) (tr : Int64), k34 x2 G tr = some (r9, G9, tr9) → zAt p l e (headSpec wsX2_copyFrom { frames := 1, cells := 0, slots := 0, locals := 21 }).room s m ([.ref (ad t), .ref (ad a1)] : List Value).toArray below meth c 3 D cs ad (zQV below ([.ref (ad t), .ref (ad a1)] : List Value).toArray s D cs ad ((xE ki ad) G9 tr9)) 34 [(0, .ref (ad t)), (1, .ref (ad a1)), (2, .int x2)] [] ((xE ki ad) G tr)) (x2 : Int32) (G : zMem) (tr : Int64), fX2_copyFrom_b34 N t a1 k34 x2 G tr = some (r9, G9, tr9) → zAt p l e (headSpec wsX2_copyFrom { frames := 1, cells := 0, slots := 0, locals := 21 }).room s m ([.ref (ad t), .ref (ad a1)] : List Value).toArray below meth c 3 D cs ad (zQV below ([.ref (ad t), .ref (ad a1)] : List Value).toArray s D cs ad ((xE ki ad) G9 tr9)) 34 [(0, .ref (ad t)), (1, .ref (ad a1)), (2, .int x2)] [] ((xE ki ad) G tr) := by
    intro k34 hk34 x2 G tr h H locs ls X hl
    unfold fX2_copyFrom_b34 at h
    refine lv_iload_n S.1 S.2.1 dX2_copyFrom_34 rfl (lv_at hl 2 rfl) ?_
    refine lv_bipush (v := (12 : Int32)) S.1 S.2.1 dX2_copyFrom_35 (by decide) ?_
    refine lv_icmp_ge (tgt := 58) S.1 S.2.1 dX2_copyFrom_37 (by decide) (fun hc_1 => ?_) (fun hc_1 => ?_)
    · have h := zif_pos hc_1 h
      refine lv_iconst (v := (0 : Int32)) S.1 S.2.1 dX2_copyFrom_58 (by decide) ?_
      refine lv_istore_n (lv' := [(2, .int (0 : Int32)), (0, .ref (ad t)), (1, .ref (ad a1))]) S.1 S.2.1 dX2_copyFrom_59 rfl hl (by decide) rfl (fun ls hl => ?_)
      exact L60 N (0 : Int32) G tr h _ _ _ X (lv_sub hl [1, 2, 0] rfl)
    · have h := zif_neg hc_1 h
      refine lv_aload_n S.1 S.2.1 dX2_copyFrom_40 rfl (lv_at hl 0 rfl) ?_
      refine zr_get (v := .ref (ad (t + 1))) S K X (ht.2 0 (by decide)) (xE_M ht) rfl uX2_copyFrom_X2 4 (by decide) kX2_copyFrom_9 rfl rfl dX2_copyFrom_41 ?_
      refine lv_iload_n S.1 S.2.1 dX2_copyFrom_44 rfl (lv_at hl 2 rfl) ?_
      refine lv_aload_n S.1 S.2.1 dX2_copyFrom_45 rfl (lv_at hl 1 rfl) ?_
      refine zr_get (v := .ref (ad (a1 + 1))) S K X (ha1.2 0 (by decide)) (xE_M ha1) rfl uX2_copyFrom_X2 4 (by decide) kX2_copyFrom_9 rfl rfl dX2_copyFrom_46 ?_
      refine lv_iload_n S.1 S.2.1 dX2_copyFrom_49 rfl (lv_at hl 2 rfl) ?_
      obtain ⟨hi_2, h⟩ := zin_some h
      refine zr_iald S K X (ha1.2 1 (by decide)) (xE_M1 ha1) hi_2 dX2_copyFrom_50 ?_
      obtain ⟨hi_3, h⟩ := zin_some h
      refine zr_iast S K X (ht.2 1 (by decide)) xE_loc (fun _ => (xE_M1 ht)) hi_3 dX2_copyFrom_51 (fun H locs X => ?_)
      refine lv_iinc (v := (x2 + 1)) (lv' := [(2, .int (x2 + 1)), (0, .ref (ad t)), (1, .ref (ad a1))]) S.1 S.2.1 dX2_copyFrom_52 hl (k := 2) rfl rfl (by decide) rfl (fun ls hl => ?_)
      refine lv_goto (tgt := 34) S.1 S.2.1 dX2_copyFrom_55 (by decide) ?_
      exact hk34 (x2 + 1) (up2 G (t + 1) (Int32.toNatClampNeg x2) (G (a1 + 1) (Int32.toNatClampNeg x2))) tr h _ _ _ X (lv_sub hl [1, 2, 0] rfl)
  have L34 : ∀ (n : Nat) (x2 : Int32) (G : zMem) (tr : Int64), fX2_copyFrom_L34 N t a1 n x2 G tr = some (r9, G9, tr9) → zAt p l e (headSpec wsX2_copyFrom { frames := 1, cells := 0, slots := 0, locals := 21 }).room s m ([.ref (ad t), .ref (ad a1)] : List Value).toArray below meth c 3 D cs ad (zQV below ([.ref (ad t), .ref (ad a1)] : List Value).toArray s D cs ad ((xE ki ad) G9 tr9)) 34 [(0, .ref (ad t)), (1, .ref (ad a1)), (2, .int x2)] [] ((xE ki ad) G tr) := by
    intro n
    induction n with
    | zero => intro x2 G tr h; cases h
    | succ n ih => intro x2 G tr h; exact b34 (fX2_copyFrom_L34 N t a1 n) ih x2 G tr h
  unfold fX2_copyFrom at h
  obtain ⟨H, hH⟩ : ∃ H, H = s.heap := ⟨_, rfl⟩
  obtain ⟨locs, hlo⟩ : ∃ locs : List Loc, locs = [] := ⟨_, rfl⟩
  have X : gS D cs ad ((xE ki ad) G tr) (gA cs ad s.heap.size) s H locs := by rw [hH, hlo]; exact X
  suffices z : W p l e (headSpec wsX2_copyFrom { frames := 1, cells := 0, slots := 0, locals := 21 }).room s m ([.ref (ad t), .ref (ad a1)] : List Value).toArray below meth c H locs 0 0 (zQV below ([.ref (ad t), .ref (ad a1)] : List Value).toArray s D cs ad ((xE ki ad) G9 tr9)) (F0 m 0 ls []) by rw [hH, hlo] at z; exact z
  clear hH hlo
  refine lv_aload_n S.1 S.2.1 dX2_copyFrom_0 rfl (lv_at hl 0 rfl) ?_
  refine lv_aload_n S.1 S.2.1 dX2_copyFrom_1 rfl (lv_at hl 1 rfl) ?_
  refine zr_get (v := .int (G a1 0)) S K X (ha1.2 0 (by decide)) (xE_M ha1) rfl uX2_copyFrom_X2 0 (by decide) kX2_copyFrom_22 rfl rfl dX2_copyFrom_2 ?_
  refine zr_put (xv := (G a1 0)) (v := .int (G a1 0)) (fsf := (fsM ad t)) (ty := .int) S K X (ht.2 0 (by decide)) xE_loc (fun _ => (xE_M ht)) rfl uX2_copyFrom_X2 tyX2 tyX2_ok nmX2 0 (by decide) kX2_copyFrom_22 rfl (by decide +kernel) rfl rfl (by simp) rfl dX2_copyFrom_5 (fun H locs X => ?_)
  refine lv_aload_n S.1 S.2.1 dX2_copyFrom_8 rfl (lv_at hl 0 rfl) ?_
  refine lv_aload_n S.1 S.2.1 dX2_copyFrom_9 rfl (lv_at hl 1 rfl) ?_
  refine zr_get (v := .int ((up2 G t 0 (G a1 0)) a1 1)) S K X (ha1.2 0 (by decide)) (xE_M ha1) rfl uX2_copyFrom_X2 1 (by decide) kX2_copyFrom_26 rfl rfl dX2_copyFrom_10 ?_
  refine zr_put (xv := ((up2 G t 0 (G a1 0)) a1 1)) (v := .int ((up2 G t 0 (G a1 0)) a1 1)) (fsf := (fsM ad t)) (ty := .int) S K X (ht.2 0 (by decide)) xE_loc (fun _ => (xE_M ht)) rfl uX2_copyFrom_X2 tyX2 tyX2_ok nmX2 1 (by decide) kX2_copyFrom_26 rfl (by decide +kernel) rfl rfl (by simp) rfl dX2_copyFrom_13 (fun H locs X => ?_)
  refine lv_aload_n S.1 S.2.1 dX2_copyFrom_16 rfl (lv_at hl 0 rfl) ?_
  refine lv_aload_n S.1 S.2.1 dX2_copyFrom_17 rfl (lv_at hl 1 rfl) ?_
  refine zr_get (v := .int ((up2 (up2 G t 0 (G a1 0)) t 1 ((up2 G t 0 (G a1 0)) a1 1)) a1 2)) S K X (ha1.2 0 (by decide)) (xE_M ha1) rfl uX2_copyFrom_X2 2 (by decide) kX2_copyFrom_29 rfl rfl dX2_copyFrom_18 ?_
  refine zr_put (xv := ((up2 (up2 G t 0 (G a1 0)) t 1 ((up2 G t 0 (G a1 0)) a1 1)) a1 2)) (v := .int ((up2 (up2 G t 0 (G a1 0)) t 1 ((up2 G t 0 (G a1 0)) a1 1)) a1 2)) (fsf := (fsM ad t)) (ty := .int) S K X (ht.2 0 (by decide)) xE_loc (fun _ => (xE_M ht)) rfl uX2_copyFrom_X2 tyX2 tyX2_ok nmX2 2 (by decide) kX2_copyFrom_29 rfl (by decide +kernel) rfl rfl (by simp) rfl dX2_copyFrom_21 (fun H locs X => ?_)
  refine lv_aload_n S.1 S.2.1 dX2_copyFrom_24 rfl (lv_at hl 0 rfl) ?_
  refine lv_aload_n S.1 S.2.1 dX2_copyFrom_25 rfl (lv_at hl 1 rfl) ?_
  refine zr_get (v := .int ((up2 (up2 (up2 G t 0 (G a1 0)) t 1 ((up2 G t 0 (G a1 0)) a1 1)) t 2 ((up2 (up2 G t 0 (G a1 0)) t 1 ((up2 G t 0 (G a1 0)) a1 1)) a1 2)) a1 3)) S K X (ha1.2 0 (by decide)) (xE_M ha1) rfl uX2_copyFrom_X2 3 (by decide) kX2_copyFrom_37 rfl rfl dX2_copyFrom_26 ?_
  refine zr_put (xv := ((up2 (up2 (up2 G t 0 (G a1 0)) t 1 ((up2 G t 0 (G a1 0)) a1 1)) t 2 ((up2 (up2 G t 0 (G a1 0)) t 1 ((up2 G t 0 (G a1 0)) a1 1)) a1 2)) a1 3)) (v := .int ((up2 (up2 (up2 G t 0 (G a1 0)) t 1 ((up2 G t 0 (G a1 0)) a1 1)) t 2 ((up2 (up2 G t 0 (G a1 0)) t 1 ((up2 G t 0 (G a1 0)) a1 1)) a1 2)) a1 3)) (fsf := (fsM ad t)) (ty := .int) S K X (ht.2 0 (by decide)) xE_loc (fun _ => (xE_M ht)) rfl uX2_copyFrom_X2 tyX2 tyX2_ok nmX2 3 (by decide) kX2_copyFrom_37 rfl (by decide +kernel) rfl rfl (by simp) rfl dX2_copyFrom_29 (fun H locs X => ?_)
  refine lv_iconst (v := (0 : Int32)) S.1 S.2.1 dX2_copyFrom_32 (by decide) ?_
  refine lv_istore_n (lv' := [(2, .int (0 : Int32)), (0, .ref (ad t)), (1, .ref (ad a1))]) S.1 S.2.1 dX2_copyFrom_33 rfl hl (by decide) rfl (fun ls hl => ?_)
  exact L34 N (0 : Int32) (up2 (up2 (up2 (up2 G t 0 (G a1 0)) t 1 ((up2 G t 0 (G a1 0)) a1 1)) t 2 ((up2 (up2 G t 0 (G a1 0)) t 1 ((up2 G t 0 (G a1 0)) a1 1)) a1 2)) t 3 ((up2 (up2 (up2 G t 0 (G a1 0)) t 1 ((up2 G t 0 (G a1 0)) a1 1)) t 2 ((up2 (up2 G t 0 (G a1 0)) t 1 ((up2 G t 0 (G a1 0)) a1 1)) a1 2)) a1 3)) tr h _ _ _ X (lv_sub hl [1, 2, 0] rfl)
set_option maxRecDepth 20000 in
theorem ggX2_windOf_J9_floorMod_7cf53 : GoodIn wsX2_windOf wsJ9_floorMod_7cf53 := goodIn_r _ [6] (by decide +kernel) (by decide +kernel)
set_option maxRecDepth 20000 in
theorem gX2_windOf_J9_floorMod_7cf53 : GoodIn wsX2_windOf (va_wsS RX2 43 yJ9_floorMod_7cf53 wsJ9_floorMod_7cf53) := goodIn_app (goodIn_of _ (by decide +kernel)) ggX2_windOf_J9_floorMod_7cf53
theorem dX2_windOf_0 : decode cX2_windOf 0 = .ok (.aload_n 0, 1) := by decide +kernel
theorem dX2_windOf_1 : decode cX2_windOf 1 = .ok (.getfield 37, 3) := by decide +kernel
theorem dX2_windOf_4 : decode cX2_windOf 4 = .ok (.iconst 1, 1) := by decide +kernel
theorem dX2_windOf_5 : decode cX2_windOf 5 = .ok (.if_icmp .lt 12, 3) := by decide +kernel
theorem dX2_windOf_8 : decode cX2_windOf 8 = .ok (.aload_n 0, 1) := by decide +kernel
theorem dX2_windOf_9 : decode cX2_windOf 9 = .ok (.getfield 37, 3) := by decide +kernel
theorem dX2_windOf_12 : decode cX2_windOf 12 = .ok (.bipush 12, 2) := by decide +kernel
theorem dX2_windOf_14 : decode cX2_windOf 14 = .ok (.if_icmp .le 5, 3) := by decide +kernel
theorem dX2_windOf_17 : decode cX2_windOf 17 = .ok (.iconst 4, 1) := by decide +kernel
theorem dX2_windOf_18 : decode cX2_windOf 18 = .ok (.ireturn, 1) := by decide +kernel
theorem dX2_windOf_19 : decode cX2_windOf 19 = .ok (.aload_n 0, 1) := by decide +kernel
theorem dX2_windOf_20 : decode cX2_windOf 20 = .ok (.getfield 9, 3) := by decide +kernel
theorem dX2_windOf_23 : decode cX2_windOf 23 = .ok (.iload_n 1, 1) := by decide +kernel
theorem dX2_windOf_24 : decode cX2_windOf 24 = .ok (.aload_n 0, 1) := by decide +kernel
theorem dX2_windOf_25 : decode cX2_windOf 25 = .ok (.getfield 37, 3) := by decide +kernel
theorem dX2_windOf_28 : decode cX2_windOf 28 = .ok (.invokestatic 43, 3) := by decide +kernel
theorem dX2_windOf_31 : decode cX2_windOf 31 = .ok (.iaload, 1) := by decide +kernel
theorem dX2_windOf_32 : decode cX2_windOf 32 = .ok (.ireturn, 1) := by decide +kernel
set_option maxRecDepth 20000 in
theorem kX2_windOf_9 : Cond.fieldLink RX2 9 "WindPost$Moment" "winds" "[I" ∈ wsX2_windOf := by decide +kernel
set_option maxRecDepth 20000 in
theorem kX2_windOf_37 : Cond.fieldLink RX2 37 "WindPost$Moment" "told" "I" ∈ wsX2_windOf := by decide +kernel
set_option maxRecDepth 20000 in
theorem uX2_windOf_X2 : ∀ w ∈ wsX20, w ∈ wsX2_windOf := by decide +kernel
set_option maxHeartbeats 8000000 in
set_option maxRecDepth 100000 in
theorem mX2_windOf (l : Launch) (D : va_G) (ki : Nat → ClassId) (ad : Nat → Nat) (cs : List Nat) (hcs : kW cs) (N : Nat) (t : Nat) (a1 : Int32) (ht : kM cs t) (G : zMem) (tr : Int64) : gMetI l D ki ad cs yX2_windOf wsX2_windOf { frames := 1, cells := 0, slots := 0, locals := 22 } [.ref (ad t), .int a1] (xE ki ad) G tr (fX2_windOf N t a1 G tr) := by
  refine gMetI_of (cc := cX2_windOf) (maxL := 2) (ret := (some .int)) (own := RX2) (by decide +kernel) rfl rfl (Nat.le_of_ble_eq_true rfl) ?_
  intro r9 G9 tr9 h p e s m below meth c S hr hlk K X ls hl
  have hl : lv_has ls 2 [(0, .ref (ad t)), (1, .int a1)] := hl
  unfold fX2_windOf at h
  obtain ⟨H, hH⟩ : ∃ H, H = s.heap := ⟨_, rfl⟩
  obtain ⟨locs, hlo⟩ : ∃ locs : List Loc, locs = [] := ⟨_, rfl⟩
  have X : gS D cs ad ((xE ki ad) G tr) (gA cs ad s.heap.size) s H locs := by rw [hH, hlo]; exact X
  suffices z : W p l e (headSpec wsX2_windOf { frames := 1, cells := 0, slots := 0, locals := 22 }).room s m ([.ref (ad t), .int a1] : List Value).toArray below meth c H locs 0 0 (zQI below ([.ref (ad t), .int a1] : List Value).toArray s D cs ad ((xE ki ad) G9 tr9) r9) (F0 m 0 ls []) by rw [hH, hlo] at z; exact z
  clear hH hlo
  refine lv_aload_n S.1 S.2.1 dX2_windOf_0 rfl (lv_at hl 0 rfl) ?_
  refine zr_get (v := .int (G t 3)) S K X (ht.2 0 (by decide)) (xE_M ht) rfl uX2_windOf_X2 3 (by decide) kX2_windOf_37 rfl rfl dX2_windOf_1 ?_
  refine lv_iconst (v := (1 : Int32)) S.1 S.2.1 dX2_windOf_4 (by decide) ?_
  refine lv_icmp_lt (tgt := 17) S.1 S.2.1 dX2_windOf_5 (by decide) (fun hc_1 => ?_) (fun hc_1 => ?_)
  · have h := zif_pos hc_1 h
    refine lv_iconst (v := (4 : Int32)) S.1 S.2.1 dX2_windOf_17 (by decide) ?_
    exact zr_iret S hr hlk X h dX2_windOf_18
  · have h := zif_neg hc_1 h
    refine lv_aload_n S.1 S.2.1 dX2_windOf_8 rfl (lv_at hl 0 rfl) ?_
    refine zr_get (v := .int (G t 3)) S K X (ht.2 0 (by decide)) (xE_M ht) rfl uX2_windOf_X2 3 (by decide) kX2_windOf_37 rfl rfl dX2_windOf_9 ?_
    refine lv_bipush (v := (12 : Int32)) S.1 S.2.1 dX2_windOf_12 (by decide) ?_
    refine lv_icmp_le (tgt := 19) S.1 S.2.1 dX2_windOf_14 (by decide) (fun hc_2 => ?_) (fun hc_2 => ?_)
    · have h := zif_pos hc_2 h
      refine lv_aload_n S.1 S.2.1 dX2_windOf_19 rfl (lv_at hl 0 rfl) ?_
      refine zr_get (v := .ref (ad (t + 1))) S K X (ht.2 0 (by decide)) (xE_M ht) rfl uX2_windOf_X2 4 (by decide) kX2_windOf_9 rfl rfl dX2_windOf_20 ?_
      refine lv_iload_n S.1 S.2.1 dX2_windOf_23 rfl (lv_at hl 1 rfl) ?_
      refine lv_aload_n S.1 S.2.1 dX2_windOf_24 rfl (lv_at hl 0 rfl) ?_
      refine zr_get (v := .int (G t 3)) S K X (ht.2 0 (by decide)) (xE_M ht) rfl uX2_windOf_X2 3 (by decide) kX2_windOf_37 rfl rfl dX2_windOf_25 ?_
      obtain ⟨r_4, hf_3, h⟩ := zbp_some h
      refine zr_calli (Eg := (xE ki ad)) (G' := G) (tr' := tr) K X (va_runS (As := [.int a1, .int (G t 3)]) (rest := [.ref (ad (t + 1))]) S (mJ9_floorMod_7cf53 l D ki ad cs N a1 (G t 3) (xE ki ad) G tr H.size _ _ _ (zpu_of hf_3)) (va_cwS 2 S.2.2.2.2 gX2_windOf_J9_floorMod_7cf53 rfl rfl rfl (by decide +kernel) ⟨Nat.le_of_ble_eq_true rfl, Nat.le_of_ble_eq_true rfl⟩) (zr_pre K X) rfl rfl hl.1 rfl (lv_room (Nat.le_of_ble_eq_true rfl)) dX2_windOf_28 ⟨Nat.zero_le _, Nat.zero_le _⟩) (fun H locs X => ?_)
      obtain ⟨hi_5, h⟩ := zin_some h
      refine zr_iald S K X (ht.2 1 (by decide)) (xE_M1 ht) hi_5 dX2_windOf_31 ?_
      exact zr_iret S hr hlk X h dX2_windOf_32
    · have h := zif_neg hc_2 h
      refine lv_iconst (v := (4 : Int32)) S.1 S.2.1 dX2_windOf_17 (by decide) ?_
      exact zr_iret S hr hlk X h dX2_windOf_18
theorem dX2_lettersUp_0 : decode cX2_lettersUp 0 = .ok (.iconst 0, 1) := by decide +kernel
theorem dX2_lettersUp_1 : decode cX2_lettersUp 1 = .ok (.istore_n 1, 1) := by decide +kernel
theorem dX2_lettersUp_2 : decode cX2_lettersUp 2 = .ok (.iconst 0, 1) := by decide +kernel
theorem dX2_lettersUp_3 : decode cX2_lettersUp 3 = .ok (.istore_n 2, 1) := by decide +kernel
theorem dX2_lettersUp_4 : decode cX2_lettersUp 4 = .ok (.iload_n 2, 1) := by decide +kernel
theorem dX2_lettersUp_5 : decode cX2_lettersUp 5 = .ok (.aload_n 0, 1) := by decide +kernel
theorem dX2_lettersUp_6 : decode cX2_lettersUp 6 = .ok (.getfield 26, 3) := by decide +kernel
theorem dX2_lettersUp_9 : decode cX2_lettersUp 9 = .ok (.if_icmp .ge 32, 3) := by decide +kernel
theorem dX2_lettersUp_12 : decode cX2_lettersUp 12 = .ok (.iload_n 2, 1) := by decide +kernel
theorem dX2_lettersUp_13 : decode cX2_lettersUp 13 = .ok (.iconst 5, 1) := by decide +kernel
theorem dX2_lettersUp_14 : decode cX2_lettersUp 14 = .ok (.if_icmp .ge 27, 3) := by decide +kernel
theorem dX2_lettersUp_17 : decode cX2_lettersUp 17 = .ok (.aload_n 0, 1) := by decide +kernel
theorem dX2_lettersUp_18 : decode cX2_lettersUp 18 = .ok (.getfield 17, 3) := by decide +kernel
theorem dX2_lettersUp_21 : decode cX2_lettersUp 21 = .ok (.iload_n 2, 1) := by decide +kernel
theorem dX2_lettersUp_22 : decode cX2_lettersUp 22 = .ok (.aaload, 1) := by decide +kernel
theorem dX2_lettersUp_23 : decode cX2_lettersUp 23 = .ok (.getfield 49, 3) := by decide +kernel
theorem dX2_lettersUp_26 : decode cX2_lettersUp 26 = .ok (.ifCond .ne 9, 3) := by decide +kernel
theorem dX2_lettersUp_29 : decode cX2_lettersUp 29 = .ok (.iload_n 1, 1) := by decide +kernel
theorem dX2_lettersUp_30 : decode cX2_lettersUp 30 = .ok (.iconst 1, 1) := by decide +kernel
theorem dX2_lettersUp_31 : decode cX2_lettersUp 31 = .ok (.iload_n 2, 1) := by decide +kernel
theorem dX2_lettersUp_32 : decode cX2_lettersUp 32 = .ok (.ishl, 1) := by decide +kernel
theorem dX2_lettersUp_33 : decode cX2_lettersUp 33 = .ok (.ior, 1) := by decide +kernel
theorem dX2_lettersUp_34 : decode cX2_lettersUp 34 = .ok (.istore_n 1, 1) := by decide +kernel
theorem dX2_lettersUp_35 : decode cX2_lettersUp 35 = .ok (.iinc 2 1, 3) := by decide +kernel
theorem dX2_lettersUp_38 : decode cX2_lettersUp 38 = .ok (.goto (-34), 3) := by decide +kernel
theorem dX2_lettersUp_41 : decode cX2_lettersUp 41 = .ok (.iload_n 1, 1) := by decide +kernel
theorem dX2_lettersUp_42 : decode cX2_lettersUp 42 = .ok (.ireturn, 1) := by decide +kernel
set_option maxRecDepth 20000 in
theorem kX2_lettersUp_17 : Cond.fieldLink RX2 17 "WindPost$Moment" "post" "[LWindPost$Letter;" ∈ wsX2_lettersUp := by decide +kernel
set_option maxRecDepth 20000 in
theorem kX2_lettersUp_26 : Cond.fieldLink RX2 26 "WindPost$Moment" "letters" "I" ∈ wsX2_lettersUp := by decide +kernel
set_option maxRecDepth 20000 in
theorem kX2_lettersUp_49 : Cond.fieldLink RX2 49 "WindPost$Letter" "how" "I" ∈ wsX2_lettersUp := by decide +kernel
set_option maxRecDepth 20000 in
theorem uX2_lettersUp_X1 : ∀ w ∈ wsX10, w ∈ wsX2_lettersUp := by decide +kernel
set_option maxRecDepth 20000 in
theorem uX2_lettersUp_X2 : ∀ w ∈ wsX20, w ∈ wsX2_lettersUp := by decide +kernel
set_option maxHeartbeats 8000000 in
set_option maxRecDepth 100000 in
theorem mX2_lettersUp (l : Launch) (D : va_G) (ki : Nat → ClassId) (ad : Nat → Nat) (cs : List Nat) (hcs : kW cs) (N : Nat) (t : Nat) (ht : kM cs t) (G : zMem) (tr : Int64) : gMetI l D ki ad cs yX2_lettersUp wsX2_lettersUp { frames := 0, cells := 0, slots := 0, locals := 0 } [.ref (ad t)] (xE ki ad) G tr (fX2_lettersUp N t G tr) := by
  refine gMetI_of (cc := cX2_lettersUp) (maxL := 3) (ret := (some .int)) (own := RX2) (by decide +kernel) rfl rfl (Nat.le_of_ble_eq_true rfl) ?_
  intro r9 G9 tr9 h p e s m below meth c S hr hlk K X ls hl
  have hl : lv_has ls 3 [(0, .ref (ad t))] := hl
  have b35 : ∀ (k4 : Int32 → Int32 → zMem → Int64 → zR) (hk4 : ∀ (x1 : Int32) (x2 : Int32) (G : zMem) (tr : Int64), k4 x1 x2 G tr = some (r9, G9, tr9) → zAt p l e (headSpec wsX2_lettersUp { frames := 0, cells := 0, slots := 0, locals := 0 }).room s m ([.ref (ad t)] : List Value).toArray below meth c 3 D cs ad (zQI below ([.ref (ad t)] : List Value).toArray s D cs ad ((xE ki ad) G9 tr9) r9) 4 [(0, .ref (ad t)), (1, .int x1), (2, .int x2)] [] ((xE ki ad) G tr)) (x1 : Int32) (x2 : Int32) (G : zMem) (tr : Int64), fX2_lettersUp_b35 N t k4 x1 x2 G tr = some (r9, G9, tr9) → zAt p l e (headSpec wsX2_lettersUp { frames := 0, cells := 0, slots := 0, locals := 0 }).room s m ([.ref (ad t)] : List Value).toArray below meth c 3 D cs ad (zQI below ([.ref (ad t)] : List Value).toArray s D cs ad ((xE ki ad) G9 tr9) r9) 35 [(0, .ref (ad t)), (1, .int x1), (2, .int x2)] [] ((xE ki ad) G tr) := by
    intro k4 hk4 x1 x2 G tr h H locs ls X hl
    unfold fX2_lettersUp_b35 at h
    refine lv_iinc (v := (x2 + 1)) (lv' := [(2, .int (x2 + 1)), (0, .ref (ad t)), (1, .int x1)]) S.1 S.2.1 dX2_lettersUp_35 hl (k := 2) rfl rfl (by decide) rfl (fun ls hl => ?_)
    refine lv_goto (tgt := 4) S.1 S.2.1 dX2_lettersUp_38 (by decide) ?_
    exact hk4 x1 (x2 + 1) G tr h _ _ _ X (lv_sub hl [1, 2, 0] rfl)
  have b4 : ∀ (k4 : Int32 → Int32 → zMem → Int64 → zR) (hk4 : ∀ (x1 : Int32) (x2 : Int32) (G : zMem) (tr : Int64), k4 x1 x2 G tr = some (r9, G9, tr9) → zAt p l e (headSpec wsX2_lettersUp { frames := 0, cells := 0, slots := 0, locals := 0 }).room s m ([.ref (ad t)] : List Value).toArray below meth c 3 D cs ad (zQI below ([.ref (ad t)] : List Value).toArray s D cs ad ((xE ki ad) G9 tr9) r9) 4 [(0, .ref (ad t)), (1, .int x1), (2, .int x2)] [] ((xE ki ad) G tr)) (x1 : Int32) (x2 : Int32) (G : zMem) (tr : Int64), fX2_lettersUp_b4 N t k4 x1 x2 G tr = some (r9, G9, tr9) → zAt p l e (headSpec wsX2_lettersUp { frames := 0, cells := 0, slots := 0, locals := 0 }).room s m ([.ref (ad t)] : List Value).toArray below meth c 3 D cs ad (zQI below ([.ref (ad t)] : List Value).toArray s D cs ad ((xE ki ad) G9 tr9) r9) 4 [(0, .ref (ad t)), (1, .int x1), (2, .int x2)] [] ((xE ki ad) G tr) := by
    intro k4 hk4 x1 x2 G tr h H locs ls X hl
    unfold fX2_lettersUp_b4 at h
    refine lv_iload_n S.1 S.2.1 dX2_lettersUp_4 rfl (lv_at hl 2 rfl) ?_
    refine lv_aload_n S.1 S.2.1 dX2_lettersUp_5 rfl (lv_at hl 0 rfl) ?_
    refine zr_get (v := .int (G t 1)) S K X (ht.2 0 (by decide)) (xE_M ht) rfl uX2_lettersUp_X2 1 (by decide) kX2_lettersUp_26 rfl rfl dX2_lettersUp_6 ?_
    refine lv_icmp_ge (tgt := 41) S.1 S.2.1 dX2_lettersUp_9 (by decide) (fun hc_1 => ?_) (fun hc_1 => ?_)
    · have h := zif_pos hc_1 h
      refine lv_iload_n S.1 S.2.1 dX2_lettersUp_41 rfl (lv_at hl 1 rfl) ?_
      exact zr_iret S hr hlk X h dX2_lettersUp_42
    · have h := zif_neg hc_1 h
      refine lv_iload_n S.1 S.2.1 dX2_lettersUp_12 rfl (lv_at hl 2 rfl) ?_
      refine lv_iconst (v := (5 : Int32)) S.1 S.2.1 dX2_lettersUp_13 (by decide) ?_
      refine lv_icmp_ge (tgt := 41) S.1 S.2.1 dX2_lettersUp_14 (by decide) (fun hc_2 => ?_) (fun hc_2 => ?_)
      · have h := zif_pos hc_2 h
        refine lv_iload_n S.1 S.2.1 dX2_lettersUp_41 rfl (lv_at hl 1 rfl) ?_
        exact zr_iret S hr hlk X h dX2_lettersUp_42
      · have h := zif_neg hc_2 h
        refine lv_aload_n S.1 S.2.1 dX2_lettersUp_17 rfl (lv_at hl 0 rfl) ?_
        refine zr_get (v := .ref (ad (t + 2))) S K X (ht.2 0 (by decide)) (xE_M ht) rfl uX2_lettersUp_X2 5 (by decide) kX2_lettersUp_17 rfl rfl dX2_lettersUp_18 ?_
        refine lv_iload_n S.1 S.2.1 dX2_lettersUp_21 rfl (lv_at hl 2 rfl) ?_
        obtain ⟨hi_3, h⟩ := zin_some h
        refine zr_aald (f := (fun j => (t + 3) + j)) (t0 := 2) (C := "WindPost$Letter") S K X (ht.2 2 (by decide)) (xE_M2 ht) rfl hi_3 dX2_lettersUp_22 ?_
        refine zr_get (v := .int (G ((t + 3) + (Int32.toNatClampNeg x2)) 5)) S K X (kL_post ht hi_3).2 (xE_L (kL_post ht hi_3)) rfl uX2_lettersUp_X1 5 (by decide) kX2_lettersUp_49 rfl rfl dX2_lettersUp_23 ?_
        refine lv_if_ne (tgt := 35) S.1 S.2.1 dX2_lettersUp_26 (by decide) (fun hc_4 => ?_) (fun hc_4 => ?_)
        · have h := zif_neg hc_4 h
          exact b35 k4 hk4 x1 x2 G tr h _ _ _ X (lv_sub hl [0, 1, 2] rfl)
        · have h := zif_pos hc_4 h
          refine lv_iload_n S.1 S.2.1 dX2_lettersUp_29 rfl (lv_at hl 1 rfl) ?_
          refine lv_iconst (v := (1 : Int32)) S.1 S.2.1 dX2_lettersUp_30 (by decide) ?_
          refine lv_iload_n S.1 S.2.1 dX2_lettersUp_31 rfl (lv_at hl 2 rfl) ?_
          refine lv_ishl S.1 S.2.1 dX2_lettersUp_32 ?_
          refine lv_ior S.1 S.2.1 dX2_lettersUp_33 ?_
          refine lv_istore_n (lv' := [(1, .int (x1 ||| ((1 : Int32) <<< (x2 &&& 31)))), (0, .ref (ad t)), (2, .int x2)]) S.1 S.2.1 dX2_lettersUp_34 rfl hl (by decide) rfl (fun ls hl => ?_)
          exact b35 k4 hk4 (x1 ||| ((1 : Int32) <<< (x2 &&& 31))) x2 G tr h _ _ _ X (lv_sub hl [1, 0, 2] rfl)
  have L4 : ∀ (n : Nat) (x1 : Int32) (x2 : Int32) (G : zMem) (tr : Int64), fX2_lettersUp_L4 N t n x1 x2 G tr = some (r9, G9, tr9) → zAt p l e (headSpec wsX2_lettersUp { frames := 0, cells := 0, slots := 0, locals := 0 }).room s m ([.ref (ad t)] : List Value).toArray below meth c 3 D cs ad (zQI below ([.ref (ad t)] : List Value).toArray s D cs ad ((xE ki ad) G9 tr9) r9) 4 [(0, .ref (ad t)), (1, .int x1), (2, .int x2)] [] ((xE ki ad) G tr) := by
    intro n
    induction n with
    | zero => intro x1 x2 G tr h; cases h
    | succ n ih => intro x1 x2 G tr h; exact b4 (fX2_lettersUp_L4 N t n) ih x1 x2 G tr h
  unfold fX2_lettersUp at h
  obtain ⟨H, hH⟩ : ∃ H, H = s.heap := ⟨_, rfl⟩
  obtain ⟨locs, hlo⟩ : ∃ locs : List Loc, locs = [] := ⟨_, rfl⟩
  have X : gS D cs ad ((xE ki ad) G tr) (gA cs ad s.heap.size) s H locs := by rw [hH, hlo]; exact X
  suffices z : W p l e (headSpec wsX2_lettersUp { frames := 0, cells := 0, slots := 0, locals := 0 }).room s m ([.ref (ad t)] : List Value).toArray below meth c H locs 0 0 (zQI below ([.ref (ad t)] : List Value).toArray s D cs ad ((xE ki ad) G9 tr9) r9) (F0 m 0 ls []) by rw [hH, hlo] at z; exact z
  clear hH hlo
  refine lv_iconst (v := (0 : Int32)) S.1 S.2.1 dX2_lettersUp_0 (by decide) ?_
  refine lv_istore_n (lv' := [(1, .int (0 : Int32)), (0, .ref (ad t))]) S.1 S.2.1 dX2_lettersUp_1 rfl hl (by decide) rfl (fun ls hl => ?_)
  refine lv_iconst (v := (0 : Int32)) S.1 S.2.1 dX2_lettersUp_2 (by decide) ?_
  refine lv_istore_n (lv' := [(2, .int (0 : Int32)), (1, .int (0 : Int32)), (0, .ref (ad t))]) S.1 S.2.1 dX2_lettersUp_3 rfl hl (by decide) rfl (fun ls hl => ?_)
  exact L4 N (0 : Int32) (0 : Int32) G tr h _ _ _ X (lv_sub hl [2, 1, 0] rfl)
