/-! ===== the law, op by op (1) ===== -/
section lawC
variable {p : Program} {l : Launch} {e : Env} {s : State} {m : MethodId} {args : Array Value} {below : List Frame} {meth : Method} {c : Code} {H : Heap} {locs : List Loc} {Q : State → Prop} {ls : Array Slot} {D : va_G} {ki : Nat → ClassId} {ad adm : Nat → Nat} {b L i : Nat} {xs : Nat → Int32} {G Gm : zMem} {tr trm : Int64}
set_option maxHeartbeats 8000000 in
set_option maxRecDepth 100000 in
theorem law_type (S : CallFix p m c cL_law 4 s args lw_tbl RL) (hKK : va_K D vwCl (zT ki) s) (hNN : nK s) (hX : va_X b L xs s s.heap) (hbl : b < s.heap.size) (hi : i + 5 ≤ L) (hL : L ≤ 320) (h : Rel G tr Gm trm) (w : lS D ki ad adm s G tr Gm trm H locs) (hl : lv_has ls 4 [(3, .int (nI i)), (2, .ref (adm 0)), (1, .ref (ad 0)), (0, .ref b)])
    (kk : ∀ (G : zMem) (tr : Int64) (Gm : zMem) (trm : Int64) (H : Heap) (locs : List Loc) (ls : Array Slot), Rel G tr Gm trm → lS D ki ad adm s G tr Gm trm H locs → lv_has ls 4 [(3, .int (nI i)), (2, .ref (adm 0)), (1, .ref (ad 0)), (0, .ref b)] → W p l e room_1 s m args below meth c H locs 600000 7302250 Q (F0 m 1076 ls [])) : W p l e room_1 s m args below meth c H locs 600000 7302250 Q (F0 m 172 ls []) := by
  obtain ⟨hP, hD, hS⟩ := w
  have hA : ∀ q, s.heap.size ≤ q → lA s q := fun _ h => h
  have hbA : ¬ lA s b := Nat.not_le.mpr hbl
  have v1 : vp_in (nI i + nI 1) L := la_in hi hL (by omega)
  obtain ⟨r, G1, tr1, Gm1, trm1, e1, e2, hR⟩ := op_type h 2000 (xs (nI i + nI 1).toNatClampNeg)
  refine lv_aload_n S.1 S.2.1 dL_law_172 rfl (lv_at hl 2 rfl) ?_
  refine lv_aload_n S.1 S.2.1 dL_law_173 rfl (lv_at hl 3 rfl) ?_
  refine lv_iload_n S.1 S.2.1 dL_law_174 rfl (lv_at hl 0 rfl) ?_
  refine lv_iconst (v := nI 1) S.1 S.2.1 dL_law_175 (by decide) ?_
  refine lv_iadd S.1 S.2.1 dL_law_176 ?_
  refine va_sld S.1 S.2.1 hX hbl hbA hS v1 dL_law_177 ?_
  refine g_calli (c0 := 0) (cs := csW) (ad := ad) (Eg := xE ki ad) (As := [.int (xs (nI i + nI 1).toNatClampNeg)]) (rest := []) (w2 := gW csM adm (mE ki adm Gm trm)) S hKK hNN hP hD hS hA (kW_c 0 (by omega)) xE_W rfl (mX4_type l D ki ad csW kW_c 2000 (xs (nI i + nI 1).toNatClampNeg) G tr) e1 (cwV 1 S.2.2.2.2 lG_X4_type rfl rfl rfl (by decide +kernel) ⟨Nat.le_of_ble_eq_true rfl, Nat.le_of_ble_eq_true rfl⟩) rfl hl.1 rfl (lv_room (Nat.le_of_ble_eq_true rfl)) dL_law_178 ⟨Nat.le_of_ble_eq_true rfl, Nat.le_of_ble_eq_true rfl⟩ (fun H locs hP hD hS => ?_)
  have hP := hP.perm List.perm_append_comm
  have hD := hD.perm List.perm_append_comm
  refine lv_aload_n S.1 S.2.1 dL_law_181 rfl (lv_at hl 1 rfl) ?_
  refine lv_aload_n S.1 S.2.1 dL_law_182 rfl (lv_at hl 3 rfl) ?_
  refine lv_iload_n S.1 S.2.1 dL_law_183 rfl (lv_at hl 0 rfl) ?_
  refine lv_iconst (v := nI 1) S.1 S.2.1 dL_law_184 (by decide) ?_
  refine lv_iadd S.1 S.2.1 dL_law_185 ?_
  refine va_sld S.1 S.2.1 hX hbl hbA hS v1 dL_law_186 ?_
  refine g_calli (c0 := 0) (cs := csM) (ad := adm) (Eg := mE ki adm) (As := [.int (xs (nI i + nI 1).toNatClampNeg)]) (rest := [.int r]) (w2 := gW csW ad (xE ki ad G1 tr1)) S hKK hNN hP hD hS hA (kR_c 0 (by omega)) mE_R rfl (mX5_type l D ki adm csM kR_c 2000 (xs (nI i + nI 1).toNatClampNeg) Gm trm) e2 (cwV 1 S.2.2.2.2 lG_X5_type rfl rfl rfl (by decide +kernel) ⟨Nat.le_of_ble_eq_true rfl, Nat.le_of_ble_eq_true rfl⟩) rfl hl.1 rfl (lv_room (Nat.le_of_ble_eq_true rfl)) dL_law_187 ⟨Nat.le_of_ble_eq_true rfl, Nat.le_of_ble_eq_true rfl⟩ (fun H locs hP hD hS => ?_)
  have hP := hP.perm List.perm_append_comm
  have hD := hD.perm List.perm_append_comm
  exact lv_icmp_eq (tgt := 1076) S.1 S.2.1 dL_law_190 (by decide) (fun _ => kk _ _ _ _ _ _ _ hR ⟨hP, hD, hS⟩ hl) (fun hn => absurd rfl hn)
set_option maxHeartbeats 8000000 in
set_option maxRecDepth 100000 in
theorem law_clear (S : CallFix p m c cL_law 4 s args lw_tbl RL) (hKK : va_K D vwCl (zT ki) s) (hNN : nK s) (hX : va_X b L xs s s.heap) (hbl : b < s.heap.size) (hi : i + 5 ≤ L) (hL : L ≤ 320) (h : Rel G tr Gm trm) (w : lS D ki ad adm s G tr Gm trm H locs) (hl : lv_has ls 4 [(3, .int (nI i)), (2, .ref (adm 0)), (1, .ref (ad 0)), (0, .ref b)])
    (kk : ∀ (G : zMem) (tr : Int64) (Gm : zMem) (trm : Int64) (H : Heap) (locs : List Loc) (ls : Array Slot), Rel G tr Gm trm → lS D ki ad adm s G tr Gm trm H locs → lv_has ls 4 [(3, .int (nI i)), (2, .ref (adm 0)), (1, .ref (ad 0)), (0, .ref b)] → W p l e room_1 s m args below meth c H locs 600000 7302250 Q (F0 m 1076 ls [])) : W p l e room_1 s m args below meth c H locs 600000 7302250 Q (F0 m 195 ls []) := by
  obtain ⟨hP, hD, hS⟩ := w
  have hA : ∀ q, s.heap.size ≤ q → lA s q := fun _ h => h
  have hbA : ¬ lA s b := Nat.not_le.mpr hbl
  obtain ⟨r, G1, tr1, Gm1, trm1, e1, e2, hR⟩ := op_clear h 2000
  refine lv_aload_n S.1 S.2.1 dL_law_195 rfl (lv_at hl 2 rfl) ?_
  refine g_calli (c0 := 0) (cs := csW) (ad := ad) (Eg := xE ki ad) (As := []) (rest := []) (w2 := gW csM adm (mE ki adm Gm trm)) S hKK hNN hP hD hS hA (kW_c 0 (by omega)) xE_W rfl (mX4_clear l D ki ad csW kW_c 2000  G tr) e1 (cwV 0 S.2.2.2.2 lG_X4_clear rfl rfl rfl (by decide +kernel) ⟨Nat.le_of_ble_eq_true rfl, Nat.le_of_ble_eq_true rfl⟩) rfl hl.1 rfl (lv_room (Nat.le_of_ble_eq_true rfl)) dL_law_196 ⟨Nat.le_of_ble_eq_true rfl, Nat.le_of_ble_eq_true rfl⟩ (fun H locs hP hD hS => ?_)
  have hP := hP.perm List.perm_append_comm
  have hD := hD.perm List.perm_append_comm
  refine lv_aload_n S.1 S.2.1 dL_law_199 rfl (lv_at hl 1 rfl) ?_
  refine g_calli (c0 := 0) (cs := csM) (ad := adm) (Eg := mE ki adm) (As := []) (rest := [.int r]) (w2 := gW csW ad (xE ki ad G1 tr1)) S hKK hNN hP hD hS hA (kR_c 0 (by omega)) mE_R rfl (mX5_clear l D ki adm csM kR_c 2000  Gm trm) e2 (cwV 0 S.2.2.2.2 lG_X5_clear rfl rfl rfl (by decide +kernel) ⟨Nat.le_of_ble_eq_true rfl, Nat.le_of_ble_eq_true rfl⟩) rfl hl.1 rfl (lv_room (Nat.le_of_ble_eq_true rfl)) dL_law_200 ⟨Nat.le_of_ble_eq_true rfl, Nat.le_of_ble_eq_true rfl⟩ (fun H locs hP hD hS => ?_)
  have hP := hP.perm List.perm_append_comm
  have hD := hD.perm List.perm_append_comm
  exact lv_icmp_eq (tgt := 1076) S.1 S.2.1 dL_law_203 (by decide) (fun _ => kk _ _ _ _ _ _ _ hR ⟨hP, hD, hS⟩ hl) (fun hn => absurd rfl hn)
set_option maxHeartbeats 8000000 in
set_option maxRecDepth 100000 in
theorem law_sea (S : CallFix p m c cL_law 4 s args lw_tbl RL) (hKK : va_K D vwCl (zT ki) s) (hNN : nK s) (hX : va_X b L xs s s.heap) (hbl : b < s.heap.size) (hi : i + 5 ≤ L) (hL : L ≤ 320) (h : Rel G tr Gm trm) (w : lS D ki ad adm s G tr Gm trm H locs) (hl : lv_has ls 4 [(3, .int (nI i)), (2, .ref (adm 0)), (1, .ref (ad 0)), (0, .ref b)])
    (kk : ∀ (G : zMem) (tr : Int64) (Gm : zMem) (trm : Int64) (H : Heap) (locs : List Loc) (ls : Array Slot), Rel G tr Gm trm → lS D ki ad adm s G tr Gm trm H locs → lv_has ls 4 [(3, .int (nI i)), (2, .ref (adm 0)), (1, .ref (ad 0)), (0, .ref b)] → W p l e room_1 s m args below meth c H locs 600000 7302250 Q (F0 m 1076 ls [])) : W p l e room_1 s m args below meth c H locs 600000 7302250 Q (F0 m 208 ls []) := by
  obtain ⟨hP, hD, hS⟩ := w
  have hA : ∀ q, s.heap.size ≤ q → lA s q := fun _ h => h
  have hbA : ¬ lA s b := Nat.not_le.mpr hbl
  obtain ⟨r, G1, tr1, Gm1, trm1, e1, e2, hR⟩ := op_sea h (N := 2000) (by omega)
  refine lv_aload_n S.1 S.2.1 dL_law_208 rfl (lv_at hl 2 rfl) ?_
  refine g_calli (c0 := 0) (cs := csW) (ad := ad) (Eg := xE ki ad) (As := []) (rest := []) (w2 := gW csM adm (mE ki adm Gm trm)) S hKK hNN hP hD hS hA (kW_c 0 (by omega)) xE_W rfl (mX4_sea l D ki ad csW kW_c 2000  G tr) e1 (cwV 0 S.2.2.2.2 lG_X4_sea rfl rfl rfl (by decide +kernel) ⟨Nat.le_of_ble_eq_true rfl, Nat.le_of_ble_eq_true rfl⟩) rfl hl.1 rfl (lv_room (Nat.le_of_ble_eq_true rfl)) dL_law_209 ⟨Nat.le_of_ble_eq_true rfl, Nat.le_of_ble_eq_true rfl⟩ (fun H locs hP hD hS => ?_)
  have hP := hP.perm List.perm_append_comm
  have hD := hD.perm List.perm_append_comm
  refine lv_aload_n S.1 S.2.1 dL_law_212 rfl (lv_at hl 1 rfl) ?_
  refine g_calli (c0 := 0) (cs := csM) (ad := adm) (Eg := mE ki adm) (As := []) (rest := [.int r]) (w2 := gW csW ad (xE ki ad G1 tr1)) S hKK hNN hP hD hS hA (kR_c 0 (by omega)) mE_R rfl (mX5_sea l D ki adm csM kR_c 2000  Gm trm) e2 (cwV 0 S.2.2.2.2 lG_X5_sea rfl rfl rfl (by decide +kernel) ⟨Nat.le_of_ble_eq_true rfl, Nat.le_of_ble_eq_true rfl⟩) rfl hl.1 rfl (lv_room (Nat.le_of_ble_eq_true rfl)) dL_law_213 ⟨Nat.le_of_ble_eq_true rfl, Nat.le_of_ble_eq_true rfl⟩ (fun H locs hP hD hS => ?_)
  have hP := hP.perm List.perm_append_comm
  have hD := hD.perm List.perm_append_comm
  exact lv_icmp_eq (tgt := 1076) S.1 S.2.1 dL_law_216 (by decide) (fun _ => kk _ _ _ _ _ _ _ hR ⟨hP, hD, hS⟩ hl) (fun hn => absurd rfl hn)
set_option maxHeartbeats 8000000 in
set_option maxRecDepth 100000 in
theorem law_isle (S : CallFix p m c cL_law 4 s args lw_tbl RL) (hKK : va_K D vwCl (zT ki) s) (hNN : nK s) (hX : va_X b L xs s s.heap) (hbl : b < s.heap.size) (hi : i + 5 ≤ L) (hL : L ≤ 320) (h : Rel G tr Gm trm) (w : lS D ki ad adm s G tr Gm trm H locs) (hl : lv_has ls 4 [(3, .int (nI i)), (2, .ref (adm 0)), (1, .ref (ad 0)), (0, .ref b)])
    (kk : ∀ (G : zMem) (tr : Int64) (Gm : zMem) (trm : Int64) (H : Heap) (locs : List Loc) (ls : Array Slot), Rel G tr Gm trm → lS D ki ad adm s G tr Gm trm H locs → lv_has ls 4 [(3, .int (nI i)), (2, .ref (adm 0)), (1, .ref (ad 0)), (0, .ref b)] → W p l e room_1 s m args below meth c H locs 600000 7302250 Q (F0 m 1076 ls [])) : W p l e room_1 s m args below meth c H locs 600000 7302250 Q (F0 m 221 ls []) := by
  obtain ⟨hP, hD, hS⟩ := w
  have hA : ∀ q, s.heap.size ≤ q → lA s q := fun _ h => h
  have hbA : ¬ lA s b := Nat.not_le.mpr hbl
  have v1 : vp_in (nI i + nI 1) L := la_in hi hL (by omega)
  have v2 : vp_in (nI i + nI 2) L := la_in hi hL (by omega)
  obtain ⟨r, G1, tr1, Gm1, trm1, e1, e2, hR⟩ := op_isle h 2000 (xs (nI i + nI 1).toNatClampNeg) (xs (nI i + nI 2).toNatClampNeg)
  refine lv_aload_n S.1 S.2.1 dL_law_221 rfl (lv_at hl 2 rfl) ?_
  refine lv_aload_n S.1 S.2.1 dL_law_222 rfl (lv_at hl 3 rfl) ?_
  refine lv_iload_n S.1 S.2.1 dL_law_223 rfl (lv_at hl 0 rfl) ?_
  refine lv_iconst (v := nI 1) S.1 S.2.1 dL_law_224 (by decide) ?_
  refine lv_iadd S.1 S.2.1 dL_law_225 ?_
  refine va_sld S.1 S.2.1 hX hbl hbA hS v1 dL_law_226 ?_
  refine lv_aload_n S.1 S.2.1 dL_law_227 rfl (lv_at hl 3 rfl) ?_
  refine lv_iload_n S.1 S.2.1 dL_law_228 rfl (lv_at hl 0 rfl) ?_
  refine lv_iconst (v := nI 2) S.1 S.2.1 dL_law_229 (by decide) ?_
  refine lv_iadd S.1 S.2.1 dL_law_230 ?_
  refine va_sld S.1 S.2.1 hX hbl hbA hS v2 dL_law_231 ?_
  refine g_calli (c0 := 0) (cs := csW) (ad := ad) (Eg := xE ki ad) (As := [.int (xs (nI i + nI 1).toNatClampNeg), .int (xs (nI i + nI 2).toNatClampNeg)]) (rest := []) (w2 := gW csM adm (mE ki adm Gm trm)) S hKK hNN hP hD hS hA (kW_c 0 (by omega)) xE_W rfl (mX4_isle l D ki ad csW kW_c 2000 (xs (nI i + nI 1).toNatClampNeg) (xs (nI i + nI 2).toNatClampNeg) G tr) e1 (cwV 2 S.2.2.2.2 lG_X4_isle rfl rfl rfl (by decide +kernel) ⟨Nat.le_of_ble_eq_true rfl, Nat.le_of_ble_eq_true rfl⟩) rfl hl.1 rfl (lv_room (Nat.le_of_ble_eq_true rfl)) dL_law_232 ⟨Nat.le_of_ble_eq_true rfl, Nat.le_of_ble_eq_true rfl⟩ (fun H locs hP hD hS => ?_)
  have hP := hP.perm List.perm_append_comm
  have hD := hD.perm List.perm_append_comm
  refine lv_aload_n S.1 S.2.1 dL_law_235 rfl (lv_at hl 1 rfl) ?_
  refine lv_aload_n S.1 S.2.1 dL_law_236 rfl (lv_at hl 3 rfl) ?_
  refine lv_iload_n S.1 S.2.1 dL_law_237 rfl (lv_at hl 0 rfl) ?_
  refine lv_iconst (v := nI 1) S.1 S.2.1 dL_law_238 (by decide) ?_
  refine lv_iadd S.1 S.2.1 dL_law_239 ?_
  refine va_sld S.1 S.2.1 hX hbl hbA hS v1 dL_law_240 ?_
  refine lv_aload_n S.1 S.2.1 dL_law_241 rfl (lv_at hl 3 rfl) ?_
  refine lv_iload_n S.1 S.2.1 dL_law_242 rfl (lv_at hl 0 rfl) ?_
  refine lv_iconst (v := nI 2) S.1 S.2.1 dL_law_243 (by decide) ?_
  refine lv_iadd S.1 S.2.1 dL_law_244 ?_
  refine va_sld S.1 S.2.1 hX hbl hbA hS v2 dL_law_245 ?_
  refine g_calli (c0 := 0) (cs := csM) (ad := adm) (Eg := mE ki adm) (As := [.int (xs (nI i + nI 1).toNatClampNeg), .int (xs (nI i + nI 2).toNatClampNeg)]) (rest := [.int r]) (w2 := gW csW ad (xE ki ad G1 tr1)) S hKK hNN hP hD hS hA (kR_c 0 (by omega)) mE_R rfl (mX5_isle l D ki adm csM kR_c 2000 (xs (nI i + nI 1).toNatClampNeg) (xs (nI i + nI 2).toNatClampNeg) Gm trm) e2 (cwV 2 S.2.2.2.2 lG_X5_isle rfl rfl rfl (by decide +kernel) ⟨Nat.le_of_ble_eq_true rfl, Nat.le_of_ble_eq_true rfl⟩) rfl hl.1 rfl (lv_room (Nat.le_of_ble_eq_true rfl)) dL_law_246 ⟨Nat.le_of_ble_eq_true rfl, Nat.le_of_ble_eq_true rfl⟩ (fun H locs hP hD hS => ?_)
  have hP := hP.perm List.perm_append_comm
  have hD := hD.perm List.perm_append_comm
  exact lv_icmp_eq (tgt := 1076) S.1 S.2.1 dL_law_249 (by decide) (fun _ => kk _ _ _ _ _ _ _ hR ⟨hP, hD, hS⟩ hl) (fun hn => absurd rfl hn)
set_option maxHeartbeats 8000000 in
set_option maxRecDepth 100000 in
theorem law_cell (S : CallFix p m c cL_law 4 s args lw_tbl RL) (hKK : va_K D vwCl (zT ki) s) (hNN : nK s) (hX : va_X b L xs s s.heap) (hbl : b < s.heap.size) (hi : i + 5 ≤ L) (hL : L ≤ 320) (h : Rel G tr Gm trm) (w : lS D ki ad adm s G tr Gm trm H locs) (hl : lv_has ls 4 [(3, .int (nI i)), (2, .ref (adm 0)), (1, .ref (ad 0)), (0, .ref b)])
    (kk : ∀ (G : zMem) (tr : Int64) (Gm : zMem) (trm : Int64) (H : Heap) (locs : List Loc) (ls : Array Slot), Rel G tr Gm trm → lS D ki ad adm s G tr Gm trm H locs → lv_has ls 4 [(3, .int (nI i)), (2, .ref (adm 0)), (1, .ref (ad 0)), (0, .ref b)] → W p l e room_1 s m args below meth c H locs 600000 7302250 Q (F0 m 1076 ls [])) : W p l e room_1 s m args below meth c H locs 600000 7302250 Q (F0 m 254 ls []) := by
  obtain ⟨hP, hD, hS⟩ := w
  have hA : ∀ q, s.heap.size ≤ q → lA s q := fun _ h => h
  have hbA : ¬ lA s b := Nat.not_le.mpr hbl
  have v1 : vp_in (nI i + nI 1) L := la_in hi hL (by omega)
  obtain ⟨r, G1, tr1, Gm1, trm1, e1, e2, hR⟩ := op_cell h (N := 2000) (by omega) (xs (nI i + nI 1).toNatClampNeg)
  refine lv_aload_n S.1 S.2.1 dL_law_254 rfl (lv_at hl 2 rfl) ?_
  refine lv_aload_n S.1 S.2.1 dL_law_255 rfl (lv_at hl 3 rfl) ?_
  refine lv_iload_n S.1 S.2.1 dL_law_256 rfl (lv_at hl 0 rfl) ?_
  refine lv_iconst (v := nI 1) S.1 S.2.1 dL_law_257 (by decide) ?_
  refine lv_iadd S.1 S.2.1 dL_law_258 ?_
  refine va_sld S.1 S.2.1 hX hbl hbA hS v1 dL_law_259 ?_
  refine g_calli (c0 := 0) (cs := csW) (ad := ad) (Eg := xE ki ad) (As := [.int (xs (nI i + nI 1).toNatClampNeg)]) (rest := []) (w2 := gW csM adm (mE ki adm Gm trm)) S hKK hNN hP hD hS hA (kW_c 0 (by omega)) xE_W rfl (mX4_cell l D ki ad csW kW_c 2000 (xs (nI i + nI 1).toNatClampNeg) G tr) e1 (cwV 1 S.2.2.2.2 lG_X4_cell rfl rfl rfl (by decide +kernel) ⟨Nat.le_of_ble_eq_true rfl, Nat.le_of_ble_eq_true rfl⟩) rfl hl.1 rfl (lv_room (Nat.le_of_ble_eq_true rfl)) dL_law_260 ⟨Nat.le_of_ble_eq_true rfl, Nat.le_of_ble_eq_true rfl⟩ (fun H locs hP hD hS => ?_)
  have hP := hP.perm List.perm_append_comm
  have hD := hD.perm List.perm_append_comm
  refine lv_aload_n S.1 S.2.1 dL_law_263 rfl (lv_at hl 1 rfl) ?_
  refine lv_aload_n S.1 S.2.1 dL_law_264 rfl (lv_at hl 3 rfl) ?_
  refine lv_iload_n S.1 S.2.1 dL_law_265 rfl (lv_at hl 0 rfl) ?_
  refine lv_iconst (v := nI 1) S.1 S.2.1 dL_law_266 (by decide) ?_
  refine lv_iadd S.1 S.2.1 dL_law_267 ?_
  refine va_sld S.1 S.2.1 hX hbl hbA hS v1 dL_law_268 ?_
  refine g_calli (c0 := 0) (cs := csM) (ad := adm) (Eg := mE ki adm) (As := [.int (xs (nI i + nI 1).toNatClampNeg)]) (rest := [.int r]) (w2 := gW csW ad (xE ki ad G1 tr1)) S hKK hNN hP hD hS hA (kR_c 0 (by omega)) mE_R rfl (mX5_cell l D ki adm csM kR_c 2000 (xs (nI i + nI 1).toNatClampNeg) Gm trm) e2 (cwV 1 S.2.2.2.2 lG_X5_cell rfl rfl rfl (by decide +kernel) ⟨Nat.le_of_ble_eq_true rfl, Nat.le_of_ble_eq_true rfl⟩) rfl hl.1 rfl (lv_room (Nat.le_of_ble_eq_true rfl)) dL_law_269 ⟨Nat.le_of_ble_eq_true rfl, Nat.le_of_ble_eq_true rfl⟩ (fun H locs hP hD hS => ?_)
  have hP := hP.perm List.perm_append_comm
  have hD := hD.perm List.perm_append_comm
  exact lv_icmp_eq (tgt := 1076) S.1 S.2.1 dL_law_272 (by decide) (fun _ => kk _ _ _ _ _ _ _ hR ⟨hP, hD, hS⟩ hl) (fun hn => absurd rfl hn)
set_option maxHeartbeats 8000000 in
set_option maxRecDepth 100000 in
theorem law_wind (S : CallFix p m c cL_law 4 s args lw_tbl RL) (hKK : va_K D vwCl (zT ki) s) (hNN : nK s) (hX : va_X b L xs s s.heap) (hbl : b < s.heap.size) (hi : i + 5 ≤ L) (hL : L ≤ 320) (h : Rel G tr Gm trm) (w : lS D ki ad adm s G tr Gm trm H locs) (hl : lv_has ls 4 [(3, .int (nI i)), (2, .ref (adm 0)), (1, .ref (ad 0)), (0, .ref b)])
    (kk : ∀ (G : zMem) (tr : Int64) (Gm : zMem) (trm : Int64) (H : Heap) (locs : List Loc) (ls : Array Slot), Rel G tr Gm trm → lS D ki ad adm s G tr Gm trm H locs → lv_has ls 4 [(3, .int (nI i)), (2, .ref (adm 0)), (1, .ref (ad 0)), (0, .ref b)] → W p l e room_1 s m args below meth c H locs 600000 7302250 Q (F0 m 1076 ls [])) : W p l e room_1 s m args below meth c H locs 600000 7302250 Q (F0 m 277 ls []) := by
  obtain ⟨hP, hD, hS⟩ := w
  have hA : ∀ q, s.heap.size ≤ q → lA s q := fun _ h => h
  have hbA : ¬ lA s b := Nat.not_le.mpr hbl
  have v1 : vp_in (nI i + nI 1) L := la_in hi hL (by omega)
  obtain ⟨r, G1, tr1, Gm1, trm1, e1, e2, hR⟩ := op_wind h 2000 (xs (nI i + nI 1).toNatClampNeg)
  refine lv_aload_n S.1 S.2.1 dL_law_277 rfl (lv_at hl 2 rfl) ?_
  refine lv_aload_n S.1 S.2.1 dL_law_278 rfl (lv_at hl 3 rfl) ?_
  refine lv_iload_n S.1 S.2.1 dL_law_279 rfl (lv_at hl 0 rfl) ?_
  refine lv_iconst (v := nI 1) S.1 S.2.1 dL_law_280 (by decide) ?_
  refine lv_iadd S.1 S.2.1 dL_law_281 ?_
  refine va_sld S.1 S.2.1 hX hbl hbA hS v1 dL_law_282 ?_
  refine g_calli (c0 := 0) (cs := csW) (ad := ad) (Eg := xE ki ad) (As := [.int (xs (nI i + nI 1).toNatClampNeg)]) (rest := []) (w2 := gW csM adm (mE ki adm Gm trm)) S hKK hNN hP hD hS hA (kW_c 0 (by omega)) xE_W rfl (mX4_wind l D ki ad csW kW_c 2000 (xs (nI i + nI 1).toNatClampNeg) G tr) e1 (cwV 1 S.2.2.2.2 lG_X4_wind rfl rfl rfl (by decide +kernel) ⟨Nat.le_of_ble_eq_true rfl, Nat.le_of_ble_eq_true rfl⟩) rfl hl.1 rfl (lv_room (Nat.le_of_ble_eq_true rfl)) dL_law_283 ⟨Nat.le_of_ble_eq_true rfl, Nat.le_of_ble_eq_true rfl⟩ (fun H locs hP hD hS => ?_)
  have hP := hP.perm List.perm_append_comm
  have hD := hD.perm List.perm_append_comm
  refine lv_aload_n S.1 S.2.1 dL_law_286 rfl (lv_at hl 1 rfl) ?_
  refine lv_aload_n S.1 S.2.1 dL_law_287 rfl (lv_at hl 3 rfl) ?_
  refine lv_iload_n S.1 S.2.1 dL_law_288 rfl (lv_at hl 0 rfl) ?_
  refine lv_iconst (v := nI 1) S.1 S.2.1 dL_law_289 (by decide) ?_
  refine lv_iadd S.1 S.2.1 dL_law_290 ?_
  refine va_sld S.1 S.2.1 hX hbl hbA hS v1 dL_law_291 ?_
  refine g_calli (c0 := 0) (cs := csM) (ad := adm) (Eg := mE ki adm) (As := [.int (xs (nI i + nI 1).toNatClampNeg)]) (rest := [.int r]) (w2 := gW csW ad (xE ki ad G1 tr1)) S hKK hNN hP hD hS hA (kR_c 0 (by omega)) mE_R rfl (mX5_wind l D ki adm csM kR_c 2000 (xs (nI i + nI 1).toNatClampNeg) Gm trm) e2 (cwV 1 S.2.2.2.2 lG_X5_wind rfl rfl rfl (by decide +kernel) ⟨Nat.le_of_ble_eq_true rfl, Nat.le_of_ble_eq_true rfl⟩) rfl hl.1 rfl (lv_room (Nat.le_of_ble_eq_true rfl)) dL_law_292 ⟨Nat.le_of_ble_eq_true rfl, Nat.le_of_ble_eq_true rfl⟩ (fun H locs hP hD hS => ?_)
  have hP := hP.perm List.perm_append_comm
  have hD := hD.perm List.perm_append_comm
  exact lv_icmp_eq (tgt := 1076) S.1 S.2.1 dL_law_295 (by decide) (fun _ => kk _ _ _ _ _ _ _ hR ⟨hP, hD, hS⟩ hl) (fun hn => absurd rfl hn)
set_option maxHeartbeats 8000000 in
set_option maxRecDepth 100000 in
theorem law_letter (S : CallFix p m c cL_law 4 s args lw_tbl RL) (hKK : va_K D vwCl (zT ki) s) (hNN : nK s) (hX : va_X b L xs s s.heap) (hbl : b < s.heap.size) (hi : i + 5 ≤ L) (hL : L ≤ 320) (h : Rel G tr Gm trm) (w : lS D ki ad adm s G tr Gm trm H locs) (hl : lv_has ls 4 [(3, .int (nI i)), (2, .ref (adm 0)), (1, .ref (ad 0)), (0, .ref b)])
    (kk : ∀ (G : zMem) (tr : Int64) (Gm : zMem) (trm : Int64) (H : Heap) (locs : List Loc) (ls : Array Slot), Rel G tr Gm trm → lS D ki ad adm s G tr Gm trm H locs → lv_has ls 4 [(3, .int (nI i)), (2, .ref (adm 0)), (1, .ref (ad 0)), (0, .ref b)] → W p l e room_1 s m args below meth c H locs 600000 7302250 Q (F0 m 1076 ls [])) : W p l e room_1 s m args below meth c H locs 600000 7302250 Q (F0 m 300 ls []) := by
  obtain ⟨hP, hD, hS⟩ := w
  have hA : ∀ q, s.heap.size ≤ q → lA s q := fun _ h => h
  have hbA : ¬ lA s b := Nat.not_le.mpr hbl
  have v1 : vp_in (nI i + nI 1) L := la_in hi hL (by omega)
  have v2 : vp_in (nI i + nI 2) L := la_in hi hL (by omega)
  obtain ⟨r, G1, tr1, Gm1, trm1, e1, e2, hR⟩ := op_letter h 2000 (xs (nI i + nI 1).toNatClampNeg) (xs (nI i + nI 2).toNatClampNeg)
  refine lv_aload_n S.1 S.2.1 dL_law_300 rfl (lv_at hl 2 rfl) ?_
  refine lv_aload_n S.1 S.2.1 dL_law_301 rfl (lv_at hl 3 rfl) ?_
  refine lv_iload_n S.1 S.2.1 dL_law_302 rfl (lv_at hl 0 rfl) ?_
  refine lv_iconst (v := nI 1) S.1 S.2.1 dL_law_303 (by decide) ?_
  refine lv_iadd S.1 S.2.1 dL_law_304 ?_
  refine va_sld S.1 S.2.1 hX hbl hbA hS v1 dL_law_305 ?_
  refine lv_aload_n S.1 S.2.1 dL_law_306 rfl (lv_at hl 3 rfl) ?_
  refine lv_iload_n S.1 S.2.1 dL_law_307 rfl (lv_at hl 0 rfl) ?_
  refine lv_iconst (v := nI 2) S.1 S.2.1 dL_law_308 (by decide) ?_
  refine lv_iadd S.1 S.2.1 dL_law_309 ?_
  refine va_sld S.1 S.2.1 hX hbl hbA hS v2 dL_law_310 ?_
  refine g_calli (c0 := 0) (cs := csW) (ad := ad) (Eg := xE ki ad) (As := [.int (xs (nI i + nI 1).toNatClampNeg), .int (xs (nI i + nI 2).toNatClampNeg)]) (rest := []) (w2 := gW csM adm (mE ki adm Gm trm)) S hKK hNN hP hD hS hA (kW_c 0 (by omega)) xE_W rfl (mX4_letter l D ki ad csW kW_c 2000 (xs (nI i + nI 1).toNatClampNeg) (xs (nI i + nI 2).toNatClampNeg) G tr) e1 (cwV 2 S.2.2.2.2 lG_X4_letter rfl rfl rfl (by decide +kernel) ⟨Nat.le_of_ble_eq_true rfl, Nat.le_of_ble_eq_true rfl⟩) rfl hl.1 rfl (lv_room (Nat.le_of_ble_eq_true rfl)) dL_law_311 ⟨Nat.le_of_ble_eq_true rfl, Nat.le_of_ble_eq_true rfl⟩ (fun H locs hP hD hS => ?_)
  have hP := hP.perm List.perm_append_comm
  have hD := hD.perm List.perm_append_comm
  refine lv_aload_n S.1 S.2.1 dL_law_314 rfl (lv_at hl 1 rfl) ?_
  refine lv_aload_n S.1 S.2.1 dL_law_315 rfl (lv_at hl 3 rfl) ?_
  refine lv_iload_n S.1 S.2.1 dL_law_316 rfl (lv_at hl 0 rfl) ?_
  refine lv_iconst (v := nI 1) S.1 S.2.1 dL_law_317 (by decide) ?_
  refine lv_iadd S.1 S.2.1 dL_law_318 ?_
  refine va_sld S.1 S.2.1 hX hbl hbA hS v1 dL_law_319 ?_
  refine lv_aload_n S.1 S.2.1 dL_law_320 rfl (lv_at hl 3 rfl) ?_
  refine lv_iload_n S.1 S.2.1 dL_law_321 rfl (lv_at hl 0 rfl) ?_
  refine lv_iconst (v := nI 2) S.1 S.2.1 dL_law_322 (by decide) ?_
  refine lv_iadd S.1 S.2.1 dL_law_323 ?_
  refine va_sld S.1 S.2.1 hX hbl hbA hS v2 dL_law_324 ?_
  refine g_calli (c0 := 0) (cs := csM) (ad := adm) (Eg := mE ki adm) (As := [.int (xs (nI i + nI 1).toNatClampNeg), .int (xs (nI i + nI 2).toNatClampNeg)]) (rest := [.int r]) (w2 := gW csW ad (xE ki ad G1 tr1)) S hKK hNN hP hD hS hA (kR_c 0 (by omega)) mE_R rfl (mX5_letter l D ki adm csM kR_c 2000 (xs (nI i + nI 1).toNatClampNeg) (xs (nI i + nI 2).toNatClampNeg) Gm trm) e2 (cwV 2 S.2.2.2.2 lG_X5_letter rfl rfl rfl (by decide +kernel) ⟨Nat.le_of_ble_eq_true rfl, Nat.le_of_ble_eq_true rfl⟩) rfl hl.1 rfl (lv_room (Nat.le_of_ble_eq_true rfl)) dL_law_325 ⟨Nat.le_of_ble_eq_true rfl, Nat.le_of_ble_eq_true rfl⟩ (fun H locs hP hD hS => ?_)
  have hP := hP.perm List.perm_append_comm
  have hD := hD.perm List.perm_append_comm
  exact lv_icmp_eq (tgt := 1076) S.1 S.2.1 dL_law_328 (by decide) (fun _ => kk _ _ _ _ _ _ _ hR ⟨hP, hD, hS⟩ hl) (fun hn => absurd rfl hn)
set_option maxHeartbeats 8000000 in
set_option maxRecDepth 100000 in
theorem law_now (S : CallFix p m c cL_law 4 s args lw_tbl RL) (hKK : va_K D vwCl (zT ki) s) (hNN : nK s) (hX : va_X b L xs s s.heap) (hbl : b < s.heap.size) (hi : i + 5 ≤ L) (hL : L ≤ 320) (h : Rel G tr Gm trm) (w : lS D ki ad adm s G tr Gm trm H locs) (hl : lv_has ls 4 [(3, .int (nI i)), (2, .ref (adm 0)), (1, .ref (ad 0)), (0, .ref b)])
    (kk : ∀ (G : zMem) (tr : Int64) (Gm : zMem) (trm : Int64) (H : Heap) (locs : List Loc) (ls : Array Slot), Rel G tr Gm trm → lS D ki ad adm s G tr Gm trm H locs → lv_has ls 4 [(3, .int (nI i)), (2, .ref (adm 0)), (1, .ref (ad 0)), (0, .ref b)] → W p l e room_1 s m args below meth c H locs 600000 7302250 Q (F0 m 1076 ls [])) : W p l e room_1 s m args below meth c H locs 600000 7302250 Q (F0 m 333 ls []) := by
  obtain ⟨hP, hD, hS⟩ := w
  have hA : ∀ q, s.heap.size ≤ q → lA s q := fun _ h => h
  have hbA : ¬ lA s b := Nat.not_le.mpr hbl
  have v1 : vp_in (nI i + nI 1) L := la_in hi hL (by omega)
  obtain ⟨r, G1, tr1, Gm1, trm1, e1, e2, hR⟩ := op_now h (N := 2000) (by omega) (xs (nI i + nI 1).toNatClampNeg)
  refine lv_aload_n S.1 S.2.1 dL_law_333 rfl (lv_at hl 2 rfl) ?_
  refine lv_aload_n S.1 S.2.1 dL_law_334 rfl (lv_at hl 3 rfl) ?_
  refine lv_iload_n S.1 S.2.1 dL_law_335 rfl (lv_at hl 0 rfl) ?_
  refine lv_iconst (v := nI 1) S.1 S.2.1 dL_law_336 (by decide) ?_
  refine lv_iadd S.1 S.2.1 dL_law_337 ?_
  refine va_sld S.1 S.2.1 hX hbl hbA hS v1 dL_law_338 ?_
  refine g_calli (c0 := 0) (cs := csW) (ad := ad) (Eg := xE ki ad) (As := [.int (xs (nI i + nI 1).toNatClampNeg)]) (rest := []) (w2 := gW csM adm (mE ki adm Gm trm)) S hKK hNN hP hD hS hA (kW_c 0 (by omega)) xE_W rfl (mX4_now l D ki ad csW kW_c 2000 (xs (nI i + nI 1).toNatClampNeg) G tr) e1 (cwV 1 S.2.2.2.2 lG_X4_now rfl rfl rfl (by decide +kernel) ⟨Nat.le_of_ble_eq_true rfl, Nat.le_of_ble_eq_true rfl⟩) rfl hl.1 rfl (lv_room (Nat.le_of_ble_eq_true rfl)) dL_law_339 ⟨Nat.le_of_ble_eq_true rfl, Nat.le_of_ble_eq_true rfl⟩ (fun H locs hP hD hS => ?_)
  have hP := hP.perm List.perm_append_comm
  have hD := hD.perm List.perm_append_comm
  refine lv_aload_n S.1 S.2.1 dL_law_342 rfl (lv_at hl 1 rfl) ?_
  refine lv_aload_n S.1 S.2.1 dL_law_343 rfl (lv_at hl 3 rfl) ?_
  refine lv_iload_n S.1 S.2.1 dL_law_344 rfl (lv_at hl 0 rfl) ?_
  refine lv_iconst (v := nI 1) S.1 S.2.1 dL_law_345 (by decide) ?_
  refine lv_iadd S.1 S.2.1 dL_law_346 ?_
  refine va_sld S.1 S.2.1 hX hbl hbA hS v1 dL_law_347 ?_
  refine g_calli (c0 := 0) (cs := csM) (ad := adm) (Eg := mE ki adm) (As := [.int (xs (nI i + nI 1).toNatClampNeg)]) (rest := [.int r]) (w2 := gW csW ad (xE ki ad G1 tr1)) S hKK hNN hP hD hS hA (kR_c 0 (by omega)) mE_R rfl (mX5_now l D ki adm csM kR_c 2000 (xs (nI i + nI 1).toNatClampNeg) Gm trm) e2 (cwV 1 S.2.2.2.2 lG_X5_now rfl rfl rfl (by decide +kernel) ⟨Nat.le_of_ble_eq_true rfl, Nat.le_of_ble_eq_true rfl⟩) rfl hl.1 rfl (lv_room (Nat.le_of_ble_eq_true rfl)) dL_law_348 ⟨Nat.le_of_ble_eq_true rfl, Nat.le_of_ble_eq_true rfl⟩ (fun H locs hP hD hS => ?_)
  have hP := hP.perm List.perm_append_comm
  have hD := hD.perm List.perm_append_comm
  exact lv_icmp_eq (tgt := 1076) S.1 S.2.1 dL_law_351 (by decide) (fun _ => kk _ _ _ _ _ _ _ hR ⟨hP, hD, hS⟩ hl) (fun hn => absurd rfl hn)
end lawC
