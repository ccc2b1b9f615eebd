/-! ===== the law, op by op (4) ===== -/
section lawC
variable {p : Program} {l : Launch} {e : Env} {s : State} {m : MethodId} {args : Array Value} {below : List Frame} {meth : Method} {c : Code} {H : Heap} {locs : List Loc} {Q : State → Prop} {ls : Array Slot} {D : va_G} {ki : Nat → ClassId} {ad adm : Nat → Nat} {b L i : Nat} {xs : Nat → Int32} {G Gm : zMem} {tr trm : Int64}
set_option maxHeartbeats 8000000 in
set_option maxRecDepth 100000 in
theorem law_drift (S : CallFix p m c cL_law 4 s args lw_tbl RL) (hKK : va_K D vwCl (zT ki) s) (hNN : nK s) (hX : va_X b L xs s s.heap) (hbl : b < s.heap.size) (hi : i + 5 ≤ L) (hL : L ≤ 320) (h : Rel G tr Gm trm) (w : lS D ki ad adm s G tr Gm trm H locs) (hl : lv_has ls 4 [(3, .int (nI i)), (2, .ref (adm 0)), (1, .ref (ad 0)), (0, .ref b)])
    (kk : ∀ (G : zMem) (tr : Int64) (Gm : zMem) (trm : Int64) (H : Heap) (locs : List Loc) (ls : Array Slot), Rel G tr Gm trm → lS D ki ad adm s G tr Gm trm H locs → lv_has ls 4 [(3, .int (nI i)), (2, .ref (adm 0)), (1, .ref (ad 0)), (0, .ref b)] → W p l e room_1 s m args below meth c H locs 600000 7302250 Q (F0 m 1076 ls [])) : W p l e room_1 s m args below meth c H locs 600000 7302250 Q (F0 m 874 ls []) := by
  obtain ⟨hP, hD, hS⟩ := w
  have hA : ∀ q, s.heap.size ≤ q → lA s q := fun _ h => h
  have hbA : ¬ lA s b := Nat.not_le.mpr hbl
  have v1 : vp_in (nI i + nI 1) L := la_in hi hL (by omega)
  have v2 : vp_in (nI i + nI 2) L := la_in hi hL (by omega)
  obtain ⟨r, G1, tr1, Gm1, trm1, e1, e2, hR⟩ := op_drift h (N := 2000) (by omega) (xs (nI i + nI 1).toNatClampNeg) (xs (nI i + nI 2).toNatClampNeg)
  refine lv_aload_n S.1 S.2.1 dL_law_874 rfl (lv_at hl 2 rfl) ?_
  refine lv_aload_n S.1 S.2.1 dL_law_875 rfl (lv_at hl 3 rfl) ?_
  refine lv_iload_n S.1 S.2.1 dL_law_876 rfl (lv_at hl 0 rfl) ?_
  refine lv_iconst (v := nI 1) S.1 S.2.1 dL_law_877 (by decide) ?_
  refine lv_iadd S.1 S.2.1 dL_law_878 ?_
  refine va_sld S.1 S.2.1 hX hbl hbA hS v1 dL_law_879 ?_
  refine lv_aload_n S.1 S.2.1 dL_law_880 rfl (lv_at hl 3 rfl) ?_
  refine lv_iload_n S.1 S.2.1 dL_law_881 rfl (lv_at hl 0 rfl) ?_
  refine lv_iconst (v := nI 2) S.1 S.2.1 dL_law_882 (by decide) ?_
  refine lv_iadd S.1 S.2.1 dL_law_883 ?_
  refine va_sld S.1 S.2.1 hX hbl hbA hS v2 dL_law_884 ?_
  refine g_calli (c0 := 0) (cs := csW) (ad := ad) (Eg := xE ki ad) (As := [.int (xs (nI i + nI 1).toNatClampNeg), .int (xs (nI i + nI 2).toNatClampNeg)]) (rest := []) (w2 := gW csM adm (mE ki adm Gm trm)) S hKK hNN hP hD hS hA (kW_c 0 (by omega)) xE_W rfl (mX4_drift l D ki ad csW kW_c 2000 (xs (nI i + nI 1).toNatClampNeg) (xs (nI i + nI 2).toNatClampNeg) G tr) e1 (cwV 2 S.2.2.2.2 lG_X4_drift rfl rfl rfl (by decide +kernel) ⟨Nat.le_of_ble_eq_true rfl, Nat.le_of_ble_eq_true rfl⟩) rfl hl.1 rfl (lv_room (Nat.le_of_ble_eq_true rfl)) dL_law_885 ⟨Nat.le_of_ble_eq_true rfl, Nat.le_of_ble_eq_true rfl⟩ (fun H locs hP hD hS => ?_)
  have hP := hP.perm List.perm_append_comm
  have hD := hD.perm List.perm_append_comm
  refine lv_aload_n S.1 S.2.1 dL_law_888 rfl (lv_at hl 1 rfl) ?_
  refine lv_aload_n S.1 S.2.1 dL_law_889 rfl (lv_at hl 3 rfl) ?_
  refine lv_iload_n S.1 S.2.1 dL_law_890 rfl (lv_at hl 0 rfl) ?_
  refine lv_iconst (v := nI 1) S.1 S.2.1 dL_law_891 (by decide) ?_
  refine lv_iadd S.1 S.2.1 dL_law_892 ?_
  refine va_sld S.1 S.2.1 hX hbl hbA hS v1 dL_law_893 ?_
  refine lv_aload_n S.1 S.2.1 dL_law_894 rfl (lv_at hl 3 rfl) ?_
  refine lv_iload_n S.1 S.2.1 dL_law_895 rfl (lv_at hl 0 rfl) ?_
  refine lv_iconst (v := nI 2) S.1 S.2.1 dL_law_896 (by decide) ?_
  refine lv_iadd S.1 S.2.1 dL_law_897 ?_
  refine va_sld S.1 S.2.1 hX hbl hbA hS v2 dL_law_898 ?_
  refine g_calli (c0 := 0) (cs := csM) (ad := adm) (Eg := mE ki adm) (As := [.int (xs (nI i + nI 1).toNatClampNeg), .int (xs (nI i + nI 2).toNatClampNeg)]) (rest := [.int r]) (w2 := gW csW ad (xE ki ad G1 tr1)) S hKK hNN hP hD hS hA (kR_c 0 (by omega)) mE_R rfl (mX5_drift l D ki adm csM kR_c 2000 (xs (nI i + nI 1).toNatClampNeg) (xs (nI i + nI 2).toNatClampNeg) Gm trm) e2 (cwV 2 S.2.2.2.2 lG_X5_drift rfl rfl rfl (by decide +kernel) ⟨Nat.le_of_ble_eq_true rfl, Nat.le_of_ble_eq_true rfl⟩) rfl hl.1 rfl (lv_room (Nat.le_of_ble_eq_true rfl)) dL_law_899 ⟨Nat.le_of_ble_eq_true rfl, Nat.le_of_ble_eq_true rfl⟩ (fun H locs hP hD hS => ?_)
  have hP := hP.perm List.perm_append_comm
  have hD := hD.perm List.perm_append_comm
  exact lv_icmp_eq (tgt := 1076) S.1 S.2.1 dL_law_902 (by decide) (fun _ => kk _ _ _ _ _ _ _ hR ⟨hP, hD, hS⟩ hl) (fun hn => absurd rfl hn)
set_option maxHeartbeats 8000000 in
set_option maxRecDepth 100000 in
theorem law_odds (S : CallFix p m c cL_law 4 s args lw_tbl RL) (hKK : va_K D vwCl (zT ki) s) (hNN : nK s) (hX : va_X b L xs s s.heap) (hbl : b < s.heap.size) (hi : i + 5 ≤ L) (hL : L ≤ 320) (h : Rel G tr Gm trm) (w : lS D ki ad adm s G tr Gm trm H locs) (hl : lv_has ls 4 [(3, .int (nI i)), (2, .ref (adm 0)), (1, .ref (ad 0)), (0, .ref b)])
    (kk : ∀ (G : zMem) (tr : Int64) (Gm : zMem) (trm : Int64) (H : Heap) (locs : List Loc) (ls : Array Slot), Rel G tr Gm trm → lS D ki ad adm s G tr Gm trm H locs → lv_has ls 4 [(3, .int (nI i)), (2, .ref (adm 0)), (1, .ref (ad 0)), (0, .ref b)] → W p l e room_1 s m args below meth c H locs 600000 7302250 Q (F0 m 1076 ls [])) : W p l e room_1 s m args below meth c H locs 600000 7302250 Q (F0 m 907 ls []) := by
  obtain ⟨hP, hD, hS⟩ := w
  have hA : ∀ q, s.heap.size ≤ q → lA s q := fun _ h => h
  have hbA : ¬ lA s b := Nat.not_le.mpr hbl
  have v1 : vp_in (nI i + nI 1) L := la_in hi hL (by omega)
  have v2 : vp_in (nI i + nI 2) L := la_in hi hL (by omega)
  have v3 : vp_in (nI i + nI 3) L := la_in hi hL (by omega)
  have v4 : vp_in (nI i + nI 4) L := la_in hi hL (by omega)
  obtain ⟨r, G1, tr1, Gm1, trm1, e1, e2, hR⟩ := op_odds h (N := 2000) (by omega) (xs (nI i + nI 1).toNatClampNeg) (xs (nI i + nI 2).toNatClampNeg) (xs (nI i + nI 3).toNatClampNeg) (xs (nI i + nI 4).toNatClampNeg)
  refine lv_aload_n S.1 S.2.1 dL_law_907 rfl (lv_at hl 2 rfl) ?_
  refine lv_aload_n S.1 S.2.1 dL_law_908 rfl (lv_at hl 3 rfl) ?_
  refine lv_iload_n S.1 S.2.1 dL_law_909 rfl (lv_at hl 0 rfl) ?_
  refine lv_iconst (v := nI 1) S.1 S.2.1 dL_law_910 (by decide) ?_
  refine lv_iadd S.1 S.2.1 dL_law_911 ?_
  refine va_sld S.1 S.2.1 hX hbl hbA hS v1 dL_law_912 ?_
  refine lv_aload_n S.1 S.2.1 dL_law_913 rfl (lv_at hl 3 rfl) ?_
  refine lv_iload_n S.1 S.2.1 dL_law_914 rfl (lv_at hl 0 rfl) ?_
  refine lv_iconst (v := nI 2) S.1 S.2.1 dL_law_915 (by decide) ?_
  refine lv_iadd S.1 S.2.1 dL_law_916 ?_
  refine va_sld S.1 S.2.1 hX hbl hbA hS v2 dL_law_917 ?_
  refine lv_aload_n S.1 S.2.1 dL_law_918 rfl (lv_at hl 3 rfl) ?_
  refine lv_iload_n S.1 S.2.1 dL_law_919 rfl (lv_at hl 0 rfl) ?_
  refine lv_iconst (v := nI 3) S.1 S.2.1 dL_law_920 (by decide) ?_
  refine lv_iadd S.1 S.2.1 dL_law_921 ?_
  refine va_sld S.1 S.2.1 hX hbl hbA hS v3 dL_law_922 ?_
  refine lv_aload_n S.1 S.2.1 dL_law_923 rfl (lv_at hl 3 rfl) ?_
  refine lv_iload_n S.1 S.2.1 dL_law_924 rfl (lv_at hl 0 rfl) ?_
  refine lv_iconst (v := nI 4) S.1 S.2.1 dL_law_925 (by decide) ?_
  refine lv_iadd S.1 S.2.1 dL_law_926 ?_
  refine va_sld S.1 S.2.1 hX hbl hbA hS v4 dL_law_927 ?_
  refine g_calli (c0 := 0) (cs := csW) (ad := ad) (Eg := xE ki ad) (As := [.int (xs (nI i + nI 1).toNatClampNeg), .int (xs (nI i + nI 2).toNatClampNeg), .int (xs (nI i + nI 3).toNatClampNeg), .int (xs (nI i + nI 4).toNatClampNeg)]) (rest := []) (w2 := gW csM adm (mE ki adm Gm trm)) S hKK hNN hP hD hS hA (kW_c 0 (by omega)) xE_W rfl (mX4_odds l D ki ad csW kW_c 2000 (xs (nI i + nI 1).toNatClampNeg) (xs (nI i + nI 2).toNatClampNeg) (xs (nI i + nI 3).toNatClampNeg) (xs (nI i + nI 4).toNatClampNeg) G tr) e1 (cwV 4 S.2.2.2.2 lG_X4_odds rfl rfl rfl (by decide +kernel) ⟨Nat.le_of_ble_eq_true rfl, Nat.le_of_ble_eq_true rfl⟩) rfl hl.1 rfl (lv_room (Nat.le_of_ble_eq_true rfl)) dL_law_928 ⟨Nat.le_of_ble_eq_true rfl, Nat.le_of_ble_eq_true rfl⟩ (fun H locs hP hD hS => ?_)
  have hP := hP.perm List.perm_append_comm
  have hD := hD.perm List.perm_append_comm
  refine lv_aload_n S.1 S.2.1 dL_law_931 rfl (lv_at hl 1 rfl) ?_
  refine lv_aload_n S.1 S.2.1 dL_law_932 rfl (lv_at hl 3 rfl) ?_
  refine lv_iload_n S.1 S.2.1 dL_law_933 rfl (lv_at hl 0 rfl) ?_
  refine lv_iconst (v := nI 1) S.1 S.2.1 dL_law_934 (by decide) ?_
  refine lv_iadd S.1 S.2.1 dL_law_935 ?_
  refine va_sld S.1 S.2.1 hX hbl hbA hS v1 dL_law_936 ?_
  refine lv_aload_n S.1 S.2.1 dL_law_937 rfl (lv_at hl 3 rfl) ?_
  refine lv_iload_n S.1 S.2.1 dL_law_938 rfl (lv_at hl 0 rfl) ?_
  refine lv_iconst (v := nI 2) S.1 S.2.1 dL_law_939 (by decide) ?_
  refine lv_iadd S.1 S.2.1 dL_law_940 ?_
  refine va_sld S.1 S.2.1 hX hbl hbA hS v2 dL_law_941 ?_
  refine lv_aload_n S.1 S.2.1 dL_law_942 rfl (lv_at hl 3 rfl) ?_
  refine lv_iload_n S.1 S.2.1 dL_law_943 rfl (lv_at hl 0 rfl) ?_
  refine lv_iconst (v := nI 3) S.1 S.2.1 dL_law_944 (by decide) ?_
  refine lv_iadd S.1 S.2.1 dL_law_945 ?_
  refine va_sld S.1 S.2.1 hX hbl hbA hS v3 dL_law_946 ?_
  refine lv_aload_n S.1 S.2.1 dL_law_947 rfl (lv_at hl 3 rfl) ?_
  refine lv_iload_n S.1 S.2.1 dL_law_948 rfl (lv_at hl 0 rfl) ?_
  refine lv_iconst (v := nI 4) S.1 S.2.1 dL_law_949 (by decide) ?_
  refine lv_iadd S.1 S.2.1 dL_law_950 ?_
  refine va_sld S.1 S.2.1 hX hbl hbA hS v4 dL_law_951 ?_
  refine g_calli (c0 := 0) (cs := csM) (ad := adm) (Eg := mE ki adm) (As := [.int (xs (nI i + nI 1).toNatClampNeg), .int (xs (nI i + nI 2).toNatClampNeg), .int (xs (nI i + nI 3).toNatClampNeg), .int (xs (nI i + nI 4).toNatClampNeg)]) (rest := [.int r]) (w2 := gW csW ad (xE ki ad G1 tr1)) S hKK hNN hP hD hS hA (kR_c 0 (by omega)) mE_R rfl (mX5_odds l D ki adm csM kR_c 2000 (xs (nI i + nI 1).toNatClampNeg) (xs (nI i + nI 2).toNatClampNeg) (xs (nI i + nI 3).toNatClampNeg) (xs (nI i + nI 4).toNatClampNeg) Gm trm) e2 (cwV 4 S.2.2.2.2 lG_X5_odds rfl rfl rfl (by decide +kernel) ⟨Nat.le_of_ble_eq_true rfl, Nat.le_of_ble_eq_true rfl⟩) rfl hl.1 rfl (lv_room (Nat.le_of_ble_eq_true rfl)) dL_law_952 ⟨Nat.le_of_ble_eq_true rfl, Nat.le_of_ble_eq_true rfl⟩ (fun H locs hP hD hS => ?_)
  have hP := hP.perm List.perm_append_comm
  have hD := hD.perm List.perm_append_comm
  exact lv_icmp_eq (tgt := 1076) S.1 S.2.1 dL_law_955 (by decide) (fun _ => kk _ _ _ _ _ _ _ hR ⟨hP, hD, hS⟩ hl) (fun hn => absurd rfl hn)
set_option maxHeartbeats 8000000 in
set_option maxRecDepth 100000 in
theorem law_rate (S : CallFix p m c cL_law 4 s args lw_tbl RL) (hKK : va_K D vwCl (zT ki) s) (hNN : nK s) (hX : va_X b L xs s s.heap) (hbl : b < s.heap.size) (hi : i + 5 ≤ L) (hL : L ≤ 320) (h : Rel G tr Gm trm) (w : lS D ki ad adm s G tr Gm trm H locs) (hl : lv_has ls 4 [(3, .int (nI i)), (2, .ref (adm 0)), (1, .ref (ad 0)), (0, .ref b)])
    (kk : ∀ (G : zMem) (tr : Int64) (Gm : zMem) (trm : Int64) (H : Heap) (locs : List Loc) (ls : Array Slot), Rel G tr Gm trm → lS D ki ad adm s G tr Gm trm H locs → lv_has ls 4 [(3, .int (nI i)), (2, .ref (adm 0)), (1, .ref (ad 0)), (0, .ref b)] → W p l e room_1 s m args below meth c H locs 600000 7302250 Q (F0 m 1076 ls [])) : W p l e room_1 s m args below meth c H locs 600000 7302250 Q (F0 m 960 ls []) := by
  obtain ⟨hP, hD, hS⟩ := w
  have hA : ∀ q, s.heap.size ≤ q → lA s q := fun _ h => h
  have hbA : ¬ lA s b := Nat.not_le.mpr hbl
  have v1 : vp_in (nI i + nI 1) L := la_in hi hL (by omega)
  have v2 : vp_in (nI i + nI 2) L := la_in hi hL (by omega)
  obtain ⟨r, G1, tr1, Gm1, trm1, e1, e2, hR⟩ := op_rate h (N := 2000) (by omega) (xs (nI i + nI 1).toNatClampNeg) (xs (nI i + nI 2).toNatClampNeg)
  refine lv_aload_n S.1 S.2.1 dL_law_960 rfl (lv_at hl 2 rfl) ?_
  refine lv_aload_n S.1 S.2.1 dL_law_961 rfl (lv_at hl 3 rfl) ?_
  refine lv_iload_n S.1 S.2.1 dL_law_962 rfl (lv_at hl 0 rfl) ?_
  refine lv_iconst (v := nI 1) S.1 S.2.1 dL_law_963 (by decide) ?_
  refine lv_iadd S.1 S.2.1 dL_law_964 ?_
  refine va_sld S.1 S.2.1 hX hbl hbA hS v1 dL_law_965 ?_
  refine lv_aload_n S.1 S.2.1 dL_law_966 rfl (lv_at hl 3 rfl) ?_
  refine lv_iload_n S.1 S.2.1 dL_law_967 rfl (lv_at hl 0 rfl) ?_
  refine lv_iconst (v := nI 2) S.1 S.2.1 dL_law_968 (by decide) ?_
  refine lv_iadd S.1 S.2.1 dL_law_969 ?_
  refine va_sld S.1 S.2.1 hX hbl hbA hS v2 dL_law_970 ?_
  refine g_calli (c0 := 0) (cs := csW) (ad := ad) (Eg := xE ki ad) (As := [.int (xs (nI i + nI 1).toNatClampNeg), .int (xs (nI i + nI 2).toNatClampNeg)]) (rest := []) (w2 := gW csM adm (mE ki adm Gm trm)) S hKK hNN hP hD hS hA (kW_c 0 (by omega)) xE_W rfl (mX4_rate l D ki ad csW kW_c 2000 (xs (nI i + nI 1).toNatClampNeg) (xs (nI i + nI 2).toNatClampNeg) G tr) e1 (cwV 2 S.2.2.2.2 lG_X4_rate rfl rfl rfl (by decide +kernel) ⟨Nat.le_of_ble_eq_true rfl, Nat.le_of_ble_eq_true rfl⟩) rfl hl.1 rfl (lv_room (Nat.le_of_ble_eq_true rfl)) dL_law_971 ⟨Nat.le_of_ble_eq_true rfl, Nat.le_of_ble_eq_true rfl⟩ (fun H locs hP hD hS => ?_)
  have hP := hP.perm List.perm_append_comm
  have hD := hD.perm List.perm_append_comm
  refine lv_aload_n S.1 S.2.1 dL_law_974 rfl (lv_at hl 1 rfl) ?_
  refine lv_aload_n S.1 S.2.1 dL_law_975 rfl (lv_at hl 3 rfl) ?_
  refine lv_iload_n S.1 S.2.1 dL_law_976 rfl (lv_at hl 0 rfl) ?_
  refine lv_iconst (v := nI 1) S.1 S.2.1 dL_law_977 (by decide) ?_
  refine lv_iadd S.1 S.2.1 dL_law_978 ?_
  refine va_sld S.1 S.2.1 hX hbl hbA hS v1 dL_law_979 ?_
  refine lv_aload_n S.1 S.2.1 dL_law_980 rfl (lv_at hl 3 rfl) ?_
  refine lv_iload_n S.1 S.2.1 dL_law_981 rfl (lv_at hl 0 rfl) ?_
  refine lv_iconst (v := nI 2) S.1 S.2.1 dL_law_982 (by decide) ?_
  refine lv_iadd S.1 S.2.1 dL_law_983 ?_
  refine va_sld S.1 S.2.1 hX hbl hbA hS v2 dL_law_984 ?_
  refine g_calli (c0 := 0) (cs := csM) (ad := adm) (Eg := mE ki adm) (As := [.int (xs (nI i + nI 1).toNatClampNeg), .int (xs (nI i + nI 2).toNatClampNeg)]) (rest := [.int r]) (w2 := gW csW ad (xE ki ad G1 tr1)) S hKK hNN hP hD hS hA (kR_c 0 (by omega)) mE_R rfl (mX5_rate l D ki adm csM kR_c 2000 (xs (nI i + nI 1).toNatClampNeg) (xs (nI i + nI 2).toNatClampNeg) Gm trm) e2 (cwV 2 S.2.2.2.2 lG_X5_rate rfl rfl rfl (by decide +kernel) ⟨Nat.le_of_ble_eq_true rfl, Nat.le_of_ble_eq_true rfl⟩) rfl hl.1 rfl (lv_room (Nat.le_of_ble_eq_true rfl)) dL_law_985 ⟨Nat.le_of_ble_eq_true rfl, Nat.le_of_ble_eq_true rfl⟩ (fun H locs hP hD hS => ?_)
  have hP := hP.perm List.perm_append_comm
  have hD := hD.perm List.perm_append_comm
  exact lv_icmp_eq (tgt := 1076) S.1 S.2.1 dL_law_988 (by decide) (fun _ => kk _ _ _ _ _ _ _ hR ⟨hP, hD, hS⟩ hl) (fun hn => absurd rfl hn)
set_option maxHeartbeats 8000000 in
set_option maxRecDepth 100000 in
theorem law_keep (S : CallFix p m c cL_law 4 s args lw_tbl RL) (hKK : va_K D vwCl (zT ki) s) (hNN : nK s) (hX : va_X b L xs s s.heap) (hbl : b < s.heap.size) (hi : i + 5 ≤ L) (hL : L ≤ 320) (h : Rel G tr Gm trm) (w : lS D ki ad adm s G tr Gm trm H locs) (hl : lv_has ls 4 [(3, .int (nI i)), (2, .ref (adm 0)), (1, .ref (ad 0)), (0, .ref b)])
    (kk : ∀ (G : zMem) (tr : Int64) (Gm : zMem) (trm : Int64) (H : Heap) (locs : List Loc) (ls : Array Slot), Rel G tr Gm trm → lS D ki ad adm s G tr Gm trm H locs → lv_has ls 4 [(3, .int (nI i)), (2, .ref (adm 0)), (1, .ref (ad 0)), (0, .ref b)] → W p l e room_1 s m args below meth c H locs 600000 7302250 Q (F0 m 1076 ls [])) : W p l e room_1 s m args below meth c H locs 600000 7302250 Q (F0 m 993 ls []) := by
  obtain ⟨hP, hD, hS⟩ := w
  have hA : ∀ q, s.heap.size ≤ q → lA s q := fun _ h => h
  have hbA : ¬ lA s b := Nat.not_le.mpr hbl
  have v1 : vp_in (nI i + nI 1) L := la_in hi hL (by omega)
  obtain ⟨r, G1, tr1, Gm1, trm1, e1, e2, hR⟩ := op_keep h (N := 2000) (by omega) (xs (nI i + nI 1).toNatClampNeg)
  refine lv_aload_n S.1 S.2.1 dL_law_993 rfl (lv_at hl 2 rfl) ?_
  refine lv_aload_n S.1 S.2.1 dL_law_994 rfl (lv_at hl 3 rfl) ?_
  refine lv_iload_n S.1 S.2.1 dL_law_995 rfl (lv_at hl 0 rfl) ?_
  refine lv_iconst (v := nI 1) S.1 S.2.1 dL_law_996 (by decide) ?_
  refine lv_iadd S.1 S.2.1 dL_law_997 ?_
  refine va_sld S.1 S.2.1 hX hbl hbA hS v1 dL_law_998 ?_
  refine g_calli (c0 := 0) (cs := csW) (ad := ad) (Eg := xE ki ad) (As := [.int (xs (nI i + nI 1).toNatClampNeg)]) (rest := []) (w2 := gW csM adm (mE ki adm Gm trm)) S hKK hNN hP hD hS hA (kW_c 0 (by omega)) xE_W rfl (mX4_keep l D ki ad csW kW_c 2000 (xs (nI i + nI 1).toNatClampNeg) G tr) e1 (cwV 1 S.2.2.2.2 lG_X4_keep rfl rfl rfl (by decide +kernel) ⟨Nat.le_of_ble_eq_true rfl, Nat.le_of_ble_eq_true rfl⟩) rfl hl.1 rfl (lv_room (Nat.le_of_ble_eq_true rfl)) dL_law_999 ⟨Nat.le_of_ble_eq_true rfl, Nat.le_of_ble_eq_true rfl⟩ (fun H locs hP hD hS => ?_)
  have hP := hP.perm List.perm_append_comm
  have hD := hD.perm List.perm_append_comm
  refine lv_aload_n S.1 S.2.1 dL_law_1002 rfl (lv_at hl 1 rfl) ?_
  refine lv_aload_n S.1 S.2.1 dL_law_1003 rfl (lv_at hl 3 rfl) ?_
  refine lv_iload_n S.1 S.2.1 dL_law_1004 rfl (lv_at hl 0 rfl) ?_
  refine lv_iconst (v := nI 1) S.1 S.2.1 dL_law_1005 (by decide) ?_
  refine lv_iadd S.1 S.2.1 dL_law_1006 ?_
  refine va_sld S.1 S.2.1 hX hbl hbA hS v1 dL_law_1007 ?_
  refine g_calli (c0 := 0) (cs := csM) (ad := adm) (Eg := mE ki adm) (As := [.int (xs (nI i + nI 1).toNatClampNeg)]) (rest := [.int r]) (w2 := gW csW ad (xE ki ad G1 tr1)) S hKK hNN hP hD hS hA (kR_c 0 (by omega)) mE_R rfl (mX5_keep l D ki adm csM kR_c 2000 (xs (nI i + nI 1).toNatClampNeg) Gm trm) e2 (cwV 1 S.2.2.2.2 lG_X5_keep rfl rfl rfl (by decide +kernel) ⟨Nat.le_of_ble_eq_true rfl, Nat.le_of_ble_eq_true rfl⟩) rfl hl.1 rfl (lv_room (Nat.le_of_ble_eq_true rfl)) dL_law_1008 ⟨Nat.le_of_ble_eq_true rfl, Nat.le_of_ble_eq_true rfl⟩ (fun H locs hP hD hS => ?_)
  have hP := hP.perm List.perm_append_comm
  have hD := hD.perm List.perm_append_comm
  exact lv_icmp_eq (tgt := 1076) S.1 S.2.1 dL_law_1011 (by decide) (fun _ => kk _ _ _ _ _ _ _ hR ⟨hP, hD, hS⟩ hl) (fun hn => absurd rfl hn)
set_option maxHeartbeats 8000000 in
set_option maxRecDepth 100000 in
theorem law_back (S : CallFix p m c cL_law 4 s args lw_tbl RL) (hKK : va_K D vwCl (zT ki) s) (hNN : nK s) (hX : va_X b L xs s s.heap) (hbl : b < s.heap.size) (hi : i + 5 ≤ L) (hL : L ≤ 320) (h : Rel G tr Gm trm) (w : lS D ki ad adm s G tr Gm trm H locs) (hl : lv_has ls 4 [(3, .int (nI i)), (2, .ref (adm 0)), (1, .ref (ad 0)), (0, .ref b)])
    (kk : ∀ (G : zMem) (tr : Int64) (Gm : zMem) (trm : Int64) (H : Heap) (locs : List Loc) (ls : Array Slot), Rel G tr Gm trm → lS D ki ad adm s G tr Gm trm H locs → lv_has ls 4 [(3, .int (nI i)), (2, .ref (adm 0)), (1, .ref (ad 0)), (0, .ref b)] → W p l e room_1 s m args below meth c H locs 600000 7302250 Q (F0 m 1076 ls [])) : W p l e room_1 s m args below meth c H locs 600000 7302250 Q (F0 m 1016 ls []) := by
  obtain ⟨hP, hD, hS⟩ := w
  have hA : ∀ q, s.heap.size ≤ q → lA s q := fun _ h => h
  have hbA : ¬ lA s b := Nat.not_le.mpr hbl
  have v1 : vp_in (nI i + nI 1) L := la_in hi hL (by omega)
  obtain ⟨r, G1, tr1, Gm1, trm1, e1, e2, hR⟩ := op_back h (N := 2000) (by omega) (xs (nI i + nI 1).toNatClampNeg)
  refine lv_aload_n S.1 S.2.1 dL_law_1016 rfl (lv_at hl 2 rfl) ?_
  refine lv_aload_n S.1 S.2.1 dL_law_1017 rfl (lv_at hl 3 rfl) ?_
  refine lv_iload_n S.1 S.2.1 dL_law_1018 rfl (lv_at hl 0 rfl) ?_
  refine lv_iconst (v := nI 1) S.1 S.2.1 dL_law_1019 (by decide) ?_
  refine lv_iadd S.1 S.2.1 dL_law_1020 ?_
  refine va_sld S.1 S.2.1 hX hbl hbA hS v1 dL_law_1021 ?_
  refine g_calli (c0 := 0) (cs := csW) (ad := ad) (Eg := xE ki ad) (As := [.int (xs (nI i + nI 1).toNatClampNeg)]) (rest := []) (w2 := gW csM adm (mE ki adm Gm trm)) S hKK hNN hP hD hS hA (kW_c 0 (by omega)) xE_W rfl (mX4_back l D ki ad csW kW_c 2000 (xs (nI i + nI 1).toNatClampNeg) G tr) e1 (cwV 1 S.2.2.2.2 lG_X4_back rfl rfl rfl (by decide +kernel) ⟨Nat.le_of_ble_eq_true rfl, Nat.le_of_ble_eq_true rfl⟩) rfl hl.1 rfl (lv_room (Nat.le_of_ble_eq_true rfl)) dL_law_1022 ⟨Nat.le_of_ble_eq_true rfl, Nat.le_of_ble_eq_true rfl⟩ (fun H locs hP hD hS => ?_)
  have hP := hP.perm List.perm_append_comm
  have hD := hD.perm List.perm_append_comm
  refine lv_aload_n S.1 S.2.1 dL_law_1025 rfl (lv_at hl 1 rfl) ?_
  refine lv_aload_n S.1 S.2.1 dL_law_1026 rfl (lv_at hl 3 rfl) ?_
  refine lv_iload_n S.1 S.2.1 dL_law_1027 rfl (lv_at hl 0 rfl) ?_
  refine lv_iconst (v := nI 1) S.1 S.2.1 dL_law_1028 (by decide) ?_
  refine lv_iadd S.1 S.2.1 dL_law_1029 ?_
  refine va_sld S.1 S.2.1 hX hbl hbA hS v1 dL_law_1030 ?_
  refine g_calli (c0 := 0) (cs := csM) (ad := adm) (Eg := mE ki adm) (As := [.int (xs (nI i + nI 1).toNatClampNeg)]) (rest := [.int r]) (w2 := gW csW ad (xE ki ad G1 tr1)) S hKK hNN hP hD hS hA (kR_c 0 (by omega)) mE_R rfl (mX5_back l D ki adm csM kR_c 2000 (xs (nI i + nI 1).toNatClampNeg) Gm trm) e2 (cwV 1 S.2.2.2.2 lG_X5_back rfl rfl rfl (by decide +kernel) ⟨Nat.le_of_ble_eq_true rfl, Nat.le_of_ble_eq_true rfl⟩) rfl hl.1 rfl (lv_room (Nat.le_of_ble_eq_true rfl)) dL_law_1031 ⟨Nat.le_of_ble_eq_true rfl, Nat.le_of_ble_eq_true rfl⟩ (fun H locs hP hD hS => ?_)
  have hP := hP.perm List.perm_append_comm
  have hD := hD.perm List.perm_append_comm
  exact lv_icmp_eq (tgt := 1076) S.1 S.2.1 dL_law_1034 (by decide) (fun _ => kk _ _ _ _ _ _ _ hR ⟨hP, hD, hS⟩ hl) (fun hn => absurd rfl hn)
set_option maxHeartbeats 8000000 in
set_option maxRecDepth 100000 in
theorem law_count (S : CallFix p m c cL_law 4 s args lw_tbl RL) (hKK : va_K D vwCl (zT ki) s) (hNN : nK s) (hX : va_X b L xs s s.heap) (hbl : b < s.heap.size) (hi : i + 5 ≤ L) (hL : L ≤ 320) (h : Rel G tr Gm trm) (w : lS D ki ad adm s G tr Gm trm H locs) (hl : lv_has ls 4 [(3, .int (nI i)), (2, .ref (adm 0)), (1, .ref (ad 0)), (0, .ref b)])
    (kk : ∀ (G : zMem) (tr : Int64) (Gm : zMem) (trm : Int64) (H : Heap) (locs : List Loc) (ls : Array Slot), Rel G tr Gm trm → lS D ki ad adm s G tr Gm trm H locs → lv_has ls 4 [(3, .int (nI i)), (2, .ref (adm 0)), (1, .ref (ad 0)), (0, .ref b)] → W p l e room_1 s m args below meth c H locs 600000 7302250 Q (F0 m 1076 ls [])) : W p l e room_1 s m args below meth c H locs 600000 7302250 Q (F0 m 1039 ls []) := by
  obtain ⟨hP, hD, hS⟩ := w
  have hA : ∀ q, s.heap.size ≤ q → lA s q := fun _ h => h
  have hbA : ¬ lA s b := Nat.not_le.mpr hbl
  have v1 : vp_in (nI i + nI 1) L := la_in hi hL (by omega)
  obtain ⟨r, G1, tr1, Gm1, trm1, e1, e2, hR⟩ := op_count h 2000 (xs (nI i + nI 1).toNatClampNeg)
  refine lv_aload_n S.1 S.2.1 dL_law_1039 rfl (lv_at hl 2 rfl) ?_
  refine lv_aload_n S.1 S.2.1 dL_law_1040 rfl (lv_at hl 3 rfl) ?_
  refine lv_iload_n S.1 S.2.1 dL_law_1041 rfl (lv_at hl 0 rfl) ?_
  refine lv_iconst (v := nI 1) S.1 S.2.1 dL_law_1042 (by decide) ?_
  refine lv_iadd S.1 S.2.1 dL_law_1043 ?_
  refine va_sld S.1 S.2.1 hX hbl hbA hS v1 dL_law_1044 ?_
  refine g_calli (c0 := 0) (cs := csW) (ad := ad) (Eg := xE ki ad) (As := [.int (xs (nI i + nI 1).toNatClampNeg)]) (rest := []) (w2 := gW csM adm (mE ki adm Gm trm)) S hKK hNN hP hD hS hA (kW_c 0 (by omega)) xE_W rfl (mX4_count l D ki ad csW kW_c 2000 (xs (nI i + nI 1).toNatClampNeg) G tr) e1 (cwV 1 S.2.2.2.2 lG_X4_count rfl rfl rfl (by decide +kernel) ⟨Nat.le_of_ble_eq_true rfl, Nat.le_of_ble_eq_true rfl⟩) rfl hl.1 rfl (lv_room (Nat.le_of_ble_eq_true rfl)) dL_law_1045 ⟨Nat.le_of_ble_eq_true rfl, Nat.le_of_ble_eq_true rfl⟩ (fun H locs hP hD hS => ?_)
  have hP := hP.perm List.perm_append_comm
  have hD := hD.perm List.perm_append_comm
  refine lv_aload_n S.1 S.2.1 dL_law_1048 rfl (lv_at hl 1 rfl) ?_
  refine lv_aload_n S.1 S.2.1 dL_law_1049 rfl (lv_at hl 3 rfl) ?_
  refine lv_iload_n S.1 S.2.1 dL_law_1050 rfl (lv_at hl 0 rfl) ?_
  refine lv_iconst (v := nI 1) S.1 S.2.1 dL_law_1051 (by decide) ?_
  refine lv_iadd S.1 S.2.1 dL_law_1052 ?_
  refine va_sld S.1 S.2.1 hX hbl hbA hS v1 dL_law_1053 ?_
  refine g_calli (c0 := 0) (cs := csM) (ad := adm) (Eg := mE ki adm) (As := [.int (xs (nI i + nI 1).toNatClampNeg)]) (rest := [.int r]) (w2 := gW csW ad (xE ki ad G1 tr1)) S hKK hNN hP hD hS hA (kR_c 0 (by omega)) mE_R rfl (mX5_count l D ki adm csM kR_c 2000 (xs (nI i + nI 1).toNatClampNeg) Gm trm) e2 (cwV 1 S.2.2.2.2 lG_X5_count rfl rfl rfl (by decide +kernel) ⟨Nat.le_of_ble_eq_true rfl, Nat.le_of_ble_eq_true rfl⟩) rfl hl.1 rfl (lv_room (Nat.le_of_ble_eq_true rfl)) dL_law_1054 ⟨Nat.le_of_ble_eq_true rfl, Nat.le_of_ble_eq_true rfl⟩ (fun H locs hP hD hS => ?_)
  have hP := hP.perm List.perm_append_comm
  have hD := hD.perm List.perm_append_comm
  exact lv_icmp_eq (tgt := 1076) S.1 S.2.1 dL_law_1057 (by decide) (fun _ => kk _ _ _ _ _ _ _ hR ⟨hP, hD, hS⟩ hl) (fun hn => absurd rfl hn)
set_option maxHeartbeats 8000000 in
set_option maxRecDepth 100000 in
theorem law_trace (S : CallFix p m c cL_law 4 s args lw_tbl RL) (hKK : va_K D vwCl (zT ki) s) (hNN : nK s) (hX : va_X b L xs s s.heap) (hbl : b < s.heap.size) (hi : i + 5 ≤ L) (hL : L ≤ 320) (h : Rel G tr Gm trm) (w : lS D ki ad adm s G tr Gm trm H locs) (hl : lv_has ls 4 [(3, .int (nI i)), (2, .ref (adm 0)), (1, .ref (ad 0)), (0, .ref b)])
    (kk : ∀ (G : zMem) (tr : Int64) (Gm : zMem) (trm : Int64) (H : Heap) (locs : List Loc) (ls : Array Slot), Rel G tr Gm trm → lS D ki ad adm s G tr Gm trm H locs → lv_has ls 4 [(3, .int (nI i)), (2, .ref (adm 0)), (1, .ref (ad 0)), (0, .ref b)] → W p l e room_1 s m args below meth c H locs 600000 7302250 Q (F0 m 1076 ls [])) : W p l e room_1 s m args below meth c H locs 600000 7302250 Q (F0 m 1062 ls []) := by
  obtain ⟨hP, hD, hS⟩ := w
  have hA : ∀ q, s.heap.size ≤ q → lA s q := fun _ h => h
  have hbA : ¬ lA s b := Nat.not_le.mpr hbl
  obtain ⟨r, G1, tr1, Gm1, trm1, e1, e2, hR⟩ := op_trace h 2000
  refine lv_aload_n S.1 S.2.1 dL_law_1062 rfl (lv_at hl 2 rfl) ?_
  refine g_calll (c0 := 0) (cs := csW) (ad := ad) (Eg := xE ki ad) (As := []) (rest := []) (w2 := gW csM adm (mE ki adm Gm trm)) S hKK hNN hP hD hS hA (kW_c 0 (by omega)) xE_W rfl (mX4_trace l D ki ad csW kW_c 2000  G tr) e1 (cwV 0 S.2.2.2.2 lG_X4_trace rfl rfl rfl (by decide +kernel) ⟨Nat.le_of_ble_eq_true rfl, Nat.le_of_ble_eq_true rfl⟩) rfl hl.1 rfl (lv_room (Nat.le_of_ble_eq_true rfl)) dL_law_1063 ⟨Nat.le_of_ble_eq_true rfl, Nat.le_of_ble_eq_true rfl⟩ (fun H locs hP hD hS => ?_)
  have hP := hP.perm List.perm_append_comm
  have hD := hD.perm List.perm_append_comm
  refine lv_aload_n S.1 S.2.1 dL_law_1066 rfl (lv_at hl 1 rfl) ?_
  refine g_calll (c0 := 0) (cs := csM) (ad := adm) (Eg := mE ki adm) (As := []) (rest := [.long r]) (w2 := gW csW ad (xE ki ad G1 tr1)) S hKK hNN hP hD hS hA (kR_c 0 (by omega)) mE_R rfl (mX5_trace l D ki adm csM kR_c 2000  Gm trm) e2 (cwV 0 S.2.2.2.2 lG_X5_trace rfl rfl rfl (by decide +kernel) ⟨Nat.le_of_ble_eq_true rfl, Nat.le_of_ble_eq_true rfl⟩) rfl hl.1 rfl (lv_room (Nat.le_of_ble_eq_true rfl)) dL_law_1067 ⟨Nat.le_of_ble_eq_true rfl, Nat.le_of_ble_eq_true rfl⟩ (fun H locs hP hD hS => ?_)
  have hP := hP.perm List.perm_append_comm
  have hD := hD.perm List.perm_append_comm
  refine W.lcmp S.1 S.2.1 dL_law_1070 ?_
  exact lv_if_eq (tgt := 1076) S.1 S.2.1 dL_law_1071 (by decide) (fun _ => kk _ _ _ _ _ _ _ hR ⟨hP, hD, hS⟩ hl) (fun hn => absurd (lg_same r) hn)
end lawC
