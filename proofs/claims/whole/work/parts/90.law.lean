/-! ===== the law's loop, from its entry ===== -/
section lawC
variable {p : Program} {l : Launch} {e : Env} {s : State} {m : MethodId} {below : List Frame} {meth : Method} {c : Code} {H : Heap} {locs : List Loc} {ls : Array Slot} {D : va_G} {ki : Nat → ClassId} {ad adm : Nat → Nat} {b L : Nat} {xs : Nat → Int32} {G Gm : zMem} {tr trm : Int64}
set_option maxHeartbeats 16000000 in
set_option maxRecDepth 100000 in
theorem law_switch {Q : State → Prop} {args : Array Value} {i : Nat} (S : CallFix p m c cL_law 4 s args lw_tbl RL) (hKK : va_K D vwCl (zT ki) s) (hNN : nK s) (hX : va_X b L xs s s.heap) (hbl : b < s.heap.size) (hi : i + 5 ≤ L) (hL : L ≤ 320) (h : Rel G tr Gm trm) (w : lS D ki ad adm s G tr Gm trm H locs) (hl : lv_has ls 4 [(3, .int (nI i)), (2, .ref (adm 0)), (1, .ref (ad 0)), (0, .ref b)])
    (kk : ∀ (G : zMem) (tr : Int64) (Gm : zMem) (trm : Int64) (H : Heap) (locs : List Loc) (ls : Array Slot), Rel G tr Gm trm → lS D ki ad adm s G tr Gm trm H locs → lv_has ls 4 [(3, .int (nI i)), (2, .ref (adm 0)), (1, .ref (ad 0)), (0, .ref b)] → W p l e room_1 s m args below meth c H locs 600000 7302250 Q (F0 m 1076 ls [])) {v : Int32} (hv : ∃ k, k < 32 ∧ v = nI k) : W p l e room_1 s m args below meth c H locs 600000 7302250 Q (F0 m 32 ls [.int v]) := by
  obtain ⟨k, hk, hv⟩ := hv
  rcases (show k = 0 ∨ k = 1 ∨ k = 2 ∨ k = 3 ∨ k = 4 ∨ k = 5 ∨ k = 6 ∨ k = 7 ∨ k = 8 ∨ k = 9 ∨ k = 10 ∨ k = 11 ∨ k = 12 ∨ k = 13 ∨ k = 14 ∨ k = 15 ∨ k = 16 ∨ k = 17 ∨ k = 18 ∨ k = 19 ∨ k = 20 ∨ k = 21 ∨ k = 22 ∨ k = 23 ∨ k = 24 ∨ k = 25 ∨ k = 26 ∨ k = 27 ∨ k = 28 ∨ k = 29 ∨ k = 30 ∨ k = 31 by omega) with rfl | rfl | rfl | rfl | rfl | rfl | rfl | rfl | rfl | rfl | rfl | rfl | rfl | rfl | rfl | rfl | rfl | rfl | rfl | rfl | rfl | rfl | rfl | rfl | rfl | rfl | rfl | rfl | rfl | rfl | rfl | rfl
  · exact zr_swIn (off := 140) (tgt := 172) S hv dL_law_32 (by decide +kernel) (law_type S hKK hNN hX hbl hi hL h w hl kk)
  · exact zr_swIn (off := 163) (tgt := 195) S hv dL_law_32 (by decide +kernel) (law_clear S hKK hNN hX hbl hi hL h w hl kk)
  · exact zr_swIn (off := 176) (tgt := 208) S hv dL_law_32 (by decide +kernel) (law_sea S hKK hNN hX hbl hi hL h w hl kk)
  · exact zr_swIn (off := 189) (tgt := 221) S hv dL_law_32 (by decide +kernel) (law_isle S hKK hNN hX hbl hi hL h w hl kk)
  · exact zr_swIn (off := 222) (tgt := 254) S hv dL_law_32 (by decide +kernel) (law_cell S hKK hNN hX hbl hi hL h w hl kk)
  · exact zr_swIn (off := 245) (tgt := 277) S hv dL_law_32 (by decide +kernel) (law_wind S hKK hNN hX hbl hi hL h w hl kk)
  · exact zr_swIn (off := 268) (tgt := 300) S hv dL_law_32 (by decide +kernel) (law_letter S hKK hNN hX hbl hi hL h w hl kk)
  · exact zr_swIn (off := 301) (tgt := 333) S hv dL_law_32 (by decide +kernel) (law_now S hKK hNN hX hbl hi hL h w hl kk)
  · exact zr_swIn (off := 324) (tgt := 356) S hv dL_law_32 (by decide +kernel) (law_lets S hKK hNN hX hbl hi hL h w hl kk)
  · exact zr_swIn (off := 367) (tgt := 399) S hv dL_law_32 (by decide +kernel) (law_hour S hKK hNN hX hbl hi hL h w hl kk)
  · exact zr_swIn (off := 380) (tgt := 412) S hv dL_law_32 (by decide +kernel) (law_net S hKK hNN hX hbl hi hL h w hl kk)
  · exact zr_swIn (off := 413) (tgt := 445) S hv dL_law_32 (by decide +kernel) (law_turn S hKK hNN hX hbl hi hL h w hl kk)
  · exact zr_swIn (off := 446) (tgt := 478) S hv dL_law_32 (by decide +kernel) (law_undo S hKK hNN hX hbl hi hL h w hl kk)
  · exact zr_swIn (off := 459) (tgt := 491) S hv dL_law_32 (by decide +kernel) (law_where S hKK hNN hX hbl hi hL h w hl kk)
  · exact zr_swIn (off := 492) (tgt := 524) S hv dL_law_32 (by decide +kernel) (law_comes S hKK hNN hX hbl hi hL h w hl kk)
  · exact zr_swIn (off := 515) (tgt := 547) S hv dL_law_32 (by decide +kernel) (law_blots S hKK hNN hX hbl hi hL h w hl kk)
  · exact zr_swIn (off := 548) (tgt := 580) S hv dL_law_32 (by decide +kernel) (law_loop S hKK hNN hX hbl hi hL h w hl kk)
  · exact zr_swIn (off := 571) (tgt := 603) S hv dL_law_32 (by decide +kernel) (law_tangled S hKK hNN hX hbl hi hL h w hl kk)
  · exact zr_swIn (off := 604) (tgt := 636) S hv dL_law_32 (by decide +kernel) (law_soonest S hKK hNN hX hbl hi hL h w hl kk)
  · exact zr_swIn (off := 657) (tgt := 689) S hv dL_law_32 (by decide +kernel) (law_lightest S hKK hNN hX hbl hi hL h w hl kk)
  · exact zr_swIn (off := 700) (tgt := 732) S hv dL_law_32 (by decide +kernel) (law_words S hKK hNN hX hbl hi hL h w hl kk)
  · exact zr_swIn (off := 723) (tgt := 755) S hv dL_law_32 (by decide +kernel) (law_nets S hKK hNN hX hbl hi hL h w hl kk)
  · exact zr_swIn (off := 766) (tgt := 798) S hv dL_law_32 (by decide +kernel) (law_who S hKK hNN hX hbl hi hL h w hl kk)
  · exact zr_swIn (off := 809) (tgt := 841) S hv dL_law_32 (by decide +kernel) (law_knee S hKK hNN hX hbl hi hL h w hl kk)
  · exact zr_swIn (off := 842) (tgt := 874) S hv dL_law_32 (by decide +kernel) (law_drift S hKK hNN hX hbl hi hL h w hl kk)
  · exact zr_swIn (off := 875) (tgt := 907) S hv dL_law_32 (by decide +kernel) (law_odds S hKK hNN hX hbl hi hL h w hl kk)
  · exact zr_swIn (off := 928) (tgt := 960) S hv dL_law_32 (by decide +kernel) (law_rate S hKK hNN hX hbl hi hL h w hl kk)
  · exact zr_swIn (off := 961) (tgt := 993) S hv dL_law_32 (by decide +kernel) (law_keep S hKK hNN hX hbl hi hL h w hl kk)
  · exact zr_swIn (off := 984) (tgt := 1016) S hv dL_law_32 (by decide +kernel) (law_back S hKK hNN hX hbl hi hL h w hl kk)
  · exact zr_swIn (off := 1007) (tgt := 1039) S hv dL_law_32 (by decide +kernel) (law_count S hKK hNN hX hbl hi hL h w hl kk)
  · exact zr_swIn (off := 1030) (tgt := 1062) S hv dL_law_32 (by decide +kernel) (law_trace S hKK hNN hX hbl hi hL h w hl kk)
  · exact lv_tableOut (tgt := 1076) S.1 S.2.1 dL_law_32 (Or.inr (by rw [hv]; decide +kernel)) (by decide) (kk _ _ _ _ _ _ _ h w hl)
set_option maxHeartbeats 16000000 in
set_option maxRecDepth 100000 in
theorem law_walk0 (S : CallFix p m c cL_law 4 s #[Value.ref b] lw_tbl RL) (hr : meth.sig.returnType = ret) (hlocks : meth.locks = false) (hKK : va_K D vwCl (zT ki) s) (hNN : nK s) (hX : va_X b L xs s s.heap) (hbl : b < s.heap.size) (hL : L ≤ 320) :
    ∀ (n i : Nat) (G : zMem) (tr : Int64) (Gm : zMem) (trm : Int64) (H : Heap) (locs : List Loc) (ls : Array Slot), L < i + n → i ≤ L → Rel G tr Gm trm → lS D ki ad adm s G tr Gm trm H locs → lv_has ls 4 [(3, .int (nI i)), (2, .ref (adm 0)), (1, .ref (ad 0)), (0, .ref b)] → W p l e room_1 s m #[Value.ref b] below meth c H locs 600000 7302250 (lw_Z below #[Value.ref b] s) (F0 m 18 ls [])
  | 0, i, G, tr, Gm, trm, H, locs, ls, h1, h2, h, w, hl => by omega
  | n + 1, i, G, tr, Gm, trm, H, locs, ls, h1, h2, h, w, hl => by
    have hbA : ¬ lA s b := Nat.not_le.mpr hbl
    refine lv_iload_n S.1 S.2.1 dL_law_18 rfl (lv_at hl 0 rfl) ?_
    refine lv_aload_n S.1 S.2.1 dL_law_19 rfl (lv_at hl 3 rfl) ?_
    refine va_slen S.1 S.2.1 hX hbl hbA w.2.2 dL_law_20 ?_
    refine lv_iconst (v := (5 : Int32)) S.1 S.2.1 dL_law_21 (by decide) ?_
    refine lv_isub S.1 S.2.1 dL_law_22 ?_
    refine lv_icmp_gt (tgt := 1082) S.1 S.2.1 dL_law_23 (by decide) (fun hc => ?_) (fun hc => ?_)
    · refine lv_iconst (v := (1 : Int32)) S.1 S.2.1 dL_law_1082 (by decide) ?_
      refine va_forget w.2.2.2.2 ?_
      exact lw_ret S.1 S.2.1 hr hlocks dL_law_1083
    · have hi : i + 5 ≤ L := by
        rw [Int32.lt_iff_toInt_lt, show Int32.ofNat L = nI L from rfl, len5 L (by omega), nI_toInt (by omega)] at hc
        omega
      refine lv_aload_n S.1 S.2.1 dL_law_26 rfl (lv_at hl 3 rfl) ?_
      refine lv_iload_n S.1 S.2.1 dL_law_27 rfl (lv_at hl 0 rfl) ?_
      refine va_sld S.1 S.2.1 hX hbl hbA w.2.2 (vp_in_nI (show i < L by omega) (by omega)) dL_law_28 ?_
      refine lv_bipush (v := (31 : Int32)) S.1 S.2.1 dL_law_29 (by decide) ?_
      refine lv_iand S.1 S.2.1 dL_law_31 ?_
      refine law_switch S hKK hNN hX hbl hi hL h w hl (fun G tr Gm trm H locs ls h w hl => ?_) (and31 _)
      refine lv_iinc (v := nI (i + 5)) (lv' := [(3, .int (nI (i + 5))), (2, .ref (adm 0)), (1, .ref (ad 0)), (0, .ref b)]) S.1 S.2.1 dL_law_1076 hl (k := 0) rfl (nI_add i 5) (by decide) rfl (fun ls hl => ?_)
      refine lv_goto (tgt := 18) S.1 S.2.1 dL_law_1079 (by decide) ?_
      exact law_walk0 S hr hlocks hKK hNN hX hbl hL n (i + 5) G tr Gm trm H locs ls (by omega) hi h w hl
end lawC
theorem nk_0 : (Cond.methodLinkNest "WindPost" 9 yX3_init "WindPost") ∈ lw_tbl := List.mem_of_getElem? (i := 73) (by decide +kernel)
theorem nk_1 : (Cond.methodLinkNest "WindPost$Moment" 21 yX1_init "WindPost") ∈ lw_tbl := List.mem_of_getElem? (i := 193) (by decide +kernel)
theorem nk_2 : (Cond.methodLinkNest "WindPost" 46 yX1_init "WindPost") ∈ lw_tbl := List.mem_of_getElem? (i := 254) (by decide +kernel)
theorem nk_3 : (Cond.methodLinkNest "WindPost$Text" 109 yX4_isWithin "WindPost") ∈ lw_tbl := List.mem_of_getElem? (i := 340) (by decide +kernel)
theorem nk_4 : (Cond.methodLinkNest "WindPost$Letter" 49 yX4_bitOf "WindPost") ∈ lw_tbl := List.mem_of_getElem? (i := 468) (by decide +kernel)
theorem ao_1 : (Cond.arrayOver (.object RX1)) ∈ lw_tbl := List.mem_of_getElem? (i := 191) (by decide +kernel)
theorem ao_2 : (Cond.arrayOver (.object RX2)) ∈ lw_tbl := List.mem_of_getElem? (i := 252) (by decide +kernel)
set_option maxHeartbeats 16000000 in
set_option maxRecDepth 100000 in
theorem law_known {s : State} {args : Array Value} (hts : ∀ w ∈ lw_tbl, w.before args s = true) : ∃ (D : va_G) (ki : Nat → ClassId), iK D ki s := by
  obtain ⟨c0, i0, k0⟩ := u_known (C := RX0) (T := TX0) (N := 10) (n := 10) hts lm_wsX00 (hts _ lk_9)
  obtain ⟨c1, i1, k1⟩ := u_known (C := RX1) (T := TX1) (N := 7) (n := 7) hts lm_wsX10 (hts _ lk_22)
  obtain ⟨c2, i2, k2⟩ := u_known (C := RX2) (T := TX2) (N := 6) (n := 6) hts lm_wsX20 (hts _ lk_14)
  obtain ⟨c3, i3, k3⟩ := u_known (C := RX3) (T := TX3) (N := 8) (n := 8) hts lm_wsX30 (hts _ lk_5)
  obtain ⟨c4, i4, k4⟩ := u_known (C := RX4) (T := TX4) (N := 12) (n := 12) hts lm_wsX40 (hts _ lk_743)
  obtain ⟨c5, i5, k5⟩ := u_known (C := RX5) (T := TX5) (N := 22) (n := 22) hts lm_wsX50 (hts _ lk_745)
  obtain ⟨a0, ka0, p0, q0, r0, t0⟩ := Cond.arrayClass_spec (hts _ lk_29)
  obtain ⟨a1, ka1, p1, q1, r1, t1⟩ := Cond.arrayClass_spec (hts _ lk_19)
  obtain ⟨p2, a2, ka2, f2, g2, q2, t2, r2⟩ := Cond.arrayOver_spec (hts _ ao_1)
  obtain ⟨p3, a3, ka3, f3, g3, q3, t3, r3⟩ := Cond.arrayOver_spec (hts _ ao_2)
  refine ⟨(fun k => match k with | 0 => c0 | 1 => c1 | 2 => c2 | 3 => c3 | 4 => c4 | _ => c5, fun k => match k with | 0 => i0 | 1 => i1 | 2 => i2 | 3 => i3 | 4 => i4 | _ => i5), fun k => match k with | 0 => a0 | 1 => a1 | 2 => a2 | _ => a3, ⟨?_, ?_⟩, ⟨va_Nw.of rfl (hts _ nk_0), va_Nw.of rfl (hts _ nk_1), va_Nw.of rfl (hts _ nk_2), va_Nw.of rfl (hts _ nk_3), va_Nw.of rfl (hts _ nk_4)⟩, va_AO.of (hts _ ao_1), va_AO.of (hts _ ao_2)⟩
  · intro k q hq
    match k, hq with
    | 0, hq => cases hq; exact k0
    | 1, hq => cases hq; exact k1
    | 2, hq => cases hq; exact k2
    | 3, hq => cases hq; exact k3
    | 4, hq => cases hq; exact k4
    | 5, hq => cases hq; exact k5
    | k + 6, hq => simp [vwCl] at hq
  · intro k q hq
    match k, hq with
    | 0, hq => cases hq; exact ⟨fun n z => ⟨fun k h => (by cases h), ka0, r0, p0, t0⟩, q0⟩
    | 1, hq => cases hq; exact ⟨fun n z => ⟨fun k h => (by cases h), ka1, r1, p1, t1⟩, q1⟩
    | 2, hq => cases hq; exact ⟨fun n z => ⟨fun k h => (by cases h), ka2, q2, p2, t2⟩, ka2, p2, q2, t2, f2, r2⟩
    | 3, hq => cases hq; exact ⟨fun n z => ⟨fun k h => (by cases h), ka3, q3, p3, t3⟩, ka3, p3, q3, t3, f3, r3⟩
    | k + 4, hq => simp [zT] at hq
set_option maxHeartbeats 16000000 in
set_option maxRecDepth 100000 in
/-- THE LAW, from its entry -/
theorem whole_start {p : Program} {e : Env} {s : State} {m : MethodId} {below : List Frame} {meth : Method} {c : Code} (l : Launch) (hflags : l.flags = flags0) {b L : Nat} {xs : Nat → Int32} (hL : L ≤ 320) (C0 : lw_At p s m meth c b L xs) : W p l e room_1 s m #[Value.ref b] below meth c s.heap [] 0 0 (lw_Z below #[Value.ref b] s) (entryFrame m ([Value.ref b] : List Value).toArray 4) := by
  obtain ⟨hx, hb, hr, hml, hown, hts, hX, hbl, hlocks, hgv⟩ := id C0
  have S : CallFix p m c cL_law 4 s #[Value.ref b] lw_tbl RL := ⟨hx, hb, hml, hown, hts⟩
  obtain ⟨D, ki, K⟩ := law_known hts
  obtain ⟨G1, G2, f1, f2, g2⟩ := ch_mem
  have hA : ∀ q, s.heap.size ≤ q → lA s q := fun _ h => h
  have hS : va_S (lA s) s.heap s.heap [] := va_S.rf
  have hP : va_P D vwCl [] s.heap := fun k q h => by simp at h
  have hD : va_D (lA s) [] := ⟨fun i j p q h => by simp at h, fun k q h => by simp at h⟩
  have hl := lv_entry ([.ref b]) (n := 4) (Nat.le_of_ble_eq_true rfl)
  rw [lg_entry_eq]
  generalize (lg_sl ([.ref b]) ++ List.replicate (4 - (lg_sl ([.ref b])).length) Slot.unset).toArray = ls at hl ⊢
  have hl : lv_has ls 4 [(0, .ref b)] := hl
  refine i_new (ci := 4) (C := RX4) (T := TX4) (N := 12) (fs := [.null, .null, .null, .null, .null, .int 0, .int 0, .null, .null, .null, .null, .long 0]) S K hP hD hS hA lm_wsX40 tyX4 tyX4_ok lk_742 lk_743 lk_85 rfl (fun j hj => by rcases (show j = 0 ∨ j = 1 ∨ j = 2 ∨ j = 3 ∨ j = 4 ∨ j = 5 ∨ j = 6 ∨ j = 7 ∨ j = 8 ∨ j = 9 ∨ j = 10 ∨ j = 11 by omega) with rfl | rfl | rfl | rfl | rfl | rfl | rfl | rfl | rfl | rfl | rfl | rfl <;> rfl) (Nat.le_of_ble_eq_true rfl) (Nat.le_of_ble_eq_true rfl) dL_law_0 (fun q H hP hD hS => ?_)
  refine lv_dup S.1 S.2.1 dL_law_3 rfl ?_
  refine i_ctor (rest := [.ref q]) S K hP hD hS hA (iX4_init l D ki q f1 f2) (cwI 0 S.2.2.2.2 lg_X4_init rfl rfl rfl (S.2.2.2.2 _ lk_85) (S.2.2.2.2 _ lk_83) (S.2.2.2.2 _ lk_84) rfl (by decide +kernel) ⟨Nat.le_of_ble_eq_true rfl, Nat.le_of_ble_eq_true rfl⟩) hl.1 (lv_room (Nat.le_of_ble_eq_true rfl)) dL_law_4 ⟨Nat.le_of_ble_eq_true rfl, Nat.le_of_ble_eq_true rfl⟩ (fun ad H locs ea hP1 hD1 hS => ?_)
  subst ea
  refine lv_astore_n (lv' := [(1, .ref (ad 0)), (0, .ref b)]) S.1 S.2.1 dL_law_7 rfl hl (by decide) rfl (fun ls hl => ?_)
  refine i_new (ci := 5) (C := RX5) (T := TX5) (N := 22) (fs := [.int 0, .long 0, .null, .int 0, .int 0, .int 0, .int 0, .int 0, .int 0, .null, .null, .null, .null, .int 0, .null, .null, .null, .null, .int 0, .null, .null, .null]) S K hP1 hD1 hS hA lm_wsX50 tyX5 tyX5_ok lk_744 lk_745 lk_102 rfl (fun j hj => by rcases (show j = 0 ∨ j = 1 ∨ j = 2 ∨ j = 3 ∨ j = 4 ∨ j = 5 ∨ j = 6 ∨ j = 7 ∨ j = 8 ∨ j = 9 ∨ j = 10 ∨ j = 11 ∨ j = 12 ∨ j = 13 ∨ j = 14 ∨ j = 15 ∨ j = 16 ∨ j = 17 ∨ j = 18 ∨ j = 19 ∨ j = 20 ∨ j = 21 by omega) with rfl | rfl | rfl | rfl | rfl | rfl | rfl | rfl | rfl | rfl | rfl | rfl | rfl | rfl | rfl | rfl | rfl | rfl | rfl | rfl | rfl | rfl <;> rfl) (Nat.le_of_ble_eq_true rfl) (Nat.le_of_ble_eq_true rfl) dL_law_8 (fun q H hP2 hD2 hS => ?_)
  refine lv_dup S.1 S.2.1 dL_law_11 rfl ?_
  refine i_ctor (rest := [.ref q]) S K hP2 hD2 hS hA (iX5_init l D ki q) (cwI 0 S.2.2.2.2 lg_X5_init rfl rfl rfl (S.2.2.2.2 _ lk_102) (S.2.2.2.2 _ lk_100) (S.2.2.2.2 _ lk_101) rfl (by decide +kernel) ⟨Nat.le_of_ble_eq_true rfl, Nat.le_of_ble_eq_true rfl⟩) hl.1 (lv_room (Nat.le_of_ble_eq_true rfl)) dL_law_12 ⟨Nat.le_of_ble_eq_true rfl, Nat.le_of_ble_eq_true rfl⟩ (fun adm H locs em hP3 hD3 hS => ?_)
  subst em
  refine lv_astore_n (lv' := [(2, .ref (adm 0)), (1, .ref (ad 0)), (0, .ref b)]) S.1 S.2.1 dL_law_15 rfl hl (by decide) rfl (fun ls hl => ?_)
  refine lv_iconst (v := (0 : Int32)) S.1 S.2.1 dL_law_16 (by decide) ?_
  refine lv_istore_n (lv' := [(3, .int (0 : Int32)), (2, .ref (adm 0)), (1, .ref (ad 0)), (0, .ref b)]) S.1 S.2.1 dL_law_17 rfl hl (by decide) rfl (fun ls hl => ?_)
  refine W.widen (k := 600000) (n := 7302250) (Nat.le_of_ble_eq_true rfl) (Nat.le_of_ble_eq_true rfl) ?_
  rw [List.append_nil] at hP3 hD3
  exact law_walk0 S hr hlocks K.1 K.2.1 hX hbl hL (L + 1) 0 (Gf G2) 0 Gm0 0 H locs ls (by omega) (Nat.zero_le L) (first_Rel g2) ⟨hP3.perm List.perm_append_comm, hD3.perm List.perm_append_comm, hS⟩ hl
