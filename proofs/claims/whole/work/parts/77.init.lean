/-! ===== the constructor of the class ===== -/
abbrev rmW : Room := { frames := 4, cells := 121, slots := 2306, locals := 92 }
theorem uiX4 : ∀ w ∈ wsX40, w ∈ wsX4_init := by decide +kernel
theorem uiX2 : ∀ w ∈ wsX20, w ∈ wsX4_init := by decide +kernel
section iW
variable {p : Program} {l : Launch} {e : Env} {s : State} {m : MethodId} {args : Array Value} {below : List Frame} {meth : Method} {c : Code} {H : Heap} {locs : List Loc} {cells slots : Nat} {Q : State → Prop}
variable {ls : Array Slot} {D : va_G} {ki : Nat → ClassId} {A0 : Nat → Prop} {blk : va_W} {h0 qa : Nat} {fs : List Value}
set_option maxHeartbeats 8000000 in
set_option maxRecDepth 100000 in
theorem i_mbody {P fi kf n : Nat} {nm : String} {i : Int32} {f : Nat → Option Nat} (S : CallFix p m c cX4_init 2 s args wsX4_init RX4) (K : iK D ki s) (hl : lv_has ls 2 [(1, .int i), (0, .ref h0)]) (hP : va_P D vwCl ((h0, .inr (4, fs)) :: (qa, .inl (ki 3, n, .inr (.inr (.inr (.inr f))))) :: blk) H) (hD : va_D A0 ((h0, .inr (4, fs)) :: (qa, .inl (ki 3, n, .inr (.inr (.inr (.inr f))))) :: blk)) (hS : va_S A0 s.heap H locs) (hA : ∀ q, s.heap.size ≤ q → A0 q) (hfs : fs[kf]? = some (.ref qa)) (hkf : kf < 12) (hlk : Cond.fieldLink RX4 fi RX4 nm "[LWindPost$Moment;" ∈ wsX4_init) (hT : TX4 kf = (RX4, nm, "[LWindPost$Moment;", true)) (hin : vp_in i n) (hcl : cells + 8 ≤ 121) (hsl : slots + 58 ≤ 2306) (d0 : decode cX4_init P = .ok (.aload_n 0, 1)) (d1 : decode cX4_init (P + 1) = .ok (.getfield fi, 3)) (d2 : decode cX4_init (P + 4) = .ok (.iload_n 1, 1)) (d3 : decode cX4_init (P + 5) = .ok (.new 26, 3)) (d4 : decode cX4_init (P + 8) = .ok (.dup, 1)) (d5 : decode cX4_init (P + 9) = .ok (.invokespecial 28, 3)) (d6 : decode cX4_init (P + 12) = .ok (.aastore, 1))
    (kk : ∀ (am : Nat → Nat) (H1 : Heap) (locs1 : List Loc), va_P D vwCl ((h0, .inr (4, fs)) :: (qa, .inl (ki 3, n, .inr (.inr (.inr (.inr (va_up f i.toNatClampNeg (some (am 0)))))))) :: (gW (List.range 8) am (moE ki am) ++ blk)) H1 → va_D A0 ((h0, .inr (4, fs)) :: (qa, .inl (ki 3, n, .inr (.inr (.inr (.inr (va_up f i.toNatClampNeg (some (am 0)))))))) :: (gW (List.range 8) am (moE ki am) ++ blk)) → va_S A0 s.heap H1 locs1 → W p l e (headSpec wsX4_init rmW).room s m args below meth c H1 locs1 (cells + 8) (slots + 58) Q (F0 m (P + 13) ls [])) : W p l e (headSpec wsX4_init rmW).room s m args below meth c H locs cells slots Q (F0 m P ls []) := by
  refine lv_aload_n S.1 S.2.1 d0 rfl (lv_at hl 1 rfl) ?_
  refine i_get (v := .ref qa) S K hP 0 rfl rfl uiX4 kf hkf hlk hT hfs d1 ?_
  refine lv_iload_n S.1 S.2.1 d2 rfl (lv_at hl 0 rfl) ?_
  refine i_new (ci := 2) (C := RX2) (T := TX2) (N := 6) (fs := [.int 0, .int 0, .int 0, .int 0, .null, .null]) S K hP hD hS hA uiX2 tyX2 tyX2_ok (by decide +kernel) (by decide +kernel) (by decide +kernel) rfl (fun j hj => by rcases (show j = 0 ∨ j = 1 ∨ j = 2 ∨ j = 3 ∨ j = 4 ∨ j = 5 by omega) with rfl | rfl | rfl | rfl | rfl | rfl <;> rfl) (show cells + 1 ≤ 121 by omega) (show slots + 6 ≤ 2306 by omega) d3 (fun q H hP hD hS => ?_)
  refine lv_dup S.1 S.2.1 d4 rfl ?_
  refine i_ctor (rest := [.ref q, .int i, .ref qa]) S K hP hD hS hA (iX2_init l D ki q) (cwI 0 S.2.2.2.2 gX4_init_X2_init rfl rfl rfl (S.2.2.2.2 (Cond.initialized RX2) (by decide +kernel)) (S.2.2.2.2 (Cond.methodLink RX4 28 yX2_init) (by decide +kernel)) (S.2.2.2.2 (Cond.instanceMethod yX2_init) (by decide +kernel)) rfl (by decide +kernel) ⟨Nat.le_of_ble_eq_true rfl, Nat.le_of_ble_eq_true rfl⟩) hl.1 (lv_room (Nat.le_of_ble_eq_true rfl)) d5 ⟨show cells + 1 + 7 ≤ 121 by omega, show slots + 6 + 52 ≤ 2306 by omega⟩ (fun am H locs e hP1 hD1 hS => ?_)
  subst e
  have hP := hP1.perm (List.perm_middle.trans (List.Perm.cons _ List.perm_middle))
  have hD := hD1.perm (List.perm_middle.trans (List.Perm.cons _ List.perm_middle))
  refine va_astq (r := (RX2, TX2, 6)) S.1 S.2.1 K.1 hP hD hS 1 3 2 2 rfl rfl rfl rfl hin d6 (fun H locs hP hD hS => ?_)
  exact kk am H locs hP hD hS
theorem i_past_r : ∀ k, k < 10 → ¬ (10 : Int32) ≤ nI k ∧ ¬ (nI k < 0 ∨ 10 ≤ (nI k).toNatClampNeg) ∧ (nI k).toNatClampNeg = k := by decide +kernel
set_option maxHeartbeats 8000000 in
set_option maxRecDepth 100000 in
theorem i_past (S : CallFix p m c cX4_init 2 s args wsX4_init RX4) (K : iK D ki s) (hA : ∀ q, s.heap.size ≤ q → A0 q) (hfs : fs[4]? = some (.ref qa)) (hcl : cells + 80 ≤ 121) (hsl : slots + 580 ≤ 2306)
    (kk : ∀ (mo : Nat → Nat → Nat) (f : Nat → Option Nat) (H : Heap) (locs : List Loc) (ls : Array Slot), (∀ j, j < 10 → f j = some (mo j 0)) → lv_has ls 2 [(1, .int (nI 10)), (0, .ref h0)] → va_P D vwCl ((h0, .inr (4, fs)) :: (qa, .inl (ki 3, 10, .inr (.inr (.inr (.inr f))))) :: (mB ki mo 10 ++ blk)) H → va_D A0 ((h0, .inr (4, fs)) :: (qa, .inl (ki 3, 10, .inr (.inr (.inr (.inr f))))) :: (mB ki mo 10 ++ blk)) → va_S A0 s.heap H locs → W p l e (headSpec wsX4_init rmW).room s m args below meth c H locs (cells + 80) (slots + 580) Q (F0 m 84 ls [])) :
    ∀ (d k : Nat) (mo : Nat → Nat → Nat) (f : Nat → Option Nat) (H : Heap) (locs : List Loc) (ls : Array Slot), k + d = 10 → (∀ j, j < k → f j = some (mo j 0)) → lv_has ls 2 [(1, .int (nI k)), (0, .ref h0)] → va_P D vwCl ((h0, .inr (4, fs)) :: (qa, .inl (ki 3, 10, .inr (.inr (.inr (.inr f))))) :: (mB ki mo k ++ blk)) H → va_D A0 ((h0, .inr (4, fs)) :: (qa, .inl (ki 3, 10, .inr (.inr (.inr (.inr f))))) :: (mB ki mo k ++ blk)) → va_S A0 s.heap H locs → W p l e (headSpec wsX4_init rmW).room s m args below meth c H locs (cells + 8 * k) (slots + 58 * k) Q (F0 m 59 ls [])
  | 0, k, mo, f, H, locs, ls, hk, hf, hl, hP, hD, hS => by
    obtain rfl : k = 10 := by omega
    refine lv_iload_n S.1 S.2.1 dX4_init_59 rfl (lv_at hl 0 rfl) ?_
    refine lv_bipush (v := (10 : Int32)) S.1 S.2.1 dX4_init_60 (by decide) ?_
    refine lv_icmp_ge (tgt := 84) S.1 S.2.1 dX4_init_62 (by decide) (fun _ => ?_) (fun h => absurd (by decide +kernel) h)
    exact kk mo f H locs ls hf hl hP hD hS
  | d + 1, k, mo, f, H, locs, ls, hk, hf, hl, hP, hD, hS => by
    obtain ⟨r1, r2, r3⟩ := i_past_r k (by omega)
    refine lv_iload_n S.1 S.2.1 dX4_init_59 rfl (lv_at hl 0 rfl) ?_
    refine lv_bipush (v := (10 : Int32)) S.1 S.2.1 dX4_init_60 (by decide) ?_
    refine lv_icmp_ge (tgt := 84) S.1 S.2.1 dX4_init_62 (by decide) (fun h => absurd h r1) (fun _ => ?_)
    refine i_mbody (P := 65) (fi := 33) (kf := 4) (nm := "past") S K hl hP hD hS hA hfs (by omega) (by decide +kernel) rfl r2 (by omega) (by omega) dX4_init_65 dX4_init_66 dX4_init_69 dX4_init_70 dX4_init_73 dX4_init_74 dX4_init_77 (fun am H locs hP hD hS => ?_)
    refine lv_iinc (v := nI (k + 1)) (lv' := [(1, .int (nI (k + 1))), (0, .ref h0)]) S.1 S.2.1 dX4_init_78 hl (k := 0) rfl (nI_1 k) (by decide) rfl (fun ls hl => ?_)
    refine lv_goto (tgt := 59) S.1 S.2.1 dX4_init_81 (by decide) ?_
    rw [r3] at hP hD
    have em : mB ki (fun j => if j = k then am else mo j) (k + 1) = mB ki mo k ++ gW (List.range 8) am (moE ki am) := by
      rw [mB_succ, mB_congr ki (mo' := mo) k (fun i hi => if_neg (by omega))]
      rw [if_pos rfl]
    have pm : ((h0, Sum.inr (4, fs)) :: (qa, .inl (ki 3, 10, .inr (.inr (.inr (.inr (va_up f k (some (am 0)))))))) :: (gW (List.range 8) am (moE ki am) ++ (mB ki mo k ++ blk)) : va_W).Perm ((h0, .inr (4, fs)) :: (qa, .inl (ki 3, 10, .inr (.inr (.inr (.inr (va_up f k (some (am 0)))))))) :: (mB ki (fun j => if j = k then am else mo j) (k + 1) ++ blk)) := by
      rw [em, ← List.append_assoc]
      exact List.Perm.cons _ (List.Perm.cons _ (List.Perm.append_right _ List.perm_append_comm))
    exact i_past S K hA hfs hcl hsl kk d (k + 1) (fun j => if j = k then am else mo j) (va_up f k (some (am 0))) H locs ls (by omega) (fun j hj => by
      by_cases h : j = k
      · subst h
        rw [va_up_self, if_pos rfl]
      · rw [va_up_ne _ _ h, if_neg h]
        exact hf j (by omega)) hl (hP.perm pm) (hD.perm pm) hS
theorem i_imgs_r : ∀ k, k < 2 → ¬ (2 : Int32) ≤ nI k ∧ ¬ (nI k < 0 ∨ 2 ≤ (nI k).toNatClampNeg) ∧ (nI k).toNatClampNeg = k := by decide +kernel
set_option maxHeartbeats 8000000 in
set_option maxRecDepth 100000 in
theorem i_imgs (S : CallFix p m c cX4_init 2 s args wsX4_init RX4) (K : iK D ki s) (hA : ∀ q, s.heap.size ≤ q → A0 q) (hfs : fs[7]? = some (.ref qa)) (hcl : cells + 16 ≤ 121) (hsl : slots + 116 ≤ 2306)
    (kk : ∀ (mo : Nat → Nat → Nat) (f : Nat → Option Nat) (H : Heap) (locs : List Loc) (ls : Array Slot), (∀ j, j < 2 → f j = some (mo j 0)) → lv_has ls 2 [(1, .int (nI 2)), (0, .ref h0)] → va_P D vwCl ((h0, .inr (4, fs)) :: (qa, .inl (ki 3, 2, .inr (.inr (.inr (.inr f))))) :: (mB ki mo 2 ++ blk)) H → va_D A0 ((h0, .inr (4, fs)) :: (qa, .inl (ki 3, 2, .inr (.inr (.inr (.inr f))))) :: (mB ki mo 2 ++ blk)) → va_S A0 s.heap H locs → W p l e (headSpec wsX4_init rmW).room s m args below meth c H locs (cells + 16) (slots + 116) Q (F0 m 118 ls [])) :
    ∀ (d k : Nat) (mo : Nat → Nat → Nat) (f : Nat → Option Nat) (H : Heap) (locs : List Loc) (ls : Array Slot), k + d = 2 → (∀ j, j < k → f j = some (mo j 0)) → lv_has ls 2 [(1, .int (nI k)), (0, .ref h0)] → va_P D vwCl ((h0, .inr (4, fs)) :: (qa, .inl (ki 3, 2, .inr (.inr (.inr (.inr f))))) :: (mB ki mo k ++ blk)) H → va_D A0 ((h0, .inr (4, fs)) :: (qa, .inl (ki 3, 2, .inr (.inr (.inr (.inr f))))) :: (mB ki mo k ++ blk)) → va_S A0 s.heap H locs → W p l e (headSpec wsX4_init rmW).room s m args below meth c H locs (cells + 8 * k) (slots + 58 * k) Q (F0 m 94 ls [])
  | 0, k, mo, f, H, locs, ls, hk, hf, hl, hP, hD, hS => by
    obtain rfl : k = 2 := by omega
    refine lv_iload_n S.1 S.2.1 dX4_init_94 rfl (lv_at hl 0 rfl) ?_
    refine lv_iconst (v := (2 : Int32)) S.1 S.2.1 dX4_init_95 (by decide) ?_
    refine lv_icmp_ge (tgt := 118) S.1 S.2.1 dX4_init_96 (by decide) (fun _ => ?_) (fun h => absurd (by decide +kernel) h)
    exact kk mo f H locs ls hf hl hP hD hS
  | d + 1, k, mo, f, H, locs, ls, hk, hf, hl, hP, hD, hS => by
    obtain ⟨r1, r2, r3⟩ := i_imgs_r k (by omega)
    refine lv_iload_n S.1 S.2.1 dX4_init_94 rfl (lv_at hl 0 rfl) ?_
    refine lv_iconst (v := (2 : Int32)) S.1 S.2.1 dX4_init_95 (by decide) ?_
    refine lv_icmp_ge (tgt := 118) S.1 S.2.1 dX4_init_96 (by decide) (fun h => absurd h r1) (fun _ => ?_)
    refine i_mbody (P := 99) (fi := 37) (kf := 7) (nm := "images") S K hl hP hD hS hA hfs (by omega) (by decide +kernel) rfl r2 (by omega) (by omega) dX4_init_99 dX4_init_100 dX4_init_103 dX4_init_104 dX4_init_107 dX4_init_108 dX4_init_111 (fun am H locs hP hD hS => ?_)
    refine lv_iinc (v := nI (k + 1)) (lv' := [(1, .int (nI (k + 1))), (0, .ref h0)]) S.1 S.2.1 dX4_init_112 hl (k := 0) rfl (nI_1 k) (by decide) rfl (fun ls hl => ?_)
    refine lv_goto (tgt := 94) S.1 S.2.1 dX4_init_115 (by decide) ?_
    rw [r3] at hP hD
    have em : mB ki (fun j => if j = k then am else mo j) (k + 1) = mB ki mo k ++ gW (List.range 8) am (moE ki am) := by
      rw [mB_succ, mB_congr ki (mo' := mo) k (fun i hi => if_neg (by omega))]
      rw [if_pos rfl]
    have pm : ((h0, Sum.inr (4, fs)) :: (qa, .inl (ki 3, 2, .inr (.inr (.inr (.inr (va_up f k (some (am 0)))))))) :: (gW (List.range 8) am (moE ki am) ++ (mB ki mo k ++ blk)) : va_W).Perm ((h0, .inr (4, fs)) :: (qa, .inl (ki 3, 2, .inr (.inr (.inr (.inr (va_up f k (some (am 0)))))))) :: (mB ki (fun j => if j = k then am else mo j) (k + 1) ++ blk)) := by
      rw [em, ← List.append_assoc]
      exact List.Perm.cons _ (List.Perm.cons _ (List.Perm.append_right _ List.perm_append_comm))
    exact i_imgs S K hA hfs hcl hsl kk d (k + 1) (fun j => if j = k then am else mo j) (va_up f k (some (am 0))) H locs ls (by omega) (fun j hj => by
      by_cases h : j = k
      · subst h
        rw [va_up_self, if_pos rfl]
      · rw [va_up_ne _ _ h, if_neg h]
        exact hf j (by omega)) hl (hP.perm pm) (hD.perm pm) hS
end iW
set_option maxHeartbeats 32000000 in
set_option maxRecDepth 100000 in
theorem iX4_init (l : Launch) (D : va_G) (ki : Nat → ClassId) (h0 : Nat) {G1 G2 : zMem} (f1 : fX0_untell 2000 3 (fun _ _ => 0) 0 = some (0, G1, 0)) (f2 : fX0_drawEnds 2000 3 G1 0 = some (0, G2, 0)) : iMet l D ki yX4_init wsX4_init rmW h0 (.inr (4, [.null, .null, .null, .null, .null, .int 0, .int 0, .null, .null, .null, .null, .long 0])) 122 (fun ad => xE ki ad (Gf G2) 0) 121 2306 := by
  refine iMet_of (cc := cX4_init) (maxL := 2) (own := RX4) (by decide +kernel) rfl rfl rfl (Nat.le_of_ble_eq_true rfl) ?_
  intro p e s m below meth c S hr hlk hin K hP hD hA hS ls hl
  have kN3 : va_Nw (.methodLinkNest "WindPost" 9 yX3_init "WindPost") s := K.2.1.1
  have kN1 : va_Nw (.methodLinkNest "WindPost" 46 yX1_init "WindPost") s := K.2.1.2.2.1
  have uX0 : ∀ w ∈ wsX00, w ∈ wsX4_init := by decide +kernel
  have uX1 : ∀ w ∈ wsX10, w ∈ wsX4_init := by decide +kernel
  have uX3 : ∀ w ∈ wsX30, w ∈ wsX4_init := by decide +kernel
  have cwL : va_CN (headSpec wsX4_init rmW).room s ([.ref h0] : List Value).toArray RX4 46 yX1_init "WindPost" cX1_init 1 none wsX1_init { frames := 1, cells := 0, slots := 0, locals := 12 } 0 0 0 ∧ yX1_init.name = "<init>" ∧ (Cond.instanceMethod yX1_init).before ([.ref h0] : List Value).toArray s = true := ⟨va_cnB 0 S.2.2.2.2 gX4_init_X1_init_n46 rfl rfl rfl kN1 (S.2.2.2.2 (Cond.initialized RX1) (by decide +kernel)) (by decide +kernel) ⟨Nat.le_of_ble_eq_true rfl, Nat.le_of_ble_eq_true rfl⟩, rfl, S.2.2.2.2 (Cond.instanceMethod yX1_init) (by decide +kernel)⟩
  refine lv_aload_n S.1 S.2.1 dX4_init_0 rfl (lv_at hl 0 rfl) ?_
  refine i_obj S hl.1 (by decide +kernel) (by decide +kernel) (by decide +kernel) dX4_init_1 (Nat.le_of_ble_eq_true rfl) (Nat.le_of_ble_eq_true rfl) ?_
  refine lv_aload_n S.1 S.2.1 dX4_init_4 rfl (lv_at hl 0 rfl) ?_
  refine i_new (ci := 3) (C := RX3) (T := TX3) (N := 8) (fs := [.int 0, .null, .int 0, .int 0, .int 0, .int 0, .int 0, .int 0]) S K hP hD hS hA uX3 tyX3 tyX3_ok (by decide +kernel) (by decide +kernel) (by decide +kernel) rfl (fun j hj => by rcases (show j = 0 ∨ j = 1 ∨ j = 2 ∨ j = 3 ∨ j = 4 ∨ j = 5 ∨ j = 6 ∨ j = 7 by omega) with rfl | rfl | rfl | rfl | rfl | rfl | rfl | rfl <;> rfl) (Nat.le_of_ble_eq_true rfl) (Nat.le_of_ble_eq_true rfl) dX4_init_5 (fun q H hP hD hS => ?_)
  refine lv_dup S.1 S.2.1 dX4_init_8 rfl ?_
  refine i_ctorN (rest := [.ref q, .ref h0]) S K hP hD hS hA (iX3_init l D ki q) ⟨va_cnB 0 S.2.2.2.2 gX4_init_X3_init_n9 rfl rfl rfl kN3 (S.2.2.2.2 (Cond.initialized RX3) (by decide +kernel)) (by decide +kernel) ⟨Nat.le_of_ble_eq_true rfl, Nat.le_of_ble_eq_true rfl⟩, rfl, S.2.2.2.2 (Cond.instanceMethod yX3_init) (by decide +kernel)⟩ hl.1 (lv_room (Nat.le_of_ble_eq_true rfl)) dX4_init_9 ⟨(Nat.le_of_ble_eq_true rfl), (Nat.le_of_ble_eq_true rfl)⟩ (fun tx H locs e hP1 hD1 hS => ?_)
  subst e
  have hP := hP1.perm List.perm_middle
  have hD := hD1.perm List.perm_middle
  refine i_putF (ty := .object "WindPost$Text") S K hin hP hD hS 0 rfl rfl uiX4 tyX4 tyX4_ok nmX4 0 (by decide) (by decide +kernel) rfl (by decide +kernel) rfl rfl (Nat.le_of_ble_eq_true rfl) dX4_init_12 (fun H locs hP hD hS => ?_)
  have hP : va_P D vwCl ((h0, .inr (4, [.ref (tx 0), .null, .null, .null, .null, .int 0, .int 0, .null, .null, .null, .null, .long 0])) :: (gW (List.range 2) tx (txE ki tx) ++ [])) H := hP
  have hD : va_D (iA h0 s.heap.size) ((h0, .inr (4, [.ref (tx 0), .null, .null, .null, .null, .int 0, .int 0, .null, .null, .null, .null, .long 0])) :: (gW (List.range 2) tx (txE ki tx) ++ [])) := hD
  refine lv_aload_n S.1 S.2.1 dX4_init_15 rfl (lv_at hl 0 rfl) ?_
  refine i_new (ci := 0) (C := RX0) (T := TX0) (N := 10) (fs := [.int 0, .int 0, .int 0, .int 0, .int 0, .int 0, .null, .null, .null, .null]) S K hP hD hS hA uX0 tyX0 tyX0_ok (by decide +kernel) (by decide +kernel) (by decide +kernel) rfl (fun j hj => by rcases (show j = 0 ∨ j = 1 ∨ j = 2 ∨ j = 3 ∨ j = 4 ∨ j = 5 ∨ j = 6 ∨ j = 7 ∨ j = 8 ∨ j = 9 by omega) with rfl | rfl | rfl | rfl | rfl | rfl | rfl | rfl | rfl | rfl <;> rfl) (Nat.le_of_ble_eq_true rfl) (Nat.le_of_ble_eq_true rfl) dX4_init_16 (fun q H hP hD hS => ?_)
  refine lv_dup S.1 S.2.1 dX4_init_19 rfl ?_
  refine i_ctor (rest := [.ref q, .ref h0]) S K hP hD hS hA (iX0_init l D ki q f1 f2) (cwI 0 S.2.2.2.2 gX4_init_X0_init rfl rfl rfl (S.2.2.2.2 (Cond.initialized RX0) (by decide +kernel)) (S.2.2.2.2 (Cond.methodLink RX4 18 yX0_init) (by decide +kernel)) (S.2.2.2.2 (Cond.instanceMethod yX0_init) (by decide +kernel)) rfl (by decide +kernel) ⟨Nat.le_of_ble_eq_true rfl, Nat.le_of_ble_eq_true rfl⟩) hl.1 (lv_room (Nat.le_of_ble_eq_true rfl)) dX4_init_20 ⟨(Nat.le_of_ble_eq_true rfl), (Nat.le_of_ble_eq_true rfl)⟩ (fun c1 H locs e hP1 hD1 hS => ?_)
  subst e
  have hP := hP1.perm List.perm_middle
  have hD := hD1.perm List.perm_middle
  refine i_put (ty := .object "WindPost$Chart") S K hP hD hS 0 rfl rfl uiX4 tyX4 tyX4_ok nmX4 1 (by decide) (by decide +kernel) rfl (by decide +kernel) rfl rfl (Nat.le_of_ble_eq_true rfl) dX4_init_23 (fun H locs hP hD hS => ?_)
  have hP : va_P D vwCl ((h0, .inr (4, [.ref (tx 0), .ref (c1 0), .null, .null, .null, .int 0, .int 0, .null, .null, .null, .null, .long 0])) :: (gW (List.range 5) c1 (chE ki G2 c1) ++ (gW (List.range 2) tx (txE ki tx) ++ []))) H := hP
  have hD : va_D (iA h0 s.heap.size) ((h0, .inr (4, [.ref (tx 0), .ref (c1 0), .null, .null, .null, .int 0, .int 0, .null, .null, .null, .null, .long 0])) :: (gW (List.range 5) c1 (chE ki G2 c1) ++ (gW (List.range 2) tx (txE ki tx) ++ []))) := hD
  refine lv_aload_n S.1 S.2.1 dX4_init_26 rfl (lv_at hl 0 rfl) ?_
  refine i_new (ci := 0) (C := RX0) (T := TX0) (N := 10) (fs := [.int 0, .int 0, .int 0, .int 0, .int 0, .int 0, .null, .null, .null, .null]) S K hP hD hS hA uX0 tyX0 tyX0_ok (by decide +kernel) (by decide +kernel) (by decide +kernel) rfl (fun j hj => by rcases (show j = 0 ∨ j = 1 ∨ j = 2 ∨ j = 3 ∨ j = 4 ∨ j = 5 ∨ j = 6 ∨ j = 7 ∨ j = 8 ∨ j = 9 by omega) with rfl | rfl | rfl | rfl | rfl | rfl | rfl | rfl | rfl | rfl <;> rfl) (Nat.le_of_ble_eq_true rfl) (Nat.le_of_ble_eq_true rfl) dX4_init_27 (fun q H hP hD hS => ?_)
  refine lv_dup S.1 S.2.1 dX4_init_30 rfl ?_
  refine i_ctor (rest := [.ref q, .ref h0]) S K hP hD hS hA (iX0_init l D ki q f1 f2) (cwI 0 S.2.2.2.2 gX4_init_X0_init rfl rfl rfl (S.2.2.2.2 (Cond.initialized RX0) (by decide +kernel)) (S.2.2.2.2 (Cond.methodLink RX4 18 yX0_init) (by decide +kernel)) (S.2.2.2.2 (Cond.instanceMethod yX0_init) (by decide +kernel)) rfl (by decide +kernel) ⟨Nat.le_of_ble_eq_true rfl, Nat.le_of_ble_eq_true rfl⟩) hl.1 (lv_room (Nat.le_of_ble_eq_true rfl)) dX4_init_31 ⟨(Nat.le_of_ble_eq_true rfl), (Nat.le_of_ble_eq_true rfl)⟩ (fun c2 H locs e hP1 hD1 hS => ?_)
  subst e
  have hP := hP1.perm List.perm_middle
  have hD := hD1.perm List.perm_middle
  refine i_put (ty := .object "WindPost$Chart") S K hP hD hS 0 rfl rfl uiX4 tyX4 tyX4_ok nmX4 2 (by decide) (by decide +kernel) rfl (by decide +kernel) rfl rfl (Nat.le_of_ble_eq_true rfl) dX4_init_34 (fun H locs hP hD hS => ?_)
  have hP : va_P D vwCl ((h0, .inr (4, [.ref (tx 0), .ref (c1 0), .ref (c2 0), .null, .null, .int 0, .int 0, .null, .null, .null, .null, .long 0])) :: (gW (List.range 5) c2 (chE ki G2 c2) ++ (gW (List.range 5) c1 (chE ki G2 c1) ++ (gW (List.range 2) tx (txE ki tx) ++ [])))) H := hP
  have hD : va_D (iA h0 s.heap.size) ((h0, .inr (4, [.ref (tx 0), .ref (c1 0), .ref (c2 0), .null, .null, .int 0, .int 0, .null, .null, .null, .null, .long 0])) :: (gW (List.range 5) c2 (chE ki G2 c2) ++ (gW (List.range 5) c1 (chE ki G2 c1) ++ (gW (List.range 2) tx (txE ki tx) ++ [])))) := hD
  refine lv_aload_n S.1 S.2.1 dX4_init_37 rfl (lv_at hl 0 rfl) ?_
  refine i_new (ci := 2) (C := RX2) (T := TX2) (N := 6) (fs := [.int 0, .int 0, .int 0, .int 0, .null, .null]) S K hP hD hS hA uiX2 tyX2 tyX2_ok (by decide +kernel) (by decide +kernel) (by decide +kernel) rfl (fun j hj => by rcases (show j = 0 ∨ j = 1 ∨ j = 2 ∨ j = 3 ∨ j = 4 ∨ j = 5 by omega) with rfl | rfl | rfl | rfl | rfl | rfl <;> rfl) (Nat.le_of_ble_eq_true rfl) (Nat.le_of_ble_eq_true rfl) dX4_init_38 (fun q H hP hD hS => ?_)
  refine lv_dup S.1 S.2.1 dX4_init_41 rfl ?_
  refine i_ctor (rest := [.ref q, .ref h0]) S K hP hD hS hA (iX2_init l D ki q) (cwI 0 S.2.2.2.2 gX4_init_X2_init rfl rfl rfl (S.2.2.2.2 (Cond.initialized RX2) (by decide +kernel)) (S.2.2.2.2 (Cond.methodLink RX4 28 yX2_init) (by decide +kernel)) (S.2.2.2.2 (Cond.instanceMethod yX2_init) (by decide +kernel)) rfl (by decide +kernel) ⟨Nat.le_of_ble_eq_true rfl, Nat.le_of_ble_eq_true rfl⟩) hl.1 (lv_room (Nat.le_of_ble_eq_true rfl)) dX4_init_42 ⟨(Nat.le_of_ble_eq_true rfl), (Nat.le_of_ble_eq_true rfl)⟩ (fun m0 H locs e hP1 hD1 hS => ?_)
  subst e
  have hP := hP1.perm List.perm_middle
  have hD := hD1.perm List.perm_middle
  refine i_putF (ty := .object "WindPost$Moment") S K hin hP hD hS 0 rfl rfl uiX4 tyX4 tyX4_ok nmX4 3 (by decide) (by decide +kernel) rfl (by decide +kernel) rfl rfl (Nat.le_of_ble_eq_true rfl) dX4_init_45 (fun H locs hP hD hS => ?_)
  have hP : va_P D vwCl ((h0, .inr (4, [.ref (tx 0), .ref (c1 0), .ref (c2 0), .ref (m0 0), .null, .int 0, .int 0, .null, .null, .null, .null, .long 0])) :: (gW (List.range 8) m0 (moE ki m0) ++ (gW (List.range 5) c2 (chE ki G2 c2) ++ (gW (List.range 5) c1 (chE ki G2 c1) ++ (gW (List.range 2) tx (txE ki tx) ++ []))))) H := hP
  have hD : va_D (iA h0 s.heap.size) ((h0, .inr (4, [.ref (tx 0), .ref (c1 0), .ref (c2 0), .ref (m0 0), .null, .int 0, .int 0, .null, .null, .null, .null, .long 0])) :: (gW (List.range 8) m0 (moE ki m0) ++ (gW (List.range 5) c2 (chE ki G2 c2) ++ (gW (List.range 5) c1 (chE ki G2 c1) ++ (gW (List.range 2) tx (txE ki tx) ++ []))))) := hD
  refine lv_aload_n S.1 S.2.1 dX4_init_48 rfl (lv_at hl 0 rfl) ?_
  refine lv_bipush (v := (10 : Int32)) S.1 S.2.1 dX4_init_49 (by decide) ?_
  refine i_newq (N' := 10) (t0 := 3) (C := RX2) S K hP hD hS hA (by decide +kernel) K.2.2.2 (fun _ h => zK_mom h) (by decide) rfl (Nat.le_of_ble_eq_true rfl) (Nat.le_of_ble_eq_true rfl) (Nat.le_of_ble_eq_true rfl) dX4_init_51 (fun qp H hP hD hS => ?_)
  refine i_putF (ty := .array (.object "WindPost$Moment")) S K hin hP hD hS 1 rfl rfl uiX4 tyX4 tyX4_ok nmX4 4 (by decide) (by decide +kernel) rfl (by decide +kernel) rfl rfl (Nat.le_of_ble_eq_true rfl) dX4_init_54 (fun H locs hP hD hS => ?_)
  have hP := hP.perm (List.Perm.swap _ _ _)
  have hD := hD.perm (List.Perm.swap _ _ _)
  refine lv_iconst (v := (0 : Int32)) S.1 S.2.1 dX4_init_57 (by decide) ?_
  refine lv_istore_n (lv' := [(1, .int (0 : Int32)), (0, .ref h0)]) S.1 S.2.1 dX4_init_58 rfl hl (by decide) rfl (fun ls hl => ?_)
  refine i_past (fs := [.ref (tx 0), .ref (c1 0), .ref (c2 0), .ref (m0 0), .ref qp, .int 0, .int 0, .null, .null, .null, .null, .long 0]) (qa := qp) (cells := 21) (slots := 1592) (blk := gW (List.range 8) m0 (moE ki m0) ++ (gW (List.range 5) c2 (chE ki G2 c2) ++ (gW (List.range 5) c1 (chE ki G2 c1) ++ (gW (List.range 2) tx (txE ki tx) ++ [])))) S K hA rfl (Nat.le_of_ble_eq_true rfl) (Nat.le_of_ble_eq_true rfl) ?_ 10 0 (fun _ _ => 0) (fun _ => none) H locs ls rfl (fun j hj => absurd hj (Nat.not_lt_zero j)) hl (by rw [show mB ki (fun _ _ => 0) 0 = [] from rfl, List.nil_append]; exact hP) (by rw [show mB ki (fun _ _ => 0) 0 = [] from rfl, List.nil_append]; exact hD) hS
  clear hP hD hS hl ls
  intro mo1 g1 H locs ls hg1 hl hP hD hS
  refine lv_aload_n S.1 S.2.1 dX4_init_84 rfl (lv_at hl 1 rfl) ?_
  refine lv_iconst (v := (2 : Int32)) S.1 S.2.1 dX4_init_85 (by decide) ?_
  refine i_newq (N' := 2) (t0 := 3) (C := RX2) S K hP hD hS hA (by decide +kernel) K.2.2.2 (fun _ h => zK_mom h) (by decide) rfl (Nat.le_of_ble_eq_true rfl) (Nat.le_of_ble_eq_true rfl) (Nat.le_of_ble_eq_true rfl) dX4_init_86 (fun qi H hP hD hS => ?_)
  refine i_putF (ty := .array (.object "WindPost$Moment")) S K hin hP hD hS 1 rfl rfl uiX4 tyX4 tyX4_ok nmX4 7 (by decide) (by decide +kernel) rfl (by decide +kernel) rfl rfl (Nat.le_of_ble_eq_true rfl) dX4_init_89 (fun H locs hP hD hS => ?_)
  have hP := hP.perm (List.Perm.swap _ _ _)
  have hD := hD.perm (List.Perm.swap _ _ _)
  refine lv_iconst (v := (0 : Int32)) S.1 S.2.1 dX4_init_92 (by decide) ?_
  refine lv_istore_n (lv' := [(1, .int (0 : Int32)), (0, .ref h0)]) S.1 S.2.1 dX4_init_93 rfl hl (by decide) rfl (fun ls hl => ?_)
  refine i_imgs (fs := [.ref (tx 0), .ref (c1 0), .ref (c2 0), .ref (m0 0), .ref qp, .int 0, .int 0, .ref qi, .null, .null, .null, .long 0]) (qa := qi) (cells := 102) (slots := 2174) (blk := (qp, .inl (ki 3, 10, .inr (.inr (.inr (.inr g1))))) :: (mB ki mo1 10 ++ (gW (List.range 8) m0 (moE ki m0) ++ (gW (List.range 5) c2 (chE ki G2 c2) ++ (gW (List.range 5) c1 (chE ki G2 c1) ++ (gW (List.range 2) tx (txE ki tx) ++ [])))))) S K hA rfl (Nat.le_of_ble_eq_true rfl) (Nat.le_of_ble_eq_true rfl) ?_ 2 0 (fun _ _ => 0) (fun _ => none) H locs ls rfl (fun j hj => absurd hj (Nat.not_lt_zero j)) hl (by rw [show mB ki (fun _ _ => 0) 0 = [] from rfl, List.nil_append]; exact hP) (by rw [show mB ki (fun _ _ => 0) 0 = [] from rfl, List.nil_append]; exact hD) hS
  clear hP hD hS hl ls
  intro mo2 g2 H locs ls hg2 hl hP hD hS
  refine lv_aload_n S.1 S.2.1 dX4_init_118 rfl (lv_at hl 1 rfl) ?_
  refine lv_iconst (v := (2 : Int32)) S.1 S.2.1 dX4_init_119 (by decide) ?_
  refine i_newz (N' := 2) S K hP hD hS hA (by decide +kernel) (by decide) rfl (Nat.le_of_ble_eq_true rfl) (Nat.le_of_ble_eq_true rfl) (Nat.le_of_ble_eq_true rfl) dX4_init_120 (fun kp H hP hD hS => ?_)
  refine i_putF (ty := .array .boolean) S K hin hP hD hS 1 rfl rfl uiX4 tyX4 tyX4_ok nmX4 8 (by decide) (by decide +kernel) rfl (by decide +kernel) rfl rfl (Nat.le_of_ble_eq_true rfl) dX4_init_122 (fun H locs hP hD hS => ?_)
  have hP := hP.perm (List.Perm.swap _ _ _)
  have hD := hD.perm (List.Perm.swap _ _ _)
  refine lv_aload_n S.1 S.2.1 dX4_init_125 rfl (lv_at hl 1 rfl) ?_
  refine i_new (ci := 1) (C := RX1) (T := TX1) (N := 7) (fs := [.int 0, .int 0, .int 0, .int 0, .int 0, .int 0, .int 0]) S K hP hD hS hA uX1 tyX1 tyX1_ok (by decide +kernel) (by decide +kernel) (by decide +kernel) rfl (fun j hj => by rcases (show j = 0 ∨ j = 1 ∨ j = 2 ∨ j = 3 ∨ j = 4 ∨ j = 5 ∨ j = 6 by omega) with rfl | rfl | rfl | rfl | rfl | rfl | rfl <;> rfl) (Nat.le_of_ble_eq_true rfl) (Nat.le_of_ble_eq_true rfl) dX4_init_126 (fun prb H hP hD hS => ?_)
  refine lv_dup S.1 S.2.1 dX4_init_129 rfl ?_
  refine i_let (rest := [.ref prb, .ref h0]) S hP hS cwL hl.1 (lv_room (Nat.le_of_ble_eq_true rfl)) dX4_init_130 ⟨(Nat.le_of_ble_eq_true rfl), (Nat.le_of_ble_eq_true rfl)⟩ (fun H locs hP hS => ?_)
  refine i_putF (ty := .object "WindPost$Letter") S K hin hP hD hS 1 rfl rfl uiX4 tyX4 tyX4_ok nmX4 9 (by decide) (by decide +kernel) rfl (by decide +kernel) rfl rfl (Nat.le_of_ble_eq_true rfl) dX4_init_133 (fun H locs hP hD hS => ?_)
  have hP := hP.perm (List.Perm.swap _ _ _)
  have hD := hD.perm (List.Perm.swap _ _ _)
  refine lv_aload_n S.1 S.2.1 dX4_init_136 rfl (lv_at hl 1 rfl) ?_
  refine i_new (ci := 1) (C := RX1) (T := TX1) (N := 7) (fs := [.int 0, .int 0, .int 0, .int 0, .int 0, .int 0, .int 0]) S K hP hD hS hA uX1 tyX1 tyX1_ok (by decide +kernel) (by decide +kernel) (by decide +kernel) rfl (fun j hj => by rcases (show j = 0 ∨ j = 1 ∨ j = 2 ∨ j = 3 ∨ j = 4 ∨ j = 5 ∨ j = 6 by omega) with rfl | rfl | rfl | rfl | rfl | rfl | rfl <;> rfl) (Nat.le_of_ble_eq_true rfl) (Nat.le_of_ble_eq_true rfl) dX4_init_137 (fun sec H hP hD hS => ?_)
  refine lv_dup S.1 S.2.1 dX4_init_140 rfl ?_
  refine i_let (rest := [.ref sec, .ref h0]) S hP hS cwL hl.1 (lv_room (Nat.le_of_ble_eq_true rfl)) dX4_init_141 ⟨(Nat.le_of_ble_eq_true rfl), (Nat.le_of_ble_eq_true rfl)⟩ (fun H locs hP hS => ?_)
  refine i_putF (ty := .object "WindPost$Letter") S K hin hP hD hS 1 rfl rfl uiX4 tyX4 tyX4_ok nmX4 10 (by decide) (by decide +kernel) rfl (by decide +kernel) rfl rfl (Nat.le_of_ble_eq_true rfl) dX4_init_144 (fun H locs hP hD hS => ?_)
  have hP := hP.perm (List.Perm.swap _ _ _)
  have hD := hD.perm (List.Perm.swap _ _ _)
  have hP : va_P D vwCl (fws ki G2 h0 tx c1 c2 m0 prb sec qp qi kp mo1 mo2 g1 g2) H := hP
  have hD : va_D (iA h0 s.heap.size) (fws ki G2 h0 tx c1 c2 m0 prb sec qp qi kp mo1 mo2 g1 g2) := hD
  exact i_vret (am := fad h0 tx c1 c2 prb sec qp qi kp (mo3 m0 mo1 mo2)) S hr hlk rfl (fin_P hP hg1 hg2) (fin_D hD _) hS dX4_init_147
