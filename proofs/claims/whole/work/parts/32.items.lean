/-! ===== reading a chart: size, isle, hill ===== -/
section itn
variable {Q R : zMem → Prop} {T : zB} {len dr : Nat} {D D' : zA} {W W' : zB} {p p0 fl it : Nat} {G G' Gm Gm' : zMem} {tr trm : Int64}
theorem px_dr (hQ : keepQ Q dr) (hdr : 3 ≤ dr) (x : PX Q T len dr D W p fl it G) (k : ∀ c, (c < dr ∨ dr + 3 < c) → G' c = G c) (d : dX D' W' dr G') : PX Q T len dr D' W' p fl it G' := by
  obtain ⟨x1, x2, x3, x4, x5, x6⟩ := x
  have e1 := k 1 (by omega)
  have e2 := k 2 (by omega)
  refine ⟨hQ _ _ x1 (fun c _ h => k c (by omega)) (by rw [e1]), ?_, d, by rw [e1]; exact x4, by rw [e1]; exact x5, by rw [e1]; exact x6⟩
  unfold txX
  rw [e1, e2]
  exact x2
theorem pm_sc (hR : keepR R) (y : PM R T len D W p fl Gm) (k : ∀ c, (6 ≤ c ∨ c ≤ 1) → Gm' c = Gm c) (k6 : ∀ i, i < 6 → Gm' 2 i = Gm 2 i ∧ Gm' 3 i = Gm 3 i ∧ Gm' 4 i = Gm 4 i) (d : dM D' W' Gm') : PM R T len D' W' p fl Gm' := by
  obtain ⟨y1, y2, y3, y4⟩ := y
  have e0 := k 0 (by omega)
  have e1 := k 1 (by omega)
  refine ⟨hR _ _ y1 (fun c h => k c (by omega)) k6 (by rw [e0]) (by rw [e0]), d, ?_, by rw [e0]; exact y4⟩
  unfold adM txM
  rw [e0, e1]
  exact y3
theorem fm_sc (hR : keepR R) {s : Nat} (y : FM R s Gm) (k : ∀ c, (6 ≤ c ∨ c ≤ 1) → Gm' c = Gm c) (k6 : ∀ i, i < 6 → Gm' 2 i = Gm 2 i ∧ Gm' 3 i = Gm 3 i ∧ Gm' 4 i = Gm 4 i) : FM R s Gm' := by
  have e0 := k 0 (by omega)
  exact ⟨hR _ _ y.1 (fun c h => k c (by omega)) k6 (by rw [e0]) (by rw [e0]), by rw [e0]; exact y.2⟩
theorem sc_2 {j : Nat} {v : Int32} (hj : 6 ≤ j) : (∀ c, (6 ≤ c ∨ c ≤ 1) → up2 G 2 j v c = G c) ∧ ∀ i, i < 6 → up2 G 2 j v 2 i = G 2 i ∧ up2 G 2 j v 3 i = G 3 i ∧ up2 G 2 j v 4 i = G 4 i :=
  ⟨fun c h => up2_ne _ _ _ (by omega), fun i hi => ⟨up2_oth (by omega), by rw [up2_ne _ _ _ (by omega)], by rw [up2_ne _ _ _ (by omega)]⟩⟩
theorem dX_0 (x : dX D W dr G) (v : Nat) : dX (upA D 0 v) W dr (up2 G dr 0 (nI v)) := by
  obtain ⟨c1, c2, c3, c4, c5, c6, c7, c8, c9⟩ := x
  refine ⟨up2_get, by rw [up2_oth (by omega)]; exact c2, by rw [up2_oth (by omega)]; exact c3, by rw [up2_oth (by omega)]; exact c4, by rw [up2_oth (by omega)]; exact c5, by rw [up2_oth (by omega)]; exact c6, fun k hk => by rw [up2_ne _ _ _ (by omega)]; exact c7 k hk, fun c hc => by rw [up2_ne _ _ _ (by omega)]; exact c8 c hc, fun k hk => by rw [up2_ne _ _ _ (by omega)]; exact c9 k hk⟩
theorem dX_1 (x : dX D W dr G) (v : Nat) : dX (upA D 1 v) W dr (up2 G dr 1 (nI v)) := by
  obtain ⟨c1, c2, c3, c4, c5, c6, c7, c8, c9⟩ := x
  refine ⟨by rw [up2_oth (by omega)]; exact c1, up2_get, by rw [up2_oth (by omega)]; exact c3, by rw [up2_oth (by omega)]; exact c4, by rw [up2_oth (by omega)]; exact c5, by rw [up2_oth (by omega)]; exact c6, fun k hk => by rw [up2_ne _ _ _ (by omega)]; exact c7 k hk, fun c hc => by rw [up2_ne _ _ _ (by omega)]; exact c8 c hc, fun k hk => by rw [up2_ne _ _ _ (by omega)]; exact c9 k hk⟩
theorem dM_01 (y : dM D W G) {j : Nat} (hj : j < 2) (v : Nat) : dM (upA D j v) W (up2 G 2 (6 + j) (nI v)) := by
  obtain ⟨d1, d2, d3, d4⟩ := y
  have e2 : upA D j v 0 2 = D 0 2 := if_neg (by omega)
  have e3 : upA D j v 0 3 = D 0 3 := if_neg (by omega)
  have e4 : upA D j v 0 4 = D 0 4 := if_neg (by omega)
  refine ⟨fun k hk => ?_, fun k hk => ?_, fun k hk => ?_, fun k hk => ?_⟩
  · by_cases hkj : k = j
    · subst hkj
      rw [up2_get]
      show nI v = nI (upN (D 0) k v k)
      rw [upN, if_pos rfl]
    · rw [up2_oth (by omega), d1 k hk]
      show nI (D 0 k) = nI (upN (D 0) j v k)
      rw [upN, if_neg hkj]
  · rw [up2_ne _ _ _ (by omega)]; rw [e2] at hk; exact d2 k hk
  · rw [up2_ne _ _ _ (by omega)]; rw [e3] at hk; exact d3 k hk
  · rw [up2_ne _ _ _ (by omega)]; rw [e4] at hk; exact d4 k hk
theorem size_both (hQ : keepQ Q dr) (hR : keepR R) (hdr : 3 ≤ dr) (hl : len ≤ 200) (hT : ∀ i, i < len → T i ≤ 255) {N : Nat} (hN : 1000 < N) (hp : p ≤ len) (hp0 : p0 ≤ p) (hD : okD D W) (hn : D 0 2 = 0) (hm : D 0 3 = 0) (hfl : fl ≤ 1) (x : PX Q T len dr D W p fl it G) (y : PM R T len D W p fl Gm) : outI Q R T len dr it p0 (fX3_readSize N dr G tr) (fun k i => zbd (fX5_readsItem N 103 Gm trm) (fun _ G12 t13 => fX5_sea_b126 N k i G12 t13)) tr trm := by
  have ts := tk_spec (T := T) hp
  obtain ⟨G1, q1, x1, s3, s5⟩ := px_num (tr := tr) hQ hdr hl hT hN hp x (lo := 2) (hi := 6) (by omega) (by omega)
  have q1' : fX3_stepsToNumber N 2 6 G tr = _ := q1
  obtain ⟨m1, m2⟩ := pm_num (tr := trm) hR hl hT hN hp y (lo := 2) (hi := 6) (by omega) (by omega)
  unfold fX3_readSize
  rw [q1', zbd_ok, zb_if]
  by_cases h : tkK T len p = 2 ∧ 2 ≤ tkV T len p ∧ tkV T len p ≤ 6
  · obtain ⟨M1, f1, y1⟩ := m1 h
    have f1' : fX5_number N 2 6 Gm trm = some (nI (tkV T len p), M1, trm) := f1
    have x2 := px_dr hQ hdr x1 (G' := up2 G1 dr 0 (nI (tkV T len p))) (fun c h => up2_ne _ _ _ (by omega)) (dX_0 x1.2.2.1 (tkV T len p))
    have y2 := pm_sc hR y1 (Gm' := up2 M1 2 6 (nI (tkV T len p))) (sc_2 (by omega)).1 (sc_2 (by omega)).2 (dM_01 y1.2.1 (j := 0) (by omega) (tkV T len p))
    have tq := tk_spec (T := T) ts.2.2.1
    obtain ⟨G2, q2, x3, t3, t5⟩ := px_num (tr := tr) hQ hdr hl hT hN ts.2.2.1 x2 (lo := 2) (hi := 5) (by omega) (by omega)
    have q2' : fX3_stepsToNumber N 2 5 (up2 G1 dr 0 (nI (tkV T len p))) tr = _ := q2
    obtain ⟨n1, n2⟩ := pm_num (tr := trm) hR hl hT hN ts.2.2.1 y2 (lo := 2) (hi := 5) (by omega) (by omega)
    rw [if_pos h, s5 h.1, q2', zbd_ok, zb_if]
    by_cases h2 : tkK T len (tkQ T len p) = 2 ∧ 2 ≤ tkV T len (tkQ T len p) ∧ tkV T len (tkQ T len p) ≤ 5
    · obtain ⟨M2, f2, y3⟩ := n1 h2
      have f2' : fX5_number N 2 5 (up2 M1 2 6 (nI (tkV T len p))) trm = some (nI (tkV T len (tkQ T len p)), M2, trm) := f2
      have x4 := px_dr hQ hdr x3 (G' := up2 G2 dr 1 (nI (tkV T len (tkQ T len p)))) (fun c h => up2_ne _ _ _ (by omega)) (dX_1 x3.2.2.1 (tkV T len (tkQ T len p)))
      have y4 := pm_sc hR y3 (Gm' := up2 M2 2 7 (nI (tkV T len (tkQ T len p)))) (sc_2 (by omega)).1 (sc_2 (by omega)).2 (dM_01 y3.2.1 (j := 1) (by omega) (tkV T len (tkQ T len p)))
      have hD' : okD (upA (upA D 0 (tkV T len p)) 1 (tkV T len (tkQ T len p))) W := by
        obtain ⟨⟨o1, o2, o3, o4, o5, o6, o7, o8, o9, o10, o11, o12, o13⟩, ow⟩ := hD
        exact ⟨⟨h.2.1, h.2.2, h2.2.1, h2.2.2, o5, o6, o7, o8, o9, fun k (hk : k < D 0 2) => by omega, fun k (hk : k < D 0 3) => by omega, o12, o13⟩, ow⟩
      have out := outI_b (end_both (tr := tr) (trm := trm) (p0 := p0) hQ hR hdr hl hT hN tq.2.2.1 (by omega) hD' hfl x4 y4)
      have fe : (fun (k : Int32 → zMem → Int64 → zR) i => zbd (fX5_readsItem N 103 Gm trm) (fun _ G12 t13 => fX5_sea_b126 N k i G12 t13)) = fun k i => fX5_sea_b126 N k i (up2 M2 2 7 (nI (tkV T len (tkQ T len p)))) trm := by
        funext k i
        rw [fX5_readsItem, if_pos rfl, f1', zbd_ok, zin_lit 6 12 (i := 6) rfl (by omega) (by omega), show Int32.toNatClampNeg 6 = 6 from rfl, f2', zbd_ok, zin_lit 7 12 (i := 7) rfl (by omega) (by omega)]
        rfl
      rw [if_pos h2, t5 h2.1, fe]
      exact out
    · obtain ⟨M2, f2, y3⟩ := n2 h2
      have f2' : fX5_number N 2 5 (up2 M1 2 6 (nI (tkV T len p))) trm = some (0, M2, trm) := f2
      have y4 := fm_sc hR y3 (Gm' := up2 M2 2 7 0) (sc_2 (by omega)).1 (sc_2 (by omega)).2
      rw [if_neg h2, zbo_0]
      refine Or.inr ⟨tkS T len (tkQ T len p), G2, up2 M2 2 7 0, tq.2.1, rfl, x3.1, t3, fun k i => ?_, y4⟩
      show zbd (fX5_readsItem N 103 Gm trm) (fun _ G12 t13 => fX5_sea_b126 N k i G12 t13) = _
      rw [fX5_readsItem, if_pos rfl, f1', zbd_ok, zin_lit 6 12 (i := 6) rfl (by omega) (by omega), show Int32.toNatClampNeg 6 = 6 from rfl, f2', zbd_ok, zin_lit 7 12 (i := 7) rfl (by omega) (by omega), zbd_ok]
      exact fm_tailF (by omega) y4 k i
  · obtain ⟨M1, f1, y1⟩ := m2 h
    have f1' : fX5_number N 2 6 Gm trm = some (0, M1, trm) := f1
    have y2 := fm_sc hR y1 (Gm' := up2 M1 2 6 0) (sc_2 (by omega)).1 (sc_2 (by omega)).2
    have y3 := fm_sc hR y2 (Gm' := up2 (up2 M1 2 6 0) 2 7 0) (sc_2 (by omega)).1 (sc_2 (by omega)).2
    rw [if_neg h, zbo_0]
    refine Or.inr ⟨tkS T len p, G1, _, ts.2.1, rfl, x1.1, s3, fun k i => ?_, y3⟩
    show zbd (fX5_readsItem N 103 Gm trm) (fun _ G12 t13 => fX5_sea_b126 N k i G12 t13) = _
    rw [fX5_readsItem, if_pos rfl, f1', zbd_ok, zin_lit 6 12 (i := 6) rfl (by omega) (by omega), show Int32.toNatClampNeg 6 = 6 from rfl, fm_numF (by omega) y2, zbd_ok, zin_lit 7 12 (i := 7) rfl (by omega) (by omega), zbd_ok]
    exact fm_tailF (by omega) y3 k i
theorem pm_take0' (hR : keepR R) {N : Nat} (y : PM R T len D W p fl Gm) : ∃ G', fX5_takes N 0 Gm trm = some (0, G', trm) ∧ FM R (tkS T len p) G' ∧ ∀ c, c ≠ 0 → G' c = Gm c := by
  unfold fX5_takes
  rw [pm_well y, zbd_ok, if_neg (by decide), if_pos rfl]
  refine ⟨_, rfl, ⟨hR _ _ y.1 (fun c hc => up2_ne _ _ _ (by omega)) (fun k hk => ⟨by rw [up2_ne _ _ _ (by omega)], by rw [up2_ne _ _ _ (by omega)], by rw [up2_ne _ _ _ (by omega)]⟩) (up2_oth (by omega)) (up2_oth (by omega)), ?_⟩, fun c hc => up2_ne _ _ _ hc⟩
  rw [up2_get]; exact y.2.2.1.2.2.1
/-- a free cell is told -/
theorem free_num (hA : okA D) (hK : tkK T len p = 2) : (tkK T len p = 2 ∧ 0 ≤ tkV T len p ∧ tkV T len p ≤ D 0 0 * D 0 1 - 1) ↔ tkV T len p < D 0 0 * D 0 1 := by
  have ha := area hA
  exact ⟨fun z => by omega, fun z => ⟨hK, by omega, by omega⟩⟩
theorem isle_both (hQ : keepQ Q dr) (hR : keepR R) (hdr : 3 ≤ dr) (hl : len ≤ 200) (hT : ∀ i, i < len → T i ≤ 255) {N : Nat} (hN : 1000 < N) (hp : p ≤ len) (hp0 : p0 ≤ p) (hD : okD D W) (hn : D 0 2 < 6) (hfl : fl ≤ 1) (x : PX Q T len dr D W p fl it G) (y : PM R T len D W p fl Gm) : outI Q R T len dr it p0 (fX3_readIsle N dr G tr) (fun k i => zbd (fX5_readsItem N 105 Gm trm) (fun _ G12 t13 => fX5_sea_b126 N k i G12 t13)) tr trm := by
  have ts := tk_spec (T := T) hp
  have ha := area hD.1
  have hkk := tk_le (T := T) (len := len) (p := p)
  have a4 := y.2.2.1.2.2.2.1
  have a6 := y.2.2.1.2.2.2.2.2.1
  have e8 : Gm 2 8 = nI (D 0 2) := y.2.1.1 2 (by omega)
  obtain ⟨G1, q1, x1, s3, s5⟩ := px_num (tr := tr) hQ hdr hl hT hN hp x (lo := 0) (hi := D 0 0 * D 0 1 - 1) (by omega) (by omega)
  have q1' : fX3_stepsToNumber N 0 (nI (D 0 0 * D 0 1 - 1)) G tr = _ := q1
  -- the reference's fault
  obtain ⟨M0, f0, y0, k0⟩ := pm_take0' (trm := trm) hR (N := N) y
  have h8 : M0 2 8 = nI (D 0 2) := by rw [k0 2 (by omega)]; exact e8
  have f2 : FM R (tkS T len p) (up2 (up2 M0 3 (6 + D 0 2) 0) 2 8 (nI (D 0 2 + 1))) := fm_sc hR y0 (fun c h => by rw [up2_ne _ _ _ (by omega), up2_ne _ _ _ (by omega)]) (fun i hi => ⟨by rw [up2_oth (by omega), up2_ne _ _ _ (by omega)], by rw [up2_ne _ _ _ (by omega), up2_oth (by omega)], by rw [up2_ne _ _ _ (by omega), up2_ne _ _ _ (by omega)]⟩)
  have bad : ∀ (k : Int32 → zMem → Int64 → zR) i, zbd (fX5_readsItem_b80 N 105 (6 + Gm 2 (Int32.toNatClampNeg 8)) Gm trm) (fun _ G12 t13 => fX5_sea_b126 N k i G12 t13) = k (i + 1) (up2 (up2 M0 3 (6 + D 0 2) 0) 2 8 (nI (D 0 2 + 1))) trm := fun k i => by
    rw [fX5_readsItem_b80, fX5_readsItem_b81, f0, zbd_ok, show Int32.toNatClampNeg 8 = 8 from rfl, e8, show (6 : Int32) = nI 6 from rfl, nI_add, zin_ok (by omega) (by omega), zin_lit 8 12 (i := 8) rfl (by omega) (by omega), zin_lit 8 12 (i := 8) rfl (by omega) (by omega), nI_clamp (by omega), up2_ne _ _ _ (by omega), h8, nI_1, zbd_ok]
    exact fm_tailF (by omega) f2 k i
  have bad' : zbd (fX5_readsItem N 105 Gm trm) = zbd (fX5_readsItem_b80 N 105 (6 + Gm 2 (Int32.toNatClampNeg 8)) Gm trm) → ∀ G', Q G' → G' 1 3 = nI (tkS T len p) → outI Q R T len dr it p0 (some (0, G', tr)) (fun k i => zbd (fX5_readsItem N 105 Gm trm) (fun _ G12 t13 => fX5_sea_b126 N k i G12 t13)) tr trm := fun he G' h1 h2 =>
    Or.inr ⟨tkS T len p, G', _, ts.2.1, rfl, h1, h2, fun k i => by show zbd (fX5_readsItem N 105 Gm trm) (fun _ G12 t13 => fX5_sea_b126 N k i G12 t13) = _; rw [he]; exact bad k i, f2⟩
  unfold fX3_readIsle
  rw [fw_cells hD.1 x.2.2.1.1 x.2.2.1.2.1, zbd_ok, show nI (D 0 0 * D 0 1) - 1 = nI (D 0 0 * D 0 1 - 1) from pk_sub (b := 1) (by omega), q1', zbd_ok, zb_if]
  by_cases hK : tkK T len p = 2
  · have hv := tk_v hK
    have hfr := fm_isFree (tr := trm) hD.1 y.2.1 (v := tkV T len p) (by omega) hN
    by_cases hlt : tkV T len p < D 0 0 * D 0 1
    · rw [if_pos ((free_num hD.1 hK).mpr hlt), s5 hK, fw_onCell x1.2.2.1.2.2.2.2.2.2.2.1 N tr (by omega), zbd_ok]
      by_cases h9 : holdV D (tkV T len p) = -9
      · obtain ⟨M1, f1, y1⟩ := pm_take1 (tr := trm) hR hl hT hN hp y
        rw [a6 hK] at f1
        have hfree := (hold_free hD.1.2.2.2.2.1).mp h9
        obtain ⟨c1, c2, c3, c4, c5, c6, c7, c8, c9⟩ := x1.2.2.1
        have x2 := px_dr hQ hdr x1 (D' := adI D (tkV T len p)) (W' := W) (G' := up2 (up2 (up2 G1 (dr + 1) (D 0 2) (nI (tkV T len p))) (dr + 2) (tkV T len p) (nI (D 0 2))) dr 3 (nI (D 0 2 + 1))) (fun c h => by rw [up2_ne _ _ _ (by omega), up2_ne _ _ _ (by omega), up2_ne _ _ _ (by omega)]) (by
          refine ⟨?_, ?_, ?_, ?_, ?_, ?_, fun k hk => ?_, fun c hc => ?_, fun k hk => ?_⟩
          · rw [up2_oth (by omega), up2_ne _ _ _ (by omega), up2_ne _ _ _ (by omega)]; exact c1
          · rw [up2_oth (by omega), up2_ne _ _ _ (by omega), up2_ne _ _ _ (by omega)]; exact c2
          · rw [up2_oth (by omega), up2_ne _ _ _ (by omega), up2_ne _ _ _ (by omega)]; exact c3
          · rw [up2_get]; rfl
          · rw [up2_oth (by omega), up2_ne _ _ _ (by omega), up2_ne _ _ _ (by omega)]; exact c5
          · rw [up2_oth (by omega), up2_ne _ _ _ (by omega), up2_ne _ _ _ (by omega)]; exact c6
          · have hk' : k < D 0 2 + 1 := hk
            rw [up2_ne _ _ _ (by omega), up2_ne _ _ _ (by omega)]
            show _ = nI (upN (D 1) (D 0 2) (tkV T len p) k)
            unfold upN
            by_cases hkn : k = D 0 2
            · rw [hkn, up2_get, if_pos rfl]
            · rw [up2_oth hkn, if_neg hkn]; exact c7 k (by omega)
          · rw [up2_ne _ _ _ (by omega), hold_adI hfree.1 hfree.2]
            by_cases hcv : c = tkV T len p
            · rw [hcv, up2_get, if_pos rfl]
            · rw [up2_oth hcv, if_neg hcv, up2_ne _ _ _ (by omega)]; exact c8 c hc
          · rw [up2_ne _ _ _ (by omega), up2_ne _ _ _ (by omega), up2_ne _ _ _ (by omega)]; exact c9 k hk)
        obtain ⟨d1, d2, d3, d4⟩ := y1.2.1
        have h8 : M1 2 8 = nI (D 0 2) := d1 2 (by omega)
        have y2 := pm_sc hR y1 (D' := adI D (tkV T len p)) (W' := W) (Gm' := up2 (up2 M1 3 (6 + D 0 2) (nI (tkV T len p))) 2 8 (nI (D 0 2 + 1))) (fun c h => by rw [up2_ne _ _ _ (by omega), up2_ne _ _ _ (by omega)]) (fun i hi => ⟨by rw [up2_oth (by omega), up2_ne _ _ _ (by omega)], by rw [up2_ne _ _ _ (by omega), up2_oth (by omega)], by rw [up2_ne _ _ _ (by omega), up2_ne _ _ _ (by omega)]⟩) (by
          refine ⟨fun k hk => ?_, fun k hk => ?_, fun k hk => ?_, fun k hk => ?_⟩
          · show _ = nI (upN (D 0) 2 (D 0 2 + 1) k)
            unfold upN
            by_cases hk2 : k = 2
            · subst hk2; rw [up2_get, if_pos rfl]
            · rw [up2_oth (by omega), if_neg hk2, up2_ne _ _ _ (by omega)]; exact d1 k hk
          · have hk' : k < D 0 2 + 1 := hk
            rw [up2_ne _ _ _ (by omega)]
            show _ = nI (upN (D 1) (D 0 2) (tkV T len p) k)
            unfold upN
            by_cases hkn : k = D 0 2
            · rw [hkn, up2_get, if_pos rfl]
            · rw [up2_oth (by omega), if_neg hkn]; exact d2 k (by omega)
          · rw [up2_ne _ _ _ (by omega), up2_ne _ _ _ (by omega)]; exact d3 k hk
          · rw [up2_ne _ _ _ (by omega), up2_ne _ _ _ (by omega)]; exact d4 k hk)
        have out := outI_b (end_both (tr := tr) (trm := trm) (p0 := p0) hQ hR hdr hl hT hN ts.2.2.1 (by omega) (show okD (adI D (tkV T len p)) W from ⟨okA_adI hD.1 hn hlt hfree.1 hfree.2, hD.2⟩) hfl x2 y2)
        have fe : (fun (k : Int32 → zMem → Int64 → zR) i => zbd (fX5_readsItem N 105 Gm trm) (fun _ G12 t13 => fX5_sea_b126 N k i G12 t13)) = fun k i => fX5_sea_b126 N k i (up2 (up2 M1 3 (6 + D 0 2) (nI (tkV T len p))) 2 8 (nI (D 0 2 + 1))) trm := by
          funext k i
          rw [fX5_readsItem, if_neg (by decide), if_pos rfl, zin_lit 8 12 (i := 8) rfl (by omega) (by omega), a4, hK, if_pos (show nI 2 = 2 from rfl), a6 hK, hfr, zbd_ok, zb_if, if_pos (show tkV T len p < D 0 0 * D 0 1 ∧ holdV D (tkV T len p) = -9 from ⟨hlt, h9⟩), show Int32.toNatClampNeg 8 = 8 from rfl, e8, show (6 : Int32) = nI 6 from rfl, nI_add, fX5_readsItem_b81, f1, zbd_ok, zin_ok (by omega) (by omega), zin_lit 8 12 (i := 8) rfl (by omega) (by omega), zin_lit 8 12 (i := 8) rfl (by omega) (by omega), show Int32.toNatClampNeg 8 = 8 from rfl, nI_clamp (by omega), up2_ne _ _ _ (by omega), h8, nI_1, zbd_ok]
        have fw : fX0_addIsle N dr (nI (tkV T len p)) G1 tr = some (0, up2 (up2 (up2 G1 (dr + 1) (D 0 2) (nI (tkV T len p))) (dr + 2) (tkV T len p) (nI (D 0 2))) dr 3 (nI (D 0 2 + 1)), tr) := by
          unfold fX0_addIsle
          rw [c4, show (6 : Int32) = nI 6 from rfl, if_neg (nI_ge (by omega) (by omega)), if_neg (nI_pos (by omega)), show (30 : Int32) = nI 30 from rfl, if_pos (nI_lt (by omega) (by omega)), zin_ok (by omega) (by omega), zin_ok (by omega) (by omega), nI_clamp (by omega), nI_clamp (by omega), up2_ne _ _ _ (by omega), up2_ne _ _ _ (by omega), up2_ne _ _ _ (by omega), c4, nI_1]
        rw [if_pos h9, s5 hK, fw, zbd_ok, fe]
        exact out
      · rw [if_neg h9, zbo_0]
        refine bad' ?_ G1 x1.1 s3
        rw [fX5_readsItem, if_neg (by decide), if_pos rfl, zin_lit 8 12 (i := 8) rfl (by omega) (by omega), a4, hK, if_pos (show nI 2 = 2 from rfl), a6 hK, hfr, zbd_ok, zb_if, if_neg (show ¬ (tkV T len p < D 0 0 * D 0 1 ∧ holdV D (tkV T len p) = -9) from fun z => h9 z.2)]
    · rw [if_neg (fun z => hlt ((free_num hD.1 hK).mp z)), zbo_0]
      refine bad' ?_ G1 x1.1 s3
      rw [fX5_readsItem, if_neg (by decide), if_pos rfl, zin_lit 8 12 (i := 8) rfl (by omega) (by omega), a4, hK, if_pos (show nI 2 = 2 from rfl), a6 hK, hfr, zbd_ok, zb_if, if_neg (show ¬ (tkV T len p < D 0 0 * D 0 1 ∧ holdV D (tkV T len p) = -9) from fun z => hlt z.1)]
  · rw [if_neg (fun z => hK z.1), zbo_0]
    refine bad' ?_ G1 x1.1 s3
    rw [fX5_readsItem, if_neg (by decide), if_pos rfl, zin_lit 8 12 (i := 8) rfl (by omega) (by omega), a4, if_neg (show ¬ nI (tkK T len p) = 2 from zneI (k := 2) hK (by omega) (by omega))]
end itn
