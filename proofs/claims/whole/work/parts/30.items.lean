/-! ===== reading a chart: force, size ===== -/
def outI (Q R : zMem → Prop) (T : zB) (len dr it p0 : Nat) (fw : zR) (fm : (Int32 → zMem → Int64 → zR) → Int32 → zR) (tr trm : Int64) : Prop :=
  (∃ D W q fl G' Gm', okD D W ∧ fl ≤ 1 ∧ q ≤ len ∧ p0 < q ∧ fw = some (1, G', tr) ∧ PX Q T len dr D W q fl it G' ∧ (∀ k x, fm k x = k (x + 1) Gm' trm) ∧ PM R T len D W q fl Gm') ∨
  (∃ s G' Gm', s ≤ len ∧ fw = some (0, G', tr) ∧ Q G' ∧ G' 1 3 = nI s ∧ (∀ k x, fm k x = k (x + 1) Gm' trm) ∧ FM R s Gm')
def upA (D : zA) (k v : Nat) : zA := fun r => match r with
  | 0 => upN (D 0) k v
  | r + 1 => D (r + 1)
section itm
variable {Q R : zMem → Prop} {T : zB} {len dr : Nat} {D : zA} {W : zB} {p p0 fl it : Nat} {G Gm : zMem} {tr trm : Int64}
theorem outI_b {fw : zR} {fm : (Int32 → zMem → Int64 → zR) → Int32 → zR} (h : outI Q R T len dr it p0 fw fm tr trm) : outI Q R T len dr it p0 (zbd fw (fun r G t => zbo r (some (r, G, t)))) fm tr trm := by
  rcases h with ⟨D, W, q, fl, G', Gm', a1, a2, a3, a4, rfl, a6⟩ | ⟨s, G', Gm', a1, rfl, a3⟩
  · exact Or.inl ⟨D, W, q, fl, G', Gm', a1, a2, a3, a4, by rw [zbd_ok, zbo_1], a6⟩
  · exact Or.inr ⟨s, G', Gm', a1, by rw [zbd_ok, zbo_0], a3⟩
theorem outI_b2 {fw : zR} {fm : (Int32 → zMem → Int64 → zR) → Int32 → zR} (h : outI Q R T len dr it p0 fw fm tr trm) : outI Q R T len dr it p0 (zbd fw (fun r G t => if r = 0 then zbo 0 (some (0, G, t)) else zbo 1 (some (1, G, t)))) fm tr trm := by
  rcases h with ⟨D, W, q, fl, G', Gm', a1, a2, a3, a4, rfl, a6⟩ | ⟨s, G', Gm', a1, rfl, a3⟩
  · exact Or.inl ⟨D, W, q, fl, G', Gm', a1, a2, a3, a4, by rw [zbd_ok, if_neg (by decide), zbo_1], a6⟩
  · exact Or.inr ⟨s, G', Gm', a1, by rw [zbd_ok, if_pos rfl, zbo_0], a3⟩
theorem fm_tailF {N s : Nat} (hs : s < 2 ^ 31) (y : FM R s Gm) (k : Int32 → zMem → Int64 → zR) (x : Int32) : fX5_sea_b126 N k x Gm trm = k (x + 1) Gm trm := by
  rw [fX5_sea_b126, fX5_sea_b140, fX5_sea_b140, fm_takeF hs y, fm_takeF hs y, zbd_ok, ite_self]
theorem end_both (hQ : keepQ Q dr) (hR : keepR R) (hdr : 3 ≤ dr) (hl : len ≤ 200) (hT : ∀ i, i < len → T i ≤ 255) {N : Nat} (hN : 1000 < N) (hp : p ≤ len) (hp0 : p0 ≤ p) (hD : okD D W) (hf : fl ≤ 1) (x : PX Q T len dr D W p fl it G) (y : PM R T len D W p fl Gm) : outI Q R T len dr it p0 (fX3_stepsToEnd N G tr) (fun k i => fX5_sea_b126 N k i Gm trm) tr trm := by
  have ts := tk_spec (T := T) hp
  have hk := tk_le (T := T) (len := len) (p := p)
  have a4 := y.2.2.1.2.2.2.1
  obtain ⟨G1, q1, x1, s3⟩ := px_end (tr := tr) hQ hdr hl hT hN hp x
  by_cases hK : tkK T len p = 3
  · obtain ⟨M1, f1, y1⟩ := pm_take1 (tr := trm) hR hl hT hN hp y
    refine Or.inl ⟨D, W, tkQ T len p, fl, G1, M1, hD, hf, ts.2.2.1, ?_, by rw [q1, if_pos hK], x1, fun k i => ?_, y1⟩
    · have := ts.2.2.2.2 (by omega); omega
    · show fX5_sea_b126 N k i Gm trm = _
      rw [fX5_sea_b126, a4, hK, if_pos (show nI 3 = 3 from rfl), fX5_sea_b140, f1, zbd_ok]
  · obtain ⟨M1, f1, y1⟩ := pm_take0 (tr := trm) hR (N := N) y
    refine Or.inr ⟨tkS T len p, G1, M1, ts.2.1, by rw [q1, if_neg hK], x1.1, s3, fun k i => ?_, y1⟩
    show fX5_sea_b126 N k i Gm trm = _
    rw [fX5_sea_b126, a4, if_neg (show ¬ nI (tkK T len p) = 3 from zneI (k := 3) hK (by omega) (by omega)), fX5_sea_b140, f1, zbd_ok]
theorem force_both (hQ : keepQ Q dr) (hR : keepR R) (hdr : 3 ≤ dr) (hl : len ≤ 200) (hT : ∀ i, i < len → T i ≤ 255) {N : Nat} (hN : 1000 < N) (hp : p ≤ len) (hp0 : p0 ≤ p) (hD : okD D W) (x : PX Q T len dr D W p fl it G) (y : PM R T len D W p fl Gm) : outI Q R T len dr it p0 (fX3_readForce N dr G tr) (fun k i => zbd (fX5_readsItem N 102 Gm trm) (fun _ G12 t13 => fX5_sea_b126 N k i G12 t13)) tr trm := by
  have ts := tk_spec (T := T) hp
  obtain ⟨G1, q1, x1, s3, s5⟩ := px_num (tr := tr) hQ hdr hl hT hN hp x (lo := 1) (hi := 6) (by omega) (by omega)
  have q1' : fX3_stepsToNumber N 1 6 G tr = _ := q1
  obtain ⟨m1, m2⟩ := pm_num (tr := trm) hR hl hT hN hp y (lo := 1) (hi := 6) (by omega) (by omega)
  unfold fX3_readForce
  rw [q1', zbd_ok, zb_if]
  by_cases h : tkK T len p = 2 ∧ 1 ≤ tkV T len p ∧ tkV T len p ≤ 6
  · obtain ⟨M1, f1, y1⟩ := m1 h
    have f1' : fX5_number N 1 6 Gm trm = some (nI (tkV T len p), M1, trm) := f1
    rw [if_pos h, zbo_1, s5 h.1]
    obtain ⟨x2, x3, x4, x5, x6, x7⟩ := x1
    obtain ⟨c1, c2, c3, c4, c5, c6, c7, c8, c9⟩ := x4
    have hx : PX Q T len dr (upA D 5 (tkV T len p)) W (tkQ T len p) 1 it (up2 (up2 G1 dr 2 (nI (tkV T len p))) 1 7 1) := by
      refine ⟨hQ _ _ x2 (fun c h1 h2 => by rw [up2_ne _ _ _ h1, up2_ne _ _ _ (by omega)]) (by rw [up2_oth (by omega), up2_ne _ _ _ (by omega)]), ⟨by rw [up2_oth (by omega), up2_ne _ _ _ (by omega)]; exact x3.1, fun i hi => by rw [up2_ne _ _ _ (by omega), up2_ne _ _ _ (by omega)]; exact x3.2 i hi⟩, ⟨?_, ?_, ?_, ?_, ?_, ?_, fun k hk => ?_, fun c hc => ?_, fun k hk => ?_⟩, ?_, ?_, ?_⟩
      · rw [up2_ne _ _ _ (by omega), up2_oth (by omega)]; exact c1
      · rw [up2_ne _ _ _ (by omega), up2_oth (by omega)]; exact c2
      · rw [up2_ne _ _ _ (by omega), up2_get]; rfl
      · rw [up2_ne _ _ _ (by omega), up2_oth (by omega)]; exact c4
      · rw [up2_ne _ _ _ (by omega), up2_oth (by omega)]; exact c5
      · rw [up2_ne _ _ _ (by omega), up2_oth (by omega)]; exact c6
      · rw [up2_ne _ _ _ (by omega), up2_ne _ _ _ (by omega)]; exact c7 k hk
      · rw [up2_ne _ _ _ (by omega), up2_ne _ _ _ (by omega)]; exact c8 c hc
      · rw [up2_ne _ _ _ (by omega), up2_ne _ _ _ (by omega)]; exact c9 k hk
      · rw [up2_oth (by omega), up2_ne _ _ _ (by omega)]; exact x5
      · rw [up2_get]; rfl
      · rw [up2_oth (by omega), up2_ne _ _ _ (by omega)]; exact x7
    obtain ⟨y2, y3, y4, y5⟩ := y1
    obtain ⟨d1, d2, d3, d4⟩ := y3
    obtain ⟨e1, e2, e3, e4, e5, e6, e7⟩ := y4
    have hy : PM R T len (upA D 5 (tkV T len p)) W (tkQ T len p) 1 (up2 (up2 M1 2 11 (nI (tkV T len p))) 0 13 1) := by
      refine ⟨hR _ _ y2 (fun c hc => by rw [up2_ne _ _ _ (by omega), up2_ne _ _ _ (by omega)]) (fun k hk => ⟨by rw [up2_ne _ _ _ (by omega), up2_oth (by omega)], by rw [up2_ne _ _ _ (by omega), up2_ne _ _ _ (by omega)], by rw [up2_ne _ _ _ (by omega), up2_ne _ _ _ (by omega)]⟩) (by rw [up2_oth (by omega), up2_ne _ _ _ (by omega)]) (by rw [up2_oth (by omega), up2_ne _ _ _ (by omega)]), ⟨fun k hk => ?_, fun k hk => ?_, fun k hk => ?_, fun k hk => ?_⟩, ⟨⟨?_, fun i hi => ?_⟩, ?_, ?_, ?_, fun hz => ?_, fun hz => ?_, ?_⟩, up2_get⟩
      · rw [up2_ne _ _ _ (by omega)]
        by_cases hk5 : k = 5
        · subst hk5; rw [up2_get]; rfl
        · rw [up2_oth (by omega), d1 k hk]
          show nI (D 0 k) = nI (upN (D 0) 5 (tkV T len p) k)
          rw [upN, if_neg hk5]
      · rw [up2_ne _ _ _ (by omega), up2_ne _ _ _ (by omega)]; exact d2 k hk
      · rw [up2_ne _ _ _ (by omega), up2_ne _ _ _ (by omega)]; exact d3 k hk
      · rw [up2_ne _ _ _ (by omega), up2_ne _ _ _ (by omega)]; exact d4 k hk
      · rw [up2_oth (by omega), up2_ne _ _ _ (by omega)]; exact e1.1
      · rw [up2_ne _ _ _ (by omega), up2_ne _ _ _ (by omega)]; exact e1.2 i hi
      · rw [up2_oth (by omega), up2_ne _ _ _ (by omega)]; exact e2
      · rw [up2_oth (by omega), up2_ne _ _ _ (by omega)]; exact e3
      · rw [up2_oth (by omega), up2_ne _ _ _ (by omega)]; exact e4
      · rw [up2_oth (by omega), up2_ne _ _ _ (by omega)]; exact e5 hz
      · rw [up2_oth (by omega), up2_ne _ _ _ (by omega)]; exact e6 hz
      · rw [up2_oth (by omega), up2_ne _ _ _ (by omega)]; exact e7
    have hD' : okD (upA D 5 (tkV T len p)) W := by
      obtain ⟨⟨o1, o2, o3, o4, o5, o6, o7, o8, o9, o10⟩, ow⟩ := hD
      exact ⟨⟨o1, o2, o3, o4, o5, o6, o7, h.2.1, h.2.2, o10⟩, ow⟩
    have out := end_both (tr := tr) (trm := trm) (p0 := p0) hQ hR hdr hl hT hN ts.2.2.1 (by omega) hD' (Nat.le_refl 1) hx hy
    have out2 := outI_b out
    have fe : (fun (k : Int32 → zMem → Int64 → zR) i => zbd (fX5_readsItem N 102 Gm trm) (fun _ G12 t13 => fX5_sea_b126 N k i G12 t13)) = fun k i => fX5_sea_b126 N k i (up2 (up2 M1 2 11 (nI (tkV T len p))) 0 13 1) trm := by
      funext k i
      rw [fX5_readsItem, if_neg (by decide), if_neg (by decide), if_neg (by decide), if_neg (by decide), f1', zbd_ok, zin_lit 11 12 (i := 11) rfl (by omega) (by omega), zbo_1]
      rfl
    rw [fe]
    exact out2
  · obtain ⟨M1, f1, y1⟩ := m2 h
    have f1' : fX5_number N 1 6 Gm trm = some (0, M1, trm) := f1
    rw [if_neg h, zbo_0]
    have hy : FM R (tkS T len p) (up2 (up2 M1 2 11 0) 0 13 1) := ⟨hR _ _ y1.1 (fun c hc => by rw [up2_ne _ _ _ (by omega), up2_ne _ _ _ (by omega)]) (fun k hk => ⟨by rw [up2_ne _ _ _ (by omega), up2_oth (by omega)], by rw [up2_ne _ _ _ (by omega), up2_ne _ _ _ (by omega)], by rw [up2_ne _ _ _ (by omega), up2_ne _ _ _ (by omega)]⟩) (by rw [up2_oth (by omega), up2_ne _ _ _ (by omega)]) (by rw [up2_oth (by omega), up2_ne _ _ _ (by omega)]), by rw [up2_oth (by omega), up2_ne _ _ _ (by omega)]; exact y1.2⟩
    refine Or.inr ⟨tkS T len p, G1, up2 (up2 M1 2 11 0) 0 13 1, ts.2.1, rfl, x1.1, s3, fun k i => ?_, hy⟩
    show zbd (fX5_readsItem N 102 Gm trm) (fun _ G12 t13 => fX5_sea_b126 N k i G12 t13) = _
    rw [fX5_readsItem, if_neg (by decide), if_neg (by decide), if_neg (by decide), if_neg (by decide), f1', zbd_ok, zin_lit 11 12 (i := 11) rfl (by omega) (by omega), zbo_1, zbd_ok]
    exact fm_tailF (by omega) hy k i
end itm
