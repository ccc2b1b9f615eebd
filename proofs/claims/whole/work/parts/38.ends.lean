/-! ===== the ends are drawn ===== -/
section eds
variable {D : zA} {W : zB} {G : zMem} {tr : Int64}
theorem fw_beside {t : Nat} (hD : okA D) (h0 : G t 0 = nI (D 0 0)) (h1 : G t 1 = nI (D 0 1)) (N : Nat) {c v : Nat} (hv : v < 4) (hc : c < D 0 0 * D 0 1) : fX0_beside N t (nI c) (nI v) G tr = some (nI (bsS (D 0 0) (D 0 1) v c), G, tr) := by
  have ha := area hD
  have hw := hD.2.1
  have hh := hD.2.2.2.1
  rw [fw_beside_f, h0, h1, bs_x _ (by omega) _ (by omega) _ hv _ (by omega) hD.1 hD.2.2.1 hc]
  rfl
theorem hold_hill {c : Nat} (hi : D 0 2 ≤ 6) : holdV D c = -5 ↔ hillS D c = true := by
  unfold holdV
  cases hh : hillS D c with
  | true => exact ⟨fun _ => rfl, fun _ => rfl⟩
  | false =>
    rw [if_neg (show ¬ (false = true) by decide)]
    refine ⟨fun z => ?_, fun z => by cases z⟩
    cases hs : isleS D c with
    | none => rw [hs] at z; exact absurd z (show ¬ (-9 : Int32) = -5 by decide)
    | some k =>
      rw [hs] at z
      have := (fstS_some hs).1
      exact absurd z (nI_neg (by omega) (by decide))
/-- what is drawn when r steps have been gone -/
def drV (D : zA) (v c r : Nat) : Int32 := if r = 0 then -1 else endV D v r c
theorem way_loop (hD : okA D) {t N v c : Nat} (hN : 1000 < N) (hv : v < 4) (hc : c < D 0 0 * D 0 1) : ∀ (d r n : Nat) (G : zMem), r + d = 5 → d < n → dX D W t G → ∃ G', fX0_drawWay_L8 N t (nI v) (nI c) n (nI (mvS D v r c)) (drV D v c r) (nI (r + 1)) G tr = some (0, G', tr) ∧ (∀ x, x ≠ t + 4 → G' x = G x) ∧ (∀ k, (∀ s, r < s → s ≤ 5 → k ≠ ((s - 1) * 4 + v) * 30 + c) → G' (t + 4) k = G (t + 4) k) ∧ ∀ s, r < s → s ≤ 5 → G' (t + 4) (((s - 1) * 4 + v) * 30 + c) = endV D v s c := by
  have ha := area hD
  have h6 := hD.2.2.2.2.1
  intro d
  induction d with
  | zero =>
    intro r n G hr hn x
    obtain ⟨n, rfl⟩ : ∃ k, n = k + 1 := ⟨n - 1, by omega⟩
    refine ⟨G, ?_, fun _ _ => rfl, fun _ _ => rfl, fun s h1 h2 => by omega⟩
    rw [fX0_drawWay_L8, fX0_drawWay_b8, show (5 : Int32) = nI 5 from rfl, if_pos (nI_lt (by omega) (by omega))]
  | succ d ih =>
    intro r n G hr hn x
    obtain ⟨n, rfl⟩ : ∃ k, n = k + 1 := ⟨n - 1, by omega⟩
    have hm := mv_lt (r := r) hD hv hc
    have hb := bs_lt hD hv hm
    have ix : (nI (r + 1) - 1) * 4 + nI v = nI (r * 4 + v) := by
      rw [show nI (r + 1) - 1 = nI r from nI_pred _, show (4 : Int32) = nI 4 from rfl, pk_mul, nI_add]
    have one : drV D v c (r + 1) = endV D v (r + 1) c := if_neg (by omega)
    obtain ⟨G2, q2, k2, w2, v2⟩ := ih (r + 1) n (up2 G (t + 4) ((r * 4 + v) * 30 + c) (endV D v (r + 1) c)) (by omega) (by omega) (dX_keep x (fun c h1 h2 => up2_ne _ _ _ (by omega)))
    rw [one] at q2
    have e40 : ∀ a, a = nI (mvS D v (r + 1) c) → fX0_drawWay_b40 N t (nI v) (nI c) (fX0_drawWay_L8 N t (nI v) (nI c) n) a (endV D v (r + 1) c) (nI (r + 1)) G tr = some (0, G2, tr) := fun a e => by
      rw [fX0_drawWay_b40, ix, show (30 : Int32) = nI 30 from rfl, pk_mul, nI_add, zin_ok (by omega) (by omega), nI_clamp (by omega), nI_1, e, q2]
    refine ⟨G2, ?_, fun x hx => by rw [k2 x hx, up2_ne _ _ _ hx], fun k hk => ?_, fun s h1 h2 => ?_⟩
    · rw [fX0_drawWay_L8, fX0_drawWay_b8, if_neg (show ¬ (5 : Int32) < nI (r + 1) from (show ¬ nI 5 < nI (r + 1) from nI_nlt (by omega) (by omega))), fw_beside hD x.1 x.2.1 N hv hm, zbd_ok, fw_onCell x.2.2.2.2.2.2.2.1 N tr (by omega), zbd_ok]
      by_cases hh : hillS D (bsS (D 0 0) (D 0 1) v (mvS D v r c)) = true
      · have e1 : mvS D v (r + 1) c = mvS D v r c := by rw [mv_out, stA, if_pos hh]
        have e2 : drV D v c r = endV D v (r + 1) c := by
          unfold drV endV
          by_cases hr0 : r = 0
          · subst hr0; rw [if_pos rfl, if_pos (show hillS D (bsS (D 0 0) (D 0 1) v c) = true from hh)]
          · rw [if_neg hr0, e1]
        rw [if_pos ((hold_hill h6).mpr hh), e2]
        exact e40 _ (by rw [e1])
      · have e1 : mvS D v (r + 1) c = bsS (D 0 0) (D 0 1) v (mvS D v r c) := by rw [mv_out, stA, if_neg hh]
        have e2 : nI (bsS (D 0 0) (D 0 1) v (mvS D v r c)) = endV D v (r + 1) c := by
          unfold endV
          have h0 : ¬ hillS D (bsS (D 0 0) (D 0 1) v c) = true := fun z => by
            have : stA D v c = c := by rw [stA, if_pos z]
            rw [mv_stay this r] at hh
            exact hh z
          rw [if_neg h0, e1]
        rw [if_neg (fun z => hh ((hold_hill h6).mp z))]
        rw [e2]
        exact e40 _ (by rw [← e2, e1])
    · rw [w2 k (fun s a b => hk s (by omega) b), up2_oth (by have := hk (r + 1) (by omega) (by omega); rw [show r + 1 - 1 = r by omega] at this; exact this)]
    · by_cases hs : s = r + 1
      · subst hs
        rw [show r + 1 - 1 = r by omega, w2 _ (fun s a b => by omega), up2_get]
      · exact v2 s (by omega) h2
theorem fw_way (hD : okA D) {t N v c : Nat} (hN : 1000 < N) (hv : v < 4) (hc : c < D 0 0 * D 0 1) (x : dX D W t G) : ∃ G', fX0_drawWay N t (nI v) (nI c) G tr = some (0, G', tr) ∧ (∀ x, x ≠ t + 4 → G' x = G x) ∧ (∀ k, (∀ s, 0 < s → s ≤ 5 → k ≠ ((s - 1) * 4 + v) * 30 + c) → G' (t + 4) k = G (t + 4) k) ∧ ∀ s, 0 < s → s ≤ 5 → G' (t + 4) (((s - 1) * 4 + v) * 30 + c) = endV D v s c :=
  way_loop (tr := tr) hD hN hv hc 5 0 N G (by omega) (by omega) x
/-- drawn so far: all ways before v, and of v the cells before c -/
def drawn (D : zA) (t v c : Nat) (G : zMem) : Prop := ∀ v' c' s, v' < 4 → c' < D 0 0 * D 0 1 → (v' < v ∨ v' = v ∧ c' < c) → 0 < s → s ≤ 5 → G (t + 4) (((s - 1) * 4 + v') * 30 + c') = endV D v' s c'
theorem ends_cells (hD : okA D) {t N v : Nat} (hN : 1000 < N) (hv : v < 4) (k2 : Int32 → zMem → Int64 → zR) : ∀ (d c n : Nat) (G : zMem), c + d = D 0 0 * D 0 1 → d < n → dX D W t G → drawn D t v c G → ∃ G', fX0_drawEnds_L9 N t k2 n (nI v) (nI c) G tr = k2 (nI (v + 1)) G' tr ∧ (∀ x, x ≠ t + 4 → G' x = G x) ∧ drawn D t (v + 1) 0 G' := by
  have ha := area hD
  intro d
  induction d with
  | zero =>
    intro c n G hc hn x dr
    obtain ⟨n, rfl⟩ : ∃ k, n = k + 1 := ⟨n - 1, by omega⟩
    refine ⟨G, ?_, fun _ _ => rfl, fun v' c' s h1 h2 h3 h4 h5 => dr v' c' s h1 h2 (by omega) h4 h5⟩
    rw [fX0_drawEnds_L9, fX0_drawEnds_b9, fw_cells hD x.1 x.2.1, zbd_ok, if_pos (nI_le (by omega) (by omega)), nI_1]
  | succ d ih =>
    intro c n G hc hn x dr
    obtain ⟨n, rfl⟩ : ∃ k, n = k + 1 := ⟨n - 1, by omega⟩
    obtain ⟨G1, q1, w1, o1, e1⟩ := fw_way (tr := tr) hD hN hv (show c < D 0 0 * D 0 1 by omega) x
    obtain ⟨G2, q2, w2, d2⟩ := ih (c + 1) n G1 (by omega) (by omega) (dX_keep x (fun c h1 h2 => w1 c (by omega))) (fun v' c' s h1 h2 h3 h4 h5 => by
      by_cases hvc : v' = v ∧ c' = c
      · rw [hvc.1, hvc.2]; exact e1 s h4 h5
      · rw [o1 _ (fun s' a b z => by omega)]
        exact dr v' c' s h1 h2 (by omega) h4 h5)
    refine ⟨G2, ?_, fun x hx => by rw [w2 x hx, w1 x hx], d2⟩
    rw [fX0_drawEnds_L9, fX0_drawEnds_b9, fw_cells hD x.1 x.2.1, zbd_ok, if_neg (nI_ge (by omega) (by omega)), q1, zbd_ok, nI_1, q2]
theorem ends_ways (hD : okA D) {t N : Nat} (hN : 1000 < N) : ∀ (d v n : Nat) (G : zMem), v + d = 4 → d < n → dX D W t G → drawn D t v 0 G → ∃ G', fX0_drawEnds_L2 N t n (nI v) G tr = some (0, G', tr) ∧ (∀ x, x ≠ t + 4 → G' x = G x) ∧ drawn D t 4 0 G' := by
  have ha := area hD
  intro d
  induction d with
  | zero =>
    intro v n G hv hn x dr
    obtain ⟨n, rfl⟩ : ∃ k, n = k + 1 := ⟨n - 1, by omega⟩
    refine ⟨G, ?_, fun _ _ => rfl, by rw [← show v = 4 by omega]; exact dr⟩
    rw [fX0_drawEnds_L2, fX0_drawEnds_b2, show (4 : Int32) = nI 4 from rfl, if_pos (nI_le (by omega) (by omega))]
  | succ d ih =>
    intro v n G hv hn x dr
    obtain ⟨n, rfl⟩ : ∃ k, n = k + 1 := ⟨n - 1, by omega⟩
    obtain ⟨G1, q1, w1, d1⟩ := ends_cells (tr := tr) hD hN (show v < 4 by omega) (fX0_drawEnds_L2 N t n) (D 0 0 * D 0 1) 0 N G (by omega) (by omega) x dr
    obtain ⟨G2, q2, w2, d2⟩ := ih (v + 1) n G1 (by omega) (by omega) (dX_keep x (fun c h1 h2 => w1 c (by omega))) d1
    have q1' : fX0_drawEnds_L9 N t (fX0_drawEnds_L2 N t n) N (nI v) 0 G tr = fX0_drawEnds_L2 N t n (nI (v + 1)) G1 tr := q1
    refine ⟨G2, ?_, fun x hx => by rw [w2 x hx, w1 x hx], d2⟩
    rw [fX0_drawEnds_L2, fX0_drawEnds_b2, show (4 : Int32) = nI 4 from rfl, if_neg (nI_ge (by omega) (by omega)), q1', q2]
theorem fw_ends (hD : okA D) {t N : Nat} (hN : 1000 < N) (x : dX D W t G) : ∃ G', fX0_drawEnds N t G tr = some (0, G', tr) ∧ (∀ x, x ≠ t + 4 → G' x = G x) ∧ gX D G' t := by
  obtain ⟨G1, q1, w1, d1⟩ := ends_ways (tr := tr) hD hN 4 0 N G (by omega) (by omega) x (fun v' c' s h1 h2 h3 => by omega)
  obtain ⟨c1, c2, c3, c4, c5, c6, c7, c8, c9⟩ := dX_keep x (G' := G1) (fun c h1 h2 => w1 c (by omega))
  exact ⟨G1, q1, w1, c1, c2, c3, c4, c5, c7, c8, fun v hv c hc r h1 h2 => d1 v c r hv hc (by omega) (by omega) h2⟩
end eds
