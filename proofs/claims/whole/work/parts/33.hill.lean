/-! ===== reading a chart: a hill ===== -/
section hil
variable {Q R : zMem → Prop} {T : zB} {len dr : Nat} {D D' : zA} {W W' : zB} {p p0 fl it : Nat} {G G' Gm Gm' : zMem} {tr trm : Int64}
theorem hill_both (hQ : keepQ Q dr) (hR : keepR R) (hdr : 3 ≤ dr) (hl : len ≤ 200) (hT : ∀ i, i < len → T i ≤ 255) {N : Nat} (hN : 1000 < N) (hp : p ≤ len) (hp0 : p0 ≤ p) (hD : okD D W) (hn : D 0 3 < 6) (hfl : fl ≤ 1) (x : PX Q T len dr D W p fl it G) (y : PM R T len D W p fl Gm) : outI Q R T len dr it p0 (fX3_readHill N dr G tr) (fun k i => zbd (fX5_readsItem N 120 Gm trm) (fun _ G12 t13 => fX5_sea_b126 N k i G12 t13)) tr trm := by
  have ts := tk_spec (T := T) hp
  have ha := area hD.1
  have hkk := tk_le (T := T) (len := len) (p := p)
  have a4 := y.2.2.1.2.2.2.1
  have a6 := y.2.2.1.2.2.2.2.2.1
  have e8 : Gm 2 9 = nI (D 0 3) := y.2.1.1 3 (by omega)
  obtain ⟨G1, q1, x1, s3, s5⟩ := px_num (tr := tr) hQ hdr hl hT hN hp x (lo := 0) (hi := D 0 0 * D 0 1 - 1) (by omega) (by omega)
  have q1' : fX3_stepsToNumber N 0 (nI (D 0 0 * D 0 1 - 1)) G tr = _ := q1
  -- the reference's fault
  obtain ⟨M0, f0, y0, k0⟩ := pm_take0' (trm := trm) hR (N := N) y
  have h8 : M0 2 9 = nI (D 0 3) := by rw [k0 2 (by omega)]; exact e8
  have f2 : FM R (tkS T len p) (up2 (up2 M0 4 (6 + D 0 3) 0) 2 9 (nI (D 0 3 + 1))) := fm_sc hR y0 (fun c h => by rw [up2_ne _ _ _ (by omega), up2_ne _ _ _ (by omega)]) (fun i hi => ⟨by rw [up2_oth (by omega), up2_ne _ _ _ (by omega)], by rw [up2_ne _ _ _ (by omega), up2_ne _ _ _ (by omega)], by rw [up2_ne _ _ _ (by omega), up2_oth (by omega)]⟩)
  have bad : ∀ (k : Int32 → zMem → Int64 → zR) i, zbd (fX5_readsItem_b143 N 120 (6 + Gm 2 (Int32.toNatClampNeg 9)) Gm trm) (fun _ G12 t13 => fX5_sea_b126 N k i G12 t13) = k (i + 1) (up2 (up2 M0 4 (6 + D 0 3) 0) 2 9 (nI (D 0 3 + 1))) trm := fun k i => by
    rw [fX5_readsItem_b143, fX5_readsItem_b144, f0, zbd_ok, show Int32.toNatClampNeg 9 = 9 from rfl, e8, show (6 : Int32) = nI 6 from rfl, nI_add, zin_ok (by omega) (by omega), zin_lit 9 12 (i := 9) rfl (by omega) (by omega), zin_lit 9 12 (i := 9) rfl (by omega) (by omega), nI_clamp (by omega), up2_ne _ _ _ (by omega), h8, nI_1, zbd_ok]
    exact fm_tailF (by omega) f2 k i
  have bad' : zbd (fX5_readsItem N 120 Gm trm) = zbd (fX5_readsItem_b143 N 120 (6 + Gm 2 (Int32.toNatClampNeg 9)) Gm trm) → ∀ G', Q G' → G' 1 3 = nI (tkS T len p) → outI Q R T len dr it p0 (some (0, G', tr)) (fun k i => zbd (fX5_readsItem N 120 Gm trm) (fun _ G12 t13 => fX5_sea_b126 N k i G12 t13)) tr trm := fun he G' h1 h2 =>
    Or.inr ⟨tkS T len p, G', _, ts.2.1, rfl, h1, h2, fun k i => by show zbd (fX5_readsItem N 120 Gm trm) (fun _ G12 t13 => fX5_sea_b126 N k i G12 t13) = _; rw [he]; exact bad k i, f2⟩
  unfold fX3_readHill
  rw [fw_cells hD.1 x.2.2.1.1 x.2.2.1.2.1, zbd_ok, show nI (D 0 0 * D 0 1) - 1 = nI (D 0 0 * D 0 1 - 1) from pk_sub (b := 1) (by omega), q1', zbd_ok, zb_if]
  by_cases hK : tkK T len p = 2
  · have hv := tk_v hK
    have hfr := fm_isFree (tr := trm) hD.1 y.2.1 (v := tkV T len p) (by omega) hN
    by_cases hlt : tkV T len p < D 0 0 * D 0 1
    · rw [if_pos ((free_num hD.1 hK).mpr hlt), s5 hK, fw_onCell x1.2.2.1.2.2.2.2.2.2.2.1 N tr (by omega), zbd_ok]
      by_cases h9 : holdV D (tkV T len p) = -9
      · obtain ⟨M1, f1, y1⟩ := pm_take1 (tr := trm) hR hl hT hN hp y
        rw [a6 hK] at f1
        have hfree := (hold_free hD.1.2.2.2.2.1).mp h9
        obtain ⟨c1, c2, c3, c4, c5, c6, c7, c8, c9⟩ := x1.2.2.1
        have x2 := px_dr hQ hdr x1 (D' := adH D (tkV T len p)) (W' := W) (G' := up2 (up2 G1 (dr + 2) (tkV T len p) (-5)) dr 4 (nI (D 0 3 + 1))) (fun c h => by rw [up2_ne _ _ _ (by omega), up2_ne _ _ _ (by omega)]) (by
          refine ⟨?_, ?_, ?_, ?_, ?_, ?_, fun k hk => ?_, fun c hc => ?_, fun k hk => ?_⟩
          · rw [up2_oth (by omega), up2_ne _ _ _ (by omega)]; exact c1
          · rw [up2_oth (by omega), up2_ne _ _ _ (by omega)]; exact c2
          · rw [up2_oth (by omega), up2_ne _ _ _ (by omega)]; exact c3
          · rw [up2_oth (by omega), up2_ne _ _ _ (by omega)]; exact c4
          · rw [up2_get]; rfl
          · rw [up2_oth (by omega), up2_ne _ _ _ (by omega)]; exact c6
          · rw [up2_ne _ _ _ (by omega), up2_ne _ _ _ (by omega)]; exact c7 k hk
          · rw [up2_ne _ _ _ (by omega), hold_adH]
            by_cases hcv : c = tkV T len p
            · rw [hcv, up2_get, if_pos rfl]
            · rw [up2_oth hcv, if_neg hcv]; exact c8 c hc
          · rw [up2_ne _ _ _ (by omega), up2_ne _ _ _ (by omega)]; exact c9 k hk)
        obtain ⟨d1, d2, d3, d4⟩ := y1.2.1
        have h8 : M1 2 9 = nI (D 0 3) := d1 3 (by omega)
        have y2 := pm_sc hR y1 (D' := adH D (tkV T len p)) (W' := W) (Gm' := up2 (up2 M1 4 (6 + D 0 3) (nI (tkV T len p))) 2 9 (nI (D 0 3 + 1))) (fun c h => by rw [up2_ne _ _ _ (by omega), up2_ne _ _ _ (by omega)]) (fun i hi => ⟨by rw [up2_oth (by omega), up2_ne _ _ _ (by omega)], by rw [up2_ne _ _ _ (by omega), up2_ne _ _ _ (by omega)], by rw [up2_ne _ _ _ (by omega), up2_oth (by omega)]⟩) (by
          refine ⟨fun k hk => ?_, fun k hk => ?_, fun k hk => ?_, fun k hk => ?_⟩
          · show _ = nI (upN (D 0) 3 (D 0 3 + 1) k)
            unfold upN
            by_cases hk2 : k = 3
            · subst hk2; rw [up2_get, if_pos rfl]
            · rw [up2_oth (by omega), if_neg hk2, up2_ne _ _ _ (by omega)]; exact d1 k hk
          · rw [up2_ne _ _ _ (by omega), up2_ne _ _ _ (by omega)]; exact d2 k hk
          · have hk' : k < D 0 3 + 1 := hk
            rw [up2_ne _ _ _ (by omega)]
            show _ = nI (upN (D 2) (D 0 3) (tkV T len p) k)
            unfold upN
            by_cases hkn : k = D 0 3
            · rw [hkn, up2_get, if_pos rfl]
            · rw [up2_oth (by omega), if_neg hkn]; exact d3 k (by omega)
          · rw [up2_ne _ _ _ (by omega), up2_ne _ _ _ (by omega)]; exact d4 k hk)
        have out := outI_b (end_both (tr := tr) (trm := trm) (p0 := p0) hQ hR hdr hl hT hN ts.2.2.1 (by omega) (show okD (adH D (tkV T len p)) W from ⟨okA_adH hD.1 hn hlt hfree.2, hD.2⟩) hfl x2 y2)
        have fe : (fun (k : Int32 → zMem → Int64 → zR) i => zbd (fX5_readsItem N 120 Gm trm) (fun _ G12 t13 => fX5_sea_b126 N k i G12 t13)) = fun k i => fX5_sea_b126 N k i (up2 (up2 M1 4 (6 + D 0 3) (nI (tkV T len p))) 2 9 (nI (D 0 3 + 1))) trm := by
          funext k i
          rw [fX5_readsItem, if_neg (by decide), if_neg (by decide), if_pos rfl, zin_lit 9 12 (i := 9) rfl (by omega) (by omega), a4, hK, if_pos (show nI 2 = 2 from rfl), a6 hK, hfr, zbd_ok, zb_if, if_pos (show tkV T len p < D 0 0 * D 0 1 ∧ holdV D (tkV T len p) = -9 from ⟨hlt, h9⟩), show Int32.toNatClampNeg 9 = 9 from rfl, e8, show (6 : Int32) = nI 6 from rfl, nI_add, fX5_readsItem_b144, f1, zbd_ok, zin_ok (by omega) (by omega), zin_lit 9 12 (i := 9) rfl (by omega) (by omega), zin_lit 9 12 (i := 9) rfl (by omega) (by omega), show Int32.toNatClampNeg 9 = 9 from rfl, nI_clamp (by omega), up2_ne _ _ _ (by omega), h8, nI_1, zbd_ok]
        have fw : fX0_addHill N dr (nI (tkV T len p)) G1 tr = some (0, up2 (up2 G1 (dr + 2) (tkV T len p) (-5)) dr 4 (nI (D 0 3 + 1)), tr) := by
          unfold fX0_addHill
          rw [if_neg (nI_pos (by omega)), show (30 : Int32) = nI 30 from rfl, if_pos (nI_lt (by omega) (by omega)), zin_ok (by omega) (by omega), nI_clamp (by omega), up2_ne _ _ _ (by omega), c5, nI_1]
        rw [if_pos h9, s5 hK, fw, zbd_ok, fe]
        exact out
      · rw [if_neg h9, zbo_0]
        refine bad' ?_ G1 x1.1 s3
        rw [fX5_readsItem, if_neg (by decide), if_neg (by decide), if_pos rfl, zin_lit 9 12 (i := 9) rfl (by omega) (by omega), a4, hK, if_pos (show nI 2 = 2 from rfl), a6 hK, hfr, zbd_ok, zb_if, if_neg (show ¬ (tkV T len p < D 0 0 * D 0 1 ∧ holdV D (tkV T len p) = -9) from fun z => h9 z.2)]
    · rw [if_neg (fun z => hlt ((free_num hD.1 hK).mp z)), zbo_0]
      refine bad' ?_ G1 x1.1 s3
      rw [fX5_readsItem, if_neg (by decide), if_neg (by decide), if_pos rfl, zin_lit 9 12 (i := 9) rfl (by omega) (by omega), a4, hK, if_pos (show nI 2 = 2 from rfl), a6 hK, hfr, zbd_ok, zb_if, if_neg (show ¬ (tkV T len p < D 0 0 * D 0 1 ∧ holdV D (tkV T len p) = -9) from fun z => hlt z.1)]
  · rw [if_neg (fun z => hK z.1), zbo_0]
    refine bad' ?_ G1 x1.1 s3
    rw [fX5_readsItem, if_neg (by decide), if_neg (by decide), if_pos rfl, zin_lit 9 12 (i := 9) rfl (by omega) (by omega), a4, if_neg (show ¬ nI (tkK T len p) = 2 from zneI (k := 2) hK (by omega) (by omega))]
end hil
