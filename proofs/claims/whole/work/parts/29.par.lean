/-! ===== reading a chart: steps ===== -/
def dX (D : zA) (W : zB) (dr : Nat) (G : zMem) : Prop := G dr 0 = nI (D 0 0) ∧ G dr 1 = nI (D 0 1) ∧ G dr 2 = nI (D 0 5) ∧ G dr 3 = nI (D 0 2) ∧ G dr 4 = nI (D 0 3) ∧ G dr 5 = nI (D 0 4) ∧ (∀ k, k < D 0 2 → G (dr + 1) k = nI (D 1 k)) ∧ (∀ c, c < 30 → G (dr + 2) c = holdV D c) ∧ ∀ k, k < D 0 4 → G (dr + 3) k = nI (W k)
def dM (D : zA) (W : zB) (G : zMem) : Prop := (∀ k, k < 6 → G 2 (6 + k) = nI (D 0 k)) ∧ (∀ k, k < D 0 2 → G 3 (6 + k) = nI (D 1 k)) ∧ (∀ k, k < D 0 3 → G 4 (6 + k) = nI (D 2 k)) ∧ ∀ k, k < D 0 4 → G 5 k = nI (W k)
def adM (T : zB) (len p : Nat) (G : zMem) : Prop := txM T len G ∧ G 0 4 = nI (tkQ T len p) ∧ G 0 6 = nI (tkS T len p) ∧ G 0 5 = nI (tkK T len p) ∧ (tkK T len p = 1 → G 0 7 = nI (T (tkS T len p))) ∧ (tkK T len p = 2 → G 0 7 = nI (tkV T len p)) ∧ G 0 8 = -1
def okD (D : zA) (W : zB) : Prop := okA D ∧ ∀ k, k < D 0 4 → W k ≤ 4
def PX (Q : zMem → Prop) (T : zB) (len dr : Nat) (D : zA) (W : zB) (p fl it : Nat) (G : zMem) : Prop := Q G ∧ txX T len G ∧ dX D W dr G ∧ G 1 2 = nI p ∧ G 1 7 = nI fl ∧ G 1 6 = nI it
def PM (R : zMem → Prop) (T : zB) (len : Nat) (D : zA) (W : zB) (p fl : Nat) (G : zMem) : Prop := R G ∧ dM D W G ∧ adM T len p G ∧ G 0 13 = nI fl
def keepQ (Q : zMem → Prop) (dr : Nat) : Prop := ∀ G G', Q G → (∀ c, c ≠ 1 → (c < dr ∨ dr + 4 < c) → G' c = G c) → G' 1 0 = G 1 0 → Q G'
def keepR (R : zMem → Prop) : Prop := ∀ G G', R G → (∀ c, (6 ≤ c ∨ c = 1) → G' c = G c) → (∀ k, k < 6 → G' 2 k = G 2 k ∧ G' 3 k = G 3 k ∧ G' 4 k = G 4 k) → G' 0 3 = G 0 3 → G' 0 18 = G 0 18 → R G'
theorem dX_keep {D : zA} {W : zB} {dr : Nat} {G G' : zMem} (h : dX D W dr G) (k : ∀ c, dr ≤ c → c ≤ dr + 3 → G' c = G c) : dX D W dr G' := by
  unfold dX
  rw [k dr (by omega) (by omega), k (dr + 1) (by omega) (by omega), k (dr + 2) (by omega) (by omega), k (dr + 3) (by omega) (by omega)]
  exact h
theorem tk_v {T : zB} {len p : Nat} (h : tkK T len p = 2) : tkV T len p ≤ 29 := by
  unfold tkK at h
  apply Classical.byContradiction
  intro hn
  rw [if_pos (show 29 < tkV T len p by omega)] at h
  split at h
  · omega
  · split at h
    · omega
    · split at h
      · omega
      · split at h <;> omega
theorem tk_le {T : zB} {len p : Nat} : tkK T len p ≤ 4 := by
  unfold tkK
  split
  · omega
  · split
    · split
      · omega
      · split
        · split <;> omega
        · omega
    · split
      · omega
      · split <;> omega
section par
variable {Q R : zMem → Prop} {T : zB} {len dr : Nat} {D : zA} {W : zB} {p fl it : Nat} {G Gm : zMem} {tr : Int64}
theorem px_step (hQ : keepQ Q dr) (hdr : 3 ≤ dr) (hl : len ≤ 200) (hT : ∀ i, i < len → T i ≤ 255) {N : Nat} (hN : 1000 < N) (hp : p ≤ len) (x : PX Q T len dr D W p fl it G) : ∃ G', fX3_step N G tr = some (0, G', tr) ∧ PX Q T len dr D W (tkQ T len p) fl it G' ∧ G' 1 3 = nI (tkS T len p) ∧ G' 1 4 = kX (tkK T len p) (T (tkS T len p)) ∧ (tkK T len p = 2 → G' 1 5 = nI (tkV T len p)) := by
  obtain ⟨G1, q1, s1, s2, s3, s4, s5, s6, s7⟩ := fw_step (tr := tr) hl hT hN hp x.2.1 x.2.2.2.1
  refine ⟨G1, q1, ⟨hQ G G1 x.1 (fun c h1 _ => s7 c h1) (by rw [s1.1, x.2.1.1]), s1, dX_keep x.2.2.1 (fun c h1 _ => s7 c (by omega)), s2, ?_, ?_⟩, s3, s4, s5⟩
  · rw [s6 7 (by omega)]; exact x.2.2.2.2.1
  · rw [s6 6 (by omega)]; exact x.2.2.2.2.2
theorem kX_num {K c : Nat} (hK : K ≤ 4) (hc : c ≤ 255) : kX K c = 256 ↔ K = 2 := by
  rcases (show K = 0 ∨ K = 1 ∨ K = 2 ∨ K = 3 ∨ K = 4 by omega) with rfl | rfl | rfl | rfl | rfl
  · exact ⟨fun z => absurd z (show ¬ (257 : Int32) = 256 by decide), fun z => by omega⟩
  · exact ⟨fun z => absurd z (show ¬ nI c = nI 256 from zneI (by omega) (by omega) (by omega)), fun z => by omega⟩
  · exact ⟨fun _ => rfl, fun _ => rfl⟩
  · exact ⟨fun z => absurd z (show ¬ (59 : Int32) = 256 by decide), fun z => by omega⟩
  · exact ⟨fun z => absurd z (show ¬ (258 : Int32) = 256 by decide), fun z => by omega⟩
theorem kX_semi {K c : Nat} (hK : K ≤ 4) (hc : c ≤ 255) (h1 : K = 1 → c ≠ 59) : kX K c = 59 ↔ K = 3 := by
  rcases (show K = 0 ∨ K = 1 ∨ K = 2 ∨ K = 3 ∨ K = 4 by omega) with rfl | rfl | rfl | rfl | rfl
  · exact ⟨fun z => absurd z (show ¬ (257 : Int32) = 59 by decide), fun z => by omega⟩
  · exact ⟨fun z => absurd z (show ¬ nI c = nI 59 from zneI (h1 rfl) (by omega) (by omega)), fun z => by omega⟩
  · exact ⟨fun z => absurd z (show ¬ (256 : Int32) = 59 by decide), fun z => by omega⟩
  · exact ⟨fun _ => rfl, fun _ => rfl⟩
  · exact ⟨fun z => absurd z (show ¬ (258 : Int32) = 59 by decide), fun z => by omega⟩
/-- a sign's letter -/
theorem tk_1 {T : zB} {len p : Nat} (h : tkK T len p = 1) : T (tkS T len p) = 103 ∨ T (tkS T len p) = 105 ∨ T (tkS T len p) = 120 ∨ T (tkS T len p) = 98 ∨ T (tkS T len p) = 102 := by
  unfold tkK at h
  split at h
  · omega
  · split at h
    · split at h
      · omega
      · split at h
        · split at h <;> omega
        · omega
    · split at h
      · omega
      · split at h
        · assumption
        · omega
theorem tk_T (hT : ∀ i, i < len → T i ≤ 255) (hp : p ≤ len) (h : tkK T len p ≠ 0) : T (tkS T len p) ≤ 255 := by
  have ts := tk_spec (T := T) hp
  have := ts.2.2.2.2 h
  exact hT _ (by omega)
theorem px_num (hQ : keepQ Q dr) (hdr : 3 ≤ dr) (hl : len ≤ 200) (hT : ∀ i, i < len → T i ≤ 255) {N : Nat} (hN : 1000 < N) (hp : p ≤ len) (x : PX Q T len dr D W p fl it G) {lo hi : Nat} (hlo : lo < 1000) (hhi : hi < 1000) : ∃ G', fX3_stepsToNumber N (nI lo) (nI hi) G tr = some (if tkK T len p = 2 ∧ lo ≤ tkV T len p ∧ tkV T len p ≤ hi then 1 else 0, G', tr) ∧ PX Q T len dr D W (tkQ T len p) fl it G' ∧ G' 1 3 = nI (tkS T len p) ∧ (tkK T len p = 2 → G' 1 5 = nI (tkV T len p)) := by
  obtain ⟨G1, q1, x1, s3, s4, s5⟩ := px_step (tr := tr) hQ hdr hl hT hN hp x
  refine ⟨G1, ?_, x1, s3, s5⟩
  unfold fX3_stepsToNumber
  rw [q1, zbd_ok, s4]
  by_cases hK : tkK T len p = 2
  · have hv := tk_v hK
    rw [hK, if_pos (show kX 2 _ = 256 from rfl), s5 hK, fw_within, zbp_ok, zb_if]
    by_cases h : lo ≤ tkV T len p ∧ tkV T len p ≤ hi
    · rw [if_pos (show nI lo ≤ nI (tkV T len p) ∧ nI (tkV T len p) ≤ nI hi from ⟨nI_le h.1 (by omega), nI_le h.2 (by omega)⟩), if_pos ⟨rfl, h⟩, zbo_1]
    · rw [if_neg (show ¬ (nI lo ≤ nI (tkV T len p) ∧ nI (tkV T len p) ≤ nI hi) from fun z => h ⟨Classical.byContradiction (fun w => nI_ge (by omega) (by omega) z.1), Classical.byContradiction (fun w => nI_ge (by omega) (by omega) z.2)⟩), if_neg (fun z => h z.2), zbo_0]
  · have hk : ¬ kX (tkK T len p) (T (tkS T len p)) = 256 := by
      by_cases h0 : tkK T len p = 0
      · rw [h0]; exact (show ¬ (257 : Int32) = 256 by decide)
      · exact fun z => hK ((kX_num tk_le (tk_T hT hp h0)).mp z)
    rw [if_neg hk, if_neg (fun z => hK z.1), zbo_0]
theorem px_end (hQ : keepQ Q dr) (hdr : 3 ≤ dr) (hl : len ≤ 200) (hT : ∀ i, i < len → T i ≤ 255) {N : Nat} (hN : 1000 < N) (hp : p ≤ len) (x : PX Q T len dr D W p fl it G) : ∃ G', fX3_stepsToEnd N G tr = some (if tkK T len p = 3 then 1 else 0, G', tr) ∧ PX Q T len dr D W (tkQ T len p) fl it G' ∧ G' 1 3 = nI (tkS T len p) := by
  obtain ⟨G1, q1, x1, s3, s4, s5⟩ := px_step (tr := tr) hQ hdr hl hT hN hp x
  refine ⟨G1, ?_, x1, s3⟩
  unfold fX3_stepsToEnd
  rw [q1, zbd_ok, s4]
  by_cases hK : tkK T len p = 3
  · rw [hK, if_pos (show kX 3 _ = 59 from rfl), if_pos rfl, zbo_1]
  · have hk : ¬ kX (tkK T len p) (T (tkS T len p)) = 59 := by
      by_cases h0 : tkK T len p = 0
      · rw [h0]; exact (show ¬ (257 : Int32) = 59 by decide)
      · exact fun z => hK ((kX_semi tk_le (tk_T hT hp h0) (fun h => by have := tk_1 h; omega)).mp z)
    rw [if_neg hk, if_neg hK, zbo_0]
/-! the reference's -/
def FM (R : zMem → Prop) (s : Nat) (G : zMem) : Prop := R G ∧ G 0 8 = nI s
theorem pm_well {N : Nat} (y : PM R T len D W p fl Gm) : fX5_isWell N Gm tr = some (1, Gm, tr) := by
  unfold fX5_isWell
  rw [y.2.2.1.2.2.2.2.2.2, if_neg (by decide), zbo_1]
theorem fm_ill {N s : Nat} (hs : s < 2 ^ 31) (y : FM R s Gm) : fX5_isWell N Gm tr = some (0, Gm, tr) := by
  unfold fX5_isWell
  rw [y.2, if_pos (nI_pos' hs), zbo_0]
theorem fm_takeF {N s : Nat} (hs : s < 2 ^ 31) (y : FM R s Gm) (a : Int32) : fX5_takes N a Gm tr = some (0, Gm, tr) := by
  unfold fX5_takes
  rw [fm_ill hs y, zbd_ok, if_pos rfl]
theorem pm_take0 (hR : keepR R) {N : Nat} (y : PM R T len D W p fl Gm) : ∃ G', fX5_takes N 0 Gm tr = some (0, G', tr) ∧ FM R (tkS T len p) G' := by
  unfold fX5_takes
  rw [pm_well y, zbd_ok, if_neg (by decide), if_pos rfl]
  refine ⟨_, rfl, hR _ _ y.1 (fun c hc => up2_ne _ _ _ (by omega)) (fun k hk => ⟨by rw [up2_ne _ _ _ (by omega)], by rw [up2_ne _ _ _ (by omega)], by rw [up2_ne _ _ _ (by omega)]⟩) (up2_oth (by omega)) (up2_oth (by omega)), ?_⟩
  rw [up2_get]; exact y.2.2.1.2.2.1
theorem dM_keep (h : dM D W G) {G' : zMem} (k : ∀ c, c ≠ 0 → G' c = G c) : dM D W G' := by
  unfold dM
  rw [k 2 (by omega), k 3 (by omega), k 4 (by omega), k 5 (by omega)]
  exact h
theorem pm_take1 (hR : keepR R) (hl : len ≤ 200) (hT : ∀ i, i < len → T i ≤ 255) {N : Nat} (hN : 1000 < N) (hp : p ≤ len) (y : PM R T len D W p fl Gm) : ∃ G', fX5_takes N 1 Gm tr = some (Gm 0 7, G', tr) ∧ PM R T len D W (tkQ T len p) fl G' := by
  obtain ⟨y1, y2, y3, y4⟩ := id y
  obtain ⟨a1, a2, a3, a4, a5, a6, a7⟩ := y3
  have hq := (tk_spec (T := T) hp).2.2.1
  obtain ⟨G1, q1, s1, s2, s3, s4, s5, s6, s7, s8⟩ := fm_adv (tr := tr) hl hT hN hq a1 a2
  refine ⟨G1, ?_, hR Gm G1 y1 (fun c hc => s8 c (by omega)) (fun k hk => ⟨by rw [s8 2 (by omega)], by rw [s8 3 (by omega)], by rw [s8 4 (by omega)]⟩) (s7 3 (by omega)) (s7 18 (by omega)), dM_keep y2 s8, ⟨s1, s2, s3, s4, s5, s6, by rw [s7 8 (by omega)]; exact a7⟩, by rw [s7 13 (by omega)]; exact y4⟩
  unfold fX5_takes
  rw [pm_well y, zbd_ok, if_neg (by decide), if_neg (show ¬ (1 : Int32) = 0 by decide), q1, zbd_ok]
theorem pm_num (hR : keepR R) (hl : len ≤ 200) (hT : ∀ i, i < len → T i ≤ 255) {N : Nat} (hN : 1000 < N) (hp : p ≤ len) (y : PM R T len D W p fl Gm) {lo hi : Nat} (hlo : lo < 1000) (hhi : hi < 1000) :
    (tkK T len p = 2 ∧ lo ≤ tkV T len p ∧ tkV T len p ≤ hi → ∃ G', fX5_number N (nI lo) (nI hi) Gm tr = some (nI (tkV T len p), G', tr) ∧ PM R T len D W (tkQ T len p) fl G') ∧ (¬ (tkK T len p = 2 ∧ lo ≤ tkV T len p ∧ tkV T len p ≤ hi) → ∃ G', fX5_number N (nI lo) (nI hi) Gm tr = some (0, G', tr) ∧ FM R (tkS T len p) G') := by
  have a4 := y.2.2.1.2.2.2.1
  have a6 := y.2.2.1.2.2.2.2.2.1
  have hk := tk_le (T := T) (len := len) (p := p)
  obtain ⟨G0, q0, f0⟩ := pm_take0 (tr := tr) hR (N := N) y
  unfold fX5_number
  rw [a4]
  refine ⟨fun h => ?_, fun h => ?_⟩
  · obtain ⟨G1, q1, y1⟩ := pm_take1 (tr := tr) hR hl hT hN hp y
    have hv := tk_v h.1
    refine ⟨G1, ?_, y1⟩
    rw [if_pos (show nI (tkK T len p) = 2 by rw [h.1]; rfl), a6 h.1, fm_in, zbp_ok, zb_if, if_pos (show nI lo ≤ nI (tkV T len p) ∧ nI (tkV T len p) ≤ nI hi from ⟨nI_le h.2.1 (by omega), nI_le h.2.2 (by omega)⟩), fX5_number_b26, q1, zbd_ok, a6 h.1]
  · refine ⟨G0, ?_, f0⟩
    by_cases hK : tkK T len p = 2
    · have hv := tk_v hK
      rw [if_pos (show nI (tkK T len p) = 2 by rw [hK]; rfl), a6 hK, fm_in, zbp_ok, zb_if, if_neg (show ¬ (nI lo ≤ nI (tkV T len p) ∧ nI (tkV T len p) ≤ nI hi) from fun z => h ⟨hK, Classical.byContradiction (fun w => nI_ge (by omega) (by omega) z.1), Classical.byContradiction (fun w => nI_ge (by omega) (by omega) z.2)⟩), fX5_number_b25, fX5_number_b26, q0, zbd_ok]
    · rw [if_neg (show ¬ nI (tkK T len p) = 2 from zneI (k := 2) hK (by omega) (by omega)), fX5_number_b25, fX5_number_b26, q0, zbd_ok]
theorem fm_numF {N s : Nat} (hs : s < 2 ^ 31) (y : FM R s Gm) (a b : Int32) : fX5_number N a b Gm tr = some (0, Gm, tr) := by
  unfold fX5_number
  by_cases h : Gm 0 5 = 2
  · rw [if_pos h, fm_in, zbp_ok, zb_if]
    by_cases h2 : a ≤ Gm 0 7 ∧ Gm 0 7 ≤ b
    · rw [if_pos h2, fX5_number_b26, fm_takeF hs y, zbd_ok]
    · rw [if_neg h2, fX5_number_b25, fX5_number_b26, fm_takeF hs y, zbd_ok]
  · rw [if_neg h, fX5_number_b25, fX5_number_b26, fm_takeF hs y, zbd_ok]
end par
