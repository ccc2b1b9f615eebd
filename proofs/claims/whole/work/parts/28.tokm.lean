/-! ===== the reference's words ===== -/
section tokm
variable {T : zB} {len : Nat} {G : zMem} {tr : Int64}
def txM (T : zB) (len : Nat) (G : zMem) : Prop := G 0 3 = nI len ∧ ∀ i, i < len → G 1 i = nI (T i)
theorem fm_letterAt (hl : len ≤ 200) (x : txM T len G) (N : Nat) {p : Nat} (hp : p ≤ len) : fX5_letterAt N (nI p) G tr = some (if p < len then nI (T p) else -1, G, tr) := by
  unfold fX5_letterAt
  rw [x.1]
  by_cases h : p < len
  · rw [if_neg (nI_ge (by omega) (by omega)), zin_ok (by omega) (by omega), nI_clamp (by omega), x.2 p h, if_pos h]
  · rw [if_pos (nI_le (by omega) (by omega)), if_neg h]
theorem dg_iff {c : Nat} (hc : c < 2 ^ 30) : ((48 : Int32) ≤ nI c ∧ nI c ≤ 57) ↔ 48 ≤ c ∧ c ≤ 57 := by
  have a := @nI_le 48 c
  have b := @nI_le c 57
  refine ⟨fun z => ⟨Classical.byContradiction (fun h => ?_), Classical.byContradiction (fun h => ?_)⟩, fun z => ⟨nI_le z.1 (by omega), nI_le z.2 (by decide)⟩⟩
  · exact (show ¬ nI 48 ≤ nI c from nI_ge (by omega) (by omega)) z.1
  · exact (show ¬ nI c ≤ nI 57 from nI_ge (by omega) (by omega)) z.2
theorem txM_up {k : Nat} {b : Int32} (h : k ≠ 3) (x : txM T len G) : txM T len (up2 G 0 k b) := ⟨by rw [up2_oth (Ne.symm h)]; exact x.1, fun i hi => by rw [up2_ne _ _ _ (by omega)]; exact x.2 i hi⟩
theorem fm_skip (hl : len ≤ 200) (hT : ∀ i, i < len → T i ≤ 255) (N : Nat) : ∀ (f p n : Nat) (G : zMem), p + f = len → f < n → txM T len G → G 0 4 = nI p →
    ∃ G' m, fX5_advances_L0 N n G tr = fX5_advances_L0 N (m + 1) G' tr ∧ txM T len G' ∧ G' 0 4 = nI (skS T len f p) ∧ (∀ k, k ≠ 4 → G' 0 k = G 0 k) ∧ ∀ c, c ≠ 0 → G' c = G c := by
  intro f
  induction f with
  | zero =>
    intro p n G hp hn x h4
    obtain ⟨n, rfl⟩ : ∃ k, n = k + 1 := ⟨n - 1, by omega⟩
    exact ⟨G, n, rfl, x, h4, fun _ _ => rfl, fun _ _ => rfl⟩
  | succ f ih =>
    intro p n G hp hn x h4
    obtain ⟨n, rfl⟩ : ∃ k, n = k + 1 := ⟨n - 1, by omega⟩
    rw [skS]
    by_cases hc : T p = 32
    · obtain ⟨G2, m, q2, x2, v2, w2, k2⟩ := ih (p + 1) n (up2 G 0 4 (nI (p + 1))) (by omega) (by omega) (txM_up (by omega) x) up2_get
      refine ⟨G2, m, ?_, x2, ?_, fun k hk => by rw [w2 k hk, up2_oth hk], fun c hc => by rw [k2 c hc, up2_ne _ _ _ hc]⟩
      · rw [← q2, fX5_advances_L0, fX5_advances_b0, h4, fm_letterAt hl x N (by omega), zbd_ok, if_pos (show p < len by omega), hc, if_pos (show nI 32 = 32 from rfl), h4, nI_1]
      · rw [if_pos ⟨by omega, hc⟩]; exact v2
    · rw [if_neg (fun z => hc z.2)]
      exact ⟨G, n, rfl, x, h4, fun _ _ => rfl, fun _ _ => rfl⟩
def dkS (c0 v l : Nat) : Nat := if 29 < v then 4 else if c0 = 48 then (if l ≤ 1 then 2 else 4) else 2
theorem fm_dend (N : Nat) {c0 v p s : Nat} (hc : c0 < 256) (hv : v < 1000) (hs : s ≤ p) (hp : p < 1000) (h4 : G 0 4 = nI p) (h7 : G 0 7 = nI v) (h6 : G 0 6 = nI s) : (if (29 : Int32) < G 0 7 then fX5_advances_b170 N G tr else if nI c0 = 48 then if G 0 4 - G 0 6 ≤ 1 then fX5_advances_b174 N G tr else fX5_advances_b170 N G tr else fX5_advances_b174 N G tr) = some (0, up2 G 0 5 (nI (dkS c0 v (p - s))), tr) := by
  rw [h4, h6, h7, pk_sub hs, dkS]
  by_cases h1 : 29 < v
  · rw [show (29 : Int32) = nI 29 from rfl, if_pos (nI_lt h1 (by omega)), if_pos h1]; rfl
  · rw [show (29 : Int32) = nI 29 from rfl, if_neg (nI_nlt (by omega) (by omega)), if_neg h1]
    by_cases h2 : c0 = 48
    · rw [h2, if_pos (show nI 48 = 48 from rfl), if_pos rfl]
      by_cases h3 : p - s ≤ 1
      · rw [show (1 : Int32) = nI 1 from rfl, if_pos (nI_le h3 (by omega)), if_pos h3]; rfl
      · rw [show (1 : Int32) = nI 1 from rfl, if_neg (nI_ge (by omega) (by omega)), if_neg h3]; rfl
    · rw [if_neg (show ¬ nI c0 = 48 from zneI (k := 48) h2 (by omega) (by omega)), if_neg h2]; rfl
theorem fm_digs (hl : len ≤ 200) (hT : ∀ i, i < len → T i ≤ 255) (N : Nat) {c0 s : Nat} (hc0 : c0 < 256) : ∀ (f p n v : Nat) (G : zMem), p + f = len → f < n → v < 1000 → s ≤ p → txM T len G → G 0 4 = nI p → G 0 7 = nI v → G 0 6 = nI s →
    ∃ G', fX5_advances_L71 N n (nI c0) G tr = some (0, G', tr) ∧ txM T len G' ∧ G' 0 4 = nI (dgS T len f p) ∧ G' 0 7 = nI (vlS T len f p v) ∧ G' 0 6 = nI s ∧ G' 0 5 = nI (dkS c0 (vlS T len f p v) (dgS T len f p - s)) ∧ (∀ k, (k < 4 ∨ 8 ≤ k) → G' 0 k = G 0 k) ∧ ∀ c, c ≠ 0 → G' c = G c := by
  have stop : ∀ (p v : Nat) (G : zMem), p ≤ len → v < 1000 → s ≤ p → txM T len G → G 0 4 = nI p → G 0 7 = nI v → G 0 6 = nI s → ∃ G', (if (29 : Int32) < G 0 7 then fX5_advances_b170 N G tr else if nI c0 = 48 then if G 0 4 - G 0 6 ≤ 1 then fX5_advances_b174 N G tr else fX5_advances_b170 N G tr else fX5_advances_b174 N G tr) = some (0, G', tr) ∧ txM T len G' ∧ G' 0 4 = nI p ∧ G' 0 7 = nI v ∧ G' 0 6 = nI s ∧ G' 0 5 = nI (dkS c0 v (p - s)) ∧ (∀ k, (k < 4 ∨ 8 ≤ k) → G' 0 k = G 0 k) ∧ ∀ c, c ≠ 0 → G' c = G c := fun p v G hp hv hs x h4 h7 h6 =>
    ⟨_, fm_dend N hc0 hv hs (by omega) h4 h7 h6, txM_up (by omega) x, by rw [up2_oth (by omega)]; exact h4, by rw [up2_oth (by omega)]; exact h7, by rw [up2_oth (by omega)]; exact h6, up2_get, fun k hk => up2_oth (by omega), fun c hc => up2_ne _ _ _ hc⟩
  intro f
  induction f with
  | zero =>
    intro p n v G hp hn hv hs x h4 h7 h6
    obtain ⟨n, rfl⟩ : ∃ k, n = k + 1 := ⟨n - 1, by omega⟩
    rw [fX5_advances_L71, fX5_advances_b71, h4, fm_letterAt hl x N (by omega), zbd_ok, if_neg (show ¬ p < len by omega), fm_in, zbp_ok, zb_if, if_neg (show ¬ ((48 : Int32) ≤ -1 ∧ (-1 : Int32) ≤ 57) by decide)]
    exact stop p v G (by omega) hv hs x h4 h7 h6
  | succ f ih =>
    intro p n v G hp hn hv hs x h4 h7 h6
    obtain ⟨n, rfl⟩ : ∃ k, n = k + 1 := ⟨n - 1, by omega⟩
    have ht := hT p (by omega)
    rw [fX5_advances_L71, fX5_advances_b71, h4, fm_letterAt hl x N (by omega), zbd_ok, if_pos (show p < len by omega), fm_in, zbp_ok, zb_if, dgS, vlS]
    by_cases hc : 48 ≤ T p ∧ T p ≤ 57
    · rw [if_pos (show (48 : Int32) ≤ nI (T p) ∧ nI (T p) ≤ 57 from (dg_iff (by omega)).mpr hc), if_pos (show p < len ∧ 48 ≤ T p ∧ T p ≤ 57 from ⟨by omega, hc⟩), if_pos (show p < len ∧ 48 ≤ T p ∧ T p ≤ 57 from ⟨by omega, hc⟩), h7]
      have nx : ∀ w, w < 1000 → ∃ G', fX5_advances_b125 N (fX5_advances_L71 N n) (nI c0) (nI w) G tr = some (0, G', tr) ∧ txM T len G' ∧ G' 0 4 = nI (dgS T len f (p + 1)) ∧ G' 0 7 = nI (vlS T len f (p + 1) w) ∧ G' 0 6 = nI s ∧ G' 0 5 = nI (dkS c0 (vlS T len f (p + 1) w) (dgS T len f (p + 1) - s)) ∧ (∀ k, (k < 4 ∨ 8 ≤ k) → G' 0 k = G 0 k) ∧ ∀ c, c ≠ 0 → G' c = G c := fun w hw => by
        obtain ⟨G2, q2, x2, a4, a7, a6, a5, w2, k2⟩ := ih (p + 1) n w (up2 (up2 G 0 7 (nI w)) 0 4 (nI (p + 1))) (by omega) (by omega) hw (by omega) (txM_up (by omega) (txM_up (by omega) x)) up2_get (by rw [up2_oth (by omega), up2_get]) (by rw [up2_oth (by omega), up2_oth (by omega)]; exact h6)
        exact ⟨G2, by rw [fX5_advances_b125, up2_oth (by omega), h4, nI_1, q2], x2, a4, a7, a6, a5, fun k hk => by rw [w2 k hk, up2_oth (by omega), up2_oth (by omega)], fun c hc => by rw [k2 c hc, up2_ne _ _ _ hc, up2_ne _ _ _ hc]⟩
      by_cases hb : v ≤ 29
      · rw [show (29 : Int32) = nI 29 from rfl, if_pos (nI_le hb (by omega)), if_pos hb, h4, fm_letterAt hl x N (by omega), zbd_ok, if_pos (show p < len by omega), show (10 : Int32) = nI 10 from rfl, pk_mul, nI_add, show (48 : Int32) = nI 48 from rfl, pk_sub (by omega)]
        exact nx _ (by omega)
      · rw [show (29 : Int32) = nI 29 from rfl, if_neg (nI_ge (by omega) (by omega)), if_neg hb]
        exact nx _ hv
    · rw [if_neg (show ¬ ((48 : Int32) ≤ nI (T p) ∧ nI (T p) ≤ 57) from fun z => hc ((dg_iff (by omega)).mp z)), if_neg (show ¬ (p < len ∧ 48 ≤ T p ∧ T p ≤ 57) from fun z => hc z.2), if_neg (show ¬ (p < len ∧ 48 ≤ T p ∧ T p ≤ 57) from fun z => hc z.2)]
      exact stop p v G (by omega) hv hs x h4 h7 h6
/-- what one advance leaves -/
def stepM (T : zB) (len p : Nat) (G G' : zMem) : Prop := txM T len G' ∧ G' 0 4 = nI (tkQ T len p) ∧ G' 0 6 = nI (tkS T len p) ∧ G' 0 5 = nI (tkK T len p) ∧ (tkK T len p = 1 → G' 0 7 = nI (T (tkS T len p))) ∧ (tkK T len p = 2 → G' 0 7 = nI (tkV T len p)) ∧ (∀ k, (k < 4 ∨ 8 ≤ k) → G' 0 k = G 0 k) ∧ ∀ c, c ≠ 0 → G' c = G c
theorem fm_adv (hl : len ≤ 200) (hT : ∀ i, i < len → T i ≤ 255) {N : Nat} (hN : 1000 < N) {p : Nat} (hp : p ≤ len) (x : txM T len G) (h4 : G 0 4 = nI p) : ∃ G', fX5_advances N G tr = some (0, G', tr) ∧ stepM T len p G G' := by
  obtain ⟨G1, m, q1, x1, v1, w1, k1⟩ := fm_skip (tr := tr) hl hT N (len - p) p N G (by omega) (by omega) x h4
  have ts := tk_spec (T := T) hp
  have hns := (sk_spec (T := T) (len := len) (len - p) p (by omega)).2.2
  have hs : skS T len (len - p) p = tkS T len p := rfl
  rw [hs] at v1 hns
  have he : dgS T len (len - tkS T len p) (tkS T len p) = tkE T len p := rfl
  have hv : vlS T len (len - tkS T len p) (tkS T len p) 0 = tkV T len p := rfl
  have g4 : up2 G1 0 6 (nI (tkS T len p)) 0 4 = nI (tkS T len p) := by rw [up2_oth (by omega)]; exact v1
  have x2 : txM T len (up2 G1 0 6 (nI (tkS T len p))) := txM_up (by omega) x1
  have main : fX5_advances N G tr = fX5_advances_L0 N (m + 1) G1 tr := q1
  rw [main, fX5_advances_L0, fX5_advances_b0, v1, fm_letterAt hl x1 N (by omega), zbd_ok]
  by_cases hend : tkS T len p = len
  · rw [if_neg (show ¬ tkS T len p < len by omega), if_neg (show ¬ (-1 : Int32) = 32 by decide), v1, g4, fm_letterAt hl x2 N (by omega), zbd_ok, if_neg (show ¬ tkS T len p < len by omega), if_neg (show ¬ (0 : Int32) ≤ -1 by decide)]
    refine ⟨_, rfl, txM_up (by omega) x2, ?_, ?_, ?_, ?_, ?_, fun k hk => by rw [up2_oth (by omega), up2_oth (by omega), w1 k (by omega)], fun c hc => by rw [up2_ne _ _ _ hc, up2_ne _ _ _ hc, k1 c hc]⟩
    · rw [up2_oth (by omega), g4, tkQ, if_pos hend, hend]
    · rw [up2_oth (by omega), up2_get]
    · rw [up2_get, tkK, if_pos hend]; rfl
    · rw [tkK, if_pos hend]; intro z; omega
    · rw [tkK, if_pos hend]; intro z; omega
  · have hlt : tkS T len p < len := by omega
    have ht := hT _ hlt
    have h32 : ¬ T (tkS T len p) = 32 := fun z => hns ⟨hlt, z⟩
    rw [if_pos hlt, if_neg (show ¬ nI (T (tkS T len p)) = 32 from zneI (k := 32) h32 (by omega) (by omega)), v1, g4, fm_letterAt hl x2 N (by omega), zbd_ok, if_pos hlt, if_pos (nI_pos' (by omega)), fm_in, zbp_ok, zb_if]
    by_cases hd : 48 ≤ T (tkS T len p) ∧ T (tkS T len p) ≤ 57
    · obtain ⟨G2, q2, x3, a4, a7, a6, a5, w2, k2⟩ := fm_digs (tr := tr) hl hT N (c0 := T (tkS T len p)) (s := tkS T len p) (by omega) (len - tkS T len p) (tkS T len p) N 0 (up2 (up2 G1 0 6 (nI (tkS T len p))) 0 7 0) (by omega) (by omega) (by omega) (by omega) (txM_up (by omega) x2) (by rw [up2_oth (by omega)]; exact g4) (by rw [up2_get]; rfl) (by rw [up2_oth (by omega), up2_get])
      rw [he] at a4 a5
      rw [hv] at a7 a5
      rw [if_pos (show (48 : Int32) ≤ nI (T (tkS T len p)) ∧ nI (T (tkS T len p)) ≤ 57 from (dg_iff (by omega)).mpr hd), q2]
      have hk : tkK T len p = dkS (T (tkS T len p)) (tkV T len p) (tkE T len p - tkS T len p) := by rw [tkK, if_neg hend, if_pos hd]; rfl
      refine ⟨G2, rfl, x3, ?_, a6, by rw [a5, hk], ?_, fun _ => a7, fun k hk => by rw [w2 k hk, up2_oth (by omega), up2_oth (by omega), w1 k (by omega)], fun c hc => by rw [k2 c hc, up2_ne _ _ _ hc, up2_ne _ _ _ hc, k1 c hc]⟩
      · rw [a4, tkQ, if_neg hend, if_pos hd]
      · intro z
        rw [hk, dkS] at z
        split at z
        · omega
        · split at z
          · split at z <;> omega
          · omega
    · rw [if_neg (show ¬ ((48 : Int32) ≤ nI (T (tkS T len p)) ∧ nI (T (tkS T len p)) ≤ 57) from fun z => hd ((dg_iff (by omega)).mp z)), g4, nI_1]
      have k2 : tkK T len p = if T (tkS T len p) = 59 then 3 else if T (tkS T len p) = 103 ∨ T (tkS T len p) = 105 ∨ T (tkS T len p) = 120 ∨ T (tkS T len p) = 98 ∨ T (tkS T len p) = 102 then 1 else 4 := by rw [tkK, if_neg hend, if_neg hd]
      have fin : ∀ K, tkK T len p = K → K ≠ 2 → ∃ G', fX5_advances_b242 N (nI K) (up2 (up2 (up2 G1 0 6 (nI (tkS T len p))) 0 4 (nI (tkS T len p + 1))) 0 7 (nI (T (tkS T len p)))) tr = some (0, G', tr) ∧ stepM T len p G G' := fun K hK h2 => by
        refine ⟨_, rfl, txM_up (by omega) (txM_up (by omega) (txM_up (by omega) x2)), ?_, ?_, ?_, ?_, ?_, fun k hk => by rw [up2_oth (by omega), up2_oth (by omega), up2_oth (by omega), up2_oth (by omega), w1 k (by omega)], fun c hc => by rw [up2_ne _ _ _ hc, up2_ne _ _ _ hc, up2_ne _ _ _ hc, up2_ne _ _ _ hc, k1 c hc]⟩
        · rw [up2_oth (by omega), up2_oth (by omega), up2_get, tkQ, if_neg hend, if_neg hd]
        · rw [up2_oth (by omega), up2_oth (by omega), up2_oth (by omega), up2_get]
        · rw [up2_get, hK]
        · intro _; rw [up2_oth (by omega), up2_get]
        · intro z; exact absurd (hK.symm.trans z) h2
      have ne : ∀ k, k < 256 → T (tkS T len p) ≠ k → ¬ nI (T (tkS T len p)) = nI k := fun k hk h => zneI h (by omega) (by omega)
      by_cases h59 : T (tkS T len p) = 59
      · rw [if_pos (show nI (T (tkS T len p)) = 59 by rw [h59]; rfl)]
        exact fin 3 (by rw [k2, if_pos h59]) (by omega)
      · rw [if_neg (show ¬ nI (T (tkS T len p)) = 59 from ne 59 (by omega) h59)]
        rw [if_neg h59] at k2
        by_cases h1 : T (tkS T len p) = 103
        · rw [if_pos (show nI (T (tkS T len p)) = 103 by rw [h1]; rfl)]
          exact fin 1 (by rw [k2, if_pos (Or.inl h1)]) (by omega)
        · rw [if_neg (show ¬ nI (T (tkS T len p)) = 103 from ne 103 (by omega) h1)]
          by_cases h2 : T (tkS T len p) = 105
          · rw [if_pos (show nI (T (tkS T len p)) = 105 by rw [h2]; rfl)]
            exact fin 1 (by rw [k2, if_pos (Or.inr (Or.inl h2))]) (by omega)
          · rw [if_neg (show ¬ nI (T (tkS T len p)) = 105 from ne 105 (by omega) h2)]
            by_cases h3 : T (tkS T len p) = 120
            · rw [if_pos (show nI (T (tkS T len p)) = 120 by rw [h3]; rfl)]
              exact fin 1 (by rw [k2, if_pos (Or.inr (Or.inr (Or.inl h3)))]) (by omega)
            · rw [if_neg (show ¬ nI (T (tkS T len p)) = 120 from ne 120 (by omega) h3)]
              by_cases h5 : T (tkS T len p) = 98
              · rw [if_pos (show nI (T (tkS T len p)) = 98 by rw [h5]; rfl)]
                exact fin 1 (by rw [k2, if_pos (Or.inr (Or.inr (Or.inr (Or.inl h5))))]) (by omega)
              · rw [if_neg (show ¬ nI (T (tkS T len p)) = 98 from ne 98 (by omega) h5)]
                by_cases h6 : T (tkS T len p) = 102
                · rw [if_pos (show nI (T (tkS T len p)) = 102 by rw [h6]; rfl)]
                  exact fin 1 (by rw [k2, if_pos (Or.inr (Or.inr (Or.inr (Or.inr h6))))]) (by omega)
                · rw [if_neg (show ¬ nI (T (tkS T len p)) = 102 from ne 102 (by omega) h6)]
                  exact fin 4 (by rw [k2, if_neg (fun z => by rcases z with h | h | h | h | h <;> contradiction)]) (by omega)
end tokm
