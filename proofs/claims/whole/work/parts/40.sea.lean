/-! ===== sea ===== -/
section sea
variable {A : zA} {len : Nat} {T B : zB} {un : Nat} {U : Nat → zB} {K : Nat → Bool} {I : Nat → zB} {G Gm : zMem} {tr trm : Int64}
def chP (a b : Int32) (dr : Nat) : Prop := (a = 3 ∧ b = 8 ∧ dr = 8) ∨ (a = 8 ∧ b = 3 ∧ dr = 3)
theorem keep_RX (o : RO A len T B un U K I) {a b : Int32} {dr : Nat} (hc : chP a b dr) : keepQ (fun X => RX A len T B un U K I X ∧ X 0 1 = a ∧ X 0 2 = b) dr := by
  rintro G G' ⟨h, ha, hb⟩ k k1
  have hd : dr = 3 ∨ dr = 8 := by rcases hc with ⟨-, -, h⟩ | ⟨-, -, h⟩ <;> omega
  have e0 := k 0 (by omega) (by omega)
  obtain ⟨h1, h2, h3, h4, ⟨h5, pn, h6, h7, h8⟩, h9, h10⟩ := h
  refine ⟨⟨by rw [e0]; exact h1, ?_, by rw [k1, k 2 (by omega) (by omega)]; exact h3, mX_keep o.2.2.2.1.2.1 (fun c _ _ => k c (by omega) (by omega)) h4, ⟨by rw [e0]; exact h5, pn, h6, by rw [e0]; exact h7, fun j hj => mX_keep (o.2.2.2.2.2.1 j hj).2.1 (fun c _ _ => k c (by omega) (by omega)) (h8 j hj)⟩, by rw [k 17 (by omega) (by omega)]; exact h9, fun i hi hK => mX_keep (o.2.2.2.2.2.2 i hi hK).2.1 (fun c _ _ => k c (by omega) (by omega)) (h10 i hi hK)⟩, by rw [e0]; exact ha, by rw [e0]; exact hb⟩
  rw [e0, ha]
  rw [ha] at h2
  rcases hc with ⟨rfl, -, rfl⟩ | ⟨rfl, -, rfl⟩
  · exact gX_keep h2 (fun c h1 h2 => by
      have h1' : 3 ≤ c := h1
      have h2' : c ≤ 7 := h2
      exact k c (by omega) (by omega))
  · exact gX_keep h2 (fun c h1 h2 => by
      have h1' : 8 ≤ c := h1
      have h2' : c ≤ 12 := h2
      exact k c (by omega) (by omega))
theorem keep_RM (o : RO A len T B un U K I) : keepR (fun X => RM A len T B un U K I X) := by
  intro G G' h k k6 k3 k18
  obtain ⟨⟨g1, g2, g3⟩, h2, h3, h4, h5, h6⟩ := h
  have i6 := o.1.2.2.2.2.1
  have m6 := o.1.2.2.2.2.2.1
  refine ⟨⟨fun j hj => by rw [(k6 j hj).1]; exact g1 j hj, fun j hj => by rw [(k6 j (by omega)).2.1]; exact g2 j hj, fun j hj => by rw [(k6 j (by omega)).2.2]; exact g3 j hj⟩, by rw [k3, k 1 (by omega)]; exact h2, fun j hj => by rw [k 6 (by omega)]; exact h3 j hj, ⟨by rw [k18]; exact h4.1, fun j hj i hi => by rw [k 9 (by omega)]; exact h4.2 j hj i hi⟩, by rw [k 8 (by omega)]; exact h5, fun i hi hK j hj => by rw [k 7 (by omega)]; exact h6 i hi hK j hj⟩
end sea
