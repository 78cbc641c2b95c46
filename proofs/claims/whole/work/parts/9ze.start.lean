/-! the start -/
theorem z0_X4_at : z0_X4 = us (us (us (us (us (us (us z1_X4 0 25) 1 1460) 2 25) 3 0) 5 0) 9 0) 21 0 := rfl
theorem rel_start (PV : Nat → Sz) {n : Nat} (hn : 20000 < n) : TT (f_X8_clear n z1_X8) (fun Vr => Rel z0_X7 PV 0 Vr) := by
  refine tt_mono (x8_clear hn) (fun Vr ⟨hk, h0⟩ => ?_)
  have h24 : Vr 24 0 = 0 := by rw [hk 24 (by decide)]; rfl
  have hG : ∀ o : Nat, o = 4 → sv o z0_X7 0 0 = 25 ∧ sv o z0_X7 1 0 = 1460 ∧ sv o z0_X7 2 0 = 25 ∧ sv o z0_X7 3 0 = 0 ∧ sv o z0_X7 5 0 = 0 ∧ sv o z0_X7 9 0 = 0 ∧ sv o z0_X7 21 0 = 0 := fun o ho => by
    subst ho
    exact ⟨rfl, rfl, rfl, rfl, rfl, rfl, rfl⟩
  have hS := (clr_SR (G := sv 4 z0_X7) (V := fun _ _ => 0) (X := fun _ _ => 0) (V8 := Vr) h0 (hG 4 rfl) rfl h24).1
  obtain ⟨⟨hL, hw, h30, hz⟩, -⟩ := hS
  have e2 : Vr 0 2 = 0 := h0 2 (by decide)
  have v5 : Vr 5 0 = 0 := by rw [hk 5 (by decide)]; rfl
  have v6 : Vr 6 0 = 0 := by rw [hk 6 (by decide)]; rfl
  have v15 : Vr 15 0 = 0 := by rw [hk 15 (by decide)]; rfl
  have v16 : Vr 16 0 = 0 := by rw [hk 16 (by decide)]; rfl
  have v17 : Vr 17 0 = -1 := by rw [hk 17 (by decide)]; rfl
  have v31 : Vr 31 0 = 0 := by rw [hk 31 (by decide)]; rfl
  refine ⟨⟨hL, fun p p0 p1 hb => ?_, hw, h30⟩, ?_, ?_, ?_, ?_, ?_, ?_⟩
  · have hs := part_split p0 hb
    rw [e2] at hs
    omega
  · exact ⟨by rw [v6]; rfl, Or.inl v6⟩
  · unfold RelP
    rw [v5]
    refine ⟨⟨by decide, by decide, by decide, by decide⟩, ⟨rfl, by decide, by decide, Or.inr (by decide)⟩, fun j j0 j1 => ?_⟩
    have : j < 0 := j1
    omega
  · unfold RelI
    rw [v15]
    exact ⟨rfl, ⟨by decide, by decide⟩, fun i hi => by omega⟩
  · unfold RelE
    rw [v16, v17]
    exact ⟨⟨rfl, by decide, by decide⟩, rfl, by decide, by decide⟩
  · unfold RelO
    rw [v31]
    exact ⟨rfl, ⟨by decide, by decide⟩, fun i hi => by omega⟩
  · unfold RelZ
    rw [v6, v5]
    exact ⟨hz, fun q => absurd q (by decide), fun j j0 j1 => by omega⟩
