/-! coverage, by the reference: the code of its refusal, or the number of days -/
theorem x8_coverage {V0 : Sz} (hw : WF (V0 0)) {n : Nat} (hn : 20000 ≤ n) {k a b : Int} (hk : rng k) (ha : rng a) (hb : rng b) : TT (f_X8_coverage n V0 k a b) (fun r => ∃ z : Int, Thr V0 r.2 z ∧ (¬ (0 ≤ k ∧ k < V0 0 0) → z = 1) ∧ (0 ≤ k ∧ k < V0 0 0 → ¬ (0 ≤ a ∧ a ≤ b ∧ b ≤ 9999) → z = 2) ∧ (0 ≤ k ∧ k < V0 0 0 → 0 ≤ a ∧ a ≤ b ∧ b ≤ 9999 → z = 0 ∧ r.1 = cN (V0 0) k a (b + 1))) := by
  unfold f_X8_coverage
  refine tt_bd (x8_noDonor hw hk) (fun ⟨r1, V2⟩ ⟨h1, h2⟩ => ?_)
  simp only at h1 h2
  refine tt_ite (fun c => ?_) (fun c => ?_)
  · rw [if_pos c] at h2
    have hn : ¬ (0 ≤ k ∧ k < V0 0 0) := fun q => by rw [h1.mpr q] at c; exact Bool.noConfusion c
    exact tt_some ⟨1, h2, fun _ => rfl, fun q => (hn q).elim, fun q => (hn q).elim⟩
  · have c1 : r1 = false := by
      cases r1 with
      | false => rfl
      | true => exact (c rfl).elim
    rw [if_neg c] at h2
    have hin := h1.mp c1
    refine tt_bd (x8_noSpan ha hb h2.1) (fun ⟨r3, V4⟩ ⟨h3, h4⟩ => ?_)
    simp only at h3 h4
    refine tt_ite (fun c3 => ?_) (fun c3 => ?_)
    · have hsp := h3.mp c3
      rw [if_neg (by rw [c3]; decide)] at h4
      have hT := h2.trans h4
      have e0 : V4 0 = V0 0 := hT.2 0 (by decide)
      refine tt_lp (I := fun s : Int × Int × Sz => (a ≤ s.2.1 ∧ s.2.1 ≤ b + 1) ∧ s.2.2 = V4 ∧ s.1 = cN (V0 0) k a s.2.1) (μ := fun s => (b + 1 - s.2.1).toNat) ?_ n (0, a, V4) ⟨⟨Int.le_refl _, by show a ≤ b + 1; omega⟩, rfl, (cN_self _ _ _).symm⟩ (by show (b + 1 - a).toNat < n; omega)
      rintro ⟨sm, y, V⟩ rec ⟨⟨y0, y1⟩, eV, es⟩ ih
      simp only at y0 y1 eV es
      subst eV
      rw [bX8_coverage_25_e]
      have next : ∀ z : Int, z = (if forB (V0 0) k y = true then 1 else 0) → y ≤ b → TT (jX8_coverage_48 n k a b rec y V z sm) (fun r => ∃ z : Int, Thr V0 r.2 z ∧ (¬ (0 ≤ k ∧ k < V0 0 0) → z = 1) ∧ (0 ≤ k ∧ k < V0 0 0 → ¬ (0 ≤ a ∧ a ≤ b ∧ b ≤ 9999) → z = 2) ∧ (0 ≤ k ∧ k < V0 0 0 → 0 ≤ a ∧ a ≤ b ∧ b ≤ 9999 → z = 0 ∧ r.1 = cN (V0 0) k a (b + 1))) := by
        intro z hz hy
        unfold jX8_coverage_48
        refine tt_nm (tt_nm (ih (sm + z, y + 1, V) ⟨⟨by show a ≤ y + 1; omega, by show y + 1 ≤ b + 1; omega⟩, rfl, ?_⟩ (by show (b + 1 - (y + 1)).toNat < (b + 1 - y).toNat; omega)))
        show sm + z = cN (V0 0) k a (y + 1)
        rw [cN_app (b := y) y0 (by omega), ← es, hz]
        congr 1
        unfold cN
        rw [show (y + 1 - y).toNat = 1 by omega]
        show _ = 0 + (if forB (V0 0) k (y + ((0 : Nat) : Int)) = true then 1 else 0)
        rw [show y + ((0 : Nat) : Int) = y by omega]; omega
      refine tt_ck ⟨⟨by omega, by omega⟩, hb⟩ (tt_ite (fun c5 => tt_some ⟨0, hT, fun q => (q hin).elim, fun _ q => (q hsp).elim, fun _ _ => ⟨rfl, ?_⟩⟩) (fun c5 => ?_))
      · show sm = _
        rw [es, show y = b + 1 by omega]
      · rw [x8_isForced (by rw [e0]; exact hw) (by omega) hk ⟨by omega, by omega⟩, bd_s, e0]
        refine tt_ite (fun c6 => next 0 (by rw [c6]; rfl) (by omega)) (fun c6 => next 1 ?_ (by omega))
        cases hf : forB (V0 0) k y with
        | true => rfl
        | false => exact (c6 hf).elim
    · have hns : ¬ (0 ≤ a ∧ a ≤ b ∧ b ≤ 9999) := fun q => c3 (h3.mpr q)
      have c4 : r3 = true := by
        cases r3 with
        | true => rfl
        | false => exact (c3 rfl).elim
      rw [if_pos c4] at h4
      exact tt_some ⟨2, h2.trans h4, fun q => (q hin).elim, fun _ _ => rfl, fun _ q => (hns q).elim⟩
