theorem c1_coveredFrom {V : Sz} {w : Rw} (h : LR0 V w) (hw : WF w) (h30 : w 1 ≤ 30) {n : Nat} (hn : 100 ≤ n) {d day : Int} (hd : rng d) (dy0 : 0 ≤ day) (dy1 : day ≤ 10000) : TT (f_X1_coveredFrom n (sv 5 V) d day) (fun r => day ≤ r ∧ r ≤ 10000 ∧ (∀ t : Int, day ≤ t → t < r → ¬ Cov w d (-1) t) ∧ (r < 10000 → Cov w d (-1) r)) := by
  have a1 := hw.2.1.2.1
  have ec : sv 5 V 0 0 = w 1 := h.1.2.2.2.2.1
  unfold f_X1_coveredFrom
  refine tt_lp (I := fun s : Int × Int => (0 ≤ s.2 ∧ s.2 ≤ w 1) ∧ (day ≤ s.1 ∧ s.1 ≤ 10000) ∧ (s.1 < 10000 → Cov w d (-1) s.1) ∧ ∀ k t : Int, 0 ≤ k → k < s.2 → day ≤ t → t < s.1 → onB w k d t = false) (μ := fun s => (w 1 - s.2).toNat) ?_ n (10000, 0) ⟨⟨Int.le_refl _, a1.1⟩, ⟨dy1, Int.le_refl _⟩, fun e => absurd e (by show ¬ ((10000 : Int) < 10000); decide), fun k t a b => absurd b (by show ¬ k < 0; omega)⟩ (by show (w 1 - (0 : Int)).toNat < n; omega)
  rintro ⟨r, k⟩ rec ⟨⟨k0, k1⟩, ⟨r0, r1⟩, hr, hno⟩ ih
  simp only at k0 k1 r0 r1 hr hno
  rw [bX1_coveredFrom_7_e, ec]
  have next : ∀ r2 : Int, (day ≤ r2 ∧ r2 ≤ r) → (r2 < 10000 → Cov w d (-1) r2) → (∀ t : Int, day ≤ t → t < r2 → onB w k d t = false) → k < w 1 → TT (jX1_coveredFrom_48 n (sv 5 V) d day rec r2 k) (fun r => day ≤ r ∧ r ≤ 10000 ∧ (∀ t : Int, day ≤ t → t < r → ¬ Cov w d (-1) t) ∧ (r < 10000 → Cov w d (-1) r)) := by
    intro r2 e1 e2 e3 e4
    unfold jX1_coveredFrom_48
    refine tt_nm (ih (r2, k + 1) ⟨⟨by show 0 ≤ k + 1; omega, by show k + 1 ≤ w 1; omega⟩, ⟨e1.1, by show r2 ≤ 10000; omega⟩, e2, fun j t j0 j1 t0 t1 => ?_⟩ (by show (w 1 - (k + 1)).toNat < (w 1 - k).toNat; omega))
    have j1 : j < k + 1 := j1
    have t1 : t < r2 := t1
    by_cases e : j = k
    · rw [e]; exact e3 t t0 t1
    · exact hno j t j0 (by omega) t0 (by omega)
  refine tt_ck ⟨⟨by omega, by omega⟩, ⟨by omega, by omega⟩⟩ (tt_ite (fun c => tt_some ⟨r0, r1, fun t t0 t1 => ?_, hr⟩) (fun c => ?_))
  · rintro ⟨j, j0, j1, _, hj⟩
    rw [hno j t j0 (by omega) t0 t1] at hj
    exact Bool.noConfusion hj
  · have k2 : k < w 1 := by omega
    have hwk := hw.2.2.2.1 k k0 k2
    have hfr : sv 5 V 2 k.toNat = wFr w k := (h.2.2.1 k k0 k2).2.1
    rw [hfr]
    refine tt_ck ⟨k0, by omega⟩ (tt_ck ⟨⟨by omega, by omega⟩, ⟨by omega, by omega⟩⟩ (tt_nmE (fun z ez => ?_)))
    rw [c1_isOn h hw h30 k0 k2 hd ⟨by omega, by omega⟩, bd_s]
    refine tt_ite (fun c2 => next r ⟨r0, Int.le_refl _⟩ hr (fun t t0 t1 => ?_) k2) (fun c2 => ?_)
    · cases hb : onB w k d t with
      | false => rfl
      | true =>
        have ho := onB_iff.mp hb
        have : onB w k d z = true := onB_iff.mpr ⟨ho.1, by omega, by omega⟩
        rw [c2] at this
        exact Bool.noConfusion this
    · have hon : onB w k d z = true := by
        cases hb : onB w k d z with
        | true => rfl
        | false => exact (c2 hb).elim
      have ho := onB_iff.mp hon
      refine tt_ck ⟨⟨by omega, by omega⟩, ⟨by omega, by omega⟩⟩ (tt_nmE (fun v ev => next v ⟨by omega, by omega⟩ (fun e => ?_) (fun t t0 t1 => ?_) k2))
      · by_cases e2 : z ≤ r
        · rw [show v = z by omega]
          exact ⟨k, k0, k2, by omega, hon⟩
        · rw [show v = r by omega]
          exact hr (by omega)
      · cases hb : onB w k d t with
        | false => rfl
        | true =>
          have ho2 := onB_iff.mp hb
          omega
