/-! the reference's order and aid -/
theorem ordA_succ (d : Int → Int) (m : Nat) : ordA d (m + 1) = insA d (m : Int) (ordA d m) m := rfl
theorem x8_laysOrder {V0 : Sz} (hw : WF (V0 0)) {n : Nat} (hn : 100 ≤ n) : TT (f_X8_laysOrder n V0) (fun V => (∀ k : Nat, k ≠ 10 → V k = V0 k) ∧ ∀ i : Nat, (i : Int) < V0 0 2 → V 10 i = ordS (V0 0) i) := by
  obtain ⟨hN, ⟨-, -, a2, -⟩, -, -, hg, -⟩ := hw
  obtain ⟨d, hd⟩ : ∃ d, d = wDay (V0 0) := ⟨_, rfl⟩
  unfold f_X8_laysOrder
  refine tt_lp (I := fun s : Int × Sz => (0 ≤ s.1 ∧ s.1 ≤ V0 0 2) ∧ (∀ k : Nat, k ≠ 10 → s.2 k = V0 k) ∧ ∀ i : Nat, (i : Int) < s.1 → s.2 10 i = ordA d s.1.toNat i) (μ := fun s => (V0 0 2 - s.1).toNat) ?_ n (0, V0) ⟨⟨Int.le_refl _, by show 0 ≤ V0 0 2; omega⟩, fun _ _ => rfl, fun i hi => absurd hi (by show ¬ ((i : Int) < 0); omega)⟩ (by show (V0 0 2 - 0).toNat < n; omega)
  rintro ⟨y1, V⟩ rec ⟨⟨p0, p1⟩, hk, ho⟩ ih
  simp only at p0 p1 hk ho
  rw [bX8_laysOrder_2_e, hk 0 (by decide)]
  refine tt_ck ⟨⟨by omega, by omega⟩, ⟨by omega, by omega⟩⟩ (tt_ite (fun c => tt_some ⟨hk, fun i hi => ?_⟩) (fun c => ?_))
  · have e : y1 = V0 0 2 := by omega
    rw [ho i (by omega), e, hd]; rfl
  have ey : ((y1.toNat : Nat) : Int) = y1 := by omega
  have eS : ordA d (y1.toNat + 1) = insA d y1 (ordA d y1.toNat) y1.toNat := by rw [ordA_succ, ey]
  refine tt_lp (I := fun s : Int × Int × Sz => s.1 = y1 ∧ (0 ≤ s.2.1 ∧ s.2.1 ≤ y1) ∧ (∀ k : Nat, k ≠ 10 → s.2.2 k = V0 k) ∧ (∀ i : Nat, (i : Int) < s.2.1 → s.2.2 10 i = ordA d y1.toNat i) ∧ ∀ i : Nat, i < y1.toNat + 1 → insA d y1 (s.2.2 10) s.2.1.toNat i = ordA d (y1.toNat + 1) i) (μ := fun s => s.2.1.toNat) ?_ n (y1, y1, V) ⟨rfl, ⟨p0, Int.le_refl _⟩, hk, ho, fun i hi => ?_⟩ (by show y1.toNat < n; omega)
  · rintro ⟨z1, y2, V1⟩ rec14 ⟨ez, ⟨q0, q1⟩, hk1, ho1, hi1⟩ ih14
    simp only at ez q0 q1 hk1 ho1 hi1
    subst ez
    have fin : insA d z1 (V1 10) y2.toNat = up (V1 10) y2.toNat z1 → TT (jX8_laysOrder_66 n rec z1 y2 V1) (fun V => (∀ k : Nat, k ≠ 10 → V k = V0 k) ∧ ∀ i : Nat, (i : Int) < V0 0 2 → V 10 i = ordS (V0 0) i) := fun h => by
      unfold jX8_laysOrder_66
      refine tt_ck ⟨by omega, by omega⟩ (tt_nm (tt_nm ?_))
      refine ih (z1 + 1, uz V1 10 y2.toNat z1) ⟨⟨by show 0 ≤ z1 + 1; omega, by show z1 + 1 ≤ V0 0 2; omega⟩, fun k hne => ?_, fun i hi => ?_⟩ (by show (V0 0 2 - (z1 + 1)).toNat < (V0 0 2 - z1).toNat; omega)
      · show uz V1 10 y2.toNat z1 k = V0 k
        rw [uz_ne hne]; exact hk1 k hne
      · show uz V1 10 y2.toNat z1 10 i = ordA d (z1 + 1).toNat i
        have hi : (i : Int) < z1 + 1 := hi
        rw [uz_at, ← h, hi1 i (by omega), show (z1 + 1).toNat = z1.toNat + 1 by omega]
    rw [bX8_laysOrder_14_e]
    refine tt_ck ⟨by omega, by omega⟩ (tt_ite (fun c2 => ?_) (fun c2 => ?_))
    · have e0 : y2 = 0 := by omega
      subst e0
      exact fin rfl
    · obtain ⟨j, hj⟩ : ∃ j : Nat, y2 = (j : Int) + 1 := ⟨(y2 - 1).toNat, by omega⟩
      subst hj
      have e1 : ((j : Int) + 1 - 1).toNat = j := by omega
      have e2 : ((j : Int) + 1).toNat = j + 1 := by omega
      have e3 : V1 10 j = ordA d z1.toNat j := ho1 j (by omega)
      have e4 := ordA_in d (n := z1.toNat) (i := j) (by omega)
      rw [e2] at fin hi1 ⊢
      rw [e1, hk1 0 (by decide)]
      have g1 := hg (V1 10 j) (by omega) (by omega)
      have g2 := hg z1 p0 (by omega)
      have dd : ∀ g : Int, d g = V0 0 (113 + g).toNat := fun g => by rw [hd]; rfl
      unfold wDay at g1 g2
      refine tt_ck ⟨by omega, by omega⟩ (tt_ck ⟨by omega, by omega⟩ (tt_ck ⟨by omega, by omega⟩ (tt_ck ⟨⟨by omega, by omega⟩, ⟨by omega, by omega⟩⟩ (tt_ite (fun c3 => ?_) (fun c3 => ?_)))))
      · refine fin ?_
        show (if d z1 < d (V1 10 j) then _ else _) = _
        rw [if_neg (by rw [dd, dd]; omega)]
      · have hs : insA d z1 (V1 10) (j + 1) = insA d z1 (up (V1 10) (j + 1) (V1 10 j)) j := if_pos (by rw [dd, dd]; omega)
        refine tt_ck ⟨by omega, by omega⟩ (tt_nm (tt_nm ?_))
        refine ih14 (z1, (j : Int) + 1 + (-1), uz V1 10 (j + 1) (V1 10 j)) ⟨rfl, ⟨by show 0 ≤ (j : Int) + 1 + (-1); omega, by show (j : Int) + 1 + (-1) ≤ z1; omega⟩, fun k hne => ?_, fun i hi => ?_, fun i hi => ?_⟩ (by show ((j : Int) + 1 + (-1)).toNat < ((j : Int) + 1).toNat; omega)
        · show uz V1 10 (j + 1) (V1 10 j) k = V0 k
          rw [uz_ne hne]; exact hk1 k hne
        · have hi : (i : Int) < (j : Int) + 1 + (-1) := hi
          show uz V1 10 (j + 1) (V1 10 j) 10 i = ordA d z1.toNat i
          rw [uz_at, up_ne (by omega)]; exact ho1 i (by omega)
        · show insA d z1 (uz V1 10 (j + 1) (V1 10 j) 10) ((j : Int) + 1 + (-1)).toNat i = _
          rw [uz_at, show ((j : Int) + 1 + (-1)).toNat = j by omega, ← hs]
          exact hi1 i hi
  · show insA d y1 (V 10) y1.toNat i = _
    rw [eS]
    exact insA_congr y1.toNat (V 10) (ordA d y1.toNat) (y1.toNat + 1) (fun q hq hne => ho q (by omega)) (fun _ _ => rfl) rfl (by omega) i hi
