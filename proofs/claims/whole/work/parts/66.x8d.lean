/-! laysAid -/
/-- what laysAid leaves -/
def AidOK (V0 V : Sz) : Prop := (∀ k : Nat, k ≠ 10 → k ≠ 11 → k ≠ 12 → k ≠ 13 → V k = V0 k) ∧ ∀ g i : Int, 0 ≤ g → g < V0 0 2 → 0 ≤ i → i < wMany (V0 0) g → V 13 (3 * g + i).toNat = wishS (V0 0) (3 * g + i) ∧ V 12 (3 * g + i).toNat = aidS (V0 0) (3 * g + i)
/-- the parts at the places before q, and the first i of the gift at q, are done -/
def AidIn (V0 V : Sz) (q : Nat) (i : Int) : Prop :=
  (∀ k : Nat, k ≠ 10 → k ≠ 11 → k ≠ 12 → k ≠ 13 → V k = V0 k) ∧ (∀ j : Nat, (j : Int) < V0 0 2 → V 10 j = ordS (V0 0) j) ∧
  (∀ d y : Int, 0 ≤ d → d < V0 0 0 → 0 ≤ y → y < 28 → ((y = yrS (V0 0) (ordS (V0 0) q) ∧ ∃ j : Int, 0 ≤ j ∧ j < i ∧ wPd (V0 0) (3 * ordS (V0 0) q + j) = d) → V 11 (28 * d + y).toNat = usS (V0 0) d y (q + 1)) ∧ (¬ (y = yrS (V0 0) (ordS (V0 0) q) ∧ ∃ j : Int, 0 ≤ j ∧ j < i ∧ wPd (V0 0) (3 * ordS (V0 0) q + j) = d) → V 11 (28 * d + y).toNat = usS (V0 0) d y q)) ∧
  (∀ (p : Nat) (j : Int), (p < q ∨ (p = q ∧ j < i)) → (p : Int) < V0 0 2 → 0 ≤ j → j < wMany (V0 0) (ordS (V0 0) p) → V 13 (3 * ordS (V0 0) p + j).toNat = wishS (V0 0) (3 * ordS (V0 0) p + j) ∧ V 12 (3 * ordS (V0 0) p + j).toNat = aidP (V0 0) p (3 * ordS (V0 0) p + j))
theorem yr_bd {w : Rw} (hw : WF w) {g : Int} (g0 : 0 ≤ g) (g1 : g < w 2) : 0 ≤ yrS w g ∧ yrS w g < 28 := by
  have hg := hw.2.2.2.2.1 g g0 g1
  unfold yrS
  omega
/-- a gift done: the next place -/
theorem AidIn.next {V0 V : Sz} (hw : WF (V0 0)) {q : Nat} {i : Int} (hq : (q : Int) < V0 0 2) (hi : i = wMany (V0 0) (ordS (V0 0) q)) (h : AidIn V0 V q i) : AidIn V0 V (q + 1) 0 := by
  obtain ⟨h1, h2, h3, h4⟩ := h
  subst hi
  refine ⟨h1, h2, fun d y d0 d1 y0 y1 => ⟨fun ⟨_, j, a, b, _⟩ => by omega, fun _ => ?_⟩, fun p j hp hp2 j0 j1 => ?_⟩
  · by_cases c : y = yrS (V0 0) (ordS (V0 0) q) ∧ ∃ j : Int, 0 ≤ j ∧ j < wMany (V0 0) (ordS (V0 0) q) ∧ wPd (V0 0) (3 * ordS (V0 0) q + j) = d
    · exact (h3 d y d0 d1 y0 y1).1 c
    · rw [(h3 d y d0 d1 y0 y1).2 c]
      exact (usS_same hw hq d0 d1 (fun e j a b hd => c ⟨e, j, a, b, hd⟩)).symm
  · by_cases e : p < q
    · exact h4 p j (Or.inl e) hp2 j0 j1
    · have e2 : p = q := by omega
      subst e2
      exact h4 p j (Or.inr ⟨rfl, j1⟩) hp2 j0 j1
theorem AidIn.done {V0 V : Sz} (hw : WF (V0 0)) {q : Nat} (hq : (q : Int) = V0 0 2) (h : AidIn V0 V q 0) : AidOK V0 V := by
  obtain ⟨h1, -, -, h4⟩ := h
  refine ⟨h1, fun g i g0 g1 i0 i1 => ?_⟩
  obtain ⟨p, hp, e⟩ := ordA_onto (wDay (V0 0)) (n := (V0 0 2).toNat) g0 (by omega)
  have e2 : ordS (V0 0) p = g := e
  have e3 := plcS_ord (w := V0 0) (q := p) (by omega)
  have h5 := h4 p i (Or.inl (by omega)) (by omega) i0 (by rw [e2]; exact i1)
  have hpt := part_of hw g0 g1 i0 i1
  rw [e2] at h5 e3
  refine ⟨h5.1, ?_⟩
  rw [h5.2]
  unfold aidS
  rw [hpt.2.1, e3]
/-- one part more -/
theorem AidIn.step {V0 V V1 V2 V3 : Sz} (hw : WF (V0 0)) {q : Nat} {i : Int} (hq : (q : Int) < V0 0 2) (i0 : 0 ≤ i) (i1 : i < wMany (V0 0) (ordS (V0 0) q)) (h : AidIn V0 V q i)
    (e1 : V1 = uz V 13 (3 * ordS (V0 0) q + i).toNat (wishS (V0 0) (3 * ordS (V0 0) q + i)))
    (e2 : V2 = uz V1 12 (3 * ordS (V0 0) q + i).toNat (aidP (V0 0) q (3 * ordS (V0 0) q + i)))
    (e3 : V3 = uz V2 11 (28 * wPd (V0 0) (3 * ordS (V0 0) q + i) + yrS (V0 0) (ordS (V0 0) q)).toNat (usS (V0 0) (wPd (V0 0) (3 * ordS (V0 0) q + i)) (yrS (V0 0) (ordS (V0 0) q)) (q + 1))) : AidIn V0 V3 q (i + 1) := by
  obtain ⟨h1, h2, h3, h4⟩ := h
  have hg := ordS_in hq
  have hp := hw.2.2.2.2.2.1 _ i hg.1 hg.2 i0 i1
  have hy := yr_bd hw hg.1 hg.2
  have hpt := part_of hw hg.1 hg.2 i0 i1
  have c10 : V3 10 = V 10 := by rw [e3, uz_ne (by decide), e2, uz_ne (by decide), e1, uz_ne (by decide)]
  have c11 : V3 11 = up (V 11) (28 * wPd (V0 0) (3 * ordS (V0 0) q + i) + yrS (V0 0) (ordS (V0 0) q)).toNat (usS (V0 0) (wPd (V0 0) (3 * ordS (V0 0) q + i)) (yrS (V0 0) (ordS (V0 0) q)) (q + 1)) := by rw [e3, uz_at, e2, uz_ne (by decide), e1, uz_ne (by decide)]
  have c12 : V3 12 = up (V 12) (3 * ordS (V0 0) q + i).toNat (aidP (V0 0) q (3 * ordS (V0 0) q + i)) := by rw [e3, uz_ne (by decide), e2, uz_at, e1, uz_ne (by decide)]
  have c13 : V3 13 = up (V 13) (3 * ordS (V0 0) q + i).toNat (wishS (V0 0) (3 * ordS (V0 0) q + i)) := by rw [e3, uz_ne (by decide), e2, uz_ne (by decide), e1, uz_at]
  refine ⟨fun k a b c d => ?_, fun j hj => by rw [c10]; exact h2 j hj, fun d y d0 d1 y0 y1 => ?_, fun p j hpj hp2 j0 j1 => ?_⟩
  · rw [e3, uz_ne b, e2, uz_ne c, e1, uz_ne d]; exact h1 k a b c d
  · rw [c11, up_if]
    have ht := h3 d y d0 d1 y0 y1
    by_cases c : d = wPd (V0 0) (3 * ordS (V0 0) q + i) ∧ y = yrS (V0 0) (ordS (V0 0) q)
    · rw [if_pos (by rw [c.1, c.2])]
      refine ⟨fun _ => by rw [c.1, c.2], fun hn => (hn ⟨c.2, i, i0, by omega, c.1.symm⟩).elim⟩
    · rw [if_neg (by omega)]
      refine ⟨fun ⟨a, j, b0, b1, b2⟩ => ht.1 ⟨a, j, b0, ?_, b2⟩, fun hn => ht.2 (fun ⟨a, j, b0, b1, b2⟩ => hn ⟨a, j, b0, by omega, b2⟩)⟩
      by_cases e : j = i
      · subst e; exact (c ⟨b2.symm, a⟩).elim
      · omega
  · have hgp := ordS_in hp2
    have hpp := part_of hw hgp.1 hgp.2 j0 j1
    rw [c12, c13, up_if, up_if]
    by_cases e : (3 * ordS (V0 0) p + j).toNat = (3 * ordS (V0 0) q + i).toNat
    · have e5 : 3 * ordS (V0 0) p + j = 3 * ordS (V0 0) q + i := by omega
      have e6 : p = q := by
        have := ordA_inj (wDay (V0 0)) (n := (V0 0 2).toNat) (i := p) (j := q) (by omega) (by omega) (by show ordS (V0 0) p = ordS (V0 0) q; omega)
        exact this
      rw [if_pos e, if_pos e, e5, e6]
      exact ⟨rfl, rfl⟩
    · rw [if_neg e, if_neg e]
      refine h4 p j ?_ hp2 j0 j1
      rcases hpj with h | ⟨h, h'⟩
      · exact Or.inl h
      · subst h
        refine Or.inr ⟨rfl, ?_⟩
        omega
