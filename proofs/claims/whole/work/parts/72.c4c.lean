/-- the limits' use in the present year, with the first i parts of the gift at q -/
def SetU (w : Rw) (V : Sz) (yr : Int) (q : Nat) (i : Int) : Prop := ∀ d : Int, 0 ≤ d → d < w 0 → ((∃ j : Int, 0 ≤ j ∧ j < i ∧ wPd w (3 * ordS w q + j) = d) → V 26 d.toNat = usS w d yr (q + 1)) ∧ (¬ (∃ j : Int, 0 ≤ j ∧ j < i ∧ wPd w (3 * ordS w q + j) = d) → V 26 d.toNat = usS w d yr q)
/-- the parts that are done -/
def SetD (w : Rw) (V : Sz) (q : Nat) (i : Int) : Prop := ∀ (p : Nat) (j : Int), (p < q ∨ (p = q ∧ j < i)) → (p : Int) < w 2 → 0 ≤ j → j < wMany w (ordS w p) → V 23 (3 * ordS w p + j).toNat = openS w (3 * ordS w p + j) ∧ V 24 (3 * ordS w p + j).toNat = wishS w (3 * ordS w p + j) ∧ V 25 (3 * ordS w p + j).toNat = aidP w p (3 * ordS w p + j)
theorem SetP_at (w : Rw) (q : Nat) (i : Int) (V : Sz) : SetP w q i V 23 = up (V 23) (3 * ordS w q + i).toNat (openS w (3 * ordS w q + i)) ∧ SetP w q i V 24 = up (V 24) (3 * ordS w q + i).toNat (wishS w (3 * ordS w q + i)) ∧ SetP w q i V 25 = up (V 25) (3 * ordS w q + i).toNat (aidP w q (3 * ordS w q + i)) ∧ SetP w q i V 26 = up (V 26) (wPd w (3 * ordS w q + i)).toNat (usS w (wPd w (3 * ordS w q + i)) (yrS w (ordS w q)) (q + 1)) ∧ ∀ k : Nat, k ≠ 23 → k ≠ 24 → k ≠ 25 → k ≠ 26 → SetP w q i V k = V k := by
  unfold SetP
  refine ⟨?_, ?_, ?_, ?_, fun k a b c d => ?_⟩
  · rw [uz_ne (by decide), uz_ne (by decide), uz_ne (by decide), uz_at]
  · rw [uz_ne (by decide), uz_ne (by decide), uz_at, uz_ne (by decide)]
  · rw [uz_ne (by decide), uz_at, uz_ne (by decide), uz_ne (by decide)]
  · rw [uz_at, uz_ne (by decide), uz_ne (by decide), uz_ne (by decide)]
  · rw [uz_ne d, uz_ne c, uz_ne b, uz_ne a]
theorem SetU.step {w : Rw} {V : Sz} (hw : WF w) {q : Nat} (hq : (q : Int) < w 2) {i : Int} (i0 : 0 ≤ i) (i1 : i < wMany w (ordS w q)) (h : SetU w V (yrS w (ordS w q)) q i) : SetU w (SetP w q i V) (yrS w (ordS w q)) q (i + 1) := by
  have hg := ordS_in hq
  have hpw := hw.2.2.2.2.2.1 _ i hg.1 hg.2 i0 i1
  intro d d0 d1
  have hd := h d d0 d1
  rw [(SetP_at w q i V).2.2.2.1, up_if]
  by_cases e : d = wPd w (3 * ordS w q + i)
  · rw [if_pos (by rw [e])]
    exact ⟨fun _ => by rw [e], fun hn => (hn ⟨i, i0, by omega, e.symm⟩).elim⟩
  · rw [if_neg (by omega)]
    refine ⟨fun ⟨j, j0, j1, je⟩ => hd.1 ⟨j, j0, ?_, je⟩, fun hn => hd.2 (fun ⟨j, j0, j1, je⟩ => hn ⟨j, j0, by omega, je⟩)⟩
    by_cases ej : j = i
    · subst ej; exact (e je.symm).elim
    · omega
theorem SetD.step {w : Rw} {V : Sz} (hw : WF w) {q : Nat} (hq : (q : Int) < w 2) {i : Int} (i0 : 0 ≤ i) (i1 : i < wMany w (ordS w q)) (h : SetD w V q i) : SetD w (SetP w q i V) q (i + 1) := by
  have hg := ordS_in hq
  have hpt := part_of hw hg.1 hg.2 i0 i1
  intro p j hpj hp2 j0 j1
  have hgp := ordS_in hp2
  have hpp := part_of hw hgp.1 hgp.2 j0 j1
  have ha := SetP_at w q i V
  rw [ha.1, ha.2.1, ha.2.2.1, up_if, up_if, up_if]
  by_cases e : (3 * ordS w p + j).toNat = (3 * ordS w q + i).toNat
  · have e5 : 3 * ordS w p + j = 3 * ordS w q + i := by omega
    have e6 : p = q := ordA_inj (wDay w) (n := (w 2).toNat) (i := p) (j := q) (by omega) (by omega) (by show ordS w p = ordS w q; omega)
    rw [if_pos e, if_pos e, if_pos e, e5, e6]
    exact ⟨rfl, rfl, rfl⟩
  · rw [if_neg e, if_neg e, if_neg e]
    refine h p j ?_ hp2 j0 j1
    rcases hpj with h1 | ⟨h1, h2⟩
    · exact Or.inl h1
    · subst h1
      exact Or.inr ⟨rfl, by omega⟩
theorem ordS_days {w : Rw} (hw : WF w) {j q : Nat} (hjq : j < q) (hq : (q : Int) < w 2) : yrS w (ordS w j) ≤ yrS w (ordS w q) := by
  have h1 := ordA_sorted (wDay w) (w 2).toNat j q hjq (by omega)
  have h2 : wDay w (ordS w j) ≤ wDay w (ordS w q) := h1
  unfold yrS
  omega
theorem c4_settle {V0 : Sz} {w : Rw} (h : LR0 V0 w) (hw : WF w) (h30 : w 1 ≤ 30) {n : Nat} (hn : 2000 ≤ n) : TT (f_X4_settle n V0) (fun V => (∀ k : Nat, k < 23 → V k = V0 k) ∧ LRw V w) := by
  have a0 := hw.2.1.1
  have a2 := hw.2.1.2.2.1
  have e9 : V0 9 0 = w 2 := h.1.2.2.2.2.2.1
  have hd0 : SetD w V0 0 0 := fun p j hp _ hj => by
    rcases hp with h | ⟨_, h⟩
    · omega
    · omega
  unfold f_X4_settle
  refine tt_lp (I := fun s : Int × Int × Sz => (0 ≤ s.2.1 ∧ s.2.1 ≤ w 2) ∧ (∀ k : Nat, k < 23 → s.2.2 k = V0 k) ∧ SetD w s.2.2 s.2.1.toNat 0 ∧ ((s.1 = -1 ∧ s.2.1 = 0) ∨ (0 < s.2.1 ∧ s.1 = yrS w (ordS w (s.2.1.toNat - 1)) ∧ ∀ d : Int, 0 ≤ d → d < w 0 → s.2.2 26 d.toNat = usS w d s.1 s.2.1.toNat))) (μ := fun s => (w 2 - s.2.1).toNat) ?_ n (-1, 0, V0) ⟨⟨Int.le_refl _, a2.1⟩, fun _ _ => rfl, hd0, Or.inl ⟨rfl, rfl⟩⟩ (by show (w 2 - (0 : Int)).toNat < n; omega)
  rintro ⟨yr, k, V⟩ rec4 ⟨⟨k0, k1⟩, hk, hd, hy⟩ ih4
  simp only at k0 k1 hk hd hy
  rw [bX4_settle_4_e, hk 9 (by decide), e9]
  refine tt_ck ⟨⟨by omega, by omega⟩, ⟨by omega, by omega⟩⟩ (tt_ite (fun c => tt_some ⟨hk, fun p p0 p1 hp => ?_⟩) (fun c => ?_))
  · -- all is done
    have hpb := hp
    unfold partB at hpb
    rw [dec_and] at hpb
    have hpb := of_decide_eq_true hpb
    obtain ⟨z, hz, ez⟩ := ordA_onto (wDay w) (n := (w 2).toNat) (g := p / 3) (by omega) (by omega)
    have ez : ordS w z = p / 3 := ez
    have e3 := plcS_ord (w := w) (q := z) (by omega)
    have h5 := hd z (p % 3) (Or.inl (by omega)) (by omega) (by omega) (by rw [ez]; exact hpb.1)
    rw [ez, show 3 * (p / 3) + p % 3 = p by omega] at h5
    rw [ez] at e3
    refine ⟨h5.1, h5.2.1, ?_⟩
    rw [h5.2.2]
    unfold aidS
    rw [e3]
  · have hq : ((k.toNat : Nat) : Int) < w 2 := by omega
    have hg := ordS_in hq
    have hgw := hw.2.2.2.2.1 _ hg.1 hg.2
    have hyb := yr_bd hw hg.1 hg.2
    have hL : LR0 V w := h.same (fun j hj => hk j hj)
    have e15 : V 15 k.toNat = ordS w k.toNat := hL.2.2.2.2.2.1 k.toNat hq
    rw [e15]
    refine tt_ck ⟨by omega, by omega⟩ (tt_nm ?_)
    rw [c3_yearOf hL hw hg.1 hg.2, bd_s]
    have J : ∀ V : Sz, (∀ j : Nat, j < 23 → V j = V0 j) → SetD w V k.toNat 0 → SetU w V (yrS w (ordS w k.toNat)) k.toNat 0 → TT (jX4_settle_54 n rec4 (yrS w (ordS w k.toNat)) k (ordS w k.toNat) V) (fun V => (∀ k : Nat, k < 23 → V k = V0 k) ∧ LRw V w) := by
      intro V hk hd hu
      unfold jX4_settle_54
      refine tt_lp (I := fun s : Int × Int × Int × Int × Sz => (s.1 = yrS w (ordS w k.toNat) ∧ s.2.1 = k ∧ s.2.2.1 = ordS w k.toNat) ∧ (0 ≤ s.2.2.2.1 ∧ s.2.2.2.1 ≤ wMany w (ordS w k.toNat)) ∧ (∀ j : Nat, j < 23 → s.2.2.2.2 j = V0 j) ∧ SetD w s.2.2.2.2 k.toNat s.2.2.2.1 ∧ SetU w s.2.2.2.2 (yrS w (ordS w k.toNat)) k.toNat s.2.2.2.1) (μ := fun s => (3 - s.2.2.2.1).toNat) ?_ n _ ⟨⟨rfl, rfl, rfl⟩, ⟨Int.le_refl _, by show 0 ≤ wMany w (ordS w k.toNat); omega⟩, hk, hd, hu⟩ (by show (3 - (0 : Int)).toNat < n; omega)
      rintro ⟨y1, y2, y3, i, V⟩ rec57 ⟨⟨z1, z2, z3⟩, ⟨i0, i1⟩, hk, hd, hu⟩ ih57
      simp only at z1 z2 z3 i0 i1 hk hd hu
      subst z1 z2 z3
      have hL : LR0 V w := h.same (fun j hj => hk j hj)
      rw [bX4_settle_57_e, (hL.2.2.2.1 _ hg.1 hg.2).2.2.2.2]
      refine tt_ck ⟨by omega, by omega⟩ (tt_ck ⟨⟨by omega, by omega⟩, ⟨by omega, by omega⟩⟩ (tt_ite (fun c2 => ?_) (fun c2 => ?_)))
      · refine tt_nm (ih4 (_, y2 + 1, V) ⟨⟨by show 0 ≤ y2 + 1; omega, by show y2 + 1 ≤ w 2; omega⟩, hk, ?_, Or.inr ⟨by show 0 < y2 + 1; omega, ?_, ?_⟩⟩ (by show (w 2 - (y2 + 1)).toNat < (w 2 - y2).toNat; omega))
        · show SetD w V (y2 + 1).toNat 0
          rw [show (y2 + 1).toNat = y2.toNat + 1 by omega]
          intro p j hp hp2 j0 j1
          by_cases e : p < y2.toNat
          · exact hd p j (Or.inl e) hp2 j0 j1
          · have e2 : p = y2.toNat := by omega
            subst e2
            exact hd _ j (Or.inr ⟨rfl, by omega⟩) hp2 j0 j1
        · show yrS w (ordS w y2.toNat) = yrS w (ordS w ((y2 + 1).toNat - 1))
          rw [show (y2 + 1).toNat - 1 = y2.toNat by omega]
        · intro d d0 d1
          show V 26 d.toNat = usS w d (yrS w (ordS w y2.toNat)) (y2 + 1).toNat
          rw [show (y2 + 1).toNat = y2.toNat + 1 by omega]
          by_cases c3 : ∃ j : Int, 0 ≤ j ∧ j < i ∧ wPd w (3 * ordS w y2.toNat + j) = d
          · exact (hu d d0 d1).1 c3
          · rw [(hu d d0 d1).2 c3]
            exact (usS_same hw hq d0 d1 (fun _ j j0 j1 je => c3 ⟨j, j0, by omega, je⟩)).symm
      · have i2 : i < wMany w (ordS w y2.toNat) := by omega
        have hpw := hw.2.2.2.2.2.1 _ i hg.1 hg.2 i0 i2
        have huu : V 26 (wPd w (3 * ordS w y2.toNat + i)).toNat = usS w (wPd w (3 * ordS w y2.toNat + i)) (yrS w (ordS w y2.toNat)) y2.toNat := by
          refine (hu _ hpw.1 hpw.2.1).2 (fun ⟨j, j0, j1, je⟩ => ?_)
          exact hw.2.2.2.2.2.2.1 _ j i hg.1 hg.2 j0 j1 i2 je
        rw [show ordS w y2.toNat * 3 + i = 3 * ordS w y2.toNat + i by omega]
        refine tt_bd (c4_settlePart hL hw h30 (by omega) hq i0 i2 huu) (fun V1 e1 => tt_nm ?_)
        subst e1
        exact ih57 (_, _, _, i + 1, SetP w y2.toNat i V) ⟨⟨rfl, rfl, rfl⟩, ⟨by show 0 ≤ i + 1; omega, by show i + 1 ≤ wMany w (ordS w y2.toNat); omega⟩, fun j hj => by show SetP w y2.toNat i V j = V0 j; rw [(SetP_at w y2.toNat i V).2.2.2.2 j (by omega) (by omega) (by omega) (by omega)]; exact hk j hj, SetD.step hw hq i0 i2 hd, SetU.step hw hq i0 i2 hu⟩ (by show (3 - (i + 1)).toNat < (3 - i).toNat; omega)
    have hyr : rng yr := by
      rcases hy with ⟨a, _⟩ | ⟨b0, b1, _⟩
      · constructor <;> omega
      · have hg1 := ordS_in (w := w) (q := k.toNat - 1) (by omega)
        have hb := yr_bd hw hg1.1 hg1.2
        constructor <;> omega
    refine tt_ck ⟨⟨by omega, by omega⟩, hyr⟩ (tt_ite (fun c2 => ?_) (fun c2 => ?_))
    · rw [← c2]
      refine J V hk hd (fun d d0 d1 => ⟨fun ⟨j, j0, j1, _⟩ => by omega, fun _ => ?_⟩)
      rcases hy with ⟨a, _⟩ | ⟨b0, b1, b2⟩
      · omega
      · rw [b2 d d0 d1, c2]
    · rw [bd_s]
      refine tt_bd (j7_fill (by decide) hn) (fun T hT => tt_nmE (fun V13 e13 => ?_))
      have hk13 : ∀ j : Nat, j < 23 → V13 j = V0 j := fun j hj => by rw [e13, uy_ne (by omega)]; exact hk j hj
      refine J V13 hk13 (fun p j hp hp2 j0 j1 => ?_) (fun d d0 d1 => ⟨fun ⟨j, j0, j1, _⟩ => by omega, fun _ => ?_⟩)
      · rw [e13, uy_ne (by decide), uy_ne (by decide), uy_ne (by decide)]
        exact hd p j hp hp2 j0 j1
      · rw [e13, uy_at, hT _ (by omega)]
        refine (usedS_fresh k.toNat (fun j hj => ?_)).symm
        rcases hy with ⟨_, a⟩ | ⟨b0, b1, _⟩
        · omega
        · have s1 : yrS w (ordS w j) ≤ yrS w (ordS w (k.toNat - 1)) := by
            by_cases e : j = k.toNat - 1
            · rw [e]; exact Int.le_refl _
            · exact ordS_days hw (by omega) (by omega)
          have s2 := ordS_days hw (j := k.toNat - 1) (q := k.toNat) (by omega) hq
          omega
