/-! a register loaded -/
theorem x8_clear {V0 : Sz} {n : Nat} (hn : 20000 < n) : TT (f_X8_clear n V0) (fun V => (∀ k : Nat, k ≠ 0 → V k = V0 k) ∧ ∀ i : Nat, i < 1233 → V 0 i = if i = 7 then 25 else if i = 6 then 1460 else if i = 5 then 25 else 0) := by
  unfold f_X8_clear
  refine tt_lp (I := fun z : Int × Sz => (0 ≤ z.1 ∧ z.1 ≤ 1233) ∧ (∀ k : Nat, k ≠ 0 → z.2 k = V0 k) ∧ ∀ i : Nat, (i : Int) < z.1 → z.2 0 i = 0) (μ := fun z => (1233 - z.1).toNat) ?_ n (0, V0) ⟨⟨Int.le_refl _, by show (0 : Int) ≤ 1233; decide⟩, fun _ _ => rfl, fun i hi => by have : (i : Int) < 0 := hi; omega⟩ (by show (1233 - (0 : Int)).toNat < n; omega)
  rintro ⟨y, V⟩ rec ⟨⟨y0, y1⟩, hk, hz⟩ ih
  simp only at y0 y1 hk hz
  rw [bX8_clear_2_e]
  refine tt_ck ⟨by omega, by omega⟩ (tt_ite (fun c => tt_nmE (fun Va ea => tt_nmE (fun Vb eb => tt_nmE (fun Vc ec => tt_some ⟨fun k k0 => ?_, fun i hi => ?_⟩)))) (fun c => ?_))
  · rw [ec, uz_ne k0, eb, uz_ne k0, ea, uz_ne k0]; exact hk k k0
  · rw [ec, uz_at, up_if, eb, uz_at, up_if, ea, uz_at, up_if]
    split
    · rfl
    · split
      · rfl
      · split
        · rfl
        · exact hz i (by omega)
  · refine tt_ck ⟨y0, by omega⟩ (tt_nmE (fun Va ea => tt_nm (ih (y + 1, Va) ⟨⟨by show 0 ≤ y + 1; omega, by show y + 1 ≤ 1233; omega⟩, fun k k0 => by show Va k = V0 k; rw [ea, uz_ne k0]; exact hk k k0, fun i hi => ?_⟩ (by show (1233 - (y + 1)).toNat < (1233 - y).toNat; omega))))
    have hi : (i : Int) < y + 1 := hi
    show Va 0 i = 0
    rw [ea, uz_at, up_if]
    split
    · rfl
    · exact hz i (by omega)
/-- the empty register -/
theorem clr_SR {G V X V8 : Sz} (h0 : ∀ i : Nat, i < 1233 → V8 0 i = if i = 7 then 25 else if i = 6 then 1460 else if i = 5 then 25 else 0) (hG : G 0 0 = 25 ∧ G 1 0 = 1460 ∧ G 2 0 = 25 ∧ G 3 0 = 0 ∧ G 5 0 = 0 ∧ G 9 0 = 0 ∧ G 21 0 = 0) (h6 : V 6 0 = 0) (h24 : V8 24 0 = 0) : SR G V X V8 ∧ cntR V8 = 0 := by
  obtain ⟨g0, g1, g2, g3, g5, g9, g21⟩ := hG
  have e0 : V8 0 0 = 0 := h0 0 (by decide)
  have e1 : V8 0 1 = 0 := h0 1 (by decide)
  have e2 : V8 0 2 = 0 := h0 2 (by decide)
  have e4 : V8 0 4 = 0 := h0 4 (by decide)
  have e5 : V8 0 5 = 25 := h0 5 (by decide)
  have e6 : V8 0 6 = 1460 := h0 6 (by decide)
  have e7 : V8 0 7 = 25 := h0 7 (by decide)
  have hw : WF (V8 0) := by
    refine ⟨fun i hi => ?_, ?_, fun d d0 d1 => by rw [e0] at d1; omega, fun k k0 k1 => by rw [e1] at k1; omega, fun g g0 g1 => by rw [e2] at g1; omega, fun g i g0 g1 _ _ => by rw [e2] at g1; omega, fun g i j g0 g1 _ _ _ => by rw [e2] at g1; omega, fun g g0 g1 _ => by rw [e2] at g1; omega, fun c c0 c1 => by rw [e4] at c1; omega⟩
    · rw [h0 i hi]
      split
      · decide
      · split
        · decide
        · split <;> decide
    · unfold WFa
      rw [e0, e1, e2, e4, e5, e6, e7]
      decide
  refine ⟨⟨⟨⟨?_, fun d d0 d1 => by rw [e0] at d1; omega, fun k k0 k1 => by rw [e1] at k1; omega, fun g g0 g1 => by rw [e2] at g1; omega, fun p p0 p1 hb => ?_, fun i hi => by rw [e2] at hi; omega, fun c q c0 c1 _ _ => by rw [e4] at c1; omega⟩, hw, by rw [e1]; decide, fun g i g0 g1 _ _ => by rw [e2] at g1; omega⟩, fun d d0 d1 => by rw [e0] at d1; omega, by rw [h6, h24], by rw [h6]; decide, by rw [h6]; decide⟩, ?_⟩
  · unfold LRa
    rw [g0, g1, g2, g3, g5, g9, g21, e0, e1, e2, e4, e5, e6, e7]
    exact ⟨rfl, rfl, rfl, rfl, rfl, rfl, rfl⟩
  · have hs := part_split p0 hb
    rw [e2] at hs
    omega
  · unfold cntR
    rw [e0, e1, e2, h24]
    rfl
/-- the class's reader, with the reference's -/
theorem read_both {T : Nat → Int} {L : Int} (hT : BT T L) {V0 X0 G0 V10 : Sz} (hB : By T L V10) (h0 : ∀ i : Nat, i < 1233 → V10 0 i = if i = 7 then 25 else if i = 6 then 1460 else if i = 5 then 25 else 0) (h18 : V10 18 0 = 0) (h19 : V10 19 0 = -1) (h20 : V10 20 0 = 0) (h24 : V10 24 0 = 0) {n : Nat} (hn : 20000 < n) : TT (bd (f_X8_advanceToken n V10) fun (V_11 : Sz) => f_X8_readText n V_11) (fun q => KeepR V10 q.2 ∧ ∃ Vz Xz Gz : Sz, f_X6_readAll n V0 X0 T G0 L = some (Vz, Xz, Gz) ∧ TxOut q Vz Xz Gz) := by
  have hL := hT.1
  obtain ⟨Vi, evi⟩ : ∃ Vi : Sz, Vi = us (us (us (us (us V0 2 (min L 900)) 4 0) 0 0) 1 (-1)) 6 0 := ⟨_, rfl⟩
  obtain ⟨Gc, egc⟩ : ∃ Gc : Sz, Gc = us (us (us (us (us (us (us G0 0 25) 1 1460) 2 25) 3 0) 5 0) 9 0) 21 0 := ⟨_, rfl⟩
  have i0 : Vi 0 0 = 0 := by rw [evi]; rfl
  have i1 : Vi 1 0 = -1 := by rw [evi]; rfl
  have i2 : Vi 2 0 = L := by
    rw [evi]
    show min L 900 = L
    omega
  have i4 : Vi 4 0 = 0 := by rw [evi]; rfl
  have i6 : Vi 6 0 = 0 := by rw [evi]; rfl
  have hcl : f_X4_clear G0 = some Gc := by rw [egc]; rfl
  refine tt_bd (x8_next hT hB h20 (Int.le_refl _) hL.1 (n := n) (by omega)) (fun V11 ⟨ht, hk⟩ => ?_)
  have hJA : JA T L Vi V11 := by
    refine ⟨⟨⟨i0, i1, i2⟩, ?_, by rw [hk 18 (by decide) (by decide) (by decide) (by decide)]; exact h18, by rw [hk 19 (by decide) (by decide) (by decide) (by decide)]; exact h19⟩, by rw [i4]; exact ⟨Int.le_refl _, hL.1⟩, by rw [i4]; exact ht⟩
    unfold By at *
    rw [hk 15 (by decide) (by decide) (by decide) (by decide), hk 14 (by decide) (by decide) (by decide) (by decide)]; exact hB
  obtain ⟨⟨Vb, Xb⟩, eb, hA⟩ := c6_advance (V0 := Vi) (X0 := X0) (G := Gc) hT i2 hJA.2.1 (n := n) (by omega)
  have hJB : JB T L Vb Xb V11 := ja_adv hJA hA
  have eb6 : Vb 6 = Vi 6 := hA.2.1 6 (by decide) (by decide) (by decide)
  have hS := clr_SR (G := Gc) (V := Vb) (X := Xb) (V8 := V11) (fun i hi => by rw [hk 0 (by decide) (by decide) (by decide) (by decide)]; exact h0 i hi) (by rw [egc]; exact ⟨rfl, rfl, rfl, rfl, rfl, rfl, rfl⟩) (by rw [eb6]; exact i6) (by rw [hk 24 (by decide) (by decide) (by decide) (by decide)]; exact h24)
  unfold f_X8_readText
  refine tt_mono (text_both hT (n := n) (by omega) L 101 Vb Xb V11 Gc 0 n n hJB hS.1 (by rw [hS.2]; decide) (Int.le_refl _) (by rw [hS.2]; exact Int.le_refl _) (by omega) (by omega)) (fun q ⟨hkq, Vz, Xz, Gz, ez, ho⟩ => ⟨keepr_trans (fun j hj => hk j (by omega) (by omega) (by omega) (by omega)) hkq, Vz, Xz, Gz, ?_, ho⟩)
  unfold f_X6_readAll
  rw [ck_t ⟨by omega, by omega⟩, nm_s, nm_s, nm_s, nm_s, nm_s, ← evi, hcl, bd_s, eb, bd_s]
  exact ez
