/-! the aid of one donor -/
def aidO (w : Rw) (wd : Int → Int) (d : Int) (i : Nat) : Int := aidG (ordS w) (yrS w) wd (wLim w d) i
def donA (w : Rw) (wd : Int → Int) (d : Int) : Int := sumN (fun i => aidO w wd d i.toNat) (w 2).toNat
theorem aidO_place {w : Rw} (hw : WF w) {q : Nat} (hq : (q : Int) < w 2) {d : Int} (d0 : 0 ≤ d) (d1 : d < w 0) : sumN (fun i => if wPd w (3 * ordS w q + i) = d then aidS w (3 * ordS w q + i) else 0) (wMany w (ordS w q)).toNat = aidO w (wishD w d) d q := by
  have hg := ordS_in hq
  have hgw := hw.2.2.2.2.1 _ hg.1 hg.2
  by_cases c : ∃ i : Int, 0 ≤ i ∧ i < wMany w (ordS w q) ∧ wPd w (3 * ordS w q + i) = d
  · obtain ⟨i, i0, i1, ei⟩ := c
    have hpt := part_of hw hg.1 hg.2 i0 i1
    rw [sumN_one (i := i) i0 (by omega) (fun j j0 j1 hne => if_neg (fun e => ?_)), if_pos ei, aidS_part hw hq i0 i1]
    · unfold aidP aidO aidG usS
      rw [← ei, wishD_part hw hg.1 hg.2 i0 i1, hpt.2.1]
    · rcases Int.lt_trichotomy j i with h | h | h
      · exact hw.2.2.2.2.2.2.1 _ j i hg.1 hg.2 j0 h i1 (e.trans ei.symm)
      · exact hne h
      · exact hw.2.2.2.2.2.2.1 _ i j hg.1 hg.2 i0 h (by omega) (ei.trans e.symm)
  · have hb := usS_bd hw d0 d1 (yrS w (ordS w q)) (i := q) (by omega)
    rw [sumN_zero (fun i i0 i1 => if_neg (fun e => c ⟨i, i0, by omega, e⟩))]
    have e0 : wishD w d (ordS w q) = 0 := wishD_none (fun i i0 i1 e => c ⟨i, i0, i1, e⟩)
    unfold aidO aidG
    unfold usS at hb
    rw [e0]; omega
theorem donA_sum {w : Rw} (hw : WF w) {d : Int} (d0 : 0 ≤ d) (d1 : d < w 0) : sumPS w (fun p => if wPd w p = d then aidS w p else 0) = donA w (wishD w d) d := by
  have a2 := hw.2.1.2.2.1
  rw [sumPS_gifts hw, ← ordA_sum (wDay w) (fun g => sumN (fun i => if wPd w (3 * g + i) = d then aidS w (3 * g + i) else 0) (wMany w g).toNat) (w 2).toNat]
  refine sumN_congr (fun i i0 i1 => ?_)
  exact aidO_place hw (q := i.toNat) (by omega) d0 d1
theorem sumPS_donors {w : Rw} (hw : WF w) (F : Int → Int) : sumPS w F = sumN (fun d => sumPS w (fun p => if wPd w p = d then F p else 0)) (w 0).toNat := by
  have a0 := hw.2.1.1
  unfold sumPS
  rw [sumN_swap (fun p d => if partB w p = true then (if wPd w p = d then F p else 0) else 0)]
  refine sumN_congr (fun p p0 p1 => ?_)
  by_cases c : partB w p = true
  · have hs := part_split p0 c
    have hpw := hw.2.2.2.2.2.1 _ _ hs.1 hs.2.1 hs.2.2.1 hs.2.2.2.1
    rw [hs.2.2.2.2] at hpw
    rw [if_pos c, sumN_one (i := wPd w p) hpw.1 (by omega) (fun j j0 j1 hne => by rw [if_pos c, if_neg (fun e => hne e.symm)]), if_pos c, if_pos rfl]
  · rw [if_neg c, sumN_zero (fun j j0 j1 => if_neg c)]
theorem aid_donors {w : Rw} (hw : WF w) : sumPS w (aidS w) = sumN (fun d => donA w (wishD w d) d) (w 0).toNat := by
  have a0 := hw.2.1.1
  rw [sumPS_donors hw]
  exact sumN_congr (fun d d0 d1 => donA_sum hw d0 (by omega))
theorem sumPS_nonneg {w : Rw} {F : Int → Int} (h : ∀ p : Int, 0 ≤ p → p < 180 → partB w p = true → 0 ≤ F p) : 0 ≤ sumPS w F := by
  unfold sumPS
  refine sumN_nonneg (fun p p0 p1 => ?_)
  split
  · exact h p p0 (by omega) (by assumption)
  · exact Int.le_refl _
theorem sumPS_le {w : Rw} {F : Int → Int} {c : Int} (hc : 0 ≤ c) (h : ∀ p : Int, 0 ≤ p → p < 180 → partB w p = true → F p ≤ c) : sumPS w F ≤ 180 * c := by
  unfold sumPS
  refine sumN_le (n := 180) (fun p p0 p1 => ?_)
  split
  · exact h p p0 (by omega) (by assumption)
  · exact hc
/-- the sum over the slots of the gifts that are there -/
theorem sumPS_cut {w : Rw} (hw : WF w) (F : Int → Int) : sumN (fun p => if partB w p = true then F p else 0) (w 2 * 3).toNat = sumPS w F := by
  have a2 := hw.2.1.2.2.1
  unfold sumPS
  refine (sumN_cut (by omega) (fun p p0 p1 => if_neg ?_)).symm
  unfold partB
  rw [decide_eq_false (show ¬ p / 3 < w 2 by omega), Bool.and_false]
  decide
theorem c3_isPart {V : Sz} {w : Rw} (h : LR0 V w) (hw : WF w) {p : Int} (p0 : 0 ≤ p) (p1 : p < w 2 * 3) : f_X3_isPart (sv 9 V) p = some (partB w p) := by
  have hg := h.2.2.2.1 (p / 3) (by omega) (by omega)
  have hgw := hw.2.2.2.2.1 (p / 3) (by omega) (by omega)
  have a2 := hw.2.1.2.2.1
  unfold f_X3_isPart partB
  rw [sv_at, hg.2.2.2.2, ck_t ⟨p0, by omega⟩, ck_t ⟨by omega, by omega⟩, ck_t ⟨⟨by omega, by omega⟩, ⟨by omega, by omega⟩⟩, decide_eq_true (show p / 3 < w 2 by omega), Bool.and_true]
  by_cases c : wMany w (p / 3) ≤ p % 3
  · rw [if_pos c, decide_eq_false (by omega)]
  · rw [if_neg c, decide_eq_true (by omega)]
theorem c3_isPartOf {V : Sz} {w : Rw} (h : LR0 V w) (hw : WF w) {p d : Int} (p0 : 0 ≤ p) (p1 : p < w 2 * 3) (hd : rng d) : f_X3_isPartOf (sv 9 V) p d = some (partB w p && decide (wPd w p = d)) := by
  have a0 := hw.2.1.1
  have a2 := hw.2.1.2.2.1
  unfold f_X3_isPartOf
  rw [c3_isPart h hw p0 p1, bd_s]
  by_cases c : partB w p = true
  · have hs := part_split p0 c
    have hpw := hw.2.2.2.2.2.1 _ _ hs.1 hs.2.1 hs.2.2.1 hs.2.2.2.1
    rw [hs.2.2.2.2] at hpw
    have hp := h.2.2.2.2.1 p p0 (by omega) c
    rw [if_neg (by rw [c]; decide), ck_t ⟨p0, by omega⟩, sv_at, hp.1, ck_t ⟨⟨by omega, by omega⟩, hd⟩, c, Bool.true_and]
    by_cases c2 : wPd w p = d
    · rw [if_pos c2, decide_eq_true c2]
    · rw [if_neg c2, decide_eq_false c2]
  · have c3 : partB w p = false := by
      cases hb : partB w p with
      | false => rfl
      | true => exact (c hb).elim
    rw [if_pos c3, c3]; rfl
/-- a part of a donor, in a year or all -/
def inS (w : Rw) (d y p : Int) : Prop := wPd w p = d ∧ (y = -1 ∨ yrS w (p / 3) = y)
noncomputable def sumD (w : Rw) (d what y : Int) : Int := sumPS w (fun p => @ite Int (inS w d y p) (Classical.propDecidable _) (measS w what p) 0)
theorem c4_sumOfDonor {V : Sz} {w : Rw} (h : LR V w) {n : Nat} (hn : 1000 ≤ n) {d what y : Int} (hd : rng d) (hr : rng what) (hy : rng y) : f_X4_sumOfDonor n V d what y = some (sumD w d what y) := by
  have h0 := h.1
  have hw := h.2.2.1
  have a2 := hw.2.1.2.2.1
  have e9 : V 9 0 = w 2 := h0.1.2.2.2.2.2.1
  obtain ⟨F, hF⟩ : ∃ F : Int → Int, F = fun p => @ite Int (inS w d y p) (Classical.propDecidable _) (measS w what p) 0 := ⟨_, rfl⟩
  refine tt_eq ?_
  unfold f_X4_sumOfDonor
  refine tt_lp (I := fun s : Int × Int => (0 ≤ s.2 ∧ s.2 ≤ w 2 * 3) ∧ s.1 = sumN (fun p => if partB w p = true then F p else 0) s.2.toNat) (μ := fun s => (w 2 * 3 - s.2).toNat) ?_ n (0, 0) ⟨⟨Int.le_refl _, by show 0 ≤ w 2 * 3; omega⟩, rfl⟩ (by show (w 2 * 3 - (0 : Int)).toNat < n; omega)
  rintro ⟨sm, p⟩ rec ⟨⟨p0, p1⟩, es⟩ ih
  simp only at p0 p1 es
  have next : ∀ v : Int, v = sm + (if partB w p = true then F p else 0) → p < w 2 * 3 → TT (jX4_sumOfDonor_75 n V d what y rec v p) (fun r => r = sumD w d what y) := by
    intro v ev hp
    unfold jX4_sumOfDonor_75
    refine tt_nm (ih (v, p + 1) ⟨⟨by show 0 ≤ p + 1; omega, by show p + 1 ≤ w 2 * 3; omega⟩, ?_⟩ (by show (w 2 * 3 - (p + 1)).toNat < (w 2 * 3 - p).toNat; omega))
    show v = sumN (fun p => if partB w p = true then F p else 0) (p + 1).toNat
    rw [sumN_step _ p0, ← es, ev]
  rw [bX4_sumOfDonor_6_e]
  have esc : f_X3_slotCount (sv 9 V) = some (w 2 * 3) := by
    unfold f_X3_slotCount
    rw [sv_at, e9]
  rw [esc, bd_s]
  refine tt_ck ⟨⟨by omega, by omega⟩, ⟨by omega, by omega⟩⟩ (tt_ite (fun c => tt_some ?_) (fun c => ?_))
  · rw [es, show p = w 2 * 3 by omega, sumPS_cut hw, hF]; rfl
  have fin : (y = -1 ∨ yrS w (p / 3) = y) → TT (jX4_sumOfDonor_43 n V d what y rec sm p 1) (fun r => r = sumD w d what y) := by
    intro hyy
    unfold jX4_sumOfDonor_43
    refine tt_ck ⟨by decide, by decide⟩ (tt_f (by decide) ?_)
    rw [c3_isPartOf h0 hw p0 (by omega) hd, bd_s]
    refine tt_ite (fun c2 => next sm ?_ (by omega)) (fun c2 => ?_)
    · rcases Bool.and_eq_false_iff.mp c2 with c2 | c2
      · rw [if_neg (by rw [c2]; decide)]; omega
      · have c3 : ¬ wPd w p = d := of_decide_eq_false c2
        have : F p = 0 := by rw [hF]; exact if_neg (fun q => c3 q.1)
        rw [this]
        split <;> omega
    · have c3 := eq_true_of_ne_false c2
      rw [Bool.and_eq_true] at c3
      have c4 : partB w p = true := c3.1
      have c5 : wPd w p = d := of_decide_eq_true c3.2
      have hs := part_split p0 c4
      have hm := c4_measure h hs.1 hs.2.1 hs.2.2.1 hs.2.2.2.1 hr
      rw [hs.2.2.2.2] at hm
      rw [hm, bd_s]
      refine tt_nm (next _ ?_ (by omega))
      have : F p = measS w what p := by rw [hF]; exact if_pos ⟨c5, hyy⟩
      rw [if_pos c4, this]
  refine tt_ck hy (tt_ite (fun c2 => fin (Or.inl c2)) (fun c2 => ?_))
  refine tt_ck ⟨p0, by omega⟩ ?_
  rw [c3_yearOf h0 hw (by omega) (by omega), bd_s]
  have hyb := yr_bd hw (g := p / 3) (by omega) (by omega)
  refine tt_ck ⟨by omega, by omega⟩ (tt_ite (fun c3 => fin (Or.inr c3)) (fun c3 => ?_))
  unfold jX4_sumOfDonor_43
  refine tt_ck ⟨by decide, by decide⟩ (tt_t rfl (next sm ?_ (by omega)))
  have : F p = 0 := by
    rw [hF]
    refine if_neg (fun q => ?_)
    rcases q.2 with q | q
    · exact c2 q
    · exact c3 q
  rw [this]
  split <;> omega
