/-! a claim -/
def clD (w : Rw) (day p : Int) : Int := if partB w p = true then claS w day p else 0
def cl1 (w : Rw) (day : Int) (q : Int) : Int := sumN (fun p => max 0 (clD w day p)) q.toNat
def cl2 (w : Rw) (day : Int) (q : Int) : Int := sumN (fun p => max 0 (-clD w day p)) q.toNat
def cl3 (w : Rw) (day : Int) (q : Int) : Int := sumN (fun p => if 0 < clD w day p then 1 else 0) q.toNat
def cl4 (w : Rw) (day : Int) (q : Int) : Int := sumN (fun p => if clD w day p < 0 then 1 else 0) q.toNat
theorem clD_bd {w : Rw} (hw : WF w) {day p : Int} (p0 : 0 ≤ p) : -999999 ≤ clD w day p ∧ clD w day p ≤ 999999 := by
  unfold clD
  split
  · exact claS_bd hw p0 (by assumption)
  · decide
/-- what is claimed of a part stays in range -/
theorem clD_new {w : Rw} (hw : WF w) {day p : Int} (p0 : 0 ≤ p) (hb : partB w p = true) : (clD w day p = 0 ∨ wPc w p + clD w day p = aidS w p) ∧ 0 ≤ wPc w p + clD w day p ∧ wPc w p + clD w day p ≤ 999999 := by
  have hab := aidS_bd hw p0 hb
  have hcb := wPc_bd hw p0 hb
  unfold clD claS
  rw [if_pos hb]
  split
  · split
    · omega
    · split <;> omega
  · omega
theorem cl_step {w : Rw} {day p : Int} (p0 : 0 ≤ p) : cl1 w day (p + 1) = cl1 w day p + max 0 (clD w day p) ∧ cl2 w day (p + 1) = cl2 w day p + max 0 (-clD w day p) ∧ cl3 w day (p + 1) = cl3 w day p + (if 0 < clD w day p then 1 else 0) ∧ cl4 w day (p + 1) = cl4 w day p + (if clD w day p < 0 then 1 else 0) :=
  ⟨sumN_step _ p0, sumN_step _ p0, sumN_step _ p0, sumN_step _ p0⟩
theorem cl_bd {w : Rw} (hw : WF w) {day q : Int} (q0 : 0 ≤ q) (q1 : q ≤ 180) : (0 ≤ cl1 w day q ∧ cl1 w day q ≤ 180 * 999999) ∧ (0 ≤ cl2 w day q ∧ cl2 w day q ≤ 180 * 999999) ∧ (0 ≤ cl3 w day q ∧ cl3 w day q ≤ 180) ∧ (0 ≤ cl4 w day q ∧ cl4 w day q ≤ 180) := by
  have h1 := sumN_le (f := fun p => max 0 (clD w day p)) (c := 999999) (n := q.toNat) (fun p p0 p1 => by have := clD_bd hw (day := day) p0; show max 0 (clD w day p) ≤ 999999; omega)
  have h2 := sumN_le (f := fun p => max 0 (-clD w day p)) (c := 999999) (n := q.toNat) (fun p p0 p1 => by have := clD_bd hw (day := day) p0; show max 0 (-clD w day p) ≤ 999999; omega)
  have h3 := sumN_le (f := fun p => if 0 < clD w day p then 1 else 0) (c := 1) (n := q.toNat) (fun p p0 p1 => by show (if _ then _ else _) ≤ (1 : Int); split <;> decide)
  have h4 := sumN_le (f := fun p => if clD w day p < 0 then 1 else 0) (c := 1) (n := q.toNat) (fun p p0 p1 => by show (if _ then _ else _) ≤ (1 : Int); split <;> decide)
  have n1 := sumN_nonneg (f := fun p => max 0 (clD w day p)) (n := q.toNat) (fun p p0 p1 => by show 0 ≤ max 0 (clD w day p); omega)
  have n2 := sumN_nonneg (f := fun p => max 0 (-clD w day p)) (n := q.toNat) (fun p p0 p1 => by show 0 ≤ max 0 (-clD w day p); omega)
  have n3 := sumN_nonneg (f := fun p => if 0 < clD w day p then 1 else 0) (n := q.toNat) (fun p p0 p1 => by show (0 : Int) ≤ (if _ then _ else _); split <;> decide)
  have n4 := sumN_nonneg (f := fun p => if clD w day p < 0 then 1 else 0) (n := q.toNat) (fun p p0 p1 => by show (0 : Int) ≤ (if _ then _ else _); split <;> decide)
  unfold cl1 cl2 cl3 cl4
  omega
theorem cl_none {w : Rw} {day p : Int} (h : clD w day p = 0) (p0 : 0 ≤ p) : cl1 w day (p + 1) = cl1 w day p ∧ cl2 w day (p + 1) = cl2 w day p ∧ cl3 w day (p + 1) = cl3 w day p ∧ cl4 w day (p + 1) = cl4 w day p := by
  have s := cl_step (w := w) (day := day) p0
  rw [h] at s
  omega
/-- the cells of a claim, q slots looked at -/
def clC (w : Rw) (day q k : Int) : Int := if k = 0 then day else if k = 1 then cl1 w day q else if k = 2 then cl2 w day q else if k = 3 then cl3 w day q else cl4 w day q
/-- the row while a claim is made: q slots are looked at -/
def ClaRow (w : Rw) (day q : Int) (w1 : Rw) : Prop := ∀ i : Nat, w1 i = if 1133 + 5 * w 4 ≤ (i : Int) ∧ (i : Int) < 1133 + 5 * w 4 + 5 then clC w day q ((i : Int) - (1133 + 5 * w 4)) else if 953 ≤ (i : Int) ∧ (i : Int) < 953 + q then w i + clD w day ((i : Int) - 953) else w i
theorem cla_aeq {w w1 : Rw} {day q : Int} (h : ClaRow w day q w1) (hw : WF w) : Aeq w w1 ∧ ∀ i : Nat, i < 953 → w1 i = w i := by
  have a1 := hw.2.1.2.1
  have a4 := hw.2.1.2.2.2.1
  have e : ∀ i : Nat, i < 953 → w1 i = w i := fun i hi => by rw [h i, if_neg (by omega), if_neg (by omega)]
  refine ⟨⟨⟨e 0 (by decide), e 1 (by decide), e 2 (by decide), e 5 (by decide), e 7 (by decide)⟩, fun i _ i1 => e i (by omega), fun k k0 k1 => ?_, fun i _ i1 => e i i1⟩, e⟩
  exact ⟨e _ (by omega), e _ (by omega), e _ (by omega)⟩
theorem cla_n {w w1 : Rw} {day q : Int} (h : ClaRow w day q w1) (hw : WF w) (hd : 0 ≤ day ∧ day ≤ 9999) (q0 : 0 ≤ q) (q1 : q ≤ 180) : WFn w1 := fun i hi => by
  have b := cl_bd hw (day := day) q0 q1
  rw [h i]
  split
  · unfold clC
    repeat' split
    all_goals constructor <;> omega
  · split
    · by_cases c : partB w ((i : Int) - 953) = true
      · have := clD_new hw (day := day) (show 0 ≤ (i : Int) - 953 by omega) c
        have e : w i = wPc w ((i : Int) - 953) := by
          unfold wPc
          rw [show (953 + ((i : Int) - 953)).toNat = i by omega]
        rw [e]
        constructor <;> omega
      · have : clD w day ((i : Int) - 953) = 0 := by unfold clD; exact if_neg c
        rw [this, Int.add_zero]
        exact hw.1 i hi
    · exact hw.1 i hi
theorem cla_WF {w w1 : Rw} {day : Int} (h : ClaRow w day 180 w1) (hw : WF w) (hd : 0 ≤ day ∧ day ≤ 9999) (h4 : w 4 < 20) : WF (up w1 4 (w 4 + 1)) ∧ Aeq w (up w1 4 (w 4 + 1)) := by
  have a0 := hw.2.1.1
  have a1 := hw.2.1.2.1
  have a2 := hw.2.1.2.2.1
  have a4 := hw.2.1.2.2.2.1
  obtain ⟨hA, he⟩ := cla_aeq h hw
  have hn := cla_n h hw hd (by decide) (by decide)
  have e : ∀ i : Nat, i ≠ 4 → up w1 4 (w 4 + 1) i = w1 i := fun i hi => up_ne hi
  have h1 : Aeq w (up w1 4 (w 4 + 1)) := by
    refine ⟨⟨(e 0 (by decide)).trans (he 0 (by decide)), (e 1 (by decide)).trans (he 1 (by decide)), (e 2 (by decide)).trans (he 2 (by decide)), (e 5 (by decide)).trans (he 5 (by decide)), (e 7 (by decide)).trans (he 7 (by decide))⟩, fun i i0 i1 => (e i (by omega)).trans (he i (by omega)), fun k k0 k1 => ?_, fun i i0 i1 => (e i (by omega)).trans (he i i1)⟩
    exact ⟨(e _ (by omega)).trans (he _ (by omega)), (e _ (by omega)).trans (he _ (by omega)), (e _ (by omega)).trans (he _ (by omega))⟩
  refine ⟨?_, h1⟩
  obtain ⟨-, ha, hdd, hk, hg, hp, hx, hs, hc⟩ := id hw
  obtain ⟨e0, e1, e2, e5, e7⟩ := h1.1
  refine ⟨fun i hi => ?_, ?_, fun d d0 d1 => ?_, fun k k0 k1 => ?_, fun g g0 g1 => ?_, fun g i g0 g1 i0 i1 => ?_, fun g i j g0 g1 i0 ij j1 => ?_, fun g g0 g1 hm => ?_, fun c c0 c1 => ?_⟩
  · rw [up_if]
    split
    · constructor <;> omega
    · exact hn i hi
  · obtain ⟨b0, b1, b2, b4, b5, b6, b7⟩ := ha
    unfold WFa
    rw [e0, e1, e2, e5, e7, up_at, e 6 (by decide), he 6 (by decide)]
    exact ⟨b0, b1, b2, by omega, b5, b6, b7⟩
  · rw [e0] at d1
    rw [aeq_lim h1 d0 (by omega)]; exact hdd d d0 d1
  · rw [e1] at k1
    have x := h1.2.2.1 k k0 k1
    rw [x.1, x.2.1, x.2.2, e0]; exact hk k k0 k1
  · rw [e2] at g1
    have x := aeq_gift h1 g0 (by omega)
    rw [x.1, x.2.1, x.2.2.1, x.2.2.2.1, x.2.2.2.2]; exact hg g g0 g1
  · rw [e2] at g1
    have x := aeq_gift h1 g0 (by omega)
    have hgg := hg g g0 g1
    rw [x.2.2.2.1] at i1
    have es := aeq_slot h1 (p := 3 * g + i) (by omega) (by omega)
    have hb := part_B hw g0 g1 i0 i1
    have hcl := clD_new hw (day := day) (show 0 ≤ 3 * g + i by omega) hb
    have ec : wPc (up w1 4 (w 4 + 1)) (3 * g + i) = wPc w (3 * g + i) + clD w day (3 * g + i) := by
      unfold wPc
      rw [e _ (by omega), h, if_neg (by omega), if_pos (by omega), show (((953 + (3 * g + i)).toNat : Nat) : Int) - 953 = 3 * g + i by omega]
    have hpp := hp g i g0 g1 i0 i1
    rw [es.1, es.2.1, es.2.2, e0, ec]
    omega
  · rw [e2] at g1
    have x := aeq_gift h1 g0 (by omega)
    have hgg := hg g g0 g1
    rw [x.2.2.2.1] at j1
    rw [(aeq_slot h1 (p := 3 * g + i) (by omega) (by omega)).1, (aeq_slot h1 (p := 3 * g + j) (by omega) (by omega)).1]
    exact hx g i j g0 g1 i0 ij j1
  · rw [e2] at g1
    have x := aeq_gift h1 g0 (by omega)
    have hgg := hg g g0 g1
    rw [x.2.2.2.1] at hm ⊢
    rw [x.2.1, x.2.2.2.2]
    have q := hs g g0 g1 hm
    rw [← q.1, ← q.2]
    exact ⟨sumN_congr (fun i i0 i1 => (aeq_slot h1 (by omega) (by omega)).2.1), sumN_congr (fun i i0 i1 => (aeq_slot h1 (by omega) (by omega)).2.2)⟩
  · rw [up_at] at c1
    unfold wCl
    rw [e _ (by omega), h]
    by_cases q : c = w 4
    · rw [if_pos (by omega), show (((1133 + 5 * c + 0).toNat : Nat) : Int) - (1133 + 5 * w 4) = 0 by omega]
      exact hd
    · rw [if_neg (by omega), if_neg (by omega)]
      exact hc c c0 (by omega)
/-! the class's difference, while a claim is made -/
theorem c4_diff_on {V0 V : Sz} {w : Rw} (h : LR V0 w) (hv : ∀ k : Nat, k ≠ 20 → k ≠ 21 → k ≠ 22 → V k = V0 k) {p day : Int} (p0 : 0 ≤ p) (p1 : p < w 2 * 3) (h20 : V 20 p.toNat = V0 20 p.toNat) (d0 : 0 ≤ day) (d1 : day ≤ 9999) : f_X4_differenceOn V p day = some (clD w day p) := by
  have e : f_X4_differenceOn V p day = f_X4_differenceOn V0 p day := by
    unfold f_X4_differenceOn f_X3_dayOfPart f_X3_isPart sv
    rw [hv (1 + 9) (by decide) (by decide) (by decide), hv (5 + 9) (by decide) (by decide) (by decide), hv 25 (by decide) (by decide) (by decide), hv 1 (by decide) (by decide) (by decide), h20]
  rw [e]
  exact c4_differenceOn h p0 p1 d0 d1
/-- what enter does with a claim's cells -/
theorem c0_enter {V0 : Sz} {c x : Int} (h0 : V0 0 0 = c + 1) (hc : 0 ≤ c ∧ c < 20) (hx : rng x) : TT (f_X0_enter V0 x) (fun V => V 0 = V0 0 ∧ ∀ i : Nat, V 1 i = V0 1 i + (if (i : Int) = 5 * c + 1 then max 0 x else if (i : Int) = 5 * c + 2 then max 0 (-x) else if (i : Int) = 5 * c + 3 then (if 0 < x then 1 else 0) else if (i : Int) = 5 * c + 4 then (if x < 0 then 1 else 0) else 0)) := by
  unfold f_X0_enter
  rw [h0]
  refine tt_ck ⟨by omega, by omega⟩ (tt_f (by omega) (tt_nmE (fun r er => tt_ck hx ?_)))
  have er : r = 5 * c := by omega
  subst er
  refine tt_ite (fun c1 => tt_ite (fun c2 => tt_some ⟨rfl, fun i => ?_⟩) (fun c2 => ?_)) (fun c1 => ?_)
  · have ex : x = 0 := by omega
    subst ex
    split
    · omega
    · split
      · omega
      · split
        · rw [if_neg (by decide)]; omega
        · split
          · rw [if_neg (by decide)]; omega
          · omega
  · refine tt_ck ⟨by omega, by omega⟩ (tt_nmE (fun Va ea => tt_ck ⟨by omega, by omega⟩ (tt_nmE (fun Vb eb => tt_some ⟨by rw [eb, uz_ne (by decide), ea, uz_ne (by decide)], fun i => ?_⟩))))
    rw [eb, uz_at, up_if, ea, uz_at, up_if, up_if, if_neg (show ¬ (5 * c + 4).toNat = (5 * c + 2).toNat by omega)]
    by_cases e4 : i = (5 * c + 4).toNat
    · rw [if_pos e4, if_neg (by omega), if_neg (by omega), if_neg (by omega), if_pos (by omega), if_pos (by omega), e4]
    · rw [if_neg e4]
      by_cases e2 : i = (5 * c + 2).toNat
      · rw [if_pos e2, if_neg (by omega), if_pos (by omega), e2]; omega
      · rw [if_neg e2]
        by_cases e1 : (i : Int) = 5 * c + 1
        · rw [if_pos e1]; omega
        · rw [if_neg e1, if_neg (by omega)]
          by_cases e3 : (i : Int) = 5 * c + 3
          · rw [if_pos e3, if_neg (by omega)]; omega
          · rw [if_neg e3, if_neg (by omega)]; omega
  · refine tt_ck ⟨by omega, by omega⟩ (tt_nmE (fun Va ea => tt_ck ⟨by omega, by omega⟩ (tt_nmE (fun Vb eb => tt_some ⟨by rw [eb, uz_ne (by decide), ea, uz_ne (by decide)], fun i => ?_⟩))))
    rw [eb, uz_at, up_if, ea, uz_at, up_if, up_if, if_neg (show ¬ (5 * c + 3).toNat = (5 * c + 1).toNat by omega)]
    by_cases e3 : i = (5 * c + 3).toNat
    · rw [if_pos e3, if_neg (by omega), if_neg (by omega), if_pos (by omega), if_pos (by omega), e3]
    · rw [if_neg e3]
      by_cases e1 : i = (5 * c + 1).toNat
      · rw [if_pos e1, if_pos (by omega), e1]; omega
      · rw [if_neg e1, if_neg (by omega)]
        by_cases e2 : (i : Int) = 5 * c + 2
        · rw [if_pos e2]; omega
        · rw [if_neg e2, if_neg (by omega)]
          by_cases e4 : (i : Int) = 5 * c + 4
          · rw [if_pos e4, if_neg (by omega)]; omega
          · rw [if_neg e4]; omega
theorem clD_out {w : Rw} (hw : WF w) {day p : Int} (h : w 2 * 3 ≤ p) : clD w day p = 0 := by
  unfold clD partB
  rw [decide_eq_false (show ¬ p / 3 < w 2 by omega), Bool.and_false]
  exact if_neg (by decide)
theorem cl_cut {w : Rw} (hw : WF w) {day : Int} : cl1 w day (w 2 * 3) = cl1 w day 180 ∧ cl2 w day (w 2 * 3) = cl2 w day 180 ∧ cl3 w day (w 2 * 3) = cl3 w day 180 ∧ cl4 w day (w 2 * 3) = cl4 w day 180 := by
  have a2 := hw.2.1.2.2.1
  refine ⟨(sumN_cut (by omega) (fun p p0 p1 => ?_)).symm, (sumN_cut (by omega) (fun p p0 p1 => ?_)).symm, (sumN_cut (by omega) (fun p p0 p1 => ?_)).symm, (sumN_cut (by omega) (fun p p0 p1 => ?_)).symm⟩
  · show max 0 (clD w day p) = 0
    rw [clD_out hw (by omega)]; rfl
  · show max 0 (-clD w day p) = 0
    rw [clD_out hw (by omega)]; rfl
  · show (if 0 < clD w day p then 1 else 0) = (0 : Int)
    rw [clD_out hw (by omega)]; rfl
  · show (if clD w day p < 0 then 1 else 0) = (0 : Int)
    rw [clD_out hw (by omega)]; rfl
