/-! the reference's wishes and aid -/
theorem sumN_one {f : Int → Int} {i : Int} : ∀ {n : Nat}, 0 ≤ i → i < (n : Int) → (∀ j : Int, 0 ≤ j → j < (n : Int) → j ≠ i → f j = 0) → sumN f n = f i := by
  intro n
  induction n with
  | zero => intro h0 h1; omega
  | succ n ih =>
    intro h0 h1 h
    rw [sumN_succ]
    by_cases e : i = (n : Int)
    · rw [sumN_zero (fun j a b => h j a (by omega) (by omega)), e]; omega
    · rw [ih h0 (by omega) (fun j a b c => h j a (by omega) c), h n (by omega) (by omega) (fun q => e q.symm)]; omega
theorem mul_bd {a r : Int} (ha : 0 ≤ a) (h0 : 0 ≤ r) (h1 : r ≤ 100) : 0 ≤ a * r / 100 ∧ a * r / 100 ≤ a := by
  have m0 : 0 ≤ a * r := Int.mul_nonneg ha h0
  have m1 : a * r ≤ a * 100 := Int.mul_le_mul_of_nonneg_left h1 ha
  omega
theorem fullS_bd {w : Rw} (hw : WF w) {g i : Int} (g0 : 0 ≤ g) (g1 : g < w 2) (i0 : 0 ≤ i) (i1 : i < wMany w g) : 0 ≤ leftS w (3 * g + i) ∧ leftS w (3 * g + i) ≤ 999999 ∧ 0 ≤ fullS w (3 * g + i) ∧ fullS w (3 * g + i) ≤ leftS w (3 * g + i) := by
  obtain ⟨-, ⟨-, -, -, -, a5, -⟩, -, -, -, hp, -⟩ := hw
  have hp := hp g i g0 g1 i0 i1
  have h1 : 0 ≤ leftS w (3 * g + i) ∧ leftS w (3 * g + i) ≤ 999999 := by unfold leftS; omega
  have h2 := mul_bd h1.1 a5.1 a5.2
  exact ⟨h1.1, h1.2, h2.1, h2.2⟩
theorem part_of {w : Rw} (hw : WF w) {g i : Int} (g0 : 0 ≤ g) (g1 : g < w 2) (i0 : 0 ≤ i) (i1 : i < wMany w g) : (0 ≤ 3 * g + i ∧ 3 * g + i < 180) ∧ (3 * g + i) / 3 = g ∧ (3 * g + i) % 3 = i ∧ i < 3 := by
  obtain ⟨-, ⟨-, -, a2, -⟩, -, -, hg, -⟩ := hw
  have hg := hg g g0 g1
  omega
theorem openS_bd {w : Rw} (hw : WF w) {g i : Int} (g0 : 0 ≤ g) (g1 : g < w 2) (i0 : 0 ≤ i) (i1 : i < wMany w g) : 0 ≤ openS w (3 * g + i) ∧ openS w (3 * g + i) ≤ 999999 := by
  have h := fullS_bd hw g0 g1 i0 i1
  unfold openS
  split <;> omega
theorem wishS_bd {w : Rw} (hw : WF w) {g i : Int} (g0 : 0 ≤ g) (g1 : g < w 2) (i0 : 0 ≤ i) (i1 : i < wMany w g) : 0 ≤ wishS w (3 * g + i) ∧ wishS w (3 * g + i) ≤ 999999 := by
  have h := openS_bd hw g0 g1 i0 i1
  unfold wishS
  split <;> omega
theorem wishD_part {w : Rw} (hw : WF w) {g i : Int} (g0 : 0 ≤ g) (g1 : g < w 2) (i0 : 0 ≤ i) (i1 : i < wMany w g) : wishD w (wPd w (3 * g + i)) g = wishS w (3 * g + i) := by
  obtain ⟨-, -, -, -, -, -, hx, -⟩ := hw
  unfold wishD
  rw [sumN_one (i := i) i0 (by omega) (fun j j0 j1 hne => if_neg (fun e => ?_)), if_pos rfl]
  rcases Int.lt_trichotomy j i with h | h | h
  · exact hx g j i g0 g1 j0 h i1 e
  · exact hne h
  · exact hx g i j g0 g1 i0 h (by omega) e.symm
theorem wishD_none {w : Rw} {g d : Int} (h : ∀ i : Int, 0 ≤ i → i < wMany w g → wPd w (3 * g + i) ≠ d) : wishD w d g = 0 := by
  unfold wishD
  exact sumN_zero (fun j j0 j1 => if_neg (h j j0 (by omega)))
theorem wishD_nonneg {w : Rw} (hw : WF w) {g d : Int} (g0 : 0 ≤ g) (g1 : g < w 2) : 0 ≤ wishD w d g := by
  unfold wishD
  refine sumN_nonneg (fun j j0 j1 => ?_)
  split
  · exact (wishS_bd hw g0 g1 j0 (by omega)).1
  · exact Int.le_refl _
theorem ordS_in {w : Rw} {q : Nat} (hq : (q : Int) < w 2) : 0 ≤ ordS w q ∧ ordS w q < w 2 := by
  have := ordA_in (wDay w) (n := (w 2).toNat) (i := q) (by omega)
  unfold ordS
  omega
theorem plcS_ord {w : Rw} {q : Nat} (hq : (q : Int) < w 2) : plcS w (ordS w q) = q := by
  unfold plcS
  rw [sumN_one (i := (q : Int)) (by omega) (by omega) (fun j j0 j1 hne => if_neg (fun e => hne ?_)), show ((q : Int)).toNat = q by omega, if_pos rfl]
  · omega
  · have := ordA_inj (wDay w) (n := (w 2).toNat) (i := j.toNat) (j := q) (by omega) (by omega) e
    omega
theorem usS_bd {w : Rw} (hw : WF w) {d : Int} (d0 : 0 ≤ d) (d1 : d < w 0) (y : Int) {i : Nat} (hi : (i : Int) ≤ w 2) : 0 ≤ usS w d y i ∧ usS w d y i ≤ wLim w d ∧ wLim w d ≤ 999999 := by
  have hl := hw.2.2.1 d d0 d1
  have h := usedS_bd (o := ordS w) (yr := yrS w) (wd := wishD w d) (y := y) hl.1 i (fun j hj => wishD_nonneg hw (ordS_in (by omega)).1 (ordS_in (by omega)).2)
  exact ⟨h.1, h.2, hl.2⟩
theorem usS_next {w : Rw} (hw : WF w) {q : Nat} (hq : (q : Int) < w 2) {i : Int} (i0 : 0 ≤ i) (i1 : i < wMany w (ordS w q)) : usS w (wPd w (3 * ordS w q + i)) (yrS w (ordS w q)) (q + 1) = usS w (wPd w (3 * ordS w q + i)) (yrS w (ordS w q)) q + aidP w q (3 * ordS w q + i) := by
  have hg := ordS_in hq
  have hp := part_of hw hg.1 hg.2 i0 i1
  unfold usS aidP usS
  rw [usedS_succ, if_pos rfl, wishD_part hw hg.1 hg.2 i0 i1, hp.2.1]
  omega
theorem usS_same {w : Rw} (hw : WF w) {q : Nat} (hq : (q : Int) < w 2) {d y : Int} (d0 : 0 ≤ d) (d1 : d < w 0) (h : y = yrS w (ordS w q) → ∀ i : Int, 0 ≤ i → i < wMany w (ordS w q) → wPd w (3 * ordS w q + i) ≠ d) : usS w d y (q + 1) = usS w d y q := by
  have hb := usS_bd hw d0 d1 y (i := q) (by omega)
  unfold usS at *
  rw [usedS_succ]
  by_cases e : yrS w (ordS w q) = y
  · rw [if_pos e, wishD_none (h e.symm)]; omega
  · rw [if_neg e]
theorem x8_wishOf {V : Sz} (hw : WF (V 0)) {n : Nat} (hn : 100 ≤ n) {g i : Int} (g0 : 0 ≤ g) (g1 : g < V 0 2) (i0 : 0 ≤ i) (i1 : i < wMany (V 0) g) : f_X8_wishOf n V (3 * g + i) = some (wishS (V 0) (3 * g + i)) := by
  have hp := part_of hw g0 g1 i0 i1
  have hf := fullS_bd hw g0 g1 i0 i1
  have hgg := hw.2.2.2.2.1 g g0 g1
  have hpp := hw.2.2.2.2.2.1 g i g0 g1 i0 i1
  have a0 := hw.2.1.1
  have a5 := hw.2.1.2.2.2.2.1
  unfold f_X8_wishOf wishS openS
  rw [x8_giftOf hp.1.1 hp.1.2, bd_s, hp.2.1, x8_isSpoilt hw g0 g1, bd_s]
  by_cases c1 : spoB (V 0) g = true
  · rw [if_pos c1, if_pos c1]
    split <;> rfl
  · rw [if_neg c1, if_neg c1, ck_t ⟨by omega, by omega⟩, x8_dayOf hp.1.1 hp.1.2, bd_s, hp.2.1]
    have ef := x8_isForced hw hn (d := V 0 (413 + (3 * g + i)).toNat) (day := wDay (V 0) g) (by unfold wPd at hpp; omega) (by omega)
    rw [ef, bd_s]
    show (if forB (V 0) (wPd (V 0) (3 * g + i)) (wDay (V 0) g) = false then some 0 else _) = some (if forB (V 0) (wPd (V 0) (3 * g + i)) (wDay (V 0) g) = true then _ else 0)
    cases forB (V 0) (wPd (V 0) (3 * g + i)) (wDay (V 0) g) with
    | false => rfl
    | true =>
      rw [if_neg (by decide), if_pos rfl, x8_full hp.1.1 hp.1.2 ⟨hf.1, hf.2.1⟩ a5, bd_s]
