/-! the reference's reads of a row -/
theorem bd_s {α β : Type} {a : α} {k : α → Option β} : bd (some a) k = k a := rfl
theorem nm_s {α β : Type} {x : α} {k : α → Option β} : nm x k = k x := rfl
theorem dec_and {a b : Prop} [Decidable a] [Decidable b] : (decide a && decide b) = decide (a ∧ b) := by
  by_cases h1 : a <;> by_cases h2 : b <;> simp [h1, h2]
theorem x8_inRange {x a b : Int} (hx : rng x) (ha : rng a) (hb : rng b) : f_X8_inRange x a b = some (decide (a ≤ x) && decide (x ≤ b)) := by
  unfold f_X8_inRange
  rw [ck_t ⟨hx, ha⟩]
  by_cases h1 : x < a
  · rw [if_pos h1, decide_eq_false (by omega : ¬ a ≤ x)]; rfl
  · rw [if_neg h1, ck_t hb, decide_eq_true (by omega : a ≤ x)]
    by_cases h2 : b < x
    · rw [if_pos h2, decide_eq_false (by omega : ¬ x ≤ b)]; rfl
    · rw [if_neg h2, decide_eq_true (by omega : x ≤ b)]; rfl
theorem x8_partOf (g i : Int) : f_X8_partOf g i = some (3 * g + i) := rfl
theorem x8_giftOf {p : Int} (h0 : 0 ≤ p) (h1 : p < 180) : f_X8_giftOf p = some (p / 3) := by
  unfold f_X8_giftOf
  rw [ck_t ⟨h0, by omega⟩]
theorem x8_isPart {V : Sz} (hn : WFn (V 0)) {p : Int} (h0 : 0 ≤ p) (h1 : p < 180) : f_X8_isPart V p = some (partB (V 0) p) := by
  have e1 := hn (293 + p / 3).toNat (by omega)
  have e2 := hn 2 (by omega)
  unfold f_X8_isPart partB wMany
  rw [ck_t ⟨h0, by omega⟩, x8_giftOf h0 h1, bd_s, ck_t ⟨by omega, by omega⟩, ck_t ⟨⟨by omega, by omega⟩, e1⟩]
  by_cases c1 : V 0 (293 + p / 3).toNat ≤ p % 3
  · rw [if_pos c1, decide_eq_false (by omega : ¬ p % 3 < _)]; rfl
  · rw [if_neg c1, decide_eq_true (by omega : p % 3 < _), bd_s, ck_t ⟨⟨by omega, by omega⟩, e2⟩]
    by_cases c2 : V 0 2 ≤ p / 3
    · rw [if_pos c2, decide_eq_false (by omega : ¬ p / 3 < _)]; rfl
    · rw [if_neg c2, decide_eq_true (by omega : p / 3 < _)]; rfl
theorem x8_leftOf {V : Sz} {p : Int} (h0 : 0 ≤ p) (h1 : p < 180) : f_X8_leftOf V p = some (leftS (V 0) p) := by
  unfold f_X8_leftOf leftS wPa wPb
  rw [ck_t ⟨by omega, by omega⟩, ck_t ⟨by omega, by omega⟩]
theorem x8_isSpoilt {V : Sz} (hw : WF (V 0)) {g : Int} (h0 : 0 ≤ g) (h1 : g < V 0 2) : f_X8_isSpoilt V g = some (spoB (V 0) g) := by
  obtain ⟨-, ⟨-, -, a2, -, -, -, a7⟩, -, -, hg, -⟩ := hw
  have hg := hg g h0 h1
  unfold f_X8_isSpoilt spoB
  have m0 : 0 ≤ V 0 7 * wAm (V 0) g := Int.mul_nonneg (by omega) (by omega)
  have m1 : V 0 7 * wAm (V 0) g ≤ 100 * 999999 := Int.mul_le_mul (by omega) (by omega) (by omega) (by omega)
  unfold wAm wGot at *
  rw [ck_t ⟨by omega, by omega⟩, ck_t ⟨by omega, by omega⟩, ck_t ⟨⟨by omega, by omega⟩, ⟨by omega, by omega⟩⟩]
  by_cases c1 : V 0 (233 + g).toNat * 100 ≤ V 0 7 * V 0 (173 + g).toNat
  · rw [if_pos c1, decide_eq_false (by omega)]
  · rw [if_neg c1, decide_eq_true (by omega)]
theorem x8_dayOf {V : Sz} {p : Int} (h0 : 0 ≤ p) (h1 : p < 180) : f_X8_dayOf V p = some (wDay (V 0) (p / 3)) := by
  unfold f_X8_dayOf wDay
  rw [x8_giftOf h0 h1, bd_s, ck_t ⟨by omega, by omega⟩]
theorem x8_yearOf {V : Sz} {p : Int} (h0 : 0 ≤ p) (h1 : p < 180) (hd : 0 ≤ wDay (V 0) (p / 3) ∧ wDay (V 0) (p / 3) < 2147483648) : f_X8_yearOf V p = some (yrS (V 0) (p / 3)) := by
  unfold f_X8_yearOf yrS
  rw [x8_dayOf h0 h1, bd_s, ck_t hd]
theorem x8_full {V : Sz} {p : Int} (h0 : 0 ≤ p) (h1 : p < 180) (hd : 0 ≤ leftS (V 0) p ∧ leftS (V 0) p ≤ 999999) (hr : 0 ≤ V 0 5 ∧ V 0 5 ≤ 100) : f_X8_full V p = some (fullS (V 0) p) := by
  unfold f_X8_full fullS
  have m0 : 0 ≤ leftS (V 0) p * V 0 5 := Int.mul_nonneg hd.1 hr.1
  have m1 : leftS (V 0) p * V 0 5 ≤ 999999 * 100 := Int.mul_le_mul hd.2 hr.2 hr.1 (by omega)
  rw [x8_leftOf h0 h1, bd_s, ck_t ⟨m0, by omega⟩]
theorem x8_isForced {V : Sz} (hw : WF (V 0)) {n : Nat} (hn : 100 ≤ n) {d day : Int} (hd : rng d) (hy : rng day) : f_X8_isForced n V d day = some (forB (V 0) d day) := by
  obtain ⟨-, ⟨a0, a1, -⟩, -, hk, -⟩ := hw
  refine tt_eq ?_
  unfold f_X8_isForced
  refine tt_lp (I := fun y => 0 ≤ y ∧ y ≤ V 0 1 ∧ anyN (fun k => onB (V 0) k d day) y.toNat = false) (μ := fun y => (V 0 1 - y).toNat) ?_ n 0 ⟨by omega, by omega, rfl⟩ (by omega)
  rintro y rec ⟨y0, y1, hf⟩ ih
  rw [bX8_isForced_2_e]
  refine tt_ck ⟨⟨by omega, by omega⟩, ⟨by omega, by omega⟩⟩ ?_
  refine tt_ite (fun c => ?_) (fun c => ?_)
  · refine tt_some ?_
    have e : y = V 0 1 := by omega
    unfold forB
    rw [← e, hf]
  · have hk := hk y y0 (by omega)
    have es : anyN (fun k => onB (V 0) k d day) (y + 1).toNat = (anyN (fun k => onB (V 0) k d day) y.toNat || onB (V 0) y d day) := by
      rw [show (y + 1).toNat = y.toNat + 1 by omega]
      show (_ || onB (V 0) ((y.toNat : Nat) : Int) d day) = _
      rw [show ((y.toNat : Nat) : Int) = y by omega]
    have next : onB (V 0) y d day = false → TT (jX8_isForced_52 n V d day rec y) (fun r => r = forB (V 0) d day) := fun h => by
      unfold jX8_isForced_52
      exact ih (y + 1) ⟨by omega, by omega, by rw [es, hf, h]; rfl⟩ (by omega)
    unfold wWho wFr wTo at hk
    unfold onB wWho wFr wTo at next
    refine tt_ck ⟨by omega, by omega⟩ (tt_ck ⟨⟨by omega, by omega⟩, hd⟩ ?_)
    refine tt_ite (fun c1 => ?_) (fun c1 => ?_)
    · refine tt_ck ⟨by omega, by omega⟩ (tt_ck ⟨by omega, by omega⟩ ?_)
      rw [x8_inRange hy ⟨by omega, by omega⟩ ⟨by omega, by omega⟩, bd_s]
      refine tt_ite (fun c2 => ?_) (fun c2 => ?_)
      · exact next (by rw [c2, Bool.and_false])
      · refine tt_some ?_
        unfold forB
        refine (anyN_iff.mpr ⟨y, y0, by omega, ?_⟩).symm
        unfold onB wWho wFr wTo
        rw [decide_eq_true c1, Bool.true_and]
        exact Bool.not_eq_false _ ▸ c2
    · exact next (by rw [decide_eq_false c1, Bool.false_and])
