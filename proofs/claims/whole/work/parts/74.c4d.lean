/-! the register's sums -/
def measS (w : Rw) (what p : Int) : Int := if what = 0 then leftS w p else if what = 1 then wishS w p else if what = 2 then aidS w p else if what = 3 then wPc w p else 1
theorem c4_measure {V : Sz} {w : Rw} (h : LR V w) {g i what : Int} (g0 : 0 ≤ g) (g1 : g < w 2) (i0 : 0 ≤ i) (i1 : i < wMany w g) (hr : rng what) : f_X4_measure V (3 * g + i) what = some (measS w what (3 * g + i)) := by
  obtain ⟨h0, hv, hw, h30⟩ := h
  have hpt := part_of hw g0 g1 i0 i1
  have hb := part_B hw g0 g1 i0 i1
  have hp := h0.2.2.2.2.1 _ hpt.1.1 hpt.1.2 hb
  have hq := hv _ hpt.1.1 hpt.1.2 hb
  unfold f_X4_measure measS
  rw [ck_t hr, c3_leftOfPart h0 hw g0 g1 i0 i1, bd_s, hq.2.1, hq.2.2, hp.2.2.2, ck_t ⟨hpt.1.1, hpt.1.2⟩, ck_t ⟨hpt.1.1, hpt.1.2⟩, ck_t ⟨hpt.1.1, hpt.1.2⟩]
  split
  · rfl
  · split
    · rfl
    · split
      · rfl
      · split <;> rfl
theorem c4_sumOfGift {V : Sz} {w : Rw} (h : LR V w) {n : Nat} (hn : 100 ≤ n) {g what : Int} (g0 : 0 ≤ g) (g1 : g < w 2) (hr : rng what) : f_X4_sumOfGift n V g what = some (sumN (fun i => measS w what (3 * g + i)) (wMany w g).toNat) := by
  have h0 := h.1
  have hw := h.2.2.1
  have hg := hw.2.2.2.2.1 g g0 g1
  have a2 := hw.2.1.2.2.1
  refine tt_eq ?_
  unfold f_X4_sumOfGift
  refine tt_lp (I := fun s : Int × Int => (0 ≤ s.2 ∧ s.2 ≤ wMany w g) ∧ s.1 = sumN (fun i => measS w what (3 * g + i)) s.2.toNat) (μ := fun s => (3 - s.2).toNat) ?_ n (0, 0) ⟨⟨Int.le_refl _, by show 0 ≤ wMany w g; omega⟩, rfl⟩ (by show (3 - (0 : Int)).toNat < n; omega)
  rintro ⟨sm, i⟩ rec ⟨⟨i0, i1⟩, es⟩ ih
  simp only at i0 i1 es
  rw [bX4_sumOfGift_5_e, (h0.2.2.2.1 g g0 g1).2.2.2.2]
  refine tt_ck ⟨g0, by omega⟩ (tt_ck ⟨⟨by omega, by omega⟩, ⟨by omega, by omega⟩⟩ (tt_ite (fun c => tt_some ?_) (fun c => ?_)))
  · rw [es, show i = wMany w g by omega]
  · rw [show g * 3 + i = 3 * g + i by omega, c4_measure h g0 g1 i0 (by omega) hr, bd_s]
    refine tt_nm (tt_nm (ih (sm + measS w what (3 * g + i), i + 1) ⟨⟨by show 0 ≤ i + 1; omega, by show i + 1 ≤ wMany w g; omega⟩, ?_⟩ (by show (3 - (i + 1)).toNat < (3 - i).toNat; omega)))
    show sm + measS w what (3 * g + i) = sumN (fun i => measS w what (3 * g + i)) (i + 1).toNat
    rw [sumN_step _ i0, es]
theorem c4_sumOfAll {V : Sz} {w : Rw} (h : LR V w) {n : Nat} (hn : 100 ≤ n) {what : Int} (hr : rng what) : f_X4_sumOfAll n V what = some (sumPS w (measS w what)) := by
  have h0 := h.1
  have hw := h.2.2.1
  have a2 := hw.2.1.2.2.1
  have e9 : V 9 0 = w 2 := h0.1.2.2.2.2.2.1
  refine tt_eq ?_
  unfold f_X4_sumOfAll
  refine tt_lp (I := fun s : Int × Int => (0 ≤ s.2 ∧ s.2 ≤ w 2) ∧ s.1 = sumN (fun g => sumN (fun i => measS w what (3 * g + i)) (wMany w g).toNat) s.2.toNat) (μ := fun s => (w 2 - s.2).toNat) ?_ n (0, 0) ⟨⟨Int.le_refl _, a2.1⟩, rfl⟩ (by show (w 2 - (0 : Int)).toNat < n; omega)
  rintro ⟨sm, g⟩ rec ⟨⟨g0, g1⟩, es⟩ ih
  simp only at g0 g1 es
  rw [bX4_sumOfAll_4_e, e9]
  refine tt_ck ⟨⟨by omega, by omega⟩, ⟨by omega, by omega⟩⟩ (tt_ite (fun c => tt_some ?_) (fun c => ?_))
  · rw [es, show g = w 2 by omega, sumPS_gifts hw]
  · rw [c4_sumOfGift h hn g0 (by omega) hr, bd_s]
    refine tt_nm (tt_nm (ih (_, g + 1) ⟨⟨by show 0 ≤ g + 1; omega, by show g + 1 ≤ w 2; omega⟩, ?_⟩ (by show (w 2 - (g + 1)).toNat < (w 2 - g).toNat; omega)))
    show _ = sumN (fun g => sumN (fun i => measS w what (3 * g + i)) (wMany w g).toNat) (g + 1).toNat
    rw [sumN_step _ g0, es]
