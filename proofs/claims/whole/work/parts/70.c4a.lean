/-! the register's reads of a ledger -/
theorem sv_at {α : Type} (o : Nat) (V : Nat → α) (k : Nat) : sv o V k = V (k + o) := rfl
theorem c1_isOn {V : Sz} {w : Rw} (h : LR0 V w) (hw : WF w) (h30 : w 1 ≤ 30) {k d day : Int} (k0 : 0 ≤ k) (k1 : k < w 1) (hd : rng d) (hy : rng day) : f_X1_isOn (sv 5 V) k d day = some (onB w k d day) := by
  have hk := h.2.2.1 k k0 k1
  have hwk := hw.2.2.2.1 k k0 k1
  have a0 := hw.2.1.1
  unfold f_X1_isOn onB
  rw [sv_at, sv_at, sv_at, hk.1, hk.2.1, hk.2.2, ck_t ⟨by omega, by omega⟩, ck_t ⟨⟨by omega, by omega⟩, hd⟩]
  by_cases c1 : wWho w k = d
  · rw [if_pos c1, ck_t ⟨⟨by omega, by omega⟩, hy⟩, decide_eq_true c1, Bool.true_and]
    by_cases c2 : day < wFr w k
    · rw [if_pos c2, decide_eq_false (by omega : ¬ wFr w k ≤ day)]; rfl
    · rw [if_neg c2, ck_t ⟨by omega, by omega⟩, decide_eq_true (by omega : wFr w k ≤ day), Bool.true_and]
      by_cases c3 : wTo w k < day
      · rw [if_pos c3, decide_eq_false (by omega)]
      · rw [if_neg c3, decide_eq_true (by omega)]
  · rw [if_neg c1, decide_eq_false c1]; rfl
theorem c1_covers {V : Sz} {w : Rw} (h : LR0 V w) (hw : WF w) (h30 : w 1 ≤ 30) {n : Nat} (hn : 100 ≤ n) {d day : Int} (hd : rng d) (hy : rng day) : f_X1_covers n (sv 5 V) d day = some (forB w d day) := by
  have a1 := hw.2.1.2.1
  have hc : V 5 0 = w 1 := h.1.2.2.2.2.1
  refine tt_eq ?_
  unfold f_X1_covers
  refine tt_lp (I := fun y => 0 ≤ y ∧ y ≤ w 1 ∧ anyN (fun k => onB w k d day) y.toNat = false) (μ := fun y => (w 1 - y).toNat) ?_ n 0 ⟨Int.le_refl _, a1.1, rfl⟩ (by omega)
  rintro y rec ⟨y0, y1, hf⟩ ih
  rw [bX1_covers_2_e, show sv 5 V 0 0 = V 5 0 from rfl, hc]
  refine tt_ck ⟨⟨by omega, by omega⟩, ⟨by omega, by omega⟩⟩ (tt_ite (fun c => ?_) (fun c => ?_))
  · refine tt_some ?_
    have e : y = w 1 := by omega
    unfold forB
    rw [← e, hf]
  · rw [c1_isOn h hw h30 y0 (by omega) hd hy, bd_s]
    have es : anyN (fun k => onB w k d day) (y + 1).toNat = (anyN (fun k => onB w k d day) y.toNat || onB w y d day) := by
      rw [show (y + 1).toNat = y.toNat + 1 by omega]
      show (_ || onB w ((y.toNat : Nat) : Int) d day) = _
      rw [show ((y.toNat : Nat) : Int) = y by omega]
    refine tt_ite (fun c2 => ?_) (fun c2 => ?_)
    · exact tt_nm (ih (y + 1) ⟨by omega, by omega, by rw [es, hf, c2]; rfl⟩ (by omega))
    · refine tt_some ?_
      unfold forB
      refine (anyN_iff.mpr ⟨y, y0, by omega, ?_⟩).symm
      cases hb : onB w y d day with
      | true => rfl
      | false => exact (c2 hb).elim
theorem c3_yearOf {V : Sz} {w : Rw} (h : LR0 V w) (hw : WF w) {g : Int} (g0 : 0 ≤ g) (g1 : g < w 2) : f_X3_yearOf (sv 9 V) g = some (yrS w g) := by
  have hg := h.2.2.2.1 g g0 g1
  have hwg := hw.2.2.2.2.1 g g0 g1
  have a2 := hw.2.1.2.2.1
  unfold f_X3_yearOf yrS
  rw [sv_at, hg.1, ck_t ⟨by omega, by omega⟩, ck_t ⟨by omega, by omega⟩]
theorem part_B {w : Rw} (hw : WF w) {g i : Int} (g0 : 0 ≤ g) (g1 : g < w 2) (i0 : 0 ≤ i) (i1 : i < wMany w g) : partB w (3 * g + i) = true := by
  have hp := part_of hw g0 g1 i0 i1
  unfold partB
  rw [hp.2.1, hp.2.2.1, decide_eq_true i1, decide_eq_true g1]; rfl
theorem c3_leftOfPart {V : Sz} {w : Rw} (h : LR0 V w) (hw : WF w) {g i : Int} (g0 : 0 ≤ g) (g1 : g < w 2) (i0 : 0 ≤ i) (i1 : i < wMany w g) : f_X3_leftOfPart (sv 9 V) (3 * g + i) = some (leftS w (3 * g + i)) := by
  have hpt := part_of hw g0 g1 i0 i1
  have hp := h.2.2.2.2.1 _ hpt.1.1 hpt.1.2 (part_B hw g0 g1 i0 i1)
  unfold f_X3_leftOfPart leftS
  rw [sv_at, sv_at, hp.2.1, hp.2.2.1, ck_t ⟨by omega, by omega⟩]
theorem c4_isSpoilt {V : Sz} {w : Rw} (h : LR0 V w) (hw : WF w) {g : Int} (g0 : 0 ≤ g) (g1 : g < w 2) : f_X4_isSpoilt V g = some (spoB w g) := by
  have hg := h.2.2.2.1 g g0 g1
  have hwg := hw.2.2.2.2.1 g g0 g1
  have a2 := hw.2.1.2.2.1
  have a7 := hw.2.1.2.2.2.2.2.2
  have hb : V 2 0 = w 7 := h.1.2.2.1
  have m0 : 0 ≤ w 7 * wAm w g := Int.mul_nonneg (by omega) (by omega)
  have m1 : w 7 * wAm w g ≤ 100 * 999999 := Int.mul_le_mul (by omega) (by omega) (by omega) (by omega)
  unfold f_X4_isSpoilt spoB
  rw [hg.2.1, hg.2.2.1, hb, ck_t ⟨by omega, by omega⟩, ck_t ⟨⟨by omega, by omega⟩, ⟨by omega, by omega⟩⟩]
  by_cases c1 : wGot w g * 100 ≤ w 7 * wAm w g
  · rw [if_pos c1, decide_eq_false (by omega)]
  · rw [if_neg c1, decide_eq_true (by omega)]
theorem c4_fullAid {V : Sz} {w : Rw} (h : LR0 V w) (hw : WF w) {g i : Int} (g0 : 0 ≤ g) (g1 : g < w 2) (i0 : 0 ≤ i) (i1 : i < wMany w g) : f_X4_fullAid V (3 * g + i) = some (fullS w (3 * g + i)) := by
  have hf := fullS_bd hw g0 g1 i0 i1
  have a5 := hw.2.1.2.2.2.2.1
  have hb : V 0 0 = w 5 := h.1.1
  have m0 : 0 ≤ leftS w (3 * g + i) * w 5 := Int.mul_nonneg hf.1 a5.1
  have m1 : leftS w (3 * g + i) * w 5 ≤ 999999 * 100 := Int.mul_le_mul hf.2.1 a5.2 a5.1 (by omega)
  unfold f_X4_fullAid fullS
  rw [c3_leftOfPart h hw g0 g1 i0 i1, bd_s, hb, ck_t ⟨m0, by omega⟩]
theorem j7_fill {T : Nat → Int} {x : Int} {n0 n : Nat} (h0 : n0 ≤ 1000) (hn : 2000 ≤ n) : TT (f_J7_fill_53178 n n0 T x) (fun T1 => ∀ j : Nat, j < n0 → T1 j = x) := by
  unfold f_J7_fill_53178
  refine tt_nm ?_
  refine tt_lp (I := fun s : Int × Int × (Nat → Int) => s.2.1 = (n0 : Int) ∧ (0 ≤ s.1 ∧ s.1 ≤ (n0 : Int)) ∧ ∀ j : Nat, (j : Int) < s.1 → s.2.2 j = x) (μ := fun s => ((n0 : Int) - s.1).toNat) ?_ n (0, (n0 : Int), T) ⟨rfl, ⟨Int.le_refl _, by show (0 : Int) ≤ (n0 : Int); omega⟩, fun j hj => absurd hj (by show ¬ ((j : Int) < 0); omega)⟩ (by show ((n0 : Int) - 0).toNat < n; omega)
  rintro ⟨y, z, T2⟩ rec ⟨ez, ⟨y0, y1⟩, hz⟩ ih
  simp only at ez y0 y1 hz
  subst ez
  rw [bJ7_fill_53178_5_e]
  refine tt_ck ⟨⟨by omega, by omega⟩, ⟨by omega, by omega⟩⟩ (tt_ite (fun c => tt_some (fun j hj => hz j (by omega))) (fun c => ?_))
  refine tt_ck ⟨y0, by omega⟩ (tt_nm (tt_nm ?_))
  refine ih (y + 1, (n0 : Int), up T2 y.toNat x) ⟨rfl, ⟨by show 0 ≤ y + 1; omega, by show y + 1 ≤ (n0 : Int); omega⟩, fun j hj => ?_⟩ (by show ((n0 : Int) - (y + 1)).toNat < ((n0 : Int) - y).toNat; omega)
  have hj : (j : Int) < y + 1 := hj
  show up T2 y.toNat x j = x
  rw [up_if]
  split
  · rfl
  · exact hz j (by omega)
