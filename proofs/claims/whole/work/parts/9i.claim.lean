theorem c4_makeClaim {V0 : Sz} {w w1 : Rw} {day : Int} (h : LR V0 w) (hr : ClaRow w day 180 w1) (h4 : w 4 < 20) (d0 : 0 ≤ day) (d1 : day ≤ 9999) {n : Nat} (hn : 1000 ≤ n) : TT (f_X4_makeClaim n V0 day) (fun r => r.1 = cl1 w day 180 - cl2 w day 180 ∧ LR r.2 (up w1 4 (w 4 + 1))) := by
  have hw := h.2.2.1
  have h30 := h.2.2.2
  have a2 := hw.2.1.2.2.1
  have a4 := hw.2.1.2.2.2.1
  obtain ⟨c, ec⟩ : ∃ c, c = w 4 := ⟨_, rfl⟩
  have e21 : V0 21 0 = c := by rw [ec]; exact h.1.1.2.2.2.2.2.2
  obtain ⟨hw1, hA⟩ := cla_WF hr hw ⟨d0, d1⟩ h4
  unfold f_X4_makeClaim
  -- the claim begins
  have hbeg : TT (f_X0_begin n (sv 21 V0) day) (fun V1 => V1 0 0 = c + 1 ∧ ∀ i : Nat, V1 1 i = if 5 * c ≤ (i : Int) ∧ (i : Int) < 5 * c + 5 then (if (i : Int) = 5 * c then day else 0) else V0 22 i) := by
    have e0 : sv 21 V0 0 0 = c := e21
    have hf : f_X0_isFull (sv 21 V0) = some false := by
      unfold f_X0_isFull
      rw [e0, ck_t ⟨by omega, by omega⟩, if_pos (by omega)]
    unfold f_X0_begin
    rw [hf, bd_s, e0]
    refine tt_t rfl (tt_nmE (fun r er => ?_))
    have er : r = 5 * c := by omega
    subst er
    refine tt_ck ⟨by omega, by omega⟩ (tt_nmE (fun V4 e4 => ?_))
    refine tt_lp (I := fun z : Int × Int × Sz => z.1 = 5 * c ∧ (1 ≤ z.2.1 ∧ z.2.1 ≤ 5) ∧ z.2.2 0 0 = c ∧ ∀ i : Nat, z.2.2 1 i = if 5 * c ≤ (i : Int) ∧ (i : Int) < 5 * c + z.2.1 then (if (i : Int) = 5 * c then day else 0) else V0 22 i) (μ := fun z => (5 - z.2.1).toNat) ?_ n (5 * c, 1, V4) ⟨rfl, ⟨Int.le_refl _, by show (1 : Int) ≤ 5; decide⟩, ?_, fun i => ?_⟩ (by show (5 - (1 : Int)).toNat < n; omega)
    · rintro ⟨y2, k, V⟩ rec ⟨ey, ⟨k0, k1⟩, hc, hT⟩ ih
      simp only at ey k0 k1 hc hT
      subst ey
      rw [bX0_begin_24_e]
      refine tt_ck ⟨by omega, by omega⟩ (tt_ite (fun c5 => tt_nmE (fun V6 e6 => tt_some ⟨?_, fun i => ?_⟩)) (fun c5 => tt_ck ⟨by omega, by omega⟩ (tt_nm (tt_nm ?_))))
      · rw [e6, us_at, hc]
      · rw [e6, us_ne (by decide), hT i, show k = 5 by omega]
      · refine ih (5 * c, k + 1, uz V 1 (5 * c + k).toNat 0) ⟨rfl, ⟨by show 1 ≤ k + 1; omega, by show k + 1 ≤ 5; omega⟩, ?_, fun i => ?_⟩ (by show (5 - (k + 1)).toNat < (5 - k).toNat; omega)
        · show uz V 1 (5 * c + k).toNat 0 0 0 = c
          rw [uz_ne (by decide)]; exact hc
        · show uz V 1 (5 * c + k).toNat 0 1 i = if 5 * c ≤ (i : Int) ∧ (i : Int) < 5 * c + (k + 1) then (if (i : Int) = 5 * c then day else 0) else V0 22 i
          rw [uz_at, up_if]
          by_cases e : i = (5 * c + k).toNat
          · rw [if_pos e, if_pos (by omega), if_neg (by omega)]
          · rw [if_neg e, hT i]
            by_cases e2 : 5 * c ≤ (i : Int) ∧ (i : Int) < 5 * c + k
            · rw [if_pos e2, if_pos (show 5 * c ≤ (i : Int) ∧ (i : Int) < 5 * c + (k + 1) by omega)]
            · rw [if_neg e2, if_neg (show ¬ (5 * c ≤ (i : Int) ∧ (i : Int) < 5 * c + (k + 1)) by omega)]
    · show V4 0 0 = c
      rw [e4, uz_ne (by decide)]; exact e21
    · show V4 1 i = if 5 * c ≤ (i : Int) ∧ (i : Int) < 5 * c + 1 then (if (i : Int) = 5 * c then day else 0) else V0 22 i
      rw [e4, uz_at, up_if]
      by_cases e : i = (5 * c).toNat
      · rw [if_pos e, if_pos (show 5 * c ≤ (i : Int) ∧ (i : Int) < 5 * c + 1 by omega), if_pos (by omega)]
      · rw [if_neg e, if_neg (show ¬ (5 * c ≤ (i : Int) ∧ (i : Int) < 5 * c + 1) by omega)]; rfl
  refine tt_bd hbeg (fun V1 ⟨b0, b1⟩ => tt_nmE (fun V2 e2 => ?_))
  have f2 : ∀ k : Nat, k ≠ 21 → k ≠ 22 → V2 k = V0 k := fun k k21 k22 => by rw [e2, sw_out (by omega)]
  have f21 : V2 21 0 = c + 1 := by rw [e2]; exact b0
  have f22 : ∀ i : Nat, V2 22 i = if 5 * c ≤ (i : Int) ∧ (i : Int) < 5 * c + 5 then (if (i : Int) = 5 * c then day else 0) else V0 22 i := fun i => by rw [e2]; exact b1 i
  -- the cells, q slots looked at
  have cel : ∀ (q i : Int), 5 * c ≤ i → i < 5 * c + 5 → clC w day q (i - 5 * c) = if i = 5 * c then day else if i = 5 * c + 1 then cl1 w day q else if i = 5 * c + 2 then cl2 w day q else if i = 5 * c + 3 then cl3 w day q else cl4 w day q := by
    intro q i i0 i1
    unfold clC
    have hi : i = 5 * c ∨ i = 5 * c + 1 ∨ i = 5 * c + 2 ∨ i = 5 * c + 3 ∨ i = 5 * c + 4 := by omega
    rcases hi with e | e | e | e | e
    · rw [if_pos (by omega), if_pos e]
    · rw [if_neg (by omega), if_pos (by omega), if_neg (by omega), if_pos e]
    · rw [if_neg (by omega), if_neg (by omega), if_pos (by omega), if_neg (by omega), if_neg (by omega), if_pos e]
    · rw [if_neg (by omega), if_neg (by omega), if_neg (by omega), if_pos (by omega), if_neg (by omega), if_neg (by omega), if_neg (by omega), if_pos e]
    · rw [if_neg (by omega), if_neg (by omega), if_neg (by omega), if_neg (by omega), if_neg (by omega), if_neg (by omega), if_neg (by omega), if_neg (by omega)]
  refine tt_lp (I := fun z : Int × Sz => (0 ≤ z.1 ∧ z.1 ≤ w 2 * 3) ∧ (∀ k : Nat, k ≠ 20 → k ≠ 22 → z.2 k = V2 k) ∧ (∀ i : Nat, z.2 22 i = if 5 * c ≤ (i : Int) ∧ (i : Int) < 5 * c + 5 then clC w day z.1 ((i : Int) - 5 * c) else V0 22 i) ∧ ∀ i : Nat, z.2 20 i = if (i : Int) < z.1 then V0 20 i + clD w day i else V0 20 i) (μ := fun z => (w 2 * 3 - z.1).toNat) ?_ n (0, V2) ⟨⟨Int.le_refl _, by show 0 ≤ w 2 * 3; omega⟩, fun _ _ _ => rfl, fun i => ?_, fun i => ?_⟩ (by show (w 2 * 3 - (0 : Int)).toNat < n; omega)
  · rintro ⟨p, V⟩ rec ⟨⟨p0, p1⟩, hk, hT, h20⟩ ih
    simp only at p0 p1 hk hT h20
    have hkk : ∀ k : Nat, k ≠ 20 → k ≠ 21 → k ≠ 22 → V k = V0 k := fun k k20 k21 k22 => (hk k k20 k22).trans (f2 k k21 k22)
    have esc : f_X3_slotCount (sv 9 V) = some (w 2 * 3) := by
      unfold f_X3_slotCount
      rw [sv_at, hkk (0 + 9) (by decide) (by decide) (by decide), h.1.1.2.2.2.2.2.1]
    have hv21 : sv 21 V 0 0 = c + 1 := by show V 21 0 = _; rw [hk 21 (by decide) (by decide), f21]
    rw [bX4_makeClaim_10_e, esc, bd_s]
    refine tt_ck ⟨⟨by omega, by omega⟩, ⟨by omega, by omega⟩⟩ (tt_ite (fun cc => ?_) (fun cc => ?_))
    · have ep : p = w 2 * 3 := by omega
      have ecut := cl_cut hw (day := day)
      have ebal : f_X0_latestBalance (sv 21 V) = some (cl1 w day 180 - cl2 w day 180) := by
        have x1 : sv 21 V 1 ((c + 1 - 1) * 5 + 1).toNat = cl1 w day 180 := by
          show V 22 ((c + 1 - 1) * 5 + 1).toNat = _
          rw [hT, if_pos (by omega), cel _ _ (by omega) (by omega), if_neg (by omega), if_pos (by omega), ep, ecut.1]
        have x2 : sv 21 V 1 ((c + 1 - 1) * 5 + 2).toNat = cl2 w day 180 := by
          show V 22 ((c + 1 - 1) * 5 + 2).toNat = _
          rw [hT, if_pos (by omega), cel _ _ (by omega) (by omega), if_neg (by omega), if_neg (by omega), if_pos (by omega), ep, ecut.2.1]
        unfold f_X0_latestBalance
        rw [hv21, ck_t ⟨by omega, by omega⟩, if_neg (by omega), nm_s, ck_t ⟨by omega, by omega⟩, ck_t ⟨by omega, by omega⟩, x1, x2]
      rw [ebal, bd_s]
      refine tt_some ⟨rfl, ⟨?_, ?_, ?_, ?_, ?_, ?_, ?_⟩, ?_, hw1, by rw [hA.1.2.1]; exact h30⟩
      · show LRa V (up w1 4 (w 4 + 1))
        have hla := h.1.1
        unfold LRa at *
        rw [hkk 0 (by decide) (by decide) (by decide), hkk 1 (by decide) (by decide) (by decide), hkk 2 (by decide) (by decide) (by decide), hkk 3 (by decide) (by decide) (by decide), hkk 5 (by decide) (by decide) (by decide), hkk 9 (by decide) (by decide) (by decide), hk 21 (by decide) (by decide), f21, hA.1.1, hA.1.2.1, hA.1.2.2.1, hA.1.2.2.2.1, hA.1.2.2.2.2, up_at, ec, show up w1 4 (w 4 + 1) 6 = w 6 from (up_ne (by decide)).trans ((cla_aeq hr hw).2 6 (by decide))]
        exact ⟨hla.1, hla.2.1, hla.2.2.1, hla.2.2.2.1, hla.2.2.2.2.1, hla.2.2.2.2.2.1, rfl⟩
      · intro d u0 u1
        have a0 := hw.2.1.1
        rw [hA.1.1] at u1
        show V 4 d.toNat = _
        rw [hkk 4 (by decide) (by decide) (by decide), aeq_lim hA u0 (by omega)]
        exact h.1.2.1 d u0 u1
      · intro k u0 u1
        rw [hA.1.2.1] at u1
        have x := hA.2.2.1 k u0 u1
        show V 6 k.toNat = _ ∧ V 7 k.toNat = _ ∧ V 8 k.toNat = _
        rw [hkk 6 (by decide) (by decide) (by decide), hkk 7 (by decide) (by decide) (by decide), hkk 8 (by decide) (by decide) (by decide), x.1, x.2.1, x.2.2]
        exact h.1.2.2.1 k u0 u1
      · intro g u0 u1
        rw [hA.1.2.2.1] at u1
        have x := aeq_gift hA u0 (by omega)
        show V 10 g.toNat = _ ∧ V 11 g.toNat = _ ∧ V 12 g.toNat = _ ∧ V 13 g.toNat = _ ∧ V 14 g.toNat = _
        rw [hkk 10 (by decide) (by decide) (by decide), hkk 11 (by decide) (by decide) (by decide), hkk 12 (by decide) (by decide) (by decide), hkk 13 (by decide) (by decide) (by decide), hkk 14 (by decide) (by decide) (by decide), x.1, x.2.1, x.2.2.1, x.2.2.2.1, x.2.2.2.2]
        exact h.1.2.2.2.1 g u0 u1
      · intro j u0 u1 hb
        rw [aeq_partB hA u0 u1] at hb
        have hs := part_split u0 hb
        have x := aeq_slot hA u0 u1
        have y := h.1.2.2.2.2.1 j u0 u1 hb
        show V 16 j.toNat = _ ∧ V 18 j.toNat = _ ∧ V 19 j.toNat = _ ∧ V 20 j.toNat = _
        have ec2 : wPc (up w1 4 (w 4 + 1)) j = wPc w j + clD w day j := by
          unfold wPc
          rw [up_ne (by omega), hr, if_neg (by omega), if_pos (by omega), show (((953 + j).toNat : Nat) : Int) - 953 = j by omega]
        rw [hkk 16 (by decide) (by decide) (by decide), hkk 18 (by decide) (by decide) (by decide), hkk 19 (by decide) (by decide) (by decide), h20, if_pos (by omega), x.1, x.2.1, x.2.2, ec2, show ((j.toNat : Nat) : Int) = j by omega]
        exact ⟨y.1, y.2.1, y.2.2.1, by rw [y.2.2.2]⟩
      · intro i u1
        rw [hA.1.2.2.1] at u1
        show V 15 i = _
        rw [hkk 15 (by decide) (by decide) (by decide), aeq_ordS hA hw u1]
        exact h.1.2.2.2.2.2.1 i u1
      · intro j q u0 u1 q0 q1
        rw [up_at, ← ec] at u1
        show V 22 (j * 5 + q).toNat = wCl (up w1 4 (w 4 + 1)) j q
        unfold wCl
        rw [up_ne (by omega), hr, hT]
        by_cases e : j = c
        · rw [if_pos (by omega), if_pos (by omega), show (((j * 5 + q).toNat : Nat) : Int) - 5 * c = q by omega, show (((1133 + 5 * j + q).toNat : Nat) : Int) - (1133 + 5 * w 4) = q by omega, ep]
          unfold clC
          rw [ecut.1, ecut.2.1, ecut.2.2.1, ecut.2.2.2]
        · rw [if_neg (by omega), if_neg (by omega), if_neg (by omega)]
          exact h.1.2.2.2.2.2.2 j q u0 (by omega) q0 q1
      · intro j u0 u1 hb
        rw [aeq_partB hA u0 u1] at hb
        have x := aeq_wishS hA u0 u1
        show V 23 j.toNat = _ ∧ V 24 j.toNat = _ ∧ V 25 j.toNat = _
        rw [hkk 23 (by decide) (by decide) (by decide), hkk 24 (by decide) (by decide) (by decide), hkk 25 (by decide) (by decide) (by decide), x.1, x.2, aeq_aidS hA hw u0 hb]
        exact h.2.1 j u0 u1 hb
    · rw [c4_diff_on h hkk p0 (by omega) (by rw [h20, if_neg (by omega)]) d0 d1, bd_s]
      have hdb := clD_bd hw (day := day) p0
      refine tt_bd (c0_enter (V0 := sv 21 V) (c := c) hv21 ⟨by omega, by omega⟩ ⟨by omega, by omega⟩) (fun V7 ⟨g0, g1⟩ => tt_nmE (fun V8 e8 => tt_ck ⟨p0, by omega⟩ (tt_nmE (fun V10 e10 => tt_nm ?_))))
      have k8 : ∀ k : Nat, k ≠ 21 → k ≠ 22 → V8 k = V k := fun k k21 k22 => by rw [e8, sw_out (by omega)]
      have st := cl_step (w := w) (day := day) p0
      refine ih (p + 1, V10) ⟨⟨by show 0 ≤ p + 1; omega, by show p + 1 ≤ w 2 * 3; omega⟩, fun k k20 k22 => ?_, fun i => ?_, fun i => ?_⟩ (by show (w 2 * 3 - (p + 1)).toNat < (w 2 * 3 - p).toNat; omega)
      · show V10 k = V2 k
        rw [e10, uz_ne k20]
        by_cases e : k = 21
        · subst e
          have : V8 21 = V 21 := by rw [e8]; exact g0
          rw [this]; exact hk 21 (by decide) (by decide)
        · rw [k8 k e k22]; exact hk k k20 k22
      · show V10 22 i = if 5 * c ≤ (i : Int) ∧ (i : Int) < 5 * c + 5 then clC w day (p + 1) ((i : Int) - 5 * c) else V0 22 i
        have e22 : V10 22 i = V7 1 i := by rw [e10, uz_ne (by decide), e8]; rfl
        have e22' : sv 21 V 1 i = V 22 i := rfl
        rw [e22, g1 i, e22', hT i]
        by_cases e : 5 * c ≤ (i : Int) ∧ (i : Int) < 5 * c + 5
        · rw [if_pos e, if_pos e, cel _ _ e.1 e.2, cel _ _ e.1 e.2, st.1, st.2.1, st.2.2.1, st.2.2.2]
          by_cases i0 : (i : Int) = 5 * c
          · rw [if_pos i0, if_pos i0, if_neg (by omega), if_neg (by omega), if_neg (by omega), if_neg (by omega)]; omega
          · rw [if_neg i0, if_neg i0]
            by_cases i1 : (i : Int) = 5 * c + 1
            · rw [if_pos i1, if_pos i1, if_pos i1]
            · rw [if_neg i1, if_neg i1, if_neg i1]
              by_cases i2 : (i : Int) = 5 * c + 2
              · rw [if_pos i2, if_pos i2, if_pos i2]
              · rw [if_neg i2, if_neg i2, if_neg i2]
                by_cases i3 : (i : Int) = 5 * c + 3
                · rw [if_pos i3, if_pos i3, if_pos i3]
                · rw [if_neg i3, if_neg i3, if_neg i3, if_pos (by omega)]
        · rw [if_neg e, if_neg e, if_neg (by omega), if_neg (by omega), if_neg (by omega), if_neg (by omega)]; omega
      · show V10 20 i = if (i : Int) < p + 1 then V0 20 i + clD w day i else V0 20 i
        rw [e10, uz_at, up_if, k8 20 (by decide) (by decide)]
        by_cases e : i = p.toNat
        · rw [if_pos e, h20, if_neg (by omega), if_pos (by omega), e, show ((p.toNat : Nat) : Int) = p by omega]
        · rw [if_neg e, h20 i]
          by_cases e2 : (i : Int) < p
          · rw [if_pos e2, if_pos (by omega)]
          · rw [if_neg e2, if_neg (by omega)]
  · show V2 22 i = if 5 * c ≤ (i : Int) ∧ (i : Int) < 5 * c + 5 then clC w day 0 ((i : Int) - 5 * c) else V0 22 i
    rw [f22]
    by_cases e : 5 * c ≤ (i : Int) ∧ (i : Int) < 5 * c + 5
    · rw [if_pos e, if_pos e, cel _ _ e.1 e.2]
      have z1 : cl1 w day 0 = 0 := rfl
      have z2 : cl2 w day 0 = 0 := rfl
      have z3 : cl3 w day 0 = 0 := rfl
      have z4 : cl4 w day 0 = 0 := rfl
      rw [z1, z2, z3, z4]
      by_cases i0 : (i : Int) = 5 * c
      · rw [if_pos i0, if_pos i0]
      · rw [if_neg i0, if_neg i0]
        split
        · rfl
        · split
          · rfl
          · split <;> rfl
    · rw [if_neg e, if_neg e]
  · show V2 20 i = if (i : Int) < 0 then V0 20 i + clD w day i else V0 20 i
    rw [f2 20 (by decide) (by decide), if_neg (by omega)]
theorem ag_claim {V X : Sz} {PV : Nat → Sz} {K : Nat} {V8 : Sz} (h : Rel V PV K V8) {n : Nat} (hn : 20000 < n) {day : Int} (hx : rng day) : TT (f_X8_claim n V8 day) (Chg cdJ V PV K (f_X7_claim n V X PV K day)) := by
  have hL := h.1
  have hw := hL.2.2.1
  have h30 := hL.2.2.2
  have a2 := hw.2.1.2.2.1
  have a4 := hw.2.1.2.2.2.1
  unfold f_X8_claim
  refine tt_nmE (fun V1 e1 => ?_)
  have hT : Thr V8 V1 0 := by rw [e1]; exact Thr.zero V8 0
  have e10 : V1 0 = V8 0 := hT.2 0 (by decide)
  refine tt_nmE (fun c ec => ?_)
  rw [e10] at ec
  have e25 : V 25 0 = c := by rw [ec]; exact hL.at.2.2.2.2.2.2
  have hfull : f_X0_isFull (sv 25 V) = some (decide (c = 20)) := by
    have e : sv 25 V 0 0 = c := e25
    unfold f_X0_isFull
    rw [e, ck_t ⟨by omega, by omega⟩]
    by_cases q : c = 20
    · rw [if_neg (by omega), decide_eq_true q]
    · rw [if_pos (by omega), decide_eq_false q]
  have hlat : f_X0_latestDay (sv 25 V) = some (if c = 0 then 0 else wCl (V8 0) (c - 1) 0) ∧ 0 ≤ (if c = 0 then 0 else wCl (V8 0) (c - 1) 0) ∧ (if c = 0 then 0 else wCl (V8 0) (c - 1) 0) ≤ 9999 := by
    have e : sv 25 V 0 0 = c := e25
    by_cases q : c = 0
    · unfold f_X0_latestDay
      rw [e, ck_t ⟨by omega, by omega⟩, if_pos q, if_pos q]
      exact ⟨rfl, by decide, by decide⟩
    · have hcl := hL.1.2.2.2.2.2.2 (c - 1) 0 (by omega) (by omega) (by decide) (by decide)
      have hc := hw.2.2.2.2.2.2.2.2 (c - 1) (by omega) (by omega)
      have e26 : sv 25 V 1 ((c - 1) * 5).toNat = wCl (V8 0) (c - 1) 0 := by
        rw [← hcl, Int.add_zero]; rfl
      unfold f_X0_latestDay
      rw [e, ck_t ⟨by omega, by omega⟩, if_neg q, ck_t ⟨by omega, by omega⟩, e26, if_neg q]
      exact ⟨rfl, hc⟩
  refine rg_t hx ⟨by decide, by decide⟩ ⟨by decide, by decide⟩ (fun cd => ?_) (fun cd => ?_)
  · have refuse : (c = 20 ∨ (c ≠ 20 ∧ c ≠ 0 ∧ day < wCl (V8 0) (c - 1) 0)) → TT (jX8_claim_65 n day c V1) (Chg cdJ V PV K (f_X7_claim n V X PV K day)) := by
      intro q
      unfold jX8_claim_65 jX8_claim_70
      refine f1_t (tt_f (by decide) (tt_some (chg_no (e := 2) h ?_ (hT.trans (Thr.zero V1 2)) rfl (by decide))))
      unfold f_X7_claim
      rw [x7_rangeY hx ⟨by decide, by decide⟩ ⟨by decide, by decide⟩ cd, bx_l, hfull, bd_s]
      rcases q with q | ⟨q1, q2, q3⟩
      · rw [decide_eq_true q]; rfl
      · rw [decide_eq_false q1, if_neg (by decide), hlat.1, bd_s, if_neg q2, ck_t ⟨by have := hlat.2; rw [if_neg q2] at this; constructor <;> omega, hx⟩, if_neg (by omega)]; rfl
    have accept : c ≠ 20 → (if c = 0 then 0 else wCl (V8 0) (c - 1) 0) ≤ day → TT (jX8_claim_69 n day c V1) (Chg cdJ V PV K (f_X7_claim n V X PV K day)) := by
      intro q1 q2
      unfold jX8_claim_69 jX8_claim_70
      refine f0_t (tt_t rfl (tt_bd (remember_both (h.thr hT) hn) (fun V5 ⟨hk5, Va, PVa, Ka, ea, hka, hPa⟩ => ?_)))
      have e50 : V5 0 = V8 0 := (hk5 0 (by decide) (by decide)).trans (hT.2 0 (by decide))
      refine tt_bd (x8_laysAid (V0 := V5) (by rw [e50]; exact hw) (by omega)) (fun V10 hA => ?_)
      have e100 : V10 0 = V8 0 := (hA.1 0 (by decide) (by decide) (by decide) (by decide)).trans e50
      have hp : ∀ p : Int, 0 ≤ p → partB (V8 0) p = true → V10 12 p.toNat = aidS (V8 0) p := fun p p0 hb => by
        have hs := part_split p0 hb
        have x := (hA.2 (p / 3) (p % 3) hs.1 (by rw [e50]; exact hs.2.1) hs.2.2.1 (by rw [e50]; exact hs.2.2.2.1)).2
        rw [e50, hs.2.2.2.2] at x
        exact x
      refine tt_nmE (fun at_ eat => ?_)
      refine tt_lp (I := fun z : Int × Int × Sz => z.1 = at_ ∧ (0 ≤ z.2.1 ∧ z.2.1 ≤ 5) ∧ (∀ k : Nat, k ≠ 0 → z.2.2 k = V10 k) ∧ ∀ i : Nat, z.2.2 0 i = if at_ ≤ (i : Int) ∧ (i : Int) < at_ + z.2.1 then 0 else V8 0 i) (μ := fun z => (5 - z.2.1).toNat) ?_ n (at_, 0, V10) ⟨rfl, ⟨Int.le_refl _, by show (0 : Int) ≤ 5; decide⟩, fun _ _ => rfl, fun i => by show V10 0 i = if at_ ≤ (i : Int) ∧ (i : Int) < at_ + 0 then 0 else V8 0 i; rw [if_neg (by omega), e100]⟩ (by show (5 - (0 : Int)).toNat < n; omega)
      rintro ⟨y3, k, V11⟩ rec98 ⟨ey, ⟨k0, k1⟩, hk, hT11⟩ ih98
      simp only at ey k0 k1 hk hT11
      subst ey
      rw [bX8_claim_98_e]
      refine tt_ck ⟨by omega, by omega⟩ (tt_ite (fun c5 => tt_ck ⟨by omega, by omega⟩ (tt_nmE (fun V14 e14 => ?_))) (fun c5 => tt_ck ⟨by omega, by omega⟩ (tt_nm (tt_nm (ih98 (y3, k + 1, uz V11 0 (y3 + k).toNat 0) ⟨rfl, ⟨by show 0 ≤ k + 1; omega, by show k + 1 ≤ 5; omega⟩, fun j j0 => ?_, fun i => ?_⟩ (by show (5 - (k + 1)).toNat < (5 - k).toNat; omega))))))
      · have ek : k = 5 := by omega
        have h14k : ∀ k : Nat, k ≠ 0 → V14 k = V10 k := fun k k0 => by rw [e14, uz_ne k0]; exact hk k k0
        have hrow0 : ClaRow (V8 0) day 0 (V14 0) := by
          intro i
          rw [e14, uz_at, up_if, hT11 i]
          by_cases e : i = y3.toNat
          · rw [if_pos e, if_pos (by omega), show (i : Int) - (1133 + 5 * V8 0 4) = 0 by omega]; rfl
          · rw [if_neg e]
            by_cases e2 : y3 ≤ (i : Int) ∧ (i : Int) < y3 + k
            · rw [if_pos e2, if_pos (by omega)]
              unfold clC
              rw [if_neg (by omega)]
              split
              · rfl
              · split
                · rfl
                · split <;> rfl
            · rw [if_neg e2, if_neg (by omega), if_neg (by omega)]
        refine tt_lp (I := fun z : Int × Int × Sz => z.1 = y3 ∧ (0 ≤ z.2.1 ∧ z.2.1 ≤ 180) ∧ (∀ k : Nat, k ≠ 0 → z.2.2 k = V10 k) ∧ ClaRow (V8 0) day z.2.1 (z.2.2 0)) (μ := fun z => (180 - z.2.1).toNat) ?_ n (y3, 0, V14) ⟨rfl, ⟨Int.le_refl _, by show (0 : Int) ≤ 180; decide⟩, h14k, hrow0⟩ (by show (180 - (0 : Int)).toNat < n; omega)
        rintro ⟨z3, p, V15⟩ rec130 ⟨ez, ⟨p0, p1⟩, hk15, hrow⟩ ih130
        simp only at ez p0 p1 hk15 hrow
        subst ez
        have hae := cla_aeq hrow hw
        have hn15 := cla_n hrow hw cd p0 p1
        have hcb := cl_bd hw (day := day) p0 p1
        have cell : ∀ j : Int, 0 ≤ j → j < 5 → V15 0 (z3 + j).toNat = clC (V8 0) day p j := fun j j0 j1 => by
          rw [hrow, if_pos (by omega), show (((z3 + j).toNat : Nat) : Int) - (1133 + 5 * V8 0 4) = j by omega]
        rw [bX8_claim_130_e]
        refine tt_ck ⟨by omega, by omega⟩ (tt_ite (fun cc => tt_nmE (fun V16 e16 => ?_)) (fun cc => ?_))
        · have ep : p = 180 := by omega
          have e160 : V16 0 = up (V15 0) 4 (V8 0 4 + 1) := by rw [e16, uz_at, hae.2 4 (by decide)]
          have v1 : V16 0 (z3 + 1).toNat = cl1 (V8 0) day 180 := by rw [e160, up_ne (by omega), cell 1 (by decide) (by decide), ep]; rfl
          have v2 : V16 0 (z3 + 2).toNat = cl2 (V8 0) day 180 := by rw [e160, up_ne (by omega), cell 2 (by decide) (by decide), ep]; rfl
          rw [v1, v2]
          refine tt_ck ⟨by omega, by omega⟩ (tt_ck ⟨by omega, by omega⟩ (tt_some ?_))
          have eav : ∀ k : Nat, k < 86 → Va k = V k := fun k hk => hka k (by omega) (by omega)
          have hLa : LR (sv 4 Va) (V8 0) := LR.copy (cop_at (fun k hk => eav _ (by omega))) hL
          rw [ep] at hrow
          have hx7 : TT (f_X7_claim n V X PV K day) (fun y => ∃ V2, y = .inl (cl1 (V8 0) day 180 - cl2 (V8 0) day 180, V2, PVa, Ka) ∧ LR (sv 4 V2) (V16 0) ∧ ∀ k : Nat, k < 4 ∨ 31 ≤ k → V2 k = Va k) := by
            unfold f_X7_claim
            rw [x7_rangeY hx ⟨by decide, by decide⟩ ⟨by decide, by decide⟩ cd, bx_l, hfull, bd_s, decide_eq_false q1, if_neg (by decide), hlat.1, bd_s]
            refine tt_ck ⟨⟨by omega, by omega⟩, hx⟩ (tt_t q2 ?_)
            rw [ea, bd_s]
            refine tt_bl (tt_bd (c4_makeClaim (V0 := sv 4 Va) hLa hrow (by omega) cd.1 cd.2 (by omega)) (fun ⟨r7, Vs⟩ ⟨u1, u2⟩ => tt_nmE (fun Vd ed => tt_some ⟨Vd, ?_, ?_, fun k hk => ?_⟩)))
            · have u1 : r7 = _ := u1
              rw [u1]
            · rw [e160, ed]
              exact LR.copy (sw_cop4 Va Vs) u2
            · rw [ed, sw_out (by omega)]
          obtain ⟨y, ey, V2, rfl, hL2, hk2⟩ := hx7
          refine chg_yes h hT hk5 hPa hka (fun k k0 k13 => ?_) hk2 hL2 ?_ ey
          · rw [e16, uz_ne k0, hk15 k k0]
            exact hA.1 k (by omega) (by omega) (by omega) (by omega)
          · rw [e160]
            intro g i g0 g1 i0 i1
            rw [up_ne (by decide), hae.2 2 (by decide)] at g1
            have em : wMany (up (V15 0) 4 (V8 0 4 + 1)) g = wMany (V8 0) g := (up_ne (by omega)).trans (hae.2 _ (by omega))
            rw [em] at i0
            have hgw := hw.2.2.2.2.1 g g0 g1
            have x := h.z g i g0 g1 i0 i1
            have eb : wPb (up (V15 0) 4 (V8 0 4 + 1)) (3 * g + i) = wPb (V8 0) (3 * g + i) := (up_ne (by omega)).trans (hae.2 _ (by omega))
            have hnb : clD (V8 0) day (3 * g + i) = 0 := by
              unfold clD
              rw [part_Bn (by omega) i1, decide_eq_false (show ¬ i < wMany (V8 0) g by omega), Bool.false_and]
              exact if_neg (by decide)
            have ecp : wPc (up (V15 0) 4 (V8 0 4 + 1)) (3 * g + i) = wPc (V8 0) (3 * g + i) := by
              unfold wPc
              rw [up_ne (by omega), hrow, if_neg (by omega), if_pos (by omega), show (((953 + (3 * g + i)).toNat : Nat) : Int) - 953 = 3 * g + i by omega, hnb]
              omega
            rw [eb, ecp]; exact x
        · have hcell953 : V15 0 (953 + p).toNat = wPc (V8 0) p := by rw [hrow, if_neg (by omega), if_neg (by omega)]; rfl
          have e12 : V15 12 = V10 12 := hk15 12 (by decide)
          have hdb := clD_bd hw (day := day) p0
          rw [x8_claimOf hw hae.1 (hae.2 6 (by decide)) hn15 p0 (by omega) hcell953 (fun hb => by rw [e12]; exact hp p p0 hb) cd.1 cd.2, bd_s]
          have eD : (if partB (V8 0) p = true then claS (V8 0) day p else 0) = clD (V8 0) day p := rfl
          rw [eD]
          have st := cl_step (w := V8 0) (day := day) p0
          refine tt_ck ⟨by omega, by omega⟩ (tt_ite (fun c0 => ?_) (fun c0 => ?_))
          · unfold jX8_claim_219
            refine tt_nm (ih130 (z3, p + 1, V15) ⟨rfl, ⟨by show 0 ≤ p + 1; omega, by show p + 1 ≤ 180; omega⟩, hk15, fun i => ?_⟩ (by show (180 - (p + 1)).toNat < (180 - p).toNat; omega))
            show V15 0 i = _
            have sn := cl_none c0 p0
            rw [hrow i]
            unfold clC
            rw [sn.1, sn.2.1, sn.2.2.1, sn.2.2.2]
            by_cases e1 : 1133 + 5 * V8 0 4 ≤ (i : Int) ∧ (i : Int) < 1133 + 5 * V8 0 4 + 5
            · rw [if_pos e1, if_pos e1]
            · rw [if_neg e1, if_neg e1]
              by_cases e2 : 953 ≤ (i : Int) ∧ (i : Int) < 953 + p
              · rw [if_pos e2, if_pos (by show 953 ≤ (i : Int) ∧ (i : Int) < 953 + (p + 1); omega)]
              · rw [if_neg e2]
                by_cases e3 : (i : Int) = 953 + p
                · rw [if_pos (by show 953 ≤ (i : Int) ∧ (i : Int) < 953 + (p + 1); omega), show (i : Int) - 953 = p by omega, c0]; omega
                · rw [if_neg (by show ¬ (953 ≤ (i : Int) ∧ (i : Int) < 953 + (p + 1)); omega)]
          · have hb : partB (V8 0) p = true := by
              cases hb : partB (V8 0) p with
              | true => rfl
              | false => exact (c0 (by unfold clD; rw [hb]; rfl)).elim
            have hnew := clD_new hw (day := day) p0 hb
            have haid : wPc (V8 0) p + clD (V8 0) day p = aidS (V8 0) p := by
              rcases hnew.1 with q | q
              · exact (c0 q).elim
              · exact q
            have go : ∀ (j k : Int) (Kt : Sz → Option (Int × Sz)), (∀ V23, Kt V23 = jX8_claim_195 n day rec130 z3 p V23 k z3) → (j = 1 ∧ k = 3 ∧ 0 < clD (V8 0) day p) ∨ (j = 2 ∧ k = 4 ∧ clD (V8 0) day p < 0) → TT (ck (inZ (z3 + j) 1233) <| ck (rng (clD (V8 0) day p)) <| nm (uz V15 0 (z3 + j).toNat ((V15 0 (z3 + j).toNat) + (abZ (clD (V8 0) day p)))) Kt) (Chg cdJ V PV K (f_X7_claim n V X PV K day)) := by
              intro j k Kt hKt hjk
              have hab : abZ (clD (V8 0) day p) = max 0 (clD (V8 0) day p) + max 0 (-clD (V8 0) day p) := by
                unfold abZ
                split <;> omega
              rw [cell j (by omega) (by omega), hab]
              refine tt_ck ⟨by omega, by omega⟩ (tt_ck ⟨by omega, by omega⟩ (tt_nmE (fun V23 e23 => ?_)))
              rw [hKt V23]
              unfold jX8_claim_195
              have ek23 : V23 0 (z3 + k).toNat = clC (V8 0) day p k := by rw [e23, uz_at, up_ne (by omega)]; exact cell k (by omega) (by omega)
              rw [ek23]
              refine tt_ck ⟨by omega, by omega⟩ (tt_nmE (fun V25 e25' => tt_ck ⟨by omega, by omega⟩ (tt_ck ⟨by omega, by omega⟩ (tt_nmE (fun V28 e28 => ?_)))))
              have e2512 : V25 12 p.toNat = aidS (V8 0) p := by rw [e25', uz_ne (by decide), e23, uz_ne (by decide), e12]; exact hp p p0 hb
              unfold jX8_claim_219
              refine tt_nm (ih130 (z3, p + 1, V28) ⟨rfl, ⟨by show 0 ≤ p + 1; omega, by show p + 1 ≤ 180; omega⟩, fun q q0 => ?_, fun i => ?_⟩ (by show (180 - (p + 1)).toNat < (180 - p).toNat; omega))
              · show V28 q = V10 q
                rw [e28, uz_ne q0, e25', uz_ne q0, e23, uz_ne q0]; exact hk15 q q0
              · show V28 0 i = if 1133 + 5 * V8 0 4 ≤ (i : Int) ∧ (i : Int) < 1133 + 5 * V8 0 4 + 5 then clC (V8 0) day (p + 1) ((i : Int) - (1133 + 5 * V8 0 4)) else if 953 ≤ (i : Int) ∧ (i : Int) < 953 + (p + 1) then V8 0 i + clD (V8 0) day ((i : Int) - 953) else V8 0 i
                rw [e28, uz_at, up_if, e2512, e25', uz_at, up_if, e23, uz_at, up_if, hrow i]
                by_cases e1 : 1133 + 5 * V8 0 4 ≤ (i : Int) ∧ (i : Int) < 1133 + 5 * V8 0 4 + 5
                · rw [if_neg (show ¬ i = (953 + p).toNat by omega), if_pos e1, if_pos e1]
                  obtain ⟨m, em⟩ : ∃ m, m = (i : Int) - (1133 + 5 * V8 0 4) := ⟨_, rfl⟩
                  have hik : i = (z3 + k).toNat ↔ m = k := by omega
                  have hij : i = (z3 + j).toNat ↔ m = j := by omega
                  rw [← em]
                  have hm : m = 0 ∨ m = 1 ∨ m = 2 ∨ m = 3 ∨ m = 4 := by omega
                  have w0 : ∀ q, clC (V8 0) day q 0 = day := fun _ => rfl
                  have w1 : ∀ q, clC (V8 0) day q 1 = cl1 (V8 0) day q := fun _ => rfl
                  have w2 : ∀ q, clC (V8 0) day q 2 = cl2 (V8 0) day q := fun _ => rfl
                  have w3 : ∀ q, clC (V8 0) day q 3 = cl3 (V8 0) day q := fun _ => rfl
                  have w4 : ∀ q, clC (V8 0) day q 4 = cl4 (V8 0) day q := fun _ => rfl
                  rcases hjk with ⟨j1, k3, hpos⟩ | ⟨j2, k4, hneg⟩
                  · subst j1 k3
                    rw [if_pos hpos, if_neg (show ¬ clD (V8 0) day p < 0 by omega)] at st
                    rcases hm with e | e | e | e | e
                    · rw [if_neg (by omega), if_neg (by omega), e, w0, w0]
                    · rw [if_neg (by omega), if_pos (by omega), e, w1, w1]; omega
                    · rw [if_neg (by omega), if_neg (by omega), e, w2, w2]; omega
                    · rw [if_pos (by omega), e, w3, w3]; omega
                    · rw [if_neg (by omega), if_neg (by omega), e, w4, w4]; omega
                  · subst j2 k4
                    rw [if_neg (show ¬ 0 < clD (V8 0) day p by omega), if_pos hneg] at st
                    rcases hm with e | e | e | e | e
                    · rw [if_neg (by omega), if_neg (by omega), e, w0, w0]
                    · rw [if_neg (by omega), if_neg (by omega), e, w1, w1]; omega
                    · rw [if_neg (by omega), if_pos (by omega), e, w2, w2]; omega
                    · rw [if_neg (by omega), if_neg (by omega), e, w3, w3]; omega
                    · rw [if_pos (by omega), e, w4, w4]; omega
                · rw [if_neg e1, if_neg e1]
                  by_cases e3 : i = (953 + p).toNat
                  · have ew : V8 0 i = wPc (V8 0) p := by rw [e3]; rfl
                    rw [if_pos e3, if_pos (by omega), show (i : Int) - 953 = p by omega, ew, haid]
                  · rw [if_neg e3, if_neg (show ¬ i = (z3 + k).toNat by omega), if_neg (show ¬ i = (z3 + j).toNat by omega)]
                    by_cases e2 : 953 ≤ (i : Int) ∧ (i : Int) < 953 + p
                    · rw [if_pos e2, if_pos (by omega)]
                    · rw [if_neg e2, if_neg (by omega)]
            refine tt_ite (fun cn => ?_) (fun cn => ?_)
            · unfold jX8_claim_170
              exact go 2 4 _ (fun V23 => by rw [if_pos cn]) (Or.inr ⟨rfl, rfl, by omega⟩)
            · unfold jX8_claim_170
              exact go 1 3 _ (fun V23 => by rw [if_neg cn]) (Or.inl ⟨rfl, rfl, by omega⟩)
      · show uz V11 0 _ _ j = V10 j
        rw [uz_ne j0]; exact hk j j0
      · show uz V11 0 (y3 + k).toNat 0 0 i = if y3 ≤ (i : Int) ∧ (i : Int) < y3 + (k + 1) then 0 else V8 0 i
        rw [uz_at, up_if, hT11 i]
        by_cases e : i = (y3 + k).toNat
        · rw [if_pos e, if_pos (by omega)]
        · rw [if_neg e]
          by_cases e2 : y3 ≤ (i : Int) ∧ (i : Int) < y3 + k
          · rw [if_pos e2, if_pos (by omega)]
          · rw [if_neg e2, if_neg (by omega)]
    unfold jX8_claim_29
    refine f0_t (tt_f (by decide) (tt_ck ⟨by omega, by omega⟩ (tt_ite (fun q => refuse (Or.inl q)) (fun q => tt_ite (fun q2 => accept q (by rw [if_pos (by omega)]; exact cd.1)) (fun q2 => ?_)))))
    have hcl : V1 0 (1133 + 5 * (c - 1)).toNat = wCl (V8 0) (c - 1) 0 := by
      rw [e10]
      unfold wCl
      rw [Int.add_zero]
    have hc := hlat.2
    rw [if_neg (by omega)] at hc
    rw [hcl]
    refine tt_ck ⟨by omega, by omega⟩ (tt_ck ⟨⟨by omega, by omega⟩, hx⟩ (tt_ite (fun q3 => accept q (by rw [if_neg (by omega)]; exact q3)) (fun q3 => refuse (Or.inr ⟨q, by omega, by omega⟩))))
  · unfold jX8_claim_29
    refine f1_t (tt_t rfl (tt_some (chg_no (e := 1) h ?_ (hT.trans (Thr.zero V1 1)) rfl (by decide))))
    unfold f_X7_claim
    rw [x7_rangeN hx ⟨by decide, by decide⟩ ⟨by decide, by decide⟩ cd]; rfl
