/-! sums over all parts -/
theorem ag_totalAid {V7 X V8 : Sz} (h : LR (sv 4 V7) (V8 0)) {n : Nat} (hn : 1000 ≤ n) : TT (f_X8_totalAid n V8) (AskO (f_X7_totalAid n V7 X) V8) := by
  have hw := h.2.2.1
  unfold f_X8_totalAid
  refine tt_nmE (fun V1 e1 => ?_)
  have hT : Thr V8 V1 0 := by rw [e1]; exact Thr.zero V8 0
  have e0 : V1 0 = V8 0 := hT.2 0 (by decide)
  refine tt_bd (x8_allAid (V0 := V1) (by rw [e0]; exact hw) hn) (fun ⟨r, V3⟩ ⟨hr, hA⟩ => tt_some (asko_aid ?_ hT hA))
  have hr : r = sumPS (V1 0) (aidS (V1 0)) := hr
  rw [e0] at hr
  unfold f_X7_totalAid
  rw [c4_sumOfAll h (by omega) ⟨by decide, by decide⟩, bd_s, hr]
  congr 1
/-- the rows' shapes of the sums over the slots, on both sides -/
theorem slots_at {V : Sz} {w : Rw} (h : LR0 V w) : f_X3_slotCount (sv 9 V) = some (w 2 * 3) := by
  unfold f_X3_slotCount
  rw [sv_at, h.1.2.2.2.2.2.1]
def overS (w : Rw) (p : Int) : Int := max 0 (wPc w p - aidS w p)
def underS (w : Rw) (p : Int) : Int := max 0 (aidS w p - wPc w p)
theorem wPc_bd {w : Rw} (hw : WF w) {p : Int} (p0 : 0 ≤ p) (hb : partB w p = true) : 0 ≤ wPc w p ∧ wPc w p ≤ 999999 := by
  have hs := part_split p0 hb
  have h4 := hw.2.2.2.2.2.1 _ _ hs.1 hs.2.1 hs.2.2.1 hs.2.2.2.1
  rw [hs.2.2.2.2] at h4
  exact ⟨h4.2.2.2.2.2.1, h4.2.2.2.2.2.2⟩
theorem c4_tooMuch {V : Sz} {w : Rw} (h : LR V w) {p : Int} (p0 : 0 ≤ p) (p1 : p < w 2 * 3) : f_X4_tooMuch V p = some (if partB w p = true then overS w p else 0) := by
  have hw := h.2.2.1
  have a2 := hw.2.1.2.2.1
  unfold f_X4_tooMuch
  rw [c3_isPart h.1 hw p0 p1, bd_s]
  cases hb : partB w p with
  | false => rfl
  | true =>
    have hl := h.1.2.2.2.2.1 p p0 (by omega) hb
    have hv := h.2.1 p p0 (by omega) hb
    have hab := aidS_bd hw p0 hb
    have hcb := wPc_bd hw p0 hb
    rw [if_neg (by decide), ck_t ⟨p0, by omega⟩, hl.2.2.2, hv.2.2, ck_t ⟨by omega, by omega⟩, if_pos rfl]; rfl
theorem c4_unclaimed {V : Sz} {w : Rw} (h : LR V w) {p : Int} (p0 : 0 ≤ p) (p1 : p < w 2 * 3) : f_X4_unclaimed V p = some (if partB w p = true then underS w p else 0) := by
  have hw := h.2.2.1
  have a2 := hw.2.1.2.2.1
  unfold f_X4_unclaimed
  rw [c3_isPart h.1 hw p0 p1, bd_s]
  cases hb : partB w p with
  | false => rfl
  | true =>
    have hl := h.1.2.2.2.2.1 p p0 (by omega) hb
    have hv := h.2.1 p p0 (by omega) hb
    have hab := aidS_bd hw p0 hb
    have hcb := wPc_bd hw p0 hb
    rw [if_neg (by decide), ck_t ⟨p0, by omega⟩, hl.2.2.2, hv.2.2, ck_t ⟨by omega, by omega⟩, if_pos rfl]; rfl
theorem x8_over {V8 V : Sz} (hw : WF (V8 0)) (e0 : V 0 = V8 0) {p : Int} (p0 : 0 ≤ p) (hb : partB (V8 0) p = true) (hp : V 12 p.toNat = aidS (V8 0) p) : f_X8_over V p = some (overS (V8 0) p) := by
  have a2 := hw.2.1.2.2.1
  have hs := part_split p0 hb
  have hab := aidS_bd hw p0 hb
  have hcb := wPc_bd hw p0 hb
  have ec : V 0 (953 + p).toNat = wPc (V8 0) p := by rw [e0]; rfl
  unfold f_X8_over
  rw [ec, hp, ck_t ⟨by omega, by omega⟩, ck_t ⟨p0, by omega⟩, ck_t ⟨by omega, by omega⟩]; rfl
theorem x8_under {V8 V : Sz} (hw : WF (V8 0)) (e0 : V 0 = V8 0) {p : Int} (p0 : 0 ≤ p) (hb : partB (V8 0) p = true) (hp : V 12 p.toNat = aidS (V8 0) p) : f_X8_under V p = some (underS (V8 0) p) := by
  have a2 := hw.2.1.2.2.1
  have hs := part_split p0 hb
  have hab := aidS_bd hw p0 hb
  have hcb := wPc_bd hw p0 hb
  have ec : V 0 (953 + p).toNat = wPc (V8 0) p := by rw [e0]; rfl
  unfold f_X8_under
  rw [ec, hp, ck_t ⟨p0, by omega⟩, ck_t ⟨by omega, by omega⟩, ck_t ⟨by omega, by omega⟩]; rfl
theorem ag_overclaimed {V7 X V8 : Sz} (h : LR (sv 4 V7) (V8 0)) {n : Nat} (hn : 1000 ≤ n) : TT (f_X8_overclaimed n V8) (AskO (f_X7_overclaimed n V7 X) V8) := by
  have hw := h.2.2.1
  have a2 := hw.2.1.2.2.1
  have e7 : f_X7_overclaimed n V7 X = some (sumPS (V8 0) (overS (V8 0))) := by
    refine tt_eq ?_
    unfold f_X7_overclaimed
    refine tt_sumUp (fun p => if partB (V8 0) p = true then overS (V8 0) p else 0) (V8 0 2 * 3) (by omega) (by omega) (fun sm p rec p0 p1 es next => ?_)
    rw [bX7_overclaimed_4_e, show f_X3_slotCount (sv 13 V7) = _ from slots_at h.1, bd_s]
    refine tt_ck ⟨⟨by omega, by omega⟩, ⟨by omega, by omega⟩⟩ (tt_ite (fun c => tt_some ?_) (fun c => ?_))
    · rw [es, show p = V8 0 2 * 3 by omega, sumPS_cut hw]
    · rw [c4_tooMuch h p0 (by omega), bd_s]
      exact tt_nm (tt_nm (next (by omega)))
  unfold f_X8_overclaimed
  refine tt_nmE (fun V1 e1 => ?_)
  have hT : Thr V8 V1 0 := by rw [e1]; exact Thr.zero V8 0
  refine tt_bd (aid_of hw hT hn) (fun V6 ⟨hA, e0, hp⟩ => ?_)
  refine tt_sum180 (fun p => if partB (V8 0) p = true then overS (V8 0) p else 0) hn (fun sm p rec p0 p1 es next => ?_)
  rw [bX8_overclaimed_13_e]
  refine tt_ck ⟨by omega, by omega⟩ (tt_ite (fun c => tt_some (asko_aid ?_ hT hA)) (fun c => ?_))
  · rw [e7, es, show p = 180 by omega]; rfl
  · have next := next (by omega)
    rw [x8_isPart (by rw [e0]; exact hw.1) p0 (by omega), bd_s, e0]
    unfold jX8_overclaimed_38
    refine tt_ite (fun c2 => ?_) (fun c2 => ?_)
    · rw [if_neg (by rw [c2]; decide)] at next
      exact tt_nm (tt_nm next)
    · have hb := eq_true_of_ne_false c2
      rw [x8_over hw e0 p0 hb (hp p p0 hb).2, bd_s]
      rw [if_pos hb] at next
      exact tt_nm (tt_nm next)
def lostS (w : Rw) (q p : Int) : Int := if reaS w p = q then fullS w p - aidS w p else 0
theorem reaS_bd (w : Rw) (p : Int) : 0 ≤ reaS w p ∧ reaS w p ≤ 5 := by
  unfold reaS
  repeat' split
  all_goals decide
theorem ag_lost {V7 X V8 : Sz} (h : LR (sv 4 V7) (V8 0)) {n : Nat} (hn : 1000 ≤ n) {q : Int} (hq : rng q) : TT (f_X8_lost n V8 q) (Asks cdI (f_X7_lost n V7 X q) V8) := by
  have hw := h.2.2.1
  have a2 := hw.2.1.2.2.1
  unfold f_X8_lost
  refine tt_nmE (fun V1 e1 => ?_)
  have hT : Thr V8 V1 0 := by rw [e1]; exact Thr.zero V8 0
  refine rg_t hq ⟨by decide, by decide⟩ ⟨by decide, by decide⟩ (fun c => ?_) (fun c => ?_)
  · have e7 : f_X7_lost n V7 X q = some (.inl (sumPS (V8 0) (lostS (V8 0) q))) := by
      have e4 : f_X4_lostBy n (sv 4 V7) q = some (sumPS (V8 0) (lostS (V8 0) q)) := by
        refine tt_eq ?_
        unfold f_X4_lostBy
        refine tt_sumUp (fun p => if partB (V8 0) p = true then lostS (V8 0) q p else 0) (V8 0 2 * 3) (by omega) (by omega) (fun sm p rec p0 p1 es next => ?_)
        rw [bX4_lostBy_4_e, slots_at h.1, bd_s]
        refine tt_ck ⟨⟨by omega, by omega⟩, ⟨by omega, by omega⟩⟩ (tt_ite (fun c => tt_some ?_) (fun c => ?_))
        · rw [es, show p = V8 0 2 * 3 by omega, sumPS_cut hw]
        · have next := next (by omega)
          unfold jX4_lostBy_50
          rw [c3_isPart h.1 hw p0 (by omega), bd_s]
          refine tt_ite (fun c2 => ?_) (fun c2 => ?_)
          · rw [if_neg (by rw [c2]; decide), Int.add_zero] at next
            exact tt_nm next
          · have hb := eq_true_of_ne_false c2
            have hs := part_split p0 hb
            have hv := h.2.1 p p0 (by omega) hb
            have hf := c4_fullAid h.1 hw hs.1 hs.2.1 hs.2.2.1 hs.2.2.2.1
            rw [hs.2.2.2.2] at hf
            have hrb := reaS_bd (V8 0) p
            rw [if_pos hb] at next
            unfold lostS at next
            rw [c4_reasonOf h hn p0 hb, bd_s, hf, bd_s, hv.2.2]
            refine tt_ck ⟨⟨by omega, by omega⟩, hq⟩ (tt_ite (fun c3 => tt_ck ⟨p0, by omega⟩ (tt_nm (tt_nm ?_))) (fun c3 => tt_nm ?_))
            · rw [if_pos c3] at next; exact next
            · rw [if_neg c3, Int.add_zero] at next; exact next
      unfold f_X7_lost
      rw [x7_rangeY hq ⟨by decide, by decide⟩ ⟨by decide, by decide⟩ c, bx_l, e4]; rfl
    rw [e7]
    unfold jX8_lost_20
    refine f0_t (tt_t rfl (tt_bd (aid_of hw hT hn) (fun V6 ⟨hA, e0, hp⟩ => ?_)))
    refine tt_sum180 (fun p => if partB (V8 0) p = true then lostS (V8 0) q p else 0) hn (fun sm p rec p0 p1 es next => ?_)
    rw [bX8_lost_37_e]
    refine tt_ck ⟨by omega, by omega⟩ (tt_ite (fun c => tt_some (asks_aid ?_ hT hA)) (fun c => ?_))
    · rw [es, show p = 180 by omega]; rfl
    · have next := next (by omega)
      rw [x8_isPart (by rw [e0]; exact hw.1) p0 (by omega), bd_s, e0]
      unfold jX8_lost_77 jX8_lost_78
      refine tt_ite (fun c2 => ?_) (fun c2 => ?_)
      · rw [if_neg (by rw [c2]; decide)] at next
        exact tt_nm (tt_nm next)
      · have hb := eq_true_of_ne_false c2
        have hs := part_split p0 hb
        have hfb := fullS_bd hw hs.1 hs.2.1 hs.2.2.1 hs.2.2.2.1
        rw [hs.2.2.2.2] at hfb
        have hrb := reaS_bd (V8 0) p
        rw [if_pos hb] at next
        unfold lostS at next
        rw [x8_reasonOf hw e0 hn p0 hb (hp p p0 hb), bd_s, x8_full (V := V6) p0 (by omega) (by rw [e0]; exact ⟨hfb.1, hfb.2.1⟩) (by rw [e0]; exact hw.2.1.2.2.2.2.1), bd_s, e0, (hp p p0 hb).2]
        refine tt_ck ⟨⟨by omega, by omega⟩, hq⟩ (tt_ite (fun c3 => tt_ck ⟨p0, by omega⟩ (tt_nm (tt_nm ?_))) (fun c3 => tt_nm (tt_nm ?_)))
        · rw [if_pos c3] at next; exact next
        · rw [if_neg c3] at next; exact next
  · unfold jX8_lost_20
    refine f1_t (tt_f (by decide) (tt_some (asks_no (e := 1) ?_ (hT.trans (Thr.zero V1 1)) rfl (by decide))))
    unfold f_X7_lost
    rw [x7_rangeN hq ⟨by decide, by decide⟩ ⟨by decide, by decide⟩ c]; rfl
/-! what a claim on a day does with a part -/
def claS (w : Rw) (day p : Int) : Int := if wDay w (p / 3) ≤ day then (if aidS w p - wPc w p ≤ 0 then aidS w p - wPc w p else if day - wDay w (p / 3) ≤ w 6 then aidS w p - wPc w p else 0) else 0
theorem claS_bd {w : Rw} (hw : WF w) {p day : Int} (p0 : 0 ≤ p) (hb : partB w p = true) : -999999 ≤ claS w day p ∧ claS w day p ≤ 999999 := by
  have hab := aidS_bd hw p0 hb
  have hcb := wPc_bd hw p0 hb
  unfold claS
  split
  · split
    · omega
    · split <;> omega
  · omega
theorem c4_differenceOn {V : Sz} {w : Rw} (h : LR V w) {p day : Int} (p0 : 0 ≤ p) (p1 : p < w 2 * 3) (d0 : 0 ≤ day) (d1 : day ≤ 9999) : f_X4_differenceOn V p day = some (if partB w p = true then claS w day p else 0) := by
  have hw := h.2.2.1
  have a2 := hw.2.1.2.2.1
  have a6 := hw.2.1.2.2.2.2.2.1
  have hgl := h.1.2.2.2.1 (p / 3) (by omega) (by omega)
  have hgw := hw.2.2.2.2.1 (p / 3) (by omega) (by omega)
  have hd : f_X3_dayOfPart (sv 9 V) p = some (wDay w (p / 3)) := by
    unfold f_X3_dayOfPart
    rw [sv_at, hgl.1, ck_t ⟨p0, by omega⟩, ck_t ⟨by omega, by omega⟩]
  unfold f_X4_differenceOn
  rw [hd, bd_s, nm_s, c3_isPart h.1 hw p0 p1, bd_s]
  cases hb : partB w p with
  | false => rfl
  | true =>
    have hl := h.1.2.2.2.2.1 p p0 (by omega) hb
    have hv := h.2.1 p p0 (by omega) hb
    have hab := aidS_bd hw p0 hb
    have hcb := wPc_bd hw p0 hb
    have e6 : V 1 0 = w 6 := h.1.1.2.1
    rw [if_neg (by decide), ck_t ⟨by omega, by omega⟩, if_pos rfl]
    unfold claS
    by_cases c : wDay w (p / 3) ≤ day
    · rw [if_pos (by omega), if_pos c, ck_t ⟨p0, by omega⟩, hl.2.2.2, hv.2.2, nm_s, ck_t ⟨by omega, by omega⟩]
      by_cases c2 : aidS w p - wPc w p ≤ 0
      · rw [if_pos c2, if_pos c2]
      · rw [if_neg c2, if_neg c2, e6, ck_t ⟨by omega, by omega⟩]
        by_cases c3 : day - wDay w (p / 3) ≤ w 6
        · rw [if_pos c3, if_pos c3]
        · rw [if_neg c3, if_neg c3]
    · rw [if_neg (by omega), if_neg c]
theorem x8_claimOf {V8 V : Sz} (hw : WF (V8 0)) (e0 : Aeq (V8 0) (V 0)) (e6 : V 0 6 = V8 0 6) (hn : WFn (V 0)) {p day : Int} (p0 : 0 ≤ p) (p1 : p < 180) (ec : V 0 (953 + p).toNat = wPc (V8 0) p) (hp : partB (V8 0) p = true → V 12 p.toNat = aidS (V8 0) p) (d0 : 0 ≤ day) (d1 : day ≤ 9999) : f_X8_claimOf V p day = some (if partB (V8 0) p = true then claS (V8 0) day p else 0) := by
  have a2 := hw.2.1.2.2.1
  have a6 := hw.2.1.2.2.2.2.2.1
  unfold f_X8_claimOf
  rw [x8_isPart hn p0 p1, bd_s, aeq_partB e0 p0 p1]
  cases hb : partB (V8 0) p with
  | false => rfl
  | true =>
    have hs := part_split p0 hb
    have hgw := hw.2.2.2.2.1 _ hs.1 hs.2.1
    have hab := aidS_bd hw p0 hb
    have hcb := wPc_bd hw p0 hb
    have ed := (aeq_gift e0 (g := p / 3) (by omega) (by omega)).1
    rw [if_neg (by decide), x8_dayOf p0 p1, bd_s, ed, ck_t ⟨⟨by omega, by omega⟩, ⟨by omega, by omega⟩⟩, if_pos rfl]
    unfold claS
    by_cases c : wDay (V8 0) (p / 3) ≤ day
    · rw [if_pos c, if_pos c, ck_t ⟨p0, by omega⟩, ck_t ⟨by omega, by omega⟩, ec, hp hb, nm_s, ck_t ⟨by omega, by omega⟩]
      by_cases c2 : aidS (V8 0) p - wPc (V8 0) p ≤ 0
      · rw [if_pos c2, if_pos c2]
      · rw [if_neg c2, if_neg c2, bd_s, e6, ck_t ⟨⟨by omega, by omega⟩, ⟨by omega, by omega⟩⟩]
        by_cases c3 : day - wDay (V8 0) (p / 3) ≤ V8 0 6
        · rw [if_pos c3, if_pos c3]
        · rw [if_neg c3, if_neg c3]
    · rw [if_neg c, if_neg c]
def fcS (w : Rw) (day f p : Int) : Int := max 0 (if f = 0 then claS w day p else - claS w day p)
theorem ag_claimable {V7 X V8 : Sz} (h : LR (sv 4 V7) (V8 0)) {n : Nat} (hn : 1000 ≤ n) {q f : Int} (hq : rng q) (hf : rng f) : TT (f_X8_claimable n V8 q f) (Asks cdI (f_X7_claimable n V7 X q f) V8) := by
  have hw := h.2.2.1
  have a2 := hw.2.1.2.2.1
  unfold f_X8_claimable
  refine tt_nmE (fun V1 e1 => ?_)
  have hT : Thr V8 V1 0 := by rw [e1]; exact Thr.zero V8 0
  refine rg_t hq ⟨by decide, by decide⟩ ⟨by decide, by decide⟩ (fun c => ?_) (fun c => ?_)
  · have e7 : f_X7_claimable n V7 X q f = some (.inl (sumPS (V8 0) (fcS (V8 0) q f))) := by
      have e4 : f_X4_forecast n (sv 4 V7) q f = some (sumPS (V8 0) (fcS (V8 0) q f)) := by
        refine tt_eq ?_
        unfold f_X4_forecast
        refine tt_sumUp (fun p => if partB (V8 0) p = true then fcS (V8 0) q f p else 0) (V8 0 2 * 3) (by omega) (by omega) (fun sm p rec p0 p1 es next => ?_)
        rw [bX4_forecast_5_e, slots_at h.1, bd_s]
        refine tt_ck ⟨⟨by omega, by omega⟩, ⟨by omega, by omega⟩⟩ (tt_ite (fun c => tt_some ?_) (fun c3 => ?_))
        · rw [es, show p = V8 0 2 * 3 by omega, sumPS_cut hw]
        · have next := next (by omega)
          have hbd : -999999 ≤ (if partB (V8 0) p = true then claS (V8 0) q p else 0) ∧ (if partB (V8 0) p = true then claS (V8 0) q p else 0) ≤ 999999 := by
            split
            · exact claS_bd hw p0 (by assumption)
            · omega
          rw [c4_differenceOn h p0 (by omega) c.1 c.2, bd_s]
          unfold jX4_forecast_40
          unfold fcS at next
          refine tt_ck hf (tt_ite (fun c2 => tt_ck ⟨⟨by decide, by decide⟩, ⟨by omega, by omega⟩⟩ (tt_nm (tt_nm ?_))) (fun c2 => tt_ck ⟨⟨by decide, by decide⟩, ⟨by omega, by omega⟩⟩ (tt_nm (tt_nm ?_))))
          · rw [if_pos c2] at next
            by_cases c4 : partB (V8 0) p = true
            · rw [if_pos c4] at next ⊢; exact next
            · rw [if_neg c4] at next ⊢; exact next
          · rw [if_neg c2] at next
            by_cases c4 : partB (V8 0) p = true
            · rw [if_pos c4] at next ⊢; exact next
            · rw [if_neg c4] at next ⊢; exact next
      unfold f_X7_claimable
      rw [x7_rangeY hq ⟨by decide, by decide⟩ ⟨by decide, by decide⟩ c, bx_l, e4]; rfl
    rw [e7]
    unfold jX8_claimable_22
    refine f0_t (tt_t rfl (tt_bd (aid_of hw hT hn) (fun V6 ⟨hA, e0, hp⟩ => ?_)))
    refine tt_sum180 (fun p => if partB (V8 0) p = true then fcS (V8 0) q f p else 0) hn (fun sm p rec p0 p1 es next => ?_)
    rw [bX8_claimable_40_e]
    refine tt_ck ⟨by omega, by omega⟩ (tt_ite (fun c => tt_some (asks_aid ?_ hT hA)) (fun c3 => ?_))
    · rw [es, show p = 180 by omega]; rfl
    · have next := next (by omega)
      have hbd : -999999 ≤ (if partB (V8 0) p = true then claS (V8 0) q p else 0) ∧ (if partB (V8 0) p = true then claS (V8 0) q p else 0) ≤ 999999 := by
        split
        · exact claS_bd hw p0 (by assumption)
        · omega
      have haeq : Aeq (V8 0) (V6 0) := (leq_all hw (fun i _ => by rw [e0])).1
      rw [x8_claimOf hw haeq (by rw [e0]) (by rw [e0]; exact hw.1) p0 (by omega) (by rw [e0]; rfl) (fun hb => (hp p p0 hb).2) c.1 c.2, bd_s]
      unfold jX8_claimable_78
      unfold fcS at next
      refine tt_ck hf (tt_ite (fun c2 => tt_ck ⟨by omega, by omega⟩ (tt_nm (tt_nm ?_))) (fun c2 => tt_ck ⟨by omega, by omega⟩ (tt_nm (tt_nm ?_))))
      · rw [if_pos c2] at next
        by_cases c4 : partB (V8 0) p = true
        · rw [if_pos c4] at next ⊢; exact next
        · rw [if_neg c4] at next ⊢; exact next
      · rw [if_neg c2] at next
        by_cases c4 : partB (V8 0) p = true
        · rw [if_pos c4] at next ⊢; exact next
        · rw [if_neg c4] at next ⊢; exact next
  · unfold jX8_claimable_22
    refine f1_t (tt_f (by decide) (tt_some (asks_no (e := 1) ?_ (hT.trans (Thr.zero V1 1)) rfl (by decide))))
    unfold f_X7_claimable
    rw [x7_rangeN hq ⟨by decide, by decide⟩ ⟨by decide, by decide⟩ c]; rfl
