/-! the donor with the greatest sum -/
theorem argM_fin {S : Int → Int} {n b M N : Int} (h : ArgM S n b M) (e : n = N) : ArgP S N b := e ▸ h.1
theorem ag_topDonor {V7 X V8 : Sz} (h : LR (sv 4 V7) (V8 0)) {n : Nat} (hn : 1000 ≤ n) {q : Int} (hq : rng q) : TT (f_X8_topDonor n V8 q) (Asks cdI (f_X7_topDonor n V7 X q) V8) := by
  have hw := h.2.2.1
  have a0 := hw.2.1.1
  obtain ⟨w, hw0⟩ : ∃ w, w = V8 0 := ⟨_, rfl⟩
  obtain ⟨S, hS⟩ : ∃ S : Int → Int, S = fun k => sumD w k q (-1) + 1 := ⟨_, rfl⟩
  have hSb : ∀ k, 1 ≤ S k ∧ S k ≤ 180 * 999999 + 1 := fun k => by
    have := sumD_bd (w := w) (by rw [hw0]; exact hw) k q (-1)
    rw [hS]
    show 1 ≤ sumD w k q (-1) + 1 ∧ sumD w k q (-1) + 1 ≤ 180 * 999999 + 1
    omega
  have hSe : ∀ k, sumD w k q (-1) = S k - 1 := fun k => by rw [hS]; show _ = sumD w k q (-1) + 1 - 1; omega
  unfold f_X8_topDonor
  refine tt_nmE (fun V1 e1 => ?_)
  have hT : Thr V8 V1 0 := by rw [e1]; exact Thr.zero V8 0
  refine rg_t hq ⟨by decide, by decide⟩ ⟨by decide, by decide⟩ (fun c => ?_) (fun c => ?_)
  · obtain ⟨b, eb, hb⟩ : ∃ b, f_X7_topDonor n V7 X q = some (.inl b) ∧ ArgP S (w 0) b := by
      have hx : TT (lpF (bX7_topDonor_13 n V7 X q) n ((-1), (-1), 0)) (fun b => ArgP S (w 0) b) := by
        refine tt_lp (I := fun z : Int × Int × Int => (0 ≤ z.2.2 ∧ z.2.2 ≤ w 0) ∧ ArgM S z.2.2 z.1 (z.2.1 + 1)) (μ := fun z => (w 0 - z.2.2).toNat) ?_ n (-1, -1, 0) ⟨⟨Int.le_refl _, by show 0 ≤ w 0; rw [hw0]; exact a0.1⟩, ArgM.nil S⟩ (by show (w 0 - (0 : Int)).toNat < n; rw [hw0]; omega)
        rintro ⟨b, m, k⟩ rec ⟨⟨k0, k1⟩, hm⟩ ih
        simp only at k0 k1 hm
        have hl := hm.le
        have hmb : m ≤ 180 * 999999 := by
          by_cases e : b = -1
          · have := hl.2.2.2.2.1 e; omega
          · have := (hl.2.2.2.2.2 e).2
            have := hSb b; omega
        have e7 : V7 7 0 = w 0 := by rw [hw0]; exact h.at.2.2.2.1
        rw [bX7_topDonor_13_e, e7]
        rw [← hw0] at a0
        unfold jX7_topDonor_50
        refine tt_ck ⟨⟨by omega, by omega⟩, ⟨by omega, by omega⟩⟩ (tt_ite (fun c2 => tt_some (argM_fin hm (by omega))) (fun c2 => ?_))
        rw [c4_sumOfDonor h hn ⟨by omega, by omega⟩ hq ⟨by decide, by decide⟩, bd_s, ← hw0, hSe]
        have hk := hSb k
        refine tt_ck ⟨⟨by omega, by omega⟩, ⟨by omega, by omega⟩⟩ (tt_ite (fun c3 => tt_nm (ih (b, m, k + 1) ⟨⟨by show 0 ≤ k + 1; omega, by show k + 1 ≤ w 0; omega⟩, hm.skip (by omega)⟩ (by show (w 0 - (k + 1)).toNat < (w 0 - k).toNat; omega))) (fun c3 => tt_nm (ih (k, S k - 1, k + 1) ⟨⟨by show 0 ≤ k + 1; omega, by show k + 1 ≤ w 0; omega⟩, ?_⟩ (by show (w 0 - (k + 1)).toNat < (w 0 - k).toNat; omega))))
        show ArgM S (k + 1) k (S k - 1 + 1)
        rw [show S k - 1 + 1 = S k by omega]
        exact hm.take k0 (by omega)
      obtain ⟨b, eb, hb⟩ := hx
      refine ⟨b, ?_, hb⟩
      unfold f_X7_topDonor
      rw [x7_rangeY hq ⟨by decide, by decide⟩ ⟨by decide, by decide⟩ c, bx_l, eb]; rfl
    rw [eb]
    unfold jX8_topDonor_20
    refine f0_t (tt_t rfl (tt_bd (aid_of hw hT hn) (fun V6 ⟨hA, e0, hp⟩ => ?_)))
    refine tt_lp (I := fun z : Int × Int × Sz => (0 ≤ z.2.1 ∧ z.2.1 ≤ w 0) ∧ z.2.2 = V6 ∧ ∃ M, ArgM S z.2.1 z.1 M) (μ := fun z => (w 0 - z.2.1).toNat) ?_ n (-1, 0, V6) ⟨⟨Int.le_refl _, by show 0 ≤ w 0; rw [hw0]; exact a0.1⟩, rfl, 0, ArgM.nil S⟩ (by show (w 0 - (0 : Int)).toNat < n; rw [hw0]; omega)
    rintro ⟨b1, k, V⟩ rec ⟨⟨k0, k1⟩, eV, M, hm⟩ ih
    simp only at k0 k1 eV hm
    subst eV
    have hl := hm.le
    rw [bX8_topDonor_37_e, e0, ← hw0]
    rw [← hw0] at a0
    have next : ∀ b2 : Int, (∃ M, ArgM S (k + 1) b2 M) → k < w 0 → TT (jX8_topDonor_71 n q rec b2 k V) (Asks cdI (some (Sum.inl b)) V8) := by
      intro b2 hM hk
      unfold jX8_topDonor_71
      exact tt_nm (ih (b2, k + 1, V) ⟨⟨by show 0 ≤ k + 1; omega, by show k + 1 ≤ w 0; omega⟩, rfl, hM⟩ (by show (w 0 - (k + 1)).toNat < (w 0 - k).toNat; omega))
    refine tt_ck ⟨⟨by omega, by omega⟩, ⟨by omega, by omega⟩⟩ (tt_ite (fun c2 => tt_some (asks_aid ?_ hT hA)) (fun c2 => ?_))
    · rw [ArgP.uniq hb (argM_fin hm (show k = w 0 by omega))]
    · have hk := hSb k
      refine tt_ck ⟨by omega, by omega⟩ (tt_ite (fun c3 => ?_) (fun c3 => ?_))
      · unfold jX8_topDonor_69
        have := hl.2.2.2.2.1 c3
        exact next k ⟨S k, hm.take k0 (by omega)⟩ (by omega)
      · have hM := hl.2.2.2.2.2 c3
        have hbb := hSb b1
        rw [x8_sumOf hw e0 hn hp ⟨by omega, by omega⟩ c ⟨by decide, by decide⟩, bd_s, x8_sumOf hw e0 hn hp (d := b1) ⟨by omega, by omega⟩ c ⟨by decide, by decide⟩, bd_s, ← hw0, hSe, hSe]
        refine tt_ck ⟨⟨by omega, by omega⟩, ⟨by omega, by omega⟩⟩ (tt_ite (fun c4 => next b1 ⟨M, hm.skip (by omega)⟩ (by omega)) (fun c4 => ?_))
        unfold jX8_topDonor_69
        exact next k ⟨S k, hm.take k0 (by omega)⟩ (by omega)
  · unfold jX8_topDonor_20
    refine f1_t (tt_f (by decide) (tt_some (asks_no (e := 1) ?_ (hT.trans (Thr.zero V1 1)) rfl (by decide))))
    unfold f_X7_topDonor
    rw [x7_rangeN hq ⟨by decide, by decide⟩ ⟨by decide, by decide⟩ c]; rfl
/-! what is open of a gift -/
def openG (w : Rw) (g : Int) : Int := sumN (fun i => underS w (3 * g + i)) (wMany w g).toNat
theorem underS_nn (w : Rw) (p : Int) : 0 ≤ underS w p := by unfold underS; omega
theorem underS_bd {w : Rw} (hw : WF w) {p : Int} (p0 : 0 ≤ p) (hb : partB w p = true) : underS w p ≤ 999999 := by
  have hab := aidS_bd hw p0 hb
  have hcb := wPc_bd hw p0 hb
  unfold underS
  omega
theorem openG_bd {w : Rw} (hw : WF w) {g : Int} (g0 : 0 ≤ g) (g1 : g < w 2) : 0 ≤ openG w g ∧ openG w g ≤ 3 * 999999 := by
  have hgw := hw.2.2.2.2.1 g g0 g1
  unfold openG
  constructor
  · exact sumN_nonneg (fun i _ _ => underS_nn w _)
  · have := sumN_le (f := fun i => underS w (3 * g + i)) (c := 999999) (n := (wMany w g).toNat) (fun i i0 i1 => underS_bd hw (by omega) (part_B hw g0 g1 i0 (by omega)))
    have m : ((wMany w g).toNat : Int) * 999999 ≤ 3 * 999999 := by
      rw [show ((wMany w g).toNat : Int) = wMany w g by omega]; omega
    omega
theorem three_cut {w : Rw} (hw : WF w) {g : Int} (g0 : 0 ≤ g) (g1 : g < w 2) (F : Int → Int) : sumN (fun i => if partB w (3 * g + i) = true then F (3 * g + i) else 0) 3 = sumN (fun i => F (3 * g + i)) (wMany w g).toNat := by
  have hgw := hw.2.2.2.2.1 g g0 g1
  rw [sumN_cut (m := (wMany w g).toNat) (by omega) (fun i i0 i1 => if_neg ?_)]
  · exact sumN_congr (fun i i0 i1 => if_pos (part_B hw g0 g1 i0 (by omega)))
  · rw [part_Bn (by omega) (by omega), decide_eq_false (show ¬ i < wMany w g by omega), Bool.false_and]; decide
theorem c4_unclaimedOfGift {V : Sz} {w : Rw} (h : LR V w) {n : Nat} (hn : 100 ≤ n) {g : Int} (g0 : 0 ≤ g) (g1 : g < w 2) : f_X4_unclaimedOfGift n V g = some (openG w g) := by
  have hw := h.2.2.1
  have a2 := hw.2.1.2.2.1
  refine tt_eq ?_
  unfold f_X4_unclaimedOfGift
  refine tt_sumUp (fun i => if partB w (3 * g + i) = true then underS w (3 * g + i) else 0) 3 (by decide) (by show (3 : Int).toNat < n; omega) (fun sm i rec i0 i1 es next => ?_)
  rw [bX4_unclaimedOfGift_4_e]
  refine tt_ck ⟨by omega, by omega⟩ (tt_ite (fun c => tt_some ?_) (fun c => ?_))
  · rw [es, show i = 3 by omega]
    exact three_cut hw g0 g1 (underS w)
  · rw [show g * 3 + i = 3 * g + i by omega, c4_unclaimed h (by omega) (by omega), bd_s]
    exact tt_nm (tt_nm (next (by omega)))
theorem ag_expiring {V7 X V8 : Sz} (h : LR (sv 4 V7) (V8 0)) {n : Nat} (hn : 1000 ≤ n) {a b : Int} (ha : rng a) (hb : rng b) : TT (f_X8_expiring n V8 a b) (Asks cdI (f_X7_expiring n V7 X a b) V8) := by
  have hw := h.2.2.1
  have a2 := hw.2.1.2.2.1
  have a6 := hw.2.1.2.2.2.2.2.1
  have e9 : sv 4 V7 9 0 = V8 0 2 := h.1.1.2.2.2.2.2.1
  have e1w : sv 4 V7 1 0 = V8 0 6 := h.1.1.2.1
  obtain ⟨G, hG⟩ : ∃ G : Int → Int, G = fun p => if a ≤ wDay (V8 0) (p / 3) + V8 0 6 ∧ wDay (V8 0) (p / 3) + V8 0 6 ≤ b then underS (V8 0) p else 0 := ⟨_, rfl⟩
  have hGe : ∀ p : Int, G p = if a ≤ wDay (V8 0) (p / 3) + V8 0 6 ∧ wDay (V8 0) (p / 3) + V8 0 6 ≤ b then underS (V8 0) p else 0 := fun p => by rw [hG]
  unfold f_X8_expiring
  refine tt_nmE (fun V1 e1 => ?_)
  have hT : Thr V8 V1 0 := by rw [e1]; exact Thr.zero V8 0
  have refuse : ¬ (0 ≤ a ∧ a ≤ b ∧ b ≤ 9999) → TT (jX8_expiring_28 n a b V1) (Asks cdI (f_X7_expiring n V7 X a b) V8) := by
    intro c
    unfold jX8_expiring_28 jX8_expiring_33
    refine f1_t (tt_f (by decide) (tt_some (asks_no (e := 1) ?_ (hT.trans (Thr.zero V1 1)) rfl (by decide))))
    unfold f_X7_expiring
    rw [x7_spanN ha hb c]; rfl
  refine rg_f ha ⟨by decide, by decide⟩ ⟨by decide, by decide⟩ (fun c => rg_t hb ha ⟨by decide, by decide⟩ (fun c2 => ?_) (fun c2 => refuse (by omega))) (fun c => refuse (by omega))
  have e7 : f_X7_expiring n V7 X a b = some (.inl (sumPS (V8 0) G)) := by
    have e4 : f_X4_openUntil n (sv 4 V7) a b = some (sumPS (V8 0) G) := by
      refine tt_eq ?_
      unfold f_X4_openUntil
      refine tt_sumUp (fun g => sumN (fun i => G (3 * g + i)) (wMany (V8 0) g).toNat) (V8 0 2) a2.1 (by omega) (fun sm g rec g0 g1 es next => ?_)
      rw [bX4_openUntil_5_e, e9]
      refine tt_ck ⟨⟨by omega, by omega⟩, ⟨by omega, by omega⟩⟩ (tt_ite (fun c => tt_some ?_) (fun c3 => ?_))
      · rw [es, show g = V8 0 2 by omega, sumPS_gifts hw]
      · have hgw := hw.2.2.2.2.1 g g0 (by omega)
        have e10 : sv 4 V7 10 g.toNat = wDay (V8 0) g := (h.1.2.2.2.1 g g0 (by omega)).1
        have next := next (by omega)
        unfold jX4_openUntil_55
        rw [e10, e1w, c4_unclaimedOfGift h (by omega) g0 (by omega), bd_s]
        have hz : ¬ (a ≤ wDay (V8 0) g + V8 0 6 ∧ wDay (V8 0) g + V8 0 6 ≤ b) → sumN (fun i => G (3 * g + i)) (wMany (V8 0) g).toNat = 0 := fun q => sumN_zero (fun i i0 i1 => by rw [hGe, show (3 * g + i) / 3 = g by omega, if_neg q])
        refine tt_ck ⟨g0, by omega⟩ (tt_nm (tt_ck ⟨ha, ⟨by omega, by omega⟩⟩ (tt_ite (fun c4 => tt_nm ?_) (fun c4 => tt_ck hb (tt_ite (fun c5 => tt_nm ?_) (fun c5 => tt_nm (tt_nm ?_)))))))
        · rw [hz (by omega), Int.add_zero] at next; exact next
        · rw [hz (by omega), Int.add_zero] at next; exact next
        · have : sumN (fun i => G (3 * g + i)) (wMany (V8 0) g).toNat = openG (V8 0) g := by
            unfold openG
            refine sumN_congr (fun i i0 i1 => ?_)
            rw [hGe, show (3 * g + i) / 3 = g by omega, if_pos ⟨by omega, by omega⟩]
          rw [this] at next; exact next
    unfold f_X7_expiring
    rw [x7_spanY ha hb ⟨c.1, c2.1, c2.2⟩, bx_l, e4]; rfl
  rw [e7]
  unfold jX8_expiring_33
  refine f0_t (tt_t rfl (tt_bd (aid_of hw hT hn) (fun V6 ⟨hA, e0, hp⟩ => ?_)))
  refine tt_sum180 (fun p => if partB (V8 0) p = true then G p else 0) hn (fun sm p rec p0 p1 es next => ?_)
  rw [bX8_expiring_51_e]
  refine tt_ck ⟨by omega, by omega⟩ (tt_ite (fun c => tt_some (asks_aid ?_ hT hA)) (fun c3 => ?_))
  · rw [es, show p = 180 by omega]; rfl
  · have next := next (by omega)
    rw [x8_isPart (by rw [e0]; exact hw.1) p0 (by omega), bd_s, e0]
    unfold jX8_expiring_100 jX8_expiring_101
    refine tt_ite (fun c4 => ?_) (fun c4 => ?_)
    · rw [if_neg (by rw [c4]; decide)] at next
      exact tt_nm (tt_nm next)
    · have hb2 := eq_true_of_ne_false c4
      have hs := part_split p0 hb2
      have hgw := hw.2.2.2.2.1 _ hs.1 hs.2.1
      rw [if_pos hb2, hGe p] at next
      rw [x8_dayOf p0 (by omega), bd_s, e0]
      refine rg_f ⟨by omega, by omega⟩ ha hb (fun c5 => ?_) (fun c5 => ?_)
      · rw [x8_under hw e0 p0 hb2 (hp p p0 hb2).2, bd_s]
        rw [if_pos c5] at next
        exact tt_nm (tt_nm next)
      · rw [if_neg c5] at next
        exact tt_nm (tt_nm next)
/-! the most urgent gift -/
/-- how urgent a gift is, of whose parts those before the slot q are looked at -/
def urgS (w : Rw) (q g : Int) : Int := if 0 < sumN (fun i => if 3 * g + i < q ∧ partB w (3 * g + i) = true then underS w (3 * g + i) else 0) 3 then 10000 - min 9999 (wDay w g + w 6) else 0
theorem urgS_full {w : Rw} (hw : WF w) {q g : Int} (g0 : 0 ≤ g) (g1 : g < w 2) (hq : 3 * g + 3 ≤ q) : urgS w q g = if 0 < openG w g then 10000 - min 9999 (wDay w g + w 6) else 0 := by
  unfold urgS openG
  rw [← three_cut hw g0 g1 (underS w)]
  have : sumN (fun i => if 3 * g + i < q ∧ partB w (3 * g + i) = true then underS w (3 * g + i) else 0) 3 = sumN (fun i => if partB w (3 * g + i) = true then underS w (3 * g + i) else 0) 3 := sumN_congr (fun i i0 i1 => by
    by_cases c : partB w (3 * g + i) = true
    · rw [if_pos ⟨by omega, c⟩, if_pos c]
    · rw [if_neg (fun x => c x.2), if_neg c])
  rw [this]
theorem urgS_none {w : Rw} {q g : Int} (hq : q ≤ 3 * g) : urgS w q g = 0 := by
  unfold urgS
  rw [sumN_zero (fun i i0 i1 => if_neg (fun x => by omega))]
  exact if_neg (by decide)
theorem urgS_other {w : Rw} {p g : Int} (hg : p / 3 ≠ g) : urgS w (p + 1) g = urgS w p g := by
  unfold urgS
  have : sumN (fun i => if 3 * g + i < p + 1 ∧ partB w (3 * g + i) = true then underS w (3 * g + i) else 0) 3 = sumN (fun i => if 3 * g + i < p ∧ partB w (3 * g + i) = true then underS w (3 * g + i) else 0) 3 := sumN_congr (fun i i0 i1 => by
    by_cases c : 3 * g + i < p ∧ partB w (3 * g + i) = true
    · rw [if_pos c, if_pos ⟨by omega, c.2⟩]
    · rw [if_neg c, if_neg (fun x => c ⟨by omega, x.2⟩)])
  rw [this]
theorem urgS_step {w : Rw} {p : Int} (p0 : 0 ≤ p) : sumN (fun i => if 3 * (p / 3) + i < p + 1 ∧ partB w (3 * (p / 3) + i) = true then underS w (3 * (p / 3) + i) else 0) 3 = sumN (fun i => if 3 * (p / 3) + i < p ∧ partB w (3 * (p / 3) + i) = true then underS w (3 * (p / 3) + i) else 0) 3 + (if partB w p = true then underS w p else 0) := by
  have e := sumN_sub (fun i => if 3 * (p / 3) + i < p + 1 ∧ partB w (3 * (p / 3) + i) = true then underS w (3 * (p / 3) + i) else 0) (fun i => if 3 * (p / 3) + i < p ∧ partB w (3 * (p / 3) + i) = true then underS w (3 * (p / 3) + i) else 0) 3
  have e2 := sumN_one (f := fun i => (if 3 * (p / 3) + i < p + 1 ∧ partB w (3 * (p / 3) + i) = true then underS w (3 * (p / 3) + i) else 0) - (if 3 * (p / 3) + i < p ∧ partB w (3 * (p / 3) + i) = true then underS w (3 * (p / 3) + i) else 0)) (i := p % 3) (n := 3) (by omega) (by omega) (fun j j0 j1 hne => by
    by_cases c : 3 * (p / 3) + j < p ∧ partB w (3 * (p / 3) + j) = true
    · rw [if_pos c, if_pos ⟨by omega, c.2⟩]; omega
    · rw [if_neg c, if_neg (fun x => c ⟨by omega, x.2⟩)]; omega)
  rw [e] at e2
  have e3 : (if 3 * (p / 3) + p % 3 < p + 1 ∧ partB w (3 * (p / 3) + p % 3) = true then underS w (3 * (p / 3) + p % 3) else 0) - (if 3 * (p / 3) + p % 3 < p ∧ partB w (3 * (p / 3) + p % 3) = true then underS w (3 * (p / 3) + p % 3) else 0) = (if partB w p = true then underS w p else 0) := by
    rw [show 3 * (p / 3) + p % 3 = p by omega, if_neg (fun x : p < p ∧ partB w p = true => by omega)]
    by_cases c : partB w p = true
    · rw [if_pos ⟨by omega, c⟩, if_pos c]; omega
    · rw [if_neg (fun x => c x.2), if_neg c]; omega
  have e2 := e2.trans e3
  omega
theorem ag_mostUrgent {V7 X V8 : Sz} (h : LR (sv 4 V7) (V8 0)) {n : Nat} (hn : 1000 ≤ n) : TT (f_X8_mostUrgent n V8) (AskO (f_X7_mostUrgent n V7 X) V8) := by
  have hw := h.2.2.1
  have a2 := hw.2.1.2.2.1
  have a6 := hw.2.1.2.2.2.2.2.1
  have e9 : sv 4 V7 9 0 = V8 0 2 := h.1.1.2.2.2.2.2.1
  have e1w : sv 4 V7 1 0 = V8 0 6 := h.1.1.2.1
  obtain ⟨S, hS⟩ : ∃ S : Int → Int, S = fun g => if 0 < openG (V8 0) g then 10000 - min 9999 (wDay (V8 0) g + V8 0 6) else 0 := ⟨_, rfl⟩
  have hSe : ∀ g, S g = if 0 < openG (V8 0) g then 10000 - min 9999 (wDay (V8 0) g + V8 0 6) else 0 := fun g => by rw [hS]
  obtain ⟨b, eb, hb⟩ : ∃ b, f_X7_mostUrgent n V7 X = some b ∧ ArgP S (V8 0 2) b := by
    have hx : TT (f_X4_urgentGift n (sv 4 V7)) (fun b => ArgP S (V8 0 2) b) := by
      unfold f_X4_urgentGift
      refine tt_lp (I := fun z : Int × Int × Int => (0 ≤ z.2.2 ∧ z.2.2 ≤ V8 0 2) ∧ ArgM S z.2.2 z.1 (10000 - z.2.1)) (μ := fun z => (V8 0 2 - z.2.2).toNat) ?_ n (-1, 10000, 0) ⟨⟨Int.le_refl _, a2.1⟩, ArgM.nil S⟩ (by show (V8 0 2 - (0 : Int)).toNat < n; omega)
      rintro ⟨b, m, g⟩ rec ⟨⟨g0, g1⟩, hm⟩ ih
      simp only at g0 g1 hm
      have hl := hm.le
      rw [bX4_urgentGift_8_e, e9]
      refine tt_ck ⟨⟨by omega, by omega⟩, ⟨by omega, by omega⟩⟩ (tt_ite (fun c2 => tt_some (argM_fin hm (by omega))) (fun c2 => ?_))
      have hgw := hw.2.2.2.2.1 g g0 (by omega)
      have e10 : sv 4 V7 10 g.toNat = wDay (V8 0) g := (h.1.2.2.2.1 g g0 (by omega)).1
      have hog := openG_bd hw g0 (show g < V8 0 2 by omega)
      have hSg := hSe g
      have hmb : 0 ≤ m := by
        by_cases e : b = -1
        · have := hl.2.2.2.2.1 e; omega
        · have h2 := (hl.2.2.2.2.2 e).2
          have h3 := hSe b
          have hbw : 0 ≤ b ∧ b < V8 0 2 := by omega
          have := hw.2.2.2.2.1 b hbw.1 hbw.2
          split at h3 <;> omega
      have skip : S g ≤ 10000 - m → TT (jX4_urgentGift_60 n (sv 4 V7) rec b m g) (fun b => ArgP S (V8 0 2) b) := by
        intro q
        unfold jX4_urgentGift_60
        exact tt_nm (ih (b, m, g + 1) ⟨⟨by show 0 ≤ g + 1; omega, by show g + 1 ≤ V8 0 2; omega⟩, hm.skip q⟩ (by show (V8 0 2 - (g + 1)).toNat < (V8 0 2 - g).toNat; omega))
      rw [e10, e1w, c4_unclaimedOfGift h (by omega) g0 (by omega)]
      refine tt_ck ⟨g0, by omega⟩ (tt_ck ⟨by omega, by omega⟩ (tt_nmE (fun x ex => tt_ck ⟨⟨by omega, by omega⟩, ⟨by omega, by omega⟩⟩ (tt_ite (fun c3 => skip ?_) (fun c3 => ?_)))))
      · split at hSg <;> omega
      rw [bd_s]
      refine tt_ck ⟨by omega, by omega⟩ (tt_ite (fun c4 => skip ?_) (fun c4 => ?_))
      · rw [if_neg (by omega)] at hSg; omega
      · rw [if_pos (by omega)] at hSg
        unfold jX4_urgentGift_60
        refine tt_nm (ih (g, x, g + 1) ⟨⟨by show 0 ≤ g + 1; omega, by show g + 1 ≤ V8 0 2; omega⟩, ?_⟩ (by show (V8 0 2 - (g + 1)).toNat < (V8 0 2 - g).toNat; omega))
        show ArgM S (g + 1) g (10000 - x)
        rw [show 10000 - x = S g by omega]
        exact hm.take g0 (by omega)
    obtain ⟨b, eb, hb⟩ := hx
    refine ⟨b, ?_, hb⟩
    unfold f_X7_mostUrgent
    rw [eb]; rfl
  rw [eb]
  unfold f_X8_mostUrgent
  refine tt_nmE (fun V1 e1 => ?_)
  have hT : Thr V8 V1 0 := by rw [e1]; exact Thr.zero V8 0
  refine tt_bd (aid_of hw hT hn) (fun V6 ⟨hA, e0, hp⟩ => ?_)
  refine tt_lp (I := fun z : Int × Int × Int × Sz => (0 ≤ z.2.2.1 ∧ z.2.2.1 ≤ 180) ∧ z.2.2.2 = V6 ∧ ∃ M, ArgM (urgS (V8 0) z.2.2.1) 60 z.1 M ∧ (z.1 ≠ -1 → z.2.1 = 10000 - M)) (μ := fun z => (180 - z.2.2.1).toNat) ?_ n (-1, 0, 0, V6) ⟨⟨Int.le_refl _, by show (0 : Int) ≤ 180; decide⟩, rfl, 0, ⟨Or.inl ⟨rfl, fun j j0 j1 => ?_⟩, rfl⟩, fun q => absurd rfl q⟩ (by show (180 - (0 : Int)).toNat < n; omega)
  · rintro ⟨b1, er, p, V⟩ rec ⟨⟨p0, p1⟩, eV, M, hm, hmE⟩ ih
    simp only at p0 p1 eV hm hmE
    subst eV
    have hl := hm.le
    rw [bX8_mostUrgent_15_e]
    refine tt_ck ⟨by omega, by omega⟩ (tt_ite (fun c => tt_some (asko_aid ?_ hT hA)) (fun c => ?_))
    · have hfin : ArgP S (V8 0 2) b1 := by
        have hp := hm.1
        have hcong : ∀ j : Int, 0 ≤ j → j < V8 0 2 → S j = urgS (V8 0) p j := fun j j0 j1 => by rw [hSe, urgS_full hw j0 j1 (by omega)]
        have hout : ∀ j : Int, V8 0 2 ≤ j → j < 60 → urgS (V8 0) p j = 0 := fun j j0 j1 => by
          unfold urgS
          rw [sumN_zero (fun i i0 i1 => if_neg (fun x => ?_))]
          · exact if_neg (by decide)
          · have x2 := x.2
            rw [part_Bn (by omega) (by omega), decide_eq_false (show ¬ j < V8 0 2 by omega), Bool.and_false] at x2
            exact Bool.noConfusion x2
        rcases hp with ⟨e, k⟩ | ⟨⟨q0, q1⟩, q, k⟩
        · exact Or.inl ⟨e, fun j j0 j1 => by rw [hcong j j0 j1]; exact k j j0 (by omega)⟩
        · have hbn : b1 < V8 0 2 := by
            by_cases e : b1 < V8 0 2
            · exact e
            · rw [hout b1 (by omega) q1] at q; omega
          refine Or.inr ⟨⟨q0, hbn⟩, by rw [hcong b1 q0 hbn]; exact q, fun j j0 j1 => ?_⟩
          rw [hcong j j0 j1, hcong b1 q0 hbn]
          exact k j j0 (by omega)
      rw [ArgP.uniq hb hfin]
    have hp3 : 0 ≤ p / 3 ∧ p / 3 < 60 := by omega
    have hgrow := hm.grow (S1 := urgS (V8 0) (p + 1)) (y := p / 3) hp3.1 hp3.2 (fun j j0 j1 => by rw [urgS_none (by omega)]; exact Int.le_refl _) (fun j j0 j1 jn => urgS_other (fun q => jn q.symm))
    have hstep := urgS_step (w := V8 0) p0
    have hnn : 0 ≤ sumN (fun i => if 3 * (p / 3) + i < p ∧ partB (V8 0) (3 * (p / 3) + i) = true then underS (V8 0) (3 * (p / 3) + i) else 0) 3 := sumN_nonneg (fun i _ _ => by
      show (0 : Int) ≤ if _ then _ else _
      split
      · exact underS_nn _ _
      · exact Int.le_refl _)
    -- nothing new
    have same : (if partB (V8 0) p = true then underS (V8 0) p else 0) = 0 → TT (jX8_mostUrgent_84 n rec b1 er p V) (AskO (some b) V8) := by
      intro q
      have e5 : urgS (V8 0) (p + 1) (p / 3) = urgS (V8 0) p (p / 3) := by
        unfold urgS
        rw [hstep, q, Int.add_zero]
      have := (hgrow (by rw [e5]; exact Int.le_refl _)).2 (by rw [e5]; exact hl.2.1 _ hp3.1 hp3.2)
      unfold jX8_mostUrgent_84
      exact tt_nm (ih (b1, er, p + 1, V) ⟨⟨by show 0 ≤ p + 1; omega, by show p + 1 ≤ 180; omega⟩, rfl, M, this, hmE⟩ (by show (180 - (p + 1)).toNat < (180 - p).toNat; omega))
    rw [x8_isPart (by rw [e0]; exact hw.1) p0 (by omega), bd_s, e0]
    refine tt_ite (fun c2 => same (if_neg (by rw [c2]; decide))) (fun c2 => ?_)
    have hb2 := eq_true_of_ne_false c2
    have hs := part_split p0 hb2
    have hgw := hw.2.2.2.2.1 _ hs.1 hs.2.1
    have hub := underS_bd hw p0 hb2
    have hun := underS_nn (V8 0) p
    rw [x8_under hw e0 p0 hb2 (hp p p0 hb2).2, bd_s]
    refine tt_ck ⟨by omega, by omega⟩ (tt_ite (fun c3 => same (by rw [if_pos hb2]; exact c3)) (fun c3 => ?_))
    rw [if_pos hb2] at hstep
    have enew : urgS (V8 0) (p + 1) (p / 3) = 10000 - min 9999 (wDay (V8 0) (p / 3) + V8 0 6) := by
      unfold urgS
      rw [hstep, if_pos (by omega)]
    have hge : urgS (V8 0) p (p / 3) ≤ urgS (V8 0) (p + 1) (p / 3) := by
      rw [enew]
      unfold urgS
      split <;> omega
    have hg2 := hgrow hge
    rw [enew] at hg2
    rw [x8_dayOf p0 (by omega), bd_s, e0]
    have hb1 : rng b1 := by constructor <;> omega
    refine tt_ck ⟨by omega, by omega⟩ (tt_nmE (fun x ex => tt_ck hb1 ?_))
    have take : M < 10000 - x → TT (jX8_mostUrgent_76 n rec p x V) (AskO (some b) V8) := by
      intro q
      unfold jX8_mostUrgent_76 jX8_mostUrgent_84
      rw [x8_giftOf p0 (by omega), bd_s]
      exact tt_nm (ih (p / 3, x, p + 1, V) ⟨⟨by show 0 ≤ p + 1; omega, by show p + 1 ≤ 180; omega⟩, rfl, _, hg2.1 (by omega), fun _ => by show x = 10000 - (10000 - min 9999 (wDay (V8 0) (p / 3) + V8 0 6)); omega⟩ (by show (180 - (p + 1)).toNat < (180 - p).toNat; omega))
    refine tt_ite (fun c4 => take ?_) (fun c4 => ?_)
    · have := hl.2.2.2.2.1 c4
      omega
    · have hM := hl.2.2.2.2.2 c4
      have hEr := hmE c4
      have hMb : M ≤ 10000 := by
        rw [← hM.2]
        unfold urgS
        split
        · have hbb : 0 ≤ b1 ∧ b1 < 60 := by omega
          by_cases e : b1 < V8 0 2
          · have := hw.2.2.2.2.1 b1 hbb.1 e; omega
          · rename_i q
            rw [sumN_zero (fun i i0 i1 => if_neg (fun x => ?_))] at q
            · omega
            · have x2 := x.2
              rw [part_Bn (by omega) (by omega), decide_eq_false e, Bool.and_false] at x2
              exact Bool.noConfusion x2
        · decide
      refine tt_ck ⟨⟨by omega, by omega⟩, ⟨by omega, by omega⟩⟩ (tt_ite (fun c5 => take (by omega)) (fun c5 => ?_))
      have hsk := hg2.2 (by omega)
      unfold jX8_mostUrgent_84
      exact tt_nm (ih (b1, er, p + 1, V) ⟨⟨by show 0 ≤ p + 1; omega, by show p + 1 ≤ 180; omega⟩, rfl, M, hsk, hmE⟩ (by show (180 - (p + 1)).toNat < (180 - p).toNat; omega))
  · show urgS (V8 0) 0 j ≤ 0
    rw [urgS_none (by omega)]; exact Int.le_refl _
