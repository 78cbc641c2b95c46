/-! numbers of the register -/
def bareN (w : Rw) : Int := sumN (fun g => if wMany w g = 0 then 1 else 0) (w 2).toNat
def spoN (w : Rw) : Int := sumN (fun g => if spoB w g = true then 1 else 0) (w 2).toNat
theorem c3_countWithoutParts {V : Sz} {w : Rw} (h : LR0 V w) (hw : WF w) {n : Nat} (hn : 100 ≤ n) : f_X3_countWithoutParts n (sv 9 V) = some (bareN w) := by
  have a2 := hw.2.1.2.2.1
  have e9 : sv 9 V 0 0 = w 2 := h.1.2.2.2.2.2.1
  refine tt_eq ?_
  unfold f_X3_countWithoutParts
  refine tt_lp (I := fun s : Int × Int => (0 ≤ s.2 ∧ s.2 ≤ w 2) ∧ s.1 = sumN (fun g => if wMany w g = 0 then 1 else 0) s.2.toNat) (μ := fun s => (w 2 - s.2).toNat) ?_ n (0, 0) ⟨⟨Int.le_refl _, a2.1⟩, rfl⟩ (by show (w 2 - (0 : Int)).toNat < n; omega)
  rintro ⟨sm, g⟩ rec ⟨⟨g0, g1⟩, es⟩ ih
  simp only at g0 g1 es
  rw [bX3_countWithoutParts_4_e, e9]
  have next : ∀ v : Int, v = sm + (if wMany w g = 0 then 1 else 0) → g < w 2 → TT (jX3_countWithoutParts_24 n (sv 9 V) rec v g) (fun r => r = bareN w) := by
    intro v ev hg
    unfold jX3_countWithoutParts_24
    refine tt_nm (ih (v, g + 1) ⟨⟨by show 0 ≤ g + 1; omega, by show g + 1 ≤ w 2; omega⟩, ?_⟩ (by show (w 2 - (g + 1)).toNat < (w 2 - g).toNat; omega))
    show v = sumN (fun g => if wMany w g = 0 then 1 else 0) (g + 1).toNat
    rw [sumN_step _ g0, ← es, ev]
  refine tt_ck ⟨⟨by omega, by omega⟩, ⟨by omega, by omega⟩⟩ (tt_ite (fun c => tt_some ?_) (fun c => ?_))
  · rw [es, show g = w 2 by omega]; rfl
  · have hgw := hw.2.2.2.2.1 g g0 (by omega)
    have e14 : sv 9 V 5 g.toNat = wMany w g := (h.2.2.2.1 g g0 (by omega)).2.2.2.2
    rw [e14]
    refine tt_ck ⟨by omega, by omega⟩ (tt_ck ⟨by omega, by omega⟩ (tt_ite (fun c2 => tt_nm (next _ (by rw [if_pos c2]) (by omega))) (fun c2 => next _ (by rw [if_neg c2]; omega) (by omega))))
theorem c4_countSpoilt {V : Sz} {w : Rw} (h : LR0 V w) (hw : WF w) {n : Nat} (hn : 100 ≤ n) : f_X4_countSpoilt n V = some (spoN w) := by
  have a2 := hw.2.1.2.2.1
  have e9 : V 9 0 = w 2 := h.1.2.2.2.2.2.1
  refine tt_eq ?_
  unfold f_X4_countSpoilt
  refine tt_lp (I := fun s : Int × Int => (0 ≤ s.2 ∧ s.2 ≤ w 2) ∧ s.1 = sumN (fun g => if spoB w g = true then 1 else 0) s.2.toNat) (μ := fun s => (w 2 - s.2).toNat) ?_ n (0, 0) ⟨⟨Int.le_refl _, a2.1⟩, rfl⟩ (by show (w 2 - (0 : Int)).toNat < n; omega)
  rintro ⟨sm, g⟩ rec ⟨⟨g0, g1⟩, es⟩ ih
  simp only at g0 g1 es
  rw [bX4_countSpoilt_4_e, e9]
  have next : ∀ v : Int, v = sm + (if spoB w g = true then 1 else 0) → g < w 2 → TT (jX4_countSpoilt_26 n V rec v g) (fun r => r = spoN w) := by
    intro v ev hg
    unfold jX4_countSpoilt_26
    refine tt_nm (ih (v, g + 1) ⟨⟨by show 0 ≤ g + 1; omega, by show g + 1 ≤ w 2; omega⟩, ?_⟩ (by show (w 2 - (g + 1)).toNat < (w 2 - g).toNat; omega))
    show v = sumN (fun g => if spoB w g = true then 1 else 0) (g + 1).toNat
    rw [sumN_step _ g0, ← es, ev]
  refine tt_ck ⟨⟨by omega, by omega⟩, ⟨by omega, by omega⟩⟩ (tt_ite (fun c => tt_some ?_) (fun c => ?_))
  · rw [es, show g = w 2 by omega]; rfl
  · rw [c4_isSpoilt h hw g0 (by omega), bd_s]
    refine tt_ite (fun c2 => next _ (by rw [if_neg (by rw [c2]; decide)]; omega) (by omega)) (fun c2 => tt_nm (next _ (by rw [if_pos (eq_true_of_ne_false c2)]) (by omega)))
theorem x8_giftsWith {V : Sz} (hw : WF (V 0)) {n : Nat} (hn : 100 ≤ n) {f : Int} (hf : f = 0 ∨ f = 1) : f_X8_giftsWith n V f = some (if f = 0 then bareN (V 0) else spoN (V 0)) := by
  have a2 := hw.2.1.2.2.1
  obtain ⟨F, hF⟩ : ∃ F : Int → Int, F = fun g => if (if f = 0 then decide (wMany (V 0) g = 0) else spoB (V 0) g) = true then 1 else 0 := ⟨_, rfl⟩
  have hFe : ∀ g : Int, F g = if (if f = 0 then decide (wMany (V 0) g = 0) else spoB (V 0) g) = true then 1 else 0 := fun g => by rw [hF]
  refine tt_eq ?_
  unfold f_X8_giftsWith
  refine tt_lp (I := fun s : Int × Int => (0 ≤ s.2 ∧ s.2 ≤ V 0 2) ∧ s.1 = sumN F s.2.toNat) (μ := fun s => (V 0 2 - s.2).toNat) ?_ n (0, 0) ⟨⟨Int.le_refl _, a2.1⟩, rfl⟩ (by show (V 0 2 - (0 : Int)).toNat < n; omega)
  rintro ⟨sm, g⟩ rec ⟨⟨g0, g1⟩, es⟩ ih
  simp only at g0 g1 es
  rw [bX8_giftsWith_4_e]
  have next : ∀ v : Int, v = F g → g < V 0 2 → TT (jX8_giftsWith_48 n V f rec g v sm) (fun r => r = if f = 0 then bareN (V 0) else spoN (V 0)) := by
    intro v ev hg
    unfold jX8_giftsWith_48
    refine tt_nm (tt_nm (ih (sm + v, g + 1) ⟨⟨by show 0 ≤ g + 1; omega, by show g + 1 ≤ V 0 2; omega⟩, ?_⟩ (by show (V 0 2 - (g + 1)).toNat < (V 0 2 - g).toNat; omega)))
    show sm + v = sumN F (g + 1).toNat
    rw [sumN_step _ g0, ← es, ev]
  refine tt_ck ⟨⟨by omega, by omega⟩, ⟨by omega, by omega⟩⟩ (tt_ite (fun c => tt_some ?_) (fun c => ?_))
  · rw [es, show g = V 0 2 by omega, hF]
    by_cases c2 : f = 0
    · rw [if_pos c2]
      unfold bareN
      refine sumN_congr (fun i _ _ => ?_)
      rw [if_pos c2]
      by_cases c3 : wMany (V 0) i = 0
      · rw [if_pos c3, if_pos (decide_eq_true c3)]
      · rw [if_neg c3, if_neg (by rw [decide_eq_false c3]; decide)]
    · rw [if_neg c2]
      unfold spoN
      refine sumN_congr (fun i _ _ => ?_)
      rw [if_neg c2]
  · have hgw := hw.2.2.2.2.1 g g0 (by omega)
    have em : V 0 (293 + g).toNat = wMany (V 0) g := rfl
    rw [em]
    refine tt_ck ⟨by omega, by omega⟩ (tt_ite (fun c2 => tt_ck ⟨by omega, by omega⟩ (tt_ck ⟨by omega, by omega⟩ (tt_ite (fun c3 => ?_) (fun c3 => ?_)))) (fun c2 => ?_))
    · unfold jX8_giftsWith_43
      exact next 1 (by rw [hFe, if_pos c2, if_pos (decide_eq_true c3)]) (by omega)
    · unfold jX8_giftsWith_47
      exact next 0 (by rw [hFe, if_pos c2, if_neg (by rw [decide_eq_false c3]; decide)]) (by omega)
    · rw [x8_isSpoilt hw g0 (by omega), bd_s]
      refine tt_ite (fun c3 => ?_) (fun c3 => ?_)
      · unfold jX8_giftsWith_47
        exact next 0 (by rw [hFe, if_neg c2, if_neg (by rw [c3]; decide)]) (by omega)
      · unfold jX8_giftsWith_43
        exact next 1 (by rw [hFe, if_neg c2, if_pos (eq_true_of_ne_false c3)]) (by omega)
theorem ag_count {V X V8 : Sz} (h : LR (sv 4 V) (V8 0)) (hpast : V 87 0 = V8 5 0) {n : Nat} (hn : 1000 ≤ n) {q : Int} (hq : rng q) : TT (f_X8_count n V8 q) (Asks cdI (f_X7_count n V X q) V8) := by
  have hw := h.2.2.1
  obtain ⟨b5, b6, b7, b0, b1, b2, b4⟩ := h.at
  unfold f_X8_count
  refine tt_nmE (fun V1 e1 => ?_)
  have hT : Thr V8 V1 0 := by rw [e1]; exact Thr.zero V8 0
  have e0 : V1 0 = V8 0 := hT.2 0 (by decide)
  refine rg_t hq ⟨by decide, by decide⟩ ⟨by decide, by decide⟩ (fun c => ?_) (fun c => ?_)
  · unfold jX8_count_21
    refine f0_t (tt_t rfl (tt_ck hq (tt_ite (fun c3 => ?_) (fun c3 => tt_ite (fun c8 => ?_) (fun c8 => tt_ite (fun c9 => ?_) (fun c9 => ?_))))))
    · rw [x8_giftsWith (V := V1) (by rw [e0]; exact hw) (by omega) (Or.inl rfl), bd_s, if_pos rfl]
      refine tt_some (asks_yes ?_ hT)
      unfold f_X7_count
      rw [ck_t hq, if_neg (by omega), if_neg (by omega), if_neg (by omega), if_pos c3, show f_X3_countWithoutParts n (sv 13 V) = _ from c3_countWithoutParts (V := sv 4 V) h.1 hw (by omega), e0]; rfl
    · rw [x8_giftsWith (V := V1) (by rw [e0]; exact hw) (by omega) (Or.inr rfl), bd_s, if_neg (by decide)]
      refine tt_some (asks_yes ?_ hT)
      unfold f_X7_count
      rw [ck_t hq, if_neg (by omega), if_neg (by omega), if_neg (by omega), if_neg c3, if_neg (by omega), if_neg (by omega), if_neg (by omega), if_neg (by omega), if_pos c8, c4_countSpoilt h.1 hw (by omega), e0]; rfl
    · refine tt_some (asks_yes ?_ hT)
      unfold f_X7_count
      rw [ck_t hq, if_neg (by omega), if_neg (by omega), if_neg (by omega), if_neg c3, if_neg (by omega), if_neg (by omega), if_neg (by omega), if_neg (by omega), if_neg c8, if_pos c9, hpast, hT.2 5 (by decide)]; rfl
    · refine tt_ck ⟨by omega, by omega⟩ (tt_some (asks_yes ?_ hT))
      rw [e0]
      unfold f_X7_count
      rw [ck_t hq]
      have hc : q = 0 ∨ q = 1 ∨ q = 2 ∨ q = 4 ∨ q = 5 ∨ q = 6 ∨ q = 7 := by omega
      rcases hc with e | e | e | e | e | e | e <;> subst e
      · rw [if_pos rfl, b0]; rfl
      · rw [if_neg (by decide), if_pos rfl, b1]; rfl
      · rw [if_neg (by decide), if_neg (by decide), if_pos rfl, b2]; rfl
      · rw [if_neg (by decide), if_neg (by decide), if_neg (by decide), if_neg (by decide), if_pos rfl, b4]; rfl
      · rw [if_neg (by decide), if_neg (by decide), if_neg (by decide), if_neg (by decide), if_neg (by decide), if_pos rfl, b5]; rfl
      · rw [if_neg (by decide), if_neg (by decide), if_neg (by decide), if_neg (by decide), if_neg (by decide), if_neg (by decide), if_pos rfl, b6]; rfl
      · rw [if_neg (by decide), if_neg (by decide), if_neg (by decide), if_neg (by decide), if_neg (by decide), if_neg (by decide), if_neg (by decide), if_pos rfl, b7]; rfl
  · unfold jX8_count_21
    refine f1_t (tt_f (by decide) (tt_some (asks_no (e := 1) ?_ (hT.trans (Thr.zero V1 1)) rfl (by decide))))
    unfold f_X7_count
    rw [ck_t hq, if_neg (by omega), if_neg (by omega), if_neg (by omega), if_neg (by omega), if_neg (by omega), if_neg (by omega), if_neg (by omega), if_neg (by omega), if_neg (by omega), if_neg (by omega)]
/-! a gift, a part -/
theorem x8_leftOfGift {V : Sz} {g : Int} (g0 : 0 ≤ g) (g1 : g < 60) : f_X8_leftOfGift V g = some (wAm (V 0) g - wBack (V 0) g) := by
  unfold f_X8_leftOfGift
  rw [ck_t ⟨by omega, by omega⟩, ck_t ⟨by omega, by omega⟩]; rfl
theorem c3_leftOf {V : Sz} {w : Rw} (h : LR0 V w) (hw : WF w) {g : Int} (g0 : 0 ≤ g) (g1 : g < w 2) : f_X3_leftOf (sv 9 V) g = some (wAm w g - wBack w g) := by
  have a2 := hw.2.1.2.2.1
  have hg := h.2.2.2.1 g g0 g1
  have e2 : sv 9 V 2 g.toNat = wAm w g := hg.2.1
  have e4 : sv 9 V 4 g.toNat = wBack w g := hg.2.2.2.1
  unfold f_X3_leftOf
  rw [e2, e4, ck_t ⟨g0, by omega⟩]
def gvS (w : Rw) (g q : Int) : Int := if q = 0 then wDay w g else if q = 1 then wAm w g else if q = 2 then wGot w g else if q = 3 then wMany w g else if q = 4 then wAm w g - wBack w g else if q = 5 then (if spoB w g = true then 1 else 0) else if q = 6 then sumN (fun i => measS w 2 (3 * g + i)) (wMany w g).toNat else sumN (fun i => measS w 3 (3 * g + i)) (wMany w g).toNat
theorem x7_giftV {V7 X : Sz} {w : Rw} (h : LR (sv 4 V7) w) {n : Nat} (hn : 1000 ≤ n) {g q : Int} (hg : rng g) (hq : rng q) (ok : 0 ≤ g ∧ g < w 2) (c : 0 ≤ q ∧ q ≤ 7) : f_X7_gift n V7 X g q = some (.inl (gvS w g q)) := by
  have hw := h.2.2.1
  have a2 := hw.2.1.2.2.1
  have hgl := h.1.2.2.2.1 g ok.1 ok.2
  have e14 : V7 14 g.toNat = wDay w g := hgl.1
  have e15 : V7 15 g.toNat = wAm w g := hgl.2.1
  have e16 : V7 16 g.toNat = wGot w g := hgl.2.2.1
  have e18 : V7 18 g.toNat = wMany w g := hgl.2.2.2.2
  have el : f_X3_leftOf (sv 13 V7) g = _ := c3_leftOf (V := sv 4 V7) h.1 hw ok.1 ok.2
  unfold f_X7_gift
  rw [x7_giftY h hg ok, bx_l, ck_t hq, ck_t ⟨ok.1, by omega⟩, ck_t ⟨ok.1, by omega⟩, ck_t ⟨ok.1, by omega⟩, ck_t ⟨ok.1, by omega⟩, e14, e15, e16, e18, el, c4_isSpoilt h.1 hw ok.1 ok.2, c4_sumOfGift h (by omega) ok.1 ok.2 (what := 2) ⟨by decide, by decide⟩, c4_sumOfGift h (by omega) ok.1 ok.2 (what := 3) ⟨by decide, by decide⟩]
  have hc : q = 0 ∨ q = 1 ∨ q = 2 ∨ q = 3 ∨ q = 4 ∨ q = 5 ∨ q = 6 ∨ q = 7 := by omega
  rcases hc with e | e | e | e | e | e | e | e <;> subst e
  · rfl
  · rfl
  · rfl
  · rfl
  · rfl
  · show bl (bd (some (spoB w g)) fun (r_7 : Bool) => if r_7 = false then (some 0) else (some 1)) = some (Sum.inl (if spoB w g = true then 1 else 0))
    cases spoB w g <;> rfl
  · rfl
  · rfl
theorem ag_gift {V7 X V8 : Sz} (h : LR (sv 4 V7) (V8 0)) {n : Nat} (hn : 1000 ≤ n) {g q : Int} (hg : rng g) (hq : rng q) : TT (f_X8_gift n V8 g q) (Asks cdB (f_X7_gift n V7 X g q) V8) := by
  have hw := h.2.2.1
  have a2 := hw.2.1.2.2.1
  unfold f_X8_gift
  refine tt_bd (x8_noGift hw hg) (fun ⟨r1, V2⟩ hr => ref_t hr (fun ok hT => ?_) (fun no hT => tt_some (asks_no (e := 0) ?_ hT rfl (by decide))))
  · have hgw := hw.2.2.2.2.1 g ok.1 ok.2
    refine rg_t hq ⟨by decide, by decide⟩ ⟨by decide, by decide⟩ (fun c => ?_) (fun c => ?_)
    · unfold jX8_gift_24
      refine f0_t (tt_t rfl (tt_bd (aid_of hw hT hn) (fun V6 ⟨hA, e0, hp⟩ => ?_)))
      rw [x7_giftV h hn hg hq ok c]
      obtain ⟨w, hw0⟩ : ∃ w, w = V8 0 := ⟨_, rfl⟩
      rw [← hw0] at h hw a2 ok hgw e0 hp ⊢
      obtain ⟨F, hF⟩ : ∃ F : Int → Int, F = fun i => if q = 6 then measS w 2 (3 * g + i) else measS w 3 (3 * g + i) := ⟨_, rfl⟩
      have em : V6 0 (293 + g).toNat = wMany w g := by rw [e0]; rfl
      have e14 : V6 0 (113 + g).toNat = wDay w g := by rw [e0]; rfl
      have e15 : V6 0 (173 + g).toNat = wAm w g := by rw [e0]; rfl
      have e16 : V6 0 (233 + g).toNat = wGot w g := by rw [e0]; rfl
      refine tt_lp (I := fun s : Int × Int × Sz => (0 ≤ s.2.1 ∧ s.2.1 ≤ wMany w g) ∧ s.2.2 = V6 ∧ s.1 = sumN F s.2.1.toNat) (μ := fun s => (3 - s.2.1).toNat) ?_ n (0, 0, V6) ⟨⟨Int.le_refl _, by show 0 ≤ wMany w g; omega⟩, rfl, rfl⟩ (by show (3 - (0 : Int)).toNat < n; omega)
      rintro ⟨sm, i, V⟩ rec ⟨⟨i0, i1⟩, eV, es⟩ ih
      simp only at i0 i1 eV es
      subst eV
      rw [bX8_gift_42_e, em]
      have yes : ∀ v : Int, v = gvS w g q → TT (some (v, V)) (Asks cdB (some (Sum.inl (gvS w g q))) V8) := fun v hv => tt_some (asks_aid (by rw [hv]) hT hA)
      refine tt_ck ⟨by omega, by omega⟩ (tt_ck ⟨⟨by omega, by omega⟩, ⟨by omega, by omega⟩⟩ (tt_ite (fun c1 => ?_) (fun c1 => ?_)))
      · have ei : i = wMany w g := by omega
        rw [e14, e15, e16, x8_leftOfGift (V := V) ok.1 (by omega), e0, x8_isSpoilt (V := V) (by rw [e0]; exact hw) ok.1 (by rw [e0]; exact ok.2), e0]
        have hc : q = 0 ∨ q = 1 ∨ q = 2 ∨ q = 3 ∨ q = 4 ∨ q = 5 ∨ q = 6 ∨ q = 7 := by omega
        refine tt_ck hq (tt_ite (fun k0 => tt_ck ⟨by omega, by omega⟩ (yes _ ?_)) (fun k0 => tt_ite (fun k1 => tt_ck ⟨by omega, by omega⟩ (yes _ ?_)) (fun k1 => tt_ite (fun k2 => tt_ck ⟨by omega, by omega⟩ (yes _ ?_)) (fun k2 => tt_ite (fun k3 => yes _ ?_) (fun k3 => tt_ite (fun k4 => yes _ ?_) (fun k4 => tt_ite (fun k5 => ?_) (fun k5 => yes _ ?_)))))))
        · subst k0; rfl
        · subst k1; rfl
        · subst k2; rfl
        · subst k3; rfl
        · subst k4; rfl
        · rw [bd_s]
          refine tt_ite (fun k6 => yes _ ?_) (fun k6 => yes _ ?_)
          · subst k5
            show 0 = if spoB w g = true then 1 else 0
            rw [k6]; rfl
          · subst k5
            show 1 = if spoB w g = true then 1 else 0
            rw [eq_true_of_ne_false k6]; rfl
        · rw [es, ei, hF]
          have hc : q = 6 ∨ q = 7 := by omega
          rcases hc with e | e <;> subst e <;> rfl
      · have hb := part_B hw ok.1 ok.2 i0 (by omega)
        have hpt := part_of hw ok.1 ok.2 i0 (by omega)
        have hpp := hp (3 * g + i) hpt.1.1 hb
        have next : ∀ z : Int, z = F i → TT (jX8_gift_93 n g q rec i V z sm) (Asks cdB (some (Sum.inl (gvS w g q))) V8) := by
          intro z hz
          unfold jX8_gift_93
          refine tt_nm (tt_nm (ih (sm + z, i + 1, V) ⟨⟨by show 0 ≤ i + 1; omega, by show i + 1 ≤ wMany w g; omega⟩, rfl, ?_⟩ (by show (3 - (i + 1)).toNat < (3 - i).toNat; omega)))
          show sm + z = sumN F (i + 1).toNat
          rw [sumN_step _ i0, ← es, hz]
        rw [x8_partOf, bd_s, bd_s, hpp.2]
        refine tt_ck hq (tt_ite (fun k6 => tt_ck ⟨by omega, by omega⟩ (next _ ?_)) (fun k6 => tt_ck ⟨by omega, by omega⟩ (next _ ?_)))
        · rw [hF]
          show aidS w (3 * g + i) = if q = 6 then measS w 2 (3 * g + i) else measS w 3 (3 * g + i)
          rw [if_pos k6]; rfl
        · rw [hF, e0]
          show _ = if q = 6 then measS w 2 (3 * g + i) else measS w 3 (3 * g + i)
          rw [if_neg k6]; rfl
    · unfold jX8_gift_24
      refine f1_t (tt_f (by decide) (tt_some (asks_no (e := 1) ?_ (hT.trans (Thr.zero V2 2)) rfl (by decide))))
      unfold f_X7_gift
      rw [x7_giftY h hg ok, bx_l, ck_t hq, if_neg (by omega), if_neg (by omega), if_neg (by omega), if_neg (by omega), if_neg (by omega), if_neg (by omega), if_neg (by omega), if_neg (by omega)]
  · unfold f_X7_gift
    rw [x7_giftN h hg no]; rfl
def pvS (w : Rw) (p q : Int) : Int := if q = 0 then wPd w p else if q = 1 then wPa w p else if q = 2 then leftS w p else if q = 3 then wishS w p else if q = 4 then aidS w p else wPc w p
theorem ag_part {V7 X V8 : Sz} (h : LR (sv 4 V7) (V8 0)) {n : Nat} (hn : 1000 ≤ n) {g i q : Int} (hg : rng g) (hi : rng i) (hq : rng q) : TT (f_X8_part n V8 g i q) (Asks cdB (f_X7_part V7 X g i q) V8) := by
  have hw := h.2.2.1
  unfold f_X8_part
  refine tt_bd (x8_noPart hw hg hi) (fun ⟨r1, V2⟩ hr => ref_t hr (fun ok hT => ?_) (fun no hT => tt_some (asks_no (e := 0) ?_ hT rfl (by decide))))
  · have hpt := part_of hw ok.1.1 ok.1.2 ok.2.1 ok.2.2
    have hb := part_B hw ok.1.1 ok.1.2 ok.2.1 ok.2.2
    have hl := h.1.2.2.2.2.1 _ hpt.1.1 hpt.1.2 hb
    have hv := h.2.1 _ hpt.1.1 hpt.1.2 hb
    have e20 : V7 20 (3 * g + i).toNat = wPd (V8 0) (3 * g + i) := hl.1
    have e22 : V7 22 (3 * g + i).toNat = wPa (V8 0) (3 * g + i) := hl.2.1
    have e24 : V7 24 (3 * g + i).toNat = wPc (V8 0) (3 * g + i) := hl.2.2.2
    have e28 : V7 28 (3 * g + i).toNat = wishS (V8 0) (3 * g + i) := hv.2.1
    have e29 : V7 29 (3 * g + i).toNat = aidS (V8 0) (3 * g + i) := hv.2.2
    have el : f_X3_leftOfPart (sv 13 V7) (3 * g + i) = _ := c3_leftOfPart (V := sv 4 V7) h.1 hw ok.1.1 ok.1.2 ok.2.1 ok.2.2
    refine rg_t hq ⟨by decide, by decide⟩ ⟨by decide, by decide⟩ (fun c => ?_) (fun c => ?_)
    · have e7 : f_X7_part V7 X g i q = some (.inl (pvS (V8 0) (3 * g + i) q)) := by
        unfold f_X7_part
        rw [x7_partY h hg hi ok, bx_l, nm_s, show g * 3 + i = 3 * g + i by omega, ck_t hq, ck_t (show inZ (3 * g + i) 180 from hpt.1), ck_t (show inZ (3 * g + i) 180 from hpt.1), ck_t (show inZ (3 * g + i) 180 from hpt.1), ck_t (show inZ (3 * g + i) 180 from hpt.1), ck_t (show inZ (3 * g + i) 180 from hpt.1), e20, e22, e24, e28, e29, el]
        have hc : q = 0 ∨ q = 1 ∨ q = 2 ∨ q = 3 ∨ q = 4 ∨ q = 5 := by omega
        rcases hc with e | e | e | e | e | e <;> subst e <;> rfl
      unfold jX8_part_24
      refine f0_t (tt_t rfl (tt_bd (aid_of hw hT hn) (fun V6 ⟨hA, e0, hp⟩ => ?_)))
      have hpp := hp (3 * g + i) hpt.1.1 hb
      have yes : ∀ v : Int, v = pvS (V8 0) (3 * g + i) q → TT (some (v, V6)) (Asks cdB (f_X7_part V7 X g i q) V8) := fun v hv => tt_some (asks_aid (by rw [hv, e7]) hT hA)
      rw [x8_partOf, bd_s, x8_leftOf hpt.1.1 hpt.1.2, hpp.1, hpp.2, e0]
      refine tt_ck hq (tt_ite (fun k0 => tt_ck ⟨by omega, by omega⟩ (yes _ ?_)) (fun k0 => tt_ite (fun k1 => tt_ck ⟨by omega, by omega⟩ (yes _ ?_)) (fun k1 => tt_ite (fun k2 => yes _ ?_) (fun k2 => tt_ite (fun k3 => tt_ck ⟨by omega, by omega⟩ (yes _ ?_)) (fun k3 => tt_ite (fun k4 => tt_ck ⟨by omega, by omega⟩ (yes _ ?_)) (fun k4 => tt_ck ⟨by omega, by omega⟩ (yes _ ?_)))))))
      · subst k0; rfl
      · subst k1; rfl
      · subst k2; rfl
      · subst k3; rfl
      · subst k4; rfl
      · have e : q = 5 := by omega
        subst e; rfl
    · unfold jX8_part_24
      refine f1_t (tt_f (by decide) (tt_some (asks_no (e := 1) ?_ (hT.trans (Thr.zero V2 2)) rfl (by decide))))
      unfold f_X7_part
      rw [x7_partY h hg hi ok, bx_l, nm_s, ck_t hq, if_neg (by omega), if_neg (by omega), if_neg (by omega), if_neg (by omega), if_neg (by omega), if_neg (by omega)]
  · unfold f_X7_part
    rw [x7_partN h hg hi no]; rfl
/-! reasons -/
def reaS (w : Rw) (p : Int) : Int := if fullS w p ≠ 0 ∧ aidS w p = fullS w p then 0 else if leftS w p = 0 then 1 else if spoB w (p / 3) = true then 2 else if forB w (wPd w p) (wDay w (p / 3)) = false then 3 else if wishS w p = 0 then 4 else 5
theorem c4_reasonOf {V : Sz} {w : Rw} (h : LR V w) {n : Nat} (hn : 1000 ≤ n) {p : Int} (p0 : 0 ≤ p) (hb : partB w p = true) : f_X4_reasonOf n V p = some (reaS w p) := by
  have hw := h.2.2.1
  have a0 := hw.2.1.1
  have a2 := hw.2.1.2.2.1
  have hs := part_split p0 hb
  have hpw := hw.2.2.2.2.2.1 _ _ hs.1 hs.2.1 hs.2.2.1 hs.2.2.2.1
  have hgw := hw.2.2.2.2.1 _ hs.1 hs.2.1
  have hfb := fullS_bd hw hs.1 hs.2.1 hs.2.2.1 hs.2.2.2.1
  have hwb := wishS_bd hw hs.1 hs.2.1 hs.2.2.1 hs.2.2.2.1
  have hf := c4_fullAid h.1 hw hs.1 hs.2.1 hs.2.2.1 hs.2.2.2.1
  have hlf := c3_leftOfPart h.1 hw hs.1 hs.2.1 hs.2.2.1 hs.2.2.2.1
  rw [hs.2.2.2.2] at hpw hfb hwb hf hlf
  have hl := h.1.2.2.2.2.1 p p0 (by omega) hb
  have hv := h.2.1 p p0 (by omega) hb
  have hgl := h.1.2.2.2.1 _ hs.1 hs.2.1
  have hab := aidS_bd hw p0 hb
  have tail : ¬ (fullS w p ≠ 0 ∧ aidS w p = fullS w p) → jX4_reasonOf_22 n V p = some (reaS w p) := by
    intro hc
    unfold jX4_reasonOf_22 reaS
    rw [hlf, bd_s, ck_t ⟨by omega, by omega⟩, if_neg hc]
    by_cases c1 : leftS w p = 0
    · rw [if_pos c1, if_pos c1]
    · rw [if_neg c1, if_neg c1, ck_t ⟨p0, by omega⟩, c4_isSpoilt h.1 hw hs.1 hs.2.1, bd_s]
      cases hsp : spoB w (p / 3) with
      | true => rfl
      | false =>
        have hd : f_X3_dayOfPart (sv 9 V) p = some (wDay w (p / 3)) := by
          unfold f_X3_dayOfPart
          rw [sv_at, hgl.1, ck_t ⟨p0, by omega⟩, ck_t ⟨by omega, by omega⟩]
        rw [if_pos rfl, ck_t ⟨p0, by omega⟩, hd, bd_s, hl.1, c1_covers h.1 hw h.2.2.2 (by omega) ⟨by omega, by omega⟩ ⟨by omega, by omega⟩, bd_s, hv.2.1, ck_t ⟨by omega, by omega⟩]
        cases hfo : forB w (wPd w p) (wDay w (p / 3)) with
        | true =>
          show (if wishS w p = 0 then some 4 else some 5) = some (if wishS w p = 0 then 4 else 5)
          split <;> rfl
        | false => rfl
  unfold f_X4_reasonOf
  rw [hf, bd_s, ck_t ⟨by omega, by omega⟩, ck_t ⟨p0, by omega⟩, hv.2.2, ck_t ⟨by omega, by omega⟩]
  by_cases c1 : fullS w p = 0
  · rw [if_pos c1]; exact tail (fun q => q.1 c1)
  · rw [if_neg c1]
    by_cases c2 : aidS w p = fullS w p
    · rw [if_pos c2]
      unfold reaS
      rw [if_pos ⟨c1, c2⟩]
    · rw [if_neg c2]; exact tail (fun q => c2 q.2)
theorem x8_reasonOf {V8 V : Sz} (hw : WF (V8 0)) (e0 : V 0 = V8 0) {n : Nat} (hn : 1000 ≤ n) {p : Int} (p0 : 0 ≤ p) (hb : partB (V8 0) p = true) (hp : V 13 p.toNat = wishS (V8 0) p ∧ V 12 p.toNat = aidS (V8 0) p) : f_X8_reasonOf n V p = some (reaS (V8 0) p) := by
  have a0 := hw.2.1.1
  have a2 := hw.2.1.2.2.1
  have hs := part_split p0 hb
  have hpw := hw.2.2.2.2.2.1 _ _ hs.1 hs.2.1 hs.2.2.1 hs.2.2.2.1
  have hgw := hw.2.2.2.2.1 _ hs.1 hs.2.1
  have hfb := fullS_bd hw hs.1 hs.2.1 hs.2.2.1 hs.2.2.2.1
  have hwb := wishS_bd hw hs.1 hs.2.1 hs.2.2.1 hs.2.2.2.1
  rw [hs.2.2.2.2] at hpw hfb hwb
  have hab := aidS_bd hw p0 hb
  have tail : ¬ (fullS (V8 0) p ≠ 0 ∧ aidS (V8 0) p = fullS (V8 0) p) → jX8_reasonOf_25 n V p = some (reaS (V8 0) p) := by
    intro hc
    unfold jX8_reasonOf_25 reaS
    rw [x8_leftOf p0 (by omega), bd_s, e0, ck_t ⟨by omega, by omega⟩, if_neg hc]
    by_cases c1 : leftS (V8 0) p = 0
    · rw [if_pos c1, if_pos c1]
    · have ew : V8 0 (413 + p).toNat = wPd (V8 0) p := rfl
      rw [if_neg c1, if_neg c1, x8_giftOf p0 (by omega), bd_s, x8_isSpoilt (V := V) (by rw [e0]; exact hw) hs.1 (by rw [e0]; exact hs.2.1), bd_s, e0]
      cases hsp : spoB (V8 0) (p / 3) with
      | true => rfl
      | false =>
        rw [if_pos rfl, ck_t ⟨by omega, by omega⟩, x8_dayOf p0 (by omega), bd_s, e0, ew, x8_isForced (V := V) (by rw [e0]; exact hw) (by omega) ⟨by omega, by omega⟩ ⟨by omega, by omega⟩, bd_s, e0, hp.1, ck_t ⟨p0, by omega⟩, ck_t ⟨by omega, by omega⟩]
        cases hfo : forB (V8 0) (wPd (V8 0) p) (wDay (V8 0) (p / 3)) with
        | true =>
          show (if wishS (V8 0) p = 0 then some 4 else some 5) = some (if wishS (V8 0) p = 0 then 4 else 5)
          split <;> rfl
        | false => rfl
  unfold f_X8_reasonOf
  rw [ck_t ⟨p0, by omega⟩, x8_full (V := V) p0 (by omega) (by rw [e0]; exact ⟨hfb.1, hfb.2.1⟩) (by rw [e0]; exact hw.2.1.2.2.2.2.1), bd_s, e0, hp.2, ck_t ⟨⟨by omega, by omega⟩, ⟨by omega, by omega⟩⟩]
  by_cases c2 : aidS (V8 0) p = fullS (V8 0) p
  · rw [if_pos c2]
    by_cases c1 : aidS (V8 0) p = 0
    · rw [if_pos c1]; exact tail (fun q => q.1 (by omega))
    · rw [if_neg c1]
      unfold reaS
      rw [if_pos ⟨by omega, c2⟩]
  · rw [if_neg c2]; exact tail (fun q => c2 q.2)
theorem ag_reason {V7 X V8 : Sz} (h : LR (sv 4 V7) (V8 0)) {n : Nat} (hn : 1000 ≤ n) {g i : Int} (hg : rng g) (hi : rng i) : TT (f_X8_reason n V8 g i) (Asks cdA (f_X7_reason n V7 X g i) V8) := by
  have hw := h.2.2.1
  unfold f_X8_reason
  refine tt_bd (x8_noPart hw hg hi) (fun ⟨r1, V2⟩ hr => ref_f hr (fun ok hT => ?_) (fun no hT => tt_some (asks_no (e := 0) ?_ hT rfl (by decide))))
  · have hpt := part_of hw ok.1.1 ok.1.2 ok.2.1 ok.2.2
    have hb := part_B hw ok.1.1 ok.1.2 ok.2.1 ok.2.2
    refine tt_bd (aid_of hw hT hn) (fun V6 ⟨hA, e0, hp⟩ => ?_)
    rw [x8_partOf, bd_s, x8_reasonOf hw e0 hn hpt.1.1 hb (hp _ hpt.1.1 hb), bd_s]
    refine tt_some (asks_aid ?_ hT hA)
    unfold f_X7_reason
    rw [x7_partY h hg hi ok, bx_l, show g * 3 + i = 3 * g + i by omega, c4_reasonOf h hn hpt.1.1 hb]; rfl
  · unfold f_X7_reason
    rw [x7_partN h hg hi no]; rfl
