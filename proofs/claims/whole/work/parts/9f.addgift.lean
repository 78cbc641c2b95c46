/-- the row with one gift more -/
def NewG (w : Rw) (g day am be d : Int) (w1 : Rw) : Prop := Gq w w1 g ∧ w1 2 = w 2 + 1 ∧ (wDay w1 g = day ∧ wAm w1 g = am ∧ wGot w1 g = be ∧ wMany w1 g = (if d = -1 then 0 else 1) ∧ wBack w1 g = 0) ∧ (d ≠ -1 → wPd w1 (3 * g) = d ∧ wPa w1 (3 * g) = am) ∧ (∀ i : Int, 0 ≤ i → i < 3 → wPb w1 (3 * g + i) = 0 ∧ wPc w1 (3 * g + i) = 0) ∧ WFn w1
/-- the cells of the gift filled in -/
def FilRow (wa : Rw) (g day am be : Int) : Rw := up (up (up wa (113 + g).toNat day) (173 + g).toNat am) (233 + g).toNat be
theorem fil_at {w wa : Rw} {g day am be : Int} (h : ClrRow w g wa) (g0 : 0 ≤ g) (g1 : g < 60) : (∀ i : Nat, i < 113 → FilRow wa g day am be i = w i) ∧ (∀ j : Int, 0 ≤ j → j < 60 → j ≠ g → wDay (FilRow wa g day am be) j = wDay w j ∧ wAm (FilRow wa g day am be) j = wAm w j ∧ wGot (FilRow wa g day am be) j = wGot w j ∧ wMany (FilRow wa g day am be) j = wMany w j ∧ wBack (FilRow wa g day am be) j = wBack w j) ∧ (∀ p : Int, 0 ≤ p → p < 180 → p / 3 ≠ g → wPd (FilRow wa g day am be) p = wPd w p ∧ wPa (FilRow wa g day am be) p = wPa w p ∧ wPb (FilRow wa g day am be) p = wPb w p ∧ wPc (FilRow wa g day am be) p = wPc w p) ∧ (∀ i : Nat, 1133 ≤ i → i < 1233 → FilRow wa g day am be i = w i) ∧ (wDay (FilRow wa g day am be) g = day ∧ wAm (FilRow wa g day am be) g = am ∧ wGot (FilRow wa g day am be) g = be ∧ wMany (FilRow wa g day am be) g = 0 ∧ wBack (FilRow wa g day am be) g = 0) ∧ ∀ i : Int, 0 ≤ i → i < 3 → wPb (FilRow wa g day am be) (3 * g + i) = 0 ∧ wPc (FilRow wa g day am be) (3 * g + i) = 0 := by
  have e : ∀ i : Nat, (i : Int) ≠ 113 + g → (i : Int) ≠ 173 + g → (i : Int) ≠ 233 + g → FilRow wa g day am be i = wa i := fun i h1 h2 h3 => by
    unfold FilRow
    rw [up_ne (by omega), up_ne (by omega), up_ne (by omega)]
  have e2 : ∀ i : Nat, (i : Int) ≠ 113 + g → (i : Int) ≠ 173 + g → (i : Int) ≠ 233 + g → ¬ ((i : Int) = 293 + g ∨ (i : Int) = 353 + g ∨ (413 + 3 * g ≤ (i : Int) ∧ (i : Int) < 416 + 3 * g) ∨ (593 + 3 * g ≤ (i : Int) ∧ (i : Int) < 596 + 3 * g) ∨ (773 + 3 * g ≤ (i : Int) ∧ (i : Int) < 776 + 3 * g) ∨ (953 + 3 * g ≤ (i : Int) ∧ (i : Int) < 956 + 3 * g)) → FilRow wa g day am be i = w i := fun i h1 h2 h3 h4 => by
    rw [e i h1 h2 h3, h i, if_neg h4]
  have ez : ∀ i : Nat, (i : Int) ≠ 113 + g → (i : Int) ≠ 173 + g → (i : Int) ≠ 233 + g → ((i : Int) = 293 + g ∨ (i : Int) = 353 + g ∨ (413 + 3 * g ≤ (i : Int) ∧ (i : Int) < 416 + 3 * g) ∨ (593 + 3 * g ≤ (i : Int) ∧ (i : Int) < 596 + 3 * g) ∨ (773 + 3 * g ≤ (i : Int) ∧ (i : Int) < 776 + 3 * g) ∨ (953 + 3 * g ≤ (i : Int) ∧ (i : Int) < 956 + 3 * g)) → FilRow wa g day am be i = 0 := fun i h1 h2 h3 h4 => by
    rw [e i h1 h2 h3, h i, if_pos h4]
  refine ⟨fun i hi => e2 i (by omega) (by omega) (by omega) (by omega), fun j j0 j1 jg => ?_, fun p p0 p1 pg => ?_, fun i i0 i1 => e2 i (by omega) (by omega) (by omega) (by omega), ?_, fun i i0 i1 => ?_⟩
  · exact ⟨e2 _ (by omega) (by omega) (by omega) (by omega), e2 _ (by omega) (by omega) (by omega) (by omega), e2 _ (by omega) (by omega) (by omega) (by omega), e2 _ (by omega) (by omega) (by omega) (by omega), e2 _ (by omega) (by omega) (by omega) (by omega)⟩
  · exact ⟨e2 _ (by omega) (by omega) (by omega) (by omega), e2 _ (by omega) (by omega) (by omega) (by omega), e2 _ (by omega) (by omega) (by omega) (by omega), e2 _ (by omega) (by omega) (by omega) (by omega)⟩
  · refine ⟨?_, ?_, ?_, ez _ (by omega) (by omega) (by omega) (by omega), ez _ (by omega) (by omega) (by omega) (by omega)⟩
    · unfold wDay FilRow
      rw [up_ne (by omega), up_ne (by omega), up_at]
    · unfold wAm FilRow
      rw [up_ne (by omega), up_at]
    · unfold wGot FilRow
      rw [up_at]
  · exact ⟨ez _ (by omega) (by omega) (by omega) (by omega), ez _ (by omega) (by omega) (by omega) (by omega)⟩
theorem fil_n {w wa : Rw} {g day am be : Int} (h : ClrRow w g wa) (hn : WFn w) (hd : rng day) (ha : rng am) (hb : rng be) : WFn (FilRow wa g day am be) := fun i hi => by
  unfold FilRow
  rw [up_if]
  split
  · exact hb
  · rw [up_if]
    split
    · exact ha
    · rw [up_if]
      split
      · exact hd
      · rw [h i]
        split
        · exact ⟨by decide, by decide⟩
        · exact hn i hi
theorem newg_cash {w wa : Rw} {g day am be : Int} (h : ClrRow w g wa) (hw : WF w) (hg : g = w 2) (g1 : g < 60) (hd : rng day) (ha : rng am) (hb : rng be) : NewG w g day am be (-1) (up (FilRow wa g day am be) 2 (w 2 + 1)) := by
  have a2 := hw.2.1.2.2.1
  obtain ⟨f1, f2, f3, f4, f5, f6⟩ := fil_at (day := day) (am := am) (be := be) h (by omega) g1
  have e : ∀ i : Nat, i ≠ 2 → up (FilRow wa g day am be) 2 (w 2 + 1) i = FilRow wa g day am be i := fun i hi => up_ne hi
  refine ⟨⟨fun i i1 i2 => by rw [e i i2]; exact f1 i i1, fun j j0 j1 jg => ?_, fun p p0 p1 pg => ?_, fun i i0 i1 => by rw [e i (by omega)]; exact f4 i i0 i1⟩, up_at _ _ _, ?_, fun q => (q rfl).elim, fun i i0 i1 => ?_, fun i hi => ?_⟩
  · obtain ⟨x1, x2, x3, x4, x5⟩ := f2 j j0 j1 jg
    exact ⟨(e _ (by omega)).trans x1, (e _ (by omega)).trans x2, (e _ (by omega)).trans x3, (e _ (by omega)).trans x4, (e _ (by omega)).trans x5⟩
  · obtain ⟨x1, x2, x3, x4⟩ := f3 p p0 p1 pg
    exact ⟨(e _ (by omega)).trans x1, (e _ (by omega)).trans x2, (e _ (by omega)).trans x3, (e _ (by omega)).trans x4⟩
  · obtain ⟨x1, x2, x3, x4, x5⟩ := f5
    rw [if_pos rfl]
    exact ⟨(e _ (by omega)).trans x1, (e _ (by omega)).trans x2, (e _ (by omega)).trans x3, (e _ (by omega)).trans x4, (e _ (by omega)).trans x5⟩
  · exact ⟨(e _ (by omega)).trans (f6 i i0 i1).1, (e _ (by omega)).trans (f6 i i0 i1).2⟩
  · rw [up_if]
    split
    · constructor <;> omega
    · exact fil_n h hw.1 hd ha hb i hi
theorem newg_one {w wa w2 : Rw} {g day am be d : Int} (h : ClrRow w g wa) (hw : WF w) (hg : g = w 2) (g1 : g < 60) (hd : rng day) (ha : 1 ≤ am ∧ am ≤ 999999) (hb : rng be) (hdn : rng d) (hd1 : d ≠ -1) (hs : ShRow (up (FilRow wa g day am be) (413 + 3 * g).toNat d) g 1 am (wei 1 0 0) w2) : NewG w g day am be d (up w2 2 (w 2 + 1)) := by
  have a2 := hw.2.1.2.2.1
  obtain ⟨f1, f2, f3, f4, f5, f6⟩ := fil_at (day := day) (am := am) (be := be) h (by omega) g1
  have e : ∀ i : Nat, i ≠ 2 → (i : Int) ≠ 293 + g → (i : Int) ≠ 593 + 3 * g → (i : Int) ≠ 413 + 3 * g → up w2 2 (w 2 + 1) i = FilRow wa g day am be i := fun i h1 h2 h3 h4 => by
    rw [up_ne h1, hs i, if_neg h2, if_neg (by omega), up_ne (by omega)]
  refine ⟨⟨fun i i1 i2 => by rw [e i i2 (by omega) (by omega) (by omega)]; exact f1 i i1, fun j j0 j1 jg => ?_, fun p p0 p1 pg => ?_, fun i i0 i1 => by rw [e i (by omega) (by omega) (by omega) (by omega)]; exact f4 i i0 i1⟩, up_at _ _ _, ?_, fun _ => ?_, fun i i0 i1 => ?_, fun i hi => ?_⟩
  · obtain ⟨x1, x2, x3, x4, x5⟩ := f2 j j0 j1 jg
    exact ⟨(e _ (by omega) (by omega) (by omega) (by omega)).trans x1, (e _ (by omega) (by omega) (by omega) (by omega)).trans x2, (e _ (by omega) (by omega) (by omega) (by omega)).trans x3, (e _ (by omega) (by omega) (by omega) (by omega)).trans x4, (e _ (by omega) (by omega) (by omega) (by omega)).trans x5⟩
  · obtain ⟨x1, x2, x3, x4⟩ := f3 p p0 p1 pg
    exact ⟨(e _ (by omega) (by omega) (by omega) (by omega)).trans x1, (e _ (by omega) (by omega) (by omega) (by omega)).trans x2, (e _ (by omega) (by omega) (by omega) (by omega)).trans x3, (e _ (by omega) (by omega) (by omega) (by omega)).trans x4⟩
  · obtain ⟨x1, x2, x3, x4, x5⟩ := f5
    rw [if_neg hd1]
    refine ⟨(e _ (by omega) (by omega) (by omega) (by omega)).trans x1, (e _ (by omega) (by omega) (by omega) (by omega)).trans x2, (e _ (by omega) (by omega) (by omega) (by omega)).trans x3, ?_, (e _ (by omega) (by omega) (by omega) (by omega)).trans x5⟩
    unfold wMany
    rw [up_ne (by omega), hs, if_pos (by omega)]
  · unfold wPd wPa
    constructor
    · rw [up_ne (by omega), hs, if_neg (by omega), if_neg (by omega), up_at]
    · rw [up_ne (by omega), hs, if_neg (by omega), if_pos (by omega), show (((593 + 3 * g).toNat : Nat) : Int) - (593 + 3 * g) = 0 by omega]
      exact share_one (by show (0 : Int) < wei 1 0 0 0; decide)
  · exact ⟨(e _ (by omega) (by omega) (by omega) (by omega)).trans (f6 i i0 i1).1, (e _ (by omega) (by omega) (by omega) (by omega)).trans (f6 i i0 i1).2⟩
  · rw [up_if]
    split
    · constructor <;> omega
    · rw [hs i]
      split
      · exact ⟨by decide, by decide⟩
      · split
        · have : (i : Int) - (593 + 3 * g) = 0 := by omega
          rw [this, share_one (by show (0 : Int) < wei 1 0 0 0; decide)]
          constructor <;> omega
        · rw [up_if]
          split
          · exact hdn
          · exact fil_n h hw.1 hd ⟨by omega, by omega⟩ hb i hi
theorem newg_WF {w w1 : Rw} {g day am be d : Int} (h : NewG w g day am be d w1) (hw : WF w) (hg : g = w 2) (g1 : g < 60) (hday : 0 ≤ day ∧ day ≤ 9999) (ha : 1 ≤ am ∧ am ≤ 999999) (hb : 0 ≤ be ∧ be ≤ 999999) (hd : d = -1 ∨ (0 ≤ d ∧ d < w 0)) : WF w1 := by
  have a2 := hw.2.1.2.2.1
  obtain ⟨hG, e2, ⟨q1, q2, q3, q4, q5⟩, hp, hz, hn⟩ := h
  have e0 : w1 0 = w 0 := hG.1 0 (by decide) (by decide)
  have hm : wMany w1 g = 0 ∨ (wMany w1 g = 1 ∧ d ≠ -1) := by
    rw [q4]
    by_cases c : d = -1
    · rw [if_pos c]; exact Or.inl rfl
    · rw [if_neg c]; exact Or.inr ⟨rfl, c⟩
  refine gq_WF hG hw hn (by omega) (Or.inr ⟨e2, hg⟩) (by omega) ⟨by rw [q1, q2, q3, q5]; omega, fun i i0 i1 => ?_, fun i j i0 ij j1 => by omega, fun hm2 => ?_⟩
  · have ei : i = 0 := by omega
    obtain ⟨x1, x2⟩ := hp (by omega)
    obtain ⟨z1, z2⟩ := hz 0 (by decide) (by decide)
    subst ei
    rw [Int.add_zero] at z1 z2 ⊢
    rw [x1, x2, z1, z2, e0]
    omega
  · have em : wMany w1 g = 1 := by omega
    obtain ⟨x1, x2⟩ := hp (by omega)
    obtain ⟨z1, z2⟩ := hz 0 (by decide) (by decide)
    rw [Int.add_zero] at z1
    rw [em, q2, q5]
    have s1 : sumN (fun i => wPa w1 (3 * g + i)) (1 : Int).toNat = 0 + wPa w1 (3 * g + ((0 : Nat) : Int)) := rfl
    have s2 : sumN (fun i => wPb w1 (3 * g + i)) (1 : Int).toNat = 0 + wPb w1 (3 * g + ((0 : Nat) : Int)) := rfl
    rw [s1, s2, show 3 * g + ((0 : Nat) : Int) = 3 * g by omega, x2, z1]
    omega
theorem newg_z {w w1 : Rw} {g day am be d : Int} (h : NewG w g day am be d w1) (hw : WF w) (hg : g = w 2) (g1 : g < 60) (hz : WFz w) : WFz w1 := by
  have a2 := hw.2.1.2.2.1
  obtain ⟨hG, e2, ⟨q1, q2, q3, q4, q5⟩, hp, hzz, hn⟩ := h
  intro j i j0 j1 i0 i1
  rw [e2] at j1
  by_cases e : j = g
  · subst e
    have : 0 ≤ i := by
      rw [q4] at i0
      split at i0 <;> omega
    exact hzz i this i1
  · have x := hG.2.1 j j0 (by omega) e
    have hgw := hw.2.2.2.2.1 j j0 (by omega)
    rw [x.2.2.2.1] at i0
    have y := hG.2.2.1 (3 * j + i) (by omega) (by omega) (by omega)
    rw [y.2.2.1, y.2.2.2]
    exact hz j i j0 (by omega) i0 i1
/-- the order with a gift more -/
theorem newg_ord {w w1 : Rw} {g day am be d : Int} (h : NewG w g day am be d w1) (hw : WF w) (hg : g = w 2) (g1 : g < 60) {dd : Int → Int} (hdd : ∀ j : Int, 0 ≤ j → j < g + 1 → dd j = wDay w1 j) {i : Nat} (hi : (i : Int) < w1 2) : ordS w1 i = ordA dd (g.toNat + 1) i := by
  have a2 := hw.2.1.2.2.1
  have e2 := h.2.1
  unfold ordS
  rw [e2, show (w 2 + 1).toNat = g.toNat + 1 by omega]
  exact ordA_congr _ (fun j j0 j1 => (hdd j j0 (by omega)).symm) i (by omega)
theorem ag_addGift {V X : Sz} {PV : Nat → Sz} {K : Nat} {V8 : Sz} (h : Rel V PV K V8) {n : Nat} (hn : 20000 < n) {d day am be : Int} (hd : rng d) (hday : rng day) (ham : rng am) (hbe : rng be) : TT (f_X8_addGift n V8 d day am be) (Chg cdC V PV K (f_X7_addGift n V X PV K d day am be)) := by
  have hL := h.1
  have hw := hL.2.2.1
  have h30 := hL.2.2.2
  have a0 := hw.2.1.1
  have a2 := hw.2.1.2.2.1
  unfold f_X8_addGift
  refine tt_nmE (fun V1 e1 => ?_)
  have hT : Thr V8 V1 0 := by rw [e1]; exact Thr.zero V8 0
  have e10 : V1 0 = V8 0 := hT.2 0 (by decide)
  rw [e10]
  -- the class's way to the donor's test
  have cls : (d = -1 ∨ (0 ≤ d ∧ d < V8 0 0)) → f_X7_addGift n V X PV K d day am be = jX7_addGift_10 n X d day am be V PV K := by
    intro hdd
    unfold f_X7_addGift
    rw [ck_t hd]
    by_cases c : d = -1
    · rw [if_pos c]
    · rw [if_neg c, x7_donorY hL hd (by omega), bx_l]
  refine rg_t hd ⟨by decide, by decide⟩ ⟨by omega, by omega⟩ (fun c => ?_) (fun c => ?_)
  · have hdd : d = -1 ∨ (0 ≤ d ∧ d < V8 0 0) := by omega
    have e7 := cls hdd
    unfold jX8_addGift_27
    refine f0_t (tt_t rfl ?_)
    have refuse : jX7_addGift_10 n X d day am be V PV K = some (.inr 1) → TT (jX8_addGift_69 n d day am be V1) (Chg cdC V PV K (f_X7_addGift n V X PV K d day am be)) := by
      intro e8
      unfold jX8_addGift_69 jX8_addGift_74
      exact f1_t (tt_t rfl (tt_some (chg_no (e := 1) h (e7.trans e8) (hT.trans (Thr.zero V1 2)) rfl (by decide))))
    refine rg_f hday ⟨by decide, by decide⟩ ⟨by decide, by decide⟩ (fun c1 => rg_f ham ⟨by decide, by decide⟩ ⟨by decide, by decide⟩ (fun c2 => rg_t hbe ⟨by decide, by decide⟩ ⟨by decide, by decide⟩ (fun c3 => ?_) (fun c3 => refuse ?_)) (fun c2 => refuse ?_)) (fun c1 => refuse ?_)
    · unfold jX8_addGift_74
      refine f0_t (tt_f (by decide) ?_)
      have hfull : f_X3_isFull (sv 13 V) = some (decide (V8 0 2 = 60)) := by
        have e : sv 13 V 0 0 = V8 0 2 := hL.at.2.2.2.2.2.1
        unfold f_X3_isFull
        rw [e, ck_t ⟨by omega, by omega⟩]
        by_cases c : V8 0 2 = 60
        · rw [if_neg (by omega), decide_eq_true c]
        · rw [if_pos (by omega), decide_eq_false c]
      rw [e10]
      refine tt_ck ⟨by omega, by omega⟩ (tt_ite (fun c60 => ?_) (fun c60 => ?_))
      · unfold jX8_addGift_98
        refine f1_t (tt_f (by decide) (tt_some (chg_no (e := 2) h ?_ (hT.trans (Thr.zero V1 3)) rfl (by decide))))
        rw [e7]
        unfold jX7_addGift_10
        rw [x7_rangeY hday ⟨by decide, by decide⟩ ⟨by decide, by decide⟩ c1, bx_l, x7_rangeY ham ⟨by decide, by decide⟩ ⟨by decide, by decide⟩ c2, bx_l, x7_rangeY hbe ⟨by decide, by decide⟩ ⟨by decide, by decide⟩ c3, bx_l, hfull, decide_eq_true c60, bd_s, if_neg (by decide)]
      · unfold jX8_addGift_98
        refine f0_t (tt_t rfl (tt_bd (remember_both (h.thr hT) hn) (fun V5 ⟨hk5, Va, PVa, Ka, ea, hka, hPa⟩ => ?_)))
        have e50 : V5 0 = V8 0 := (hk5 0 (by decide) (by decide)).trans (hT.2 0 (by decide))
        refine tt_nmE (fun g eg => ?_)
        rw [e50] at eg
        have g0 : 0 ≤ g := by omega
        have g1 : g < 60 := by omega
        refine tt_bd (x8_clearsParts (V0 := V5) g0 g1 (by omega)) (fun V13 ⟨hk13, hcl⟩ => tt_ck ⟨by omega, by omega⟩ (tt_nmE (fun V15 e15 => tt_ck ⟨by omega, by omega⟩ (tt_nmE (fun V17 e17 => tt_ck ⟨by omega, by omega⟩ (tt_nmE (fun V19 e19 => tt_ck hd ?_)))))))
        rw [e50] at hcl
        have e190 : V19 0 = FilRow (V13 0) g day am be := by rw [e19, uz_at, e17, uz_at, e15, uz_at]; rfl
        have ek19 : ∀ k : Nat, k ≠ 0 → V19 k = V5 k := fun k k0 => by rw [e19, uz_ne k0, e17, uz_ne k0, e15, uz_ne k0]; exact hk13 k k0
        have f2 : FilRow (V13 0) g day am be 2 = V8 0 2 := (fil_at (day := day) (am := am) (be := be) hcl g0 g1).1 2 (by decide)
        -- what both have in common
        have fin : ∀ V21 : Sz, NewG (V8 0) g day am be d (V21 0) → (∀ k : Nat, k ≠ 0 → V21 k = V5 k) → Chg cdC V PV K (f_X7_addGift n V X PV K d day am be) (g, V21) := by
          intro V21 hN hk21
          have hw1 := newg_WF hN hw eg g1 c1 c2 c3 hdd
          obtain ⟨hG, e2, ⟨q1, q2, q3, q4, q5⟩, hp, hz, hn21⟩ := id hN
          have h301 : V21 0 1 ≤ 30 := by rw [hG.1 1 (by decide) (by decide)]; exact h30
          have eav : ∀ k : Nat, k < 86 → Va k = V k := fun k hk => hka k (by omega) (by omega)
          have hLa : LR (sv 4 Va) (V8 0) := LR.copy (cop_at (fun k hk => eav _ (by omega))) hL
          have hx7 : TT (f_X7_addGift n V X PV K d day am be) (fun y => ∃ V2, y = .inl (g, V2, PVa, Ka) ∧ LR (sv 4 V2) (V21 0) ∧ ∀ k : Nat, k < 4 ∨ 31 ≤ k → V2 k = Va k) := by
            rw [e7]
            unfold jX7_addGift_10
            rw [x7_rangeY hday ⟨by decide, by decide⟩ ⟨by decide, by decide⟩ c1, bx_l, x7_rangeY ham ⟨by decide, by decide⟩ ⟨by decide, by decide⟩ c2, bx_l, x7_rangeY hbe ⟨by decide, by decide⟩ ⟨by decide, by decide⟩ c3, bx_l, hfull, decide_eq_false c60, bd_s, if_pos rfl, ea, bd_s]
            have hg9 : sv 13 Va 0 0 = g := by show Va 13 0 = _; rw [eav 13 (by decide), eg]; exact hL.at.2.2.2.2.2.1
            have hdays : ∀ j : Int, 0 ≤ j → j < g → wDay (V21 0) j = sv 13 Va 1 j.toNat ∧ 0 ≤ wDay (V21 0) j ∧ wDay (V21 0) j ≤ 9999 := fun j j0 j1 => by
              have hjw := hw.2.2.2.2.1 j j0 (by omega)
              have hjl := hLa.1.2.2.2.1 j j0 (by omega)
              have hx := (hG.2.1 j j0 (by omega) (by omega)).1
              rw [hx]
              exact ⟨hjl.1.symm, by omega, by omega⟩
            have hord : ∀ i : Nat, (i : Int) < g → sv 13 Va 6 i = ordA (wDay (V21 0)) g.toNat i := fun i hi => by
              have := hLa.1.2.2.2.2.2.1 i (by omega)
              show Va 19 i = _
              have e19' : Va 19 i = ordS (V8 0) i := this
              rw [e19']
              unfold ordS
              rw [← eg]
              exact ordA_congr _ (fun j j0 j1 => ((hG.2.1 j j0 (by omega) (by omega)).1).symm) i (by omega)
            refine tt_bl (tt_bd (c3_add (V0 := sv 13 Va) (n0 := g) (day := day) (am := am) (be := be) hg9 ⟨g0, g1⟩ c1 hdays q1 hord (by omega)) (fun ⟨r6, V7⟩ ⟨u0, u1, u2, u3, u4, u5, u6, u7, u8⟩ => tt_nmE (fun Vb eb => tt_ck hd ?_)))
            have u0 : r6 = g := u0
            have u1 : V7 0 0 = g + 1 := u1
            have u2 : V7 1 = up (sv 13 Va 1) g.toNat day := u2
            have u3 : V7 2 = up (sv 13 Va 2) g.toNat am := u3
            have u4 : V7 3 = up (sv 13 Va 3) g.toNat be := u4
            have u5 : V7 4 = up (sv 13 Va 4) g.toNat 0 := u5
            have u6 : V7 5 = up (sv 13 Va 5) g.toNat 0 := u6
            have u7 : ∀ k : Nat, 7 ≤ k → V7 k = sv 13 Va k := u7
            have u8 : ∀ i : Nat, (i : Int) < g + 1 → V7 6 i = ordA (wDay (V21 0)) (g.toNat + 1) i := u8
            have bin : ∀ k : Nat, k < 12 → Vb (k + 13) = V7 k := fun k hk => by
              rw [eb]
              unfold sw
              rw [if_pos ⟨by omega, by omega⟩]
              congr 1
            have bout : ∀ k : Nat, k < 13 ∨ 25 ≤ k → Vb k = Va k := fun k hk => by rw [eb, sw_out (by omega)]
            -- the ledger, with the parts as Vc has them
            have led : ∀ Vc : Sz, (∀ k : Nat, k < 13 ∨ 25 ≤ k → Vc k = Vb k) → (∀ k : Nat, k < 5 ∨ k = 6 → Vc (k + 13) = V7 k) → (∀ j : Int, 0 ≤ j → j < g → Vc 18 j.toNat = Va 18 j.toNat) → Vc 18 g.toNat = wMany (V21 0) g → (∀ p : Int, 0 ≤ p → p < 180 → p / 3 ≠ g → Vc 20 p.toNat = Va 20 p.toNat ∧ Vc 22 p.toNat = Va 22 p.toNat ∧ Vc 23 p.toNat = Va 23 p.toNat ∧ Vc 24 p.toNat = Va 24 p.toNat) → (∀ i : Int, 0 ≤ i → i < wMany (V21 0) g → i < 3 → Vc 20 (3 * g + i).toNat = wPd (V21 0) (3 * g + i) ∧ Vc 22 (3 * g + i).toNat = wPa (V21 0) (3 * g + i) ∧ Vc 23 (3 * g + i).toNat = wPb (V21 0) (3 * g + i) ∧ Vc 24 (3 * g + i).toNat = wPc (V21 0) (3 * g + i)) → LR0 (sv 4 Vc) (V21 0) := by
              intro Vc h1 h2 h3 h4 h5 h6
              refine gq_LR0 (V := sv 4 Va) hLa.1 hw hG g0 (Or.inr ⟨e2, eg⟩) (by omega) (fun k hk k22 => ?_) ?_ (fun j j0 j1 jg => ?_) (fun p p0 p1 pg => h5 p p0 p1 pg) (fun i hi => ?_) ?_ h6
              · show Vc (k + 4) = Va (k + 4)
                rw [h1 _ (by omega), bout _ (by omega)]
              · show Vc 13 0 = _
                rw [h2 0 (by decide), u1, e2, eg]
              · show Vc 14 j.toNat = Va 14 j.toNat ∧ Vc 15 j.toNat = Va 15 j.toNat ∧ Vc 16 j.toNat = Va 16 j.toNat ∧ Vc 17 j.toNat = Va 17 j.toNat ∧ Vc 18 j.toNat = Va 18 j.toNat
                rw [h2 1 (by decide), h2 2 (by decide), h2 3 (by decide), h2 4 (by decide), u2, u3, u4, u5, up_ne (by omega), up_ne (by omega), up_ne (by omega), up_ne (by omega)]
                exact ⟨rfl, rfl, rfl, rfl, h3 j j0 (by omega)⟩
              · show Vc 19 i = _
                rw [h2 6 (by decide), u8 i (by omega)]
                exact (newg_ord hN hw eg g1 (fun _ _ _ => rfl) hi).symm
              · show Vc 14 g.toNat = _ ∧ Vc 15 g.toNat = _ ∧ Vc 16 g.toNat = _ ∧ Vc 17 g.toNat = _ ∧ Vc 18 g.toNat = _
                rw [h2 1 (by decide), h2 2 (by decide), h2 3 (by decide), h2 4 (by decide), u2, u3, u4, u5, up_at, up_at, up_at, up_at, q1, q2, q3, q5]
                exact ⟨rfl, rfl, rfl, rfl, h4⟩
            have setl : ∀ Vc : Sz, (∀ k : Nat, k < 13 ∨ 25 ≤ k → Vc k = Vb k) → LR0 (sv 4 Vc) (V21 0) → TT (bd (f_X4_settle n (sv 4 Vc)) fun (V_10 : Sz) => nm (sw 4 27 Vc V_10) fun (V_11 : Sz) => some (g, V_11, PVa, Ka)) (fun a => ∃ V2, (Sum.inl a : (Int × Sz × (Nat → Sz) × Nat) ⊕ Nat) = .inl (g, V2, PVa, Ka) ∧ LR (sv 4 V2) (V21 0) ∧ ∀ k : Nat, k < 4 ∨ 31 ≤ k → V2 k = Va k) := by
              intro Vc h1 hL0
              refine tt_bd (c4_settle hL0 hw1 h301 (by omega)) (fun Vs ⟨hks, hvs⟩ => tt_nmE (fun Vd ed => tt_some ?_))
              have hst := settle_LR hL0 hw1 h301 hks hvs
              rw [← ed] at hst
              refine ⟨Vd, rfl, hst.1, fun k hk => ?_⟩
              rw [hst.2 k hk, h1 k (by omega), bout k (by omega)]
            rw [u0]
            refine tt_ite (fun cd => setl Vb (fun _ _ => rfl) (led Vb (fun _ _ => rfl) (fun k hk => bin k (by omega)) (fun j j0 j1 => ?_) ?_ (fun p p0 p1 pg => ?_) (fun i i0 i1 i3 => ?_))) (fun cd => ?_)
            · rw [bin 5 (by decide), u6, up_ne (by omega)]; rfl
            · rw [bin 5 (by decide), u6, up_at, q4, if_pos cd]
            · rw [bin 7 (by decide), bin 9 (by decide), bin 10 (by decide), bin 11 (by decide), u7 7 (by decide), u7 9 (by decide), u7 10 (by decide), u7 11 (by decide)]
              exact ⟨rfl, rfl, rfl, rfl⟩
            · rw [q4, if_pos cd] at i1; omega
            · obtain ⟨x1, x2⟩ := hp cd
              obtain ⟨z1, z2⟩ := hz 0 (by decide) (by decide)
              rw [Int.add_zero] at z1 z2
              have b18 : sv 13 Vb 5 g.toNat = 0 := by show Vb 18 g.toNat = 0; rw [bin 5 (by decide), u6, up_at]
              have b15 : sv 13 Vb 2 g.toNat = am := by show Vb 15 g.toNat = am; rw [bin 2 (by decide), u3, up_at]
              have b13 : sv 13 Vb 0 0 = g + 1 := by show Vb 13 0 = _; rw [bin 0 (by decide), u1]
              refine tt_bd (c3_addPart (V0 := sv 13 Vb) (g := g) (c := 0) (d := d) (x := 1) (A := am) (N := g + 1) (a := wei 1 0 0) g0 (by omega) ⟨b13, by omega⟩ ⟨by decide, by decide⟩ ⟨by omega, by omega⟩ (fun j j0 j1 => ?_) b18 b15 (fun j j0 j1 => by omega) rfl (by omega)) (fun V12 hF => tt_nmE (fun Vc ec => ?_))
              · have ej : j = 0 := by omega
                subst ej
                exact ⟨by decide, by decide⟩
              · obtain ⟨k1, k5, k7, k8, k10, k11, k9⟩ := hF
                have cin : ∀ k : Nat, k < 12 → Vc (k + 13) = V12 k := fun k hk => by
                  rw [ec]
                  unfold sw
                  rw [if_pos ⟨by omega, by omega⟩]
                  congr 1
                have cout : ∀ k : Nat, k < 13 ∨ 25 ≤ k → Vc k = Vb k := fun k hk => by rw [ec, sw_out (by omega)]
                refine setl Vc cout (led Vc cout (fun k hk => ?_) (fun j j0 j1 => ?_) ?_ (fun p p0 p1 pg => ?_) (fun i i0 i1 i3 => ?_))
                · rw [cin k (by omega), k1 k hk]; exact bin k (by omega)
                · rw [cin 5 (by decide), k5, up_ne (by omega)]
                  show Vb 18 j.toNat = _
                  rw [bin 5 (by decide), u6, up_ne (by omega)]; rfl
                · rw [cin 5 (by decide), k5, up_at, q4, if_neg cd]; rfl
                · rw [cin 7 (by decide), cin 9 (by decide), cin 10 (by decide), cin 11 (by decide), k7, k10, k11, k9, up_ne (by omega), up_ne (by omega), up_ne (by omega), if_neg (by omega)]
                  show Vb 20 p.toNat = _ ∧ Vb 22 p.toNat = _ ∧ Vb 23 p.toNat = _ ∧ Vb 24 p.toNat = _
                  rw [bin 7 (by decide), bin 9 (by decide), bin 10 (by decide), bin 11 (by decide), u7 7 (by decide), u7 9 (by decide), u7 10 (by decide), u7 11 (by decide)]
                  exact ⟨rfl, rfl, rfl, rfl⟩
                · rw [q4, if_neg cd] at i1
                  have ei : i = 0 := by omega
                  subst ei
                  rw [Int.add_zero, x1, x2, z1, z2, cin 7 (by decide), cin 9 (by decide), cin 10 (by decide), cin 11 (by decide), k7, k10, k11, k9, Int.add_zero, up_at, up_at, up_at, if_pos (by omega)]
                  refine ⟨rfl, ?_, rfl, rfl⟩
                  rw [show (((3 * g).toNat : Nat) : Int) - 3 * g = 0 by omega]
                  exact share_one (by show (0 : Int) < wei 1 0 0 0; decide)
          obtain ⟨y, ey, V2, rfl, hL2, hk2⟩ := hx7
          exact chg_yes h hT hk5 hPa hka (fun k k0 _ => hk21 k k0) hk2 hL2 (newg_z hN hw eg g1 h.z) ey
        refine tt_ite (fun cd => ?_) (fun cd => ?_)
        · unfold jX8_addGift_192
          refine tt_nmE (fun V21 e21 => tt_some (fin V21 ?_ (fun k k0 => by rw [e21, uz_ne k0]; exact ek19 k k0)))
          have e210 : V21 0 = up (FilRow (V13 0) g day am be) 2 (V8 0 2 + 1) := by rw [e21, uz_at, e190, f2]
          rw [e210, cd]
          exact newg_cash hcl hw eg g1 hday ham hbe
        · rw [x8_partOf, bd_s, Int.add_zero]
          refine tt_ck ⟨by omega, by omega⟩ (tt_nmE (fun V24 e24 => ?_))
          have e240 : V24 0 = up (FilRow (V13 0) g day am be) (413 + 3 * g).toNat d := by rw [e24, uz_at, e190]
          have hwam : wAm (V24 0) g = am := by
            have : wAm (V24 0) g = wAm (FilRow (V13 0) g day am be) g := by rw [e240]; exact up_ne (by omega)
            rw [this]
            exact (fil_at (day := day) (am := am) (be := be) hcl g0 g1).2.2.2.2.1.2.1
          refine tt_bd (x8_shares (V0 := V24) (g := g) (m := 1) (A := am) (f := 1) (s := 0) (t := 0) g0 g1 ⟨by decide, by decide⟩ ⟨by omega, by omega⟩ (fun j j0 j1 => ?_) rfl hwam (by omega)) (fun V25 ⟨hk25, hsr⟩ => ?_)
          · have ej : j = 0 := by omega
            subst ej
            exact ⟨by decide, by decide⟩
          · unfold jX8_addGift_192
            have e252 : V25 0 2 = V8 0 2 := by rw [hsr 2, if_neg (by omega), if_neg (by omega), e240, up_ne (by omega), f2]
            refine tt_nmE (fun V21 e21 => tt_some (fin V21 ?_ (fun k k0 => by rw [e21, uz_ne k0, hk25 k k0, e24, uz_ne k0]; exact ek19 k k0)))
            have e210 : V21 0 = up (V25 0) 2 (V8 0 2 + 1) := by rw [e21, uz_at, e252]
            rw [e210]
            rw [e240] at hsr
            exact newg_one hcl hw eg g1 hday c2 hbe hd cd hsr
    · unfold jX7_addGift_10
      rw [x7_rangeY hday ⟨by decide, by decide⟩ ⟨by decide, by decide⟩ c1, bx_l, x7_rangeY ham ⟨by decide, by decide⟩ ⟨by decide, by decide⟩ c2, bx_l, x7_rangeN hbe ⟨by decide, by decide⟩ ⟨by decide, by decide⟩ c3]; rfl
    · unfold jX7_addGift_10
      rw [x7_rangeY hday ⟨by decide, by decide⟩ ⟨by decide, by decide⟩ c1, bx_l, x7_rangeN ham ⟨by decide, by decide⟩ ⟨by decide, by decide⟩ c2]; rfl
    · unfold jX7_addGift_10
      rw [x7_rangeN hday ⟨by decide, by decide⟩ ⟨by decide, by decide⟩ c1]; rfl
  · unfold jX8_addGift_27
    refine f1_t (tt_f (by decide) (tt_some (chg_no (e := 0) h ?_ (hT.trans (Thr.zero V1 1)) rfl (by decide))))
    unfold f_X7_addGift
    rw [ck_t hd, if_neg (by omega), x7_donorN hL hd (by omega)]; rfl
