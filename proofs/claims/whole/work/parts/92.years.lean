/-! years -/
theorem sumN_upd {f f1 : Int → Int} {n : Nat} {y : Int} (y0 : 0 ≤ y) (y1 : y < (n : Int)) (h : ∀ j : Int, 0 ≤ j → j < (n : Int) → j ≠ y → f1 j = f j) : sumN f1 n = sumN f n + (f1 y - f y) := by
  have e := sumN_sub f1 f n
  have e2 := sumN_one (f := fun i => f1 i - f i) (i := y) (n := n) y0 y1 (fun j j0 j1 hne => by
    show f1 j - f j = 0
    rw [h j j0 j1 hne]; omega)
  have e2 : sumN (fun i => f1 i - f i) n = f1 y - f y := e2
  omega
theorem sumN_exists {f g : Int → Int} {n : Nat} (h : sumN f n < sumN g n) : ∃ i : Int, 0 ≤ i ∧ i < (n : Int) ∧ f i < g i := by
  have e := sumN_sub g f n
  obtain ⟨k, k0, k1, hk⟩ := sumN_pos (f := fun i => g i - f i) (n := n) (by omega)
  exact ⟨k, k0, k1, by have hk : 0 < g k - f k := hk; omega⟩
/-- the aid of a year -/
def giftA (w : Rw) (g : Int) : Int := sumN (fun i => measS w 2 (3 * g + i)) (wMany w g).toNat
def yrN (w : Rw) (q : Nat) (y : Int) : Int := sumN (fun i => if yrS w (ordS w i.toNat) = y then giftA w (ordS w i.toNat) else 0) q
theorem giftA_bd {w : Rw} (hw : WF w) {g : Int} (g0 : 0 ≤ g) (g1 : g < w 2) : 0 ≤ giftA w g ∧ giftA w g ≤ 3 * 999999 := by
  have hgw := hw.2.2.2.2.1 g g0 g1
  unfold giftA
  constructor
  · exact sumN_nonneg (fun i i0 i1 => (measS_bd hw (by omega) (part_B hw g0 g1 i0 (by omega))).1)
  · have := sumN_le (f := fun i => measS w 2 (3 * g + i)) (c := 999999) (n := (wMany w g).toNat) (fun i i0 i1 => (measS_bd hw (by omega) (part_B hw g0 g1 i0 (by omega))).2)
    have m : ((wMany w g).toNat : Int) * 999999 ≤ 3 * 999999 := by
      rw [show ((wMany w g).toNat : Int) = wMany w g by omega]; omega
    omega
theorem yrN_bd {w : Rw} (hw : WF w) (q : Nat) (hq : (q : Int) ≤ w 2) (y : Int) : 0 ≤ yrN w q y ∧ yrN w q y ≤ 60 * (3 * 999999) := by
  have a2 := hw.2.1.2.2.1
  unfold yrN
  constructor
  · refine sumN_nonneg (fun i i0 i1 => ?_)
    have hg := ordS_in (w := w) (q := i.toNat) (by omega)
    have := giftA_bd hw hg.1 hg.2
    show (0 : Int) ≤ if _ then _ else _
    split <;> omega
  · have := sumN_le (f := fun i => if yrS w (ordS w i.toNat) = y then giftA w (ordS w i.toNat) else 0) (c := 3 * 999999) (n := q) (fun i i0 i1 => by
      have hg := ordS_in (w := w) (q := i.toNat) (by omega)
      have := giftA_bd hw hg.1 hg.2
      show (if _ then _ else _) ≤ (3 * 999999 : Int)
      split <;> omega)
    omega
theorem yrN_all {w : Rw} (hw : WF w) (y : Int) : yrN w (w 2).toNat y = sumPS w (fun p => if yrS w (p / 3) = y then aidS w p else 0) := by
  have a2 := hw.2.1.2.2.1
  rw [sumPS_gifts hw]
  have e := ordA_sum (wDay w) (fun g => if yrS w g = y then giftA w g else 0) (w 2).toNat
  have e2 : yrN w (w 2).toNat y = sumN (fun g => if yrS w g = y then giftA w g else 0) (w 2).toNat := e
  rw [e2]
  refine sumN_congr (fun g g0 g1 => ?_)
  have hgw := hw.2.2.2.2.1 g g0 (by omega)
  by_cases c : yrS w g = y
  · rw [if_pos c]
    unfold giftA
    refine sumN_congr (fun i i0 i1 => ?_)
    rw [show (3 * g + i) / 3 = g by omega, if_pos c]; rfl
  · rw [if_neg c]
    refine (sumN_zero (fun i i0 i1 => ?_)).symm
    rw [show (3 * g + i) / 3 = g by omega, if_neg c]
theorem yr_donors {w : Rw} (hw : WF w) {y : Int} (y0 : 0 ≤ y) : sumN (fun k => sumD w k 2 y) (w 0).toNat = yrN w (w 2).toNat y := by
  rw [yrN_all hw, sumPS_donors hw]
  refine sumN_congr (fun k k0 k1 => ?_)
  unfold sumD sumPS
  refine sumN_congr (fun p p0 p1 => ?_)
  by_cases c : partB w p = true
  · rw [if_pos c, if_pos c]
    show @ite Int (inS w k y p) (Classical.propDecidable _) (measS w 2 p) 0 = (if wPd w p = k then (if yrS w (p / 3) = y then aidS w p else 0) else 0)
    by_cases c2 : wPd w p = k
    · rw [if_pos c2]
      by_cases c3 : yrS w (p / 3) = y
      · rw [if_pos c3]; exact if_pos ⟨c2, Or.inr c3⟩
      · rw [if_neg c3]
        refine if_neg (fun q => ?_)
        rcases q.2 with e | e
        · omega
        · exact c3 e
    · rw [if_neg c2]; exact if_neg (fun q => c2 q.1)
  · rw [if_neg c, if_neg c]
theorem c4_yearOfMostAid {V : Sz} {w : Rw} (h : LR V w) {n : Nat} (hn : 1000 ≤ n) : TT (f_X4_yearOfMostAid n V) (fun b => ArgP (yrN w (w 2).toNat) 28 b) := by
  have hw := h.2.2.1
  have a2 := hw.2.1.2.2.1
  have e9 : V 9 0 = w 2 := h.1.1.2.2.2.2.2.1
  unfold f_X4_yearOfMostAid
  refine tt_lp (I := fun z : Int × Int × Int × Int × Int => (0 ≤ z.2.2.2.2 ∧ z.2.2.2.2 ≤ w 2) ∧ ArgM (yrN w z.2.2.2.2.toNat) 28 z.1 z.2.1 ∧ ((z.2.2.1 = -1 ∧ z.2.2.2.2 = 0) ∨ (0 < z.2.2.2.2 ∧ z.2.2.1 = yrS w (ordS w (z.2.2.2.2.toNat - 1)) ∧ z.2.2.2.1 = yrN w z.2.2.2.2.toNat z.2.2.1))) (μ := fun z => (w 2 - z.2.2.2.2).toNat) ?_ n (-1, 0, -1, 0, 0) ⟨⟨Int.le_refl _, a2.1⟩, ⟨Or.inl ⟨rfl, fun j j0 j1 => Int.le_refl _⟩, rfl⟩, Or.inl ⟨rfl, rfl⟩⟩ (by show (w 2 - (0 : Int)).toNat < n; omega)
  rintro ⟨b, m, yr, ad, q⟩ rec ⟨⟨q0, q1⟩, hm, hy⟩ ih
  simp only at q0 q1 hm hy
  have hl := hm.le
  rw [bX4_yearOfMostAid_12_e, e9]
  refine tt_ck ⟨⟨by omega, by omega⟩, ⟨by omega, by omega⟩⟩ (tt_ite (fun c => tt_some ?_) (fun c => ?_))
  · rw [show (w 2).toNat = q.toNat by omega]; exact hm.1
  have hq : ((q.toNat : Nat) : Int) < w 2 := by omega
  have hg := ordS_in hq
  have hyb := yr_bd hw hg.1 hg.2
  have e15 : V 15 q.toNat = ordS w q.toNat := h.1.2.2.2.2.2.1 q.toNat hq
  have hyrb : rng yr := by
    rcases hy with ⟨e, _⟩ | ⟨_, e, _⟩
    · rw [e]; exact ⟨by decide, by decide⟩
    · have hg1 := ordS_in (w := w) (q := q.toNat - 1) (by omega)
      have := yr_bd hw hg1.1 hg1.2
      constructor <;> omega
  rw [e15]
  refine tt_ck ⟨q0, by omega⟩ (tt_nm ?_)
  rw [c3_yearOf h.1 hw hg.1 hg.2, bd_s, bd_s]
  have hga := giftA_bd hw hg.1 hg.2
  have hSb := yrN_bd hw q.toNat (by omega)
  -- the earlier years are not later ones
  have hearly : ∀ j : Nat, j < q.toNat → yrS w (ordS w j) ≤ yrS w (ordS w q.toNat) := fun j hj => ordS_days hw hj hq
  have hlate : ∀ y : Int, yrS w (ordS w q.toNat) < y → yrN w q.toNat y = 0 := fun y hy => sumN_zero (fun i i0 i1 => if_neg (fun e => by have := hearly i.toNat (by omega); omega))
  have hnext : ∀ y : Int, yrN w (q.toNat + 1) y = yrN w q.toNat y + if yrS w (ordS w q.toNat) = y then giftA w (ordS w q.toNat) else 0 := fun y => by
    unfold yrN
    rw [sumN_succ, show ((q.toNat : Nat) : Int).toNat = q.toNat by omega]
  have hM : 0 ≤ m ∧ m ≤ 60 * (3 * 999999) := by
    by_cases e : b = -1
    · have := hl.2.2.2.2.1 e; omega
    · have h1 := hl.2.2.2.2.2 e
      have := hSb b; omega
  have go : ∀ ad1 : Int, ad1 = yrN w q.toNat (yrS w (ordS w q.toNat)) → TT (jX4_yearOfMostAid_62 n V rec b m (yrS w (ordS w q.toNat)) ad1 q (ordS w q.toNat)) (fun b => ArgP (yrN w (w 2).toNat) 28 b) := by
    intro ad1 ea
    have hs : f_X4_sumOfGift n V (ordS w q.toNat) 2 = some (giftA w (ordS w q.toNat)) := c4_sumOfGift h (by omega) hg.1 hg.2 ⟨by decide, by decide⟩
    have hS1 := hSb (yrS w (ordS w q.toNat))
    have en : ad1 + giftA w (ordS w q.toNat) = yrN w (q.toNat + 1) (yrS w (ordS w q.toNat)) := by rw [hnext, if_pos rfl, ea]
    have hgr := hm.grow (S1 := yrN w (q.toNat + 1)) (y := yrS w (ordS w q.toNat)) hyb.1 hyb.2 (fun j j0 j1 => by rw [hlate j j0]; exact Int.le_refl _) (fun j j0 j1 jn => by rw [hnext, if_neg (fun e => jn e.symm)]; omega) (by rw [hnext, if_pos rfl]; omega)
    have fin : ∀ b1 m1 : Int, ArgM (yrN w (q.toNat + 1)) 28 b1 m1 → TT (jX4_yearOfMostAid_85 n V rec b1 m1 (yrS w (ordS w q.toNat)) (ad1 + giftA w (ordS w q.toNat)) q) (fun b => ArgP (yrN w (w 2).toNat) 28 b) := by
      intro b1 m1 hA
      unfold jX4_yearOfMostAid_85
      refine tt_nm (ih (b1, m1, yrS w (ordS w q.toNat), ad1 + giftA w (ordS w q.toNat), q + 1) ⟨⟨by show 0 ≤ q + 1; omega, by show q + 1 ≤ w 2; omega⟩, ?_, Or.inr ⟨by show 0 < q + 1; omega, ?_, ?_⟩⟩ (by show (w 2 - (q + 1)).toNat < (w 2 - q).toNat; omega))
      · show ArgM (yrN w (q + 1).toNat) 28 b1 m1
        rw [show (q + 1).toNat = q.toNat + 1 by omega]; exact hA
      · show yrS w (ordS w q.toNat) = yrS w (ordS w ((q + 1).toNat - 1))
        rw [show (q + 1).toNat - 1 = q.toNat by omega]
      · show ad1 + giftA w (ordS w q.toNat) = yrN w (q + 1).toNat (yrS w (ordS w q.toNat))
        rw [show (q + 1).toNat = q.toNat + 1 by omega]; exact en
    unfold jX4_yearOfMostAid_62
    rw [hs, bd_s]
    refine tt_nm (tt_ck ⟨⟨by omega, by omega⟩, ⟨by omega, by omega⟩⟩ (tt_ite (fun c2 => fin b m (hgr.2 (by omega))) (fun c2 => ?_)))
    have := hgr.1 (by omega)
    rw [← en] at this
    exact fin _ _ this
  refine tt_ck ⟨⟨by omega, by omega⟩, hyrb⟩ (tt_ite (fun c2 => ?_) (fun c2 => go 0 ?_))
  · rcases hy with ⟨e, _⟩ | ⟨_, e, e3⟩
    · omega
    · rw [← c2]
      exact go ad (by rw [c2]; exact e3)
  · refine (sumN_zero (fun i i0 i1 => if_neg (fun e => ?_))).symm
    rcases hy with ⟨_, e1⟩ | ⟨e0, e1, e3⟩
    · omega
    · have h1 : yrS w (ordS w (q.toNat - 1)) ≤ yrS w (ordS w q.toNat) := hearly _ (by omega)
      have h2 : yrS w (ordS w i.toNat) ≤ yrS w (ordS w (q.toNat - 1)) := by
        by_cases e4 : i.toNat = q.toNat - 1
        · rw [e4]; exact Int.le_refl _
        · exact ordS_days hw (by omega) (by omega)
      omega
theorem ag_bestYear {V7 X V8 : Sz} (h : LR (sv 4 V7) (V8 0)) {n : Nat} (hn : 1000 ≤ n) : TT (f_X8_bestYear n V8) (AskO (f_X7_bestYear n V7 X) V8) := by
  have hw := h.2.2.1
  have a0 := hw.2.1.1
  have a2 := hw.2.1.2.2.1
  obtain ⟨b, eb, hb⟩ := c4_yearOfMostAid h hn
  have e7 : f_X7_bestYear n V7 X = some b := by
    unfold f_X7_bestYear
    rw [eb]; rfl
  rw [e7]
  obtain ⟨w, hw0⟩ : ∃ w, w = V8 0 := ⟨_, rfl⟩
  have hSb := yrN_bd hw (V8 0 2).toNat (by omega)
  unfold f_X8_bestYear
  refine tt_nmE (fun V1 e1 => ?_)
  have hT : Thr V8 V1 0 := by rw [e1]; exact Thr.zero V8 0
  refine tt_bd (aid_of hw hT hn) (fun V6 ⟨hA, e0, hp⟩ => ?_)
  refine tt_lp (I := fun z : Int × Int × Int × Sz => (0 ≤ z.2.2.1 ∧ z.2.2.1 ≤ 28) ∧ z.2.2.2 = V6 ∧ ArgM (yrN (V8 0) (V8 0 2).toNat) z.2.2.1 z.1 z.2.1) (μ := fun z => (28 - z.2.2.1).toNat) ?_ n (-1, 0, 0, V6) ⟨⟨Int.le_refl _, by show (0 : Int) ≤ 28; decide⟩, rfl, ArgM.nil _⟩ (by show (28 - (0 : Int)).toNat < n; omega)
  rintro ⟨b1, m, y, V⟩ rec15 ⟨⟨y0, y1⟩, eV, hm⟩ ih15
  simp only at y0 y1 eV hm
  subst eV
  have hl := hm.le
  have hM : 0 ≤ m ∧ m ≤ 60 * (3 * 999999) := by
    by_cases e : b1 = -1
    · have := hl.2.2.2.2.1 e; omega
    · have h1 := hl.2.2.2.2.2 e
      have := hSb b1; omega
  rw [bX8_bestYear_15_e]
  refine tt_ck ⟨by omega, by omega⟩ (tt_ite (fun c => tt_some (asko_aid ?_ hT hA)) (fun c => ?_))
  · rw [ArgP.uniq hb (argM_fin hm (show y = 28 by omega))]
  refine tt_lp (I := fun z : Int × Int × Int × Int × Int × Sz => (z.1 = b1 ∧ z.2.1 = m ∧ z.2.2.1 = y) ∧ (0 ≤ z.2.2.2.2.1 ∧ z.2.2.2.2.1 ≤ V8 0 0) ∧ z.2.2.2.2.2 = V ∧ z.2.2.2.1 = sumN (fun k => sumD (V8 0) k 2 y) z.2.2.2.2.1.toNat) (μ := fun z => (V8 0 0 - z.2.2.2.2.1).toNat) ?_ n (b1, m, y, 0, 0, V) ⟨⟨rfl, rfl, rfl⟩, ⟨Int.le_refl _, a0.1⟩, rfl, rfl⟩ (by show (V8 0 0 - (0 : Int)).toNat < n; omega)
  rintro ⟨b2, m2, y2, sm, k, V2⟩ rec27 ⟨⟨u1, u2, u3⟩, ⟨k0, k1⟩, eV, es⟩ ih27
  simp only at u1 u2 u3 k0 k1 eV es
  subst u1 u2 u3 eV
  rw [bX8_bestYear_27_e, e0]
  have next : ∀ b3 m3 : Int, ArgM (yrN (V8 0) (V8 0 2).toNat) (y2 + 1) b3 m3 → TT (jX8_bestYear_71 n rec15 b3 m3 y2 V2) (AskO (some b) V8) := by
    intro b3 m3 hA3
    unfold jX8_bestYear_71
    exact tt_nm (ih15 (b3, m3, y2 + 1, V2) ⟨⟨by show 0 ≤ y2 + 1; omega, by show y2 + 1 ≤ 28; omega⟩, rfl, hA3⟩ (by show (28 - (y2 + 1)).toNat < (28 - y2).toNat; omega))
  refine tt_ck ⟨⟨by omega, by omega⟩, ⟨by omega, by omega⟩⟩ (tt_ite (fun c2 => ?_) (fun c2 => ?_))
  · have es2 : sm = yrN (V8 0) (V8 0 2).toNat y2 := by rw [es, show k = V8 0 0 by omega, yr_donors hw y0]
    have hb2 := hSb y2
    refine tt_ck ⟨⟨by omega, by omega⟩, ⟨by omega, by omega⟩⟩ (tt_ite (fun c3 => next _ _ ?_) (fun c3 => next _ _ (hm.skip (by omega))))
    rw [es2]
    exact hm.take y0 (by omega)
  · rw [x8_sumOf hw e0 hn hp ⟨by omega, by omega⟩ ⟨by decide, by decide⟩ ⟨by omega, by omega⟩, bd_s]
    refine tt_nm (tt_nm (ih27 (b2, m2, y2, _, k + 1, V2) ⟨⟨rfl, rfl, rfl⟩, ⟨by show 0 ≤ k + 1; omega, by show k + 1 ≤ V8 0 0; omega⟩, rfl, ?_⟩ (by show (V8 0 0 - (k + 1)).toNat < (V8 0 0 - k).toNat; omega)))
    show _ = sumN (fun k => sumD (V8 0) k 2 y2) (k + 1).toNat
    rw [sumN_step _ k0, ← es]
/-! years in which the limit tells -/
def LimG (w : Rw) (d g : Int) : Prop := ∃ i : Int, 0 ≤ i ∧ i < wMany w g ∧ wPd w (3 * g + i) = d ∧ aidS w (3 * g + i) < wishS w (3 * g + i)
def LimY (w : Rw) (d : Int) (q : Nat) (y : Int) : Prop := ∃ j : Nat, j < q ∧ yrS w (ordS w j) = y ∧ LimG w d (ordS w j)
noncomputable def limI (w : Rw) (d : Int) (q : Nat) (y : Int) : Int := @ite Int (LimY w d q y) (Classical.propDecidable _) 1 0
theorem limI_t {w : Rw} {d y : Int} {q : Nat} (h : LimY w d q y) : limI w d q y = 1 := by unfold limI; exact if_pos h
theorem limI_f {w : Rw} {d y : Int} {q : Nat} (h : ¬ LimY w d q y) : limI w d q y = 0 := by unfold limI; exact if_neg h
theorem limI_iff {w : Rw} {d y : Int} {q q1 : Nat} (h : LimY w d q y ↔ LimY w d q1 y) : limI w d q y = limI w d q1 y := by
  by_cases c : LimY w d q y
  · rw [limI_t c, limI_t (h.mp c)]
  · rw [limI_f c, limI_f (fun x => c (h.mpr x))]
theorem c4_isLimited {V : Sz} {w : Rw} (h : LR V w) {n : Nat} (hn : 100 ≤ n) {g d : Int} (g0 : 0 ≤ g) (g1 : g < w 2) (hd : rng d) : TT (f_X4_isLimited n V g d) (fun r => r = true ↔ LimG w d g) := by
  have hw := h.2.2.1
  have a0 := hw.2.1.1
  have a2 := hw.2.1.2.2.1
  have hgw := hw.2.2.2.2.1 g g0 g1
  have e14 : V 14 g.toNat = wMany w g := (h.1.2.2.2.1 g g0 g1).2.2.2.2
  unfold f_X4_isLimited
  refine tt_lp (I := fun i => (0 ≤ i ∧ i ≤ wMany w g) ∧ ∀ j : Int, 0 ≤ j → j < i → ¬ (wPd w (3 * g + j) = d ∧ aidS w (3 * g + j) < wishS w (3 * g + j))) (μ := fun i => (3 - i).toNat) ?_ n 0 ⟨⟨Int.le_refl _, by omega⟩, fun j a b => by omega⟩ (by show (3 - (0 : Int)).toNat < n; omega)
  rintro i rec ⟨⟨i0, i1⟩, hno⟩ ih
  rw [bX4_isLimited_2_e, e14]
  refine tt_ck ⟨g0, by omega⟩ (tt_ck ⟨⟨by omega, by omega⟩, ⟨by omega, by omega⟩⟩ (tt_ite (fun c => tt_some ⟨fun q => Bool.noConfusion (show false = true from q), fun ⟨j, j0, j1, j2, j3⟩ => (hno j j0 (by omega) ⟨j2, j3⟩).elim⟩) (fun c => tt_nmE (fun x ex => ?_))))
  have i2 : i < wMany w g := by omega
  have hpt := part_of hw g0 g1 i0 i2
  have hb := part_B hw g0 g1 i0 i2
  have hl := h.1.2.2.2.2.1 _ hpt.1.1 hpt.1.2 hb
  have hv := h.2.1 _ hpt.1.1 hpt.1.2 hb
  have hpw := hw.2.2.2.2.2.1 _ _ g0 g1 i0 i2
  have hab := aidS_bd hw hpt.1.1 hb
  rw [show x = 3 * g + i by omega, hl.1, hv.2.1, hv.2.2]
  have next : ¬ (wPd w (3 * g + i) = d ∧ aidS w (3 * g + i) < wishS w (3 * g + i)) → TT (jX4_isLimited_55 n V g d rec i) (fun r => r = true ↔ LimG w d g) := by
    intro q
    unfold jX4_isLimited_55
    refine tt_nm (ih (i + 1) ⟨⟨by omega, by omega⟩, fun j j0 j1 => ?_⟩ (by omega))
    by_cases e : j = i
    · rw [e]; exact q
    · exact hno j j0 (by omega)
  refine tt_ck ⟨hpt.1.1, hpt.1.2⟩ (tt_ck ⟨⟨by omega, by omega⟩, hd⟩ (tt_ite (fun c2 => tt_ck ⟨⟨by omega, by omega⟩, ⟨by omega, by omega⟩⟩ (tt_ite (fun c3 => next (fun q => by omega)) (fun c3 => tt_some ⟨fun _ => ⟨i, i0, i2, c2, by omega⟩, fun _ => rfl⟩))) (fun c2 => next (fun q => c2 q.1))))
theorem c4_countLimitedYears {V : Sz} {w : Rw} (h : LR V w) {n : Nat} (hn : 1000 ≤ n) {d : Int} (hd : rng d) : f_X4_countLimitedYears n V d = some (sumN (limI w d (w 2).toNat) 28) := by
  have hw := h.2.2.1
  have a2 := hw.2.1.2.2.1
  have e9 : V 9 0 = w 2 := h.1.1.2.2.2.2.2.1
  refine tt_eq ?_
  unfold f_X4_countLimitedYears
  refine tt_lp (I := fun z : Int × Int × Int => (0 ≤ z.2.2 ∧ z.2.2 ≤ w 2) ∧ z.1 = sumN (limI w d z.2.2.toNat) 28 ∧ (-1 ≤ z.2.1 ∧ z.2.1 < 28) ∧ (∀ j : Nat, (j : Int) < z.2.2 → LimG w d (ordS w j) → yrS w (ordS w j) ≤ z.2.1) ∧ (z.2.1 = -1 ∨ LimY w d z.2.2.toNat z.2.1)) (μ := fun z => (w 2 - z.2.2).toNat) ?_ n (0, -1, 0) ⟨⟨Int.le_refl _, a2.1⟩, ?_, ⟨Int.le_refl _, by show (-1 : Int) < 28; decide⟩, fun j hj => absurd hj (by show ¬ ((j : Int) < 0); omega), Or.inl rfl⟩ (by show (w 2 - (0 : Int)).toNat < n; omega)
  · rintro ⟨sm, cn, q⟩ rec ⟨⟨q0, q1⟩, es, ⟨c0, c1⟩, hle, hcn⟩ ih
    simp only at q0 q1 es c0 c1 hle hcn
    rw [bX4_countLimitedYears_7_e, e9]
    refine tt_ck ⟨⟨by omega, by omega⟩, ⟨by omega, by omega⟩⟩ (tt_ite (fun c => tt_some ?_) (fun c => ?_))
    · rw [es, show q = w 2 by omega]
    have hq : ((q.toNat : Nat) : Int) < w 2 := by omega
    have hg := ordS_in hq
    have hyb := yr_bd hw hg.1 hg.2
    have e15 : V 15 q.toNat = ordS w q.toNat := h.1.2.2.2.2.2.1 q.toNat hq
    rw [e15]
    have hearly : ∀ j : Nat, j < q.toNat → yrS w (ordS w j) ≤ yrS w (ordS w q.toNat) := fun j hj => ordS_days hw hj hq
    have hgrow : ∀ y : Int, LimY w d (q.toNat + 1) y ↔ LimY w d q.toNat y ∨ (yrS w (ordS w q.toNat) = y ∧ LimG w d (ordS w q.toNat)) := fun y => by
      constructor
      · rintro ⟨j, j1, j2, j3⟩
        by_cases e : j = q.toNat
        · subst e; exact Or.inr ⟨j2, j3⟩
        · exact Or.inl ⟨j, by omega, j2, j3⟩
      · rintro (⟨j, j1, j2, j3⟩ | ⟨e1, e2⟩)
        · exact ⟨j, by omega, j2, j3⟩
        · exact ⟨q.toNat, by omega, e1, e2⟩
    have next : ∀ s1 c2 : Int, s1 = sumN (limI w d (q.toNat + 1)) 28 → (-1 ≤ c2 ∧ c2 < 28) → (∀ j : Nat, (j : Int) < q + 1 → LimG w d (ordS w j) → yrS w (ordS w j) ≤ c2) → (c2 = -1 ∨ LimY w d (q.toNat + 1) c2) → TT (jX4_countLimitedYears_67 n V d rec s1 c2 q) (fun r => r = sumN (limI w d (w 2).toNat) 28) := by
      intro s1 c2 u1 u2 u3 u4
      unfold jX4_countLimitedYears_67
      refine tt_nm (ih (s1, c2, q + 1) ⟨⟨by show 0 ≤ q + 1; omega, by show q + 1 ≤ w 2; omega⟩, ?_, u2, u3, ?_⟩ (by show (w 2 - (q + 1)).toNat < (w 2 - q).toNat; omega))
      · show s1 = sumN (limI w d (q + 1).toNat) 28
        rw [show (q + 1).toNat = q.toNat + 1 by omega]; exact u1
      · show c2 = -1 ∨ LimY w d (q + 1).toNat c2
        rw [show (q + 1).toNat = q.toNat + 1 by omega]; exact u4
    have stay : (∀ y : Int, yrS w (ordS w q.toNat) = y → LimG w d (ordS w q.toNat) → LimY w d q.toNat y) → TT (jX4_countLimitedYears_67 n V d rec sm cn q) (fun r => r = sumN (limI w d (w 2).toNat) 28) := by
      intro hin
      refine next sm cn ?_ ⟨c0, c1⟩ (fun j j1 j2 => ?_) ?_
      · rw [es]
        refine sumN_congr (fun y _ _ => limI_iff ?_)
        rw [hgrow]
        exact ⟨fun x => Or.inl x, fun x => by
          rcases x with x | ⟨x1, x2⟩
          · exact x
          · exact hin y x1 x2⟩
      · by_cases e : j = q.toNat
        · subst e
          obtain ⟨j3, j4, j5, j6⟩ := hin _ rfl j2
          rw [← j5]
          exact hle j3 (by omega) j6
        · exact hle j (by omega) j2
      · rcases hcn with e | e
        · exact Or.inl e
        · exact Or.inr ((hgrow cn).mpr (Or.inl e))
    refine tt_ck ⟨q0, by omega⟩ (tt_nm ?_)
    rw [c3_yearOf h.1 hw hg.1 hg.2, bd_s, bd_s]
    refine tt_ck ⟨⟨by omega, by omega⟩, ⟨by omega, by omega⟩⟩ (tt_ite (fun c2 => stay (fun y ey _ => ?_)) (fun c2 => ?_))
    · rcases hcn with e | e
      · omega
      · rw [← ey, c2]; exact e
    refine tt_bd (c4_isLimited h (by omega) hg.1 hg.2 hd) (fun r hr => ?_)
    refine tt_ite (fun c3 => stay (fun y _ hy => ?_)) (fun c3 => tt_nm (next _ _ ?_ ⟨by omega, hyb.2⟩ (fun j j1 j2 => ?_) (Or.inr ?_)))
    · have := hr.mpr hy
      rw [c3] at this; exact Bool.noConfusion this
    · have hlim := hr.mp (eq_true_of_ne_false c3)
      have hold : ¬ LimY w d q.toNat (yrS w (ordS w q.toNat)) := by
        rintro ⟨j, j1, j2, j3⟩
        have h1 := hle j (by omega) j3
        rcases hcn with e | ⟨j4, j5, j6, j7⟩
        · omega
        · have := hearly j4 j5
          omega
      have e9 : sumN (limI w d (q.toNat + 1)) 28 = sumN (limI w d q.toNat) 28 + (limI w d (q.toNat + 1) (yrS w (ordS w q.toNat)) - limI w d q.toNat (yrS w (ordS w q.toNat))) := sumN_upd (n := 28) hyb.1 (by omega) (fun j j0 j1 jn => limI_iff (by
        rw [hgrow]
        exact ⟨fun x => by
          rcases x with x | ⟨x1, x2⟩
          · exact x
          · exact (jn x1.symm).elim, fun x => Or.inl x⟩))
      rw [limI_t ((hgrow _).mpr (Or.inr ⟨rfl, hlim⟩)), limI_f hold, ← es] at e9
      rw [e9]; omega
    · by_cases e : j = q.toNat
      · rw [e]; exact Int.le_refl _
      · exact hearly j (by omega)
    · exact (hgrow _).mpr (Or.inr ⟨rfl, hr.mp (eq_true_of_ne_false c3)⟩)
  · show (0 : Int) = sumN (limI w d 0) 28
    refine (sumN_zero (fun y _ _ => limI_f ?_)).symm
    rintro ⟨j, j1, _⟩
    omega
theorem limY_sum {w : Rw} (hw : WF w) {d y : Int} (y0 : 0 ≤ y) : sumD w d 2 y < sumD w d 1 y ↔ LimY w d (w 2).toNat y := by
  have a2 := hw.2.1.2.2.1
  have hmono : ∀ p : Int, 0 ≤ p → p < ((180 : Nat) : Int) → (if partB w p = true then @ite Int (inS w d y p) (Classical.propDecidable _) (measS w 2 p) 0 else 0) ≤ (if partB w p = true then @ite Int (inS w d y p) (Classical.propDecidable _) (measS w 1 p) 0 else 0) := by
    intro p p0 p1
    by_cases c : partB w p = true
    · rw [if_pos c, if_pos c]
      have hab := aidS_bd hw p0 c
      by_cases c2 : inS w d y p
      · rw [if_pos c2, if_pos c2]; exact hab.2.1
      · rw [if_neg c2, if_neg c2]; exact Int.le_refl _
    · rw [if_neg c, if_neg c]; exact Int.le_refl _
  unfold sumD sumPS
  constructor
  · intro hlt
    obtain ⟨p, p0, p1, hp⟩ := sumN_exists hlt
    by_cases c : partB w p = true
    · rw [if_pos c, if_pos c] at hp
      simp only at hp
      by_cases c2 : inS w d y p
      · rw [if_pos c2, if_pos c2] at hp
        have hs := part_split p0 c
        obtain ⟨j, hj, ej⟩ := ordA_onto (wDay w) (n := (w 2).toNat) hs.1 (by omega)
        have ej : ordS w j = p / 3 := ej
        refine ⟨j, hj, ?_, ?_⟩
        · rw [ej]
          rcases c2.2 with e | e
          · omega
          · exact e
        · rw [ej]
          exact ⟨p % 3, hs.2.2.1, hs.2.2.2.1, by rw [hs.2.2.2.2]; exact c2.1, by rw [hs.2.2.2.2]; exact hp⟩
      · rw [if_neg c2, if_neg c2] at hp; omega
    · rw [if_neg c, if_neg c] at hp; omega
  · rintro ⟨j, j1, j2, i, i0, i1, i2, i3⟩
    have hg := ordS_in (w := w) (q := j) (by omega)
    have hpt := part_of hw hg.1 hg.2 i0 i1
    have hb := part_B hw hg.1 hg.2 i0 i1
    refine sumN_lt hmono hpt.1.1 hpt.1.2 ?_
    have hin : inS w d y (3 * ordS w j + i) := ⟨i2, Or.inr (by rw [hpt.2.1]; exact j2)⟩
    rw [if_pos hb, if_pos hb]
    show @ite Int (inS w d y (3 * ordS w j + i)) (Classical.propDecidable _) (measS w 2 (3 * ordS w j + i)) 0 < @ite Int (inS w d y (3 * ordS w j + i)) (Classical.propDecidable _) (measS w 1 (3 * ordS w j + i)) 0
    rw [if_pos hin, if_pos hin]
    exact i3
theorem ag_limitedYears {V7 X V8 : Sz} (h : LR (sv 4 V7) (V8 0)) {n : Nat} (hn : 1000 ≤ n) {k : Int} (hk : rng k) : TT (f_X8_limitedYears n V8 k) (Asks cdA (f_X7_limitedYears n V7 X k) V8) := by
  have hw := h.2.2.1
  unfold f_X8_limitedYears
  refine tt_bd (x8_noDonor hw hk) (fun ⟨r1, V2⟩ hr => ref_f hr (fun ok hT => ?_) (fun no hT => tt_some (asks_no (e := 0) ?_ hT rfl (by decide))))
  · have e7 : f_X7_limitedYears n V7 X k = some (.inl (sumN (limI (V8 0) k (V8 0 2).toNat) 28)) := by
      unfold f_X7_limitedYears
      rw [x7_donorY h hk ok, bx_l, c4_countLimitedYears h hn hk]; rfl
    rw [e7]
    refine tt_bd (aid_of hw hT hn) (fun V6 ⟨hA, e0, hp⟩ => ?_)
    refine tt_lp (I := fun s : Int × Int × Sz => (0 ≤ s.2.1 ∧ s.2.1 ≤ 28) ∧ s.2.2 = V6 ∧ s.1 = sumN (limI (V8 0) k (V8 0 2).toNat) s.2.1.toNat) (μ := fun s => (28 - s.2.1).toNat) ?_ n (0, 0, V6) ⟨⟨Int.le_refl _, by show (0 : Int) ≤ 28; decide⟩, rfl, rfl⟩ (by show (28 - (0 : Int)).toNat < n; omega)
    rintro ⟨sm, y, V⟩ rec ⟨⟨y0, y1⟩, eV, es⟩ ih
    simp only at y0 y1 eV es
    subst eV
    rw [bX8_limitedYears_18_e]
    have next : ∀ z : Int, z = limI (V8 0) k (V8 0 2).toNat y → y < 28 → TT (jX8_limitedYears_47 n k rec y V z sm) (Asks cdA (some (Sum.inl (sumN (limI (V8 0) k (V8 0 2).toNat) 28))) V8) := by
      intro z hz hy
      unfold jX8_limitedYears_47
      refine tt_nm (tt_nm (ih (sm + z, y + 1, V) ⟨⟨by show 0 ≤ y + 1; omega, by show y + 1 ≤ 28; omega⟩, rfl, ?_⟩ (by show (28 - (y + 1)).toNat < (28 - y).toNat; omega)))
      show sm + z = sumN (limI (V8 0) k (V8 0 2).toNat) (y + 1).toNat
      rw [sumN_step _ y0, ← es, hz]
    refine tt_ck ⟨by omega, by omega⟩ (tt_ite (fun c => tt_some (asks_aid ?_ hT hA)) (fun c => ?_))
    · rw [es, show y = 28 by omega]; rfl
    · have b2 := sumD_bd hw k 2 y
      have b1 := sumD_bd hw k 1 y
      have hiff := limY_sum hw (d := k) y0
      rw [x8_sumOf hw e0 hn hp hk ⟨by decide, by decide⟩ ⟨by omega, by omega⟩, bd_s, x8_sumOf hw e0 hn hp hk ⟨by decide, by decide⟩ ⟨by omega, by omega⟩, bd_s]
      refine tt_ck ⟨⟨by omega, by omega⟩, ⟨by omega, by omega⟩⟩ (tt_ite (fun c2 => next 0 (limI_f (fun q => ?_)).symm (by omega)) (fun c2 => next 1 (limI_t (hiff.mp (by omega))).symm (by omega)))
      have := hiff.mpr q
      omega
  · unfold f_X7_limitedYears
    rw [x7_donorN h hk no]; rfl
