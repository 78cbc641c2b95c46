/-! one more declaration -/
def openD (w : Rw) (d g : Int) : Int := sumN (fun i => if wPd w (3 * g + i) = d then openS w (3 * g + i) else 0) (wMany w g).toNat
def wishW (w : Rw) (d a b g : Int) : Int := if a ≤ wDay w g ∧ wDay w g ≤ b then openD w d g else wishD w d g
def gainF (w : Rw) (d a b : Int) : Int := donA w (wishW w d a b) d
def baseF (w : Rw) (d : Int) : Int := donA w (wishD w d) d
def totS (w : Rw) : Int := sumPS w (aidS w)
theorem totS_bd {w : Rw} (hw : WF w) : 0 ≤ totS w ∧ totS w ≤ 180 * 999999 := by
  unfold totS
  constructor
  · exact sumPS_nonneg (fun p p0 p1 hp => (aidS_bd hw p0 hp).1)
  · exact sumPS_le (by decide) (fun p p0 p1 hp => by have := aidS_bd hw p0 hp; omega)
theorem donA_congr {w w1 : Rw} {wd wd1 : Int → Int} {d : Int} (hw : WF w) (e2 : w1 2 = w 2) (ed : ∀ g : Int, 0 ≤ g → g < w 2 → wDay w1 g = wDay w g) (el : wLim w1 d = wLim w d) (ew : ∀ g : Int, 0 ≤ g → g < w 2 → wd1 g = wd g) : donA w1 wd1 d = donA w wd d := by
  have a2 := hw.2.1.2.2.1
  have eo : ∀ i : Nat, (i : Int) < w 2 → ordS w1 i = ordS w i := fun i hi => by
    unfold ordS
    rw [e2]
    exact ordA_congr _ (fun g g0 g1 => ed g g0 (by omega)) i (by omega)
  have ey : ∀ g : Int, 0 ≤ g → g < w 2 → yrS w1 g = yrS w g := fun g g0 g1 => by unfold yrS; rw [ed g g0 g1]
  unfold donA
  rw [e2]
  refine sumN_congr (fun i i0 i1 => ?_)
  have hi : ((i.toNat : Nat) : Int) < w 2 := by omega
  have hg := ordS_in hi
  unfold aidO aidG
  rw [eo _ hi, ew _ hg.1 hg.2, el, ey _ hg.1 hg.2]
  congr 2
  refine usedS_congr _ (fun j hj => ?_)
  have hj2 : (j : Int) < w 2 := by omega
  have hgj := ordS_in hj2
  rw [eo _ hj2]
  exact ⟨rfl, ey _ hgj.1 hgj.2, ew _ hgj.1 hgj.2⟩
/-- a row with garbage behind its declarations -/
def Deq (w w1 : Rw) : Prop := (∀ i : Nat, (i : Int) ≠ 20 + w 1 → (i : Int) ≠ 51 + w 1 → (i : Int) ≠ 82 + w 1 → w1 i = w i) ∧ WFn w1
theorem deq_self {w : Rw} (hw : WF w) : Deq w w := ⟨fun _ _ _ _ => rfl, hw.1⟩
theorem deq_leq {w w1 : Rw} (h : Deq w w1) (hw : WF w) (h30 : w 1 ≤ 30) : Leq w w1 := by
  have a1 := hw.2.1.2.1
  have e := h.1
  refine ⟨⟨⟨e 0 (by omega) (by omega) (by omega), e 1 (by omega) (by omega) (by omega), e 2 (by omega) (by omega) (by omega), e 5 (by omega) (by omega) (by omega), e 7 (by omega) (by omega) (by omega)⟩, fun i i0 i1 => e i (by omega) (by omega) (by omega), fun k k0 k1 => ?_, fun i i0 i1 => e i (by omega) (by omega) (by omega)⟩, ⟨e 4 (by omega) (by omega) (by omega), e 6 (by omega) (by omega) (by omega)⟩, fun i i0 i1 => e i (by omega) (by omega) (by omega)⟩
  unfold wWho wFr wTo
  exact ⟨e _ (by omega) (by omega) (by omega), e _ (by omega) (by omega) (by omega), e _ (by omega) (by omega) (by omega)⟩
theorem deq_tot {w w1 : Rw} (h : Deq w w1) (hw : WF w) (h30 : w 1 ≤ 30) : totS w1 = totS w := by
  have hA := (deq_leq h hw h30).1
  unfold totS
  exact aeq_sumPS hA (fun p p0 p1 hp => aeq_aidS hA hw p0 hp)
/-- the row with the declaration -/
def Plus (w : Rw) (d a b : Int) (w2 : Rw) : Prop := w2 1 = w 1 + 1 ∧ (wWho w2 (w 1) = d ∧ wFr w2 (w 1) = a ∧ wTo w2 (w 1) = b) ∧ (∀ i : Nat, i ≠ 1 → (i : Int) ≠ 20 + w 1 → (i : Int) ≠ 51 + w 1 → (i : Int) ≠ 82 + w 1 → w2 i = w i) ∧ WFn w2
theorem plus_geq {w w2 : Rw} {d a b : Int} (h : Plus w d a b w2) (hw : WF w) (h30 : w 1 ≤ 30) : Geq w w2 := by
  have a1 := hw.2.1.2.1
  exact ⟨fun i i0 i1 => h.2.2.1 i i1 (by omega) (by omega) (by omega), fun i i0 i1 => h.2.2.1 i (by omega) (by omega) (by omega) (by omega)⟩
theorem plus_old {w w2 : Rw} {d a b : Int} (h : Plus w d a b w2) (hw : WF w) (h30 : w 1 ≤ 30) {k : Int} (k0 : 0 ≤ k) (k1 : k < w 1) : wWho w2 k = wWho w k ∧ wFr w2 k = wFr w k ∧ wTo w2 k = wTo w k := by
  have e := h.2.2.1
  unfold wWho wFr wTo
  exact ⟨e _ (by omega) (by omega) (by omega) (by omega), e _ (by omega) (by omega) (by omega) (by omega), e _ (by omega) (by omega) (by omega) (by omega)⟩
theorem plus_WF {w w2 : Rw} {d a b : Int} (h : Plus w d a b w2) (hw : WF w) (h30 : w 1 ≤ 30) (hd : 0 ≤ d ∧ d < w 0) (ha : 0 ≤ a ∧ a ≤ 9999) (hb : -1 ≤ b ∧ b ≤ 9999) : WF w2 := by
  have a1 := hw.2.1.2.1
  have e0 : w2 0 = w 0 := h.2.2.1 0 (by decide) (by omega) (by omega) (by omega)
  refine geq_WF (plus_geq h hw h30) hw h.2.2.2 (by rw [h.1]; omega) (fun k k0 k1 => ?_)
  rw [h.1] at k1
  by_cases e : k = w 1
  · subst e
    rw [h.2.1.1, h.2.1.2.1, h.2.1.2.2, e0]
    omega
  · have q := plus_old h hw h30 k0 (by omega)
    rw [q.1, q.2.1, q.2.2, e0]
    exact hw.2.2.2.1 k k0 (by omega)
theorem plus_forB {w w2 : Rw} {d a b d1 t : Int} (h : Plus w d a b w2) (hw : WF w) (h30 : w 1 ≤ 30) : forB w2 d1 t = true ↔ forB w d1 t = true ∨ (d1 = d ∧ a ≤ t ∧ t ≤ b) := by
  have a1 := hw.2.1.2.1
  unfold forB
  rw [anyN_iff, anyN_iff, h.1]
  have ho : ∀ k : Int, 0 ≤ k → k < w 1 → (onB w2 k d1 t = true ↔ onB w k d1 t = true) := fun k k0 k1 => by
    have q := plus_old h hw h30 k0 k1
    rw [onB_iff, onB_iff, q.1, q.2.1, q.2.2]
  have hl : onB w2 (w 1) d1 t = true ↔ d = d1 ∧ a ≤ t ∧ t ≤ b := by
    rw [onB_iff, h.2.1.1, h.2.1.2.1, h.2.1.2.2]
  constructor
  · rintro ⟨k, k0, k1, hk⟩
    by_cases e : k = w 1
    · rw [e] at hk
      have := hl.mp hk
      exact Or.inr ⟨this.1.symm, this.2⟩
    · exact Or.inl ⟨k, k0, by omega, (ho k k0 (by omega)).mp hk⟩
  · rintro (⟨k, k0, k1, hk⟩ | ⟨e1, e2⟩)
    · exact ⟨k, k0, by omega, (ho k k0 (by omega)).mpr hk⟩
    · exact ⟨w 1, a1.1, by omega, hl.mpr ⟨e1.symm, e2⟩⟩
theorem geq_gift {w w1 : Rw} (h : Geq w w1) {g : Int} (g0 : 0 ≤ g) (g1 : g < 60) : wDay w1 g = wDay w g ∧ wAm w1 g = wAm w g ∧ wGot w1 g = wGot w g ∧ wMany w1 g = wMany w g ∧ wBack w1 g = wBack w g :=
  ⟨h.2 _ (by omega) (by omega), h.2 _ (by omega) (by omega), h.2 _ (by omega) (by omega), h.2 _ (by omega) (by omega), h.2 _ (by omega) (by omega)⟩
theorem geq_slot {w w1 : Rw} (h : Geq w w1) {p : Int} (p0 : 0 ≤ p) (p1 : p < 180) : wPd w1 p = wPd w p ∧ wPa w1 p = wPa w p ∧ wPb w1 p = wPb w p ∧ wPc w1 p = wPc w p :=
  ⟨h.2 _ (by omega) (by omega), h.2 _ (by omega) (by omega), h.2 _ (by omega) (by omega), h.2 _ (by omega) (by omega)⟩
theorem geq_open {w w1 : Rw} (h : Geq w w1) {p : Int} (p0 : 0 ≤ p) (p1 : p < 180) : openS w1 p = openS w p ∧ fullS w1 p = fullS w p ∧ partB w1 p = partB w p := by
  obtain ⟨q1, q2, q3, q4, q5⟩ := geq_gift h (g := p / 3) (by omega) (by omega)
  obtain ⟨u1, u2, u3, u4⟩ := geq_slot h p0 p1
  have ef : fullS w1 p = fullS w p := by
    unfold fullS leftS
    rw [u2, u3, h.1 5 (by decide) (by decide)]
  have es : spoB w1 (p / 3) = spoB w (p / 3) := by
    unfold spoB
    rw [q2, q3, h.1 7 (by decide) (by decide)]
  refine ⟨?_, ef, ?_⟩
  · unfold openS
    rw [ef, es]
  · unfold partB
    rw [q4, h.1 2 (by decide) (by decide)]
theorem plus_wishS {w w2 : Rw} {d a b : Int} (h : Plus w d a b w2) (hw : WF w) (h30 : w 1 ≤ 30) {p : Int} (p0 : 0 ≤ p) (p1 : p < 180) : wishS w2 p = if wPd w p = d ∧ a ≤ wDay w (p / 3) ∧ wDay w (p / 3) ≤ b then openS w p else wishS w p := by
  have hG := plus_geq h hw h30
  obtain ⟨q1, -⟩ := geq_gift hG (g := p / 3) (by omega) (by omega)
  obtain ⟨u1, -⟩ := geq_slot hG p0 p1
  have hf := plus_forB (d1 := wPd w p) (t := wDay w (p / 3)) h hw h30
  unfold wishS
  rw [q1, u1, (geq_open hG p0 p1).1]
  by_cases c : wPd w p = d ∧ a ≤ wDay w (p / 3) ∧ wDay w (p / 3) ≤ b
  · rw [if_pos c, if_pos (hf.mpr (Or.inr c))]
  · rw [if_neg c]
    by_cases c2 : forB w (wPd w p) (wDay w (p / 3)) = true
    · rw [if_pos c2, if_pos (hf.mpr (Or.inl c2))]
    · rw [if_neg c2, if_neg (fun q => by
        rcases hf.mp q with x | x
        · exact c2 x
        · exact c x)]
theorem plus_wishD {w w2 : Rw} {d a b : Int} (h : Plus w d a b w2) (hw : WF w) (h30 : w 1 ≤ 30) {g : Int} (g0 : 0 ≤ g) (g1 : g < w 2) (d1 : Int) : wishD w2 d1 g = if d1 = d then wishW w d a b g else wishD w d1 g := by
  have a2 := hw.2.1.2.2.1
  have hgw := hw.2.2.2.2.1 g g0 g1
  have hG := plus_geq h hw h30
  obtain ⟨q1, q2, q3, q4, q5⟩ := geq_gift hG g0 (by omega)
  have ei : ∀ i : Int, 0 ≤ i → i < wMany w g → (if wPd w2 (3 * g + i) = d1 then wishS w2 (3 * g + i) else 0) = if wPd w (3 * g + i) = d1 then (if d1 = d ∧ a ≤ wDay w g ∧ wDay w g ≤ b then openS w (3 * g + i) else wishS w (3 * g + i)) else 0 := by
    intro i i0 i1
    rw [(geq_slot hG (p := 3 * g + i) (by omega) (by omega)).1, plus_wishS h hw h30 (by omega) (by omega), show (3 * g + i) / 3 = g by omega]
    by_cases c : wPd w (3 * g + i) = d1
    · rw [if_pos c, if_pos c, c]
    · rw [if_neg c, if_neg c]
  have e1 : wishD w2 d1 g = sumN (fun i => if wPd w (3 * g + i) = d1 then (if d1 = d ∧ a ≤ wDay w g ∧ wDay w g ≤ b then openS w (3 * g + i) else wishS w (3 * g + i)) else 0) (wMany w g).toNat := by
    unfold wishD
    rw [q4]
    exact sumN_congr (fun i i0 i1 => ei i i0 (by omega))
  rw [e1]
  by_cases c : d1 = d
  · rw [if_pos c]
    unfold wishW
    by_cases c2 : a ≤ wDay w g ∧ wDay w g ≤ b
    · rw [if_pos c2]
      unfold openD
      refine sumN_congr (fun i _ _ => ?_)
      rw [if_pos (show d1 = d ∧ a ≤ wDay w g ∧ wDay w g ≤ b from ⟨c, c2⟩), c]
    · rw [if_neg c2]
      unfold wishD
      refine sumN_congr (fun i _ _ => ?_)
      rw [if_neg (fun q : d1 = d ∧ a ≤ wDay w g ∧ wDay w g ≤ b => c2 q.2), c]
  · rw [if_neg c]
    unfold wishD
    refine sumN_congr (fun i _ _ => ?_)
    rw [if_neg (fun q : d1 = d ∧ a ≤ wDay w g ∧ wDay w g ≤ b => c q.1)]
theorem plus_tot {w w2 : Rw} {d a b : Int} (h : Plus w d a b w2) (hw : WF w) (h30 : w 1 ≤ 30) (hd : 0 ≤ d ∧ d < w 0) (ha : 0 ≤ a ∧ a ≤ 9999) (hb : -1 ≤ b ∧ b ≤ 9999) : totS w2 = totS w + (gainF w d a b - baseF w d) := by
  have a0 := hw.2.1.1
  have a2 := hw.2.1.2.2.1
  have hw2 := plus_WF h hw h30 hd ha hb
  have hG := plus_geq h hw h30
  have e0 : w2 0 = w 0 := hG.1 0 (by decide) (by decide)
  have e2 : w2 2 = w 2 := hG.1 2 (by decide) (by decide)
  have ed : ∀ g : Int, 0 ≤ g → g < w 2 → wDay w2 g = wDay w g := fun g g0 g1 => (geq_gift hG g0 (by omega)).1
  have el : ∀ d1 : Int, 0 ≤ d1 → d1 < w 0 → wLim w2 d1 = wLim w d1 := fun d1 u0 u1 => hG.1 _ (by omega) (by omega)
  have e1 : ∀ d1 : Int, 0 ≤ d1 → d1 < w 0 → donA w2 (wishD w2 d1) d1 = if d1 = d then gainF w d a b else donA w (wishD w d1) d1 := by
    intro d1 u0 u1
    by_cases c : d1 = d
    · subst c
      rw [if_pos rfl]
      unfold gainF
      exact donA_congr hw e2 ed (el d1 u0 u1) (fun g g0 g1 => by rw [plus_wishD h hw h30 g0 g1, if_pos rfl])
    · rw [if_neg c]
      exact donA_congr hw e2 ed (el d1 u0 u1) (fun g g0 g1 => by rw [plus_wishD h hw h30 g0 g1, if_neg c])
  unfold totS
  rw [aid_donors hw2, aid_donors hw, e0, sumN_upd (f := fun d1 => donA w (wishD w d1) d1) (f1 := fun d1 => donA w2 (wishD w2 d1) d1) (y := d) hd.1 (by omega) (fun j j0 j1 jn => by
    show donA w2 (wishD w2 j) j = donA w (wishD w j) j
    rw [e1 j j0 (by omega), if_neg jn])]
  have e5 := e1 d hd.1 hd.2
  rw [if_pos rfl] at e5
  show _ + (donA w2 (wishD w2 d) d - donA w (wishD w d) d) = _
  rw [e5]; rfl
/-! the reference's aid with a span -/
theorem x8_declares {V0 : Sz} {w : Rw} (hw : WF w) (h30 : w 1 ≤ 30) (he : Deq w (V0 0)) {d a b : Int} (hd : rng d) (ha : rng a) (hb : rng b) : TT (f_X8_declares V0 d a b) (fun V => (∀ k : Nat, k ≠ 0 → V k = V0 k) ∧ Plus w d a b (V 0)) := by
  have a1 := hw.2.1.2.1
  have e1 : V0 0 1 = w 1 := he.1 1 (by omega) (by omega) (by omega)
  unfold f_X8_declares
  rw [e1]
  refine tt_nm (tt_ck ⟨by omega, by omega⟩ (tt_nmE (fun V3 e3 => tt_ck ⟨by omega, by omega⟩ (tt_nmE (fun V5 e5 => tt_ck ⟨by omega, by omega⟩ (tt_nmE (fun V7 e7 => tt_nmE (fun V8 e8 => tt_some ?_))))))))
  have c0 : V8 0 = up (up (up (up (V0 0) (20 + w 1).toNat d) (51 + w 1).toNat a) (82 + w 1).toNat b) 1 (w 1 + 1) := by
    have q : V7 0 = up (up (up (V0 0) (20 + w 1).toNat d) (51 + w 1).toNat a) (82 + w 1).toNat b := by rw [e7, uz_at, e5, uz_at, e3, uz_at]
    rw [e8, uz_at, q, up_ne (by omega), up_ne (by omega), up_ne (by omega), e1]
  refine ⟨fun k hk => by rw [e8, uz_ne hk, e7, uz_ne hk, e5, uz_ne hk, e3, uz_ne hk], ?_⟩
  rw [c0]
  refine ⟨by rw [up_at], ⟨?_, ?_, ?_⟩, fun i i1 i2 i3 i4 => ?_, fun i hi => ?_⟩
  · unfold wWho; rw [up_ne (by omega), up_ne (by omega), up_ne (by omega), up_at]
  · unfold wFr; rw [up_ne (by omega), up_ne (by omega), up_at]
  · unfold wTo; rw [up_ne (by omega), up_at]
  · rw [up_ne i1, up_ne (by omega), up_ne (by omega), up_ne (by omega)]
    exact he.1 i i2 i3 i4
  · rw [up_if]
    split
    · constructor <;> omega
    · rw [up_if]
      split
      · exact hb
      · rw [up_if]
        split
        · exact ha
        · rw [up_if]
          split
          · exact hd
          · exact he.2 i hi
theorem x8_aidWith {V0 : Sz} {w : Rw} (hw : WF w) (h30 : w 1 ≤ 30) (he : Deq w (V0 0)) {n : Nat} (hn : 1000 ≤ n) {d a b : Int} (hd : 0 ≤ d ∧ d < w 0) (ha : 0 ≤ a ∧ a ≤ 9999) (hb : -1 ≤ b ∧ b ≤ 9999) : TT (f_X8_aidWith n V0 d a b) (fun r => r.1 = totS w + (gainF w d a b - baseF w d) ∧ (∀ k : Nat, k ≠ 0 → k < 10 ∨ 13 < k → r.2 k = V0 k) ∧ Deq w (r.2 0)) := by
  have a0 := hw.2.1.1
  have a1 := hw.2.1.2.1
  unfold f_X8_aidWith
  refine tt_bd (x8_declares hw h30 he ⟨by omega, by omega⟩ ⟨by omega, by omega⟩ ⟨by omega, by omega⟩) (fun V1 ⟨hk, hp⟩ => ?_)
  refine tt_bd (x8_allAid (plus_WF hp hw h30 hd ha hb) hn) (fun ⟨r, V3⟩ ⟨hr, hA⟩ => ?_)
  have hr : r = sumPS (V1 0) (aidS (V1 0)) := hr
  have e30 : V3 0 = V1 0 := hA.1 0 (by decide) (by decide) (by decide) (by decide)
  refine tt_nmE (fun V4 e4 => tt_some ⟨?_, fun k k0 k1 => ?_, ?_⟩)
  · show r = _
    rw [hr]
    exact plus_tot hp hw h30 hd ha hb
  · show V4 k = V0 k
    rw [e4, uz_ne k0, show V3 k = V1 k from hA.1 k (by omega) (by omega) (by omega) (by omega), hk k k0]
  · show Deq w (V4 0)
    have c0 : V4 0 = up (V1 0) 1 (w 1) := by
      rw [e4, uz_at, e30, hp.1, show w 1 + 1 - 1 = w 1 by omega]
    rw [c0]
    refine ⟨fun i i2 i3 i4 => ?_, fun i hi => ?_⟩
    · rw [up_if]
      split
      · rename_i e; rw [e]
      · exact hp.2.2.1 i (by assumption) i2 i3 i4
    · rw [up_if]
      split
      · constructor <;> omega
      · exact hp.2.2.2 i hi
theorem x8_allAidD {V0 : Sz} {w : Rw} (hw : WF w) (h30 : w 1 ≤ 30) (he : Deq w (V0 0)) {n : Nat} (hn : 1000 ≤ n) : TT (f_X8_allAid n V0) (fun r => r.1 = totS w ∧ (∀ k : Nat, k < 10 ∨ 13 < k → r.2 k = V0 k)) := by
  refine tt_mono (x8_allAid (leq_WF (deq_leq he hw h30) hw he.2) hn) (fun ⟨r, V3⟩ ⟨hr, hA⟩ => ⟨?_, fun k hk => hA.1 k (by omega) (by omega) (by omega) (by omega)⟩)
  have hr : r = totS (V0 0) := hr
  show r = totS w
  rw [hr, deq_tot he hw h30]
