/-! rows that say the same of the aid -/
def Aeq (w w1 : Rw) : Prop := (w1 0 = w 0 ∧ w1 1 = w 1 ∧ w1 2 = w 2 ∧ w1 5 = w 5 ∧ w1 7 = w 7) ∧ (∀ i : Nat, 10 ≤ i → i < 20 → w1 i = w i) ∧ (∀ k : Int, 0 ≤ k → k < w 1 → wWho w1 k = wWho w k ∧ wFr w1 k = wFr w k ∧ wTo w1 k = wTo w k) ∧ (∀ i : Nat, 113 ≤ i → i < 953 → w1 i = w i)
/-- .. and of all else -/
def Leq (w w1 : Rw) : Prop := Aeq w w1 ∧ (w1 4 = w 4 ∧ w1 6 = w 6) ∧ ∀ i : Nat, 953 ≤ i → i < 1233 → w1 i = w i
theorem aeq_gift {w w1 : Rw} (h : Aeq w w1) {g : Int} (g0 : 0 ≤ g) (g1 : g < 60) : wDay w1 g = wDay w g ∧ wAm w1 g = wAm w g ∧ wGot w1 g = wGot w g ∧ wMany w1 g = wMany w g ∧ wBack w1 g = wBack w g := by
  have h3 := h.2.2.2
  unfold wDay wAm wGot wMany wBack
  exact ⟨h3 _ (by omega) (by omega), h3 _ (by omega) (by omega), h3 _ (by omega) (by omega), h3 _ (by omega) (by omega), h3 _ (by omega) (by omega)⟩
theorem aeq_slot {w w1 : Rw} (h : Aeq w w1) {p : Int} (p0 : 0 ≤ p) (p1 : p < 180) : wPd w1 p = wPd w p ∧ wPa w1 p = wPa w p ∧ wPb w1 p = wPb w p := by
  have h3 := h.2.2.2
  unfold wPd wPa wPb
  exact ⟨h3 _ (by omega) (by omega), h3 _ (by omega) (by omega), h3 _ (by omega) (by omega)⟩
theorem aeq_lim {w w1 : Rw} (h : Aeq w w1) {d : Int} (d0 : 0 ≤ d) (d1 : d < 10) : wLim w1 d = wLim w d := by
  unfold wLim
  exact h.2.1 _ (by omega) (by omega)
theorem anyN_congr {p q : Int → Bool} : ∀ {n : Nat}, (∀ k : Int, 0 ≤ k → k < (n : Int) → p k = q k) → anyN p n = anyN q n := by
  intro n
  induction n with
  | zero => intro _; rfl
  | succ n ih =>
    intro h
    show (anyN p n || p (n : Int)) = (anyN q n || q (n : Int))
    rw [ih (fun k a b => h k a (by omega)), h n (by omega) (by omega)]
theorem aeq_onB {w w1 : Rw} (h : Aeq w w1) {k : Int} (k0 : 0 ≤ k) (k1 : k < w 1) (d t : Int) : onB w1 k d t = onB w k d t := by
  have h2 := h.2.2.1 k k0 k1
  unfold onB
  rw [h2.1, h2.2.1, h2.2.2]
theorem aeq_forB {w w1 : Rw} (h : Aeq w w1) (d t : Int) : forB w1 d t = forB w d t := by
  unfold forB
  rw [h.1.2.1]
  exact anyN_congr (fun k a b => aeq_onB h a (by omega) d t)
theorem aeq_spoB {w w1 : Rw} (h : Aeq w w1) {g : Int} (g0 : 0 ≤ g) (g1 : g < 60) : spoB w1 g = spoB w g := by
  have e := aeq_gift h g0 g1
  unfold spoB
  rw [e.2.1, e.2.2.1, h.1.2.2.2.2]
theorem aeq_partB {w w1 : Rw} (h : Aeq w w1) {p : Int} (p0 : 0 ≤ p) (p1 : p < 180) : partB w1 p = partB w p := by
  have e := aeq_gift h (g := p / 3) (by omega) (by omega)
  unfold partB
  rw [e.2.2.2.1, h.1.2.2.1]
theorem aeq_fullS {w w1 : Rw} (h : Aeq w w1) {p : Int} (p0 : 0 ≤ p) (p1 : p < 180) : leftS w1 p = leftS w p ∧ fullS w1 p = fullS w p := by
  have e := aeq_slot h p0 p1
  unfold fullS leftS
  rw [e.2.1, e.2.2, h.1.2.2.2.1]
  exact ⟨rfl, rfl⟩
theorem aeq_wishS {w w1 : Rw} (h : Aeq w w1) {p : Int} (p0 : 0 ≤ p) (p1 : p < 180) : openS w1 p = openS w p ∧ wishS w1 p = wishS w p := by
  have e := aeq_gift h (g := p / 3) (by omega) (by omega)
  have es := aeq_slot h p0 p1
  have eo : openS w1 p = openS w p := by
    unfold openS
    rw [aeq_spoB h (by omega) (by omega), (aeq_fullS h p0 p1).2]
  refine ⟨eo, ?_⟩
  unfold wishS
  rw [eo, aeq_forB h, e.1, es.1]
theorem aeq_ordS {w w1 : Rw} (h : Aeq w w1) (hw : WF w) {i : Nat} (hi : (i : Int) < w 2) : ordS w1 i = ordS w i := by
  have a2 := hw.2.1.2.2.1
  unfold ordS
  rw [h.1.2.2.1]
  exact ordA_congr _ (fun g g0 g1 => (aeq_gift h g0 (by omega)).1) i (by omega)
theorem aeq_yrS {w w1 : Rw} (h : Aeq w w1) {g : Int} (g0 : 0 ≤ g) (g1 : g < 60) : yrS w1 g = yrS w g := by
  unfold yrS
  rw [(aeq_gift h g0 g1).1]
theorem aeq_wishD {w w1 : Rw} (h : Aeq w w1) (hw : WF w) (d : Int) {g : Int} (g0 : 0 ≤ g) (g1 : g < w 2) : wishD w1 d g = wishD w d g := by
  have a2 := hw.2.1.2.2.1
  have e := aeq_gift h g0 (by omega)
  unfold wishD
  rw [e.2.2.2.1]
  refine sumN_congr (fun i i0 i1 => ?_)
  have hp := part_of hw g0 g1 i0 (by omega)
  rw [(aeq_slot h hp.1.1 hp.1.2).1, (aeq_wishS h hp.1.1 hp.1.2).2]
theorem aeq_usS {w w1 : Rw} (h : Aeq w w1) (hw : WF w) {d : Int} (d0 : 0 ≤ d) (d1 : d < 10) (y : Int) {i : Nat} (hi : (i : Int) ≤ w 2) : usS w1 d y i = usS w d y i := by
  have a2 := hw.2.1.2.2.1
  unfold usS
  rw [aeq_lim h d0 d1]
  refine usedS_congr i (fun j hj => ?_)
  have hg := ordS_in (w := w) (q := j) (by omega)
  have e := aeq_ordS h hw (i := j) (by omega)
  rw [e]
  exact ⟨rfl, aeq_yrS h hg.1 (by omega), aeq_wishD h hw d hg.1 hg.2⟩
theorem aeq_plcS {w w1 : Rw} (h : Aeq w w1) (hw : WF w) (g : Int) : plcS w1 g = plcS w g := by
  have a2 := hw.2.1.2.2.1
  unfold plcS
  rw [h.1.2.2.1]
  congr 1
  refine sumN_congr (fun i i0 i1 => ?_)
  rw [aeq_ordS h hw (i := i.toNat) (by omega)]
theorem aeq_aidS {w w1 : Rw} (h : Aeq w w1) (hw : WF w) {p : Int} (p0 : 0 ≤ p) (hp : partB w p = true) : aidS w1 p = aidS w p := by
  have a2 := hw.2.1.2.2.1
  have a0 := hw.2.1.1
  have hs := part_split p0 hp
  have hpt := part_of hw hs.1 hs.2.1 hs.2.2.1 hs.2.2.2.1
  rw [hs.2.2.2.2] at hpt
  have hpw := hw.2.2.2.2.2.1 _ _ hs.1 hs.2.1 hs.2.2.1 hs.2.2.2.1
  rw [hs.2.2.2.2] at hpw
  have e := (aeq_slot h hpt.1.1 hpt.1.2).1
  obtain ⟨q, hq, eq⟩ := ordA_onto (wDay w) (n := (w 2).toNat) hs.1 (by omega)
  have eq : ordS w q = p / 3 := eq
  have epl := plcS_ord (w := w) (q := q) (by omega)
  rw [eq] at epl
  unfold aidS aidP
  rw [aeq_plcS h hw, epl, (aeq_wishS h hpt.1.1 hpt.1.2).2, e, aeq_lim h hpw.1 (by omega), aeq_yrS h hs.1 (by omega), aeq_usS h hw hpw.1 (by omega) _ (by omega)]
theorem aeq_sumPS {w w1 : Rw} (h : Aeq w w1) {F F1 : Int → Int} (hF : ∀ p : Int, 0 ≤ p → p < 180 → partB w p = true → F1 p = F p) : sumPS w1 F1 = sumPS w F := by
  unfold sumPS
  refine sumN_congr (fun p p0 p1 => ?_)
  rw [aeq_partB h p0 (by omega)]
  by_cases c : partB w p = true
  · rw [if_pos c, if_pos c]; exact hF p p0 (by omega) c
  · rw [if_neg c, if_neg c]
theorem leq_wPc {w w1 : Rw} (h : Leq w w1) {p : Int} (p0 : 0 ≤ p) (p1 : p < 180) : wPc w1 p = wPc w p := by
  unfold wPc
  exact h.2.2 _ (by omega) (by omega)
theorem leq_wCl {w w1 : Rw} (h : Leq w w1) {c q : Int} (c0 : 0 ≤ c) (c1 : c < 20) (q0 : 0 ≤ q) (q1 : q < 5) : wCl w1 c q = wCl w c q := by
  unfold wCl
  exact h.2.2 _ (by omega) (by omega)
theorem leq_WF {w w1 : Rw} (h : Leq w w1) (hw : WF w) (hn : WFn w1) : WF w1 := by
  obtain ⟨h1, h2, h3⟩ := h
  have hL : Leq w w1 := ⟨h1, h2, h3⟩
  have a0 := hw.2.1.1
  have a1 := hw.2.1.2.1
  have a2 := hw.2.1.2.2.1
  obtain ⟨-, ha, hd, hk, hg, hp, hx, hs, hc⟩ := hw
  have a4 := ha.2.2.2.1
  obtain ⟨e0, e1, e2, e5, e7⟩ := h1.1
  refine ⟨hn, ?_, fun d d0 d1 => ?_, fun k k0 k1 => ?_, fun g g0 g1 => ?_, fun g i g0 g1 i0 i1 => ?_, fun g i j g0 g1 i0 ij j1 => ?_, fun g g0 g1 hm => ?_, fun c c0 c1 => ?_⟩
  · unfold WFa at *
    rw [e0, e1, e2, e5, e7, h2.1, h2.2]; exact ha
  · rw [e0] at d1
    rw [aeq_lim h1 d0 (by omega)]; exact hd d d0 d1
  · rw [e1] at k1
    have e := h1.2.2.1 k k0 k1
    rw [e.1, e.2.1, e.2.2, e0]; exact hk k k0 k1
  · rw [e2] at g1
    have e := aeq_gift h1 g0 (by omega)
    rw [e.1, e.2.1, e.2.2.1, e.2.2.2.1, e.2.2.2.2]; exact hg g g0 g1
  · rw [e2] at g1
    have e := aeq_gift h1 g0 (by omega)
    have hgg := hg g g0 g1
    rw [e.2.2.2.1] at i1
    have es := aeq_slot h1 (p := 3 * g + i) (by omega) (by omega)
    rw [es.1, es.2.1, es.2.2, e0, leq_wPc hL (by omega) (by omega)]; exact hp g i g0 g1 i0 i1
  · rw [e2] at g1
    have e := aeq_gift h1 g0 (by omega)
    have hgg := hg g g0 g1
    rw [e.2.2.2.1] at j1
    rw [(aeq_slot h1 (p := 3 * g + i) (by omega) (by omega)).1, (aeq_slot h1 (p := 3 * g + j) (by omega) (by omega)).1]
    exact hx g i j g0 g1 i0 ij j1
  · rw [e2] at g1
    have e := aeq_gift h1 g0 (by omega)
    have hgg := hg g g0 g1
    rw [e.2.2.2.1] at hm ⊢
    rw [e.2.1, e.2.2.2.2]
    have q := hs g g0 g1 hm
    rw [← q.1, ← q.2]
    exact ⟨sumN_congr (fun i i0 i1 => (aeq_slot h1 (by omega) (by omega)).2.1), sumN_congr (fun i i0 i1 => (aeq_slot h1 (by omega) (by omega)).2.2)⟩
  · rw [h2.1] at c1
    rw [leq_wCl hL c0 (by omega) (by decide) (by decide)]; exact hc c c0 c1
theorem leq_LR {V : Sz} {w w1 : Rw} (h : Leq w w1) (hL : LR V w) (hn : WFn w1) : LR V w1 := by
  obtain ⟨⟨ha, hd, hk, hg, hp, ho, hc⟩, hv, hw, h30⟩ := hL
  have hw1 := leq_WF h hw hn
  have h1 := h.1
  have a0 := hw.2.1.1
  have a1 := hw.2.1.2.1
  have a2 := hw.2.1.2.2.1
  have a4 := hw.2.1.2.2.2.1
  obtain ⟨e0, e1, e2, e5, e7⟩ := h1.1
  refine ⟨⟨?_, fun d d0 d1 => ?_, fun k k0 k1 => ?_, fun g g0 g1 => ?_, fun p p0 p1 hb => ?_, fun i hi => ?_, fun c q c0 c1 q0 q1 => ?_⟩, fun p p0 p1 hb => ?_, hw1, by rw [e1]; exact h30⟩
  · unfold LRa at *
    rw [e0, e1, e2, e5, e7, h.2.1.1, h.2.1.2]; exact ha
  · rw [e0] at d1
    rw [aeq_lim h1 d0 (by omega)]; exact hd d d0 d1
  · rw [e1] at k1
    have e := h1.2.2.1 k k0 k1
    rw [e.1, e.2.1, e.2.2]; exact hk k k0 k1
  · rw [e2] at g1
    have e := aeq_gift h1 g0 (by omega)
    rw [e.1, e.2.1, e.2.2.1, e.2.2.2.1, e.2.2.2.2]; exact hg g g0 g1
  · rw [aeq_partB h1 p0 p1] at hb
    have es := aeq_slot h1 p0 p1
    rw [es.1, es.2.1, es.2.2, leq_wPc h p0 p1]; exact hp p p0 p1 hb
  · rw [e2] at hi
    rw [aeq_ordS h1 hw hi]; exact ho i hi
  · rw [h.2.1.1] at c1
    rw [leq_wCl h c0 (by omega) q0 q1]; exact hc c q c0 c1 q0 q1
  · rw [aeq_partB h1 p0 p1] at hb
    have e := aeq_wishS h1 p0 p1
    rw [e.1, e.2, aeq_aidS h1 hw p0 hb]; exact hv p p0 p1 hb
theorem leq_all {w w1 : Rw} (hw : WF w) (h : ∀ i : Nat, i < 1233 → w1 i = w i) : Leq w w1 := by
  have a1 := hw.2.1.2.1
  refine ⟨⟨⟨h 0 (by decide), h 1 (by decide), h 2 (by decide), h 5 (by decide), h 7 (by decide)⟩, fun i _ i1 => h i (by omega), fun k k0 k1 => ?_, fun i _ i1 => h i (by omega)⟩, ⟨h 4 (by decide), h 6 (by decide)⟩, fun i _ i1 => h i i1⟩
  unfold wWho wFr wTo
  exact ⟨h _ (by omega), h _ (by omega), h _ (by omega)⟩
theorem wfn_all {w w1 : Rw} (hw : WFn w) (h : ∀ i : Nat, i < 1233 → w1 i = w i) : WFn w1 := fun i hi => by rw [h i hi]; exact hw i hi
