/-! a part more, in the class -/
theorem up_same {T : Nat → Int} {k : Nat} {x : Int} (h : T k = x) : up T k x = T := by
  funext j
  rw [up_if]
  split
  · rename_i e; rw [e, h]
  · rfl
/-- what addPart leaves, of a ledger's gifts -/
def PartF (V0 V : Sz) (g c d x A : Int) (a : Int → Int) : Prop := (∀ k : Nat, k < 5 ∨ k = 6 → V k = V0 k) ∧ V 5 = up (V0 5) g.toNat (c + 1) ∧ V 7 = up (V0 7) (3 * g + c).toNat d ∧ V 8 = up (V0 8) (3 * g + c).toNat x ∧ V 10 = up (V0 10) (3 * g + c).toNat 0 ∧ V 11 = up (V0 11) (3 * g + c).toNat 0 ∧ ∀ p : Nat, V 9 p = if 3 * g ≤ (p : Int) ∧ (p : Int) < 3 * g + (c + 1) then shP A a (c + 1) ((p : Int) - 3 * g) else V0 9 p
theorem c3_addPart {V0 : Sz} {g c d x A N : Int} {a : Int → Int} (g0 : 0 ≤ g) (g1 : g < N) (hN : V0 0 0 = N ∧ N ≤ 60) (hc : 0 ≤ c ∧ c < 3) (hA : 0 ≤ A ∧ A ≤ 999999) (ha : ∀ j : Int, 0 ≤ j → j < c + 1 → 1 ≤ a j ∧ a j ≤ 9) (e5 : V0 5 g.toNat = c) (e2 : V0 2 g.toNat = A) (e8 : ∀ j : Int, 0 ≤ j → j < c → V0 8 (3 * g + j).toNat = a j) (ex : x = a c) {n : Nat} (hn : 100 ≤ n) : TT (f_X3_addPart n V0 g d x) (fun V => PartF V0 V g c d x A a) := by
  unfold f_X3_addPart
  rw [hN.1, e5]
  refine tt_ck ⟨by omega, by omega⟩ (tt_f (by omega) (tt_ck ⟨by omega, by omega⟩ (tt_f (by omega) (tt_ck ⟨g0, by omega⟩ (tt_ck ⟨by omega, by omega⟩ (tt_t hc.2 (tt_nmE (fun sl esl => ?_))))))))
  have esl : sl = 3 * g + c := by omega
  refine tt_ck ⟨by omega, by omega⟩ (tt_nmE (fun V7 e7 => tt_nmE (fun V8 e8' => tt_nmE (fun V9 e9 => tt_nmE (fun V10 e10 => tt_nmE (fun V11 e11 => ?_))))))
  rw [esl] at e7 e8' e9 e10
  have k5 : V10 5 g.toNat = c := by rw [e10, uz_ne (by decide), e9, uz_ne (by decide), e8', uz_ne (by decide), e7, uz_ne (by decide)]; exact e5
  have f5 : V11 5 = up (V0 5) g.toNat (c + 1) := by
    have : V10 5 = V0 5 := by rw [e10, uz_ne (by decide), e9, uz_ne (by decide), e8', uz_ne (by decide), e7, uz_ne (by decide)]
    rw [e11, uz_at, k5, this]
  have f8 : V11 8 = up (V0 8) (3 * g + c).toNat x := by rw [e11, uz_ne (by decide), e10, uz_ne (by decide), e9, uz_ne (by decide), e8', uz_at, e7, uz_ne (by decide)]
  have f7 : V11 7 = up (V0 7) (3 * g + c).toNat d := by rw [e11, uz_ne (by decide), e10, uz_ne (by decide), e9, uz_ne (by decide), e8', uz_ne (by decide), e7, uz_at]
  have f10 : V11 10 = up (V0 10) (3 * g + c).toNat 0 := by rw [e11, uz_ne (by decide), e10, uz_ne (by decide), e9, uz_at, e8', uz_ne (by decide), e7, uz_ne (by decide)]
  have f11 : V11 11 = up (V0 11) (3 * g + c).toNat 0 := by rw [e11, uz_ne (by decide), e10, uz_at, e9, uz_ne (by decide), e8', uz_ne (by decide), e7, uz_ne (by decide)]
  have fk : ∀ k : Nat, k < 5 ∨ k = 6 ∨ k = 9 → V11 k = V0 k := fun k hk => by rw [e11, uz_ne (by omega), e10, uz_ne (by omega), e9, uz_ne (by omega), e8', uz_ne (by omega), e7, uz_ne (by omega)]
  refine tt_bd (c3_shareOut (m := c + 1) (A := A) (a := a) g0 (by omega) ⟨by omega, by omega⟩ hA ha (by rw [f5, up_at]) (by rw [fk 2 (by decide)]; exact e2) (fun j j0 j1 => ?_) hn) (fun V ⟨hk, h9⟩ => tt_some ⟨fun k hk2 => ?_, ?_, ?_, ?_, ?_, ?_, fun p => ?_⟩)
  · rw [f8, up_if]
    by_cases e : j = c
    · rw [if_pos (by rw [e]), ex, e]
    · rw [if_neg (by omega)]; exact e8 j j0 (by omega)
  · rw [hk k (by omega), fk k (by omega)]
  · rw [hk 5 (by decide), f5]
  · rw [hk 7 (by decide), f7]
  · rw [hk 8 (by decide), f8]
  · rw [hk 10 (by decide), f10]
  · rw [hk 11 (by decide), f11]
  · rw [h9 p, fk 9 (by decide)]
theorem c3_divide {V0 : Sz} {g o f s A N : Int} (g0 : 0 ≤ g) (g1 : g < N) (hN : V0 0 0 = N ∧ N ≤ 60) (hA : 0 ≤ A ∧ A ≤ 999999) (e5 : V0 5 g.toNat = 1) (e2 : V0 2 g.toNat = A) (hf : 1 ≤ f ∧ f ≤ 9) (hs : 1 ≤ s ∧ s ≤ 9) {n : Nat} (hn : 100 ≤ n) : TT (f_X3_divide n V0 g f o s) (fun V => PartF (uz V0 8 (3 * g).toNat f) V g 1 o s A (wei f s 0)) := by
  have hwt := wei_two hf hs
  unfold f_X3_divide
  rw [show g * 3 = 3 * g by omega]
  refine tt_ck ⟨by omega, by omega⟩ (tt_nmE (fun V2 e2' => ?_))
  refine tt_bd (c3_addPart (c := 1) (A := A) (N := N) (a := wei f s 0) g0 g1 ⟨by rw [e2', uz_ne (by decide)]; exact hN.1, hN.2⟩ ⟨by decide, by decide⟩ hA hwt.1 (by rw [e2', uz_ne (by decide)]; exact e5) (by rw [e2', uz_ne (by decide)]; exact e2) (fun j j0 j1 => ?_) rfl hn) (fun V hV => tt_some (by rw [← e2']; exact hV))
  have ej : j = 0 := by omega
  subst ej
  rw [Int.add_zero, e2', uz_at, up_at]; rfl
theorem div_LR0 {V V1 V6 : Sz} {w w1 : Rw} {g o f s : Int} (h : LR0 V w) (hw : WF w) (hr : SplRow w g o f s w1) (g0 : 0 ≤ g) (g1 : g < w 2) (hm : wMany w g = 1) (hz : wPb w (3 * g + 1) = 0 ∧ wPc w (3 * g + 1) = 0) (hv : ∀ k : Nat, k < 9 ∨ 20 < k → k ≤ 22 → V1 k = V k) (h6 : ∀ k : Nat, k < 12 → V1 (k + 9) = V6 k) (hF : PartF (uz (sv 9 V) 8 (3 * g).toNat f) V6 g 1 o s (wAm w g) (wei f s 0)) : LR0 V1 w1 := by
  have a2 := hw.2.1.2.2.1
  obtain ⟨hG, e2, ⟨q1, q2, q3, q4, q5⟩, ⟨d0, d1⟩, hpa, hpb⟩ := spl_at hr g0 (by omega)
  obtain ⟨hk, f5, f7, f8, f10, f11, f9⟩ := hF
  have hgl := h.2.2.2.1 g g0 g1
  have hb0 := part_B hw (g := g) (i := 0) g0 g1 (by decide) (by omega)
  rw [Int.add_zero] at hb0
  have hpl := h.2.2.2.2.1 (3 * g) (by omega) (by omega) hb0
  have k : ∀ j : Nat, j < 5 ∨ j = 6 → V1 (j + 9) = V (j + 9) := fun j hj => by rw [h6 j (by omega), hk j hj, uz_ne (by omega)]; rfl
  have k14 : V1 14 = up (V 14) g.toNat 2 := by rw [h6 5 (by decide), f5, uz_ne (by decide)]; rfl
  have k16 : V1 16 = up (V 16) (3 * g + 1).toNat o := by rw [h6 7 (by decide), f7, uz_ne (by decide)]; rfl
  have k19 : V1 19 = up (V 19) (3 * g + 1).toNat 0 := by rw [h6 10 (by decide), f10, uz_ne (by decide)]; rfl
  have k20 : V1 20 = up (V 20) (3 * g + 1).toNat 0 := by rw [h6 11 (by decide), f11, uz_ne (by decide)]; rfl
  have k18 : ∀ p : Nat, V1 18 p = if 3 * g ≤ (p : Int) ∧ (p : Int) < 3 * g + (1 + 1) then shP (wAm w g) (wei f s 0) (1 + 1) ((p : Int) - 3 * g) else V 18 p := fun p => by rw [h6 9 (by decide), f9 p, uz_ne (by decide)]; rfl
  have e9 : V 9 0 = w 2 := h.1.2.2.2.2.2.1
  refine gq_LR0 h hw hG g0 (Or.inl ⟨e2, g1⟩) (by rw [e2]; exact a2.2) hv (by rw [k 0 (by decide), e9, e2]) (fun j j0 j1 jg => ?_) (fun p p0 p1 pg => ?_) (fun i hi => ?_) ?_ (fun i i0 i1 i3 => ?_)
  · rw [k 1 (by decide), k 2 (by decide), k 3 (by decide), k 4 (by decide), k14, up_ne (by omega)]
    exact ⟨rfl, rfl, rfl, rfl, rfl⟩
  · rw [k16, k19, k20, k18, up_ne (by omega), up_ne (by omega), up_ne (by omega), if_neg (by omega)]
    exact ⟨rfl, rfl, rfl, rfl⟩
  · rw [e2] at hi
    rw [k 6 (by decide), ordS_same a2.1 e2 (fun j j0 j1 => by
      by_cases e : j = g
      · rw [e]; exact q1
      · exact (hG.2.1 j j0 (by omega) e).1) hi]
    exact h.2.2.2.2.2.1 i hi
  · rw [k 1 (by decide), k 2 (by decide), k 3 (by decide), k 4 (by decide), k14, up_at, q1, q2, q3, q4, q5]
    exact ⟨hgl.1, hgl.2.1, hgl.2.2.1, hgl.2.2.2.1, rfl⟩
  · rw [q4] at i1
    have hp2 := hpb i i0 i3
    rw [hpa i i0 i1, hp2.1, hp2.2, k16, k19, k20, k18, if_pos (by omega), show (((3 * g + i).toNat : Nat) : Int) - 3 * g = i by omega]
    have hi2 : i = 0 ∨ i = 1 := by omega
    rcases hi2 with e | e
    · subst e
      rw [Int.add_zero, up_ne (by omega), up_ne (by omega), up_ne (by omega), d0]
      exact ⟨hpl.1, rfl, hpl.2.2.1, hpl.2.2.2⟩
    · subst e
      rw [up_at, up_at, up_at, d1, hz.1, hz.2]
      exact ⟨rfl, rfl, rfl, rfl⟩
def canB (w : Rw) (g : Int) : Bool := decide (wMany w g = 1 ∧ wBack w g = 0 ∧ wPc w (3 * g) = 0)
def donB (w : Rw) (g o : Int) : Bool := decide (wMany w g = 1 ∧ wPd w (3 * g) = o)
theorem x8_canSplit {V : Sz} (hw : WF (V 0)) {g : Int} (g0 : 0 ≤ g) (g1 : g < V 0 2) : f_X8_canSplit V g = some (canB (V 0) g) := by
  have a2 := hw.2.1.2.2.1
  have hgw := hw.2.2.2.2.1 g g0 g1
  have em : V 0 (293 + g).toNat = wMany (V 0) g := rfl
  have eb : V 0 (353 + g).toNat = wBack (V 0) g := rfl
  have hrc := hw.1 (953 + (3 * g + 0)).toNat (by omega)
  have ec : V 0 (953 + (3 * g + 0)).toNat = wPc (V 0) (3 * g) := by rw [Int.add_zero]; rfl
  unfold f_X8_canSplit canB
  rw [em, eb, ck_t ⟨by omega, by omega⟩, ck_t ⟨by omega, by omega⟩, ck_t ⟨by omega, by omega⟩, ck_t ⟨by omega, by omega⟩, x8_partOf, bd_s, ck_t ⟨by omega, by omega⟩, ck_t hrc, ec]
  by_cases c1 : wMany (V 0) g = 1
  · rw [if_pos c1]
    by_cases c2 : wBack (V 0) g = 0
    · rw [if_pos c2]
      by_cases c3 : wPc (V 0) (3 * g) = 0
      · rw [if_pos c3, decide_eq_true ⟨c1, c2, c3⟩]
      · rw [if_neg c3, decide_eq_false (fun q => c3 q.2.2)]
    · rw [if_neg c2, decide_eq_false (fun q => c2 q.2.1)]
  · rw [if_neg c1, decide_eq_false (fun q => c1 q.1)]
theorem x8_isDonorOf {V : Sz} (hw : WF (V 0)) {g o : Int} (g0 : 0 ≤ g) (g1 : g < V 0 2) (ho : rng o) : f_X8_isDonorOf V g o = some (donB (V 0) g o) := by
  have a2 := hw.2.1.2.2.1
  have hgw := hw.2.2.2.2.1 g g0 g1
  have em : V 0 (293 + g).toNat = wMany (V 0) g := rfl
  have hrc := hw.1 (413 + (3 * g + 0)).toNat (by omega)
  have ec : V 0 (413 + (3 * g + 0)).toNat = wPd (V 0) (3 * g) := by rw [Int.add_zero]; rfl
  unfold f_X8_isDonorOf donB
  rw [em, ck_t ⟨by omega, by omega⟩, ck_t ⟨by omega, by omega⟩, x8_partOf, bd_s, ck_t ⟨by omega, by omega⟩, ck_t ⟨hrc, ho⟩, ec]
  by_cases c1 : wMany (V 0) g = 1
  · rw [if_pos c1]
    by_cases c3 : wPd (V 0) (3 * g) = o
    · rw [if_pos c3, decide_eq_true ⟨c1, c3⟩]
    · rw [if_neg c3, decide_eq_false (fun q => c3 q.2)]
  · rw [if_neg c1, decide_eq_false (fun q => c1 q.1)]
theorem c3_isWhole {V : Sz} {w : Rw} (h : LR0 V w) (hw : WF w) {g : Int} (g0 : 0 ≤ g) (g1 : g < w 2) : f_X3_isWhole (sv 9 V) g = some (canB w g) := by
  have a2 := hw.2.1.2.2.1
  have hgw := hw.2.2.2.2.1 g g0 g1
  have hgl := h.2.2.2.1 g g0 g1
  have e5 : sv 9 V 5 g.toNat = wMany w g := hgl.2.2.2.2
  have e4 : sv 9 V 4 g.toNat = wBack w g := hgl.2.2.2.1
  unfold f_X3_isWhole canB
  rw [e5, e4, ck_t ⟨g0, by omega⟩, ck_t ⟨by omega, by omega⟩, ck_t ⟨by omega, by omega⟩]
  by_cases c1 : wMany w g = 1
  · have hb := part_B hw (g := g) (i := 0) g0 g1 (by decide) (by omega)
    rw [Int.add_zero] at hb
    have e11 : sv 9 V 11 (g * 3).toNat = wPc w (3 * g) := by rw [Int.mul_comm]; exact (h.2.2.2.2.1 (3 * g) (by omega) (by omega) hb).2.2.2
    have hcb := wPc_bd hw (show 0 ≤ 3 * g by omega) hb
    rw [if_pos c1]
    by_cases c2 : wBack w g = 0
    · rw [if_pos c2, ck_t ⟨by omega, by omega⟩, e11, ck_t ⟨by omega, by omega⟩]
      by_cases c3 : wPc w (3 * g) = 0
      · rw [if_pos c3, decide_eq_true ⟨c1, c2, c3⟩]
      · rw [if_neg c3, decide_eq_false (fun q => c3 q.2.2)]
    · rw [if_neg c2, decide_eq_false (fun q => c2 q.2.1)]
  · rw [if_neg c1, decide_eq_false (fun q => c1 q.1)]
theorem c3_isAllOf {V : Sz} {w : Rw} (h : LR0 V w) (hw : WF w) {g o : Int} (g0 : 0 ≤ g) (g1 : g < w 2) (ho : rng o) : f_X3_isAllOf (sv 9 V) g o = some (donB w g o) := by
  have a0 := hw.2.1.1
  have a2 := hw.2.1.2.2.1
  have hgw := hw.2.2.2.2.1 g g0 g1
  have hgl := h.2.2.2.1 g g0 g1
  have e5 : sv 9 V 5 g.toNat = wMany w g := hgl.2.2.2.2
  unfold f_X3_isAllOf donB
  rw [e5, ck_t ⟨g0, by omega⟩, ck_t ⟨by omega, by omega⟩]
  by_cases c1 : wMany w g = 1
  · have hb := part_B hw (g := g) (i := 0) g0 g1 (by decide) (by omega)
    have hpw := hw.2.2.2.2.2.1 g 0 g0 g1 (by decide) (by omega)
    rw [Int.add_zero] at hb hpw
    have e7 : sv 9 V 7 (g * 3).toNat = wPd w (3 * g) := by rw [Int.mul_comm]; exact (h.2.2.2.2.1 (3 * g) (by omega) (by omega) hb).1
    rw [if_pos c1, ck_t ⟨by omega, by omega⟩, e7, ck_t ⟨⟨by omega, by omega⟩, ho⟩]
    by_cases c3 : wPd w (3 * g) = o
    · rw [if_pos c3, decide_eq_true ⟨c1, c3⟩]
    · rw [if_neg c3, decide_eq_false (fun q => c3 q.2)]
  · rw [if_neg c1, decide_eq_false (fun q => c1 q.1)]
theorem x8_splits {V0 : Sz} (hw : WF (V0 0)) {g o f s : Int} (g0 : 0 ≤ g) (g1 : g < V0 0 2) (ho : rng o) (hf : 1 ≤ f ∧ f ≤ 9) (hs : 1 ≤ s ∧ s ≤ 9) {n : Nat} (hn : 100 ≤ n) : TT (f_X8_splits n V0 g f o s) (fun V => (∀ k : Nat, k ≠ 0 → V k = V0 k) ∧ SplRow (V0 0) g o f s (V 0) ∧ WFn (V 0)) := by
  have a2 := hw.2.1.2.2.1
  have hgw := hw.2.2.2.2.1 g g0 g1
  have hwt := wei_two hf hs
  have hS := (share_dv (A := wAm (V0 0) g) (a := wei f s 0) (m := 2) (i := 0) ⟨by omega, by omega⟩ ⟨by decide, by decide⟩ hwt.1 (by decide) (by decide)).1
  unfold f_X8_splits
  rw [x8_partOf, bd_s]
  refine tt_ck ⟨by omega, by omega⟩ (tt_nmE (fun V3 e3 => ?_))
  have e30 : V3 0 = up (V0 0) (413 + (3 * g + 1)).toNat o := by rw [e3, uz_at]
  refine tt_bd (x8_shares (V0 := V3) (g := g) (m := 2) (A := wAm (V0 0) g) (f := f) (s := s) (t := 0) g0 (by omega) ⟨by decide, by decide⟩ ⟨by omega, by omega⟩ hwt.1 hwt.2 (by rw [e30]; exact up_ne (by omega)) hn) (fun V ⟨hk, hr⟩ => tt_some ⟨fun k hk0 => ?_, ?_, fun i hi => ?_⟩)
  · rw [hk k hk0, e3, uz_ne hk0]
  · unfold SplRow
    rw [← e30]; exact hr
  · rw [hr i]
    split
    · exact ⟨by decide, by decide⟩
    · split
      · have := share_bd (A := wAm (V0 0) g) (a := wei f s 0) (m := 2) (i := (i : Int) - (593 + 3 * g)) (by omega) (by decide) (fun j j0 j1 => by have := hwt.1 j j0 j1; omega) hS.1 (by omega) (by omega)
        constructor <;> omega
      · rw [e30, up_if]
        split
        · exact ho
        · exact hw.1 i hi
theorem spl_z {w w1 : Rw} {g o f s : Int} (h : SplRow w g o f s w1) (hw : WF w) (g0 : 0 ≤ g) (g1 : g < w 2) (hm : wMany w g = 1) (hz : WFz w) : WFz w1 := by
  have a2 := hw.2.1.2.2.1
  obtain ⟨hG, e2, ⟨q1, q2, q3, q4, q5⟩, ⟨d0, d1⟩, hpa, hpb⟩ := spl_at h g0 (by omega)
  intro j i j0 j1 i0 i1
  rw [e2] at j1
  by_cases e : j = g
  · subst e
    rw [q4] at i0
    rw [(hpb i (by omega) i1).1, (hpb i (by omega) i1).2]
    exact hz j i j0 j1 (by omega) i1
  · have x := hG.2.1 j j0 (by omega) e
    have hgw := hw.2.2.2.2.1 j j0 j1
    rw [x.2.2.2.1] at i0
    have y := hG.2.2.1 (3 * j + i) (by omega) (by omega) (by omega)
    rw [y.2.2.1, y.2.2.2]
    exact hz j i j0 j1 i0 i1
