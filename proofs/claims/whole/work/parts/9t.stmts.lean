/-! the row's rules, its donors -/
theorem rul_WF {w w1 : Rw} (h : ∀ i : Nat, i ≠ 5 → i ≠ 6 → i ≠ 7 → w1 i = w i) (hw : WF w) (h5 : 0 ≤ w1 5 ∧ w1 5 ≤ 100) (h6 : 0 ≤ w1 6 ∧ w1 6 ≤ 9999) (h7 : 0 ≤ w1 7 ∧ w1 7 ≤ 100) : WF w1 := by
  have a0 := hw.2.1.1
  have a1 := hw.2.1.2.1
  have a2 := hw.2.1.2.2.1
  have a4 := hw.2.1.2.2.2.1
  obtain ⟨hn, ha, hd, hk, hg, hp, hx, hs, hc⟩ := hw
  have e0 : w1 0 = w 0 := h 0 (by decide) (by decide) (by decide)
  have e1 : w1 1 = w 1 := h 1 (by decide) (by decide) (by decide)
  have e2 : w1 2 = w 2 := h 2 (by decide) (by decide) (by decide)
  have e4 : w1 4 = w 4 := h 4 (by decide) (by decide) (by decide)
  have eg : ∀ g : Int, 0 ≤ g → wDay w1 g = wDay w g ∧ wAm w1 g = wAm w g ∧ wGot w1 g = wGot w g ∧ wMany w1 g = wMany w g ∧ wBack w1 g = wBack w g := fun g g0 => ⟨h _ (by omega) (by omega) (by omega), h _ (by omega) (by omega) (by omega), h _ (by omega) (by omega) (by omega), h _ (by omega) (by omega) (by omega), h _ (by omega) (by omega) (by omega)⟩
  have ep : ∀ p : Int, 0 ≤ p → wPd w1 p = wPd w p ∧ wPa w1 p = wPa w p ∧ wPb w1 p = wPb w p ∧ wPc w1 p = wPc w p := fun p p0 => ⟨h _ (by omega) (by omega) (by omega), h _ (by omega) (by omega) (by omega), h _ (by omega) (by omega) (by omega), h _ (by omega) (by omega) (by omega)⟩
  refine ⟨fun i hi => ?_, ?_, fun d d0 d1 => ?_, fun k k0 k1 => ?_, fun g g0 g1 => ?_, fun g i g0 g1 i0 i1 => ?_, fun g i j g0 g1 i0 ij j1 => ?_, fun g g0 g1 hm => ?_, fun c c0 c1 => ?_⟩
  · by_cases c5 : i = 5
    · rw [c5]; constructor <;> omega
    · by_cases c6 : i = 6
      · rw [c6]; constructor <;> omega
      · by_cases c7 : i = 7
        · rw [c7]; constructor <;> omega
        · rw [h i c5 c6 c7]; exact hn i hi
  · unfold WFa
    rw [e0, e1, e2, e4]
    exact ⟨a0, a1, a2, a4, h5, h6, h7⟩
  · rw [e0] at d1
    have : wLim w1 d = wLim w d := h _ (by omega) (by omega) (by omega)
    rw [this]; exact hd d d0 d1
  · rw [e1] at k1
    have x : wWho w1 k = wWho w k ∧ wFr w1 k = wFr w k ∧ wTo w1 k = wTo w k := ⟨h _ (by omega) (by omega) (by omega), h _ (by omega) (by omega) (by omega), h _ (by omega) (by omega) (by omega)⟩
    rw [x.1, x.2.1, x.2.2, e0]; exact hk k k0 k1
  · rw [e2] at g1
    obtain ⟨q1, q2, q3, q4, q5⟩ := eg g g0
    rw [q1, q2, q3, q4, q5]; exact hg g g0 g1
  · rw [e2] at g1
    obtain ⟨q1, q2, q3, q4, q5⟩ := eg g g0
    rw [q4] at i1
    obtain ⟨u1, u2, u3, u4⟩ := ep (3 * g + i) (by omega)
    rw [u1, u2, u3, u4, e0]; exact hp g i g0 g1 i0 i1
  · rw [e2] at g1
    obtain ⟨q1, q2, q3, q4, q5⟩ := eg g g0
    rw [q4] at j1
    rw [(ep (3 * g + i) (by omega)).1, (ep (3 * g + j) (by omega)).1]
    exact hx g i j g0 g1 i0 ij j1
  · rw [e2] at g1
    obtain ⟨q1, q2, q3, q4, q5⟩ := eg g g0
    rw [q4] at hm ⊢
    rw [q2, q5]
    have q := hs g g0 g1 hm
    rw [← q.1, ← q.2]
    exact ⟨sumN_congr (fun i i0 i1 => (ep _ (by omega)).2.1), sumN_congr (fun i i0 i1 => (ep _ (by omega)).2.2.1)⟩
  · rw [e4] at c1
    have : wCl w1 c 0 = wCl w c 0 := h _ (by omega) (by omega) (by omega)
    rw [this]; exact hc c c0 c1
theorem rul_LR0 {V V1 : Sz} {w w1 : Rw} (h : LR0 V w) (hw : WF w) (he : ∀ i : Nat, i ≠ 5 → i ≠ 6 → i ≠ 7 → w1 i = w i) (hv : ∀ k : Nat, 2 < k → V1 k = V k) (h0 : V1 0 0 = w1 5) (h1 : V1 1 0 = w1 6) (h2 : V1 2 0 = w1 7) : LR0 V1 w1 := by
  have a2 := hw.2.1.2.2.1
  obtain ⟨ha, hd, hk, hg, hp, ho, hc⟩ := h
  have e0 : w1 0 = w 0 := he 0 (by decide) (by decide) (by decide)
  have e1 : w1 1 = w 1 := he 1 (by decide) (by decide) (by decide)
  have e2 : w1 2 = w 2 := he 2 (by decide) (by decide) (by decide)
  have e4 : w1 4 = w 4 := he 4 (by decide) (by decide) (by decide)
  refine ⟨?_, fun d d0 d1 => ?_, fun k k0 k1 => ?_, fun g g0 g1 => ?_, fun p p0 p1 hb => ?_, fun i hi => ?_, fun c q c0 c1 q0 q1 => ?_⟩
  · unfold LRa at *
    rw [h0, h1, h2, hv 3 (by decide), hv 5 (by decide), hv 9 (by decide), hv 21 (by decide), e0, e1, e2, e4]
    exact ⟨rfl, rfl, rfl, ha.2.2.2⟩
  · rw [e0] at d1
    have : wLim w1 d = wLim w d := he _ (by omega) (by omega) (by omega)
    rw [this, hv 4 (by decide)]; exact hd d d0 d1
  · rw [e1] at k1
    rw [hv 6 (by decide), hv 7 (by decide), hv 8 (by decide)]
    have x : wWho w1 k = wWho w k ∧ wFr w1 k = wFr w k ∧ wTo w1 k = wTo w k := ⟨he _ (by omega) (by omega) (by omega), he _ (by omega) (by omega) (by omega), he _ (by omega) (by omega) (by omega)⟩
    rw [x.1, x.2.1, x.2.2]; exact hk k k0 k1
  · rw [e2] at g1
    rw [hv 10 (by decide), hv 11 (by decide), hv 12 (by decide), hv 13 (by decide), hv 14 (by decide)]
    have x : wDay w1 g = wDay w g ∧ wAm w1 g = wAm w g ∧ wGot w1 g = wGot w g ∧ wMany w1 g = wMany w g ∧ wBack w1 g = wBack w g := ⟨he _ (by omega) (by omega) (by omega), he _ (by omega) (by omega) (by omega), he _ (by omega) (by omega) (by omega), he _ (by omega) (by omega) (by omega), he _ (by omega) (by omega) (by omega)⟩
    rw [x.1, x.2.1, x.2.2.1, x.2.2.2.1, x.2.2.2.2]; exact hg g g0 g1
  · have em : wMany w1 (p / 3) = wMany w (p / 3) := he _ (by omega) (by omega) (by omega)
    have eb : partB w1 p = partB w p := by unfold partB; rw [em, e2]
    rw [eb] at hb
    rw [hv 16 (by decide), hv 18 (by decide), hv 19 (by decide), hv 20 (by decide)]
    have x : wPd w1 p = wPd w p ∧ wPa w1 p = wPa w p ∧ wPb w1 p = wPb w p ∧ wPc w1 p = wPc w p := ⟨he _ (by omega) (by omega) (by omega), he _ (by omega) (by omega) (by omega), he _ (by omega) (by omega) (by omega), he _ (by omega) (by omega) (by omega)⟩
    rw [x.1, x.2.1, x.2.2.1, x.2.2.2]; exact hp p p0 p1 hb
  · rw [e2] at hi
    rw [hv 15 (by decide), ordS_same a2.1 e2 (fun g g0 g1 => he _ (by omega) (by omega) (by omega)) hi]; exact ho i hi
  · rw [e4] at c1
    rw [hv 22 (by decide)]
    have x : wCl w1 c q = wCl w c q := he _ (by omega) (by omega) (by omega)
    rw [x]; exact hc c q c0 c1 q0 q1
/-- the row with one donor more -/
def PlusD (w : Rw) (x : Int) (w1 : Rw) : Prop := w1 0 = w 0 + 1 ∧ wLim w1 (w 0) = x ∧ ∀ i : Nat, i ≠ 0 → (i : Int) ≠ 10 + w 0 → w1 i = w i
theorem plusd_WF {w w1 : Rw} {x : Int} (h : PlusD w x w1) (hw : WF w) (h10 : w 0 < 10) (hx : 0 ≤ x ∧ x ≤ 999999) : WF w1 := by
  have a0 := hw.2.1.1
  have a1 := hw.2.1.2.1
  have a2 := hw.2.1.2.2.1
  have a4 := hw.2.1.2.2.2.1
  obtain ⟨e0, el, h⟩ := h
  obtain ⟨hn, ha, hd, hk, hg, hp, hxx, hs, hc⟩ := hw
  have e1 : w1 1 = w 1 := h 1 (by decide) (by omega)
  have e2 : w1 2 = w 2 := h 2 (by decide) (by omega)
  have e4 : w1 4 = w 4 := h 4 (by decide) (by omega)
  have eg : ∀ g : Int, 0 ≤ g → wDay w1 g = wDay w g ∧ wAm w1 g = wAm w g ∧ wGot w1 g = wGot w g ∧ wMany w1 g = wMany w g ∧ wBack w1 g = wBack w g := fun g g0 => ⟨h _ (by omega) (by omega), h _ (by omega) (by omega), h _ (by omega) (by omega), h _ (by omega) (by omega), h _ (by omega) (by omega)⟩
  have ep : ∀ p : Int, 0 ≤ p → wPd w1 p = wPd w p ∧ wPa w1 p = wPa w p ∧ wPb w1 p = wPb w p ∧ wPc w1 p = wPc w p := fun p p0 => ⟨h _ (by omega) (by omega), h _ (by omega) (by omega), h _ (by omega) (by omega), h _ (by omega) (by omega)⟩
  have hl : ∀ d : Int, 0 ≤ d → d < w 0 + 1 → 0 ≤ wLim w1 d ∧ wLim w1 d ≤ 999999 := fun d d0 d1 => by
    by_cases e : d = w 0
    · rw [e, el]; exact hx
    · have : wLim w1 d = wLim w d := h _ (by omega) (by omega)
      rw [this]; exact hd d d0 (by omega)
  refine ⟨fun i hi => ?_, ?_, fun d d0 d1 => hl d d0 (by omega), fun k k0 k1 => ?_, fun g g0 g1 => ?_, fun g i g0 g1 i0 i1 => ?_, fun g i j g0 g1 i0 ij j1 => ?_, fun g g0 g1 hm => ?_, fun c c0 c1 => ?_⟩
  · by_cases c0 : i = 0
    · rw [c0, e0]; constructor <;> omega
    · by_cases c1 : (i : Int) = 10 + w 0
      · have := hl (w 0) a0.1 (by omega)
        unfold wLim at this
        rw [show (10 + w 0).toNat = i by omega] at this
        constructor <;> omega
      · rw [h i c0 c1]; exact hn i hi
  · obtain ⟨b0, b1, b2, b4, b5, b6, b7⟩ := ha
    unfold WFa
    rw [e0, e1, e2, e4, h 5 (by decide) (by omega), h 6 (by decide) (by omega), h 7 (by decide) (by omega)]
    exact ⟨by omega, b1, b2, b4, b5, b6, b7⟩
  · rw [e1] at k1
    have x : wWho w1 k = wWho w k ∧ wFr w1 k = wFr w k ∧ wTo w1 k = wTo w k := ⟨h _ (by omega) (by omega), h _ (by omega) (by omega), h _ (by omega) (by omega)⟩
    have := hk k k0 k1
    rw [x.1, x.2.1, x.2.2, e0]; omega
  · rw [e2] at g1
    obtain ⟨q1, q2, q3, q4, q5⟩ := eg g g0
    rw [q1, q2, q3, q4, q5]; exact hg g g0 g1
  · rw [e2] at g1
    obtain ⟨q1, q2, q3, q4, q5⟩ := eg g g0
    rw [q4] at i1
    obtain ⟨u1, u2, u3, u4⟩ := ep (3 * g + i) (by omega)
    have := hp g i g0 g1 i0 i1
    rw [u1, u2, u3, u4, e0]; omega
  · rw [e2] at g1
    obtain ⟨q1, q2, q3, q4, q5⟩ := eg g g0
    rw [q4] at j1
    rw [(ep (3 * g + i) (by omega)).1, (ep (3 * g + j) (by omega)).1]
    exact hxx g i j g0 g1 i0 ij j1
  · rw [e2] at g1
    obtain ⟨q1, q2, q3, q4, q5⟩ := eg g g0
    rw [q4] at hm ⊢
    rw [q2, q5]
    have q := hs g g0 g1 hm
    rw [← q.1, ← q.2]
    exact ⟨sumN_congr (fun i i0 i1 => (ep _ (by omega)).2.1), sumN_congr (fun i i0 i1 => (ep _ (by omega)).2.2.1)⟩
  · rw [e4] at c1
    have : wCl w1 c 0 = wCl w c 0 := h _ (by omega) (by omega)
    rw [this]; exact hc c c0 c1
theorem plusd_LR0 {V V1 : Sz} {w w1 : Rw} {x : Int} (h : LR0 V w) (hw : WF w) (he : PlusD w x w1) (h10 : w 0 < 10) (hv : ∀ k : Nat, k ≠ 3 → k ≠ 4 → V1 k = V k) (h3 : V1 3 0 = w 0 + 1) (h4 : V1 4 = up (V 4) (w 0).toNat x) : LR0 V1 w1 := by
  have a0 := hw.2.1.1
  have a2 := hw.2.1.2.2.1
  obtain ⟨e0, el, he⟩ := he
  obtain ⟨ha, hd, hk, hg, hp, ho, hc⟩ := h
  have e1 : w1 1 = w 1 := he 1 (by decide) (by omega)
  have e2 : w1 2 = w 2 := he 2 (by decide) (by omega)
  have e4 : w1 4 = w 4 := he 4 (by decide) (by omega)
  refine ⟨?_, fun d d0 d1 => ?_, fun k k0 k1 => ?_, fun g g0 g1 => ?_, fun p p0 p1 hb => ?_, fun i hi => ?_, fun c q c0 c1 q0 q1 => ?_⟩
  · unfold LRa at *
    rw [hv 0 (by decide) (by decide), hv 1 (by decide) (by decide), hv 2 (by decide) (by decide), h3, hv 5 (by decide) (by decide), hv 9 (by decide) (by decide), hv 21 (by decide) (by decide), e0, e1, e2, e4, he 5 (by decide) (by omega), he 6 (by decide) (by omega), he 7 (by decide) (by omega)]
    exact ⟨ha.1, ha.2.1, ha.2.2.1, rfl, ha.2.2.2.2⟩
  · rw [h4, up_if]
    by_cases e : d = w 0
    · rw [if_pos (by rw [e]), e, el]
    · have : wLim w1 d = wLim w d := he _ (by omega) (by omega)
      rw [if_neg (by omega), this]; exact hd d d0 (by omega)
  · rw [e1] at k1
    rw [hv 6 (by decide) (by decide), hv 7 (by decide) (by decide), hv 8 (by decide) (by decide)]
    have x : wWho w1 k = wWho w k ∧ wFr w1 k = wFr w k ∧ wTo w1 k = wTo w k := ⟨he _ (by omega) (by omega), he _ (by omega) (by omega), he _ (by omega) (by omega)⟩
    rw [x.1, x.2.1, x.2.2]; exact hk k k0 k1
  · rw [e2] at g1
    rw [hv 10 (by decide) (by decide), hv 11 (by decide) (by decide), hv 12 (by decide) (by decide), hv 13 (by decide) (by decide), hv 14 (by decide) (by decide)]
    have x : wDay w1 g = wDay w g ∧ wAm w1 g = wAm w g ∧ wGot w1 g = wGot w g ∧ wMany w1 g = wMany w g ∧ wBack w1 g = wBack w g := ⟨he _ (by omega) (by omega), he _ (by omega) (by omega), he _ (by omega) (by omega), he _ (by omega) (by omega), he _ (by omega) (by omega)⟩
    rw [x.1, x.2.1, x.2.2.1, x.2.2.2.1, x.2.2.2.2]; exact hg g g0 g1
  · have em : wMany w1 (p / 3) = wMany w (p / 3) := he _ (by omega) (by omega)
    have eb : partB w1 p = partB w p := by unfold partB; rw [em, e2]
    rw [eb] at hb
    rw [hv 16 (by decide) (by decide), hv 18 (by decide) (by decide), hv 19 (by decide) (by decide), hv 20 (by decide) (by decide)]
    have x : wPd w1 p = wPd w p ∧ wPa w1 p = wPa w p ∧ wPb w1 p = wPb w p ∧ wPc w1 p = wPc w p := ⟨he _ (by omega) (by omega), he _ (by omega) (by omega), he _ (by omega) (by omega), he _ (by omega) (by omega)⟩
    rw [x.1, x.2.1, x.2.2.1, x.2.2.2]; exact hp p p0 p1 hb
  · rw [e2] at hi
    rw [hv 15 (by decide) (by decide), ordS_same a2.1 e2 (fun g g0 g1 => he _ (by omega) (by omega)) hi]; exact ho i hi
  · rw [e4] at c1
    rw [hv 22 (by decide) (by decide)]
    have x : wCl w1 c q = wCl w c q := he _ (by omega) (by omega)
    rw [x]; exact hc c q c0 c1 q0 q1
/-! the end of a statement -/
theorem be_ne {T : Nat → Int} {L : Int} {N : Nat → Int} {V X V8 : Sz} (h : BE T L N V X V8) : V 0 0 ≠ 0 ∧ rng (V 0 0) := by
  obtain ⟨c, o, ⟨⟨h1, -, h3, h4⟩, -⟩, -⟩ := h
  rw [h1]
  exact ⟨by omega, by constructor <;> omega⟩
theorem nmr_keep {X X1 V8 V9 : Sz} {m : Int} (h : NmR X V8 m) (ex : X1 1 = X 1) (e7 : V9 7 = V8 7) : NmR X1 V9 m := by
  unfold NmR
  rw [ex, e7]; exact h
/-- the end: the class has read what should be the semicolon -/
theorem end_at {T : Nat → Int} {L : Int} {V X V8 G : Sz} (hT : BT T L) (h : JA T L V V8) {n : Nat} (hn : 1000 ≤ n) : ∃ V1 X1 : Sz, f_X6_readSemicolon n V X T G = some (V1, X1) ∧ rng (V1 0 0) ∧ ((V8 23 0 = 3 ∧ JB T L V1 X1 V8 ∧ V1 0 0 = 0 ∧ X1 1 = X 1 ∧ V1 6 = V 6) ∨ (V1 0 0 ≠ 0 ∧ ∀ (m : Int) (G1 : Sz), StOut T L m (true, V8) V1 X1 G1)) := by
  obtain ⟨V1, X1, e1, ex, e6, hc⟩ := semi_at (X := X) (G := G) hT h hn
  refine ⟨V1, X1, e1, ?_, ?_⟩
  · rcases hc with ⟨-, hJ⟩ | ⟨-, hB⟩
    · rw [hJ.1.1.1]; decide
    · exact (be_ne (hB (us (us V8 18 1) 19 (V8 21 0)) (by rw [us_ne (by decide), us_at]) (us_at _ _ _ _))).2
  · rcases hc with ⟨c, hJ⟩ | ⟨c, hB⟩
    · exact Or.inl ⟨c, hJ, hJ.1.1.1, ex, e6⟩
    · right
      refine ⟨(be_ne (hB (us (us V8 18 1) 19 (V8 21 0)) (by rw [us_ne (by decide), us_at]) (us_at _ _ _ _))).1, fun m G1 => Or.inl ⟨rfl, h.1.2.2.1, Or.inr ⟨c, (show rng (V8 23 0) by have := tb_bd (ja_tb h); constructor <;> omega), fun V9 h18 h19 => ⟨_, hB V9 h18 h19⟩⟩⟩⟩
/-- the ledger, a gift more -/
theorem sr_gift {G G1 V X V8 V1 X1 V9 : Sz} {g day am be m : Int} {dd a : Int → Int} {wa w1 w2 : Rw} (hS : SR G V X V8) (hg : g = V8 0 2) (g1 : g < 60) (hday : 0 ≤ day ∧ day ≤ 9999) (ha : 1 ≤ am ∧ am ≤ 999999) (hb : 0 ≤ be ∧ be ≤ 999999) (hm : 0 ≤ m ∧ m ≤ 3) (hdd : ∀ j : Int, 0 ≤ j → j < m → 0 ≤ dd j ∧ dd j < V8 0 0) (hne : ∀ i j : Int, 0 ≤ i → i < j → j < m → dd i ≠ dd j) (haa : ∀ j : Int, 0 ≤ j → j < m → 1 ≤ a j ∧ a j ≤ 9) (hP : PartL G G1 (V8 0) g day am be m dd a) (hcl : ClrRow (V8 0) g wa) (hD : DonRow (FilRow wa g day am be) g m dd w1) (hsh : ShRow w1 g m am a w2) (e0 : V9 0 = up w2 2 (V8 0 2 + 1)) (e7 : V9 7 = V8 7) (e24 : V9 24 = V8 24) (ex : X1 1 = X 1) (e6 : V1 6 = V 6) : SR G1 V1 X1 V9 ∧ cntR V9 = cntR V8 + 1 := by
  have hsa := sr_at hS
  obtain ⟨⟨hL, hw, h30, hz⟩, hNm, h6, h6b⟩ := hS
  have hN := newm_at hcl hw hg g1 ⟨by omega, by omega⟩ ha ⟨by omega, by omega⟩ hm (fun j j0 j1 => by have := hdd j j0 j1; constructor <;> omega) haa hD hsh
  rw [← e0] at hN
  have h0 : V9 0 0 = V8 0 0 := hN.1.1 0 (by decide) (by decide)
  refine ⟨⟨⟨part_LR0 hP hL hw hN hg g1 hm, newm_WF hN hw hg g1 hday ha hb hm hdd hne haa, ?_, newm_z hN hw hg g1 hm.1 hz⟩, ?_, ?_, ?_⟩, ?_⟩
  · rw [hN.1.1 1 (by decide) (by decide)]; exact h30
  · rw [h0]; exact nmr_keep hNm ex e7
  · rw [e6, e24]; exact h6
  · rw [e6]; exact h6b
  · have h1 : V9 0 1 = V8 0 1 := hN.1.1 1 (by decide) (by decide)
    have h2 : V9 0 2 = V8 0 2 + 1 := hN.2.1
    unfold cntR
    rw [h0, h1, h2, e24]
    omega
theorem st_cash {T : Nat → Int} {L : Int} {V X V8 G : Sz} (hT : BT T L) (h : JB T L V X V8) (hS : SR G V X V8) {n : Nat} (hn : 1000 ≤ n) : TT (f_X8_readCash n V8) (fun q => KeepR V8 q.2 ∧ ∃ (r : Int) (Va Xa G1 V1 X1 : Sz), f_X6_readGiftHead n V X T G = some (r, Va, Xa, G1) ∧ f_X6_readSemicolon n Va Xa T G1 = some (V1, X1) ∧ StOut T L (cntR V8 + 1) q V1 X1 G1) := by
  unfold f_X8_readCash
  refine tt_bd (money_both hT h hS hn) (fun ⟨b, V2⟩ ⟨hk, r, Va, Xa, G1, eh, exa, hc⟩ => ?_)
  have hk : ∀ j : Nat, j ≠ 0 → ¬ (18 ≤ j ∧ j < 24) → V2 j = V8 j := hk
  rcases hc with ⟨b1, e6, hJA, ⟨er, r60⟩, day, am, be, wa, hday, ham, hbe, hcl, row, hP⟩ | ⟨b1, er, eG, hBE⟩
  · have b1 : b = true := b1
    subst b1
    have row : V2 0 = FilRow wa r day am be := row
    have hJA : JA T L Va V2 := hJA
    have hsa := sr_at hS
    have hfil := fil_at (day := day) (am := am) (be := be) hcl (by omega) r60
    have f2 : V2 0 2 = V8 0 2 := by rw [row]; exact hfil.1 2 (by decide)
    refine tt_t rfl (tt_nmE (fun V3 e3 => tt_some ⟨fun j hj => ?_, ?_⟩))
    · show V3 j = V8 j
      rw [e3, uz_ne (by omega)]; exact hk j (by omega) (by omega)
    have hJA3 : JA T L Va V3 := ja_keep hJA (fun j j0 _ => by rw [e3, uz_ne (by omega)])
    obtain ⟨V1, X1, es, -, hend⟩ := end_at (X := Xa) (G := G1) hT hJA3 hn
    refine ⟨r, Va, Xa, G1, V1, X1, eh, es, ?_⟩
    rcases hend with ⟨c, hJ, -, ex, e6'⟩ | ⟨-, hx⟩
    · refine Or.inl ⟨rfl, hJA3.1.2.2.1, Or.inl ⟨c, hJ, ?_⟩⟩
      refine sr_gift (m := 0) (dd := fun _ => 0) (a := fun _ => 0) (w1 := V2 0) (w2 := V2 0) hS er r60 hday ham hbe ⟨by decide, by decide⟩ (fun j j0 j1 => by omega) (fun i j i0 ij j1 => by omega) (fun j j0 j1 => by omega) (hP _ _) hcl (by rw [row]; exact don_zero _ _ _) (fun i => ?_) ?_ ?_ ?_ (ex.trans exa) (e6'.trans e6)
      · by_cases c2 : (i : Int) = 293 + r
        · rw [if_pos c2, row]
          have := hfil.2.2.2.2.1.2.2.2.1
          unfold wMany at this
          rw [show (293 + r).toNat = i by omega] at this
          exact this
        · rw [if_neg c2, if_neg (by omega)]
      · show V3 0 = _
        rw [e3, uz_at, f2]
      · show V3 7 = V8 7
        rw [e3, uz_ne (by decide)]; exact hk 7 (by decide) (by omega)
      · show V3 24 = V8 24
        rw [e3, uz_ne (by decide)]; exact hk 24 (by decide) (by omega)
    · exact hx _ G1
  · have b1 : b = false := b1
    subst b1
    have hBE : BE T L (X 1) Va Xa V2 := hBE
    obtain ⟨c, o, hE, hback⟩ := be_er hBE
    obtain ⟨⟨V1, X1⟩, es, hE1⟩ := er_semi (G := G1) hT hE hn
    exact tt_f (by decide) (tt_some ⟨fun j hj => hk j (by omega) (by omega), r, Va, Xa, G1, V1, X1, eh, es, Or.inr ⟨rfl, _, hback V1 X1 hE1⟩⟩)
