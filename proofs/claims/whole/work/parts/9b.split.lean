/-! rows that differ in one gift -/
def Gq (w w1 : Rw) (g : Int) : Prop := (∀ i : Nat, i < 113 → i ≠ 2 → w1 i = w i) ∧ (∀ j : Int, 0 ≤ j → j < 60 → j ≠ g → wDay w1 j = wDay w j ∧ wAm w1 j = wAm w j ∧ wGot w1 j = wGot w j ∧ wMany w1 j = wMany w j ∧ wBack w1 j = wBack w j) ∧ (∀ p : Int, 0 ≤ p → p < 180 → p / 3 ≠ g → wPd w1 p = wPd w p ∧ wPa w1 p = wPa w p ∧ wPb w1 p = wPb w p ∧ wPc w1 p = wPc w p) ∧ ∀ i : Nat, 1133 ≤ i → i < 1233 → w1 i = w i
/-- what must hold of the gift itself -/
def GiftOK (w : Rw) (g : Int) : Prop := (0 ≤ wDay w g ∧ wDay w g ≤ 9999 ∧ 1 ≤ wAm w g ∧ wAm w g ≤ 999999 ∧ 0 ≤ wGot w g ∧ wGot w g ≤ 999999 ∧ 0 ≤ wMany w g ∧ wMany w g ≤ 3 ∧ 0 ≤ wBack w g ∧ wBack w g ≤ wAm w g) ∧ (∀ i : Int, 0 ≤ i → i < wMany w g → 0 ≤ wPd w (3 * g + i) ∧ wPd w (3 * g + i) < w 0 ∧ 0 ≤ wPb w (3 * g + i) ∧ wPb w (3 * g + i) ≤ wPa w (3 * g + i) ∧ wPa w (3 * g + i) ≤ 999999 ∧ 0 ≤ wPc w (3 * g + i) ∧ wPc w (3 * g + i) ≤ 999999) ∧ (∀ i j : Int, 0 ≤ i → i < j → j < wMany w g → wPd w (3 * g + i) ≠ wPd w (3 * g + j)) ∧ (0 < wMany w g → sumN (fun i => wPa w (3 * g + i)) (wMany w g).toNat = wAm w g ∧ sumN (fun i => wPb w (3 * g + i)) (wMany w g).toNat = wBack w g)
theorem gift_ok {w : Rw} (hw : WF w) {g : Int} (g0 : 0 ≤ g) (g1 : g < w 2) : GiftOK w g := by
  obtain ⟨-, -, -, -, hg, hp, hx, hs, -⟩ := hw
  exact ⟨hg g g0 g1, fun i i0 i1 => hp g i g0 g1 i0 i1, fun i j i0 ij j1 => hx g i j g0 g1 i0 ij j1, fun hm => hs g g0 g1 hm⟩
theorem gq_WF {w w1 : Rw} {g : Int} (h : Gq w w1 g) (hw : WF w) (hn : WFn w1) (g0 : 0 ≤ g) (h2 : (w1 2 = w 2 ∧ g < w 2) ∨ (w1 2 = w 2 + 1 ∧ g = w 2)) (h60 : w1 2 ≤ 60) (hok : GiftOK w1 g) : WF w1 := by
  have a0 := hw.2.1.1
  have a1 := hw.2.1.2.1
  have a2 := hw.2.1.2.2.1
  have a4 := hw.2.1.2.2.2.1
  obtain ⟨-, ha, hd, hk, hg, hp, hx, hs, hc⟩ := hw
  obtain ⟨h1, hgf, hpf, hcf⟩ := h
  have e0 : w1 0 = w 0 := h1 0 (by decide) (by decide)
  have e1 : w1 1 = w 1 := h1 1 (by decide) (by decide)
  have e4 : w1 4 = w 4 := h1 4 (by decide) (by decide)
  refine ⟨hn, ?_, fun d d0 d1 => ?_, fun k k0 k1 => ?_, fun j j0 j1 => ?_, fun j i j0 j1 i0 i1 => ?_, fun j i i2 j0 j1 i0 ij i1 => ?_, fun j j0 j1 hm => ?_, fun c c0 c1 => ?_⟩
  · obtain ⟨b0, b1, b2, b4, b5, b6, b7⟩ := ha
    unfold WFa
    rw [e0, e1, e4, h1 5 (by decide) (by decide), h1 6 (by decide) (by decide), h1 7 (by decide) (by decide)]
    exact ⟨b0, b1, ⟨by omega, h60⟩, b4, b5, b6, b7⟩
  · rw [e0] at d1
    have x : wLim w1 d = wLim w d := h1 _ (by omega) (by omega)
    rw [x]; exact hd d d0 d1
  · rw [e1] at k1
    have x : wWho w1 k = wWho w k ∧ wFr w1 k = wFr w k ∧ wTo w1 k = wTo w k := ⟨h1 _ (by omega) (by omega), h1 _ (by omega) (by omega), h1 _ (by omega) (by omega)⟩
    rw [x.1, x.2.1, x.2.2, e0]; exact hk k k0 k1
  · by_cases e : j = g
    · rw [e]; exact hok.1
    · obtain ⟨q1, q2, q3, q4, q5⟩ := hgf j j0 (by omega) e
      rw [q1, q2, q3, q4, q5]; exact hg j j0 (by omega)
  · by_cases e : j = g
    · subst e; exact hok.2.1 i i0 i1
    · obtain ⟨q1, q2, q3, q4, q5⟩ := hgf j j0 (by omega) e
      rw [q4] at i1
      have hgg := hg j j0 (by omega)
      obtain ⟨u1, u2, u3, u4⟩ := hpf (3 * j + i) (by omega) (by omega) (by omega)
      rw [u1, u2, u3, u4, e0]; exact hp j i j0 (by omega) i0 i1
  · by_cases e : j = g
    · subst e; exact hok.2.2.1 i i2 i0 ij i1
    · obtain ⟨q1, q2, q3, q4, q5⟩ := hgf j j0 (by omega) e
      rw [q4] at i1
      have hgg := hg j j0 (by omega)
      rw [(hpf (3 * j + i) (by omega) (by omega) (by omega)).1, (hpf (3 * j + i2) (by omega) (by omega) (by omega)).1]
      exact hx j i i2 j0 (by omega) i0 ij i1
  · by_cases e : j = g
    · subst e; exact hok.2.2.2 hm
    · obtain ⟨q1, q2, q3, q4, q5⟩ := hgf j j0 (by omega) e
      have hgg := hg j j0 (by omega)
      rw [q4] at hm ⊢
      rw [q2, q5]
      have q := hs j j0 (by omega) hm
      rw [← q.1, ← q.2]
      exact ⟨sumN_congr (fun i i0 i1 => (hpf _ (by omega) (by omega) (by omega)).2.1), sumN_congr (fun i i0 i1 => (hpf _ (by omega) (by omega) (by omega)).2.2.1)⟩
  · rw [e4] at c1
    have x : wCl w1 c 0 = wCl w c 0 := hcf _ (by omega) (by omega)
    rw [x]; exact hc c c0 c1
/-- the same of the class's ledger -/
theorem gq_LR0 {V V1 : Sz} {w w1 : Rw} {g : Int} (h : LR0 V w) (hw : WF w) (he : Gq w w1 g) (g0 : 0 ≤ g) (h2 : (w1 2 = w 2 ∧ g < w 2) ∨ (w1 2 = w 2 + 1 ∧ g = w 2)) (h60 : w1 2 ≤ 60) (hv : ∀ k : Nat, k < 9 ∨ 20 < k → k ≤ 22 → V1 k = V k) (h9 : V1 9 0 = w1 2) (hvg : ∀ j : Int, 0 ≤ j → j < w 2 → j ≠ g → V1 10 j.toNat = V 10 j.toNat ∧ V1 11 j.toNat = V 11 j.toNat ∧ V1 12 j.toNat = V 12 j.toNat ∧ V1 13 j.toNat = V 13 j.toNat ∧ V1 14 j.toNat = V 14 j.toNat) (hvp : ∀ p : Int, 0 ≤ p → p < 180 → p / 3 ≠ g → V1 16 p.toNat = V 16 p.toNat ∧ V1 18 p.toNat = V 18 p.toNat ∧ V1 19 p.toNat = V 19 p.toNat ∧ V1 20 p.toNat = V 20 p.toNat) (ho : LRo V1 w1) (hg1 : V1 10 g.toNat = wDay w1 g ∧ V1 11 g.toNat = wAm w1 g ∧ V1 12 g.toNat = wGot w1 g ∧ V1 13 g.toNat = wBack w1 g ∧ V1 14 g.toNat = wMany w1 g) (hp1 : ∀ i : Int, 0 ≤ i → i < wMany w1 g → i < 3 → V1 16 (3 * g + i).toNat = wPd w1 (3 * g + i) ∧ V1 18 (3 * g + i).toNat = wPa w1 (3 * g + i) ∧ V1 19 (3 * g + i).toNat = wPb w1 (3 * g + i) ∧ V1 20 (3 * g + i).toNat = wPc w1 (3 * g + i)) : LR0 V1 w1 := by
  have a0 := hw.2.1.1
  have a1 := hw.2.1.2.1
  have a2 := hw.2.1.2.2.1
  have a4 := hw.2.1.2.2.2.1
  obtain ⟨ha, hd, hk, hg, hp, -, hc⟩ := h
  obtain ⟨h1, hgf, hpf, hcf⟩ := he
  have e0 : w1 0 = w 0 := h1 0 (by decide) (by decide)
  have e1 : w1 1 = w 1 := h1 1 (by decide) (by decide)
  have e4 : w1 4 = w 4 := h1 4 (by decide) (by decide)
  refine ⟨?_, fun d d0 d1 => ?_, fun k k0 k1 => ?_, fun j j0 j1 => ?_, fun p p0 p1 hb => ?_, ho, fun c q c0 c1 q0 q1 => ?_⟩
  · unfold LRa at *
    rw [h9, hv 0 (by decide) (by decide), hv 1 (by decide) (by decide), hv 2 (by decide) (by decide), hv 3 (by decide) (by decide), hv 5 (by decide) (by decide), hv 21 (by decide) (by decide), e0, e1, e4, h1 5 (by decide) (by decide), h1 6 (by decide) (by decide), h1 7 (by decide) (by decide)]
    exact ⟨ha.1, ha.2.1, ha.2.2.1, ha.2.2.2.1, ha.2.2.2.2.1, rfl, ha.2.2.2.2.2.2⟩
  · rw [e0] at d1
    have x : wLim w1 d = wLim w d := h1 _ (by omega) (by omega)
    rw [hv 4 (by decide) (by decide), x]; exact hd d d0 d1
  · rw [e1] at k1
    have x : wWho w1 k = wWho w k ∧ wFr w1 k = wFr w k ∧ wTo w1 k = wTo w k := ⟨h1 _ (by omega) (by omega), h1 _ (by omega) (by omega), h1 _ (by omega) (by omega)⟩
    rw [hv 6 (by decide) (by decide), hv 7 (by decide) (by decide), hv 8 (by decide) (by decide), x.1, x.2.1, x.2.2]; exact hk k k0 k1
  · by_cases e : j = g
    · rw [e]; exact hg1
    · obtain ⟨q1, q2, q3, q4, q5⟩ := hgf j j0 (by omega) e
      obtain ⟨x1, x2, x3, x4, x5⟩ := hvg j j0 (by omega) e
      rw [q1, q2, q3, q4, q5, x1, x2, x3, x4, x5]; exact hg j j0 (by omega)
  · have hs := part_split p0 hb
    by_cases e : p / 3 = g
    · have := hp1 (p % 3) hs.2.2.1 (by rw [← e]; exact hs.2.2.2.1) (by omega)
      rw [← e, hs.2.2.2.2] at this
      exact this
    · obtain ⟨q1, q2, q3, q4, q5⟩ := hgf (p / 3) hs.1 (by omega) e
      obtain ⟨u1, u2, u3, u4⟩ := hpf p p0 p1 e
      obtain ⟨x1, x2, x3, x4⟩ := hvp p p0 p1 e
      rw [u1, u2, u3, u4, x1, x2, x3, x4]
      refine hp p p0 p1 ?_
      unfold partB
      rw [decide_eq_true (show p / 3 < w 2 by omega), decide_eq_true (show p % 3 < wMany w (p / 3) by omega)]; rfl
  · rw [e4] at c1
    have x : wCl w1 c q = wCl w c q := hcf _ (by omega) (by omega)
    rw [hv 22 (by decide) (by decide), x]; exact hc c q c0 c1 q0 q1
/-! a gift split -/
theorem wei_two {f s : Int} (hf : 1 ≤ f ∧ f ≤ 9) (hs : 1 ≤ s ∧ s ≤ 9) : (∀ j : Int, 0 ≤ j → j < 2 → 1 ≤ wei f s 0 j ∧ wei f s 0 j ≤ 9) ∧ f + s + 0 = sumN (wei f s 0) (2 : Int).toNat := by
  refine ⟨fun j j0 j1 => ?_, ?_⟩
  · unfold wei
    split
    · exact hf
    · rw [if_pos (by omega)]; exact hs
  · show f + s + 0 = 0 + wei f s 0 ((0 : Nat) : Int) + wei f s 0 ((1 : Nat) : Int)
    have e0 : wei f s 0 ((0 : Nat) : Int) = f := rfl
    have e1 : wei f s 0 ((1 : Nat) : Int) = s := rfl
    rw [e0, e1]; omega
/-- the row behind a split -/
def SplRow (w : Rw) (g o f s : Int) (w1 : Rw) : Prop := ShRow (up w (413 + (3 * g + 1)).toNat o) g 2 (wAm w g) (wei f s 0) w1
theorem spl_at {w w1 : Rw} {g o f s : Int} (h : SplRow w g o f s w1) (g0 : 0 ≤ g) (g1 : g < 60) : Gq w w1 g ∧ w1 2 = w 2 ∧ (wDay w1 g = wDay w g ∧ wAm w1 g = wAm w g ∧ wGot w1 g = wGot w g ∧ wMany w1 g = 2 ∧ wBack w1 g = wBack w g) ∧ (wPd w1 (3 * g) = wPd w (3 * g) ∧ wPd w1 (3 * g + 1) = o) ∧ (∀ i : Int, 0 ≤ i → i < 2 → wPa w1 (3 * g + i) = shP (wAm w g) (wei f s 0) 2 i) ∧ (∀ i : Int, 0 ≤ i → i < 3 → wPb w1 (3 * g + i) = wPb w (3 * g + i) ∧ wPc w1 (3 * g + i) = wPc w (3 * g + i)) := by
  have e : ∀ i : Nat, (i : Int) ≠ 293 + g → ¬ (593 + 3 * g ≤ (i : Int) ∧ (i : Int) < 593 + 3 * g + 2) → (i : Int) ≠ 413 + (3 * g + 1) → w1 i = w i := fun i h1 h2 h3 => by
    rw [h i, if_neg h1, if_neg h2, up_ne (by omega)]
  refine ⟨⟨fun i i1 i2 => e i (by omega) (by omega) (by omega), fun j j0 j1 jg => ?_, fun p p0 p1 pg => ?_, fun i i0 i1 => e i (by omega) (by omega) (by omega)⟩, e 2 (by omega) (by omega) (by omega), ?_, ?_, fun i i0 i1 => ?_, fun i i0 i1 => ?_⟩
  · exact ⟨e _ (by omega) (by omega) (by omega), e _ (by omega) (by omega) (by omega), e _ (by omega) (by omega) (by omega), e _ (by omega) (by omega) (by omega), e _ (by omega) (by omega) (by omega)⟩
  · exact ⟨e _ (by omega) (by omega) (by omega), e _ (by omega) (by omega) (by omega), e _ (by omega) (by omega) (by omega), e _ (by omega) (by omega) (by omega)⟩
  · refine ⟨e _ (by omega) (by omega) (by omega), e _ (by omega) (by omega) (by omega), e _ (by omega) (by omega) (by omega), ?_, e _ (by omega) (by omega) (by omega)⟩
    unfold wMany
    rw [h, if_pos (by omega)]
  · refine ⟨e _ (by omega) (by omega) (by omega), ?_⟩
    unfold wPd
    rw [h, if_neg (by omega), if_neg (by omega), up_at]
  · unfold wPa
    rw [h, if_neg (by omega), if_pos (by omega), show (((593 + (3 * g + i)).toNat : Nat) : Int) - (593 + 3 * g) = i by omega]
  · exact ⟨e _ (by omega) (by omega) (by omega), e _ (by omega) (by omega) (by omega)⟩
theorem spl_WF {w w1 : Rw} {g o f s : Int} (h : SplRow w g o f s w1) (hw : WF w) (hn : WFn w1) (g0 : 0 ≤ g) (g1 : g < w 2) (hm : wMany w g = 1) (hb : wBack w g = 0) (ho : 0 ≤ o ∧ o < w 0) (hno : wPd w (3 * g) ≠ o) (hpc : wPb w (3 * g + 1) = 0 ∧ 0 ≤ wPc w (3 * g + 1) ∧ wPc w (3 * g + 1) ≤ 999999) (hf : 1 ≤ f ∧ f ≤ 9) (hs : 1 ≤ s ∧ s ≤ 9) : WF w1 := by
  have a2 := hw.2.1.2.2.1
  obtain ⟨hG, e2, ⟨q1, q2, q3, q4, q5⟩, ⟨d0, d1⟩, hpa, hpb⟩ := spl_at h g0 (by omega)
  have hok := gift_ok hw g0 g1
  have hwt := wei_two hf hs
  have hA := hok.1
  have hS := (share_dv (A := wAm w g) (a := wei f s 0) (m := 2) (i := 0) ⟨by omega, by omega⟩ ⟨by decide, by decide⟩ hwt.1 (by decide) (by decide)).1
  have hP0 := hok.2.1 0 (by decide) (by omega)
  rw [Int.add_zero] at hP0
  have hb0 : wPb w (3 * g) = 0 := by
    have := (hok.2.2.2 (by omega)).2
    rw [hm] at this
    have e3 : sumN (fun i => wPb w (3 * g + i)) (1 : Int).toNat = 0 + wPb w (3 * g + ((0 : Nat) : Int)) := rfl
    rw [e3, show 3 * g + ((0 : Nat) : Int) = 3 * g by omega] at this
    omega
  have e0 : w1 0 = w 0 := hG.1 0 (by decide) (by decide)
  have two : ∀ i : Int, 0 ≤ i → i < 2 → i = 0 ∨ i = 1 := fun i _ _ => by omega
  refine gq_WF hG hw hn g0 (Or.inl ⟨e2, g1⟩) (by rw [e2]; exact a2.2) ⟨by rw [q1, q2, q3, q4, q5]; omega, fun i i0 i1 => ?_, fun i j i0 ij j1 => ?_, fun _ => ?_⟩
  · rw [q4] at i1
    have hsb := share_bd (A := wAm w g) (a := wei f s 0) (m := 2) (i := i) (by omega) (by decide) (fun j j0 j1 => by have := hwt.1 j j0 j1; omega) hS.1 i0 i1
    rw [hpa i i0 i1, (hpb i i0 (by omega)).1, (hpb i i0 (by omega)).2, e0]
    rcases two i i0 i1 with e | e
    · subst e
      rw [Int.add_zero, d0, hb0]
      omega
    · subst e
      rw [d1, hpc.1]
      omega
  · rw [q4] at j1
    have ei : i = 0 := by omega
    have ej : j = 1 := by omega
    subst ei ej
    rw [Int.add_zero, d0, d1]; exact hno
  · rw [q4, q2, q5, hb]
    constructor
    · rw [← share_all (A := wAm w g) (a := wei f s 0) (m := 2) (by decide) hS.1]
      exact sumN_congr (fun i i0 i1 => hpa i i0 (by omega))
    · have e3 : sumN (fun i => wPb w1 (3 * g + i)) (2 : Int).toNat = 0 + wPb w1 (3 * g + ((0 : Nat) : Int)) + wPb w1 (3 * g + ((1 : Nat) : Int)) := rfl
      have b0 := (hpb 0 (by decide) (by decide)).1
      have b1 := (hpb 1 (by decide) (by decide)).1
      rw [Int.add_zero] at b0
      rw [e3, show 3 * g + ((0 : Nat) : Int) = 3 * g by omega, show 3 * g + ((1 : Nat) : Int) = 3 * g + 1 by omega, b0, b1, hb0, hpc.1]; rfl
