/-! a gift with its parts, as it is read -/
theorem tt_eb {α β : Type} {x : Option α} {a : α} {k : α → Option β} {P : β → Prop} (h : x = some a) (h1 : TT (k a) P) : TT (bd x k) P := by
  rw [h]; exact h1
/-- the row with the donors of the first m parts -/
def DonRow (F : Rw) (g m : Int) (dd : Int → Int) (w1 : Rw) : Prop := ∀ i : Nat, w1 i = if 413 + 3 * g ≤ (i : Int) ∧ (i : Int) < 413 + 3 * g + m then dd ((i : Int) - (413 + 3 * g)) else F i
theorem don_zero (F : Rw) (g : Int) (dd : Int → Int) : DonRow F g 0 dd F := fun i => by rw [if_neg (by omega)]
theorem don_step {F w1 : Rw} {g m d : Int} {dd dd1 : Int → Int} (h : DonRow F g m dd w1) (g0 : 0 ≤ g) (m0 : 0 ≤ m) (he : ∀ j : Int, 0 ≤ j → j < m → dd1 j = dd j) (hd : dd1 m = d) : DonRow F g (m + 1) dd1 (up w1 (413 + (3 * g + m)).toNat d) := by
  intro i
  rw [up_if]
  by_cases e : i = (413 + (3 * g + m)).toNat
  · rw [if_pos e, if_pos (by omega), show (i : Int) - (413 + 3 * g) = m by omega, hd]
  · rw [if_neg e, h i]
    by_cases c : 413 + 3 * g ≤ (i : Int) ∧ (i : Int) < 413 + 3 * g + m
    · rw [if_pos c, if_pos (by omega), he _ (by omega) (by omega)]
    · rw [if_neg c, if_neg (by omega)]
def NewM (w : Rw) (g day am be m : Int) (dd a : Int → Int) (w1 : Rw) : Prop := Gq w w1 g ∧ w1 2 = w 2 + 1 ∧ (wDay w1 g = day ∧ wAm w1 g = am ∧ wGot w1 g = be ∧ wMany w1 g = m ∧ wBack w1 g = 0) ∧ (∀ i : Int, 0 ≤ i → i < m → wPd w1 (3 * g + i) = dd i ∧ wPa w1 (3 * g + i) = shP am a m i) ∧ (∀ i : Int, 0 ≤ i → i < 3 → wPb w1 (3 * g + i) = 0 ∧ wPc w1 (3 * g + i) = 0) ∧ WFn w1
theorem newm_at {w wa w1 w2 : Rw} {g day am be m : Int} {dd a : Int → Int} (h : ClrRow w g wa) (hw : WF w) (hg : g = w 2) (g1 : g < 60) (hd : rng day) (ha : 1 ≤ am ∧ am ≤ 999999) (hb : rng be) (hm : 0 ≤ m ∧ m ≤ 3) (hdd : ∀ j : Int, 0 ≤ j → j < m → rng (dd j)) (haa : ∀ j : Int, 0 ≤ j → j < m → 1 ≤ a j ∧ a j ≤ 9) (h1 : DonRow (FilRow wa g day am be) g m dd w1) (hs : ShRow w1 g m am a w2) : NewM w g day am be m dd a (up w2 2 (w 2 + 1)) := by
  have a2 := hw.2.1.2.2.1
  obtain ⟨f1, f2, f3, f4, f5, f6⟩ := fil_at (day := day) (am := am) (be := be) h (by omega) g1
  have e : ∀ i : Nat, i ≠ 2 → (i : Int) ≠ 293 + g → ¬ (593 + 3 * g ≤ (i : Int) ∧ (i : Int) < 593 + 3 * g + m) → ¬ (413 + 3 * g ≤ (i : Int) ∧ (i : Int) < 413 + 3 * g + m) → up w2 2 (w 2 + 1) i = FilRow wa g day am be i := fun i h2 h3 h4 h5 => by
    rw [up_ne h2, hs i, if_neg h3, if_neg h4, h1 i, if_neg h5]
  have hsh : ∀ j : Int, 0 ≤ j → j < m → 0 ≤ shP am a m j ∧ shP am a m j ≤ am := fun j j0 j1 => by
    have hS := (share_dv (A := am) (a := a) (m := m) (i := 0) ⟨by omega, by omega⟩ ⟨by omega, hm.2⟩ haa (by decide) (by omega)).1
    exact share_bd (by omega) (by omega) (fun j j0 j1 => by have := haa j j0 j1; omega) hS.1 j0 j1
  refine ⟨⟨fun i i1 i2 => by rw [e i i2 (by omega) (by omega) (by omega)]; exact f1 i i1, fun j j0 j1 jg => ?_, fun p p0 p1 pg => ?_, fun i i0 i1 => by rw [e i (by omega) (by omega) (by omega) (by omega)]; exact f4 i i0 i1⟩, up_at _ _ _, ?_, fun i i0 i1 => ?_, fun i i0 i1 => ?_, fun i hi => ?_⟩
  · obtain ⟨x1, x2, x3, x4, x5⟩ := f2 j j0 j1 jg
    exact ⟨(e _ (by omega) (by omega) (by omega) (by omega)).trans x1, (e _ (by omega) (by omega) (by omega) (by omega)).trans x2, (e _ (by omega) (by omega) (by omega) (by omega)).trans x3, (e _ (by omega) (by omega) (by omega) (by omega)).trans x4, (e _ (by omega) (by omega) (by omega) (by omega)).trans x5⟩
  · obtain ⟨x1, x2, x3, x4⟩ := f3 p p0 p1 pg
    exact ⟨(e _ (by omega) (by omega) (by omega) (by omega)).trans x1, (e _ (by omega) (by omega) (by omega) (by omega)).trans x2, (e _ (by omega) (by omega) (by omega) (by omega)).trans x3, (e _ (by omega) (by omega) (by omega) (by omega)).trans x4⟩
  · obtain ⟨x1, x2, x3, x4, x5⟩ := f5
    refine ⟨(e _ (by omega) (by omega) (by omega) (by omega)).trans x1, (e _ (by omega) (by omega) (by omega) (by omega)).trans x2, (e _ (by omega) (by omega) (by omega) (by omega)).trans x3, ?_, (e _ (by omega) (by omega) (by omega) (by omega)).trans x5⟩
    unfold wMany
    rw [up_ne (by omega), hs, if_pos (by omega)]
  · unfold wPd wPa
    constructor
    · rw [up_ne (by omega), hs, if_neg (by omega), if_neg (by omega), h1, if_pos (by omega)]
      congr 1
      omega
    · rw [up_ne (by omega), hs, if_neg (by omega), if_pos (by omega)]
      congr 1
      omega
  · exact ⟨(e _ (by omega) (by omega) (by omega) (by omega)).trans (f6 i i0 i1).1, (e _ (by omega) (by omega) (by omega) (by omega)).trans (f6 i i0 i1).2⟩
  · rw [up_if]
    split
    · constructor <;> omega
    · rw [hs i]
      split
      · constructor <;> omega
      · split
        · have := hsh ((i : Int) - (593 + 3 * g)) (by omega) (by omega)
          constructor <;> omega
        · rw [h1 i]
          split
          · exact hdd _ (by omega) (by omega)
          · exact fil_n h hw.1 hd ⟨by omega, by omega⟩ hb i hi
theorem newm_WF {w w1 : Rw} {g day am be m : Int} {dd a : Int → Int} (h : NewM w g day am be m dd a w1) (hw : WF w) (hg : g = w 2) (g1 : g < 60) (hday : 0 ≤ day ∧ day ≤ 9999) (ha : 1 ≤ am ∧ am ≤ 999999) (hb : 0 ≤ be ∧ be ≤ 999999) (hm : 0 ≤ m ∧ m ≤ 3) (hdd : ∀ j : Int, 0 ≤ j → j < m → 0 ≤ dd j ∧ dd j < w 0) (hne : ∀ i j : Int, 0 ≤ i → i < j → j < m → dd i ≠ dd j) (haa : ∀ j : Int, 0 ≤ j → j < m → 1 ≤ a j ∧ a j ≤ 9) : WF w1 := by
  have a2 := hw.2.1.2.2.1
  obtain ⟨hG, e2, ⟨q1, q2, q3, q4, q5⟩, hp, hz, hn⟩ := h
  have e0 : w1 0 = w 0 := hG.1 0 (by decide) (by decide)
  refine gq_WF hG hw hn (by omega) (Or.inr ⟨e2, hg⟩) (by omega) ⟨by rw [q1, q2, q3, q4, q5]; omega, fun i i0 i1 => ?_, fun i j i0 ij j1 => ?_, fun hm2 => ?_⟩
  · rw [q4] at i1
    have hS := (share_dv (A := am) (a := a) (m := m) (i := 0) ⟨by omega, by omega⟩ ⟨by omega, hm.2⟩ haa (by decide) (by omega)).1
    have hsh := share_bd (A := am) (a := a) (m := m) (i := i) (by omega) (by omega) (fun j j0 j1 => by have := haa j j0 j1; omega) hS.1 i0 i1
    obtain ⟨x1, x2⟩ := hp i i0 i1
    obtain ⟨z1, z2⟩ := hz i i0 (by omega)
    have := hdd i i0 i1
    rw [x1, x2, z1, z2, e0]
    omega
  · rw [q4] at j1
    rw [(hp i i0 (by omega)).1, (hp j (by omega) j1).1]
    exact hne i j i0 ij j1
  · rw [q4] at hm2
    have hS := (share_dv (A := am) (a := a) (m := m) (i := 0) ⟨by omega, by omega⟩ ⟨by omega, hm.2⟩ haa (by decide) (by omega)).1
    rw [q4, q2, q5]
    refine ⟨?_, sumN_zero (fun i i0 i1 => (hz i i0 (by omega)).1)⟩
    rw [← share_all (A := am) (a := a) (m := m) (by omega) hS.1]
    exact sumN_congr (fun i i0 i1 => (hp i i0 (by omega)).2)
theorem newm_z {w w1 : Rw} {g day am be m : Int} {dd a : Int → Int} (h : NewM w g day am be m dd a w1) (hw : WF w) (hg : g = w 2) (g1 : g < 60) (hm : 0 ≤ m) (hz : WFz w) : WFz w1 := by
  have a2 := hw.2.1.2.2.1
  obtain ⟨hG, e2, ⟨q1, q2, q3, q4, q5⟩, hp, hzz, hn⟩ := h
  intro j i j0 j1 i0 i1
  rw [e2] at j1
  by_cases e : j = g
  · subst e
    exact hzz i (by omega) i1
  · have x := hG.2.1 j j0 (by omega) e
    have hgw := hw.2.2.2.2.1 j j0 (by omega)
    rw [x.2.2.2.1] at i0
    have y := hG.2.2.1 (3 * j + i) (by omega) (by omega) (by omega)
    rw [y.2.2.1, y.2.2.2]
    exact hz j i j0 (by omega) i0 i1
/-- the class's ledger, the gift's first c parts added -/
def PartL (G G1 : Sz) (w : Rw) (g day am be c : Int) (dd a : Int → Int) : Prop := (G1 9 0 = g + 1 ∧ G1 10 = up (G 10) g.toNat day ∧ G1 11 = up (G 11) g.toNat am ∧ G1 12 = up (G 12) g.toNat be ∧ G1 13 = up (G 13) g.toNat 0 ∧ G1 14 = up (G 14) g.toNat c) ∧ (∀ k : Nat, k < 9 ∨ 20 < k → G1 k = G k) ∧ (∀ i : Nat, (i : Int) < g + 1 → G1 15 i = ordA (fun j => if j = g then day else wDay w j) (g.toNat + 1) i) ∧ (∀ p : Int, 0 ≤ p → p < 180 → p / 3 ≠ g → G1 16 p.toNat = G 16 p.toNat ∧ G1 18 p.toNat = G 18 p.toNat ∧ G1 19 p.toNat = G 19 p.toNat ∧ G1 20 p.toNat = G 20 p.toNat) ∧ ∀ j : Int, 0 ≤ j → j < c → G1 16 (3 * g + j).toNat = dd j ∧ G1 17 (3 * g + j).toNat = a j ∧ G1 18 (3 * g + j).toNat = shP am a c j ∧ G1 19 (3 * g + j).toNat = 0 ∧ G1 20 (3 * g + j).toNat = 0
/-- the head of a gift -/
theorem head_add {G : Sz} {w : Rw} (h : LR0 G w) (hw : WF w) {g day am be : Int} (hg : g = w 2) (g1 : g < 60) (hday : 0 ≤ day ∧ day ≤ 9999) (dd a : Int → Int) {n : Nat} (hn : 100 ≤ n) : TT (f_X3_add n (sv 9 G) day am be) (fun r => r.1 = g ∧ PartL G (sw 9 12 G r.2) w g day am be 0 dd a) := by
  have a2 := hw.2.1.2.2.1
  have e9 : sv 9 G 0 0 = g := by rw [hg]; exact h.1.2.2.2.2.2.1
  refine tt_mono (c3_add (V0 := sv 9 G) (n0 := g) (day := day) (am := am) (be := be) e9 ⟨by omega, g1⟩ hday (d := fun j => if j = g then day else wDay w j) (fun j j0 j1 => ?_) (if_pos rfl) (fun i hi => ?_) hn) (fun ⟨r, V7⟩ ⟨u0, u1, u2, u3, u4, u5, u6, u7, u8⟩ => ⟨u0, ?_⟩)
  · have hjw := hw.2.2.2.2.1 j j0 (by omega)
    have hjl := h.2.2.2.1 j j0 (by omega)
    show (if j = g then day else wDay w j) = _ ∧ 0 ≤ (if j = g then day else wDay w j) ∧ (if j = g then day else wDay w j) ≤ 9999
    rw [if_neg (by omega)]
    exact ⟨hjl.1.symm, by omega, by omega⟩
  · have := h.2.2.2.2.2.1 i (by omega)
    show G 15 i = _
    rw [this]
    unfold ordS
    rw [← hg]
    exact ordA_congr _ (fun j j0 j1 => by
      show wDay w j = if j = g then day else wDay w j
      rw [if_neg (by omega)]) i (by omega)
  · have bin : ∀ k : Nat, k < 12 → sw 9 12 G V7 (k + 9) = V7 k := fun k hk => by
      unfold sw
      rw [if_pos ⟨by omega, by omega⟩]
      congr 1
    refine ⟨⟨?_, ?_, ?_, ?_, ?_, ?_⟩, fun k hk => sw_out (by omega), fun i hi => ?_, fun p p0 p1 pg => ?_, fun j j0 j1 => by omega⟩
    · show sw 9 12 G V7 (0 + 9) 0 = _
      rw [bin 0 (by decide)]; exact u1
    · show sw 9 12 G V7 (1 + 9) = _
      rw [bin 1 (by decide)]; exact u2
    · show sw 9 12 G V7 (2 + 9) = _
      rw [bin 2 (by decide)]; exact u3
    · show sw 9 12 G V7 (3 + 9) = _
      rw [bin 3 (by decide)]; exact u4
    · show sw 9 12 G V7 (4 + 9) = _
      rw [bin 4 (by decide)]; exact u5
    · show sw 9 12 G V7 (5 + 9) = _
      rw [bin 5 (by decide)]; exact u6
    · show sw 9 12 G V7 (6 + 9) i = _
      rw [bin 6 (by decide)]; exact u8 i hi
    · show sw 9 12 G V7 (7 + 9) p.toNat = _ ∧ sw 9 12 G V7 (9 + 9) p.toNat = _ ∧ sw 9 12 G V7 (10 + 9) p.toNat = _ ∧ sw 9 12 G V7 (11 + 9) p.toNat = _
      rw [bin 7 (by decide), bin 9 (by decide), bin 10 (by decide), bin 11 (by decide)]
      have u7 : ∀ k : Nat, 7 ≤ k → V7 k = sv 9 G k := u7
      rw [u7 7 (by decide), u7 9 (by decide), u7 10 (by decide), u7 11 (by decide)]
      exact ⟨rfl, rfl, rfl, rfl⟩
/-- a part more -/
theorem part_add {G G1 : Sz} {w : Rw} {g day am be c d x : Int} {dd a dd1 a1 : Int → Int} (h : PartL G G1 w g day am be c dd a) (g0 : 0 ≤ g) (g1 : g < 60) (hc : 0 ≤ c ∧ c < 3) (hA : 0 ≤ am ∧ am ≤ 999999) (hd : ∀ j : Int, 0 ≤ j → j < c → dd1 j = dd j) (hd1 : dd1 c = d) (ha : ∀ j : Int, 0 ≤ j → j < c → a1 j = a j) (ha1 : a1 c = x) (hr : ∀ j : Int, 0 ≤ j → j < c + 1 → 1 ≤ a1 j ∧ a1 j ≤ 9) {n : Nat} (hn : 100 ≤ n) : TT (f_X3_addPart n (sv 9 G1) g d x) (fun V => PartL G (sw 9 12 G1 V) w g day am be (c + 1) dd1 a1) := by
  obtain ⟨⟨h9, h10, h11, h12, h13, h14⟩, hk, ho, hp, hj⟩ := h
  refine tt_mono (c3_addPart (V0 := sv 9 G1) (g := g) (c := c) (d := d) (x := x) (A := am) (N := g + 1) (a := a1) g0 (by omega) ⟨h9, by omega⟩ hc hA hr (by show G1 14 g.toNat = c; rw [h14, up_at]) (by show G1 11 g.toNat = am; rw [h11, up_at]) (fun j j0 j1 => by rw [ha j j0 j1]; exact (hj j j0 j1).2.1) ha1.symm hn) (fun V ⟨k1, k5, k7, k8, k10, k11, k9⟩ => ?_)
  have bin : ∀ k : Nat, k < 12 → sw 9 12 G1 V (k + 9) = V k := fun k hk => by
    unfold sw
    rw [if_pos ⟨by omega, by omega⟩]
    congr 1
  have b16 : sw 9 12 G1 V 16 = up (G1 16) (3 * g + c).toNat d := (bin 7 (by decide)).trans k7
  have b17 : sw 9 12 G1 V 17 = up (G1 17) (3 * g + c).toNat x := (bin 8 (by decide)).trans k8
  have b18 : ∀ p : Nat, sw 9 12 G1 V 18 p = if 3 * g ≤ (p : Int) ∧ (p : Int) < 3 * g + (c + 1) then shP am a1 (c + 1) ((p : Int) - 3 * g) else G1 18 p := fun p => by
    rw [show sw 9 12 G1 V 18 = V 9 from bin 9 (by decide)]; exact k9 p
  have b19 : sw 9 12 G1 V 19 = up (G1 19) (3 * g + c).toNat 0 := (bin 10 (by decide)).trans k10
  have b20 : sw 9 12 G1 V 20 = up (G1 20) (3 * g + c).toNat 0 := (bin 11 (by decide)).trans k11
  refine ⟨⟨?_, ?_, ?_, ?_, ?_, ?_⟩, fun k hk2 => (sw_out (by omega)).trans (hk k hk2), fun i hi => ?_, fun p p0 p1 pg => ?_, fun j j0 j1 => ?_⟩
  · show sw 9 12 G1 V (0 + 9) 0 = _
    rw [bin 0 (by decide), k1 0 (by decide)]; exact h9
  · show sw 9 12 G1 V (1 + 9) = _
    rw [bin 1 (by decide), k1 1 (by decide)]; exact h10
  · show sw 9 12 G1 V (2 + 9) = _
    rw [bin 2 (by decide), k1 2 (by decide)]; exact h11
  · show sw 9 12 G1 V (3 + 9) = _
    rw [bin 3 (by decide), k1 3 (by decide)]; exact h12
  · show sw 9 12 G1 V (4 + 9) = _
    rw [bin 4 (by decide), k1 4 (by decide)]; exact h13
  · show sw 9 12 G1 V (5 + 9) = _
    rw [bin 5 (by decide), k5]
    show up (G1 14) g.toNat (c + 1) = _
    rw [h14]
    funext i
    rw [up_if, up_if, up_if]
    split <;> rfl
  · show sw 9 12 G1 V (6 + 9) i = _
    rw [bin 6 (by decide), k1 6 (by decide)]; exact ho i hi
  · rw [b16, b18, b19, b20, up_ne (by omega), up_ne (by omega), up_ne (by omega), if_neg (by omega)]
    exact hp p p0 p1 pg
  · rw [b16, b17, b18, b19, b20, if_pos (by omega), show (((3 * g + j).toNat : Nat) : Int) - 3 * g = j by omega]
    by_cases e : j = c
    · subst e
      rw [up_at, up_at, up_at, up_at, hd1, ha1]
      exact ⟨rfl, rfl, rfl, rfl, rfl⟩
    · obtain ⟨x1, x2, x3, x4, x5⟩ := hj j j0 (by omega)
      rw [up_ne (by omega), up_ne (by omega), up_ne (by omega), up_ne (by omega), x1, x2, x4, x5, hd j j0 (by omega), ha j j0 (by omega)]
      exact ⟨rfl, rfl, rfl, rfl, rfl⟩
/-- both, once the gift is read -/
theorem part_LR0 {G G1 : Sz} {w w1 : Rw} {g day am be m : Int} {dd a : Int → Int} (h : PartL G G1 w g day am be m dd a) (hL : LR0 G w) (hw : WF w) (hN : NewM w g day am be m dd a w1) (hg : g = w 2) (g1 : g < 60) (hm : 0 ≤ m ∧ m ≤ 3) : LR0 G1 w1 := by
  have a2 := hw.2.1.2.2.1
  obtain ⟨⟨h9, h10, h11, h12, h13, h14⟩, hk, ho, hp, hj⟩ := h
  obtain ⟨hG, e2, ⟨q1, q2, q3, q4, q5⟩, hpp, hz, hn⟩ := hN
  refine gq_LR0 hL hw hG (by omega) (Or.inr ⟨e2, hg⟩) (by omega) (fun k hk2 _ => hk k hk2) (by rw [h9, e2, hg]) (fun j j0 j1 jg => ?_) hp (fun i hi => ?_) ?_ (fun i i0 i1 i3 => ?_)
  · rw [h10, h11, h12, h13, h14, up_ne (by omega), up_ne (by omega), up_ne (by omega), up_ne (by omega), up_ne (by omega)]
    exact ⟨rfl, rfl, rfl, rfl, rfl⟩
  · rw [ho i (by omega)]
    unfold ordS
    rw [e2, show (w 2 + 1).toNat = g.toNat + 1 by omega]
    refine ordA_congr _ (fun j j0 j1 => ?_) i (by omega)
    show (if j = g then day else wDay w j) = wDay w1 j
    by_cases e : j = g
    · rw [if_pos e, e, q1]
    · rw [if_neg e]
      exact ((hG.2.1 j j0 (by omega) e).1).symm
  · rw [h10, h11, h12, h13, h14, up_at, up_at, up_at, up_at, up_at, q1, q2, q3, q4, q5]
    exact ⟨rfl, rfl, rfl, rfl, rfl⟩
  · rw [q4] at i1
    obtain ⟨x1, x2, x3, x4, x5⟩ := hj i i0 i1
    obtain ⟨y1, y2⟩ := hpp i i0 i1
    obtain ⟨z1, z2⟩ := hz i i0 i3
    rw [x1, x3, x4, x5, y1, y2, z1, z2]
    exact ⟨rfl, rfl, rfl, rfl⟩
