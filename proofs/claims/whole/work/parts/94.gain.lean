/-! the class's aid with a span -/
theorem openD_part {w : Rw} (hw : WF w) {g i : Int} (g0 : 0 ≤ g) (g1 : g < w 2) (i0 : 0 ≤ i) (i1 : i < wMany w g) : openD w (wPd w (3 * g + i)) g = openS w (3 * g + i) := by
  have hx := hw.2.2.2.2.2.2.1
  unfold openD
  rw [sumN_one (i := i) i0 (by omega) (fun j j0 j1 hne => if_neg (fun e => ?_)), if_pos rfl]
  rcases Int.lt_trichotomy j i with h | h | h
  · exact hx g j i g0 g1 j0 h i1 e
  · exact hne h
  · exact hx g i j g0 g1 i0 h (by omega) e.symm
theorem openD_none {w : Rw} {g d : Int} (h : ∀ i : Int, 0 ≤ i → i < wMany w g → wPd w (3 * g + i) ≠ d) : openD w d g = 0 := by
  unfold openD
  exact sumN_zero (fun j j0 j1 => if_neg (h j j0 (by omega)))
theorem D_bd {w : Rw} (hw : WF w) (d : Int) {g : Int} (g0 : 0 ≤ g) (g1 : g < w 2) : (0 ≤ wishD w d g ∧ wishD w d g ≤ openD w d g) ∧ openD w d g ≤ 999999 := by
  by_cases c : ∃ i : Int, 0 ≤ i ∧ i < wMany w g ∧ wPd w (3 * g + i) = d
  · obtain ⟨i, i0, i1, e⟩ := c
    subst e
    rw [openD_part hw g0 g1 i0 i1, wishD_part hw g0 g1 i0 i1]
    have h1 := openS_bd hw g0 g1 i0 i1
    have h2 := wishS_bd hw g0 g1 i0 i1
    refine ⟨⟨h2.1, ?_⟩, h1.2⟩
    unfold wishS
    split <;> omega
  · have hn : ∀ i : Int, 0 ≤ i → i < wMany w g → wPd w (3 * g + i) ≠ d := fun i i0 i1 e => c ⟨i, i0, i1, e⟩
    rw [openD_none hn, wishD_none hn]
    decide
theorem wishW_bd {w : Rw} (hw : WF w) (d a b : Int) {g : Int} (g0 : 0 ≤ g) (g1 : g < w 2) : 0 ≤ wishW w d a b g ∧ wishW w d a b g ≤ 999999 := by
  have h := D_bd hw d g0 g1
  unfold wishW
  split <;> omega
theorem c4_wishOf {V : Sz} {w : Rw} (h : LR V w) {n : Nat} (hn : 100 ≤ n) {g d f : Int} (g0 : 0 ≤ g) (g1 : g < w 2) (hd : rng d) (hf : f = 0 ∨ f = 1) : f_X4_wishOf n V g d f = some (if f = 0 then wishD w d g else openD w d g) := by
  have hw := h.2.2.1
  have a0 := hw.2.1.1
  have a2 := hw.2.1.2.2.1
  have hgw := hw.2.2.2.2.1 g g0 g1
  have e14 : V 14 g.toNat = wMany w g := (h.1.2.2.2.1 g g0 g1).2.2.2.2
  refine tt_eq ?_
  unfold f_X4_wishOf
  refine tt_lp (I := fun i => (0 ≤ i ∧ i ≤ wMany w g) ∧ ∀ j : Int, 0 ≤ j → j < i → wPd w (3 * g + j) ≠ d) (μ := fun i => (3 - i).toNat) ?_ n 0 ⟨⟨Int.le_refl _, by omega⟩, fun j a b => by omega⟩ (by show (3 - (0 : Int)).toNat < n; omega)
  rintro i rec ⟨⟨i0, i1⟩, hno⟩ ih
  rw [bX4_wishOf_3_e, e14]
  refine tt_ck ⟨g0, by omega⟩ (tt_ck ⟨⟨by omega, by omega⟩, ⟨by omega, by omega⟩⟩ (tt_ite (fun c => tt_some ?_) (fun c => tt_nmE (fun x ex => ?_))))
  · have hn : ∀ i : Int, 0 ≤ i → i < wMany w g → wPd w (3 * g + i) ≠ d := fun j j0 j1 => hno j j0 (by omega)
    rw [openD_none hn, wishD_none hn]
    split <;> rfl
  have i2 : i < wMany w g := by omega
  have hpt := part_of hw g0 g1 i0 i2
  have hb := part_B hw g0 g1 i0 i2
  have hl := h.1.2.2.2.2.1 _ hpt.1.1 hpt.1.2 hb
  have hv := h.2.1 _ hpt.1.1 hpt.1.2 hb
  have hpw := hw.2.2.2.2.2.1 _ _ g0 g1 i0 i2
  rw [show x = 3 * g + i by omega, hl.1, hv.1, hv.2.1]
  refine tt_ck ⟨hpt.1.1, hpt.1.2⟩ (tt_ck ⟨⟨by omega, by omega⟩, hd⟩ (tt_ite (fun c2 => tt_ck (by rcases hf with e | e <;> rw [e] <;> exact ⟨by decide, by decide⟩) (tt_ite (fun c3 => tt_some ?_) (fun c3 => tt_some ?_))) (fun c2 => tt_nm (ih (i + 1) ⟨⟨by omega, by omega⟩, fun j j0 j1 => ?_⟩ (by omega)))))
  · rw [if_pos c3, ← c2, wishD_part hw g0 g1 i0 i2]
  · rw [if_neg c3, ← c2, openD_part hw g0 g1 i0 i2]
  · by_cases e : j = i
    · rw [e]; exact c2
    · exact hno j j0 (by omega)
theorem usW_bd {w : Rw} (hw : WF w) {d : Int} (d0 : 0 ≤ d) (d1 : d < w 0) (a b y : Int) {i : Nat} (hi : (i : Int) ≤ w 2) : 0 ≤ usedS (ordS w) (yrS w) (wishW w d a b) (wLim w d) y i ∧ usedS (ordS w) (yrS w) (wishW w d a b) (wLim w d) y i ≤ wLim w d ∧ wLim w d ≤ 999999 := by
  have hl := hw.2.2.1 d d0 d1
  have h := usedS_bd (o := ordS w) (yr := yrS w) (wd := wishW w d a b) (y := y) hl.1 i (fun j hj => (wishW_bd hw d a b (ordS_in (by omega)).1 (ordS_in (by omega)).2).1)
  exact ⟨h.1, h.2, hl.2⟩
theorem c4_aidWith {V : Sz} {w : Rw} (h : LR V w) {n : Nat} (hn : 1000 ≤ n) {d a b : Int} (d0 : 0 ≤ d) (d1 : d < w 0) (ha : rng a) (hb : rng b) : f_X4_aidWith n V d a b = some (gainF w d a b) := by
  have hw := h.2.2.1
  have a0 := hw.2.1.1
  have a2 := hw.2.1.2.2.1
  have e9 : V 9 0 = w 2 := h.1.1.2.2.2.2.2.1
  have e4 : V 4 d.toNat = wLim w d := h.1.2.1 d d0 d1
  obtain ⟨wd, hwd⟩ : ∃ wd, wd = wishW w d a b := ⟨_, rfl⟩
  refine tt_eq ?_
  unfold f_X4_aidWith
  refine tt_lp (I := fun z : Int × Int × Int × Int => (0 ≤ z.2.2.2 ∧ z.2.2.2 ≤ w 2) ∧ z.1 + z.2.1 = sumN (fun i => aidO w wd d i.toNat) z.2.2.2.toNat ∧ ((z.2.2.1 = -1 ∧ z.2.2.2 = 0) ∨ (0 < z.2.2.2 ∧ z.2.2.1 = yrS w (ordS w (z.2.2.2.toNat - 1)) ∧ z.2.1 = usedS (ordS w) (yrS w) wd (wLim w d) z.2.2.1 z.2.2.2.toNat))) (μ := fun z => (w 2 - z.2.2.2).toNat) ?_ n (0, 0, -1, 0) ⟨⟨Int.le_refl _, a2.1⟩, rfl, Or.inl ⟨rfl, rfl⟩⟩ (by show (w 2 - (0 : Int)).toNat < n; omega)
  rintro ⟨ad, us, yr, q⟩ rec ⟨⟨q0, q1⟩, hs, hy⟩ ih
  simp only at q0 q1 hs hy
  rw [bX4_aidWith_12_e, e9]
  refine tt_ck ⟨⟨by omega, by omega⟩, ⟨by omega, by omega⟩⟩ (tt_ite (fun c => tt_some ?_) (fun c => ?_))
  · rw [hs, show q = w 2 by omega, hwd]; rfl
  have hq : ((q.toNat : Nat) : Int) < w 2 := by omega
  have hg := ordS_in hq
  have hyb := yr_bd hw hg.1 hg.2
  have hgw := hw.2.2.2.2.1 _ hg.1 hg.2
  have e15 : V 15 q.toNat = ordS w q.toNat := h.1.2.2.2.2.2.1 q.toNat hq
  have e10 : V 10 (ordS w q.toNat).toNat = wDay w (ordS w q.toNat) := (h.1.2.2.2.1 _ hg.1 hg.2).1
  have hwb := wishW_bd hw d a b hg.1 hg.2
  have hub := usW_bd hw d0 d1 a b (yrS w (ordS w q.toNat)) (i := q.toNat) (by omega)
  rw [← hwd] at hwb hub
  have hyrb : rng yr := by
    rcases hy with ⟨e, _⟩ | ⟨_, e, _⟩
    · rw [e]; exact ⟨by decide, by decide⟩
    · have hg1 := ordS_in (w := w) (q := q.toNat - 1) (by omega)
      have := yr_bd hw hg1.1 hg1.2
      constructor <;> omega
  rw [e15]
  refine tt_ck ⟨q0, by omega⟩ (tt_nm ?_)
  rw [c3_yearOf h.1 hw hg.1 hg.2, bd_s, bd_s]
  have go : ∀ ad1 us1 : Int, ad1 + us1 = ad + us → us1 = usedS (ordS w) (yrS w) wd (wLim w d) (yrS w (ordS w q.toNat)) q.toNat → TT (jX4_aidWith_71 n V d a b rec ad1 us1 (yrS w (ordS w q.toNat)) q (ordS w q.toNat)) (fun r => r = gainF w d a b) := by
    intro ad1 us1 h1 h2
    have fin : ∀ f : Int, (f = 0 ∨ f = 1) → (if f = 0 then wishD w d (ordS w q.toNat) else openD w d (ordS w q.toNat)) = wd (ordS w q.toNat) → TT (jX4_aidWith_104 n V d a b rec ad1 us1 (yrS w (ordS w q.toNat)) q (ordS w q.toNat) f) (fun r => r = gainF w d a b) := by
      intro f hf hfe
      have hnext : min (wLim w d) (us1 + wd (ordS w q.toNat)) = usedS (ordS w) (yrS w) wd (wLim w d) (yrS w (ordS w q.toNat)) (q.toNat + 1) := by
        rw [usedS_succ, if_pos rfl, h2]
      have hused := aidG_used (o := ordS w) (yr := yrS w) (wd := wd) (lim := wLim w d) q.toNat
      unfold jX4_aidWith_104
      rw [c4_wishOf h (by omega) hg.1 hg.2 ⟨by omega, by omega⟩ hf, bd_s, hfe, e4]
      refine tt_ck ⟨d0, by omega⟩ (tt_ck ⟨⟨by omega, by omega⟩, ⟨by omega, by omega⟩⟩ (tt_nm (tt_nm ?_)))
      rw [hnext]
      refine ih (ad1, _, yrS w (ordS w q.toNat), q + 1) ⟨⟨by show 0 ≤ q + 1; omega, by show q + 1 ≤ w 2; omega⟩, ?_, Or.inr ⟨by show 0 < q + 1; omega, ?_, ?_⟩⟩ (by show (w 2 - (q + 1)).toNat < (w 2 - q).toNat; omega)
      · show ad1 + usedS (ordS w) (yrS w) wd (wLim w d) (yrS w (ordS w q.toNat)) (q.toNat + 1) = sumN (fun i => aidO w wd d i.toNat) (q + 1).toNat
        have e8 : aidO w wd d q.toNat = aidG (ordS w) (yrS w) wd (wLim w d) q.toNat := rfl
        rw [sumN_step _ q0, ← hs, hused]
        show _ = ad + us + aidO w wd d q.toNat
        omega
      · show yrS w (ordS w q.toNat) = yrS w (ordS w ((q + 1).toNat - 1))
        rw [show (q + 1).toNat - 1 = q.toNat by omega]
      · show _ = usedS (ordS w) (yrS w) wd (wLim w d) (yrS w (ordS w q.toNat)) (q + 1).toNat
        rw [show (q + 1).toNat = q.toNat + 1 by omega]
    unfold jX4_aidWith_71 jX4_aidWith_103
    rw [e10]
    refine tt_ck ⟨hg.1, by omega⟩ (tt_ck ⟨ha, ⟨by omega, by omega⟩⟩ (tt_ite (fun c2 => fin 0 (Or.inl rfl) ?_) (fun c2 => tt_ck hb (tt_ite (fun c3 => fin 0 (Or.inl rfl) ?_) (fun c3 => fin 1 (Or.inr rfl) ?_)))))
    · rw [if_pos rfl, hwd]; unfold wishW; rw [if_neg (by omega)]
    · rw [if_pos rfl, hwd]; unfold wishW; rw [if_neg (by omega)]
    · rw [if_neg (by decide), hwd]; unfold wishW; rw [if_pos (by omega)]
  refine tt_ck ⟨⟨by omega, by omega⟩, hyrb⟩ (tt_ite (fun c2 => ?_) (fun c2 => tt_nm (go _ _ (by omega) ?_)))
  · rcases hy with ⟨e, _⟩ | ⟨_, e, e3⟩
    · omega
    · rw [← c2]
      exact go ad us rfl (by rw [c2]; exact e3)
  · refine (usedS_fresh q.toNat (fun j hj e => ?_)).symm
    rcases hy with ⟨_, e1⟩ | ⟨e0, e1, e3⟩
    · omega
    · have h1 : yrS w (ordS w (q.toNat - 1)) ≤ yrS w (ordS w q.toNat) := ordS_days hw (by omega) hq
      have h2 : yrS w (ordS w j) ≤ yrS w (ordS w (q.toNat - 1)) := by
        by_cases e4 : j = q.toNat - 1
        · rw [e4]; exact Int.le_refl _
        · exact ordS_days hw (by omega) (by omega)
      omega
theorem sumD_base {w : Rw} (hw : WF w) {d : Int} (d0 : 0 ≤ d) (d1 : d < w 0) : sumD w d 2 (-1) = baseF w d := by
  unfold baseF
  rw [← donA_sum hw d0 d1]
  unfold sumD sumPS
  refine sumN_congr (fun p p0 p1 => ?_)
  by_cases c : partB w p = true
  · rw [if_pos c, if_pos c]
    show @ite Int (inS w d (-1) p) (Classical.propDecidable _) (measS w 2 p) 0 = (if wPd w p = d then aidS w p else 0)
    by_cases c2 : wPd w p = d
    · rw [if_pos c2]; exact if_pos ⟨c2, Or.inl rfl⟩
    · rw [if_neg c2]; exact if_neg (fun q => c2 q.1)
  · rw [if_neg c, if_neg c]
theorem c4_growthWith {V : Sz} {w : Rw} (h : LR V w) {n : Nat} (hn : 1000 ≤ n) {d a b : Int} (d0 : 0 ≤ d) (d1 : d < w 0) (ha : rng a) (hb : rng b) : f_X4_growthWith n V d a b = some (gainF w d a b - baseF w d) := by
  have a0 := h.2.2.1.2.1.1
  unfold f_X4_growthWith
  rw [c4_aidWith h hn d0 d1 ha hb, bd_s, c4_sumOfDonor h hn ⟨by omega, by omega⟩ ⟨by decide, by decide⟩ ⟨by decide, by decide⟩, bd_s, sumD_base h.2.2.1 d0 d1]
/-- the aid of a donor is not less with a span, and bounded -/
theorem F_mono {w : Rw} (hw : WF w) {d : Int} {wd wd1 : Int → Int} (hm : ∀ g : Int, 0 ≤ g → g < w 2 → wd g ≤ wd1 g) : donA w wd d ≤ donA w wd1 d := by
  have a2 := hw.2.1.2.2.1
  have hy : ∀ j : Nat, j < (w 2).toNat → 0 ≤ yrS w (ordS w j) ∧ yrS w (ordS w j) < ((28 : Nat) : Int) := fun j hj => by
    have hg := ordS_in (w := w) (q := j) (by omega)
    have := yr_bd hw hg.1 hg.2
    exact ⟨this.1, by omega⟩
  have e1 : donA w wd d = sumN (fun y => usedS (ordS w) (yrS w) wd (wLim w d) y (w 2).toNat) 28 := aidG_years (w 2).toNat hy
  have e2 : donA w wd1 d = sumN (fun y => usedS (ordS w) (yrS w) wd1 (wLim w d) y (w 2).toNat) 28 := aidG_years (w 2).toNat hy
  rw [e1, e2]
  refine sumN_mono (fun y _ _ => usedS_mono _ (fun j hj => ?_))
  have hg := ordS_in (w := w) (q := j) (by omega)
  exact hm _ hg.1 hg.2
theorem F_bd {w : Rw} (hw : WF w) {d : Int} (d0 : 0 ≤ d) (d1 : d < w 0) (a b : Int) : 0 ≤ baseF w d ∧ baseF w d ≤ gainF w d a b ∧ gainF w d a b ≤ 28 * 999999 := by
  have a2 := hw.2.1.2.2.1
  have hl := hw.2.2.1 d d0 d1
  have hy : ∀ j : Nat, j < (w 2).toNat → 0 ≤ yrS w (ordS w j) ∧ yrS w (ordS w j) < ((28 : Nat) : Int) := fun j hj => by
    have hg := ordS_in (w := w) (q := j) (by omega)
    have := yr_bd hw hg.1 hg.2
    exact ⟨this.1, by omega⟩
  refine ⟨?_, F_mono hw (fun g g0 g1 => ?_), ?_⟩
  · have e1 : baseF w d = sumN (fun y => usS w d y (w 2).toNat) 28 := aidG_years (w 2).toNat hy
    rw [e1]
    exact sumN_nonneg (fun y _ _ => (usS_bd hw d0 d1 y (by omega)).1)
  · have := D_bd hw d g0 g1
    unfold wishW
    split <;> omega
  · have e1 : gainF w d a b = sumN (fun y => usedS (ordS w) (yrS w) (wishW w d a b) (wLim w d) y (w 2).toNat) 28 := aidG_years (w 2).toNat hy
    rw [e1]
    exact sumN_le (n := 28) (fun y _ _ => by have := usW_bd hw d0 d1 a b y (i := (w 2).toNat) (by omega); omega)
/-- a question that leaves garbage behind the declarations -/
def AskW {α : Type} (cf : Nat → Int) (x : Option (α ⊕ Nat)) (V0 : Sz) (r : α × Sz) : Prop :=
  (∀ k : Nat, k ≠ 0 → k < 9 ∨ 13 < k → r.2 k = V0 k) ∧ Deq (V0 0) (r.2 0) ∧ ((r.2 9 0 = 0 ∧ x = some (.inl r.1)) ∨ ∃ e : Nat, x = some (.inr e) ∧ r.2 9 0 = cf e ∧ cf e ≠ 0)
def AskV {α : Type} (x : Option α) (V0 : Sz) (r : α × Sz) : Prop := (∀ k : Nat, k ≠ 0 → k < 9 ∨ 13 < k → r.2 k = V0 k) ∧ Deq (V0 0) (r.2 0) ∧ x = some r.1
theorem askw_no {α : Type} {cf : Nat → Int} {x : Option (α ⊕ Nat)} {V0 V : Sz} {v : α} {z : Int} {e : Nat} (hw : WF (V0 0)) (hx : x = some (.inr e)) (hT : Thr V0 V z) (hz : z = cf e) (h0 : z ≠ 0) : AskW cf x V0 (v, V) := ⟨fun k _ hk => hT.2 k (by omega), by show Deq (V0 0) (V 0); rw [hT.2 0 (by decide)]; exact deq_self hw, Or.inr ⟨e, hx, hT.1.trans hz, by rw [← hz]; exact h0⟩⟩
theorem ag_gainOf {V7 X V8 : Sz} (h : LR (sv 4 V7) (V8 0)) {n : Nat} (hn : 1000 ≤ n) {d a b : Int} (hd : rng d) (ha : rng a) (hb : rng b) : TT (f_X8_gainOf n V8 d a b) (AskW cdB (f_X7_gainOf n V7 X d a b) V8) := by
  have hw := h.2.2.1
  have h30 := h.2.2.2
  unfold f_X8_gainOf
  refine tt_bd (x8_noDonor hw hd) (fun ⟨r1, V2⟩ hr => ref_t hr (fun ok hT => ?_) (fun no hT => tt_some (askw_no (e := 0) hw ?_ hT rfl (by decide))))
  · refine tt_bd (x8_noSpan ha hb hT.1) (fun ⟨r3, V4⟩ hr3 => ref_f hr3 (fun ok3 hT3 => ?_) (fun no3 hT3 => tt_some (askw_no (e := 1) hw ?_ (hT.trans hT3) rfl (by decide))))
    · have hT4 := hT.trans hT3
      have e0 : V4 0 = V8 0 := hT4.2 0 (by decide)
      refine tt_bd (x8_aidWith (w := V8 0) hw h30 (by rw [e0]; exact deq_self hw) hn ok ⟨ok3.1, by omega⟩ ⟨by omega, ok3.2.2⟩) (fun ⟨r5, V6⟩ ⟨h5, h6, h7⟩ => ?_)
      have h5 : r5 = totS (V8 0) + (gainF (V8 0) d a b - baseF (V8 0) d) := h5
      have h6 : ∀ k : Nat, k ≠ 0 → k < 10 ∨ 13 < k → V6 k = V4 k := h6
      have h7 : Deq (V8 0) (V6 0) := h7
      refine tt_bd (x8_allAidD hw h30 h7 hn) (fun ⟨r7, V9⟩ ⟨h8, h9⟩ => tt_some ⟨fun k k0 k1 => ?_, ?_, Or.inl ⟨?_, ?_⟩⟩)
      · show V9 k = V8 k
        rw [show V9 k = V6 k from h9 k (by omega), h6 k k0 (by omega)]
        exact hT4.2 k (by omega)
      · show Deq (V8 0) (V9 0)
        rw [show V9 0 = V6 0 from h9 0 (by decide)]; exact h7
      · show V9 9 0 = 0
        rw [show V9 9 = V6 9 from h9 9 (by decide), h6 9 (by decide) (by decide)]
        exact hT4.1
      · have h8 : r7 = totS (V8 0) := h8
        show f_X7_gainOf n V7 X d a b = some (.inl (r5 - r7))
        unfold f_X7_gainOf
        rw [x7_donorY h hd ok, bx_l, x7_spanY ha hb ok3, bx_l, c4_growthWith h hn ok.1 ok.2 ha hb, h5, h8, show totS (V8 0) + (gainF (V8 0) d a b - baseF (V8 0) d) - totS (V8 0) = gainF (V8 0) d a b - baseF (V8 0) d by omega]; rfl
    · unfold f_X7_gainOf
      rw [x7_donorY h hd ok, bx_l, x7_spanN ha hb no3]; rfl
  · unfold f_X7_gainOf
    rw [x7_donorN h hd no]; rfl
theorem ag_bestAsked {V7 X V8 : Sz} (h : LR (sv 4 V7) (V8 0)) {n : Nat} (hn : 1000 ≤ n) : TT (f_X8_bestAsked n V8) (AskV (f_X7_bestAsked n V7 X) V8) := by
  have hw := h.2.2.1
  have h30 := h.2.2.2
  have a0 := hw.2.1.1
  have a1 := hw.2.1.2.1
  have htb := totS_bd hw
  obtain ⟨S, hS⟩ : ∃ S : Int → Int, S = fun k => gainF (V8 0) k 0 9999 - baseF (V8 0) k := ⟨_, rfl⟩
  have hSe : ∀ k, gainF (V8 0) k 0 9999 - baseF (V8 0) k = S k := fun k => by rw [hS]
  have hSb : ∀ k, 0 ≤ k → k < V8 0 0 → 0 ≤ S k ∧ S k ≤ 28 * 999999 := fun k k0 k1 => by
    have := F_bd hw k0 k1 0 9999
    have := hSe k
    omega
  have hMb : ∀ b M k : Int, ArgM S k b M → k ≤ V8 0 0 → 0 ≤ M ∧ M ≤ 28 * 999999 := fun b M k hm hk => by
    have hl := hm.le
    by_cases e : b = -1
    · have := hl.2.2.2.2.1 e; omega
    · have h1 := hl.2.2.2.2.2 e
      have := hSb b (by omega) (by omega)
      omega
  obtain ⟨b, eb, hb⟩ : ∃ b, f_X7_bestAsked n V7 X = some b ∧ ArgP S (V8 0 0) b := by
    have hx : TT (f_X7_bestAsked n V7 X) (fun b => ArgP S (V8 0 0) b) := by
      unfold f_X7_bestAsked
      refine tt_lp (I := fun z : Int × Int × Int => (0 ≤ z.2.2 ∧ z.2.2 ≤ V8 0 0) ∧ ArgM S z.2.2 z.1 z.2.1) (μ := fun z => (V8 0 0 - z.2.2).toNat) ?_ n (-1, 0, 0) ⟨⟨Int.le_refl _, a0.1⟩, ArgM.nil S⟩ (by show (V8 0 0 - (0 : Int)).toNat < n; omega)
      rintro ⟨b, m, k⟩ rec ⟨⟨k0, k1⟩, hm⟩ ih
      simp only at k0 k1 hm
      have hmb := hMb _ _ _ hm k1
      have e7 : V7 7 0 = V8 0 0 := h.at.2.2.2.1
      rw [bX7_bestAsked_6_e, e7]
      unfold jX7_bestAsked_42
      refine tt_ck ⟨⟨by omega, by omega⟩, ⟨by omega, by omega⟩⟩ (tt_ite (fun c2 => tt_some (argM_fin hm (by omega))) (fun c2 => ?_))
      have hk := hSb k k0 (by omega)
      rw [c4_growthWith h hn k0 (by omega) ⟨by decide, by decide⟩ ⟨by decide, by decide⟩, bd_s, hSe]
      refine tt_ck ⟨⟨by omega, by omega⟩, ⟨by omega, by omega⟩⟩ (tt_ite (fun c3 => tt_nm (ih (b, m, k + 1) ⟨⟨by show 0 ≤ k + 1; omega, by show k + 1 ≤ V8 0 0; omega⟩, hm.skip (by omega)⟩ (by show (V8 0 0 - (k + 1)).toNat < (V8 0 0 - k).toNat; omega))) (fun c3 => tt_nm (ih (k, S k, k + 1) ⟨⟨by show 0 ≤ k + 1; omega, by show k + 1 ≤ V8 0 0; omega⟩, hm.take k0 (by omega)⟩ (by show (V8 0 0 - (k + 1)).toNat < (V8 0 0 - k).toNat; omega))))
    obtain ⟨b, eb, hb⟩ := hx
    exact ⟨b, eb, hb⟩
  rw [eb]
  unfold f_X8_bestAsked
  refine tt_nmE (fun V1 e1 => ?_)
  have hT : Thr V8 V1 0 := by rw [e1]; exact Thr.zero V8 0
  have e0 : V1 0 = V8 0 := hT.2 0 (by decide)
  refine tt_bd (x8_allAidD (V0 := V1) hw h30 (by rw [e0]; exact deq_self hw) hn) (fun ⟨r2, V3⟩ ⟨h2, h3⟩ => ?_)
  have h2 : r2 = totS (V8 0) := h2
  have h3 : ∀ k : Nat, k < 10 ∨ 13 < k → V3 k = V1 k := h3
  refine tt_lp (I := fun z : Int × Int × Int × Sz => (0 ≤ z.2.2.1 ∧ z.2.2.1 ≤ V8 0 0) ∧ (∀ k : Nat, k ≠ 0 → k < 9 ∨ 13 < k → z.2.2.2 k = V8 k) ∧ Deq (V8 0) (z.2.2.2 0) ∧ ArgM S z.2.2.1 z.1 (z.2.1 - totS (V8 0))) (μ := fun z => (V8 0 0 - z.2.2.1).toNat) ?_ n (-1, r2, 0, V3) ⟨⟨Int.le_refl _, a0.1⟩, fun k k0 k1 => ?_, ?_, ?_⟩ (by show (V8 0 0 - (0 : Int)).toNat < n; omega)
  · rintro ⟨b1, m, k, V⟩ rec ⟨⟨k0, k1⟩, hk, hD, hm⟩ ih
    simp only at k0 k1 hk hD hm
    have hmb := hMb _ _ _ hm k1
    have e00 : V 0 0 = V8 0 0 := hD.1 0 (by omega) (by omega) (by omega)
    rw [bX8_bestAsked_14_e, e00]
    refine tt_ck ⟨⟨by omega, by omega⟩, ⟨by omega, by omega⟩⟩ (tt_ite (fun c2 => tt_some ⟨hk, hD, ?_⟩) (fun c2 => ?_))
    · rw [ArgP.uniq hb (argM_fin hm (show k = V8 0 0 by omega))]
    · have hkb := hSb k k0 (by omega)
      refine tt_bd (x8_aidWith (w := V8 0) hw h30 hD hn ⟨k0, by omega⟩ ⟨by decide, by decide⟩ ⟨by decide, by decide⟩) (fun ⟨r5, V6⟩ ⟨h5, h6, h7⟩ => ?_)
      have h5 : r5 = totS (V8 0) + (gainF (V8 0) k 0 9999 - baseF (V8 0) k) := h5
      rw [hSe] at h5
      have h6 : ∀ k : Nat, k ≠ 0 → k < 10 ∨ 13 < k → V6 k = V k := h6
      have h7 : Deq (V8 0) (V6 0) := h7
      have next : ∀ b2 m2 : Int, ArgM S (k + 1) b2 (m2 - totS (V8 0)) → TT (jX8_bestAsked_49 n rec b2 m2 k V6) (AskV (some b) V8) := by
        intro b2 m2 hA
        unfold jX8_bestAsked_49
        exact tt_nm (ih (b2, m2, k + 1, V6) ⟨⟨by show 0 ≤ k + 1; omega, by show k + 1 ≤ V8 0 0; omega⟩, fun j j0 j1 => (h6 j j0 (by omega)).trans (hk j j0 j1), h7, hA⟩ (by show (V8 0 0 - (k + 1)).toNat < (V8 0 0 - k).toNat; omega))
      refine tt_ck ⟨⟨by omega, by omega⟩, ⟨by omega, by omega⟩⟩ (tt_ite (fun c3 => next k r5 ?_) (fun c3 => next b1 m (hm.skip (by omega))))
      rw [show r5 - totS (V8 0) = S k by omega]
      exact hm.take k0 (by omega)
  · show V3 k = V8 k
    rw [h3 k (by omega)]; exact hT.2 k (by omega)
  · show Deq (V8 0) (V3 0)
    rw [h3 0 (by decide), e0]; exact deq_self hw
  · show ArgM S 0 (-1) (r2 - totS (V8 0))
    rw [show r2 - totS (V8 0) = 0 by omega]
    exact ArgM.nil S
