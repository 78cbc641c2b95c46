/-! the span that is needed -/
def There (w : Rw) (d g : Int) : Prop := ∃ i : Int, 0 ≤ i ∧ i < wMany w g ∧ wPd w (3 * g + i) = d
theorem there_no {w : Rw} {d g : Int} (h : ¬ There w d g) : openD w d g = 0 ∧ wishD w d g = 0 := by
  have hn : ∀ i : Int, 0 ≤ i → i < wMany w g → wPd w (3 * g + i) ≠ d := fun i i0 i1 e => h ⟨i, i0, i1, e⟩
  exact ⟨openD_none hn, wishD_none hn⟩
theorem G_mono {w : Rw} (hw : WF w) {d a b a1 b1 : Int} (ha : a1 ≤ a) (hb : b ≤ b1) : gainF w d a b ≤ gainF w d a1 b1 := by
  unfold gainF
  refine F_mono hw (fun g g0 g1 => ?_)
  have := D_bd hw d g0 g1
  unfold wishW
  by_cases c : a ≤ wDay w g ∧ wDay w g ≤ b
  · rw [if_pos c, if_pos (by omega)]; exact Int.le_refl _
  · rw [if_neg c]
    split <;> omega
theorem G_top {w : Rw} (hw : WF w) {d : Int} (a b : Int) : gainF w d a b ≤ gainF w d 0 9999 := by
  unfold gainF
  refine F_mono hw (fun g g0 g1 => ?_)
  have := D_bd hw d g0 g1
  have hgw := hw.2.2.2.2.1 g g0 g1
  unfold wishW
  rw [if_pos (show 0 ≤ wDay w g ∧ wDay w g ≤ 9999 by omega)]
  split <;> omega
theorem donA_same {w : Rw} (hw : WF w) {d : Int} {wd wd1 : Int → Int} (h : ∀ g : Int, 0 ≤ g → g < w 2 → wd1 g = wd g) : donA w wd1 d = donA w wd d :=
  donA_congr hw rfl (fun _ _ _ => rfl) rfl h
theorem G_empty {w : Rw} (hw : WF w) {d a b : Int} (h : b < a) : gainF w d a b = baseF w d := by
  unfold gainF baseF
  refine donA_same hw (fun g g0 g1 => ?_)
  unfold wishW
  rw [if_neg (by omega)]
/-- the least and the greatest, where there is one -/
theorem least_ex {P : Int → Prop} {D : Int → Int} : ∀ n : Nat, (∃ g : Int, 0 ≤ g ∧ g < (n : Int) ∧ P g) → ∃ g : Int, 0 ≤ g ∧ g < (n : Int) ∧ P g ∧ ∀ j : Int, 0 ≤ j → j < (n : Int) → P j → D g ≤ D j := by
  intro n
  induction n with
  | zero => rintro ⟨g, a, b, _⟩; omega
  | succ n ih =>
    intro hex
    by_cases c : ∃ g : Int, 0 ≤ g ∧ g < (n : Int) ∧ P g
    · obtain ⟨g, g0, g1, g2, g3⟩ := ih c
      by_cases c2 : P n ∧ D n < D g
      · refine ⟨n, by omega, by omega, c2.1, fun j j0 j1 jp => ?_⟩
        by_cases e : j = (n : Int)
        · rw [e]; exact Int.le_refl _
        · have := g3 j j0 (by omega) jp; omega
      · refine ⟨g, g0, by omega, g2, fun j j0 j1 jp => ?_⟩
        by_cases e : j = (n : Int)
        · subst e
          by_cases e2 : D n < D g
          · exact (c2 ⟨jp, e2⟩).elim
          · omega
        · exact g3 j j0 (by omega) jp
    · obtain ⟨g, g0, g1, g2⟩ := hex
      have eg : g = (n : Int) := by
        by_cases e : g = (n : Int)
        · exact e
        · exact (c ⟨g, g0, by omega, g2⟩).elim
      subst eg
      refine ⟨n, g0, g1, g2, fun j j0 j1 jp => ?_⟩
      by_cases e : j = (n : Int)
      · rw [e]; exact Int.le_refl _
      · exact (c ⟨j, j0, by omega, jp⟩).elim
def Vsp (w : Rw) (d f t : Int) : Prop := (0 ≤ f ∧ f ≤ t ∧ t ≤ 9999) ∧ gainF w d f t = gainF w d 0 9999
def Lex (f t f1 t1 : Int) : Prop := t - f < t1 - f1 ∨ (t - f = t1 - f1 ∧ f ≤ f1)
def Best (w : Rw) (d f t : Int) : Prop := Vsp w d f t ∧ ∀ f1 t1 : Int, Vsp w d f1 t1 → Lex f t f1 t1
theorem Best.uniq {w : Rw} {d f t f1 t1 : Int} (h : Best w d f t) (h1 : Best w d f1 t1) : f = f1 ∧ t = t1 := by
  have a := h.2 _ _ h1.1
  have b := h1.2 _ _ h.1
  unfold Lex at a b
  omega
/-- a span shrinks to days of gifts -/
theorem shrink {w : Rw} (hw : WF w) {d f t : Int} (hne : gainF w d 0 9999 ≠ baseF w d) (h : Vsp w d f t) : ∃ g1 g2 : Int, (0 ≤ g1 ∧ g1 < w 2) ∧ (0 ≤ g2 ∧ g2 < w 2) ∧ There w d g1 ∧ There w d g2 ∧ f ≤ wDay w g1 ∧ wDay w g1 ≤ wDay w g2 ∧ wDay w g2 ≤ t ∧ Vsp w d (wDay w g1) (wDay w g2) := by
  have a2 := hw.2.1.2.2.1
  obtain ⟨⟨f0, ft, t1⟩, hG⟩ := h
  have hex : ∃ g : Int, 0 ≤ g ∧ g < ((w 2).toNat : Int) ∧ (There w d g ∧ f ≤ wDay w g ∧ wDay w g ≤ t) := by
    by_cases c : ∃ g : Int, 0 ≤ g ∧ g < ((w 2).toNat : Int) ∧ (There w d g ∧ f ≤ wDay w g ∧ wDay w g ≤ t)
    · exact c
    · refine (hne ?_).elim
      rw [← hG]
      unfold gainF baseF
      refine donA_same hw (fun g g0 g1 => ?_)
      unfold wishW
      by_cases c2 : f ≤ wDay w g ∧ wDay w g ≤ t
      · rw [if_pos c2]
        have hn : ¬ There w d g := fun q => c ⟨g, g0, by omega, q, c2⟩
        rw [(there_no hn).1, (there_no hn).2]
      · rw [if_neg c2]
  obtain ⟨g1, p0, p1, p2, p3⟩ := least_ex (D := wDay w) (w 2).toNat hex
  obtain ⟨g2, q0, q1, q2, q3⟩ := least_ex (D := fun g => - wDay w g) (w 2).toNat hex
  have hle : wDay w g1 ≤ wDay w g2 := p3 g2 q0 q1 q2
  refine ⟨g1, g2, ⟨p0, by omega⟩, ⟨q0, by omega⟩, p2.1, q2.1, p2.2.1, hle, q2.2.2, ⟨by omega, hle, by omega⟩, ?_⟩
  rw [← hG]
  unfold gainF
  refine donA_same hw (fun g g0 g1' => ?_)
  unfold wishW
  by_cases c : There w d g
  · by_cases c2 : f ≤ wDay w g ∧ wDay w g ≤ t
    · have u1 := p3 g g0 (by omega) ⟨c, c2⟩
      have u2 : - wDay w g2 ≤ - wDay w g := q3 g g0 (by omega) ⟨c, c2⟩
      rw [if_pos c2, if_pos (by omega)]
    · rw [if_neg c2, if_neg (by omega)]
  · rw [(there_no c).1, (there_no c).2]
    split <;> split <;> rfl
theorem dayO_mono {w : Rw} {i j : Nat} (hij : i ≤ j) (hj : (j : Int) < w 2) : wDay w (ordS w i) ≤ wDay w (ordS w j) := by
  by_cases e : i = j
  · rw [e]; exact Int.le_refl _
  · exact ordA_sorted (wDay w) (w 2).toNat i j (by omega) (by omega)
theorem c4_endOfNeed {V : Sz} {w : Rw} (h : LR V w) {n : Nat} (hn : 1000 ≤ n) {d e : Int} (d0 : 0 ≤ d) (d1 : d < w 0) (he : rng e) : TT (f_X4_endOfNeed n V d e) (fun r => (gainF w d 0 9999 = baseF w d → r = -1) ∧ (gainF w d 0 9999 ≠ baseF w d → ∃ f t : Int, Best w d f t ∧ r = if e = 0 then f else t)) := by
  have hw := h.2.2.1
  have a0 := hw.2.1.1
  have a2 := hw.2.1.2.2.1
  have e9 : V 9 0 = w 2 := h.1.1.2.2.2.2.2.1
  have hFb := F_bd hw d0 d1 0 9999
  unfold f_X4_endOfNeed
  rw [c4_aidWith h hn d0 d1 ⟨by decide, by decide⟩ ⟨by decide, by decide⟩, bd_s, c4_sumOfDonor h hn ⟨by omega, by omega⟩ ⟨by decide, by decide⟩ ⟨by decide, by decide⟩, bd_s, sumD_base hw d0 d1]
  refine tt_ck ⟨⟨by omega, by omega⟩, ⟨by omega, by omega⟩⟩ (tt_ite (fun c => tt_some ⟨fun _ => rfl, fun q => (q c).elim⟩) (fun hne => ?_))
  have top := G_top hw (d := d)
  have valid0 : Vsp w d 0 9999 := ⟨⟨by decide, by decide, by decide⟩, rfl⟩
  have dayb : ∀ i : Nat, (i : Int) < w 2 → 0 ≤ wDay w (ordS w i) ∧ wDay w (ordS w i) ≤ 9999 := fun i hi => by
    have hg := ordS_in hi
    have := hw.2.2.2.2.1 _ hg.1 hg.2
    omega
  have rd15 : ∀ i : Int, 0 ≤ i → i < w 2 → V 15 i.toNat = ordS w i.toNat := fun i i0 i1 => h.1.2.2.2.2.2.1 i.toNat (by omega)
  have rd10 : ∀ i : Int, 0 ≤ i → i < w 2 → V 10 (ordS w i.toNat).toNat = wDay w (ordS w i.toNat) := fun i i0 i1 => by
    have hg := ordS_in (w := w) (q := i.toNat) (by omega)
    exact (h.1.2.2.2.1 _ hg.1 hg.2).1
  refine tt_lp (I := fun z : Int × Int × Int × Int × Int => z.1 = gainF w d 0 9999 ∧ Vsp w d z.2.1 z.2.2.1 ∧ (0 ≤ z.2.2.2.1 ∧ z.2.2.2.1 ≤ w 2) ∧ (0 ≤ z.2.2.2.2 ∧ z.2.2.2.2 ≤ w 2) ∧ (∀ j : Nat, (j : Int) < z.2.2.2.2 → ∀ t1 : Int, Vsp w d (wDay w (ordS w j)) t1 → Lex z.2.1 z.2.2.1 (wDay w (ordS w j)) t1) ∧ (z.2.2.2.2 < w 2 → (∀ j : Nat, (j : Int) < z.2.2.2.1 → gainF w d (wDay w (ordS w z.2.2.2.2.toNat)) (wDay w (ordS w j)) < gainF w d 0 9999) ∧ z.2.1 ≤ wDay w (ordS w z.2.2.2.2.toNat))) (μ := fun z => (w 2 - z.2.2.2.2).toNat) ?_ n (gainF w d 0 9999, 0, 9999, 0, 0) ⟨rfl, valid0, ⟨Int.le_refl _, a2.1⟩, ⟨Int.le_refl _, a2.1⟩, fun j hj => absurd hj (by show ¬ ((j : Int) < 0); omega), fun q => ⟨fun j hj => absurd hj (by show ¬ ((j : Int) < 0); omega), (dayb 0 (by have q : (0 : Int) < w 2 := q; omega)).1⟩⟩ (by show (w 2 - (0 : Int)).toNat < n; omega)
  rintro ⟨gl, fs, ls, tp, fr⟩ rec37 ⟨eg, hv, ⟨t0, t1⟩, ⟨f0, f1⟩, hA, hB⟩ ih37
  simp only at eg hv t0 t1 f0 f1 hA hB
  subst eg
  obtain ⟨⟨v0, v1, v2⟩, hvG⟩ := id hv
  rw [bX4_endOfNeed_37_e, e9]
  have done : w 2 ≤ fr → Best w d fs ls := by
    intro q
    refine ⟨hv, fun f1 t1 hs => ?_⟩
    obtain ⟨g1, g2, p1, p2, p3, p4, p5, p6, p7, p8⟩ := shrink hw hne hs
    obtain ⟨j, hj, ej⟩ := ordA_onto (wDay w) (n := (w 2).toNat) p1.1 (by omega)
    have ej : ordS w j = g1 := ej
    have := hA j (by omega) (wDay w g2) (by rw [ej]; exact p8)
    rw [ej] at this
    unfold Lex at this ⊢
    omega
  refine tt_ck ⟨⟨by omega, by omega⟩, ⟨by omega, by omega⟩⟩ (tt_ite (fun c => tt_ck he (tt_ite (fun c2 => tt_some ⟨fun q => (hne q).elim, fun _ => ⟨fs, ls, done c, by rw [if_pos c2]⟩⟩) (fun c2 => tt_some ⟨fun q => (hne q).elim, fun _ => ⟨fs, ls, done c, by rw [if_neg c2]⟩⟩))) (fun c => ?_))
  have hfr : fr < w 2 := by omega
  have hdf := dayb fr.toNat (by omega)
  have hgf := ordS_in (w := w) (q := fr.toNat) (by omega)
  obtain ⟨hB1, hB2⟩ := hB hfr
  rw [rd15 fr f0 hfr, rd10 fr f0 hfr]
  refine tt_ck ⟨f0, by omega⟩ (tt_ck ⟨hgf.1, by omega⟩ (tt_nm ?_))
  obtain ⟨st, est⟩ : ∃ st, st = wDay w (ordS w fr.toNat) := ⟨_, rfl⟩
  rw [← est] at hdf hB1 hB2 ⊢
  refine tt_lp (I := fun z : Int × Int × Int × Int × Int × Int => (z.1 = gainF w d 0 9999 ∧ z.2.1 = fs ∧ z.2.2.1 = ls ∧ z.2.2.2.2.1 = fr ∧ z.2.2.2.2.2 = st) ∧ (0 ≤ z.2.2.2.1 ∧ z.2.2.2.1 ≤ w 2) ∧ ∀ j : Nat, (j : Int) < z.2.2.2.1 → gainF w d st (wDay w (ordS w j)) < gainF w d 0 9999) (μ := fun z => (w 2 - z.2.2.2.1).toNat) ?_ n (gainF w d 0 9999, fs, ls, tp, fr, st) ⟨⟨rfl, rfl, rfl, rfl, rfl⟩, ⟨t0, t1⟩, hB1⟩ (by show (w 2 - tp).toNat < n; omega)
  rintro ⟨gl, fs1, ls1, tq, fr1, st1⟩ rec69 ⟨⟨u1, u2, u3, u4, u5⟩, ⟨q0, q1⟩, hC⟩ ih69
  simp only at u1 u2 u3 u4 u5 q0 q1 hC
  subst u1 u2 u3 u4 u5
  rw [bX4_endOfNeed_69_e, e9]
  -- behind the inner loop
  have turn : ∀ f2 l2 : Int, Vsp w d f2 l2 → f2 ≤ st1 → (∀ f3 t3 : Int, Lex fs1 ls1 f3 t3 → Lex f2 l2 f3 t3) → (∀ t3 : Int, Vsp w d st1 t3 → Lex f2 l2 st1 t3) → TT (jX4_endOfNeed_181 n V d e rec37 (gainF w d 0 9999) f2 l2 tq fr1) (fun r => (gainF w d 0 9999 = baseF w d → r = -1) ∧ (gainF w d 0 9999 ≠ baseF w d → ∃ f t : Int, Best w d f t ∧ r = if e = 0 then f else t)) := by
    intro f2 l2 hv2 hle hold hnew
    unfold jX4_endOfNeed_181
    refine tt_nm (ih37 (gainF w d 0 9999, f2, l2, tq, fr1 + 1) ⟨rfl, hv2, ⟨q0, q1⟩, ⟨by show 0 ≤ fr1 + 1; omega, by show fr1 + 1 ≤ w 2; omega⟩, fun j hj t3 hs => ?_, fun q => ⟨fun j hj => ?_, ?_⟩⟩ (by show (w 2 - (fr1 + 1)).toNat < (w 2 - fr1).toNat; omega))
    · have hj : (j : Int) < fr1 + 1 := hj
      by_cases e : j = fr1.toNat
      · subst e
        rw [← est] at hs ⊢
        exact hnew t3 hs
      · exact hold _ _ (hA j (by omega) t3 hs)
    · have q : fr1 + 1 < w 2 := q
      have hm := dayO_mono (w := w) (i := fr1.toNat) (j := (fr1 + 1).toNat) (by omega) (by omega)
      rw [← est] at hm
      have := hC j hj
      have := G_mono hw (d := d) (a := wDay w (ordS w (fr1 + 1).toNat)) (b := wDay w (ordS w j)) (a1 := st1) (b1 := wDay w (ordS w j)) hm (Int.le_refl _)
      show gainF w d (wDay w (ordS w (fr1 + 1).toNat)) (wDay w (ordS w j)) < gainF w d 0 9999
      omega
    · have q : fr1 + 1 < w 2 := q
      have hm := dayO_mono (w := w) (i := fr1.toNat) (j := (fr1 + 1).toNat) (by omega) (by omega)
      rw [← est] at hm
      show f2 ≤ wDay w (ordS w (fr1 + 1).toNat)
      omega
  -- a stop that serves st1 is not before the place tq
  have reach : ∀ t3 : Int, Vsp w d st1 t3 → tq < w 2 ∧ wDay w (ordS w tq.toNat) ≤ t3 := by
    intro t3 hs
    obtain ⟨g1, g2, p1, p2, p3, p4, p5, p6, p7, p8⟩ := shrink hw hne hs
    obtain ⟨j, hj, ej⟩ := ordA_onto (wDay w) (n := (w 2).toNat) p2.1 (by omega)
    have ej : ordS w j = g2 := ej
    have hge := G_mono hw (d := d) (a := wDay w g1) (b := wDay w g2) (a1 := st1) (b1 := wDay w g2) p5 (Int.le_refl _)
    rw [p8.2] at hge
    have hjq : ¬ (j : Int) < tq := fun q => by
      have := hC j q
      rw [ej] at this
      omega
    have := dayO_mono (w := w) (i := tq.toNat) (j := j) (by omega) (by omega)
    rw [ej] at this
    exact ⟨by omega, by omega⟩
  have out : (w 2 ≤ tq ∨ (tq < w 2 ∧ gainF w d 0 9999 ≤ gainF w d st1 (wDay w (ordS w tq.toNat)))) → TT (jX4_endOfNeed_116 n V d e rec37 (gainF w d 0 9999) fs1 ls1 tq fr1 st1) (fun r => (gainF w d 0 9999 = baseF w d → r = -1) ∧ (gainF w d 0 9999 ≠ baseF w d → ∃ f t : Int, Best w d f t ∧ r = if e = 0 then f else t)) := by
    intro hq
    unfold jX4_endOfNeed_116
    rw [e9]
    refine tt_ck ⟨⟨by omega, by omega⟩, ⟨by omega, by omega⟩⟩ (tt_ite (fun c2 => turn _ _ hv hB2 (fun _ _ x => x) (fun t3 hs => ?_)) (fun c2 => ?_))
    · have := (reach t3 hs).1; omega
    · have hqt : tq < w 2 := by omega
      have hdt := dayb tq.toNat (by omega)
      have hgt := ordS_in (w := w) (q := tq.toNat) (by omega)
      rw [rd15 tq q0 hqt, rd10 tq q0 hqt]
      have hG1 : gainF w d st1 (wDay w (ordS w tq.toNat)) = gainF w d 0 9999 := by
        have := top st1 (wDay w (ordS w tq.toNat))
        rcases hq with x | x <;> omega
      have hord : st1 ≤ wDay w (ordS w tq.toNat) := by
        by_cases x : st1 ≤ wDay w (ordS w tq.toNat)
        · exact x
        · rw [G_empty hw (by omega)] at hG1
          exact (hne hG1.symm).elim
      refine tt_ck ⟨q0, by omega⟩ (tt_ck ⟨hgt.1, by omega⟩ (tt_ck ⟨⟨by omega, by omega⟩, ⟨by omega, by omega⟩⟩ (tt_ite (fun c3 => turn _ _ hv hB2 (fun _ _ x => x) (fun t3 hs => ?_)) (fun c3 => tt_nm (turn _ _ ⟨⟨hdf.1, hord, hdt.2⟩, hG1⟩ (Int.le_refl _) (fun f3 t3 x => ?_) (fun t3 hs => ?_))))))
      · have := (reach t3 hs).2
        unfold Lex; omega
      · unfold Lex at x ⊢; omega
      · have := (reach t3 hs).2
        unfold Lex; omega
  refine tt_ck ⟨⟨by omega, by omega⟩, ⟨by omega, by omega⟩⟩ (tt_ite (fun c2 => out (Or.inl c2)) (fun c2 => ?_))
  have hqt : tq < w 2 := by omega
  have hdt := dayb tq.toNat (by omega)
  have hgt := ordS_in (w := w) (q := tq.toNat) (by omega)
  have hGb := F_bd hw d0 d1 st1 (wDay w (ordS w tq.toNat))
  rw [rd15 tq q0 hqt, rd10 tq q0 hqt, c4_aidWith h hn d0 d1 ⟨by omega, by omega⟩ ⟨by omega, by omega⟩, bd_s]
  refine tt_ck ⟨q0, by omega⟩ (tt_ck ⟨hgt.1, by omega⟩ (tt_ck ⟨⟨by omega, by omega⟩, ⟨by omega, by omega⟩⟩ (tt_ite (fun c3 => out (Or.inr ⟨hqt, c3⟩)) (fun c3 => tt_nm (ih69 (gainF w d 0 9999, fs1, ls1, tq + 1, fr1, st1) ⟨⟨rfl, rfl, rfl, rfl, rfl⟩, ⟨by show 0 ≤ tq + 1; omega, by show tq + 1 ≤ w 2; omega⟩, fun j hj => ?_⟩ (by show (w 2 - (tq + 1)).toNat < (w 2 - tq).toNat; omega))))))
  have hj : (j : Int) < tq + 1 := hj
  by_cases e : j = tq.toNat
  · rw [e]; omega
  · exact hC j (by omega)
theorem x8_isDonorThere {V : Sz} {w : Rw} (hw : WF w) (h30 : w 1 ≤ 30) (he : Deq w (V 0)) {n : Nat} (hn : 100 ≤ n) {d g : Int} (hd : rng d) (g0 : 0 ≤ g) (g1 : g < w 2) : TT (f_X8_isDonorThere n V d g) (fun r => r = true ↔ There w d g) := by
  have a0 := hw.2.1.1
  have a2 := hw.2.1.2.2.1
  have hgw := hw.2.2.2.2.1 g g0 g1
  have hA := (deq_leq he hw h30).1
  have em : V 0 (293 + g).toNat = wMany w g := (aeq_gift hA g0 (by omega)).2.2.2.1
  unfold f_X8_isDonorThere
  refine tt_lp (I := fun i => (0 ≤ i ∧ i ≤ wMany w g) ∧ ∀ j : Int, 0 ≤ j → j < i → wPd w (3 * g + j) ≠ d) (μ := fun i => (3 - i).toNat) ?_ n 0 ⟨⟨Int.le_refl _, by omega⟩, fun j a b => by omega⟩ (by show (3 - (0 : Int)).toNat < n; omega)
  rintro i rec ⟨⟨i0, i1⟩, hno⟩ ih
  rw [bX8_isDonorThere_2_e, em]
  refine tt_ck ⟨by omega, by omega⟩ (tt_ck ⟨⟨by omega, by omega⟩, ⟨by omega, by omega⟩⟩ (tt_ite (fun c => tt_some ⟨fun q => Bool.noConfusion (show false = true from q), fun ⟨j, j0, j1, j2⟩ => (hno j j0 (by omega) j2).elim⟩) (fun c => ?_)))
  have i2 : i < wMany w g := by omega
  have hpt := part_of hw g0 g1 i0 i2
  have hpw := hw.2.2.2.2.2.1 _ _ g0 g1 i0 i2
  have ep : V 0 (413 + (3 * g + i)).toNat = wPd w (3 * g + i) := (aeq_slot hA hpt.1.1 hpt.1.2).1
  rw [x8_partOf, bd_s, ep]
  refine tt_ck ⟨by omega, by omega⟩ (tt_ck ⟨⟨by omega, by omega⟩, hd⟩ (tt_ite (fun c2 => tt_some ⟨fun _ => ⟨i, i0, i2, c2⟩, fun _ => rfl⟩) (fun c2 => tt_nm (ih (i + 1) ⟨⟨by omega, by omega⟩, fun j j0 j1 => ?_⟩ (by omega)))))
  by_cases e : j = i
  · rw [e]; exact c2
  · exact hno j j0 (by omega)
theorem ag_neededSpan {V7 X V8 : Sz} (h : LR (sv 4 V7) (V8 0)) {n : Nat} (hn : 1000 ≤ n) {d e : Int} (hd : rng d) (he : rng e) : TT (f_X8_neededSpan n V8 d e) (AskW cdA (f_X7_neededSpan n V7 X d e) V8) := by
  have hw := h.2.2.1
  have h30 := h.2.2.2
  have a0 := hw.2.1.1
  have a1 := hw.2.1.2.1
  have a2 := hw.2.1.2.2.1
  unfold f_X8_neededSpan
  refine tt_bd (x8_noDonor hw hd) (fun ⟨r1, V2⟩ hr => ref_f hr (fun ok hT => ?_) (fun no hT => tt_some (askw_no (e := 0) hw ?_ hT rfl (by decide))))
  · obtain ⟨r7, e7, h7n, h7b⟩ := c4_endOfNeed h hn ok.1 ok.2 he
    have e7 : f_X7_neededSpan n V7 X d e = some (.inl r7) := by
      unfold f_X7_neededSpan
      rw [x7_donorY h hd ok, bx_l, e7]; rfl
    rw [e7]
    obtain ⟨w, hw0⟩ : ∃ w, w = V8 0 := ⟨_, rfl⟩
    have e0 : V2 0 = w := by rw [hw0]; exact hT.2 0 (by decide)
    unfold AskW
    rw [← hw0] at hw h30 a0 a1 a2 ok h7n h7b ⊢
    have hFb := F_bd hw ok.1 ok.2 0 9999
    have htb := totS_bd hw
    have top := G_top hw (d := d)
    refine tt_bd (x8_aidWith (w := w) hw h30 (by rw [e0]; exact deq_self hw) hn ok ⟨by decide, by decide⟩ ⟨by decide, by decide⟩) (fun ⟨r3, V4⟩ ⟨q3, k4, D4⟩ => ?_)
    have q3 : r3 = totS w + (gainF w d 0 9999 - baseF w d) := q3
    have k4 : ∀ k : Nat, k ≠ 0 → k < 10 ∨ 13 < k → V4 k = V2 k := k4
    have D4 : Deq w (V4 0) := D4
    refine tt_bd (x8_allAidD hw h30 D4 hn) (fun ⟨r5, V6⟩ ⟨q5, k6⟩ => ?_)
    have q5 : r5 = totS w := q5
    have k6 : ∀ k : Nat, k < 10 ∨ 13 < k → V6 k = V4 k := k6
    have D6 : Deq w (V6 0) := by rw [k6 0 (by decide)]; exact D4
    have K6 : ∀ k : Nat, k ≠ 0 → k < 10 ∨ 13 < k → V6 k = V2 k := fun k k0 k1 => (k6 k k1).trans (k4 k k0 k1)
    have fin : ∀ (V : Sz) (r : Int), (∀ k : Nat, k ≠ 0 → k < 10 ∨ 13 < k → V k = V2 k) → Deq w (V 0) → r = r7 → TT (some (r, V)) (fun r => (∀ k : Nat, k ≠ 0 → k < 9 ∨ 13 < k → r.2 k = V8 k) ∧ Deq w (r.2 0) ∧ ((r.2 9 0 = 0 ∧ (some (Sum.inl r7) : Option (Int ⊕ Nat)) = some (.inl r.1)) ∨ ∃ e : Nat, (some (Sum.inl r7) : Option (Int ⊕ Nat)) = some (.inr e) ∧ r.2 9 0 = cdA e ∧ cdA e ≠ 0)) := by
      intro V r hk hD hr
      refine tt_some ⟨fun k k0 k1 => ?_, hD, Or.inl ⟨?_, by rw [hr]⟩⟩
      · show V k = V8 k
        rw [hk k k0 (by omega)]; exact hT.2 k (by omega)
      · show V 9 0 = 0
        rw [hk 9 (by decide) (by decide)]; exact hT.1
    refine tt_ck ⟨⟨by omega, by omega⟩, ⟨by omega, by omega⟩⟩ (tt_ite (fun c => fin _ _ K6 D6 (h7n (by omega)).symm) (fun c => ?_))
    have hne : gainF w d 0 9999 ≠ baseF w d := fun q => c (by omega)
    obtain ⟨f7, t7, hb7, er7⟩ := h7b hne
    have valid0 : Vsp w d 0 9999 := ⟨⟨by decide, by decide, by decide⟩, rfl⟩
    have dayb : ∀ g : Int, 0 ≤ g → g < w 2 → 0 ≤ wDay w g ∧ wDay w g ≤ 9999 := fun g g0 g1 => by
      have := hw.2.2.2.2.1 g g0 g1
      omega
    refine tt_lp (I := fun z : Int × Int × Int × Int × Sz => z.1 = r3 ∧ Vsp w d z.2.1 z.2.2.1 ∧ (0 ≤ z.2.2.2.1 ∧ z.2.2.2.1 ≤ w 2) ∧ (∀ k : Nat, k ≠ 0 → k < 10 ∨ 13 < k → z.2.2.2.2 k = V2 k) ∧ Deq w (z.2.2.2.2 0) ∧ ∀ g1 g2 : Int, 0 ≤ g1 → g1 < z.2.2.2.1 → 0 ≤ g2 → g2 < w 2 → There w d g1 → There w d g2 → Vsp w d (wDay w g1) (wDay w g2) → Lex z.2.1 z.2.2.1 (wDay w g1) (wDay w g2)) (μ := fun z => (w 2 - z.2.2.2.1).toNat) ?_ n (r3, 0, 9999, 0, V6) ⟨rfl, valid0, ⟨Int.le_refl _, a2.1⟩, K6, D6, fun g1 g2 g0 g3 => absurd g3 (by show ¬ g1 < 0; omega)⟩ (by show (w 2 - (0 : Int)).toNat < n; omega)
    rintro ⟨du, fs, ls, a, V⟩ rec41 ⟨ed, hv, ⟨p0, p1⟩, hk, hD, hA⟩ ih41
    simp only at ed hv p0 p1 hk hD hA
    subst ed
    have e2 : V 0 2 = w 2 := hD.1 2 (by omega) (by omega) (by omega)
    rw [bX8_neededSpan_41_e, e2]
    have done : w 2 ≤ a → Best w d fs ls := by
      intro q
      refine ⟨hv, fun f1 t1 hs => ?_⟩
      obtain ⟨g1, g2, u1, u2, u3, u4, u5, u6, u7, u8⟩ := shrink hw hne hs
      have := hA g1 g2 u1.1 (by omega) u2.1 u2.2 u3 u4 u8
      unfold Lex at this ⊢
      omega
    refine tt_ck ⟨⟨by omega, by omega⟩, ⟨by omega, by omega⟩⟩ (tt_ite (fun c1 => tt_ck he (tt_ite (fun c2 => fin _ _ hk hD ?_) (fun c2 => fin _ _ hk hD ?_))) (fun c1 => ?_))
    · rw [er7, if_pos c2]; exact ((done c1).uniq hb7).1
    · rw [er7, if_neg c2]; exact ((done c1).uniq hb7).2
    have ha2 : a < w 2 := by omega
    refine tt_lp (I := fun z : Int × Int × Int × Int × Int × Sz => (z.1 = du ∧ z.2.2.2.1 = a) ∧ Vsp w d z.2.1 z.2.2.1 ∧ (0 ≤ z.2.2.2.2.1 ∧ z.2.2.2.2.1 ≤ w 2) ∧ (∀ k : Nat, k ≠ 0 → k < 10 ∨ 13 < k → z.2.2.2.2.2 k = V2 k) ∧ Deq w (z.2.2.2.2.2 0) ∧ ∀ g1 g2 : Int, 0 ≤ g1 → 0 ≤ g2 → g2 < w 2 → (g1 < a ∨ (g1 = a ∧ g2 < z.2.2.2.2.1)) → There w d g1 → There w d g2 → Vsp w d (wDay w g1) (wDay w g2) → Lex z.2.1 z.2.2.1 (wDay w g1) (wDay w g2)) (μ := fun z => (w 2 - z.2.2.2.2.1).toNat) ?_ n (du, fs, ls, a, 0, V) ⟨⟨rfl, rfl⟩, hv, ⟨Int.le_refl _, a2.1⟩, hk, hD, fun g1 g2 g0 g3 g4 g5 => hA g1 g2 g0 (by have g5 : g1 < a ∨ (g1 = a ∧ g2 < 0) := g5; show g1 < a; omega) g3 g4⟩ (by show (w 2 - (0 : Int)).toNat < n; omega)
    rintro ⟨du1, fs1, ls1, a1', b, V1⟩ rec55 ⟨⟨w1, w2'⟩, hv1, ⟨b0, b1⟩, hk1, hD1, hA1⟩ ih55
    simp only at w1 w2' hv1 b0 b1 hk1 hD1 hA1
    subst w1 w2'
    obtain ⟨⟨v0, v1, v2⟩, hvG⟩ := id hv1
    have e21 : V1 0 2 = w 2 := hD1.1 2 (by omega) (by omega) (by omega)
    rw [bX8_neededSpan_55_e, e21]
    refine tt_ck ⟨⟨by omega, by omega⟩, ⟨by omega, by omega⟩⟩ (tt_ite (fun c2 => tt_nm (ih41 (du1, fs1, ls1, a1' + 1, V1) ⟨rfl, hv1, ⟨by show 0 ≤ a1' + 1; omega, by show a1' + 1 ≤ w 2; omega⟩, hk1, hD1, fun g1 g2 g0 g3 g4 g5 => hA1 g1 g2 g0 g4 g5 (by have g3 : g1 < a1' + 1 := g3; omega)⟩ (by show (w 2 - (a1' + 1)).toNat < (w 2 - a1').toNat; omega))) (fun c2 => ?_))
    have hb2 : b < w 2 := by omega
    have hAe := (deq_leq hD1 hw h30).1
    have ea : V1 0 (113 + a1').toNat = wDay w a1' := (aeq_gift hAe p0 (by omega)).1
    have eb : V1 0 (113 + b).toNat = wDay w b := (aeq_gift hAe b0 (by omega)).1
    have hda := dayb a1' p0 ha2
    have hdb := dayb b b0 hb2
    rw [ea, eb]
    have next : ∀ (f2 l2 : Int) (V3 : Sz), Vsp w d f2 l2 → (∀ k : Nat, k ≠ 0 → k < 10 ∨ 13 < k → V3 k = V2 k) → Deq w (V3 0) → (∀ f3 t3 : Int, Lex fs1 ls1 f3 t3 → Lex f2 l2 f3 t3) → (There w d a1' → There w d b → Vsp w d (wDay w a1') (wDay w b) → Lex f2 l2 (wDay w a1') (wDay w b)) → TT (jX8_neededSpan_177 n d e rec41 rec55 du1 f2 l2 a1' b V3) (fun r => (∀ k : Nat, k ≠ 0 → k < 9 ∨ 13 < k → r.2 k = V8 k) ∧ Deq w (r.2 0) ∧ ((r.2 9 0 = 0 ∧ (some (Sum.inl r7) : Option (Int ⊕ Nat)) = some (.inl r.1)) ∨ ∃ e : Nat, (some (Sum.inl r7) : Option (Int ⊕ Nat)) = some (.inr e) ∧ r.2 9 0 = cdA e ∧ cdA e ≠ 0)) := by
      intro f2 l2 V3 hv3 hk3 hD3 hold hnew
      unfold jX8_neededSpan_177
      refine tt_nm (ih55 (du1, f2, l2, a1', b + 1, V3) ⟨⟨rfl, rfl⟩, hv3, ⟨by show 0 ≤ b + 1; omega, by show b + 1 ≤ w 2; omega⟩, hk3, hD3, fun g1 g2 g0 g3 g4 g5 t1 t2 t3 => ?_⟩ (by show (w 2 - (b + 1)).toNat < (w 2 - b).toNat; omega))
      have g5 : g1 < a1' ∨ (g1 = a1' ∧ g2 < b + 1) := g5
      by_cases e9 : g1 = a1' ∧ g2 = b
      · obtain ⟨e91, e92⟩ := e9
        rw [e91] at t1 t3 ⊢
        rw [e92] at t2 t3 ⊢
        exact hnew t1 t2 t3
      · exact hold _ _ (hA1 g1 g2 g0 g3 g4 (by omega) t1 t2 t3)
    have stay : (There w d a1' → There w d b → Vsp w d (wDay w a1') (wDay w b) → Lex fs1 ls1 (wDay w a1') (wDay w b)) → ∀ V3 : Sz, (∀ k : Nat, k ≠ 0 → k < 10 ∨ 13 < k → V3 k = V2 k) → Deq w (V3 0) → TT (jX8_neededSpan_177 n d e rec41 rec55 du1 fs1 ls1 a1' b V3) (fun r => (∀ k : Nat, k ≠ 0 → k < 9 ∨ 13 < k → r.2 k = V8 k) ∧ Deq w (r.2 0) ∧ ((r.2 9 0 = 0 ∧ (some (Sum.inl r7) : Option (Int ⊕ Nat)) = some (.inl r.1)) ∨ ∃ e : Nat, (some (Sum.inl r7) : Option (Int ⊕ Nat)) = some (.inr e) ∧ r.2 9 0 = cdA e ∧ cdA e ≠ 0)) := fun hh V3 hk3 hD3 => next fs1 ls1 V3 hv1 hk3 hD3 (fun _ _ x => x) hh
    have try130 : wDay w a1' ≤ wDay w b → (wDay w b - wDay w a1' < ls1 - fs1 ∨ (wDay w b - wDay w a1' = ls1 - fs1 ∧ wDay w a1' < fs1)) → TT (jX8_neededSpan_130 n d e rec41 rec55 du1 fs1 ls1 a1' b (wDay w a1') (wDay w b) V1) (fun r => (∀ k : Nat, k ≠ 0 → k < 9 ∨ 13 < k → r.2 k = V8 k) ∧ Deq w (r.2 0) ∧ ((r.2 9 0 = 0 ∧ (some (Sum.inl r7) : Option (Int ⊕ Nat)) = some (.inl r.1)) ∨ ∃ e : Nat, (some (Sum.inl r7) : Option (Int ⊕ Nat)) = some (.inr e) ∧ r.2 9 0 = cdA e ∧ cdA e ≠ 0)) := by
      intro hab hlt
      unfold jX8_neededSpan_130
      refine tt_bd (x8_isDonorThere hw h30 hD1 (by omega) hd p0 ha2) (fun r19 h19 => ?_)
      refine tt_ite (fun c3 => stay (fun t1 _ _ => ?_) V1 hk1 hD1) (fun c3 => ?_)
      · have := h19.mpr t1
        rw [c3] at this; exact Bool.noConfusion this
      refine tt_bd (x8_isDonorThere hw h30 hD1 (by omega) hd b0 hb2) (fun r20 h20 => ?_)
      refine tt_ite (fun c4 => ?_) (fun c4 => stay (fun _ t2 _ => (c4 (h20.mpr t2)).elim) V1 hk1 hD1)
      refine tt_bd (x8_aidWith (w := w) hw h30 hD1 hn ok hda ⟨by omega, by omega⟩) (fun ⟨r21, V22⟩ ⟨q21, k22, D22⟩ => ?_)
      have q21 : r21 = totS w + (gainF w d (wDay w a1') (wDay w b) - baseF w d) := q21
      have k22 : ∀ k : Nat, k ≠ 0 → k < 10 ∨ 13 < k → V22 k = V1 k := k22
      have D22 : Deq w (V22 0) := D22
      have hGb := F_bd hw ok.1 ok.2 (wDay w a1') (wDay w b)
      have K22 : ∀ k : Nat, k ≠ 0 → k < 10 ∨ 13 < k → V22 k = V2 k := fun k k0 k1 => (k22 k k0 k1).trans (hk1 k k0 k1)
      refine tt_ck ⟨⟨by omega, by omega⟩, ⟨by omega, by omega⟩⟩ (tt_ite (fun c5 => next _ _ V22 ⟨⟨hda.1, hab, hdb.2⟩, by omega⟩ K22 D22 (fun f3 t3 x => ?_) (fun _ _ _ => Or.inr ⟨rfl, Int.le_refl _⟩)) (fun c5 => stay (fun _ _ t3 => ?_) V22 K22 D22))
      · unfold Lex at x ⊢; omega
      · have := t3.2
        omega
    refine tt_ck ⟨by omega, by omega⟩ (tt_nm (tt_ck ⟨by omega, by omega⟩ (tt_nm (tt_ck ⟨⟨by omega, by omega⟩, ⟨by omega, by omega⟩⟩ ?_))))
    refine tt_ite (fun c3 => stay (fun _ _ t3 => by have := t3.1; omega) V1 hk1 hD1) (fun c3 => tt_ck ⟨⟨by omega, by omega⟩, ⟨by omega, by omega⟩⟩ ?_)
    refine tt_ite (fun c4 => stay (fun _ _ _ => by unfold Lex; omega) V1 hk1 hD1) (fun c4 => ?_)
    refine tt_ite (fun c5 => tt_ck ⟨by omega, by omega⟩ (tt_ite (fun c6 => stay (fun _ _ _ => by unfold Lex; omega) V1 hk1 hD1) (fun c6 => try130 (by omega) (by omega)))) (fun c5 => try130 (by omega) (by omega))
  · unfold f_X7_neededSpan
    rw [x7_donorN h hd no]; rfl
