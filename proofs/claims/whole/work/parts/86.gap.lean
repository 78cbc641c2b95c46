/-! gaps -/
def startI (w : Rw) (d t : Int) : Int := if forB w d t = false ∧ (t = 0 ∨ forB w d (t - 1) = true) then 1 else 0
def startN (w : Rw) (d t : Int) : Int := sumN (startI w d) t.toNat
theorem startI_bd (w : Rw) (d t : Int) : 0 ≤ startI w d t ∧ startI w d t ≤ 1 := by
  unfold startI
  split <;> omega
theorem startN_step {w : Rw} {d t : Int} (h : 0 ≤ t) : startN w d (t + 1) = startN w d t + startI w d t := sumN_step _ h
theorem startN_bd {w : Rw} {d : Int} : ∀ n : Nat, 0 ≤ startN w d n ∧ startN w d n ≤ n := by
  intro n
  induction n with
  | zero => exact ⟨Int.le_refl _, Int.le_refl _⟩
  | succ n ih =>
    have h := startN_step (w := w) (d := d) (t := n) (by omega)
    have hb := startI_bd w d n
    rw [show ((n + 1 : Nat) : Int) = (n : Int) + 1 by omega]
    omega
theorem startN_mono {w : Rw} {d s : Int} (h0 : 0 ≤ s) : ∀ n : Nat, startN w d s ≤ startN w d (s + n) := by
  intro n
  induction n with
  | zero => rw [show s + ((0 : Nat) : Int) = s by omega]; exact Int.le_refl _
  | succ n ih =>
    have h := startN_step (w := w) (d := d) (t := s + n) (by omega)
    have hb := startI_bd w d (s + n)
    rw [show s + ((n + 1 : Nat) : Int) = s + n + 1 by omega]
    omega
theorem startN_lt {w : Rw} {d s t : Int} (h0 : 0 ≤ s) (h : s < t) (hs : startI w d s = 1) : startN w d s < startN w d t := by
  have h1 := startN_step (w := w) (d := d) h0
  have h2 := startN_mono (w := w) (d := d) (s := s + 1) (by omega) (t - (s + 1)).toNat
  rw [show s + 1 + (((t - (s + 1)).toNat : Nat) : Int) = t by omega] at h2
  omega
/-- no start in between -/
theorem startN_flat {w : Rw} {d s : Int} (h0 : 0 ≤ s) : ∀ n : Nat, (∀ t : Int, s ≤ t → t < s + n → startI w d t = 0) → startN w d (s + n) = startN w d s := by
  intro n
  induction n with
  | zero => intro _; rw [show s + ((0 : Nat) : Int) = s by omega]
  | succ n ih =>
    intro hh
    have h := startN_step (w := w) (d := d) (t := s + n) (by omega)
    have hz := hh (s + n) (by omega) (by omega)
    have hi := ih (fun t a b => hh t a (by omega))
    rw [show s + ((n + 1 : Nat) : Int) = s + n + 1 by omega]
    omega
theorem startN_eq {w : Rw} {d s e : Int} (h0 : 0 ≤ s) (h : s ≤ e) (hz : ∀ t : Int, s ≤ t → t < e → startI w d t = 0) : startN w d e = startN w d s := by
  have := startN_flat (w := w) (d := d) h0 (e - s).toNat (fun t a b => hz t a (by omega))
  rw [show s + (((e - s).toNat : Nat) : Int) = e by omega] at this
  exact this
theorem startI_one {w : Rw} {d t : Int} (h1 : forB w d t = false) (h2 : t = 0 ∨ forB w d (t - 1) = true) : startI w d t = 1 := if_pos ⟨h1, h2⟩
theorem startI_cov {w : Rw} {d t : Int} (h1 : forB w d t = true) : startI w d t = 0 := if_neg (fun q => by rw [h1] at q; exact Bool.noConfusion q.1)
theorem startI_in {w : Rw} {d t : Int} (h0 : t ≠ 0) (h1 : forB w d (t - 1) = false) : startI w d t = 0 := if_neg (fun q => by
  rcases q.2 with e | e
  · exact h0 e
  · rw [h1] at e; exact Bool.noConfusion e)
theorem startI_at {w : Rw} {d t : Int} (h : startI w d t = 1) : forB w d t = false ∧ (t = 0 ∨ forB w d (t - 1) = true) := by
  unfold startI at h
  by_cases c : forB w d t = false ∧ (t = 0 ∨ forB w d (t - 1) = true)
  · exact c
  · rw [if_neg c] at h; exact absurd h (by decide)
/-- the gap number i is from s to e -/
def GapP (w : Rw) (d i s e : Int) : Prop := (0 ≤ s ∧ s ≤ e ∧ e ≤ 9999) ∧ (∀ t : Int, s ≤ t → t ≤ e → forB w d t = false) ∧ startI w d s = 1 ∧ (e = 9999 ∨ forB w d (e + 1) = true) ∧ startN w d s = i
theorem GapP.uniq {w : Rw} {d i s e s1 e1 : Int} (h : GapP w d i s e) (h1 : GapP w d i s1 e1) : s = s1 ∧ e = e1 := by
  obtain ⟨⟨a0, a1, a2⟩, b, c, g, k⟩ := h
  obtain ⟨⟨p0, p1, p2⟩, q, r, u, v⟩ := h1
  have es : s = s1 := by
    rcases Int.lt_trichotomy s s1 with x | x | x
    · have := startN_lt a0 x c; omega
    · exact x
    · have := startN_lt p0 x r; omega
  refine ⟨es, ?_⟩
  subst es
  rcases Int.lt_trichotomy e e1 with x | x | x
  · rcases g with y | y
    · omega
    · have := q (e + 1) (by omega) (by omega)
      rw [y] at this; exact Bool.noConfusion this
  · exact x
  · rcases u with y | y
    · omega
    · have := b (e1 + 1) (by omega) (by omega)
      rw [y] at this; exact Bool.noConfusion this
/-- the answer -/
def GapA (w : Rw) (d i f r : Int) : Prop := (∃ s e : Int, GapP w d i s e ∧ r = if f = 0 then s else e) ∨ ((∀ s e : Int, ¬ GapP w d i s e) ∧ r = -1)
theorem GapA.uniq {w : Rw} {d i f r r1 : Int} (h : GapA w d i f r) (h1 : GapA w d i f r1) : r = r1 := by
  rcases h with ⟨s, e, hp, er⟩ | ⟨hn, er⟩
  · rcases h1 with ⟨s1, e1, hp1, er1⟩ | ⟨hn1, er1⟩
    · obtain ⟨es, ee⟩ := hp.uniq hp1
      rw [er, er1, es, ee]
    · exact (hn1 s e hp).elim
  · rcases h1 with ⟨s1, e1, hp1, er1⟩ | ⟨hn1, er1⟩
    · exact (hn s1 e1 hp1).elim
    · rw [er, er1]
/-- a gap ends somewhere -/
theorem gap_end {w : Rw} {d : Int} : ∀ (n : Nat) (s : Int), s + n = 9999 → forB w d s = false → ∃ e : Int, s ≤ e ∧ e ≤ 9999 ∧ (∀ t : Int, s ≤ t → t ≤ e → forB w d t = false) ∧ (e = 9999 ∨ forB w d (e + 1) = true) := by
  intro n
  induction n with
  | zero => intro s hs hf; exact ⟨s, Int.le_refl _, by omega, fun t a b => by rw [show t = s by omega]; exact hf, Or.inl (by omega)⟩
  | succ n ih =>
    intro s hs hf
    cases hb : forB w d (s + 1) with
    | true => exact ⟨s, Int.le_refl _, by omega, fun t a b => by rw [show t = s by omega]; exact hf, Or.inr hb⟩
    | false =>
      obtain ⟨e, e0, e1, e2, e3⟩ := ih (s + 1) (by omega) hb
      refine ⟨e, by omega, e1, fun t a b => ?_, e3⟩
      by_cases c : t = s
      · rw [c]; exact hf
      · exact e2 t (by omega) b
theorem c1_endOfGap {V : Sz} {w : Rw} (h : LR0 V w) (hw : WF w) (h30 : w 1 ≤ 30) {n : Nat} (hn : 100 ≤ n) {d i f : Int} (hd : rng d) (hi : rng i) (hf : rng f) : TT (f_X1_endOfGap n (sv 5 V) d i f) (fun r => GapA w d i f r) := by
  have a1 := hw.2.1.2.1
  have ec : sv 5 V 0 0 = w 1 := h.1.2.2.2.2.1
  have hF : ∀ t : Int, Cov w d (-1) t ↔ forB w d t = true := fun t => Cov_for a1.1
  have hN : ∀ t : Int, ¬ Cov w d (-1) t → forB w d t = false := fun t q => by
    cases hb : forB w d t with
    | false => rfl
    | true => exact (q ((hF t).mpr hb)).elim
  unfold f_X1_endOfGap
  refine tt_bd (c1_openFrom h hw h30 hn hd (x := -1) ⟨by decide, by decide⟩ (by decide) (by decide)) (fun o ⟨o0, o1, oc, on⟩ => ?_)
  refine tt_lp (I := fun z : Int × Int => (0 ≤ z.2 ∧ z.2 ≤ w 1 + 1) ∧ (0 ≤ z.1 ∧ z.1 ≤ 10000) ∧ (z.1 < 10000 → startI w d z.1 = 1 ∧ lateN w z.1 + z.2 ≤ w 1) ∧ startN w d z.1 ≤ z.2 ∧ (z.1 < 10000 → startN w d z.1 = z.2) ∧ ¬ (0 ≤ i ∧ i < z.2)) (μ := fun z => (w 1 + 1 - z.2).toNat) ?_ n (o, 0) ⟨⟨Int.le_refl _, by show (0 : Int) ≤ w 1 + 1; omega⟩, ⟨o0, o1⟩, fun q => ⟨startI_one (hN o on) ?_, ?_⟩, ?_, fun q => ?_, by show ¬ (0 ≤ i ∧ i < (0 : Int)); omega⟩ (by show (w 1 + 1 - (0 : Int)).toNat < n; omega)
  · rintro ⟨st, gp⟩ rec ⟨⟨g0, g1⟩, ⟨s0, s1⟩, hs, hle, hsn, hni⟩ ih
    simp only at g0 g1 s0 s1 hs hle hsn hni
    rw [bX1_endOfGap_12_e, ec]
    have hnone : st ≥ 10000 → GapA w d i f (-1) := by
      intro q
      refine Or.inr ⟨fun s e hp => ?_, rfl⟩
      obtain ⟨⟨p0, p1, p2⟩, _, p3, _, p4⟩ := hp
      have := startN_lt (w := w) (d := d) (s := s) (t := st) p0 (by omega) p3
      have hb := startN_bd (w := w) (d := d) s.toNat
      rw [show ((s.toNat : Nat) : Int) = s by omega] at hb
      omega
    refine tt_ck ⟨⟨by omega, by omega⟩, ⟨by omega, by omega⟩⟩ (tt_ite (fun c => tt_some (hnone ?_)) (fun c => tt_ck ⟨by omega, by omega⟩ (tt_ite (fun c2 => tt_some (hnone (by omega))) (fun c2 => ?_))))
    · by_cases c3 : st < 10000
      · have := (hs c3).2
        have h0 : 0 ≤ lateN w st := by unfold lateN; exact sumN_nonneg (fun k _ _ => by show (0 : Int) ≤ if _ then _ else _; split <;> decide)
        omega
      · omega
    have hs1 := hs (by omega)
    have hsa := startI_at hs1.1
    refine tt_bd (c1_coveredFrom h hw h30 hn hd s0 s1) (fun x ⟨x0, x1, xn, xc⟩ => ?_)
    have hx : st < x := by
      by_cases e : x = st
      · have := (hF x).mp (xc (by omega))
        rw [e, hsa.1] at this; exact Bool.noConfusion this
      · omega
    refine tt_ck hi (tt_ite (fun c3 => tt_ck hf (tt_ite (fun c4 => tt_some ?_) (fun c4 => tt_some ?_))) (fun c3 => ?_))
    · have hg : GapP w d i st (x - 1) := ⟨⟨s0, by omega, by omega⟩, fun t t0 t1 => hN t (xn t t0 (by omega)), hs1.1, by
        by_cases e : x = 10000
        · exact Or.inl (by omega)
        · exact Or.inr (by rw [show x - 1 + 1 = x by omega]; exact (hF x).mp (xc (by omega))), by rw [hsn (by omega)]; exact c3⟩
      exact Or.inl ⟨st, x - 1, hg, by rw [if_pos c4]⟩
    · have hg : GapP w d i st (x - 1) := ⟨⟨s0, by omega, by omega⟩, fun t t0 t1 => hN t (xn t t0 (by omega)), hs1.1, by
        by_cases e : x = 10000
        · exact Or.inl (by omega)
        · exact Or.inr (by rw [show x - 1 + 1 = x by omega]; exact (hF x).mp (xc (by omega))), by rw [hsn (by omega)]; exact c3⟩
      exact Or.inl ⟨st, x - 1, hg, by rw [if_neg c4]⟩
    · refine tt_bd (c1_openFrom h hw h30 hn hd (x := -1) ⟨by decide, by decide⟩ (by omega) x1) (fun o ⟨o0, o1, oc, on⟩ => tt_nm ?_)
      have hN1 : startN w d o = gp + 1 := by
        have h1 := startN_step (w := w) (d := d) (t := st) s0
        have h2 : startN w d o = startN w d (st + 1) := startN_eq (by omega) (by omega) (fun t t0 t1 => by
          by_cases e : t < x
          · exact startI_in (by omega) (hN (t - 1) (xn (t - 1) (by omega) (by omega)))
          · exact startI_cov ((hF t).mp (oc t (by omega) t1)))
        have := hsn (by omega)
        omega
      have hlt : o < 10000 → lateN w o + (gp + 1) ≤ w 1 := by
        intro q
        by_cases e : x = o
        · exact (on (e ▸ xc (by omega))).elim
        · have hr := lateN_run (w := w) (d := d) (xc (by omega)) o0 on
          have m := lateN_mono (w := w) (o := st) (o1 := x) (by omega)
          omega
      refine ih (o, gp + 1) ⟨⟨by show 0 ≤ gp + 1; omega, by show gp + 1 ≤ w 1 + 1; omega⟩, ⟨by show 0 ≤ o; omega, o1⟩, fun q => ⟨startI_one (hN o on) (Or.inr ?_), hlt q⟩, by show startN w d o ≤ gp + 1; omega, fun _ => hN1, by show ¬ (0 ≤ i ∧ i < gp + 1); omega⟩ (by show (w 1 + 1 - (gp + 1)).toNat < (w 1 + 1 - gp).toNat; omega)
      show forB w d (o - 1) = true
      have q : o < 10000 := q
      have : x < o := by
        by_cases e : x = o
        · exact (on (e ▸ xc (by omega))).elim
        · omega
      exact (hF (o - 1)).mp (oc (o - 1) (by omega) (by omega))
  · show o = 0 ∨ forB w d (o - 1) = true
    by_cases e : o = 0
    · exact Or.inl e
    · exact Or.inr ((hF (o - 1)).mp (oc (o - 1) (by omega) (by omega)))
  · show lateN w o + 0 ≤ w 1
    have := lateN_le (w := w) a1.1 o
    omega
  · show startN w d o ≤ 0
    have : startN w d o = startN w d 0 := startN_eq (by decide) o0 (fun t t0 t1 => startI_cov ((hF t).mp (oc t t0 t1)))
    rw [this]; exact Int.le_refl _
  · show startN w d o = 0
    have : startN w d o = startN w d 0 := startN_eq (by decide) o0 (fun t t0 t1 => startI_cov ((hF t).mp (oc t t0 t1)))
    rw [this]; rfl
theorem x8_gap {V0 : Sz} (hw : WF (V0 0)) {n : Nat} (hn : 20000 ≤ n) {k i f : Int} (hk : rng k) (hi : rng i) (hf : rng f) : TT (f_X8_gap n V0 k i f) (fun r => (0 ≤ k ∧ k < V0 0 0 → Thr V0 r.2 0 ∧ GapA (V0 0) k i f r.1) ∧ (¬ (0 ≤ k ∧ k < V0 0 0) → Thr V0 r.2 1)) := by
  unfold f_X8_gap
  refine tt_bd (x8_noDonor hw hk) (fun ⟨r1, V2⟩ hr => ref_f hr (fun ok hT => ?_) (fun no hT => tt_some ⟨fun q => (no q).elim, fun _ => hT⟩))
  have e0 : V2 0 = V0 0 := hT.2 0 (by decide)
  have hfor : ∀ t : Int, 0 ≤ t → t ≤ 10000 → f_X8_isForced n V2 k t = some (forB (V0 0) k t) := fun t t0 t1 => by
    rw [x8_isForced (by rw [e0]; exact hw) (by omega) hk ⟨by omega, by omega⟩, e0]
  obtain ⟨w, hw0⟩ : ∃ w, w = V0 0 := ⟨_, rfl⟩
  rw [← hw0] at hfor ⊢
  have hfin : ∀ (V : Sz) (r : Int), V = V2 → GapA w k i f r → (0 ≤ k ∧ k < w 0 → Thr V0 (r, V).2 0 ∧ GapA w k i f (r, V).1) ∧ (¬ (0 ≤ k ∧ k < w 0) → Thr V0 (r, V).2 1) := by
    intro V r e hg
    refine ⟨fun _ => ⟨by rw [e]; exact hT, hg⟩, fun q => ?_⟩
    rw [hw0] at q
    exact (q ok).elim
  refine tt_lp (I := fun z : Int × Int × Int × Sz => (0 ≤ z.2.2.1 ∧ z.2.2.1 ≤ 10000) ∧ z.2.2.2 = V2 ∧ z.1 = startN w k z.2.2.1 - 1 ∧ ((z.2.1 = 1 ∧ (z.2.2.1 = 0 ∨ forB w k (z.2.2.1 - 1) = true)) ∨ (z.2.1 = 0 ∧ z.2.2.1 ≠ 0 ∧ forB w k (z.2.2.1 - 1) = false ∧ ∃ s : Int, 0 ≤ s ∧ s < z.2.2.1 ∧ startI w k s = 1 ∧ ∀ t : Int, s ≤ t → t < z.2.2.1 → forB w k t = false)) ∧ ∀ s : Int, 0 ≤ s → s < z.2.2.1 → startI w k s = 1 → startN w k s = i → f ≠ 0 ∧ z.2.2.1 ≤ 9999 ∧ ∀ t : Int, s ≤ t → t ≤ z.2.2.1 → forB w k t = false) (μ := fun z => (10000 - z.2.2.1).toNat) ?_ n (-1, 1, 0, V2) ⟨⟨Int.le_refl _, by show (0 : Int) ≤ 10000; decide⟩, rfl, rfl, Or.inl ⟨rfl, Or.inl rfl⟩, fun s s0 s1 => absurd s1 (by show ¬ s < 0; omega)⟩ (by show (10000 - (0 : Int)).toNat < n; omega)
  rintro ⟨nn, was, day, V⟩ rec ⟨⟨d0, d1⟩, eV, en, hwas, hJ⟩ ih
  simp only at d0 d1 eV en hwas hJ
  subst eV
  rw [bX8_gap_19_e]
  have hsb := startN_bd (w := w) (d := k) day.toNat
  rw [show ((day.toNat : Nat) : Int) = day by omega] at hsb
  refine tt_ck ⟨by omega, by omega⟩ (tt_ite (fun c => tt_some (hfin _ _ rfl (Or.inr ⟨fun s e hp => ?_, rfl⟩))) (fun c => ?_))
  · obtain ⟨⟨p0, p1, p2⟩, _, p3, _, p4⟩ := hp
    have := (hJ s p0 (by omega) p3 p4).2.1
    omega
  rw [hfor day d0 d1, bd_s]
  -- the rest of the turn of an open day
  have inner : forB w k day = false → ∀ n1 : Int, n1 = startN w k (day + 1) - 1 → (∃ s : Int, 0 ≤ s ∧ s ≤ day ∧ startI w k s = 1 ∧ ∀ t : Int, s ≤ t → t ≤ day → forB w k t = false) → (∀ s : Int, 0 ≤ s → s ≤ day → startI w k s = 1 → startN w k s = i → f ≠ 0 ∧ ∀ t : Int, s ≤ t → t ≤ day → forB w k t = false) → TT (jX8_gap_62 n k i f rec n1 day 0 V) (fun r => (0 ≤ k ∧ k < w 0 → Thr V0 r.2 0 ∧ GapA w k i f r.1) ∧ (¬ (0 ≤ k ∧ k < w 0) → Thr V0 r.2 1)) := by
    intro hb n1 en1 hex hJ1
    obtain ⟨s, s0, s1, s2, s3⟩ := hex
    have hcount : startN w k (day + 1) = startN w k s + 1 := by
      have h1 := startN_step (w := w) (d := k) (t := s) s0
      have h2 : startN w k (day + 1) = startN w k (s + 1) := startN_eq (by omega) (by omega) (fun t t0 t1 => startI_in (by omega) (s3 (t - 1) (by omega) (by omega)))
      omega
    have hb1 := startN_bd (w := w) (d := k) (day + 1).toNat
    rw [show (((day + 1).toNat : Nat) : Int) = day + 1 by omega] at hb1
    have next : (n1 = i → day < 9999 ∧ forB w k (day + 1) = false) → TT (jX8_gap_96 n k i f rec n1 day 0 V) (fun r => (0 ≤ k ∧ k < w 0 → Thr V0 r.2 0 ∧ GapA w k i f r.1) ∧ (¬ (0 ≤ k ∧ k < w 0) → Thr V0 r.2 1)) := by
      intro hx
      unfold jX8_gap_96
      refine tt_nm (ih (n1, 0, day + 1, V) ⟨⟨by show 0 ≤ day + 1; omega, by show day + 1 ≤ 10000; omega⟩, rfl, en1, Or.inr ⟨rfl, by show day + 1 ≠ 0; omega, ?_, s, s0, by show s < day + 1; omega, s2, fun t t0 t1 => s3 t t0 (by have t1 : t < day + 1 := t1; omega)⟩, fun s4 q0 q1 q2 q3 => ?_⟩ (by show (10000 - (day + 1)).toNat < (10000 - day).toNat; omega))
      · show forB w k (day + 1 - 1) = false
        rw [show day + 1 - 1 = day by omega]; exact hb
      · have q1 : s4 < day + 1 := q1
        obtain ⟨u1, u2⟩ := hJ1 s4 q0 (by omega) q2 q3
        have u3 : startN w k (day + 1) = startN w k s4 + 1 := by
          have h1 := startN_step (w := w) (d := k) (t := s4) q0
          have h2 : startN w k (day + 1) = startN w k (s4 + 1) := startN_eq (by omega) (by omega) (fun t t0 t1 => startI_in (by omega) (u2 (t - 1) (by omega) (by omega)))
          omega
        obtain ⟨v1, v2⟩ := hx (by omega)
        refine ⟨u1, by show day + 1 ≤ 9999; omega, fun t t0 t1 => ?_⟩
        have t1 : t ≤ day + 1 := t1
        by_cases e : t = day + 1
        · rw [e]; exact v2
        · exact u2 t t0 (by omega)
    have found : n1 = i → (day = 9999 ∨ forB w k (day + 1) = true) → GapA w k i f day := by
      intro e hend
      have u := (hJ1 s s0 s1 s2 (by omega)).1
      exact Or.inl ⟨s, day, ⟨⟨s0, s1, by omega⟩, s3, s2, hend, by omega⟩, by rw [if_neg u]⟩
    unfold jX8_gap_62
    refine tt_ck ⟨by decide, by decide⟩ (tt_t rfl (tt_ck ⟨⟨by omega, by omega⟩, hi⟩ (tt_ite (fun c1 => ?_) (fun c1 => next (fun e => (c1 e).elim)))))
    refine tt_ck ⟨by omega, by omega⟩ (tt_ite (fun c2 => tt_some (hfin _ _ rfl (found c1 (Or.inl c2)))) (fun c2 => ?_))
    rw [hfor (day + 1) (by omega) (by omega), bd_s]
    refine tt_ite (fun c3 => next (fun _ => ⟨by omega, c3⟩)) (fun c3 => tt_some (hfin _ _ rfl (found c1 (Or.inr (eq_true_of_ne_false c3)))))
  cases hb : forB w k day with
  | true =>
    refine tt_nm ?_
    show TT (ck (rng 1) (if (1 : Int) = 0 then _ else _)) _
    refine tt_ck ⟨by decide, by decide⟩ (tt_f (by decide) ?_)
    unfold jX8_gap_62
    refine tt_ck ⟨by decide, by decide⟩ (tt_f (by decide) ?_)
    unfold jX8_gap_96
    refine tt_nm (ih (nn, 1, day + 1, V) ⟨⟨by show 0 ≤ day + 1; omega, by show day + 1 ≤ 10000; omega⟩, rfl, ?_, Or.inl ⟨rfl, Or.inr ?_⟩, fun s q0 q1 q2 q3 => ?_⟩ (by show (10000 - (day + 1)).toNat < (10000 - day).toNat; omega))
    · show nn = startN w k (day + 1) - 1
      rw [startN_step d0, startI_cov hb]; omega
    · show forB w k (day + 1 - 1) = true
      rw [show day + 1 - 1 = day by omega]; exact hb
    · have q1 : s < day + 1 := q1
      by_cases e : s = day
      · rw [e, startI_cov hb] at q2; exact absurd q2 (by decide)
      · have := (hJ s q0 (by omega) q2 q3).2.2 day (by omega) (Int.le_refl _)
        rw [hb] at this; exact Bool.noConfusion this
  | false =>
    refine tt_nm ?_
    show TT (ck (rng 0) (if (0 : Int) = 0 then _ else _)) _
    refine tt_ck ⟨by decide, by decide⟩ (tt_t rfl ?_)
    rcases hwas with ⟨w1, w2⟩ | ⟨w1, w2, w3, s, s0, s1, s2, s3⟩
    · -- a gap begins
      have hst : startI w k day = 1 := startI_one hb w2
      have hN1 := startN_step (w := w) (d := k) d0
      refine tt_ck ⟨by omega, by omega⟩ (tt_f (by omega) (tt_nmE (fun n1 en1 => tt_ck ⟨⟨by omega, by omega⟩, hi⟩ ?_)))
      have hex : ∃ s : Int, 0 ≤ s ∧ s ≤ day ∧ startI w k s = 1 ∧ ∀ t : Int, s ≤ t → t ≤ day → forB w k t = false := ⟨day, d0, Int.le_refl _, hst, fun t t0 t1 => by rw [show t = day by omega]; exact hb⟩
      have hold : ∀ s : Int, 0 ≤ s → s < day → startI w k s = 1 → startN w k s = i → f ≠ 0 ∧ ∀ t : Int, s ≤ t → t ≤ day → forB w k t = false := fun s q0 q1 q2 q3 => by
        have := hJ s q0 q1 q2 q3
        exact ⟨this.1, this.2.2⟩
      refine tt_ite (fun c1 => tt_ck hf (tt_ite (fun c2 => tt_some (hfin _ _ rfl ?_)) (fun c2 => inner hb n1 (by omega) hex ?_))) (fun c1 => inner hb n1 (by omega) hex ?_)
      · obtain ⟨e, e0, e1, e2, e3⟩ := gap_end (w := w) (d := k) (9999 - day).toNat day (by omega) hb
        exact Or.inl ⟨day, e, ⟨⟨d0, e0, e1⟩, e2, hst, e3, by omega⟩, by rw [if_pos c2]⟩
      · intro s q0 q1 q2 q3
        by_cases e : s = day
        · exact ⟨c2, fun t t0 t1 => by rw [show t = day by omega]; exact hb⟩
        · exact hold s q0 (by omega) q2 q3
      · intro s q0 q1 q2 q3
        by_cases e : s = day
        · rw [e] at q3; omega
        · exact hold s q0 (by omega) q2 q3
    · have hst : startI w k day = 0 := startI_in w2 w3
      have hN1 := startN_step (w := w) (d := k) d0
      refine tt_ck ⟨by omega, by omega⟩ (tt_t w1 (inner hb nn (by omega) ⟨s, s0, by omega, s2, fun t t0 t1 => ?_⟩ (fun s4 q0 q1 q2 q3 => ?_)))
      · by_cases e : t = day
        · rw [e]; exact hb
        · exact s3 t t0 (by omega)
      · by_cases e : s4 = day
        · rw [e, hst] at q2; exact absurd q2 (by decide)
        · have := hJ s4 q0 (by omega) q2 q3
          exact ⟨this.1, this.2.2⟩
theorem ag_gap {V X V8 : Sz} (h : LR (sv 4 V) (V8 0)) {n : Nat} (hn : 20000 ≤ n) {k i f : Int} (hk : rng k) (hi : rng i) (hf : rng f) : TT (f_X8_gap n V8 k i f) (Asks cdA (f_X7_gap n V X k i f) V8) := by
  have hw := h.2.2.1
  refine tt_mono (x8_gap hw hn hk hi hf) (fun ⟨r, V2⟩ ⟨h1, h2⟩ => ?_)
  unfold f_X7_gap
  by_cases c : 0 ≤ k ∧ k < V8 0 0
  · obtain ⟨hT, hg⟩ := h1 c
    obtain ⟨r1, e1, hg1⟩ := c1_endOfGap (V := sv 4 V) h.1 hw h.2.2.2 (n := n) (by omega) hk hi hf
    refine asks_yes ?_ hT
    rw [x7_donorY h hk c, bx_l, show f_X1_endOfGap n (sv 9 V) k i f = some r1 from e1, show r = r1 from GapA.uniq hg hg1]; rfl
  · refine asks_no (e := 0) ?_ (h2 c) rfl (by decide)
    rw [x7_donorN h hk c]; rfl
