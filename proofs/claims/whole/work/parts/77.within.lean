/-! how many days are covered -/
def cN (w : Rw) (d a b : Int) : Int := sumN (fun i => if forB w d (a + i) = true then 1 else 0) (b - a).toNat
theorem cN_app {w : Rw} {d a b c : Int} (h1 : a ≤ b) (h2 : b ≤ c) : cN w d a c = cN w d a b + cN w d b c := by
  unfold cN
  rw [show (c - a).toNat = (b - a).toNat + (c - b).toNat by omega, sumN_app]
  congr 1
  refine sumN_congr (fun i i0 i1 => ?_)
  rw [show a + (((b - a).toNat : Int) + i) = b + i by omega]
theorem cN_self (w : Rw) (d a : Int) : cN w d a a = 0 := by
  unfold cN
  rw [show (a - a).toNat = 0 by omega]; rfl
theorem cN_none {w : Rw} {d a b : Int} (h : ∀ t : Int, a ≤ t → t < b → ¬ forB w d t = true) : cN w d a b = 0 := by
  unfold cN
  exact sumN_zero (fun i i0 i1 => if_neg (h _ (by omega) (by omega)))
theorem cN_all {w : Rw} {d a b : Int} (hab : a ≤ b) (h : ∀ t : Int, a ≤ t → t < b → forB w d t = true) : cN w d a b = b - a := by
  unfold cN
  have e : sumN (fun i => if forB w d (a + i) = true then 1 else 0) (b - a).toNat = sumN (fun _ => 1) (b - a).toNat := sumN_congr (fun i i0 i1 => if_pos (h _ (by omega) (by omega)))
  rw [e]
  have e2 : ∀ n : Nat, sumN (fun _ => 1) n = (n : Int) := by
    intro n
    induction n with
    | zero => rfl
    | succ n ih => rw [sumN_succ, ih]; omega
  rw [e2]; omega
/-- behind a run of covered days fewer declarations are left -/
theorem lateN_run {w : Rw} {d s r : Int} (hs : Cov w d (-1) s) (hr : s ≤ r) (hn : ¬ Cov w d (-1) r) : lateN w r < lateN w s ∧ s < r := by
  obtain ⟨k, k0, k1, _, hk⟩ := hs
  have ho := onB_iff.mp hk
  have hlt : wTo w k < r := by
    by_cases c : wTo w k < r
    · exact c
    · exact (hn ⟨k, k0, k1, by omega, onB_iff.mpr ⟨ho.1, by omega, by omega⟩⟩).elim
  have l1 := lateN_lt (o := s) k0 k1 ho.2.2
  have l2 := lateN_mono (w := w) (o := wTo w k + 1) (o1 := r) (by omega)
  omega
theorem c1_coveredWithin {V : Sz} {w : Rw} (h : LR0 V w) (hw : WF w) (h30 : w 1 ≤ 30) {n : Nat} (hn : 100 ≤ n) {d a b : Int} (hd : rng d) (a0 : 0 ≤ a) (ab : a ≤ b) (b1 : b ≤ 9999) : f_X1_coveredWithin n (sv 5 V) d a b = some (cN w d a (b + 1)) := by
  have a1 := hw.2.1.2.1
  have ec : sv 5 V 0 0 = w 1 := h.1.2.2.2.2.1
  have hf : ∀ t : Int, Cov w d (-1) t ↔ forB w d t = true := fun t => Cov_for a1.1
  refine tt_eq ?_
  unfold f_X1_coveredWithin
  refine tt_bd (c1_coveredFrom h hw h30 hn hd a0 (by omega)) (fun s ⟨s0, s1, sn, sc⟩ => ?_)
  refine tt_lp (I := fun z : Int × Int × Int => (0 ≤ z.2.2 ∧ z.2.2 ≤ w 1) ∧ (a ≤ z.2.1 ∧ z.2.1 ≤ 10000) ∧ (z.2.1 < 10000 → Cov w d (-1) z.2.1) ∧ lateN w z.2.1 + z.2.2 ≤ w 1 ∧ z.1 = cN w d a (min z.2.1 (b + 1)) ∧ (0 ≤ z.1 ∧ z.1 ≤ 10000)) (μ := fun z => (w 1 - z.2.2).toNat) ?_ n (0, s, 0) ⟨⟨Int.le_refl _, a1.1⟩, ⟨s0, s1⟩, sc, ?_, ?_, ⟨Int.le_refl _, by show (0 : Int) ≤ 10000; decide⟩⟩ (by show (w 1 - (0 : Int)).toNat < n; omega)
  · rintro ⟨dn, st, rn⟩ rec ⟨⟨r0, r1⟩, ⟨t0, t1⟩, hc, hl, he, ⟨e0, e1⟩⟩ ih
    simp only at r0 r1 t0 t1 hc hl he e0 e1
    rw [bX1_coveredWithin_14_e, ec]
    refine tt_ck ⟨⟨by omega, by omega⟩, ⟨by omega, by omega⟩⟩ (tt_ite (fun c => tt_some ?_) (fun c => tt_ck ⟨⟨by omega, by omega⟩, ⟨by omega, by omega⟩⟩ (tt_ite (fun c2 => tt_some ?_) (fun c2 => ?_))))
    · by_cases c3 : st < 10000
      · obtain ⟨k, k0, k1, _, hk⟩ := hc c3
        have := lateN_zero (w := w) (o := st) (by omega) k0 k1
        have := onB_iff.mp hk
        omega
      · rw [he, show min st (b + 1) = b + 1 by omega]
    · rw [he, show min st (b + 1) = b + 1 by omega]
    · refine tt_bd (c1_openFrom h hw h30 hn hd (x := -1) ⟨by decide, by decide⟩ (by omega) (by omega)) (fun o ⟨o0, o1, oc, on⟩ => ?_)
      have hrun := lateN_run (hc (by omega)) o0 on
      refine tt_ck ⟨⟨by omega, by omega⟩, ⟨by omega, by omega⟩⟩ (tt_nmE (fun v ev => ?_))
      refine tt_bd (c1_coveredFrom h hw h30 hn hd (by omega) o1) (fun x ⟨x0, x1, xn, xc⟩ => tt_nm ?_)
      have m := lateN_mono (w := w) x0
      have p1 : cN w d st (min o (b + 1)) = min o (b + 1) - st := cN_all (by omega) (fun t ta tb => (hf t).mp (oc t ta (by omega)))
      have p2 : cN w d (min o (b + 1)) (min x (b + 1)) = 0 := by
        by_cases c3 : o ≤ b + 1
        · rw [show min o (b + 1) = o by omega]
          exact cN_none (fun t ta tb hh => xn t ta (by omega) ((hf t).mpr hh))
        · rw [show min o (b + 1) = b + 1 by omega, show min x (b + 1) = b + 1 by omega, cN_self]
      have p3 : v = cN w d a (min x (b + 1)) := by
        rw [cN_app (b := min o (b + 1)) (by omega) (by omega), cN_app (a := a) (b := st) (c := min o (b + 1)) (by omega) (by omega), p1, p2, ev, he, show min st (b + 1) = st by omega]; omega
      have p4 : 0 ≤ v ∧ v ≤ 10000 := by
        have q1 : 0 ≤ cN w d a (min x (b + 1)) := by unfold cN; exact sumN_nonneg (fun i _ _ => by show (0 : Int) ≤ if _ then _ else _; split <;> decide)
        have q2 : cN w d a (min x (b + 1)) ≤ ((min x (b + 1) - a).toNat : Int) * 1 := by unfold cN; exact sumN_le (fun i _ _ => by show (if _ then _ else _) ≤ (1 : Int); split <;> decide)
        omega
      exact ih (v, x, rn + 1) ⟨⟨by show 0 ≤ rn + 1; omega, by show rn + 1 ≤ w 1; omega⟩, ⟨by show a ≤ x; omega, x1⟩, xc, by show lateN w x + (rn + 1) ≤ w 1; omega, p3, p4⟩ (by show (w 1 - (rn + 1)).toNat < (w 1 - rn).toNat; omega)
  · show lateN w s + 0 ≤ w 1
    have := lateN_le (w := w) a1.1 s
    omega
  · show (0 : Int) = cN w d a (min s (b + 1))
    exact (cN_none (fun t ta tb hh => sn t ta (by omega) ((hf t).mpr hh))).symm
