/-! the longest run of covered days -/
def RunP (w : Rw) (d s e : Int) : Prop := 0 ≤ s ∧ s ≤ e ∧ e ≤ 10000 ∧ ∀ t : Int, s ≤ t → t < e → Cov w d (-1) t
def LongP (w : Rw) (d m : Int) : Prop := (∀ s e : Int, RunP w d s e → e - s ≤ m) ∧ ∃ s e : Int, RunP w d s e ∧ e - s = m
theorem LongP.uniq {w : Rw} {d m m1 : Int} (h : LongP w d m) (h1 : LongP w d m1) : m = m1 := by
  obtain ⟨s, e, a, b⟩ := h.2
  obtain ⟨s1, e1, a1, b1⟩ := h1.2
  have := h.1 _ _ a1
  have := h1.1 _ _ a
  omega
theorem c1_longestRun {V : Sz} {w : Rw} (h : LR0 V w) (hw : WF w) (h30 : w 1 ≤ 30) {n : Nat} (hn : 100 ≤ n) {d : Int} (hd : rng d) : TT (f_X1_longestRun n (sv 5 V) d) (fun r => LongP w d r) := by
  have a1 := hw.2.1.2.1
  have ec : sv 5 V 0 0 = w 1 := h.1.2.2.2.2.1
  unfold f_X1_longestRun
  refine tt_bd (c1_coveredFrom h hw h30 hn hd (by decide) (by decide)) (fun s ⟨s0, s1, sn, sc⟩ => ?_)
  refine tt_lp (I := fun z : Int × Int × Int => (0 ≤ z.2.2 ∧ z.2.2 ≤ w 1) ∧ (0 ≤ z.2.1 ∧ z.2.1 ≤ 10000) ∧ (z.2.1 < 10000 → Cov w d (-1) z.2.1) ∧ lateN w z.2.1 + z.2.2 ≤ w 1 ∧ (z.2.1 = 0 ∨ z.2.1 = 10000 ∨ ¬ Cov w d (-1) (z.2.1 - 1)) ∧ (∀ a b : Int, RunP w d a b → b ≤ z.2.1 → b - a ≤ z.1) ∧ (∃ a b : Int, RunP w d a b ∧ b - a = z.1)) (μ := fun z => (w 1 - z.2.2).toNat) ?_ n (0, s, 0) ⟨⟨Int.le_refl _, a1.1⟩, ⟨s0, s1⟩, sc, ?_, ?_, fun a b hr hb => ?_, ⟨0, 0, ⟨Int.le_refl _, Int.le_refl _, by decide, fun t t0 t1 => by omega⟩, rfl⟩⟩ (by show (w 1 - (0 : Int)).toNat < n; omega)
  · rintro ⟨mx, st, rn⟩ rec ⟨⟨r0, r1⟩, ⟨t0, t1⟩, hc, hl, hb, hm, ⟨a2, b2, hr2, e2⟩⟩ ih
    simp only at r0 r1 t0 t1 hc hl hb hm hr2 e2
    rw [bX1_longestRun_12_e, ec]
    have hmx : 0 ≤ mx ∧ mx ≤ 10000 := by
      obtain ⟨q1, q2, q3, _⟩ := hr2
      omega
    refine tt_ck ⟨⟨by omega, by omega⟩, ⟨by omega, by omega⟩⟩ (tt_ite (fun c => tt_some ⟨fun a b hr => hm a b hr ?_, ⟨a2, b2, hr2, e2⟩⟩) (fun c => tt_ck ⟨by omega, by omega⟩ (tt_ite (fun c2 => tt_some ⟨fun a b hr => hm a b hr (by obtain ⟨_, _, q, _⟩ := hr; omega), ⟨a2, b2, hr2, e2⟩⟩) (fun c2 => ?_))))
    · by_cases c3 : st < 10000
      · obtain ⟨k, k0, k1, _, hk⟩ := hc c3
        have := lateN_zero (w := w) (o := st) (by omega) k0 k1
        have := onB_iff.mp hk
        omega
      · obtain ⟨_, _, q, _⟩ := hr
        omega
    · refine tt_bd (c1_openFrom h hw h30 hn hd (x := -1) ⟨by decide, by decide⟩ t0 t1) (fun o ⟨o0, o1, oc, on⟩ => ?_)
      have hrun := lateN_run (hc (by omega)) o0 on
      refine tt_ck ⟨⟨by omega, by omega⟩, ⟨by omega, by omega⟩⟩ (tt_nmE (fun v ev => ?_))
      refine tt_bd (c1_coveredFrom h hw h30 hn hd (by omega) o1) (fun x ⟨x0, x1, xn, xc⟩ => tt_nm ?_)
      have m := lateN_mono (w := w) x0
      refine ih (v, x, rn + 1) ⟨⟨by show 0 ≤ rn + 1; omega, by show rn + 1 ≤ w 1; omega⟩, ⟨by show 0 ≤ x; omega, x1⟩, xc, by show lateN w x + (rn + 1) ≤ w 1; omega, ?_, fun a b hr hb2 => ?_, ?_⟩ (by show (w 1 - (rn + 1)).toNat < (w 1 - rn).toNat; omega)
      · show x = 0 ∨ x = 10000 ∨ ¬ Cov w d (-1) (x - 1)
        by_cases c3 : x = o
        · by_cases c4 : x < 10000
          · exact (on (c3 ▸ xc c4)).elim
          · exact Or.inr (Or.inl (by omega))
        · exact Or.inr (Or.inr (xn (x - 1) (by omega) (by omega)))
      · have hb2 : b ≤ x := hb2
        show b - a ≤ v
        obtain ⟨q0, q1, q2, q3⟩ := hr
        by_cases c3 : b ≤ st
        · have := hm a b ⟨q0, q1, q2, q3⟩ c3
          omega
        · by_cases c4 : a < st
          · rcases hb with e | e | e
            · omega
            · omega
            · exact (e (q3 (st - 1) (by omega) (by omega))).elim
          · by_cases c5 : b ≤ o
            · omega
            · by_cases c6 : a ≤ o
              · exact (on (q3 o c6 (by omega))).elim
              · by_cases c7 : a = b
                · omega
                · exact (xn a (by omega) (by omega) (q3 a (by omega) (by omega))).elim
      · show ∃ a b : Int, RunP w d a b ∧ b - a = v
        by_cases c3 : mx ≤ o - st
        · exact ⟨st, o, ⟨t0, o0, o1, oc⟩, by omega⟩
        · exact ⟨a2, b2, hr2, by omega⟩
  · show lateN w s + 0 ≤ w 1
    have := lateN_le (w := w) a1.1 s
    omega
  · show s = 0 ∨ s = 10000 ∨ ¬ Cov w d (-1) (s - 1)
    by_cases c : s = 0
    · exact Or.inl c
    · exact Or.inr (Or.inr (sn (s - 1) (by omega) (by omega)))
  · have hb : b ≤ s := hb
    show b - a ≤ 0
    obtain ⟨q0, q1, q2, q3⟩ := hr
    by_cases c : a = b
    · omega
    · exact (sn a q0 (by omega) (q3 a (by omega) (by omega))).elim
