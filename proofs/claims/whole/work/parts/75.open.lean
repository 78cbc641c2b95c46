/-! the first day that is open, the first that is covered -/
def Cov (w : Rw) (d x t : Int) : Prop := ∃ k : Int, 0 ≤ k ∧ k < w 1 ∧ k ≠ x ∧ onB w k d t = true
theorem onB_iff {w : Rw} {k d t : Int} : onB w k d t = true ↔ wWho w k = d ∧ wFr w k ≤ t ∧ t ≤ wTo w k := by
  unfold onB
  rw [Bool.and_eq_true, Bool.and_eq_true, decide_eq_true_eq, decide_eq_true_eq, decide_eq_true_eq]
theorem Cov_for {w : Rw} {d t : Int} (h1 : 0 ≤ w 1) : Cov w d (-1) t ↔ forB w d t = true := by
  unfold forB
  rw [anyN_iff]
  exact ⟨fun ⟨k, a, b, _, e⟩ => ⟨k, a, by omega, e⟩, fun ⟨k, a, b, e⟩ => ⟨k, a, by omega, by omega, e⟩⟩
theorem sumN_lt {f g : Int → Int} {n : Nat} (h : ∀ i : Int, 0 ≤ i → i < (n : Int) → f i ≤ g i) {k : Int} (k0 : 0 ≤ k) (k1 : k < (n : Int)) (hk : f k < g k) : sumN f n < sumN g n := by
  have h1 := sumN_sub g f n
  have h2 := sumN_ge (f := fun i => g i - f i) (n := n) (fun i a b => by have := h i a b; show 0 ≤ g i - f i; omega) k0 k1
  omega
/-- how many declarations reach to a day or beyond -/
def lateN (w : Rw) (o : Int) : Int := sumN (fun k => if o ≤ wTo w k then 1 else 0) (w 1).toNat
theorem lateN_mono {w : Rw} {o o1 : Int} (h : o ≤ o1) : lateN w o1 ≤ lateN w o := by
  unfold lateN
  refine sumN_mono (fun k _ _ => ?_)
  split
  · rw [if_pos (by omega)]; exact Int.le_refl _
  · split <;> decide
theorem lateN_lt {w : Rw} {o k : Int} (k0 : 0 ≤ k) (k1 : k < w 1) (h : o ≤ wTo w k) : lateN w (wTo w k + 1) < lateN w o := by
  unfold lateN
  refine sumN_lt (fun j _ _ => ?_) k0 (by omega) ?_
  · split
    · rw [if_pos (by omega)]; exact Int.le_refl _
    · split <;> decide
  · rw [if_neg (by omega), if_pos h]; decide
theorem lateN_zero {w : Rw} {o : Int} (h : lateN w o ≤ 0) {k : Int} (k0 : 0 ≤ k) (k1 : k < w 1) : wTo w k < o := by
  have h2 := sumN_ge (f := fun k => if o ≤ wTo w k then 1 else 0) (n := (w 1).toNat) (fun j _ _ => by show (0 : Int) ≤ if _ then _ else _; split <;> decide) k0 (by omega)
  unfold lateN at h
  by_cases c : o ≤ wTo w k
  · rw [if_pos c] at h2
    omega
  · omega
theorem lateN_le {w : Rw} (h1 : 0 ≤ w 1) (o : Int) : lateN w o ≤ w 1 := by
  have := sumN_le (f := fun k => if o ≤ wTo w k then 1 else 0) (c := 1) (n := (w 1).toNat) (fun k _ _ => by show (if _ then _ else _) ≤ (1 : Int); split <;> decide)
  unfold lateN
  omega
theorem c1_openFrom {V : Sz} {w : Rw} (h : LR0 V w) (hw : WF w) (h30 : w 1 ≤ 30) {n : Nat} (hn : 100 ≤ n) {d day x : Int} (hd : rng d) (hx : rng x) (dy0 : 0 ≤ day) (dy1 : day ≤ 10000) : TT (f_X1_openFrom n (sv 5 V) d day x) (fun r => day ≤ r ∧ r ≤ 10000 ∧ (∀ t : Int, day ≤ t → t < r → Cov w d x t) ∧ ¬ Cov w d x r) := by
  have a1 := hw.2.1.2.1
  have hc : V 5 0 = w 1 := h.1.2.2.2.2.1
  have ec : sv 5 V 0 0 = w 1 := hc
  unfold f_X1_openFrom
  refine tt_lp (I := fun s : Int × Int × Int => (0 ≤ s.2.2 ∧ s.2.2 ≤ w 1) ∧ (s.2.1 = 0 ∨ s.2.1 = 1) ∧ (day ≤ s.1 ∧ s.1 ≤ 10000) ∧ (∀ t : Int, day ≤ t → t < s.1 → Cov w d x t) ∧ (s.2.1 = 0 → ¬ Cov w d x s.1) ∧ (s.2.1 = 1 → lateN w s.1 + s.2.2 ≤ w 1)) (μ := fun s => (w 1 - s.2.2).toNat) ?_ n (day, 1, 0) ⟨⟨Int.le_refl _, a1.1⟩, Or.inr rfl, ⟨Int.le_refl _, dy1⟩, fun t a b => absurd b (by show ¬ t < day; omega), fun e => absurd e (by show ¬ ((1 : Int) = 0); decide), fun _ => by show lateN w day + 0 ≤ w 1; have := lateN_le a1.1 day; omega⟩ (by show (w 1 - (0 : Int)).toNat < n; omega)
  rintro ⟨o, mv, rd⟩ rec9 ⟨⟨r0, r1⟩, hmv, ⟨o0, o1⟩, hcv, hm0, hlt⟩ ih9
  simp only at r0 r1 hmv o0 o1 hcv hm0 hlt
  rw [bX1_openFrom_9_e, ec]
  refine tt_ck ⟨⟨by omega, by omega⟩, ⟨by omega, by omega⟩⟩ (tt_ite (fun c => tt_some ⟨o0, o1, hcv, ?_⟩) (fun c => tt_ck ⟨by omega, by omega⟩ (tt_ite (fun c2 => tt_some ⟨o0, o1, hcv, hm0 c2⟩) (fun c2 => ?_))))
  · rcases hmv with e | e
    · exact hm0 e
    have hlt := hlt e
    rintro ⟨k, k0, k1, _, hk⟩
    have := lateN_zero (w := w) (o := o) (by omega) k0 k1
    have hk := onB_iff.mp hk
    omega
  refine tt_lp (I := fun s : Int × Int × Int × Int => s.2.2.1 = rd ∧ (0 ≤ s.2.2.2 ∧ s.2.2.2 ≤ w 1) ∧ (o ≤ s.1 ∧ s.1 ≤ 10000) ∧ (∀ t : Int, day ≤ t → t < s.1 → Cov w d x t) ∧ ((s.2.1 = 0 ∧ s.1 = o ∧ ∀ k : Int, 0 ≤ k → k < s.2.2.2 → k ≠ x → onB w k d o = false) ∨ (s.2.1 = 1 ∧ lateN w s.1 < lateN w o))) (μ := fun s => (w 1 - s.2.2.2).toNat) ?_ n (o, 0, rd, 0) ⟨rfl, ⟨Int.le_refl _, a1.1⟩, ⟨Int.le_refl _, o1⟩, hcv, Or.inl ⟨rfl, rfl, fun k a b => absurd b (by show ¬ k < 0; omega)⟩⟩ (by show (w 1 - (0 : Int)).toNat < n; omega)
  rintro ⟨q, m2, rd2, k⟩ rec29 ⟨er, ⟨k0, k1⟩, ⟨q0, q1⟩, hcv2, hm2⟩ ih29
  simp only at er k0 k1 q0 q1 hcv2 hm2
  subst er
  rw [bX1_openFrom_29_e, ec]
  have next : ∀ (q2 m3 : Int), (o ≤ q2 ∧ q2 ≤ 10000) → (∀ t : Int, day ≤ t → t < q2 → Cov w d x t) → ((m3 = 0 ∧ q2 = o ∧ ∀ j : Int, 0 ≤ j → j < k + 1 → j ≠ x → onB w j d o = false) ∨ (m3 = 1 ∧ lateN w q2 < lateN w o)) → k < w 1 → TT (jX1_openFrom_70 n (sv 5 V) d day x rec9 rec29 q2 m3 rd2 k) (fun r => day ≤ r ∧ r ≤ 10000 ∧ (∀ t : Int, day ≤ t → t < r → Cov w d x t) ∧ ¬ Cov w d x r) := by
    intro q2 m3 e1 e2 e3 e4
    unfold jX1_openFrom_70
    exact tt_nm (ih29 (q2, m3, rd2, k + 1) ⟨rfl, ⟨by show 0 ≤ k + 1; omega, by show k + 1 ≤ w 1; omega⟩, e1, e2, e3⟩ (by show (w 1 - (k + 1)).toNat < (w 1 - k).toNat; omega))
  refine tt_ck ⟨⟨by omega, by omega⟩, ⟨by omega, by omega⟩⟩ (tt_ite (fun c3 => ?_) (fun c3 => tt_ck hx (tt_ite (fun c4 => ?_) (fun c4 => ?_))))
  · refine tt_nm (ih9 (q, m2, rd2 + 1) ⟨⟨by show 0 ≤ rd2 + 1; omega, by show rd2 + 1 ≤ w 1; omega⟩, ?_, ⟨by show day ≤ q; omega, q1⟩, hcv2, fun e => ?_, fun e => ?_⟩ (by show (w 1 - (rd2 + 1)).toNat < (w 1 - rd2).toNat; omega))
    · rcases hm2 with ⟨a, _⟩ | ⟨a, _⟩
      · exact Or.inl a
      · exact Or.inr a
    · have e : m2 = 0 := e
      rcases hm2 with ⟨a, b, hn⟩ | ⟨a, _⟩
      · rintro ⟨j, j0, j1, jx, hj⟩
        have hj : onB w j d q = true := hj
        rw [b, hn j j0 (by omega) jx] at hj
        exact Bool.noConfusion hj
      · omega
    · show lateN w q + (rd2 + 1) ≤ w 1
      have e : m2 = 1 := e
      have hlt := hlt (by omega)
      rcases hm2 with ⟨a, _⟩ | ⟨a, hl⟩
      · omega
      · omega
  · refine next q m2 ⟨q0, q1⟩ hcv2 ?_ (by omega)
    rcases hm2 with ⟨a, b, hn⟩ | hm2
    · refine Or.inl ⟨a, b, fun j j0 j1 jx => hn j j0 ?_ jx⟩
      by_cases e : j = k
      · exact (jx (e.trans c4)).elim
      · omega
    · exact Or.inr hm2
  · have k2 : k < w 1 := by omega
    have hwk := hw.2.2.2.1 k k0 k2
    have hto : sv 5 V 3 k.toNat = wTo w k := (h.2.2.1 k k0 k2).2.2
    rw [c1_isOn h hw h30 k0 k2 hd ⟨by omega, by omega⟩, bd_s, hto]
    refine tt_ite (fun c5 => ?_) (fun c5 => ?_)
    · refine next q m2 ⟨q0, q1⟩ hcv2 ?_ k2
      rcases hm2 with ⟨a, b, hn⟩ | hm2
      · refine Or.inl ⟨a, b, fun j j0 j1 jx => ?_⟩
        by_cases e : j = k
        · rw [e, ← b]; exact c5
        · exact hn j j0 (by omega) jx
      · exact Or.inr hm2
    · have hon : onB w k d q = true := by
        cases hb : onB w k d q with
        | true => rfl
        | false => exact (c5 hb).elim
      have ho := onB_iff.mp hon
      refine tt_ck ⟨k0, by omega⟩ (tt_nm (next (wTo w k + 1) 1 ⟨by omega, by omega⟩ (fun t t0 t1 => ?_) (Or.inr ⟨rfl, ?_⟩) k2))
      · by_cases e : t < q
        · exact hcv2 t t0 e
        · exact ⟨k, k0, k2, c4, onB_iff.mpr ⟨ho.1, by omega, by omega⟩⟩
      · have l1 := lateN_lt (o := q) k0 k2 ho.2.2
        have l2 := lateN_mono (w := w) q0
        omega
