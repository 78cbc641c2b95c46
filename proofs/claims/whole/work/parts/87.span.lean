/-! the longest span, by the reference -/
theorem x8_longestSpan {V0 : Sz} (hw : WF (V0 0)) {n : Nat} (hn : 20000 ≤ n) {k : Int} (hk : rng k) : TT (f_X8_longestSpan n V0 k) (fun r => (0 ≤ k ∧ k < V0 0 0 → Thr V0 r.2 0 ∧ LongP (V0 0) k r.1) ∧ (¬ (0 ≤ k ∧ k < V0 0 0) → Thr V0 r.2 1)) := by
  unfold f_X8_longestSpan
  refine tt_bd (x8_noDonor hw hk) (fun ⟨r1, V2⟩ hr => ref_f hr (fun ok hT => ?_) (fun no hT => tt_some ⟨fun q => (no q).elim, fun _ => hT⟩))
  have e0 : V2 0 = V0 0 := hT.2 0 (by decide)
  have a1 := hw.2.1.2.1
  have hfor : ∀ t : Int, 0 ≤ t → t ≤ 10000 → f_X8_isForced n V2 k t = some (forB (V0 0) k t) := fun t t0 t1 => by
    rw [x8_isForced (by rw [e0]; exact hw) (by omega) hk ⟨by omega, by omega⟩, e0]
  obtain ⟨w, hw0⟩ : ∃ w, w = V0 0 := ⟨_, rfl⟩
  rw [← hw0] at hfor a1 ok ⊢
  have hF : ∀ t : Int, Cov w k (-1) t ↔ forB w k t = true := fun t => Cov_for a1.1
  refine tt_lp (I := fun z : Int × Int × Int × Sz => (0 ≤ z.2.2.1 ∧ z.2.2.1 ≤ 10000) ∧ z.2.2.2 = V2 ∧ (0 ≤ z.2.1 ∧ RunP w k (z.2.2.1 - z.2.1) z.2.2.1) ∧ (z.2.1 = z.2.2.1 ∨ ¬ Cov w k (-1) (z.2.2.1 - z.2.1 - 1)) ∧ (∀ a b : Int, RunP w k a b → b ≤ z.2.2.1 → b - a ≤ z.1) ∧ ∃ a b : Int, RunP w k a b ∧ b - a = z.1) (μ := fun z => (10000 - z.2.2.1).toNat) ?_ n (0, 0, 0, V2) ⟨⟨Int.le_refl _, by show (0 : Int) ≤ 10000; decide⟩, rfl, ⟨Int.le_refl _, Int.le_refl _, Int.le_refl _, by show (0 : Int) ≤ 10000; decide, fun t t0 t1 => ?_⟩, Or.inl rfl, fun a b hr hb => ?_, ⟨0, 0, ⟨Int.le_refl _, Int.le_refl _, by decide, fun t t0 t1 => by omega⟩, rfl⟩⟩ (by show (10000 - (0 : Int)).toNat < n; omega)
  · rintro ⟨mx, ln, day, V⟩ rec ⟨⟨d0, d1⟩, eV, ⟨l0, hrun⟩, hbef, hmx, hex⟩ ih
    simp only at d0 d1 eV l0 hrun hbef hmx hex
    subst eV
    rw [bX8_longestSpan_17_e]
    have hm0 : 0 ≤ mx ∧ mx ≤ 10000 := by
      obtain ⟨a, b, ⟨q0, q1, q2, _⟩, e⟩ := hex
      omega
    have hl : ln ≤ day := by
      obtain ⟨q0, q1, q2, _⟩ := hrun
      omega
    refine tt_ck ⟨by omega, by omega⟩ (tt_ite (fun c => tt_some ⟨fun _ => ⟨hT, ?_⟩, fun q => (q ok).elim⟩) (fun c => ?_))
    · exact ⟨fun a b hr => hmx a b hr (by obtain ⟨_, _, q, _⟩ := hr; omega), hex⟩
    rw [hfor day d0 d1, bd_s]
    refine tt_ite (fun c2 => ?_) (fun c2 => ?_)
    · have hno : ¬ Cov w k (-1) day := fun q => by
        have := (hF day).mp q
        rw [c2] at this; exact Bool.noConfusion this
      unfold jX8_longestSpan_42
      refine tt_ck ⟨⟨by omega, by omega⟩, ⟨by decide, by decide⟩⟩ (tt_nm (tt_nm ?_))
      have hmax : max mx 0 = mx := by omega
      rw [hmax]
      refine ih (mx, 0, day + 1, V) ⟨⟨by show 0 ≤ day + 1; omega, by show day + 1 ≤ 10000; omega⟩, rfl, ⟨Int.le_refl _, ?_⟩, Or.inr ?_, fun a b hr hb => ?_, hex⟩ (by show (10000 - (day + 1)).toNat < (10000 - day).toNat; omega)
      · show RunP w k (day + 1 - 0) (day + 1)
        exact ⟨by omega, by omega, by omega, fun t t0 t1 => by omega⟩
      · show ¬ Cov w k (-1) (day + 1 - 0 - 1)
        rw [show day + 1 - 0 - 1 = day by omega]; exact hno
      · have hb : b ≤ day + 1 := hb
        show b - a ≤ mx
        by_cases e : b ≤ day
        · exact hmx a b hr e
        · obtain ⟨q0, q1, q2, q3⟩ := hr
          by_cases e2 : a ≤ day
          · exact (hno (q3 day e2 (by omega))).elim
          · omega
    · have hyes : Cov w k (-1) day := (hF day).mpr (eq_true_of_ne_false c2)
      have hrun1 : RunP w k (day + 1 - (ln + 1)) (day + 1) := by
        obtain ⟨q0, q1, q2, q3⟩ := hrun
        refine ⟨by omega, by omega, by omega, fun t t0 t1 => ?_⟩
        by_cases e : t = day
        · rw [e]; exact hyes
        · exact q3 t (by omega) (by omega)
      unfold jX8_longestSpan_42
      refine tt_ck ⟨⟨by omega, by omega⟩, ⟨by omega, by omega⟩⟩ (tt_nmE (fun v ev => tt_nm ?_))
      refine ih (v, ln + 1, day + 1, V) ⟨⟨by show 0 ≤ day + 1; omega, by show day + 1 ≤ 10000; omega⟩, rfl, ⟨by show 0 ≤ ln + 1; omega, hrun1⟩, ?_, fun a b hr hb => ?_, ?_⟩ (by show (10000 - (day + 1)).toNat < (10000 - day).toNat; omega)
      · show ln + 1 = day + 1 ∨ ¬ Cov w k (-1) (day + 1 - (ln + 1) - 1)
        rcases hbef with e | e
        · exact Or.inl (by omega)
        · refine Or.inr ?_
          rw [show day + 1 - (ln + 1) - 1 = day - ln - 1 by omega]; exact e
      · have hb : b ≤ day + 1 := hb
        show b - a ≤ v
        by_cases e : b ≤ day
        · have := hmx a b hr e; omega
        · obtain ⟨q0, q1, q2, q3⟩ := hr
          by_cases e2 : a < day - ln
          · rcases hbef with e3 | e3
            · omega
            · exact (e3 (q3 (day - ln - 1) (by omega) (by omega))).elim
          · omega
      · show ∃ a b : Int, RunP w k a b ∧ b - a = v
        by_cases e : mx ≤ ln + 1
        · exact ⟨_, _, hrun1, by omega⟩
        · obtain ⟨a, b, hr, e2⟩ := hex
          exact ⟨a, b, hr, by omega⟩
  · have t0 : (0 : Int) - 0 ≤ t := t0
    have t1 : t < 0 := t1
    omega
  · have hb : b ≤ 0 := hb
    show b - a ≤ 0
    obtain ⟨q0, q1, q2, q3⟩ := hr
    omega
theorem ag_longestSpan {V X V8 : Sz} (h : LR (sv 4 V) (V8 0)) {n : Nat} (hn : 20000 ≤ n) {k : Int} (hk : rng k) : TT (f_X8_longestSpan n V8 k) (Asks cdA (f_X7_longestSpan n V X k) V8) := by
  have hw := h.2.2.1
  refine tt_mono (x8_longestSpan hw hn hk) (fun ⟨r, V2⟩ ⟨h1, h2⟩ => ?_)
  unfold f_X7_longestSpan
  by_cases c : 0 ≤ k ∧ k < V8 0 0
  · obtain ⟨hT, hg⟩ := h1 c
    obtain ⟨r1, e1, hg1⟩ := c1_longestRun (V := sv 4 V) h.1 hw h.2.2.2 (n := n) (by omega) hk
    refine asks_yes ?_ hT
    rw [x7_donorY h hk c, bx_l, show f_X1_longestRun n (sv 9 V) k = some r1 from e1, show r = r1 from LongP.uniq hg hg1]; rfl
  · refine asks_no (e := 0) ?_ (h2 c) rfl (by decide)
    rw [x7_donorN h hk c]; rfl
/-! rows that differ in the declarations alone -/
def Geq (w w1 : Rw) : Prop := (∀ i : Nat, i < 20 → i ≠ 1 → w1 i = w i) ∧ ∀ i : Nat, 113 ≤ i → i < 1233 → w1 i = w i
theorem geq_WF {w w1 : Rw} (h : Geq w w1) (hw : WF w) (hn : WFn w1) (h1 : 0 ≤ w1 1 ∧ w1 1 ≤ 31) (hk : WFk w1) : WF w1 := by
  have a0 := hw.2.1.1
  have a2 := hw.2.1.2.2.1
  have a4 := hw.2.1.2.2.2.1
  obtain ⟨-, ha, hd, -, hg, hp, hx, hs, hc⟩ := hw
  have e0 : w1 0 = w 0 := h.1 0 (by decide) (by decide)
  have e2 : w1 2 = w 2 := h.1 2 (by decide) (by decide)
  have e4 : w1 4 = w 4 := h.1 4 (by decide) (by decide)
  have el : ∀ d : Int, 0 ≤ d → d < 10 → wLim w1 d = wLim w d := fun d d0 d1 => h.1 _ (by omega) (by omega)
  have eg : ∀ g : Int, 0 ≤ g → g < 60 → wDay w1 g = wDay w g ∧ wAm w1 g = wAm w g ∧ wGot w1 g = wGot w g ∧ wMany w1 g = wMany w g ∧ wBack w1 g = wBack w g := fun g g0 g1 => ⟨h.2 _ (by omega) (by omega), h.2 _ (by omega) (by omega), h.2 _ (by omega) (by omega), h.2 _ (by omega) (by omega), h.2 _ (by omega) (by omega)⟩
  have ep : ∀ p : Int, 0 ≤ p → p < 180 → wPd w1 p = wPd w p ∧ wPa w1 p = wPa w p ∧ wPb w1 p = wPb w p ∧ wPc w1 p = wPc w p := fun p p0 p1 => ⟨h.2 _ (by omega) (by omega), h.2 _ (by omega) (by omega), h.2 _ (by omega) (by omega), h.2 _ (by omega) (by omega)⟩
  refine ⟨hn, ?_, fun d d0 d1 => ?_, hk, fun g g0 g1 => ?_, fun g i g0 g1 i0 i1 => ?_, fun g i j g0 g1 i0 ij j1 => ?_, fun g g0 g1 hm => ?_, fun c c0 c1 => ?_⟩
  · obtain ⟨b0, b1, b2, b4, b5, b6, b7⟩ := ha
    unfold WFa
    rw [e0, e2, e4, h.1 5 (by decide) (by decide), h.1 6 (by decide) (by decide), h.1 7 (by decide) (by decide)]
    exact ⟨b0, h1, b2, b4, b5, b6, b7⟩
  · rw [e0] at d1
    rw [el d d0 (by omega)]; exact hd d d0 d1
  · rw [e2] at g1
    obtain ⟨q1, q2, q3, q4, q5⟩ := eg g g0 (by omega)
    rw [q1, q2, q3, q4, q5]; exact hg g g0 g1
  · rw [e2] at g1
    obtain ⟨q1, q2, q3, q4, q5⟩ := eg g g0 (by omega)
    rw [q4] at i1
    have hgg := hg g g0 g1
    obtain ⟨u1, u2, u3, u4⟩ := ep (3 * g + i) (by omega) (by omega)
    rw [u1, u2, u3, u4, e0]; exact hp g i g0 g1 i0 i1
  · rw [e2] at g1
    obtain ⟨q1, q2, q3, q4, q5⟩ := eg g g0 (by omega)
    rw [q4] at j1
    have hgg := hg g g0 g1
    rw [(ep (3 * g + i) (by omega) (by omega)).1, (ep (3 * g + j) (by omega) (by omega)).1]
    exact hx g i j g0 g1 i0 ij j1
  · rw [e2] at g1
    obtain ⟨q1, q2, q3, q4, q5⟩ := eg g g0 (by omega)
    have hgg := hg g g0 g1
    rw [q4] at hm ⊢
    rw [q2, q5]
    have q := hs g g0 g1 hm
    rw [← q.1, ← q.2]
    exact ⟨sumN_congr (fun i i0 i1 => (ep _ (by omega) (by omega)).2.1), sumN_congr (fun i i0 i1 => (ep _ (by omega) (by omega)).2.2.1)⟩
  · rw [e4] at c1
    have : wCl w1 c 0 = wCl w c 0 := h.2 _ (by omega) (by omega)
    rw [this]; exact hc c c0 c1
/-- a declaration's last day is another -/
theorem wf_to {w : Rw} (hw : WF w) {k x : Int} (k0 : 0 ≤ k) (k1 : k < w 1) (x0 : -1 ≤ x) (x1 : x ≤ 9999) : WF (up w (82 + k).toNat x) := by
  have a1 := hw.2.1.2.1
  have hkk := hw.2.2.2.1
  have e : ∀ i : Nat, i ≠ (82 + k).toNat → up w (82 + k).toNat x i = w i := fun i hi => up_ne hi
  refine geq_WF (w := w) ⟨fun i i0 _ => e i (by omega), fun i i0 i1 => e i (by omega)⟩ hw (fun i hi => ?_) (by rw [e 1 (by omega)]; exact a1) (fun j j0 j1 => ?_)
  · rw [up_if]
    split
    · constructor <;> omega
    · exact hw.1 i hi
  · rw [e 1 (by omega)] at j1
    have h := hkk j j0 j1
    unfold wWho wFr wTo at h ⊢
    rw [e (20 + j).toNat (by omega), e (51 + j).toNat (by omega), e 0 (by omega), up_if]
    split
    · exact ⟨h.1, h.2.1, h.2.2.1, h.2.2.2.1, x0, x1⟩
    · exact h
theorem up_back {T : Nat → Int} {i : Nat} {x : Int} : up (up T i x) i (T i) = T := by
  funext j
  rw [up_if]
  by_cases c : j = i
  · rw [if_pos c, c]
  · rw [if_neg c, up_ne c]
theorem uz_back {V : Sz} {k i : Nat} {x : Int} : uz (uz V k i x) k i (V k i) = V := by
  funext j
  by_cases c : j = k
  · rw [c, uz_at, uz_at, up_back]
  · rw [uz_ne c, uz_ne c]
theorem forB_without {w : Rw} (h1 : 0 ≤ w 1 ∧ w 1 ≤ 31) {k d t : Int} (k0 : 0 ≤ k) (k1 : k < w 1) : forB (up w (82 + k).toNat (wFr w k - 1)) d t = true ↔ Cov w d k t := by
  obtain ⟨x, ex⟩ : ∃ x, x = wFr w k - 1 := ⟨_, rfl⟩
  rw [← ex]
  have ex2 : x = w (51 + k).toNat - 1 := ex
  have e : ∀ i : Nat, i ≠ (82 + k).toNat → up w (82 + k).toNat x i = w i := fun i hi => up_ne hi
  have hon : ∀ j : Int, 0 ≤ j → j < w 1 → (onB (up w (82 + k).toNat x) j d t = true ↔ j ≠ k ∧ onB w j d t = true) := by
    intro j j0 j1
    rw [onB_iff, onB_iff]
    unfold wWho wFr wTo
    rw [e (20 + j).toNat (by omega), e (51 + j).toNat (by omega), up_if]
    by_cases c : j = k
    · rw [if_pos (by rw [c]), c]
      constructor
      · rintro ⟨q1, q2, q3⟩; omega
      · rintro ⟨q1, _⟩; exact (q1 rfl).elim
    · rw [if_neg (by omega)]
      exact ⟨fun q => ⟨c, q⟩, fun q => q.2⟩
  unfold forB
  rw [e 1 (by omega), anyN_iff]
  constructor
  · rintro ⟨j, j0, j1, hj⟩
    have := (hon j j0 (by omega)).mp hj
    exact ⟨j, j0, by omega, this.1, this.2⟩
  · rintro ⟨j, j0, j1, jk, hj⟩
    exact ⟨j, j0, by omega, (hon j j0 j1).mpr ⟨jk, hj⟩⟩
theorem x8_isNeedless {V0 : Sz} (hw : WF (V0 0)) {n : Nat} (hn : 20000 ≤ n) {k : Int} (k0 : 0 ≤ k) (k1 : k < V0 0 1) : TT (f_X8_isNeedless n V0 k) (fun r => r.2 = V0 ∧ (r.1 = true ↔ ∀ t : Int, wFr (V0 0) k ≤ t → t ≤ wTo (V0 0) k → Cov (V0 0) (wWho (V0 0) k) k t)) := by
  have a0 := hw.2.1.1
  have a1 := hw.2.1.2.1
  have hkk := hw.2.2.2.1 k k0 k1
  obtain ⟨fr, efr⟩ : ∃ fr, fr = wFr (V0 0) k := ⟨_, rfl⟩
  obtain ⟨lt, elt⟩ : ∃ lt, lt = wTo (V0 0) k := ⟨_, rfl⟩
  have efr1 : V0 0 (51 + k).toNat = fr := by rw [efr]; rfl
  have elt1 : V0 0 (82 + k).toNat = lt := by rw [elt]; rfl
  rw [← efr, ← elt] at hkk ⊢
  unfold f_X8_isNeedless
  rw [efr1, elt1]
  refine tt_ck ⟨by omega, by omega⟩ (tt_nm (tt_ck ⟨by omega, by omega⟩ (tt_nm (tt_nmE (fun V5 e5 => ?_)))))
  have e50 : V5 0 = up (V0 0) (82 + k).toNat (fr - 1) := by rw [e5, uz_at]
  have hw5 : WF (V5 0) := by rw [e50]; exact wf_to hw k0 k1 (by omega) (by omega)
  have ewho : V5 0 (20 + k).toNat = wWho (V0 0) k := by rw [e50, up_ne (by omega)]; rfl
  have hfor : ∀ t : Int, (forB (V5 0) (wWho (V0 0) k) t = true ↔ Cov (V0 0) (wWho (V0 0) k) k t) := fun t => by
    rw [e50, efr]; exact forB_without a1 k0 k1
  have fin : ∀ b : Int, (b = 0 ∨ b = 1) → (b = 1 ↔ ∀ t : Int, fr ≤ t → t ≤ lt → Cov (V0 0) (wWho (V0 0) k) k t) → TT (jX8_isNeedless_72 n k lt b V5) (fun r => r.2 = V0 ∧ (r.1 = true ↔ ∀ t : Int, fr ≤ t → t ≤ lt → Cov (V0 0) (wWho (V0 0) k) k t)) := by
    intro b hb hiff
    unfold jX8_isNeedless_72
    refine tt_ck ⟨by omega, by omega⟩ (tt_nm (tt_ck hb (tt_some ⟨?_, ?_⟩)))
    · show uz V5 0 (82 + k).toNat lt = V0
      rw [e5, ← elt1, uz_back]
    · show dZ b = true ↔ _
      rw [← hiff]
      rcases hb with e | e
      · rw [e]; exact ⟨fun q => Bool.noConfusion (show false = true from q), fun q => absurd q (by decide)⟩
      · rw [e]; exact ⟨fun _ => rfl, fun _ => rfl⟩
  refine tt_lp (I := fun z : Int × Int × Int × Sz => z.1 = lt ∧ z.2.2.2 = V5 ∧ (fr ≤ z.2.2.1 ∧ (z.2.2.1 ≤ lt + 1 ∨ z.2.2.1 = fr)) ∧ ((z.2.1 = 1 ∧ ∀ t : Int, fr ≤ t → t < z.2.2.1 → Cov (V0 0) (wWho (V0 0) k) k t) ∨ (z.2.1 = 0 ∧ ∃ t : Int, fr ≤ t ∧ t ≤ lt ∧ ¬ Cov (V0 0) (wWho (V0 0) k) k t))) (μ := fun z => (lt + 1 - z.2.2.1).toNat) ?_ n (lt, 1, fr, V5) ⟨rfl, rfl, ⟨Int.le_refl _, Or.inr rfl⟩, Or.inl ⟨rfl, fun t t0 t1 => absurd t1 (by show ¬ t < fr; omega)⟩⟩ (by show (lt + 1 - fr).toNat < n; omega)
  rintro ⟨y3, b, day, V⟩ rec ⟨e1, eV, ⟨q0, q1⟩, hb⟩ ih
  simp only at e1 eV q0 q1 hb
  subst e1 eV
  rw [bX8_isNeedless_38_e]
  refine tt_ck ⟨⟨by omega, by omega⟩, ⟨by omega, by omega⟩⟩ (tt_ite (fun c => ?_) (fun c => ?_))
  · rcases hb with ⟨u1, u2⟩ | ⟨u1, t, u2, u3, u4⟩
    · exact fin b (Or.inr u1) ⟨fun _ t t0 t1 => u2 t t0 (by omega), fun _ => u1⟩
    · exact fin b (Or.inl u1) ⟨fun q => by omega, fun q => (u4 (q t u2 u3)).elim⟩
  · have hbr : rng b := by
      rcases hb with ⟨u1, _⟩ | ⟨u1, _⟩ <;> rw [u1] <;> exact ⟨by decide, by decide⟩
    refine tt_ck hbr (tt_ite (fun c2 => ?_) (fun c2 => ?_))
    · rcases hb with ⟨u1, u2⟩ | ⟨u1, t, u2, u3, u4⟩
      · omega
      · exact fin b (Or.inl u1) ⟨fun q => by omega, fun q => (u4 (q t u2 u3)).elim⟩
    · rcases hb with ⟨u1, u2⟩ | ⟨u1, _⟩
      · rw [ewho]
        refine tt_ck ⟨by omega, by omega⟩ ?_
        rw [x8_isForced hw5 (by omega) ⟨by omega, by omega⟩ ⟨by omega, by omega⟩, bd_s]
        refine tt_nmE (fun v ev => tt_nm (ih (y3, v, day + 1, V) ⟨rfl, rfl, ⟨by show fr ≤ day + 1; omega, Or.inl (by show day + 1 ≤ y3 + 1; omega)⟩, ?_⟩ (by show (y3 + 1 - (day + 1)).toNat < (y3 + 1 - day).toNat; omega)))
        show (v = 1 ∧ ∀ t : Int, fr ≤ t → t < day + 1 → Cov (V0 0) (wWho (V0 0) k) k t) ∨ (v = 0 ∧ ∃ t : Int, fr ≤ t ∧ t ≤ y3 ∧ ¬ Cov (V0 0) (wWho (V0 0) k) k t)
        cases hf : forB (V 0) (wWho (V0 0) k) day with
        | true =>
          refine Or.inl ⟨by rw [ev, hf]; rfl, fun t t0 t1 => ?_⟩
          by_cases e : t = day
          · rw [e]; exact (hfor day).mp hf
          · exact u2 t t0 (by omega)
        | false =>
          refine Or.inr ⟨by rw [ev, hf]; rfl, day, q0, by omega, fun q => ?_⟩
          rw [(hfor day).mpr q] at hf
          exact Bool.noConfusion hf
      · exact (c2 u1).elim
theorem ag_needless {V X V8 : Sz} (h : LR (sv 4 V) (V8 0)) {n : Nat} (hn : 20000 ≤ n) {k : Int} (hk : rng k) : TT (f_X8_needless n V8 k) (Asks cdA (f_X7_needless n V X k) V8) := by
  have hw := h.2.2.1
  have a0 := hw.2.1.1
  have a1 := hw.2.1.2.1
  unfold f_X8_needless
  refine tt_bd (x8_noDonor hw hk) (fun ⟨r1, V2⟩ hr => ref_f hr (fun ok hT => ?_) (fun no hT => tt_some (asks_no (e := 0) ?_ hT rfl (by decide))))
  · have e0 : V2 0 = V8 0 := hT.2 0 (by decide)
    have e7 : f_X7_needless n V X k = some (.inl (sumN (needI (V8 0) k) (V8 0 1).toNat)) := by
      unfold f_X7_needless
      rw [x7_donorY h hk ok, bx_l, show f_X1_countNeedless n (sv 9 V) k = _ from c1_countNeedless (V := sv 4 V) h.1 hw h.2.2.2 (by omega) hk]; rfl
    rw [e7]
    refine tt_lp (I := fun z : Int × Int × Sz => (0 ≤ z.2.1 ∧ z.2.1 ≤ V8 0 1) ∧ z.2.2 = V2 ∧ z.1 = sumN (needI (V8 0) k) z.2.1.toNat) (μ := fun z => (V8 0 1 - z.2.1).toNat) ?_ n (0, 0, V2) ⟨⟨Int.le_refl _, a1.1⟩, rfl, rfl⟩ (by show (V8 0 1 - (0 : Int)).toNat < n; omega)
    rintro ⟨sm, j, V⟩ rec ⟨⟨j0, j1⟩, eV, es⟩ ih
    simp only at j0 j1 eV es
    subst eV
    rw [bX8_needless_14_e, e0]
    have next : ∀ z : Int, z = needI (V8 0) k j → j < V8 0 1 → TT (jX8_needless_51 n k rec j V z sm) (Asks cdA (some (Sum.inl (sumN (needI (V8 0) k) (V8 0 1).toNat))) V8) := by
      intro z hz hj
      unfold jX8_needless_51
      refine tt_nm (tt_nm (ih (sm + z, j + 1, V) ⟨⟨by show 0 ≤ j + 1; omega, by show j + 1 ≤ V8 0 1; omega⟩, rfl, ?_⟩ (by show (V8 0 1 - (j + 1)).toNat < (V8 0 1 - j).toNat; omega)))
      show sm + z = sumN (needI (V8 0) k) (j + 1).toNat
      rw [sumN_step _ j0, ← es, hz]
    refine tt_ck ⟨⟨by omega, by omega⟩, ⟨by omega, by omega⟩⟩ (tt_ite (fun c => tt_some (asks_yes ?_ hT)) (fun c => ?_))
    · rw [es, show j = V8 0 1 by omega]
    · have hj : j < V8 0 1 := by omega
      have hkj := hw.2.2.2.1 j j0 hj
      have ew : V8 0 (20 + j).toNat = wWho (V8 0) j := rfl
      rw [ew]
      refine tt_ck ⟨by omega, by omega⟩ (tt_ck ⟨⟨by omega, by omega⟩, hk⟩ (tt_ite (fun c2 => ?_) (fun c2 => ?_)))
      · refine tt_bd (x8_isNeedless (V0 := V) (by rw [e0]; exact hw) hn j0 (by rw [e0]; exact hj)) (fun ⟨r, V9⟩ ⟨e9, hr⟩ => ?_)
        simp only at e9 hr
        subst e9
        rw [e0] at hr
        refine tt_ite (fun c3 => ?_) (fun c3 => ?_)
        · unfold jX8_needless_50
          refine next 0 (needI_f (fun q => ?_)).symm hj
          have := hr.mpr (fun t t0 t1 => by rw [c2]; exact q.2 t t0 t1)
          rw [c3] at this; exact Bool.noConfusion this
        · refine next 1 (needI_t ⟨c2, fun t t0 t1 => ?_⟩).symm hj
          have := hr.mp (eq_true_of_ne_false c3) t t0 t1
          rw [c2] at this; exact this
      · unfold jX8_needless_50
        exact next 0 (needI_f (fun q => c2 q.1)).symm hj
  · unfold f_X7_needless
    rw [x7_donorN h hk no]; rfl
