/-! the class's reader, piece by piece -/
/-- the class stands at a word -/
def CB (T : Nat → Int) (L : Int) (V X : Sz) : Prop := V 2 0 = L ∧ (∃ p : Int, 0 ≤ p ∧ Tok T L p (V 3 0) (V 4 0) (V 5 0)) ∧ X 0 0 = wrd T (V 3 0) (V 4 0) (V 5 0)
theorem cb_bd {T : Nat → Int} {L : Int} {V X : Sz} (h : CB T L V X) : 0 ≤ V 3 0 ∧ V 3 0 ≤ V 4 0 ∧ V 4 0 ≤ L ∧ 0 ≤ V 5 0 ∧ V 5 0 ≤ 4 := by
  obtain ⟨-, ⟨p, p0, ht⟩, -⟩ := h
  have := tok_bd ht
  omega
theorem wrd_bd {T : Nat → Int} {L p s e k : Int} (h : Tok T L p s e k) (p0 : 0 ≤ p) : 0 ≤ wrd T s e k ∧ wrd T s e k ≤ 72057594037927935 := by
  unfold wrd
  by_cases c : k = 1 ∧ e - s ≤ 7
  · rw [if_pos c]
    obtain ⟨c1, c2⟩ := c
    subst c1
    have hl := tok_let h p0
    exact ⟨(pkf_bd _ hl).1, (pkf_top _ (by omega) hl).1⟩
  · rw [if_neg c]; omega
theorem cb_w {T : Nat → Int} {L : Int} {V X : Sz} (h : CB T L V X) : rngL (X 0 0) := by
  obtain ⟨-, ⟨p, p0, ht⟩, h3⟩ := h
  have := wrd_bd ht p0
  rw [h3]
  constructor <;> omega
theorem adv_cb {T : Nat → Int} {L : Int} {V X : Sz} {r : Sz × Sz} (h : Adv T L V X r) (h2 : V 2 0 = L) (h4 : 0 ≤ V 4 0) : CB T L r.1 r.2 := by
  obtain ⟨h1, hk, hx⟩ := h
  refine ⟨?_, ⟨V 4 0, h4, h1⟩, ?_⟩
  · rw [hk 2 (by decide) (by decide) (by decide)]; exact h2
  · rw [hx, us_at]
/-- what fail leaves -/
def FailV (V : Sz) (x : Int) (V1 : Sz) : Prop := (V 0 0 ≠ 0 → V1 = V) ∧ (V 0 0 = 0 → V1 0 0 = x ∧ V1 1 0 = V 3 0 ∧ ∀ j : Nat, 1 < j → V1 j = V j)
theorem c6_fail {V X G : Sz} {T : Nat → Int} (h : rng (V 0 0)) (x : Int) : TT (f_X6_fail V X T G x) (FailV V x) := by
  unfold f_X6_fail
  refine tt_ck h (tt_ite (fun c => tt_nmE (fun Va ea => tt_nmE (fun Vb eb => tt_some ⟨fun q => (q c).elim, fun _ => ⟨?_, ?_, fun j hj => ?_⟩⟩))) (fun c => tt_some ⟨fun _ => rfl, fun q => (c q).elim⟩))
  · rw [eb, us_ne (by decide), ea, us_at]
  · rw [eb, us_at, ea, us_ne (by decide)]
  · rw [eb, us_ne (by omega), ea, us_ne (by omega)]
def fstB (x : Int) : Bool := decide (x = 431366238066 ∨ x = 28258975365558885 ∨ x = 1734960756 ∨ x = 495807392116 ∨ x = 1667330920 ∨ x = 491596309875)
theorem c6_isFirst {V X G : Sz} {T : Nat → Int} (h : rngL (X 0 0)) : f_X6_isFirstWord V X T G = some (fstB (X 0 0)) := by
  unfold f_X6_isFirstWord fstB
  rw [ck_t h]
  by_cases c1 : X 0 0 = 431366238066
  · rw [if_pos c1, decide_eq_true (Or.inl c1)]
  rw [if_neg c1]
  by_cases c2 : X 0 0 = 28258975365558885
  · rw [if_pos c2, decide_eq_true (Or.inr (Or.inl c2))]
  rw [if_neg c2]
  by_cases c3 : X 0 0 = 1734960756
  · rw [if_pos c3, decide_eq_true (Or.inr (Or.inr (Or.inl c3)))]
  rw [if_neg c3]
  by_cases c4 : X 0 0 = 495807392116
  · rw [if_pos c4, decide_eq_true (Or.inr (Or.inr (Or.inr (Or.inl c4))))]
  rw [if_neg c4]
  by_cases c5 : X 0 0 = 1667330920
  · rw [if_pos c5, decide_eq_true (Or.inr (Or.inr (Or.inr (Or.inr (Or.inl c5)))))]
  rw [if_neg c5]
  by_cases c6 : X 0 0 = 491596309875
  · rw [if_pos c6, decide_eq_true (Or.inr (Or.inr (Or.inr (Or.inr (Or.inr c6)))))]
  rw [if_neg c6, decide_eq_false (by omega)]
/-- the first of n of which P holds -/
def FrP (P : Int → Prop) (n r : Int) : Prop := (r = -1 ∧ ∀ j : Int, 0 ≤ j → j < n → ¬ P j) ∨ ((0 ≤ r ∧ r < n) ∧ P r ∧ ∀ j : Int, 0 ≤ j → j < r → ¬ P j)
theorem frp_uniq {P Q : Int → Prop} {n r r1 : Int} (h : FrP P n r) (h1 : FrP Q n r1) (hpq : ∀ j : Int, 0 ≤ j → j < n → (P j ↔ Q j)) : r = r1 := by
  rcases h with ⟨a, b⟩ | ⟨a, b, c⟩ <;> rcases h1 with ⟨a1, b1⟩ | ⟨a1, b1, c1⟩
  · rw [a, a1]
  · exact (b r1 a1.1 a1.2 ((hpq r1 a1.1 a1.2).mpr b1)).elim
  · exact (b1 r a.1 a.2 ((hpq r a.1 a.2).mp b)).elim
  · have hc : r < r1 ∨ r1 < r ∨ r = r1 := by omega
    rcases hc with q | q | q
    · exact (c1 r a.1 q ((hpq r a.1 a.2).mp b)).elim
    · exact (c r1 a1.1 q ((hpq r1 a1.1 a1.2).mpr b1)).elim
    · exact q
theorem frp_bd {P : Int → Prop} {n r : Int} (h : FrP P n r) : -1 ≤ r ∧ (r = -1 ∨ r < n) := by
  rcases h with ⟨a, -⟩ | ⟨a, -, -⟩ <;> omega
def NamP (V X : Sz) : Prop := (V 5 0 = 1 ∧ V 4 0 - V 3 0 ≤ 6) ∧ fstB (X 0 0) = false
def XB (X : Sz) (m : Int) : Prop := ∀ j : Int, 0 ≤ j → j < m → rngL (X 1 j.toNat)
theorem c6_named {V X G : Sz} {T : Nat → Int} {L : Int} (hT : BT T L) (h : CB T L V X) (h0 : rng (V 0 0)) (h3 : 0 ≤ G 3 0 ∧ G 3 0 ≤ 10) (hX : XB X (G 3 0)) {n : Nat} (hn : 1000 ≤ n) : TT (f_X6_namedDonor n V X T G) (fun r => (NamP V X ∧ r.2 = V ∧ FrP (fun j => X 1 j.toNat = X 0 0) (G 3 0) r.1) ∨ (¬ NamP V X ∧ r.1 = -1 ∧ FailV V 1 r.2)) := by
  have hb := cb_bd h
  have hw := cb_w h
  have hL := hT.1
  have no : ¬ NamP V X → TT (jX6_namedDonor_29 n X T G V) (fun r => (NamP V X ∧ r.2 = V ∧ FrP (fun j => X 1 j.toNat = X 0 0) (G 3 0) r.1) ∨ (¬ NamP V X ∧ r.1 = -1 ∧ FailV V 1 r.2)) := by
    intro hno
    unfold jX6_namedDonor_29
    exact tt_bd (c6_fail h0 1) (fun V2 h2 => tt_some (Or.inr ⟨hno, rfl, h2⟩))
  unfold f_X6_namedDonor
  refine tt_ck ⟨by omega, by omega⟩ (tt_ite (fun c => ?_) (fun c => no (fun q => c q.1.1)))
  refine tt_ck ⟨by omega, by omega⟩ (tt_ite (fun c2 => no (fun q => by have := q.1.2; omega)) (fun c2 => ?_))
  rw [c6_isFirst hw, bd_s]
  refine tt_ite (fun c3 => ?_) (fun c3 => no (fun q => c3 q.2))
  have hN : NamP V X := ⟨⟨c, by omega⟩, c3⟩
  refine tt_lp (I := fun z : Int × Sz => z.2 = V ∧ (0 ≤ z.1 ∧ z.1 ≤ G 3 0) ∧ ∀ j : Int, 0 ≤ j → j < z.1 → ¬ X 1 j.toNat = X 0 0) (μ := fun z => (G 3 0 - z.1).toNat) ?_ n (0, V) ⟨rfl, ⟨Int.le_refl _, h3.1⟩, fun j j0 j1 => by have : j < 0 := j1; omega⟩ (by show (G 3 0 - (0 : Int)).toNat < n; omega)
  rintro ⟨y, Va⟩ rec ⟨eV, ⟨y0, y1⟩, hno⟩ ih
  simp only at eV y0 y1 hno
  subst eV
  rw [bX6_namedDonor_38_e]
  refine tt_ck ⟨⟨by omega, by omega⟩, ⟨by omega, by omega⟩⟩ (tt_ite (fun c4 => tt_some (Or.inl ⟨hN, rfl, Or.inl ⟨rfl, fun j j0 j1 => hno j j0 (by omega)⟩⟩)) (fun c4 => ?_))
  refine tt_ck ⟨y0, by omega⟩ (tt_ck ⟨hX y y0 (by omega), hw⟩ (tt_ite (fun c5 => tt_some (Or.inl ⟨hN, rfl, Or.inr ⟨⟨y0, by omega⟩, c5, hno⟩⟩)) (fun c5 => tt_nm (ih (y + 1, Va) ⟨rfl, ⟨by show 0 ≤ y + 1; omega, by show y + 1 ≤ G 3 0; omega⟩, fun j j0 j1 => ?_⟩ (by show (G 3 0 - (y + 1)).toNat < (G 3 0 - y).toNat; omega)))))
  have j1 : j < y + 1 := j1
  by_cases u : j = y
  · rw [u]; exact c5
  · exact hno j j0 (by omega)
theorem failv_rng {V V1 : Sz} {x : Int} (h : FailV V x V1) (h0 : rng (V 0 0)) (hx : rng x) : rng (V1 0 0) := by
  by_cases c : V 0 0 = 0
  · rw [(h.2 c).1]; exact hx
  · rw [h.1 c]; exact h0
theorem c6_known {V X G : Sz} {T : Nat → Int} {L : Int} (hT : BT T L) (h : CB T L V X) (h0 : rng (V 0 0)) (h3 : 0 ≤ G 3 0 ∧ G 3 0 ≤ 10) (hX : XB X (G 3 0)) {n : Nat} (hn : 1000 ≤ n) : TT (f_X6_knownDonor n V X T G) (fun r => (NamP V X ∧ FrP (fun j => X 1 j.toNat = X 0 0) (G 3 0) r.1 ∧ (r.1 ≠ -1 → r.2 = V) ∧ (r.1 = -1 → FailV V 3 r.2)) ∨ (¬ NamP V X ∧ r.1 = -1 ∧ FailV V 1 r.2)) := by
  unfold f_X6_knownDonor
  refine tt_bd (c6_named hT h h0 h3 hX hn) (fun ⟨r, V2⟩ hr => ?_)
  rcases hr with ⟨hN, e2, hF⟩ | ⟨hN, e1, hF⟩
  · have e2 : V2 = V := e2
    have hF : FrP (fun j => X 1 j.toNat = X 0 0) (G 3 0) r := hF
    have hfb := frp_bd hF
    subst e2
    refine tt_ck ⟨by omega, by omega⟩ (tt_ite (fun c => tt_bd (c6_fail h0 3) (fun V4 h4 => tt_some (Or.inl ⟨hN, hF, fun q => (q c).elim, fun _ => h4⟩))) (fun c => tt_some (Or.inl ⟨hN, hF, fun _ => rfl, fun q => (c q).elim⟩)))
  · have e1 : r = -1 := e1
    have hF : FailV V 1 V2 := hF
    subst e1
    have hF : FailV V 1 V2 := hF
    have hr2 : rng (V2 0 0) := failv_rng hF h0 ⟨by decide, by decide⟩
    refine tt_ck ⟨by decide, by decide⟩ (tt_t rfl (tt_bd (c6_fail hr2 3) (fun V4 h4 => tt_some (Or.inr ⟨hN, rfl, ?_⟩))))
    have hne : V2 0 0 ≠ 0 := by
      by_cases c : V 0 0 = 0
      · rw [(hF.2 c).1]; decide
      · rw [hF.1 c]; exact c
    show FailV V 1 V4
    rw [h4.1 hne]; exact hF
/-- a number, of the word that the class comes to -/
def NumP (V : Sz) : Prop := V 5 0 = 2 ∧ V 4 0 - V 3 0 ≤ 6
theorem c6_number {V X G : Sz} {T : Nat → Int} {L : Int} (hT : BT T L) (h0 : rng (V 0 0)) (h2 : V 2 0 = L) (h4 : 0 ≤ V 4 0 ∧ V 4 0 ≤ L) {a b : Int} (ha : rng a) (hb : rng b) {n : Nat} (hn : 1000 ≤ n) : TT (f_X6_readNumber n V X T G a b) (fun r => ∃ Va : Sz, Adv T L V X (Va, r.2.2) ∧ ((NumP Va ∧ r.1 = valS T (Va 3 0) (Va 4 0) (Va 5 0) ∧ ((a ≤ r.1 ∧ r.1 ≤ b ∧ r.2.1 = Va) ∨ (¬ (a ≤ r.1 ∧ r.1 ≤ b) ∧ FailV Va 2 r.2.1))) ∨ (¬ NumP Va ∧ r.1 = a ∧ FailV Va 1 r.2.1))) := by
  have hL := hT.1
  unfold f_X6_readNumber
  refine tt_bd (c6_advance hT h2 h4 hn) (fun ⟨Va, Xa⟩ hA => ?_)
  have hcb := adv_cb hA h2 h4.1
  have hbd := cb_bd hcb
  have a0 : Va 0 = V 0 := hA.2.1 0 (by decide) (by decide) (by decide)
  have hr0 : rng (Va 0 0) := by rw [a0]; exact h0
  have no : ¬ NumP Va → TT (jX6_readNumber_26 n T G a b Va Xa) (fun r => ∃ Va : Sz, Adv T L V X (Va, r.2.2) ∧ ((NumP Va ∧ r.1 = valS T (Va 3 0) (Va 4 0) (Va 5 0) ∧ ((a ≤ r.1 ∧ r.1 ≤ b ∧ r.2.1 = Va) ∨ (¬ (a ≤ r.1 ∧ r.1 ≤ b) ∧ FailV Va 2 r.2.1))) ∨ (¬ NumP Va ∧ r.1 = a ∧ FailV Va 1 r.2.1))) := by
    intro hno
    unfold jX6_readNumber_26
    exact tt_bd (c6_fail hr0 1) (fun V4 h4 => tt_some ⟨Va, hA, Or.inr ⟨hno, rfl, h4⟩⟩)
  have hbd3 : 0 ≤ Va 3 0 ∧ Va 3 0 ≤ Va 4 0 ∧ Va 4 0 ≤ L ∧ 0 ≤ Va 5 0 ∧ Va 5 0 ≤ 4 := hbd
  refine tt_ck ⟨by omega, by omega⟩ (tt_ite (fun c => ?_) (fun c => no (fun q => c q.1)))
  refine tt_ck ⟨by omega, by omega⟩ (tt_ite (fun c2 => ?_) (fun c2 => no (fun q => c2 q.2)))
  have hN : NumP Va := ⟨c, c2⟩
  have ht : Tok T L (V 4 0) (Va 3 0) (Va 4 0) 2 := by
    have := hA.1
    rw [show ((Va, Xa) : Sz × Sz).1 5 0 = 2 from c] at this
    exact this
  refine tt_nm (tt_lp (I := fun z : Int × Int × Sz × Sz => z.2.2 = (Va, Xa) ∧ (Va 3 0 ≤ z.2.1 ∧ z.2.1 ≤ Va 4 0) ∧ z.1 = nv T (Va 3 0) (z.2.1 - Va 3 0).toNat) (μ := fun z => (Va 4 0 - z.2.1).toNat) ?_ n (0, Va 3 0, Va, Xa) ⟨rfl, ⟨Int.le_refl _, hbd3.2.1⟩, by show (0 : Int) = nv T (Va 3 0) (Va 3 0 - Va 3 0).toNat; rw [show (Va 3 0 - Va 3 0).toNat = 0 by omega]; rfl⟩ (by show (Va 4 0 - Va 3 0).toNat < n; omega))
  rintro ⟨y, q, Vb, Xb⟩ rec ⟨eV, ⟨q0, q1⟩, ey⟩ ih
  simp only at q0 q1 ey
  have eV : (Vb, Xb) = (Va, Xa) := eV
  obtain ⟨rfl, rfl⟩ := Prod.mk.inj eV
  have hyb := nv_top ht h4.1 (m := (q - Vb 3 0).toNat) (by omega) (by omega)
  rw [← ey] at hyb
  rw [bX6_readNumber_41_e]
  refine tt_ck ⟨⟨by omega, by omega⟩, ⟨by omega, by omega⟩⟩ (tt_ite (fun c3 => ?_) (fun c3 => ?_))
  · have ev : y = valS T (Vb 3 0) (Vb 4 0) (Vb 5 0) := by
      unfold valS
      rw [if_pos c, ey, show min (Vb 4 0 - Vb 3 0) 6 = q - Vb 3 0 by omega]
    have bad : ¬ (a ≤ y ∧ y ≤ b) → TT (jX6_readNumber_82 n T G a b y Vb Xb) (fun r => ∃ Va : Sz, Adv T L V X (Va, r.2.2) ∧ ((NumP Va ∧ r.1 = valS T (Va 3 0) (Va 4 0) (Va 5 0) ∧ ((a ≤ r.1 ∧ r.1 ≤ b ∧ r.2.1 = Va) ∨ (¬ (a ≤ r.1 ∧ r.1 ≤ b) ∧ FailV Va 2 r.2.1))) ∨ (¬ NumP Va ∧ r.1 = a ∧ FailV Va 1 r.2.1))) := by
      intro hno
      unfold jX6_readNumber_82
      exact tt_bd (c6_fail hr0 2) (fun V9 h9 => tt_some ⟨Vb, hA, Or.inl ⟨hN, ev, Or.inr ⟨hno, h9⟩⟩⟩)
    refine tt_ck ⟨⟨by omega, by omega⟩, ha⟩ (tt_ite (fun c4 => bad (by omega)) (fun c4 => tt_ck hb (tt_ite (fun c5 => tt_some ⟨Vb, hA, Or.inl ⟨hN, ev, Or.inl ⟨?_, c5, rfl⟩⟩⟩) (fun c5 => bad (by omega)))))
    show a ≤ y
    omega
  · have hdig := kd_two ((ht.2.2.2.2.2.2 (Or.inr rfl)).2.2.1 q q0 (by omega))
    refine tt_ck ⟨by omega, by omega⟩ (tt_nm (tt_nm (ih (y * 10 + (T q.toNat - 48), q + 1, Vb, Xb) ⟨rfl, ⟨by show Vb 3 0 ≤ q + 1; omega, by show q + 1 ≤ Vb 4 0; omega⟩, ?_⟩ (by show (Vb 4 0 - (q + 1)).toNat < (Vb 4 0 - q).toNat; omega))))
    show y * 10 + (T q.toNat - 48) = nv T (Vb 3 0) (q + 1 - Vb 3 0).toNat
    rw [show (q + 1 - Vb 3 0).toNat = (q - Vb 3 0).toNat + 1 by omega]
    show _ = 10 * nv T (Vb 3 0) (q - Vb 3 0).toNat + T ((Vb 3 0).toNat + (q - Vb 3 0).toNat) - 48
    rw [show (Vb 3 0).toNat + (q - Vb 3 0).toNat = q.toNat by omega]
    omega
theorem c6_semi {V X G : Sz} {T : Nat → Int} {L : Int} (hT : BT T L) (h0 : rng (V 0 0)) (h2 : V 2 0 = L) (h4 : 0 ≤ V 4 0 ∧ V 4 0 ≤ L) {n : Nat} (hn : 1000 ≤ n) : TT (f_X6_readSemicolon n V X T G) (fun r => ∃ Va : Sz, Adv T L V X (Va, r.2) ∧ ((Va 5 0 = 3 ∧ r.1 = Va) ∨ (Va 5 0 ≠ 3 ∧ FailV Va 1 r.1))) := by
  unfold f_X6_readSemicolon
  refine tt_bd (c6_advance hT h2 h4 hn) (fun ⟨Va, Xa⟩ hA => ?_)
  have hcb := adv_cb hA h2 h4.1
  have hbd : 0 ≤ Va 3 0 ∧ Va 3 0 ≤ Va 4 0 ∧ Va 4 0 ≤ L ∧ 0 ≤ Va 5 0 ∧ Va 5 0 ≤ 4 := cb_bd hcb
  have a0 : Va 0 = V 0 := hA.2.1 0 (by decide) (by decide) (by decide)
  refine tt_ck ⟨by omega, by omega⟩ (tt_ite (fun c => tt_some ⟨Va, hA, Or.inl ⟨c, rfl⟩⟩) (fun c => tt_bd (c6_fail (by rw [a0]; exact h0) 1) (fun V4 h4 => tt_some ⟨Va, hA, Or.inr ⟨c, h4⟩⟩)))
/-! behind an error -/
/-- the class behind an error: it says nothing new -/
def ER (T : Nat → Int) (L c o : Int) (N : Nat → Int) (V X : Sz) : Prop := (V 0 0 = c ∧ V 1 0 = o ∧ 1 ≤ c ∧ c ≤ 4) ∧ CB T L V X ∧ X 1 = N
theorem er_failv {T : Nat → Int} {L c o x : Int} {N : Nat → Int} {V X V1 : Sz} (h : ER T L c o N V X) (hF : FailV V x V1) : V1 = V := hF.1 (by rw [h.1.1]; have := h.1.2.2.1; omega)
theorem er_adv {T : Nat → Int} {L c o : Int} {N : Nat → Int} {V X : Sz} {r : Sz × Sz} (h : ER T L c o N V X) (hA : Adv T L V X r) : ER T L c o N r.1 r.2 := by
  obtain ⟨⟨h1, h2, h3, h4⟩, hc, hx⟩ := h
  have hb := cb_bd hc
  refine ⟨⟨?_, ?_, h3, h4⟩, adv_cb hA hc.1 (by omega), ?_⟩
  · rw [hA.2.1 0 (by decide) (by decide) (by decide)]; exact h1
  · rw [hA.2.1 1 (by decide) (by decide) (by decide)]; exact h2
  · rw [hA.2.2, us_ne (by decide)]; exact hx
theorem er_rng {T : Nat → Int} {L c o : Int} {N : Nat → Int} {V X : Sz} (h : ER T L c o N V X) : rng (V 0 0) ∧ V 2 0 = L ∧ 0 ≤ V 4 0 ∧ V 4 0 ≤ L := by
  have hb := cb_bd h.2.1
  obtain ⟨⟨h1, h2, h3, h4⟩, hc, hx⟩ := h
  exact ⟨⟨by omega, by omega⟩, hc.1, by omega, hb.2.2.1⟩
theorem er_advance {T : Nat → Int} {L c o : Int} {N : Nat → Int} {V X G : Sz} (hT : BT T L) (h : ER T L c o N V X) {n : Nat} (hn : 1000 ≤ n) : TT (f_X6_advance n V X T G) (fun r => ER T L c o N r.1 r.2) := by
  have hr := er_rng h
  exact tt_mono (c6_advance hT hr.2.1 hr.2.2 hn) (fun r hA => er_adv h hA)
theorem val_rng {T : Nat → Int} {L p s e k : Int} (h : Tok T L p s e k) (p0 : 0 ≤ p) : 0 ≤ valS T s e k ∧ valS T s e k ≤ 999999 := by
  unfold valS
  split
  · rename_i c
    subst c
    have hb := tok_bd h
    exact nv_top h p0 (by omega) (by omega)
  · omega
theorem er_number {T : Nat → Int} {L c o : Int} {N : Nat → Int} {V X G : Sz} (hT : BT T L) (h : ER T L c o N V X) {a b : Int} (ha : rng a) (hb : rng b) {n : Nat} (hn : 1000 ≤ n) : TT (f_X6_readNumber n V X T G a b) (fun r => rng r.1 ∧ ER T L c o N r.2.1 r.2.2) := by
  have hr := er_rng h
  refine tt_mono (c6_number hT hr.1 hr.2.1 hr.2.2 ha hb hn) (fun ⟨r, V1, X1⟩ ⟨Va, hA, hR⟩ => ?_)
  have hE := er_adv h hA
  have hE : ER T L c o N Va X1 := hE
  have hval := val_rng hA.1 hr.2.2.1
  have hval : 0 ≤ valS T (Va 3 0) (Va 4 0) (Va 5 0) ∧ valS T (Va 3 0) (Va 4 0) (Va 5 0) ≤ 999999 := hval
  rcases hR with ⟨-, e, hR⟩ | ⟨-, e, hF⟩
  · have e : r = _ := e
    have hrr : rng r := by rw [e]; constructor <;> omega
    rcases hR with ⟨-, -, e2⟩ | ⟨-, hF⟩
    · have e2 : V1 = Va := e2
      exact ⟨hrr, by show ER T L c o N V1 X1; rw [e2]; exact hE⟩
    · have e2 : V1 = Va := er_failv hE hF
      exact ⟨hrr, by show ER T L c o N V1 X1; rw [e2]; exact hE⟩
  · have e : r = a := e
    have e2 : V1 = Va := er_failv hE hF
    exact ⟨by show rng r; rw [e]; exact ha, by show ER T L c o N V1 X1; rw [e2]; exact hE⟩
theorem er_semi {T : Nat → Int} {L c o : Int} {N : Nat → Int} {V X G : Sz} (hT : BT T L) (h : ER T L c o N V X) {n : Nat} (hn : 1000 ≤ n) : TT (f_X6_readSemicolon n V X T G) (fun r => ER T L c o N r.1 r.2) := by
  have hr := er_rng h
  refine tt_mono (c6_semi hT hr.1 hr.2.1 hr.2.2 hn) (fun ⟨V1, X1⟩ ⟨Va, hA, hR⟩ => ?_)
  have hE : ER T L c o N Va X1 := er_adv h hA
  rcases hR with ⟨-, e2⟩ | ⟨-, hF⟩
  · have e2 : V1 = Va := e2
    show ER T L c o N V1 X1
    rw [e2]; exact hE
  · have e2 : V1 = Va := er_failv hE hF
    show ER T L c o N V1 X1
    rw [e2]; exact hE
theorem er_known {T : Nat → Int} {L c o : Int} {N : Nat → Int} {V X G : Sz} (hT : BT T L) (h : ER T L c o N V X) (h3 : 0 ≤ G 3 0 ∧ G 3 0 ≤ 10) (hX : XB X (G 3 0)) {n : Nat} (hn : 1000 ≤ n) : TT (f_X6_knownDonor n V X T G) (fun r => rng r.1 ∧ r.2 = V) := by
  have hr := er_rng h
  refine tt_mono (c6_known hT h.2.1 hr.1 h3 hX hn) (fun ⟨r, V1⟩ hR => ?_)
  rcases hR with ⟨-, hF, h1, h2⟩ | ⟨-, e, hF⟩
  · have hF : FrP (fun j => X 1 j.toNat = X 0 0) (G 3 0) r := hF
    have hfb := frp_bd hF
    refine ⟨by show rng r; constructor <;> omega, ?_⟩
    by_cases q : r = -1
    · exact er_failv h (h2 q)
    · exact h1 q
  · have e : r = -1 := e
    exact ⟨by show rng r; rw [e]; decide, er_failv h hF⟩
theorem c3_hasDonor {G : Sz} {g c d : Int} {dd : Int → Int} (hg : 0 ≤ g ∧ g < 60) (hc : 0 ≤ c ∧ c ≤ 3) (e5 : G 5 g.toNat = c) (e7 : ∀ j : Int, 0 ≤ j → j < c → G 7 (3 * g + j).toNat = dd j ∧ rng (dd j)) (hd : rng d) {n : Nat} (hn : 100 ≤ n) : TT (f_X3_hasDonor n G g d) (fun b => b = true ↔ ∃ j : Int, 0 ≤ j ∧ j < c ∧ dd j = d) := by
  unfold f_X3_hasDonor
  refine tt_lp (I := fun y : Int => (0 ≤ y ∧ y ≤ c) ∧ ∀ j : Int, 0 ≤ j → j < y → dd j ≠ d) (μ := fun y => (c - y).toNat) ?_ n 0 ⟨⟨Int.le_refl _, hc.1⟩, fun j j0 j1 => by have : j < 0 := j1; omega⟩ (by show (c - (0 : Int)).toNat < n; omega)
  rintro y rec ⟨⟨y0, y1⟩, hno⟩ ih
  rw [bX3_hasDonor_2_e, e5]
  refine tt_ck ⟨hg.1, by omega⟩ (tt_ck ⟨⟨by omega, by omega⟩, ⟨by omega, by omega⟩⟩ (tt_ite (fun c1 => tt_some ⟨fun q => Bool.noConfusion (show false = true from q), ?_⟩) (fun c1 => ?_)))
  · rintro ⟨j, j0, j1, ej⟩
    exact (hno j j0 (by omega) ej).elim
  · obtain ⟨e, er⟩ := e7 y y0 (by omega)
    rw [show g * 3 + y = 3 * g + y by omega, e]
    refine tt_ck ⟨by omega, by omega⟩ (tt_ck ⟨er, hd⟩ (tt_ite (fun c2 => tt_some ⟨fun _ => ⟨y, y0, by omega, c2⟩, fun _ => rfl⟩) (fun c2 => tt_nm (ih (y + 1) ⟨⟨by omega, by omega⟩, fun j j0 j1 => ?_⟩ (by show (c - (y + 1)).toNat < (c - y).toNat; omega)))))
    by_cases u : j = y
    · rw [u]; exact c2
    · exact hno j j0 (by omega)
/-- a gift's parts in the ledger: their count, and donors in range -/
def GP (G : Sz) (g : Int) : Prop := g = -1 ∨ ((0 ≤ g ∧ g < 60) ∧ (0 ≤ G 14 g.toNat ∧ G 14 g.toNat ≤ 3) ∧ ∀ j : Int, 0 ≤ j → j < G 14 g.toNat → rng (G 16 (3 * g + j).toNat))
theorem er_share2 {T : Nat → Int} {L c o : Int} {N : Nat → Int} {V2 X G : Sz} (hT : BT T L) (h : ER T L c o N V2 X) {g r : Int} (hg : GP G g) (rr : rng r) {n : Nat} (hn : 1000 ≤ n) : TT (ck (rng g) <| if g = (-1) then (jX6_readShare_30 n T g r V2 X G) else (bd (f_X3_hasDonor n (sv 9 G) g r) fun (r_10 : Bool) => if r_10 = false then (jX6_readShare_30 n T g r V2 X G) else (bd (f_X6_fail V2 X T G 3) fun (V_11 : Sz) => jX6_readShare_30 n T g r V_11 X G))) (fun r => ER T L c o N r.1 r.2.1 ∧ r.2.2 = G) := by
  have hr := er_rng h
  have gr : rng g := by rcases hg with q | ⟨q, -⟩ <;> constructor <;> omega
  have tail : TT (jX6_readShare_30 n T g r V2 X G) (fun r => ER T L c o N r.1 r.2.1 ∧ r.2.2 = G) := by
    unfold jX6_readShare_30
    refine tt_bd (er_number hT h ⟨by decide, by decide⟩ ⟨by decide, by decide⟩ hn) (fun ⟨r4, V5, X6⟩ ⟨r4r, hE⟩ => ?_)
    have hE : ER T L c o N V5 X6 := hE
    have hr5 := er_rng hE
    refine tt_ck hr5.1 (tt_f (by rw [hE.1.1]; have := hE.1.2.2.1; omega) (tt_some ⟨hE, rfl⟩))
  refine tt_ck gr (tt_ite (fun c1 => tail) (fun c1 => ?_))
  rcases hg with q | ⟨g0, gc, gd⟩
  · exact (c1 q).elim
  refine tt_bd (c3_hasDonor (G := sv 9 G) (g := g) (c := G 14 g.toNat) (dd := fun j => G 16 (3 * g + j).toNat) g0 gc rfl (fun j j0 j1 => ⟨rfl, gd j j0 j1⟩) rr (by omega)) (fun b _ => tt_ite (fun c2 => tail) (fun c2 => tt_bd (c6_fail hr.1 3) (fun V11 h11 => ?_)))
  rw [er_failv h h11]
  exact tail
theorem er_share {T : Nat → Int} {L c o : Int} {N : Nat → Int} {V X G : Sz} (hT : BT T L) (h : ER T L c o N V X) (h3 : 0 ≤ G 3 0 ∧ G 3 0 ≤ 10) (hX : XB X (G 3 0)) {g : Int} (hg : GP G g) {n : Nat} (hn : 1000 ≤ n) : TT (f_X6_readShare n V X T G g) (fun r => ER T L c o N r.1 r.2.1 ∧ r.2.2 = G) := by
  unfold f_X6_readShare
  refine tt_bd (er_known hT h h3 hX hn) (fun ⟨r, V2⟩ ⟨rr, e2⟩ => ?_)
  have rr : rng r := rr
  have e2 : V2 = V := e2
  subst e2
  exact er_share2 hT h hg rr hn
