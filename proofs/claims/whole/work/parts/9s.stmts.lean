/-! statements, both sides -/
/-- the ledger read so far says what the row says -/
def SR (G V X V8 : Sz) : Prop := (LR0 G (V8 0) ∧ WF (V8 0) ∧ V8 0 1 ≤ 30 ∧ WFz (V8 0)) ∧ NmR X V8 (V8 0 0) ∧ V 6 0 = V8 24 0 ∧ 0 ≤ V 6 0 ∧ V 6 0 ≤ 1
def KeepR (V8 V9 : Sz) : Prop := ∀ j : Nat, (0 < j ∧ j < 7) ∨ (8 ≤ j ∧ j < 18) ∨ 26 ≤ j → V9 j = V8 j
/-- what a statement leaves, on both sides -/
def cntR (V8 : Sz) : Int := V8 0 0 + V8 0 1 + V8 0 2 + V8 24 0
def StOut (T : Nat → Int) (L : Int) (m : Int) (q : Bool × Sz) (V1 X1 G1 : Sz) : Prop := (q.1 = true ∧ q.2 18 0 = 0 ∧ ((q.2 23 0 = 3 ∧ JB T L V1 X1 q.2 ∧ SR G1 V1 X1 q.2 ∧ cntR q.2 = m) ∨ (q.2 23 0 ≠ 3 ∧ rng (q.2 23 0) ∧ ∀ V9 : Sz, V9 18 0 = 1 → V9 19 0 = q.2 21 0 → ∃ N, BE T L N V1 X1 V9))) ∨ (q.1 = false ∧ ∃ N, BE T L N V1 X1 q.2)
theorem sr_at {G V X V8 : Sz} (h : SR G V X V8) : (G 3 0 = V8 0 0 ∧ 0 ≤ V8 0 0 ∧ V8 0 0 ≤ 10) ∧ (G 5 0 = V8 0 1 ∧ 0 ≤ V8 0 1 ∧ V8 0 1 ≤ 30) ∧ G 9 0 = V8 0 2 ∧ 0 ≤ V8 0 2 ∧ V8 0 2 ≤ 60 := by
  obtain ⟨⟨hL, hw, h30, -⟩, -⟩ := h
  have a0 := hw.2.1.1
  have a1 := hw.2.1.2.1
  have a2 := hw.2.1.2.2.1
  exact ⟨⟨hL.1.2.2.2.1, a0⟩, ⟨hL.1.2.2.2.2.1, a1.1, h30⟩, hL.1.2.2.2.2.2.1, a2⟩
theorem x8_start0 {V0 : Sz} (h : V0 18 0 = 0) {n : Nat} : TT (f_X8_starts n V0 0) (fun r => r.1 = false ∧ r.2 18 0 = 4 ∧ r.2 19 0 = V0 21 0 ∧ ∀ j : Nat, j ≠ 18 → j ≠ 19 → r.2 j = V0 j) := by
  unfold f_X8_starts
  refine tt_ck ⟨by decide, by decide⟩ (tt_t rfl (tt_bd (x8_failsAt h 4) (fun ⟨b, V⟩ hf => tt_some hf)))
theorem x8_start1 {T : Nat → Int} {L : Int} {V X V8 : Sz} (hT : BT T L) (h : JB T L V X V8) {n : Nat} (hn : 1000 ≤ n) : TT (f_X8_starts n V8 1) (fun r => r.1 = true ∧ JA T L V r.2 ∧ ∀ j : Nat, j ≠ 20 → j ≠ 21 → j ≠ 22 → j ≠ 23 → r.2 j = V8 j) := by
  unfold f_X8_starts
  refine tt_ck ⟨by decide, by decide⟩ (tt_f (by decide) (tt_bd (jb_next hT h hn) (fun V9 hV => tt_some ⟨rfl, hV.1, hV.2⟩)))
theorem be_er {T : Nat → Int} {L : Int} {N : Nat → Int} {V X V8 : Sz} (h : BE T L N V X V8) : ∃ c o : Int, ER T L c o N V X ∧ ∀ V1 X1 : Sz, ER T L c o N V1 X1 → BE T L N V1 X1 V8 := by
  obtain ⟨c, o, h1, h2, h3, h4⟩ := h
  exact ⟨c, o, h1, fun V1 X1 hE => ⟨c, o, hE, h2, h3, h4⟩⟩
theorem be_keep {T : Nat → Int} {L : Int} {N : Nat → Int} {V X V8 V9 : Sz} (h : BE T L N V X V8) (hk : V9 18 = V8 18 ∧ V9 19 = V8 19) : BE T L N V X V9 := by
  obtain ⟨c, o, h1, h2, h3, h4⟩ := h
  exact ⟨c, o, h1, by rw [hk.1]; exact h2, by rw [hk.2]; exact h3, h4⟩
/-- the head of a gift, behind an error -/
theorem er_head {T : Nat → Int} {L c o : Int} {N : Nat → Int} {V X G : Sz} (hT : BT T L) (h : ER T L c o N V X) {n : Nat} (hn : 1000 ≤ n) : TT (jX6_readGiftHead_18 n T V X G) (fun r => r.1 = -1 ∧ ER T L c o N r.2.1 r.2.2.1 ∧ r.2.2.2 = G) := by
  unfold jX6_readGiftHead_18
  refine tt_bd (er_number hT h ⟨by decide, by decide⟩ ⟨by decide, by decide⟩ hn) (fun ⟨r1, V1, X1⟩ ⟨_, h1⟩ => ?_)
  refine tt_bd (er_number hT h1 ⟨by decide, by decide⟩ ⟨by decide, by decide⟩ hn) (fun ⟨r2, V2, X2⟩ ⟨_, h2⟩ => ?_)
  refine tt_bd (er_number hT h2 ⟨by decide, by decide⟩ ⟨by decide, by decide⟩ hn) (fun ⟨r3, V3, X3⟩ ⟨_, h3⟩ => ?_)
  have h3 : ER T L c o N V3 X3 := h3
  have hr := er_rng h3
  exact tt_ck hr.1 (tt_f (by rw [h3.1.1]; have := h3.1.2.2.1; omega) (tt_some ⟨rfl, h3, rfl⟩))
theorem money_both {T : Nat → Int} {L : Int} {V X V8 G : Sz} (hT : BT T L) (h : JB T L V X V8) (hS : SR G V X V8) {n : Nat} (hn : 1000 ≤ n) : TT (f_X8_readMoney n V8) (fun q => (∀ j : Nat, j ≠ 0 → ¬ (18 ≤ j ∧ j < 24) → q.2 j = V8 j) ∧ ∃ (r : Int) (V1 X1 G1 : Sz), f_X6_readGiftHead n V X T G = some (r, V1, X1, G1) ∧ X1 1 = X 1 ∧ ((q.1 = true ∧ V1 6 = V 6 ∧ JA T L V1 q.2 ∧ (r = V8 0 2 ∧ r < 60) ∧ ∃ (day am be : Int) (wa : Rw), (0 ≤ day ∧ day ≤ 9999) ∧ (1 ≤ am ∧ am ≤ 999999) ∧ (0 ≤ be ∧ be ≤ 999999) ∧ ClrRow (V8 0) r wa ∧ q.2 0 = FilRow wa r day am be ∧ ∀ dd a : Int → Int, PartL G G1 (V8 0) r day am be 0 dd a) ∨ (q.1 = false ∧ r = -1 ∧ G1 = G ∧ BE T L (X 1) V1 X1 q.2))) := by
  have hsa := sr_at hS
  obtain ⟨⟨hL, hw, h30, hz⟩, hNm, h6⟩ := hS
  obtain ⟨g, eg⟩ : ∃ g : Int, g = V8 0 2 := ⟨_, rfl⟩
  have hfull : f_X3_isFull (sv 9 G) = some (decide (g = 60)) := by
    have e : sv 9 G 0 0 = g := hsa.2.2.1.trans eg.symm
    unfold f_X3_isFull
    rw [e, ck_t ⟨by omega, by omega⟩]
    by_cases c : g = 60
    · rw [if_neg (by omega), decide_eq_true c]
    · rw [if_pos (by omega), decide_eq_false c]
  unfold f_X8_readMoney
  refine tt_nmE (fun x1 ex1 => ?_)
  rw [← eg] at ex1
  subst ex1
  refine tt_ck ⟨by omega, by omega⟩ (tt_ite (fun c60 => ?_) (fun c60 => ?_))
  · -- full
    have hc60 : x1 = 60 := by omega
    unfold jX8_readMoney_19
    refine tt_bd (x8_start0 (n := n) h.1.2.2.1) (fun ⟨b, V4⟩ ⟨f1, f2, f3, f4⟩ => ?_)
    have f1 : b = false := f1
    subst f1
    refine tt_f (by decide) (tt_some ⟨fun j j0 j1 => f4 j (by omega) (by omega), ?_⟩)
    obtain ⟨Vf, ef, hF⟩ := c6_fail (V := V) (X := X) (G := G) (T := T) (by rw [h.1.1.1]; decide) 4
    have hBE : BE T L (X 1) Vf X V4 := jb_fail hT h hF ⟨by decide, by decide⟩ f2 f3
    obtain ⟨c, o, hE, hback⟩ := be_er hBE
    have hx : TT (f_X6_readGiftHead n V X T G) (fun r => r.1 = -1 ∧ ER T L c o (X 1) r.2.1 r.2.2.1 ∧ r.2.2.2 = G) := by
      unfold f_X6_readGiftHead
      rw [hfull, bd_s, decide_eq_true hc60]
      exact tt_f (by decide) (tt_eb ef (er_head hT hE hn))
    obtain ⟨⟨r, V1, X1, G1⟩, e1, u1, u2, u3⟩ := hx
    exact ⟨r, V1, X1, G1, e1, u2.2.2, Or.inr ⟨rfl, u1, u3, hback V1 X1 u2⟩⟩
  · have g0 : 0 ≤ x1 := by omega
    have g1 : x1 < 60 := by omega
    have hcl : ∀ {P : Int × Sz × Sz × Sz → Prop}, TT (jX6_readGiftHead_18 n T V X G) P → TT (f_X6_readGiftHead n V X T G) P := by
      intro P hP
      unfold f_X6_readGiftHead
      rw [hfull, bd_s, decide_eq_false (by omega)]
      exact tt_t rfl hP
    unfold jX8_readMoney_19
    refine tt_bd (x8_start1 hT h hn) (fun ⟨b, V4⟩ ⟨f1, hJA4, f4⟩ => ?_)
    have f1 : b = true := f1
    subst f1
    refine tt_t rfl (tt_bd (x8_clearsParts (V0 := V4) g0 g1 (by omega)) (fun V5 ⟨hk5, hclr⟩ => ?_))
    have f4 : ∀ j : Nat, j ≠ 20 → j ≠ 21 → j ≠ 22 → j ≠ 23 → V4 j = V8 j := f4
    rw [f4 0 (by decide) (by decide) (by decide) (by decide)] at hclr
    have hJA5 : JA T L V V5 := ja_keep hJA4 (fun j j0 _ => hk5 j (by omega))
    refine tt_bd (num_both (X := X) (G := G) hT hJA5 (i := 113 + x1) ⟨by omega, by omega⟩ ⟨by decide, by decide⟩ ⟨by decide, by decide⟩ hn) (fun ⟨b7, V7⟩ ⟨hk7, r1, C1, X1, ec1, rr1, ex1, e61, hc1⟩ => ?_)
    have hm7 : ∀ j : Nat, j ≠ 0 → ¬ (18 ≤ j ∧ j < 24) → V7 j = V8 j := fun j j0 j1 => (hk7 j j0 j1).trans ((hk5 j j0).trans (f4 j (by omega) (by omega) (by omega) (by omega)))
    rcases hc1 with ⟨b1, ⟨d0, d1⟩, row1, hJA7⟩ | ⟨b1, hBE⟩
    · have b1 : b7 = true := b1
      subst b1
      have row1 : V7 0 = up (V5 0) (113 + x1).toNat r1 := row1
      have hJA7 : JA T L C1 V7 := hJA7
      refine tt_f (by decide) (tt_bd (num_both (X := X1) (G := G) hT hJA7 (i := 173 + x1) ⟨by omega, by omega⟩ ⟨by decide, by decide⟩ ⟨by decide, by decide⟩ hn) (fun ⟨b9, V9⟩ ⟨hk9, r2, C2, X2, ec2, rr2, ex2, e62, hc2⟩ => ?_))
      have hm9 : ∀ j : Nat, j ≠ 0 → ¬ (18 ≤ j ∧ j < 24) → V9 j = V8 j := fun j j0 j1 => (hk9 j j0 j1).trans (hm7 j j0 j1)
      have ex2 : X2 1 = X 1 := ex2.trans ex1
      rcases hc2 with ⟨b2, ⟨a0, a1⟩, row2, hJA9⟩ | ⟨b2, hBE⟩
      · have b2 : b9 = true := b2
        subst b2
        have row2 : V9 0 = up (V7 0) (173 + x1).toNat r2 := row2
        have hJA9 : JA T L C2 V9 := hJA9
        refine tt_f (by decide) (tt_bd (num_both (X := X2) (G := G) hT hJA9 (i := 233 + x1) ⟨by omega, by omega⟩ ⟨by decide, by decide⟩ ⟨by decide, by decide⟩ hn) (fun ⟨b11, V11⟩ ⟨hk11, r3, C3, X3, ec3, rr3, ex3, e63, hc3⟩ => ?_))
        have hm11 : ∀ j : Nat, j ≠ 0 → ¬ (18 ≤ j ∧ j < 24) → V11 j = V8 j := fun j j0 j1 => (hk11 j j0 j1).trans (hm9 j j0 j1)
        have ex3 : X3 1 = X 1 := ex3.trans ex2
        rcases hc3 with ⟨b3, ⟨q0, q1⟩, row3, hJA11⟩ | ⟨b3, hBE⟩
        · have b3 : b11 = true := b3
          subst b3
          have row3 : V11 0 = up (V9 0) (233 + x1).toNat r3 := row3
          have hJA11 : JA T L C3 V11 := hJA11
          have hx : TT (f_X6_readGiftHead n V X T G) (fun r => r.1 = x1 ∧ r.2.1 = C3 ∧ r.2.2.1 = X3 ∧ PartL G r.2.2.2 (V8 0) x1 r1 r2 r3 0 (fun _ => 0) (fun _ => 0)) := by
            refine hcl ?_
            unfold jX6_readGiftHead_18
            refine tt_eb ec1 (tt_eb ec2 (tt_eb ec3 ?_))
            refine tt_ck (by rw [hJA11.1.1.1]; decide) (tt_t hJA11.1.1.1 ?_)
            refine tt_bd (head_add hL hw eg g1 ⟨d0, d1⟩ (fun _ => 0) (fun _ => 0) (by omega)) (fun ⟨r12, V13⟩ ⟨hr, hP⟩ => tt_nm (tt_some ⟨hr, rfl, rfl, hP⟩))
          obtain ⟨⟨r, Va, Xa, G1⟩, e1, u1, u2, u3, u4⟩ := hx
          have u1 : r = x1 := u1
          have u2 : Va = C3 := u2
          have u3 : Xa = X3 := u3
          have u4 : PartL G G1 (V8 0) x1 r1 r2 r3 0 (fun _ => 0) (fun _ => 0) := u4
          subst u2 u3
          rw [u1] at e1
          refine tt_f (by decide) (tt_some ⟨hm11, x1, Va, Xa, G1, e1, ex3, Or.inl ⟨rfl, by rw [e63, e62, e61], hJA11, ⟨eg, g1⟩, r1, r2, r3, V5 0, ⟨d0, d1⟩, ⟨a0, a1⟩, ⟨q0, q1⟩, hclr, ?_, fun dd a => ⟨u4.1, u4.2.1, u4.2.2.1, u4.2.2.2.1, fun j j0 j1 => by omega⟩⟩⟩)
          show V11 0 = _
          rw [row3, row2, row1]; rfl
        · have b3 : b11 = false := b3
          subst b3
          obtain ⟨c, o, hE, hback⟩ := be_er hBE
          have hr := er_rng hE
          have hx : TT (f_X6_readGiftHead n V X T G) (fun r => r.1 = -1 ∧ ER T L c o (X2 1) r.2.1 r.2.2.1 ∧ r.2.2.2 = G) := by
            refine hcl ?_
            unfold jX6_readGiftHead_18
            refine tt_eb ec1 (tt_eb ec2 (tt_eb ec3 ?_))
            exact tt_ck hr.1 (tt_f (by rw [hE.1.1]; have := hE.1.2.2.1; omega) (tt_some ⟨rfl, hE, rfl⟩))
          obtain ⟨⟨r, Va, Xa, G1⟩, e1, u1, u2, u3⟩ := hx
          have hb := hback Va Xa u2
          rw [ex2] at hb
          exact tt_t rfl (tt_some ⟨hm11, r, Va, Xa, G1, e1, u2.2.2.trans ex2, Or.inr ⟨rfl, u1, u3, hb⟩⟩)
      · have b2 : b9 = false := b2
        subst b2
        obtain ⟨c, o, hE, hback⟩ := be_er hBE
        have hx : TT (f_X6_readGiftHead n V X T G) (fun r => r.1 = -1 ∧ ER T L c o (X1 1) r.2.1 r.2.2.1 ∧ r.2.2.2 = G) := by
          refine hcl ?_
          unfold jX6_readGiftHead_18
          refine tt_eb ec1 (tt_eb ec2 (tt_bd (er_number hT hE ⟨by decide, by decide⟩ ⟨by decide, by decide⟩ hn) (fun ⟨r3, V3, X3⟩ ⟨_, h3⟩ => ?_)))
          have h3 : ER T L c o (X1 1) V3 X3 := h3
          have hr := er_rng h3
          exact tt_ck hr.1 (tt_f (by rw [h3.1.1]; have := h3.1.2.2.1; omega) (tt_some ⟨rfl, h3, rfl⟩))
        obtain ⟨⟨r, Va, Xa, G1⟩, e1, u1, u2, u3⟩ := hx
        have hb := hback Va Xa u2
        rw [ex1] at hb
        exact tt_t rfl (tt_some ⟨hm9, r, Va, Xa, G1, e1, u2.2.2.trans ex1, Or.inr ⟨rfl, u1, u3, hb⟩⟩)
    · have b1 : b7 = false := b1
      subst b1
      obtain ⟨c, o, hE, hback⟩ := be_er hBE
      have hx : TT (f_X6_readGiftHead n V X T G) (fun r => r.1 = -1 ∧ ER T L c o (X 1) r.2.1 r.2.2.1 ∧ r.2.2.2 = G) := by
        refine hcl ?_
        unfold jX6_readGiftHead_18
        refine tt_eb ec1 (tt_bd (er_number hT hE ⟨by decide, by decide⟩ ⟨by decide, by decide⟩ hn) (fun ⟨r2, V2, X2⟩ ⟨_, h2⟩ => ?_))
        refine tt_bd (er_number hT h2 ⟨by decide, by decide⟩ ⟨by decide, by decide⟩ hn) (fun ⟨r3, V3, X3⟩ ⟨_, h3⟩ => ?_)
        have h3 : ER T L c o (X 1) V3 X3 := h3
        have hr := er_rng h3
        exact tt_ck hr.1 (tt_f (by rw [h3.1.1]; have := h3.1.2.2.1; omega) (tt_some ⟨rfl, h3, rfl⟩))
      obtain ⟨⟨r, Va, Xa, G1⟩, e1, u1, u2, u3⟩ := hx
      exact tt_t rfl (tt_some ⟨hm7, r, Va, Xa, G1, e1, u2.2.2, Or.inr ⟨rfl, u1, u3, hback Va Xa u2⟩⟩)
