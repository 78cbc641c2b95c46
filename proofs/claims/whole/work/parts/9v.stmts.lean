/-! statements: declare, donor -/
theorem xb_same {X X1 : Sz} {m : Int} (h : XB X m) (e : X1 1 = X 1) : XB X1 m := by
  unfold XB
  rw [e]; exact h
theorem er_decl18 {T : Nat → Int} {L c o : Int} {N : Nat → Int} {V X G : Sz} (hT : BT T L) (h : ER T L c o N V X) (h3 : 0 ≤ G 3 0 ∧ G 3 0 ≤ 10) (hX : XB X (G 3 0)) {n : Nat} (hn : 1000 ≤ n) : TT (jX6_readDeclaration_18 n T V X G) (fun r => ER T L c o N r.1 r.2.1) := by
  unfold jX6_readDeclaration_18
  refine tt_bd (er_advance hT h hn) (fun ⟨V2, X3⟩ h2 => ?_)
  have h2 : ER T L c o N V2 X3 := h2
  refine tt_bd (er_known hT h2 h3 (xb_same hX (h2.2.2.trans h.2.2.symm)) hn) (fun ⟨r4, V5⟩ ⟨_, e5⟩ => ?_)
  have e5 : V5 = V2 := e5
  subst e5
  exact er_decl hT h2 hn
theorem st_declare {T : Nat → Int} {L : Int} {V X V8 G : Sz} (hT : BT T L) (h : JB T L V X V8) (hS : SR G V X V8) {n : Nat} (hn : 1000 ≤ n) : TT (f_X8_readDeclare n V8) (fun q => KeepR V8 q.2 ∧ ∃ V1 X1 G1 : Sz, f_X6_readDeclaration n V X T G = some (V1, X1, G1) ∧ StOut T L (cntR V8 + 1) q V1 X1 G1) := by
  have hsa := sr_at hS
  have hS' := hS
  obtain ⟨⟨hL, hw, h30, hz⟩, hNm, h6, h6b⟩ := hS'
  have hXB := nmr_x hNm
  have h3 : 0 ≤ G 3 0 ∧ G 3 0 ≤ 10 := by rw [hsa.1.1]; exact hsa.1.2
  rw [← hsa.1.1] at hXB
  obtain ⟨k, ek⟩ : ∃ k : Int, k = V8 0 1 := ⟨_, rfl⟩
  have hfull : f_X1_isFull (sv 5 G) = some (decide (k = 30)) := by
    have e : sv 5 G 0 0 = k := hsa.2.1.1.trans ek.symm
    unfold f_X1_isFull
    rw [e, ck_t ⟨by omega, by omega⟩]
    by_cases c : k = 30
    · rw [if_neg (by omega), decide_eq_true c]
    · rw [if_pos (by omega), decide_eq_false c]
  unfold f_X8_readDeclare
  refine tt_nmE (fun y ey => ?_)
  rw [← ek] at ey
  subst ey
  refine tt_ck ⟨by omega, by omega⟩ (tt_ite (fun c30 => ?_) (fun c30 => ?_))
  · have hc30 : y = 30 := by omega
    unfold jX8_readDeclare_19
    refine tt_bd (x8_start0 (n := n) h.1.2.2.1) (fun ⟨b, V4⟩ ⟨f1, f2, f3, f4⟩ => ?_)
    have f1 : b = false := f1
    subst f1
    refine tt_t rfl (tt_some ⟨fun j hj => f4 j (by omega) (by omega), ?_⟩)
    obtain ⟨Vf, ef, hF⟩ := c6_fail (V := V) (X := X) (G := G) (T := T) (by rw [h.1.1.1]; decide) 4
    have hBE : BE T L (X 1) Vf X V4 := jb_fail hT h hF ⟨by decide, by decide⟩ f2 f3
    obtain ⟨c, o, hE, hback⟩ := be_er hBE
    have hx : TT (f_X6_readDeclaration n V X T G) (fun r => ER T L c o (X 1) r.1 r.2.1) := by
      unfold f_X6_readDeclaration
      rw [hfull, bd_s, decide_eq_true hc30]
      exact tt_f (by decide) (tt_eb ef (er_decl18 hT hE h3 hXB hn))
    obtain ⟨⟨V1, X1, G1⟩, e1, u1⟩ := hx
    exact ⟨V1, X1, G1, e1, Or.inr ⟨rfl, _, hback V1 X1 u1⟩⟩
  · have k0 : 0 ≤ y := by omega
    have k1 : y < 30 := by omega
    have hcl : ∀ {P : Sz × Sz × Sz → Prop}, TT (jX6_readDeclaration_18 n T V X G) P → TT (f_X6_readDeclaration n V X T G) P := by
      intro P hP
      unfold f_X6_readDeclaration
      rw [hfull, bd_s, decide_eq_false (by omega)]
      exact tt_t rfl hP
    unfold jX8_readDeclare_19
    refine tt_bd (x8_start1 hT h hn) (fun ⟨b, V4⟩ ⟨f1, hJA4, f4⟩ => ?_)
    have f1 : b = true := f1
    subst f1
    have f4 : ∀ j : Nat, j ≠ 20 → j ≠ 21 → j ≠ 22 → j ≠ 23 → V4 j = V8 j := f4
    have hJA4 : JA T L V V4 := hJA4
    have m4 : ∀ j : Nat, ¬ (18 ≤ j ∧ j < 24) → V4 j = V8 j := fun j hj => f4 j (by omega) (by omega) (by omega) (by omega)
    have e40 : V4 0 = V8 0 := m4 0 (by omega)
    refine tt_f (by decide) (tt_bd (don_both (X := X) (G := G) hT hJA4 (i := 20 + y) (by rw [e40]; exact hsa.1) (by rw [e40]; exact nmr_keep hNm rfl (m4 7 (by omega))) ⟨by omega, by omega⟩ hn) (fun ⟨b6, V6⟩ ⟨hk6, d, Ca, C0, X0, ea, e0, rd, ex0, e60, hc0⟩ => ?_))
    have m6 : ∀ j : Nat, j ≠ 0 → ¬ (18 ≤ j ∧ j < 24) → V6 j = V8 j := fun j j0 j1 => (hk6 j j0 j1).trans (m4 j j1)
    rcases hc0 with ⟨b0, hd, row0, hJA6⟩ | ⟨b0, hBE⟩
    · have b0 : b6 = true := b0
      subst b0
      have row0 : V6 0 = up (V4 0) (20 + y).toNat d := row0
      have hJA6 : JA T L C0 V6 := hJA6
      rw [e40] at hd row0
      refine tt_f (by decide) (tt_bd (num_both (X := X0) (G := G) hT hJA6 (i := 51 + y) ⟨by omega, by omega⟩ ⟨by decide, by decide⟩ ⟨by decide, by decide⟩ hn) (fun ⟨b7, V7⟩ ⟨hk7, a, C1, X1, ec1, rr1, ex1, e61, hc1⟩ => ?_))
      have m7 : ∀ j : Nat, j ≠ 0 → ¬ (18 ≤ j ∧ j < 24) → V7 j = V8 j := fun j j0 j1 => (hk7 j j0 j1).trans (m6 j j0 j1)
      have ex1 : X1 1 = X 1 := ex1.trans ex0
      rcases hc1 with ⟨b1, ⟨a0, a1⟩, row1, hJA7⟩ | ⟨b1, hBE⟩
      · have b1 : b7 = true := b1
        subst b1
        have row1 : V7 0 = up (V6 0) (51 + y).toNat a := row1
        have hJA7 : JA T L C1 V7 := hJA7
        have e51 : V7 0 (51 + y).toNat = a := by rw [row1, up_at]
        refine tt_f (by decide) (tt_ck ⟨by omega, by omega⟩ ?_)
        rw [e51]
        refine tt_bd (num_both (X := X1) (G := G) hT hJA7 (i := 82 + y) ⟨by omega, by omega⟩ rr1 ⟨by decide, by decide⟩ hn) (fun ⟨b9, V9⟩ ⟨hk9, b, C2, X2, ec2, rr2, ex2, e62, hc2⟩ => ?_)
        have m9 : ∀ j : Nat, j ≠ 0 → ¬ (18 ≤ j ∧ j < 24) → V9 j = V8 j := fun j j0 j1 => (hk9 j j0 j1).trans (m7 j j0 j1)
        have ex2 : X2 1 = X 1 := ex2.trans ex1
        rcases hc2 with ⟨b2, ⟨q0, q1⟩, row2, hJA9⟩ | ⟨b2, hBE⟩
        · have b2 : b9 = true := b2
          subst b2
          have row2 : V9 0 = up (V7 0) (82 + y).toNat b := row2
          have hJA9 : JA T L C2 V9 := hJA9
          have hrow9 : V9 0 = up (up (up (V8 0) (20 + y).toNat d) (51 + y).toNat a) (82 + y).toNat b := by rw [row2, row1, row0]
          have e91 : V9 0 1 = y := by rw [hrow9, up_ne (by omega), up_ne (by omega), up_ne (by omega), ek]
          refine tt_t rfl (tt_nmE (fun Va eva => tt_some ?_))
          have eva : Va = uz V9 0 1 (V9 0 1 + 1) := eva
          rw [e91] at eva
          have hJAa : JA T L C2 Va := ja_keep hJA9 (fun j j0 _ => by rw [eva, uz_ne (by omega)])
          have ma : ∀ j : Nat, j ≠ 0 → ¬ (18 ≤ j ∧ j < 24) → Va j = V8 j := fun j j0 j1 => by rw [eva, uz_ne j0]; exact m9 j j0 j1
          refine ⟨fun j hj => ma j (by omega) (by omega), ?_⟩
          have hrow : Va 0 = up (V9 0) 1 (y + 1) := by rw [eva, uz_at]
          have hw9 : WFn (V9 0) := fun i hi => by
            rw [hrow9, up_if]
            split
            · exact rr2
            · rw [up_if]
              split
              · exact rr1
              · rw [up_if]
                split
                · exact rd
                · exact hw.1 i hi
          have hp : Plus (V8 0) d a b (Va 0) := by
            rw [hrow]
            refine ⟨by rw [up_at, ek], ⟨?_, ?_, ?_⟩, fun i i1 i2 i3 i4 => ?_, fun i hi => ?_⟩
            · rw [← ek]; unfold wWho; rw [up_ne (by omega), hrow9, up_ne (by omega), up_ne (by omega), up_at]
            · rw [← ek]; unfold wFr; rw [up_ne (by omega), hrow9, up_ne (by omega), up_at]
            · rw [← ek]; unfold wTo; rw [up_ne (by omega), hrow9, up_at]
            · rw [← ek] at i2 i3 i4
              rw [up_ne i1, hrow9, up_ne (by omega), up_ne (by omega), up_ne (by omega)]
            · rw [up_if]
              split
              · constructor <;> omega
              · exact hw9 i hi
          obtain ⟨V1, Xe, es, hr1, hend⟩ := end_at (X := X2) (G := G) hT hJAa hn
          rcases hend with ⟨c, hJ, hz0, ex, e6'⟩ | ⟨hnz, hx⟩
          · have e50 : sv 5 G 0 0 = y := hsa.2.1.1.trans ek.symm
            have hx : TT (f_X6_readDeclaration n V X T G) (fun r => r.1 = V1 ∧ r.2.1 = Xe ∧ LR0 r.2.2 (Va 0)) := by
              refine hcl ?_
              unfold jX6_readDeclaration_18
              refine tt_eb ea (tt_eb e0 (tt_eb ec1 (tt_eb ec2 (tt_eb es (tt_ck hr1 (tt_t hz0 ?_))))))
              refine tt_bd (c1_add (V0 := sv 5 G) (by rw [e50]; omega) d a b) (fun ⟨r5, V6'⟩ ⟨h1, h2, h3', h4, h5⟩ => tt_nmE (fun Gn en => tt_some ⟨rfl, rfl, ?_⟩))
              have h2 : V6' 0 0 = sv 5 G 0 0 + 1 := h2
              have h3' : V6' 1 = up (sv 5 G 1) (sv 5 G 0 0).toNat d := h3'
              have h4 : V6' 2 = up (sv 5 G 2) (sv 5 G 0 0).toNat a := h4
              have h5 : V6' 3 = up (sv 5 G 3) (sv 5 G 0 0).toNat b := h5
              rw [e50] at h2 h3' h4 h5
              show LR0 Gn (Va 0)
              subst en
              refine geq_LR0 hL hw (plus_geq hp hw h30) (fun k k22 hk => ?_) ?_ (fun k k0 k1 => ?_)
              · unfold sw
                rw [if_neg (by omega)]
              · show V6' 0 0 = _
                rw [h2, hp.1, ek]
              · rw [hp.1] at k1
                show V6' 1 k.toNat = _ ∧ V6' 2 k.toNat = _ ∧ V6' 3 k.toNat = _
                rw [h3', h4, h5, up_if, up_if, up_if]
                by_cases e : k = V8 0 1
                · rw [if_pos (by rw [e, ek]), if_pos (by rw [e, ek]), if_pos (by rw [e, ek]), e]
                  exact ⟨hp.2.1.1.symm, hp.2.1.2.1.symm, hp.2.1.2.2.symm⟩
                · have q := plus_old hp hw h30 k0 (by omega)
                  rw [if_neg (by omega), if_neg (by omega), if_neg (by omega), q.1, q.2.1, q.2.2]
                  exact hL.2.2.1 k k0 (by omega)
            obtain ⟨⟨Vz, Xz, G1⟩, e1, u1, u2, u3⟩ := hx
            have u1 : Vz = V1 := u1
            have u2 : Xz = Xe := u2
            have u3 : LR0 G1 (Va 0) := u3
            subst u1 u2
            have hg := plus_geq hp hw h30
            refine ⟨Vz, Xz, G1, e1, Or.inl ⟨rfl, hJAa.1.2.2.1, Or.inl ⟨c, hJ, ⟨⟨u3, plus_WF hp hw h30 hd ⟨a0, a1⟩ ⟨by omega, q1⟩, ?_, wfz_same hw (hg.1 2 (by decide) (by decide)) (fun i i0 i1 => hg.2 i (by omega) (by omega)) hz⟩, ?_, ?_, ?_⟩, ?_⟩⟩⟩
            · show Va 0 1 ≤ 30
              rw [hp.1]; omega
            · show NmR Xz Va (Va 0 0)
              rw [hg.1 0 (by decide) (by decide)]
              exact nmr_keep hNm (ex.trans ex2) (ma 7 (by decide) (by omega))
            · show Vz 6 0 = Va 24 0
              rw [e6', e62, e61, e60, ma 24 (by decide) (by omega)]; exact h6
            · rw [e6', e62, e61, e60]; exact h6b
            · show Va 0 0 + Va 0 1 + Va 0 2 + Va 24 0 = V8 0 0 + V8 0 1 + V8 0 2 + V8 24 0 + 1
              rw [hg.1 0 (by decide) (by decide), hp.1, hg.1 2 (by decide) (by decide), ma 24 (by decide) (by omega)]
              omega
          · have hx7 : TT (f_X6_readDeclaration n V X T G) (fun r => r = (V1, Xe, G)) := by
              refine hcl ?_
              unfold jX6_readDeclaration_18
              exact tt_eb ea (tt_eb e0 (tt_eb ec1 (tt_eb ec2 (tt_eb es (tt_ck hr1 (tt_f hnz (tt_some rfl)))))))
            exact ⟨V1, Xe, G, tt_eq hx7, hx _ G⟩
        · have b2 : b9 = false := b2
          subst b2
          obtain ⟨c, o, hE, hback⟩ := be_er hBE
          have hx : TT (f_X6_readDeclaration n V X T G) (fun r => ER T L c o (X1 1) r.1 r.2.1) := by
            refine hcl ?_
            unfold jX6_readDeclaration_18
            refine tt_eb ea (tt_eb e0 (tt_eb ec1 (tt_eb ec2 (tt_bd (er_semi hT hE hn) (fun ⟨V16, X17⟩ h16 => ?_)))))
            have h16 : ER T L c o (X1 1) V16 X17 := h16
            exact tt_ck (er_rng h16).1 (tt_f (by rw [h16.1.1]; have := h16.1.2.2.1; omega) (tt_some h16))
          obtain ⟨⟨V1, Xe, G1⟩, e1, u1⟩ := hx
          exact tt_f (by decide) (tt_some ⟨fun j hj => m9 j (by omega) (by omega), V1, Xe, G1, e1, Or.inr ⟨rfl, _, hback V1 Xe u1⟩⟩)
      · have b1 : b7 = false := b1
        subst b1
        obtain ⟨c, o, hE, hback⟩ := be_er hBE
        have hx : TT (f_X6_readDeclaration n V X T G) (fun r => ER T L c o (X0 1) r.1 r.2.1) := by
          refine hcl ?_
          unfold jX6_readDeclaration_18
          refine tt_eb ea (tt_eb e0 (tt_eb ec1 (tt_bd (er_number hT hE rr1 ⟨by decide, by decide⟩ hn) (fun ⟨r2, V9, X10⟩ ⟨_, h9⟩ => tt_bd (er_semi hT h9 hn) (fun ⟨V16, X17⟩ h16 => ?_)))))
          have h16 : ER T L c o (X0 1) V16 X17 := h16
          exact tt_ck (er_rng h16).1 (tt_f (by rw [h16.1.1]; have := h16.1.2.2.1; omega) (tt_some h16))
        obtain ⟨⟨V1, Xe, G1⟩, e1, u1⟩ := hx
        exact tt_t rfl (tt_some ⟨fun j hj => m7 j (by omega) (by omega), V1, Xe, G1, e1, Or.inr ⟨rfl, _, hback V1 Xe u1⟩⟩)
    · have b0 : b6 = false := b0
      subst b0
      obtain ⟨c, o, hE, hback⟩ := be_er hBE
      have hx : TT (f_X6_readDeclaration n V X T G) (fun r => ER T L c o (X 1) r.1 r.2.1) := by
        refine hcl ?_
        unfold jX6_readDeclaration_18
        exact tt_eb ea (tt_eb e0 (er_decl hT hE hn))
      obtain ⟨⟨V1, Xe, G1⟩, e1, u1⟩ := hx
      exact tt_t rfl (tt_some ⟨fun j hj => m6 j (by omega) (by omega), V1, Xe, G1, e1, Or.inr ⟨rfl, _, hback V1 Xe u1⟩⟩)
