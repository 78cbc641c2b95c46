/-! statements: rules, declare -/
theorem er_cls {T : Nat → Int} {L c o : Int} {N : Nat → Int} {V V1 X : Sz} (h : ER T L c o N V X) (hk : ∀ j : Nat, j < 6 → V1 j = V j) : ER T L c o N V1 X := by
  unfold ER CB at *
  rw [hk 0 (by decide), hk 1 (by decide), hk 2 (by decide), hk 3 (by decide), hk 4 (by decide), hk 5 (by decide)]; exact h
theorem jb_cls {T : Nat → Int} {L : Int} {V V1 X V8 : Sz} (h : JB T L V X V8) (hk : ∀ j : Nat, j < 6 → V1 j = V j) : JB T L V1 X V8 := by
  unfold JB JO CB at *
  rw [hk 0 (by decide), hk 1 (by decide), hk 2 (by decide), hk 3 (by decide), hk 4 (by decide), hk 5 (by decide)]; exact h
theorem er_rules {T : Nat → Int} {L c o : Int} {N : Nat → Int} {V X G : Sz} (hT : BT T L) (h : ER T L c o N V X) {n : Nat} (hn : 1000 ≤ n) : TT (jX6_readRules_25 n T V X G) (fun r => ER T L c o N r.1 r.2.1) := by
  unfold jX6_readRules_25
  refine tt_nmE (fun V3 e3 => ?_)
  have h3 : ER T L c o N V3 X := er_cls h (fun j hj => by rw [e3, us_ne (by omega)])
  refine tt_bd (er_number hT h3 ⟨by decide, by decide⟩ ⟨by decide, by decide⟩ hn) (fun ⟨r1, V5, X6⟩ ⟨_, h5⟩ => tt_nm ?_)
  refine tt_bd (er_number hT h5 ⟨by decide, by decide⟩ ⟨by decide, by decide⟩ hn) (fun ⟨r2, V9, X10⟩ ⟨_, h9⟩ => tt_nm ?_)
  refine tt_bd (er_number hT h9 ⟨by decide, by decide⟩ ⟨by decide, by decide⟩ hn) (fun ⟨r3, V13, X14⟩ ⟨_, h13⟩ => tt_nm ?_)
  exact tt_bd (er_semi hT h13 hn) (fun ⟨V16, X17⟩ h16 => tt_some h16)
theorem st_rules {T : Nat → Int} {L : Int} {V X V8 G : Sz} (hT : BT T L) (h : JB T L V X V8) (hS : SR G V X V8) {n : Nat} (hn : 1000 ≤ n) : TT (f_X8_readRules n V8) (fun q => KeepR V8 q.2 ∧ ∃ V1 X1 G1 : Sz, f_X6_readRules n V X T G = some (V1, X1, G1) ∧ StOut T L (cntR V8 + 1) q V1 X1 G1) := by
  have hsa := sr_at hS
  have hS' := hS
  obtain ⟨⟨hL, hw, h30, hz⟩, hNm, h6, h6b⟩ := hS'
  have bad : ¬ (V 6 0 = 0 ∧ G 9 0 ≤ 0) → TT (jX8_readRules_21 n V8 0) (fun q => KeepR V8 q.2 ∧ ∃ V1 X1 G1 : Sz, f_X6_readRules n V X T G = some (V1, X1, G1) ∧ StOut T L (cntR V8 + 1) q V1 X1 G1) := by
    intro hno
    unfold jX8_readRules_21
    refine tt_nmE (fun V2 e2 => ?_)
    have hJB2 : JB T L V X V2 := jb_keep h (fun j _ j1 => by rw [e2, us_ne (by omega)])
    refine tt_bd (x8_start0 (n := n) hJB2.1.2.2.1) (fun ⟨b, V4⟩ ⟨f1, f2, f3, f4⟩ => ?_)
    have f1 : b = false := f1
    subst f1
    refine tt_t rfl (tt_some ⟨fun j hj => ?_, ?_⟩)
    · show V4 j = V8 j
      rw [show V4 j = V2 j from f4 j (by omega) (by omega), e2, us_ne (by omega)]
    obtain ⟨Vf, ef, hF⟩ := c6_fail (V := V) (X := X) (G := G) (T := T) (by rw [h.1.1.1]; decide) 4
    have hBE : BE T L (X 1) Vf X V4 := jb_fail hT hJB2 hF ⟨by decide, by decide⟩ f2 f3
    obtain ⟨c, o, hE, hback⟩ := be_er hBE
    have h20 : TT (jX6_readRules_20 n T V X G) (fun r => ER T L c o (X 1) r.1 r.2.1) := by
      unfold jX6_readRules_20
      exact tt_eb ef (er_rules hT hE hn)
    have hx : TT (f_X6_readRules n V X T G) (fun r => ER T L c o (X 1) r.1 r.2.1) := by
      unfold f_X6_readRules
      refine tt_ck ⟨by omega, by omega⟩ (tt_ite (fun c1 => tt_ck ⟨by omega, by omega⟩ (tt_ite (fun c2 => (hno ⟨c1, c2⟩).elim) (fun _ => h20))) (fun _ => h20))
    obtain ⟨⟨V1, X1, G1⟩, e1, u1⟩ := hx
    exact ⟨V1, X1, G1, e1, Or.inr ⟨rfl, _, hback V1 X1 u1⟩⟩
  unfold f_X8_readRules
  refine tt_ck ⟨by omega, by omega⟩ (tt_ite (fun c1 => ?_) (fun c1 => ?_))
  · refine tt_ck ⟨by omega, by omega⟩ (tt_ite (fun c2 => ?_) (fun c2 => ?_))
    · have c60 : V 6 0 = 0 := by omega
      have c90 : G 9 0 ≤ 0 := by omega
      have hcl : ∀ {P : Sz × Sz × Sz → Prop}, TT (jX6_readRules_25 n T V X G) P → TT (f_X6_readRules n V X T G) P := by
        intro P hP
        unfold f_X6_readRules
        exact tt_ck ⟨by omega, by omega⟩ (tt_t c60 (tt_ck ⟨by omega, by omega⟩ (tt_t c90 hP)))
      obtain ⟨Vc, evc⟩ : ∃ Vc : Sz, Vc = us V 6 1 := ⟨_, rfl⟩
      unfold jX8_readRules_21
      refine tt_nmE (fun V2 e2 => ?_)
      have hJB2 : JB T L Vc X V2 := jb_cls (jb_keep h (fun j _ j1 => by rw [e2, us_ne (by omega)])) (fun j hj => by rw [evc, us_ne (by omega)])
      refine tt_bd (x8_start1 hT hJB2 hn) (fun ⟨b, V4⟩ ⟨f1, hJA4, f4⟩ => ?_)
      have f1 : b = true := f1
      subst f1
      have f4 : ∀ j : Nat, j ≠ 20 → j ≠ 21 → j ≠ 22 → j ≠ 23 → V4 j = V2 j := f4
      have hJA4 : JA T L Vc V4 := hJA4
      have m4 : ∀ j : Nat, ¬ (18 ≤ j ∧ j < 24) → V4 j = V2 j := fun j hj => f4 j (by omega) (by omega) (by omega) (by omega)
      refine tt_f (by decide) (tt_bd (num_both (X := X) (G := G) hT hJA4 (i := 5) ⟨by decide, by decide⟩ ⟨by decide, by decide⟩ ⟨by decide, by decide⟩ hn) (fun ⟨b6, V6⟩ ⟨hk6, r1, C1, X1, ec1, rr1, ex1, e61, hc1⟩ => ?_))
      have m6 : ∀ j : Nat, j ≠ 0 → ¬ (18 ≤ j ∧ j < 24) → V6 j = V2 j := fun j j0 j1 => (hk6 j j0 j1).trans (m4 j j1)
      have k6 : KeepR V8 V6 := fun j hj => by rw [m6 j (by omega) (by omega), e2, us_ne (by omega)]
      rcases hc1 with ⟨b1, ⟨d0, d1⟩, row1, hJA6⟩ | ⟨b1, hBE⟩
      · have b1 : b6 = true := b1
        subst b1
        have row1 : V6 0 = up (V4 0) 5 r1 := row1
        have hJA6 : JA T L C1 V6 := hJA6
        refine tt_f (by decide) (tt_bd (num_both (X := X1) (G := us G 0 r1) hT hJA6 (i := 6) ⟨by decide, by decide⟩ ⟨by decide, by decide⟩ ⟨by decide, by decide⟩ hn) (fun ⟨b8, Vb⟩ ⟨hkb, r2, C2, X2, ec2, rr2, ex2, e62, hc2⟩ => ?_))
        have mb : ∀ j : Nat, j ≠ 0 → ¬ (18 ≤ j ∧ j < 24) → Vb j = V2 j := fun j j0 j1 => (hkb j j0 j1).trans (m6 j j0 j1)
        have kb : KeepR V8 Vb := fun j hj => by rw [mb j (by omega) (by omega), e2, us_ne (by omega)]
        have ex2 : X2 1 = X 1 := ex2.trans ex1
        rcases hc2 with ⟨b2, ⟨a0, a1⟩, row2, hJAb⟩ | ⟨b2, hBE⟩
        · have b2 : b8 = true := b2
          subst b2
          have row2 : Vb 0 = up (V6 0) 6 r2 := row2
          have hJAb : JA T L C2 Vb := hJAb
          refine tt_f (by decide) (tt_bd (num_both (X := X2) (G := us (us G 0 r1) 1 r2) hT hJAb (i := 7) ⟨by decide, by decide⟩ ⟨by decide, by decide⟩ ⟨by decide, by decide⟩ hn) (fun ⟨b10, Vd⟩ ⟨hkd, r3, C3, X3, ec3, rr3, ex3, e63, hc3⟩ => ?_))
          have md : ∀ j : Nat, j ≠ 0 → ¬ (18 ≤ j ∧ j < 24) → Vd j = V2 j := fun j j0 j1 => (hkd j j0 j1).trans (mb j j0 j1)
          have kd' : KeepR V8 Vd := fun j hj => by rw [md j (by omega) (by omega), e2, us_ne (by omega)]
          have ex3 : X3 1 = X 1 := ex3.trans ex2
          rcases hc3 with ⟨b3, ⟨q0, q1⟩, row3, hJAd⟩ | ⟨b3, hBE⟩
          · have b3 : b10 = true := b3
            subst b3
            have row3 : Vd 0 = up (Vb 0) 7 r3 := row3
            have hJAd : JA T L C3 Vd := hJAd
            obtain ⟨G3, eg3⟩ : ∃ G3 : Sz, G3 = us (us (us G 0 r1) 1 r2) 2 r3 := ⟨_, rfl⟩
            obtain ⟨V1, Xe, es, -, hend⟩ := end_at (X := X3) (G := G3) hT hJAd hn
            have hx : TT (f_X6_readRules n V X T G) (fun r => r = (V1, Xe, G3)) := by
              refine hcl ?_
              unfold jX6_readRules_25
              refine tt_nm ?_
              rw [← evc]
              refine tt_eb ec1 (tt_nm (tt_eb ec2 (tt_nm (tt_eb ec3 (tt_nm ?_)))))
              rw [← eg3]
              exact tt_eb es (tt_some rfl)
            refine tt_f (by decide) (tt_some ⟨kd', V1, Xe, G3, tt_eq hx, ?_⟩)
            rcases hend with ⟨c, hJ, -, ex, e6'⟩ | ⟨-, hx⟩
            · have hrow : Vd 0 = up (up (up (V8 0) 5 r1) 6 r2) 7 r3 := by
                rw [row3, row2, row1, m4 0 (by omega), e2, us_ne (by decide)]
              have hrw : ∀ i : Nat, i ≠ 5 → i ≠ 6 → i ≠ 7 → Vd 0 i = V8 0 i := fun i i5 i6 i7 => by rw [hrow, up_ne i7, up_ne i6, up_ne i5]
              have r5 : Vd 0 5 = r1 := by rw [hrow, up_ne (by decide), up_ne (by decide), up_at]
              have r6 : Vd 0 6 = r2 := by rw [hrow, up_ne (by decide), up_at]
              have r7 : Vd 0 7 = r3 := by rw [hrow, up_at]
              have hw1 : WF (Vd 0) := rul_WF hrw hw (by rw [r5]; exact ⟨d0, d1⟩) (by rw [r6]; exact ⟨a0, a1⟩) (by rw [r7]; exact ⟨q0, q1⟩)
              refine Or.inl ⟨rfl, hJAd.1.2.2.1, Or.inl ⟨c, hJ, ⟨⟨rul_LR0 hL hw hrw (fun k hk => by rw [eg3, us_ne (by omega), us_ne (by omega), us_ne (by omega)]) ?_ ?_ ?_, hw1, ?_, wfz_same hw (hrw 2 (by decide) (by decide) (by decide)) (fun i i0 _ => hrw i (by omega) (by omega) (by omega)) hz⟩, ?_, ?_, ?_⟩, ?_⟩⟩
              · rw [eg3, us_ne (by decide), us_ne (by decide), us_at]; exact r5.symm
              · rw [eg3, us_ne (by decide), us_at]; exact r6.symm
              · rw [eg3, us_at]; exact r7.symm
              · show Vd 0 1 ≤ 30
                rw [hrw 1 (by decide) (by decide) (by decide)]; exact h30
              · show NmR Xe Vd (Vd 0 0)
                rw [hrw 0 (by decide) (by decide) (by decide)]
                exact nmr_keep hNm (ex.trans ex3) (by rw [md 7 (by decide) (by omega), e2, us_ne (by decide)])
              · show V1 6 0 = Vd 24 0
                rw [e6', e63, e62, e61, evc, us_at, md 24 (by decide) (by omega), e2, us_at]
              · show 0 ≤ V1 6 0 ∧ V1 6 0 ≤ 1
                rw [e6', e63, e62, e61, evc, us_at]; exact ⟨by decide, by decide⟩
              · show Vd 0 0 + Vd 0 1 + Vd 0 2 + Vd 24 0 = V8 0 0 + V8 0 1 + V8 0 2 + V8 24 0 + 1
                have e24 : Vd 24 0 = 1 := by rw [md 24 (by decide) (by omega), e2, us_at]
                have e80 : V8 24 0 = 0 := by omega
                rw [hrw 0 (by decide) (by decide) (by decide), hrw 1 (by decide) (by decide) (by decide), hrw 2 (by decide) (by decide) (by decide), e24, e80]
                omega
            · exact hx _ G3
          · have b3 : b10 = false := b3
            subst b3
            obtain ⟨c, o, hE, hback⟩ := be_er hBE
            have hx : TT (f_X6_readRules n V X T G) (fun r => ER T L c o (X2 1) r.1 r.2.1) := by
              refine hcl ?_
              unfold jX6_readRules_25
              refine tt_nm ?_
              rw [← evc]
              refine tt_eb ec1 (tt_nm (tt_eb ec2 (tt_nm (tt_eb ec3 (tt_nm ?_)))))
              exact tt_bd (er_semi hT hE hn) (fun ⟨V16, X17⟩ h16 => tt_some h16)
            obtain ⟨⟨V1, Xe, G1⟩, e1, u1⟩ := hx
            exact tt_t rfl (tt_some ⟨kd', V1, Xe, G1, e1, Or.inr ⟨rfl, _, hback V1 Xe u1⟩⟩)
        · have b2 : b8 = false := b2
          subst b2
          obtain ⟨c, o, hE, hback⟩ := be_er hBE
          have hx : TT (f_X6_readRules n V X T G) (fun r => ER T L c o (X1 1) r.1 r.2.1) := by
            refine hcl ?_
            unfold jX6_readRules_25
            refine tt_nm ?_
            rw [← evc]
            refine tt_eb ec1 (tt_nm (tt_eb ec2 (tt_nm ?_)))
            refine tt_bd (er_number hT hE ⟨by decide, by decide⟩ ⟨by decide, by decide⟩ hn) (fun ⟨r3, V13, X14⟩ ⟨_, h13⟩ => tt_nm ?_)
            exact tt_bd (er_semi hT h13 hn) (fun ⟨V16, X17⟩ h16 => tt_some h16)
          obtain ⟨⟨V1, Xe, G1⟩, e1, u1⟩ := hx
          exact tt_t rfl (tt_some ⟨kb, V1, Xe, G1, e1, Or.inr ⟨rfl, _, hback V1 Xe u1⟩⟩)
      · have b1 : b6 = false := b1
        subst b1
        obtain ⟨c, o, hE, hback⟩ := be_er hBE
        have hx : TT (f_X6_readRules n V X T G) (fun r => ER T L c o (X 1) r.1 r.2.1) := by
          refine hcl ?_
          unfold jX6_readRules_25
          refine tt_nm ?_
          rw [← evc]
          refine tt_eb ec1 (tt_nm ?_)
          refine tt_bd (er_number hT hE ⟨by decide, by decide⟩ ⟨by decide, by decide⟩ hn) (fun ⟨r2, V9, X10⟩ ⟨_, h9⟩ => tt_nm ?_)
          refine tt_bd (er_number hT h9 ⟨by decide, by decide⟩ ⟨by decide, by decide⟩ hn) (fun ⟨r3, V13, X14⟩ ⟨_, h13⟩ => tt_nm ?_)
          exact tt_bd (er_semi hT h13 hn) (fun ⟨V16, X17⟩ h16 => tt_some h16)
        obtain ⟨⟨V1, Xe, G1⟩, e1, u1⟩ := hx
        exact tt_t rfl (tt_some ⟨k6, V1, Xe, G1, e1, Or.inr ⟨rfl, _, hback V1 Xe u1⟩⟩)
    · unfold jX8_readRules_20
      exact bad (fun q => c2 (by have := q.2; omega))
  · unfold jX8_readRules_20
    exact bad (fun q => c1 (by have := q.1; omega))
theorem er_decl {T : Nat → Int} {L c o d : Int} {N : Nat → Int} {V X G : Sz} (hT : BT T L) (h : ER T L c o N V X) {n : Nat} (hn : 1000 ≤ n) : TT (bd (f_X6_readNumber n V X T G 0 9999) fun ((r_6, V_7, X_8) : Int × Sz × Sz) => bd (f_X6_readNumber n V_7 X_8 T G r_6 9999) fun ((r_9, V_10, X_11) : Int × Sz × Sz) => bd (f_X6_readSemicolon n V_10 X_11 T G) fun ((V_12, X_13) : Sz × Sz) => ck (rng (V_12 0 0)) <| if V_12 0 0 = 0 then (bd (f_X1_add (sv 5 G) d r_6 r_9) fun ((_, G_16) : Int × Sz) => nm (sw 5 4 G G_16) fun (G_17 : Sz) => some (V_12, X_13, G_17)) else (some (V_12, X_13, G))) (fun r => ER T L c o N r.1 r.2.1) := by
  refine tt_bd (er_number hT h ⟨by decide, by decide⟩ ⟨by decide, by decide⟩ hn) (fun ⟨r1, V5, X6⟩ ⟨hr1, h5⟩ => ?_)
  refine tt_bd (er_number hT h5 hr1 ⟨by decide, by decide⟩ hn) (fun ⟨r2, V9, X10⟩ ⟨_, h9⟩ => ?_)
  refine tt_bd (er_semi hT h9 hn) (fun ⟨V16, X17⟩ h16 => ?_)
  have h16 : ER T L c o N V16 X17 := h16
  exact tt_ck (er_rng h16).1 (tt_f (by rw [h16.1.1]; have := h16.1.2.2.1; omega) (tt_some h16))
