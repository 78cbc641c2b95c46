/-! statements: donor -/
theorem jb_x {T : Nat → Int} {L : Int} {V X X1 V8 : Sz} (h : JB T L V X V8) (e : X1 0 = X 0) : JB T L V X1 V8 := by
  unfold JB CB at *
  rw [e]; exact h
theorem er_donor36 {T : Nat → Int} {L c o y : Int} {N : Nat → Int} {V X G : Sz} (hT : BT T L) (h : ER T L c o N V X) {n : Nat} (hn : 1000 ≤ n) : TT (jX6_readDonor_36 n T y V X G) (fun r => ER T L c o N r.1 r.2.1) := by
  unfold jX6_readDonor_36
  refine tt_nm (tt_bd (er_number hT h ⟨by decide, by decide⟩ ⟨by decide, by decide⟩ hn) (fun ⟨r1, V5, X6⟩ ⟨_, h5⟩ => tt_bd (er_semi hT h5 hn) (fun ⟨V16, X17⟩ h16 => ?_)))
  have h16 : ER T L c o N V16 X17 := h16
  exact tt_ck (er_rng h16).1 (tt_f (by rw [h16.1.1]; have := h16.1.2.2.1; omega) (tt_some h16))
theorem er_donor19 {T : Nat → Int} {L c o y : Int} {N : Nat → Int} {V X G : Sz} (hT : BT T L) (h : ER T L c o N V X) (h3 : 0 ≤ G 3 0 ∧ G 3 0 ≤ 10) (hX : XB X (G 3 0)) {n : Nat} (hn : 1000 ≤ n) : TT (jX6_readDonor_19 n T y V X G) (fun r => ER T L c o N r.1 r.2.1) := by
  unfold jX6_readDonor_19
  refine tt_bd (er_advance hT h hn) (fun ⟨V2, X3⟩ h2 => ?_)
  have h2 : ER T L c o N V2 X3 := h2
  have hr := er_rng h2
  refine tt_bd (c6_named hT h2.2.1 hr.1 h3 (xb_same hX (h2.2.2.trans h.2.2.symm)) hn) (fun ⟨r4, V5⟩ hc => ?_)
  have e5 : V5 = V2 ∧ rng r4 := by
    rcases hc with ⟨-, e, hF⟩ | ⟨-, e, hF⟩
    · have hF : FrP (fun j => X3 1 j.toNat = X3 0 0) (G 3 0) r4 := hF
      have := frp_bd hF
      exact ⟨e, by constructor <;> omega⟩
    · have e : r4 = -1 := e
      exact ⟨er_failv h2 hF, by rw [e]; decide⟩
  obtain ⟨e5, r4r⟩ := e5
  subst e5
  refine tt_ck r4r (tt_ite (fun _ => er_donor36 hT h2 hn) (fun _ => tt_bd (c6_fail hr.1 3) (fun V19 h19 => ?_)))
  rw [er_failv h2 h19]
  exact er_donor36 hT h2 hn
theorem st_donor {T : Nat → Int} {L : Int} {V X V8 G : Sz} (hT : BT T L) (h : JB T L V X V8) (hS : SR G V X V8) {n : Nat} (hn : 1000 ≤ n) : TT (f_X8_readDonor n V8) (fun q => KeepR V8 q.2 ∧ ∃ V1 X1 G1 : Sz, f_X6_readDonor n V X T G = some (V1, X1, G1) ∧ StOut T L (cntR V8 + 1) q V1 X1 G1) := by
  have hL9 := hT.1
  have hsa := sr_at hS
  have hS' := hS
  obtain ⟨⟨hL, hw, h30, hz⟩, hNm, h6, h6b⟩ := hS'
  have hXB := nmr_x hNm
  have h3 : 0 ≤ G 3 0 ∧ G 3 0 ≤ 10 := by rw [hsa.1.1]; exact hsa.1.2
  rw [← hsa.1.1] at hXB
  obtain ⟨d, ed⟩ : ∃ d : Int, d = V8 0 0 := ⟨_, rfl⟩
  have eG3 : G 3 0 = d := hsa.1.1.trans ed.symm
  unfold f_X8_readDonor
  refine tt_nmE (fun y ey => ?_)
  rw [← ed] at ey
  subst ey
  refine tt_ck ⟨by omega, by omega⟩ (tt_ite (fun c10 => ?_) (fun c10 => ?_))
  · unfold jX8_readDonor_19
    refine tt_bd (x8_start0 (n := n) h.1.2.2.1) (fun ⟨b, V4⟩ ⟨f1, f2, f3, f4⟩ => ?_)
    have f1 : b = false := f1
    subst f1
    refine tt_f (by decide) (tt_some ⟨fun j hj => f4 j (by omega) (by omega), ?_⟩)
    obtain ⟨Vf, ef, hF⟩ := c6_fail (V := V) (X := X) (G := G) (T := T) (by rw [h.1.1.1]; decide) 4
    have hBE : BE T L (X 1) Vf X V4 := jb_fail hT h hF ⟨by decide, by decide⟩ f2 f3
    obtain ⟨c, o, hE, hback⟩ := be_er hBE
    have hx : TT (f_X6_readDonor n V X T G) (fun r => ER T L c o (X 1) r.1 r.2.1) := by
      unfold f_X6_readDonor
      refine tt_nm ?_
      rw [eG3]
      exact tt_ck ⟨by omega, by omega⟩ (tt_f (by omega) (tt_eb ef (er_donor19 hT hE h3 hXB hn)))
    obtain ⟨⟨V1, X1, G1⟩, e1, u1⟩ := hx
    exact ⟨V1, X1, G1, e1, Or.inr ⟨rfl, _, hback V1 X1 u1⟩⟩
  · have hcl : ∀ {P : Sz × Sz × Sz → Prop}, TT (jX6_readDonor_19 n T y V X G) P → TT (f_X6_readDonor n V X T G) P := by
      intro P hP
      unfold f_X6_readDonor
      refine tt_nm ?_
      rw [eG3]
      exact tt_ck ⟨by omega, by omega⟩ (tt_t (by omega) hP)
    unfold jX8_readDonor_19
    refine tt_bd (x8_start1 hT h hn) (fun ⟨b, V4⟩ ⟨f1, hJA4, f4⟩ => ?_)
    have f1 : b = true := f1
    subst f1
    have f4 : ∀ j : Nat, j ≠ 20 → j ≠ 21 → j ≠ 22 → j ≠ 23 → V4 j = V8 j := f4
    have hJA4 : JA T L V V4 := hJA4
    have m4 : ∀ j : Nat, ¬ (18 ≤ j ∧ j < 24) → V4 j = V8 j := fun j hj => f4 j (by omega) (by omega) (by omega) (by omega)
    have e40 : V4 0 = V8 0 := m4 0 (by omega)
    have e47 : V4 7 = V8 7 := m4 7 (by omega)
    obtain ⟨⟨Va, Xa⟩, ea, hA⟩ := c6_advance (V0 := V) (X0 := X) (G := G) hT hJA4.1.1.2.2 hJA4.2.1 hn
    have hJB4 : JB T L Va Xa V4 := ja_adv hJA4 hA
    have exa : Xa 1 = X 1 := by
      have e : Xa = us X 0 _ := hA.2.2
      rw [e, us_ne (by decide)]
    have ea6 : Va 6 = V 6 := hA.2.1 6 (by decide) (by decide) (by decide)
    have hNm4 : NmR Xa V4 y := by rw [ed]; exact nmr_keep hNm exa e47
    obtain ⟨⟨r5, Vn⟩, en, hR⟩ := c6_named (V := Va) (X := Xa) (G := G) hT hJB4.2.1 (by rw [hJB4.1.1.1]; decide) h3 (xb_same hXB exa) hn
    have hnb := nam_both hJB4
    have k4 : KeepR V8 V4 := fun j hj => m4 j (by omega)
    -- an error at the name
    have bad : ∀ (cc : Int) (Vx : Sz), (1 ≤ cc ∧ cc ≤ 4) → FailV Va cc Vx → ∀ (b3 : Bool) (V3 : Sz), b3 = false → V3 18 0 = cc → V3 19 0 = V4 21 0 → (∀ j : Nat, j ≠ 18 → j ≠ 19 → V3 j = V4 j) → ((∀ {P : Sz × Sz × Sz → Prop}, TT (jX6_readDonor_36 n T y Vx Xa G) P → TT (jX6_readDonor_19 n T y V X G) P)) → KeepR V8 V3 ∧ ∃ V1 X1 G1 : Sz, f_X6_readDonor n V X T G = some (V1, X1, G1) ∧ StOut T L (cntR V8 + 1) (b3, V3) V1 X1 G1 := by
      intro cc Vx hcc hF b3 V3 eb3 h18 h19 hk hto
      subst eb3
      refine ⟨fun j hj => by rw [hk j (by omega) (by omega)]; exact k4 j hj, ?_⟩
      have hBE : BE T L (Xa 1) Vx Xa V3 := jb_fail hT hJB4 hF hcc h18 h19
      obtain ⟨c, o, hE, hback⟩ := be_er hBE
      have hx : TT (f_X6_readDonor n V X T G) (fun r => ER T L c o (Xa 1) r.1 r.2.1) := hcl (hto (er_donor36 hT hE hn))
      obtain ⟨⟨V1, X1, G1⟩, e1, u1⟩ := hx
      exact ⟨V1, X1, G1, e1, Or.inr ⟨rfl, _, hback V1 X1 u1⟩⟩
    refine tt_t rfl (tt_bd (x8_isName hT (jb_tb hJB4) hn) (fun b hb => tt_ite (fun c => ?_) (fun c => ?_)))
    · have hNR := hb.mp c
      rcases hR with ⟨-, e2, hF⟩ | ⟨q, -, -⟩
      · have e2 : Vn = Va := e2
        subst e2
        have hF : FrP (fun j => Xa 1 j.toNat = Xa 0 0) (G 3 0) r5 := hF
        rw [eG3] at hF
        refine tt_bd (x8_find hT (jb_tb hJB4) hNR.1.1 (by rw [e40]; exact hsa.1.2) (by rw [e40, ← ed]; exact nmr_r hNm4 (by omega)) hn) (fun r1 hF1 => ?_)
        rw [e40, ← ed] at hF1
        have e1 : r5 = r1 := frp_both hJB4 hNR.1 hNm4 hF hF1
        subst e1
        have hfb := frp_bd hF
        have hrr : rng r5 := by constructor <;> omega
        refine tt_ck hrr (tt_ite (fun c2 => ?_) (fun c2 => ?_))
        · -- a new name: its letters
          have hto : ∀ {P : Sz × Sz × Sz → Prop}, TT (jX6_readDonor_36 n T y Vn Xa G) P → TT (jX6_readDonor_19 n T y V X G) P := by
            intro P hP
            unfold jX6_readDonor_19
            exact tt_eb ea (tt_eb en (tt_ck hrr (tt_t c2 hP)))
          have hb4 := tb_bd (jb_tb hJB4)
          obtain ⟨hBy, p, p0, htk, -⟩ := jb_tb hJB4
          rw [hNR.1.1] at htk
          have hlet := tok_let htk p0
          have hlt := (htk.2.2.2.2.2.2 (Or.inl rfl)).1
          refine tt_lp (I := fun z : Int × Int × Sz => z.1 = y ∧ (0 ≤ z.2.1 ∧ z.2.1 ≤ 6) ∧ (∀ j : Nat, j ≠ 7 → z.2.2 j = V4 j) ∧ ∀ i : Nat, z.2.2 7 i = if 6 * y ≤ (i : Int) ∧ (i : Int) < 6 * y + z.2.1 then ltr T V4 ((i : Int) - 6 * y) else V4 7 i) (μ := fun z => (6 - z.2.1).toNat) ?_ n (y, 0, V4) ⟨rfl, ⟨Int.le_refl _, by show (0 : Int) ≤ 6; decide⟩, fun _ _ => rfl, fun i => by
            show V4 7 i = if 6 * y ≤ (i : Int) ∧ (i : Int) < 6 * y + 0 then _ else V4 7 i
            rw [if_neg (by omega)]⟩ (by show (6 - (0 : Int)).toNat < n; omega)
          rintro ⟨y1, i, Vl⟩ rec ⟨ey1, ⟨i0, i1⟩, hkl, h7⟩ ih
          simp only at ey1 i0 i1 hkl h7
          subst ey1
          rw [bX8_readDonor_56_e]
          have hJBl : JB T L Vn Xa Vl := jb_keep hJB4 (fun j j0 _ => hkl j (by omega))
          have el0 : Vl 0 = V8 0 := (hkl 0 (by decide)).trans e40
          refine tt_ck ⟨by omega, by omega⟩ (tt_ite (fun c3 => ?_) (fun c3 => ?_))
          · have ei : i = 6 := by omega
            subst ei
            refine tt_bd (jb_next hT hJBl hn) (fun V9 ⟨hJA9, hk9⟩ => ?_)
            have m9 : ∀ j : Nat, j ≠ 7 → ¬ (18 ≤ j ∧ j < 24) → V9 j = V8 j := fun j j7 jj => by rw [hk9 j (by omega) (by omega) (by omega) (by omega), hkl j j7, m4 j jj]
            refine tt_bd (num_both (X := Xa) (G := G) hT hJA9 (i := 10 + y1) ⟨by omega, by omega⟩ ⟨by decide, by decide⟩ ⟨by decide, by decide⟩ hn) (fun ⟨b11, V11⟩ ⟨hk11, x, C1, X1, ec1, rr1, ex1, e61, hc1⟩ => ?_)
            have m11 : ∀ j : Nat, j ≠ 0 → j ≠ 7 → ¬ (18 ≤ j ∧ j < 24) → V11 j = V8 j := fun j j0 j7 jj => (hk11 j j0 jj).trans (m9 j j7 jj)
            rcases hc1 with ⟨b1, ⟨x0, x1⟩, row1, hJA11⟩ | ⟨b1, hBE⟩
            · have b1 : b11 = true := b1
              subst b1
              have row1 : V11 0 = up (V9 0) (10 + y1).toNat x := row1
              have hJA11 : JA T L C1 V11 := hJA11
              rw [m9 0 (by decide) (by omega)] at row1
              have e110 : V11 0 0 = y1 := by rw [row1, up_ne (by omega), ed]
              refine tt_t rfl (tt_nmE (fun Vb evb => tt_some ?_))
              have evb : Vb = uz V11 0 0 (V11 0 0 + 1) := evb
              rw [e110] at evb
              have hJAb : JA T L C1 Vb := ja_keep hJA11 (fun j j0 _ => by rw [evb, uz_ne (by omega)])
              have mb : ∀ j : Nat, j ≠ 0 → j ≠ 7 → ¬ (18 ≤ j ∧ j < 24) → Vb j = V8 j := fun j j0 j7 jj => by rw [evb, uz_ne j0]; exact m11 j j0 j7 jj
              refine ⟨fun j hj => mb j (by omega) (by omega) (by omega), ?_⟩
              have hrow : Vb 0 = up (up (V8 0) (10 + y1).toNat x) 0 (y1 + 1) := by rw [evb, uz_at, row1]
              have hp : PlusD (V8 0) x (Vb 0) := by
                rw [hrow]
                refine ⟨by rw [up_at, ed], ?_, fun i i1 i2 => ?_⟩
                · rw [← ed]; unfold wLim; rw [up_ne (by omega), up_at]
                · rw [← ed] at i2
                  rw [up_ne i1, up_ne (by omega)]
              have eb7 : Vb 7 = Vl 7 := by rw [evb, uz_ne (by decide), show V11 7 = V9 7 from hk11 7 (by decide) (by omega), hk9 7 (by decide) (by decide) (by decide) (by decide)]
              obtain ⟨V1, Xe, es, hr1, hend⟩ := end_at (X := X1) (G := G) hT hJAb hn
              rcases hend with ⟨c, hJ, hz0, ex, e6'⟩ | ⟨hnz, hx⟩
              · obtain ⟨Xf, exf⟩ : ∃ Xf : Sz, Xf = uz Xe 1 y1.toNat (Xa 0 0) := ⟨_, rfl⟩
                obtain ⟨G1, eg1⟩ : ∃ G1 : Sz, G1 = us (uz G 4 y1.toNat x) 3 (y1 + 1) := ⟨_, rfl⟩
                have hx : TT (f_X6_readDonor n V X T G) (fun r => r = (V1, Xf, G1)) := by
                  refine hcl (hto ?_)
                  unfold jX6_readDonor_36
                  refine tt_nm (tt_eb ec1 (tt_eb es (tt_ck hr1 (tt_t hz0 (tt_ck ⟨by omega, by omega⟩ (tt_f (by omega) (tt_ck ⟨by omega, by omega⟩ (tt_nm ?_))))))))
                  rw [← exf]
                  unfold f_X4_addDonor
                  rw [eG3, ck_t ⟨by omega, by omega⟩, if_neg (by omega), ck_t ⟨by omega, by omega⟩, nm_s, nm_s, uz_ne (by decide), eG3, bd_s, ← eg1]
                  exact tt_some rfl
                have ew : Xa 0 0 = wrdR T V4 := jb_w hJB4
                refine ⟨V1, Xf, G1, tt_eq hx, Or.inl ⟨rfl, hJAb.1.2.2.1, Or.inl ⟨c, jb_x hJ (by rw [exf, uz_ne (by decide)]), ⟨⟨plusd_LR0 hL hw hp (by omega) (fun k k3 k4 => by rw [eg1, us_ne k3, uz_ne k4]) (by rw [eg1, us_at, ed]) (by rw [eg1, us_ne (by decide), uz_at, ed]), plusd_WF hp hw (by omega) ⟨x0, x1⟩, ?_, wfz_same hw (hp.2.2 2 (by decide) (by omega)) (fun i i0 i1 => hp.2.2 i (by omega) (by omega)) hz⟩, ?_, ?_, ?_⟩, ?_⟩⟩⟩
                · show Vb 0 1 ≤ 30
                  rw [hp.2.2 1 (by decide) (by omega)]; exact h30
                · show NmR Xf Vb (Vb 0 0)
                  rw [hp.1, ← ed]
                  intro q q0 q1
                  by_cases e : q = y1
                  · subst e
                    refine ⟨(V4 20 0 - V4 21 0).toNat, let_ T (V4 21 0), ⟨by omega, by have := hNR.1.2; omega⟩, hlet, ?_, fun j hj => ?_⟩
                    · rw [exf, uz_at, up_at, ew]
                      unfold wrdR wrd
                      rw [if_pos ⟨hNR.1.1, by have := hNR.1.2; omega⟩]
                    · rw [eb7, h7, if_pos (by omega), show ((6 * q.toNat + j : Nat) : Int) - 6 * q = (j : Int) by omega]
                      unfold ltr let_
                      by_cases c5 : j < (V4 20 0 - V4 21 0).toNat
                      · rw [if_pos c5, if_neg (by omega), show (V4 21 0 + (j : Int)).toNat = (V4 21 0).toNat + j by omega]
                      · rw [if_neg c5, if_pos (by omega)]
                  · obtain ⟨u, l, hu, hl, e1, e7⟩ := hNm4 q q0 (by omega)
                    refine ⟨u, l, hu, hl, ?_, fun j hj => ?_⟩
                    · rw [exf, uz_at, up_ne (by omega), show Xe 1 = X1 1 from ex, ex1]; exact e1
                    · rw [eb7, h7, if_neg (by omega)]; exact e7 j hj
                · show V1 6 0 = Vb 24 0
                  rw [e6', e61, ea6, mb 24 (by decide) (by decide) (by omega)]; exact h6
                · rw [e6', e61, ea6]; exact h6b
                · show Vb 0 0 + Vb 0 1 + Vb 0 2 + Vb 24 0 = V8 0 0 + V8 0 1 + V8 0 2 + V8 24 0 + 1
                  rw [hp.1, hp.2.2 1 (by decide) (by omega), hp.2.2 2 (by decide) (by omega), mb 24 (by decide) (by decide) (by omega)]
                  omega
              · have hx7 : TT (f_X6_readDonor n V X T G) (fun r => r = (V1, Xe, G)) := by
                  refine hcl (hto ?_)
                  unfold jX6_readDonor_36
                  exact tt_nm (tt_eb ec1 (tt_eb es (tt_ck hr1 (tt_f hnz (tt_some rfl)))))
                exact ⟨V1, Xe, G, tt_eq hx7, hx _ G⟩
            · have b1 : b11 = false := b1
              subst b1
              obtain ⟨c, o, hE, hback⟩ := be_er hBE
              have hx : TT (f_X6_readDonor n V X T G) (fun r => ER T L c o (Xa 1) r.1 r.2.1) := by
                refine hcl (hto ?_)
                unfold jX6_readDonor_36
                refine tt_nm (tt_eb ec1 (tt_bd (er_semi hT hE hn) (fun ⟨V16, X17⟩ h16 => ?_)))
                have h16 : ER T L c o (Xa 1) V16 X17 := h16
                exact tt_ck (er_rng h16).1 (tt_f (by rw [h16.1.1]; have := h16.1.2.2.1; omega) (tt_some h16))
              obtain ⟨⟨V1, Xe, G1⟩, e1, u1⟩ := hx
              exact tt_f (by decide) (tt_some ⟨fun j hj => m11 j (by omega) (by omega) (by omega), V1, Xe, G1, e1, Or.inr ⟨rfl, _, hback V1 Xe u1⟩⟩)
          · have hlh := x8_letter hT (jb_tb hJBl) (show Vl 23 0 = 1 by rw [hkl 23 (by decide)]; exact hNR.1.1) i0 (by omega)
            have elt : ltr T Vl i = ltr T V4 i := by
              unfold ltr
              rw [hkl 20 (by decide), hkl 21 (by decide)]
            rw [hlh.1, bd_s, elt]
            refine tt_ck ⟨by omega, by omega⟩ (tt_nmE (fun Vm em => tt_nm (ih (y1, i + 1, Vm) ⟨rfl, ⟨by show 0 ≤ i + 1; omega, by show i + 1 ≤ 6; omega⟩, fun j j7 => by
              show Vm j = V4 j
              rw [em, uz_ne j7]; exact hkl j j7, fun q => ?_⟩ (by show (6 - (i + 1)).toNat < (6 - i).toNat; omega))))
            show Vm 7 q = if 6 * y1 ≤ (q : Int) ∧ (q : Int) < 6 * y1 + (i + 1) then ltr T V4 ((q : Int) - 6 * y1) else V4 7 q
            rw [em, uz_at, up_if, h7 q]
            by_cases e : q = (6 * y1 + i).toNat
            · rw [if_pos e, if_pos (by omega), show (q : Int) - 6 * y1 = i by omega]
            · rw [if_neg e]
              by_cases c4 : 6 * y1 ≤ (q : Int) ∧ (q : Int) < 6 * y1 + i
              · rw [if_pos c4, if_pos (by omega)]
              · rw [if_neg c4, if_neg (by omega)]
        · -- a name that is there
          obtain ⟨Vx, ef, hFx⟩ := c6_fail (V := Vn) (X := Xa) (G := G) (T := T) (by rw [hJB4.1.1.1]; decide) 3
          refine tt_bd (x8_failsAt hJB4.1.2.2.1 3) (fun ⟨b1, V3⟩ ⟨f1, f2, f3, f5⟩ => tt_some (bad 3 Vx ⟨by decide, by decide⟩ hFx b1 V3 f1 f2 f3 f5 ?_))
          intro P hP
          unfold jX6_readDonor_19
          exact tt_eb ea (tt_eb en (tt_ck hrr (tt_f c2 (tt_eb ef hP))))
      · exact (q (hnb.mpr hNR)).elim
    · have hNR : ¬ NamR T V4 := fun q => c (hb.mpr q)
      rcases hR with ⟨q, -, -⟩ | ⟨-, e1, hF⟩
      · exact (hNR (hnb.mp q)).elim
      · have e1 : r5 = -1 := e1
        have hF : FailV Va 1 Vn := hF
        refine tt_bd (x8_failsAt hJB4.1.2.2.1 1) (fun ⟨b1, V3⟩ ⟨f1, f2, f3, f5⟩ => tt_some (bad 1 Vn ⟨by decide, by decide⟩ hF b1 V3 f1 f2 f3 f5 ?_))
        intro P hP
        unfold jX6_readDonor_19
        exact tt_eb ea (tt_eb en (tt_ck (by rw [e1]; decide) (tt_t e1 hP)))
