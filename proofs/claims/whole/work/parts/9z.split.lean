/-! statements: split -/
theorem wei_three {f s t : Int} (hf : 1 ≤ f ∧ f ≤ 9) (hs : 1 ≤ s ∧ s ≤ 9) (ht : 1 ≤ t ∧ t ≤ 9) : (∀ j : Int, 0 ≤ j → j < 3 → 1 ≤ wei f s t j ∧ wei f s t j ≤ 9) ∧ f + s + t = sumN (wei f s t) (3 : Int).toNat := by
  refine ⟨fun j j0 j1 => ?_, ?_⟩
  · unfold wei
    split
    · exact hf
    · split
      · exact hs
      · exact ht
  · show f + s + t = 0 + f + s + t
    omega
theorem er_spl3 {T : Nat → Int} {L c o g : Int} {N : Nat → Int} {V X G : Sz} (hT : BT T L) (h : ER T L c o N V X) (h3 : 0 ≤ G 3 0 ∧ G 3 0 ≤ 10) (hX : XB X (G 3 0)) (hg : GP G g) {n : Nat} (hn : 1000 ≤ n) : TT (bd (f_X6_readShare n V X T G g) fun ((V_18, X_19, G_20) : Sz × Sz × Sz) => bd (f_X6_readSemicolon n V_18 X_19 T G_20) fun ((V_21, X_22) : Sz × Sz) => some (V_21, X_22, G_20)) (fun r => ER T L c o N r.1 r.2.1) := by
  refine tt_bd (er_share hT h h3 hX hg hn) (fun ⟨V18, X19, G20⟩ ⟨h18, _⟩ => tt_bd (er_semi hT h18 hn) (fun ⟨V21, X22⟩ h21 => tt_some h21))
theorem er_spl2 {T : Nat → Int} {L c o g : Int} {N : Nat → Int} {V X G : Sz} (hT : BT T L) (h : ER T L c o N V X) (h3 : 0 ≤ G 3 0 ∧ G 3 0 ≤ 10) (hX : XB X (G 3 0)) (hg : GP G g) {n : Nat} (hn : 1000 ≤ n) : TT (bd (f_X6_advance n V X T G) fun ((V_15, X_16) : Sz × Sz) => ck (rng (V_15 5 0)) <| if V_15 5 0 = 3 then (some (V_15, X_16, G)) else (bd (f_X6_readShare n V_15 X_16 T G g) fun ((V_18, X_19, G_20) : Sz × Sz × Sz) => bd (f_X6_readSemicolon n V_18 X_19 T G_20) fun ((V_21, X_22) : Sz × Sz) => some (V_21, X_22, G_20))) (fun r => ER T L c o N r.1 r.2.1) := by
  refine tt_bd (er_advance hT h hn) (fun ⟨V5, X6⟩ h5 => ?_)
  have h5 : ER T L c o N V5 X6 := h5
  have hb := cb_bd h5.2.1
  exact tt_ck ⟨by omega, by omega⟩ (tt_ite (fun _ => tt_some h5) (fun _ => er_spl3 hT h5 h3 (xb_same hX (h5.2.2.trans h.2.2.symm)) hg hn))
theorem er_spl1 {T : Nat → Int} {L c o g : Int} {N : Nat → Int} {V X G : Sz} (hT : BT T L) (h : ER T L c o N V X) (h3 : 0 ≤ G 3 0 ∧ G 3 0 ≤ 10) (hX : XB X (G 3 0)) (hg : GP G g) {n : Nat} (hn : 1000 ≤ n) : TT (bd (f_X6_advance n V X T G) fun ((V_10, X_11) : Sz × Sz) => bd (f_X6_readShare n V_10 X_11 T G g) fun ((V_12, X_13, G_14) : Sz × Sz × Sz) => bd (f_X6_advance n V_12 X_13 T G_14) fun ((V_15, X_16) : Sz × Sz) => ck (rng (V_15 5 0)) <| if V_15 5 0 = 3 then (some (V_15, X_16, G_14)) else (bd (f_X6_readShare n V_15 X_16 T G_14 g) fun ((V_18, X_19, G_20) : Sz × Sz × Sz) => bd (f_X6_readSemicolon n V_18 X_19 T G_20) fun ((V_21, X_22) : Sz × Sz) => some (V_21, X_22, G_20))) (fun r => ER T L c o N r.1 r.2.1) := by
  refine tt_bd (er_advance hT h hn) (fun ⟨V5, X6⟩ h5 => ?_)
  have h5 : ER T L c o N V5 X6 := h5
  refine tt_bd (er_share hT h5 h3 (xb_same hX (h5.2.2.trans h.2.2.symm)) hg hn) (fun ⟨V12, X13, G14⟩ ⟨h12, e14⟩ => ?_)
  have h12 : ER T L c o N V12 X13 := h12
  have e14 : G14 = G := e14
  subst e14
  exact er_spl2 hT h12 h3 (xb_same hX (h12.2.2.trans h.2.2.symm)) hg hn
theorem part_gp {G G1 : Sz} {w : Rw} {g day am be c m : Int} {dd a : Int → Int} (h : PartL G G1 w g day am be c dd a) (hg : 0 ≤ g ∧ g < 60) (hc : 0 ≤ c ∧ c ≤ 3) (hm : m ≤ 10) (hdd : ∀ k : Int, 0 ≤ k → k < c → 0 ≤ dd k ∧ dd k < m) : GP G1 g := by
  have e14 : G1 14 g.toNat = c := by rw [h.1.2.2.2.2.2, up_at]
  refine Or.inr ⟨hg, ⟨by omega, by omega⟩, fun k k0 k1 => ?_⟩
  rw [e14] at k1
  rw [(h.2.2.2.2 k k0 k1).1]
  have := hdd k k0 k1
  constructor <;> omega
theorem st_split {T : Nat → Int} {L : Int} {V X V8 G : Sz} (hT : BT T L) (h : JB T L V X V8) (hS : SR G V X V8) {n : Nat} (hn : 1000 ≤ n) : TT (f_X8_readSplit n V8) (fun q => KeepR V8 q.2 ∧ ∃ V1 X1 G1 : Sz, f_X6_readSplit n V X T G = some (V1, X1, G1) ∧ StOut T L (cntR V8 + 1) q V1 X1 G1) := by
  have hsa := sr_at hS
  have hw := hS.1.2.1
  have hNm := hS.2.1
  have hXB := nmr_x hNm
  have h3 : 0 ≤ G 3 0 ∧ G 3 0 ≤ 10 := by rw [hsa.1.1]; exact hsa.1.2
  rw [← hsa.1.1] at hXB
  unfold f_X8_readSplit
  refine tt_nmE (fun g eg => ?_)
  refine tt_bd (money_both hT h hS hn) (fun ⟨b, V2⟩ ⟨hk, r, Va, Xa, G1, eh, exa, hc⟩ => ?_)
  have hk : ∀ j : Nat, j ≠ 0 → ¬ (18 ≤ j ∧ j < 24) → V2 j = V8 j := hk
  rcases hc with ⟨b1, e6, hJA, ⟨er, r60⟩, day, am, be, wa, hday, ham, hbe, hcl, row, hP⟩ | ⟨b1, er, eG, hBE⟩
  · have b1 : b = true := b1
    subst b1
    have row : V2 0 = FilRow wa r day am be := row
    have hJA : JA T L Va V2 := hJA
    have ege : g = r := by rw [eg, er]
    subst ege
    have g0 : 0 ≤ g := by omega
    have hg : 0 ≤ g ∧ g < 60 := ⟨g0, r60⟩
    have hfk := fil_keep (day := day) (am := am) (be := be) hcl g0 r60
    have hfil := fil_at (day := day) (am := am) (be := be) hcl g0 r60
    have hP0 := hP (fun _ => 0) (fun _ => 0)
    have e20 : V2 0 0 = V8 0 0 := by rw [row]; exact hfk.1
    -- the first share
    obtain ⟨⟨Vb, Xb⟩, eb, hA1⟩ := c6_advance (V0 := Va) (X0 := Xa) (G := G1) hT hJA.1.1.2.2 hJA.2.1 hn
    have hJB1 : JB T L Vb Xb V2 := ja_adv hJA hA1
    have exb : Xb 1 = X 1 := by
      have e : Xb = us Xa 0 _ := hA1.2.2
      rw [e, us_ne (by decide)]; exact exa
    have eb6 : Vb 6 = V 6 := (hA1.2.1 6 (by decide) (by decide) (by decide)).trans e6
    refine tt_f (by decide) (tt_bd (share_both (G0 := G) (G := G1) (w := V8 0) (F := FilRow wa g day am be) (j := 0) hT hJB1 (by rw [part_g3 hP0, e20]; exact hsa.1) (by rw [e20]; exact nmr_keep hNm exb (hk 7 (by decide) (by omega))) hg ⟨by decide, by decide⟩ ham hP0 (by rw [row]; exact don_zero _ _ _) (fun k k0 k1 => by omega) (fun k k0 k1 => by omega) hn) (fun ⟨b5, V5⟩ ⟨hk5, Vc, Xc, G2, ec, exc, hc1⟩ => ?_))
    have m5 : ∀ j : Nat, j ≠ 0 → j ≠ 25 → ¬ (18 ≤ j ∧ j < 24) → V5 j = V8 j := fun j j0 j25 jj => (hk5 j j0 j25 jj).trans (hk j j0 jj)
    have exc : Xc 1 = X 1 := exc.trans exb
    rcases hc1 with ⟨b1, ec6, hJA5, d0, x0, hd0, hx0, -, row5, w5, hP1⟩ | ⟨b1, eG2, hBE⟩
    · have b1 : b5 = true := b1
      subst b1
      have hJA5 : JA T L Vc V5 := hJA5
      have row5 : V5 0 = up (V2 0) (413 + (3 * g + 0)).toNat d0 := row5
      have w5 : V5 25 = up (V2 25) (0 : Int).toNat x0 := w5
      have e50 : V5 0 0 = V8 0 0 := by rw [row5, up_ne (by omega), e20]
      rw [e20] at hd0
      have hD1 : DonRow (FilRow wa g day am be) g 1 (setI (fun _ => 0) 0 d0) (V5 0) := by
        rw [row5, row]
        exact don_step (m := 0) (don_zero _ _ (fun _ => 0)) g0 (by decide) (fun k k0 k1 => by omega) (setI_at _ _ _)
      have hdd1 : ∀ k : Int, 0 ≤ k → k < 1 → 0 ≤ setI (fun _ => 0) 0 d0 k ∧ setI (fun _ => 0) 0 d0 k < V8 0 0 := fun k k0 k1 => by
        have ek : k = 0 := by omega
        rw [ek, setI_at]; exact hd0
      have haa1 : ∀ k : Int, 0 ≤ k → k < 1 → 1 ≤ setI (fun _ => 0) 0 x0 k ∧ setI (fun _ => 0) 0 x0 k ≤ 9 := fun k k0 k1 => by
        have ek : k = 0 := by omega
        rw [ek, setI_at]; exact hx0
      -- the second share
      obtain ⟨⟨Vd, Xd⟩, edv, hA2⟩ := c6_advance (V0 := Vc) (X0 := Xc) (G := G2) hT hJA5.1.1.2.2 hJA5.2.1 hn
      have hJB2 : JB T L Vd Xd V5 := ja_adv hJA5 hA2
      have exd : Xd 1 = X 1 := by
        have e : Xd = us Xc 0 _ := hA2.2.2
        rw [e, us_ne (by decide)]; exact exc
      have ed6 : Vd 6 = V 6 := (hA2.2.1 6 (by decide) (by decide) (by decide)).trans (ec6.trans eb6)
      refine tt_f (by decide) (tt_bd (share_both (G0 := G) (G := G2) (w := V8 0) (F := FilRow wa g day am be) (j := 1) hT hJB2 (by rw [part_g3 hP1, e50]; exact hsa.1) (by rw [e50]; exact nmr_keep hNm exd (m5 7 (by decide) (by decide) (by omega))) hg ⟨by decide, by decide⟩ ham hP1 hD1 (by rw [e50]; exact hdd1) haa1 hn) (fun ⟨b7, V7⟩ ⟨hk7, Ve, Xe, G3, ee, exe, hc2⟩ => ?_))
      have m7 : ∀ j : Nat, j ≠ 0 → j ≠ 25 → ¬ (18 ≤ j ∧ j < 24) → V7 j = V8 j := fun j j0 j25 jj => (hk7 j j0 j25 jj).trans (m5 j j0 j25 jj)
      have exe : Xe 1 = X 1 := exe.trans exd
      rcases hc2 with ⟨b2, ee6, hJA7, d1, x1, hd1, hx1, hne1, row7, w7, hP2⟩ | ⟨b2, eG3, hBE⟩
      · have b2 : b7 = true := b2
        subst b2
        have hJA7 : JA T L Ve V7 := hJA7
        have row7 : V7 0 = up (V5 0) (413 + (3 * g + 1)).toNat d1 := row7
        have w7 : V7 25 = up (V5 25) (1 : Int).toNat x1 := w7
        have e70 : V7 0 0 = V8 0 0 := by rw [row7, up_ne (by omega), e50]
        have e72 : V7 0 2 = V8 0 2 := by rw [row7, up_ne (by omega), row5, up_ne (by omega), row, hfk.2]
        rw [e50] at hd1
        have hne01 : d0 ≠ d1 := by
          have := hne1 0 (by decide) (by decide)
          rw [setI_at] at this; exact this
        obtain ⟨D2, eD2⟩ : ∃ D2 : Int → Int, D2 = setI (setI (fun _ => 0) 0 d0) 1 d1 := ⟨_, rfl⟩
        obtain ⟨A2, eA2⟩ : ∃ A2 : Int → Int, A2 = setI (setI (fun _ => 0) 0 x0) 1 x1 := ⟨_, rfl⟩
        have D20 : D2 0 = d0 := by rw [eD2, setI_ne (by decide), setI_at]
        have D21 : D2 1 = d1 := by rw [eD2, setI_at]
        have A20 : A2 0 = x0 := by rw [eA2, setI_ne (by decide), setI_at]
        have A21 : A2 1 = x1 := by rw [eA2, setI_at]
        have hP2 : PartL G G3 (V8 0) g day am be 2 D2 A2 := by rw [eD2, eA2]; exact hP2
        have hD2 : DonRow (FilRow wa g day am be) g 2 D2 (V7 0) := by
          rw [row7, eD2]
          exact don_step (m := 1) hD1 g0 (by decide) (fun k k0 k1 => setI_ne (by omega)) (setI_at _ _ _)
        have k2 : ∀ {P : Int → Prop}, P 0 → P 1 → ∀ k : Int, 0 ≤ k → k < 2 → P k := fun p0 p1 k k0 k1 => by
          have hk2 : k = 0 ∨ k = 1 := by omega
          rcases hk2 with e | e
          · rw [e]; exact p0
          · rw [e]; exact p1
        have hdd2 : ∀ k : Int, 0 ≤ k → k < 2 → 0 ≤ D2 k ∧ D2 k < V8 0 0 := k2 (P := fun k => 0 ≤ D2 k ∧ D2 k < V8 0 0) (by rw [D20]; exact hd0) (by rw [D21]; exact hd1)
        have haa2 : ∀ k : Int, 0 ≤ k → k < 2 → 1 ≤ A2 k ∧ A2 k ≤ 9 := k2 (P := fun k => 1 ≤ A2 k ∧ A2 k ≤ 9) (by rw [A20]; exact hx0) (by rw [A21]; exact hx1)
        have w70 : V7 25 0 = x0 := by rw [w7, up_ne (by decide), w5]; exact up_at _ _ _
        have w71 : V7 25 1 = x1 := by rw [w7]; exact up_at _ _ _
        have ham7 : wAm (V7 0) g = am := by
          have : wAm (V7 0) g = wAm (FilRow wa g day am be) g := by rw [row7, row5, row]; exact (up_ne (by omega)).trans (up_ne (by omega))
          rw [this]; exact hfil.2.2.2.2.1.2.1
        have hb7 := tb_bd (ja_tb hJA7)
        -- what follows in the class
        obtain ⟨⟨Vf, Xf⟩, ef, hA3⟩ := c6_advance (V0 := Ve) (X0 := Xe) (G := G3) hT hJA7.1.1.2.2 hJA7.2.1 hn
        have hJB3 : JB T L Vf Xf V7 := ja_adv hJA7 hA3
        have exf : Xf 1 = X 1 := by
          have e : Xf = us Xe 0 _ := hA3.2.2
          rw [e, us_ne (by decide)]; exact exe
        have ef6 : Vf 6 = V 6 := (hA3.2.1 6 (by decide) (by decide) (by decide)).trans (ee6.trans ed6)
        have hto : ∀ {P : Sz × Sz × Sz → Prop}, TT (ck (rng (Vf 5 0)) <| if Vf 5 0 = 3 then (some (Vf, Xf, G3)) else (bd (f_X6_readShare n Vf Xf T G3 g) fun ((V_18, X_19, G_20) : Sz × Sz × Sz) => bd (f_X6_readSemicolon n V_18 X_19 T G_20) fun ((V_21, X_22) : Sz × Sz) => some (V_21, X_22, G_20))) P → TT (f_X6_readSplit n V X T G) P := by
          intro P hP
          unfold f_X6_readSplit
          exact tt_eb eh (tt_eb eb (tt_eb ec (tt_eb edv (tt_eb ee (tt_eb ef hP)))))
        have ekind : Vf 5 0 = V7 23 0 := hJB3.2.2.1.2.2
        have rkind : rng (Vf 5 0) := by rw [ekind]; constructor <;> omega
        refine tt_t rfl (tt_ck ⟨by omega, by omega⟩ (tt_ite (fun c1 => ?_) (fun c1 => ?_)))
        · -- three parts
          have c1 : V7 23 0 = 1 := c1
          unfold jX8_readSplit_47
          refine tt_ck ⟨by decide, by decide⟩ (tt_f (by decide) (tt_bd (share_both (G0 := G) (G := G3) (w := V8 0) (F := FilRow wa g day am be) (j := 2) hT hJB3 (by rw [part_g3 hP2, e70]; exact hsa.1) (by rw [e70]; exact nmr_keep hNm exf (m7 7 (by decide) (by decide) (by omega))) hg ⟨by decide, by decide⟩ ham hP2 hD2 (by rw [e70]; exact hdd2) haa2 hn) (fun ⟨b9, V9⟩ ⟨hk9, Vg, Xg, G4, eg4, exg, hc3⟩ => ?_)))
          have m9 : ∀ j : Nat, j ≠ 0 → j ≠ 25 → ¬ (18 ≤ j ∧ j < 24) → V9 j = V8 j := fun j j0 j25 jj => (hk9 j j0 j25 jj).trans (m7 j j0 j25 jj)
          have exg : Xg 1 = X 1 := exg.trans exf
          rcases hc3 with ⟨b3, eg6, hJA9, d2, x2, hd2, hx2, hne2, row9, w9, hP3⟩ | ⟨b3, eG4, hBE⟩
          · have b3 : b9 = true := b3
            subst b3
            have hJA9 : JA T L Vg V9 := hJA9
            have row9 : V9 0 = up (V7 0) (413 + (3 * g + 2)).toNat d2 := row9
            have w9 : V9 25 = up (V7 25) (2 : Int).toNat x2 := w9
            rw [e70] at hd2
            have hne02 : d0 ≠ d2 := by
              have := hne2 0 (by decide) (by decide)
              rw [D20] at this; exact this
            have hne12 : d1 ≠ d2 := by
              have := hne2 1 (by decide) (by decide)
              rw [D21] at this; exact this
            have w90 : V9 25 0 = x0 := by rw [w9, up_ne (by decide)]; exact w70
            have w91 : V9 25 1 = x1 := by rw [w9, up_ne (by decide)]; exact w71
            have w92 : V9 25 2 = x2 := by rw [w9]; exact up_at _ _ _
            have ham9 : wAm (V9 0) g = am := by
              have : wAm (V9 0) g = wAm (V7 0) g := by rw [row9]; exact up_ne (by omega)
              rw [this]; exact ham7
            have hwt := wei_three hx0 hx1 hx2
            refine tt_t rfl ?_
            unfold jX8_readSplit_63
            refine tt_ck ⟨by decide, by decide⟩ (tt_f (by decide) ?_)
            unfold jX8_readSplit_74
            refine tt_ck ⟨by decide, by decide⟩ (tt_f (by decide) ?_)
            rw [w90, w91, w92]
            unfold jX8_readSplit_100
            refine tt_bd (x8_shares (V0 := V9) (g := g) (m := 3) (A := am) (f := x0) (s := x1) (t := x2) g0 r60 ⟨by decide, by decide⟩ ⟨by omega, by omega⟩ hwt.1 hwt.2 ham9 (by omega)) (fun Vh ⟨hkh, hsr⟩ => tt_nmE (fun Vi evi => tt_some ?_))
            have eh2 : Vh 0 2 = V8 0 2 := by rw [hsr 2, if_neg (by omega), if_neg (by omega), row9, up_ne (by omega), e72]
            have mi : ∀ j : Nat, j ≠ 0 → j ≠ 25 → ¬ (18 ≤ j ∧ j < 24) → Vi j = V8 j := fun j j0 j25 jj => by rw [evi, uz_ne j0, hkh j j0]; exact m9 j j0 j25 jj
            have hJAi : JA T L Vg Vi := ja_keep hJA9 (fun j j0 _ => by rw [evi, uz_ne (by omega), hkh j (by omega)])
            refine ⟨fun j hj => mi j (by omega) (by omega) (by omega), ?_⟩
            obtain ⟨V1, Xz, es, hr1, hend⟩ := end_at (X := Xg) (G := G4) hT hJAi hn
            have hx7 : TT (f_X6_readSplit n V X T G) (fun r => r = (V1, Xz, G4)) := hto (tt_ck rkind (tt_f (by rw [ekind, c1]; decide) (tt_eb eg4 (tt_eb es (tt_some rfl)))))
            refine ⟨V1, Xz, G4, tt_eq hx7, ?_⟩
            rcases hend with ⟨c, hJ, hz0, ex, e6'⟩ | ⟨hnz, hx⟩
            · refine Or.inl ⟨rfl, hJAi.1.2.2.1, Or.inl ⟨c, hJ, ?_⟩⟩
              have k3 : ∀ {P : Int → Prop}, P 0 → P 1 → P 2 → ∀ k : Int, 0 ≤ k → k < 3 → P k := fun p0 p1 p2 k k0 k1 => by
                have hk3 : k = 0 ∨ k = 1 ∨ k = 2 := by omega
                rcases hk3 with e | e | e
                · rw [e]; exact p0
                · rw [e]; exact p1
                · rw [e]; exact p2
              obtain ⟨D3, eD3⟩ : ∃ D3 : Int → Int, D3 = setI D2 2 d2 := ⟨_, rfl⟩
              have D30 : D3 0 = d0 := by rw [eD3, setI_ne (by decide), D20]
              have D31 : D3 1 = d1 := by rw [eD3, setI_ne (by decide), D21]
              have D32 : D3 2 = d2 := by rw [eD3, setI_at]
              have hP3 : PartL G G4 (V8 0) g day am be 3 D3 (setI A2 2 x2) := by rw [eD3]; exact hP3
              have hP4 := partl_congr (a1 := wei x0 x1 x2) hP3 (k3 (P := fun k => setI A2 2 x2 k = wei x0 x1 x2 k) (by rw [setI_ne (by decide), A20]; rfl) (by rw [setI_ne (by decide), A21]; rfl) (by rw [setI_at]; rfl))
              refine sr_gift (m := 3) (w1 := V9 0) (w2 := Vh 0) hS er r60 hday ham hbe ⟨by decide, by decide⟩ (k3 (P := fun k => 0 ≤ D3 k ∧ D3 k < V8 0 0) (by rw [D30]; exact hd0) (by rw [D31]; exact hd1) (by rw [D32]; exact hd2)) (fun i j i0 ij j1 => ?_) hwt.1 hP4 hcl ?_ hsr ?_ (mi 7 (by decide) (by decide) (by omega)) (mi 24 (by decide) (by decide) (by omega)) (ex.trans exg) (e6'.trans (eg6.trans ef6))
              · have hij : (i = 0 ∧ j = 1) ∨ (i = 0 ∧ j = 2) ∨ (i = 1 ∧ j = 2) := by omega
                rcases hij with ⟨e1, e2⟩ | ⟨e1, e2⟩ | ⟨e1, e2⟩
                · rw [e1, e2, D30, D31]; exact hne01
                · rw [e1, e2, D30, D32]; exact hne02
                · rw [e1, e2, D31, D32]; exact hne12
              · rw [row9, eD3]
                exact don_step (m := 2) hD2 g0 (by decide) (fun k k0 k1 => setI_ne (by omega)) (setI_at _ _ _)
              · show Vi 0 = _
                rw [evi, uz_at, eh2]
            · exact hx _ G4
          · have b3 : b9 = false := b3
            subst b3
            obtain ⟨c, o, hE, hback⟩ := be_er hBE
            have hx : TT (f_X6_readSplit n V X T G) (fun r => ER T L c o (Xf 1) r.1 r.2.1) := hto (tt_ck rkind (tt_f (by rw [ekind, c1]; decide) (tt_eb eg4 (tt_bd (er_semi hT hE hn) (fun ⟨V21, X22⟩ h21 => tt_some h21)))))
            obtain ⟨⟨V1, Xz, Gz⟩, e1, u1⟩ := hx
            exact tt_f (by decide) (tt_some ⟨fun j hj => m9 j (by omega) (by omega) (by omega), V1, Xz, Gz, e1, Or.inr ⟨rfl, _, hback V1 Xz u1⟩⟩)
        · -- two parts
          have c1 : ¬ V7 23 0 = 1 := c1
          have hwt := wei_two hx0 hx1
          unfold jX8_readSplit_47
          refine tt_ck ⟨by decide, by decide⟩ (tt_t rfl ?_)
          unfold jX8_readSplit_63
          refine tt_ck ⟨by decide, by decide⟩ (tt_t rfl ?_)
          unfold jX8_readSplit_74
          refine tt_ck ⟨by decide, by decide⟩ (tt_t rfl ?_)
          rw [w70, w71]
          unfold jX8_readSplit_100
          refine tt_bd (x8_shares (V0 := V7) (g := g) (m := 2) (A := am) (f := x0) (s := x1) (t := 0) g0 r60 ⟨by decide, by decide⟩ ⟨by omega, by omega⟩ hwt.1 hwt.2 ham7 (by omega)) (fun Vh ⟨hkh, hsr⟩ => tt_nmE (fun Vi evi => tt_some ?_))
          have eh2 : Vh 0 2 = V8 0 2 := by rw [hsr 2, if_neg (by omega), if_neg (by omega), e72]
          have mi : ∀ j : Nat, j ≠ 0 → j ≠ 25 → ¬ (18 ≤ j ∧ j < 24) → Vi j = V8 j := fun j j0 j25 jj => by rw [evi, uz_ne j0, hkh j j0]; exact m7 j j0 j25 jj
          have i7 : ∀ j : Nat, 14 ≤ j → j < 24 → Vi j = V7 j := fun j j0 _ => by rw [evi, uz_ne (by omega), hkh j (by omega)]
          have hJBi : JB T L Vf Xf Vi := jb_keep hJB3 i7
          refine ⟨fun j hj => mi j (by omega) (by omega) (by omega), ?_⟩
          by_cases c3 : V7 23 0 = 3
          · have hx7 : TT (f_X6_readSplit n V X T G) (fun r => r = (Vf, Xf, G3)) := hto (tt_ck rkind (tt_t (by rw [ekind]; exact c3) (tt_some rfl)))
            refine ⟨Vf, Xf, G3, tt_eq hx7, Or.inl ⟨rfl, hJBi.1.2.2.1, Or.inl ⟨?_, hJBi, ?_⟩⟩⟩
            · show Vi 23 0 = 3
              rw [i7 23 (by decide) (by decide)]; exact c3
            have hP4 := partl_congr (a1 := wei x0 x1 0) hP2 (k2 (P := fun k => A2 k = wei x0 x1 0 k) (by rw [A20]; rfl) (by rw [A21]; rfl))
            refine sr_gift (m := 2) (w1 := V7 0) (w2 := Vh 0) hS er r60 hday ham hbe ⟨by decide, by decide⟩ hdd2 (fun i j i0 ij j1 => ?_) hwt.1 hP4 hcl hD2 hsr ?_ (mi 7 (by decide) (by decide) (by omega)) (mi 24 (by decide) (by decide) (by omega)) exf ef6
            · have e1 : i = 0 := by omega
              have e2 : j = 1 := by omega
              rw [e1, e2, D20, D21]; exact hne01
            · show Vi 0 = _
              rw [evi, uz_at, eh2]
          · -- no semicolon
            have hXB3 : XB Xf (G3 3 0) := by rw [part_g3 hP2]; exact xb_same hXB exf
            have h33 : 0 ≤ G3 3 0 ∧ G3 3 0 ≤ 10 := by rw [part_g3 hP2]; exact h3
            have hGP3 := part_gp hP2 hg ⟨by decide, by decide⟩ hsa.1.2.2 hdd2
            obtain ⟨⟨rk, Vk⟩, ek, hR⟩ := c6_known (V := Vf) (X := Xf) (G := G3) hT hJBi.2.1 (by rw [hJBi.1.1.1]; decide) h33 hXB3 hn
            rcases hR with ⟨q, -, -, -⟩ | ⟨-, ek1, hF⟩
            · exact (c1 (by rw [← ekind]; exact q.1.1)).elim
            have ek1 : rk = -1 := ek1
            have hF : FailV Vf 1 Vk := hF
            have hBE : BE T L (Xf 1) Vk Xf (us (us Vi 18 1) 19 (Vi 21 0)) := jb_fail hT hJBi hF ⟨by decide, by decide⟩ (by rw [us_ne (by decide), us_at]) (us_at _ _ _ _)
            obtain ⟨c, o, hE, h18, h19, ho⟩ := hBE
            rw [us_ne (by decide), us_at] at h18
            rw [us_at] at h19
            have hx : TT (f_X6_readSplit n V X T G) (fun r => ER T L c o (Xf 1) r.1 r.2.1) := by
              refine hto (tt_ck rkind (tt_f (by rw [ekind]; exact c3) ?_))
              have hsh : TT (f_X6_readShare n Vf Xf T G3 g) (fun r => ER T L c o (Xf 1) r.1 r.2.1 ∧ r.2.2 = G3) := by
                unfold f_X6_readShare
                exact tt_eb ek (er_share2 hT hE hGP3 (by rw [ek1]; decide) hn)
              exact tt_bd hsh (fun ⟨V18, X19, G20⟩ ⟨h18, _⟩ => tt_bd (er_semi hT h18 hn) (fun ⟨V21, X22⟩ h21 => tt_some h21))
            obtain ⟨⟨V1, Xz, Gz⟩, e1, u1⟩ := hx
            refine ⟨V1, Xz, Gz, e1, Or.inl ⟨rfl, hJBi.1.2.2.1, Or.inr ⟨?_, by show rng (Vi 23 0); rw [i7 23 (by decide) (by decide)]; constructor <;> omega, fun V9 h918 h919 => ⟨_, c, o, u1, h918.trans h18, h919.trans h19, ho⟩⟩⟩⟩
            show ¬ Vi 23 0 = 3
            rw [i7 23 (by decide) (by decide)]; exact c3
      · have b2 : b7 = false := b2
        subst b2
        have eG3 : G3 = G2 := eG3
        obtain ⟨c, o, hE, hback⟩ := be_er hBE
        have hx : TT (f_X6_readSplit n V X T G) (fun r => ER T L c o (Xd 1) r.1 r.2.1) := by
          unfold f_X6_readSplit
          refine tt_eb eh (tt_eb eb (tt_eb ec (tt_eb edv (tt_eb ee ?_))))
          rw [eG3]
          exact er_spl2 hT hE (by rw [part_g3 hP1]; exact h3) (by rw [part_g3 hP1]; exact xb_same hXB exe) (part_gp hP1 hg ⟨by decide, by decide⟩ hsa.1.2.2 hdd1) hn
        obtain ⟨⟨V1, Xz, Gz⟩, e1, u1⟩ := hx
        exact tt_f (by decide) (tt_some ⟨fun j hj => m7 j (by omega) (by omega) (by omega), V1, Xz, Gz, e1, Or.inr ⟨rfl, _, hback V1 Xz u1⟩⟩)
    · have b1 : b5 = false := b1
      subst b1
      have eG2 : G2 = G1 := eG2
      obtain ⟨c, o, hE, hback⟩ := be_er hBE
      have hx : TT (f_X6_readSplit n V X T G) (fun r => ER T L c o (Xb 1) r.1 r.2.1) := by
        unfold f_X6_readSplit
        refine tt_eb eh (tt_eb eb (tt_eb ec ?_))
        rw [eG2]
        exact er_spl1 hT hE (by rw [part_g3 hP0]; exact h3) (by rw [part_g3 hP0]; exact xb_same hXB exc) (part_gp hP0 hg ⟨by decide, by decide⟩ hsa.1.2.2 (fun k k0 k1 => by omega)) hn
      obtain ⟨⟨V1, Xz, Gz⟩, e1, u1⟩ := hx
      exact tt_t rfl (tt_some ⟨fun j hj => m5 j (by omega) (by omega) (by omega), V1, Xz, Gz, e1, Or.inr ⟨rfl, _, hback V1 Xz u1⟩⟩)
  · have b1 : b = false := b1
    subst b1
    have hBE : BE T L (X 1) Va Xa V2 := hBE
    obtain ⟨c, o, hE, hback⟩ := be_er hBE
    have hx : TT (f_X6_readSplit n V X T G) (fun r => ER T L c o (X 1) r.1 r.2.1) := by
      unfold f_X6_readSplit
      refine tt_eb eh ?_
      rw [er, eG]
      refine tt_bd (er_advance hT hE hn) (fun ⟨V5, X6⟩ h5 => ?_)
      have h5 : ER T L c o (X 1) V5 X6 := h5
      refine tt_bd (er_share hT h5 h3 (xb_same hXB h5.2.2) (Or.inl rfl) hn) (fun ⟨V7, X8, G9⟩ ⟨h7, e9⟩ => ?_)
      have h7 : ER T L c o (X 1) V7 X8 := h7
      have e9 : G9 = G := e9
      subst e9
      exact er_spl1 hT h7 h3 (xb_same hXB h7.2.2) (Or.inl rfl) hn
    obtain ⟨⟨V1, Xz, Gz⟩, e1, u1⟩ := hx
    exact tt_t rfl (tt_some ⟨fun j hj => hk j (by omega) (by omega), V1, Xz, Gz, e1, Or.inr ⟨rfl, _, hback V1 Xz u1⟩⟩)
