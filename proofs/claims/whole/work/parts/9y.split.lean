/-! statements: gift, split as wholes -/
theorem part_g3 {G G1 : Sz} {w : Rw} {g day am be c : Int} {dd a : Int → Int} (h : PartL G G1 w g day am be c dd a) : G1 3 0 = G 3 0 := by rw [h.2.1 3 (by decide)]
theorem fil_keep {w wa : Rw} {g day am be : Int} (h : ClrRow w g wa) (g0 : 0 ≤ g) (g1 : g < 60) : FilRow wa g day am be 0 = w 0 ∧ FilRow wa g day am be 2 = w 2 := by
  have := (fil_at (day := day) (am := am) (be := be) h g0 g1).1
  exact ⟨this 0 (by decide), this 2 (by decide)⟩
theorem st_gift {T : Nat → Int} {L : Int} {V X V8 G : Sz} (hT : BT T L) (h : JB T L V X V8) (hS : SR G V X V8) {n : Nat} (hn : 1000 ≤ n) : TT (f_X8_readGift n V8) (fun q => KeepR V8 q.2 ∧ ∃ V1 X1 G1 : Sz, f_X6_readGift n V X T G = some (V1, X1, G1) ∧ StOut T L (cntR V8 + 1) q V1 X1 G1) := by
  have hsa := sr_at hS
  have hw := hS.1.2.1
  have hNm := hS.2.1
  have hXB := nmr_x hNm
  have h3 : 0 ≤ G 3 0 ∧ G 3 0 ≤ 10 := by rw [hsa.1.1]; exact hsa.1.2
  rw [← hsa.1.1] at hXB
  unfold f_X8_readGift
  refine tt_nmE (fun g eg => ?_)
  refine tt_bd (money_both hT h hS hn) (fun ⟨b, V2⟩ ⟨hk, r, Va, Xa, G1, eh, exa, hc⟩ => ?_)
  have hk : ∀ j : Nat, j ≠ 0 → ¬ (18 ≤ j ∧ j < 24) → V2 j = V8 j := hk
  rcases hc with ⟨b1, e6, hJA, ⟨er, r60⟩, day, am, be, wa, hday, ham, hbe, hcl, row, hP⟩ | ⟨b1, er, eG, hBE⟩
  · have b1 : b = true := b1
    subst b1
    have row : V2 0 = FilRow wa r day am be := row
    have hJA : JA T L Va V2 := hJA
    have ege : g = r := by rw [eg, er]
    subst ege
    have g0 : 0 ≤ g := by omega
    have hfk := fil_keep (day := day) (am := am) (be := be) hcl g0 r60
    have hfil := fil_at (day := day) (am := am) (be := be) hcl g0 r60
    have hP0 := hP (fun _ => 0) (fun _ => 0)
    have e20 : V2 0 0 = V8 0 0 := by rw [row]; exact hfk.1
    refine tt_f (by decide) ?_
    rw [x8_partOf, bd_s, Int.add_zero]
    refine tt_bd (don_both (X := Xa) (G := G1) hT hJA (i := 413 + 3 * g) (by rw [part_g3 hP0, e20]; exact hsa.1) (by rw [e20]; exact nmr_keep hNm exa (hk 7 (by decide) (by omega))) ⟨by omega, by omega⟩ hn) (fun ⟨b6, V6⟩ ⟨hk6, d, Cb, C0, X0, ea, e0, rd, ex0, e60, hc0⟩ => ?_)
    have m6 : ∀ j : Nat, j ≠ 0 → ¬ (18 ≤ j ∧ j < 24) → V6 j = V8 j := fun j j0 j1 => (hk6 j j0 j1).trans (hk j j0 j1)
    rcases hc0 with ⟨b0, hd, row0, hJA6⟩ | ⟨b0, hBE⟩
    · have b0 : b6 = true := b0
      subst b0
      have row0 : V6 0 = up (V2 0) (413 + 3 * g).toNat d := row0
      have hJA6 : JA T L C0 V6 := hJA6
      rw [e20] at hd
      have ham6 : wAm (V6 0) g = am := by
        have : wAm (V6 0) g = wAm (FilRow wa g day am be) g := by rw [row0, row]; exact up_ne (by omega)
        rw [this]; exact hfil.2.2.2.2.1.2.1
      refine tt_t rfl (tt_bd (x8_shares (V0 := V6) (g := g) (m := 1) (A := am) (f := 1) (s := 0) (t := 0) g0 r60 ⟨by decide, by decide⟩ ⟨by omega, by omega⟩ (fun j j0 j1 => ?_) rfl ham6 (by omega)) (fun V7 ⟨hk7, hsr⟩ => tt_nmE (fun Vb evb => tt_some ?_)))
      · have ej : j = 0 := by omega
        subst ej
        exact ⟨by decide, by decide⟩
      have m7 : ∀ j : Nat, j ≠ 0 → ¬ (18 ≤ j ∧ j < 24) → V7 j = V8 j := fun j j0 j1 => (hk7 j j0).trans (m6 j j0 j1)
      have e72 : V7 0 2 = V8 0 2 := by rw [hsr 2, if_neg (by omega), if_neg (by omega), row0, up_ne (by omega), row, hfk.2]
      have mb : ∀ j : Nat, j ≠ 0 → ¬ (18 ≤ j ∧ j < 24) → Vb j = V8 j := fun j j0 j1 => by rw [evb, uz_ne j0]; exact m7 j j0 j1
      have hJAb : JA T L C0 Vb := ja_keep hJA6 (fun j j0 _ => by rw [evb, uz_ne (by omega), hk7 j (by omega)])
      refine ⟨fun j hj => mb j (by omega) (by omega), ?_⟩
      obtain ⟨V1, Xe, es, hr1, hend⟩ := end_at (X := X0) (G := G1) hT hJAb hn
      rcases hend with ⟨c, hJ, hz0, ex, e6'⟩ | ⟨hnz, hx⟩
      · have hx : TT (f_X6_readGift n V X T G) (fun r => r.1 = V1 ∧ r.2.1 = Xe ∧ PartL G r.2.2 (V8 0) g day am be 1 (fun _ => d) (wei 1 0 0)) := by
          unfold f_X6_readGift
          refine tt_eb eh (tt_eb ea (tt_eb e0 (tt_eb es (tt_ck hr1 (tt_t hz0 ?_)))))
          refine tt_bd (part_add (c := 0) (dd1 := fun _ => d) (a1 := wei 1 0 0) hP0 g0 r60 ⟨by decide, by decide⟩ ⟨by omega, by omega⟩ (fun k k0 k1 => by omega) rfl (fun k k0 k1 => by omega) rfl (fun k k0 k1 => ?_) (by omega)) (fun Gn hPn => tt_nm (tt_some ⟨rfl, rfl, hPn⟩))
          have ek : k = 0 := by omega
          subst ek
          exact ⟨by decide, by decide⟩
        obtain ⟨⟨Vz, Xz, G2⟩, e1, u1, u2, u3⟩ := hx
        have u1 : Vz = V1 := u1
        have u2 : Xz = Xe := u2
        have u3 : PartL G G2 (V8 0) g day am be 1 (fun _ => d) (wei 1 0 0) := u3
        subst u1 u2
        refine ⟨Vz, Xz, G2, e1, Or.inl ⟨rfl, hJAb.1.2.2.1, Or.inl ⟨c, hJ, ?_⟩⟩⟩
        refine sr_gift (m := 1) (w1 := V6 0) (w2 := V7 0) hS er r60 hday ham hbe ⟨by decide, by decide⟩ (fun j j0 j1 => hd) (fun i j i0 ij j1 => by omega) (fun j j0 j1 => ?_) u3 hcl ?_ hsr ?_ (mb 7 (by decide) (by omega)) (mb 24 (by decide) (by omega)) (ex.trans (ex0.trans exa)) (e6'.trans (e60.trans e6))
        · have ej : j = 0 := by omega
          subst ej
          exact ⟨by decide, by decide⟩
        · have := don_step (m := 0) (dd := fun _ => d) (dd1 := fun _ => d) (d := d) (don_zero (FilRow wa g day am be) g (fun _ => d)) g0 (by decide) (fun _ _ _ => rfl) rfl
          rw [row0, row]
          rw [Int.add_zero] at this
          exact this
        · show Vb 0 = _
          rw [evb, uz_at, e72]
      · have hx7 : TT (f_X6_readGift n V X T G) (fun r => r = (V1, Xe, G1)) := by
          unfold f_X6_readGift
          exact tt_eb eh (tt_eb ea (tt_eb e0 (tt_eb es (tt_ck hr1 (tt_f hnz (tt_some rfl))))))
        exact ⟨V1, Xe, G1, tt_eq hx7, hx _ G1⟩
    · have b0 : b6 = false := b0
      subst b0
      obtain ⟨c, o, hE, hback⟩ := be_er hBE
      have hx : TT (f_X6_readGift n V X T G) (fun r => ER T L c o (Xa 1) r.1 r.2.1) := by
        unfold f_X6_readGift
        refine tt_eb eh (tt_eb ea (tt_eb e0 (tt_bd (er_semi hT hE hn) (fun ⟨V16, X17⟩ h16 => ?_))))
        have h16 : ER T L c o (Xa 1) V16 X17 := h16
        exact tt_ck (er_rng h16).1 (tt_f (by rw [h16.1.1]; have := h16.1.2.2.1; omega) (tt_some h16))
      obtain ⟨⟨V1, Xe, G2⟩, e1, u1⟩ := hx
      exact tt_f (by decide) (tt_some ⟨fun j hj => m6 j (by omega) (by omega), V1, Xe, G2, e1, Or.inr ⟨rfl, _, hback V1 Xe u1⟩⟩)
  · have b1 : b = false := b1
    subst b1
    have hBE : BE T L (X 1) Va Xa V2 := hBE
    obtain ⟨c, o, hE, hback⟩ := be_er hBE
    have hx : TT (f_X6_readGift n V X T G) (fun r => ER T L c o (X 1) r.1 r.2.1) := by
      unfold f_X6_readGift
      refine tt_eb eh (tt_bd (er_advance hT hE hn) (fun ⟨V5, X6⟩ h5 => ?_))
      have h5 : ER T L c o (X 1) V5 X6 := h5
      refine tt_bd (er_known hT h5 (by rw [eG]; exact h3) (by rw [eG]; exact xb_same hXB h5.2.2) hn) (fun ⟨r7, V8'⟩ ⟨_, e8⟩ => ?_)
      have e8 : V8' = V5 := e8
      subst e8
      refine tt_bd (er_semi hT h5 hn) (fun ⟨V16, X17⟩ h16 => ?_)
      have h16 : ER T L c o (X 1) V16 X17 := h16
      exact tt_ck (er_rng h16).1 (tt_f (by rw [h16.1.1]; have := h16.1.2.2.1; omega) (tt_some h16))
    obtain ⟨⟨V1, Xe, G2⟩, e1, u1⟩ := hx
    exact tt_t rfl (tt_some ⟨fun j hj => hk j (by omega) (by omega), V1, Xe, G2, e1, Or.inr ⟨rfl, _, hback V1 Xe u1⟩⟩)
