/-! statements: gift, split -/
theorem shp_congr {A : Int} {a b : Int → Int} {m i : Int} (h : ∀ j : Int, 0 ≤ j → j < m → a j = b j) (i0 : 0 ≤ i) (i1 : i < m) : shP A a m i = shP A b m i := by
  have e : sumN a m.toNat = sumN b m.toNat := sumN_congr (fun j j0 j1 => h j j0 (by omega))
  have eB : ∀ j : Int, 0 ≤ j → j < m → shB A a m j = shB A b m j := fun j j0 j1 => by
    unfold shB
    rw [h j j0 j1, e]
  have eR : shR A a m = shR A b m := by
    unfold shR
    rw [sumN_congr (f := shB A a m) (g := shB A b m) (fun j j0 j1 => eB j j0 (by omega))]
  unfold shP
  rw [eB i i0 i1, eR]
theorem partl_congr {G G1 : Sz} {w : Rw} {g day am be c : Int} {dd a a1 : Int → Int} (h : PartL G G1 w g day am be c dd a) (ha : ∀ j : Int, 0 ≤ j → j < c → a j = a1 j) : PartL G G1 w g day am be c dd a1 := by
  obtain ⟨h1, h2, h3, h4, h5⟩ := h
  refine ⟨h1, h2, h3, h4, fun j j0 j1 => ?_⟩
  obtain ⟨x1, x2, x3, x4, x5⟩ := h5 j j0 j1
  exact ⟨x1, x2.trans (ha j j0 j1), x3.trans (shp_congr ha j0 j1), x4, x5⟩
def setI (f : Int → Int) (i x : Int) : Int → Int := fun j => if j = i then x else f j
theorem setI_at (f : Int → Int) (i x : Int) : setI f i x i = x := if_pos rfl
theorem setI_ne {f : Int → Int} {i x j : Int} (h : j ≠ i) : setI f i x j = f j := if_neg h
theorem share_both {T : Nat → Int} {L : Int} {V X V8 G G0 : Sz} {w F : Rw} {g day am be j : Int} {dd a : Int → Int} (hT : BT T L) (h : JB T L V X V8) (h3 : G 3 0 = V8 0 0 ∧ 0 ≤ V8 0 0 ∧ V8 0 0 ≤ 10) (hNm : NmR X V8 (V8 0 0)) (hg : 0 ≤ g ∧ g < 60) (hj : 0 ≤ j ∧ j < 3) (ham : 1 ≤ am ∧ am ≤ 999999) (hP : PartL G0 G w g day am be j dd a) (hD : DonRow F g j dd (V8 0)) (hdd : ∀ k : Int, 0 ≤ k → k < j → 0 ≤ dd k ∧ dd k < V8 0 0) (haa : ∀ k : Int, 0 ≤ k → k < j → 1 ≤ a k ∧ a k ≤ 9) {n : Nat} (hn : 1000 ≤ n) : TT (f_X8_readShare n V8 g j) (fun q => (∀ i : Nat, i ≠ 0 → i ≠ 25 → ¬ (18 ≤ i ∧ i < 24) → q.2 i = V8 i) ∧ ∃ V1 X1 G1 : Sz, f_X6_readShare n V X T G g = some (V1, X1, G1) ∧ X1 1 = X 1 ∧ ((q.1 = true ∧ V1 6 = V 6 ∧ JA T L V1 q.2 ∧ ∃ d x : Int, (0 ≤ d ∧ d < V8 0 0) ∧ (1 ≤ x ∧ x ≤ 9) ∧ (∀ k : Int, 0 ≤ k → k < j → dd k ≠ d) ∧ q.2 0 = up (V8 0) (413 + (3 * g + j)).toNat d ∧ q.2 25 = up (V8 25) j.toNat x ∧ PartL G0 G1 w g day am be (j + 1) (setI dd j d) (setI a j x)) ∨ (q.1 = false ∧ G1 = G ∧ BE T L (X 1) V1 X1 q.2))) := by
  have hL9 := hT.1
  have e14 : G 14 g.toNat = j := by rw [hP.1.2.2.2.2.2, up_at]
  have e16 : ∀ k : Int, 0 ≤ k → k < j → G 16 (3 * g + k).toNat = dd k := fun k k0 k1 => (hP.2.2.2.2 k k0 k1).1
  have hGP : GP G g := Or.inr ⟨hg, ⟨by omega, by omega⟩, fun k k0 k1 => by
    rw [e14] at k1
    rw [e16 k k0 k1]
    have := hdd k k0 k1
    constructor <;> omega⟩
  have hXB := nmr_x hNm
  rw [← h3.1] at hXB
  have hnb := nam_both h
  obtain ⟨⟨r, Vk⟩, ek, hR⟩ := c6_known (V := V) (X := X) (G := G) hT h.2.1 (by rw [h.1.1.1]; decide) (by rw [h3.1]; exact h3.2) hXB hn
  -- an error at the name
  have bad : ∀ (cc : Int), (1 ≤ cc ∧ cc ≤ 4) → rng r → FailV V cc Vk → ∀ (b3 : Bool) (V3 : Sz), b3 = false → V3 18 0 = cc → V3 19 0 = V8 21 0 → ∃ V1 X1 G1 : Sz, f_X6_readShare n V X T G g = some (V1, X1, G1) ∧ X1 1 = X 1 ∧ (b3 = false ∧ G1 = G ∧ BE T L (X 1) V1 X1 V3) := by
    intro cc hcc rr hF b3 V3 eb3 h18 h19
    have hBE : BE T L (X 1) Vk X V3 := jb_fail hT h hF hcc h18 h19
    obtain ⟨c, o, hE, hback⟩ := be_er hBE
    have hx : TT (f_X6_readShare n V X T G g) (fun r => ER T L c o (X 1) r.1 r.2.1 ∧ r.2.2 = G) := by
      unfold f_X6_readShare
      exact tt_eb ek (er_share2 hT hE hGP rr hn)
    obtain ⟨⟨V1, X1, G1⟩, e1, u1, u2⟩ := hx
    exact ⟨V1, X1, G1, e1, u1.2.2, eb3, u2, hback V1 X1 u1⟩
  unfold f_X8_readShare
  refine tt_bd (x8_isName hT (jb_tb h) hn) (fun b hb => tt_ite (fun c => ?_) (fun c => ?_))
  · have hNR := hb.mp c
    rcases hR with ⟨-, hF, g1, g2⟩ | ⟨q, -, -⟩
    · have hF : FrP (fun j => X 1 j.toNat = X 0 0) (G 3 0) r := hF
      have g1 : r ≠ -1 → Vk = V := g1
      have g2 : r = -1 → FailV V 3 Vk := g2
      rw [h3.1] at hF
      refine tt_bd (x8_find hT (jb_tb h) hNR.1.1 h3.2 (nmr_r hNm h3.2.2) hn) (fun r1 hF1 => ?_)
      have e1 : r = r1 := frp_both h hNR.1 hNm hF hF1
      subst e1
      have hfb := frp_bd hF
      have hrr : rng r := by constructor <;> omega
      -- the earlier parts
      have body : ∀ z0 : Int, ((z0 = 1 ∧ r ≠ -1) ∨ (z0 = 0 ∧ r = -1)) → TT (jX8_readShare_28 n g j r V8 z0) (fun q => (∀ i : Nat, i ≠ 0 → i ≠ 25 → ¬ (18 ≤ i ∧ i < 24) → q.2 i = V8 i) ∧ ∃ V1 X1 G1 : Sz, f_X6_readShare n V X T G g = some (V1, X1, G1) ∧ X1 1 = X 1 ∧ ((q.1 = true ∧ V1 6 = V 6 ∧ JA T L V1 q.2 ∧ ∃ d x : Int, (0 ≤ d ∧ d < V8 0 0) ∧ (1 ≤ x ∧ x ≤ 9) ∧ (∀ k : Int, 0 ≤ k → k < j → dd k ≠ d) ∧ q.2 0 = up (V8 0) (413 + (3 * g + j)).toNat d ∧ q.2 25 = up (V8 25) j.toNat x ∧ PartL G0 G1 w g day am be (j + 1) (setI dd j d) (setI a j x)) ∨ (q.1 = false ∧ G1 = G ∧ BE T L (X 1) V1 X1 q.2))) := by
        intro z0 hz0
        unfold jX8_readShare_28
        refine tt_lp (I := fun z : Int × Int × Int × Sz => z.1 = r ∧ (0 ≤ z.2.2.1 ∧ z.2.2.1 ≤ j) ∧ z.2.2.2 = V8 ∧ ((z.2.1 = 1 ∧ r ≠ -1 ∧ ∀ k : Int, 0 ≤ k → k < z.2.2.1 → dd k ≠ r) ∨ (z.2.1 = 0 ∧ (r = -1 ∨ ∃ k : Int, 0 ≤ k ∧ k < j ∧ dd k = r)))) (μ := fun z => (j - z.2.2.1).toNat) ?_ n (r, z0, 0, V8) ⟨rfl, ⟨Int.le_refl _, hj.1⟩, rfl, ?_⟩ (by show (j - (0 : Int)).toNat < n; omega)
        · rintro ⟨y3, y4, y5, Vl⟩ rec ⟨ey3, ⟨y50, y51⟩, eVl, hI⟩ ih
          simp only at ey3 y50 y51 eVl hI
          subst ey3 eVl
          rw [bX8_readShare_33_e]
          have next : ∀ z : Int, ((z = 1 ∧ y3 ≠ -1 ∧ ∀ k : Int, 0 ≤ k → k < y5 + 1 → dd k ≠ y3) ∨ (z = 0 ∧ (y3 = -1 ∨ ∃ k : Int, 0 ≤ k ∧ k < j ∧ dd k = y3))) → y5 < j → TT (jX8_readShare_68 n g j rec y3 y5 Vl z) (fun q => (∀ i : Nat, i ≠ 0 → i ≠ 25 → ¬ (18 ≤ i ∧ i < 24) → q.2 i = Vl i) ∧ ∃ V1 X1 G1 : Sz, f_X6_readShare n V X T G g = some (V1, X1, G1) ∧ X1 1 = X 1 ∧ ((q.1 = true ∧ V1 6 = V 6 ∧ JA T L V1 q.2 ∧ ∃ d x : Int, (0 ≤ d ∧ d < Vl 0 0) ∧ (1 ≤ x ∧ x ≤ 9) ∧ (∀ k : Int, 0 ≤ k → k < j → dd k ≠ d) ∧ q.2 0 = up (Vl 0) (413 + (3 * g + j)).toNat d ∧ q.2 25 = up (Vl 25) j.toNat x ∧ PartL G0 G1 w g day am be (j + 1) (setI dd j d) (setI a j x)) ∨ (q.1 = false ∧ G1 = G ∧ BE T L (X 1) V1 X1 q.2))) := by
            intro z hzz hy
            unfold jX8_readShare_68
            exact tt_nm (ih (y3, z, y5 + 1, Vl) ⟨rfl, ⟨by show 0 ≤ y5 + 1; omega, by show y5 + 1 ≤ j; omega⟩, rfl, hzz⟩ (by show (j - (y5 + 1)).toNat < (j - y5).toNat; omega))
          refine tt_ck ⟨⟨by omega, by omega⟩, ⟨by omega, by omega⟩⟩ (tt_ite (fun c1 => ?_) (fun c1 => ?_))
          · have ey5 : y5 = j := by omega
            subst ey5
            rcases hI with ⟨e4, hne, hno⟩ | ⟨e4, hyes⟩
            · -- the share
              subst e4
              have eVk := g1 hne
              subst eVk
              refine tt_ck ⟨by decide, by decide⟩ (tt_f (by decide) ?_)
              rw [x8_partOf, bd_s]
              refine tt_ck ⟨by omega, by omega⟩ (tt_nmE (fun Va eva => ?_))
              have hJBa : JB T L Vk X Va := jb_keep h (fun i i0 _ => by rw [eva, uz_ne (by omega)])
              refine tt_bd (jb_next hT hJBa hn) (fun Vb ⟨hJAb, hkb⟩ => ?_)
              have mb : ∀ i : Nat, i ≠ 0 → ¬ (18 ≤ i ∧ i < 24) → Vb i = Vl i := fun i i0 ii => by rw [hkb i (by omega) (by omega) (by omega) (by omega), eva, uz_ne i0]
              have eb0 : Vb 0 = up (Vl 0) (413 + (3 * g + y5)).toNat y3 := by rw [hkb 0 (by decide) (by decide) (by decide) (by decide), eva, uz_at]
              obtain ⟨bh, ebh, hbh⟩ := c3_hasDonor (G := sv 9 G) (g := g) (c := y5) (d := y3) (dd := dd) hg ⟨hj.1, by omega⟩ e14 (fun k k0 k1 => ⟨e16 k k0 k1, by have := hdd k k0 k1; constructor <;> omega⟩) hrr (n := n) (by omega)
              have hbf : bh = false := by
                cases bh with
                | false => rfl
                | true =>
                  obtain ⟨k, k0, k1, k2⟩ := hbh.mp rfl
                  exact (hno k k0 k1 k2).elim
              subst hbf
              have hto : ∀ {P : Sz × Sz × Sz → Prop}, TT (jX6_readShare_30 n T g y3 Vk X G) P → TT (f_X6_readShare n Vk X T G g) P := by
                intro P hP
                unfold f_X6_readShare
                exact tt_eb ek (tt_ck ⟨by omega, by omega⟩ (tt_f (by omega) (tt_eb ebh (tt_t rfl hP))))
              obtain ⟨⟨x, V1, X1⟩, ec, Vc, hA, hRn⟩ := c6_number (V := Vk) (X := X) (G := G) (a := 1) (b := 9) hT (by rw [hJAb.1.1.1]; decide) hJAb.1.1.2.2 hJAb.2.1 ⟨by decide, by decide⟩ ⟨by decide, by decide⟩ hn
              have hJBc : JB T L Vc X1 Vb := ja_adv hJAb hA
              have hb8 := tb_bd (jb_tb hJBc)
              obtain ⟨x1, x2, x3⟩ := hJBc.2.2.1
              have hval := val_rng hJAb.2.2.1 hJAb.2.1.1
              have ev := hJBc.2.2.2
              have ex1 : X1 1 = X 1 := by
                have e : X1 = us X 0 _ := hA.2.2
                rw [e, us_ne (by decide)]
              have ea6 : Vc 6 = Vk 6 := hA.2.1 6 (by decide) (by decide) (by decide)
              -- an error at the number
              have badn : ∀ (cc : Int), (1 ≤ cc ∧ cc ≤ 4) → FailV Vc cc V1 → ∀ (b3 : Bool) (V3 : Sz), b3 = false → V3 18 0 = cc → V3 19 0 = Vb 21 0 → (∀ i : Nat, i ≠ 18 → i ≠ 19 → V3 i = Vb i) → (∀ i : Nat, i ≠ 0 → i ≠ 25 → ¬ (18 ≤ i ∧ i < 24) → V3 i = Vl i) ∧ ∃ V1 X1 G1 : Sz, f_X6_readShare n Vk X T G g = some (V1, X1, G1) ∧ X1 1 = X 1 ∧ ((b3 = true ∧ V1 6 = Vk 6 ∧ JA T L V1 V3 ∧ ∃ d x : Int, (0 ≤ d ∧ d < Vl 0 0) ∧ (1 ≤ x ∧ x ≤ 9) ∧ (∀ k : Int, 0 ≤ k → k < y5 → dd k ≠ d) ∧ V3 0 = up (Vl 0) (413 + (3 * g + y5)).toNat d ∧ V3 25 = up (Vl 25) y5.toNat x ∧ PartL G0 G1 w g day am be (y5 + 1) (setI dd y5 d) (setI a y5 x)) ∨ (b3 = false ∧ G1 = G ∧ BE T L (X 1) V1 X1 V3)) := by
                intro cc hcc hF b3 V3 eb3 h18 h19 hk
                refine ⟨fun i i0 _ ii => by rw [hk i (by omega) (by omega)]; exact mb i i0 ii, ?_⟩
                have hBE : BE T L (X1 1) V1 X1 V3 := jb_fail hT hJBc hF hcc h18 h19
                rw [ex1] at hBE
                have hne2 := be_ne hBE
                have hx : TT (f_X6_readShare n Vk X T G g) (fun r => r = (V1, X1, G)) := by
                  refine hto ?_
                  unfold jX6_readShare_30
                  exact tt_eb ec (tt_ck hne2.2 (tt_f hne2.1 (tt_some rfl)))
                exact ⟨V1, X1, G, tt_eq hx, ex1, Or.inr ⟨eb3, rfl, hBE⟩⟩
              have no : ¬ NumP Vc → TT (jX8_readShare_123 n g y5 Vb) (fun q => (∀ i : Nat, i ≠ 0 → i ≠ 25 → ¬ (18 ≤ i ∧ i < 24) → q.2 i = Vl i) ∧ ∃ V1 X1 G1 : Sz, f_X6_readShare n Vk X T G g = some (V1, X1, G1) ∧ X1 1 = X 1 ∧ ((q.1 = true ∧ V1 6 = Vk 6 ∧ JA T L V1 q.2 ∧ ∃ d x : Int, (0 ≤ d ∧ d < Vl 0 0) ∧ (1 ≤ x ∧ x ≤ 9) ∧ (∀ k : Int, 0 ≤ k → k < y5 → dd k ≠ d) ∧ q.2 0 = up (Vl 0) (413 + (3 * g + y5)).toNat d ∧ q.2 25 = up (Vl 25) y5.toNat x ∧ PartL G0 G1 w g day am be (y5 + 1) (setI dd y5 d) (setI a y5 x)) ∨ (q.1 = false ∧ G1 = G ∧ BE T L (X 1) V1 X1 q.2))) := by
                intro hno2
                rcases hRn with ⟨q, -, -⟩ | ⟨-, -, hF⟩
                · exact (hno2 q).elim
                · unfold jX8_readShare_123
                  exact tt_bd (x8_failsAt hJAb.1.2.2.1 1) (fun ⟨b1, V3⟩ ⟨f1, f2, f3, f4⟩ => tt_some (badn 1 ⟨by decide, by decide⟩ hF b1 V3 f1 f2 f3 f4))
              refine tt_ck ⟨by omega, by omega⟩ (tt_ite (fun c5 => ?_) (fun c5 => no (fun q => c5 (by rw [← x3]; exact q.1))))
              rw [x8_len, bd_s]
              refine tt_ck ⟨by omega, by omega⟩ (tt_ite (fun c6 => ?_) (fun c6 => no (fun q => c6 (by rw [← x1, ← x2]; exact q.2))))
              have hN : NumP Vc := ⟨by rw [x3]; exact c5, by rw [x1, x2]; exact c6⟩
              rcases hRn with ⟨-, er, hRn⟩ | ⟨q, -, -⟩
              · have er : x = valS T (Vc 3 0) (Vc 4 0) (Vc 5 0) := er
                rw [x1, x2, x3] at er
                have er2 : Vb 22 0 = x := by rw [ev, er]
                rw [er2]
                have hxr : rng x := by rw [er]; constructor <;> omega
                refine rg_t hxr ⟨by decide, by decide⟩ ⟨by decide, by decide⟩ (fun c7 => ?_) (fun c7 => ?_)
                · rcases hRn with ⟨-, -, e4⟩ | ⟨q, -⟩
                  · have e4 : V1 = Vc := e4
                    refine tt_ck ⟨hj.1, by omega⟩ (tt_nmE (fun Vd evd => ?_))
                    have hJBd : JB T L Vc X1 Vd := jb_keep hJBc (fun i i0 i1 => by rw [evd, uz_ne (by omega)])
                    refine tt_bd (jb_next hT hJBd hn) (fun Ve ⟨hJAe, hke⟩ => tt_some ⟨fun i i0 i25 ii => ?_, ?_⟩)
                    · show Ve i = Vl i
                      rw [hke i (by omega) (by omega) (by omega) (by omega), evd, uz_ne i25]; exact mb i i0 ii
                    have hx : TT (f_X6_readShare n Vk X T G g) (fun r => r.1 = V1 ∧ r.2.1 = X1 ∧ PartL G0 r.2.2 w g day am be (y5 + 1) (setI dd y5 y3) (setI a y5 x)) := by
                      refine hto ?_
                      unfold jX6_readShare_30
                      refine tt_eb ec (tt_ck (by rw [e4, hJBc.1.1.1]; decide) (tt_t (by rw [e4]; exact hJBc.1.1.1) ?_))
                      refine tt_bd (part_add (dd1 := setI dd y5 y3) (a1 := setI a y5 x) hP hg.1 hg.2 hj ⟨by omega, by omega⟩ (fun k k0 k1 => setI_ne (by omega)) (setI_at _ _ _) (fun k k0 k1 => setI_ne (by omega)) (setI_at _ _ _) (fun k k0 k1 => ?_) (by omega)) (fun Gn hPn => tt_nm (tt_some ⟨rfl, rfl, hPn⟩))
                      by_cases u : k = y5
                      · rw [u, setI_at]; exact c7
                      · rw [setI_ne u]; exact haa k k0 (by omega)
                    obtain ⟨⟨Vz, Xz, G1⟩, e1, u1, u2, u3⟩ := hx
                    have u1 : Vz = V1 := u1
                    have u2 : Xz = X1 := u2
                    subst u1 u2
                    have e4 : Vz = Vc := e4
                    refine ⟨Vz, Xz, G1, e1, ex1, Or.inl ⟨rfl, by rw [e4]; exact ea6, by rw [e4]; exact hJAe, y3, x, ⟨by omega, by omega⟩, c7, hno, ?_, ?_, u3⟩⟩
                    · show Ve 0 = _
                      rw [hke 0 (by decide) (by decide) (by decide) (by decide), evd, uz_ne (by decide), eb0]
                    · show Ve 25 = _
                      rw [hke 25 (by decide) (by decide) (by decide) (by decide), evd, uz_at, mb 25 (by decide) (by omega)]
                  · exact (q c7).elim
                · rcases hRn with ⟨q1, q2, -⟩ | ⟨-, hF⟩
                  · exact (c7 ⟨q1, q2⟩).elim
                  · exact tt_bd (x8_failsAt hJAb.1.2.2.1 2) (fun ⟨b1, V3⟩ ⟨f1, f2, f3, f4⟩ => tt_some (badn 2 ⟨by decide, by decide⟩ hF b1 V3 f1 f2 f3 f4))
              · exact (q hN).elim
            · -- no such donor, or it is there already
              subst e4
              refine tt_ck ⟨by decide, by decide⟩ (tt_t rfl (tt_bd (x8_failsAt h.1.2.2.1 3) (fun ⟨b1, V3⟩ ⟨f1, f2, f3, f4⟩ => tt_some ⟨fun i i0 _ ii => f4 i (by omega) (by omega), ?_⟩)))
              by_cases c2 : y3 = -1
              · obtain ⟨V1, X1, G1, u1, u2, u3⟩ := bad 3 ⟨by decide, by decide⟩ hrr (g2 c2) b1 V3 f1 f2 f3
                exact ⟨V1, X1, G1, u1, u2, Or.inr u3⟩
              · have eVk := g1 c2
                subst eVk
                rcases hyes with q | hyes
                · exact (c2 q).elim
                obtain ⟨Vx, ef, hFx⟩ := c6_fail (V := Vk) (X := X) (G := G) (T := T) (by rw [h.1.1.1]; decide) 3
                have hBE : BE T L (X 1) Vx X V3 := jb_fail hT h hFx ⟨by decide, by decide⟩ f2 f3
                obtain ⟨c, o, hE, hback⟩ := be_er hBE
                obtain ⟨bh, ebh, hbh⟩ := c3_hasDonor (G := sv 9 G) (g := g) (c := y5) (d := y3) (dd := dd) hg ⟨hj.1, by omega⟩ e14 (fun k k0 k1 => ⟨e16 k k0 k1, by have := hdd k k0 k1; constructor <;> omega⟩) hrr (n := n) (by omega)
                have hbt := hbh.mpr hyes
                subst hbt
                have hx : TT (f_X6_readShare n Vk X T G g) (fun r => ER T L c o (X 1) r.1 r.2.1 ∧ r.2.2 = G) := by
                  unfold f_X6_readShare
                  refine tt_eb ek (tt_ck ⟨by omega, by omega⟩ (tt_f (by omega) (tt_eb ebh (tt_f (by decide) (tt_eb ef ?_)))))
                  unfold jX6_readShare_30
                  refine tt_bd (er_number hT hE ⟨by decide, by decide⟩ ⟨by decide, by decide⟩ hn) (fun ⟨r4, V5, X6⟩ ⟨r4r, hE5⟩ => ?_)
                  have hE5 : ER T L c o (X 1) V5 X6 := hE5
                  exact tt_ck (er_rng hE5).1 (tt_f (by rw [hE5.1.1]; have := hE5.1.2.2.1; omega) (tt_some ⟨hE5, rfl⟩))
                obtain ⟨⟨V1, X1, G1⟩, e1, u1, u2⟩ := hx
                exact ⟨V1, X1, G1, e1, u1.2.2, Or.inr ⟨f1, u2, hback V1 X1 u1⟩⟩
          · rcases hI with ⟨e4, hne, hno⟩ | ⟨e4, hyes⟩
            · have hcell : Vl 0 (413 + (3 * g + y5)).toNat = dd y5 := by
                rw [hD, if_pos (by omega)]
                congr 1
                omega
              have hdy := hdd y5 y50 (by omega)
              rw [e4]
              refine tt_ck ⟨by decide, by decide⟩ (tt_f (by decide) ?_)
              rw [x8_partOf, bd_s, hcell]
              refine tt_ck ⟨by omega, by omega⟩ (tt_ck ⟨⟨by omega, by omega⟩, hrr⟩ (tt_ite (fun c4 => ?_) (fun c4 => next 1 (Or.inl ⟨rfl, hne, fun k k0 k1 => ?_⟩) (by omega))))
              · unfold jX8_readShare_67
                exact next 0 (Or.inr ⟨rfl, Or.inr ⟨y5, y50, by omega, c4⟩⟩) (by omega)
              · by_cases u : k = y5
                · rw [u]; exact c4
                · exact hno k k0 (by omega)
            · rw [e4]
              refine tt_ck ⟨by decide, by decide⟩ (tt_t rfl ?_)
              unfold jX8_readShare_67
              exact next 0 (Or.inr ⟨rfl, hyes⟩) (by omega)
        · rcases hz0 with ⟨e, hne⟩ | ⟨e, he⟩
          · exact Or.inl ⟨e, hne, fun k k0 k1 => by have : k < 0 := k1; omega⟩
          · exact Or.inr ⟨e, Or.inl he⟩
      exact tt_ck hrr (tt_ite (fun c2 => body 0 (Or.inr ⟨rfl, c2⟩)) (fun c2 => body 1 (Or.inl ⟨rfl, c2⟩)))
    · exact (q (hnb.mpr hNR)).elim
  · have hNR : ¬ NamR T V8 := fun q => c (hb.mpr q)
    rcases hR with ⟨q, -, -, -⟩ | ⟨-, e1, hF⟩
    · exact (hNR (hnb.mp q)).elim
    · have e1 : r = -1 := e1
      refine tt_bd (x8_failsAt h.1.2.2.1 1) (fun ⟨b1, V3⟩ ⟨f1, f2, f3, f4⟩ => tt_some ⟨fun i i0 _ ii => f4 i (by omega) (by omega), ?_⟩)
      obtain ⟨V1, X1, G1, u1, u2, u3⟩ := bad 1 ⟨by decide, by decide⟩ (by rw [e1]; decide) hF b1 V3 f1 f2 f3
      exact ⟨V1, X1, G1, u1, u2, Or.inr u3⟩
