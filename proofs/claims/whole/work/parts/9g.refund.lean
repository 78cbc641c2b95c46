/-! refunds -/
def lfS (w : Rw) (g : Int) : Int → Int := fun i => leftS w (3 * g + i)
/-- what is still to be refunded when the parts from j on are done -/
def rfR (w : Rw) (g am j : Int) : Int := max 0 (am - (sumN (lfS w g) (wMany w g).toNat - sumN (lfS w g) j.toNat))
def nbS (w : Rw) (g am j : Int) : Int := wPb w (3 * g + j) + (rfR w g am (j + 1) - rfR w g am j)
theorem rfR_step {w : Rw} (hw : WF w) {g am j : Int} (g0 : 0 ≤ g) (g1 : g < w 2) (j0 : 0 ≤ j) (j1 : j < wMany w g) : min (rfR w g am (j + 1)) (lfS w g j) = rfR w g am (j + 1) - rfR w g am j ∧ 0 ≤ lfS w g j ∧ lfS w g j ≤ 999999 := by
  have hf := fullS_bd hw g0 g1 j0 j1
  have hl : lfS w g j = leftS w (3 * g + j) := rfl
  have hs := sumN_step (lfS w g) j0
  unfold rfR
  rw [hs]
  omega
theorem rfR_top {w : Rw} {g am : Int} (ha : 0 ≤ am) : rfR w g am (wMany w g) = am := by
  unfold rfR
  omega
theorem lfS_sum {w : Rw} (hw : WF w) {g : Int} (g0 : 0 ≤ g) (g1 : g < w 2) (hm : 0 < wMany w g) : sumN (lfS w g) (wMany w g).toNat = wAm w g - wBack w g := by
  have hs := hw.2.2.2.2.2.2.2.1 g g0 g1 hm
  have e : sumN (lfS w g) (wMany w g).toNat = sumN (fun i => wPa w (3 * g + i) - wPb w (3 * g + i)) (wMany w g).toNat := rfl
  rw [e, sumN_sub, hs.1, hs.2]
theorem rfR_zero {w : Rw} (hw : WF w) {g am : Int} (g0 : 0 ≤ g) (g1 : g < w 2) (hm : 0 < wMany w g) (ha : am ≤ wAm w g - wBack w g) : rfR w g am 0 = 0 := by
  have e := lfS_sum hw g0 g1 hm
  have e0 : sumN (lfS w g) (0 : Int).toNat = 0 := rfl
  unfold rfR
  rw [e, e0]
  omega
theorem sumN_tele (f : Int → Int) : ∀ n : Nat, sumN (fun i => f (i + 1) - f i) n = f n - f 0 := by
  intro n
  induction n with
  | zero => show (0 : Int) = f ((0 : Nat) : Int) - f 0; rw [show ((0 : Nat) : Int) = 0 from rfl]; omega
  | succ n ih =>
    rw [sumN_succ, ih, show ((n + 1 : Nat) : Int) = (n : Int) + 1 by omega]; omega
def RefRow (w : Rw) (g am : Int) (w1 : Rw) : Prop := ∀ i : Nat, w1 i = if (i : Int) = 353 + g then wBack w g + am else if 773 + 3 * g ≤ (i : Int) ∧ (i : Int) < 773 + 3 * g + wMany w g then nbS w g am ((i : Int) - (773 + 3 * g)) else w i
theorem ref_at {w w1 : Rw} {g am : Int} (h : RefRow w g am w1) (hw : WF w) (g0 : 0 ≤ g) (g1 : g < w 2) : Gq w w1 g ∧ w1 2 = w 2 ∧ (wDay w1 g = wDay w g ∧ wAm w1 g = wAm w g ∧ wGot w1 g = wGot w g ∧ wMany w1 g = wMany w g ∧ wBack w1 g = wBack w g + am) ∧ (∀ i : Int, 0 ≤ i → i < 3 → wPd w1 (3 * g + i) = wPd w (3 * g + i) ∧ wPa w1 (3 * g + i) = wPa w (3 * g + i) ∧ wPc w1 (3 * g + i) = wPc w (3 * g + i)) ∧ (∀ i : Int, 0 ≤ i → i < wMany w g → wPb w1 (3 * g + i) = nbS w g am i) ∧ ∀ i : Int, wMany w g ≤ i → i < 3 → wPb w1 (3 * g + i) = wPb w (3 * g + i) := by
  have a2 := hw.2.1.2.2.1
  have hgw := hw.2.2.2.2.1 g g0 g1
  have e : ∀ i : Nat, (i : Int) ≠ 353 + g → ¬ (773 + 3 * g ≤ (i : Int) ∧ (i : Int) < 773 + 3 * g + wMany w g) → w1 i = w i := fun i h1 h2 => by rw [h i, if_neg h1, if_neg h2]
  refine ⟨⟨fun i i1 i2 => e i (by omega) (by omega), fun j j0 j1 jg => ?_, fun p p0 p1 pg => ?_, fun i i0 i1 => e i (by omega) (by omega)⟩, e 2 (by omega) (by omega), ?_, fun i i0 i1 => ?_, fun i i0 i1 => ?_, fun i i0 i1 => ?_⟩
  · exact ⟨e _ (by omega) (by omega), e _ (by omega) (by omega), e _ (by omega) (by omega), e _ (by omega) (by omega), e _ (by omega) (by omega)⟩
  · exact ⟨e _ (by omega) (by omega), e _ (by omega) (by omega), e _ (by omega) (by omega), e _ (by omega) (by omega)⟩
  · refine ⟨e _ (by omega) (by omega), e _ (by omega) (by omega), e _ (by omega) (by omega), e _ (by omega) (by omega), ?_⟩
    have : w1 (353 + g).toNat = wBack w g + am := by rw [h, if_pos (by omega)]
    exact this
  · exact ⟨e _ (by omega) (by omega), e _ (by omega) (by omega), e _ (by omega) (by omega)⟩
  · have : w1 (773 + (3 * g + i)).toNat = nbS w g am i := by rw [h, if_neg (by omega), if_pos (by omega), show (((773 + (3 * g + i)).toNat : Nat) : Int) - (773 + 3 * g) = i by omega]
    exact this
  · exact e _ (by omega) (by omega)
theorem nbS_bd {w : Rw} (hw : WF w) {g am i : Int} (g0 : 0 ≤ g) (g1 : g < w 2) (i0 : 0 ≤ i) (i1 : i < wMany w g) : wPb w (3 * g + i) ≤ nbS w g am i ∧ nbS w g am i ≤ wPa w (3 * g + i) := by
  have hs := rfR_step hw (am := am) g0 g1 i0 i1
  have hl : lfS w g i = wPa w (3 * g + i) - wPb w (3 * g + i) := rfl
  have hr0 : 0 ≤ rfR w g am i ∧ 0 ≤ rfR w g am (i + 1) := by unfold rfR; omega
  unfold nbS
  omega
theorem ref_WF {w w1 : Rw} {g am : Int} (h : RefRow w g am w1) (hw : WF w) (g0 : 0 ≤ g) (g1 : g < w 2) (ha0 : 1 ≤ am) (ha : am ≤ wAm w g - wBack w g) : WF w1 := by
  have a2 := hw.2.1.2.2.1
  obtain ⟨hG, e2, ⟨q1, q2, q3, q4, q5⟩, hp, hb, hb2⟩ := ref_at h hw g0 g1
  have hok := gift_ok hw g0 g1
  have hA := hok.1
  have e0 : w1 0 = w 0 := hG.1 0 (by decide) (by decide)
  refine gq_WF hG hw (fun i hi => ?_) g0 (Or.inl ⟨e2, g1⟩) (by rw [e2]; exact a2.2) ⟨by rw [q1, q2, q3, q4, q5]; omega, fun i i0 i1 => ?_, fun i j i0 ij j1 => ?_, fun hm => ?_⟩
  · rw [h i]
    split
    · constructor <;> omega
    · split
      · have := nbS_bd hw (am := am) (i := (i : Int) - (773 + 3 * g)) g0 g1 (by omega) (by omega)
        have := hok.2.1 ((i : Int) - (773 + 3 * g)) (by omega) (by omega)
        constructor <;> omega
      · exact hw.1 i hi
  · rw [q4] at i1
    have x := hp i i0 (by omega)
    have := nbS_bd hw (am := am) g0 g1 i0 i1
    have := hok.2.1 i i0 i1
    rw [x.1, x.2.1, x.2.2, hb i i0 i1, e0]
    omega
  · rw [q4] at j1
    rw [(hp i i0 (by omega)).1, (hp j (by omega) (by omega)).1]
    exact hok.2.2.1 i j i0 ij j1
  · rw [q4] at hm ⊢
    rw [q2, q5]
    have x := hok.2.2.2 hm
    constructor
    · rw [← x.1]
      exact sumN_congr (fun i i0 i1 => (hp i i0 (by omega)).2.1)
    · have e3 : sumN (fun i => wPb w1 (3 * g + i)) (wMany w g).toNat = sumN (fun i => wPb w (3 * g + i) + (rfR w g am (i + 1) - rfR w g am i)) (wMany w g).toNat := sumN_congr (fun i i0 i1 => hb i i0 (by omega))
      have z := rfR_zero hw g0 g1 hm ha
      have tp := rfR_top (w := w) (g := g) (am := am) (by omega)
      rw [e3, sumN_add, x.2, sumN_tele (rfR w g am), show (((wMany w g).toNat : Nat) : Int) = wMany w g by omega, tp, z]
      omega
theorem ref_z {w w1 : Rw} {g am : Int} (h : RefRow w g am w1) (hw : WF w) (g0 : 0 ≤ g) (g1 : g < w 2) (hz : WFz w) : WFz w1 := by
  have a2 := hw.2.1.2.2.1
  obtain ⟨hG, e2, ⟨q1, q2, q3, q4, q5⟩, hp, hb, hb2⟩ := ref_at h hw g0 g1
  intro j i j0 j1 i0 i1
  rw [e2] at j1
  have hgw := hw.2.2.2.2.1 j j0 j1
  by_cases e : j = g
  · subst e
    rw [q4] at i0
    have x := hz j i j0 j1 i0 i1
    rw [hb2 i i0 i1, (hp i (by omega) i1).2.2]
    exact x
  · have x := hG.2.1 j j0 (by omega) e
    rw [x.2.2.2.1] at i0
    have y := hG.2.2.1 (3 * j + i) (by omega) (by omega) (by omega)
    rw [y.2.2.1, y.2.2.2]
    exact hz j i j0 j1 i0 i1
theorem c3_takeBack {V : Sz} {w : Rw} (h : LR0 V w) (hw : WF w) {g am : Int} (g0 : 0 ≤ g) (g1 : g < w 2) (ha0 : 1 ≤ am ∧ am ≤ 999999) {n : Nat} (hn : 100 ≤ n) : TT (f_X3_takeBack n (sv 9 V) g am) (fun V6 => (∀ k : Nat, k ≠ 4 → k ≠ 10 → V6 k = sv 9 V k) ∧ V6 4 = up (sv 9 V 4) g.toNat (wBack w g + am) ∧ (∀ i : Int, 0 ≤ i → i < wMany w g → V6 10 (3 * g + i).toNat = nbS w g am i) ∧ ∀ p : Nat, (p : Int) < 3 * g ∨ 3 * g + wMany w g ≤ (p : Int) → V6 10 p = sv 9 V 10 p) := by
  have a2 := hw.2.1.2.2.1
  have hgw := hw.2.2.2.2.1 g g0 g1
  have hgl := h.2.2.2.1 g g0 g1
  have e4 : sv 9 V 4 g.toNat = wBack w g := hgl.2.2.2.1
  have e5 : sv 9 V 5 g.toNat = wMany w g := hgl.2.2.2.2
  unfold f_X3_takeBack
  rw [e4]
  refine tt_ck ⟨g0, by omega⟩ (tt_nmE (fun V2 e2 => tt_nmE (fun x3 ex3 => ?_)))
  have e25 : V2 5 g.toNat = wMany w g := by rw [e2, uz_ne (by decide)]; exact e5
  rw [e25] at ex3
  refine tt_lp (I := fun z : Int × Int × Sz => (-1 ≤ z.2.1 ∧ z.2.1 < wMany w g) ∧ z.1 = rfR w g am (z.2.1 + 1) ∧ (∀ k : Nat, k ≠ 10 → z.2.2 k = V2 k) ∧ (∀ i : Int, z.2.1 < i → 0 ≤ i → i < wMany w g → z.2.2 10 (3 * g + i).toNat = nbS w g am i) ∧ ∀ p : Nat, (p : Int) ≤ 3 * g + z.2.1 ∨ 3 * g + wMany w g ≤ (p : Int) → z.2.2 10 p = V2 10 p) (μ := fun z => (z.2.1 + 1).toNat) ?_ n (am, x3, V2) ⟨⟨by show -1 ≤ x3; omega, by show x3 < wMany w g; omega⟩, ?_, fun _ _ => rfl, fun i i0 _ i1 => ?_, fun _ _ => rfl⟩ (by show (x3 + 1).toNat < n; omega)
  · rintro ⟨rs, i, V3⟩ rec ⟨⟨i0, i1⟩, er, hk, hb, ho⟩ ih
    simp only at i0 i1 er hk hb ho
    rw [bX3_takeBack_22_e]
    refine tt_ck ⟨by omega, by omega⟩ (tt_ite (fun c => tt_some ⟨fun k k4 k10 => ?_, ?_, fun j j0 j1 => hb j (by omega) j0 j1, fun p hp => ?_⟩) (fun c => ?_))
    · rw [hk k k10, e2, uz_ne k4]
    · rw [hk 4 (by decide), e2, uz_at]
    · rw [ho p (by omega), e2, uz_ne (by decide)]
    · have i00 : 0 ≤ i := by omega
      have hpt := part_of hw g0 g1 i00 i1
      have hs := rfR_step hw (am := am) g0 g1 i00 i1
      have hpw := hw.2.2.2.2.2.1 g i g0 g1 i00 i1
      have hpl := h.2.2.2.2.1 _ hpt.1.1 hpt.1.2 (part_B hw g0 g1 i00 i1)
      refine tt_nmE (fun x5 ex5 => ?_)
      have ex5 : x5 = 3 * g + i := by omega
      subst ex5
      have e9 : V3 9 (3 * g + i).toNat = wPa w (3 * g + i) := by rw [hk 9 (by decide), e2, uz_ne (by decide)]; exact hpl.2.1
      have e10 : V3 10 (3 * g + i).toNat = wPb w (3 * g + i) := by rw [ho _ (by omega), e2, uz_ne (by decide)]; exact hpl.2.2.1
      have el : f_X3_leftOfPart V3 (3 * g + i) = some (lfS w g i) := by
        unfold f_X3_leftOfPart
        rw [e9, e10, ck_t ⟨by omega, by omega⟩]; rfl
      rw [el, bd_s]
      have hr1 : 0 ≤ rs ∧ rs ≤ 999999 := by
        rw [er]
        have hsum : sumN (lfS w g) (i + 1).toNat ≤ sumN (lfS w g) (wMany w g).toNat := by
          obtain ⟨k, hk2⟩ := Nat.le.dest (show (i + 1).toNat ≤ (wMany w g).toNat by omega)
          rw [← hk2, sumN_app]
          have : 0 ≤ sumN (fun j => lfS w g (((i + 1).toNat : Int) + j)) k := sumN_nonneg (fun j j0 j1 => (rfR_step hw (am := am) g0 g1 (by omega) (by omega)).2.1)
          omega
        unfold rfR
        omega
      refine tt_ck ⟨⟨by omega, by omega⟩, ⟨by omega, by omega⟩⟩ (tt_nmE (fun x8 ex8 => ?_))
      rw [er] at ex8
      rw [hs.1] at ex8
      refine tt_ck ⟨by omega, by omega⟩ (tt_nm (tt_nm (tt_nm ?_)))
      rw [e10]
      refine ih (rs - x8, i + (-1), uz V3 10 (3 * g + i).toNat (wPb w (3 * g + i) + x8)) ⟨⟨by show -1 ≤ i + (-1); omega, by show i + (-1) < wMany w g; omega⟩, ?_, fun k k10 => ?_, fun j j0 j2 j1 => ?_, fun p hp => ?_⟩ (by show (i + (-1) + 1).toNat < (i + 1).toNat; omega)
      · show rs - x8 = rfR w g am (i + (-1) + 1)
        rw [show i + (-1) + 1 = i by omega]; omega
      · show uz V3 10 _ _ k = V2 k
        rw [uz_ne k10]; exact hk k k10
      · have j0 : i + (-1) < j := j0
        show uz V3 10 (3 * g + i).toNat (wPb w (3 * g + i) + x8) 10 (3 * g + j).toNat = _
        rw [uz_at, up_if]
        by_cases e : j = i
        · rw [if_pos (by omega), e, ex8]; rfl
        · rw [if_neg (by omega)]; exact hb j (by omega) j2 j1
      · have hp : (p : Int) ≤ 3 * g + (i + (-1)) ∨ 3 * g + wMany w g ≤ (p : Int) := hp
        show uz V3 10 (3 * g + i).toNat (wPb w (3 * g + i) + x8) 10 p = _
        rw [uz_at, up_ne (by omega)]; exact ho p (by omega)
  · show am = rfR w g am (x3 + 1)
    rw [show x3 + 1 = wMany w g by omega, rfR_top (by omega)]
  · have i0 : x3 < i := i0
    omega
theorem ag_refund {V X : Sz} {PV : Nat → Sz} {K : Nat} {V8 : Sz} (h : Rel V PV K V8) {n : Nat} (hn : 20000 < n) {g am : Int} (hg : rng g) (ham : rng am) : TT (f_X8_refund n V8 g am) (Chg cdC V PV K (f_X7_refund n V X PV K g am)) := by
  have hL := h.1
  have hw := hL.2.2.1
  have h30 := hL.2.2.2
  have a2 := hw.2.1.2.2.1
  unfold f_X8_refund
  refine tt_bd (x8_noGift hw hg) (fun ⟨r1, V1⟩ hr => ref_t hr (fun ok hT => ?_) (fun no hT => tt_some (chg_no (e := 0) h ?_ hT rfl (by decide))))
  · have e10 : V1 0 = V8 0 := hT.2 0 (by decide)
    have hgw := hw.2.2.2.2.1 g ok.1 ok.2
    have hlf : f_X3_leftOf (sv 13 V) g = some (wAm (V8 0) g - wBack (V8 0) g) := c3_leftOf (V := sv 4 V) hL.1 hw ok.1 ok.2
    refine rg_t ham ⟨by decide, by decide⟩ ⟨by decide, by decide⟩ (fun c => ?_) (fun c => ?_)
    · unfold jX8_refund_24
      refine f0_t (tt_f (by decide) ?_)
      rw [x8_leftOfGift (V := V1) ok.1 (by omega), bd_s, e10]
      refine tt_ck ⟨⟨by omega, by omega⟩, ham⟩ (tt_ite (fun c2 => ?_) (fun c2 => ?_))
      · unfold jX8_refund_46
        refine f0_t (tt_t rfl (tt_bd (remember_both (h.thr hT) hn) (fun V5 ⟨hk5, Va, PVa, Ka, ea, hka, hPa⟩ => ?_)))
        have e50 : V5 0 = V8 0 := (hk5 0 (by decide) (by decide)).trans (hT.2 0 (by decide))
        refine tt_ck ⟨by omega, by omega⟩ (tt_nmE (fun x12 ex12 => ?_))
        have ex12 : x12 = wMany (V8 0) g - 1 := by rw [ex12, e50]; rfl
        -- what both have in common
        have fin : ∀ V15 : Sz, RefRow (V8 0) g am (V15 0) → (∀ k : Nat, k ≠ 0 → V15 k = V5 k) → Chg cdC V PV K (f_X7_refund n V X PV K g am) (wAm (V15 0) g - wBack (V15 0) g, V15) := by
          intro V15 hR hk15
          have hw1 := ref_WF hR hw ok.1 ok.2 c.1 c2
          obtain ⟨hG, e2, ⟨q1, q2, q3, q4, q5⟩, hp, hb, hb2⟩ := ref_at hR hw ok.1 ok.2
          have h301 : V15 0 1 ≤ 30 := by rw [hG.1 1 (by decide) (by decide)]; exact h30
          have eav : ∀ k : Nat, k < 86 → Va k = V k := fun k hk => hka k (by omega) (by omega)
          have hLa : LR (sv 4 Va) (V8 0) := LR.copy (cop_at (fun k hk => eav _ (by omega))) hL
          have hx7 : TT (f_X7_refund n V X PV K g am) (fun y => ∃ V2, y = .inl (wAm (V15 0) g - wBack (V15 0) g, V2, PVa, Ka) ∧ LR (sv 4 V2) (V15 0) ∧ ∀ k : Nat, k < 4 ∨ 31 ≤ k → V2 k = Va k) := by
            unfold f_X7_refund
            rw [x7_giftY hL hg ok, bx_l, x7_rangeY ham ⟨by decide, by decide⟩ ⟨by decide, by decide⟩ c, bx_l, hlf, bd_s]
            refine tt_ck ⟨⟨by omega, by omega⟩, ham⟩ (tt_t c2 ?_)
            rw [ea, bd_s]
            refine tt_bl (tt_bd (c3_takeBack (V := sv 4 Va) hLa.1 hw ok.1 ok.2 c (by omega)) (fun V6 ⟨k1, k4, k10, k10o⟩ => tt_nmE (fun Vc ec => ?_)))
            have cin : ∀ k : Nat, k < 12 → Vc (k + 13) = V6 k := fun k hk => by
              rw [ec]
              unfold sw
              rw [if_pos ⟨by omega, by omega⟩]
              congr 1
            have cout : ∀ k : Nat, k < 13 ∨ 25 ≤ k → Vc k = Va k := fun k hk => by rw [ec, sw_out (by omega)]
            have cin2 : ∀ k : Nat, k < 12 → k ≠ 4 → k ≠ 10 → Vc (k + 13) = Va (k + 13) := fun k hk k4' k10' => by rw [cin k hk, k1 k k4' k10']; rfl
            have c17 : Vc 17 = up (Va 17) g.toNat (wBack (V8 0) g + am) := by rw [cin 4 (by decide), k4]; rfl
            have hgl := hLa.1.2.2.2.1 g ok.1 ok.2
            have hL0 : LR0 (sv 4 Vc) (V15 0) := by
              refine gq_LR0 (V := sv 4 Va) hLa.1 hw hG ok.1 (Or.inl ⟨e2, ok.2⟩) (by rw [e2]; exact a2.2) (fun k hk k22 => ?_) ?_ (fun j j0 j1 jg => ?_) (fun p p0 p1 pg => ?_) (fun i hi => ?_) ?_ (fun i i0 i1 i3 => ?_)
              · show Vc (k + 4) = Va (k + 4)
                exact cout _ (by omega)
              · show Vc 13 0 = _
                rw [cin2 0 (by decide) (by decide) (by decide), e2]
                exact hLa.at.2.2.2.2.2.1
              · show Vc 14 j.toNat = Va 14 j.toNat ∧ Vc 15 j.toNat = Va 15 j.toNat ∧ Vc 16 j.toNat = Va 16 j.toNat ∧ Vc 17 j.toNat = Va 17 j.toNat ∧ Vc 18 j.toNat = Va 18 j.toNat
                rw [cin2 1 (by decide) (by decide) (by decide), cin2 2 (by decide) (by decide) (by decide), cin2 3 (by decide) (by decide) (by decide), cin2 5 (by decide) (by decide) (by decide), c17, up_ne (by omega)]
                exact ⟨rfl, rfl, rfl, rfl, rfl⟩
              · show Vc 20 p.toNat = Va 20 p.toNat ∧ Vc 22 p.toNat = Va 22 p.toNat ∧ Vc 23 p.toNat = Va 23 p.toNat ∧ Vc 24 p.toNat = Va 24 p.toNat
                rw [cin2 7 (by decide) (by decide) (by decide), cin2 9 (by decide) (by decide) (by decide), cin2 11 (by decide) (by decide) (by decide), cin 10 (by decide), k10o p.toNat (by omega)]
                exact ⟨rfl, rfl, rfl, rfl⟩
              · rw [e2] at hi
                show Vc 19 i = _
                rw [cin2 6 (by decide) (by decide) (by decide), ordS_same a2.1 e2 (fun j j0 j1 => by
                  by_cases e : j = g
                  · rw [e]; exact q1
                  · exact (hG.2.1 j j0 (by omega) e).1) hi]
                exact hLa.1.2.2.2.2.2.1 i hi
              · show Vc 14 g.toNat = _ ∧ Vc 15 g.toNat = _ ∧ Vc 16 g.toNat = _ ∧ Vc 17 g.toNat = _ ∧ Vc 18 g.toNat = _
                rw [cin2 1 (by decide) (by decide) (by decide), cin2 2 (by decide) (by decide) (by decide), cin2 3 (by decide) (by decide) (by decide), cin2 5 (by decide) (by decide) (by decide), c17, up_at, q1, q2, q3, q4, q5]
                exact ⟨hgl.1, hgl.2.1, hgl.2.2.1, rfl, hgl.2.2.2.2⟩
              · rw [q4] at i1
                have x := hp i i0 i3
                have hpt := part_of hw ok.1 ok.2 i0 i1
                have hpl := hLa.1.2.2.2.2.1 _ hpt.1.1 hpt.1.2 (part_B hw ok.1 ok.2 i0 i1)
                show Vc 20 (3 * g + i).toNat = _ ∧ Vc 22 (3 * g + i).toNat = _ ∧ Vc 23 (3 * g + i).toNat = _ ∧ Vc 24 (3 * g + i).toNat = _
                rw [cin2 7 (by decide) (by decide) (by decide), cin2 9 (by decide) (by decide) (by decide), cin2 11 (by decide) (by decide) (by decide), cin 10 (by decide), k10 i i0 i1, x.1, x.2.1, x.2.2, hb i i0 i1]
                exact ⟨hpl.1, hpl.2.1, rfl, hpl.2.2.2⟩
            refine tt_bd (c4_settle hL0 hw1 h301 (by omega)) (fun Vs ⟨hks, hvs⟩ => tt_nmE (fun Vd ed => ?_))
            have hst := settle_LR hL0 hw1 h301 hks hvs
            rw [← ed] at hst
            rw [show f_X3_leftOf (sv 13 Vd) g = some (wAm (V15 0) g - wBack (V15 0) g) from c3_leftOf (V := sv 4 Vd) hst.1.1 hw1 ok.1 (by rw [e2]; exact ok.2), bd_s]
            refine tt_some ⟨Vd, rfl, hst.1, fun k hk => ?_⟩
            rw [hst.2 k hk, cout k (by omega)]
          obtain ⟨y, ey, V2, rfl, hL2, hk2⟩ := hx7
          exact chg_yes h hT hk5 hPa hka (fun k k0 _ => hk15 k k0) hk2 hL2 (ref_z hR hw ok.1 ok.2 h.z) ey
        refine tt_lp (I := fun z : Int × Int × Sz => (-1 ≤ z.2.1 ∧ z.2.1 < wMany (V8 0) g) ∧ z.1 = rfR (V8 0) g am (z.2.1 + 1) ∧ (∀ k : Nat, k ≠ 0 → z.2.2 k = V5 k) ∧ ∀ i : Nat, z.2.2 0 i = if 773 + 3 * g + z.2.1 < (i : Int) ∧ (i : Int) < 773 + 3 * g + wMany (V8 0) g then nbS (V8 0) g am ((i : Int) - (773 + 3 * g)) else V8 0 i) (μ := fun z => (z.2.1 + 1).toNat) ?_ n (am, x12, V5) ⟨⟨by show -1 ≤ x12; omega, by show x12 < wMany (V8 0) g; omega⟩, ?_, fun _ _ => rfl, fun i => ?_⟩ (by show (x12 + 1).toNat < n; omega)
        · rintro ⟨rs, i, V6⟩ rec ⟨⟨i0, i1⟩, er, hk, hT6⟩ ih
          simp only at i0 i1 er hk hT6
          rw [bX8_refund_75_e]
          refine tt_ck ⟨by omega, by omega⟩ (tt_ite (fun c3 => tt_ck ⟨by omega, by omega⟩ (tt_nmE (fun V15 e15 => ?_))) (fun c3 => ?_))
          · have hb : V6 0 (353 + g).toNat = wBack (V8 0) g := by rw [hT6, if_neg (by omega)]; rfl
            have hR : RefRow (V8 0) g am (V15 0) := by
              intro k
              rw [e15, uz_at, up_if, hb, hT6 k]
              by_cases e1 : k = (353 + g).toNat
              · rw [if_pos e1, if_pos (by omega)]
              · rw [if_neg e1, if_neg (show ¬ (k : Int) = 353 + g by omega)]
                by_cases e2 : 773 + 3 * g + i < (k : Int) ∧ (k : Int) < 773 + 3 * g + wMany (V8 0) g
                · rw [if_pos e2, if_pos (by omega)]
                · rw [if_neg e2, if_neg (by omega)]
            rw [x8_leftOfGift (V := V15) ok.1 (by omega), bd_s]
            exact tt_some (fin V15 hR (fun k k0 => by rw [e15, uz_ne k0]; exact hk k k0))
          · have i00 : 0 ≤ i := by omega
            have hpt := part_of hw ok.1 ok.2 i00 i1
            have hs := rfR_step hw (am := am) ok.1 ok.2 i00 i1
            have hpw := hw.2.2.2.2.2.1 g i ok.1 ok.2 i00 i1
            obtain ⟨p, ep⟩ : ∃ p, p = 3 * g + i := ⟨_, rfl⟩
            have e9 : V6 0 (593 + p).toNat = wPa (V8 0) (3 * g + i) := by rw [hT6, if_neg (by omega), ep]; rfl
            have e10 : V6 0 (773 + p).toNat = wPb (V8 0) (3 * g + i) := by rw [hT6, if_neg (by omega), ep]; rfl
            have el : f_X8_leftOf V6 p = some (lfS (V8 0) g i) := by
              unfold f_X8_leftOf
              rw [e9, e10, ck_t ⟨by omega, by omega⟩, ck_t ⟨by omega, by omega⟩]; rfl
            rw [x8_partOf, bd_s, ← ep, el, bd_s]
            have hr1 : 0 ≤ rs ∧ rs ≤ 999999 := by
              rw [er]
              have hsum : sumN (lfS (V8 0) g) (i + 1).toNat ≤ sumN (lfS (V8 0) g) (wMany (V8 0) g).toNat := by
                obtain ⟨k, hk2⟩ := Nat.le.dest (show (i + 1).toNat ≤ (wMany (V8 0) g).toNat by omega)
                rw [← hk2, sumN_app]
                have : 0 ≤ sumN (fun j => lfS (V8 0) g (((i + 1).toNat : Int) + j)) k := sumN_nonneg (fun j j0 j1 => (rfR_step hw (am := am) ok.1 ok.2 (by omega) (by omega)).2.1)
                omega
              unfold rfR
              omega
            refine tt_ck ⟨⟨by omega, by omega⟩, ⟨by omega, by omega⟩⟩ (tt_nmE (fun x20 ex20 => ?_))
            rw [er] at ex20
            rw [hs.1] at ex20
            refine tt_ck ⟨by omega, by omega⟩ (tt_nm (tt_nm (tt_nm ?_)))
            rw [e10]
            refine ih (rs - x20, i + (-1), uz V6 0 (773 + p).toNat (wPb (V8 0) (3 * g + i) + x20)) ⟨⟨by show -1 ≤ i + (-1); omega, by show i + (-1) < wMany (V8 0) g; omega⟩, ?_, fun k k0 => ?_, fun k => ?_⟩ (by show (i + (-1) + 1).toNat < (i + 1).toNat; omega)
            · show rs - x20 = rfR (V8 0) g am (i + (-1) + 1)
              rw [show i + (-1) + 1 = i by omega]; omega
            · show uz V6 0 _ _ k = V5 k
              rw [uz_ne k0]; exact hk k k0
            · show uz V6 0 (773 + p).toNat (wPb (V8 0) (3 * g + i) + x20) 0 k = if 773 + 3 * g + (i + (-1)) < (k : Int) ∧ (k : Int) < 773 + 3 * g + wMany (V8 0) g then nbS (V8 0) g am ((k : Int) - (773 + 3 * g)) else V8 0 k
              rw [uz_at, up_if]
              by_cases e : k = (773 + p).toNat
              · rw [if_pos e, if_pos (by omega), show (k : Int) - (773 + 3 * g) = i by omega, ex20]; rfl
              · rw [if_neg e, hT6 k]
                by_cases e2 : 773 + 3 * g + i < (k : Int) ∧ (k : Int) < 773 + 3 * g + wMany (V8 0) g
                · rw [if_pos e2, if_pos (by omega)]
                · rw [if_neg e2, if_neg (by omega)]
        · show am = rfR (V8 0) g am (x12 + 1)
          rw [show x12 + 1 = wMany (V8 0) g by omega, rfR_top (by omega)]
        · show V5 0 i = if 773 + 3 * g + x12 < (i : Int) ∧ (i : Int) < 773 + 3 * g + wMany (V8 0) g then nbS (V8 0) g am ((i : Int) - (773 + 3 * g)) else V8 0 i
          rw [if_neg (by omega), e50]
      · unfold jX8_refund_46
        refine f1_t (tt_f (by decide) (tt_some (chg_no (e := 2) h ?_ (hT.trans (Thr.zero V1 3)) rfl (by decide))))
        unfold f_X7_refund
        rw [x7_giftY hL hg ok, bx_l, x7_rangeY ham ⟨by decide, by decide⟩ ⟨by decide, by decide⟩ c, bx_l, hlf, bd_s, ck_t ⟨⟨by omega, by omega⟩, ham⟩, if_neg c2]
    · unfold jX8_refund_24
      refine f1_t (tt_t rfl (tt_some (chg_no (e := 1) h ?_ (hT.trans (Thr.zero V1 2)) rfl (by decide))))
      unfold f_X7_refund
      rw [x7_giftY hL hg ok, bx_l, x7_rangeN ham ⟨by decide, by decide⟩ ⟨by decide, by decide⟩ c]; rfl
  · unfold f_X7_refund
    rw [x7_giftN hL hg no]; rfl
