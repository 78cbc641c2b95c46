/-! the reference's printout -/
theorem x8_write {V0 : Sz} {s : Ob} {b : Int} (h0 : V0 30 = s.1) (h1 : V0 31 0 = s.2) (hl : 0 ≤ s.2 ∧ s.2 < 1400) : TT (f_X8_write V0 b) (fun V => V 30 = (pb b s).1 ∧ V 31 0 = (pb b s).2 ∧ ∀ k : Nat, k ≠ 30 → k ≠ 31 → V k = V0 k) := by
  unfold f_X8_write
  rw [h1]
  refine tt_ck ⟨hl.1, hl.2⟩ (tt_nmE (fun V2 e2 => tt_nmE (fun V3 e3 => tt_some ⟨?_, ?_, fun k k30 k31 => ?_⟩)))
  · rw [e3, us_ne (by decide), e2, uz_at, h0]; rfl
  · rw [e3, us_at, e2, uz_ne (by decide), h1]; rfl
  · rw [e3, us_ne k31, e2, uz_ne k30]
theorem x8_writeNumber {V0 : Sz} {s : Ob} {v : Int} (h0 : V0 30 = s.1) (h1 : V0 31 0 = s.2) (hl : 0 ≤ s.2 ∧ s.2 + 6 ≤ 1400) (hv : 0 ≤ v ∧ v ≤ 999999) {n : Nat} (hn : 100 ≤ n) : TT (f_X8_writeNumber n V0 v) (fun V => V 30 = (FS v 5 s).1 ∧ V 31 0 = (FS v 5 s).2 ∧ ∀ k : Nat, k ≠ 30 → k ≠ 31 → V k = V0 k) := by
  unfold f_X8_writeNumber
  refine tt_lp (I := fun z : Int × Sz => z.2 = V0 ∧ ∃ k : Nat, k ≤ 5 ∧ z.1 = pw k ∧ (k = 0 ∨ pw k ≤ v)) (μ := fun z => 7 - uM z.1) ?_ n (1, V0) ⟨rfl, 0, by decide, rfl, Or.inl rfl⟩ (by show 7 - uM 1 < n; omega)
  rintro ⟨u, V⟩ rec ⟨eV, k, hk, eu, hkv⟩ ih
  have eV : V = V0 := eV
  have eu : u = pw k := eu
  subst eV eu
  have hp := pw_pos k
  have hq := pw_le k hk
  have hd0 : 0 ≤ v / pw k := Int.ediv_nonneg hv.1 (by omega)
  have hd1 : v / pw k ≤ v := Int.ediv_le_self _ hv.1
  have hdm : pw k * (v / pw k) + v % pw k = v := Int.mul_ediv_add_emod v (pw k)
  have hmod := Int.emod_lt_of_pos v (show 0 < pw k by omega)
  have hmod0 := Int.emod_nonneg v (show pw k ≠ 0 by omega)
  rw [bX8_writeNumber_2_e]
  refine tt_ck ⟨hv.1, by omega, by omega, by omega⟩ (tt_ck ⟨by omega, by omega⟩ (tt_ite (fun c => ?_) (fun c => ?_)))
  · -- the first unit is found
    have hlt : v < pw (k + 1) := by
      have : pw k * (v / pw k) ≤ pw k * 9 := Int.mul_le_mul_of_nonneg_left c (by omega)
      show v < 10 * pw k
      omega
    have eF : FS v k s = FS v 5 s := by
      have := FS_top (v := v) (5 - k) k hlt s
      rw [← this, show k + (5 - k) = 5 by omega]
    refine tt_lp (I := fun z : Int × Sz => (∀ j : Nat, j ≠ 30 → j ≠ 31 → z.2 j = V j) ∧ ((z.1 = 0 ∧ z.2 30 = (FS v 5 s).1 ∧ z.2 31 0 = (FS v 5 s).2) ∨ ∃ (k : Nat) (t : Ob), k ≤ 5 ∧ z.1 = pw k ∧ (k = 0 ∨ pw k ≤ v) ∧ z.2 30 = t.1 ∧ z.2 31 0 = t.2 ∧ FS v k t = FS v 5 s ∧ 0 ≤ t.2 ∧ t.2 + (k : Int) + 1 ≤ 1400)) (μ := fun z => uM z.1) ?_ n (pw k, V) ⟨fun _ _ _ => rfl, Or.inr ⟨k, s, hk, rfl, hkv, h0, h1, eF, hl.1, by omega⟩⟩ (by show uM (pw k) < n; rw [uM_pw k hk]; omega)
    rintro ⟨u, Va⟩ rec2 ⟨hkeep, hI⟩ ih2
    simp only at hkeep
    rw [bX8_writeNumber_18_e]
    rcases hI with ⟨e1, e2, e3⟩ | ⟨k, t, hk, eu, hkv, e2, e3, eF, t0, hroom⟩
    · have e1 : u = 0 := e1
      rw [e1]
      exact tt_ck ⟨by decide, by decide⟩ (tt_t (by decide) (tt_some ⟨e2, e3, hkeep⟩))
    · have eu : u = pw k := eu
      have e2 : Va 30 = t.1 := e2
      have e3 : Va 31 0 = t.2 := e3
      have hp := pw_pos k
      have hq := pw_le k hk
      have hd0 : 0 ≤ v / pw k := Int.ediv_nonneg hv.1 (by omega)
      have hd1 : v / pw k ≤ v := Int.ediv_le_self _ hv.1
      rw [eu]
      refine tt_ck ⟨by omega, by omega⟩ (tt_f (by omega) (tt_ck ⟨hv.1, by omega, by omega, by omega⟩ (tt_ck ⟨hd0, by omega⟩ (tt_bd (x8_write e2 e3 ⟨t0, by omega⟩) (fun V6 ⟨w0, w1, w2⟩ => tt_ck ⟨by omega, by omega⟩ (tt_nm ?_))))))
      have et1 : stD v (pw k) t = pb (48 + v / pw k % 10) t := by
        unfold stD
        refine if_pos ?_
        rcases hkv with q | q
        · left; rw [q]; rfl
        · exact Or.inr q
      rw [← et1] at w0 w1
      have hkp : ∀ j : Nat, j ≠ 30 → j ≠ 31 → V6 j = V j := fun j j0 j1 => (w2 j j0 j1).trans (hkeep j j0 j1)
      cases k with
      | zero =>
        exact ih2 (pw 0 / 10, V6) ⟨hkp, Or.inl ⟨by show pw 0 / 10 = 0; decide, by rw [← eF]; exact w0, by rw [← eF]; exact w1⟩⟩ (by show uM (pw 0 / 10) < uM u; rw [eu]; decide)
      | succ k =>
        have hlen := stD_len v (pw (k + 1)) t
        have hp2 := pw_pos k
        have ek : pw (k + 1) = 10 * pw k := rfl
        rw [pw_div]
        refine ih2 (pw k, V6) ⟨hkp, Or.inr ⟨k, stD v (pw (k + 1)) t, by omega, rfl, ?_, w0, w1, by rw [← eF]; rfl, by omega, ?_⟩⟩ (by show uM (pw k) < uM u; rw [eu, uM_pw k (by omega), uM_pw (k + 1) hk]; omega)
        · right
          rcases hkv with q | q <;> omega
        · have : ((k + 1 : Nat) : Int) = (k : Int) + 1 := by omega
          omega
  · -- a greater unit
    have hge : 10 * pw k ≤ v := by
      have : pw k * 10 ≤ pw k * (v / pw k) := Int.mul_le_mul_of_nonneg_left (by omega) (by omega)
      omega
    have hk5 : k < 5 := by
      have hc : k < 5 ∨ k = 5 := by omega
      rcases hc with q | q
      · exact q
      · subst q
        have : pw 5 = 100000 := rfl
        omega
    have e10 : pw k * 10 = pw (k + 1) := by show pw k * 10 = 10 * pw k; omega
    rw [e10]
    refine tt_nm (ih (pw (k + 1), V) ⟨rfl, k + 1, by omega, rfl, Or.inr hge⟩ (by show 7 - uM (pw (k + 1)) < 7 - uM (pw k); rw [uM_pw k hk, uM_pw (k + 1) (by omega)]; omega))
/-! both, in their states -/
def CSt (V0 V : Sz) (s : Ob) : Prop := V 99 = s.1 ∧ V 100 0 = s.2 ∧ ∀ k : Nat, k < 99 ∨ 100 < k → V k = V0 k
def MSt (V0 V : Sz) (s : Ob) : Prop := V 30 = s.1 ∧ V 31 0 = s.2 ∧ ∀ k : Nat, k ≠ 30 → k ≠ 31 → V k = V0 k
theorem cst_sw {V0 V G : Sz} {s t : Ob} (h : CSt V0 V s) (g0 : G 0 = t.1) (g1 : G 1 0 = t.2) : CSt V0 (sw 99 2 V G) t := ⟨g0, g1, fun k hk => (sw_out (by omega)).trans (h.2.2 k hk)⟩
theorem cst_b {α : Type} {V0 V : Sz} {s : Ob} {b : Int} {k : Sz → Option α} {P : α → Prop} (h : CSt V0 V s) (hl : 0 ≤ s.2 ∧ s.2 < 1140) (hb : 0 ≤ b ∧ b ≤ 127) (hk : ∀ V1, CSt V0 V1 (pb b s) → TT (k V1) P) : TT (bd (f_X5_putByte (sv 99 V) b) fun (G : Sz) => nm (sw 99 2 V G) k) P :=
  tt_bd (c5_putByte (V0 := sv 99 V) h.1 h.2.1 hl hb) (fun _ hG => tt_nm (hk _ (cst_sw h hG.1 hG.2)))
theorem cst_n {α : Type} {V0 V : Sz} {s : Ob} {v : Int} {n : Nat} {k : Sz → Option α} {P : α → Prop} (h : CSt V0 V s) (hn : 100 ≤ n) (hl : 0 ≤ s.2 ∧ s.2 + 6 ≤ 1140) (hv : 0 ≤ v ∧ v ≤ 999999) (hk : ∀ V1, CSt V0 V1 (FS v 5 s) → TT (k V1) P) : TT (bd (f_X5_putNumber n (sv 99 V) v) fun (G : Sz) => nm (sw 99 2 V G) k) P :=
  tt_bd (c5_putNumber (V0 := sv 99 V) h.1 h.2.1 hl hv hn) (fun _ hG => tt_nm (hk _ (cst_sw h hG.1 hG.2)))
theorem mst_b {α : Type} {V0 V : Sz} {s : Ob} {b : Int} {k : Sz → Option α} {P : α → Prop} (h : MSt V0 V s) (hl : 0 ≤ s.2 ∧ s.2 < 1140) (hk : ∀ V1, MSt V0 V1 (pb b s) → TT (k V1) P) : TT (bd (f_X8_write V b) k) P :=
  tt_bd (x8_write h.1 h.2.1 (by omega)) (fun V1 hV => hk V1 ⟨hV.1, hV.2.1, fun j j0 j1 => (hV.2.2 j j0 j1).trans (h.2.2 j j0 j1)⟩)
theorem mst_n {α : Type} {V0 V : Sz} {s : Ob} {v : Int} {n : Nat} {k : Sz → Option α} {P : α → Prop} (h : MSt V0 V s) (hn : 100 ≤ n) (hl : 0 ≤ s.2 ∧ s.2 + 6 ≤ 1140) (hv : 0 ≤ v ∧ v ≤ 999999) (hk : ∀ V1, MSt V0 V1 (FS v 5 s) → TT (k V1) P) : TT (bd (f_X8_writeNumber n V v) k) P :=
  tt_bd (x8_writeNumber h.1 h.2.1 (by omega) hv hn) (fun V1 hV => hk V1 ⟨hV.1, hV.2.1, fun j j0 j1 => (hV.2.2 j j0 j1).trans (h.2.2 j j0 j1)⟩)
/-- the lengths within a line -/
theorem line_lens {w : Rw} (hw : WF w) {p : Int} (p0 : 0 ≤ p) (hb : partB w p = true) {s : Ob} (hs : 0 ≤ s.2 ∧ s.2 ≤ 1121) : (0 ≤ (FS (wDay w (p / 3)) 5 s).2 ∧ (FS (wDay w (p / 3)) 5 s).2 ≤ 1125) ∧ (0 ≤ (FS (leftS w p) 5 (pb 58 (FS (wDay w (p / 3)) 5 s))).2 ∧ (FS (leftS w p) 5 (pb 58 (FS (wDay w (p / 3)) 5 s))).2 ≤ 1132) ∧ (0 ≤ (FS (aidS w p) 5 (pb 43 (FS (leftS w p) 5 (pb 58 (FS (wDay w (p / 3)) 5 s))))).2 ∧ (FS (aidS w p) 5 (pb 43 (FS (leftS w p) 5 (pb 58 (FS (wDay w (p / 3)) 5 s))))).2 ≤ 1139) := by
  have hsp := part_split p0 hb
  have hgw := hw.2.2.2.2.1 _ hsp.1 hsp.2.1
  have ed : FS (wDay w (p / 3)) 5 s = FS (wDay w (p / 3)) 3 s := FS_top 2 3 (by show wDay w (p / 3) < 10000; omega) s
  have h1 := FS_len (wDay w (p / 3)) 3 s
  rw [← ed] at h1
  have h2 := FS_len (leftS w p) 5 (pb 58 (FS (wDay w (p / 3)) 5 s))
  have h3 := FS_len (aidS w p) 5 (pb 43 (FS (leftS w p) 5 (pb 58 (FS (wDay w (p / 3)) 5 s))))
  have e1 : (pb 58 (FS (wDay w (p / 3)) 5 s)).2 = (FS (wDay w (p / 3)) 5 s).2 + 1 := rfl
  have e2 : (pb 43 (FS (leftS w p) 5 (pb 58 (FS (wDay w (p / 3)) 5 s)))).2 = (FS (leftS w p) 5 (pb 58 (FS (wDay w (p / 3)) 5 s))).2 + 1 := rfl
  omega
theorem out_pos {w : Rw} {d q : Int} {s : Ob} (q0 : 0 ≤ q) (h : lnB w d q = true) : outS w d s (q + 1).toNat = lineS w q (outS w d s q.toNat) := by
  rw [show (q + 1).toNat = q.toNat + 1 by omega]
  show (if lnB w d ((q.toNat : Nat) : Int) = true then lineS w ((q.toNat : Nat) : Int) (outS w d s q.toNat) else _) = _
  rw [show ((q.toNat : Nat) : Int) = q by omega, if_pos h]
theorem out_neg {w : Rw} {d q : Int} {s : Ob} (q0 : 0 ≤ q) (h : lnB w d q = false) : outS w d s (q + 1).toNat = outS w d s q.toNat := by
  rw [show (q + 1).toNat = q.toNat + 1 by omega]
  show (if lnB w d ((q.toNat : Nat) : Int) = true then _ else outS w d s q.toNat) = _
  rw [show ((q.toNat : Nat) : Int) = q by omega, if_neg (by rw [h]; decide)]
/-- the relation, where neither the ledgers nor what is remembered change -/
theorem Rel.rest {V V1 : Sz} {PV : Nat → Sz} {K : Nat} {V8 V9 : Sz} (h : Rel V PV K V8) (h7 : ∀ k : Nat, (4 ≤ k ∧ k < 31) ∨ (58 ≤ k ∧ k < 88) → V1 k = V k) (h8 : ∀ k : Nat, k = 0 ∨ k = 2 ∨ k = 4 ∨ k = 5 ∨ k = 6 → V9 k = V8 k) (hI : RelI V1 V9) (hE : RelE V1 V9) (hO : RelO V1 V9) : Rel V1 PV K V9 := by
  obtain ⟨h1, h2, h3, -, -, -, hz⟩ := h
  have cp : ∀ (o : Nat), (∀ k : Nat, k ≤ 25 → V1 (k + o) = V (k + o)) → CopL (sv o V1) (sv o V) := by
    intro o hk
    unfold CopL sv
    rw [hk 0 (by decide), hk 1 (by decide), hk 2 (by decide), hk 3 (by decide), hk 4 (by decide), hk 5 (by decide), hk 6 (by decide), hk 7 (by decide), hk 8 (by decide), hk 9 (by decide), hk 10 (by decide), hk 11 (by decide), hk 12 (by decide), hk 13 (by decide), hk 14 (by decide), hk 15 (by decide), hk 16 (by decide), hk 17 (by decide), hk 18 (by decide), hk 19 (by decide), hk 20 (by decide), hk 21 (by decide), hk 22 (by decide), hk 23 (by decide), hk 24 (by decide), hk 25 (by decide)]
    exact ⟨⟨rfl, rfl, rfl, rfl, rfl, rfl, rfl⟩, fun _ _ => rfl, fun _ _ => ⟨rfl, rfl, rfl⟩, fun _ _ => ⟨rfl, rfl, rfl, rfl, rfl, rfl⟩, fun _ _ => ⟨rfl, rfl, rfl, rfl, rfl⟩, fun _ _ => rfl, fun _ _ => ⟨rfl, rfl, rfl⟩⟩
  refine ⟨?_, ?_, ?_, hI, hE, hO, ?_⟩
  · rw [h8 0 (by decide)]
    exact LR.copy (cp 4 (fun k hk => h7 _ (by omega))) h1
  · unfold RelS at *
    rw [h7 85 (by decide), h8 6 (by decide), h8 2 (by decide)]
    refine ⟨h2.1, ?_⟩
    rcases h2.2 with q | ⟨q1, q2⟩
    · exact Or.inl q
    · exact Or.inr ⟨q1, LR.copy (cp 58 (fun k hk => h7 _ (by omega))) q2⟩
  · unfold RelP at *
    rw [h7 86 (by decide), h7 87 (by decide), h8 5 (by decide), h8 4 (by decide)]; exact h3
  · unfold RelZ at *
    rw [h8 0 (by decide), h8 2 (by decide), h8 4 (by decide), h8 5 (by decide), h8 6 (by decide)]; exact hz
/-- the class's printout -/
theorem c7_prints {V X : Sz} {w : Rw} (h : LR (sv 4 V) w) {n : Nat} (hn : 1000 ≤ n) {d : Int} (hd : 0 ≤ d ∧ d < w 0) : TT (f_X7_printStatement n V X d) (fun y => ∃ V1, y = .inl ((outS w d (V 99, 0) 180).2, V1) ∧ CSt V V1 (outS w d (V 99, 0) 180)) := by
  have hw := h.2.2.1
  have a0 := hw.2.1.1
  have a2 := hw.2.1.2.2.1
  obtain ⟨s0, hs0⟩ : ∃ s0 : Ob, s0 = (V 99, 0) := ⟨_, rfl⟩
  have hs0' : s0.2 = 0 := by rw [hs0]
  unfold f_X7_printStatement
  rw [x7_donorY h ⟨by omega, by omega⟩ hd, bx_l, ← hs0]
  refine tt_bl ?_
  unfold f_X5_clear
  rw [nm_s, bd_s]
  refine tt_nmE (fun V2 e2 => ?_)
  have hC2 : CSt V V2 s0 := by
    rw [e2, hs0]
    exact ⟨rfl, rfl, fun k hk => sw_out (by omega)⟩
  refine tt_lp (I := fun z : Int × Sz => (0 ≤ z.1 ∧ z.1 ≤ w 2 * 3) ∧ CSt V z.2 (outS w d s0 z.1.toNat)) (μ := fun z => (w 2 * 3 - z.1).toNat) ?_ n (0, V2) ⟨⟨Int.le_refl _, by show 0 ≤ w 2 * 3; omega⟩, hC2⟩ (by show (w 2 * 3 - (0 : Int)).toNat < n; omega)
  rintro ⟨p, Va⟩ rec ⟨⟨p0, p1⟩, hC⟩ ih
  simp only at p0 p1 hC
  have h13 : ∀ {Vb : Sz} {s : Ob}, CSt V Vb s → LR (sv 4 Vb) w := by
    intro Vb s hc
    refine LR.copy ?_ h
    unfold CopL sv
    have hk : ∀ k : Nat, k ≤ 25 → Vb (k + 4) = V (k + 4) := fun k hk => hc.2.2 _ (by omega)
    rw [hk 0 (by decide), hk 1 (by decide), hk 2 (by decide), hk 3 (by decide), hk 4 (by decide), hk 5 (by decide), hk 6 (by decide), hk 7 (by decide), hk 8 (by decide), hk 9 (by decide), hk 10 (by decide), hk 11 (by decide), hk 12 (by decide), hk 13 (by decide), hk 14 (by decide), hk 15 (by decide), hk 16 (by decide), hk 17 (by decide), hk 18 (by decide), hk 19 (by decide), hk 20 (by decide), hk 21 (by decide), hk 22 (by decide), hk 23 (by decide), hk 24 (by decide), hk 25 (by decide)]
    exact ⟨⟨rfl, rfl, rfl, rfl, rfl, rfl, rfl⟩, fun _ _ => rfl, fun _ _ => ⟨rfl, rfl, rfl⟩, fun _ _ => ⟨rfl, rfl, rfl, rfl, rfl, rfl⟩, fun _ _ => ⟨rfl, rfl, rfl, rfl, rfl⟩, fun _ _ => rfl, fun _ _ => ⟨rfl, rfl, rfl⟩⟩
  have hL := h13 hC
  have next : ∀ Vb : Sz, CSt V Vb (outS w d s0 (p + 1).toNat) → p < w 2 * 3 → TT (jX7_printStatement_122 n X d rec p Vb) (fun a => ∃ V1, (Sum.inl a : (Int × Sz) ⊕ Nat) = .inl ((outS w d s0 180).2, V1) ∧ CSt V V1 (outS w d s0 180)) := by
    intro Vb hb hp
    unfold jX7_printStatement_122
    exact tt_nm (ih (p + 1, Vb) ⟨⟨by show 0 ≤ p + 1; omega, by show p + 1 ≤ w 2 * 3; omega⟩, hb⟩ (by show (w 2 * 3 - (p + 1)).toNat < (w 2 * 3 - p).toNat; omega))
  rw [bX7_printStatement_14_e, show f_X3_slotCount (sv 13 Va) = _ from slots_at hL.1, bd_s]
  refine tt_ck ⟨⟨by omega, by omega⟩, ⟨by omega, by omega⟩⟩ (tt_ite (fun c => tt_some ?_) (fun c => ?_))
  · have e180 : outS w d s0 180 = outS w d s0 p.toNat := by
      have := out_cut (w := w) (d := d) (s := s0) (180 - p.toNat) p.toNat (by omega)
      rw [← this, show p.toNat + (180 - p.toNat) = 180 by omega]
    rw [e180]
    exact ⟨Va, by rw [hC.2.1], hC⟩
  · have hip : f_X3_isPartOf (sv 13 Va) p d = some (lnB w d p) := c3_isPartOf hL.1 hw p0 (by omega) ⟨by omega, by omega⟩
    rw [hip, bd_s]
    refine tt_ite (fun c2 => next Va (by rw [out_neg p0 c2]; exact hC) (by omega)) (fun c2 => ?_)
    have c3 := eq_true_of_ne_false c2
    have c3' := c3
    unfold lnB at c3'
    rw [Bool.and_eq_true] at c3'
    have hb : partB w p = true := c3'.1
    have hsp := part_split p0 hb
    have hgw := hw.2.2.2.2.1 _ hsp.1 hsp.2.1
    have hpw := hw.2.2.2.2.2.1 (p / 3) (p % 3) hsp.1 hsp.2.1 hsp.2.2.1 hsp.2.2.2.1
    rw [hsp.2.2.2.2] at hpw
    have hab := aidS_bd hw p0 hb
    have hroom := out_room hw (d := d) hs0' (q := p.toNat) (by omega) (by rw [show ((p.toNat : Nat) : Int) = p by omega]; exact c3)
    have hlens := line_lens hw p0 hb hroom
    have hlb : 0 ≤ leftS w p ∧ leftS w p ≤ 999999 := by unfold leftS; omega
    have hday : f_X3_dayOfPart (sv 13 Va) p = some (wDay w (p / 3)) := by
      unfold f_X3_dayOfPart
      rw [ck_t ⟨p0, by omega⟩, ck_t ⟨by omega, by omega⟩]
      exact congrArg some (hL.1.2.2.2.1 (p / 3) hsp.1 hsp.2.1).1
    rw [hday, bd_s]
    refine cst_n hC (by omega) ⟨hroom.1, by omega⟩ ⟨by omega, by omega⟩ (fun V9 h9 => ?_)
    refine cst_b h9 ⟨hlens.1.1, by omega⟩ ⟨by decide, by decide⟩ (fun V11 h11 => ?_)
    have hleft : f_X3_leftOfPart (sv 13 V11) p = some (leftS w p) := by
      have := c3_leftOfPart (h13 h11).1 hw hsp.1 hsp.2.1 hsp.2.2.1 hsp.2.2.2.1
      rw [hsp.2.2.2.2] at this
      exact this
    have e11 : (pb 58 (FS (wDay w (p / 3)) 5 (outS w d s0 p.toNat))).2 = (FS (wDay w (p / 3)) 5 (outS w d s0 p.toNat)).2 + 1 := rfl
    rw [hleft, bd_s]
    refine cst_n h11 (by omega) ⟨by omega, by omega⟩ hlb (fun V14 h14 => ?_)
    refine cst_b h14 ⟨hlens.2.1.1, by omega⟩ ⟨by decide, by decide⟩ (fun V16 h16 => ?_)
    have haid : V16 29 p.toNat = aidS w p := ((h13 h16).2.1 p p0 (by omega) hb).2.2
    have e16 : (pb 43 (FS (leftS w p) 5 (pb 58 (FS (wDay w (p / 3)) 5 (outS w d s0 p.toNat))))).2 = (FS (leftS w p) 5 (pb 58 (FS (wDay w (p / 3)) 5 (outS w d s0 p.toNat)))).2 + 1 := rfl
    rw [haid]
    refine tt_ck ⟨p0, by omega⟩ (cst_n h16 (by omega) ⟨by omega, by omega⟩ ⟨by omega, by omega⟩ (fun V19 h19 => ?_))
    refine cst_b h19 ⟨hlens.2.2.1, by omega⟩ ⟨by decide, by decide⟩ (fun V21 h21 => ?_)
    refine next V21 ?_ (by omega)
    rw [out_pos p0 c3]
    exact h21
/-- .. and the reference's -/
theorem x8_prints {Vm : Sz} {w : Rw} (e0 : Vm 0 = w) (hw : WF w) (hp : ∀ p : Int, 0 ≤ p → partB w p = true → Vm 12 p.toNat = aidS w p) {s0 : Ob} (hs0 : Vm 30 = s0.1 ∧ Vm 31 0 = s0.2 ∧ s0.2 = 0) {n : Nat} (hn : 1000 ≤ n) {d : Int} (hd : rng d) : TT (lpF (bX8_printStatement_21 n d) n (0, Vm)) (fun r => r.1 = (outS w d s0 180).2 ∧ MSt Vm r.2 (outS w d s0 180)) := by
  have a2 := hw.2.1.2.2.1
  refine tt_lp (I := fun z : Int × Sz => (0 ≤ z.1 ∧ z.1 ≤ 180) ∧ MSt Vm z.2 (outS w d s0 z.1.toNat)) (μ := fun z => (180 - z.1).toNat) ?_ n (0, Vm) ⟨⟨Int.le_refl _, by show (0 : Int) ≤ 180; decide⟩, hs0.1, hs0.2.1, fun _ _ _ => rfl⟩ (by show (180 - (0 : Int)).toNat < n; omega)
  rintro ⟨p, Va⟩ rec ⟨⟨p0, p1⟩, hC⟩ ih
  simp only at p0 p1 hC
  have next : ∀ Vb : Sz, MSt Vm Vb (outS w d s0 (p + 1).toNat) → p < 180 → TT (jX8_printStatement_99 n d rec p Vb) (fun r => r.1 = (outS w d s0 180).2 ∧ MSt Vm r.2 (outS w d s0 180)) := by
    intro Vb hb hp
    unfold jX8_printStatement_99
    exact tt_nm (ih (p + 1, Vb) ⟨⟨by show 0 ≤ p + 1; omega, by show p + 1 ≤ 180; omega⟩, hb⟩ (by show (180 - (p + 1)).toNat < (180 - p).toNat; omega))
  rw [bX8_printStatement_21_e]
  refine tt_ck ⟨by omega, by omega⟩ (tt_ite (fun c => tt_some ?_) (fun c => ?_))
  · have e180 : p = 180 := by omega
    subst e180
    exact ⟨hC.2.1, hC⟩
  · have ea : Va 0 = w := (hC.2.2 0 (by decide) (by decide)).trans e0
    rw [x8_isPart (by rw [ea]; exact hw.1) p0 (by omega), bd_s, ea]
    refine tt_ite (fun c2 => next Va ?_ (by omega)) (fun c2 => ?_)
    · rw [out_neg p0 (by unfold lnB; rw [c2]; rfl)]; exact hC
    have hb : partB w p = true := eq_true_of_ne_false c2
    have hsp := part_split p0 hb
    have hgw := hw.2.2.2.2.1 _ hsp.1 hsp.2.1
    have hpw := hw.2.2.2.2.2.1 (p / 3) (p % 3) hsp.1 hsp.2.1 hsp.2.2.1 hsp.2.2.2.1
    rw [hsp.2.2.2.2] at hpw
    have a0 := hw.2.1.1
    have epd : w (413 + p).toNat = wPd w p := rfl
    rw [epd]
    refine tt_ck ⟨by omega, by omega⟩ (tt_ck ⟨⟨by omega, by omega⟩, hd⟩ (tt_ite (fun c3 => ?_) (fun c3 => next Va ?_ (by omega))))
    · have c4 : lnB w d p = true := by unfold lnB; rw [hb, c3, decide_eq_true rfl]; rfl
      have hab := aidS_bd hw p0 hb
      have hroom := out_room hw (d := d) hs0.2.2 (q := p.toNat) (by omega) (by rw [show ((p.toNat : Nat) : Int) = p by omega]; exact c4)
      have hlens := line_lens hw p0 hb hroom
      have hlb : 0 ≤ leftS w p ∧ leftS w p ≤ 999999 := by unfold leftS; omega
      rw [x8_dayOf p0 (by omega), bd_s, ea]
      refine mst_n hC (by omega) ⟨hroom.1, by omega⟩ ⟨by omega, by omega⟩ (fun V11 h11 => ?_)
      refine mst_b h11 ⟨hlens.1.1, by omega⟩ (fun V12 h12 => ?_)
      have e11 : (pb 58 (FS (wDay w (p / 3)) 5 (outS w d s0 p.toNat))).2 = (FS (wDay w (p / 3)) 5 (outS w d s0 p.toNat)).2 + 1 := rfl
      rw [x8_leftOf p0 (by omega), bd_s, show V12 0 = w from (h12.2.2 0 (by decide) (by decide)).trans e0]
      refine mst_n h12 (by omega) ⟨by omega, by omega⟩ hlb (fun V14 h14 => ?_)
      refine mst_b h14 ⟨hlens.2.1.1, by omega⟩ (fun V15 h15 => ?_)
      have e16 : (pb 43 (FS (leftS w p) 5 (pb 58 (FS (wDay w (p / 3)) 5 (outS w d s0 p.toNat))))).2 = (FS (leftS w p) 5 (pb 58 (FS (wDay w (p / 3)) 5 (outS w d s0 p.toNat)))).2 + 1 := rfl
      have haid : V15 12 p.toNat = aidS w p := by rw [h15.2.2 12 (by decide) (by decide)]; exact hp p p0 hb
      rw [haid]
      refine tt_ck ⟨p0, by omega⟩ (mst_n h15 (by omega) ⟨by omega, by omega⟩ ⟨by omega, by omega⟩ (fun V17 h17 => ?_))
      refine mst_b h17 ⟨hlens.2.2.1, by omega⟩ (fun V18 h18 => ?_)
      refine next V18 ?_ (by omega)
      rw [out_pos p0 c4]
      exact h18
    · rw [out_neg p0 (by unfold lnB; rw [decide_eq_false c3, Bool.and_false])]; exact hC
theorem ag_printStatement {V X : Sz} {PV : Nat → Sz} {K : Nat} {V8 : Sz} (h : Rel V PV K V8) {n : Nat} (hn : 20000 < n) {d : Int} (hd : rng d) : TT (f_X8_printStatement n V8 d) (Chx cdA V PV K (f_X7_printStatement n V X d)) := by
  have hL := h.1
  have hw := hL.2.2.1
  unfold f_X8_printStatement
  refine tt_bd (x8_noDonor hw hd) (fun ⟨r1, V2⟩ hr => ref_f hr (fun ok hT => ?_) (fun no hT => tt_some (chx_no (e := 0) h ?_ hT rfl (by decide))))
  · refine tt_bd (aid_of hw hT (n := n) (by omega)) (fun V3 ⟨hA, e0, hp⟩ => tt_nmE (fun V4 e4 => ?_))
    have hk3 : ∀ k : Nat, k < 9 ∨ 13 < k → V3 k = V8 k := fun k hk => (hA.1 k (by omega) (by omega) (by omega) (by omega)).trans (hT.2 k (by omega))
    have hk4 : ∀ k : Nat, k ≠ 31 → V4 k = V3 k := fun k hk => by rw [e4, us_ne hk]
    obtain ⟨V1, ⟨y, ey, V1', e1, hC⟩⟩ : ∃ V1 : Sz, TT (f_X7_printStatement n V X d) (fun y => ∃ V1, y = .inl ((outS (V8 0) d (V 99, 0) 180).2, V1) ∧ CSt V V1 (outS (V8 0) d (V 99, 0) 180)) := ⟨V, c7_prints hL (by omega) ok⟩
    refine tt_mono (x8_prints (s0 := (V8 30, 0)) (by rw [hk4 0 (by decide), e0]) hw (fun p p0 hb => by rw [hk4 12 (by decide)]; exact (hp p p0 hb).2) ⟨by rw [hk4 30 (by decide), hk3 30 (by decide)], by rw [e4, us_at], rfl⟩ (by omega) hd) (fun ⟨r, Vz⟩ ⟨er, hM⟩ => ?_)
    have hM : MSt V4 Vz (outS (V8 0) d (V8 30, 0) 180) := hM
    have hago0 : AgO (V 99, 0) (V8 30, 0) := ⟨⟨rfl, Int.le_refl _⟩, fun i hi => by have : (i : Int) < 0 := hi; omega⟩
    have hago := ago_out hago0 (V8 0) d 180
    have hlen := out_len hw (d := d) (s := (V8 30, 0)) rfl 180
    have hlen2 := hlen.2.2 (fun j j0 j1 => by omega)
    have er : r = (outS (V8 0) d (V8 30, 0) 180).2 := er
    have hkz : ∀ k : Nat, k = 0 ∨ k = 2 ∨ k = 4 ∨ k = 5 ∨ k = 6 ∨ (14 ≤ k ∧ k ≤ 17) → Vz k = V8 k := fun k hk => by
      rw [hM.2.2 k (by omega) (by omega), hk4 k (by omega), hk3 k (by omega)]
    refine Or.inl ⟨V1', ?_, ?_, h.rest (fun k hk => hC.2.2 k (by omega)) (fun k hk => hkz k (by omega)) ?_ ?_ ?_⟩
    · rw [ey, e1, hago.1.1, ← er]
    · show Vz 9 0 = 0
      rw [hM.2.2 9 (by decide) (by decide), hk4 9 (by decide), hA.1 9 (by decide) (by decide) (by decide) (by decide)]
      exact hT.1
    · have hI := h.2.2.2.1
      show RelI V1' Vz
      unfold RelI at *
      rw [hC.2.2 1 (by decide), hC.2.2 0 (by decide), hkz 14 (by decide), hkz 15 (by decide)]; exact hI
    · have hE := h.2.2.2.2.1
      show RelE V1' Vz
      unfold RelE at *
      rw [hC.2.2 2 (by decide), hC.2.2 3 (by decide), hkz 16 (by decide), hkz 17 (by decide)]; exact hE
    · show RelO V1' Vz
      unfold RelO
      rw [hM.2.1, hM.1, hC.1, hC.2.1]
      refine ⟨hago.1.1, ⟨hlen.1, ?_⟩, hago.2⟩
      have : ((180 : Nat) : Int) / 3 = 60 := by decide
      omega
  · unfold f_X7_printStatement
    rw [x7_donorN hL hd no]; rfl
