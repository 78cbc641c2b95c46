/-! a ledger copied -/
theorem cpZ_lo {f g : Nat → Int} {n k : Nat} (h : k < n) : cpZ f g 0 0 n k = f k := by
  unfold cpZ
  rw [if_pos ⟨by omega, by omega⟩]
  congr 1
  omega
theorem crow {n : Nat} (hn : n ≤ 1000) {T0 T1 : Nat → Int} : f_X7_copyRow n n T0 T1 = some (cpZ T0 T1 0 0 n) := by
  have e : min (n : Int) (n : Int) = (n : Int) := by omega
  unfold f_X7_copyRow
  rw [e, ck_t ⟨⟨by omega, by omega⟩, ⟨by omega, by omega⟩⟩, ck_t ⟨by unfold cpOk; omega, by omega, by omega⟩, nm_s, show ((n : Int)).toNat = n by omega]
theorem c0_become (V0 G : Sz) : TT (f_X0_become V0 G) (fun V1 => V1 0 0 = G 0 0 ∧ ∀ i : Nat, i < 100 → V1 1 i = G 1 i) := by
  unfold f_X0_become
  refine tt_nmE (fun V1 e1 => ?_)
  rw [crow (by decide), bd_s]
  refine tt_nmE (fun V3 e3 => tt_some ?_)
  subst e3 e1
  exact ⟨rfl, fun i hi => cpZ_lo hi⟩
theorem c1_become (V0 G : Sz) : TT (f_X1_become V0 G) (fun V1 => V1 0 0 = G 0 0 ∧ ∀ i : Nat, i < 30 → V1 1 i = G 1 i ∧ V1 2 i = G 2 i ∧ V1 3 i = G 3 i) := by
  unfold f_X1_become
  refine tt_nmE (fun V1 e1 => ?_)
  rw [crow (by decide), bd_s]
  refine tt_nmE (fun V3 e3 => ?_)
  rw [crow (by decide), bd_s]
  refine tt_nmE (fun V5 e5 => ?_)
  rw [crow (by decide), bd_s]
  refine tt_nmE (fun V7 e7 => tt_some ?_)
  subst e7 e5 e3 e1
  exact ⟨rfl, fun i hi => ⟨cpZ_lo hi, cpZ_lo hi, cpZ_lo hi⟩⟩
theorem c3_become (V0 G : Sz) : TT (f_X3_become V0 G) (fun V1 => V1 0 0 = G 0 0 ∧ (∀ i : Nat, i < 60 → V1 1 i = G 1 i ∧ V1 2 i = G 2 i ∧ V1 3 i = G 3 i ∧ V1 4 i = G 4 i ∧ V1 5 i = G 5 i ∧ V1 6 i = G 6 i) ∧ ∀ i : Nat, i < 180 → V1 7 i = G 7 i ∧ V1 8 i = G 8 i ∧ V1 9 i = G 9 i ∧ V1 10 i = G 10 i ∧ V1 11 i = G 11 i) := by
  unfold f_X3_become
  refine tt_nmE (fun V1 e1 => ?_)
  rw [crow (by decide), bd_s]
  refine tt_nmE (fun V3 e3 => ?_)
  rw [crow (by decide), bd_s]
  refine tt_nmE (fun V5 e5 => ?_)
  rw [crow (by decide), bd_s]
  refine tt_nmE (fun V7 e7 => ?_)
  rw [crow (by decide), bd_s]
  refine tt_nmE (fun V9 e9 => ?_)
  rw [crow (by decide), bd_s]
  refine tt_nmE (fun V11 e11 => ?_)
  rw [crow (by decide), bd_s]
  refine tt_nmE (fun V13 e13 => ?_)
  rw [crow (by decide), bd_s]
  refine tt_nmE (fun V15 e15 => ?_)
  rw [crow (by decide), bd_s]
  refine tt_nmE (fun V17 e17 => ?_)
  rw [crow (by decide), bd_s]
  refine tt_nmE (fun V19 e19 => ?_)
  rw [crow (by decide), bd_s]
  refine tt_nmE (fun V21 e21 => ?_)
  rw [crow (by decide), bd_s]
  refine tt_nmE (fun V23 e23 => tt_some ?_)
  subst e23 e21 e19 e17 e15 e13 e11 e9 e7 e5 e3 e1
  exact ⟨rfl, fun i hi => ⟨cpZ_lo hi, cpZ_lo hi, cpZ_lo hi, cpZ_lo hi, cpZ_lo hi, cpZ_lo hi⟩, fun i hi => ⟨cpZ_lo hi, cpZ_lo hi, cpZ_lo hi, cpZ_lo hi, cpZ_lo hi⟩⟩
/-- the ledger says the same, as far as it says anything -/
def CopL (V1 G : Sz) : Prop := (V1 0 0 = G 0 0 ∧ V1 1 0 = G 1 0 ∧ V1 2 0 = G 2 0 ∧ V1 3 0 = G 3 0 ∧ V1 5 0 = G 5 0 ∧ V1 9 0 = G 9 0 ∧ V1 21 0 = G 21 0) ∧ (∀ i : Nat, i < 10 → V1 4 i = G 4 i) ∧ (∀ i : Nat, i < 30 → V1 6 i = G 6 i ∧ V1 7 i = G 7 i ∧ V1 8 i = G 8 i) ∧ (∀ i : Nat, i < 60 → V1 10 i = G 10 i ∧ V1 11 i = G 11 i ∧ V1 12 i = G 12 i ∧ V1 13 i = G 13 i ∧ V1 14 i = G 14 i ∧ V1 15 i = G 15 i) ∧ (∀ i : Nat, i < 180 → V1 16 i = G 16 i ∧ V1 17 i = G 17 i ∧ V1 18 i = G 18 i ∧ V1 19 i = G 19 i ∧ V1 20 i = G 20 i) ∧ (∀ i : Nat, i < 100 → V1 22 i = G 22 i) ∧ (∀ i : Nat, i < 180 → V1 23 i = G 23 i ∧ V1 24 i = G 24 i ∧ V1 25 i = G 25 i)
theorem c4_become (V0 G : Sz) : TT (f_X4_become V0 G) (fun V1 => CopL V1 G) := by
  unfold f_X4_become
  refine tt_nmE (fun V1 e1 => tt_nmE (fun V2 e2 => tt_nmE (fun V3 e3 => tt_nmE (fun V4 e4 => ?_))))
  rw [crow (by decide), bd_s]
  refine tt_nmE (fun V6 e6 => ?_)
  refine tt_bd (c1_become (sv 5 V6) (sv 5 G)) (fun V7 ⟨h70, h7⟩ => tt_nmE (fun V8 e8 => ?_))
  refine tt_bd (c3_become (sv 9 V8) (sv 9 G)) (fun V9 ⟨h90, h96, h9⟩ => tt_nmE (fun V10 e10 => ?_))
  refine tt_bd (c0_become (sv 21 V10) (sv 21 G)) (fun V11 ⟨h110, h11⟩ => tt_nmE (fun V12 e12 => ?_))
  rw [crow (by decide), bd_s]
  refine tt_nmE (fun V14 e14 => ?_)
  rw [crow (by decide), bd_s]
  refine tt_nmE (fun V16 e16 => ?_)
  rw [crow (by decide), bd_s]
  refine tt_nmE (fun V18 e18 => tt_some ?_)
  subst e18 e16 e14 e12 e10 e8 e6 e4 e3 e2 e1
  refine ⟨⟨rfl, rfl, rfl, rfl, h70, h90, h110⟩, fun i hi => cpZ_lo hi, fun i hi => h7 i hi, fun i hi => h96 i hi, fun i hi => h9 i hi, fun i hi => h11 i hi, fun i hi => ⟨cpZ_lo hi, cpZ_lo hi, cpZ_lo hi⟩⟩
theorem LR0.copy {V1 G : Sz} {w : Rw} (hc : CopL V1 G) (h : LR0 G w) (hw : WF w) (h30 : w 1 ≤ 30) : LR0 V1 w := by
  have a0 := hw.2.1.1
  have a1 := hw.2.1.2.1
  have a2 := hw.2.1.2.2.1
  have a4 := hw.2.1.2.2.2.1
  obtain ⟨⟨c0, c1, c2, c3, c5, c9, c21⟩, cd, ck, cg, cp, cc, cv⟩ := hc
  obtain ⟨ha, hd, hk, hg, hp, ho, hcl⟩ := h
  refine ⟨?_, fun d d0 d1 => ?_, fun k k0 k1 => ?_, fun g g0 g1 => ?_, fun p p0 p1 hb => ?_, fun i hi => ?_, fun c q u0 u1 q0 q1 => ?_⟩
  · unfold LRa at *
    rw [c0, c1, c2, c3, c5, c9, c21]; exact ha
  · rw [cd _ (by omega)]; exact hd d d0 d1
  · obtain ⟨x1, x2, x3⟩ := ck k.toNat (by omega)
    rw [x1, x2, x3]; exact hk k k0 k1
  · obtain ⟨x1, x2, x3, x4, x5, x6⟩ := cg g.toNat (by omega)
    rw [x1, x2, x3, x4, x5]; exact hg g g0 g1
  · obtain ⟨x1, x2, x3, x4, x5⟩ := cp p.toNat (by omega)
    rw [x1, x3, x4, x5]; exact hp p p0 p1 hb
  · rw [(cg i (by omega)).2.2.2.2.2]; exact ho i hi
  · rw [cc _ (by omega)]; exact hcl c q u0 u1 q0 q1
theorem LR.copy {V1 G : Sz} {w : Rw} (hc : CopL V1 G) (h : LR G w) : LR V1 w := by
  refine ⟨LR0.copy hc h.1 h.2.2.1 h.2.2.2, fun p p0 p1 hb => ?_, h.2.2.1, h.2.2.2⟩
  obtain ⟨x1, x2, x3⟩ := hc.2.2.2.2.2.2 p.toNat (by omega)
  rw [x1, x2, x3]; exact h.2.1 p p0 p1 hb
/-! copies, by the reference -/
theorem x8_copies {n n0 n2 : Nat} {T0 T1 : Nat → Int} {a b m : Int} (h0 : 0 ≤ a) (h1 : 0 ≤ b) (h2 : 0 ≤ m) (h3 : a + m ≤ (n0 : Int)) (h4 : b + m ≤ (n2 : Int)) (h5 : n0 ≤ 20000 ∧ n2 ≤ 20000) (hn : 20000 < n) : TT (f_X8_copies n n0 n2 T0 T1 a b m) (fun T => ∀ i : Nat, T i = if b.toNat ≤ i ∧ i < (b + m).toNat then T0 (a.toNat + (i - b.toNat)) else T1 i) := by
  unfold f_X8_copies
  refine tt_lp (I := fun s : Int × (Nat → Int) => (0 ≤ s.1 ∧ s.1 ≤ m) ∧ ∀ i : Nat, s.2 i = if b.toNat ≤ i ∧ i < (b + s.1).toNat then T0 (a.toNat + (i - b.toNat)) else T1 i) (μ := fun s => (m - s.1).toNat) ?_ n (0, T1) ⟨⟨Int.le_refl _, h2⟩, fun i => ?_⟩ (by show (m - (0 : Int)).toNat < n; omega)
  · rintro ⟨k, T⟩ rec ⟨⟨k0, k1⟩, hT⟩ ih
    simp only at k0 k1 hT
    rw [bX8_copies_3_e]
    refine tt_ck ⟨⟨by omega, by omega⟩, ⟨by omega, by omega⟩⟩ (tt_ite (fun c => tt_some ?_) (fun c => ?_))
    · rw [show k = m by omega] at hT; exact hT
    · refine tt_ck ⟨by omega, by omega⟩ (tt_ck ⟨by omega, by omega⟩ (tt_nm (tt_nm (ih (k + 1, up T (b + k).toNat (T0 (a + k).toNat)) ⟨⟨by show 0 ≤ k + 1; omega, by show k + 1 ≤ m; omega⟩, fun i => ?_⟩ (by show (m - (k + 1)).toNat < (m - k).toNat; omega)))))
      show up T (b + k).toNat (T0 (a + k).toNat) i = if b.toNat ≤ i ∧ i < (b + (k + 1)).toNat then T0 (a.toNat + (i - b.toNat)) else T1 i
      rw [up_if]
      by_cases e : i = (b + k).toNat
      · rw [if_pos e, if_pos ⟨by omega, by omega⟩]
        congr 1
        omega
      · rw [if_neg e, hT i]
        by_cases e2 : b.toNat ≤ i ∧ i < (b + k).toNat
        · rw [if_pos e2, if_pos ⟨by omega, by omega⟩]
        · rw [if_neg e2, if_neg (fun q => e2 ⟨q.1, by omega⟩)]
  · show T1 i = if b.toNat ≤ i ∧ i < (b + 0).toNat then T0 (a.toNat + (i - b.toNat)) else T1 i
    rw [if_neg (by omega)]
theorem x8_copies_same {n n0 : Nat} {T : Nat → Int} {a b m : Int} (h0 : 0 ≤ b) (h1 : b ≤ a) (h2 : 0 ≤ m) (h3 : a + m ≤ (n0 : Int)) (h5 : n0 ≤ 20000) (hn : 20000 < n) : TT (f_X8_copies_same n n0 T a b m) (fun T1 => ∀ i : Nat, T1 i = if b.toNat ≤ i ∧ i < (b + m).toNat then T (a.toNat + (i - b.toNat)) else T i) := by
  unfold f_X8_copies_same
  refine tt_lp (I := fun s : Int × (Nat → Int) => (0 ≤ s.1 ∧ s.1 ≤ m) ∧ ∀ i : Nat, s.2 i = if b.toNat ≤ i ∧ i < (b + s.1).toNat then T (a.toNat + (i - b.toNat)) else T i) (μ := fun s => (m - s.1).toNat) ?_ n (0, T) ⟨⟨Int.le_refl _, h2⟩, fun i => ?_⟩ (by show (m - (0 : Int)).toNat < n; omega)
  · rintro ⟨k, T1⟩ rec ⟨⟨k0, k1⟩, hT⟩ ih
    simp only at k0 k1 hT
    rw [bX8_copies_same_3_e]
    refine tt_ck ⟨⟨by omega, by omega⟩, ⟨by omega, by omega⟩⟩ (tt_ite (fun c => tt_some ?_) (fun c => ?_))
    · rw [show k = m by omega] at hT; exact hT
    · refine tt_ck ⟨by omega, by omega⟩ (tt_ck ⟨by omega, by omega⟩ (tt_nm (tt_nm (ih (k + 1, up T1 (b + k).toNat (T1 (a + k).toNat)) ⟨⟨by show 0 ≤ k + 1; omega, by show k + 1 ≤ m; omega⟩, fun i => ?_⟩ (by show (m - (k + 1)).toNat < (m - k).toNat; omega)))))
      show up T1 (b + k).toNat (T1 (a + k).toNat) i = if b.toNat ≤ i ∧ i < (b + (k + 1)).toNat then T (a.toNat + (i - b.toNat)) else T i
      have ea : T1 (a + k).toNat = T (a + k).toNat := by rw [hT, if_neg (by omega)]
      rw [up_if, ea]
      by_cases e : i = (b + k).toNat
      · rw [if_pos e, if_pos ⟨by omega, by omega⟩]
        congr 1
        omega
      · rw [if_neg e, hT i]
        by_cases e2 : b.toNat ≤ i ∧ i < (b + k).toNat
        · rw [if_pos e2, if_pos ⟨by omega, by omega⟩]
        · rw [if_neg e2, if_neg (fun q => e2 ⟨q.1, by omega⟩)]
  · show T i = if b.toNat ≤ i ∧ i < (b + 0).toNat then T (a.toNat + (i - b.toNat)) else T i
    rw [if_neg (by omega)]
/-! the relation between the calls -/
def rowAt (T : Nat → Int) (j : Int) : Rw := fun i => T (1233 * j.toNat + i)
def RelS (V V8 : Sz) : Prop := V 85 0 = V8 6 0 ∧ (V8 6 0 = 0 ∨ (V8 6 0 = 1 ∧ LR (sv 58 V) (V8 2)))
def RelP (V : Sz) (PV : Nat → Sz) (K : Nat) (V8 : Sz) : Prop := (0 ≤ V 86 0 ∧ V 86 0 < 10 ∧ V 86 0 ≤ (K : Int) ∧ K ≤ 10) ∧ (V 87 0 = V8 5 0 ∧ 0 ≤ V 87 0 ∧ V 87 0 ≤ 10 ∧ (K = 10 ∨ V 87 0 ≤ V 86 0)) ∧ ∀ j : Int, 0 ≤ j → j < V 87 0 → LR (PV ((V 86 0 + 10 - V 87 0 + j) % 10).toNat) (rowAt (V8 4) j)
def RelI (V V8 : Sz) : Prop := V 1 0 = V8 15 0 ∧ (0 ≤ V8 15 0 ∧ V8 15 0 ≤ 900) ∧ ∀ i : Nat, (i : Int) < V8 15 0 → (-128 ≤ V 0 i ∧ V 0 i ≤ 127) ∧ V8 14 i = V 0 i % 256
def RelE (V V8 : Sz) : Prop := (V 2 0 = V8 16 0 ∧ 0 ≤ V8 16 0 ∧ V8 16 0 ≤ 4) ∧ V 3 0 = V8 17 0 ∧ -1 ≤ V8 17 0 ∧ V8 17 0 ≤ 900
def RelO (V V8 : Sz) : Prop := V 100 0 = V8 31 0 ∧ (0 ≤ V8 31 0 ∧ V8 31 0 ≤ 1140) ∧ ∀ i : Nat, (i : Int) < V8 31 0 → V 99 i = V8 30 i ∧ 0 ≤ V8 30 i ∧ V8 30 i ≤ 127
/-- behind the parts of a gift nothing is refunded or claimed -/
def WFz (w : Rw) : Prop := ∀ g i : Int, 0 ≤ g → g < w 2 → wMany w g ≤ i → i < 3 → wPb w (3 * g + i) = 0 ∧ wPc w (3 * g + i) = 0
theorem wfz_same {w w1 : Rw} (hw : WF w) (e2 : w1 2 = w 2) (h : ∀ i : Nat, 293 ≤ i → i < 1133 → w1 i = w i) (hz : WFz w) : WFz w1 := by
  have a2 := hw.2.1.2.2.1
  intro g i g0 g1 i0 i1
  rw [e2] at g1
  have hgw := hw.2.2.2.2.1 g g0 g1
  have em : wMany w1 g = wMany w g := h _ (by omega) (by omega)
  rw [em] at i0
  have eb : wPb w1 (3 * g + i) = wPb w (3 * g + i) := h _ (by omega) (by omega)
  have ec : wPc w1 (3 * g + i) = wPc w (3 * g + i) := h _ (by omega) (by omega)
  rw [eb, ec]
  exact hz g i g0 g1 i0 i1
def RelZ (V8 : Sz) : Prop := WFz (V8 0) ∧ (V8 6 0 = 1 → WFz (V8 2)) ∧ ∀ j : Int, 0 ≤ j → j < V8 5 0 → WFz (rowAt (V8 4) j)
def Rel (V : Sz) (PV : Nat → Sz) (K : Nat) (V8 : Sz) : Prop := LR (sv 4 V) (V8 0) ∧ RelS V V8 ∧ RelP V PV K V8 ∧ RelI V V8 ∧ RelE V V8 ∧ RelO V V8 ∧ RelZ V8
theorem Rel.keep {V V1 : Sz} {PV : Nat → Sz} {K : Nat} {V8 V9 : Sz} (h : Rel V PV K V8) (h7 : ∀ k : Nat, k < 31 ∨ (58 ≤ k ∧ k < 95) ∨ 98 < k → V1 k = V k) (h8 : ∀ k : Nat, k = 0 ∨ k = 2 ∨ k = 4 ∨ k = 5 ∨ k = 6 ∨ (14 ≤ k ∧ k ≤ 17) ∨ k = 30 ∨ k = 31 → V9 k = V8 k) : Rel V1 PV K V9 := by
  obtain ⟨h1, h2, h3, h4, h5, h6, hz⟩ := h
  have cp : ∀ (o : Nat) (G : Sz), (∀ k : Nat, k ≤ 25 → V1 (k + o) = V (k + o)) → CopL (sv o V1) (sv o V) := by
    intro o G hk
    unfold CopL sv
    rw [hk 0 (by decide), hk 1 (by decide), hk 2 (by decide), hk 3 (by decide), hk 4 (by decide), hk 5 (by decide), hk 6 (by decide), hk 7 (by decide), hk 8 (by decide), hk 9 (by decide), hk 10 (by decide), hk 11 (by decide), hk 12 (by decide), hk 13 (by decide), hk 14 (by decide), hk 15 (by decide), hk 16 (by decide), hk 17 (by decide), hk 18 (by decide), hk 19 (by decide), hk 20 (by decide), hk 21 (by decide), hk 22 (by decide), hk 23 (by decide), hk 24 (by decide), hk 25 (by decide)]
    exact ⟨⟨rfl, rfl, rfl, rfl, rfl, rfl, rfl⟩, fun _ _ => rfl, fun _ _ => ⟨rfl, rfl, rfl⟩, fun _ _ => ⟨rfl, rfl, rfl, rfl, rfl, rfl⟩, fun _ _ => ⟨rfl, rfl, rfl, rfl, rfl⟩, fun _ _ => rfl, fun _ _ => ⟨rfl, rfl, rfl⟩⟩
  refine ⟨?_, ?_, ?_, ?_, ?_, ?_, ?_⟩
  · rw [h8 0 (by decide)]
    exact LR.copy (cp 4 V (fun k hk => h7 _ (by omega))) h1
  · unfold RelS at *
    rw [h7 85 (by decide), h8 6 (by decide), h8 2 (by decide)]
    refine ⟨h2.1, ?_⟩
    rcases h2.2 with q | ⟨q1, q2⟩
    · exact Or.inl q
    · exact Or.inr ⟨q1, LR.copy (cp 58 V (fun k hk => h7 _ (by omega))) q2⟩
  · unfold RelP at *
    rw [h7 86 (by decide), h7 87 (by decide), h8 5 (by decide), h8 4 (by decide)]; exact h3
  · unfold RelI at *
    rw [h7 1 (by decide), h7 0 (by decide), h8 15 (by decide), h8 14 (by decide)]; exact h4
  · unfold RelE at *
    rw [h7 2 (by decide), h7 3 (by decide), h8 16 (by decide), h8 17 (by decide)]; exact h5
  · unfold RelO at *
    rw [h7 100 (by decide), h7 99 (by decide), h8 31 (by decide), h8 30 (by decide)]; exact h6
  · unfold RelZ at *
    rw [h8 0 (by decide), h8 2 (by decide), h8 4 (by decide), h8 5 (by decide), h8 6 (by decide)]; exact hz
/-- the same, with another row that says the same -/
theorem Rel.row {V : Sz} {PV : Nat → Sz} {K : Nat} {V8 V9 : Sz} (h : Rel V PV K V8) (h0 : LR (sv 4 V) (V9 0)) (hz0 : WFz (V9 0)) (h8 : ∀ k : Nat, k = 2 ∨ k = 4 ∨ k = 5 ∨ k = 6 ∨ (14 ≤ k ∧ k ≤ 17) ∨ k = 30 ∨ k = 31 → V9 k = V8 k) : Rel V PV K V9 := by
  obtain ⟨h1, h2, h3, h4, h5, h6, hz⟩ := h
  refine ⟨h0, ?_, ?_, ?_, ?_, ?_, ?_⟩
  · unfold RelS at *
    rw [h8 6 (by decide), h8 2 (by decide)]; exact h2
  · unfold RelP at *
    rw [h8 5 (by decide), h8 4 (by decide)]; exact h3
  · unfold RelI at *
    rw [h8 15 (by decide), h8 14 (by decide)]; exact h4
  · unfold RelE at *
    rw [h8 16 (by decide), h8 17 (by decide)]; exact h5
  · unfold RelO at *
    rw [h8 31 (by decide), h8 30 (by decide)]; exact h6
  · unfold RelZ at *
    rw [h8 2 (by decide), h8 4 (by decide), h8 5 (by decide), h8 6 (by decide)]; exact ⟨hz0, hz.2⟩
