/-! what is undone, saved, restored -/
def Cho {α : Type} (PV : Nat → Sz) (K : Nat) (x : Option (α × Sz)) (r : α × Sz) : Prop := ∃ V1, x = some (r.1, V1) ∧ Rel V1 PV K r.2
def Chs (cf : Nat → Int) (V : Sz) (PV : Nat → Sz) (K : Nat) (x : Option ((Int × Sz) ⊕ Nat)) (r : Int × Sz) : Prop :=
  (∃ V1, x = some (.inl (r.1, V1)) ∧ r.2 9 0 = 0 ∧ Rel V1 PV K r.2) ∨ ∃ e : Nat, x = some (.inr e) ∧ r.2 9 0 = cf e ∧ cf e ≠ 0 ∧ Rel V PV K r.2
theorem chs_no {cf : Nat → Int} {V : Sz} {PV : Nat → Sz} {K : Nat} {x : Option ((Int × Sz) ⊕ Nat)} {V8 V9 : Sz} {v z : Int} {e : Nat} (h : Rel V PV K V8) (hx : x = some (.inr e)) (hT : Thr V8 V9 z) (hz : z = cf e) (h0 : z ≠ 0) : Chs cf V PV K x (v, V9) := Or.inr ⟨e, hx, hT.1.trans hz, by rw [← hz]; exact h0, h.thr hT⟩
theorem cop_at {V1 V : Sz} {o : Nat} (hk : ∀ k : Nat, k ≤ 25 → V1 (k + o) = V (k + o)) : CopL (sv o V1) (sv o V) := by
  unfold CopL sv
  rw [hk 0 (by decide), hk 1 (by decide), hk 2 (by decide), hk 3 (by decide), hk 4 (by decide), hk 5 (by decide), hk 6 (by decide), hk 7 (by decide), hk 8 (by decide), hk 9 (by decide), hk 10 (by decide), hk 11 (by decide), hk 12 (by decide), hk 13 (by decide), hk 14 (by decide), hk 15 (by decide), hk 16 (by decide), hk 17 (by decide), hk 18 (by decide), hk 19 (by decide), hk 20 (by decide), hk 21 (by decide), hk 22 (by decide), hk 23 (by decide), hk 24 (by decide), hk 25 (by decide)]
  exact ⟨⟨rfl, rfl, rfl, rfl, rfl, rfl, rfl⟩, fun _ _ => rfl, fun _ _ => ⟨rfl, rfl, rfl⟩, fun _ _ => ⟨rfl, rfl, rfl, rfl, rfl, rfl⟩, fun _ _ => ⟨rfl, rfl, rfl, rfl, rfl⟩, fun _ _ => rfl, fun _ _ => ⟨rfl, rfl, rfl⟩⟩
theorem sw_cop4 (V G : Sz) : CopL (sv 4 (sw 4 27 V G)) G := ⟨⟨rfl, rfl, rfl, rfl, rfl, rfl, rfl⟩, fun _ _ => rfl, fun _ _ => ⟨rfl, rfl, rfl⟩, fun _ _ => ⟨rfl, rfl, rfl, rfl, rfl, rfl⟩, fun _ _ => ⟨rfl, rfl, rfl, rfl, rfl⟩, fun _ _ => rfl, fun _ _ => ⟨rfl, rfl, rfl⟩⟩
theorem sw_cop31 (V G : Sz) : CopL (sv 31 (sw 31 27 V G)) G := ⟨⟨rfl, rfl, rfl, rfl, rfl, rfl, rfl⟩, fun _ _ => rfl, fun _ _ => ⟨rfl, rfl, rfl⟩, fun _ _ => ⟨rfl, rfl, rfl, rfl, rfl, rfl⟩, fun _ _ => ⟨rfl, rfl, rfl, rfl, rfl⟩, fun _ _ => rfl, fun _ _ => ⟨rfl, rfl, rfl⟩⟩
theorem sw_cop58 (V G : Sz) : CopL (sv 58 (sw 58 27 V G)) G := ⟨⟨rfl, rfl, rfl, rfl, rfl, rfl, rfl⟩, fun _ _ => rfl, fun _ _ => ⟨rfl, rfl, rfl⟩, fun _ _ => ⟨rfl, rfl, rfl, rfl, rfl, rfl⟩, fun _ _ => ⟨rfl, rfl, rfl, rfl, rfl⟩, fun _ _ => rfl, fun _ _ => ⟨rfl, rfl, rfl⟩⟩
theorem CopL.trans {A B C : Sz} (h : CopL A B) (h1 : CopL B C) : CopL A C := by
  obtain ⟨⟨a1, a2, a3, a4, a5, a6, a7⟩, b, c, d, e, f, g⟩ := h
  obtain ⟨⟨x1, x2, x3, x4, x5, x6, x7⟩, y, z, u, v, s, t⟩ := h1
  exact ⟨⟨a1.trans x1, a2.trans x2, a3.trans x3, a4.trans x4, a5.trans x5, a6.trans x6, a7.trans x7⟩, fun i hi => (b i hi).trans (y i hi), fun i hi => ⟨(c i hi).1.trans (z i hi).1, (c i hi).2.1.trans (z i hi).2.1, (c i hi).2.2.trans (z i hi).2.2⟩, fun i hi => ⟨(d i hi).1.trans (u i hi).1, (d i hi).2.1.trans (u i hi).2.1, (d i hi).2.2.1.trans (u i hi).2.2.1, (d i hi).2.2.2.1.trans (u i hi).2.2.2.1, (d i hi).2.2.2.2.1.trans (u i hi).2.2.2.2.1, (d i hi).2.2.2.2.2.trans (u i hi).2.2.2.2.2⟩, fun i hi => ⟨(e i hi).1.trans (v i hi).1, (e i hi).2.1.trans (v i hi).2.1, (e i hi).2.2.1.trans (v i hi).2.2.1, (e i hi).2.2.2.1.trans (v i hi).2.2.2.1, (e i hi).2.2.2.2.trans (v i hi).2.2.2.2⟩, fun i hi => (f i hi).trans (s i hi), fun i hi => ⟨(g i hi).1.trans (t i hi).1, (g i hi).2.1.trans (t i hi).2.1, (g i hi).2.2.trans (t i hi).2.2⟩⟩
theorem sw_out {o m : Nat} {V G : Sz} {k : Nat} (h : k < o ∨ o + m ≤ k) : sw o m V G k = V k := by
  unfold sw
  rw [if_neg (by omega)]
theorem ag_undo {V : Sz} {PV : Nat → Sz} {K : Nat} {V8 : Sz} (h : Rel V PV K V8) {n : Nat} (hn : 20000 < n) : TT (f_X8_undo n V8) (Cho PV K (f_X7_undo V PV K)) := by
  have hh := h
  obtain ⟨hL, hS, ⟨⟨p0, p1, p2, p3⟩, ⟨c0, c1, c2, c3⟩, hrows⟩, hI, hE, hO, hZ⟩ := h
  unfold f_X8_undo
  refine tt_nmE (fun V1 e1 => ?_)
  have hT : Thr V8 V1 0 := by rw [e1]; exact Thr.zero V8 0
  have e15 : V1 5 = V8 5 := hT.2 5 (by decide)
  rw [e15]
  refine tt_ck ⟨by omega, by omega⟩ (tt_ite (fun c => tt_some ⟨V, ?_, hh.thr hT⟩) (fun c => tt_nmE (fun V3 e3 => ?_)))
  · unfold f_X7_undo
    rw [ck_t ⟨by omega, by omega⟩, nm_s, ck_t ⟨by omega, by omega⟩, if_pos (by omega)]
  · have e35 : V3 5 0 = V8 5 0 - 1 := by rw [e3, us_at]
    have e34 : V3 4 = V8 4 := by rw [e3, us_ne (by decide)]; exact hT.2 4 (by decide)
    rw [e35, e34]
    refine tt_bd (x8_copies (by omega) (by decide) (by decide) (by omega) (by decide) (by decide) hn) (fun T hTT => tt_nmE (fun V5 e5 => tt_some ?_))
    have e55 : V5 5 0 = V8 5 0 - 1 := by rw [e5, uy_ne (by decide), e35]
    have e50 : V5 0 = T := by rw [e5, uy_at]
    have hrow := hrows (V8 5 0 - 1) (by omega) (by omega)
    have ey : (V 86 0 + 10 - V 87 0 + (V8 5 0 - 1)) % 10 = (V 86 0 + 10 - 1) % 10 := by omega
    rw [ey] at hrow
    obtain ⟨y, eyy⟩ : ∃ y, y = (V 86 0 + 10 - 1) % 10 := ⟨_, rfl⟩
    rw [← eyy] at hrow
    obtain ⟨G, eG, hG⟩ := c4_become (sv 4 V) (PV y.toNat)
    obtain ⟨Vc, eVc⟩ : ∃ Vc, Vc = us (us (sw 4 27 V G) 86 y) 87 (us (sw 4 27 V G) 86 y 87 0 - 1) := ⟨_, rfl⟩
    have f87 : Vc 87 0 = V 87 0 - 1 := by rw [eVc, us_at, us_ne (by decide), sw_out (by decide)]
    have f86 : Vc 86 0 = y := by rw [eVc, us_ne (by decide), us_at]
    have fo : ∀ k : Nat, k < 4 ∨ (31 ≤ k ∧ k ≠ 86 ∧ k ≠ 87) → Vc k = V k := fun k hk => by rw [eVc, us_ne (by omega), us_ne (by omega), sw_out (by omega)]
    have f4 : ∀ k : Nat, k ≤ 25 → Vc (k + 4) = sw 4 27 V G (k + 4) := fun k hk => by rw [eVc, us_ne (by omega), us_ne (by omega)]
    have hrr : ∀ i : Nat, i < 1233 → T i = rowAt (V8 4) (V8 5 0 - 1) i := fun i hi => by
      rw [hTT i, if_pos ⟨by omega, by show i < (0 + (1233 : Int)).toNat; omega⟩]
      unfold rowAt
      congr 1
      omega
    have hLn : LR (sv 4 Vc) (V5 0) := by
      rw [e50]
      exact leq_LR (leq_all hrow.2.2.1 hrr) (LR.copy (((cop_at f4).trans (sw_cop4 V G)).trans hG) hrow) (wfn_all hrow.2.2.1.1 hrr)
    refine ⟨Vc, ?_, hLn, ?_, ?_, ?_, ?_, ?_, ?_⟩
    · unfold f_X7_undo
      rw [ck_t ⟨by omega, by omega⟩, ← eyy, nm_s, ck_t ⟨by omega, by omega⟩, if_neg (by omega), if_pos (by omega), eG, bd_s, nm_s, nm_s, nm_s, ← eVc, f87]
      show some (V 87 0 - 1, Vc) = some (V5 5 0, Vc)
      rw [e55, c0]
    · show RelS Vc V5
      unfold RelS at *
      have q6 : V5 6 = V8 6 := by rw [e5, uy_ne (by decide), e3, us_ne (by decide)]; exact hT.2 6 (by decide)
      have q2 : V5 2 = V8 2 := by rw [e5, uy_ne (by decide), e3, us_ne (by decide)]; exact hT.2 2 (by decide)
      rw [fo 85 (by decide), q6, q2]
      refine ⟨hS.1, ?_⟩
      rcases hS.2 with q | ⟨u1, u2⟩
      · exact Or.inl q
      · exact Or.inr ⟨u1, LR.copy (cop_at (fun k hk => fo _ (by omega))) u2⟩
    · show RelP Vc PV K V5
      have q4 : V5 4 = V8 4 := by rw [e5, uy_ne (by decide), e34]
      unfold RelP
      rw [f86, f87, e55, q4]
      refine ⟨⟨by omega, by omega, by omega, p3⟩, ⟨by omega, by omega, by omega, by omega⟩, fun j j0 j1 => ?_⟩
      have := hrows j j0 (by omega)
      rw [show ((y + 10 - (V 87 0 - 1) + j) % 10).toNat = ((V 86 0 + 10 - V 87 0 + j) % 10).toNat by omega]
      exact this
    · show RelI Vc V5
      unfold RelI at *
      have q14 : V5 14 = V8 14 := by rw [e5, uy_ne (by decide), e3, us_ne (by decide)]; exact hT.2 14 (by decide)
      have q15 : V5 15 = V8 15 := by rw [e5, uy_ne (by decide), e3, us_ne (by decide)]; exact hT.2 15 (by decide)
      rw [fo 1 (by decide), fo 0 (by decide), q14, q15]; exact hI
    · show RelE Vc V5
      unfold RelE at *
      have q16 : V5 16 = V8 16 := by rw [e5, uy_ne (by decide), e3, us_ne (by decide)]; exact hT.2 16 (by decide)
      have q17 : V5 17 = V8 17 := by rw [e5, uy_ne (by decide), e3, us_ne (by decide)]; exact hT.2 17 (by decide)
      rw [fo 2 (by decide), fo 3 (by decide), q16, q17]; exact hE
    · show RelO Vc V5
      unfold RelO at *
      have q30 : V5 30 = V8 30 := by rw [e5, uy_ne (by decide), e3, us_ne (by decide)]; exact hT.2 30 (by decide)
      have q31 : V5 31 = V8 31 := by rw [e5, uy_ne (by decide), e3, us_ne (by decide)]; exact hT.2 31 (by decide)
      rw [fo 100 (by decide), fo 99 (by decide), q30, q31]; exact hO
    · show RelZ V5
      have q4 : V5 4 = V8 4 := by rw [e5, uy_ne (by decide), e34]
      have q6 : V5 6 = V8 6 := by rw [e5, uy_ne (by decide), e3, us_ne (by decide)]; exact hT.2 6 (by decide)
      have q2 : V5 2 = V8 2 := by rw [e5, uy_ne (by decide), e3, us_ne (by decide)]; exact hT.2 2 (by decide)
      unfold RelZ at *
      rw [e50, q4, q6, q2, e55]
      exact ⟨wfz_same hrow.2.2.1 (hrr 2 (by decide)) (fun i _ i1 => hrr i (by omega)) (hZ.2.2 _ (by omega) (by omega)), hZ.2.1, fun j j0 j1 => hZ.2.2 j j0 (by omega)⟩
theorem ag_saveState {V X : Sz} {PV : Nat → Sz} {K : Nat} {V8 : Sz} (h : Rel V PV K V8) {n : Nat} (hn : 20000 < n) : TT (f_X8_saveState n V8) (Cho PV K (f_X7_saveState V X)) := by
  obtain ⟨hL, hS, hP, hI, hE, hO, hZ⟩ := h
  unfold f_X8_saveState
  refine tt_nmE (fun V1 e1 => ?_)
  have hT : Thr V8 V1 0 := by rw [e1]; exact Thr.zero V8 0
  refine tt_bd (x8_copies (by decide) (by decide) (by decide) (by decide) (by decide) (by decide) hn) (fun T hTT => tt_nmE (fun V3 e3 => tt_nmE (fun V4 e4 => tt_some ?_)))
  obtain ⟨G, eG, hG⟩ := c4_become (sv 58 V) (sv 4 V)
  obtain ⟨Vc, eVc⟩ : ∃ Vc, Vc = us (sw 58 27 V G) 85 1 := ⟨_, rfl⟩
  have fo : ∀ k : Nat, k < 58 ∨ 85 < k → Vc k = V k := fun k hk => by rw [eVc, us_ne (by omega), sw_out (by omega)]
  have f58 : ∀ k : Nat, k ≤ 25 → Vc (k + 58) = sw 58 27 V G (k + 58) := fun k hk => by rw [eVc, us_ne (by omega)]
  have q : ∀ k : Nat, k ≠ 2 → k ≠ 6 → k ≠ 9 → V4 k = V8 k := fun k k2 k6 k9 => by rw [e4, us_ne k6, e3, uy_ne k2]; exact hT.2 k k9
  have q2 : V4 2 = T := by rw [e4, us_ne (by decide), e3, uy_at]
  have q6 : V4 6 0 = 1 := by rw [e4, us_at]
  have hrr : ∀ i : Nat, i < 1233 → T i = V8 0 i := fun i hi => by
    rw [hTT i, if_pos ⟨by omega, by show i < (0 + (1233 : Int)).toNat; omega⟩, hT.2 0 (by decide)]
    congr 1
    show (0 : Int).toNat + (i - (0 : Int).toNat) = i
    omega
  refine ⟨Vc, ?_, ?_, ?_, ?_, ?_, ?_, ?_, ?_⟩
  · unfold f_X7_saveState
    rw [eG, bd_s, nm_s, nm_s, ← eVc, fo 13 (by decide), hL.at.2.2.2.2.2.1]
    show some (V8 0 2, Vc) = some (V4 0 2, Vc)
    rw [q 0 (by decide) (by decide) (by decide)]
  · show LR (sv 4 Vc) (V4 0)
    rw [q 0 (by decide) (by decide) (by decide)]
    exact LR.copy (cop_at (fun k hk => fo _ (by omega))) hL
  · show RelS Vc V4
    unfold RelS
    rw [q6, q2]
    refine ⟨by rw [eVc, us_at], Or.inr ⟨rfl, leq_LR (leq_all hL.2.2.1 hrr) (LR.copy (((cop_at f58).trans (sw_cop58 V G)).trans hG) hL) (wfn_all hL.2.2.1.1 hrr)⟩⟩
  · show RelP Vc PV K V4
    unfold RelP at *
    rw [fo 86 (by decide), fo 87 (by decide), q 5 (by decide) (by decide) (by decide), q 4 (by decide) (by decide) (by decide)]; exact hP
  · show RelI Vc V4
    unfold RelI at *
    rw [fo 1 (by decide), fo 0 (by decide), q 15 (by decide) (by decide) (by decide), q 14 (by decide) (by decide) (by decide)]; exact hI
  · show RelE Vc V4
    unfold RelE at *
    rw [fo 2 (by decide), fo 3 (by decide), q 16 (by decide) (by decide) (by decide), q 17 (by decide) (by decide) (by decide)]; exact hE
  · show RelO Vc V4
    unfold RelO at *
    rw [fo 100 (by decide), fo 99 (by decide), q 31 (by decide) (by decide) (by decide), q 30 (by decide) (by decide) (by decide)]; exact hO
  · show RelZ V4
    unfold RelZ at *
    rw [q2, q 0 (by decide) (by decide) (by decide), q 4 (by decide) (by decide) (by decide), q 5 (by decide) (by decide) (by decide)]
    exact ⟨hZ.1, fun _ => wfz_same hL.2.2.1 (hrr 2 (by decide)) (fun i _ i1 => hrr i (by omega)) hZ.1, hZ.2.2⟩
theorem ag_restoreState {V X : Sz} {PV : Nat → Sz} {K : Nat} {V8 : Sz} (h : Rel V PV K V8) {n : Nat} (hn : 20000 < n) : TT (f_X8_restoreState n V8) (Chs cdS V PV K (f_X7_restoreState V X)) := by
  have hh := h
  obtain ⟨hL, hS, hP, hI, hE, hO, hZ⟩ := h
  unfold f_X8_restoreState
  refine tt_nmE (fun V1 e1 => ?_)
  have hT : Thr V8 V1 0 := by rw [e1]; exact Thr.zero V8 0
  have e16 : V1 6 = V8 6 := hT.2 6 (by decide)
  rw [e16]
  have h6 : rng (V8 6 0) := by
    rcases hS.2 with q | ⟨q, _⟩ <;> rw [q] <;> exact ⟨by decide, by decide⟩
  refine tt_ck h6 (tt_ite (fun c => ?_) (fun c => ?_))
  · unfold jX8_restoreState_18
    refine f1_t (tt_f (by decide) (tt_some (chs_no (e := 2) hh ?_ (hT.trans (Thr.zero V1 1)) rfl (by decide))))
    unfold f_X7_restoreState
    rw [hS.1, ck_t h6, if_pos c]
  · have hsv : LR (sv 58 V) (V8 2) := by
      rcases hS.2 with q | ⟨_, q⟩
      · exact (c q).elim
      · exact q
    unfold jX8_restoreState_18
    refine f0_t (tt_t rfl ?_)
    refine tt_bd (x8_copies (by decide) (by decide) (by decide) (by decide) (by decide) (by decide) hn) (fun T hTT => tt_nmE (fun V6 e6 => tt_nmE (fun V7 e7 => tt_some ?_)))
    obtain ⟨G, eG, hG⟩ := c4_become (sv 4 V) (sv 58 V)
    obtain ⟨Vc, eVc⟩ : ∃ Vc, Vc = us (sw 4 27 V G) 87 0 := ⟨_, rfl⟩
    have fo : ∀ k : Nat, k < 4 ∨ (31 ≤ k ∧ k ≠ 87) → Vc k = V k := fun k hk => by rw [eVc, us_ne (by omega), sw_out (by omega)]
    have f4 : ∀ k : Nat, k ≤ 25 → Vc (k + 4) = sw 4 27 V G (k + 4) := fun k hk => by rw [eVc, us_ne (by omega)]
    have q : ∀ k : Nat, k ≠ 0 → k ≠ 5 → V7 k = V1 k := fun k k0 k5 => by rw [e7, us_ne k5, e6, uy_ne k0]
    have q8 : ∀ k : Nat, k ≠ 0 → k ≠ 5 → k ≠ 9 → V7 k = V8 k := fun k k0 k5 k9 => by rw [q k k0 k5]; exact hT.2 k k9
    have q0 : V7 0 = T := by rw [e7, us_ne (by decide), e6, uy_at]
    have q5 : V7 5 0 = 0 := by rw [e7, us_at]
    have hrr : ∀ i : Nat, i < 1233 → T i = V8 2 i := fun i hi => by
      rw [hTT i, if_pos ⟨by omega, by show i < (0 + (1233 : Int)).toNat; omega⟩, hT.2 2 (by decide)]
      congr 1
      show (0 : Int).toNat + (i - (0 : Int).toNat) = i
      omega
    have hLn : LR (sv 4 Vc) (V7 0) := by
      rw [q0]
      exact leq_LR (leq_all hsv.2.2.1 hrr) (LR.copy (((cop_at f4).trans (sw_cop4 V G)).trans hG) hsv) (wfn_all hsv.2.2.1.1 hrr)
    refine Or.inl ⟨Vc, ?_, ?_, hLn, ?_, ?_, ?_, ?_, ?_, ?_⟩
    · unfold f_X7_restoreState
      rw [hS.1, ck_t h6, if_neg c, eG, bd_s, nm_s, nm_s, ← eVc, bl_s, hLn.at.2.2.2.2.2.1]
    · show V7 9 0 = 0
      rw [q 9 (by decide) (by decide)]; exact hT.1
    · show RelS Vc V7
      unfold RelS at *
      rw [fo 85 (by decide), q8 6 (by decide) (by decide) (by decide), q8 2 (by decide) (by decide) (by decide)]
      refine ⟨hS.1, ?_⟩
      rcases hS.2 with q | ⟨u1, u2⟩
      · exact Or.inl q
      · exact Or.inr ⟨u1, LR.copy (cop_at (fun k hk => fo _ (by omega))) u2⟩
    · show RelP Vc PV K V7
      obtain ⟨⟨p0, p1, p2, p3⟩, ⟨c0, c1, c2, c3⟩, hrows⟩ := hP
      have f87 : Vc 87 0 = 0 := by rw [eVc, us_at]
      unfold RelP
      rw [fo 86 (by decide), f87, q5]
      exact ⟨⟨p0, p1, p2, p3⟩, ⟨rfl, Int.le_refl _, by decide, by omega⟩, fun j j0 j1 => by omega⟩
    · show RelI Vc V7
      unfold RelI at *
      rw [fo 1 (by decide), fo 0 (by decide), q8 15 (by decide) (by decide) (by decide), q8 14 (by decide) (by decide) (by decide)]; exact hI
    · show RelE Vc V7
      unfold RelE at *
      rw [fo 2 (by decide), fo 3 (by decide), q8 16 (by decide) (by decide) (by decide), q8 17 (by decide) (by decide) (by decide)]; exact hE
    · show RelO Vc V7
      unfold RelO at *
      rw [fo 100 (by decide), fo 99 (by decide), q8 31 (by decide) (by decide) (by decide), q8 30 (by decide) (by decide) (by decide)]; exact hO
    · show RelZ V7
      have h61 : V8 6 0 = 1 := by
        rcases hS.2 with q | ⟨q, _⟩
        · exact (c q).elim
        · exact q
      unfold RelZ at *
      rw [q0, q5, q8 6 (by decide) (by decide) (by decide), q8 2 (by decide) (by decide) (by decide)]
      exact ⟨wfz_same hsv.2.2.1 (hrr 2 (by decide)) (fun i _ i1 => hrr i (by omega)) (hZ.2.1 h61), hZ.2.1, fun j j0 j1 => by omega⟩
/-! the use of a declaration -/
theorem tot_geq {w w1 : Rw} (h : Geq w w1) (hw : WF w) (hw1 : WF w1) (hf : ∀ d t : Int, 0 ≤ d → 0 ≤ t → forB w1 d t = forB w d t) : totS w1 = totS w := by
  have a0 := hw.2.1.1
  have a2 := hw.2.1.2.2.1
  have e0 : w1 0 = w 0 := h.1 0 (by decide) (by decide)
  have e2 : w1 2 = w 2 := h.1 2 (by decide) (by decide)
  unfold totS
  rw [aid_donors hw, aid_donors hw1, e0]
  refine sumN_congr (fun d d0 d1 => donA_congr hw e2 (fun g g0 g1 => (geq_gift h g0 (by omega)).1) (h.1 _ (by omega) (by omega)) (fun g g0 g1 => ?_))
  have hgw := hw.2.2.2.2.1 g g0 g1
  obtain ⟨q1, q2, q3, q4, q5⟩ := geq_gift h g0 (show g < 60 by omega)
  unfold wishD
  rw [q4]
  refine sumN_congr (fun i i0 i1 => ?_)
  have hpt := part_of hw g0 g1 i0 (show i < wMany w g by omega)
  have hpw := hw.2.2.2.2.2.1 g i g0 g1 i0 (by omega)
  obtain ⟨u1, -⟩ := geq_slot h hpt.1.1 hpt.1.2
  have es : wishS w1 (3 * g + i) = wishS w (3 * g + i) := by
    unfold wishS
    rw [u1, (geq_open h hpt.1.1 hpt.1.2).1, hpt.2.1, q1, hf _ _ hpw.1 hgw.1]
  rw [u1, es]
theorem forB_cut {w : Rw} (hw : WF w) {k x x1 : Int} (k0 : 0 ≤ k) (k1 : k < w 1) (hx : x < wFr w k) (hx1 : x1 < wFr w k) (d t : Int) : forB (up w (82 + k).toNat x1) d t = forB (up w (82 + k).toNat x) d t := by
  have a1 := hw.2.1.2.1
  unfold forB
  rw [show up w (82 + k).toNat x1 1 = w 1 from up_ne (by omega), show up w (82 + k).toNat x 1 = w 1 from up_ne (by omega)]
  refine anyN_congr (fun j j0 j1 => ?_)
  obtain ⟨x1', x2', x3'⟩ := to_decl (w := w) (x := x1) k0 (show k ≤ 30 by omega) j0 (show j ≤ 30 by omega)
  obtain ⟨y1, y2, y3⟩ := to_decl (w := w) (x := x) k0 (show k ≤ 30 by omega) j0 (show j ≤ 30 by omega)
  unfold onB
  rw [x1', x2', x3', y1, y2, y3]
  by_cases e : j = k
  · subst e
    rw [if_pos rfl, if_pos rfl]
    by_cases c : wFr w j ≤ t
    · rw [decide_eq_false (show ¬ t ≤ x1 by omega), decide_eq_false (show ¬ t ≤ x by omega)]
    · rw [decide_eq_false c, Bool.false_and, Bool.false_and]
  · rw [if_neg e, if_neg e]
theorem totS_meas {w : Rw} : sumPS w (measS w 2) = totS w := by
  unfold totS
  congr 1
theorem settle_LR31 {V7 Vs : Sz} {w : Rw} (h0 : LR0 (sv 31 V7) w) (hw : WF w) (h30 : w 1 ≤ 30) (hk : ∀ k : Nat, k < 23 → Vs k = sv 31 V7 k) (hv : LRw Vs w) : LR (sv 31 (sw 31 27 V7 Vs)) w := LR.copy (sw_cop31 V7 Vs) ⟨h0.same hk, hv, hw, h30⟩
theorem ag_useOf {V X : Sz} {PV : Nat → Sz} {K : Nat} {V8 : Sz} (h : Rel V PV K V8) {n : Nat} (hn : 20000 < n) {k : Int} (hk : rng k) : TT (f_X8_useOf n V8 k) (Chs cdA V PV K (f_X7_useOf n V X k)) := by
  have hL := h.1
  have hw := hL.2.2.1
  have h30 := hL.2.2.2
  have a1 := hw.2.1.2.1
  unfold f_X8_useOf
  refine tt_bd (x8_noDeclaration hw hk) (fun ⟨r1, V1⟩ hr => ref_f hr (fun ok hT => ?_) (fun no hT => tt_some (chs_no (e := 0) h ?_ hT rfl (by decide))))
  · have e10 : V1 0 = V8 0 := hT.2 0 (by decide)
    have hkw := hw.2.2.2.1 k ok.1 ok.2
    refine tt_bd (x8_allAid (V0 := V1) (by rw [e10]; exact hw) (by omega)) (fun ⟨r3, V4⟩ ⟨hr3, hA4⟩ => ?_)
    have hr3 : r3 = totS (V1 0) := hr3
    rw [e10] at hr3
    have hA4 : AidOK V1 V4 := hA4
    have e40 : V4 0 = V8 0 := (hA4.1 0 (by decide) (by decide) (by decide) (by decide)).trans e10
    have e4t : V4 0 (82 + k).toNat = wTo (V8 0) k := by rw [e40]; rfl
    have e4f : V4 0 (51 + k).toNat = wFr (V8 0) k := by rw [e40]; rfl
    refine tt_ck ⟨by omega, by omega⟩ (tt_nmE (fun x6 ex6 => tt_ck ⟨by omega, by omega⟩ (tt_nmE (fun V6 e6 => ?_))))
    have e60 : V6 0 = up (V8 0) (82 + k).toNat (wFr (V8 0) k - 1) := by rw [e6, uz_at, e4f, e40]
    have hw6 : WF (V6 0) := by rw [e60]; exact wf_to hw ok.1 ok.2 (by omega) (by omega)
    refine tt_bd (x8_allAid (V0 := V6) hw6 (by omega)) (fun ⟨r9, V9⟩ ⟨hr9, hA9⟩ => tt_nmE (fun V11 e11 => tt_some ?_))
    have hr9 : r9 = totS (V6 0) := hr9
    have hA9 : AidOK V6 V9 := hA9
    have e90 : V9 0 = V6 0 := hA9.1 0 (by decide) (by decide) (by decide) (by decide)
    have e110 : V11 0 = V8 0 := by
      rw [e11, uz_at, e90, e60, ex6, e4t]
      exact up_back
    have hrest : ∀ j : Nat, j ≠ 0 → j < 9 ∨ 13 < j → V11 j = V8 j := fun j j0 j1 => by
      rw [e11, uz_ne j0, hA9.1 j (by omega) (by omega) (by omega) (by omega), e6, uz_ne j0, hA4.1 j (by omega) (by omega) (by omega) (by omega)]
      exact hT.2 j (by omega)
    -- the class: the register's own trial
    have hx7 : TT (f_X7_useOf n V X k) (fun y => ∃ V2, y = .inl (totS (V8 0) - totS (up (V8 0) (82 + k).toNat (min (wTo (V8 0) k) (0 - 1))), V2) ∧ ∀ j : Nat, j < 31 ∨ 58 ≤ j → V2 j = V j) := by
      unfold f_X7_useOf
      rw [x7_declY hL hk ok, bx_l]
      refine tt_bl (tt_bd (c4_become (sv 31 V) (sv 4 V)) (fun G hG => tt_nmE (fun Vb eb => ?_)))
      have hLb : LR (sv 31 Vb) (V8 0) := by rw [eb]; exact LR.copy ((sw_cop31 V G).trans hG) hL
      have e3 : sv 36 Vb 3 k.toNat = wTo (V8 0) k := (hLb.1.2.2.1 k ok.1 ok.2).2.2
      rw [c1_cutFrom ⟨ok.1, by omega⟩ (by rw [e3]; constructor <;> omega) ⟨by decide, by decide⟩, bd_s, e3]
      refine tt_nmE (fun Vc ec => ?_)
      obtain ⟨w1, ew1⟩ : ∃ w1, w1 = up (V8 0) (82 + k).toNat (min (wTo (V8 0) k) (0 - 1)) := ⟨_, rfl⟩
      have hw1 : WF w1 := by rw [ew1]; exact wf_to hw ok.1 ok.2 (by omega) (by omega)
      have h301 : w1 1 ≤ 30 := by rw [ew1, up_ne (by omega)]; exact h30
      have hL0 : LR0 (sv 31 Vc) w1 := by
        rw [ew1]
        subst ec
        refine cut_LR0 hLb.1 hw h30 ok.1 ok.2 (fun j j22 j8 => ?_) ?_
        · show sw 36 4 Vb _ (j + 31) = Vb (j + 31)
          unfold sw
          split
          · rw [uz_ne (by omega)]
            show Vb (j + 31 - 36 + 36) = Vb (j + 31)
            rw [show j + 31 - 36 + 36 = j + 31 by omega]
          · rfl
        · show uz (sv 36 Vb) 3 k.toNat (min (wTo (V8 0) k) (0 - 1)) 3 = _
          rw [uz_at]; rfl
      refine tt_bd (c4_settle hL0 hw1 h301 (by omega)) (fun Vs ⟨hks, hvs⟩ => tt_nmE (fun Vd ed => ?_))
      have hLd : LR (sv 31 Vd) w1 := by rw [ed]; exact settle_LR31 hL0 hw1 h301 hks hvs
      have hod : ∀ j : Nat, j < 31 ∨ 58 ≤ j → Vd j = V j := fun j hj => by
        rw [ed, sw_out (by omega), ec, sw_out (by omega), eb, sw_out (by omega)]
      have hLn : LR (sv 4 Vd) (V8 0) := LR.copy (cop_at (fun j hj => hod _ (by omega))) hL
      rw [c4_sumOfAll hLn (by omega) ⟨by decide, by decide⟩, bd_s, c4_sumOfAll hLd (by omega) ⟨by decide, by decide⟩, bd_s, totS_meas, totS_meas]
      exact tt_some ⟨Vd, by rw [ew1], hod⟩
    obtain ⟨y, ey, V2, rfl, ho⟩ := hx7
    refine Or.inl ⟨V2, ?_, ?_, ?_⟩
    · rw [ey]
      have et : totS (V6 0) = totS (up (V8 0) (82 + k).toNat (min (wTo (V8 0) k) (0 - 1))) := by
        have hwa : WF (up (V8 0) (82 + k).toNat (min (wTo (V8 0) k) (0 - 1))) := wf_to hw ok.1 ok.2 (by omega) (by omega)
        rw [e60]
        refine tot_geq ?_ hwa (by rw [← e60]; exact hw6) (fun d t _ _ => forB_cut hw ok.1 ok.2 (by omega) (by omega) d t)
        exact ⟨fun i i0 _ => by rw [up_ne (by omega), up_ne (by omega)], fun i i0 i1 => by rw [up_ne (by omega), up_ne (by omega)]⟩
      show _ = some (Sum.inl (r3 - r9, V2))
      rw [hr3, hr9, et]
    · show V11 9 0 = 0
      rw [e11, uz_ne (by decide), hA9.1 9 (by decide) (by decide) (by decide) (by decide), e6, uz_ne (by decide), hA4.1 9 (by decide) (by decide) (by decide) (by decide)]
      exact hT.1
    · refine h.keep (fun j hj => ho j (by omega)) (fun j hj => ?_)
      by_cases e : j = 0
      · rw [e]; exact e110
      · exact hrest j e (by omega)
  · unfold f_X7_useOf
    rw [x7_declN hL hk no]; rfl
