/-! changes: what is remembered -/
theorem x8_remembers {V0 : Sz} {n : Nat} (hn : 20000 < n) (hm : 0 ≤ V0 5 0 ∧ V0 5 0 ≤ 10) : TT (f_X8_remembers n V0) (fun V => (∀ k : Nat, k ≠ 4 → k ≠ 5 → V k = V0 k) ∧ V 5 0 = min (V0 5 0 + 1) 10 ∧ (∀ j : Int, 0 ≤ j → j < V 5 0 - 1 → ∀ i : Nat, i < 1233 → rowAt (V 4) j i = rowAt (V0 4) (if V0 5 0 = 10 then j + 1 else j) i) ∧ ∀ i : Nat, i < 1233 → rowAt (V 4) (V 5 0 - 1) i = V0 0 i) := by
  have tail : ∀ (V : Sz) (m : Int), 0 ≤ m → m ≤ 9 → V 5 0 = m → V 0 = V0 0 → (∀ k : Nat, k ≠ 4 → k ≠ 5 → V k = V0 k) → m + 1 = min (V0 5 0 + 1) 10 → (∀ j : Int, 0 ≤ j → j < m → ∀ i : Nat, i < 1233 → rowAt (V 4) j i = rowAt (V0 4) (if V0 5 0 = 10 then j + 1 else j) i) → TT (jX8_remembers_37 n V) (fun V => (∀ k : Nat, k ≠ 4 → k ≠ 5 → V k = V0 k) ∧ V 5 0 = min (V0 5 0 + 1) 10 ∧ (∀ j : Int, 0 ≤ j → j < V 5 0 - 1 → ∀ i : Nat, i < 1233 → rowAt (V 4) j i = rowAt (V0 4) (if V0 5 0 = 10 then j + 1 else j) i) ∧ ∀ i : Nat, i < 1233 → rowAt (V 4) (V 5 0 - 1) i = V0 0 i) := by
    intro V m m0 m9 e5 e0 hk hmm hrow
    unfold jX8_remembers_37
    rw [e5]
    refine tt_bd (x8_copies (by decide) (by omega) (by decide) (by decide) (by omega) (by decide) hn) (fun T hT => tt_nmE (fun V3 e3 => tt_nmE (fun V4 e4 => tt_some ?_)))
    have e35 : V3 5 0 = m := by rw [e3, uy_ne (by decide), e5]
    have e45 : V4 5 0 = m + 1 := by rw [e4, us_at, e35]
    have e44 : V4 4 = T := by rw [e4, us_ne (by decide), e3, uy_at]
    refine ⟨fun k k4 k5 => ?_, by rw [e45, hmm], fun j j0 j1 i hi => ?_, fun i hi => ?_⟩
    · rw [e4, us_ne k5, e3, uy_ne k4]; exact hk k k4 k5
    · rw [e45] at j1
      rw [e44, ← hrow j j0 (by omega) i hi]
      unfold rowAt
      rw [hT, if_neg (by omega)]
    · rw [e44, e45, show m + 1 - 1 = m by omega]
      unfold rowAt
      rw [hT, if_pos ⟨by omega, by omega⟩, e0]
      congr 1
      omega
  unfold f_X8_remembers
  refine tt_ck ⟨by omega, by omega⟩ (tt_ite (fun c => ?_) (fun c => ?_))
  · refine tt_bd (x8_copies_same (by decide) (by decide) (by decide) (by decide) (by decide) hn) (fun T hT => tt_nmE (fun V6 e6 => tt_nmE (fun V7 e7 => ?_)))
    have e75 : V7 5 0 = 9 := by rw [e7, us_at, e6, uy_ne (by decide), c]; rfl
    have e74 : V7 4 = T := by rw [e7, us_ne (by decide), e6, uy_at]
    refine tail V7 9 (by decide) (by decide) e75 (by rw [e7, us_ne (by decide), e6, uy_ne (by decide)]) (fun k k4 k5 => by rw [e7, us_ne k5, e6, uy_ne k4]) (by omega) (fun j j0 j1 i hi => ?_)
    rw [e74, if_pos c]
    unfold rowAt
    rw [hT, if_pos ⟨by show 0 ≤ _; omega, by show _ < (0 + (11097 : Int)).toNat; omega⟩]
    congr 1
    show (1233 : Int).toNat + (1233 * j.toNat + i - (0 : Int).toNat) = 1233 * (j + 1).toNat + i
    omega
  · exact tail V0 (V0 5 0) hm.1 (by omega) rfl rfl (fun _ _ _ => rfl) (by omega) (fun j _ _ i _ => by rw [if_neg c])
theorem remember_both {V : Sz} {PV : Nat → Sz} {K : Nat} {V8 : Sz} (h : Rel V PV K V8) {n : Nat} (hn : 20000 < n) : TT (f_X8_remembers n V8) (fun V9 => (∀ k : Nat, k ≠ 4 → k ≠ 5 → V9 k = V8 k) ∧ ∃ V1 PV1 K1, f_X7_remember V PV K = some (V1, PV1, K1) ∧ (∀ k : Nat, k ≠ 86 → k ≠ 87 → V1 k = V k) ∧ RelP V1 PV1 K1 V9 ∧ ∀ j : Int, 0 ≤ j → j < V9 5 0 → WFz (rowAt (V9 4) j)) := by
  obtain ⟨hL, -, ⟨⟨p0, p1, p2, p3⟩, ⟨c0, c1, c2, c3⟩, hrows⟩, -, -, -, hz⟩ := h
  refine tt_mono (x8_remembers hn (by omega)) (fun V9 ⟨hk, h5, hold, hnew⟩ => ⟨hk, ?_⟩)
  obtain ⟨G, eG, hG⟩ := c4_become (if (V 86 0).toNat < K then PV (V 86 0).toNat else z0_X4) (sv 4 V)
  have hLG : LR G (V8 0) := LR.copy hG hL
  obtain ⟨Vb, eVb⟩ : ∃ Vb, Vb = us (us V 86 ((V 86 0 + 1) % 10)) 87 (min ((us V 86 ((V 86 0 + 1) % 10)) 87 0 + 1) 10) := ⟨_, rfl⟩
  have b87 : Vb 87 0 = min (V 87 0 + 1) 10 := by rw [eVb, us_at, us_ne (by decide)]
  have b86 : Vb 86 0 = (V 86 0 + 1) % 10 := by rw [eVb, us_ne (by decide), us_at]
  refine ⟨Vb, zup PV (V 86 0).toNat G, max K ((V 86 0).toNat + 1), ?_, fun k k6 k7 => by rw [eVb, us_ne k7, us_ne k6], ?_, ?_⟩
  · unfold f_X7_remember
    rw [ck_t ⟨p0, p1⟩, ck_t (by omega), eG, bd_s, nm_s, ck_t (by rw [us_ne (by decide)]; constructor <;> omega), nm_s, ← eVb]
  · unfold RelP
    rw [b86, b87]
    refine ⟨⟨by omega, by omega, by omega, by omega⟩, ⟨by rw [h5, ← c0], by omega, by omega, by omega⟩, fun j j0 j1 => ?_⟩
    have hz : ∀ i : Nat, zup PV (V 86 0).toNat G i = if i = (V 86 0).toNat then G else PV i := fun i => rfl
    by_cases e : j = min (V 87 0 + 1) 10 - 1
    · have ei : (((V 86 0 + 1) % 10 + 10 - min (V 87 0 + 1) 10 + j) % 10).toNat = (V 86 0).toNat := by omega
      rw [ei, hz, if_pos rfl]
      refine leq_LR (leq_all hL.2.2.1 (fun i hi => ?_)) hLG (wfn_all hL.2.2.1.1 (fun i hi => ?_))
      · rw [e, ← hnew i hi, h5, c0]
      · rw [e, ← hnew i hi, h5, c0]
    · have hlt : j < V9 5 0 - 1 := by omega
      have hrow := hold j j0 hlt
      by_cases e10 : V8 5 0 = 10
      · have hL1 := hrows (j + 1) (by omega) (by omega)
        have ei : (((V 86 0 + 1) % 10 + 10 - min (V 87 0 + 1) 10 + j) % 10).toNat = ((V 86 0 + 10 - V 87 0 + (j + 1)) % 10).toNat := by omega
        rw [ei, hz, if_neg (by omega)]
        have hr : ∀ i : Nat, i < 1233 → rowAt (V9 4) j i = rowAt (V8 4) (j + 1) i := fun i hi => by rw [hrow i hi, if_pos e10]
        exact leq_LR (leq_all hL1.2.2.1 hr) hL1 (wfn_all hL1.2.2.1.1 hr)
      · have hL1 := hrows j (by omega) (by omega)
        have ei : (((V 86 0 + 1) % 10 + 10 - min (V 87 0 + 1) 10 + j) % 10).toNat = ((V 86 0 + 10 - V 87 0 + j) % 10).toNat := by omega
        rw [ei, hz, if_neg (by omega)]
        have hr : ∀ i : Nat, i < 1233 → rowAt (V9 4) j i = rowAt (V8 4) j i := fun i hi => by rw [hrow i hi, if_neg e10]
        exact leq_LR (leq_all hL1.2.2.1 hr) hL1 (wfn_all hL1.2.2.1.1 hr)
  · intro j j0 j1
    by_cases e : j = V9 5 0 - 1
    · have hr : ∀ i : Nat, i < 1233 → rowAt (V9 4) j i = V8 0 i := fun i hi => by rw [e, hnew i hi]
      exact wfz_same hL.2.2.1 (hr 2 (by decide)) (fun i _ i1 => hr i (by omega)) hz.1
    · have hrow := hold j j0 (by omega)
      by_cases e10 : V8 5 0 = 10
      · have hr : ∀ i : Nat, i < 1233 → rowAt (V9 4) j i = rowAt (V8 4) (j + 1) i := fun i hi => by rw [hrow i hi, if_pos e10]
        exact wfz_same (hrows (j + 1) (by omega) (by omega)).2.2.1 (hr 2 (by decide)) (fun i _ i1 => hr i (by omega)) (hz.2.2 (j + 1) (by omega) (by omega))
      · have hr : ∀ i : Nat, i < 1233 → rowAt (V9 4) j i = rowAt (V8 4) j i := fun i hi => by rw [hrow i hi, if_neg e10]
        exact wfz_same (hrows j (by omega) (by omega)).2.2.1 (hr 2 (by decide)) (fun i _ i1 => hr i (by omega)) (hz.2.2 j j0 (by omega))
/-- a change's answer -/
def Chg (cf : Nat → Int) (V : Sz) (PV : Nat → Sz) (K : Nat) (x : Option ((Int × Sz × (Nat → Sz) × Nat) ⊕ Nat)) (r : Int × Sz) : Prop :=
  (∃ V1 PV1 K1, x = some (.inl (r.1, V1, PV1, K1)) ∧ r.2 9 0 = 0 ∧ Rel V1 PV1 K1 r.2) ∨ ∃ e : Nat, x = some (.inr e) ∧ r.2 9 0 = cf e ∧ cf e ≠ 0 ∧ Rel V PV K r.2
theorem Rel.thr {V : Sz} {PV : Nat → Sz} {K : Nat} {V8 V9 : Sz} {z : Int} (h : Rel V PV K V8) (hT : Thr V8 V9 z) : Rel V PV K V9 := h.keep (fun _ _ => rfl) (fun k hk => hT.2 k (by omega))
theorem chg_no {cf : Nat → Int} {V : Sz} {PV : Nat → Sz} {K : Nat} {x : Option ((Int × Sz × (Nat → Sz) × Nat) ⊕ Nat)} {V8 V9 : Sz} {v z : Int} {e : Nat} (h : Rel V PV K V8) (hx : x = some (.inr e)) (hT : Thr V8 V9 z) (hz : z = cf e) (h0 : z ≠ 0) : Chg cf V PV K x (v, V9) := Or.inr ⟨e, hx, hT.1.trans hz, by rw [← hz]; exact h0, h.thr hT⟩
theorem Rel.change {V V1 V2 : Sz} {PV PV1 : Nat → Sz} {K K1 : Nat} {V8 V9 V10 : Sz} (h : Rel V PV K V8) (hP : RelP V1 PV1 K1 V9) (h7 : ∀ k : Nat, k < 4 ∨ 31 ≤ k → V2 k = V1 k) (h1 : ∀ k : Nat, k ≠ 86 → k ≠ 87 → V1 k = V k) (h8 : ∀ k : Nat, k = 2 ∨ k = 6 ∨ (14 ≤ k ∧ k ≤ 17) ∨ k = 30 ∨ k = 31 → V10 k = V8 k) (h4 : V10 4 = V9 4 ∧ V10 5 = V9 5) (hL : LR (sv 4 V2) (V10 0)) (hz0 : WFz (V10 0)) (hzP : ∀ j : Int, 0 ≤ j → j < V9 5 0 → WFz (rowAt (V9 4) j)) : Rel V2 PV1 K1 V10 := by
  obtain ⟨-, h2, -, h4', h5, h6, hz⟩ := h
  have e : ∀ k : Nat, k < 4 ∨ (31 ≤ k ∧ k ≠ 86 ∧ k ≠ 87) → V2 k = V k := fun k hk => (h7 k (by omega)).trans (h1 k (by omega) (by omega))
  refine ⟨hL, ?_, ?_, ?_, ?_, ?_, ?_⟩
  · unfold RelS at *
    rw [e 85 (by decide), h8 6 (by decide), h8 2 (by decide)]
    refine ⟨h2.1, ?_⟩
    rcases h2.2 with q | ⟨q1, q2⟩
    · exact Or.inl q
    · refine Or.inr ⟨q1, LR.copy ?_ q2⟩
      unfold CopL sv
      rw [e (0 + 58) (by decide), e (1 + 58) (by decide), e (2 + 58) (by decide), e (3 + 58) (by decide), e (4 + 58) (by decide), e (5 + 58) (by decide), e (6 + 58) (by decide), e (7 + 58) (by decide), e (8 + 58) (by decide), e (9 + 58) (by decide), e (10 + 58) (by decide), e (11 + 58) (by decide), e (12 + 58) (by decide), e (13 + 58) (by decide), e (14 + 58) (by decide), e (15 + 58) (by decide), e (16 + 58) (by decide), e (17 + 58) (by decide), e (18 + 58) (by decide), e (19 + 58) (by decide), e (20 + 58) (by decide), e (21 + 58) (by decide), e (22 + 58) (by decide), e (23 + 58) (by decide), e (24 + 58) (by decide), e (25 + 58) (by decide)]
      exact ⟨⟨rfl, rfl, rfl, rfl, rfl, rfl, rfl⟩, fun _ _ => rfl, fun _ _ => ⟨rfl, rfl, rfl⟩, fun _ _ => ⟨rfl, rfl, rfl, rfl, rfl, rfl⟩, fun _ _ => ⟨rfl, rfl, rfl, rfl, rfl⟩, fun _ _ => rfl, fun _ _ => ⟨rfl, rfl, rfl⟩⟩
  · unfold RelP at *
    rw [h7 86 (by decide), h7 87 (by decide), h4.1, h4.2]; exact hP
  · unfold RelI at *
    rw [e 1 (by decide), e 0 (by decide), h8 15 (by decide), h8 14 (by decide)]; exact h4'
  · unfold RelE at *
    rw [e 2 (by decide), e 3 (by decide), h8 16 (by decide), h8 17 (by decide)]; exact h5
  · unfold RelO at *
    rw [e 100 (by decide), e 99 (by decide), h8 31 (by decide), h8 30 (by decide)]; exact h6
  · unfold RelZ at *
    rw [h8 2 (by decide), h8 6 (by decide), h4.1, h4.2]
    exact ⟨hz0, hz.2.1, hzP⟩
theorem chg_yes {cf : Nat → Int} {V Va V2 : Sz} {PV PVa : Nat → Sz} {K Ka : Nat} {V8 V1 V5 V7 : Sz} {v : Int} {x : Option ((Int × Sz × (Nat → Sz) × Nat) ⊕ Nat)} (h : Rel V PV K V8) (hT : Thr V8 V1 0) (hk5 : ∀ k : Nat, k ≠ 4 → k ≠ 5 → V5 k = V1 k) (hPa : RelP Va PVa Ka V5 ∧ ∀ j : Int, 0 ≤ j → j < V5 5 0 → WFz (rowAt (V5 4) j)) (hka : ∀ k : Nat, k ≠ 86 → k ≠ 87 → Va k = V k) (h75 : ∀ k : Nat, k ≠ 0 → k < 10 ∨ 13 < k → V7 k = V5 k) (hk2 : ∀ k : Nat, k < 4 ∨ 31 ≤ k → V2 k = Va k) (hL2 : LR (sv 4 V2) (V7 0)) (hz0 : WFz (V7 0)) (ex : x = some (.inl (v, V2, PVa, Ka))) : Chg cf V PV K x (v, V7) := by
  refine Or.inl ⟨V2, PVa, Ka, ex, ?_, ?_⟩
  · show V7 9 0 = 0
    rw [h75 9 (by decide) (by decide), hk5 9 (by decide) (by decide)]; exact hT.1
  · refine h.change hPa.1 hk2 hka (fun k hk => ?_) ⟨?_, ?_⟩ hL2 hz0 hPa.2
    · show V7 k = V8 k
      rw [h75 k (by omega) (by omega), hk5 k (by omega) (by omega)]; exact hT.2 k (by omega)
    · exact h75 4 (by decide) (by decide)
    · exact h75 5 (by decide) (by decide)
/-! settled anew -/
theorem settle_LR {V7 Vs : Sz} {w : Rw} (h0 : LR0 (sv 4 V7) w) (hw : WF w) (h30 : w 1 ≤ 30) (hk : ∀ k : Nat, k < 23 → Vs k = sv 4 V7 k) (hv : LRw Vs w) : LR (sv 4 (sw 4 27 V7 Vs)) w ∧ ∀ k : Nat, k < 4 ∨ 31 ≤ k → sw 4 27 V7 Vs k = V7 k := by
  have hLs : LR Vs w := ⟨h0.same hk, hv, hw, h30⟩
  have hc : CopL (sv 4 (sw 4 27 V7 Vs)) Vs := ⟨⟨rfl, rfl, rfl, rfl, rfl, rfl, rfl⟩, fun _ _ => rfl, fun _ _ => ⟨rfl, rfl, rfl⟩, fun _ _ => ⟨rfl, rfl, rfl, rfl, rfl, rfl⟩, fun _ _ => ⟨rfl, rfl, rfl, rfl, rfl⟩, fun _ _ => rfl, fun _ _ => ⟨rfl, rfl, rfl⟩⟩
  refine ⟨LR.copy hc hLs, fun k hk => ?_⟩
  unfold sw
  rw [if_neg (by omega)]
/-! rows that differ in the rate and the limits -/
def Heq (w w1 : Rw) : Prop := ∀ i : Nat, i ≠ 5 → ¬ (10 ≤ i ∧ i < 20) → w1 i = w i
theorem heq_WF {w w1 : Rw} (h : Heq w w1) (hw : WF w) (h5 : 0 ≤ w1 5 ∧ w1 5 ≤ 100) (hl : ∀ d : Int, 0 ≤ d → d < 10 → rng (wLim w1 d)) (hd : WFd w1) : WF w1 := by
  have a0 := hw.2.1.1
  have a1 := hw.2.1.2.1
  have a2 := hw.2.1.2.2.1
  have a4 := hw.2.1.2.2.2.1
  obtain ⟨hn, ha, -, hk, hg, hp, hx, hs, hc⟩ := hw
  have e0 : w1 0 = w 0 := h 0 (by decide) (by decide)
  have e1 : w1 1 = w 1 := h 1 (by decide) (by decide)
  have e2 : w1 2 = w 2 := h 2 (by decide) (by decide)
  have e4 : w1 4 = w 4 := h 4 (by decide) (by decide)
  have eg : ∀ g : Int, 0 ≤ g → wDay w1 g = wDay w g ∧ wAm w1 g = wAm w g ∧ wGot w1 g = wGot w g ∧ wMany w1 g = wMany w g ∧ wBack w1 g = wBack w g := fun g g0 => ⟨h _ (by omega) (by omega), h _ (by omega) (by omega), h _ (by omega) (by omega), h _ (by omega) (by omega), h _ (by omega) (by omega)⟩
  have ep : ∀ p : Int, 0 ≤ p → wPd w1 p = wPd w p ∧ wPa w1 p = wPa w p ∧ wPb w1 p = wPb w p ∧ wPc w1 p = wPc w p := fun p p0 => ⟨h _ (by omega) (by omega), h _ (by omega) (by omega), h _ (by omega) (by omega), h _ (by omega) (by omega)⟩
  refine ⟨fun i hi => ?_, ?_, hd, fun k k0 k1 => ?_, fun g g0 g1 => ?_, fun g i g0 g1 i0 i1 => ?_, fun g i j g0 g1 i0 ij j1 => ?_, fun g g0 g1 hm => ?_, fun c c0 c1 => ?_⟩
  · by_cases c5 : i = 5
    · rw [c5]; constructor <;> omega
    · by_cases c10 : 10 ≤ i ∧ i < 20
      · have := hl ((i : Int) - 10) (by omega) (by omega)
        unfold wLim at this
        rw [show (10 + ((i : Int) - 10)).toNat = i by omega] at this
        exact this
      · rw [h i c5 c10]; exact hn i hi
  · obtain ⟨b0, b1, b2, b4, b5, b6, b7⟩ := ha
    unfold WFa
    rw [e0, e1, e2, e4, h 6 (by decide) (by decide), h 7 (by decide) (by decide)]
    exact ⟨b0, b1, b2, b4, h5, b6, b7⟩
  · rw [e1] at k1
    have x : wWho w1 k = wWho w k ∧ wFr w1 k = wFr w k ∧ wTo w1 k = wTo w k := ⟨h _ (by omega) (by omega), h _ (by omega) (by omega), h _ (by omega) (by omega)⟩
    rw [x.1, x.2.1, x.2.2, e0]; exact hk k k0 k1
  · rw [e2] at g1
    obtain ⟨q1, q2, q3, q4, q5⟩ := eg g g0
    rw [q1, q2, q3, q4, q5]; exact hg g g0 g1
  · rw [e2] at g1
    obtain ⟨q1, q2, q3, q4, q5⟩ := eg g g0
    rw [q4] at i1
    obtain ⟨u1, u2, u3, u4⟩ := ep (3 * g + i) (by omega)
    rw [u1, u2, u3, u4, e0]; exact hp g i g0 g1 i0 i1
  · rw [e2] at g1
    obtain ⟨q1, q2, q3, q4, q5⟩ := eg g g0
    rw [q4] at j1
    rw [(ep (3 * g + i) (by omega)).1, (ep (3 * g + j) (by omega)).1]
    exact hx g i j g0 g1 i0 ij j1
  · rw [e2] at g1
    obtain ⟨q1, q2, q3, q4, q5⟩ := eg g g0
    rw [q4] at hm ⊢
    rw [q2, q5]
    have q := hs g g0 g1 hm
    rw [← q.1, ← q.2]
    exact ⟨sumN_congr (fun i i0 i1 => (ep _ (by omega)).2.1), sumN_congr (fun i i0 i1 => (ep _ (by omega)).2.2.1)⟩
  · rw [e4] at c1
    have : wCl w1 c 0 = wCl w c 0 := h _ (by omega) (by omega)
    rw [this]; exact hc c c0 c1
theorem ordS_same {w w1 : Rw} (a2 : 0 ≤ w 2) (e2 : w1 2 = w 2) (ed : ∀ g : Int, 0 ≤ g → g < w 2 → wDay w1 g = wDay w g) {i : Nat} (hi : (i : Int) < w 2) : ordS w1 i = ordS w i := by
  unfold ordS
  rw [e2]
  exact ordA_congr _ (fun g g0 g1 => ed g g0 (by omega)) i (by omega)
theorem heq_LR0 {V V1 : Sz} {w w1 : Rw} (h : LR0 V w) (hw : WF w) (he : Heq w w1) (hv : ∀ k : Nat, k ≤ 22 → k ≠ 0 → k ≠ 4 → V1 k = V k) (h5 : V1 0 0 = w1 5) (hl : LRd V1 w1) : LR0 V1 w1 := by
  have a2 := hw.2.1.2.2.1
  obtain ⟨ha, -, hk, hg, hp, ho, hc⟩ := h
  have e0 : w1 0 = w 0 := he 0 (by decide) (by decide)
  have e1 : w1 1 = w 1 := he 1 (by decide) (by decide)
  have e2 : w1 2 = w 2 := he 2 (by decide) (by decide)
  have e4 : w1 4 = w 4 := he 4 (by decide) (by decide)
  refine ⟨?_, hl, fun k k0 k1 => ?_, fun g g0 g1 => ?_, fun p p0 p1 hb => ?_, fun i hi => ?_, fun c q c0 c1 q0 q1 => ?_⟩
  · unfold LRa at *
    rw [h5, hv 1 (by decide) (by decide) (by decide), hv 2 (by decide) (by decide) (by decide), hv 3 (by decide) (by decide) (by decide), hv 5 (by decide) (by decide) (by decide), hv 9 (by decide) (by decide) (by decide), hv 21 (by decide) (by decide) (by decide), e0, e1, e2, e4, he 6 (by decide) (by decide), he 7 (by decide) (by decide)]
    exact ⟨rfl, ha.2⟩
  · rw [e1] at k1
    rw [hv 6 (by decide) (by decide) (by decide), hv 7 (by decide) (by decide) (by decide), hv 8 (by decide) (by decide) (by decide)]
    have x : wWho w1 k = wWho w k ∧ wFr w1 k = wFr w k ∧ wTo w1 k = wTo w k := ⟨he _ (by omega) (by omega), he _ (by omega) (by omega), he _ (by omega) (by omega)⟩
    rw [x.1, x.2.1, x.2.2]; exact hk k k0 k1
  · rw [e2] at g1
    rw [hv 10 (by decide) (by decide) (by decide), hv 11 (by decide) (by decide) (by decide), hv 12 (by decide) (by decide) (by decide), hv 13 (by decide) (by decide) (by decide), hv 14 (by decide) (by decide) (by decide)]
    have x : wDay w1 g = wDay w g ∧ wAm w1 g = wAm w g ∧ wGot w1 g = wGot w g ∧ wMany w1 g = wMany w g ∧ wBack w1 g = wBack w g := ⟨he _ (by omega) (by omega), he _ (by omega) (by omega), he _ (by omega) (by omega), he _ (by omega) (by omega), he _ (by omega) (by omega)⟩
    rw [x.1, x.2.1, x.2.2.1, x.2.2.2.1, x.2.2.2.2]; exact hg g g0 g1
  · have em : wMany w1 (p / 3) = wMany w (p / 3) := he _ (by omega) (by omega)
    have eb : partB w1 p = partB w p := by unfold partB; rw [em, e2]
    rw [eb] at hb
    rw [hv 16 (by decide) (by decide) (by decide), hv 18 (by decide) (by decide) (by decide), hv 19 (by decide) (by decide) (by decide), hv 20 (by decide) (by decide) (by decide)]
    have x : wPd w1 p = wPd w p ∧ wPa w1 p = wPa w p ∧ wPb w1 p = wPb w p ∧ wPc w1 p = wPc w p := ⟨he _ (by omega) (by omega), he _ (by omega) (by omega), he _ (by omega) (by omega), he _ (by omega) (by omega)⟩
    rw [x.1, x.2.1, x.2.2.1, x.2.2.2]; exact hp p p0 p1 hb
  · rw [e2] at hi
    rw [hv 15 (by decide) (by decide) (by decide), ordS_same a2.1 e2 (fun g g0 g1 => he _ (by omega) (by omega)) hi]; exact ho i hi
  · rw [e4] at c1
    rw [hv 22 (by decide) (by decide) (by decide)]
    have x : wCl w1 c q = wCl w c q := he _ (by omega) (by omega)
    rw [x]; exact hc c q c0 c1 q0 q1
theorem Rel.z {V : Sz} {PV : Nat → Sz} {K : Nat} {V8 : Sz} (h : Rel V PV K V8) : WFz (V8 0) := h.2.2.2.2.2.2.1
theorem ag_setRate {V X : Sz} {PV : Nat → Sz} {K : Nat} {V8 : Sz} (h : Rel V PV K V8) {n : Nat} (hn : 20000 < n) {x : Int} (hx : rng x) : TT (f_X8_setRate n V8 x) (Chg cdI V PV K (f_X7_setRate n V X PV K x)) := by
  have hL := h.1
  have hw := hL.2.2.1
  have h30 := hL.2.2.2
  unfold f_X8_setRate
  refine tt_nmE (fun V1 e1 => ?_)
  have hT : Thr V8 V1 0 := by rw [e1]; exact Thr.zero V8 0
  refine rg_t hx ⟨by decide, by decide⟩ ⟨by decide, by decide⟩ (fun c => ?_) (fun c => ?_)
  · unfold jX8_setRate_21
    refine f0_t (tt_t rfl (tt_bd (remember_both (h.thr hT) hn) (fun V5 ⟨hk5, Va, PVa, Ka, ea, hka, hPa⟩ => tt_nm (tt_nmE (fun V7 e7 => tt_some ?_)))))
    have e50 : V5 0 = V8 0 := (hk5 0 (by decide) (by decide)).trans (hT.2 0 (by decide))
    have e70 : V7 0 = up (V8 0) 5 x := by rw [e7, uz_at, e50]
    have hH : Heq (V8 0) (up (V8 0) 5 x) := fun i i5 _ => up_ne i5
    have hlim : ∀ d : Int, 0 ≤ d → wLim (up (V8 0) 5 x) d = wLim (V8 0) d := fun d d0 => up_ne (by omega)
    have hw1 : WF (up (V8 0) 5 x) := heq_WF hH hw (by rw [up_at]; exact c) (fun d d0 d1 => by rw [hlim d d0]; exact hw.1 _ (by omega)) (fun d d0 d1 => by
      rw [hlim d d0]
      exact hw.2.2.1 d d0 (by rw [up_ne (by decide)] at d1; exact d1))
    have hx7 : TT (f_X7_setRate n V X PV K x) (fun y => ∃ V2, y = .inl (V8 0 5, V2, PVa, Ka) ∧ LR (sv 4 V2) (up (V8 0) 5 x) ∧ ∀ k : Nat, k < 4 ∨ 31 ≤ k → V2 k = Va k) := by
      unfold f_X7_setRate
      rw [x7_rangeY hx ⟨by decide, by decide⟩ ⟨by decide, by decide⟩ c, bx_l, ea, bd_s]
      refine tt_bl (tt_nm (tt_nmE (fun Vc ec => ?_)))
      have hLa : LR0 (sv 4 Vc) (up (V8 0) 5 x) := heq_LR0 hL.1 hw hH (fun k k22 k0 k4 => by
        show Vc (k + 4) = V (k + 4)
        rw [ec, us_ne (by omega)]; exact hka _ (by omega) (by omega)) (by show Vc 4 0 = _; rw [ec, us_at, up_at]) (fun d d0 d1 => by
        rw [hlim d d0]
        show Vc 8 d.toNat = _
        rw [ec, us_ne (by decide), hka 8 (by decide) (by decide)]
        exact hL.1.2.1 d d0 (by rw [up_ne (by decide)] at d1; exact d1))
      refine tt_bd (c4_settle hLa hw1 (by rw [up_ne (by decide)]; exact h30) (by omega)) (fun Vs ⟨hks, hvs⟩ => tt_nmE (fun Vd ed => tt_some ?_))
      have hs := settle_LR hLa hw1 (by rw [up_ne (by decide)]; exact h30) hks hvs
      rw [← ed] at hs
      refine ⟨Vd, ?_, hs.1, fun k hk => ?_⟩
      · rw [hka 4 (by decide) (by decide)]
        rw [hL.at.1]
      · rw [hs.2 k hk, ec, us_ne (by omega)]
    obtain ⟨y, ey, V2, rfl, hL2, hk2⟩ := hx7
    refine chg_yes h hT hk5 hPa hka (fun k k0 _ => by rw [e7, uz_ne k0]) hk2 (by rw [e70]; exact hL2) (by rw [e70]; exact wfz_same hw (up_ne (by decide)) (fun i i0 _ => up_ne (by omega)) h.z) ?_
    rw [ey, e50]
  · unfold jX8_setRate_21
    refine f1_t (tt_f (by decide) (tt_some (chg_no (e := 1) h ?_ (hT.trans (Thr.zero V1 1)) rfl (by decide))))
    unfold f_X7_setRate
    rw [x7_rangeN hx ⟨by decide, by decide⟩ ⟨by decide, by decide⟩ c]; rfl
