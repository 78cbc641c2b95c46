theorem ag_setTaxLimit {V X : Sz} {PV : Nat → Sz} {K : Nat} {V8 : Sz} (h : Rel V PV K V8) {n : Nat} (hn : 20000 < n) {d x : Int} (hd : rng d) (hx : rng x) : TT (f_X8_setTaxLimit n V8 d x) (Chg cdB V PV K (f_X7_setTaxLimit n V X PV K d x)) := by
  have hL := h.1
  have hw := hL.2.2.1
  have h30 := hL.2.2.2
  have a0 := hw.2.1.1
  unfold f_X8_setTaxLimit
  refine tt_bd (x8_noDonor hw hd) (fun ⟨r1, V1⟩ hr => ref_t hr (fun ok hT => ?_) (fun no hT => tt_some (chg_no (e := 0) h ?_ hT rfl (by decide))))
  · refine rg_t hx ⟨by decide, by decide⟩ ⟨by decide, by decide⟩ (fun c => ?_) (fun c => ?_)
    · unfold jX8_setTaxLimit_24
      refine f0_t (tt_t rfl (tt_bd (remember_both (h.thr hT) hn) (fun V5 ⟨hk5, Va, PVa, Ka, ea, hka, hPa⟩ => tt_ck ⟨by omega, by omega⟩ (tt_nm (tt_nmE (fun V7 e7 => tt_some ?_))))))
      have e50 : V5 0 = V8 0 := (hk5 0 (by decide) (by decide)).trans (hT.2 0 (by decide))
      obtain ⟨i, ei⟩ : ∃ i, i = (10 + d).toNat := ⟨_, rfl⟩
      rw [← ei] at e7 ⊢
      have e70 : V7 0 = up (V8 0) i x := by rw [e7, uz_at, e50]
      have hH : Heq (V8 0) (up (V8 0) i x) := fun j j5 j10 => up_ne (by omega)
      have e5 : up (V8 0) i x 5 = V8 0 5 := up_ne (by omega)
      have e0 : up (V8 0) i x 0 = V8 0 0 := up_ne (by omega)
      have e1 : up (V8 0) i x 1 = V8 0 1 := up_ne (by omega)
      have hlim : ∀ d1 : Int, 0 ≤ d1 → wLim (up (V8 0) i x) d1 = if d1 = d then x else wLim (V8 0) d1 := fun d1 u0 => by
        unfold wLim
        rw [up_if]
        by_cases e : d1 = d
        · rw [if_pos e, if_pos (by omega)]
        · rw [if_neg e, if_neg (by omega)]
      have hw1 : WF (up (V8 0) i x) := heq_WF hH hw (by rw [e5]; exact hw.2.1.2.2.2.2.1) (fun d1 u0 u1 => by
        rw [hlim d1 u0]
        split
        · exact hx
        · exact hw.1 _ (by omega)) (fun d1 u0 u1 => by
        rw [e0] at u1
        rw [hlim d1 u0]
        split
        · exact c
        · exact hw.2.2.1 d1 u0 u1)
      have hx7 : TT (f_X7_setTaxLimit n V X PV K d x) (fun y => ∃ V2, y = .inl (wLim (V8 0) d, V2, PVa, Ka) ∧ LR (sv 4 V2) (up (V8 0) i x) ∧ ∀ k : Nat, k < 4 ∨ 31 ≤ k → V2 k = Va k) := by
        unfold f_X7_setTaxLimit
        rw [x7_donorY hL hd ok, bx_l, x7_rangeY hx ⟨by decide, by decide⟩ ⟨by decide, by decide⟩ c, bx_l, ea, bd_s]
        refine tt_bl (tt_ck ⟨ok.1, by omega⟩ (tt_nm (tt_nmE (fun Vc ec => ?_))))
        have hLa : LR0 (sv 4 Vc) (up (V8 0) i x) := heq_LR0 hL.1 hw hH (fun k k22 k0 k4 => by
          show Vc (k + 4) = V (k + 4)
          rw [ec, uz_ne (by omega)]; exact hka _ (by omega) (by omega)) (by
          show Vc 4 0 = _
          rw [ec, uz_ne (by decide), hka 4 (by decide) (by decide), e5]; exact hL.at.1) (fun d1 u0 u1 => by
          rw [e0] at u1
          rw [hlim d1 u0]
          show Vc 8 d1.toNat = _
          rw [ec, uz_at, up_if, hka 8 (by decide) (by decide)]
          by_cases e : d1 = d
          · rw [if_pos e, if_pos (by omega)]
          · rw [if_neg e, if_neg (by omega)]; exact hL.1.2.1 d1 u0 u1)
        refine tt_bd (c4_settle hLa hw1 (by rw [e1]; exact h30) (by omega)) (fun Vs ⟨hks, hvs⟩ => tt_nmE (fun Vd ed => tt_some ?_))
        have hs := settle_LR hLa hw1 (by rw [e1]; exact h30) hks hvs
        rw [← ed] at hs
        refine ⟨Vd, ?_, hs.1, fun k hk => ?_⟩
        · rw [hka 8 (by decide) (by decide)]
          rw [show V 8 d.toNat = wLim (V8 0) d from hL.1.2.1 d ok.1 ok.2]
        · rw [hs.2 k hk, ec, uz_ne (by omega)]
      obtain ⟨y, ey, V2, rfl, hL2, hk2⟩ := hx7
      refine chg_yes h hT hk5 hPa hka (fun k k0 _ => by rw [e7, uz_ne k0]) hk2 (by rw [e70]; exact hL2) (by rw [e70]; exact wfz_same hw (up_ne (by omega)) (fun i i0 _ => up_ne (by omega)) h.z) ?_
      rw [ey, e50, ei]; rfl
    · unfold jX8_setTaxLimit_24
      refine f1_t (tt_f (by decide) (tt_some (chg_no (e := 1) h ?_ (hT.trans (Thr.zero V1 2)) rfl (by decide))))
      unfold f_X7_setTaxLimit
      rw [x7_donorY hL hd ok, bx_l, x7_rangeN hx ⟨by decide, by decide⟩ ⟨by decide, by decide⟩ c]; rfl
  · unfold f_X7_setTaxLimit
    rw [x7_donorN hL hd no]; rfl
/-! declarations -/
theorem geq_LR0 {V V1 : Sz} {w w1 : Rw} (h : LR0 V w) (hw : WF w) (he : Geq w w1) (hv : ∀ k : Nat, k ≤ 22 → k < 5 ∨ 8 < k → V1 k = V k) (h1 : V1 5 0 = w1 1) (hl : LRk V1 w1) : LR0 V1 w1 := by
  have a0 := hw.2.1.1
  have a2 := hw.2.1.2.2.1
  have a4 := hw.2.1.2.2.2.1
  obtain ⟨ha, hd, -, hg, hp, ho, hc⟩ := h
  have e0 : w1 0 = w 0 := he.1 0 (by decide) (by decide)
  have e2 : w1 2 = w 2 := he.1 2 (by decide) (by decide)
  have e4 : w1 4 = w 4 := he.1 4 (by decide) (by decide)
  refine ⟨?_, fun d d0 d1 => ?_, hl, fun g g0 g1 => ?_, fun p p0 p1 hb => ?_, fun i hi => ?_, fun c q c0 c1 q0 q1 => ?_⟩
  · unfold LRa at *
    rw [h1, hv 0 (by decide) (by decide), hv 1 (by decide) (by decide), hv 2 (by decide) (by decide), hv 3 (by decide) (by decide), hv 9 (by decide) (by decide), hv 21 (by decide) (by decide), e0, e2, e4, he.1 5 (by decide) (by decide), he.1 6 (by decide) (by decide), he.1 7 (by decide) (by decide)]
    exact ⟨ha.1, ha.2.1, ha.2.2.1, ha.2.2.2.1, rfl, ha.2.2.2.2.2⟩
  · rw [e0] at d1
    have x : wLim w1 d = wLim w d := he.1 _ (by omega) (by omega)
    rw [hv 4 (by decide) (by decide), x]; exact hd d d0 d1
  · rw [e2] at g1
    rw [hv 10 (by decide) (by decide), hv 11 (by decide) (by decide), hv 12 (by decide) (by decide), hv 13 (by decide) (by decide), hv 14 (by decide) (by decide)]
    have x := geq_gift he g0 (by omega)
    rw [x.1, x.2.1, x.2.2.1, x.2.2.2.1, x.2.2.2.2]; exact hg g g0 g1
  · rw [(geq_open he p0 p1).2.2] at hb
    rw [hv 16 (by decide) (by decide), hv 18 (by decide) (by decide), hv 19 (by decide) (by decide), hv 20 (by decide) (by decide)]
    have x := geq_slot he p0 p1
    rw [x.1, x.2.1, x.2.2.1, x.2.2.2]; exact hp p p0 p1 hb
  · rw [e2] at hi
    rw [hv 15 (by decide) (by decide), ordS_same a2.1 e2 (fun g g0 g1 => (geq_gift he g0 (by omega)).1) hi]; exact ho i hi
  · rw [e4] at c1
    rw [hv 22 (by decide) (by decide)]
    have x : wCl w1 c q = wCl w c q := he.2 _ (by omega) (by omega)
    rw [x]; exact hc c q c0 c1 q0 q1
theorem c1_add {V0 : Sz} (h0 : 0 ≤ V0 0 0 ∧ V0 0 0 < 30) (d a b : Int) : TT (f_X1_add V0 d a b) (fun r => r.1 = V0 0 0 ∧ r.2 0 0 = V0 0 0 + 1 ∧ r.2 1 = up (V0 1) (V0 0 0).toNat d ∧ r.2 2 = up (V0 2) (V0 0 0).toNat a ∧ r.2 3 = up (V0 3) (V0 0 0).toNat b) := by
  have hf : f_X1_isFull V0 = some false := by
    unfold f_X1_isFull
    rw [ck_t ⟨by omega, by omega⟩, if_pos h0.2]
  unfold f_X1_add
  rw [hf, bd_s]
  refine tt_t rfl (tt_ck ⟨h0.1, h0.2⟩ (tt_nmE (fun V3 e3 => ?_)))
  have e30 : V3 0 = V0 0 := by rw [e3, uz_ne (by decide)]
  rw [e30]
  refine tt_ck ⟨h0.1, h0.2⟩ (tt_nmE (fun V5 e5 => ?_))
  have e50 : V5 0 = V0 0 := by rw [e5, uz_ne (by decide), e30]
  rw [e50]
  refine tt_ck ⟨h0.1, h0.2⟩ (tt_nmE (fun V7 e7 => tt_nmE (fun V8 e8 => tt_some ?_)))
  have e70 : V7 0 = V0 0 := by rw [e7, uz_ne (by decide), e50]
  have e80 : V8 0 0 = V0 0 0 + 1 := by rw [e8, us_at, e70]
  refine ⟨?_, e80, ?_, ?_, ?_⟩
  · show V8 0 0 - 1 = V0 0 0
    rw [e80]; omega
  · show V8 1 = _
    rw [e8, us_ne (by decide), e7, uz_ne (by decide), e5, uz_ne (by decide), e3, uz_at]
  · show V8 2 = _
    rw [e8, us_ne (by decide), e7, uz_ne (by decide), e5, uz_at, e3, uz_ne (by decide)]
  · show V8 3 = _
    rw [e8, us_ne (by decide), e7, uz_at, e5, uz_ne (by decide), e3, uz_ne (by decide)]
theorem c1_isFull {V : Sz} {w : Rw} (h : LR (sv 4 V) w) : f_X1_isFull (sv 9 V) = some (decide (w 1 = 30)) := by
  have a1 := h.2.2.1.2.1.2.1
  have h30 := h.2.2.2
  have e : sv 9 V 0 0 = w 1 := h.at.2.2.2.2.1
  unfold f_X1_isFull
  rw [e, ck_t ⟨by omega, by omega⟩]
  by_cases c : w 1 = 30
  · rw [if_neg (by omega), decide_eq_true c]
  · rw [if_pos (by omega), decide_eq_false c]
theorem ag_declare {V X : Sz} {PV : Nat → Sz} {K : Nat} {V8 : Sz} (h : Rel V PV K V8) {n : Nat} (hn : 20000 < n) {d a b : Int} (hd : rng d) (ha : rng a) (hb : rng b) : TT (f_X8_declare n V8 d a b) (Chg cdC V PV K (f_X7_declare n V X PV K d a b)) := by
  have hL := h.1
  have hw := hL.2.2.1
  have h30 := hL.2.2.2
  have a0 := hw.2.1.1
  have a1 := hw.2.1.2.1
  unfold f_X8_declare
  refine tt_bd (x8_noDonor hw hd) (fun ⟨r1, V1⟩ hr => ref_t hr (fun ok hT1 => ?_) (fun no hT => tt_some (chg_no (e := 0) h ?_ hT rfl (by decide))))
  · refine tt_bd (x8_noSpan ha hb hT1.1) (fun ⟨r3, V4⟩ hr3 => ref_t hr3 (fun ok3 hT3 => ?_) (fun no3 hT3 => tt_some (chg_no (e := 1) h ?_ (hT1.trans hT3) rfl (by decide))))
    · have hT := hT1.trans hT3
      have e40 : V4 0 = V8 0 := hT.2 0 (by decide)
      rw [e40]
      refine tt_ck ⟨by omega, by omega⟩ (tt_ite (fun c => ?_) (fun c => ?_))
      · unfold jX8_declare_34
        refine f1_t (tt_f (by decide) (tt_some (chg_no (e := 2) h ?_ (hT.trans (Thr.zero V4 3)) rfl (by decide))))
        unfold f_X7_declare
        rw [x7_donorY hL hd ok, bx_l, x7_spanY ha hb ok3, bx_l, c1_isFull hL, decide_eq_true c, bd_s, if_neg (by decide)]
      · unfold jX8_declare_34
        refine f0_t (tt_t rfl (tt_bd (remember_both (h.thr hT) hn) (fun V5 ⟨hk5, Va, PVa, Ka, ea, hka, hPa⟩ => ?_)))
        have e50 : V5 0 = V8 0 := (hk5 0 (by decide) (by decide)).trans (hT.2 0 (by decide))
        refine tt_bd (x8_declares hw h30 (by rw [e50]; exact deq_self hw) hd ha hb) (fun V9 ⟨hk9, hp⟩ => tt_some ?_)
        have hw1 := plus_WF hp hw h30 ok ⟨ok3.1, by omega⟩ ⟨by omega, ok3.2.2⟩
        have hx7 : TT (f_X7_declare n V X PV K d a b) (fun y => ∃ V2, y = .inl (V8 0 1, V2, PVa, Ka) ∧ LR (sv 4 V2) (V9 0) ∧ ∀ k : Nat, k < 4 ∨ 31 ≤ k → V2 k = Va k) := by
          unfold f_X7_declare
          rw [x7_donorY hL hd ok, bx_l, x7_spanY ha hb ok3, bx_l, c1_isFull hL, decide_eq_false c, bd_s, if_pos rfl, ea, bd_s]
          have eav : ∀ k : Nat, k < 86 → Va k = V k := fun k hk => hka k (by omega) (by omega)
          have e9 : sv 9 Va 0 0 = V8 0 1 := by show Va 9 0 = _; rw [eav 9 (by decide)]; exact hL.at.2.2.2.2.1
          refine tt_bl (tt_bd (c1_add (V0 := sv 9 Va) (by rw [e9]; omega) d a b) (fun ⟨r5, V6⟩ ⟨h1, h2, h3, h4, h5⟩ => tt_nmE (fun Vc ec => ?_)))
          have h1 : r5 = sv 9 Va 0 0 := h1
          have h2 : V6 0 0 = sv 9 Va 0 0 + 1 := h2
          have h3 : V6 1 = up (sv 9 Va 1) (sv 9 Va 0 0).toNat d := h3
          have h4 : V6 2 = up (sv 9 Va 2) (sv 9 Va 0 0).toNat a := h4
          have h5 : V6 3 = up (sv 9 Va 3) (sv 9 Va 0 0).toNat b := h5
          rw [e9] at h1 h2 h3 h4 h5
          have hLa : LR0 (sv 4 Vc) (V9 0) := by
            subst ec
            refine geq_LR0 hL.1 hw (plus_geq hp hw h30) (fun k k22 hk => ?_) ?_ (fun k k0 k1 => ?_)
            · show sw 9 4 Va V6 (k + 4) = V (k + 4)
              unfold sw
              rw [if_neg (by omega)]; exact eav _ (by omega)
            · show V6 0 0 = _
              rw [h2, hp.1]
            · rw [hp.1] at k1
              show V6 1 k.toNat = _ ∧ V6 2 k.toNat = _ ∧ V6 3 k.toNat = _
              rw [h3, h4, h5, up_if, up_if, up_if]
              by_cases e : k = V8 0 1
              · rw [if_pos (by rw [e]), if_pos (by rw [e]), if_pos (by rw [e]), e]
                exact ⟨hp.2.1.1.symm, hp.2.1.2.1.symm, hp.2.1.2.2.symm⟩
              · have q := plus_old hp hw h30 k0 (by omega)
                rw [if_neg (by omega), if_neg (by omega), if_neg (by omega), q.1, q.2.1, q.2.2]
                show Va 10 k.toNat = _ ∧ Va 11 k.toNat = _ ∧ Va 12 k.toNat = _
                rw [eav 10 (by decide), eav 11 (by decide), eav 12 (by decide)]
                exact hL.1.2.2.1 k k0 (by omega)
          have h301 : V9 0 1 ≤ 30 := by rw [hp.1]; omega
          refine tt_bd (c4_settle hLa hw1 h301 (by omega)) (fun Vs ⟨hks, hvs⟩ => tt_nmE (fun Vd ed => tt_some ?_))
          have hs := settle_LR hLa hw1 h301 hks hvs
          rw [← ed] at hs
          refine ⟨Vd, by rw [h1], hs.1, fun k hk => ?_⟩
          rw [hs.2 k hk, ec]
          unfold sw
          rw [if_neg (by omega)]
        obtain ⟨y, ey, V2, rfl, hL2, hk2⟩ := hx7
        refine chg_yes h hT hk5 hPa hka (fun k k0 _ => hk9 k k0) hk2 hL2 (wfz_same hw ((plus_geq hp hw h30).1 2 (by decide) (by decide)) (fun i i0 i1 => (plus_geq hp hw h30).2 i (by omega) (by omega)) h.z) ?_
        rw [ey, hp.1, show V8 0 1 + 1 - 1 = V8 0 1 by omega]
    · unfold f_X7_declare
      rw [x7_donorY hL hd ok, bx_l, x7_spanN ha hb no3]; rfl
  · unfold f_X7_declare
    rw [x7_donorN hL hd no]; rfl
theorem to_geq {w : Rw} {k x : Int} (k0 : 0 ≤ k) (k1 : k ≤ 30) : Geq w (up w (82 + k).toNat x) := ⟨fun i i0 _ => up_ne (by omega), fun i i0 i1 => up_ne (by omega)⟩
theorem to_decl {w : Rw} {k x j : Int} (k0 : 0 ≤ k) (k1 : k ≤ 30) (j0 : 0 ≤ j) (j1 : j ≤ 30) : wWho (up w (82 + k).toNat x) j = wWho w j ∧ wFr (up w (82 + k).toNat x) j = wFr w j ∧ wTo (up w (82 + k).toNat x) j = if j = k then x else wTo w j := by
  unfold wWho wFr wTo
  rw [up_ne (by omega), up_ne (by omega), up_if]
  refine ⟨rfl, rfl, ?_⟩
  by_cases e : j = k
  · rw [if_pos (by rw [e]), if_pos e]
  · rw [if_neg (by omega), if_neg e]
/-- a declaration cut short in a ledger at o -/
theorem c1_cutFrom {V0 : Sz} {k day : Int} (hk : inZ k 30) (h1 : rng (V0 3 k.toNat)) (h2 : rng (day - 1)) : f_X1_cutFrom V0 k day = some (uz V0 3 k.toNat (min (V0 3 k.toNat) (day - 1))) := by
  unfold f_X1_cutFrom
  rw [ck_t hk, ck_t ⟨h1, h2⟩]; rfl
theorem cut_LR0 {V V1 : Sz} {w : Rw} (h : LR0 V w) (hw : WF w) (h30 : w 1 ≤ 30) {k x : Int} (k0 : 0 ≤ k) (k1 : k < w 1) (hv : ∀ j : Nat, j ≤ 22 → j ≠ 8 → V1 j = V j) (h8 : V1 8 = up (V 8) k.toNat x) : LR0 V1 (up w (82 + k).toNat x) := by
  have e1 : up w (82 + k).toNat x 1 = w 1 := up_ne (by omega)
  refine geq_LR0 h hw (to_geq k0 (by omega)) (fun j j22 hj => hv j j22 (by omega)) ?_ (fun j j0 j1 => ?_)
  · rw [hv 5 (by decide) (by decide), e1]; exact h.1.2.2.2.2.1
  · rw [e1] at j1
    obtain ⟨x1, x2, x3⟩ := to_decl (w := w) (x := x) k0 (show k ≤ 30 by omega) j0 (show j ≤ 30 by omega)
    rw [x1, x2, x3, hv 6 (by decide) (by decide), hv 7 (by decide) (by decide), h8, up_if]
    have hj := h.2.2.1 j j0 j1
    refine ⟨hj.1, hj.2.1, ?_⟩
    by_cases e : j = k
    · rw [if_pos (by rw [e]), if_pos e]
    · rw [if_neg (by omega), if_neg e]; exact hj.2.2
theorem ag_revoke {V X : Sz} {PV : Nat → Sz} {K : Nat} {V8 : Sz} (h : Rel V PV K V8) {n : Nat} (hn : 20000 < n) {k day : Int} (hk : rng k) (hx : rng day) : TT (f_X8_revoke n V8 k day) (Chg cdB V PV K (f_X7_revoke n V X PV K k day)) := by
  have hL := h.1
  have hw := hL.2.2.1
  have h30 := hL.2.2.2
  have a1 := hw.2.1.2.1
  unfold f_X8_revoke
  refine tt_bd (x8_noDeclaration hw hk) (fun ⟨r1, V1⟩ hr => ref_t hr (fun ok hT => ?_) (fun no hT => tt_some (chg_no (e := 0) h ?_ hT rfl (by decide))))
  · refine rg_t hx ⟨by decide, by decide⟩ ⟨by decide, by decide⟩ (fun c => ?_) (fun c => ?_)
    · unfold jX8_revoke_25
      refine f0_t (tt_t rfl (tt_bd (remember_both (h.thr hT) hn) (fun V5 ⟨hk5, Va, PVa, Ka, ea, hka, hPa⟩ => ?_)))
      have e50 : V5 0 = V8 0 := (hk5 0 (by decide) (by decide)).trans (hT.2 0 (by decide))
      have hkw := hw.2.2.2.1 k ok.1 ok.2
      have eav : ∀ k : Nat, k < 86 → Va k = V k := fun k hk => hka k (by omega) (by omega)
      have hLa : LR (sv 4 Va) (V8 0) := by
        refine LR.copy ?_ hL
        unfold CopL sv
        rw [eav (0 + 4) (by decide), eav (1 + 4) (by decide), eav (2 + 4) (by decide), eav (3 + 4) (by decide), eav (4 + 4) (by decide), eav (5 + 4) (by decide), eav (6 + 4) (by decide), eav (7 + 4) (by decide), eav (8 + 4) (by decide), eav (9 + 4) (by decide), eav (10 + 4) (by decide), eav (11 + 4) (by decide), eav (12 + 4) (by decide), eav (13 + 4) (by decide), eav (14 + 4) (by decide), eav (15 + 4) (by decide), eav (16 + 4) (by decide), eav (17 + 4) (by decide), eav (18 + 4) (by decide), eav (19 + 4) (by decide), eav (20 + 4) (by decide), eav (21 + 4) (by decide), eav (22 + 4) (by decide), eav (23 + 4) (by decide), eav (24 + 4) (by decide), eav (25 + 4) (by decide)]
        exact ⟨⟨rfl, rfl, rfl, rfl, rfl, rfl, rfl⟩, fun _ _ => rfl, fun _ _ => ⟨rfl, rfl, rfl⟩, fun _ _ => ⟨rfl, rfl, rfl, rfl, rfl, rfl⟩, fun _ _ => ⟨rfl, rfl, rfl, rfl, rfl⟩, fun _ _ => rfl, fun _ _ => ⟨rfl, rfl, rfl⟩⟩
      obtain ⟨rb, q1, q2, -⟩ := daysOf_both (X := X) hLa e50 ok
      have e82 : V5 0 (82 + k).toNat = wTo (V8 0) k := by rw [e50]; rfl
      rw [q1, bd_s, e82]
      refine tt_ck ⟨by omega, by omega⟩ (tt_ck ⟨⟨by omega, by omega⟩, ⟨by omega, by omega⟩⟩ (tt_nmE (fun V10 e10 => ?_)))
      have e100 : V10 0 = up (V8 0) (82 + k).toNat (min (wTo (V8 0) k) (day - 1)) := by rw [e10, uz_at, e50]
      have hw1 : WF (V10 0) := by rw [e100]; exact wf_to hw ok.1 ok.2 (by omega) (by omega)
      have e101 : V10 0 1 = V8 0 1 := by rw [e100]; exact up_ne (by omega)
      have h301 : V10 0 1 ≤ 30 := by rw [e101]; exact h30
      have hx7 : TT (f_X7_revoke n V X PV K k day) (fun y => ∃ V2 ra, f_X8_daysOf V10 k = some ra ∧ y = .inl (rb - ra, V2, PVa, Ka) ∧ LR (sv 4 V2) (V10 0) ∧ ∀ k : Nat, k < 4 ∨ 31 ≤ k → V2 k = Va k) := by
        unfold f_X7_revoke
        have e3 : sv 9 Va 3 k.toNat = wTo (V8 0) k := (hLa.1.2.2.1 k ok.1 ok.2).2.2
        rw [x7_declY hL hk ok, bx_l, x7_rangeY hx ⟨by decide, by decide⟩ ⟨by decide, by decide⟩ c, bx_l, ea, bd_s]
        refine tt_bl (tt_bd (Q := fun r => r = rb) ⟨rb, q2, rfl⟩ (fun r4 er4 => ?_))
        rw [c1_cutFrom ⟨ok.1, by omega⟩ (by rw [e3]; constructor <;> omega) ⟨by omega, by omega⟩, bd_s, e3, er4]
        refine tt_nmE (fun Vc ec => ?_)
        have hL0 : LR0 (sv 4 Vc) (V10 0) := by
          rw [e100]
          subst ec
          refine cut_LR0 hLa.1 hw h30 ok.1 ok.2 (fun j j22 j8 => ?_) ?_
          · show sw 9 4 Va _ (j + 4) = Va (j + 4)
            unfold sw
            split
            · rename_i q
              rw [uz_ne (by omega)]
              show Va (j + 4 - 9 + 9) = Va (j + 4)
              rw [show j + 4 - 9 + 9 = j + 4 by omega]
            · rfl
          · show uz (sv 9 Va) 3 k.toNat (min (wTo (V8 0) k) (day - 1)) 3 = _
            rw [uz_at]; rfl
        refine tt_bd (c4_settle hL0 hw1 h301 (by omega)) (fun Vs ⟨hks, hvs⟩ => tt_nmE (fun Vd ed => ?_))
        have hs := settle_LR hL0 hw1 h301 hks hvs
        rw [← ed] at hs
        obtain ⟨ra, u1, u2, -⟩ := daysOf_both (X := X) (V8 := V10) hs.1 rfl (k := k) (by rw [e101]; exact ok)
        rw [u2, bd_s]
        refine tt_some ⟨Vd, ra, u1, rfl, hs.1, fun k hk => ?_⟩
        rw [hs.2 k hk, ec]
        unfold sw
        rw [if_neg (by omega)]
      obtain ⟨y, ey, V2, ra, era, rfl, hL2, hk2⟩ := hx7
      rw [era, bd_s]
      exact tt_some (chg_yes h hT hk5 hPa hka (fun k k0 _ => by rw [e10, uz_ne k0]) hk2 hL2 (by rw [e100]; exact wfz_same hw (up_ne (by omega)) (fun i i0 _ => up_ne (by omega)) h.z) ey)
    · unfold jX8_revoke_25
      refine f1_t (tt_f (by decide) (tt_some (chg_no (e := 1) h ?_ (hT.trans (Thr.zero V1 2)) rfl (by decide))))
      unfold f_X7_revoke
      rw [x7_declY hL hk ok, bx_l, x7_rangeN hx ⟨by decide, by decide⟩ ⟨by decide, by decide⟩ c]; rfl
  · unfold f_X7_revoke
    rw [x7_declN hL hk no]; rfl
