/-! questions that need no aid -/
theorem ag_taxLimit {V X V8 : Sz} (h : LR (sv 4 V) (V8 0)) {k : Int} (hk : rng k) : TT (f_X8_taxLimit V8 k) (Asks cdA (f_X7_taxLimit V X k) V8) := by
  have hw := h.2.2.1
  have a0 := hw.2.1.1
  unfold f_X8_taxLimit
  refine tt_bd (x8_noDonor hw hk) (fun ⟨r1, V2⟩ hr => ref_f hr (fun ok hT => ?_) (fun no hT => tt_some (asks_no (e := 0) ?_ hT rfl (by decide))))
  · refine tt_ck ⟨by omega, by omega⟩ (tt_some (asks_yes ?_ hT))
    have e8 : V 8 k.toNat = wLim (V8 0) k := h.1.2.1 k ok.1 ok.2
    unfold f_X7_taxLimit
    rw [x7_donorY h hk ok, bx_l, ck_t ⟨ok.1, by omega⟩, e8, hT.2 0 (by decide)]; rfl
  · unfold f_X7_taxLimit
    rw [x7_donorN h hk no]; rfl
theorem ag_isDeclared {V X V8 : Sz} (h : LR (sv 4 V) (V8 0)) {n : Nat} (hn : 1000 ≤ n) {k t : Int} (hk : rng k) (ht : rng t) : TT (f_X8_isDeclared n V8 k t) (Asks cdA (f_X7_isDeclared n V X k t) V8) := by
  have hw := h.2.2.1
  unfold f_X8_isDeclared
  refine tt_bd (x8_noDonor hw hk) (fun ⟨r1, V2⟩ hr => ref_t hr (fun ok hT => ?_) (fun no hT => tt_some (asks_no (e := 0) ?_ hT rfl (by decide))))
  · have e0 : V2 0 = V8 0 := hT.2 0 (by decide)
    have e7 : f_X7_isDeclared n V X k t = some (.inl (forB (V8 0) k t)) := by
      unfold f_X7_isDeclared
      rw [x7_donorY h hk ok, bx_l, show f_X1_covers n (sv 9 V) k t = some (forB (V8 0) k t) from c1_covers (V := sv 4 V) h.1 hw h.2.2.2 (by omega) hk ht]; rfl
    rw [x8_isForced (by rw [e0]; exact hw) (by omega) hk ht, bd_s, e0]
    refine tt_ite (fun c => tt_some (asks_yes ?_ hT)) (fun c => tt_some (asks_yes ?_ hT))
    · rw [e7, c]
    · rw [e7, eq_true_of_ne_false c]
  · unfold f_X7_isDeclared
    rw [x7_donorN h hk no]; rfl
theorem ag_coverage {V X V8 : Sz} (h : LR (sv 4 V) (V8 0)) {n : Nat} (hn : 20000 ≤ n) {k a b : Int} (hk : rng k) (ha : rng a) (hb : rng b) : TT (f_X8_coverage n V8 k a b) (Asks cdB (f_X7_coverage n V X k a b) V8) := by
  have hw := h.2.2.1
  refine tt_mono (x8_coverage hw hn hk ha hb) (fun ⟨r, V2⟩ ⟨z, hT, h1, h2, h3⟩ => ?_)
  unfold f_X7_coverage
  by_cases c : 0 ≤ k ∧ k < V8 0 0
  · rw [x7_donorY h hk c, bx_l]
    by_cases c2 : 0 ≤ a ∧ a ≤ b ∧ b ≤ 9999
    · obtain ⟨z0, e⟩ := h3 c c2
      subst z0
      have e : r = cN (V8 0) k a (b + 1) := e
      refine asks_yes ?_ hT
      rw [x7_spanY ha hb c2, bx_l, show f_X1_coveredWithin n (sv 9 V) k a b = some (cN (V8 0) k a (b + 1)) from c1_coveredWithin (V := sv 4 V) h.1 hw h.2.2.2 (by omega) hk c2.1 c2.2.1 c2.2.2, e]; rfl
    · have z0 := h2 c c2
      subst z0
      refine asks_no (e := 1) ?_ hT rfl (by decide)
      rw [x7_spanN ha hb c2]; rfl
  · have z0 := h1 c
    subst z0
    refine asks_no (e := 0) ?_ hT rfl (by decide)
    rw [x7_donorN h hk c]; rfl
theorem ag_benefitRoom {V X V8 : Sz} (h : LR (sv 4 V) (V8 0)) {k : Int} (hk : rng k) : TT (f_X8_benefitRoom V8 k) (Asks cdA (f_X7_benefitRoom V X k) V8) := by
  have hw := h.2.2.1
  have a2 := hw.2.1.2.2.1
  have a7 := hw.2.1.2.2.2.2.2.2
  unfold f_X8_benefitRoom
  refine tt_bd (x8_noGift hw hk) (fun ⟨r1, V2⟩ hr => ref_f hr (fun ok hT => ?_) (fun no hT => tt_some (asks_no (e := 0) ?_ hT rfl (by decide))))
  · have hgw := hw.2.2.2.2.1 k ok.1 ok.2
    have e15 : V 15 k.toNat = wAm (V8 0) k := (h.1.2.2.2.1 k ok.1 ok.2).2.1
    have m0 : 0 ≤ V8 0 7 * wAm (V8 0) k := Int.mul_nonneg (by omega) (by omega)
    have m1 : V8 0 7 * wAm (V8 0) k ≤ 100 * 999999 := Int.mul_le_mul (by omega) (by omega) (by omega) (by omega)
    have ea : V2 0 (173 + k).toNat = wAm (V8 0) k := by rw [hT.2 0 (by decide)]; rfl
    have e7 : V2 0 7 = V8 0 7 := by rw [hT.2 0 (by decide)]
    rw [ea, e7]
    refine tt_ck ⟨by omega, by omega⟩ (tt_ck ⟨m0, by omega⟩ (tt_some (asks_yes ?_ hT)))
    unfold f_X7_benefitRoom
    rw [x7_giftY h hk ok, bx_l, ck_t ⟨ok.1, by omega⟩, e15, h.at.2.2.1, ck_t ⟨m0, by omega⟩]; rfl
  · unfold f_X7_benefitRoom
    rw [x7_giftN h hk no]; rfl
theorem ag_claimed {V X V8 : Sz} (h : LR (sv 4 V) (V8 0)) {k q : Int} (hk : rng k) (hq : rng q) : TT (f_X8_claimed V8 k q) (Asks cdB (f_X7_claimed V X k q) V8) := by
  have hw := h.2.2.1
  have a4 := hw.2.1.2.2.2.1
  have e25 := h.at.2.2.2.2.2.2
  unfold f_X8_claimed
  refine tt_nmE (fun V1 e1 => ?_)
  have hT : Thr V8 V1 0 := by rw [e1]; exact Thr.zero V8 0
  have e0 : V1 0 = V8 0 := hT.2 0 (by decide)
  rw [e0]
  refine rg_t hk ⟨by decide, by decide⟩ ⟨by omega, by omega⟩ (fun c => ?_) (fun c => ?_)
  · unfold jX8_claimed_27
    refine f0_t (tt_f (by decide) (rg_t hq ⟨by decide, by decide⟩ ⟨by decide, by decide⟩ (fun c2 => ?_) (fun c2 => ?_)))
    · unfold jX8_claimed_49
      refine f0_t (tt_t rfl (tt_ck ⟨by omega, by omega⟩ (tt_some (asks_yes ?_ hT))))
      have ec : V 26 (k * 5 + q).toNat = wCl (V8 0) k q := h.1.2.2.2.2.2.2 k q c.1 (by omega) c2.1 (by omega)
      unfold f_X7_claimed
      rw [ck_t hk, if_neg (by omega), e25, ck_t ⟨by omega, by omega⟩, if_pos (by omega), x7_rangeY hq ⟨by decide, by decide⟩ ⟨by decide, by decide⟩ c2, bx_l, ck_t ⟨by omega, by omega⟩, ec, e0]; rfl
    · unfold jX8_claimed_49
      refine f1_t (tt_f (by decide) (tt_some (asks_no (e := 1) ?_ (hT.trans (Thr.zero V1 2)) rfl (by decide))))
      unfold f_X7_claimed
      rw [ck_t hk, if_neg (by omega), e25, ck_t ⟨by omega, by omega⟩, if_pos (by omega), x7_rangeN hq ⟨by decide, by decide⟩ ⟨by decide, by decide⟩ c2]; rfl
  · unfold jX8_claimed_27
    refine f1_t (tt_t rfl (tt_some (asks_no (e := 0) ?_ (hT.trans (Thr.zero V1 1)) rfl (by decide))))
    unfold f_X7_claimed
    rw [ck_t hk]
    by_cases c2 : k < 0
    · rw [if_pos c2]; rfl
    · rw [if_neg c2, e25, ck_t ⟨by omega, by omega⟩, if_neg (by omega)]; rfl
theorem daysOf_both {V X V8 V5 : Sz} (h : LR (sv 4 V) (V8 0)) (e : V5 0 = V8 0) {k : Int} (ok : 0 ≤ k ∧ k < V8 0 1) : ∃ r : Int, f_X8_daysOf V5 k = some r ∧ f_X1_daysOf (sv 9 V) k = some r ∧ r = max 0 (wTo (V8 0) k - wFr (V8 0) k + 1) := by
  have hw := h.2.2.1
  have h30 := h.2.2.2
  have hkw := hw.2.2.2.1 k ok.1 ok.2
  have hk := h.1.2.2.1 k ok.1 ok.2
  have e1 : V5 0 (82 + k).toNat = wTo (V8 0) k := by rw [e]; rfl
  have e2 : V5 0 (51 + k).toNat = wFr (V8 0) k := by rw [e]; rfl
  have e3 : sv 9 V 3 k.toNat = wTo (V8 0) k := hk.2.2
  have e4 : sv 9 V 2 k.toNat = wFr (V8 0) k := hk.2.1
  refine ⟨_, ?_, ?_, rfl⟩
  · unfold f_X8_daysOf
    rw [e1, e2, ck_t ⟨by omega, by omega⟩, ck_t ⟨by omega, by omega⟩, ck_t ⟨by omega, by omega⟩]
  · unfold f_X1_daysOf
    rw [e3, e4, ck_t ⟨by omega, by omega⟩, ck_t ⟨by omega, by omega⟩]
theorem ag_declaration {V X V8 : Sz} (h : LR (sv 4 V) (V8 0)) {k q : Int} (hk : rng k) (hq : rng q) : TT (f_X8_declaration V8 k q) (Asks cdB (f_X7_declaration V X k q) V8) := by
  have hw := h.2.2.1
  have h30 := h.2.2.2
  unfold f_X8_declaration
  refine tt_bd (x8_noDeclaration hw hk) (fun ⟨r1, V2⟩ hr => ref_t hr (fun ok hT => ?_) (fun no hT => tt_some (asks_no (e := 0) ?_ hT rfl (by decide))))
  · have e0 : V2 0 = V8 0 := hT.2 0 (by decide)
    have hd := h.1.2.2.1 k ok.1 ok.2
    have e10 : V 10 k.toNat = wWho (V8 0) k := hd.1
    have e11 : V 11 k.toNat = wFr (V8 0) k := hd.2.1
    have e12 : V 12 k.toNat = wTo (V8 0) k := hd.2.2
    refine rg_t hq ⟨by decide, by decide⟩ ⟨by decide, by decide⟩ (fun c => ?_) (fun c => ?_)
    · unfold jX8_declaration_23
      obtain ⟨r, q1, q2, _⟩ := daysOf_both (X := X) h e0 ok
      have e7 : f_X7_declaration V X k q = some (.inl (if q = 0 then wWho (V8 0) k else if q = 1 then wFr (V8 0) k else if q = 2 then wTo (V8 0) k else r)) := by
        unfold f_X7_declaration
        rw [x7_declY h hk ok, bx_l, ck_t hq, ck_t ⟨ok.1, by omega⟩, ck_t ⟨ok.1, by omega⟩, ck_t ⟨ok.1, by omega⟩, e10, e11, e12, q2]
        by_cases c0 : q = 0
        · rw [if_pos c0, if_pos c0]; rfl
        · rw [if_neg c0, if_neg c0]
          by_cases c1 : q = 1
          · rw [if_pos c1, if_pos c1]; rfl
          · rw [if_neg c1, if_neg c1]
            by_cases c2 : q = 2
            · rw [if_pos c2, if_pos c2]; rfl
            · rw [if_neg c2, if_neg c2, if_pos (by omega)]; rfl
      refine f0_t (tt_t rfl (tt_ck hq (tt_ite (fun c0 => ?_) (fun c0 => tt_ite (fun c1 => ?_) (fun c1 => tt_ite (fun c2 => ?_) (fun c2 => ?_))))))
      · refine tt_ck ⟨by omega, by omega⟩ (tt_some (asks_yes ?_ hT))
        rw [e7, if_pos c0, e0]; rfl
      · refine tt_ck ⟨by omega, by omega⟩ (tt_some (asks_yes ?_ hT))
        rw [e7, if_neg c0, if_pos c1, e0]; rfl
      · refine tt_ck ⟨by omega, by omega⟩ (tt_some (asks_yes ?_ hT))
        rw [e7, if_neg c0, if_neg c1, if_pos c2, e0]; rfl
      · rw [q1, bd_s]
        refine tt_some (asks_yes ?_ hT)
        rw [e7, if_neg c0, if_neg c1, if_neg c2]
    · unfold jX8_declaration_23
      refine f1_t (tt_f (by decide) (tt_some (asks_no (e := 1) ?_ (hT.trans (Thr.zero V2 2)) rfl (by decide))))
      unfold f_X7_declaration
      rw [x7_declY h hk ok, bx_l, ck_t hq, if_neg (by omega), if_neg (by omega), if_neg (by omega), if_neg (by omega)]
  · unfold f_X7_declaration
    rw [x7_declN h hk no]; rfl
