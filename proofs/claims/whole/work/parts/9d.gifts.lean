theorem can_at {w : Rw} {g : Int} (h : canB w g = true) : wMany w g = 1 ∧ wBack w g = 0 ∧ wPc w (3 * g) = 0 := of_decide_eq_true h
theorem don_at {w : Rw} {g o : Int} (hm : wMany w g = 1) (h : donB w g o = false) : wPd w (3 * g) ≠ o := fun e => (of_decide_eq_false h) ⟨hm, e⟩
theorem ag_split {V X : Sz} {PV : Nat → Sz} {K : Nat} {V8 : Sz} (h : Rel V PV K V8) {n : Nat} (hn : 20000 < n) {g f o s : Int} (hg : rng g) (hf : rng f) (ho : rng o) (hs : rng s) : TT (f_X8_split n V8 g f o s) (Chg cdC V PV K (f_X7_split n V X PV K g f o s)) := by
  have hL := h.1
  have hw := hL.2.2.1
  have h30 := hL.2.2.2
  have a0 := hw.2.1.1
  have a2 := hw.2.1.2.2.1
  unfold f_X8_split
  refine tt_bd (x8_noGift hw hg) (fun ⟨r1, V1⟩ hr => ref_t hr (fun ok hT1 => ?_) (fun no hT => tt_some (chg_no (e := 0) h ?_ hT rfl (by decide))))
  · have e10 : V1 0 = V8 0 := hT1.2 0 (by decide)
    refine tt_bd (x8_noDonor (V0 := V1) (by rw [e10]; exact hw) ho) (fun ⟨r3, V4⟩ hr3 => ref_f hr3 (fun ok3 hT3 => ?_) (fun no3 hT3 => tt_some (chg_no (e := 0) h ?_ (hT1.trans hT3) rfl (by decide))))
    · rw [e10] at ok3
      have hT := hT1.trans hT3
      have e40 : V4 0 = V8 0 := hT.2 0 (by decide)
      have hal : f_X3_isAllOf (sv 13 V) g o = some (donB (V8 0) g o) := c3_isAllOf (V := sv 4 V) hL.1 hw ok.1 ok.2 ho
      have hwh : f_X3_isWhole (sv 13 V) g = some (canB (V8 0) g) := c3_isWhole (V := sv 4 V) hL.1 hw ok.1 ok.2
      have refuse : f_X7_split n V X PV K g f o s = some (.inr 1) → TT (jX8_split_49 n g f o s V4) (Chg cdC V PV K (f_X7_split n V X PV K g f o s)) := by
        intro e7
        unfold jX8_split_49 jX8_split_54
        exact f1_t (tt_t rfl (tt_some (chg_no (e := 1) h e7 (hT.trans (Thr.zero V4 2)) rfl (by decide))))
      refine rg_f hf ⟨by decide, by decide⟩ ⟨by decide, by decide⟩ (fun cf => rg_f hs ⟨by decide, by decide⟩ ⟨by decide, by decide⟩ (fun cs => ?_) (fun cs => refuse ?_)) (fun cf => refuse ?_)
      · rw [x8_isDonorOf (V := V4) (by rw [e40]; exact hw) ok.1 (by rw [e40]; exact ok.2) ho, bd_s, e40]
        refine tt_ite (fun cd => ?_) (fun cd => refuse ?_)
        · unfold jX8_split_54
          refine f0_t (tt_f (by decide) ?_)
          rw [x8_canSplit (V := V4) (by rw [e40]; exact hw) ok.1 (by rw [e40]; exact ok.2), bd_s, e40]
          refine tt_ite (fun cc => ?_) (fun cc => ?_)
          · have hc := can_at cc
            have hd := don_at hc.1 cd
            have hz := h.z g 1 ok.1 ok.2 (by omega) (by decide)
            have hgw := hw.2.2.2.2.1 g ok.1 ok.2
            unfold jX8_split_75
            refine f0_t (tt_t rfl (tt_bd (remember_both (h.thr hT) hn) (fun V5 ⟨hk5, Va, PVa, Ka, ea, hka, hPa⟩ => ?_)))
            have e50 : V5 0 = V8 0 := (hk5 0 (by decide) (by decide)).trans (hT.2 0 (by decide))
            refine tt_bd (x8_splits (V0 := V5) (by rw [e50]; exact hw) ok.1 (by rw [e50]; exact ok.2) ho cf cs (by omega)) (fun V9 ⟨hk9, hrw, hn9⟩ => ?_)
            rw [e50] at hrw
            obtain ⟨hG, e2, ⟨q1, q2, q3, q4, q5⟩, ⟨d0, d1⟩, hpa, hpb⟩ := spl_at hrw ok.1 (by omega)
            have hw1 := spl_WF hrw hw hn9 ok.1 ok.2 hc.1 hc.2.1 ok3 hd ⟨hz.1, by rw [hz.2]; decide, by rw [hz.2]; decide⟩ cf cs
            have h301 : V9 0 1 ≤ 30 := by rw [hG.1 1 (by decide) (by decide)]; exact h30
            have ean : V9 0 (593 + (3 * g + 1)).toNat = wPa (V9 0) (3 * g + 1) := rfl
            rw [x8_partOf, bd_s, ean]
            refine tt_ck ⟨by omega, by omega⟩ (tt_some ?_)
            have eav : ∀ k : Nat, k < 86 → Va k = V k := fun k hk => hka k (by omega) (by omega)
            have hLa : LR (sv 4 Va) (V8 0) := LR.copy (cop_at (fun k hk => eav _ (by omega))) hL
            have hx7 : TT (f_X7_split n V X PV K g f o s) (fun y => ∃ V2, y = .inl (wPa (V9 0) (3 * g + 1), V2, PVa, Ka) ∧ LR (sv 4 V2) (V9 0) ∧ ∀ k : Nat, k < 4 ∨ 31 ≤ k → V2 k = Va k) := by
              unfold f_X7_split
              rw [x7_giftY hL hg ok, bx_l, x7_donorY hL ho ok3, bx_l, x7_rangeY hf ⟨by decide, by decide⟩ ⟨by decide, by decide⟩ cf, bx_l, x7_rangeY hs ⟨by decide, by decide⟩ ⟨by decide, by decide⟩ cs, bx_l, hal, bd_s, if_pos cd, hwh, bd_s, if_pos cc, ea, bd_s]
              have hg9 : sv 13 Va 0 0 = V8 0 2 := by show Va 13 0 = _; rw [eav 13 (by decide)]; exact hL.at.2.2.2.2.2.1
              have hgl := hLa.1.2.2.2.1 g ok.1 ok.2
              refine tt_bl (tt_bd (c3_divide (V0 := sv 13 Va) (N := V8 0 2) (A := wAm (V8 0) g) ok.1 ok.2 ⟨hg9, a2.2⟩ ⟨by omega, by omega⟩ (by rw [← hc.1]; exact hgl.2.2.2.2) hgl.2.1 cf cs (by omega)) (fun V6 hF => tt_nmE (fun Vc ec => ?_)))
              have hL0 : LR0 (sv 4 Vc) (V9 0) := by
                subst ec
                refine div_LR0 (V := sv 4 Va) (V6 := V6) hLa.1 hw hrw ok.1 ok.2 hc.1 hz (fun k hk k22 => ?_) (fun k hk => ?_) hF
                · show sw 13 12 Va V6 (k + 4) = Va (k + 4)
                  exact sw_out (by omega)
                · show sw 13 12 Va V6 (k + 9 + 4) = V6 k
                  unfold sw
                  rw [if_pos ⟨by omega, by omega⟩]
                  congr 1
              refine tt_bd (c4_settle hL0 hw1 h301 (by omega)) (fun Vs ⟨hks, hvs⟩ => tt_nmE (fun Vd ed => ?_))
              have hst := settle_LR hL0 hw1 h301 hks hvs
              rw [← ed] at hst
              have hb1 := part_B hw1 (g := g) (i := 1) ok.1 (by rw [e2]; exact ok.2) (by decide) (by rw [q4]; decide)
              have ep : Vd 22 (g * 3 + 1).toNat = wPa (V9 0) (3 * g + 1) := by rw [Int.mul_comm]; exact (hst.1.1.2.2.2.2.1 (3 * g + 1) (by omega) (by omega) hb1).2.1
              refine tt_ck ⟨by omega, by omega⟩ (tt_some ⟨Vd, by rw [ep], hst.1, fun k hk => ?_⟩)
              rw [hst.2 k hk, ec, sw_out (by omega)]
            obtain ⟨y, ey, V2, rfl, hL2, hk2⟩ := hx7
            exact chg_yes h hT hk5 hPa hka (fun k k0 _ => hk9 k k0) hk2 hL2 (spl_z hrw hw ok.1 ok.2 hc.1 h.z) ey
          · unfold jX8_split_75
            refine f1_t (tt_f (by decide) (tt_some (chg_no (e := 2) h ?_ (hT.trans (Thr.zero V4 3)) rfl (by decide))))
            unfold f_X7_split
            rw [x7_giftY hL hg ok, bx_l, x7_donorY hL ho ok3, bx_l, x7_rangeY hf ⟨by decide, by decide⟩ ⟨by decide, by decide⟩ cf, bx_l, x7_rangeY hs ⟨by decide, by decide⟩ ⟨by decide, by decide⟩ cs, bx_l, hal, bd_s, if_pos cd, hwh, bd_s, if_neg cc]
        · unfold f_X7_split
          rw [x7_giftY hL hg ok, bx_l, x7_donorY hL ho ok3, bx_l, x7_rangeY hf ⟨by decide, by decide⟩ ⟨by decide, by decide⟩ cf, bx_l, x7_rangeY hs ⟨by decide, by decide⟩ ⟨by decide, by decide⟩ cs, bx_l, hal, bd_s, if_neg cd]
      · unfold f_X7_split
        rw [x7_giftY hL hg ok, bx_l, x7_donorY hL ho ok3, bx_l, x7_rangeY hf ⟨by decide, by decide⟩ ⟨by decide, by decide⟩ cf, bx_l, x7_rangeN hs ⟨by decide, by decide⟩ ⟨by decide, by decide⟩ cs]; rfl
      · unfold f_X7_split
        rw [x7_giftY hL hg ok, bx_l, x7_donorY hL ho ok3, bx_l, x7_rangeN hf ⟨by decide, by decide⟩ ⟨by decide, by decide⟩ cf]; rfl
    · rw [e10] at no3
      unfold f_X7_split
      rw [x7_giftY hL hg ok, bx_l, x7_donorN hL ho no3]; rfl
  · unfold f_X7_split
    rw [x7_giftN hL hg no]; rfl
theorem ag_gainOfSplit {V X : Sz} {PV : Nat → Sz} {K : Nat} {V8 : Sz} (h : Rel V PV K V8) {n : Nat} (hn : 20000 < n) {g o : Int} (hg : rng g) (ho : rng o) : TT (f_X8_gainOfSplit n V8 g o) (Chs cdA V PV K (f_X7_gainOfSplit n V X g o)) := by
  have hL := h.1
  have hw := hL.2.2.1
  have h30 := hL.2.2.2
  have a0 := hw.2.1.1
  have a2 := hw.2.1.2.2.1
  unfold f_X8_gainOfSplit
  refine tt_bd (x8_noGift hw hg) (fun ⟨r1, V1⟩ hr => ref_t hr (fun ok hT1 => ?_) (fun no hT => tt_some (chs_no (e := 0) h ?_ hT rfl (by decide))))
  · have e10 : V1 0 = V8 0 := hT1.2 0 (by decide)
    refine tt_bd (x8_noDonor (V0 := V1) (by rw [e10]; exact hw) ho) (fun ⟨r3, V4⟩ hr3 => ref_t hr3 (fun ok3 hT3 => ?_) (fun no3 hT3 => tt_some (chs_no (e := 0) h ?_ (hT1.trans hT3) rfl (by decide))))
    · rw [e10] at ok3
      have hT := hT1.trans hT3
      have e40 : V4 0 = V8 0 := hT.2 0 (by decide)
      have hal : f_X3_isAllOf (sv 13 V) g o = some (donB (V8 0) g o) := c3_isAllOf (V := sv 4 V) hL.1 hw ok.1 ok.2 ho
      have hwh : f_X3_isWhole (sv 13 V) g = some (canB (V8 0) g) := c3_isWhole (V := sv 4 V) hL.1 hw ok.1 ok.2
      have nothing : f_X7_gainOfSplit n V X g o = some (.inl (0, V)) → TT (some ((0 : Int), V4)) (Chs cdA V PV K (f_X7_gainOfSplit n V X g o)) := fun e7 => tt_some (Or.inl ⟨V, e7, hT.1, h.thr hT⟩)
      rw [x8_canSplit (V := V4) (by rw [e40]; exact hw) ok.1 (by rw [e40]; exact ok.2), bd_s, e40]
      refine tt_ite (fun cc => nothing ?_) (fun cc => ?_)
      · unfold f_X7_gainOfSplit
        rw [x7_giftY hL hg ok, bx_l, x7_donorY hL ho ok3, bx_l, hal, bd_s, hwh, bd_s, cc]
        split <;> rfl
      have cc := eq_true_of_ne_false cc
      have hc := can_at cc
      rw [x8_isDonorOf (V := V4) (by rw [e40]; exact hw) ok.1 (by rw [e40]; exact ok.2) ho, bd_s, e40]
      refine tt_ite (fun cd => ?_) (fun cd => nothing ?_)
      · have hd := don_at hc.1 cd
        have hz := h.z g 1 ok.1 ok.2 (by omega) (by decide)
        have hgw := hw.2.2.2.2.1 g ok.1 ok.2
        refine tt_bd (x8_allAid (V0 := V4) (by rw [e40]; exact hw) (by omega)) (fun ⟨r7, V7⟩ ⟨hr7, hA7⟩ => ?_)
        have hr7 : r7 = totS (V4 0) := hr7
        rw [e40] at hr7
        have hA7 : AidOK V4 V7 := hA7
        have e70 : V7 0 = V8 0 := (hA7.1 0 (by decide) (by decide) (by decide) (by decide)).trans e40
        unfold f_X8_begins
        refine tt_bd (tt_bd (x8_copies (by decide) (by decide) (by decide) (by decide) (by decide) (by decide) hn) (Q := fun T => ∀ i : Nat, T i = if (0 : Int).toNat ≤ i ∧ i < (0 + (1233 : Int)).toNat then V7 0 ((0 : Int).toNat + (i - (0 : Int).toNat)) else V7 3 i) (P := fun V9 => (∀ k : Nat, k ≠ 3 → V9 k = V7 k) ∧ ∀ i : Nat, i < 1233 → V9 3 i = V8 0 i) (fun T hTT => tt_nmE (fun Vb eb => tt_some ⟨fun k hk => by rw [eb, uy_ne hk], fun i hi => ?_⟩))) (fun V9 ⟨hk9, h93⟩ => ?_)
        · rw [eb, uy_at, hTT i, if_pos ⟨by omega, by show i < (0 + (1233 : Int)).toNat; omega⟩, e70]
          congr 1
          show (0 : Int).toNat + (i - (0 : Int).toNat) = i
          omega
        have e90 : V9 0 = V8 0 := (hk9 0 (by decide)).trans e70
        refine tt_bd (x8_splits (V0 := V9) (f := 1) (s := 1) (by rw [e90]; exact hw) ok.1 (by rw [e90]; exact ok.2) ho ⟨by decide, by decide⟩ ⟨by decide, by decide⟩ (by omega)) (fun V10 ⟨hk10, hrw, hn10⟩ => ?_)
        rw [e90] at hrw
        obtain ⟨hG, e2, ⟨q1, q2, q3, q4, q5⟩, ⟨d0, d1⟩, hpa, hpb⟩ := spl_at hrw ok.1 (by omega)
        have hw1 := spl_WF hrw hw hn10 ok.1 ok.2 hc.1 hc.2.1 ok3 hd ⟨hz.1, by rw [hz.2]; decide, by rw [hz.2]; decide⟩ ⟨by decide, by decide⟩ ⟨by decide, by decide⟩
        have h301 : V10 0 1 ≤ 30 := by rw [hG.1 1 (by decide) (by decide)]; exact h30
        refine tt_bd (x8_allAid (V0 := V10) hw1 (by omega)) (fun ⟨r11, V12⟩ ⟨hr11, hA12⟩ => ?_)
        have hr11 : r11 = totS (V10 0) := hr11
        have hA12 : AidOK V10 V12 := hA12
        have e123 : ∀ i : Nat, i < 1233 → V12 3 i = V8 0 i := fun i hi => by
          rw [hA12.1 3 (by decide) (by decide) (by decide) (by decide), hk10 3 (by decide)]; exact h93 i hi
        unfold f_X8_ends
        refine tt_bd (tt_bd (x8_copies (by decide) (by decide) (by decide) (by decide) (by decide) (by decide) hn) (Q := fun T => ∀ i : Nat, T i = if (0 : Int).toNat ≤ i ∧ i < (0 + (1233 : Int)).toNat then V12 3 ((0 : Int).toNat + (i - (0 : Int).toNat)) else V12 0 i) (P := fun V13 => (∀ k : Nat, k ≠ 0 → V13 k = V12 k) ∧ ∀ i : Nat, i < 1233 → V13 0 i = V8 0 i) (fun T hTT => tt_nmE (fun Vb eb => tt_some ⟨fun k hk => by rw [eb, uy_ne hk], fun i hi => ?_⟩))) (fun V13 ⟨hk13, h130⟩ => tt_some ?_)
        · rw [eb, uy_at, hTT i, if_pos ⟨by omega, by show i < (0 + (1233 : Int)).toNat; omega⟩, show (0 : Int).toNat + (i - (0 : Int).toNat) = i by show 0 + (i - 0) = i; omega]
          exact e123 i hi
        have hrest : ∀ k : Nat, k ≠ 0 → k ≠ 3 → k < 10 ∨ 13 < k → V13 k = V4 k := fun k k0 k3 k1 => by
          rw [hk13 k k0, hA12.1 k (by omega) (by omega) (by omega) (by omega), hk10 k k0, hk9 k k3, hA7.1 k (by omega) (by omega) (by omega) (by omega)]
        have hx7 : TT (f_X7_gainOfSplit n V X g o) (fun y => ∃ V2, y = .inl (totS (V10 0) - totS (V8 0), V2) ∧ ∀ j : Nat, j < 31 ∨ 58 ≤ j → V2 j = V j) := by
          unfold f_X7_gainOfSplit
          rw [x7_giftY hL hg ok, bx_l, x7_donorY hL ho ok3, bx_l, hal, bd_s, if_neg (by rw [cd]; decide), hwh, bd_s, if_pos cc]
          refine tt_bl (tt_bd (c4_become (sv 31 V) (sv 4 V)) (fun G hGc => tt_nmE (fun Vb eb => ?_)))
          have hLb : LR (sv 31 Vb) (V8 0) := by rw [eb]; exact LR.copy ((sw_cop31 V G).trans hGc) hL
          have hg9 : sv 40 Vb 0 0 = V8 0 2 := hLb.1.1.2.2.2.2.2.1
          have hgl := hLb.1.2.2.2.1 g ok.1 ok.2
          refine tt_bd (c3_divide (V0 := sv 40 Vb) (N := V8 0 2) (A := wAm (V8 0) g) (f := 1) (s := 1) ok.1 ok.2 ⟨hg9, a2.2⟩ ⟨by omega, by omega⟩ (by rw [← hc.1]; exact hgl.2.2.2.2) hgl.2.1 ⟨by decide, by decide⟩ ⟨by decide, by decide⟩ (by omega)) (fun V6 hF => tt_nmE (fun Vc ec => ?_))
          have hL0 : LR0 (sv 31 Vc) (V10 0) := by
            subst ec
            refine div_LR0 (V := sv 31 Vb) (V6 := V6) hLb.1 hw hrw ok.1 ok.2 hc.1 hz (fun k hk k22 => ?_) (fun k hk => ?_) hF
            · show sw 40 12 Vb V6 (k + 31) = Vb (k + 31)
              exact sw_out (by omega)
            · show sw 40 12 Vb V6 (k + 9 + 31) = V6 k
              unfold sw
              rw [if_pos ⟨by omega, by omega⟩]
              congr 1
          refine tt_bd (c4_settle hL0 hw1 h301 (by omega)) (fun Vs ⟨hks, hvs⟩ => tt_nmE (fun Vd ed => ?_))
          have hLd : LR (sv 31 Vd) (V10 0) := by rw [ed]; exact settle_LR31 hL0 hw1 h301 hks hvs
          have hod : ∀ j : Nat, j < 31 ∨ 58 ≤ j → Vd j = V j := fun j hj => by
            rw [ed, sw_out (by omega), ec, sw_out (by omega), eb, sw_out (by omega)]
          have hLn : LR (sv 4 Vd) (V8 0) := LR.copy (cop_at (fun j hj => hod _ (by omega))) hL
          rw [c4_sumOfAll hLd (by omega) ⟨by decide, by decide⟩, bd_s, c4_sumOfAll hLn (by omega) ⟨by decide, by decide⟩, bd_s, totS_meas, totS_meas]
          exact tt_some ⟨Vd, rfl, hod⟩
        obtain ⟨y, ey, V2, rfl, hod⟩ := hx7
        refine Or.inl ⟨V2, ?_, ?_, ?_⟩
        · rw [ey]
          show _ = some (Sum.inl (r11 - r7, V2))
          rw [hr11, hr7]
        · show V13 9 0 = 0
          rw [hrest 9 (by decide) (by decide) (by decide)]; exact hT.1
        · have h1 : Rel V2 PV K V4 := (h.thr hT).keep (fun j hj => hod j (by omega)) (fun _ _ => rfl)
          refine h1.row ?_ ?_ (fun k hk => hrest k (by omega) (by omega) (by omega))
          · show LR (sv 4 V2) (V13 0)
            have hLn : LR (sv 4 V2) (V8 0) := LR.copy (cop_at (fun j hj => hod _ (by omega))) hL
            exact leq_LR (leq_all hw h130) hLn (wfn_all hw.1 h130)
          · show WFz (V13 0)
            exact wfz_same hw (h130 2 (by decide)) (fun i _ i1 => h130 i (by omega)) h.z
      · unfold f_X7_gainOfSplit
        rw [x7_giftY hL hg ok, bx_l, x7_donorY hL ho ok3, bx_l, hal, bd_s, if_pos (eq_true_of_ne_false cd)]; rfl
    · rw [e10] at no3
      unfold f_X7_gainOfSplit
      rw [x7_giftY hL hg ok, bx_l, x7_donorN hL ho no3]; rfl
  · unfold f_X7_gainOfSplit
    rw [x7_giftN hL hg no]; rfl
