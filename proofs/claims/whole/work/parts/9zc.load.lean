theorem tt_assoc {α β γ : Type} {x : Option α} {f : α → Option β} {k : β → Option γ} {Q : β → Prop} {P : γ → Prop} (h : TT (bd x f) Q) (hk : ∀ b, Q b → TT (k b) P) : TT (bd x fun a => bd (f a) k) P := by
  obtain ⟨b, e, hQ⟩ := h
  cases x with
  | none =>
    have e : (none : Option β) = some b := e
    cases e
  | some a =>
    have e : f a = some b := e
    show TT (bd (f a) k) P
    rw [e]
    exact hk b hQ
theorem ag_loadRegister {V X : Sz} {PV : Nat → Sz} {K : Nat} {V8 : Sz} (h : Rel V PV K V8) {n : Nat} (hn : 20000 < n) : TT (f_X8_loadRegister n V8) (fun r => r.2 9 0 = 0 ∧ ∃ V1 X1 : Sz, f_X7_loadRegister n V X = some (r.1, V1, X1) ∧ Rel V1 PV K r.2) := by
  have hL := h.1
  obtain ⟨n1, n2, n3⟩ := h.2.2.2.1
  have hBT : BT (V 0) (V 1 0) := ⟨by rw [n1]; exact n2, fun p p0 p1 => (n3 p.toNat (by omega)).1⟩
  unfold f_X8_loadRegister
  refine tt_nmE (fun V1 e1 => tt_bd (x8_copies (by decide) (by decide) (by decide) (by decide) (by decide) (by decide) hn) (fun T2 h2 => tt_nmE (fun V3 e3 => tt_bd (x8_copies (by decide) (by decide) (by decide) (by decide) (by decide) (by decide) hn) (fun T4 h4 => tt_nmE (fun V5 e5 => tt_bd (x8_clear hn) (fun V6 ⟨k6, z6⟩ => tt_nmE (fun V7 e7 => tt_nmE (fun V8' e8 => tt_nmE (fun V9 e9 => tt_nmE (fun V10 e10 => ?_))))))))))
  have k5 : ∀ k : Nat, k ≠ 1 → k ≠ 8 → k ≠ 9 → V5 k = V8 k := fun k u1 u8 u9 => by rw [e5, uy_ne u8, e3, uy_ne u1, e1, us_ne u9]
  have k10 : ∀ k : Nat, k ≠ 0 → k ≠ 18 → k ≠ 19 → k ≠ 20 → k ≠ 24 → V10 k = V5 k := fun k u0 u18 u19 u20 u24 => by rw [e10, us_ne u24, e9, us_ne u20, e8, us_ne u19, e7, us_ne u18]; exact k6 k u0
  have r51 : ∀ i : Nat, i < 1233 → V5 1 i = V8 0 i := fun i hi => by
    rw [e5, uy_ne (by decide), e3, uy_at, h2 i, if_pos ⟨by show (0 : Int).toNat ≤ i; omega, by show i < ((0 : Int) + 1233).toNat; omega⟩, e1, us_ne (by decide)]
    show V8 0 ((0 : Int).toNat + (i - (0 : Int).toNat)) = V8 0 i
    congr 1
    omega
  have z10 : ∀ i : Nat, i < 1233 → V10 0 i = if i = 7 then 25 else if i = 6 then 1460 else if i = 5 then 25 else 0 := fun i hi => by
    rw [e10, us_ne (by decide), e9, us_ne (by decide), e8, us_ne (by decide), e7, us_ne (by decide)]; exact z6 i hi
  have hBy : By (V 0) (V 1 0) V10 := by
    unfold By
    rw [k10 15 (by decide) (by decide) (by decide) (by decide) (by decide), k5 15 (by decide) (by decide) (by decide), k10 14 (by decide) (by decide) (by decide) (by decide) (by decide), k5 14 (by decide) (by decide) (by decide)]
    exact ⟨n1.symm, fun p p0 p1 => (n3 p.toNat (by omega)).2⟩
  have x18 : V10 18 0 = 0 := by rw [e10, us_ne (by decide), e9, us_ne (by decide), e8, us_ne (by decide), e7, us_at]
  have x19 : V10 19 0 = -1 := by rw [e10, us_ne (by decide), e9, us_ne (by decide), e8, us_at]
  have x20 : V10 20 0 = 0 := by rw [e10, us_ne (by decide), e9, us_at]
  have x24 : V10 24 0 = 0 := by rw [e10, us_at]
  refine tt_assoc (read_both (V0 := sv 88 V) (X0 := X) (G0 := sv 31 V) hBT hBy z10 x18 x19 x20 x24 hn) (fun ⟨b, V13⟩ ⟨hk13, Vz, Xz, Gz, ez, ho⟩ => ?_)
  have hk13 : KeepR V10 V13 := hk13
  refine tt_nmE (fun x14 ex14 => tt_nmE (fun V15 e15 => tt_nmE (fun V16 e16 => tt_nmE (fun V17 e17 => ?_))))
  have k17 : ∀ k : Nat, k ≠ 15 → k ≠ 16 → k ≠ 17 → V17 k = V13 k := fun k u15 u16 u17 => by rw [e17, us_ne u17, e16, us_ne u16, e15, us_ne u15]
  have y15 : V17 15 0 = 0 := by rw [e17, us_ne (by decide), e16, us_ne (by decide), e15, us_at]
  have y16 : V17 16 0 = V13 18 0 := by rw [e17, us_ne (by decide), e16, us_at, e15, us_ne (by decide)]
  have y17 : V17 17 0 = V13 19 0 := by rw [e17, us_at, e16, us_ne (by decide), e15, us_ne (by decide)]
  -- what neither outcome touches
  have kk : ∀ k : Nat, k = 2 ∨ k = 4 ∨ k = 5 ∨ k = 6 ∨ k = 9 ∨ k = 30 ∨ k = 31 → V17 k = V5 k := fun k hk => by
    rw [k17 k (by omega) (by omega) (by omega), hk13 k (by omega), k10 k (by omega) (by omega) (by omega) (by omega) (by omega)]
  have k11 : V17 1 = V5 1 := by rw [k17 1 (by decide) (by decide) (by decide), hk13 1 (by decide), k10 1 (by decide) (by decide) (by decide) (by decide) (by decide)]
  have z9 : V17 9 0 = 0 := by rw [kk 9 (by decide), e5, uy_ne (by decide), e3, uy_ne (by decide), e1, us_at]
  -- the class behind its reader
  obtain ⟨C4, ec4⟩ : ∃ C4 : Sz, C4 = sw 88 7 V Vz := ⟨_, rfl⟩
  obtain ⟨C5, ec5⟩ : ∃ C5 : Sz, C5 = sw 31 27 C4 Gz := ⟨_, rfl⟩
  obtain ⟨C6, ec6⟩ : ∃ C6 : Sz, C6 = us C5 1 0 := ⟨_, rfl⟩
  obtain ⟨C7, ec7⟩ : ∃ C7 : Sz, C7 = us C6 2 (C6 88 0) := ⟨_, rfl⟩
  obtain ⟨C8, ec8⟩ : ∃ C8 : Sz, C8 = us C7 3 (C7 89 0) := ⟨_, rfl⟩
  have c88 : C6 88 0 = Vz 0 0 := by rw [ec6, us_ne (by decide), ec5, sw_out (by omega), ec4]; rfl
  have c89 : C7 89 0 = Vz 1 0 := by rw [ec7, us_ne (by decide), ec6, us_ne (by decide), ec5, sw_out (by omega), ec4]; rfl
  have ck8 : ∀ k : Nat, k = 0 ∨ (4 ≤ k ∧ k < 31) ∨ (58 ≤ k ∧ k < 88) ∨ 95 ≤ k → C8 k = V k := fun k hk => by
    rw [ec8, us_ne (by omega), ec7, us_ne (by omega), ec6, us_ne (by omega), ec5, sw_out (by omega), ec4, sw_out (by omega)]
  have c1 : C8 1 0 = 0 := by rw [ec8, us_ne (by decide), ec7, us_ne (by decide), ec6, us_at]
  have c2 : C8 2 0 = Vz 0 0 := by rw [ec8, us_ne (by decide), ec7, us_at]; exact c88
  have c3 : C8 3 0 = Vz 1 0 := by rw [ec8, us_at]; exact c89
  have c31 : CopL (sv 31 C8) Gz := by
    have e : CopL (sv 31 C8) (sv 31 (sw 31 27 C4 Gz)) := cop_at (fun k hk => by
      rw [ec8, us_ne (by omega), ec7, us_ne (by omega), ec6, us_ne (by omega), ec5])
    exact e.trans (sw_cop31 C4 Gz)
  have hx : ∀ {P : Int × Sz × Sz → Prop}, TT (ck (rng (C8 2 0)) <| if C8 2 0 = 0 then (bd (f_X4_settle n (sv 31 C8)) fun (V_10 : Sz) => nm (sw 31 27 C8 V_10) fun (V_11 : Sz) => bd (f_X4_become (sv 4 V_11) (sv 31 V_11)) fun (V_12 : Sz) => nm (sw 4 27 V_11 V_12) fun (V_13 : Sz) => nm (us V_13 87 0) fun (V_14 : Sz) => nm (us V_14 85 0) fun (V_15 : Sz) => some (V_15 13 0, V_15, Xz)) else (some ((-1), C8, Xz))) P → TT (f_X7_loadRegister n V X) P := by
    intro P hP
    unfold f_X7_loadRegister
    refine tt_eb ez ?_
    rw [ec8, ec7, ec6, ec5, ec4] at hP
    exact tt_nm (tt_nm (tt_nm (tt_nm (tt_nm hP))))
  rcases ho with ⟨eb, o18, o19, oz0, oz1, hS⟩ | ⟨eb, c, o, hc, hoo, oz0, oz1, o18, o19⟩
  · -- the text was read
    have eb : b = true := eb
    have o18 : V13 18 0 = 0 := o18
    have o19 : V13 19 0 = -1 := o19
    have hS : SR Gz Vz Xz V13 := hS
    obtain ⟨⟨hLR0, hw, h30, hz⟩, -⟩ := hS
    subst eb
    have o18 : V13 18 0 = 0 := o18
    have o19 : V13 19 0 = -1 := o19
    have ex14 : x14 = 1 := ex14
    rw [ex14]
    refine tt_ck ⟨by decide, by decide⟩ (tt_f (by decide) (tt_nmE (fun V19 e19 => tt_nmE (fun V20 e20 => tt_some ?_))))
    have e200 : V20 0 = V13 0 := by rw [e20, us_ne (by decide), e19, us_ne (by decide), k17 0 (by decide) (by decide) (by decide)]
    have hL8 : LR0 (sv 31 C8) (V13 0) := LR0.copy c31 hLR0 hw h30
    have hcl : TT (f_X7_loadRegister n V X) (fun r => r.1 = V13 0 2 ∧ LR (sv 4 r.2.1) (V13 0) ∧ r.2.1 87 0 = 0 ∧ r.2.1 85 0 = 0 ∧ ∀ k : Nat, k < 4 ∨ (58 ≤ k ∧ k ≠ 85 ∧ k ≠ 87) → r.2.1 k = C8 k) := by
      refine hx ?_
      rw [c2, oz0]
      refine tt_ck ⟨by decide, by decide⟩ (tt_t rfl ?_)
      refine tt_bd (c4_settle hL8 hw h30 (n := n) (by omega)) (fun Vs ⟨hks, hvs⟩ => tt_nmE (fun C11 e11 => ?_))
      have hLs : LR Vs (V13 0) := ⟨hL8.same hks, hvs, hw, h30⟩
      have hL31 : LR (sv 31 C11) (V13 0) := by
        rw [e11]
        exact LR.copy (sw_cop31 C8 Vs) hLs
      refine tt_bd (c4_become (sv 4 C11) (sv 31 C11)) (fun Vd hcp => tt_nmE (fun C13 e13 => tt_nmE (fun C14 e14 => tt_nmE (fun C15 e15' => tt_some ?_))))
      have hLd : LR Vd (V13 0) := LR.copy hcp hL31
      have hL15 : LR (sv 4 C15) (V13 0) := by
        refine LR.copy (CopL.trans (cop_at (V := C13) (fun k hk => ?_)) ?_) hLd
        · rw [e15', us_ne (by omega), e14, us_ne (by omega)]
        · rw [e13]; exact sw_cop4 C11 Vd
      refine ⟨hL15.at.2.2.2.2.2.1, hL15, ?_, ?_, fun k hk => ?_⟩
      · show C15 87 0 = 0
        rw [e15', us_ne (by decide), e14, us_at]
      · show C15 85 0 = 0
        rw [e15', us_at]
      · show C15 k = C8 k
        rw [e15', us_ne (by omega), e14, us_ne (by omega), e13, sw_out (by omega), e11, sw_out (by omega)]
    obtain ⟨⟨r, C15, X1⟩, ecl, er, hL15, q87, q85, qk⟩ := hcl
    have er : r = V13 0 2 := er
    have hL15 : LR (sv 4 C15) (V13 0) := hL15
    have q87 : C15 87 0 = 0 := q87
    have q85 : C15 85 0 = 0 := q85
    have qk : ∀ k : Nat, k < 4 ∨ (58 ≤ k ∧ k ≠ 85 ∧ k ≠ 87) → C15 k = C8 k := qk
    have v5 : V20 5 0 = 0 := by rw [e20, us_ne (by decide), e19, us_at]
    have v6 : V20 6 0 = 0 := by rw [e20, us_at]
    have vk : ∀ k : Nat, k ≠ 5 → k ≠ 6 → V20 k = V17 k := fun k u5 u6 => by rw [e20, us_ne u6, e19, us_ne u5]
    refine ⟨by show V20 9 0 = 0; rw [vk 9 (by decide) (by decide)]; exact z9, C15, X1, by rw [ecl, er, e200], ?_, ?_, ?_, ?_, ?_, ?_, ?_⟩
    · show LR (sv 4 C15) (V20 0)
      rw [e200]; exact hL15
    · show RelS C15 V20
      exact ⟨by rw [q85, v6], Or.inl v6⟩
    · show RelP C15 PV K V20
      obtain ⟨⟨p1, p2, p3, p4⟩, -⟩ := h.2.2.1
      have e86 : C15 86 = V 86 := by rw [qk 86 (by decide), ck8 86 (by decide)]
      unfold RelP
      rw [e86, q87, v5]
      exact ⟨⟨p1, p2, p3, p4⟩, ⟨rfl, Int.le_refl _, by decide, by omega⟩, fun j j0 j1 => by omega⟩
    · show RelI C15 V20
      unfold RelI
      rw [qk 1 (by decide), c1, vk 15 (by decide) (by decide), y15]
      exact ⟨rfl, ⟨by decide, by decide⟩, fun i hi => by omega⟩
    · show RelE C15 V20
      unfold RelE
      rw [qk 2 (by decide), c2, qk 3 (by decide), c3, vk 16 (by decide) (by decide), y16, vk 17 (by decide) (by decide), y17, oz0, oz1, o18, o19]
      exact ⟨⟨rfl, by decide, by decide⟩, rfl, by decide, by decide⟩
    · show RelO C15 V20
      have hO := h.2.2.2.2.2.1
      unfold RelO at *
      rw [qk 100 (by decide), ck8 100 (by decide), qk 99 (by decide), ck8 99 (by decide), vk 31 (by decide) (by decide), kk 31 (by decide), k5 31 (by decide) (by decide) (by decide), vk 30 (by decide) (by decide), kk 30 (by decide), k5 30 (by decide) (by decide) (by decide)]; exact hO
    · show RelZ V20
      unfold RelZ
      rw [e200, v6, v5]
      exact ⟨hz, fun q => absurd q (by decide), fun j j0 j1 => by omega⟩
  · -- an error
    have eb : b = false := eb
    have o18 : V13 18 0 = c := o18
    have o19 : V13 19 0 = o := o19
    subst eb
    have o18 : V13 18 0 = c := o18
    have o19 : V13 19 0 = o := o19
    have ex14 : x14 = 0 := ex14
    rw [ex14]
    refine tt_ck ⟨by decide, by decide⟩ (tt_t rfl (tt_bd (x8_copies (by decide) (by decide) (by decide) (by decide) (by decide) (by decide) hn) (fun T21 h21 => tt_nmE (fun V22 e22 => tt_bd (x8_copies (by decide) (by decide) (by decide) (by decide) (by decide) (by decide) hn) (fun T23 h23 => tt_nmE (fun V24 e24 => tt_some ?_))))))
    have vk : ∀ k : Nat, k ≠ 0 → k ≠ 7 → V24 k = V17 k := fun k u0 u7 => by rw [e24, uy_ne u7, e22, uy_ne u0]
    have r0 : ∀ i : Nat, i < 1233 → V24 0 i = V8 0 i := fun i hi => by
      rw [e24, uy_ne (by decide), e22, uy_at, h21 i, if_pos ⟨by show (0 : Int).toNat ≤ i; omega, by show i < ((0 : Int) + 1233).toNat; omega⟩, k11, ← r51 i hi]
      congr 1
      show (0 : Int).toNat + (i - (0 : Int).toNat) = i
      omega
    have hcl : TT (f_X7_loadRegister n V X) (fun r => r = (-1, C8, Xz)) := by
      refine hx ?_
      rw [c2, oz0]
      exact tt_ck ⟨by omega, by omega⟩ (tt_f (by omega) (tt_some rfl))
    refine ⟨by show V24 9 0 = 0; rw [vk 9 (by decide) (by decide)]; exact z9, C8, Xz, tt_eq hcl, ?_⟩
    obtain ⟨Vw, evw⟩ : ∃ Vw : Sz, Vw = fun k => if k = 0 then V8 0 else V24 k := ⟨_, rfl⟩
    have w0 : Vw 0 = V8 0 := by rw [evw]; rfl
    have wk : ∀ k : Nat, k ≠ 0 → Vw k = V24 k := fun k hk => by
      rw [evw]
      exact if_neg hk
    have hrel : Rel C8 PV K Vw := by
      refine h.rest (fun k hk => ck8 k (by omega)) (fun k hk => ?_) ?_ ?_ ?_
      · by_cases u : k = 0
        · rw [u]; exact w0
        · rw [wk k u, vk k u (by omega), kk k (by omega), k5 k (by omega) (by omega) (by omega)]
      · unfold RelI
        rw [c1, wk 15 (by decide), vk 15 (by decide) (by decide), y15]
        exact ⟨rfl, ⟨by decide, by decide⟩, fun i hi => by omega⟩
      · unfold RelE
        rw [c2, c3, wk 16 (by decide), vk 16 (by decide) (by decide), y16, wk 17 (by decide), vk 17 (by decide) (by decide), y17, oz0, oz1, o18, o19]
        exact ⟨⟨rfl, by omega, by omega⟩, rfl, by omega, by omega⟩
      · have hO := h.2.2.2.2.2.1
        unfold RelO at *
        rw [ck8 100 (by decide), ck8 99 (by decide), wk 31 (by decide), vk 31 (by decide) (by decide), kk 31 (by decide), k5 31 (by decide) (by decide) (by decide), wk 30 (by decide), vk 30 (by decide) (by decide), kk 30 (by decide), k5 30 (by decide) (by decide) (by decide)]; exact hO
    have hw := hL.2.2.1
    have hrow : LR (sv 4 C8) (V8 0) := by
      have := hrel.1
      rw [w0] at this
      exact this
    refine hrel.row (leq_LR (leq_all hw r0) hrow (wfn_all hw.1 r0)) (wfz_same hw (r0 2 (by decide)) (fun i i0 i1 => r0 i (by omega)) h.z) (fun k hk => (wk k (by omega)).symm)
