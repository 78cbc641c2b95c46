/-! a gift more -/
theorem c3_add {V0 : Sz} {n0 day am be : Int} (h0 : V0 0 0 = n0) (hb : 0 ≤ n0 ∧ n0 < 60) (hday : 0 ≤ day ∧ day ≤ 9999) {d : Int → Int} (hd : ∀ g : Int, 0 ≤ g → g < n0 → d g = V0 1 g.toNat ∧ 0 ≤ d g ∧ d g ≤ 9999) (hdn : d n0 = day) (ho : ∀ i : Nat, (i : Int) < n0 → V0 6 i = ordA d n0.toNat i) {n : Nat} (hn : 100 ≤ n) : TT (f_X3_add n V0 day am be) (fun r => r.1 = n0 ∧ r.2 0 0 = n0 + 1 ∧ r.2 1 = up (V0 1) n0.toNat day ∧ r.2 2 = up (V0 2) n0.toNat am ∧ r.2 3 = up (V0 3) n0.toNat be ∧ r.2 4 = up (V0 4) n0.toNat 0 ∧ r.2 5 = up (V0 5) n0.toNat 0 ∧ (∀ k : Nat, 7 ≤ k → r.2 k = V0 k) ∧ ∀ i : Nat, (i : Int) < n0 + 1 → r.2 6 i = ordA d (n0.toNat + 1) i) := by
  have hf : f_X3_isFull V0 = some false := by
    unfold f_X3_isFull
    rw [h0, ck_t ⟨by omega, by omega⟩, if_pos hb.2]
  unfold f_X3_add
  rw [hf, bd_s]
  refine tt_t rfl (tt_nmE (fun x2 ex2 => ?_))
  rw [h0] at ex2
  subst ex2
  refine tt_ck ⟨hb.1, hb.2⟩ (tt_nmE (fun V4 e4 => tt_nmE (fun V5 e5 => tt_nmE (fun V6 e6 => tt_nmE (fun V7 e7 => tt_nmE (fun V8 e8 => ?_))))))
  have k0 : V8 0 = V0 0 := by rw [e8, uz_ne (by decide), e7, uz_ne (by decide), e6, uz_ne (by decide), e5, uz_ne (by decide), e4, uz_ne (by decide)]
  have k1 : V8 1 = up (V0 1) x2.toNat day := by rw [e8, uz_ne (by decide), e7, uz_ne (by decide), e6, uz_ne (by decide), e5, uz_ne (by decide), e4, uz_at]
  have k2 : V8 2 = up (V0 2) x2.toNat am := by rw [e8, uz_ne (by decide), e7, uz_ne (by decide), e6, uz_ne (by decide), e5, uz_at, e4, uz_ne (by decide)]
  have k3 : V8 3 = up (V0 3) x2.toNat be := by rw [e8, uz_ne (by decide), e7, uz_ne (by decide), e6, uz_at, e5, uz_ne (by decide), e4, uz_ne (by decide)]
  have k4 : V8 4 = up (V0 4) x2.toNat 0 := by rw [e8, uz_ne (by decide), e7, uz_at, e6, uz_ne (by decide), e5, uz_ne (by decide), e4, uz_ne (by decide)]
  have k5 : V8 5 = up (V0 5) x2.toNat 0 := by rw [e8, uz_at, e7, uz_ne (by decide), e6, uz_ne (by decide), e5, uz_ne (by decide), e4, uz_ne (by decide)]
  have k6 : V8 6 = V0 6 := by rw [e8, uz_ne (by decide), e7, uz_ne (by decide), e6, uz_ne (by decide), e5, uz_ne (by decide), e4, uz_ne (by decide)]
  have kk : ∀ k : Nat, 7 ≤ k → V8 k = V0 k := fun k hk => by rw [e8, uz_ne (by omega), e7, uz_ne (by omega), e6, uz_ne (by omega), e5, uz_ne (by omega), e4, uz_ne (by omega)]
  have eS : ordA d (x2.toNat + 1) = insA d x2 (ordA d x2.toNat) x2.toNat := by rw [ordA_succ, show ((x2.toNat : Nat) : Int) = x2 by omega]
  refine tt_lp (I := fun z : Int × Int × Sz => z.1 = x2 ∧ (0 ≤ z.2.1 ∧ z.2.1 ≤ x2) ∧ (∀ k : Nat, k ≠ 6 → z.2.2 k = V8 k) ∧ (∀ i : Nat, (i : Int) < z.2.1 → z.2.2 6 i = ordA d x2.toNat i) ∧ ∀ i : Nat, i < x2.toNat + 1 → insA d x2 (z.2.2 6) z.2.1.toNat i = ordA d (x2.toNat + 1) i) (μ := fun z => z.2.1.toNat) ?_ n (x2, x2, V8) ⟨rfl, ⟨hb.1, Int.le_refl _⟩, fun _ _ => rfl, fun i hi => ?_, fun i hi => ?_⟩ (by show x2.toNat < n; omega)
  · rintro ⟨y4, y5, V⟩ rec ⟨ey, ⟨q0, q1⟩, hk, ho1, hi1⟩ ih
    simp only at ey q0 q1 hk ho1 hi1
    subst ey
    have fin : insA d y4 (V 6) y5.toNat = up (V 6) y5.toNat y4 → TT (jX3_add_104 n day am be y4 y5 V) (fun r => r.1 = y4 ∧ r.2 0 0 = y4 + 1 ∧ r.2 1 = up (V0 1) y4.toNat day ∧ r.2 2 = up (V0 2) y4.toNat am ∧ r.2 3 = up (V0 3) y4.toNat be ∧ r.2 4 = up (V0 4) y4.toNat 0 ∧ r.2 5 = up (V0 5) y4.toNat 0 ∧ (∀ k : Nat, 7 ≤ k → r.2 k = V0 k) ∧ ∀ i : Nat, (i : Int) < y4 + 1 → r.2 6 i = ordA d (y4.toNat + 1) i) := by
      intro hins
      unfold jX3_add_104
      refine tt_ck ⟨by omega, by omega⟩ (tt_nmE (fun Va ea => tt_nmE (fun Vb eb => tt_some ⟨rfl, ?_, ?_, ?_, ?_, ?_, ?_, fun k hk7 => ?_, fun i hi => ?_⟩)))
      · show Vb 0 0 = y4 + 1
        rw [eb, us_at, ea, uz_ne (by decide), hk 0 (by decide), k0, h0]
      · show Vb 1 = _
        rw [eb, us_ne (by decide), ea, uz_ne (by decide), hk 1 (by decide), k1]
      · show Vb 2 = _
        rw [eb, us_ne (by decide), ea, uz_ne (by decide), hk 2 (by decide), k2]
      · show Vb 3 = _
        rw [eb, us_ne (by decide), ea, uz_ne (by decide), hk 3 (by decide), k3]
      · show Vb 4 = _
        rw [eb, us_ne (by decide), ea, uz_ne (by decide), hk 4 (by decide), k4]
      · show Vb 5 = _
        rw [eb, us_ne (by decide), ea, uz_ne (by decide), hk 5 (by decide), k5]
      · show Vb k = V0 k
        rw [eb, us_ne (by omega), ea, uz_ne (by omega), hk k (by omega), kk k hk7]
      · show Vb 6 i = _
        rw [eb, us_ne (by decide), ea, uz_at, ← hins]
        exact hi1 i (by omega)
    rw [bX3_add_59_e]
    refine tt_ck ⟨by omega, by omega⟩ (tt_ite (fun c2 => ?_) (fun c2 => ?_))
    · have e0 : y5 = 0 := by omega
      subst e0
      exact fin rfl
    · obtain ⟨j, hj⟩ : ∃ j : Nat, y5 = (j : Int) + 1 := ⟨(y5 - 1).toNat, by omega⟩
      subst hj
      have e1 : ((j : Int) + 1 - 1).toNat = j := by omega
      have e2 : ((j : Int) + 1).toNat = j + 1 := by omega
      have e3 : V 6 j = ordA d y4.toNat j := ho1 j (by omega)
      have e4' := ordA_in d (n := y4.toNat) (i := j) (by omega)
      have hdj := hd (V 6 j) (by omega) (by omega)
      have hV1 : V 1 (V 6 j).toNat = d (V 6 j) := by
        rw [hk 1 (by decide), k1, up_ne (by omega)]; exact hdj.1.symm
      rw [e2] at fin hi1 ⊢
      rw [e1, hV1]
      refine tt_ck ⟨by omega, by omega⟩ (tt_ck ⟨by omega, by omega⟩ (tt_ck ⟨⟨by omega, by omega⟩, ⟨by omega, by omega⟩⟩ (tt_ite (fun c3 => ?_) (fun c3 => ?_))))
      · refine fin ?_
        show (if d y4 < d (V 6 j) then _ else _) = _
        rw [if_neg (by rw [hdn]; omega)]
      · have hs : insA d y4 (V 6) (j + 1) = insA d y4 (up (V 6) (j + 1) (V 6 j)) j := if_pos (by rw [hdn]; omega)
        refine tt_ck ⟨by omega, by omega⟩ (tt_nm (tt_nm ?_))
        refine ih (y4, (j : Int) + 1 + (-1), uz V 6 (j + 1) (V 6 j)) ⟨rfl, ⟨by show 0 ≤ (j : Int) + 1 + (-1); omega, by show (j : Int) + 1 + (-1) ≤ y4; omega⟩, fun k hne => ?_, fun i hi => ?_, fun i hi => ?_⟩ (by show ((j : Int) + 1 + (-1)).toNat < ((j : Int) + 1).toNat; omega)
        · show uz V 6 (j + 1) (V 6 j) k = V8 k
          rw [uz_ne hne]; exact hk k hne
        · have hi : (i : Int) < (j : Int) + 1 + (-1) := hi
          show uz V 6 (j + 1) (V 6 j) 6 i = ordA d y4.toNat i
          rw [uz_at, up_ne (by omega)]; exact ho1 i (by omega)
        · show insA d y4 (uz V 6 (j + 1) (V 6 j) 6) ((j : Int) + 1 + (-1)).toNat i = _
          rw [uz_at, show ((j : Int) + 1 + (-1)).toNat = j by omega, ← hs]
          exact hi1 i hi
  · show V8 6 i = _
    have hi : (i : Int) < x2 := hi
    rw [k6]; exact ho i hi
  · show insA d x2 (V8 6) x2.toNat i = _
    rw [eS, k6]
    exact insA_congr x2.toNat (V0 6) (ordA d x2.toNat) (x2.toNat + 1) (fun q hq hne => ho q (by omega)) (fun _ _ => rfl) rfl (by omega) i hi
/-- what clearsParts leaves -/
def ClrRow (w : Rw) (g : Int) (w1 : Rw) : Prop := ∀ i : Nat, w1 i = if (i : Int) = 293 + g ∨ (i : Int) = 353 + g ∨ (413 + 3 * g ≤ (i : Int) ∧ (i : Int) < 416 + 3 * g) ∨ (593 + 3 * g ≤ (i : Int) ∧ (i : Int) < 596 + 3 * g) ∨ (773 + 3 * g ≤ (i : Int) ∧ (i : Int) < 776 + 3 * g) ∨ (953 + 3 * g ≤ (i : Int) ∧ (i : Int) < 956 + 3 * g) then 0 else w i
theorem x8_clearsParts {V0 : Sz} {g : Int} (g0 : 0 ≤ g) (g1 : g < 60) {n : Nat} (hn : 100 ≤ n) : TT (f_X8_clearsParts n V0 g) (fun V => (∀ k : Nat, k ≠ 0 → V k = V0 k) ∧ ClrRow (V0 0) g (V 0)) := by
  unfold f_X8_clearsParts
  refine tt_lp (I := fun z : Int × Sz => (0 ≤ z.1 ∧ z.1 ≤ 3) ∧ (∀ k : Nat, k ≠ 0 → z.2 k = V0 k) ∧ ∀ i : Nat, z.2 0 i = if (413 + 3 * g ≤ (i : Int) ∧ (i : Int) < 413 + 3 * g + z.1) ∨ (593 + 3 * g ≤ (i : Int) ∧ (i : Int) < 593 + 3 * g + z.1) ∨ (773 + 3 * g ≤ (i : Int) ∧ (i : Int) < 773 + 3 * g + z.1) ∨ (953 + 3 * g ≤ (i : Int) ∧ (i : Int) < 953 + 3 * g + z.1) then 0 else V0 0 i) (μ := fun z => (3 - z.1).toNat) ?_ n (0, V0) ⟨⟨Int.le_refl _, by show (0 : Int) ≤ 3; decide⟩, fun _ _ => rfl, fun i => ?_⟩ (by show (3 - (0 : Int)).toNat < n; omega)
  · rintro ⟨j, V⟩ rec ⟨⟨j0, j1⟩, hk, hT⟩ ih
    simp only at j0 j1 hk hT
    rw [bX8_clearsParts_2_e]
    refine tt_ck ⟨by omega, by omega⟩ (tt_ite (fun c => tt_ck ⟨by omega, by omega⟩ (tt_nmE (fun Va ea => tt_ck ⟨by omega, by omega⟩ (tt_nmE (fun Vb eb => tt_some ⟨fun k k0 => ?_, fun i => ?_⟩))))) (fun c => ?_))
    · rw [eb, uz_ne k0, ea, uz_ne k0]; exact hk k k0
    · rw [eb, uz_at, up_if, ea, uz_at, up_if, hT i]
      by_cases e1 : i = (353 + g).toNat
      · rw [if_pos e1, if_pos (by omega)]
      · rw [if_neg e1]
        by_cases e2 : i = (293 + g).toNat
        · rw [if_pos e2, if_pos (by omega)]
        · rw [if_neg e2]
          by_cases e3 : (413 + 3 * g ≤ (i : Int) ∧ (i : Int) < 413 + 3 * g + j) ∨ (593 + 3 * g ≤ (i : Int) ∧ (i : Int) < 593 + 3 * g + j) ∨ (773 + 3 * g ≤ (i : Int) ∧ (i : Int) < 773 + 3 * g + j) ∨ (953 + 3 * g ≤ (i : Int) ∧ (i : Int) < 953 + 3 * g + j)
          · rw [if_pos e3, if_pos (by omega)]
          · rw [if_neg e3, if_neg (by omega)]
    · rw [x8_partOf, bd_s]
      obtain ⟨p, ep⟩ : ∃ p, p = 3 * g + j := ⟨_, rfl⟩
      rw [← ep]
      refine tt_ck ⟨by omega, by omega⟩ (tt_nmE (fun Va ea => tt_ck ⟨by omega, by omega⟩ (tt_nmE (fun Vb eb => tt_ck ⟨by omega, by omega⟩ (tt_nmE (fun Vc ec => tt_ck ⟨by omega, by omega⟩ (tt_nmE (fun Vd ed => tt_nm ?_))))))))
      refine ih (j + 1, Vd) ⟨⟨by show 0 ≤ j + 1; omega, by show j + 1 ≤ 3; omega⟩, fun k k0 => ?_, fun i => ?_⟩ (by show (3 - (j + 1)).toNat < (3 - j).toNat; omega)
      · show Vd k = V0 k
        rw [ed, uz_ne k0, ec, uz_ne k0, eb, uz_ne k0, ea, uz_ne k0]; exact hk k k0
      · show Vd 0 i = if (413 + 3 * g ≤ (i : Int) ∧ (i : Int) < 413 + 3 * g + (j + 1)) ∨ (593 + 3 * g ≤ (i : Int) ∧ (i : Int) < 593 + 3 * g + (j + 1)) ∨ (773 + 3 * g ≤ (i : Int) ∧ (i : Int) < 773 + 3 * g + (j + 1)) ∨ (953 + 3 * g ≤ (i : Int) ∧ (i : Int) < 953 + 3 * g + (j + 1)) then 0 else V0 0 i
        rw [ed, uz_at, up_if, ec, uz_at, up_if, eb, uz_at, up_if, ea, uz_at, up_if, hT i]
        by_cases e1 : i = (953 + p).toNat
        · rw [if_pos e1, if_pos (by omega)]
        · rw [if_neg e1]
          by_cases e2 : i = (773 + p).toNat
          · rw [if_pos e2, if_pos (by omega)]
          · rw [if_neg e2]
            by_cases e3 : i = (593 + p).toNat
            · rw [if_pos e3, if_pos (by omega)]
            · rw [if_neg e3]
              by_cases e4 : i = (413 + p).toNat
              · rw [if_pos e4, if_pos (by omega)]
              · rw [if_neg e4]
                by_cases e5 : (413 + 3 * g ≤ (i : Int) ∧ (i : Int) < 413 + 3 * g + j) ∨ (593 + 3 * g ≤ (i : Int) ∧ (i : Int) < 593 + 3 * g + j) ∨ (773 + 3 * g ≤ (i : Int) ∧ (i : Int) < 773 + 3 * g + j) ∨ (953 + 3 * g ≤ (i : Int) ∧ (i : Int) < 953 + 3 * g + j)
                · rw [if_pos e5, if_pos (by omega)]
                · rw [if_neg e5, if_neg (by omega)]
  · show V0 0 i = if (413 + 3 * g ≤ (i : Int) ∧ (i : Int) < 413 + 3 * g + 0) ∨ (593 + 3 * g ≤ (i : Int) ∧ (i : Int) < 593 + 3 * g + 0) ∨ (773 + 3 * g ≤ (i : Int) ∧ (i : Int) < 773 + 3 * g + 0) ∨ (953 + 3 * g ≤ (i : Int) ∧ (i : Int) < 953 + 3 * g + 0) then 0 else V0 0 i
    rw [if_neg (by omega)]
theorem share_one {A : Int} {a : Int → Int} (h : 0 < a 0) : shP A a 1 0 = A := by
  have e : sumN a (1 : Int).toNat = a 0 := by show 0 + a 0 = a 0; omega
  have := share_all (A := A) (a := a) (m := 1) (by decide) (by rw [e]; exact h)
  have e2 : sumN (shP A a 1) (1 : Int).toNat = 0 + shP A a 1 0 := rfl
  omega
