/-! shares -/
def shB (A : Int) (a : Int → Int) (m i : Int) : Int := A * a i / sumN a m.toNat
def shR (A : Int) (a : Int → Int) (m : Int) : Int := A - sumN (shB A a m) m.toNat
def shP (A : Int) (a : Int → Int) (m i : Int) : Int := shB A a m i + if i < shR A a m then 1 else 0
theorem share_sums {A S : Int} {a : Int → Int} (hS : 0 < S) : ∀ n : Nat, S * sumN (fun i => A * a i / S) n ≤ A * sumN a n ∧ A * sumN a n ≤ S * sumN (fun i => A * a i / S) n + (n : Int) * (S - 1) := by
  intro n
  induction n with
  | zero => show S * 0 ≤ A * 0 ∧ A * 0 ≤ S * 0 + (0 : Int) * (S - 1); rw [Int.mul_zero, Int.mul_zero, Int.zero_mul]; decide
  | succ n ih =>
    have e := Int.mul_ediv_add_emod (A * a n) S
    have e1 := Int.emod_nonneg (A * a n) (show S ≠ 0 by omega)
    have e2 := Int.emod_lt_of_pos (A * a n) hS
    have e3 : ((n + 1 : Nat) : Int) * (S - 1) = (n : Int) * (S - 1) + (S - 1) := by rw [Int.natCast_succ, Int.add_mul, Int.one_mul]
    rw [sumN_succ, sumN_succ, Int.mul_add, Int.mul_add, e3]
    show S * sumN (fun i => A * a i / S) n + S * (A * a n / S) ≤ _ ∧ _ ≤ S * sumN (fun i => A * a i / S) n + S * (A * a n / S) + _
    omega
theorem share_rest {A : Int} {a : Int → Int} {m : Int} (hm : 1 ≤ m) (hS : 0 < sumN a m.toNat) : 0 ≤ shR A a m ∧ shR A a m < m := by
  obtain ⟨S, eS⟩ : ∃ S, S = sumN a m.toNat := ⟨_, rfl⟩
  have h := share_sums (A := A) (a := a) hS m.toNat
  obtain ⟨Q, eQ⟩ : ∃ Q, Q = sumN (fun i => A * a i / sumN a m.toNat) m.toNat := ⟨_, rfl⟩
  have eR : shR A a m = A - Q := by rw [eQ]; rfl
  rw [← eQ, ← eS, show ((m.toNat : Nat) : Int) = m by omega] at h
  rw [← eS] at hS
  rw [eR]
  have d : S * (A - Q) = A * S - S * Q := by rw [Int.mul_sub, Int.mul_comm S A]
  have d2 : m * (S - 1) = m * S - m := by rw [Int.mul_sub, Int.mul_one]
  constructor
  · by_cases c : 0 ≤ A - Q
    · exact c
    · have := Int.mul_le_mul_of_nonneg_left (show A - Q ≤ -1 by omega) (show 0 ≤ S by omega)
      rw [d, Int.mul_neg, Int.mul_one] at this
      omega
  · by_cases c : A - Q < m
    · exact c
    · have := Int.mul_le_mul_of_nonneg_left (show m ≤ A - Q by omega) (show 0 ≤ S by omega)
      rw [d, Int.mul_comm S m] at this
      omega
theorem count_lt {r : Int} (h0 : 0 ≤ r) : ∀ n : Nat, sumN (fun i => if i < r then 1 else 0) n = min (n : Int) r := by
  intro n
  induction n with
  | zero => show (0 : Int) = min ((0 : Nat) : Int) r; omega
  | succ n ih =>
    rw [sumN_succ, ih]
    by_cases c : (n : Int) < r
    · rw [if_pos c]; omega
    · rw [if_neg c]; omega
theorem share_all {A : Int} {a : Int → Int} {m : Int} (hm : 1 ≤ m) (hS : 0 < sumN a m.toNat) : sumN (shP A a m) m.toNat = A := by
  have h := share_rest (A := A) hm hS
  have e : sumN (shP A a m) m.toNat = sumN (fun i => shB A a m i + (if i < shR A a m then 1 else 0)) m.toNat := rfl
  rw [e, sumN_add, count_lt h.1]
  unfold shR at *
  have : sumN (fun i => shB A a m i) m.toNat = sumN (shB A a m) m.toNat := rfl
  omega
theorem share_bd {A : Int} {a : Int → Int} {m i : Int} (hA : 0 ≤ A) (hm : 1 ≤ m) (ha : ∀ j : Int, 0 ≤ j → j < m → 0 ≤ a j) (hS : 0 < sumN a m.toNat) (i0 : 0 ≤ i) (i1 : i < m) : 0 ≤ shP A a m i ∧ shP A a m i ≤ A := by
  have hb : ∀ j : Int, 0 ≤ j → j < m → 0 ≤ shP A a m j := fun j j0 j1 => by
    have := Int.ediv_nonneg (Int.mul_nonneg hA (ha j j0 j1)) (show 0 ≤ sumN a m.toNat by omega)
    unfold shP shB
    split <;> omega
  refine ⟨hb i i0 i1, ?_⟩
  have := sumN_ge (f := shP A a m) (n := m.toNat) (fun j j0 j1 => hb j j0 (by omega)) i0 (by omega)
  rw [share_all hm hS] at this
  exact this
theorem share_dv {A : Int} {a : Int → Int} {m i : Int} (hA : 0 ≤ A ∧ A ≤ 999999) (hm : 1 ≤ m ∧ m ≤ 3) (ha : ∀ j : Int, 0 ≤ j → j < m → 1 ≤ a j ∧ a j ≤ 9) (i0 : 0 ≤ i) (i1 : i < m) : (0 < sumN a m.toNat ∧ sumN a m.toNat ≤ 27) ∧ dvI (A * a i) (sumN a m.toNat) := by
  have h1 : (m.toNat : Int) * 1 ≤ sumN a m.toNat := by
    have := sumN_mono (f := fun _ => 1) (g := a) (n := m.toNat) (fun j j0 j1 => (ha j j0 (by omega)).1)
    have e2 : ∀ n : Nat, sumN (fun _ => 1) n = (n : Int) := by
      intro n
      induction n with
      | zero => rfl
      | succ n ih => rw [sumN_succ, ih]; omega
    rw [e2] at this
    omega
  have h2 := sumN_le (f := a) (c := 9) (n := m.toNat) (fun j j0 j1 => (ha j j0 (by omega)).2)
  have hai := ha i i0 i1
  have m0 : 0 ≤ A * a i := Int.mul_nonneg hA.1 (by omega)
  have m1 : A * a i ≤ 999999 * 9 := Int.mul_le_mul hA.2 hai.2 (by omega) (by decide)
  refine ⟨⟨by omega, by omega⟩, m0, by omega, by omega, by omega⟩
theorem c3_shareOut {V0 : Sz} {g m A : Int} {a : Int → Int} (g0 : 0 ≤ g) (g1 : g < 60) (hm : 1 ≤ m ∧ m ≤ 3) (hA : 0 ≤ A ∧ A ≤ 999999) (ha : ∀ j : Int, 0 ≤ j → j < m → 1 ≤ a j ∧ a j ≤ 9) (e5 : V0 5 g.toNat = m) (e2 : V0 2 g.toNat = A) (e8 : ∀ j : Int, 0 ≤ j → j < m → V0 8 (3 * g + j).toNat = a j) {n : Nat} (hn : 100 ≤ n) : TT (f_X3_shareOut n V0 g) (fun V => (∀ k : Nat, k ≠ 9 → V k = V0 k) ∧ ∀ p : Nat, V 9 p = if 3 * g ≤ (p : Int) ∧ (p : Int) < 3 * g + m then shP A a m ((p : Int) - 3 * g) else V0 9 p) := by
  have hd := fun i i0 i1 => share_dv (a := a) hA hm ha (i := i) i0 i1
  have hS := (hd 0 (by decide) (by omega)).1
  have hR := share_rest (A := A) (a := a) hm.1 hS.1
  obtain ⟨S, eS⟩ : ∃ S, S = sumN a m.toNat := ⟨_, rfl⟩
  unfold f_X3_shareOut
  refine tt_nm ?_
  rw [show g * 3 = 3 * g by omega]
  refine tt_lp (I := fun s : Int × Int × Int × Sz => s.1 = 3 * g ∧ (0 ≤ s.2.2.1 ∧ s.2.2.1 ≤ m) ∧ s.2.2.2 = V0 ∧ s.2.1 = sumN a s.2.2.1.toNat) (μ := fun s => (m - s.2.2.1).toNat) ?_ n (3 * g, 0, 0, V0) ⟨rfl, ⟨Int.le_refl _, by show 0 ≤ m; omega⟩, rfl, rfl⟩ (by show (m - (0 : Int)).toNat < n; omega)
  rintro ⟨y2, sm, i, V⟩ rec9 ⟨ey, ⟨i0, i1⟩, eV, es⟩ ih9
  simp only at ey i0 i1 eV es
  subst ey eV
  rw [bX3_shareOut_9_e, e5]
  refine tt_ck ⟨g0, g1⟩ (tt_ck ⟨⟨by omega, by omega⟩, ⟨by omega, by omega⟩⟩ (tt_ite (fun c => ?_) (fun c => ?_)))
  · have esm : sm = S := by rw [es, eS, show i = m by omega]
    rw [esm]
    refine tt_ck ⟨by omega, by omega⟩ (tt_t (by omega) (tt_nm ?_))
    rw [e2]
    refine tt_lp (I := fun s : Int × Int × Int × Int × Sz => (s.1 = 3 * g ∧ s.2.1 = S) ∧ (0 ≤ s.2.2.2.1 ∧ s.2.2.2.1 ≤ m) ∧ s.2.2.1 = A - sumN (shB A a m) s.2.2.2.1.toNat ∧ (∀ k : Nat, k ≠ 9 → s.2.2.2.2 k = V k) ∧ ∀ p : Nat, s.2.2.2.2 9 p = if 3 * g ≤ (p : Int) ∧ (p : Int) < 3 * g + s.2.2.2.1 then shB A a m ((p : Int) - 3 * g) else V 9 p) (μ := fun s => (m - s.2.2.2.1).toNat) ?_ n (3 * g, S, A, 0, V) ⟨⟨rfl, rfl⟩, ⟨Int.le_refl _, by show 0 ≤ m; omega⟩, by show A = A - 0; omega, fun _ _ => rfl, fun p => by rw [if_neg (by show ¬ (3 * g ≤ (p : Int) ∧ (p : Int) < 3 * g + 0); omega)]⟩ (by show (m - (0 : Int)).toNat < n; omega)
    rintro ⟨y2, y3, rs, j, V1⟩ rec54 ⟨⟨z1, z2⟩, ⟨j0, j1⟩, er, hk, h9⟩ ih54
    simp only at z1 z2 j0 j1 er hk h9
    subst z1 z2
    rw [bX3_shareOut_54_e, hk 5 (by decide), e5]
    refine tt_ck ⟨g0, g1⟩ (tt_ck ⟨⟨by omega, by omega⟩, ⟨by omega, by omega⟩⟩ (tt_ite (fun c2 => ?_) (fun c2 => ?_)))
    · have ej : j = m := by omega
      rw [ej] at er h9
      have er : rs = shR A a m := er
      refine tt_lp (I := fun s : Int × Int × Int × Sz => (s.1 = 3 * g ∧ s.2.1 = rs) ∧ (0 ≤ s.2.2.1 ∧ s.2.2.1 ≤ rs) ∧ (∀ k : Nat, k ≠ 9 → s.2.2.2 k = V k) ∧ ∀ p : Nat, s.2.2.2 9 p = if 3 * g ≤ (p : Int) ∧ (p : Int) < 3 * g + m then shB A a m ((p : Int) - 3 * g) + (if (p : Int) - 3 * g < s.2.2.1 then 1 else 0) else V 9 p) (μ := fun s => (rs - s.2.2.1).toNat) ?_ n (3 * g, rs, 0, V1) ⟨⟨rfl, rfl⟩, ⟨Int.le_refl _, by show 0 ≤ rs; omega⟩, hk, fun p => ?_⟩ (by show (rs - (0 : Int)).toNat < n; omega)
      · rintro ⟨y2, y4, k, V2⟩ rec115 ⟨⟨z1, z2⟩, ⟨k0, k1⟩, hk2, h92⟩ ih115
        simp only at z1 z2 k0 k1 hk2 h92
        subst z1 z2
        rw [bX3_shareOut_115_e, hk2 5 (by decide), e5]
        refine tt_ck ⟨g0, g1⟩ (tt_ck ⟨⟨by omega, by omega⟩, ⟨by omega, by omega⟩⟩ (tt_ite (fun c3 => by omega) (fun c3 => tt_ck ⟨by omega, by omega⟩ (tt_ite (fun c4 => tt_some ⟨hk2, fun p => ?_⟩) (fun c4 => tt_ck ⟨by omega, by omega⟩ (tt_nm (tt_nm ?_)))))))
        · rw [h92 p]
          by_cases e : 3 * g ≤ (p : Int) ∧ (p : Int) < 3 * g + m
          · rw [if_pos e, if_pos e, show k = shR A a m by omega]; rfl
          · rw [if_neg e, if_neg e]
        · refine ih115 (3 * g, y4, k + 1, uz V2 9 (3 * g + k).toNat (V2 9 (3 * g + k).toNat + 1)) ⟨⟨rfl, rfl⟩, ⟨by show 0 ≤ k + 1; omega, by show k + 1 ≤ y4; omega⟩, fun q hq => ?_, fun p => ?_⟩ (by show (y4 - (k + 1)).toNat < (y4 - k).toNat; omega)
          · show uz V2 9 _ _ q = V q
            rw [uz_ne hq]; exact hk2 q hq
          · show uz V2 9 (3 * g + k).toNat (V2 9 (3 * g + k).toNat + 1) 9 p = if 3 * g ≤ (p : Int) ∧ (p : Int) < 3 * g + m then shB A a m ((p : Int) - 3 * g) + (if (p : Int) - 3 * g < k + 1 then 1 else 0) else V 9 p
            rw [uz_at, up_if]
            by_cases e : p = (3 * g + k).toNat
            · rw [if_pos e, if_pos (by omega), ← e, h92 p, if_pos (by omega), if_neg (by omega), if_pos (by omega)]; omega
            · rw [if_neg e, h92 p]
              by_cases e2 : 3 * g ≤ (p : Int) ∧ (p : Int) < 3 * g + m
              · rw [if_pos e2, if_pos e2]
                congr 1
                by_cases e3 : (p : Int) - 3 * g < k
                · rw [if_pos e3, if_pos (by omega)]
                · rw [if_neg e3, if_neg (by omega)]
              · rw [if_neg e2, if_neg e2]
      · show V1 9 p = if 3 * g ≤ (p : Int) ∧ (p : Int) < 3 * g + m then shB A a m ((p : Int) - 3 * g) + (if (p : Int) - 3 * g < 0 then 1 else 0) else V 9 p
        rw [h9 p]
        by_cases e : 3 * g ≤ (p : Int) ∧ (p : Int) < 3 * g + m
        · rw [if_pos e, if_pos e, if_neg (by omega)]; omega
        · rw [if_neg e, if_neg e]
    · have hj := hd j j0 (by omega)
      have hw8 : V1 8 (3 * g + j).toNat = a j := by rw [hk 8 (by decide)]; exact e8 j j0 (by omega)
      have hv2 : V1 2 g.toNat = A := by rw [hk 2 (by decide)]; exact e2
      rw [hw8, hv2]
      refine tt_ck ⟨by omega, by omega⟩ (tt_ck (by rw [eS]; exact hj.2) (tt_nmE (fun V3 e3 => tt_nm (tt_nm ?_))))
      have hnew : A * a j / y3 = shB A a m j := by rw [eS]; rfl
      have e39 : V3 9 (3 * g + j).toNat = shB A a m j := by rw [e3, uz_at, up_at, hnew]
      rw [e39]
      refine ih54 (3 * g, y3, rs - shB A a m j, j + 1, V3) ⟨⟨rfl, rfl⟩, ⟨by show 0 ≤ j + 1; omega, by show j + 1 ≤ m; omega⟩, ?_, fun q hq => ?_, fun p => ?_⟩ (by show (m - (j + 1)).toNat < (m - j).toNat; omega)
      · show rs - shB A a m j = A - sumN (shB A a m) (j + 1).toNat
        rw [sumN_step _ j0, er]; omega
      · show V3 q = V q
        rw [e3, uz_ne hq]; exact hk q hq
      · show V3 9 p = if 3 * g ≤ (p : Int) ∧ (p : Int) < 3 * g + (j + 1) then shB A a m ((p : Int) - 3 * g) else V 9 p
        rw [e3, uz_at, up_if]
        by_cases e : p = (3 * g + j).toNat
        · rw [if_pos e, if_pos (by omega), hnew, show (p : Int) - 3 * g = j by omega]
        · rw [if_neg e, h9 p]
          by_cases e2 : 3 * g ≤ (p : Int) ∧ (p : Int) < 3 * g + j
          · rw [if_pos e2, if_pos (by omega)]
          · rw [if_neg e2, if_neg (by omega)]
  · rw [e8 i i0 (by omega)]
    refine tt_ck ⟨by omega, by omega⟩ (tt_nm (tt_nm (ih9 (3 * g, sm + a i, i + 1, V) ⟨rfl, ⟨by show 0 ≤ i + 1; omega, by show i + 1 ≤ m; omega⟩, rfl, ?_⟩ (by show (m - (i + 1)).toNat < (m - i).toNat; omega))))
    show sm + a i = sumN a (i + 1).toNat
    rw [sumN_step _ i0, es]
/-- the weights as the reference hands them over -/
def wei (f s t i : Int) : Int := if i = 0 then f else if i = 1 then s else t
/-- the row with the shares of a gift -/
def ShRow (w : Rw) (g m A : Int) (a : Int → Int) (w1 : Rw) : Prop := ∀ i : Nat, w1 i = if (i : Int) = 293 + g then m else if 593 + 3 * g ≤ (i : Int) ∧ (i : Int) < 593 + 3 * g + m then shP A a m ((i : Int) - (593 + 3 * g)) else w i
theorem x8_shares {V0 : Sz} {g m A f s t : Int} (g0 : 0 ≤ g) (g1 : g < 60) (hm : 1 ≤ m ∧ m ≤ 3) (hA : 0 ≤ A ∧ A ≤ 999999) (ha : ∀ j : Int, 0 ≤ j → j < m → 1 ≤ wei f s t j ∧ wei f s t j ≤ 9) (hsum : f + s + t = sumN (wei f s t) m.toNat) (e2 : wAm (V0 0) g = A) {n : Nat} (hn : 100 ≤ n) : TT (f_X8_shares n V0 g m f s t) (fun V => (∀ k : Nat, k ≠ 0 → V k = V0 k) ∧ ShRow (V0 0) g m A (wei f s t) (V 0)) := by
  have hd := fun i i0 i1 => share_dv (a := wei f s t) hA hm ha (i := i) i0 i1
  have hS := (hd 0 (by decide) (by omega)).1
  have hR := share_rest (A := A) (a := wei f s t) hm.1 hS.1
  obtain ⟨a, ea⟩ : ∃ a, a = wei f s t := ⟨_, rfl⟩
  rw [← ea] at hd hS hR ha hsum ⊢
  obtain ⟨S, eS⟩ : ∃ S, S = sumN a m.toNat := ⟨_, rfl⟩
  have e2 : V0 0 (173 + g).toNat = A := e2
  unfold f_X8_shares
  rw [hsum, ← eS, e2]
  refine tt_nm (tt_ck ⟨by omega, by omega⟩ (tt_nm ?_))
  refine tt_lp (I := fun z : Int × Int × Int × Sz => z.1 = S ∧ (0 ≤ z.2.2.1 ∧ z.2.2.1 ≤ m) ∧ z.2.1 = A - sumN (shB A a m) z.2.2.1.toNat ∧ (∀ k : Nat, k ≠ 0 → z.2.2.2 k = V0 k) ∧ ∀ i : Nat, z.2.2.2 0 i = if 593 + 3 * g ≤ (i : Int) ∧ (i : Int) < 593 + 3 * g + z.2.2.1 then shB A a m ((i : Int) - (593 + 3 * g)) else V0 0 i) (μ := fun z => (m - z.2.2.1).toNat) ?_ n (S, A, 0, V0) ⟨rfl, ⟨Int.le_refl _, by show 0 ≤ m; omega⟩, by show A = A - 0; omega, fun _ _ => rfl, fun p => by rw [if_neg (by show ¬ (593 + 3 * g ≤ (p : Int) ∧ (p : Int) < 593 + 3 * g + 0); omega)]⟩ (by show (m - (0 : Int)).toNat < n; omega)
  rintro ⟨y6, rs, j, V1⟩ rec24 ⟨z1, ⟨j0, j1⟩, er, hk, h0⟩ ih24
  simp only at z1 j0 j1 er hk h0
  subst z1
  rw [bX8_shares_24_e]
  refine tt_ck ⟨⟨by omega, by omega⟩, ⟨by omega, by omega⟩⟩ (tt_ite (fun c => ?_) (fun c => ?_))
  · have ej : j = m := by omega
    rw [ej] at er h0
    have er : rs = shR A a m := er
    refine tt_lp (I := fun z : Int × Int × Sz => z.1 = rs ∧ (0 ≤ z.2.1 ∧ z.2.1 ≤ rs) ∧ (∀ k : Nat, k ≠ 0 → z.2.2 k = V0 k) ∧ ∀ i : Nat, z.2.2 0 i = if 593 + 3 * g ≤ (i : Int) ∧ (i : Int) < 593 + 3 * g + m then shB A a m ((i : Int) - (593 + 3 * g)) + (if (i : Int) - (593 + 3 * g) < z.2.1 then 1 else 0) else V0 0 i) (μ := fun z => (rs - z.2.1).toNat) ?_ n (rs, 0, V1) ⟨rfl, ⟨Int.le_refl _, by show 0 ≤ rs; omega⟩, hk, fun p => ?_⟩ (by show (rs - (0 : Int)).toNat < n; omega)
    · rintro ⟨y7, k, V2⟩ rec114 ⟨z1, ⟨k0, k1⟩, hk2, h02⟩ ih114
      simp only at z1 k0 k1 hk2 h02
      subst z1
      rw [bX8_shares_114_e]
      refine tt_ck ⟨⟨by omega, by omega⟩, ⟨by omega, by omega⟩⟩ (tt_ite (fun c4 => tt_ck ⟨by omega, by omega⟩ (tt_nmE (fun V7 e7 => tt_some ⟨fun q hq => ?_, fun p => ?_⟩))) (fun c4 => ?_))
      · rw [e7, uz_ne hq]; exact hk2 q hq
      · rw [e7, uz_at, up_if]
        by_cases e : (p : Int) = 293 + g
        · rw [if_pos e, if_pos (by omega)]
        · rw [if_neg e, if_neg (by omega), h02 p]
          by_cases e3 : 593 + 3 * g ≤ (p : Int) ∧ (p : Int) < 593 + 3 * g + m
          · rw [if_pos e3, if_pos e3, show k = shR A a m by omega]; rfl
          · rw [if_neg e3, if_neg e3]
      · rw [x8_partOf, bd_s]
        refine tt_ck ⟨by omega, by omega⟩ (tt_nm (tt_nm ?_))
        obtain ⟨ix, eix⟩ : ∃ ix, ix = (593 + (3 * g + k)).toNat := ⟨_, rfl⟩
        rw [← eix]
        refine ih114 (y7, k + 1, uz V2 0 ix (V2 0 ix + 1)) ⟨rfl, ⟨by show 0 ≤ k + 1; omega, by show k + 1 ≤ y7; omega⟩, fun q hq => ?_, fun p => ?_⟩ (by show (y7 - (k + 1)).toNat < (y7 - k).toNat; omega)
        · show uz V2 0 _ _ q = V0 q
          rw [uz_ne hq]; exact hk2 q hq
        · show uz V2 0 ix (V2 0 ix + 1) 0 p = if 593 + 3 * g ≤ (p : Int) ∧ (p : Int) < 593 + 3 * g + m then shB A a m ((p : Int) - (593 + 3 * g)) + (if (p : Int) - (593 + 3 * g) < k + 1 then 1 else 0) else V0 0 p
          rw [uz_at, up_if]
          by_cases e : p = ix
          · rw [if_pos e, if_pos (by omega), ← e, h02 p, if_pos (by omega), if_neg (by omega), if_pos (by omega)]; omega
          · rw [if_neg e, h02 p]
            by_cases e2 : 593 + 3 * g ≤ (p : Int) ∧ (p : Int) < 593 + 3 * g + m
            · rw [if_pos e2, if_pos e2]
              congr 1
              by_cases e3 : (p : Int) - (593 + 3 * g) < k
              · rw [if_pos e3, if_pos (by omega)]
              · rw [if_neg e3, if_neg (by omega)]
            · rw [if_neg e2, if_neg e2]
    · show V1 0 p = if 593 + 3 * g ≤ (p : Int) ∧ (p : Int) < 593 + 3 * g + m then shB A a m ((p : Int) - (593 + 3 * g)) + (if (p : Int) - (593 + 3 * g) < 0 then 1 else 0) else V0 0 p
      rw [h0 p]
      by_cases e : 593 + 3 * g ≤ (p : Int) ∧ (p : Int) < 593 + 3 * g + m
      · rw [if_pos e, if_pos e, if_neg (by omega)]; omega
      · rw [if_neg e, if_neg e]
  · have hj := hd j j0 (by omega)
    have hv2 : V1 0 (173 + g).toNat = A := by rw [h0, if_neg (by omega)]; exact e2
    have hnew : A * a j / y6 = shB A a m j := by rw [eS]; rfl
    obtain ⟨ix, eix⟩ : ∃ ix, ix = (593 + (3 * g + j)).toNat := ⟨_, rfl⟩
    have go : ∀ z : Int, z = a j → TT (jX8_shares_52 n g m f s t rec24 y6 rs j V1 z) (fun V => (∀ k : Nat, k ≠ 0 → V k = V0 k) ∧ ShRow (V0 0) g m A a (V 0)) := by
      intro z hz
      subst hz
      unfold jX8_shares_52
      rw [x8_partOf, bd_s, hv2, ← eix]
      refine tt_ck ⟨by omega, by omega⟩ (tt_ck (by rw [eS]; exact hj.2) (tt_ck ⟨by omega, by omega⟩ (tt_nmE (fun V3 e3 => ?_))))
      rw [bd_s, ← eix]
      refine tt_ck ⟨by omega, by omega⟩ (tt_nm (tt_nm ?_))
      have e30 : V3 0 ix = shB A a m j := by rw [e3, uz_at, up_at, hnew]
      rw [e30]
      refine ih24 (y6, rs - shB A a m j, j + 1, V3) ⟨rfl, ⟨by show 0 ≤ j + 1; omega, by show j + 1 ≤ m; omega⟩, ?_, fun q hq => ?_, fun p => ?_⟩ (by show (m - (j + 1)).toNat < (m - j).toNat; omega)
      · show rs - shB A a m j = A - sumN (shB A a m) (j + 1).toNat
        rw [sumN_step _ j0, er]; omega
      · show V3 q = V0 q
        rw [e3, uz_ne hq]; exact hk q hq
      · show V3 0 p = if 593 + 3 * g ≤ (p : Int) ∧ (p : Int) < 593 + 3 * g + (j + 1) then shB A a m ((p : Int) - (593 + 3 * g)) else V0 0 p
        rw [e3, uz_at, up_if]
        by_cases e : p = ix
        · rw [if_pos e, if_pos (by omega), hnew, show (p : Int) - (593 + 3 * g) = j by omega]
        · rw [if_neg e, h0 p]
          by_cases e2 : 593 + 3 * g ≤ (p : Int) ∧ (p : Int) < 593 + 3 * g + j
          · rw [if_pos e2, if_pos (by omega)]
          · rw [if_neg e2, if_neg (by omega)]
    refine tt_ite (fun c1 => go f ?_) (fun c1 => tt_ite (fun c2 => go s ?_) (fun c2 => go t ?_))
    · rw [ea]; unfold wei; rw [if_pos c1]
    · rw [ea]; unfold wei; rw [if_neg c1, if_pos c2]
    · rw [ea]; unfold wei; rw [if_neg c1, if_neg c2]
