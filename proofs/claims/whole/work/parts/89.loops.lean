/-! loops that sum, loops that look for the greatest -/
theorem tt_sum180 {ρ : Type} {b : (Int × Int × Sz → Option ρ) → Int × Int × Sz → Option ρ} {P : ρ → Prop} {n : Nat} {V : Sz} (F : Int → Int) (hn : 1000 ≤ n) (hb : ∀ (sm y : Int) (rec : Int × Int × Sz → Option ρ), 0 ≤ y → y ≤ 180 → sm = sumN F y.toNat → (y < 180 → TT (rec (sm + F y, y + 1, V)) P) → TT (b rec (sm, y, V)) P) : TT (lpF b n (0, 0, V)) P := by
  refine tt_lp (I := fun s : Int × Int × Sz => (0 ≤ s.2.1 ∧ s.2.1 ≤ 180) ∧ s.2.2 = V ∧ s.1 = sumN F s.2.1.toNat) (μ := fun s => (180 - s.2.1).toNat) ?_ n (0, 0, V) ⟨⟨Int.le_refl _, by show (0 : Int) ≤ 180; decide⟩, rfl, rfl⟩ (by show (180 - (0 : Int)).toNat < n; omega)
  rintro ⟨sm, y, V1⟩ rec ⟨⟨y0, y1⟩, eV, es⟩ ih
  simp only at y0 y1 eV es
  subst eV
  refine hb sm y rec y0 y1 es (fun hy => ih (sm + F y, y + 1, V1) ⟨⟨by show 0 ≤ y + 1; omega, by show y + 1 ≤ 180; omega⟩, rfl, ?_⟩ (by show (180 - (y + 1)).toNat < (180 - y).toNat; omega))
  show sm + F y = sumN F (y + 1).toNat
  rw [sumN_step _ y0, es]
theorem tt_sumUp {ρ : Type} {b : (Int × Int → Option ρ) → Int × Int → Option ρ} {P : ρ → Prop} {n : Nat} (F : Int → Int) (N : Int) (hN : 0 ≤ N) (hn : N.toNat < n) (hb : ∀ (sm y : Int) (rec : Int × Int → Option ρ), 0 ≤ y → y ≤ N → sm = sumN F y.toNat → (y < N → TT (rec (sm + F y, y + 1)) P) → TT (b rec (sm, y)) P) : TT (lpF b n (0, 0)) P := by
  refine tt_lp (I := fun s : Int × Int => (0 ≤ s.2 ∧ s.2 ≤ N) ∧ s.1 = sumN F s.2.toNat) (μ := fun s => (N - s.2).toNat) ?_ n (0, 0) ⟨⟨Int.le_refl _, hN⟩, rfl⟩ (by show (N - (0 : Int)).toNat < n; omega)
  rintro ⟨sm, y⟩ rec ⟨⟨y0, y1⟩, es⟩ ih
  simp only at y0 y1 es
  refine hb sm y rec y0 y1 es (fun hy => ih (sm + F y, y + 1) ⟨⟨by show 0 ≤ y + 1; omega, by show y + 1 ≤ N; omega⟩, ?_⟩ (by show (N - (y + 1)).toNat < (N - y).toNat; omega))
  show sm + F y = sumN F (y + 1).toNat
  rw [sumN_step _ y0, es]
/-- the first of the greatest, if it is more than 0 -/
def ArgP (S : Int → Int) (n b : Int) : Prop := (b = -1 ∧ ∀ j : Int, 0 ≤ j → j < n → S j ≤ 0) ∨ ((0 ≤ b ∧ b < n) ∧ 0 < S b ∧ ∀ j : Int, 0 ≤ j → j < n → S j ≤ S b ∧ (j < b → S j < S b))
theorem ArgP.uniq {S : Int → Int} {n b b1 : Int} (h : ArgP S n b) (h1 : ArgP S n b1) : b = b1 := by
  rcases h with ⟨e, k⟩ | ⟨⟨p0, p1⟩, q, k⟩
  · rcases h1 with ⟨e1, _⟩ | ⟨⟨q0, q1⟩, r, _⟩
    · rw [e, e1]
    · have := k b1 q0 q1; omega
  · rcases h1 with ⟨e1, k1⟩ | ⟨⟨q0, q1⟩, r, k1⟩
    · have := k1 b p0 p1; omega
    · rcases Int.lt_trichotomy b b1 with x | x | x
      · have := (k1 b p0 p1).2 x
        have := (k b1 q0 q1).1
        omega
      · exact x
      · have := (k b1 q0 q1).2 x
        have := (k1 b p0 p1).1
        omega
theorem ArgP.congr {S S1 : Int → Int} {n b : Int} (h : ArgP S n b) (he : ∀ j : Int, 0 ≤ j → j < n → S1 j = S j) : ArgP S1 n b := by
  rcases h with ⟨e, k⟩ | ⟨⟨p0, p1⟩, q, k⟩
  · exact Or.inl ⟨e, fun j a c => by rw [he j a c]; exact k j a c⟩
  · exact Or.inr ⟨⟨p0, p1⟩, by rw [he b p0 p1]; exact q, fun j a c => by rw [he j a c, he b p0 p1]; exact k j a c⟩
def ArgM (S : Int → Int) (n b M : Int) : Prop := ArgP S n b ∧ M = if b = -1 then 0 else S b
theorem ArgM.nil (S : Int → Int) : ArgM S 0 (-1) 0 := ⟨Or.inl ⟨rfl, fun j a c => by omega⟩, rfl⟩
theorem ArgM.le {S : Int → Int} {n b M : Int} (h : ArgM S n b M) : 0 ≤ M ∧ (∀ j : Int, 0 ≤ j → j < n → S j ≤ M) ∧ -1 ≤ b ∧ (b < n ∨ b = -1) ∧ (b = -1 → M = 0) ∧ (b ≠ -1 → 0 < M ∧ S b = M) := by
  obtain ⟨hp, hM⟩ := h
  rcases hp with ⟨e, k⟩ | ⟨⟨p0, p1⟩, q, k⟩
  · rw [if_pos e] at hM
    exact ⟨by omega, fun j a c => by rw [hM]; exact k j a c, by omega, Or.inr e, fun _ => hM, fun q => (q e).elim⟩
  · rw [if_neg (by omega)] at hM
    exact ⟨by omega, fun j a c => by rw [hM]; exact (k j a c).1, by omega, Or.inl p1, fun q => by omega, fun _ => ⟨by omega, hM.symm⟩⟩
theorem ArgM.take {S : Int → Int} {n b M : Int} (h : ArgM S n b M) (h0 : 0 ≤ n) (hc : M < S n) : ArgM S (n + 1) n (S n) := by
  have hl := h.le
  refine ⟨Or.inr ⟨⟨h0, by omega⟩, by omega, fun j a c => ?_⟩, by rw [if_neg (by omega)]⟩
  by_cases e : j = n
  · subst e; exact ⟨Int.le_refl _, fun q => by omega⟩
  · have := hl.2.1 j a (by omega)
    exact ⟨by omega, fun _ => by omega⟩
theorem ArgM.skip {S : Int → Int} {n b M : Int} (h : ArgM S n b M) (hc : S n ≤ M) : ArgM S (n + 1) b M := by
  have hl := h.le
  obtain ⟨hp, hM⟩ := h
  refine ⟨?_, hM⟩
  rcases hp with ⟨e, k⟩ | ⟨⟨p0, p1⟩, q, k⟩
  · refine Or.inl ⟨e, fun j a c => ?_⟩
    have hz := hl.2.2.2.2.1 e
    by_cases e2 : j = n
    · rw [e2]; omega
    · exact k j a (by omega)
  · refine Or.inr ⟨⟨p0, by omega⟩, q, fun j a c => ?_⟩
    have hz := hl.2.2.2.2.2 (by omega)
    by_cases e2 : j = n
    · subst e2; exact ⟨by omega, fun q => by omega⟩
    · exact k j a (by omega)
/-- one place grows, behind which nothing stands yet -/
theorem ArgM.grow {S S1 : Int → Int} {n b M y : Int} (h : ArgM S n b M) (y0 : 0 ≤ y) (y1 : y < n) (hz : ∀ j : Int, y < j → j < n → S j ≤ 0) (he : ∀ j : Int, 0 ≤ j → j < n → j ≠ y → S1 j = S j) (hy : S y ≤ S1 y) : (M < S1 y → ArgM S1 n y (S1 y)) ∧ (S1 y ≤ M → ArgM S1 n b M) := by
  have hl := h.le
  constructor
  · intro hc
    refine ⟨Or.inr ⟨⟨y0, y1⟩, by omega, fun j a c => ?_⟩, by rw [if_neg (by omega)]⟩
    by_cases e : j = y
    · subst e; exact ⟨Int.le_refl _, fun q => by omega⟩
    · have := hl.2.1 j a c
      rw [he j a c e]
      exact ⟨by omega, fun _ => by omega⟩
  · intro hc
    obtain ⟨hp, hM⟩ := h
    rcases hp with ⟨e, k⟩ | ⟨⟨p0, p1⟩, q, k⟩
    · refine ⟨Or.inl ⟨e, fun j a c => ?_⟩, by rw [if_pos e]; rw [if_pos e] at hM; exact hM⟩
      have hz := hl.2.2.2.2.1 e
      by_cases e2 : j = y
      · rw [e2]; omega
      · rw [he j a c e2]; exact k j a c
    · have hz2 := hl.2.2.2.2.2 (by omega)
      have hby : b ≤ y := by
        by_cases e : b ≤ y
        · exact e
        · have := hz b (by omega) p1; omega
      have eb : S1 b = S b := by
        by_cases e : b = y
        · subst e; omega
        · exact he b p0 p1 e
      refine ⟨Or.inr ⟨⟨p0, p1⟩, by omega, fun j a c => ?_⟩, by rw [if_neg (by omega), eb]; exact hz2.2.symm⟩
      rw [eb]
      by_cases e : j = y
      · subst e; exact ⟨by omega, fun q => by omega⟩
      · rw [he j a c e]; exact k j a c
/-! sums of a donor, by the reference -/
theorem measS_bd {w : Rw} (hw : WF w) {p what : Int} (p0 : 0 ≤ p) (h : partB w p = true) : 0 ≤ measS w what p ∧ measS w what p ≤ 999999 := by
  have hs := part_split p0 h
  have h1 := fullS_bd hw hs.1 hs.2.1 hs.2.2.1 hs.2.2.2.1
  have h2 := wishS_bd hw hs.1 hs.2.1 hs.2.2.1 hs.2.2.2.1
  have h3 := aidS_bd hw p0 h
  have h4 := hw.2.2.2.2.2.1 _ _ hs.1 hs.2.1 hs.2.2.1 hs.2.2.2.1
  rw [hs.2.2.2.2] at h1 h2 h4
  unfold measS
  split
  · omega
  · split
    · omega
    · split
      · omega
      · split <;> omega
theorem sumD_bd {w : Rw} (hw : WF w) (d what y : Int) : 0 ≤ sumD w d what y ∧ sumD w d what y ≤ 180 * 999999 := by
  unfold sumD
  constructor
  · refine sumPS_nonneg (fun p p0 p1 hp => ?_)
    have := measS_bd hw (what := what) p0 hp
    split <;> omega
  · refine sumPS_le (by decide) (fun p p0 p1 hp => ?_)
    have := measS_bd hw (what := what) p0 hp
    split <;> omega
theorem x8_sumOf {V8 V : Sz} (hw : WF (V8 0)) (e0 : V 0 = V8 0) {n : Nat} (hn : 1000 ≤ n) (hp : ∀ p : Int, 0 ≤ p → partB (V8 0) p = true → V 13 p.toNat = wishS (V8 0) p ∧ V 12 p.toNat = aidS (V8 0) p) {d what y : Int} (hd : rng d) (hq : 0 ≤ what ∧ what ≤ 4) (hy : rng y) : f_X8_sumOf n V d what y = some (sumD (V8 0) d what y) := by
  obtain ⟨w, hw0⟩ : ∃ w, w = V8 0 := ⟨_, rfl⟩
  rw [← hw0] at hw e0 hp ⊢
  have a0 := hw.2.1.1
  have a2 := hw.2.1.2.2.1
  obtain ⟨F, hF⟩ : ∃ F : Int → Int, F = fun p => @ite Int (inS w d y p) (Classical.propDecidable _) (measS w what p) 0 := ⟨_, rfl⟩
  refine tt_eq ?_
  unfold f_X8_sumOf
  refine tt_sumUp (fun p => if partB w p = true then F p else 0) 180 (by decide) (by show (180 : Int).toNat < n; omega) (fun sm p rec p0 p1 es next => ?_)
  have go : ∀ v : Int, v = sm + (if partB w p = true then F p else 0) → p < 180 → TT (jX8_sumOf_124 n V d what y rec v p) (fun r => r = sumD w d what y) := by
    intro v ev hp
    unfold jX8_sumOf_124
    rw [ev]
    exact tt_nm (next hp)
  rw [bX8_sumOf_6_e]
  refine tt_ck ⟨by omega, by omega⟩ (tt_ite (fun c => tt_some ?_) (fun c => ?_))
  · rw [es, show p = 180 by omega, hF]; rfl
  rw [x8_isPart (by rw [e0]; exact hw.1) p0 (by omega), bd_s, e0]
  refine tt_ite (fun c2 => go sm (by rw [if_neg (by rw [c2]; decide)]; omega) (by omega)) (fun c2 => ?_)
  have hb : partB w p = true := eq_true_of_ne_false c2
  have hs := part_split p0 hb
  have hpw := hw.2.2.2.2.2.1 _ _ hs.1 hs.2.1 hs.2.2.1 hs.2.2.2.1
  have hyb := yr_bd hw hs.1 hs.2.1
  have hgw := hw.2.2.2.2.1 _ hs.1 hs.2.1
  rw [hs.2.2.2.2] at hpw
  have ew : w (413 + p).toNat = wPd w p := rfl
  rw [ew]
  have skip : ¬ inS w d y p → TT (jX8_sumOf_124 n V d what y rec sm p) (fun r => r = sumD w d what y) := by
    intro hno
    refine go sm ?_ (by omega)
    rw [if_pos hb, show F p = 0 by rw [hF]; exact if_neg hno]; omega
  have take : inS w d y p → TT (jX8_sumOf_56 n V d what y rec sm p) (fun r => r = sumD w d what y) := by
    intro hin
    have hFp : F p = measS w what p := by rw [hF]; exact if_pos hin
    have fin : ∀ z : Int, z = measS w what p → TT (jX8_sumOf_121 n V d what y rec p z sm) (fun r => r = sumD w d what y) := by
      intro z hz
      unfold jX8_sumOf_121
      refine tt_nm (go (sm + z) ?_ (by omega))
      rw [if_pos hb, hFp, hz]
    have ep := hp p p0 hb
    unfold jX8_sumOf_56
    rw [x8_leftOf p0 (by omega), bd_s, e0, ep.1, ep.2]
    refine tt_ck ⟨by omega, by omega⟩ (tt_ite (fun k0 => fin _ ?_) (fun k0 => tt_ite (fun k1 => tt_ck ⟨p0, by omega⟩ (fin _ ?_)) (fun k1 => tt_ite (fun k2 => tt_ck ⟨p0, by omega⟩ (fin _ ?_)) (fun k2 => tt_ite (fun k3 => tt_ck ⟨by omega, by omega⟩ (fin _ ?_)) (fun k3 => fin _ ?_)))))
    · unfold measS; rw [if_pos k0]
    · unfold measS; rw [if_neg k0, if_pos k1]
    · unfold measS; rw [if_neg k0, if_neg k1, if_pos k2]
    · unfold measS; rw [if_neg k0, if_neg k1, if_neg k2, if_pos k3]; rfl
    · unfold measS; rw [if_neg k0, if_neg k1, if_neg k2, if_neg k3]
  refine tt_ck ⟨by omega, by omega⟩ (tt_ck ⟨⟨by omega, by omega⟩, hd⟩ (tt_ite (fun c3 => tt_ck hy (tt_ite (fun c4 => take ⟨c3, Or.inl c4⟩) (fun c4 => ?_))) (fun c3 => skip (fun q => c3 q.1))))
  rw [x8_yearOf p0 (by omega) (by rw [e0]; omega), bd_s, e0]
  refine tt_ck ⟨by omega, by omega⟩ (tt_ite (fun c5 => take ⟨c3, Or.inr c5⟩) (fun c5 => skip (fun q => ?_)))
  rcases q.2 with e | e
  · exact c4 e
  · exact c5 e
theorem ag_donor {V7 X V8 : Sz} (h : LR (sv 4 V7) (V8 0)) {n : Nat} (hn : 1000 ≤ n) {k q y : Int} (hk : rng k) (hq : rng q) (hy : rng y) : TT (f_X8_donor n V8 k q y) (Asks cdB (f_X7_donor n V7 X k q y) V8) := by
  have hw := h.2.2.1
  unfold f_X8_donor
  refine tt_bd (x8_noDonor hw hk) (fun ⟨r1, V2⟩ hr => ref_t hr (fun ok hT => ?_) (fun no hT => tt_some (asks_no (e := 0) ?_ hT rfl (by decide))))
  · have refuse : f_X7_donor n V7 X k q y = some (.inr 1) → TT (jX8_donor_28 n k q y V2) (Asks cdB (f_X7_donor n V7 X k q y) V8) := by
      intro e7
      unfold jX8_donor_28 jX8_donor_33
      exact f1_t (tt_f (by decide) (tt_some (asks_no (e := 1) e7 (hT.trans (Thr.zero V2 2)) rfl (by decide))))
    refine rg_f hq ⟨by decide, by decide⟩ ⟨by decide, by decide⟩ (fun c => rg_t hy ⟨by decide, by decide⟩ ⟨by decide, by decide⟩ (fun c2 => ?_) (fun c2 => refuse ?_)) (fun c => refuse ?_)
    · unfold jX8_donor_33
      refine f0_t (tt_t rfl (tt_bd (aid_of hw hT hn) (fun V6 ⟨hA, e0, hp⟩ => ?_)))
      rw [x8_sumOf hw e0 hn hp hk c hy, bd_s]
      refine tt_some (asks_aid ?_ hT hA)
      unfold f_X7_donor
      rw [x7_donorY h hk ok, bx_l, x7_rangeY hq ⟨by decide, by decide⟩ ⟨by decide, by decide⟩ c, bx_l, x7_rangeY hy ⟨by decide, by decide⟩ ⟨by decide, by decide⟩ c2, bx_l, c4_sumOfDonor h hn hk hq hy]; rfl
    · unfold f_X7_donor
      rw [x7_donorY h hk ok, bx_l, x7_rangeY hq ⟨by decide, by decide⟩ ⟨by decide, by decide⟩ c, bx_l, x7_rangeN hy ⟨by decide, by decide⟩ ⟨by decide, by decide⟩ c2]; rfl
    · unfold f_X7_donor
      rw [x7_donorY h hk ok, bx_l, x7_rangeN hq ⟨by decide, by decide⟩ ⟨by decide, by decide⟩ c]; rfl
  · unfold f_X7_donor
    rw [x7_donorN h hk no]; rfl
