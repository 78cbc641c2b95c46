/-! sums over the parts -/
def sumPS (w : Rw) (F : Int → Int) : Int := sumN (fun p => if partB w p = true then F p else 0) 180
theorem part_Bn {w : Rw} {g i : Int} (i0 : 0 ≤ i) (i3 : i < 3) : partB w (3 * g + i) = (decide (i < wMany w g) && decide (g < w 2)) := by
  unfold partB
  rw [show (3 * g + i) / 3 = g by omega, show (3 * g + i) % 3 = i by omega]
theorem sumPS_gifts {w : Rw} (hw : WF w) (F : Int → Int) : sumPS w F = sumN (fun g => sumN (fun i => F (3 * g + i)) (wMany w g).toNat) (w 2).toNat := by
  have a2 := hw.2.1.2.2.1
  unfold sumPS
  rw [sumN_cut (m := 3 * (w 2).toNat) (by omega) (fun p p0 p1 => ?_), sumN_three]
  · refine sumN_congr (fun g g0 g1 => ?_)
    have hg := hw.2.2.2.2.1 g g0 (by omega)
    have e0 := part_Bn (w := w) (g := g) (i := 0) (by decide) (by decide)
    have e1 := part_Bn (w := w) (g := g) (i := 1) (by decide) (by decide)
    have e2 := part_Bn (w := w) (g := g) (i := 2) (by decide) (by decide)
    rw [Int.add_zero] at e0
    rw [e0, e1, e2, decide_eq_true (show g < w 2 by omega), Bool.and_true, Bool.and_true, Bool.and_true]
    have hm : wMany w g = 0 ∨ wMany w g = 1 ∨ wMany w g = 2 ∨ wMany w g = 3 := by omega
    rcases hm with h | h | h | h <;> rw [h]
    · rfl
    · show F (3 * g) + 0 + 0 = 0 + F (3 * g + ((0 : Nat) : Int))
      rw [show (3 * g + ((0 : Nat) : Int)) = 3 * g by omega]; omega
    · show F (3 * g) + F (3 * g + 1) + 0 = 0 + F (3 * g + ((0 : Nat) : Int)) + F (3 * g + ((1 : Nat) : Int))
      rw [show (3 * g + ((0 : Nat) : Int)) = 3 * g by omega]
      show _ = 0 + F (3 * g) + F (3 * g + 1)
      omega
    · show F (3 * g) + F (3 * g + 1) + F (3 * g + 2) = 0 + F (3 * g + ((0 : Nat) : Int)) + F (3 * g + ((1 : Nat) : Int)) + F (3 * g + ((2 : Nat) : Int))
      rw [show (3 * g + ((0 : Nat) : Int)) = 3 * g by omega]
      show _ = 0 + F (3 * g) + F (3 * g + 1) + F (3 * g + 2)
      omega
  · refine if_neg ?_
    unfold partB
    rw [decide_eq_false (show ¬ p / 3 < w 2 by omega), Bool.and_false]
    decide
theorem part_split {w : Rw} {p : Int} (p0 : 0 ≤ p) (h : partB w p = true) : 0 ≤ p / 3 ∧ p / 3 < w 2 ∧ 0 ≤ p % 3 ∧ p % 3 < wMany w (p / 3) ∧ 3 * (p / 3) + p % 3 = p := by
  unfold partB at h
  rw [dec_and] at h
  have h := of_decide_eq_true h
  omega
theorem aidS_part {w : Rw} {q : Nat} (hw : WF w) (hq : (q : Int) < w 2) {i : Int} (i0 : 0 ≤ i) (i1 : i < wMany w (ordS w q)) : aidS w (3 * ordS w q + i) = aidP w q (3 * ordS w q + i) := by
  have hg := ordS_in hq
  have hpt := part_of hw hg.1 hg.2 i0 i1
  unfold aidS
  rw [hpt.2.1, plcS_ord hq]
theorem aidS_bd {w : Rw} (hw : WF w) {p : Int} (p0 : 0 ≤ p) (h : partB w p = true) : 0 ≤ aidS w p ∧ aidS w p ≤ wishS w p ∧ wishS w p ≤ 999999 := by
  have hs := part_split p0 h
  have a2 := hw.2.1.2.2.1
  obtain ⟨q, hq, eq⟩ := ordA_onto (wDay w) (n := (w 2).toNat) hs.1 (by omega)
  have eq : ordS w q = p / 3 := eq
  have h1 := aidP_bd hw (q := q) (by omega) hs.2.2.1 (by rw [eq]; exact hs.2.2.2.1)
  have h2 := aidS_part hw (q := q) (by omega) hs.2.2.1 (by rw [eq]; exact hs.2.2.2.1)
  have h3 := wishS_bd hw hs.1 hs.2.1 hs.2.2.1 hs.2.2.2.1
  rw [eq, hs.2.2.2.2] at h1 h2
  rw [hs.2.2.2.2] at h3
  omega
theorem x8_allAid {V0 : Sz} (hw : WF (V0 0)) {n : Nat} (hn : 1000 ≤ n) : TT (f_X8_allAid n V0) (fun r => r.1 = sumPS (V0 0) (aidS (V0 0)) ∧ AidOK V0 r.2) := by
  unfold f_X8_allAid
  refine tt_bd (x8_laysAid hw hn) (fun V hA => ?_)
  have e0 : V 0 = V0 0 := hA.1 0 (by decide) (by decide) (by decide) (by decide)
  refine tt_lp (I := fun s : Int × Int × Sz => (0 ≤ s.2.1 ∧ s.2.1 ≤ 180) ∧ s.2.2 = V ∧ s.1 = sumN (fun p => if partB (V0 0) p = true then aidS (V0 0) p else 0) s.2.1.toNat) (μ := fun s => (180 - s.2.1).toNat) ?_ n (0, 0, V) ⟨⟨Int.le_refl _, by show (0 : Int) ≤ 180; decide⟩, rfl, rfl⟩ (by show (180 - (0 : Int)).toNat < n; omega)
  rintro ⟨sm, y, V1⟩ rec ⟨⟨y0, y1⟩, eV, es⟩ ih
  simp only at y0 y1 eV es
  subst eV
  rw [bX8_allAid_8_e]
  have go : ∀ z : Int, z = (if partB (V0 0) y = true then aidS (V0 0) y else 0) → y < 180 → TT (jX8_allAid_34 n rec y V1 z sm) (fun r => r.1 = sumPS (V0 0) (aidS (V0 0)) ∧ AidOK V0 r.2) := by
    intro z hz hy
    unfold jX8_allAid_34
    refine tt_nm (tt_nm (ih (sm + z, y + 1, V1) ⟨⟨by show 0 ≤ y + 1; omega, by show y + 1 ≤ 180; omega⟩, rfl, ?_⟩ (by show (180 - (y + 1)).toNat < (180 - y).toNat; omega)))
    show sm + z = sumN (fun p => if partB (V0 0) p = true then aidS (V0 0) p else 0) (y + 1).toNat
    rw [sumN_step _ y0, es, hz]
  refine tt_ck ⟨by omega, by omega⟩ (tt_ite (fun c => tt_some ⟨?_, hA⟩) (fun c => ?_))
  · show sm = sumPS (V0 0) (aidS (V0 0))
    rw [es, show y = 180 by omega]; rfl
  · rw [x8_isPart (by rw [e0]; exact hw.1) y0 (by omega), bd_s, e0]
    refine tt_ite (fun c2 => go 0 (by rw [c2]; rfl) (by omega)) (fun c2 => ?_)
    have hb : partB (V0 0) y = true := by
      cases h : partB (V0 0) y with
      | true => rfl
      | false => exact (c2 h).elim
    have hs := part_split y0 hb
    have ha := (hA.2 _ _ hs.1 hs.2.1 hs.2.2.1 hs.2.2.2.1).2
    rw [hs.2.2.2.2] at ha
    exact tt_ck ⟨y0, by omega⟩ (go _ (by rw [if_pos hb, ha]) (by omega))
