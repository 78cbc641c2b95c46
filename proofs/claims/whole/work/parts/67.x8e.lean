/-! laysAid: the walk of its text -/
theorem AidIn.wp {V0 V : Sz} (hw : WF (V0 0)) {q : Nat} {i : Int} (hq : (q : Int) < V0 0 2) (i0 : 0 ≤ i) (i1 : i < wMany (V0 0) (ordS (V0 0) q)) (h : AidIn V0 V q i) : V 11 (28 * wPd (V0 0) (3 * ordS (V0 0) q + i) + yrS (V0 0) (ordS (V0 0) q)).toNat = usS (V0 0) (wPd (V0 0) (3 * ordS (V0 0) q + i)) (yrS (V0 0) (ordS (V0 0) q)) q := by
  have hg := ordS_in hq
  have hp := hw.2.2.2.2.2.1 _ i hg.1 hg.2 i0 i1
  have hy := yr_bd hw hg.1 hg.2
  refine (h.2.2.1 _ _ hp.1 hp.2.1 hy.1 hy.2).2 (fun ⟨_, j, j0, j1, e⟩ => ?_)
  exact hw.2.2.2.2.2.2.1 _ j i hg.1 hg.2 j0 j1 i1 e
theorem aidP_bd {w : Rw} (hw : WF w) {q : Nat} (hq : (q : Int) < w 2) {i : Int} (i0 : 0 ≤ i) (i1 : i < wMany w (ordS w q)) : 0 ≤ aidP w q (3 * ordS w q + i) ∧ aidP w q (3 * ordS w q + i) ≤ wishS w (3 * ordS w q + i) := by
  have hg := ordS_in hq
  have hp := hw.2.2.2.2.2.1 _ i hg.1 hg.2 i0 i1
  have hpt := part_of hw hg.1 hg.2 i0 i1
  have h1 := wishS_bd hw hg.1 hg.2 i0 i1
  have h2 := usS_bd hw hp.1 hp.2.1 (yrS w ((3 * ordS w q + i) / 3)) (i := q) (by omega)
  unfold aidP
  omega
theorem x8_laysAid {V0 : Sz} (hw : WF (V0 0)) {n : Nat} (hn : 1000 ≤ n) : TT (f_X8_laysAid n V0) (AidOK V0) := by
  have a0 := hw.2.1.1
  have a2 := hw.2.1.2.2.1
  unfold f_X8_laysAid
  refine tt_bd (x8_laysOrder hw (by omega)) (fun V1 ⟨hk1, ho1⟩ => ?_)
  refine tt_lp (I := fun s : Int × Sz => (0 ≤ s.1 ∧ s.1 ≤ 280) ∧ (∀ k : Nat, k ≠ 10 → k ≠ 11 → s.2 k = V0 k) ∧ (∀ i : Nat, (i : Int) < V0 0 2 → s.2 10 i = ordS (V0 0) i) ∧ ∀ j : Nat, (j : Int) < s.1 → s.2 11 j = 0) (μ := fun s => (280 - s.1).toNat) ?_ n (0, V1) ⟨⟨Int.le_refl _, by show (0 : Int) ≤ 280; decide⟩, fun k a _ => hk1 k a, ho1, fun j hj => absurd hj (by show ¬ ((j : Int) < 0); omega)⟩ (by show (280 - (0 : Int)).toNat < n; omega)
  rintro ⟨y, V⟩ rec6 ⟨⟨y0, y1⟩, hk, ho, hz⟩ ih6
  simp only at y0 y1 hk ho hz
  rw [bX8_laysAid_6_e]
  refine tt_ck ⟨by omega, by omega⟩ (tt_ite (fun c => ?_) (fun c => ?_))
  · -- the gifts
    have hin : AidIn V0 V 0 0 := by
      refine ⟨fun k a b _ _ => hk k a b, ho, fun d z d0 d1 z0 z1 => ⟨fun ⟨_, j, j0, j1, _⟩ => by omega, fun _ => ?_⟩, fun p j hp => ?_⟩
      · rw [hz _ (by omega)]; rfl
      · rcases hp with h | ⟨h, h'⟩
        · omega
        · intro _ hj; omega
    refine tt_lp (I := fun s : Int × Sz => (0 ≤ s.1 ∧ s.1 ≤ V0 0 2) ∧ AidIn V0 s.2 s.1.toNat 0) (μ := fun s => (V0 0 2 - s.1).toNat) ?_ n (0, V) ⟨⟨Int.le_refl _, a2.1⟩, hin⟩ (by show (V0 0 2 - (0 : Int)).toNat < n; omega)
    rintro ⟨k, V⟩ rec28 ⟨⟨k0, k1⟩, hin⟩ ih28
    simp only at k0 k1 hin
    have e0 : V 0 = V0 0 := hin.1 0 (by decide) (by decide) (by decide) (by decide)
    rw [bX8_laysAid_28_e, e0]
    refine tt_ck ⟨⟨by omega, by omega⟩, ⟨by omega, by omega⟩⟩ (tt_ite (fun c => tt_some (hin.done hw (by omega))) (fun c => ?_))
    have hq : ((k.toNat : Nat) : Int) < V0 0 2 := by omega
    have hg := ordS_in hq
    have hgg := hw.2.2.2.2.1 _ hg.1 hg.2
    refine tt_lp (I := fun s : Int × Int × Sz => s.1 = k ∧ (0 ≤ s.2.1 ∧ s.2.1 ≤ wMany (V0 0) (ordS (V0 0) k.toNat)) ∧ AidIn V0 s.2.2 k.toNat s.2.1) (μ := fun s => (3 - s.2.1).toNat) ?_ n (k, 0, V) ⟨rfl, ⟨Int.le_refl _, by show 0 ≤ wMany (V0 0) (ordS (V0 0) k.toNat); omega⟩, hin⟩ (by show (3 - (0 : Int)).toNat < n; omega)
    rintro ⟨kk, i, V⟩ rec40 ⟨ek, ⟨i0, i1⟩, hin⟩ ih40
    simp only at ek i0 i1 hin
    subst ek
    have e0 : V 0 = V0 0 := hin.1 0 (by decide) (by decide) (by decide) (by decide)
    have eg : V 10 kk.toNat = ordS (V0 0) kk.toNat := hin.2.1 kk.toNat hq
    have em : V0 0 (293 + ordS (V0 0) kk.toNat).toNat = wMany (V0 0) (ordS (V0 0) kk.toNat) := rfl
    rw [bX8_laysAid_40_e, e0, eg, em]
    refine tt_ck ⟨by omega, by omega⟩ (tt_ck ⟨by omega, by omega⟩ (tt_ck ⟨⟨by omega, by omega⟩, ⟨by omega, by omega⟩⟩ (tt_ite (fun c2 => ?_) (fun c2 => ?_))))
    · refine tt_nm (ih28 (kk + 1, V) ⟨⟨by show 0 ≤ kk + 1; omega, by show kk + 1 ≤ V0 0 2; omega⟩, ?_⟩ (by show (V0 0 2 - (kk + 1)).toNat < (V0 0 2 - kk).toNat; omega))
      show AidIn V0 V (kk + 1).toNat 0
      rw [show (kk + 1).toNat = kk.toNat + 1 by omega]
      exact hin.next hw hq (by omega)
    · have i2 : i < wMany (V0 0) (ordS (V0 0) kk.toNat) := by omega
      have hpt := part_of hw hg.1 hg.2 i0 i2
      have hpp := hw.2.2.2.2.2.1 _ i hg.1 hg.2 i0 i2
      have hl := hw.2.2.1 _ hpp.1 hpp.2.1
      have hy := yr_bd hw hg.1 hg.2
      have hwb := wishS_bd hw hg.1 hg.2 i0 i2
      have hab := aidP_bd hw hq i0 i2
      have hub := usS_bd hw hpp.1 hpp.2.1 (yrS (V0 0) (ordS (V0 0) kk.toNat)) (i := kk.toNat) (by omega)
      have hnx := usS_next hw hq i0 i2
      have hhd := hin.wp hw hq i0 i2
      have ea : min (wishS (V0 0) (3 * ordS (V0 0) kk.toNat + i)) (wLim (V0 0) (wPd (V0 0) (3 * ordS (V0 0) kk.toNat + i)) - usS (V0 0) (wPd (V0 0) (3 * ordS (V0 0) kk.toNat + i)) (yrS (V0 0) (ordS (V0 0) kk.toNat)) kk.toNat) = aidP (V0 0) kk.toNat (3 * ordS (V0 0) kk.toNat + i) := by
        unfold aidP
        rw [hpt.2.1]
      have hwV : WF (V 0) := by rw [e0]; exact hw
      have eY := x8_yearOf (V := V) hpt.1.1 hpt.1.2 (by rw [e0, hpt.2.1]; omega)
      have eW := x8_wishOf (V := V) hwV (n := n) (by omega) (g := ordS (V0 0) kk.toNat) (i := i) hg.1 (by rw [e0]; exact hg.2) i0 (by rw [e0]; exact i2)
      rw [e0] at eY eW
      rw [hpt.2.1] at eY
      rw [x8_partOf, bd_s, eY, bd_s, nm_s, eW, bd_s]
      have ed : V0 0 (413 + (3 * ordS (V0 0) kk.toNat + i)).toNat = wPd (V0 0) (3 * ordS (V0 0) kk.toNat + i) := rfl
      rw [ed]
      refine tt_ck ⟨by omega, by omega⟩ (tt_ck ⟨by omega, by omega⟩ (tt_nmE (fun V14 h14 => ?_)))
      have f0 : V14 0 = V0 0 := by rw [h14, uz_ne (by decide), e0]
      have f11 : V14 11 = V 11 := by rw [h14, uz_ne (by decide)]
      have f13 : V14 13 (3 * ordS (V0 0) kk.toNat + i).toNat = wishS (V0 0) (3 * ordS (V0 0) kk.toNat + i) := by rw [h14, uz_at, up_at]
      have el : V0 0 (10 + wPd (V0 0) (3 * ordS (V0 0) kk.toNat + i)).toNat = wLim (V0 0) (wPd (V0 0) (3 * ordS (V0 0) kk.toNat + i)) := rfl
      rw [f0, f11, f13, ed, el, hhd, ea]
      refine tt_ck ⟨by omega, by omega⟩ (tt_ck ⟨by omega, by omega⟩ (tt_ck ⟨⟨by omega, by omega⟩, ⟨by omega, by omega⟩⟩ (tt_ck ⟨by omega, by omega⟩ (tt_nmE (fun V19 h19 => tt_nmE (fun V20 h20 => tt_nm ?_))))))
      rw [show max 0 (aidP (V0 0) kk.toNat (3 * ordS (V0 0) kk.toNat + i)) = aidP (V0 0) kk.toNat (3 * ordS (V0 0) kk.toNat + i) by omega] at h19
      have g11 : V19 11 = V 11 := by rw [h19, uz_ne (by decide), f11]
      have g12 : V19 12 (3 * ordS (V0 0) kk.toNat + i).toNat = aidP (V0 0) kk.toNat (3 * ordS (V0 0) kk.toNat + i) := by rw [h19, uz_at, up_at]
      rw [g11, g12, hhd, ← hnx] at h20
      exact ih40 (kk, i + 1, V20) ⟨rfl, ⟨by show 0 ≤ i + 1; omega, by show i + 1 ≤ wMany (V0 0) (ordS (V0 0) kk.toNat); omega⟩, hin.step hw hq i0 i2 h14 h19 h20⟩ (by show (3 - (i + 1)).toNat < (3 - i).toNat; omega)
  · refine tt_ck ⟨y0, by omega⟩ (tt_nm (tt_nm ?_))
    refine ih6 (y + 1, uz V 11 y.toNat 0) ⟨⟨by show 0 ≤ y + 1; omega, by show y + 1 ≤ 280; omega⟩, fun k a b => ?_, fun i hi => ?_, fun j hj => ?_⟩ (by show (280 - (y + 1)).toNat < (280 - y).toNat; omega)
    · show uz V 11 y.toNat 0 k = V0 k
      rw [uz_ne b]; exact hk k a b
    · show uz V 11 y.toNat 0 10 i = _
      rw [uz_ne (by decide)]; exact ho i hi
    · have hj : (j : Int) < y + 1 := hj
      show uz V 11 y.toNat 0 11 j = 0
      rw [uz_at, up_if]
      split
      · rfl
      · exact hz j (by omega)
