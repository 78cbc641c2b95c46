/-! declarations that could be left out -/
def NeedP (w : Rw) (d k : Int) : Prop := wWho w k = d ∧ ∀ t : Int, wFr w k ≤ t → t ≤ wTo w k → Cov w d k t
noncomputable def needI (w : Rw) (d k : Int) : Int := @ite Int (NeedP w d k) (Classical.propDecidable _) 1 0
theorem needI_t {w : Rw} {d k : Int} (h : NeedP w d k) : needI w d k = 1 := by unfold needI; exact if_pos h
theorem needI_f {w : Rw} {d k : Int} (h : ¬ NeedP w d k) : needI w d k = 0 := by unfold needI; exact if_neg h
theorem c1_countNeedless {V : Sz} {w : Rw} (h : LR0 V w) (hw : WF w) (h30 : w 1 ≤ 30) {n : Nat} (hn : 100 ≤ n) {d : Int} (hd : rng d) : f_X1_countNeedless n (sv 5 V) d = some (sumN (needI w d) (w 1).toNat) := by
  have a0 := hw.2.1.1
  have a1 := hw.2.1.2.1
  have ec : sv 5 V 0 0 = w 1 := h.1.2.2.2.2.1
  refine tt_eq ?_
  unfold f_X1_countNeedless
  refine tt_lp (I := fun z : Int × Int => (0 ≤ z.2 ∧ z.2 ≤ w 1) ∧ z.1 = sumN (needI w d) z.2.toNat) (μ := fun z => (w 1 - z.2).toNat) ?_ n (0, 0) ⟨⟨Int.le_refl _, a1.1⟩, rfl⟩ (by show (w 1 - (0 : Int)).toNat < n; omega)
  rintro ⟨sm, k⟩ rec ⟨⟨k0, k1⟩, es⟩ ih
  simp only at k0 k1 es
  rw [bX1_countNeedless_4_e, ec]
  have next : ∀ v : Int, v = sm + needI w d k → k < w 1 → TT (jX1_countNeedless_46 n (sv 5 V) d rec v k) (fun r => r = sumN (needI w d) (w 1).toNat) := by
    intro v ev kk
    unfold jX1_countNeedless_46
    refine tt_nm (ih (v, k + 1) ⟨⟨by show 0 ≤ k + 1; omega, by show k + 1 ≤ w 1; omega⟩, ?_⟩ (by show (w 1 - (k + 1)).toNat < (w 1 - k).toNat; omega))
    show v = sumN (needI w d) (k + 1).toNat
    rw [sumN_step _ k0, ← es, ev]
  refine tt_ck ⟨⟨by omega, by omega⟩, ⟨by omega, by omega⟩⟩ (tt_ite (fun c => tt_some ?_) (fun c => ?_))
  · rw [es, show k = w 1 by omega]
  · have k2 : k < w 1 := by omega
    have hwk := hw.2.2.2.1 k k0 k2
    have hlk := h.2.2.1 k k0 k2
    have h1 : sv 5 V 1 k.toNat = wWho w k := hlk.1
    have h2 : sv 5 V 2 k.toNat = wFr w k := hlk.2.1
    have h3 : sv 5 V 3 k.toNat = wTo w k := hlk.2.2
    rw [h1, h2, h3]
    refine tt_ck ⟨k0, by omega⟩ (tt_ck ⟨⟨by omega, by omega⟩, hd⟩ (tt_ite (fun c2 => ?_) (fun c2 => next sm (by rw [needI_f (fun q => c2 q.1)]; omega) k2)))
    refine tt_bd (c1_openFrom h hw h30 hn hd (x := k) ⟨by omega, by omega⟩ hwk.2.2.1 (by omega)) (fun r ⟨r0, r1, rc, rn⟩ => ?_)
    refine tt_ck ⟨⟨by omega, by omega⟩, ⟨by omega, by omega⟩⟩ (tt_ite (fun c3 => next sm ?_ k2) (fun c3 => tt_nm (next (sm + 1) ?_ k2)))
    · rw [needI_f (fun q => rn (q.2 r r0 c3))]; omega
    · rw [needI_t ⟨c2, fun t t0 t1 => rc t t0 (by omega)⟩]
