/-! the reference's refusals -/
/-- the state but for the code of the refusal, which is z -/
def Thr (V0 V : Sz) (z : Int) : Prop := V 9 0 = z ∧ ∀ k : Nat, k ≠ 9 → V k = V0 k
theorem Thr.trans {V0 V V1 : Sz} {z z1 : Int} (h : Thr V0 V z) (h1 : Thr V V1 z1) : Thr V0 V1 z1 := ⟨h1.1, fun k hk => (h1.2 k hk).trans (h.2 k hk)⟩
theorem Thr.zero (V0 : Sz) (z : Int) : Thr V0 (us V0 9 z) z := ⟨us_at V0 9 z 0, fun k hk => us_ne hk⟩
theorem x8_fails {V : Sz} {c : Bool} {z : Int} : f_X8_fails V (bI c) z = some (c, if c = true then us V 9 z else V) := by
  cases c with
  | false => rfl
  | true => rfl
/-- a refusal's answer: does it refuse, and what is left -/
def RefP (V0 : Sz) (ok : Prop) (z : Int) (r : Bool × Sz) : Prop := (r.1 = false ↔ ok) ∧ Thr V0 r.2 (if r.1 = true then z else 0)
theorem x8_noDonor {V0 : Sz} (hw : WF (V0 0)) {k : Int} (hk : rng k) : TT (f_X8_noDonor V0 k) (RefP V0 (0 ≤ k ∧ k < V0 0 0) 1) := by
  have a0 := hw.2.1.1
  unfold f_X8_noDonor
  refine tt_nmE (fun V1 e1 => ?_)
  have e0 : V1 0 = V0 0 := by rw [e1, us_ne (by decide)]
  rw [e0, x8_inRange hk ⟨by decide, by decide⟩ ⟨by omega, by omega⟩, bd_s, dec_and]
  have hf0 : f_X8_fails V1 0 1 = some (false, V1) := x8_fails (c := false)
  have hf1 : f_X8_fails V1 1 1 = some (true, us V1 9 1) := x8_fails (c := true)
  unfold jX8_noDonor_27
  rw [hf0, hf1, bd_s, bd_s]
  refine tt_ite (fun c => tt_some ⟨⟨fun _ => ?_, fun _ => rfl⟩, ?_⟩) (fun c => tt_some ⟨⟨fun e => Bool.noConfusion (show true = false from e), fun ⟨q1, q2⟩ => (c (decide_eq_true ⟨q1, by omega⟩)).elim⟩, ?_⟩)
  · have := of_decide_eq_true c; omega
  · rw [e1]; exact Thr.zero V0 0
  · exact (show Thr V0 V1 0 by rw [e1]; exact Thr.zero V0 0).trans (Thr.zero V1 1)
theorem x8_noDeclaration {V0 : Sz} (hw : WF (V0 0)) {k : Int} (hk : rng k) : TT (f_X8_noDeclaration V0 k) (RefP V0 (0 ≤ k ∧ k < V0 0 1) 1) := by
  have a0 := hw.2.1.2.1
  unfold f_X8_noDeclaration
  refine tt_nmE (fun V1 e1 => ?_)
  have e0 : V1 0 = V0 0 := by rw [e1, us_ne (by decide)]
  rw [e0, x8_inRange hk ⟨by decide, by decide⟩ ⟨by omega, by omega⟩, bd_s, dec_and]
  have hf0 : f_X8_fails V1 0 1 = some (false, V1) := x8_fails (c := false)
  have hf1 : f_X8_fails V1 1 1 = some (true, us V1 9 1) := x8_fails (c := true)
  unfold jX8_noDeclaration_27
  rw [hf0, hf1, bd_s, bd_s]
  refine tt_ite (fun c => tt_some ⟨⟨fun _ => ?_, fun _ => rfl⟩, ?_⟩) (fun c => tt_some ⟨⟨fun e => Bool.noConfusion (show true = false from e), fun ⟨q1, q2⟩ => (c (decide_eq_true ⟨q1, by omega⟩)).elim⟩, ?_⟩)
  · have := of_decide_eq_true c; omega
  · rw [e1]; exact Thr.zero V0 0
  · exact (show Thr V0 V1 0 by rw [e1]; exact Thr.zero V0 0).trans (Thr.zero V1 1)
theorem x8_noGift {V0 : Sz} (hw : WF (V0 0)) {k : Int} (hk : rng k) : TT (f_X8_noGift V0 k) (RefP V0 (0 ≤ k ∧ k < V0 0 2) 1) := by
  have a0 := hw.2.1.2.2.1
  unfold f_X8_noGift
  refine tt_nmE (fun V1 e1 => ?_)
  have e0 : V1 0 = V0 0 := by rw [e1, us_ne (by decide)]
  rw [e0, x8_inRange hk ⟨by decide, by decide⟩ ⟨by omega, by omega⟩, bd_s, dec_and]
  have hf0 : f_X8_fails V1 0 1 = some (false, V1) := x8_fails (c := false)
  have hf1 : f_X8_fails V1 1 1 = some (true, us V1 9 1) := x8_fails (c := true)
  unfold jX8_noGift_27
  rw [hf0, hf1, bd_s, bd_s]
  refine tt_ite (fun c => tt_some ⟨⟨fun _ => ?_, fun _ => rfl⟩, ?_⟩) (fun c => tt_some ⟨⟨fun e => Bool.noConfusion (show true = false from e), fun ⟨q1, q2⟩ => (c (decide_eq_true ⟨q1, by omega⟩)).elim⟩, ?_⟩)
  · have := of_decide_eq_true c; omega
  · rw [e1]; exact Thr.zero V0 0
  · exact (show Thr V0 V1 0 by rw [e1]; exact Thr.zero V0 0).trans (Thr.zero V1 1)
theorem x8_noSpan {V0 : Sz} {a b : Int} (ha : rng a) (hb : rng b) (h9 : V0 9 0 = 0) : TT (f_X8_noSpan V0 a b) (RefP V0 (0 ≤ a ∧ a ≤ b ∧ b ≤ 9999) 2) := by
  have hf0 : f_X8_fails V0 0 2 = some (false, V0) := x8_fails (c := false)
  have hf1 : f_X8_fails V0 1 2 = some (true, us V0 9 2) := x8_fails (c := true)
  have self : Thr V0 V0 0 := ⟨h9, fun _ _ => rfl⟩
  unfold f_X8_noSpan jX8_noSpan_23 jX8_noSpan_28
  rw [x8_inRange ha ⟨by decide, by decide⟩ ⟨by decide, by decide⟩, bd_s, dec_and, hf0, hf1, bd_s, bd_s]
  refine tt_ite (fun c => tt_some ⟨⟨fun e => Bool.noConfusion (show true = false from e), fun ⟨q1, q2, q3⟩ => ?_⟩, Thr.zero V0 2⟩) (fun c => ?_)
  · have := of_decide_eq_false c; omega
  · have c := of_decide_eq_true (show decide (0 ≤ a ∧ a ≤ 9999) = true from by cases hb9 : decide (0 ≤ a ∧ a ≤ 9999) with | true => rfl | false => exact (c hb9).elim)
    rw [x8_inRange hb ha ⟨by decide, by decide⟩, bd_s, dec_and]
    refine tt_ite (fun c2 => tt_some ⟨⟨fun _ => ?_, fun _ => rfl⟩, self⟩) (fun c2 => tt_some ⟨⟨fun e => Bool.noConfusion (show true = false from e), fun ⟨q1, q2, q3⟩ => (c2 (decide_eq_true ⟨q2, q3⟩)).elim⟩, Thr.zero V0 2⟩)
    have := of_decide_eq_true c2; omega
