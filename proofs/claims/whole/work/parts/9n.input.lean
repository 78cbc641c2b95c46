/-! the input's bytes -/
/-- an answer that never refuses, of a call that leaves its own cells changed -/
def ChN {α : Type} (PV : Nat → Sz) (K : Nat) (x : Option (α × Sz)) (r : α × Sz) : Prop := ∃ V1, x = some (r.1, V1) ∧ Rel V1 PV K r.2
theorem c7_bytes {V0 X : Sz} {x a : Int} (hx : rng x) (ea : V0 1 0 = a) (ha : 0 ≤ a ∧ a + 4 ≤ 900) {n : Nat} (hn : 100 ≤ n) : TT (f_X7_appendBytes n V0 X x) (fun V => V 1 0 = a + 4 ∧ (∀ k : Nat, 1 < k → V k = V0 k) ∧ ∀ i : Nat, V 0 i = if a.toNat ≤ i ∧ i < (a + 4).toNat then (shX x (24 - 8 * ((i : Int) - a)) + 128) % 256 - 128 else V0 0 i) := by
  unfold f_X7_appendBytes
  refine tt_lp (I := fun z : Int × Sz => ∃ m : Nat, m ≤ 4 ∧ z.1 = 24 - 8 * (m : Int) ∧ z.2 1 0 = a + (m : Int) ∧ (∀ k : Nat, 1 < k → z.2 k = V0 k) ∧ ∀ i : Nat, z.2 0 i = if a.toNat ≤ i ∧ i < (a + (m : Int)).toNat then (shX x (24 - 8 * ((i : Int) - a)) + 128) % 256 - 128 else V0 0 i) (μ := fun z => (z.1 + 8).toNat) ?_ n (24, V0) ⟨0, by decide, rfl, by show V0 1 0 = a + 0; omega, fun _ _ => rfl, fun i => by rw [if_neg (by omega)]⟩ (by show ((24 : Int) + 8).toNat < n; have : ((24 : Int) + 8).toNat = 32 := rfl; omega)
  rintro ⟨y, V⟩ rec ⟨m, hm, ey, e1, hk, hT⟩ ih
  simp only at ey e1 hk hT
  rw [bX7_appendBytes_3_e]
  refine tt_ck ⟨by omega, by omega⟩ (tt_ite (fun c => tt_some ?_) (fun c => ?_))
  · have : (m : Int) = 4 := by omega
    rw [this] at e1 hT
    exact ⟨e1, hk, hT⟩
  · refine tt_ck ⟨hx, by omega⟩ ?_
    rw [e1]
    refine tt_ck ⟨by omega, by omega⟩ (tt_nmE (fun V4 e4 => tt_nmE (fun V5 e5 => tt_nm (ih (y + (-8), V5) ⟨m + 1, by omega, ?_, ?_, fun k k1 => ?_, fun i => ?_⟩ (by show (y + (-8) + 8).toNat < (y + 8).toNat; omega)))))
    · show y + (-8) = 24 - 8 * ((m + 1 : Nat) : Int)
      omega
    · show V5 1 0 = a + ((m + 1 : Nat) : Int)
      rw [e5, us_at, e4, uz_ne (by decide), e1]
      omega
    · show V5 k = V0 k
      rw [e5, us_ne (by omega), e4, uz_ne (by omega)]; exact hk k k1
    · show V5 0 i = if a.toNat ≤ i ∧ i < (a + ((m + 1 : Nat) : Int)).toNat then _ else V0 0 i
      rw [e5, us_ne (by decide), e4, uz_at, up_if]
      by_cases e : i = (a + (m : Int)).toNat
      · rw [if_pos e, if_pos ⟨by omega, by omega⟩, ey, show (24 - 8 * ((i : Int) - a)) = 24 - 8 * (m : Int) by omega]
        omega
      · rw [if_neg e, hT i]
        by_cases e2 : a.toNat ≤ i ∧ i < (a + (m : Int)).toNat
        · rw [if_pos e2, if_pos ⟨by omega, by omega⟩]
        · rw [if_neg e2, if_neg (fun q => e2 ⟨q.1, by omega⟩)]
theorem x8_word {V0 : Sz} {x a : Int} (hx : rng x) (ea : V0 15 0 = a) (ha : 0 ≤ a ∧ a + 4 ≤ 900) {n : Nat} (hn : 100 ≤ n) : TT (f_X8_appendWord n V0 x) (fun V => V 15 0 = a + 4 ∧ (∀ k : Nat, k ≠ 14 → k ≠ 15 → V k = V0 k) ∧ ∀ i : Nat, V 14 i = if a.toNat ≤ i ∧ i < (a + 4).toNat then shX x (24 - 8 * ((i : Int) - a)) % 256 else V0 14 i) := by
  unfold f_X8_appendWord
  refine tt_lp (I := fun z : Int × Sz => ∃ m : Nat, m ≤ 4 ∧ z.1 = 24 - 8 * (m : Int) ∧ z.2 15 0 = a + (m : Int) ∧ (∀ k : Nat, k ≠ 14 → k ≠ 15 → z.2 k = V0 k) ∧ ∀ i : Nat, z.2 14 i = if a.toNat ≤ i ∧ i < (a + (m : Int)).toNat then shX x (24 - 8 * ((i : Int) - a)) % 256 else V0 14 i) (μ := fun z => (z.1 + 8).toNat) ?_ n (24, V0) ⟨0, by decide, rfl, by show V0 15 0 = a + 0; omega, fun _ _ _ => rfl, fun i => by rw [if_neg (by omega)]⟩ (by show ((24 : Int) + 8).toNat < n; have : ((24 : Int) + 8).toNat = 32 := rfl; omega)
  rintro ⟨y, V⟩ rec ⟨m, hm, ey, e1, hk, hT⟩ ih
  simp only at ey e1 hk hT
  rw [bX8_appendWord_3_e]
  refine tt_ck ⟨by omega, by omega⟩ (tt_ite (fun c => tt_some ?_) (fun c => ?_))
  · have : (m : Int) = 4 := by omega
    rw [this] at e1 hT
    exact ⟨e1, hk, hT⟩
  · refine tt_ck ⟨hx, by omega⟩ ?_
    rw [e1]
    refine tt_ck ⟨by omega, by omega⟩ (tt_nmE (fun V4 e4 => tt_nmE (fun V5 e5 => tt_nm (ih (y + (-8), V5) ⟨m + 1, by omega, ?_, ?_, fun k k1 k2 => ?_, fun i => ?_⟩ (by show (y + (-8) + 8).toNat < (y + 8).toNat; omega)))))
    · show y + (-8) = 24 - 8 * ((m + 1 : Nat) : Int)
      omega
    · show V5 15 0 = a + ((m + 1 : Nat) : Int)
      rw [e5, us_at, e4, uz_ne (by decide), e1]
      omega
    · show V5 k = V0 k
      rw [e5, us_ne k2, e4, uz_ne k1]; exact hk k k1 k2
    · show V5 14 i = if a.toNat ≤ i ∧ i < (a + ((m + 1 : Nat) : Int)).toNat then _ else V0 14 i
      rw [e5, us_ne (by decide), e4, uz_at, up_if]
      by_cases e : i = (a + (m : Int)).toNat
      · rw [if_pos e, if_pos ⟨by omega, by omega⟩, ey, show (24 - 8 * ((i : Int) - a)) = 24 - 8 * (m : Int) by omega]
      · rw [if_neg e, hT i]
        by_cases e2 : a.toNat ≤ i ∧ i < (a + (m : Int)).toNat
        · rw [if_pos e2, if_pos ⟨by omega, by omega⟩]
        · rw [if_neg e2, if_neg (fun q => e2 ⟨q.1, by omega⟩)]
/-- a word more, on both sides -/
theorem word_both {V X V8 : Sz} (h : RelI V V8) {x : Int} (hx : rng x) (hl : V8 15 0 + 4 ≤ 900) {n : Nat} (hn : 100 ≤ n) : TT (f_X8_appendWord n V8 x) (fun V9 => V9 15 0 = V8 15 0 + 4 ∧ (∀ k : Nat, k ≠ 14 → k ≠ 15 → V9 k = V8 k) ∧ ∃ V1, f_X7_appendBytes n V X x = some V1 ∧ (∀ k : Nat, 1 < k → V1 k = V k) ∧ RelI V1 V9) := by
  obtain ⟨h1, h2, h3⟩ := h
  refine tt_mono (x8_word hx rfl ⟨h2.1, hl⟩ hn) (fun V9 ⟨m1, m2, m3⟩ => ⟨m1, m2, ?_⟩)
  obtain ⟨V1, e1, c1, c2, c3⟩ := c7_bytes (X := X) hx h1 ⟨h2.1, hl⟩ hn
  refine ⟨V1, e1, c2, ?_⟩
  unfold RelI
  rw [m1]
  refine ⟨c1, ⟨by omega, by omega⟩, fun i hi => ?_⟩
  rw [m3 i, c3 i]
  by_cases c : (V8 15 0).toNat ≤ i ∧ i < (V8 15 0 + 4).toNat
  · rw [if_pos c, if_pos c]
    constructor
    · constructor <;> omega
    · omega
  · rw [if_neg c, if_neg c]
    exact h3 i (by omega)
theorem ag_appendInput {V X : Sz} {PV : Nat → Sz} {K : Nat} {V8 : Sz} (h : Rel V PV K V8) {n : Nat} (hn : 20000 < n) {x1 x2 x3 x4 x5 : Int} (h1 : rng x1) (h2 : rng x2) (h3 : rng x3) (h4 : rng x4) (h5 : rng x5) : TT (f_X8_appendInput n V8 x1 x2 x3 x4 x5) (ChN PV K (f_X7_appendInput n V X x1 x2 x3 x4 x5)) := by
  have hI := h.2.2.2.1
  have hI0 := hI
  obtain ⟨i1, i2, i3⟩ := hI0
  unfold f_X8_appendInput
  refine tt_nmE (fun V1 e1 => ?_)
  have hT : Thr V8 V1 0 := by rw [e1]; exact Thr.zero V8 0
  have hI1 : RelI V V1 := by
    unfold RelI
    rw [hT.2 15 (by decide), hT.2 14 (by decide)]; exact hI
  have e15 : V1 15 0 = V8 15 0 := by rw [hT.2 15 (by decide)]
  rw [e15]
  refine tt_ck ⟨by omega, by omega⟩ (tt_ite (fun c => ?_) (fun c => tt_some ⟨V, ?_, h.thr hT⟩))
  · refine tt_bd (word_both (X := X) hI1 h1 (by omega) (by omega)) (fun Va ⟨a1, a2, Ca, ac, ak, aI⟩ => ?_)
    refine tt_bd (word_both (X := X) aI h2 (by omega) (by omega)) (fun Vb ⟨b1, b2, Cb, bc, bk, bI⟩ => ?_)
    refine tt_bd (word_both (X := X) bI h3 (by omega) (by omega)) (fun Vc ⟨c1, c2, Cc, cc, ck', cI⟩ => ?_)
    refine tt_bd (word_both (X := X) cI h4 (by omega) (by omega)) (fun Vd ⟨d1, d2, Cd, dc, dk, dI⟩ => ?_)
    refine tt_bd (word_both (X := X) dI h5 (by omega) (by omega)) (fun Ve ⟨f1, f2, Ce, ec, ek, eI⟩ => tt_some ⟨Ce, ?_, ?_⟩)
    · unfold f_X7_appendInput
      rw [i1, ck_t ⟨by omega, by omega⟩, if_pos c, ac, bd_s, bc, bd_s, cc, bd_s, dc, bd_s, ec, bd_s, eI.1]
    · have k8 : ∀ k : Nat, k ≠ 9 → k ≠ 14 → k ≠ 15 → Ve k = V8 k := fun k k9 k14 k15 => by
        rw [f2 k k14 k15, d2 k k14 k15, c2 k k14 k15, b2 k k14 k15, a2 k k14 k15, hT.2 k k9]
      have k7 : ∀ k : Nat, 1 < k → Ce k = V k := fun k hk => by rw [ek k hk, dk k hk, ck' k hk, bk k hk, ak k hk]
      refine h.rest (fun k hk => k7 k (by omega)) (fun k hk => k8 k (by omega) (by omega) (by omega)) eI ?_ ?_
      · have hE := h.2.2.2.2.1
        unfold RelE at *
        show (Ce 2 0 = Ve 16 0 ∧ 0 ≤ Ve 16 0 ∧ Ve 16 0 ≤ 4) ∧ Ce 3 0 = Ve 17 0 ∧ -1 ≤ Ve 17 0 ∧ Ve 17 0 ≤ 900
        rw [k7 2 (by decide), k7 3 (by decide), k8 16 (by decide) (by decide) (by decide), k8 17 (by decide) (by decide) (by decide)]; exact hE
      · have hO := h.2.2.2.2.2.1
        unfold RelO at *
        show Ce 100 0 = Ve 31 0 ∧ (0 ≤ Ve 31 0 ∧ Ve 31 0 ≤ 1140) ∧ ∀ i : Nat, (i : Int) < Ve 31 0 → Ce 99 i = Ve 30 i ∧ 0 ≤ Ve 30 i ∧ Ve 30 i ≤ 127
        rw [k7 100 (by decide), k7 99 (by decide), k8 30 (by decide) (by decide) (by decide), k8 31 (by decide) (by decide) (by decide)]; exact hO
  · unfold f_X7_appendInput
    rw [i1, ck_t ⟨by omega, by omega⟩, if_neg c]
theorem ag_truncateInput {V X : Sz} {PV : Nat → Sz} {K : Nat} {V8 : Sz} (h : Rel V PV K V8) {x : Int} (hx : rng x) : TT (f_X8_truncateInput V8 x) (ChN PV K (f_X7_truncateInput V X x)) := by
  obtain ⟨i1, i2, i3⟩ := h.2.2.2.1
  unfold f_X8_truncateInput
  refine tt_nmE (fun V1 e1 => ?_)
  have hT : Thr V8 V1 0 := by rw [e1]; exact Thr.zero V8 0
  have e15 : V1 15 0 = V8 15 0 := by rw [hT.2 15 (by decide)]
  rw [e15]
  refine rg_t hx ⟨by decide, by decide⟩ ⟨by omega, by omega⟩ (fun c => tt_nmE (fun V3 e3 => tt_some ⟨us V 1 x, ?_, ?_⟩)) (fun c => tt_some ⟨V, ?_, h.thr hT⟩)
  · unfold f_X7_truncateInput
    rw [ck_t hx, if_neg (by omega), i1, ck_t ⟨by omega, by omega⟩, if_pos (by omega), nm_s]
  · have k8 : ∀ k : Nat, k ≠ 9 → k ≠ 15 → V3 k = V8 k := fun k k9 k15 => by
      rw [e3, us_ne k15, hT.2 k k9]
    refine h.rest (fun k hk => us_ne (by omega)) (fun k hk => k8 k (by omega) (by omega)) ?_ ?_ ?_
    · show RelI (us V 1 x) V3
      unfold RelI
      have e315 : V3 15 0 = x := by rw [e3, us_at]
      rw [us_at, e315, us_ne (by decide), k8 14 (by decide) (by decide)]
      exact ⟨rfl, ⟨by omega, by omega⟩, fun i hi => i3 i (by omega)⟩
    · have hE := h.2.2.2.2.1
      show RelE (us V 1 x) V3
      unfold RelE at *
      rw [us_ne (by decide), us_ne (by decide), k8 16 (by decide) (by decide), k8 17 (by decide) (by decide)]; exact hE
    · have hO := h.2.2.2.2.2.1
      show RelO (us V 1 x) V3
      unfold RelO at *
      rw [us_ne (by decide), us_ne (by decide), k8 30 (by decide) (by decide), k8 31 (by decide) (by decide)]; exact hO
  · unfold f_X7_truncateInput
    rw [ck_t hx]
    by_cases c2 : x < 0
    · rw [if_pos c2]
    · rw [if_neg c2, i1, ck_t ⟨by omega, by omega⟩, if_neg (by omega)]
theorem ag_outputByte {V X : Sz} {V8 : Sz} (hO : RelO V V8) {x : Int} (hx : rng x) : TT (f_X8_outputByte V8 x) (AskO (f_X7_outputByte V X x) V8) := by
  obtain ⟨o1, o2, o3⟩ := hO
  unfold f_X8_outputByte
  refine tt_nmE (fun V1 e1 => ?_)
  have hT : Thr V8 V1 0 := by rw [e1]; exact Thr.zero V8 0
  have e31 : V1 31 0 = V8 31 0 := by rw [hT.2 31 (by decide)]
  rw [e31]
  refine rg_f hx ⟨by decide, by decide⟩ ⟨by omega, by omega⟩ (fun c => tt_ck ⟨by omega, by omega⟩ (tt_some (asko_t ?_ hT))) (fun c => tt_some (asko_t ?_ hT))
  · unfold f_X7_outputByte
    rw [ck_t hx, if_neg (by omega), o1, ck_t ⟨by omega, by omega⟩, if_pos (by omega), ck_t ⟨by omega, by omega⟩, hT.2 30 (by decide), (o3 x.toNat (by omega)).1]
  · unfold f_X7_outputByte
    rw [ck_t hx]
    by_cases c2 : x < 0
    · rw [if_pos c2]
    · rw [if_neg c2, o1, ck_t ⟨by omega, by omega⟩, if_neg (by omega)]
theorem ag_errorCode {V X : Sz} {V8 : Sz} (hE : RelE V V8) : TT (f_X8_errorCode V8) (AskO (f_X7_errorCode V X) V8) := by
  unfold f_X8_errorCode
  refine tt_nmE (fun V1 e1 => tt_some (asko_t (z := 0) ?_ (by rw [e1]; exact Thr.zero V8 0)))
  unfold f_X7_errorCode
  rw [e1, us_ne (by decide), hE.1.1]
theorem ag_errorOffset {V X : Sz} {V8 : Sz} (hE : RelE V V8) : TT (f_X8_errorOffset V8) (AskO (f_X7_errorOffset V X) V8) := by
  unfold f_X8_errorOffset
  refine tt_nmE (fun V1 e1 => tt_some (asko_t (z := 0) ?_ (by rw [e1]; exact Thr.zero V8 0)))
  unfold f_X7_errorOffset
  rw [e1, us_ne (by decide), hE.2.1]
