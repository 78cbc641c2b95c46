/-! samples -/
def okB (w : Rw) (p : Int) : Bool := partB w p && decide (0 < wPc w p)
def okN (w : Rw) (q : Nat) : Int := sumN (fun p => if okB w p = true then 1 else 0) q
/-- the claimed parts among the first q slots, in their order -/
def okL (w : Rw) : Nat → (Nat → Int)
  | 0 => fun _ => 0
  | q + 1 => if okB w (q : Int) = true then up (okL w q) (okN w q).toNat (q : Int) else okL w q
theorem okN_bd (w : Rw) (q : Nat) : 0 ≤ okN w q ∧ okN w q ≤ q := by
  have h1 := sumN_le (f := fun p => if okB w p = true then 1 else 0) (c := 1) (n := q) (fun p p0 p1 => by show (if _ then _ else _) ≤ (1 : Int); split <;> decide)
  have h2 := sumN_nonneg (f := fun p => if okB w p = true then 1 else 0) (n := q) (fun p p0 p1 => by show (0 : Int) ≤ (if _ then _ else _); split <;> decide)
  unfold okN
  omega
theorem ok_out {w : Rw} {p : Int} (h : w 2 * 3 ≤ p) : okB w p = false := by
  unfold okB partB
  rw [decide_eq_false (show ¬ p / 3 < w 2 by omega), Bool.and_false]; rfl
theorem okN_cut {w : Rw} : ∀ (k q : Nat), w 2 * 3 ≤ (q : Int) → okN w (q + k) = okN w q ∧ okL w (q + k) = okL w q := by
  intro k
  induction k with
  | zero => intro q _; exact ⟨rfl, rfl⟩
  | succ k ih =>
    intro q hq
    obtain ⟨h1, h2⟩ := ih q hq
    have hz : okB w ((q + k : Nat) : Int) = false := ok_out (by omega)
    constructor
    · rw [← Nat.add_assoc]
      have : okN w (q + k + 1) = okN w (q + k) + (if okB w ((q + k : Nat) : Int) = true then 1 else 0) := rfl
      rw [this, hz, h1, if_neg (by decide)]; omega
    · rw [← Nat.add_assoc]
      have : okL w (q + k + 1) = if okB w ((q + k : Nat) : Int) = true then up (okL w (q + k)) (okN w (q + k)).toNat ((q + k : Nat) : Int) else okL w (q + k) := rfl
      rw [this, hz, h2]; rfl
/-- each of them is a claimed part -/
def OkS (w : Rw) (p : Int) : Prop := (0 ≤ p ∧ p < w 2 * 3) ∧ partB w p = true ∧ 0 < wPc w p
theorem okS_of {w : Rw} {p : Int} (p0 : 0 ≤ p) (h : okB w p = true) : OkS w p := by
  unfold okB at h
  rw [Bool.and_eq_true] at h
  have hs := part_split p0 h.1
  exact ⟨⟨p0, by omega⟩, h.1, of_decide_eq_true h.2⟩
theorem okL_in {w : Rw} : ∀ (q : Nat) (i : Nat), (i : Int) < okN w q → OkS w (okL w q i) := by
  intro q
  induction q with
  | zero => intro i hi; have : okN w 0 = 0 := rfl; omega
  | succ q ih =>
    intro i hi
    have e1 : okN w (q + 1) = okN w q + (if okB w (q : Int) = true then 1 else 0) := rfl
    have e2 : okL w (q + 1) = if okB w (q : Int) = true then up (okL w q) (okN w q).toNat (q : Int) else okL w q := rfl
    have hb := okN_bd w q
    rw [e2]
    by_cases c : okB w (q : Int) = true
    · rw [if_pos c] at e1 ⊢
      rw [up_if]
      split
      · exact okS_of (by omega) c
      · exact ih i (by omega)
    · rw [if_neg c] at e1 ⊢
      exact ih i (by omega)
/-- the state of a drawing, on both sides -/
def DrR (w : Rw) (Vc Vm : Sz) : Prop := (Vc 1 0 = Vm 29 0 ∧ 0 ≤ Vm 29 0 ∧ Vm 29 0 ≤ 60) ∧ (Vc 3 0 = Vm 27 0 ∧ 0 ≤ Vm 27 0 ∧ Vm 27 0 ≤ 180) ∧ (∀ i : Nat, (i : Int) < Vm 29 0 → Vc 0 i = Vm 28 i ∧ OkS w (Vm 28 i)) ∧ ∀ i : Nat, (i : Int) < Vm 27 0 → Vc 2 i = Vm 26 i ∧ OkS w (Vm 26 i)
theorem c2_drop {V0 : Sz} {at_ m : Int} (h3 : V0 3 0 = m) (hm : 1 ≤ m ∧ m ≤ 180) (ha : 0 ≤ at_ ∧ at_ < m) {n : Nat} (hn : 1000 ≤ n) : TT (f_X2_dropFromPool n V0 at_) (fun V => V 3 0 = m - 1 ∧ V 0 = V0 0 ∧ V 1 = V0 1 ∧ ∀ i : Nat, V 2 i = if at_ ≤ (i : Int) ∧ (i : Int) < m - 1 then V0 2 (i + 1) else V0 2 i) := by
  unfold f_X2_dropFromPool
  rw [h3]
  refine tt_nmE (fun V1 e1 => ?_)
  refine tt_lp (I := fun z : Int × Sz => (at_ ≤ z.1 ∧ z.1 ≤ m - 1) ∧ z.2 3 0 = m - 1 ∧ z.2 0 = V0 0 ∧ z.2 1 = V0 1 ∧ ∀ i : Nat, z.2 2 i = if at_ ≤ (i : Int) ∧ (i : Int) < z.1 then V0 2 (i + 1) else V0 2 i) (μ := fun z => (m - 1 - z.1).toNat) ?_ n (at_, V1) ⟨⟨Int.le_refl _, by show at_ ≤ m - 1; omega⟩, by show V1 3 0 = m - 1; rw [e1, us_at], by show V1 0 = V0 0; rw [e1, us_ne (by decide)], by show V1 1 = V0 1; rw [e1, us_ne (by decide)], fun i => by show V1 2 i = if at_ ≤ (i : Int) ∧ (i : Int) < at_ then V0 2 (i + 1) else V0 2 i; rw [if_neg (by omega), e1, us_ne (by decide)]⟩ (by show (m - 1 - at_).toNat < n; omega)
  rintro ⟨k, V⟩ rec ⟨⟨k0, k1⟩, v3, v0, v1, hT⟩ ih
  simp only at k0 k1 v3 v0 v1 hT
  rw [bX2_dropFromPool_12_e, v3]
  refine tt_ck ⟨⟨by omega, by omega⟩, ⟨by omega, by omega⟩⟩ (tt_ite (fun c => tt_some ⟨v3, v0, v1, ?_⟩) (fun c => tt_ck ⟨by omega, by omega⟩ (tt_ck ⟨by omega, by omega⟩ (tt_nm (tt_nm (ih (k + 1, uz V 2 k.toNat (V 2 (k + 1).toNat)) ⟨⟨by show at_ ≤ k + 1; omega, by show k + 1 ≤ m - 1; omega⟩, ?_, ?_, ?_, fun i => ?_⟩ (by show (m - 1 - (k + 1)).toNat < (m - 1 - k).toNat; omega)))))))
  · rw [show k = m - 1 by omega] at hT; exact hT
  · show uz V 2 k.toNat (V 2 (k + 1).toNat) 3 0 = m - 1
    rw [uz_ne (by decide)]; exact v3
  · show uz V 2 k.toNat (V 2 (k + 1).toNat) 0 = V0 0
    rw [uz_ne (by decide)]; exact v0
  · show uz V 2 k.toNat (V 2 (k + 1).toNat) 1 = V0 1
    rw [uz_ne (by decide)]; exact v1
  · show uz V 2 k.toNat (V 2 (k + 1).toNat) 2 i = if at_ ≤ (i : Int) ∧ (i : Int) < k + 1 then V0 2 (i + 1) else V0 2 i
    rw [uz_at, up_if]
    by_cases e : i = k.toNat
    · rw [if_pos e, hT, if_neg (by omega), if_pos (by omega), show (k + 1).toNat = i + 1 by omega]
    · rw [if_neg e, hT]
      by_cases e2 : at_ ≤ (i : Int) ∧ (i : Int) < k
      · rw [if_pos e2, if_pos (by omega)]
      · rw [if_neg e2, if_neg (by omega)]
theorem c2_fillPool {V : Sz} {w : Rw} (h : LR (sv 4 V) w) (V0 : Sz) {n : Nat} (hn : 1000 ≤ n) : TT (f_X2_fillPool n V0 (sv 13 V)) (fun V1 => V1 3 0 = okN w 180 ∧ ∀ i : Nat, (i : Int) < okN w 180 → V1 2 i = okL w 180 i) := by
  have hw := h.2.2.1
  have a2 := hw.2.1.2.2.1
  have ecut := okN_cut (w := w) (180 - (w 2 * 3).toNat) (w 2 * 3).toNat (by omega)
  rw [show (w 2 * 3).toNat + (180 - (w 2 * 3).toNat) = 180 by omega] at ecut
  unfold f_X2_fillPool
  refine tt_nmE (fun V1 e1 => ?_)
  refine tt_lp (I := fun z : Int × Sz => (0 ≤ z.1 ∧ z.1 ≤ w 2 * 3) ∧ z.2 3 0 = okN w z.1.toNat ∧ ∀ i : Nat, (i : Int) < okN w z.1.toNat → z.2 2 i = okL w z.1.toNat i) (μ := fun z => (w 2 * 3 - z.1).toNat) ?_ n (0, V1) ⟨⟨Int.le_refl _, by show 0 ≤ w 2 * 3; omega⟩, by show V1 3 0 = 0; rw [e1, us_at], fun i hi => absurd hi (by show ¬ (i : Int) < 0; omega)⟩ (by show (w 2 * 3 - (0 : Int)).toNat < n; omega)
  rintro ⟨p, V2⟩ rec ⟨⟨p0, p1⟩, v3, hT⟩ ih
  simp only at p0 p1 v3 hT
  have hb := okN_bd w p.toNat
  rw [bX2_fillPool_7_e, show f_X3_slotCount (sv 13 V) = some (w 2 * 3) from slots_at h.1, bd_s]
  have en : okN w (p + 1).toNat = okN w p.toNat + (if okB w p = true then 1 else 0) := by
    rw [show (p + 1).toNat = p.toNat + 1 by omega]
    show okN w p.toNat + (if okB w ((p.toNat : Nat) : Int) = true then 1 else 0) = _
    rw [show ((p.toNat : Nat) : Int) = p by omega]
  have el : okL w (p + 1).toNat = if okB w p = true then up (okL w p.toNat) (okN w p.toNat).toNat p else okL w p.toNat := by
    rw [show (p + 1).toNat = p.toNat + 1 by omega]
    show (if okB w ((p.toNat : Nat) : Int) = true then up (okL w p.toNat) (okN w p.toNat).toNat ((p.toNat : Nat) : Int) else okL w p.toNat) = _
    rw [show ((p.toNat : Nat) : Int) = p by omega]
  refine tt_ck ⟨⟨by omega, by omega⟩, ⟨by omega, by omega⟩⟩ (tt_ite (fun c => tt_some ?_) (fun c => ?_))
  · rw [show p = w 2 * 3 by omega] at v3 hT
    rw [ecut.1, ecut.2]
    exact ⟨v3, hT⟩
  have skip : okB w p = false → TT (jX2_fillPool_52 n (sv 13 V) rec p V2) (fun V1 => V1 3 0 = okN w 180 ∧ ∀ i : Nat, (i : Int) < okN w 180 → V1 2 i = okL w 180 i) := by
    intro q
    rw [q] at en el
    rw [if_neg (by decide)] at en el
    unfold jX2_fillPool_52
    refine tt_nm (ih (p + 1, V2) ⟨⟨by show 0 ≤ p + 1; omega, by show p + 1 ≤ w 2 * 3; omega⟩, by show V2 3 0 = okN w (p + 1).toNat; rw [en, v3]; omega, fun i hi => ?_⟩ (by show (w 2 * 3 - (p + 1)).toNat < (w 2 * 3 - p).toNat; omega))
    have hi : (i : Int) < okN w (p + 1).toNat := hi
    show V2 2 i = okL w (p + 1).toNat i
    rw [el]; exact hT i (by omega)
  rw [show f_X3_isPart (sv 13 V) p = some (partB w p) from c3_isPart (V := sv 4 V) h.1 hw p0 (by omega), bd_s]
  refine tt_ite (fun c2 => skip (by unfold okB; rw [c2]; rfl)) (fun c2 => ?_)
  have hpb := eq_true_of_ne_false c2
  have hcb := wPc_bd hw p0 hpb
  have e11 : sv 13 V 11 p.toNat = wPc w p := (h.1.2.2.2.2.1 p p0 (by omega) hpb).2.2.2
  rw [e11]
  refine tt_ck ⟨p0, by omega⟩ (tt_ck ⟨by omega, by omega⟩ (tt_ite (fun c3 => skip (by unfold okB; rw [decide_eq_false (show ¬ 0 < wPc w p by omega), Bool.and_false])) (fun c3 => ?_)))
  have hok : okB w p = true := by unfold okB; rw [hpb, decide_eq_true (show 0 < wPc w p by omega)]; rfl
  rw [v3]
  refine tt_ck ⟨by omega, by omega⟩ (tt_nmE (fun V9 e9 => tt_nmE (fun V10 e10 => ?_)))
  rw [hok] at en el
  rw [if_pos rfl] at en el
  unfold jX2_fillPool_52
  refine tt_nm (ih (p + 1, V10) ⟨⟨by show 0 ≤ p + 1; omega, by show p + 1 ≤ w 2 * 3; omega⟩, by show V10 3 0 = okN w (p + 1).toNat; rw [en, e10, us_at, e9, uz_ne (by decide), v3], fun i hi => ?_⟩ (by show (w 2 * 3 - (p + 1)).toNat < (w 2 * 3 - p).toNat; omega))
  have hi : (i : Int) < okN w (p + 1).toNat := hi
  show V10 2 i = okL w (p + 1).toNat i
  rw [el, e10, us_ne (by decide), e9, uz_at, up_if, up_if]
  by_cases e : i = (okN w p.toNat).toNat
  · rw [if_pos e, if_pos e]
  · rw [if_neg e, if_neg e]; exact hT i (by omega)
theorem draw_both {V : Sz} {V8 V2 : Sz} (h : LR (sv 4 V) (V8 0)) (hT : Thr V8 V2 0) (V0 : Sz) {n : Nat} (hn : 20000 < n) {size seed : Int} (hs : 1 ≤ size ∧ size ≤ 60) : TT (f_X8_draws n V2 size seed) (fun Vm => (∀ k : Nat, k < 10 ∨ (13 < k ∧ k < 26) ∨ 29 < k → Vm k = V2 k) ∧ (∀ p : Int, 0 ≤ p → partB (V8 0) p = true → Vm 12 p.toNat = aidS (V8 0) p) ∧ ∃ Vc, f_X2_draw n V0 (sv 13 V) size seed = some Vc ∧ DrR (V8 0) Vc Vm) := by
  have hw := h.2.2.1
  have a2 := hw.2.1.2.2.1
  obtain ⟨w, hw0⟩ : ∃ w, w = V8 0 := ⟨_, rfl⟩
  obtain ⟨Vf, ef, f3, f2⟩ := c2_fillPool h V0 (n := n) (by omega)
  have hdraw : f_X2_draw n V0 (sv 13 V) size seed = lpF (bX2_draw_13 n (sv 13 V) size seed) n (seed, us Vf 1 0) := by
    unfold f_X2_draw
    rw [ef, bd_s, nm_s]
  rw [hdraw]
  unfold f_X8_draws
  refine tt_bd (aid_of hw hT (by omega)) (fun V1 ⟨hA, e0, hp⟩ => tt_nmE (fun Vb eb => ?_))
  rw [← hw0] at h hw a2 f3 f2 e0 hp ⊢
  have kb : ∀ k : Nat, k ≠ 27 → Vb k = V1 k := fun k hk => by rw [eb, us_ne hk]
  refine tt_lp (I := fun z : Int × Sz => (0 ≤ z.1 ∧ z.1 ≤ 180) ∧ (∀ k : Nat, k ≠ 26 → k ≠ 27 → z.2 k = V1 k) ∧ z.2 27 0 = okN w z.1.toNat ∧ ∀ i : Nat, (i : Int) < okN w z.1.toNat → z.2 26 i = okL w z.1.toNat i) (μ := fun z => (180 - z.1).toNat) ?_ n (0, Vb) ⟨⟨Int.le_refl _, by show (0 : Int) ≤ 180; decide⟩, fun k _ k27 => kb k k27, by show Vb 27 0 = 0; rw [eb, us_at], fun i hi => absurd hi (by show ¬ (i : Int) < 0; omega)⟩ (by show (180 - (0 : Int)).toNat < n; omega)
  rintro ⟨p, Vd⟩ rec11 ⟨⟨p0, p1⟩, hk, v27, hL⟩ ih11
  simp only at p0 p1 hk v27 hL
  have hb := okN_bd w p.toNat
  have en : okN w (p + 1).toNat = okN w p.toNat + (if okB w p = true then 1 else 0) := by
    rw [show (p + 1).toNat = p.toNat + 1 by omega]
    show okN w p.toNat + (if okB w ((p.toNat : Nat) : Int) = true then 1 else 0) = _
    rw [show ((p.toNat : Nat) : Int) = p by omega]
  have el : okL w (p + 1).toNat = if okB w p = true then up (okL w p.toNat) (okN w p.toNat).toNat p else okL w p.toNat := by
    rw [show (p + 1).toNat = p.toNat + 1 by omega]
    show (if okB w ((p.toNat : Nat) : Int) = true then up (okL w p.toNat) (okN w p.toNat).toNat ((p.toNat : Nat) : Int) else okL w p.toNat) = _
    rw [show ((p.toNat : Nat) : Int) = p by omega]
  have ed0 : Vd 0 = w := (hk 0 (by decide) (by decide)).trans e0
  rw [bX8_draws_11_e]
  refine tt_ck ⟨by omega, by omega⟩ (tt_ite (fun c => tt_nmE (fun V4 e4 => ?_)) (fun c => ?_))
  · -- the drawing itself
    have ep : p.toNat = 180 := by omega
    rw [ep] at v27 hL hb
    have hR0 : DrR w (us Vf 1 0) V4 := by
      have x27 : V4 27 0 = okN w 180 := by rw [e4, us_ne (by decide), v27]
      have x29 : V4 29 0 = 0 := by rw [e4, us_at]
      refine ⟨⟨by rw [us_at, x29], by omega, by omega⟩, ⟨by rw [us_ne (by decide), f3, x27], by omega, by omega⟩, fun i hi => by omega, fun i hi => ?_⟩
      rw [x27] at hi
      have x26 : V4 26 i = okL w 180 i := by rw [e4, us_ne (by decide)]; exact hL i hi
      rw [us_ne (by decide), x26, f2 i hi]
      exact ⟨rfl, okL_in 180 i hi⟩
    have hk4 : ∀ k : Nat, k < 26 ∨ 29 < k → V4 k = V1 k := fun k hk2 => by rw [e4, us_ne (by omega)]; exact hk k (by omega) (by omega)
    refine tt_lp (I := fun z : Int × Sz => (∀ k : Nat, k < 26 ∨ 29 < k → z.2 k = V1 k) ∧ z.2 29 0 ≤ size ∧ ∃ (m : Nat) (Vc : Sz), lpF (bX2_draw_13 n (sv 13 V) size seed) n (seed, us Vf 1 0) = lpF (bX2_draw_13 n (sv 13 V) size seed) m (z.1, Vc) ∧ (size - z.2 29 0).toNat < m ∧ DrR w Vc z.2) (μ := fun z => (size - z.2 29 0).toNat) ?_ n (seed, V4) ⟨hk4, by show V4 29 0 ≤ size; rw [e4, us_at]; omega, n, _, rfl, by show (size - V4 29 0).toNat < n; rw [e4, us_at]; omega, hR0⟩ (by show (size - V4 29 0).toNat < n; rw [e4, us_at]; omega)
    rintro ⟨x, Ve⟩ rec75 ⟨hke, hle, m, Vc, hres, hm, hR⟩ ih75
    simp only at hke hle hres hm hR
    obtain ⟨⟨r1, r2, r3⟩, ⟨s1, s2, s3⟩, rd, rp⟩ := id hR
    obtain ⟨m', rfl⟩ : ∃ m', m = m' + 1 := ⟨m - 1, by omega⟩
    have hstep : lpF (bX2_draw_13 n (sv 13 V) size seed) (m' + 1) (x, Vc) = bX2_draw_13 n (sv 13 V) size seed (lpF (bX2_draw_13 n (sv 13 V) size seed) m') (x, Vc) := rfl
    rw [hstep, bX2_draw_13_e, r1, s1, ck_t ⟨⟨by omega, by omega⟩, ⟨by omega, by omega⟩⟩] at hres
    have done : lpF (bX2_draw_13 n (sv 13 V) size seed) n (seed, us Vf 1 0) = some Vc → TT (some Ve) (fun Vm => (∀ k : Nat, k < 10 ∨ (13 < k ∧ k < 26) ∨ 29 < k → Vm k = V2 k) ∧ (∀ p : Int, 0 ≤ p → partB w p = true → Vm 12 p.toNat = aidS w p) ∧ ∃ Vc, lpF (bX2_draw_13 n (sv 13 V) size seed) n (seed, us Vf 1 0) = some Vc ∧ DrR w Vc Vm) := by
      intro q
      refine tt_some ⟨fun k hk2 => ?_, fun p p0 hpb => ?_, Vc, q, hR⟩
      · rw [hke k (by omega)]
        exact hA.1 k (by omega) (by omega) (by omega) (by omega)
      · rw [hke 12 (by decide)]; exact (hp p p0 hpb).2
    rw [bX8_draws_75_e]
    refine tt_ck ⟨⟨by omega, by omega⟩, ⟨by omega, by omega⟩⟩ (tt_ite (fun c1 => done ?_) (fun c1 => tt_ck ⟨by omega, by omega⟩ (tt_ite (fun c2 => done ?_) (fun c2 => ?_))))
    · rw [hres, if_pos c1]
    · rw [hres, if_neg c1]
      by_cases c60 : 60 ≤ Ve 29 0
      · rw [if_pos c60]
      · rw [if_neg c60, ck_t ⟨by omega, by omega⟩, if_pos c2]
    · rw [if_neg c1, if_neg (by omega), ck_t ⟨by omega, by omega⟩, if_neg c2] at hres
      refine tt_nmE (fun x7 ex7 => ?_)
      rw [← ex7] at hres
      rw [nm_s] at hres
      have hx7 : 0 ≤ x7 ∧ x7 < 2147483648 := by omega
      have hdv : dvI (x7 / 65536) (Ve 27 0) := ⟨by omega, by omega, by omega, by omega⟩
      refine tt_ck hx7 (tt_ck hdv (tt_nmE (fun at_ eat => ?_)))
      have hat0 := Int.emod_nonneg (x7 / 65536) (show Ve 27 0 ≠ 0 by omega)
      have hat1 := Int.emod_lt_of_pos (x7 / 65536) (show 0 < Ve 27 0 by omega)
      rw [← eat] at hat0 hat1
      rw [ck_t hx7, ck_t hdv, ← eat, nm_s, ck_t ⟨by omega, by omega⟩, ck_t ⟨by omega, by omega⟩, nm_s, nm_s] at hres
      refine tt_ck ⟨by omega, by omega⟩ (tt_ck ⟨by omega, by omega⟩ (tt_nmE (fun V13 e13 => tt_nmE (fun V14 e14 => tt_nmE (fun V15 e15 => ?_)))))
      obtain ⟨Va, eVa⟩ : ∃ Va, Va = us (uz Vc 0 (Ve 29 0).toNat (Vc 2 at_.toNat)) 1 (uz Vc 0 (Ve 29 0).toNat (Vc 2 at_.toNat) 1 0 + 1) := ⟨_, rfl⟩
      rw [← eVa] at hres
      have va3 : Va 3 0 = Ve 27 0 := by rw [eVa, us_ne (by decide), uz_ne (by decide), s1]
      obtain ⟨Vg, eg, g3, g0, g1, g2⟩ := c2_drop (V0 := Va) (at_ := at_) va3 ⟨by omega, s3⟩ ⟨hat0, hat1⟩ (n := n) (by omega)
      rw [eg, bd_s] at hres
      have va2 : Va 2 = Vc 2 := by rw [eVa, us_ne (by decide), uz_ne (by decide)]
      have va1 : Va 1 0 = Ve 29 0 + 1 := by rw [eVa, us_at, uz_ne (by decide), r1]
      have va0 : Va 0 = up (Vc 0) (Ve 29 0).toNat (Vc 2 at_.toNat) := by rw [eVa, us_ne (by decide), uz_at]
      have w27 : V15 27 0 = Ve 27 0 - 1 := by rw [e15, us_at, e14, us_ne (by decide), e13, uz_ne (by decide)]
      have w29 : V15 29 0 = Ve 29 0 + 1 := by rw [e15, us_ne (by decide), e14, us_at, e13, uz_ne (by decide)]
      have w28 : V15 28 = up (Ve 28) (Ve 29 0).toNat (Ve 26 at_.toNat) := by rw [e15, us_ne (by decide), e14, us_ne (by decide), e13, uz_at]
      have w26 : V15 26 = Ve 26 := by rw [e15, us_ne (by decide), e14, us_ne (by decide), e13, uz_ne (by decide)]
      have wk : ∀ k : Nat, k < 26 ∨ 29 < k → V15 k = V1 k := fun k hk2 => by rw [e15, us_ne (by omega), e14, us_ne (by omega), e13, uz_ne (by omega)]; exact hke k hk2
      refine tt_lp (I := fun z : Int × Int × Sz => z.1 = x7 ∧ (at_ ≤ z.2.1 ∧ z.2.1 ≤ Ve 27 0 - 1) ∧ (∀ k : Nat, k ≠ 26 → z.2.2 k = V15 k) ∧ ∀ i : Nat, z.2.2 26 i = if at_ ≤ (i : Int) ∧ (i : Int) < z.2.1 then Ve 26 (i + 1) else Ve 26 i) (μ := fun z => (Ve 27 0 - 1 - z.2.1).toNat) ?_ n (x7, at_, V15) ⟨rfl, ⟨Int.le_refl _, by show at_ ≤ Ve 27 0 - 1; omega⟩, fun _ _ => rfl, fun i => by show V15 26 i = if at_ ≤ (i : Int) ∧ (i : Int) < at_ then Ve 26 (i + 1) else Ve 26 i; rw [if_neg (by omega), w26]⟩ (by show (Ve 27 0 - 1 - at_).toNat < n; omega)
      rintro ⟨y3, k, Vh⟩ rec156 ⟨ey, ⟨k0, k1⟩, hkh, hTh⟩ ih156
      simp only at ey k0 k1 hkh hTh
      subst ey
      rw [bX8_draws_156_e, hkh 27 (by decide), w27]
      refine tt_ck ⟨⟨by omega, by omega⟩, ⟨by omega, by omega⟩⟩ (tt_ite (fun c3 => ?_) (fun c3 => tt_ck ⟨by omega, by omega⟩ (tt_ck ⟨by omega, by omega⟩ (tt_nm (tt_nm (ih156 (y3, k + 1, uz Vh 26 k.toNat (Vh 26 (k + 1).toNat)) ⟨rfl, ⟨by show at_ ≤ k + 1; omega, by show k + 1 ≤ Ve 27 0 - 1; omega⟩, fun j hj => ?_, fun i => ?_⟩ (by show (Ve 27 0 - 1 - (k + 1)).toNat < (Ve 27 0 - 1 - k).toNat; omega)))))))
      · have ek : k = Ve 27 0 - 1 := by omega
        rw [ek] at hTh
        have h29 : Vh 29 0 = Ve 29 0 + 1 := by rw [hkh 29 (by decide), w29]
        refine ih75 (y3, Vh) ⟨fun j hj => by show Vh j = V1 j; rw [hkh j (by omega)]; exact wk j hj, by show Vh 29 0 ≤ size; omega, m', Vg, hres, by show (size - Vh 29 0).toNat < m'; omega, ⟨by show Vg 1 0 = Vh 29 0; rw [g1, va1, h29], by show 0 ≤ Vh 29 0; omega, by show Vh 29 0 ≤ 60; omega⟩, ?_, fun i hi => ?_, fun i hi => ?_⟩ (by show (size - Vh 29 0).toNat < (size - Ve 29 0).toNat; omega)
        · show Vg 3 0 = Vh 27 0 ∧ 0 ≤ Vh 27 0 ∧ Vh 27 0 ≤ 180
          rw [g3, hkh 27 (by decide), w27]
          omega
        · have hi : (i : Int) < Vh 29 0 := hi
          show Vg 0 i = Vh 28 i ∧ OkS w (Vh 28 i)
          have hpool := rp at_.toNat (by omega)
          rw [g0, va0, hkh 28 (by decide), w28, up_if, up_if]
          by_cases e : i = (Ve 29 0).toNat
          · rw [if_pos e, if_pos e]; exact hpool
          · rw [if_neg e, if_neg e]; exact rd i (by omega)
        · have hi : (i : Int) < Vh 27 0 := hi
          rw [hkh 27 (by decide), w27] at hi
          show Vg 2 i = Vh 26 i ∧ OkS w (Vh 26 i)
          rw [g2 i, va2, hTh i]
          by_cases e : at_ ≤ (i : Int) ∧ (i : Int) < Ve 27 0 - 1
          · rw [if_pos e, if_pos e]; exact rp (i + 1) (by omega)
          · rw [if_neg e, if_neg e]; exact rp i (by omega)
      · show uz Vh 26 k.toNat (Vh 26 (k + 1).toNat) j = V15 j
        rw [uz_ne hj]; exact hkh j hj
      · show uz Vh 26 k.toNat (Vh 26 (k + 1).toNat) 26 i = if at_ ≤ (i : Int) ∧ (i : Int) < k + 1 then Ve 26 (i + 1) else Ve 26 i
        rw [uz_at, up_if]
        by_cases e : i = k.toNat
        · rw [if_pos e, hTh, if_neg (by omega), if_pos (by omega), show (k + 1).toNat = i + 1 by omega]
        · rw [if_neg e, hTh]
          by_cases e2 : at_ ≤ (i : Int) ∧ (i : Int) < k
          · rw [if_pos e2, if_pos (by omega)]
          · rw [if_neg e2, if_neg (by omega)]
  · have skip : okB w p = false → TT (jX8_draws_62 n size seed rec11 p Vd) (fun Vm => (∀ k : Nat, k < 10 ∨ (13 < k ∧ k < 26) ∨ 29 < k → Vm k = V2 k) ∧ (∀ p : Int, 0 ≤ p → partB w p = true → Vm 12 p.toNat = aidS w p) ∧ ∃ Vc, lpF (bX2_draw_13 n (sv 13 V) size seed) n (seed, us Vf 1 0) = some Vc ∧ DrR w Vc Vm) := by
      intro q
      rw [q] at en el
      rw [if_neg (by decide)] at en el
      unfold jX8_draws_62
      refine tt_nm (ih11 (p + 1, Vd) ⟨⟨by show 0 ≤ p + 1; omega, by show p + 1 ≤ 180; omega⟩, hk, by show Vd 27 0 = okN w (p + 1).toNat; rw [en, v27]; omega, fun i hi => ?_⟩ (by show (180 - (p + 1)).toNat < (180 - p).toNat; omega))
      have hi : (i : Int) < okN w (p + 1).toNat := hi
      show Vd 26 i = okL w (p + 1).toNat i
      rw [el]; exact hL i (by omega)
    rw [x8_isPart (by rw [ed0]; exact hw.1) p0 (by omega), bd_s, ed0]
    refine tt_ite (fun c2 => skip (by unfold okB; rw [c2]; rfl)) (fun c2 => ?_)
    have hpb := eq_true_of_ne_false c2
    have hcb := wPc_bd hw p0 hpb
    have e953 : w (953 + p).toNat = wPc w p := rfl
    rw [e953]
    refine tt_ck ⟨by omega, by omega⟩ (tt_ck ⟨by omega, by omega⟩ (tt_ite (fun c3 => skip (by unfold okB; rw [decide_eq_false (show ¬ 0 < wPc w p by omega), Bool.and_false])) (fun c3 => ?_)))
    have hok : okB w p = true := by unfold okB; rw [hpb, decide_eq_true (show 0 < wPc w p by omega)]; rfl
    rw [v27]
    refine tt_ck ⟨by omega, by omega⟩ (tt_nmE (fun V9 e9 => tt_nmE (fun V10 e10 => ?_)))
    rw [hok] at en el
    rw [if_pos rfl] at en el
    unfold jX8_draws_62
    refine tt_nm (ih11 (p + 1, V10) ⟨⟨by show 0 ≤ p + 1; omega, by show p + 1 ≤ 180; omega⟩, fun k k26 k27 => by show V10 k = V1 k; rw [e10, us_ne k27, e9, uz_ne k26]; exact hk k k26 k27, by show V10 27 0 = okN w (p + 1).toNat; rw [en, e10, us_at, e9, uz_ne (by decide), v27], fun i hi => ?_⟩ (by show (180 - (p + 1)).toNat < (180 - p).toNat; omega))
    have hi : (i : Int) < okN w (p + 1).toNat := hi
    show V10 26 i = okL w (p + 1).toNat i
    rw [el, e10, us_ne (by decide), e9, uz_at, up_if, up_if]
    by_cases e : i = (okN w p.toNat).toNat
    · rw [if_pos e, if_pos e]
    · rw [if_neg e, if_neg e]; exact hL i (by omega)
