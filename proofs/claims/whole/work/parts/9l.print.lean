/-! printing -/
def pw : Nat → Int
  | 0 => 1
  | k + 1 => 10 * pw k
abbrev Ob : Type := (Nat → Int) × Int
def pb (b : Int) (s : Ob) : Ob := (up s.1 s.2.toNat b, s.2 + 1)
def stD (v u : Int) (s : Ob) : Ob := if u = 1 ∨ u ≤ v then pb (48 + v / u % 10) s else s
def FS (v : Int) : Nat → Ob → Ob
  | 0, s => stD v 1 s
  | k + 1, s => FS v k (stD v (pw (k + 1)) s)
theorem pw_pos : ∀ k : Nat, 1 ≤ pw k := by
  intro k
  induction k with
  | zero => decide
  | succ k ih => show 1 ≤ 10 * pw k; omega
theorem pw_le : ∀ k : Nat, k ≤ 5 → pw k ≤ 100000 := by
  intro k hk
  have h : k = 0 ∨ k = 1 ∨ k = 2 ∨ k = 3 ∨ k = 4 ∨ k = 5 := by omega
  rcases h with e | e | e | e | e | e <;> subst e <;> decide
theorem stD_len (v u : Int) (s : Ob) : s.2 ≤ (stD v u s).2 ∧ (stD v u s).2 ≤ s.2 + 1 := by
  unfold stD
  split
  · show s.2 ≤ s.2 + 1 ∧ s.2 + 1 ≤ s.2 + 1; omega
  · omega
theorem FS_len (v : Int) : ∀ (k : Nat) (s : Ob), s.2 ≤ (FS v k s).2 ∧ (FS v k s).2 ≤ s.2 + (k : Int) + 1 := by
  intro k
  induction k with
  | zero => intro s; have := stD_len v 1 s; show s.2 ≤ (stD v 1 s).2 ∧ _; show _ ∧ (stD v 1 s).2 ≤ _; omega
  | succ k ih =>
    intro s
    have h1 := stD_len v (pw (k + 1)) s
    have h2 := ih (stD v (pw (k + 1)) s)
    show s.2 ≤ (FS v k (stD v (pw (k + 1)) s)).2 ∧ (FS v k (stD v (pw (k + 1)) s)).2 ≤ _
    omega
/-- units that are too great write nothing -/
theorem FS_skip {v : Int} {k : Nat} (h : v < pw (k + 1)) (s : Ob) : FS v (k + 1) s = FS v k s := by
  have hp := pw_pos k
  have e : stD v (pw (k + 1)) s = s := by
    unfold stD
    refine if_neg (fun q => ?_)
    have : pw (k + 1) = 10 * pw k := rfl
    omega
  show FS v k (stD v (pw (k + 1)) s) = _
  rw [e]
theorem FS_top {v : Int} : ∀ (m k : Nat), v < pw (k + 1) → ∀ s : Ob, FS v (k + m) s = FS v k s := by
  intro m
  induction m with
  | zero => intro k _ s; rfl
  | succ m ih =>
    intro k h s
    have hge : ∀ j : Nat, pw k ≤ pw (k + j) := by
      intro j
      induction j with
      | zero => exact Int.le_refl _
      | succ j ihj => have := pw_pos (k + j); show pw k ≤ 10 * pw (k + j); omega
    have h1 : v < pw (k + m + 1) := by
      have := hge m
      show v < 10 * pw (k + m)
      have : pw (k + 1) = 10 * pw k := rfl
      omega
    rw [← Nat.add_assoc, FS_skip h1, ih k h]
def lineS (w : Rw) (p : Int) (s : Ob) : Ob := pb 10 (FS (aidS w p) 5 (pb 43 (FS (leftS w p) 5 (pb 58 (FS (wDay w (p / 3)) 5 s)))))
def lnB (w : Rw) (d p : Int) : Bool := partB w p && decide (wPd w p = d)
def outS (w : Rw) (d : Int) (s : Ob) : Nat → Ob
  | 0 => s
  | q + 1 => if lnB w d (q : Int) = true then lineS w (q : Int) (outS w d s q) else outS w d s q
theorem out_cut {w : Rw} {d : Int} {s : Ob} : ∀ (k q : Nat), w 2 * 3 ≤ (q : Int) → outS w d s (q + k) = outS w d s q := by
  intro k
  induction k with
  | zero => intro q _; rfl
  | succ k ih =>
    intro q hq
    have hz : lnB w d ((q + k : Nat) : Int) = false := by
      unfold lnB partB
      rw [decide_eq_false (show ¬ ((q + k : Nat) : Int) / 3 < w 2 by omega), Bool.and_false]; rfl
    rw [← Nat.add_assoc]
    show (if lnB w d ((q + k : Nat) : Int) = true then _ else outS w d s (q + k)) = _
    rw [hz, if_neg (by decide), ih q hq]
/-- the output's length: a line a gift -/
theorem line_len {w : Rw} (hw : WF w) {p : Int} (p0 : 0 ≤ p) (hb : partB w p = true) (s : Ob) : s.2 ≤ (lineS w p s).2 ∧ (lineS w p s).2 ≤ s.2 + 19 := by
  have hs := part_split p0 hb
  have hgw := hw.2.2.2.2.1 _ hs.1 hs.2.1
  have ed : FS (wDay w (p / 3)) 5 s = FS (wDay w (p / 3)) 3 s := FS_top 2 3 (by show wDay w (p / 3) < 10000; omega) s
  have h1 := FS_len (wDay w (p / 3)) 3 s
  rw [← ed] at h1
  have h2 := FS_len (leftS w p) 5 (pb 58 (FS (wDay w (p / 3)) 5 s))
  have h3 := FS_len (aidS w p) 5 (pb 43 (FS (leftS w p) 5 (pb 58 (FS (wDay w (p / 3)) 5 s))))
  have e1 : (pb 58 (FS (wDay w (p / 3)) 5 s)).2 = (FS (wDay w (p / 3)) 5 s).2 + 1 := rfl
  have e2 : (pb 43 (FS (leftS w p) 5 (pb 58 (FS (wDay w (p / 3)) 5 s)))).2 = (FS (leftS w p) 5 (pb 58 (FS (wDay w (p / 3)) 5 s))).2 + 1 := rfl
  have e3 : (lineS w p s).2 = (FS (aidS w p) 5 (pb 43 (FS (leftS w p) 5 (pb 58 (FS (wDay w (p / 3)) 5 s))))).2 + 1 := rfl
  omega
theorem out_len {w : Rw} (hw : WF w) {d : Int} {s : Ob} (hs : s.2 = 0) : ∀ q : Nat, 0 ≤ (outS w d s q).2 ∧ (outS w d s q).2 ≤ 19 * ((q : Int) / 3) + 19 ∧ ((∀ j : Int, (q : Int) / 3 * 3 ≤ j → j < (q : Int) → lnB w d j = false) → (outS w d s q).2 ≤ 19 * ((q : Int) / 3)) := by
  intro q
  induction q with
  | zero => show 0 ≤ s.2 ∧ s.2 ≤ _ ∧ (_ → s.2 ≤ _); omega
  | succ q ih =>
    obtain ⟨h0, h1, h2⟩ := ih
    have e : outS w d s (q + 1) = if lnB w d (q : Int) = true then lineS w (q : Int) (outS w d s q) else outS w d s q := rfl
    rw [e]
    by_cases c : lnB w d (q : Int) = true
    · rw [if_pos c]
      have c' := c
      unfold lnB at c'
      rw [Bool.and_eq_true] at c'
      have hl := line_len hw (show 0 ≤ (q : Int) by omega) c'.1 (outS w d s q)
      have hsp := part_split (show 0 ≤ (q : Int) by omega) c'.1
      have hd : wPd w (q : Int) = d := of_decide_eq_true c'.2
      -- no earlier part of the gift is the donor's
      have hno : ∀ j : Int, (q : Int) / 3 * 3 ≤ j → j < (q : Int) → lnB w d j = false := by
        intro j j0 j1
        cases hj : lnB w d j with
        | false => rfl
        | true =>
          unfold lnB at hj
          rw [Bool.and_eq_true] at hj
          have hsj := part_split (show 0 ≤ j by omega) hj.1
          have hdj : wPd w j = d := of_decide_eq_true hj.2
          have hx := hw.2.2.2.2.2.2.1 ((q : Int) / 3) (j % 3) ((q : Int) % 3) hsp.1 hsp.2.1 (by omega) (by omega) hsp.2.2.2.1
          rw [show 3 * ((q : Int) / 3) + j % 3 = j by omega, hsp.2.2.2.2] at hx
          exact (hx (hdj.trans hd.symm)).elim
      have h3 := h2 hno
      refine ⟨by omega, by omega, fun hq => ?_⟩
      by_cases e3 : ((q : Int) + 1) % 3 = 0
      · omega
      · have := hq (q : Int) (by omega) (by omega)
        rw [c] at this; exact Bool.noConfusion this
    · rw [if_neg c]
      refine ⟨h0, by omega, fun hq => ?_⟩
      by_cases e3 : ((q : Int) + 1) % 3 = 0
      · omega
      · have := h2 (fun j j0 j1 => hq j (by omega) (by omega))
        omega
theorem out_room {w : Rw} (hw : WF w) {d : Int} {s : Ob} (hs : s.2 = 0) {q : Nat} (hq : (q : Int) < 180) (c : lnB w d (q : Int) = true) : 0 ≤ (outS w d s q).2 ∧ (outS w d s q).2 ≤ 1121 := by
  have h := out_len hw (d := d) hs q
  have c' := c
  unfold lnB at c'
  rw [Bool.and_eq_true] at c'
  have hsp := part_split (show 0 ≤ (q : Int) by omega) c'.1
  have hd : wPd w (q : Int) = d := of_decide_eq_true c'.2
  have := h.2.2 (by
    intro j j0 j1
    cases hj : lnB w d j with
    | false => rfl
    | true =>
      unfold lnB at hj
      rw [Bool.and_eq_true] at hj
      have hdj : wPd w j = d := of_decide_eq_true hj.2
      have hx := hw.2.2.2.2.2.2.1 ((q : Int) / 3) (j % 3) ((q : Int) % 3) hsp.1 hsp.2.1 (by omega) (by omega) hsp.2.2.2.1
      rw [show 3 * ((q : Int) / 3) + j % 3 = j by omega, hsp.2.2.2.2] at hx
      exact (hx (hdj.trans hd.symm)).elim)
  omega
/-- outputs that agree, as far as they go -/
def AgO (s t : Ob) : Prop := (s.2 = t.2 ∧ 0 ≤ t.2) ∧ ∀ i : Nat, (i : Int) < t.2 → s.1 i = t.1 i ∧ 0 ≤ t.1 i ∧ t.1 i ≤ 127
theorem ago_pb {s t : Ob} (h : AgO s t) {b : Int} (b0 : 0 ≤ b) (b1 : b ≤ 127) : AgO (pb b s) (pb b t) := by
  obtain ⟨⟨h1, h2⟩, h3⟩ := h
  refine ⟨⟨by show s.2 + 1 = t.2 + 1; omega, by show 0 ≤ t.2 + 1; omega⟩, fun i hi => ?_⟩
  have hi : (i : Int) < t.2 + 1 := hi
  show up s.1 s.2.toNat b i = up t.1 t.2.toNat b i ∧ 0 ≤ up t.1 t.2.toNat b i ∧ up t.1 t.2.toNat b i ≤ 127
  rw [up_if, up_if, h1]
  by_cases e : i = t.2.toNat
  · rw [if_pos e, if_pos e]; exact ⟨rfl, b0, b1⟩
  · rw [if_neg e, if_neg e]; exact h3 i (by omega)
theorem ago_std {s t : Ob} (h : AgO s t) (v u : Int) : AgO (stD v u s) (stD v u t) := by
  unfold stD
  split
  · have := Int.emod_nonneg (v / u) (show (10 : Int) ≠ 0 by decide)
    have := Int.emod_lt_of_pos (v / u) (show (0 : Int) < 10 by decide)
    exact ago_pb h (by omega) (by omega)
  · exact h
theorem ago_fs (v : Int) : ∀ (k : Nat) {s t : Ob}, AgO s t → AgO (FS v k s) (FS v k t) := by
  intro k
  induction k with
  | zero => intro s t h; exact ago_std h v 1
  | succ k ih => intro s t h; exact ih (ago_std h v (pw (k + 1)))
theorem ago_out {s t : Ob} (h : AgO s t) (w : Rw) (d : Int) : ∀ q : Nat, AgO (outS w d s q) (outS w d t q) := by
  intro q
  induction q with
  | zero => exact h
  | succ q ih =>
    show AgO (if lnB w d (q : Int) = true then lineS w (q : Int) (outS w d s q) else outS w d s q) (if lnB w d (q : Int) = true then lineS w (q : Int) (outS w d t q) else outS w d t q)
    split
    · exact ago_pb (ago_fs _ 5 (ago_pb (ago_fs _ 5 (ago_pb (ago_fs _ 5 ih) (by decide) (by decide))) (by decide) (by decide))) (by decide) (by decide)
    · exact ih
/-! the class's printout -/
theorem c5_putByte {V0 : Sz} {s : Ob} {b : Int} (h0 : V0 0 = s.1) (h1 : V0 1 0 = s.2) (hl : 0 ≤ s.2 ∧ s.2 < 1140) (hb : 0 ≤ b ∧ b ≤ 127) : TT (f_X5_putByte V0 b) (fun V => V 0 = (pb b s).1 ∧ V 1 0 = (pb b s).2) := by
  unfold f_X5_putByte
  rw [h1]
  have eb : ((((b + 128) % 256 - 128) + 128) % 256 - 128) = b := by omega
  rw [eb]
  refine tt_ck ⟨by omega, by omega⟩ (tt_f (by omega) (tt_ck ⟨hl.1, hl.2⟩ (tt_nmE (fun V3 e3 => tt_nmE (fun V4 e4 => tt_some ⟨?_, ?_⟩)))))
  · rw [e4, us_ne (by decide), e3, uz_at, h0]; rfl
  · rw [e4, us_at, e3, uz_ne (by decide), h1]; rfl
/-- the unit's place -/
def uM (u : Int) : Nat := if u ≤ 0 then 0 else if u ≤ 1 then 1 else if u ≤ 10 then 2 else if u ≤ 100 then 3 else if u ≤ 1000 then 4 else if u ≤ 10000 then 5 else 6
theorem uM_pw : ∀ k : Nat, k ≤ 5 → uM (pw k) = k + 1 := by
  intro k hk
  have h : k = 0 ∨ k = 1 ∨ k = 2 ∨ k = 3 ∨ k = 4 ∨ k = 5 := by omega
  rcases h with e | e | e | e | e | e <;> subst e <;> decide
theorem pw_div (k : Nat) : pw (k + 1) / 10 = pw k := by
  show 10 * pw k / 10 = pw k
  omega
theorem c5_putNumber {V0 : Sz} {s : Ob} {v : Int} (h0 : V0 0 = s.1) (h1 : V0 1 0 = s.2) (hl : 0 ≤ s.2 ∧ s.2 + 6 ≤ 1140) (hv : 0 ≤ v ∧ v ≤ 999999) {n : Nat} (hn : 100 ≤ n) : TT (f_X5_putNumber n V0 v) (fun V => V 0 = (FS v 5 s).1 ∧ V 1 0 = (FS v 5 s).2) := by
  unfold f_X5_putNumber
  refine tt_lp (I := fun z : Int × Sz => (z.1 = 0 ∧ z.2 0 = (FS v 5 s).1 ∧ z.2 1 0 = (FS v 5 s).2) ∨ ∃ (k : Nat) (t : Ob), k ≤ 5 ∧ z.1 = pw k ∧ z.2 0 = t.1 ∧ z.2 1 0 = t.2 ∧ FS v k t = FS v 5 s ∧ 0 ≤ t.2 ∧ t.2 + (k : Int) + 1 ≤ 1140) (μ := fun z => uM z.1) ?_ n (100000, V0) (Or.inr ⟨5, s, by decide, rfl, h0, h1, rfl, hl.1, by show s.2 + 5 + 1 ≤ 1140; omega⟩) ?_
  · rintro ⟨u, V⟩ rec hI ih
    rw [bX5_putNumber_3_e]
    rcases hI with ⟨e1, e2, e3⟩ | ⟨k, t, hk, eu, e2, e3, eF, t0, hroom⟩
    · have e1 : u = 0 := e1
      rw [e1]
      exact tt_ck ⟨by decide, by decide⟩ (tt_t (by decide) (tt_some ⟨e2, e3⟩))
    · have eu : u = pw k := eu
      have e2 : V 0 = t.1 := e2
      have e3 : V 1 0 = t.2 := e3
      have hp := pw_pos k
      have hq := pw_le k hk
      rw [eu]
      -- one unit done
      have next : ∀ (V1 : Sz) (t1 : Ob), t1 = stD v (pw k) t → V1 0 = t1.1 → V1 1 0 = t1.2 → TT (jX5_putNumber_30 n v rec (pw k) V1) (fun V => V 0 = (FS v 5 s).1 ∧ V 1 0 = (FS v 5 s).2) := by
        intro V1 t1 et1 v0 v1
        unfold jX5_putNumber_30
        refine tt_ck ⟨by omega, by omega⟩ (tt_nm ?_)
        cases k with
        | zero =>
          have : t1 = FS v 5 s := by rw [et1, ← eF]; rfl
          exact ih (pw 0 / 10, V1) (Or.inl ⟨by show pw 0 / 10 = 0; decide, by rw [← this]; exact v0, by rw [← this]; exact v1⟩) (by show uM (pw 0 / 10) < uM u; rw [eu]; decide)
        | succ k =>
          have hlen := stD_len v (pw (k + 1)) t
          rw [← et1] at hlen
          rw [pw_div]
          refine ih (pw k, V1) (Or.inr ⟨k, t1, by omega, rfl, v0, v1, by rw [← eF, et1]; rfl, by omega, ?_⟩) (by show uM (pw k) < uM u; rw [eu, uM_pw k (by omega), uM_pw (k + 1) hk]; omega)
          have : ((k + 1 : Nat) : Int) = (k : Int) + 1 := by omega
          omega
      have wr : (pw k = 1 ∨ pw k ≤ v) → TT (jX5_putNumber_17 n v rec (pw k) V) (fun V => V 0 = (FS v 5 s).1 ∧ V 1 0 = (FS v 5 s).2) := by
        intro hc
        have hd0 : 0 ≤ v / pw k := Int.ediv_nonneg hv.1 (by omega)
        have hd1 : v / pw k ≤ v := Int.ediv_le_self _ hv.1
        have hm0 := Int.emod_nonneg (v / pw k) (show (10 : Int) ≠ 0 by decide)
        have hm1 := Int.emod_lt_of_pos (v / pw k) (show (0 : Int) < 10 by decide)
        unfold jX5_putNumber_17
        refine tt_ck ⟨hv.1, by omega, by omega, by omega⟩ (tt_ck ⟨hd0, by omega⟩ (tt_bd (c5_putByte e2 e3 ⟨t0, by omega⟩ ⟨by omega, by omega⟩) (fun V4 ⟨w0, w1⟩ => next V4 _ ?_ w0 w1)))
        unfold stD
        rw [if_pos hc]
      refine tt_ck ⟨by omega, by omega⟩ (tt_f (by omega) (tt_ite (fun c => wr (Or.inl c)) (fun c => tt_ck ⟨by omega, by omega⟩ (tt_ite (fun c2 => next V t ?_ e2 e3) (fun c2 => wr (Or.inr (by omega)))))))
      unfold stD
      rw [if_neg (by omega)]
  · have : uM (100000 : Int) = 6 := by decide
    show uM (100000 : Int) < n
    omega
