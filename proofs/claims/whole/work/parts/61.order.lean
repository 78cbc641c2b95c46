/-! the order of the gifts by days: insertion, as both programs do it -/
def insA (d : Int → Int) (x : Int) : (Nat → Int) → Nat → (Nat → Int)
  | o, 0 => up o 0 x
  | o, j + 1 => if d x < d (o j) then insA d x (up o (j + 1) (o j)) j else up o (j + 1) x
def ordA (d : Int → Int) : Nat → (Nat → Int)
  | 0 => fun _ => 0
  | k + 1 => insA d (k : Int) (ordA d k) k
theorem insA_out (d : Int → Int) (x : Int) : ∀ (j : Nat) (o : Nat → Int) (i : Nat), j < i → insA d x o j i = o i := by
  intro j
  induction j with
  | zero => intro o i h; exact up_ne (by omega)
  | succ j ih =>
    intro o i h
    show (if d x < d (o j) then insA d x (up o (j + 1) (o j)) j else up o (j + 1) x) i = o i
    split
    · rw [ih _ i (by omega), up_ne (by omega)]
    · exact up_ne (by omega)
theorem insA_congr {d d' : Int → Int} {x : Int} : ∀ (j : Nat) (o o' : Nat → Int) (n : Nat), (∀ i, i < n → i ≠ j → o i = o' i) → (∀ i, i < j → d (o i) = d' (o i)) → d x = d' x → j < n → ∀ i, i < n → insA d x o j i = insA d' x o' j i := by
  intro j
  induction j with
  | zero =>
    intro o o' n h _ _ hj i hi
    show up o 0 x i = up o' 0 x i
    rw [up_if, up_if]
    by_cases e : i = 0
    · rw [if_pos e, if_pos e]
    · rw [if_neg e, if_neg e]; exact h i hi e
  | succ j ih =>
    intro o o' n h hd hx hj i hi
    show (if d x < d (o j) then insA d x (up o (j + 1) (o j)) j else up o (j + 1) x) i = (if d' x < d' (o' j) then insA d' x (up o' (j + 1) (o' j)) j else up o' (j + 1) x) i
    have e1 : o j = o' j := h j (by omega) (by omega)
    have e2 : d (o j) = d' (o' j) := by rw [← e1]; exact hd j (by omega)
    rw [hx, e2]
    by_cases hc : d' x < d' (o' j)
    · rw [if_pos hc, if_pos hc]
      refine ih _ _ n (fun q hq hne => ?_) (fun q hq => ?_) hx (by omega) i hi
      · rw [up_if, up_if]
        by_cases e : q = j + 1
        · rw [if_pos e, if_pos e, e1]
        · rw [if_neg e, if_neg e]; exact h q hq e
      · rw [up_ne (show q ≠ j + 1 by omega)]; exact hd q (by omega)
    · rw [if_neg hc, if_neg hc, up_if, up_if]
      by_cases e : i = j + 1
      · rw [if_pos e, if_pos e]
      · rw [if_neg e, if_neg e]; exact h i hi e
/-- a sum over the row after an insertion -/
theorem insA_sum (d : Int → Int) (x : Int) (F : Int → Int) : ∀ (j : Nat) (o : Nat → Int), sumN (fun i => F (insA d x o j i.toNat)) (j + 1) = sumN (fun i => F (o i.toNat)) j + F x := by
  intro j
  induction j with
  | zero => intro o; show 0 + F (up o 0 x (0 : Int).toNat) = 0 + F x; rfl
  | succ j ih =>
    intro o
    rw [sumN_succ]
    have e0 : ((j + 1 : Nat) : Int).toNat = j + 1 := by omega
    have ej : ((j : Nat) : Int).toNat = j := by omega
    by_cases hc : d x < d (o j)
    · have e : insA d x o (j + 1) = insA d x (up o (j + 1) (o j)) j := if_pos hc
      rw [e, ih, e0, insA_out d x j _ (j + 1) (by omega), up_at, sumN_succ]
      have e2 : sumN (fun i => F (up o (j + 1) (o j) i.toNat)) j = sumN (fun i => F (o i.toNat)) j := sumN_congr (fun i h1 h2 => by rw [up_ne (by omega)])
      rw [e2]
      show _ + F x + F (o j) = _ + F (o ((j : Int)).toNat) + F x
      rw [ej]; omega
    · have e : insA d x o (j + 1) = up o (j + 1) x := if_neg hc
      rw [e, e0, up_at]
      have e2 : sumN (fun i => F (up o (j + 1) x i.toNat)) (j + 1) = sumN (fun i => F (o i.toNat)) (j + 1) := sumN_congr (fun i h1 h2 => by rw [up_ne (by omega)])
      rw [e2]
theorem ordA_sum (d : Int → Int) (F : Int → Int) : ∀ (n : Nat), sumN (fun i => F (ordA d n i.toNat)) n = sumN F n := by
  intro n
  induction n with
  | zero => rfl
  | succ n ih =>
    show sumN (fun i => F (insA d (n : Int) (ordA d n) n i.toNat)) (n + 1) = _
    rw [insA_sum, ih, sumN_succ]
/-- every number of a gift stands in the row once -/
theorem ordA_count (d : Int → Int) (g : Int) (n : Nat) : sumN (fun i => if ordA d n i.toNat = g then 1 else 0) n = if 0 ≤ g ∧ g < (n : Int) then 1 else 0 := by
  rw [ordA_sum d (fun z => if z = g then 1 else 0) n]
  induction n with
  | zero => rw [if_neg (by omega)]; rfl
  | succ n ih =>
    rw [sumN_succ, ih]
    by_cases h : (n : Int) = g
    · rw [if_neg (by omega), if_pos h, if_pos (by omega)]; rfl
    · rw [if_neg h]
      by_cases h2 : 0 ≤ g ∧ g < (n : Int)
      · rw [if_pos h2, if_pos (by omega)]; rfl
      · rw [if_neg h2, if_neg (by omega)]; rfl
theorem ordA_in (d : Int → Int) {n i : Nat} (hi : i < n) : 0 ≤ ordA d n i ∧ ordA d n i < (n : Int) := by
  have h := ordA_count d (ordA d n i) n
  have h2 := sumN_ge (f := fun q => if ordA d n q.toNat = ordA d n i then 1 else 0) (n := n) (fun q _ _ => by show (0 : Int) ≤ (if _ then _ else _); split <;> decide) (k := (i : Int)) (by omega) (by omega)
  rw [h] at h2
  have e : ordA d n ((i : Int).toNat) = ordA d n i := by rw [show ((i : Int)).toNat = i by omega]
  rw [if_pos e] at h2
  by_cases hc : 0 ≤ ordA d n i ∧ ordA d n i < (n : Int)
  · exact hc
  · rw [if_neg hc] at h2; omega
theorem ordA_inj (d : Int → Int) {n i j : Nat} (hi : i < n) (hj : j < n) (e : ordA d n i = ordA d n j) : i = j := by
  have key : ∀ i j : Nat, i < j → j < n → ordA d n i = ordA d n j → False := by
    intro i j hij hj e
    have h := ordA_count d (ordA d n i) n
    have h2 := sumN_two (f := fun q => if ordA d n q.toNat = ordA d n i then 1 else 0) (n := n) (fun q _ _ => by show (0 : Int) ≤ (if _ then _ else _); split <;> decide) (j := (i : Int)) (k := (j : Int)) (by omega) (by omega) (by omega)
    rw [h] at h2
    have e1 : ordA d n ((i : Int).toNat) = ordA d n i := by rw [show ((i : Int)).toNat = i by omega]
    have e2 : ordA d n ((j : Int).toNat) = ordA d n i := by rw [show ((j : Int)).toNat = j by omega, e]
    rw [if_pos e1, if_pos e2] at h2
    split at h2 <;> omega
  rcases Nat.lt_trichotomy i j with h | h | h
  · exact (key i j h hj e).elim
  · exact h
  · exact (key j i h hi e.symm).elim
theorem ordA_onto (d : Int → Int) {n : Nat} {g : Int} (h0 : 0 ≤ g) (hg : g < (n : Int)) : ∃ i : Nat, i < n ∧ ordA d n i = g := by
  have h := ordA_count d g n
  rw [if_pos ⟨h0, hg⟩] at h
  obtain ⟨k, h1, h2, h3⟩ := sumN_pos (f := fun i => if ordA d n i.toNat = g then 1 else 0) (n := n) (by rw [h]; decide)
  refine ⟨k.toNat, by omega, ?_⟩
  by_cases e : ordA d n k.toNat = g
  · exact e
  · rw [if_neg e] at h3; omega
theorem ordA_congr {d d' : Int → Int} : ∀ (n : Nat), (∀ g : Int, 0 ≤ g → g < (n : Int) → d g = d' g) → ∀ i, i < n → ordA d n i = ordA d' n i := by
  intro n
  induction n with
  | zero => intro _ i hi; omega
  | succ n ih =>
    intro h i hi
    have ih := ih (fun g h0 h1 => h g h0 (by omega))
    exact insA_congr n _ _ (n + 1) (fun q hq hne => ih q (by omega)) (fun q hq => by have := ordA_in d (n := n) hq; exact h _ this.1 (by omega)) (h n (by omega) (by omega)) (by omega) i hi
/-- the days stand in order -/
theorem insA_sorted (d : Int → Int) (x : Int) : ∀ (j : Nat) (o : Nat → Int) (n : Nat), j < n → (∀ i k, i < k → k < n → i ≠ j → k ≠ j → d (o i) ≤ d (o k)) → (∀ k, j < k → k < n → d x < d (o k)) → ∀ i k, i < k → k < n → d (insA d x o j i) ≤ d (insA d x o j k) := by
  intro j
  induction j with
  | zero =>
    intro o n hj h hx i k hik hk
    show d (up o 0 x i) ≤ d (up o 0 x k)
    rw [up_ne (show k ≠ 0 by omega), up_if]
    by_cases e : i = 0
    · rw [if_pos e]; exact Int.le_of_lt (hx k (by omega) hk)
    · rw [if_neg e]; exact h i k hik hk e (by omega)
  | succ j ih =>
    intro o n hj h hx
    by_cases hc : d x < d (o j)
    · have e : insA d x o (j + 1) = insA d x (up o (j + 1) (o j)) j := if_pos hc
      rw [e]
      refine ih _ n (by omega) (fun i k hik hk h1 h2 => ?_) (fun k h1 h2 => ?_)
      · rw [up_if, up_if]
        by_cases e1 : i = j + 1
        · rw [if_pos e1, if_neg (by omega)]; exact h j k (by omega) hk (by omega) (by omega)
        · rw [if_neg e1]
          by_cases e2 : k = j + 1
          · rw [if_pos e2]; exact h i j (by omega) (by omega) e1 (by omega)
          · rw [if_neg e2]; exact h i k hik hk e1 e2
      · rw [up_if]
        by_cases e2 : k = j + 1
        · rw [if_pos e2]; exact hc
        · rw [if_neg e2]; exact hx k (by omega) h2
    · have e : insA d x o (j + 1) = up o (j + 1) x := if_neg hc
      rw [e]
      intro i k hik hk
      rw [up_if, up_if]
      by_cases e1 : i = j + 1
      · rw [if_pos e1, if_neg (by omega)]; exact Int.le_of_lt (hx k (by omega) hk)
      · rw [if_neg e1]
        by_cases e2 : k = j + 1
        · rw [if_pos e2]
          by_cases e3 : i = j
          · rw [e3]; omega
          · have := h i j (by omega) (by omega) e1 (by omega); omega
        · rw [if_neg e2]; exact h i k hik hk e1 e2
theorem ordA_sorted (d : Int → Int) : ∀ (n i k : Nat), i < k → k < n → d (ordA d n i) ≤ d (ordA d n k) := by
  intro n
  induction n with
  | zero => intro i k _ h; omega
  | succ n ih =>
    exact insA_sorted d n n (ordA d n) (n + 1) (by omega) (fun i k hik hk h1 h2 => ih i k hik (by omega)) (fun k h1 h2 => by omega)
/-! what the parts of one donor use of one year's limit -/
def usedS (o : Nat → Int) (yr wd : Int → Int) (lim y : Int) : Nat → Int
  | 0 => 0
  | i + 1 => if yr (o i) = y then min lim (usedS o yr wd lim y i + wd (o i)) else usedS o yr wd lim y i
def aidG (o : Nat → Int) (yr wd : Int → Int) (lim : Int) (i : Nat) : Int := min (wd (o i)) (lim - usedS o yr wd lim (yr (o i)) i)
theorem usedS_succ (o : Nat → Int) (yr wd : Int → Int) (lim y : Int) (i : Nat) : usedS o yr wd lim y (i + 1) = if yr (o i) = y then min lim (usedS o yr wd lim y i + wd (o i)) else usedS o yr wd lim y i := rfl
theorem usedS_bd {o : Nat → Int} {yr wd : Int → Int} {lim y : Int} (hl : 0 ≤ lim) : ∀ (i : Nat), (∀ j, j < i → 0 ≤ wd (o j)) → 0 ≤ usedS o yr wd lim y i ∧ usedS o yr wd lim y i ≤ lim := by
  intro i
  induction i with
  | zero => intro _; exact ⟨Int.le_refl _, hl⟩
  | succ i ih =>
    intro h
    have h1 := ih (fun j hj => h j (by omega))
    have h2 := h i (by omega)
    rw [usedS_succ]
    split
    · omega
    · exact h1
/-- the aid of the gift at place i, as what is used grows by -/
theorem aidG_used {o : Nat → Int} {yr wd : Int → Int} {lim : Int} (i : Nat) : usedS o yr wd lim (yr (o i)) (i + 1) = usedS o yr wd lim (yr (o i)) i + aidG o yr wd lim i := by
  rw [usedS_succ, if_pos rfl]
  show min lim _ = _ + min _ _
  omega
theorem usedS_congr {o o' : Nat → Int} {yr yr' wd wd' : Int → Int} {lim y : Int} : ∀ (i : Nat), (∀ j, j < i → o j = o' j ∧ yr (o j) = yr' (o j) ∧ wd (o j) = wd' (o j)) → usedS o yr wd lim y i = usedS o' yr' wd' lim y i := by
  intro i
  induction i with
  | zero => intro _; rfl
  | succ i ih =>
    intro h
    obtain ⟨e1, e2, e3⟩ := h i (by omega)
    rw [usedS_succ, usedS_succ, ih (fun j hj => h j (by omega)), ← e1, e2, e3]
/-- a year that none of the gifts so far has is not used -/
theorem usedS_fresh {o : Nat → Int} {yr wd : Int → Int} {lim y : Int} : ∀ (i : Nat), (∀ j, j < i → yr (o j) ≠ y) → usedS o yr wd lim y i = 0 := by
  intro i
  induction i with
  | zero => intro _; rfl
  | succ i ih =>
    intro h
    rw [usedS_succ, if_neg (h i (by omega)), ih (fun j hj => h j (by omega))]
/-- the aid of all gifts of a donor is what is used of all years -/
theorem aidG_years {o : Nat → Int} {yr wd : Int → Int} {lim : Int} {Y : Nat} : ∀ (n : Nat), (∀ j, j < n → 0 ≤ yr (o j) ∧ yr (o j) < (Y : Int)) → sumN (fun i => aidG o yr wd lim i.toNat) n = sumN (fun y => usedS o yr wd lim y n) Y := by
  intro n
  induction n with
  | zero => intro _; exact (sumN_zero (fun _ _ _ => rfl)).symm
  | succ n ih =>
    intro h
    rw [sumN_succ, ih (fun j hj => h j (by omega))]
    have hy := h n (by omega)
    have e : ∀ (Z : Nat), sumN (fun y => usedS o yr wd lim y (n + 1)) Z = sumN (fun y => usedS o yr wd lim y n) Z + (if yr (o n) < (Z : Int) then aidG o yr wd lim n else 0) := by
      intro Z
      induction Z with
      | zero => rw [if_neg (by omega)]; rfl
      | succ Z ihZ =>
        rw [sumN_succ, sumN_succ, ihZ]
        by_cases c1 : yr (o n) = (Z : Int)
        · rw [if_neg (by omega), if_pos (by omega), ← c1, aidG_used]; omega
        · have e9 : usedS o yr wd lim (Z : Int) (n + 1) = usedS o yr wd lim (Z : Int) n := by rw [usedS_succ, if_neg c1]
          rw [e9]
          by_cases c2 : yr (o n) < (Z : Int)
          · rw [if_pos c2, if_pos (by omega)]; omega
          · rw [if_neg c2, if_neg (by omega)]; omega
    rw [e Y, if_pos hy.2, show ((n : Int)).toNat = n by omega]
theorem usedS_mono {o : Nat → Int} {yr wd wd' : Int → Int} {lim y : Int} : ∀ (i : Nat), (∀ j, j < i → wd (o j) ≤ wd' (o j)) → usedS o yr wd lim y i ≤ usedS o yr wd' lim y i := by
  intro i
  induction i with
  | zero => intro _; exact Int.le_refl _
  | succ i ih =>
    intro h
    have h1 := ih (fun j hj => h j (by omega))
    have h2 := h i (by omega)
    rw [usedS_succ, usedS_succ]
    split
    · omega
    · exact h1
