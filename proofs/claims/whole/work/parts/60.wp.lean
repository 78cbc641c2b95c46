/-! what a text answers: TT x P says that the text x gives an answer, and that P holds of it -/
def TT {α : Type} (x : Option α) (P : α → Prop) : Prop := ∃ a, x = some a ∧ P a
theorem tt_some {α : Type} {a : α} {P : α → Prop} (h : P a) : TT (some a) P := ⟨a, rfl, h⟩
theorem tt_ck {α : Type} {c : Prop} [Decidable c] {k : Option α} {P : α → Prop} (hc : c) (h : TT k P) : TT (ck c k) P := by rw [ck_t hc]; exact h
theorem tt_nm {α β : Type} {x : α} {k : α → Option β} {P : β → Prop} (h : TT (k x) P) : TT (nm x k) P := h
theorem tt_nmE {α β : Type} {x : α} {k : α → Option β} {P : β → Prop} (h : ∀ y, y = x → TT (k y) P) : TT (nm x k) P := h x rfl
theorem tt_bd {α β : Type} {x : Option α} {k : α → Option β} {Q : α → Prop} {P : β → Prop} (hx : TT x Q) (h : ∀ a, Q a → TT (k a) P) : TT (bd x k) P := by
  obtain ⟨a, rfl, ha⟩ := hx
  exact h a ha
theorem tt_ite {α : Type} {c : Prop} [Decidable c] {a b : Option α} {P : α → Prop} (h1 : c → TT a P) (h2 : ¬ c → TT b P) : TT (if c then a else b) P := by
  by_cases h : c
  · rw [if_pos h]; exact h1 h
  · rw [if_neg h]; exact h2 h
theorem tt_t {α : Type} {c : Prop} [Decidable c] {a b : Option α} {P : α → Prop} (hc : c) (h1 : TT a P) : TT (if c then a else b) P := by rw [if_pos hc]; exact h1
theorem tt_f {α : Type} {c : Prop} [Decidable c] {a b : Option α} {P : α → Prop} (hc : ¬ c) (h1 : TT b P) : TT (if c then a else b) P := by rw [if_neg hc]; exact h1
theorem tt_mono {α : Type} {x : Option α} {P Q : α → Prop} (h : TT x P) (hPQ : ∀ a, P a → Q a) : TT x Q := by
  obtain ⟨a, h1, h2⟩ := h
  exact ⟨a, h1, hPQ a h2⟩
theorem tt_at {α : Type} {x : Option α} {a : α} {P : α → Prop} (h : x = some a) (hp : P a) : TT x P := ⟨a, h, hp⟩
theorem tt_eq {α : Type} {x : Option α} {a : α} (h : TT x (fun r => r = a)) : x = some a := by
  obtain ⟨r, h1, h2⟩ := h
  rw [h1, h2]
theorem tt_lp {σ ρ : Type} {b : (σ → Option ρ) → σ → Option ρ} {P : ρ → Prop} (I : σ → Prop) (μ : σ → Nat) (hb : ∀ (s : σ) (rec : σ → Option ρ), I s → (∀ s', I s' → μ s' < μ s → TT (rec s') P) → TT (b rec s) P) : ∀ (n : Nat) (s : σ), I s → μ s < n → TT (lpF b n s) P := by
  intro n
  induction n with
  | zero => intro s _ h; omega
  | succ n ih =>
    intro s hI hm
    exact hb s (lpF b n) hI (fun s' hI' hlt => ih s' hI' (by omega))
/-! of texts that may throw -/
theorem tt_bl {α : Type} {x : Option α} {P : α ⊕ Nat → Prop} (h : TT x (fun a => P (.inl a))) : TT (bl x) P := by
  obtain ⟨a, rfl, ha⟩ := h
  exact ⟨.inl a, rfl, ha⟩
theorem tt_bx {α β : Type} {x : Option (α ⊕ Nat)} {k : α → Option (β ⊕ Nat)} {Q : α ⊕ Nat → Prop} {P : β ⊕ Nat → Prop} (hx : TT x Q) (h1 : ∀ a, Q (.inl a) → TT (k a) P) (h2 : ∀ e, Q (.inr e) → P (.inr e)) : TT (bx x k) P := by
  obtain ⟨a, rfl, ha⟩ := hx
  cases a with
  | inl a => exact h1 a ha
  | inr e => exact ⟨.inr e, rfl, h2 e ha⟩
/-! states of components: what a write leaves -/
theorem us_at {α : Type} (V : Nat → Nat → α) (k : Nat) (x : α) (i : Nat) : us V k x k i = x := congrFun (show us V k x k = fun _ => x from if_pos rfl) i
theorem us_ne {α : Type} {V : Nat → Nat → α} {k j : Nat} {x : α} (h : j ≠ k) : us V k x j = V j := if_neg h
theorem uz_at (V : Sz) (k i : Nat) (x : Int) : uz V k i x k = up (V k) i x := if_pos rfl
theorem uz_ne {V : Sz} {k j i : Nat} {x : Int} (h : j ≠ k) : uz V k i x j = V j := if_neg h
theorem uy_at (V : Sz) (k : Nat) (f : Nat → Int) : uy V k f k = f := if_pos rfl
theorem uy_ne {V : Sz} {k j : Nat} {f : Nat → Int} (h : j ≠ k) : uy V k f j = V j := if_neg h
theorem up_at (T : Nat → Int) (k : Nat) (x : Int) : up T k x k = x := if_pos rfl
theorem up_ne {T : Nat → Int} {k j : Nat} {x : Int} (h : j ≠ k) : up T k x j = T j := if_neg h
theorem up_if (T : Nat → Int) (k j : Nat) (x : Int) : up T k x j = if j = k then x else T j := rfl
/-! sums, searches -/
def sumN (f : Int → Int) : Nat → Int
  | 0 => 0
  | n + 1 => sumN f n + f (n : Int)
theorem sumN_succ (f : Int → Int) (n : Nat) : sumN f (n + 1) = sumN f n + f (n : Int) := rfl
theorem sumN_step (f : Int → Int) {p : Int} (h : 0 ≤ p) : sumN f (p + 1).toNat = sumN f p.toNat + f p := by
  rw [show (p + 1).toNat = p.toNat + 1 by omega, sumN_succ, show ((p.toNat : Nat) : Int) = p by omega]
theorem sumN_congr {f g : Int → Int} : ∀ {n : Nat}, (∀ i : Int, 0 ≤ i → i < (n : Int) → f i = g i) → sumN f n = sumN g n := by
  intro n
  induction n with
  | zero => intro _; rfl
  | succ n ih =>
    intro h
    rw [sumN_succ, sumN_succ, ih (fun i h1 h2 => h i h1 (by omega)), h n (by omega) (by omega)]
theorem sumN_nonneg {f : Int → Int} : ∀ {n : Nat}, (∀ i : Int, 0 ≤ i → i < (n : Int) → 0 ≤ f i) → 0 ≤ sumN f n := by
  intro n
  induction n with
  | zero => intro _; exact Int.le_refl _
  | succ n ih =>
    intro h
    have h1 := ih (fun i h1 h2 => h i h1 (by omega))
    have h2 := h n (by omega) (by omega)
    rw [sumN_succ]; omega
theorem sumN_mono {f g : Int → Int} : ∀ {n : Nat}, (∀ i : Int, 0 ≤ i → i < (n : Int) → f i ≤ g i) → sumN f n ≤ sumN g n := by
  intro n
  induction n with
  | zero => intro _; exact Int.le_refl _
  | succ n ih =>
    intro h
    have h1 := ih (fun i h1 h2 => h i h1 (by omega))
    have h2 := h n (by omega) (by omega)
    rw [sumN_succ, sumN_succ]; omega
theorem sumN_le {f : Int → Int} {c : Int} : ∀ {n : Nat}, (∀ i : Int, 0 ≤ i → i < (n : Int) → f i ≤ c) → sumN f n ≤ (n : Int) * c := by
  intro n
  induction n with
  | zero => intro _; show (0 : Int) ≤ _; omega
  | succ n ih =>
    intro h
    have h1 := ih (fun i h1 h2 => h i h1 (by omega))
    have h2 := h n (by omega) (by omega)
    have e : ((n + 1 : Nat) : Int) * c = (n : Int) * c + c := by rw [Int.natCast_succ, Int.add_mul, Int.one_mul]
    rw [sumN_succ, e]; omega
theorem sumN_add (f g : Int → Int) : ∀ (n : Nat), sumN (fun i => f i + g i) n = sumN f n + sumN g n := by
  intro n
  induction n with
  | zero => rfl
  | succ n ih => rw [sumN_succ, sumN_succ, sumN_succ, ih]; omega
theorem sumN_sub (f g : Int → Int) : ∀ (n : Nat), sumN (fun i => f i - g i) n = sumN f n - sumN g n := by
  intro n
  induction n with
  | zero => rfl
  | succ n ih => rw [sumN_succ, sumN_succ, sumN_succ, ih]; omega
theorem sumN_zero {f : Int → Int} : ∀ {n : Nat}, (∀ i : Int, 0 ≤ i → i < (n : Int) → f i = 0) → sumN f n = 0 := by
  intro n h
  have e : sumN f n = sumN (fun _ => 0) n := sumN_congr h
  rw [e]
  clear e h
  induction n with
  | zero => rfl
  | succ n ih => rw [sumN_succ, ih]; rfl
theorem sumN_app (f : Int → Int) (n : Nat) : ∀ (m : Nat), sumN f (n + m) = sumN f n + sumN (fun i => f ((n : Int) + i)) m := by
  intro m
  induction m with
  | zero => show sumN f n = sumN f n + 0; omega
  | succ m ih => rw [← Nat.add_assoc, sumN_succ, ih, sumN_succ, show ((n + m : Nat) : Int) = (n : Int) + (m : Int) by omega]; omega
theorem sumN_cut {f : Int → Int} {n m : Nat} (hm : m ≤ n) (h : ∀ i : Int, (m : Int) ≤ i → i < (n : Int) → f i = 0) : sumN f n = sumN f m := by
  obtain ⟨k, rfl⟩ := Nat.le.dest hm
  have e : sumN (fun i => f ((m : Int) + i)) k = 0 := sumN_zero (fun i h1 h2 => h ((m : Int) + i) (by omega) (by omega))
  rw [sumN_app, e]; omega
theorem sumN_three (f : Int → Int) : ∀ (n : Nat), sumN f (3 * n) = sumN (fun g => f (3 * g) + f (3 * g + 1) + f (3 * g + 2)) n := by
  intro n
  induction n with
  | zero => rfl
  | succ n ih =>
    rw [show 3 * (n + 1) = 3 * n + 1 + 1 + 1 by omega, sumN_succ, sumN_succ, sumN_succ, ih, sumN_succ]
    have e0 : ((3 * n : Nat) : Int) = 3 * (n : Int) := by omega
    have e1 : ((3 * n + 1 : Nat) : Int) = 3 * (n : Int) + 1 := by omega
    have e2 : ((3 * n + 1 + 1 : Nat) : Int) = 3 * (n : Int) + 2 := by omega
    rw [e0, e1, e2]; omega
theorem sumN_swap (F : Int → Int → Int) (n : Nat) : ∀ (m : Nat), sumN (fun j => sumN (fun i => F i j) n) m = sumN (fun i => sumN (fun j => F i j) m) n := by
  intro m
  induction m with
  | zero => exact (sumN_zero (fun _ _ _ => rfl)).symm
  | succ m ih => rw [sumN_succ, ih, ← sumN_add]; rfl
theorem sumN_ge {f : Int → Int} {n : Nat} (h : ∀ i : Int, 0 ≤ i → i < (n : Int) → 0 ≤ f i) {k : Int} (h0 : 0 ≤ k) (hk : k < (n : Int)) : f k ≤ sumN f n := by
  induction n with
  | zero => omega
  | succ n ih =>
    rw [sumN_succ]
    by_cases e : k = (n : Int)
    · have := sumN_nonneg (f := f) (n := n) (fun i h1 h2 => h i h1 (by omega))
      rw [e]; omega
    · have h1 := ih (fun i h1 h2 => h i h1 (by omega)) (by omega)
      have h2 := h n (by omega) (by omega)
      omega
theorem sumN_two {f : Int → Int} {n : Nat} (h : ∀ i : Int, 0 ≤ i → i < (n : Int) → 0 ≤ f i) {j k : Int} (h0 : 0 ≤ j) (hjk : j < k) (hk : k < (n : Int)) : f j + f k ≤ sumN f n := by
  induction n with
  | zero => omega
  | succ n ih =>
    rw [sumN_succ]
    by_cases e : k = (n : Int)
    · have := sumN_ge (f := f) (n := n) (fun i h1 h2 => h i h1 (by omega)) h0 (by omega)
      rw [e]; omega
    · have h1 := ih (fun i h1 h2 => h i h1 (by omega)) (by omega)
      have h2 := h n (by omega) (by omega)
      omega
theorem sumN_pos {f : Int → Int} : ∀ {n : Nat}, 0 < sumN f n → ∃ k : Int, 0 ≤ k ∧ k < (n : Int) ∧ 0 < f k := by
  intro n
  induction n with
  | zero => intro h; exact absurd (show (0 : Int) < 0 from h) (by decide)
  | succ n ih =>
    intro h
    rw [sumN_succ] at h
    by_cases h1 : 0 < f n
    · exact ⟨n, by omega, by omega, h1⟩
    · obtain ⟨k, a, b, c⟩ := ih (by omega)
      exact ⟨k, a, by omega, c⟩
theorem sumN_neg {f : Int → Int} : ∀ {n : Nat}, sumN f n < 0 → ∃ k : Int, 0 ≤ k ∧ k < (n : Int) ∧ f k < 0 := by
  intro n
  induction n with
  | zero => intro h; exact absurd (show (0 : Int) < 0 from h) (by decide)
  | succ n ih =>
    intro h
    rw [sumN_succ] at h
    by_cases h1 : f n < 0
    · exact ⟨n, by omega, by omega, h1⟩
    · obtain ⟨k, a, b, c⟩ := ih (by omega)
      exact ⟨k, a, by omega, c⟩
def anyN (p : Int → Bool) : Nat → Bool
  | 0 => false
  | n + 1 => anyN p n || p (n : Int)
theorem anyN_iff {p : Int → Bool} : ∀ {n : Nat}, anyN p n = true ↔ ∃ k : Int, 0 ≤ k ∧ k < (n : Int) ∧ p k = true := by
  intro n
  induction n with
  | zero => exact ⟨fun h => (Bool.noConfusion (show false = true from h)), fun ⟨k, a, b, _⟩ => by omega⟩
  | succ n ih =>
    show (anyN p n || p (n : Int)) = true ↔ _
    rw [Bool.or_eq_true, ih]
    constructor
    · rintro (⟨k, a, b, c⟩ | h)
      · exact ⟨k, a, by omega, c⟩
      · exact ⟨n, by omega, by omega, h⟩
    · rintro ⟨k, a, b, c⟩
      by_cases e : k = (n : Int)
      · exact Or.inr (e ▸ c)
      · exact Or.inl ⟨k, a, by omega, c⟩
