/-! the states before the changes: ledgers that are made when first needed -/
def zpf (pa : Nat → Nat → Nat) (K : Nat) : Nat → Option Nat := fun i => if i < K then some (pa i 0) else none
def cs_P (kA : Nat → ClassId) (pa : Nat → Nat → Nat) (PV : Nat → Sz) : Nat → va_W
  | 0 => []
  | k + 1 => cs_P kA pa PV k ++ cs_X4 kA (pa k) (PV k)
def zup {α : Type} (f : Nat → α) (i : Nat) (x : α) : Nat → α := fun j => if j = i then x else f j
theorem zup_self {α : Type} (f : Nat → α) (i : Nat) : zup f i (f i) = f := by
  funext j
  show (if j = i then f i else f j) = f j
  split
  next h => rw [h]
  next => rfl
theorem csP_ext {kA : Nat → ClassId} {pa pa1 : Nat → Nat → Nat} {PV PV1 : Nat → Sz} : ∀ (K : Nat), (∀ j, j < K → pa j = pa1 j ∧ PV j = PV1 j) → cs_P kA pa PV K = cs_P kA pa1 PV1 K := by
  intro K
  induction K with
  | zero => intro _; rfl
  | succ K ih =>
    intro h
    show cs_P kA pa PV K ++ cs_X4 kA (pa K) (PV K) = cs_P kA pa1 PV1 K ++ cs_X4 kA (pa1 K) (PV1 K)
    rw [ih (fun j hj => h j (by omega)), (h K (by omega)).1, (h K (by omega)).2]
theorem csP_split {kA : Nat → ClassId} {pa : Nat → Nat → Nat} {PV : Nat → Sz} {i : Nat} : ∀ (K : Nat), i < K → ∃ B A : va_W, ∀ x : Sz, cs_P kA pa (zup PV i x) K = B ++ (cs_X4 kA (pa i) x ++ A) := by
  intro K
  induction K with
  | zero => intro h; omega
  | succ K ih =>
    intro h
    by_cases hk : i = K
    · subst hk
      refine ⟨cs_P kA pa PV i, [], fun x => ?_⟩
      show cs_P kA pa (zup PV i x) i ++ cs_X4 kA (pa i) (zup PV i x i) = _
      rw [csP_ext (PV := zup PV i x) (PV1 := PV) (pa := pa) (pa1 := pa) i (fun j hj => ⟨rfl, if_neg (show ¬ j = i by omega)⟩), List.append_nil]
      rw [show zup PV i x i = x from if_pos rfl]
    · obtain ⟨B, A, hBA⟩ := ih (by omega)
      refine ⟨B, A ++ cs_X4 kA (pa K) (PV K), fun x => ?_⟩
      show cs_P kA pa (zup PV i x) K ++ cs_X4 kA (pa K) (zup PV i x K) = _
      rw [hBA x, show zup PV i x K = PV K from if_neg (fun e => hk e.symm)]
      simp only [List.append_assoc]
theorem zPmem {D : va_G} {cl : List vw_C} {ws : va_W} {H : Heap} (h : va_P D cl ws H) {q : Nat × va_E} (hq : q ∈ ws) : va_at D cl q H := by
  obtain ⟨i, hi⟩ := List.getElem?_of_mem hq
  exact h i q hi
theorem zPof {D : va_G} {cl : List vw_C} {ws : va_W} {H : Heap} (h : ∀ q ∈ ws, va_at D cl q H) : va_P D cl ws H := fun k q hk => h q (List.mem_of_getElem? hk)
theorem zjoinG {D : va_G} {cl : List vw_C} {P w0 w1 S g0 : va_W} {H H1 : Heap} (hP : va_P D cl (P ++ (w0 ++ S)) H) (hD : va_D (fun _ => True) (P ++ (w0 ++ S))) (hg : ∀ q ∈ g0, q ∈ P ∨ q ∈ S)
    (hk : ∀ q : Nat, q < H.size → ¬ zF (w0 ++ g0) q → H1[q]? = H[q]?) (hP1 : va_P D cl (w1 ++ g0) H1) : va_P D cl (P ++ (w1 ++ S)) H1 := by
  have atP : ∀ (i : Nat) (q : Nat × va_E), P[i]? = some q → (P ++ (w0 ++ S))[i]? = some q := fun i q h => by rw [List.getElem?_append_left (List.getElem?_eq_some_iff.mp h).1]; exact h
  have atw : ∀ (i : Nat) (q : Nat × va_E), w0[i]? = some q → (P ++ (w0 ++ S))[P.length + i]? = some q := fun i q h => by
    rw [List.getElem?_append_right (by omega), show P.length + i - P.length = i by omega, List.getElem?_append_left (List.getElem?_eq_some_iff.mp h).1]; exact h
  have atS : ∀ (i : Nat) (q : Nat × va_E), S[i]? = some q → (P ++ (w0 ++ S))[P.length + (w0.length + i)]? = some q := fun i q h => by
    rw [List.getElem?_append_right (by omega), List.getElem?_append_right (by omega), show P.length + (w0.length + i) - P.length - w0.length = i by omega]; exact h
  have main : ∀ (i : Nat) (q : Nat × va_E), (P ++ (w0 ++ S))[i]? = some q → (i < P.length ∨ P.length + w0.length ≤ i) → va_at D cl q H1 := by
    intro i q hi hout
    by_cases hz : zF (w0 ++ g0) q.1
    · obtain ⟨j, e, hj⟩ := hz
      by_cases hjl : j < w0.length
      · rw [List.getElem?_append_left hjl] at hj
        have h3 := hD.1 i (P.length + j) q (q.1, e) hi (atw j _ hj) rfl
        omega
      · rw [List.getElem?_append_right (by omega)] at hj
        have hm : (q.1, e) ∈ g0 := List.mem_of_getElem? hj
        have h4 : ∃ i2 : Nat, (P ++ (w0 ++ S))[i2]? = some (q.1, e) := by
          rcases hg _ hm with h | h
          · obtain ⟨i2, h2⟩ := List.getElem?_of_mem h
            exact ⟨_, atP i2 _ h2⟩
          · obtain ⟨i2, h2⟩ := List.getElem?_of_mem h
            exact ⟨_, atS i2 _ h2⟩
        obtain ⟨i2, h2⟩ := h4
        have h5 := hD.1 i i2 q (q.1, e) hi h2 rfl
        subst h5
        rw [hi] at h2
        rw [Option.some.inj h2]
        exact zPmem hP1 (List.mem_append_right _ hm)
    · exact (hP i q hi).kept (hk q.1 (hP i q hi).lt hz)
  refine zPof (fun q hq => ?_)
  rcases List.mem_append.mp hq with h | h
  · obtain ⟨i, hi⟩ := List.getElem?_of_mem h
    exact main i q (atP i q hi) (Or.inl (List.getElem?_eq_some_iff.mp hi).1)
  · rcases List.mem_append.mp h with h | h
    · exact zPmem hP1 (List.mem_append_left _ h)
    · obtain ⟨i, hi⟩ := List.getElem?_of_mem h
      exact main _ q (atS i q hi) (Or.inr (by omega))
/-- cells of a world, apart: a part of it, by membership in another order -/
theorem zDpart {A B : Nat → Prop} {P w S g : va_W} (hD : va_D A (P ++ (w ++ S))) (hg : va_D B g) (hm : ∀ q ∈ g, q ∈ P ∨ q ∈ S) : va_D (fun _ => True) (w ++ g) := by
  refine ⟨fun i j p q hp hq e => ?_, fun _ _ _ => trivial⟩
  have atw : ∀ (i : Nat) (q : Nat × va_E), w[i]? = some q → (P ++ (w ++ S))[P.length + i]? = some q := fun i q h => by
    rw [List.getElem?_append_right (by omega), show P.length + i - P.length = i by omega, List.getElem?_append_left (List.getElem?_eq_some_iff.mp h).1]; exact h
  have atg : ∀ q ∈ g, ∃ k : Nat, (P ++ (w ++ S))[k]? = some q ∧ (k < P.length ∨ P.length + w.length ≤ k) := fun q h => by
    rcases hm q h with h | h
    · obtain ⟨k, hk⟩ := List.getElem?_of_mem h
      have hl := (List.getElem?_eq_some_iff.mp hk).1
      exact ⟨k, by rw [List.getElem?_append_left hl]; exact hk, Or.inl hl⟩
    · obtain ⟨k, hk⟩ := List.getElem?_of_mem h
      exact ⟨P.length + (w.length + k), by rw [List.getElem?_append_right (by omega), List.getElem?_append_right (by omega), show P.length + (w.length + k) - P.length - w.length = k by omega]; exact hk, Or.inr (by omega)⟩
  by_cases hi : i < w.length
  · rw [List.getElem?_append_left hi] at hp
    by_cases hj : j < w.length
    · rw [List.getElem?_append_left hj] at hq
      have := hD.1 _ _ p q (atw i p hp) (atw j q hq) e
      omega
    · rw [List.getElem?_append_right (by omega)] at hq
      obtain ⟨k, hk, ho⟩ := atg q (List.mem_of_getElem? hq)
      have := hD.1 _ _ p q (atw i p hp) hk e
      omega
  · rw [List.getElem?_append_right (by omega)] at hp
    by_cases hj : j < w.length
    · rw [List.getElem?_append_left hj] at hq
      obtain ⟨k, hk, ho⟩ := atg p (List.mem_of_getElem? hp)
      have := hD.1 _ _ p q hk (atw j q hq) e
      omega
    · rw [List.getElem?_append_right (by omega)] at hq
      have := hg.1 _ _ p q hp hq e
      omega
