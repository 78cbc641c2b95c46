/-! worlds by blocks -/
theorem vaP_mem {D : va_G} {cl : List vw_C} {ws : va_W} {H : Heap} : va_P D cl ws H ↔ ∀ q ∈ ws, va_at D cl q H := by
  constructor
  · intro h q hq
    obtain ⟨k, hk⟩ := List.mem_iff_getElem?.mp hq
    exact h k q hk
  · intro h k q hk
    exact h q (List.mem_of_getElem? hk)
theorem vaP_app {D : va_G} {cl : List vw_C} {A B : va_W} {H : Heap} : va_P D cl (A ++ B) H ↔ va_P D cl A H ∧ va_P D cl B H := by
  rw [vaP_mem, vaP_mem, vaP_mem]
  constructor
  · intro h
    exact ⟨fun q hq => h q (List.mem_append_left _ hq), fun q hq => h q (List.mem_append_right _ hq)⟩
  · rintro ⟨h1, h2⟩ q hq
    rcases List.mem_append.mp hq with u | u
    · exact h1 q u
    · exact h2 q u
theorem vaP_swap {D : va_G} {cl : List vw_C} {A B : va_W} {H : Heap} (h : va_P D cl (A ++ B) H) : va_P D cl (B ++ A) H := vaP_app.mpr ⟨(vaP_app.mp h).2, (vaP_app.mp h).1⟩
theorem vaD_nodup {A : Nat → Prop} {ws : va_W} : va_D A ws ↔ (ws.map Prod.fst).Nodup ∧ ∀ q ∈ ws, A q.1 := by
  constructor
  · rintro ⟨h1, h2⟩
    refine ⟨?_, fun q hq => ?_⟩
    · refine List.pairwise_iff_getElem.mpr (fun i j hi hj hij e => ?_)
      rw [List.length_map] at hi hj
      rw [List.getElem_map, List.getElem_map] at e
      have := h1 i j _ _ (List.getElem?_eq_getElem hi) (List.getElem?_eq_getElem hj) e
      omega
    · obtain ⟨k, hk⟩ := List.mem_iff_getElem?.mp hq
      exact h2 k q hk
  · rintro ⟨h1, h2⟩
    refine ⟨fun i j p q hi hj e => ?_, fun k q hk => h2 q (List.mem_of_getElem? hk)⟩
    have hn := List.pairwise_iff_getElem.mp h1
    obtain ⟨hil, hi2⟩ := List.getElem?_eq_some_iff.mp hi
    obtain ⟨hjl, hj2⟩ := List.getElem?_eq_some_iff.mp hj
    have hc : i < j ∨ j < i ∨ i = j := by omega
    rcases hc with u | u | u
    · refine (hn i j (by rw [List.length_map]; exact hil) (by rw [List.length_map]; exact hjl) u ?_).elim
      rw [List.getElem_map, List.getElem_map, hi2, hj2]; exact e
    · refine (hn j i (by rw [List.length_map]; exact hjl) (by rw [List.length_map]; exact hil) u ?_).elim
      rw [List.getElem_map, List.getElem_map, hi2, hj2]; exact e.symm
    · exact u
theorem vaD_swap {S : Nat → Prop} {A B : va_W} (h : va_D S (A ++ B)) : va_D S (B ++ A) := by
  rw [vaD_nodup] at h ⊢
  refine ⟨?_, fun q hq => h.2 q (List.mem_append.mpr ((List.mem_append.mp hq).symm))⟩
  have h1 := h.1
  rw [List.map_append] at h1 ⊢
  exact List.perm_append_comm.nodup_iff.mp h1
theorem vaD_left {S : Nat → Prop} {A B : va_W} (h : va_D S (A ++ B)) : va_D S A := by
  rw [vaD_nodup] at h ⊢
  refine ⟨?_, fun q hq => h.2 q (List.mem_append_left _ hq)⟩
  have h1 := h.1
  rw [List.map_append] at h1
  exact (List.nodup_append.mp h1).1
theorem vaD_right {S : Nat → Prop} {A B : va_W} (h : va_D S (A ++ B)) : va_D S B := vaD_left (vaD_swap h)
theorem zF_mem {ws : va_W} {q : Nat} : zF ws q ↔ ∃ e, (q, e) ∈ ws := by
  constructor
  · rintro ⟨k, e, h⟩
    exact ⟨e, List.mem_of_getElem? h⟩
  · rintro ⟨e, h⟩
    obtain ⟨k, hk⟩ := List.mem_iff_getElem?.mp h
    exact ⟨k, e, hk⟩
theorem zF_app {A B : va_W} {q : Nat} : zF (A ++ B) q ↔ zF A q ∨ zF B q := by
  rw [zF_mem, zF_mem, zF_mem]
  constructor
  · rintro ⟨e, h⟩
    rcases List.mem_append.mp h with u | u
    · exact Or.inl ⟨e, u⟩
    · exact Or.inr ⟨e, u⟩
  · rintro (⟨e, h⟩ | ⟨e, h⟩)
    · exact ⟨e, List.mem_append_left _ h⟩
    · exact ⟨e, List.mem_append_right _ h⟩
