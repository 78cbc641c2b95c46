/-- a block that has grown beside one that stays -/
theorem vaD_join {S : Nat → Prop} {A w0 w1 : va_W} {sz : Nat} (hD : va_D S (A ++ w0)) (hlt : ∀ q ∈ A, q.1 < sz) (h1 : va_D (zG w0 sz) w1) (hS : ∀ q : Nat, zG w0 sz q → S q) : va_D S (A ++ w1) := by
  rw [vaD_nodup] at hD h1 ⊢
  obtain ⟨n0, s0⟩ := hD
  rw [List.map_append] at n0 ⊢
  have hn := List.nodup_append.mp n0
  refine ⟨List.nodup_append.mpr ⟨hn.1, h1.1, fun a ha b hb e => ?_⟩, fun q hq => ?_⟩
  · obtain ⟨q, hq, rfl⟩ := List.mem_map.mp ha
    obtain ⟨r, hr, rfl⟩ := List.mem_map.mp hb
    rcases h1.2 r hr with u | u
    · obtain ⟨ee, hee⟩ := zF_mem.mp u
      exact hn.2.2 q.1 ha r.1 (List.mem_map.mpr ⟨_, hee, rfl⟩) e
    · have := hlt q hq
      omega
  · rcases List.mem_append.mp hq with u | u
    · exact s0 q (List.mem_append_left _ u)
    · exact hS q.1 (h1.2 q u)
