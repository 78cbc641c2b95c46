/-! questions keep the relation -/
theorem asks_rel {α : Type} {V : Sz} {PV : Nat → Sz} {K : Nat} {V8 : Sz} (h : Rel V PV K V8) {cf : Nat → Int} {x : Option (α ⊕ Nat)} {r : α × Sz} (ha : Asks cf x V8 r) : Rel V PV K r.2 := h.keep (fun _ _ => rfl) (fun k hk => ha.1 k (by omega))
theorem asko_rel {α : Type} {V : Sz} {PV : Nat → Sz} {K : Nat} {V8 : Sz} (h : Rel V PV K V8) {x : Option α} {r : α × Sz} (ha : AskO x V8 r) : Rel V PV K r.2 := h.keep (fun _ _ => rfl) (fun k hk => ha.1 k (by omega))
theorem deq_rel {V : Sz} {PV : Nat → Sz} {K : Nat} {V8 V9 : Sz} (h : Rel V PV K V8) (hk : ∀ k : Nat, k ≠ 0 → k < 9 ∨ 13 < k → V9 k = V8 k) (hd : Deq (V8 0) (V9 0)) : Rel V PV K V9 := by
  have hL := h.1
  have hw := hL.2.2.1
  have h30 := hL.2.2.2
  have a1 := hw.2.1.2.1
  refine h.row (leq_LR (deq_leq hd hw h30) hL hd.2) (wfz_same hw (hd.1 2 (by omega) (by omega) (by omega)) (fun i i0 i1 => hd.1 i (by omega) (by omega) (by omega)) h.z) (fun k hk2 => hk k (by omega) (by omega))
theorem askw_rel {α : Type} {V : Sz} {PV : Nat → Sz} {K : Nat} {V8 : Sz} (h : Rel V PV K V8) {cf : Nat → Int} {x : Option (α ⊕ Nat)} {r : α × Sz} (ha : AskW cf x V8 r) : Rel V PV K r.2 := deq_rel h ha.1 ha.2.1
theorem askv_rel {α : Type} {V : Sz} {PV : Nat → Sz} {K : Nat} {V8 : Sz} (h : Rel V PV K V8) {x : Option α} {r : α × Sz} (ha : AskV x V8 r) : Rel V PV K r.2 := deq_rel h ha.1 ha.2.1
