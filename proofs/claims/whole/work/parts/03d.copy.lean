/-! copies of rows, and calls by the name of a nest mate -/
def cpZ (f g : Nat → Int) (sp dp n : Nat) : Nat → Int := fun k => if dp ≤ k ∧ k < dp + n then f (sp + (k - dp)) else g k
theorem aI_cpy (f g : Nat → Int) (sp dp n : Nat) : va_cpy (aI f) (aI g) sp dp n = aI (cpZ f g sp dp n) := by
  funext k
  show (if dp ≤ k ∧ k < dp + n then Int32.ofInt (f (sp + (k - dp))) else Int32.ofInt (g k)) = Int32.ofInt (if dp ≤ k ∧ k < dp + n then f (sp + (k - dp)) else g k)
  split <;> rfl
abbrev cpOk (n0 n1 : Nat) (sp dp n : Int) : Prop := 0 ≤ sp ∧ 0 ≤ dp ∧ 0 ≤ n ∧ sp + n ≤ (n0 : Int) ∧ dp + n ≤ (n1 : Int)
theorem oI_nn {x : Int} (h : 0 ≤ x ∧ x < 2147483648) : ¬ Int32.ofInt x < 0 ∧ (Int32.ofInt x).toNatClampNeg = x.toNat := by
  have e := oI_toInt (x := x) (by omega)
  refine ⟨fun q => ?_, ?_⟩
  · have h1 := (oI_lt ⟨(by omega : rng x), rng0⟩).mp q
    omega
  · show (Int32.ofInt x).toInt.toNat = x.toNat
    rw [e]
section ZCP
variable {p : Program} {l : Launch} {e : Env} {R : Room} {s : State} {m : MethodId} {args : Array Value} {below : List Frame} {meth : Method} {c : Code} {H H0 : Heap} {locs : List Loc} {cells slots : Nat} {Q : State → Prop}
variable {pc nL : Nat} {ls : Array Slot} {rest st0 : List Value} {A0 : Nat → Prop} {D : va_G} {kA : Nat → ClassId} {cc : ByteArray} {own : String} {o : Option Value} {a : Array Value} {W0 W1 : va_W}
theorem jcopy {ws : va_W} {q0 q1 a0 a1 n0 n1 idx : Nat} {f g : Nat → Int} {sp dp n : Int} (hC : CallFix p m c cc nL s args lw_all own) (hK : zK D kA s) (hP : va_P D vwCl ws H) (hD : va_D A0 ws) (hS : va_S A0 H0 H locs) (hlk : Cond.methodLink own idx arraycopyName ∈ lw_all) (ha0 : ws[q0]? = some (a0, .inl (kA 0, n0, .inl (aI f)))) (ha1 : ws[q1]? = some (a1, .inl (kA 0, n1, .inl (aI g)))) (hs : ls.size = nL) (hn0 : n0 < 2147483648) (hn1 : n1 < 2147483648) (hok : cpOk n0 n1 sp dp n) (hfr : 1 ≤ R.frames) (hlo : (rest.map fun v => v.category).sum + (nativeFrameWords "java/lang/System" "arraycopy" 5 + 11) ≤ R.locals) (hdg : decode cc pc = .ok (.invokestatic idx, 3)) (kk : ∀ (H1 : Heap) (locs1 : List Loc), va_P D vwCl (ws.set q1 (a1, .inl (kA 0, n1, .inl (aI (cpZ f g sp.toNat dp.toNat n.toNat))))) H1 → va_S A0 H0 H1 locs1 → W p l e R s m args below meth c H1 locs1 cells slots Q (F0 m (pc + 3) ls rest)) : W p l e R s m args below meth c H locs cells slots Q (F0 m pc ls (vI n :: vI dp :: .ref a1 :: vI sp :: .ref a0 :: rest)) := by
  obtain ⟨h1, h2, h3, h4, h5⟩ := hok
  have e1 := oI_nn (x := sp) (by omega)
  have e2 := oI_nn (x := dp) (by omega)
  have e3 := oI_nn (x := n) (by omega)
  refine va_copyi hC.1 hC.2.1 (by rw [hC.2.2.1, hs]) hC.2.2.2.1 (hC.2.2.2.2 _ hlk) (hC.2.2.2.2 _ qw_495) (hC.2.2.2.2 _ qw_494) (hC.2.2.2.2 _ qw_12) hK.1 hP hD hS q0 q1 0 0 ha0 ha1 rfl rfl rfl e1.1 e2.1 e3.1 (by rw [e1.2, e3.2]; omega) (by rw [e2.2, e3.2]; omega) (fun _ _ => rfl) hfr hlo hdg (fun H1 locs1 hP1 _ hS1 => kk H1 locs1 ?_ hS1)
  rw [← aI_cpy, ← e1.2, ← e2.2, ← e3.2]
  exact hP1
def zwN (y : MethodName) (b : ByteArray) (n : Nat) (ret : Option FieldType) (k : Nat) : Prop :=
  (Cond.static y ∈ lw_all ∧ Cond.initialized y.cls ∈ lw_all ∧ Cond.code y b n ret ∈ lw_all) ∧ y.cls ≠ "java/lang/invoke/MethodHandle" ∧ y.cls ≠ "java/lang/invoke/VarHandle" ∧ (parseMethodDescriptor y.desc).map (fun d => d.parameters.length) = some k
theorem zcNZ {idx n k : Nat} {host : String} {y : MethodName} {b : ByteArray} {ret : Option FieldType} {rm : Room} {As : List Value} (hC : CallFix p m c cc nL s args lw_all own) (hK : zK D kA s) (hM : MZ l y b n ret rm D kA As W0 W1 o) (hw : zwN y b n ret k) (hnt : (own, idx, y, host) ∈ zNt) (hS : va_S A0 H0 H locs) (hA : ∀ q, zF W0 q → A0 q)
    (hPc : va_P D vwCl W0 H) (hk : As.length = k) (hl : ls.size = nL) (hst : st0 = As.reverse ++ rest) (hcat : (rest.map fun v => v.category).sum ≤ 8) (hR : rm.frames + 1 ≤ R.frames ∧ 8 + (n + 11) + rm.locals ≤ R.locals) (hrm : rm.cells = 0 ∧ rm.slots = 0) (hf : cells ≤ R.cells ∧ slots ≤ R.slots) (hdg : decode cc pc = .ok (.invokestatic idx, 3))
    (kk : ∀ (H1 : Heap) (locs1 : List Loc), va_P D vwCl W1 H1 → (∀ q : Nat, q < H.size → ¬ zF W0 q → H1[q]? = H[q]?) → va_S A0 H0 H1 locs1 → W p l e R s m args below meth c H1 locs1 cells slots Q (F0 m (pc + 3) ls (o.toList ++ rest))) : W p l e R s m args below meth c H locs cells slots Q (F0 m pc ls st0) := by
  obtain ⟨⟨h2, h3, h5⟩, hd⟩ := hw
  exact zbackZ (va_runSN (host := host) (g := F0 m pc ls st0) (As := As) (rest := rest) hC hM ⟨va_cnB (Ts := lw_all) (ws' := lw_all) k hC.2.2.2.2 (good_ws h5) rfl hrm.1 hrm.2 (hK.2 _ hnt) (hC.2.2.2.2 _ h3) hd hR, hC.2.2.2.2 _ h2, trivial⟩ ⟨zblind, fun U hU hW => ⟨rfl, by rw [hU]; exact hPc, hK.warm hW⟩⟩ rfl hk hl hst (lv_room hcat) hdg hf) hS hA kk
theorem znX4_64 : (RX4, 64, yX7_copyRow, "AidRegister") ∈ zNt := by decide +kernel
theorem znX1_25 : (RX1, 25, yX7_copyRow, "AidRegister") ∈ zNt := by decide +kernel
theorem znX3_49 : (RX3, 49, yX7_copyRow, "AidRegister") ∈ zNt := by decide +kernel
theorem znX0_19 : (RX0, 19, yX7_copyRow, "AidRegister") ∈ zNt := by decide +kernel
theorem zwNcopy : zwN yX7_copyRow cX7_copyRow 2 none 2 := ⟨⟨qw_490, qw_1, qw_491⟩, by decide +kernel, by decide +kernel, by decide +kernel⟩
end ZCP
theorem zjoinB {D : va_G} {cl : List vw_C} {ws wb0 wb1 wo : va_W} {H H1 : Heap} (hP : va_P D cl ws H) (hD : va_D (fun _ => True) ws) (k m : Nat) (is : List Nat) (h0 : is.map (fun i => ws[i]?) = (wb0 ++ wo).map some) (hf : is.take m = List.range' k m) (hb0 : wb0.length = m) (hb1 : wb1.length = m)
    (hk : ∀ q : Nat, q < H.size → ¬ zF (wb0 ++ wo) q → H1[q]? = H[q]?) (hP1 : va_P D cl (wb1 ++ wo) H1) : va_P D cl (ws.take k ++ (wb1 ++ ws.drop (k + m))) H1 := by
  have at0 : ∀ (j : Nat) (i : Nat), is[j]? = some i → ws[i]? = (wb0 ++ wo)[j]? := fun j i hj => by
    have h1 : (is.map (fun i => ws[i]?))[j]? = ((wb0 ++ wo).map some)[j]? := by rw [h0]
    rw [List.getElem?_map, List.getElem?_map, hj] at h1
    cases hw : (wb0 ++ wo)[j]? with
    | none => rw [hw] at h1; simp at h1
    | some w => rw [hw] at h1; simpa using h1
  have hlen : is.length = (wb0 ++ wo).length := by simpa using congrArg List.length h0
  have other : ∀ (i : Nat) (q : Nat × va_E), ws[i]? = some q → (i < k ∨ k + m ≤ i) → (∃ j : Nat, (wb1 ++ wo)[j]? = some q) ∨ ¬ zF (wb0 ++ wo) q.1 := by
    intro i q hi hout
    by_cases hz : zF (wb0 ++ wo) q.1
    · left
      obtain ⟨j, e, hj⟩ := hz
      have hjl : j < is.length := by rw [hlen]; exact (List.getElem?_eq_some_iff.mp hj).1
      have h5 := at0 j is[j] (List.getElem?_eq_getElem hjl)
      rw [hj] at h5
      have hij := hD.1 i is[j] q (q.1, e) hi h5 rfl
      have hjm : m ≤ j := by
        by_cases hlt : j < m
        · exfalso
          have h6 : (is.take m)[j]? = some is[j] := by rw [List.getElem?_take_of_lt hlt]; exact List.getElem?_eq_getElem hjl
          rw [hf, List.getElem?_range' hlt] at h6
          have h7 := Option.some.inj h6
          omega
        · omega
      refine ⟨j, ?_⟩
      rw [List.getElem?_append_right (by omega)] at hj ⊢
      rw [hb1, ← hb0, hj]
      have h8 : ws[i]? = some (q.1, e) := by rw [hij]; exact h5
      rw [hi] at h8
      exact h8.symm
    · exact Or.inr hz
  intro x q hq
  rcases List.mem_append.mp (List.mem_of_getElem? hq) with h | h
  · obtain ⟨i, hi⟩ := List.getElem?_of_mem h
    rw [List.getElem?_take] at hi
    split at hi
    next hlt =>
      rcases other i q hi (Or.inl hlt) with ⟨j, hj⟩ | hz
      · exact hP1 j q hj
      · exact (hP i q hi).kept (hk q.1 (hP i q hi).lt hz)
    next => cases hi
  · rcases List.mem_append.mp h with h | h
    · obtain ⟨i, hi⟩ := List.getElem?_of_mem h
      exact hP1 i q (by rw [List.getElem?_append_left (List.getElem?_eq_some_iff.mp hi).1]; exact hi)
    · obtain ⟨i, hi⟩ := List.getElem?_of_mem h
      rw [List.getElem?_drop] at hi
      rcases other (k + m + i) q hi (Or.inr (by omega)) with ⟨j, hj⟩ | hz
      · exact hP1 j q hj
      · exact (hP _ q hi).kept (hk q.1 (hP _ q hi).lt hz)
theorem zjoinC {D : va_G} {cl : List vw_C} {ws wb0 wb1 : va_W} {H H1 : Heap} (hP : va_P D cl ws H) (hD : va_D (fun _ => True) ws) (k m : Nat) (is : List Nat) (h0 : is.map (fun i => ws[i]?) = wb0.map some) (hf : is.take m = List.range' k m) (hb0 : wb0.length = m) (hb1 : wb1.length = m)
    (hk : ∀ q : Nat, q < H.size → ¬ zF wb0 q → H1[q]? = H[q]?) (hP1 : va_P D cl wb1 H1) : va_P D cl (ws.take k ++ (wb1 ++ ws.drop (k + m))) H1 :=
  zjoinB (wo := []) hP hD k m is (by rw [List.append_nil]; exact h0) hf hb0 hb1 (by rw [List.append_nil]; exact hk) (by rw [List.append_nil]; exact hP1)
