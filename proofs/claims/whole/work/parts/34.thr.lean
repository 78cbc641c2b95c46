/-! methods that throw: the contract, its rows -/
def zNms : List String := ["java/lang/RuntimeException", "java/lang/Exception"]
def zEx (k : Nat) : String := if k = 0 then "java/lang/IndexOutOfBoundsException" else if k = 1 then "java/lang/IllegalArgumentException" else "java/lang/IllegalStateException"
def zXq (A : Nat → Prop) (U : State) (H : Heap) : Prop := vx_Zq Bundle.tN "UNASSIGNED_STACK" Bundle.steD A U H ∧ vx_Zq Bundle.tN "SUPPRESSED_SENTINEL" Bundle.listD A U H
theorem zXq.moved {A : Nat → Prop} {u U : State} {H : Heap} (hvm : u.vm.Alike U.vm) (h : zXq A u H) : zXq A U H := ⟨vx_Zq.moved hvm h.1, vx_Zq.moved hvm h.2⟩
theorem zXq.kept {A : Nat → Prop} {U : State} {H H1 : Heap} (h : zXq A U H) (hq : ∀ a : Nat, a < H.size → ¬ A a → H1[a]? = H[a]?) : zXq A U H1 := ⟨vx_Zq.kept h.1 hq, vx_Zq.kept h.2 hq⟩
theorem zXq.narrow {A B : Nat → Prop} {U : State} {H : Heap} (h : zXq A U H) (hAB : ∀ q, B q → A q) : zXq B U H := ⟨vx_Zq.narrow h.1 hAB, vx_Zq.narrow h.2 hAB⟩
/-- the texts that the class throws, by their places in its pool -/
def zTx : List (Nat × String) := [(130, "what is out of range"), (240, "there are 30 declarations"), (254, "there are 60 gifts"), (263, "the other donor is the donor of the gift"), (268, "the gift cannot be split"), (274, "less is left of the gift"), (283, "no claim can be made on the day"), (290, "there is no such claim"), (373, "no state is saved"), (380, "there is no such donor"), (382, "there is no such declaration"), (384, "there is no such gift"), (386, "there is no such part"), (388, "a value is out of range")]
def zBd : List Cond := [.castable (zEx 0) (zEx 0), .castable (zEx 1) (zEx 1), .castable (zEx 2) (zEx 2), .declares (Bundle.initS "java/lang/RuntimeException"), .declares (Bundle.initS "java/lang/Exception"), .declares (Bundle.initS Bundle.tN)]
theorem zBd_warm {s U : State} (hW : s.WarmedH U.vm) (h : ∀ w ∈ zBd, va_Nw w s) : ∀ w ∈ zBd, va_Nw w U := by
  intro w hw
  have hs := h w hw
  have hd : ∀ y : MethodName, va_Nw (.declares y) s → va_Nw (.declares y) U := fun y hZ => va_tabs rfl (rfl : (s.setVm U.vm).vm = U.vm) (by rw [Cond.declares_setVm hW.alike]; exact hZ)
  rcases List.mem_cons.mp hw with rfl | hw
  · exact va_Nw.warmC hW hs
  rcases List.mem_cons.mp hw with rfl | hw
  · exact va_Nw.warmC hW hs
  rcases List.mem_cons.mp hw with rfl | hw
  · exact va_Nw.warmC hW hs
  rcases List.mem_cons.mp hw with rfl | hw
  · exact hd _ hs
  rcases List.mem_cons.mp hw with rfl | hw
  · exact hd _ hs
  rcases List.mem_cons.mp hw with rfl | hw
  · exact hd _ hs
  cases hw
theorem zBd_tabs {w : Cond} (hw : w ∈ zBd) : w.onTables = true := by
  rcases List.mem_cons.mp hw with rfl | hw
  · rfl
  rcases List.mem_cons.mp hw with rfl | hw
  · rfl
  rcases List.mem_cons.mp hw with rfl | hw
  · rfl
  rcases List.mem_cons.mp hw with rfl | hw
  · rfl
  rcases List.mem_cons.mp hw with rfl | hw
  · rfl
  rcases List.mem_cons.mp hw with rfl | hw
  · rfl
  cases hw
def zTxs (U : State) : Prop := (∀ q ∈ zTx, ∃ a : Nat, vk_R "AidRegister" q.1 q.2 a U) ∧ ∀ w ∈ zBd, va_Nw w U
theorem zTxs.warm {s U : State} (hW : s.WarmedH U.vm) (h : zTxs s) : zTxs U := ⟨fun q hq => (h.1 q hq).elim fun a ha => ⟨a, vk_R.warm hW ha⟩, zBd_warm hW h.2⟩
/-- what a throw needs: no traces; the two statics, outside of what is new; the texts -/
def zX (l : Launch) (U : State) : Prop := l.stackTraces = false ∧ zXq (fun q => U.heap.size ≤ q) U U.heap ∧ zTxs U
def XCx (E : String) : String → State → State → Prop := fun E' st t => E' = E ∧ st.heap.size ≤ t.heap.size ∧ ∀ q : Nat, q < st.heap.size → t.heap[q]? = st.heap[q]?
/-- a contract: from the world W0 the method y throws; what was there is as it was -/
def MX (l : Launch) (y : MethodName) (cc : ByteArray) (n : Nat) (ret : Option FieldType) (rm : Room) (D : va_G) (kA : Nat → ClassId) (av : List Value) (W0 : va_W) (E : String) : Prop :=
  vx_Met l y (ws_ y cc n ret) rm (va_Pc av (fun U => va_P D vwCl W0 U.heap ∧ zK D kA U ∧ zX l U)) (fun _ _ _ _ => False) (XCx E) 1 6 (fun _ => False)
theorem zblindX {l : Launch} {D : va_G} {kA : Nat → ClassId} {av : List Value} {W0 : va_W} : FrameBlind (va_Pc av (fun U => va_P D vwCl W0 U.heap ∧ zK D kA U ∧ zX l U)) := fun _ U _ _ h => ⟨h.1, h.2.1, h.2.2.1.calling, h.2.2.2.1, zXq.moved (Vm.Alike.refl U.vm) h.2.2.2.2.1, ⟨fun q hq => (h.2.2.2.2.2.1 q hq).elim fun x hx => ⟨x, vk_R.same rfl hx⟩, fun w hw => va_tabs (zBd_tabs hw) (rfl : U.vm = _) (h.2.2.2.2.2.2 w hw)⟩⟩
abbrev QX (below : List Frame) (E : String) (args : Array Value) (s : State) : State → Prop := vx_MQ below (fun _ _ _ _ => False) (XCx E) args s 1 6 (fun _ => False)
/-! functional texts that may throw -/
def bl {α : Type} (x : Option α) : Option (α ⊕ Nat) := x.map Sum.inl
theorem bl_inl {α : Type} {x : Option α} {r : α} (h : bl x = some (.inl r)) : x = some r := by
  cases x with
  | none => cases h
  | some a => cases h; rfl
theorem bl_inr {α : Type} {x : Option α} {e : Nat} (h : bl x = some (.inr e)) : False := by
  cases x with
  | none => cases h
  | some a => cases h
def bx {α β : Type} (x : Option (α ⊕ Nat)) (k : α → Option (β ⊕ Nat)) : Option (β ⊕ Nat) := match x with
  | none => none
  | some (.inl a) => k a
  | some (.inr e) => some (.inr e)
theorem bx_inl {α β : Type} {x : Option (α ⊕ Nat)} {k : α → Option (β ⊕ Nat)} {r : β} (h : bx x k = some (.inl r)) : ∃ a, x = some (.inl a) ∧ k a = some (.inl r) := by
  match x, h with
  | some (.inl a), h => exact ⟨a, rfl, h⟩
theorem bx_inr {α β : Type} {x : Option (α ⊕ Nat)} {k : α → Option (β ⊕ Nat)} {e : Nat} (h : bx x k = some (.inr e)) : x = some (.inr e) ∨ ∃ a, x = some (.inl a) ∧ k a = some (.inr e) := by
  match x, h with
  | some (.inl a), h => exact Or.inr ⟨a, rfl, h⟩
  | some (.inr _), h => cases h; exact Or.inl rfl
section ZTH
variable {p : Program} {l : Launch} {e : Env} {R : Room} {s : State} {m : MethodId} {args : Array Value} {below : List Frame} {meth : Method} {c : Code} {H H0 : Heap} {locs : List Loc} {cells slots : Nat} {Q : State → Prop}
variable {pc nL : Nat} {ls : Array Slot} {rest st0 : List Value} {A0 : Nat → Prop} {D : va_G} {kA : Nat → ClassId} {cc : ByteArray} {own : String} {o : Option Value} {a : Array Value} {W0 W1 : va_W} {E : String}
theorem zXstart {y : MethodName} {n : Nat} {rm : Room} {ret : Option FieldType} {av : List Value} (hy : plainName y.cls = true) (hown : y.cls = own) (hlen : (lg_sl av).length ≤ n)
    (body : ∀ (p : Program) (e : Env) (s : State) (m : MethodId) (args : Array Value) (below : List Frame) (meth : Method) (c : Code) (ls : Array Slot), CallFix p m c cc n s args lw_all own → zK D kA s → va_P D vwCl W0 s.heap → zX l s → lv_has ls n (lv_args 0 av) → (∀ (x : ExceptionTableEntry) (_ : x ∈ c.exceptionTable.toList), False) → meth.locks = false → W p l e rm s m args below meth c s.heap [] 0 0 (QX below E args s) (F0 m 0 ls [])) : MX l y cc n ret rm D kA av W0 E := by
  refine vx_ofW (ws' := lw_all) (cc := cc) (maxL := n) (ret := ret) hy rfl ?_
  intro p e s m args below meth c s₁ B hml ht hv
  obtain ⟨rfl, hP, hK, hX⟩ := hv
  have hts := atoms_spec (ws := ws_ y cc n ret) B.pre
  subst hown
  have hC : CallFix p m c cc n s av.toArray lw_all y.cls := ⟨B.exec, B.bytes, hml, findClass_of_methodNamed B.named, fun w h => hts w (List.mem_cons_of_mem _ h)⟩
  refine zentry hlen (fun ls hl => ?_)
  exact body p e s m _ below meth c ls hC hK hP hX hl ht B.notSynchronized
/-- behind a call that threw: nothing here catches it -/
theorem zoutX {q9 : Addr} {ce : Cell} {H1 : Heap} (hx : ∀ x ∈ c.exceptionTable.toList, False) (hlocks : meth.locks = false) (hz : s.heap.size ≤ H1.size) (hk : ∀ q : Nat, q < s.heap.size → H1[q]? = s.heap[q]?) (hce : H1[q9]? = some ce) (hcv : ce.vm = .none) (hcl : s.vm.findClass E = some ce.cls) :
    vx_W p l e R s m args below meth c H1 [] 1 6 (QX below E args s) (F0 m pc ls rest) q9 :=
  vx_out (fun x h => (hx x h).elim) hlocks hce hcv hcl (fun t ht _ => ⟨rfl, by rw [ht]; exact hz, fun q hq => by rw [ht]; exact hk q hq⟩) (fun z hz => absurd hz List.not_mem_nil) (Nat.le_refl _) (Nat.le_refl _)
theorem zbackX {mc ms : Nat} (hr : vx_Run p l e R s m args below meth c H locs cells slots mc ms (F0 m pc ls st0) rest (fun _ _ _ => False) (XCx E) (fun _ => False))
    (kx : ∀ (ce : Cell) (q9 : Addr) (H1 : Heap), H.size ≤ H1.size → (∀ q : Nat, q < H.size → H1[q]? = H[q]?) → H1[q9]? = some ce → ce.vm = .none → s.vm.findClass E = some ce.cls → vx_W p l e R s m args below meth c H1 locs (cells + mc) (slots + ms) Q (F0 m pc ls rest) q9) : W p l e R s m args below meth c H locs cells slots Q (F0 m pc ls st0) := by
  intro T hT X
  rcases hr T hT X with ⟨v, st₀, t, T', L, h0, X', hL, e1, e2, hf, st⟩ | ⟨q, st₀, t, T', L, E', ce, h0, X', hL, e1, e2, ⟨rfl, hz, hk⟩, hce, hcv, hcl, st⟩
  · exact hf.elim
  · have hLn : L = [] := List.eq_nil_iff_forall_not_mem.mpr (fun z hz => hL z hz)
    subst hLn
    rw [List.append_nil] at X'
    subst h0
    obtain ⟨t2, a1, b1⟩ := kx ce q T'.heap (by rw [e1]; exact hz) (fun q h => by rw [e1]; exact hk q h) (by rw [e1]; exact hce) hcv hcl T' rfl X'
    exact ⟨t2, st.trans a1, b1⟩
theorem zXcall {s U : State} (hX : zX l s) (hU : U.heap = s.heap) (hW : s.WarmedH U.vm) : zX l U := ⟨hX.1, by rw [hU]; exact zXq.moved hW.alike hX.2.1, hX.2.2.warm hW⟩
/-- a call of an instance method that throws, from the heap of the start; the caller throws on -/
theorem zcVX {idx n k : Nat} {C : String} {y : MethodName} {b : ByteArray} {ret : Option FieldType} {rm : Room} {b0 ci q0 : Nat} {fs As : List Value} {r : vw_C} (hC : CallFix p m c cc nL s args lw_all own) (hK : zK D kA s) (hX : zX l s) (hx : ∀ x ∈ c.exceptionTable.toList, False) (hlocks : meth.locks = false) (hM : MX l y b n ret rm D kA (.ref b0 :: As) W0 E) (hw : zwV own idx C y b n ret k)
    (hPc : va_P D vwCl W0 s.heap) (he : W0[q0]? = some (b0, .inr (ci, fs))) (hc : vwCl[ci]? = some r) (hrC : r.1 = C) (hk : As.length = k) (hl : ls.size = nL) (hst : st0 = As.reverse ++ .ref b0 :: rest) (hcat : (rest.map fun v => v.category).sum ≤ 8) (hR : rm.frames + 1 ≤ R.frames ∧ 8 + (n + 11) + rm.locals ≤ R.locals) (hrm : rm.cells = 1 ∧ rm.slots = 6) (hf : 1 ≤ R.cells ∧ 6 ≤ R.slots) (hdg : decode cc pc = .ok (.invokevirtual idx, 3)) : W p l e R s m args below meth c s.heap [] 0 0 (QX below E args s) (F0 m pc ls st0) := by
  subst hrC
  exact zbackX (vx_runV (g := F0 m pc ls st0) (As := As) (rest := rest) hC hM (zcwV hC.2.2.2.2 hw hR hrm.1 hrm.2) ⟨zblindX, va_recv hK.1 hPc hc he, fun U hU hW => ⟨rfl, by rw [hU]; exact hPc, hK.warm hW, zXcall hX hU hW⟩⟩ rfl hk hl hst (lv_room hcat) hdg hf) (fun ce q9 H1 h1 h2 h3 h4 h5 => zoutX hx hlocks h1 h2 h3 h4 h5)
theorem zcSX {idx n k : Nat} {y : MethodName} {b : ByteArray} {ret : Option FieldType} {rm : Room} {As : List Value} (hC : CallFix p m c cc nL s args lw_all own) (hK : zK D kA s) (hX : zX l s) (hx : ∀ x ∈ c.exceptionTable.toList, False) (hlocks : meth.locks = false) (hM : MX l y b n ret rm D kA As W0 E) (hw : zwS own idx y b n ret k)
    (hPc : va_P D vwCl W0 s.heap) (hk : As.length = k) (hl : ls.size = nL) (hst : st0 = As.reverse ++ rest) (hcat : (rest.map fun v => v.category).sum ≤ 8) (hR : rm.frames + 1 ≤ R.frames ∧ 8 + (n + 11) + rm.locals ≤ R.locals) (hrm : rm.cells = 1 ∧ rm.slots = 6) (hf : 1 ≤ R.cells ∧ 6 ≤ R.slots) (hdg : decode cc pc = .ok (.invokestatic idx, 3)) : W p l e R s m args below meth c s.heap [] 0 0 (QX below E args s) (F0 m pc ls st0) :=
  zbackX (vx_runS (g := F0 m pc ls st0) (As := As) (rest := rest) hC hM (zcwS hC.2.2.2.2 hw hR hrm.1 hrm.2) ⟨zblindX, fun U hU hW => ⟨rfl, by rw [hU]; exact hPc, hK.warm hW, zXcall hX hU hW⟩⟩ rfl hk hl hst (lv_room hcat) hdg hf) (fun ce q9 H1 h1 h2 h3 h4 h5 => zoutX hx hlocks h1 h2 h3 h4 h5)
end ZTH
