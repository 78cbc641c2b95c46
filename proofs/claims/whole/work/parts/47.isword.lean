
/-! the reference's reader: contracts with the texts at hand -/
def MPs (l : Launch) (y : MethodName) (cc : ByteArray) (n : Nat) (ret : Option FieldType) (rm : Room) (D : va_G) (kA : Nat → ClassId) (adK adV : Nat → Nat) (av : List Value) (W0 : va_W) (o : Option Value) : Prop :=
  Met l y (ws_ y cc n ret) rm (va_Pc av (fun U => va_P D vwCl W0 U.heap ∧ zK D kA U ∧ zS adK adV (zF W0) U U.heap)) (fun _ st oc t => oc = .returned o ∧ t.heap = st.heap) 0 0 (fun _ => False)
def MZs (l : Launch) (y : MethodName) (cc : ByteArray) (n : Nat) (ret : Option FieldType) (rm : Room) (D : va_G) (kA : Nat → ClassId) (adK adV : Nat → Nat) (av : List Value) (W0 W1 : va_W) (o : Option Value) : Prop :=
  Met l y (ws_ y cc n ret) rm (va_Pc av (fun U => va_P D vwCl W0 U.heap ∧ zK D kA U ∧ zS adK adV (zF W0) U U.heap)) (fun _ st oc t => oc = .returned o ∧ va_P D vwCl W1 t.heap ∧ va_F (zF W0) st t) 0 0 (zF W0)
theorem zblindS {D : va_G} {kA : Nat → ClassId} {av : List Value} {W0 : va_W} {adK adV : Nat → Nat} : FrameBlind (va_Pc av (fun U => va_P D vwCl W0 U.heap ∧ zK D kA U ∧ zS adK adV (zF W0) U U.heap)) := fun _ _ _ _ h => ⟨h.1, h.2.1, h.2.2.1.calling, h.2.2.2.calling⟩
section ZRS
variable {p : Program} {l : Launch} {e : Env} {R : Room} {s : State} {m : MethodId} {args : Array Value} {below : List Frame} {meth : Method} {c : Code} {H H0 : Heap} {locs : List Loc} {cells slots : Nat} {Q : State → Prop}
variable {pc nL : Nat} {ls : Array Slot} {rest st0 : List Value} {A0 : Nat → Prop} {D : va_G} {kA : Nat → ClassId} {cc : ByteArray} {own : String} {o : Option Value} {a : Array Value} {W0 W1 : va_W} {adK adV : Nat → Nat}
theorem zPZs {y : MethodName} {n : Nat} {rm : Room} {av : List Value} (hy : plainName y.cls = true) (hown : y.cls = own) (hlen : (lg_sl av).length ≤ n)
    (body : ∀ (p : Program) (e : Env) (s : State) (m : MethodId) (args : Array Value) (below : List Frame) (meth : Method) (c : Code) (ls : Array Slot) (Q : State → Prop), CallFix p m c cc n s args lw_all own → zK D kA s → zS adK adV (zF W0) s s.heap → va_P D vwCl W0 s.heap → lv_has ls n (lv_args 0 av) → (∀ (v : Int32) (pc : Nat) (ls : Array Slot) (_ : v = 0 ∨ v = 1), o = some (.int v) → decode cc pc = .ok (.ireturn, 1) → W p l e rm s m args below meth c s.heap [] 0 0 Q (F0 m pc ls [.int v])) → W p l e rm s m args below meth c s.heap [] 0 0 Q (F0 m 0 ls [])) : MPs l y cc n (some .boolean) rm D kA adK adV av W0 o := by
  refine Met.ofW (ws' := lw_all) (cc := cc) (maxL := n) (ret := (some .boolean)) hy rfl ?_
  intro p e s m args below meth c s₁ B hml hv
  obtain ⟨rfl, hP, hK, hZ⟩ := hv
  have hts := atoms_spec (ws := ws_ y cc n (some .boolean)) B.pre
  subst hown
  have hC : CallFix p m c cc n s av.toArray lw_all y.cls := ⟨B.exec, B.bytes, hml, findClass_of_methodNamed B.named, fun w h => hts w (List.mem_cons_of_mem _ h)⟩
  refine zentry hlen (fun ls hl => ?_)
  refine body p e s m _ below meth c ls _ hC hK hZ hP hl (fun v pc ls hz ho hdg => ?_)
  exact W.zret (v := v) hC.1 hC.2.1 B.returns (by rcases hz with rfl | rfl <;> rfl) (fun t ht _ => ⟨by rw [ho], ht⟩) (fun q hq => absurd hq List.not_mem_nil) hdg B.notSynchronized
theorem zZZs {y : MethodName} {n : Nat} {rm : Room} {av : List Value} (hy : plainName y.cls = true) (hown : y.cls = own) (hlen : (lg_sl av).length ≤ n)
    (body : ∀ (p : Program) (e : Env) (s : State) (m : MethodId) (args : Array Value) (below : List Frame) (meth : Method) (c : Code) (ls : Array Slot) (Q : State → Prop), CallFix p m c cc n s args lw_all own → zK D kA s → zS adK adV (zF W0) s s.heap → va_P D vwCl W0 s.heap → lv_has ls n (lv_args 0 av) → (∀ (v : Int32) (pc : Nat) (ls : Array Slot) (H1 : Heap) (locs1 : List Loc) (_ : v = 0 ∨ v = 1), o = some (.int v) → va_P D vwCl W1 H1 → va_S (zF W0) s.heap H1 locs1 → decode cc pc = .ok (.ireturn, 1) → W p l e rm s m args below meth c H1 locs1 0 0 Q (F0 m pc ls [.int v])) → W p l e rm s m args below meth c s.heap [] 0 0 Q (F0 m 0 ls [])) : MZs l y cc n (some .boolean) rm D kA adK adV av W0 W1 o := by
  refine Met.ofW (ws' := lw_all) (cc := cc) (maxL := n) (ret := (some .boolean)) hy rfl ?_
  intro p e s m args below meth c s₁ B hml hv
  obtain ⟨rfl, hP, hK, hZ⟩ := hv
  have hts := atoms_spec (ws := ws_ y cc n (some .boolean)) B.pre
  subst hown
  have hC : CallFix p m c cc n s av.toArray lw_all y.cls := ⟨B.exec, B.bytes, hml, findClass_of_methodNamed B.named, fun w h => hts w (List.mem_cons_of_mem _ h)⟩
  refine zentry hlen (fun ls hl => ?_)
  refine body p e s m _ below meth c ls _ hC hK hZ hP hl (fun v pc ls H1 locs1 hz ho hP1 hS1 hdg => ?_)
  exact W.zret (v := v) hC.1 hC.2.1 B.returns (by rcases hz with rfl | rfl <;> rfl) (fun t ht _ => ⟨by rw [ho], by rw [ht]; exact hP1, hS1.F ht⟩) hS1.2.2 hdg B.notSynchronized
theorem zZIs {y : MethodName} {n : Nat} {rm : Room} {av : List Value} (hy : plainName y.cls = true) (hown : y.cls = own) (hlen : (lg_sl av).length ≤ n)
    (body : ∀ (p : Program) (e : Env) (s : State) (m : MethodId) (args : Array Value) (below : List Frame) (meth : Method) (c : Code) (ls : Array Slot) (Q : State → Prop), CallFix p m c cc n s args lw_all own → zK D kA s → zS adK adV (zF W0) s s.heap → va_P D vwCl W0 s.heap → lv_has ls n (lv_args 0 av) → (∀ (v : Int32) (pc : Nat) (ls : Array Slot) (H1 : Heap) (locs1 : List Loc), o = some (.int v) → va_P D vwCl W1 H1 → va_S (zF W0) s.heap H1 locs1 → decode cc pc = .ok (.ireturn, 1) → W p l e rm s m args below meth c H1 locs1 0 0 Q (F0 m pc ls [.int v])) → W p l e rm s m args below meth c s.heap [] 0 0 Q (F0 m 0 ls [])) : MZs l y cc n (some .int) rm D kA adK adV av W0 W1 o := by
  refine Met.ofW (ws' := lw_all) (cc := cc) (maxL := n) (ret := (some .int)) hy rfl ?_
  intro p e s m args below meth c s₁ B hml hv
  obtain ⟨rfl, hP, hK, hZ⟩ := hv
  have hts := atoms_spec (ws := ws_ y cc n (some .int)) B.pre
  subst hown
  have hC : CallFix p m c cc n s av.toArray lw_all y.cls := ⟨B.exec, B.bytes, hml, findClass_of_methodNamed B.named, fun w h => hts w (List.mem_cons_of_mem _ h)⟩
  refine zentry hlen (fun ls hl => ?_)
  refine body p e s m _ below meth c ls _ hC hK hZ hP hl (fun v pc ls H1 locs1 ho hP1 hS1 hdg => ?_)
  exact W.iret (v := v) hC.1 hC.2.1 B.returns (fun t ht _ => ⟨by rw [ho], by rw [ht]; exact hP1, hS1.F ht⟩) hS1.2.2 hdg B.notSynchronized
theorem zcVPs {idx n k : Nat} {C : String} {y : MethodName} {b : ByteArray} {ret : Option FieldType} {rm : Room} {b0 ci q0 : Nat} {fs As : List Value} {r : vw_C} (hC : CallFix p m c cc nL s args lw_all own) (hK : zK D kA s) (hZ : zS adK adV A0 s s.heap) (hM : MPs l y b n ret rm D kA adK adV (.ref b0 :: As) W0 o) (hw : zwV own idx C y b n ret k) (hS : va_S A0 s.heap H locs) (hA : ∀ q, zF W0 q → A0 q)
    (hPc : va_P D vwCl W0 H) (he : W0[q0]? = some (b0, .inr (ci, fs))) (hc : vwCl[ci]? = some r) (hrC : r.1 = C) (hk : As.length = k) (hl : ls.size = nL) (hst : st0 = As.reverse ++ .ref b0 :: rest) (hcat : (rest.map fun v => v.category).sum ≤ 8) (hR : rm.frames + 1 ≤ R.frames ∧ 8 + (n + 11) + rm.locals ≤ R.locals) (hrm : rm.cells = 0 ∧ rm.slots = 0) (hf : cells ≤ R.cells ∧ slots ≤ R.slots) (hdg : decode cc pc = .ok (.invokevirtual idx, 3))
    (kk : W p l e R s m args below meth c H locs cells slots Q (F0 m (pc + 3) ls (o.toList ++ rest))) : W p l e R s m args below meth c H locs cells slots Q (F0 m pc ls st0) := by
  subst hrC
  exact zbackP (va_runV (g := F0 m pc ls st0) (As := As) (rest := rest) hC hM (zcwV hC.2.2.2.2 hw hR hrm.1 hrm.2) ⟨zblindS, va_recv hK.1 hPc hc he, fun U hU hW => ⟨rfl, by rw [hU]; exact hPc, hK.warm hW, hZ.call hS hU hW hA⟩⟩ rfl hk hl hst (lv_room hcat) hdg hf) kk
theorem zcVZs {idx n k : Nat} {C : String} {y : MethodName} {b : ByteArray} {ret : Option FieldType} {rm : Room} {b0 ci q0 : Nat} {fs As : List Value} {r : vw_C} (hC : CallFix p m c cc nL s args lw_all own) (hK : zK D kA s) (hZ : zS adK adV A0 s s.heap) (hM : MZs l y b n ret rm D kA adK adV (.ref b0 :: As) W0 W1 o) (hw : zwV own idx C y b n ret k) (hS : va_S A0 s.heap H locs) (hA : ∀ q, zF W0 q → A0 q)
    (hPc : va_P D vwCl W0 H) (he : W0[q0]? = some (b0, .inr (ci, fs))) (hc : vwCl[ci]? = some r) (hrC : r.1 = C) (hk : As.length = k) (hl : ls.size = nL) (hst : st0 = As.reverse ++ .ref b0 :: rest) (hcat : (rest.map fun v => v.category).sum ≤ 8) (hR : rm.frames + 1 ≤ R.frames ∧ 8 + (n + 11) + rm.locals ≤ R.locals) (hrm : rm.cells = 0 ∧ rm.slots = 0) (hf : cells ≤ R.cells ∧ slots ≤ R.slots) (hdg : decode cc pc = .ok (.invokevirtual idx, 3))
    (kk : ∀ (H1 : Heap) (locs1 : List Loc), va_P D vwCl W1 H1 → (∀ q : Nat, q < H.size → ¬ zF W0 q → H1[q]? = H[q]?) → va_S A0 s.heap H1 locs1 → W p l e R s m args below meth c H1 locs1 cells slots Q (F0 m (pc + 3) ls (o.toList ++ rest))) : W p l e R s m args below meth c H locs cells slots Q (F0 m pc ls st0) := by
  subst hrC
  exact zbackZ (va_runV (g := F0 m pc ls st0) (As := As) (rest := rest) hC hM (zcwV hC.2.2.2.2 hw hR hrm.1 hrm.2) ⟨zblindS, va_recv hK.1 hPc hc he, fun U hU hW => ⟨rfl, by rw [hU]; exact hPc, hK.warm hW, hZ.call hS hU hW hA⟩⟩ rfl hk hl hst (lv_room hcat) hdg hf) hS hA kk
end ZRS
def bX8_isWord (V : Sz) (i : Nat) (rec23 : Nat → Option Bool) : Nat → Option Bool := fun k => if k < zLn.getD i 0 then (ck (inZ (V 21 0 + (k : Int)) 900) <| ck (rng (V 14 (V 21 0 + (k : Int)).toNat)) <| if V 14 (V 21 0 + (k : Int)).toNat = ((zBy.getD i []).getD k 0).toInt then rec23 (k + 1) else some false) else some true
def f_X8_isWord (n : Nat) (V : Sz) (i : Nat) : Option Bool := ck (rng (V 23 0)) <| if V 23 0 = 1 then (bd (f_X8_tokenLength V) fun (r : Int) => ck (rng r) <| if r = (zLn.getD i 0 : Int) then lpF (bX8_isWord V i) n 0 else some false) else some false
theorem DX8_isWord_0 : ∀ q ∈ ([(0, .aload_n 0, 1), (1, .getfield 146, 3), (4, .iconst 1, 1), (5, .if_icmp .ne 14, 3), (8, .aload_n 0, 1), (9, .invokevirtual 155, 3), (12, .aload_n 1, 1), (13, .invokevirtual 159, 3), (16, .if_icmp .eq 5, 3), (19, .iconst 0, 1), (20, .ireturn, 1), (21, .iconst 0, 1), (22, .istore_n 2, 1), (23, .iload_n 2, 1), (24, .aload_n 1, 1), (25, .invokevirtual 159, 3), (28, .if_icmp .ge 30, 3), (31, .aload_n 0, 1), (32, .getfield 43, 3), (35, .aload_n 0, 1), (36, .getfield 140, 3), (39, .iload_n 2, 1), (40, .iadd, 1), (41, .iaload, 1), (42, .aload_n 1, 1), (43, .iload_n 2, 1), (44, .invokevirtual 164, 3), (47, .if_icmp .eq 5, 3), (50, .iconst 0, 1), (51, .ireturn, 1), (52, .iinc 2 1, 3), (55, .goto (-32), 3), (58, .iconst 1, 1), (59, .ireturn, 1)] : List (Nat × Instr × Nat)), decode cX8_isWord q.1 = .ok q.2 := by decide +kernel
theorem dX8_isWord_0 : decode cX8_isWord 0 = .ok (.aload_n 0, 1) := DX8_isWord_0 (0, .aload_n 0, 1) (List.mem_of_getElem? (i := 0) rfl)
theorem dX8_isWord_1 : decode cX8_isWord 1 = .ok (.getfield 146, 3) := DX8_isWord_0 (1, .getfield 146, 3) (List.mem_of_getElem? (i := 1) rfl)
theorem dX8_isWord_4 : decode cX8_isWord 4 = .ok (.iconst 1, 1) := DX8_isWord_0 (4, .iconst 1, 1) (List.mem_of_getElem? (i := 2) rfl)
theorem dX8_isWord_5 : decode cX8_isWord 5 = .ok (.if_icmp .ne 14, 3) := DX8_isWord_0 (5, .if_icmp .ne 14, 3) (List.mem_of_getElem? (i := 3) rfl)
theorem dX8_isWord_8 : decode cX8_isWord 8 = .ok (.aload_n 0, 1) := DX8_isWord_0 (8, .aload_n 0, 1) (List.mem_of_getElem? (i := 4) rfl)
theorem dX8_isWord_9 : decode cX8_isWord 9 = .ok (.invokevirtual 155, 3) := DX8_isWord_0 (9, .invokevirtual 155, 3) (List.mem_of_getElem? (i := 5) rfl)
theorem dX8_isWord_12 : decode cX8_isWord 12 = .ok (.aload_n 1, 1) := DX8_isWord_0 (12, .aload_n 1, 1) (List.mem_of_getElem? (i := 6) rfl)
theorem dX8_isWord_13 : decode cX8_isWord 13 = .ok (.invokevirtual 159, 3) := DX8_isWord_0 (13, .invokevirtual 159, 3) (List.mem_of_getElem? (i := 7) rfl)
theorem dX8_isWord_16 : decode cX8_isWord 16 = .ok (.if_icmp .eq 5, 3) := DX8_isWord_0 (16, .if_icmp .eq 5, 3) (List.mem_of_getElem? (i := 8) rfl)
theorem dX8_isWord_19 : decode cX8_isWord 19 = .ok (.iconst 0, 1) := DX8_isWord_0 (19, .iconst 0, 1) (List.mem_of_getElem? (i := 9) rfl)
theorem dX8_isWord_20 : decode cX8_isWord 20 = .ok (.ireturn, 1) := DX8_isWord_0 (20, .ireturn, 1) (List.mem_of_getElem? (i := 10) rfl)
theorem dX8_isWord_21 : decode cX8_isWord 21 = .ok (.iconst 0, 1) := DX8_isWord_0 (21, .iconst 0, 1) (List.mem_of_getElem? (i := 11) rfl)
theorem dX8_isWord_22 : decode cX8_isWord 22 = .ok (.istore_n 2, 1) := DX8_isWord_0 (22, .istore_n 2, 1) (List.mem_of_getElem? (i := 12) rfl)
theorem dX8_isWord_23 : decode cX8_isWord 23 = .ok (.iload_n 2, 1) := DX8_isWord_0 (23, .iload_n 2, 1) (List.mem_of_getElem? (i := 13) rfl)
theorem dX8_isWord_24 : decode cX8_isWord 24 = .ok (.aload_n 1, 1) := DX8_isWord_0 (24, .aload_n 1, 1) (List.mem_of_getElem? (i := 14) rfl)
theorem dX8_isWord_25 : decode cX8_isWord 25 = .ok (.invokevirtual 159, 3) := DX8_isWord_0 (25, .invokevirtual 159, 3) (List.mem_of_getElem? (i := 15) rfl)
theorem dX8_isWord_28 : decode cX8_isWord 28 = .ok (.if_icmp .ge 30, 3) := DX8_isWord_0 (28, .if_icmp .ge 30, 3) (List.mem_of_getElem? (i := 16) rfl)
theorem dX8_isWord_31 : decode cX8_isWord 31 = .ok (.aload_n 0, 1) := DX8_isWord_0 (31, .aload_n 0, 1) (List.mem_of_getElem? (i := 17) rfl)
theorem dX8_isWord_32 : decode cX8_isWord 32 = .ok (.getfield 43, 3) := DX8_isWord_0 (32, .getfield 43, 3) (List.mem_of_getElem? (i := 18) rfl)
theorem dX8_isWord_35 : decode cX8_isWord 35 = .ok (.aload_n 0, 1) := DX8_isWord_0 (35, .aload_n 0, 1) (List.mem_of_getElem? (i := 19) rfl)
theorem dX8_isWord_36 : decode cX8_isWord 36 = .ok (.getfield 140, 3) := DX8_isWord_0 (36, .getfield 140, 3) (List.mem_of_getElem? (i := 20) rfl)
theorem dX8_isWord_39 : decode cX8_isWord 39 = .ok (.iload_n 2, 1) := DX8_isWord_0 (39, .iload_n 2, 1) (List.mem_of_getElem? (i := 21) rfl)
theorem dX8_isWord_40 : decode cX8_isWord 40 = .ok (.iadd, 1) := DX8_isWord_0 (40, .iadd, 1) (List.mem_of_getElem? (i := 22) rfl)
theorem dX8_isWord_41 : decode cX8_isWord 41 = .ok (.iaload, 1) := DX8_isWord_0 (41, .iaload, 1) (List.mem_of_getElem? (i := 23) rfl)
theorem dX8_isWord_42 : decode cX8_isWord 42 = .ok (.aload_n 1, 1) := DX8_isWord_0 (42, .aload_n 1, 1) (List.mem_of_getElem? (i := 24) rfl)
theorem dX8_isWord_43 : decode cX8_isWord 43 = .ok (.iload_n 2, 1) := DX8_isWord_0 (43, .iload_n 2, 1) (List.mem_of_getElem? (i := 25) rfl)
theorem dX8_isWord_44 : decode cX8_isWord 44 = .ok (.invokevirtual 164, 3) := DX8_isWord_0 (44, .invokevirtual 164, 3) (List.mem_of_getElem? (i := 26) rfl)
theorem dX8_isWord_47 : decode cX8_isWord 47 = .ok (.if_icmp .eq 5, 3) := DX8_isWord_0 (47, .if_icmp .eq 5, 3) (List.mem_of_getElem? (i := 27) rfl)
theorem dX8_isWord_50 : decode cX8_isWord 50 = .ok (.iconst 0, 1) := DX8_isWord_0 (50, .iconst 0, 1) (List.mem_of_getElem? (i := 28) rfl)
theorem dX8_isWord_51 : decode cX8_isWord 51 = .ok (.ireturn, 1) := DX8_isWord_0 (51, .ireturn, 1) (List.mem_of_getElem? (i := 29) rfl)
theorem dX8_isWord_52 : decode cX8_isWord 52 = .ok (.iinc 2 1, 3) := DX8_isWord_0 (52, .iinc 2 1, 3) (List.mem_of_getElem? (i := 30) rfl)
theorem dX8_isWord_55 : decode cX8_isWord 55 = .ok (.goto (-32), 3) := DX8_isWord_0 (55, .goto (-32), 3) (List.mem_of_getElem? (i := 31) rfl)
theorem dX8_isWord_58 : decode cX8_isWord 58 = .ok (.iconst 1, 1) := DX8_isWord_0 (58, .iconst 1, 1) (List.mem_of_getElem? (i := 32) rfl)
theorem dX8_isWord_59 : decode cX8_isWord 59 = .ok (.ireturn, 1) := DX8_isWord_0 (59, .ireturn, 1) (List.mem_of_getElem? (i := 33) rfl)
abbrev rmX8_isWord : Room := { frames := 5, cells := 0, slots := 0, locals := 330 }
set_option maxHeartbeats 1000000 in
set_option maxRecDepth 100000 in
theorem met_X8_isWord (l : Launch) (D : va_G) (kA : Nat → ClassId) (a : Nat → Nat) (adK adV : Nat → Nat) (n : Nat) (V : Sz) (i : Nat) (hi : i < 6) {r : Bool} (hf : f_X8_isWord n V i = some r) : MPs l yX8_isWord cX8_isWord 3 (some .boolean) rmX8_isWord D kA adK adV [.ref (a 0), .ref (adK i)] (cs_X8 kA a V) (some (vI (bI r))) := by
  refine zPZs (own := RX8) rfl rfl (Nat.le_of_ble_eq_true rfl) ?_
  intro p e s m args below meth c ls Q hC hK hZ hP hl hret
  have hl : lv_has ls 3 [(0, .ref (a 0)), (1, .ref (adK i))] := hl
  have hS : va_S (zF (cs_X8 kA a V)) s.heap s.heap [] := va_S.rf
  have h7 : ∀ j : Fin 6, zLn.getD j 0 < 8 := by decide +kernel
  have hn := h7 ⟨i, hi⟩
  dsimp only at hn
  have hb : ∀ (j : Fin 6) (q : Fin 8), (zBy.getD j []).getD q 0 = Int32.ofInt (((zBy.getD j []).getD q 0).toInt) := by decide +kernel
  have hby : ∀ (j : Fin 6) (q : Fin 8), rng (((zBy.getD j []).getD q 0).toInt) := by decide +kernel
  unfold f_X8_isWord at hf
  obtain ⟨h1, hf⟩ := ck_some hf
  have hF : ∀ ls : Array Slot, (some false = some r) → W p l e rmX8_isWord s m args below meth c s.heap [] 0 0 Q (F0 m 19 ls []) := by
    intro ls hf
    refine ziconst hC.1 hC.2.1 dX8_isWord_19 ?_
    exact hret (Int32.ofInt 0) _ _ (Or.inl rfl) (by rw [← Option.some.inj hf]; rfl) dX8_isWord_20
  have hL : ∀ (n k : Nat) (ls : Array Slot), lpF (bX8_isWord V i) n k = some r → k ≤ zLn.getD i 0 → lv_has ls 3 [(2, vI k), (0, .ref (a 0)), (1, .ref (adK i))] → W p l e rmX8_isWord s m args below meth c s.heap [] 0 0 Q (F0 m 23 ls []) := by
    intro n
    induction n with
    | zero => intro k ls hf; exact lp_0 hf
    | succ n ih =>
      intro k ls hf hk hl
      have hf := lp_s hf
      unfold bX8_isWord at hf
      refine ziload_n hC.1 hC.2.1 dX8_isWord_23 rfl (lv_at hl 0 rfl) <| lv_aload_n hC.1 hC.2.1 dX8_isWord_24 rfl (lv_at hl 2 rfl) ?_
      refine zcVT0 (As := []) (rest := [vI k]) hC hZ hi (met_slen l adK adV i hi) (show zwV "AidRegisterModel" 159 "java/lang/String" yJ0_length_8abf5 cJ0_length_8abf5 1 (some .int) 0 from ⟨⟨(qin_6 (i := 153) rfl rfl), (qin_6 (i := 154) rfl rfl), (qin_6 (i := 155) rfl rfl), (qin_1 (i := 13) rfl rfl), (qin_6 (i := 156) rfl rfl)⟩, rfl, by decide +kernel, by decide +kernel, by decide +kernel⟩) hS rfl hl.1 rfl (Nat.le_of_ble_eq_true rfl) ⟨(Nat.le_of_ble_eq_true rfl), (Nat.le_of_ble_eq_true rfl)⟩ ⟨rfl, rfl⟩ ⟨Nat.le_refl _, Nat.le_refl _⟩ dX8_isWord_25 ?_
      refine zicmp_ge (tgt := 58) hC.1 hC.2.1 ⟨by omega, by omega⟩ dX8_isWord_28 (by decide) (fun hc => ?_) (fun hc => ?_)
      · have hf := it_f hf (by omega)
        refine ziconst hC.1 hC.2.1 dX8_isWord_58 ?_
        exact hret (Int32.ofInt 1) _ _ (Or.inr rfl) (by rw [← Option.some.inj hf]; rfl) dX8_isWord_59
      · have hf := it_t hf (by omega)
        obtain ⟨h3, hf⟩ := ck_some hf
        obtain ⟨h4, hf⟩ := ck_some hf
        refine lv_aload_n hC.1 hC.2.1 dX8_isWord_31 rfl (lv_at hl 1 rfl) <| gfX8_43 hC hK hP (q0 := 0) rfl rfl dX8_isWord_32 <| lv_aload_n hC.1 hC.2.1 dX8_isWord_35 rfl (lv_at hl 1 rfl) <| gfX8_140 hC hK hP (q0 := 0) rfl rfl dX8_isWord_36 <| ziload_n hC.1 hC.2.1 dX8_isWord_39 rfl (lv_at hl 0 rfl) <| ziadd hC.1 hC.2.1 dX8_isWord_40 <| jal hC hK hP (q0 := 12) rfl (Nat.le_of_ble_eq_true rfl) h3 rfl dX8_isWord_41 <| lv_aload_n hC.1 hC.2.1 dX8_isWord_42 rfl (lv_at hl 2 rfl) <| ziload_n hC.1 hC.2.1 dX8_isWord_43 rfl (lv_at hl 0 rfl) ?_
        refine zcVT0 (As := [vI k]) (rest := [vI (V 14 (V 21 0 + (k : Int)).toNat)]) hC hZ hi (met_scha l adK adV i k hi (by omega)) (show zwV "AidRegisterModel" 164 "java/lang/String" yJ0_charAt_5068e cJ0_charAt_5068e 2 (some .char) 1 from ⟨⟨(qin_6 (i := 163) rfl rfl), (qin_6 (i := 164) rfl rfl), (qin_6 (i := 165) rfl rfl), (qin_1 (i := 13) rfl rfl), (qin_6 (i := 166) rfl rfl)⟩, rfl, by decide +kernel, by decide +kernel, by decide +kernel⟩) hS rfl hl.1 rfl (Nat.le_of_ble_eq_true rfl) ⟨(Nat.le_of_ble_eq_true rfl), (Nat.le_of_ble_eq_true rfl)⟩ ⟨rfl, rfl⟩ ⟨Nat.le_refl _, Nat.le_refl _⟩ dX8_isWord_44 ?_
        rw [hb ⟨i, hi⟩ ⟨k, by omega⟩]
        refine zicmp_eq (tgt := 52) hC.1 hC.2.1 ⟨h4, hby ⟨i, hi⟩ ⟨k, by omega⟩⟩ dX8_isWord_47 (by decide) (fun hc => ?_) (fun hc => ?_)
        · have hf := it_t hf hc
          refine ziinc (v := ((k + 1 : Nat) : Int)) (lv' := [(2, vI ((k + 1 : Nat) : Int)), (0, .ref (a 0)), (1, .ref (adK i))]) hC.1 hC.2.1 dX8_isWord_52 hl (k := 0) rfl (by omega) (by decide) rfl (fun ls hl => ?_)
          refine lv_goto (tgt := 23) hC.1 hC.2.1 dX8_isWord_55 (by decide) ?_
          exact ih (k + 1) ls hf (by omega) hl
        · have hf := it_f hf hc
          refine ziconst hC.1 hC.2.1 dX8_isWord_50 ?_
          exact hret (Int32.ofInt 0) _ _ (Or.inl rfl) (by rw [← Option.some.inj hf]; rfl) dX8_isWord_51
  refine lv_aload_n hC.1 hC.2.1 dX8_isWord_0 rfl (lv_at hl 0 rfl) <| gfX8_146 hC hK hP (q0 := 0) rfl rfl dX8_isWord_1 <| ziconst hC.1 hC.2.1 dX8_isWord_4 ?_
  refine zicmp_ne (tgt := 19) hC.1 hC.2.1 ⟨h1, by decide⟩ dX8_isWord_5 (by decide) (fun hc => hF ls (it_f hf hc)) (fun hc => ?_)
  have hf := it_t hf hc
  obtain ⟨w, hu, hf⟩ := bd_some hf
  obtain ⟨h2, hf⟩ := ck_some hf
  refine lv_aload_n hC.1 hC.2.1 dX8_isWord_8 rfl (lv_at hl 0 rfl) ?_
  refine zcVP (As := []) (rest := []) hC hK (met_X8_tokenLength l D kA a V hu) zwX8_155 hP (q0 := 0) rfl rfl rfl rfl hl.1 rfl (Nat.le_of_ble_eq_true rfl) ⟨(Nat.le_of_ble_eq_true rfl), (Nat.le_of_ble_eq_true rfl)⟩ ⟨rfl, rfl⟩ ⟨Nat.le_refl _, Nat.le_refl _⟩ dX8_isWord_9 ?_
  refine lv_aload_n hC.1 hC.2.1 dX8_isWord_12 rfl (lv_at hl 1 rfl) ?_
  refine zcVT0 (As := []) (rest := [vI w]) hC hZ hi (met_slen l adK adV i hi) (show zwV "AidRegisterModel" 159 "java/lang/String" yJ0_length_8abf5 cJ0_length_8abf5 1 (some .int) 0 from ⟨⟨(qin_6 (i := 153) rfl rfl), (qin_6 (i := 154) rfl rfl), (qin_6 (i := 155) rfl rfl), (qin_1 (i := 13) rfl rfl), (qin_6 (i := 156) rfl rfl)⟩, rfl, by decide +kernel, by decide +kernel, by decide +kernel⟩) hS rfl hl.1 rfl (Nat.le_of_ble_eq_true rfl) ⟨(Nat.le_of_ble_eq_true rfl), (Nat.le_of_ble_eq_true rfl)⟩ ⟨rfl, rfl⟩ ⟨Nat.le_refl _, Nat.le_refl _⟩ dX8_isWord_13 ?_
  refine zicmp_eq (tgt := 21) hC.1 hC.2.1 ⟨h2, by omega⟩ dX8_isWord_16 (by decide) (fun hc => ?_) (fun hc => hF ls (it_f hf hc))
  have hf := it_t hf hc
  refine ziconst hC.1 hC.2.1 dX8_isWord_21 ?_
  refine zistore_n (lv' := [(2, vI ((0 : Nat) : Int)), (0, .ref (a 0)), (1, .ref (adK i))]) (x := ((0 : Nat) : Int)) hC.1 hC.2.1 dX8_isWord_22 rfl hl (by decide) rfl (fun ls hl => ?_)
  exact hL n 0 ls hf (Nat.zero_le _) hl
