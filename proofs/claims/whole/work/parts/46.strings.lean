/-! the reference's texts: String constants, their length and their letters -/
def zLn : List Nat := [5, 7, 4, 5, 4, 5]
def zBy : List (List Int32) := [[100, 111, 110, 111, 114], [100, 101, 99, 108, 97, 114, 101], [103, 105, 102, 116], [115, 112, 108, 105, 116], [99, 97, 115, 104], [114, 117, 108, 101, 115]]
def zIx : List Nat := [174, 180, 182, 184, 186, 188]
def zTw : List String := ["donor", "declare", "gift", "split", "cash", "rules"]
def zS (adK adV : Nat → Nat) (A : Nat → Prop) (U : State) (H : Heap) : Prop := vk_S 6 zLn zBy adK adV A U H ∧ va_Z "java/lang/String" "COMPACT_STRINGS" "Z" (.int 1) A U H ∧ va_Zq "jdk/internal/util/Preconditions" "SIOOBE_FORMATTER" "Ljava/util/function/BiFunction;" A U H ∧ ∀ i : Nat, i < 6 → vk_R "AidRegisterModel" (zIx.getD i 0) (zTw.getD i "") (adK i) U
theorem zS.kept {adK adV : Nat → Nat} {A : Nat → Prop} {U : State} {H H1 : Heap} (h : zS adK adV A U H) (hq : ∀ a : Nat, a < H.size → ¬ A a → H1[a]? = H[a]?) : zS adK adV A U H1 := ⟨vk_S.kept h.1 hq, va_Z.kept h.2.1 hq, va_Zq.kept h.2.2.1 hq, h.2.2.2⟩
theorem zS.narrow {adK adV : Nat → Nat} {A C : Nat → Prop} {U : State} {H : Heap} (h : zS adK adV A U H) (hAB : ∀ q, C q → A q) : zS adK adV C U H := ⟨vk_S.narrow h.1 hAB, va_Z.narrow h.2.1 hAB, va_Zq.narrow h.2.2.1 hAB, h.2.2.2⟩
theorem zS.warm {adK adV : Nat → Nat} {A : Nat → Prop} {s U : State} {H : Heap} (h : zS adK adV A s H) (hW : s.WarmedH U.vm) : zS adK adV A U H := ⟨vk_S.moved hW.alike h.1, va_Z.moved hW.alike h.2.1, va_Zq.moved hW.alike h.2.2.1, fun i hi => (h.2.2.2 i hi).warm hW⟩
/-- at a call: the callee's start, for what it may write -/
theorem zS.call {adK adV : Nat → Nat} {A C : Nat → Prop} {s U : State} {H : Heap} {locs : List Loc} (h : zS adK adV A s s.heap) (hS : va_S A s.heap H locs) (hU : U.heap = H) (hW : s.WarmedH U.vm) (hAB : ∀ q, C q → A q) : zS adK adV C U U.heap := by
  rw [hU]
  exact ((h.kept (fun a h1 h2 => hS.2.1 a h1 h2)).warm hW).narrow hAB
theorem zS.calling {adK adV : Nat → Nat} {A : Nat → Prop} {U : State} {H : Heap} {g : JFrame} {mk : MethodId} {a : Array Value} (h : zS adK adV A U H) : zS adK adV A (U.calling g mk a) H := ⟨vk_S.moved (Vm.Alike.refl U.vm) h.1, va_Z.moved (Vm.Alike.refl U.vm) h.2.1, va_Zq.moved (Vm.Alike.refl U.vm) h.2.2.1, fun i hi => vk_R.same rfl (h.2.2.2 i hi)⟩
/-- a contract of a method of the texts: nothing changes -/
def MT (l : Launch) (y : MethodName) (cc : ByteArray) (n : Nat) (ret : Option FieldType) (rm : Room) (adK adV : Nat → Nat) (av : List Value) (o : Option Value) : Prop :=
  Met l y (ws_ y cc n ret) rm (va_Pc av (fun U => zS adK adV (fun _ => False) U U.heap)) (fun _ st oc t => oc = .returned o ∧ t.heap = st.heap) 0 0 (fun _ => False)
theorem zblindT {adK adV : Nat → Nat} {av : List Value} : FrameBlind (va_Pc av (fun U => zS adK adV (fun _ => False) U U.heap)) := fun _ _ _ _ h => ⟨h.1, h.2.calling⟩
section ZTX
variable {p : Program} {l : Launch} {e : Env} {R : Room} {s : State} {m : MethodId} {args : Array Value} {below : List Frame} {meth : Method} {c : Code} {H H0 : Heap} {locs : List Loc} {cells slots : Nat} {Q : State → Prop}
variable {pc nL : Nat} {ls : Array Slot} {rest st0 : List Value} {A0 : Nat → Prop} {cc : ByteArray} {own : String} {o : Option Value} {adK adV : Nat → Nat}
theorem zTI {y : MethodName} {n : Nat} {rm : Room} {av : List Value} {ty : FieldType} (hy : plainName y.cls = true) (hown : y.cls = own) (hlen : (lg_sl av).length ≤ n)
    (body : ∀ (p : Program) (e : Env) (s : State) (m : MethodId) (args : Array Value) (below : List Frame) (meth : Method) (c : Code) (ls : Array Slot) (Q : State → Prop), CallFix p m c cc n s args lw_all own → zS adK adV (fun _ => False) s s.heap → lv_has ls n (lv_args 0 av) → (∀ (v : Int32) (pc : Nat) (ls : Array Slot), o = some (.int v) → narrow ty (.int v) = .int v → decode cc pc = .ok (.ireturn, 1) → W p l e rm s m args below meth c s.heap [] 0 0 Q (F0 m pc ls [.int v])) → W p l e rm s m args below meth c s.heap [] 0 0 Q (F0 m 0 ls [])) : MT l y cc n (some ty) rm adK adV av o := by
  refine Met.ofW (ws' := lw_all) (cc := cc) (maxL := n) (ret := (some ty)) hy rfl ?_
  intro p e s m args below meth c s₁ B hml hv
  obtain ⟨rfl, hZ⟩ := hv
  have hts := atoms_spec (ws := ws_ y cc n (some ty)) B.pre
  subst hown
  have hC : CallFix p m c cc n s av.toArray lw_all y.cls := ⟨B.exec, B.bytes, hml, findClass_of_methodNamed B.named, fun w h => hts w (List.mem_cons_of_mem _ h)⟩
  refine zentry hlen (fun ls hl => ?_)
  refine body p e s m _ below meth c ls _ hC hZ hl (fun v pc ls ho hn hdg => ?_)
  exact W.zret (v := v) hC.1 hC.2.1 B.returns hn (fun t ht _ => ⟨by rw [ho], ht⟩) (fun q hq => absurd hq List.not_mem_nil) hdg B.notSynchronized
theorem zTV {y : MethodName} {n : Nat} {rm : Room} {av : List Value} (hy : plainName y.cls = true) (hown : y.cls = own) (hlen : (lg_sl av).length ≤ n)
    (body : ∀ (p : Program) (e : Env) (s : State) (m : MethodId) (args : Array Value) (below : List Frame) (meth : Method) (c : Code) (ls : Array Slot) (Q : State → Prop), CallFix p m c cc n s args lw_all own → zS adK adV (fun _ => False) s s.heap → lv_has ls n (lv_args 0 av) → (∀ (pc : Nat) (ls : Array Slot), decode cc pc = .ok (.return_, 1) → W p l e rm s m args below meth c s.heap [] 0 0 Q (F0 m pc ls [])) → W p l e rm s m args below meth c s.heap [] 0 0 Q (F0 m 0 ls [])) : MT l y cc n none rm adK adV av none := by
  refine Met.ofW (ws' := lw_all) (cc := cc) (maxL := n) (ret := none) hy rfl ?_
  intro p e s m args below meth c s₁ B hml hv
  obtain ⟨rfl, hZ⟩ := hv
  have hts := atoms_spec (ws := ws_ y cc n none) B.pre
  subst hown
  have hC : CallFix p m c cc n s av.toArray lw_all y.cls := ⟨B.exec, B.bytes, hml, findClass_of_methodNamed B.named, fun w h => hts w (List.mem_cons_of_mem _ h)⟩
  refine zentry hlen (fun ls hl => ?_)
  refine body p e s m _ below meth c ls _ hC hZ hl (fun pc ls hdg => ?_)
  exact W.vret hC.1 hC.2.1 B.returns (fun t ht _ => ⟨rfl, ht⟩) (fun q hq => absurd hq List.not_mem_nil) hdg B.notSynchronized
theorem zcVT0 {idx n k i : Nat} {y : MethodName} {b : ByteArray} {ret : Option FieldType} {rm : Room} {As : List Value} (hC : CallFix p m c cc nL s args lw_all own) (hZ : zS adK adV A0 s s.heap) (hi : i < 6) (hM : MT l y b n ret rm adK adV (.ref (adK i) :: As) o) (hw : zwV own idx "java/lang/String" y b n ret k) (hS : va_S A0 s.heap H locs)
    (hk : As.length = k) (hl : ls.size = nL) (hst : st0 = As.reverse ++ .ref (adK i) :: rest) (hcat : (rest.map fun v => v.category).sum ≤ 8) (hR : rm.frames + 1 ≤ R.frames ∧ 8 + (n + 11) + rm.locals ≤ R.locals) (hrm : rm.cells = 0 ∧ rm.slots = 0) (hf : cells ≤ R.cells ∧ slots ≤ R.slots) (hdg : decode cc pc = .ok (.invokevirtual idx, 3))
    (kk : W p l e R s m args below meth c H locs cells slots Q (F0 m (pc + 3) ls (o.toList ++ rest))) : W p l e R s m args below meth c H locs cells slots Q (F0 m pc ls st0) :=
  zbackP (va_runV (g := F0 m pc ls st0) (As := As) (rest := rest) hC hM (zcwV hC.2.2.2.2 hw hR hrm.1 hrm.2) ⟨zblindT, vk_recv hZ.1 hi hS, fun U hU hW => ⟨rfl, hZ.call hS hU hW (fun _ h => h.elim)⟩⟩ rfl hk hl hst (lv_room hcat) hdg hf) kk
theorem zcST0 {idx n k : Nat} {y : MethodName} {b : ByteArray} {ret : Option FieldType} {rm : Room} {As : List Value} (hC : CallFix p m c cc nL s args lw_all own) (hZ : zS adK adV A0 s s.heap) (hM : MT l y b n ret rm adK adV As o) (hw : zwS own idx y b n ret k) (hS : va_S A0 s.heap H locs)
    (hk : As.length = k) (hl : ls.size = nL) (hst : st0 = As.reverse ++ rest) (hcat : (rest.map fun v => v.category).sum ≤ 8) (hR : rm.frames + 1 ≤ R.frames ∧ 8 + (n + 11) + rm.locals ≤ R.locals) (hrm : rm.cells = 0 ∧ rm.slots = 0) (hf : cells ≤ R.cells ∧ slots ≤ R.slots) (hdg : decode cc pc = .ok (.invokestatic idx, 3))
    (kk : W p l e R s m args below meth c H locs cells slots Q (F0 m (pc + 3) ls (o.toList ++ rest))) : W p l e R s m args below meth c H locs cells slots Q (F0 m pc ls st0) :=
  zbackP (va_runS (g := F0 m pc ls st0) (As := As) (rest := rest) hC hM (zcwS hC.2.2.2.2 hw hR hrm.1 hrm.2) ⟨zblindT, fun U hU hW => ⟨rfl, hZ.call hS hU hW (fun _ h => h.elim)⟩⟩ rfl hk hl hst (lv_room hcat) hdg hf) kk
end ZTX
theorem DJ0_coder_7d493_0 : ∀ q ∈ ([(0, .getstatic 38, 3), (3, .ifCond .eq 10, 3), (6, .aload_n 0, 1), (7, .getfield 15, 3), (10, .goto 4, 3), (13, .iconst 1, 1), (14, .ireturn, 1)] : List (Nat × Instr × Nat)), decode cJ0_coder_7d493 q.1 = .ok q.2 := by decide +kernel
theorem dJ0_coder_7d493_0 : decode cJ0_coder_7d493 0 = .ok (.getstatic 38, 3) := DJ0_coder_7d493_0 (0, .getstatic 38, 3) (List.mem_of_getElem? (i := 0) rfl)
theorem dJ0_coder_7d493_3 : decode cJ0_coder_7d493 3 = .ok (.ifCond .eq 10, 3) := DJ0_coder_7d493_0 (3, .ifCond .eq 10, 3) (List.mem_of_getElem? (i := 1) rfl)
theorem dJ0_coder_7d493_6 : decode cJ0_coder_7d493 6 = .ok (.aload_n 0, 1) := DJ0_coder_7d493_0 (6, .aload_n 0, 1) (List.mem_of_getElem? (i := 2) rfl)
theorem dJ0_coder_7d493_7 : decode cJ0_coder_7d493 7 = .ok (.getfield 15, 3) := DJ0_coder_7d493_0 (7, .getfield 15, 3) (List.mem_of_getElem? (i := 3) rfl)
theorem dJ0_coder_7d493_10 : decode cJ0_coder_7d493 10 = .ok (.goto 4, 3) := DJ0_coder_7d493_0 (10, .goto 4, 3) (List.mem_of_getElem? (i := 4) rfl)
theorem dJ0_coder_7d493_13 : decode cJ0_coder_7d493 13 = .ok (.iconst 1, 1) := DJ0_coder_7d493_0 (13, .iconst 1, 1) (List.mem_of_getElem? (i := 5) rfl)
theorem dJ0_coder_7d493_14 : decode cJ0_coder_7d493 14 = .ok (.ireturn, 1) := DJ0_coder_7d493_0 (14, .ireturn, 1) (List.mem_of_getElem? (i := 6) rfl)
abbrev rmJ0_coder_7d493 : Room := { frames := 1, cells := 0, slots := 0, locals := 40 }
set_option maxHeartbeats 1000000 in
set_option maxRecDepth 100000 in
theorem met_scod (l : Launch) (adK adV : Nat → Nat) (i : Nat) (hi : i < 6) : MT l yJ0_coder_7d493 cJ0_coder_7d493 1 (some .byte) rmJ0_coder_7d493 adK adV [.ref (adK i)] (some (.int 0)) := by
  refine zTI (own := "java/lang/String") rfl rfl (Nat.le_of_ble_eq_true rfl) ?_
  intro p e s m args below meth c ls Q hC hZ hl hret
  have hS : va_S (fun _ : Nat => False) s.heap s.heap [] := va_S.rf
  have hl : lv_has ls 1 [(0, .ref (adK i))] := hl
  refine va_gets hC.1 hC.2.1 hZ.2.1 hS hC.2.2.2.1 (hC.2.2.2.2 _ (qin_6 (i := 161) rfl rfl)) (fun _ h => h) dJ0_coder_7d493_0 ?_
  refine lv_if_eq (tgt := 13) hC.1 hC.2.1 dJ0_coder_7d493_3 (by decide) (fun h => absurd h (by decide)) (fun _ => ?_)
  refine lv_aload_n hC.1 hC.2.1 dJ0_coder_7d493_6 rfl (lv_at hl 0 rfl) ?_
  refine vk_getf hC.1 hC.2.1 (hZ.1.1 i hi).2.1 hS hC.2.2.2.1 (hC.2.2.2.2 _ (qin_8 (i := 164) rfl rfl)) (fun _ h => h) dJ0_coder_7d493_7 ?_
  refine lv_goto (tgt := 14) hC.1 hC.2.1 dJ0_coder_7d493_10 (by decide) ?_
  exact hret 0 _ _ rfl rfl dJ0_coder_7d493_14
theorem DJ0_isLatin1_aae02_0 : ∀ q ∈ ([(0, .getstatic 38, 3), (3, .ifCond .eq 14, 3), (6, .aload_n 0, 1), (7, .getfield 15, 3), (10, .ifCond .ne 7, 3), (13, .iconst 1, 1), (14, .goto 4, 3), (17, .iconst 0, 1), (18, .ireturn, 1)] : List (Nat × Instr × Nat)), decode cJ0_isLatin1_aae02 q.1 = .ok q.2 := by decide +kernel
theorem dJ0_isLatin1_aae02_0 : decode cJ0_isLatin1_aae02 0 = .ok (.getstatic 38, 3) := DJ0_isLatin1_aae02_0 (0, .getstatic 38, 3) (List.mem_of_getElem? (i := 0) rfl)
theorem dJ0_isLatin1_aae02_3 : decode cJ0_isLatin1_aae02 3 = .ok (.ifCond .eq 14, 3) := DJ0_isLatin1_aae02_0 (3, .ifCond .eq 14, 3) (List.mem_of_getElem? (i := 1) rfl)
theorem dJ0_isLatin1_aae02_6 : decode cJ0_isLatin1_aae02 6 = .ok (.aload_n 0, 1) := DJ0_isLatin1_aae02_0 (6, .aload_n 0, 1) (List.mem_of_getElem? (i := 2) rfl)
theorem dJ0_isLatin1_aae02_7 : decode cJ0_isLatin1_aae02 7 = .ok (.getfield 15, 3) := DJ0_isLatin1_aae02_0 (7, .getfield 15, 3) (List.mem_of_getElem? (i := 3) rfl)
theorem dJ0_isLatin1_aae02_10 : decode cJ0_isLatin1_aae02 10 = .ok (.ifCond .ne 7, 3) := DJ0_isLatin1_aae02_0 (10, .ifCond .ne 7, 3) (List.mem_of_getElem? (i := 4) rfl)
theorem dJ0_isLatin1_aae02_13 : decode cJ0_isLatin1_aae02 13 = .ok (.iconst 1, 1) := DJ0_isLatin1_aae02_0 (13, .iconst 1, 1) (List.mem_of_getElem? (i := 5) rfl)
theorem dJ0_isLatin1_aae02_14 : decode cJ0_isLatin1_aae02 14 = .ok (.goto 4, 3) := DJ0_isLatin1_aae02_0 (14, .goto 4, 3) (List.mem_of_getElem? (i := 6) rfl)
theorem dJ0_isLatin1_aae02_17 : decode cJ0_isLatin1_aae02 17 = .ok (.iconst 0, 1) := DJ0_isLatin1_aae02_0 (17, .iconst 0, 1) (List.mem_of_getElem? (i := 7) rfl)
theorem dJ0_isLatin1_aae02_18 : decode cJ0_isLatin1_aae02 18 = .ok (.ireturn, 1) := DJ0_isLatin1_aae02_0 (18, .ireturn, 1) (List.mem_of_getElem? (i := 8) rfl)
abbrev rmJ0_isLatin1_aae02 : Room := { frames := 1, cells := 0, slots := 0, locals := 40 }
set_option maxHeartbeats 1000000 in
set_option maxRecDepth 100000 in
theorem met_slat (l : Launch) (adK adV : Nat → Nat) (i : Nat) (hi : i < 6) : MT l yJ0_isLatin1_aae02 cJ0_isLatin1_aae02 1 (some .boolean) rmJ0_isLatin1_aae02 adK adV [.ref (adK i)] (some (.int 1)) := by
  refine zTI (own := "java/lang/String") rfl rfl (Nat.le_of_ble_eq_true rfl) ?_
  intro p e s m args below meth c ls Q hC hZ hl hret
  have hS : va_S (fun _ : Nat => False) s.heap s.heap [] := va_S.rf
  have hl : lv_has ls 1 [(0, .ref (adK i))] := hl
  refine va_gets hC.1 hC.2.1 hZ.2.1 hS hC.2.2.2.1 (hC.2.2.2.2 _ (qin_6 (i := 161) rfl rfl)) (fun _ h => h) dJ0_isLatin1_aae02_0 ?_
  refine lv_if_eq (tgt := 17) hC.1 hC.2.1 dJ0_isLatin1_aae02_3 (by decide) (fun h => absurd h (by decide)) (fun _ => ?_)
  refine lv_aload_n hC.1 hC.2.1 dJ0_isLatin1_aae02_6 rfl (lv_at hl 0 rfl) ?_
  refine vk_getf hC.1 hC.2.1 (hZ.1.1 i hi).2.1 hS hC.2.2.2.1 (hC.2.2.2.2 _ (qin_8 (i := 164) rfl rfl)) (fun _ h => h) dJ0_isLatin1_aae02_7 ?_
  refine lv_if_ne (tgt := 17) hC.1 hC.2.1 dJ0_isLatin1_aae02_10 (by decide) (fun h => absurd rfl h) (fun _ => ?_)
  refine ziconst hC.1 hC.2.1 dJ0_isLatin1_aae02_13 <| lv_goto (tgt := 18) hC.1 hC.2.1 dJ0_isLatin1_aae02_14 (by decide) ?_
  exact hret 1 _ _ rfl rfl dJ0_isLatin1_aae02_18
theorem DJ0_length_8abf5_0 : ∀ q ∈ ([(0, .aload_n 0, 1), (1, .getfield 9, 3), (4, .arraylength, 1), (5, .aload_n 0, 1), (6, .invokevirtual 335, 3), (9, .ishr, 1), (10, .ireturn, 1)] : List (Nat × Instr × Nat)), decode cJ0_length_8abf5 q.1 = .ok q.2 := by decide +kernel
theorem dJ0_length_8abf5_0 : decode cJ0_length_8abf5 0 = .ok (.aload_n 0, 1) := DJ0_length_8abf5_0 (0, .aload_n 0, 1) (List.mem_of_getElem? (i := 0) rfl)
theorem dJ0_length_8abf5_1 : decode cJ0_length_8abf5 1 = .ok (.getfield 9, 3) := DJ0_length_8abf5_0 (1, .getfield 9, 3) (List.mem_of_getElem? (i := 1) rfl)
theorem dJ0_length_8abf5_4 : decode cJ0_length_8abf5 4 = .ok (.arraylength, 1) := DJ0_length_8abf5_0 (4, .arraylength, 1) (List.mem_of_getElem? (i := 2) rfl)
theorem dJ0_length_8abf5_5 : decode cJ0_length_8abf5 5 = .ok (.aload_n 0, 1) := DJ0_length_8abf5_0 (5, .aload_n 0, 1) (List.mem_of_getElem? (i := 3) rfl)
theorem dJ0_length_8abf5_6 : decode cJ0_length_8abf5 6 = .ok (.invokevirtual 335, 3) := DJ0_length_8abf5_0 (6, .invokevirtual 335, 3) (List.mem_of_getElem? (i := 4) rfl)
theorem dJ0_length_8abf5_9 : decode cJ0_length_8abf5 9 = .ok (.ishr, 1) := DJ0_length_8abf5_0 (9, .ishr, 1) (List.mem_of_getElem? (i := 5) rfl)
theorem dJ0_length_8abf5_10 : decode cJ0_length_8abf5 10 = .ok (.ireturn, 1) := DJ0_length_8abf5_0 (10, .ireturn, 1) (List.mem_of_getElem? (i := 6) rfl)
abbrev rmJ0_length_8abf5 : Room := { frames := 2, cells := 0, slots := 0, locals := 90 }
set_option maxHeartbeats 1000000 in
set_option maxRecDepth 100000 in
theorem met_slen (l : Launch) (adK adV : Nat → Nat) (i : Nat) (hi : i < 6) : MT l yJ0_length_8abf5 cJ0_length_8abf5 1 (some .int) rmJ0_length_8abf5 adK adV [.ref (adK i)] (some (vI (zLn.getD i 0))) := by
  refine zTI (own := "java/lang/String") rfl rfl (Nat.le_of_ble_eq_true rfl) ?_
  intro p e s m args below meth c ls Q hC hZ hl hret
  have hS : va_S (fun _ : Nat => False) s.heap s.heap [] := va_S.rf
  have hl : lv_has ls 1 [(0, .ref (adK i))] := hl
  refine lv_aload_n hC.1 hC.2.1 dJ0_length_8abf5_0 rfl (lv_at hl 0 rfl) ?_
  refine vk_getf hC.1 hC.2.1 (hZ.1.1 i hi).2.2.1 hS hC.2.2.2.1 (hC.2.2.2.2 _ (qin_8 (i := 163) rfl rfl)) (fun _ h => h) dJ0_length_8abf5_1 ?_
  refine va_tlen hC.1 hC.2.1 (v := Int32.ofNat (zLn.getD i 0)) (hZ.1.1 i hi).2.2.2 hS rfl dJ0_length_8abf5_4 ?_
  refine lv_aload_n hC.1 hC.2.1 dJ0_length_8abf5_5 rfl (lv_at hl 0 rfl) ?_
  refine zcVT0 (As := []) (rest := [.int (Int32.ofNat (zLn.getD i 0))]) hC hZ hi (met_scod l adK adV i hi) (show zwV "java/lang/String" 335 "java/lang/String" yJ0_coder_7d493 cJ0_coder_7d493 1 (some .byte) 0 from ⟨⟨(qin_6 (i := 157) rfl rfl), (qin_6 (i := 158) rfl rfl), (qin_6 (i := 159) rfl rfl), (qin_1 (i := 13) rfl rfl), (qin_6 (i := 160) rfl rfl)⟩, rfl, by decide +kernel, by decide +kernel, by decide +kernel⟩) hS rfl hl.1 rfl (Nat.le_of_ble_eq_true rfl) ⟨(Nat.le_of_ble_eq_true rfl), (Nat.le_of_ble_eq_true rfl)⟩ ⟨rfl, rfl⟩ ⟨Nat.le_refl _, Nat.le_refl _⟩ dJ0_length_8abf5_6 ?_
  have e : (Int32.ofNat (zLn.getD i 0)) >>> ((0 : Int32) &&& 31) = Int32.ofInt (zLn.getD i 0) := by
    have h6 : ∀ j : Fin 6, (Int32.ofNat (zLn.getD j 0)) >>> ((0 : Int32) &&& 31) = Int32.ofInt (zLn.getD j 0) := by decide +kernel
    exact h6 ⟨i, hi⟩
  refine lv_ishr hC.1 hC.2.1 dJ0_length_8abf5_9 ?_
  rw [e]
  exact hret _ _ _ rfl rfl dJ0_length_8abf5_10
theorem DJ3_checkIndex_8e157_0 : ∀ q ∈ ([(0, .iload_n 0, 1), (1, .ifCond .lt 8, 3), (4, .iload_n 0, 1), (5, .iload_n 1, 1), (6, .if_icmp .lt 10, 3), (9, .aload_n 2, 1), (10, .iload_n 0, 1), (11, .iload_n 1, 1), (12, .invokestatic 95, 3), (15, .athrow, 1), (16, .iload_n 0, 1), (17, .ireturn, 1)] : List (Nat × Instr × Nat)), decode cJ3_checkIndex_8e157 q.1 = .ok q.2 := by decide +kernel
theorem dJ3_checkIndex_8e157_0 : decode cJ3_checkIndex_8e157 0 = .ok (.iload_n 0, 1) := DJ3_checkIndex_8e157_0 (0, .iload_n 0, 1) (List.mem_of_getElem? (i := 0) rfl)
theorem dJ3_checkIndex_8e157_1 : decode cJ3_checkIndex_8e157 1 = .ok (.ifCond .lt 8, 3) := DJ3_checkIndex_8e157_0 (1, .ifCond .lt 8, 3) (List.mem_of_getElem? (i := 1) rfl)
theorem dJ3_checkIndex_8e157_4 : decode cJ3_checkIndex_8e157 4 = .ok (.iload_n 0, 1) := DJ3_checkIndex_8e157_0 (4, .iload_n 0, 1) (List.mem_of_getElem? (i := 2) rfl)
theorem dJ3_checkIndex_8e157_5 : decode cJ3_checkIndex_8e157 5 = .ok (.iload_n 1, 1) := DJ3_checkIndex_8e157_0 (5, .iload_n 1, 1) (List.mem_of_getElem? (i := 3) rfl)
theorem dJ3_checkIndex_8e157_6 : decode cJ3_checkIndex_8e157 6 = .ok (.if_icmp .lt 10, 3) := DJ3_checkIndex_8e157_0 (6, .if_icmp .lt 10, 3) (List.mem_of_getElem? (i := 4) rfl)
theorem dJ3_checkIndex_8e157_9 : decode cJ3_checkIndex_8e157 9 = .ok (.aload_n 2, 1) := DJ3_checkIndex_8e157_0 (9, .aload_n 2, 1) (List.mem_of_getElem? (i := 5) rfl)
theorem dJ3_checkIndex_8e157_10 : decode cJ3_checkIndex_8e157 10 = .ok (.iload_n 0, 1) := DJ3_checkIndex_8e157_0 (10, .iload_n 0, 1) (List.mem_of_getElem? (i := 6) rfl)
theorem dJ3_checkIndex_8e157_11 : decode cJ3_checkIndex_8e157 11 = .ok (.iload_n 1, 1) := DJ3_checkIndex_8e157_0 (11, .iload_n 1, 1) (List.mem_of_getElem? (i := 7) rfl)
theorem dJ3_checkIndex_8e157_12 : decode cJ3_checkIndex_8e157 12 = .ok (.invokestatic 95, 3) := DJ3_checkIndex_8e157_0 (12, .invokestatic 95, 3) (List.mem_of_getElem? (i := 8) rfl)
theorem dJ3_checkIndex_8e157_15 : decode cJ3_checkIndex_8e157 15 = .ok (.athrow, 1) := DJ3_checkIndex_8e157_0 (15, .athrow, 1) (List.mem_of_getElem? (i := 9) rfl)
theorem dJ3_checkIndex_8e157_16 : decode cJ3_checkIndex_8e157 16 = .ok (.iload_n 0, 1) := DJ3_checkIndex_8e157_0 (16, .iload_n 0, 1) (List.mem_of_getElem? (i := 10) rfl)
theorem dJ3_checkIndex_8e157_17 : decode cJ3_checkIndex_8e157 17 = .ok (.ireturn, 1) := DJ3_checkIndex_8e157_0 (17, .ireturn, 1) (List.mem_of_getElem? (i := 11) rfl)
abbrev rmJ3_checkIndex_8e157 : Room := { frames := 0, cells := 0, slots := 0, locals := 40 }
set_option maxHeartbeats 1000000 in
set_option maxRecDepth 100000 in
theorem met_spre0 (l : Launch) (adK adV : Nat → Nat) (x n : Int) (hx : 0 ≤ x ∧ x < n ∧ n < 2147483648) : MT l yJ3_checkIndex_8e157 cJ3_checkIndex_8e157 3 (some .int) rmJ3_checkIndex_8e157 adK adV [vI x, vI n, .null] (some (vI x)) := by
  refine zTI (own := "jdk/internal/util/Preconditions") rfl rfl (Nat.le_of_ble_eq_true rfl) ?_
  intro p e s m args below meth c ls Q hC hZ hl hret
  have hS : va_S (fun _ : Nat => False) s.heap s.heap [] := va_S.rf
  have hl : lv_has ls 3 [(0, vI x), (1, vI n), (2, .null)] := hl
  refine ziload_n hC.1 hC.2.1 dJ3_checkIndex_8e157_0 rfl (lv_at hl 0 rfl) ?_
  refine zif_lt (tgt := 9) hC.1 hC.2.1 (by omega) dJ3_checkIndex_8e157_1 (by decide) (fun h => absurd h (by omega)) (fun _ => ?_)
  refine ziload_n hC.1 hC.2.1 dJ3_checkIndex_8e157_4 rfl (lv_at hl 0 rfl) <| ziload_n hC.1 hC.2.1 dJ3_checkIndex_8e157_5 rfl (lv_at hl 1 rfl) ?_
  refine zicmp_lt (tgt := 16) hC.1 hC.2.1 ⟨by omega, by omega⟩ dJ3_checkIndex_8e157_6 (by decide) (fun _ => ?_) (fun h => absurd hx.2.1 h)
  refine ziload_n hC.1 hC.2.1 dJ3_checkIndex_8e157_16 rfl (lv_at hl 0 rfl) ?_
  exact hret _ _ _ rfl rfl dJ3_checkIndex_8e157_17
set_option maxHeartbeats 1000000 in
set_option maxRecDepth 100000 in
theorem met_spre1 (l : Launch) (adK adV : Nat → Nat) (x n : Int) (t : Nat) (hx : 0 ≤ x ∧ x < n ∧ n < 2147483648) : MT l yJ3_checkIndex_8e157 cJ3_checkIndex_8e157 3 (some .int) rmJ3_checkIndex_8e157 adK adV [vI x, vI n, .ref t] (some (vI x)) := by
  refine zTI (own := "jdk/internal/util/Preconditions") rfl rfl (Nat.le_of_ble_eq_true rfl) ?_
  intro p e s m args below meth c ls Q hC hZ hl hret
  have hS : va_S (fun _ : Nat => False) s.heap s.heap [] := va_S.rf
  have hl : lv_has ls 3 [(0, vI x), (1, vI n), (2, .ref t)] := hl
  refine ziload_n hC.1 hC.2.1 dJ3_checkIndex_8e157_0 rfl (lv_at hl 0 rfl) ?_
  refine zif_lt (tgt := 9) hC.1 hC.2.1 (by omega) dJ3_checkIndex_8e157_1 (by decide) (fun h => absurd h (by omega)) (fun _ => ?_)
  refine ziload_n hC.1 hC.2.1 dJ3_checkIndex_8e157_4 rfl (lv_at hl 0 rfl) <| ziload_n hC.1 hC.2.1 dJ3_checkIndex_8e157_5 rfl (lv_at hl 1 rfl) ?_
  refine zicmp_lt (tgt := 16) hC.1 hC.2.1 ⟨by omega, by omega⟩ dJ3_checkIndex_8e157_6 (by decide) (fun _ => ?_) (fun h => absurd hx.2.1 h)
  refine ziload_n hC.1 hC.2.1 dJ3_checkIndex_8e157_16 rfl (lv_at hl 0 rfl) ?_
  exact hret _ _ _ rfl rfl dJ3_checkIndex_8e157_17
theorem DJ0_checkIndex_df160_0 : ∀ q ∈ ([(0, .iload_n 0, 1), (1, .iload_n 1, 1), (2, .getstatic 1053, 3), (5, .invokestatic 1059, 3), (8, .pop, 1), (9, .return_, 1)] : List (Nat × Instr × Nat)), decode cJ0_checkIndex_df160 q.1 = .ok q.2 := by decide +kernel
theorem dJ0_checkIndex_df160_0 : decode cJ0_checkIndex_df160 0 = .ok (.iload_n 0, 1) := DJ0_checkIndex_df160_0 (0, .iload_n 0, 1) (List.mem_of_getElem? (i := 0) rfl)
theorem dJ0_checkIndex_df160_1 : decode cJ0_checkIndex_df160 1 = .ok (.iload_n 1, 1) := DJ0_checkIndex_df160_0 (1, .iload_n 1, 1) (List.mem_of_getElem? (i := 1) rfl)
theorem dJ0_checkIndex_df160_2 : decode cJ0_checkIndex_df160 2 = .ok (.getstatic 1053, 3) := DJ0_checkIndex_df160_0 (2, .getstatic 1053, 3) (List.mem_of_getElem? (i := 2) rfl)
theorem dJ0_checkIndex_df160_5 : decode cJ0_checkIndex_df160 5 = .ok (.invokestatic 1059, 3) := DJ0_checkIndex_df160_0 (5, .invokestatic 1059, 3) (List.mem_of_getElem? (i := 3) rfl)
theorem dJ0_checkIndex_df160_8 : decode cJ0_checkIndex_df160 8 = .ok (.pop, 1) := DJ0_checkIndex_df160_0 (8, .pop, 1) (List.mem_of_getElem? (i := 4) rfl)
theorem dJ0_checkIndex_df160_9 : decode cJ0_checkIndex_df160 9 = .ok (.return_, 1) := DJ0_checkIndex_df160_0 (9, .return_, 1) (List.mem_of_getElem? (i := 5) rfl)
abbrev rmJ0_checkIndex_df160 : Room := { frames := 1, cells := 0, slots := 0, locals := 90 }
set_option maxHeartbeats 1000000 in
set_option maxRecDepth 100000 in
theorem met_scix (l : Launch) (adK adV : Nat → Nat) (x n : Int) (hx : 0 ≤ x ∧ x < n ∧ n < 2147483648) : MT l yJ0_checkIndex_df160 cJ0_checkIndex_df160 2 none rmJ0_checkIndex_df160 adK adV [vI x, vI n] (none) := by
  refine zTV (own := "java/lang/String") rfl rfl (Nat.le_of_ble_eq_true rfl) ?_
  intro p e s m args below meth c ls Q hC hZ hl hret
  have hS : va_S (fun _ : Nat => False) s.heap s.heap [] := va_S.rf
  have hl : lv_has ls 2 [(0, vI x), (1, vI n)] := hl
  refine ziload_n hC.1 hC.2.1 dJ0_checkIndex_df160_0 rfl (lv_at hl 0 rfl) <| ziload_n hC.1 hC.2.1 dJ0_checkIndex_df160_1 rfl (lv_at hl 1 rfl) ?_
  rcases hZ.2.2.1 with h | ⟨t, h⟩
  · refine va_gets hC.1 hC.2.1 h hS hC.2.2.2.1 (hC.2.2.2.2 _ (qin_6 (i := 177) rfl rfl)) (fun _ h => h) dJ0_checkIndex_df160_2 ?_
    refine zcST0 (As := [vI x, vI n, .null]) (rest := []) hC hZ (met_spre0 l adK adV x n hx) (show zwS "java/lang/String" 1059 yJ3_checkIndex_8e157 cJ3_checkIndex_8e157 3 (some .int) 3 from ⟨⟨(qin_6 (i := 179) rfl rfl), (qin_6 (i := 180) rfl rfl), (qin_1 (i := 15) rfl rfl), (qin_6 (i := 181) rfl rfl)⟩, by decide +kernel, by decide +kernel, by decide +kernel⟩) hS rfl hl.1 rfl (Nat.le_of_ble_eq_true rfl) ⟨(Nat.le_of_ble_eq_true rfl), (Nat.le_of_ble_eq_true rfl)⟩ ⟨rfl, rfl⟩ ⟨Nat.le_refl _, Nat.le_refl _⟩ dJ0_checkIndex_df160_5 ?_
    exact lv_pop hC.1 hC.2.1 dJ0_checkIndex_df160_8 rfl (hret _ _ dJ0_checkIndex_df160_9)
  · refine va_gets hC.1 hC.2.1 h hS hC.2.2.2.1 (hC.2.2.2.2 _ (qin_6 (i := 177) rfl rfl)) (fun _ h => h) dJ0_checkIndex_df160_2 ?_
    refine zcST0 (As := [vI x, vI n, .ref t]) (rest := []) hC hZ (met_spre1 l adK adV x n t hx) (show zwS "java/lang/String" 1059 yJ3_checkIndex_8e157 cJ3_checkIndex_8e157 3 (some .int) 3 from ⟨⟨(qin_6 (i := 179) rfl rfl), (qin_6 (i := 180) rfl rfl), (qin_1 (i := 15) rfl rfl), (qin_6 (i := 181) rfl rfl)⟩, by decide +kernel, by decide +kernel, by decide +kernel⟩) hS rfl hl.1 rfl (Nat.le_of_ble_eq_true rfl) ⟨(Nat.le_of_ble_eq_true rfl), (Nat.le_of_ble_eq_true rfl)⟩ ⟨rfl, rfl⟩ ⟨Nat.le_refl _, Nat.le_refl _⟩ dJ0_checkIndex_df160_5 ?_
    exact lv_pop hC.1 hC.2.1 dJ0_checkIndex_df160_8 rfl (hret _ _ dJ0_checkIndex_df160_9)
theorem DJ1_charAt_3b067_0 : ∀ q ∈ ([(0, .iload_n 1, 1), (1, .aload_n 0, 1), (2, .arraylength, 1), (3, .invokestatic 9, 3), (6, .aload_n 0, 1), (7, .iload_n 1, 1), (8, .baload, 1), (9, .sipush 255, 3), (12, .iand, 1), (13, .i2c, 1), (14, .ireturn, 1)] : List (Nat × Instr × Nat)), decode cJ1_charAt_3b067 q.1 = .ok q.2 := by decide +kernel
theorem dJ1_charAt_3b067_0 : decode cJ1_charAt_3b067 0 = .ok (.iload_n 1, 1) := DJ1_charAt_3b067_0 (0, .iload_n 1, 1) (List.mem_of_getElem? (i := 0) rfl)
theorem dJ1_charAt_3b067_1 : decode cJ1_charAt_3b067 1 = .ok (.aload_n 0, 1) := DJ1_charAt_3b067_0 (1, .aload_n 0, 1) (List.mem_of_getElem? (i := 1) rfl)
theorem dJ1_charAt_3b067_2 : decode cJ1_charAt_3b067 2 = .ok (.arraylength, 1) := DJ1_charAt_3b067_0 (2, .arraylength, 1) (List.mem_of_getElem? (i := 2) rfl)
theorem dJ1_charAt_3b067_3 : decode cJ1_charAt_3b067 3 = .ok (.invokestatic 9, 3) := DJ1_charAt_3b067_0 (3, .invokestatic 9, 3) (List.mem_of_getElem? (i := 3) rfl)
theorem dJ1_charAt_3b067_6 : decode cJ1_charAt_3b067 6 = .ok (.aload_n 0, 1) := DJ1_charAt_3b067_0 (6, .aload_n 0, 1) (List.mem_of_getElem? (i := 4) rfl)
theorem dJ1_charAt_3b067_7 : decode cJ1_charAt_3b067 7 = .ok (.iload_n 1, 1) := DJ1_charAt_3b067_0 (7, .iload_n 1, 1) (List.mem_of_getElem? (i := 5) rfl)
theorem dJ1_charAt_3b067_8 : decode cJ1_charAt_3b067 8 = .ok (.baload, 1) := DJ1_charAt_3b067_0 (8, .baload, 1) (List.mem_of_getElem? (i := 6) rfl)
theorem dJ1_charAt_3b067_9 : decode cJ1_charAt_3b067 9 = .ok (.sipush 255, 3) := DJ1_charAt_3b067_0 (9, .sipush 255, 3) (List.mem_of_getElem? (i := 7) rfl)
theorem dJ1_charAt_3b067_12 : decode cJ1_charAt_3b067 12 = .ok (.iand, 1) := DJ1_charAt_3b067_0 (12, .iand, 1) (List.mem_of_getElem? (i := 8) rfl)
theorem dJ1_charAt_3b067_13 : decode cJ1_charAt_3b067 13 = .ok (.i2c, 1) := DJ1_charAt_3b067_0 (13, .i2c, 1) (List.mem_of_getElem? (i := 9) rfl)
theorem dJ1_charAt_3b067_14 : decode cJ1_charAt_3b067 14 = .ok (.ireturn, 1) := DJ1_charAt_3b067_0 (14, .ireturn, 1) (List.mem_of_getElem? (i := 10) rfl)
abbrev rmJ1_charAt_3b067 : Room := { frames := 2, cells := 0, slots := 0, locals := 150 }
set_option maxHeartbeats 1000000 in
set_option maxRecDepth 100000 in
theorem met_sch1 (l : Launch) (adK adV : Nat → Nat) (i k : Nat) (hi : i < 6) (hk : k < zLn.getD i 0) : MT l yJ1_charAt_3b067 cJ1_charAt_3b067 2 (some .char) rmJ1_charAt_3b067 adK adV [.ref (adV i), vI k] (some (.int ((zBy.getD i []).getD k 0))) := by
  refine zTI (own := "java/lang/StringLatin1") rfl rfl (Nat.le_of_ble_eq_true rfl) ?_
  intro p e s m args below meth c ls Q hC hZ hl hret
  have hS : va_S (fun _ : Nat => False) s.heap s.heap [] := va_S.rf
  have hl : lv_has ls 2 [(0, .ref (adV i)), (1, vI k)] := hl
  have h7 : ∀ j : Fin 6, zLn.getD j 0 < 8 := by decide +kernel
  have hn := h7 ⟨i, hi⟩
  dsimp only at hn
  refine ziload_n hC.1 hC.2.1 dJ1_charAt_3b067_0 rfl (lv_at hl 1 rfl) <| lv_aload_n hC.1 hC.2.1 dJ1_charAt_3b067_1 rfl (lv_at hl 0 rfl) ?_
  refine va_tlen hC.1 hC.2.1 (v := Int32.ofInt (zLn.getD i 0)) (hZ.1.1 i hi).2.2.2 hS rfl dJ1_charAt_3b067_2 ?_
  refine zcST0 (As := [vI k, vI (zLn.getD i 0)]) (rest := []) hC hZ (met_scix l adK adV k (zLn.getD i 0) ⟨by omega, by omega, by omega⟩) (show zwS "java/lang/StringLatin1" 9 yJ0_checkIndex_df160 cJ0_checkIndex_df160 2 none 2 from ⟨⟨(qin_6 (i := 174) rfl rfl), (qin_6 (i := 175) rfl rfl), (qin_1 (i := 13) rfl rfl), (qin_6 (i := 176) rfl rfl)⟩, by decide +kernel, by decide +kernel, by decide +kernel⟩) hS rfl hl.1 rfl (Nat.le_of_ble_eq_true rfl) ⟨(Nat.le_of_ble_eq_true rfl), (Nat.le_of_ble_eq_true rfl)⟩ ⟨rfl, rfl⟩ ⟨Nat.le_refl _, Nat.le_refl _⟩ dJ1_charAt_3b067_3 ?_
  refine lv_aload_n hC.1 hC.2.1 dJ1_charAt_3b067_6 rfl (lv_at hl 0 rfl) <| ziload_n hC.1 hC.2.1 dJ1_charAt_3b067_7 rfl (lv_at hl 1 rfl) ?_
  have hx := oI_idx (x := (k : Int)) (n := zLn.getD i 0) ⟨by omega, by omega⟩ (by omega)
  refine va_tb hC.1 hC.2.1 (hZ.1.1 i hi).2.2.2 hS (inb_in hx.1) (v := .int ((zBy.getD i []).getD k 0)) (by rw [hx.2, show ((k : Int)).toNat = k by omega]) dJ1_charAt_3b067_8 ?_
  refine zsipush hC.1 hC.2.1 dJ1_charAt_3b067_9 (by decide) ?_
  have hb : ∀ (j : Fin 6) (q : Fin 8), (q : Nat) < zLn.getD j 0 → ((((zBy.getD j []).getD q 0) &&& Int32.ofInt 255).toUInt32 % 65536).toInt32 = (zBy.getD j []).getD q 0 ∧ narrow .char (.int ((zBy.getD j []).getD q 0)) = .int ((zBy.getD j []).getD q 0) := by decide +kernel
  have hb := hb ⟨i, hi⟩ ⟨k, by omega⟩ hk
  refine lv_iand hC.1 hC.2.1 dJ1_charAt_3b067_12 ?_
  refine lv_i2c hC.1 hC.2.1 dJ1_charAt_3b067_13 hb.1 ?_
  exact hret _ _ _ rfl hb.2 dJ1_charAt_3b067_14
theorem DJ0_charAt_5068e_0 : ∀ q ∈ ([(0, .aload_n 0, 1), (1, .invokevirtual 492, 3), (4, .ifCond .eq 12, 3), (7, .aload_n 0, 1), (8, .getfield 9, 3), (11, .iload_n 1, 1), (12, .invokestatic 495, 3), (15, .ireturn, 1), (16, .aload_n 0, 1), (17, .getfield 9, 3), (20, .iload_n 1, 1), (21, .invokestatic 498, 3), (24, .ireturn, 1)] : List (Nat × Instr × Nat)), decode cJ0_charAt_5068e q.1 = .ok q.2 := by decide +kernel
theorem dJ0_charAt_5068e_0 : decode cJ0_charAt_5068e 0 = .ok (.aload_n 0, 1) := DJ0_charAt_5068e_0 (0, .aload_n 0, 1) (List.mem_of_getElem? (i := 0) rfl)
theorem dJ0_charAt_5068e_1 : decode cJ0_charAt_5068e 1 = .ok (.invokevirtual 492, 3) := DJ0_charAt_5068e_0 (1, .invokevirtual 492, 3) (List.mem_of_getElem? (i := 1) rfl)
theorem dJ0_charAt_5068e_4 : decode cJ0_charAt_5068e 4 = .ok (.ifCond .eq 12, 3) := DJ0_charAt_5068e_0 (4, .ifCond .eq 12, 3) (List.mem_of_getElem? (i := 2) rfl)
theorem dJ0_charAt_5068e_7 : decode cJ0_charAt_5068e 7 = .ok (.aload_n 0, 1) := DJ0_charAt_5068e_0 (7, .aload_n 0, 1) (List.mem_of_getElem? (i := 3) rfl)
theorem dJ0_charAt_5068e_8 : decode cJ0_charAt_5068e 8 = .ok (.getfield 9, 3) := DJ0_charAt_5068e_0 (8, .getfield 9, 3) (List.mem_of_getElem? (i := 4) rfl)
theorem dJ0_charAt_5068e_11 : decode cJ0_charAt_5068e 11 = .ok (.iload_n 1, 1) := DJ0_charAt_5068e_0 (11, .iload_n 1, 1) (List.mem_of_getElem? (i := 5) rfl)
theorem dJ0_charAt_5068e_12 : decode cJ0_charAt_5068e 12 = .ok (.invokestatic 495, 3) := DJ0_charAt_5068e_0 (12, .invokestatic 495, 3) (List.mem_of_getElem? (i := 6) rfl)
theorem dJ0_charAt_5068e_15 : decode cJ0_charAt_5068e 15 = .ok (.ireturn, 1) := DJ0_charAt_5068e_0 (15, .ireturn, 1) (List.mem_of_getElem? (i := 7) rfl)
theorem dJ0_charAt_5068e_16 : decode cJ0_charAt_5068e 16 = .ok (.aload_n 0, 1) := DJ0_charAt_5068e_0 (16, .aload_n 0, 1) (List.mem_of_getElem? (i := 8) rfl)
theorem dJ0_charAt_5068e_17 : decode cJ0_charAt_5068e 17 = .ok (.getfield 9, 3) := DJ0_charAt_5068e_0 (17, .getfield 9, 3) (List.mem_of_getElem? (i := 9) rfl)
theorem dJ0_charAt_5068e_20 : decode cJ0_charAt_5068e 20 = .ok (.iload_n 1, 1) := DJ0_charAt_5068e_0 (20, .iload_n 1, 1) (List.mem_of_getElem? (i := 10) rfl)
theorem dJ0_charAt_5068e_21 : decode cJ0_charAt_5068e 21 = .ok (.invokestatic 498, 3) := DJ0_charAt_5068e_0 (21, .invokestatic 498, 3) (List.mem_of_getElem? (i := 11) rfl)
theorem dJ0_charAt_5068e_24 : decode cJ0_charAt_5068e 24 = .ok (.ireturn, 1) := DJ0_charAt_5068e_0 (24, .ireturn, 1) (List.mem_of_getElem? (i := 12) rfl)
abbrev rmJ0_charAt_5068e : Room := { frames := 3, cells := 0, slots := 0, locals := 200 }
set_option maxHeartbeats 1000000 in
set_option maxRecDepth 100000 in
theorem met_scha (l : Launch) (adK adV : Nat → Nat) (i k : Nat) (hi : i < 6) (hk : k < zLn.getD i 0) : MT l yJ0_charAt_5068e cJ0_charAt_5068e 2 (some .char) rmJ0_charAt_5068e adK adV [.ref (adK i), vI k] (some (.int ((zBy.getD i []).getD k 0))) := by
  refine zTI (own := "java/lang/String") rfl rfl (Nat.le_of_ble_eq_true rfl) ?_
  intro p e s m args below meth c ls Q hC hZ hl hret
  have hS : va_S (fun _ : Nat => False) s.heap s.heap [] := va_S.rf
  have hl : lv_has ls 2 [(0, .ref (adK i)), (1, vI k)] := hl
  have hb : ∀ (j : Fin 6) (q : Fin 8), (q : Nat) < zLn.getD j 0 → narrow .char (.int ((zBy.getD j []).getD q 0)) = .int ((zBy.getD j []).getD q 0) := by decide +kernel
  have h7 : ∀ j : Fin 6, zLn.getD j 0 < 8 := by decide +kernel
  have hn := h7 ⟨i, hi⟩
  dsimp only at hn
  have hb := hb ⟨i, hi⟩ ⟨k, by omega⟩ hk
  refine lv_aload_n hC.1 hC.2.1 dJ0_charAt_5068e_0 rfl (lv_at hl 0 rfl) ?_
  refine zcVT0 (As := []) (rest := []) hC hZ hi (met_slat l adK adV i hi) (show zwV "java/lang/String" 492 "java/lang/String" yJ0_isLatin1_aae02 cJ0_isLatin1_aae02 1 (some .boolean) 0 from ⟨⟨(qin_6 (i := 167) rfl rfl), (qin_6 (i := 168) rfl rfl), (qin_6 (i := 169) rfl rfl), (qin_1 (i := 13) rfl rfl), (qin_6 (i := 170) rfl rfl)⟩, rfl, by decide +kernel, by decide +kernel, by decide +kernel⟩) hS rfl hl.1 rfl (Nat.le_of_ble_eq_true rfl) ⟨(Nat.le_of_ble_eq_true rfl), (Nat.le_of_ble_eq_true rfl)⟩ ⟨rfl, rfl⟩ ⟨Nat.le_refl _, Nat.le_refl _⟩ dJ0_charAt_5068e_1 ?_
  refine lv_if_eq (tgt := 16) hC.1 hC.2.1 dJ0_charAt_5068e_4 (by decide) (fun h => absurd h (by decide)) (fun _ => ?_)
  refine lv_aload_n hC.1 hC.2.1 dJ0_charAt_5068e_7 rfl (lv_at hl 0 rfl) ?_
  refine vk_getf hC.1 hC.2.1 (hZ.1.1 i hi).2.2.1 hS hC.2.2.2.1 (hC.2.2.2.2 _ (qin_8 (i := 163) rfl rfl)) (fun _ h => h) dJ0_charAt_5068e_8 ?_
  refine ziload_n hC.1 hC.2.1 dJ0_charAt_5068e_11 rfl (lv_at hl 1 rfl) ?_
  refine zcST0 (As := [.ref (adV i), vI k]) (rest := []) hC hZ (met_sch1 l adK adV i k hi hk) (show zwS "java/lang/String" 495 yJ1_charAt_3b067 cJ1_charAt_3b067 2 (some .char) 2 from ⟨⟨(qin_6 (i := 171) rfl rfl), (qin_6 (i := 172) rfl rfl), (qin_1 (i := 14) rfl rfl), (qin_6 (i := 173) rfl rfl)⟩, by decide +kernel, by decide +kernel, by decide +kernel⟩) hS rfl hl.1 rfl (Nat.le_of_ble_eq_true rfl) ⟨(Nat.le_of_ble_eq_true rfl), (Nat.le_of_ble_eq_true rfl)⟩ ⟨rfl, rfl⟩ ⟨Nat.le_refl _, Nat.le_refl _⟩ dJ0_charAt_5068e_12 ?_
  exact hret _ _ _ rfl hb dJ0_charAt_5068e_15
