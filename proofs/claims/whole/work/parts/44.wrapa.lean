/-! the law's wrappers: contracts of methods with handlers -/
abbrev zO (kA : Nat → ClassId) (b : Nat) (T : Nat → Int) : Nat × va_E := (b, .inl (kA 2, 1, .inr (.inl (aL T))))
def wsH_ (y : MethodName) (c : ByteArray) (n : Nat) (r : Option FieldType) (hh : List (Nat × Nat × Nat × Nat)) : List Cond := Cond.codeWith y c n r hh :: lw_all
def zNp : List (String × String) := [(zEx 1, zEx 0), (zEx 2, zEx 0), (zEx 2, zEx 1)]
def zNcs (U : State) : Prop := ∀ q ∈ zNp, va_Nc q.1 q.2 U
theorem zNcs.moved {s U : State} (hvm : s.vm.Alike U.vm) (h : zNcs s) : zNcs U := fun q hq => (h q hq).moved hvm
def MZH (l : Launch) (y : MethodName) (cc : ByteArray) (n : Nat) (ret : Option FieldType) (hh : List (Nat × Nat × Nat × Nat)) (rm : Room) (D : va_G) (kA : Nat → ClassId) (av : List Value) (W0 W1 : va_W) (o : Option Value) : Prop :=
  Met l y (wsH_ y cc n ret hh) rm (va_Pc av (fun U => va_P D vwCl W0 U.heap ∧ zK D kA U)) (fun _ st oc t => oc = .returned o ∧ va_P D vwCl W1 t.heap ∧ va_F (zF W0) st t) 0 0 (zF W0)
def MWH (l : Launch) (y : MethodName) (cc : ByteArray) (n : Nat) (ret : Option FieldType) (hh : List (Nat × Nat × Nat × Nat)) (rm : Room) (D : va_G) (kA : Nat → ClassId) (sz : Nat) (av : List Value) (W0 : va_W) (o : Option Value) (mc ms : Nat) (post : va_W → Prop) : Prop :=
  Met l y (wsH_ y cc n ret hh) rm (va_Pc av (fun U => U.heap.size = sz ∧ va_P D vwCl W0 U.heap ∧ zK D kA U)) (fun _ st oc t => oc = .returned o ∧ ∃ w : va_W, post w ∧ va_P D vwCl w t.heap ∧ va_D (zG W0 sz) w ∧ va_F (zG W0 sz) st t) mc ms (zG W0 sz)
def MTH (l : Launch) (y : MethodName) (cc : ByteArray) (n : Nat) (ret : Option FieldType) (hh : List (Nat × Nat × Nat × Nat)) (rm : Room) (D : va_G) (kA : Nat → ClassId) (av : List Value) (W0 : va_W) (o : Option Value) : Prop :=
  Met l y (wsH_ y cc n ret hh) rm (va_Pc av (fun U => va_P D vwCl W0 U.heap ∧ zK D kA U ∧ zX l U ∧ zNcs U)) (fun _ st oc t => oc = .returned o ∧ st.heap.size ≤ t.heap.size ∧ ∀ q : Nat, q < st.heap.size → t.heap[q]? = st.heap[q]?) 1 6 (fun _ => False)
theorem good_wsH {y : MethodName} {b : ByteArray} {n : Nat} {ret : Option FieldType} {hh : List (Nat × Nat × Nat × Nat)} (hc : Cond.codeWith y b n ret hh ∈ lw_all) : GoodIn lw_all (wsH_ y b n ret hh) := fun w h => by
  have hw : w ∈ lw_all := (List.mem_cons.mp h).elim (fun q => by rw [q]; exact hc) (fun q => q)
  exact ⟨hw, good_of_word (lw_all_good hw)⟩
def zwH (own : String) (idx : Nat) (y : MethodName) (b : ByteArray) (n : Nat) (ret : Option FieldType) (hh : List (Nat × Nat × Nat × Nat)) (k : Nat) : Prop :=
  (Cond.methodLink own idx y ∈ lw_all ∧ Cond.static y ∈ lw_all ∧ Cond.initialized y.cls ∈ lw_all ∧ Cond.codeWith y b n ret hh ∈ lw_all) ∧ y.cls ≠ "java/lang/invoke/MethodHandle" ∧ y.cls ≠ "java/lang/invoke/VarHandle" ∧ (parseMethodDescriptor y.desc).map (fun d => d.parameters.length) = some k
section ZWH
variable {p : Program} {l : Launch} {e : Env} {R : Room} {s : State} {m : MethodId} {args : Array Value} {below : List Frame} {meth : Method} {c : Code} {H H0 : Heap} {locs : List Loc} {cells slots : Nat} {Q : State → Prop}
variable {pc nL : Nat} {ls : Array Slot} {rest st0 : List Value} {A0 : Nat → Prop} {D : va_G} {kA : Nat → ClassId} {cc : ByteArray} {own : String} {o : Option Value} {a : Array Value} {W0 W1 : va_W} {hh : List (Nat × Nat × Nat × Nat)}
theorem zcwH {idx n k mc ms : Nat} {y : MethodName} {b : ByteArray} {ret : Option FieldType} {rm : Room} (hts : ∀ w ∈ lw_all, w.before args s = true) (h : zwH own idx y b n ret hh k) (hR : rm.frames + 1 ≤ R.frames ∧ 8 + (n + 11) + rm.locals ≤ R.locals) (hc : rm.cells = mc) (hs : rm.slots = ms) : vx_CSW R s args own idx y b n ret hh (wsH_ y b n ret hh) rm mc ms k := by
  obtain ⟨⟨h1, h2, h3, h5⟩, hd⟩ := h
  refine vx_cwSW (Ts := lw_all) (ws' := lw_all) k hts (fun w hw => ?_) rfl hc hs hd hR
  rcases List.mem_append.mp hw with q | q
  · have : w ∈ lw_all := by
      rcases List.mem_cons.mp q with rfl | q
      · exact h1
      rcases List.mem_cons.mp q with rfl | q
      · exact h2
      rcases List.mem_cons.mp q with rfl | q
      · exact h3
      cases q
    exact ⟨this, good_of_word (lw_all_good this)⟩
  · exact good_wsH h5 w q
theorem zHI {y : MethodName} {n : Nat} {rm : Room} {av : List Value} (hy : plainName y.cls = true) (hown : y.cls = own) (hlen : (lg_sl av).length ≤ n)
    (body : ∀ (p : Program) (e : Env) (s : State) (m : MethodId) (args : Array Value) (below : List Frame) (meth : Method) (c : Code) (ls : Array Slot) (Q : State → Prop), CallFix p m c cc n s args lw_all own → zK D kA s → va_P D vwCl W0 s.heap → lv_has ls n (lv_args 0 av) → (∀ (v : Int32) (pc : Nat) (ls : Array Slot) (H1 : Heap) (locs1 : List Loc), o = some (.int v) → va_P D vwCl W1 H1 → va_S (zF W0) s.heap H1 locs1 → decode cc pc = .ok (.ireturn, 1) → W p l e rm s m args below meth c H1 locs1 0 0 Q (F0 m pc ls [.int v])) → W p l e rm s m args below meth c s.heap [] 0 0 Q (F0 m 0 ls [])) : MZH l y cc n (some .int) hh rm D kA av W0 W1 o := by
  refine va_MetW (ws' := lw_all) (cc := cc) (maxL := n) (ret := (some .int)) (hh := hh) hy rfl ?_
  intro p e s m args below meth c s₁ B hml hv
  obtain ⟨rfl, hP, hK⟩ := hv
  have hts := atoms_spec (ws := wsH_ y cc n (some .int) hh) B.pre
  subst hown
  have hC : CallFix p m c cc n s av.toArray lw_all y.cls := ⟨B.exec, B.bytes, hml, findClass_of_methodNamed B.named, fun w h => hts w (List.mem_cons_of_mem _ h)⟩
  refine zentry hlen (fun ls hl => ?_)
  refine body p e s m _ below meth c ls _ hC hK hP hl (fun v pc ls H1 locs1 ho hP1 hS1 hdg => ?_)
  exact W.iret (v := v) hC.1 hC.2.1 B.returns (fun t ht _ => ⟨by rw [ho], by rw [ht]; exact hP1, hS1.F ht⟩) hS1.2.2 hdg B.notSynchronized
theorem zHW {y : MethodName} {n sz mc ms : Nat} {rm : Room} {av : List Value} {post : va_W → Prop} (hy : plainName y.cls = true) (hown : y.cls = own) (hlen : (lg_sl av).length ≤ n)
    (body : ∀ (p : Program) (e : Env) (s : State) (m : MethodId) (args : Array Value) (below : List Frame) (meth : Method) (c : Code) (ls : Array Slot) (Q : State → Prop), CallFix p m c cc n s args lw_all own → zK D kA s → va_P D vwCl W0 s.heap → s.heap.size = sz → lv_has ls n (lv_args 0 av) → (∀ (v : Int32) (pc : Nat) (ls : Array Slot) (H1 : Heap) (locs1 : List Loc) (w : va_W) (cells slots : Nat), cells ≤ mc → slots ≤ ms → o = some (.int v) → post w → va_P D vwCl w H1 → va_D (zG W0 s.heap.size) w → va_S (zG W0 s.heap.size) s.heap H1 locs1 → decode cc pc = .ok (.ireturn, 1) → W p l e rm s m args below meth c H1 locs1 cells slots Q (F0 m pc ls [.int v])) → W p l e rm s m args below meth c s.heap [] 0 0 Q (F0 m 0 ls [])) : MWH l y cc n (some .int) hh rm D kA sz av W0 o mc ms post := by
  refine va_MetW (ws' := lw_all) (cc := cc) (maxL := n) (ret := (some .int)) (hh := hh) hy rfl ?_
  intro p e s m args below meth c s₁ B hml hv
  obtain ⟨rfl, rfl, hP, hK⟩ := hv
  have hts := atoms_spec (ws := wsH_ y cc n (some .int) hh) B.pre
  subst hown
  have hC : CallFix p m c cc n s av.toArray lw_all y.cls := ⟨B.exec, B.bytes, hml, findClass_of_methodNamed B.named, fun w h => hts w (List.mem_cons_of_mem _ h)⟩
  refine zentry hlen (fun ls hl => ?_)
  refine body p e s m _ below meth c ls _ hC hK hP rfl hl (fun v pc ls H1 locs1 w cells slots hc hs ho hw hP1 hD1 hS1 hdg => ?_)
  refine W.widen (k := mc) (n := ms) hc hs ?_
  exact W.iret (v := v) hC.1 hC.2.1 B.returns (fun t ht _ => ⟨by rw [ho], w, hw, by rw [ht]; exact hP1, hD1, hS1.F ht⟩) hS1.2.2 hdg B.notSynchronized
theorem zHT {y : MethodName} {n : Nat} {rm : Room} {av : List Value} (hy : plainName y.cls = true) (hown : y.cls = own) (hlen : (lg_sl av).length ≤ n)
    (body : ∀ (p : Program) (e : Env) (s : State) (m : MethodId) (args : Array Value) (below : List Frame) (meth : Method) (c : Code) (ls : Array Slot) (Q : State → Prop), CallFix p m c cc n s args lw_all own → zK D kA s → va_P D vwCl W0 s.heap → zX l s → zNcs s → c.exceptionTable.toList = tableOf hh → lv_has ls n (lv_args 0 av) → (∀ (v : Int32) (pc : Nat) (ls : Array Slot) (H1 : Heap), o = some (.int v) → s.heap.size ≤ H1.size → (∀ q : Nat, q < s.heap.size → H1[q]? = s.heap[q]?) → decode cc pc = .ok (.ireturn, 1) → W p l e rm s m args below meth c H1 [] 1 6 Q (F0 m pc ls [.int v])) → W p l e rm s m args below meth c s.heap [] 0 0 Q (F0 m 0 ls [])) : MTH l y cc n (some .int) hh rm D kA av W0 o := by
  refine va_MetW (ws' := lw_all) (cc := cc) (maxL := n) (ret := (some .int)) (hh := hh) hy rfl ?_
  intro p e s m args below meth c s₁ B hml hv
  obtain ⟨rfl, hP, hK, hX, hN⟩ := hv
  have hts := atoms_spec (ws := wsH_ y cc n (some .int) hh) B.pre
  have hT := vx_table (x := y) B (hts _ List.mem_cons_self)
  subst hown
  have hC : CallFix p m c cc n s av.toArray lw_all y.cls := ⟨B.exec, B.bytes, hml, findClass_of_methodNamed B.named, fun w h => hts w (List.mem_cons_of_mem _ h)⟩
  refine zentry hlen (fun ls hl => ?_)
  refine body p e s m _ below meth c ls _ hC hK hP hX hN hT hl (fun v pc ls H1 ho hz hk hdg => ?_)
  exact W.iret (v := v) hC.1 hC.2.1 B.returns (fun t ht _ => ⟨by rw [ho], by rw [ht]; exact hz, fun q hq => by rw [ht]; exact hk q hq⟩) (fun q hq => absurd hq List.not_mem_nil) hdg B.notSynchronized
/-- a call that throws, from the heap of the start, for any Q -/
theorem zcVT {idx n k : Nat} {C : String} {y : MethodName} {b : ByteArray} {ret : Option FieldType} {rm : Room} {b0 ci q0 : Nat} {fs As : List Value} {r : vw_C} {E : String} (hC : CallFix p m c cc nL s args lw_all own) (hK : zK D kA s) (hX : zX l s) (hM : MX l y b n ret rm D kA (.ref b0 :: As) W0 E) (hw : zwV own idx C y b n ret k)
    (hPc : va_P D vwCl W0 s.heap) (he : W0[q0]? = some (b0, .inr (ci, fs))) (hc : vwCl[ci]? = some r) (hrC : r.1 = C) (hk : As.length = k) (hl : ls.size = nL) (hst : st0 = As.reverse ++ .ref b0 :: rest) (hcat : (rest.map fun v => v.category).sum ≤ 8) (hR : rm.frames + 1 ≤ R.frames ∧ 8 + (n + 11) + rm.locals ≤ R.locals) (hrm : rm.cells = 1 ∧ rm.slots = 6) (hf : 1 ≤ R.cells ∧ 6 ≤ R.slots) (hdg : decode cc pc = .ok (.invokevirtual idx, 3))
    (kx : ∀ (ce : Cell) (q9 : Addr) (H1 : Heap), s.heap.size ≤ H1.size → (∀ q : Nat, q < s.heap.size → H1[q]? = s.heap[q]?) → H1[q9]? = some ce → ce.vm = .none → s.vm.findClass E = some ce.cls → vx_W p l e R s m args below meth c H1 [] 1 6 Q (F0 m pc ls rest) q9) : W p l e R s m args below meth c s.heap [] 0 0 Q (F0 m pc ls st0) := by
  subst hrC
  exact zbackX (vx_runV (g := F0 m pc ls st0) (As := As) (rest := rest) hC hM (zcwV hC.2.2.2.2 hw hR hrm.1 hrm.2) ⟨zblindX, va_recv hK.1 hPc hc he, fun U hU hW => ⟨rfl, by rw [hU]; exact hPc, hK.warm hW, zXcall hX hU hW⟩⟩ rfl hk hl hst (lv_room hcat) hdg hf) kx
end ZWH
theorem zPtail {D : va_G} {cl : List vw_C} {q : Nat × va_E} {ws : va_W} {H : Heap} (h : va_P D cl (q :: ws) H) : va_P D cl ws H := fun k z hk => h (k + 1) z hk
theorem zDtail {A : Nat → Prop} {q : Nat × va_E} {ws : va_W} (h : va_D A (q :: ws)) : va_D A ws := ⟨fun i j p z hp hz e => by have := h.1 (i + 1) (j + 1) p z hp hz e; omega, fun k z hk => h.2 (k + 1) z hk⟩
theorem zconsW {D : va_G} {cl : List vw_C} {A0 : Nat → Prop} {q0 : Nat × va_E} {Wt w : va_W} {H H1 : Heap} (hP : va_P D cl (q0 :: Wt) H) (hD : va_D A0 (q0 :: Wt)) (hPw : va_P D cl w H1) (hDw : va_D (zG Wt H.size) w) (hk : ∀ q : Nat, q < H.size → ¬ zF Wt q → H1[q]? = H[q]?) (hA : ∀ q, zG Wt H.size q → A0 q) : va_P D cl (q0 :: w) H1 ∧ va_D A0 (q0 :: w) := by
  have hlt := (hP 0 q0 rfl).lt
  have hnz : ¬ zF Wt q0.1 := by
    rintro ⟨k, e, hk⟩
    have := hD.1 0 (k + 1) q0 (q0.1, e) rfl hk rfl
    omega
  refine ⟨fun k z hz => ?_, fun i j p z hp hz e => ?_, fun k z hz => ?_⟩
  · cases k with
    | zero => cases hz; exact (hP 0 q0 rfl).kept (hk q0.1 hlt hnz)
    | succ k => exact hPw k z hz
  · have hne : ∀ (k : Nat) (z : Nat × va_E), w[k]? = some z → z.1 ≠ q0.1 := fun k z hz e => by
      rcases hDw.2 k z hz with h | h
      · rw [e] at h; exact hnz h
      · rw [e] at h; omega
    cases i with
    | zero => cases j with
      | zero => rfl
      | succ j => cases hp; exact absurd e.symm (hne j z hz)
    | succ i => cases j with
      | zero => cases hz; exact absurd e (hne i p hp)
      | succ j => have := hDw.1 i j p z hp hz e; omega
  · cases k with
    | zero => cases hz; exact hD.2 0 q0 rfl
    | succ k => exact hA _ (hDw.2 k z hz)
theorem zwL_7 : zwV RL 7 RX7 yX7_count cX7_count 2 (some .int) 1 := ⟨⟨qw_640, qw_641, qw_642, qw_1, qw_643⟩, rfl, by decide +kernel, by decide +kernel, by decide +kernel⟩
theorem zwL_15 : zwV RL 15 RX7 yX7_declaration cX7_declaration 3 (some .int) 2 := ⟨⟨qw_723, qw_724, qw_725, qw_1, qw_726⟩, rfl, by decide +kernel, by decide +kernel, by decide +kernel⟩
theorem zwL_21 : zwV RL 21 RX7 yX7_gift cX7_gift 3 (some .int) 2 := ⟨⟨qw_755, qw_756, qw_757, qw_1, qw_758⟩, rfl, by decide +kernel, by decide +kernel, by decide +kernel⟩
theorem zwL_24 : zwV RL 24 RX7 yX7_part cX7_part 5 (some .int) 3 := ⟨⟨qw_770, qw_771, qw_772, qw_1, qw_773⟩, rfl, by decide +kernel, by decide +kernel, by decide +kernel⟩
theorem zwL_28 : zwV RL 28 RX7 yX7_reason cX7_reason 3 (some .int) 2 := ⟨⟨qw_783, qw_784, qw_785, qw_1, qw_786⟩, rfl, by decide +kernel, by decide +kernel, by decide +kernel⟩
theorem zwL_31 : zwV RL 31 RX7 yX7_donor cX7_donor 4 (some .int) 3 := ⟨⟨qw_798, qw_799, qw_800, qw_1, qw_801⟩, rfl, by decide +kernel, by decide +kernel, by decide +kernel⟩
theorem zwL_34 : zwV RL 34 RX7 yX7_taxLimit cX7_taxLimit 2 (some .int) 1 := ⟨⟨qw_815, qw_816, qw_817, qw_1, qw_818⟩, rfl, by decide +kernel, by decide +kernel, by decide +kernel⟩
theorem zwL_37 : zwV RL 37 RX7 yX7_isDeclared cX7_isDeclared 3 (some .boolean) 2 := ⟨⟨qw_822, qw_823, qw_824, qw_1, qw_825⟩, rfl, by decide +kernel, by decide +kernel, by decide +kernel⟩
theorem zwL_41 : zwV RL 41 RX7 yX7_coverage cX7_coverage 4 (some .int) 3 := ⟨⟨qw_830, qw_831, qw_832, qw_1, qw_833⟩, rfl, by decide +kernel, by decide +kernel, by decide +kernel⟩
theorem zwL_44 : zwV RL 44 RX7 yX7_gap cX7_gap 4 (some .int) 3 := ⟨⟨qw_853, qw_854, qw_855, qw_1, qw_856⟩, rfl, by decide +kernel, by decide +kernel, by decide +kernel⟩
theorem zwL_48 : zwV RL 48 RX7 yX7_needless cX7_needless 2 (some .int) 1 := ⟨⟨qw_864, qw_865, qw_866, qw_1, qw_867⟩, rfl, by decide +kernel, by decide +kernel, by decide +kernel⟩
theorem zwL_51 : zwV RL 51 RX7 yX7_declare cX7_declare 5 (some .int) 3 := ⟨⟨qw_876, qw_877, qw_878, qw_1, qw_879⟩, rfl, by decide +kernel, by decide +kernel, by decide +kernel⟩
theorem zwL_56 : zwV RL 56 RX7 yX7_revoke cX7_revoke 4 (some .int) 2 := ⟨⟨qw_905, qw_906, qw_907, qw_1, qw_908⟩, rfl, by decide +kernel, by decide +kernel, by decide +kernel⟩
theorem zwL_59 : zwV RL 59 RX7 yX7_addGift cX7_addGift 6 (some .int) 4 := ⟨⟨qw_916, qw_917, qw_918, qw_1, qw_919⟩, rfl, by decide +kernel, by decide +kernel, by decide +kernel⟩
theorem zwL_63 : zwV RL 63 RX7 yX7_split cX7_split 5 (some .int) 4 := ⟨⟨qw_928, qw_929, qw_930, qw_1, qw_931⟩, rfl, by decide +kernel, by decide +kernel, by decide +kernel⟩
theorem zwL_66 : zwV RL 66 RX7 yX7_refund cX7_refund 3 (some .int) 2 := ⟨⟨qw_950, qw_951, qw_952, qw_1, qw_953⟩, rfl, by decide +kernel, by decide +kernel, by decide +kernel⟩
theorem zwL_69 : zwV RL 69 RX7 yX7_setTaxLimit cX7_setTaxLimit 4 (some .int) 2 := ⟨⟨qw_964, qw_965, qw_966, qw_1, qw_967⟩, rfl, by decide +kernel, by decide +kernel, by decide +kernel⟩
theorem zwL_72 : zwV RL 72 RX7 yX7_setRate cX7_setRate 3 (some .int) 1 := ⟨⟨qw_971, qw_972, qw_973, qw_1, qw_974⟩, rfl, by decide +kernel, by decide +kernel, by decide +kernel⟩
theorem DL_count_0 : ∀ q ∈ ([(0, .aload_n 2, 1), (1, .iconst 0, 1), (2, .aload_n 0, 1), (3, .iload_n 1, 1), (4, .invokevirtual 7, 3), (7, .i2l, 1), (8, .lastore, 1), (9, .goto 6, 3), (12, .astore_n 3, 1), (13, .iconst 1, 1), (14, .ireturn, 1), (15, .iconst 0, 1), (16, .ireturn, 1)] : List (Nat × Instr × Nat)), decode cL_count q.1 = .ok q.2 := by decide +kernel
theorem dL_count_0 : decode cL_count 0 = .ok (.aload_n 2, 1) := DL_count_0 (0, .aload_n 2, 1) (List.mem_of_getElem? (i := 0) rfl)
theorem dL_count_1 : decode cL_count 1 = .ok (.iconst 0, 1) := DL_count_0 (1, .iconst 0, 1) (List.mem_of_getElem? (i := 1) rfl)
theorem dL_count_2 : decode cL_count 2 = .ok (.aload_n 0, 1) := DL_count_0 (2, .aload_n 0, 1) (List.mem_of_getElem? (i := 2) rfl)
theorem dL_count_3 : decode cL_count 3 = .ok (.iload_n 1, 1) := DL_count_0 (3, .iload_n 1, 1) (List.mem_of_getElem? (i := 3) rfl)
theorem dL_count_4 : decode cL_count 4 = .ok (.invokevirtual 7, 3) := DL_count_0 (4, .invokevirtual 7, 3) (List.mem_of_getElem? (i := 4) rfl)
theorem dL_count_7 : decode cL_count 7 = .ok (.i2l, 1) := DL_count_0 (7, .i2l, 1) (List.mem_of_getElem? (i := 5) rfl)
theorem dL_count_8 : decode cL_count 8 = .ok (.lastore, 1) := DL_count_0 (8, .lastore, 1) (List.mem_of_getElem? (i := 6) rfl)
theorem dL_count_9 : decode cL_count 9 = .ok (.goto 6, 3) := DL_count_0 (9, .goto 6, 3) (List.mem_of_getElem? (i := 7) rfl)
theorem dL_count_12 : decode cL_count 12 = .ok (.astore_n 3, 1) := DL_count_0 (12, .astore_n 3, 1) (List.mem_of_getElem? (i := 8) rfl)
theorem dL_count_13 : decode cL_count 13 = .ok (.iconst 1, 1) := DL_count_0 (13, .iconst 1, 1) (List.mem_of_getElem? (i := 9) rfl)
theorem dL_count_14 : decode cL_count 14 = .ok (.ireturn, 1) := DL_count_0 (14, .ireturn, 1) (List.mem_of_getElem? (i := 10) rfl)
theorem dL_count_15 : decode cL_count 15 = .ok (.iconst 0, 1) := DL_count_0 (15, .iconst 0, 1) (List.mem_of_getElem? (i := 11) rfl)
theorem dL_count_16 : decode cL_count 16 = .ok (.ireturn, 1) := DL_count_0 (16, .ireturn, 1) (List.mem_of_getElem? (i := 12) rfl)
abbrev rmL_count : Room := { frames := 3, cells := 0, slots := 0, locals := 64 }
set_option maxHeartbeats 1000000 in
set_option maxRecDepth 100000 in
theorem wok_count (l : Launch) (D : va_G) (kA : Nat → ClassId) (a : Nat → Nat) (pf : Nat → Option Nat) (b : Nat) (n : Nat) (V X : Sz) (T : Nat → Int) (x1 : Int) (hD0 : va_D (fun _ => True) (zO kA b T :: cs_X7 kA a V X pf)) {r : Int} (hf : f_X7_count n V X x1 = some (.inl r)) (hr : rng r) : MZH l yL_count cL_count 4 (some .int) [(0, 9, 12, 13)] rmL_count D kA [.ref (a 0), vI x1, .ref b] (zO kA b T :: cs_X7 kA a V X pf) (zO kA b (up T 0 r) :: cs_X7 kA a V X pf) (some (vI 0)) := by
  refine zHI (own := RL) rfl rfl (Nat.le_of_ble_eq_true rfl) ?_
  intro p e s m args below meth c ls Q hC hK hP hl hret
  have hl : lv_has ls 4 [(0, .ref (a 0)), (1, vI x1), (2, .ref b)] := hl
  have hS : va_S (zF (zO kA b T :: cs_X7 kA a V X pf)) s.heap s.heap [] := va_S.rf
  have hD0 : va_D (zF (zO kA b T :: cs_X7 kA a V X pf)) (zO kA b T :: cs_X7 kA a V X pf) := ⟨hD0.1, fun k q hk => ⟨k, q.2, hk⟩⟩
  generalize hAe : zF (zO kA b T :: cs_X7 kA a V X pf) = A0 at hS hD0 hret
  have hD : ∀ w : Sz × Sz, va_D A0 (zO kA b T :: cs_X7 kA a w.1 w.2 pf) := zDany (C := fun w : Sz × Sz => (zO kA b T :: cs_X7 kA a w.1 w.2 pf)) (V, X) (fun _ => rfl) hD0
  refine lv_aload_n hC.1 hC.2.1 dL_count_0 rfl (lv_at hl 2 rfl) <| ziconst hC.1 hC.2.1 dL_count_1 <| lv_aload_n hC.1 hC.2.1 dL_count_2 rfl (lv_at hl 0 rfl) <| ziload_n hC.1 hC.2.1 dL_count_3 rfl (lv_at hl 1 rfl) ?_
  refine zcVP (As := [vI x1]) (rest := [vI 0, .ref b]) hC hK (met_X7_count l D kA a pf n V X x1 hf) zwL_7 (zPtail hP) (q0 := 0) rfl rfl rfl rfl hl.1 rfl (Nat.le_of_ble_eq_true rfl) ⟨(Nat.le_of_ble_eq_true rfl), (Nat.le_of_ble_eq_true rfl)⟩ ⟨rfl, rfl⟩ ⟨Nat.le_refl _, Nat.le_refl _⟩ dL_count_4 ?_
  have hD := hD (V, X)
  refine zi2l hC.1 hC.2.1 hr dL_count_7 ?_
  refine jlas hC hK hP hD hS (q0 := 0) rfl (Nat.le_of_ble_eq_true rfl) (by decide) rfl dL_count_8 (fun H locs hP hS => ?_)
  refine lv_goto (tgt := 15) hC.1 hC.2.1 dL_count_9 (by decide) ?_
  refine ziconst hC.1 hC.2.1 dL_count_15 ?_
  exact hret (Int32.ofInt 0) _ _ _ _ rfl hP hS dL_count_16
abbrev rxL_count : Room := { frames := 7, cells := 1, slots := 6, locals := 111 }
set_option maxHeartbeats 1000000 in
set_option maxRecDepth 100000 in
theorem wth1_count (l : Launch) (D : va_G) (kA : Nat → ClassId) (a : Nat → Nat) (pf : Nat → Option Nat) (b : Nat) (n : Nat) (V X : Sz) (T : Nat → Int) (x1 : Int) (hf : f_X7_count n V X x1 = some (.inr 1)) : MTH l yL_count cL_count 4 (some .int) [(0, 9, 12, 13)] rxL_count D kA [.ref (a 0), vI x1, .ref b] (zO kA b T :: cs_X7 kA a V X pf) (some (vI 1)) := by
  refine zHT (own := RL) rfl rfl (Nat.le_of_ble_eq_true rfl) ?_
  intro p e s m args below meth c ls Q hC hK hP hX hN hT hl hret
  have hl : lv_has ls 4 [(0, .ref (a 0)), (1, vI x1), (2, .ref b)] := hl
  refine lv_aload_n hC.1 hC.2.1 dL_count_0 rfl (lv_at hl 2 rfl) <| ziconst hC.1 hC.2.1 dL_count_1 <| lv_aload_n hC.1 hC.2.1 dL_count_2 rfl (lv_at hl 0 rfl) <| ziload_n hC.1 hC.2.1 dL_count_3 rfl (lv_at hl 1 rfl) ?_
  refine zcVT (As := [vI x1]) (rest := [vI 0, .ref b]) hC hK hX (thr_X7_count l D kA a pf n V X x1 hf) zwL_7 (zPtail hP) (q0 := 0) rfl rfl rfl rfl hl.1 rfl (Nat.le_of_ble_eq_true rfl) ⟨(Nat.le_of_ble_eq_true rfl), (Nat.le_of_ble_eq_true rfl)⟩ ⟨rfl, rfl⟩ ⟨(Nat.le_of_ble_eq_true rfl), (Nat.le_of_ble_eq_true rfl)⟩ dL_count_4 (fun ce q9 H h1 h2 h3 h4 h5 => ?_)
  refine vx_catch (own := RL) (name := zEx 1) (E := zEx 1) (pc := 4) hC.2.2.2.1 [] ⟨0, 9, 12, 13⟩ [] hT (fun z hz => absurd hz List.not_mem_nil) (by decide) (by decide) (hC.2.2.2.2 _ (qin_3 (i := 159) rfl rfl)) (va_tabs (zBd_tabs (List.mem_of_getElem? (i := 1) rfl)) rfl (hX.2.2.2 _ (List.mem_of_getElem? (i := 1) rfl))) h3 h4 h5 ?_
  refine lv_astore_n (lv' := [(3, .ref q9), (0, .ref (a 0)), (1, vI x1), (2, .ref b)]) (x := q9) hC.1 hC.2.1 dL_count_12 rfl hl (by decide) rfl (fun ls hl => ?_)
  refine ziconst hC.1 hC.2.1 dL_count_13 ?_
  exact hret (Int32.ofInt 1) _ _ _ rfl h1 h2 dL_count_14
theorem DL_declaration_0 : ∀ q ∈ ([(0, .aload_n 3, 1), (1, .iconst 0, 1), (2, .aload_n 0, 1), (3, .iload_n 1, 1), (4, .iload_n 2, 1), (5, .invokevirtual 15, 3), (8, .i2l, 1), (9, .lastore, 1), (10, .goto 11, 3), (13, .astore 4, 2), (15, .iconst 1, 1), (16, .ireturn, 1), (17, .astore 4, 2), (19, .iconst 2, 1), (20, .ireturn, 1), (21, .iconst 0, 1), (22, .ireturn, 1)] : List (Nat × Instr × Nat)), decode cL_declaration q.1 = .ok q.2 := by decide +kernel
theorem dL_declaration_0 : decode cL_declaration 0 = .ok (.aload_n 3, 1) := DL_declaration_0 (0, .aload_n 3, 1) (List.mem_of_getElem? (i := 0) rfl)
theorem dL_declaration_1 : decode cL_declaration 1 = .ok (.iconst 0, 1) := DL_declaration_0 (1, .iconst 0, 1) (List.mem_of_getElem? (i := 1) rfl)
theorem dL_declaration_2 : decode cL_declaration 2 = .ok (.aload_n 0, 1) := DL_declaration_0 (2, .aload_n 0, 1) (List.mem_of_getElem? (i := 2) rfl)
theorem dL_declaration_3 : decode cL_declaration 3 = .ok (.iload_n 1, 1) := DL_declaration_0 (3, .iload_n 1, 1) (List.mem_of_getElem? (i := 3) rfl)
theorem dL_declaration_4 : decode cL_declaration 4 = .ok (.iload_n 2, 1) := DL_declaration_0 (4, .iload_n 2, 1) (List.mem_of_getElem? (i := 4) rfl)
theorem dL_declaration_5 : decode cL_declaration 5 = .ok (.invokevirtual 15, 3) := DL_declaration_0 (5, .invokevirtual 15, 3) (List.mem_of_getElem? (i := 5) rfl)
theorem dL_declaration_8 : decode cL_declaration 8 = .ok (.i2l, 1) := DL_declaration_0 (8, .i2l, 1) (List.mem_of_getElem? (i := 6) rfl)
theorem dL_declaration_9 : decode cL_declaration 9 = .ok (.lastore, 1) := DL_declaration_0 (9, .lastore, 1) (List.mem_of_getElem? (i := 7) rfl)
theorem dL_declaration_10 : decode cL_declaration 10 = .ok (.goto 11, 3) := DL_declaration_0 (10, .goto 11, 3) (List.mem_of_getElem? (i := 8) rfl)
theorem dL_declaration_13 : decode cL_declaration 13 = .ok (.astore 4, 2) := DL_declaration_0 (13, .astore 4, 2) (List.mem_of_getElem? (i := 9) rfl)
theorem dL_declaration_15 : decode cL_declaration 15 = .ok (.iconst 1, 1) := DL_declaration_0 (15, .iconst 1, 1) (List.mem_of_getElem? (i := 10) rfl)
theorem dL_declaration_16 : decode cL_declaration 16 = .ok (.ireturn, 1) := DL_declaration_0 (16, .ireturn, 1) (List.mem_of_getElem? (i := 11) rfl)
theorem dL_declaration_17 : decode cL_declaration 17 = .ok (.astore 4, 2) := DL_declaration_0 (17, .astore 4, 2) (List.mem_of_getElem? (i := 12) rfl)
theorem dL_declaration_19 : decode cL_declaration 19 = .ok (.iconst 2, 1) := DL_declaration_0 (19, .iconst 2, 1) (List.mem_of_getElem? (i := 13) rfl)
theorem dL_declaration_20 : decode cL_declaration 20 = .ok (.ireturn, 1) := DL_declaration_0 (20, .ireturn, 1) (List.mem_of_getElem? (i := 14) rfl)
theorem dL_declaration_21 : decode cL_declaration 21 = .ok (.iconst 0, 1) := DL_declaration_0 (21, .iconst 0, 1) (List.mem_of_getElem? (i := 15) rfl)
theorem dL_declaration_22 : decode cL_declaration 22 = .ok (.ireturn, 1) := DL_declaration_0 (22, .ireturn, 1) (List.mem_of_getElem? (i := 16) rfl)
abbrev rmL_declaration : Room := { frames := 3, cells := 0, slots := 0, locals := 103 }
set_option maxHeartbeats 1000000 in
set_option maxRecDepth 100000 in
theorem wok_declaration (l : Launch) (D : va_G) (kA : Nat → ClassId) (a : Nat → Nat) (pf : Nat → Option Nat) (b : Nat) (V X : Sz) (T : Nat → Int) (x1 : Int) (x2 : Int) (hD0 : va_D (fun _ => True) (zO kA b T :: cs_X7 kA a V X pf)) {r : Int} (hf : f_X7_declaration V X x1 x2 = some (.inl r)) (hr : rng r) : MZH l yL_declaration cL_declaration 5 (some .int) [(0, 10, 13, 19), (0, 10, 17, 13)] rmL_declaration D kA [.ref (a 0), vI x1, vI x2, .ref b] (zO kA b T :: cs_X7 kA a V X pf) (zO kA b (up T 0 r) :: cs_X7 kA a V X pf) (some (vI 0)) := by
  refine zHI (own := RL) rfl rfl (Nat.le_of_ble_eq_true rfl) ?_
  intro p e s m args below meth c ls Q hC hK hP hl hret
  have hl : lv_has ls 5 [(0, .ref (a 0)), (1, vI x1), (2, vI x2), (3, .ref b)] := hl
  have hS : va_S (zF (zO kA b T :: cs_X7 kA a V X pf)) s.heap s.heap [] := va_S.rf
  have hD0 : va_D (zF (zO kA b T :: cs_X7 kA a V X pf)) (zO kA b T :: cs_X7 kA a V X pf) := ⟨hD0.1, fun k q hk => ⟨k, q.2, hk⟩⟩
  generalize hAe : zF (zO kA b T :: cs_X7 kA a V X pf) = A0 at hS hD0 hret
  have hD : ∀ w : Sz × Sz, va_D A0 (zO kA b T :: cs_X7 kA a w.1 w.2 pf) := zDany (C := fun w : Sz × Sz => (zO kA b T :: cs_X7 kA a w.1 w.2 pf)) (V, X) (fun _ => rfl) hD0
  refine lv_aload_n hC.1 hC.2.1 dL_declaration_0 rfl (lv_at hl 3 rfl) <| ziconst hC.1 hC.2.1 dL_declaration_1 <| lv_aload_n hC.1 hC.2.1 dL_declaration_2 rfl (lv_at hl 0 rfl) <| ziload_n hC.1 hC.2.1 dL_declaration_3 rfl (lv_at hl 1 rfl) <| ziload_n hC.1 hC.2.1 dL_declaration_4 rfl (lv_at hl 2 rfl) ?_
  refine zcVP (As := [vI x1, vI x2]) (rest := [vI 0, .ref b]) hC hK (met_X7_declaration l D kA a pf V X x1 x2 hf) zwL_15 (zPtail hP) (q0 := 0) rfl rfl rfl rfl hl.1 rfl (Nat.le_of_ble_eq_true rfl) ⟨(Nat.le_of_ble_eq_true rfl), (Nat.le_of_ble_eq_true rfl)⟩ ⟨rfl, rfl⟩ ⟨Nat.le_refl _, Nat.le_refl _⟩ dL_declaration_5 ?_
  have hD := hD (V, X)
  refine zi2l hC.1 hC.2.1 hr dL_declaration_8 ?_
  refine jlas hC hK hP hD hS (q0 := 0) rfl (Nat.le_of_ble_eq_true rfl) (by decide) rfl dL_declaration_9 (fun H locs hP hS => ?_)
  refine lv_goto (tgt := 21) hC.1 hC.2.1 dL_declaration_10 (by decide) ?_
  refine ziconst hC.1 hC.2.1 dL_declaration_21 ?_
  exact hret (Int32.ofInt 0) _ _ _ _ rfl hP hS dL_declaration_22
abbrev rxL_declaration : Room := { frames := 8, cells := 1, slots := 6, locals := 133 }
set_option maxHeartbeats 1000000 in
set_option maxRecDepth 100000 in
theorem wth0_declaration (l : Launch) (D : va_G) (kA : Nat → ClassId) (a : Nat → Nat) (pf : Nat → Option Nat) (b : Nat) (V X : Sz) (T : Nat → Int) (x1 : Int) (x2 : Int) (hf : f_X7_declaration V X x1 x2 = some (.inr 0)) : MTH l yL_declaration cL_declaration 5 (some .int) [(0, 10, 13, 19), (0, 10, 17, 13)] rxL_declaration D kA [.ref (a 0), vI x1, vI x2, .ref b] (zO kA b T :: cs_X7 kA a V X pf) (some (vI 1)) := by
  refine zHT (own := RL) rfl rfl (Nat.le_of_ble_eq_true rfl) ?_
  intro p e s m args below meth c ls Q hC hK hP hX hN hT hl hret
  have hl : lv_has ls 5 [(0, .ref (a 0)), (1, vI x1), (2, vI x2), (3, .ref b)] := hl
  refine lv_aload_n hC.1 hC.2.1 dL_declaration_0 rfl (lv_at hl 3 rfl) <| ziconst hC.1 hC.2.1 dL_declaration_1 <| lv_aload_n hC.1 hC.2.1 dL_declaration_2 rfl (lv_at hl 0 rfl) <| ziload_n hC.1 hC.2.1 dL_declaration_3 rfl (lv_at hl 1 rfl) <| ziload_n hC.1 hC.2.1 dL_declaration_4 rfl (lv_at hl 2 rfl) ?_
  refine zcVT (As := [vI x1, vI x2]) (rest := [vI 0, .ref b]) hC hK hX (thr_X7_declaration l D kA a pf V X x1 x2 hf) zwL_15 (zPtail hP) (q0 := 0) rfl rfl rfl rfl hl.1 rfl (Nat.le_of_ble_eq_true rfl) ⟨(Nat.le_of_ble_eq_true rfl), (Nat.le_of_ble_eq_true rfl)⟩ ⟨rfl, rfl⟩ ⟨(Nat.le_of_ble_eq_true rfl), (Nat.le_of_ble_eq_true rfl)⟩ dL_declaration_5 (fun ce q9 H h1 h2 h3 h4 h5 => ?_)
  refine vx_catch (own := RL) (name := zEx 0) (E := zEx 0) (pc := 5) hC.2.2.2.1 [] ⟨0, 10, 13, 19⟩ [⟨0, 10, 17, 13⟩] hT (fun z hz => absurd hz List.not_mem_nil) (by decide) (by decide) (hC.2.2.2.2 _ (qin_4 (i := 2) rfl rfl)) (va_tabs (zBd_tabs (List.mem_of_getElem? (i := 0) rfl)) rfl (hX.2.2.2 _ (List.mem_of_getElem? (i := 0) rfl))) h3 h4 h5 ?_
  refine lv_astore (lv' := [(4, .ref q9), (0, .ref (a 0)), (1, vI x1), (2, vI x2), (3, .ref b)]) (x := q9) hC.1 hC.2.1 dL_declaration_13 hl (by decide) rfl (fun ls hl => ?_)
  refine ziconst hC.1 hC.2.1 dL_declaration_15 ?_
  exact hret (Int32.ofInt 1) _ _ _ rfl h1 h2 dL_declaration_16
set_option maxHeartbeats 1000000 in
set_option maxRecDepth 100000 in
theorem wth1_declaration (l : Launch) (D : va_G) (kA : Nat → ClassId) (a : Nat → Nat) (pf : Nat → Option Nat) (b : Nat) (V X : Sz) (T : Nat → Int) (x1 : Int) (x2 : Int) (hf : f_X7_declaration V X x1 x2 = some (.inr 1)) : MTH l yL_declaration cL_declaration 5 (some .int) [(0, 10, 13, 19), (0, 10, 17, 13)] rxL_declaration D kA [.ref (a 0), vI x1, vI x2, .ref b] (zO kA b T :: cs_X7 kA a V X pf) (some (vI 2)) := by
  refine zHT (own := RL) rfl rfl (Nat.le_of_ble_eq_true rfl) ?_
  intro p e s m args below meth c ls Q hC hK hP hX hN hT hl hret
  have hl : lv_has ls 5 [(0, .ref (a 0)), (1, vI x1), (2, vI x2), (3, .ref b)] := hl
  refine lv_aload_n hC.1 hC.2.1 dL_declaration_0 rfl (lv_at hl 3 rfl) <| ziconst hC.1 hC.2.1 dL_declaration_1 <| lv_aload_n hC.1 hC.2.1 dL_declaration_2 rfl (lv_at hl 0 rfl) <| ziload_n hC.1 hC.2.1 dL_declaration_3 rfl (lv_at hl 1 rfl) <| ziload_n hC.1 hC.2.1 dL_declaration_4 rfl (lv_at hl 2 rfl) ?_
  refine zcVT (As := [vI x1, vI x2]) (rest := [vI 0, .ref b]) hC hK hX (thr_X7_declaration l D kA a pf V X x1 x2 hf) zwL_15 (zPtail hP) (q0 := 0) rfl rfl rfl rfl hl.1 rfl (Nat.le_of_ble_eq_true rfl) ⟨(Nat.le_of_ble_eq_true rfl), (Nat.le_of_ble_eq_true rfl)⟩ ⟨rfl, rfl⟩ ⟨(Nat.le_of_ble_eq_true rfl), (Nat.le_of_ble_eq_true rfl)⟩ dL_declaration_5 (fun ce q9 H h1 h2 h3 h4 h5 => ?_)
  refine vx_catch (own := RL) (name := zEx 1) (E := zEx 1) (pc := 5) hC.2.2.2.1 [⟨0, 10, 13, 19⟩] ⟨0, 10, 17, 13⟩ [] hT (List.forall_mem_cons.mpr ⟨Or.inr ⟨by decide, zEx 0, hC.2.2.2.2 _ (qin_4 (i := 2) rfl rfl), hN _ (List.mem_of_getElem? (i := 0) rfl)⟩, fun z hz => absurd hz List.not_mem_nil⟩) (by decide) (by decide) (hC.2.2.2.2 _ (qin_3 (i := 159) rfl rfl)) (va_tabs (zBd_tabs (List.mem_of_getElem? (i := 1) rfl)) rfl (hX.2.2.2 _ (List.mem_of_getElem? (i := 1) rfl))) h3 h4 h5 ?_
  refine lv_astore (lv' := [(4, .ref q9), (0, .ref (a 0)), (1, vI x1), (2, vI x2), (3, .ref b)]) (x := q9) hC.1 hC.2.1 dL_declaration_17 hl (by decide) rfl (fun ls hl => ?_)
  refine ziconst hC.1 hC.2.1 dL_declaration_19 ?_
  exact hret (Int32.ofInt 2) _ _ _ rfl h1 h2 dL_declaration_20
theorem DL_gift_0 : ∀ q ∈ ([(0, .aload_n 3, 1), (1, .iconst 0, 1), (2, .aload_n 0, 1), (3, .iload_n 1, 1), (4, .iload_n 2, 1), (5, .invokevirtual 21, 3), (8, .i2l, 1), (9, .lastore, 1), (10, .goto 11, 3), (13, .astore 4, 2), (15, .iconst 1, 1), (16, .ireturn, 1), (17, .astore 4, 2), (19, .iconst 2, 1), (20, .ireturn, 1), (21, .iconst 0, 1), (22, .ireturn, 1)] : List (Nat × Instr × Nat)), decode cL_gift q.1 = .ok q.2 := by decide +kernel
theorem dL_gift_0 : decode cL_gift 0 = .ok (.aload_n 3, 1) := DL_gift_0 (0, .aload_n 3, 1) (List.mem_of_getElem? (i := 0) rfl)
theorem dL_gift_1 : decode cL_gift 1 = .ok (.iconst 0, 1) := DL_gift_0 (1, .iconst 0, 1) (List.mem_of_getElem? (i := 1) rfl)
theorem dL_gift_2 : decode cL_gift 2 = .ok (.aload_n 0, 1) := DL_gift_0 (2, .aload_n 0, 1) (List.mem_of_getElem? (i := 2) rfl)
theorem dL_gift_3 : decode cL_gift 3 = .ok (.iload_n 1, 1) := DL_gift_0 (3, .iload_n 1, 1) (List.mem_of_getElem? (i := 3) rfl)
theorem dL_gift_4 : decode cL_gift 4 = .ok (.iload_n 2, 1) := DL_gift_0 (4, .iload_n 2, 1) (List.mem_of_getElem? (i := 4) rfl)
theorem dL_gift_5 : decode cL_gift 5 = .ok (.invokevirtual 21, 3) := DL_gift_0 (5, .invokevirtual 21, 3) (List.mem_of_getElem? (i := 5) rfl)
theorem dL_gift_8 : decode cL_gift 8 = .ok (.i2l, 1) := DL_gift_0 (8, .i2l, 1) (List.mem_of_getElem? (i := 6) rfl)
theorem dL_gift_9 : decode cL_gift 9 = .ok (.lastore, 1) := DL_gift_0 (9, .lastore, 1) (List.mem_of_getElem? (i := 7) rfl)
theorem dL_gift_10 : decode cL_gift 10 = .ok (.goto 11, 3) := DL_gift_0 (10, .goto 11, 3) (List.mem_of_getElem? (i := 8) rfl)
theorem dL_gift_13 : decode cL_gift 13 = .ok (.astore 4, 2) := DL_gift_0 (13, .astore 4, 2) (List.mem_of_getElem? (i := 9) rfl)
theorem dL_gift_15 : decode cL_gift 15 = .ok (.iconst 1, 1) := DL_gift_0 (15, .iconst 1, 1) (List.mem_of_getElem? (i := 10) rfl)
theorem dL_gift_16 : decode cL_gift 16 = .ok (.ireturn, 1) := DL_gift_0 (16, .ireturn, 1) (List.mem_of_getElem? (i := 11) rfl)
theorem dL_gift_17 : decode cL_gift 17 = .ok (.astore 4, 2) := DL_gift_0 (17, .astore 4, 2) (List.mem_of_getElem? (i := 12) rfl)
theorem dL_gift_19 : decode cL_gift 19 = .ok (.iconst 2, 1) := DL_gift_0 (19, .iconst 2, 1) (List.mem_of_getElem? (i := 13) rfl)
theorem dL_gift_20 : decode cL_gift 20 = .ok (.ireturn, 1) := DL_gift_0 (20, .ireturn, 1) (List.mem_of_getElem? (i := 14) rfl)
theorem dL_gift_21 : decode cL_gift 21 = .ok (.iconst 0, 1) := DL_gift_0 (21, .iconst 0, 1) (List.mem_of_getElem? (i := 15) rfl)
theorem dL_gift_22 : decode cL_gift 22 = .ok (.ireturn, 1) := DL_gift_0 (22, .ireturn, 1) (List.mem_of_getElem? (i := 16) rfl)
abbrev rmL_gift : Room := { frames := 4, cells := 0, slots := 0, locals := 89 }
set_option maxHeartbeats 1000000 in
set_option maxRecDepth 100000 in
theorem wok_gift (l : Launch) (D : va_G) (kA : Nat → ClassId) (a : Nat → Nat) (pf : Nat → Option Nat) (b : Nat) (n : Nat) (V X : Sz) (T : Nat → Int) (x1 : Int) (x2 : Int) (hD0 : va_D (fun _ => True) (zO kA b T :: cs_X7 kA a V X pf)) {r : Int} (hf : f_X7_gift n V X x1 x2 = some (.inl r)) (hr : rng r) : MZH l yL_gift cL_gift 5 (some .int) [(0, 10, 13, 19), (0, 10, 17, 13)] rmL_gift D kA [.ref (a 0), vI x1, vI x2, .ref b] (zO kA b T :: cs_X7 kA a V X pf) (zO kA b (up T 0 r) :: cs_X7 kA a V X pf) (some (vI 0)) := by
  refine zHI (own := RL) rfl rfl (Nat.le_of_ble_eq_true rfl) ?_
  intro p e s m args below meth c ls Q hC hK hP hl hret
  have hl : lv_has ls 5 [(0, .ref (a 0)), (1, vI x1), (2, vI x2), (3, .ref b)] := hl
  have hS : va_S (zF (zO kA b T :: cs_X7 kA a V X pf)) s.heap s.heap [] := va_S.rf
  have hD0 : va_D (zF (zO kA b T :: cs_X7 kA a V X pf)) (zO kA b T :: cs_X7 kA a V X pf) := ⟨hD0.1, fun k q hk => ⟨k, q.2, hk⟩⟩
  generalize hAe : zF (zO kA b T :: cs_X7 kA a V X pf) = A0 at hS hD0 hret
  have hD : ∀ w : Sz × Sz, va_D A0 (zO kA b T :: cs_X7 kA a w.1 w.2 pf) := zDany (C := fun w : Sz × Sz => (zO kA b T :: cs_X7 kA a w.1 w.2 pf)) (V, X) (fun _ => rfl) hD0
  refine lv_aload_n hC.1 hC.2.1 dL_gift_0 rfl (lv_at hl 3 rfl) <| ziconst hC.1 hC.2.1 dL_gift_1 <| lv_aload_n hC.1 hC.2.1 dL_gift_2 rfl (lv_at hl 0 rfl) <| ziload_n hC.1 hC.2.1 dL_gift_3 rfl (lv_at hl 1 rfl) <| ziload_n hC.1 hC.2.1 dL_gift_4 rfl (lv_at hl 2 rfl) ?_
  refine zcVP (As := [vI x1, vI x2]) (rest := [vI 0, .ref b]) hC hK (met_X7_gift l D kA a pf n V X x1 x2 hf) zwL_21 (zPtail hP) (q0 := 0) rfl rfl rfl rfl hl.1 rfl (Nat.le_of_ble_eq_true rfl) ⟨(Nat.le_of_ble_eq_true rfl), (Nat.le_of_ble_eq_true rfl)⟩ ⟨rfl, rfl⟩ ⟨Nat.le_refl _, Nat.le_refl _⟩ dL_gift_5 ?_
  have hD := hD (V, X)
  refine zi2l hC.1 hC.2.1 hr dL_gift_8 ?_
  refine jlas hC hK hP hD hS (q0 := 0) rfl (Nat.le_of_ble_eq_true rfl) (by decide) rfl dL_gift_9 (fun H locs hP hS => ?_)
  refine lv_goto (tgt := 21) hC.1 hC.2.1 dL_gift_10 (by decide) ?_
  refine ziconst hC.1 hC.2.1 dL_gift_21 ?_
  exact hret (Int32.ofInt 0) _ _ _ _ rfl hP hS dL_gift_22
abbrev rxL_gift : Room := { frames := 8, cells := 1, slots := 6, locals := 133 }
set_option maxHeartbeats 1000000 in
set_option maxRecDepth 100000 in
theorem wth0_gift (l : Launch) (D : va_G) (kA : Nat → ClassId) (a : Nat → Nat) (pf : Nat → Option Nat) (b : Nat) (n : Nat) (V X : Sz) (T : Nat → Int) (x1 : Int) (x2 : Int) (hf : f_X7_gift n V X x1 x2 = some (.inr 0)) : MTH l yL_gift cL_gift 5 (some .int) [(0, 10, 13, 19), (0, 10, 17, 13)] rxL_gift D kA [.ref (a 0), vI x1, vI x2, .ref b] (zO kA b T :: cs_X7 kA a V X pf) (some (vI 1)) := by
  refine zHT (own := RL) rfl rfl (Nat.le_of_ble_eq_true rfl) ?_
  intro p e s m args below meth c ls Q hC hK hP hX hN hT hl hret
  have hl : lv_has ls 5 [(0, .ref (a 0)), (1, vI x1), (2, vI x2), (3, .ref b)] := hl
  refine lv_aload_n hC.1 hC.2.1 dL_gift_0 rfl (lv_at hl 3 rfl) <| ziconst hC.1 hC.2.1 dL_gift_1 <| lv_aload_n hC.1 hC.2.1 dL_gift_2 rfl (lv_at hl 0 rfl) <| ziload_n hC.1 hC.2.1 dL_gift_3 rfl (lv_at hl 1 rfl) <| ziload_n hC.1 hC.2.1 dL_gift_4 rfl (lv_at hl 2 rfl) ?_
  refine zcVT (As := [vI x1, vI x2]) (rest := [vI 0, .ref b]) hC hK hX (thr_X7_gift l D kA a pf n V X x1 x2 hf) zwL_21 (zPtail hP) (q0 := 0) rfl rfl rfl rfl hl.1 rfl (Nat.le_of_ble_eq_true rfl) ⟨(Nat.le_of_ble_eq_true rfl), (Nat.le_of_ble_eq_true rfl)⟩ ⟨rfl, rfl⟩ ⟨(Nat.le_of_ble_eq_true rfl), (Nat.le_of_ble_eq_true rfl)⟩ dL_gift_5 (fun ce q9 H h1 h2 h3 h4 h5 => ?_)
  refine vx_catch (own := RL) (name := zEx 0) (E := zEx 0) (pc := 5) hC.2.2.2.1 [] ⟨0, 10, 13, 19⟩ [⟨0, 10, 17, 13⟩] hT (fun z hz => absurd hz List.not_mem_nil) (by decide) (by decide) (hC.2.2.2.2 _ (qin_4 (i := 2) rfl rfl)) (va_tabs (zBd_tabs (List.mem_of_getElem? (i := 0) rfl)) rfl (hX.2.2.2 _ (List.mem_of_getElem? (i := 0) rfl))) h3 h4 h5 ?_
  refine lv_astore (lv' := [(4, .ref q9), (0, .ref (a 0)), (1, vI x1), (2, vI x2), (3, .ref b)]) (x := q9) hC.1 hC.2.1 dL_gift_13 hl (by decide) rfl (fun ls hl => ?_)
  refine ziconst hC.1 hC.2.1 dL_gift_15 ?_
  exact hret (Int32.ofInt 1) _ _ _ rfl h1 h2 dL_gift_16
set_option maxHeartbeats 1000000 in
set_option maxRecDepth 100000 in
theorem wth1_gift (l : Launch) (D : va_G) (kA : Nat → ClassId) (a : Nat → Nat) (pf : Nat → Option Nat) (b : Nat) (n : Nat) (V X : Sz) (T : Nat → Int) (x1 : Int) (x2 : Int) (hf : f_X7_gift n V X x1 x2 = some (.inr 1)) : MTH l yL_gift cL_gift 5 (some .int) [(0, 10, 13, 19), (0, 10, 17, 13)] rxL_gift D kA [.ref (a 0), vI x1, vI x2, .ref b] (zO kA b T :: cs_X7 kA a V X pf) (some (vI 2)) := by
  refine zHT (own := RL) rfl rfl (Nat.le_of_ble_eq_true rfl) ?_
  intro p e s m args below meth c ls Q hC hK hP hX hN hT hl hret
  have hl : lv_has ls 5 [(0, .ref (a 0)), (1, vI x1), (2, vI x2), (3, .ref b)] := hl
  refine lv_aload_n hC.1 hC.2.1 dL_gift_0 rfl (lv_at hl 3 rfl) <| ziconst hC.1 hC.2.1 dL_gift_1 <| lv_aload_n hC.1 hC.2.1 dL_gift_2 rfl (lv_at hl 0 rfl) <| ziload_n hC.1 hC.2.1 dL_gift_3 rfl (lv_at hl 1 rfl) <| ziload_n hC.1 hC.2.1 dL_gift_4 rfl (lv_at hl 2 rfl) ?_
  refine zcVT (As := [vI x1, vI x2]) (rest := [vI 0, .ref b]) hC hK hX (thr_X7_gift l D kA a pf n V X x1 x2 hf) zwL_21 (zPtail hP) (q0 := 0) rfl rfl rfl rfl hl.1 rfl (Nat.le_of_ble_eq_true rfl) ⟨(Nat.le_of_ble_eq_true rfl), (Nat.le_of_ble_eq_true rfl)⟩ ⟨rfl, rfl⟩ ⟨(Nat.le_of_ble_eq_true rfl), (Nat.le_of_ble_eq_true rfl)⟩ dL_gift_5 (fun ce q9 H h1 h2 h3 h4 h5 => ?_)
  refine vx_catch (own := RL) (name := zEx 1) (E := zEx 1) (pc := 5) hC.2.2.2.1 [⟨0, 10, 13, 19⟩] ⟨0, 10, 17, 13⟩ [] hT (List.forall_mem_cons.mpr ⟨Or.inr ⟨by decide, zEx 0, hC.2.2.2.2 _ (qin_4 (i := 2) rfl rfl), hN _ (List.mem_of_getElem? (i := 0) rfl)⟩, fun z hz => absurd hz List.not_mem_nil⟩) (by decide) (by decide) (hC.2.2.2.2 _ (qin_3 (i := 159) rfl rfl)) (va_tabs (zBd_tabs (List.mem_of_getElem? (i := 1) rfl)) rfl (hX.2.2.2 _ (List.mem_of_getElem? (i := 1) rfl))) h3 h4 h5 ?_
  refine lv_astore (lv' := [(4, .ref q9), (0, .ref (a 0)), (1, vI x1), (2, vI x2), (3, .ref b)]) (x := q9) hC.1 hC.2.1 dL_gift_17 hl (by decide) rfl (fun ls hl => ?_)
  refine ziconst hC.1 hC.2.1 dL_gift_19 ?_
  exact hret (Int32.ofInt 2) _ _ _ rfl h1 h2 dL_gift_20
theorem DL_part_0 : ∀ q ∈ ([(0, .aload 4, 2), (2, .iconst 0, 1), (3, .aload_n 0, 1), (4, .iload_n 1, 1), (5, .iload_n 2, 1), (6, .iload_n 3, 1), (7, .invokevirtual 24, 3), (10, .i2l, 1), (11, .lastore, 1), (12, .goto 11, 3), (15, .astore 5, 2), (17, .iconst 1, 1), (18, .ireturn, 1), (19, .astore 5, 2), (21, .iconst 2, 1), (22, .ireturn, 1), (23, .iconst 0, 1), (24, .ireturn, 1)] : List (Nat × Instr × Nat)), decode cL_part q.1 = .ok q.2 := by decide +kernel
theorem dL_part_0 : decode cL_part 0 = .ok (.aload 4, 2) := DL_part_0 (0, .aload 4, 2) (List.mem_of_getElem? (i := 0) rfl)
theorem dL_part_2 : decode cL_part 2 = .ok (.iconst 0, 1) := DL_part_0 (2, .iconst 0, 1) (List.mem_of_getElem? (i := 1) rfl)
theorem dL_part_3 : decode cL_part 3 = .ok (.aload_n 0, 1) := DL_part_0 (3, .aload_n 0, 1) (List.mem_of_getElem? (i := 2) rfl)
theorem dL_part_4 : decode cL_part 4 = .ok (.iload_n 1, 1) := DL_part_0 (4, .iload_n 1, 1) (List.mem_of_getElem? (i := 3) rfl)
theorem dL_part_5 : decode cL_part 5 = .ok (.iload_n 2, 1) := DL_part_0 (5, .iload_n 2, 1) (List.mem_of_getElem? (i := 4) rfl)
theorem dL_part_6 : decode cL_part 6 = .ok (.iload_n 3, 1) := DL_part_0 (6, .iload_n 3, 1) (List.mem_of_getElem? (i := 5) rfl)
theorem dL_part_7 : decode cL_part 7 = .ok (.invokevirtual 24, 3) := DL_part_0 (7, .invokevirtual 24, 3) (List.mem_of_getElem? (i := 6) rfl)
theorem dL_part_10 : decode cL_part 10 = .ok (.i2l, 1) := DL_part_0 (10, .i2l, 1) (List.mem_of_getElem? (i := 7) rfl)
theorem dL_part_11 : decode cL_part 11 = .ok (.lastore, 1) := DL_part_0 (11, .lastore, 1) (List.mem_of_getElem? (i := 8) rfl)
theorem dL_part_12 : decode cL_part 12 = .ok (.goto 11, 3) := DL_part_0 (12, .goto 11, 3) (List.mem_of_getElem? (i := 9) rfl)
theorem dL_part_15 : decode cL_part 15 = .ok (.astore 5, 2) := DL_part_0 (15, .astore 5, 2) (List.mem_of_getElem? (i := 10) rfl)
theorem dL_part_17 : decode cL_part 17 = .ok (.iconst 1, 1) := DL_part_0 (17, .iconst 1, 1) (List.mem_of_getElem? (i := 11) rfl)
theorem dL_part_18 : decode cL_part 18 = .ok (.ireturn, 1) := DL_part_0 (18, .ireturn, 1) (List.mem_of_getElem? (i := 12) rfl)
theorem dL_part_19 : decode cL_part 19 = .ok (.astore 5, 2) := DL_part_0 (19, .astore 5, 2) (List.mem_of_getElem? (i := 13) rfl)
theorem dL_part_21 : decode cL_part 21 = .ok (.iconst 2, 1) := DL_part_0 (21, .iconst 2, 1) (List.mem_of_getElem? (i := 14) rfl)
theorem dL_part_22 : decode cL_part 22 = .ok (.ireturn, 1) := DL_part_0 (22, .ireturn, 1) (List.mem_of_getElem? (i := 15) rfl)
theorem dL_part_23 : decode cL_part 23 = .ok (.iconst 0, 1) := DL_part_0 (23, .iconst 0, 1) (List.mem_of_getElem? (i := 16) rfl)
theorem dL_part_24 : decode cL_part 24 = .ok (.ireturn, 1) := DL_part_0 (24, .ireturn, 1) (List.mem_of_getElem? (i := 17) rfl)
abbrev rmL_part : Room := { frames := 3, cells := 0, slots := 0, locals := 67 }
set_option maxHeartbeats 1000000 in
set_option maxRecDepth 100000 in
theorem wok_part (l : Launch) (D : va_G) (kA : Nat → ClassId) (a : Nat → Nat) (pf : Nat → Option Nat) (b : Nat) (V X : Sz) (T : Nat → Int) (x1 : Int) (x2 : Int) (x3 : Int) (hD0 : va_D (fun _ => True) (zO kA b T :: cs_X7 kA a V X pf)) {r : Int} (hf : f_X7_part V X x1 x2 x3 = some (.inl r)) (hr : rng r) : MZH l yL_part cL_part 6 (some .int) [(0, 12, 15, 19), (0, 12, 19, 13)] rmL_part D kA [.ref (a 0), vI x1, vI x2, vI x3, .ref b] (zO kA b T :: cs_X7 kA a V X pf) (zO kA b (up T 0 r) :: cs_X7 kA a V X pf) (some (vI 0)) := by
  refine zHI (own := RL) rfl rfl (Nat.le_of_ble_eq_true rfl) ?_
  intro p e s m args below meth c ls Q hC hK hP hl hret
  have hl : lv_has ls 6 [(0, .ref (a 0)), (1, vI x1), (2, vI x2), (3, vI x3), (4, .ref b)] := hl
  have hS : va_S (zF (zO kA b T :: cs_X7 kA a V X pf)) s.heap s.heap [] := va_S.rf
  have hD0 : va_D (zF (zO kA b T :: cs_X7 kA a V X pf)) (zO kA b T :: cs_X7 kA a V X pf) := ⟨hD0.1, fun k q hk => ⟨k, q.2, hk⟩⟩
  generalize hAe : zF (zO kA b T :: cs_X7 kA a V X pf) = A0 at hS hD0 hret
  have hD : ∀ w : Sz × Sz, va_D A0 (zO kA b T :: cs_X7 kA a w.1 w.2 pf) := zDany (C := fun w : Sz × Sz => (zO kA b T :: cs_X7 kA a w.1 w.2 pf)) (V, X) (fun _ => rfl) hD0
  refine lv_aload hC.1 hC.2.1 dL_part_0 (lv_at hl 4 rfl) <| ziconst hC.1 hC.2.1 dL_part_2 <| lv_aload_n hC.1 hC.2.1 dL_part_3 rfl (lv_at hl 0 rfl) <| ziload_n hC.1 hC.2.1 dL_part_4 rfl (lv_at hl 1 rfl) <| ziload_n hC.1 hC.2.1 dL_part_5 rfl (lv_at hl 2 rfl) <| ziload_n hC.1 hC.2.1 dL_part_6 rfl (lv_at hl 3 rfl) ?_
  refine zcVP (As := [vI x1, vI x2, vI x3]) (rest := [vI 0, .ref b]) hC hK (met_X7_part l D kA a pf V X x1 x2 x3 hf) zwL_24 (zPtail hP) (q0 := 0) rfl rfl rfl rfl hl.1 rfl (Nat.le_of_ble_eq_true rfl) ⟨(Nat.le_of_ble_eq_true rfl), (Nat.le_of_ble_eq_true rfl)⟩ ⟨rfl, rfl⟩ ⟨Nat.le_refl _, Nat.le_refl _⟩ dL_part_7 ?_
  have hD := hD (V, X)
  refine zi2l hC.1 hC.2.1 hr dL_part_10 ?_
  refine jlas hC hK hP hD hS (q0 := 0) rfl (Nat.le_of_ble_eq_true rfl) (by decide) rfl dL_part_11 (fun H locs hP hS => ?_)
  refine lv_goto (tgt := 23) hC.1 hC.2.1 dL_part_12 (by decide) ?_
  refine ziconst hC.1 hC.2.1 dL_part_23 ?_
  exact hret (Int32.ofInt 0) _ _ _ _ rfl hP hS dL_part_24
abbrev rxL_part : Room := { frames := 9, cells := 1, slots := 6, locals := 157 }
set_option maxHeartbeats 1000000 in
set_option maxRecDepth 100000 in
theorem wth0_part (l : Launch) (D : va_G) (kA : Nat → ClassId) (a : Nat → Nat) (pf : Nat → Option Nat) (b : Nat) (V X : Sz) (T : Nat → Int) (x1 : Int) (x2 : Int) (x3 : Int) (hf : f_X7_part V X x1 x2 x3 = some (.inr 0)) : MTH l yL_part cL_part 6 (some .int) [(0, 12, 15, 19), (0, 12, 19, 13)] rxL_part D kA [.ref (a 0), vI x1, vI x2, vI x3, .ref b] (zO kA b T :: cs_X7 kA a V X pf) (some (vI 1)) := by
  refine zHT (own := RL) rfl rfl (Nat.le_of_ble_eq_true rfl) ?_
  intro p e s m args below meth c ls Q hC hK hP hX hN hT hl hret
  have hl : lv_has ls 6 [(0, .ref (a 0)), (1, vI x1), (2, vI x2), (3, vI x3), (4, .ref b)] := hl
  refine lv_aload hC.1 hC.2.1 dL_part_0 (lv_at hl 4 rfl) <| ziconst hC.1 hC.2.1 dL_part_2 <| lv_aload_n hC.1 hC.2.1 dL_part_3 rfl (lv_at hl 0 rfl) <| ziload_n hC.1 hC.2.1 dL_part_4 rfl (lv_at hl 1 rfl) <| ziload_n hC.1 hC.2.1 dL_part_5 rfl (lv_at hl 2 rfl) <| ziload_n hC.1 hC.2.1 dL_part_6 rfl (lv_at hl 3 rfl) ?_
  refine zcVT (As := [vI x1, vI x2, vI x3]) (rest := [vI 0, .ref b]) hC hK hX (thr_X7_part l D kA a pf V X x1 x2 x3 hf) zwL_24 (zPtail hP) (q0 := 0) rfl rfl rfl rfl hl.1 rfl (Nat.le_of_ble_eq_true rfl) ⟨(Nat.le_of_ble_eq_true rfl), (Nat.le_of_ble_eq_true rfl)⟩ ⟨rfl, rfl⟩ ⟨(Nat.le_of_ble_eq_true rfl), (Nat.le_of_ble_eq_true rfl)⟩ dL_part_7 (fun ce q9 H h1 h2 h3 h4 h5 => ?_)
  refine vx_catch (own := RL) (name := zEx 0) (E := zEx 0) (pc := 7) hC.2.2.2.1 [] ⟨0, 12, 15, 19⟩ [⟨0, 12, 19, 13⟩] hT (fun z hz => absurd hz List.not_mem_nil) (by decide) (by decide) (hC.2.2.2.2 _ (qin_4 (i := 2) rfl rfl)) (va_tabs (zBd_tabs (List.mem_of_getElem? (i := 0) rfl)) rfl (hX.2.2.2 _ (List.mem_of_getElem? (i := 0) rfl))) h3 h4 h5 ?_
  refine lv_astore (lv' := [(5, .ref q9), (0, .ref (a 0)), (1, vI x1), (2, vI x2), (3, vI x3), (4, .ref b)]) (x := q9) hC.1 hC.2.1 dL_part_15 hl (by decide) rfl (fun ls hl => ?_)
  refine ziconst hC.1 hC.2.1 dL_part_17 ?_
  exact hret (Int32.ofInt 1) _ _ _ rfl h1 h2 dL_part_18
set_option maxHeartbeats 1000000 in
set_option maxRecDepth 100000 in
theorem wth1_part (l : Launch) (D : va_G) (kA : Nat → ClassId) (a : Nat → Nat) (pf : Nat → Option Nat) (b : Nat) (V X : Sz) (T : Nat → Int) (x1 : Int) (x2 : Int) (x3 : Int) (hf : f_X7_part V X x1 x2 x3 = some (.inr 1)) : MTH l yL_part cL_part 6 (some .int) [(0, 12, 15, 19), (0, 12, 19, 13)] rxL_part D kA [.ref (a 0), vI x1, vI x2, vI x3, .ref b] (zO kA b T :: cs_X7 kA a V X pf) (some (vI 2)) := by
  refine zHT (own := RL) rfl rfl (Nat.le_of_ble_eq_true rfl) ?_
  intro p e s m args below meth c ls Q hC hK hP hX hN hT hl hret
  have hl : lv_has ls 6 [(0, .ref (a 0)), (1, vI x1), (2, vI x2), (3, vI x3), (4, .ref b)] := hl
  refine lv_aload hC.1 hC.2.1 dL_part_0 (lv_at hl 4 rfl) <| ziconst hC.1 hC.2.1 dL_part_2 <| lv_aload_n hC.1 hC.2.1 dL_part_3 rfl (lv_at hl 0 rfl) <| ziload_n hC.1 hC.2.1 dL_part_4 rfl (lv_at hl 1 rfl) <| ziload_n hC.1 hC.2.1 dL_part_5 rfl (lv_at hl 2 rfl) <| ziload_n hC.1 hC.2.1 dL_part_6 rfl (lv_at hl 3 rfl) ?_
  refine zcVT (As := [vI x1, vI x2, vI x3]) (rest := [vI 0, .ref b]) hC hK hX (thr_X7_part l D kA a pf V X x1 x2 x3 hf) zwL_24 (zPtail hP) (q0 := 0) rfl rfl rfl rfl hl.1 rfl (Nat.le_of_ble_eq_true rfl) ⟨(Nat.le_of_ble_eq_true rfl), (Nat.le_of_ble_eq_true rfl)⟩ ⟨rfl, rfl⟩ ⟨(Nat.le_of_ble_eq_true rfl), (Nat.le_of_ble_eq_true rfl)⟩ dL_part_7 (fun ce q9 H h1 h2 h3 h4 h5 => ?_)
  refine vx_catch (own := RL) (name := zEx 1) (E := zEx 1) (pc := 7) hC.2.2.2.1 [⟨0, 12, 15, 19⟩] ⟨0, 12, 19, 13⟩ [] hT (List.forall_mem_cons.mpr ⟨Or.inr ⟨by decide, zEx 0, hC.2.2.2.2 _ (qin_4 (i := 2) rfl rfl), hN _ (List.mem_of_getElem? (i := 0) rfl)⟩, fun z hz => absurd hz List.not_mem_nil⟩) (by decide) (by decide) (hC.2.2.2.2 _ (qin_3 (i := 159) rfl rfl)) (va_tabs (zBd_tabs (List.mem_of_getElem? (i := 1) rfl)) rfl (hX.2.2.2 _ (List.mem_of_getElem? (i := 1) rfl))) h3 h4 h5 ?_
  refine lv_astore (lv' := [(5, .ref q9), (0, .ref (a 0)), (1, vI x1), (2, vI x2), (3, vI x3), (4, .ref b)]) (x := q9) hC.1 hC.2.1 dL_part_19 hl (by decide) rfl (fun ls hl => ?_)
  refine ziconst hC.1 hC.2.1 dL_part_21 ?_
  exact hret (Int32.ofInt 2) _ _ _ rfl h1 h2 dL_part_22
theorem DL_reason_0 : ∀ q ∈ ([(0, .aload_n 3, 1), (1, .iconst 0, 1), (2, .aload_n 0, 1), (3, .iload_n 1, 1), (4, .iload_n 2, 1), (5, .invokevirtual 28, 3), (8, .i2l, 1), (9, .lastore, 1), (10, .goto 7, 3), (13, .astore 4, 2), (15, .iconst 1, 1), (16, .ireturn, 1), (17, .iconst 0, 1), (18, .ireturn, 1)] : List (Nat × Instr × Nat)), decode cL_reason q.1 = .ok q.2 := by decide +kernel
theorem dL_reason_0 : decode cL_reason 0 = .ok (.aload_n 3, 1) := DL_reason_0 (0, .aload_n 3, 1) (List.mem_of_getElem? (i := 0) rfl)
theorem dL_reason_1 : decode cL_reason 1 = .ok (.iconst 0, 1) := DL_reason_0 (1, .iconst 0, 1) (List.mem_of_getElem? (i := 1) rfl)
theorem dL_reason_2 : decode cL_reason 2 = .ok (.aload_n 0, 1) := DL_reason_0 (2, .aload_n 0, 1) (List.mem_of_getElem? (i := 2) rfl)
theorem dL_reason_3 : decode cL_reason 3 = .ok (.iload_n 1, 1) := DL_reason_0 (3, .iload_n 1, 1) (List.mem_of_getElem? (i := 3) rfl)
theorem dL_reason_4 : decode cL_reason 4 = .ok (.iload_n 2, 1) := DL_reason_0 (4, .iload_n 2, 1) (List.mem_of_getElem? (i := 4) rfl)
theorem dL_reason_5 : decode cL_reason 5 = .ok (.invokevirtual 28, 3) := DL_reason_0 (5, .invokevirtual 28, 3) (List.mem_of_getElem? (i := 5) rfl)
theorem dL_reason_8 : decode cL_reason 8 = .ok (.i2l, 1) := DL_reason_0 (8, .i2l, 1) (List.mem_of_getElem? (i := 6) rfl)
theorem dL_reason_9 : decode cL_reason 9 = .ok (.lastore, 1) := DL_reason_0 (9, .lastore, 1) (List.mem_of_getElem? (i := 7) rfl)
theorem dL_reason_10 : decode cL_reason 10 = .ok (.goto 7, 3) := DL_reason_0 (10, .goto 7, 3) (List.mem_of_getElem? (i := 8) rfl)
theorem dL_reason_13 : decode cL_reason 13 = .ok (.astore 4, 2) := DL_reason_0 (13, .astore 4, 2) (List.mem_of_getElem? (i := 9) rfl)
theorem dL_reason_15 : decode cL_reason 15 = .ok (.iconst 1, 1) := DL_reason_0 (15, .iconst 1, 1) (List.mem_of_getElem? (i := 10) rfl)
theorem dL_reason_16 : decode cL_reason 16 = .ok (.ireturn, 1) := DL_reason_0 (16, .ireturn, 1) (List.mem_of_getElem? (i := 11) rfl)
theorem dL_reason_17 : decode cL_reason 17 = .ok (.iconst 0, 1) := DL_reason_0 (17, .iconst 0, 1) (List.mem_of_getElem? (i := 12) rfl)
theorem dL_reason_18 : decode cL_reason 18 = .ok (.ireturn, 1) := DL_reason_0 (18, .ireturn, 1) (List.mem_of_getElem? (i := 13) rfl)
abbrev rmL_reason : Room := { frames := 4, cells := 0, slots := 0, locals := 90 }
set_option maxHeartbeats 1000000 in
set_option maxRecDepth 100000 in
theorem wok_reason (l : Launch) (D : va_G) (kA : Nat → ClassId) (a : Nat → Nat) (pf : Nat → Option Nat) (b : Nat) (n : Nat) (V X : Sz) (T : Nat → Int) (x1 : Int) (x2 : Int) (hD0 : va_D (fun _ => True) (zO kA b T :: cs_X7 kA a V X pf)) {r : Int} (hf : f_X7_reason n V X x1 x2 = some (.inl r)) (hr : rng r) : MZH l yL_reason cL_reason 5 (some .int) [(0, 10, 13, 19)] rmL_reason D kA [.ref (a 0), vI x1, vI x2, .ref b] (zO kA b T :: cs_X7 kA a V X pf) (zO kA b (up T 0 r) :: cs_X7 kA a V X pf) (some (vI 0)) := by
  refine zHI (own := RL) rfl rfl (Nat.le_of_ble_eq_true rfl) ?_
  intro p e s m args below meth c ls Q hC hK hP hl hret
  have hl : lv_has ls 5 [(0, .ref (a 0)), (1, vI x1), (2, vI x2), (3, .ref b)] := hl
  have hS : va_S (zF (zO kA b T :: cs_X7 kA a V X pf)) s.heap s.heap [] := va_S.rf
  have hD0 : va_D (zF (zO kA b T :: cs_X7 kA a V X pf)) (zO kA b T :: cs_X7 kA a V X pf) := ⟨hD0.1, fun k q hk => ⟨k, q.2, hk⟩⟩
  generalize hAe : zF (zO kA b T :: cs_X7 kA a V X pf) = A0 at hS hD0 hret
  have hD : ∀ w : Sz × Sz, va_D A0 (zO kA b T :: cs_X7 kA a w.1 w.2 pf) := zDany (C := fun w : Sz × Sz => (zO kA b T :: cs_X7 kA a w.1 w.2 pf)) (V, X) (fun _ => rfl) hD0
  refine lv_aload_n hC.1 hC.2.1 dL_reason_0 rfl (lv_at hl 3 rfl) <| ziconst hC.1 hC.2.1 dL_reason_1 <| lv_aload_n hC.1 hC.2.1 dL_reason_2 rfl (lv_at hl 0 rfl) <| ziload_n hC.1 hC.2.1 dL_reason_3 rfl (lv_at hl 1 rfl) <| ziload_n hC.1 hC.2.1 dL_reason_4 rfl (lv_at hl 2 rfl) ?_
  refine zcVP (As := [vI x1, vI x2]) (rest := [vI 0, .ref b]) hC hK (met_X7_reason l D kA a pf n V X x1 x2 hf) zwL_28 (zPtail hP) (q0 := 0) rfl rfl rfl rfl hl.1 rfl (Nat.le_of_ble_eq_true rfl) ⟨(Nat.le_of_ble_eq_true rfl), (Nat.le_of_ble_eq_true rfl)⟩ ⟨rfl, rfl⟩ ⟨Nat.le_refl _, Nat.le_refl _⟩ dL_reason_5 ?_
  have hD := hD (V, X)
  refine zi2l hC.1 hC.2.1 hr dL_reason_8 ?_
  refine jlas hC hK hP hD hS (q0 := 0) rfl (Nat.le_of_ble_eq_true rfl) (by decide) rfl dL_reason_9 (fun H locs hP hS => ?_)
  refine lv_goto (tgt := 17) hC.1 hC.2.1 dL_reason_10 (by decide) ?_
  refine ziconst hC.1 hC.2.1 dL_reason_17 ?_
  exact hret (Int32.ofInt 0) _ _ _ _ rfl hP hS dL_reason_18
abbrev rxL_reason : Room := { frames := 9, cells := 1, slots := 6, locals := 155 }
set_option maxHeartbeats 1000000 in
set_option maxRecDepth 100000 in
theorem wth0_reason (l : Launch) (D : va_G) (kA : Nat → ClassId) (a : Nat → Nat) (pf : Nat → Option Nat) (b : Nat) (n : Nat) (V X : Sz) (T : Nat → Int) (x1 : Int) (x2 : Int) (hf : f_X7_reason n V X x1 x2 = some (.inr 0)) : MTH l yL_reason cL_reason 5 (some .int) [(0, 10, 13, 19)] rxL_reason D kA [.ref (a 0), vI x1, vI x2, .ref b] (zO kA b T :: cs_X7 kA a V X pf) (some (vI 1)) := by
  refine zHT (own := RL) rfl rfl (Nat.le_of_ble_eq_true rfl) ?_
  intro p e s m args below meth c ls Q hC hK hP hX hN hT hl hret
  have hl : lv_has ls 5 [(0, .ref (a 0)), (1, vI x1), (2, vI x2), (3, .ref b)] := hl
  refine lv_aload_n hC.1 hC.2.1 dL_reason_0 rfl (lv_at hl 3 rfl) <| ziconst hC.1 hC.2.1 dL_reason_1 <| lv_aload_n hC.1 hC.2.1 dL_reason_2 rfl (lv_at hl 0 rfl) <| ziload_n hC.1 hC.2.1 dL_reason_3 rfl (lv_at hl 1 rfl) <| ziload_n hC.1 hC.2.1 dL_reason_4 rfl (lv_at hl 2 rfl) ?_
  refine zcVT (As := [vI x1, vI x2]) (rest := [vI 0, .ref b]) hC hK hX (thr_X7_reason l D kA a pf n V X x1 x2 hf) zwL_28 (zPtail hP) (q0 := 0) rfl rfl rfl rfl hl.1 rfl (Nat.le_of_ble_eq_true rfl) ⟨(Nat.le_of_ble_eq_true rfl), (Nat.le_of_ble_eq_true rfl)⟩ ⟨rfl, rfl⟩ ⟨(Nat.le_of_ble_eq_true rfl), (Nat.le_of_ble_eq_true rfl)⟩ dL_reason_5 (fun ce q9 H h1 h2 h3 h4 h5 => ?_)
  refine vx_catch (own := RL) (name := zEx 0) (E := zEx 0) (pc := 5) hC.2.2.2.1 [] ⟨0, 10, 13, 19⟩ [] hT (fun z hz => absurd hz List.not_mem_nil) (by decide) (by decide) (hC.2.2.2.2 _ (qin_4 (i := 2) rfl rfl)) (va_tabs (zBd_tabs (List.mem_of_getElem? (i := 0) rfl)) rfl (hX.2.2.2 _ (List.mem_of_getElem? (i := 0) rfl))) h3 h4 h5 ?_
  refine lv_astore (lv' := [(4, .ref q9), (0, .ref (a 0)), (1, vI x1), (2, vI x2), (3, .ref b)]) (x := q9) hC.1 hC.2.1 dL_reason_13 hl (by decide) rfl (fun ls hl => ?_)
  refine ziconst hC.1 hC.2.1 dL_reason_15 ?_
  exact hret (Int32.ofInt 1) _ _ _ rfl h1 h2 dL_reason_16
theorem DL_donor_0 : ∀ q ∈ ([(0, .aload 4, 2), (2, .iconst 0, 1), (3, .aload_n 0, 1), (4, .iload_n 1, 1), (5, .iload_n 2, 1), (6, .iload_n 3, 1), (7, .invokevirtual 31, 3), (10, .i2l, 1), (11, .lastore, 1), (12, .goto 11, 3), (15, .astore 5, 2), (17, .iconst 1, 1), (18, .ireturn, 1), (19, .astore 5, 2), (21, .iconst 2, 1), (22, .ireturn, 1), (23, .iconst 0, 1), (24, .ireturn, 1)] : List (Nat × Instr × Nat)), decode cL_donor q.1 = .ok q.2 := by decide +kernel
theorem dL_donor_0 : decode cL_donor 0 = .ok (.aload 4, 2) := DL_donor_0 (0, .aload 4, 2) (List.mem_of_getElem? (i := 0) rfl)
theorem dL_donor_2 : decode cL_donor 2 = .ok (.iconst 0, 1) := DL_donor_0 (2, .iconst 0, 1) (List.mem_of_getElem? (i := 1) rfl)
theorem dL_donor_3 : decode cL_donor 3 = .ok (.aload_n 0, 1) := DL_donor_0 (3, .aload_n 0, 1) (List.mem_of_getElem? (i := 2) rfl)
theorem dL_donor_4 : decode cL_donor 4 = .ok (.iload_n 1, 1) := DL_donor_0 (4, .iload_n 1, 1) (List.mem_of_getElem? (i := 3) rfl)
theorem dL_donor_5 : decode cL_donor 5 = .ok (.iload_n 2, 1) := DL_donor_0 (5, .iload_n 2, 1) (List.mem_of_getElem? (i := 4) rfl)
theorem dL_donor_6 : decode cL_donor 6 = .ok (.iload_n 3, 1) := DL_donor_0 (6, .iload_n 3, 1) (List.mem_of_getElem? (i := 5) rfl)
theorem dL_donor_7 : decode cL_donor 7 = .ok (.invokevirtual 31, 3) := DL_donor_0 (7, .invokevirtual 31, 3) (List.mem_of_getElem? (i := 6) rfl)
theorem dL_donor_10 : decode cL_donor 10 = .ok (.i2l, 1) := DL_donor_0 (10, .i2l, 1) (List.mem_of_getElem? (i := 7) rfl)
theorem dL_donor_11 : decode cL_donor 11 = .ok (.lastore, 1) := DL_donor_0 (11, .lastore, 1) (List.mem_of_getElem? (i := 8) rfl)
theorem dL_donor_12 : decode cL_donor 12 = .ok (.goto 11, 3) := DL_donor_0 (12, .goto 11, 3) (List.mem_of_getElem? (i := 9) rfl)
theorem dL_donor_15 : decode cL_donor 15 = .ok (.astore 5, 2) := DL_donor_0 (15, .astore 5, 2) (List.mem_of_getElem? (i := 10) rfl)
theorem dL_donor_17 : decode cL_donor 17 = .ok (.iconst 1, 1) := DL_donor_0 (17, .iconst 1, 1) (List.mem_of_getElem? (i := 11) rfl)
theorem dL_donor_18 : decode cL_donor 18 = .ok (.ireturn, 1) := DL_donor_0 (18, .ireturn, 1) (List.mem_of_getElem? (i := 12) rfl)
theorem dL_donor_19 : decode cL_donor 19 = .ok (.astore 5, 2) := DL_donor_0 (19, .astore 5, 2) (List.mem_of_getElem? (i := 13) rfl)
theorem dL_donor_21 : decode cL_donor 21 = .ok (.iconst 2, 1) := DL_donor_0 (21, .iconst 2, 1) (List.mem_of_getElem? (i := 14) rfl)
theorem dL_donor_22 : decode cL_donor 22 = .ok (.ireturn, 1) := DL_donor_0 (22, .ireturn, 1) (List.mem_of_getElem? (i := 15) rfl)
theorem dL_donor_23 : decode cL_donor 23 = .ok (.iconst 0, 1) := DL_donor_0 (23, .iconst 0, 1) (List.mem_of_getElem? (i := 16) rfl)
theorem dL_donor_24 : decode cL_donor 24 = .ok (.ireturn, 1) := DL_donor_0 (24, .ireturn, 1) (List.mem_of_getElem? (i := 17) rfl)
abbrev rmL_donor : Room := { frames := 4, cells := 0, slots := 0, locals := 92 }
set_option maxHeartbeats 1000000 in
set_option maxRecDepth 100000 in
theorem wok_donor (l : Launch) (D : va_G) (kA : Nat → ClassId) (a : Nat → Nat) (pf : Nat → Option Nat) (b : Nat) (n : Nat) (V X : Sz) (T : Nat → Int) (x1 : Int) (x2 : Int) (x3 : Int) (hD0 : va_D (fun _ => True) (zO kA b T :: cs_X7 kA a V X pf)) {r : Int} (hf : f_X7_donor n V X x1 x2 x3 = some (.inl r)) (hr : rng r) : MZH l yL_donor cL_donor 6 (some .int) [(0, 12, 15, 19), (0, 12, 19, 13)] rmL_donor D kA [.ref (a 0), vI x1, vI x2, vI x3, .ref b] (zO kA b T :: cs_X7 kA a V X pf) (zO kA b (up T 0 r) :: cs_X7 kA a V X pf) (some (vI 0)) := by
  refine zHI (own := RL) rfl rfl (Nat.le_of_ble_eq_true rfl) ?_
  intro p e s m args below meth c ls Q hC hK hP hl hret
  have hl : lv_has ls 6 [(0, .ref (a 0)), (1, vI x1), (2, vI x2), (3, vI x3), (4, .ref b)] := hl
  have hS : va_S (zF (zO kA b T :: cs_X7 kA a V X pf)) s.heap s.heap [] := va_S.rf
  have hD0 : va_D (zF (zO kA b T :: cs_X7 kA a V X pf)) (zO kA b T :: cs_X7 kA a V X pf) := ⟨hD0.1, fun k q hk => ⟨k, q.2, hk⟩⟩
  generalize hAe : zF (zO kA b T :: cs_X7 kA a V X pf) = A0 at hS hD0 hret
  have hD : ∀ w : Sz × Sz, va_D A0 (zO kA b T :: cs_X7 kA a w.1 w.2 pf) := zDany (C := fun w : Sz × Sz => (zO kA b T :: cs_X7 kA a w.1 w.2 pf)) (V, X) (fun _ => rfl) hD0
  refine lv_aload hC.1 hC.2.1 dL_donor_0 (lv_at hl 4 rfl) <| ziconst hC.1 hC.2.1 dL_donor_2 <| lv_aload_n hC.1 hC.2.1 dL_donor_3 rfl (lv_at hl 0 rfl) <| ziload_n hC.1 hC.2.1 dL_donor_4 rfl (lv_at hl 1 rfl) <| ziload_n hC.1 hC.2.1 dL_donor_5 rfl (lv_at hl 2 rfl) <| ziload_n hC.1 hC.2.1 dL_donor_6 rfl (lv_at hl 3 rfl) ?_
  refine zcVP (As := [vI x1, vI x2, vI x3]) (rest := [vI 0, .ref b]) hC hK (met_X7_donor l D kA a pf n V X x1 x2 x3 hf) zwL_31 (zPtail hP) (q0 := 0) rfl rfl rfl rfl hl.1 rfl (Nat.le_of_ble_eq_true rfl) ⟨(Nat.le_of_ble_eq_true rfl), (Nat.le_of_ble_eq_true rfl)⟩ ⟨rfl, rfl⟩ ⟨Nat.le_refl _, Nat.le_refl _⟩ dL_donor_7 ?_
  have hD := hD (V, X)
  refine zi2l hC.1 hC.2.1 hr dL_donor_10 ?_
  refine jlas hC hK hP hD hS (q0 := 0) rfl (Nat.le_of_ble_eq_true rfl) (by decide) rfl dL_donor_11 (fun H locs hP hS => ?_)
  refine lv_goto (tgt := 23) hC.1 hC.2.1 dL_donor_12 (by decide) ?_
  refine ziconst hC.1 hC.2.1 dL_donor_23 ?_
  exact hret (Int32.ofInt 0) _ _ _ _ rfl hP hS dL_donor_24
abbrev rxL_donor : Room := { frames := 8, cells := 1, slots := 6, locals := 135 }
set_option maxHeartbeats 1000000 in
set_option maxRecDepth 100000 in
theorem wth0_donor (l : Launch) (D : va_G) (kA : Nat → ClassId) (a : Nat → Nat) (pf : Nat → Option Nat) (b : Nat) (n : Nat) (V X : Sz) (T : Nat → Int) (x1 : Int) (x2 : Int) (x3 : Int) (hf : f_X7_donor n V X x1 x2 x3 = some (.inr 0)) : MTH l yL_donor cL_donor 6 (some .int) [(0, 12, 15, 19), (0, 12, 19, 13)] rxL_donor D kA [.ref (a 0), vI x1, vI x2, vI x3, .ref b] (zO kA b T :: cs_X7 kA a V X pf) (some (vI 1)) := by
  refine zHT (own := RL) rfl rfl (Nat.le_of_ble_eq_true rfl) ?_
  intro p e s m args below meth c ls Q hC hK hP hX hN hT hl hret
  have hl : lv_has ls 6 [(0, .ref (a 0)), (1, vI x1), (2, vI x2), (3, vI x3), (4, .ref b)] := hl
  refine lv_aload hC.1 hC.2.1 dL_donor_0 (lv_at hl 4 rfl) <| ziconst hC.1 hC.2.1 dL_donor_2 <| lv_aload_n hC.1 hC.2.1 dL_donor_3 rfl (lv_at hl 0 rfl) <| ziload_n hC.1 hC.2.1 dL_donor_4 rfl (lv_at hl 1 rfl) <| ziload_n hC.1 hC.2.1 dL_donor_5 rfl (lv_at hl 2 rfl) <| ziload_n hC.1 hC.2.1 dL_donor_6 rfl (lv_at hl 3 rfl) ?_
  refine zcVT (As := [vI x1, vI x2, vI x3]) (rest := [vI 0, .ref b]) hC hK hX (thr_X7_donor l D kA a pf n V X x1 x2 x3 hf) zwL_31 (zPtail hP) (q0 := 0) rfl rfl rfl rfl hl.1 rfl (Nat.le_of_ble_eq_true rfl) ⟨(Nat.le_of_ble_eq_true rfl), (Nat.le_of_ble_eq_true rfl)⟩ ⟨rfl, rfl⟩ ⟨(Nat.le_of_ble_eq_true rfl), (Nat.le_of_ble_eq_true rfl)⟩ dL_donor_7 (fun ce q9 H h1 h2 h3 h4 h5 => ?_)
  refine vx_catch (own := RL) (name := zEx 0) (E := zEx 0) (pc := 7) hC.2.2.2.1 [] ⟨0, 12, 15, 19⟩ [⟨0, 12, 19, 13⟩] hT (fun z hz => absurd hz List.not_mem_nil) (by decide) (by decide) (hC.2.2.2.2 _ (qin_4 (i := 2) rfl rfl)) (va_tabs (zBd_tabs (List.mem_of_getElem? (i := 0) rfl)) rfl (hX.2.2.2 _ (List.mem_of_getElem? (i := 0) rfl))) h3 h4 h5 ?_
  refine lv_astore (lv' := [(5, .ref q9), (0, .ref (a 0)), (1, vI x1), (2, vI x2), (3, vI x3), (4, .ref b)]) (x := q9) hC.1 hC.2.1 dL_donor_15 hl (by decide) rfl (fun ls hl => ?_)
  refine ziconst hC.1 hC.2.1 dL_donor_17 ?_
  exact hret (Int32.ofInt 1) _ _ _ rfl h1 h2 dL_donor_18
set_option maxHeartbeats 1000000 in
set_option maxRecDepth 100000 in
theorem wth1_donor (l : Launch) (D : va_G) (kA : Nat → ClassId) (a : Nat → Nat) (pf : Nat → Option Nat) (b : Nat) (n : Nat) (V X : Sz) (T : Nat → Int) (x1 : Int) (x2 : Int) (x3 : Int) (hf : f_X7_donor n V X x1 x2 x3 = some (.inr 1)) : MTH l yL_donor cL_donor 6 (some .int) [(0, 12, 15, 19), (0, 12, 19, 13)] rxL_donor D kA [.ref (a 0), vI x1, vI x2, vI x3, .ref b] (zO kA b T :: cs_X7 kA a V X pf) (some (vI 2)) := by
  refine zHT (own := RL) rfl rfl (Nat.le_of_ble_eq_true rfl) ?_
  intro p e s m args below meth c ls Q hC hK hP hX hN hT hl hret
  have hl : lv_has ls 6 [(0, .ref (a 0)), (1, vI x1), (2, vI x2), (3, vI x3), (4, .ref b)] := hl
  refine lv_aload hC.1 hC.2.1 dL_donor_0 (lv_at hl 4 rfl) <| ziconst hC.1 hC.2.1 dL_donor_2 <| lv_aload_n hC.1 hC.2.1 dL_donor_3 rfl (lv_at hl 0 rfl) <| ziload_n hC.1 hC.2.1 dL_donor_4 rfl (lv_at hl 1 rfl) <| ziload_n hC.1 hC.2.1 dL_donor_5 rfl (lv_at hl 2 rfl) <| ziload_n hC.1 hC.2.1 dL_donor_6 rfl (lv_at hl 3 rfl) ?_
  refine zcVT (As := [vI x1, vI x2, vI x3]) (rest := [vI 0, .ref b]) hC hK hX (thr_X7_donor l D kA a pf n V X x1 x2 x3 hf) zwL_31 (zPtail hP) (q0 := 0) rfl rfl rfl rfl hl.1 rfl (Nat.le_of_ble_eq_true rfl) ⟨(Nat.le_of_ble_eq_true rfl), (Nat.le_of_ble_eq_true rfl)⟩ ⟨rfl, rfl⟩ ⟨(Nat.le_of_ble_eq_true rfl), (Nat.le_of_ble_eq_true rfl)⟩ dL_donor_7 (fun ce q9 H h1 h2 h3 h4 h5 => ?_)
  refine vx_catch (own := RL) (name := zEx 1) (E := zEx 1) (pc := 7) hC.2.2.2.1 [⟨0, 12, 15, 19⟩] ⟨0, 12, 19, 13⟩ [] hT (List.forall_mem_cons.mpr ⟨Or.inr ⟨by decide, zEx 0, hC.2.2.2.2 _ (qin_4 (i := 2) rfl rfl), hN _ (List.mem_of_getElem? (i := 0) rfl)⟩, fun z hz => absurd hz List.not_mem_nil⟩) (by decide) (by decide) (hC.2.2.2.2 _ (qin_3 (i := 159) rfl rfl)) (va_tabs (zBd_tabs (List.mem_of_getElem? (i := 1) rfl)) rfl (hX.2.2.2 _ (List.mem_of_getElem? (i := 1) rfl))) h3 h4 h5 ?_
  refine lv_astore (lv' := [(5, .ref q9), (0, .ref (a 0)), (1, vI x1), (2, vI x2), (3, vI x3), (4, .ref b)]) (x := q9) hC.1 hC.2.1 dL_donor_19 hl (by decide) rfl (fun ls hl => ?_)
  refine ziconst hC.1 hC.2.1 dL_donor_21 ?_
  exact hret (Int32.ofInt 2) _ _ _ rfl h1 h2 dL_donor_22
theorem DL_taxLimit_0 : ∀ q ∈ ([(0, .aload_n 2, 1), (1, .iconst 0, 1), (2, .aload_n 0, 1), (3, .iload_n 1, 1), (4, .invokevirtual 34, 3), (7, .i2l, 1), (8, .lastore, 1), (9, .goto 6, 3), (12, .astore_n 3, 1), (13, .iconst 1, 1), (14, .ireturn, 1), (15, .iconst 0, 1), (16, .ireturn, 1)] : List (Nat × Instr × Nat)), decode cL_taxLimit q.1 = .ok q.2 := by decide +kernel
theorem dL_taxLimit_0 : decode cL_taxLimit 0 = .ok (.aload_n 2, 1) := DL_taxLimit_0 (0, .aload_n 2, 1) (List.mem_of_getElem? (i := 0) rfl)
theorem dL_taxLimit_1 : decode cL_taxLimit 1 = .ok (.iconst 0, 1) := DL_taxLimit_0 (1, .iconst 0, 1) (List.mem_of_getElem? (i := 1) rfl)
theorem dL_taxLimit_2 : decode cL_taxLimit 2 = .ok (.aload_n 0, 1) := DL_taxLimit_0 (2, .aload_n 0, 1) (List.mem_of_getElem? (i := 2) rfl)
theorem dL_taxLimit_3 : decode cL_taxLimit 3 = .ok (.iload_n 1, 1) := DL_taxLimit_0 (3, .iload_n 1, 1) (List.mem_of_getElem? (i := 3) rfl)
theorem dL_taxLimit_4 : decode cL_taxLimit 4 = .ok (.invokevirtual 34, 3) := DL_taxLimit_0 (4, .invokevirtual 34, 3) (List.mem_of_getElem? (i := 4) rfl)
theorem dL_taxLimit_7 : decode cL_taxLimit 7 = .ok (.i2l, 1) := DL_taxLimit_0 (7, .i2l, 1) (List.mem_of_getElem? (i := 5) rfl)
theorem dL_taxLimit_8 : decode cL_taxLimit 8 = .ok (.lastore, 1) := DL_taxLimit_0 (8, .lastore, 1) (List.mem_of_getElem? (i := 6) rfl)
theorem dL_taxLimit_9 : decode cL_taxLimit 9 = .ok (.goto 6, 3) := DL_taxLimit_0 (9, .goto 6, 3) (List.mem_of_getElem? (i := 7) rfl)
theorem dL_taxLimit_12 : decode cL_taxLimit 12 = .ok (.astore_n 3, 1) := DL_taxLimit_0 (12, .astore_n 3, 1) (List.mem_of_getElem? (i := 8) rfl)
theorem dL_taxLimit_13 : decode cL_taxLimit 13 = .ok (.iconst 1, 1) := DL_taxLimit_0 (13, .iconst 1, 1) (List.mem_of_getElem? (i := 9) rfl)
theorem dL_taxLimit_14 : decode cL_taxLimit 14 = .ok (.ireturn, 1) := DL_taxLimit_0 (14, .ireturn, 1) (List.mem_of_getElem? (i := 10) rfl)
theorem dL_taxLimit_15 : decode cL_taxLimit 15 = .ok (.iconst 0, 1) := DL_taxLimit_0 (15, .iconst 0, 1) (List.mem_of_getElem? (i := 11) rfl)
theorem dL_taxLimit_16 : decode cL_taxLimit 16 = .ok (.ireturn, 1) := DL_taxLimit_0 (16, .ireturn, 1) (List.mem_of_getElem? (i := 12) rfl)
abbrev rmL_taxLimit : Room := { frames := 2, cells := 0, slots := 0, locals := 42 }
set_option maxHeartbeats 1000000 in
set_option maxRecDepth 100000 in
theorem wok_taxLimit (l : Launch) (D : va_G) (kA : Nat → ClassId) (a : Nat → Nat) (pf : Nat → Option Nat) (b : Nat) (V X : Sz) (T : Nat → Int) (x1 : Int) (hD0 : va_D (fun _ => True) (zO kA b T :: cs_X7 kA a V X pf)) {r : Int} (hf : f_X7_taxLimit V X x1 = some (.inl r)) (hr : rng r) : MZH l yL_taxLimit cL_taxLimit 4 (some .int) [(0, 9, 12, 19)] rmL_taxLimit D kA [.ref (a 0), vI x1, .ref b] (zO kA b T :: cs_X7 kA a V X pf) (zO kA b (up T 0 r) :: cs_X7 kA a V X pf) (some (vI 0)) := by
  refine zHI (own := RL) rfl rfl (Nat.le_of_ble_eq_true rfl) ?_
  intro p e s m args below meth c ls Q hC hK hP hl hret
  have hl : lv_has ls 4 [(0, .ref (a 0)), (1, vI x1), (2, .ref b)] := hl
  have hS : va_S (zF (zO kA b T :: cs_X7 kA a V X pf)) s.heap s.heap [] := va_S.rf
  have hD0 : va_D (zF (zO kA b T :: cs_X7 kA a V X pf)) (zO kA b T :: cs_X7 kA a V X pf) := ⟨hD0.1, fun k q hk => ⟨k, q.2, hk⟩⟩
  generalize hAe : zF (zO kA b T :: cs_X7 kA a V X pf) = A0 at hS hD0 hret
  have hD : ∀ w : Sz × Sz, va_D A0 (zO kA b T :: cs_X7 kA a w.1 w.2 pf) := zDany (C := fun w : Sz × Sz => (zO kA b T :: cs_X7 kA a w.1 w.2 pf)) (V, X) (fun _ => rfl) hD0
  refine lv_aload_n hC.1 hC.2.1 dL_taxLimit_0 rfl (lv_at hl 2 rfl) <| ziconst hC.1 hC.2.1 dL_taxLimit_1 <| lv_aload_n hC.1 hC.2.1 dL_taxLimit_2 rfl (lv_at hl 0 rfl) <| ziload_n hC.1 hC.2.1 dL_taxLimit_3 rfl (lv_at hl 1 rfl) ?_
  refine zcVP (As := [vI x1]) (rest := [vI 0, .ref b]) hC hK (met_X7_taxLimit l D kA a pf V X x1 hf) zwL_34 (zPtail hP) (q0 := 0) rfl rfl rfl rfl hl.1 rfl (Nat.le_of_ble_eq_true rfl) ⟨(Nat.le_of_ble_eq_true rfl), (Nat.le_of_ble_eq_true rfl)⟩ ⟨rfl, rfl⟩ ⟨Nat.le_refl _, Nat.le_refl _⟩ dL_taxLimit_4 ?_
  have hD := hD (V, X)
  refine zi2l hC.1 hC.2.1 hr dL_taxLimit_7 ?_
  refine jlas hC hK hP hD hS (q0 := 0) rfl (Nat.le_of_ble_eq_true rfl) (by decide) rfl dL_taxLimit_8 (fun H locs hP hS => ?_)
  refine lv_goto (tgt := 15) hC.1 hC.2.1 dL_taxLimit_9 (by decide) ?_
  refine ziconst hC.1 hC.2.1 dL_taxLimit_15 ?_
  exact hret (Int32.ofInt 0) _ _ _ _ rfl hP hS dL_taxLimit_16
abbrev rxL_taxLimit : Room := { frames := 8, cells := 1, slots := 6, locals := 132 }
set_option maxHeartbeats 1000000 in
set_option maxRecDepth 100000 in
theorem wth0_taxLimit (l : Launch) (D : va_G) (kA : Nat → ClassId) (a : Nat → Nat) (pf : Nat → Option Nat) (b : Nat) (V X : Sz) (T : Nat → Int) (x1 : Int) (hf : f_X7_taxLimit V X x1 = some (.inr 0)) : MTH l yL_taxLimit cL_taxLimit 4 (some .int) [(0, 9, 12, 19)] rxL_taxLimit D kA [.ref (a 0), vI x1, .ref b] (zO kA b T :: cs_X7 kA a V X pf) (some (vI 1)) := by
  refine zHT (own := RL) rfl rfl (Nat.le_of_ble_eq_true rfl) ?_
  intro p e s m args below meth c ls Q hC hK hP hX hN hT hl hret
  have hl : lv_has ls 4 [(0, .ref (a 0)), (1, vI x1), (2, .ref b)] := hl
  refine lv_aload_n hC.1 hC.2.1 dL_taxLimit_0 rfl (lv_at hl 2 rfl) <| ziconst hC.1 hC.2.1 dL_taxLimit_1 <| lv_aload_n hC.1 hC.2.1 dL_taxLimit_2 rfl (lv_at hl 0 rfl) <| ziload_n hC.1 hC.2.1 dL_taxLimit_3 rfl (lv_at hl 1 rfl) ?_
  refine zcVT (As := [vI x1]) (rest := [vI 0, .ref b]) hC hK hX (thr_X7_taxLimit l D kA a pf V X x1 hf) zwL_34 (zPtail hP) (q0 := 0) rfl rfl rfl rfl hl.1 rfl (Nat.le_of_ble_eq_true rfl) ⟨(Nat.le_of_ble_eq_true rfl), (Nat.le_of_ble_eq_true rfl)⟩ ⟨rfl, rfl⟩ ⟨(Nat.le_of_ble_eq_true rfl), (Nat.le_of_ble_eq_true rfl)⟩ dL_taxLimit_4 (fun ce q9 H h1 h2 h3 h4 h5 => ?_)
  refine vx_catch (own := RL) (name := zEx 0) (E := zEx 0) (pc := 4) hC.2.2.2.1 [] ⟨0, 9, 12, 19⟩ [] hT (fun z hz => absurd hz List.not_mem_nil) (by decide) (by decide) (hC.2.2.2.2 _ (qin_4 (i := 2) rfl rfl)) (va_tabs (zBd_tabs (List.mem_of_getElem? (i := 0) rfl)) rfl (hX.2.2.2 _ (List.mem_of_getElem? (i := 0) rfl))) h3 h4 h5 ?_
  refine lv_astore_n (lv' := [(3, .ref q9), (0, .ref (a 0)), (1, vI x1), (2, .ref b)]) (x := q9) hC.1 hC.2.1 dL_taxLimit_12 rfl hl (by decide) rfl (fun ls hl => ?_)
  refine ziconst hC.1 hC.2.1 dL_taxLimit_13 ?_
  exact hret (Int32.ofInt 1) _ _ _ rfl h1 h2 dL_taxLimit_14
theorem DL_isDeclared_0 : ∀ q ∈ ([(0, .aload_n 3, 1), (1, .iconst 0, 1), (2, .aload_n 0, 1), (3, .iload_n 1, 1), (4, .iload_n 2, 1), (5, .invokevirtual 37, 3), (8, .ifCond .eq 7, 3), (11, .lconst 1, 1), (12, .goto 4, 3), (15, .lconst 0, 1), (16, .lastore, 1), (17, .goto 7, 3), (20, .astore 4, 2), (22, .iconst 1, 1), (23, .ireturn, 1), (24, .iconst 0, 1), (25, .ireturn, 1)] : List (Nat × Instr × Nat)), decode cL_isDeclared q.1 = .ok q.2 := by decide +kernel
theorem dL_isDeclared_0 : decode cL_isDeclared 0 = .ok (.aload_n 3, 1) := DL_isDeclared_0 (0, .aload_n 3, 1) (List.mem_of_getElem? (i := 0) rfl)
theorem dL_isDeclared_1 : decode cL_isDeclared 1 = .ok (.iconst 0, 1) := DL_isDeclared_0 (1, .iconst 0, 1) (List.mem_of_getElem? (i := 1) rfl)
theorem dL_isDeclared_2 : decode cL_isDeclared 2 = .ok (.aload_n 0, 1) := DL_isDeclared_0 (2, .aload_n 0, 1) (List.mem_of_getElem? (i := 2) rfl)
theorem dL_isDeclared_3 : decode cL_isDeclared 3 = .ok (.iload_n 1, 1) := DL_isDeclared_0 (3, .iload_n 1, 1) (List.mem_of_getElem? (i := 3) rfl)
theorem dL_isDeclared_4 : decode cL_isDeclared 4 = .ok (.iload_n 2, 1) := DL_isDeclared_0 (4, .iload_n 2, 1) (List.mem_of_getElem? (i := 4) rfl)
theorem dL_isDeclared_5 : decode cL_isDeclared 5 = .ok (.invokevirtual 37, 3) := DL_isDeclared_0 (5, .invokevirtual 37, 3) (List.mem_of_getElem? (i := 5) rfl)
theorem dL_isDeclared_8 : decode cL_isDeclared 8 = .ok (.ifCond .eq 7, 3) := DL_isDeclared_0 (8, .ifCond .eq 7, 3) (List.mem_of_getElem? (i := 6) rfl)
theorem dL_isDeclared_11 : decode cL_isDeclared 11 = .ok (.lconst 1, 1) := DL_isDeclared_0 (11, .lconst 1, 1) (List.mem_of_getElem? (i := 7) rfl)
theorem dL_isDeclared_12 : decode cL_isDeclared 12 = .ok (.goto 4, 3) := DL_isDeclared_0 (12, .goto 4, 3) (List.mem_of_getElem? (i := 8) rfl)
theorem dL_isDeclared_15 : decode cL_isDeclared 15 = .ok (.lconst 0, 1) := DL_isDeclared_0 (15, .lconst 0, 1) (List.mem_of_getElem? (i := 9) rfl)
theorem dL_isDeclared_16 : decode cL_isDeclared 16 = .ok (.lastore, 1) := DL_isDeclared_0 (16, .lastore, 1) (List.mem_of_getElem? (i := 10) rfl)
theorem dL_isDeclared_17 : decode cL_isDeclared 17 = .ok (.goto 7, 3) := DL_isDeclared_0 (17, .goto 7, 3) (List.mem_of_getElem? (i := 11) rfl)
theorem dL_isDeclared_20 : decode cL_isDeclared 20 = .ok (.astore 4, 2) := DL_isDeclared_0 (20, .astore 4, 2) (List.mem_of_getElem? (i := 12) rfl)
theorem dL_isDeclared_22 : decode cL_isDeclared 22 = .ok (.iconst 1, 1) := DL_isDeclared_0 (22, .iconst 1, 1) (List.mem_of_getElem? (i := 13) rfl)
theorem dL_isDeclared_23 : decode cL_isDeclared 23 = .ok (.ireturn, 1) := DL_isDeclared_0 (23, .ireturn, 1) (List.mem_of_getElem? (i := 14) rfl)
theorem dL_isDeclared_24 : decode cL_isDeclared 24 = .ok (.iconst 0, 1) := DL_isDeclared_0 (24, .iconst 0, 1) (List.mem_of_getElem? (i := 15) rfl)
theorem dL_isDeclared_25 : decode cL_isDeclared 25 = .ok (.ireturn, 1) := DL_isDeclared_0 (25, .ireturn, 1) (List.mem_of_getElem? (i := 16) rfl)
abbrev rmL_isDeclared : Room := { frames := 3, cells := 0, slots := 0, locals := 68 }
set_option maxHeartbeats 1000000 in
set_option maxRecDepth 100000 in
theorem wok_isDeclared (l : Launch) (D : va_G) (kA : Nat → ClassId) (a : Nat → Nat) (pf : Nat → Option Nat) (b : Nat) (n : Nat) (V X : Sz) (T : Nat → Int) (x1 : Int) (x2 : Int) (hD0 : va_D (fun _ => True) (zO kA b T :: cs_X7 kA a V X pf)) {r : Bool} (hf : f_X7_isDeclared n V X x1 x2 = some (.inl r)) : MZH l yL_isDeclared cL_isDeclared 5 (some .int) [(0, 17, 20, 19)] rmL_isDeclared D kA [.ref (a 0), vI x1, vI x2, .ref b] (zO kA b T :: cs_X7 kA a V X pf) (zO kA b (up T 0 (bI r)) :: cs_X7 kA a V X pf) (some (vI 0)) := by
  refine zHI (own := RL) rfl rfl (Nat.le_of_ble_eq_true rfl) ?_
  intro p e s m args below meth c ls Q hC hK hP hl hret
  have hl : lv_has ls 5 [(0, .ref (a 0)), (1, vI x1), (2, vI x2), (3, .ref b)] := hl
  have hS : va_S (zF (zO kA b T :: cs_X7 kA a V X pf)) s.heap s.heap [] := va_S.rf
  have hD0 : va_D (zF (zO kA b T :: cs_X7 kA a V X pf)) (zO kA b T :: cs_X7 kA a V X pf) := ⟨hD0.1, fun k q hk => ⟨k, q.2, hk⟩⟩
  generalize hAe : zF (zO kA b T :: cs_X7 kA a V X pf) = A0 at hS hD0 hret
  have hD : ∀ w : Sz × Sz, va_D A0 (zO kA b T :: cs_X7 kA a w.1 w.2 pf) := zDany (C := fun w : Sz × Sz => (zO kA b T :: cs_X7 kA a w.1 w.2 pf)) (V, X) (fun _ => rfl) hD0
  refine lv_aload_n hC.1 hC.2.1 dL_isDeclared_0 rfl (lv_at hl 3 rfl) <| ziconst hC.1 hC.2.1 dL_isDeclared_1 <| lv_aload_n hC.1 hC.2.1 dL_isDeclared_2 rfl (lv_at hl 0 rfl) <| ziload_n hC.1 hC.2.1 dL_isDeclared_3 rfl (lv_at hl 1 rfl) <| ziload_n hC.1 hC.2.1 dL_isDeclared_4 rfl (lv_at hl 2 rfl) ?_
  refine zcVP (As := [vI x1, vI x2]) (rest := [vI 0, .ref b]) hC hK (met_X7_isDeclared l D kA a pf n V X x1 x2 hf) zwL_37 (zPtail hP) (q0 := 0) rfl rfl rfl rfl hl.1 rfl (Nat.le_of_ble_eq_true rfl) ⟨(Nat.le_of_ble_eq_true rfl), (Nat.le_of_ble_eq_true rfl)⟩ ⟨rfl, rfl⟩ ⟨Nat.le_refl _, Nat.le_refl _⟩ dL_isDeclared_5 ?_
  have hD := hD (V, X)
  cases r with
  | true =>
    refine zif_eq (x := 1) (tgt := 15) hC.1 hC.2.1 (by decide) dL_isDeclared_8 (by decide) (fun h => absurd h (by decide)) (fun _ => ?_)
    refine zlconst (v := 1) hC.1 hC.2.1 dL_isDeclared_11 (by decide) <| lv_goto (tgt := 16) hC.1 hC.2.1 dL_isDeclared_12 (by decide) ?_
    refine jlas hC hK hP hD hS (q0 := 0) rfl (Nat.le_of_ble_eq_true rfl) (by decide) rfl dL_isDeclared_16 (fun H locs hP hS => ?_)
    refine lv_goto (tgt := 24) hC.1 hC.2.1 dL_isDeclared_17 (by decide) ?_
    refine ziconst hC.1 hC.2.1 dL_isDeclared_24 ?_
    exact hret (Int32.ofInt 0) _ _ _ _ rfl hP hS dL_isDeclared_25
  | false =>
    refine zif_eq (x := 0) (tgt := 15) hC.1 hC.2.1 (by decide) dL_isDeclared_8 (by decide) (fun _ => ?_) (fun h => absurd rfl h)
    refine zlconst (v := 0) hC.1 hC.2.1 dL_isDeclared_15 (by decide) ?_
    refine jlas hC hK hP hD hS (q0 := 0) rfl (Nat.le_of_ble_eq_true rfl) (by decide) rfl dL_isDeclared_16 (fun H locs hP hS => ?_)
    refine lv_goto (tgt := 24) hC.1 hC.2.1 dL_isDeclared_17 (by decide) ?_
    refine ziconst hC.1 hC.2.1 dL_isDeclared_24 ?_
    exact hret (Int32.ofInt 0) _ _ _ _ rfl hP hS dL_isDeclared_25
abbrev rxL_isDeclared : Room := { frames := 8, cells := 1, slots := 6, locals := 133 }
set_option maxHeartbeats 1000000 in
set_option maxRecDepth 100000 in
theorem wth0_isDeclared (l : Launch) (D : va_G) (kA : Nat → ClassId) (a : Nat → Nat) (pf : Nat → Option Nat) (b : Nat) (n : Nat) (V X : Sz) (T : Nat → Int) (x1 : Int) (x2 : Int) (hf : f_X7_isDeclared n V X x1 x2 = some (.inr 0)) : MTH l yL_isDeclared cL_isDeclared 5 (some .int) [(0, 17, 20, 19)] rxL_isDeclared D kA [.ref (a 0), vI x1, vI x2, .ref b] (zO kA b T :: cs_X7 kA a V X pf) (some (vI 1)) := by
  refine zHT (own := RL) rfl rfl (Nat.le_of_ble_eq_true rfl) ?_
  intro p e s m args below meth c ls Q hC hK hP hX hN hT hl hret
  have hl : lv_has ls 5 [(0, .ref (a 0)), (1, vI x1), (2, vI x2), (3, .ref b)] := hl
  refine lv_aload_n hC.1 hC.2.1 dL_isDeclared_0 rfl (lv_at hl 3 rfl) <| ziconst hC.1 hC.2.1 dL_isDeclared_1 <| lv_aload_n hC.1 hC.2.1 dL_isDeclared_2 rfl (lv_at hl 0 rfl) <| ziload_n hC.1 hC.2.1 dL_isDeclared_3 rfl (lv_at hl 1 rfl) <| ziload_n hC.1 hC.2.1 dL_isDeclared_4 rfl (lv_at hl 2 rfl) ?_
  refine zcVT (As := [vI x1, vI x2]) (rest := [vI 0, .ref b]) hC hK hX (thr_X7_isDeclared l D kA a pf n V X x1 x2 hf) zwL_37 (zPtail hP) (q0 := 0) rfl rfl rfl rfl hl.1 rfl (Nat.le_of_ble_eq_true rfl) ⟨(Nat.le_of_ble_eq_true rfl), (Nat.le_of_ble_eq_true rfl)⟩ ⟨rfl, rfl⟩ ⟨(Nat.le_of_ble_eq_true rfl), (Nat.le_of_ble_eq_true rfl)⟩ dL_isDeclared_5 (fun ce q9 H h1 h2 h3 h4 h5 => ?_)
  refine vx_catch (own := RL) (name := zEx 0) (E := zEx 0) (pc := 5) hC.2.2.2.1 [] ⟨0, 17, 20, 19⟩ [] hT (fun z hz => absurd hz List.not_mem_nil) (by decide) (by decide) (hC.2.2.2.2 _ (qin_4 (i := 2) rfl rfl)) (va_tabs (zBd_tabs (List.mem_of_getElem? (i := 0) rfl)) rfl (hX.2.2.2 _ (List.mem_of_getElem? (i := 0) rfl))) h3 h4 h5 ?_
  refine lv_astore (lv' := [(4, .ref q9), (0, .ref (a 0)), (1, vI x1), (2, vI x2), (3, .ref b)]) (x := q9) hC.1 hC.2.1 dL_isDeclared_20 hl (by decide) rfl (fun ls hl => ?_)
  refine ziconst hC.1 hC.2.1 dL_isDeclared_22 ?_
  exact hret (Int32.ofInt 1) _ _ _ rfl h1 h2 dL_isDeclared_23
theorem DL_coverage_0 : ∀ q ∈ ([(0, .aload 4, 2), (2, .iconst 0, 1), (3, .aload_n 0, 1), (4, .iload_n 1, 1), (5, .iload_n 2, 1), (6, .iload_n 3, 1), (7, .invokevirtual 41, 3), (10, .i2l, 1), (11, .lastore, 1), (12, .goto 11, 3), (15, .astore 5, 2), (17, .iconst 1, 1), (18, .ireturn, 1), (19, .astore 5, 2), (21, .iconst 2, 1), (22, .ireturn, 1), (23, .iconst 0, 1), (24, .ireturn, 1)] : List (Nat × Instr × Nat)), decode cL_coverage q.1 = .ok q.2 := by decide +kernel
theorem dL_coverage_0 : decode cL_coverage 0 = .ok (.aload 4, 2) := DL_coverage_0 (0, .aload 4, 2) (List.mem_of_getElem? (i := 0) rfl)
theorem dL_coverage_2 : decode cL_coverage 2 = .ok (.iconst 0, 1) := DL_coverage_0 (2, .iconst 0, 1) (List.mem_of_getElem? (i := 1) rfl)
theorem dL_coverage_3 : decode cL_coverage 3 = .ok (.aload_n 0, 1) := DL_coverage_0 (3, .aload_n 0, 1) (List.mem_of_getElem? (i := 2) rfl)
theorem dL_coverage_4 : decode cL_coverage 4 = .ok (.iload_n 1, 1) := DL_coverage_0 (4, .iload_n 1, 1) (List.mem_of_getElem? (i := 3) rfl)
theorem dL_coverage_5 : decode cL_coverage 5 = .ok (.iload_n 2, 1) := DL_coverage_0 (5, .iload_n 2, 1) (List.mem_of_getElem? (i := 4) rfl)
theorem dL_coverage_6 : decode cL_coverage 6 = .ok (.iload_n 3, 1) := DL_coverage_0 (6, .iload_n 3, 1) (List.mem_of_getElem? (i := 5) rfl)
theorem dL_coverage_7 : decode cL_coverage 7 = .ok (.invokevirtual 41, 3) := DL_coverage_0 (7, .invokevirtual 41, 3) (List.mem_of_getElem? (i := 6) rfl)
theorem dL_coverage_10 : decode cL_coverage 10 = .ok (.i2l, 1) := DL_coverage_0 (10, .i2l, 1) (List.mem_of_getElem? (i := 7) rfl)
theorem dL_coverage_11 : decode cL_coverage 11 = .ok (.lastore, 1) := DL_coverage_0 (11, .lastore, 1) (List.mem_of_getElem? (i := 8) rfl)
theorem dL_coverage_12 : decode cL_coverage 12 = .ok (.goto 11, 3) := DL_coverage_0 (12, .goto 11, 3) (List.mem_of_getElem? (i := 9) rfl)
theorem dL_coverage_15 : decode cL_coverage 15 = .ok (.astore 5, 2) := DL_coverage_0 (15, .astore 5, 2) (List.mem_of_getElem? (i := 10) rfl)
theorem dL_coverage_17 : decode cL_coverage 17 = .ok (.iconst 1, 1) := DL_coverage_0 (17, .iconst 1, 1) (List.mem_of_getElem? (i := 11) rfl)
theorem dL_coverage_18 : decode cL_coverage 18 = .ok (.ireturn, 1) := DL_coverage_0 (18, .ireturn, 1) (List.mem_of_getElem? (i := 12) rfl)
theorem dL_coverage_19 : decode cL_coverage 19 = .ok (.astore 5, 2) := DL_coverage_0 (19, .astore 5, 2) (List.mem_of_getElem? (i := 13) rfl)
theorem dL_coverage_21 : decode cL_coverage 21 = .ok (.iconst 2, 1) := DL_coverage_0 (21, .iconst 2, 1) (List.mem_of_getElem? (i := 14) rfl)
theorem dL_coverage_22 : decode cL_coverage 22 = .ok (.ireturn, 1) := DL_coverage_0 (22, .ireturn, 1) (List.mem_of_getElem? (i := 15) rfl)
theorem dL_coverage_23 : decode cL_coverage 23 = .ok (.iconst 0, 1) := DL_coverage_0 (23, .iconst 0, 1) (List.mem_of_getElem? (i := 16) rfl)
theorem dL_coverage_24 : decode cL_coverage 24 = .ok (.ireturn, 1) := DL_coverage_0 (24, .ireturn, 1) (List.mem_of_getElem? (i := 17) rfl)
abbrev rmL_coverage : Room := { frames := 4, cells := 0, slots := 0, locals := 135 }
set_option maxHeartbeats 1000000 in
set_option maxRecDepth 100000 in
theorem wok_coverage (l : Launch) (D : va_G) (kA : Nat → ClassId) (a : Nat → Nat) (pf : Nat → Option Nat) (b : Nat) (n : Nat) (V X : Sz) (T : Nat → Int) (x1 : Int) (x2 : Int) (x3 : Int) (hD0 : va_D (fun _ => True) (zO kA b T :: cs_X7 kA a V X pf)) {r : Int} (hf : f_X7_coverage n V X x1 x2 x3 = some (.inl r)) (hr : rng r) : MZH l yL_coverage cL_coverage 6 (some .int) [(0, 12, 15, 19), (0, 12, 19, 13)] rmL_coverage D kA [.ref (a 0), vI x1, vI x2, vI x3, .ref b] (zO kA b T :: cs_X7 kA a V X pf) (zO kA b (up T 0 r) :: cs_X7 kA a V X pf) (some (vI 0)) := by
  refine zHI (own := RL) rfl rfl (Nat.le_of_ble_eq_true rfl) ?_
  intro p e s m args below meth c ls Q hC hK hP hl hret
  have hl : lv_has ls 6 [(0, .ref (a 0)), (1, vI x1), (2, vI x2), (3, vI x3), (4, .ref b)] := hl
  have hS : va_S (zF (zO kA b T :: cs_X7 kA a V X pf)) s.heap s.heap [] := va_S.rf
  have hD0 : va_D (zF (zO kA b T :: cs_X7 kA a V X pf)) (zO kA b T :: cs_X7 kA a V X pf) := ⟨hD0.1, fun k q hk => ⟨k, q.2, hk⟩⟩
  generalize hAe : zF (zO kA b T :: cs_X7 kA a V X pf) = A0 at hS hD0 hret
  have hD : ∀ w : Sz × Sz, va_D A0 (zO kA b T :: cs_X7 kA a w.1 w.2 pf) := zDany (C := fun w : Sz × Sz => (zO kA b T :: cs_X7 kA a w.1 w.2 pf)) (V, X) (fun _ => rfl) hD0
  refine lv_aload hC.1 hC.2.1 dL_coverage_0 (lv_at hl 4 rfl) <| ziconst hC.1 hC.2.1 dL_coverage_2 <| lv_aload_n hC.1 hC.2.1 dL_coverage_3 rfl (lv_at hl 0 rfl) <| ziload_n hC.1 hC.2.1 dL_coverage_4 rfl (lv_at hl 1 rfl) <| ziload_n hC.1 hC.2.1 dL_coverage_5 rfl (lv_at hl 2 rfl) <| ziload_n hC.1 hC.2.1 dL_coverage_6 rfl (lv_at hl 3 rfl) ?_
  refine zcVP (As := [vI x1, vI x2, vI x3]) (rest := [vI 0, .ref b]) hC hK (met_X7_coverage l D kA a pf n V X x1 x2 x3 hf) zwL_41 (zPtail hP) (q0 := 0) rfl rfl rfl rfl hl.1 rfl (Nat.le_of_ble_eq_true rfl) ⟨(Nat.le_of_ble_eq_true rfl), (Nat.le_of_ble_eq_true rfl)⟩ ⟨rfl, rfl⟩ ⟨Nat.le_refl _, Nat.le_refl _⟩ dL_coverage_7 ?_
  have hD := hD (V, X)
  refine zi2l hC.1 hC.2.1 hr dL_coverage_10 ?_
  refine jlas hC hK hP hD hS (q0 := 0) rfl (Nat.le_of_ble_eq_true rfl) (by decide) rfl dL_coverage_11 (fun H locs hP hS => ?_)
  refine lv_goto (tgt := 23) hC.1 hC.2.1 dL_coverage_12 (by decide) ?_
  refine ziconst hC.1 hC.2.1 dL_coverage_23 ?_
  exact hret (Int32.ofInt 0) _ _ _ _ rfl hP hS dL_coverage_24
abbrev rxL_coverage : Room := { frames := 9, cells := 1, slots := 6, locals := 156 }
set_option maxHeartbeats 1000000 in
set_option maxRecDepth 100000 in
theorem wth0_coverage (l : Launch) (D : va_G) (kA : Nat → ClassId) (a : Nat → Nat) (pf : Nat → Option Nat) (b : Nat) (n : Nat) (V X : Sz) (T : Nat → Int) (x1 : Int) (x2 : Int) (x3 : Int) (hf : f_X7_coverage n V X x1 x2 x3 = some (.inr 0)) : MTH l yL_coverage cL_coverage 6 (some .int) [(0, 12, 15, 19), (0, 12, 19, 13)] rxL_coverage D kA [.ref (a 0), vI x1, vI x2, vI x3, .ref b] (zO kA b T :: cs_X7 kA a V X pf) (some (vI 1)) := by
  refine zHT (own := RL) rfl rfl (Nat.le_of_ble_eq_true rfl) ?_
  intro p e s m args below meth c ls Q hC hK hP hX hN hT hl hret
  have hl : lv_has ls 6 [(0, .ref (a 0)), (1, vI x1), (2, vI x2), (3, vI x3), (4, .ref b)] := hl
  refine lv_aload hC.1 hC.2.1 dL_coverage_0 (lv_at hl 4 rfl) <| ziconst hC.1 hC.2.1 dL_coverage_2 <| lv_aload_n hC.1 hC.2.1 dL_coverage_3 rfl (lv_at hl 0 rfl) <| ziload_n hC.1 hC.2.1 dL_coverage_4 rfl (lv_at hl 1 rfl) <| ziload_n hC.1 hC.2.1 dL_coverage_5 rfl (lv_at hl 2 rfl) <| ziload_n hC.1 hC.2.1 dL_coverage_6 rfl (lv_at hl 3 rfl) ?_
  refine zcVT (As := [vI x1, vI x2, vI x3]) (rest := [vI 0, .ref b]) hC hK hX (thr_X7_coverage l D kA a pf n V X x1 x2 x3 hf) zwL_41 (zPtail hP) (q0 := 0) rfl rfl rfl rfl hl.1 rfl (Nat.le_of_ble_eq_true rfl) ⟨(Nat.le_of_ble_eq_true rfl), (Nat.le_of_ble_eq_true rfl)⟩ ⟨rfl, rfl⟩ ⟨(Nat.le_of_ble_eq_true rfl), (Nat.le_of_ble_eq_true rfl)⟩ dL_coverage_7 (fun ce q9 H h1 h2 h3 h4 h5 => ?_)
  refine vx_catch (own := RL) (name := zEx 0) (E := zEx 0) (pc := 7) hC.2.2.2.1 [] ⟨0, 12, 15, 19⟩ [⟨0, 12, 19, 13⟩] hT (fun z hz => absurd hz List.not_mem_nil) (by decide) (by decide) (hC.2.2.2.2 _ (qin_4 (i := 2) rfl rfl)) (va_tabs (zBd_tabs (List.mem_of_getElem? (i := 0) rfl)) rfl (hX.2.2.2 _ (List.mem_of_getElem? (i := 0) rfl))) h3 h4 h5 ?_
  refine lv_astore (lv' := [(5, .ref q9), (0, .ref (a 0)), (1, vI x1), (2, vI x2), (3, vI x3), (4, .ref b)]) (x := q9) hC.1 hC.2.1 dL_coverage_15 hl (by decide) rfl (fun ls hl => ?_)
  refine ziconst hC.1 hC.2.1 dL_coverage_17 ?_
  exact hret (Int32.ofInt 1) _ _ _ rfl h1 h2 dL_coverage_18
set_option maxHeartbeats 1000000 in
set_option maxRecDepth 100000 in
theorem wth1_coverage (l : Launch) (D : va_G) (kA : Nat → ClassId) (a : Nat → Nat) (pf : Nat → Option Nat) (b : Nat) (n : Nat) (V X : Sz) (T : Nat → Int) (x1 : Int) (x2 : Int) (x3 : Int) (hf : f_X7_coverage n V X x1 x2 x3 = some (.inr 1)) : MTH l yL_coverage cL_coverage 6 (some .int) [(0, 12, 15, 19), (0, 12, 19, 13)] rxL_coverage D kA [.ref (a 0), vI x1, vI x2, vI x3, .ref b] (zO kA b T :: cs_X7 kA a V X pf) (some (vI 2)) := by
  refine zHT (own := RL) rfl rfl (Nat.le_of_ble_eq_true rfl) ?_
  intro p e s m args below meth c ls Q hC hK hP hX hN hT hl hret
  have hl : lv_has ls 6 [(0, .ref (a 0)), (1, vI x1), (2, vI x2), (3, vI x3), (4, .ref b)] := hl
  refine lv_aload hC.1 hC.2.1 dL_coverage_0 (lv_at hl 4 rfl) <| ziconst hC.1 hC.2.1 dL_coverage_2 <| lv_aload_n hC.1 hC.2.1 dL_coverage_3 rfl (lv_at hl 0 rfl) <| ziload_n hC.1 hC.2.1 dL_coverage_4 rfl (lv_at hl 1 rfl) <| ziload_n hC.1 hC.2.1 dL_coverage_5 rfl (lv_at hl 2 rfl) <| ziload_n hC.1 hC.2.1 dL_coverage_6 rfl (lv_at hl 3 rfl) ?_
  refine zcVT (As := [vI x1, vI x2, vI x3]) (rest := [vI 0, .ref b]) hC hK hX (thr_X7_coverage l D kA a pf n V X x1 x2 x3 hf) zwL_41 (zPtail hP) (q0 := 0) rfl rfl rfl rfl hl.1 rfl (Nat.le_of_ble_eq_true rfl) ⟨(Nat.le_of_ble_eq_true rfl), (Nat.le_of_ble_eq_true rfl)⟩ ⟨rfl, rfl⟩ ⟨(Nat.le_of_ble_eq_true rfl), (Nat.le_of_ble_eq_true rfl)⟩ dL_coverage_7 (fun ce q9 H h1 h2 h3 h4 h5 => ?_)
  refine vx_catch (own := RL) (name := zEx 1) (E := zEx 1) (pc := 7) hC.2.2.2.1 [⟨0, 12, 15, 19⟩] ⟨0, 12, 19, 13⟩ [] hT (List.forall_mem_cons.mpr ⟨Or.inr ⟨by decide, zEx 0, hC.2.2.2.2 _ (qin_4 (i := 2) rfl rfl), hN _ (List.mem_of_getElem? (i := 0) rfl)⟩, fun z hz => absurd hz List.not_mem_nil⟩) (by decide) (by decide) (hC.2.2.2.2 _ (qin_3 (i := 159) rfl rfl)) (va_tabs (zBd_tabs (List.mem_of_getElem? (i := 1) rfl)) rfl (hX.2.2.2 _ (List.mem_of_getElem? (i := 1) rfl))) h3 h4 h5 ?_
  refine lv_astore (lv' := [(5, .ref q9), (0, .ref (a 0)), (1, vI x1), (2, vI x2), (3, vI x3), (4, .ref b)]) (x := q9) hC.1 hC.2.1 dL_coverage_19 hl (by decide) rfl (fun ls hl => ?_)
  refine ziconst hC.1 hC.2.1 dL_coverage_21 ?_
  exact hret (Int32.ofInt 2) _ _ _ rfl h1 h2 dL_coverage_22
theorem DL_gap_0 : ∀ q ∈ ([(0, .aload 4, 2), (2, .iconst 0, 1), (3, .aload_n 0, 1), (4, .iload_n 1, 1), (5, .iload_n 2, 1), (6, .iload_n 3, 1), (7, .invokevirtual 44, 3), (10, .i2l, 1), (11, .lastore, 1), (12, .goto 7, 3), (15, .astore 5, 2), (17, .iconst 1, 1), (18, .ireturn, 1), (19, .iconst 0, 1), (20, .ireturn, 1)] : List (Nat × Instr × Nat)), decode cL_gap q.1 = .ok q.2 := by decide +kernel
theorem dL_gap_0 : decode cL_gap 0 = .ok (.aload 4, 2) := DL_gap_0 (0, .aload 4, 2) (List.mem_of_getElem? (i := 0) rfl)
theorem dL_gap_2 : decode cL_gap 2 = .ok (.iconst 0, 1) := DL_gap_0 (2, .iconst 0, 1) (List.mem_of_getElem? (i := 1) rfl)
theorem dL_gap_3 : decode cL_gap 3 = .ok (.aload_n 0, 1) := DL_gap_0 (3, .aload_n 0, 1) (List.mem_of_getElem? (i := 2) rfl)
theorem dL_gap_4 : decode cL_gap 4 = .ok (.iload_n 1, 1) := DL_gap_0 (4, .iload_n 1, 1) (List.mem_of_getElem? (i := 3) rfl)
theorem dL_gap_5 : decode cL_gap 5 = .ok (.iload_n 2, 1) := DL_gap_0 (5, .iload_n 2, 1) (List.mem_of_getElem? (i := 4) rfl)
theorem dL_gap_6 : decode cL_gap 6 = .ok (.iload_n 3, 1) := DL_gap_0 (6, .iload_n 3, 1) (List.mem_of_getElem? (i := 5) rfl)
theorem dL_gap_7 : decode cL_gap 7 = .ok (.invokevirtual 44, 3) := DL_gap_0 (7, .invokevirtual 44, 3) (List.mem_of_getElem? (i := 6) rfl)
theorem dL_gap_10 : decode cL_gap 10 = .ok (.i2l, 1) := DL_gap_0 (10, .i2l, 1) (List.mem_of_getElem? (i := 7) rfl)
theorem dL_gap_11 : decode cL_gap 11 = .ok (.lastore, 1) := DL_gap_0 (11, .lastore, 1) (List.mem_of_getElem? (i := 8) rfl)
theorem dL_gap_12 : decode cL_gap 12 = .ok (.goto 7, 3) := DL_gap_0 (12, .goto 7, 3) (List.mem_of_getElem? (i := 9) rfl)
theorem dL_gap_15 : decode cL_gap 15 = .ok (.astore 5, 2) := DL_gap_0 (15, .astore 5, 2) (List.mem_of_getElem? (i := 10) rfl)
theorem dL_gap_17 : decode cL_gap 17 = .ok (.iconst 1, 1) := DL_gap_0 (17, .iconst 1, 1) (List.mem_of_getElem? (i := 11) rfl)
theorem dL_gap_18 : decode cL_gap 18 = .ok (.ireturn, 1) := DL_gap_0 (18, .ireturn, 1) (List.mem_of_getElem? (i := 12) rfl)
theorem dL_gap_19 : decode cL_gap 19 = .ok (.iconst 0, 1) := DL_gap_0 (19, .iconst 0, 1) (List.mem_of_getElem? (i := 13) rfl)
theorem dL_gap_20 : decode cL_gap 20 = .ok (.ireturn, 1) := DL_gap_0 (20, .ireturn, 1) (List.mem_of_getElem? (i := 14) rfl)
abbrev rmL_gap : Room := { frames := 4, cells := 0, slots := 0, locals := 134 }
set_option maxHeartbeats 1000000 in
set_option maxRecDepth 100000 in
theorem wok_gap (l : Launch) (D : va_G) (kA : Nat → ClassId) (a : Nat → Nat) (pf : Nat → Option Nat) (b : Nat) (n : Nat) (V X : Sz) (T : Nat → Int) (x1 : Int) (x2 : Int) (x3 : Int) (hD0 : va_D (fun _ => True) (zO kA b T :: cs_X7 kA a V X pf)) {r : Int} (hf : f_X7_gap n V X x1 x2 x3 = some (.inl r)) (hr : rng r) : MZH l yL_gap cL_gap 6 (some .int) [(0, 12, 15, 19)] rmL_gap D kA [.ref (a 0), vI x1, vI x2, vI x3, .ref b] (zO kA b T :: cs_X7 kA a V X pf) (zO kA b (up T 0 r) :: cs_X7 kA a V X pf) (some (vI 0)) := by
  refine zHI (own := RL) rfl rfl (Nat.le_of_ble_eq_true rfl) ?_
  intro p e s m args below meth c ls Q hC hK hP hl hret
  have hl : lv_has ls 6 [(0, .ref (a 0)), (1, vI x1), (2, vI x2), (3, vI x3), (4, .ref b)] := hl
  have hS : va_S (zF (zO kA b T :: cs_X7 kA a V X pf)) s.heap s.heap [] := va_S.rf
  have hD0 : va_D (zF (zO kA b T :: cs_X7 kA a V X pf)) (zO kA b T :: cs_X7 kA a V X pf) := ⟨hD0.1, fun k q hk => ⟨k, q.2, hk⟩⟩
  generalize hAe : zF (zO kA b T :: cs_X7 kA a V X pf) = A0 at hS hD0 hret
  have hD : ∀ w : Sz × Sz, va_D A0 (zO kA b T :: cs_X7 kA a w.1 w.2 pf) := zDany (C := fun w : Sz × Sz => (zO kA b T :: cs_X7 kA a w.1 w.2 pf)) (V, X) (fun _ => rfl) hD0
  refine lv_aload hC.1 hC.2.1 dL_gap_0 (lv_at hl 4 rfl) <| ziconst hC.1 hC.2.1 dL_gap_2 <| lv_aload_n hC.1 hC.2.1 dL_gap_3 rfl (lv_at hl 0 rfl) <| ziload_n hC.1 hC.2.1 dL_gap_4 rfl (lv_at hl 1 rfl) <| ziload_n hC.1 hC.2.1 dL_gap_5 rfl (lv_at hl 2 rfl) <| ziload_n hC.1 hC.2.1 dL_gap_6 rfl (lv_at hl 3 rfl) ?_
  refine zcVP (As := [vI x1, vI x2, vI x3]) (rest := [vI 0, .ref b]) hC hK (met_X7_gap l D kA a pf n V X x1 x2 x3 hf) zwL_44 (zPtail hP) (q0 := 0) rfl rfl rfl rfl hl.1 rfl (Nat.le_of_ble_eq_true rfl) ⟨(Nat.le_of_ble_eq_true rfl), (Nat.le_of_ble_eq_true rfl)⟩ ⟨rfl, rfl⟩ ⟨Nat.le_refl _, Nat.le_refl _⟩ dL_gap_7 ?_
  have hD := hD (V, X)
  refine zi2l hC.1 hC.2.1 hr dL_gap_10 ?_
  refine jlas hC hK hP hD hS (q0 := 0) rfl (Nat.le_of_ble_eq_true rfl) (by decide) rfl dL_gap_11 (fun H locs hP hS => ?_)
  refine lv_goto (tgt := 19) hC.1 hC.2.1 dL_gap_12 (by decide) ?_
  refine ziconst hC.1 hC.2.1 dL_gap_19 ?_
  exact hret (Int32.ofInt 0) _ _ _ _ rfl hP hS dL_gap_20
abbrev rxL_gap : Room := { frames := 8, cells := 1, slots := 6, locals := 134 }
set_option maxHeartbeats 1000000 in
set_option maxRecDepth 100000 in
theorem wth0_gap (l : Launch) (D : va_G) (kA : Nat → ClassId) (a : Nat → Nat) (pf : Nat → Option Nat) (b : Nat) (n : Nat) (V X : Sz) (T : Nat → Int) (x1 : Int) (x2 : Int) (x3 : Int) (hf : f_X7_gap n V X x1 x2 x3 = some (.inr 0)) : MTH l yL_gap cL_gap 6 (some .int) [(0, 12, 15, 19)] rxL_gap D kA [.ref (a 0), vI x1, vI x2, vI x3, .ref b] (zO kA b T :: cs_X7 kA a V X pf) (some (vI 1)) := by
  refine zHT (own := RL) rfl rfl (Nat.le_of_ble_eq_true rfl) ?_
  intro p e s m args below meth c ls Q hC hK hP hX hN hT hl hret
  have hl : lv_has ls 6 [(0, .ref (a 0)), (1, vI x1), (2, vI x2), (3, vI x3), (4, .ref b)] := hl
  refine lv_aload hC.1 hC.2.1 dL_gap_0 (lv_at hl 4 rfl) <| ziconst hC.1 hC.2.1 dL_gap_2 <| lv_aload_n hC.1 hC.2.1 dL_gap_3 rfl (lv_at hl 0 rfl) <| ziload_n hC.1 hC.2.1 dL_gap_4 rfl (lv_at hl 1 rfl) <| ziload_n hC.1 hC.2.1 dL_gap_5 rfl (lv_at hl 2 rfl) <| ziload_n hC.1 hC.2.1 dL_gap_6 rfl (lv_at hl 3 rfl) ?_
  refine zcVT (As := [vI x1, vI x2, vI x3]) (rest := [vI 0, .ref b]) hC hK hX (thr_X7_gap l D kA a pf n V X x1 x2 x3 hf) zwL_44 (zPtail hP) (q0 := 0) rfl rfl rfl rfl hl.1 rfl (Nat.le_of_ble_eq_true rfl) ⟨(Nat.le_of_ble_eq_true rfl), (Nat.le_of_ble_eq_true rfl)⟩ ⟨rfl, rfl⟩ ⟨(Nat.le_of_ble_eq_true rfl), (Nat.le_of_ble_eq_true rfl)⟩ dL_gap_7 (fun ce q9 H h1 h2 h3 h4 h5 => ?_)
  refine vx_catch (own := RL) (name := zEx 0) (E := zEx 0) (pc := 7) hC.2.2.2.1 [] ⟨0, 12, 15, 19⟩ [] hT (fun z hz => absurd hz List.not_mem_nil) (by decide) (by decide) (hC.2.2.2.2 _ (qin_4 (i := 2) rfl rfl)) (va_tabs (zBd_tabs (List.mem_of_getElem? (i := 0) rfl)) rfl (hX.2.2.2 _ (List.mem_of_getElem? (i := 0) rfl))) h3 h4 h5 ?_
  refine lv_astore (lv' := [(5, .ref q9), (0, .ref (a 0)), (1, vI x1), (2, vI x2), (3, vI x3), (4, .ref b)]) (x := q9) hC.1 hC.2.1 dL_gap_15 hl (by decide) rfl (fun ls hl => ?_)
  refine ziconst hC.1 hC.2.1 dL_gap_17 ?_
  exact hret (Int32.ofInt 1) _ _ _ rfl h1 h2 dL_gap_18
theorem DL_needless_0 : ∀ q ∈ ([(0, .aload_n 2, 1), (1, .iconst 0, 1), (2, .aload_n 0, 1), (3, .iload_n 1, 1), (4, .invokevirtual 48, 3), (7, .i2l, 1), (8, .lastore, 1), (9, .goto 6, 3), (12, .astore_n 3, 1), (13, .iconst 1, 1), (14, .ireturn, 1), (15, .iconst 0, 1), (16, .ireturn, 1)] : List (Nat × Instr × Nat)), decode cL_needless q.1 = .ok q.2 := by decide +kernel
theorem dL_needless_0 : decode cL_needless 0 = .ok (.aload_n 2, 1) := DL_needless_0 (0, .aload_n 2, 1) (List.mem_of_getElem? (i := 0) rfl)
theorem dL_needless_1 : decode cL_needless 1 = .ok (.iconst 0, 1) := DL_needless_0 (1, .iconst 0, 1) (List.mem_of_getElem? (i := 1) rfl)
theorem dL_needless_2 : decode cL_needless 2 = .ok (.aload_n 0, 1) := DL_needless_0 (2, .aload_n 0, 1) (List.mem_of_getElem? (i := 2) rfl)
theorem dL_needless_3 : decode cL_needless 3 = .ok (.iload_n 1, 1) := DL_needless_0 (3, .iload_n 1, 1) (List.mem_of_getElem? (i := 3) rfl)
theorem dL_needless_4 : decode cL_needless 4 = .ok (.invokevirtual 48, 3) := DL_needless_0 (4, .invokevirtual 48, 3) (List.mem_of_getElem? (i := 4) rfl)
theorem dL_needless_7 : decode cL_needless 7 = .ok (.i2l, 1) := DL_needless_0 (7, .i2l, 1) (List.mem_of_getElem? (i := 5) rfl)
theorem dL_needless_8 : decode cL_needless 8 = .ok (.lastore, 1) := DL_needless_0 (8, .lastore, 1) (List.mem_of_getElem? (i := 6) rfl)
theorem dL_needless_9 : decode cL_needless 9 = .ok (.goto 6, 3) := DL_needless_0 (9, .goto 6, 3) (List.mem_of_getElem? (i := 7) rfl)
theorem dL_needless_12 : decode cL_needless 12 = .ok (.astore_n 3, 1) := DL_needless_0 (12, .astore_n 3, 1) (List.mem_of_getElem? (i := 8) rfl)
theorem dL_needless_13 : decode cL_needless 13 = .ok (.iconst 1, 1) := DL_needless_0 (13, .iconst 1, 1) (List.mem_of_getElem? (i := 9) rfl)
theorem dL_needless_14 : decode cL_needless 14 = .ok (.ireturn, 1) := DL_needless_0 (14, .ireturn, 1) (List.mem_of_getElem? (i := 10) rfl)
theorem dL_needless_15 : decode cL_needless 15 = .ok (.iconst 0, 1) := DL_needless_0 (15, .iconst 0, 1) (List.mem_of_getElem? (i := 11) rfl)
theorem dL_needless_16 : decode cL_needless 16 = .ok (.ireturn, 1) := DL_needless_0 (16, .ireturn, 1) (List.mem_of_getElem? (i := 12) rfl)
abbrev rmL_needless : Room := { frames := 4, cells := 0, slots := 0, locals := 94 }
set_option maxHeartbeats 1000000 in
set_option maxRecDepth 100000 in
theorem wok_needless (l : Launch) (D : va_G) (kA : Nat → ClassId) (a : Nat → Nat) (pf : Nat → Option Nat) (b : Nat) (n : Nat) (V X : Sz) (T : Nat → Int) (x1 : Int) (hD0 : va_D (fun _ => True) (zO kA b T :: cs_X7 kA a V X pf)) {r : Int} (hf : f_X7_needless n V X x1 = some (.inl r)) (hr : rng r) : MZH l yL_needless cL_needless 4 (some .int) [(0, 9, 12, 19)] rmL_needless D kA [.ref (a 0), vI x1, .ref b] (zO kA b T :: cs_X7 kA a V X pf) (zO kA b (up T 0 r) :: cs_X7 kA a V X pf) (some (vI 0)) := by
  refine zHI (own := RL) rfl rfl (Nat.le_of_ble_eq_true rfl) ?_
  intro p e s m args below meth c ls Q hC hK hP hl hret
  have hl : lv_has ls 4 [(0, .ref (a 0)), (1, vI x1), (2, .ref b)] := hl
  have hS : va_S (zF (zO kA b T :: cs_X7 kA a V X pf)) s.heap s.heap [] := va_S.rf
  have hD0 : va_D (zF (zO kA b T :: cs_X7 kA a V X pf)) (zO kA b T :: cs_X7 kA a V X pf) := ⟨hD0.1, fun k q hk => ⟨k, q.2, hk⟩⟩
  generalize hAe : zF (zO kA b T :: cs_X7 kA a V X pf) = A0 at hS hD0 hret
  have hD : ∀ w : Sz × Sz, va_D A0 (zO kA b T :: cs_X7 kA a w.1 w.2 pf) := zDany (C := fun w : Sz × Sz => (zO kA b T :: cs_X7 kA a w.1 w.2 pf)) (V, X) (fun _ => rfl) hD0
  refine lv_aload_n hC.1 hC.2.1 dL_needless_0 rfl (lv_at hl 2 rfl) <| ziconst hC.1 hC.2.1 dL_needless_1 <| lv_aload_n hC.1 hC.2.1 dL_needless_2 rfl (lv_at hl 0 rfl) <| ziload_n hC.1 hC.2.1 dL_needless_3 rfl (lv_at hl 1 rfl) ?_
  refine zcVP (As := [vI x1]) (rest := [vI 0, .ref b]) hC hK (met_X7_needless l D kA a pf n V X x1 hf) zwL_48 (zPtail hP) (q0 := 0) rfl rfl rfl rfl hl.1 rfl (Nat.le_of_ble_eq_true rfl) ⟨(Nat.le_of_ble_eq_true rfl), (Nat.le_of_ble_eq_true rfl)⟩ ⟨rfl, rfl⟩ ⟨Nat.le_refl _, Nat.le_refl _⟩ dL_needless_4 ?_
  have hD := hD (V, X)
  refine zi2l hC.1 hC.2.1 hr dL_needless_7 ?_
  refine jlas hC hK hP hD hS (q0 := 0) rfl (Nat.le_of_ble_eq_true rfl) (by decide) rfl dL_needless_8 (fun H locs hP hS => ?_)
  refine lv_goto (tgt := 15) hC.1 hC.2.1 dL_needless_9 (by decide) ?_
  refine ziconst hC.1 hC.2.1 dL_needless_15 ?_
  exact hret (Int32.ofInt 0) _ _ _ _ rfl hP hS dL_needless_16
abbrev rxL_needless : Room := { frames := 8, cells := 1, slots := 6, locals := 132 }
set_option maxHeartbeats 1000000 in
set_option maxRecDepth 100000 in
theorem wth0_needless (l : Launch) (D : va_G) (kA : Nat → ClassId) (a : Nat → Nat) (pf : Nat → Option Nat) (b : Nat) (n : Nat) (V X : Sz) (T : Nat → Int) (x1 : Int) (hf : f_X7_needless n V X x1 = some (.inr 0)) : MTH l yL_needless cL_needless 4 (some .int) [(0, 9, 12, 19)] rxL_needless D kA [.ref (a 0), vI x1, .ref b] (zO kA b T :: cs_X7 kA a V X pf) (some (vI 1)) := by
  refine zHT (own := RL) rfl rfl (Nat.le_of_ble_eq_true rfl) ?_
  intro p e s m args below meth c ls Q hC hK hP hX hN hT hl hret
  have hl : lv_has ls 4 [(0, .ref (a 0)), (1, vI x1), (2, .ref b)] := hl
  refine lv_aload_n hC.1 hC.2.1 dL_needless_0 rfl (lv_at hl 2 rfl) <| ziconst hC.1 hC.2.1 dL_needless_1 <| lv_aload_n hC.1 hC.2.1 dL_needless_2 rfl (lv_at hl 0 rfl) <| ziload_n hC.1 hC.2.1 dL_needless_3 rfl (lv_at hl 1 rfl) ?_
  refine zcVT (As := [vI x1]) (rest := [vI 0, .ref b]) hC hK hX (thr_X7_needless l D kA a pf n V X x1 hf) zwL_48 (zPtail hP) (q0 := 0) rfl rfl rfl rfl hl.1 rfl (Nat.le_of_ble_eq_true rfl) ⟨(Nat.le_of_ble_eq_true rfl), (Nat.le_of_ble_eq_true rfl)⟩ ⟨rfl, rfl⟩ ⟨(Nat.le_of_ble_eq_true rfl), (Nat.le_of_ble_eq_true rfl)⟩ dL_needless_4 (fun ce q9 H h1 h2 h3 h4 h5 => ?_)
  refine vx_catch (own := RL) (name := zEx 0) (E := zEx 0) (pc := 4) hC.2.2.2.1 [] ⟨0, 9, 12, 19⟩ [] hT (fun z hz => absurd hz List.not_mem_nil) (by decide) (by decide) (hC.2.2.2.2 _ (qin_4 (i := 2) rfl rfl)) (va_tabs (zBd_tabs (List.mem_of_getElem? (i := 0) rfl)) rfl (hX.2.2.2 _ (List.mem_of_getElem? (i := 0) rfl))) h3 h4 h5 ?_
  refine lv_astore_n (lv' := [(3, .ref q9), (0, .ref (a 0)), (1, vI x1), (2, .ref b)]) (x := q9) hC.1 hC.2.1 dL_needless_12 rfl hl (by decide) rfl (fun ls hl => ?_)
  refine ziconst hC.1 hC.2.1 dL_needless_13 ?_
  exact hret (Int32.ofInt 1) _ _ _ rfl h1 h2 dL_needless_14
theorem DL_declare_0 : ∀ q ∈ ([(0, .aload 4, 2), (2, .iconst 0, 1), (3, .aload_n 0, 1), (4, .iload_n 1, 1), (5, .iload_n 2, 1), (6, .iload_n 3, 1), (7, .invokevirtual 51, 3), (10, .i2l, 1), (11, .lastore, 1), (12, .goto 15, 3), (15, .astore 5, 2), (17, .iconst 1, 1), (18, .ireturn, 1), (19, .astore 5, 2), (21, .iconst 2, 1), (22, .ireturn, 1), (23, .astore 5, 2), (25, .iconst 3, 1), (26, .ireturn, 1), (27, .iconst 0, 1), (28, .ireturn, 1)] : List (Nat × Instr × Nat)), decode cL_declare q.1 = .ok q.2 := by decide +kernel
theorem dL_declare_0 : decode cL_declare 0 = .ok (.aload 4, 2) := DL_declare_0 (0, .aload 4, 2) (List.mem_of_getElem? (i := 0) rfl)
theorem dL_declare_2 : decode cL_declare 2 = .ok (.iconst 0, 1) := DL_declare_0 (2, .iconst 0, 1) (List.mem_of_getElem? (i := 1) rfl)
theorem dL_declare_3 : decode cL_declare 3 = .ok (.aload_n 0, 1) := DL_declare_0 (3, .aload_n 0, 1) (List.mem_of_getElem? (i := 2) rfl)
theorem dL_declare_4 : decode cL_declare 4 = .ok (.iload_n 1, 1) := DL_declare_0 (4, .iload_n 1, 1) (List.mem_of_getElem? (i := 3) rfl)
theorem dL_declare_5 : decode cL_declare 5 = .ok (.iload_n 2, 1) := DL_declare_0 (5, .iload_n 2, 1) (List.mem_of_getElem? (i := 4) rfl)
theorem dL_declare_6 : decode cL_declare 6 = .ok (.iload_n 3, 1) := DL_declare_0 (6, .iload_n 3, 1) (List.mem_of_getElem? (i := 5) rfl)
theorem dL_declare_7 : decode cL_declare 7 = .ok (.invokevirtual 51, 3) := DL_declare_0 (7, .invokevirtual 51, 3) (List.mem_of_getElem? (i := 6) rfl)
theorem dL_declare_10 : decode cL_declare 10 = .ok (.i2l, 1) := DL_declare_0 (10, .i2l, 1) (List.mem_of_getElem? (i := 7) rfl)
theorem dL_declare_11 : decode cL_declare 11 = .ok (.lastore, 1) := DL_declare_0 (11, .lastore, 1) (List.mem_of_getElem? (i := 8) rfl)
theorem dL_declare_12 : decode cL_declare 12 = .ok (.goto 15, 3) := DL_declare_0 (12, .goto 15, 3) (List.mem_of_getElem? (i := 9) rfl)
theorem dL_declare_15 : decode cL_declare 15 = .ok (.astore 5, 2) := DL_declare_0 (15, .astore 5, 2) (List.mem_of_getElem? (i := 10) rfl)
theorem dL_declare_17 : decode cL_declare 17 = .ok (.iconst 1, 1) := DL_declare_0 (17, .iconst 1, 1) (List.mem_of_getElem? (i := 11) rfl)
theorem dL_declare_18 : decode cL_declare 18 = .ok (.ireturn, 1) := DL_declare_0 (18, .ireturn, 1) (List.mem_of_getElem? (i := 12) rfl)
theorem dL_declare_19 : decode cL_declare 19 = .ok (.astore 5, 2) := DL_declare_0 (19, .astore 5, 2) (List.mem_of_getElem? (i := 13) rfl)
theorem dL_declare_21 : decode cL_declare 21 = .ok (.iconst 2, 1) := DL_declare_0 (21, .iconst 2, 1) (List.mem_of_getElem? (i := 14) rfl)
theorem dL_declare_22 : decode cL_declare 22 = .ok (.ireturn, 1) := DL_declare_0 (22, .ireturn, 1) (List.mem_of_getElem? (i := 15) rfl)
theorem dL_declare_23 : decode cL_declare 23 = .ok (.astore 5, 2) := DL_declare_0 (23, .astore 5, 2) (List.mem_of_getElem? (i := 16) rfl)
theorem dL_declare_25 : decode cL_declare 25 = .ok (.iconst 3, 1) := DL_declare_0 (25, .iconst 3, 1) (List.mem_of_getElem? (i := 17) rfl)
theorem dL_declare_26 : decode cL_declare 26 = .ok (.ireturn, 1) := DL_declare_0 (26, .ireturn, 1) (List.mem_of_getElem? (i := 18) rfl)
theorem dL_declare_27 : decode cL_declare 27 = .ok (.iconst 0, 1) := DL_declare_0 (27, .iconst 0, 1) (List.mem_of_getElem? (i := 19) rfl)
theorem dL_declare_28 : decode cL_declare 28 = .ok (.ireturn, 1) := DL_declare_0 (28, .ireturn, 1) (List.mem_of_getElem? (i := 20) rfl)
abbrev rmL_declare : Room := { frames := 6, cells := 24, slots := 2040, locals := 168 }
set_option maxHeartbeats 1000000 in
set_option maxRecDepth 100000 in
theorem wok_declare (l : Launch) (D : va_G) (kA : Nat → ClassId) (a : Nat → Nat) (pa : Nat → Nat → Nat) (b : Nat) (n : Nat) (V X : Sz) (PV : Nat → Sz) (K : Nat) (T : Nat → Int) (x1 : Int) (x2 : Int) (x3 : Int) (sz : Nat) (hD0 : va_D (fun _ => True) (zO kA b T :: (cs_X7 kA a V X (zpf pa K) ++ cs_P kA pa PV K))) {r : Int} {Vr : Sz} {PVr : Nat → Sz} {Kr : Nat} (hf : f_X7_declare n V X PV K x1 x2 x3 = some (.inl (r, Vr, PVr, Kr))) (hr : rng r) : MWH l yL_declare cL_declare 6 (some .int) [(0, 12, 15, 19), (0, 12, 19, 13), (0, 12, 23, 54)] rmL_declare D kA sz [.ref (a 0), vI x1, vI x2, vI x3, .ref b] (zO kA b T :: (cs_X7 kA a V X (zpf pa K) ++ cs_P kA pa PV K)) (some (vI 0)) 24 2040 (fun w => ∃ pa1 : Nat → Nat → Nat, w = (zO kA b (up T 0 r) :: (cs_X7 kA a Vr X (zpf pa1 Kr) ++ cs_P kA pa1 PVr Kr))) := by
  refine zHW (own := RL) rfl rfl (Nat.le_of_ble_eq_true rfl) ?_
  intro p e s m args below meth c ls Q hC hK hP hsz hl hret
  have hl : lv_has ls 6 [(0, .ref (a 0)), (1, vI x1), (2, vI x2), (3, vI x3), (4, .ref b)] := hl
  have hS : va_S (zG (zO kA b T :: (cs_X7 kA a V X (zpf pa K) ++ cs_P kA pa PV K)) s.heap.size) s.heap s.heap [] := va_S.rf
  have hA : ∀ q, s.heap.size ≤ q → zG (zO kA b T :: (cs_X7 kA a V X (zpf pa K) ++ cs_P kA pa PV K)) s.heap.size q := fun q h => Or.inr h
  have hF0 : ∀ q, zF (cs_X7 kA a V X (zpf pa K) ++ cs_P kA pa PV K) q → zG (zO kA b T :: (cs_X7 kA a V X (zpf pa K) ++ cs_P kA pa PV K)) s.heap.size q := fun q h => h.elim fun k h => h.elim fun e h => Or.inl ⟨k + 1, e, h⟩
  have hD : va_D (zG (zO kA b T :: (cs_X7 kA a V X (zpf pa K) ++ cs_P kA pa PV K)) s.heap.size) (zO kA b T :: (cs_X7 kA a V X (zpf pa K) ++ cs_P kA pa PV K)) := ⟨hD0.1, fun k q hk => Or.inl ⟨k, q.2, hk⟩⟩
  generalize hAe : zG (zO kA b T :: (cs_X7 kA a V X (zpf pa K) ++ cs_P kA pa PV K)) s.heap.size = A0 at hS hA hF0 hD hret
  refine lv_aload hC.1 hC.2.1 dL_declare_0 (lv_at hl 4 rfl) <| ziconst hC.1 hC.2.1 dL_declare_2 <| lv_aload_n hC.1 hC.2.1 dL_declare_3 rfl (lv_at hl 0 rfl) <| ziload_n hC.1 hC.2.1 dL_declare_4 rfl (lv_at hl 1 rfl) <| ziload_n hC.1 hC.2.1 dL_declare_5 rfl (lv_at hl 2 rfl) <| ziload_n hC.1 hC.2.1 dL_declare_6 rfl (lv_at hl 3 rfl) ?_
  refine zcVW (As := [vI x1, vI x2, vI x3]) (rest := [vI 0, .ref b]) hC hK (met_X7_declare l D kA a pa n V X PV K x1 x2 x3 s.heap.size (zDtail hD0) hf) zwL_51 hS hF0 hA (zPtail hP) (q0 := 0) rfl rfl rfl rfl hl.1 rfl (Nat.le_of_ble_eq_true rfl) ⟨(Nat.le_of_ble_eq_true rfl), (Nat.le_of_ble_eq_true rfl)⟩ ⟨rfl, rfl⟩ ⟨(Nat.le_of_ble_eq_true rfl), (Nat.le_of_ble_eq_true rfl)⟩ dL_declare_7 (fun w H locs hw hPw hDw _ hk1 hS => ?_)
  obtain ⟨hP, hD⟩ := zconsW hP hD hPw hDw hk1 (fun q h => h.elim (hF0 q) (hA q))
  obtain ⟨pa1, rfl⟩ := hw
  refine zi2l hC.1 hC.2.1 hr dL_declare_10 ?_
  refine jlas hC hK hP hD hS (q0 := 0) rfl (Nat.le_of_ble_eq_true rfl) (by decide) rfl dL_declare_11 (fun H locs hP hS => ?_)
  refine lv_goto (tgt := 27) hC.1 hC.2.1 dL_declare_12 (by decide) ?_
  refine ziconst hC.1 hC.2.1 dL_declare_27 ?_
  have hP : va_P D vwCl (zO kA b (up T 0 r) :: (cs_X7 kA a Vr X (zpf pa1 Kr) ++ cs_P kA pa1 PVr Kr)) H := hP
  have hD : va_D A0 (zO kA b (up T 0 r) :: (cs_X7 kA a Vr X (zpf pa1 Kr) ++ cs_P kA pa1 PVr Kr)) := zDany (C := fun t => (zO kA b t :: (cs_X7 kA a Vr X (zpf pa1 Kr) ++ cs_P kA pa1 PVr Kr))) T (fun _ => rfl) hD (up T 0 r)
  exact hret (Int32.ofInt 0) _ _ _ _ _ _ _ (Nat.le_of_ble_eq_true rfl) (Nat.le_of_ble_eq_true rfl) rfl ⟨pa1, rfl⟩ hP hD hS dL_declare_28
abbrev rxL_declare : Room := { frames := 9, cells := 1, slots := 6, locals := 168 }
set_option maxHeartbeats 1000000 in
set_option maxRecDepth 100000 in
theorem wth0_declare (l : Launch) (D : va_G) (kA : Nat → ClassId) (a : Nat → Nat) (pa : Nat → Nat → Nat) (b : Nat) (n : Nat) (V X : Sz) (PV : Nat → Sz) (K : Nat) (T : Nat → Int) (x1 : Int) (x2 : Int) (x3 : Int) (hf : f_X7_declare n V X PV K x1 x2 x3 = some (.inr 0)) : MTH l yL_declare cL_declare 6 (some .int) [(0, 12, 15, 19), (0, 12, 19, 13), (0, 12, 23, 54)] rxL_declare D kA [.ref (a 0), vI x1, vI x2, vI x3, .ref b] (zO kA b T :: (cs_X7 kA a V X (zpf pa K) ++ cs_P kA pa PV K)) (some (vI 1)) := by
  refine zHT (own := RL) rfl rfl (Nat.le_of_ble_eq_true rfl) ?_
  intro p e s m args below meth c ls Q hC hK hP hX hN hT hl hret
  have hl : lv_has ls 6 [(0, .ref (a 0)), (1, vI x1), (2, vI x2), (3, vI x3), (4, .ref b)] := hl
  refine lv_aload hC.1 hC.2.1 dL_declare_0 (lv_at hl 4 rfl) <| ziconst hC.1 hC.2.1 dL_declare_2 <| lv_aload_n hC.1 hC.2.1 dL_declare_3 rfl (lv_at hl 0 rfl) <| ziload_n hC.1 hC.2.1 dL_declare_4 rfl (lv_at hl 1 rfl) <| ziload_n hC.1 hC.2.1 dL_declare_5 rfl (lv_at hl 2 rfl) <| ziload_n hC.1 hC.2.1 dL_declare_6 rfl (lv_at hl 3 rfl) ?_
  refine zcVT (As := [vI x1, vI x2, vI x3]) (rest := [vI 0, .ref b]) hC hK hX (thr_X7_declare l D kA a pa n V X PV K x1 x2 x3 hf) zwL_51 (zPtail hP) (q0 := 0) rfl rfl rfl rfl hl.1 rfl (Nat.le_of_ble_eq_true rfl) ⟨(Nat.le_of_ble_eq_true rfl), (Nat.le_of_ble_eq_true rfl)⟩ ⟨rfl, rfl⟩ ⟨(Nat.le_of_ble_eq_true rfl), (Nat.le_of_ble_eq_true rfl)⟩ dL_declare_7 (fun ce q9 H h1 h2 h3 h4 h5 => ?_)
  refine vx_catch (own := RL) (name := zEx 0) (E := zEx 0) (pc := 7) hC.2.2.2.1 [] ⟨0, 12, 15, 19⟩ [⟨0, 12, 19, 13⟩, ⟨0, 12, 23, 54⟩] hT (fun z hz => absurd hz List.not_mem_nil) (by decide) (by decide) (hC.2.2.2.2 _ (qin_4 (i := 2) rfl rfl)) (va_tabs (zBd_tabs (List.mem_of_getElem? (i := 0) rfl)) rfl (hX.2.2.2 _ (List.mem_of_getElem? (i := 0) rfl))) h3 h4 h5 ?_
  refine lv_astore (lv' := [(5, .ref q9), (0, .ref (a 0)), (1, vI x1), (2, vI x2), (3, vI x3), (4, .ref b)]) (x := q9) hC.1 hC.2.1 dL_declare_15 hl (by decide) rfl (fun ls hl => ?_)
  refine ziconst hC.1 hC.2.1 dL_declare_17 ?_
  exact hret (Int32.ofInt 1) _ _ _ rfl h1 h2 dL_declare_18
set_option maxHeartbeats 1000000 in
set_option maxRecDepth 100000 in
theorem wth1_declare (l : Launch) (D : va_G) (kA : Nat → ClassId) (a : Nat → Nat) (pa : Nat → Nat → Nat) (b : Nat) (n : Nat) (V X : Sz) (PV : Nat → Sz) (K : Nat) (T : Nat → Int) (x1 : Int) (x2 : Int) (x3 : Int) (hf : f_X7_declare n V X PV K x1 x2 x3 = some (.inr 1)) : MTH l yL_declare cL_declare 6 (some .int) [(0, 12, 15, 19), (0, 12, 19, 13), (0, 12, 23, 54)] rxL_declare D kA [.ref (a 0), vI x1, vI x2, vI x3, .ref b] (zO kA b T :: (cs_X7 kA a V X (zpf pa K) ++ cs_P kA pa PV K)) (some (vI 2)) := by
  refine zHT (own := RL) rfl rfl (Nat.le_of_ble_eq_true rfl) ?_
  intro p e s m args below meth c ls Q hC hK hP hX hN hT hl hret
  have hl : lv_has ls 6 [(0, .ref (a 0)), (1, vI x1), (2, vI x2), (3, vI x3), (4, .ref b)] := hl
  refine lv_aload hC.1 hC.2.1 dL_declare_0 (lv_at hl 4 rfl) <| ziconst hC.1 hC.2.1 dL_declare_2 <| lv_aload_n hC.1 hC.2.1 dL_declare_3 rfl (lv_at hl 0 rfl) <| ziload_n hC.1 hC.2.1 dL_declare_4 rfl (lv_at hl 1 rfl) <| ziload_n hC.1 hC.2.1 dL_declare_5 rfl (lv_at hl 2 rfl) <| ziload_n hC.1 hC.2.1 dL_declare_6 rfl (lv_at hl 3 rfl) ?_
  refine zcVT (As := [vI x1, vI x2, vI x3]) (rest := [vI 0, .ref b]) hC hK hX (thr_X7_declare l D kA a pa n V X PV K x1 x2 x3 hf) zwL_51 (zPtail hP) (q0 := 0) rfl rfl rfl rfl hl.1 rfl (Nat.le_of_ble_eq_true rfl) ⟨(Nat.le_of_ble_eq_true rfl), (Nat.le_of_ble_eq_true rfl)⟩ ⟨rfl, rfl⟩ ⟨(Nat.le_of_ble_eq_true rfl), (Nat.le_of_ble_eq_true rfl)⟩ dL_declare_7 (fun ce q9 H h1 h2 h3 h4 h5 => ?_)
  refine vx_catch (own := RL) (name := zEx 1) (E := zEx 1) (pc := 7) hC.2.2.2.1 [⟨0, 12, 15, 19⟩] ⟨0, 12, 19, 13⟩ [⟨0, 12, 23, 54⟩] hT (List.forall_mem_cons.mpr ⟨Or.inr ⟨by decide, zEx 0, hC.2.2.2.2 _ (qin_4 (i := 2) rfl rfl), hN _ (List.mem_of_getElem? (i := 0) rfl)⟩, fun z hz => absurd hz List.not_mem_nil⟩) (by decide) (by decide) (hC.2.2.2.2 _ (qin_3 (i := 159) rfl rfl)) (va_tabs (zBd_tabs (List.mem_of_getElem? (i := 1) rfl)) rfl (hX.2.2.2 _ (List.mem_of_getElem? (i := 1) rfl))) h3 h4 h5 ?_
  refine lv_astore (lv' := [(5, .ref q9), (0, .ref (a 0)), (1, vI x1), (2, vI x2), (3, vI x3), (4, .ref b)]) (x := q9) hC.1 hC.2.1 dL_declare_19 hl (by decide) rfl (fun ls hl => ?_)
  refine ziconst hC.1 hC.2.1 dL_declare_21 ?_
  exact hret (Int32.ofInt 2) _ _ _ rfl h1 h2 dL_declare_22
set_option maxHeartbeats 1000000 in
set_option maxRecDepth 100000 in
theorem wth2_declare (l : Launch) (D : va_G) (kA : Nat → ClassId) (a : Nat → Nat) (pa : Nat → Nat → Nat) (b : Nat) (n : Nat) (V X : Sz) (PV : Nat → Sz) (K : Nat) (T : Nat → Int) (x1 : Int) (x2 : Int) (x3 : Int) (hf : f_X7_declare n V X PV K x1 x2 x3 = some (.inr 2)) : MTH l yL_declare cL_declare 6 (some .int) [(0, 12, 15, 19), (0, 12, 19, 13), (0, 12, 23, 54)] rxL_declare D kA [.ref (a 0), vI x1, vI x2, vI x3, .ref b] (zO kA b T :: (cs_X7 kA a V X (zpf pa K) ++ cs_P kA pa PV K)) (some (vI 3)) := by
  refine zHT (own := RL) rfl rfl (Nat.le_of_ble_eq_true rfl) ?_
  intro p e s m args below meth c ls Q hC hK hP hX hN hT hl hret
  have hl : lv_has ls 6 [(0, .ref (a 0)), (1, vI x1), (2, vI x2), (3, vI x3), (4, .ref b)] := hl
  refine lv_aload hC.1 hC.2.1 dL_declare_0 (lv_at hl 4 rfl) <| ziconst hC.1 hC.2.1 dL_declare_2 <| lv_aload_n hC.1 hC.2.1 dL_declare_3 rfl (lv_at hl 0 rfl) <| ziload_n hC.1 hC.2.1 dL_declare_4 rfl (lv_at hl 1 rfl) <| ziload_n hC.1 hC.2.1 dL_declare_5 rfl (lv_at hl 2 rfl) <| ziload_n hC.1 hC.2.1 dL_declare_6 rfl (lv_at hl 3 rfl) ?_
  refine zcVT (As := [vI x1, vI x2, vI x3]) (rest := [vI 0, .ref b]) hC hK hX (thr_X7_declare l D kA a pa n V X PV K x1 x2 x3 hf) zwL_51 (zPtail hP) (q0 := 0) rfl rfl rfl rfl hl.1 rfl (Nat.le_of_ble_eq_true rfl) ⟨(Nat.le_of_ble_eq_true rfl), (Nat.le_of_ble_eq_true rfl)⟩ ⟨rfl, rfl⟩ ⟨(Nat.le_of_ble_eq_true rfl), (Nat.le_of_ble_eq_true rfl)⟩ dL_declare_7 (fun ce q9 H h1 h2 h3 h4 h5 => ?_)
  refine vx_catch (own := RL) (name := zEx 2) (E := zEx 2) (pc := 7) hC.2.2.2.1 [⟨0, 12, 15, 19⟩, ⟨0, 12, 19, 13⟩] ⟨0, 12, 23, 54⟩ [] hT (List.forall_mem_cons.mpr ⟨Or.inr ⟨by decide, zEx 0, hC.2.2.2.2 _ (qin_4 (i := 2) rfl rfl), hN _ (List.mem_of_getElem? (i := 1) rfl)⟩, List.forall_mem_cons.mpr ⟨Or.inr ⟨by decide, zEx 1, hC.2.2.2.2 _ (qin_3 (i := 159) rfl rfl), hN _ (List.mem_of_getElem? (i := 2) rfl)⟩, fun z hz => absurd hz List.not_mem_nil⟩⟩) (by decide) (by decide) (hC.2.2.2.2 _ (qin_4 (i := 155) rfl rfl)) (va_tabs (zBd_tabs (List.mem_of_getElem? (i := 2) rfl)) rfl (hX.2.2.2 _ (List.mem_of_getElem? (i := 2) rfl))) h3 h4 h5 ?_
  refine lv_astore (lv' := [(5, .ref q9), (0, .ref (a 0)), (1, vI x1), (2, vI x2), (3, vI x3), (4, .ref b)]) (x := q9) hC.1 hC.2.1 dL_declare_23 hl (by decide) rfl (fun ls hl => ?_)
  refine ziconst hC.1 hC.2.1 dL_declare_25 ?_
  exact hret (Int32.ofInt 3) _ _ _ rfl h1 h2 dL_declare_26
theorem DL_revoke_0 : ∀ q ∈ ([(0, .aload_n 3, 1), (1, .iconst 0, 1), (2, .aload_n 0, 1), (3, .iload_n 1, 1), (4, .iload_n 2, 1), (5, .invokevirtual 56, 3), (8, .i2l, 1), (9, .lastore, 1), (10, .goto 11, 3), (13, .astore 4, 2), (15, .iconst 1, 1), (16, .ireturn, 1), (17, .astore 4, 2), (19, .iconst 2, 1), (20, .ireturn, 1), (21, .iconst 0, 1), (22, .ireturn, 1)] : List (Nat × Instr × Nat)), decode cL_revoke q.1 = .ok q.2 := by decide +kernel
theorem dL_revoke_0 : decode cL_revoke 0 = .ok (.aload_n 3, 1) := DL_revoke_0 (0, .aload_n 3, 1) (List.mem_of_getElem? (i := 0) rfl)
theorem dL_revoke_1 : decode cL_revoke 1 = .ok (.iconst 0, 1) := DL_revoke_0 (1, .iconst 0, 1) (List.mem_of_getElem? (i := 1) rfl)
theorem dL_revoke_2 : decode cL_revoke 2 = .ok (.aload_n 0, 1) := DL_revoke_0 (2, .aload_n 0, 1) (List.mem_of_getElem? (i := 2) rfl)
theorem dL_revoke_3 : decode cL_revoke 3 = .ok (.iload_n 1, 1) := DL_revoke_0 (3, .iload_n 1, 1) (List.mem_of_getElem? (i := 3) rfl)
theorem dL_revoke_4 : decode cL_revoke 4 = .ok (.iload_n 2, 1) := DL_revoke_0 (4, .iload_n 2, 1) (List.mem_of_getElem? (i := 4) rfl)
theorem dL_revoke_5 : decode cL_revoke 5 = .ok (.invokevirtual 56, 3) := DL_revoke_0 (5, .invokevirtual 56, 3) (List.mem_of_getElem? (i := 5) rfl)
theorem dL_revoke_8 : decode cL_revoke 8 = .ok (.i2l, 1) := DL_revoke_0 (8, .i2l, 1) (List.mem_of_getElem? (i := 6) rfl)
theorem dL_revoke_9 : decode cL_revoke 9 = .ok (.lastore, 1) := DL_revoke_0 (9, .lastore, 1) (List.mem_of_getElem? (i := 7) rfl)
theorem dL_revoke_10 : decode cL_revoke 10 = .ok (.goto 11, 3) := DL_revoke_0 (10, .goto 11, 3) (List.mem_of_getElem? (i := 8) rfl)
theorem dL_revoke_13 : decode cL_revoke 13 = .ok (.astore 4, 2) := DL_revoke_0 (13, .astore 4, 2) (List.mem_of_getElem? (i := 9) rfl)
theorem dL_revoke_15 : decode cL_revoke 15 = .ok (.iconst 1, 1) := DL_revoke_0 (15, .iconst 1, 1) (List.mem_of_getElem? (i := 10) rfl)
theorem dL_revoke_16 : decode cL_revoke 16 = .ok (.ireturn, 1) := DL_revoke_0 (16, .ireturn, 1) (List.mem_of_getElem? (i := 11) rfl)
theorem dL_revoke_17 : decode cL_revoke 17 = .ok (.astore 4, 2) := DL_revoke_0 (17, .astore 4, 2) (List.mem_of_getElem? (i := 12) rfl)
theorem dL_revoke_19 : decode cL_revoke 19 = .ok (.iconst 2, 1) := DL_revoke_0 (19, .iconst 2, 1) (List.mem_of_getElem? (i := 13) rfl)
theorem dL_revoke_20 : decode cL_revoke 20 = .ok (.ireturn, 1) := DL_revoke_0 (20, .ireturn, 1) (List.mem_of_getElem? (i := 14) rfl)
theorem dL_revoke_21 : decode cL_revoke 21 = .ok (.iconst 0, 1) := DL_revoke_0 (21, .iconst 0, 1) (List.mem_of_getElem? (i := 15) rfl)
theorem dL_revoke_22 : decode cL_revoke 22 = .ok (.ireturn, 1) := DL_revoke_0 (22, .ireturn, 1) (List.mem_of_getElem? (i := 16) rfl)
abbrev rmL_revoke : Room := { frames := 6, cells := 24, slots := 2040, locals := 167 }
set_option maxHeartbeats 1000000 in
set_option maxRecDepth 100000 in
theorem wok_revoke (l : Launch) (D : va_G) (kA : Nat → ClassId) (a : Nat → Nat) (pa : Nat → Nat → Nat) (b : Nat) (n : Nat) (V X : Sz) (PV : Nat → Sz) (K : Nat) (T : Nat → Int) (x1 : Int) (x2 : Int) (sz : Nat) (hD0 : va_D (fun _ => True) (zO kA b T :: (cs_X7 kA a V X (zpf pa K) ++ cs_P kA pa PV K))) {r : Int} {Vr : Sz} {PVr : Nat → Sz} {Kr : Nat} (hf : f_X7_revoke n V X PV K x1 x2 = some (.inl (r, Vr, PVr, Kr))) (hr : rng r) : MWH l yL_revoke cL_revoke 5 (some .int) [(0, 10, 13, 19), (0, 10, 17, 13)] rmL_revoke D kA sz [.ref (a 0), vI x1, vI x2, .ref b] (zO kA b T :: (cs_X7 kA a V X (zpf pa K) ++ cs_P kA pa PV K)) (some (vI 0)) 24 2040 (fun w => ∃ pa1 : Nat → Nat → Nat, w = (zO kA b (up T 0 r) :: (cs_X7 kA a Vr X (zpf pa1 Kr) ++ cs_P kA pa1 PVr Kr))) := by
  refine zHW (own := RL) rfl rfl (Nat.le_of_ble_eq_true rfl) ?_
  intro p e s m args below meth c ls Q hC hK hP hsz hl hret
  have hl : lv_has ls 5 [(0, .ref (a 0)), (1, vI x1), (2, vI x2), (3, .ref b)] := hl
  have hS : va_S (zG (zO kA b T :: (cs_X7 kA a V X (zpf pa K) ++ cs_P kA pa PV K)) s.heap.size) s.heap s.heap [] := va_S.rf
  have hA : ∀ q, s.heap.size ≤ q → zG (zO kA b T :: (cs_X7 kA a V X (zpf pa K) ++ cs_P kA pa PV K)) s.heap.size q := fun q h => Or.inr h
  have hF0 : ∀ q, zF (cs_X7 kA a V X (zpf pa K) ++ cs_P kA pa PV K) q → zG (zO kA b T :: (cs_X7 kA a V X (zpf pa K) ++ cs_P kA pa PV K)) s.heap.size q := fun q h => h.elim fun k h => h.elim fun e h => Or.inl ⟨k + 1, e, h⟩
  have hD : va_D (zG (zO kA b T :: (cs_X7 kA a V X (zpf pa K) ++ cs_P kA pa PV K)) s.heap.size) (zO kA b T :: (cs_X7 kA a V X (zpf pa K) ++ cs_P kA pa PV K)) := ⟨hD0.1, fun k q hk => Or.inl ⟨k, q.2, hk⟩⟩
  generalize hAe : zG (zO kA b T :: (cs_X7 kA a V X (zpf pa K) ++ cs_P kA pa PV K)) s.heap.size = A0 at hS hA hF0 hD hret
  refine lv_aload_n hC.1 hC.2.1 dL_revoke_0 rfl (lv_at hl 3 rfl) <| ziconst hC.1 hC.2.1 dL_revoke_1 <| lv_aload_n hC.1 hC.2.1 dL_revoke_2 rfl (lv_at hl 0 rfl) <| ziload_n hC.1 hC.2.1 dL_revoke_3 rfl (lv_at hl 1 rfl) <| ziload_n hC.1 hC.2.1 dL_revoke_4 rfl (lv_at hl 2 rfl) ?_
  refine zcVW (As := [vI x1, vI x2]) (rest := [vI 0, .ref b]) hC hK (met_X7_revoke l D kA a pa n V X PV K x1 x2 s.heap.size (zDtail hD0) hf) zwL_56 hS hF0 hA (zPtail hP) (q0 := 0) rfl rfl rfl rfl hl.1 rfl (Nat.le_of_ble_eq_true rfl) ⟨(Nat.le_of_ble_eq_true rfl), (Nat.le_of_ble_eq_true rfl)⟩ ⟨rfl, rfl⟩ ⟨(Nat.le_of_ble_eq_true rfl), (Nat.le_of_ble_eq_true rfl)⟩ dL_revoke_5 (fun w H locs hw hPw hDw _ hk1 hS => ?_)
  obtain ⟨hP, hD⟩ := zconsW hP hD hPw hDw hk1 (fun q h => h.elim (hF0 q) (hA q))
  obtain ⟨pa1, rfl⟩ := hw
  refine zi2l hC.1 hC.2.1 hr dL_revoke_8 ?_
  refine jlas hC hK hP hD hS (q0 := 0) rfl (Nat.le_of_ble_eq_true rfl) (by decide) rfl dL_revoke_9 (fun H locs hP hS => ?_)
  refine lv_goto (tgt := 21) hC.1 hC.2.1 dL_revoke_10 (by decide) ?_
  refine ziconst hC.1 hC.2.1 dL_revoke_21 ?_
  have hP : va_P D vwCl (zO kA b (up T 0 r) :: (cs_X7 kA a Vr X (zpf pa1 Kr) ++ cs_P kA pa1 PVr Kr)) H := hP
  have hD : va_D A0 (zO kA b (up T 0 r) :: (cs_X7 kA a Vr X (zpf pa1 Kr) ++ cs_P kA pa1 PVr Kr)) := zDany (C := fun t => (zO kA b t :: (cs_X7 kA a Vr X (zpf pa1 Kr) ++ cs_P kA pa1 PVr Kr))) T (fun _ => rfl) hD (up T 0 r)
  exact hret (Int32.ofInt 0) _ _ _ _ _ _ _ (Nat.le_of_ble_eq_true rfl) (Nat.le_of_ble_eq_true rfl) rfl ⟨pa1, rfl⟩ hP hD hS dL_revoke_22
abbrev rxL_revoke : Room := { frames := 8, cells := 1, slots := 6, locals := 167 }
set_option maxHeartbeats 1000000 in
set_option maxRecDepth 100000 in
theorem wth0_revoke (l : Launch) (D : va_G) (kA : Nat → ClassId) (a : Nat → Nat) (pa : Nat → Nat → Nat) (b : Nat) (n : Nat) (V X : Sz) (PV : Nat → Sz) (K : Nat) (T : Nat → Int) (x1 : Int) (x2 : Int) (hf : f_X7_revoke n V X PV K x1 x2 = some (.inr 0)) : MTH l yL_revoke cL_revoke 5 (some .int) [(0, 10, 13, 19), (0, 10, 17, 13)] rxL_revoke D kA [.ref (a 0), vI x1, vI x2, .ref b] (zO kA b T :: (cs_X7 kA a V X (zpf pa K) ++ cs_P kA pa PV K)) (some (vI 1)) := by
  refine zHT (own := RL) rfl rfl (Nat.le_of_ble_eq_true rfl) ?_
  intro p e s m args below meth c ls Q hC hK hP hX hN hT hl hret
  have hl : lv_has ls 5 [(0, .ref (a 0)), (1, vI x1), (2, vI x2), (3, .ref b)] := hl
  refine lv_aload_n hC.1 hC.2.1 dL_revoke_0 rfl (lv_at hl 3 rfl) <| ziconst hC.1 hC.2.1 dL_revoke_1 <| lv_aload_n hC.1 hC.2.1 dL_revoke_2 rfl (lv_at hl 0 rfl) <| ziload_n hC.1 hC.2.1 dL_revoke_3 rfl (lv_at hl 1 rfl) <| ziload_n hC.1 hC.2.1 dL_revoke_4 rfl (lv_at hl 2 rfl) ?_
  refine zcVT (As := [vI x1, vI x2]) (rest := [vI 0, .ref b]) hC hK hX (thr_X7_revoke l D kA a pa n V X PV K x1 x2 hf) zwL_56 (zPtail hP) (q0 := 0) rfl rfl rfl rfl hl.1 rfl (Nat.le_of_ble_eq_true rfl) ⟨(Nat.le_of_ble_eq_true rfl), (Nat.le_of_ble_eq_true rfl)⟩ ⟨rfl, rfl⟩ ⟨(Nat.le_of_ble_eq_true rfl), (Nat.le_of_ble_eq_true rfl)⟩ dL_revoke_5 (fun ce q9 H h1 h2 h3 h4 h5 => ?_)
  refine vx_catch (own := RL) (name := zEx 0) (E := zEx 0) (pc := 5) hC.2.2.2.1 [] ⟨0, 10, 13, 19⟩ [⟨0, 10, 17, 13⟩] hT (fun z hz => absurd hz List.not_mem_nil) (by decide) (by decide) (hC.2.2.2.2 _ (qin_4 (i := 2) rfl rfl)) (va_tabs (zBd_tabs (List.mem_of_getElem? (i := 0) rfl)) rfl (hX.2.2.2 _ (List.mem_of_getElem? (i := 0) rfl))) h3 h4 h5 ?_
  refine lv_astore (lv' := [(4, .ref q9), (0, .ref (a 0)), (1, vI x1), (2, vI x2), (3, .ref b)]) (x := q9) hC.1 hC.2.1 dL_revoke_13 hl (by decide) rfl (fun ls hl => ?_)
  refine ziconst hC.1 hC.2.1 dL_revoke_15 ?_
  exact hret (Int32.ofInt 1) _ _ _ rfl h1 h2 dL_revoke_16
set_option maxHeartbeats 1000000 in
set_option maxRecDepth 100000 in
theorem wth1_revoke (l : Launch) (D : va_G) (kA : Nat → ClassId) (a : Nat → Nat) (pa : Nat → Nat → Nat) (b : Nat) (n : Nat) (V X : Sz) (PV : Nat → Sz) (K : Nat) (T : Nat → Int) (x1 : Int) (x2 : Int) (hf : f_X7_revoke n V X PV K x1 x2 = some (.inr 1)) : MTH l yL_revoke cL_revoke 5 (some .int) [(0, 10, 13, 19), (0, 10, 17, 13)] rxL_revoke D kA [.ref (a 0), vI x1, vI x2, .ref b] (zO kA b T :: (cs_X7 kA a V X (zpf pa K) ++ cs_P kA pa PV K)) (some (vI 2)) := by
  refine zHT (own := RL) rfl rfl (Nat.le_of_ble_eq_true rfl) ?_
  intro p e s m args below meth c ls Q hC hK hP hX hN hT hl hret
  have hl : lv_has ls 5 [(0, .ref (a 0)), (1, vI x1), (2, vI x2), (3, .ref b)] := hl
  refine lv_aload_n hC.1 hC.2.1 dL_revoke_0 rfl (lv_at hl 3 rfl) <| ziconst hC.1 hC.2.1 dL_revoke_1 <| lv_aload_n hC.1 hC.2.1 dL_revoke_2 rfl (lv_at hl 0 rfl) <| ziload_n hC.1 hC.2.1 dL_revoke_3 rfl (lv_at hl 1 rfl) <| ziload_n hC.1 hC.2.1 dL_revoke_4 rfl (lv_at hl 2 rfl) ?_
  refine zcVT (As := [vI x1, vI x2]) (rest := [vI 0, .ref b]) hC hK hX (thr_X7_revoke l D kA a pa n V X PV K x1 x2 hf) zwL_56 (zPtail hP) (q0 := 0) rfl rfl rfl rfl hl.1 rfl (Nat.le_of_ble_eq_true rfl) ⟨(Nat.le_of_ble_eq_true rfl), (Nat.le_of_ble_eq_true rfl)⟩ ⟨rfl, rfl⟩ ⟨(Nat.le_of_ble_eq_true rfl), (Nat.le_of_ble_eq_true rfl)⟩ dL_revoke_5 (fun ce q9 H h1 h2 h3 h4 h5 => ?_)
  refine vx_catch (own := RL) (name := zEx 1) (E := zEx 1) (pc := 5) hC.2.2.2.1 [⟨0, 10, 13, 19⟩] ⟨0, 10, 17, 13⟩ [] hT (List.forall_mem_cons.mpr ⟨Or.inr ⟨by decide, zEx 0, hC.2.2.2.2 _ (qin_4 (i := 2) rfl rfl), hN _ (List.mem_of_getElem? (i := 0) rfl)⟩, fun z hz => absurd hz List.not_mem_nil⟩) (by decide) (by decide) (hC.2.2.2.2 _ (qin_3 (i := 159) rfl rfl)) (va_tabs (zBd_tabs (List.mem_of_getElem? (i := 1) rfl)) rfl (hX.2.2.2 _ (List.mem_of_getElem? (i := 1) rfl))) h3 h4 h5 ?_
  refine lv_astore (lv' := [(4, .ref q9), (0, .ref (a 0)), (1, vI x1), (2, vI x2), (3, .ref b)]) (x := q9) hC.1 hC.2.1 dL_revoke_17 hl (by decide) rfl (fun ls hl => ?_)
  refine ziconst hC.1 hC.2.1 dL_revoke_19 ?_
  exact hret (Int32.ofInt 2) _ _ _ rfl h1 h2 dL_revoke_20
theorem DL_addGift_0 : ∀ q ∈ ([(0, .aload 5, 2), (2, .iconst 0, 1), (3, .aload_n 0, 1), (4, .iload_n 1, 1), (5, .iload_n 2, 1), (6, .iload_n 3, 1), (7, .iload 4, 2), (9, .invokevirtual 59, 3), (12, .i2l, 1), (13, .lastore, 1), (14, .goto 15, 3), (17, .astore 6, 2), (19, .iconst 1, 1), (20, .ireturn, 1), (21, .astore 6, 2), (23, .iconst 2, 1), (24, .ireturn, 1), (25, .astore 6, 2), (27, .iconst 3, 1), (28, .ireturn, 1), (29, .iconst 0, 1), (30, .ireturn, 1)] : List (Nat × Instr × Nat)), decode cL_addGift q.1 = .ok q.2 := by decide +kernel
theorem dL_addGift_0 : decode cL_addGift 0 = .ok (.aload 5, 2) := DL_addGift_0 (0, .aload 5, 2) (List.mem_of_getElem? (i := 0) rfl)
theorem dL_addGift_2 : decode cL_addGift 2 = .ok (.iconst 0, 1) := DL_addGift_0 (2, .iconst 0, 1) (List.mem_of_getElem? (i := 1) rfl)
theorem dL_addGift_3 : decode cL_addGift 3 = .ok (.aload_n 0, 1) := DL_addGift_0 (3, .aload_n 0, 1) (List.mem_of_getElem? (i := 2) rfl)
theorem dL_addGift_4 : decode cL_addGift 4 = .ok (.iload_n 1, 1) := DL_addGift_0 (4, .iload_n 1, 1) (List.mem_of_getElem? (i := 3) rfl)
theorem dL_addGift_5 : decode cL_addGift 5 = .ok (.iload_n 2, 1) := DL_addGift_0 (5, .iload_n 2, 1) (List.mem_of_getElem? (i := 4) rfl)
theorem dL_addGift_6 : decode cL_addGift 6 = .ok (.iload_n 3, 1) := DL_addGift_0 (6, .iload_n 3, 1) (List.mem_of_getElem? (i := 5) rfl)
theorem dL_addGift_7 : decode cL_addGift 7 = .ok (.iload 4, 2) := DL_addGift_0 (7, .iload 4, 2) (List.mem_of_getElem? (i := 6) rfl)
theorem dL_addGift_9 : decode cL_addGift 9 = .ok (.invokevirtual 59, 3) := DL_addGift_0 (9, .invokevirtual 59, 3) (List.mem_of_getElem? (i := 7) rfl)
theorem dL_addGift_12 : decode cL_addGift 12 = .ok (.i2l, 1) := DL_addGift_0 (12, .i2l, 1) (List.mem_of_getElem? (i := 8) rfl)
theorem dL_addGift_13 : decode cL_addGift 13 = .ok (.lastore, 1) := DL_addGift_0 (13, .lastore, 1) (List.mem_of_getElem? (i := 9) rfl)
theorem dL_addGift_14 : decode cL_addGift 14 = .ok (.goto 15, 3) := DL_addGift_0 (14, .goto 15, 3) (List.mem_of_getElem? (i := 10) rfl)
theorem dL_addGift_17 : decode cL_addGift 17 = .ok (.astore 6, 2) := DL_addGift_0 (17, .astore 6, 2) (List.mem_of_getElem? (i := 11) rfl)
theorem dL_addGift_19 : decode cL_addGift 19 = .ok (.iconst 1, 1) := DL_addGift_0 (19, .iconst 1, 1) (List.mem_of_getElem? (i := 12) rfl)
theorem dL_addGift_20 : decode cL_addGift 20 = .ok (.ireturn, 1) := DL_addGift_0 (20, .ireturn, 1) (List.mem_of_getElem? (i := 13) rfl)
theorem dL_addGift_21 : decode cL_addGift 21 = .ok (.astore 6, 2) := DL_addGift_0 (21, .astore 6, 2) (List.mem_of_getElem? (i := 14) rfl)
theorem dL_addGift_23 : decode cL_addGift 23 = .ok (.iconst 2, 1) := DL_addGift_0 (23, .iconst 2, 1) (List.mem_of_getElem? (i := 15) rfl)
theorem dL_addGift_24 : decode cL_addGift 24 = .ok (.ireturn, 1) := DL_addGift_0 (24, .ireturn, 1) (List.mem_of_getElem? (i := 16) rfl)
theorem dL_addGift_25 : decode cL_addGift 25 = .ok (.astore 6, 2) := DL_addGift_0 (25, .astore 6, 2) (List.mem_of_getElem? (i := 17) rfl)
theorem dL_addGift_27 : decode cL_addGift 27 = .ok (.iconst 3, 1) := DL_addGift_0 (27, .iconst 3, 1) (List.mem_of_getElem? (i := 18) rfl)
theorem dL_addGift_28 : decode cL_addGift 28 = .ok (.ireturn, 1) := DL_addGift_0 (28, .ireturn, 1) (List.mem_of_getElem? (i := 19) rfl)
theorem dL_addGift_29 : decode cL_addGift 29 = .ok (.iconst 0, 1) := DL_addGift_0 (29, .iconst 0, 1) (List.mem_of_getElem? (i := 20) rfl)
theorem dL_addGift_30 : decode cL_addGift 30 = .ok (.ireturn, 1) := DL_addGift_0 (30, .ireturn, 1) (List.mem_of_getElem? (i := 21) rfl)
abbrev rmL_addGift : Room := { frames := 6, cells := 24, slots := 2040, locals := 169 }
set_option maxHeartbeats 1000000 in
set_option maxRecDepth 100000 in
theorem wok_addGift (l : Launch) (D : va_G) (kA : Nat → ClassId) (a : Nat → Nat) (pa : Nat → Nat → Nat) (b : Nat) (n : Nat) (V X : Sz) (PV : Nat → Sz) (K : Nat) (T : Nat → Int) (x1 : Int) (x2 : Int) (x3 : Int) (x4 : Int) (sz : Nat) (hD0 : va_D (fun _ => True) (zO kA b T :: (cs_X7 kA a V X (zpf pa K) ++ cs_P kA pa PV K))) {r : Int} {Vr : Sz} {PVr : Nat → Sz} {Kr : Nat} (hf : f_X7_addGift n V X PV K x1 x2 x3 x4 = some (.inl (r, Vr, PVr, Kr))) (hr : rng r) : MWH l yL_addGift cL_addGift 7 (some .int) [(0, 14, 17, 19), (0, 14, 21, 13), (0, 14, 25, 54)] rmL_addGift D kA sz [.ref (a 0), vI x1, vI x2, vI x3, vI x4, .ref b] (zO kA b T :: (cs_X7 kA a V X (zpf pa K) ++ cs_P kA pa PV K)) (some (vI 0)) 24 2040 (fun w => ∃ pa1 : Nat → Nat → Nat, w = (zO kA b (up T 0 r) :: (cs_X7 kA a Vr X (zpf pa1 Kr) ++ cs_P kA pa1 PVr Kr))) := by
  refine zHW (own := RL) rfl rfl (Nat.le_of_ble_eq_true rfl) ?_
  intro p e s m args below meth c ls Q hC hK hP hsz hl hret
  have hl : lv_has ls 7 [(0, .ref (a 0)), (1, vI x1), (2, vI x2), (3, vI x3), (4, vI x4), (5, .ref b)] := hl
  have hS : va_S (zG (zO kA b T :: (cs_X7 kA a V X (zpf pa K) ++ cs_P kA pa PV K)) s.heap.size) s.heap s.heap [] := va_S.rf
  have hA : ∀ q, s.heap.size ≤ q → zG (zO kA b T :: (cs_X7 kA a V X (zpf pa K) ++ cs_P kA pa PV K)) s.heap.size q := fun q h => Or.inr h
  have hF0 : ∀ q, zF (cs_X7 kA a V X (zpf pa K) ++ cs_P kA pa PV K) q → zG (zO kA b T :: (cs_X7 kA a V X (zpf pa K) ++ cs_P kA pa PV K)) s.heap.size q := fun q h => h.elim fun k h => h.elim fun e h => Or.inl ⟨k + 1, e, h⟩
  have hD : va_D (zG (zO kA b T :: (cs_X7 kA a V X (zpf pa K) ++ cs_P kA pa PV K)) s.heap.size) (zO kA b T :: (cs_X7 kA a V X (zpf pa K) ++ cs_P kA pa PV K)) := ⟨hD0.1, fun k q hk => Or.inl ⟨k, q.2, hk⟩⟩
  generalize hAe : zG (zO kA b T :: (cs_X7 kA a V X (zpf pa K) ++ cs_P kA pa PV K)) s.heap.size = A0 at hS hA hF0 hD hret
  refine lv_aload hC.1 hC.2.1 dL_addGift_0 (lv_at hl 5 rfl) <| ziconst hC.1 hC.2.1 dL_addGift_2 <| lv_aload_n hC.1 hC.2.1 dL_addGift_3 rfl (lv_at hl 0 rfl) <| ziload_n hC.1 hC.2.1 dL_addGift_4 rfl (lv_at hl 1 rfl) <| ziload_n hC.1 hC.2.1 dL_addGift_5 rfl (lv_at hl 2 rfl) <| ziload_n hC.1 hC.2.1 dL_addGift_6 rfl (lv_at hl 3 rfl) <| ziload hC.1 hC.2.1 dL_addGift_7 (lv_at hl 4 rfl) ?_
  refine zcVW (As := [vI x1, vI x2, vI x3, vI x4]) (rest := [vI 0, .ref b]) hC hK (met_X7_addGift l D kA a pa n V X PV K x1 x2 x3 x4 s.heap.size (zDtail hD0) hf) zwL_59 hS hF0 hA (zPtail hP) (q0 := 0) rfl rfl rfl rfl hl.1 rfl (Nat.le_of_ble_eq_true rfl) ⟨(Nat.le_of_ble_eq_true rfl), (Nat.le_of_ble_eq_true rfl)⟩ ⟨rfl, rfl⟩ ⟨(Nat.le_of_ble_eq_true rfl), (Nat.le_of_ble_eq_true rfl)⟩ dL_addGift_9 (fun w H locs hw hPw hDw _ hk1 hS => ?_)
  obtain ⟨hP, hD⟩ := zconsW hP hD hPw hDw hk1 (fun q h => h.elim (hF0 q) (hA q))
  obtain ⟨pa1, rfl⟩ := hw
  refine zi2l hC.1 hC.2.1 hr dL_addGift_12 ?_
  refine jlas hC hK hP hD hS (q0 := 0) rfl (Nat.le_of_ble_eq_true rfl) (by decide) rfl dL_addGift_13 (fun H locs hP hS => ?_)
  refine lv_goto (tgt := 29) hC.1 hC.2.1 dL_addGift_14 (by decide) ?_
  refine ziconst hC.1 hC.2.1 dL_addGift_29 ?_
  have hP : va_P D vwCl (zO kA b (up T 0 r) :: (cs_X7 kA a Vr X (zpf pa1 Kr) ++ cs_P kA pa1 PVr Kr)) H := hP
  have hD : va_D A0 (zO kA b (up T 0 r) :: (cs_X7 kA a Vr X (zpf pa1 Kr) ++ cs_P kA pa1 PVr Kr)) := zDany (C := fun t => (zO kA b t :: (cs_X7 kA a Vr X (zpf pa1 Kr) ++ cs_P kA pa1 PVr Kr))) T (fun _ => rfl) hD (up T 0 r)
  exact hret (Int32.ofInt 0) _ _ _ _ _ _ _ (Nat.le_of_ble_eq_true rfl) (Nat.le_of_ble_eq_true rfl) rfl ⟨pa1, rfl⟩ hP hD hS dL_addGift_30
abbrev rxL_addGift : Room := { frames := 8, cells := 1, slots := 6, locals := 169 }
set_option maxHeartbeats 1000000 in
set_option maxRecDepth 100000 in
theorem wth0_addGift (l : Launch) (D : va_G) (kA : Nat → ClassId) (a : Nat → Nat) (pa : Nat → Nat → Nat) (b : Nat) (n : Nat) (V X : Sz) (PV : Nat → Sz) (K : Nat) (T : Nat → Int) (x1 : Int) (x2 : Int) (x3 : Int) (x4 : Int) (hf : f_X7_addGift n V X PV K x1 x2 x3 x4 = some (.inr 0)) : MTH l yL_addGift cL_addGift 7 (some .int) [(0, 14, 17, 19), (0, 14, 21, 13), (0, 14, 25, 54)] rxL_addGift D kA [.ref (a 0), vI x1, vI x2, vI x3, vI x4, .ref b] (zO kA b T :: (cs_X7 kA a V X (zpf pa K) ++ cs_P kA pa PV K)) (some (vI 1)) := by
  refine zHT (own := RL) rfl rfl (Nat.le_of_ble_eq_true rfl) ?_
  intro p e s m args below meth c ls Q hC hK hP hX hN hT hl hret
  have hl : lv_has ls 7 [(0, .ref (a 0)), (1, vI x1), (2, vI x2), (3, vI x3), (4, vI x4), (5, .ref b)] := hl
  refine lv_aload hC.1 hC.2.1 dL_addGift_0 (lv_at hl 5 rfl) <| ziconst hC.1 hC.2.1 dL_addGift_2 <| lv_aload_n hC.1 hC.2.1 dL_addGift_3 rfl (lv_at hl 0 rfl) <| ziload_n hC.1 hC.2.1 dL_addGift_4 rfl (lv_at hl 1 rfl) <| ziload_n hC.1 hC.2.1 dL_addGift_5 rfl (lv_at hl 2 rfl) <| ziload_n hC.1 hC.2.1 dL_addGift_6 rfl (lv_at hl 3 rfl) <| ziload hC.1 hC.2.1 dL_addGift_7 (lv_at hl 4 rfl) ?_
  refine zcVT (As := [vI x1, vI x2, vI x3, vI x4]) (rest := [vI 0, .ref b]) hC hK hX (thr_X7_addGift l D kA a pa n V X PV K x1 x2 x3 x4 hf) zwL_59 (zPtail hP) (q0 := 0) rfl rfl rfl rfl hl.1 rfl (Nat.le_of_ble_eq_true rfl) ⟨(Nat.le_of_ble_eq_true rfl), (Nat.le_of_ble_eq_true rfl)⟩ ⟨rfl, rfl⟩ ⟨(Nat.le_of_ble_eq_true rfl), (Nat.le_of_ble_eq_true rfl)⟩ dL_addGift_9 (fun ce q9 H h1 h2 h3 h4 h5 => ?_)
  refine vx_catch (own := RL) (name := zEx 0) (E := zEx 0) (pc := 9) hC.2.2.2.1 [] ⟨0, 14, 17, 19⟩ [⟨0, 14, 21, 13⟩, ⟨0, 14, 25, 54⟩] hT (fun z hz => absurd hz List.not_mem_nil) (by decide) (by decide) (hC.2.2.2.2 _ (qin_4 (i := 2) rfl rfl)) (va_tabs (zBd_tabs (List.mem_of_getElem? (i := 0) rfl)) rfl (hX.2.2.2 _ (List.mem_of_getElem? (i := 0) rfl))) h3 h4 h5 ?_
  refine lv_astore (lv' := [(6, .ref q9), (0, .ref (a 0)), (1, vI x1), (2, vI x2), (3, vI x3), (4, vI x4), (5, .ref b)]) (x := q9) hC.1 hC.2.1 dL_addGift_17 hl (by decide) rfl (fun ls hl => ?_)
  refine ziconst hC.1 hC.2.1 dL_addGift_19 ?_
  exact hret (Int32.ofInt 1) _ _ _ rfl h1 h2 dL_addGift_20
set_option maxHeartbeats 1000000 in
set_option maxRecDepth 100000 in
theorem wth1_addGift (l : Launch) (D : va_G) (kA : Nat → ClassId) (a : Nat → Nat) (pa : Nat → Nat → Nat) (b : Nat) (n : Nat) (V X : Sz) (PV : Nat → Sz) (K : Nat) (T : Nat → Int) (x1 : Int) (x2 : Int) (x3 : Int) (x4 : Int) (hf : f_X7_addGift n V X PV K x1 x2 x3 x4 = some (.inr 1)) : MTH l yL_addGift cL_addGift 7 (some .int) [(0, 14, 17, 19), (0, 14, 21, 13), (0, 14, 25, 54)] rxL_addGift D kA [.ref (a 0), vI x1, vI x2, vI x3, vI x4, .ref b] (zO kA b T :: (cs_X7 kA a V X (zpf pa K) ++ cs_P kA pa PV K)) (some (vI 2)) := by
  refine zHT (own := RL) rfl rfl (Nat.le_of_ble_eq_true rfl) ?_
  intro p e s m args below meth c ls Q hC hK hP hX hN hT hl hret
  have hl : lv_has ls 7 [(0, .ref (a 0)), (1, vI x1), (2, vI x2), (3, vI x3), (4, vI x4), (5, .ref b)] := hl
  refine lv_aload hC.1 hC.2.1 dL_addGift_0 (lv_at hl 5 rfl) <| ziconst hC.1 hC.2.1 dL_addGift_2 <| lv_aload_n hC.1 hC.2.1 dL_addGift_3 rfl (lv_at hl 0 rfl) <| ziload_n hC.1 hC.2.1 dL_addGift_4 rfl (lv_at hl 1 rfl) <| ziload_n hC.1 hC.2.1 dL_addGift_5 rfl (lv_at hl 2 rfl) <| ziload_n hC.1 hC.2.1 dL_addGift_6 rfl (lv_at hl 3 rfl) <| ziload hC.1 hC.2.1 dL_addGift_7 (lv_at hl 4 rfl) ?_
  refine zcVT (As := [vI x1, vI x2, vI x3, vI x4]) (rest := [vI 0, .ref b]) hC hK hX (thr_X7_addGift l D kA a pa n V X PV K x1 x2 x3 x4 hf) zwL_59 (zPtail hP) (q0 := 0) rfl rfl rfl rfl hl.1 rfl (Nat.le_of_ble_eq_true rfl) ⟨(Nat.le_of_ble_eq_true rfl), (Nat.le_of_ble_eq_true rfl)⟩ ⟨rfl, rfl⟩ ⟨(Nat.le_of_ble_eq_true rfl), (Nat.le_of_ble_eq_true rfl)⟩ dL_addGift_9 (fun ce q9 H h1 h2 h3 h4 h5 => ?_)
  refine vx_catch (own := RL) (name := zEx 1) (E := zEx 1) (pc := 9) hC.2.2.2.1 [⟨0, 14, 17, 19⟩] ⟨0, 14, 21, 13⟩ [⟨0, 14, 25, 54⟩] hT (List.forall_mem_cons.mpr ⟨Or.inr ⟨by decide, zEx 0, hC.2.2.2.2 _ (qin_4 (i := 2) rfl rfl), hN _ (List.mem_of_getElem? (i := 0) rfl)⟩, fun z hz => absurd hz List.not_mem_nil⟩) (by decide) (by decide) (hC.2.2.2.2 _ (qin_3 (i := 159) rfl rfl)) (va_tabs (zBd_tabs (List.mem_of_getElem? (i := 1) rfl)) rfl (hX.2.2.2 _ (List.mem_of_getElem? (i := 1) rfl))) h3 h4 h5 ?_
  refine lv_astore (lv' := [(6, .ref q9), (0, .ref (a 0)), (1, vI x1), (2, vI x2), (3, vI x3), (4, vI x4), (5, .ref b)]) (x := q9) hC.1 hC.2.1 dL_addGift_21 hl (by decide) rfl (fun ls hl => ?_)
  refine ziconst hC.1 hC.2.1 dL_addGift_23 ?_
  exact hret (Int32.ofInt 2) _ _ _ rfl h1 h2 dL_addGift_24
set_option maxHeartbeats 1000000 in
set_option maxRecDepth 100000 in
theorem wth2_addGift (l : Launch) (D : va_G) (kA : Nat → ClassId) (a : Nat → Nat) (pa : Nat → Nat → Nat) (b : Nat) (n : Nat) (V X : Sz) (PV : Nat → Sz) (K : Nat) (T : Nat → Int) (x1 : Int) (x2 : Int) (x3 : Int) (x4 : Int) (hf : f_X7_addGift n V X PV K x1 x2 x3 x4 = some (.inr 2)) : MTH l yL_addGift cL_addGift 7 (some .int) [(0, 14, 17, 19), (0, 14, 21, 13), (0, 14, 25, 54)] rxL_addGift D kA [.ref (a 0), vI x1, vI x2, vI x3, vI x4, .ref b] (zO kA b T :: (cs_X7 kA a V X (zpf pa K) ++ cs_P kA pa PV K)) (some (vI 3)) := by
  refine zHT (own := RL) rfl rfl (Nat.le_of_ble_eq_true rfl) ?_
  intro p e s m args below meth c ls Q hC hK hP hX hN hT hl hret
  have hl : lv_has ls 7 [(0, .ref (a 0)), (1, vI x1), (2, vI x2), (3, vI x3), (4, vI x4), (5, .ref b)] := hl
  refine lv_aload hC.1 hC.2.1 dL_addGift_0 (lv_at hl 5 rfl) <| ziconst hC.1 hC.2.1 dL_addGift_2 <| lv_aload_n hC.1 hC.2.1 dL_addGift_3 rfl (lv_at hl 0 rfl) <| ziload_n hC.1 hC.2.1 dL_addGift_4 rfl (lv_at hl 1 rfl) <| ziload_n hC.1 hC.2.1 dL_addGift_5 rfl (lv_at hl 2 rfl) <| ziload_n hC.1 hC.2.1 dL_addGift_6 rfl (lv_at hl 3 rfl) <| ziload hC.1 hC.2.1 dL_addGift_7 (lv_at hl 4 rfl) ?_
  refine zcVT (As := [vI x1, vI x2, vI x3, vI x4]) (rest := [vI 0, .ref b]) hC hK hX (thr_X7_addGift l D kA a pa n V X PV K x1 x2 x3 x4 hf) zwL_59 (zPtail hP) (q0 := 0) rfl rfl rfl rfl hl.1 rfl (Nat.le_of_ble_eq_true rfl) ⟨(Nat.le_of_ble_eq_true rfl), (Nat.le_of_ble_eq_true rfl)⟩ ⟨rfl, rfl⟩ ⟨(Nat.le_of_ble_eq_true rfl), (Nat.le_of_ble_eq_true rfl)⟩ dL_addGift_9 (fun ce q9 H h1 h2 h3 h4 h5 => ?_)
  refine vx_catch (own := RL) (name := zEx 2) (E := zEx 2) (pc := 9) hC.2.2.2.1 [⟨0, 14, 17, 19⟩, ⟨0, 14, 21, 13⟩] ⟨0, 14, 25, 54⟩ [] hT (List.forall_mem_cons.mpr ⟨Or.inr ⟨by decide, zEx 0, hC.2.2.2.2 _ (qin_4 (i := 2) rfl rfl), hN _ (List.mem_of_getElem? (i := 1) rfl)⟩, List.forall_mem_cons.mpr ⟨Or.inr ⟨by decide, zEx 1, hC.2.2.2.2 _ (qin_3 (i := 159) rfl rfl), hN _ (List.mem_of_getElem? (i := 2) rfl)⟩, fun z hz => absurd hz List.not_mem_nil⟩⟩) (by decide) (by decide) (hC.2.2.2.2 _ (qin_4 (i := 155) rfl rfl)) (va_tabs (zBd_tabs (List.mem_of_getElem? (i := 2) rfl)) rfl (hX.2.2.2 _ (List.mem_of_getElem? (i := 2) rfl))) h3 h4 h5 ?_
  refine lv_astore (lv' := [(6, .ref q9), (0, .ref (a 0)), (1, vI x1), (2, vI x2), (3, vI x3), (4, vI x4), (5, .ref b)]) (x := q9) hC.1 hC.2.1 dL_addGift_25 hl (by decide) rfl (fun ls hl => ?_)
  refine ziconst hC.1 hC.2.1 dL_addGift_27 ?_
  exact hret (Int32.ofInt 3) _ _ _ rfl h1 h2 dL_addGift_28
theorem DL_split_0 : ∀ q ∈ ([(0, .aload 5, 2), (2, .iconst 0, 1), (3, .aload_n 0, 1), (4, .iload_n 1, 1), (5, .iload_n 2, 1), (6, .iload_n 3, 1), (7, .iload 4, 2), (9, .invokevirtual 63, 3), (12, .i2l, 1), (13, .lastore, 1), (14, .goto 15, 3), (17, .astore 6, 2), (19, .iconst 1, 1), (20, .ireturn, 1), (21, .astore 6, 2), (23, .iconst 2, 1), (24, .ireturn, 1), (25, .astore 6, 2), (27, .iconst 3, 1), (28, .ireturn, 1), (29, .iconst 0, 1), (30, .ireturn, 1)] : List (Nat × Instr × Nat)), decode cL_split q.1 = .ok q.2 := by decide +kernel
theorem dL_split_0 : decode cL_split 0 = .ok (.aload 5, 2) := DL_split_0 (0, .aload 5, 2) (List.mem_of_getElem? (i := 0) rfl)
theorem dL_split_2 : decode cL_split 2 = .ok (.iconst 0, 1) := DL_split_0 (2, .iconst 0, 1) (List.mem_of_getElem? (i := 1) rfl)
theorem dL_split_3 : decode cL_split 3 = .ok (.aload_n 0, 1) := DL_split_0 (3, .aload_n 0, 1) (List.mem_of_getElem? (i := 2) rfl)
theorem dL_split_4 : decode cL_split 4 = .ok (.iload_n 1, 1) := DL_split_0 (4, .iload_n 1, 1) (List.mem_of_getElem? (i := 3) rfl)
theorem dL_split_5 : decode cL_split 5 = .ok (.iload_n 2, 1) := DL_split_0 (5, .iload_n 2, 1) (List.mem_of_getElem? (i := 4) rfl)
theorem dL_split_6 : decode cL_split 6 = .ok (.iload_n 3, 1) := DL_split_0 (6, .iload_n 3, 1) (List.mem_of_getElem? (i := 5) rfl)
theorem dL_split_7 : decode cL_split 7 = .ok (.iload 4, 2) := DL_split_0 (7, .iload 4, 2) (List.mem_of_getElem? (i := 6) rfl)
theorem dL_split_9 : decode cL_split 9 = .ok (.invokevirtual 63, 3) := DL_split_0 (9, .invokevirtual 63, 3) (List.mem_of_getElem? (i := 7) rfl)
theorem dL_split_12 : decode cL_split 12 = .ok (.i2l, 1) := DL_split_0 (12, .i2l, 1) (List.mem_of_getElem? (i := 8) rfl)
theorem dL_split_13 : decode cL_split 13 = .ok (.lastore, 1) := DL_split_0 (13, .lastore, 1) (List.mem_of_getElem? (i := 9) rfl)
theorem dL_split_14 : decode cL_split 14 = .ok (.goto 15, 3) := DL_split_0 (14, .goto 15, 3) (List.mem_of_getElem? (i := 10) rfl)
theorem dL_split_17 : decode cL_split 17 = .ok (.astore 6, 2) := DL_split_0 (17, .astore 6, 2) (List.mem_of_getElem? (i := 11) rfl)
theorem dL_split_19 : decode cL_split 19 = .ok (.iconst 1, 1) := DL_split_0 (19, .iconst 1, 1) (List.mem_of_getElem? (i := 12) rfl)
theorem dL_split_20 : decode cL_split 20 = .ok (.ireturn, 1) := DL_split_0 (20, .ireturn, 1) (List.mem_of_getElem? (i := 13) rfl)
theorem dL_split_21 : decode cL_split 21 = .ok (.astore 6, 2) := DL_split_0 (21, .astore 6, 2) (List.mem_of_getElem? (i := 14) rfl)
theorem dL_split_23 : decode cL_split 23 = .ok (.iconst 2, 1) := DL_split_0 (23, .iconst 2, 1) (List.mem_of_getElem? (i := 15) rfl)
theorem dL_split_24 : decode cL_split 24 = .ok (.ireturn, 1) := DL_split_0 (24, .ireturn, 1) (List.mem_of_getElem? (i := 16) rfl)
theorem dL_split_25 : decode cL_split 25 = .ok (.astore 6, 2) := DL_split_0 (25, .astore 6, 2) (List.mem_of_getElem? (i := 17) rfl)
theorem dL_split_27 : decode cL_split 27 = .ok (.iconst 3, 1) := DL_split_0 (27, .iconst 3, 1) (List.mem_of_getElem? (i := 18) rfl)
theorem dL_split_28 : decode cL_split 28 = .ok (.ireturn, 1) := DL_split_0 (28, .ireturn, 1) (List.mem_of_getElem? (i := 19) rfl)
theorem dL_split_29 : decode cL_split 29 = .ok (.iconst 0, 1) := DL_split_0 (29, .iconst 0, 1) (List.mem_of_getElem? (i := 20) rfl)
theorem dL_split_30 : decode cL_split 30 = .ok (.ireturn, 1) := DL_split_0 (30, .ireturn, 1) (List.mem_of_getElem? (i := 21) rfl)
abbrev rmL_split : Room := { frames := 6, cells := 24, slots := 2040, locals := 168 }
set_option maxHeartbeats 1000000 in
set_option maxRecDepth 100000 in
theorem wok_split (l : Launch) (D : va_G) (kA : Nat → ClassId) (a : Nat → Nat) (pa : Nat → Nat → Nat) (b : Nat) (n : Nat) (V X : Sz) (PV : Nat → Sz) (K : Nat) (T : Nat → Int) (x1 : Int) (x2 : Int) (x3 : Int) (x4 : Int) (sz : Nat) (hD0 : va_D (fun _ => True) (zO kA b T :: (cs_X7 kA a V X (zpf pa K) ++ cs_P kA pa PV K))) {r : Int} {Vr : Sz} {PVr : Nat → Sz} {Kr : Nat} (hf : f_X7_split n V X PV K x1 x2 x3 x4 = some (.inl (r, Vr, PVr, Kr))) (hr : rng r) : MWH l yL_split cL_split 7 (some .int) [(0, 14, 17, 19), (0, 14, 21, 13), (0, 14, 25, 54)] rmL_split D kA sz [.ref (a 0), vI x1, vI x2, vI x3, vI x4, .ref b] (zO kA b T :: (cs_X7 kA a V X (zpf pa K) ++ cs_P kA pa PV K)) (some (vI 0)) 24 2040 (fun w => ∃ pa1 : Nat → Nat → Nat, w = (zO kA b (up T 0 r) :: (cs_X7 kA a Vr X (zpf pa1 Kr) ++ cs_P kA pa1 PVr Kr))) := by
  refine zHW (own := RL) rfl rfl (Nat.le_of_ble_eq_true rfl) ?_
  intro p e s m args below meth c ls Q hC hK hP hsz hl hret
  have hl : lv_has ls 7 [(0, .ref (a 0)), (1, vI x1), (2, vI x2), (3, vI x3), (4, vI x4), (5, .ref b)] := hl
  have hS : va_S (zG (zO kA b T :: (cs_X7 kA a V X (zpf pa K) ++ cs_P kA pa PV K)) s.heap.size) s.heap s.heap [] := va_S.rf
  have hA : ∀ q, s.heap.size ≤ q → zG (zO kA b T :: (cs_X7 kA a V X (zpf pa K) ++ cs_P kA pa PV K)) s.heap.size q := fun q h => Or.inr h
  have hF0 : ∀ q, zF (cs_X7 kA a V X (zpf pa K) ++ cs_P kA pa PV K) q → zG (zO kA b T :: (cs_X7 kA a V X (zpf pa K) ++ cs_P kA pa PV K)) s.heap.size q := fun q h => h.elim fun k h => h.elim fun e h => Or.inl ⟨k + 1, e, h⟩
  have hD : va_D (zG (zO kA b T :: (cs_X7 kA a V X (zpf pa K) ++ cs_P kA pa PV K)) s.heap.size) (zO kA b T :: (cs_X7 kA a V X (zpf pa K) ++ cs_P kA pa PV K)) := ⟨hD0.1, fun k q hk => Or.inl ⟨k, q.2, hk⟩⟩
  generalize hAe : zG (zO kA b T :: (cs_X7 kA a V X (zpf pa K) ++ cs_P kA pa PV K)) s.heap.size = A0 at hS hA hF0 hD hret
  refine lv_aload hC.1 hC.2.1 dL_split_0 (lv_at hl 5 rfl) <| ziconst hC.1 hC.2.1 dL_split_2 <| lv_aload_n hC.1 hC.2.1 dL_split_3 rfl (lv_at hl 0 rfl) <| ziload_n hC.1 hC.2.1 dL_split_4 rfl (lv_at hl 1 rfl) <| ziload_n hC.1 hC.2.1 dL_split_5 rfl (lv_at hl 2 rfl) <| ziload_n hC.1 hC.2.1 dL_split_6 rfl (lv_at hl 3 rfl) <| ziload hC.1 hC.2.1 dL_split_7 (lv_at hl 4 rfl) ?_
  refine zcVW (As := [vI x1, vI x2, vI x3, vI x4]) (rest := [vI 0, .ref b]) hC hK (met_X7_split l D kA a pa n V X PV K x1 x2 x3 x4 s.heap.size (zDtail hD0) hf) zwL_63 hS hF0 hA (zPtail hP) (q0 := 0) rfl rfl rfl rfl hl.1 rfl (Nat.le_of_ble_eq_true rfl) ⟨(Nat.le_of_ble_eq_true rfl), (Nat.le_of_ble_eq_true rfl)⟩ ⟨rfl, rfl⟩ ⟨(Nat.le_of_ble_eq_true rfl), (Nat.le_of_ble_eq_true rfl)⟩ dL_split_9 (fun w H locs hw hPw hDw _ hk1 hS => ?_)
  obtain ⟨hP, hD⟩ := zconsW hP hD hPw hDw hk1 (fun q h => h.elim (hF0 q) (hA q))
  obtain ⟨pa1, rfl⟩ := hw
  refine zi2l hC.1 hC.2.1 hr dL_split_12 ?_
  refine jlas hC hK hP hD hS (q0 := 0) rfl (Nat.le_of_ble_eq_true rfl) (by decide) rfl dL_split_13 (fun H locs hP hS => ?_)
  refine lv_goto (tgt := 29) hC.1 hC.2.1 dL_split_14 (by decide) ?_
  refine ziconst hC.1 hC.2.1 dL_split_29 ?_
  have hP : va_P D vwCl (zO kA b (up T 0 r) :: (cs_X7 kA a Vr X (zpf pa1 Kr) ++ cs_P kA pa1 PVr Kr)) H := hP
  have hD : va_D A0 (zO kA b (up T 0 r) :: (cs_X7 kA a Vr X (zpf pa1 Kr) ++ cs_P kA pa1 PVr Kr)) := zDany (C := fun t => (zO kA b t :: (cs_X7 kA a Vr X (zpf pa1 Kr) ++ cs_P kA pa1 PVr Kr))) T (fun _ => rfl) hD (up T 0 r)
  exact hret (Int32.ofInt 0) _ _ _ _ _ _ _ (Nat.le_of_ble_eq_true rfl) (Nat.le_of_ble_eq_true rfl) rfl ⟨pa1, rfl⟩ hP hD hS dL_split_30
abbrev rxL_split : Room := { frames := 8, cells := 1, slots := 6, locals := 168 }
set_option maxHeartbeats 1000000 in
set_option maxRecDepth 100000 in
theorem wth0_split (l : Launch) (D : va_G) (kA : Nat → ClassId) (a : Nat → Nat) (pa : Nat → Nat → Nat) (b : Nat) (n : Nat) (V X : Sz) (PV : Nat → Sz) (K : Nat) (T : Nat → Int) (x1 : Int) (x2 : Int) (x3 : Int) (x4 : Int) (hf : f_X7_split n V X PV K x1 x2 x3 x4 = some (.inr 0)) : MTH l yL_split cL_split 7 (some .int) [(0, 14, 17, 19), (0, 14, 21, 13), (0, 14, 25, 54)] rxL_split D kA [.ref (a 0), vI x1, vI x2, vI x3, vI x4, .ref b] (zO kA b T :: (cs_X7 kA a V X (zpf pa K) ++ cs_P kA pa PV K)) (some (vI 1)) := by
  refine zHT (own := RL) rfl rfl (Nat.le_of_ble_eq_true rfl) ?_
  intro p e s m args below meth c ls Q hC hK hP hX hN hT hl hret
  have hl : lv_has ls 7 [(0, .ref (a 0)), (1, vI x1), (2, vI x2), (3, vI x3), (4, vI x4), (5, .ref b)] := hl
  refine lv_aload hC.1 hC.2.1 dL_split_0 (lv_at hl 5 rfl) <| ziconst hC.1 hC.2.1 dL_split_2 <| lv_aload_n hC.1 hC.2.1 dL_split_3 rfl (lv_at hl 0 rfl) <| ziload_n hC.1 hC.2.1 dL_split_4 rfl (lv_at hl 1 rfl) <| ziload_n hC.1 hC.2.1 dL_split_5 rfl (lv_at hl 2 rfl) <| ziload_n hC.1 hC.2.1 dL_split_6 rfl (lv_at hl 3 rfl) <| ziload hC.1 hC.2.1 dL_split_7 (lv_at hl 4 rfl) ?_
  refine zcVT (As := [vI x1, vI x2, vI x3, vI x4]) (rest := [vI 0, .ref b]) hC hK hX (thr_X7_split l D kA a pa n V X PV K x1 x2 x3 x4 hf) zwL_63 (zPtail hP) (q0 := 0) rfl rfl rfl rfl hl.1 rfl (Nat.le_of_ble_eq_true rfl) ⟨(Nat.le_of_ble_eq_true rfl), (Nat.le_of_ble_eq_true rfl)⟩ ⟨rfl, rfl⟩ ⟨(Nat.le_of_ble_eq_true rfl), (Nat.le_of_ble_eq_true rfl)⟩ dL_split_9 (fun ce q9 H h1 h2 h3 h4 h5 => ?_)
  refine vx_catch (own := RL) (name := zEx 0) (E := zEx 0) (pc := 9) hC.2.2.2.1 [] ⟨0, 14, 17, 19⟩ [⟨0, 14, 21, 13⟩, ⟨0, 14, 25, 54⟩] hT (fun z hz => absurd hz List.not_mem_nil) (by decide) (by decide) (hC.2.2.2.2 _ (qin_4 (i := 2) rfl rfl)) (va_tabs (zBd_tabs (List.mem_of_getElem? (i := 0) rfl)) rfl (hX.2.2.2 _ (List.mem_of_getElem? (i := 0) rfl))) h3 h4 h5 ?_
  refine lv_astore (lv' := [(6, .ref q9), (0, .ref (a 0)), (1, vI x1), (2, vI x2), (3, vI x3), (4, vI x4), (5, .ref b)]) (x := q9) hC.1 hC.2.1 dL_split_17 hl (by decide) rfl (fun ls hl => ?_)
  refine ziconst hC.1 hC.2.1 dL_split_19 ?_
  exact hret (Int32.ofInt 1) _ _ _ rfl h1 h2 dL_split_20
set_option maxHeartbeats 1000000 in
set_option maxRecDepth 100000 in
theorem wth1_split (l : Launch) (D : va_G) (kA : Nat → ClassId) (a : Nat → Nat) (pa : Nat → Nat → Nat) (b : Nat) (n : Nat) (V X : Sz) (PV : Nat → Sz) (K : Nat) (T : Nat → Int) (x1 : Int) (x2 : Int) (x3 : Int) (x4 : Int) (hf : f_X7_split n V X PV K x1 x2 x3 x4 = some (.inr 1)) : MTH l yL_split cL_split 7 (some .int) [(0, 14, 17, 19), (0, 14, 21, 13), (0, 14, 25, 54)] rxL_split D kA [.ref (a 0), vI x1, vI x2, vI x3, vI x4, .ref b] (zO kA b T :: (cs_X7 kA a V X (zpf pa K) ++ cs_P kA pa PV K)) (some (vI 2)) := by
  refine zHT (own := RL) rfl rfl (Nat.le_of_ble_eq_true rfl) ?_
  intro p e s m args below meth c ls Q hC hK hP hX hN hT hl hret
  have hl : lv_has ls 7 [(0, .ref (a 0)), (1, vI x1), (2, vI x2), (3, vI x3), (4, vI x4), (5, .ref b)] := hl
  refine lv_aload hC.1 hC.2.1 dL_split_0 (lv_at hl 5 rfl) <| ziconst hC.1 hC.2.1 dL_split_2 <| lv_aload_n hC.1 hC.2.1 dL_split_3 rfl (lv_at hl 0 rfl) <| ziload_n hC.1 hC.2.1 dL_split_4 rfl (lv_at hl 1 rfl) <| ziload_n hC.1 hC.2.1 dL_split_5 rfl (lv_at hl 2 rfl) <| ziload_n hC.1 hC.2.1 dL_split_6 rfl (lv_at hl 3 rfl) <| ziload hC.1 hC.2.1 dL_split_7 (lv_at hl 4 rfl) ?_
  refine zcVT (As := [vI x1, vI x2, vI x3, vI x4]) (rest := [vI 0, .ref b]) hC hK hX (thr_X7_split l D kA a pa n V X PV K x1 x2 x3 x4 hf) zwL_63 (zPtail hP) (q0 := 0) rfl rfl rfl rfl hl.1 rfl (Nat.le_of_ble_eq_true rfl) ⟨(Nat.le_of_ble_eq_true rfl), (Nat.le_of_ble_eq_true rfl)⟩ ⟨rfl, rfl⟩ ⟨(Nat.le_of_ble_eq_true rfl), (Nat.le_of_ble_eq_true rfl)⟩ dL_split_9 (fun ce q9 H h1 h2 h3 h4 h5 => ?_)
  refine vx_catch (own := RL) (name := zEx 1) (E := zEx 1) (pc := 9) hC.2.2.2.1 [⟨0, 14, 17, 19⟩] ⟨0, 14, 21, 13⟩ [⟨0, 14, 25, 54⟩] hT (List.forall_mem_cons.mpr ⟨Or.inr ⟨by decide, zEx 0, hC.2.2.2.2 _ (qin_4 (i := 2) rfl rfl), hN _ (List.mem_of_getElem? (i := 0) rfl)⟩, fun z hz => absurd hz List.not_mem_nil⟩) (by decide) (by decide) (hC.2.2.2.2 _ (qin_3 (i := 159) rfl rfl)) (va_tabs (zBd_tabs (List.mem_of_getElem? (i := 1) rfl)) rfl (hX.2.2.2 _ (List.mem_of_getElem? (i := 1) rfl))) h3 h4 h5 ?_
  refine lv_astore (lv' := [(6, .ref q9), (0, .ref (a 0)), (1, vI x1), (2, vI x2), (3, vI x3), (4, vI x4), (5, .ref b)]) (x := q9) hC.1 hC.2.1 dL_split_21 hl (by decide) rfl (fun ls hl => ?_)
  refine ziconst hC.1 hC.2.1 dL_split_23 ?_
  exact hret (Int32.ofInt 2) _ _ _ rfl h1 h2 dL_split_24
set_option maxHeartbeats 1000000 in
set_option maxRecDepth 100000 in
theorem wth2_split (l : Launch) (D : va_G) (kA : Nat → ClassId) (a : Nat → Nat) (pa : Nat → Nat → Nat) (b : Nat) (n : Nat) (V X : Sz) (PV : Nat → Sz) (K : Nat) (T : Nat → Int) (x1 : Int) (x2 : Int) (x3 : Int) (x4 : Int) (hf : f_X7_split n V X PV K x1 x2 x3 x4 = some (.inr 2)) : MTH l yL_split cL_split 7 (some .int) [(0, 14, 17, 19), (0, 14, 21, 13), (0, 14, 25, 54)] rxL_split D kA [.ref (a 0), vI x1, vI x2, vI x3, vI x4, .ref b] (zO kA b T :: (cs_X7 kA a V X (zpf pa K) ++ cs_P kA pa PV K)) (some (vI 3)) := by
  refine zHT (own := RL) rfl rfl (Nat.le_of_ble_eq_true rfl) ?_
  intro p e s m args below meth c ls Q hC hK hP hX hN hT hl hret
  have hl : lv_has ls 7 [(0, .ref (a 0)), (1, vI x1), (2, vI x2), (3, vI x3), (4, vI x4), (5, .ref b)] := hl
  refine lv_aload hC.1 hC.2.1 dL_split_0 (lv_at hl 5 rfl) <| ziconst hC.1 hC.2.1 dL_split_2 <| lv_aload_n hC.1 hC.2.1 dL_split_3 rfl (lv_at hl 0 rfl) <| ziload_n hC.1 hC.2.1 dL_split_4 rfl (lv_at hl 1 rfl) <| ziload_n hC.1 hC.2.1 dL_split_5 rfl (lv_at hl 2 rfl) <| ziload_n hC.1 hC.2.1 dL_split_6 rfl (lv_at hl 3 rfl) <| ziload hC.1 hC.2.1 dL_split_7 (lv_at hl 4 rfl) ?_
  refine zcVT (As := [vI x1, vI x2, vI x3, vI x4]) (rest := [vI 0, .ref b]) hC hK hX (thr_X7_split l D kA a pa n V X PV K x1 x2 x3 x4 hf) zwL_63 (zPtail hP) (q0 := 0) rfl rfl rfl rfl hl.1 rfl (Nat.le_of_ble_eq_true rfl) ⟨(Nat.le_of_ble_eq_true rfl), (Nat.le_of_ble_eq_true rfl)⟩ ⟨rfl, rfl⟩ ⟨(Nat.le_of_ble_eq_true rfl), (Nat.le_of_ble_eq_true rfl)⟩ dL_split_9 (fun ce q9 H h1 h2 h3 h4 h5 => ?_)
  refine vx_catch (own := RL) (name := zEx 2) (E := zEx 2) (pc := 9) hC.2.2.2.1 [⟨0, 14, 17, 19⟩, ⟨0, 14, 21, 13⟩] ⟨0, 14, 25, 54⟩ [] hT (List.forall_mem_cons.mpr ⟨Or.inr ⟨by decide, zEx 0, hC.2.2.2.2 _ (qin_4 (i := 2) rfl rfl), hN _ (List.mem_of_getElem? (i := 1) rfl)⟩, List.forall_mem_cons.mpr ⟨Or.inr ⟨by decide, zEx 1, hC.2.2.2.2 _ (qin_3 (i := 159) rfl rfl), hN _ (List.mem_of_getElem? (i := 2) rfl)⟩, fun z hz => absurd hz List.not_mem_nil⟩⟩) (by decide) (by decide) (hC.2.2.2.2 _ (qin_4 (i := 155) rfl rfl)) (va_tabs (zBd_tabs (List.mem_of_getElem? (i := 2) rfl)) rfl (hX.2.2.2 _ (List.mem_of_getElem? (i := 2) rfl))) h3 h4 h5 ?_
  refine lv_astore (lv' := [(6, .ref q9), (0, .ref (a 0)), (1, vI x1), (2, vI x2), (3, vI x3), (4, vI x4), (5, .ref b)]) (x := q9) hC.1 hC.2.1 dL_split_25 hl (by decide) rfl (fun ls hl => ?_)
  refine ziconst hC.1 hC.2.1 dL_split_27 ?_
  exact hret (Int32.ofInt 3) _ _ _ rfl h1 h2 dL_split_28
theorem DL_refund_0 : ∀ q ∈ ([(0, .aload_n 3, 1), (1, .iconst 0, 1), (2, .aload_n 0, 1), (3, .iload_n 1, 1), (4, .iload_n 2, 1), (5, .invokevirtual 66, 3), (8, .i2l, 1), (9, .lastore, 1), (10, .goto 15, 3), (13, .astore 4, 2), (15, .iconst 1, 1), (16, .ireturn, 1), (17, .astore 4, 2), (19, .iconst 2, 1), (20, .ireturn, 1), (21, .astore 4, 2), (23, .iconst 3, 1), (24, .ireturn, 1), (25, .iconst 0, 1), (26, .ireturn, 1)] : List (Nat × Instr × Nat)), decode cL_refund q.1 = .ok q.2 := by decide +kernel
theorem dL_refund_0 : decode cL_refund 0 = .ok (.aload_n 3, 1) := DL_refund_0 (0, .aload_n 3, 1) (List.mem_of_getElem? (i := 0) rfl)
theorem dL_refund_1 : decode cL_refund 1 = .ok (.iconst 0, 1) := DL_refund_0 (1, .iconst 0, 1) (List.mem_of_getElem? (i := 1) rfl)
theorem dL_refund_2 : decode cL_refund 2 = .ok (.aload_n 0, 1) := DL_refund_0 (2, .aload_n 0, 1) (List.mem_of_getElem? (i := 2) rfl)
theorem dL_refund_3 : decode cL_refund 3 = .ok (.iload_n 1, 1) := DL_refund_0 (3, .iload_n 1, 1) (List.mem_of_getElem? (i := 3) rfl)
theorem dL_refund_4 : decode cL_refund 4 = .ok (.iload_n 2, 1) := DL_refund_0 (4, .iload_n 2, 1) (List.mem_of_getElem? (i := 4) rfl)
theorem dL_refund_5 : decode cL_refund 5 = .ok (.invokevirtual 66, 3) := DL_refund_0 (5, .invokevirtual 66, 3) (List.mem_of_getElem? (i := 5) rfl)
theorem dL_refund_8 : decode cL_refund 8 = .ok (.i2l, 1) := DL_refund_0 (8, .i2l, 1) (List.mem_of_getElem? (i := 6) rfl)
theorem dL_refund_9 : decode cL_refund 9 = .ok (.lastore, 1) := DL_refund_0 (9, .lastore, 1) (List.mem_of_getElem? (i := 7) rfl)
theorem dL_refund_10 : decode cL_refund 10 = .ok (.goto 15, 3) := DL_refund_0 (10, .goto 15, 3) (List.mem_of_getElem? (i := 8) rfl)
theorem dL_refund_13 : decode cL_refund 13 = .ok (.astore 4, 2) := DL_refund_0 (13, .astore 4, 2) (List.mem_of_getElem? (i := 9) rfl)
theorem dL_refund_15 : decode cL_refund 15 = .ok (.iconst 1, 1) := DL_refund_0 (15, .iconst 1, 1) (List.mem_of_getElem? (i := 10) rfl)
theorem dL_refund_16 : decode cL_refund 16 = .ok (.ireturn, 1) := DL_refund_0 (16, .ireturn, 1) (List.mem_of_getElem? (i := 11) rfl)
theorem dL_refund_17 : decode cL_refund 17 = .ok (.astore 4, 2) := DL_refund_0 (17, .astore 4, 2) (List.mem_of_getElem? (i := 12) rfl)
theorem dL_refund_19 : decode cL_refund 19 = .ok (.iconst 2, 1) := DL_refund_0 (19, .iconst 2, 1) (List.mem_of_getElem? (i := 13) rfl)
theorem dL_refund_20 : decode cL_refund 20 = .ok (.ireturn, 1) := DL_refund_0 (20, .ireturn, 1) (List.mem_of_getElem? (i := 14) rfl)
theorem dL_refund_21 : decode cL_refund 21 = .ok (.astore 4, 2) := DL_refund_0 (21, .astore 4, 2) (List.mem_of_getElem? (i := 15) rfl)
theorem dL_refund_23 : decode cL_refund 23 = .ok (.iconst 3, 1) := DL_refund_0 (23, .iconst 3, 1) (List.mem_of_getElem? (i := 16) rfl)
theorem dL_refund_24 : decode cL_refund 24 = .ok (.ireturn, 1) := DL_refund_0 (24, .ireturn, 1) (List.mem_of_getElem? (i := 17) rfl)
theorem dL_refund_25 : decode cL_refund 25 = .ok (.iconst 0, 1) := DL_refund_0 (25, .iconst 0, 1) (List.mem_of_getElem? (i := 18) rfl)
theorem dL_refund_26 : decode cL_refund 26 = .ok (.ireturn, 1) := DL_refund_0 (26, .ireturn, 1) (List.mem_of_getElem? (i := 19) rfl)
abbrev rmL_refund : Room := { frames := 6, cells := 24, slots := 2040, locals := 166 }
set_option maxHeartbeats 1000000 in
set_option maxRecDepth 100000 in
theorem wok_refund (l : Launch) (D : va_G) (kA : Nat → ClassId) (a : Nat → Nat) (pa : Nat → Nat → Nat) (b : Nat) (n : Nat) (V X : Sz) (PV : Nat → Sz) (K : Nat) (T : Nat → Int) (x1 : Int) (x2 : Int) (sz : Nat) (hD0 : va_D (fun _ => True) (zO kA b T :: (cs_X7 kA a V X (zpf pa K) ++ cs_P kA pa PV K))) {r : Int} {Vr : Sz} {PVr : Nat → Sz} {Kr : Nat} (hf : f_X7_refund n V X PV K x1 x2 = some (.inl (r, Vr, PVr, Kr))) (hr : rng r) : MWH l yL_refund cL_refund 5 (some .int) [(0, 10, 13, 19), (0, 10, 17, 13), (0, 10, 21, 54)] rmL_refund D kA sz [.ref (a 0), vI x1, vI x2, .ref b] (zO kA b T :: (cs_X7 kA a V X (zpf pa K) ++ cs_P kA pa PV K)) (some (vI 0)) 24 2040 (fun w => ∃ pa1 : Nat → Nat → Nat, w = (zO kA b (up T 0 r) :: (cs_X7 kA a Vr X (zpf pa1 Kr) ++ cs_P kA pa1 PVr Kr))) := by
  refine zHW (own := RL) rfl rfl (Nat.le_of_ble_eq_true rfl) ?_
  intro p e s m args below meth c ls Q hC hK hP hsz hl hret
  have hl : lv_has ls 5 [(0, .ref (a 0)), (1, vI x1), (2, vI x2), (3, .ref b)] := hl
  have hS : va_S (zG (zO kA b T :: (cs_X7 kA a V X (zpf pa K) ++ cs_P kA pa PV K)) s.heap.size) s.heap s.heap [] := va_S.rf
  have hA : ∀ q, s.heap.size ≤ q → zG (zO kA b T :: (cs_X7 kA a V X (zpf pa K) ++ cs_P kA pa PV K)) s.heap.size q := fun q h => Or.inr h
  have hF0 : ∀ q, zF (cs_X7 kA a V X (zpf pa K) ++ cs_P kA pa PV K) q → zG (zO kA b T :: (cs_X7 kA a V X (zpf pa K) ++ cs_P kA pa PV K)) s.heap.size q := fun q h => h.elim fun k h => h.elim fun e h => Or.inl ⟨k + 1, e, h⟩
  have hD : va_D (zG (zO kA b T :: (cs_X7 kA a V X (zpf pa K) ++ cs_P kA pa PV K)) s.heap.size) (zO kA b T :: (cs_X7 kA a V X (zpf pa K) ++ cs_P kA pa PV K)) := ⟨hD0.1, fun k q hk => Or.inl ⟨k, q.2, hk⟩⟩
  generalize hAe : zG (zO kA b T :: (cs_X7 kA a V X (zpf pa K) ++ cs_P kA pa PV K)) s.heap.size = A0 at hS hA hF0 hD hret
  refine lv_aload_n hC.1 hC.2.1 dL_refund_0 rfl (lv_at hl 3 rfl) <| ziconst hC.1 hC.2.1 dL_refund_1 <| lv_aload_n hC.1 hC.2.1 dL_refund_2 rfl (lv_at hl 0 rfl) <| ziload_n hC.1 hC.2.1 dL_refund_3 rfl (lv_at hl 1 rfl) <| ziload_n hC.1 hC.2.1 dL_refund_4 rfl (lv_at hl 2 rfl) ?_
  refine zcVW (As := [vI x1, vI x2]) (rest := [vI 0, .ref b]) hC hK (met_X7_refund l D kA a pa n V X PV K x1 x2 s.heap.size (zDtail hD0) hf) zwL_66 hS hF0 hA (zPtail hP) (q0 := 0) rfl rfl rfl rfl hl.1 rfl (Nat.le_of_ble_eq_true rfl) ⟨(Nat.le_of_ble_eq_true rfl), (Nat.le_of_ble_eq_true rfl)⟩ ⟨rfl, rfl⟩ ⟨(Nat.le_of_ble_eq_true rfl), (Nat.le_of_ble_eq_true rfl)⟩ dL_refund_5 (fun w H locs hw hPw hDw _ hk1 hS => ?_)
  obtain ⟨hP, hD⟩ := zconsW hP hD hPw hDw hk1 (fun q h => h.elim (hF0 q) (hA q))
  obtain ⟨pa1, rfl⟩ := hw
  refine zi2l hC.1 hC.2.1 hr dL_refund_8 ?_
  refine jlas hC hK hP hD hS (q0 := 0) rfl (Nat.le_of_ble_eq_true rfl) (by decide) rfl dL_refund_9 (fun H locs hP hS => ?_)
  refine lv_goto (tgt := 25) hC.1 hC.2.1 dL_refund_10 (by decide) ?_
  refine ziconst hC.1 hC.2.1 dL_refund_25 ?_
  have hP : va_P D vwCl (zO kA b (up T 0 r) :: (cs_X7 kA a Vr X (zpf pa1 Kr) ++ cs_P kA pa1 PVr Kr)) H := hP
  have hD : va_D A0 (zO kA b (up T 0 r) :: (cs_X7 kA a Vr X (zpf pa1 Kr) ++ cs_P kA pa1 PVr Kr)) := zDany (C := fun t => (zO kA b t :: (cs_X7 kA a Vr X (zpf pa1 Kr) ++ cs_P kA pa1 PVr Kr))) T (fun _ => rfl) hD (up T 0 r)
  exact hret (Int32.ofInt 0) _ _ _ _ _ _ _ (Nat.le_of_ble_eq_true rfl) (Nat.le_of_ble_eq_true rfl) rfl ⟨pa1, rfl⟩ hP hD hS dL_refund_26
abbrev rxL_refund : Room := { frames := 8, cells := 1, slots := 6, locals := 166 }
set_option maxHeartbeats 1000000 in
set_option maxRecDepth 100000 in
theorem wth0_refund (l : Launch) (D : va_G) (kA : Nat → ClassId) (a : Nat → Nat) (pa : Nat → Nat → Nat) (b : Nat) (n : Nat) (V X : Sz) (PV : Nat → Sz) (K : Nat) (T : Nat → Int) (x1 : Int) (x2 : Int) (hf : f_X7_refund n V X PV K x1 x2 = some (.inr 0)) : MTH l yL_refund cL_refund 5 (some .int) [(0, 10, 13, 19), (0, 10, 17, 13), (0, 10, 21, 54)] rxL_refund D kA [.ref (a 0), vI x1, vI x2, .ref b] (zO kA b T :: (cs_X7 kA a V X (zpf pa K) ++ cs_P kA pa PV K)) (some (vI 1)) := by
  refine zHT (own := RL) rfl rfl (Nat.le_of_ble_eq_true rfl) ?_
  intro p e s m args below meth c ls Q hC hK hP hX hN hT hl hret
  have hl : lv_has ls 5 [(0, .ref (a 0)), (1, vI x1), (2, vI x2), (3, .ref b)] := hl
  refine lv_aload_n hC.1 hC.2.1 dL_refund_0 rfl (lv_at hl 3 rfl) <| ziconst hC.1 hC.2.1 dL_refund_1 <| lv_aload_n hC.1 hC.2.1 dL_refund_2 rfl (lv_at hl 0 rfl) <| ziload_n hC.1 hC.2.1 dL_refund_3 rfl (lv_at hl 1 rfl) <| ziload_n hC.1 hC.2.1 dL_refund_4 rfl (lv_at hl 2 rfl) ?_
  refine zcVT (As := [vI x1, vI x2]) (rest := [vI 0, .ref b]) hC hK hX (thr_X7_refund l D kA a pa n V X PV K x1 x2 hf) zwL_66 (zPtail hP) (q0 := 0) rfl rfl rfl rfl hl.1 rfl (Nat.le_of_ble_eq_true rfl) ⟨(Nat.le_of_ble_eq_true rfl), (Nat.le_of_ble_eq_true rfl)⟩ ⟨rfl, rfl⟩ ⟨(Nat.le_of_ble_eq_true rfl), (Nat.le_of_ble_eq_true rfl)⟩ dL_refund_5 (fun ce q9 H h1 h2 h3 h4 h5 => ?_)
  refine vx_catch (own := RL) (name := zEx 0) (E := zEx 0) (pc := 5) hC.2.2.2.1 [] ⟨0, 10, 13, 19⟩ [⟨0, 10, 17, 13⟩, ⟨0, 10, 21, 54⟩] hT (fun z hz => absurd hz List.not_mem_nil) (by decide) (by decide) (hC.2.2.2.2 _ (qin_4 (i := 2) rfl rfl)) (va_tabs (zBd_tabs (List.mem_of_getElem? (i := 0) rfl)) rfl (hX.2.2.2 _ (List.mem_of_getElem? (i := 0) rfl))) h3 h4 h5 ?_
  refine lv_astore (lv' := [(4, .ref q9), (0, .ref (a 0)), (1, vI x1), (2, vI x2), (3, .ref b)]) (x := q9) hC.1 hC.2.1 dL_refund_13 hl (by decide) rfl (fun ls hl => ?_)
  refine ziconst hC.1 hC.2.1 dL_refund_15 ?_
  exact hret (Int32.ofInt 1) _ _ _ rfl h1 h2 dL_refund_16
set_option maxHeartbeats 1000000 in
set_option maxRecDepth 100000 in
theorem wth1_refund (l : Launch) (D : va_G) (kA : Nat → ClassId) (a : Nat → Nat) (pa : Nat → Nat → Nat) (b : Nat) (n : Nat) (V X : Sz) (PV : Nat → Sz) (K : Nat) (T : Nat → Int) (x1 : Int) (x2 : Int) (hf : f_X7_refund n V X PV K x1 x2 = some (.inr 1)) : MTH l yL_refund cL_refund 5 (some .int) [(0, 10, 13, 19), (0, 10, 17, 13), (0, 10, 21, 54)] rxL_refund D kA [.ref (a 0), vI x1, vI x2, .ref b] (zO kA b T :: (cs_X7 kA a V X (zpf pa K) ++ cs_P kA pa PV K)) (some (vI 2)) := by
  refine zHT (own := RL) rfl rfl (Nat.le_of_ble_eq_true rfl) ?_
  intro p e s m args below meth c ls Q hC hK hP hX hN hT hl hret
  have hl : lv_has ls 5 [(0, .ref (a 0)), (1, vI x1), (2, vI x2), (3, .ref b)] := hl
  refine lv_aload_n hC.1 hC.2.1 dL_refund_0 rfl (lv_at hl 3 rfl) <| ziconst hC.1 hC.2.1 dL_refund_1 <| lv_aload_n hC.1 hC.2.1 dL_refund_2 rfl (lv_at hl 0 rfl) <| ziload_n hC.1 hC.2.1 dL_refund_3 rfl (lv_at hl 1 rfl) <| ziload_n hC.1 hC.2.1 dL_refund_4 rfl (lv_at hl 2 rfl) ?_
  refine zcVT (As := [vI x1, vI x2]) (rest := [vI 0, .ref b]) hC hK hX (thr_X7_refund l D kA a pa n V X PV K x1 x2 hf) zwL_66 (zPtail hP) (q0 := 0) rfl rfl rfl rfl hl.1 rfl (Nat.le_of_ble_eq_true rfl) ⟨(Nat.le_of_ble_eq_true rfl), (Nat.le_of_ble_eq_true rfl)⟩ ⟨rfl, rfl⟩ ⟨(Nat.le_of_ble_eq_true rfl), (Nat.le_of_ble_eq_true rfl)⟩ dL_refund_5 (fun ce q9 H h1 h2 h3 h4 h5 => ?_)
  refine vx_catch (own := RL) (name := zEx 1) (E := zEx 1) (pc := 5) hC.2.2.2.1 [⟨0, 10, 13, 19⟩] ⟨0, 10, 17, 13⟩ [⟨0, 10, 21, 54⟩] hT (List.forall_mem_cons.mpr ⟨Or.inr ⟨by decide, zEx 0, hC.2.2.2.2 _ (qin_4 (i := 2) rfl rfl), hN _ (List.mem_of_getElem? (i := 0) rfl)⟩, fun z hz => absurd hz List.not_mem_nil⟩) (by decide) (by decide) (hC.2.2.2.2 _ (qin_3 (i := 159) rfl rfl)) (va_tabs (zBd_tabs (List.mem_of_getElem? (i := 1) rfl)) rfl (hX.2.2.2 _ (List.mem_of_getElem? (i := 1) rfl))) h3 h4 h5 ?_
  refine lv_astore (lv' := [(4, .ref q9), (0, .ref (a 0)), (1, vI x1), (2, vI x2), (3, .ref b)]) (x := q9) hC.1 hC.2.1 dL_refund_17 hl (by decide) rfl (fun ls hl => ?_)
  refine ziconst hC.1 hC.2.1 dL_refund_19 ?_
  exact hret (Int32.ofInt 2) _ _ _ rfl h1 h2 dL_refund_20
set_option maxHeartbeats 1000000 in
set_option maxRecDepth 100000 in
theorem wth2_refund (l : Launch) (D : va_G) (kA : Nat → ClassId) (a : Nat → Nat) (pa : Nat → Nat → Nat) (b : Nat) (n : Nat) (V X : Sz) (PV : Nat → Sz) (K : Nat) (T : Nat → Int) (x1 : Int) (x2 : Int) (hf : f_X7_refund n V X PV K x1 x2 = some (.inr 2)) : MTH l yL_refund cL_refund 5 (some .int) [(0, 10, 13, 19), (0, 10, 17, 13), (0, 10, 21, 54)] rxL_refund D kA [.ref (a 0), vI x1, vI x2, .ref b] (zO kA b T :: (cs_X7 kA a V X (zpf pa K) ++ cs_P kA pa PV K)) (some (vI 3)) := by
  refine zHT (own := RL) rfl rfl (Nat.le_of_ble_eq_true rfl) ?_
  intro p e s m args below meth c ls Q hC hK hP hX hN hT hl hret
  have hl : lv_has ls 5 [(0, .ref (a 0)), (1, vI x1), (2, vI x2), (3, .ref b)] := hl
  refine lv_aload_n hC.1 hC.2.1 dL_refund_0 rfl (lv_at hl 3 rfl) <| ziconst hC.1 hC.2.1 dL_refund_1 <| lv_aload_n hC.1 hC.2.1 dL_refund_2 rfl (lv_at hl 0 rfl) <| ziload_n hC.1 hC.2.1 dL_refund_3 rfl (lv_at hl 1 rfl) <| ziload_n hC.1 hC.2.1 dL_refund_4 rfl (lv_at hl 2 rfl) ?_
  refine zcVT (As := [vI x1, vI x2]) (rest := [vI 0, .ref b]) hC hK hX (thr_X7_refund l D kA a pa n V X PV K x1 x2 hf) zwL_66 (zPtail hP) (q0 := 0) rfl rfl rfl rfl hl.1 rfl (Nat.le_of_ble_eq_true rfl) ⟨(Nat.le_of_ble_eq_true rfl), (Nat.le_of_ble_eq_true rfl)⟩ ⟨rfl, rfl⟩ ⟨(Nat.le_of_ble_eq_true rfl), (Nat.le_of_ble_eq_true rfl)⟩ dL_refund_5 (fun ce q9 H h1 h2 h3 h4 h5 => ?_)
  refine vx_catch (own := RL) (name := zEx 2) (E := zEx 2) (pc := 5) hC.2.2.2.1 [⟨0, 10, 13, 19⟩, ⟨0, 10, 17, 13⟩] ⟨0, 10, 21, 54⟩ [] hT (List.forall_mem_cons.mpr ⟨Or.inr ⟨by decide, zEx 0, hC.2.2.2.2 _ (qin_4 (i := 2) rfl rfl), hN _ (List.mem_of_getElem? (i := 1) rfl)⟩, List.forall_mem_cons.mpr ⟨Or.inr ⟨by decide, zEx 1, hC.2.2.2.2 _ (qin_3 (i := 159) rfl rfl), hN _ (List.mem_of_getElem? (i := 2) rfl)⟩, fun z hz => absurd hz List.not_mem_nil⟩⟩) (by decide) (by decide) (hC.2.2.2.2 _ (qin_4 (i := 155) rfl rfl)) (va_tabs (zBd_tabs (List.mem_of_getElem? (i := 2) rfl)) rfl (hX.2.2.2 _ (List.mem_of_getElem? (i := 2) rfl))) h3 h4 h5 ?_
  refine lv_astore (lv' := [(4, .ref q9), (0, .ref (a 0)), (1, vI x1), (2, vI x2), (3, .ref b)]) (x := q9) hC.1 hC.2.1 dL_refund_21 hl (by decide) rfl (fun ls hl => ?_)
  refine ziconst hC.1 hC.2.1 dL_refund_23 ?_
  exact hret (Int32.ofInt 3) _ _ _ rfl h1 h2 dL_refund_24
theorem DL_setTaxLimit_0 : ∀ q ∈ ([(0, .aload_n 3, 1), (1, .iconst 0, 1), (2, .aload_n 0, 1), (3, .iload_n 1, 1), (4, .iload_n 2, 1), (5, .invokevirtual 69, 3), (8, .i2l, 1), (9, .lastore, 1), (10, .goto 11, 3), (13, .astore 4, 2), (15, .iconst 1, 1), (16, .ireturn, 1), (17, .astore 4, 2), (19, .iconst 2, 1), (20, .ireturn, 1), (21, .iconst 0, 1), (22, .ireturn, 1)] : List (Nat × Instr × Nat)), decode cL_setTaxLimit q.1 = .ok q.2 := by decide +kernel
theorem dL_setTaxLimit_0 : decode cL_setTaxLimit 0 = .ok (.aload_n 3, 1) := DL_setTaxLimit_0 (0, .aload_n 3, 1) (List.mem_of_getElem? (i := 0) rfl)
theorem dL_setTaxLimit_1 : decode cL_setTaxLimit 1 = .ok (.iconst 0, 1) := DL_setTaxLimit_0 (1, .iconst 0, 1) (List.mem_of_getElem? (i := 1) rfl)
theorem dL_setTaxLimit_2 : decode cL_setTaxLimit 2 = .ok (.aload_n 0, 1) := DL_setTaxLimit_0 (2, .aload_n 0, 1) (List.mem_of_getElem? (i := 2) rfl)
theorem dL_setTaxLimit_3 : decode cL_setTaxLimit 3 = .ok (.iload_n 1, 1) := DL_setTaxLimit_0 (3, .iload_n 1, 1) (List.mem_of_getElem? (i := 3) rfl)
theorem dL_setTaxLimit_4 : decode cL_setTaxLimit 4 = .ok (.iload_n 2, 1) := DL_setTaxLimit_0 (4, .iload_n 2, 1) (List.mem_of_getElem? (i := 4) rfl)
theorem dL_setTaxLimit_5 : decode cL_setTaxLimit 5 = .ok (.invokevirtual 69, 3) := DL_setTaxLimit_0 (5, .invokevirtual 69, 3) (List.mem_of_getElem? (i := 5) rfl)
theorem dL_setTaxLimit_8 : decode cL_setTaxLimit 8 = .ok (.i2l, 1) := DL_setTaxLimit_0 (8, .i2l, 1) (List.mem_of_getElem? (i := 6) rfl)
theorem dL_setTaxLimit_9 : decode cL_setTaxLimit 9 = .ok (.lastore, 1) := DL_setTaxLimit_0 (9, .lastore, 1) (List.mem_of_getElem? (i := 7) rfl)
theorem dL_setTaxLimit_10 : decode cL_setTaxLimit 10 = .ok (.goto 11, 3) := DL_setTaxLimit_0 (10, .goto 11, 3) (List.mem_of_getElem? (i := 8) rfl)
theorem dL_setTaxLimit_13 : decode cL_setTaxLimit 13 = .ok (.astore 4, 2) := DL_setTaxLimit_0 (13, .astore 4, 2) (List.mem_of_getElem? (i := 9) rfl)
theorem dL_setTaxLimit_15 : decode cL_setTaxLimit 15 = .ok (.iconst 1, 1) := DL_setTaxLimit_0 (15, .iconst 1, 1) (List.mem_of_getElem? (i := 10) rfl)
theorem dL_setTaxLimit_16 : decode cL_setTaxLimit 16 = .ok (.ireturn, 1) := DL_setTaxLimit_0 (16, .ireturn, 1) (List.mem_of_getElem? (i := 11) rfl)
theorem dL_setTaxLimit_17 : decode cL_setTaxLimit 17 = .ok (.astore 4, 2) := DL_setTaxLimit_0 (17, .astore 4, 2) (List.mem_of_getElem? (i := 12) rfl)
theorem dL_setTaxLimit_19 : decode cL_setTaxLimit 19 = .ok (.iconst 2, 1) := DL_setTaxLimit_0 (19, .iconst 2, 1) (List.mem_of_getElem? (i := 13) rfl)
theorem dL_setTaxLimit_20 : decode cL_setTaxLimit 20 = .ok (.ireturn, 1) := DL_setTaxLimit_0 (20, .ireturn, 1) (List.mem_of_getElem? (i := 14) rfl)
theorem dL_setTaxLimit_21 : decode cL_setTaxLimit 21 = .ok (.iconst 0, 1) := DL_setTaxLimit_0 (21, .iconst 0, 1) (List.mem_of_getElem? (i := 15) rfl)
theorem dL_setTaxLimit_22 : decode cL_setTaxLimit 22 = .ok (.ireturn, 1) := DL_setTaxLimit_0 (22, .ireturn, 1) (List.mem_of_getElem? (i := 16) rfl)
abbrev rmL_setTaxLimit : Room := { frames := 6, cells := 24, slots := 2040, locals := 167 }
set_option maxHeartbeats 1000000 in
set_option maxRecDepth 100000 in
theorem wok_setTaxLimit (l : Launch) (D : va_G) (kA : Nat → ClassId) (a : Nat → Nat) (pa : Nat → Nat → Nat) (b : Nat) (n : Nat) (V X : Sz) (PV : Nat → Sz) (K : Nat) (T : Nat → Int) (x1 : Int) (x2 : Int) (sz : Nat) (hD0 : va_D (fun _ => True) (zO kA b T :: (cs_X7 kA a V X (zpf pa K) ++ cs_P kA pa PV K))) {r : Int} {Vr : Sz} {PVr : Nat → Sz} {Kr : Nat} (hf : f_X7_setTaxLimit n V X PV K x1 x2 = some (.inl (r, Vr, PVr, Kr))) (hr : rng r) : MWH l yL_setTaxLimit cL_setTaxLimit 5 (some .int) [(0, 10, 13, 19), (0, 10, 17, 13)] rmL_setTaxLimit D kA sz [.ref (a 0), vI x1, vI x2, .ref b] (zO kA b T :: (cs_X7 kA a V X (zpf pa K) ++ cs_P kA pa PV K)) (some (vI 0)) 24 2040 (fun w => ∃ pa1 : Nat → Nat → Nat, w = (zO kA b (up T 0 r) :: (cs_X7 kA a Vr X (zpf pa1 Kr) ++ cs_P kA pa1 PVr Kr))) := by
  refine zHW (own := RL) rfl rfl (Nat.le_of_ble_eq_true rfl) ?_
  intro p e s m args below meth c ls Q hC hK hP hsz hl hret
  have hl : lv_has ls 5 [(0, .ref (a 0)), (1, vI x1), (2, vI x2), (3, .ref b)] := hl
  have hS : va_S (zG (zO kA b T :: (cs_X7 kA a V X (zpf pa K) ++ cs_P kA pa PV K)) s.heap.size) s.heap s.heap [] := va_S.rf
  have hA : ∀ q, s.heap.size ≤ q → zG (zO kA b T :: (cs_X7 kA a V X (zpf pa K) ++ cs_P kA pa PV K)) s.heap.size q := fun q h => Or.inr h
  have hF0 : ∀ q, zF (cs_X7 kA a V X (zpf pa K) ++ cs_P kA pa PV K) q → zG (zO kA b T :: (cs_X7 kA a V X (zpf pa K) ++ cs_P kA pa PV K)) s.heap.size q := fun q h => h.elim fun k h => h.elim fun e h => Or.inl ⟨k + 1, e, h⟩
  have hD : va_D (zG (zO kA b T :: (cs_X7 kA a V X (zpf pa K) ++ cs_P kA pa PV K)) s.heap.size) (zO kA b T :: (cs_X7 kA a V X (zpf pa K) ++ cs_P kA pa PV K)) := ⟨hD0.1, fun k q hk => Or.inl ⟨k, q.2, hk⟩⟩
  generalize hAe : zG (zO kA b T :: (cs_X7 kA a V X (zpf pa K) ++ cs_P kA pa PV K)) s.heap.size = A0 at hS hA hF0 hD hret
  refine lv_aload_n hC.1 hC.2.1 dL_setTaxLimit_0 rfl (lv_at hl 3 rfl) <| ziconst hC.1 hC.2.1 dL_setTaxLimit_1 <| lv_aload_n hC.1 hC.2.1 dL_setTaxLimit_2 rfl (lv_at hl 0 rfl) <| ziload_n hC.1 hC.2.1 dL_setTaxLimit_3 rfl (lv_at hl 1 rfl) <| ziload_n hC.1 hC.2.1 dL_setTaxLimit_4 rfl (lv_at hl 2 rfl) ?_
  refine zcVW (As := [vI x1, vI x2]) (rest := [vI 0, .ref b]) hC hK (met_X7_setTaxLimit l D kA a pa n V X PV K x1 x2 s.heap.size (zDtail hD0) hf) zwL_69 hS hF0 hA (zPtail hP) (q0 := 0) rfl rfl rfl rfl hl.1 rfl (Nat.le_of_ble_eq_true rfl) ⟨(Nat.le_of_ble_eq_true rfl), (Nat.le_of_ble_eq_true rfl)⟩ ⟨rfl, rfl⟩ ⟨(Nat.le_of_ble_eq_true rfl), (Nat.le_of_ble_eq_true rfl)⟩ dL_setTaxLimit_5 (fun w H locs hw hPw hDw _ hk1 hS => ?_)
  obtain ⟨hP, hD⟩ := zconsW hP hD hPw hDw hk1 (fun q h => h.elim (hF0 q) (hA q))
  obtain ⟨pa1, rfl⟩ := hw
  refine zi2l hC.1 hC.2.1 hr dL_setTaxLimit_8 ?_
  refine jlas hC hK hP hD hS (q0 := 0) rfl (Nat.le_of_ble_eq_true rfl) (by decide) rfl dL_setTaxLimit_9 (fun H locs hP hS => ?_)
  refine lv_goto (tgt := 21) hC.1 hC.2.1 dL_setTaxLimit_10 (by decide) ?_
  refine ziconst hC.1 hC.2.1 dL_setTaxLimit_21 ?_
  have hP : va_P D vwCl (zO kA b (up T 0 r) :: (cs_X7 kA a Vr X (zpf pa1 Kr) ++ cs_P kA pa1 PVr Kr)) H := hP
  have hD : va_D A0 (zO kA b (up T 0 r) :: (cs_X7 kA a Vr X (zpf pa1 Kr) ++ cs_P kA pa1 PVr Kr)) := zDany (C := fun t => (zO kA b t :: (cs_X7 kA a Vr X (zpf pa1 Kr) ++ cs_P kA pa1 PVr Kr))) T (fun _ => rfl) hD (up T 0 r)
  exact hret (Int32.ofInt 0) _ _ _ _ _ _ _ (Nat.le_of_ble_eq_true rfl) (Nat.le_of_ble_eq_true rfl) rfl ⟨pa1, rfl⟩ hP hD hS dL_setTaxLimit_22
abbrev rxL_setTaxLimit : Room := { frames := 8, cells := 1, slots := 6, locals := 167 }
set_option maxHeartbeats 1000000 in
set_option maxRecDepth 100000 in
theorem wth0_setTaxLimit (l : Launch) (D : va_G) (kA : Nat → ClassId) (a : Nat → Nat) (pa : Nat → Nat → Nat) (b : Nat) (n : Nat) (V X : Sz) (PV : Nat → Sz) (K : Nat) (T : Nat → Int) (x1 : Int) (x2 : Int) (hf : f_X7_setTaxLimit n V X PV K x1 x2 = some (.inr 0)) : MTH l yL_setTaxLimit cL_setTaxLimit 5 (some .int) [(0, 10, 13, 19), (0, 10, 17, 13)] rxL_setTaxLimit D kA [.ref (a 0), vI x1, vI x2, .ref b] (zO kA b T :: (cs_X7 kA a V X (zpf pa K) ++ cs_P kA pa PV K)) (some (vI 1)) := by
  refine zHT (own := RL) rfl rfl (Nat.le_of_ble_eq_true rfl) ?_
  intro p e s m args below meth c ls Q hC hK hP hX hN hT hl hret
  have hl : lv_has ls 5 [(0, .ref (a 0)), (1, vI x1), (2, vI x2), (3, .ref b)] := hl
  refine lv_aload_n hC.1 hC.2.1 dL_setTaxLimit_0 rfl (lv_at hl 3 rfl) <| ziconst hC.1 hC.2.1 dL_setTaxLimit_1 <| lv_aload_n hC.1 hC.2.1 dL_setTaxLimit_2 rfl (lv_at hl 0 rfl) <| ziload_n hC.1 hC.2.1 dL_setTaxLimit_3 rfl (lv_at hl 1 rfl) <| ziload_n hC.1 hC.2.1 dL_setTaxLimit_4 rfl (lv_at hl 2 rfl) ?_
  refine zcVT (As := [vI x1, vI x2]) (rest := [vI 0, .ref b]) hC hK hX (thr_X7_setTaxLimit l D kA a pa n V X PV K x1 x2 hf) zwL_69 (zPtail hP) (q0 := 0) rfl rfl rfl rfl hl.1 rfl (Nat.le_of_ble_eq_true rfl) ⟨(Nat.le_of_ble_eq_true rfl), (Nat.le_of_ble_eq_true rfl)⟩ ⟨rfl, rfl⟩ ⟨(Nat.le_of_ble_eq_true rfl), (Nat.le_of_ble_eq_true rfl)⟩ dL_setTaxLimit_5 (fun ce q9 H h1 h2 h3 h4 h5 => ?_)
  refine vx_catch (own := RL) (name := zEx 0) (E := zEx 0) (pc := 5) hC.2.2.2.1 [] ⟨0, 10, 13, 19⟩ [⟨0, 10, 17, 13⟩] hT (fun z hz => absurd hz List.not_mem_nil) (by decide) (by decide) (hC.2.2.2.2 _ (qin_4 (i := 2) rfl rfl)) (va_tabs (zBd_tabs (List.mem_of_getElem? (i := 0) rfl)) rfl (hX.2.2.2 _ (List.mem_of_getElem? (i := 0) rfl))) h3 h4 h5 ?_
  refine lv_astore (lv' := [(4, .ref q9), (0, .ref (a 0)), (1, vI x1), (2, vI x2), (3, .ref b)]) (x := q9) hC.1 hC.2.1 dL_setTaxLimit_13 hl (by decide) rfl (fun ls hl => ?_)
  refine ziconst hC.1 hC.2.1 dL_setTaxLimit_15 ?_
  exact hret (Int32.ofInt 1) _ _ _ rfl h1 h2 dL_setTaxLimit_16
set_option maxHeartbeats 1000000 in
set_option maxRecDepth 100000 in
theorem wth1_setTaxLimit (l : Launch) (D : va_G) (kA : Nat → ClassId) (a : Nat → Nat) (pa : Nat → Nat → Nat) (b : Nat) (n : Nat) (V X : Sz) (PV : Nat → Sz) (K : Nat) (T : Nat → Int) (x1 : Int) (x2 : Int) (hf : f_X7_setTaxLimit n V X PV K x1 x2 = some (.inr 1)) : MTH l yL_setTaxLimit cL_setTaxLimit 5 (some .int) [(0, 10, 13, 19), (0, 10, 17, 13)] rxL_setTaxLimit D kA [.ref (a 0), vI x1, vI x2, .ref b] (zO kA b T :: (cs_X7 kA a V X (zpf pa K) ++ cs_P kA pa PV K)) (some (vI 2)) := by
  refine zHT (own := RL) rfl rfl (Nat.le_of_ble_eq_true rfl) ?_
  intro p e s m args below meth c ls Q hC hK hP hX hN hT hl hret
  have hl : lv_has ls 5 [(0, .ref (a 0)), (1, vI x1), (2, vI x2), (3, .ref b)] := hl
  refine lv_aload_n hC.1 hC.2.1 dL_setTaxLimit_0 rfl (lv_at hl 3 rfl) <| ziconst hC.1 hC.2.1 dL_setTaxLimit_1 <| lv_aload_n hC.1 hC.2.1 dL_setTaxLimit_2 rfl (lv_at hl 0 rfl) <| ziload_n hC.1 hC.2.1 dL_setTaxLimit_3 rfl (lv_at hl 1 rfl) <| ziload_n hC.1 hC.2.1 dL_setTaxLimit_4 rfl (lv_at hl 2 rfl) ?_
  refine zcVT (As := [vI x1, vI x2]) (rest := [vI 0, .ref b]) hC hK hX (thr_X7_setTaxLimit l D kA a pa n V X PV K x1 x2 hf) zwL_69 (zPtail hP) (q0 := 0) rfl rfl rfl rfl hl.1 rfl (Nat.le_of_ble_eq_true rfl) ⟨(Nat.le_of_ble_eq_true rfl), (Nat.le_of_ble_eq_true rfl)⟩ ⟨rfl, rfl⟩ ⟨(Nat.le_of_ble_eq_true rfl), (Nat.le_of_ble_eq_true rfl)⟩ dL_setTaxLimit_5 (fun ce q9 H h1 h2 h3 h4 h5 => ?_)
  refine vx_catch (own := RL) (name := zEx 1) (E := zEx 1) (pc := 5) hC.2.2.2.1 [⟨0, 10, 13, 19⟩] ⟨0, 10, 17, 13⟩ [] hT (List.forall_mem_cons.mpr ⟨Or.inr ⟨by decide, zEx 0, hC.2.2.2.2 _ (qin_4 (i := 2) rfl rfl), hN _ (List.mem_of_getElem? (i := 0) rfl)⟩, fun z hz => absurd hz List.not_mem_nil⟩) (by decide) (by decide) (hC.2.2.2.2 _ (qin_3 (i := 159) rfl rfl)) (va_tabs (zBd_tabs (List.mem_of_getElem? (i := 1) rfl)) rfl (hX.2.2.2 _ (List.mem_of_getElem? (i := 1) rfl))) h3 h4 h5 ?_
  refine lv_astore (lv' := [(4, .ref q9), (0, .ref (a 0)), (1, vI x1), (2, vI x2), (3, .ref b)]) (x := q9) hC.1 hC.2.1 dL_setTaxLimit_17 hl (by decide) rfl (fun ls hl => ?_)
  refine ziconst hC.1 hC.2.1 dL_setTaxLimit_19 ?_
  exact hret (Int32.ofInt 2) _ _ _ rfl h1 h2 dL_setTaxLimit_20
theorem DL_setRate_0 : ∀ q ∈ ([(0, .aload_n 2, 1), (1, .iconst 0, 1), (2, .aload_n 0, 1), (3, .iload_n 1, 1), (4, .invokevirtual 72, 3), (7, .i2l, 1), (8, .lastore, 1), (9, .goto 6, 3), (12, .astore_n 3, 1), (13, .iconst 1, 1), (14, .ireturn, 1), (15, .iconst 0, 1), (16, .ireturn, 1)] : List (Nat × Instr × Nat)), decode cL_setRate q.1 = .ok q.2 := by decide +kernel
theorem dL_setRate_0 : decode cL_setRate 0 = .ok (.aload_n 2, 1) := DL_setRate_0 (0, .aload_n 2, 1) (List.mem_of_getElem? (i := 0) rfl)
theorem dL_setRate_1 : decode cL_setRate 1 = .ok (.iconst 0, 1) := DL_setRate_0 (1, .iconst 0, 1) (List.mem_of_getElem? (i := 1) rfl)
theorem dL_setRate_2 : decode cL_setRate 2 = .ok (.aload_n 0, 1) := DL_setRate_0 (2, .aload_n 0, 1) (List.mem_of_getElem? (i := 2) rfl)
theorem dL_setRate_3 : decode cL_setRate 3 = .ok (.iload_n 1, 1) := DL_setRate_0 (3, .iload_n 1, 1) (List.mem_of_getElem? (i := 3) rfl)
theorem dL_setRate_4 : decode cL_setRate 4 = .ok (.invokevirtual 72, 3) := DL_setRate_0 (4, .invokevirtual 72, 3) (List.mem_of_getElem? (i := 4) rfl)
theorem dL_setRate_7 : decode cL_setRate 7 = .ok (.i2l, 1) := DL_setRate_0 (7, .i2l, 1) (List.mem_of_getElem? (i := 5) rfl)
theorem dL_setRate_8 : decode cL_setRate 8 = .ok (.lastore, 1) := DL_setRate_0 (8, .lastore, 1) (List.mem_of_getElem? (i := 6) rfl)
theorem dL_setRate_9 : decode cL_setRate 9 = .ok (.goto 6, 3) := DL_setRate_0 (9, .goto 6, 3) (List.mem_of_getElem? (i := 7) rfl)
theorem dL_setRate_12 : decode cL_setRate 12 = .ok (.astore_n 3, 1) := DL_setRate_0 (12, .astore_n 3, 1) (List.mem_of_getElem? (i := 8) rfl)
theorem dL_setRate_13 : decode cL_setRate 13 = .ok (.iconst 1, 1) := DL_setRate_0 (13, .iconst 1, 1) (List.mem_of_getElem? (i := 9) rfl)
theorem dL_setRate_14 : decode cL_setRate 14 = .ok (.ireturn, 1) := DL_setRate_0 (14, .ireturn, 1) (List.mem_of_getElem? (i := 10) rfl)
theorem dL_setRate_15 : decode cL_setRate 15 = .ok (.iconst 0, 1) := DL_setRate_0 (15, .iconst 0, 1) (List.mem_of_getElem? (i := 11) rfl)
theorem dL_setRate_16 : decode cL_setRate 16 = .ok (.ireturn, 1) := DL_setRate_0 (16, .ireturn, 1) (List.mem_of_getElem? (i := 12) rfl)
abbrev rmL_setRate : Room := { frames := 6, cells := 24, slots := 2040, locals := 166 }
set_option maxHeartbeats 1000000 in
set_option maxRecDepth 100000 in
theorem wok_setRate (l : Launch) (D : va_G) (kA : Nat → ClassId) (a : Nat → Nat) (pa : Nat → Nat → Nat) (b : Nat) (n : Nat) (V X : Sz) (PV : Nat → Sz) (K : Nat) (T : Nat → Int) (x1 : Int) (sz : Nat) (hD0 : va_D (fun _ => True) (zO kA b T :: (cs_X7 kA a V X (zpf pa K) ++ cs_P kA pa PV K))) {r : Int} {Vr : Sz} {PVr : Nat → Sz} {Kr : Nat} (hf : f_X7_setRate n V X PV K x1 = some (.inl (r, Vr, PVr, Kr))) (hr : rng r) : MWH l yL_setRate cL_setRate 4 (some .int) [(0, 9, 12, 13)] rmL_setRate D kA sz [.ref (a 0), vI x1, .ref b] (zO kA b T :: (cs_X7 kA a V X (zpf pa K) ++ cs_P kA pa PV K)) (some (vI 0)) 24 2040 (fun w => ∃ pa1 : Nat → Nat → Nat, w = (zO kA b (up T 0 r) :: (cs_X7 kA a Vr X (zpf pa1 Kr) ++ cs_P kA pa1 PVr Kr))) := by
  refine zHW (own := RL) rfl rfl (Nat.le_of_ble_eq_true rfl) ?_
  intro p e s m args below meth c ls Q hC hK hP hsz hl hret
  have hl : lv_has ls 4 [(0, .ref (a 0)), (1, vI x1), (2, .ref b)] := hl
  have hS : va_S (zG (zO kA b T :: (cs_X7 kA a V X (zpf pa K) ++ cs_P kA pa PV K)) s.heap.size) s.heap s.heap [] := va_S.rf
  have hA : ∀ q, s.heap.size ≤ q → zG (zO kA b T :: (cs_X7 kA a V X (zpf pa K) ++ cs_P kA pa PV K)) s.heap.size q := fun q h => Or.inr h
  have hF0 : ∀ q, zF (cs_X7 kA a V X (zpf pa K) ++ cs_P kA pa PV K) q → zG (zO kA b T :: (cs_X7 kA a V X (zpf pa K) ++ cs_P kA pa PV K)) s.heap.size q := fun q h => h.elim fun k h => h.elim fun e h => Or.inl ⟨k + 1, e, h⟩
  have hD : va_D (zG (zO kA b T :: (cs_X7 kA a V X (zpf pa K) ++ cs_P kA pa PV K)) s.heap.size) (zO kA b T :: (cs_X7 kA a V X (zpf pa K) ++ cs_P kA pa PV K)) := ⟨hD0.1, fun k q hk => Or.inl ⟨k, q.2, hk⟩⟩
  generalize hAe : zG (zO kA b T :: (cs_X7 kA a V X (zpf pa K) ++ cs_P kA pa PV K)) s.heap.size = A0 at hS hA hF0 hD hret
  refine lv_aload_n hC.1 hC.2.1 dL_setRate_0 rfl (lv_at hl 2 rfl) <| ziconst hC.1 hC.2.1 dL_setRate_1 <| lv_aload_n hC.1 hC.2.1 dL_setRate_2 rfl (lv_at hl 0 rfl) <| ziload_n hC.1 hC.2.1 dL_setRate_3 rfl (lv_at hl 1 rfl) ?_
  refine zcVW (As := [vI x1]) (rest := [vI 0, .ref b]) hC hK (met_X7_setRate l D kA a pa n V X PV K x1 s.heap.size (zDtail hD0) hf) zwL_72 hS hF0 hA (zPtail hP) (q0 := 0) rfl rfl rfl rfl hl.1 rfl (Nat.le_of_ble_eq_true rfl) ⟨(Nat.le_of_ble_eq_true rfl), (Nat.le_of_ble_eq_true rfl)⟩ ⟨rfl, rfl⟩ ⟨(Nat.le_of_ble_eq_true rfl), (Nat.le_of_ble_eq_true rfl)⟩ dL_setRate_4 (fun w H locs hw hPw hDw _ hk1 hS => ?_)
  obtain ⟨hP, hD⟩ := zconsW hP hD hPw hDw hk1 (fun q h => h.elim (hF0 q) (hA q))
  obtain ⟨pa1, rfl⟩ := hw
  refine zi2l hC.1 hC.2.1 hr dL_setRate_7 ?_
  refine jlas hC hK hP hD hS (q0 := 0) rfl (Nat.le_of_ble_eq_true rfl) (by decide) rfl dL_setRate_8 (fun H locs hP hS => ?_)
  refine lv_goto (tgt := 15) hC.1 hC.2.1 dL_setRate_9 (by decide) ?_
  refine ziconst hC.1 hC.2.1 dL_setRate_15 ?_
  have hP : va_P D vwCl (zO kA b (up T 0 r) :: (cs_X7 kA a Vr X (zpf pa1 Kr) ++ cs_P kA pa1 PVr Kr)) H := hP
  have hD : va_D A0 (zO kA b (up T 0 r) :: (cs_X7 kA a Vr X (zpf pa1 Kr) ++ cs_P kA pa1 PVr Kr)) := zDany (C := fun t => (zO kA b t :: (cs_X7 kA a Vr X (zpf pa1 Kr) ++ cs_P kA pa1 PVr Kr))) T (fun _ => rfl) hD (up T 0 r)
  exact hret (Int32.ofInt 0) _ _ _ _ _ _ _ (Nat.le_of_ble_eq_true rfl) (Nat.le_of_ble_eq_true rfl) rfl ⟨pa1, rfl⟩ hP hD hS dL_setRate_16
abbrev rxL_setRate : Room := { frames := 8, cells := 1, slots := 6, locals := 166 }
set_option maxHeartbeats 1000000 in
set_option maxRecDepth 100000 in
theorem wth1_setRate (l : Launch) (D : va_G) (kA : Nat → ClassId) (a : Nat → Nat) (pa : Nat → Nat → Nat) (b : Nat) (n : Nat) (V X : Sz) (PV : Nat → Sz) (K : Nat) (T : Nat → Int) (x1 : Int) (hf : f_X7_setRate n V X PV K x1 = some (.inr 1)) : MTH l yL_setRate cL_setRate 4 (some .int) [(0, 9, 12, 13)] rxL_setRate D kA [.ref (a 0), vI x1, .ref b] (zO kA b T :: (cs_X7 kA a V X (zpf pa K) ++ cs_P kA pa PV K)) (some (vI 1)) := by
  refine zHT (own := RL) rfl rfl (Nat.le_of_ble_eq_true rfl) ?_
  intro p e s m args below meth c ls Q hC hK hP hX hN hT hl hret
  have hl : lv_has ls 4 [(0, .ref (a 0)), (1, vI x1), (2, .ref b)] := hl
  refine lv_aload_n hC.1 hC.2.1 dL_setRate_0 rfl (lv_at hl 2 rfl) <| ziconst hC.1 hC.2.1 dL_setRate_1 <| lv_aload_n hC.1 hC.2.1 dL_setRate_2 rfl (lv_at hl 0 rfl) <| ziload_n hC.1 hC.2.1 dL_setRate_3 rfl (lv_at hl 1 rfl) ?_
  refine zcVT (As := [vI x1]) (rest := [vI 0, .ref b]) hC hK hX (thr_X7_setRate l D kA a pa n V X PV K x1 hf) zwL_72 (zPtail hP) (q0 := 0) rfl rfl rfl rfl hl.1 rfl (Nat.le_of_ble_eq_true rfl) ⟨(Nat.le_of_ble_eq_true rfl), (Nat.le_of_ble_eq_true rfl)⟩ ⟨rfl, rfl⟩ ⟨(Nat.le_of_ble_eq_true rfl), (Nat.le_of_ble_eq_true rfl)⟩ dL_setRate_4 (fun ce q9 H h1 h2 h3 h4 h5 => ?_)
  refine vx_catch (own := RL) (name := zEx 1) (E := zEx 1) (pc := 4) hC.2.2.2.1 [] ⟨0, 9, 12, 13⟩ [] hT (fun z hz => absurd hz List.not_mem_nil) (by decide) (by decide) (hC.2.2.2.2 _ (qin_3 (i := 159) rfl rfl)) (va_tabs (zBd_tabs (List.mem_of_getElem? (i := 1) rfl)) rfl (hX.2.2.2 _ (List.mem_of_getElem? (i := 1) rfl))) h3 h4 h5 ?_
  refine lv_astore_n (lv' := [(3, .ref q9), (0, .ref (a 0)), (1, vI x1), (2, .ref b)]) (x := q9) hC.1 hC.2.1 dL_setRate_12 rfl hl (by decide) rfl (fun ls hl => ?_)
  refine ziconst hC.1 hC.2.1 dL_setRate_13 ?_
  exact hret (Int32.ofInt 1) _ _ _ rfl h1 h2 dL_setRate_14
