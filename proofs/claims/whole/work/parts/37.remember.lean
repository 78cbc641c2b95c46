section ZG
variable {p : Program} {l : Launch} {e : Env} {R : Room} {s : State} {m : MethodId} {args : Array Value} {below : List Frame} {meth : Method} {c : Code} {H H0 : Heap} {locs : List Loc} {cells slots : Nat} {Q : State → Prop}
variable {pc nL : Nat} {ls : Array Slot} {rest : List Value} {A0 : Nat → Prop} {D : va_G} {kA : Nat → ClassId} {cc : ByteArray}
theorem gfX7_23 {ws : va_W} {q0 b : Nat} {fs : List Value} {v : Value} (hC : CallFix p m c cc nL s args lw_all RX7) (hK : zK D kA s) (hP : va_P D vwCl ws H) (he : ws[q0]? = some (b, .inr (7, fs))) (hv : fs[4]? = some v) (hdg : decode cc pc = .ok (.getfield 23, 3)) (kk : W p l e R s m args below meth c H locs cells slots Q (F0 m (pc + 3) ls (v :: rest))) : W p l e R s m args below meth c H locs cells slots Q (F0 m pc ls (.ref b :: rest)) := va_get hC.1 hC.2.1 hC.2.2.2.2 uin_X7 hC.2.2.2.1 hK.1 hP q0 he rfl 4 (by decide) (hC.2.2.2.2 _ qw_281) (fun _ h => h) hv hdg kk
theorem gfX7_33 {ws : va_W} {q0 b : Nat} {fs : List Value} {v : Value} (hC : CallFix p m c cc nL s args lw_all RX7) (hK : zK D kA s) (hP : va_P D vwCl ws H) (he : ws[q0]? = some (b, .inr (7, fs))) (hv : fs[8]? = some v) (hdg : decode cc pc = .ok (.getfield 33, 3)) (kk : W p l e R s m args below meth c H locs cells slots Q (F0 m (pc + 3) ls (v :: rest))) : W p l e R s m args below meth c H locs cells slots Q (F0 m pc ls (.ref b :: rest)) := va_get hC.1 hC.2.1 hC.2.2.2.2 uin_X7 hC.2.2.2.1 hK.1 hP q0 he rfl 8 (by decide) (hC.2.2.2.2 _ qw_285) (fun _ h => h) hv hdg kk
theorem gfX7_370 {ws : va_W} {q0 b : Nat} {fs : List Value} {v : Value} (hC : CallFix p m c cc nL s args lw_all RX7) (hK : zK D kA s) (hP : va_P D vwCl ws H) (he : ws[q0]? = some (b, .inr (7, fs))) (hv : fs[9]? = some v) (hdg : decode cc pc = .ok (.getfield 370, 3)) (kk : W p l e R s m args below meth c H locs cells slots Q (F0 m (pc + 3) ls (v :: rest))) : W p l e R s m args below meth c H locs cells slots Q (F0 m pc ls (.ref b :: rest)) := va_get hC.1 hC.2.1 hC.2.2.2.2 uin_X7 hC.2.2.2.1 hK.1 hP q0 he rfl 9 (by decide) (hC.2.2.2.2 _ qw_286) (fun _ h => h) hv hdg kk
theorem gfX7_79 {ws : va_W} {q0 b : Nat} {fs : List Value} {v : Value} (hC : CallFix p m c cc nL s args lw_all RX7) (hK : zK D kA s) (hP : va_P D vwCl ws H) (he : ws[q0]? = some (b, .inr (7, fs))) (hv : fs[10]? = some v) (hdg : decode cc pc = .ok (.getfield 79, 3)) (kk : W p l e R s m args below meth c H locs cells slots Q (F0 m (pc + 3) ls (v :: rest))) : W p l e R s m args below meth c H locs cells slots Q (F0 m pc ls (.ref b :: rest)) := va_get hC.1 hC.2.1 hC.2.2.2.2 uin_X7 hC.2.2.2.1 hK.1 hP q0 he rfl 10 (by decide) (hC.2.2.2.2 _ qw_287) (fun _ h => h) hv hdg kk
theorem pfX7_370 {ws : va_W} {q0 b : Nat} {fs : List Value} {x : Int} (hC : CallFix p m c cc nL s args lw_all RX7) (hK : zK D kA s) (hP : va_P D vwCl ws H) (hD : va_D A0 ws) (hS : va_S A0 H0 H locs) (he : ws[q0]? = some (b, .inr (7, fs))) (hl : 9 < fs.length) (hdg : decode cc pc = .ok (.putfield 370, 3)) (kk : ∀ (H1 : Heap) (locs1 : List Loc), va_P D vwCl (ws.set q0 (b, .inr (7, fs.set 9 (vI x)))) H1 → va_S A0 H0 H1 locs1 → W p l e R s m args below meth c H1 locs1 cells slots Q (F0 m (pc + 3) ls rest)) : W p l e R s m args below meth c H locs cells slots Q (F0 m pc ls (vI x :: .ref b :: rest)) := va_put hC.1 hC.2.1 hC.2.2.2.2 uin_X7 tyX7 tyX7_ok nmX7 hC.2.2.2.1 hK.1 hP hD hS q0 he rfl 9 (by decide) (hC.2.2.2.2 _ qw_286) (fun _ h => h) rfl (ty := .int) (v := vI x) (by decide +kernel) rfl rfl hl hdg (fun H1 locs1 h1 _ h3 => kk H1 locs1 h1 h3)
theorem pfX7_79 {ws : va_W} {q0 b : Nat} {fs : List Value} {x : Int} (hC : CallFix p m c cc nL s args lw_all RX7) (hK : zK D kA s) (hP : va_P D vwCl ws H) (hD : va_D A0 ws) (hS : va_S A0 H0 H locs) (he : ws[q0]? = some (b, .inr (7, fs))) (hl : 10 < fs.length) (hdg : decode cc pc = .ok (.putfield 79, 3)) (kk : ∀ (H1 : Heap) (locs1 : List Loc), va_P D vwCl (ws.set q0 (b, .inr (7, fs.set 10 (vI x)))) H1 → va_S A0 H0 H1 locs1 → W p l e R s m args below meth c H1 locs1 cells slots Q (F0 m (pc + 3) ls rest)) : W p l e R s m args below meth c H locs cells slots Q (F0 m pc ls (vI x :: .ref b :: rest)) := va_put hC.1 hC.2.1 hC.2.2.2.2 uin_X7 tyX7 tyX7_ok nmX7 hC.2.2.2.1 hK.1 hP hD hS q0 he rfl 10 (by decide) (hC.2.2.2.2 _ qw_287) (fun _ h => h) rfl (ty := .int) (v := vI x) (by decide +kernel) rfl rfl hl hdg (fun H1 locs1 h1 _ h3 => kk H1 locs1 h1 h3)
theorem zwX7_75 : zwV RX7 75 RX4 yX4_become cX4_become 2 none 1 := ⟨⟨qw_485, qw_486, qw_487, qw_2, qw_488⟩, rfl, by decide +kernel, by decide +kernel, by decide +kernel⟩
end ZG
/-! remember() and undo() -/
def zG (ws : va_W) (sz : Nat) : Nat → Prop := fun q => zF ws q ∨ sz ≤ q
/-- a contract of a method that writes in its world and makes cells: what it leaves is some world of a kind -/
def MW (l : Launch) (y : MethodName) (cc : ByteArray) (n : Nat) (ret : Option FieldType) (rm : Room) (D : va_G) (kA : Nat → ClassId) (sz : Nat) (av : List Value) (W0 : va_W) (o : Option Value) (mc ms : Nat) (post : va_W → Prop) : Prop :=
  Met l y (ws_ y cc n ret) rm (va_Pc av (fun U => U.heap.size = sz ∧ va_P D vwCl W0 U.heap ∧ zK D kA U)) (fun _ st oc t => oc = .returned o ∧ ∃ w : va_W, post w ∧ va_P D vwCl w t.heap ∧ va_D (zG W0 sz) w ∧ va_F (zG W0 sz) st t) mc ms (zG W0 sz)
theorem zblindW {D : va_G} {kA : Nat → ClassId} {av : List Value} {W0 : va_W} {sz : Nat} : FrameBlind (va_Pc av (fun U => U.heap.size = sz ∧ va_P D vwCl W0 U.heap ∧ zK D kA U)) := fun _ _ _ _ h => ⟨h.1, h.2.1, h.2.2.1, h.2.2.2.calling⟩
theorem zDmid {A : Nat → Prop} {P w S : va_W} (hD : va_D A (P ++ (w ++ S))) : va_D A w := by
  have atw : ∀ (i : Nat) (q : Nat × va_E), w[i]? = some q → (P ++ (w ++ S))[P.length + i]? = some q := fun i q h => by
    rw [List.getElem?_append_right (by omega), show P.length + i - P.length = i by omega, List.getElem?_append_left (List.getElem?_eq_some_iff.mp h).1]; exact h
  refine ⟨fun i j p q hp hq e => ?_, fun k q hk => hD.2 _ q (atw k q hk)⟩
  have := hD.1 _ _ p q (atw i p hp) (atw j q hq) e
  omega
section ZWW
variable {p : Program} {l : Launch} {e : Env} {R : Room} {s : State} {m : MethodId} {args : Array Value} {below : List Frame} {meth : Method} {c : Code} {H H0 : Heap} {locs : List Loc} {cells slots : Nat} {Q : State → Prop}
variable {pc nL : Nat} {ls : Array Slot} {rest st0 : List Value} {A0 : Nat → Prop} {D : va_G} {kA : Nat → ClassId} {cc : ByteArray} {own : String} {o : Option Value} {a : Array Value} {W0 W1 : va_W}
theorem zWV {y : MethodName} {n sz mc ms : Nat} {rm : Room} {av : List Value} {post : va_W → Prop} (hy : plainName y.cls = true) (hown : y.cls = own) (hlen : (lg_sl av).length ≤ n)
    (body : ∀ (p : Program) (e : Env) (s : State) (m : MethodId) (args : Array Value) (below : List Frame) (meth : Method) (c : Code) (ls : Array Slot) (Q : State → Prop), CallFix p m c cc n s args lw_all own → zK D kA s → va_P D vwCl W0 s.heap → s.heap.size = sz → lv_has ls n (lv_args 0 av) → (∀ (pc : Nat) (ls : Array Slot) (H1 : Heap) (locs1 : List Loc) (w : va_W) (cells slots : Nat), cells ≤ mc → slots ≤ ms → post w → va_P D vwCl w H1 → va_D (zG W0 s.heap.size) w → va_S (zG W0 s.heap.size) s.heap H1 locs1 → decode cc pc = .ok (.return_, 1) → W p l e rm s m args below meth c H1 locs1 cells slots Q (F0 m pc ls [])) → W p l e rm s m args below meth c s.heap [] 0 0 Q (F0 m 0 ls [])) : MW l y cc n none rm D kA sz av W0 none mc ms post := by
  refine Met.ofW (ws' := lw_all) (cc := cc) (maxL := n) (ret := none) hy rfl ?_
  intro p e s m args below meth c s₁ B hml hv
  obtain ⟨rfl, rfl, hP, hK⟩ := hv
  have hts := atoms_spec (ws := ws_ y cc n none) B.pre
  subst hown
  have hC : CallFix p m c cc n s av.toArray lw_all y.cls := ⟨B.exec, B.bytes, hml, findClass_of_methodNamed B.named, fun w h => hts w (List.mem_cons_of_mem _ h)⟩
  refine zentry hlen (fun ls hl => ?_)
  refine body p e s m _ below meth c ls _ hC hK hP rfl hl (fun  pc ls H1 locs1 w cells slots hc hs  hw hP1 hD1 hS1 hdg => ?_)
  refine W.widen (k := mc) (n := ms) hc hs ?_
  exact W.vret hC.1 hC.2.1 B.returns (fun t ht _ => ⟨rfl, w, hw, by rw [ht]; exact hP1, hD1, hS1.F ht⟩) hS1.2.2 hdg B.notSynchronized
theorem zWI {y : MethodName} {n sz mc ms : Nat} {rm : Room} {av : List Value} {post : va_W → Prop} (hy : plainName y.cls = true) (hown : y.cls = own) (hlen : (lg_sl av).length ≤ n)
    (body : ∀ (p : Program) (e : Env) (s : State) (m : MethodId) (args : Array Value) (below : List Frame) (meth : Method) (c : Code) (ls : Array Slot) (Q : State → Prop), CallFix p m c cc n s args lw_all own → zK D kA s → va_P D vwCl W0 s.heap → s.heap.size = sz → lv_has ls n (lv_args 0 av) → (∀ (v : Int32) (pc : Nat) (ls : Array Slot) (H1 : Heap) (locs1 : List Loc) (w : va_W) (cells slots : Nat), cells ≤ mc → slots ≤ ms → o = some (.int v) → post w → va_P D vwCl w H1 → va_D (zG W0 s.heap.size) w → va_S (zG W0 s.heap.size) s.heap H1 locs1 → decode cc pc = .ok (.ireturn, 1) → W p l e rm s m args below meth c H1 locs1 cells slots Q (F0 m pc ls [.int v])) → W p l e rm s m args below meth c s.heap [] 0 0 Q (F0 m 0 ls [])) : MW l y cc n (some .int) rm D kA sz av W0 o mc ms post := by
  refine Met.ofW (ws' := lw_all) (cc := cc) (maxL := n) (ret := (some .int)) hy rfl ?_
  intro p e s m args below meth c s₁ B hml hv
  obtain ⟨rfl, rfl, hP, hK⟩ := hv
  have hts := atoms_spec (ws := ws_ y cc n (some .int)) B.pre
  subst hown
  have hC : CallFix p m c cc n s av.toArray lw_all y.cls := ⟨B.exec, B.bytes, hml, findClass_of_methodNamed B.named, fun w h => hts w (List.mem_cons_of_mem _ h)⟩
  refine zentry hlen (fun ls hl => ?_)
  refine body p e s m _ below meth c ls _ hC hK hP rfl hl (fun v pc ls H1 locs1 w cells slots hc hs ho hw hP1 hD1 hS1 hdg => ?_)
  refine W.widen (k := mc) (n := ms) hc hs ?_
  exact W.iret (v := v) hC.1 hC.2.1 B.returns (fun t ht _ => ⟨by rw [ho], w, hw, by rw [ht]; exact hP1, hD1, hS1.F ht⟩) hS1.2.2 hdg B.notSynchronized
theorem zbackW {mc ms : Nat} {post : va_W → Prop} (hr : va_Run p l e R s m args below meth c H locs cells slots mc ms (F0 m pc ls st0) rest (fun st oc t => oc = .returned o ∧ ∃ w : va_W, post w ∧ va_P D vwCl w t.heap ∧ va_D (zG W0 H.size) w ∧ va_F (zG W0 H.size) st t) (zG W0 H.size)) (hS : va_S A0 H0 H locs) (hA : ∀ q, zF W0 q → A0 q) (hN : ∀ q, H0.size ≤ q → A0 q)
    (kk : ∀ (w : va_W) (H1 : Heap) (locs1 : List Loc), post w → va_P D vwCl w H1 → va_D (zG W0 H.size) w → H.size ≤ H1.size → (∀ q : Nat, q < H.size → ¬ zF W0 q → H1[q]? = H[q]?) → va_S A0 H0 H1 locs1 → W p l e R s m args below meth c H1 locs1 (cells + mc) (slots + ms) Q (F0 m (pc + 3) ls (o.toList ++ rest))) : W p l e R s m args below meth c H locs cells slots Q (F0 m pc ls st0) := by
  have hzA : ∀ q, zG W0 H.size q → A0 q := fun q hq => hq.elim (hA q) (fun h => hN q (Nat.le_trans hS.1 h))
  intro T hT X
  obtain ⟨v, st₀, t, T', L, h0, X', hL, e1, e2, ⟨hv, w, hw, hP1, hD1, hz, hk⟩, st⟩ := hr T hT X
  cases hv
  rw [h0] at hz hk
  obtain ⟨t2, a1, b1⟩ := kk w T'.heap (locs ++ L) hw (by rw [e1]; exact hP1) hD1 (by rw [e1]; exact hz) (fun q h1 h2 => by rw [e1]; exact hk q h1 (fun z => z.elim h2 (fun h => absurd h1 (Nat.not_lt.mpr h))))
    ⟨Nat.le_trans hS.1 (by rw [e1]; exact hz), fun q h1 h2 => by rw [e1, hk q (Nat.lt_of_lt_of_le h1 hS.1) (fun z => h2 (hzA q z))]; exact hS.2.1 q h1 h2, fun q hq => by
      rcases List.mem_append.mp hq with h | h
      · exact hS.2.2 q h
      · exact hzA _ (hL q h)⟩ T' rfl X'
  exact ⟨t2, st t2 a1, b1⟩
theorem zcVW {idx n k mc ms : Nat} {C : String} {y : MethodName} {b : ByteArray} {ret : Option FieldType} {rm : Room} {b0 ci q0 : Nat} {fs As : List Value} {r : vw_C} {post : va_W → Prop} (hC : CallFix p m c cc nL s args lw_all own) (hK : zK D kA s) (hM : MW l y b n ret rm D kA H.size (.ref b0 :: As) W0 o mc ms post) (hw : zwV own idx C y b n ret k) (hS : va_S A0 H0 H locs) (hA : ∀ q, zF W0 q → A0 q) (hN : ∀ q, H0.size ≤ q → A0 q)
    (hPc : va_P D vwCl W0 H) (he : W0[q0]? = some (b0, .inr (ci, fs))) (hc : vwCl[ci]? = some r) (hrC : r.1 = C) (hk : As.length = k) (hl : ls.size = nL) (hst : st0 = As.reverse ++ .ref b0 :: rest) (hcat : (rest.map fun v => v.category).sum ≤ 8) (hR : rm.frames + 1 ≤ R.frames ∧ 8 + (n + 11) + rm.locals ≤ R.locals) (hrm : rm.cells = mc ∧ rm.slots = ms) (hf : cells + mc ≤ R.cells ∧ slots + ms ≤ R.slots) (hdg : decode cc pc = .ok (.invokevirtual idx, 3))
    (kk : ∀ (w : va_W) (H1 : Heap) (locs1 : List Loc), post w → va_P D vwCl w H1 → va_D (zG W0 H.size) w → H.size ≤ H1.size → (∀ q : Nat, q < H.size → ¬ zF W0 q → H1[q]? = H[q]?) → va_S A0 H0 H1 locs1 → W p l e R s m args below meth c H1 locs1 (cells + mc) (slots + ms) Q (F0 m (pc + 3) ls (o.toList ++ rest))) : W p l e R s m args below meth c H locs cells slots Q (F0 m pc ls st0) := by
  subst hrC
  exact zbackW (va_runV (g := F0 m pc ls st0) (As := As) (rest := rest) hC hM (zcwV hC.2.2.2.2 hw hR hrm.1 hrm.2) ⟨zblindW, va_recv hK.1 hPc hc he, fun U hU hW => ⟨rfl, by rw [hU], by rw [hU]; exact hPc, hK.warm hW⟩⟩ rfl hk hl hst (lv_room hcat) hdg hf) hS hA hN kk
theorem zcSW {idx n k mc ms : Nat} {y : MethodName} {b : ByteArray} {ret : Option FieldType} {rm : Room} {As : List Value} {post : va_W → Prop} (hC : CallFix p m c cc nL s args lw_all own) (hK : zK D kA s) (hM : MW l y b n ret rm D kA H.size As W0 o mc ms post) (hw : zwS own idx y b n ret k) (hS : va_S A0 H0 H locs) (hA : ∀ q, zF W0 q → A0 q) (hN : ∀ q, H0.size ≤ q → A0 q)
    (hPc : va_P D vwCl W0 H) (hk : As.length = k) (hl : ls.size = nL) (hst : st0 = As.reverse ++ rest) (hcat : (rest.map fun v => v.category).sum ≤ 8) (hR : rm.frames + 1 ≤ R.frames ∧ 8 + (n + 11) + rm.locals ≤ R.locals) (hrm : rm.cells = mc ∧ rm.slots = ms) (hf : cells + mc ≤ R.cells ∧ slots + ms ≤ R.slots) (hdg : decode cc pc = .ok (.invokestatic idx, 3))
    (kk : ∀ (w : va_W) (H1 : Heap) (locs1 : List Loc), post w → va_P D vwCl w H1 → va_D (zG W0 H.size) w → H.size ≤ H1.size → (∀ q : Nat, q < H.size → ¬ zF W0 q → H1[q]? = H[q]?) → va_S A0 H0 H1 locs1 → W p l e R s m args below meth c H1 locs1 (cells + mc) (slots + ms) Q (F0 m (pc + 3) ls (o.toList ++ rest))) : W p l e R s m args below meth c H locs cells slots Q (F0 m pc ls st0) :=
  zbackW (va_runS (g := F0 m pc ls st0) (As := As) (rest := rest) hC hM (zcwS hC.2.2.2.2 hw hR hrm.1 hrm.2) ⟨zblindW, fun U hU hW => ⟨rfl, by rw [hU], by rw [hU]; exact hPc, hK.warm hW⟩⟩ rfl hk hl hst (lv_room hcat) hdg hf) hS hA hN kk
end ZWW
/-- the ledger of now among the register's cells -/
theorem csX7_now (kA : Nat → ClassId) (a : Nat → Nat) (V X : Sz) (pf : Nat → Option Nat) : cs_X7 kA a V X pf = (cs_X7 kA a V X pf).take 2 ++ (cs_X4 kA (sv 2 a) (sv 4 V) ++ (cs_X7 kA a V X pf).drop 26) := rfl
theorem csX7_nowm {kA : Nat → ClassId} {a : Nat → Nat} {V X : Sz} {pf : Nat → Option Nat} {q : Nat × va_E} (h : q ∈ cs_X4 kA (sv 2 a) (sv 4 V)) : q ∈ cs_X7 kA a V X pf := by
  rw [csX7_now]
  exact List.mem_append_right _ (List.mem_append_left _ h)
def f_X7_remember (V : Sz) (PV : Nat → Sz) (K : Nat) : Option (Sz × (Nat → Sz) × Nat) :=
  ck (inZ (V 86 0) 10) <| ck ((V 86 0).toNat ≤ K) <| bd (f_X4_become (if (V 86 0).toNat < K then PV (V 86 0).toNat else z0_X4) (sv 4 V)) fun (G : Sz) => nm (us V 86 ((V 86 0 + 1) % 10)) fun (Va : Sz) => ck (rng (Va 87 0 + 1)) <| nm (us Va 87 (min (Va 87 0 + 1) 10)) fun (Vb : Sz) => some (Vb, zup PV (V 86 0).toNat G, max K ((V 86 0).toNat + 1))
def f_X7_undo (V : Sz) (PV : Nat → Sz) (K : Nat) : Option (Int × Sz) :=
  ck (0 ≤ V 86 0 + 10 - 1 ∧ V 86 0 + 10 - 1 < 2147483648) <| nm ((V 86 0 + 10 - 1) % 10) fun (y : Int) => ck (rng (V 87 0)) <| if V 87 0 = 0 then some (-1, V) else if y.toNat < K then (bd (f_X4_become (sv 4 V) (PV y.toNat)) fun (G : Sz) => nm (sw 4 27 V G) fun (Va : Sz) => nm (us Va 86 y) fun (Vb : Sz) => nm (us Vb 87 (Vb 87 0 - 1)) fun (Vc : Sz) => some (Vc 87 0, Vc)) else some (-1, V)
theorem DX7_remember_0 : ∀ q ∈ ([(0, .aload_n 0, 1), (1, .getfield 33, 3), (4, .aload_n 0, 1), (5, .getfield 370, 3), (8, .aaload, 1), (9, .astore_n 1, 1), (10, .aload_n 1, 1), (11, .ifnonnull 21, 3), (14, .new 20, 3), (17, .dup, 1), (18, .invokespecial 22, 3), (21, .astore_n 1, 1), (22, .aload_n 0, 1), (23, .getfield 33, 3), (26, .aload_n 0, 1), (27, .getfield 370, 3), (30, .aload_n 1, 1), (31, .aastore, 1), (32, .aload_n 1, 1), (33, .aload_n 0, 1), (34, .getfield 23, 3), (37, .invokevirtual 75, 3), (40, .aload_n 0, 1), (41, .aload_n 0, 1), (42, .getfield 370, 3), (45, .iconst 1, 1), (46, .iadd, 1), (47, .bipush 10, 2), (49, .irem, 1), (50, .putfield 370, 3), (53, .aload_n 0, 1), (54, .aload_n 0, 1), (55, .getfield 79, 3), (58, .iconst 1, 1), (59, .iadd, 1), (60, .bipush 10, 2), (62, .invokestatic 375, 3), (65, .putfield 79, 3), (68, .return_, 1)] : List (Nat × Instr × Nat)), decode cX7_remember q.1 = .ok q.2 := by decide +kernel
theorem dX7_remember_0 : decode cX7_remember 0 = .ok (.aload_n 0, 1) := DX7_remember_0 (0, .aload_n 0, 1) (List.mem_of_getElem? (i := 0) rfl)
theorem dX7_remember_1 : decode cX7_remember 1 = .ok (.getfield 33, 3) := DX7_remember_0 (1, .getfield 33, 3) (List.mem_of_getElem? (i := 1) rfl)
theorem dX7_remember_4 : decode cX7_remember 4 = .ok (.aload_n 0, 1) := DX7_remember_0 (4, .aload_n 0, 1) (List.mem_of_getElem? (i := 2) rfl)
theorem dX7_remember_5 : decode cX7_remember 5 = .ok (.getfield 370, 3) := DX7_remember_0 (5, .getfield 370, 3) (List.mem_of_getElem? (i := 3) rfl)
theorem dX7_remember_8 : decode cX7_remember 8 = .ok (.aaload, 1) := DX7_remember_0 (8, .aaload, 1) (List.mem_of_getElem? (i := 4) rfl)
theorem dX7_remember_9 : decode cX7_remember 9 = .ok (.astore_n 1, 1) := DX7_remember_0 (9, .astore_n 1, 1) (List.mem_of_getElem? (i := 5) rfl)
theorem dX7_remember_10 : decode cX7_remember 10 = .ok (.aload_n 1, 1) := DX7_remember_0 (10, .aload_n 1, 1) (List.mem_of_getElem? (i := 6) rfl)
theorem dX7_remember_11 : decode cX7_remember 11 = .ok (.ifnonnull 21, 3) := DX7_remember_0 (11, .ifnonnull 21, 3) (List.mem_of_getElem? (i := 7) rfl)
theorem dX7_remember_14 : decode cX7_remember 14 = .ok (.new 20, 3) := DX7_remember_0 (14, .new 20, 3) (List.mem_of_getElem? (i := 8) rfl)
theorem dX7_remember_17 : decode cX7_remember 17 = .ok (.dup, 1) := DX7_remember_0 (17, .dup, 1) (List.mem_of_getElem? (i := 9) rfl)
theorem dX7_remember_18 : decode cX7_remember 18 = .ok (.invokespecial 22, 3) := DX7_remember_0 (18, .invokespecial 22, 3) (List.mem_of_getElem? (i := 10) rfl)
theorem dX7_remember_21 : decode cX7_remember 21 = .ok (.astore_n 1, 1) := DX7_remember_0 (21, .astore_n 1, 1) (List.mem_of_getElem? (i := 11) rfl)
theorem dX7_remember_22 : decode cX7_remember 22 = .ok (.aload_n 0, 1) := DX7_remember_0 (22, .aload_n 0, 1) (List.mem_of_getElem? (i := 12) rfl)
theorem dX7_remember_23 : decode cX7_remember 23 = .ok (.getfield 33, 3) := DX7_remember_0 (23, .getfield 33, 3) (List.mem_of_getElem? (i := 13) rfl)
theorem dX7_remember_26 : decode cX7_remember 26 = .ok (.aload_n 0, 1) := DX7_remember_0 (26, .aload_n 0, 1) (List.mem_of_getElem? (i := 14) rfl)
theorem dX7_remember_27 : decode cX7_remember 27 = .ok (.getfield 370, 3) := DX7_remember_0 (27, .getfield 370, 3) (List.mem_of_getElem? (i := 15) rfl)
theorem dX7_remember_30 : decode cX7_remember 30 = .ok (.aload_n 1, 1) := DX7_remember_0 (30, .aload_n 1, 1) (List.mem_of_getElem? (i := 16) rfl)
theorem dX7_remember_31 : decode cX7_remember 31 = .ok (.aastore, 1) := DX7_remember_0 (31, .aastore, 1) (List.mem_of_getElem? (i := 17) rfl)
theorem dX7_remember_32 : decode cX7_remember 32 = .ok (.aload_n 1, 1) := DX7_remember_0 (32, .aload_n 1, 1) (List.mem_of_getElem? (i := 18) rfl)
theorem dX7_remember_33 : decode cX7_remember 33 = .ok (.aload_n 0, 1) := DX7_remember_0 (33, .aload_n 0, 1) (List.mem_of_getElem? (i := 19) rfl)
theorem dX7_remember_34 : decode cX7_remember 34 = .ok (.getfield 23, 3) := DX7_remember_0 (34, .getfield 23, 3) (List.mem_of_getElem? (i := 20) rfl)
theorem dX7_remember_37 : decode cX7_remember 37 = .ok (.invokevirtual 75, 3) := DX7_remember_0 (37, .invokevirtual 75, 3) (List.mem_of_getElem? (i := 21) rfl)
theorem dX7_remember_40 : decode cX7_remember 40 = .ok (.aload_n 0, 1) := DX7_remember_0 (40, .aload_n 0, 1) (List.mem_of_getElem? (i := 22) rfl)
theorem dX7_remember_41 : decode cX7_remember 41 = .ok (.aload_n 0, 1) := DX7_remember_0 (41, .aload_n 0, 1) (List.mem_of_getElem? (i := 23) rfl)
theorem dX7_remember_42 : decode cX7_remember 42 = .ok (.getfield 370, 3) := DX7_remember_0 (42, .getfield 370, 3) (List.mem_of_getElem? (i := 24) rfl)
theorem dX7_remember_45 : decode cX7_remember 45 = .ok (.iconst 1, 1) := DX7_remember_0 (45, .iconst 1, 1) (List.mem_of_getElem? (i := 25) rfl)
theorem dX7_remember_46 : decode cX7_remember 46 = .ok (.iadd, 1) := DX7_remember_0 (46, .iadd, 1) (List.mem_of_getElem? (i := 26) rfl)
theorem dX7_remember_47 : decode cX7_remember 47 = .ok (.bipush 10, 2) := DX7_remember_0 (47, .bipush 10, 2) (List.mem_of_getElem? (i := 27) rfl)
theorem dX7_remember_49 : decode cX7_remember 49 = .ok (.irem, 1) := DX7_remember_0 (49, .irem, 1) (List.mem_of_getElem? (i := 28) rfl)
theorem dX7_remember_50 : decode cX7_remember 50 = .ok (.putfield 370, 3) := DX7_remember_0 (50, .putfield 370, 3) (List.mem_of_getElem? (i := 29) rfl)
theorem dX7_remember_53 : decode cX7_remember 53 = .ok (.aload_n 0, 1) := DX7_remember_0 (53, .aload_n 0, 1) (List.mem_of_getElem? (i := 30) rfl)
theorem dX7_remember_54 : decode cX7_remember 54 = .ok (.aload_n 0, 1) := DX7_remember_0 (54, .aload_n 0, 1) (List.mem_of_getElem? (i := 31) rfl)
theorem dX7_remember_55 : decode cX7_remember 55 = .ok (.getfield 79, 3) := DX7_remember_0 (55, .getfield 79, 3) (List.mem_of_getElem? (i := 32) rfl)
theorem dX7_remember_58 : decode cX7_remember 58 = .ok (.iconst 1, 1) := DX7_remember_0 (58, .iconst 1, 1) (List.mem_of_getElem? (i := 33) rfl)
theorem dX7_remember_59 : decode cX7_remember 59 = .ok (.iadd, 1) := DX7_remember_0 (59, .iadd, 1) (List.mem_of_getElem? (i := 34) rfl)
theorem dX7_remember_60 : decode cX7_remember 60 = .ok (.bipush 10, 2) := DX7_remember_0 (60, .bipush 10, 2) (List.mem_of_getElem? (i := 35) rfl)
theorem dX7_remember_62 : decode cX7_remember 62 = .ok (.invokestatic 375, 3) := DX7_remember_0 (62, .invokestatic 375, 3) (List.mem_of_getElem? (i := 36) rfl)
theorem dX7_remember_65 : decode cX7_remember 65 = .ok (.putfield 79, 3) := DX7_remember_0 (65, .putfield 79, 3) (List.mem_of_getElem? (i := 37) rfl)
theorem dX7_remember_68 : decode cX7_remember 68 = .ok (.return_, 1) := DX7_remember_0 (68, .return_, 1) (List.mem_of_getElem? (i := 38) rfl)
abbrev rmX7_remember : Room := { frames := 4, cells := 24, slots := 2040, locals := 123 }
set_option maxHeartbeats 4000000 in
set_option maxRecDepth 100000 in
theorem met_X7_remember (l : Launch) (D : va_G) (kA : Nat → ClassId) (a : Nat → Nat) (pa : Nat → Nat → Nat) (V X : Sz) (PV : Nat → Sz) (K sz : Nat) (hD0 : va_D (fun _ => True) (cs_X7 kA a V X (zpf pa K) ++ cs_P kA pa PV K)) {Vr : Sz} {PVr : Nat → Sz} {Kr : Nat} (hf : f_X7_remember V PV K = some (Vr, PVr, Kr)) : MW l yX7_remember cX7_remember 2 none rmX7_remember D kA sz [.ref (a 0)] (cs_X7 kA a V X (zpf pa K) ++ cs_P kA pa PV K) none 24 2040 (fun w => ∃ pa1 : Nat → Nat → Nat, w = cs_X7 kA a Vr X (zpf pa1 Kr) ++ cs_P kA pa1 PVr Kr) := by
  refine zWV (own := RX7) rfl rfl (Nat.le_of_ble_eq_true rfl) ?_
  intro p e s m args below meth c ls Q hC hK hP hsz hl hret
  have hl : lv_has ls 2 [(0, .ref (a 0))] := hl
  have hS : va_S (zG (cs_X7 kA a V X (zpf pa K) ++ cs_P kA pa PV K) s.heap.size) s.heap s.heap [] := va_S.rf
  have hA : ∀ q, s.heap.size ≤ q → zG (cs_X7 kA a V X (zpf pa K) ++ cs_P kA pa PV K) s.heap.size q := fun q h => Or.inr h
  have hD : va_D (zG (cs_X7 kA a V X (zpf pa K) ++ cs_P kA pa PV K) s.heap.size) (cs_X7 kA a V X (zpf pa K) ++ cs_P kA pa PV K) := ⟨hD0.1, fun k q hk => Or.inl ⟨k, q.2, hk⟩⟩
  generalize hAe : zG (cs_X7 kA a V X (zpf pa K) ++ cs_P kA pa PV K) s.heap.size = A0 at hS hD hA hret
  unfold f_X7_remember at hf
  obtain ⟨h1, hf⟩ := ck_some hf
  obtain ⟨h2, hf⟩ := ck_some hf
  obtain ⟨G, hG, hf⟩ := bd_some hf
  obtain ⟨Va, eVa⟩ : ∃ y, y = us V 86 ((V 86 0 + 1) % 10) := ⟨_, rfl⟩
  have hf := nm_at hf eVa
  obtain ⟨h3, hf⟩ := ck_some hf
  obtain ⟨Vb, eVb⟩ : ∃ y, y = us Va 87 (min (Va 87 0 + 1) 10) := ⟨_, rfl⟩
  have hf := nm_at hf eVb
  have hi := oI_idx h1 (by decide)
  have eP : V 86 0 = ((V 86 0).toNat : Int) := by omega
  obtain ⟨i, ei⟩ : ∃ i, i = (V 86 0).toNat := ⟨_, rfl⟩
  have hi10 : i < 10 := by omega
  rw [← ei] at hf hG h2
  have T32 : ∀ (pa1 : Nat → Nat → Nat) (PVq : Nat → Sz) (K1 : Nat) (H : Heap) (locs : List Loc) (ls : Array Slot) (cells slots : Nat), cells ≤ 24 → slots ≤ 2040 → i < K1 → f_X4_become (PVq i) (sv 4 V) = some G → K1 = max K (i + 1) → (∀ j, j < K1 → zup PVq i G j = zup PV i G j) → va_P D vwCl (cs_X7 kA a V X (zpf pa1 K1) ++ cs_P kA pa1 PVq K1) H → va_D A0 (cs_X7 kA a V X (zpf pa1 K1) ++ cs_P kA pa1 PVq K1) → va_S A0 s.heap H locs → lv_has ls 2 [(1, .ref (pa1 i 0)), (0, .ref (a 0))] → W p l e rmX7_remember s m args below meth c H locs cells slots Q (F0 m 32 ls []) := by
    intro pa1 PVq K1 H locs ls cells slots hc24 hs24 hiK hG1 hK1 hPV hP hD hS hl
    obtain ⟨B1, A1, hBA⟩ := csP_split (kA := kA) (pa := pa1) (PV := PVq) K1 hiK
    have hB0 := hBA (PVq i)
    rw [zup_self] at hB0
    have hPx : va_P D vwCl ((cs_X7 kA a V X (zpf pa1 K1) ++ B1) ++ (cs_X4 kA (pa1 i) (PVq i) ++ A1)) H := by rw [List.append_assoc, ← hB0]; exact hP
    have hDx : va_D A0 ((cs_X7 kA a V X (zpf pa1 K1) ++ B1) ++ (cs_X4 kA (pa1 i) (PVq i) ++ A1)) := by rw [List.append_assoc, ← hB0]; exact hD
    have hDy : ∀ x : Sz, va_D A0 ((cs_X7 kA a V X (zpf pa1 K1) ++ B1) ++ (cs_X4 kA (pa1 i) x ++ A1)) := zDany (C := fun x => (cs_X7 kA a V X (zpf pa1 K1) ++ B1) ++ (cs_X4 kA (pa1 i) x ++ A1)) (PVq i) (fun x => by simp only [List.map_append]; rfl) hDx
    have hgm : ∀ q ∈ cs_X4 kA (sv 2 a) (sv 4 V), q ∈ (cs_X7 kA a V X (zpf pa1 K1) ++ B1) ∨ q ∈ A1 := fun q h => Or.inl (List.mem_append_left _ (csX7_nowm h))
    have hg : va_D A0 (cs_X4 kA (sv 2 a) (sv 4 V)) := by
      have h9 := hD
      rw [csX7_now, List.append_assoc, List.append_assoc] at h9
      exact zDmid h9
    have hDc : ∀ x : Sz, va_D (fun _ => True) (cs_X4 kA (pa1 i) x ++ cs_X4 kA (sv 2 a) (sv 4 V)) := fun x => zDpart (hDy x) hg hgm
    have hPc : va_P D vwCl (cs_X4 kA (pa1 i) (PVq i) ++ cs_X4 kA (sv 2 a) (sv 4 V)) H := zPof (fun q hq => by
      rcases List.mem_append.mp hq with h | h
      · exact zPmem hPx (List.mem_append_right _ (List.mem_append_left _ h))
      · exact zPmem hP (List.mem_append_left _ (csX7_nowm h)))
    have hFA : ∀ q, zF (cs_X4 kA (pa1 i) (PVq i) ++ cs_X4 kA (sv 2 a) (sv 4 V)) q → A0 q := by
      rintro q ⟨k, e, hk⟩
      rcases List.mem_append.mp (List.mem_of_getElem? hk) with h | h
      · obtain ⟨j, hj⟩ := List.getElem?_of_mem (List.mem_append_right (cs_X7 kA a V X (zpf pa1 K1) ++ B1) (List.mem_append_left A1 h))
        exact hDx.2 j _ hj
      · obtain ⟨j, hj⟩ := List.getElem?_of_mem h
        exact hg.2 j _ hj
    refine lv_aload_n hC.1 hC.2.1 dX7_remember_32 rfl (lv_at hl 0 rfl) <| lv_aload_n hC.1 hC.2.1 dX7_remember_33 rfl (lv_at hl 1 rfl) <| gfX7_23 hC hK hP (q0 := 0) rfl rfl dX7_remember_34 ?_
    refine zcVZ (As := [.ref (a 2)]) (rest := []) hC hK (met_X4_become l D kA (pa1 i) (sv 2 a) (PVq i) (sv 4 V) hDc hG1) zwX7_75 hS hFA hPc (q0 := 0) rfl rfl rfl rfl hl.1 rfl (Nat.le_of_ble_eq_true rfl) ⟨(Nat.le_of_ble_eq_true rfl), (Nat.le_of_ble_eq_true rfl)⟩ ⟨rfl, rfl⟩ ⟨hc24, hs24⟩ dX7_remember_37 (fun H locs hP1 hk1 hS => ?_)
    have hP : va_P D vwCl (cs_X7 kA a V X (zpf pa1 K1) ++ cs_P kA pa1 (zup PVq i G) K1) H := by
      rw [hBA G, ← List.append_assoc]
      exact zjoinG hPx (hDx.weaken (fun _ _ _ _ => trivial)) hgm hk1 hP1
    have hD : va_D A0 (cs_X7 kA a V X (zpf pa1 K1) ++ cs_P kA pa1 (zup PVq i G) K1) := by
      rw [hBA G, ← List.append_assoc]
      exact hDy G
    have eW : cs_P kA pa1 (zup PVq i G) K1 = cs_P kA pa1 (zup PV i G) K1 := csP_ext K1 (fun j hj => ⟨rfl, hPV j hj⟩)
    rw [eW] at hP hD
    have hDw : ∀ w : Sz, va_D A0 (cs_X7 kA a w X (zpf pa1 K1) ++ cs_P kA pa1 (zup PV i G) K1) := zDany (C := fun w => cs_X7 kA a w X (zpf pa1 K1) ++ cs_P kA pa1 (zup PV i G) K1) V (fun _ => rfl) hD
    obtain ⟨WP, eWP⟩ : ∃ z, z = cs_P kA pa1 (zup PV i G) K1 := ⟨_, rfl⟩
    rw [← eWP] at hP hD
    have hDw : ∀ w : Sz, va_D A0 (cs_X7 kA a w X (zpf pa1 K1) ++ WP) := by rw [eWP]; exact hDw
    refine lv_aload_n hC.1 hC.2.1 dX7_remember_40 rfl (lv_at hl 1 rfl) <| lv_aload_n hC.1 hC.2.1 dX7_remember_41 rfl (lv_at hl 1 rfl) <| gfX7_370 hC hK hP (q0 := 0) rfl rfl dX7_remember_42 <| ziconst hC.1 hC.2.1 dX7_remember_45 <| ziadd hC.1 hC.2.1 dX7_remember_46 <| zbipush hC.1 hC.2.1 dX7_remember_47 (by decide) <| zirem hC.1 hC.2.1 ⟨by omega, by omega, by decide, by decide⟩ dX7_remember_49 ?_
    refine pfX7_370 hC hK hP (hDw V) hS (q0 := 0) rfl (Nat.le_of_ble_eq_true rfl) dX7_remember_50 (fun H locs hP hS => ?_)
    have hP : va_P D vwCl (cs_X7 kA a Va X (zpf pa1 K1) ++ WP) H := by rw [eVa]; exact hP
    refine lv_aload_n hC.1 hC.2.1 dX7_remember_53 rfl (lv_at hl 1 rfl) <| lv_aload_n hC.1 hC.2.1 dX7_remember_54 rfl (lv_at hl 1 rfl) <| gfX7_79 hC hK hP (q0 := 0) rfl rfl dX7_remember_55 <| ziconst hC.1 hC.2.1 dX7_remember_58 <| ziadd hC.1 hC.2.1 dX7_remember_59 <| zbipush hC.1 hC.2.1 dX7_remember_60 (by decide) <| jmin ⟨h3, by decide⟩ hC qw_492 hl.1 (Nat.le_of_ble_eq_true rfl) ⟨(Nat.le_of_ble_eq_true rfl), (Nat.le_of_ble_eq_true rfl)⟩ ⟨hc24, hs24⟩ dX7_remember_62 ?_
    refine pfX7_79 hC hK hP (hDw Va) hS (q0 := 0) rfl (Nat.le_of_ble_eq_true rfl) dX7_remember_65 (fun H locs hP hS => ?_)
    have hP : va_P D vwCl (cs_X7 kA a Vb X (zpf pa1 K1) ++ WP) H := by rw [eVb]; exact hP
    have hf := Option.some.inj hf
    simp only [Prod.mk.injEq] at hf
    obtain ⟨e1, e2, e3⟩ := hf
    refine hret _ _ _ _ _ _ _ hc24 hs24 ⟨pa1, ?_⟩ hP (hDw Vb) hS dX7_remember_68
    rw [← e1, ← e2, ← e3, ← hK1, ← eWP]
  refine lv_aload_n hC.1 hC.2.1 dX7_remember_0 rfl (lv_at hl 0 rfl) <| gfX7_33 hC hK hP (q0 := 0) rfl rfl dX7_remember_1 <| lv_aload_n hC.1 hC.2.1 dX7_remember_4 rfl (lv_at hl 0 rfl) <| gfX7_370 hC hK hP (q0 := 0) rfl rfl dX7_remember_5 ?_
  refine va_aldq hC.1 hC.2.1 hK.1 hP 74 3 (f := zpf pa K) (i := Int32.ofInt (V 86 0)) rfl rfl (inb_in hi.1) dX7_remember_8 ?_
  rw [hi.2, ← ei]
  by_cases hiK : i < K
  · rw [show zpf pa K i = some (pa i 0) from if_pos hiK]
    rw [if_pos hiK] at hG
    refine lv_astore_n (lv' := [(1, .ref (pa i 0)), (0, .ref (a 0))]) (x := pa i 0) hC.1 hC.2.1 dX7_remember_9 rfl hl (by decide) rfl (fun ls hl => ?_)
    refine lv_aload_n hC.1 hC.2.1 dX7_remember_10 rfl (lv_at hl 0 rfl) <| lv_ifnonnull (tgt := 32) hC.1 hC.2.1 dX7_remember_11 (by decide) ?_
    exact T32 pa PV K s.heap [] ls 0 0 (Nat.zero_le _) (Nat.zero_le _) hiK hG (by omega) (fun j _ => rfl) hP hD hS hl
  · have hiK : i = K := by omega
    rw [show zpf pa K i = none from if_neg (by omega)]
    rw [if_neg (by omega)] at hG
    subst hiK
    refine lv_astore_nN (lv' := [(1, .null), (0, .ref (a 0))]) hC.1 hC.2.1 dX7_remember_9 rfl hl (by decide) rfl (fun ls hl => ?_)
    refine lv_aload_nN hC.1 hC.2.1 dX7_remember_10 rfl (lv_at hl 0 rfl) <| lv_ifnonnullN hC.1 hC.2.1 dX7_remember_11 ?_
    refine va_new (ci := 4) (fs := [vI 0, vI 0, vI 0, vI 0, .null, .null, .null, .null, .null, .null, .null, .null]) (C := RX4) (T := TX4) (N := 12) hC.1 hC.2.1 hC.2.2.2.2 uin_X4 tyX4 tyX4_ok hC.2.2.2.1 (hC.2.2.2.2 _ qw_31) (hC.2.2.2.2 _ qw_32) (hC.2.2.2.2 _ qw_2) hK.1 hP hD hS hA rfl (fun j hj => by rcases (show j = 0 ∨ j = 1 ∨ j = 2 ∨ j = 3 ∨ j = 4 ∨ j = 5 ∨ j = 6 ∨ j = 7 ∨ j = 8 ∨ j = 9 ∨ j = 10 ∨ j = 11 by omega) with rfl | rfl | rfl | rfl | rfl | rfl | rfl | rfl | rfl | rfl | rfl | rfl <;> rfl) (Nat.le_of_ble_eq_true rfl) (Nat.le_of_ble_eq_true rfl) dX7_remember_14 (fun q1 H hP hD hS => ?_)
    refine lv_dup hC.1 hC.2.1 dX7_remember_17 rfl ?_
    refine zcNew (idx := 0) (k := 0) (As := []) (rest := [.ref q1]) (n := 1) hC hK (ini_X4 l D kA q1 H.size) hP hD hS hA (fun hM hp => va_runI hC hM (cwI (Ts := lw_all) 0 hC.2.2.2.2 (good_ws qw_35) rfl rfl rfl (hC.2.2.2.2 _ qw_2) (hC.2.2.2.2 _ qw_33) (hC.2.2.2.2 _ qw_34) rfl (by decide +kernel) ⟨(Nat.le_of_ble_eq_true rfl), (Nat.le_of_ble_eq_true rfl)⟩) hp rfl rfl hl.1 rfl (lv_room (Nat.le_of_ble_eq_true rfl)) dX7_remember_18 ⟨(Nat.le_of_ble_eq_true rfl), (Nat.le_of_ble_eq_true rfl)⟩) (fun w H locs hw hP hD hS => ?_)
    obtain ⟨a2, rfl, rfl⟩ := hw
    refine lv_astore_n (lv' := [(1, .ref (a2 0)), (0, .ref (a 0))]) (x := a2 0) hC.1 hC.2.1 dX7_remember_21 rfl hl (by decide) rfl (fun ls hl => ?_)
    refine lv_aload_n hC.1 hC.2.1 dX7_remember_22 rfl (lv_at hl 1 rfl) <| gfX7_33 hC hK hP (q0 := 0) rfl rfl dX7_remember_23 <| lv_aload_n hC.1 hC.2.1 dX7_remember_26 rfl (lv_at hl 1 rfl) <| gfX7_370 hC hK hP (q0 := 0) rfl rfl dX7_remember_27 <| lv_aload_n hC.1 hC.2.1 dX7_remember_30 rfl (lv_at hl 0 rfl) ?_
    refine va_astq hC.1 hC.2.1 hK.1 hP hD hS 74 3 (cs_X7 kA a V X (zpf pa i) ++ cs_P kA pa PV i).length 4 (f := zpf pa i) (i := Int32.ofInt (V 86 0)) (r := (RX4, TX4, 12)) rfl rfl (by rw [List.getElem?_append_right (Nat.le_refl _), Nat.sub_self]; rfl) rfl (inb_in hi.1) dX7_remember_31 (fun H locs hP hD hS => ?_)
    rw [hi.2, ← ei] at hP hD
    have eF : va_up (zpf pa i) i (some (a2 0)) = zpf (zup pa i a2) (i + 1) := by
      funext j
      show (if j = i then some (a2 0) else if j < i then some (pa j 0) else none) = (if j < i + 1 then some (zup pa i a2 j 0) else none)
      by_cases hj : j = i
      · rw [if_pos hj, if_pos (by omega), show zup pa i a2 j = a2 from if_pos hj]
      · rw [if_neg hj]
        by_cases hj2 : j < i
        · rw [if_pos hj2, if_pos (by omega), show zup pa i a2 j = pa j from if_neg hj]
        · rw [if_neg hj2, if_neg (by omega)]
    have eC : cs_P kA (zup pa i a2) (zup PV i z0_X4) (i + 1) = cs_P kA pa PV i ++ cs_X4 kA a2 z0_X4 := by
      show cs_P kA (zup pa i a2) (zup PV i z0_X4) i ++ cs_X4 kA (zup pa i a2 i) (zup PV i z0_X4 i) = _
      rw [show zup pa i a2 i = a2 from if_pos rfl, show zup PV i z0_X4 i = z0_X4 from if_pos rfl, csP_ext (pa := zup pa i a2) (PV := zup PV i z0_X4) (pa1 := pa) (PV1 := PV) i (fun j hj => ⟨if_neg (show ¬ j = i by omega), if_neg (show ¬ j = i by omega)⟩)]
    have eS : (cs_X7 kA a V X (zpf pa i) ++ cs_P kA pa PV i ++ cs_X4 kA a2 z0_X4).set 74 (a 74, .inl (kA 3, 10, .inr (.inr (.inr (.inr (va_up (zpf pa i) i (some (a2 0)))))))) = cs_X7 kA a V X (zpf (zup pa i a2) (i + 1)) ++ cs_P kA (zup pa i a2) (zup PV i z0_X4) (i + 1) := by
      rw [eC, ← eF, ← List.append_assoc]
      rfl
    rw [eS] at hP hD
    refine T32 (zup pa i a2) (zup PV i z0_X4) (i + 1) H locs ls _ _ (Nat.le_of_ble_eq_true rfl) (Nat.le_of_ble_eq_true rfl) (by omega) (by rw [show zup PV i z0_X4 i = z0_X4 from if_pos rfl]; exact hG) (by omega) (fun j hj => ?_) hP hD hS (by rw [show zup pa i a2 i = a2 from if_pos rfl]; exact hl)
    show (if j = i then G else zup PV i z0_X4 j) = (if j = i then G else PV j)
    by_cases hj : j = i
    · rw [if_pos hj, if_pos hj]
    · rw [if_neg hj, if_neg hj]; exact if_neg hj
theorem DX7_undo_0 : ∀ q ∈ ([(0, .aload_n 0, 1), (1, .getfield 370, 3), (4, .bipush 10, 2), (6, .iadd, 1), (7, .iconst 1, 1), (8, .isub, 1), (9, .bipush 10, 2), (11, .irem, 1), (12, .istore_n 1, 1), (13, .aload_n 0, 1), (14, .getfield 33, 3), (17, .iload_n 1, 1), (18, .aaload, 1), (19, .astore_n 2, 1), (20, .aload_n 0, 1), (21, .getfield 79, 3), (24, .ifCond .eq 7, 3), (27, .aload_n 2, 1), (28, .ifnonnull 5, 3), (31, .iconst (-1), 1), (32, .ireturn, 1), (33, .aload_n 0, 1), (34, .getfield 23, 3), (37, .aload_n 2, 1), (38, .invokevirtual 75, 3), (41, .aload_n 0, 1), (42, .iload_n 1, 1), (43, .putfield 370, 3), (46, .aload_n 0, 1), (47, .dup, 1), (48, .getfield 79, 3), (51, .iconst 1, 1), (52, .isub, 1), (53, .putfield 79, 3), (56, .aload_n 0, 1), (57, .getfield 79, 3), (60, .ireturn, 1)] : List (Nat × Instr × Nat)), decode cX7_undo q.1 = .ok q.2 := by decide +kernel
theorem dX7_undo_0 : decode cX7_undo 0 = .ok (.aload_n 0, 1) := DX7_undo_0 (0, .aload_n 0, 1) (List.mem_of_getElem? (i := 0) rfl)
theorem dX7_undo_1 : decode cX7_undo 1 = .ok (.getfield 370, 3) := DX7_undo_0 (1, .getfield 370, 3) (List.mem_of_getElem? (i := 1) rfl)
theorem dX7_undo_4 : decode cX7_undo 4 = .ok (.bipush 10, 2) := DX7_undo_0 (4, .bipush 10, 2) (List.mem_of_getElem? (i := 2) rfl)
theorem dX7_undo_6 : decode cX7_undo 6 = .ok (.iadd, 1) := DX7_undo_0 (6, .iadd, 1) (List.mem_of_getElem? (i := 3) rfl)
theorem dX7_undo_7 : decode cX7_undo 7 = .ok (.iconst 1, 1) := DX7_undo_0 (7, .iconst 1, 1) (List.mem_of_getElem? (i := 4) rfl)
theorem dX7_undo_8 : decode cX7_undo 8 = .ok (.isub, 1) := DX7_undo_0 (8, .isub, 1) (List.mem_of_getElem? (i := 5) rfl)
theorem dX7_undo_9 : decode cX7_undo 9 = .ok (.bipush 10, 2) := DX7_undo_0 (9, .bipush 10, 2) (List.mem_of_getElem? (i := 6) rfl)
theorem dX7_undo_11 : decode cX7_undo 11 = .ok (.irem, 1) := DX7_undo_0 (11, .irem, 1) (List.mem_of_getElem? (i := 7) rfl)
theorem dX7_undo_12 : decode cX7_undo 12 = .ok (.istore_n 1, 1) := DX7_undo_0 (12, .istore_n 1, 1) (List.mem_of_getElem? (i := 8) rfl)
theorem dX7_undo_13 : decode cX7_undo 13 = .ok (.aload_n 0, 1) := DX7_undo_0 (13, .aload_n 0, 1) (List.mem_of_getElem? (i := 9) rfl)
theorem dX7_undo_14 : decode cX7_undo 14 = .ok (.getfield 33, 3) := DX7_undo_0 (14, .getfield 33, 3) (List.mem_of_getElem? (i := 10) rfl)
theorem dX7_undo_17 : decode cX7_undo 17 = .ok (.iload_n 1, 1) := DX7_undo_0 (17, .iload_n 1, 1) (List.mem_of_getElem? (i := 11) rfl)
theorem dX7_undo_18 : decode cX7_undo 18 = .ok (.aaload, 1) := DX7_undo_0 (18, .aaload, 1) (List.mem_of_getElem? (i := 12) rfl)
theorem dX7_undo_19 : decode cX7_undo 19 = .ok (.astore_n 2, 1) := DX7_undo_0 (19, .astore_n 2, 1) (List.mem_of_getElem? (i := 13) rfl)
theorem dX7_undo_20 : decode cX7_undo 20 = .ok (.aload_n 0, 1) := DX7_undo_0 (20, .aload_n 0, 1) (List.mem_of_getElem? (i := 14) rfl)
theorem dX7_undo_21 : decode cX7_undo 21 = .ok (.getfield 79, 3) := DX7_undo_0 (21, .getfield 79, 3) (List.mem_of_getElem? (i := 15) rfl)
theorem dX7_undo_24 : decode cX7_undo 24 = .ok (.ifCond .eq 7, 3) := DX7_undo_0 (24, .ifCond .eq 7, 3) (List.mem_of_getElem? (i := 16) rfl)
theorem dX7_undo_27 : decode cX7_undo 27 = .ok (.aload_n 2, 1) := DX7_undo_0 (27, .aload_n 2, 1) (List.mem_of_getElem? (i := 17) rfl)
theorem dX7_undo_28 : decode cX7_undo 28 = .ok (.ifnonnull 5, 3) := DX7_undo_0 (28, .ifnonnull 5, 3) (List.mem_of_getElem? (i := 18) rfl)
theorem dX7_undo_31 : decode cX7_undo 31 = .ok (.iconst (-1), 1) := DX7_undo_0 (31, .iconst (-1), 1) (List.mem_of_getElem? (i := 19) rfl)
theorem dX7_undo_32 : decode cX7_undo 32 = .ok (.ireturn, 1) := DX7_undo_0 (32, .ireturn, 1) (List.mem_of_getElem? (i := 20) rfl)
theorem dX7_undo_33 : decode cX7_undo 33 = .ok (.aload_n 0, 1) := DX7_undo_0 (33, .aload_n 0, 1) (List.mem_of_getElem? (i := 21) rfl)
theorem dX7_undo_34 : decode cX7_undo 34 = .ok (.getfield 23, 3) := DX7_undo_0 (34, .getfield 23, 3) (List.mem_of_getElem? (i := 22) rfl)
theorem dX7_undo_37 : decode cX7_undo 37 = .ok (.aload_n 2, 1) := DX7_undo_0 (37, .aload_n 2, 1) (List.mem_of_getElem? (i := 23) rfl)
theorem dX7_undo_38 : decode cX7_undo 38 = .ok (.invokevirtual 75, 3) := DX7_undo_0 (38, .invokevirtual 75, 3) (List.mem_of_getElem? (i := 24) rfl)
theorem dX7_undo_41 : decode cX7_undo 41 = .ok (.aload_n 0, 1) := DX7_undo_0 (41, .aload_n 0, 1) (List.mem_of_getElem? (i := 25) rfl)
theorem dX7_undo_42 : decode cX7_undo 42 = .ok (.iload_n 1, 1) := DX7_undo_0 (42, .iload_n 1, 1) (List.mem_of_getElem? (i := 26) rfl)
theorem dX7_undo_43 : decode cX7_undo 43 = .ok (.putfield 370, 3) := DX7_undo_0 (43, .putfield 370, 3) (List.mem_of_getElem? (i := 27) rfl)
theorem dX7_undo_46 : decode cX7_undo 46 = .ok (.aload_n 0, 1) := DX7_undo_0 (46, .aload_n 0, 1) (List.mem_of_getElem? (i := 28) rfl)
theorem dX7_undo_47 : decode cX7_undo 47 = .ok (.dup, 1) := DX7_undo_0 (47, .dup, 1) (List.mem_of_getElem? (i := 29) rfl)
theorem dX7_undo_48 : decode cX7_undo 48 = .ok (.getfield 79, 3) := DX7_undo_0 (48, .getfield 79, 3) (List.mem_of_getElem? (i := 30) rfl)
theorem dX7_undo_51 : decode cX7_undo 51 = .ok (.iconst 1, 1) := DX7_undo_0 (51, .iconst 1, 1) (List.mem_of_getElem? (i := 31) rfl)
theorem dX7_undo_52 : decode cX7_undo 52 = .ok (.isub, 1) := DX7_undo_0 (52, .isub, 1) (List.mem_of_getElem? (i := 32) rfl)
theorem dX7_undo_53 : decode cX7_undo 53 = .ok (.putfield 79, 3) := DX7_undo_0 (53, .putfield 79, 3) (List.mem_of_getElem? (i := 33) rfl)
theorem dX7_undo_56 : decode cX7_undo 56 = .ok (.aload_n 0, 1) := DX7_undo_0 (56, .aload_n 0, 1) (List.mem_of_getElem? (i := 34) rfl)
theorem dX7_undo_57 : decode cX7_undo 57 = .ok (.getfield 79, 3) := DX7_undo_0 (57, .getfield 79, 3) (List.mem_of_getElem? (i := 35) rfl)
theorem dX7_undo_60 : decode cX7_undo 60 = .ok (.ireturn, 1) := DX7_undo_0 (60, .ireturn, 1) (List.mem_of_getElem? (i := 36) rfl)
abbrev rmX7_undo : Room := { frames := 4, cells := 0, slots := 0, locals := 123 }
set_option maxHeartbeats 4000000 in
set_option maxRecDepth 100000 in
theorem met_X7_undo (l : Launch) (D : va_G) (kA : Nat → ClassId) (a : Nat → Nat) (pa : Nat → Nat → Nat) (V X : Sz) (PV : Nat → Sz) (K : Nat) (hD0 : va_D (fun _ => True) (cs_X7 kA a V X (zpf pa K) ++ cs_P kA pa PV K)) {r : Int} {Vr : Sz} (hf : f_X7_undo V PV K = some (r, Vr)) : MZ l yX7_undo cX7_undo 3 (some .int) rmX7_undo D kA [.ref (a 0)] (cs_X7 kA a V X (zpf pa K) ++ cs_P kA pa PV K) (cs_X7 kA a Vr X (zpf pa K) ++ cs_P kA pa PV K) (some (vI r)) := by
  refine zZI (own := RX7) rfl rfl (Nat.le_of_ble_eq_true rfl) ?_
  intro p e s m args below meth c ls Q hC hK hP hl hret
  have hl : lv_has ls 3 [(0, .ref (a 0))] := hl
  have hS : va_S (zF (cs_X7 kA a V X (zpf pa K) ++ cs_P kA pa PV K)) s.heap s.heap [] := va_S.rf
  have hD : va_D (zF (cs_X7 kA a V X (zpf pa K) ++ cs_P kA pa PV K)) (cs_X7 kA a V X (zpf pa K) ++ cs_P kA pa PV K) := ⟨hD0.1, fun k q hk => ⟨k, q.2, hk⟩⟩
  generalize hAe : zF (cs_X7 kA a V X (zpf pa K) ++ cs_P kA pa PV K) = A0 at hS hD hret
  have hDw : ∀ w : Sz, va_D A0 (cs_X7 kA a w X (zpf pa K) ++ cs_P kA pa PV K) := zDany (C := fun w => cs_X7 kA a w X (zpf pa K) ++ cs_P kA pa PV K) V (fun _ => rfl) hD
  unfold f_X7_undo at hf
  obtain ⟨h1, hf⟩ := ck_some hf
  obtain ⟨y, ey⟩ : ∃ y, y = (V 86 0 + 10 - 1) % 10 := ⟨_, rfl⟩
  have hf := nm_at hf ey
  obtain ⟨h2, hf⟩ := ck_some hf
  have hy : inZ y 10 := by constructor <;> omega
  have hi := oI_idx hy (by decide)
  have hneg : ∀ (ls : Array Slot), (some ((-1 : Int), V) = some (r, Vr)) → W p l e rmX7_undo s m args below meth c s.heap [] 0 0 Q (F0 m 31 ls []) := by
    intro ls hf
    have hf := Option.some.inj hf
    simp only [Prod.mk.injEq] at hf
    refine ziconst hC.1 hC.2.1 dX7_undo_31 ?_
    exact hret _ _ _ _ _ (congrArg (fun z => some (vI z)) hf.1.symm) (by rw [← hf.2]; exact hP) hS dX7_undo_32
  refine lv_aload_n hC.1 hC.2.1 dX7_undo_0 rfl (lv_at hl 0 rfl) <| gfX7_370 hC hK hP (q0 := 0) rfl rfl dX7_undo_1 <| zbipush hC.1 hC.2.1 dX7_undo_4 (by decide) <| ziadd hC.1 hC.2.1 dX7_undo_6 <| ziconst hC.1 hC.2.1 dX7_undo_7 <| zisub hC.1 hC.2.1 dX7_undo_8 <| zbipush hC.1 hC.2.1 dX7_undo_9 (by decide) <| zirem hC.1 hC.2.1 ⟨h1.1, h1.2, by decide, by decide⟩ dX7_undo_11 ?_
  rw [← ey]
  refine zistore_n (lv' := [(1, vI y), (0, .ref (a 0))]) hC.1 hC.2.1 dX7_undo_12 rfl hl (by decide) rfl (fun ls hl => ?_)
  refine lv_aload_n hC.1 hC.2.1 dX7_undo_13 rfl (lv_at hl 1 rfl) <| gfX7_33 hC hK hP (q0 := 0) rfl rfl dX7_undo_14 <| ziload_n hC.1 hC.2.1 dX7_undo_17 rfl (lv_at hl 0 rfl) ?_
  refine va_aldq hC.1 hC.2.1 hK.1 hP 74 3 (f := zpf pa K) (i := Int32.ofInt y) rfl rfl (inb_in hi.1) dX7_undo_18 ?_
  rw [hi.2]
  by_cases hyK : y.toNat < K
  · rw [show zpf pa K y.toNat = some (pa y.toNat 0) from if_pos hyK]
    refine lv_astore_n (lv' := [(2, .ref (pa y.toNat 0)), (1, vI y), (0, .ref (a 0))]) (x := pa y.toNat 0) hC.1 hC.2.1 dX7_undo_19 rfl hl (by decide) rfl (fun ls hl => ?_)
    refine lv_aload_n hC.1 hC.2.1 dX7_undo_20 rfl (lv_at hl 2 rfl) <| gfX7_79 hC hK hP (q0 := 0) rfl rfl dX7_undo_21 ?_
    refine zif_eq (tgt := 31) hC.1 hC.2.1 h2 dX7_undo_24 (by decide) (fun hc => ?_) (fun hc => ?_)
    · exact hneg ls (it_t hf hc)
    have hf := it_t (it_f hf hc) hyK
    refine lv_aload_n hC.1 hC.2.1 dX7_undo_27 rfl (lv_at hl 0 rfl) <| lv_ifnonnull (tgt := 33) hC.1 hC.2.1 dX7_undo_28 (by decide) ?_
    obtain ⟨G, hG, hf⟩ := bd_some hf
    obtain ⟨Va, eVa⟩ : ∃ z, z = sw 4 27 V G := ⟨_, rfl⟩
    have hf := nm_at hf eVa
    obtain ⟨Vb, eVb⟩ : ∃ z, z = us Va 86 y := ⟨_, rfl⟩
    have hf := nm_at hf eVb
    obtain ⟨Vc, eVc⟩ : ∃ z, z = us Vb 87 (Vb 87 0 - 1) := ⟨_, rfl⟩
    have hf := nm_at hf eVc
    obtain ⟨B1, A1, hBA⟩ := csP_split (kA := kA) (pa := pa) (PV := PV) K hyK
    have hB0 := hBA (PV y.toNat)
    rw [zup_self] at hB0
    have eW : ∀ w : Sz, cs_X7 kA a w X (zpf pa K) ++ cs_P kA pa PV K = (cs_X7 kA a w X (zpf pa K)).take 2 ++ (cs_X4 kA (sv 2 a) (sv 4 w) ++ ((cs_X7 kA a w X (zpf pa K)).drop 26 ++ cs_P kA pa PV K)) := fun w => rfl
    have hgm : ∀ q ∈ cs_X4 kA (pa y.toNat) (PV y.toNat), q ∈ (cs_X7 kA a V X (zpf pa K)).take 2 ∨ q ∈ (cs_X7 kA a V X (zpf pa K)).drop 26 ++ cs_P kA pa PV K := fun q h => Or.inr (List.mem_append_right _ (by rw [hB0]; exact List.mem_append_right _ (List.mem_append_left _ h)))
    have hg : va_D A0 (cs_X4 kA (pa y.toNat) (PV y.toNat)) := by
      have h9 := hD
      rw [hB0, ← List.append_assoc] at h9
      exact zDmid h9
    have hDx : ∀ x : Sz, va_D A0 ((cs_X7 kA a V X (zpf pa K)).take 2 ++ (cs_X4 kA (sv 2 a) x ++ ((cs_X7 kA a V X (zpf pa K)).drop 26 ++ cs_P kA pa PV K))) := zDany (C := fun x => (cs_X7 kA a V X (zpf pa K)).take 2 ++ (cs_X4 kA (sv 2 a) x ++ ((cs_X7 kA a V X (zpf pa K)).drop 26 ++ cs_P kA pa PV K))) (sv 4 V) (fun _ => rfl) (by rw [← eW V]; exact hD)
    have hDc : ∀ x : Sz, va_D (fun _ => True) (cs_X4 kA (sv 2 a) x ++ cs_X4 kA (pa y.toNat) (PV y.toNat)) := fun x => zDpart (hDx x) hg hgm
    have hPx : va_P D vwCl ((cs_X7 kA a V X (zpf pa K)).take 2 ++ (cs_X4 kA (sv 2 a) (sv 4 V) ++ ((cs_X7 kA a V X (zpf pa K)).drop 26 ++ cs_P kA pa PV K))) s.heap := by rw [← eW V]; exact hP
    have hPc : va_P D vwCl (cs_X4 kA (sv 2 a) (sv 4 V) ++ cs_X4 kA (pa y.toNat) (PV y.toNat)) s.heap := zPof (fun q hq => by
      rcases List.mem_append.mp hq with h | h
      · exact zPmem hP (List.mem_append_left _ (csX7_nowm h))
      · exact zPmem hP (List.mem_append_right _ (by rw [hB0]; exact List.mem_append_right _ (List.mem_append_left _ h))))
    have hFA : ∀ q, zF (cs_X4 kA (sv 2 a) (sv 4 V) ++ cs_X4 kA (pa y.toNat) (PV y.toNat)) q → A0 q := by
      rintro q ⟨k, e, hk⟩
      rcases List.mem_append.mp (List.mem_of_getElem? hk) with h | h
      · obtain ⟨j, hj⟩ := List.getElem?_of_mem (List.mem_append_left (cs_P kA pa PV K) (csX7_nowm (X := X) (pf := zpf pa K) h))
        exact hD.2 j _ hj
      · obtain ⟨j, hj⟩ := List.getElem?_of_mem h
        exact hg.2 j _ hj
    refine lv_aload_n hC.1 hC.2.1 dX7_undo_33 rfl (lv_at hl 2 rfl) <| gfX7_23 hC hK hP (q0 := 0) rfl rfl dX7_undo_34 <| lv_aload_n hC.1 hC.2.1 dX7_undo_37 rfl (lv_at hl 0 rfl) ?_
    refine zcVZ (As := [.ref (pa y.toNat 0)]) (rest := []) hC hK (met_X4_become l D kA (sv 2 a) (pa y.toNat) (sv 4 V) (PV y.toNat) hDc hG) zwX7_75 hS hFA hPc (q0 := 0) rfl rfl rfl rfl hl.1 rfl (Nat.le_of_ble_eq_true rfl) ⟨(Nat.le_of_ble_eq_true rfl), (Nat.le_of_ble_eq_true rfl)⟩ ⟨rfl, rfl⟩ ⟨Nat.le_refl _, Nat.le_refl _⟩ dX7_undo_38 (fun H locs hP1 hk1 hS => ?_)
    have hP : va_P D vwCl (cs_X7 kA a Va X (zpf pa K) ++ cs_P kA pa PV K) H := by
      rw [eVa]
      exact zjoinG hPx ((hDx (sv 4 V)).weaken (fun _ _ _ _ => trivial)) hgm hk1 hP1
    refine lv_aload_n hC.1 hC.2.1 dX7_undo_41 rfl (lv_at hl 2 rfl) <| ziload_n hC.1 hC.2.1 dX7_undo_42 rfl (lv_at hl 1 rfl) ?_
    refine pfX7_370 hC hK hP (hDw Va) hS (q0 := 0) rfl (Nat.le_of_ble_eq_true rfl) dX7_undo_43 (fun H locs hP hS => ?_)
    have hP : va_P D vwCl (cs_X7 kA a Vb X (zpf pa K) ++ cs_P kA pa PV K) H := by rw [eVb]; exact hP
    refine lv_aload_n hC.1 hC.2.1 dX7_undo_46 rfl (lv_at hl 2 rfl) <| lv_dup hC.1 hC.2.1 dX7_undo_47 rfl <| gfX7_79 hC hK hP (q0 := 0) rfl rfl dX7_undo_48 <| ziconst hC.1 hC.2.1 dX7_undo_51 <| zisub hC.1 hC.2.1 dX7_undo_52 ?_
    refine pfX7_79 hC hK hP (hDw Vb) hS (q0 := 0) rfl (Nat.le_of_ble_eq_true rfl) dX7_undo_53 (fun H locs hP hS => ?_)
    have hP : va_P D vwCl (cs_X7 kA a Vc X (zpf pa K) ++ cs_P kA pa PV K) H := by rw [eVc]; exact hP
    refine lv_aload_n hC.1 hC.2.1 dX7_undo_56 rfl (lv_at hl 2 rfl) <| gfX7_79 hC hK hP (q0 := 0) rfl rfl dX7_undo_57 ?_
    have hf := Option.some.inj hf
    simp only [Prod.mk.injEq] at hf
    exact hret _ _ _ _ _ (congrArg (fun z => some (vI z)) hf.1.symm) (by rw [← hf.2]; exact hP) hS dX7_undo_60
  · rw [show zpf pa K y.toNat = none from if_neg hyK]
    refine lv_astore_nN (lv' := [(2, .null), (1, vI y), (0, .ref (a 0))]) hC.1 hC.2.1 dX7_undo_19 rfl hl (by decide) rfl (fun ls hl => ?_)
    refine lv_aload_n hC.1 hC.2.1 dX7_undo_20 rfl (lv_at hl 2 rfl) <| gfX7_79 hC hK hP (q0 := 0) rfl rfl dX7_undo_21 ?_
    refine zif_eq (tgt := 31) hC.1 hC.2.1 h2 dX7_undo_24 (by decide) (fun hc => ?_) (fun hc => ?_)
    · exact hneg ls (it_t hf hc)
    have hf := it_f (it_f hf hc) hyK
    refine lv_aload_nN hC.1 hC.2.1 dX7_undo_27 rfl (lv_at hl 0 rfl) <| lv_ifnonnullN hC.1 hC.2.1 dX7_undo_28 ?_
    exact hneg ls hf
