/-! new things -/
theorem ra_uniq {U : State} {cA cB : ClassId} {ty : FieldType} (h1 : va_RA U cA ty) (h2 : va_RA U cB ty) : cA = cB := by
  cases ty with
  | object C =>
    obtain ⟨_, _, _, _, _, h1⟩ := h1
    obtain ⟨_, _, _, _, _, h2⟩ := h2
    exact Option.some.inj (h1.symm.trans h2)
  | _ => exact Option.some.inj (h1.symm.trans h2)
def zU (h0 sz : Nat) : Nat → Prop := fun q => q = h0 ∨ sz ≤ q
/-- a constructor: from one fresh cell at h0, all that it makes lies from sz on -/
def MN (l : Launch) (y : MethodName) (cc : ByteArray) (n : Nat) (rm : Room) (D : va_G) (kA : Nat → ClassId) (h0 sz ci : Nat) (fs As : List Value) (mc ms : Nat) (post : va_W → Prop) : Prop :=
  Met l y (ws_ y cc n none) rm (va_Pc (.ref h0 :: As) (fun U => U.heap.size = sz ∧ va_P D vwCl [(h0, .inr (ci, fs))] U.heap ∧ zK D kA U)) (fun _ st oc t => oc = .returned none ∧ ∃ w : va_W, post w ∧ va_P D vwCl w t.heap ∧ va_D (zU h0 sz) w ∧ va_F (zU h0 sz) st t) mc ms (zU h0 sz)
section ZMK
variable {p : Program} {l : Launch} {e : Env} {R : Room} {s : State} {m : MethodId} {args : Array Value} {below : List Frame} {meth : Method} {c : Code} {H H0 : Heap} {locs : List Loc} {cells slots : Nat} {Q : State → Prop}
variable {pc nL : Nat} {ls : Array Slot} {rest st0 : List Value} {A0 : Nat → Prop} {D : va_G} {kA : Nat → ClassId} {cc : ByteArray} {own : String} {o : Option Value} {a : Array Value} {W0 W1 : va_W}
theorem jnewT {ws : va_W} {atype : ArrayType} {ty : FieldType} {cA0 : ClassId} (t0 : Nat) (harr : Cond.arrayClass (newarray.typeOf atype) ∈ lw_all) (hty : newarray.typeOf atype = ty) (ht : (zT kA)[t0]? = some (cA0, ty)) (hC : CallFix p m c cc nL s args lw_all own) (hK : zK D kA s) (hP : va_P D vwCl ws H) (hD : va_D A0 ws) (hS : va_S A0 H0 H locs) (hA : ∀ q, H0.size ≤ q → A0 q) {n : Int} {N' : Nat} {a0 : vp_A} (ha : ∀ cA : ClassId, vp_cell cA a0 = arrV cA N' (fun _ => defaultValue ty)) (hn : 0 ≤ n ∧ n < 2147483648 ∧ n.toNat = N') (hbytes : N' * componentBytes ty ≤ 536870912) (hcells : cells + 1 ≤ R.cells) (hslots : slots + N' ≤ R.slots) (hdg : decode cc pc = .ok (.newarray atype, 2)) (kk : ∀ (q : Nat) (H1 : Heap), va_P D vwCl (ws ++ [(q, .inl (cA0, a0))]) H1 → va_D A0 (ws ++ [(q, .inl (cA0, a0))]) → va_S A0 H0 H1 locs → W p l e R s m args below meth c H1 locs (cells + 1) (slots + N') Q (F0 m (pc + 2) ls (.ref q :: rest))) : W p l e R s m args below meth c H locs cells slots Q (F0 m pc ls (vI n :: rest)) := by
  obtain ⟨h1, h2, h3⟩ := hn
  have e1 := oI_nn (x := n) ⟨h1, h2⟩
  refine va_newa hC.1 hC.2.1 (hC.2.2.2.2 _ harr) hty hK.1 hP hD hS hA (n := Int32.ofInt n) ha e1.1 (by rw [e1.2, h3]) hbytes hcells hslots hdg (fun q cA H1 hK1 hP1 hD1 hS1 => ?_)
  have e : cA = cA0 := ra_uniq (hK1.2 (zT kA).length (cA, ty) (by simp)).2 (hK.1.2 t0 _ ht).2
  subst e
  exact kk q H1 hP1 hD1 hS1
theorem zvU {fs : List Value} {h0 ci : Nat} (e : va_E) : va_D (zU h0 s.heap.size) [(h0, e)] := ⟨fun i j p q hp hq _ => by
    have h1 : i < 1 := (List.getElem?_eq_some_iff.mp hp).1
    have h2 : j < 1 := (List.getElem?_eq_some_iff.mp hq).1
    omega, fun k q hk => by
    have h1 : k < 1 := (List.getElem?_eq_some_iff.mp hk).1
    rw [show k = 0 by omega] at hk
    cases hk
    exact Or.inl rfl⟩
theorem zNstart {y : MethodName} {n : Nat} {rm : Room} {As fs : List Value} {h0 sz ci mc ms : Nat} {post : va_W → Prop} (hy : plainName y.cls = true) (hown : y.cls = own) (hnm : y.name = "<init>") (hlen : (lg_sl (.ref h0 :: As)).length ≤ n)
    (body : ∀ (p : Program) (e : Env) (s : State) (m : MethodId) (args : Array Value) (below : List Frame) (meth : Method) (c : Code) (ls : Array Slot) (Q : State → Prop), CallFix p m c cc n s args lw_all own → zK D kA s → va_P D vwCl [(h0, .inr (ci, fs))] s.heap → va_D (zU h0 s.heap.size) [(h0, .inr (ci, fs))] → meth.name = "<init>" → lv_has ls n (lv_args 0 (.ref h0 :: As)) → (∀ (pc : Nat) (ls : Array Slot) (H1 : Heap) (locs1 : List Loc) (w : va_W) (cells slots : Nat), cells ≤ mc → slots ≤ ms → post w → va_P D vwCl w H1 → va_D (zU h0 s.heap.size) w → va_S (zU h0 s.heap.size) s.heap H1 locs1 → decode cc pc = .ok (.return_, 1) → W p l e rm s m args below meth c H1 locs1 cells slots Q (F0 m pc ls [])) → W p l e rm s m args below meth c s.heap [] 0 0 Q (F0 m 0 ls [])) : MN l y cc n rm D kA h0 sz ci fs As mc ms post := by
  refine Met.ofW (ws' := lw_all) (cc := cc) (maxL := n) (ret := none) hy rfl ?_
  intro p e s m args below meth c s₁ B hml hv
  obtain ⟨rfl, rfl, hP, hK⟩ := hv
  have hts := atoms_spec (ws := ws_ y cc n none) B.pre
  subst hown
  have hC : CallFix p m c cc n s (.ref h0 :: As).toArray lw_all y.cls := ⟨B.exec, B.bytes, hml, findClass_of_methodNamed B.named, fun w h => hts w (List.mem_cons_of_mem _ h)⟩
  have hin : meth.name = "<init>" := by rw [← hnm]; exact (name_of_methodNamed B.named B.method).1
  refine zentry hlen (fun ls hl => ?_)
  refine body p e s m _ below meth c ls _ hC hK hP (zvU (fs := fs) (ci := ci) _) hin hl (fun pc ls H1 locs1 w cells slots hc hs hw hP1 hD1 hS1 hdg => ?_)
  refine W.widen (k := mc) (n := ms) hc hs ?_
  exact W.vret hC.1 hC.2.1 B.returns (fun t ht _ => ⟨rfl, w, hw, by rw [ht]; exact hP1, hD1, hS1.F ht⟩) hS1.2.2 hdg B.notSynchronized
theorem zobj {idx b : Nat} (hC : CallFix p m c cc nL s args lw_all own) (hw : Cond.methodLink own idx Lib.objectInit ∈ lw_all) (hl : ls.size = nL) (hd : decode cc pc = .ok (.invokespecial idx, 3)) (hfr : 1 ≤ R.frames) (hlo : (rest.map fun v => v.category).sum + 12 ≤ R.locals) (kk : W p l e R s m args below meth c H locs cells slots Q (F0 m (pc + 3) ls rest)) : W p l e R s m args below meth c H locs cells slots Q (F0 m pc ls (.ref b :: rest)) := W.objInit hC.1 hC.2.1 hC.2.2.2.1 (hC.2.2.2.2 _ hw) (hC.2.2.2.2 _ qw_29) (hC.2.2.2.2 _ qw_30) rfl (by rw [hC.2.2.1]; exact hl) rfl hd hfr (by show 2 * 0 + _ + _ ≤ _; omega) kk
theorem zcNew {idx n k b ci mc ms : Nat} {y : MethodName} {bb : ByteArray} {rm : Room} {As fs : List Value} {wr : va_W} {post : va_W → Prop} (hC : CallFix p m c cc nL s args lw_all own) (hK : zK D kA s) (hM : MN l y bb n rm D kA b H.size ci fs As mc ms post)
    (hP : va_P D vwCl (wr ++ [(b, .inr (ci, fs))]) H) (hD : va_D A0 (wr ++ [(b, .inr (ci, fs))])) (hS : va_S A0 H0 H locs) (hA : ∀ q, H0.size ≤ q → A0 q)
    (hr : Met l y (ws_ y bb n none) rm (va_Pc (.ref b :: As) (fun U => U.heap.size = H.size ∧ va_P D vwCl [(b, .inr (ci, fs))] U.heap ∧ zK D kA U)) (fun _ st oc t => oc = .returned none ∧ ∃ w : va_W, post w ∧ va_P D vwCl w t.heap ∧ va_D (zU b H.size) w ∧ va_F (zU b H.size) st t) mc ms (zU b H.size) → PreS s H (va_Pc (.ref b :: As) (fun U => U.heap.size = H.size ∧ va_P D vwCl [(b, .inr (ci, fs))] U.heap ∧ zK D kA U)) (.ref b :: As) → va_Run p l e R s m args below meth c H locs cells slots mc ms (F0 m pc ls st0) rest ((fun _ st oc t => oc = .returned none ∧ ∃ w : va_W, post w ∧ va_P D vwCl w t.heap ∧ va_D (zU b H.size) w ∧ va_F (zU b H.size) st t) (Value.ref b :: As).toArray) (zU b H.size))
    (kk : ∀ (w : va_W) (H1 : Heap) (locs1 : List Loc), post w → va_P D vwCl (wr ++ w) H1 → va_D A0 (wr ++ w) → va_S A0 H0 H1 locs1 → W p l e R s m args below meth c H1 locs1 (cells + mc) (slots + ms) Q (F0 m (pc + 3) ls rest)) : W p l e R s m args below meth c H locs cells slots Q (F0 m pc ls st0) := by
  have hlast : (wr ++ [(b, (.inr (ci, fs) : va_E))])[wr.length]? = some (b, .inr (ci, fs)) := by rw [List.getElem?_append_right (Nat.le_refl _), Nat.sub_self]; rfl
  have hPb : va_P D vwCl [(b, .inr (ci, fs))] H := fun k q hk => by
    have h1 : k < 1 := (List.getElem?_eq_some_iff.mp hk).1
    rw [show k = 0 by omega] at hk
    cases hk
    exact hP wr.length _ hlast
  have hzA : ∀ q, zU b H.size q → A0 q := fun q hq => hq.elim (fun e => by rw [e]; exact hD.2 wr.length _ hlast) (fun h => hA q (Nat.le_trans hS.1 h))
  have hrun := hr hM ⟨fun _ _ _ _ h => ⟨h.1, h.2.1, h.2.2.1, h.2.2.2.calling⟩, fun U hU hW => ⟨rfl, by rw [hU], by rw [hU]; exact hPb, hK.warm hW⟩⟩
  intro T hT X
  obtain ⟨v, st₀, t, T', L, h0, X', hL, e1, e2, ⟨hv, w, hw, hP1, hD1, hz, hk⟩, st⟩ := hrun T hT X
  cases hv
  rw [h0] at hz hk
  have hat : ∀ (k : Nat) (q : Nat × va_E), wr[k]? = some q → (wr ++ [(b, (.inr (ci, fs) : va_E))])[k]? = some q := fun k q hq => by rw [List.getElem?_append_left (List.getElem?_eq_some_iff.mp hq).1]; exact hq
  have hout : ∀ (k : Nat) (q : Nat × va_E), wr[k]? = some q → ¬ zU b H.size q.1 := fun k q hq hz => hz.elim (fun e => by
      have := hD.1 k wr.length q _ (hat k q hq) hlast e
      have := (List.getElem?_eq_some_iff.mp hq).1
      omega) (fun h => by
      have := (hP k q (hat k q hq)).lt
      omega)
  have hPn : va_P D vwCl (wr ++ w) T'.heap := by
    rw [e1]
    refine va_P.app (fun k q hq => ?_) hP1
    exact (hP k q (hat k q hq)).kept (hk q.1 (hP k q (hat k q hq)).lt (hout k q hq))
  have hDn : va_D A0 (wr ++ w) := by
    refine va_D.app ⟨fun i j p q hp hq e => hD.1 i j p q (hat i p hp) (hat j q hq) e, fun k q hq => hD.2 k q (hat k q hq)⟩ ⟨hD1.1, fun k q hq => hzA _ (hD1.2 k q hq)⟩ (fun i j p q hp hq e => ?_)
    exact hout i p hp (by rw [e]; exact hD1.2 j q hq)
  obtain ⟨t2, a1, b1⟩ := kk w T'.heap (locs ++ L) hw hPn hDn ⟨Nat.le_trans hS.1 (by rw [e1]; exact hz), fun q h1 h2 => by rw [e1, hk q (Nat.lt_of_lt_of_le h1 hS.1) (fun z => h2 (hzA q z))]; exact hS.2.1 q h1 h2, fun q hq => by
      rcases List.mem_append.mp hq with h | h
      · exact hS.2.2 q h
      · exact hzA _ (hL q h)⟩ T' rfl X'
  exact ⟨t2, st t2 a1, b1⟩
end ZMK
