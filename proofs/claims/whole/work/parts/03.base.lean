/-! base: contracts of methods that make nothing, a row an instruction in short form, the frame of a call -/
def zT (kA : Nat → ClassId) : List (ClassId × FieldType) := [(kA 0, .int), (kA 1, .byte), (kA 2, .long), (kA 3, .object "AidRegister$Ledger"), (kA 4, .double)]
def zNt : List (String × Nat × MethodName × String) := [
  ("AidRegister$Ledger", 17, yX1_init, "AidRegister"), ("AidRegister$Ledger", 24, yX3_init, "AidRegister"), ("AidRegister$Ledger", 31, yX0_init, "AidRegister"),
  ("AidRegister", 48, yX2_init, "AidRegister"), ("AidRegister", 55, yX5_init, "AidRegister"),
  ("AidRegister$Ledger", 64, yX7_copyRow, "AidRegister"), ("AidRegister$Declarations", 25, yX7_copyRow, "AidRegister"), ("AidRegister$Gifts", 49, yX7_copyRow, "AidRegister"), ("AidRegister$Claims", 19, yX7_copyRow, "AidRegister")]
def zN (U : State) : Prop := ∀ q ∈ zNt, va_Nw (.methodLinkNest q.1 q.2.1 q.2.2.1 q.2.2.2) U
theorem zN.warm {s U : State} (hW : s.WarmedH U.vm) (h : zN s) : zN U := fun q hq => va_Nw.warmM hW (h q hq)
/-- what is known of the tables: classes, array classes, links of nest mates -/
def zK (D : va_G) (kA : Nat → ClassId) (U : State) : Prop := va_K D vwCl (zT kA) U ∧ zN U
theorem zK.warm {D : va_G} {kA : Nat → ClassId} {s U : State} (hW : s.WarmedH U.vm) (h : zK D kA s) : zK D kA U := ⟨va_K.moved hW.alike h.1, h.2.warm hW⟩
theorem zK.calling {D : va_G} {kA : Nat → ClassId} {U : State} {g : JFrame} {mk : MethodId} {a : Array Value} (h : zK D kA U) : zK D kA (U.calling g mk a) := ⟨va_K.moved (u := U) (U := U.calling g mk a) (Vm.Alike.refl U.vm) h.1, fun q hq => va_Nw.same rfl (rfl : U.vm = (U.calling g mk a).vm) (h.2 q hq)⟩
/-- the addresses of a world -/
def zF (ws : va_W) : Nat → Prop := fun q => ∃ (k : Nat) (e : va_E), ws[k]? = some (q, e)
/-- a contract: from the world W0 the method y answers o; the heap is as it was -/
def MP (l : Launch) (y : MethodName) (cc : ByteArray) (n : Nat) (ret : Option FieldType) (rm : Room) (D : va_G) (kA : Nat → ClassId) (av : List Value) (W0 : va_W) (o : Option Value) : Prop :=
  Met l y (ws_ y cc n ret) rm (va_Pc av (fun U => va_P D vwCl W0 U.heap ∧ zK D kA U)) (fun _ st oc t => oc = .returned o ∧ t.heap = st.heap) 0 0 (fun _ => False)
/-- a contract: from the world W0 the method y answers o, and leaves W1; no other cell changes -/
def MZ (l : Launch) (y : MethodName) (cc : ByteArray) (n : Nat) (ret : Option FieldType) (rm : Room) (D : va_G) (kA : Nat → ClassId) (av : List Value) (W0 W1 : va_W) (o : Option Value) : Prop :=
  Met l y (ws_ y cc n ret) rm (va_Pc av (fun U => va_P D vwCl W0 U.heap ∧ zK D kA U)) (fun _ st oc t => oc = .returned o ∧ va_P D vwCl W1 t.heap ∧ va_F (zF W0) st t) 0 0 (zF W0)
theorem zblind {D : va_G} {kA : Nat → ClassId} {av : List Value} {W0 : va_W} : FrameBlind (va_Pc av (fun U => va_P D vwCl W0 U.heap ∧ zK D kA U)) := fun _ _ _ _ h => ⟨h.1, h.2.1, h.2.2.calling⟩
theorem zF_in {ws : va_W} {k q : Nat} {e : va_E} (h : ws[k]? = some (q, e)) : zF ws q := ⟨k, e, h⟩
/-! functional texts: what a method does, as a function that may fail -/
def ck {α : Type} (c : Prop) [Decidable c] (k : Option α) : Option α := if c then k else none
theorem ck_some {α : Type} {c : Prop} [Decidable c] {k : Option α} {r : α} (h : ck c k = some r) : c ∧ k = some r := by
  unfold ck at h
  split at h
  next hc => exact ⟨hc, h⟩
  next => cases h
theorem ck_t {α : Type} {c : Prop} [Decidable c] {k : Option α} (h : c) : ck c k = k := if_pos h
def nm {α β : Type} (x : α) (k : α → Option β) : Option β := k x
theorem nm_at {α β : Type} {x y : α} {k : α → Option β} {r : Option β} (h : nm x k = r) (e : y = x) : k y = r := by rw [e]; exact h
def bd {α β : Type} (x : Option α) (k : α → Option β) : Option β := match x with
  | none => none
  | some a => k a
theorem bd_some {α β : Type} {x : Option α} {k : α → Option β} {r : β} (h : bd x k = some r) : ∃ a, x = some a ∧ k a = some r := by
  cases x with
  | none => cases h
  | some a => exact ⟨a, rfl, h⟩
theorem it_t {α : Type} {c : Prop} [Decidable c] {a b : Option α} {r : α} (h : (if c then a else b) = some r) (hc : c) : a = some r := by rw [if_pos hc] at h; exact h
theorem it_f {α : Type} {c : Prop} [Decidable c] {a b : Option α} {r : α} (h : (if c then a else b) = some r) (hc : ¬ c) : b = some r := by rw [if_neg hc] at h; exact h
def lpF {σ ρ : Type} (b : (σ → Option ρ) → σ → Option ρ) : Nat → σ → Option ρ
  | 0, _ => none
  | n + 1, s => b (lpF b n) s
theorem lp_0 {σ ρ : Type} {b : (σ → Option ρ) → σ → Option ρ} {s : σ} {r : ρ} {P : Prop} (h : lpF b 0 s = some r) : P := by cases h
theorem lp_s {σ ρ : Type} {b : (σ → Option ρ) → σ → Option ρ} {n : Nat} {s : σ} {r : Option ρ} (h : lpF b (n + 1) s = r) : b (lpF b n) s = r := h
abbrev inb (i : Int32) (n : Nat) : Prop := 0 ≤ i.toInt ∧ i.toInt < (n : Int)
theorem inb_in {i : Int32} {n : Nat} (h : inb i n) : vp_in i n := vp_in_iff.mpr h
/-- a state of components: scalars lie at place 0 -/
abbrev St : Type := Nat → Nat → Int32
abbrev SL : Type := Nat → Nat → Int64
def us {α : Type} (V : Nat → Nat → α) (k : Nat) (x : α) : Nat → Nat → α := fun j => if j = k then (fun _ => x) else V j
def ua (V : St) (k : Nat) (i : Int32) (x : Int32) : St := fun j => if j = k then upd (V k) i.toNatClampNeg x else V j
def uaL (V : SL) (k : Nat) (i : Int32) (x : Int64) : SL := fun j => if j = k then vp_updL (V k) i.toNatClampNeg x else V j
def sv {α : Type} (o : Nat) (V : Nat → α) : Nat → α := fun k => V (k + o)
def sw {α : Type} (o n : Nat) (V W : Nat → α) : Nat → α := fun k => if o ≤ k ∧ k < o + n then W (k - o) else V k
/-! the frame of a call -/
def zset (ws : va_W) : List Nat → va_W → va_W
  | i :: is, w :: w1 => zset (ws.set i w) is w1
  | _, _ => ws
theorem zset_at : ∀ (is : List Nat) (w1 ws : va_W) (k : Nat) (q : Nat × va_E), (zset ws is w1)[k]? = some q → (∃ j : Nat, w1[j]? = some q ∧ is[j]? = some k) ∨ ws[k]? = some q
  | [], w1, ws, k, q, h => Or.inr (by simpa [zset] using h)
  | i :: is, [], ws, k, q, h => Or.inr (by simpa [zset] using h)
  | i :: is, w :: w1, ws, k, q, h => by
    rcases zset_at is w1 (ws.set i w) k q h with ⟨j, h1, h2⟩ | h1
    · exact Or.inl ⟨j + 1, h1, h2⟩
    · rw [List.getElem?_set] at h1
      split at h1
      next e =>
        subst e
        split at h1
        · cases h1
          exact Or.inl ⟨0, rfl, rfl⟩
        · cases h1
      next => exact Or.inr h1
theorem zset_keep : ∀ (is : List Nat) (w1 ws : va_W) (k j : Nat), is.length ≤ w1.length → is[j]? = some k → k < ws.length → ∃ j' : Nat, is[j']? = some k ∧ (zset ws is w1)[k]? = w1[j']?
  | [], w1, ws, k, j, _, h, _ => by simp at h
  | i :: is, [], ws, k, j, hl, h, _ => by simp at hl
  | i :: is, w :: w1, ws, k, j, hl, h, hk => by
    by_cases hm : ∃ j2 : Nat, is[j2]? = some k
    · obtain ⟨j2, h2⟩ := hm
      obtain ⟨j3, h3, h4⟩ := zset_keep is w1 (ws.set i w) k j2 (by simpa using hl) h2 (by simpa using hk)
      exact ⟨j3 + 1, h3, h4⟩
    · have hj : j = 0 := by
        cases j with
        | zero => rfl
        | succ j => exact absurd ⟨j, h⟩ hm
      subst hj
      have hik : i = k := Option.some.inj h
      subst hik
      refine ⟨0, rfl, ?_⟩
      have hn : ∀ (is : List Nat) (w1 ws : va_W), (¬ ∃ j2 : Nat, is[j2]? = some i) → (zset ws is w1)[i]? = ws[i]? := by
        intro is
        induction is with
        | nil => intro w1 ws _; simp [zset]
        | cons a is ih =>
          intro w1 ws hm
          cases w1 with
          | nil => simp [zset]
          | cons w w1 =>
            show (zset (ws.set a w) is w1)[i]? = ws[i]?
            rw [ih w1 (ws.set a w) (fun ⟨j, h⟩ => hm ⟨j + 1, h⟩)]
            have : a ≠ i := fun e => hm ⟨0, by rw [e]; rfl⟩
            rw [List.getElem?_set_ne this]
      show (zset (ws.set i w) is w1)[i]? = some w
      rw [hn is w1 (ws.set i w) hm, List.getElem?_set_self hk]
/-- the callee's cells, at the places is, have become w1; all others are as they were -/
theorem zjoin {D : va_G} {cl : List vw_C} {ws w0 w1 : va_W} {H H1 : Heap} (hP : va_P D cl ws H) (hD : va_D (fun _ => True) ws) (is : List Nat) (h0 : is.map (fun i => ws[i]?) = w0.map some) (hl : is.length ≤ w1.length)
    (hk : ∀ q : Nat, q < H.size → ¬ zF w0 q → H1[q]? = H[q]?) (hP1 : va_P D cl w1 H1) : va_P D cl (zset ws is w1) H1 := by
  intro k q hq
  have at0 : ∀ (j : Nat) (i : Nat), is[j]? = some i → ws[i]? = w0[j]? := fun j i hj => by
    have h1 : (is.map (fun i => ws[i]?))[j]? = (w0.map some)[j]? := by rw [h0]
    rw [List.getElem?_map, List.getElem?_map, hj] at h1
    cases hw : w0[j]? with
    | none => rw [hw] at h1; simp at h1
    | some w => rw [hw] at h1; simpa using h1
  by_cases hm : ∃ j : Nat, is[j]? = some k
  · obtain ⟨j, hj⟩ := hm
    have hk2 : k < ws.length := by
      have hjl : j < is.length := (List.getElem?_eq_some_iff.mp hj).1
      have hlen : is.length = w0.length := by simpa using congrArg List.length h0
      have h2 := at0 j k hj
      rw [List.getElem?_eq_getElem (l := w0) (by omega)] at h2
      exact (List.getElem?_eq_some_iff.mp h2).1
    obtain ⟨j2, -, h4⟩ := zset_keep is w1 ws k j hl hj hk2
    rw [hq] at h4
    exact hP1 j2 q h4.symm
  · rcases zset_at is w1 ws k q hq with ⟨j, -, h2⟩ | h1
    · exact absurd ⟨j, h2⟩ hm
    · refine (hP k q h1).kept (hk q.1 ?_ ?_)
      · exact (hP k q h1).lt
      · rintro ⟨j, e, hj⟩
        have hlen : is.length = w0.length := by simpa using congrArg List.length h0
        have hjl : j < is.length := by rw [hlen]; exact (List.getElem?_eq_some_iff.mp hj).1
        have h5 := at0 j is[j] (List.getElem?_eq_getElem hjl)
        rw [hj] at h5
        have := hD.1 k is[j] q (q.1, e) h1 h5 rfl
        exact hm ⟨j, by rw [this]; exact List.getElem?_eq_getElem hjl⟩

theorem qMathI : Cond.initialized "java/lang/Math" ∈ lw_all := qw_10
theorem qMaxS : Cond.static Lib.Math.max.name ∈ lw_all := qw_536
theorem qMaxC : Cond.code Lib.Math.max.name Lib.Math.max.code 2 (some .int) ∈ lw_all := qw_537
theorem qMinS : Cond.static Lib.Math.min.name ∈ lw_all := qw_341
theorem qMinC : Cond.code Lib.Math.min.name Lib.Math.min.code 2 (some .int) ∈ lw_all := qw_342
theorem qAbsS : Cond.static Lib.Math.abs.name ∈ lw_all := qw_1688
theorem qAbsC : Cond.code Lib.Math.abs.name Lib.Math.abs.code 1 (some .int) ∈ lw_all := qw_1689
section ZR
variable {p : Program} {l : Launch} {e : Env} {R : Room} {s : State} {m : MethodId} {args : Array Value} {below : List Frame} {meth : Method} {c : Code} {H H0 : Heap} {locs : List Loc} {cells slots : Nat} {Q : State → Prop}
variable {pc nL : Nat} {ls : Array Slot} {rest st0 : List Value} {A0 : Nat → Prop} {D : va_G} {kA : Nat → ClassId} {cc : ByteArray} {own : String} {o : Option Value} {a : Array Value} {W0 W1 : va_W}
/-- behind a call that leaves the heap as it was -/
theorem zbackP (hr : va_Run p l e R s m args below meth c H locs cells slots 0 0 (F0 m pc ls st0) rest (fun st oc t => oc = .returned o ∧ t.heap = st.heap) (fun _ => False))
    (kk : W p l e R s m args below meth c H locs cells slots Q (F0 m (pc + 3) ls (o.toList ++ rest))) : W p l e R s m args below meth c H locs cells slots Q (F0 m pc ls st0) := by
  intro T hT X
  obtain ⟨v, st₀, t, T', L, h0, X', hL, e1, e2, ⟨hv, hh⟩, st⟩ := hr T hT X
  cases hv
  obtain ⟨t2, a1, b1⟩ := kk T' (by rw [e1, hh, h0]) (Stand.forget X' (fun q h => (hL q h).elim))
  exact ⟨t2, st t2 a1, b1⟩
/-- behind a call that writes in its world alone -/
theorem zbackZ (hr : va_Run p l e R s m args below meth c H locs cells slots 0 0 (F0 m pc ls st0) rest (fun st oc t => oc = .returned o ∧ va_P D vwCl W1 t.heap ∧ va_F (zF W0) st t) (zF W0)) (hS : va_S A0 H0 H locs) (hA : ∀ q, zF W0 q → A0 q)
    (kk : ∀ (H1 : Heap) (locs1 : List Loc), va_P D vwCl W1 H1 → (∀ q : Nat, q < H.size → ¬ zF W0 q → H1[q]? = H[q]?) → va_S A0 H0 H1 locs1 → W p l e R s m args below meth c H1 locs1 cells slots Q (F0 m (pc + 3) ls (o.toList ++ rest))) : W p l e R s m args below meth c H locs cells slots Q (F0 m pc ls st0) := by
  intro T hT X
  obtain ⟨v, st₀, t, T', L, h0, X', hL, e1, e2, ⟨hv, hP1, hz, hk⟩, st⟩ := hr T hT X
  cases hv
  rw [h0] at hz hk
  obtain ⟨t2, a1, b1⟩ := kk T'.heap (locs ++ L) (by rw [e1]; exact hP1) (fun q h1 h2 => by rw [e1]; exact hk q h1 h2)
    ⟨Nat.le_trans hS.1 (by rw [e1]; exact hz), fun q h1 h2 => by rw [e1, hk q (Nat.lt_of_lt_of_le h1 hS.1) (fun z => h2 (hA q z))]; exact hS.2.1 q h1 h2, fun q hq => by
      rcases List.mem_append.mp hq with h | h
      · exact hS.2.2 q h
      · exact hA _ (hL q h)⟩ T' rfl X'
  exact ⟨t2, st t2 a1, b1⟩
/-- the words of a call of an instance method by a name of its own class -/
def zwV (own : String) (idx : Nat) (C : String) (y : MethodName) (b : ByteArray) (n : Nat) (ret : Option FieldType) (k : Nat) : Prop :=
  (Cond.methodLink own idx y ∈ lw_all ∧ Cond.instanceMethod y ∈ lw_all ∧ Cond.selects C y y ∈ lw_all ∧ Cond.initialized C ∈ lw_all ∧ Cond.code y b n ret ∈ lw_all) ∧ y.cls = C ∧ y.cls ≠ "java/lang/invoke/MethodHandle" ∧ y.cls ≠ "java/lang/invoke/VarHandle" ∧ (parseMethodDescriptor y.desc).map (fun d => d.parameters.length) = some k
def zwS (own : String) (idx : Nat) (y : MethodName) (b : ByteArray) (n : Nat) (ret : Option FieldType) (k : Nat) : Prop :=
  (Cond.methodLink own idx y ∈ lw_all ∧ Cond.static y ∈ lw_all ∧ Cond.initialized y.cls ∈ lw_all ∧ Cond.code y b n ret ∈ lw_all) ∧ y.cls ≠ "java/lang/invoke/MethodHandle" ∧ y.cls ≠ "java/lang/invoke/VarHandle" ∧ (parseMethodDescriptor y.desc).map (fun d => d.parameters.length) = some k
theorem good_ws {y : MethodName} {b : ByteArray} {n : Nat} {ret : Option FieldType} (hc : Cond.code y b n ret ∈ lw_all) : GoodIn lw_all (ws_ y b n ret) := fun w h => by
  have hw : w ∈ lw_all := (List.mem_cons.mp h).elim (fun q => by rw [q]; exact hc) (fun q => q)
  exact ⟨hw, good_of_word (lw_all_good hw)⟩
theorem zcwV {idx n k mc ms : Nat} {C : String} {y : MethodName} {b : ByteArray} {ret : Option FieldType} {rm : Room} (hts : ∀ w ∈ lw_all, w.before args s = true) (h : zwV own idx C y b n ret k) (hR : rm.frames + 1 ≤ R.frames ∧ 8 + (n + 11) + rm.locals ≤ R.locals) (hc : rm.cells = mc) (hs : rm.slots = ms) : CallW R s args own C idx y b n ret (ws_ y b n ret) rm mc ms k := by
  obtain ⟨⟨h1, h2, h3, h4, h5⟩, hd⟩ := h
  refine cwV (Ts := lw_all) k hts (fun w hw => ?_) rfl hc hs hd hR
  rcases List.mem_append.mp hw with q | q
  · have : w ∈ lw_all := by
      rcases List.mem_cons.mp q with rfl | q
      · exact h1
      rcases List.mem_cons.mp q with rfl | q
      · exact h2
      rcases List.mem_cons.mp q with rfl | q
      · exact h3
      rcases List.mem_cons.mp q with rfl | q
      · exact h4
      cases q
    exact ⟨this, good_of_word (lw_all_good this)⟩
  · exact good_ws h5 w q
theorem zcwS {idx n k mc ms : Nat} {y : MethodName} {b : ByteArray} {ret : Option FieldType} {rm : Room} (hts : ∀ w ∈ lw_all, w.before args s = true) (h : zwS own idx y b n ret k) (hR : rm.frames + 1 ≤ R.frames ∧ 8 + (n + 11) + rm.locals ≤ R.locals) (hc : rm.cells = mc) (hs : rm.slots = ms) : CallB R s args own idx y b n ret (ws_ y b n ret) rm mc ms k ∧ (Cond.static y).before args s = true := by
  obtain ⟨⟨h1, h2, h3, h5⟩, hd⟩ := h
  refine va_cwS (Ts := lw_all) k hts (fun w hw => ?_) rfl hc hs hd hR
  rcases List.mem_append.mp hw with q | q
  · have : w ∈ lw_all := by
      rcases List.mem_cons.mp q with rfl | q
      · exact h1
      rcases List.mem_cons.mp q with rfl | q
      · exact h2
      rcases List.mem_cons.mp q with rfl | q
      · exact h3
      cases q
    exact ⟨this, good_of_word (lw_all_good this)⟩
  · exact good_ws h5 w q
/-- the entry of a method: what stands there -/
theorem zentry {av : List Value} {n : Nat} (h : (lg_sl av).length ≤ n) {P : JFrame → Prop} (k : ∀ ls : Array Slot, lv_has ls n (lv_args 0 av) → P (F0 m 0 ls [])) : P (entryFrame m av.toArray n) := by
  rw [lg_entry_eq]
  exact k _ (lv_entry av h)
theorem zPI {y : MethodName} {n : Nat} {rm : Room} {av : List Value} (hy : plainName y.cls = true) (hown : y.cls = own) (hlen : (lg_sl av).length ≤ n)
    (body : ∀ (p : Program) (e : Env) (s : State) (m : MethodId) (args : Array Value) (below : List Frame) (meth : Method) (c : Code) (ls : Array Slot) (Q : State → Prop), CallFix p m c cc n s args lw_all own → zK D kA s → va_P D vwCl W0 s.heap → lv_has ls n (lv_args 0 av) → (∀ (v : Int32) (pc : Nat) (ls : Array Slot), o = some (.int v) → decode cc pc = .ok (.ireturn, 1) → W p l e rm s m args below meth c s.heap [] 0 0 Q (F0 m pc ls [.int v])) → W p l e rm s m args below meth c s.heap [] 0 0 Q (F0 m 0 ls [])) : MP l y cc n (some .int) rm D kA av W0 o := by
  refine Met.ofW (ws' := lw_all) (cc := cc) (maxL := n) (ret := (some .int)) hy rfl ?_
  intro p e s m args below meth c s₁ B hml hv
  obtain ⟨rfl, hP, hK⟩ := hv
  have hts := atoms_spec (ws := ws_ y cc n (some .int)) B.pre
  subst hown
  have hC : CallFix p m c cc n s av.toArray lw_all y.cls := ⟨B.exec, B.bytes, hml, findClass_of_methodNamed B.named, fun w h => hts w (List.mem_cons_of_mem _ h)⟩
  refine zentry hlen (fun ls hl => ?_)
  refine body p e s m _ below meth c ls _ hC hK hP hl (fun v pc ls ho hdg => ?_)
  exact W.iret (v := v) hC.1 hC.2.1 B.returns (fun t ht _ => ⟨by rw [ho], ht⟩) (fun q hq => absurd hq List.not_mem_nil) hdg B.notSynchronized
theorem zZI {y : MethodName} {n : Nat} {rm : Room} {av : List Value} (hy : plainName y.cls = true) (hown : y.cls = own) (hlen : (lg_sl av).length ≤ n)
    (body : ∀ (p : Program) (e : Env) (s : State) (m : MethodId) (args : Array Value) (below : List Frame) (meth : Method) (c : Code) (ls : Array Slot) (Q : State → Prop), CallFix p m c cc n s args lw_all own → zK D kA s → va_P D vwCl W0 s.heap → lv_has ls n (lv_args 0 av) → (∀ (v : Int32) (pc : Nat) (ls : Array Slot) (H1 : Heap) (locs1 : List Loc), o = some (.int v) → va_P D vwCl W1 H1 → va_S (zF W0) s.heap H1 locs1 → decode cc pc = .ok (.ireturn, 1) → W p l e rm s m args below meth c H1 locs1 0 0 Q (F0 m pc ls [.int v])) → W p l e rm s m args below meth c s.heap [] 0 0 Q (F0 m 0 ls [])) : MZ l y cc n (some .int) rm D kA av W0 W1 o := by
  refine Met.ofW (ws' := lw_all) (cc := cc) (maxL := n) (ret := (some .int)) hy rfl ?_
  intro p e s m args below meth c s₁ B hml hv
  obtain ⟨rfl, hP, hK⟩ := hv
  have hts := atoms_spec (ws := ws_ y cc n (some .int)) B.pre
  subst hown
  have hC : CallFix p m c cc n s av.toArray lw_all y.cls := ⟨B.exec, B.bytes, hml, findClass_of_methodNamed B.named, fun w h => hts w (List.mem_cons_of_mem _ h)⟩
  refine zentry hlen (fun ls hl => ?_)
  refine body p e s m _ below meth c ls _ hC hK hP hl (fun v pc ls H1 locs1 ho hP1 hS1 hdg => ?_)
  exact W.iret (v := v) hC.1 hC.2.1 B.returns (fun t ht _ => ⟨by rw [ho], by rw [ht]; exact hP1, hS1.F ht⟩) hS1.2.2 hdg B.notSynchronized
theorem zPZ {y : MethodName} {n : Nat} {rm : Room} {av : List Value} (hy : plainName y.cls = true) (hown : y.cls = own) (hlen : (lg_sl av).length ≤ n)
    (body : ∀ (p : Program) (e : Env) (s : State) (m : MethodId) (args : Array Value) (below : List Frame) (meth : Method) (c : Code) (ls : Array Slot) (Q : State → Prop), CallFix p m c cc n s args lw_all own → zK D kA s → va_P D vwCl W0 s.heap → lv_has ls n (lv_args 0 av) → (∀ (v : Int32) (pc : Nat) (ls : Array Slot) (_ : v = 0 ∨ v = 1), o = some (.int v) → decode cc pc = .ok (.ireturn, 1) → W p l e rm s m args below meth c s.heap [] 0 0 Q (F0 m pc ls [.int v])) → W p l e rm s m args below meth c s.heap [] 0 0 Q (F0 m 0 ls [])) : MP l y cc n (some .boolean) rm D kA av W0 o := by
  refine Met.ofW (ws' := lw_all) (cc := cc) (maxL := n) (ret := (some .boolean)) hy rfl ?_
  intro p e s m args below meth c s₁ B hml hv
  obtain ⟨rfl, hP, hK⟩ := hv
  have hts := atoms_spec (ws := ws_ y cc n (some .boolean)) B.pre
  subst hown
  have hC : CallFix p m c cc n s av.toArray lw_all y.cls := ⟨B.exec, B.bytes, hml, findClass_of_methodNamed B.named, fun w h => hts w (List.mem_cons_of_mem _ h)⟩
  refine zentry hlen (fun ls hl => ?_)
  refine body p e s m _ below meth c ls _ hC hK hP hl (fun v pc ls hz ho hdg => ?_)
  exact W.zret (v := v) hC.1 hC.2.1 B.returns (by rcases hz with rfl | rfl <;> rfl) (fun t ht _ => ⟨by rw [ho], ht⟩) (fun q hq => absurd hq List.not_mem_nil) hdg B.notSynchronized
theorem zZZ {y : MethodName} {n : Nat} {rm : Room} {av : List Value} (hy : plainName y.cls = true) (hown : y.cls = own) (hlen : (lg_sl av).length ≤ n)
    (body : ∀ (p : Program) (e : Env) (s : State) (m : MethodId) (args : Array Value) (below : List Frame) (meth : Method) (c : Code) (ls : Array Slot) (Q : State → Prop), CallFix p m c cc n s args lw_all own → zK D kA s → va_P D vwCl W0 s.heap → lv_has ls n (lv_args 0 av) → (∀ (v : Int32) (pc : Nat) (ls : Array Slot) (H1 : Heap) (locs1 : List Loc) (_ : v = 0 ∨ v = 1), o = some (.int v) → va_P D vwCl W1 H1 → va_S (zF W0) s.heap H1 locs1 → decode cc pc = .ok (.ireturn, 1) → W p l e rm s m args below meth c H1 locs1 0 0 Q (F0 m pc ls [.int v])) → W p l e rm s m args below meth c s.heap [] 0 0 Q (F0 m 0 ls [])) : MZ l y cc n (some .boolean) rm D kA av W0 W1 o := by
  refine Met.ofW (ws' := lw_all) (cc := cc) (maxL := n) (ret := (some .boolean)) hy rfl ?_
  intro p e s m args below meth c s₁ B hml hv
  obtain ⟨rfl, hP, hK⟩ := hv
  have hts := atoms_spec (ws := ws_ y cc n (some .boolean)) B.pre
  subst hown
  have hC : CallFix p m c cc n s av.toArray lw_all y.cls := ⟨B.exec, B.bytes, hml, findClass_of_methodNamed B.named, fun w h => hts w (List.mem_cons_of_mem _ h)⟩
  refine zentry hlen (fun ls hl => ?_)
  refine body p e s m _ below meth c ls _ hC hK hP hl (fun v pc ls H1 locs1 hz ho hP1 hS1 hdg => ?_)
  exact W.zret (v := v) hC.1 hC.2.1 B.returns (by rcases hz with rfl | rfl <;> rfl) (fun t ht _ => ⟨by rw [ho], by rw [ht]; exact hP1, hS1.F ht⟩) hS1.2.2 hdg B.notSynchronized
theorem zPV {y : MethodName} {n : Nat} {rm : Room} {av : List Value} (hy : plainName y.cls = true) (hown : y.cls = own) (hlen : (lg_sl av).length ≤ n)
    (body : ∀ (p : Program) (e : Env) (s : State) (m : MethodId) (args : Array Value) (below : List Frame) (meth : Method) (c : Code) (ls : Array Slot) (Q : State → Prop), CallFix p m c cc n s args lw_all own → zK D kA s → va_P D vwCl W0 s.heap → lv_has ls n (lv_args 0 av) → (∀ (pc : Nat) (ls : Array Slot), o = none → decode cc pc = .ok (.return_, 1) → W p l e rm s m args below meth c s.heap [] 0 0 Q (F0 m pc ls [])) → W p l e rm s m args below meth c s.heap [] 0 0 Q (F0 m 0 ls [])) : MP l y cc n none rm D kA av W0 o := by
  refine Met.ofW (ws' := lw_all) (cc := cc) (maxL := n) (ret := none) hy rfl ?_
  intro p e s m args below meth c s₁ B hml hv
  obtain ⟨rfl, hP, hK⟩ := hv
  have hts := atoms_spec (ws := ws_ y cc n none) B.pre
  subst hown
  have hC : CallFix p m c cc n s av.toArray lw_all y.cls := ⟨B.exec, B.bytes, hml, findClass_of_methodNamed B.named, fun w h => hts w (List.mem_cons_of_mem _ h)⟩
  refine zentry hlen (fun ls hl => ?_)
  refine body p e s m _ below meth c ls _ hC hK hP hl (fun pc ls ho hdg => ?_)
  exact W.vret hC.1 hC.2.1 B.returns (fun t ht _ => ⟨by rw [ho], ht⟩) (fun q hq => absurd hq List.not_mem_nil) hdg B.notSynchronized
theorem zZV {y : MethodName} {n : Nat} {rm : Room} {av : List Value} (hy : plainName y.cls = true) (hown : y.cls = own) (hlen : (lg_sl av).length ≤ n)
    (body : ∀ (p : Program) (e : Env) (s : State) (m : MethodId) (args : Array Value) (below : List Frame) (meth : Method) (c : Code) (ls : Array Slot) (Q : State → Prop), CallFix p m c cc n s args lw_all own → zK D kA s → va_P D vwCl W0 s.heap → lv_has ls n (lv_args 0 av) → (∀ (pc : Nat) (ls : Array Slot) (H1 : Heap) (locs1 : List Loc), o = none → va_P D vwCl W1 H1 → va_S (zF W0) s.heap H1 locs1 → decode cc pc = .ok (.return_, 1) → W p l e rm s m args below meth c H1 locs1 0 0 Q (F0 m pc ls [])) → W p l e rm s m args below meth c s.heap [] 0 0 Q (F0 m 0 ls [])) : MZ l y cc n none rm D kA av W0 W1 o := by
  refine Met.ofW (ws' := lw_all) (cc := cc) (maxL := n) (ret := none) hy rfl ?_
  intro p e s m args below meth c s₁ B hml hv
  obtain ⟨rfl, hP, hK⟩ := hv
  have hts := atoms_spec (ws := ws_ y cc n none) B.pre
  subst hown
  have hC : CallFix p m c cc n s av.toArray lw_all y.cls := ⟨B.exec, B.bytes, hml, findClass_of_methodNamed B.named, fun w h => hts w (List.mem_cons_of_mem _ h)⟩
  refine zentry hlen (fun ls hl => ?_)
  refine body p e s m _ below meth c ls _ hC hK hP hl (fun pc ls H1 locs1 ho hP1 hS1 hdg => ?_)
  exact W.vret hC.1 hC.2.1 B.returns (fun t ht _ => ⟨by rw [ho], by rw [ht]; exact hP1, hS1.F ht⟩) hS1.2.2 hdg B.notSynchronized
theorem zPL {y : MethodName} {n : Nat} {rm : Room} {av : List Value} (hy : plainName y.cls = true) (hown : y.cls = own) (hlen : (lg_sl av).length ≤ n)
    (body : ∀ (p : Program) (e : Env) (s : State) (m : MethodId) (args : Array Value) (below : List Frame) (meth : Method) (c : Code) (ls : Array Slot) (Q : State → Prop), CallFix p m c cc n s args lw_all own → zK D kA s → va_P D vwCl W0 s.heap → lv_has ls n (lv_args 0 av) → (∀ (v : Int64) (pc : Nat) (ls : Array Slot), o = some (.long v) → decode cc pc = .ok (.lreturn, 1) → W p l e rm s m args below meth c s.heap [] 0 0 Q (F0 m pc ls [.long v])) → W p l e rm s m args below meth c s.heap [] 0 0 Q (F0 m 0 ls [])) : MP l y cc n (some .long) rm D kA av W0 o := by
  refine Met.ofW (ws' := lw_all) (cc := cc) (maxL := n) (ret := (some .long)) hy rfl ?_
  intro p e s m args below meth c s₁ B hml hv
  obtain ⟨rfl, hP, hK⟩ := hv
  have hts := atoms_spec (ws := ws_ y cc n (some .long)) B.pre
  subst hown
  have hC : CallFix p m c cc n s av.toArray lw_all y.cls := ⟨B.exec, B.bytes, hml, findClass_of_methodNamed B.named, fun w h => hts w (List.mem_cons_of_mem _ h)⟩
  refine zentry hlen (fun ls hl => ?_)
  refine body p e s m _ below meth c ls _ hC hK hP hl (fun v pc ls ho hdg => ?_)
  exact W.lret (v := v) hC.1 hC.2.1 B.returns (fun t ht _ => ⟨by rw [ho], ht⟩) (fun q hq => absurd hq List.not_mem_nil) hdg B.notSynchronized
theorem zZL {y : MethodName} {n : Nat} {rm : Room} {av : List Value} (hy : plainName y.cls = true) (hown : y.cls = own) (hlen : (lg_sl av).length ≤ n)
    (body : ∀ (p : Program) (e : Env) (s : State) (m : MethodId) (args : Array Value) (below : List Frame) (meth : Method) (c : Code) (ls : Array Slot) (Q : State → Prop), CallFix p m c cc n s args lw_all own → zK D kA s → va_P D vwCl W0 s.heap → lv_has ls n (lv_args 0 av) → (∀ (v : Int64) (pc : Nat) (ls : Array Slot) (H1 : Heap) (locs1 : List Loc), o = some (.long v) → va_P D vwCl W1 H1 → va_S (zF W0) s.heap H1 locs1 → decode cc pc = .ok (.lreturn, 1) → W p l e rm s m args below meth c H1 locs1 0 0 Q (F0 m pc ls [.long v])) → W p l e rm s m args below meth c s.heap [] 0 0 Q (F0 m 0 ls [])) : MZ l y cc n (some .long) rm D kA av W0 W1 o := by
  refine Met.ofW (ws' := lw_all) (cc := cc) (maxL := n) (ret := (some .long)) hy rfl ?_
  intro p e s m args below meth c s₁ B hml hv
  obtain ⟨rfl, hP, hK⟩ := hv
  have hts := atoms_spec (ws := ws_ y cc n (some .long)) B.pre
  subst hown
  have hC : CallFix p m c cc n s av.toArray lw_all y.cls := ⟨B.exec, B.bytes, hml, findClass_of_methodNamed B.named, fun w h => hts w (List.mem_cons_of_mem _ h)⟩
  refine zentry hlen (fun ls hl => ?_)
  refine body p e s m _ below meth c ls _ hC hK hP hl (fun v pc ls H1 locs1 ho hP1 hS1 hdg => ?_)
  exact W.lret (v := v) hC.1 hC.2.1 B.returns (fun t ht _ => ⟨by rw [ho], by rw [ht]; exact hP1, hS1.F ht⟩) hS1.2.2 hdg B.notSynchronized
/-- a call of an instance method that leaves the heap as it was -/
theorem zcVP {idx n k : Nat} {C : String} {y : MethodName} {b : ByteArray} {ret : Option FieldType} {rm : Room} {b0 ci q0 : Nat} {fs As : List Value} {r : vw_C} (hC : CallFix p m c cc nL s args lw_all own) (hK : zK D kA s) (hM : MP l y b n ret rm D kA (.ref b0 :: As) W0 o) (hw : zwV own idx C y b n ret k)
    (hPc : va_P D vwCl W0 H) (he : W0[q0]? = some (b0, .inr (ci, fs))) (hc : vwCl[ci]? = some r) (hrC : r.1 = C) (hk : As.length = k) (hl : ls.size = nL) (hst : st0 = As.reverse ++ .ref b0 :: rest) (hcat : (rest.map fun v => v.category).sum ≤ 8) (hR : rm.frames + 1 ≤ R.frames ∧ 8 + (n + 11) + rm.locals ≤ R.locals) (hrm : rm.cells = 0 ∧ rm.slots = 0) (hf : cells ≤ R.cells ∧ slots ≤ R.slots) (hdg : decode cc pc = .ok (.invokevirtual idx, 3))
    (kk : W p l e R s m args below meth c H locs cells slots Q (F0 m (pc + 3) ls (o.toList ++ rest))) : W p l e R s m args below meth c H locs cells slots Q (F0 m pc ls st0) := by
  subst hrC
  exact zbackP (va_runV (g := F0 m pc ls st0) (As := As) (rest := rest) hC hM (zcwV hC.2.2.2.2 hw hR hrm.1 hrm.2) ⟨zblind, va_recv hK.1 hPc hc he, fun U hU hW => ⟨rfl, by rw [hU]; exact hPc, hK.warm hW⟩⟩ rfl hk hl hst (lv_room hcat) hdg hf) kk
/-- a call of an instance method that writes in its world -/
theorem zcVZ {idx n k : Nat} {C : String} {y : MethodName} {b : ByteArray} {ret : Option FieldType} {rm : Room} {b0 ci q0 : Nat} {fs As : List Value} {r : vw_C} (hC : CallFix p m c cc nL s args lw_all own) (hK : zK D kA s) (hM : MZ l y b n ret rm D kA (.ref b0 :: As) W0 W1 o) (hw : zwV own idx C y b n ret k) (hS : va_S A0 H0 H locs) (hA : ∀ q, zF W0 q → A0 q)
    (hPc : va_P D vwCl W0 H) (he : W0[q0]? = some (b0, .inr (ci, fs))) (hc : vwCl[ci]? = some r) (hrC : r.1 = C) (hk : As.length = k) (hl : ls.size = nL) (hst : st0 = As.reverse ++ .ref b0 :: rest) (hcat : (rest.map fun v => v.category).sum ≤ 8) (hR : rm.frames + 1 ≤ R.frames ∧ 8 + (n + 11) + rm.locals ≤ R.locals) (hrm : rm.cells = 0 ∧ rm.slots = 0) (hf : cells ≤ R.cells ∧ slots ≤ R.slots) (hdg : decode cc pc = .ok (.invokevirtual idx, 3))
    (kk : ∀ (H1 : Heap) (locs1 : List Loc), va_P D vwCl W1 H1 → (∀ q : Nat, q < H.size → ¬ zF W0 q → H1[q]? = H[q]?) → va_S A0 H0 H1 locs1 → W p l e R s m args below meth c H1 locs1 cells slots Q (F0 m (pc + 3) ls (o.toList ++ rest))) : W p l e R s m args below meth c H locs cells slots Q (F0 m pc ls st0) := by
  subst hrC
  exact zbackZ (va_runV (g := F0 m pc ls st0) (As := As) (rest := rest) hC hM (zcwV hC.2.2.2.2 hw hR hrm.1 hrm.2) ⟨zblind, va_recv hK.1 hPc hc he, fun U hU hW => ⟨rfl, by rw [hU]; exact hPc, hK.warm hW⟩⟩ rfl hk hl hst (lv_room hcat) hdg hf) hS hA kk
theorem zcSP {idx n k : Nat} {y : MethodName} {b : ByteArray} {ret : Option FieldType} {rm : Room} {As : List Value} (hC : CallFix p m c cc nL s args lw_all own) (hK : zK D kA s) (hM : MP l y b n ret rm D kA As W0 o) (hw : zwS own idx y b n ret k)
    (hPc : va_P D vwCl W0 H) (hk : As.length = k) (hl : ls.size = nL) (hst : st0 = As.reverse ++ rest) (hcat : (rest.map fun v => v.category).sum ≤ 8) (hR : rm.frames + 1 ≤ R.frames ∧ 8 + (n + 11) + rm.locals ≤ R.locals) (hrm : rm.cells = 0 ∧ rm.slots = 0) (hf : cells ≤ R.cells ∧ slots ≤ R.slots) (hdg : decode cc pc = .ok (.invokestatic idx, 3))
    (kk : W p l e R s m args below meth c H locs cells slots Q (F0 m (pc + 3) ls (o.toList ++ rest))) : W p l e R s m args below meth c H locs cells slots Q (F0 m pc ls st0) := 
  zbackP (va_runS (g := F0 m pc ls st0) (As := As) (rest := rest) hC hM (zcwS hC.2.2.2.2 hw hR hrm.1 hrm.2) ⟨zblind, fun U hU hW => ⟨rfl, by rw [hU]; exact hPc, hK.warm hW⟩⟩ rfl hk hl hst (lv_room hcat) hdg hf) kk
theorem zcSZ {idx n k : Nat} {y : MethodName} {b : ByteArray} {ret : Option FieldType} {rm : Room} {As : List Value} (hC : CallFix p m c cc nL s args lw_all own) (hK : zK D kA s) (hM : MZ l y b n ret rm D kA As W0 W1 o) (hw : zwS own idx y b n ret k) (hS : va_S A0 H0 H locs) (hA : ∀ q, zF W0 q → A0 q)
    (hPc : va_P D vwCl W0 H) (hk : As.length = k) (hl : ls.size = nL) (hst : st0 = As.reverse ++ rest) (hcat : (rest.map fun v => v.category).sum ≤ 8) (hR : rm.frames + 1 ≤ R.frames ∧ 8 + (n + 11) + rm.locals ≤ R.locals) (hrm : rm.cells = 0 ∧ rm.slots = 0) (hf : cells ≤ R.cells ∧ slots ≤ R.slots) (hdg : decode cc pc = .ok (.invokestatic idx, 3))
    (kk : ∀ (H1 : Heap) (locs1 : List Loc), va_P D vwCl W1 H1 → (∀ q : Nat, q < H.size → ¬ zF W0 q → H1[q]? = H[q]?) → va_S A0 H0 H1 locs1 → W p l e R s m args below meth c H1 locs1 cells slots Q (F0 m (pc + 3) ls (o.toList ++ rest))) : W p l e R s m args below meth c H locs cells slots Q (F0 m pc ls st0) :=
  zbackZ (va_runS (g := F0 m pc ls st0) (As := As) (rest := rest) hC hM (zcwS hC.2.2.2.2 hw hR hrm.1 hrm.2) ⟨zblind, fun U hU hW => ⟨rfl, by rw [hU]; exact hPc, hK.warm hW⟩⟩ rfl hk hl hst (lv_room hcat) hdg hf) hS hA kk
/-! arrays -/
theorem zial {ws : va_W} {q0 b n : Nat} {f : Nat → Int32} {i : Int32} (hC : CallFix p m c cc nL s args lw_all own) (hK : zK D kA s) (hP : va_P D vwCl ws H) (ha : ws[q0]? = some (b, .inl (kA 0, n, .inl f))) (hin : inb i n) (hdg : decode cc pc = .ok (.iaload, 1))
    (kk : W p l e R s m args below meth c H locs cells slots Q (F0 m (pc + 1) ls (.int (f i.toNatClampNeg) :: rest))) : W p l e R s m args below meth c H locs cells slots Q (F0 m pc ls (.int i :: .ref b :: rest)) := va_iald hC.1 hC.2.1 hK.1 hP q0 0 ha rfl (inb_in hin) hdg kk
theorem zbal {ws : va_W} {q0 b n : Nat} {f : Nat → Int32} {i : Int32} (hC : CallFix p m c cc nL s args lw_all own) (hK : zK D kA s) (hP : va_P D vwCl ws H) (ha : ws[q0]? = some (b, .inl (kA 1, n, .inl f))) (hin : inb i n) (hdg : decode cc pc = .ok (.baload, 1))
    (kk : W p l e R s m args below meth c H locs cells slots Q (F0 m (pc + 1) ls (.int (f i.toNatClampNeg) :: rest))) : W p l e R s m args below meth c H locs cells slots Q (F0 m pc ls (.int i :: .ref b :: rest)) := va_bald hC.1 hC.2.1 hK.1 hP q0 1 ha rfl (inb_in hin) hdg kk
theorem zlal {ws : va_W} {q0 b n : Nat} {f : Nat → Int64} {i : Int32} (hC : CallFix p m c cc nL s args lw_all own) (hK : zK D kA s) (hP : va_P D vwCl ws H) (ha : ws[q0]? = some (b, .inl (kA 2, n, .inr (.inl f)))) (hin : inb i n) (hdg : decode cc pc = .ok (.laload, 1))
    (kk : W p l e R s m args below meth c H locs cells slots Q (F0 m (pc + 1) ls (.long (f i.toNatClampNeg) :: rest))) : W p l e R s m args below meth c H locs cells slots Q (F0 m pc ls (.int i :: .ref b :: rest)) := va_lald hC.1 hC.2.1 hK.1 hP q0 2 ha rfl (inb_in hin) hdg kk
theorem zias {ws : va_W} {q0 b n : Nat} {f : Nat → Int32} {i x : Int32} (hC : CallFix p m c cc nL s args lw_all own) (hK : zK D kA s) (hP : va_P D vwCl ws H) (hD : va_D A0 ws) (hS : va_S A0 H0 H locs) (ha : ws[q0]? = some (b, .inl (kA 0, n, .inl f))) (hin : inb i n) (hdg : decode cc pc = .ok (.iastore, 1))
    (kk : ∀ (H1 : Heap) (locs1 : List Loc), va_P D vwCl (ws.set q0 (b, .inl (kA 0, n, .inl (upd f i.toNatClampNeg x)))) H1 → va_S A0 H0 H1 locs1 → W p l e R s m args below meth c H1 locs1 cells slots Q (F0 m (pc + 1) ls rest)) : W p l e R s m args below meth c H locs cells slots Q (F0 m pc ls (.int x :: .int i :: .ref b :: rest)) := va_iast hC.1 hC.2.1 hK.1 hP hD hS q0 0 ha rfl (inb_in hin) hdg (fun H1 locs1 hP1 _ hS1 => kk H1 locs1 hP1 hS1)
theorem zDself {τ : Type} {C : τ → va_W} (hD : ∀ V, va_D (fun _ => True) (C V)) (V0 : τ) (hf : ∀ V, (C V).map Prod.fst = (C V0).map Prod.fst) (V : τ) : va_D (zF (C V0)) (C V) := by
  refine ⟨(hD V).1, fun k q hk => ?_⟩
  have h1 : ((C V0).map Prod.fst)[k]? = some q.1 := by rw [← hf V, List.getElem?_map, hk]; rfl
  rw [List.getElem?_map] at h1
  cases h2 : (C V0)[k]? with
  | none => rw [h2] at h1; cases h1
  | some z =>
    rw [h2] at h1
    have h3 : z.1 = q.1 := Option.some.inj h1
    exact ⟨k, z.2, by rw [h2, ← h3]⟩
theorem zbas {ws : va_W} {q0 b n : Nat} {f : Nat → Int32} {i x : Int32} (hC : CallFix p m c cc nL s args lw_all own) (hK : zK D kA s) (hP : va_P D vwCl ws H) (hD : va_D A0 ws) (hS : va_S A0 H0 H locs) (ha : ws[q0]? = some (b, .inl (kA 1, n, .inl f))) (hin : inb i n) (hdg : decode cc pc = .ok (.bastore, 1))
    (kk : ∀ (H1 : Heap) (locs1 : List Loc), va_P D vwCl (ws.set q0 (b, .inl (kA 1, n, .inl (upd f i.toNatClampNeg x.toInt8.toInt32)))) H1 → va_S A0 H0 H1 locs1 → W p l e R s m args below meth c H1 locs1 cells slots Q (F0 m (pc + 1) ls rest)) : W p l e R s m args below meth c H locs cells slots Q (F0 m pc ls (.int x :: .int i :: .ref b :: rest)) := va_bast hC.1 hC.2.1 hK.1 hP hD hS q0 1 ha rfl (inb_in hin) hdg (fun H1 locs1 hP1 _ hS1 => kk H1 locs1 hP1 hS1)
theorem zlas {ws : va_W} {q0 b n : Nat} {f : Nat → Int64} {i : Int32} {x : Int64} (hC : CallFix p m c cc nL s args lw_all own) (hK : zK D kA s) (hP : va_P D vwCl ws H) (hD : va_D A0 ws) (hS : va_S A0 H0 H locs) (ha : ws[q0]? = some (b, .inl (kA 2, n, .inr (.inl f)))) (hin : inb i n) (hdg : decode cc pc = .ok (.lastore, 1))
    (kk : ∀ (H1 : Heap) (locs1 : List Loc), va_P D vwCl (ws.set q0 (b, .inl (kA 2, n, .inr (.inl (vp_updL f i.toNatClampNeg x))))) H1 → va_S A0 H0 H1 locs1 → W p l e R s m args below meth c H1 locs1 cells slots Q (F0 m (pc + 1) ls rest)) : W p l e R s m args below meth c H locs cells slots Q (F0 m pc ls (.long x :: .int i :: .ref b :: rest)) := va_last hC.1 hC.2.1 hK.1 hP hD hS q0 2 ha rfl (inb_in hin) hdg (fun H1 locs1 hP1 _ hS1 => kk H1 locs1 hP1 hS1)
theorem zlen_int {ws : va_W} {q0 b : Nat} {x : vp_A} {v : Int32} (hC : CallFix p m c cc nL s args lw_all own) (hK : zK D kA s) (hP : va_P D vwCl ws H) (ha : ws[q0]? = some (b, .inl (kA 0, x))) (hv : Int32.ofNat x.1 = v) (hdg : decode cc pc = .ok (.arraylength, 1))
    (kk : W p l e R s m args below meth c H locs cells slots Q (F0 m (pc + 1) ls (.int v :: rest))) : W p l e R s m args below meth c H locs cells slots Q (F0 m pc ls (.ref b :: rest)) := va_alen hC.1 hC.2.1 hK.1 hP q0 0 ha (ty := .int) rfl hv hdg kk
theorem zlen_byte {ws : va_W} {q0 b : Nat} {x : vp_A} {v : Int32} (hC : CallFix p m c cc nL s args lw_all own) (hK : zK D kA s) (hP : va_P D vwCl ws H) (ha : ws[q0]? = some (b, .inl (kA 1, x))) (hv : Int32.ofNat x.1 = v) (hdg : decode cc pc = .ok (.arraylength, 1))
    (kk : W p l e R s m args below meth c H locs cells slots Q (F0 m (pc + 1) ls (.int v :: rest))) : W p l e R s m args below meth c H locs cells slots Q (F0 m pc ls (.ref b :: rest)) := va_alen hC.1 hC.2.1 hK.1 hP q0 1 ha (ty := .byte) rfl hv hdg kk
abbrev mxI (x y : Int32) : Int32 := if x < y then y else x
abbrev mnI (x y : Int32) : Int32 := if y < x then y else x
abbrev abI (x : Int32) : Int32 := if 0 ≤ x then x else 0 - x
theorem z_max {idx : Nat} {x y : Int32} (hC : CallFix p m c cc nL s args lw_all own) (hl : Cond.methodLink own idx Lib.Math.max.name ∈ lw_all) (hs : ls.size = nL) (hr : (rest.map fun v => v.category).sum ≤ 8) (hR : 1 ≤ R.frames ∧ 21 ≤ R.locals) (hf : cells ≤ R.cells ∧ slots ≤ R.slots) (hdg : decode cc pc = .ok (.invokestatic idx, 3))
    (kk : W p l e R s m args below meth c H locs cells slots Q (F0 m (pc + 3) ls (.int (mxI x y) :: rest))) : W p l e R s m args below meth c H locs cells slots Q (F0 m pc ls (.int y :: .int x :: rest)) :=
  va_mmax hC.1 hC.2.1 (by rw [hC.2.2.1, hs]) hC.2.2.2.1 (hC.2.2.2.2 _ hl) (hC.2.2.2.2 _ qMaxS) (hC.2.2.2.2 _ qMathI) (hC.2.2.2.2 _ qMaxC) hR.1 (by omega) hf.1 hf.2 hdg kk
theorem z_min {idx : Nat} {x y : Int32} (hC : CallFix p m c cc nL s args lw_all own) (hl : Cond.methodLink own idx Lib.Math.min.name ∈ lw_all) (hs : ls.size = nL) (hr : (rest.map fun v => v.category).sum ≤ 8) (hR : 1 ≤ R.frames ∧ 21 ≤ R.locals) (hf : cells ≤ R.cells ∧ slots ≤ R.slots) (hdg : decode cc pc = .ok (.invokestatic idx, 3))
    (kk : W p l e R s m args below meth c H locs cells slots Q (F0 m (pc + 3) ls (.int (mnI x y) :: rest))) : W p l e R s m args below meth c H locs cells slots Q (F0 m pc ls (.int y :: .int x :: rest)) :=
  va_mmin hC.1 hC.2.1 (by rw [hC.2.2.1, hs]) hC.2.2.2.1 (hC.2.2.2.2 _ hl) (hC.2.2.2.2 _ qMinS) (hC.2.2.2.2 _ qMathI) (hC.2.2.2.2 _ qMinC) hR.1 (by omega) hf.1 hf.2 hdg kk
theorem z_abs {idx : Nat} {x : Int32} (hC : CallFix p m c cc nL s args lw_all own) (hl : Cond.methodLink own idx Lib.Math.abs.name ∈ lw_all) (hs : ls.size = nL) (hr : (rest.map fun v => v.category).sum ≤ 8) (hR : 1 ≤ R.frames ∧ 21 ≤ R.locals) (hf : cells ≤ R.cells ∧ slots ≤ R.slots) (hdg : decode cc pc = .ok (.invokestatic idx, 3))
    (kk : W p l e R s m args below meth c H locs cells slots Q (F0 m (pc + 3) ls (.int (abI x) :: rest))) : W p l e R s m args below meth c H locs cells slots Q (F0 m pc ls (.int x :: rest)) :=
  va_mabs hC.1 hC.2.1 (by rw [hC.2.2.1, hs]) hC.2.2.2.1 (hC.2.2.2.2 _ hl) (hC.2.2.2.2 _ qAbsS) (hC.2.2.2.2 _ qMathI) (hC.2.2.2.2 _ qAbsC) hR.1 (by omega) hf.1 hf.2 hdg kk
theorem zlcmp0 (x y : Int64) : lg_cmp x y = 0 ↔ x = y := lg_cmp_eq x y
theorem z_lcmp_eq {x y : Int64} {off : Int} {tgt : Nat} (hx : p.tables.exec = Jvm.exec) (hb : c.code = cc) (h1 : decode cc pc = .ok (.lcmp, 1)) (h2 : decode cc (pc + 1) = .ok (.ifCond .eq off, 3)) (ht : ((pc + 1 : Nat) : Int) + off = (tgt : Int))
    (kt : x = y → W p l e R s m args below meth c H locs cells slots Q (F0 m tgt ls rest)) (kf : ¬ x = y → W p l e R s m args below meth c H locs cells slots Q (F0 m (pc + 1 + 3) ls rest)) : W p l e R s m args below meth c H locs cells slots Q (F0 m pc ls (.long y :: .long x :: rest)) :=
  W.lcmp hx hb h1 (lv_if_eq hx hb h2 ht (fun q => kt ((zlcmp0 x y).mp q)) (fun q => kf (fun z => q ((zlcmp0 x y).mpr z))))
theorem z_lcmp_ne {x y : Int64} {off : Int} {tgt : Nat} (hx : p.tables.exec = Jvm.exec) (hb : c.code = cc) (h1 : decode cc pc = .ok (.lcmp, 1)) (h2 : decode cc (pc + 1) = .ok (.ifCond .ne off, 3)) (ht : ((pc + 1 : Nat) : Int) + off = (tgt : Int))
    (kt : ¬ x = y → W p l e R s m args below meth c H locs cells slots Q (F0 m tgt ls rest)) (kf : x = y → W p l e R s m args below meth c H locs cells slots Q (F0 m (pc + 1 + 3) ls rest)) : W p l e R s m args below meth c H locs cells slots Q (F0 m pc ls (.long y :: .long x :: rest)) :=
  W.lcmp hx hb h1 (lv_if_ne hx hb h2 ht (fun q => kt (fun z => q ((zlcmp0 x y).mpr z))) (fun q => kf ((zlcmp0 x y).mp (q))))
theorem z_tsIn {k : Nat} {x : Int32} {dflt lo hi : Int} {offs : Array Int} {len tgt : Nat} {off : Int} {v : Int32} (hx : p.tables.exec = Jvm.exec) (hb : c.code = cc) (hdg : decode cc pc = .ok (.tableswitch dflt lo hi offs, len)) (he : x = v) (hv : ¬ v.toInt < lo ∧ ¬ hi < v.toInt ∧ (v.toInt - lo).toNat = k) (ho : offs[k]? = some off) (ht : (pc : Int) + off = (tgt : Int))
    (kk : W p l e R s m args below meth c H locs cells slots Q (F0 m tgt ls rest)) : W p l e R s m args below meth c H locs cells slots Q (F0 m pc ls (.int x :: rest)) := by
  subst he
  exact lv_tableIn hx hb hdg hv.1 hv.2.1 (by rw [hv.2.2]; exact ho) ht kk
theorem z_tsOut {x : Int32} {dflt lo hi : Int} {offs : Array Int} {len tgt : Nat} (hx : p.tables.exec = Jvm.exec) (hb : c.code = cc) (hdg : decode cc pc = .ok (.tableswitch dflt lo hi offs, len)) (ht : (pc : Int) + dflt = (tgt : Int)) (h : ∀ k : Nat, k < (hi - lo + 1).toNat → ¬ x = Int32.ofInt (lo + k)) (hr : -2147483648 ≤ lo ∧ hi < 2147483648)
    (kk : W p l e R s m args below meth c H locs cells slots Q (F0 m tgt ls rest)) : W p l e R s m args below meth c H locs cells slots Q (F0 m pc ls (.int x :: rest)) := by
  refine lv_tableOut hx hb hdg ?_ ht kk
  by_cases h1 : x.toInt < lo
  · exact Or.inl h1
  by_cases h2 : hi < x.toInt
  · exact Or.inr h2
  refine absurd ?_ (h (x.toInt - lo).toNat (by omega))
  rw [show lo + (((x.toInt - lo).toNat : Nat) : Int) = x.toInt by omega, Int32.ofInt_toInt]
theorem rI {x r : Int32} (h : some x = some r) : some (Value.int r) = some (Value.int x) := by rw [Option.some.inj h]
theorem rL {x r : Int64} (h : some x = some r) : some (Value.long r) = some (Value.long x) := by rw [Option.some.inj h]
theorem zFsub {ws w0 : va_W} (hD : va_D A0 ws) (is : List Nat) (h0 : is.map (fun i => ws[i]?) = w0.map some) : ∀ q, zF w0 q → A0 q := by
  rintro q ⟨k, e, hk⟩
  have h1 : (is.map (fun i => ws[i]?))[k]? = some (some (q, e)) := by rw [h0, List.getElem?_map, hk]; rfl
  rw [List.getElem?_map] at h1
  cases h2 : is[k]? with
  | none => rw [h2] at h1; cases h1
  | some i => rw [h2] at h1; exact hD.2 i (q, e) (Option.some.inj h1)
def uw (V : St) (k : Nat) (f : Nat → Int32) : St := fun j => if j = k then f else V j
end ZR
