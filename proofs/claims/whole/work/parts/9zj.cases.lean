/-! the law's cases: rows, arguments, the ends -/
def raEnd : List (Nat × Bool) → Nat → Nat
  | [], pc => pc
  | (_, false) :: ks, pc => raEnd ks (pc + 6)
  | (_, true) :: ks, pc => raEnd ks (pc + 14)
def raRows : List (Nat × Bool) → Nat → List (Nat × Instr × Nat)
  | [], _ => []
  | (k, false) :: ks, pc => (pc, .aload_n 0, 1) :: (pc + 1, .iload 5, 2) :: (pc + 3, .iconst (k : Int), 1) :: (pc + 4, .iadd, 1) :: (pc + 5, .iaload, 1) :: raRows ks (pc + 6)
  | (k, true) :: ks, pc => (pc, .aload_n 0, 1) :: (pc + 1, .iload 5, 2) :: (pc + 3, .iconst (k : Int), 1) :: (pc + 4, .iadd, 1) :: (pc + 5, .iaload, 1) :: (pc + 6, .ifCond .eq 7, 3) :: (pc + 9, .iconst 1, 1) :: (pc + 10, .goto 4, 3) :: (pc + 13, .iconst 0, 1) :: raRows ks (pc + 14)
def ev (xs : Nat → Int32) (n k : Nat) : Int := (xs (n + k)).toInt
def bn (x : Int) : Int := if x = 0 then 0 else 1
def av1 (xs : Nat → Int32) (n : Nat) : Nat × Bool → Int
  | (k, false) => ev xs n k
  | (k, true) => bn (ev xs n k)
def argv (xs : Nat → Int32) (n : Nat) (ks : List (Nat × Bool)) : List Value := ks.map (fun q => vI (av1 xs n q))
theorem ev_rng (xs : Nat → Int32) (n k : Nat) : rng (ev xs n k) := by
  have h1 := Int32.le_toInt (xs (n + k))
  have h2 := Int32.toInt_lt (xs (n + k))
  unfold ev
  constructor <;> omega
theorem bn_rng (x : Int) : rng (bn x) := by
  unfold bn
  split
  · exact ⟨by decide, by decide⟩
  · exact ⟨by decide, by decide⟩
abbrev lb (a a8 : Nat → Nat) (bO bD b n : Nat) : List (Nat × Value) := [(5, vI (n : Int)), (4, .ref bD), (3, .ref bO), (2, .ref (a8 0)), (1, .ref (a 0)), (0, .ref b)]
def stRows (pc q1 idx : Nat) : List (Nat × Instr × Nat) := [(pc, .aload_n 1, 1), (q1, .aload_n 3, 1), (q1 + 1, .invokestatic idx, 3)]
def mdRows (u v idx : Nat) : List (Nat × Instr × Nat) := [(u, .istore 6, 2), (u + 2, .aload_n 2, 1), (v, .invokevirtual idx, 3), (v + 3, .istore 7, 2)]
def tlRows (t : Nat) : List (Nat × Instr × Nat) := [(t, .aload_n 2, 1), (t + 1, .invokevirtual 164, 3), (t + 4, .iload 6, 2), (t + 6, .if_icmp .eq 5, 3), (t + 11, .iload 6, 2), (t + 13, .ifCond .ne 15, 3), (t + 16, .aload_n 3, 1), (t + 17, .iconst 0, 1), (t + 18, .laload, 1), (t + 19, .iload 7, 2), (t + 21, .i2l, 1), (t + 22, .lcmp, 1), (t + 23, .ifCond .eq 5, 3), (t + 28, .goto (3089 - ((t + 28 : Nat) : Int)), 3)]
def cqRows (ks : List (Nat × Bool)) (pc idx1 idx2 : Nat) : List (Nat × Instr × Nat) := stRows pc (raEnd ks (pc + 1)) idx1 ++ (raRows ks (pc + 1) ++ (mdRows (raEnd ks (pc + 1) + 4) (raEnd ks (raEnd ks (pc + 1) + 7)) idx2 ++ (raRows ks (raEnd ks (pc + 1) + 7) ++ tlRows (raEnd ks (raEnd ks (pc + 1) + 7) + 5))))
/-- rows of a case that compares two direct calls -/
def cdRows (ks : List (Nat × Bool)) (pc idx1 idx2 : Nat) : List (Nat × Instr × Nat) := [(pc, .aload_n 1, 1), (raEnd ks (pc + 1), .invokevirtual idx1, 3), (raEnd ks (pc + 1) + 3, .aload_n 2, 1), (raEnd ks (raEnd ks (pc + 1) + 4), .invokevirtual idx2, 3), (raEnd ks (raEnd ks (pc + 1) + 4) + 3, .if_icmp .eq (3089 - ((raEnd ks (raEnd ks (pc + 1) + 4) + 3 : Nat) : Int)), 3)] ++ (raRows ks (pc + 1) ++ raRows ks (raEnd ks (pc + 1) + 4))
/-- between the calls -/
def LI (D : va_G) (kA : Nat → ClassId) (a a8 : Nat → Nat) (bO bD : Nat) (s : State) (H : Heap) (locs : List Loc) : Prop := ∃ (pa : Nat → Nat → Nat) (V X : Sz) (PV : Nat → Sz) (K : Nat) (V8 : Sz) (T : Nat → Int) (TD : Nat → UInt64), va_P D vwCl (WL kA a a8 bO bD pa V X PV K V8 T TD) H ∧ va_D (zA s) (WL kA a a8 bO bD pa V X PV K V8 T TD) ∧ va_S (zA s) s.heap H locs ∧ Rel V PV K V8
section LCS
variable {p : Program} {l : Launch} {e : Env} {s : State} {m : MethodId} {below : List Frame} {meth : Method} {c : Code} {H : Heap} {locs : List Loc} {cells slots : Nat} {Q : State → Prop}
variable {ls : Array Slot} {rest : List Value} {D : va_G} {kA : Nat → ClassId} {b L n : Nat} {xs : Nat → Int32} {adK adV : Nat → Nat} {a a8 : Nat → Nat} {bO bD : Nat}
theorem jarg {k pc : Nat} (hL : LC p l s m c b L xs D kA adK adV) (hS : va_S (zA s) s.heap H locs) (h0 : ls[0]? = some (.val (.ref b))) (h5 : ls[5]? = some (.val (vI (n : Int)))) (hk : n + k < L)
    (d0 : decode code pc = .ok (.aload_n 0, 1)) (d1 : decode code (pc + 1) = .ok (.iload 5, 2)) (d2 : decode code (pc + 3) = .ok (.iconst (k : Int), 1)) (d3 : decode code (pc + 4) = .ok (.iadd, 1)) (d4 : decode code (pc + 5) = .ok (.iaload, 1))
    (kk : W p l e room_1 s m #[Value.ref b] below meth c H locs cells slots Q (F0 m (pc + 6) ls (vI (ev xs n k) :: rest))) : W p l e room_1 s m #[Value.ref b] below meth c H locs cells slots Q (F0 m pc ls rest) := by
  obtain ⟨hC, -, -, -, -, hx, hb, hL2⟩ := hL
  refine lv_aload_n hC.1 hC.2.1 d0 rfl h0 <| ziload hC.1 hC.2.1 d1 h5 <| ziconst hC.1 hC.2.1 d2 <| ziadd hC.1 hC.2.1 d3 ?_
  have hi := oI_idx (x := (n : Int) + (k : Int)) (n := L) ⟨by omega, by omega⟩ (by omega)
  refine va_sld hC.1 hC.2.1 hx hb (Nat.not_le.mpr hb) hS (inb_in hi.1) d4 ?_
  rw [hi.2, show ((n : Int) + (k : Int)).toNat = n + k by omega]
  unfold ev vI at kk
  rw [Int32.ofInt_toInt] at kk
  exact kk
theorem jbool {pc : Nat} {x : Int} (hx : p.tables.exec = Jvm.exec) (hb : c.code = code) (hr : rng x)
    (d0 : decode code pc = .ok (.ifCond .eq 7, 3)) (d1 : decode code (pc + 3) = .ok (.iconst 1, 1)) (d2 : decode code (pc + 4) = .ok (.goto 4, 3)) (d3 : decode code (pc + 7) = .ok (.iconst 0, 1))
    (kk : W p l e room_1 s m #[Value.ref b] below meth c H locs cells slots Q (F0 m (pc + 8) ls (vI (bn x) :: rest))) : W p l e room_1 s m #[Value.ref b] below meth c H locs cells slots Q (F0 m pc ls (vI x :: rest)) := by
  refine zif_eq (tgt := pc + 7) hx hb hr d0 (by omega) (fun h => ?_) (fun h => ?_)
  · refine ziconst hx hb d3 ?_
    rw [show bn x = 0 from if_pos h] at kk
    exact kk
  · refine ziconst hx hb d1 <| lv_goto (tgt := pc + 8) hx hb d2 (by omega) ?_
    rw [show bn x = 1 from if_neg h] at kk
    exact kk
theorem jpush (hL : LC p l s m c b L xs D kA adK adV) (hS : va_S (zA s) s.heap H locs) (h0 : ls[0]? = some (.val (.ref b))) (h5 : ls[5]? = some (.val (vI (n : Int)))) (hn : n + 6 ≤ L) (ks : List (Nat × Bool)) (pc : Nat) (rest : List Value) (hks : ∀ q ∈ ks, q.1 < 6) (hd : ∀ q ∈ raRows ks pc, decode code q.1 = .ok q.2)
    (kk : W p l e room_1 s m #[Value.ref b] below meth c H locs cells slots Q (F0 m (raEnd ks pc) ls ((argv xs n ks).reverse ++ rest))) : W p l e room_1 s m #[Value.ref b] below meth c H locs cells slots Q (F0 m pc ls rest) := by
  induction ks generalizing pc rest with
  | nil => exact kk
  | cons q ks ih =>
    obtain ⟨k, f⟩ := q
    have hk : k < 6 := hks (k, f) List.mem_cons_self
    have hks2 : ∀ q ∈ ks, q.1 < 6 := fun q hq => hks q (List.mem_cons_of_mem _ hq)
    cases f with
    | false =>
      refine jarg hL hS h0 h5 (k := k) (by omega) (hd (pc, .aload_n 0, 1) (List.mem_of_getElem? (i := 0) rfl)) (hd (pc + 1, .iload 5, 2) (List.mem_of_getElem? (i := 1) rfl)) (hd (pc + 3, .iconst (k : Int), 1) (List.mem_of_getElem? (i := 2) rfl)) (hd (pc + 4, .iadd, 1) (List.mem_of_getElem? (i := 3) rfl)) (hd (pc + 5, .iaload, 1) (List.mem_of_getElem? (i := 4) rfl)) ?_
      refine ih (pc + 6) _ hks2 (fun q hq => hd q (List.mem_cons_of_mem _ (List.mem_cons_of_mem _ (List.mem_cons_of_mem _ (List.mem_cons_of_mem _ (List.mem_cons_of_mem _ hq)))))) ?_
      have e1 : (argv xs n ((k, false) :: ks)).reverse ++ rest = (argv xs n ks).reverse ++ (vI (ev xs n k) :: rest) := by
        show (vI (ev xs n k) :: argv xs n ks).reverse ++ rest = _
        rw [List.reverse_cons, List.append_assoc]; rfl
      rw [e1] at kk
      exact kk
    | true =>
      refine jarg hL hS h0 h5 (k := k) (by omega) (hd (pc, .aload_n 0, 1) (List.mem_of_getElem? (i := 0) rfl)) (hd (pc + 1, .iload 5, 2) (List.mem_of_getElem? (i := 1) rfl)) (hd (pc + 3, .iconst (k : Int), 1) (List.mem_of_getElem? (i := 2) rfl)) (hd (pc + 4, .iadd, 1) (List.mem_of_getElem? (i := 3) rfl)) (hd (pc + 5, .iaload, 1) (List.mem_of_getElem? (i := 4) rfl)) ?_
      refine jbool hL.1.1 hL.1.2.1 (ev_rng xs n k) (hd (pc + 6, .ifCond .eq 7, 3) (List.mem_of_getElem? (i := 5) rfl)) (hd (pc + 9, .iconst 1, 1) (List.mem_of_getElem? (i := 6) rfl)) (hd (pc + 10, .goto 4, 3) (List.mem_of_getElem? (i := 7) rfl)) (hd (pc + 13, .iconst 0, 1) (List.mem_of_getElem? (i := 8) rfl)) ?_
      refine ih (pc + 14) _ hks2 (fun q hq => hd q (List.mem_cons_of_mem _ (List.mem_cons_of_mem _ (List.mem_cons_of_mem _ (List.mem_cons_of_mem _ (List.mem_cons_of_mem _ (List.mem_cons_of_mem _ (List.mem_cons_of_mem _ (List.mem_cons_of_mem _ (List.mem_cons_of_mem _ hq)))))))))) ?_
      have e1 : (argv xs n ((k, true) :: ks)).reverse ++ rest = (argv xs n ks).reverse ++ (vI (bn (ev xs n k)) :: rest) := by
        show (vI (bn (ev xs n k)) :: argv xs n ks).reverse ++ rest = _
        rw [List.reverse_cons, List.append_assoc]; rfl
      rw [e1] at kk
      exact kk
theorem argv_len (ks : List (Nat × Bool)) : (argv xs n ks).length = ks.length := List.length_map _
theorem zwLthrown : zwV RL 164 RX8 yX8_thrown cX8_thrown 1 (some .int) 0 := ⟨⟨qw_1302, qw_1303, qw_1304, qw_9, qw_1305⟩, rfl, by decide +kernel, by decide +kernel, by decide +kernel⟩
/-- the end of a case with a wrapper: thrown(), the codes, the answers -/
theorem jtail {Ws : va_W} {t : Nat} {k r : Int} {T : Nat → Int} {Vr : Sz} (hL : LC p l s m c b L xs D kA adK adV) (h8 : va_P D vwCl (cs_X8 kA a8 Vr) H) (hO : va_P D vwCl [zO kA bO T] H) (hl : lv_has ls 10 ((7, vI r) :: (6, vI k) :: lb a a8 bO bD b n)) (hk : Vr 9 0 = k) (hr : rng k) (hT : k = 0 → T 0 = nrm r)
    (hf : cells ≤ room_1.cells ∧ slots ≤ room_1.slots) (hd : ∀ q ∈ tlRows t, decode code q.1 = .ok q.2)
    (kk : ∀ ls : Array Slot, lv_has ls 10 (lb a a8 bO bD b n) → W p l e room_1 s m #[Value.ref b] below meth c H locs cells slots Q (F0 m 3089 ls [])) : W p l e room_1 s m #[Value.ref b] below meth c H locs cells slots Q (F0 m t ls []) := by
  obtain ⟨hC, hK, -⟩ := hL
  refine lv_aload_n hC.1 hC.2.1 (hd (t, .aload_n 2, 1) (List.mem_of_getElem? (i := 0) rfl)) rfl (lv_at hl 5 rfl) ?_
  refine zcVP (As := []) (rest := []) hC hK (met_X8_thrown l D kA a8 Vr (r := k) (by rw [← hk]; rfl)) zwLthrown h8 (q0 := 0) rfl rfl rfl rfl hl.1 rfl (Nat.le_of_ble_eq_true rfl) ⟨(Nat.le_of_ble_eq_true rfl), (Nat.le_of_ble_eq_true rfl)⟩ ⟨rfl, rfl⟩ hf (hd (t + 1, .invokevirtual 164, 3) (List.mem_of_getElem? (i := 1) rfl)) ?_
  refine ziload hC.1 hC.2.1 (hd (t + 4, .iload 6, 2) (List.mem_of_getElem? (i := 2) rfl)) (lv_at hl 1 rfl) ?_
  refine zicmp_eq (tgt := t + 11) hC.1 hC.2.1 ⟨hr, hr⟩ (hd (t + 6, .if_icmp .eq 5, 3) (List.mem_of_getElem? (i := 3) rfl)) (by omega) (fun _ => ?_) (fun h => absurd rfl h)
  refine ziload hC.1 hC.2.1 (hd (t + 11, .iload 6, 2) (List.mem_of_getElem? (i := 4) rfl)) (lv_at hl 1 rfl) ?_
  have hg : W p l e room_1 s m #[Value.ref b] below meth c H locs cells slots Q (F0 m (t + 28) ls []) := lv_goto (tgt := 3089) hC.1 hC.2.1 (hd (t + 28, .goto (3089 - ((t + 28 : Nat) : Int)), 3) (List.mem_of_getElem? (i := 13) rfl)) (by omega) (kk ls (lv_sub hl [2, 3, 4, 5, 6, 7] rfl))
  refine zif_ne (tgt := t + 28) hC.1 hC.2.1 hr (hd (t + 13, .ifCond .ne 15, 3) (List.mem_of_getElem? (i := 5) rfl)) (by omega) (fun _ => hg) (fun h0 => ?_)
  refine lv_aload_n hC.1 hC.2.1 (hd (t + 16, .aload_n 3, 1) (List.mem_of_getElem? (i := 6) rfl)) rfl (lv_at hl 4 rfl) ?_
  refine ziconst hC.1 hC.2.1 (hd (t + 17, .iconst 0, 1) (List.mem_of_getElem? (i := 7) rfl)) ?_
  refine jlal (kx := 0) hC hK hO (q0 := 0) rfl (Nat.le_of_ble_eq_true rfl) (by decide) rfl (hd (t + 18, .laload, 1) (List.mem_of_getElem? (i := 8) rfl)) ?_
  refine ziload hC.1 hC.2.1 (hd (t + 19, .iload 7, 2) (List.mem_of_getElem? (i := 9) rfl)) (lv_at hl 0 rfl) ?_
  refine zi2n hC.1 hC.2.1 (hd (t + 21, .i2l, 1) (List.mem_of_getElem? (i := 10) rfl)) ?_
  have hn := nrm_rng r
  have e0 := hT h0
  exact zlcmp_eq (tgt := t + 28) hC.1 hC.2.1 ⟨by rw [e0]; exact ⟨by omega, by omega⟩, ⟨by omega, by omega⟩⟩ (hd (t + 22, .lcmp, 1) (List.mem_of_getElem? (i := 11) rfl)) (hd (t + 23, .ifCond .eq 5, 3) (List.mem_of_getElem? (i := 12) rfl)) (by omega) (fun _ => hg) (fun h => absurd e0 h)
/-- the reference's call and the end: k is the wrapper's answer -/
theorem jw2 {ks : List (Nat × Bool)} {u idx2 n2 : Nat} {y2 : MethodName} {cc2 : ByteArray} {rm2 : Room} {pa : Nat → Nat → Nat} {V X : Sz} {PV : Nat → Sz} {K : Nat} {V8 Vr : Sz} {T : Nat → Int} {TD : Nat → UInt64} {k r : Int} (hL : LC p l s m c b L xs D kA adK adV)
    (hP : va_P D vwCl (WL kA a a8 bO bD pa V X PV K V8 T TD) H) (hD : va_D (zA s) (WL kA a a8 bO bD pa V X PV K V8 T TD)) (hS : va_S (zA s) s.heap H locs) (hrel : Rel V PV K Vr) (hl : lv_has ls 10 (lb a a8 bO bD b n)) (hn : n + 6 ≤ L) (hks : ∀ q ∈ ks, q.1 < 6)
    (hM : MZ l y2 cc2 n2 (some .int) rm2 D kA (.ref (a8 0) :: argv xs n ks) (cs_X8 kA a8 V8) (cs_X8 kA a8 Vr) (some (vI r))) (hw : zwV RL idx2 RX8 y2 cc2 n2 (some .int) ks.length) (hR : rm2.frames + 1 ≤ room_1.frames ∧ 8 + (n2 + 11) + rm2.locals ≤ room_1.locals) (hrm : rm2.cells = 0 ∧ rm2.slots = 0)
    (hk : Vr 9 0 = k) (hr : rng k) (hT : k = 0 → T 0 = nrm r) (hf : cells ≤ room_1.cells ∧ slots ≤ room_1.slots)
    (hd1 : ∀ q ∈ mdRows u (raEnd ks (u + 3)) idx2, decode code q.1 = .ok q.2) (hd2 : ∀ q ∈ raRows ks (u + 3), decode code q.1 = .ok q.2) (hd3 : ∀ q ∈ tlRows (raEnd ks (u + 3) + 5), decode code q.1 = .ok q.2)
    (kk : ∀ (H1 : Heap) (locs1 : List Loc) (ls1 : Array Slot), LI D kA a a8 bO bD s H1 locs1 → lv_has ls1 10 (lb a a8 bO bD b n) → W p l e room_1 s m #[Value.ref b] below meth c H1 locs1 cells slots Q (F0 m 3089 ls1 [])) : W p l e room_1 s m #[Value.ref b] below meth c H locs cells slots Q (F0 m u ls [vI k]) := by
  have hC := hL.1
  have hK := hL.2.1
  refine zistore (lv' := (6, vI k) :: lb a a8 bO bD b n) hC.1 hC.2.1 (hd1 (u, .istore 6, 2) (List.mem_of_getElem? (i := 0) rfl)) hl (by decide) rfl (fun ls hl => ?_)
  refine lv_aload_n hC.1 hC.2.1 (hd1 (u + 2, .aload_n 2, 1) (List.mem_of_getElem? (i := 1) rfl)) rfl (lv_at hl 4 rfl) ?_
  refine jpush hL hS (lv_at hl 6 rfl) (lv_at hl 1 rfl) hn ks (u + 3) _ hks hd2 ?_
  refine lcV (As := argv xs n ks) (rest := []) hC hK hM hw hP hD hS (fun _ h => h) pm8 rfl (q0 := 0) rfl rfl rfl (argv_len ks) hl.1 rfl (Nat.le_of_ble_eq_true rfl) hR hrm hf (hd1 (raEnd ks (u + 3), .invokevirtual idx2, 3) (List.mem_of_getElem? (i := 2) rfl)) (fun H1 locs1 hq hS1 => ?_)
  obtain ⟨hP1, hD1⟩ := hq (WL kA a a8 bO bD pa V X PV K Vr T TD) pm8
  refine zistore (lv' := (7, vI r) :: (6, vI k) :: lb a a8 bO bD b n) hC.1 hC.2.1 (hd1 (raEnd ks (u + 3) + 3, .istore 7, 2) (List.mem_of_getElem? (i := 3) rfl)) hl (by decide) rfl (fun ls hl => ?_)
  exact jtail (Ws := []) hL (vaP_app.mp (vaP_perm pm8 hP1)).1 (vaP_mem.mpr (fun q hq => vaP_mem.mp (vaP_app.mp (vaP_perm pmQ hP1)).1 q (by rw [List.mem_singleton] at hq; subst hq; exact List.mem_cons_self))) hl hk hr hT hf hd3 (fun ls hl => kk H1 locs1 ls ⟨pa, V, X, PV, K, Vr, T, TD, hP1, hD1, hS1, hrel⟩ hl)
theorem rows_q {ks : List (Nat × Bool)} {pc idx1 idx2 : Nat} (hd : ∀ q ∈ cqRows ks pc idx1 idx2, decode code q.1 = .ok q.2) : (∀ q ∈ stRows pc (raEnd ks (pc + 1)) idx1, decode code q.1 = .ok q.2) ∧ (∀ q ∈ raRows ks (pc + 1), decode code q.1 = .ok q.2) ∧ (∀ q ∈ mdRows (raEnd ks (pc + 1) + 4) (raEnd ks (raEnd ks (pc + 1) + 7)) idx2, decode code q.1 = .ok q.2) ∧ (∀ q ∈ raRows ks (raEnd ks (pc + 1) + 7), decode code q.1 = .ok q.2) ∧ ∀ q ∈ tlRows (raEnd ks (raEnd ks (pc + 1) + 7) + 5), decode code q.1 = .ok q.2 :=
  ⟨fun q hq => hd q (List.mem_append_left _ hq), fun q hq => hd q (List.mem_append_right _ (List.mem_append_left _ hq)), fun q hq => hd q (List.mem_append_right _ (List.mem_append_right _ (List.mem_append_left _ hq))), fun q hq => hd q (List.mem_append_right _ (List.mem_append_right _ (List.mem_append_right _ (List.mem_append_left _ hq)))), fun q hq => hd q (List.mem_append_right _ (List.mem_append_right _ (List.mem_append_right _ (List.mem_append_right _ hq))))⟩
theorem jst (a0 bO : Nat) (ks : List (Nat × Bool)) : (.ref bO :: ((argv xs n ks).reverse ++ [.ref a0]) : List Value) = (.ref a0 :: (argv xs n ks ++ [.ref bO])).reverse ++ [] := by
  rw [List.append_nil, List.reverse_cons, List.reverse_append]; rfl
theorem jlen (a0 bO : Nat) (ks : List (Nat × Bool)) : (.ref a0 :: (argv xs n ks ++ [.ref bO]) : List Value).length = ks.length + 2 := by
  rw [List.length_cons, List.length_append, argv_len]; rfl
/-- a case with a wrapper that returns and makes nothing -/
theorem jcQ {ks : List (Nat × Bool)} {pc idx1 idx2 n1 n2 : Nat} {y1 y2 : MethodName} {cc1 cc2 : ByteArray} {hh : List (Nat × Nat × Nat × Nat)} {rm1 rm2 : Room} {pa : Nat → Nat → Nat} {V X V1 X1 : Sz} {PV : Nat → Sz} {K : Nat} {V8 Vr : Sz} {T T1 : Nat → Int} {TD : Nat → UInt64} {r : Int} (hL : LC p l s m c b L xs D kA adK adV)
    (hP : va_P D vwCl (WL kA a a8 bO bD pa V X PV K V8 T TD) H) (hD : va_D (zA s) (WL kA a a8 bO bD pa V X PV K V8 T TD)) (hS : va_S (zA s) s.heap H locs) (hrel : Rel V1 PV K Vr) (hl : lv_has ls 10 (lb a a8 bO bD b n)) (hn : n + 6 ≤ L) (hks : ∀ q ∈ ks, q.1 < 6)
    (hM1 : MZH l y1 cc1 n1 (some .int) hh rm1 D kA (.ref (a 0) :: (argv xs n ks ++ [.ref bO])) (zO kA bO T :: cs_X7 kA a V X (zpf pa K)) (zO kA bO T1 :: cs_X7 kA a V1 X1 (zpf pa K)) (some (vI 0))) (hw1 : zwH RL idx1 y1 cc1 n1 (some .int) hh (ks.length + 2)) (hR1 : rm1.frames + 1 ≤ room_1.frames ∧ 8 + (n1 + 11) + rm1.locals ≤ room_1.locals) (hrm1 : rm1.cells = 0 ∧ rm1.slots = 0)
    (hM : MZ l y2 cc2 n2 (some .int) rm2 D kA (.ref (a8 0) :: argv xs n ks) (cs_X8 kA a8 V8) (cs_X8 kA a8 Vr) (some (vI r))) (hw : zwV RL idx2 RX8 y2 cc2 n2 (some .int) ks.length) (hR : rm2.frames + 1 ≤ room_1.frames ∧ 8 + (n2 + 11) + rm2.locals ≤ room_1.locals) (hrm : rm2.cells = 0 ∧ rm2.slots = 0)
    (hk : Vr 9 0 = 0) (hT : T1 0 = nrm r) (hf : cells ≤ room_1.cells ∧ slots ≤ room_1.slots) (hd : ∀ q ∈ cqRows ks pc idx1 idx2, decode code q.1 = .ok q.2)
    (kk : ∀ (H1 : Heap) (locs1 : List Loc) (ls1 : Array Slot), LI D kA a a8 bO bD s H1 locs1 → lv_has ls1 10 (lb a a8 bO bD b n) → W p l e room_1 s m #[Value.ref b] below meth c H1 locs1 cells slots Q (F0 m 3089 ls1 [])) : W p l e room_1 s m #[Value.ref b] below meth c H locs cells slots Q (F0 m pc ls []) := by
  have hC := hL.1
  have hK := hL.2.1
  obtain ⟨d1, d2, d3, d4, d5⟩ := rows_q hd
  refine lv_aload_n hC.1 hC.2.1 (d1 (pc, .aload_n 1, 1) (List.mem_of_getElem? (i := 0) rfl)) rfl (lv_at hl 4 rfl) ?_
  refine jpush hL hS (lv_at hl 5 rfl) (lv_at hl 0 rfl) hn ks (pc + 1) _ hks d2 ?_
  refine lv_aload_n hC.1 hC.2.1 (d1 (raEnd ks (pc + 1), .aload_n 3, 1) (List.mem_of_getElem? (i := 1) rfl)) rfl (lv_at hl 2 rfl) ?_
  refine lcQ (w0 := zO kA bO T :: cs_X7 kA a V X (zpf pa K)) (w1 := zO kA bO T1 :: cs_X7 kA a V1 X1 (zpf pa K)) (As := .ref (a 0) :: (argv xs n ks ++ [.ref bO])) (rest := []) hC hK hM1 hw1 hP hD hS (fun _ h => h) pmQ rfl (jlen _ _ ks) hl.1 (jst _ _ ks) (Nat.le_of_ble_eq_true rfl) hR1 hrm1 hf (d1 (raEnd ks (pc + 1) + 1, .invokestatic idx1, 3) (List.mem_of_getElem? (i := 2) rfl)) (fun H1 locs1 hq hS1 => ?_)
  obtain ⟨hP1, hD1⟩ := hq (WL kA a a8 bO bD pa V1 X1 PV K V8 T1 TD) pmQ
  exact jw2 (u := raEnd ks (pc + 1) + 4) hL hP1 hD1 hS1 hrel hl hn hks hM hw hR hrm hk ⟨by decide, by decide⟩ (fun _ => hT) hf d3 d4 d5 kk
/-- a case with a wrapper whose call throws -/
theorem jcT {ks : List (Nat × Bool)} {pc idx1 idx2 n1 n2 : Nat} {y1 y2 : MethodName} {cc1 cc2 : ByteArray} {hh : List (Nat × Nat × Nat × Nat)} {rm1 rm2 : Room} {pa : Nat → Nat → Nat} {V X : Sz} {PV : Nat → Sz} {K : Nat} {V8 Vr : Sz} {T : Nat → Int} {TD : Nat → UInt64} {k r : Int} {w0 Rr : va_W} (hL : LC p l s m c b L xs D kA adK adV)
    (hP : va_P D vwCl (WL kA a a8 bO bD pa V X PV K V8 T TD) H) (hD : va_D (zA s) (WL kA a a8 bO bD pa V X PV K V8 T TD)) (hS : va_S (zA s) s.heap H locs) (hrel : Rel V PV K Vr) (hl : lv_has ls 10 (lb a a8 bO bD b n)) (hn : n + 6 ≤ L) (hks : ∀ q ∈ ks, q.1 < 6) (hpm : (WL kA a a8 bO bD pa V X PV K V8 T TD).Perm (w0 ++ Rr))
    (hM1 : MTH l y1 cc1 n1 (some .int) hh rm1 D kA (.ref (a 0) :: (argv xs n ks ++ [.ref bO])) w0 (some (vI k))) (hw1 : zwH RL idx1 y1 cc1 n1 (some .int) hh (ks.length + 2)) (hR1 : rm1.frames + 1 ≤ room_1.frames ∧ 8 + (n1 + 11) + rm1.locals ≤ room_1.locals) (hrm1 : rm1.cells = 1 ∧ rm1.slots = 6)
    (hM : MZ l y2 cc2 n2 (some .int) rm2 D kA (.ref (a8 0) :: argv xs n ks) (cs_X8 kA a8 V8) (cs_X8 kA a8 Vr) (some (vI r))) (hw : zwV RL idx2 RX8 y2 cc2 n2 (some .int) ks.length) (hR : rm2.frames + 1 ≤ room_1.frames ∧ 8 + (n2 + 11) + rm2.locals ≤ room_1.locals) (hrm : rm2.cells = 0 ∧ rm2.slots = 0)
    (hk : Vr 9 0 = k) (hr : rng k) (hk0 : k ≠ 0) (hf : cells + 1 ≤ room_1.cells ∧ slots + 6 ≤ room_1.slots) (hd : ∀ q ∈ cqRows ks pc idx1 idx2, decode code q.1 = .ok q.2)
    (kk : ∀ (H1 : Heap) (locs1 : List Loc) (ls1 : Array Slot), LI D kA a a8 bO bD s H1 locs1 → lv_has ls1 10 (lb a a8 bO bD b n) → W p l e room_1 s m #[Value.ref b] below meth c H1 locs1 (cells + 1) (slots + 6) Q (F0 m 3089 ls1 [])) : W p l e room_1 s m #[Value.ref b] below meth c H locs cells slots Q (F0 m pc ls []) := by
  have hC := hL.1
  have hK := hL.2.1
  obtain ⟨d1, d2, d3, d4, d5⟩ := rows_q hd
  refine lv_aload_n hC.1 hC.2.1 (d1 (pc, .aload_n 1, 1) (List.mem_of_getElem? (i := 0) rfl)) rfl (lv_at hl 4 rfl) ?_
  refine jpush hL hS (lv_at hl 5 rfl) (lv_at hl 0 rfl) hn ks (pc + 1) _ hks d2 ?_
  refine lv_aload_n hC.1 hC.2.1 (d1 (raEnd ks (pc + 1), .aload_n 3, 1) (List.mem_of_getElem? (i := 1) rfl)) rfl (lv_at hl 2 rfl) ?_
  refine lcT (As := .ref (a 0) :: (argv xs n ks ++ [.ref bO])) (rest := []) hC hK hL.2.2.1 hL.2.2.2.1 hM1 hw1 hP hS hpm (jlen _ _ ks) hl.1 (jst _ _ ks) (Nat.le_of_ble_eq_true rfl) hR1 hrm1 hf (d1 (raEnd ks (pc + 1) + 1, .invokestatic idx1, 3) (List.mem_of_getElem? (i := 2) rfl)) (fun H1 locs1 hP1 hS1 => ?_)
  exact jw2 (u := raEnd ks (pc + 1) + 4) hL hP1 hD hS1 hrel hl hn hks hM hw hR hrm hk hr (fun h => absurd h hk0) hf d3 d4 d5 kk
/-- a case with a wrapper that returns from a change -/
theorem jcC {ks : List (Nat × Bool)} {pc idx1 idx2 n1 n2 : Nat} {y1 y2 : MethodName} {cc1 cc2 : ByteArray} {hh : List (Nat × Nat × Nat × Nat)} {rm1 rm2 : Room} {pa : Nat → Nat → Nat} {V X V1 : Sz} {PV PV1 : Nat → Sz} {K K1 : Nat} {V8 Vr : Sz} {T T1 : Nat → Int} {TD : Nat → UInt64} {r : Int} (hL : LC p l s m c b L xs D kA adK adV)
    (hP : va_P D vwCl (WL kA a a8 bO bD pa V X PV K V8 T TD) H) (hD : va_D (zA s) (WL kA a a8 bO bD pa V X PV K V8 T TD)) (hS : va_S (zA s) s.heap H locs) (hrel : Rel V1 PV1 K1 Vr) (hl : lv_has ls 10 (lb a a8 bO bD b n)) (hn : n + 6 ≤ L) (hks : ∀ q ∈ ks, q.1 < 6)
    (hM1 : MWH l y1 cc1 n1 (some .int) hh rm1 D kA H.size (.ref (a 0) :: (argv xs n ks ++ [.ref bO])) (zO kA bO T :: (cs_X7 kA a V X (zpf pa K) ++ cs_P kA pa PV K)) (some (vI 0)) 24 2040 (fun w => ∃ pa1 : Nat → Nat → Nat, w = (zO kA bO T1 :: (cs_X7 kA a V1 X (zpf pa1 K1) ++ cs_P kA pa1 PV1 K1)))) (hw1 : zwH RL idx1 y1 cc1 n1 (some .int) hh (ks.length + 2)) (hR1 : rm1.frames + 1 ≤ room_1.frames ∧ 8 + (n1 + 11) + rm1.locals ≤ room_1.locals) (hrm1 : rm1.cells = 24 ∧ rm1.slots = 2040)
    (hM : MZ l y2 cc2 n2 (some .int) rm2 D kA (.ref (a8 0) :: argv xs n ks) (cs_X8 kA a8 V8) (cs_X8 kA a8 Vr) (some (vI r))) (hw : zwV RL idx2 RX8 y2 cc2 n2 (some .int) ks.length) (hR : rm2.frames + 1 ≤ room_1.frames ∧ 8 + (n2 + 11) + rm2.locals ≤ room_1.locals) (hrm : rm2.cells = 0 ∧ rm2.slots = 0)
    (hk : Vr 9 0 = 0) (hT : T1 0 = nrm r) (hf : cells + 24 ≤ room_1.cells ∧ slots + 2040 ≤ room_1.slots) (hd : ∀ q ∈ cqRows ks pc idx1 idx2, decode code q.1 = .ok q.2)
    (kk : ∀ (H1 : Heap) (locs1 : List Loc) (ls1 : Array Slot), LI D kA a a8 bO bD s H1 locs1 → lv_has ls1 10 (lb a a8 bO bD b n) → W p l e room_1 s m #[Value.ref b] below meth c H1 locs1 (cells + 24) (slots + 2040) Q (F0 m 3089 ls1 [])) : W p l e room_1 s m #[Value.ref b] below meth c H locs cells slots Q (F0 m pc ls []) := by
  have hC := hL.1
  have hK := hL.2.1
  obtain ⟨d1, d2, d3, d4, d5⟩ := rows_q hd
  refine lv_aload_n hC.1 hC.2.1 (d1 (pc, .aload_n 1, 1) (List.mem_of_getElem? (i := 0) rfl)) rfl (lv_at hl 4 rfl) ?_
  refine jpush hL hS (lv_at hl 5 rfl) (lv_at hl 0 rfl) hn ks (pc + 1) _ hks d2 ?_
  refine lv_aload_n hC.1 hC.2.1 (d1 (raEnd ks (pc + 1), .aload_n 3, 1) (List.mem_of_getElem? (i := 1) rfl)) rfl (lv_at hl 2 rfl) ?_
  refine lcC (As := .ref (a 0) :: (argv xs n ks ++ [.ref bO])) (rest := []) hC hK hM1 hw1 hP hD hS (fun _ h => h) pmC (jlen _ _ ks) hl.1 (jst _ _ ks) (Nat.le_of_ble_eq_true rfl) hR1 hrm1 hf (d1 (raEnd ks (pc + 1) + 1, .invokestatic idx1, 3) (List.mem_of_getElem? (i := 2) rfl)) (fun w H1 locs1 hw2 hq hS1 => ?_)
  obtain ⟨pa1, rfl⟩ := hw2
  obtain ⟨hP1, hD1⟩ := hq (WL kA a a8 bO bD pa1 V1 X PV1 K1 V8 T1 TD) pmC
  exact jw2 (u := raEnd ks (pc + 1) + 4) hL hP1 hD1 hS1 hrel hl hn hks hM hw hR hrm hk ⟨by decide, by decide⟩ (fun _ => hT) hf d3 d4 d5 kk
/-! two direct calls compared -/
theorem rows_d {ks : List (Nat × Bool)} {pc idx1 idx2 : Nat} (hd : ∀ q ∈ cdRows ks pc idx1 idx2, decode code q.1 = .ok q.2) : (∀ q ∈ ([(pc, .aload_n 1, 1), (raEnd ks (pc + 1), .invokevirtual idx1, 3), (raEnd ks (pc + 1) + 3, .aload_n 2, 1), (raEnd ks (raEnd ks (pc + 1) + 4), .invokevirtual idx2, 3), (raEnd ks (raEnd ks (pc + 1) + 4) + 3, .if_icmp .eq (3089 - ((raEnd ks (raEnd ks (pc + 1) + 4) + 3 : Nat) : Int)), 3)] : List (Nat × Instr × Nat)), decode code q.1 = .ok q.2) ∧ (∀ q ∈ raRows ks (pc + 1), decode code q.1 = .ok q.2) ∧ ∀ q ∈ raRows ks (raEnd ks (pc + 1) + 4), decode code q.1 = .ok q.2 :=
  ⟨fun q hq => hd q (List.mem_append_left _ hq), fun q hq => hd q (List.mem_append_right _ (List.mem_append_left _ hq)), fun q hq => hd q (List.mem_append_right _ (List.mem_append_right _ hq))⟩
/-- behind the class's answer v -/
theorem jd2 {ks : List (Nat × Bool)} {pc idx1 idx2 n2 : Nat} {y2 : MethodName} {cc2 : ByteArray} {ret2 : Option FieldType} {rm2 : Room} {pa : Nat → Nat → Nat} {V X : Sz} {PV : Nat → Sz} {K : Nat} {V8 Vr : Sz} {T : Nat → Int} {TD : Nat → UInt64} {v : Int} (hL : LC p l s m c b L xs D kA adK adV)
    (hP : va_P D vwCl (WL kA a a8 bO bD pa V X PV K V8 T TD) H) (hD : va_D (zA s) (WL kA a a8 bO bD pa V X PV K V8 T TD)) (hS : va_S (zA s) s.heap H locs) (hrel : Rel V PV K Vr) (hl : lv_has ls 10 (lb a a8 bO bD b n)) (hn : n + 6 ≤ L) (hks : ∀ q ∈ ks, q.1 < 6)
    (hM : MZ l y2 cc2 n2 ret2 rm2 D kA (.ref (a8 0) :: argv xs n ks) (cs_X8 kA a8 V8) (cs_X8 kA a8 Vr) (some (vI v))) (hw : zwV RL idx2 RX8 y2 cc2 n2 ret2 ks.length) (hR : rm2.frames + 1 ≤ room_1.frames ∧ 8 + (n2 + 11) + rm2.locals ≤ room_1.locals) (hrm : rm2.cells = 0 ∧ rm2.slots = 0)
    (hf : cells ≤ room_1.cells ∧ slots ≤ room_1.slots) (hd : ∀ q ∈ cdRows ks pc idx1 idx2, decode code q.1 = .ok q.2)
    (kk : ∀ (H1 : Heap) (locs1 : List Loc) (ls1 : Array Slot), LI D kA a a8 bO bD s H1 locs1 → lv_has ls1 10 (lb a a8 bO bD b n) → W p l e room_1 s m #[Value.ref b] below meth c H1 locs1 cells slots Q (F0 m 3089 ls1 [])) : W p l e room_1 s m #[Value.ref b] below meth c H locs cells slots Q (F0 m (raEnd ks (pc + 1) + 3) ls [vI v]) := by
  have hC := hL.1
  have hK := hL.2.1
  obtain ⟨d1, -, d3⟩ := rows_d hd
  refine lv_aload_n hC.1 hC.2.1 (d1 (raEnd ks (pc + 1) + 3, .aload_n 2, 1) (List.mem_of_getElem? (i := 2) rfl)) rfl (lv_at hl 3 rfl) ?_
  refine jpush hL hS (lv_at hl 5 rfl) (lv_at hl 0 rfl) hn ks (raEnd ks (pc + 1) + 4) _ hks d3 ?_
  refine lcV (As := argv xs n ks) (rest := [vI v]) hC hK hM hw hP hD hS (fun _ h => h) pm8 rfl (q0 := 0) rfl rfl rfl (argv_len ks) hl.1 rfl (Nat.le_of_ble_eq_true rfl) hR hrm hf (d1 (raEnd ks (raEnd ks (pc + 1) + 4), .invokevirtual idx2, 3) (List.mem_of_getElem? (i := 3) rfl)) (fun H1 locs1 hq hS1 => ?_)
  obtain ⟨hP1, hD1⟩ := hq (WL kA a a8 bO bD pa V X PV K Vr T TD) pm8
  exact lv_icmp_eq (x := Int32.ofInt v) (y := Int32.ofInt v) (tgt := 3089) hC.1 hC.2.1 (d1 (raEnd ks (raEnd ks (pc + 1) + 4) + 3, .if_icmp .eq (3089 - ((raEnd ks (raEnd ks (pc + 1) + 4) + 3 : Nat) : Int)), 3) (List.mem_of_getElem? (i := 4) rfl)) (by omega) (fun _ => kk H1 locs1 ls ⟨pa, V, X, PV, K, Vr, T, TD, hP1, hD1, hS1, hrel⟩ hl) (fun h => absurd rfl h)
/-- a case of two direct calls, the class's in its own world -/
theorem jdZ {ks : List (Nat × Bool)} {pc idx1 idx2 n1 n2 : Nat} {y1 y2 : MethodName} {cc1 cc2 : ByteArray} {ret1 ret2 : Option FieldType} {rm1 rm2 : Room} {pa : Nat → Nat → Nat} {V X V1 X1 : Sz} {PV : Nat → Sz} {K : Nat} {V8 Vr : Sz} {T : Nat → Int} {TD : Nat → UInt64} {v : Int} (hL : LC p l s m c b L xs D kA adK adV)
    (hP : va_P D vwCl (WL kA a a8 bO bD pa V X PV K V8 T TD) H) (hD : va_D (zA s) (WL kA a a8 bO bD pa V X PV K V8 T TD)) (hS : va_S (zA s) s.heap H locs) (hrel : Rel V1 PV K Vr) (hl : lv_has ls 10 (lb a a8 bO bD b n)) (hn : n + 6 ≤ L) (hks : ∀ q ∈ ks, q.1 < 6)
    (hM1 : MZ l y1 cc1 n1 ret1 rm1 D kA (.ref (a 0) :: argv xs n ks) (cs_X7 kA a V X (zpf pa K)) (cs_X7 kA a V1 X1 (zpf pa K)) (some (vI v))) (hw1 : zwV RL idx1 RX7 y1 cc1 n1 ret1 ks.length) (hR1 : rm1.frames + 1 ≤ room_1.frames ∧ 8 + (n1 + 11) + rm1.locals ≤ room_1.locals) (hrm1 : rm1.cells = 0 ∧ rm1.slots = 0)
    (hM : MZ l y2 cc2 n2 ret2 rm2 D kA (.ref (a8 0) :: argv xs n ks) (cs_X8 kA a8 V8) (cs_X8 kA a8 Vr) (some (vI v))) (hw : zwV RL idx2 RX8 y2 cc2 n2 ret2 ks.length) (hR : rm2.frames + 1 ≤ room_1.frames ∧ 8 + (n2 + 11) + rm2.locals ≤ room_1.locals) (hrm : rm2.cells = 0 ∧ rm2.slots = 0)
    (hf : cells ≤ room_1.cells ∧ slots ≤ room_1.slots) (hd : ∀ q ∈ cdRows ks pc idx1 idx2, decode code q.1 = .ok q.2)
    (kk : ∀ (H1 : Heap) (locs1 : List Loc) (ls1 : Array Slot), LI D kA a a8 bO bD s H1 locs1 → lv_has ls1 10 (lb a a8 bO bD b n) → W p l e room_1 s m #[Value.ref b] below meth c H1 locs1 cells slots Q (F0 m 3089 ls1 [])) : W p l e room_1 s m #[Value.ref b] below meth c H locs cells slots Q (F0 m pc ls []) := by
  have hC := hL.1
  have hK := hL.2.1
  obtain ⟨d1, d2, -⟩ := rows_d hd
  refine lv_aload_n hC.1 hC.2.1 (d1 (pc, .aload_n 1, 1) (List.mem_of_getElem? (i := 0) rfl)) rfl (lv_at hl 4 rfl) ?_
  refine jpush hL hS (lv_at hl 5 rfl) (lv_at hl 0 rfl) hn ks (pc + 1) _ hks d2 ?_
  refine lcV (As := argv xs n ks) (rest := []) hC hK hM1 hw1 hP hD hS (fun _ h => h) pm7 rfl (q0 := 0) rfl rfl rfl (argv_len ks) hl.1 rfl (Nat.le_of_ble_eq_true rfl) hR1 hrm1 hf (d1 (raEnd ks (pc + 1), .invokevirtual idx1, 3) (List.mem_of_getElem? (i := 1) rfl)) (fun H1 locs1 hq hS1 => ?_)
  obtain ⟨hP1, hD1⟩ := hq (WL kA a a8 bO bD pa V1 X1 PV K V8 T TD) pm7
  exact jd2 hL hP1 hD1 hS1 hrel hl hn hks hM hw hR hrm hf hd kk
/-- .. that writes nothing -/
theorem jdP {ks : List (Nat × Bool)} {pc idx1 idx2 n1 n2 : Nat} {y1 y2 : MethodName} {cc1 cc2 : ByteArray} {ret1 ret2 : Option FieldType} {rm1 rm2 : Room} {pa : Nat → Nat → Nat} {V X : Sz} {PV : Nat → Sz} {K : Nat} {V8 Vr : Sz} {T : Nat → Int} {TD : Nat → UInt64} {v : Int} (hL : LC p l s m c b L xs D kA adK adV)
    (hP : va_P D vwCl (WL kA a a8 bO bD pa V X PV K V8 T TD) H) (hD : va_D (zA s) (WL kA a a8 bO bD pa V X PV K V8 T TD)) (hS : va_S (zA s) s.heap H locs) (hrel : Rel V PV K Vr) (hl : lv_has ls 10 (lb a a8 bO bD b n)) (hn : n + 6 ≤ L) (hks : ∀ q ∈ ks, q.1 < 6)
    (hM1 : MP l y1 cc1 n1 ret1 rm1 D kA (.ref (a 0) :: argv xs n ks) (cs_X7 kA a V X (zpf pa K)) (some (vI v))) (hw1 : zwV RL idx1 RX7 y1 cc1 n1 ret1 ks.length) (hR1 : rm1.frames + 1 ≤ room_1.frames ∧ 8 + (n1 + 11) + rm1.locals ≤ room_1.locals) (hrm1 : rm1.cells = 0 ∧ rm1.slots = 0)
    (hM : MZ l y2 cc2 n2 ret2 rm2 D kA (.ref (a8 0) :: argv xs n ks) (cs_X8 kA a8 V8) (cs_X8 kA a8 Vr) (some (vI v))) (hw : zwV RL idx2 RX8 y2 cc2 n2 ret2 ks.length) (hR : rm2.frames + 1 ≤ room_1.frames ∧ 8 + (n2 + 11) + rm2.locals ≤ room_1.locals) (hrm : rm2.cells = 0 ∧ rm2.slots = 0)
    (hf : cells ≤ room_1.cells ∧ slots ≤ room_1.slots) (hd : ∀ q ∈ cdRows ks pc idx1 idx2, decode code q.1 = .ok q.2)
    (kk : ∀ (H1 : Heap) (locs1 : List Loc) (ls1 : Array Slot), LI D kA a a8 bO bD s H1 locs1 → lv_has ls1 10 (lb a a8 bO bD b n) → W p l e room_1 s m #[Value.ref b] below meth c H1 locs1 cells slots Q (F0 m 3089 ls1 [])) : W p l e room_1 s m #[Value.ref b] below meth c H locs cells slots Q (F0 m pc ls []) := by
  have hC := hL.1
  have hK := hL.2.1
  obtain ⟨d1, d2, -⟩ := rows_d hd
  refine lv_aload_n hC.1 hC.2.1 (d1 (pc, .aload_n 1, 1) (List.mem_of_getElem? (i := 0) rfl)) rfl (lv_at hl 4 rfl) ?_
  refine jpush hL hS (lv_at hl 5 rfl) (lv_at hl 0 rfl) hn ks (pc + 1) _ hks d2 ?_
  refine zcVP (As := argv xs n ks) (rest := []) hC hK hM1 hw1 (vaP_app.mp (vaP_perm pm7 hP)).1 (q0 := 0) rfl rfl rfl (argv_len ks) hl.1 rfl (Nat.le_of_ble_eq_true rfl) hR1 hrm1 hf (d1 (raEnd ks (pc + 1), .invokevirtual idx1, 3) (List.mem_of_getElem? (i := 1) rfl)) ?_
  exact jd2 hL hP hD hS hrel hl hn hks hM hw hR hrm hf hd kk
/-! what the contracts ask of the world -/
theorem hd8 {A0 : Nat → Prop} {pa : Nat → Nat → Nat} {V X : Sz} {PV : Nat → Sz} {K : Nat} {V8 : Sz} {T : Nat → Int} {TD : Nat → UInt64} (hD : va_D A0 (WL kA a a8 bO bD pa V X PV K V8 T TD)) (w : Sz) : va_D (fun _ => True) (cs_X8 kA a8 w) := zDany (C := fun w => cs_X8 kA a8 w) V8 (fun _ => rfl) ((vaD_left (vaD_perm pm8 hD)).weaken (fun _ _ _ _ => trivial)) w
theorem hdQ {A0 : Nat → Prop} {pa : Nat → Nat → Nat} {V X : Sz} {PV : Nat → Sz} {K : Nat} {V8 : Sz} {T : Nat → Int} {TD : Nat → UInt64} (hD : va_D A0 (WL kA a a8 bO bD pa V X PV K V8 T TD)) : va_D (fun _ => True) (zO kA bO T :: cs_X7 kA a V X (zpf pa K)) := (vaD_left (vaD_perm pmQ hD)).weaken (fun _ _ _ _ => trivial)
theorem hdE {A0 : Nat → Prop} {pa : Nat → Nat → Nat} {V X : Sz} {PV : Nat → Sz} {K : Nat} {V8 : Sz} {T : Nat → Int} {TD : Nat → UInt64} (hD : va_D A0 (WL kA a a8 bO bD pa V X PV K V8 T TD)) : va_D (fun _ => True) (zOD kA bD TD :: cs_X7 kA a V X (zpf pa K)) := (vaD_left (vaD_perm pmE hD)).weaken (fun _ _ _ _ => trivial)
theorem hdC {A0 : Nat → Prop} {pa : Nat → Nat → Nat} {V X : Sz} {PV : Nat → Sz} {K : Nat} {V8 : Sz} {T : Nat → Int} {TD : Nat → UInt64} (hD : va_D A0 (WL kA a a8 bO bD pa V X PV K V8 T TD)) : va_D (fun _ => True) (zO kA bO T :: (cs_X7 kA a V X (zpf pa K) ++ cs_P kA pa PV K)) := (vaD_left (vaD_perm pmC hD)).weaken (fun _ _ _ _ => trivial)
theorem hdU {A0 : Nat → Prop} {pa : Nat → Nat → Nat} {V X : Sz} {PV : Nat → Sz} {K : Nat} {V8 : Sz} {T : Nat → Int} {TD : Nat → UInt64} (hD : va_D A0 (WL kA a a8 bO bD pa V X PV K V8 T TD)) : va_D (fun _ => True) (cs_X7 kA a V X (zpf pa K) ++ cs_P kA pa PV K) := (vaD_left (vaD_perm pmU hD)).weaken (fun _ _ _ _ => trivial)
theorem hd77 {A0 : Nat → Prop} {pa : Nat → Nat → Nat} {V X : Sz} {PV : Nat → Sz} {K : Nat} {V8 : Sz} {T : Nat → Int} {TD : Nat → UInt64} (hD : va_D A0 (WL kA a a8 bO bD pa V X PV K V8 T TD)) (w : Sz × Sz) : va_D (fun _ => True) (cs_X7 kA a w.1 w.2 (zpf pa K)) := zDany (C := fun w : Sz × Sz => cs_X7 kA a w.1 w.2 (zpf pa K)) (V, X) (fun _ => rfl) ((vaD_left (vaD_perm pm7 hD)).weaken (fun _ _ _ _ => trivial)) w
theorem hd7 {A0 : Nat → Prop} {pa : Nat → Nat → Nat} {V X : Sz} {PV : Nat → Sz} {K : Nat} {V8 : Sz} {T : Nat → Int} {TD : Nat → UInt64} (hD : va_D A0 (WL kA a a8 bO bD pa V X PV K V8 T TD)) (w : Sz) : va_D (fun _ => True) (cs_X7 kA a w X (zpf pa K)) := hd77 hD (w, X)
theorem cdA_ne {e : Nat} (h : cdA e ≠ 0) : e = 0 := by
  unfold cdA at h
  by_cases h0 : e = 0
  · exact h0
  · rw [if_neg h0] at h; exact absurd rfl h
theorem cdB_ne {e : Nat} (h : cdB e ≠ 0) : e = 0 ∨ e = 1 := by
  unfold cdB at h
  by_cases h0 : e = 0
  · exact Or.inl h0
  by_cases h1 : e = 1
  · exact Or.inr h1
  · rw [if_neg h0, if_neg h1] at h; exact absurd rfl h
theorem cdC_ne {e : Nat} (h : cdC e ≠ 0) : e = 0 ∨ e = 1 ∨ e = 2 := by
  unfold cdC at h
  by_cases h0 : e = 0
  · exact Or.inl h0
  by_cases h1 : e = 1
  · exact Or.inr (Or.inl h1)
  by_cases h2 : e = 2
  · exact Or.inr (Or.inr h2)
  · rw [if_neg h0, if_neg h1, if_neg h2] at h; exact absurd rfl h
theorem cdI_ne {e : Nat} (h : cdI e ≠ 0) : e = 1 := by
  unfold cdI at h
  by_cases h0 : e = 1
  · exact h0
  · rw [if_neg h0] at h; exact absurd rfl h
theorem cdJ_ne {e : Nat} (h : cdJ e ≠ 0) : e = 1 ∨ e = 2 := by
  unfold cdJ at h
  by_cases h0 : e = 1
  · exact Or.inl h0
  by_cases h1 : e = 2
  · exact Or.inr h1
  · rw [if_neg h0, if_neg h1] at h; exact absurd rfl h
theorem cdS_ne {e : Nat} (h : cdS e ≠ 0) : e = 2 := by
  unfold cdS at h
  by_cases h0 : e = 2
  · exact h0
  · rw [if_neg h0] at h; exact absurd rfl h
/-! a yes or no from a wrapper -/
def tlzRows (t : Nat) : List (Nat × Instr × Nat) := [(t, .aload_n 2, 1), (t + 1, .invokevirtual 164, 3), (t + 4, .iload 6, 2), (t + 6, .if_icmp .eq 5, 3), (t + 11, .iload 6, 2), (t + 13, .ifCond .ne 22, 3), (t + 16, .aload_n 3, 1), (t + 17, .iconst 0, 1), (t + 18, .laload, 1), (t + 19, .iload 7, 2), (t + 21, .ifCond .eq 7, 3), (t + 24, .lconst 1, 1), (t + 25, .goto 4, 3), (t + 28, .lconst 0, 1), (t + 29, .lcmp, 1), (t + 30, .ifCond .eq 5, 3), (t + 35, .goto (3089 - ((t + 35 : Nat) : Int)), 3)]
def cqzRows (ks : List (Nat × Bool)) (pc idx1 idx2 : Nat) : List (Nat × Instr × Nat) := stRows pc (raEnd ks (pc + 1)) idx1 ++ (raRows ks (pc + 1) ++ (mdRows (raEnd ks (pc + 1) + 4) (raEnd ks (raEnd ks (pc + 1) + 7)) idx2 ++ (raRows ks (raEnd ks (pc + 1) + 7) ++ tlzRows (raEnd ks (raEnd ks (pc + 1) + 7) + 5))))
theorem jtailz {Ws : va_W} {t : Nat} {k : Int} {r : Bool} {T : Nat → Int} {Vr : Sz} (hL : LC p l s m c b L xs D kA adK adV) (h8 : va_P D vwCl (cs_X8 kA a8 Vr) H) (hO : va_P D vwCl [zO kA bO T] H) (hl : lv_has ls 10 ((7, vI (bI r)) :: (6, vI k) :: lb a a8 bO bD b n)) (hk : Vr 9 0 = k) (hr : rng k) (hT : k = 0 → T 0 = bI r)
    (hf : cells ≤ room_1.cells ∧ slots ≤ room_1.slots) (hd : ∀ q ∈ tlzRows t, decode code q.1 = .ok q.2)
    (kk : ∀ ls : Array Slot, lv_has ls 10 (lb a a8 bO bD b n) → W p l e room_1 s m #[Value.ref b] below meth c H locs cells slots Q (F0 m 3089 ls [])) : W p l e room_1 s m #[Value.ref b] below meth c H locs cells slots Q (F0 m t ls []) := by
  obtain ⟨hC, hK, -⟩ := hL
  refine lv_aload_n hC.1 hC.2.1 (hd (t, .aload_n 2, 1) (List.mem_of_getElem? (i := 0) rfl)) rfl (lv_at hl 5 rfl) ?_
  refine zcVP (As := []) (rest := []) hC hK (met_X8_thrown l D kA a8 Vr (r := k) (by rw [← hk]; rfl)) zwLthrown h8 (q0 := 0) rfl rfl rfl rfl hl.1 rfl (Nat.le_of_ble_eq_true rfl) ⟨(Nat.le_of_ble_eq_true rfl), (Nat.le_of_ble_eq_true rfl)⟩ ⟨rfl, rfl⟩ hf (hd (t + 1, .invokevirtual 164, 3) (List.mem_of_getElem? (i := 1) rfl)) ?_
  refine ziload hC.1 hC.2.1 (hd (t + 4, .iload 6, 2) (List.mem_of_getElem? (i := 2) rfl)) (lv_at hl 1 rfl) ?_
  refine zicmp_eq (tgt := t + 11) hC.1 hC.2.1 ⟨hr, hr⟩ (hd (t + 6, .if_icmp .eq 5, 3) (List.mem_of_getElem? (i := 3) rfl)) (by omega) (fun _ => ?_) (fun h => absurd rfl h)
  refine ziload hC.1 hC.2.1 (hd (t + 11, .iload 6, 2) (List.mem_of_getElem? (i := 4) rfl)) (lv_at hl 1 rfl) ?_
  have hg : W p l e room_1 s m #[Value.ref b] below meth c H locs cells slots Q (F0 m (t + 35) ls []) := lv_goto (tgt := 3089) hC.1 hC.2.1 (hd (t + 35, .goto (3089 - ((t + 35 : Nat) : Int)), 3) (List.mem_of_getElem? (i := 16) rfl)) (by omega) (kk ls (lv_sub hl [2, 3, 4, 5, 6, 7] rfl))
  refine zif_ne (tgt := t + 35) hC.1 hC.2.1 hr (hd (t + 13, .ifCond .ne 22, 3) (List.mem_of_getElem? (i := 5) rfl)) (by omega) (fun _ => hg) (fun h0 => ?_)
  have e0 := hT h0
  have hc : ∀ y : Int, y = bI r → rngL y → W p l e room_1 s m #[Value.ref b] below meth c H locs cells slots Q (F0 m (t + 29) ls [vL y, vL (T 0)]) := fun y hy hry => zlcmp_eq (tgt := t + 35) hC.1 hC.2.1 ⟨by rw [e0, ← hy]; exact hry, hry⟩ (hd (t + 29, .lcmp, 1) (List.mem_of_getElem? (i := 14) rfl)) (hd (t + 30, .ifCond .eq 5, 3) (List.mem_of_getElem? (i := 15) rfl)) (by omega) (fun _ => hg) (fun h => absurd (e0.trans hy.symm) h)
  refine lv_aload_n hC.1 hC.2.1 (hd (t + 16, .aload_n 3, 1) (List.mem_of_getElem? (i := 6) rfl)) rfl (lv_at hl 4 rfl) ?_
  refine ziconst hC.1 hC.2.1 (hd (t + 17, .iconst 0, 1) (List.mem_of_getElem? (i := 7) rfl)) ?_
  refine jlal (kx := 0) hC hK hO (q0 := 0) rfl (Nat.le_of_ble_eq_true rfl) (by decide) rfl (hd (t + 18, .laload, 1) (List.mem_of_getElem? (i := 8) rfl)) ?_
  refine ziload hC.1 hC.2.1 (hd (t + 19, .iload 7, 2) (List.mem_of_getElem? (i := 9) rfl)) (lv_at hl 0 rfl) ?_
  refine zif_eq (x := bI r) (tgt := t + 28) hC.1 hC.2.1 (rng_bI r) (hd (t + 21, .ifCond .eq 7, 3) (List.mem_of_getElem? (i := 10) rfl)) (by omega) (fun h => ?_) (fun h => ?_)
  · refine zlconst (v := 0) hC.1 hC.2.1 (hd (t + 28, .lconst 0, 1) (List.mem_of_getElem? (i := 13) rfl)) (by decide) ?_
    exact hc 0 h.symm ⟨by decide, by decide⟩
  · refine zlconst (v := 1) hC.1 hC.2.1 (hd (t + 24, .lconst 1, 1) (List.mem_of_getElem? (i := 11) rfl)) (by decide) <| lv_goto (tgt := t + 29) hC.1 hC.2.1 (hd (t + 25, .goto 4, 3) (List.mem_of_getElem? (i := 12) rfl)) (by omega) ?_
    exact hc 1 (by rcases bI01 r with q | q; exact absurd q h; exact q.symm) ⟨by decide, by decide⟩
theorem jw2z {ks : List (Nat × Bool)} {u idx2 n2 : Nat} {y2 : MethodName} {cc2 : ByteArray} {rm2 : Room} {pa : Nat → Nat → Nat} {V X : Sz} {PV : Nat → Sz} {K : Nat} {V8 Vr : Sz} {T : Nat → Int} {TD : Nat → UInt64} {k : Int} {r : Bool} (hL : LC p l s m c b L xs D kA adK adV)
    (hP : va_P D vwCl (WL kA a a8 bO bD pa V X PV K V8 T TD) H) (hD : va_D (zA s) (WL kA a a8 bO bD pa V X PV K V8 T TD)) (hS : va_S (zA s) s.heap H locs) (hrel : Rel V PV K Vr) (hl : lv_has ls 10 (lb a a8 bO bD b n)) (hn : n + 6 ≤ L) (hks : ∀ q ∈ ks, q.1 < 6)
    (hM : MZ l y2 cc2 n2 (some .boolean) rm2 D kA (.ref (a8 0) :: argv xs n ks) (cs_X8 kA a8 V8) (cs_X8 kA a8 Vr) (some (vI (bI r)))) (hw : zwV RL idx2 RX8 y2 cc2 n2 (some .boolean) ks.length) (hR : rm2.frames + 1 ≤ room_1.frames ∧ 8 + (n2 + 11) + rm2.locals ≤ room_1.locals) (hrm : rm2.cells = 0 ∧ rm2.slots = 0)
    (hk : Vr 9 0 = k) (hr : rng k) (hT : k = 0 → T 0 = bI r) (hf : cells ≤ room_1.cells ∧ slots ≤ room_1.slots)
    (hd1 : ∀ q ∈ mdRows u (raEnd ks (u + 3)) idx2, decode code q.1 = .ok q.2) (hd2 : ∀ q ∈ raRows ks (u + 3), decode code q.1 = .ok q.2) (hd3 : ∀ q ∈ tlzRows (raEnd ks (u + 3) + 5), decode code q.1 = .ok q.2)
    (kk : ∀ (H1 : Heap) (locs1 : List Loc) (ls1 : Array Slot), LI D kA a a8 bO bD s H1 locs1 → lv_has ls1 10 (lb a a8 bO bD b n) → W p l e room_1 s m #[Value.ref b] below meth c H1 locs1 cells slots Q (F0 m 3089 ls1 [])) : W p l e room_1 s m #[Value.ref b] below meth c H locs cells slots Q (F0 m u ls [vI k]) := by
  have hC := hL.1
  have hK := hL.2.1
  refine zistore (lv' := (6, vI k) :: lb a a8 bO bD b n) hC.1 hC.2.1 (hd1 (u, .istore 6, 2) (List.mem_of_getElem? (i := 0) rfl)) hl (by decide) rfl (fun ls hl => ?_)
  refine lv_aload_n hC.1 hC.2.1 (hd1 (u + 2, .aload_n 2, 1) (List.mem_of_getElem? (i := 1) rfl)) rfl (lv_at hl 4 rfl) ?_
  refine jpush hL hS (lv_at hl 6 rfl) (lv_at hl 1 rfl) hn ks (u + 3) _ hks hd2 ?_
  refine lcV (As := argv xs n ks) (rest := []) hC hK hM hw hP hD hS (fun _ h => h) pm8 rfl (q0 := 0) rfl rfl rfl (argv_len ks) hl.1 rfl (Nat.le_of_ble_eq_true rfl) hR hrm hf (hd1 (raEnd ks (u + 3), .invokevirtual idx2, 3) (List.mem_of_getElem? (i := 2) rfl)) (fun H1 locs1 hq hS1 => ?_)
  obtain ⟨hP1, hD1⟩ := hq (WL kA a a8 bO bD pa V X PV K Vr T TD) pm8
  refine zistore (lv' := (7, vI (bI r)) :: (6, vI k) :: lb a a8 bO bD b n) hC.1 hC.2.1 (hd1 (raEnd ks (u + 3) + 3, .istore 7, 2) (List.mem_of_getElem? (i := 3) rfl)) hl (by decide) rfl (fun ls hl => ?_)
  exact jtailz (Ws := []) hL (vaP_app.mp (vaP_perm pm8 hP1)).1 (vaP_mem.mpr (fun q hq => vaP_mem.mp (vaP_app.mp (vaP_perm pmQ hP1)).1 q (by rw [List.mem_singleton] at hq; subst hq; exact List.mem_cons_self))) hl hk hr hT hf hd3 (fun ls hl => kk H1 locs1 ls ⟨pa, V, X, PV, K, Vr, T, TD, hP1, hD1, hS1, hrel⟩ hl)
theorem rows_qz {ks : List (Nat × Bool)} {pc idx1 idx2 : Nat} (hd : ∀ q ∈ cqzRows ks pc idx1 idx2, decode code q.1 = .ok q.2) : (∀ q ∈ stRows pc (raEnd ks (pc + 1)) idx1, decode code q.1 = .ok q.2) ∧ (∀ q ∈ raRows ks (pc + 1), decode code q.1 = .ok q.2) ∧ (∀ q ∈ mdRows (raEnd ks (pc + 1) + 4) (raEnd ks (raEnd ks (pc + 1) + 7)) idx2, decode code q.1 = .ok q.2) ∧ (∀ q ∈ raRows ks (raEnd ks (pc + 1) + 7), decode code q.1 = .ok q.2) ∧ ∀ q ∈ tlzRows (raEnd ks (raEnd ks (pc + 1) + 7) + 5), decode code q.1 = .ok q.2 :=
  ⟨fun q hq => hd q (List.mem_append_left _ hq), fun q hq => hd q (List.mem_append_right _ (List.mem_append_left _ hq)), fun q hq => hd q (List.mem_append_right _ (List.mem_append_right _ (List.mem_append_left _ hq))), fun q hq => hd q (List.mem_append_right _ (List.mem_append_right _ (List.mem_append_right _ (List.mem_append_left _ hq)))), fun q hq => hd q (List.mem_append_right _ (List.mem_append_right _ (List.mem_append_right _ (List.mem_append_right _ hq))))⟩
theorem jcQz {ks : List (Nat × Bool)} {pc idx1 idx2 n1 n2 : Nat} {y1 y2 : MethodName} {cc1 cc2 : ByteArray} {hh : List (Nat × Nat × Nat × Nat)} {rm1 rm2 : Room} {pa : Nat → Nat → Nat} {V X V1 X1 : Sz} {PV : Nat → Sz} {K : Nat} {V8 Vr : Sz} {T T1 : Nat → Int} {TD : Nat → UInt64} {r : Bool} (hL : LC p l s m c b L xs D kA adK adV)
    (hP : va_P D vwCl (WL kA a a8 bO bD pa V X PV K V8 T TD) H) (hD : va_D (zA s) (WL kA a a8 bO bD pa V X PV K V8 T TD)) (hS : va_S (zA s) s.heap H locs) (hrel : Rel V1 PV K Vr) (hl : lv_has ls 10 (lb a a8 bO bD b n)) (hn : n + 6 ≤ L) (hks : ∀ q ∈ ks, q.1 < 6)
    (hM1 : MZH l y1 cc1 n1 (some .int) hh rm1 D kA (.ref (a 0) :: (argv xs n ks ++ [.ref bO])) (zO kA bO T :: cs_X7 kA a V X (zpf pa K)) (zO kA bO T1 :: cs_X7 kA a V1 X1 (zpf pa K)) (some (vI 0))) (hw1 : zwH RL idx1 y1 cc1 n1 (some .int) hh (ks.length + 2)) (hR1 : rm1.frames + 1 ≤ room_1.frames ∧ 8 + (n1 + 11) + rm1.locals ≤ room_1.locals) (hrm1 : rm1.cells = 0 ∧ rm1.slots = 0)
    (hM : MZ l y2 cc2 n2 (some .boolean) rm2 D kA (.ref (a8 0) :: argv xs n ks) (cs_X8 kA a8 V8) (cs_X8 kA a8 Vr) (some (vI (bI r)))) (hw : zwV RL idx2 RX8 y2 cc2 n2 (some .boolean) ks.length) (hR : rm2.frames + 1 ≤ room_1.frames ∧ 8 + (n2 + 11) + rm2.locals ≤ room_1.locals) (hrm : rm2.cells = 0 ∧ rm2.slots = 0)
    (hk : Vr 9 0 = 0) (hT : T1 0 = bI r) (hf : cells ≤ room_1.cells ∧ slots ≤ room_1.slots) (hd : ∀ q ∈ cqzRows ks pc idx1 idx2, decode code q.1 = .ok q.2)
    (kk : ∀ (H1 : Heap) (locs1 : List Loc) (ls1 : Array Slot), LI D kA a a8 bO bD s H1 locs1 → lv_has ls1 10 (lb a a8 bO bD b n) → W p l e room_1 s m #[Value.ref b] below meth c H1 locs1 cells slots Q (F0 m 3089 ls1 [])) : W p l e room_1 s m #[Value.ref b] below meth c H locs cells slots Q (F0 m pc ls []) := by
  have hC := hL.1
  have hK := hL.2.1
  obtain ⟨d1, d2, d3, d4, d5⟩ := rows_qz hd
  refine lv_aload_n hC.1 hC.2.1 (d1 (pc, .aload_n 1, 1) (List.mem_of_getElem? (i := 0) rfl)) rfl (lv_at hl 4 rfl) ?_
  refine jpush hL hS (lv_at hl 5 rfl) (lv_at hl 0 rfl) hn ks (pc + 1) _ hks d2 ?_
  refine lv_aload_n hC.1 hC.2.1 (d1 (raEnd ks (pc + 1), .aload_n 3, 1) (List.mem_of_getElem? (i := 1) rfl)) rfl (lv_at hl 2 rfl) ?_
  refine lcQ (w0 := zO kA bO T :: cs_X7 kA a V X (zpf pa K)) (w1 := zO kA bO T1 :: cs_X7 kA a V1 X1 (zpf pa K)) (As := .ref (a 0) :: (argv xs n ks ++ [.ref bO])) (rest := []) hC hK hM1 hw1 hP hD hS (fun _ h => h) pmQ rfl (jlen _ _ ks) hl.1 (jst _ _ ks) (Nat.le_of_ble_eq_true rfl) hR1 hrm1 hf (d1 (raEnd ks (pc + 1) + 1, .invokestatic idx1, 3) (List.mem_of_getElem? (i := 2) rfl)) (fun H1 locs1 hq hS1 => ?_)
  obtain ⟨hP1, hD1⟩ := hq (WL kA a a8 bO bD pa V1 X1 PV K V8 T1 TD) pmQ
  exact jw2z (u := raEnd ks (pc + 1) + 4) hL hP1 hD1 hS1 hrel hl hn hks hM hw hR hrm hk ⟨by decide, by decide⟩ (fun _ => hT) hf d3 d4 d5 kk
theorem jcTz {ks : List (Nat × Bool)} {pc idx1 idx2 n1 n2 : Nat} {y1 y2 : MethodName} {cc1 cc2 : ByteArray} {hh : List (Nat × Nat × Nat × Nat)} {rm1 rm2 : Room} {pa : Nat → Nat → Nat} {V X : Sz} {PV : Nat → Sz} {K : Nat} {V8 Vr : Sz} {T : Nat → Int} {TD : Nat → UInt64} {k : Int} {r : Bool} {w0 Rr : va_W} (hL : LC p l s m c b L xs D kA adK adV)
    (hP : va_P D vwCl (WL kA a a8 bO bD pa V X PV K V8 T TD) H) (hD : va_D (zA s) (WL kA a a8 bO bD pa V X PV K V8 T TD)) (hS : va_S (zA s) s.heap H locs) (hrel : Rel V PV K Vr) (hl : lv_has ls 10 (lb a a8 bO bD b n)) (hn : n + 6 ≤ L) (hks : ∀ q ∈ ks, q.1 < 6) (hpm : (WL kA a a8 bO bD pa V X PV K V8 T TD).Perm (w0 ++ Rr))
    (hM1 : MTH l y1 cc1 n1 (some .int) hh rm1 D kA (.ref (a 0) :: (argv xs n ks ++ [.ref bO])) w0 (some (vI k))) (hw1 : zwH RL idx1 y1 cc1 n1 (some .int) hh (ks.length + 2)) (hR1 : rm1.frames + 1 ≤ room_1.frames ∧ 8 + (n1 + 11) + rm1.locals ≤ room_1.locals) (hrm1 : rm1.cells = 1 ∧ rm1.slots = 6)
    (hM : MZ l y2 cc2 n2 (some .boolean) rm2 D kA (.ref (a8 0) :: argv xs n ks) (cs_X8 kA a8 V8) (cs_X8 kA a8 Vr) (some (vI (bI r)))) (hw : zwV RL idx2 RX8 y2 cc2 n2 (some .boolean) ks.length) (hR : rm2.frames + 1 ≤ room_1.frames ∧ 8 + (n2 + 11) + rm2.locals ≤ room_1.locals) (hrm : rm2.cells = 0 ∧ rm2.slots = 0)
    (hk : Vr 9 0 = k) (hr : rng k) (hk0 : k ≠ 0) (hf : cells + 1 ≤ room_1.cells ∧ slots + 6 ≤ room_1.slots) (hd : ∀ q ∈ cqzRows ks pc idx1 idx2, decode code q.1 = .ok q.2)
    (kk : ∀ (H1 : Heap) (locs1 : List Loc) (ls1 : Array Slot), LI D kA a a8 bO bD s H1 locs1 → lv_has ls1 10 (lb a a8 bO bD b n) → W p l e room_1 s m #[Value.ref b] below meth c H1 locs1 (cells + 1) (slots + 6) Q (F0 m 3089 ls1 [])) : W p l e room_1 s m #[Value.ref b] below meth c H locs cells slots Q (F0 m pc ls []) := by
  have hC := hL.1
  have hK := hL.2.1
  obtain ⟨d1, d2, d3, d4, d5⟩ := rows_qz hd
  refine lv_aload_n hC.1 hC.2.1 (d1 (pc, .aload_n 1, 1) (List.mem_of_getElem? (i := 0) rfl)) rfl (lv_at hl 4 rfl) ?_
  refine jpush hL hS (lv_at hl 5 rfl) (lv_at hl 0 rfl) hn ks (pc + 1) _ hks d2 ?_
  refine lv_aload_n hC.1 hC.2.1 (d1 (raEnd ks (pc + 1), .aload_n 3, 1) (List.mem_of_getElem? (i := 1) rfl)) rfl (lv_at hl 2 rfl) ?_
  refine lcT (As := .ref (a 0) :: (argv xs n ks ++ [.ref bO])) (rest := []) hC hK hL.2.2.1 hL.2.2.2.1 hM1 hw1 hP hS hpm (jlen _ _ ks) hl.1 (jst _ _ ks) (Nat.le_of_ble_eq_true rfl) hR1 hrm1 hf (d1 (raEnd ks (pc + 1) + 1, .invokestatic idx1, 3) (List.mem_of_getElem? (i := 2) rfl)) (fun H1 locs1 hP1 hS1 => ?_)
  exact jw2z (u := raEnd ks (pc + 1) + 4) hL hP1 hD hS1 hrel hl hn hks hM hw hR hrm hk hr (fun h => absurd h hk0) hf d3 d4 d5 kk
/-! loadRegister: the reference's has the texts at hand -/
theorem lcVs {idx n1 k pc nL : Nat} {C : String} {y : MethodName} {bb cc : ByteArray} {own : String} {o : Option Value} {ret : Option FieldType} {rm : Room} {b0 ci q0 : Nat} {fs As st0 : List Value} {r : vw_C} {args : Array Value} {R : Room} {Ws Rr w0 w1 : va_W} (hC : CallFix p m c cc nL s args lw_all own) (hK : zK D kA s) (hZ : zS adK adV (zA s) s s.heap) (hM : MZs l y bb n1 ret rm D kA adK adV (.ref b0 :: As) w0 w1 o) (hw : zwV own idx C y bb n1 ret k)
    (hP : va_P D vwCl Ws H) (hD : va_D (zA s) Ws) (hS : va_S (zA s) s.heap H locs) (hpm : Ws.Perm (w0 ++ Rr)) (he : w1.map Prod.fst = w0.map Prod.fst)
    (hr0 : w0[q0]? = some (b0, .inr (ci, fs))) (hc : vwCl[ci]? = some r) (hrC : r.1 = C) (hk : As.length = k) (hl : ls.size = nL) (hst : st0 = As.reverse ++ .ref b0 :: rest) (hcat : (rest.map fun v => v.category).sum ≤ 8) (hR : rm.frames + 1 ≤ R.frames ∧ 8 + (n1 + 11) + rm.locals ≤ R.locals) (hrm : rm.cells = 0 ∧ rm.slots = 0) (hf : cells ≤ R.cells ∧ slots ≤ R.slots) (hdg : decode cc pc = .ok (.invokevirtual idx, 3))
    (kk : ∀ (H1 : Heap) (locs1 : List Loc), (∀ Wt : va_W, Wt.Perm (w1 ++ Rr) → va_P D vwCl Wt H1 ∧ va_D (zA s) Wt) → va_S (zA s) s.heap H1 locs1 → W p l e R s m args below meth c H1 locs1 cells slots Q (F0 m (pc + 3) ls (o.toList ++ rest))) : W p l e R s m args below meth c H locs cells slots Q (F0 m pc ls st0) := by
  subst hrC
  have hPc := (vaP_app.mp (vaP_perm hpm hP)).1
  have hA : ∀ q, zF w0 q → zA s q := fun q ⟨j, ee, hj⟩ => (vaD_left (vaD_perm hpm hD)).2 j (q, ee) hj
  exact lw_backZ (va_runV (g := F0 m pc ls st0) (As := As) (rest := rest) hC hM (zcwV hC.2.2.2.2 hw hR hrm.1 hrm.2) ⟨zblindS, va_recv hK.1 hPc hc hr0, fun U hU hW => ⟨rfl, by rw [hU]; exact hPc, hK.warm hW, hZ.call hS hU hW hA⟩⟩ rfl hk hl hst (lv_room hcat) hdg hf) hP hD hS (fun _ h => h) hpm he kk
theorem jdU {ks : List (Nat × Bool)} {pc idx1 idx2 n1 n2 : Nat} {y1 y2 : MethodName} {cc1 cc2 : ByteArray} {ret1 ret2 : Option FieldType} {rm1 rm2 : Room} {pa : Nat → Nat → Nat} {V X V1 X1 : Sz} {PV : Nat → Sz} {K : Nat} {V8 Vr : Sz} {T : Nat → Int} {TD : Nat → UInt64} {v : Int} (hL : LC p l s m c b L xs D kA adK adV)
    (hP : va_P D vwCl (WL kA a a8 bO bD pa V X PV K V8 T TD) H) (hD : va_D (zA s) (WL kA a a8 bO bD pa V X PV K V8 T TD)) (hS : va_S (zA s) s.heap H locs) (hrel : Rel V1 PV K Vr) (hl : lv_has ls 10 (lb a a8 bO bD b n)) (hn : n + 6 ≤ L) (hks : ∀ q ∈ ks, q.1 < 6)
    (hM1 : MZ l y1 cc1 n1 ret1 rm1 D kA (.ref (a 0) :: argv xs n ks) (cs_X7 kA a V X (zpf pa K) ++ cs_P kA pa PV K) (cs_X7 kA a V1 X1 (zpf pa K) ++ cs_P kA pa PV K) (some (vI v))) (hw1 : zwV RL idx1 RX7 y1 cc1 n1 ret1 ks.length) (hR1 : rm1.frames + 1 ≤ room_1.frames ∧ 8 + (n1 + 11) + rm1.locals ≤ room_1.locals) (hrm1 : rm1.cells = 0 ∧ rm1.slots = 0)
    (hM : MZ l y2 cc2 n2 ret2 rm2 D kA (.ref (a8 0) :: argv xs n ks) (cs_X8 kA a8 V8) (cs_X8 kA a8 Vr) (some (vI v))) (hw : zwV RL idx2 RX8 y2 cc2 n2 ret2 ks.length) (hR : rm2.frames + 1 ≤ room_1.frames ∧ 8 + (n2 + 11) + rm2.locals ≤ room_1.locals) (hrm : rm2.cells = 0 ∧ rm2.slots = 0)
    (hf : cells ≤ room_1.cells ∧ slots ≤ room_1.slots) (hd : ∀ q ∈ cdRows ks pc idx1 idx2, decode code q.1 = .ok q.2)
    (kk : ∀ (H1 : Heap) (locs1 : List Loc) (ls1 : Array Slot), LI D kA a a8 bO bD s H1 locs1 → lv_has ls1 10 (lb a a8 bO bD b n) → W p l e room_1 s m #[Value.ref b] below meth c H1 locs1 cells slots Q (F0 m 3089 ls1 [])) : W p l e room_1 s m #[Value.ref b] below meth c H locs cells slots Q (F0 m pc ls []) := by
  have hC := hL.1
  have hK := hL.2.1
  obtain ⟨d1, d2, -⟩ := rows_d hd
  refine lv_aload_n hC.1 hC.2.1 (d1 (pc, .aload_n 1, 1) (List.mem_of_getElem? (i := 0) rfl)) rfl (lv_at hl 4 rfl) ?_
  refine jpush hL hS (lv_at hl 5 rfl) (lv_at hl 0 rfl) hn ks (pc + 1) _ hks d2 ?_
  refine lcV (As := argv xs n ks) (rest := []) hC hK hM1 hw1 hP hD hS (fun _ h => h) pmU rfl (q0 := 0) rfl rfl rfl (argv_len ks) hl.1 rfl (Nat.le_of_ble_eq_true rfl) hR1 hrm1 hf (d1 (raEnd ks (pc + 1), .invokevirtual idx1, 3) (List.mem_of_getElem? (i := 1) rfl)) (fun H1 locs1 hq hS1 => ?_)
  obtain ⟨hP1, hD1⟩ := hq (WL kA a a8 bO bD pa V1 X1 PV K V8 T TD) pmU
  exact jd2 hL hP1 hD1 hS1 hrel hl hn hks hM hw hR hrm hf hd kk
theorem jd2s {ks : List (Nat × Bool)} {pc idx1 idx2 n2 : Nat} {y2 : MethodName} {cc2 : ByteArray} {ret2 : Option FieldType} {rm2 : Room} {pa : Nat → Nat → Nat} {V X : Sz} {PV : Nat → Sz} {K : Nat} {V8 Vr : Sz} {T : Nat → Int} {TD : Nat → UInt64} {v : Int} (hL : LC p l s m c b L xs D kA adK adV)
    (hP : va_P D vwCl (WL kA a a8 bO bD pa V X PV K V8 T TD) H) (hD : va_D (zA s) (WL kA a a8 bO bD pa V X PV K V8 T TD)) (hS : va_S (zA s) s.heap H locs) (hrel : Rel V PV K Vr) (hl : lv_has ls 10 (lb a a8 bO bD b n)) (hn : n + 6 ≤ L) (hks : ∀ q ∈ ks, q.1 < 6)
    (hM : MZs l y2 cc2 n2 ret2 rm2 D kA adK adV (.ref (a8 0) :: argv xs n ks) (cs_X8 kA a8 V8) (cs_X8 kA a8 Vr) (some (vI v))) (hw : zwV RL idx2 RX8 y2 cc2 n2 ret2 ks.length) (hR : rm2.frames + 1 ≤ room_1.frames ∧ 8 + (n2 + 11) + rm2.locals ≤ room_1.locals) (hrm : rm2.cells = 0 ∧ rm2.slots = 0)
    (hf : cells ≤ room_1.cells ∧ slots ≤ room_1.slots) (hd : ∀ q ∈ cdRows ks pc idx1 idx2, decode code q.1 = .ok q.2)
    (kk : ∀ (H1 : Heap) (locs1 : List Loc) (ls1 : Array Slot), LI D kA a a8 bO bD s H1 locs1 → lv_has ls1 10 (lb a a8 bO bD b n) → W p l e room_1 s m #[Value.ref b] below meth c H1 locs1 cells slots Q (F0 m 3089 ls1 [])) : W p l e room_1 s m #[Value.ref b] below meth c H locs cells slots Q (F0 m (raEnd ks (pc + 1) + 3) ls [vI v]) := by
  have hC := hL.1
  have hK := hL.2.1
  obtain ⟨d1, -, d3⟩ := rows_d hd
  refine lv_aload_n hC.1 hC.2.1 (d1 (raEnd ks (pc + 1) + 3, .aload_n 2, 1) (List.mem_of_getElem? (i := 2) rfl)) rfl (lv_at hl 3 rfl) ?_
  refine jpush hL hS (lv_at hl 5 rfl) (lv_at hl 0 rfl) hn ks (raEnd ks (pc + 1) + 4) _ hks d3 ?_
  refine lcVs (As := argv xs n ks) (rest := [vI v]) hC hK hL.2.2.2.2.1 hM hw hP hD hS pm8 rfl (q0 := 0) rfl rfl rfl (argv_len ks) hl.1 rfl (Nat.le_of_ble_eq_true rfl) hR hrm hf (d1 (raEnd ks (raEnd ks (pc + 1) + 4), .invokevirtual idx2, 3) (List.mem_of_getElem? (i := 3) rfl)) (fun H1 locs1 hq hS1 => ?_)
  obtain ⟨hP1, hD1⟩ := hq (WL kA a a8 bO bD pa V X PV K Vr T TD) pm8
  exact lv_icmp_eq (x := Int32.ofInt v) (y := Int32.ofInt v) (tgt := 3089) hC.1 hC.2.1 (d1 (raEnd ks (raEnd ks (pc + 1) + 4) + 3, .if_icmp .eq (3089 - ((raEnd ks (raEnd ks (pc + 1) + 4) + 3 : Nat) : Int)), 3) (List.mem_of_getElem? (i := 4) rfl)) (by omega) (fun _ => kk H1 locs1 ls ⟨pa, V, X, PV, K, Vr, T, TD, hP1, hD1, hS1, hrel⟩ hl) (fun h => absurd rfl h)
theorem jdS {ks : List (Nat × Bool)} {pc idx1 idx2 n1 n2 : Nat} {y1 y2 : MethodName} {cc1 cc2 : ByteArray} {ret1 ret2 : Option FieldType} {rm1 rm2 : Room} {pa : Nat → Nat → Nat} {V X V1 X1 : Sz} {PV : Nat → Sz} {K : Nat} {V8 Vr : Sz} {T : Nat → Int} {TD : Nat → UInt64} {v : Int} (hL : LC p l s m c b L xs D kA adK adV)
    (hP : va_P D vwCl (WL kA a a8 bO bD pa V X PV K V8 T TD) H) (hD : va_D (zA s) (WL kA a a8 bO bD pa V X PV K V8 T TD)) (hS : va_S (zA s) s.heap H locs) (hrel : Rel V1 PV K Vr) (hl : lv_has ls 10 (lb a a8 bO bD b n)) (hn : n + 6 ≤ L) (hks : ∀ q ∈ ks, q.1 < 6)
    (hM1 : MZ l y1 cc1 n1 ret1 rm1 D kA (.ref (a 0) :: argv xs n ks) (cs_X7 kA a V X (zpf pa K)) (cs_X7 kA a V1 X1 (zpf pa K)) (some (vI v))) (hw1 : zwV RL idx1 RX7 y1 cc1 n1 ret1 ks.length) (hR1 : rm1.frames + 1 ≤ room_1.frames ∧ 8 + (n1 + 11) + rm1.locals ≤ room_1.locals) (hrm1 : rm1.cells = 0 ∧ rm1.slots = 0)
    (hM : MZs l y2 cc2 n2 ret2 rm2 D kA adK adV (.ref (a8 0) :: argv xs n ks) (cs_X8 kA a8 V8) (cs_X8 kA a8 Vr) (some (vI v))) (hw : zwV RL idx2 RX8 y2 cc2 n2 ret2 ks.length) (hR : rm2.frames + 1 ≤ room_1.frames ∧ 8 + (n2 + 11) + rm2.locals ≤ room_1.locals) (hrm : rm2.cells = 0 ∧ rm2.slots = 0)
    (hf : cells ≤ room_1.cells ∧ slots ≤ room_1.slots) (hd : ∀ q ∈ cdRows ks pc idx1 idx2, decode code q.1 = .ok q.2)
    (kk : ∀ (H1 : Heap) (locs1 : List Loc) (ls1 : Array Slot), LI D kA a a8 bO bD s H1 locs1 → lv_has ls1 10 (lb a a8 bO bD b n) → W p l e room_1 s m #[Value.ref b] below meth c H1 locs1 cells slots Q (F0 m 3089 ls1 [])) : W p l e room_1 s m #[Value.ref b] below meth c H locs cells slots Q (F0 m pc ls []) := by
  have hC := hL.1
  have hK := hL.2.1
  obtain ⟨d1, d2, -⟩ := rows_d hd
  refine lv_aload_n hC.1 hC.2.1 (d1 (pc, .aload_n 1, 1) (List.mem_of_getElem? (i := 0) rfl)) rfl (lv_at hl 4 rfl) ?_
  refine jpush hL hS (lv_at hl 5 rfl) (lv_at hl 0 rfl) hn ks (pc + 1) _ hks d2 ?_
  refine lcV (As := argv xs n ks) (rest := []) hC hK hM1 hw1 hP hD hS (fun _ h => h) pm7 rfl (q0 := 0) rfl rfl rfl (argv_len ks) hl.1 rfl (Nat.le_of_ble_eq_true rfl) hR1 hrm1 hf (d1 (raEnd ks (pc + 1), .invokevirtual idx1, 3) (List.mem_of_getElem? (i := 1) rfl)) (fun H1 locs1 hq hS1 => ?_)
  obtain ⟨hP1, hD1⟩ := hq (WL kA a a8 bO bD pa V1 X1 PV K V8 T TD) pm7
  exact jd2s hL hP1 hD1 hS1 hrel hl hn hks hM hw hR hrm hf hd kk
end LCS
