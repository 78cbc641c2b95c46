/-! the law: its beginning -/
def ro_b : List (Nat × Instr × Nat) := [(0, .new 8, 3), (3, .dup, 1), (4, .invokespecial 132, 3), (7, .astore_n 1, 1), (8, .new 133, 3), (11, .dup, 1), (12, .invokespecial 135, 3), (15, .astore_n 2, 1), (16, .iconst 1, 1), (17, .newarray .long, 2), (19, .astore_n 3, 1), (20, .iconst 1, 1), (21, .newarray .double, 2), (23, .astore 4, 2), (25, .iconst 0, 1), (26, .istore 5, 2)]
theorem dr_b : ∀ q ∈ ro_b, decode code q.1 = .ok q.2 := by decide +kernel
theorem dl_0 : decode code 0 = .ok (.new 8, 3) := dr_b (0, .new 8, 3) (List.mem_of_getElem? (i := 0) rfl)
theorem dl_3 : decode code 3 = .ok (.dup, 1) := dr_b (3, .dup, 1) (List.mem_of_getElem? (i := 1) rfl)
theorem dl_4 : decode code 4 = .ok (.invokespecial 132, 3) := dr_b (4, .invokespecial 132, 3) (List.mem_of_getElem? (i := 2) rfl)
theorem dl_7 : decode code 7 = .ok (.astore_n 1, 1) := dr_b (7, .astore_n 1, 1) (List.mem_of_getElem? (i := 3) rfl)
theorem dl_8 : decode code 8 = .ok (.new 133, 3) := dr_b (8, .new 133, 3) (List.mem_of_getElem? (i := 4) rfl)
theorem dl_11 : decode code 11 = .ok (.dup, 1) := dr_b (11, .dup, 1) (List.mem_of_getElem? (i := 5) rfl)
theorem dl_12 : decode code 12 = .ok (.invokespecial 135, 3) := dr_b (12, .invokespecial 135, 3) (List.mem_of_getElem? (i := 6) rfl)
theorem dl_15 : decode code 15 = .ok (.astore_n 2, 1) := dr_b (15, .astore_n 2, 1) (List.mem_of_getElem? (i := 7) rfl)
theorem dl_16 : decode code 16 = .ok (.iconst 1, 1) := dr_b (16, .iconst 1, 1) (List.mem_of_getElem? (i := 8) rfl)
theorem dl_17 : decode code 17 = .ok (.newarray .long, 2) := dr_b (17, .newarray .long, 2) (List.mem_of_getElem? (i := 9) rfl)
theorem dl_19 : decode code 19 = .ok (.astore_n 3, 1) := dr_b (19, .astore_n 3, 1) (List.mem_of_getElem? (i := 10) rfl)
theorem dl_20 : decode code 20 = .ok (.iconst 1, 1) := dr_b (20, .iconst 1, 1) (List.mem_of_getElem? (i := 11) rfl)
theorem dl_21 : decode code 21 = .ok (.newarray .double, 2) := dr_b (21, .newarray .double, 2) (List.mem_of_getElem? (i := 12) rfl)
theorem dl_23 : decode code 23 = .ok (.astore 4, 2) := dr_b (23, .astore 4, 2) (List.mem_of_getElem? (i := 13) rfl)
theorem dl_25 : decode code 25 = .ok (.iconst 0, 1) := dr_b (25, .iconst 0, 1) (List.mem_of_getElem? (i := 14) rfl)
theorem dl_26 : decode code 26 = .ok (.istore 5, 2) := dr_b (26, .istore 5, 2) (List.mem_of_getElem? (i := 15) rfl)
theorem zpf0 (pa : Nat → Nat → Nat) : zpf pa 0 = fun _ => none := funext fun i => if_neg (Nat.not_lt_zero i)
theorem pm_start {α : Type} (A8 A7 o d : List α) : (d ++ (A8 ++ (o ++ (A7 ++ [])))).Perm (((A8 ++ A7) ++ o) ++ d) := by
  rw [List.append_nil, List.append_assoc A8 A7 o]
  exact (List.perm_append_comm.trans ((List.perm_append_comm.append_left A8).append_right d))
section LCS
variable {p : Program} {l : Launch} {e : Env} {s : State} {m : MethodId} {below : List Frame} {meth : Method} {c : Code} {H : Heap} {locs : List Loc} {cells slots : Nat} {Q : State → Prop}
variable {ls : Array Slot} {rest : List Value} {D : va_G} {kA : Nat → ClassId} {b L n : Nat} {xs : Nat → Int32} {adK adV : Nat → Nat} {a a8 : Nat → Nat} {bO bD : Nat}
theorem lw_backU {R : Room} {args : Array Value} {pc mc ms b0 ci : Nat} {fs st0 : List Value} {o : Option Value} {A0 : Nat → Prop} {H0 : Heap} {Ws Rr : va_W} {post : va_W → Prop}
    (hr : va_Run p l e R s m args below meth c H locs cells slots mc ms (F0 m pc ls st0) rest (fun st oc t => oc = .returned o ∧ ∃ w : va_W, post w ∧ va_P D vwCl w t.heap ∧ va_D (zU b0 H.size) w ∧ va_F (zU b0 H.size) st t) (zU b0 H.size))
    (hP : va_P D vwCl Ws H) (hD : va_D A0 Ws) (hS : va_S A0 H0 H locs) (hA : ∀ q, H0.size ≤ q → A0 q) (hpm : Ws.Perm ([(b0, .inr (ci, fs))] ++ Rr))
    (kk : ∀ (w : va_W) (H1 : Heap) (locs1 : List Loc), post w → (∀ Wt : va_W, Wt.Perm (w ++ Rr) → va_P D vwCl Wt H1 ∧ va_D A0 Wt) → va_S A0 H0 H1 locs1 → W p l e R s m args below meth c H1 locs1 (cells + mc) (slots + ms) Q (F0 m (pc + 3) ls (o.toList ++ rest))) : W p l e R s m args below meth c H locs cells slots Q (F0 m pc ls st0) := by
  have zu : ∀ q : Nat, zU b0 H.size q → zG [(b0, (.inr (ci, fs) : va_E))] H.size q := by
    intro q h
    rcases (show q = b0 ∨ H.size ≤ q from h) with rfl | h
    · exact Or.inl ⟨0, .inr (ci, fs), rfl⟩
    · exact Or.inr h
  refine lw_back (rest := rest) (o := o) (post := post) (mc := mc) (ms := ms) (w0 := [(b0, .inr (ci, fs))]) (fun T hT X => ?_) hP hD hS hA hpm kk
  obtain ⟨v, st₀, t, T', L, h0, X', hL, e1, e2, ⟨hv, w, hw, hP1, hD1, hz, hk⟩, st⟩ := hr T hT X
  exact ⟨v, st₀, t, T', L, h0, X', fun q hq => zu _ (hL q hq), e1, e2, ⟨hv, w, hw, hP1, ⟨hD1.1, fun k q hk => zu _ (hD1.2 k q hk)⟩, hz, fun q h1 h2 => hk q h1 (fun z => h2 (zu q z))⟩, st⟩
set_option maxHeartbeats 2000000 in
set_option maxRecDepth 100000 in
theorem law_begin (hNN : NNaN) (hL : LC p l s m c b L xs D kA adK adV) (hAO : va_AO RX4 s) (hl : lv_has ls 10 [(0, .ref b)])
    (hX : ∀ (H : Heap) (locs : List Loc) (ls : Array Slot) (cells slots : Nat), va_S (zA s) s.heap H locs → cells ≤ 601024 → slots ≤ 7293034 → W p l e room_1 s m #[Value.ref b] below meth c H locs cells slots Q (F0 m 3095 ls [])) : W p l e room_1 s m #[Value.ref b] below meth c s.heap [] 0 0 Q (F0 m 0 ls []) := by
  obtain ⟨Vr, hu, hrel⟩ := rel_start (fun _ _ _ => 0) (n := 20001) (by decide)
  have hC := hL.1
  have hK := hL.2.1
  have hL2 := hL.2.2.2.2.2.2.2
  have hA : ∀ q, s.heap.size ≤ q → zA s q := fun _ h => h
  have hS : va_S (zA s) s.heap s.heap [] := va_S.rf
  have hP : va_P D vwCl ([] : va_W) s.heap := fun k q h => by simp at h
  have hD : va_D (zA s) ([] : va_W) := ⟨fun i j p q h => by simp at h, fun k q h => by simp at h⟩
  refine va_new (ci := 7) (fs := [.null, vI 0, vI 0, vI 0, .null, .null, .null, vI 0, .null, vI 0, vI 0, .null, .null, .null]) (C := RX7) (T := TX7) (N := 14) hC.1 hC.2.1 hC.2.2.2.2 uin_X7 tyX7 tyX7_ok hC.2.2.2.1 (hC.2.2.2.2 _ qw_23) (hC.2.2.2.2 _ qw_24) (hC.2.2.2.2 _ qw_1) hK.1 hP hD hS hA rfl (fun j hj => by rcases (show j = 0 ∨ j = 1 ∨ j = 2 ∨ j = 3 ∨ j = 4 ∨ j = 5 ∨ j = 6 ∨ j = 7 ∨ j = 8 ∨ j = 9 ∨ j = 10 ∨ j = 11 ∨ j = 12 ∨ j = 13 by omega) with rfl | rfl | rfl | rfl | rfl | rfl | rfl | rfl | rfl | rfl | rfl | rfl | rfl | rfl <;> rfl) (Nat.le_of_ble_eq_true rfl) (Nat.le_of_ble_eq_true rfl) dl_0 (fun q1 H hP hD hS => ?_)
  have hP : va_P D vwCl [(q1, .inr (7, [.null, vI 0, vI 0, vI 0, .null, .null, .null, vI 0, .null, vI 0, vI 0, .null, .null, .null]))] H := hP
  have hD : va_D (zA s) [(q1, .inr (7, [.null, vI 0, vI 0, vI 0, .null, .null, .null, vI 0, .null, vI 0, vI 0, .null, .null, .null]))] := hD
  refine lv_dup hC.1 hC.2.1 dl_3 rfl ?_
  refine lw_backU (b0 := q1) (ci := 7) (fs := [.null, vI 0, vI 0, vI 0, .null, .null, .null, vI 0, .null, vI 0, vI 0, .null, .null, .null]) (rest := [.ref q1]) (Rr := []) (va_runI (g := F0 m (0 + 3 + 1) ls [.ref q1, .ref q1]) (As := []) (rest := [.ref q1]) hC (ini_X7 l D kA q1 H.size) (cwI (Ts := lw_all) 0 hC.2.2.2.2 (good_ws qw_27) rfl rfl rfl (hC.2.2.2.2 _ qw_1) (hC.2.2.2.2 _ qw_25) (hC.2.2.2.2 _ qw_26) rfl (by decide +kernel) ⟨Nat.le_of_ble_eq_true rfl, Nat.le_of_ble_eq_true rfl⟩) ⟨fun g U mk b h => ⟨h.1, h.2.1, h.2.2.1, h.2.2.2.1.calling, va_AO.moved (u := U) (Vm.Alike.refl U.vm) h.2.2.2.2⟩, fun U hU hW => ⟨rfl, by rw [hU], by rw [hU]; exact hP, hK.warm hW, hAO.moved hW.alike⟩⟩ rfl rfl hl.1 rfl (lv_room (Nat.le_of_ble_eq_true rfl)) dl_4 ⟨Nat.le_of_ble_eq_true rfl, Nat.le_of_ble_eq_true rfl⟩) hP hD hS hA (List.Perm.refl _) (fun w H locs hw hq hS => ?_)
  obtain ⟨a, rfl, rfl⟩ := hw
  obtain ⟨hP, hD⟩ := hq (cs_X7 kA a z0_X7 (fun _ _ => 0) (fun _ => none)) (by rw [List.append_nil])
  refine lv_astore_n (lv' := [(1, .ref (a 0)), (0, .ref b)]) hC.1 hC.2.1 dl_7 rfl hl (by decide) rfl (fun ls hl => ?_)
  refine va_new (ci := 8) (fs := [.null, .null, .null, .null, .null, vI 0, vI 0, .null, .null, vI 0, .null, .null, .null, .null, .null, vI 0, vI 0, vI 0, vI 0, vI 0, vI 0, vI 0, vI 0, vI 0, vI 0, .null, .null, vI 0, .null, vI 0, .null, vI 0]) (C := RX8) (T := TX8) (N := 32) hC.1 hC.2.1 hC.2.2.2.2 uin_X8 tyX8 tyX8_ok hC.2.2.2.1 (hC.2.2.2.2 _ qw_1195) (hC.2.2.2.2 _ qw_1196) (hC.2.2.2.2 _ qw_9) hK.1 hP hD hS hA rfl (fun j hj => by rcases (show j = 0 ∨ j = 1 ∨ j = 2 ∨ j = 3 ∨ j = 4 ∨ j = 5 ∨ j = 6 ∨ j = 7 ∨ j = 8 ∨ j = 9 ∨ j = 10 ∨ j = 11 ∨ j = 12 ∨ j = 13 ∨ j = 14 ∨ j = 15 ∨ j = 16 ∨ j = 17 ∨ j = 18 ∨ j = 19 ∨ j = 20 ∨ j = 21 ∨ j = 22 ∨ j = 23 ∨ j = 24 ∨ j = 25 ∨ j = 26 ∨ j = 27 ∨ j = 28 ∨ j = 29 ∨ j = 30 ∨ j = 31 by omega) with rfl | rfl | rfl | rfl | rfl | rfl | rfl | rfl | rfl | rfl | rfl | rfl | rfl | rfl | rfl | rfl | rfl | rfl | rfl | rfl | rfl | rfl | rfl | rfl | rfl | rfl | rfl | rfl | rfl | rfl | rfl | rfl <;> rfl) (Nat.le_of_ble_eq_true rfl) (Nat.le_of_ble_eq_true rfl) dl_8 (fun q2 H hP hD hS => ?_)
  refine lv_dup hC.1 hC.2.1 dl_11 rfl ?_
  have hPb := (vaP_app.mp hP).2
  refine lw_backU (b0 := q2) (ci := 8) (fs := [.null, .null, .null, .null, .null, vI 0, vI 0, .null, .null, vI 0, .null, .null, .null, .null, .null, vI 0, vI 0, vI 0, vI 0, vI 0, vI 0, vI 0, vI 0, vI 0, vI 0, .null, .null, vI 0, .null, vI 0, .null, vI 0]) (rest := [.ref q2]) (Rr := cs_X7 kA a z0_X7 (fun _ _ => 0) (fun _ => none)) (va_runI (g := F0 m (8 + 3 + 1) ls [.ref q2, .ref q2]) (As := []) (rest := [.ref q2]) hC (ini_X8 l D kA q2 H.size 20001 hu) (cwI (Ts := lw_all) 0 hC.2.2.2.2 (good_ws qw_1199) rfl rfl rfl (hC.2.2.2.2 _ qw_9) (hC.2.2.2.2 _ qw_1197) (hC.2.2.2.2 _ qw_1198) rfl (by decide +kernel) ⟨Nat.le_of_ble_eq_true rfl, Nat.le_of_ble_eq_true rfl⟩) ⟨fun g U mk b h => ⟨h.1, h.2.1, h.2.2.1, h.2.2.2.calling⟩, fun U hU hW => ⟨rfl, by rw [hU], by rw [hU]; exact hPb, hK.warm hW⟩⟩ rfl rfl hl.1 rfl (lv_room (Nat.le_of_ble_eq_true rfl)) dl_12 ⟨Nat.le_of_ble_eq_true rfl, Nat.le_of_ble_eq_true rfl⟩) hP hD hS hA List.perm_append_comm (fun w H locs hw hq hS => ?_)
  obtain ⟨a8, rfl, rfl⟩ := hw
  obtain ⟨hP, hD⟩ := hq (cs_X8 kA a8 Vr ++ cs_X7 kA a z0_X7 (fun _ _ => 0) (fun _ => none)) (List.Perm.refl _)
  refine lv_astore_n (lv' := [(2, .ref (a8 0)), (1, .ref (a 0)), (0, .ref b)]) hC.1 hC.2.1 dl_15 rfl hl (by decide) rfl (fun ls hl => ?_)
  refine ziconst hC.1 hC.2.1 dl_16 ?_
  refine jnewT (atype := .long) (ty := .long) 2 qw_240 rfl rfl hC hK hP hD hS hA (a0 := (1, .inr (.inl (aL (fun _ => 0))))) (fun _ => rfl) (by decide) (Nat.le_of_ble_eq_true rfl) (Nat.le_of_ble_eq_true rfl) (Nat.le_of_ble_eq_true rfl) dl_17 (fun q3 H hP hD hS => ?_)
  refine lv_astore_n (lv' := [(3, .ref q3), (2, .ref (a8 0)), (1, .ref (a 0)), (0, .ref b)]) hC.1 hC.2.1 dl_19 rfl hl (by decide) rfl (fun ls hl => ?_)
  refine ziconst hC.1 hC.2.1 dl_20 ?_
  refine jnewT (atype := .double) (ty := .double) 4 qw_1841 rfl rfl hC hK hP hD hS hA (a0 := (1, .inr (.inr (.inr (.inl (fun _ => 0)))))) (fun _ => rfl) (by decide) (Nat.le_of_ble_eq_true rfl) (Nat.le_of_ble_eq_true rfl) (Nat.le_of_ble_eq_true rfl) dl_21 (fun q4 H hP hD hS => ?_)
  refine lv_astore (lv' := [(4, .ref q4), (3, .ref q3), (2, .ref (a8 0)), (1, .ref (a 0)), (0, .ref b)]) hC.1 hC.2.1 dl_23 hl (by decide) rfl (fun ls hl => ?_)
  refine ziconst hC.1 hC.2.1 dl_25 ?_
  refine zistore (lv' := lb a a8 q3 q4 b (6 * 0)) hC.1 hC.2.1 dl_26 hl (by decide) rfl (fun ls hl => ?_)
  refine W.widen (k := 200 + 25 * 0) (n := 40000 + 2046 * 0) (Nat.le_of_ble_eq_true rfl) (Nat.le_of_ble_eq_true rfl) ?_
  have hpm : (WL kA a a8 q3 q4 (fun _ _ => 0) z0_X7 (fun _ _ => 0) (fun _ _ _ => 0) 0 Vr (fun _ => 0) (fun _ => 0)).Perm (((cs_X8 kA a8 Vr ++ cs_X7 kA a z0_X7 (fun _ _ => 0) (fun _ => none)) ++ [zO kA q3 (fun _ => 0)]) ++ [zOD kA q4 (fun _ => 0)]) := by
    unfold WL
    rw [zpf0]
    exact pm_start _ _ _ _
  exact law_loop (c0 := 200) (s0 := 40000) hNN hL (Nat.le_of_ble_eq_true rfl) (Nat.le_of_ble_eq_true rfl) (fun H locs ls cells slots hS h1 h2 => hX H locs ls cells slots hS (Nat.le_trans h1 (Nat.le_of_ble_eq_true rfl)) (Nat.le_trans h2 (Nat.le_of_ble_eq_true rfl))) 513 0 H locs ls (by omega) (by omega) ⟨fun _ _ => 0, z0_X7, fun _ _ => 0, fun _ _ _ => 0, 0, Vr, fun _ => 0, fun _ => 0, vaP_perm hpm.symm hP, vaD_perm hpm.symm hD, hS, hrel⟩ hl
end LCS
