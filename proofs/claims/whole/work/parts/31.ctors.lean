section ZG
variable {p : Program} {l : Launch} {e : Env} {R : Room} {s : State} {m : MethodId} {args : Array Value} {below : List Frame} {meth : Method} {c : Code} {H H0 : Heap} {locs : List Loc} {cells slots : Nat} {Q : State → Prop}
variable {pc nL : Nat} {ls : Array Slot} {rest : List Value} {A0 : Nat → Prop} {D : va_G} {kA : Nat → ClassId} {cc : ByteArray}
theorem zwX4_48 : zwV RX4 48 RX4 yX4_clear cX4_clear 1 none 0 := ⟨⟨qw_140, qw_141, qw_142, qw_2, qw_143⟩, rfl, by decide +kernel, by decide +kernel, by decide +kernel⟩
end ZG
theorem znX4_17 : (RX4, 17, yX1_init, "AidRegister") ∈ zNt := by decide +kernel
theorem znX4_24 : (RX4, 24, yX3_init, "AidRegister") ∈ zNt := by decide +kernel
theorem znX4_31 : (RX4, 31, yX0_init, "AidRegister") ∈ zNt := by decide +kernel
theorem znX7_48 : (RX7, 48, yX2_init, "AidRegister") ∈ zNt := by decide +kernel
theorem znX7_55 : (RX7, 55, yX5_init, "AidRegister") ∈ zNt := by decide +kernel
def z1_X4 : Sz := (fun _ _ => 0)
def z0_X4 : Sz := (f_X4_clear z1_X4).getD (fun _ _ => 0)
theorem DX4_init_0 : ∀ q ∈ ([(0, .aload_n 0, 1), (1, .invokespecial 3, 3), (4, .aload_n 0, 1), (5, .bipush 10, 2), (7, .newarray .int, 2), (9, .putfield 9, 3), (12, .aload_n 0, 1), (13, .new 15, 3), (16, .dup, 1), (17, .invokespecial 17, 3), (20, .putfield 18, 3), (23, .aload_n 0, 1), (24, .new 22, 3), (27, .dup, 1), (28, .invokespecial 24, 3), (31, .putfield 25, 3), (34, .aload_n 0, 1), (35, .new 29, 3), (38, .dup, 1), (39, .invokespecial 31, 3), (42, .putfield 32, 3), (45, .aload_n 0, 1), (46, .sipush 180, 3), (49, .newarray .int, 2), (51, .putfield 36, 3), (54, .aload_n 0, 1), (55, .sipush 180, 3), (58, .newarray .int, 2), (60, .putfield 39, 3), (63, .aload_n 0, 1), (64, .sipush 180, 3), (67, .newarray .int, 2), (69, .putfield 42, 3), (72, .aload_n 0, 1), (73, .bipush 10, 2), (75, .newarray .int, 2), (77, .putfield 45, 3), (80, .aload_n 0, 1), (81, .invokevirtual 48, 3), (84, .return_, 1)] : List (Nat × Instr × Nat)), decode cX4_init q.1 = .ok q.2 := by decide +kernel
theorem dX4_init_0 : decode cX4_init 0 = .ok (.aload_n 0, 1) := DX4_init_0 (0, .aload_n 0, 1) (List.mem_of_getElem? (i := 0) rfl)
theorem dX4_init_1 : decode cX4_init 1 = .ok (.invokespecial 3, 3) := DX4_init_0 (1, .invokespecial 3, 3) (List.mem_of_getElem? (i := 1) rfl)
theorem dX4_init_4 : decode cX4_init 4 = .ok (.aload_n 0, 1) := DX4_init_0 (4, .aload_n 0, 1) (List.mem_of_getElem? (i := 2) rfl)
theorem dX4_init_5 : decode cX4_init 5 = .ok (.bipush 10, 2) := DX4_init_0 (5, .bipush 10, 2) (List.mem_of_getElem? (i := 3) rfl)
theorem dX4_init_7 : decode cX4_init 7 = .ok (.newarray .int, 2) := DX4_init_0 (7, .newarray .int, 2) (List.mem_of_getElem? (i := 4) rfl)
theorem dX4_init_9 : decode cX4_init 9 = .ok (.putfield 9, 3) := DX4_init_0 (9, .putfield 9, 3) (List.mem_of_getElem? (i := 5) rfl)
theorem dX4_init_12 : decode cX4_init 12 = .ok (.aload_n 0, 1) := DX4_init_0 (12, .aload_n 0, 1) (List.mem_of_getElem? (i := 6) rfl)
theorem dX4_init_13 : decode cX4_init 13 = .ok (.new 15, 3) := DX4_init_0 (13, .new 15, 3) (List.mem_of_getElem? (i := 7) rfl)
theorem dX4_init_16 : decode cX4_init 16 = .ok (.dup, 1) := DX4_init_0 (16, .dup, 1) (List.mem_of_getElem? (i := 8) rfl)
theorem dX4_init_17 : decode cX4_init 17 = .ok (.invokespecial 17, 3) := DX4_init_0 (17, .invokespecial 17, 3) (List.mem_of_getElem? (i := 9) rfl)
theorem dX4_init_20 : decode cX4_init 20 = .ok (.putfield 18, 3) := DX4_init_0 (20, .putfield 18, 3) (List.mem_of_getElem? (i := 10) rfl)
theorem dX4_init_23 : decode cX4_init 23 = .ok (.aload_n 0, 1) := DX4_init_0 (23, .aload_n 0, 1) (List.mem_of_getElem? (i := 11) rfl)
theorem dX4_init_24 : decode cX4_init 24 = .ok (.new 22, 3) := DX4_init_0 (24, .new 22, 3) (List.mem_of_getElem? (i := 12) rfl)
theorem dX4_init_27 : decode cX4_init 27 = .ok (.dup, 1) := DX4_init_0 (27, .dup, 1) (List.mem_of_getElem? (i := 13) rfl)
theorem dX4_init_28 : decode cX4_init 28 = .ok (.invokespecial 24, 3) := DX4_init_0 (28, .invokespecial 24, 3) (List.mem_of_getElem? (i := 14) rfl)
theorem dX4_init_31 : decode cX4_init 31 = .ok (.putfield 25, 3) := DX4_init_0 (31, .putfield 25, 3) (List.mem_of_getElem? (i := 15) rfl)
theorem dX4_init_34 : decode cX4_init 34 = .ok (.aload_n 0, 1) := DX4_init_0 (34, .aload_n 0, 1) (List.mem_of_getElem? (i := 16) rfl)
theorem dX4_init_35 : decode cX4_init 35 = .ok (.new 29, 3) := DX4_init_0 (35, .new 29, 3) (List.mem_of_getElem? (i := 17) rfl)
theorem dX4_init_38 : decode cX4_init 38 = .ok (.dup, 1) := DX4_init_0 (38, .dup, 1) (List.mem_of_getElem? (i := 18) rfl)
theorem dX4_init_39 : decode cX4_init 39 = .ok (.invokespecial 31, 3) := DX4_init_0 (39, .invokespecial 31, 3) (List.mem_of_getElem? (i := 19) rfl)
theorem dX4_init_42 : decode cX4_init 42 = .ok (.putfield 32, 3) := DX4_init_0 (42, .putfield 32, 3) (List.mem_of_getElem? (i := 20) rfl)
theorem dX4_init_45 : decode cX4_init 45 = .ok (.aload_n 0, 1) := DX4_init_0 (45, .aload_n 0, 1) (List.mem_of_getElem? (i := 21) rfl)
theorem dX4_init_46 : decode cX4_init 46 = .ok (.sipush 180, 3) := DX4_init_0 (46, .sipush 180, 3) (List.mem_of_getElem? (i := 22) rfl)
theorem dX4_init_49 : decode cX4_init 49 = .ok (.newarray .int, 2) := DX4_init_0 (49, .newarray .int, 2) (List.mem_of_getElem? (i := 23) rfl)
theorem dX4_init_51 : decode cX4_init 51 = .ok (.putfield 36, 3) := DX4_init_0 (51, .putfield 36, 3) (List.mem_of_getElem? (i := 24) rfl)
theorem dX4_init_54 : decode cX4_init 54 = .ok (.aload_n 0, 1) := DX4_init_0 (54, .aload_n 0, 1) (List.mem_of_getElem? (i := 25) rfl)
theorem dX4_init_55 : decode cX4_init 55 = .ok (.sipush 180, 3) := DX4_init_0 (55, .sipush 180, 3) (List.mem_of_getElem? (i := 26) rfl)
theorem dX4_init_58 : decode cX4_init 58 = .ok (.newarray .int, 2) := DX4_init_0 (58, .newarray .int, 2) (List.mem_of_getElem? (i := 27) rfl)
theorem dX4_init_60 : decode cX4_init 60 = .ok (.putfield 39, 3) := DX4_init_0 (60, .putfield 39, 3) (List.mem_of_getElem? (i := 28) rfl)
theorem dX4_init_63 : decode cX4_init 63 = .ok (.aload_n 0, 1) := DX4_init_0 (63, .aload_n 0, 1) (List.mem_of_getElem? (i := 29) rfl)
theorem dX4_init_64 : decode cX4_init 64 = .ok (.sipush 180, 3) := DX4_init_0 (64, .sipush 180, 3) (List.mem_of_getElem? (i := 30) rfl)
theorem dX4_init_67 : decode cX4_init 67 = .ok (.newarray .int, 2) := DX4_init_0 (67, .newarray .int, 2) (List.mem_of_getElem? (i := 31) rfl)
theorem dX4_init_69 : decode cX4_init 69 = .ok (.putfield 42, 3) := DX4_init_0 (69, .putfield 42, 3) (List.mem_of_getElem? (i := 32) rfl)
theorem dX4_init_72 : decode cX4_init 72 = .ok (.aload_n 0, 1) := DX4_init_0 (72, .aload_n 0, 1) (List.mem_of_getElem? (i := 33) rfl)
theorem dX4_init_73 : decode cX4_init 73 = .ok (.bipush 10, 2) := DX4_init_0 (73, .bipush 10, 2) (List.mem_of_getElem? (i := 34) rfl)
theorem dX4_init_75 : decode cX4_init 75 = .ok (.newarray .int, 2) := DX4_init_0 (75, .newarray .int, 2) (List.mem_of_getElem? (i := 35) rfl)
theorem dX4_init_77 : decode cX4_init 77 = .ok (.putfield 45, 3) := DX4_init_0 (77, .putfield 45, 3) (List.mem_of_getElem? (i := 36) rfl)
theorem dX4_init_80 : decode cX4_init 80 = .ok (.aload_n 0, 1) := DX4_init_0 (80, .aload_n 0, 1) (List.mem_of_getElem? (i := 37) rfl)
theorem dX4_init_81 : decode cX4_init 81 = .ok (.invokevirtual 48, 3) := DX4_init_0 (81, .invokevirtual 48, 3) (List.mem_of_getElem? (i := 38) rfl)
theorem dX4_init_84 : decode cX4_init 84 = .ok (.return_, 1) := DX4_init_0 (84, .return_, 1) (List.mem_of_getElem? (i := 39) rfl)
abbrev rmX4_init : Room := { frames := 2, cells := 23, slots := 2028, locals := 50 }
set_option maxHeartbeats 4000000 in
set_option maxRecDepth 100000 in
theorem ini_X4 (l : Launch) (D : va_G) (kA : Nat → ClassId) (h0 sz : Nat) : MN l yX4_init cX4_init 1 rmX4_init D kA h0 sz 4 [vI 0, vI 0, vI 0, vI 0, .null, .null, .null, .null, .null, .null, .null, .null] [] 23 2028 (fun w => ∃ a : Nat → Nat, a 0 = h0 ∧ w = cs_X4 kA a z0_X4) := by
  refine zNstart (own := RX4) rfl rfl rfl (Nat.le_of_ble_eq_true rfl) ?_
  intro p e s m args below meth c ls Q hC hK hP hD hin hl hret
  have hl : lv_has ls 1 [(0, .ref h0)] := hl
  have hS : va_S (zU h0 s.heap.size) s.heap s.heap [] := va_S.rf
  have hA : ∀ q, s.heap.size ≤ q → zU h0 s.heap.size q := fun q h => Or.inr h
  refine lv_aload_n hC.1 hC.2.1 dX4_init_0 rfl (lv_at hl 0 rfl) ?_
  refine zobj hC qw_36 hl.1 dX4_init_1 (Nat.le_of_ble_eq_true rfl) (Nat.le_of_ble_eq_true rfl) ?_
  refine lv_aload_n hC.1 hC.2.1 dX4_init_4 rfl (lv_at hl 0 rfl) ?_
  refine zbipush hC.1 hC.2.1 dX4_init_5 (by decide) ?_
  refine jnewT (atype := .int) (ty := .int) 0 qw_62 rfl rfl hC hK hP hD hS hA (a0 := (10, .inl (aI (fun _ => 0)))) (fun _ => rfl) (by decide) (Nat.le_of_ble_eq_true rfl) (Nat.le_of_ble_eq_true rfl) (Nat.le_of_ble_eq_true rfl) dX4_init_7 (fun q1 H hP hD hS => ?_)
  have hP : va_P D vwCl ([(h0, .inr (4, [vI 0, vI 0, vI 0, vI 0, .null, .null, .null, .null, .null, .null, .null, .null]))] ++ [(q1, .inl (kA 0, 10, .inl (aI (fun _ => 0))))]) H := hP
  have hD : va_D (zU h0 s.heap.size) ([(h0, .inr (4, [vI 0, vI 0, vI 0, vI 0, .null, .null, .null, .null, .null, .null, .null, .null]))] ++ [(q1, .inl (kA 0, 10, .inl (aI (fun _ => 0))))]) := hD
  refine va_putF (D := D) (ci := 4) (v := .ref q1) (ty := .array .int) (C := RX4) (T := TX4) (N := 12) hC.1 hC.2.1 hC.2.2.2.2 uin_X4 tyX4 tyX4_ok nmX4 hC.2.2.2.1 hK.1 hP hD hS 0 rfl rfl 4 (by decide) (hC.2.2.2.2 _ qw_156) (fun _ h => h) rfl hin rfl (by decide +kernel) rfl rfl (Nat.le_of_ble_eq_true rfl) dX4_init_9 (fun H locs hP hD hS => ?_)
  have hP : va_P D vwCl ([(h0, .inr (4, [vI 0, vI 0, vI 0, vI 0, .ref q1, .null, .null, .null, .null, .null, .null, .null]))] ++ [(q1, .inl (kA 0, 10, .inl (aI (fun _ => 0))))]) H := hP
  have hD : va_D (zU h0 s.heap.size) ([(h0, .inr (4, [vI 0, vI 0, vI 0, vI 0, .ref q1, .null, .null, .null, .null, .null, .null, .null]))] ++ [(q1, .inl (kA 0, 10, .inl (aI (fun _ => 0))))]) := hD
  refine lv_aload_n hC.1 hC.2.1 dX4_init_12 rfl (lv_at hl 0 rfl) ?_
  refine va_new (ci := 1) (fs := [vI 0, .null, .null, .null]) (C := RX1) (T := TX1) (N := 4) hC.1 hC.2.1 hC.2.2.2.2 uin_X1 tyX1 tyX1_ok hC.2.2.2.1 (hC.2.2.2.2 _ qw_37) (hC.2.2.2.2 _ qw_38) (hC.2.2.2.2 _ qw_3) hK.1 hP hD hS hA rfl (fun j hj => by rcases (show j = 0 ∨ j = 1 ∨ j = 2 ∨ j = 3 by omega) with rfl | rfl | rfl | rfl <;> rfl) (Nat.le_of_ble_eq_true rfl) (Nat.le_of_ble_eq_true rfl) dX4_init_13 (fun q2 H hP hD hS => ?_)
  have hP : va_P D vwCl (([(h0, .inr (4, [vI 0, vI 0, vI 0, vI 0, .ref q1, .null, .null, .null, .null, .null, .null, .null]))] ++ [(q1, .inl (kA 0, 10, .inl (aI (fun _ => 0))))]) ++ [(q2, .inr (1, [vI 0, .null, .null, .null]))]) H := hP
  have hD : va_D (zU h0 s.heap.size) (([(h0, .inr (4, [vI 0, vI 0, vI 0, vI 0, .ref q1, .null, .null, .null, .null, .null, .null, .null]))] ++ [(q1, .inl (kA 0, 10, .inl (aI (fun _ => 0))))]) ++ [(q2, .inr (1, [vI 0, .null, .null, .null]))]) := hD
  refine lv_dup hC.1 hC.2.1 dX4_init_16 rfl ?_
  refine zcNew (idx := 0) (k := 0) (As := []) (rest := [.ref q2, .ref h0]) (n := 1) hC hK (ini_X1 l D kA q2 H.size) hP hD hS hA (fun hM hp => va_runIN (host := "AidRegister") hC hM ⟨va_cnB (Ts := lw_all) (ws' := lw_all) 0 hC.2.2.2.2 (good_ws qw_41) rfl rfl rfl (hK.2 _ znX4_17) (hC.2.2.2.2 _ qw_3) (by decide +kernel) ⟨(Nat.le_of_ble_eq_true rfl), (Nat.le_of_ble_eq_true rfl)⟩, rfl, hC.2.2.2.2 _ qw_40⟩ hp rfl rfl hl.1 rfl (lv_room (Nat.le_of_ble_eq_true rfl)) dX4_init_17 ⟨(Nat.le_of_ble_eq_true rfl), (Nat.le_of_ble_eq_true rfl)⟩) (fun w H locs hw hP hD hS => ?_)
  obtain ⟨a2, rfl, rfl⟩ := hw
  have hP : va_P D vwCl (([(h0, .inr (4, [vI 0, vI 0, vI 0, vI 0, .ref q1, .null, .null, .null, .null, .null, .null, .null]))] ++ [(q1, .inl (kA 0, 10, .inl (aI (fun _ => 0))))]) ++ cs_X1 kA a2 (fun _ _ => 0)) H := hP
  have hD : va_D (zU h0 s.heap.size) (([(h0, .inr (4, [vI 0, vI 0, vI 0, vI 0, .ref q1, .null, .null, .null, .null, .null, .null, .null]))] ++ [(q1, .inl (kA 0, 10, .inl (aI (fun _ => 0))))]) ++ cs_X1 kA a2 (fun _ _ => 0)) := hD
  refine va_putF (D := D) (ci := 4) (v := .ref (a2 0)) (ty := .object "AidRegister$Declarations") (C := RX4) (T := TX4) (N := 12) hC.1 hC.2.1 hC.2.2.2.2 uin_X4 tyX4 tyX4_ok nmX4 hC.2.2.2.1 hK.1 hP hD hS 0 rfl rfl 5 (by decide) (hC.2.2.2.2 _ qw_158) (fun _ h => h) rfl hin rfl (by decide +kernel) rfl rfl (Nat.le_of_ble_eq_true rfl) dX4_init_20 (fun H locs hP hD hS => ?_)
  have hP : va_P D vwCl (([(h0, .inr (4, [vI 0, vI 0, vI 0, vI 0, .ref q1, .ref (a2 0), .null, .null, .null, .null, .null, .null]))] ++ [(q1, .inl (kA 0, 10, .inl (aI (fun _ => 0))))]) ++ cs_X1 kA a2 (fun _ _ => 0)) H := hP
  have hD : va_D (zU h0 s.heap.size) (([(h0, .inr (4, [vI 0, vI 0, vI 0, vI 0, .ref q1, .ref (a2 0), .null, .null, .null, .null, .null, .null]))] ++ [(q1, .inl (kA 0, 10, .inl (aI (fun _ => 0))))]) ++ cs_X1 kA a2 (fun _ _ => 0)) := hD
  refine lv_aload_n hC.1 hC.2.1 dX4_init_23 rfl (lv_at hl 0 rfl) ?_
  refine va_new (ci := 3) (fs := [vI 0, .null, .null, .null, .null, .null, .null, .null, .null, .null, .null, .null]) (C := RX3) (T := TX3) (N := 12) hC.1 hC.2.1 hC.2.2.2.2 uin_X3 tyX3 tyX3_ok hC.2.2.2.1 (hC.2.2.2.2 _ qw_63) (hC.2.2.2.2 _ qw_64) (hC.2.2.2.2 _ qw_4) hK.1 hP hD hS hA rfl (fun j hj => by rcases (show j = 0 ∨ j = 1 ∨ j = 2 ∨ j = 3 ∨ j = 4 ∨ j = 5 ∨ j = 6 ∨ j = 7 ∨ j = 8 ∨ j = 9 ∨ j = 10 ∨ j = 11 by omega) with rfl | rfl | rfl | rfl | rfl | rfl | rfl | rfl | rfl | rfl | rfl | rfl <;> rfl) (Nat.le_of_ble_eq_true rfl) (Nat.le_of_ble_eq_true rfl) dX4_init_24 (fun q3 H hP hD hS => ?_)
  have hP : va_P D vwCl ((([(h0, .inr (4, [vI 0, vI 0, vI 0, vI 0, .ref q1, .ref (a2 0), .null, .null, .null, .null, .null, .null]))] ++ [(q1, .inl (kA 0, 10, .inl (aI (fun _ => 0))))]) ++ cs_X1 kA a2 (fun _ _ => 0)) ++ [(q3, .inr (3, [vI 0, .null, .null, .null, .null, .null, .null, .null, .null, .null, .null, .null]))]) H := hP
  have hD : va_D (zU h0 s.heap.size) ((([(h0, .inr (4, [vI 0, vI 0, vI 0, vI 0, .ref q1, .ref (a2 0), .null, .null, .null, .null, .null, .null]))] ++ [(q1, .inl (kA 0, 10, .inl (aI (fun _ => 0))))]) ++ cs_X1 kA a2 (fun _ _ => 0)) ++ [(q3, .inr (3, [vI 0, .null, .null, .null, .null, .null, .null, .null, .null, .null, .null, .null]))]) := hD
  refine lv_dup hC.1 hC.2.1 dX4_init_27 rfl ?_
  refine zcNew (idx := 0) (k := 0) (As := []) (rest := [.ref q3, .ref h0]) (n := 1) hC hK (ini_X3 l D kA q3 H.size) hP hD hS hA (fun hM hp => va_runIN (host := "AidRegister") hC hM ⟨va_cnB (Ts := lw_all) (ws' := lw_all) 0 hC.2.2.2.2 (good_ws qw_67) rfl rfl rfl (hK.2 _ znX4_24) (hC.2.2.2.2 _ qw_4) (by decide +kernel) ⟨(Nat.le_of_ble_eq_true rfl), (Nat.le_of_ble_eq_true rfl)⟩, rfl, hC.2.2.2.2 _ qw_66⟩ hp rfl rfl hl.1 rfl (lv_room (Nat.le_of_ble_eq_true rfl)) dX4_init_28 ⟨(Nat.le_of_ble_eq_true rfl), (Nat.le_of_ble_eq_true rfl)⟩) (fun w H locs hw hP hD hS => ?_)
  obtain ⟨a3, rfl, rfl⟩ := hw
  have hP : va_P D vwCl ((([(h0, .inr (4, [vI 0, vI 0, vI 0, vI 0, .ref q1, .ref (a2 0), .null, .null, .null, .null, .null, .null]))] ++ [(q1, .inl (kA 0, 10, .inl (aI (fun _ => 0))))]) ++ cs_X1 kA a2 (fun _ _ => 0)) ++ cs_X3 kA a3 (fun _ _ => 0)) H := hP
  have hD : va_D (zU h0 s.heap.size) ((([(h0, .inr (4, [vI 0, vI 0, vI 0, vI 0, .ref q1, .ref (a2 0), .null, .null, .null, .null, .null, .null]))] ++ [(q1, .inl (kA 0, 10, .inl (aI (fun _ => 0))))]) ++ cs_X1 kA a2 (fun _ _ => 0)) ++ cs_X3 kA a3 (fun _ _ => 0)) := hD
  refine va_putF (D := D) (ci := 4) (v := .ref (a3 0)) (ty := .object "AidRegister$Gifts") (C := RX4) (T := TX4) (N := 12) hC.1 hC.2.1 hC.2.2.2.2 uin_X4 tyX4 tyX4_ok nmX4 hC.2.2.2.1 hK.1 hP hD hS 0 rfl rfl 6 (by decide) (hC.2.2.2.2 _ qw_161) (fun _ h => h) rfl hin rfl (by decide +kernel) rfl rfl (Nat.le_of_ble_eq_true rfl) dX4_init_31 (fun H locs hP hD hS => ?_)
  have hP : va_P D vwCl ((([(h0, .inr (4, [vI 0, vI 0, vI 0, vI 0, .ref q1, .ref (a2 0), .ref (a3 0), .null, .null, .null, .null, .null]))] ++ [(q1, .inl (kA 0, 10, .inl (aI (fun _ => 0))))]) ++ cs_X1 kA a2 (fun _ _ => 0)) ++ cs_X3 kA a3 (fun _ _ => 0)) H := hP
  have hD : va_D (zU h0 s.heap.size) ((([(h0, .inr (4, [vI 0, vI 0, vI 0, vI 0, .ref q1, .ref (a2 0), .ref (a3 0), .null, .null, .null, .null, .null]))] ++ [(q1, .inl (kA 0, 10, .inl (aI (fun _ => 0))))]) ++ cs_X1 kA a2 (fun _ _ => 0)) ++ cs_X3 kA a3 (fun _ _ => 0)) := hD
  refine lv_aload_n hC.1 hC.2.1 dX4_init_34 rfl (lv_at hl 0 rfl) ?_
  refine va_new (ci := 0) (fs := [vI 0, .null]) (C := RX0) (T := TX0) (N := 2) hC.1 hC.2.1 hC.2.2.2.2 uin_X0 tyX0 tyX0_ok hC.2.2.2.1 (hC.2.2.2.2 _ qw_124) (hC.2.2.2.2 _ qw_125) (hC.2.2.2.2 _ qw_5) hK.1 hP hD hS hA rfl (fun j hj => by rcases (show j = 0 ∨ j = 1 by omega) with rfl | rfl <;> rfl) (Nat.le_of_ble_eq_true rfl) (Nat.le_of_ble_eq_true rfl) dX4_init_35 (fun q4 H hP hD hS => ?_)
  have hP : va_P D vwCl (((([(h0, .inr (4, [vI 0, vI 0, vI 0, vI 0, .ref q1, .ref (a2 0), .ref (a3 0), .null, .null, .null, .null, .null]))] ++ [(q1, .inl (kA 0, 10, .inl (aI (fun _ => 0))))]) ++ cs_X1 kA a2 (fun _ _ => 0)) ++ cs_X3 kA a3 (fun _ _ => 0)) ++ [(q4, .inr (0, [vI 0, .null]))]) H := hP
  have hD : va_D (zU h0 s.heap.size) (((([(h0, .inr (4, [vI 0, vI 0, vI 0, vI 0, .ref q1, .ref (a2 0), .ref (a3 0), .null, .null, .null, .null, .null]))] ++ [(q1, .inl (kA 0, 10, .inl (aI (fun _ => 0))))]) ++ cs_X1 kA a2 (fun _ _ => 0)) ++ cs_X3 kA a3 (fun _ _ => 0)) ++ [(q4, .inr (0, [vI 0, .null]))]) := hD
  refine lv_dup hC.1 hC.2.1 dX4_init_38 rfl ?_
  refine zcNew (idx := 0) (k := 0) (As := []) (rest := [.ref q4, .ref h0]) (n := 1) hC hK (ini_X0 l D kA q4 H.size) hP hD hS hA (fun hM hp => va_runIN (host := "AidRegister") hC hM ⟨va_cnB (Ts := lw_all) (ws' := lw_all) 0 hC.2.2.2.2 (good_ws qw_128) rfl rfl rfl (hK.2 _ znX4_31) (hC.2.2.2.2 _ qw_5) (by decide +kernel) ⟨(Nat.le_of_ble_eq_true rfl), (Nat.le_of_ble_eq_true rfl)⟩, rfl, hC.2.2.2.2 _ qw_127⟩ hp rfl rfl hl.1 rfl (lv_room (Nat.le_of_ble_eq_true rfl)) dX4_init_39 ⟨(Nat.le_of_ble_eq_true rfl), (Nat.le_of_ble_eq_true rfl)⟩) (fun w H locs hw hP hD hS => ?_)
  obtain ⟨a4, rfl, rfl⟩ := hw
  have hP : va_P D vwCl (((([(h0, .inr (4, [vI 0, vI 0, vI 0, vI 0, .ref q1, .ref (a2 0), .ref (a3 0), .null, .null, .null, .null, .null]))] ++ [(q1, .inl (kA 0, 10, .inl (aI (fun _ => 0))))]) ++ cs_X1 kA a2 (fun _ _ => 0)) ++ cs_X3 kA a3 (fun _ _ => 0)) ++ cs_X0 kA a4 (fun _ _ => 0)) H := hP
  have hD : va_D (zU h0 s.heap.size) (((([(h0, .inr (4, [vI 0, vI 0, vI 0, vI 0, .ref q1, .ref (a2 0), .ref (a3 0), .null, .null, .null, .null, .null]))] ++ [(q1, .inl (kA 0, 10, .inl (aI (fun _ => 0))))]) ++ cs_X1 kA a2 (fun _ _ => 0)) ++ cs_X3 kA a3 (fun _ _ => 0)) ++ cs_X0 kA a4 (fun _ _ => 0)) := hD
  refine va_putF (D := D) (ci := 4) (v := .ref (a4 0)) (ty := .object "AidRegister$Claims") (C := RX4) (T := TX4) (N := 12) hC.1 hC.2.1 hC.2.2.2.2 uin_X4 tyX4 tyX4_ok nmX4 hC.2.2.2.1 hK.1 hP hD hS 0 rfl rfl 7 (by decide) (hC.2.2.2.2 _ qw_164) (fun _ h => h) rfl hin rfl (by decide +kernel) rfl rfl (Nat.le_of_ble_eq_true rfl) dX4_init_42 (fun H locs hP hD hS => ?_)
  have hP : va_P D vwCl (((([(h0, .inr (4, [vI 0, vI 0, vI 0, vI 0, .ref q1, .ref (a2 0), .ref (a3 0), .ref (a4 0), .null, .null, .null, .null]))] ++ [(q1, .inl (kA 0, 10, .inl (aI (fun _ => 0))))]) ++ cs_X1 kA a2 (fun _ _ => 0)) ++ cs_X3 kA a3 (fun _ _ => 0)) ++ cs_X0 kA a4 (fun _ _ => 0)) H := hP
  have hD : va_D (zU h0 s.heap.size) (((([(h0, .inr (4, [vI 0, vI 0, vI 0, vI 0, .ref q1, .ref (a2 0), .ref (a3 0), .ref (a4 0), .null, .null, .null, .null]))] ++ [(q1, .inl (kA 0, 10, .inl (aI (fun _ => 0))))]) ++ cs_X1 kA a2 (fun _ _ => 0)) ++ cs_X3 kA a3 (fun _ _ => 0)) ++ cs_X0 kA a4 (fun _ _ => 0)) := hD
  refine lv_aload_n hC.1 hC.2.1 dX4_init_45 rfl (lv_at hl 0 rfl) ?_
  refine zsipush hC.1 hC.2.1 dX4_init_46 (by decide) ?_
  refine jnewT (atype := .int) (ty := .int) 0 qw_62 rfl rfl hC hK hP hD hS hA (a0 := (180, .inl (aI (fun _ => 0)))) (fun _ => rfl) (by decide) (Nat.le_of_ble_eq_true rfl) (Nat.le_of_ble_eq_true rfl) (Nat.le_of_ble_eq_true rfl) dX4_init_49 (fun q5 H hP hD hS => ?_)
  have hP : va_P D vwCl ((((([(h0, .inr (4, [vI 0, vI 0, vI 0, vI 0, .ref q1, .ref (a2 0), .ref (a3 0), .ref (a4 0), .null, .null, .null, .null]))] ++ [(q1, .inl (kA 0, 10, .inl (aI (fun _ => 0))))]) ++ cs_X1 kA a2 (fun _ _ => 0)) ++ cs_X3 kA a3 (fun _ _ => 0)) ++ cs_X0 kA a4 (fun _ _ => 0)) ++ [(q5, .inl (kA 0, 180, .inl (aI (fun _ => 0))))]) H := hP
  have hD : va_D (zU h0 s.heap.size) ((((([(h0, .inr (4, [vI 0, vI 0, vI 0, vI 0, .ref q1, .ref (a2 0), .ref (a3 0), .ref (a4 0), .null, .null, .null, .null]))] ++ [(q1, .inl (kA 0, 10, .inl (aI (fun _ => 0))))]) ++ cs_X1 kA a2 (fun _ _ => 0)) ++ cs_X3 kA a3 (fun _ _ => 0)) ++ cs_X0 kA a4 (fun _ _ => 0)) ++ [(q5, .inl (kA 0, 180, .inl (aI (fun _ => 0))))]) := hD
  refine va_putF (D := D) (ci := 4) (v := .ref q5) (ty := .array .int) (C := RX4) (T := TX4) (N := 12) hC.1 hC.2.1 hC.2.2.2.2 uin_X4 tyX4 tyX4_ok nmX4 hC.2.2.2.1 hK.1 hP hD hS 0 rfl rfl 8 (by decide) (hC.2.2.2.2 _ qw_166) (fun _ h => h) rfl hin rfl (by decide +kernel) rfl rfl (Nat.le_of_ble_eq_true rfl) dX4_init_51 (fun H locs hP hD hS => ?_)
  have hP : va_P D vwCl ((((([(h0, .inr (4, [vI 0, vI 0, vI 0, vI 0, .ref q1, .ref (a2 0), .ref (a3 0), .ref (a4 0), .ref q5, .null, .null, .null]))] ++ [(q1, .inl (kA 0, 10, .inl (aI (fun _ => 0))))]) ++ cs_X1 kA a2 (fun _ _ => 0)) ++ cs_X3 kA a3 (fun _ _ => 0)) ++ cs_X0 kA a4 (fun _ _ => 0)) ++ [(q5, .inl (kA 0, 180, .inl (aI (fun _ => 0))))]) H := hP
  have hD : va_D (zU h0 s.heap.size) ((((([(h0, .inr (4, [vI 0, vI 0, vI 0, vI 0, .ref q1, .ref (a2 0), .ref (a3 0), .ref (a4 0), .ref q5, .null, .null, .null]))] ++ [(q1, .inl (kA 0, 10, .inl (aI (fun _ => 0))))]) ++ cs_X1 kA a2 (fun _ _ => 0)) ++ cs_X3 kA a3 (fun _ _ => 0)) ++ cs_X0 kA a4 (fun _ _ => 0)) ++ [(q5, .inl (kA 0, 180, .inl (aI (fun _ => 0))))]) := hD
  refine lv_aload_n hC.1 hC.2.1 dX4_init_54 rfl (lv_at hl 0 rfl) ?_
  refine zsipush hC.1 hC.2.1 dX4_init_55 (by decide) ?_
  refine jnewT (atype := .int) (ty := .int) 0 qw_62 rfl rfl hC hK hP hD hS hA (a0 := (180, .inl (aI (fun _ => 0)))) (fun _ => rfl) (by decide) (Nat.le_of_ble_eq_true rfl) (Nat.le_of_ble_eq_true rfl) (Nat.le_of_ble_eq_true rfl) dX4_init_58 (fun q6 H hP hD hS => ?_)
  have hP : va_P D vwCl (((((([(h0, .inr (4, [vI 0, vI 0, vI 0, vI 0, .ref q1, .ref (a2 0), .ref (a3 0), .ref (a4 0), .ref q5, .null, .null, .null]))] ++ [(q1, .inl (kA 0, 10, .inl (aI (fun _ => 0))))]) ++ cs_X1 kA a2 (fun _ _ => 0)) ++ cs_X3 kA a3 (fun _ _ => 0)) ++ cs_X0 kA a4 (fun _ _ => 0)) ++ [(q5, .inl (kA 0, 180, .inl (aI (fun _ => 0))))]) ++ [(q6, .inl (kA 0, 180, .inl (aI (fun _ => 0))))]) H := hP
  have hD : va_D (zU h0 s.heap.size) (((((([(h0, .inr (4, [vI 0, vI 0, vI 0, vI 0, .ref q1, .ref (a2 0), .ref (a3 0), .ref (a4 0), .ref q5, .null, .null, .null]))] ++ [(q1, .inl (kA 0, 10, .inl (aI (fun _ => 0))))]) ++ cs_X1 kA a2 (fun _ _ => 0)) ++ cs_X3 kA a3 (fun _ _ => 0)) ++ cs_X0 kA a4 (fun _ _ => 0)) ++ [(q5, .inl (kA 0, 180, .inl (aI (fun _ => 0))))]) ++ [(q6, .inl (kA 0, 180, .inl (aI (fun _ => 0))))]) := hD
  refine va_putF (D := D) (ci := 4) (v := .ref q6) (ty := .array .int) (C := RX4) (T := TX4) (N := 12) hC.1 hC.2.1 hC.2.2.2.2 uin_X4 tyX4 tyX4_ok nmX4 hC.2.2.2.1 hK.1 hP hD hS 0 rfl rfl 9 (by decide) (hC.2.2.2.2 _ qw_167) (fun _ h => h) rfl hin rfl (by decide +kernel) rfl rfl (Nat.le_of_ble_eq_true rfl) dX4_init_60 (fun H locs hP hD hS => ?_)
  have hP : va_P D vwCl (((((([(h0, .inr (4, [vI 0, vI 0, vI 0, vI 0, .ref q1, .ref (a2 0), .ref (a3 0), .ref (a4 0), .ref q5, .ref q6, .null, .null]))] ++ [(q1, .inl (kA 0, 10, .inl (aI (fun _ => 0))))]) ++ cs_X1 kA a2 (fun _ _ => 0)) ++ cs_X3 kA a3 (fun _ _ => 0)) ++ cs_X0 kA a4 (fun _ _ => 0)) ++ [(q5, .inl (kA 0, 180, .inl (aI (fun _ => 0))))]) ++ [(q6, .inl (kA 0, 180, .inl (aI (fun _ => 0))))]) H := hP
  have hD : va_D (zU h0 s.heap.size) (((((([(h0, .inr (4, [vI 0, vI 0, vI 0, vI 0, .ref q1, .ref (a2 0), .ref (a3 0), .ref (a4 0), .ref q5, .ref q6, .null, .null]))] ++ [(q1, .inl (kA 0, 10, .inl (aI (fun _ => 0))))]) ++ cs_X1 kA a2 (fun _ _ => 0)) ++ cs_X3 kA a3 (fun _ _ => 0)) ++ cs_X0 kA a4 (fun _ _ => 0)) ++ [(q5, .inl (kA 0, 180, .inl (aI (fun _ => 0))))]) ++ [(q6, .inl (kA 0, 180, .inl (aI (fun _ => 0))))]) := hD
  refine lv_aload_n hC.1 hC.2.1 dX4_init_63 rfl (lv_at hl 0 rfl) ?_
  refine zsipush hC.1 hC.2.1 dX4_init_64 (by decide) ?_
  refine jnewT (atype := .int) (ty := .int) 0 qw_62 rfl rfl hC hK hP hD hS hA (a0 := (180, .inl (aI (fun _ => 0)))) (fun _ => rfl) (by decide) (Nat.le_of_ble_eq_true rfl) (Nat.le_of_ble_eq_true rfl) (Nat.le_of_ble_eq_true rfl) dX4_init_67 (fun q7 H hP hD hS => ?_)
  have hP : va_P D vwCl ((((((([(h0, .inr (4, [vI 0, vI 0, vI 0, vI 0, .ref q1, .ref (a2 0), .ref (a3 0), .ref (a4 0), .ref q5, .ref q6, .null, .null]))] ++ [(q1, .inl (kA 0, 10, .inl (aI (fun _ => 0))))]) ++ cs_X1 kA a2 (fun _ _ => 0)) ++ cs_X3 kA a3 (fun _ _ => 0)) ++ cs_X0 kA a4 (fun _ _ => 0)) ++ [(q5, .inl (kA 0, 180, .inl (aI (fun _ => 0))))]) ++ [(q6, .inl (kA 0, 180, .inl (aI (fun _ => 0))))]) ++ [(q7, .inl (kA 0, 180, .inl (aI (fun _ => 0))))]) H := hP
  have hD : va_D (zU h0 s.heap.size) ((((((([(h0, .inr (4, [vI 0, vI 0, vI 0, vI 0, .ref q1, .ref (a2 0), .ref (a3 0), .ref (a4 0), .ref q5, .ref q6, .null, .null]))] ++ [(q1, .inl (kA 0, 10, .inl (aI (fun _ => 0))))]) ++ cs_X1 kA a2 (fun _ _ => 0)) ++ cs_X3 kA a3 (fun _ _ => 0)) ++ cs_X0 kA a4 (fun _ _ => 0)) ++ [(q5, .inl (kA 0, 180, .inl (aI (fun _ => 0))))]) ++ [(q6, .inl (kA 0, 180, .inl (aI (fun _ => 0))))]) ++ [(q7, .inl (kA 0, 180, .inl (aI (fun _ => 0))))]) := hD
  refine va_putF (D := D) (ci := 4) (v := .ref q7) (ty := .array .int) (C := RX4) (T := TX4) (N := 12) hC.1 hC.2.1 hC.2.2.2.2 uin_X4 tyX4 tyX4_ok nmX4 hC.2.2.2.1 hK.1 hP hD hS 0 rfl rfl 10 (by decide) (hC.2.2.2.2 _ qw_169) (fun _ h => h) rfl hin rfl (by decide +kernel) rfl rfl (Nat.le_of_ble_eq_true rfl) dX4_init_69 (fun H locs hP hD hS => ?_)
  have hP : va_P D vwCl ((((((([(h0, .inr (4, [vI 0, vI 0, vI 0, vI 0, .ref q1, .ref (a2 0), .ref (a3 0), .ref (a4 0), .ref q5, .ref q6, .ref q7, .null]))] ++ [(q1, .inl (kA 0, 10, .inl (aI (fun _ => 0))))]) ++ cs_X1 kA a2 (fun _ _ => 0)) ++ cs_X3 kA a3 (fun _ _ => 0)) ++ cs_X0 kA a4 (fun _ _ => 0)) ++ [(q5, .inl (kA 0, 180, .inl (aI (fun _ => 0))))]) ++ [(q6, .inl (kA 0, 180, .inl (aI (fun _ => 0))))]) ++ [(q7, .inl (kA 0, 180, .inl (aI (fun _ => 0))))]) H := hP
  have hD : va_D (zU h0 s.heap.size) ((((((([(h0, .inr (4, [vI 0, vI 0, vI 0, vI 0, .ref q1, .ref (a2 0), .ref (a3 0), .ref (a4 0), .ref q5, .ref q6, .ref q7, .null]))] ++ [(q1, .inl (kA 0, 10, .inl (aI (fun _ => 0))))]) ++ cs_X1 kA a2 (fun _ _ => 0)) ++ cs_X3 kA a3 (fun _ _ => 0)) ++ cs_X0 kA a4 (fun _ _ => 0)) ++ [(q5, .inl (kA 0, 180, .inl (aI (fun _ => 0))))]) ++ [(q6, .inl (kA 0, 180, .inl (aI (fun _ => 0))))]) ++ [(q7, .inl (kA 0, 180, .inl (aI (fun _ => 0))))]) := hD
  refine lv_aload_n hC.1 hC.2.1 dX4_init_72 rfl (lv_at hl 0 rfl) ?_
  refine zbipush hC.1 hC.2.1 dX4_init_73 (by decide) ?_
  refine jnewT (atype := .int) (ty := .int) 0 qw_62 rfl rfl hC hK hP hD hS hA (a0 := (10, .inl (aI (fun _ => 0)))) (fun _ => rfl) (by decide) (Nat.le_of_ble_eq_true rfl) (Nat.le_of_ble_eq_true rfl) (Nat.le_of_ble_eq_true rfl) dX4_init_75 (fun q8 H hP hD hS => ?_)
  have hP : va_P D vwCl (((((((([(h0, .inr (4, [vI 0, vI 0, vI 0, vI 0, .ref q1, .ref (a2 0), .ref (a3 0), .ref (a4 0), .ref q5, .ref q6, .ref q7, .null]))] ++ [(q1, .inl (kA 0, 10, .inl (aI (fun _ => 0))))]) ++ cs_X1 kA a2 (fun _ _ => 0)) ++ cs_X3 kA a3 (fun _ _ => 0)) ++ cs_X0 kA a4 (fun _ _ => 0)) ++ [(q5, .inl (kA 0, 180, .inl (aI (fun _ => 0))))]) ++ [(q6, .inl (kA 0, 180, .inl (aI (fun _ => 0))))]) ++ [(q7, .inl (kA 0, 180, .inl (aI (fun _ => 0))))]) ++ [(q8, .inl (kA 0, 10, .inl (aI (fun _ => 0))))]) H := hP
  have hD : va_D (zU h0 s.heap.size) (((((((([(h0, .inr (4, [vI 0, vI 0, vI 0, vI 0, .ref q1, .ref (a2 0), .ref (a3 0), .ref (a4 0), .ref q5, .ref q6, .ref q7, .null]))] ++ [(q1, .inl (kA 0, 10, .inl (aI (fun _ => 0))))]) ++ cs_X1 kA a2 (fun _ _ => 0)) ++ cs_X3 kA a3 (fun _ _ => 0)) ++ cs_X0 kA a4 (fun _ _ => 0)) ++ [(q5, .inl (kA 0, 180, .inl (aI (fun _ => 0))))]) ++ [(q6, .inl (kA 0, 180, .inl (aI (fun _ => 0))))]) ++ [(q7, .inl (kA 0, 180, .inl (aI (fun _ => 0))))]) ++ [(q8, .inl (kA 0, 10, .inl (aI (fun _ => 0))))]) := hD
  refine va_putF (D := D) (ci := 4) (v := .ref q8) (ty := .array .int) (C := RX4) (T := TX4) (N := 12) hC.1 hC.2.1 hC.2.2.2.2 uin_X4 tyX4 tyX4_ok nmX4 hC.2.2.2.1 hK.1 hP hD hS 0 rfl rfl 11 (by decide) (hC.2.2.2.2 _ qw_171) (fun _ h => h) rfl hin rfl (by decide +kernel) rfl rfl (Nat.le_of_ble_eq_true rfl) dX4_init_77 (fun H locs hP hD hS => ?_)
  have hP : va_P D vwCl (((((((([(h0, .inr (4, [vI 0, vI 0, vI 0, vI 0, .ref q1, .ref (a2 0), .ref (a3 0), .ref (a4 0), .ref q5, .ref q6, .ref q7, .ref q8]))] ++ [(q1, .inl (kA 0, 10, .inl (aI (fun _ => 0))))]) ++ cs_X1 kA a2 (fun _ _ => 0)) ++ cs_X3 kA a3 (fun _ _ => 0)) ++ cs_X0 kA a4 (fun _ _ => 0)) ++ [(q5, .inl (kA 0, 180, .inl (aI (fun _ => 0))))]) ++ [(q6, .inl (kA 0, 180, .inl (aI (fun _ => 0))))]) ++ [(q7, .inl (kA 0, 180, .inl (aI (fun _ => 0))))]) ++ [(q8, .inl (kA 0, 10, .inl (aI (fun _ => 0))))]) H := hP
  have hD : va_D (zU h0 s.heap.size) (((((((([(h0, .inr (4, [vI 0, vI 0, vI 0, vI 0, .ref q1, .ref (a2 0), .ref (a3 0), .ref (a4 0), .ref q5, .ref q6, .ref q7, .ref q8]))] ++ [(q1, .inl (kA 0, 10, .inl (aI (fun _ => 0))))]) ++ cs_X1 kA a2 (fun _ _ => 0)) ++ cs_X3 kA a3 (fun _ _ => 0)) ++ cs_X0 kA a4 (fun _ _ => 0)) ++ [(q5, .inl (kA 0, 180, .inl (aI (fun _ => 0))))]) ++ [(q6, .inl (kA 0, 180, .inl (aI (fun _ => 0))))]) ++ [(q7, .inl (kA 0, 180, .inl (aI (fun _ => 0))))]) ++ [(q8, .inl (kA 0, 10, .inl (aI (fun _ => 0))))]) := hD
  refine lv_aload_n hC.1 hC.2.1 dX4_init_80 rfl (lv_at hl 0 rfl) ?_
  obtain ⟨a, ha⟩ : ∃ a : Nat → Nat, a = fun j => ([h0, q1, a2 0, a2 1, a2 2, a2 3, a3 0, a3 1, a3 2, a3 3, a3 4, a3 5, a3 6, a3 7, a3 8, a3 9, a3 10, a3 11, a4 0, a4 1, q5, q6, q7, q8] : List Nat).getD j 0 := ⟨_, rfl⟩
  have hP : va_P D vwCl (cs_X4 kA a z1_X4) H := by rw [ha]; exact hP
  have hD : va_D (zU h0 s.heap.size) (cs_X4 kA a z1_X4) := by rw [ha]; exact hD
  have hDt := zDany (C := fun V : Sz => cs_X4 kA a V) z1_X4 (fun _ => rfl) hD
  refine zcVZ (As := []) (rest := []) hC hK (met_X4_clear l D kA a z1_X4 (fun w => (hDt w).weaken (fun _ _ _ _ => trivial)) rfl) zwX4_48 hS (zFsub hD [0, 1, 2, 3, 4, 5, 6, 7, 8, 9, 10, 11, 12, 13, 14, 15, 16, 17, 18, 19, 20, 21, 22, 23] rfl) hP (q0 := 0) (by rw [ha]; rfl) rfl rfl rfl hl.1 (by rw [ha]; rfl) (Nat.le_of_ble_eq_true rfl) ⟨(Nat.le_of_ble_eq_true rfl), (Nat.le_of_ble_eq_true rfl)⟩ ⟨rfl, rfl⟩ ⟨(Nat.le_of_ble_eq_true rfl), (Nat.le_of_ble_eq_true rfl)⟩ dX4_init_81 (fun H locs hP1 hk1 hS => ?_)
  have hP : va_P D vwCl (cs_X4 kA a z0_X4) H := hP1
  exact hret _ _ _ _ _ _ _ (Nat.le_of_ble_eq_true rfl) (Nat.le_of_ble_eq_true rfl) ⟨a, by rw [ha]; rfl, rfl⟩ hP (hDt _) hS dX4_init_84
theorem DX6_init_0 : ∀ q ∈ ([(0, .aload_n 0, 1), (1, .invokespecial 3, 3), (4, .aload_n 0, 1), (5, .bipush 10, 2), (7, .newarray .long, 2), (9, .putfield 9, 3), (12, .aload_n 0, 1), (13, .aload_n 1, 1), (14, .putfield 15, 3), (17, .aload_n 0, 1), (18, .aload_n 2, 1), (19, .putfield 19, 3), (22, .return_, 1)] : List (Nat × Instr × Nat)), decode cX6_init q.1 = .ok q.2 := by decide +kernel
theorem dX6_init_0 : decode cX6_init 0 = .ok (.aload_n 0, 1) := DX6_init_0 (0, .aload_n 0, 1) (List.mem_of_getElem? (i := 0) rfl)
theorem dX6_init_1 : decode cX6_init 1 = .ok (.invokespecial 3, 3) := DX6_init_0 (1, .invokespecial 3, 3) (List.mem_of_getElem? (i := 1) rfl)
theorem dX6_init_4 : decode cX6_init 4 = .ok (.aload_n 0, 1) := DX6_init_0 (4, .aload_n 0, 1) (List.mem_of_getElem? (i := 2) rfl)
theorem dX6_init_5 : decode cX6_init 5 = .ok (.bipush 10, 2) := DX6_init_0 (5, .bipush 10, 2) (List.mem_of_getElem? (i := 3) rfl)
theorem dX6_init_7 : decode cX6_init 7 = .ok (.newarray .long, 2) := DX6_init_0 (7, .newarray .long, 2) (List.mem_of_getElem? (i := 4) rfl)
theorem dX6_init_9 : decode cX6_init 9 = .ok (.putfield 9, 3) := DX6_init_0 (9, .putfield 9, 3) (List.mem_of_getElem? (i := 5) rfl)
theorem dX6_init_12 : decode cX6_init 12 = .ok (.aload_n 0, 1) := DX6_init_0 (12, .aload_n 0, 1) (List.mem_of_getElem? (i := 6) rfl)
theorem dX6_init_13 : decode cX6_init 13 = .ok (.aload_n 1, 1) := DX6_init_0 (13, .aload_n 1, 1) (List.mem_of_getElem? (i := 7) rfl)
theorem dX6_init_14 : decode cX6_init 14 = .ok (.putfield 15, 3) := DX6_init_0 (14, .putfield 15, 3) (List.mem_of_getElem? (i := 8) rfl)
theorem dX6_init_17 : decode cX6_init 17 = .ok (.aload_n 0, 1) := DX6_init_0 (17, .aload_n 0, 1) (List.mem_of_getElem? (i := 9) rfl)
theorem dX6_init_18 : decode cX6_init 18 = .ok (.aload_n 2, 1) := DX6_init_0 (18, .aload_n 2, 1) (List.mem_of_getElem? (i := 10) rfl)
theorem dX6_init_19 : decode cX6_init 19 = .ok (.putfield 19, 3) := DX6_init_0 (19, .putfield 19, 3) (List.mem_of_getElem? (i := 11) rfl)
theorem dX6_init_22 : decode cX6_init 22 = .ok (.return_, 1) := DX6_init_0 (22, .return_, 1) (List.mem_of_getElem? (i := 12) rfl)
abbrev rmX6_init : Room := { frames := 1, cells := 1, slots := 10, locals := 30 }
set_option maxHeartbeats 4000000 in
set_option maxRecDepth 100000 in
theorem ini_X6 (l : Launch) (D : va_G) (kA : Nat → ClassId) (h0 sz : Nat) (e_text : Nat) (e_target : Nat) : MN l yX6_init cX6_init 3 rmX6_init D kA h0 sz 6 [vI 0, vI 0, .null, .null, vI 0, vI 0, vI 0, vI 0, vL 0, vI 0, .null] [.ref e_text, .ref e_target] 1 10 (fun w => ∃ a : Nat → Nat, a 0 = h0 ∧ w = cs_X6 kA a (fun _ _ => 0) (fun _ _ => 0) e_text e_target) := by
  refine zNstart (own := RX6) rfl rfl rfl (Nat.le_of_ble_eq_true rfl) ?_
  intro p e s m args below meth c ls Q hC hK hP hD hin hl hret
  have hl : lv_has ls 3 [(0, .ref h0), (1, .ref e_text), (2, .ref e_target)] := hl
  have hS : va_S (zU h0 s.heap.size) s.heap s.heap [] := va_S.rf
  have hA : ∀ q, s.heap.size ≤ q → zU h0 s.heap.size q := fun q h => Or.inr h
  refine lv_aload_n hC.1 hC.2.1 dX6_init_0 rfl (lv_at hl 0 rfl) ?_
  refine zobj hC qw_203 hl.1 dX6_init_1 (Nat.le_of_ble_eq_true rfl) (Nat.le_of_ble_eq_true rfl) ?_
  refine lv_aload_n hC.1 hC.2.1 dX6_init_4 rfl (lv_at hl 0 rfl) ?_
  refine zbipush hC.1 hC.2.1 dX6_init_5 (by decide) ?_
  refine jnewT (atype := .long) (ty := .long) 2 qw_240 rfl rfl hC hK hP hD hS hA (a0 := (10, .inr (.inl (aL (fun _ => 0))))) (fun _ => rfl) (by decide) (Nat.le_of_ble_eq_true rfl) (Nat.le_of_ble_eq_true rfl) (Nat.le_of_ble_eq_true rfl) dX6_init_7 (fun q1 H hP hD hS => ?_)
  have hP : va_P D vwCl ([(h0, .inr (6, [vI 0, vI 0, .null, .null, vI 0, vI 0, vI 0, vI 0, vL 0, vI 0, .null]))] ++ [(q1, .inl (kA 2, 10, .inr (.inl (aL (fun _ => 0)))))]) H := hP
  have hD : va_D (zU h0 s.heap.size) ([(h0, .inr (6, [vI 0, vI 0, .null, .null, vI 0, vI 0, vI 0, vI 0, vL 0, vI 0, .null]))] ++ [(q1, .inl (kA 2, 10, .inr (.inl (aL (fun _ => 0)))))]) := hD
  refine va_putF (D := D) (ci := 6) (v := .ref q1) (ty := .array .long) (C := RX6) (T := TX6) (N := 11) hC.1 hC.2.1 hC.2.2.2.2 uin_X6 tyX6 tyX6_ok nmX6 hC.2.2.2.1 hK.1 hP hD hS 0 rfl rfl 10 (by decide) (hC.2.2.2.2 _ qw_216) (fun _ h => h) rfl hin rfl (by decide +kernel) rfl rfl (Nat.le_of_ble_eq_true rfl) dX6_init_9 (fun H locs hP hD hS => ?_)
  have hP : va_P D vwCl ([(h0, .inr (6, [vI 0, vI 0, .null, .null, vI 0, vI 0, vI 0, vI 0, vL 0, vI 0, .ref q1]))] ++ [(q1, .inl (kA 2, 10, .inr (.inl (aL (fun _ => 0)))))]) H := hP
  have hD : va_D (zU h0 s.heap.size) ([(h0, .inr (6, [vI 0, vI 0, .null, .null, vI 0, vI 0, vI 0, vI 0, vL 0, vI 0, .ref q1]))] ++ [(q1, .inl (kA 2, 10, .inr (.inl (aL (fun _ => 0)))))]) := hD
  refine lv_aload_n hC.1 hC.2.1 dX6_init_12 rfl (lv_at hl 0 rfl) ?_
  refine lv_aload_n hC.1 hC.2.1 dX6_init_13 rfl (lv_at hl 1 rfl) ?_
  refine va_putF (D := D) (ci := 6) (v := .ref e_text) (ty := .array .byte) (C := RX6) (T := TX6) (N := 11) hC.1 hC.2.1 hC.2.2.2.2 uin_X6 tyX6 tyX6_ok nmX6 hC.2.2.2.1 hK.1 hP hD hS 0 rfl rfl 2 (by decide) (hC.2.2.2.2 _ qw_208) (fun _ h => h) rfl hin rfl (by decide +kernel) rfl rfl (Nat.le_of_ble_eq_true rfl) dX6_init_14 (fun H locs hP hD hS => ?_)
  have hP : va_P D vwCl ([(h0, .inr (6, [vI 0, vI 0, .ref e_text, .null, vI 0, vI 0, vI 0, vI 0, vL 0, vI 0, .ref q1]))] ++ [(q1, .inl (kA 2, 10, .inr (.inl (aL (fun _ => 0)))))]) H := hP
  have hD : va_D (zU h0 s.heap.size) ([(h0, .inr (6, [vI 0, vI 0, .ref e_text, .null, vI 0, vI 0, vI 0, vI 0, vL 0, vI 0, .ref q1]))] ++ [(q1, .inl (kA 2, 10, .inr (.inl (aL (fun _ => 0)))))]) := hD
  refine lv_aload_n hC.1 hC.2.1 dX6_init_17 rfl (lv_at hl 0 rfl) ?_
  refine lv_aload_n hC.1 hC.2.1 dX6_init_18 rfl (lv_at hl 2 rfl) ?_
  refine va_putF (D := D) (ci := 6) (v := .ref e_target) (ty := .object "AidRegister$Ledger") (C := RX6) (T := TX6) (N := 11) hC.1 hC.2.1 hC.2.2.2.2 uin_X6 tyX6 tyX6_ok nmX6 hC.2.2.2.1 hK.1 hP hD hS 0 rfl rfl 3 (by decide) (hC.2.2.2.2 _ qw_209) (fun _ h => h) rfl hin rfl (by decide +kernel) rfl rfl (Nat.le_of_ble_eq_true rfl) dX6_init_19 (fun H locs hP hD hS => ?_)
  have hP : va_P D vwCl ([(h0, .inr (6, [vI 0, vI 0, .ref e_text, .ref e_target, vI 0, vI 0, vI 0, vI 0, vL 0, vI 0, .ref q1]))] ++ [(q1, .inl (kA 2, 10, .inr (.inl (aL (fun _ => 0)))))]) H := hP
  have hD : va_D (zU h0 s.heap.size) ([(h0, .inr (6, [vI 0, vI 0, .ref e_text, .ref e_target, vI 0, vI 0, vI 0, vI 0, vL 0, vI 0, .ref q1]))] ++ [(q1, .inl (kA 2, 10, .inr (.inl (aL (fun _ => 0)))))]) := hD
  exact hret _ _ _ _ _ _ _ (Nat.le_of_ble_eq_true rfl) (Nat.le_of_ble_eq_true rfl) ⟨fun j => ([h0, q1] : List Nat).getD j 0, rfl, rfl⟩ hP hD hS dX6_init_22
