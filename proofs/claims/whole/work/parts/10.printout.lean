def cs_X5 (kA : Nat → ClassId) (a : Nat → Nat) (V : Sz) : va_W := [(a 0, .inr (5, [.ref (a 1), vI (V 1 0)])), (a 1, .inl (kA 1, 1140, .inl (aI (V 0))))]
def f_X5_clear (V0 : Sz) : Option (Sz) := nm (us V0 1 0) fun (V_1 : Sz) => some V_1
def f_X5_putByte (V0 : Sz) (x1 : Int) : Option (Sz) := ck (rng (V0 1 0)) <| if 1140 ≤ V0 1 0 then (some V0) else (ck (inZ (V0 1 0) 1140) <| nm (uz V0 0 (V0 1 0).toNat ((((x1 + 128) % 256 - 128) + 128) % 256 - 128)) fun (V_3 : Sz) => nm (us V_3 1 ((V_3 1 0) + 1)) fun (V_4 : Sz) => some V_4)
def jX5_putNumber_30 (n : Nat) (x1 : Int) (rec3 : Int × Sz → Option (Sz)) (y2 : Int) (V : Sz) : Option (Sz) := ck (0 ≤ y2 ∧ y2 < 2147483648) <| nm (y2 / 10) fun (x_6 : Int) => rec3 (x_6, V)
def jX5_putNumber_17 (n : Nat) (x1 : Int) (rec3 : Int × Sz → Option (Sz)) (y2 : Int) (V : Sz) : Option (Sz) := ck (dvI x1 y2) <| ck (0 ≤ x1 / y2 ∧ x1 / y2 < 2147483648) <| bd (f_X5_putByte V (48 + ((x1 / y2) % 10))) fun (V_4 : Sz) => jX5_putNumber_30 n x1 rec3 y2 V_4
def bX5_putNumber_3 (n : Nat) (x1 : Int) (rec3 : Int × Sz → Option (Sz)) : Int × Sz → Option (Sz) := fun (y2, V) => ck (rng y2) <| if y2 ≤ 0 then (some V) else (if y2 = 1 then (jX5_putNumber_17 n x1 rec3 y2 V) else (ck (rng x1) <| if x1 < y2 then (jX5_putNumber_30 n x1 rec3 y2 V) else (jX5_putNumber_17 n x1 rec3 y2 V)))
theorem bX5_putNumber_3_e (n : Nat) (x1 : Int) (rec3 : Int × Sz → Option (Sz)) (y2 : Int) (V : Sz) : bX5_putNumber_3 n x1 rec3 (y2, V) = (ck (rng y2) <| if y2 ≤ 0 then (some V) else (if y2 = 1 then (jX5_putNumber_17 n x1 rec3 y2 V) else (ck (rng x1) <| if x1 < y2 then (jX5_putNumber_30 n x1 rec3 y2 V) else (jX5_putNumber_17 n x1 rec3 y2 V)))) := rfl
def f_X5_putNumber (n : Nat) (V0 : Sz) (x1 : Int) : Option (Sz) := lpF (bX5_putNumber_3 n x1) n (100000, V0)
theorem DX5_clear_0 : ∀ q ∈ ([(0, .aload_n 0, 1), (1, .iconst 0, 1), (2, .putfield 15, 3), (5, .return_, 1)] : List (Nat × Instr × Nat)), decode cX5_clear q.1 = .ok q.2 := by decide +kernel
theorem dX5_clear_0 : decode cX5_clear 0 = .ok (.aload_n 0, 1) := DX5_clear_0 (0, .aload_n 0, 1) (List.mem_of_getElem? (i := 0) rfl)
theorem dX5_clear_1 : decode cX5_clear 1 = .ok (.iconst 0, 1) := DX5_clear_0 (1, .iconst 0, 1) (List.mem_of_getElem? (i := 1) rfl)
theorem dX5_clear_2 : decode cX5_clear 2 = .ok (.putfield 15, 3) := DX5_clear_0 (2, .putfield 15, 3) (List.mem_of_getElem? (i := 2) rfl)
theorem dX5_clear_5 : decode cX5_clear 5 = .ok (.return_, 1) := DX5_clear_0 (5, .return_, 1) (List.mem_of_getElem? (i := 3) rfl)
abbrev rmX5_clear : Room := { frames := 0, cells := 0, slots := 0, locals := 0 }
set_option maxHeartbeats 400000 in
set_option maxRecDepth 100000 in
theorem met_X5_clear (l : Launch) (D : va_G) (kA : Nat → ClassId) (a : Nat → Nat) (V0 : Sz) (hDt : ∀ w : Sz, va_D (fun _ => True) (cs_X5 kA a w)) {Vr : Sz} (hf : f_X5_clear V0 = some Vr) : MZ l yX5_clear cX5_clear 1 none rmX5_clear D kA [.ref (a 0)] (cs_X5 kA a V0) (cs_X5 kA a Vr) (none) := by
  refine zZV (own := RX5) rfl rfl (Nat.le_of_ble_eq_true rfl) ?_
  intro p e s m args below meth c ls Q hC hK hP hl hret
  have hl : lv_has ls 1 [(0, .ref (a 0))] := hl
  have hS : va_S (zF (cs_X5 kA a V0)) s.heap s.heap [] := va_S.rf
  have hD := zDself (C := fun w : Sz => (cs_X5 kA a w)) hDt V0 (fun _ => rfl)
  try dsimp only at hD
  generalize hAe : zF (cs_X5 kA a V0) = A0 at hS hD hret
  unfold f_X5_clear at hf
  refine lv_aload_n hC.1 hC.2.1 dX5_clear_0 rfl (lv_at hl 0 rfl) <| ziconst hC.1 hC.2.1 dX5_clear_1 <| ?_
  refine pfX5_15 hC hK hP (hD V0) hS (q0 := 0) rfl (Nat.le_of_ble_eq_true rfl) dX5_clear_2 (fun H locs hP hS => ?_)
  obtain ⟨V_1, eV_1⟩ : ∃ y, y = us V0 1 0 := ⟨_, rfl⟩
  have hf := nm_at hf eV_1
  have hP : va_P D vwCl (cs_X5 kA a V_1) H := by rw [eV_1]; exact hP
  have hf := Option.some.inj hf
  exact hret _ _ _ _ rfl (by rw [← hf]; exact hP) hS dX5_clear_5
theorem DX5_putByte_0 : ∀ q ∈ ([(0, .aload_n 0, 1), (1, .getfield 15, 3), (4, .aload_n 0, 1), (5, .getfield 9, 3), (8, .arraylength, 1), (9, .if_icmp .ge 24, 3), (12, .aload_n 0, 1), (13, .getfield 9, 3), (16, .aload_n 0, 1), (17, .getfield 15, 3), (20, .iload_n 1, 1), (21, .i2b, 1), (22, .bastore, 1), (23, .aload_n 0, 1), (24, .dup, 1), (25, .getfield 15, 3), (28, .iconst 1, 1), (29, .iadd, 1), (30, .putfield 15, 3), (33, .return_, 1)] : List (Nat × Instr × Nat)), decode cX5_putByte q.1 = .ok q.2 := by decide +kernel
theorem dX5_putByte_0 : decode cX5_putByte 0 = .ok (.aload_n 0, 1) := DX5_putByte_0 (0, .aload_n 0, 1) (List.mem_of_getElem? (i := 0) rfl)
theorem dX5_putByte_1 : decode cX5_putByte 1 = .ok (.getfield 15, 3) := DX5_putByte_0 (1, .getfield 15, 3) (List.mem_of_getElem? (i := 1) rfl)
theorem dX5_putByte_4 : decode cX5_putByte 4 = .ok (.aload_n 0, 1) := DX5_putByte_0 (4, .aload_n 0, 1) (List.mem_of_getElem? (i := 2) rfl)
theorem dX5_putByte_5 : decode cX5_putByte 5 = .ok (.getfield 9, 3) := DX5_putByte_0 (5, .getfield 9, 3) (List.mem_of_getElem? (i := 3) rfl)
theorem dX5_putByte_8 : decode cX5_putByte 8 = .ok (.arraylength, 1) := DX5_putByte_0 (8, .arraylength, 1) (List.mem_of_getElem? (i := 4) rfl)
theorem dX5_putByte_9 : decode cX5_putByte 9 = .ok (.if_icmp .ge 24, 3) := DX5_putByte_0 (9, .if_icmp .ge 24, 3) (List.mem_of_getElem? (i := 5) rfl)
theorem dX5_putByte_12 : decode cX5_putByte 12 = .ok (.aload_n 0, 1) := DX5_putByte_0 (12, .aload_n 0, 1) (List.mem_of_getElem? (i := 6) rfl)
theorem dX5_putByte_13 : decode cX5_putByte 13 = .ok (.getfield 9, 3) := DX5_putByte_0 (13, .getfield 9, 3) (List.mem_of_getElem? (i := 7) rfl)
theorem dX5_putByte_16 : decode cX5_putByte 16 = .ok (.aload_n 0, 1) := DX5_putByte_0 (16, .aload_n 0, 1) (List.mem_of_getElem? (i := 8) rfl)
theorem dX5_putByte_17 : decode cX5_putByte 17 = .ok (.getfield 15, 3) := DX5_putByte_0 (17, .getfield 15, 3) (List.mem_of_getElem? (i := 9) rfl)
theorem dX5_putByte_20 : decode cX5_putByte 20 = .ok (.iload_n 1, 1) := DX5_putByte_0 (20, .iload_n 1, 1) (List.mem_of_getElem? (i := 10) rfl)
theorem dX5_putByte_21 : decode cX5_putByte 21 = .ok (.i2b, 1) := DX5_putByte_0 (21, .i2b, 1) (List.mem_of_getElem? (i := 11) rfl)
theorem dX5_putByte_22 : decode cX5_putByte 22 = .ok (.bastore, 1) := DX5_putByte_0 (22, .bastore, 1) (List.mem_of_getElem? (i := 12) rfl)
theorem dX5_putByte_23 : decode cX5_putByte 23 = .ok (.aload_n 0, 1) := DX5_putByte_0 (23, .aload_n 0, 1) (List.mem_of_getElem? (i := 13) rfl)
theorem dX5_putByte_24 : decode cX5_putByte 24 = .ok (.dup, 1) := DX5_putByte_0 (24, .dup, 1) (List.mem_of_getElem? (i := 14) rfl)
theorem dX5_putByte_25 : decode cX5_putByte 25 = .ok (.getfield 15, 3) := DX5_putByte_0 (25, .getfield 15, 3) (List.mem_of_getElem? (i := 15) rfl)
theorem dX5_putByte_28 : decode cX5_putByte 28 = .ok (.iconst 1, 1) := DX5_putByte_0 (28, .iconst 1, 1) (List.mem_of_getElem? (i := 16) rfl)
theorem dX5_putByte_29 : decode cX5_putByte 29 = .ok (.iadd, 1) := DX5_putByte_0 (29, .iadd, 1) (List.mem_of_getElem? (i := 17) rfl)
theorem dX5_putByte_30 : decode cX5_putByte 30 = .ok (.putfield 15, 3) := DX5_putByte_0 (30, .putfield 15, 3) (List.mem_of_getElem? (i := 18) rfl)
theorem dX5_putByte_33 : decode cX5_putByte 33 = .ok (.return_, 1) := DX5_putByte_0 (33, .return_, 1) (List.mem_of_getElem? (i := 19) rfl)
abbrev rmX5_putByte : Room := { frames := 0, cells := 0, slots := 0, locals := 0 }
set_option maxHeartbeats 400000 in
set_option maxRecDepth 100000 in
theorem met_X5_putByte (l : Launch) (D : va_G) (kA : Nat → ClassId) (a : Nat → Nat) (V0 : Sz) (x1 : Int) (hDt : ∀ w : Sz, va_D (fun _ => True) (cs_X5 kA a w)) {Vr : Sz} (hf : f_X5_putByte V0 x1 = some Vr) : MZ l yX5_putByte cX5_putByte 2 none rmX5_putByte D kA [.ref (a 0), vI x1] (cs_X5 kA a V0) (cs_X5 kA a Vr) (none) := by
  refine zZV (own := RX5) rfl rfl (Nat.le_of_ble_eq_true rfl) ?_
  intro p e s m args below meth c ls Q hC hK hP hl hret
  have hl : lv_has ls 2 [(0, .ref (a 0)), (1, vI x1)] := hl
  have hS : va_S (zF (cs_X5 kA a V0)) s.heap s.heap [] := va_S.rf
  have hD := zDself (C := fun w : Sz => (cs_X5 kA a w)) hDt V0 (fun _ => rfl)
  try dsimp only at hD
  generalize hAe : zF (cs_X5 kA a V0) = A0 at hS hD hret
  unfold f_X5_putByte at hf
  refine lv_aload_n hC.1 hC.2.1 dX5_putByte_0 rfl (lv_at hl 0 rfl) <| gfX5_15 hC hK hP (q0 := 0) rfl rfl dX5_putByte_1 <| lv_aload_n hC.1 hC.2.1 dX5_putByte_4 rfl (lv_at hl 0 rfl) <| gfX5_9 hC hK hP (q0 := 0) rfl rfl dX5_putByte_5 <| jlen_byte (v := 1140) hC hK hP (q0 := 1) rfl rfl dX5_putByte_8 <| ?_
  obtain ⟨hz_1, hf⟩ := ck_some hf
  refine zicmp_ge (tgt := 33) hC.1 hC.2.1 ⟨hz_1, (by decide)⟩ dX5_putByte_9 (by decide) (fun hc => ?_) (fun hc => ?_)
  · have hf := it_t hf hc
    have hf := Option.some.inj hf
    exact hret _ _ _ _ rfl (by rw [← hf]; exact hP) hS dX5_putByte_33
  · have hf := it_f hf hc
    refine lv_aload_n hC.1 hC.2.1 dX5_putByte_12 rfl (lv_at hl 0 rfl) <| gfX5_9 hC hK hP (q0 := 0) rfl rfl dX5_putByte_13 <| lv_aload_n hC.1 hC.2.1 dX5_putByte_16 rfl (lv_at hl 0 rfl) <| gfX5_15 hC hK hP (q0 := 0) rfl rfl dX5_putByte_17 <| ziload_n hC.1 hC.2.1 dX5_putByte_20 rfl (lv_at hl 1 rfl) <| zi2b hC.1 hC.2.1 dX5_putByte_21 <| ?_
    obtain ⟨hz_2, hf⟩ := ck_some hf
    refine jbas hC hK hP (hD V0) hS (q0 := 1) rfl (Nat.le_of_ble_eq_true rfl) hz_2 rfl dX5_putByte_22 (fun H locs hP hS => ?_)
    obtain ⟨V_3, eV_3⟩ : ∃ y, y = uz V0 0 (V0 1 0).toNat ((((x1 + 128) % 256 - 128) + 128) % 256 - 128) := ⟨_, rfl⟩
    have hf := nm_at hf eV_3
    have hP : va_P D vwCl (cs_X5 kA a V_3) H := by rw [eV_3]; exact hP
    refine lv_aload_n hC.1 hC.2.1 dX5_putByte_23 rfl (lv_at hl 0 rfl) <| lv_dup hC.1 hC.2.1 dX5_putByte_24 rfl <| gfX5_15 hC hK hP (q0 := 0) rfl rfl dX5_putByte_25 <| ziconst hC.1 hC.2.1 dX5_putByte_28 <| ziadd hC.1 hC.2.1 dX5_putByte_29 <| ?_
    refine pfX5_15 hC hK hP (hD V_3) hS (q0 := 0) rfl (Nat.le_of_ble_eq_true rfl) dX5_putByte_30 (fun H locs hP hS => ?_)
    obtain ⟨V_4, eV_4⟩ : ∃ y, y = us V_3 1 ((V_3 1 0) + 1) := ⟨_, rfl⟩
    have hf := nm_at hf eV_4
    have hP : va_P D vwCl (cs_X5 kA a V_4) H := by rw [eV_4]; exact hP
    have hf := Option.some.inj hf
    exact hret _ _ _ _ rfl (by rw [← hf]; exact hP) hS dX5_putByte_33
theorem DX5_putNumber_0 : ∀ q ∈ ([(0, .ldc 19, 2), (2, .istore_n 2, 1), (3, .iload_n 2, 1), (4, .ifCond .le 34, 3), (7, .iload_n 2, 1), (8, .iconst 1, 1), (9, .if_icmp .eq 8, 3), (12, .iload_n 1, 1), (13, .iload_n 2, 1), (14, .if_icmp .lt 16, 3), (17, .aload_n 0, 1), (18, .bipush 48, 2), (20, .iload_n 1, 1), (21, .iload_n 2, 1), (22, .idiv, 1), (23, .bipush 10, 2), (25, .irem, 1), (26, .iadd, 1), (27, .invokevirtual 20, 3), (30, .iload_n 2, 1), (31, .bipush 10, 2), (33, .idiv, 1), (34, .istore_n 2, 1), (35, .goto (-32), 3), (38, .return_, 1)] : List (Nat × Instr × Nat)), decode cX5_putNumber q.1 = .ok q.2 := by decide +kernel
theorem dX5_putNumber_0 : decode cX5_putNumber 0 = .ok (.ldc 19, 2) := DX5_putNumber_0 (0, .ldc 19, 2) (List.mem_of_getElem? (i := 0) rfl)
theorem dX5_putNumber_2 : decode cX5_putNumber 2 = .ok (.istore_n 2, 1) := DX5_putNumber_0 (2, .istore_n 2, 1) (List.mem_of_getElem? (i := 1) rfl)
theorem dX5_putNumber_3 : decode cX5_putNumber 3 = .ok (.iload_n 2, 1) := DX5_putNumber_0 (3, .iload_n 2, 1) (List.mem_of_getElem? (i := 2) rfl)
theorem dX5_putNumber_4 : decode cX5_putNumber 4 = .ok (.ifCond .le 34, 3) := DX5_putNumber_0 (4, .ifCond .le 34, 3) (List.mem_of_getElem? (i := 3) rfl)
theorem dX5_putNumber_7 : decode cX5_putNumber 7 = .ok (.iload_n 2, 1) := DX5_putNumber_0 (7, .iload_n 2, 1) (List.mem_of_getElem? (i := 4) rfl)
theorem dX5_putNumber_8 : decode cX5_putNumber 8 = .ok (.iconst 1, 1) := DX5_putNumber_0 (8, .iconst 1, 1) (List.mem_of_getElem? (i := 5) rfl)
theorem dX5_putNumber_9 : decode cX5_putNumber 9 = .ok (.if_icmp .eq 8, 3) := DX5_putNumber_0 (9, .if_icmp .eq 8, 3) (List.mem_of_getElem? (i := 6) rfl)
theorem dX5_putNumber_12 : decode cX5_putNumber 12 = .ok (.iload_n 1, 1) := DX5_putNumber_0 (12, .iload_n 1, 1) (List.mem_of_getElem? (i := 7) rfl)
theorem dX5_putNumber_13 : decode cX5_putNumber 13 = .ok (.iload_n 2, 1) := DX5_putNumber_0 (13, .iload_n 2, 1) (List.mem_of_getElem? (i := 8) rfl)
theorem dX5_putNumber_14 : decode cX5_putNumber 14 = .ok (.if_icmp .lt 16, 3) := DX5_putNumber_0 (14, .if_icmp .lt 16, 3) (List.mem_of_getElem? (i := 9) rfl)
theorem dX5_putNumber_17 : decode cX5_putNumber 17 = .ok (.aload_n 0, 1) := DX5_putNumber_0 (17, .aload_n 0, 1) (List.mem_of_getElem? (i := 10) rfl)
theorem dX5_putNumber_18 : decode cX5_putNumber 18 = .ok (.bipush 48, 2) := DX5_putNumber_0 (18, .bipush 48, 2) (List.mem_of_getElem? (i := 11) rfl)
theorem dX5_putNumber_20 : decode cX5_putNumber 20 = .ok (.iload_n 1, 1) := DX5_putNumber_0 (20, .iload_n 1, 1) (List.mem_of_getElem? (i := 12) rfl)
theorem dX5_putNumber_21 : decode cX5_putNumber 21 = .ok (.iload_n 2, 1) := DX5_putNumber_0 (21, .iload_n 2, 1) (List.mem_of_getElem? (i := 13) rfl)
theorem dX5_putNumber_22 : decode cX5_putNumber 22 = .ok (.idiv, 1) := DX5_putNumber_0 (22, .idiv, 1) (List.mem_of_getElem? (i := 14) rfl)
theorem dX5_putNumber_23 : decode cX5_putNumber 23 = .ok (.bipush 10, 2) := DX5_putNumber_0 (23, .bipush 10, 2) (List.mem_of_getElem? (i := 15) rfl)
theorem dX5_putNumber_25 : decode cX5_putNumber 25 = .ok (.irem, 1) := DX5_putNumber_0 (25, .irem, 1) (List.mem_of_getElem? (i := 16) rfl)
theorem dX5_putNumber_26 : decode cX5_putNumber 26 = .ok (.iadd, 1) := DX5_putNumber_0 (26, .iadd, 1) (List.mem_of_getElem? (i := 17) rfl)
theorem dX5_putNumber_27 : decode cX5_putNumber 27 = .ok (.invokevirtual 20, 3) := DX5_putNumber_0 (27, .invokevirtual 20, 3) (List.mem_of_getElem? (i := 18) rfl)
theorem dX5_putNumber_30 : decode cX5_putNumber 30 = .ok (.iload_n 2, 1) := DX5_putNumber_0 (30, .iload_n 2, 1) (List.mem_of_getElem? (i := 19) rfl)
theorem dX5_putNumber_31 : decode cX5_putNumber 31 = .ok (.bipush 10, 2) := DX5_putNumber_0 (31, .bipush 10, 2) (List.mem_of_getElem? (i := 20) rfl)
theorem dX5_putNumber_33 : decode cX5_putNumber 33 = .ok (.idiv, 1) := DX5_putNumber_0 (33, .idiv, 1) (List.mem_of_getElem? (i := 21) rfl)
theorem dX5_putNumber_34 : decode cX5_putNumber 34 = .ok (.istore_n 2, 1) := DX5_putNumber_0 (34, .istore_n 2, 1) (List.mem_of_getElem? (i := 22) rfl)
theorem dX5_putNumber_35 : decode cX5_putNumber 35 = .ok (.goto (-32), 3) := DX5_putNumber_0 (35, .goto (-32), 3) (List.mem_of_getElem? (i := 23) rfl)
theorem dX5_putNumber_38 : decode cX5_putNumber 38 = .ok (.return_, 1) := DX5_putNumber_0 (38, .return_, 1) (List.mem_of_getElem? (i := 24) rfl)
abbrev rmX5_putNumber : Room := { frames := 1, cells := 0, slots := 0, locals := 21 }
set_option maxHeartbeats 400000 in
set_option maxRecDepth 100000 in
theorem met_X5_putNumber (l : Launch) (D : va_G) (kA : Nat → ClassId) (a : Nat → Nat) (n : Nat) (V0 : Sz) (x1 : Int) (hDt : ∀ w : Sz, va_D (fun _ => True) (cs_X5 kA a w)) {Vr : Sz} (hf : f_X5_putNumber n V0 x1 = some Vr) : MZ l yX5_putNumber cX5_putNumber 3 none rmX5_putNumber D kA [.ref (a 0), vI x1] (cs_X5 kA a V0) (cs_X5 kA a Vr) (none) := by
  refine zZV (own := RX5) rfl rfl (Nat.le_of_ble_eq_true rfl) ?_
  intro p e s m args below meth c ls Q hC hK hP hl hret
  have hl : lv_has ls 3 [(0, .ref (a 0)), (1, vI x1)] := hl
  have hS : va_S (zF (cs_X5 kA a V0)) s.heap s.heap [] := va_S.rf
  have hD := zDself (C := fun w : Sz => (cs_X5 kA a w)) hDt V0 (fun _ => rfl)
  try dsimp only at hD
  generalize hAe : zF (cs_X5 kA a V0) = A0 at hS hD hret
  unfold f_X5_putNumber at hf
  have L3 : ∀ (k3 : Nat) (y2 : Int) (V : Sz) (H : Heap) (locs : List Loc) (ls : Array Slot), lpF (bX5_putNumber_3 n x1) k3 (y2, V) = some Vr → va_P D vwCl (cs_X5 kA a V) H → va_S A0 s.heap H locs → lv_has ls 3 [(0, .ref (a 0)), (1, vI x1), (2, vI y2)] → W p l e rmX5_putNumber s m args below meth c H locs 0 0 Q (F0 m 3 ls []) := by
    intro k3
    induction k3 with
    | zero => intro y2 V H locs ls hf hP hS hl; exact lp_0 hf
    | succ k3 ih3 =>
      intro y2 V H locs ls hf hP hS hl
      have hf := lp_s hf
      rw [bX5_putNumber_3_e] at hf
      have J30 : ∀ (y2 : Int) (V : Sz) (H : Heap) (locs : List Loc) (ls : Array Slot), jX5_putNumber_30 n x1 (lpF (bX5_putNumber_3 n x1) k3) y2 V = some Vr → va_P D vwCl (cs_X5 kA a V) H → va_S A0 s.heap H locs → lv_has ls 3 [(0, .ref (a 0)), (1, vI x1), (2, vI y2)] → W p l e rmX5_putNumber s m args below meth c H locs 0 0 Q (F0 m 30 ls []) := by
        intro y2 V H locs ls hf hP hS hl
        unfold jX5_putNumber_30 at hf
        refine ziload_n hC.1 hC.2.1 dX5_putNumber_30 rfl (lv_at hl 2 rfl) <| zbipush hC.1 hC.2.1 dX5_putNumber_31 (by decide) <| ?_
        obtain ⟨hz_5, hf⟩ := ck_some hf
        refine zidiv hC.1 hC.2.1 ⟨hz_5.1, hz_5.2, by decide, by decide⟩ dX5_putNumber_33 <| ?_
        refine ztopi (fun x_6 ex_6 => ?_)
        have hf := nm_at hf ex_6
        refine zistore_n (lv' := [(2, vI x_6), (0, .ref (a 0)), (1, vI x1)]) hC.1 hC.2.1 dX5_putNumber_34 rfl hl (by decide) rfl (fun ls hl => ?_)
        exact lv_goto (tgt := 3) hC.1 hC.2.1 dX5_putNumber_35 (by decide) <| ih3 _ _ _ _ _ hf hP hS (lv_sub hl [1, 2, 0] rfl)
      have J17 : ∀ (y2 : Int) (V : Sz) (H : Heap) (locs : List Loc) (ls : Array Slot), jX5_putNumber_17 n x1 (lpF (bX5_putNumber_3 n x1) k3) y2 V = some Vr → va_P D vwCl (cs_X5 kA a V) H → va_S A0 s.heap H locs → lv_has ls 3 [(0, .ref (a 0)), (1, vI x1), (2, vI y2)] → W p l e rmX5_putNumber s m args below meth c H locs 0 0 Q (F0 m 17 ls []) := by
        intro y2 V H locs ls hf hP hS hl
        unfold jX5_putNumber_17 at hf
        refine lv_aload_n hC.1 hC.2.1 dX5_putNumber_17 rfl (lv_at hl 0 rfl) <| zbipush hC.1 hC.2.1 dX5_putNumber_18 (by decide) <| ziload_n hC.1 hC.2.1 dX5_putNumber_20 rfl (lv_at hl 1 rfl) <| ziload_n hC.1 hC.2.1 dX5_putNumber_21 rfl (lv_at hl 2 rfl) <| ?_
        obtain ⟨hz_2, hf⟩ := ck_some hf
        refine zidiv hC.1 hC.2.1 hz_2 dX5_putNumber_22 <| zbipush hC.1 hC.2.1 dX5_putNumber_23 (by decide) <| ?_
        obtain ⟨hz_3, hf⟩ := ck_some hf
        refine zirem hC.1 hC.2.1 ⟨hz_3.1, hz_3.2, by decide, by decide⟩ dX5_putNumber_25 <| ziadd hC.1 hC.2.1 dX5_putNumber_26 <| ?_
        obtain ⟨V_4, hu, hf⟩ := bd_some hf
        have hDc := hDt
        refine zcVZ (As := [vI (48 + ((x1 / y2) % 10))]) (rest := []) hC hK (met_X5_putByte l D kA a V (48 + ((x1 / y2) % 10)) hDc hu) zwX5_20 hS (zFsub (hD V) [0, 1] rfl) hP (q0 := 0) rfl rfl rfl rfl hl.1 rfl (Nat.le_of_ble_eq_true rfl) ⟨Nat.le_of_ble_eq_true rfl, Nat.le_of_ble_eq_true rfl⟩ ⟨rfl, rfl⟩ ⟨Nat.le_refl _, Nat.le_refl _⟩ dX5_putNumber_27 (fun H locs hP1 hk1 hS => ?_)
        have hP : va_P D vwCl (cs_X5 kA a V_4) H := hP1
        exact J30 _ _ _ _ _ hf hP hS (lv_sub hl [0, 1, 2] rfl)
      refine ziload_n hC.1 hC.2.1 dX5_putNumber_3 rfl (lv_at hl 2 rfl) <| ?_
      obtain ⟨hz_1, hf⟩ := ck_some hf
      refine zif_le (tgt := 38) hC.1 hC.2.1 hz_1 dX5_putNumber_4 (by decide) (fun hc => ?_) (fun hc => ?_)
      · have hf := it_t hf hc
        have hf := Option.some.inj hf
        exact hret _ _ _ _ rfl (by rw [← hf]; exact hP) hS dX5_putNumber_38
      · have hf := it_f hf hc
        refine ziload_n hC.1 hC.2.1 dX5_putNumber_7 rfl (lv_at hl 2 rfl) <| ziconst hC.1 hC.2.1 dX5_putNumber_8 <| zicmp_eq (tgt := 17) hC.1 hC.2.1 ⟨hz_1, (by decide)⟩ dX5_putNumber_9 (by decide) (fun hc => ?_) (fun hc => ?_)
        · have hf := it_t hf hc
          exact J17 _ _ _ _ _ hf hP hS (lv_sub hl [0, 1, 2] rfl)
        · have hf := it_f hf hc
          refine ziload_n hC.1 hC.2.1 dX5_putNumber_12 rfl (lv_at hl 1 rfl) <| ziload_n hC.1 hC.2.1 dX5_putNumber_13 rfl (lv_at hl 2 rfl) <| ?_
          obtain ⟨hz_7, hf⟩ := ck_some hf
          refine zicmp_lt (tgt := 30) hC.1 hC.2.1 ⟨hz_7, hz_1⟩ dX5_putNumber_14 (by decide) (fun hc => ?_) (fun hc => ?_)
          · have hf := it_t hf hc
            exact J30 _ _ _ _ _ hf hP hS (lv_sub hl [0, 1, 2] rfl)
          · have hf := it_f hf hc
            exact J17 _ _ _ _ _ hf hP hS (lv_sub hl [0, 1, 2] rfl)
  refine zldc (n := 100000) hC qw_1181 (by decide) dX5_putNumber_0 <| zistore_n (lv' := [(2, vI 100000), (0, .ref (a 0)), (1, vI x1)]) hC.1 hC.2.1 dX5_putNumber_2 rfl hl (by decide) rfl (fun ls hl => ?_)
  exact L3 n _ _ _ _ _ hf hP hS (lv_sub hl [1, 2, 0] rfl)
