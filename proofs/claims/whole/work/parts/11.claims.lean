def cs_X0 (kA : Nat → ClassId) (a : Nat → Nat) (V : Sz) : va_W := [(a 0, .inr (0, [vI (V 0 0), .ref (a 1)])), (a 1, .inl (kA 0, 100, .inl (aI (V 1))))]
def f_X0_become (V0 : Sz) (G : Sz) : Option (Sz) := nm (us V0 0 (G 0 0)) fun (V_1 : Sz) => bd (f_X7_copyRow 100 100 (G 1) (V_1 1)) fun (V_2 : (Nat → Int)) => nm (uy V_1 1 V_2) fun (V_3 : Sz) => some V_3
def f_X0_isFull (V : Sz) : Option (Bool) := ck (rng (V 0 0)) <| if V 0 0 < 20 then (some false) else (some true)
def f_X0_latestDay (V : Sz) : Option (Int) := ck (rng (V 0 0)) <| if V 0 0 = 0 then (some 0) else (ck (inZ (((V 0 0) - 1) * 5) 100) <| some (V 1 (((V 0 0) - 1) * 5).toNat))
def bX0_begin_24 (n : Nat) (x1 : Int) (rec24 : Int × Int × Sz → Option (Sz)) : Int × Int × Sz → Option (Sz) := fun (y2, y3, V) => ck (rng y3) <| if 5 ≤ y3 then (nm (us V 0 ((V 0 0) + 1)) fun (V_6 : Sz) => some V_6) else (ck (inZ (y2 + y3) 100) <| nm (uz V 1 (y2 + y3).toNat 0) fun (V_8 : Sz) => nm (y3 + 1) fun (x_9 : Int) => rec24 (y2, x_9, V_8))
theorem bX0_begin_24_e (n : Nat) (x1 : Int) (rec24 : Int × Int × Sz → Option (Sz)) (y2 : Int) (y3 : Int) (V : Sz) : bX0_begin_24 n x1 rec24 (y2, y3, V) = (ck (rng y3) <| if 5 ≤ y3 then (nm (us V 0 ((V 0 0) + 1)) fun (V_6 : Sz) => some V_6) else (ck (inZ (y2 + y3) 100) <| nm (uz V 1 (y2 + y3).toNat 0) fun (V_8 : Sz) => nm (y3 + 1) fun (x_9 : Int) => rec24 (y2, x_9, V_8))) := rfl
def f_X0_begin (n : Nat) (V0 : Sz) (x1 : Int) : Option (Sz) := bd (f_X0_isFull V0) fun (r_1 : Bool) => if r_1 = false then (nm ((V0 0 0) * 5) fun (x_2 : Int) => ck (inZ x_2 100) <| nm (uz V0 1 x_2.toNat x1) fun (V_4 : Sz) => lpF (bX0_begin_24 n x1) n (x_2, 1, V_4)) else (some V0)
def f_X0_enter (V0 : Sz) (x1 : Int) : Option (Sz) := ck (rng (V0 0 0)) <| if V0 0 0 = 0 then (some V0) else (nm (((V0 0 0) - 1) * 5) fun (x_2 : Int) => ck (rng x1) <| if x1 ≤ 0 then (if 0 ≤ x1 then (some V0) else (ck (inZ (x_2 + 2) 100) <| nm (uz V0 1 (x_2 + 2).toNat ((V0 1 (x_2 + 2).toNat) - x1)) fun (V_5 : Sz) => ck (inZ (x_2 + 4) 100) <| nm (uz V_5 1 (x_2 + 4).toNat ((V_5 1 (x_2 + 4).toNat) + 1)) fun (V_7 : Sz) => some V_7)) else (ck (inZ (x_2 + 1) 100) <| nm (uz V0 1 (x_2 + 1).toNat ((V0 1 (x_2 + 1).toNat) + x1)) fun (V_9 : Sz) => ck (inZ (x_2 + 3) 100) <| nm (uz V_9 1 (x_2 + 3).toNat ((V_9 1 (x_2 + 3).toNat) + 1)) fun (V_11 : Sz) => some V_11))
def f_X0_latestBalance (V : Sz) : Option (Int) := ck (rng (V 0 0)) <| if V 0 0 = 0 then (some 0) else (nm (((V 0 0) - 1) * 5) fun (x_2 : Int) => ck (inZ (x_2 + 1) 100) <| ck (inZ (x_2 + 2) 100) <| some ((V 1 (x_2 + 1).toNat) - (V 1 (x_2 + 2).toNat)))
theorem DX0_become_0 : ∀ q ∈ ([(0, .aload_n 0, 1), (1, .aload_n 1, 1), (2, .getfield 15, 3), (5, .putfield 15, 3), (8, .aload_n 1, 1), (9, .getfield 11, 3), (12, .aload_n 0, 1), (13, .getfield 11, 3), (16, .invokestatic 19, 3), (19, .return_, 1)] : List (Nat × Instr × Nat)), decode cX0_become q.1 = .ok q.2 := by decide +kernel
theorem dX0_become_0 : decode cX0_become 0 = .ok (.aload_n 0, 1) := DX0_become_0 (0, .aload_n 0, 1) (List.mem_of_getElem? (i := 0) rfl)
theorem dX0_become_1 : decode cX0_become 1 = .ok (.aload_n 1, 1) := DX0_become_0 (1, .aload_n 1, 1) (List.mem_of_getElem? (i := 1) rfl)
theorem dX0_become_2 : decode cX0_become 2 = .ok (.getfield 15, 3) := DX0_become_0 (2, .getfield 15, 3) (List.mem_of_getElem? (i := 2) rfl)
theorem dX0_become_5 : decode cX0_become 5 = .ok (.putfield 15, 3) := DX0_become_0 (5, .putfield 15, 3) (List.mem_of_getElem? (i := 3) rfl)
theorem dX0_become_8 : decode cX0_become 8 = .ok (.aload_n 1, 1) := DX0_become_0 (8, .aload_n 1, 1) (List.mem_of_getElem? (i := 4) rfl)
theorem dX0_become_9 : decode cX0_become 9 = .ok (.getfield 11, 3) := DX0_become_0 (9, .getfield 11, 3) (List.mem_of_getElem? (i := 5) rfl)
theorem dX0_become_12 : decode cX0_become 12 = .ok (.aload_n 0, 1) := DX0_become_0 (12, .aload_n 0, 1) (List.mem_of_getElem? (i := 6) rfl)
theorem dX0_become_13 : decode cX0_become 13 = .ok (.getfield 11, 3) := DX0_become_0 (13, .getfield 11, 3) (List.mem_of_getElem? (i := 7) rfl)
theorem dX0_become_16 : decode cX0_become 16 = .ok (.invokestatic 19, 3) := DX0_become_0 (16, .invokestatic 19, 3) (List.mem_of_getElem? (i := 8) rfl)
theorem dX0_become_19 : decode cX0_become 19 = .ok (.return_, 1) := DX0_become_0 (19, .return_, 1) (List.mem_of_getElem? (i := 9) rfl)
abbrev rmX0_become : Room := { frames := 2, cells := 0, slots := 0, locals := 81 }
set_option maxHeartbeats 400000 in
set_option maxRecDepth 100000 in
theorem met_X0_become (l : Launch) (D : va_G) (kA : Nat → ClassId) (a : Nat → Nat) (b : Nat → Nat) (V0 : Sz) (G : Sz) (hDt : ∀ w : Sz, va_D (fun _ => True) (cs_X0 kA a w ++ (cs_X0 kA b G))) {Vr : Sz} (hf : f_X0_become V0 G = some Vr) : MZ l yX0_become cX0_become 2 none rmX0_become D kA [.ref (a 0), .ref (b 0)] (cs_X0 kA a V0 ++ (cs_X0 kA b G)) (cs_X0 kA a Vr ++ (cs_X0 kA b G)) (none) := by
  refine zZV (own := RX0) rfl rfl (Nat.le_of_ble_eq_true rfl) ?_
  intro p e s m args below meth c ls Q hC hK hP hl hret
  have hl : lv_has ls 2 [(0, .ref (a 0)), (1, .ref (b 0))] := hl
  have hS : va_S (zF (cs_X0 kA a V0 ++ (cs_X0 kA b G))) s.heap s.heap [] := va_S.rf
  have hD := zDself (C := fun w : Sz => (cs_X0 kA a w ++ (cs_X0 kA b G))) hDt V0 (fun _ => rfl)
  try dsimp only at hD
  generalize hAe : zF (cs_X0 kA a V0 ++ (cs_X0 kA b G)) = A0 at hS hD hret
  unfold f_X0_become at hf
  refine lv_aload_n hC.1 hC.2.1 dX0_become_0 rfl (lv_at hl 0 rfl) <| lv_aload_n hC.1 hC.2.1 dX0_become_1 rfl (lv_at hl 1 rfl) <| gfX0_15 hC hK hP (q0 := 2) rfl rfl dX0_become_2 <| ?_
  refine pfX0_15 hC hK hP (hD V0) hS (q0 := 0) rfl (Nat.le_of_ble_eq_true rfl) dX0_become_5 (fun H locs hP hS => ?_)
  obtain ⟨V_1, eV_1⟩ : ∃ y, y = us V0 0 (G 0 0) := ⟨_, rfl⟩
  have hf := nm_at hf eV_1
  have hP : va_P D vwCl (cs_X0 kA a V_1 ++ (cs_X0 kA b G)) H := by rw [eV_1]; exact hP
  refine lv_aload_n hC.1 hC.2.1 dX0_become_8 rfl (lv_at hl 1 rfl) <| gfX0_11 hC hK hP (q0 := 2) rfl rfl dX0_become_9 <| lv_aload_n hC.1 hC.2.1 dX0_become_12 rfl (lv_at hl 0 rfl) <| gfX0_11 hC hK hP (q0 := 0) rfl rfl dX0_become_13 <| ?_
  obtain ⟨V_2, hu, hf⟩ := bd_some hf
  have hPc : va_P D vwCl ([((b 1), .inl (kA 0, 100, .inl (aI (G 1))))] ++ ([((a 1), .inl (kA 0, 100, .inl (aI (V_1 1))))])) _ := hP.sub [3, 1] rfl
  have hDc : ∀ w : (Nat → Int), va_D (fun _ => True) ([((b 1), .inl (kA 0, 100, .inl (aI (G 1))))] ++ ([((a 1), .inl (kA 0, 100, .inl (aI w)))])) := fun w => (hDt (uy V_1 1 w)).sub [3, 1] (by decide) rfl
  refine zcNZ (As := [.ref (b 1), .ref (a 1)]) (rest := []) hC hK (met_X7_copyRow l D kA (b 1) (a 1) 100 100 (G 1) (V_1 1) (Nat.le_of_ble_eq_true rfl) (Nat.le_of_ble_eq_true rfl) hDc hu) zwNcopy znX0_19 hS (zFsub (hD V_1) [3, 1] rfl) hPc rfl hl.1 rfl (Nat.le_of_ble_eq_true rfl) ⟨Nat.le_of_ble_eq_true rfl, Nat.le_of_ble_eq_true rfl⟩ ⟨rfl, rfl⟩ ⟨Nat.le_refl _, Nat.le_refl _⟩ dX0_become_16 (fun H locs hP1 hk1 hS => ?_)
  obtain ⟨V_3, eV_3⟩ : ∃ y, y = uy V_1 1 V_2 := ⟨_, rfl⟩
  have hf := nm_at hf eV_3
  have hP : va_P D vwCl (cs_X0 kA a V_3 ++ (cs_X0 kA b G)) H := by rw [eV_3]; exact zjoin hP (hDt V_1) [3, 1] (w0 := ([((b 1), .inl (kA 0, 100, .inl (aI (G 1))))] ++ ([((a 1), .inl (kA 0, 100, .inl (aI (V_1 1))))]))) rfl (Nat.le_of_ble_eq_true rfl) hk1 hP1
  have hf := Option.some.inj hf
  exact hret _ _ _ _ rfl (by rw [← hf]; exact hP) hS dX0_become_19
theorem DX0_isFull_0 : ∀ q ∈ ([(0, .aload_n 0, 1), (1, .getfield 15, 3), (4, .bipush 20, 2), (6, .if_icmp .lt 7, 3), (9, .iconst 1, 1), (10, .goto 4, 3), (13, .iconst 0, 1), (14, .ireturn, 1)] : List (Nat × Instr × Nat)), decode cX0_isFull q.1 = .ok q.2 := by decide +kernel
theorem dX0_isFull_0 : decode cX0_isFull 0 = .ok (.aload_n 0, 1) := DX0_isFull_0 (0, .aload_n 0, 1) (List.mem_of_getElem? (i := 0) rfl)
theorem dX0_isFull_1 : decode cX0_isFull 1 = .ok (.getfield 15, 3) := DX0_isFull_0 (1, .getfield 15, 3) (List.mem_of_getElem? (i := 1) rfl)
theorem dX0_isFull_4 : decode cX0_isFull 4 = .ok (.bipush 20, 2) := DX0_isFull_0 (4, .bipush 20, 2) (List.mem_of_getElem? (i := 2) rfl)
theorem dX0_isFull_6 : decode cX0_isFull 6 = .ok (.if_icmp .lt 7, 3) := DX0_isFull_0 (6, .if_icmp .lt 7, 3) (List.mem_of_getElem? (i := 3) rfl)
theorem dX0_isFull_9 : decode cX0_isFull 9 = .ok (.iconst 1, 1) := DX0_isFull_0 (9, .iconst 1, 1) (List.mem_of_getElem? (i := 4) rfl)
theorem dX0_isFull_10 : decode cX0_isFull 10 = .ok (.goto 4, 3) := DX0_isFull_0 (10, .goto 4, 3) (List.mem_of_getElem? (i := 5) rfl)
theorem dX0_isFull_13 : decode cX0_isFull 13 = .ok (.iconst 0, 1) := DX0_isFull_0 (13, .iconst 0, 1) (List.mem_of_getElem? (i := 6) rfl)
theorem dX0_isFull_14 : decode cX0_isFull 14 = .ok (.ireturn, 1) := DX0_isFull_0 (14, .ireturn, 1) (List.mem_of_getElem? (i := 7) rfl)
abbrev rmX0_isFull : Room := { frames := 0, cells := 0, slots := 0, locals := 0 }
set_option maxHeartbeats 400000 in
set_option maxRecDepth 100000 in
theorem met_X0_isFull (l : Launch) (D : va_G) (kA : Nat → ClassId) (a : Nat → Nat) (V : Sz) {r : Bool} (hf : f_X0_isFull V = some r) : MP l yX0_isFull cX0_isFull 1 (some .boolean) rmX0_isFull D kA [.ref (a 0)] (cs_X0 kA a V) (some (vI (bI r))) := by
  refine zPZ (own := RX0) rfl rfl (Nat.le_of_ble_eq_true rfl) ?_
  intro p e s m args below meth c ls Q hC hK hP hl hret
  have hl : lv_has ls 1 [(0, .ref (a 0))] := hl
  unfold f_X0_isFull at hf
  refine lv_aload_n hC.1 hC.2.1 dX0_isFull_0 rfl (lv_at hl 0 rfl) <| gfX0_15 hC hK hP (q0 := 0) rfl rfl dX0_isFull_1 <| zbipush hC.1 hC.2.1 dX0_isFull_4 (by decide) <| ?_
  obtain ⟨hz_1, hf⟩ := ck_some hf
  refine zicmp_lt (tgt := 13) hC.1 hC.2.1 ⟨hz_1, (by decide)⟩ dX0_isFull_6 (by decide) (fun hc => ?_) (fun hc => ?_)
  · have hf := it_t hf hc
    exact ziconst hC.1 hC.2.1 dX0_isFull_13 <| hret (Int32.ofInt (bI false)) _ _ (zb01 _) (qZ hf) dX0_isFull_14
  · have hf := it_f hf hc
    exact ziconst hC.1 hC.2.1 dX0_isFull_9 <| lv_goto (tgt := 14) hC.1 hC.2.1 dX0_isFull_10 (by decide) <| hret (Int32.ofInt (bI true)) _ _ (zb01 _) (qZ hf) dX0_isFull_14
theorem DX0_latestDay_0 : ∀ q ∈ ([(0, .aload_n 0, 1), (1, .getfield 15, 3), (4, .ifCond .ne 7, 3), (7, .iconst 0, 1), (8, .goto 16, 3), (11, .aload_n 0, 1), (12, .getfield 11, 3), (15, .aload_n 0, 1), (16, .getfield 15, 3), (19, .iconst 1, 1), (20, .isub, 1), (21, .iconst 5, 1), (22, .imul, 1), (23, .iaload, 1), (24, .ireturn, 1)] : List (Nat × Instr × Nat)), decode cX0_latestDay q.1 = .ok q.2 := by decide +kernel
theorem dX0_latestDay_0 : decode cX0_latestDay 0 = .ok (.aload_n 0, 1) := DX0_latestDay_0 (0, .aload_n 0, 1) (List.mem_of_getElem? (i := 0) rfl)
theorem dX0_latestDay_1 : decode cX0_latestDay 1 = .ok (.getfield 15, 3) := DX0_latestDay_0 (1, .getfield 15, 3) (List.mem_of_getElem? (i := 1) rfl)
theorem dX0_latestDay_4 : decode cX0_latestDay 4 = .ok (.ifCond .ne 7, 3) := DX0_latestDay_0 (4, .ifCond .ne 7, 3) (List.mem_of_getElem? (i := 2) rfl)
theorem dX0_latestDay_7 : decode cX0_latestDay 7 = .ok (.iconst 0, 1) := DX0_latestDay_0 (7, .iconst 0, 1) (List.mem_of_getElem? (i := 3) rfl)
theorem dX0_latestDay_8 : decode cX0_latestDay 8 = .ok (.goto 16, 3) := DX0_latestDay_0 (8, .goto 16, 3) (List.mem_of_getElem? (i := 4) rfl)
theorem dX0_latestDay_11 : decode cX0_latestDay 11 = .ok (.aload_n 0, 1) := DX0_latestDay_0 (11, .aload_n 0, 1) (List.mem_of_getElem? (i := 5) rfl)
theorem dX0_latestDay_12 : decode cX0_latestDay 12 = .ok (.getfield 11, 3) := DX0_latestDay_0 (12, .getfield 11, 3) (List.mem_of_getElem? (i := 6) rfl)
theorem dX0_latestDay_15 : decode cX0_latestDay 15 = .ok (.aload_n 0, 1) := DX0_latestDay_0 (15, .aload_n 0, 1) (List.mem_of_getElem? (i := 7) rfl)
theorem dX0_latestDay_16 : decode cX0_latestDay 16 = .ok (.getfield 15, 3) := DX0_latestDay_0 (16, .getfield 15, 3) (List.mem_of_getElem? (i := 8) rfl)
theorem dX0_latestDay_19 : decode cX0_latestDay 19 = .ok (.iconst 1, 1) := DX0_latestDay_0 (19, .iconst 1, 1) (List.mem_of_getElem? (i := 9) rfl)
theorem dX0_latestDay_20 : decode cX0_latestDay 20 = .ok (.isub, 1) := DX0_latestDay_0 (20, .isub, 1) (List.mem_of_getElem? (i := 10) rfl)
theorem dX0_latestDay_21 : decode cX0_latestDay 21 = .ok (.iconst 5, 1) := DX0_latestDay_0 (21, .iconst 5, 1) (List.mem_of_getElem? (i := 11) rfl)
theorem dX0_latestDay_22 : decode cX0_latestDay 22 = .ok (.imul, 1) := DX0_latestDay_0 (22, .imul, 1) (List.mem_of_getElem? (i := 12) rfl)
theorem dX0_latestDay_23 : decode cX0_latestDay 23 = .ok (.iaload, 1) := DX0_latestDay_0 (23, .iaload, 1) (List.mem_of_getElem? (i := 13) rfl)
theorem dX0_latestDay_24 : decode cX0_latestDay 24 = .ok (.ireturn, 1) := DX0_latestDay_0 (24, .ireturn, 1) (List.mem_of_getElem? (i := 14) rfl)
abbrev rmX0_latestDay : Room := { frames := 0, cells := 0, slots := 0, locals := 0 }
set_option maxHeartbeats 400000 in
set_option maxRecDepth 100000 in
theorem met_X0_latestDay (l : Launch) (D : va_G) (kA : Nat → ClassId) (a : Nat → Nat) (V : Sz) {r : Int} (hf : f_X0_latestDay V = some r) : MP l yX0_latestDay cX0_latestDay 1 (some .int) rmX0_latestDay D kA [.ref (a 0)] (cs_X0 kA a V) (some (vI r)) := by
  refine zPI (own := RX0) rfl rfl (Nat.le_of_ble_eq_true rfl) ?_
  intro p e s m args below meth c ls Q hC hK hP hl hret
  have hl : lv_has ls 1 [(0, .ref (a 0))] := hl
  unfold f_X0_latestDay at hf
  refine lv_aload_n hC.1 hC.2.1 dX0_latestDay_0 rfl (lv_at hl 0 rfl) <| gfX0_15 hC hK hP (q0 := 0) rfl rfl dX0_latestDay_1 <| ?_
  obtain ⟨hz_1, hf⟩ := ck_some hf
  refine zif_ne (tgt := 11) hC.1 hC.2.1 hz_1 dX0_latestDay_4 (by decide) (fun hc => ?_) (fun hc => ?_)
  · have hf := it_f hf hc
    refine lv_aload_n hC.1 hC.2.1 dX0_latestDay_11 rfl (lv_at hl 0 rfl) <| gfX0_11 hC hK hP (q0 := 0) rfl rfl dX0_latestDay_12 <| lv_aload_n hC.1 hC.2.1 dX0_latestDay_15 rfl (lv_at hl 0 rfl) <| gfX0_15 hC hK hP (q0 := 0) rfl rfl dX0_latestDay_16 <| ziconst hC.1 hC.2.1 dX0_latestDay_19 <| zisub hC.1 hC.2.1 dX0_latestDay_20 <| ziconst hC.1 hC.2.1 dX0_latestDay_21 <| zimul hC.1 hC.2.1 dX0_latestDay_22 <| ?_
    obtain ⟨hz_2, hf⟩ := ck_some hf
    exact jal hC hK hP (q0 := 1) rfl (Nat.le_of_ble_eq_true rfl) hz_2 rfl dX0_latestDay_23 <| hret (Int32.ofInt (V 1 (((V 0 0) - 1) * 5).toNat)) _ _ (qI hf) dX0_latestDay_24
  · have hf := it_t hf hc
    exact ziconst hC.1 hC.2.1 dX0_latestDay_7 <| lv_goto (tgt := 24) hC.1 hC.2.1 dX0_latestDay_8 (by decide) <| hret (Int32.ofInt 0) _ _ (qI hf) dX0_latestDay_24
theorem DX0_begin_0 : ∀ q ∈ ([(0, .aload_n 0, 1), (1, .invokevirtual 23, 3), (4, .ifCond .eq 4, 3), (7, .return_, 1), (8, .aload_n 0, 1), (9, .getfield 15, 3), (12, .iconst 5, 1), (13, .imul, 1), (14, .istore_n 2, 1), (15, .aload_n 0, 1), (16, .getfield 11, 3), (19, .iload_n 2, 1), (20, .iload_n 1, 1), (21, .iastore, 1), (22, .iconst 1, 1), (23, .istore_n 3, 1), (24, .iload_n 3, 1), (25, .iconst 5, 1), (26, .if_icmp .ge 18, 3), (29, .aload_n 0, 1), (30, .getfield 11, 3), (33, .iload_n 2, 1), (34, .iload_n 3, 1), (35, .iadd, 1), (36, .iconst 0, 1), (37, .iastore, 1), (38, .iinc 3 1, 3), (41, .goto (-17), 3), (44, .aload_n 0, 1), (45, .dup, 1), (46, .getfield 15, 3), (49, .iconst 1, 1), (50, .iadd, 1), (51, .putfield 15, 3), (54, .return_, 1)] : List (Nat × Instr × Nat)), decode cX0_begin q.1 = .ok q.2 := by decide +kernel
theorem dX0_begin_0 : decode cX0_begin 0 = .ok (.aload_n 0, 1) := DX0_begin_0 (0, .aload_n 0, 1) (List.mem_of_getElem? (i := 0) rfl)
theorem dX0_begin_1 : decode cX0_begin 1 = .ok (.invokevirtual 23, 3) := DX0_begin_0 (1, .invokevirtual 23, 3) (List.mem_of_getElem? (i := 1) rfl)
theorem dX0_begin_4 : decode cX0_begin 4 = .ok (.ifCond .eq 4, 3) := DX0_begin_0 (4, .ifCond .eq 4, 3) (List.mem_of_getElem? (i := 2) rfl)
theorem dX0_begin_7 : decode cX0_begin 7 = .ok (.return_, 1) := DX0_begin_0 (7, .return_, 1) (List.mem_of_getElem? (i := 3) rfl)
theorem dX0_begin_8 : decode cX0_begin 8 = .ok (.aload_n 0, 1) := DX0_begin_0 (8, .aload_n 0, 1) (List.mem_of_getElem? (i := 4) rfl)
theorem dX0_begin_9 : decode cX0_begin 9 = .ok (.getfield 15, 3) := DX0_begin_0 (9, .getfield 15, 3) (List.mem_of_getElem? (i := 5) rfl)
theorem dX0_begin_12 : decode cX0_begin 12 = .ok (.iconst 5, 1) := DX0_begin_0 (12, .iconst 5, 1) (List.mem_of_getElem? (i := 6) rfl)
theorem dX0_begin_13 : decode cX0_begin 13 = .ok (.imul, 1) := DX0_begin_0 (13, .imul, 1) (List.mem_of_getElem? (i := 7) rfl)
theorem dX0_begin_14 : decode cX0_begin 14 = .ok (.istore_n 2, 1) := DX0_begin_0 (14, .istore_n 2, 1) (List.mem_of_getElem? (i := 8) rfl)
theorem dX0_begin_15 : decode cX0_begin 15 = .ok (.aload_n 0, 1) := DX0_begin_0 (15, .aload_n 0, 1) (List.mem_of_getElem? (i := 9) rfl)
theorem dX0_begin_16 : decode cX0_begin 16 = .ok (.getfield 11, 3) := DX0_begin_0 (16, .getfield 11, 3) (List.mem_of_getElem? (i := 10) rfl)
theorem dX0_begin_19 : decode cX0_begin 19 = .ok (.iload_n 2, 1) := DX0_begin_0 (19, .iload_n 2, 1) (List.mem_of_getElem? (i := 11) rfl)
theorem dX0_begin_20 : decode cX0_begin 20 = .ok (.iload_n 1, 1) := DX0_begin_0 (20, .iload_n 1, 1) (List.mem_of_getElem? (i := 12) rfl)
theorem dX0_begin_21 : decode cX0_begin 21 = .ok (.iastore, 1) := DX0_begin_0 (21, .iastore, 1) (List.mem_of_getElem? (i := 13) rfl)
theorem dX0_begin_22 : decode cX0_begin 22 = .ok (.iconst 1, 1) := DX0_begin_0 (22, .iconst 1, 1) (List.mem_of_getElem? (i := 14) rfl)
theorem dX0_begin_23 : decode cX0_begin 23 = .ok (.istore_n 3, 1) := DX0_begin_0 (23, .istore_n 3, 1) (List.mem_of_getElem? (i := 15) rfl)
theorem dX0_begin_24 : decode cX0_begin 24 = .ok (.iload_n 3, 1) := DX0_begin_0 (24, .iload_n 3, 1) (List.mem_of_getElem? (i := 16) rfl)
theorem dX0_begin_25 : decode cX0_begin 25 = .ok (.iconst 5, 1) := DX0_begin_0 (25, .iconst 5, 1) (List.mem_of_getElem? (i := 17) rfl)
theorem dX0_begin_26 : decode cX0_begin 26 = .ok (.if_icmp .ge 18, 3) := DX0_begin_0 (26, .if_icmp .ge 18, 3) (List.mem_of_getElem? (i := 18) rfl)
theorem dX0_begin_29 : decode cX0_begin 29 = .ok (.aload_n 0, 1) := DX0_begin_0 (29, .aload_n 0, 1) (List.mem_of_getElem? (i := 19) rfl)
theorem dX0_begin_30 : decode cX0_begin 30 = .ok (.getfield 11, 3) := DX0_begin_0 (30, .getfield 11, 3) (List.mem_of_getElem? (i := 20) rfl)
theorem dX0_begin_33 : decode cX0_begin 33 = .ok (.iload_n 2, 1) := DX0_begin_0 (33, .iload_n 2, 1) (List.mem_of_getElem? (i := 21) rfl)
theorem dX0_begin_34 : decode cX0_begin 34 = .ok (.iload_n 3, 1) := DX0_begin_0 (34, .iload_n 3, 1) (List.mem_of_getElem? (i := 22) rfl)
theorem dX0_begin_35 : decode cX0_begin 35 = .ok (.iadd, 1) := DX0_begin_0 (35, .iadd, 1) (List.mem_of_getElem? (i := 23) rfl)
theorem dX0_begin_36 : decode cX0_begin 36 = .ok (.iconst 0, 1) := DX0_begin_0 (36, .iconst 0, 1) (List.mem_of_getElem? (i := 24) rfl)
theorem dX0_begin_37 : decode cX0_begin 37 = .ok (.iastore, 1) := DX0_begin_0 (37, .iastore, 1) (List.mem_of_getElem? (i := 25) rfl)
theorem dX0_begin_38 : decode cX0_begin 38 = .ok (.iinc 3 1, 3) := DX0_begin_0 (38, .iinc 3 1, 3) (List.mem_of_getElem? (i := 26) rfl)
theorem dX0_begin_41 : decode cX0_begin 41 = .ok (.goto (-17), 3) := DX0_begin_0 (41, .goto (-17), 3) (List.mem_of_getElem? (i := 27) rfl)
theorem dX0_begin_44 : decode cX0_begin 44 = .ok (.aload_n 0, 1) := DX0_begin_0 (44, .aload_n 0, 1) (List.mem_of_getElem? (i := 28) rfl)
theorem dX0_begin_45 : decode cX0_begin 45 = .ok (.dup, 1) := DX0_begin_0 (45, .dup, 1) (List.mem_of_getElem? (i := 29) rfl)
theorem dX0_begin_46 : decode cX0_begin 46 = .ok (.getfield 15, 3) := DX0_begin_0 (46, .getfield 15, 3) (List.mem_of_getElem? (i := 30) rfl)
theorem dX0_begin_49 : decode cX0_begin 49 = .ok (.iconst 1, 1) := DX0_begin_0 (49, .iconst 1, 1) (List.mem_of_getElem? (i := 31) rfl)
theorem dX0_begin_50 : decode cX0_begin 50 = .ok (.iadd, 1) := DX0_begin_0 (50, .iadd, 1) (List.mem_of_getElem? (i := 32) rfl)
theorem dX0_begin_51 : decode cX0_begin 51 = .ok (.putfield 15, 3) := DX0_begin_0 (51, .putfield 15, 3) (List.mem_of_getElem? (i := 33) rfl)
theorem dX0_begin_54 : decode cX0_begin 54 = .ok (.return_, 1) := DX0_begin_0 (54, .return_, 1) (List.mem_of_getElem? (i := 34) rfl)
abbrev rmX0_begin : Room := { frames := 1, cells := 0, slots := 0, locals := 20 }
set_option maxHeartbeats 400000 in
set_option maxRecDepth 100000 in
theorem met_X0_begin (l : Launch) (D : va_G) (kA : Nat → ClassId) (a : Nat → Nat) (n : Nat) (V0 : Sz) (x1 : Int) (hDt : ∀ w : Sz, va_D (fun _ => True) (cs_X0 kA a w)) {Vr : Sz} (hf : f_X0_begin n V0 x1 = some Vr) : MZ l yX0_begin cX0_begin 4 none rmX0_begin D kA [.ref (a 0), vI x1] (cs_X0 kA a V0) (cs_X0 kA a Vr) (none) := by
  refine zZV (own := RX0) rfl rfl (Nat.le_of_ble_eq_true rfl) ?_
  intro p e s m args below meth c ls Q hC hK hP hl hret
  have hl : lv_has ls 4 [(0, .ref (a 0)), (1, vI x1)] := hl
  have hS : va_S (zF (cs_X0 kA a V0)) s.heap s.heap [] := va_S.rf
  have hD := zDself (C := fun w : Sz => (cs_X0 kA a w)) hDt V0 (fun _ => rfl)
  try dsimp only at hD
  generalize hAe : zF (cs_X0 kA a V0) = A0 at hS hD hret
  unfold f_X0_begin at hf
  have L24 : ∀ (k24 : Nat) (y2 : Int) (y3 : Int) (V : Sz) (H : Heap) (locs : List Loc) (ls : Array Slot), lpF (bX0_begin_24 n x1) k24 (y2, y3, V) = some Vr → va_P D vwCl (cs_X0 kA a V) H → va_S A0 s.heap H locs → lv_has ls 4 [(0, .ref (a 0)), (2, vI y2), (3, vI y3)] → W p l e rmX0_begin s m args below meth c H locs 0 0 Q (F0 m 24 ls []) := by
    intro k24
    induction k24 with
    | zero => intro y2 y3 V H locs ls hf hP hS hl; exact lp_0 hf
    | succ k24 ih24 =>
      intro y2 y3 V H locs ls hf hP hS hl
      have hf := lp_s hf
      rw [bX0_begin_24_e] at hf
      refine ziload_n hC.1 hC.2.1 dX0_begin_24 rfl (lv_at hl 2 rfl) <| ziconst hC.1 hC.2.1 dX0_begin_25 <| ?_
      obtain ⟨hz_5, hf⟩ := ck_some hf
      refine zicmp_ge (tgt := 44) hC.1 hC.2.1 ⟨hz_5, (by decide)⟩ dX0_begin_26 (by decide) (fun hc => ?_) (fun hc => ?_)
      · have hf := it_t hf hc
        refine lv_aload_n hC.1 hC.2.1 dX0_begin_44 rfl (lv_at hl 0 rfl) <| lv_dup hC.1 hC.2.1 dX0_begin_45 rfl <| gfX0_15 hC hK hP (q0 := 0) rfl rfl dX0_begin_46 <| ziconst hC.1 hC.2.1 dX0_begin_49 <| ziadd hC.1 hC.2.1 dX0_begin_50 <| ?_
        refine pfX0_15 hC hK hP (hD V) hS (q0 := 0) rfl (Nat.le_of_ble_eq_true rfl) dX0_begin_51 (fun H locs hP hS => ?_)
        obtain ⟨V_6, eV_6⟩ : ∃ y, y = us V 0 ((V 0 0) + 1) := ⟨_, rfl⟩
        have hf := nm_at hf eV_6
        have hP : va_P D vwCl (cs_X0 kA a V_6) H := by rw [eV_6]; exact hP
        have hf := Option.some.inj hf
        exact hret _ _ _ _ rfl (by rw [← hf]; exact hP) hS dX0_begin_54
      · have hf := it_f hf hc
        refine lv_aload_n hC.1 hC.2.1 dX0_begin_29 rfl (lv_at hl 0 rfl) <| gfX0_11 hC hK hP (q0 := 0) rfl rfl dX0_begin_30 <| ziload_n hC.1 hC.2.1 dX0_begin_33 rfl (lv_at hl 1 rfl) <| ziload_n hC.1 hC.2.1 dX0_begin_34 rfl (lv_at hl 2 rfl) <| ziadd hC.1 hC.2.1 dX0_begin_35 <| ziconst hC.1 hC.2.1 dX0_begin_36 <| ?_
        obtain ⟨hz_7, hf⟩ := ck_some hf
        refine jas hC hK hP (hD V) hS (q0 := 1) rfl (Nat.le_of_ble_eq_true rfl) hz_7 rfl dX0_begin_37 (fun H locs hP hS => ?_)
        obtain ⟨V_8, eV_8⟩ : ∃ y, y = uz V 1 (y2 + y3).toNat 0 := ⟨_, rfl⟩
        have hf := nm_at hf eV_8
        have hP : va_P D vwCl (cs_X0 kA a V_8) H := by rw [eV_8]; exact hP
        obtain ⟨x_9, ex_9⟩ : ∃ y : Int, y = y3 + 1 := ⟨_, rfl⟩
        have hf := nm_at hf ex_9
        refine ziinc (v := x_9) (lv' := [(3, vI x_9), (0, .ref (a 0)), (2, vI y2)]) hC.1 hC.2.1 dX0_begin_38 hl (k := 2) rfl ex_9 (by decide) rfl (fun ls hl => ?_)
        exact lv_goto (tgt := 24) hC.1 hC.2.1 dX0_begin_41 (by decide) <| ih24 _ _ _ _ _ _ hf hP hS (lv_sub hl [1, 2, 0] rfl)
  refine lv_aload_n hC.1 hC.2.1 dX0_begin_0 rfl (lv_at hl 0 rfl) <| ?_
  obtain ⟨r_1, hu, hf⟩ := bd_some hf
  refine zcVP (As := []) (rest := []) hC hK (met_X0_isFull l D kA a V0 hu) zwX0_23 hP (q0 := 0) rfl rfl rfl rfl hl.1 rfl (Nat.le_of_ble_eq_true rfl) ⟨Nat.le_of_ble_eq_true rfl, Nat.le_of_ble_eq_true rfl⟩ ⟨rfl, rfl⟩ ⟨Nat.le_refl _, Nat.le_refl _⟩ dX0_begin_1 <| zifb_eq (tgt := 8) hC.1 hC.2.1 dX0_begin_4 (by decide) (fun hc => ?_) (fun hc => ?_)
  · have hf := it_t hf hc
    refine lv_aload_n hC.1 hC.2.1 dX0_begin_8 rfl (lv_at hl 0 rfl) <| gfX0_15 hC hK hP (q0 := 0) rfl rfl dX0_begin_9 <| ziconst hC.1 hC.2.1 dX0_begin_12 <| zimul hC.1 hC.2.1 dX0_begin_13 <| ?_
    refine ztopi (fun x_2 ex_2 => ?_)
    have hf := nm_at hf ex_2
    refine zistore_n (lv' := [(2, vI x_2), (0, .ref (a 0)), (1, vI x1)]) hC.1 hC.2.1 dX0_begin_14 rfl hl (by decide) rfl (fun ls hl => ?_)
    refine lv_aload_n hC.1 hC.2.1 dX0_begin_15 rfl (lv_at hl 1 rfl) <| gfX0_11 hC hK hP (q0 := 0) rfl rfl dX0_begin_16 <| ziload_n hC.1 hC.2.1 dX0_begin_19 rfl (lv_at hl 0 rfl) <| ziload_n hC.1 hC.2.1 dX0_begin_20 rfl (lv_at hl 2 rfl) <| ?_
    obtain ⟨hz_3, hf⟩ := ck_some hf
    refine jas hC hK hP (hD V0) hS (q0 := 1) rfl (Nat.le_of_ble_eq_true rfl) hz_3 rfl dX0_begin_21 (fun H locs hP hS => ?_)
    obtain ⟨V_4, eV_4⟩ : ∃ y, y = uz V0 1 x_2.toNat x1 := ⟨_, rfl⟩
    have hf := nm_at hf eV_4
    have hP : va_P D vwCl (cs_X0 kA a V_4) H := by rw [eV_4]; exact hP
    refine ziconst hC.1 hC.2.1 dX0_begin_22 <| zistore_n (lv' := [(3, vI 1), (2, vI x_2), (0, .ref (a 0)), (1, vI x1)]) hC.1 hC.2.1 dX0_begin_23 rfl hl (by decide) rfl (fun ls hl => ?_)
    exact L24 n _ _ _ _ _ _ hf hP hS (lv_sub hl [2, 1, 0] rfl)
  · have hf := it_f hf hc
    have hf := Option.some.inj hf
    exact hret _ _ _ _ rfl (by rw [← hf]; exact hP) hS dX0_begin_7
theorem DX0_enter_0 : ∀ q ∈ ([(0, .aload_n 0, 1), (1, .getfield 15, 3), (4, .ifCond .ne 4, 3), (7, .return_, 1), (8, .aload_n 0, 1), (9, .getfield 15, 3), (12, .iconst 1, 1), (13, .isub, 1), (14, .iconst 5, 1), (15, .imul, 1), (16, .istore_n 2, 1), (17, .iload_n 1, 1), (18, .ifCond .le 30, 3), (21, .aload_n 0, 1), (22, .getfield 11, 3), (25, .iload_n 2, 1), (26, .iconst 1, 1), (27, .iadd, 1), (28, .dup2, 1), (29, .iaload, 1), (30, .iload_n 1, 1), (31, .iadd, 1), (32, .iastore, 1), (33, .aload_n 0, 1), (34, .getfield 11, 3), (37, .iload_n 2, 1), (38, .iconst 3, 1), (39, .iadd, 1), (40, .dup2, 1), (41, .iaload, 1), (42, .iconst 1, 1), (43, .iadd, 1), (44, .iastore, 1), (45, .goto 31, 3), (48, .iload_n 1, 1), (49, .ifCond .ge 27, 3), (52, .aload_n 0, 1), (53, .getfield 11, 3), (56, .iload_n 2, 1), (57, .iconst 2, 1)] : List (Nat × Instr × Nat)), decode cX0_enter q.1 = .ok q.2 := by decide +kernel
theorem dX0_enter_0 : decode cX0_enter 0 = .ok (.aload_n 0, 1) := DX0_enter_0 (0, .aload_n 0, 1) (List.mem_of_getElem? (i := 0) rfl)
theorem dX0_enter_1 : decode cX0_enter 1 = .ok (.getfield 15, 3) := DX0_enter_0 (1, .getfield 15, 3) (List.mem_of_getElem? (i := 1) rfl)
theorem dX0_enter_4 : decode cX0_enter 4 = .ok (.ifCond .ne 4, 3) := DX0_enter_0 (4, .ifCond .ne 4, 3) (List.mem_of_getElem? (i := 2) rfl)
theorem dX0_enter_7 : decode cX0_enter 7 = .ok (.return_, 1) := DX0_enter_0 (7, .return_, 1) (List.mem_of_getElem? (i := 3) rfl)
theorem dX0_enter_8 : decode cX0_enter 8 = .ok (.aload_n 0, 1) := DX0_enter_0 (8, .aload_n 0, 1) (List.mem_of_getElem? (i := 4) rfl)
theorem dX0_enter_9 : decode cX0_enter 9 = .ok (.getfield 15, 3) := DX0_enter_0 (9, .getfield 15, 3) (List.mem_of_getElem? (i := 5) rfl)
theorem dX0_enter_12 : decode cX0_enter 12 = .ok (.iconst 1, 1) := DX0_enter_0 (12, .iconst 1, 1) (List.mem_of_getElem? (i := 6) rfl)
theorem dX0_enter_13 : decode cX0_enter 13 = .ok (.isub, 1) := DX0_enter_0 (13, .isub, 1) (List.mem_of_getElem? (i := 7) rfl)
theorem dX0_enter_14 : decode cX0_enter 14 = .ok (.iconst 5, 1) := DX0_enter_0 (14, .iconst 5, 1) (List.mem_of_getElem? (i := 8) rfl)
theorem dX0_enter_15 : decode cX0_enter 15 = .ok (.imul, 1) := DX0_enter_0 (15, .imul, 1) (List.mem_of_getElem? (i := 9) rfl)
theorem dX0_enter_16 : decode cX0_enter 16 = .ok (.istore_n 2, 1) := DX0_enter_0 (16, .istore_n 2, 1) (List.mem_of_getElem? (i := 10) rfl)
theorem dX0_enter_17 : decode cX0_enter 17 = .ok (.iload_n 1, 1) := DX0_enter_0 (17, .iload_n 1, 1) (List.mem_of_getElem? (i := 11) rfl)
theorem dX0_enter_18 : decode cX0_enter 18 = .ok (.ifCond .le 30, 3) := DX0_enter_0 (18, .ifCond .le 30, 3) (List.mem_of_getElem? (i := 12) rfl)
theorem dX0_enter_21 : decode cX0_enter 21 = .ok (.aload_n 0, 1) := DX0_enter_0 (21, .aload_n 0, 1) (List.mem_of_getElem? (i := 13) rfl)
theorem dX0_enter_22 : decode cX0_enter 22 = .ok (.getfield 11, 3) := DX0_enter_0 (22, .getfield 11, 3) (List.mem_of_getElem? (i := 14) rfl)
theorem dX0_enter_25 : decode cX0_enter 25 = .ok (.iload_n 2, 1) := DX0_enter_0 (25, .iload_n 2, 1) (List.mem_of_getElem? (i := 15) rfl)
theorem dX0_enter_26 : decode cX0_enter 26 = .ok (.iconst 1, 1) := DX0_enter_0 (26, .iconst 1, 1) (List.mem_of_getElem? (i := 16) rfl)
theorem dX0_enter_27 : decode cX0_enter 27 = .ok (.iadd, 1) := DX0_enter_0 (27, .iadd, 1) (List.mem_of_getElem? (i := 17) rfl)
theorem dX0_enter_28 : decode cX0_enter 28 = .ok (.dup2, 1) := DX0_enter_0 (28, .dup2, 1) (List.mem_of_getElem? (i := 18) rfl)
theorem dX0_enter_29 : decode cX0_enter 29 = .ok (.iaload, 1) := DX0_enter_0 (29, .iaload, 1) (List.mem_of_getElem? (i := 19) rfl)
theorem dX0_enter_30 : decode cX0_enter 30 = .ok (.iload_n 1, 1) := DX0_enter_0 (30, .iload_n 1, 1) (List.mem_of_getElem? (i := 20) rfl)
theorem dX0_enter_31 : decode cX0_enter 31 = .ok (.iadd, 1) := DX0_enter_0 (31, .iadd, 1) (List.mem_of_getElem? (i := 21) rfl)
theorem dX0_enter_32 : decode cX0_enter 32 = .ok (.iastore, 1) := DX0_enter_0 (32, .iastore, 1) (List.mem_of_getElem? (i := 22) rfl)
theorem dX0_enter_33 : decode cX0_enter 33 = .ok (.aload_n 0, 1) := DX0_enter_0 (33, .aload_n 0, 1) (List.mem_of_getElem? (i := 23) rfl)
theorem dX0_enter_34 : decode cX0_enter 34 = .ok (.getfield 11, 3) := DX0_enter_0 (34, .getfield 11, 3) (List.mem_of_getElem? (i := 24) rfl)
theorem dX0_enter_37 : decode cX0_enter 37 = .ok (.iload_n 2, 1) := DX0_enter_0 (37, .iload_n 2, 1) (List.mem_of_getElem? (i := 25) rfl)
theorem dX0_enter_38 : decode cX0_enter 38 = .ok (.iconst 3, 1) := DX0_enter_0 (38, .iconst 3, 1) (List.mem_of_getElem? (i := 26) rfl)
theorem dX0_enter_39 : decode cX0_enter 39 = .ok (.iadd, 1) := DX0_enter_0 (39, .iadd, 1) (List.mem_of_getElem? (i := 27) rfl)
theorem dX0_enter_40 : decode cX0_enter 40 = .ok (.dup2, 1) := DX0_enter_0 (40, .dup2, 1) (List.mem_of_getElem? (i := 28) rfl)
theorem dX0_enter_41 : decode cX0_enter 41 = .ok (.iaload, 1) := DX0_enter_0 (41, .iaload, 1) (List.mem_of_getElem? (i := 29) rfl)
theorem dX0_enter_42 : decode cX0_enter 42 = .ok (.iconst 1, 1) := DX0_enter_0 (42, .iconst 1, 1) (List.mem_of_getElem? (i := 30) rfl)
theorem dX0_enter_43 : decode cX0_enter 43 = .ok (.iadd, 1) := DX0_enter_0 (43, .iadd, 1) (List.mem_of_getElem? (i := 31) rfl)
theorem dX0_enter_44 : decode cX0_enter 44 = .ok (.iastore, 1) := DX0_enter_0 (44, .iastore, 1) (List.mem_of_getElem? (i := 32) rfl)
theorem dX0_enter_45 : decode cX0_enter 45 = .ok (.goto 31, 3) := DX0_enter_0 (45, .goto 31, 3) (List.mem_of_getElem? (i := 33) rfl)
theorem dX0_enter_48 : decode cX0_enter 48 = .ok (.iload_n 1, 1) := DX0_enter_0 (48, .iload_n 1, 1) (List.mem_of_getElem? (i := 34) rfl)
theorem dX0_enter_49 : decode cX0_enter 49 = .ok (.ifCond .ge 27, 3) := DX0_enter_0 (49, .ifCond .ge 27, 3) (List.mem_of_getElem? (i := 35) rfl)
theorem dX0_enter_52 : decode cX0_enter 52 = .ok (.aload_n 0, 1) := DX0_enter_0 (52, .aload_n 0, 1) (List.mem_of_getElem? (i := 36) rfl)
theorem dX0_enter_53 : decode cX0_enter 53 = .ok (.getfield 11, 3) := DX0_enter_0 (53, .getfield 11, 3) (List.mem_of_getElem? (i := 37) rfl)
theorem dX0_enter_56 : decode cX0_enter 56 = .ok (.iload_n 2, 1) := DX0_enter_0 (56, .iload_n 2, 1) (List.mem_of_getElem? (i := 38) rfl)
theorem dX0_enter_57 : decode cX0_enter 57 = .ok (.iconst 2, 1) := DX0_enter_0 (57, .iconst 2, 1) (List.mem_of_getElem? (i := 39) rfl)
theorem DX0_enter_1 : ∀ q ∈ ([(58, .iadd, 1), (59, .dup2, 1), (60, .iaload, 1), (61, .iload_n 1, 1), (62, .isub, 1), (63, .iastore, 1), (64, .aload_n 0, 1), (65, .getfield 11, 3), (68, .iload_n 2, 1), (69, .iconst 4, 1), (70, .iadd, 1), (71, .dup2, 1), (72, .iaload, 1), (73, .iconst 1, 1), (74, .iadd, 1), (75, .iastore, 1), (76, .return_, 1)] : List (Nat × Instr × Nat)), decode cX0_enter q.1 = .ok q.2 := by decide +kernel
theorem dX0_enter_58 : decode cX0_enter 58 = .ok (.iadd, 1) := DX0_enter_1 (58, .iadd, 1) (List.mem_of_getElem? (i := 0) rfl)
theorem dX0_enter_59 : decode cX0_enter 59 = .ok (.dup2, 1) := DX0_enter_1 (59, .dup2, 1) (List.mem_of_getElem? (i := 1) rfl)
theorem dX0_enter_60 : decode cX0_enter 60 = .ok (.iaload, 1) := DX0_enter_1 (60, .iaload, 1) (List.mem_of_getElem? (i := 2) rfl)
theorem dX0_enter_61 : decode cX0_enter 61 = .ok (.iload_n 1, 1) := DX0_enter_1 (61, .iload_n 1, 1) (List.mem_of_getElem? (i := 3) rfl)
theorem dX0_enter_62 : decode cX0_enter 62 = .ok (.isub, 1) := DX0_enter_1 (62, .isub, 1) (List.mem_of_getElem? (i := 4) rfl)
theorem dX0_enter_63 : decode cX0_enter 63 = .ok (.iastore, 1) := DX0_enter_1 (63, .iastore, 1) (List.mem_of_getElem? (i := 5) rfl)
theorem dX0_enter_64 : decode cX0_enter 64 = .ok (.aload_n 0, 1) := DX0_enter_1 (64, .aload_n 0, 1) (List.mem_of_getElem? (i := 6) rfl)
theorem dX0_enter_65 : decode cX0_enter 65 = .ok (.getfield 11, 3) := DX0_enter_1 (65, .getfield 11, 3) (List.mem_of_getElem? (i := 7) rfl)
theorem dX0_enter_68 : decode cX0_enter 68 = .ok (.iload_n 2, 1) := DX0_enter_1 (68, .iload_n 2, 1) (List.mem_of_getElem? (i := 8) rfl)
theorem dX0_enter_69 : decode cX0_enter 69 = .ok (.iconst 4, 1) := DX0_enter_1 (69, .iconst 4, 1) (List.mem_of_getElem? (i := 9) rfl)
theorem dX0_enter_70 : decode cX0_enter 70 = .ok (.iadd, 1) := DX0_enter_1 (70, .iadd, 1) (List.mem_of_getElem? (i := 10) rfl)
theorem dX0_enter_71 : decode cX0_enter 71 = .ok (.dup2, 1) := DX0_enter_1 (71, .dup2, 1) (List.mem_of_getElem? (i := 11) rfl)
theorem dX0_enter_72 : decode cX0_enter 72 = .ok (.iaload, 1) := DX0_enter_1 (72, .iaload, 1) (List.mem_of_getElem? (i := 12) rfl)
theorem dX0_enter_73 : decode cX0_enter 73 = .ok (.iconst 1, 1) := DX0_enter_1 (73, .iconst 1, 1) (List.mem_of_getElem? (i := 13) rfl)
theorem dX0_enter_74 : decode cX0_enter 74 = .ok (.iadd, 1) := DX0_enter_1 (74, .iadd, 1) (List.mem_of_getElem? (i := 14) rfl)
theorem dX0_enter_75 : decode cX0_enter 75 = .ok (.iastore, 1) := DX0_enter_1 (75, .iastore, 1) (List.mem_of_getElem? (i := 15) rfl)
theorem dX0_enter_76 : decode cX0_enter 76 = .ok (.return_, 1) := DX0_enter_1 (76, .return_, 1) (List.mem_of_getElem? (i := 16) rfl)
abbrev rmX0_enter : Room := { frames := 0, cells := 0, slots := 0, locals := 0 }
set_option maxHeartbeats 400000 in
set_option maxRecDepth 100000 in
theorem met_X0_enter (l : Launch) (D : va_G) (kA : Nat → ClassId) (a : Nat → Nat) (V0 : Sz) (x1 : Int) (hDt : ∀ w : Sz, va_D (fun _ => True) (cs_X0 kA a w)) {Vr : Sz} (hf : f_X0_enter V0 x1 = some Vr) : MZ l yX0_enter cX0_enter 3 none rmX0_enter D kA [.ref (a 0), vI x1] (cs_X0 kA a V0) (cs_X0 kA a Vr) (none) := by
  refine zZV (own := RX0) rfl rfl (Nat.le_of_ble_eq_true rfl) ?_
  intro p e s m args below meth c ls Q hC hK hP hl hret
  have hl : lv_has ls 3 [(0, .ref (a 0)), (1, vI x1)] := hl
  have hS : va_S (zF (cs_X0 kA a V0)) s.heap s.heap [] := va_S.rf
  have hD := zDself (C := fun w : Sz => (cs_X0 kA a w)) hDt V0 (fun _ => rfl)
  try dsimp only at hD
  generalize hAe : zF (cs_X0 kA a V0) = A0 at hS hD hret
  unfold f_X0_enter at hf
  refine lv_aload_n hC.1 hC.2.1 dX0_enter_0 rfl (lv_at hl 0 rfl) <| gfX0_15 hC hK hP (q0 := 0) rfl rfl dX0_enter_1 <| ?_
  obtain ⟨hz_1, hf⟩ := ck_some hf
  refine zif_ne (tgt := 8) hC.1 hC.2.1 hz_1 dX0_enter_4 (by decide) (fun hc => ?_) (fun hc => ?_)
  · have hf := it_f hf hc
    refine lv_aload_n hC.1 hC.2.1 dX0_enter_8 rfl (lv_at hl 0 rfl) <| gfX0_15 hC hK hP (q0 := 0) rfl rfl dX0_enter_9 <| ziconst hC.1 hC.2.1 dX0_enter_12 <| zisub hC.1 hC.2.1 dX0_enter_13 <| ziconst hC.1 hC.2.1 dX0_enter_14 <| zimul hC.1 hC.2.1 dX0_enter_15 <| ?_
    refine ztopi (fun x_2 ex_2 => ?_)
    have hf := nm_at hf ex_2
    refine zistore_n (lv' := [(2, vI x_2), (0, .ref (a 0)), (1, vI x1)]) hC.1 hC.2.1 dX0_enter_16 rfl hl (by decide) rfl (fun ls hl => ?_)
    refine ziload_n hC.1 hC.2.1 dX0_enter_17 rfl (lv_at hl 2 rfl) <| ?_
    obtain ⟨hz_3, hf⟩ := ck_some hf
    refine zif_le (tgt := 48) hC.1 hC.2.1 hz_3 dX0_enter_18 (by decide) (fun hc => ?_) (fun hc => ?_)
    · have hf := it_t hf hc
      refine ziload_n hC.1 hC.2.1 dX0_enter_48 rfl (lv_at hl 2 rfl) <| zif_ge (tgt := 76) hC.1 hC.2.1 hz_3 dX0_enter_49 (by decide) (fun hc => ?_) (fun hc => ?_)
      · have hf := it_t hf hc
        have hf := Option.some.inj hf
        exact hret _ _ _ _ rfl (by rw [← hf]; exact hP) hS dX0_enter_76
      · have hf := it_f hf hc
        refine lv_aload_n hC.1 hC.2.1 dX0_enter_52 rfl (lv_at hl 1 rfl) <| gfX0_11 hC hK hP (q0 := 0) rfl rfl dX0_enter_53 <| ziload_n hC.1 hC.2.1 dX0_enter_56 rfl (lv_at hl 0 rfl) <| ziconst hC.1 hC.2.1 dX0_enter_57 <| ziadd hC.1 hC.2.1 dX0_enter_58 <| lv_dup2_11 hC.1 hC.2.1 dX0_enter_59 rfl rfl <| ?_
        obtain ⟨hz_4, hf⟩ := ck_some hf
        refine jal hC hK hP (q0 := 1) rfl (Nat.le_of_ble_eq_true rfl) hz_4 rfl dX0_enter_60 <| ziload_n hC.1 hC.2.1 dX0_enter_61 rfl (lv_at hl 2 rfl) <| zisub hC.1 hC.2.1 dX0_enter_62 <| ?_
        refine jas hC hK hP (hD V0) hS (q0 := 1) rfl (Nat.le_of_ble_eq_true rfl) hz_4 rfl dX0_enter_63 (fun H locs hP hS => ?_)
        obtain ⟨V_5, eV_5⟩ : ∃ y, y = uz V0 1 (x_2 + 2).toNat ((V0 1 (x_2 + 2).toNat) - x1) := ⟨_, rfl⟩
        have hf := nm_at hf eV_5
        have hP : va_P D vwCl (cs_X0 kA a V_5) H := by rw [eV_5]; exact hP
        refine lv_aload_n hC.1 hC.2.1 dX0_enter_64 rfl (lv_at hl 1 rfl) <| gfX0_11 hC hK hP (q0 := 0) rfl rfl dX0_enter_65 <| ziload_n hC.1 hC.2.1 dX0_enter_68 rfl (lv_at hl 0 rfl) <| ziconst hC.1 hC.2.1 dX0_enter_69 <| ziadd hC.1 hC.2.1 dX0_enter_70 <| lv_dup2_11 hC.1 hC.2.1 dX0_enter_71 rfl rfl <| ?_
        obtain ⟨hz_6, hf⟩ := ck_some hf
        refine jal hC hK hP (q0 := 1) rfl (Nat.le_of_ble_eq_true rfl) hz_6 rfl dX0_enter_72 <| ziconst hC.1 hC.2.1 dX0_enter_73 <| ziadd hC.1 hC.2.1 dX0_enter_74 <| ?_
        refine jas hC hK hP (hD V_5) hS (q0 := 1) rfl (Nat.le_of_ble_eq_true rfl) hz_6 rfl dX0_enter_75 (fun H locs hP hS => ?_)
        obtain ⟨V_7, eV_7⟩ : ∃ y, y = uz V_5 1 (x_2 + 4).toNat ((V_5 1 (x_2 + 4).toNat) + 1) := ⟨_, rfl⟩
        have hf := nm_at hf eV_7
        have hP : va_P D vwCl (cs_X0 kA a V_7) H := by rw [eV_7]; exact hP
        have hf := Option.some.inj hf
        exact hret _ _ _ _ rfl (by rw [← hf]; exact hP) hS dX0_enter_76
    · have hf := it_f hf hc
      refine lv_aload_n hC.1 hC.2.1 dX0_enter_21 rfl (lv_at hl 1 rfl) <| gfX0_11 hC hK hP (q0 := 0) rfl rfl dX0_enter_22 <| ziload_n hC.1 hC.2.1 dX0_enter_25 rfl (lv_at hl 0 rfl) <| ziconst hC.1 hC.2.1 dX0_enter_26 <| ziadd hC.1 hC.2.1 dX0_enter_27 <| lv_dup2_11 hC.1 hC.2.1 dX0_enter_28 rfl rfl <| ?_
      obtain ⟨hz_8, hf⟩ := ck_some hf
      refine jal hC hK hP (q0 := 1) rfl (Nat.le_of_ble_eq_true rfl) hz_8 rfl dX0_enter_29 <| ziload_n hC.1 hC.2.1 dX0_enter_30 rfl (lv_at hl 2 rfl) <| ziadd hC.1 hC.2.1 dX0_enter_31 <| ?_
      refine jas hC hK hP (hD V0) hS (q0 := 1) rfl (Nat.le_of_ble_eq_true rfl) hz_8 rfl dX0_enter_32 (fun H locs hP hS => ?_)
      obtain ⟨V_9, eV_9⟩ : ∃ y, y = uz V0 1 (x_2 + 1).toNat ((V0 1 (x_2 + 1).toNat) + x1) := ⟨_, rfl⟩
      have hf := nm_at hf eV_9
      have hP : va_P D vwCl (cs_X0 kA a V_9) H := by rw [eV_9]; exact hP
      refine lv_aload_n hC.1 hC.2.1 dX0_enter_33 rfl (lv_at hl 1 rfl) <| gfX0_11 hC hK hP (q0 := 0) rfl rfl dX0_enter_34 <| ziload_n hC.1 hC.2.1 dX0_enter_37 rfl (lv_at hl 0 rfl) <| ziconst hC.1 hC.2.1 dX0_enter_38 <| ziadd hC.1 hC.2.1 dX0_enter_39 <| lv_dup2_11 hC.1 hC.2.1 dX0_enter_40 rfl rfl <| ?_
      obtain ⟨hz_10, hf⟩ := ck_some hf
      refine jal hC hK hP (q0 := 1) rfl (Nat.le_of_ble_eq_true rfl) hz_10 rfl dX0_enter_41 <| ziconst hC.1 hC.2.1 dX0_enter_42 <| ziadd hC.1 hC.2.1 dX0_enter_43 <| ?_
      refine jas hC hK hP (hD V_9) hS (q0 := 1) rfl (Nat.le_of_ble_eq_true rfl) hz_10 rfl dX0_enter_44 (fun H locs hP hS => ?_)
      obtain ⟨V_11, eV_11⟩ : ∃ y, y = uz V_9 1 (x_2 + 3).toNat ((V_9 1 (x_2 + 3).toNat) + 1) := ⟨_, rfl⟩
      have hf := nm_at hf eV_11
      have hP : va_P D vwCl (cs_X0 kA a V_11) H := by rw [eV_11]; exact hP
      refine lv_goto (tgt := 76) hC.1 hC.2.1 dX0_enter_45 (by decide) <| ?_
      have hf := Option.some.inj hf
      exact hret _ _ _ _ rfl (by rw [← hf]; exact hP) hS dX0_enter_76
  · have hf := it_t hf hc
    have hf := Option.some.inj hf
    exact hret _ _ _ _ rfl (by rw [← hf]; exact hP) hS dX0_enter_7
theorem DX0_latestBalance_0 : ∀ q ∈ ([(0, .aload_n 0, 1), (1, .getfield 15, 3), (4, .ifCond .ne 5, 3), (7, .iconst 0, 1), (8, .ireturn, 1), (9, .aload_n 0, 1), (10, .getfield 15, 3), (13, .iconst 1, 1), (14, .isub, 1), (15, .iconst 5, 1), (16, .imul, 1), (17, .istore_n 1, 1), (18, .aload_n 0, 1), (19, .getfield 11, 3), (22, .iload_n 1, 1), (23, .iconst 1, 1), (24, .iadd, 1), (25, .iaload, 1), (26, .aload_n 0, 1), (27, .getfield 11, 3), (30, .iload_n 1, 1), (31, .iconst 2, 1), (32, .iadd, 1), (33, .iaload, 1), (34, .isub, 1), (35, .ireturn, 1)] : List (Nat × Instr × Nat)), decode cX0_latestBalance q.1 = .ok q.2 := by decide +kernel
theorem dX0_latestBalance_0 : decode cX0_latestBalance 0 = .ok (.aload_n 0, 1) := DX0_latestBalance_0 (0, .aload_n 0, 1) (List.mem_of_getElem? (i := 0) rfl)
theorem dX0_latestBalance_1 : decode cX0_latestBalance 1 = .ok (.getfield 15, 3) := DX0_latestBalance_0 (1, .getfield 15, 3) (List.mem_of_getElem? (i := 1) rfl)
theorem dX0_latestBalance_4 : decode cX0_latestBalance 4 = .ok (.ifCond .ne 5, 3) := DX0_latestBalance_0 (4, .ifCond .ne 5, 3) (List.mem_of_getElem? (i := 2) rfl)
theorem dX0_latestBalance_7 : decode cX0_latestBalance 7 = .ok (.iconst 0, 1) := DX0_latestBalance_0 (7, .iconst 0, 1) (List.mem_of_getElem? (i := 3) rfl)
theorem dX0_latestBalance_8 : decode cX0_latestBalance 8 = .ok (.ireturn, 1) := DX0_latestBalance_0 (8, .ireturn, 1) (List.mem_of_getElem? (i := 4) rfl)
theorem dX0_latestBalance_9 : decode cX0_latestBalance 9 = .ok (.aload_n 0, 1) := DX0_latestBalance_0 (9, .aload_n 0, 1) (List.mem_of_getElem? (i := 5) rfl)
theorem dX0_latestBalance_10 : decode cX0_latestBalance 10 = .ok (.getfield 15, 3) := DX0_latestBalance_0 (10, .getfield 15, 3) (List.mem_of_getElem? (i := 6) rfl)
theorem dX0_latestBalance_13 : decode cX0_latestBalance 13 = .ok (.iconst 1, 1) := DX0_latestBalance_0 (13, .iconst 1, 1) (List.mem_of_getElem? (i := 7) rfl)
theorem dX0_latestBalance_14 : decode cX0_latestBalance 14 = .ok (.isub, 1) := DX0_latestBalance_0 (14, .isub, 1) (List.mem_of_getElem? (i := 8) rfl)
theorem dX0_latestBalance_15 : decode cX0_latestBalance 15 = .ok (.iconst 5, 1) := DX0_latestBalance_0 (15, .iconst 5, 1) (List.mem_of_getElem? (i := 9) rfl)
theorem dX0_latestBalance_16 : decode cX0_latestBalance 16 = .ok (.imul, 1) := DX0_latestBalance_0 (16, .imul, 1) (List.mem_of_getElem? (i := 10) rfl)
theorem dX0_latestBalance_17 : decode cX0_latestBalance 17 = .ok (.istore_n 1, 1) := DX0_latestBalance_0 (17, .istore_n 1, 1) (List.mem_of_getElem? (i := 11) rfl)
theorem dX0_latestBalance_18 : decode cX0_latestBalance 18 = .ok (.aload_n 0, 1) := DX0_latestBalance_0 (18, .aload_n 0, 1) (List.mem_of_getElem? (i := 12) rfl)
theorem dX0_latestBalance_19 : decode cX0_latestBalance 19 = .ok (.getfield 11, 3) := DX0_latestBalance_0 (19, .getfield 11, 3) (List.mem_of_getElem? (i := 13) rfl)
theorem dX0_latestBalance_22 : decode cX0_latestBalance 22 = .ok (.iload_n 1, 1) := DX0_latestBalance_0 (22, .iload_n 1, 1) (List.mem_of_getElem? (i := 14) rfl)
theorem dX0_latestBalance_23 : decode cX0_latestBalance 23 = .ok (.iconst 1, 1) := DX0_latestBalance_0 (23, .iconst 1, 1) (List.mem_of_getElem? (i := 15) rfl)
theorem dX0_latestBalance_24 : decode cX0_latestBalance 24 = .ok (.iadd, 1) := DX0_latestBalance_0 (24, .iadd, 1) (List.mem_of_getElem? (i := 16) rfl)
theorem dX0_latestBalance_25 : decode cX0_latestBalance 25 = .ok (.iaload, 1) := DX0_latestBalance_0 (25, .iaload, 1) (List.mem_of_getElem? (i := 17) rfl)
theorem dX0_latestBalance_26 : decode cX0_latestBalance 26 = .ok (.aload_n 0, 1) := DX0_latestBalance_0 (26, .aload_n 0, 1) (List.mem_of_getElem? (i := 18) rfl)
theorem dX0_latestBalance_27 : decode cX0_latestBalance 27 = .ok (.getfield 11, 3) := DX0_latestBalance_0 (27, .getfield 11, 3) (List.mem_of_getElem? (i := 19) rfl)
theorem dX0_latestBalance_30 : decode cX0_latestBalance 30 = .ok (.iload_n 1, 1) := DX0_latestBalance_0 (30, .iload_n 1, 1) (List.mem_of_getElem? (i := 20) rfl)
theorem dX0_latestBalance_31 : decode cX0_latestBalance 31 = .ok (.iconst 2, 1) := DX0_latestBalance_0 (31, .iconst 2, 1) (List.mem_of_getElem? (i := 21) rfl)
theorem dX0_latestBalance_32 : decode cX0_latestBalance 32 = .ok (.iadd, 1) := DX0_latestBalance_0 (32, .iadd, 1) (List.mem_of_getElem? (i := 22) rfl)
theorem dX0_latestBalance_33 : decode cX0_latestBalance 33 = .ok (.iaload, 1) := DX0_latestBalance_0 (33, .iaload, 1) (List.mem_of_getElem? (i := 23) rfl)
theorem dX0_latestBalance_34 : decode cX0_latestBalance 34 = .ok (.isub, 1) := DX0_latestBalance_0 (34, .isub, 1) (List.mem_of_getElem? (i := 24) rfl)
theorem dX0_latestBalance_35 : decode cX0_latestBalance 35 = .ok (.ireturn, 1) := DX0_latestBalance_0 (35, .ireturn, 1) (List.mem_of_getElem? (i := 25) rfl)
abbrev rmX0_latestBalance : Room := { frames := 0, cells := 0, slots := 0, locals := 0 }
set_option maxHeartbeats 400000 in
set_option maxRecDepth 100000 in
theorem met_X0_latestBalance (l : Launch) (D : va_G) (kA : Nat → ClassId) (a : Nat → Nat) (V : Sz) {r : Int} (hf : f_X0_latestBalance V = some r) : MP l yX0_latestBalance cX0_latestBalance 2 (some .int) rmX0_latestBalance D kA [.ref (a 0)] (cs_X0 kA a V) (some (vI r)) := by
  refine zPI (own := RX0) rfl rfl (Nat.le_of_ble_eq_true rfl) ?_
  intro p e s m args below meth c ls Q hC hK hP hl hret
  have hl : lv_has ls 2 [(0, .ref (a 0))] := hl
  unfold f_X0_latestBalance at hf
  refine lv_aload_n hC.1 hC.2.1 dX0_latestBalance_0 rfl (lv_at hl 0 rfl) <| gfX0_15 hC hK hP (q0 := 0) rfl rfl dX0_latestBalance_1 <| ?_
  obtain ⟨hz_1, hf⟩ := ck_some hf
  refine zif_ne (tgt := 9) hC.1 hC.2.1 hz_1 dX0_latestBalance_4 (by decide) (fun hc => ?_) (fun hc => ?_)
  · have hf := it_f hf hc
    refine lv_aload_n hC.1 hC.2.1 dX0_latestBalance_9 rfl (lv_at hl 0 rfl) <| gfX0_15 hC hK hP (q0 := 0) rfl rfl dX0_latestBalance_10 <| ziconst hC.1 hC.2.1 dX0_latestBalance_13 <| zisub hC.1 hC.2.1 dX0_latestBalance_14 <| ziconst hC.1 hC.2.1 dX0_latestBalance_15 <| zimul hC.1 hC.2.1 dX0_latestBalance_16 <| ?_
    refine ztopi (fun x_2 ex_2 => ?_)
    have hf := nm_at hf ex_2
    refine zistore_n (lv' := [(1, vI x_2), (0, .ref (a 0))]) hC.1 hC.2.1 dX0_latestBalance_17 rfl hl (by decide) rfl (fun ls hl => ?_)
    refine lv_aload_n hC.1 hC.2.1 dX0_latestBalance_18 rfl (lv_at hl 1 rfl) <| gfX0_11 hC hK hP (q0 := 0) rfl rfl dX0_latestBalance_19 <| ziload_n hC.1 hC.2.1 dX0_latestBalance_22 rfl (lv_at hl 0 rfl) <| ziconst hC.1 hC.2.1 dX0_latestBalance_23 <| ziadd hC.1 hC.2.1 dX0_latestBalance_24 <| ?_
    obtain ⟨hz_3, hf⟩ := ck_some hf
    refine jal hC hK hP (q0 := 1) rfl (Nat.le_of_ble_eq_true rfl) hz_3 rfl dX0_latestBalance_25 <| lv_aload_n hC.1 hC.2.1 dX0_latestBalance_26 rfl (lv_at hl 1 rfl) <| gfX0_11 hC hK hP (q0 := 0) rfl rfl dX0_latestBalance_27 <| ziload_n hC.1 hC.2.1 dX0_latestBalance_30 rfl (lv_at hl 0 rfl) <| ziconst hC.1 hC.2.1 dX0_latestBalance_31 <| ziadd hC.1 hC.2.1 dX0_latestBalance_32 <| ?_
    obtain ⟨hz_4, hf⟩ := ck_some hf
    exact jal hC hK hP (q0 := 1) rfl (Nat.le_of_ble_eq_true rfl) hz_4 rfl dX0_latestBalance_33 <| zisub hC.1 hC.2.1 dX0_latestBalance_34 <| hret (Int32.ofInt ((V 1 (x_2 + 1).toNat) - (V 1 (x_2 + 2).toNat))) _ _ (qI hf) dX0_latestBalance_35
  · have hf := it_t hf hc
    exact ziconst hC.1 hC.2.1 dX0_latestBalance_7 <| hret (Int32.ofInt 0) _ _ (qI hf) dX0_latestBalance_8
