def cs_X5 (kA : Nat → ClassId) (a : Nat → Nat) (V : St) : va_W := [(a 0, .inr (5, [.ref (a 1), .int (V 1 0)])), (a 1, .inl (kA 1, 1140, .inl (V 0)))]
def f_X5_clear (V0 : St) : Option (St) := nm (us V0 1 0) fun (V_1 : St) => some V_1
def f_X5_putByte (V0 : St) (x1 : Int32) : Option (St) := if 1140 ≤ V0 1 0 then (some V0) else (ck (inb (V0 1 0) 1140) <| nm (ua V0 0 (V0 1 0) ((x1.toInt8.toInt32).toInt8.toInt32)) fun (V_1 : St) => nm (us V_1 1 ((V_1 1 0) + 1)) fun (V_2 : St) => some V_2)
def jX5_putNumber_30 (n : Nat) (x1 : Int32) (rec3 : Int32 × St → Option (St)) (y2 : Int32) (V : St) : Option (St) := nm (y2 / 10) fun (x_2 : Int32) => rec3 (x_2, V)
def jX5_putNumber_17 (n : Nat) (x1 : Int32) (rec3 : Int32 × St → Option (St)) (y2 : Int32) (V : St) : Option (St) := ck (¬ y2 = 0) <| (f_X5_putByte V (48 + ((x1 / y2) - (x1 / y2) / 10 * 10))).bind fun (V_1 : St) => jX5_putNumber_30 n x1 rec3 y2 V_1
def bX5_putNumber_3 (n : Nat) (x1 : Int32) (rec3 : Int32 × St → Option (St)) : Int32 × St → Option (St) := fun (y2, V) => if y2 ≤ 0 then (some V) else (if y2 = 1 then (jX5_putNumber_17 n x1 rec3 y2 V) else (if x1 < y2 then (jX5_putNumber_30 n x1 rec3 y2 V) else (jX5_putNumber_17 n x1 rec3 y2 V)))
def f_X5_putNumber (n : Nat) (V0 : St) (x1 : Int32) : Option (St) := lpF (bX5_putNumber_3 n x1) n (100000, V0)
theorem DX5_clear_0 : ∀ q ∈ ([(0, .aload_n 0, 1), (1, .iconst 0, 1), (2, .putfield 15, 3), (5, .return_, 1)] : List (Nat × Instr × Nat)), decode cX5_clear q.1 = .ok q.2 := by decide +kernel
theorem dX5_clear_0 : decode cX5_clear 0 = .ok (.aload_n 0, 1) := DX5_clear_0 _ (List.mem_of_getElem? (i := 0) rfl)
theorem dX5_clear_1 : decode cX5_clear 1 = .ok (.iconst 0, 1) := DX5_clear_0 _ (List.mem_of_getElem? (i := 1) rfl)
theorem dX5_clear_2 : decode cX5_clear 2 = .ok (.putfield 15, 3) := DX5_clear_0 _ (List.mem_of_getElem? (i := 2) rfl)
theorem dX5_clear_5 : decode cX5_clear 5 = .ok (.return_, 1) := DX5_clear_0 _ (List.mem_of_getElem? (i := 3) rfl)
abbrev rmX5_clear : Room := { frames := 0, cells := 0, slots := 0, locals := 0 }
set_option maxHeartbeats 400000 in
set_option maxRecDepth 100000 in
theorem met_X5_clear (l : Launch) (D : va_G) (kA : Nat → ClassId) (a : Nat → Nat) (V0 : St) (hDt : ∀ w : St, va_D (fun _ => True) (cs_X5 kA a w)) {Vr : St} (hf : f_X5_clear V0 = some Vr) : MZ l yX5_clear cX5_clear 1 none rmX5_clear D kA [.ref (a 0)] (cs_X5 kA a V0) (cs_X5 kA a Vr) (none) := by
  refine zZV (own := RX5) rfl rfl (Nat.le_of_ble_eq_true rfl) ?_
  intro p e s m args below meth c ls Q hC hK hP hl hret
  have hl : lv_has ls 1 [(0, .ref (a 0))] := hl
  have hS : va_S (zF (cs_X5 kA a V0)) s.heap s.heap [] := va_S.rf
  have hD := zDself (C := fun w : St => (cs_X5 kA a w)) hDt V0 (fun _ => rfl)
  dsimp only at hD
  generalize hAe : zF (cs_X5 kA a V0) = A0 at hS hD hret
  unfold f_X5_clear at hf
  refine lv_aload_n hC.1 hC.2.1 dX5_clear_0 rfl (lv_at hl 0 rfl) <| lv_iconst (v := 0) hC.1 hC.2.1 dX5_clear_1 (by decide) <| ?_
  refine pfX5_15 hC hK hP (hD V0) hS (q0 := 0) rfl (Nat.le_of_ble_eq_true rfl) dX5_clear_2 (fun H locs hP hS => ?_)
  obtain ⟨V_1, eV_1⟩ : ∃ y, y = us V0 1 0 := ⟨_, rfl⟩
  have hf := nm_at hf eV_1
  have hP : va_P D vwCl (cs_X5 kA a V_1) H := by rw [eV_1]; exact hP
  have hf := Option.some.inj hf
  exact hret _ _ _ _ rfl (by rw [← hf]; exact hP) hS dX5_clear_5
