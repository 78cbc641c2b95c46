section ZG
variable {p : Program} {l : Launch} {e : Env} {R : Room} {s : State} {m : MethodId} {args : Array Value} {below : List Frame} {meth : Method} {c : Code} {H H0 : Heap} {locs : List Loc} {cells slots : Nat} {Q : State → Prop}
variable {pc nL : Nat} {ls : Array Slot} {rest : List Value} {A0 : Nat → Prop} {D : va_G} {kA : Nat → ClassId} {cc : ByteArray}
theorem gfX7_30 {ws : va_W} {q0 b : Nat} {fs : List Value} {v : Value} (hC : CallFix p m c cc nL s args lw_all RX7) (hK : zK D kA s) (hP : va_P D vwCl ws H) (he : ws[q0]? = some (b, .inr (7, fs))) (hv : fs[6]? = some v) (hdg : decode cc pc = .ok (.getfield 30, 3)) (kk : W p l e R s m args below meth c H locs cells slots Q (F0 m (pc + 3) ls (v :: rest))) : W p l e R s m args below meth c H locs cells slots Q (F0 m pc ls (.ref b :: rest)) := va_get hC.1 hC.2.1 hC.2.2.2.2 uin_X7 hC.2.2.2.1 hK.1 hP q0 he rfl 6 (by decide) (hC.2.2.2.2 _ qw_283) (fun _ h => h) hv hdg kk
theorem gfX7_364 {ws : va_W} {q0 b : Nat} {fs : List Value} {v : Value} (hC : CallFix p m c cc nL s args lw_all RX7) (hK : zK D kA s) (hP : va_P D vwCl ws H) (he : ws[q0]? = some (b, .inr (5, fs))) (hv : fs[1]? = some v) (hdg : decode cc pc = .ok (.getfield 364, 3)) (kk : W p l e R s m args below meth c H locs cells slots Q (F0 m (pc + 3) ls (v :: rest))) : W p l e R s m args below meth c H locs cells slots Q (F0 m pc ls (.ref b :: rest)) := va_get hC.1 hC.2.1 hC.2.2.2.2 uin_X5 hC.2.2.2.1 hK.1 hP q0 he rfl 1 (by decide) (hC.2.2.2.2 _ qw_271) (fun _ h => h) hv hdg kk
theorem gfX7_367 {ws : va_W} {q0 b : Nat} {fs : List Value} {v : Value} (hC : CallFix p m c cc nL s args lw_all RX7) (hK : zK D kA s) (hP : va_P D vwCl ws H) (he : ws[q0]? = some (b, .inr (5, fs))) (hv : fs[0]? = some v) (hdg : decode cc pc = .ok (.getfield 367, 3)) (kk : W p l e R s m args below meth c H locs cells slots Q (F0 m (pc + 3) ls (v :: rest))) : W p l e R s m args below meth c H locs cells slots Q (F0 m pc ls (.ref b :: rest)) := va_get hC.1 hC.2.1 hC.2.2.2.2 uin_X5 hC.2.2.2.1 hK.1 hP q0 he rfl 0 (by decide) (hC.2.2.2.2 _ qw_269) (fun _ h => h) hv hdg kk
theorem gfX7_56 {ws : va_W} {q0 b : Nat} {fs : List Value} {v : Value} (hC : CallFix p m c cc nL s args lw_all RX7) (hK : zK D kA s) (hP : va_P D vwCl ws H) (he : ws[q0]? = some (b, .inr (7, fs))) (hv : fs[13]? = some v) (hdg : decode cc pc = .ok (.getfield 56, 3)) (kk : W p l e R s m args below meth c H locs cells slots Q (F0 m (pc + 3) ls (v :: rest))) : W p l e R s m args below meth c H locs cells slots Q (F0 m pc ls (.ref b :: rest)) := va_get hC.1 hC.2.1 hC.2.2.2.2 uin_X7 hC.2.2.2.1 hK.1 hP q0 he rfl 13 (by decide) (hC.2.2.2.2 _ qw_290) (fun _ h => h) hv hdg kk
theorem gfX7_82 {ws : va_W} {q0 b : Nat} {fs : List Value} {v : Value} (hC : CallFix p m c cc nL s args lw_all RX7) (hK : zK D kA s) (hP : va_P D vwCl ws H) (he : ws[q0]? = some (b, .inr (7, fs))) (hv : fs[7]? = some v) (hdg : decode cc pc = .ok (.getfield 82, 3)) (kk : W p l e R s m args below meth c H locs cells slots Q (F0 m (pc + 3) ls (v :: rest))) : W p l e R s m args below meth c H locs cells slots Q (F0 m pc ls (.ref b :: rest)) := va_get hC.1 hC.2.1 hC.2.2.2.2 uin_X7 hC.2.2.2.1 hK.1 hP q0 he rfl 7 (by decide) (hC.2.2.2.2 _ qw_284) (fun _ h => h) hv hdg kk
theorem zwX7_349 : zwV RX7 349 RX5 yX5_clear cX5_clear 1 none 0 := ⟨⟨qw_1171, qw_1172, qw_1173, qw_8, qw_1174⟩, rfl, by decide +kernel, by decide +kernel, by decide +kernel⟩
theorem zwX7_352 : zwV RX7 352 RX3 yX3_isPartOf cX3_isPartOf 3 (some .boolean) 2 := ⟨⟨qw_1175, qw_600, qw_601, qw_4, qw_602⟩, rfl, by decide +kernel, by decide +kernel, by decide +kernel⟩
theorem zwX7_355 : zwV RX7 355 RX3 yX3_dayOfPart cX3_dayOfPart 2 (some .int) 1 := ⟨⟨qw_1176, qw_792, qw_793, qw_4, qw_794⟩, rfl, by decide +kernel, by decide +kernel, by decide +kernel⟩
theorem zwX7_358 : zwV RX7 358 RX5 yX5_putNumber cX5_putNumber 3 none 1 := ⟨⟨qw_1177, qw_1178, qw_1179, qw_8, qw_1180⟩, rfl, by decide +kernel, by decide +kernel, by decide +kernel⟩
theorem zwX7_361 : zwV RX7 361 RX5 yX5_putByte cX5_putByte 2 none 1 := ⟨⟨qw_1186, qw_1183, qw_1184, qw_8, qw_1185⟩, rfl, by decide +kernel, by decide +kernel, by decide +kernel⟩
end ZG
def jX7_printStatement_122 (n : Nat) (X : Sz) (x1 : Int) (rec14 : Int × Sz → Option (Int × Sz)) (y2 : Int) (V : Sz) : Option (Int × Sz) := nm (y2 + 1) fun (x_6 : Int) => rec14 (x_6, V)
def bX7_printStatement_14 (n : Nat) (X : Sz) (x1 : Int) (rec14 : Int × Sz → Option (Int × Sz)) : Int × Sz → Option (Int × Sz) := fun (y2, V) => bd (f_X3_slotCount (sv 13 V)) fun (r_3 : Int) => ck (rng y2 ∧ rng r_3) <| if r_3 ≤ y2 then (some (V 100 0, V)) else (bd (f_X3_isPartOf (sv 13 V) y2 x1) fun (r_5 : Bool) => if r_5 = false then (jX7_printStatement_122 n X x1 rec14 y2 V) else (bd (f_X3_dayOfPart (sv 13 V) y2) fun (r_7 : Int) => bd (f_X5_putNumber n (sv 99 V) r_7) fun (V_8 : Sz) => nm (sw 99 2 V V_8) fun (V_9 : Sz) => bd (f_X5_putByte (sv 99 V_9) 58) fun (V_10 : Sz) => nm (sw 99 2 V_9 V_10) fun (V_11 : Sz) => bd (f_X3_leftOfPart (sv 13 V_11) y2) fun (r_12 : Int) => bd (f_X5_putNumber n (sv 99 V_11) r_12) fun (V_13 : Sz) => nm (sw 99 2 V_11 V_13) fun (V_14 : Sz) => bd (f_X5_putByte (sv 99 V_14) 43) fun (V_15 : Sz) => nm (sw 99 2 V_14 V_15) fun (V_16 : Sz) => ck (inZ y2 180) <| bd (f_X5_putNumber n (sv 99 V_16) (V_16 29 y2.toNat)) fun (V_18 : Sz) => nm (sw 99 2 V_16 V_18) fun (V_19 : Sz) => bd (f_X5_putByte (sv 99 V_19) 10) fun (V_20 : Sz) => nm (sw 99 2 V_19 V_20) fun (V_21 : Sz) => jX7_printStatement_122 n X x1 rec14 y2 V_21))
theorem bX7_printStatement_14_e (n : Nat) (X : Sz) (x1 : Int) (rec14 : Int × Sz → Option (Int × Sz)) (y2 : Int) (V : Sz) : bX7_printStatement_14 n X x1 rec14 (y2, V) = (bd (f_X3_slotCount (sv 13 V)) fun (r_3 : Int) => ck (rng y2 ∧ rng r_3) <| if r_3 ≤ y2 then (some (V 100 0, V)) else (bd (f_X3_isPartOf (sv 13 V) y2 x1) fun (r_5 : Bool) => if r_5 = false then (jX7_printStatement_122 n X x1 rec14 y2 V) else (bd (f_X3_dayOfPart (sv 13 V) y2) fun (r_7 : Int) => bd (f_X5_putNumber n (sv 99 V) r_7) fun (V_8 : Sz) => nm (sw 99 2 V V_8) fun (V_9 : Sz) => bd (f_X5_putByte (sv 99 V_9) 58) fun (V_10 : Sz) => nm (sw 99 2 V_9 V_10) fun (V_11 : Sz) => bd (f_X3_leftOfPart (sv 13 V_11) y2) fun (r_12 : Int) => bd (f_X5_putNumber n (sv 99 V_11) r_12) fun (V_13 : Sz) => nm (sw 99 2 V_11 V_13) fun (V_14 : Sz) => bd (f_X5_putByte (sv 99 V_14) 43) fun (V_15 : Sz) => nm (sw 99 2 V_14 V_15) fun (V_16 : Sz) => ck (inZ y2 180) <| bd (f_X5_putNumber n (sv 99 V_16) (V_16 29 y2.toNat)) fun (V_18 : Sz) => nm (sw 99 2 V_16 V_18) fun (V_19 : Sz) => bd (f_X5_putByte (sv 99 V_19) 10) fun (V_20 : Sz) => nm (sw 99 2 V_19 V_20) fun (V_21 : Sz) => jX7_printStatement_122 n X x1 rec14 y2 V_21))) := rfl
def f_X7_printStatement (n : Nat) (V0 : Sz) (X : Sz) (x1 : Int) : Option ((Int × Sz) ⊕ Nat) := bx (f_X7_needDonor V0 X x1) fun (_ : Unit) => bl (bd (f_X5_clear (sv 99 V0)) fun (V_1 : Sz) => nm (sw 99 2 V0 V_1) fun (V_2 : Sz) => lpF (bX7_printStatement_14 n X x1) n (0, V_2))
def f_X7_outputByte (V : Sz) (X : Sz) (x1 : Int) : Option (Int) := ck (rng x1) <| if x1 < 0 then (some (-1)) else (ck (rng (V 100 0)) <| if x1 < V 100 0 then (ck (inZ x1 1140) <| some (V 99 x1.toNat)) else (some (-1)))
def f_X7_saveState (V0 : Sz) (X : Sz) : Option (Int × Sz) := bd (f_X4_become (sv 58 V0) (sv 4 V0)) fun (V_1 : Sz) => nm (sw 58 27 V0 V_1) fun (V_2 : Sz) => nm (us V_2 85 1) fun (V_3 : Sz) => some (V_3 13 0, V_3)
def f_X7_restoreState (V0 : Sz) (X : Sz) : Option ((Int × Sz) ⊕ Nat) := ck (rng (V0 85 0)) <| if V0 85 0 = 0 then (some (.inr 2)) else (bl (bd (f_X4_become (sv 4 V0) (sv 58 V0)) fun (V_2 : Sz) => nm (sw 4 27 V0 V_2) fun (V_3 : Sz) => nm (us V_3 87 0) fun (V_4 : Sz) => some (V_4 13 0, V_4)))
theorem DX7_printStatement_0 : ∀ q ∈ ([(0, .aload_n 0, 1), (1, .iload_n 1, 1), (2, .invokevirtual 203, 3), (5, .aload_n 0, 1), (6, .getfield 56, 3), (9, .invokevirtual 349, 3), (12, .iconst 0, 1), (13, .istore_n 2, 1), (14, .iload_n 2, 1), (15, .aload_n 0, 1), (16, .getfield 23, 3), (19, .getfield 86, 3), (22, .invokevirtual 300, 3), (25, .if_icmp .ge 103, 3), (28, .aload_n 0, 1), (29, .getfield 23, 3), (32, .getfield 86, 3), (35, .iload_n 2, 1), (36, .iload_n 1, 1), (37, .invokevirtual 352, 3), (40, .ifCond .eq 82, 3), (43, .aload_n 0, 1), (44, .getfield 56, 3), (47, .aload_n 0, 1), (48, .getfield 23, 3), (51, .getfield 86, 3), (54, .iload_n 2, 1), (55, .invokevirtual 355, 3), (58, .invokevirtual 358, 3), (61, .aload_n 0, 1), (62, .getfield 56, 3), (65, .bipush 58, 2), (67, .invokevirtual 361, 3), (70, .aload_n 0, 1), (71, .getfield 56, 3), (74, .aload_n 0, 1), (75, .getfield 23, 3), (78, .getfield 86, 3), (81, .iload_n 2, 1), (82, .invokevirtual 188, 3)] : List (Nat × Instr × Nat)), decode cX7_printStatement q.1 = .ok q.2 := by decide +kernel
theorem dX7_printStatement_0 : decode cX7_printStatement 0 = .ok (.aload_n 0, 1) := DX7_printStatement_0 (0, .aload_n 0, 1) (List.mem_of_getElem? (i := 0) rfl)
theorem dX7_printStatement_1 : decode cX7_printStatement 1 = .ok (.iload_n 1, 1) := DX7_printStatement_0 (1, .iload_n 1, 1) (List.mem_of_getElem? (i := 1) rfl)
theorem dX7_printStatement_2 : decode cX7_printStatement 2 = .ok (.invokevirtual 203, 3) := DX7_printStatement_0 (2, .invokevirtual 203, 3) (List.mem_of_getElem? (i := 2) rfl)
theorem dX7_printStatement_5 : decode cX7_printStatement 5 = .ok (.aload_n 0, 1) := DX7_printStatement_0 (5, .aload_n 0, 1) (List.mem_of_getElem? (i := 3) rfl)
theorem dX7_printStatement_6 : decode cX7_printStatement 6 = .ok (.getfield 56, 3) := DX7_printStatement_0 (6, .getfield 56, 3) (List.mem_of_getElem? (i := 4) rfl)
theorem dX7_printStatement_9 : decode cX7_printStatement 9 = .ok (.invokevirtual 349, 3) := DX7_printStatement_0 (9, .invokevirtual 349, 3) (List.mem_of_getElem? (i := 5) rfl)
theorem dX7_printStatement_12 : decode cX7_printStatement 12 = .ok (.iconst 0, 1) := DX7_printStatement_0 (12, .iconst 0, 1) (List.mem_of_getElem? (i := 6) rfl)
theorem dX7_printStatement_13 : decode cX7_printStatement 13 = .ok (.istore_n 2, 1) := DX7_printStatement_0 (13, .istore_n 2, 1) (List.mem_of_getElem? (i := 7) rfl)
theorem dX7_printStatement_14 : decode cX7_printStatement 14 = .ok (.iload_n 2, 1) := DX7_printStatement_0 (14, .iload_n 2, 1) (List.mem_of_getElem? (i := 8) rfl)
theorem dX7_printStatement_15 : decode cX7_printStatement 15 = .ok (.aload_n 0, 1) := DX7_printStatement_0 (15, .aload_n 0, 1) (List.mem_of_getElem? (i := 9) rfl)
theorem dX7_printStatement_16 : decode cX7_printStatement 16 = .ok (.getfield 23, 3) := DX7_printStatement_0 (16, .getfield 23, 3) (List.mem_of_getElem? (i := 10) rfl)
theorem dX7_printStatement_19 : decode cX7_printStatement 19 = .ok (.getfield 86, 3) := DX7_printStatement_0 (19, .getfield 86, 3) (List.mem_of_getElem? (i := 11) rfl)
theorem dX7_printStatement_22 : decode cX7_printStatement 22 = .ok (.invokevirtual 300, 3) := DX7_printStatement_0 (22, .invokevirtual 300, 3) (List.mem_of_getElem? (i := 12) rfl)
theorem dX7_printStatement_25 : decode cX7_printStatement 25 = .ok (.if_icmp .ge 103, 3) := DX7_printStatement_0 (25, .if_icmp .ge 103, 3) (List.mem_of_getElem? (i := 13) rfl)
theorem dX7_printStatement_28 : decode cX7_printStatement 28 = .ok (.aload_n 0, 1) := DX7_printStatement_0 (28, .aload_n 0, 1) (List.mem_of_getElem? (i := 14) rfl)
theorem dX7_printStatement_29 : decode cX7_printStatement 29 = .ok (.getfield 23, 3) := DX7_printStatement_0 (29, .getfield 23, 3) (List.mem_of_getElem? (i := 15) rfl)
theorem dX7_printStatement_32 : decode cX7_printStatement 32 = .ok (.getfield 86, 3) := DX7_printStatement_0 (32, .getfield 86, 3) (List.mem_of_getElem? (i := 16) rfl)
theorem dX7_printStatement_35 : decode cX7_printStatement 35 = .ok (.iload_n 2, 1) := DX7_printStatement_0 (35, .iload_n 2, 1) (List.mem_of_getElem? (i := 17) rfl)
theorem dX7_printStatement_36 : decode cX7_printStatement 36 = .ok (.iload_n 1, 1) := DX7_printStatement_0 (36, .iload_n 1, 1) (List.mem_of_getElem? (i := 18) rfl)
theorem dX7_printStatement_37 : decode cX7_printStatement 37 = .ok (.invokevirtual 352, 3) := DX7_printStatement_0 (37, .invokevirtual 352, 3) (List.mem_of_getElem? (i := 19) rfl)
theorem dX7_printStatement_40 : decode cX7_printStatement 40 = .ok (.ifCond .eq 82, 3) := DX7_printStatement_0 (40, .ifCond .eq 82, 3) (List.mem_of_getElem? (i := 20) rfl)
theorem dX7_printStatement_43 : decode cX7_printStatement 43 = .ok (.aload_n 0, 1) := DX7_printStatement_0 (43, .aload_n 0, 1) (List.mem_of_getElem? (i := 21) rfl)
theorem dX7_printStatement_44 : decode cX7_printStatement 44 = .ok (.getfield 56, 3) := DX7_printStatement_0 (44, .getfield 56, 3) (List.mem_of_getElem? (i := 22) rfl)
theorem dX7_printStatement_47 : decode cX7_printStatement 47 = .ok (.aload_n 0, 1) := DX7_printStatement_0 (47, .aload_n 0, 1) (List.mem_of_getElem? (i := 23) rfl)
theorem dX7_printStatement_48 : decode cX7_printStatement 48 = .ok (.getfield 23, 3) := DX7_printStatement_0 (48, .getfield 23, 3) (List.mem_of_getElem? (i := 24) rfl)
theorem dX7_printStatement_51 : decode cX7_printStatement 51 = .ok (.getfield 86, 3) := DX7_printStatement_0 (51, .getfield 86, 3) (List.mem_of_getElem? (i := 25) rfl)
theorem dX7_printStatement_54 : decode cX7_printStatement 54 = .ok (.iload_n 2, 1) := DX7_printStatement_0 (54, .iload_n 2, 1) (List.mem_of_getElem? (i := 26) rfl)
theorem dX7_printStatement_55 : decode cX7_printStatement 55 = .ok (.invokevirtual 355, 3) := DX7_printStatement_0 (55, .invokevirtual 355, 3) (List.mem_of_getElem? (i := 27) rfl)
theorem dX7_printStatement_58 : decode cX7_printStatement 58 = .ok (.invokevirtual 358, 3) := DX7_printStatement_0 (58, .invokevirtual 358, 3) (List.mem_of_getElem? (i := 28) rfl)
theorem dX7_printStatement_61 : decode cX7_printStatement 61 = .ok (.aload_n 0, 1) := DX7_printStatement_0 (61, .aload_n 0, 1) (List.mem_of_getElem? (i := 29) rfl)
theorem dX7_printStatement_62 : decode cX7_printStatement 62 = .ok (.getfield 56, 3) := DX7_printStatement_0 (62, .getfield 56, 3) (List.mem_of_getElem? (i := 30) rfl)
theorem dX7_printStatement_65 : decode cX7_printStatement 65 = .ok (.bipush 58, 2) := DX7_printStatement_0 (65, .bipush 58, 2) (List.mem_of_getElem? (i := 31) rfl)
theorem dX7_printStatement_67 : decode cX7_printStatement 67 = .ok (.invokevirtual 361, 3) := DX7_printStatement_0 (67, .invokevirtual 361, 3) (List.mem_of_getElem? (i := 32) rfl)
theorem dX7_printStatement_70 : decode cX7_printStatement 70 = .ok (.aload_n 0, 1) := DX7_printStatement_0 (70, .aload_n 0, 1) (List.mem_of_getElem? (i := 33) rfl)
theorem dX7_printStatement_71 : decode cX7_printStatement 71 = .ok (.getfield 56, 3) := DX7_printStatement_0 (71, .getfield 56, 3) (List.mem_of_getElem? (i := 34) rfl)
theorem dX7_printStatement_74 : decode cX7_printStatement 74 = .ok (.aload_n 0, 1) := DX7_printStatement_0 (74, .aload_n 0, 1) (List.mem_of_getElem? (i := 35) rfl)
theorem dX7_printStatement_75 : decode cX7_printStatement 75 = .ok (.getfield 23, 3) := DX7_printStatement_0 (75, .getfield 23, 3) (List.mem_of_getElem? (i := 36) rfl)
theorem dX7_printStatement_78 : decode cX7_printStatement 78 = .ok (.getfield 86, 3) := DX7_printStatement_0 (78, .getfield 86, 3) (List.mem_of_getElem? (i := 37) rfl)
theorem dX7_printStatement_81 : decode cX7_printStatement 81 = .ok (.iload_n 2, 1) := DX7_printStatement_0 (81, .iload_n 2, 1) (List.mem_of_getElem? (i := 38) rfl)
theorem dX7_printStatement_82 : decode cX7_printStatement 82 = .ok (.invokevirtual 188, 3) := DX7_printStatement_0 (82, .invokevirtual 188, 3) (List.mem_of_getElem? (i := 39) rfl)
theorem DX7_printStatement_1 : ∀ q ∈ ([(85, .invokevirtual 358, 3), (88, .aload_n 0, 1), (89, .getfield 56, 3), (92, .bipush 43, 2), (94, .invokevirtual 361, 3), (97, .aload_n 0, 1), (98, .getfield 56, 3), (101, .aload_n 0, 1), (102, .getfield 23, 3), (105, .getfield 194, 3), (108, .iload_n 2, 1), (109, .iaload, 1), (110, .invokevirtual 358, 3), (113, .aload_n 0, 1), (114, .getfield 56, 3), (117, .bipush 10, 2), (119, .invokevirtual 361, 3), (122, .iinc 2 1, 3), (125, .goto (-111), 3), (128, .aload_n 0, 1), (129, .getfield 56, 3), (132, .getfield 364, 3), (135, .ireturn, 1)] : List (Nat × Instr × Nat)), decode cX7_printStatement q.1 = .ok q.2 := by decide +kernel
theorem dX7_printStatement_85 : decode cX7_printStatement 85 = .ok (.invokevirtual 358, 3) := DX7_printStatement_1 (85, .invokevirtual 358, 3) (List.mem_of_getElem? (i := 0) rfl)
theorem dX7_printStatement_88 : decode cX7_printStatement 88 = .ok (.aload_n 0, 1) := DX7_printStatement_1 (88, .aload_n 0, 1) (List.mem_of_getElem? (i := 1) rfl)
theorem dX7_printStatement_89 : decode cX7_printStatement 89 = .ok (.getfield 56, 3) := DX7_printStatement_1 (89, .getfield 56, 3) (List.mem_of_getElem? (i := 2) rfl)
theorem dX7_printStatement_92 : decode cX7_printStatement 92 = .ok (.bipush 43, 2) := DX7_printStatement_1 (92, .bipush 43, 2) (List.mem_of_getElem? (i := 3) rfl)
theorem dX7_printStatement_94 : decode cX7_printStatement 94 = .ok (.invokevirtual 361, 3) := DX7_printStatement_1 (94, .invokevirtual 361, 3) (List.mem_of_getElem? (i := 4) rfl)
theorem dX7_printStatement_97 : decode cX7_printStatement 97 = .ok (.aload_n 0, 1) := DX7_printStatement_1 (97, .aload_n 0, 1) (List.mem_of_getElem? (i := 5) rfl)
theorem dX7_printStatement_98 : decode cX7_printStatement 98 = .ok (.getfield 56, 3) := DX7_printStatement_1 (98, .getfield 56, 3) (List.mem_of_getElem? (i := 6) rfl)
theorem dX7_printStatement_101 : decode cX7_printStatement 101 = .ok (.aload_n 0, 1) := DX7_printStatement_1 (101, .aload_n 0, 1) (List.mem_of_getElem? (i := 7) rfl)
theorem dX7_printStatement_102 : decode cX7_printStatement 102 = .ok (.getfield 23, 3) := DX7_printStatement_1 (102, .getfield 23, 3) (List.mem_of_getElem? (i := 8) rfl)
theorem dX7_printStatement_105 : decode cX7_printStatement 105 = .ok (.getfield 194, 3) := DX7_printStatement_1 (105, .getfield 194, 3) (List.mem_of_getElem? (i := 9) rfl)
theorem dX7_printStatement_108 : decode cX7_printStatement 108 = .ok (.iload_n 2, 1) := DX7_printStatement_1 (108, .iload_n 2, 1) (List.mem_of_getElem? (i := 10) rfl)
theorem dX7_printStatement_109 : decode cX7_printStatement 109 = .ok (.iaload, 1) := DX7_printStatement_1 (109, .iaload, 1) (List.mem_of_getElem? (i := 11) rfl)
theorem dX7_printStatement_110 : decode cX7_printStatement 110 = .ok (.invokevirtual 358, 3) := DX7_printStatement_1 (110, .invokevirtual 358, 3) (List.mem_of_getElem? (i := 12) rfl)
theorem dX7_printStatement_113 : decode cX7_printStatement 113 = .ok (.aload_n 0, 1) := DX7_printStatement_1 (113, .aload_n 0, 1) (List.mem_of_getElem? (i := 13) rfl)
theorem dX7_printStatement_114 : decode cX7_printStatement 114 = .ok (.getfield 56, 3) := DX7_printStatement_1 (114, .getfield 56, 3) (List.mem_of_getElem? (i := 14) rfl)
theorem dX7_printStatement_117 : decode cX7_printStatement 117 = .ok (.bipush 10, 2) := DX7_printStatement_1 (117, .bipush 10, 2) (List.mem_of_getElem? (i := 15) rfl)
theorem dX7_printStatement_119 : decode cX7_printStatement 119 = .ok (.invokevirtual 361, 3) := DX7_printStatement_1 (119, .invokevirtual 361, 3) (List.mem_of_getElem? (i := 16) rfl)
theorem dX7_printStatement_122 : decode cX7_printStatement 122 = .ok (.iinc 2 1, 3) := DX7_printStatement_1 (122, .iinc 2 1, 3) (List.mem_of_getElem? (i := 17) rfl)
theorem dX7_printStatement_125 : decode cX7_printStatement 125 = .ok (.goto (-111), 3) := DX7_printStatement_1 (125, .goto (-111), 3) (List.mem_of_getElem? (i := 18) rfl)
theorem dX7_printStatement_128 : decode cX7_printStatement 128 = .ok (.aload_n 0, 1) := DX7_printStatement_1 (128, .aload_n 0, 1) (List.mem_of_getElem? (i := 19) rfl)
theorem dX7_printStatement_129 : decode cX7_printStatement 129 = .ok (.getfield 56, 3) := DX7_printStatement_1 (129, .getfield 56, 3) (List.mem_of_getElem? (i := 20) rfl)
theorem dX7_printStatement_132 : decode cX7_printStatement 132 = .ok (.getfield 364, 3) := DX7_printStatement_1 (132, .getfield 364, 3) (List.mem_of_getElem? (i := 21) rfl)
theorem dX7_printStatement_135 : decode cX7_printStatement 135 = .ok (.ireturn, 1) := DX7_printStatement_1 (135, .ireturn, 1) (List.mem_of_getElem? (i := 22) rfl)
abbrev rmX7_printStatement : Room := { frames := 2, cells := 0, slots := 0, locals := 43 }
set_option maxHeartbeats 1000000 in
set_option maxRecDepth 100000 in
theorem met_X7_printStatement (l : Launch) (D : va_G) (kA : Nat → ClassId) (a : Nat → Nat) (pf : Nat → Option Nat) (n : Nat) (V0 : Sz) (X : Sz) (x1 : Int) (hDt : ∀ w : Sz, va_D (fun _ => True) (cs_X7 kA a w X pf)) {r : Int} {Vr : Sz} (hf : f_X7_printStatement n V0 X x1 = some (.inl (r, Vr))) : MZ l yX7_printStatement cX7_printStatement 3 (some .int) rmX7_printStatement D kA [.ref (a 0), vI x1] (cs_X7 kA a V0 X pf) (cs_X7 kA a Vr X pf) (some (vI r)) := by
  refine zZI (own := RX7) rfl rfl (Nat.le_of_ble_eq_true rfl) ?_
  intro p e s m args below meth c ls Q hC hK hP hl hret
  have hl : lv_has ls 3 [(0, .ref (a 0)), (1, vI x1)] := hl
  have hS : va_S (zF (cs_X7 kA a V0 X pf)) s.heap s.heap [] := va_S.rf
  have hD := zDself (C := fun w : Sz => (cs_X7 kA a w X pf)) hDt V0 (fun _ => rfl)
  try dsimp only at hD
  generalize hAe : zF (cs_X7 kA a V0 X pf) = A0 at hS hD hret
  unfold f_X7_printStatement at hf
  have L14 : ∀ (k14 : Nat) (y2 : Int) (V : Sz) (H : Heap) (locs : List Loc) (ls : Array Slot), lpF (bX7_printStatement_14 n X x1) k14 (y2, V) = some (r, Vr) → va_P D vwCl (cs_X7 kA a V X pf) H → va_S A0 s.heap H locs → lv_has ls 3 [(0, .ref (a 0)), (1, vI x1), (2, vI y2)] → W p l e rmX7_printStatement s m args below meth c H locs 0 0 Q (F0 m 14 ls []) := by
    intro k14
    induction k14 with
    | zero => intro y2 V H locs ls hf hP hS hl; exact lp_0 hf
    | succ k14 ih14 =>
      intro y2 V H locs ls hf hP hS hl
      have hf := lp_s hf
      rw [bX7_printStatement_14_e] at hf
      have J122 : ∀ (y2 : Int) (V : Sz) (H : Heap) (locs : List Loc) (ls : Array Slot), jX7_printStatement_122 n X x1 (lpF (bX7_printStatement_14 n X x1) k14) y2 V = some (r, Vr) → va_P D vwCl (cs_X7 kA a V X pf) H → va_S A0 s.heap H locs → lv_has ls 3 [(0, .ref (a 0)), (1, vI x1), (2, vI y2)] → W p l e rmX7_printStatement s m args below meth c H locs 0 0 Q (F0 m 122 ls []) := by
        intro y2 V H locs ls hf hP hS hl
        unfold jX7_printStatement_122 at hf
        obtain ⟨x_6, ex_6⟩ : ∃ y : Int, y = y2 + 1 := ⟨_, rfl⟩
        have hf := nm_at hf ex_6
        refine ziinc (v := x_6) (lv' := [(2, vI x_6), (0, .ref (a 0)), (1, vI x1)]) hC.1 hC.2.1 dX7_printStatement_122 hl (k := 2) rfl ex_6 (by decide) rfl (fun ls hl => ?_)
        exact lv_goto (tgt := 14) hC.1 hC.2.1 dX7_printStatement_125 (by decide) <| ih14 _ _ _ _ _ hf hP hS (lv_sub hl [1, 2, 0] rfl)
      refine ziload_n hC.1 hC.2.1 dX7_printStatement_14 rfl (lv_at hl 2 rfl) <| lv_aload_n hC.1 hC.2.1 dX7_printStatement_15 rfl (lv_at hl 0 rfl) <| gfX7_23 hC hK hP (q0 := 0) rfl rfl dX7_printStatement_16 <| gfX7_86 hC hK hP (q0 := 2) rfl rfl dX7_printStatement_19 <| ?_
      obtain ⟨r_3, hu, hf⟩ := bd_some hf
      have hPc : va_P D vwCl (cs_X3 kA (sv 8 a) (sv 13 V)) _ := hP.sub [8, 9, 10, 11, 12, 13, 14, 15, 16, 17, 18, 19] rfl
      refine zcVP (As := []) (rest := [vI y2]) hC hK (met_X3_slotCount l D kA (sv 8 a) (sv 13 V) hu) zwX7_300 hPc (q0 := 0) rfl rfl rfl rfl hl.1 rfl (Nat.le_of_ble_eq_true rfl) ⟨Nat.le_of_ble_eq_true rfl, Nat.le_of_ble_eq_true rfl⟩ ⟨rfl, rfl⟩ ⟨Nat.le_refl _, Nat.le_refl _⟩ dX7_printStatement_22 <| ?_
      obtain ⟨hz_4, hf⟩ := ck_some hf
      refine zicmp_ge (tgt := 128) hC.1 hC.2.1 ⟨hz_4.1, hz_4.2⟩ dX7_printStatement_25 (by decide) (fun hc => ?_) (fun hc => ?_)
      · have hf := it_t hf hc
        refine lv_aload_n hC.1 hC.2.1 dX7_printStatement_128 rfl (lv_at hl 0 rfl) <| gfX7_56 hC hK hP (q0 := 0) rfl rfl dX7_printStatement_129 <| gfX7_364 hC hK hP (q0 := 80) rfl rfl dX7_printStatement_132 <| ?_
        have hf := Option.some.inj hf
        simp only [Prod.mk.injEq] at hf
        exact hret (Int32.ofInt (V 100 0)) _ _ _ _ (congrArg (fun z => some (vI z)) hf.1.symm) (by rw [← hf.2]; exact hP) hS dX7_printStatement_135
      · have hf := it_f hf hc
        refine lv_aload_n hC.1 hC.2.1 dX7_printStatement_28 rfl (lv_at hl 0 rfl) <| gfX7_23 hC hK hP (q0 := 0) rfl rfl dX7_printStatement_29 <| gfX7_86 hC hK hP (q0 := 2) rfl rfl dX7_printStatement_32 <| ziload_n hC.1 hC.2.1 dX7_printStatement_35 rfl (lv_at hl 2 rfl) <| ziload_n hC.1 hC.2.1 dX7_printStatement_36 rfl (lv_at hl 1 rfl) <| ?_
        obtain ⟨r_5, hu, hf⟩ := bd_some hf
        have hPc : va_P D vwCl (cs_X3 kA (sv 8 a) (sv 13 V)) _ := hP.sub [8, 9, 10, 11, 12, 13, 14, 15, 16, 17, 18, 19] rfl
        refine zcVP (As := [vI y2, vI x1]) (rest := []) hC hK (met_X3_isPartOf l D kA (sv 8 a) (sv 13 V) y2 x1 hu) zwX7_352 hPc (q0 := 0) rfl rfl rfl rfl hl.1 rfl (Nat.le_of_ble_eq_true rfl) ⟨Nat.le_of_ble_eq_true rfl, Nat.le_of_ble_eq_true rfl⟩ ⟨rfl, rfl⟩ ⟨Nat.le_refl _, Nat.le_refl _⟩ dX7_printStatement_37 <| zifb_eq (tgt := 122) hC.1 hC.2.1 dX7_printStatement_40 (by decide) (fun hc => ?_) (fun hc => ?_)
        · have hf := it_t hf hc
          exact J122 _ _ _ _ _ hf hP hS (lv_sub hl [0, 1, 2] rfl)
        · have hf := it_f hf hc
          refine lv_aload_n hC.1 hC.2.1 dX7_printStatement_43 rfl (lv_at hl 0 rfl) <| gfX7_56 hC hK hP (q0 := 0) rfl rfl dX7_printStatement_44 <| lv_aload_n hC.1 hC.2.1 dX7_printStatement_47 rfl (lv_at hl 0 rfl) <| gfX7_23 hC hK hP (q0 := 0) rfl rfl dX7_printStatement_48 <| gfX7_86 hC hK hP (q0 := 2) rfl rfl dX7_printStatement_51 <| ziload_n hC.1 hC.2.1 dX7_printStatement_54 rfl (lv_at hl 2 rfl) <| ?_
          obtain ⟨r_7, hu, hf⟩ := bd_some hf
          have hPc : va_P D vwCl (cs_X3 kA (sv 8 a) (sv 13 V)) _ := hP.sub [8, 9, 10, 11, 12, 13, 14, 15, 16, 17, 18, 19] rfl
          refine zcVP (As := [vI y2]) (rest := [.ref (a 80)]) hC hK (met_X3_dayOfPart l D kA (sv 8 a) (sv 13 V) y2 hu) zwX7_355 hPc (q0 := 0) rfl rfl rfl rfl hl.1 rfl (Nat.le_of_ble_eq_true rfl) ⟨Nat.le_of_ble_eq_true rfl, Nat.le_of_ble_eq_true rfl⟩ ⟨rfl, rfl⟩ ⟨Nat.le_refl _, Nat.le_refl _⟩ dX7_printStatement_55 <| ?_
          obtain ⟨V_8, hu, hf⟩ := bd_some hf
          have hPc : va_P D vwCl (cs_X5 kA (sv 80 a) (sv 99 V)) _ := hP.sub [80, 81] rfl
          have hDc : ∀ w : Sz, va_D (fun _ => True) (cs_X5 kA (sv 80 a) w) := fun w => (hDt (sw 99 2 V w)).sub [80, 81] (by decide) rfl
          refine zcVZ (As := [vI r_7]) (rest := []) hC hK (met_X5_putNumber l D kA (sv 80 a) n (sv 99 V) r_7 hDc hu) zwX7_358 hS (zFsub (hD V) [80, 81] rfl) hPc (q0 := 0) rfl rfl rfl rfl hl.1 rfl (Nat.le_of_ble_eq_true rfl) ⟨Nat.le_of_ble_eq_true rfl, Nat.le_of_ble_eq_true rfl⟩ ⟨rfl, rfl⟩ ⟨Nat.le_refl _, Nat.le_refl _⟩ dX7_printStatement_58 (fun H locs hP1 hk1 hS => ?_)
          obtain ⟨V_9, eV_9⟩ : ∃ y, y = sw 99 2 V V_8 := ⟨_, rfl⟩
          have hf := nm_at hf eV_9
          have hP : va_P D vwCl (cs_X7 kA a V_9 X pf) H := by rw [eV_9]; exact zjoin hP (hDt V) [80, 81] (w0 := (cs_X5 kA (sv 80 a) (sv 99 V))) rfl (Nat.le_of_ble_eq_true rfl) hk1 hP1
          refine lv_aload_n hC.1 hC.2.1 dX7_printStatement_61 rfl (lv_at hl 0 rfl) <| gfX7_56 hC hK hP (q0 := 0) rfl rfl dX7_printStatement_62 <| zbipush hC.1 hC.2.1 dX7_printStatement_65 (by decide) <| ?_
          obtain ⟨V_10, hu, hf⟩ := bd_some hf
          have hPc : va_P D vwCl (cs_X5 kA (sv 80 a) (sv 99 V_9)) _ := hP.sub [80, 81] rfl
          have hDc : ∀ w : Sz, va_D (fun _ => True) (cs_X5 kA (sv 80 a) w) := fun w => (hDt (sw 99 2 V_9 w)).sub [80, 81] (by decide) rfl
          refine zcVZ (As := [vI 58]) (rest := []) hC hK (met_X5_putByte l D kA (sv 80 a) (sv 99 V_9) 58 hDc hu) zwX7_361 hS (zFsub (hD V_9) [80, 81] rfl) hPc (q0 := 0) rfl rfl rfl rfl hl.1 rfl (Nat.le_of_ble_eq_true rfl) ⟨Nat.le_of_ble_eq_true rfl, Nat.le_of_ble_eq_true rfl⟩ ⟨rfl, rfl⟩ ⟨Nat.le_refl _, Nat.le_refl _⟩ dX7_printStatement_67 (fun H locs hP1 hk1 hS => ?_)
          obtain ⟨V_11, eV_11⟩ : ∃ y, y = sw 99 2 V_9 V_10 := ⟨_, rfl⟩
          have hf := nm_at hf eV_11
          have hP : va_P D vwCl (cs_X7 kA a V_11 X pf) H := by rw [eV_11]; exact zjoin hP (hDt V_9) [80, 81] (w0 := (cs_X5 kA (sv 80 a) (sv 99 V_9))) rfl (Nat.le_of_ble_eq_true rfl) hk1 hP1
          refine lv_aload_n hC.1 hC.2.1 dX7_printStatement_70 rfl (lv_at hl 0 rfl) <| gfX7_56 hC hK hP (q0 := 0) rfl rfl dX7_printStatement_71 <| lv_aload_n hC.1 hC.2.1 dX7_printStatement_74 rfl (lv_at hl 0 rfl) <| gfX7_23 hC hK hP (q0 := 0) rfl rfl dX7_printStatement_75 <| gfX7_86 hC hK hP (q0 := 2) rfl rfl dX7_printStatement_78 <| ziload_n hC.1 hC.2.1 dX7_printStatement_81 rfl (lv_at hl 2 rfl) <| ?_
          obtain ⟨r_12, hu, hf⟩ := bd_some hf
          have hPc : va_P D vwCl (cs_X3 kA (sv 8 a) (sv 13 V_11)) _ := hP.sub [8, 9, 10, 11, 12, 13, 14, 15, 16, 17, 18, 19] rfl
          refine zcVP (As := [vI y2]) (rest := [.ref (a 80)]) hC hK (met_X3_leftOfPart l D kA (sv 8 a) (sv 13 V_11) y2 hu) zwX7_188 hPc (q0 := 0) rfl rfl rfl rfl hl.1 rfl (Nat.le_of_ble_eq_true rfl) ⟨Nat.le_of_ble_eq_true rfl, Nat.le_of_ble_eq_true rfl⟩ ⟨rfl, rfl⟩ ⟨Nat.le_refl _, Nat.le_refl _⟩ dX7_printStatement_82 <| ?_
          obtain ⟨V_13, hu, hf⟩ := bd_some hf
          have hPc : va_P D vwCl (cs_X5 kA (sv 80 a) (sv 99 V_11)) _ := hP.sub [80, 81] rfl
          have hDc : ∀ w : Sz, va_D (fun _ => True) (cs_X5 kA (sv 80 a) w) := fun w => (hDt (sw 99 2 V_11 w)).sub [80, 81] (by decide) rfl
          refine zcVZ (As := [vI r_12]) (rest := []) hC hK (met_X5_putNumber l D kA (sv 80 a) n (sv 99 V_11) r_12 hDc hu) zwX7_358 hS (zFsub (hD V_11) [80, 81] rfl) hPc (q0 := 0) rfl rfl rfl rfl hl.1 rfl (Nat.le_of_ble_eq_true rfl) ⟨Nat.le_of_ble_eq_true rfl, Nat.le_of_ble_eq_true rfl⟩ ⟨rfl, rfl⟩ ⟨Nat.le_refl _, Nat.le_refl _⟩ dX7_printStatement_85 (fun H locs hP1 hk1 hS => ?_)
          obtain ⟨V_14, eV_14⟩ : ∃ y, y = sw 99 2 V_11 V_13 := ⟨_, rfl⟩
          have hf := nm_at hf eV_14
          have hP : va_P D vwCl (cs_X7 kA a V_14 X pf) H := by rw [eV_14]; exact zjoin hP (hDt V_11) [80, 81] (w0 := (cs_X5 kA (sv 80 a) (sv 99 V_11))) rfl (Nat.le_of_ble_eq_true rfl) hk1 hP1
          refine lv_aload_n hC.1 hC.2.1 dX7_printStatement_88 rfl (lv_at hl 0 rfl) <| gfX7_56 hC hK hP (q0 := 0) rfl rfl dX7_printStatement_89 <| zbipush hC.1 hC.2.1 dX7_printStatement_92 (by decide) <| ?_
          obtain ⟨V_15, hu, hf⟩ := bd_some hf
          have hPc : va_P D vwCl (cs_X5 kA (sv 80 a) (sv 99 V_14)) _ := hP.sub [80, 81] rfl
          have hDc : ∀ w : Sz, va_D (fun _ => True) (cs_X5 kA (sv 80 a) w) := fun w => (hDt (sw 99 2 V_14 w)).sub [80, 81] (by decide) rfl
          refine zcVZ (As := [vI 43]) (rest := []) hC hK (met_X5_putByte l D kA (sv 80 a) (sv 99 V_14) 43 hDc hu) zwX7_361 hS (zFsub (hD V_14) [80, 81] rfl) hPc (q0 := 0) rfl rfl rfl rfl hl.1 rfl (Nat.le_of_ble_eq_true rfl) ⟨Nat.le_of_ble_eq_true rfl, Nat.le_of_ble_eq_true rfl⟩ ⟨rfl, rfl⟩ ⟨Nat.le_refl _, Nat.le_refl _⟩ dX7_printStatement_94 (fun H locs hP1 hk1 hS => ?_)
          obtain ⟨V_16, eV_16⟩ : ∃ y, y = sw 99 2 V_14 V_15 := ⟨_, rfl⟩
          have hf := nm_at hf eV_16
          have hP : va_P D vwCl (cs_X7 kA a V_16 X pf) H := by rw [eV_16]; exact zjoin hP (hDt V_14) [80, 81] (w0 := (cs_X5 kA (sv 80 a) (sv 99 V_14))) rfl (Nat.le_of_ble_eq_true rfl) hk1 hP1
          refine lv_aload_n hC.1 hC.2.1 dX7_printStatement_97 rfl (lv_at hl 0 rfl) <| gfX7_56 hC hK hP (q0 := 0) rfl rfl dX7_printStatement_98 <| lv_aload_n hC.1 hC.2.1 dX7_printStatement_101 rfl (lv_at hl 0 rfl) <| gfX7_23 hC hK hP (q0 := 0) rfl rfl dX7_printStatement_102 <| gfX7_194 hC hK hP (q0 := 2) rfl rfl dX7_printStatement_105 <| ziload_n hC.1 hC.2.1 dX7_printStatement_108 rfl (lv_at hl 2 rfl) <| ?_
          obtain ⟨hz_17, hf⟩ := ck_some hf
          refine jal hC hK hP (q0 := 24) rfl (Nat.le_of_ble_eq_true rfl) hz_17 rfl dX7_printStatement_109 <| ?_
          obtain ⟨V_18, hu, hf⟩ := bd_some hf
          have hPc : va_P D vwCl (cs_X5 kA (sv 80 a) (sv 99 V_16)) _ := hP.sub [80, 81] rfl
          have hDc : ∀ w : Sz, va_D (fun _ => True) (cs_X5 kA (sv 80 a) w) := fun w => (hDt (sw 99 2 V_16 w)).sub [80, 81] (by decide) rfl
          refine zcVZ (As := [vI (V_16 29 y2.toNat)]) (rest := []) hC hK (met_X5_putNumber l D kA (sv 80 a) n (sv 99 V_16) (V_16 29 y2.toNat) hDc hu) zwX7_358 hS (zFsub (hD V_16) [80, 81] rfl) hPc (q0 := 0) rfl rfl rfl rfl hl.1 rfl (Nat.le_of_ble_eq_true rfl) ⟨Nat.le_of_ble_eq_true rfl, Nat.le_of_ble_eq_true rfl⟩ ⟨rfl, rfl⟩ ⟨Nat.le_refl _, Nat.le_refl _⟩ dX7_printStatement_110 (fun H locs hP1 hk1 hS => ?_)
          obtain ⟨V_19, eV_19⟩ : ∃ y, y = sw 99 2 V_16 V_18 := ⟨_, rfl⟩
          have hf := nm_at hf eV_19
          have hP : va_P D vwCl (cs_X7 kA a V_19 X pf) H := by rw [eV_19]; exact zjoin hP (hDt V_16) [80, 81] (w0 := (cs_X5 kA (sv 80 a) (sv 99 V_16))) rfl (Nat.le_of_ble_eq_true rfl) hk1 hP1
          refine lv_aload_n hC.1 hC.2.1 dX7_printStatement_113 rfl (lv_at hl 0 rfl) <| gfX7_56 hC hK hP (q0 := 0) rfl rfl dX7_printStatement_114 <| zbipush hC.1 hC.2.1 dX7_printStatement_117 (by decide) <| ?_
          obtain ⟨V_20, hu, hf⟩ := bd_some hf
          have hPc : va_P D vwCl (cs_X5 kA (sv 80 a) (sv 99 V_19)) _ := hP.sub [80, 81] rfl
          have hDc : ∀ w : Sz, va_D (fun _ => True) (cs_X5 kA (sv 80 a) w) := fun w => (hDt (sw 99 2 V_19 w)).sub [80, 81] (by decide) rfl
          refine zcVZ (As := [vI 10]) (rest := []) hC hK (met_X5_putByte l D kA (sv 80 a) (sv 99 V_19) 10 hDc hu) zwX7_361 hS (zFsub (hD V_19) [80, 81] rfl) hPc (q0 := 0) rfl rfl rfl rfl hl.1 rfl (Nat.le_of_ble_eq_true rfl) ⟨Nat.le_of_ble_eq_true rfl, Nat.le_of_ble_eq_true rfl⟩ ⟨rfl, rfl⟩ ⟨Nat.le_refl _, Nat.le_refl _⟩ dX7_printStatement_119 (fun H locs hP1 hk1 hS => ?_)
          obtain ⟨V_21, eV_21⟩ : ∃ y, y = sw 99 2 V_19 V_20 := ⟨_, rfl⟩
          have hf := nm_at hf eV_21
          have hP : va_P D vwCl (cs_X7 kA a V_21 X pf) H := by rw [eV_21]; exact zjoin hP (hDt V_19) [80, 81] (w0 := (cs_X5 kA (sv 80 a) (sv 99 V_19))) rfl (Nat.le_of_ble_eq_true rfl) hk1 hP1
          exact J122 _ _ _ _ _ hf hP hS (lv_sub hl [0, 1, 2] rfl)
  refine lv_aload_n hC.1 hC.2.1 dX7_printStatement_0 rfl (lv_at hl 0 rfl) <| ziload_n hC.1 hC.2.1 dX7_printStatement_1 rfl (lv_at hl 1 rfl) <| ?_
  obtain ⟨u, hu, hf⟩ := bx_inl hf
  have hf := bl_inl hf
  refine zcVP (As := [vI x1]) (rest := []) hC hK (met_X7_needDonor l D kA a pf V0 X x1 hu) zwX7_203 hP (q0 := 0) rfl rfl rfl rfl hl.1 rfl (Nat.le_of_ble_eq_true rfl) ⟨Nat.le_of_ble_eq_true rfl, Nat.le_of_ble_eq_true rfl⟩ ⟨rfl, rfl⟩ ⟨Nat.le_refl _, Nat.le_refl _⟩ dX7_printStatement_2 <| lv_aload_n hC.1 hC.2.1 dX7_printStatement_5 rfl (lv_at hl 0 rfl) <| gfX7_56 hC hK hP (q0 := 0) rfl rfl dX7_printStatement_6 <| ?_
  obtain ⟨V_1, hu, hf⟩ := bd_some hf
  have hPc : va_P D vwCl (cs_X5 kA (sv 80 a) (sv 99 V0)) _ := hP.sub [80, 81] rfl
  have hDc : ∀ w : Sz, va_D (fun _ => True) (cs_X5 kA (sv 80 a) w) := fun w => (hDt (sw 99 2 V0 w)).sub [80, 81] (by decide) rfl
  refine zcVZ (As := []) (rest := []) hC hK (met_X5_clear l D kA (sv 80 a) (sv 99 V0) hDc hu) zwX7_349 hS (zFsub (hD V0) [80, 81] rfl) hPc (q0 := 0) rfl rfl rfl rfl hl.1 rfl (Nat.le_of_ble_eq_true rfl) ⟨Nat.le_of_ble_eq_true rfl, Nat.le_of_ble_eq_true rfl⟩ ⟨rfl, rfl⟩ ⟨Nat.le_refl _, Nat.le_refl _⟩ dX7_printStatement_9 (fun H locs hP1 hk1 hS => ?_)
  obtain ⟨V_2, eV_2⟩ : ∃ y, y = sw 99 2 V0 V_1 := ⟨_, rfl⟩
  have hf := nm_at hf eV_2
  have hP : va_P D vwCl (cs_X7 kA a V_2 X pf) H := by rw [eV_2]; exact zjoin hP (hDt V0) [80, 81] (w0 := (cs_X5 kA (sv 80 a) (sv 99 V0))) rfl (Nat.le_of_ble_eq_true rfl) hk1 hP1
  refine ziconst hC.1 hC.2.1 dX7_printStatement_12 <| zistore_n (lv' := [(2, vI 0), (0, .ref (a 0)), (1, vI x1)]) hC.1 hC.2.1 dX7_printStatement_13 rfl hl (by decide) rfl (fun ls hl => ?_)
  exact L14 n _ _ _ _ _ hf hP hS (lv_sub hl [1, 2, 0] rfl)
abbrev rxX7_printStatement : Room := { frames := 7, cells := 1, slots := 6, locals := 111 }
set_option maxHeartbeats 1000000 in
set_option maxRecDepth 100000 in
theorem thr_X7_printStatement (l : Launch) (D : va_G) (kA : Nat → ClassId) (a : Nat → Nat) (pf : Nat → Option Nat) (n : Nat) (V0 : Sz) (X : Sz) (x1 : Int) {er : Nat} (hf : f_X7_printStatement n V0 X x1 = some (.inr er)) : MX l yX7_printStatement cX7_printStatement 3 (some .int) rxX7_printStatement D kA [.ref (a 0), vI x1] (cs_X7 kA a V0 X pf) (zEx er) := by
  refine zXstart (own := RX7) rfl rfl (Nat.le_of_ble_eq_true rfl) ?_
  intro p e s m args below meth c ls hC hK hP hX hl hx hlocks
  have hl : lv_has ls 3 [(0, .ref (a 0)), (1, vI x1)] := hl
  unfold f_X7_printStatement at hf
  refine lv_aload_n hC.1 hC.2.1 dX7_printStatement_0 rfl (lv_at hl 0 rfl) <| ziload_n hC.1 hC.2.1 dX7_printStatement_1 rfl (lv_at hl 1 rfl) <| ?_
  rcases bx_inr hf with hu | ⟨u, hu, hf⟩
  · exact zcVX (As := [vI x1]) (rest := []) hC hK hX hx hlocks (thr_X7_needDonor l D kA a pf V0 X x1 hu) zwX7_203 hP (q0 := 0) rfl rfl rfl rfl hl.1 rfl (Nat.le_of_ble_eq_true rfl) ⟨Nat.le_of_ble_eq_true rfl, Nat.le_of_ble_eq_true rfl⟩ ⟨rfl, rfl⟩ ⟨Nat.le_of_ble_eq_true rfl, Nat.le_of_ble_eq_true rfl⟩ dX7_printStatement_2
  exact (bl_inr hf).elim
theorem DX7_outputByte_0 : ∀ q ∈ ([(0, .iload_n 1, 1), (1, .ifCond .lt 14, 3), (4, .iload_n 1, 1), (5, .aload_n 0, 1), (6, .getfield 56, 3), (9, .getfield 364, 3), (12, .if_icmp .lt 5, 3), (15, .iconst (-1), 1), (16, .ireturn, 1), (17, .aload_n 0, 1), (18, .getfield 56, 3), (21, .getfield 367, 3), (24, .iload_n 1, 1), (25, .baload, 1), (26, .ireturn, 1)] : List (Nat × Instr × Nat)), decode cX7_outputByte q.1 = .ok q.2 := by decide +kernel
theorem dX7_outputByte_0 : decode cX7_outputByte 0 = .ok (.iload_n 1, 1) := DX7_outputByte_0 (0, .iload_n 1, 1) (List.mem_of_getElem? (i := 0) rfl)
theorem dX7_outputByte_1 : decode cX7_outputByte 1 = .ok (.ifCond .lt 14, 3) := DX7_outputByte_0 (1, .ifCond .lt 14, 3) (List.mem_of_getElem? (i := 1) rfl)
theorem dX7_outputByte_4 : decode cX7_outputByte 4 = .ok (.iload_n 1, 1) := DX7_outputByte_0 (4, .iload_n 1, 1) (List.mem_of_getElem? (i := 2) rfl)
theorem dX7_outputByte_5 : decode cX7_outputByte 5 = .ok (.aload_n 0, 1) := DX7_outputByte_0 (5, .aload_n 0, 1) (List.mem_of_getElem? (i := 3) rfl)
theorem dX7_outputByte_6 : decode cX7_outputByte 6 = .ok (.getfield 56, 3) := DX7_outputByte_0 (6, .getfield 56, 3) (List.mem_of_getElem? (i := 4) rfl)
theorem dX7_outputByte_9 : decode cX7_outputByte 9 = .ok (.getfield 364, 3) := DX7_outputByte_0 (9, .getfield 364, 3) (List.mem_of_getElem? (i := 5) rfl)
theorem dX7_outputByte_12 : decode cX7_outputByte 12 = .ok (.if_icmp .lt 5, 3) := DX7_outputByte_0 (12, .if_icmp .lt 5, 3) (List.mem_of_getElem? (i := 6) rfl)
theorem dX7_outputByte_15 : decode cX7_outputByte 15 = .ok (.iconst (-1), 1) := DX7_outputByte_0 (15, .iconst (-1), 1) (List.mem_of_getElem? (i := 7) rfl)
theorem dX7_outputByte_16 : decode cX7_outputByte 16 = .ok (.ireturn, 1) := DX7_outputByte_0 (16, .ireturn, 1) (List.mem_of_getElem? (i := 8) rfl)
theorem dX7_outputByte_17 : decode cX7_outputByte 17 = .ok (.aload_n 0, 1) := DX7_outputByte_0 (17, .aload_n 0, 1) (List.mem_of_getElem? (i := 9) rfl)
theorem dX7_outputByte_18 : decode cX7_outputByte 18 = .ok (.getfield 56, 3) := DX7_outputByte_0 (18, .getfield 56, 3) (List.mem_of_getElem? (i := 10) rfl)
theorem dX7_outputByte_21 : decode cX7_outputByte 21 = .ok (.getfield 367, 3) := DX7_outputByte_0 (21, .getfield 367, 3) (List.mem_of_getElem? (i := 11) rfl)
theorem dX7_outputByte_24 : decode cX7_outputByte 24 = .ok (.iload_n 1, 1) := DX7_outputByte_0 (24, .iload_n 1, 1) (List.mem_of_getElem? (i := 12) rfl)
theorem dX7_outputByte_25 : decode cX7_outputByte 25 = .ok (.baload, 1) := DX7_outputByte_0 (25, .baload, 1) (List.mem_of_getElem? (i := 13) rfl)
theorem dX7_outputByte_26 : decode cX7_outputByte 26 = .ok (.ireturn, 1) := DX7_outputByte_0 (26, .ireturn, 1) (List.mem_of_getElem? (i := 14) rfl)
abbrev rmX7_outputByte : Room := { frames := 0, cells := 0, slots := 0, locals := 0 }
set_option maxHeartbeats 1000000 in
set_option maxRecDepth 100000 in
theorem met_X7_outputByte (l : Launch) (D : va_G) (kA : Nat → ClassId) (a : Nat → Nat) (pf : Nat → Option Nat) (V : Sz) (X : Sz) (x1 : Int) {r : Int} (hf : f_X7_outputByte V X x1 = some r) : MP l yX7_outputByte cX7_outputByte 2 (some .int) rmX7_outputByte D kA [.ref (a 0), vI x1] (cs_X7 kA a V X pf) (some (vI r)) := by
  refine zPI (own := RX7) rfl rfl (Nat.le_of_ble_eq_true rfl) ?_
  intro p e s m args below meth c ls Q hC hK hP hl hret
  have hl : lv_has ls 2 [(0, .ref (a 0)), (1, vI x1)] := hl
  unfold f_X7_outputByte at hf
  refine ziload_n hC.1 hC.2.1 dX7_outputByte_0 rfl (lv_at hl 1 rfl) <| ?_
  obtain ⟨hz_1, hf⟩ := ck_some hf
  refine zif_lt (tgt := 15) hC.1 hC.2.1 hz_1 dX7_outputByte_1 (by decide) (fun hc => ?_) (fun hc => ?_)
  · have hf := it_t hf hc
    exact ziconst hC.1 hC.2.1 dX7_outputByte_15 <| hret (Int32.ofInt (-1)) _ _ (qI hf) dX7_outputByte_16
  · have hf := it_f hf hc
    refine ziload_n hC.1 hC.2.1 dX7_outputByte_4 rfl (lv_at hl 1 rfl) <| lv_aload_n hC.1 hC.2.1 dX7_outputByte_5 rfl (lv_at hl 0 rfl) <| gfX7_56 hC hK hP (q0 := 0) rfl rfl dX7_outputByte_6 <| gfX7_364 hC hK hP (q0 := 80) rfl rfl dX7_outputByte_9 <| ?_
    obtain ⟨hz_2, hf⟩ := ck_some hf
    refine zicmp_lt (tgt := 17) hC.1 hC.2.1 ⟨hz_1, hz_2⟩ dX7_outputByte_12 (by decide) (fun hc => ?_) (fun hc => ?_)
    · have hf := it_t hf hc
      refine lv_aload_n hC.1 hC.2.1 dX7_outputByte_17 rfl (lv_at hl 0 rfl) <| gfX7_56 hC hK hP (q0 := 0) rfl rfl dX7_outputByte_18 <| gfX7_367 hC hK hP (q0 := 80) rfl rfl dX7_outputByte_21 <| ziload_n hC.1 hC.2.1 dX7_outputByte_24 rfl (lv_at hl 1 rfl) <| ?_
      obtain ⟨hz_3, hf⟩ := ck_some hf
      exact jbal hC hK hP (q0 := 81) rfl (Nat.le_of_ble_eq_true rfl) hz_3 rfl dX7_outputByte_25 <| hret (Int32.ofInt (V 99 x1.toNat)) _ _ (qI hf) dX7_outputByte_26
    · have hf := it_f hf hc
      exact ziconst hC.1 hC.2.1 dX7_outputByte_15 <| hret (Int32.ofInt (-1)) _ _ (qI hf) dX7_outputByte_16
theorem DX7_saveState_0 : ∀ q ∈ ([(0, .aload_n 0, 1), (1, .getfield 30, 3), (4, .aload_n 0, 1), (5, .getfield 23, 3), (8, .invokevirtual 75, 3), (11, .aload_n 0, 1), (12, .iconst 1, 1), (13, .putfield 82, 3), (16, .aload_n 0, 1), (17, .getfield 23, 3), (20, .getfield 86, 3), (23, .getfield 90, 3), (26, .ireturn, 1)] : List (Nat × Instr × Nat)), decode cX7_saveState q.1 = .ok q.2 := by decide +kernel
theorem dX7_saveState_0 : decode cX7_saveState 0 = .ok (.aload_n 0, 1) := DX7_saveState_0 (0, .aload_n 0, 1) (List.mem_of_getElem? (i := 0) rfl)
theorem dX7_saveState_1 : decode cX7_saveState 1 = .ok (.getfield 30, 3) := DX7_saveState_0 (1, .getfield 30, 3) (List.mem_of_getElem? (i := 1) rfl)
theorem dX7_saveState_4 : decode cX7_saveState 4 = .ok (.aload_n 0, 1) := DX7_saveState_0 (4, .aload_n 0, 1) (List.mem_of_getElem? (i := 2) rfl)
theorem dX7_saveState_5 : decode cX7_saveState 5 = .ok (.getfield 23, 3) := DX7_saveState_0 (5, .getfield 23, 3) (List.mem_of_getElem? (i := 3) rfl)
theorem dX7_saveState_8 : decode cX7_saveState 8 = .ok (.invokevirtual 75, 3) := DX7_saveState_0 (8, .invokevirtual 75, 3) (List.mem_of_getElem? (i := 4) rfl)
theorem dX7_saveState_11 : decode cX7_saveState 11 = .ok (.aload_n 0, 1) := DX7_saveState_0 (11, .aload_n 0, 1) (List.mem_of_getElem? (i := 5) rfl)
theorem dX7_saveState_12 : decode cX7_saveState 12 = .ok (.iconst 1, 1) := DX7_saveState_0 (12, .iconst 1, 1) (List.mem_of_getElem? (i := 6) rfl)
theorem dX7_saveState_13 : decode cX7_saveState 13 = .ok (.putfield 82, 3) := DX7_saveState_0 (13, .putfield 82, 3) (List.mem_of_getElem? (i := 7) rfl)
theorem dX7_saveState_16 : decode cX7_saveState 16 = .ok (.aload_n 0, 1) := DX7_saveState_0 (16, .aload_n 0, 1) (List.mem_of_getElem? (i := 8) rfl)
theorem dX7_saveState_17 : decode cX7_saveState 17 = .ok (.getfield 23, 3) := DX7_saveState_0 (17, .getfield 23, 3) (List.mem_of_getElem? (i := 9) rfl)
theorem dX7_saveState_20 : decode cX7_saveState 20 = .ok (.getfield 86, 3) := DX7_saveState_0 (20, .getfield 86, 3) (List.mem_of_getElem? (i := 10) rfl)
theorem dX7_saveState_23 : decode cX7_saveState 23 = .ok (.getfield 90, 3) := DX7_saveState_0 (23, .getfield 90, 3) (List.mem_of_getElem? (i := 11) rfl)
theorem dX7_saveState_26 : decode cX7_saveState 26 = .ok (.ireturn, 1) := DX7_saveState_0 (26, .ireturn, 1) (List.mem_of_getElem? (i := 12) rfl)
abbrev rmX7_saveState : Room := { frames := 4, cells := 0, slots := 0, locals := 123 }
set_option maxHeartbeats 1000000 in
set_option maxRecDepth 100000 in
theorem met_X7_saveState (l : Launch) (D : va_G) (kA : Nat → ClassId) (a : Nat → Nat) (pf : Nat → Option Nat) (V0 : Sz) (X : Sz) (hDt : ∀ w : Sz, va_D (fun _ => True) (cs_X7 kA a w X pf)) {r : Int} {Vr : Sz} (hf : f_X7_saveState V0 X = some (r, Vr)) : MZ l yX7_saveState cX7_saveState 1 (some .int) rmX7_saveState D kA [.ref (a 0)] (cs_X7 kA a V0 X pf) (cs_X7 kA a Vr X pf) (some (vI r)) := by
  refine zZI (own := RX7) rfl rfl (Nat.le_of_ble_eq_true rfl) ?_
  intro p e s m args below meth c ls Q hC hK hP hl hret
  have hl : lv_has ls 1 [(0, .ref (a 0))] := hl
  have hS : va_S (zF (cs_X7 kA a V0 X pf)) s.heap s.heap [] := va_S.rf
  have hD := zDself (C := fun w : Sz => (cs_X7 kA a w X pf)) hDt V0 (fun _ => rfl)
  try dsimp only at hD
  generalize hAe : zF (cs_X7 kA a V0 X pf) = A0 at hS hD hret
  unfold f_X7_saveState at hf
  refine lv_aload_n hC.1 hC.2.1 dX7_saveState_0 rfl (lv_at hl 0 rfl) <| gfX7_30 hC hK hP (q0 := 0) rfl rfl dX7_saveState_1 <| lv_aload_n hC.1 hC.2.1 dX7_saveState_4 rfl (lv_at hl 0 rfl) <| gfX7_23 hC hK hP (q0 := 0) rfl rfl dX7_saveState_5 <| ?_
  obtain ⟨V_1, hu, hf⟩ := bd_some hf
  have hPc : va_P D vwCl (cs_X4 kA (sv 50 a) (sv 58 V0) ++ (cs_X4 kA (sv 2 a) (sv 4 V0))) _ := hP.sub [50, 51, 52, 53, 54, 55, 56, 57, 58, 59, 60, 61, 62, 63, 64, 65, 66, 67, 68, 69, 70, 71, 72, 73, 2, 3, 4, 5, 6, 7, 8, 9, 10, 11, 12, 13, 14, 15, 16, 17, 18, 19, 20, 21, 22, 23, 24, 25] rfl
  have hDc : ∀ w : Sz, va_D (fun _ => True) (cs_X4 kA (sv 50 a) w ++ (cs_X4 kA (sv 2 a) (sv 4 V0))) := fun w => (hDt (sw 58 27 V0 w)).sub [50, 51, 52, 53, 54, 55, 56, 57, 58, 59, 60, 61, 62, 63, 64, 65, 66, 67, 68, 69, 70, 71, 72, 73, 2, 3, 4, 5, 6, 7, 8, 9, 10, 11, 12, 13, 14, 15, 16, 17, 18, 19, 20, 21, 22, 23, 24, 25] (by decide) rfl
  refine zcVZ (As := [.ref (a 2)]) (rest := []) hC hK (met_X4_become l D kA (sv 50 a) (sv 2 a) (sv 58 V0) (sv 4 V0) hDc hu) zwX7_75 hS (zFsub (hD V0) [50, 51, 52, 53, 54, 55, 56, 57, 58, 59, 60, 61, 62, 63, 64, 65, 66, 67, 68, 69, 70, 71, 72, 73, 2, 3, 4, 5, 6, 7, 8, 9, 10, 11, 12, 13, 14, 15, 16, 17, 18, 19, 20, 21, 22, 23, 24, 25] rfl) hPc (q0 := 0) rfl rfl rfl rfl hl.1 rfl (Nat.le_of_ble_eq_true rfl) ⟨Nat.le_of_ble_eq_true rfl, Nat.le_of_ble_eq_true rfl⟩ ⟨rfl, rfl⟩ ⟨Nat.le_refl _, Nat.le_refl _⟩ dX7_saveState_8 (fun H locs hP1 hk1 hS => ?_)
  obtain ⟨V_2, eV_2⟩ : ∃ y, y = sw 58 27 V0 V_1 := ⟨_, rfl⟩
  have hf := nm_at hf eV_2
  have hP : va_P D vwCl (cs_X7 kA a V_2 X pf) H := by rw [eV_2]; exact zjoinB (wb0 := (cs_X4 kA (sv 50 a) (sv 58 V0))) (wb1 := (cs_X4 kA (sv 50 a) V_1)) (wo := (cs_X4 kA (sv 2 a) (sv 4 V0))) hP (hDt V0) 50 24 [50, 51, 52, 53, 54, 55, 56, 57, 58, 59, 60, 61, 62, 63, 64, 65, 66, 67, 68, 69, 70, 71, 72, 73, 2, 3, 4, 5, 6, 7, 8, 9, 10, 11, 12, 13, 14, 15, 16, 17, 18, 19, 20, 21, 22, 23, 24, 25] rfl rfl rfl rfl hk1 hP1
  refine lv_aload_n hC.1 hC.2.1 dX7_saveState_11 rfl (lv_at hl 0 rfl) <| ziconst hC.1 hC.2.1 dX7_saveState_12 <| ?_
  refine pfX7_82 hC hK hP (hD V_2) hS (q0 := 0) rfl (Nat.le_of_ble_eq_true rfl) (Or.inr rfl) dX7_saveState_13 (fun H locs hP hS => ?_)
  obtain ⟨V_3, eV_3⟩ : ∃ y, y = us V_2 85 1 := ⟨_, rfl⟩
  have hf := nm_at hf eV_3
  have hP : va_P D vwCl (cs_X7 kA a V_3 X pf) H := by rw [eV_3]; exact hP
  refine lv_aload_n hC.1 hC.2.1 dX7_saveState_16 rfl (lv_at hl 0 rfl) <| gfX7_23 hC hK hP (q0 := 0) rfl rfl dX7_saveState_17 <| gfX7_86 hC hK hP (q0 := 2) rfl rfl dX7_saveState_20 <| gfX7_90 hC hK hP (q0 := 8) rfl rfl dX7_saveState_23 <| ?_
  have hf := Option.some.inj hf
  simp only [Prod.mk.injEq] at hf
  exact hret (Int32.ofInt (V_3 13 0)) _ _ _ _ (congrArg (fun z => some (vI z)) hf.1.symm) (by rw [← hf.2]; exact hP) hS dX7_saveState_26
theorem DX7_restoreState_0 : ∀ q ∈ ([(0, .aload_n 0, 1), (1, .getfield 82, 3), (4, .ifCond .ne 14, 3), (7, .new 238, 3), (10, .dup, 1), (11, .ldc_w 373, 3), (14, .invokespecial 242, 3), (17, .athrow, 1), (18, .aload_n 0, 1), (19, .getfield 23, 3), (22, .aload_n 0, 1), (23, .getfield 30, 3), (26, .invokevirtual 75, 3), (29, .aload_n 0, 1), (30, .iconst 0, 1), (31, .putfield 79, 3), (34, .aload_n 0, 1), (35, .getfield 23, 3), (38, .getfield 86, 3), (41, .getfield 90, 3), (44, .ireturn, 1)] : List (Nat × Instr × Nat)), decode cX7_restoreState q.1 = .ok q.2 := by decide +kernel
theorem dX7_restoreState_0 : decode cX7_restoreState 0 = .ok (.aload_n 0, 1) := DX7_restoreState_0 (0, .aload_n 0, 1) (List.mem_of_getElem? (i := 0) rfl)
theorem dX7_restoreState_1 : decode cX7_restoreState 1 = .ok (.getfield 82, 3) := DX7_restoreState_0 (1, .getfield 82, 3) (List.mem_of_getElem? (i := 1) rfl)
theorem dX7_restoreState_4 : decode cX7_restoreState 4 = .ok (.ifCond .ne 14, 3) := DX7_restoreState_0 (4, .ifCond .ne 14, 3) (List.mem_of_getElem? (i := 2) rfl)
theorem dX7_restoreState_7 : decode cX7_restoreState 7 = .ok (.new 238, 3) := DX7_restoreState_0 (7, .new 238, 3) (List.mem_of_getElem? (i := 3) rfl)
theorem dX7_restoreState_10 : decode cX7_restoreState 10 = .ok (.dup, 1) := DX7_restoreState_0 (10, .dup, 1) (List.mem_of_getElem? (i := 4) rfl)
theorem dX7_restoreState_11 : decode cX7_restoreState 11 = .ok (.ldc_w 373, 3) := DX7_restoreState_0 (11, .ldc_w 373, 3) (List.mem_of_getElem? (i := 5) rfl)
theorem dX7_restoreState_14 : decode cX7_restoreState 14 = .ok (.invokespecial 242, 3) := DX7_restoreState_0 (14, .invokespecial 242, 3) (List.mem_of_getElem? (i := 6) rfl)
theorem dX7_restoreState_17 : decode cX7_restoreState 17 = .ok (.athrow, 1) := DX7_restoreState_0 (17, .athrow, 1) (List.mem_of_getElem? (i := 7) rfl)
theorem dX7_restoreState_18 : decode cX7_restoreState 18 = .ok (.aload_n 0, 1) := DX7_restoreState_0 (18, .aload_n 0, 1) (List.mem_of_getElem? (i := 8) rfl)
theorem dX7_restoreState_19 : decode cX7_restoreState 19 = .ok (.getfield 23, 3) := DX7_restoreState_0 (19, .getfield 23, 3) (List.mem_of_getElem? (i := 9) rfl)
theorem dX7_restoreState_22 : decode cX7_restoreState 22 = .ok (.aload_n 0, 1) := DX7_restoreState_0 (22, .aload_n 0, 1) (List.mem_of_getElem? (i := 10) rfl)
theorem dX7_restoreState_23 : decode cX7_restoreState 23 = .ok (.getfield 30, 3) := DX7_restoreState_0 (23, .getfield 30, 3) (List.mem_of_getElem? (i := 11) rfl)
theorem dX7_restoreState_26 : decode cX7_restoreState 26 = .ok (.invokevirtual 75, 3) := DX7_restoreState_0 (26, .invokevirtual 75, 3) (List.mem_of_getElem? (i := 12) rfl)
theorem dX7_restoreState_29 : decode cX7_restoreState 29 = .ok (.aload_n 0, 1) := DX7_restoreState_0 (29, .aload_n 0, 1) (List.mem_of_getElem? (i := 13) rfl)
theorem dX7_restoreState_30 : decode cX7_restoreState 30 = .ok (.iconst 0, 1) := DX7_restoreState_0 (30, .iconst 0, 1) (List.mem_of_getElem? (i := 14) rfl)
theorem dX7_restoreState_31 : decode cX7_restoreState 31 = .ok (.putfield 79, 3) := DX7_restoreState_0 (31, .putfield 79, 3) (List.mem_of_getElem? (i := 15) rfl)
theorem dX7_restoreState_34 : decode cX7_restoreState 34 = .ok (.aload_n 0, 1) := DX7_restoreState_0 (34, .aload_n 0, 1) (List.mem_of_getElem? (i := 16) rfl)
theorem dX7_restoreState_35 : decode cX7_restoreState 35 = .ok (.getfield 23, 3) := DX7_restoreState_0 (35, .getfield 23, 3) (List.mem_of_getElem? (i := 17) rfl)
theorem dX7_restoreState_38 : decode cX7_restoreState 38 = .ok (.getfield 86, 3) := DX7_restoreState_0 (38, .getfield 86, 3) (List.mem_of_getElem? (i := 18) rfl)
theorem dX7_restoreState_41 : decode cX7_restoreState 41 = .ok (.getfield 90, 3) := DX7_restoreState_0 (41, .getfield 90, 3) (List.mem_of_getElem? (i := 19) rfl)
theorem dX7_restoreState_44 : decode cX7_restoreState 44 = .ok (.ireturn, 1) := DX7_restoreState_0 (44, .ireturn, 1) (List.mem_of_getElem? (i := 20) rfl)
abbrev rmX7_restoreState : Room := { frames := 4, cells := 0, slots := 0, locals := 123 }
set_option maxHeartbeats 1000000 in
set_option maxRecDepth 100000 in
theorem met_X7_restoreState (l : Launch) (D : va_G) (kA : Nat → ClassId) (a : Nat → Nat) (pf : Nat → Option Nat) (V0 : Sz) (X : Sz) (hDt : ∀ w : Sz, va_D (fun _ => True) (cs_X7 kA a w X pf)) {r : Int} {Vr : Sz} (hf : f_X7_restoreState V0 X = some (.inl (r, Vr))) : MZ l yX7_restoreState cX7_restoreState 1 (some .int) rmX7_restoreState D kA [.ref (a 0)] (cs_X7 kA a V0 X pf) (cs_X7 kA a Vr X pf) (some (vI r)) := by
  refine zZI (own := RX7) rfl rfl (Nat.le_of_ble_eq_true rfl) ?_
  intro p e s m args below meth c ls Q hC hK hP hl hret
  have hl : lv_has ls 1 [(0, .ref (a 0))] := hl
  have hS : va_S (zF (cs_X7 kA a V0 X pf)) s.heap s.heap [] := va_S.rf
  have hD := zDself (C := fun w : Sz => (cs_X7 kA a w X pf)) hDt V0 (fun _ => rfl)
  try dsimp only at hD
  generalize hAe : zF (cs_X7 kA a V0 X pf) = A0 at hS hD hret
  unfold f_X7_restoreState at hf
  refine lv_aload_n hC.1 hC.2.1 dX7_restoreState_0 rfl (lv_at hl 0 rfl) <| gfX7_82 hC hK hP (q0 := 0) rfl rfl dX7_restoreState_1 <| ?_
  obtain ⟨hz_1, hf⟩ := ck_some hf
  refine zif_ne (tgt := 18) hC.1 hC.2.1 hz_1 dX7_restoreState_4 (by decide) (fun hc => ?_) (fun hc => ?_)
  · have hf := it_f hf hc
    have hf := bl_inl hf
    refine lv_aload_n hC.1 hC.2.1 dX7_restoreState_18 rfl (lv_at hl 0 rfl) <| gfX7_23 hC hK hP (q0 := 0) rfl rfl dX7_restoreState_19 <| lv_aload_n hC.1 hC.2.1 dX7_restoreState_22 rfl (lv_at hl 0 rfl) <| gfX7_30 hC hK hP (q0 := 0) rfl rfl dX7_restoreState_23 <| ?_
    obtain ⟨V_2, hu, hf⟩ := bd_some hf
    have hPc : va_P D vwCl (cs_X4 kA (sv 2 a) (sv 4 V0) ++ (cs_X4 kA (sv 50 a) (sv 58 V0))) _ := hP.sub [2, 3, 4, 5, 6, 7, 8, 9, 10, 11, 12, 13, 14, 15, 16, 17, 18, 19, 20, 21, 22, 23, 24, 25, 50, 51, 52, 53, 54, 55, 56, 57, 58, 59, 60, 61, 62, 63, 64, 65, 66, 67, 68, 69, 70, 71, 72, 73] rfl
    have hDc : ∀ w : Sz, va_D (fun _ => True) (cs_X4 kA (sv 2 a) w ++ (cs_X4 kA (sv 50 a) (sv 58 V0))) := fun w => (hDt (sw 4 27 V0 w)).sub [2, 3, 4, 5, 6, 7, 8, 9, 10, 11, 12, 13, 14, 15, 16, 17, 18, 19, 20, 21, 22, 23, 24, 25, 50, 51, 52, 53, 54, 55, 56, 57, 58, 59, 60, 61, 62, 63, 64, 65, 66, 67, 68, 69, 70, 71, 72, 73] (by decide) rfl
    refine zcVZ (As := [.ref (a 50)]) (rest := []) hC hK (met_X4_become l D kA (sv 2 a) (sv 50 a) (sv 4 V0) (sv 58 V0) hDc hu) zwX7_75 hS (zFsub (hD V0) [2, 3, 4, 5, 6, 7, 8, 9, 10, 11, 12, 13, 14, 15, 16, 17, 18, 19, 20, 21, 22, 23, 24, 25, 50, 51, 52, 53, 54, 55, 56, 57, 58, 59, 60, 61, 62, 63, 64, 65, 66, 67, 68, 69, 70, 71, 72, 73] rfl) hPc (q0 := 0) rfl rfl rfl rfl hl.1 rfl (Nat.le_of_ble_eq_true rfl) ⟨Nat.le_of_ble_eq_true rfl, Nat.le_of_ble_eq_true rfl⟩ ⟨rfl, rfl⟩ ⟨Nat.le_refl _, Nat.le_refl _⟩ dX7_restoreState_26 (fun H locs hP1 hk1 hS => ?_)
    obtain ⟨V_3, eV_3⟩ : ∃ y, y = sw 4 27 V0 V_2 := ⟨_, rfl⟩
    have hf := nm_at hf eV_3
    have hP : va_P D vwCl (cs_X7 kA a V_3 X pf) H := by rw [eV_3]; exact zjoinB (wb0 := (cs_X4 kA (sv 2 a) (sv 4 V0))) (wb1 := (cs_X4 kA (sv 2 a) V_2)) (wo := (cs_X4 kA (sv 50 a) (sv 58 V0))) hP (hDt V0) 2 24 [2, 3, 4, 5, 6, 7, 8, 9, 10, 11, 12, 13, 14, 15, 16, 17, 18, 19, 20, 21, 22, 23, 24, 25, 50, 51, 52, 53, 54, 55, 56, 57, 58, 59, 60, 61, 62, 63, 64, 65, 66, 67, 68, 69, 70, 71, 72, 73] rfl rfl rfl rfl hk1 hP1
    refine lv_aload_n hC.1 hC.2.1 dX7_restoreState_29 rfl (lv_at hl 0 rfl) <| ziconst hC.1 hC.2.1 dX7_restoreState_30 <| ?_
    refine pfX7_79 hC hK hP (hD V_3) hS (q0 := 0) rfl (Nat.le_of_ble_eq_true rfl) dX7_restoreState_31 (fun H locs hP hS => ?_)
    obtain ⟨V_4, eV_4⟩ : ∃ y, y = us V_3 87 0 := ⟨_, rfl⟩
    have hf := nm_at hf eV_4
    have hP : va_P D vwCl (cs_X7 kA a V_4 X pf) H := by rw [eV_4]; exact hP
    refine lv_aload_n hC.1 hC.2.1 dX7_restoreState_34 rfl (lv_at hl 0 rfl) <| gfX7_23 hC hK hP (q0 := 0) rfl rfl dX7_restoreState_35 <| gfX7_86 hC hK hP (q0 := 2) rfl rfl dX7_restoreState_38 <| gfX7_90 hC hK hP (q0 := 8) rfl rfl dX7_restoreState_41 <| ?_
    have hf := Option.some.inj hf
    simp only [Prod.mk.injEq] at hf
    exact hret (Int32.ofInt (V_4 13 0)) _ _ _ _ (congrArg (fun z => some (vI z)) hf.1.symm) (by rw [← hf.2]; exact hP) hS dX7_restoreState_44
  · have hf := it_t hf hc
    cases hf
abbrev rxX7_restoreState : Room := { frames := 6, cells := 1, slots := 6, locals := 123 }
set_option maxHeartbeats 1000000 in
set_option maxRecDepth 100000 in
theorem thr_X7_restoreState (l : Launch) (D : va_G) (kA : Nat → ClassId) (a : Nat → Nat) (pf : Nat → Option Nat) (V0 : Sz) (X : Sz) {er : Nat} (hf : f_X7_restoreState V0 X = some (.inr er)) : MX l yX7_restoreState cX7_restoreState 1 (some .int) rxX7_restoreState D kA [.ref (a 0)] (cs_X7 kA a V0 X pf) (zEx er) := by
  refine zXstart (own := RX7) rfl rfl (Nat.le_of_ble_eq_true rfl) ?_
  intro p e s m args below meth c ls hC hK hP hX hl hx hlocks
  have hl : lv_has ls 1 [(0, .ref (a 0))] := hl
  unfold f_X7_restoreState at hf
  refine lv_aload_n hC.1 hC.2.1 dX7_restoreState_0 rfl (lv_at hl 0 rfl) <| gfX7_82 hC hK hP (q0 := 0) rfl rfl dX7_restoreState_1 <| ?_
  obtain ⟨hz_1, hf⟩ := ck_some hf
  refine zif_ne (tgt := 18) hC.1 hC.2.1 hz_1 dX7_restoreState_4 (by decide) (fun hc => ?_) (fun hc => ?_)
  · have hf := it_f hf hc
    exact (bl_inr hf).elim
  · have hf := it_t hf hc
    cases hf
    exact zth2W (is := 373) (tx := "no state is saved") hC hX hx hlocks (by decide +kernel) hl.1 dX7_restoreState_7 dX7_restoreState_10 dX7_restoreState_11 dX7_restoreState_14 dX7_restoreState_17 (Nat.le_of_ble_eq_true rfl) (Nat.le_of_ble_eq_true rfl) (Nat.le_of_ble_eq_true rfl) (Nat.le_of_ble_eq_true rfl)
