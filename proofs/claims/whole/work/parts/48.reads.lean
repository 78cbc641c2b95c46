section ZG
variable {p : Program} {l : Launch} {e : Env} {R : Room} {s : State} {m : MethodId} {args : Array Value} {below : List Frame} {meth : Method} {c : Code} {H H0 : Heap} {locs : List Loc} {cells slots : Nat} {Q : State → Prop}
variable {pc nL : Nat} {ls : Array Slot} {rest : List Value} {A0 : Nat → Prop} {D : va_G} {kA : Nat → ClassId} {cc : ByteArray}
theorem gfX8_152 {ws : va_W} {q0 b : Nat} {fs : List Value} {v : Value} (hC : CallFix p m c cc nL s args lw_all RX8) (hK : zK D kA s) (hP : va_P D vwCl ws H) (he : ws[q0]? = some (b, .inr (8, fs))) (hv : fs[19]? = some v) (hdg : decode cc pc = .ok (.getfield 152, 3)) (kk : W p l e R s m args below meth c H locs cells slots Q (F0 m (pc + 3) ls (v :: rest))) : W p l e R s m args below meth c H locs cells slots Q (F0 m pc ls (.ref b :: rest)) := va_get hC.1 hC.2.1 hC.2.2.2.2 uin_X8 hC.2.2.2.1 hK.1 hP q0 he rfl 19 (by decide) (hC.2.2.2.2 _ qw_1224) (fun _ h => h) hv hdg kk
theorem gfX8_50 {ws : va_W} {q0 b : Nat} {fs : List Value} {v : Value} (hC : CallFix p m c cc nL s args lw_all RX8) (hK : zK D kA s) (hP : va_P D vwCl ws H) (he : ws[q0]? = some (b, .inr (8, fs))) (hv : fs[25]? = some v) (hdg : decode cc pc = .ok (.getfield 50, 3)) (kk : W p l e R s m args below meth c H locs cells slots Q (F0 m (pc + 3) ls (v :: rest))) : W p l e R s m args below meth c H locs cells slots Q (F0 m pc ls (.ref b :: rest)) := va_get hC.1 hC.2.1 hC.2.2.2.2 uin_X8 hC.2.2.2.1 hK.1 hP q0 he rfl 25 (by decide) (hC.2.2.2.2 _ qw_1230) (fun _ h => h) hv hdg kk
theorem pfX8_255 {ws : va_W} {q0 b : Nat} {fs : List Value} {x : Int} (hC : CallFix p m c cc nL s args lw_all RX8) (hK : zK D kA s) (hP : va_P D vwCl ws H) (hD : va_D A0 ws) (hS : va_S A0 H0 H locs) (he : ws[q0]? = some (b, .inr (8, fs))) (hl : 16 < fs.length) (hdg : decode cc pc = .ok (.putfield 255, 3)) (kk : ∀ (H1 : Heap) (locs1 : List Loc), va_P D vwCl (ws.set q0 (b, .inr (8, fs.set 16 (vI x)))) H1 → va_S A0 H0 H1 locs1 → W p l e R s m args below meth c H1 locs1 cells slots Q (F0 m (pc + 3) ls rest)) : W p l e R s m args below meth c H locs cells slots Q (F0 m pc ls (vI x :: .ref b :: rest)) := va_put hC.1 hC.2.1 hC.2.2.2.2 uin_X8 tyX8 tyX8_ok nmX8 hC.2.2.2.1 hK.1 hP hD hS q0 he rfl 16 (by decide) (hC.2.2.2.2 _ qw_1221) (fun _ h => h) rfl (ty := .int) (v := vI x) (by decide +kernel) rfl rfl hl hdg (fun H1 locs1 h1 _ h3 => kk H1 locs1 h1 h3)
theorem zwX8_176 : zwV RX8 176 RX8 yX8_isWord cX8_isWord 3 (some .boolean) 1 := ⟨⟨qw_1345, qw_1347, qs_35, qw_9, qw_1348⟩, rfl, by decide +kernel, by decide +kernel, by decide +kernel⟩
theorem zwX8_190 : zwV RX8 190 RX8 yX8_isStatement cX8_isStatement 1 (some .boolean) 0 := ⟨⟨qw_1417, qw_1419, qs_41, qw_9, qw_1420⟩, rfl, by decide +kernel, by decide +kernel, by decide +kernel⟩
theorem zwX8_201 : zwV RX8 201 RX8 yX8_isName cX8_isName 1 (some .boolean) 0 := ⟨⟨qw_1413, qw_1415, qs_40, qw_9, qw_1416⟩, rfl, by decide +kernel, by decide +kernel, by decide +kernel⟩
theorem zwX8_204 : zwV RX8 204 RX8 yX8_find cX8_find 4 (some .int) 0 := ⟨⟨qw_1426, qw_1428, qs_42, qw_9, qw_1429⟩, rfl, by decide +kernel, by decide +kernel, by decide +kernel⟩
theorem zwX8_211 : zwV RX8 211 RX8 yX8_takesDonor cX8_takesDonor 3 (some .boolean) 1 := ⟨⟨qw_1443, qw_1445, qs_46, qw_9, qw_1446⟩, rfl, by decide +kernel, by decide +kernel, by decide +kernel⟩
theorem zwX8_224 : zwV RX8 224 RX8 yX8_readShare cX8_readShare 6 (some .boolean) 2 := ⟨⟨qw_1470, qw_1472, qs_52, qw_9, qw_1473⟩, rfl, by decide +kernel, by decide +kernel, by decide +kernel⟩
theorem zwX8_231 : zwV RX8 231 RX8 yX8_readDonor cX8_readDonor 3 (some .boolean) 0 := ⟨⟨qw_1401, qw_1403, qs_37, qw_9, qw_1404⟩, rfl, by decide +kernel, by decide +kernel, by decide +kernel⟩
theorem zwX8_234 : zwV RX8 234 RX8 yX8_readDeclare cX8_readDeclare 2 (some .boolean) 0 := ⟨⟨qw_1439, qw_1441, qs_45, qw_9, qw_1442⟩, rfl, by decide +kernel, by decide +kernel, by decide +kernel⟩
theorem zwX8_237 : zwV RX8 237 RX8 yX8_readGift cX8_readGift 2 (some .boolean) 0 := ⟨⟨qw_1447, qw_1449, qs_47, qw_9, qw_1450⟩, rfl, by decide +kernel, by decide +kernel, by decide +kernel⟩
theorem zwX8_240 : zwV RX8 240 RX8 yX8_readSplit cX8_readSplit 3 (some .boolean) 0 := ⟨⟨qw_1466, qw_1468, qs_51, qw_9, qw_1469⟩, rfl, by decide +kernel, by decide +kernel, by decide +kernel⟩
theorem zwX8_243 : zwV RX8 243 RX8 yX8_readCash cX8_readCash 1 (some .boolean) 0 := ⟨⟨qw_1474, qw_1476, qs_53, qw_9, qw_1477⟩, rfl, by decide +kernel, by decide +kernel, by decide +kernel⟩
theorem zwX8_246 : zwV RX8 246 RX8 yX8_readRules cX8_readRules 2 (some .boolean) 0 := ⟨⟨qw_1478, qw_1480, qs_54, qw_9, qw_1481⟩, rfl, by decide +kernel, by decide +kernel, by decide +kernel⟩
theorem zwX8_249 : zwV RX8 249 RX8 yX8_readStatement cX8_readStatement 1 (some .boolean) 0 := ⟨⟨qw_1340, qw_1342, qs_34, qw_9, qw_1343⟩, rfl, by decide +kernel, by decide +kernel, by decide +kernel⟩
theorem zwX8_252 : zwV RX8 252 RX8 yX8_readText cX8_readText 1 (some .boolean) 0 := ⟨⟨qw_1336, qw_1338, qs_33, qw_9, qw_1339⟩, rfl, by decide +kernel, by decide +kernel, by decide +kernel⟩
end ZG
def f_X8_isStatement (n : Nat) (V : Sz) : Option (Bool) := bd (f_X8_isWord n V 0) fun (r_1 : Bool) => if r_1 = true then (some true) else (bd (f_X8_isWord n V 1) fun (r_2 : Bool) => if r_2 = true then (some true) else (bd (f_X8_isWord n V 2) fun (r_3 : Bool) => if r_3 = true then (some true) else (bd (f_X8_isWord n V 3) fun (r_4 : Bool) => if r_4 = true then (some true) else (bd (f_X8_isWord n V 4) fun (r_5 : Bool) => if r_5 = true then (some true) else (bd (f_X8_isWord n V 5) fun (r_6 : Bool) => if r_6 = false then (some false) else (some true))))))
def f_X8_isName (n : Nat) (V : Sz) : Option (Bool) := ck (rng (V 23 0)) <| if V 23 0 = 1 then (bd (f_X8_tokenLength V) fun (r_2 : Int) => ck (rng r_2) <| if 6 < r_2 then (some false) else (bd (f_X8_isStatement n V) fun (r_4 : Bool) => if r_4 = true then (some false) else (some true))) else (some false)
def bX8_readDonor_56 (n : Nat) (rec56 : Int × Int × Sz → Option (Bool × Sz)) : Int × Int × Sz → Option (Bool × Sz) := fun (y1, y2, V) => ck (rng y2) <| if 6 ≤ y2 then (bd (f_X8_advanceToken n V) fun (V_9 : Sz) => bd (f_X8_takesInto n V_9 (10 + y1) 0 999999) fun ((r_10, V_11) : Bool × Sz) => if r_10 = true then (nm (uz V_11 0 0 ((V_11 0 0) + 1)) fun (V_12 : Sz) => some (true, V_12)) else (some (false, V_11))) else (bd (f_X8_letterHere V y2) fun (r_13 : Int) => ck (inZ ((6 * y1) + y2) 60) <| nm (uz V 7 ((6 * y1) + y2).toNat r_13) fun (V_15 : Sz) => nm (y2 + 1) fun (x_16 : Int) => rec56 (y1, x_16, V_15))
theorem bX8_readDonor_56_e (n : Nat) (rec56 : Int × Int × Sz → Option (Bool × Sz)) (y1 : Int) (y2 : Int) (V : Sz) : bX8_readDonor_56 n rec56 (y1, y2, V) = (ck (rng y2) <| if 6 ≤ y2 then (bd (f_X8_advanceToken n V) fun (V_9 : Sz) => bd (f_X8_takesInto n V_9 (10 + y1) 0 999999) fun ((r_10, V_11) : Bool × Sz) => if r_10 = true then (nm (uz V_11 0 0 ((V_11 0 0) + 1)) fun (V_12 : Sz) => some (true, V_12)) else (some (false, V_11))) else (bd (f_X8_letterHere V y2) fun (r_13 : Int) => ck (inZ ((6 * y1) + y2) 60) <| nm (uz V 7 ((6 * y1) + y2).toNat r_13) fun (V_15 : Sz) => nm (y2 + 1) fun (x_16 : Int) => rec56 (y1, x_16, V_15))) := rfl
def jX8_readDonor_19 (n : Nat) (y1 : Int) (V : Sz) (z0 : Int) : Option (Bool × Sz) := bd (f_X8_starts n V z0) fun ((r_3, V_4) : Bool × Sz) => if r_3 = true then (bd (f_X8_isName n V_4) fun (r_5 : Bool) => if r_5 = true then (bd (f_X8_find n V_4) fun (r_6 : Int) => ck (rng r_6) <| if r_6 = (-1) then (lpF (bX8_readDonor_56 n) n (y1, 0, V_4)) else (bd (f_X8_failsAt V_4 3) fun ((r_17, V_18) : Bool × Sz) => some (r_17, V_18))) else (bd (f_X8_failsAt V_4 1) fun ((r_19, V_20) : Bool × Sz) => some (r_19, V_20))) else (some (false, V_4))
def f_X8_readDonor (n : Nat) (V0 : Sz) : Option (Bool × Sz) := nm (V0 0 0) fun (x_1 : Int) => ck (rng x_1) <| if 10 ≤ x_1 then (jX8_readDonor_19 n x_1 V0 0) else (jX8_readDonor_19 n x_1 V0 1)
def f_X8_takesDonor (n : Nat) (V0 : Sz) (x1 : Int) : Option (Bool × Sz) := bd (f_X8_isName n V0) fun (r_1 : Bool) => if r_1 = true then (bd (f_X8_find n V0) fun (r_2 : Int) => ck (rng r_2) <| if r_2 = (-1) then (bd (f_X8_failsAt V0 3) fun ((r_7, V_8) : Bool × Sz) => some (r_7, V_8)) else (ck (inZ x1 1233) <| nm (uz V0 0 x1.toNat r_2) fun (V_5 : Sz) => bd (f_X8_advanceToken n V_5) fun (V_6 : Sz) => some (true, V_6))) else (bd (f_X8_failsAt V0 1) fun ((r_9, V_10) : Bool × Sz) => some (r_9, V_10))
def jX8_readDeclare_19 (n : Nat) (y1 : Int) (V : Sz) (z0 : Int) : Option (Bool × Sz) := bd (f_X8_starts n V z0) fun ((r_3, V_4) : Bool × Sz) => if r_3 = false then (some (false, V_4)) else (bd (f_X8_takesDonor n V_4 (20 + y1)) fun ((r_5, V_6) : Bool × Sz) => if r_5 = false then (some (false, V_6)) else (bd (f_X8_takesInto n V_6 (51 + y1) 0 9999) fun ((r_7, V_8) : Bool × Sz) => if r_7 = false then (some (false, V_8)) else (ck (inZ (51 + y1) 1233) <| bd (f_X8_takesInto n V_8 (82 + y1) (V_8 0 (51 + y1).toNat) 9999) fun ((r_10, V_11) : Bool × Sz) => if r_10 = true then (nm (uz V_11 0 1 ((V_11 0 1) + 1)) fun (V_12 : Sz) => some (true, V_12)) else (some (false, V_11)))))
def f_X8_readDeclare (n : Nat) (V0 : Sz) : Option (Bool × Sz) := nm (V0 0 1) fun (x_1 : Int) => ck (rng x_1) <| if 30 ≤ x_1 then (jX8_readDeclare_19 n x_1 V0 0) else (jX8_readDeclare_19 n x_1 V0 1)
def f_X8_readGift (n : Nat) (V0 : Sz) : Option (Bool × Sz) := nm (V0 0 2) fun (x_1 : Int) => bd (f_X8_readMoney n V0) fun ((r_2, V_3) : Bool × Sz) => if r_2 = false then (some (false, V_3)) else (bd (f_X8_partOf x_1 0) fun (r_4 : Int) => bd (f_X8_takesDonor n V_3 (413 + r_4)) fun ((r_5, V_6) : Bool × Sz) => if r_5 = true then (bd (f_X8_shares n V_6 x_1 1 1 0 0) fun (V_7 : Sz) => nm (uz V_7 0 2 ((V_7 0 2) + 1)) fun (V_8 : Sz) => some (true, V_8)) else (some (false, V_6)))
def jX8_readShare_123 (n : Nat) (x1 : Int) (x2 : Int) (V : Sz) : Option (Bool × Sz) := bd (f_X8_failsAt V 1) fun ((r_11, V_12) : Bool × Sz) => some (r_11, V_12)
def jX8_readShare_68 (n : Nat) (x1 : Int) (x2 : Int) (rec33 : Int × Int × Int × Sz → Option (Bool × Sz)) (y3 : Int) (y5 : Int) (V : Sz) (z0 : Int) : Option (Bool × Sz) := nm (y5 + 1) fun (x_24 : Int) => rec33 (y3, z0, x_24, V)
def jX8_readShare_67 (n : Nat) (x1 : Int) (x2 : Int) (rec33 : Int × Int × Int × Sz → Option (Bool × Sz)) (y3 : Int) (y5 : Int) (V : Sz) : Option (Bool × Sz) := jX8_readShare_68 n x1 x2 rec33 y3 y5 V 0
def bX8_readShare_33 (n : Nat) (x1 : Int) (x2 : Int) (rec33 : Int × Int × Int × Sz → Option (Bool × Sz)) : Int × Int × Int × Sz → Option (Bool × Sz) := fun (y3, y4, y5, V) => ck (rng y5 ∧ rng x2) <| if x2 ≤ y5 then (ck (rng y4) <| if y4 = 0 then (bd (f_X8_failsAt V 3) fun ((r_21, V_22) : Bool × Sz) => some (r_21, V_22)) else (bd (f_X8_partOf x1 x2) fun (r_6 : Int) => ck (inZ (413 + r_6) 1233) <| nm (uz V 0 (413 + r_6).toNat y3) fun (V_8 : Sz) => bd (f_X8_advanceToken n V_8) fun (V_9 : Sz) => ck (rng (V_9 23 0)) <| if V_9 23 0 = 2 then (bd (f_X8_tokenLength V_9) fun (r_13 : Int) => ck (rng r_13) <| if r_13 ≤ 6 then (bd (f_X8_inRange (V_9 22 0) 1 9) fun (r_15 : Bool) => if r_15 = true then (ck (inZ x2 3) <| nm (uz V_9 25 x2.toNat (V_9 22 0)) fun (V_17 : Sz) => bd (f_X8_advanceToken n V_17) fun (V_18 : Sz) => some (true, V_18)) else (bd (f_X8_failsAt V_9 2) fun ((r_19, V_20) : Bool × Sz) => some (r_19, V_20))) else (jX8_readShare_123 n x1 x2 V_9)) else (jX8_readShare_123 n x1 x2 V_9))) else (ck (rng y4) <| if y4 = 0 then (jX8_readShare_67 n x1 x2 rec33 y3 y5 V) else (bd (f_X8_partOf x1 y5) fun (r_25 : Int) => ck (inZ (413 + r_25) 1233) <| ck (rng (V 0 (413 + r_25).toNat) ∧ rng y3) <| if V 0 (413 + r_25).toNat = y3 then (jX8_readShare_67 n x1 x2 rec33 y3 y5 V) else (jX8_readShare_68 n x1 x2 rec33 y3 y5 V 1)))
theorem bX8_readShare_33_e (n : Nat) (x1 : Int) (x2 : Int) (rec33 : Int × Int × Int × Sz → Option (Bool × Sz)) (y3 : Int) (y4 : Int) (y5 : Int) (V : Sz) : bX8_readShare_33 n x1 x2 rec33 (y3, y4, y5, V) = (ck (rng y5 ∧ rng x2) <| if x2 ≤ y5 then (ck (rng y4) <| if y4 = 0 then (bd (f_X8_failsAt V 3) fun ((r_21, V_22) : Bool × Sz) => some (r_21, V_22)) else (bd (f_X8_partOf x1 x2) fun (r_6 : Int) => ck (inZ (413 + r_6) 1233) <| nm (uz V 0 (413 + r_6).toNat y3) fun (V_8 : Sz) => bd (f_X8_advanceToken n V_8) fun (V_9 : Sz) => ck (rng (V_9 23 0)) <| if V_9 23 0 = 2 then (bd (f_X8_tokenLength V_9) fun (r_13 : Int) => ck (rng r_13) <| if r_13 ≤ 6 then (bd (f_X8_inRange (V_9 22 0) 1 9) fun (r_15 : Bool) => if r_15 = true then (ck (inZ x2 3) <| nm (uz V_9 25 x2.toNat (V_9 22 0)) fun (V_17 : Sz) => bd (f_X8_advanceToken n V_17) fun (V_18 : Sz) => some (true, V_18)) else (bd (f_X8_failsAt V_9 2) fun ((r_19, V_20) : Bool × Sz) => some (r_19, V_20))) else (jX8_readShare_123 n x1 x2 V_9)) else (jX8_readShare_123 n x1 x2 V_9))) else (ck (rng y4) <| if y4 = 0 then (jX8_readShare_67 n x1 x2 rec33 y3 y5 V) else (bd (f_X8_partOf x1 y5) fun (r_25 : Int) => ck (inZ (413 + r_25) 1233) <| ck (rng (V 0 (413 + r_25).toNat) ∧ rng y3) <| if V 0 (413 + r_25).toNat = y3 then (jX8_readShare_67 n x1 x2 rec33 y3 y5 V) else (jX8_readShare_68 n x1 x2 rec33 y3 y5 V 1)))) := rfl
def jX8_readShare_28 (n : Nat) (x1 : Int) (x2 : Int) (y3 : Int) (V : Sz) (z0 : Int) : Option (Bool × Sz) := lpF (bX8_readShare_33 n x1 x2) n (y3, z0, 0, V)
def f_X8_readShare (n : Nat) (V0 : Sz) (x1 : Int) (x2 : Int) : Option (Bool × Sz) := bd (f_X8_isName n V0) fun (r_1 : Bool) => if r_1 = true then (bd (f_X8_find n V0) fun (r_2 : Int) => ck (rng r_2) <| if r_2 = (-1) then (jX8_readShare_28 n x1 x2 r_2 V0 0) else (jX8_readShare_28 n x1 x2 r_2 V0 1)) else (bd (f_X8_failsAt V0 1) fun ((r_28, V_29) : Bool × Sz) => some (r_28, V_29))
def jX8_readSplit_100 (n : Nat) (V : Sz) (z0 : Int) (z1 : Int) (z2 : Int) (z3 : Int) (z4 : Int) : Option (Bool × Sz) := bd (f_X8_shares n V z4 z3 z2 z1 z0) fun (V_12 : Sz) => nm (uz V_12 0 2 ((V_12 0 2) + 1)) fun (V_13 : Sz) => some (true, V_13)
def jX8_readSplit_74 (n : Nat) (y2 : Int) (V : Sz) (z0 : Int) (z1 : Int) : Option (Bool × Sz) := ck (rng y2) <| if y2 = 0 then (jX8_readSplit_100 n V 0 (V 25 1) (V 25 0) z0 z1) else (jX8_readSplit_100 n V (V 25 2) (V 25 1) (V 25 0) z0 z1)
def jX8_readSplit_63 (n : Nat) (y1 : Int) (y2 : Int) (V : Sz) : Option (Bool × Sz) := ck (rng y2) <| if y2 = 0 then (jX8_readSplit_74 n y2 V 2 y1) else (jX8_readSplit_74 n y2 V 3 y1)
def jX8_readSplit_47 (n : Nat) (y1 : Int) (V : Sz) (z0 : Int) : Option (Bool × Sz) := ck (rng z0) <| if z0 = 0 then (jX8_readSplit_63 n y1 z0 V) else (bd (f_X8_readShare n V y1 2) fun ((r_14, V_15) : Bool × Sz) => if r_14 = true then (jX8_readSplit_63 n y1 z0 V_15) else (some (false, V_15)))
def f_X8_readSplit (n : Nat) (V0 : Sz) : Option (Bool × Sz) := nm (V0 0 2) fun (x_1 : Int) => bd (f_X8_readMoney n V0) fun ((r_2, V_3) : Bool × Sz) => if r_2 = false then (some (false, V_3)) else (bd (f_X8_readShare n V_3 x_1 0) fun ((r_4, V_5) : Bool × Sz) => if r_4 = false then (some (false, V_5)) else (bd (f_X8_readShare n V_5 x_1 1) fun ((r_6, V_7) : Bool × Sz) => if r_6 = true then (ck (rng (V_7 23 0)) <| if V_7 23 0 = 1 then (jX8_readSplit_47 n x_1 V_7 1) else (jX8_readSplit_47 n x_1 V_7 0)) else (some (false, V_7))))
def f_X8_readStatement (n : Nat) (V0 : Sz) : Option (Bool × Sz) := bd (f_X8_isWord n V0 0) fun (r_1 : Bool) => if r_1 = false then (bd (f_X8_isWord n V0 1) fun (r_2 : Bool) => if r_2 = false then (bd (f_X8_isWord n V0 2) fun (r_3 : Bool) => if r_3 = false then (bd (f_X8_isWord n V0 3) fun (r_4 : Bool) => if r_4 = false then (bd (f_X8_isWord n V0 4) fun (r_5 : Bool) => if r_5 = false then (bd (f_X8_isWord n V0 5) fun (r_6 : Bool) => if r_6 = false then (bd (f_X8_failsAt V0 1) fun ((r_7, V_8) : Bool × Sz) => some (r_7, V_8)) else (bd (f_X8_readRules n V0) fun ((r_9, V_10) : Bool × Sz) => some (r_9, V_10))) else (bd (f_X8_readCash n V0) fun ((r_11, V_12) : Bool × Sz) => some (r_11, V_12))) else (bd (f_X8_readSplit n V0) fun ((r_13, V_14) : Bool × Sz) => some (r_13, V_14))) else (bd (f_X8_readGift n V0) fun ((r_15, V_16) : Bool × Sz) => some (r_15, V_16))) else (bd (f_X8_readDeclare n V0) fun ((r_17, V_18) : Bool × Sz) => some (r_17, V_18))) else (bd (f_X8_readDonor n V0) fun ((r_19, V_20) : Bool × Sz) => some (r_19, V_20))
def bX8_readText_0 (n : Nat) (rec0 : Sz → Option (Bool × Sz)) : Sz → Option (Bool × Sz) := fun V => ck (rng (V 23 0)) <| if V 23 0 = 0 then (some (true, V)) else (bd (f_X8_readStatement n V) fun ((r_2, V_3) : Bool × Sz) => if r_2 = true then (ck (rng (V_3 23 0)) <| if V_3 23 0 = 3 then (bd (f_X8_advanceToken n V_3) fun (V_5 : Sz) => rec0 V_5) else (bd (f_X8_failsAt V_3 1) fun ((r_6, V_7) : Bool × Sz) => some (r_6, V_7))) else (some (false, V_3)))
theorem bX8_readText_0_e (n : Nat) (rec0 : Sz → Option (Bool × Sz)) (V : Sz) : bX8_readText_0 n rec0 V = (ck (rng (V 23 0)) <| if V 23 0 = 0 then (some (true, V)) else (bd (f_X8_readStatement n V) fun ((r_2, V_3) : Bool × Sz) => if r_2 = true then (ck (rng (V_3 23 0)) <| if V_3 23 0 = 3 then (bd (f_X8_advanceToken n V_3) fun (V_5 : Sz) => rec0 V_5) else (bd (f_X8_failsAt V_3 1) fun ((r_6, V_7) : Bool × Sz) => some (r_6, V_7))) else (some (false, V_3)))) := rfl
def f_X8_readText (n : Nat) (V0 : Sz) : Option (Bool × Sz) := lpF (bX8_readText_0 n) n V0
def f_X8_loadRegister (n : Nat) (V0 : Sz) : Option (Int × Sz) := nm (us V0 9 0) fun (V_1 : Sz) => bd (f_X8_copies n 1233 1233 (V_1 0) (V_1 1) 0 0 1233) fun (V_2 : (Nat → Int)) => nm (uy V_1 1 V_2) fun (V_3 : Sz) => bd (f_X8_copies n 60 60 (V_3 7) (V_3 8) 0 0 60) fun (V_4 : (Nat → Int)) => nm (uy V_3 8 V_4) fun (V_5 : Sz) => bd (f_X8_clear n V_5) fun (V_6 : Sz) => nm (us V_6 18 0) fun (V_7 : Sz) => nm (us V_7 19 (-1)) fun (V_8 : Sz) => nm (us V_8 20 0) fun (V_9 : Sz) => nm (us V_9 24 0) fun (V_10 : Sz) => bd (f_X8_advanceToken n V_10) fun (V_11 : Sz) => bd (f_X8_readText n V_11) fun ((r_12, V_13) : Bool × Sz) => nm ((bI r_12)) fun (x_14 : Int) => nm (us V_13 15 0) fun (V_15 : Sz) => nm (us V_15 16 (V_15 18 0)) fun (V_16 : Sz) => nm (us V_16 17 (V_16 19 0)) fun (V_17 : Sz) => ck (rng x_14) <| if x_14 = 0 then (bd (f_X8_copies n 1233 1233 (V_17 1) (V_17 0) 0 0 1233) fun (V_21 : (Nat → Int)) => nm (uy V_17 0 V_21) fun (V_22 : Sz) => bd (f_X8_copies n 60 60 (V_22 8) (V_22 7) 0 0 60) fun (V_23 : (Nat → Int)) => nm (uy V_22 7 V_23) fun (V_24 : Sz) => some ((-1), V_24)) else (nm (us V_17 5 0) fun (V_19 : Sz) => nm (us V_19 6 0) fun (V_20 : Sz) => some (V_20 0 2, V_20))
theorem DX8_isStatement_0 : ∀ q ∈ ([(0, .aload_n 0, 1), (1, .ldc 174, 2), (3, .invokevirtual 176, 3), (6, .ifCond .ne 48, 3), (9, .aload_n 0, 1), (10, .ldc 180, 2), (12, .invokevirtual 176, 3), (15, .ifCond .ne 39, 3), (18, .aload_n 0, 1), (19, .ldc 182, 2), (21, .invokevirtual 176, 3), (24, .ifCond .ne 30, 3), (27, .aload_n 0, 1), (28, .ldc 184, 2), (30, .invokevirtual 176, 3), (33, .ifCond .ne 21, 3), (36, .aload_n 0, 1), (37, .ldc 186, 2), (39, .invokevirtual 176, 3), (42, .ifCond .ne 12, 3), (45, .aload_n 0, 1), (46, .ldc 188, 2), (48, .invokevirtual 176, 3), (51, .ifCond .eq 7, 3), (54, .iconst 1, 1), (55, .goto 4, 3), (58, .iconst 0, 1), (59, .ireturn, 1)] : List (Nat × Instr × Nat)), decode cX8_isStatement q.1 = .ok q.2 := by decide +kernel
theorem dX8_isStatement_0 : decode cX8_isStatement 0 = .ok (.aload_n 0, 1) := DX8_isStatement_0 (0, .aload_n 0, 1) (List.mem_of_getElem? (i := 0) rfl)
theorem dX8_isStatement_1 : decode cX8_isStatement 1 = .ok (.ldc 174, 2) := DX8_isStatement_0 (1, .ldc 174, 2) (List.mem_of_getElem? (i := 1) rfl)
theorem dX8_isStatement_3 : decode cX8_isStatement 3 = .ok (.invokevirtual 176, 3) := DX8_isStatement_0 (3, .invokevirtual 176, 3) (List.mem_of_getElem? (i := 2) rfl)
theorem dX8_isStatement_6 : decode cX8_isStatement 6 = .ok (.ifCond .ne 48, 3) := DX8_isStatement_0 (6, .ifCond .ne 48, 3) (List.mem_of_getElem? (i := 3) rfl)
theorem dX8_isStatement_9 : decode cX8_isStatement 9 = .ok (.aload_n 0, 1) := DX8_isStatement_0 (9, .aload_n 0, 1) (List.mem_of_getElem? (i := 4) rfl)
theorem dX8_isStatement_10 : decode cX8_isStatement 10 = .ok (.ldc 180, 2) := DX8_isStatement_0 (10, .ldc 180, 2) (List.mem_of_getElem? (i := 5) rfl)
theorem dX8_isStatement_12 : decode cX8_isStatement 12 = .ok (.invokevirtual 176, 3) := DX8_isStatement_0 (12, .invokevirtual 176, 3) (List.mem_of_getElem? (i := 6) rfl)
theorem dX8_isStatement_15 : decode cX8_isStatement 15 = .ok (.ifCond .ne 39, 3) := DX8_isStatement_0 (15, .ifCond .ne 39, 3) (List.mem_of_getElem? (i := 7) rfl)
theorem dX8_isStatement_18 : decode cX8_isStatement 18 = .ok (.aload_n 0, 1) := DX8_isStatement_0 (18, .aload_n 0, 1) (List.mem_of_getElem? (i := 8) rfl)
theorem dX8_isStatement_19 : decode cX8_isStatement 19 = .ok (.ldc 182, 2) := DX8_isStatement_0 (19, .ldc 182, 2) (List.mem_of_getElem? (i := 9) rfl)
theorem dX8_isStatement_21 : decode cX8_isStatement 21 = .ok (.invokevirtual 176, 3) := DX8_isStatement_0 (21, .invokevirtual 176, 3) (List.mem_of_getElem? (i := 10) rfl)
theorem dX8_isStatement_24 : decode cX8_isStatement 24 = .ok (.ifCond .ne 30, 3) := DX8_isStatement_0 (24, .ifCond .ne 30, 3) (List.mem_of_getElem? (i := 11) rfl)
theorem dX8_isStatement_27 : decode cX8_isStatement 27 = .ok (.aload_n 0, 1) := DX8_isStatement_0 (27, .aload_n 0, 1) (List.mem_of_getElem? (i := 12) rfl)
theorem dX8_isStatement_28 : decode cX8_isStatement 28 = .ok (.ldc 184, 2) := DX8_isStatement_0 (28, .ldc 184, 2) (List.mem_of_getElem? (i := 13) rfl)
theorem dX8_isStatement_30 : decode cX8_isStatement 30 = .ok (.invokevirtual 176, 3) := DX8_isStatement_0 (30, .invokevirtual 176, 3) (List.mem_of_getElem? (i := 14) rfl)
theorem dX8_isStatement_33 : decode cX8_isStatement 33 = .ok (.ifCond .ne 21, 3) := DX8_isStatement_0 (33, .ifCond .ne 21, 3) (List.mem_of_getElem? (i := 15) rfl)
theorem dX8_isStatement_36 : decode cX8_isStatement 36 = .ok (.aload_n 0, 1) := DX8_isStatement_0 (36, .aload_n 0, 1) (List.mem_of_getElem? (i := 16) rfl)
theorem dX8_isStatement_37 : decode cX8_isStatement 37 = .ok (.ldc 186, 2) := DX8_isStatement_0 (37, .ldc 186, 2) (List.mem_of_getElem? (i := 17) rfl)
theorem dX8_isStatement_39 : decode cX8_isStatement 39 = .ok (.invokevirtual 176, 3) := DX8_isStatement_0 (39, .invokevirtual 176, 3) (List.mem_of_getElem? (i := 18) rfl)
theorem dX8_isStatement_42 : decode cX8_isStatement 42 = .ok (.ifCond .ne 12, 3) := DX8_isStatement_0 (42, .ifCond .ne 12, 3) (List.mem_of_getElem? (i := 19) rfl)
theorem dX8_isStatement_45 : decode cX8_isStatement 45 = .ok (.aload_n 0, 1) := DX8_isStatement_0 (45, .aload_n 0, 1) (List.mem_of_getElem? (i := 20) rfl)
theorem dX8_isStatement_46 : decode cX8_isStatement 46 = .ok (.ldc 188, 2) := DX8_isStatement_0 (46, .ldc 188, 2) (List.mem_of_getElem? (i := 21) rfl)
theorem dX8_isStatement_48 : decode cX8_isStatement 48 = .ok (.invokevirtual 176, 3) := DX8_isStatement_0 (48, .invokevirtual 176, 3) (List.mem_of_getElem? (i := 22) rfl)
theorem dX8_isStatement_51 : decode cX8_isStatement 51 = .ok (.ifCond .eq 7, 3) := DX8_isStatement_0 (51, .ifCond .eq 7, 3) (List.mem_of_getElem? (i := 23) rfl)
theorem dX8_isStatement_54 : decode cX8_isStatement 54 = .ok (.iconst 1, 1) := DX8_isStatement_0 (54, .iconst 1, 1) (List.mem_of_getElem? (i := 24) rfl)
theorem dX8_isStatement_55 : decode cX8_isStatement 55 = .ok (.goto 4, 3) := DX8_isStatement_0 (55, .goto 4, 3) (List.mem_of_getElem? (i := 25) rfl)
theorem dX8_isStatement_58 : decode cX8_isStatement 58 = .ok (.iconst 0, 1) := DX8_isStatement_0 (58, .iconst 0, 1) (List.mem_of_getElem? (i := 26) rfl)
theorem dX8_isStatement_59 : decode cX8_isStatement 59 = .ok (.ireturn, 1) := DX8_isStatement_0 (59, .ireturn, 1) (List.mem_of_getElem? (i := 27) rfl)
abbrev rmX8_isStatement : Room := { frames := 6, cells := 0, slots := 0, locals := 352 }
set_option maxHeartbeats 400000 in
set_option maxRecDepth 100000 in
theorem met_X8_isStatement (l : Launch) (D : va_G) (kA : Nat → ClassId) (a : Nat → Nat) (adK adV : Nat → Nat) (n : Nat) (V : Sz) {r : Bool} (hf : f_X8_isStatement n V = some r) : MPs l yX8_isStatement cX8_isStatement 1 (some .boolean) rmX8_isStatement D kA adK adV [.ref (a 0)] (cs_X8 kA a V) (some (vI (bI r))) := by
  refine zPZs (own := RX8) rfl rfl (Nat.le_of_ble_eq_true rfl) ?_
  intro p e s m args below meth c ls Q hC hK hZ hP hl hret
  have hS : va_S (zF (cs_X8 kA a V)) s.heap s.heap [] := va_S.rf
  have hl : lv_has ls 1 [(0, .ref (a 0))] := hl
  unfold f_X8_isStatement at hf
  refine lv_aload_n hC.1 hC.2.1 dX8_isStatement_0 rfl (lv_at hl 0 rfl) <| va_ldcS hC.1 hC.2.1 hC.2.2.2.1 (hZ.2.2.2 0 (by decide)) dX8_isStatement_1 <| ?_
  obtain ⟨r_1, hu, hf⟩ := bd_some hf
  refine zcVPs (As := [.ref (adK 0)]) (rest := []) hC hK hZ (met_X8_isWord l D kA a adK adV n V 0 (by decide) hu) zwX8_176 hS (fun _ h => h) hP (q0 := 0) rfl rfl rfl rfl hl.1 rfl (Nat.le_of_ble_eq_true rfl) ⟨(Nat.le_of_ble_eq_true rfl), (Nat.le_of_ble_eq_true rfl)⟩ ⟨rfl, rfl⟩ ⟨Nat.le_refl _, Nat.le_refl _⟩ dX8_isStatement_3 <| zifb_ne (tgt := 54) hC.1 hC.2.1 dX8_isStatement_6 (by decide) (fun hc => ?_) (fun hc => ?_)
  · have hf := it_t hf hc
    exact ziconst hC.1 hC.2.1 dX8_isStatement_54 <| lv_goto (tgt := 59) hC.1 hC.2.1 dX8_isStatement_55 (by decide) <| hret (Int32.ofInt (bI true)) _ _ (zb01 _) (qZ hf) dX8_isStatement_59
  · have hf := it_f hf hc
    refine lv_aload_n hC.1 hC.2.1 dX8_isStatement_9 rfl (lv_at hl 0 rfl) <| va_ldcS hC.1 hC.2.1 hC.2.2.2.1 (hZ.2.2.2 1 (by decide)) dX8_isStatement_10 <| ?_
    obtain ⟨r_2, hu, hf⟩ := bd_some hf
    refine zcVPs (As := [.ref (adK 1)]) (rest := []) hC hK hZ (met_X8_isWord l D kA a adK adV n V 1 (by decide) hu) zwX8_176 hS (fun _ h => h) hP (q0 := 0) rfl rfl rfl rfl hl.1 rfl (Nat.le_of_ble_eq_true rfl) ⟨(Nat.le_of_ble_eq_true rfl), (Nat.le_of_ble_eq_true rfl)⟩ ⟨rfl, rfl⟩ ⟨Nat.le_refl _, Nat.le_refl _⟩ dX8_isStatement_12 <| zifb_ne (tgt := 54) hC.1 hC.2.1 dX8_isStatement_15 (by decide) (fun hc => ?_) (fun hc => ?_)
    · have hf := it_t hf hc
      exact ziconst hC.1 hC.2.1 dX8_isStatement_54 <| lv_goto (tgt := 59) hC.1 hC.2.1 dX8_isStatement_55 (by decide) <| hret (Int32.ofInt (bI true)) _ _ (zb01 _) (qZ hf) dX8_isStatement_59
    · have hf := it_f hf hc
      refine lv_aload_n hC.1 hC.2.1 dX8_isStatement_18 rfl (lv_at hl 0 rfl) <| va_ldcS hC.1 hC.2.1 hC.2.2.2.1 (hZ.2.2.2 2 (by decide)) dX8_isStatement_19 <| ?_
      obtain ⟨r_3, hu, hf⟩ := bd_some hf
      refine zcVPs (As := [.ref (adK 2)]) (rest := []) hC hK hZ (met_X8_isWord l D kA a adK adV n V 2 (by decide) hu) zwX8_176 hS (fun _ h => h) hP (q0 := 0) rfl rfl rfl rfl hl.1 rfl (Nat.le_of_ble_eq_true rfl) ⟨(Nat.le_of_ble_eq_true rfl), (Nat.le_of_ble_eq_true rfl)⟩ ⟨rfl, rfl⟩ ⟨Nat.le_refl _, Nat.le_refl _⟩ dX8_isStatement_21 <| zifb_ne (tgt := 54) hC.1 hC.2.1 dX8_isStatement_24 (by decide) (fun hc => ?_) (fun hc => ?_)
      · have hf := it_t hf hc
        exact ziconst hC.1 hC.2.1 dX8_isStatement_54 <| lv_goto (tgt := 59) hC.1 hC.2.1 dX8_isStatement_55 (by decide) <| hret (Int32.ofInt (bI true)) _ _ (zb01 _) (qZ hf) dX8_isStatement_59
      · have hf := it_f hf hc
        refine lv_aload_n hC.1 hC.2.1 dX8_isStatement_27 rfl (lv_at hl 0 rfl) <| va_ldcS hC.1 hC.2.1 hC.2.2.2.1 (hZ.2.2.2 3 (by decide)) dX8_isStatement_28 <| ?_
        obtain ⟨r_4, hu, hf⟩ := bd_some hf
        refine zcVPs (As := [.ref (adK 3)]) (rest := []) hC hK hZ (met_X8_isWord l D kA a adK adV n V 3 (by decide) hu) zwX8_176 hS (fun _ h => h) hP (q0 := 0) rfl rfl rfl rfl hl.1 rfl (Nat.le_of_ble_eq_true rfl) ⟨(Nat.le_of_ble_eq_true rfl), (Nat.le_of_ble_eq_true rfl)⟩ ⟨rfl, rfl⟩ ⟨Nat.le_refl _, Nat.le_refl _⟩ dX8_isStatement_30 <| zifb_ne (tgt := 54) hC.1 hC.2.1 dX8_isStatement_33 (by decide) (fun hc => ?_) (fun hc => ?_)
        · have hf := it_t hf hc
          exact ziconst hC.1 hC.2.1 dX8_isStatement_54 <| lv_goto (tgt := 59) hC.1 hC.2.1 dX8_isStatement_55 (by decide) <| hret (Int32.ofInt (bI true)) _ _ (zb01 _) (qZ hf) dX8_isStatement_59
        · have hf := it_f hf hc
          refine lv_aload_n hC.1 hC.2.1 dX8_isStatement_36 rfl (lv_at hl 0 rfl) <| va_ldcS hC.1 hC.2.1 hC.2.2.2.1 (hZ.2.2.2 4 (by decide)) dX8_isStatement_37 <| ?_
          obtain ⟨r_5, hu, hf⟩ := bd_some hf
          refine zcVPs (As := [.ref (adK 4)]) (rest := []) hC hK hZ (met_X8_isWord l D kA a adK adV n V 4 (by decide) hu) zwX8_176 hS (fun _ h => h) hP (q0 := 0) rfl rfl rfl rfl hl.1 rfl (Nat.le_of_ble_eq_true rfl) ⟨(Nat.le_of_ble_eq_true rfl), (Nat.le_of_ble_eq_true rfl)⟩ ⟨rfl, rfl⟩ ⟨Nat.le_refl _, Nat.le_refl _⟩ dX8_isStatement_39 <| zifb_ne (tgt := 54) hC.1 hC.2.1 dX8_isStatement_42 (by decide) (fun hc => ?_) (fun hc => ?_)
          · have hf := it_t hf hc
            exact ziconst hC.1 hC.2.1 dX8_isStatement_54 <| lv_goto (tgt := 59) hC.1 hC.2.1 dX8_isStatement_55 (by decide) <| hret (Int32.ofInt (bI true)) _ _ (zb01 _) (qZ hf) dX8_isStatement_59
          · have hf := it_f hf hc
            refine lv_aload_n hC.1 hC.2.1 dX8_isStatement_45 rfl (lv_at hl 0 rfl) <| va_ldcS hC.1 hC.2.1 hC.2.2.2.1 (hZ.2.2.2 5 (by decide)) dX8_isStatement_46 <| ?_
            obtain ⟨r_6, hu, hf⟩ := bd_some hf
            refine zcVPs (As := [.ref (adK 5)]) (rest := []) hC hK hZ (met_X8_isWord l D kA a adK adV n V 5 (by decide) hu) zwX8_176 hS (fun _ h => h) hP (q0 := 0) rfl rfl rfl rfl hl.1 rfl (Nat.le_of_ble_eq_true rfl) ⟨(Nat.le_of_ble_eq_true rfl), (Nat.le_of_ble_eq_true rfl)⟩ ⟨rfl, rfl⟩ ⟨Nat.le_refl _, Nat.le_refl _⟩ dX8_isStatement_48 <| zifb_eq (tgt := 58) hC.1 hC.2.1 dX8_isStatement_51 (by decide) (fun hc => ?_) (fun hc => ?_)
            · have hf := it_t hf hc
              exact ziconst hC.1 hC.2.1 dX8_isStatement_58 <| hret (Int32.ofInt (bI false)) _ _ (zb01 _) (qZ hf) dX8_isStatement_59
            · have hf := it_f hf hc
              exact ziconst hC.1 hC.2.1 dX8_isStatement_54 <| lv_goto (tgt := 59) hC.1 hC.2.1 dX8_isStatement_55 (by decide) <| hret (Int32.ofInt (bI true)) _ _ (zb01 _) (qZ hf) dX8_isStatement_59
theorem DX8_isName_0 : ∀ q ∈ ([(0, .aload_n 0, 1), (1, .getfield 146, 3), (4, .iconst 1, 1), (5, .if_icmp .ne 23, 3), (8, .aload_n 0, 1), (9, .invokevirtual 155, 3), (12, .bipush 6, 2), (14, .if_icmp .gt 14, 3), (17, .aload_n 0, 1), (18, .invokevirtual 190, 3), (21, .ifCond .ne 7, 3), (24, .iconst 1, 1), (25, .goto 4, 3), (28, .iconst 0, 1), (29, .ireturn, 1)] : List (Nat × Instr × Nat)), decode cX8_isName q.1 = .ok q.2 := by decide +kernel
theorem dX8_isName_0 : decode cX8_isName 0 = .ok (.aload_n 0, 1) := DX8_isName_0 (0, .aload_n 0, 1) (List.mem_of_getElem? (i := 0) rfl)
theorem dX8_isName_1 : decode cX8_isName 1 = .ok (.getfield 146, 3) := DX8_isName_0 (1, .getfield 146, 3) (List.mem_of_getElem? (i := 1) rfl)
theorem dX8_isName_4 : decode cX8_isName 4 = .ok (.iconst 1, 1) := DX8_isName_0 (4, .iconst 1, 1) (List.mem_of_getElem? (i := 2) rfl)
theorem dX8_isName_5 : decode cX8_isName 5 = .ok (.if_icmp .ne 23, 3) := DX8_isName_0 (5, .if_icmp .ne 23, 3) (List.mem_of_getElem? (i := 3) rfl)
theorem dX8_isName_8 : decode cX8_isName 8 = .ok (.aload_n 0, 1) := DX8_isName_0 (8, .aload_n 0, 1) (List.mem_of_getElem? (i := 4) rfl)
theorem dX8_isName_9 : decode cX8_isName 9 = .ok (.invokevirtual 155, 3) := DX8_isName_0 (9, .invokevirtual 155, 3) (List.mem_of_getElem? (i := 5) rfl)
theorem dX8_isName_12 : decode cX8_isName 12 = .ok (.bipush 6, 2) := DX8_isName_0 (12, .bipush 6, 2) (List.mem_of_getElem? (i := 6) rfl)
theorem dX8_isName_14 : decode cX8_isName 14 = .ok (.if_icmp .gt 14, 3) := DX8_isName_0 (14, .if_icmp .gt 14, 3) (List.mem_of_getElem? (i := 7) rfl)
theorem dX8_isName_17 : decode cX8_isName 17 = .ok (.aload_n 0, 1) := DX8_isName_0 (17, .aload_n 0, 1) (List.mem_of_getElem? (i := 8) rfl)
theorem dX8_isName_18 : decode cX8_isName 18 = .ok (.invokevirtual 190, 3) := DX8_isName_0 (18, .invokevirtual 190, 3) (List.mem_of_getElem? (i := 9) rfl)
theorem dX8_isName_21 : decode cX8_isName 21 = .ok (.ifCond .ne 7, 3) := DX8_isName_0 (21, .ifCond .ne 7, 3) (List.mem_of_getElem? (i := 10) rfl)
theorem dX8_isName_24 : decode cX8_isName 24 = .ok (.iconst 1, 1) := DX8_isName_0 (24, .iconst 1, 1) (List.mem_of_getElem? (i := 11) rfl)
theorem dX8_isName_25 : decode cX8_isName 25 = .ok (.goto 4, 3) := DX8_isName_0 (25, .goto 4, 3) (List.mem_of_getElem? (i := 12) rfl)
theorem dX8_isName_28 : decode cX8_isName 28 = .ok (.iconst 0, 1) := DX8_isName_0 (28, .iconst 0, 1) (List.mem_of_getElem? (i := 13) rfl)
theorem dX8_isName_29 : decode cX8_isName 29 = .ok (.ireturn, 1) := DX8_isName_0 (29, .ireturn, 1) (List.mem_of_getElem? (i := 14) rfl)
abbrev rmX8_isName : Room := { frames := 7, cells := 0, slots := 0, locals := 372 }
set_option maxHeartbeats 400000 in
set_option maxRecDepth 100000 in
theorem met_X8_isName (l : Launch) (D : va_G) (kA : Nat → ClassId) (a : Nat → Nat) (adK adV : Nat → Nat) (n : Nat) (V : Sz) {r : Bool} (hf : f_X8_isName n V = some r) : MPs l yX8_isName cX8_isName 1 (some .boolean) rmX8_isName D kA adK adV [.ref (a 0)] (cs_X8 kA a V) (some (vI (bI r))) := by
  refine zPZs (own := RX8) rfl rfl (Nat.le_of_ble_eq_true rfl) ?_
  intro p e s m args below meth c ls Q hC hK hZ hP hl hret
  have hS : va_S (zF (cs_X8 kA a V)) s.heap s.heap [] := va_S.rf
  have hl : lv_has ls 1 [(0, .ref (a 0))] := hl
  unfold f_X8_isName at hf
  refine lv_aload_n hC.1 hC.2.1 dX8_isName_0 rfl (lv_at hl 0 rfl) <| gfX8_146 hC hK hP (q0 := 0) rfl rfl dX8_isName_1 <| ziconst hC.1 hC.2.1 dX8_isName_4 <| ?_
  obtain ⟨hz_1, hf⟩ := ck_some hf
  refine zicmp_ne (tgt := 28) hC.1 hC.2.1 ⟨hz_1, (by decide)⟩ dX8_isName_5 (by decide) (fun hc => ?_) (fun hc => ?_)
  · have hf := it_f hf hc
    exact ziconst hC.1 hC.2.1 dX8_isName_28 <| hret (Int32.ofInt (bI false)) _ _ (zb01 _) (qZ hf) dX8_isName_29
  · have hf := it_t hf hc
    refine lv_aload_n hC.1 hC.2.1 dX8_isName_8 rfl (lv_at hl 0 rfl) <| ?_
    obtain ⟨r_2, hu, hf⟩ := bd_some hf
    refine zcVP (As := []) (rest := []) hC hK (met_X8_tokenLength l D kA a V hu) zwX8_155 hP (q0 := 0) rfl rfl rfl rfl hl.1 rfl (Nat.le_of_ble_eq_true rfl) ⟨Nat.le_of_ble_eq_true rfl, Nat.le_of_ble_eq_true rfl⟩ ⟨rfl, rfl⟩ ⟨Nat.le_refl _, Nat.le_refl _⟩ dX8_isName_9 <| zbipush hC.1 hC.2.1 dX8_isName_12 (by decide) <| ?_
    obtain ⟨hz_3, hf⟩ := ck_some hf
    refine zicmp_gt (tgt := 28) hC.1 hC.2.1 ⟨hz_3, (by decide)⟩ dX8_isName_14 (by decide) (fun hc => ?_) (fun hc => ?_)
    · have hf := it_t hf hc
      exact ziconst hC.1 hC.2.1 dX8_isName_28 <| hret (Int32.ofInt (bI false)) _ _ (zb01 _) (qZ hf) dX8_isName_29
    · have hf := it_f hf hc
      refine lv_aload_n hC.1 hC.2.1 dX8_isName_17 rfl (lv_at hl 0 rfl) <| ?_
      obtain ⟨r_4, hu, hf⟩ := bd_some hf
      refine zcVPs (As := []) (rest := []) hC hK hZ (met_X8_isStatement l D kA a adK adV n V hu) zwX8_190 hS (fun _ h => h) hP (q0 := 0) rfl rfl rfl rfl hl.1 rfl (Nat.le_of_ble_eq_true rfl) ⟨Nat.le_of_ble_eq_true rfl, Nat.le_of_ble_eq_true rfl⟩ ⟨rfl, rfl⟩ ⟨Nat.le_refl _, Nat.le_refl _⟩ dX8_isName_18 <| zifb_ne (tgt := 28) hC.1 hC.2.1 dX8_isName_21 (by decide) (fun hc => ?_) (fun hc => ?_)
      · have hf := it_t hf hc
        exact ziconst hC.1 hC.2.1 dX8_isName_28 <| hret (Int32.ofInt (bI false)) _ _ (zb01 _) (qZ hf) dX8_isName_29
      · have hf := it_f hf hc
        exact ziconst hC.1 hC.2.1 dX8_isName_24 <| lv_goto (tgt := 29) hC.1 hC.2.1 dX8_isName_25 (by decide) <| hret (Int32.ofInt (bI true)) _ _ (zb01 _) (qZ hf) dX8_isName_29
theorem DX8_readDonor_0 : ∀ q ∈ ([(0, .aload_n 0, 1), (1, .getfield 7, 3), (4, .iconst 0, 1), (5, .iaload, 1), (6, .istore_n 1, 1), (7, .aload_n 0, 1), (8, .iload_n 1, 1), (9, .bipush 10, 2), (11, .if_icmp .ge 7, 3), (14, .iconst 1, 1), (15, .goto 4, 3), (18, .iconst 0, 1), (19, .invokevirtual 197, 3), (22, .ifCond .ne 5, 3), (25, .iconst 0, 1), (26, .ireturn, 1), (27, .aload_n 0, 1), (28, .invokevirtual 201, 3), (31, .ifCond .ne 9, 3), (34, .aload_n 0, 1), (35, .iconst 1, 1), (36, .invokevirtual 168, 3), (39, .ireturn, 1), (40, .aload_n 0, 1), (41, .invokevirtual 204, 3), (44, .iconst (-1), 1), (45, .if_icmp .eq 9, 3), (48, .aload_n 0, 1), (49, .iconst 3, 1), (50, .invokevirtual 168, 3), (53, .ireturn, 1), (54, .iconst 0, 1), (55, .istore_n 2, 1), (56, .iload_n 2, 1), (57, .bipush 6, 2), (59, .if_icmp .ge 25, 3), (62, .aload_n 0, 1), (63, .getfield 25, 3), (66, .bipush 6, 2), (68, .iload_n 1, 1)] : List (Nat × Instr × Nat)), decode cX8_readDonor q.1 = .ok q.2 := by decide +kernel
theorem dX8_readDonor_0 : decode cX8_readDonor 0 = .ok (.aload_n 0, 1) := DX8_readDonor_0 (0, .aload_n 0, 1) (List.mem_of_getElem? (i := 0) rfl)
theorem dX8_readDonor_1 : decode cX8_readDonor 1 = .ok (.getfield 7, 3) := DX8_readDonor_0 (1, .getfield 7, 3) (List.mem_of_getElem? (i := 1) rfl)
theorem dX8_readDonor_4 : decode cX8_readDonor 4 = .ok (.iconst 0, 1) := DX8_readDonor_0 (4, .iconst 0, 1) (List.mem_of_getElem? (i := 2) rfl)
theorem dX8_readDonor_5 : decode cX8_readDonor 5 = .ok (.iaload, 1) := DX8_readDonor_0 (5, .iaload, 1) (List.mem_of_getElem? (i := 3) rfl)
theorem dX8_readDonor_6 : decode cX8_readDonor 6 = .ok (.istore_n 1, 1) := DX8_readDonor_0 (6, .istore_n 1, 1) (List.mem_of_getElem? (i := 4) rfl)
theorem dX8_readDonor_7 : decode cX8_readDonor 7 = .ok (.aload_n 0, 1) := DX8_readDonor_0 (7, .aload_n 0, 1) (List.mem_of_getElem? (i := 5) rfl)
theorem dX8_readDonor_8 : decode cX8_readDonor 8 = .ok (.iload_n 1, 1) := DX8_readDonor_0 (8, .iload_n 1, 1) (List.mem_of_getElem? (i := 6) rfl)
theorem dX8_readDonor_9 : decode cX8_readDonor 9 = .ok (.bipush 10, 2) := DX8_readDonor_0 (9, .bipush 10, 2) (List.mem_of_getElem? (i := 7) rfl)
theorem dX8_readDonor_11 : decode cX8_readDonor 11 = .ok (.if_icmp .ge 7, 3) := DX8_readDonor_0 (11, .if_icmp .ge 7, 3) (List.mem_of_getElem? (i := 8) rfl)
theorem dX8_readDonor_14 : decode cX8_readDonor 14 = .ok (.iconst 1, 1) := DX8_readDonor_0 (14, .iconst 1, 1) (List.mem_of_getElem? (i := 9) rfl)
theorem dX8_readDonor_15 : decode cX8_readDonor 15 = .ok (.goto 4, 3) := DX8_readDonor_0 (15, .goto 4, 3) (List.mem_of_getElem? (i := 10) rfl)
theorem dX8_readDonor_18 : decode cX8_readDonor 18 = .ok (.iconst 0, 1) := DX8_readDonor_0 (18, .iconst 0, 1) (List.mem_of_getElem? (i := 11) rfl)
theorem dX8_readDonor_19 : decode cX8_readDonor 19 = .ok (.invokevirtual 197, 3) := DX8_readDonor_0 (19, .invokevirtual 197, 3) (List.mem_of_getElem? (i := 12) rfl)
theorem dX8_readDonor_22 : decode cX8_readDonor 22 = .ok (.ifCond .ne 5, 3) := DX8_readDonor_0 (22, .ifCond .ne 5, 3) (List.mem_of_getElem? (i := 13) rfl)
theorem dX8_readDonor_25 : decode cX8_readDonor 25 = .ok (.iconst 0, 1) := DX8_readDonor_0 (25, .iconst 0, 1) (List.mem_of_getElem? (i := 14) rfl)
theorem dX8_readDonor_26 : decode cX8_readDonor 26 = .ok (.ireturn, 1) := DX8_readDonor_0 (26, .ireturn, 1) (List.mem_of_getElem? (i := 15) rfl)
theorem dX8_readDonor_27 : decode cX8_readDonor 27 = .ok (.aload_n 0, 1) := DX8_readDonor_0 (27, .aload_n 0, 1) (List.mem_of_getElem? (i := 16) rfl)
theorem dX8_readDonor_28 : decode cX8_readDonor 28 = .ok (.invokevirtual 201, 3) := DX8_readDonor_0 (28, .invokevirtual 201, 3) (List.mem_of_getElem? (i := 17) rfl)
theorem dX8_readDonor_31 : decode cX8_readDonor 31 = .ok (.ifCond .ne 9, 3) := DX8_readDonor_0 (31, .ifCond .ne 9, 3) (List.mem_of_getElem? (i := 18) rfl)
theorem dX8_readDonor_34 : decode cX8_readDonor 34 = .ok (.aload_n 0, 1) := DX8_readDonor_0 (34, .aload_n 0, 1) (List.mem_of_getElem? (i := 19) rfl)
theorem dX8_readDonor_35 : decode cX8_readDonor 35 = .ok (.iconst 1, 1) := DX8_readDonor_0 (35, .iconst 1, 1) (List.mem_of_getElem? (i := 20) rfl)
theorem dX8_readDonor_36 : decode cX8_readDonor 36 = .ok (.invokevirtual 168, 3) := DX8_readDonor_0 (36, .invokevirtual 168, 3) (List.mem_of_getElem? (i := 21) rfl)
theorem dX8_readDonor_39 : decode cX8_readDonor 39 = .ok (.ireturn, 1) := DX8_readDonor_0 (39, .ireturn, 1) (List.mem_of_getElem? (i := 22) rfl)
theorem dX8_readDonor_40 : decode cX8_readDonor 40 = .ok (.aload_n 0, 1) := DX8_readDonor_0 (40, .aload_n 0, 1) (List.mem_of_getElem? (i := 23) rfl)
theorem dX8_readDonor_41 : decode cX8_readDonor 41 = .ok (.invokevirtual 204, 3) := DX8_readDonor_0 (41, .invokevirtual 204, 3) (List.mem_of_getElem? (i := 24) rfl)
theorem dX8_readDonor_44 : decode cX8_readDonor 44 = .ok (.iconst (-1), 1) := DX8_readDonor_0 (44, .iconst (-1), 1) (List.mem_of_getElem? (i := 25) rfl)
theorem dX8_readDonor_45 : decode cX8_readDonor 45 = .ok (.if_icmp .eq 9, 3) := DX8_readDonor_0 (45, .if_icmp .eq 9, 3) (List.mem_of_getElem? (i := 26) rfl)
theorem dX8_readDonor_48 : decode cX8_readDonor 48 = .ok (.aload_n 0, 1) := DX8_readDonor_0 (48, .aload_n 0, 1) (List.mem_of_getElem? (i := 27) rfl)
theorem dX8_readDonor_49 : decode cX8_readDonor 49 = .ok (.iconst 3, 1) := DX8_readDonor_0 (49, .iconst 3, 1) (List.mem_of_getElem? (i := 28) rfl)
theorem dX8_readDonor_50 : decode cX8_readDonor 50 = .ok (.invokevirtual 168, 3) := DX8_readDonor_0 (50, .invokevirtual 168, 3) (List.mem_of_getElem? (i := 29) rfl)
theorem dX8_readDonor_53 : decode cX8_readDonor 53 = .ok (.ireturn, 1) := DX8_readDonor_0 (53, .ireturn, 1) (List.mem_of_getElem? (i := 30) rfl)
theorem dX8_readDonor_54 : decode cX8_readDonor 54 = .ok (.iconst 0, 1) := DX8_readDonor_0 (54, .iconst 0, 1) (List.mem_of_getElem? (i := 31) rfl)
theorem dX8_readDonor_55 : decode cX8_readDonor 55 = .ok (.istore_n 2, 1) := DX8_readDonor_0 (55, .istore_n 2, 1) (List.mem_of_getElem? (i := 32) rfl)
theorem dX8_readDonor_56 : decode cX8_readDonor 56 = .ok (.iload_n 2, 1) := DX8_readDonor_0 (56, .iload_n 2, 1) (List.mem_of_getElem? (i := 33) rfl)
theorem dX8_readDonor_57 : decode cX8_readDonor 57 = .ok (.bipush 6, 2) := DX8_readDonor_0 (57, .bipush 6, 2) (List.mem_of_getElem? (i := 34) rfl)
theorem dX8_readDonor_59 : decode cX8_readDonor 59 = .ok (.if_icmp .ge 25, 3) := DX8_readDonor_0 (59, .if_icmp .ge 25, 3) (List.mem_of_getElem? (i := 35) rfl)
theorem dX8_readDonor_62 : decode cX8_readDonor 62 = .ok (.aload_n 0, 1) := DX8_readDonor_0 (62, .aload_n 0, 1) (List.mem_of_getElem? (i := 36) rfl)
theorem dX8_readDonor_63 : decode cX8_readDonor 63 = .ok (.getfield 25, 3) := DX8_readDonor_0 (63, .getfield 25, 3) (List.mem_of_getElem? (i := 37) rfl)
theorem dX8_readDonor_66 : decode cX8_readDonor 66 = .ok (.bipush 6, 2) := DX8_readDonor_0 (66, .bipush 6, 2) (List.mem_of_getElem? (i := 38) rfl)
theorem dX8_readDonor_68 : decode cX8_readDonor 68 = .ok (.iload_n 1, 1) := DX8_readDonor_0 (68, .iload_n 1, 1) (List.mem_of_getElem? (i := 39) rfl)
theorem DX8_readDonor_1 : ∀ q ∈ ([(69, .imul, 1), (70, .iload_n 2, 1), (71, .iadd, 1), (72, .aload_n 0, 1), (73, .iload_n 2, 1), (74, .invokevirtual 194, 3), (77, .iastore, 1), (78, .iinc 2 1, 3), (81, .goto (-25), 3), (84, .aload_n 0, 1), (85, .invokevirtual 171, 3), (88, .aload_n 0, 1), (89, .bipush 10, 2), (91, .iload_n 1, 1), (92, .iadd, 1), (93, .iconst 0, 1), (94, .ldc 207, 2), (96, .invokevirtual 208, 3), (99, .ifCond .ne 5, 3), (102, .iconst 0, 1), (103, .ireturn, 1), (104, .aload_n 0, 1), (105, .getfield 7, 3), (108, .iconst 0, 1), (109, .dup2, 1), (110, .iaload, 1), (111, .iconst 1, 1), (112, .iadd, 1), (113, .iastore, 1), (114, .iconst 1, 1), (115, .ireturn, 1)] : List (Nat × Instr × Nat)), decode cX8_readDonor q.1 = .ok q.2 := by decide +kernel
theorem dX8_readDonor_69 : decode cX8_readDonor 69 = .ok (.imul, 1) := DX8_readDonor_1 (69, .imul, 1) (List.mem_of_getElem? (i := 0) rfl)
theorem dX8_readDonor_70 : decode cX8_readDonor 70 = .ok (.iload_n 2, 1) := DX8_readDonor_1 (70, .iload_n 2, 1) (List.mem_of_getElem? (i := 1) rfl)
theorem dX8_readDonor_71 : decode cX8_readDonor 71 = .ok (.iadd, 1) := DX8_readDonor_1 (71, .iadd, 1) (List.mem_of_getElem? (i := 2) rfl)
theorem dX8_readDonor_72 : decode cX8_readDonor 72 = .ok (.aload_n 0, 1) := DX8_readDonor_1 (72, .aload_n 0, 1) (List.mem_of_getElem? (i := 3) rfl)
theorem dX8_readDonor_73 : decode cX8_readDonor 73 = .ok (.iload_n 2, 1) := DX8_readDonor_1 (73, .iload_n 2, 1) (List.mem_of_getElem? (i := 4) rfl)
theorem dX8_readDonor_74 : decode cX8_readDonor 74 = .ok (.invokevirtual 194, 3) := DX8_readDonor_1 (74, .invokevirtual 194, 3) (List.mem_of_getElem? (i := 5) rfl)
theorem dX8_readDonor_77 : decode cX8_readDonor 77 = .ok (.iastore, 1) := DX8_readDonor_1 (77, .iastore, 1) (List.mem_of_getElem? (i := 6) rfl)
theorem dX8_readDonor_78 : decode cX8_readDonor 78 = .ok (.iinc 2 1, 3) := DX8_readDonor_1 (78, .iinc 2 1, 3) (List.mem_of_getElem? (i := 7) rfl)
theorem dX8_readDonor_81 : decode cX8_readDonor 81 = .ok (.goto (-25), 3) := DX8_readDonor_1 (81, .goto (-25), 3) (List.mem_of_getElem? (i := 8) rfl)
theorem dX8_readDonor_84 : decode cX8_readDonor 84 = .ok (.aload_n 0, 1) := DX8_readDonor_1 (84, .aload_n 0, 1) (List.mem_of_getElem? (i := 9) rfl)
theorem dX8_readDonor_85 : decode cX8_readDonor 85 = .ok (.invokevirtual 171, 3) := DX8_readDonor_1 (85, .invokevirtual 171, 3) (List.mem_of_getElem? (i := 10) rfl)
theorem dX8_readDonor_88 : decode cX8_readDonor 88 = .ok (.aload_n 0, 1) := DX8_readDonor_1 (88, .aload_n 0, 1) (List.mem_of_getElem? (i := 11) rfl)
theorem dX8_readDonor_89 : decode cX8_readDonor 89 = .ok (.bipush 10, 2) := DX8_readDonor_1 (89, .bipush 10, 2) (List.mem_of_getElem? (i := 12) rfl)
theorem dX8_readDonor_91 : decode cX8_readDonor 91 = .ok (.iload_n 1, 1) := DX8_readDonor_1 (91, .iload_n 1, 1) (List.mem_of_getElem? (i := 13) rfl)
theorem dX8_readDonor_92 : decode cX8_readDonor 92 = .ok (.iadd, 1) := DX8_readDonor_1 (92, .iadd, 1) (List.mem_of_getElem? (i := 14) rfl)
theorem dX8_readDonor_93 : decode cX8_readDonor 93 = .ok (.iconst 0, 1) := DX8_readDonor_1 (93, .iconst 0, 1) (List.mem_of_getElem? (i := 15) rfl)
theorem dX8_readDonor_94 : decode cX8_readDonor 94 = .ok (.ldc 207, 2) := DX8_readDonor_1 (94, .ldc 207, 2) (List.mem_of_getElem? (i := 16) rfl)
theorem dX8_readDonor_96 : decode cX8_readDonor 96 = .ok (.invokevirtual 208, 3) := DX8_readDonor_1 (96, .invokevirtual 208, 3) (List.mem_of_getElem? (i := 17) rfl)
theorem dX8_readDonor_99 : decode cX8_readDonor 99 = .ok (.ifCond .ne 5, 3) := DX8_readDonor_1 (99, .ifCond .ne 5, 3) (List.mem_of_getElem? (i := 18) rfl)
theorem dX8_readDonor_102 : decode cX8_readDonor 102 = .ok (.iconst 0, 1) := DX8_readDonor_1 (102, .iconst 0, 1) (List.mem_of_getElem? (i := 19) rfl)
theorem dX8_readDonor_103 : decode cX8_readDonor 103 = .ok (.ireturn, 1) := DX8_readDonor_1 (103, .ireturn, 1) (List.mem_of_getElem? (i := 20) rfl)
theorem dX8_readDonor_104 : decode cX8_readDonor 104 = .ok (.aload_n 0, 1) := DX8_readDonor_1 (104, .aload_n 0, 1) (List.mem_of_getElem? (i := 21) rfl)
theorem dX8_readDonor_105 : decode cX8_readDonor 105 = .ok (.getfield 7, 3) := DX8_readDonor_1 (105, .getfield 7, 3) (List.mem_of_getElem? (i := 22) rfl)
theorem dX8_readDonor_108 : decode cX8_readDonor 108 = .ok (.iconst 0, 1) := DX8_readDonor_1 (108, .iconst 0, 1) (List.mem_of_getElem? (i := 23) rfl)
theorem dX8_readDonor_109 : decode cX8_readDonor 109 = .ok (.dup2, 1) := DX8_readDonor_1 (109, .dup2, 1) (List.mem_of_getElem? (i := 24) rfl)
theorem dX8_readDonor_110 : decode cX8_readDonor 110 = .ok (.iaload, 1) := DX8_readDonor_1 (110, .iaload, 1) (List.mem_of_getElem? (i := 25) rfl)
theorem dX8_readDonor_111 : decode cX8_readDonor 111 = .ok (.iconst 1, 1) := DX8_readDonor_1 (111, .iconst 1, 1) (List.mem_of_getElem? (i := 26) rfl)
theorem dX8_readDonor_112 : decode cX8_readDonor 112 = .ok (.iadd, 1) := DX8_readDonor_1 (112, .iadd, 1) (List.mem_of_getElem? (i := 27) rfl)
theorem dX8_readDonor_113 : decode cX8_readDonor 113 = .ok (.iastore, 1) := DX8_readDonor_1 (113, .iastore, 1) (List.mem_of_getElem? (i := 28) rfl)
theorem dX8_readDonor_114 : decode cX8_readDonor 114 = .ok (.iconst 1, 1) := DX8_readDonor_1 (114, .iconst 1, 1) (List.mem_of_getElem? (i := 29) rfl)
theorem dX8_readDonor_115 : decode cX8_readDonor 115 = .ok (.ireturn, 1) := DX8_readDonor_1 (115, .ireturn, 1) (List.mem_of_getElem? (i := 30) rfl)
abbrev rmX8_readDonor : Room := { frames := 8, cells := 0, slots := 0, locals := 392 }
set_option maxHeartbeats 400000 in
set_option maxRecDepth 100000 in
theorem met_X8_readDonor (l : Launch) (D : va_G) (kA : Nat → ClassId) (a : Nat → Nat) (adK adV : Nat → Nat) (n : Nat) (V0 : Sz) (hDt : ∀ w : Sz, va_D (fun _ => True) (cs_X8 kA a w)) {r : Bool} {Vr : Sz} (hf : f_X8_readDonor n V0 = some (r, Vr)) : MZs l yX8_readDonor cX8_readDonor 3 (some .boolean) rmX8_readDonor D kA adK adV [.ref (a 0)] (cs_X8 kA a V0) (cs_X8 kA a Vr) (some (vI (bI r))) := by
  refine zZZs (own := RX8) rfl rfl (Nat.le_of_ble_eq_true rfl) ?_
  intro p e s m args below meth c ls Q hC hK hZ hP hl hret
  have hl : lv_has ls 3 [(0, .ref (a 0))] := hl
  have hS : va_S (zF (cs_X8 kA a V0)) s.heap s.heap [] := va_S.rf
  have hD := zDself (C := fun w : Sz => (cs_X8 kA a w)) hDt V0 (fun _ => rfl)
  try dsimp only at hD
  generalize hAe : zF (cs_X8 kA a V0) = A0 at hS hD hret hZ
  unfold f_X8_readDonor at hf
  have L56 : ∀ (k56 : Nat) (y1 : Int) (y2 : Int) (V : Sz) (H : Heap) (locs : List Loc) (ls : Array Slot), lpF (bX8_readDonor_56 n) k56 (y1, y2, V) = some (r, Vr) → va_P D vwCl (cs_X8 kA a V) H → va_S A0 s.heap H locs → lv_has ls 3 [(0, .ref (a 0)), (1, vI y1), (2, vI y2)] → W p l e rmX8_readDonor s m args below meth c H locs 0 0 Q (F0 m 56 ls []) := by
    intro k56
    induction k56 with
    | zero => intro y1 y2 V H locs ls hf hP hS hl; exact lp_0 hf
    | succ k56 ih56 =>
      intro y1 y2 V H locs ls hf hP hS hl
      have hf := lp_s hf
      rw [bX8_readDonor_56_e] at hf
      refine ziload_n hC.1 hC.2.1 dX8_readDonor_56 rfl (lv_at hl 2 rfl) <| zbipush hC.1 hC.2.1 dX8_readDonor_57 (by decide) <| ?_
      obtain ⟨hz_8, hf⟩ := ck_some hf
      refine zicmp_ge (tgt := 84) hC.1 hC.2.1 ⟨hz_8, (by decide)⟩ dX8_readDonor_59 (by decide) (fun hc => ?_) (fun hc => ?_)
      · have hf := it_t hf hc
        refine lv_aload_n hC.1 hC.2.1 dX8_readDonor_84 rfl (lv_at hl 0 rfl) <| ?_
        obtain ⟨V_9, hu, hf⟩ := bd_some hf
        have hDc := hDt
        refine zcVZ (As := []) (rest := []) hC hK (met_X8_advanceToken l D kA a n V hDc hu) zwX8_171 hS (zFsub (hD V) [0, 1, 2, 3, 4, 5, 6, 7, 8, 9, 10, 11, 12, 13, 14, 15, 16] rfl) hP (q0 := 0) rfl rfl rfl rfl hl.1 rfl (Nat.le_of_ble_eq_true rfl) ⟨Nat.le_of_ble_eq_true rfl, Nat.le_of_ble_eq_true rfl⟩ ⟨rfl, rfl⟩ ⟨Nat.le_refl _, Nat.le_refl _⟩ dX8_readDonor_85 (fun H locs hP1 hk1 hS => ?_)
        have hP : va_P D vwCl (cs_X8 kA a V_9) H := hP1
        refine lv_aload_n hC.1 hC.2.1 dX8_readDonor_88 rfl (lv_at hl 0 rfl) <| zbipush hC.1 hC.2.1 dX8_readDonor_89 (by decide) <| ziload_n hC.1 hC.2.1 dX8_readDonor_91 rfl (lv_at hl 1 rfl) <| ziadd hC.1 hC.2.1 dX8_readDonor_92 <| ziconst hC.1 hC.2.1 dX8_readDonor_93 <| zldc (n := 999999) hC qw_1434 (by decide) dX8_readDonor_94 <| ?_
        obtain ⟨⟨r_10, V_11⟩, hu, hf⟩ := bd_some hf
        have hDc := hDt
        refine zcVZ (As := [vI (10 + y1), vI 0, vI 999999]) (rest := []) hC hK (met_X8_takesInto l D kA a n V_9 (10 + y1) 0 999999 hDc hu) zwX8_208 hS (zFsub (hD V_9) [0, 1, 2, 3, 4, 5, 6, 7, 8, 9, 10, 11, 12, 13, 14, 15, 16] rfl) hP (q0 := 0) rfl rfl rfl rfl hl.1 rfl (Nat.le_of_ble_eq_true rfl) ⟨Nat.le_of_ble_eq_true rfl, Nat.le_of_ble_eq_true rfl⟩ ⟨rfl, rfl⟩ ⟨Nat.le_refl _, Nat.le_refl _⟩ dX8_readDonor_96 (fun H locs hP1 hk1 hS => ?_)
        have hP : va_P D vwCl (cs_X8 kA a V_11) H := hP1
        refine zifb_ne (tgt := 104) hC.1 hC.2.1 dX8_readDonor_99 (by decide) (fun hc => ?_) (fun hc => ?_)
        · have hf := it_t hf hc
          refine lv_aload_n hC.1 hC.2.1 dX8_readDonor_104 rfl (lv_at hl 0 rfl) <| gfX8_7 hC hK hP (q0 := 0) rfl rfl dX8_readDonor_105 <| ziconst hC.1 hC.2.1 dX8_readDonor_108 <| lv_dup2_11 hC.1 hC.2.1 dX8_readDonor_109 rfl rfl <| jal hC hK hP (q0 := 1) rfl (Nat.le_of_ble_eq_true rfl) (by decide) rfl dX8_readDonor_110 <| ziconst hC.1 hC.2.1 dX8_readDonor_111 <| ziadd hC.1 hC.2.1 dX8_readDonor_112 <| ?_
          refine jas hC hK hP (hD V_11) hS (q0 := 1) rfl (Nat.le_of_ble_eq_true rfl) (by decide) rfl dX8_readDonor_113 (fun H locs hP hS => ?_)
          obtain ⟨V_12, eV_12⟩ : ∃ y, y = uz V_11 0 0 ((V_11 0 0) + 1) := ⟨_, rfl⟩
          have hf := nm_at hf eV_12
          have hP : va_P D vwCl (cs_X8 kA a V_12) H := by rw [eV_12]; exact hP
          refine ziconst hC.1 hC.2.1 dX8_readDonor_114 <| ?_
          have hf := Option.some.inj hf
          simp only [Prod.mk.injEq] at hf
          exact hret (Int32.ofInt (bI true)) _ _ _ _ (zb01 _) (congrArg (fun z => some (vI (bI z))) hf.1.symm) (by rw [← hf.2]; exact hP) hS dX8_readDonor_115
        · have hf := it_f hf hc
          refine ziconst hC.1 hC.2.1 dX8_readDonor_102 <| ?_
          have hf := Option.some.inj hf
          simp only [Prod.mk.injEq] at hf
          exact hret (Int32.ofInt (bI false)) _ _ _ _ (zb01 _) (congrArg (fun z => some (vI (bI z))) hf.1.symm) (by rw [← hf.2]; exact hP) hS dX8_readDonor_103
      · have hf := it_f hf hc
        refine lv_aload_n hC.1 hC.2.1 dX8_readDonor_62 rfl (lv_at hl 0 rfl) <| gfX8_25 hC hK hP (q0 := 0) rfl rfl dX8_readDonor_63 <| zbipush hC.1 hC.2.1 dX8_readDonor_66 (by decide) <| ziload_n hC.1 hC.2.1 dX8_readDonor_68 rfl (lv_at hl 1 rfl) <| zimul hC.1 hC.2.1 dX8_readDonor_69 <| ziload_n hC.1 hC.2.1 dX8_readDonor_70 rfl (lv_at hl 2 rfl) <| ziadd hC.1 hC.2.1 dX8_readDonor_71 <| lv_aload_n hC.1 hC.2.1 dX8_readDonor_72 rfl (lv_at hl 0 rfl) <| ziload_n hC.1 hC.2.1 dX8_readDonor_73 rfl (lv_at hl 2 rfl) <| ?_
        obtain ⟨r_13, hu, hf⟩ := bd_some hf
        refine zcVP (As := [vI y2]) (rest := [vI ((6 * y1) + y2), .ref (a 6)]) hC hK (met_X8_letterHere l D kA a V y2 hu) zwX8_194 hP (q0 := 0) rfl rfl rfl rfl hl.1 rfl (Nat.le_of_ble_eq_true rfl) ⟨Nat.le_of_ble_eq_true rfl, Nat.le_of_ble_eq_true rfl⟩ ⟨rfl, rfl⟩ ⟨Nat.le_refl _, Nat.le_refl _⟩ dX8_readDonor_74 <| ?_
        obtain ⟨hz_14, hf⟩ := ck_some hf
        refine jas hC hK hP (hD V) hS (q0 := 6) rfl (Nat.le_of_ble_eq_true rfl) hz_14 rfl dX8_readDonor_77 (fun H locs hP hS => ?_)
        obtain ⟨V_15, eV_15⟩ : ∃ y, y = uz V 7 ((6 * y1) + y2).toNat r_13 := ⟨_, rfl⟩
        have hf := nm_at hf eV_15
        have hP : va_P D vwCl (cs_X8 kA a V_15) H := by rw [eV_15]; exact hP
        obtain ⟨x_16, ex_16⟩ : ∃ y : Int, y = y2 + 1 := ⟨_, rfl⟩
        have hf := nm_at hf ex_16
        refine ziinc (v := x_16) (lv' := [(2, vI x_16), (0, .ref (a 0)), (1, vI y1)]) hC.1 hC.2.1 dX8_readDonor_78 hl (k := 2) rfl ex_16 (by decide) rfl (fun ls hl => ?_)
        exact lv_goto (tgt := 56) hC.1 hC.2.1 dX8_readDonor_81 (by decide) <| ih56 _ _ _ _ _ _ hf hP hS (lv_sub hl [1, 2, 0] rfl)
  have J19 : ∀ (y1 : Int) (V : Sz) (z0 : Int) (H : Heap) (locs : List Loc) (ls : Array Slot), jX8_readDonor_19 n y1 V z0 = some (r, Vr) → va_P D vwCl (cs_X8 kA a V) H → va_S A0 s.heap H locs → lv_has ls 3 [(0, .ref (a 0)), (1, vI y1)] → W p l e rmX8_readDonor s m args below meth c H locs 0 0 Q (F0 m 19 ls [vI z0, .ref (a 0)]) := by
    intro y1 V z0 H locs ls hf hP hS hl
    unfold jX8_readDonor_19 at hf
    obtain ⟨⟨r_3, V_4⟩, hu, hf⟩ := bd_some hf
    have hDc := hDt
    refine zcVZ (As := [vI z0]) (rest := []) hC hK (met_X8_starts l D kA a n V z0 hDc hu) zwX8_197 hS (zFsub (hD V) [0, 1, 2, 3, 4, 5, 6, 7, 8, 9, 10, 11, 12, 13, 14, 15, 16] rfl) hP (q0 := 0) rfl rfl rfl rfl hl.1 rfl (Nat.le_of_ble_eq_true rfl) ⟨Nat.le_of_ble_eq_true rfl, Nat.le_of_ble_eq_true rfl⟩ ⟨rfl, rfl⟩ ⟨Nat.le_refl _, Nat.le_refl _⟩ dX8_readDonor_19 (fun H locs hP1 hk1 hS => ?_)
    have hP : va_P D vwCl (cs_X8 kA a V_4) H := hP1
    refine zifb_ne (tgt := 27) hC.1 hC.2.1 dX8_readDonor_22 (by decide) (fun hc => ?_) (fun hc => ?_)
    · have hf := it_t hf hc
      refine lv_aload_n hC.1 hC.2.1 dX8_readDonor_27 rfl (lv_at hl 0 rfl) <| ?_
      obtain ⟨r_5, hu, hf⟩ := bd_some hf
      refine zcVPs (As := []) (rest := []) hC hK hZ (met_X8_isName l D kA a adK adV n V_4 hu) zwX8_201 hS (zFsub (hD V_4) [0, 1, 2, 3, 4, 5, 6, 7, 8, 9, 10, 11, 12, 13, 14, 15, 16] rfl) hP (q0 := 0) rfl rfl rfl rfl hl.1 rfl (Nat.le_of_ble_eq_true rfl) ⟨Nat.le_of_ble_eq_true rfl, Nat.le_of_ble_eq_true rfl⟩ ⟨rfl, rfl⟩ ⟨Nat.le_refl _, Nat.le_refl _⟩ dX8_readDonor_28 <| zifb_ne (tgt := 40) hC.1 hC.2.1 dX8_readDonor_31 (by decide) (fun hc => ?_) (fun hc => ?_)
      · have hf := it_t hf hc
        refine lv_aload_n hC.1 hC.2.1 dX8_readDonor_40 rfl (lv_at hl 0 rfl) <| ?_
        obtain ⟨r_6, hu, hf⟩ := bd_some hf
        refine zcVP (As := []) (rest := []) hC hK (met_X8_find l D kA a n V_4 hu) zwX8_204 hP (q0 := 0) rfl rfl rfl rfl hl.1 rfl (Nat.le_of_ble_eq_true rfl) ⟨Nat.le_of_ble_eq_true rfl, Nat.le_of_ble_eq_true rfl⟩ ⟨rfl, rfl⟩ ⟨Nat.le_refl _, Nat.le_refl _⟩ dX8_readDonor_41 <| ziconst hC.1 hC.2.1 dX8_readDonor_44 <| ?_
        obtain ⟨hz_7, hf⟩ := ck_some hf
        refine zicmp_eq (tgt := 54) hC.1 hC.2.1 ⟨hz_7, (by decide)⟩ dX8_readDonor_45 (by decide) (fun hc => ?_) (fun hc => ?_)
        · have hf := it_t hf hc
          refine ziconst hC.1 hC.2.1 dX8_readDonor_54 <| zistore_n (lv' := [(2, vI 0), (0, .ref (a 0)), (1, vI y1)]) hC.1 hC.2.1 dX8_readDonor_55 rfl hl (by decide) rfl (fun ls hl => ?_)
          exact L56 n _ _ _ _ _ _ hf hP hS (lv_sub hl [1, 2, 0] rfl)
        · have hf := it_f hf hc
          refine lv_aload_n hC.1 hC.2.1 dX8_readDonor_48 rfl (lv_at hl 0 rfl) <| ziconst hC.1 hC.2.1 dX8_readDonor_49 <| ?_
          obtain ⟨⟨r_17, V_18⟩, hu, hf⟩ := bd_some hf
          have hDc := hDt
          refine zcVZ (As := [vI 3]) (rest := []) hC hK (met_X8_failsAt l D kA a V_4 3 hDc hu) zwX8_168 hS (zFsub (hD V_4) [0, 1, 2, 3, 4, 5, 6, 7, 8, 9, 10, 11, 12, 13, 14, 15, 16] rfl) hP (q0 := 0) rfl rfl rfl rfl hl.1 rfl (Nat.le_of_ble_eq_true rfl) ⟨Nat.le_of_ble_eq_true rfl, Nat.le_of_ble_eq_true rfl⟩ ⟨rfl, rfl⟩ ⟨Nat.le_refl _, Nat.le_refl _⟩ dX8_readDonor_50 (fun H locs hP1 hk1 hS => ?_)
          have hP : va_P D vwCl (cs_X8 kA a V_18) H := hP1
          have hf := Option.some.inj hf
          simp only [Prod.mk.injEq] at hf
          exact hret (Int32.ofInt (bI r_17)) _ _ _ _ (zb01 _) (congrArg (fun z => some (vI (bI z))) hf.1.symm) (by rw [← hf.2]; exact hP) hS dX8_readDonor_53
      · have hf := it_f hf hc
        refine lv_aload_n hC.1 hC.2.1 dX8_readDonor_34 rfl (lv_at hl 0 rfl) <| ziconst hC.1 hC.2.1 dX8_readDonor_35 <| ?_
        obtain ⟨⟨r_19, V_20⟩, hu, hf⟩ := bd_some hf
        have hDc := hDt
        refine zcVZ (As := [vI 1]) (rest := []) hC hK (met_X8_failsAt l D kA a V_4 1 hDc hu) zwX8_168 hS (zFsub (hD V_4) [0, 1, 2, 3, 4, 5, 6, 7, 8, 9, 10, 11, 12, 13, 14, 15, 16] rfl) hP (q0 := 0) rfl rfl rfl rfl hl.1 rfl (Nat.le_of_ble_eq_true rfl) ⟨Nat.le_of_ble_eq_true rfl, Nat.le_of_ble_eq_true rfl⟩ ⟨rfl, rfl⟩ ⟨Nat.le_refl _, Nat.le_refl _⟩ dX8_readDonor_36 (fun H locs hP1 hk1 hS => ?_)
        have hP : va_P D vwCl (cs_X8 kA a V_20) H := hP1
        have hf := Option.some.inj hf
        simp only [Prod.mk.injEq] at hf
        exact hret (Int32.ofInt (bI r_19)) _ _ _ _ (zb01 _) (congrArg (fun z => some (vI (bI z))) hf.1.symm) (by rw [← hf.2]; exact hP) hS dX8_readDonor_39
    · have hf := it_f hf hc
      refine ziconst hC.1 hC.2.1 dX8_readDonor_25 <| ?_
      have hf := Option.some.inj hf
      simp only [Prod.mk.injEq] at hf
      exact hret (Int32.ofInt (bI false)) _ _ _ _ (zb01 _) (congrArg (fun z => some (vI (bI z))) hf.1.symm) (by rw [← hf.2]; exact hP) hS dX8_readDonor_26
  refine lv_aload_n hC.1 hC.2.1 dX8_readDonor_0 rfl (lv_at hl 0 rfl) <| gfX8_7 hC hK hP (q0 := 0) rfl rfl dX8_readDonor_1 <| ziconst hC.1 hC.2.1 dX8_readDonor_4 <| jal hC hK hP (q0 := 1) rfl (Nat.le_of_ble_eq_true rfl) (by decide) rfl dX8_readDonor_5 <| ?_
  refine ztopi (fun x_1 ex_1 => ?_)
  have hf := nm_at hf ex_1
  refine zistore_n (lv' := [(1, vI x_1), (0, .ref (a 0))]) hC.1 hC.2.1 dX8_readDonor_6 rfl hl (by decide) rfl (fun ls hl => ?_)
  refine lv_aload_n hC.1 hC.2.1 dX8_readDonor_7 rfl (lv_at hl 1 rfl) <| ziload_n hC.1 hC.2.1 dX8_readDonor_8 rfl (lv_at hl 0 rfl) <| zbipush hC.1 hC.2.1 dX8_readDonor_9 (by decide) <| ?_
  obtain ⟨hz_2, hf⟩ := ck_some hf
  refine zicmp_ge (tgt := 18) hC.1 hC.2.1 ⟨hz_2, (by decide)⟩ dX8_readDonor_11 (by decide) (fun hc => ?_) (fun hc => ?_)
  · have hf := it_t hf hc
    exact ziconst hC.1 hC.2.1 dX8_readDonor_18 <| J19 _ _ _ _ _ _ hf hP hS (lv_sub hl [1, 0] rfl)
  · have hf := it_f hf hc
    exact ziconst hC.1 hC.2.1 dX8_readDonor_14 <| lv_goto (tgt := 19) hC.1 hC.2.1 dX8_readDonor_15 (by decide) <| J19 _ _ _ _ _ _ hf hP hS (lv_sub hl [1, 0] rfl)
theorem DX8_takesDonor_0 : ∀ q ∈ ([(0, .aload_n 0, 1), (1, .invokevirtual 201, 3), (4, .ifCond .ne 9, 3), (7, .aload_n 0, 1), (8, .iconst 1, 1), (9, .invokevirtual 168, 3), (12, .ireturn, 1), (13, .aload_n 0, 1), (14, .invokevirtual 204, 3), (17, .istore_n 2, 1), (18, .iload_n 2, 1), (19, .iconst (-1), 1), (20, .if_icmp .ne 9, 3), (23, .aload_n 0, 1), (24, .iconst 3, 1), (25, .invokevirtual 168, 3), (28, .ireturn, 1), (29, .aload_n 0, 1), (30, .getfield 7, 3), (33, .iload_n 1, 1), (34, .iload_n 2, 1), (35, .iastore, 1), (36, .aload_n 0, 1), (37, .invokevirtual 171, 3), (40, .iconst 1, 1), (41, .ireturn, 1)] : List (Nat × Instr × Nat)), decode cX8_takesDonor q.1 = .ok q.2 := by decide +kernel
theorem dX8_takesDonor_0 : decode cX8_takesDonor 0 = .ok (.aload_n 0, 1) := DX8_takesDonor_0 (0, .aload_n 0, 1) (List.mem_of_getElem? (i := 0) rfl)
theorem dX8_takesDonor_1 : decode cX8_takesDonor 1 = .ok (.invokevirtual 201, 3) := DX8_takesDonor_0 (1, .invokevirtual 201, 3) (List.mem_of_getElem? (i := 1) rfl)
theorem dX8_takesDonor_4 : decode cX8_takesDonor 4 = .ok (.ifCond .ne 9, 3) := DX8_takesDonor_0 (4, .ifCond .ne 9, 3) (List.mem_of_getElem? (i := 2) rfl)
theorem dX8_takesDonor_7 : decode cX8_takesDonor 7 = .ok (.aload_n 0, 1) := DX8_takesDonor_0 (7, .aload_n 0, 1) (List.mem_of_getElem? (i := 3) rfl)
theorem dX8_takesDonor_8 : decode cX8_takesDonor 8 = .ok (.iconst 1, 1) := DX8_takesDonor_0 (8, .iconst 1, 1) (List.mem_of_getElem? (i := 4) rfl)
theorem dX8_takesDonor_9 : decode cX8_takesDonor 9 = .ok (.invokevirtual 168, 3) := DX8_takesDonor_0 (9, .invokevirtual 168, 3) (List.mem_of_getElem? (i := 5) rfl)
theorem dX8_takesDonor_12 : decode cX8_takesDonor 12 = .ok (.ireturn, 1) := DX8_takesDonor_0 (12, .ireturn, 1) (List.mem_of_getElem? (i := 6) rfl)
theorem dX8_takesDonor_13 : decode cX8_takesDonor 13 = .ok (.aload_n 0, 1) := DX8_takesDonor_0 (13, .aload_n 0, 1) (List.mem_of_getElem? (i := 7) rfl)
theorem dX8_takesDonor_14 : decode cX8_takesDonor 14 = .ok (.invokevirtual 204, 3) := DX8_takesDonor_0 (14, .invokevirtual 204, 3) (List.mem_of_getElem? (i := 8) rfl)
theorem dX8_takesDonor_17 : decode cX8_takesDonor 17 = .ok (.istore_n 2, 1) := DX8_takesDonor_0 (17, .istore_n 2, 1) (List.mem_of_getElem? (i := 9) rfl)
theorem dX8_takesDonor_18 : decode cX8_takesDonor 18 = .ok (.iload_n 2, 1) := DX8_takesDonor_0 (18, .iload_n 2, 1) (List.mem_of_getElem? (i := 10) rfl)
theorem dX8_takesDonor_19 : decode cX8_takesDonor 19 = .ok (.iconst (-1), 1) := DX8_takesDonor_0 (19, .iconst (-1), 1) (List.mem_of_getElem? (i := 11) rfl)
theorem dX8_takesDonor_20 : decode cX8_takesDonor 20 = .ok (.if_icmp .ne 9, 3) := DX8_takesDonor_0 (20, .if_icmp .ne 9, 3) (List.mem_of_getElem? (i := 12) rfl)
theorem dX8_takesDonor_23 : decode cX8_takesDonor 23 = .ok (.aload_n 0, 1) := DX8_takesDonor_0 (23, .aload_n 0, 1) (List.mem_of_getElem? (i := 13) rfl)
theorem dX8_takesDonor_24 : decode cX8_takesDonor 24 = .ok (.iconst 3, 1) := DX8_takesDonor_0 (24, .iconst 3, 1) (List.mem_of_getElem? (i := 14) rfl)
theorem dX8_takesDonor_25 : decode cX8_takesDonor 25 = .ok (.invokevirtual 168, 3) := DX8_takesDonor_0 (25, .invokevirtual 168, 3) (List.mem_of_getElem? (i := 15) rfl)
theorem dX8_takesDonor_28 : decode cX8_takesDonor 28 = .ok (.ireturn, 1) := DX8_takesDonor_0 (28, .ireturn, 1) (List.mem_of_getElem? (i := 16) rfl)
theorem dX8_takesDonor_29 : decode cX8_takesDonor 29 = .ok (.aload_n 0, 1) := DX8_takesDonor_0 (29, .aload_n 0, 1) (List.mem_of_getElem? (i := 17) rfl)
theorem dX8_takesDonor_30 : decode cX8_takesDonor 30 = .ok (.getfield 7, 3) := DX8_takesDonor_0 (30, .getfield 7, 3) (List.mem_of_getElem? (i := 18) rfl)
theorem dX8_takesDonor_33 : decode cX8_takesDonor 33 = .ok (.iload_n 1, 1) := DX8_takesDonor_0 (33, .iload_n 1, 1) (List.mem_of_getElem? (i := 19) rfl)
theorem dX8_takesDonor_34 : decode cX8_takesDonor 34 = .ok (.iload_n 2, 1) := DX8_takesDonor_0 (34, .iload_n 2, 1) (List.mem_of_getElem? (i := 20) rfl)
theorem dX8_takesDonor_35 : decode cX8_takesDonor 35 = .ok (.iastore, 1) := DX8_takesDonor_0 (35, .iastore, 1) (List.mem_of_getElem? (i := 21) rfl)
theorem dX8_takesDonor_36 : decode cX8_takesDonor 36 = .ok (.aload_n 0, 1) := DX8_takesDonor_0 (36, .aload_n 0, 1) (List.mem_of_getElem? (i := 22) rfl)
theorem dX8_takesDonor_37 : decode cX8_takesDonor 37 = .ok (.invokevirtual 171, 3) := DX8_takesDonor_0 (37, .invokevirtual 171, 3) (List.mem_of_getElem? (i := 23) rfl)
theorem dX8_takesDonor_40 : decode cX8_takesDonor 40 = .ok (.iconst 1, 1) := DX8_takesDonor_0 (40, .iconst 1, 1) (List.mem_of_getElem? (i := 24) rfl)
theorem dX8_takesDonor_41 : decode cX8_takesDonor 41 = .ok (.ireturn, 1) := DX8_takesDonor_0 (41, .ireturn, 1) (List.mem_of_getElem? (i := 25) rfl)
abbrev rmX8_takesDonor : Room := { frames := 8, cells := 0, slots := 0, locals := 392 }
set_option maxHeartbeats 400000 in
set_option maxRecDepth 100000 in
theorem met_X8_takesDonor (l : Launch) (D : va_G) (kA : Nat → ClassId) (a : Nat → Nat) (adK adV : Nat → Nat) (n : Nat) (V0 : Sz) (x1 : Int) (hDt : ∀ w : Sz, va_D (fun _ => True) (cs_X8 kA a w)) {r : Bool} {Vr : Sz} (hf : f_X8_takesDonor n V0 x1 = some (r, Vr)) : MZs l yX8_takesDonor cX8_takesDonor 3 (some .boolean) rmX8_takesDonor D kA adK adV [.ref (a 0), vI x1] (cs_X8 kA a V0) (cs_X8 kA a Vr) (some (vI (bI r))) := by
  refine zZZs (own := RX8) rfl rfl (Nat.le_of_ble_eq_true rfl) ?_
  intro p e s m args below meth c ls Q hC hK hZ hP hl hret
  have hl : lv_has ls 3 [(0, .ref (a 0)), (1, vI x1)] := hl
  have hS : va_S (zF (cs_X8 kA a V0)) s.heap s.heap [] := va_S.rf
  have hD := zDself (C := fun w : Sz => (cs_X8 kA a w)) hDt V0 (fun _ => rfl)
  try dsimp only at hD
  generalize hAe : zF (cs_X8 kA a V0) = A0 at hS hD hret hZ
  unfold f_X8_takesDonor at hf
  refine lv_aload_n hC.1 hC.2.1 dX8_takesDonor_0 rfl (lv_at hl 0 rfl) <| ?_
  obtain ⟨r_1, hu, hf⟩ := bd_some hf
  refine zcVPs (As := []) (rest := []) hC hK hZ (met_X8_isName l D kA a adK adV n V0 hu) zwX8_201 hS (zFsub (hD V0) [0, 1, 2, 3, 4, 5, 6, 7, 8, 9, 10, 11, 12, 13, 14, 15, 16] rfl) hP (q0 := 0) rfl rfl rfl rfl hl.1 rfl (Nat.le_of_ble_eq_true rfl) ⟨Nat.le_of_ble_eq_true rfl, Nat.le_of_ble_eq_true rfl⟩ ⟨rfl, rfl⟩ ⟨Nat.le_refl _, Nat.le_refl _⟩ dX8_takesDonor_1 <| zifb_ne (tgt := 13) hC.1 hC.2.1 dX8_takesDonor_4 (by decide) (fun hc => ?_) (fun hc => ?_)
  · have hf := it_t hf hc
    refine lv_aload_n hC.1 hC.2.1 dX8_takesDonor_13 rfl (lv_at hl 0 rfl) <| ?_
    obtain ⟨r_2, hu, hf⟩ := bd_some hf
    refine zcVP (As := []) (rest := []) hC hK (met_X8_find l D kA a n V0 hu) zwX8_204 hP (q0 := 0) rfl rfl rfl rfl hl.1 rfl (Nat.le_of_ble_eq_true rfl) ⟨Nat.le_of_ble_eq_true rfl, Nat.le_of_ble_eq_true rfl⟩ ⟨rfl, rfl⟩ ⟨Nat.le_refl _, Nat.le_refl _⟩ dX8_takesDonor_14 <| zistore_n (lv' := [(2, vI r_2), (0, .ref (a 0)), (1, vI x1)]) hC.1 hC.2.1 dX8_takesDonor_17 rfl hl (by decide) rfl (fun ls hl => ?_)
    refine ziload_n hC.1 hC.2.1 dX8_takesDonor_18 rfl (lv_at hl 0 rfl) <| ziconst hC.1 hC.2.1 dX8_takesDonor_19 <| ?_
    obtain ⟨hz_3, hf⟩ := ck_some hf
    refine zicmp_ne (tgt := 29) hC.1 hC.2.1 ⟨hz_3, (by decide)⟩ dX8_takesDonor_20 (by decide) (fun hc => ?_) (fun hc => ?_)
    · have hf := it_f hf hc
      refine lv_aload_n hC.1 hC.2.1 dX8_takesDonor_29 rfl (lv_at hl 1 rfl) <| gfX8_7 hC hK hP (q0 := 0) rfl rfl dX8_takesDonor_30 <| ziload_n hC.1 hC.2.1 dX8_takesDonor_33 rfl (lv_at hl 2 rfl) <| ziload_n hC.1 hC.2.1 dX8_takesDonor_34 rfl (lv_at hl 0 rfl) <| ?_
      obtain ⟨hz_4, hf⟩ := ck_some hf
      refine jas hC hK hP (hD V0) hS (q0 := 1) rfl (Nat.le_of_ble_eq_true rfl) hz_4 rfl dX8_takesDonor_35 (fun H locs hP hS => ?_)
      obtain ⟨V_5, eV_5⟩ : ∃ y, y = uz V0 0 x1.toNat r_2 := ⟨_, rfl⟩
      have hf := nm_at hf eV_5
      have hP : va_P D vwCl (cs_X8 kA a V_5) H := by rw [eV_5]; exact hP
      refine lv_aload_n hC.1 hC.2.1 dX8_takesDonor_36 rfl (lv_at hl 1 rfl) <| ?_
      obtain ⟨V_6, hu, hf⟩ := bd_some hf
      have hDc := hDt
      refine zcVZ (As := []) (rest := []) hC hK (met_X8_advanceToken l D kA a n V_5 hDc hu) zwX8_171 hS (zFsub (hD V_5) [0, 1, 2, 3, 4, 5, 6, 7, 8, 9, 10, 11, 12, 13, 14, 15, 16] rfl) hP (q0 := 0) rfl rfl rfl rfl hl.1 rfl (Nat.le_of_ble_eq_true rfl) ⟨Nat.le_of_ble_eq_true rfl, Nat.le_of_ble_eq_true rfl⟩ ⟨rfl, rfl⟩ ⟨Nat.le_refl _, Nat.le_refl _⟩ dX8_takesDonor_37 (fun H locs hP1 hk1 hS => ?_)
      have hP : va_P D vwCl (cs_X8 kA a V_6) H := hP1
      refine ziconst hC.1 hC.2.1 dX8_takesDonor_40 <| ?_
      have hf := Option.some.inj hf
      simp only [Prod.mk.injEq] at hf
      exact hret (Int32.ofInt (bI true)) _ _ _ _ (zb01 _) (congrArg (fun z => some (vI (bI z))) hf.1.symm) (by rw [← hf.2]; exact hP) hS dX8_takesDonor_41
    · have hf := it_t hf hc
      refine lv_aload_n hC.1 hC.2.1 dX8_takesDonor_23 rfl (lv_at hl 1 rfl) <| ziconst hC.1 hC.2.1 dX8_takesDonor_24 <| ?_
      obtain ⟨⟨r_7, V_8⟩, hu, hf⟩ := bd_some hf
      have hDc := hDt
      refine zcVZ (As := [vI 3]) (rest := []) hC hK (met_X8_failsAt l D kA a V0 3 hDc hu) zwX8_168 hS (zFsub (hD V0) [0, 1, 2, 3, 4, 5, 6, 7, 8, 9, 10, 11, 12, 13, 14, 15, 16] rfl) hP (q0 := 0) rfl rfl rfl rfl hl.1 rfl (Nat.le_of_ble_eq_true rfl) ⟨Nat.le_of_ble_eq_true rfl, Nat.le_of_ble_eq_true rfl⟩ ⟨rfl, rfl⟩ ⟨Nat.le_refl _, Nat.le_refl _⟩ dX8_takesDonor_25 (fun H locs hP1 hk1 hS => ?_)
      have hP : va_P D vwCl (cs_X8 kA a V_8) H := hP1
      have hf := Option.some.inj hf
      simp only [Prod.mk.injEq] at hf
      exact hret (Int32.ofInt (bI r_7)) _ _ _ _ (zb01 _) (congrArg (fun z => some (vI (bI z))) hf.1.symm) (by rw [← hf.2]; exact hP) hS dX8_takesDonor_28
  · have hf := it_f hf hc
    refine lv_aload_n hC.1 hC.2.1 dX8_takesDonor_7 rfl (lv_at hl 0 rfl) <| ziconst hC.1 hC.2.1 dX8_takesDonor_8 <| ?_
    obtain ⟨⟨r_9, V_10⟩, hu, hf⟩ := bd_some hf
    have hDc := hDt
    refine zcVZ (As := [vI 1]) (rest := []) hC hK (met_X8_failsAt l D kA a V0 1 hDc hu) zwX8_168 hS (zFsub (hD V0) [0, 1, 2, 3, 4, 5, 6, 7, 8, 9, 10, 11, 12, 13, 14, 15, 16] rfl) hP (q0 := 0) rfl rfl rfl rfl hl.1 rfl (Nat.le_of_ble_eq_true rfl) ⟨Nat.le_of_ble_eq_true rfl, Nat.le_of_ble_eq_true rfl⟩ ⟨rfl, rfl⟩ ⟨Nat.le_refl _, Nat.le_refl _⟩ dX8_takesDonor_9 (fun H locs hP1 hk1 hS => ?_)
    have hP : va_P D vwCl (cs_X8 kA a V_10) H := hP1
    have hf := Option.some.inj hf
    simp only [Prod.mk.injEq] at hf
    exact hret (Int32.ofInt (bI r_9)) _ _ _ _ (zb01 _) (congrArg (fun z => some (vI (bI z))) hf.1.symm) (by rw [← hf.2]; exact hP) hS dX8_takesDonor_12
theorem DX8_readDeclare_0 : ∀ q ∈ ([(0, .aload_n 0, 1), (1, .getfield 7, 3), (4, .iconst 1, 1), (5, .iaload, 1), (6, .istore_n 1, 1), (7, .aload_n 0, 1), (8, .iload_n 1, 1), (9, .bipush 30, 2), (11, .if_icmp .ge 7, 3), (14, .iconst 1, 1), (15, .goto 4, 3), (18, .iconst 0, 1), (19, .invokevirtual 197, 3), (22, .ifCond .eq 52, 3), (25, .aload_n 0, 1), (26, .bipush 20, 2), (28, .iload_n 1, 1), (29, .iadd, 1), (30, .invokevirtual 211, 3), (33, .ifCond .eq 41, 3), (36, .aload_n 0, 1), (37, .bipush 51, 2), (39, .iload_n 1, 1), (40, .iadd, 1), (41, .iconst 0, 1), (42, .sipush 9999, 3), (45, .invokevirtual 208, 3), (48, .ifCond .eq 26, 3), (51, .aload_n 0, 1), (52, .bipush 82, 2), (54, .iload_n 1, 1), (55, .iadd, 1), (56, .aload_n 0, 1), (57, .getfield 7, 3), (60, .bipush 51, 2), (62, .iload_n 1, 1), (63, .iadd, 1), (64, .iaload, 1), (65, .sipush 9999, 3), (68, .invokevirtual 208, 3)] : List (Nat × Instr × Nat)), decode cX8_readDeclare q.1 = .ok q.2 := by decide +kernel
theorem dX8_readDeclare_0 : decode cX8_readDeclare 0 = .ok (.aload_n 0, 1) := DX8_readDeclare_0 (0, .aload_n 0, 1) (List.mem_of_getElem? (i := 0) rfl)
theorem dX8_readDeclare_1 : decode cX8_readDeclare 1 = .ok (.getfield 7, 3) := DX8_readDeclare_0 (1, .getfield 7, 3) (List.mem_of_getElem? (i := 1) rfl)
theorem dX8_readDeclare_4 : decode cX8_readDeclare 4 = .ok (.iconst 1, 1) := DX8_readDeclare_0 (4, .iconst 1, 1) (List.mem_of_getElem? (i := 2) rfl)
theorem dX8_readDeclare_5 : decode cX8_readDeclare 5 = .ok (.iaload, 1) := DX8_readDeclare_0 (5, .iaload, 1) (List.mem_of_getElem? (i := 3) rfl)
theorem dX8_readDeclare_6 : decode cX8_readDeclare 6 = .ok (.istore_n 1, 1) := DX8_readDeclare_0 (6, .istore_n 1, 1) (List.mem_of_getElem? (i := 4) rfl)
theorem dX8_readDeclare_7 : decode cX8_readDeclare 7 = .ok (.aload_n 0, 1) := DX8_readDeclare_0 (7, .aload_n 0, 1) (List.mem_of_getElem? (i := 5) rfl)
theorem dX8_readDeclare_8 : decode cX8_readDeclare 8 = .ok (.iload_n 1, 1) := DX8_readDeclare_0 (8, .iload_n 1, 1) (List.mem_of_getElem? (i := 6) rfl)
theorem dX8_readDeclare_9 : decode cX8_readDeclare 9 = .ok (.bipush 30, 2) := DX8_readDeclare_0 (9, .bipush 30, 2) (List.mem_of_getElem? (i := 7) rfl)
theorem dX8_readDeclare_11 : decode cX8_readDeclare 11 = .ok (.if_icmp .ge 7, 3) := DX8_readDeclare_0 (11, .if_icmp .ge 7, 3) (List.mem_of_getElem? (i := 8) rfl)
theorem dX8_readDeclare_14 : decode cX8_readDeclare 14 = .ok (.iconst 1, 1) := DX8_readDeclare_0 (14, .iconst 1, 1) (List.mem_of_getElem? (i := 9) rfl)
theorem dX8_readDeclare_15 : decode cX8_readDeclare 15 = .ok (.goto 4, 3) := DX8_readDeclare_0 (15, .goto 4, 3) (List.mem_of_getElem? (i := 10) rfl)
theorem dX8_readDeclare_18 : decode cX8_readDeclare 18 = .ok (.iconst 0, 1) := DX8_readDeclare_0 (18, .iconst 0, 1) (List.mem_of_getElem? (i := 11) rfl)
theorem dX8_readDeclare_19 : decode cX8_readDeclare 19 = .ok (.invokevirtual 197, 3) := DX8_readDeclare_0 (19, .invokevirtual 197, 3) (List.mem_of_getElem? (i := 12) rfl)
theorem dX8_readDeclare_22 : decode cX8_readDeclare 22 = .ok (.ifCond .eq 52, 3) := DX8_readDeclare_0 (22, .ifCond .eq 52, 3) (List.mem_of_getElem? (i := 13) rfl)
theorem dX8_readDeclare_25 : decode cX8_readDeclare 25 = .ok (.aload_n 0, 1) := DX8_readDeclare_0 (25, .aload_n 0, 1) (List.mem_of_getElem? (i := 14) rfl)
theorem dX8_readDeclare_26 : decode cX8_readDeclare 26 = .ok (.bipush 20, 2) := DX8_readDeclare_0 (26, .bipush 20, 2) (List.mem_of_getElem? (i := 15) rfl)
theorem dX8_readDeclare_28 : decode cX8_readDeclare 28 = .ok (.iload_n 1, 1) := DX8_readDeclare_0 (28, .iload_n 1, 1) (List.mem_of_getElem? (i := 16) rfl)
theorem dX8_readDeclare_29 : decode cX8_readDeclare 29 = .ok (.iadd, 1) := DX8_readDeclare_0 (29, .iadd, 1) (List.mem_of_getElem? (i := 17) rfl)
theorem dX8_readDeclare_30 : decode cX8_readDeclare 30 = .ok (.invokevirtual 211, 3) := DX8_readDeclare_0 (30, .invokevirtual 211, 3) (List.mem_of_getElem? (i := 18) rfl)
theorem dX8_readDeclare_33 : decode cX8_readDeclare 33 = .ok (.ifCond .eq 41, 3) := DX8_readDeclare_0 (33, .ifCond .eq 41, 3) (List.mem_of_getElem? (i := 19) rfl)
theorem dX8_readDeclare_36 : decode cX8_readDeclare 36 = .ok (.aload_n 0, 1) := DX8_readDeclare_0 (36, .aload_n 0, 1) (List.mem_of_getElem? (i := 20) rfl)
theorem dX8_readDeclare_37 : decode cX8_readDeclare 37 = .ok (.bipush 51, 2) := DX8_readDeclare_0 (37, .bipush 51, 2) (List.mem_of_getElem? (i := 21) rfl)
theorem dX8_readDeclare_39 : decode cX8_readDeclare 39 = .ok (.iload_n 1, 1) := DX8_readDeclare_0 (39, .iload_n 1, 1) (List.mem_of_getElem? (i := 22) rfl)
theorem dX8_readDeclare_40 : decode cX8_readDeclare 40 = .ok (.iadd, 1) := DX8_readDeclare_0 (40, .iadd, 1) (List.mem_of_getElem? (i := 23) rfl)
theorem dX8_readDeclare_41 : decode cX8_readDeclare 41 = .ok (.iconst 0, 1) := DX8_readDeclare_0 (41, .iconst 0, 1) (List.mem_of_getElem? (i := 24) rfl)
theorem dX8_readDeclare_42 : decode cX8_readDeclare 42 = .ok (.sipush 9999, 3) := DX8_readDeclare_0 (42, .sipush 9999, 3) (List.mem_of_getElem? (i := 25) rfl)
theorem dX8_readDeclare_45 : decode cX8_readDeclare 45 = .ok (.invokevirtual 208, 3) := DX8_readDeclare_0 (45, .invokevirtual 208, 3) (List.mem_of_getElem? (i := 26) rfl)
theorem dX8_readDeclare_48 : decode cX8_readDeclare 48 = .ok (.ifCond .eq 26, 3) := DX8_readDeclare_0 (48, .ifCond .eq 26, 3) (List.mem_of_getElem? (i := 27) rfl)
theorem dX8_readDeclare_51 : decode cX8_readDeclare 51 = .ok (.aload_n 0, 1) := DX8_readDeclare_0 (51, .aload_n 0, 1) (List.mem_of_getElem? (i := 28) rfl)
theorem dX8_readDeclare_52 : decode cX8_readDeclare 52 = .ok (.bipush 82, 2) := DX8_readDeclare_0 (52, .bipush 82, 2) (List.mem_of_getElem? (i := 29) rfl)
theorem dX8_readDeclare_54 : decode cX8_readDeclare 54 = .ok (.iload_n 1, 1) := DX8_readDeclare_0 (54, .iload_n 1, 1) (List.mem_of_getElem? (i := 30) rfl)
theorem dX8_readDeclare_55 : decode cX8_readDeclare 55 = .ok (.iadd, 1) := DX8_readDeclare_0 (55, .iadd, 1) (List.mem_of_getElem? (i := 31) rfl)
theorem dX8_readDeclare_56 : decode cX8_readDeclare 56 = .ok (.aload_n 0, 1) := DX8_readDeclare_0 (56, .aload_n 0, 1) (List.mem_of_getElem? (i := 32) rfl)
theorem dX8_readDeclare_57 : decode cX8_readDeclare 57 = .ok (.getfield 7, 3) := DX8_readDeclare_0 (57, .getfield 7, 3) (List.mem_of_getElem? (i := 33) rfl)
theorem dX8_readDeclare_60 : decode cX8_readDeclare 60 = .ok (.bipush 51, 2) := DX8_readDeclare_0 (60, .bipush 51, 2) (List.mem_of_getElem? (i := 34) rfl)
theorem dX8_readDeclare_62 : decode cX8_readDeclare 62 = .ok (.iload_n 1, 1) := DX8_readDeclare_0 (62, .iload_n 1, 1) (List.mem_of_getElem? (i := 35) rfl)
theorem dX8_readDeclare_63 : decode cX8_readDeclare 63 = .ok (.iadd, 1) := DX8_readDeclare_0 (63, .iadd, 1) (List.mem_of_getElem? (i := 36) rfl)
theorem dX8_readDeclare_64 : decode cX8_readDeclare 64 = .ok (.iaload, 1) := DX8_readDeclare_0 (64, .iaload, 1) (List.mem_of_getElem? (i := 37) rfl)
theorem dX8_readDeclare_65 : decode cX8_readDeclare 65 = .ok (.sipush 9999, 3) := DX8_readDeclare_0 (65, .sipush 9999, 3) (List.mem_of_getElem? (i := 38) rfl)
theorem dX8_readDeclare_68 : decode cX8_readDeclare 68 = .ok (.invokevirtual 208, 3) := DX8_readDeclare_0 (68, .invokevirtual 208, 3) (List.mem_of_getElem? (i := 39) rfl)
theorem DX8_readDeclare_1 : ∀ q ∈ ([(71, .ifCond .ne 5, 3), (74, .iconst 0, 1), (75, .ireturn, 1), (76, .aload_n 0, 1), (77, .getfield 7, 3), (80, .iconst 1, 1), (81, .dup2, 1), (82, .iaload, 1), (83, .iconst 1, 1), (84, .iadd, 1), (85, .iastore, 1), (86, .iconst 1, 1), (87, .ireturn, 1)] : List (Nat × Instr × Nat)), decode cX8_readDeclare q.1 = .ok q.2 := by decide +kernel
theorem dX8_readDeclare_71 : decode cX8_readDeclare 71 = .ok (.ifCond .ne 5, 3) := DX8_readDeclare_1 (71, .ifCond .ne 5, 3) (List.mem_of_getElem? (i := 0) rfl)
theorem dX8_readDeclare_74 : decode cX8_readDeclare 74 = .ok (.iconst 0, 1) := DX8_readDeclare_1 (74, .iconst 0, 1) (List.mem_of_getElem? (i := 1) rfl)
theorem dX8_readDeclare_75 : decode cX8_readDeclare 75 = .ok (.ireturn, 1) := DX8_readDeclare_1 (75, .ireturn, 1) (List.mem_of_getElem? (i := 2) rfl)
theorem dX8_readDeclare_76 : decode cX8_readDeclare 76 = .ok (.aload_n 0, 1) := DX8_readDeclare_1 (76, .aload_n 0, 1) (List.mem_of_getElem? (i := 3) rfl)
theorem dX8_readDeclare_77 : decode cX8_readDeclare 77 = .ok (.getfield 7, 3) := DX8_readDeclare_1 (77, .getfield 7, 3) (List.mem_of_getElem? (i := 4) rfl)
theorem dX8_readDeclare_80 : decode cX8_readDeclare 80 = .ok (.iconst 1, 1) := DX8_readDeclare_1 (80, .iconst 1, 1) (List.mem_of_getElem? (i := 5) rfl)
theorem dX8_readDeclare_81 : decode cX8_readDeclare 81 = .ok (.dup2, 1) := DX8_readDeclare_1 (81, .dup2, 1) (List.mem_of_getElem? (i := 6) rfl)
theorem dX8_readDeclare_82 : decode cX8_readDeclare 82 = .ok (.iaload, 1) := DX8_readDeclare_1 (82, .iaload, 1) (List.mem_of_getElem? (i := 7) rfl)
theorem dX8_readDeclare_83 : decode cX8_readDeclare 83 = .ok (.iconst 1, 1) := DX8_readDeclare_1 (83, .iconst 1, 1) (List.mem_of_getElem? (i := 8) rfl)
theorem dX8_readDeclare_84 : decode cX8_readDeclare 84 = .ok (.iadd, 1) := DX8_readDeclare_1 (84, .iadd, 1) (List.mem_of_getElem? (i := 9) rfl)
theorem dX8_readDeclare_85 : decode cX8_readDeclare 85 = .ok (.iastore, 1) := DX8_readDeclare_1 (85, .iastore, 1) (List.mem_of_getElem? (i := 10) rfl)
theorem dX8_readDeclare_86 : decode cX8_readDeclare 86 = .ok (.iconst 1, 1) := DX8_readDeclare_1 (86, .iconst 1, 1) (List.mem_of_getElem? (i := 11) rfl)
theorem dX8_readDeclare_87 : decode cX8_readDeclare 87 = .ok (.ireturn, 1) := DX8_readDeclare_1 (87, .ireturn, 1) (List.mem_of_getElem? (i := 12) rfl)
abbrev rmX8_readDeclare : Room := { frames := 9, cells := 0, slots := 0, locals := 414 }
set_option maxHeartbeats 400000 in
set_option maxRecDepth 100000 in
theorem met_X8_readDeclare (l : Launch) (D : va_G) (kA : Nat → ClassId) (a : Nat → Nat) (adK adV : Nat → Nat) (n : Nat) (V0 : Sz) (hDt : ∀ w : Sz, va_D (fun _ => True) (cs_X8 kA a w)) {r : Bool} {Vr : Sz} (hf : f_X8_readDeclare n V0 = some (r, Vr)) : MZs l yX8_readDeclare cX8_readDeclare 2 (some .boolean) rmX8_readDeclare D kA adK adV [.ref (a 0)] (cs_X8 kA a V0) (cs_X8 kA a Vr) (some (vI (bI r))) := by
  refine zZZs (own := RX8) rfl rfl (Nat.le_of_ble_eq_true rfl) ?_
  intro p e s m args below meth c ls Q hC hK hZ hP hl hret
  have hl : lv_has ls 2 [(0, .ref (a 0))] := hl
  have hS : va_S (zF (cs_X8 kA a V0)) s.heap s.heap [] := va_S.rf
  have hD := zDself (C := fun w : Sz => (cs_X8 kA a w)) hDt V0 (fun _ => rfl)
  try dsimp only at hD
  generalize hAe : zF (cs_X8 kA a V0) = A0 at hS hD hret hZ
  unfold f_X8_readDeclare at hf
  have J19 : ∀ (y1 : Int) (V : Sz) (z0 : Int) (H : Heap) (locs : List Loc) (ls : Array Slot), jX8_readDeclare_19 n y1 V z0 = some (r, Vr) → va_P D vwCl (cs_X8 kA a V) H → va_S A0 s.heap H locs → lv_has ls 2 [(0, .ref (a 0)), (1, vI y1)] → W p l e rmX8_readDeclare s m args below meth c H locs 0 0 Q (F0 m 19 ls [vI z0, .ref (a 0)]) := by
    intro y1 V z0 H locs ls hf hP hS hl
    unfold jX8_readDeclare_19 at hf
    obtain ⟨⟨r_3, V_4⟩, hu, hf⟩ := bd_some hf
    have hDc := hDt
    refine zcVZ (As := [vI z0]) (rest := []) hC hK (met_X8_starts l D kA a n V z0 hDc hu) zwX8_197 hS (zFsub (hD V) [0, 1, 2, 3, 4, 5, 6, 7, 8, 9, 10, 11, 12, 13, 14, 15, 16] rfl) hP (q0 := 0) rfl rfl rfl rfl hl.1 rfl (Nat.le_of_ble_eq_true rfl) ⟨Nat.le_of_ble_eq_true rfl, Nat.le_of_ble_eq_true rfl⟩ ⟨rfl, rfl⟩ ⟨Nat.le_refl _, Nat.le_refl _⟩ dX8_readDeclare_19 (fun H locs hP1 hk1 hS => ?_)
    have hP : va_P D vwCl (cs_X8 kA a V_4) H := hP1
    refine zifb_eq (tgt := 74) hC.1 hC.2.1 dX8_readDeclare_22 (by decide) (fun hc => ?_) (fun hc => ?_)
    · have hf := it_t hf hc
      refine ziconst hC.1 hC.2.1 dX8_readDeclare_74 <| ?_
      have hf := Option.some.inj hf
      simp only [Prod.mk.injEq] at hf
      exact hret (Int32.ofInt (bI false)) _ _ _ _ (zb01 _) (congrArg (fun z => some (vI (bI z))) hf.1.symm) (by rw [← hf.2]; exact hP) hS dX8_readDeclare_75
    · have hf := it_f hf hc
      refine lv_aload_n hC.1 hC.2.1 dX8_readDeclare_25 rfl (lv_at hl 0 rfl) <| zbipush hC.1 hC.2.1 dX8_readDeclare_26 (by decide) <| ziload_n hC.1 hC.2.1 dX8_readDeclare_28 rfl (lv_at hl 1 rfl) <| ziadd hC.1 hC.2.1 dX8_readDeclare_29 <| ?_
      obtain ⟨⟨r_5, V_6⟩, hu, hf⟩ := bd_some hf
      have hDc := hDt
      refine zcVZs (As := [vI (20 + y1)]) (rest := []) hC hK hZ (met_X8_takesDonor l D kA a adK adV n V_4 (20 + y1) hDc hu) zwX8_211 hS (zFsub (hD V_4) [0, 1, 2, 3, 4, 5, 6, 7, 8, 9, 10, 11, 12, 13, 14, 15, 16] rfl) hP (q0 := 0) rfl rfl rfl rfl hl.1 rfl (Nat.le_of_ble_eq_true rfl) ⟨Nat.le_of_ble_eq_true rfl, Nat.le_of_ble_eq_true rfl⟩ ⟨rfl, rfl⟩ ⟨Nat.le_refl _, Nat.le_refl _⟩ dX8_readDeclare_30 (fun H locs hP1 hk1 hS => ?_)
      have hP : va_P D vwCl (cs_X8 kA a V_6) H := hP1
      refine zifb_eq (tgt := 74) hC.1 hC.2.1 dX8_readDeclare_33 (by decide) (fun hc => ?_) (fun hc => ?_)
      · have hf := it_t hf hc
        refine ziconst hC.1 hC.2.1 dX8_readDeclare_74 <| ?_
        have hf := Option.some.inj hf
        simp only [Prod.mk.injEq] at hf
        exact hret (Int32.ofInt (bI false)) _ _ _ _ (zb01 _) (congrArg (fun z => some (vI (bI z))) hf.1.symm) (by rw [← hf.2]; exact hP) hS dX8_readDeclare_75
      · have hf := it_f hf hc
        refine lv_aload_n hC.1 hC.2.1 dX8_readDeclare_36 rfl (lv_at hl 0 rfl) <| zbipush hC.1 hC.2.1 dX8_readDeclare_37 (by decide) <| ziload_n hC.1 hC.2.1 dX8_readDeclare_39 rfl (lv_at hl 1 rfl) <| ziadd hC.1 hC.2.1 dX8_readDeclare_40 <| ziconst hC.1 hC.2.1 dX8_readDeclare_41 <| zsipush hC.1 hC.2.1 dX8_readDeclare_42 (by decide) <| ?_
        obtain ⟨⟨r_7, V_8⟩, hu, hf⟩ := bd_some hf
        have hDc := hDt
        refine zcVZ (As := [vI (51 + y1), vI 0, vI 9999]) (rest := []) hC hK (met_X8_takesInto l D kA a n V_6 (51 + y1) 0 9999 hDc hu) zwX8_208 hS (zFsub (hD V_6) [0, 1, 2, 3, 4, 5, 6, 7, 8, 9, 10, 11, 12, 13, 14, 15, 16] rfl) hP (q0 := 0) rfl rfl rfl rfl hl.1 rfl (Nat.le_of_ble_eq_true rfl) ⟨Nat.le_of_ble_eq_true rfl, Nat.le_of_ble_eq_true rfl⟩ ⟨rfl, rfl⟩ ⟨Nat.le_refl _, Nat.le_refl _⟩ dX8_readDeclare_45 (fun H locs hP1 hk1 hS => ?_)
        have hP : va_P D vwCl (cs_X8 kA a V_8) H := hP1
        refine zifb_eq (tgt := 74) hC.1 hC.2.1 dX8_readDeclare_48 (by decide) (fun hc => ?_) (fun hc => ?_)
        · have hf := it_t hf hc
          refine ziconst hC.1 hC.2.1 dX8_readDeclare_74 <| ?_
          have hf := Option.some.inj hf
          simp only [Prod.mk.injEq] at hf
          exact hret (Int32.ofInt (bI false)) _ _ _ _ (zb01 _) (congrArg (fun z => some (vI (bI z))) hf.1.symm) (by rw [← hf.2]; exact hP) hS dX8_readDeclare_75
        · have hf := it_f hf hc
          refine lv_aload_n hC.1 hC.2.1 dX8_readDeclare_51 rfl (lv_at hl 0 rfl) <| zbipush hC.1 hC.2.1 dX8_readDeclare_52 (by decide) <| ziload_n hC.1 hC.2.1 dX8_readDeclare_54 rfl (lv_at hl 1 rfl) <| ziadd hC.1 hC.2.1 dX8_readDeclare_55 <| lv_aload_n hC.1 hC.2.1 dX8_readDeclare_56 rfl (lv_at hl 0 rfl) <| gfX8_7 hC hK hP (q0 := 0) rfl rfl dX8_readDeclare_57 <| zbipush hC.1 hC.2.1 dX8_readDeclare_60 (by decide) <| ziload_n hC.1 hC.2.1 dX8_readDeclare_62 rfl (lv_at hl 1 rfl) <| ziadd hC.1 hC.2.1 dX8_readDeclare_63 <| ?_
          obtain ⟨hz_9, hf⟩ := ck_some hf
          refine jal hC hK hP (q0 := 1) rfl (Nat.le_of_ble_eq_true rfl) hz_9 rfl dX8_readDeclare_64 <| zsipush hC.1 hC.2.1 dX8_readDeclare_65 (by decide) <| ?_
          obtain ⟨⟨r_10, V_11⟩, hu, hf⟩ := bd_some hf
          have hDc := hDt
          refine zcVZ (As := [vI (82 + y1), vI (V_8 0 (51 + y1).toNat), vI 9999]) (rest := []) hC hK (met_X8_takesInto l D kA a n V_8 (82 + y1) (V_8 0 (51 + y1).toNat) 9999 hDc hu) zwX8_208 hS (zFsub (hD V_8) [0, 1, 2, 3, 4, 5, 6, 7, 8, 9, 10, 11, 12, 13, 14, 15, 16] rfl) hP (q0 := 0) rfl rfl rfl rfl hl.1 rfl (Nat.le_of_ble_eq_true rfl) ⟨Nat.le_of_ble_eq_true rfl, Nat.le_of_ble_eq_true rfl⟩ ⟨rfl, rfl⟩ ⟨Nat.le_refl _, Nat.le_refl _⟩ dX8_readDeclare_68 (fun H locs hP1 hk1 hS => ?_)
          have hP : va_P D vwCl (cs_X8 kA a V_11) H := hP1
          refine zifb_ne (tgt := 76) hC.1 hC.2.1 dX8_readDeclare_71 (by decide) (fun hc => ?_) (fun hc => ?_)
          · have hf := it_t hf hc
            refine lv_aload_n hC.1 hC.2.1 dX8_readDeclare_76 rfl (lv_at hl 0 rfl) <| gfX8_7 hC hK hP (q0 := 0) rfl rfl dX8_readDeclare_77 <| ziconst hC.1 hC.2.1 dX8_readDeclare_80 <| lv_dup2_11 hC.1 hC.2.1 dX8_readDeclare_81 rfl rfl <| jal hC hK hP (q0 := 1) rfl (Nat.le_of_ble_eq_true rfl) (by decide) rfl dX8_readDeclare_82 <| ziconst hC.1 hC.2.1 dX8_readDeclare_83 <| ziadd hC.1 hC.2.1 dX8_readDeclare_84 <| ?_
            refine jas hC hK hP (hD V_11) hS (q0 := 1) rfl (Nat.le_of_ble_eq_true rfl) (by decide) rfl dX8_readDeclare_85 (fun H locs hP hS => ?_)
            obtain ⟨V_12, eV_12⟩ : ∃ y, y = uz V_11 0 1 ((V_11 0 1) + 1) := ⟨_, rfl⟩
            have hf := nm_at hf eV_12
            have hP : va_P D vwCl (cs_X8 kA a V_12) H := by rw [eV_12]; exact hP
            refine ziconst hC.1 hC.2.1 dX8_readDeclare_86 <| ?_
            have hf := Option.some.inj hf
            simp only [Prod.mk.injEq] at hf
            exact hret (Int32.ofInt (bI true)) _ _ _ _ (zb01 _) (congrArg (fun z => some (vI (bI z))) hf.1.symm) (by rw [← hf.2]; exact hP) hS dX8_readDeclare_87
          · have hf := it_f hf hc
            refine ziconst hC.1 hC.2.1 dX8_readDeclare_74 <| ?_
            have hf := Option.some.inj hf
            simp only [Prod.mk.injEq] at hf
            exact hret (Int32.ofInt (bI false)) _ _ _ _ (zb01 _) (congrArg (fun z => some (vI (bI z))) hf.1.symm) (by rw [← hf.2]; exact hP) hS dX8_readDeclare_75
  refine lv_aload_n hC.1 hC.2.1 dX8_readDeclare_0 rfl (lv_at hl 0 rfl) <| gfX8_7 hC hK hP (q0 := 0) rfl rfl dX8_readDeclare_1 <| ziconst hC.1 hC.2.1 dX8_readDeclare_4 <| jal hC hK hP (q0 := 1) rfl (Nat.le_of_ble_eq_true rfl) (by decide) rfl dX8_readDeclare_5 <| ?_
  refine ztopi (fun x_1 ex_1 => ?_)
  have hf := nm_at hf ex_1
  refine zistore_n (lv' := [(1, vI x_1), (0, .ref (a 0))]) hC.1 hC.2.1 dX8_readDeclare_6 rfl hl (by decide) rfl (fun ls hl => ?_)
  refine lv_aload_n hC.1 hC.2.1 dX8_readDeclare_7 rfl (lv_at hl 1 rfl) <| ziload_n hC.1 hC.2.1 dX8_readDeclare_8 rfl (lv_at hl 0 rfl) <| zbipush hC.1 hC.2.1 dX8_readDeclare_9 (by decide) <| ?_
  obtain ⟨hz_2, hf⟩ := ck_some hf
  refine zicmp_ge (tgt := 18) hC.1 hC.2.1 ⟨hz_2, (by decide)⟩ dX8_readDeclare_11 (by decide) (fun hc => ?_) (fun hc => ?_)
  · have hf := it_t hf hc
    exact ziconst hC.1 hC.2.1 dX8_readDeclare_18 <| J19 _ _ _ _ _ _ hf hP hS (lv_sub hl [1, 0] rfl)
  · have hf := it_f hf hc
    exact ziconst hC.1 hC.2.1 dX8_readDeclare_14 <| lv_goto (tgt := 19) hC.1 hC.2.1 dX8_readDeclare_15 (by decide) <| J19 _ _ _ _ _ _ hf hP hS (lv_sub hl [1, 0] rfl)
theorem DX8_readGift_0 : ∀ q ∈ ([(0, .aload_n 0, 1), (1, .getfield 7, 3), (4, .iconst 2, 1), (5, .iaload, 1), (6, .istore_n 1, 1), (7, .aload_n 0, 1), (8, .invokevirtual 217, 3), (11, .ifCond .eq 19, 3), (14, .aload_n 0, 1), (15, .sipush 413, 3), (18, .iload_n 1, 1), (19, .iconst 0, 1), (20, .invokestatic 103, 3), (23, .iadd, 1), (24, .invokevirtual 211, 3), (27, .ifCond .ne 5, 3), (30, .iconst 0, 1), (31, .ireturn, 1), (32, .aload_n 0, 1), (33, .iload_n 1, 1), (34, .iconst 1, 1), (35, .iconst 1, 1), (36, .iconst 0, 1), (37, .iconst 0, 1), (38, .invokevirtual 220, 3), (41, .aload_n 0, 1), (42, .getfield 7, 3), (45, .iconst 2, 1), (46, .dup2, 1), (47, .iaload, 1), (48, .iconst 1, 1), (49, .iadd, 1), (50, .iastore, 1), (51, .iconst 1, 1), (52, .ireturn, 1)] : List (Nat × Instr × Nat)), decode cX8_readGift q.1 = .ok q.2 := by decide +kernel
theorem dX8_readGift_0 : decode cX8_readGift 0 = .ok (.aload_n 0, 1) := DX8_readGift_0 (0, .aload_n 0, 1) (List.mem_of_getElem? (i := 0) rfl)
theorem dX8_readGift_1 : decode cX8_readGift 1 = .ok (.getfield 7, 3) := DX8_readGift_0 (1, .getfield 7, 3) (List.mem_of_getElem? (i := 1) rfl)
theorem dX8_readGift_4 : decode cX8_readGift 4 = .ok (.iconst 2, 1) := DX8_readGift_0 (4, .iconst 2, 1) (List.mem_of_getElem? (i := 2) rfl)
theorem dX8_readGift_5 : decode cX8_readGift 5 = .ok (.iaload, 1) := DX8_readGift_0 (5, .iaload, 1) (List.mem_of_getElem? (i := 3) rfl)
theorem dX8_readGift_6 : decode cX8_readGift 6 = .ok (.istore_n 1, 1) := DX8_readGift_0 (6, .istore_n 1, 1) (List.mem_of_getElem? (i := 4) rfl)
theorem dX8_readGift_7 : decode cX8_readGift 7 = .ok (.aload_n 0, 1) := DX8_readGift_0 (7, .aload_n 0, 1) (List.mem_of_getElem? (i := 5) rfl)
theorem dX8_readGift_8 : decode cX8_readGift 8 = .ok (.invokevirtual 217, 3) := DX8_readGift_0 (8, .invokevirtual 217, 3) (List.mem_of_getElem? (i := 6) rfl)
theorem dX8_readGift_11 : decode cX8_readGift 11 = .ok (.ifCond .eq 19, 3) := DX8_readGift_0 (11, .ifCond .eq 19, 3) (List.mem_of_getElem? (i := 7) rfl)
theorem dX8_readGift_14 : decode cX8_readGift 14 = .ok (.aload_n 0, 1) := DX8_readGift_0 (14, .aload_n 0, 1) (List.mem_of_getElem? (i := 8) rfl)
theorem dX8_readGift_15 : decode cX8_readGift 15 = .ok (.sipush 413, 3) := DX8_readGift_0 (15, .sipush 413, 3) (List.mem_of_getElem? (i := 9) rfl)
theorem dX8_readGift_18 : decode cX8_readGift 18 = .ok (.iload_n 1, 1) := DX8_readGift_0 (18, .iload_n 1, 1) (List.mem_of_getElem? (i := 10) rfl)
theorem dX8_readGift_19 : decode cX8_readGift 19 = .ok (.iconst 0, 1) := DX8_readGift_0 (19, .iconst 0, 1) (List.mem_of_getElem? (i := 11) rfl)
theorem dX8_readGift_20 : decode cX8_readGift 20 = .ok (.invokestatic 103, 3) := DX8_readGift_0 (20, .invokestatic 103, 3) (List.mem_of_getElem? (i := 12) rfl)
theorem dX8_readGift_23 : decode cX8_readGift 23 = .ok (.iadd, 1) := DX8_readGift_0 (23, .iadd, 1) (List.mem_of_getElem? (i := 13) rfl)
theorem dX8_readGift_24 : decode cX8_readGift 24 = .ok (.invokevirtual 211, 3) := DX8_readGift_0 (24, .invokevirtual 211, 3) (List.mem_of_getElem? (i := 14) rfl)
theorem dX8_readGift_27 : decode cX8_readGift 27 = .ok (.ifCond .ne 5, 3) := DX8_readGift_0 (27, .ifCond .ne 5, 3) (List.mem_of_getElem? (i := 15) rfl)
theorem dX8_readGift_30 : decode cX8_readGift 30 = .ok (.iconst 0, 1) := DX8_readGift_0 (30, .iconst 0, 1) (List.mem_of_getElem? (i := 16) rfl)
theorem dX8_readGift_31 : decode cX8_readGift 31 = .ok (.ireturn, 1) := DX8_readGift_0 (31, .ireturn, 1) (List.mem_of_getElem? (i := 17) rfl)
theorem dX8_readGift_32 : decode cX8_readGift 32 = .ok (.aload_n 0, 1) := DX8_readGift_0 (32, .aload_n 0, 1) (List.mem_of_getElem? (i := 18) rfl)
theorem dX8_readGift_33 : decode cX8_readGift 33 = .ok (.iload_n 1, 1) := DX8_readGift_0 (33, .iload_n 1, 1) (List.mem_of_getElem? (i := 19) rfl)
theorem dX8_readGift_34 : decode cX8_readGift 34 = .ok (.iconst 1, 1) := DX8_readGift_0 (34, .iconst 1, 1) (List.mem_of_getElem? (i := 20) rfl)
theorem dX8_readGift_35 : decode cX8_readGift 35 = .ok (.iconst 1, 1) := DX8_readGift_0 (35, .iconst 1, 1) (List.mem_of_getElem? (i := 21) rfl)
theorem dX8_readGift_36 : decode cX8_readGift 36 = .ok (.iconst 0, 1) := DX8_readGift_0 (36, .iconst 0, 1) (List.mem_of_getElem? (i := 22) rfl)
theorem dX8_readGift_37 : decode cX8_readGift 37 = .ok (.iconst 0, 1) := DX8_readGift_0 (37, .iconst 0, 1) (List.mem_of_getElem? (i := 23) rfl)
theorem dX8_readGift_38 : decode cX8_readGift 38 = .ok (.invokevirtual 220, 3) := DX8_readGift_0 (38, .invokevirtual 220, 3) (List.mem_of_getElem? (i := 24) rfl)
theorem dX8_readGift_41 : decode cX8_readGift 41 = .ok (.aload_n 0, 1) := DX8_readGift_0 (41, .aload_n 0, 1) (List.mem_of_getElem? (i := 25) rfl)
theorem dX8_readGift_42 : decode cX8_readGift 42 = .ok (.getfield 7, 3) := DX8_readGift_0 (42, .getfield 7, 3) (List.mem_of_getElem? (i := 26) rfl)
theorem dX8_readGift_45 : decode cX8_readGift 45 = .ok (.iconst 2, 1) := DX8_readGift_0 (45, .iconst 2, 1) (List.mem_of_getElem? (i := 27) rfl)
theorem dX8_readGift_46 : decode cX8_readGift 46 = .ok (.dup2, 1) := DX8_readGift_0 (46, .dup2, 1) (List.mem_of_getElem? (i := 28) rfl)
theorem dX8_readGift_47 : decode cX8_readGift 47 = .ok (.iaload, 1) := DX8_readGift_0 (47, .iaload, 1) (List.mem_of_getElem? (i := 29) rfl)
theorem dX8_readGift_48 : decode cX8_readGift 48 = .ok (.iconst 1, 1) := DX8_readGift_0 (48, .iconst 1, 1) (List.mem_of_getElem? (i := 30) rfl)
theorem dX8_readGift_49 : decode cX8_readGift 49 = .ok (.iadd, 1) := DX8_readGift_0 (49, .iadd, 1) (List.mem_of_getElem? (i := 31) rfl)
theorem dX8_readGift_50 : decode cX8_readGift 50 = .ok (.iastore, 1) := DX8_readGift_0 (50, .iastore, 1) (List.mem_of_getElem? (i := 32) rfl)
theorem dX8_readGift_51 : decode cX8_readGift 51 = .ok (.iconst 1, 1) := DX8_readGift_0 (51, .iconst 1, 1) (List.mem_of_getElem? (i := 33) rfl)
theorem dX8_readGift_52 : decode cX8_readGift 52 = .ok (.ireturn, 1) := DX8_readGift_0 (52, .ireturn, 1) (List.mem_of_getElem? (i := 34) rfl)
abbrev rmX8_readGift : Room := { frames := 9, cells := 0, slots := 0, locals := 414 }
set_option maxHeartbeats 400000 in
set_option maxRecDepth 100000 in
theorem met_X8_readGift (l : Launch) (D : va_G) (kA : Nat → ClassId) (a : Nat → Nat) (adK adV : Nat → Nat) (n : Nat) (V0 : Sz) (hDt : ∀ w : Sz, va_D (fun _ => True) (cs_X8 kA a w)) {r : Bool} {Vr : Sz} (hf : f_X8_readGift n V0 = some (r, Vr)) : MZs l yX8_readGift cX8_readGift 2 (some .boolean) rmX8_readGift D kA adK adV [.ref (a 0)] (cs_X8 kA a V0) (cs_X8 kA a Vr) (some (vI (bI r))) := by
  refine zZZs (own := RX8) rfl rfl (Nat.le_of_ble_eq_true rfl) ?_
  intro p e s m args below meth c ls Q hC hK hZ hP hl hret
  have hl : lv_has ls 2 [(0, .ref (a 0))] := hl
  have hS : va_S (zF (cs_X8 kA a V0)) s.heap s.heap [] := va_S.rf
  have hD := zDself (C := fun w : Sz => (cs_X8 kA a w)) hDt V0 (fun _ => rfl)
  try dsimp only at hD
  generalize hAe : zF (cs_X8 kA a V0) = A0 at hS hD hret hZ
  unfold f_X8_readGift at hf
  refine lv_aload_n hC.1 hC.2.1 dX8_readGift_0 rfl (lv_at hl 0 rfl) <| gfX8_7 hC hK hP (q0 := 0) rfl rfl dX8_readGift_1 <| ziconst hC.1 hC.2.1 dX8_readGift_4 <| jal hC hK hP (q0 := 1) rfl (Nat.le_of_ble_eq_true rfl) (by decide) rfl dX8_readGift_5 <| ?_
  refine ztopi (fun x_1 ex_1 => ?_)
  have hf := nm_at hf ex_1
  refine zistore_n (lv' := [(1, vI x_1), (0, .ref (a 0))]) hC.1 hC.2.1 dX8_readGift_6 rfl hl (by decide) rfl (fun ls hl => ?_)
  refine lv_aload_n hC.1 hC.2.1 dX8_readGift_7 rfl (lv_at hl 1 rfl) <| ?_
  obtain ⟨⟨r_2, V_3⟩, hu, hf⟩ := bd_some hf
  have hDc := hDt
  refine zcVZ (As := []) (rest := []) hC hK (met_X8_readMoney l D kA a n V0 hDc hu) zwX8_217 hS (zFsub (hD V0) [0, 1, 2, 3, 4, 5, 6, 7, 8, 9, 10, 11, 12, 13, 14, 15, 16] rfl) hP (q0 := 0) rfl rfl rfl rfl hl.1 rfl (Nat.le_of_ble_eq_true rfl) ⟨Nat.le_of_ble_eq_true rfl, Nat.le_of_ble_eq_true rfl⟩ ⟨rfl, rfl⟩ ⟨Nat.le_refl _, Nat.le_refl _⟩ dX8_readGift_8 (fun H locs hP1 hk1 hS => ?_)
  have hP : va_P D vwCl (cs_X8 kA a V_3) H := hP1
  refine zifb_eq (tgt := 30) hC.1 hC.2.1 dX8_readGift_11 (by decide) (fun hc => ?_) (fun hc => ?_)
  · have hf := it_t hf hc
    refine ziconst hC.1 hC.2.1 dX8_readGift_30 <| ?_
    have hf := Option.some.inj hf
    simp only [Prod.mk.injEq] at hf
    exact hret (Int32.ofInt (bI false)) _ _ _ _ (zb01 _) (congrArg (fun z => some (vI (bI z))) hf.1.symm) (by rw [← hf.2]; exact hP) hS dX8_readGift_31
  · have hf := it_f hf hc
    refine lv_aload_n hC.1 hC.2.1 dX8_readGift_14 rfl (lv_at hl 1 rfl) <| zsipush hC.1 hC.2.1 dX8_readGift_15 (by decide) <| ziload_n hC.1 hC.2.1 dX8_readGift_18 rfl (lv_at hl 0 rfl) <| ziconst hC.1 hC.2.1 dX8_readGift_19 <| ?_
    obtain ⟨r_4, hu, hf⟩ := bd_some hf
    have hPc : va_P D vwCl ([] : va_W) _ := hP.sub [] rfl
    refine zcSP (As := [vI x_1, vI 0]) (rest := [vI 413, .ref (a 0)]) hC hK (met_X8_partOf l D kA x_1 0 hu) zwX8_103 hPc rfl hl.1 rfl (Nat.le_of_ble_eq_true rfl) ⟨Nat.le_of_ble_eq_true rfl, Nat.le_of_ble_eq_true rfl⟩ ⟨rfl, rfl⟩ ⟨Nat.le_refl _, Nat.le_refl _⟩ dX8_readGift_20 <| ziadd hC.1 hC.2.1 dX8_readGift_23 <| ?_
    obtain ⟨⟨r_5, V_6⟩, hu, hf⟩ := bd_some hf
    have hDc := hDt
    refine zcVZs (As := [vI (413 + r_4)]) (rest := []) hC hK hZ (met_X8_takesDonor l D kA a adK adV n V_3 (413 + r_4) hDc hu) zwX8_211 hS (zFsub (hD V_3) [0, 1, 2, 3, 4, 5, 6, 7, 8, 9, 10, 11, 12, 13, 14, 15, 16] rfl) hP (q0 := 0) rfl rfl rfl rfl hl.1 rfl (Nat.le_of_ble_eq_true rfl) ⟨Nat.le_of_ble_eq_true rfl, Nat.le_of_ble_eq_true rfl⟩ ⟨rfl, rfl⟩ ⟨Nat.le_refl _, Nat.le_refl _⟩ dX8_readGift_24 (fun H locs hP1 hk1 hS => ?_)
    have hP : va_P D vwCl (cs_X8 kA a V_6) H := hP1
    refine zifb_ne (tgt := 32) hC.1 hC.2.1 dX8_readGift_27 (by decide) (fun hc => ?_) (fun hc => ?_)
    · have hf := it_t hf hc
      refine lv_aload_n hC.1 hC.2.1 dX8_readGift_32 rfl (lv_at hl 1 rfl) <| ziload_n hC.1 hC.2.1 dX8_readGift_33 rfl (lv_at hl 0 rfl) <| ziconst hC.1 hC.2.1 dX8_readGift_34 <| ziconst hC.1 hC.2.1 dX8_readGift_35 <| ziconst hC.1 hC.2.1 dX8_readGift_36 <| ziconst hC.1 hC.2.1 dX8_readGift_37 <| ?_
      obtain ⟨V_7, hu, hf⟩ := bd_some hf
      have hDc := hDt
      refine zcVZ (As := [vI x_1, vI 1, vI 1, vI 0, vI 0]) (rest := []) hC hK (met_X8_shares l D kA a n V_6 x_1 1 1 0 0 hDc hu) zwX8_220 hS (zFsub (hD V_6) [0, 1, 2, 3, 4, 5, 6, 7, 8, 9, 10, 11, 12, 13, 14, 15, 16] rfl) hP (q0 := 0) rfl rfl rfl rfl hl.1 rfl (Nat.le_of_ble_eq_true rfl) ⟨Nat.le_of_ble_eq_true rfl, Nat.le_of_ble_eq_true rfl⟩ ⟨rfl, rfl⟩ ⟨Nat.le_refl _, Nat.le_refl _⟩ dX8_readGift_38 (fun H locs hP1 hk1 hS => ?_)
      have hP : va_P D vwCl (cs_X8 kA a V_7) H := hP1
      refine lv_aload_n hC.1 hC.2.1 dX8_readGift_41 rfl (lv_at hl 1 rfl) <| gfX8_7 hC hK hP (q0 := 0) rfl rfl dX8_readGift_42 <| ziconst hC.1 hC.2.1 dX8_readGift_45 <| lv_dup2_11 hC.1 hC.2.1 dX8_readGift_46 rfl rfl <| jal hC hK hP (q0 := 1) rfl (Nat.le_of_ble_eq_true rfl) (by decide) rfl dX8_readGift_47 <| ziconst hC.1 hC.2.1 dX8_readGift_48 <| ziadd hC.1 hC.2.1 dX8_readGift_49 <| ?_
      refine jas hC hK hP (hD V_7) hS (q0 := 1) rfl (Nat.le_of_ble_eq_true rfl) (by decide) rfl dX8_readGift_50 (fun H locs hP hS => ?_)
      obtain ⟨V_8, eV_8⟩ : ∃ y, y = uz V_7 0 2 ((V_7 0 2) + 1) := ⟨_, rfl⟩
      have hf := nm_at hf eV_8
      have hP : va_P D vwCl (cs_X8 kA a V_8) H := by rw [eV_8]; exact hP
      refine ziconst hC.1 hC.2.1 dX8_readGift_51 <| ?_
      have hf := Option.some.inj hf
      simp only [Prod.mk.injEq] at hf
      exact hret (Int32.ofInt (bI true)) _ _ _ _ (zb01 _) (congrArg (fun z => some (vI (bI z))) hf.1.symm) (by rw [← hf.2]; exact hP) hS dX8_readGift_52
    · have hf := it_f hf hc
      refine ziconst hC.1 hC.2.1 dX8_readGift_30 <| ?_
      have hf := Option.some.inj hf
      simp only [Prod.mk.injEq] at hf
      exact hret (Int32.ofInt (bI false)) _ _ _ _ (zb01 _) (congrArg (fun z => some (vI (bI z))) hf.1.symm) (by rw [← hf.2]; exact hP) hS dX8_readGift_31
theorem DX8_readShare_0 : ∀ q ∈ ([(0, .aload_n 0, 1), (1, .invokevirtual 201, 3), (4, .ifCond .ne 9, 3), (7, .aload_n 0, 1), (8, .iconst 1, 1), (9, .invokevirtual 168, 3), (12, .ireturn, 1), (13, .aload_n 0, 1), (14, .invokevirtual 204, 3), (17, .istore_n 3, 1), (18, .iload_n 3, 1), (19, .iconst (-1), 1), (20, .if_icmp .eq 7, 3), (23, .iconst 1, 1), (24, .goto 4, 3), (27, .iconst 0, 1), (28, .istore 4, 2), (30, .iconst 0, 1), (31, .istore 5, 2), (33, .iload 5, 2), (35, .iload_n 2, 1), (36, .if_icmp .ge 40, 3), (39, .iload 4, 2), (41, .ifCond .eq 26, 3), (44, .aload_n 0, 1), (45, .getfield 7, 3), (48, .sipush 413, 3), (51, .iload_n 1, 1), (52, .iload 5, 2), (54, .invokestatic 103, 3), (57, .iadd, 1), (58, .iaload, 1), (59, .iload_n 3, 1), (60, .if_icmp .eq 7, 3), (63, .iconst 1, 1), (64, .goto 4, 3), (67, .iconst 0, 1), (68, .istore 4, 2), (70, .iinc 5 1, 3), (73, .goto (-40), 3)] : List (Nat × Instr × Nat)), decode cX8_readShare q.1 = .ok q.2 := by decide +kernel
theorem dX8_readShare_0 : decode cX8_readShare 0 = .ok (.aload_n 0, 1) := DX8_readShare_0 (0, .aload_n 0, 1) (List.mem_of_getElem? (i := 0) rfl)
theorem dX8_readShare_1 : decode cX8_readShare 1 = .ok (.invokevirtual 201, 3) := DX8_readShare_0 (1, .invokevirtual 201, 3) (List.mem_of_getElem? (i := 1) rfl)
theorem dX8_readShare_4 : decode cX8_readShare 4 = .ok (.ifCond .ne 9, 3) := DX8_readShare_0 (4, .ifCond .ne 9, 3) (List.mem_of_getElem? (i := 2) rfl)
theorem dX8_readShare_7 : decode cX8_readShare 7 = .ok (.aload_n 0, 1) := DX8_readShare_0 (7, .aload_n 0, 1) (List.mem_of_getElem? (i := 3) rfl)
theorem dX8_readShare_8 : decode cX8_readShare 8 = .ok (.iconst 1, 1) := DX8_readShare_0 (8, .iconst 1, 1) (List.mem_of_getElem? (i := 4) rfl)
theorem dX8_readShare_9 : decode cX8_readShare 9 = .ok (.invokevirtual 168, 3) := DX8_readShare_0 (9, .invokevirtual 168, 3) (List.mem_of_getElem? (i := 5) rfl)
theorem dX8_readShare_12 : decode cX8_readShare 12 = .ok (.ireturn, 1) := DX8_readShare_0 (12, .ireturn, 1) (List.mem_of_getElem? (i := 6) rfl)
theorem dX8_readShare_13 : decode cX8_readShare 13 = .ok (.aload_n 0, 1) := DX8_readShare_0 (13, .aload_n 0, 1) (List.mem_of_getElem? (i := 7) rfl)
theorem dX8_readShare_14 : decode cX8_readShare 14 = .ok (.invokevirtual 204, 3) := DX8_readShare_0 (14, .invokevirtual 204, 3) (List.mem_of_getElem? (i := 8) rfl)
theorem dX8_readShare_17 : decode cX8_readShare 17 = .ok (.istore_n 3, 1) := DX8_readShare_0 (17, .istore_n 3, 1) (List.mem_of_getElem? (i := 9) rfl)
theorem dX8_readShare_18 : decode cX8_readShare 18 = .ok (.iload_n 3, 1) := DX8_readShare_0 (18, .iload_n 3, 1) (List.mem_of_getElem? (i := 10) rfl)
theorem dX8_readShare_19 : decode cX8_readShare 19 = .ok (.iconst (-1), 1) := DX8_readShare_0 (19, .iconst (-1), 1) (List.mem_of_getElem? (i := 11) rfl)
theorem dX8_readShare_20 : decode cX8_readShare 20 = .ok (.if_icmp .eq 7, 3) := DX8_readShare_0 (20, .if_icmp .eq 7, 3) (List.mem_of_getElem? (i := 12) rfl)
theorem dX8_readShare_23 : decode cX8_readShare 23 = .ok (.iconst 1, 1) := DX8_readShare_0 (23, .iconst 1, 1) (List.mem_of_getElem? (i := 13) rfl)
theorem dX8_readShare_24 : decode cX8_readShare 24 = .ok (.goto 4, 3) := DX8_readShare_0 (24, .goto 4, 3) (List.mem_of_getElem? (i := 14) rfl)
theorem dX8_readShare_27 : decode cX8_readShare 27 = .ok (.iconst 0, 1) := DX8_readShare_0 (27, .iconst 0, 1) (List.mem_of_getElem? (i := 15) rfl)
theorem dX8_readShare_28 : decode cX8_readShare 28 = .ok (.istore 4, 2) := DX8_readShare_0 (28, .istore 4, 2) (List.mem_of_getElem? (i := 16) rfl)
theorem dX8_readShare_30 : decode cX8_readShare 30 = .ok (.iconst 0, 1) := DX8_readShare_0 (30, .iconst 0, 1) (List.mem_of_getElem? (i := 17) rfl)
theorem dX8_readShare_31 : decode cX8_readShare 31 = .ok (.istore 5, 2) := DX8_readShare_0 (31, .istore 5, 2) (List.mem_of_getElem? (i := 18) rfl)
theorem dX8_readShare_33 : decode cX8_readShare 33 = .ok (.iload 5, 2) := DX8_readShare_0 (33, .iload 5, 2) (List.mem_of_getElem? (i := 19) rfl)
theorem dX8_readShare_35 : decode cX8_readShare 35 = .ok (.iload_n 2, 1) := DX8_readShare_0 (35, .iload_n 2, 1) (List.mem_of_getElem? (i := 20) rfl)
theorem dX8_readShare_36 : decode cX8_readShare 36 = .ok (.if_icmp .ge 40, 3) := DX8_readShare_0 (36, .if_icmp .ge 40, 3) (List.mem_of_getElem? (i := 21) rfl)
theorem dX8_readShare_39 : decode cX8_readShare 39 = .ok (.iload 4, 2) := DX8_readShare_0 (39, .iload 4, 2) (List.mem_of_getElem? (i := 22) rfl)
theorem dX8_readShare_41 : decode cX8_readShare 41 = .ok (.ifCond .eq 26, 3) := DX8_readShare_0 (41, .ifCond .eq 26, 3) (List.mem_of_getElem? (i := 23) rfl)
theorem dX8_readShare_44 : decode cX8_readShare 44 = .ok (.aload_n 0, 1) := DX8_readShare_0 (44, .aload_n 0, 1) (List.mem_of_getElem? (i := 24) rfl)
theorem dX8_readShare_45 : decode cX8_readShare 45 = .ok (.getfield 7, 3) := DX8_readShare_0 (45, .getfield 7, 3) (List.mem_of_getElem? (i := 25) rfl)
theorem dX8_readShare_48 : decode cX8_readShare 48 = .ok (.sipush 413, 3) := DX8_readShare_0 (48, .sipush 413, 3) (List.mem_of_getElem? (i := 26) rfl)
theorem dX8_readShare_51 : decode cX8_readShare 51 = .ok (.iload_n 1, 1) := DX8_readShare_0 (51, .iload_n 1, 1) (List.mem_of_getElem? (i := 27) rfl)
theorem dX8_readShare_52 : decode cX8_readShare 52 = .ok (.iload 5, 2) := DX8_readShare_0 (52, .iload 5, 2) (List.mem_of_getElem? (i := 28) rfl)
theorem dX8_readShare_54 : decode cX8_readShare 54 = .ok (.invokestatic 103, 3) := DX8_readShare_0 (54, .invokestatic 103, 3) (List.mem_of_getElem? (i := 29) rfl)
theorem dX8_readShare_57 : decode cX8_readShare 57 = .ok (.iadd, 1) := DX8_readShare_0 (57, .iadd, 1) (List.mem_of_getElem? (i := 30) rfl)
theorem dX8_readShare_58 : decode cX8_readShare 58 = .ok (.iaload, 1) := DX8_readShare_0 (58, .iaload, 1) (List.mem_of_getElem? (i := 31) rfl)
theorem dX8_readShare_59 : decode cX8_readShare 59 = .ok (.iload_n 3, 1) := DX8_readShare_0 (59, .iload_n 3, 1) (List.mem_of_getElem? (i := 32) rfl)
theorem dX8_readShare_60 : decode cX8_readShare 60 = .ok (.if_icmp .eq 7, 3) := DX8_readShare_0 (60, .if_icmp .eq 7, 3) (List.mem_of_getElem? (i := 33) rfl)
theorem dX8_readShare_63 : decode cX8_readShare 63 = .ok (.iconst 1, 1) := DX8_readShare_0 (63, .iconst 1, 1) (List.mem_of_getElem? (i := 34) rfl)
theorem dX8_readShare_64 : decode cX8_readShare 64 = .ok (.goto 4, 3) := DX8_readShare_0 (64, .goto 4, 3) (List.mem_of_getElem? (i := 35) rfl)
theorem dX8_readShare_67 : decode cX8_readShare 67 = .ok (.iconst 0, 1) := DX8_readShare_0 (67, .iconst 0, 1) (List.mem_of_getElem? (i := 36) rfl)
theorem dX8_readShare_68 : decode cX8_readShare 68 = .ok (.istore 4, 2) := DX8_readShare_0 (68, .istore 4, 2) (List.mem_of_getElem? (i := 37) rfl)
theorem dX8_readShare_70 : decode cX8_readShare 70 = .ok (.iinc 5 1, 3) := DX8_readShare_0 (70, .iinc 5 1, 3) (List.mem_of_getElem? (i := 38) rfl)
theorem dX8_readShare_73 : decode cX8_readShare 73 = .ok (.goto (-40), 3) := DX8_readShare_0 (73, .goto (-40), 3) (List.mem_of_getElem? (i := 39) rfl)
theorem DX8_readShare_1 : ∀ q ∈ ([(76, .iload 4, 2), (78, .ifCond .ne 9, 3), (81, .aload_n 0, 1), (82, .iconst 3, 1), (83, .invokevirtual 168, 3), (86, .ireturn, 1), (87, .aload_n 0, 1), (88, .getfield 7, 3), (91, .sipush 413, 3), (94, .iload_n 1, 1), (95, .iload_n 2, 1), (96, .invokestatic 103, 3), (99, .iadd, 1), (100, .iload_n 3, 1), (101, .iastore, 1), (102, .aload_n 0, 1), (103, .invokevirtual 171, 3), (106, .aload_n 0, 1), (107, .getfield 146, 3), (110, .iconst 2, 1), (111, .if_icmp .ne 12, 3), (114, .aload_n 0, 1), (115, .invokevirtual 155, 3), (118, .bipush 6, 2), (120, .if_icmp .le 9, 3), (123, .aload_n 0, 1), (124, .iconst 1, 1), (125, .invokevirtual 168, 3), (128, .ireturn, 1), (129, .aload_n 0, 1), (130, .getfield 143, 3), (133, .iconst 1, 1), (134, .bipush 9, 2), (136, .invokestatic 79, 3), (139, .ifCond .ne 9, 3), (142, .aload_n 0, 1), (143, .iconst 2, 1), (144, .invokevirtual 168, 3), (147, .ireturn, 1), (148, .aload_n 0, 1)] : List (Nat × Instr × Nat)), decode cX8_readShare q.1 = .ok q.2 := by decide +kernel
theorem dX8_readShare_76 : decode cX8_readShare 76 = .ok (.iload 4, 2) := DX8_readShare_1 (76, .iload 4, 2) (List.mem_of_getElem? (i := 0) rfl)
theorem dX8_readShare_78 : decode cX8_readShare 78 = .ok (.ifCond .ne 9, 3) := DX8_readShare_1 (78, .ifCond .ne 9, 3) (List.mem_of_getElem? (i := 1) rfl)
theorem dX8_readShare_81 : decode cX8_readShare 81 = .ok (.aload_n 0, 1) := DX8_readShare_1 (81, .aload_n 0, 1) (List.mem_of_getElem? (i := 2) rfl)
theorem dX8_readShare_82 : decode cX8_readShare 82 = .ok (.iconst 3, 1) := DX8_readShare_1 (82, .iconst 3, 1) (List.mem_of_getElem? (i := 3) rfl)
theorem dX8_readShare_83 : decode cX8_readShare 83 = .ok (.invokevirtual 168, 3) := DX8_readShare_1 (83, .invokevirtual 168, 3) (List.mem_of_getElem? (i := 4) rfl)
theorem dX8_readShare_86 : decode cX8_readShare 86 = .ok (.ireturn, 1) := DX8_readShare_1 (86, .ireturn, 1) (List.mem_of_getElem? (i := 5) rfl)
theorem dX8_readShare_87 : decode cX8_readShare 87 = .ok (.aload_n 0, 1) := DX8_readShare_1 (87, .aload_n 0, 1) (List.mem_of_getElem? (i := 6) rfl)
theorem dX8_readShare_88 : decode cX8_readShare 88 = .ok (.getfield 7, 3) := DX8_readShare_1 (88, .getfield 7, 3) (List.mem_of_getElem? (i := 7) rfl)
theorem dX8_readShare_91 : decode cX8_readShare 91 = .ok (.sipush 413, 3) := DX8_readShare_1 (91, .sipush 413, 3) (List.mem_of_getElem? (i := 8) rfl)
theorem dX8_readShare_94 : decode cX8_readShare 94 = .ok (.iload_n 1, 1) := DX8_readShare_1 (94, .iload_n 1, 1) (List.mem_of_getElem? (i := 9) rfl)
theorem dX8_readShare_95 : decode cX8_readShare 95 = .ok (.iload_n 2, 1) := DX8_readShare_1 (95, .iload_n 2, 1) (List.mem_of_getElem? (i := 10) rfl)
theorem dX8_readShare_96 : decode cX8_readShare 96 = .ok (.invokestatic 103, 3) := DX8_readShare_1 (96, .invokestatic 103, 3) (List.mem_of_getElem? (i := 11) rfl)
theorem dX8_readShare_99 : decode cX8_readShare 99 = .ok (.iadd, 1) := DX8_readShare_1 (99, .iadd, 1) (List.mem_of_getElem? (i := 12) rfl)
theorem dX8_readShare_100 : decode cX8_readShare 100 = .ok (.iload_n 3, 1) := DX8_readShare_1 (100, .iload_n 3, 1) (List.mem_of_getElem? (i := 13) rfl)
theorem dX8_readShare_101 : decode cX8_readShare 101 = .ok (.iastore, 1) := DX8_readShare_1 (101, .iastore, 1) (List.mem_of_getElem? (i := 14) rfl)
theorem dX8_readShare_102 : decode cX8_readShare 102 = .ok (.aload_n 0, 1) := DX8_readShare_1 (102, .aload_n 0, 1) (List.mem_of_getElem? (i := 15) rfl)
theorem dX8_readShare_103 : decode cX8_readShare 103 = .ok (.invokevirtual 171, 3) := DX8_readShare_1 (103, .invokevirtual 171, 3) (List.mem_of_getElem? (i := 16) rfl)
theorem dX8_readShare_106 : decode cX8_readShare 106 = .ok (.aload_n 0, 1) := DX8_readShare_1 (106, .aload_n 0, 1) (List.mem_of_getElem? (i := 17) rfl)
theorem dX8_readShare_107 : decode cX8_readShare 107 = .ok (.getfield 146, 3) := DX8_readShare_1 (107, .getfield 146, 3) (List.mem_of_getElem? (i := 18) rfl)
theorem dX8_readShare_110 : decode cX8_readShare 110 = .ok (.iconst 2, 1) := DX8_readShare_1 (110, .iconst 2, 1) (List.mem_of_getElem? (i := 19) rfl)
theorem dX8_readShare_111 : decode cX8_readShare 111 = .ok (.if_icmp .ne 12, 3) := DX8_readShare_1 (111, .if_icmp .ne 12, 3) (List.mem_of_getElem? (i := 20) rfl)
theorem dX8_readShare_114 : decode cX8_readShare 114 = .ok (.aload_n 0, 1) := DX8_readShare_1 (114, .aload_n 0, 1) (List.mem_of_getElem? (i := 21) rfl)
theorem dX8_readShare_115 : decode cX8_readShare 115 = .ok (.invokevirtual 155, 3) := DX8_readShare_1 (115, .invokevirtual 155, 3) (List.mem_of_getElem? (i := 22) rfl)
theorem dX8_readShare_118 : decode cX8_readShare 118 = .ok (.bipush 6, 2) := DX8_readShare_1 (118, .bipush 6, 2) (List.mem_of_getElem? (i := 23) rfl)
theorem dX8_readShare_120 : decode cX8_readShare 120 = .ok (.if_icmp .le 9, 3) := DX8_readShare_1 (120, .if_icmp .le 9, 3) (List.mem_of_getElem? (i := 24) rfl)
theorem dX8_readShare_123 : decode cX8_readShare 123 = .ok (.aload_n 0, 1) := DX8_readShare_1 (123, .aload_n 0, 1) (List.mem_of_getElem? (i := 25) rfl)
theorem dX8_readShare_124 : decode cX8_readShare 124 = .ok (.iconst 1, 1) := DX8_readShare_1 (124, .iconst 1, 1) (List.mem_of_getElem? (i := 26) rfl)
theorem dX8_readShare_125 : decode cX8_readShare 125 = .ok (.invokevirtual 168, 3) := DX8_readShare_1 (125, .invokevirtual 168, 3) (List.mem_of_getElem? (i := 27) rfl)
theorem dX8_readShare_128 : decode cX8_readShare 128 = .ok (.ireturn, 1) := DX8_readShare_1 (128, .ireturn, 1) (List.mem_of_getElem? (i := 28) rfl)
theorem dX8_readShare_129 : decode cX8_readShare 129 = .ok (.aload_n 0, 1) := DX8_readShare_1 (129, .aload_n 0, 1) (List.mem_of_getElem? (i := 29) rfl)
theorem dX8_readShare_130 : decode cX8_readShare 130 = .ok (.getfield 143, 3) := DX8_readShare_1 (130, .getfield 143, 3) (List.mem_of_getElem? (i := 30) rfl)
theorem dX8_readShare_133 : decode cX8_readShare 133 = .ok (.iconst 1, 1) := DX8_readShare_1 (133, .iconst 1, 1) (List.mem_of_getElem? (i := 31) rfl)
theorem dX8_readShare_134 : decode cX8_readShare 134 = .ok (.bipush 9, 2) := DX8_readShare_1 (134, .bipush 9, 2) (List.mem_of_getElem? (i := 32) rfl)
theorem dX8_readShare_136 : decode cX8_readShare 136 = .ok (.invokestatic 79, 3) := DX8_readShare_1 (136, .invokestatic 79, 3) (List.mem_of_getElem? (i := 33) rfl)
theorem dX8_readShare_139 : decode cX8_readShare 139 = .ok (.ifCond .ne 9, 3) := DX8_readShare_1 (139, .ifCond .ne 9, 3) (List.mem_of_getElem? (i := 34) rfl)
theorem dX8_readShare_142 : decode cX8_readShare 142 = .ok (.aload_n 0, 1) := DX8_readShare_1 (142, .aload_n 0, 1) (List.mem_of_getElem? (i := 35) rfl)
theorem dX8_readShare_143 : decode cX8_readShare 143 = .ok (.iconst 2, 1) := DX8_readShare_1 (143, .iconst 2, 1) (List.mem_of_getElem? (i := 36) rfl)
theorem dX8_readShare_144 : decode cX8_readShare 144 = .ok (.invokevirtual 168, 3) := DX8_readShare_1 (144, .invokevirtual 168, 3) (List.mem_of_getElem? (i := 37) rfl)
theorem dX8_readShare_147 : decode cX8_readShare 147 = .ok (.ireturn, 1) := DX8_readShare_1 (147, .ireturn, 1) (List.mem_of_getElem? (i := 38) rfl)
theorem dX8_readShare_148 : decode cX8_readShare 148 = .ok (.aload_n 0, 1) := DX8_readShare_1 (148, .aload_n 0, 1) (List.mem_of_getElem? (i := 39) rfl)
theorem DX8_readShare_2 : ∀ q ∈ ([(149, .getfield 50, 3), (152, .iload_n 2, 1), (153, .aload_n 0, 1), (154, .getfield 143, 3), (157, .iastore, 1), (158, .aload_n 0, 1), (159, .invokevirtual 171, 3), (162, .iconst 1, 1), (163, .ireturn, 1)] : List (Nat × Instr × Nat)), decode cX8_readShare q.1 = .ok q.2 := by decide +kernel
theorem dX8_readShare_149 : decode cX8_readShare 149 = .ok (.getfield 50, 3) := DX8_readShare_2 (149, .getfield 50, 3) (List.mem_of_getElem? (i := 0) rfl)
theorem dX8_readShare_152 : decode cX8_readShare 152 = .ok (.iload_n 2, 1) := DX8_readShare_2 (152, .iload_n 2, 1) (List.mem_of_getElem? (i := 1) rfl)
theorem dX8_readShare_153 : decode cX8_readShare 153 = .ok (.aload_n 0, 1) := DX8_readShare_2 (153, .aload_n 0, 1) (List.mem_of_getElem? (i := 2) rfl)
theorem dX8_readShare_154 : decode cX8_readShare 154 = .ok (.getfield 143, 3) := DX8_readShare_2 (154, .getfield 143, 3) (List.mem_of_getElem? (i := 3) rfl)
theorem dX8_readShare_157 : decode cX8_readShare 157 = .ok (.iastore, 1) := DX8_readShare_2 (157, .iastore, 1) (List.mem_of_getElem? (i := 4) rfl)
theorem dX8_readShare_158 : decode cX8_readShare 158 = .ok (.aload_n 0, 1) := DX8_readShare_2 (158, .aload_n 0, 1) (List.mem_of_getElem? (i := 5) rfl)
theorem dX8_readShare_159 : decode cX8_readShare 159 = .ok (.invokevirtual 171, 3) := DX8_readShare_2 (159, .invokevirtual 171, 3) (List.mem_of_getElem? (i := 6) rfl)
theorem dX8_readShare_162 : decode cX8_readShare 162 = .ok (.iconst 1, 1) := DX8_readShare_2 (162, .iconst 1, 1) (List.mem_of_getElem? (i := 7) rfl)
theorem dX8_readShare_163 : decode cX8_readShare 163 = .ok (.ireturn, 1) := DX8_readShare_2 (163, .ireturn, 1) (List.mem_of_getElem? (i := 8) rfl)
abbrev rmX8_readShare : Room := { frames := 8, cells := 0, slots := 0, locals := 392 }
set_option maxHeartbeats 400000 in
set_option maxRecDepth 100000 in
theorem met_X8_readShare (l : Launch) (D : va_G) (kA : Nat → ClassId) (a : Nat → Nat) (adK adV : Nat → Nat) (n : Nat) (V0 : Sz) (x1 : Int) (x2 : Int) (hDt : ∀ w : Sz, va_D (fun _ => True) (cs_X8 kA a w)) {r : Bool} {Vr : Sz} (hf : f_X8_readShare n V0 x1 x2 = some (r, Vr)) : MZs l yX8_readShare cX8_readShare 6 (some .boolean) rmX8_readShare D kA adK adV [.ref (a 0), vI x1, vI x2] (cs_X8 kA a V0) (cs_X8 kA a Vr) (some (vI (bI r))) := by
  refine zZZs (own := RX8) rfl rfl (Nat.le_of_ble_eq_true rfl) ?_
  intro p e s m args below meth c ls Q hC hK hZ hP hl hret
  have hl : lv_has ls 6 [(0, .ref (a 0)), (1, vI x1), (2, vI x2)] := hl
  have hS : va_S (zF (cs_X8 kA a V0)) s.heap s.heap [] := va_S.rf
  have hD := zDself (C := fun w : Sz => (cs_X8 kA a w)) hDt V0 (fun _ => rfl)
  try dsimp only at hD
  generalize hAe : zF (cs_X8 kA a V0) = A0 at hS hD hret hZ
  unfold f_X8_readShare at hf
  have J123 : ∀ (V : Sz) (H : Heap) (locs : List Loc) (ls : Array Slot), jX8_readShare_123 n x1 x2 V = some (r, Vr) → va_P D vwCl (cs_X8 kA a V) H → va_S A0 s.heap H locs → lv_has ls 6 [(0, .ref (a 0))] → W p l e rmX8_readShare s m args below meth c H locs 0 0 Q (F0 m 123 ls []) := by
    intro V H locs ls hf hP hS hl
    unfold jX8_readShare_123 at hf
    refine lv_aload_n hC.1 hC.2.1 dX8_readShare_123 rfl (lv_at hl 0 rfl) <| ziconst hC.1 hC.2.1 dX8_readShare_124 <| ?_
    obtain ⟨⟨r_11, V_12⟩, hu, hf⟩ := bd_some hf
    have hDc := hDt
    refine zcVZ (As := [vI 1]) (rest := []) hC hK (met_X8_failsAt l D kA a V 1 hDc hu) zwX8_168 hS (zFsub (hD V) [0, 1, 2, 3, 4, 5, 6, 7, 8, 9, 10, 11, 12, 13, 14, 15, 16] rfl) hP (q0 := 0) rfl rfl rfl rfl hl.1 rfl (Nat.le_of_ble_eq_true rfl) ⟨Nat.le_of_ble_eq_true rfl, Nat.le_of_ble_eq_true rfl⟩ ⟨rfl, rfl⟩ ⟨Nat.le_refl _, Nat.le_refl _⟩ dX8_readShare_125 (fun H locs hP1 hk1 hS => ?_)
    have hP : va_P D vwCl (cs_X8 kA a V_12) H := hP1
    have hf := Option.some.inj hf
    simp only [Prod.mk.injEq] at hf
    exact hret (Int32.ofInt (bI r_11)) _ _ _ _ (zb01 _) (congrArg (fun z => some (vI (bI z))) hf.1.symm) (by rw [← hf.2]; exact hP) hS dX8_readShare_128
  have L33 : ∀ (k33 : Nat) (y3 : Int) (y4 : Int) (y5 : Int) (V : Sz) (H : Heap) (locs : List Loc) (ls : Array Slot), lpF (bX8_readShare_33 n x1 x2) k33 (y3, y4, y5, V) = some (r, Vr) → va_P D vwCl (cs_X8 kA a V) H → va_S A0 s.heap H locs → lv_has ls 6 [(0, .ref (a 0)), (1, vI x1), (2, vI x2), (3, vI y3), (4, vI y4), (5, vI y5)] → W p l e rmX8_readShare s m args below meth c H locs 0 0 Q (F0 m 33 ls []) := by
    intro k33
    induction k33 with
    | zero => intro y3 y4 y5 V H locs ls hf hP hS hl; exact lp_0 hf
    | succ k33 ih33 =>
      intro y3 y4 y5 V H locs ls hf hP hS hl
      have hf := lp_s hf
      rw [bX8_readShare_33_e] at hf
      have J68 : ∀ (y3 : Int) (y5 : Int) (V : Sz) (z0 : Int) (H : Heap) (locs : List Loc) (ls : Array Slot), jX8_readShare_68 n x1 x2 (lpF (bX8_readShare_33 n x1 x2) k33) y3 y5 V z0 = some (r, Vr) → va_P D vwCl (cs_X8 kA a V) H → va_S A0 s.heap H locs → lv_has ls 6 [(0, .ref (a 0)), (1, vI x1), (2, vI x2), (3, vI y3), (5, vI y5)] → W p l e rmX8_readShare s m args below meth c H locs 0 0 Q (F0 m 68 ls [vI z0]) := by
        intro y3 y5 V z0 H locs ls hf hP hS hl
        unfold jX8_readShare_68 at hf
        refine zistore (lv' := [(4, vI z0), (0, .ref (a 0)), (1, vI x1), (2, vI x2), (3, vI y3), (5, vI y5)]) hC.1 hC.2.1 dX8_readShare_68 hl (by decide) rfl (fun ls hl => ?_)
        obtain ⟨x_24, ex_24⟩ : ∃ y : Int, y = y5 + 1 := ⟨_, rfl⟩
        have hf := nm_at hf ex_24
        refine ziinc (v := x_24) (lv' := [(5, vI x_24), (4, vI z0), (0, .ref (a 0)), (1, vI x1), (2, vI x2), (3, vI y3)]) hC.1 hC.2.1 dX8_readShare_70 hl (k := 5) rfl ex_24 (by decide) rfl (fun ls hl => ?_)
        exact lv_goto (tgt := 33) hC.1 hC.2.1 dX8_readShare_73 (by decide) <| ih33 _ _ _ _ _ _ _ hf hP hS (lv_sub hl [2, 3, 4, 5, 1, 0] rfl)
      have J67 : ∀ (y3 : Int) (y5 : Int) (V : Sz) (H : Heap) (locs : List Loc) (ls : Array Slot), jX8_readShare_67 n x1 x2 (lpF (bX8_readShare_33 n x1 x2) k33) y3 y5 V = some (r, Vr) → va_P D vwCl (cs_X8 kA a V) H → va_S A0 s.heap H locs → lv_has ls 6 [(0, .ref (a 0)), (1, vI x1), (2, vI x2), (3, vI y3), (5, vI y5)] → W p l e rmX8_readShare s m args below meth c H locs 0 0 Q (F0 m 67 ls []) := by
        intro y3 y5 V H locs ls hf hP hS hl
        unfold jX8_readShare_67 at hf
        exact ziconst hC.1 hC.2.1 dX8_readShare_67 <| J68 _ _ _ _ _ _ _ hf hP hS (lv_sub hl [0, 1, 2, 3, 4] rfl)
      refine ziload hC.1 hC.2.1 dX8_readShare_33 (lv_at hl 5 rfl) <| ziload_n hC.1 hC.2.1 dX8_readShare_35 rfl (lv_at hl 2 rfl) <| ?_
      obtain ⟨hz_4, hf⟩ := ck_some hf
      refine zicmp_ge (tgt := 76) hC.1 hC.2.1 ⟨hz_4.1, hz_4.2⟩ dX8_readShare_36 (by decide) (fun hc => ?_) (fun hc => ?_)
      · have hf := it_t hf hc
        refine ziload hC.1 hC.2.1 dX8_readShare_76 (lv_at hl 4 rfl) <| ?_
        obtain ⟨hz_5, hf⟩ := ck_some hf
        refine zif_ne (tgt := 87) hC.1 hC.2.1 hz_5 dX8_readShare_78 (by decide) (fun hc => ?_) (fun hc => ?_)
        · have hf := it_f hf hc
          refine lv_aload_n hC.1 hC.2.1 dX8_readShare_87 rfl (lv_at hl 0 rfl) <| gfX8_7 hC hK hP (q0 := 0) rfl rfl dX8_readShare_88 <| zsipush hC.1 hC.2.1 dX8_readShare_91 (by decide) <| ziload_n hC.1 hC.2.1 dX8_readShare_94 rfl (lv_at hl 1 rfl) <| ziload_n hC.1 hC.2.1 dX8_readShare_95 rfl (lv_at hl 2 rfl) <| ?_
          obtain ⟨r_6, hu, hf⟩ := bd_some hf
          have hPc : va_P D vwCl ([] : va_W) _ := hP.sub [] rfl
          refine zcSP (As := [vI x1, vI x2]) (rest := [vI 413, .ref (a 1)]) hC hK (met_X8_partOf l D kA x1 x2 hu) zwX8_103 hPc rfl hl.1 rfl (Nat.le_of_ble_eq_true rfl) ⟨Nat.le_of_ble_eq_true rfl, Nat.le_of_ble_eq_true rfl⟩ ⟨rfl, rfl⟩ ⟨Nat.le_refl _, Nat.le_refl _⟩ dX8_readShare_96 <| ziadd hC.1 hC.2.1 dX8_readShare_99 <| ziload_n hC.1 hC.2.1 dX8_readShare_100 rfl (lv_at hl 3 rfl) <| ?_
          obtain ⟨hz_7, hf⟩ := ck_some hf
          refine jas hC hK hP (hD V) hS (q0 := 1) rfl (Nat.le_of_ble_eq_true rfl) hz_7 rfl dX8_readShare_101 (fun H locs hP hS => ?_)
          obtain ⟨V_8, eV_8⟩ : ∃ y, y = uz V 0 (413 + r_6).toNat y3 := ⟨_, rfl⟩
          have hf := nm_at hf eV_8
          have hP : va_P D vwCl (cs_X8 kA a V_8) H := by rw [eV_8]; exact hP
          refine lv_aload_n hC.1 hC.2.1 dX8_readShare_102 rfl (lv_at hl 0 rfl) <| ?_
          obtain ⟨V_9, hu, hf⟩ := bd_some hf
          have hDc := hDt
          refine zcVZ (As := []) (rest := []) hC hK (met_X8_advanceToken l D kA a n V_8 hDc hu) zwX8_171 hS (zFsub (hD V_8) [0, 1, 2, 3, 4, 5, 6, 7, 8, 9, 10, 11, 12, 13, 14, 15, 16] rfl) hP (q0 := 0) rfl rfl rfl rfl hl.1 rfl (Nat.le_of_ble_eq_true rfl) ⟨Nat.le_of_ble_eq_true rfl, Nat.le_of_ble_eq_true rfl⟩ ⟨rfl, rfl⟩ ⟨Nat.le_refl _, Nat.le_refl _⟩ dX8_readShare_103 (fun H locs hP1 hk1 hS => ?_)
          have hP : va_P D vwCl (cs_X8 kA a V_9) H := hP1
          refine lv_aload_n hC.1 hC.2.1 dX8_readShare_106 rfl (lv_at hl 0 rfl) <| gfX8_146 hC hK hP (q0 := 0) rfl rfl dX8_readShare_107 <| ziconst hC.1 hC.2.1 dX8_readShare_110 <| ?_
          obtain ⟨hz_10, hf⟩ := ck_some hf
          refine zicmp_ne (tgt := 123) hC.1 hC.2.1 ⟨hz_10, (by decide)⟩ dX8_readShare_111 (by decide) (fun hc => ?_) (fun hc => ?_)
          · have hf := it_f hf hc
            exact J123 _ _ _ _ hf hP hS (lv_sub hl [0] rfl)
          · have hf := it_t hf hc
            refine lv_aload_n hC.1 hC.2.1 dX8_readShare_114 rfl (lv_at hl 0 rfl) <| ?_
            obtain ⟨r_13, hu, hf⟩ := bd_some hf
            refine zcVP (As := []) (rest := []) hC hK (met_X8_tokenLength l D kA a V_9 hu) zwX8_155 hP (q0 := 0) rfl rfl rfl rfl hl.1 rfl (Nat.le_of_ble_eq_true rfl) ⟨Nat.le_of_ble_eq_true rfl, Nat.le_of_ble_eq_true rfl⟩ ⟨rfl, rfl⟩ ⟨Nat.le_refl _, Nat.le_refl _⟩ dX8_readShare_115 <| zbipush hC.1 hC.2.1 dX8_readShare_118 (by decide) <| ?_
            obtain ⟨hz_14, hf⟩ := ck_some hf
            refine zicmp_le (tgt := 129) hC.1 hC.2.1 ⟨hz_14, (by decide)⟩ dX8_readShare_120 (by decide) (fun hc => ?_) (fun hc => ?_)
            · have hf := it_t hf hc
              refine lv_aload_n hC.1 hC.2.1 dX8_readShare_129 rfl (lv_at hl 0 rfl) <| gfX8_143 hC hK hP (q0 := 0) rfl rfl dX8_readShare_130 <| ziconst hC.1 hC.2.1 dX8_readShare_133 <| zbipush hC.1 hC.2.1 dX8_readShare_134 (by decide) <| ?_
              obtain ⟨r_15, hu, hf⟩ := bd_some hf
              have hPc : va_P D vwCl ([] : va_W) _ := hP.sub [] rfl
              refine zcSP (As := [vI (V_9 22 0), vI 1, vI 9]) (rest := []) hC hK (met_X8_inRange l D kA (V_9 22 0) 1 9 hu) zwX8_79 hPc rfl hl.1 rfl (Nat.le_of_ble_eq_true rfl) ⟨Nat.le_of_ble_eq_true rfl, Nat.le_of_ble_eq_true rfl⟩ ⟨rfl, rfl⟩ ⟨Nat.le_refl _, Nat.le_refl _⟩ dX8_readShare_136 <| zifb_ne (tgt := 148) hC.1 hC.2.1 dX8_readShare_139 (by decide) (fun hc => ?_) (fun hc => ?_)
              · have hf := it_t hf hc
                refine lv_aload_n hC.1 hC.2.1 dX8_readShare_148 rfl (lv_at hl 0 rfl) <| gfX8_50 hC hK hP (q0 := 0) rfl rfl dX8_readShare_149 <| ziload_n hC.1 hC.2.1 dX8_readShare_152 rfl (lv_at hl 2 rfl) <| lv_aload_n hC.1 hC.2.1 dX8_readShare_153 rfl (lv_at hl 0 rfl) <| gfX8_143 hC hK hP (q0 := 0) rfl rfl dX8_readShare_154 <| ?_
                obtain ⟨hz_16, hf⟩ := ck_some hf
                refine jas hC hK hP (hD V_9) hS (q0 := 13) rfl (Nat.le_of_ble_eq_true rfl) hz_16 rfl dX8_readShare_157 (fun H locs hP hS => ?_)
                obtain ⟨V_17, eV_17⟩ : ∃ y, y = uz V_9 25 x2.toNat (V_9 22 0) := ⟨_, rfl⟩
                have hf := nm_at hf eV_17
                have hP : va_P D vwCl (cs_X8 kA a V_17) H := by rw [eV_17]; exact hP
                refine lv_aload_n hC.1 hC.2.1 dX8_readShare_158 rfl (lv_at hl 0 rfl) <| ?_
                obtain ⟨V_18, hu, hf⟩ := bd_some hf
                have hDc := hDt
                refine zcVZ (As := []) (rest := []) hC hK (met_X8_advanceToken l D kA a n V_17 hDc hu) zwX8_171 hS (zFsub (hD V_17) [0, 1, 2, 3, 4, 5, 6, 7, 8, 9, 10, 11, 12, 13, 14, 15, 16] rfl) hP (q0 := 0) rfl rfl rfl rfl hl.1 rfl (Nat.le_of_ble_eq_true rfl) ⟨Nat.le_of_ble_eq_true rfl, Nat.le_of_ble_eq_true rfl⟩ ⟨rfl, rfl⟩ ⟨Nat.le_refl _, Nat.le_refl _⟩ dX8_readShare_159 (fun H locs hP1 hk1 hS => ?_)
                have hP : va_P D vwCl (cs_X8 kA a V_18) H := hP1
                refine ziconst hC.1 hC.2.1 dX8_readShare_162 <| ?_
                have hf := Option.some.inj hf
                simp only [Prod.mk.injEq] at hf
                exact hret (Int32.ofInt (bI true)) _ _ _ _ (zb01 _) (congrArg (fun z => some (vI (bI z))) hf.1.symm) (by rw [← hf.2]; exact hP) hS dX8_readShare_163
              · have hf := it_f hf hc
                refine lv_aload_n hC.1 hC.2.1 dX8_readShare_142 rfl (lv_at hl 0 rfl) <| ziconst hC.1 hC.2.1 dX8_readShare_143 <| ?_
                obtain ⟨⟨r_19, V_20⟩, hu, hf⟩ := bd_some hf
                have hDc := hDt
                refine zcVZ (As := [vI 2]) (rest := []) hC hK (met_X8_failsAt l D kA a V_9 2 hDc hu) zwX8_168 hS (zFsub (hD V_9) [0, 1, 2, 3, 4, 5, 6, 7, 8, 9, 10, 11, 12, 13, 14, 15, 16] rfl) hP (q0 := 0) rfl rfl rfl rfl hl.1 rfl (Nat.le_of_ble_eq_true rfl) ⟨Nat.le_of_ble_eq_true rfl, Nat.le_of_ble_eq_true rfl⟩ ⟨rfl, rfl⟩ ⟨Nat.le_refl _, Nat.le_refl _⟩ dX8_readShare_144 (fun H locs hP1 hk1 hS => ?_)
                have hP : va_P D vwCl (cs_X8 kA a V_20) H := hP1
                have hf := Option.some.inj hf
                simp only [Prod.mk.injEq] at hf
                exact hret (Int32.ofInt (bI r_19)) _ _ _ _ (zb01 _) (congrArg (fun z => some (vI (bI z))) hf.1.symm) (by rw [← hf.2]; exact hP) hS dX8_readShare_147
            · have hf := it_f hf hc
              exact J123 _ _ _ _ hf hP hS (lv_sub hl [0] rfl)
        · have hf := it_t hf hc
          refine lv_aload_n hC.1 hC.2.1 dX8_readShare_81 rfl (lv_at hl 0 rfl) <| ziconst hC.1 hC.2.1 dX8_readShare_82 <| ?_
          obtain ⟨⟨r_21, V_22⟩, hu, hf⟩ := bd_some hf
          have hDc := hDt
          refine zcVZ (As := [vI 3]) (rest := []) hC hK (met_X8_failsAt l D kA a V 3 hDc hu) zwX8_168 hS (zFsub (hD V) [0, 1, 2, 3, 4, 5, 6, 7, 8, 9, 10, 11, 12, 13, 14, 15, 16] rfl) hP (q0 := 0) rfl rfl rfl rfl hl.1 rfl (Nat.le_of_ble_eq_true rfl) ⟨Nat.le_of_ble_eq_true rfl, Nat.le_of_ble_eq_true rfl⟩ ⟨rfl, rfl⟩ ⟨Nat.le_refl _, Nat.le_refl _⟩ dX8_readShare_83 (fun H locs hP1 hk1 hS => ?_)
          have hP : va_P D vwCl (cs_X8 kA a V_22) H := hP1
          have hf := Option.some.inj hf
          simp only [Prod.mk.injEq] at hf
          exact hret (Int32.ofInt (bI r_21)) _ _ _ _ (zb01 _) (congrArg (fun z => some (vI (bI z))) hf.1.symm) (by rw [← hf.2]; exact hP) hS dX8_readShare_86
      · have hf := it_f hf hc
        refine ziload hC.1 hC.2.1 dX8_readShare_39 (lv_at hl 4 rfl) <| ?_
        obtain ⟨hz_23, hf⟩ := ck_some hf
        refine zif_eq (tgt := 67) hC.1 hC.2.1 hz_23 dX8_readShare_41 (by decide) (fun hc => ?_) (fun hc => ?_)
        · have hf := it_t hf hc
          exact J67 _ _ _ _ _ _ hf hP hS (lv_sub hl [0, 1, 2, 3, 5] rfl)
        · have hf := it_f hf hc
          refine lv_aload_n hC.1 hC.2.1 dX8_readShare_44 rfl (lv_at hl 0 rfl) <| gfX8_7 hC hK hP (q0 := 0) rfl rfl dX8_readShare_45 <| zsipush hC.1 hC.2.1 dX8_readShare_48 (by decide) <| ziload_n hC.1 hC.2.1 dX8_readShare_51 rfl (lv_at hl 1 rfl) <| ziload hC.1 hC.2.1 dX8_readShare_52 (lv_at hl 5 rfl) <| ?_
          obtain ⟨r_25, hu, hf⟩ := bd_some hf
          have hPc : va_P D vwCl ([] : va_W) _ := hP.sub [] rfl
          refine zcSP (As := [vI x1, vI y5]) (rest := [vI 413, .ref (a 1)]) hC hK (met_X8_partOf l D kA x1 y5 hu) zwX8_103 hPc rfl hl.1 rfl (Nat.le_of_ble_eq_true rfl) ⟨Nat.le_of_ble_eq_true rfl, Nat.le_of_ble_eq_true rfl⟩ ⟨rfl, rfl⟩ ⟨Nat.le_refl _, Nat.le_refl _⟩ dX8_readShare_54 <| ziadd hC.1 hC.2.1 dX8_readShare_57 <| ?_
          obtain ⟨hz_26, hf⟩ := ck_some hf
          refine jal hC hK hP (q0 := 1) rfl (Nat.le_of_ble_eq_true rfl) hz_26 rfl dX8_readShare_58 <| ziload_n hC.1 hC.2.1 dX8_readShare_59 rfl (lv_at hl 3 rfl) <| ?_
          obtain ⟨hz_27, hf⟩ := ck_some hf
          refine zicmp_eq (tgt := 67) hC.1 hC.2.1 ⟨hz_27.1, hz_27.2⟩ dX8_readShare_60 (by decide) (fun hc => ?_) (fun hc => ?_)
          · have hf := it_t hf hc
            exact J67 _ _ _ _ _ _ hf hP hS (lv_sub hl [0, 1, 2, 3, 5] rfl)
          · have hf := it_f hf hc
            exact ziconst hC.1 hC.2.1 dX8_readShare_63 <| lv_goto (tgt := 68) hC.1 hC.2.1 dX8_readShare_64 (by decide) <| J68 _ _ _ _ _ _ _ hf hP hS (lv_sub hl [0, 1, 2, 3, 5] rfl)
  have J28 : ∀ (y3 : Int) (V : Sz) (z0 : Int) (H : Heap) (locs : List Loc) (ls : Array Slot), jX8_readShare_28 n x1 x2 y3 V z0 = some (r, Vr) → va_P D vwCl (cs_X8 kA a V) H → va_S A0 s.heap H locs → lv_has ls 6 [(0, .ref (a 0)), (1, vI x1), (2, vI x2), (3, vI y3)] → W p l e rmX8_readShare s m args below meth c H locs 0 0 Q (F0 m 28 ls [vI z0]) := by
    intro y3 V z0 H locs ls hf hP hS hl
    unfold jX8_readShare_28 at hf
    refine zistore (lv' := [(4, vI z0), (0, .ref (a 0)), (1, vI x1), (2, vI x2), (3, vI y3)]) hC.1 hC.2.1 dX8_readShare_28 hl (by decide) rfl (fun ls hl => ?_)
    refine ziconst hC.1 hC.2.1 dX8_readShare_30 <| zistore (lv' := [(5, vI 0), (4, vI z0), (0, .ref (a 0)), (1, vI x1), (2, vI x2), (3, vI y3)]) hC.1 hC.2.1 dX8_readShare_31 hl (by decide) rfl (fun ls hl => ?_)
    exact L33 n _ _ _ _ _ _ _ hf hP hS (lv_sub hl [2, 3, 4, 5, 1, 0] rfl)
  refine lv_aload_n hC.1 hC.2.1 dX8_readShare_0 rfl (lv_at hl 0 rfl) <| ?_
  obtain ⟨r_1, hu, hf⟩ := bd_some hf
  refine zcVPs (As := []) (rest := []) hC hK hZ (met_X8_isName l D kA a adK adV n V0 hu) zwX8_201 hS (zFsub (hD V0) [0, 1, 2, 3, 4, 5, 6, 7, 8, 9, 10, 11, 12, 13, 14, 15, 16] rfl) hP (q0 := 0) rfl rfl rfl rfl hl.1 rfl (Nat.le_of_ble_eq_true rfl) ⟨Nat.le_of_ble_eq_true rfl, Nat.le_of_ble_eq_true rfl⟩ ⟨rfl, rfl⟩ ⟨Nat.le_refl _, Nat.le_refl _⟩ dX8_readShare_1 <| zifb_ne (tgt := 13) hC.1 hC.2.1 dX8_readShare_4 (by decide) (fun hc => ?_) (fun hc => ?_)
  · have hf := it_t hf hc
    refine lv_aload_n hC.1 hC.2.1 dX8_readShare_13 rfl (lv_at hl 0 rfl) <| ?_
    obtain ⟨r_2, hu, hf⟩ := bd_some hf
    refine zcVP (As := []) (rest := []) hC hK (met_X8_find l D kA a n V0 hu) zwX8_204 hP (q0 := 0) rfl rfl rfl rfl hl.1 rfl (Nat.le_of_ble_eq_true rfl) ⟨Nat.le_of_ble_eq_true rfl, Nat.le_of_ble_eq_true rfl⟩ ⟨rfl, rfl⟩ ⟨Nat.le_refl _, Nat.le_refl _⟩ dX8_readShare_14 <| zistore_n (lv' := [(3, vI r_2), (0, .ref (a 0)), (1, vI x1), (2, vI x2)]) hC.1 hC.2.1 dX8_readShare_17 rfl hl (by decide) rfl (fun ls hl => ?_)
    refine ziload_n hC.1 hC.2.1 dX8_readShare_18 rfl (lv_at hl 0 rfl) <| ziconst hC.1 hC.2.1 dX8_readShare_19 <| ?_
    obtain ⟨hz_3, hf⟩ := ck_some hf
    refine zicmp_eq (tgt := 27) hC.1 hC.2.1 ⟨hz_3, (by decide)⟩ dX8_readShare_20 (by decide) (fun hc => ?_) (fun hc => ?_)
    · have hf := it_t hf hc
      exact ziconst hC.1 hC.2.1 dX8_readShare_27 <| J28 _ _ _ _ _ _ hf hP hS (lv_sub hl [1, 2, 3, 0] rfl)
    · have hf := it_f hf hc
      exact ziconst hC.1 hC.2.1 dX8_readShare_23 <| lv_goto (tgt := 28) hC.1 hC.2.1 dX8_readShare_24 (by decide) <| J28 _ _ _ _ _ _ hf hP hS (lv_sub hl [1, 2, 3, 0] rfl)
  · have hf := it_f hf hc
    refine lv_aload_n hC.1 hC.2.1 dX8_readShare_7 rfl (lv_at hl 0 rfl) <| ziconst hC.1 hC.2.1 dX8_readShare_8 <| ?_
    obtain ⟨⟨r_28, V_29⟩, hu, hf⟩ := bd_some hf
    have hDc := hDt
    refine zcVZ (As := [vI 1]) (rest := []) hC hK (met_X8_failsAt l D kA a V0 1 hDc hu) zwX8_168 hS (zFsub (hD V0) [0, 1, 2, 3, 4, 5, 6, 7, 8, 9, 10, 11, 12, 13, 14, 15, 16] rfl) hP (q0 := 0) rfl rfl rfl rfl hl.1 rfl (Nat.le_of_ble_eq_true rfl) ⟨Nat.le_of_ble_eq_true rfl, Nat.le_of_ble_eq_true rfl⟩ ⟨rfl, rfl⟩ ⟨Nat.le_refl _, Nat.le_refl _⟩ dX8_readShare_9 (fun H locs hP1 hk1 hS => ?_)
    have hP : va_P D vwCl (cs_X8 kA a V_29) H := hP1
    have hf := Option.some.inj hf
    simp only [Prod.mk.injEq] at hf
    exact hret (Int32.ofInt (bI r_28)) _ _ _ _ (zb01 _) (congrArg (fun z => some (vI (bI z))) hf.1.symm) (by rw [← hf.2]; exact hP) hS dX8_readShare_12
theorem DX8_readSplit_0 : ∀ q ∈ ([(0, .aload_n 0, 1), (1, .getfield 7, 3), (4, .iconst 2, 1), (5, .iaload, 1), (6, .istore_n 1, 1), (7, .aload_n 0, 1), (8, .invokevirtual 217, 3), (11, .ifCond .eq 21, 3), (14, .aload_n 0, 1), (15, .iload_n 1, 1), (16, .iconst 0, 1), (17, .invokevirtual 224, 3), (20, .ifCond .eq 12, 3), (23, .aload_n 0, 1), (24, .iload_n 1, 1), (25, .iconst 1, 1), (26, .invokevirtual 224, 3), (29, .ifCond .ne 5, 3), (32, .iconst 0, 1), (33, .ireturn, 1), (34, .aload_n 0, 1), (35, .getfield 146, 3), (38, .iconst 1, 1), (39, .if_icmp .ne 7, 3), (42, .iconst 1, 1), (43, .goto 4, 3), (46, .iconst 0, 1), (47, .istore_n 2, 1), (48, .iload_n 2, 1), (49, .ifCond .eq 14, 3), (52, .aload_n 0, 1), (53, .iload_n 1, 1), (54, .iconst 2, 1), (55, .invokevirtual 224, 3), (58, .ifCond .ne 5, 3), (61, .iconst 0, 1), (62, .ireturn, 1), (63, .aload_n 0, 1), (64, .iload_n 1, 1), (65, .iload_n 2, 1)] : List (Nat × Instr × Nat)), decode cX8_readSplit q.1 = .ok q.2 := by decide +kernel
theorem dX8_readSplit_0 : decode cX8_readSplit 0 = .ok (.aload_n 0, 1) := DX8_readSplit_0 (0, .aload_n 0, 1) (List.mem_of_getElem? (i := 0) rfl)
theorem dX8_readSplit_1 : decode cX8_readSplit 1 = .ok (.getfield 7, 3) := DX8_readSplit_0 (1, .getfield 7, 3) (List.mem_of_getElem? (i := 1) rfl)
theorem dX8_readSplit_4 : decode cX8_readSplit 4 = .ok (.iconst 2, 1) := DX8_readSplit_0 (4, .iconst 2, 1) (List.mem_of_getElem? (i := 2) rfl)
theorem dX8_readSplit_5 : decode cX8_readSplit 5 = .ok (.iaload, 1) := DX8_readSplit_0 (5, .iaload, 1) (List.mem_of_getElem? (i := 3) rfl)
theorem dX8_readSplit_6 : decode cX8_readSplit 6 = .ok (.istore_n 1, 1) := DX8_readSplit_0 (6, .istore_n 1, 1) (List.mem_of_getElem? (i := 4) rfl)
theorem dX8_readSplit_7 : decode cX8_readSplit 7 = .ok (.aload_n 0, 1) := DX8_readSplit_0 (7, .aload_n 0, 1) (List.mem_of_getElem? (i := 5) rfl)
theorem dX8_readSplit_8 : decode cX8_readSplit 8 = .ok (.invokevirtual 217, 3) := DX8_readSplit_0 (8, .invokevirtual 217, 3) (List.mem_of_getElem? (i := 6) rfl)
theorem dX8_readSplit_11 : decode cX8_readSplit 11 = .ok (.ifCond .eq 21, 3) := DX8_readSplit_0 (11, .ifCond .eq 21, 3) (List.mem_of_getElem? (i := 7) rfl)
theorem dX8_readSplit_14 : decode cX8_readSplit 14 = .ok (.aload_n 0, 1) := DX8_readSplit_0 (14, .aload_n 0, 1) (List.mem_of_getElem? (i := 8) rfl)
theorem dX8_readSplit_15 : decode cX8_readSplit 15 = .ok (.iload_n 1, 1) := DX8_readSplit_0 (15, .iload_n 1, 1) (List.mem_of_getElem? (i := 9) rfl)
theorem dX8_readSplit_16 : decode cX8_readSplit 16 = .ok (.iconst 0, 1) := DX8_readSplit_0 (16, .iconst 0, 1) (List.mem_of_getElem? (i := 10) rfl)
theorem dX8_readSplit_17 : decode cX8_readSplit 17 = .ok (.invokevirtual 224, 3) := DX8_readSplit_0 (17, .invokevirtual 224, 3) (List.mem_of_getElem? (i := 11) rfl)
theorem dX8_readSplit_20 : decode cX8_readSplit 20 = .ok (.ifCond .eq 12, 3) := DX8_readSplit_0 (20, .ifCond .eq 12, 3) (List.mem_of_getElem? (i := 12) rfl)
theorem dX8_readSplit_23 : decode cX8_readSplit 23 = .ok (.aload_n 0, 1) := DX8_readSplit_0 (23, .aload_n 0, 1) (List.mem_of_getElem? (i := 13) rfl)
theorem dX8_readSplit_24 : decode cX8_readSplit 24 = .ok (.iload_n 1, 1) := DX8_readSplit_0 (24, .iload_n 1, 1) (List.mem_of_getElem? (i := 14) rfl)
theorem dX8_readSplit_25 : decode cX8_readSplit 25 = .ok (.iconst 1, 1) := DX8_readSplit_0 (25, .iconst 1, 1) (List.mem_of_getElem? (i := 15) rfl)
theorem dX8_readSplit_26 : decode cX8_readSplit 26 = .ok (.invokevirtual 224, 3) := DX8_readSplit_0 (26, .invokevirtual 224, 3) (List.mem_of_getElem? (i := 16) rfl)
theorem dX8_readSplit_29 : decode cX8_readSplit 29 = .ok (.ifCond .ne 5, 3) := DX8_readSplit_0 (29, .ifCond .ne 5, 3) (List.mem_of_getElem? (i := 17) rfl)
theorem dX8_readSplit_32 : decode cX8_readSplit 32 = .ok (.iconst 0, 1) := DX8_readSplit_0 (32, .iconst 0, 1) (List.mem_of_getElem? (i := 18) rfl)
theorem dX8_readSplit_33 : decode cX8_readSplit 33 = .ok (.ireturn, 1) := DX8_readSplit_0 (33, .ireturn, 1) (List.mem_of_getElem? (i := 19) rfl)
theorem dX8_readSplit_34 : decode cX8_readSplit 34 = .ok (.aload_n 0, 1) := DX8_readSplit_0 (34, .aload_n 0, 1) (List.mem_of_getElem? (i := 20) rfl)
theorem dX8_readSplit_35 : decode cX8_readSplit 35 = .ok (.getfield 146, 3) := DX8_readSplit_0 (35, .getfield 146, 3) (List.mem_of_getElem? (i := 21) rfl)
theorem dX8_readSplit_38 : decode cX8_readSplit 38 = .ok (.iconst 1, 1) := DX8_readSplit_0 (38, .iconst 1, 1) (List.mem_of_getElem? (i := 22) rfl)
theorem dX8_readSplit_39 : decode cX8_readSplit 39 = .ok (.if_icmp .ne 7, 3) := DX8_readSplit_0 (39, .if_icmp .ne 7, 3) (List.mem_of_getElem? (i := 23) rfl)
theorem dX8_readSplit_42 : decode cX8_readSplit 42 = .ok (.iconst 1, 1) := DX8_readSplit_0 (42, .iconst 1, 1) (List.mem_of_getElem? (i := 24) rfl)
theorem dX8_readSplit_43 : decode cX8_readSplit 43 = .ok (.goto 4, 3) := DX8_readSplit_0 (43, .goto 4, 3) (List.mem_of_getElem? (i := 25) rfl)
theorem dX8_readSplit_46 : decode cX8_readSplit 46 = .ok (.iconst 0, 1) := DX8_readSplit_0 (46, .iconst 0, 1) (List.mem_of_getElem? (i := 26) rfl)
theorem dX8_readSplit_47 : decode cX8_readSplit 47 = .ok (.istore_n 2, 1) := DX8_readSplit_0 (47, .istore_n 2, 1) (List.mem_of_getElem? (i := 27) rfl)
theorem dX8_readSplit_48 : decode cX8_readSplit 48 = .ok (.iload_n 2, 1) := DX8_readSplit_0 (48, .iload_n 2, 1) (List.mem_of_getElem? (i := 28) rfl)
theorem dX8_readSplit_49 : decode cX8_readSplit 49 = .ok (.ifCond .eq 14, 3) := DX8_readSplit_0 (49, .ifCond .eq 14, 3) (List.mem_of_getElem? (i := 29) rfl)
theorem dX8_readSplit_52 : decode cX8_readSplit 52 = .ok (.aload_n 0, 1) := DX8_readSplit_0 (52, .aload_n 0, 1) (List.mem_of_getElem? (i := 30) rfl)
theorem dX8_readSplit_53 : decode cX8_readSplit 53 = .ok (.iload_n 1, 1) := DX8_readSplit_0 (53, .iload_n 1, 1) (List.mem_of_getElem? (i := 31) rfl)
theorem dX8_readSplit_54 : decode cX8_readSplit 54 = .ok (.iconst 2, 1) := DX8_readSplit_0 (54, .iconst 2, 1) (List.mem_of_getElem? (i := 32) rfl)
theorem dX8_readSplit_55 : decode cX8_readSplit 55 = .ok (.invokevirtual 224, 3) := DX8_readSplit_0 (55, .invokevirtual 224, 3) (List.mem_of_getElem? (i := 33) rfl)
theorem dX8_readSplit_58 : decode cX8_readSplit 58 = .ok (.ifCond .ne 5, 3) := DX8_readSplit_0 (58, .ifCond .ne 5, 3) (List.mem_of_getElem? (i := 34) rfl)
theorem dX8_readSplit_61 : decode cX8_readSplit 61 = .ok (.iconst 0, 1) := DX8_readSplit_0 (61, .iconst 0, 1) (List.mem_of_getElem? (i := 35) rfl)
theorem dX8_readSplit_62 : decode cX8_readSplit 62 = .ok (.ireturn, 1) := DX8_readSplit_0 (62, .ireturn, 1) (List.mem_of_getElem? (i := 36) rfl)
theorem dX8_readSplit_63 : decode cX8_readSplit 63 = .ok (.aload_n 0, 1) := DX8_readSplit_0 (63, .aload_n 0, 1) (List.mem_of_getElem? (i := 37) rfl)
theorem dX8_readSplit_64 : decode cX8_readSplit 64 = .ok (.iload_n 1, 1) := DX8_readSplit_0 (64, .iload_n 1, 1) (List.mem_of_getElem? (i := 38) rfl)
theorem dX8_readSplit_65 : decode cX8_readSplit 65 = .ok (.iload_n 2, 1) := DX8_readSplit_0 (65, .iload_n 2, 1) (List.mem_of_getElem? (i := 39) rfl)
theorem DX8_readSplit_1 : ∀ q ∈ ([(66, .ifCond .eq 7, 3), (69, .iconst 3, 1), (70, .goto 4, 3), (73, .iconst 2, 1), (74, .aload_n 0, 1), (75, .getfield 50, 3), (78, .iconst 0, 1), (79, .iaload, 1), (80, .aload_n 0, 1), (81, .getfield 50, 3), (84, .iconst 1, 1), (85, .iaload, 1), (86, .iload_n 2, 1), (87, .ifCond .eq 12, 3), (90, .aload_n 0, 1), (91, .getfield 50, 3), (94, .iconst 2, 1), (95, .iaload, 1), (96, .goto 4, 3), (99, .iconst 0, 1), (100, .invokevirtual 220, 3), (103, .aload_n 0, 1), (104, .getfield 7, 3), (107, .iconst 2, 1), (108, .dup2, 1), (109, .iaload, 1), (110, .iconst 1, 1), (111, .iadd, 1), (112, .iastore, 1), (113, .iconst 1, 1), (114, .ireturn, 1)] : List (Nat × Instr × Nat)), decode cX8_readSplit q.1 = .ok q.2 := by decide +kernel
theorem dX8_readSplit_66 : decode cX8_readSplit 66 = .ok (.ifCond .eq 7, 3) := DX8_readSplit_1 (66, .ifCond .eq 7, 3) (List.mem_of_getElem? (i := 0) rfl)
theorem dX8_readSplit_69 : decode cX8_readSplit 69 = .ok (.iconst 3, 1) := DX8_readSplit_1 (69, .iconst 3, 1) (List.mem_of_getElem? (i := 1) rfl)
theorem dX8_readSplit_70 : decode cX8_readSplit 70 = .ok (.goto 4, 3) := DX8_readSplit_1 (70, .goto 4, 3) (List.mem_of_getElem? (i := 2) rfl)
theorem dX8_readSplit_73 : decode cX8_readSplit 73 = .ok (.iconst 2, 1) := DX8_readSplit_1 (73, .iconst 2, 1) (List.mem_of_getElem? (i := 3) rfl)
theorem dX8_readSplit_74 : decode cX8_readSplit 74 = .ok (.aload_n 0, 1) := DX8_readSplit_1 (74, .aload_n 0, 1) (List.mem_of_getElem? (i := 4) rfl)
theorem dX8_readSplit_75 : decode cX8_readSplit 75 = .ok (.getfield 50, 3) := DX8_readSplit_1 (75, .getfield 50, 3) (List.mem_of_getElem? (i := 5) rfl)
theorem dX8_readSplit_78 : decode cX8_readSplit 78 = .ok (.iconst 0, 1) := DX8_readSplit_1 (78, .iconst 0, 1) (List.mem_of_getElem? (i := 6) rfl)
theorem dX8_readSplit_79 : decode cX8_readSplit 79 = .ok (.iaload, 1) := DX8_readSplit_1 (79, .iaload, 1) (List.mem_of_getElem? (i := 7) rfl)
theorem dX8_readSplit_80 : decode cX8_readSplit 80 = .ok (.aload_n 0, 1) := DX8_readSplit_1 (80, .aload_n 0, 1) (List.mem_of_getElem? (i := 8) rfl)
theorem dX8_readSplit_81 : decode cX8_readSplit 81 = .ok (.getfield 50, 3) := DX8_readSplit_1 (81, .getfield 50, 3) (List.mem_of_getElem? (i := 9) rfl)
theorem dX8_readSplit_84 : decode cX8_readSplit 84 = .ok (.iconst 1, 1) := DX8_readSplit_1 (84, .iconst 1, 1) (List.mem_of_getElem? (i := 10) rfl)
theorem dX8_readSplit_85 : decode cX8_readSplit 85 = .ok (.iaload, 1) := DX8_readSplit_1 (85, .iaload, 1) (List.mem_of_getElem? (i := 11) rfl)
theorem dX8_readSplit_86 : decode cX8_readSplit 86 = .ok (.iload_n 2, 1) := DX8_readSplit_1 (86, .iload_n 2, 1) (List.mem_of_getElem? (i := 12) rfl)
theorem dX8_readSplit_87 : decode cX8_readSplit 87 = .ok (.ifCond .eq 12, 3) := DX8_readSplit_1 (87, .ifCond .eq 12, 3) (List.mem_of_getElem? (i := 13) rfl)
theorem dX8_readSplit_90 : decode cX8_readSplit 90 = .ok (.aload_n 0, 1) := DX8_readSplit_1 (90, .aload_n 0, 1) (List.mem_of_getElem? (i := 14) rfl)
theorem dX8_readSplit_91 : decode cX8_readSplit 91 = .ok (.getfield 50, 3) := DX8_readSplit_1 (91, .getfield 50, 3) (List.mem_of_getElem? (i := 15) rfl)
theorem dX8_readSplit_94 : decode cX8_readSplit 94 = .ok (.iconst 2, 1) := DX8_readSplit_1 (94, .iconst 2, 1) (List.mem_of_getElem? (i := 16) rfl)
theorem dX8_readSplit_95 : decode cX8_readSplit 95 = .ok (.iaload, 1) := DX8_readSplit_1 (95, .iaload, 1) (List.mem_of_getElem? (i := 17) rfl)
theorem dX8_readSplit_96 : decode cX8_readSplit 96 = .ok (.goto 4, 3) := DX8_readSplit_1 (96, .goto 4, 3) (List.mem_of_getElem? (i := 18) rfl)
theorem dX8_readSplit_99 : decode cX8_readSplit 99 = .ok (.iconst 0, 1) := DX8_readSplit_1 (99, .iconst 0, 1) (List.mem_of_getElem? (i := 19) rfl)
theorem dX8_readSplit_100 : decode cX8_readSplit 100 = .ok (.invokevirtual 220, 3) := DX8_readSplit_1 (100, .invokevirtual 220, 3) (List.mem_of_getElem? (i := 20) rfl)
theorem dX8_readSplit_103 : decode cX8_readSplit 103 = .ok (.aload_n 0, 1) := DX8_readSplit_1 (103, .aload_n 0, 1) (List.mem_of_getElem? (i := 21) rfl)
theorem dX8_readSplit_104 : decode cX8_readSplit 104 = .ok (.getfield 7, 3) := DX8_readSplit_1 (104, .getfield 7, 3) (List.mem_of_getElem? (i := 22) rfl)
theorem dX8_readSplit_107 : decode cX8_readSplit 107 = .ok (.iconst 2, 1) := DX8_readSplit_1 (107, .iconst 2, 1) (List.mem_of_getElem? (i := 23) rfl)
theorem dX8_readSplit_108 : decode cX8_readSplit 108 = .ok (.dup2, 1) := DX8_readSplit_1 (108, .dup2, 1) (List.mem_of_getElem? (i := 24) rfl)
theorem dX8_readSplit_109 : decode cX8_readSplit 109 = .ok (.iaload, 1) := DX8_readSplit_1 (109, .iaload, 1) (List.mem_of_getElem? (i := 25) rfl)
theorem dX8_readSplit_110 : decode cX8_readSplit 110 = .ok (.iconst 1, 1) := DX8_readSplit_1 (110, .iconst 1, 1) (List.mem_of_getElem? (i := 26) rfl)
theorem dX8_readSplit_111 : decode cX8_readSplit 111 = .ok (.iadd, 1) := DX8_readSplit_1 (111, .iadd, 1) (List.mem_of_getElem? (i := 27) rfl)
theorem dX8_readSplit_112 : decode cX8_readSplit 112 = .ok (.iastore, 1) := DX8_readSplit_1 (112, .iastore, 1) (List.mem_of_getElem? (i := 28) rfl)
theorem dX8_readSplit_113 : decode cX8_readSplit 113 = .ok (.iconst 1, 1) := DX8_readSplit_1 (113, .iconst 1, 1) (List.mem_of_getElem? (i := 29) rfl)
theorem dX8_readSplit_114 : decode cX8_readSplit 114 = .ok (.ireturn, 1) := DX8_readSplit_1 (114, .ireturn, 1) (List.mem_of_getElem? (i := 30) rfl)
abbrev rmX8_readSplit : Room := { frames := 9, cells := 0, slots := 0, locals := 417 }
set_option maxHeartbeats 400000 in
set_option maxRecDepth 100000 in
theorem met_X8_readSplit (l : Launch) (D : va_G) (kA : Nat → ClassId) (a : Nat → Nat) (adK adV : Nat → Nat) (n : Nat) (V0 : Sz) (hDt : ∀ w : Sz, va_D (fun _ => True) (cs_X8 kA a w)) {r : Bool} {Vr : Sz} (hf : f_X8_readSplit n V0 = some (r, Vr)) : MZs l yX8_readSplit cX8_readSplit 3 (some .boolean) rmX8_readSplit D kA adK adV [.ref (a 0)] (cs_X8 kA a V0) (cs_X8 kA a Vr) (some (vI (bI r))) := by
  refine zZZs (own := RX8) rfl rfl (Nat.le_of_ble_eq_true rfl) ?_
  intro p e s m args below meth c ls Q hC hK hZ hP hl hret
  have hl : lv_has ls 3 [(0, .ref (a 0))] := hl
  have hS : va_S (zF (cs_X8 kA a V0)) s.heap s.heap [] := va_S.rf
  have hD := zDself (C := fun w : Sz => (cs_X8 kA a w)) hDt V0 (fun _ => rfl)
  try dsimp only at hD
  generalize hAe : zF (cs_X8 kA a V0) = A0 at hS hD hret hZ
  unfold f_X8_readSplit at hf
  have J100 : ∀ (V : Sz) (z0 : Int) (z1 : Int) (z2 : Int) (z3 : Int) (z4 : Int) (H : Heap) (locs : List Loc) (ls : Array Slot), jX8_readSplit_100 n V z0 z1 z2 z3 z4 = some (r, Vr) → va_P D vwCl (cs_X8 kA a V) H → va_S A0 s.heap H locs → lv_has ls 3 [(0, .ref (a 0))] → W p l e rmX8_readSplit s m args below meth c H locs 0 0 Q (F0 m 100 ls [vI z0, vI z1, vI z2, vI z3, vI z4, .ref (a 0)]) := by
    intro V z0 z1 z2 z3 z4 H locs ls hf hP hS hl
    unfold jX8_readSplit_100 at hf
    obtain ⟨V_12, hu, hf⟩ := bd_some hf
    have hDc := hDt
    refine zcVZ (As := [vI z4, vI z3, vI z2, vI z1, vI z0]) (rest := []) hC hK (met_X8_shares l D kA a n V z4 z3 z2 z1 z0 hDc hu) zwX8_220 hS (zFsub (hD V) [0, 1, 2, 3, 4, 5, 6, 7, 8, 9, 10, 11, 12, 13, 14, 15, 16] rfl) hP (q0 := 0) rfl rfl rfl rfl hl.1 rfl (Nat.le_of_ble_eq_true rfl) ⟨Nat.le_of_ble_eq_true rfl, Nat.le_of_ble_eq_true rfl⟩ ⟨rfl, rfl⟩ ⟨Nat.le_refl _, Nat.le_refl _⟩ dX8_readSplit_100 (fun H locs hP1 hk1 hS => ?_)
    have hP : va_P D vwCl (cs_X8 kA a V_12) H := hP1
    refine lv_aload_n hC.1 hC.2.1 dX8_readSplit_103 rfl (lv_at hl 0 rfl) <| gfX8_7 hC hK hP (q0 := 0) rfl rfl dX8_readSplit_104 <| ziconst hC.1 hC.2.1 dX8_readSplit_107 <| lv_dup2_11 hC.1 hC.2.1 dX8_readSplit_108 rfl rfl <| jal hC hK hP (q0 := 1) rfl (Nat.le_of_ble_eq_true rfl) (by decide) rfl dX8_readSplit_109 <| ziconst hC.1 hC.2.1 dX8_readSplit_110 <| ziadd hC.1 hC.2.1 dX8_readSplit_111 <| ?_
    refine jas hC hK hP (hD V_12) hS (q0 := 1) rfl (Nat.le_of_ble_eq_true rfl) (by decide) rfl dX8_readSplit_112 (fun H locs hP hS => ?_)
    obtain ⟨V_13, eV_13⟩ : ∃ y, y = uz V_12 0 2 ((V_12 0 2) + 1) := ⟨_, rfl⟩
    have hf := nm_at hf eV_13
    have hP : va_P D vwCl (cs_X8 kA a V_13) H := by rw [eV_13]; exact hP
    refine ziconst hC.1 hC.2.1 dX8_readSplit_113 <| ?_
    have hf := Option.some.inj hf
    simp only [Prod.mk.injEq] at hf
    exact hret (Int32.ofInt (bI true)) _ _ _ _ (zb01 _) (congrArg (fun z => some (vI (bI z))) hf.1.symm) (by rw [← hf.2]; exact hP) hS dX8_readSplit_114
  have J74 : ∀ (y2 : Int) (V : Sz) (z0 : Int) (z1 : Int) (H : Heap) (locs : List Loc) (ls : Array Slot), jX8_readSplit_74 n y2 V z0 z1 = some (r, Vr) → va_P D vwCl (cs_X8 kA a V) H → va_S A0 s.heap H locs → lv_has ls 3 [(0, .ref (a 0)), (2, vI y2)] → W p l e rmX8_readSplit s m args below meth c H locs 0 0 Q (F0 m 74 ls [vI z0, vI z1, .ref (a 0)]) := by
    intro y2 V z0 z1 H locs ls hf hP hS hl
    unfold jX8_readSplit_74 at hf
    refine lv_aload_n hC.1 hC.2.1 dX8_readSplit_74 rfl (lv_at hl 0 rfl) <| gfX8_50 hC hK hP (q0 := 0) rfl rfl dX8_readSplit_75 <| ziconst hC.1 hC.2.1 dX8_readSplit_78 <| jal hC hK hP (q0 := 13) rfl (Nat.le_of_ble_eq_true rfl) (by decide) rfl dX8_readSplit_79 <| lv_aload_n hC.1 hC.2.1 dX8_readSplit_80 rfl (lv_at hl 0 rfl) <| gfX8_50 hC hK hP (q0 := 0) rfl rfl dX8_readSplit_81 <| ziconst hC.1 hC.2.1 dX8_readSplit_84 <| jal hC hK hP (q0 := 13) rfl (Nat.le_of_ble_eq_true rfl) (by decide) rfl dX8_readSplit_85 <| ziload_n hC.1 hC.2.1 dX8_readSplit_86 rfl (lv_at hl 1 rfl) <| ?_
    obtain ⟨hz_11, hf⟩ := ck_some hf
    refine zif_eq (tgt := 99) hC.1 hC.2.1 hz_11 dX8_readSplit_87 (by decide) (fun hc => ?_) (fun hc => ?_)
    · have hf := it_t hf hc
      exact ziconst hC.1 hC.2.1 dX8_readSplit_99 <| J100 _ _ _ _ _ _ _ _ _ hf hP hS (lv_sub hl [0] rfl)
    · have hf := it_f hf hc
      exact lv_aload_n hC.1 hC.2.1 dX8_readSplit_90 rfl (lv_at hl 0 rfl) <| gfX8_50 hC hK hP (q0 := 0) rfl rfl dX8_readSplit_91 <| ziconst hC.1 hC.2.1 dX8_readSplit_94 <| jal hC hK hP (q0 := 13) rfl (Nat.le_of_ble_eq_true rfl) (by decide) rfl dX8_readSplit_95 <| lv_goto (tgt := 100) hC.1 hC.2.1 dX8_readSplit_96 (by decide) <| J100 _ _ _ _ _ _ _ _ _ hf hP hS (lv_sub hl [0] rfl)
  have J63 : ∀ (y1 : Int) (y2 : Int) (V : Sz) (H : Heap) (locs : List Loc) (ls : Array Slot), jX8_readSplit_63 n y1 y2 V = some (r, Vr) → va_P D vwCl (cs_X8 kA a V) H → va_S A0 s.heap H locs → lv_has ls 3 [(0, .ref (a 0)), (1, vI y1), (2, vI y2)] → W p l e rmX8_readSplit s m args below meth c H locs 0 0 Q (F0 m 63 ls []) := by
    intro y1 y2 V H locs ls hf hP hS hl
    unfold jX8_readSplit_63 at hf
    refine lv_aload_n hC.1 hC.2.1 dX8_readSplit_63 rfl (lv_at hl 0 rfl) <| ziload_n hC.1 hC.2.1 dX8_readSplit_64 rfl (lv_at hl 1 rfl) <| ziload_n hC.1 hC.2.1 dX8_readSplit_65 rfl (lv_at hl 2 rfl) <| ?_
    obtain ⟨hz_10, hf⟩ := ck_some hf
    refine zif_eq (tgt := 73) hC.1 hC.2.1 hz_10 dX8_readSplit_66 (by decide) (fun hc => ?_) (fun hc => ?_)
    · have hf := it_t hf hc
      exact ziconst hC.1 hC.2.1 dX8_readSplit_73 <| J74 _ _ _ _ _ _ _ hf hP hS (lv_sub hl [0, 2] rfl)
    · have hf := it_f hf hc
      exact ziconst hC.1 hC.2.1 dX8_readSplit_69 <| lv_goto (tgt := 74) hC.1 hC.2.1 dX8_readSplit_70 (by decide) <| J74 _ _ _ _ _ _ _ hf hP hS (lv_sub hl [0, 2] rfl)
  have J47 : ∀ (y1 : Int) (V : Sz) (z0 : Int) (H : Heap) (locs : List Loc) (ls : Array Slot), jX8_readSplit_47 n y1 V z0 = some (r, Vr) → va_P D vwCl (cs_X8 kA a V) H → va_S A0 s.heap H locs → lv_has ls 3 [(0, .ref (a 0)), (1, vI y1)] → W p l e rmX8_readSplit s m args below meth c H locs 0 0 Q (F0 m 47 ls [vI z0]) := by
    intro y1 V z0 H locs ls hf hP hS hl
    unfold jX8_readSplit_47 at hf
    refine zistore_n (lv' := [(2, vI z0), (0, .ref (a 0)), (1, vI y1)]) hC.1 hC.2.1 dX8_readSplit_47 rfl hl (by decide) rfl (fun ls hl => ?_)
    refine ziload_n hC.1 hC.2.1 dX8_readSplit_48 rfl (lv_at hl 0 rfl) <| ?_
    obtain ⟨hz_9, hf⟩ := ck_some hf
    refine zif_eq (tgt := 63) hC.1 hC.2.1 hz_9 dX8_readSplit_49 (by decide) (fun hc => ?_) (fun hc => ?_)
    · have hf := it_t hf hc
      exact J63 _ _ _ _ _ _ hf hP hS (lv_sub hl [1, 2, 0] rfl)
    · have hf := it_f hf hc
      refine lv_aload_n hC.1 hC.2.1 dX8_readSplit_52 rfl (lv_at hl 1 rfl) <| ziload_n hC.1 hC.2.1 dX8_readSplit_53 rfl (lv_at hl 2 rfl) <| ziconst hC.1 hC.2.1 dX8_readSplit_54 <| ?_
      obtain ⟨⟨r_14, V_15⟩, hu, hf⟩ := bd_some hf
      have hDc := hDt
      refine zcVZs (As := [vI y1, vI 2]) (rest := []) hC hK hZ (met_X8_readShare l D kA a adK adV n V y1 2 hDc hu) zwX8_224 hS (zFsub (hD V) [0, 1, 2, 3, 4, 5, 6, 7, 8, 9, 10, 11, 12, 13, 14, 15, 16] rfl) hP (q0 := 0) rfl rfl rfl rfl hl.1 rfl (Nat.le_of_ble_eq_true rfl) ⟨Nat.le_of_ble_eq_true rfl, Nat.le_of_ble_eq_true rfl⟩ ⟨rfl, rfl⟩ ⟨Nat.le_refl _, Nat.le_refl _⟩ dX8_readSplit_55 (fun H locs hP1 hk1 hS => ?_)
      have hP : va_P D vwCl (cs_X8 kA a V_15) H := hP1
      refine zifb_ne (tgt := 63) hC.1 hC.2.1 dX8_readSplit_58 (by decide) (fun hc => ?_) (fun hc => ?_)
      · have hf := it_t hf hc
        exact J63 _ _ _ _ _ _ hf hP hS (lv_sub hl [1, 2, 0] rfl)
      · have hf := it_f hf hc
        refine ziconst hC.1 hC.2.1 dX8_readSplit_61 <| ?_
        have hf := Option.some.inj hf
        simp only [Prod.mk.injEq] at hf
        exact hret (Int32.ofInt (bI false)) _ _ _ _ (zb01 _) (congrArg (fun z => some (vI (bI z))) hf.1.symm) (by rw [← hf.2]; exact hP) hS dX8_readSplit_62
  refine lv_aload_n hC.1 hC.2.1 dX8_readSplit_0 rfl (lv_at hl 0 rfl) <| gfX8_7 hC hK hP (q0 := 0) rfl rfl dX8_readSplit_1 <| ziconst hC.1 hC.2.1 dX8_readSplit_4 <| jal hC hK hP (q0 := 1) rfl (Nat.le_of_ble_eq_true rfl) (by decide) rfl dX8_readSplit_5 <| ?_
  refine ztopi (fun x_1 ex_1 => ?_)
  have hf := nm_at hf ex_1
  refine zistore_n (lv' := [(1, vI x_1), (0, .ref (a 0))]) hC.1 hC.2.1 dX8_readSplit_6 rfl hl (by decide) rfl (fun ls hl => ?_)
  refine lv_aload_n hC.1 hC.2.1 dX8_readSplit_7 rfl (lv_at hl 1 rfl) <| ?_
  obtain ⟨⟨r_2, V_3⟩, hu, hf⟩ := bd_some hf
  have hDc := hDt
  refine zcVZ (As := []) (rest := []) hC hK (met_X8_readMoney l D kA a n V0 hDc hu) zwX8_217 hS (zFsub (hD V0) [0, 1, 2, 3, 4, 5, 6, 7, 8, 9, 10, 11, 12, 13, 14, 15, 16] rfl) hP (q0 := 0) rfl rfl rfl rfl hl.1 rfl (Nat.le_of_ble_eq_true rfl) ⟨Nat.le_of_ble_eq_true rfl, Nat.le_of_ble_eq_true rfl⟩ ⟨rfl, rfl⟩ ⟨Nat.le_refl _, Nat.le_refl _⟩ dX8_readSplit_8 (fun H locs hP1 hk1 hS => ?_)
  have hP : va_P D vwCl (cs_X8 kA a V_3) H := hP1
  refine zifb_eq (tgt := 32) hC.1 hC.2.1 dX8_readSplit_11 (by decide) (fun hc => ?_) (fun hc => ?_)
  · have hf := it_t hf hc
    refine ziconst hC.1 hC.2.1 dX8_readSplit_32 <| ?_
    have hf := Option.some.inj hf
    simp only [Prod.mk.injEq] at hf
    exact hret (Int32.ofInt (bI false)) _ _ _ _ (zb01 _) (congrArg (fun z => some (vI (bI z))) hf.1.symm) (by rw [← hf.2]; exact hP) hS dX8_readSplit_33
  · have hf := it_f hf hc
    refine lv_aload_n hC.1 hC.2.1 dX8_readSplit_14 rfl (lv_at hl 1 rfl) <| ziload_n hC.1 hC.2.1 dX8_readSplit_15 rfl (lv_at hl 0 rfl) <| ziconst hC.1 hC.2.1 dX8_readSplit_16 <| ?_
    obtain ⟨⟨r_4, V_5⟩, hu, hf⟩ := bd_some hf
    have hDc := hDt
    refine zcVZs (As := [vI x_1, vI 0]) (rest := []) hC hK hZ (met_X8_readShare l D kA a adK adV n V_3 x_1 0 hDc hu) zwX8_224 hS (zFsub (hD V_3) [0, 1, 2, 3, 4, 5, 6, 7, 8, 9, 10, 11, 12, 13, 14, 15, 16] rfl) hP (q0 := 0) rfl rfl rfl rfl hl.1 rfl (Nat.le_of_ble_eq_true rfl) ⟨Nat.le_of_ble_eq_true rfl, Nat.le_of_ble_eq_true rfl⟩ ⟨rfl, rfl⟩ ⟨Nat.le_refl _, Nat.le_refl _⟩ dX8_readSplit_17 (fun H locs hP1 hk1 hS => ?_)
    have hP : va_P D vwCl (cs_X8 kA a V_5) H := hP1
    refine zifb_eq (tgt := 32) hC.1 hC.2.1 dX8_readSplit_20 (by decide) (fun hc => ?_) (fun hc => ?_)
    · have hf := it_t hf hc
      refine ziconst hC.1 hC.2.1 dX8_readSplit_32 <| ?_
      have hf := Option.some.inj hf
      simp only [Prod.mk.injEq] at hf
      exact hret (Int32.ofInt (bI false)) _ _ _ _ (zb01 _) (congrArg (fun z => some (vI (bI z))) hf.1.symm) (by rw [← hf.2]; exact hP) hS dX8_readSplit_33
    · have hf := it_f hf hc
      refine lv_aload_n hC.1 hC.2.1 dX8_readSplit_23 rfl (lv_at hl 1 rfl) <| ziload_n hC.1 hC.2.1 dX8_readSplit_24 rfl (lv_at hl 0 rfl) <| ziconst hC.1 hC.2.1 dX8_readSplit_25 <| ?_
      obtain ⟨⟨r_6, V_7⟩, hu, hf⟩ := bd_some hf
      have hDc := hDt
      refine zcVZs (As := [vI x_1, vI 1]) (rest := []) hC hK hZ (met_X8_readShare l D kA a adK adV n V_5 x_1 1 hDc hu) zwX8_224 hS (zFsub (hD V_5) [0, 1, 2, 3, 4, 5, 6, 7, 8, 9, 10, 11, 12, 13, 14, 15, 16] rfl) hP (q0 := 0) rfl rfl rfl rfl hl.1 rfl (Nat.le_of_ble_eq_true rfl) ⟨Nat.le_of_ble_eq_true rfl, Nat.le_of_ble_eq_true rfl⟩ ⟨rfl, rfl⟩ ⟨Nat.le_refl _, Nat.le_refl _⟩ dX8_readSplit_26 (fun H locs hP1 hk1 hS => ?_)
      have hP : va_P D vwCl (cs_X8 kA a V_7) H := hP1
      refine zifb_ne (tgt := 34) hC.1 hC.2.1 dX8_readSplit_29 (by decide) (fun hc => ?_) (fun hc => ?_)
      · have hf := it_t hf hc
        refine lv_aload_n hC.1 hC.2.1 dX8_readSplit_34 rfl (lv_at hl 1 rfl) <| gfX8_146 hC hK hP (q0 := 0) rfl rfl dX8_readSplit_35 <| ziconst hC.1 hC.2.1 dX8_readSplit_38 <| ?_
        obtain ⟨hz_8, hf⟩ := ck_some hf
        refine zicmp_ne (tgt := 46) hC.1 hC.2.1 ⟨hz_8, (by decide)⟩ dX8_readSplit_39 (by decide) (fun hc => ?_) (fun hc => ?_)
        · have hf := it_f hf hc
          exact ziconst hC.1 hC.2.1 dX8_readSplit_46 <| J47 _ _ _ _ _ _ hf hP hS (lv_sub hl [1, 0] rfl)
        · have hf := it_t hf hc
          exact ziconst hC.1 hC.2.1 dX8_readSplit_42 <| lv_goto (tgt := 47) hC.1 hC.2.1 dX8_readSplit_43 (by decide) <| J47 _ _ _ _ _ _ hf hP hS (lv_sub hl [1, 0] rfl)
      · have hf := it_f hf hc
        refine ziconst hC.1 hC.2.1 dX8_readSplit_32 <| ?_
        have hf := Option.some.inj hf
        simp only [Prod.mk.injEq] at hf
        exact hret (Int32.ofInt (bI false)) _ _ _ _ (zb01 _) (congrArg (fun z => some (vI (bI z))) hf.1.symm) (by rw [← hf.2]; exact hP) hS dX8_readSplit_33
theorem DX8_readStatement_0 : ∀ q ∈ ([(0, .aload_n 0, 1), (1, .ldc 174, 2), (3, .invokevirtual 176, 3), (6, .ifCond .eq 8, 3), (9, .aload_n 0, 1), (10, .invokevirtual 231, 3), (13, .ireturn, 1), (14, .aload_n 0, 1), (15, .ldc 180, 2), (17, .invokevirtual 176, 3), (20, .ifCond .eq 8, 3), (23, .aload_n 0, 1), (24, .invokevirtual 234, 3), (27, .ireturn, 1), (28, .aload_n 0, 1), (29, .ldc 182, 2), (31, .invokevirtual 176, 3), (34, .ifCond .eq 8, 3), (37, .aload_n 0, 1), (38, .invokevirtual 237, 3), (41, .ireturn, 1), (42, .aload_n 0, 1), (43, .ldc 184, 2), (45, .invokevirtual 176, 3), (48, .ifCond .eq 8, 3), (51, .aload_n 0, 1), (52, .invokevirtual 240, 3), (55, .ireturn, 1), (56, .aload_n 0, 1), (57, .ldc 186, 2), (59, .invokevirtual 176, 3), (62, .ifCond .eq 8, 3), (65, .aload_n 0, 1), (66, .invokevirtual 243, 3), (69, .ireturn, 1), (70, .aload_n 0, 1), (71, .ldc 188, 2), (73, .invokevirtual 176, 3), (76, .ifCond .eq 10, 3), (79, .aload_n 0, 1)] : List (Nat × Instr × Nat)), decode cX8_readStatement q.1 = .ok q.2 := by decide +kernel
theorem dX8_readStatement_0 : decode cX8_readStatement 0 = .ok (.aload_n 0, 1) := DX8_readStatement_0 (0, .aload_n 0, 1) (List.mem_of_getElem? (i := 0) rfl)
theorem dX8_readStatement_1 : decode cX8_readStatement 1 = .ok (.ldc 174, 2) := DX8_readStatement_0 (1, .ldc 174, 2) (List.mem_of_getElem? (i := 1) rfl)
theorem dX8_readStatement_3 : decode cX8_readStatement 3 = .ok (.invokevirtual 176, 3) := DX8_readStatement_0 (3, .invokevirtual 176, 3) (List.mem_of_getElem? (i := 2) rfl)
theorem dX8_readStatement_6 : decode cX8_readStatement 6 = .ok (.ifCond .eq 8, 3) := DX8_readStatement_0 (6, .ifCond .eq 8, 3) (List.mem_of_getElem? (i := 3) rfl)
theorem dX8_readStatement_9 : decode cX8_readStatement 9 = .ok (.aload_n 0, 1) := DX8_readStatement_0 (9, .aload_n 0, 1) (List.mem_of_getElem? (i := 4) rfl)
theorem dX8_readStatement_10 : decode cX8_readStatement 10 = .ok (.invokevirtual 231, 3) := DX8_readStatement_0 (10, .invokevirtual 231, 3) (List.mem_of_getElem? (i := 5) rfl)
theorem dX8_readStatement_13 : decode cX8_readStatement 13 = .ok (.ireturn, 1) := DX8_readStatement_0 (13, .ireturn, 1) (List.mem_of_getElem? (i := 6) rfl)
theorem dX8_readStatement_14 : decode cX8_readStatement 14 = .ok (.aload_n 0, 1) := DX8_readStatement_0 (14, .aload_n 0, 1) (List.mem_of_getElem? (i := 7) rfl)
theorem dX8_readStatement_15 : decode cX8_readStatement 15 = .ok (.ldc 180, 2) := DX8_readStatement_0 (15, .ldc 180, 2) (List.mem_of_getElem? (i := 8) rfl)
theorem dX8_readStatement_17 : decode cX8_readStatement 17 = .ok (.invokevirtual 176, 3) := DX8_readStatement_0 (17, .invokevirtual 176, 3) (List.mem_of_getElem? (i := 9) rfl)
theorem dX8_readStatement_20 : decode cX8_readStatement 20 = .ok (.ifCond .eq 8, 3) := DX8_readStatement_0 (20, .ifCond .eq 8, 3) (List.mem_of_getElem? (i := 10) rfl)
theorem dX8_readStatement_23 : decode cX8_readStatement 23 = .ok (.aload_n 0, 1) := DX8_readStatement_0 (23, .aload_n 0, 1) (List.mem_of_getElem? (i := 11) rfl)
theorem dX8_readStatement_24 : decode cX8_readStatement 24 = .ok (.invokevirtual 234, 3) := DX8_readStatement_0 (24, .invokevirtual 234, 3) (List.mem_of_getElem? (i := 12) rfl)
theorem dX8_readStatement_27 : decode cX8_readStatement 27 = .ok (.ireturn, 1) := DX8_readStatement_0 (27, .ireturn, 1) (List.mem_of_getElem? (i := 13) rfl)
theorem dX8_readStatement_28 : decode cX8_readStatement 28 = .ok (.aload_n 0, 1) := DX8_readStatement_0 (28, .aload_n 0, 1) (List.mem_of_getElem? (i := 14) rfl)
theorem dX8_readStatement_29 : decode cX8_readStatement 29 = .ok (.ldc 182, 2) := DX8_readStatement_0 (29, .ldc 182, 2) (List.mem_of_getElem? (i := 15) rfl)
theorem dX8_readStatement_31 : decode cX8_readStatement 31 = .ok (.invokevirtual 176, 3) := DX8_readStatement_0 (31, .invokevirtual 176, 3) (List.mem_of_getElem? (i := 16) rfl)
theorem dX8_readStatement_34 : decode cX8_readStatement 34 = .ok (.ifCond .eq 8, 3) := DX8_readStatement_0 (34, .ifCond .eq 8, 3) (List.mem_of_getElem? (i := 17) rfl)
theorem dX8_readStatement_37 : decode cX8_readStatement 37 = .ok (.aload_n 0, 1) := DX8_readStatement_0 (37, .aload_n 0, 1) (List.mem_of_getElem? (i := 18) rfl)
theorem dX8_readStatement_38 : decode cX8_readStatement 38 = .ok (.invokevirtual 237, 3) := DX8_readStatement_0 (38, .invokevirtual 237, 3) (List.mem_of_getElem? (i := 19) rfl)
theorem dX8_readStatement_41 : decode cX8_readStatement 41 = .ok (.ireturn, 1) := DX8_readStatement_0 (41, .ireturn, 1) (List.mem_of_getElem? (i := 20) rfl)
theorem dX8_readStatement_42 : decode cX8_readStatement 42 = .ok (.aload_n 0, 1) := DX8_readStatement_0 (42, .aload_n 0, 1) (List.mem_of_getElem? (i := 21) rfl)
theorem dX8_readStatement_43 : decode cX8_readStatement 43 = .ok (.ldc 184, 2) := DX8_readStatement_0 (43, .ldc 184, 2) (List.mem_of_getElem? (i := 22) rfl)
theorem dX8_readStatement_45 : decode cX8_readStatement 45 = .ok (.invokevirtual 176, 3) := DX8_readStatement_0 (45, .invokevirtual 176, 3) (List.mem_of_getElem? (i := 23) rfl)
theorem dX8_readStatement_48 : decode cX8_readStatement 48 = .ok (.ifCond .eq 8, 3) := DX8_readStatement_0 (48, .ifCond .eq 8, 3) (List.mem_of_getElem? (i := 24) rfl)
theorem dX8_readStatement_51 : decode cX8_readStatement 51 = .ok (.aload_n 0, 1) := DX8_readStatement_0 (51, .aload_n 0, 1) (List.mem_of_getElem? (i := 25) rfl)
theorem dX8_readStatement_52 : decode cX8_readStatement 52 = .ok (.invokevirtual 240, 3) := DX8_readStatement_0 (52, .invokevirtual 240, 3) (List.mem_of_getElem? (i := 26) rfl)
theorem dX8_readStatement_55 : decode cX8_readStatement 55 = .ok (.ireturn, 1) := DX8_readStatement_0 (55, .ireturn, 1) (List.mem_of_getElem? (i := 27) rfl)
theorem dX8_readStatement_56 : decode cX8_readStatement 56 = .ok (.aload_n 0, 1) := DX8_readStatement_0 (56, .aload_n 0, 1) (List.mem_of_getElem? (i := 28) rfl)
theorem dX8_readStatement_57 : decode cX8_readStatement 57 = .ok (.ldc 186, 2) := DX8_readStatement_0 (57, .ldc 186, 2) (List.mem_of_getElem? (i := 29) rfl)
theorem dX8_readStatement_59 : decode cX8_readStatement 59 = .ok (.invokevirtual 176, 3) := DX8_readStatement_0 (59, .invokevirtual 176, 3) (List.mem_of_getElem? (i := 30) rfl)
theorem dX8_readStatement_62 : decode cX8_readStatement 62 = .ok (.ifCond .eq 8, 3) := DX8_readStatement_0 (62, .ifCond .eq 8, 3) (List.mem_of_getElem? (i := 31) rfl)
theorem dX8_readStatement_65 : decode cX8_readStatement 65 = .ok (.aload_n 0, 1) := DX8_readStatement_0 (65, .aload_n 0, 1) (List.mem_of_getElem? (i := 32) rfl)
theorem dX8_readStatement_66 : decode cX8_readStatement 66 = .ok (.invokevirtual 243, 3) := DX8_readStatement_0 (66, .invokevirtual 243, 3) (List.mem_of_getElem? (i := 33) rfl)
theorem dX8_readStatement_69 : decode cX8_readStatement 69 = .ok (.ireturn, 1) := DX8_readStatement_0 (69, .ireturn, 1) (List.mem_of_getElem? (i := 34) rfl)
theorem dX8_readStatement_70 : decode cX8_readStatement 70 = .ok (.aload_n 0, 1) := DX8_readStatement_0 (70, .aload_n 0, 1) (List.mem_of_getElem? (i := 35) rfl)
theorem dX8_readStatement_71 : decode cX8_readStatement 71 = .ok (.ldc 188, 2) := DX8_readStatement_0 (71, .ldc 188, 2) (List.mem_of_getElem? (i := 36) rfl)
theorem dX8_readStatement_73 : decode cX8_readStatement 73 = .ok (.invokevirtual 176, 3) := DX8_readStatement_0 (73, .invokevirtual 176, 3) (List.mem_of_getElem? (i := 37) rfl)
theorem dX8_readStatement_76 : decode cX8_readStatement 76 = .ok (.ifCond .eq 10, 3) := DX8_readStatement_0 (76, .ifCond .eq 10, 3) (List.mem_of_getElem? (i := 38) rfl)
theorem dX8_readStatement_79 : decode cX8_readStatement 79 = .ok (.aload_n 0, 1) := DX8_readStatement_0 (79, .aload_n 0, 1) (List.mem_of_getElem? (i := 39) rfl)
theorem DX8_readStatement_1 : ∀ q ∈ ([(80, .invokevirtual 246, 3), (83, .goto 8, 3), (86, .aload_n 0, 1), (87, .iconst 1, 1), (88, .invokevirtual 168, 3), (91, .ireturn, 1)] : List (Nat × Instr × Nat)), decode cX8_readStatement q.1 = .ok q.2 := by decide +kernel
theorem dX8_readStatement_80 : decode cX8_readStatement 80 = .ok (.invokevirtual 246, 3) := DX8_readStatement_1 (80, .invokevirtual 246, 3) (List.mem_of_getElem? (i := 0) rfl)
theorem dX8_readStatement_83 : decode cX8_readStatement 83 = .ok (.goto 8, 3) := DX8_readStatement_1 (83, .goto 8, 3) (List.mem_of_getElem? (i := 1) rfl)
theorem dX8_readStatement_86 : decode cX8_readStatement 86 = .ok (.aload_n 0, 1) := DX8_readStatement_1 (86, .aload_n 0, 1) (List.mem_of_getElem? (i := 2) rfl)
theorem dX8_readStatement_87 : decode cX8_readStatement 87 = .ok (.iconst 1, 1) := DX8_readStatement_1 (87, .iconst 1, 1) (List.mem_of_getElem? (i := 3) rfl)
theorem dX8_readStatement_88 : decode cX8_readStatement 88 = .ok (.invokevirtual 168, 3) := DX8_readStatement_1 (88, .invokevirtual 168, 3) (List.mem_of_getElem? (i := 4) rfl)
theorem dX8_readStatement_91 : decode cX8_readStatement 91 = .ok (.ireturn, 1) := DX8_readStatement_1 (91, .ireturn, 1) (List.mem_of_getElem? (i := 5) rfl)
abbrev rmX8_readStatement : Room := { frames := 10, cells := 0, slots := 0, locals := 439 }
set_option maxHeartbeats 400000 in
set_option maxRecDepth 100000 in
theorem met_X8_readStatement (l : Launch) (D : va_G) (kA : Nat → ClassId) (a : Nat → Nat) (adK adV : Nat → Nat) (n : Nat) (V0 : Sz) (hDt : ∀ w : Sz, va_D (fun _ => True) (cs_X8 kA a w)) {r : Bool} {Vr : Sz} (hf : f_X8_readStatement n V0 = some (r, Vr)) : MZs l yX8_readStatement cX8_readStatement 1 (some .boolean) rmX8_readStatement D kA adK adV [.ref (a 0)] (cs_X8 kA a V0) (cs_X8 kA a Vr) (some (vI (bI r))) := by
  refine zZZs (own := RX8) rfl rfl (Nat.le_of_ble_eq_true rfl) ?_
  intro p e s m args below meth c ls Q hC hK hZ hP hl hret
  have hl : lv_has ls 1 [(0, .ref (a 0))] := hl
  have hS : va_S (zF (cs_X8 kA a V0)) s.heap s.heap [] := va_S.rf
  have hD := zDself (C := fun w : Sz => (cs_X8 kA a w)) hDt V0 (fun _ => rfl)
  try dsimp only at hD
  generalize hAe : zF (cs_X8 kA a V0) = A0 at hS hD hret hZ
  unfold f_X8_readStatement at hf
  refine lv_aload_n hC.1 hC.2.1 dX8_readStatement_0 rfl (lv_at hl 0 rfl) <| va_ldcS hC.1 hC.2.1 hC.2.2.2.1 (hZ.2.2.2 0 (by decide)) dX8_readStatement_1 <| ?_
  obtain ⟨r_1, hu, hf⟩ := bd_some hf
  refine zcVPs (As := [.ref (adK 0)]) (rest := []) hC hK hZ (met_X8_isWord l D kA a adK adV n V0 0 (by decide) hu) zwX8_176 hS (zFsub (hD V0) [0, 1, 2, 3, 4, 5, 6, 7, 8, 9, 10, 11, 12, 13, 14, 15, 16] rfl) hP (q0 := 0) rfl rfl rfl rfl hl.1 rfl (Nat.le_of_ble_eq_true rfl) ⟨(Nat.le_of_ble_eq_true rfl), (Nat.le_of_ble_eq_true rfl)⟩ ⟨rfl, rfl⟩ ⟨Nat.le_refl _, Nat.le_refl _⟩ dX8_readStatement_3 <| zifb_eq (tgt := 14) hC.1 hC.2.1 dX8_readStatement_6 (by decide) (fun hc => ?_) (fun hc => ?_)
  · have hf := it_t hf hc
    refine lv_aload_n hC.1 hC.2.1 dX8_readStatement_14 rfl (lv_at hl 0 rfl) <| va_ldcS hC.1 hC.2.1 hC.2.2.2.1 (hZ.2.2.2 1 (by decide)) dX8_readStatement_15 <| ?_
    obtain ⟨r_2, hu, hf⟩ := bd_some hf
    refine zcVPs (As := [.ref (adK 1)]) (rest := []) hC hK hZ (met_X8_isWord l D kA a adK adV n V0 1 (by decide) hu) zwX8_176 hS (zFsub (hD V0) [0, 1, 2, 3, 4, 5, 6, 7, 8, 9, 10, 11, 12, 13, 14, 15, 16] rfl) hP (q0 := 0) rfl rfl rfl rfl hl.1 rfl (Nat.le_of_ble_eq_true rfl) ⟨(Nat.le_of_ble_eq_true rfl), (Nat.le_of_ble_eq_true rfl)⟩ ⟨rfl, rfl⟩ ⟨Nat.le_refl _, Nat.le_refl _⟩ dX8_readStatement_17 <| zifb_eq (tgt := 28) hC.1 hC.2.1 dX8_readStatement_20 (by decide) (fun hc => ?_) (fun hc => ?_)
    · have hf := it_t hf hc
      refine lv_aload_n hC.1 hC.2.1 dX8_readStatement_28 rfl (lv_at hl 0 rfl) <| va_ldcS hC.1 hC.2.1 hC.2.2.2.1 (hZ.2.2.2 2 (by decide)) dX8_readStatement_29 <| ?_
      obtain ⟨r_3, hu, hf⟩ := bd_some hf
      refine zcVPs (As := [.ref (adK 2)]) (rest := []) hC hK hZ (met_X8_isWord l D kA a adK adV n V0 2 (by decide) hu) zwX8_176 hS (zFsub (hD V0) [0, 1, 2, 3, 4, 5, 6, 7, 8, 9, 10, 11, 12, 13, 14, 15, 16] rfl) hP (q0 := 0) rfl rfl rfl rfl hl.1 rfl (Nat.le_of_ble_eq_true rfl) ⟨(Nat.le_of_ble_eq_true rfl), (Nat.le_of_ble_eq_true rfl)⟩ ⟨rfl, rfl⟩ ⟨Nat.le_refl _, Nat.le_refl _⟩ dX8_readStatement_31 <| zifb_eq (tgt := 42) hC.1 hC.2.1 dX8_readStatement_34 (by decide) (fun hc => ?_) (fun hc => ?_)
      · have hf := it_t hf hc
        refine lv_aload_n hC.1 hC.2.1 dX8_readStatement_42 rfl (lv_at hl 0 rfl) <| va_ldcS hC.1 hC.2.1 hC.2.2.2.1 (hZ.2.2.2 3 (by decide)) dX8_readStatement_43 <| ?_
        obtain ⟨r_4, hu, hf⟩ := bd_some hf
        refine zcVPs (As := [.ref (adK 3)]) (rest := []) hC hK hZ (met_X8_isWord l D kA a adK adV n V0 3 (by decide) hu) zwX8_176 hS (zFsub (hD V0) [0, 1, 2, 3, 4, 5, 6, 7, 8, 9, 10, 11, 12, 13, 14, 15, 16] rfl) hP (q0 := 0) rfl rfl rfl rfl hl.1 rfl (Nat.le_of_ble_eq_true rfl) ⟨(Nat.le_of_ble_eq_true rfl), (Nat.le_of_ble_eq_true rfl)⟩ ⟨rfl, rfl⟩ ⟨Nat.le_refl _, Nat.le_refl _⟩ dX8_readStatement_45 <| zifb_eq (tgt := 56) hC.1 hC.2.1 dX8_readStatement_48 (by decide) (fun hc => ?_) (fun hc => ?_)
        · have hf := it_t hf hc
          refine lv_aload_n hC.1 hC.2.1 dX8_readStatement_56 rfl (lv_at hl 0 rfl) <| va_ldcS hC.1 hC.2.1 hC.2.2.2.1 (hZ.2.2.2 4 (by decide)) dX8_readStatement_57 <| ?_
          obtain ⟨r_5, hu, hf⟩ := bd_some hf
          refine zcVPs (As := [.ref (adK 4)]) (rest := []) hC hK hZ (met_X8_isWord l D kA a adK adV n V0 4 (by decide) hu) zwX8_176 hS (zFsub (hD V0) [0, 1, 2, 3, 4, 5, 6, 7, 8, 9, 10, 11, 12, 13, 14, 15, 16] rfl) hP (q0 := 0) rfl rfl rfl rfl hl.1 rfl (Nat.le_of_ble_eq_true rfl) ⟨(Nat.le_of_ble_eq_true rfl), (Nat.le_of_ble_eq_true rfl)⟩ ⟨rfl, rfl⟩ ⟨Nat.le_refl _, Nat.le_refl _⟩ dX8_readStatement_59 <| zifb_eq (tgt := 70) hC.1 hC.2.1 dX8_readStatement_62 (by decide) (fun hc => ?_) (fun hc => ?_)
          · have hf := it_t hf hc
            refine lv_aload_n hC.1 hC.2.1 dX8_readStatement_70 rfl (lv_at hl 0 rfl) <| va_ldcS hC.1 hC.2.1 hC.2.2.2.1 (hZ.2.2.2 5 (by decide)) dX8_readStatement_71 <| ?_
            obtain ⟨r_6, hu, hf⟩ := bd_some hf
            refine zcVPs (As := [.ref (adK 5)]) (rest := []) hC hK hZ (met_X8_isWord l D kA a adK adV n V0 5 (by decide) hu) zwX8_176 hS (zFsub (hD V0) [0, 1, 2, 3, 4, 5, 6, 7, 8, 9, 10, 11, 12, 13, 14, 15, 16] rfl) hP (q0 := 0) rfl rfl rfl rfl hl.1 rfl (Nat.le_of_ble_eq_true rfl) ⟨(Nat.le_of_ble_eq_true rfl), (Nat.le_of_ble_eq_true rfl)⟩ ⟨rfl, rfl⟩ ⟨Nat.le_refl _, Nat.le_refl _⟩ dX8_readStatement_73 <| zifb_eq (tgt := 86) hC.1 hC.2.1 dX8_readStatement_76 (by decide) (fun hc => ?_) (fun hc => ?_)
            · have hf := it_t hf hc
              refine lv_aload_n hC.1 hC.2.1 dX8_readStatement_86 rfl (lv_at hl 0 rfl) <| ziconst hC.1 hC.2.1 dX8_readStatement_87 <| ?_
              obtain ⟨⟨r_7, V_8⟩, hu, hf⟩ := bd_some hf
              have hDc := hDt
              refine zcVZ (As := [vI 1]) (rest := []) hC hK (met_X8_failsAt l D kA a V0 1 hDc hu) zwX8_168 hS (zFsub (hD V0) [0, 1, 2, 3, 4, 5, 6, 7, 8, 9, 10, 11, 12, 13, 14, 15, 16] rfl) hP (q0 := 0) rfl rfl rfl rfl hl.1 rfl (Nat.le_of_ble_eq_true rfl) ⟨Nat.le_of_ble_eq_true rfl, Nat.le_of_ble_eq_true rfl⟩ ⟨rfl, rfl⟩ ⟨Nat.le_refl _, Nat.le_refl _⟩ dX8_readStatement_88 (fun H locs hP1 hk1 hS => ?_)
              have hP : va_P D vwCl (cs_X8 kA a V_8) H := hP1
              have hf := Option.some.inj hf
              simp only [Prod.mk.injEq] at hf
              exact hret (Int32.ofInt (bI r_7)) _ _ _ _ (zb01 _) (congrArg (fun z => some (vI (bI z))) hf.1.symm) (by rw [← hf.2]; exact hP) hS dX8_readStatement_91
            · have hf := it_f hf hc
              refine lv_aload_n hC.1 hC.2.1 dX8_readStatement_79 rfl (lv_at hl 0 rfl) <| ?_
              obtain ⟨⟨r_9, V_10⟩, hu, hf⟩ := bd_some hf
              have hDc := hDt
              refine zcVZ (As := []) (rest := []) hC hK (met_X8_readRules l D kA a n V0 hDc hu) zwX8_246 hS (zFsub (hD V0) [0, 1, 2, 3, 4, 5, 6, 7, 8, 9, 10, 11, 12, 13, 14, 15, 16] rfl) hP (q0 := 0) rfl rfl rfl rfl hl.1 rfl (Nat.le_of_ble_eq_true rfl) ⟨Nat.le_of_ble_eq_true rfl, Nat.le_of_ble_eq_true rfl⟩ ⟨rfl, rfl⟩ ⟨Nat.le_refl _, Nat.le_refl _⟩ dX8_readStatement_80 (fun H locs hP1 hk1 hS => ?_)
              have hP : va_P D vwCl (cs_X8 kA a V_10) H := hP1
              refine lv_goto (tgt := 91) hC.1 hC.2.1 dX8_readStatement_83 (by decide) <| ?_
              have hf := Option.some.inj hf
              simp only [Prod.mk.injEq] at hf
              exact hret (Int32.ofInt (bI r_9)) _ _ _ _ (zb01 _) (congrArg (fun z => some (vI (bI z))) hf.1.symm) (by rw [← hf.2]; exact hP) hS dX8_readStatement_91
          · have hf := it_f hf hc
            refine lv_aload_n hC.1 hC.2.1 dX8_readStatement_65 rfl (lv_at hl 0 rfl) <| ?_
            obtain ⟨⟨r_11, V_12⟩, hu, hf⟩ := bd_some hf
            have hDc := hDt
            refine zcVZ (As := []) (rest := []) hC hK (met_X8_readCash l D kA a n V0 hDc hu) zwX8_243 hS (zFsub (hD V0) [0, 1, 2, 3, 4, 5, 6, 7, 8, 9, 10, 11, 12, 13, 14, 15, 16] rfl) hP (q0 := 0) rfl rfl rfl rfl hl.1 rfl (Nat.le_of_ble_eq_true rfl) ⟨Nat.le_of_ble_eq_true rfl, Nat.le_of_ble_eq_true rfl⟩ ⟨rfl, rfl⟩ ⟨Nat.le_refl _, Nat.le_refl _⟩ dX8_readStatement_66 (fun H locs hP1 hk1 hS => ?_)
            have hP : va_P D vwCl (cs_X8 kA a V_12) H := hP1
            have hf := Option.some.inj hf
            simp only [Prod.mk.injEq] at hf
            exact hret (Int32.ofInt (bI r_11)) _ _ _ _ (zb01 _) (congrArg (fun z => some (vI (bI z))) hf.1.symm) (by rw [← hf.2]; exact hP) hS dX8_readStatement_69
        · have hf := it_f hf hc
          refine lv_aload_n hC.1 hC.2.1 dX8_readStatement_51 rfl (lv_at hl 0 rfl) <| ?_
          obtain ⟨⟨r_13, V_14⟩, hu, hf⟩ := bd_some hf
          have hDc := hDt
          refine zcVZs (As := []) (rest := []) hC hK hZ (met_X8_readSplit l D kA a adK adV n V0 hDc hu) zwX8_240 hS (zFsub (hD V0) [0, 1, 2, 3, 4, 5, 6, 7, 8, 9, 10, 11, 12, 13, 14, 15, 16] rfl) hP (q0 := 0) rfl rfl rfl rfl hl.1 rfl (Nat.le_of_ble_eq_true rfl) ⟨Nat.le_of_ble_eq_true rfl, Nat.le_of_ble_eq_true rfl⟩ ⟨rfl, rfl⟩ ⟨Nat.le_refl _, Nat.le_refl _⟩ dX8_readStatement_52 (fun H locs hP1 hk1 hS => ?_)
          have hP : va_P D vwCl (cs_X8 kA a V_14) H := hP1
          have hf := Option.some.inj hf
          simp only [Prod.mk.injEq] at hf
          exact hret (Int32.ofInt (bI r_13)) _ _ _ _ (zb01 _) (congrArg (fun z => some (vI (bI z))) hf.1.symm) (by rw [← hf.2]; exact hP) hS dX8_readStatement_55
      · have hf := it_f hf hc
        refine lv_aload_n hC.1 hC.2.1 dX8_readStatement_37 rfl (lv_at hl 0 rfl) <| ?_
        obtain ⟨⟨r_15, V_16⟩, hu, hf⟩ := bd_some hf
        have hDc := hDt
        refine zcVZs (As := []) (rest := []) hC hK hZ (met_X8_readGift l D kA a adK adV n V0 hDc hu) zwX8_237 hS (zFsub (hD V0) [0, 1, 2, 3, 4, 5, 6, 7, 8, 9, 10, 11, 12, 13, 14, 15, 16] rfl) hP (q0 := 0) rfl rfl rfl rfl hl.1 rfl (Nat.le_of_ble_eq_true rfl) ⟨Nat.le_of_ble_eq_true rfl, Nat.le_of_ble_eq_true rfl⟩ ⟨rfl, rfl⟩ ⟨Nat.le_refl _, Nat.le_refl _⟩ dX8_readStatement_38 (fun H locs hP1 hk1 hS => ?_)
        have hP : va_P D vwCl (cs_X8 kA a V_16) H := hP1
        have hf := Option.some.inj hf
        simp only [Prod.mk.injEq] at hf
        exact hret (Int32.ofInt (bI r_15)) _ _ _ _ (zb01 _) (congrArg (fun z => some (vI (bI z))) hf.1.symm) (by rw [← hf.2]; exact hP) hS dX8_readStatement_41
    · have hf := it_f hf hc
      refine lv_aload_n hC.1 hC.2.1 dX8_readStatement_23 rfl (lv_at hl 0 rfl) <| ?_
      obtain ⟨⟨r_17, V_18⟩, hu, hf⟩ := bd_some hf
      have hDc := hDt
      refine zcVZs (As := []) (rest := []) hC hK hZ (met_X8_readDeclare l D kA a adK adV n V0 hDc hu) zwX8_234 hS (zFsub (hD V0) [0, 1, 2, 3, 4, 5, 6, 7, 8, 9, 10, 11, 12, 13, 14, 15, 16] rfl) hP (q0 := 0) rfl rfl rfl rfl hl.1 rfl (Nat.le_of_ble_eq_true rfl) ⟨Nat.le_of_ble_eq_true rfl, Nat.le_of_ble_eq_true rfl⟩ ⟨rfl, rfl⟩ ⟨Nat.le_refl _, Nat.le_refl _⟩ dX8_readStatement_24 (fun H locs hP1 hk1 hS => ?_)
      have hP : va_P D vwCl (cs_X8 kA a V_18) H := hP1
      have hf := Option.some.inj hf
      simp only [Prod.mk.injEq] at hf
      exact hret (Int32.ofInt (bI r_17)) _ _ _ _ (zb01 _) (congrArg (fun z => some (vI (bI z))) hf.1.symm) (by rw [← hf.2]; exact hP) hS dX8_readStatement_27
  · have hf := it_f hf hc
    refine lv_aload_n hC.1 hC.2.1 dX8_readStatement_9 rfl (lv_at hl 0 rfl) <| ?_
    obtain ⟨⟨r_19, V_20⟩, hu, hf⟩ := bd_some hf
    have hDc := hDt
    refine zcVZs (As := []) (rest := []) hC hK hZ (met_X8_readDonor l D kA a adK adV n V0 hDc hu) zwX8_231 hS (zFsub (hD V0) [0, 1, 2, 3, 4, 5, 6, 7, 8, 9, 10, 11, 12, 13, 14, 15, 16] rfl) hP (q0 := 0) rfl rfl rfl rfl hl.1 rfl (Nat.le_of_ble_eq_true rfl) ⟨Nat.le_of_ble_eq_true rfl, Nat.le_of_ble_eq_true rfl⟩ ⟨rfl, rfl⟩ ⟨Nat.le_refl _, Nat.le_refl _⟩ dX8_readStatement_10 (fun H locs hP1 hk1 hS => ?_)
    have hP : va_P D vwCl (cs_X8 kA a V_20) H := hP1
    have hf := Option.some.inj hf
    simp only [Prod.mk.injEq] at hf
    exact hret (Int32.ofInt (bI r_19)) _ _ _ _ (zb01 _) (congrArg (fun z => some (vI (bI z))) hf.1.symm) (by rw [← hf.2]; exact hP) hS dX8_readStatement_13
theorem DX8_readText_0 : ∀ q ∈ ([(0, .aload_n 0, 1), (1, .getfield 146, 3), (4, .ifCond .eq 33, 3), (7, .aload_n 0, 1), (8, .invokevirtual 249, 3), (11, .ifCond .ne 5, 3), (14, .iconst 0, 1), (15, .ireturn, 1), (16, .aload_n 0, 1), (17, .getfield 146, 3), (20, .iconst 3, 1), (21, .if_icmp .eq 9, 3), (24, .aload_n 0, 1), (25, .iconst 1, 1), (26, .invokevirtual 168, 3), (29, .ireturn, 1), (30, .aload_n 0, 1), (31, .invokevirtual 171, 3), (34, .goto (-34), 3), (37, .iconst 1, 1), (38, .ireturn, 1)] : List (Nat × Instr × Nat)), decode cX8_readText q.1 = .ok q.2 := by decide +kernel
theorem dX8_readText_0 : decode cX8_readText 0 = .ok (.aload_n 0, 1) := DX8_readText_0 (0, .aload_n 0, 1) (List.mem_of_getElem? (i := 0) rfl)
theorem dX8_readText_1 : decode cX8_readText 1 = .ok (.getfield 146, 3) := DX8_readText_0 (1, .getfield 146, 3) (List.mem_of_getElem? (i := 1) rfl)
theorem dX8_readText_4 : decode cX8_readText 4 = .ok (.ifCond .eq 33, 3) := DX8_readText_0 (4, .ifCond .eq 33, 3) (List.mem_of_getElem? (i := 2) rfl)
theorem dX8_readText_7 : decode cX8_readText 7 = .ok (.aload_n 0, 1) := DX8_readText_0 (7, .aload_n 0, 1) (List.mem_of_getElem? (i := 3) rfl)
theorem dX8_readText_8 : decode cX8_readText 8 = .ok (.invokevirtual 249, 3) := DX8_readText_0 (8, .invokevirtual 249, 3) (List.mem_of_getElem? (i := 4) rfl)
theorem dX8_readText_11 : decode cX8_readText 11 = .ok (.ifCond .ne 5, 3) := DX8_readText_0 (11, .ifCond .ne 5, 3) (List.mem_of_getElem? (i := 5) rfl)
theorem dX8_readText_14 : decode cX8_readText 14 = .ok (.iconst 0, 1) := DX8_readText_0 (14, .iconst 0, 1) (List.mem_of_getElem? (i := 6) rfl)
theorem dX8_readText_15 : decode cX8_readText 15 = .ok (.ireturn, 1) := DX8_readText_0 (15, .ireturn, 1) (List.mem_of_getElem? (i := 7) rfl)
theorem dX8_readText_16 : decode cX8_readText 16 = .ok (.aload_n 0, 1) := DX8_readText_0 (16, .aload_n 0, 1) (List.mem_of_getElem? (i := 8) rfl)
theorem dX8_readText_17 : decode cX8_readText 17 = .ok (.getfield 146, 3) := DX8_readText_0 (17, .getfield 146, 3) (List.mem_of_getElem? (i := 9) rfl)
theorem dX8_readText_20 : decode cX8_readText 20 = .ok (.iconst 3, 1) := DX8_readText_0 (20, .iconst 3, 1) (List.mem_of_getElem? (i := 10) rfl)
theorem dX8_readText_21 : decode cX8_readText 21 = .ok (.if_icmp .eq 9, 3) := DX8_readText_0 (21, .if_icmp .eq 9, 3) (List.mem_of_getElem? (i := 11) rfl)
theorem dX8_readText_24 : decode cX8_readText 24 = .ok (.aload_n 0, 1) := DX8_readText_0 (24, .aload_n 0, 1) (List.mem_of_getElem? (i := 12) rfl)
theorem dX8_readText_25 : decode cX8_readText 25 = .ok (.iconst 1, 1) := DX8_readText_0 (25, .iconst 1, 1) (List.mem_of_getElem? (i := 13) rfl)
theorem dX8_readText_26 : decode cX8_readText 26 = .ok (.invokevirtual 168, 3) := DX8_readText_0 (26, .invokevirtual 168, 3) (List.mem_of_getElem? (i := 14) rfl)
theorem dX8_readText_29 : decode cX8_readText 29 = .ok (.ireturn, 1) := DX8_readText_0 (29, .ireturn, 1) (List.mem_of_getElem? (i := 15) rfl)
theorem dX8_readText_30 : decode cX8_readText 30 = .ok (.aload_n 0, 1) := DX8_readText_0 (30, .aload_n 0, 1) (List.mem_of_getElem? (i := 16) rfl)
theorem dX8_readText_31 : decode cX8_readText 31 = .ok (.invokevirtual 171, 3) := DX8_readText_0 (31, .invokevirtual 171, 3) (List.mem_of_getElem? (i := 17) rfl)
theorem dX8_readText_34 : decode cX8_readText 34 = .ok (.goto (-34), 3) := DX8_readText_0 (34, .goto (-34), 3) (List.mem_of_getElem? (i := 18) rfl)
theorem dX8_readText_37 : decode cX8_readText 37 = .ok (.iconst 1, 1) := DX8_readText_0 (37, .iconst 1, 1) (List.mem_of_getElem? (i := 19) rfl)
theorem dX8_readText_38 : decode cX8_readText 38 = .ok (.ireturn, 1) := DX8_readText_0 (38, .ireturn, 1) (List.mem_of_getElem? (i := 20) rfl)
abbrev rmX8_readText : Room := { frames := 11, cells := 0, slots := 0, locals := 459 }
set_option maxHeartbeats 400000 in
set_option maxRecDepth 100000 in
theorem met_X8_readText (l : Launch) (D : va_G) (kA : Nat → ClassId) (a : Nat → Nat) (adK adV : Nat → Nat) (n : Nat) (V0 : Sz) (hDt : ∀ w : Sz, va_D (fun _ => True) (cs_X8 kA a w)) {r : Bool} {Vr : Sz} (hf : f_X8_readText n V0 = some (r, Vr)) : MZs l yX8_readText cX8_readText 1 (some .boolean) rmX8_readText D kA adK adV [.ref (a 0)] (cs_X8 kA a V0) (cs_X8 kA a Vr) (some (vI (bI r))) := by
  refine zZZs (own := RX8) rfl rfl (Nat.le_of_ble_eq_true rfl) ?_
  intro p e s m args below meth c ls Q hC hK hZ hP hl hret
  have hl : lv_has ls 1 [(0, .ref (a 0))] := hl
  have hS : va_S (zF (cs_X8 kA a V0)) s.heap s.heap [] := va_S.rf
  have hD := zDself (C := fun w : Sz => (cs_X8 kA a w)) hDt V0 (fun _ => rfl)
  try dsimp only at hD
  generalize hAe : zF (cs_X8 kA a V0) = A0 at hS hD hret hZ
  unfold f_X8_readText at hf
  have L0 : ∀ (k0 : Nat) (V : Sz) (H : Heap) (locs : List Loc) (ls : Array Slot), lpF (bX8_readText_0 n) k0 V = some (r, Vr) → va_P D vwCl (cs_X8 kA a V) H → va_S A0 s.heap H locs → lv_has ls 1 [(0, .ref (a 0))] → W p l e rmX8_readText s m args below meth c H locs 0 0 Q (F0 m 0 ls []) := by
    intro k0
    induction k0 with
    | zero => intro V H locs ls hf hP hS hl; exact lp_0 hf
    | succ k0 ih0 =>
      intro V H locs ls hf hP hS hl
      have hf := lp_s hf
      rw [bX8_readText_0_e] at hf
      refine lv_aload_n hC.1 hC.2.1 dX8_readText_0 rfl (lv_at hl 0 rfl) <| gfX8_146 hC hK hP (q0 := 0) rfl rfl dX8_readText_1 <| ?_
      obtain ⟨hz_1, hf⟩ := ck_some hf
      refine zif_eq (tgt := 37) hC.1 hC.2.1 hz_1 dX8_readText_4 (by decide) (fun hc => ?_) (fun hc => ?_)
      · have hf := it_t hf hc
        refine ziconst hC.1 hC.2.1 dX8_readText_37 <| ?_
        have hf := Option.some.inj hf
        simp only [Prod.mk.injEq] at hf
        exact hret (Int32.ofInt (bI true)) _ _ _ _ (zb01 _) (congrArg (fun z => some (vI (bI z))) hf.1.symm) (by rw [← hf.2]; exact hP) hS dX8_readText_38
      · have hf := it_f hf hc
        refine lv_aload_n hC.1 hC.2.1 dX8_readText_7 rfl (lv_at hl 0 rfl) <| ?_
        obtain ⟨⟨r_2, V_3⟩, hu, hf⟩ := bd_some hf
        have hDc := hDt
        refine zcVZs (As := []) (rest := []) hC hK hZ (met_X8_readStatement l D kA a adK adV n V hDc hu) zwX8_249 hS (zFsub (hD V) [0, 1, 2, 3, 4, 5, 6, 7, 8, 9, 10, 11, 12, 13, 14, 15, 16] rfl) hP (q0 := 0) rfl rfl rfl rfl hl.1 rfl (Nat.le_of_ble_eq_true rfl) ⟨Nat.le_of_ble_eq_true rfl, Nat.le_of_ble_eq_true rfl⟩ ⟨rfl, rfl⟩ ⟨Nat.le_refl _, Nat.le_refl _⟩ dX8_readText_8 (fun H locs hP1 hk1 hS => ?_)
        have hP : va_P D vwCl (cs_X8 kA a V_3) H := hP1
        refine zifb_ne (tgt := 16) hC.1 hC.2.1 dX8_readText_11 (by decide) (fun hc => ?_) (fun hc => ?_)
        · have hf := it_t hf hc
          refine lv_aload_n hC.1 hC.2.1 dX8_readText_16 rfl (lv_at hl 0 rfl) <| gfX8_146 hC hK hP (q0 := 0) rfl rfl dX8_readText_17 <| ziconst hC.1 hC.2.1 dX8_readText_20 <| ?_
          obtain ⟨hz_4, hf⟩ := ck_some hf
          refine zicmp_eq (tgt := 30) hC.1 hC.2.1 ⟨hz_4, (by decide)⟩ dX8_readText_21 (by decide) (fun hc => ?_) (fun hc => ?_)
          · have hf := it_t hf hc
            refine lv_aload_n hC.1 hC.2.1 dX8_readText_30 rfl (lv_at hl 0 rfl) <| ?_
            obtain ⟨V_5, hu, hf⟩ := bd_some hf
            have hDc := hDt
            refine zcVZ (As := []) (rest := []) hC hK (met_X8_advanceToken l D kA a n V_3 hDc hu) zwX8_171 hS (zFsub (hD V_3) [0, 1, 2, 3, 4, 5, 6, 7, 8, 9, 10, 11, 12, 13, 14, 15, 16] rfl) hP (q0 := 0) rfl rfl rfl rfl hl.1 rfl (Nat.le_of_ble_eq_true rfl) ⟨Nat.le_of_ble_eq_true rfl, Nat.le_of_ble_eq_true rfl⟩ ⟨rfl, rfl⟩ ⟨Nat.le_refl _, Nat.le_refl _⟩ dX8_readText_31 (fun H locs hP1 hk1 hS => ?_)
            have hP : va_P D vwCl (cs_X8 kA a V_5) H := hP1
            exact lv_goto (tgt := 0) hC.1 hC.2.1 dX8_readText_34 (by decide) <| ih0 _ _ _ _ hf hP hS (lv_sub hl [0] rfl)
          · have hf := it_f hf hc
            refine lv_aload_n hC.1 hC.2.1 dX8_readText_24 rfl (lv_at hl 0 rfl) <| ziconst hC.1 hC.2.1 dX8_readText_25 <| ?_
            obtain ⟨⟨r_6, V_7⟩, hu, hf⟩ := bd_some hf
            have hDc := hDt
            refine zcVZ (As := [vI 1]) (rest := []) hC hK (met_X8_failsAt l D kA a V_3 1 hDc hu) zwX8_168 hS (zFsub (hD V_3) [0, 1, 2, 3, 4, 5, 6, 7, 8, 9, 10, 11, 12, 13, 14, 15, 16] rfl) hP (q0 := 0) rfl rfl rfl rfl hl.1 rfl (Nat.le_of_ble_eq_true rfl) ⟨Nat.le_of_ble_eq_true rfl, Nat.le_of_ble_eq_true rfl⟩ ⟨rfl, rfl⟩ ⟨Nat.le_refl _, Nat.le_refl _⟩ dX8_readText_26 (fun H locs hP1 hk1 hS => ?_)
            have hP : va_P D vwCl (cs_X8 kA a V_7) H := hP1
            have hf := Option.some.inj hf
            simp only [Prod.mk.injEq] at hf
            exact hret (Int32.ofInt (bI r_6)) _ _ _ _ (zb01 _) (congrArg (fun z => some (vI (bI z))) hf.1.symm) (by rw [← hf.2]; exact hP) hS dX8_readText_29
        · have hf := it_f hf hc
          refine ziconst hC.1 hC.2.1 dX8_readText_14 <| ?_
          have hf := Option.some.inj hf
          simp only [Prod.mk.injEq] at hf
          exact hret (Int32.ofInt (bI false)) _ _ _ _ (zb01 _) (congrArg (fun z => some (vI (bI z))) hf.1.symm) (by rw [← hf.2]; exact hP) hS dX8_readText_15
  exact L0 n _ _ _ _ hf hP hS (lv_sub hl [0] rfl)
theorem DX8_loadRegister_0 : ∀ q ∈ ([(0, .aload_n 0, 1), (1, .iconst 0, 1), (2, .putfield 65, 3), (5, .aload_n 0, 1), (6, .getfield 7, 3), (9, .iconst 0, 1), (10, .aload_n 0, 1), (11, .getfield 13, 3), (14, .iconst 0, 1), (15, .sipush 1233, 3), (18, .invokestatic 71, 3), (21, .aload_n 0, 1), (22, .getfield 25, 3), (25, .iconst 0, 1), (26, .aload_n 0, 1), (27, .getfield 28, 3), (30, .iconst 0, 1), (31, .bipush 60, 2), (33, .invokestatic 71, 3), (36, .aload_n 0, 1), (37, .invokevirtual 62, 3), (40, .aload_n 0, 1), (41, .iconst 0, 1), (42, .putfield 149, 3), (45, .aload_n 0, 1), (46, .iconst (-1), 1), (47, .putfield 152, 3), (50, .aload_n 0, 1), (51, .iconst 0, 1), (52, .putfield 134, 3), (55, .aload_n 0, 1), (56, .iconst 0, 1), (57, .putfield 227, 3), (60, .aload_n 0, 1), (61, .invokevirtual 171, 3), (64, .aload_n 0, 1), (65, .invokevirtual 252, 3), (68, .istore_n 1, 1), (69, .aload_n 0, 1), (70, .iconst 0, 1)] : List (Nat × Instr × Nat)), decode cX8_loadRegister q.1 = .ok q.2 := by decide +kernel
theorem dX8_loadRegister_0 : decode cX8_loadRegister 0 = .ok (.aload_n 0, 1) := DX8_loadRegister_0 (0, .aload_n 0, 1) (List.mem_of_getElem? (i := 0) rfl)
theorem dX8_loadRegister_1 : decode cX8_loadRegister 1 = .ok (.iconst 0, 1) := DX8_loadRegister_0 (1, .iconst 0, 1) (List.mem_of_getElem? (i := 1) rfl)
theorem dX8_loadRegister_2 : decode cX8_loadRegister 2 = .ok (.putfield 65, 3) := DX8_loadRegister_0 (2, .putfield 65, 3) (List.mem_of_getElem? (i := 2) rfl)
theorem dX8_loadRegister_5 : decode cX8_loadRegister 5 = .ok (.aload_n 0, 1) := DX8_loadRegister_0 (5, .aload_n 0, 1) (List.mem_of_getElem? (i := 3) rfl)
theorem dX8_loadRegister_6 : decode cX8_loadRegister 6 = .ok (.getfield 7, 3) := DX8_loadRegister_0 (6, .getfield 7, 3) (List.mem_of_getElem? (i := 4) rfl)
theorem dX8_loadRegister_9 : decode cX8_loadRegister 9 = .ok (.iconst 0, 1) := DX8_loadRegister_0 (9, .iconst 0, 1) (List.mem_of_getElem? (i := 5) rfl)
theorem dX8_loadRegister_10 : decode cX8_loadRegister 10 = .ok (.aload_n 0, 1) := DX8_loadRegister_0 (10, .aload_n 0, 1) (List.mem_of_getElem? (i := 6) rfl)
theorem dX8_loadRegister_11 : decode cX8_loadRegister 11 = .ok (.getfield 13, 3) := DX8_loadRegister_0 (11, .getfield 13, 3) (List.mem_of_getElem? (i := 7) rfl)
theorem dX8_loadRegister_14 : decode cX8_loadRegister 14 = .ok (.iconst 0, 1) := DX8_loadRegister_0 (14, .iconst 0, 1) (List.mem_of_getElem? (i := 8) rfl)
theorem dX8_loadRegister_15 : decode cX8_loadRegister 15 = .ok (.sipush 1233, 3) := DX8_loadRegister_0 (15, .sipush 1233, 3) (List.mem_of_getElem? (i := 9) rfl)
theorem dX8_loadRegister_18 : decode cX8_loadRegister 18 = .ok (.invokestatic 71, 3) := DX8_loadRegister_0 (18, .invokestatic 71, 3) (List.mem_of_getElem? (i := 10) rfl)
theorem dX8_loadRegister_21 : decode cX8_loadRegister 21 = .ok (.aload_n 0, 1) := DX8_loadRegister_0 (21, .aload_n 0, 1) (List.mem_of_getElem? (i := 11) rfl)
theorem dX8_loadRegister_22 : decode cX8_loadRegister 22 = .ok (.getfield 25, 3) := DX8_loadRegister_0 (22, .getfield 25, 3) (List.mem_of_getElem? (i := 12) rfl)
theorem dX8_loadRegister_25 : decode cX8_loadRegister 25 = .ok (.iconst 0, 1) := DX8_loadRegister_0 (25, .iconst 0, 1) (List.mem_of_getElem? (i := 13) rfl)
theorem dX8_loadRegister_26 : decode cX8_loadRegister 26 = .ok (.aload_n 0, 1) := DX8_loadRegister_0 (26, .aload_n 0, 1) (List.mem_of_getElem? (i := 14) rfl)
theorem dX8_loadRegister_27 : decode cX8_loadRegister 27 = .ok (.getfield 28, 3) := DX8_loadRegister_0 (27, .getfield 28, 3) (List.mem_of_getElem? (i := 15) rfl)
theorem dX8_loadRegister_30 : decode cX8_loadRegister 30 = .ok (.iconst 0, 1) := DX8_loadRegister_0 (30, .iconst 0, 1) (List.mem_of_getElem? (i := 16) rfl)
theorem dX8_loadRegister_31 : decode cX8_loadRegister 31 = .ok (.bipush 60, 2) := DX8_loadRegister_0 (31, .bipush 60, 2) (List.mem_of_getElem? (i := 17) rfl)
theorem dX8_loadRegister_33 : decode cX8_loadRegister 33 = .ok (.invokestatic 71, 3) := DX8_loadRegister_0 (33, .invokestatic 71, 3) (List.mem_of_getElem? (i := 18) rfl)
theorem dX8_loadRegister_36 : decode cX8_loadRegister 36 = .ok (.aload_n 0, 1) := DX8_loadRegister_0 (36, .aload_n 0, 1) (List.mem_of_getElem? (i := 19) rfl)
theorem dX8_loadRegister_37 : decode cX8_loadRegister 37 = .ok (.invokevirtual 62, 3) := DX8_loadRegister_0 (37, .invokevirtual 62, 3) (List.mem_of_getElem? (i := 20) rfl)
theorem dX8_loadRegister_40 : decode cX8_loadRegister 40 = .ok (.aload_n 0, 1) := DX8_loadRegister_0 (40, .aload_n 0, 1) (List.mem_of_getElem? (i := 21) rfl)
theorem dX8_loadRegister_41 : decode cX8_loadRegister 41 = .ok (.iconst 0, 1) := DX8_loadRegister_0 (41, .iconst 0, 1) (List.mem_of_getElem? (i := 22) rfl)
theorem dX8_loadRegister_42 : decode cX8_loadRegister 42 = .ok (.putfield 149, 3) := DX8_loadRegister_0 (42, .putfield 149, 3) (List.mem_of_getElem? (i := 23) rfl)
theorem dX8_loadRegister_45 : decode cX8_loadRegister 45 = .ok (.aload_n 0, 1) := DX8_loadRegister_0 (45, .aload_n 0, 1) (List.mem_of_getElem? (i := 24) rfl)
theorem dX8_loadRegister_46 : decode cX8_loadRegister 46 = .ok (.iconst (-1), 1) := DX8_loadRegister_0 (46, .iconst (-1), 1) (List.mem_of_getElem? (i := 25) rfl)
theorem dX8_loadRegister_47 : decode cX8_loadRegister 47 = .ok (.putfield 152, 3) := DX8_loadRegister_0 (47, .putfield 152, 3) (List.mem_of_getElem? (i := 26) rfl)
theorem dX8_loadRegister_50 : decode cX8_loadRegister 50 = .ok (.aload_n 0, 1) := DX8_loadRegister_0 (50, .aload_n 0, 1) (List.mem_of_getElem? (i := 27) rfl)
theorem dX8_loadRegister_51 : decode cX8_loadRegister 51 = .ok (.iconst 0, 1) := DX8_loadRegister_0 (51, .iconst 0, 1) (List.mem_of_getElem? (i := 28) rfl)
theorem dX8_loadRegister_52 : decode cX8_loadRegister 52 = .ok (.putfield 134, 3) := DX8_loadRegister_0 (52, .putfield 134, 3) (List.mem_of_getElem? (i := 29) rfl)
theorem dX8_loadRegister_55 : decode cX8_loadRegister 55 = .ok (.aload_n 0, 1) := DX8_loadRegister_0 (55, .aload_n 0, 1) (List.mem_of_getElem? (i := 30) rfl)
theorem dX8_loadRegister_56 : decode cX8_loadRegister 56 = .ok (.iconst 0, 1) := DX8_loadRegister_0 (56, .iconst 0, 1) (List.mem_of_getElem? (i := 31) rfl)
theorem dX8_loadRegister_57 : decode cX8_loadRegister 57 = .ok (.putfield 227, 3) := DX8_loadRegister_0 (57, .putfield 227, 3) (List.mem_of_getElem? (i := 32) rfl)
theorem dX8_loadRegister_60 : decode cX8_loadRegister 60 = .ok (.aload_n 0, 1) := DX8_loadRegister_0 (60, .aload_n 0, 1) (List.mem_of_getElem? (i := 33) rfl)
theorem dX8_loadRegister_61 : decode cX8_loadRegister 61 = .ok (.invokevirtual 171, 3) := DX8_loadRegister_0 (61, .invokevirtual 171, 3) (List.mem_of_getElem? (i := 34) rfl)
theorem dX8_loadRegister_64 : decode cX8_loadRegister 64 = .ok (.aload_n 0, 1) := DX8_loadRegister_0 (64, .aload_n 0, 1) (List.mem_of_getElem? (i := 35) rfl)
theorem dX8_loadRegister_65 : decode cX8_loadRegister 65 = .ok (.invokevirtual 252, 3) := DX8_loadRegister_0 (65, .invokevirtual 252, 3) (List.mem_of_getElem? (i := 36) rfl)
theorem dX8_loadRegister_68 : decode cX8_loadRegister 68 = .ok (.istore_n 1, 1) := DX8_loadRegister_0 (68, .istore_n 1, 1) (List.mem_of_getElem? (i := 37) rfl)
theorem dX8_loadRegister_69 : decode cX8_loadRegister 69 = .ok (.aload_n 0, 1) := DX8_loadRegister_0 (69, .aload_n 0, 1) (List.mem_of_getElem? (i := 38) rfl)
theorem dX8_loadRegister_70 : decode cX8_loadRegister 70 = .ok (.iconst 0, 1) := DX8_loadRegister_0 (70, .iconst 0, 1) (List.mem_of_getElem? (i := 39) rfl)
theorem DX8_loadRegister_1 : ∀ q ∈ ([(71, .putfield 127, 3), (74, .aload_n 0, 1), (75, .aload_n 0, 1), (76, .getfield 149, 3), (79, .putfield 255, 3), (82, .aload_n 0, 1), (83, .aload_n 0, 1), (84, .getfield 152, 3), (87, .putfield 46, 3), (90, .iload_n 1, 1), (91, .ifCond .ne 36, 3), (94, .aload_n 0, 1), (95, .getfield 13, 3), (98, .iconst 0, 1), (99, .aload_n 0, 1), (100, .getfield 7, 3), (103, .iconst 0, 1), (104, .sipush 1233, 3), (107, .invokestatic 71, 3), (110, .aload_n 0, 1), (111, .getfield 28, 3), (114, .iconst 0, 1), (115, .aload_n 0, 1), (116, .getfield 25, 3), (119, .iconst 0, 1), (120, .bipush 60, 2), (122, .invokestatic 71, 3), (125, .iconst (-1), 1), (126, .ireturn, 1), (127, .aload_n 0, 1), (128, .iconst 0, 1), (129, .putfield 68, 3), (132, .aload_n 0, 1), (133, .iconst 0, 1), (134, .putfield 258, 3), (137, .aload_n 0, 1), (138, .getfield 7, 3), (141, .iconst 2, 1), (142, .iaload, 1), (143, .ireturn, 1)] : List (Nat × Instr × Nat)), decode cX8_loadRegister q.1 = .ok q.2 := by decide +kernel
theorem dX8_loadRegister_71 : decode cX8_loadRegister 71 = .ok (.putfield 127, 3) := DX8_loadRegister_1 (71, .putfield 127, 3) (List.mem_of_getElem? (i := 0) rfl)
theorem dX8_loadRegister_74 : decode cX8_loadRegister 74 = .ok (.aload_n 0, 1) := DX8_loadRegister_1 (74, .aload_n 0, 1) (List.mem_of_getElem? (i := 1) rfl)
theorem dX8_loadRegister_75 : decode cX8_loadRegister 75 = .ok (.aload_n 0, 1) := DX8_loadRegister_1 (75, .aload_n 0, 1) (List.mem_of_getElem? (i := 2) rfl)
theorem dX8_loadRegister_76 : decode cX8_loadRegister 76 = .ok (.getfield 149, 3) := DX8_loadRegister_1 (76, .getfield 149, 3) (List.mem_of_getElem? (i := 3) rfl)
theorem dX8_loadRegister_79 : decode cX8_loadRegister 79 = .ok (.putfield 255, 3) := DX8_loadRegister_1 (79, .putfield 255, 3) (List.mem_of_getElem? (i := 4) rfl)
theorem dX8_loadRegister_82 : decode cX8_loadRegister 82 = .ok (.aload_n 0, 1) := DX8_loadRegister_1 (82, .aload_n 0, 1) (List.mem_of_getElem? (i := 5) rfl)
theorem dX8_loadRegister_83 : decode cX8_loadRegister 83 = .ok (.aload_n 0, 1) := DX8_loadRegister_1 (83, .aload_n 0, 1) (List.mem_of_getElem? (i := 6) rfl)
theorem dX8_loadRegister_84 : decode cX8_loadRegister 84 = .ok (.getfield 152, 3) := DX8_loadRegister_1 (84, .getfield 152, 3) (List.mem_of_getElem? (i := 7) rfl)
theorem dX8_loadRegister_87 : decode cX8_loadRegister 87 = .ok (.putfield 46, 3) := DX8_loadRegister_1 (87, .putfield 46, 3) (List.mem_of_getElem? (i := 8) rfl)
theorem dX8_loadRegister_90 : decode cX8_loadRegister 90 = .ok (.iload_n 1, 1) := DX8_loadRegister_1 (90, .iload_n 1, 1) (List.mem_of_getElem? (i := 9) rfl)
theorem dX8_loadRegister_91 : decode cX8_loadRegister 91 = .ok (.ifCond .ne 36, 3) := DX8_loadRegister_1 (91, .ifCond .ne 36, 3) (List.mem_of_getElem? (i := 10) rfl)
theorem dX8_loadRegister_94 : decode cX8_loadRegister 94 = .ok (.aload_n 0, 1) := DX8_loadRegister_1 (94, .aload_n 0, 1) (List.mem_of_getElem? (i := 11) rfl)
theorem dX8_loadRegister_95 : decode cX8_loadRegister 95 = .ok (.getfield 13, 3) := DX8_loadRegister_1 (95, .getfield 13, 3) (List.mem_of_getElem? (i := 12) rfl)
theorem dX8_loadRegister_98 : decode cX8_loadRegister 98 = .ok (.iconst 0, 1) := DX8_loadRegister_1 (98, .iconst 0, 1) (List.mem_of_getElem? (i := 13) rfl)
theorem dX8_loadRegister_99 : decode cX8_loadRegister 99 = .ok (.aload_n 0, 1) := DX8_loadRegister_1 (99, .aload_n 0, 1) (List.mem_of_getElem? (i := 14) rfl)
theorem dX8_loadRegister_100 : decode cX8_loadRegister 100 = .ok (.getfield 7, 3) := DX8_loadRegister_1 (100, .getfield 7, 3) (List.mem_of_getElem? (i := 15) rfl)
theorem dX8_loadRegister_103 : decode cX8_loadRegister 103 = .ok (.iconst 0, 1) := DX8_loadRegister_1 (103, .iconst 0, 1) (List.mem_of_getElem? (i := 16) rfl)
theorem dX8_loadRegister_104 : decode cX8_loadRegister 104 = .ok (.sipush 1233, 3) := DX8_loadRegister_1 (104, .sipush 1233, 3) (List.mem_of_getElem? (i := 17) rfl)
theorem dX8_loadRegister_107 : decode cX8_loadRegister 107 = .ok (.invokestatic 71, 3) := DX8_loadRegister_1 (107, .invokestatic 71, 3) (List.mem_of_getElem? (i := 18) rfl)
theorem dX8_loadRegister_110 : decode cX8_loadRegister 110 = .ok (.aload_n 0, 1) := DX8_loadRegister_1 (110, .aload_n 0, 1) (List.mem_of_getElem? (i := 19) rfl)
theorem dX8_loadRegister_111 : decode cX8_loadRegister 111 = .ok (.getfield 28, 3) := DX8_loadRegister_1 (111, .getfield 28, 3) (List.mem_of_getElem? (i := 20) rfl)
theorem dX8_loadRegister_114 : decode cX8_loadRegister 114 = .ok (.iconst 0, 1) := DX8_loadRegister_1 (114, .iconst 0, 1) (List.mem_of_getElem? (i := 21) rfl)
theorem dX8_loadRegister_115 : decode cX8_loadRegister 115 = .ok (.aload_n 0, 1) := DX8_loadRegister_1 (115, .aload_n 0, 1) (List.mem_of_getElem? (i := 22) rfl)
theorem dX8_loadRegister_116 : decode cX8_loadRegister 116 = .ok (.getfield 25, 3) := DX8_loadRegister_1 (116, .getfield 25, 3) (List.mem_of_getElem? (i := 23) rfl)
theorem dX8_loadRegister_119 : decode cX8_loadRegister 119 = .ok (.iconst 0, 1) := DX8_loadRegister_1 (119, .iconst 0, 1) (List.mem_of_getElem? (i := 24) rfl)
theorem dX8_loadRegister_120 : decode cX8_loadRegister 120 = .ok (.bipush 60, 2) := DX8_loadRegister_1 (120, .bipush 60, 2) (List.mem_of_getElem? (i := 25) rfl)
theorem dX8_loadRegister_122 : decode cX8_loadRegister 122 = .ok (.invokestatic 71, 3) := DX8_loadRegister_1 (122, .invokestatic 71, 3) (List.mem_of_getElem? (i := 26) rfl)
theorem dX8_loadRegister_125 : decode cX8_loadRegister 125 = .ok (.iconst (-1), 1) := DX8_loadRegister_1 (125, .iconst (-1), 1) (List.mem_of_getElem? (i := 27) rfl)
theorem dX8_loadRegister_126 : decode cX8_loadRegister 126 = .ok (.ireturn, 1) := DX8_loadRegister_1 (126, .ireturn, 1) (List.mem_of_getElem? (i := 28) rfl)
theorem dX8_loadRegister_127 : decode cX8_loadRegister 127 = .ok (.aload_n 0, 1) := DX8_loadRegister_1 (127, .aload_n 0, 1) (List.mem_of_getElem? (i := 29) rfl)
theorem dX8_loadRegister_128 : decode cX8_loadRegister 128 = .ok (.iconst 0, 1) := DX8_loadRegister_1 (128, .iconst 0, 1) (List.mem_of_getElem? (i := 30) rfl)
theorem dX8_loadRegister_129 : decode cX8_loadRegister 129 = .ok (.putfield 68, 3) := DX8_loadRegister_1 (129, .putfield 68, 3) (List.mem_of_getElem? (i := 31) rfl)
theorem dX8_loadRegister_132 : decode cX8_loadRegister 132 = .ok (.aload_n 0, 1) := DX8_loadRegister_1 (132, .aload_n 0, 1) (List.mem_of_getElem? (i := 32) rfl)
theorem dX8_loadRegister_133 : decode cX8_loadRegister 133 = .ok (.iconst 0, 1) := DX8_loadRegister_1 (133, .iconst 0, 1) (List.mem_of_getElem? (i := 33) rfl)
theorem dX8_loadRegister_134 : decode cX8_loadRegister 134 = .ok (.putfield 258, 3) := DX8_loadRegister_1 (134, .putfield 258, 3) (List.mem_of_getElem? (i := 34) rfl)
theorem dX8_loadRegister_137 : decode cX8_loadRegister 137 = .ok (.aload_n 0, 1) := DX8_loadRegister_1 (137, .aload_n 0, 1) (List.mem_of_getElem? (i := 35) rfl)
theorem dX8_loadRegister_138 : decode cX8_loadRegister 138 = .ok (.getfield 7, 3) := DX8_loadRegister_1 (138, .getfield 7, 3) (List.mem_of_getElem? (i := 36) rfl)
theorem dX8_loadRegister_141 : decode cX8_loadRegister 141 = .ok (.iconst 2, 1) := DX8_loadRegister_1 (141, .iconst 2, 1) (List.mem_of_getElem? (i := 37) rfl)
theorem dX8_loadRegister_142 : decode cX8_loadRegister 142 = .ok (.iaload, 1) := DX8_loadRegister_1 (142, .iaload, 1) (List.mem_of_getElem? (i := 38) rfl)
theorem dX8_loadRegister_143 : decode cX8_loadRegister 143 = .ok (.ireturn, 1) := DX8_loadRegister_1 (143, .ireturn, 1) (List.mem_of_getElem? (i := 39) rfl)
abbrev rmX8_loadRegister : Room := { frames := 12, cells := 0, slots := 0, locals := 479 }
set_option maxHeartbeats 400000 in
set_option maxRecDepth 100000 in
theorem met_X8_loadRegister (l : Launch) (D : va_G) (kA : Nat → ClassId) (a : Nat → Nat) (adK adV : Nat → Nat) (n : Nat) (V0 : Sz) (hDt : ∀ w : Sz, va_D (fun _ => True) (cs_X8 kA a w)) {r : Int} {Vr : Sz} (hf : f_X8_loadRegister n V0 = some (r, Vr)) : MZs l yX8_loadRegister cX8_loadRegister 2 (some .int) rmX8_loadRegister D kA adK adV [.ref (a 0)] (cs_X8 kA a V0) (cs_X8 kA a Vr) (some (vI r)) := by
  refine zZIs (own := RX8) rfl rfl (Nat.le_of_ble_eq_true rfl) ?_
  intro p e s m args below meth c ls Q hC hK hZ hP hl hret
  have hl : lv_has ls 2 [(0, .ref (a 0))] := hl
  have hS : va_S (zF (cs_X8 kA a V0)) s.heap s.heap [] := va_S.rf
  have hD := zDself (C := fun w : Sz => (cs_X8 kA a w)) hDt V0 (fun _ => rfl)
  try dsimp only at hD
  generalize hAe : zF (cs_X8 kA a V0) = A0 at hS hD hret hZ
  unfold f_X8_loadRegister at hf
  refine lv_aload_n hC.1 hC.2.1 dX8_loadRegister_0 rfl (lv_at hl 0 rfl) <| ziconst hC.1 hC.2.1 dX8_loadRegister_1 <| ?_
  refine pfX8_65 hC hK hP (hD V0) hS (q0 := 0) rfl (Nat.le_of_ble_eq_true rfl) dX8_loadRegister_2 (fun H locs hP hS => ?_)
  obtain ⟨V_1, eV_1⟩ : ∃ y, y = us V0 9 0 := ⟨_, rfl⟩
  have hf := nm_at hf eV_1
  have hP : va_P D vwCl (cs_X8 kA a V_1) H := by rw [eV_1]; exact hP
  refine lv_aload_n hC.1 hC.2.1 dX8_loadRegister_5 rfl (lv_at hl 0 rfl) <| gfX8_7 hC hK hP (q0 := 0) rfl rfl dX8_loadRegister_6 <| ziconst hC.1 hC.2.1 dX8_loadRegister_9 <| lv_aload_n hC.1 hC.2.1 dX8_loadRegister_10 rfl (lv_at hl 0 rfl) <| gfX8_13 hC hK hP (q0 := 0) rfl rfl dX8_loadRegister_11 <| ziconst hC.1 hC.2.1 dX8_loadRegister_14 <| zsipush hC.1 hC.2.1 dX8_loadRegister_15 (by decide) <| ?_
  obtain ⟨V_2, hu, hf⟩ := bd_some hf
  have hPc : va_P D vwCl ([((a 1), .inl (kA 0, 1233, .inl (aI (V_1 0))))] ++ ([((a 2), .inl (kA 0, 1233, .inl (aI (V_1 1))))])) _ := hP.sub [1, 2] rfl
  have hDc : ∀ w : (Nat → Int), va_D (fun _ => True) ([((a 1), .inl (kA 0, 1233, .inl (aI (V_1 0))))] ++ ([((a 2), .inl (kA 0, 1233, .inl (aI w)))])) := fun w => (hDt (uy V_1 1 w)).sub [1, 2] (by decide) rfl
  refine zcSZ (As := [.ref (a 1), vI 0, .ref (a 2), vI 0, vI 1233]) (rest := []) hC hK (met_X8_copies l D kA (a 1) (a 2) n 1233 1233 (V_1 0) (V_1 1) 0 0 1233 (Nat.le_of_ble_eq_true rfl) (Nat.le_of_ble_eq_true rfl) hDc hu) zwX8_71 hS (zFsub (hD V_1) [1, 2] rfl) hPc rfl hl.1 rfl (Nat.le_of_ble_eq_true rfl) ⟨Nat.le_of_ble_eq_true rfl, Nat.le_of_ble_eq_true rfl⟩ ⟨rfl, rfl⟩ ⟨Nat.le_refl _, Nat.le_refl _⟩ dX8_loadRegister_18 (fun H locs hP1 hk1 hS => ?_)
  obtain ⟨V_3, eV_3⟩ : ∃ y, y = uy V_1 1 V_2 := ⟨_, rfl⟩
  have hf := nm_at hf eV_3
  have hP : va_P D vwCl (cs_X8 kA a V_3) H := by rw [eV_3]; exact zjoin hP (hDt V_1) [1, 2] (w0 := ([((a 1), .inl (kA 0, 1233, .inl (aI (V_1 0))))] ++ ([((a 2), .inl (kA 0, 1233, .inl (aI (V_1 1))))]))) rfl (Nat.le_of_ble_eq_true rfl) hk1 hP1
  refine lv_aload_n hC.1 hC.2.1 dX8_loadRegister_21 rfl (lv_at hl 0 rfl) <| gfX8_25 hC hK hP (q0 := 0) rfl rfl dX8_loadRegister_22 <| ziconst hC.1 hC.2.1 dX8_loadRegister_25 <| lv_aload_n hC.1 hC.2.1 dX8_loadRegister_26 rfl (lv_at hl 0 rfl) <| gfX8_28 hC hK hP (q0 := 0) rfl rfl dX8_loadRegister_27 <| ziconst hC.1 hC.2.1 dX8_loadRegister_30 <| zbipush hC.1 hC.2.1 dX8_loadRegister_31 (by decide) <| ?_
  obtain ⟨V_4, hu, hf⟩ := bd_some hf
  have hPc : va_P D vwCl ([((a 6), .inl (kA 0, 60, .inl (aI (V_3 7))))] ++ ([((a 7), .inl (kA 0, 60, .inl (aI (V_3 8))))])) _ := hP.sub [6, 7] rfl
  have hDc : ∀ w : (Nat → Int), va_D (fun _ => True) ([((a 6), .inl (kA 0, 60, .inl (aI (V_3 7))))] ++ ([((a 7), .inl (kA 0, 60, .inl (aI w)))])) := fun w => (hDt (uy V_3 8 w)).sub [6, 7] (by decide) rfl
  refine zcSZ (As := [.ref (a 6), vI 0, .ref (a 7), vI 0, vI 60]) (rest := []) hC hK (met_X8_copies l D kA (a 6) (a 7) n 60 60 (V_3 7) (V_3 8) 0 0 60 (Nat.le_of_ble_eq_true rfl) (Nat.le_of_ble_eq_true rfl) hDc hu) zwX8_71 hS (zFsub (hD V_3) [6, 7] rfl) hPc rfl hl.1 rfl (Nat.le_of_ble_eq_true rfl) ⟨Nat.le_of_ble_eq_true rfl, Nat.le_of_ble_eq_true rfl⟩ ⟨rfl, rfl⟩ ⟨Nat.le_refl _, Nat.le_refl _⟩ dX8_loadRegister_33 (fun H locs hP1 hk1 hS => ?_)
  obtain ⟨V_5, eV_5⟩ : ∃ y, y = uy V_3 8 V_4 := ⟨_, rfl⟩
  have hf := nm_at hf eV_5
  have hP : va_P D vwCl (cs_X8 kA a V_5) H := by rw [eV_5]; exact zjoin hP (hDt V_3) [6, 7] (w0 := ([((a 6), .inl (kA 0, 60, .inl (aI (V_3 7))))] ++ ([((a 7), .inl (kA 0, 60, .inl (aI (V_3 8))))]))) rfl (Nat.le_of_ble_eq_true rfl) hk1 hP1
  refine lv_aload_n hC.1 hC.2.1 dX8_loadRegister_36 rfl (lv_at hl 0 rfl) <| ?_
  obtain ⟨V_6, hu, hf⟩ := bd_some hf
  have hDc := hDt
  refine zcVZ (As := []) (rest := []) hC hK (met_X8_clear l D kA a n V_5 hDc hu) zwX8_62 hS (zFsub (hD V_5) [0, 1, 2, 3, 4, 5, 6, 7, 8, 9, 10, 11, 12, 13, 14, 15, 16] rfl) hP (q0 := 0) rfl rfl rfl rfl hl.1 rfl (Nat.le_of_ble_eq_true rfl) ⟨Nat.le_of_ble_eq_true rfl, Nat.le_of_ble_eq_true rfl⟩ ⟨rfl, rfl⟩ ⟨Nat.le_refl _, Nat.le_refl _⟩ dX8_loadRegister_37 (fun H locs hP1 hk1 hS => ?_)
  have hP : va_P D vwCl (cs_X8 kA a V_6) H := hP1
  refine lv_aload_n hC.1 hC.2.1 dX8_loadRegister_40 rfl (lv_at hl 0 rfl) <| ziconst hC.1 hC.2.1 dX8_loadRegister_41 <| ?_
  refine pfX8_149 hC hK hP (hD V_6) hS (q0 := 0) rfl (Nat.le_of_ble_eq_true rfl) dX8_loadRegister_42 (fun H locs hP hS => ?_)
  obtain ⟨V_7, eV_7⟩ : ∃ y, y = us V_6 18 0 := ⟨_, rfl⟩
  have hf := nm_at hf eV_7
  have hP : va_P D vwCl (cs_X8 kA a V_7) H := by rw [eV_7]; exact hP
  refine lv_aload_n hC.1 hC.2.1 dX8_loadRegister_45 rfl (lv_at hl 0 rfl) <| ziconst hC.1 hC.2.1 dX8_loadRegister_46 <| ?_
  refine pfX8_152 hC hK hP (hD V_7) hS (q0 := 0) rfl (Nat.le_of_ble_eq_true rfl) dX8_loadRegister_47 (fun H locs hP hS => ?_)
  obtain ⟨V_8, eV_8⟩ : ∃ y, y = us V_7 19 (-1) := ⟨_, rfl⟩
  have hf := nm_at hf eV_8
  have hP : va_P D vwCl (cs_X8 kA a V_8) H := by rw [eV_8]; exact hP
  refine lv_aload_n hC.1 hC.2.1 dX8_loadRegister_50 rfl (lv_at hl 0 rfl) <| ziconst hC.1 hC.2.1 dX8_loadRegister_51 <| ?_
  refine pfX8_134 hC hK hP (hD V_8) hS (q0 := 0) rfl (Nat.le_of_ble_eq_true rfl) dX8_loadRegister_52 (fun H locs hP hS => ?_)
  obtain ⟨V_9, eV_9⟩ : ∃ y, y = us V_8 20 0 := ⟨_, rfl⟩
  have hf := nm_at hf eV_9
  have hP : va_P D vwCl (cs_X8 kA a V_9) H := by rw [eV_9]; exact hP
  refine lv_aload_n hC.1 hC.2.1 dX8_loadRegister_55 rfl (lv_at hl 0 rfl) <| ziconst hC.1 hC.2.1 dX8_loadRegister_56 <| ?_
  refine pfX8_227 hC hK hP (hD V_9) hS (q0 := 0) rfl (Nat.le_of_ble_eq_true rfl) (Or.inl rfl) dX8_loadRegister_57 (fun H locs hP hS => ?_)
  obtain ⟨V_10, eV_10⟩ : ∃ y, y = us V_9 24 0 := ⟨_, rfl⟩
  have hf := nm_at hf eV_10
  have hP : va_P D vwCl (cs_X8 kA a V_10) H := by rw [eV_10]; exact hP
  refine lv_aload_n hC.1 hC.2.1 dX8_loadRegister_60 rfl (lv_at hl 0 rfl) <| ?_
  obtain ⟨V_11, hu, hf⟩ := bd_some hf
  have hDc := hDt
  refine zcVZ (As := []) (rest := []) hC hK (met_X8_advanceToken l D kA a n V_10 hDc hu) zwX8_171 hS (zFsub (hD V_10) [0, 1, 2, 3, 4, 5, 6, 7, 8, 9, 10, 11, 12, 13, 14, 15, 16] rfl) hP (q0 := 0) rfl rfl rfl rfl hl.1 rfl (Nat.le_of_ble_eq_true rfl) ⟨Nat.le_of_ble_eq_true rfl, Nat.le_of_ble_eq_true rfl⟩ ⟨rfl, rfl⟩ ⟨Nat.le_refl _, Nat.le_refl _⟩ dX8_loadRegister_61 (fun H locs hP1 hk1 hS => ?_)
  have hP : va_P D vwCl (cs_X8 kA a V_11) H := hP1
  refine lv_aload_n hC.1 hC.2.1 dX8_loadRegister_64 rfl (lv_at hl 0 rfl) <| ?_
  obtain ⟨⟨r_12, V_13⟩, hu, hf⟩ := bd_some hf
  have hDc := hDt
  refine zcVZs (As := []) (rest := []) hC hK hZ (met_X8_readText l D kA a adK adV n V_11 hDc hu) zwX8_252 hS (zFsub (hD V_11) [0, 1, 2, 3, 4, 5, 6, 7, 8, 9, 10, 11, 12, 13, 14, 15, 16] rfl) hP (q0 := 0) rfl rfl rfl rfl hl.1 rfl (Nat.le_of_ble_eq_true rfl) ⟨Nat.le_of_ble_eq_true rfl, Nat.le_of_ble_eq_true rfl⟩ ⟨rfl, rfl⟩ ⟨Nat.le_refl _, Nat.le_refl _⟩ dX8_loadRegister_65 (fun H locs hP1 hk1 hS => ?_)
  have hP : va_P D vwCl (cs_X8 kA a V_13) H := hP1
  refine ztopi (fun x_14 ex_14 => ?_)
  have hf := nm_at hf ex_14
  refine zistore_n (lv' := [(1, vI x_14), (0, .ref (a 0))]) hC.1 hC.2.1 dX8_loadRegister_68 rfl hl (by decide) rfl (fun ls hl => ?_)
  refine lv_aload_n hC.1 hC.2.1 dX8_loadRegister_69 rfl (lv_at hl 1 rfl) <| ziconst hC.1 hC.2.1 dX8_loadRegister_70 <| ?_
  refine pfX8_127 hC hK hP (hD V_13) hS (q0 := 0) rfl (Nat.le_of_ble_eq_true rfl) dX8_loadRegister_71 (fun H locs hP hS => ?_)
  obtain ⟨V_15, eV_15⟩ : ∃ y, y = us V_13 15 0 := ⟨_, rfl⟩
  have hf := nm_at hf eV_15
  have hP : va_P D vwCl (cs_X8 kA a V_15) H := by rw [eV_15]; exact hP
  refine lv_aload_n hC.1 hC.2.1 dX8_loadRegister_74 rfl (lv_at hl 1 rfl) <| lv_aload_n hC.1 hC.2.1 dX8_loadRegister_75 rfl (lv_at hl 1 rfl) <| gfX8_149 hC hK hP (q0 := 0) rfl rfl dX8_loadRegister_76 <| ?_
  refine pfX8_255 hC hK hP (hD V_15) hS (q0 := 0) rfl (Nat.le_of_ble_eq_true rfl) dX8_loadRegister_79 (fun H locs hP hS => ?_)
  obtain ⟨V_16, eV_16⟩ : ∃ y, y = us V_15 16 (V_15 18 0) := ⟨_, rfl⟩
  have hf := nm_at hf eV_16
  have hP : va_P D vwCl (cs_X8 kA a V_16) H := by rw [eV_16]; exact hP
  refine lv_aload_n hC.1 hC.2.1 dX8_loadRegister_82 rfl (lv_at hl 1 rfl) <| lv_aload_n hC.1 hC.2.1 dX8_loadRegister_83 rfl (lv_at hl 1 rfl) <| gfX8_152 hC hK hP (q0 := 0) rfl rfl dX8_loadRegister_84 <| ?_
  refine pfX8_46 hC hK hP (hD V_16) hS (q0 := 0) rfl (Nat.le_of_ble_eq_true rfl) dX8_loadRegister_87 (fun H locs hP hS => ?_)
  obtain ⟨V_17, eV_17⟩ : ∃ y, y = us V_16 17 (V_16 19 0) := ⟨_, rfl⟩
  have hf := nm_at hf eV_17
  have hP : va_P D vwCl (cs_X8 kA a V_17) H := by rw [eV_17]; exact hP
  refine ziload_n hC.1 hC.2.1 dX8_loadRegister_90 rfl (lv_at hl 0 rfl) <| ?_
  obtain ⟨hz_18, hf⟩ := ck_some hf
  refine zif_ne (tgt := 127) hC.1 hC.2.1 hz_18 dX8_loadRegister_91 (by decide) (fun hc => ?_) (fun hc => ?_)
  · have hf := it_f hf hc
    refine lv_aload_n hC.1 hC.2.1 dX8_loadRegister_127 rfl (lv_at hl 1 rfl) <| ziconst hC.1 hC.2.1 dX8_loadRegister_128 <| ?_
    refine pfX8_68 hC hK hP (hD V_17) hS (q0 := 0) rfl (Nat.le_of_ble_eq_true rfl) dX8_loadRegister_129 (fun H locs hP hS => ?_)
    obtain ⟨V_19, eV_19⟩ : ∃ y, y = us V_17 5 0 := ⟨_, rfl⟩
    have hf := nm_at hf eV_19
    have hP : va_P D vwCl (cs_X8 kA a V_19) H := by rw [eV_19]; exact hP
    refine lv_aload_n hC.1 hC.2.1 dX8_loadRegister_132 rfl (lv_at hl 1 rfl) <| ziconst hC.1 hC.2.1 dX8_loadRegister_133 <| ?_
    refine pfX8_258 hC hK hP (hD V_19) hS (q0 := 0) rfl (Nat.le_of_ble_eq_true rfl) (Or.inl rfl) dX8_loadRegister_134 (fun H locs hP hS => ?_)
    obtain ⟨V_20, eV_20⟩ : ∃ y, y = us V_19 6 0 := ⟨_, rfl⟩
    have hf := nm_at hf eV_20
    have hP : va_P D vwCl (cs_X8 kA a V_20) H := by rw [eV_20]; exact hP
    refine lv_aload_n hC.1 hC.2.1 dX8_loadRegister_137 rfl (lv_at hl 1 rfl) <| gfX8_7 hC hK hP (q0 := 0) rfl rfl dX8_loadRegister_138 <| ziconst hC.1 hC.2.1 dX8_loadRegister_141 <| jal hC hK hP (q0 := 1) rfl (Nat.le_of_ble_eq_true rfl) (by decide) rfl dX8_loadRegister_142 <| ?_
    have hf := Option.some.inj hf
    simp only [Prod.mk.injEq] at hf
    exact hret (Int32.ofInt (V_20 0 2)) _ _ _ _ (congrArg (fun z => some (vI z)) hf.1.symm) (by rw [← hf.2]; exact hP) hS dX8_loadRegister_143
  · have hf := it_t hf hc
    refine lv_aload_n hC.1 hC.2.1 dX8_loadRegister_94 rfl (lv_at hl 1 rfl) <| gfX8_13 hC hK hP (q0 := 0) rfl rfl dX8_loadRegister_95 <| ziconst hC.1 hC.2.1 dX8_loadRegister_98 <| lv_aload_n hC.1 hC.2.1 dX8_loadRegister_99 rfl (lv_at hl 1 rfl) <| gfX8_7 hC hK hP (q0 := 0) rfl rfl dX8_loadRegister_100 <| ziconst hC.1 hC.2.1 dX8_loadRegister_103 <| zsipush hC.1 hC.2.1 dX8_loadRegister_104 (by decide) <| ?_
    obtain ⟨V_21, hu, hf⟩ := bd_some hf
    have hPc : va_P D vwCl ([((a 2), .inl (kA 0, 1233, .inl (aI (V_17 1))))] ++ ([((a 1), .inl (kA 0, 1233, .inl (aI (V_17 0))))])) _ := hP.sub [2, 1] rfl
    have hDc : ∀ w : (Nat → Int), va_D (fun _ => True) ([((a 2), .inl (kA 0, 1233, .inl (aI (V_17 1))))] ++ ([((a 1), .inl (kA 0, 1233, .inl (aI w)))])) := fun w => (hDt (uy V_17 0 w)).sub [2, 1] (by decide) rfl
    refine zcSZ (As := [.ref (a 2), vI 0, .ref (a 1), vI 0, vI 1233]) (rest := []) hC hK (met_X8_copies l D kA (a 2) (a 1) n 1233 1233 (V_17 1) (V_17 0) 0 0 1233 (Nat.le_of_ble_eq_true rfl) (Nat.le_of_ble_eq_true rfl) hDc hu) zwX8_71 hS (zFsub (hD V_17) [2, 1] rfl) hPc rfl hl.1 rfl (Nat.le_of_ble_eq_true rfl) ⟨Nat.le_of_ble_eq_true rfl, Nat.le_of_ble_eq_true rfl⟩ ⟨rfl, rfl⟩ ⟨Nat.le_refl _, Nat.le_refl _⟩ dX8_loadRegister_107 (fun H locs hP1 hk1 hS => ?_)
    obtain ⟨V_22, eV_22⟩ : ∃ y, y = uy V_17 0 V_21 := ⟨_, rfl⟩
    have hf := nm_at hf eV_22
    have hP : va_P D vwCl (cs_X8 kA a V_22) H := by rw [eV_22]; exact zjoin hP (hDt V_17) [2, 1] (w0 := ([((a 2), .inl (kA 0, 1233, .inl (aI (V_17 1))))] ++ ([((a 1), .inl (kA 0, 1233, .inl (aI (V_17 0))))]))) rfl (Nat.le_of_ble_eq_true rfl) hk1 hP1
    refine lv_aload_n hC.1 hC.2.1 dX8_loadRegister_110 rfl (lv_at hl 1 rfl) <| gfX8_28 hC hK hP (q0 := 0) rfl rfl dX8_loadRegister_111 <| ziconst hC.1 hC.2.1 dX8_loadRegister_114 <| lv_aload_n hC.1 hC.2.1 dX8_loadRegister_115 rfl (lv_at hl 1 rfl) <| gfX8_25 hC hK hP (q0 := 0) rfl rfl dX8_loadRegister_116 <| ziconst hC.1 hC.2.1 dX8_loadRegister_119 <| zbipush hC.1 hC.2.1 dX8_loadRegister_120 (by decide) <| ?_
    obtain ⟨V_23, hu, hf⟩ := bd_some hf
    have hPc : va_P D vwCl ([((a 7), .inl (kA 0, 60, .inl (aI (V_22 8))))] ++ ([((a 6), .inl (kA 0, 60, .inl (aI (V_22 7))))])) _ := hP.sub [7, 6] rfl
    have hDc : ∀ w : (Nat → Int), va_D (fun _ => True) ([((a 7), .inl (kA 0, 60, .inl (aI (V_22 8))))] ++ ([((a 6), .inl (kA 0, 60, .inl (aI w)))])) := fun w => (hDt (uy V_22 7 w)).sub [7, 6] (by decide) rfl
    refine zcSZ (As := [.ref (a 7), vI 0, .ref (a 6), vI 0, vI 60]) (rest := []) hC hK (met_X8_copies l D kA (a 7) (a 6) n 60 60 (V_22 8) (V_22 7) 0 0 60 (Nat.le_of_ble_eq_true rfl) (Nat.le_of_ble_eq_true rfl) hDc hu) zwX8_71 hS (zFsub (hD V_22) [7, 6] rfl) hPc rfl hl.1 rfl (Nat.le_of_ble_eq_true rfl) ⟨Nat.le_of_ble_eq_true rfl, Nat.le_of_ble_eq_true rfl⟩ ⟨rfl, rfl⟩ ⟨Nat.le_refl _, Nat.le_refl _⟩ dX8_loadRegister_122 (fun H locs hP1 hk1 hS => ?_)
    obtain ⟨V_24, eV_24⟩ : ∃ y, y = uy V_22 7 V_23 := ⟨_, rfl⟩
    have hf := nm_at hf eV_24
    have hP : va_P D vwCl (cs_X8 kA a V_24) H := by rw [eV_24]; exact zjoin hP (hDt V_22) [7, 6] (w0 := ([((a 7), .inl (kA 0, 60, .inl (aI (V_22 8))))] ++ ([((a 6), .inl (kA 0, 60, .inl (aI (V_22 7))))]))) rfl (Nat.le_of_ble_eq_true rfl) hk1 hP1
    refine ziconst hC.1 hC.2.1 dX8_loadRegister_125 <| ?_
    have hf := Option.some.inj hf
    simp only [Prod.mk.injEq] at hf
    exact hret (Int32.ofInt (-1)) _ _ _ _ (congrArg (fun z => some (vI z)) hf.1.symm) (by rw [← hf.2]; exact hP) hS dX8_loadRegister_126
