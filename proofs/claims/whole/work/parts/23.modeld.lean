def jX8_neededSpan_177 (n : Nat) (x1 : Int) (x2 : Int) (rec41 : Int × Int × Int × Int × Sz → Option (Int × Sz)) (rec55 : Int × Int × Int × Int × Int × Sz → Option (Int × Sz)) (y3 : Int) (y4 : Int) (y5 : Int) (y6 : Int) (y7 : Int) (V : Sz) : Option (Int × Sz) := nm (y7 + 1) fun (x_17 : Int) => rec55 (y3, y4, y5, y6, x_17, V)
def jX8_neededSpan_130 (n : Nat) (x1 : Int) (x2 : Int) (rec41 : Int × Int × Int × Int × Sz → Option (Int × Sz)) (rec55 : Int × Int × Int × Int × Int × Sz → Option (Int × Sz)) (y3 : Int) (y4 : Int) (y5 : Int) (y6 : Int) (y7 : Int) (y8 : Int) (y9 : Int) (V : Sz) : Option (Int × Sz) := bd (f_X8_isDonorThere n V x1 y6) fun (r_19 : Bool) => if r_19 = false then (jX8_neededSpan_177 n x1 x2 rec41 rec55 y3 y4 y5 y6 y7 V) else (bd (f_X8_isDonorThere n V x1 y7) fun (r_20 : Bool) => if r_20 = true then (bd (f_X8_aidWith n V x1 y8 y9) fun ((r_21, V_22) : Int × Sz) => ck (rng r_21 ∧ rng y3) <| if r_21 = y3 then (jX8_neededSpan_177 n x1 x2 rec41 rec55 y3 y8 y9 y6 y7 V_22) else (jX8_neededSpan_177 n x1 x2 rec41 rec55 y3 y4 y5 y6 y7 V_22)) else (jX8_neededSpan_177 n x1 x2 rec41 rec55 y3 y4 y5 y6 y7 V))
def bX8_neededSpan_55 (n : Nat) (x1 : Int) (x2 : Int) (rec41 : Int × Int × Int × Int × Sz → Option (Int × Sz)) (rec55 : Int × Int × Int × Int × Int × Sz → Option (Int × Sz)) : Int × Int × Int × Int × Int × Sz → Option (Int × Sz) := fun (y3, y4, y5, y6, y7, V) => ck (rng y7 ∧ rng (V 0 2)) <| if V 0 2 ≤ y7 then (nm (y6 + 1) fun (x_11 : Int) => rec41 (y3, y4, y5, x_11, V)) else (ck (inZ (113 + y6) 1233) <| nm (V 0 (113 + y6).toNat) fun (x_13 : Int) => ck (inZ (113 + y7) 1233) <| nm (V 0 (113 + y7).toNat) fun (x_15 : Int) => ck (rng x_15 ∧ rng x_13) <| if x_15 < x_13 then (jX8_neededSpan_177 n x1 x2 rec41 rec55 y3 y4 y5 y6 y7 V) else (ck (rng (x_15 - x_13) ∧ rng (y5 - y4)) <| if y5 - y4 < x_15 - x_13 then (jX8_neededSpan_177 n x1 x2 rec41 rec55 y3 y4 y5 y6 y7 V) else (if x_15 - x_13 = y5 - y4 then (ck (rng y4) <| if y4 ≤ x_13 then (jX8_neededSpan_177 n x1 x2 rec41 rec55 y3 y4 y5 y6 y7 V) else (jX8_neededSpan_130 n x1 x2 rec41 rec55 y3 y4 y5 y6 y7 x_13 x_15 V)) else (jX8_neededSpan_130 n x1 x2 rec41 rec55 y3 y4 y5 y6 y7 x_13 x_15 V))))
theorem bX8_neededSpan_55_e (n : Nat) (x1 : Int) (x2 : Int) (rec41 : Int × Int × Int × Int × Sz → Option (Int × Sz)) (rec55 : Int × Int × Int × Int × Int × Sz → Option (Int × Sz)) (y3 : Int) (y4 : Int) (y5 : Int) (y6 : Int) (y7 : Int) (V : Sz) : bX8_neededSpan_55 n x1 x2 rec41 rec55 (y3, y4, y5, y6, y7, V) = (ck (rng y7 ∧ rng (V 0 2)) <| if V 0 2 ≤ y7 then (nm (y6 + 1) fun (x_11 : Int) => rec41 (y3, y4, y5, x_11, V)) else (ck (inZ (113 + y6) 1233) <| nm (V 0 (113 + y6).toNat) fun (x_13 : Int) => ck (inZ (113 + y7) 1233) <| nm (V 0 (113 + y7).toNat) fun (x_15 : Int) => ck (rng x_15 ∧ rng x_13) <| if x_15 < x_13 then (jX8_neededSpan_177 n x1 x2 rec41 rec55 y3 y4 y5 y6 y7 V) else (ck (rng (x_15 - x_13) ∧ rng (y5 - y4)) <| if y5 - y4 < x_15 - x_13 then (jX8_neededSpan_177 n x1 x2 rec41 rec55 y3 y4 y5 y6 y7 V) else (if x_15 - x_13 = y5 - y4 then (ck (rng y4) <| if y4 ≤ x_13 then (jX8_neededSpan_177 n x1 x2 rec41 rec55 y3 y4 y5 y6 y7 V) else (jX8_neededSpan_130 n x1 x2 rec41 rec55 y3 y4 y5 y6 y7 x_13 x_15 V)) else (jX8_neededSpan_130 n x1 x2 rec41 rec55 y3 y4 y5 y6 y7 x_13 x_15 V))))) := rfl
def bX8_neededSpan_41 (n : Nat) (x1 : Int) (x2 : Int) (rec41 : Int × Int × Int × Int × Sz → Option (Int × Sz)) : Int × Int × Int × Int × Sz → Option (Int × Sz) := fun (y3, y4, y5, y6, V) => ck (rng y6 ∧ rng (V 0 2)) <| if V 0 2 ≤ y6 then (ck (rng x2) <| if x2 = 0 then (some (y4, V)) else (some (y5, V))) else (lpF (bX8_neededSpan_55 n x1 x2 rec41) n (y3, y4, y5, y6, 0, V))
theorem bX8_neededSpan_41_e (n : Nat) (x1 : Int) (x2 : Int) (rec41 : Int × Int × Int × Int × Sz → Option (Int × Sz)) (y3 : Int) (y4 : Int) (y5 : Int) (y6 : Int) (V : Sz) : bX8_neededSpan_41 n x1 x2 rec41 (y3, y4, y5, y6, V) = (ck (rng y6 ∧ rng (V 0 2)) <| if V 0 2 ≤ y6 then (ck (rng x2) <| if x2 = 0 then (some (y4, V)) else (some (y5, V))) else (lpF (bX8_neededSpan_55 n x1 x2 rec41) n (y3, y4, y5, y6, 0, V))) := rfl
def f_X8_neededSpan (n : Nat) (V0 : Sz) (x1 : Int) (x2 : Int) : Option (Int × Sz) := bd (f_X8_noDonor V0 x1) fun ((r_1, V_2) : Bool × Sz) => if r_1 = false then (bd (f_X8_aidWith n V_2 x1 0 9999) fun ((r_3, V_4) : Int × Sz) => bd (f_X8_allAid n V_4) fun ((r_5, V_6) : Int × Sz) => ck (rng r_3 ∧ rng r_5) <| if r_3 = r_5 then (some ((-1), V_6)) else (lpF (bX8_neededSpan_41 n x1 x2) n (r_3, 0, 9999, 0, V_6))) else (some (0, V_2))
def f_X8_gainOfSplit (n : Nat) (V0 : Sz) (x1 : Int) (x2 : Int) : Option (Int × Sz) := bd (f_X8_noGift V0 x1) fun ((r_1, V_2) : Bool × Sz) => if r_1 = true then (some (0, V_2)) else (bd (f_X8_noDonor V_2 x2) fun ((r_3, V_4) : Bool × Sz) => if r_3 = true then (some (0, V_4)) else (bd (f_X8_canSplit V_4 x1) fun (r_5 : Bool) => if r_5 = false then (some (0, V_4)) else (bd (f_X8_isDonorOf V_4 x1 x2) fun (r_6 : Bool) => if r_6 = false then (bd (f_X8_allAid n V_4) fun ((r_7, V_8) : Int × Sz) => bd (f_X8_begins n V_8) fun (V_9 : Sz) => bd (f_X8_splits n V_9 x1 1 x2 1) fun (V_10 : Sz) => bd (f_X8_allAid n V_10) fun ((r_11, V_12) : Int × Sz) => bd (f_X8_ends n V_12) fun (V_13 : Sz) => some (r_11 - r_7, V_13)) else (some (0, V_4)))))
def bX8_draws_156 (n : Nat) (x1 : Int) (x2 : Int) (rec75 : Int × Sz → Option (Sz)) (rec156 : Int × Int × Sz → Option (Sz)) : Int × Int × Sz → Option (Sz) := fun (y3, y5, V) => ck (rng y5 ∧ rng (V 27 0)) <| if V 27 0 ≤ y5 then (rec75 (y3, V)) else (ck (inZ (y5 + 1) 180) <| ck (inZ y5 180) <| nm (uz V 26 y5.toNat (V 26 (y5 + 1).toNat)) fun (V_19 : Sz) => nm (y5 + 1) fun (x_20 : Int) => rec156 (y3, x_20, V_19))
theorem bX8_draws_156_e (n : Nat) (x1 : Int) (x2 : Int) (rec75 : Int × Sz → Option (Sz)) (rec156 : Int × Int × Sz → Option (Sz)) (y3 : Int) (y5 : Int) (V : Sz) : bX8_draws_156 n x1 x2 rec75 rec156 (y3, y5, V) = (ck (rng y5 ∧ rng (V 27 0)) <| if V 27 0 ≤ y5 then (rec75 (y3, V)) else (ck (inZ (y5 + 1) 180) <| ck (inZ y5 180) <| nm (uz V 26 y5.toNat (V 26 (y5 + 1).toNat)) fun (V_19 : Sz) => nm (y5 + 1) fun (x_20 : Int) => rec156 (y3, x_20, V_19))) := rfl
def bX8_draws_75 (n : Nat) (x1 : Int) (x2 : Int) (rec75 : Int × Sz → Option (Sz)) : Int × Sz → Option (Sz) := fun (y3, V) => ck (rng (V 29 0) ∧ rng x1) <| if x1 ≤ V 29 0 then (some V) else (ck (rng (V 27 0)) <| if V 27 0 ≤ 0 then (some V) else (nm (((y3 * 1103515245) + 12345) % 2147483648) fun (x_7 : Int) => ck (0 ≤ x_7 ∧ x_7 < 2147483648) <| ck (dvI (x_7 / 65536) (V 27 0)) <| nm ((x_7 / 65536) % (V 27 0)) fun (x_10 : Int) => ck (inZ x_10 180) <| ck (inZ (V 29 0) 60) <| nm (uz V 28 (V 29 0).toNat (V 26 x_10.toNat)) fun (V_13 : Sz) => nm (us V_13 29 ((V_13 29 0) + 1)) fun (V_14 : Sz) => nm (us V_14 27 ((V_14 27 0) - 1)) fun (V_15 : Sz) => lpF (bX8_draws_156 n x1 x2 rec75) n (x_7, x_10, V_15)))
theorem bX8_draws_75_e (n : Nat) (x1 : Int) (x2 : Int) (rec75 : Int × Sz → Option (Sz)) (y3 : Int) (V : Sz) : bX8_draws_75 n x1 x2 rec75 (y3, V) = (ck (rng (V 29 0) ∧ rng x1) <| if x1 ≤ V 29 0 then (some V) else (ck (rng (V 27 0)) <| if V 27 0 ≤ 0 then (some V) else (nm (((y3 * 1103515245) + 12345) % 2147483648) fun (x_7 : Int) => ck (0 ≤ x_7 ∧ x_7 < 2147483648) <| ck (dvI (x_7 / 65536) (V 27 0)) <| nm ((x_7 / 65536) % (V 27 0)) fun (x_10 : Int) => ck (inZ x_10 180) <| ck (inZ (V 29 0) 60) <| nm (uz V 28 (V 29 0).toNat (V 26 x_10.toNat)) fun (V_13 : Sz) => nm (us V_13 29 ((V_13 29 0) + 1)) fun (V_14 : Sz) => nm (us V_14 27 ((V_14 27 0) - 1)) fun (V_15 : Sz) => lpF (bX8_draws_156 n x1 x2 rec75) n (x_7, x_10, V_15)))) := rfl
def jX8_draws_62 (n : Nat) (x1 : Int) (x2 : Int) (rec11 : Int × Sz → Option (Sz)) (y3 : Int) (V : Sz) : Option (Sz) := nm (y3 + 1) fun (x_22 : Int) => rec11 (x_22, V)
def bX8_draws_11 (n : Nat) (x1 : Int) (x2 : Int) (rec11 : Int × Sz → Option (Sz)) : Int × Sz → Option (Sz) := fun (y3, V) => ck (rng y3) <| if 180 ≤ y3 then (nm (us V 29 0) fun (V_4 : Sz) => lpF (bX8_draws_75 n x1 x2) n (x2, V_4)) else (bd (f_X8_isPart V y3) fun (r_21 : Bool) => if r_21 = false then (jX8_draws_62 n x1 x2 rec11 y3 V) else (ck (inZ (953 + y3) 1233) <| ck (rng (V 0 (953 + y3).toNat)) <| if V 0 (953 + y3).toNat = 0 then (jX8_draws_62 n x1 x2 rec11 y3 V) else (ck (inZ (V 27 0) 180) <| nm (uz V 26 (V 27 0).toNat y3) fun (V_26 : Sz) => nm (us V_26 27 ((V_26 27 0) + 1)) fun (V_27 : Sz) => jX8_draws_62 n x1 x2 rec11 y3 V_27)))
theorem bX8_draws_11_e (n : Nat) (x1 : Int) (x2 : Int) (rec11 : Int × Sz → Option (Sz)) (y3 : Int) (V : Sz) : bX8_draws_11 n x1 x2 rec11 (y3, V) = (ck (rng y3) <| if 180 ≤ y3 then (nm (us V 29 0) fun (V_4 : Sz) => lpF (bX8_draws_75 n x1 x2) n (x2, V_4)) else (bd (f_X8_isPart V y3) fun (r_21 : Bool) => if r_21 = false then (jX8_draws_62 n x1 x2 rec11 y3 V) else (ck (inZ (953 + y3) 1233) <| ck (rng (V 0 (953 + y3).toNat)) <| if V 0 (953 + y3).toNat = 0 then (jX8_draws_62 n x1 x2 rec11 y3 V) else (ck (inZ (V 27 0) 180) <| nm (uz V 26 (V 27 0).toNat y3) fun (V_26 : Sz) => nm (us V_26 27 ((V_26 27 0) + 1)) fun (V_27 : Sz) => jX8_draws_62 n x1 x2 rec11 y3 V_27)))) := rfl
def f_X8_draws (n : Nat) (V0 : Sz) (x1 : Int) (x2 : Int) : Option (Sz) := bd (f_X8_laysAid n V0) fun (V_1 : Sz) => nm (us V_1 27 0) fun (V_2 : Sz) => lpF (bX8_draws_11 n x1 x2) n (0, V_2)
def jX8_noSample_21 (x1 : Int) (V : Sz) (z0 : Int) : Option (Bool × Sz) := bd (f_X8_fails V z0 1) fun ((r_3, V_4) : Bool × Sz) => some (r_3, V_4)
def f_X8_noSample (V0 : Sz) (x1 : Int) : Option (Bool × Sz) := nm (us V0 9 0) fun (V_1 : Sz) => bd (f_X8_inRange x1 1 60) fun (r_2 : Bool) => if r_2 = true then (jX8_noSample_21 x1 V_1 0) else (jX8_noSample_21 x1 V_1 1)
def f_X8_sample (n : Nat) (V0 : Sz) (x1 : Int) (x2 : Int) (x3 : Int) : Option (Int × Sz) := bd (f_X8_noSample V0 x1) fun ((r_1, V_2) : Bool × Sz) => if r_1 = false then (bd (f_X8_draws n V_2 x1 x2) fun (V_3 : Sz) => bd (f_X8_inRange x3 0 ((V_3 29 0) - 1)) fun (r_4 : Bool) => if r_4 = false then (some ((-1), V_3)) else (ck (inZ x3 60) <| some (V_3 28 x3.toNat, V_3))) else (some (0, V_2))
def jX8_wrongIn_50 (n : Nat) (x1 : Int) (x2 : Int) (rec21 : Int × Int × Sz → Option (Int × Sz)) (y4 : Int) (V : Sz) (z0 : Int) (z1 : Int) : Option (Int × Sz) := nm (z1 + z0) fun (x_8 : Int) => nm (y4 + 1) fun (x_9 : Int) => rec21 (x_8, x_9, V)
def bX8_wrongIn_21 (n : Nat) (x1 : Int) (x2 : Int) (rec21 : Int × Int × Sz → Option (Int × Sz)) : Int × Int × Sz → Option (Int × Sz) := fun (y3, y4, V) => ck (rng y4 ∧ rng (V 29 0)) <| if V 29 0 ≤ y4 then (some (y3, V)) else (ck (inZ y4 60) <| bd (f_X8_over V (V 28 y4.toNat)) fun (r_6 : Int) => ck (rng r_6) <| if r_6 ≤ 0 then (jX8_wrongIn_50 n x1 x2 rec21 y4 V 0 y3) else (jX8_wrongIn_50 n x1 x2 rec21 y4 V 1 y3))
theorem bX8_wrongIn_21_e (n : Nat) (x1 : Int) (x2 : Int) (rec21 : Int × Int × Sz → Option (Int × Sz)) (y3 : Int) (y4 : Int) (V : Sz) : bX8_wrongIn_21 n x1 x2 rec21 (y3, y4, V) = (ck (rng y4 ∧ rng (V 29 0)) <| if V 29 0 ≤ y4 then (some (y3, V)) else (ck (inZ y4 60) <| bd (f_X8_over V (V 28 y4.toNat)) fun (r_6 : Int) => ck (rng r_6) <| if r_6 ≤ 0 then (jX8_wrongIn_50 n x1 x2 rec21 y4 V 0 y3) else (jX8_wrongIn_50 n x1 x2 rec21 y4 V 1 y3))) := rfl
def f_X8_wrongIn (n : Nat) (V0 : Sz) (x1 : Int) (x2 : Int) : Option (Int × Sz) := bd (f_X8_noSample V0 x1) fun ((r_1, V_2) : Bool × Sz) => if r_1 = false then (bd (f_X8_draws n V_2 x1 x2) fun (V_3 : Sz) => lpF (bX8_wrongIn_21 n x1 x2) n (0, 0, V_3)) else (some (0, V_2))
def f_X8_write (V0 : Sz) (x1 : Int) : Option (Sz) := ck (inZ (V0 31 0) 1400) <| nm (uz V0 30 (V0 31 0).toNat x1) fun (V_2 : Sz) => nm (us V_2 31 ((V_2 31 0) + 1)) fun (V_3 : Sz) => some V_3
def bX8_writeNumber_18 (n : Nat) (x1 : Int) (rec18 : Int × Sz → Option (Sz)) : Int × Sz → Option (Sz) := fun (y2, V) => ck (rng y2) <| if y2 ≤ 0 then (some V) else (ck (dvI x1 y2) <| ck (0 ≤ x1 / y2 ∧ x1 / y2 < 2147483648) <| bd (f_X8_write V (48 + ((x1 / y2) % 10))) fun (V_6 : Sz) => ck (0 ≤ y2 ∧ y2 < 2147483648) <| nm (y2 / 10) fun (x_8 : Int) => rec18 (x_8, V_6))
theorem bX8_writeNumber_18_e (n : Nat) (x1 : Int) (rec18 : Int × Sz → Option (Sz)) (y2 : Int) (V : Sz) : bX8_writeNumber_18 n x1 rec18 (y2, V) = (ck (rng y2) <| if y2 ≤ 0 then (some V) else (ck (dvI x1 y2) <| ck (0 ≤ x1 / y2 ∧ x1 / y2 < 2147483648) <| bd (f_X8_write V (48 + ((x1 / y2) % 10))) fun (V_6 : Sz) => ck (0 ≤ y2 ∧ y2 < 2147483648) <| nm (y2 / 10) fun (x_8 : Int) => rec18 (x_8, V_6))) := rfl
def bX8_writeNumber_2 (n : Nat) (x1 : Int) (rec2 : Int × Sz → Option (Sz)) : Int × Sz → Option (Sz) := fun (y2, V) => ck (dvI x1 y2) <| ck (rng (x1 / y2)) <| if x1 / y2 ≤ 9 then (lpF (bX8_writeNumber_18 n x1) n (y2, V)) else (nm (y2 * 10) fun (x_9 : Int) => rec2 (x_9, V))
theorem bX8_writeNumber_2_e (n : Nat) (x1 : Int) (rec2 : Int × Sz → Option (Sz)) (y2 : Int) (V : Sz) : bX8_writeNumber_2 n x1 rec2 (y2, V) = (ck (dvI x1 y2) <| ck (rng (x1 / y2)) <| if x1 / y2 ≤ 9 then (lpF (bX8_writeNumber_18 n x1) n (y2, V)) else (nm (y2 * 10) fun (x_9 : Int) => rec2 (x_9, V))) := rfl
def f_X8_writeNumber (n : Nat) (V0 : Sz) (x1 : Int) : Option (Sz) := lpF (bX8_writeNumber_2 n x1) n (1, V0)
def jX8_printStatement_99 (n : Nat) (x1 : Int) (rec21 : Int × Sz → Option (Int × Sz)) (y2 : Int) (V : Sz) : Option (Int × Sz) := nm (y2 + 1) fun (x_7 : Int) => rec21 (x_7, V)
def bX8_printStatement_21 (n : Nat) (x1 : Int) (rec21 : Int × Sz → Option (Int × Sz)) : Int × Sz → Option (Int × Sz) := fun (y2, V) => ck (rng y2) <| if 180 ≤ y2 then (some (V 31 0, V)) else (bd (f_X8_isPart V y2) fun (r_6 : Bool) => if r_6 = false then (jX8_printStatement_99 n x1 rec21 y2 V) else (ck (inZ (413 + y2) 1233) <| ck (rng (V 0 (413 + y2).toNat) ∧ rng x1) <| if V 0 (413 + y2).toNat = x1 then (bd (f_X8_dayOf V y2) fun (r_10 : Int) => bd (f_X8_writeNumber n V r_10) fun (V_11 : Sz) => bd (f_X8_write V_11 58) fun (V_12 : Sz) => bd (f_X8_leftOf V_12 y2) fun (r_13 : Int) => bd (f_X8_writeNumber n V_12 r_13) fun (V_14 : Sz) => bd (f_X8_write V_14 43) fun (V_15 : Sz) => ck (inZ y2 180) <| bd (f_X8_writeNumber n V_15 (V_15 12 y2.toNat)) fun (V_17 : Sz) => bd (f_X8_write V_17 10) fun (V_18 : Sz) => jX8_printStatement_99 n x1 rec21 y2 V_18) else (jX8_printStatement_99 n x1 rec21 y2 V)))
theorem bX8_printStatement_21_e (n : Nat) (x1 : Int) (rec21 : Int × Sz → Option (Int × Sz)) (y2 : Int) (V : Sz) : bX8_printStatement_21 n x1 rec21 (y2, V) = (ck (rng y2) <| if 180 ≤ y2 then (some (V 31 0, V)) else (bd (f_X8_isPart V y2) fun (r_6 : Bool) => if r_6 = false then (jX8_printStatement_99 n x1 rec21 y2 V) else (ck (inZ (413 + y2) 1233) <| ck (rng (V 0 (413 + y2).toNat) ∧ rng x1) <| if V 0 (413 + y2).toNat = x1 then (bd (f_X8_dayOf V y2) fun (r_10 : Int) => bd (f_X8_writeNumber n V r_10) fun (V_11 : Sz) => bd (f_X8_write V_11 58) fun (V_12 : Sz) => bd (f_X8_leftOf V_12 y2) fun (r_13 : Int) => bd (f_X8_writeNumber n V_12 r_13) fun (V_14 : Sz) => bd (f_X8_write V_14 43) fun (V_15 : Sz) => ck (inZ y2 180) <| bd (f_X8_writeNumber n V_15 (V_15 12 y2.toNat)) fun (V_17 : Sz) => bd (f_X8_write V_17 10) fun (V_18 : Sz) => jX8_printStatement_99 n x1 rec21 y2 V_18) else (jX8_printStatement_99 n x1 rec21 y2 V)))) := rfl
def f_X8_printStatement (n : Nat) (V0 : Sz) (x1 : Int) : Option (Int × Sz) := bd (f_X8_noDonor V0 x1) fun ((r_1, V_2) : Bool × Sz) => if r_1 = false then (bd (f_X8_laysAid n V_2) fun (V_3 : Sz) => nm (us V_3 31 0) fun (V_4 : Sz) => lpF (bX8_printStatement_21 n x1) n (0, V_4)) else (some (0, V_2))
def f_X8_outputByte (V0 : Sz) (x1 : Int) : Option (Int × Sz) := nm (us V0 9 0) fun (V_1 : Sz) => bd (f_X8_inRange x1 0 ((V_1 31 0) - 1)) fun (r_2 : Bool) => if r_2 = false then (some ((-1), V_1)) else (ck (inZ x1 1400) <| some (V_1 30 x1.toNat, V_1))
def f_X8_undo (n : Nat) (V0 : Sz) : Option (Int × Sz) := nm (us V0 9 0) fun (V_1 : Sz) => ck (rng (V_1 5 0)) <| if V_1 5 0 = 0 then (some ((-1), V_1)) else (nm (us V_1 5 ((V_1 5 0) - 1)) fun (V_3 : Sz) => bd (f_X8_copies n 12330 1233 (V_3 4) (V_3 0) (1233 * (V_3 5 0)) 0 1233) fun (V_4 : (Nat → Int)) => nm (uy V_3 0 V_4) fun (V_5 : Sz) => some (V_5 5 0, V_5))
def f_X8_saveState (n : Nat) (V0 : Sz) : Option (Int × Sz) := nm (us V0 9 0) fun (V_1 : Sz) => bd (f_X8_copies n 1233 1233 (V_1 0) (V_1 2) 0 0 1233) fun (V_2 : (Nat → Int)) => nm (uy V_1 2 V_2) fun (V_3 : Sz) => nm (us V_3 6 1) fun (V_4 : Sz) => some (V_4 0 2, V_4)
def jX8_restoreState_18 (n : Nat) (V : Sz) (z0 : Int) : Option (Int × Sz) := bd (f_X8_fails V z0 1) fun ((r_3, V_4) : Bool × Sz) => if r_3 = false then (bd (f_X8_copies n 1233 1233 (V_4 2) (V_4 0) 0 0 1233) fun (V_5 : (Nat → Int)) => nm (uy V_4 0 V_5) fun (V_6 : Sz) => nm (us V_6 5 0) fun (V_7 : Sz) => some (V_7 0 2, V_7)) else (some (0, V_4))
def f_X8_restoreState (n : Nat) (V0 : Sz) : Option (Int × Sz) := nm (us V0 9 0) fun (V_1 : Sz) => ck (rng (V_1 6 0)) <| if V_1 6 0 = 0 then (jX8_restoreState_18 n V_1 1) else (jX8_restoreState_18 n V_1 0)
theorem DX8_neededSpan_0 : ∀ q ∈ ([(0, .aload_n 0, 1), (1, .iload_n 1, 1), (2, .invokevirtual 287, 3), (5, .ifCond .eq 5, 3), (8, .iconst 0, 1), (9, .ireturn, 1), (10, .aload_n 0, 1), (11, .iload_n 1, 1), (12, .iconst 0, 1), (13, .sipush 9999, 3), (16, .invokevirtual 332, 3), (19, .istore_n 3, 1), (20, .iload_n 3, 1), (21, .aload_n 0, 1), (22, .invokevirtual 326, 3), (25, .if_icmp .ne 5, 3), (28, .iconst (-1), 1), (29, .ireturn, 1), (30, .iconst 0, 1), (31, .istore 4, 2), (33, .sipush 9999, 3), (36, .istore 5, 2), (38, .iconst 0, 1), (39, .istore 6, 2), (41, .iload 6, 2), (43, .aload_n 0, 1), (44, .getfield 7, 3), (47, .iconst 2, 1), (48, .iaload, 1), (49, .if_icmp .ge 140, 3), (52, .iconst 0, 1), (53, .istore 7, 2), (55, .iload 7, 2), (57, .aload_n 0, 1), (58, .getfield 7, 3), (61, .iconst 2, 1), (62, .iaload, 1), (63, .if_icmp .ge 120, 3), (66, .aload_n 0, 1), (67, .getfield 7, 3)] : List (Nat × Instr × Nat)), decode cX8_neededSpan q.1 = .ok q.2 := by decide +kernel
theorem dX8_neededSpan_0 : decode cX8_neededSpan 0 = .ok (.aload_n 0, 1) := DX8_neededSpan_0 (0, .aload_n 0, 1) (List.mem_of_getElem? (i := 0) rfl)
theorem dX8_neededSpan_1 : decode cX8_neededSpan 1 = .ok (.iload_n 1, 1) := DX8_neededSpan_0 (1, .iload_n 1, 1) (List.mem_of_getElem? (i := 1) rfl)
theorem dX8_neededSpan_2 : decode cX8_neededSpan 2 = .ok (.invokevirtual 287, 3) := DX8_neededSpan_0 (2, .invokevirtual 287, 3) (List.mem_of_getElem? (i := 2) rfl)
theorem dX8_neededSpan_5 : decode cX8_neededSpan 5 = .ok (.ifCond .eq 5, 3) := DX8_neededSpan_0 (5, .ifCond .eq 5, 3) (List.mem_of_getElem? (i := 3) rfl)
theorem dX8_neededSpan_8 : decode cX8_neededSpan 8 = .ok (.iconst 0, 1) := DX8_neededSpan_0 (8, .iconst 0, 1) (List.mem_of_getElem? (i := 4) rfl)
theorem dX8_neededSpan_9 : decode cX8_neededSpan 9 = .ok (.ireturn, 1) := DX8_neededSpan_0 (9, .ireturn, 1) (List.mem_of_getElem? (i := 5) rfl)
theorem dX8_neededSpan_10 : decode cX8_neededSpan 10 = .ok (.aload_n 0, 1) := DX8_neededSpan_0 (10, .aload_n 0, 1) (List.mem_of_getElem? (i := 6) rfl)
theorem dX8_neededSpan_11 : decode cX8_neededSpan 11 = .ok (.iload_n 1, 1) := DX8_neededSpan_0 (11, .iload_n 1, 1) (List.mem_of_getElem? (i := 7) rfl)
theorem dX8_neededSpan_12 : decode cX8_neededSpan 12 = .ok (.iconst 0, 1) := DX8_neededSpan_0 (12, .iconst 0, 1) (List.mem_of_getElem? (i := 8) rfl)
theorem dX8_neededSpan_13 : decode cX8_neededSpan 13 = .ok (.sipush 9999, 3) := DX8_neededSpan_0 (13, .sipush 9999, 3) (List.mem_of_getElem? (i := 9) rfl)
theorem dX8_neededSpan_16 : decode cX8_neededSpan 16 = .ok (.invokevirtual 332, 3) := DX8_neededSpan_0 (16, .invokevirtual 332, 3) (List.mem_of_getElem? (i := 10) rfl)
theorem dX8_neededSpan_19 : decode cX8_neededSpan 19 = .ok (.istore_n 3, 1) := DX8_neededSpan_0 (19, .istore_n 3, 1) (List.mem_of_getElem? (i := 11) rfl)
theorem dX8_neededSpan_20 : decode cX8_neededSpan 20 = .ok (.iload_n 3, 1) := DX8_neededSpan_0 (20, .iload_n 3, 1) (List.mem_of_getElem? (i := 12) rfl)
theorem dX8_neededSpan_21 : decode cX8_neededSpan 21 = .ok (.aload_n 0, 1) := DX8_neededSpan_0 (21, .aload_n 0, 1) (List.mem_of_getElem? (i := 13) rfl)
theorem dX8_neededSpan_22 : decode cX8_neededSpan 22 = .ok (.invokevirtual 326, 3) := DX8_neededSpan_0 (22, .invokevirtual 326, 3) (List.mem_of_getElem? (i := 14) rfl)
theorem dX8_neededSpan_25 : decode cX8_neededSpan 25 = .ok (.if_icmp .ne 5, 3) := DX8_neededSpan_0 (25, .if_icmp .ne 5, 3) (List.mem_of_getElem? (i := 15) rfl)
theorem dX8_neededSpan_28 : decode cX8_neededSpan 28 = .ok (.iconst (-1), 1) := DX8_neededSpan_0 (28, .iconst (-1), 1) (List.mem_of_getElem? (i := 16) rfl)
theorem dX8_neededSpan_29 : decode cX8_neededSpan 29 = .ok (.ireturn, 1) := DX8_neededSpan_0 (29, .ireturn, 1) (List.mem_of_getElem? (i := 17) rfl)
theorem dX8_neededSpan_30 : decode cX8_neededSpan 30 = .ok (.iconst 0, 1) := DX8_neededSpan_0 (30, .iconst 0, 1) (List.mem_of_getElem? (i := 18) rfl)
theorem dX8_neededSpan_31 : decode cX8_neededSpan 31 = .ok (.istore 4, 2) := DX8_neededSpan_0 (31, .istore 4, 2) (List.mem_of_getElem? (i := 19) rfl)
theorem dX8_neededSpan_33 : decode cX8_neededSpan 33 = .ok (.sipush 9999, 3) := DX8_neededSpan_0 (33, .sipush 9999, 3) (List.mem_of_getElem? (i := 20) rfl)
theorem dX8_neededSpan_36 : decode cX8_neededSpan 36 = .ok (.istore 5, 2) := DX8_neededSpan_0 (36, .istore 5, 2) (List.mem_of_getElem? (i := 21) rfl)
theorem dX8_neededSpan_38 : decode cX8_neededSpan 38 = .ok (.iconst 0, 1) := DX8_neededSpan_0 (38, .iconst 0, 1) (List.mem_of_getElem? (i := 22) rfl)
theorem dX8_neededSpan_39 : decode cX8_neededSpan 39 = .ok (.istore 6, 2) := DX8_neededSpan_0 (39, .istore 6, 2) (List.mem_of_getElem? (i := 23) rfl)
theorem dX8_neededSpan_41 : decode cX8_neededSpan 41 = .ok (.iload 6, 2) := DX8_neededSpan_0 (41, .iload 6, 2) (List.mem_of_getElem? (i := 24) rfl)
theorem dX8_neededSpan_43 : decode cX8_neededSpan 43 = .ok (.aload_n 0, 1) := DX8_neededSpan_0 (43, .aload_n 0, 1) (List.mem_of_getElem? (i := 25) rfl)
theorem dX8_neededSpan_44 : decode cX8_neededSpan 44 = .ok (.getfield 7, 3) := DX8_neededSpan_0 (44, .getfield 7, 3) (List.mem_of_getElem? (i := 26) rfl)
theorem dX8_neededSpan_47 : decode cX8_neededSpan 47 = .ok (.iconst 2, 1) := DX8_neededSpan_0 (47, .iconst 2, 1) (List.mem_of_getElem? (i := 27) rfl)
theorem dX8_neededSpan_48 : decode cX8_neededSpan 48 = .ok (.iaload, 1) := DX8_neededSpan_0 (48, .iaload, 1) (List.mem_of_getElem? (i := 28) rfl)
theorem dX8_neededSpan_49 : decode cX8_neededSpan 49 = .ok (.if_icmp .ge 140, 3) := DX8_neededSpan_0 (49, .if_icmp .ge 140, 3) (List.mem_of_getElem? (i := 29) rfl)
theorem dX8_neededSpan_52 : decode cX8_neededSpan 52 = .ok (.iconst 0, 1) := DX8_neededSpan_0 (52, .iconst 0, 1) (List.mem_of_getElem? (i := 30) rfl)
theorem dX8_neededSpan_53 : decode cX8_neededSpan 53 = .ok (.istore 7, 2) := DX8_neededSpan_0 (53, .istore 7, 2) (List.mem_of_getElem? (i := 31) rfl)
theorem dX8_neededSpan_55 : decode cX8_neededSpan 55 = .ok (.iload 7, 2) := DX8_neededSpan_0 (55, .iload 7, 2) (List.mem_of_getElem? (i := 32) rfl)
theorem dX8_neededSpan_57 : decode cX8_neededSpan 57 = .ok (.aload_n 0, 1) := DX8_neededSpan_0 (57, .aload_n 0, 1) (List.mem_of_getElem? (i := 33) rfl)
theorem dX8_neededSpan_58 : decode cX8_neededSpan 58 = .ok (.getfield 7, 3) := DX8_neededSpan_0 (58, .getfield 7, 3) (List.mem_of_getElem? (i := 34) rfl)
theorem dX8_neededSpan_61 : decode cX8_neededSpan 61 = .ok (.iconst 2, 1) := DX8_neededSpan_0 (61, .iconst 2, 1) (List.mem_of_getElem? (i := 35) rfl)
theorem dX8_neededSpan_62 : decode cX8_neededSpan 62 = .ok (.iaload, 1) := DX8_neededSpan_0 (62, .iaload, 1) (List.mem_of_getElem? (i := 36) rfl)
theorem dX8_neededSpan_63 : decode cX8_neededSpan 63 = .ok (.if_icmp .ge 120, 3) := DX8_neededSpan_0 (63, .if_icmp .ge 120, 3) (List.mem_of_getElem? (i := 37) rfl)
theorem dX8_neededSpan_66 : decode cX8_neededSpan 66 = .ok (.aload_n 0, 1) := DX8_neededSpan_0 (66, .aload_n 0, 1) (List.mem_of_getElem? (i := 38) rfl)
theorem dX8_neededSpan_67 : decode cX8_neededSpan 67 = .ok (.getfield 7, 3) := DX8_neededSpan_0 (67, .getfield 7, 3) (List.mem_of_getElem? (i := 39) rfl)
theorem DX8_neededSpan_1 : ∀ q ∈ ([(70, .bipush 113, 2), (72, .iload 6, 2), (74, .iadd, 1), (75, .iaload, 1), (76, .istore 8, 2), (78, .aload_n 0, 1), (79, .getfield 7, 3), (82, .bipush 113, 2), (84, .iload 7, 2), (86, .iadd, 1), (87, .iaload, 1), (88, .istore 9, 2), (90, .iload 9, 2), (92, .iload 8, 2), (94, .if_icmp .lt 83, 3), (97, .iload 9, 2), (99, .iload 8, 2), (101, .isub, 1), (102, .iload 5, 2), (104, .iload 4, 2), (106, .isub, 1), (107, .if_icmp .gt 70, 3), (110, .iload 9, 2), (112, .iload 8, 2), (114, .isub, 1), (115, .iload 5, 2), (117, .iload 4, 2), (119, .isub, 1), (120, .if_icmp .ne 10, 3), (123, .iload 8, 2), (125, .iload 4, 2), (127, .if_icmp .ge 50, 3), (130, .aload_n 0, 1), (131, .iload_n 1, 1), (132, .iload 6, 2), (134, .invokevirtual 335, 3), (137, .ifCond .eq 40, 3), (140, .aload_n 0, 1), (141, .iload_n 1, 1), (142, .iload 7, 2)] : List (Nat × Instr × Nat)), decode cX8_neededSpan q.1 = .ok q.2 := by decide +kernel
theorem dX8_neededSpan_70 : decode cX8_neededSpan 70 = .ok (.bipush 113, 2) := DX8_neededSpan_1 (70, .bipush 113, 2) (List.mem_of_getElem? (i := 0) rfl)
theorem dX8_neededSpan_72 : decode cX8_neededSpan 72 = .ok (.iload 6, 2) := DX8_neededSpan_1 (72, .iload 6, 2) (List.mem_of_getElem? (i := 1) rfl)
theorem dX8_neededSpan_74 : decode cX8_neededSpan 74 = .ok (.iadd, 1) := DX8_neededSpan_1 (74, .iadd, 1) (List.mem_of_getElem? (i := 2) rfl)
theorem dX8_neededSpan_75 : decode cX8_neededSpan 75 = .ok (.iaload, 1) := DX8_neededSpan_1 (75, .iaload, 1) (List.mem_of_getElem? (i := 3) rfl)
theorem dX8_neededSpan_76 : decode cX8_neededSpan 76 = .ok (.istore 8, 2) := DX8_neededSpan_1 (76, .istore 8, 2) (List.mem_of_getElem? (i := 4) rfl)
theorem dX8_neededSpan_78 : decode cX8_neededSpan 78 = .ok (.aload_n 0, 1) := DX8_neededSpan_1 (78, .aload_n 0, 1) (List.mem_of_getElem? (i := 5) rfl)
theorem dX8_neededSpan_79 : decode cX8_neededSpan 79 = .ok (.getfield 7, 3) := DX8_neededSpan_1 (79, .getfield 7, 3) (List.mem_of_getElem? (i := 6) rfl)
theorem dX8_neededSpan_82 : decode cX8_neededSpan 82 = .ok (.bipush 113, 2) := DX8_neededSpan_1 (82, .bipush 113, 2) (List.mem_of_getElem? (i := 7) rfl)
theorem dX8_neededSpan_84 : decode cX8_neededSpan 84 = .ok (.iload 7, 2) := DX8_neededSpan_1 (84, .iload 7, 2) (List.mem_of_getElem? (i := 8) rfl)
theorem dX8_neededSpan_86 : decode cX8_neededSpan 86 = .ok (.iadd, 1) := DX8_neededSpan_1 (86, .iadd, 1) (List.mem_of_getElem? (i := 9) rfl)
theorem dX8_neededSpan_87 : decode cX8_neededSpan 87 = .ok (.iaload, 1) := DX8_neededSpan_1 (87, .iaload, 1) (List.mem_of_getElem? (i := 10) rfl)
theorem dX8_neededSpan_88 : decode cX8_neededSpan 88 = .ok (.istore 9, 2) := DX8_neededSpan_1 (88, .istore 9, 2) (List.mem_of_getElem? (i := 11) rfl)
theorem dX8_neededSpan_90 : decode cX8_neededSpan 90 = .ok (.iload 9, 2) := DX8_neededSpan_1 (90, .iload 9, 2) (List.mem_of_getElem? (i := 12) rfl)
theorem dX8_neededSpan_92 : decode cX8_neededSpan 92 = .ok (.iload 8, 2) := DX8_neededSpan_1 (92, .iload 8, 2) (List.mem_of_getElem? (i := 13) rfl)
theorem dX8_neededSpan_94 : decode cX8_neededSpan 94 = .ok (.if_icmp .lt 83, 3) := DX8_neededSpan_1 (94, .if_icmp .lt 83, 3) (List.mem_of_getElem? (i := 14) rfl)
theorem dX8_neededSpan_97 : decode cX8_neededSpan 97 = .ok (.iload 9, 2) := DX8_neededSpan_1 (97, .iload 9, 2) (List.mem_of_getElem? (i := 15) rfl)
theorem dX8_neededSpan_99 : decode cX8_neededSpan 99 = .ok (.iload 8, 2) := DX8_neededSpan_1 (99, .iload 8, 2) (List.mem_of_getElem? (i := 16) rfl)
theorem dX8_neededSpan_101 : decode cX8_neededSpan 101 = .ok (.isub, 1) := DX8_neededSpan_1 (101, .isub, 1) (List.mem_of_getElem? (i := 17) rfl)
theorem dX8_neededSpan_102 : decode cX8_neededSpan 102 = .ok (.iload 5, 2) := DX8_neededSpan_1 (102, .iload 5, 2) (List.mem_of_getElem? (i := 18) rfl)
theorem dX8_neededSpan_104 : decode cX8_neededSpan 104 = .ok (.iload 4, 2) := DX8_neededSpan_1 (104, .iload 4, 2) (List.mem_of_getElem? (i := 19) rfl)
theorem dX8_neededSpan_106 : decode cX8_neededSpan 106 = .ok (.isub, 1) := DX8_neededSpan_1 (106, .isub, 1) (List.mem_of_getElem? (i := 20) rfl)
theorem dX8_neededSpan_107 : decode cX8_neededSpan 107 = .ok (.if_icmp .gt 70, 3) := DX8_neededSpan_1 (107, .if_icmp .gt 70, 3) (List.mem_of_getElem? (i := 21) rfl)
theorem dX8_neededSpan_110 : decode cX8_neededSpan 110 = .ok (.iload 9, 2) := DX8_neededSpan_1 (110, .iload 9, 2) (List.mem_of_getElem? (i := 22) rfl)
theorem dX8_neededSpan_112 : decode cX8_neededSpan 112 = .ok (.iload 8, 2) := DX8_neededSpan_1 (112, .iload 8, 2) (List.mem_of_getElem? (i := 23) rfl)
theorem dX8_neededSpan_114 : decode cX8_neededSpan 114 = .ok (.isub, 1) := DX8_neededSpan_1 (114, .isub, 1) (List.mem_of_getElem? (i := 24) rfl)
theorem dX8_neededSpan_115 : decode cX8_neededSpan 115 = .ok (.iload 5, 2) := DX8_neededSpan_1 (115, .iload 5, 2) (List.mem_of_getElem? (i := 25) rfl)
theorem dX8_neededSpan_117 : decode cX8_neededSpan 117 = .ok (.iload 4, 2) := DX8_neededSpan_1 (117, .iload 4, 2) (List.mem_of_getElem? (i := 26) rfl)
theorem dX8_neededSpan_119 : decode cX8_neededSpan 119 = .ok (.isub, 1) := DX8_neededSpan_1 (119, .isub, 1) (List.mem_of_getElem? (i := 27) rfl)
theorem dX8_neededSpan_120 : decode cX8_neededSpan 120 = .ok (.if_icmp .ne 10, 3) := DX8_neededSpan_1 (120, .if_icmp .ne 10, 3) (List.mem_of_getElem? (i := 28) rfl)
theorem dX8_neededSpan_123 : decode cX8_neededSpan 123 = .ok (.iload 8, 2) := DX8_neededSpan_1 (123, .iload 8, 2) (List.mem_of_getElem? (i := 29) rfl)
theorem dX8_neededSpan_125 : decode cX8_neededSpan 125 = .ok (.iload 4, 2) := DX8_neededSpan_1 (125, .iload 4, 2) (List.mem_of_getElem? (i := 30) rfl)
theorem dX8_neededSpan_127 : decode cX8_neededSpan 127 = .ok (.if_icmp .ge 50, 3) := DX8_neededSpan_1 (127, .if_icmp .ge 50, 3) (List.mem_of_getElem? (i := 31) rfl)
theorem dX8_neededSpan_130 : decode cX8_neededSpan 130 = .ok (.aload_n 0, 1) := DX8_neededSpan_1 (130, .aload_n 0, 1) (List.mem_of_getElem? (i := 32) rfl)
theorem dX8_neededSpan_131 : decode cX8_neededSpan 131 = .ok (.iload_n 1, 1) := DX8_neededSpan_1 (131, .iload_n 1, 1) (List.mem_of_getElem? (i := 33) rfl)
theorem dX8_neededSpan_132 : decode cX8_neededSpan 132 = .ok (.iload 6, 2) := DX8_neededSpan_1 (132, .iload 6, 2) (List.mem_of_getElem? (i := 34) rfl)
theorem dX8_neededSpan_134 : decode cX8_neededSpan 134 = .ok (.invokevirtual 335, 3) := DX8_neededSpan_1 (134, .invokevirtual 335, 3) (List.mem_of_getElem? (i := 35) rfl)
theorem dX8_neededSpan_137 : decode cX8_neededSpan 137 = .ok (.ifCond .eq 40, 3) := DX8_neededSpan_1 (137, .ifCond .eq 40, 3) (List.mem_of_getElem? (i := 36) rfl)
theorem dX8_neededSpan_140 : decode cX8_neededSpan 140 = .ok (.aload_n 0, 1) := DX8_neededSpan_1 (140, .aload_n 0, 1) (List.mem_of_getElem? (i := 37) rfl)
theorem dX8_neededSpan_141 : decode cX8_neededSpan 141 = .ok (.iload_n 1, 1) := DX8_neededSpan_1 (141, .iload_n 1, 1) (List.mem_of_getElem? (i := 38) rfl)
theorem dX8_neededSpan_142 : decode cX8_neededSpan 142 = .ok (.iload 7, 2) := DX8_neededSpan_1 (142, .iload 7, 2) (List.mem_of_getElem? (i := 39) rfl)
theorem DX8_neededSpan_2 : ∀ q ∈ ([(144, .invokevirtual 335, 3), (147, .ifCond .ne 6, 3), (150, .goto 27, 3), (153, .aload_n 0, 1), (154, .iload_n 1, 1), (155, .iload 8, 2), (157, .iload 9, 2), (159, .invokevirtual 332, 3), (162, .iload_n 3, 1), (163, .if_icmp .eq 6, 3), (166, .goto 11, 3), (169, .iload 8, 2), (171, .istore 4, 2), (173, .iload 9, 2), (175, .istore 5, 2), (177, .iinc 7 1, 3), (180, .goto (-125), 3), (183, .iinc 6 1, 3), (186, .goto (-145), 3), (189, .iload_n 2, 1), (190, .ifCond .eq 8, 3), (193, .iload 5, 2), (195, .goto 5, 3), (198, .iload 4, 2), (200, .ireturn, 1)] : List (Nat × Instr × Nat)), decode cX8_neededSpan q.1 = .ok q.2 := by decide +kernel
theorem dX8_neededSpan_144 : decode cX8_neededSpan 144 = .ok (.invokevirtual 335, 3) := DX8_neededSpan_2 (144, .invokevirtual 335, 3) (List.mem_of_getElem? (i := 0) rfl)
theorem dX8_neededSpan_147 : decode cX8_neededSpan 147 = .ok (.ifCond .ne 6, 3) := DX8_neededSpan_2 (147, .ifCond .ne 6, 3) (List.mem_of_getElem? (i := 1) rfl)
theorem dX8_neededSpan_150 : decode cX8_neededSpan 150 = .ok (.goto 27, 3) := DX8_neededSpan_2 (150, .goto 27, 3) (List.mem_of_getElem? (i := 2) rfl)
theorem dX8_neededSpan_153 : decode cX8_neededSpan 153 = .ok (.aload_n 0, 1) := DX8_neededSpan_2 (153, .aload_n 0, 1) (List.mem_of_getElem? (i := 3) rfl)
theorem dX8_neededSpan_154 : decode cX8_neededSpan 154 = .ok (.iload_n 1, 1) := DX8_neededSpan_2 (154, .iload_n 1, 1) (List.mem_of_getElem? (i := 4) rfl)
theorem dX8_neededSpan_155 : decode cX8_neededSpan 155 = .ok (.iload 8, 2) := DX8_neededSpan_2 (155, .iload 8, 2) (List.mem_of_getElem? (i := 5) rfl)
theorem dX8_neededSpan_157 : decode cX8_neededSpan 157 = .ok (.iload 9, 2) := DX8_neededSpan_2 (157, .iload 9, 2) (List.mem_of_getElem? (i := 6) rfl)
theorem dX8_neededSpan_159 : decode cX8_neededSpan 159 = .ok (.invokevirtual 332, 3) := DX8_neededSpan_2 (159, .invokevirtual 332, 3) (List.mem_of_getElem? (i := 7) rfl)
theorem dX8_neededSpan_162 : decode cX8_neededSpan 162 = .ok (.iload_n 3, 1) := DX8_neededSpan_2 (162, .iload_n 3, 1) (List.mem_of_getElem? (i := 8) rfl)
theorem dX8_neededSpan_163 : decode cX8_neededSpan 163 = .ok (.if_icmp .eq 6, 3) := DX8_neededSpan_2 (163, .if_icmp .eq 6, 3) (List.mem_of_getElem? (i := 9) rfl)
theorem dX8_neededSpan_166 : decode cX8_neededSpan 166 = .ok (.goto 11, 3) := DX8_neededSpan_2 (166, .goto 11, 3) (List.mem_of_getElem? (i := 10) rfl)
theorem dX8_neededSpan_169 : decode cX8_neededSpan 169 = .ok (.iload 8, 2) := DX8_neededSpan_2 (169, .iload 8, 2) (List.mem_of_getElem? (i := 11) rfl)
theorem dX8_neededSpan_171 : decode cX8_neededSpan 171 = .ok (.istore 4, 2) := DX8_neededSpan_2 (171, .istore 4, 2) (List.mem_of_getElem? (i := 12) rfl)
theorem dX8_neededSpan_173 : decode cX8_neededSpan 173 = .ok (.iload 9, 2) := DX8_neededSpan_2 (173, .iload 9, 2) (List.mem_of_getElem? (i := 13) rfl)
theorem dX8_neededSpan_175 : decode cX8_neededSpan 175 = .ok (.istore 5, 2) := DX8_neededSpan_2 (175, .istore 5, 2) (List.mem_of_getElem? (i := 14) rfl)
theorem dX8_neededSpan_177 : decode cX8_neededSpan 177 = .ok (.iinc 7 1, 3) := DX8_neededSpan_2 (177, .iinc 7 1, 3) (List.mem_of_getElem? (i := 15) rfl)
theorem dX8_neededSpan_180 : decode cX8_neededSpan 180 = .ok (.goto (-125), 3) := DX8_neededSpan_2 (180, .goto (-125), 3) (List.mem_of_getElem? (i := 16) rfl)
theorem dX8_neededSpan_183 : decode cX8_neededSpan 183 = .ok (.iinc 6 1, 3) := DX8_neededSpan_2 (183, .iinc 6 1, 3) (List.mem_of_getElem? (i := 17) rfl)
theorem dX8_neededSpan_186 : decode cX8_neededSpan 186 = .ok (.goto (-145), 3) := DX8_neededSpan_2 (186, .goto (-145), 3) (List.mem_of_getElem? (i := 18) rfl)
theorem dX8_neededSpan_189 : decode cX8_neededSpan 189 = .ok (.iload_n 2, 1) := DX8_neededSpan_2 (189, .iload_n 2, 1) (List.mem_of_getElem? (i := 19) rfl)
theorem dX8_neededSpan_190 : decode cX8_neededSpan 190 = .ok (.ifCond .eq 8, 3) := DX8_neededSpan_2 (190, .ifCond .eq 8, 3) (List.mem_of_getElem? (i := 20) rfl)
theorem dX8_neededSpan_193 : decode cX8_neededSpan 193 = .ok (.iload 5, 2) := DX8_neededSpan_2 (193, .iload 5, 2) (List.mem_of_getElem? (i := 21) rfl)
theorem dX8_neededSpan_195 : decode cX8_neededSpan 195 = .ok (.goto 5, 3) := DX8_neededSpan_2 (195, .goto 5, 3) (List.mem_of_getElem? (i := 22) rfl)
theorem dX8_neededSpan_198 : decode cX8_neededSpan 198 = .ok (.iload 4, 2) := DX8_neededSpan_2 (198, .iload 4, 2) (List.mem_of_getElem? (i := 23) rfl)
theorem dX8_neededSpan_200 : decode cX8_neededSpan 200 = .ok (.ireturn, 1) := DX8_neededSpan_2 (200, .ireturn, 1) (List.mem_of_getElem? (i := 24) rfl)
abbrev rmX8_neededSpan : Room := { frames := 6, cells := 0, slots := 0, locals := 136 }
set_option maxHeartbeats 400000 in
set_option maxRecDepth 100000 in
theorem met_X8_neededSpan (l : Launch) (D : va_G) (kA : Nat → ClassId) (a : Nat → Nat) (n : Nat) (V0 : Sz) (x1 : Int) (x2 : Int) (hDt : ∀ w : Sz, va_D (fun _ => True) (cs_X8 kA a w)) {r : Int} {Vr : Sz} (hf : f_X8_neededSpan n V0 x1 x2 = some (r, Vr)) : MZ l yX8_neededSpan cX8_neededSpan 10 (some .int) rmX8_neededSpan D kA [.ref (a 0), vI x1, vI x2] (cs_X8 kA a V0) (cs_X8 kA a Vr) (some (vI r)) := by
  refine zZI (own := RX8) rfl rfl (Nat.le_of_ble_eq_true rfl) ?_
  intro p e s m args below meth c ls Q hC hK hP hl hret
  have hl : lv_has ls 10 [(0, .ref (a 0)), (1, vI x1), (2, vI x2)] := hl
  have hS : va_S (zF (cs_X8 kA a V0)) s.heap s.heap [] := va_S.rf
  have hD := zDself (C := fun w : Sz => (cs_X8 kA a w)) hDt V0 (fun _ => rfl)
  try dsimp only at hD
  generalize hAe : zF (cs_X8 kA a V0) = A0 at hS hD hret
  unfold f_X8_neededSpan at hf
  have L41 : ∀ (k41 : Nat) (y3 : Int) (y4 : Int) (y5 : Int) (y6 : Int) (V : Sz) (H : Heap) (locs : List Loc) (ls : Array Slot), lpF (bX8_neededSpan_41 n x1 x2) k41 (y3, y4, y5, y6, V) = some (r, Vr) → va_P D vwCl (cs_X8 kA a V) H → va_S A0 s.heap H locs → lv_has ls 10 [(0, .ref (a 0)), (1, vI x1), (2, vI x2), (3, vI y3), (4, vI y4), (5, vI y5), (6, vI y6)] → W p l e rmX8_neededSpan s m args below meth c H locs 0 0 Q (F0 m 41 ls []) := by
    intro k41
    induction k41 with
    | zero => intro y3 y4 y5 y6 V H locs ls hf hP hS hl; exact lp_0 hf
    | succ k41 ih41 =>
      intro y3 y4 y5 y6 V H locs ls hf hP hS hl
      have hf := lp_s hf
      rw [bX8_neededSpan_41_e] at hf
      have L55 : ∀ (k55 : Nat) (y3 : Int) (y4 : Int) (y5 : Int) (y6 : Int) (y7 : Int) (V : Sz) (H : Heap) (locs : List Loc) (ls : Array Slot), lpF (bX8_neededSpan_55 n x1 x2 (lpF (bX8_neededSpan_41 n x1 x2) k41)) k55 (y3, y4, y5, y6, y7, V) = some (r, Vr) → va_P D vwCl (cs_X8 kA a V) H → va_S A0 s.heap H locs → lv_has ls 10 [(0, .ref (a 0)), (1, vI x1), (2, vI x2), (3, vI y3), (4, vI y4), (5, vI y5), (6, vI y6), (7, vI y7)] → W p l e rmX8_neededSpan s m args below meth c H locs 0 0 Q (F0 m 55 ls []) := by
        intro k55
        induction k55 with
        | zero => intro y3 y4 y5 y6 y7 V H locs ls hf hP hS hl; exact lp_0 hf
        | succ k55 ih55 =>
          intro y3 y4 y5 y6 y7 V H locs ls hf hP hS hl
          have hf := lp_s hf
          rw [bX8_neededSpan_55_e] at hf
          have J177 : ∀ (y3 : Int) (y4 : Int) (y5 : Int) (y6 : Int) (y7 : Int) (V : Sz) (H : Heap) (locs : List Loc) (ls : Array Slot), jX8_neededSpan_177 n x1 x2 (lpF (bX8_neededSpan_41 n x1 x2) k41) (lpF (bX8_neededSpan_55 n x1 x2 (lpF (bX8_neededSpan_41 n x1 x2) k41)) k55) y3 y4 y5 y6 y7 V = some (r, Vr) → va_P D vwCl (cs_X8 kA a V) H → va_S A0 s.heap H locs → lv_has ls 10 [(0, .ref (a 0)), (1, vI x1), (2, vI x2), (3, vI y3), (4, vI y4), (5, vI y5), (6, vI y6), (7, vI y7)] → W p l e rmX8_neededSpan s m args below meth c H locs 0 0 Q (F0 m 177 ls []) := by
            intro y3 y4 y5 y6 y7 V H locs ls hf hP hS hl
            unfold jX8_neededSpan_177 at hf
            obtain ⟨x_17, ex_17⟩ : ∃ y : Int, y = y7 + 1 := ⟨_, rfl⟩
            have hf := nm_at hf ex_17
            refine ziinc (v := x_17) (lv' := [(7, vI x_17), (0, .ref (a 0)), (1, vI x1), (2, vI x2), (3, vI y3), (4, vI y4), (5, vI y5), (6, vI y6)]) hC.1 hC.2.1 dX8_neededSpan_177 hl (k := 7) rfl ex_17 (by decide) rfl (fun ls hl => ?_)
            exact lv_goto (tgt := 55) hC.1 hC.2.1 dX8_neededSpan_180 (by decide) <| ih55 _ _ _ _ _ _ _ _ _ hf hP hS (lv_sub hl [1, 2, 3, 4, 5, 6, 7, 0] rfl)
          have J130 : ∀ (y3 : Int) (y4 : Int) (y5 : Int) (y6 : Int) (y7 : Int) (y8 : Int) (y9 : Int) (V : Sz) (H : Heap) (locs : List Loc) (ls : Array Slot), jX8_neededSpan_130 n x1 x2 (lpF (bX8_neededSpan_41 n x1 x2) k41) (lpF (bX8_neededSpan_55 n x1 x2 (lpF (bX8_neededSpan_41 n x1 x2) k41)) k55) y3 y4 y5 y6 y7 y8 y9 V = some (r, Vr) → va_P D vwCl (cs_X8 kA a V) H → va_S A0 s.heap H locs → lv_has ls 10 [(0, .ref (a 0)), (1, vI x1), (2, vI x2), (3, vI y3), (4, vI y4), (5, vI y5), (6, vI y6), (7, vI y7), (8, vI y8), (9, vI y9)] → W p l e rmX8_neededSpan s m args below meth c H locs 0 0 Q (F0 m 130 ls []) := by
            intro y3 y4 y5 y6 y7 y8 y9 V H locs ls hf hP hS hl
            unfold jX8_neededSpan_130 at hf
            refine lv_aload_n hC.1 hC.2.1 dX8_neededSpan_130 rfl (lv_at hl 0 rfl) <| ziload_n hC.1 hC.2.1 dX8_neededSpan_131 rfl (lv_at hl 1 rfl) <| ziload hC.1 hC.2.1 dX8_neededSpan_132 (lv_at hl 6 rfl) <| ?_
            obtain ⟨r_19, hu, hf⟩ := bd_some hf
            refine zcVP (As := [vI x1, vI y6]) (rest := []) hC hK (met_X8_isDonorThere l D kA a n V x1 y6 hu) zwX8_335 hP (q0 := 0) rfl rfl rfl rfl hl.1 rfl (Nat.le_of_ble_eq_true rfl) ⟨Nat.le_of_ble_eq_true rfl, Nat.le_of_ble_eq_true rfl⟩ ⟨rfl, rfl⟩ ⟨Nat.le_refl _, Nat.le_refl _⟩ dX8_neededSpan_134 <| zifb_eq (tgt := 177) hC.1 hC.2.1 dX8_neededSpan_137 (by decide) (fun hc => ?_) (fun hc => ?_)
            · have hf := it_t hf hc
              exact J177 _ _ _ _ _ _ _ _ _ hf hP hS (lv_sub hl [0, 1, 2, 3, 4, 5, 6, 7] rfl)
            · have hf := it_f hf hc
              refine lv_aload_n hC.1 hC.2.1 dX8_neededSpan_140 rfl (lv_at hl 0 rfl) <| ziload_n hC.1 hC.2.1 dX8_neededSpan_141 rfl (lv_at hl 1 rfl) <| ziload hC.1 hC.2.1 dX8_neededSpan_142 (lv_at hl 7 rfl) <| ?_
              obtain ⟨r_20, hu, hf⟩ := bd_some hf
              refine zcVP (As := [vI x1, vI y7]) (rest := []) hC hK (met_X8_isDonorThere l D kA a n V x1 y7 hu) zwX8_335 hP (q0 := 0) rfl rfl rfl rfl hl.1 rfl (Nat.le_of_ble_eq_true rfl) ⟨Nat.le_of_ble_eq_true rfl, Nat.le_of_ble_eq_true rfl⟩ ⟨rfl, rfl⟩ ⟨Nat.le_refl _, Nat.le_refl _⟩ dX8_neededSpan_144 <| zifb_ne (tgt := 153) hC.1 hC.2.1 dX8_neededSpan_147 (by decide) (fun hc => ?_) (fun hc => ?_)
              · have hf := it_t hf hc
                refine lv_aload_n hC.1 hC.2.1 dX8_neededSpan_153 rfl (lv_at hl 0 rfl) <| ziload_n hC.1 hC.2.1 dX8_neededSpan_154 rfl (lv_at hl 1 rfl) <| ziload hC.1 hC.2.1 dX8_neededSpan_155 (lv_at hl 8 rfl) <| ziload hC.1 hC.2.1 dX8_neededSpan_157 (lv_at hl 9 rfl) <| ?_
                obtain ⟨⟨r_21, V_22⟩, hu, hf⟩ := bd_some hf
                have hDc := hDt
                refine zcVZ (As := [vI x1, vI y8, vI y9]) (rest := []) hC hK (met_X8_aidWith l D kA a n V x1 y8 y9 hDc hu) zwX8_332 hS (zFsub (hD V) [0, 1, 2, 3, 4, 5, 6, 7, 8, 9, 10, 11, 12, 13, 14, 15, 16] rfl) hP (q0 := 0) rfl rfl rfl rfl hl.1 rfl (Nat.le_of_ble_eq_true rfl) ⟨Nat.le_of_ble_eq_true rfl, Nat.le_of_ble_eq_true rfl⟩ ⟨rfl, rfl⟩ ⟨Nat.le_refl _, Nat.le_refl _⟩ dX8_neededSpan_159 (fun H locs hP1 hk1 hS => ?_)
                have hP : va_P D vwCl (cs_X8 kA a V_22) H := hP1
                refine ziload_n hC.1 hC.2.1 dX8_neededSpan_162 rfl (lv_at hl 3 rfl) <| ?_
                obtain ⟨hz_23, hf⟩ := ck_some hf
                refine zicmp_eq (tgt := 169) hC.1 hC.2.1 ⟨hz_23.1, hz_23.2⟩ dX8_neededSpan_163 (by decide) (fun hc => ?_) (fun hc => ?_)
                · have hf := it_t hf hc
                  refine ziload hC.1 hC.2.1 dX8_neededSpan_169 (lv_at hl 8 rfl) <| zistore (lv' := [(4, vI y8), (0, .ref (a 0)), (1, vI x1), (2, vI x2), (3, vI y3), (5, vI y5), (6, vI y6), (7, vI y7), (8, vI y8), (9, vI y9)]) hC.1 hC.2.1 dX8_neededSpan_171 hl (by decide) rfl (fun ls hl => ?_)
                  refine ziload hC.1 hC.2.1 dX8_neededSpan_173 (lv_at hl 9 rfl) <| zistore (lv' := [(5, vI y9), (4, vI y8), (0, .ref (a 0)), (1, vI x1), (2, vI x2), (3, vI y3), (6, vI y6), (7, vI y7), (8, vI y8), (9, vI y9)]) hC.1 hC.2.1 dX8_neededSpan_175 hl (by decide) rfl (fun ls hl => ?_)
                  exact J177 _ _ _ _ _ _ _ _ _ hf hP hS (lv_sub hl [2, 3, 4, 5, 1, 0, 6, 7] rfl)
                · have hf := it_f hf hc
                  exact lv_goto (tgt := 177) hC.1 hC.2.1 dX8_neededSpan_166 (by decide) <| J177 _ _ _ _ _ _ _ _ _ hf hP hS (lv_sub hl [0, 1, 2, 3, 4, 5, 6, 7] rfl)
              · have hf := it_f hf hc
                exact lv_goto (tgt := 177) hC.1 hC.2.1 dX8_neededSpan_150 (by decide) <| J177 _ _ _ _ _ _ _ _ _ hf hP hS (lv_sub hl [0, 1, 2, 3, 4, 5, 6, 7] rfl)
          refine ziload hC.1 hC.2.1 dX8_neededSpan_55 (lv_at hl 7 rfl) <| lv_aload_n hC.1 hC.2.1 dX8_neededSpan_57 rfl (lv_at hl 0 rfl) <| gfX8_7 hC hK hP (q0 := 0) rfl rfl dX8_neededSpan_58 <| ziconst hC.1 hC.2.1 dX8_neededSpan_61 <| jal hC hK hP (q0 := 1) rfl (Nat.le_of_ble_eq_true rfl) (by decide) rfl dX8_neededSpan_62 <| ?_
          obtain ⟨hz_10, hf⟩ := ck_some hf
          refine zicmp_ge (tgt := 183) hC.1 hC.2.1 ⟨hz_10.1, hz_10.2⟩ dX8_neededSpan_63 (by decide) (fun hc => ?_) (fun hc => ?_)
          · have hf := it_t hf hc
            obtain ⟨x_11, ex_11⟩ : ∃ y : Int, y = y6 + 1 := ⟨_, rfl⟩
            have hf := nm_at hf ex_11
            refine ziinc (v := x_11) (lv' := [(6, vI x_11), (0, .ref (a 0)), (1, vI x1), (2, vI x2), (3, vI y3), (4, vI y4), (5, vI y5), (7, vI y7)]) hC.1 hC.2.1 dX8_neededSpan_183 hl (k := 6) rfl ex_11 (by decide) rfl (fun ls hl => ?_)
            exact lv_goto (tgt := 41) hC.1 hC.2.1 dX8_neededSpan_186 (by decide) <| ih41 _ _ _ _ _ _ _ _ hf hP hS (lv_sub hl [1, 2, 3, 4, 5, 6, 0] rfl)
          · have hf := it_f hf hc
            refine lv_aload_n hC.1 hC.2.1 dX8_neededSpan_66 rfl (lv_at hl 0 rfl) <| gfX8_7 hC hK hP (q0 := 0) rfl rfl dX8_neededSpan_67 <| zbipush hC.1 hC.2.1 dX8_neededSpan_70 (by decide) <| ziload hC.1 hC.2.1 dX8_neededSpan_72 (lv_at hl 6 rfl) <| ziadd hC.1 hC.2.1 dX8_neededSpan_74 <| ?_
            obtain ⟨hz_12, hf⟩ := ck_some hf
            refine jal hC hK hP (q0 := 1) rfl (Nat.le_of_ble_eq_true rfl) hz_12 rfl dX8_neededSpan_75 <| ?_
            refine ztopi (fun x_13 ex_13 => ?_)
            have hf := nm_at hf ex_13
            refine zistore (lv' := [(8, vI x_13), (0, .ref (a 0)), (1, vI x1), (2, vI x2), (3, vI y3), (4, vI y4), (5, vI y5), (6, vI y6), (7, vI y7)]) hC.1 hC.2.1 dX8_neededSpan_76 hl (by decide) rfl (fun ls hl => ?_)
            refine lv_aload_n hC.1 hC.2.1 dX8_neededSpan_78 rfl (lv_at hl 1 rfl) <| gfX8_7 hC hK hP (q0 := 0) rfl rfl dX8_neededSpan_79 <| zbipush hC.1 hC.2.1 dX8_neededSpan_82 (by decide) <| ziload hC.1 hC.2.1 dX8_neededSpan_84 (lv_at hl 8 rfl) <| ziadd hC.1 hC.2.1 dX8_neededSpan_86 <| ?_
            obtain ⟨hz_14, hf⟩ := ck_some hf
            refine jal hC hK hP (q0 := 1) rfl (Nat.le_of_ble_eq_true rfl) hz_14 rfl dX8_neededSpan_87 <| ?_
            refine ztopi (fun x_15 ex_15 => ?_)
            have hf := nm_at hf ex_15
            refine zistore (lv' := [(9, vI x_15), (8, vI x_13), (0, .ref (a 0)), (1, vI x1), (2, vI x2), (3, vI y3), (4, vI y4), (5, vI y5), (6, vI y6), (7, vI y7)]) hC.1 hC.2.1 dX8_neededSpan_88 hl (by decide) rfl (fun ls hl => ?_)
            refine ziload hC.1 hC.2.1 dX8_neededSpan_90 (lv_at hl 0 rfl) <| ziload hC.1 hC.2.1 dX8_neededSpan_92 (lv_at hl 1 rfl) <| ?_
            obtain ⟨hz_16, hf⟩ := ck_some hf
            refine zicmp_lt (tgt := 177) hC.1 hC.2.1 ⟨hz_16.1, hz_16.2⟩ dX8_neededSpan_94 (by decide) (fun hc => ?_) (fun hc => ?_)
            · have hf := it_t hf hc
              exact J177 _ _ _ _ _ _ _ _ _ hf hP hS (lv_sub hl [2, 3, 4, 5, 6, 7, 8, 9] rfl)
            · have hf := it_f hf hc
              refine ziload hC.1 hC.2.1 dX8_neededSpan_97 (lv_at hl 0 rfl) <| ziload hC.1 hC.2.1 dX8_neededSpan_99 (lv_at hl 1 rfl) <| zisub hC.1 hC.2.1 dX8_neededSpan_101 <| ziload hC.1 hC.2.1 dX8_neededSpan_102 (lv_at hl 7 rfl) <| ziload hC.1 hC.2.1 dX8_neededSpan_104 (lv_at hl 6 rfl) <| zisub hC.1 hC.2.1 dX8_neededSpan_106 <| ?_
              obtain ⟨hz_18, hf⟩ := ck_some hf
              refine zicmp_gt (tgt := 177) hC.1 hC.2.1 ⟨hz_18.1, hz_18.2⟩ dX8_neededSpan_107 (by decide) (fun hc => ?_) (fun hc => ?_)
              · have hf := it_t hf hc
                exact J177 _ _ _ _ _ _ _ _ _ hf hP hS (lv_sub hl [2, 3, 4, 5, 6, 7, 8, 9] rfl)
              · have hf := it_f hf hc
                refine ziload hC.1 hC.2.1 dX8_neededSpan_110 (lv_at hl 0 rfl) <| ziload hC.1 hC.2.1 dX8_neededSpan_112 (lv_at hl 1 rfl) <| zisub hC.1 hC.2.1 dX8_neededSpan_114 <| ziload hC.1 hC.2.1 dX8_neededSpan_115 (lv_at hl 7 rfl) <| ziload hC.1 hC.2.1 dX8_neededSpan_117 (lv_at hl 6 rfl) <| zisub hC.1 hC.2.1 dX8_neededSpan_119 <| zicmp_ne (tgt := 130) hC.1 hC.2.1 ⟨hz_18.1, hz_18.2⟩ dX8_neededSpan_120 (by decide) (fun hc => ?_) (fun hc => ?_)
                · have hf := it_f hf hc
                  exact J130 _ _ _ _ _ _ _ _ _ _ _ hf hP hS (lv_sub hl [2, 3, 4, 5, 6, 7, 8, 9, 1, 0] rfl)
                · have hf := it_t hf hc
                  refine ziload hC.1 hC.2.1 dX8_neededSpan_123 (lv_at hl 1 rfl) <| ziload hC.1 hC.2.1 dX8_neededSpan_125 (lv_at hl 6 rfl) <| ?_
                  obtain ⟨hz_24, hf⟩ := ck_some hf
                  refine zicmp_ge (tgt := 177) hC.1 hC.2.1 ⟨hz_16.2, hz_24⟩ dX8_neededSpan_127 (by decide) (fun hc => ?_) (fun hc => ?_)
                  · have hf := it_t hf hc
                    exact J177 _ _ _ _ _ _ _ _ _ hf hP hS (lv_sub hl [2, 3, 4, 5, 6, 7, 8, 9] rfl)
                  · have hf := it_f hf hc
                    exact J130 _ _ _ _ _ _ _ _ _ _ _ hf hP hS (lv_sub hl [2, 3, 4, 5, 6, 7, 8, 9, 1, 0] rfl)
      refine ziload hC.1 hC.2.1 dX8_neededSpan_41 (lv_at hl 6 rfl) <| lv_aload_n hC.1 hC.2.1 dX8_neededSpan_43 rfl (lv_at hl 0 rfl) <| gfX8_7 hC hK hP (q0 := 0) rfl rfl dX8_neededSpan_44 <| ziconst hC.1 hC.2.1 dX8_neededSpan_47 <| jal hC hK hP (q0 := 1) rfl (Nat.le_of_ble_eq_true rfl) (by decide) rfl dX8_neededSpan_48 <| ?_
      obtain ⟨hz_8, hf⟩ := ck_some hf
      refine zicmp_ge (tgt := 189) hC.1 hC.2.1 ⟨hz_8.1, hz_8.2⟩ dX8_neededSpan_49 (by decide) (fun hc => ?_) (fun hc => ?_)
      · have hf := it_t hf hc
        refine ziload_n hC.1 hC.2.1 dX8_neededSpan_189 rfl (lv_at hl 2 rfl) <| ?_
        obtain ⟨hz_9, hf⟩ := ck_some hf
        refine zif_eq (tgt := 198) hC.1 hC.2.1 hz_9 dX8_neededSpan_190 (by decide) (fun hc => ?_) (fun hc => ?_)
        · have hf := it_t hf hc
          refine ziload hC.1 hC.2.1 dX8_neededSpan_198 (lv_at hl 4 rfl) <| ?_
          have hf := Option.some.inj hf
          simp only [Prod.mk.injEq] at hf
          exact hret (Int32.ofInt y4) _ _ _ _ (congrArg (fun z => some (vI z)) hf.1.symm) (by rw [← hf.2]; exact hP) hS dX8_neededSpan_200
        · have hf := it_f hf hc
          refine ziload hC.1 hC.2.1 dX8_neededSpan_193 (lv_at hl 5 rfl) <| lv_goto (tgt := 200) hC.1 hC.2.1 dX8_neededSpan_195 (by decide) <| ?_
          have hf := Option.some.inj hf
          simp only [Prod.mk.injEq] at hf
          exact hret (Int32.ofInt y5) _ _ _ _ (congrArg (fun z => some (vI z)) hf.1.symm) (by rw [← hf.2]; exact hP) hS dX8_neededSpan_200
      · have hf := it_f hf hc
        refine ziconst hC.1 hC.2.1 dX8_neededSpan_52 <| zistore (lv' := [(7, vI 0), (0, .ref (a 0)), (1, vI x1), (2, vI x2), (3, vI y3), (4, vI y4), (5, vI y5), (6, vI y6)]) hC.1 hC.2.1 dX8_neededSpan_53 hl (by decide) rfl (fun ls hl => ?_)
        exact L55 n _ _ _ _ _ _ _ _ _ hf hP hS (lv_sub hl [1, 2, 3, 4, 5, 6, 7, 0] rfl)
  refine lv_aload_n hC.1 hC.2.1 dX8_neededSpan_0 rfl (lv_at hl 0 rfl) <| ziload_n hC.1 hC.2.1 dX8_neededSpan_1 rfl (lv_at hl 1 rfl) <| ?_
  obtain ⟨⟨r_1, V_2⟩, hu, hf⟩ := bd_some hf
  have hDc := hDt
  refine zcVZ (As := [vI x1]) (rest := []) hC hK (met_X8_noDonor l D kA a V0 x1 hDc hu) zwX8_287 hS (zFsub (hD V0) [0, 1, 2, 3, 4, 5, 6, 7, 8, 9, 10, 11, 12, 13, 14, 15, 16] rfl) hP (q0 := 0) rfl rfl rfl rfl hl.1 rfl (Nat.le_of_ble_eq_true rfl) ⟨Nat.le_of_ble_eq_true rfl, Nat.le_of_ble_eq_true rfl⟩ ⟨rfl, rfl⟩ ⟨Nat.le_refl _, Nat.le_refl _⟩ dX8_neededSpan_2 (fun H locs hP1 hk1 hS => ?_)
  have hP : va_P D vwCl (cs_X8 kA a V_2) H := hP1
  refine zifb_eq (tgt := 10) hC.1 hC.2.1 dX8_neededSpan_5 (by decide) (fun hc => ?_) (fun hc => ?_)
  · have hf := it_t hf hc
    refine lv_aload_n hC.1 hC.2.1 dX8_neededSpan_10 rfl (lv_at hl 0 rfl) <| ziload_n hC.1 hC.2.1 dX8_neededSpan_11 rfl (lv_at hl 1 rfl) <| ziconst hC.1 hC.2.1 dX8_neededSpan_12 <| zsipush hC.1 hC.2.1 dX8_neededSpan_13 (by decide) <| ?_
    obtain ⟨⟨r_3, V_4⟩, hu, hf⟩ := bd_some hf
    have hDc := hDt
    refine zcVZ (As := [vI x1, vI 0, vI 9999]) (rest := []) hC hK (met_X8_aidWith l D kA a n V_2 x1 0 9999 hDc hu) zwX8_332 hS (zFsub (hD V_2) [0, 1, 2, 3, 4, 5, 6, 7, 8, 9, 10, 11, 12, 13, 14, 15, 16] rfl) hP (q0 := 0) rfl rfl rfl rfl hl.1 rfl (Nat.le_of_ble_eq_true rfl) ⟨Nat.le_of_ble_eq_true rfl, Nat.le_of_ble_eq_true rfl⟩ ⟨rfl, rfl⟩ ⟨Nat.le_refl _, Nat.le_refl _⟩ dX8_neededSpan_16 (fun H locs hP1 hk1 hS => ?_)
    have hP : va_P D vwCl (cs_X8 kA a V_4) H := hP1
    refine zistore_n (lv' := [(3, vI r_3), (0, .ref (a 0)), (1, vI x1), (2, vI x2)]) hC.1 hC.2.1 dX8_neededSpan_19 rfl hl (by decide) rfl (fun ls hl => ?_)
    refine ziload_n hC.1 hC.2.1 dX8_neededSpan_20 rfl (lv_at hl 0 rfl) <| lv_aload_n hC.1 hC.2.1 dX8_neededSpan_21 rfl (lv_at hl 1 rfl) <| ?_
    obtain ⟨⟨r_5, V_6⟩, hu, hf⟩ := bd_some hf
    have hDc := hDt
    refine zcVZ (As := []) (rest := [vI r_3]) hC hK (met_X8_allAid l D kA a n V_4 hDc hu) zwX8_326 hS (zFsub (hD V_4) [0, 1, 2, 3, 4, 5, 6, 7, 8, 9, 10, 11, 12, 13, 14, 15, 16] rfl) hP (q0 := 0) rfl rfl rfl rfl hl.1 rfl (Nat.le_of_ble_eq_true rfl) ⟨Nat.le_of_ble_eq_true rfl, Nat.le_of_ble_eq_true rfl⟩ ⟨rfl, rfl⟩ ⟨Nat.le_refl _, Nat.le_refl _⟩ dX8_neededSpan_22 (fun H locs hP1 hk1 hS => ?_)
    have hP : va_P D vwCl (cs_X8 kA a V_6) H := hP1
    obtain ⟨hz_7, hf⟩ := ck_some hf
    refine zicmp_ne (tgt := 30) hC.1 hC.2.1 ⟨hz_7.1, hz_7.2⟩ dX8_neededSpan_25 (by decide) (fun hc => ?_) (fun hc => ?_)
    · have hf := it_f hf hc
      refine ziconst hC.1 hC.2.1 dX8_neededSpan_30 <| zistore (lv' := [(4, vI 0), (3, vI r_3), (0, .ref (a 0)), (1, vI x1), (2, vI x2)]) hC.1 hC.2.1 dX8_neededSpan_31 hl (by decide) rfl (fun ls hl => ?_)
      refine zsipush hC.1 hC.2.1 dX8_neededSpan_33 (by decide) <| zistore (lv' := [(5, vI 9999), (4, vI 0), (3, vI r_3), (0, .ref (a 0)), (1, vI x1), (2, vI x2)]) hC.1 hC.2.1 dX8_neededSpan_36 hl (by decide) rfl (fun ls hl => ?_)
      refine ziconst hC.1 hC.2.1 dX8_neededSpan_38 <| zistore (lv' := [(6, vI 0), (5, vI 9999), (4, vI 0), (3, vI r_3), (0, .ref (a 0)), (1, vI x1), (2, vI x2)]) hC.1 hC.2.1 dX8_neededSpan_39 hl (by decide) rfl (fun ls hl => ?_)
      exact L41 n _ _ _ _ _ _ _ _ hf hP hS (lv_sub hl [4, 5, 6, 3, 2, 1, 0] rfl)
    · have hf := it_t hf hc
      refine ziconst hC.1 hC.2.1 dX8_neededSpan_28 <| ?_
      have hf := Option.some.inj hf
      simp only [Prod.mk.injEq] at hf
      exact hret (Int32.ofInt (-1)) _ _ _ _ (congrArg (fun z => some (vI z)) hf.1.symm) (by rw [← hf.2]; exact hP) hS dX8_neededSpan_29
  · have hf := it_f hf hc
    refine ziconst hC.1 hC.2.1 dX8_neededSpan_8 <| ?_
    have hf := Option.some.inj hf
    simp only [Prod.mk.injEq] at hf
    exact hret (Int32.ofInt 0) _ _ _ _ (congrArg (fun z => some (vI z)) hf.1.symm) (by rw [← hf.2]; exact hP) hS dX8_neededSpan_9
theorem DX8_gainOfSplit_0 : ∀ q ∈ ([(0, .aload_n 0, 1), (1, .iload_n 1, 1), (2, .invokevirtual 265, 3), (5, .ifCond .ne 28, 3), (8, .aload_n 0, 1), (9, .iload_n 2, 1), (10, .invokevirtual 287, 3), (13, .ifCond .ne 20, 3), (16, .aload_n 0, 1), (17, .iload_n 1, 1), (18, .invokevirtual 310, 3), (21, .ifCond .eq 12, 3), (24, .aload_n 0, 1), (25, .iload_n 1, 1), (26, .iload_n 2, 1), (27, .invokevirtual 307, 3), (30, .ifCond .eq 5, 3), (33, .iconst 0, 1), (34, .ireturn, 1), (35, .aload_n 0, 1), (36, .invokevirtual 326, 3), (39, .istore_n 3, 1), (40, .aload_n 0, 1), (41, .invokevirtual 338, 3), (44, .aload_n 0, 1), (45, .iload_n 1, 1), (46, .iconst 1, 1), (47, .iload_n 2, 1), (48, .iconst 1, 1), (49, .invokevirtual 313, 3), (52, .aload_n 0, 1), (53, .invokevirtual 326, 3), (56, .istore 4, 2), (58, .aload_n 0, 1), (59, .invokevirtual 341, 3), (62, .iload 4, 2), (64, .iload_n 3, 1), (65, .isub, 1), (66, .ireturn, 1)] : List (Nat × Instr × Nat)), decode cX8_gainOfSplit q.1 = .ok q.2 := by decide +kernel
theorem dX8_gainOfSplit_0 : decode cX8_gainOfSplit 0 = .ok (.aload_n 0, 1) := DX8_gainOfSplit_0 (0, .aload_n 0, 1) (List.mem_of_getElem? (i := 0) rfl)
theorem dX8_gainOfSplit_1 : decode cX8_gainOfSplit 1 = .ok (.iload_n 1, 1) := DX8_gainOfSplit_0 (1, .iload_n 1, 1) (List.mem_of_getElem? (i := 1) rfl)
theorem dX8_gainOfSplit_2 : decode cX8_gainOfSplit 2 = .ok (.invokevirtual 265, 3) := DX8_gainOfSplit_0 (2, .invokevirtual 265, 3) (List.mem_of_getElem? (i := 2) rfl)
theorem dX8_gainOfSplit_5 : decode cX8_gainOfSplit 5 = .ok (.ifCond .ne 28, 3) := DX8_gainOfSplit_0 (5, .ifCond .ne 28, 3) (List.mem_of_getElem? (i := 3) rfl)
theorem dX8_gainOfSplit_8 : decode cX8_gainOfSplit 8 = .ok (.aload_n 0, 1) := DX8_gainOfSplit_0 (8, .aload_n 0, 1) (List.mem_of_getElem? (i := 4) rfl)
theorem dX8_gainOfSplit_9 : decode cX8_gainOfSplit 9 = .ok (.iload_n 2, 1) := DX8_gainOfSplit_0 (9, .iload_n 2, 1) (List.mem_of_getElem? (i := 5) rfl)
theorem dX8_gainOfSplit_10 : decode cX8_gainOfSplit 10 = .ok (.invokevirtual 287, 3) := DX8_gainOfSplit_0 (10, .invokevirtual 287, 3) (List.mem_of_getElem? (i := 6) rfl)
theorem dX8_gainOfSplit_13 : decode cX8_gainOfSplit 13 = .ok (.ifCond .ne 20, 3) := DX8_gainOfSplit_0 (13, .ifCond .ne 20, 3) (List.mem_of_getElem? (i := 7) rfl)
theorem dX8_gainOfSplit_16 : decode cX8_gainOfSplit 16 = .ok (.aload_n 0, 1) := DX8_gainOfSplit_0 (16, .aload_n 0, 1) (List.mem_of_getElem? (i := 8) rfl)
theorem dX8_gainOfSplit_17 : decode cX8_gainOfSplit 17 = .ok (.iload_n 1, 1) := DX8_gainOfSplit_0 (17, .iload_n 1, 1) (List.mem_of_getElem? (i := 9) rfl)
theorem dX8_gainOfSplit_18 : decode cX8_gainOfSplit 18 = .ok (.invokevirtual 310, 3) := DX8_gainOfSplit_0 (18, .invokevirtual 310, 3) (List.mem_of_getElem? (i := 10) rfl)
theorem dX8_gainOfSplit_21 : decode cX8_gainOfSplit 21 = .ok (.ifCond .eq 12, 3) := DX8_gainOfSplit_0 (21, .ifCond .eq 12, 3) (List.mem_of_getElem? (i := 11) rfl)
theorem dX8_gainOfSplit_24 : decode cX8_gainOfSplit 24 = .ok (.aload_n 0, 1) := DX8_gainOfSplit_0 (24, .aload_n 0, 1) (List.mem_of_getElem? (i := 12) rfl)
theorem dX8_gainOfSplit_25 : decode cX8_gainOfSplit 25 = .ok (.iload_n 1, 1) := DX8_gainOfSplit_0 (25, .iload_n 1, 1) (List.mem_of_getElem? (i := 13) rfl)
theorem dX8_gainOfSplit_26 : decode cX8_gainOfSplit 26 = .ok (.iload_n 2, 1) := DX8_gainOfSplit_0 (26, .iload_n 2, 1) (List.mem_of_getElem? (i := 14) rfl)
theorem dX8_gainOfSplit_27 : decode cX8_gainOfSplit 27 = .ok (.invokevirtual 307, 3) := DX8_gainOfSplit_0 (27, .invokevirtual 307, 3) (List.mem_of_getElem? (i := 15) rfl)
theorem dX8_gainOfSplit_30 : decode cX8_gainOfSplit 30 = .ok (.ifCond .eq 5, 3) := DX8_gainOfSplit_0 (30, .ifCond .eq 5, 3) (List.mem_of_getElem? (i := 16) rfl)
theorem dX8_gainOfSplit_33 : decode cX8_gainOfSplit 33 = .ok (.iconst 0, 1) := DX8_gainOfSplit_0 (33, .iconst 0, 1) (List.mem_of_getElem? (i := 17) rfl)
theorem dX8_gainOfSplit_34 : decode cX8_gainOfSplit 34 = .ok (.ireturn, 1) := DX8_gainOfSplit_0 (34, .ireturn, 1) (List.mem_of_getElem? (i := 18) rfl)
theorem dX8_gainOfSplit_35 : decode cX8_gainOfSplit 35 = .ok (.aload_n 0, 1) := DX8_gainOfSplit_0 (35, .aload_n 0, 1) (List.mem_of_getElem? (i := 19) rfl)
theorem dX8_gainOfSplit_36 : decode cX8_gainOfSplit 36 = .ok (.invokevirtual 326, 3) := DX8_gainOfSplit_0 (36, .invokevirtual 326, 3) (List.mem_of_getElem? (i := 20) rfl)
theorem dX8_gainOfSplit_39 : decode cX8_gainOfSplit 39 = .ok (.istore_n 3, 1) := DX8_gainOfSplit_0 (39, .istore_n 3, 1) (List.mem_of_getElem? (i := 21) rfl)
theorem dX8_gainOfSplit_40 : decode cX8_gainOfSplit 40 = .ok (.aload_n 0, 1) := DX8_gainOfSplit_0 (40, .aload_n 0, 1) (List.mem_of_getElem? (i := 22) rfl)
theorem dX8_gainOfSplit_41 : decode cX8_gainOfSplit 41 = .ok (.invokevirtual 338, 3) := DX8_gainOfSplit_0 (41, .invokevirtual 338, 3) (List.mem_of_getElem? (i := 23) rfl)
theorem dX8_gainOfSplit_44 : decode cX8_gainOfSplit 44 = .ok (.aload_n 0, 1) := DX8_gainOfSplit_0 (44, .aload_n 0, 1) (List.mem_of_getElem? (i := 24) rfl)
theorem dX8_gainOfSplit_45 : decode cX8_gainOfSplit 45 = .ok (.iload_n 1, 1) := DX8_gainOfSplit_0 (45, .iload_n 1, 1) (List.mem_of_getElem? (i := 25) rfl)
theorem dX8_gainOfSplit_46 : decode cX8_gainOfSplit 46 = .ok (.iconst 1, 1) := DX8_gainOfSplit_0 (46, .iconst 1, 1) (List.mem_of_getElem? (i := 26) rfl)
theorem dX8_gainOfSplit_47 : decode cX8_gainOfSplit 47 = .ok (.iload_n 2, 1) := DX8_gainOfSplit_0 (47, .iload_n 2, 1) (List.mem_of_getElem? (i := 27) rfl)
theorem dX8_gainOfSplit_48 : decode cX8_gainOfSplit 48 = .ok (.iconst 1, 1) := DX8_gainOfSplit_0 (48, .iconst 1, 1) (List.mem_of_getElem? (i := 28) rfl)
theorem dX8_gainOfSplit_49 : decode cX8_gainOfSplit 49 = .ok (.invokevirtual 313, 3) := DX8_gainOfSplit_0 (49, .invokevirtual 313, 3) (List.mem_of_getElem? (i := 29) rfl)
theorem dX8_gainOfSplit_52 : decode cX8_gainOfSplit 52 = .ok (.aload_n 0, 1) := DX8_gainOfSplit_0 (52, .aload_n 0, 1) (List.mem_of_getElem? (i := 30) rfl)
theorem dX8_gainOfSplit_53 : decode cX8_gainOfSplit 53 = .ok (.invokevirtual 326, 3) := DX8_gainOfSplit_0 (53, .invokevirtual 326, 3) (List.mem_of_getElem? (i := 31) rfl)
theorem dX8_gainOfSplit_56 : decode cX8_gainOfSplit 56 = .ok (.istore 4, 2) := DX8_gainOfSplit_0 (56, .istore 4, 2) (List.mem_of_getElem? (i := 32) rfl)
theorem dX8_gainOfSplit_58 : decode cX8_gainOfSplit 58 = .ok (.aload_n 0, 1) := DX8_gainOfSplit_0 (58, .aload_n 0, 1) (List.mem_of_getElem? (i := 33) rfl)
theorem dX8_gainOfSplit_59 : decode cX8_gainOfSplit 59 = .ok (.invokevirtual 341, 3) := DX8_gainOfSplit_0 (59, .invokevirtual 341, 3) (List.mem_of_getElem? (i := 34) rfl)
theorem dX8_gainOfSplit_62 : decode cX8_gainOfSplit 62 = .ok (.iload 4, 2) := DX8_gainOfSplit_0 (62, .iload 4, 2) (List.mem_of_getElem? (i := 35) rfl)
theorem dX8_gainOfSplit_64 : decode cX8_gainOfSplit 64 = .ok (.iload_n 3, 1) := DX8_gainOfSplit_0 (64, .iload_n 3, 1) (List.mem_of_getElem? (i := 36) rfl)
theorem dX8_gainOfSplit_65 : decode cX8_gainOfSplit 65 = .ok (.isub, 1) := DX8_gainOfSplit_0 (65, .isub, 1) (List.mem_of_getElem? (i := 37) rfl)
theorem dX8_gainOfSplit_66 : decode cX8_gainOfSplit 66 = .ok (.ireturn, 1) := DX8_gainOfSplit_0 (66, .ireturn, 1) (List.mem_of_getElem? (i := 38) rfl)
abbrev rmX8_gainOfSplit : Room := { frames := 5, cells := 0, slots := 0, locals := 112 }
set_option maxHeartbeats 400000 in
set_option maxRecDepth 100000 in
theorem met_X8_gainOfSplit (l : Launch) (D : va_G) (kA : Nat → ClassId) (a : Nat → Nat) (n : Nat) (V0 : Sz) (x1 : Int) (x2 : Int) (hDt : ∀ w : Sz, va_D (fun _ => True) (cs_X8 kA a w)) {r : Int} {Vr : Sz} (hf : f_X8_gainOfSplit n V0 x1 x2 = some (r, Vr)) : MZ l yX8_gainOfSplit cX8_gainOfSplit 5 (some .int) rmX8_gainOfSplit D kA [.ref (a 0), vI x1, vI x2] (cs_X8 kA a V0) (cs_X8 kA a Vr) (some (vI r)) := by
  refine zZI (own := RX8) rfl rfl (Nat.le_of_ble_eq_true rfl) ?_
  intro p e s m args below meth c ls Q hC hK hP hl hret
  have hl : lv_has ls 5 [(0, .ref (a 0)), (1, vI x1), (2, vI x2)] := hl
  have hS : va_S (zF (cs_X8 kA a V0)) s.heap s.heap [] := va_S.rf
  have hD := zDself (C := fun w : Sz => (cs_X8 kA a w)) hDt V0 (fun _ => rfl)
  try dsimp only at hD
  generalize hAe : zF (cs_X8 kA a V0) = A0 at hS hD hret
  unfold f_X8_gainOfSplit at hf
  refine lv_aload_n hC.1 hC.2.1 dX8_gainOfSplit_0 rfl (lv_at hl 0 rfl) <| ziload_n hC.1 hC.2.1 dX8_gainOfSplit_1 rfl (lv_at hl 1 rfl) <| ?_
  obtain ⟨⟨r_1, V_2⟩, hu, hf⟩ := bd_some hf
  have hDc := hDt
  refine zcVZ (As := [vI x1]) (rest := []) hC hK (met_X8_noGift l D kA a V0 x1 hDc hu) zwX8_265 hS (zFsub (hD V0) [0, 1, 2, 3, 4, 5, 6, 7, 8, 9, 10, 11, 12, 13, 14, 15, 16] rfl) hP (q0 := 0) rfl rfl rfl rfl hl.1 rfl (Nat.le_of_ble_eq_true rfl) ⟨Nat.le_of_ble_eq_true rfl, Nat.le_of_ble_eq_true rfl⟩ ⟨rfl, rfl⟩ ⟨Nat.le_refl _, Nat.le_refl _⟩ dX8_gainOfSplit_2 (fun H locs hP1 hk1 hS => ?_)
  have hP : va_P D vwCl (cs_X8 kA a V_2) H := hP1
  refine zifb_ne (tgt := 33) hC.1 hC.2.1 dX8_gainOfSplit_5 (by decide) (fun hc => ?_) (fun hc => ?_)
  · have hf := it_t hf hc
    refine ziconst hC.1 hC.2.1 dX8_gainOfSplit_33 <| ?_
    have hf := Option.some.inj hf
    simp only [Prod.mk.injEq] at hf
    exact hret (Int32.ofInt 0) _ _ _ _ (congrArg (fun z => some (vI z)) hf.1.symm) (by rw [← hf.2]; exact hP) hS dX8_gainOfSplit_34
  · have hf := it_f hf hc
    refine lv_aload_n hC.1 hC.2.1 dX8_gainOfSplit_8 rfl (lv_at hl 0 rfl) <| ziload_n hC.1 hC.2.1 dX8_gainOfSplit_9 rfl (lv_at hl 2 rfl) <| ?_
    obtain ⟨⟨r_3, V_4⟩, hu, hf⟩ := bd_some hf
    have hDc := hDt
    refine zcVZ (As := [vI x2]) (rest := []) hC hK (met_X8_noDonor l D kA a V_2 x2 hDc hu) zwX8_287 hS (zFsub (hD V_2) [0, 1, 2, 3, 4, 5, 6, 7, 8, 9, 10, 11, 12, 13, 14, 15, 16] rfl) hP (q0 := 0) rfl rfl rfl rfl hl.1 rfl (Nat.le_of_ble_eq_true rfl) ⟨Nat.le_of_ble_eq_true rfl, Nat.le_of_ble_eq_true rfl⟩ ⟨rfl, rfl⟩ ⟨Nat.le_refl _, Nat.le_refl _⟩ dX8_gainOfSplit_10 (fun H locs hP1 hk1 hS => ?_)
    have hP : va_P D vwCl (cs_X8 kA a V_4) H := hP1
    refine zifb_ne (tgt := 33) hC.1 hC.2.1 dX8_gainOfSplit_13 (by decide) (fun hc => ?_) (fun hc => ?_)
    · have hf := it_t hf hc
      refine ziconst hC.1 hC.2.1 dX8_gainOfSplit_33 <| ?_
      have hf := Option.some.inj hf
      simp only [Prod.mk.injEq] at hf
      exact hret (Int32.ofInt 0) _ _ _ _ (congrArg (fun z => some (vI z)) hf.1.symm) (by rw [← hf.2]; exact hP) hS dX8_gainOfSplit_34
    · have hf := it_f hf hc
      refine lv_aload_n hC.1 hC.2.1 dX8_gainOfSplit_16 rfl (lv_at hl 0 rfl) <| ziload_n hC.1 hC.2.1 dX8_gainOfSplit_17 rfl (lv_at hl 1 rfl) <| ?_
      obtain ⟨r_5, hu, hf⟩ := bd_some hf
      refine zcVP (As := [vI x1]) (rest := []) hC hK (met_X8_canSplit l D kA a V_4 x1 hu) zwX8_310 hP (q0 := 0) rfl rfl rfl rfl hl.1 rfl (Nat.le_of_ble_eq_true rfl) ⟨Nat.le_of_ble_eq_true rfl, Nat.le_of_ble_eq_true rfl⟩ ⟨rfl, rfl⟩ ⟨Nat.le_refl _, Nat.le_refl _⟩ dX8_gainOfSplit_18 <| zifb_eq (tgt := 33) hC.1 hC.2.1 dX8_gainOfSplit_21 (by decide) (fun hc => ?_) (fun hc => ?_)
      · have hf := it_t hf hc
        refine ziconst hC.1 hC.2.1 dX8_gainOfSplit_33 <| ?_
        have hf := Option.some.inj hf
        simp only [Prod.mk.injEq] at hf
        exact hret (Int32.ofInt 0) _ _ _ _ (congrArg (fun z => some (vI z)) hf.1.symm) (by rw [← hf.2]; exact hP) hS dX8_gainOfSplit_34
      · have hf := it_f hf hc
        refine lv_aload_n hC.1 hC.2.1 dX8_gainOfSplit_24 rfl (lv_at hl 0 rfl) <| ziload_n hC.1 hC.2.1 dX8_gainOfSplit_25 rfl (lv_at hl 1 rfl) <| ziload_n hC.1 hC.2.1 dX8_gainOfSplit_26 rfl (lv_at hl 2 rfl) <| ?_
        obtain ⟨r_6, hu, hf⟩ := bd_some hf
        refine zcVP (As := [vI x1, vI x2]) (rest := []) hC hK (met_X8_isDonorOf l D kA a V_4 x1 x2 hu) zwX8_307 hP (q0 := 0) rfl rfl rfl rfl hl.1 rfl (Nat.le_of_ble_eq_true rfl) ⟨Nat.le_of_ble_eq_true rfl, Nat.le_of_ble_eq_true rfl⟩ ⟨rfl, rfl⟩ ⟨Nat.le_refl _, Nat.le_refl _⟩ dX8_gainOfSplit_27 <| zifb_eq (tgt := 35) hC.1 hC.2.1 dX8_gainOfSplit_30 (by decide) (fun hc => ?_) (fun hc => ?_)
        · have hf := it_t hf hc
          refine lv_aload_n hC.1 hC.2.1 dX8_gainOfSplit_35 rfl (lv_at hl 0 rfl) <| ?_
          obtain ⟨⟨r_7, V_8⟩, hu, hf⟩ := bd_some hf
          have hDc := hDt
          refine zcVZ (As := []) (rest := []) hC hK (met_X8_allAid l D kA a n V_4 hDc hu) zwX8_326 hS (zFsub (hD V_4) [0, 1, 2, 3, 4, 5, 6, 7, 8, 9, 10, 11, 12, 13, 14, 15, 16] rfl) hP (q0 := 0) rfl rfl rfl rfl hl.1 rfl (Nat.le_of_ble_eq_true rfl) ⟨Nat.le_of_ble_eq_true rfl, Nat.le_of_ble_eq_true rfl⟩ ⟨rfl, rfl⟩ ⟨Nat.le_refl _, Nat.le_refl _⟩ dX8_gainOfSplit_36 (fun H locs hP1 hk1 hS => ?_)
          have hP : va_P D vwCl (cs_X8 kA a V_8) H := hP1
          refine zistore_n (lv' := [(3, vI r_7), (0, .ref (a 0)), (1, vI x1), (2, vI x2)]) hC.1 hC.2.1 dX8_gainOfSplit_39 rfl hl (by decide) rfl (fun ls hl => ?_)
          refine lv_aload_n hC.1 hC.2.1 dX8_gainOfSplit_40 rfl (lv_at hl 1 rfl) <| ?_
          obtain ⟨V_9, hu, hf⟩ := bd_some hf
          have hDc := hDt
          refine zcVZ (As := []) (rest := []) hC hK (met_X8_begins l D kA a n V_8 hDc hu) zwX8_338 hS (zFsub (hD V_8) [0, 1, 2, 3, 4, 5, 6, 7, 8, 9, 10, 11, 12, 13, 14, 15, 16] rfl) hP (q0 := 0) rfl rfl rfl rfl hl.1 rfl (Nat.le_of_ble_eq_true rfl) ⟨Nat.le_of_ble_eq_true rfl, Nat.le_of_ble_eq_true rfl⟩ ⟨rfl, rfl⟩ ⟨Nat.le_refl _, Nat.le_refl _⟩ dX8_gainOfSplit_41 (fun H locs hP1 hk1 hS => ?_)
          have hP : va_P D vwCl (cs_X8 kA a V_9) H := hP1
          refine lv_aload_n hC.1 hC.2.1 dX8_gainOfSplit_44 rfl (lv_at hl 1 rfl) <| ziload_n hC.1 hC.2.1 dX8_gainOfSplit_45 rfl (lv_at hl 2 rfl) <| ziconst hC.1 hC.2.1 dX8_gainOfSplit_46 <| ziload_n hC.1 hC.2.1 dX8_gainOfSplit_47 rfl (lv_at hl 3 rfl) <| ziconst hC.1 hC.2.1 dX8_gainOfSplit_48 <| ?_
          obtain ⟨V_10, hu, hf⟩ := bd_some hf
          have hDc := hDt
          refine zcVZ (As := [vI x1, vI 1, vI x2, vI 1]) (rest := []) hC hK (met_X8_splits l D kA a n V_9 x1 1 x2 1 hDc hu) zwX8_313 hS (zFsub (hD V_9) [0, 1, 2, 3, 4, 5, 6, 7, 8, 9, 10, 11, 12, 13, 14, 15, 16] rfl) hP (q0 := 0) rfl rfl rfl rfl hl.1 rfl (Nat.le_of_ble_eq_true rfl) ⟨Nat.le_of_ble_eq_true rfl, Nat.le_of_ble_eq_true rfl⟩ ⟨rfl, rfl⟩ ⟨Nat.le_refl _, Nat.le_refl _⟩ dX8_gainOfSplit_49 (fun H locs hP1 hk1 hS => ?_)
          have hP : va_P D vwCl (cs_X8 kA a V_10) H := hP1
          refine lv_aload_n hC.1 hC.2.1 dX8_gainOfSplit_52 rfl (lv_at hl 1 rfl) <| ?_
          obtain ⟨⟨r_11, V_12⟩, hu, hf⟩ := bd_some hf
          have hDc := hDt
          refine zcVZ (As := []) (rest := []) hC hK (met_X8_allAid l D kA a n V_10 hDc hu) zwX8_326 hS (zFsub (hD V_10) [0, 1, 2, 3, 4, 5, 6, 7, 8, 9, 10, 11, 12, 13, 14, 15, 16] rfl) hP (q0 := 0) rfl rfl rfl rfl hl.1 rfl (Nat.le_of_ble_eq_true rfl) ⟨Nat.le_of_ble_eq_true rfl, Nat.le_of_ble_eq_true rfl⟩ ⟨rfl, rfl⟩ ⟨Nat.le_refl _, Nat.le_refl _⟩ dX8_gainOfSplit_53 (fun H locs hP1 hk1 hS => ?_)
          have hP : va_P D vwCl (cs_X8 kA a V_12) H := hP1
          refine zistore (lv' := [(4, vI r_11), (3, vI r_7), (0, .ref (a 0)), (1, vI x1), (2, vI x2)]) hC.1 hC.2.1 dX8_gainOfSplit_56 hl (by decide) rfl (fun ls hl => ?_)
          refine lv_aload_n hC.1 hC.2.1 dX8_gainOfSplit_58 rfl (lv_at hl 2 rfl) <| ?_
          obtain ⟨V_13, hu, hf⟩ := bd_some hf
          have hDc := hDt
          refine zcVZ (As := []) (rest := []) hC hK (met_X8_ends l D kA a n V_12 hDc hu) zwX8_341 hS (zFsub (hD V_12) [0, 1, 2, 3, 4, 5, 6, 7, 8, 9, 10, 11, 12, 13, 14, 15, 16] rfl) hP (q0 := 0) rfl rfl rfl rfl hl.1 rfl (Nat.le_of_ble_eq_true rfl) ⟨Nat.le_of_ble_eq_true rfl, Nat.le_of_ble_eq_true rfl⟩ ⟨rfl, rfl⟩ ⟨Nat.le_refl _, Nat.le_refl _⟩ dX8_gainOfSplit_59 (fun H locs hP1 hk1 hS => ?_)
          have hP : va_P D vwCl (cs_X8 kA a V_13) H := hP1
          refine ziload hC.1 hC.2.1 dX8_gainOfSplit_62 (lv_at hl 0 rfl) <| ziload_n hC.1 hC.2.1 dX8_gainOfSplit_64 rfl (lv_at hl 1 rfl) <| zisub hC.1 hC.2.1 dX8_gainOfSplit_65 <| ?_
          have hf := Option.some.inj hf
          simp only [Prod.mk.injEq] at hf
          exact hret (Int32.ofInt (r_11 - r_7)) _ _ _ _ (congrArg (fun z => some (vI z)) hf.1.symm) (by rw [← hf.2]; exact hP) hS dX8_gainOfSplit_66
        · have hf := it_f hf hc
          refine ziconst hC.1 hC.2.1 dX8_gainOfSplit_33 <| ?_
          have hf := Option.some.inj hf
          simp only [Prod.mk.injEq] at hf
          exact hret (Int32.ofInt 0) _ _ _ _ (congrArg (fun z => some (vI z)) hf.1.symm) (by rw [← hf.2]; exact hP) hS dX8_gainOfSplit_34
theorem DX8_draws_0 : ∀ q ∈ ([(0, .aload_n 0, 1), (1, .invokevirtual 121, 3), (4, .aload_n 0, 1), (5, .iconst 0, 1), (6, .putfield 344, 3), (9, .iconst 0, 1), (10, .istore_n 3, 1), (11, .iload_n 3, 1), (12, .sipush 180, 3), (15, .if_icmp .ge 53, 3), (18, .aload_n 0, 1), (19, .iload_n 3, 1), (20, .invokevirtual 124, 3), (23, .ifCond .eq 39, 3), (26, .aload_n 0, 1), (27, .getfield 7, 3), (30, .sipush 953, 3), (33, .iload_n 3, 1), (34, .iadd, 1), (35, .iaload, 1), (36, .ifCond .ne 6, 3), (39, .goto 23, 3), (42, .aload_n 0, 1), (43, .getfield 53, 3), (46, .aload_n 0, 1), (47, .getfield 344, 3), (50, .iload_n 3, 1), (51, .iastore, 1), (52, .aload_n 0, 1), (53, .dup, 1), (54, .getfield 344, 3), (57, .iconst 1, 1), (58, .iadd, 1), (59, .putfield 344, 3), (62, .iinc 3 1, 3), (65, .goto (-54), 3), (68, .aload_n 0, 1), (69, .iconst 0, 1), (70, .putfield 347, 3), (73, .iload_n 2, 1)] : List (Nat × Instr × Nat)), decode cX8_draws q.1 = .ok q.2 := by decide +kernel
theorem dX8_draws_0 : decode cX8_draws 0 = .ok (.aload_n 0, 1) := DX8_draws_0 (0, .aload_n 0, 1) (List.mem_of_getElem? (i := 0) rfl)
theorem dX8_draws_1 : decode cX8_draws 1 = .ok (.invokevirtual 121, 3) := DX8_draws_0 (1, .invokevirtual 121, 3) (List.mem_of_getElem? (i := 1) rfl)
theorem dX8_draws_4 : decode cX8_draws 4 = .ok (.aload_n 0, 1) := DX8_draws_0 (4, .aload_n 0, 1) (List.mem_of_getElem? (i := 2) rfl)
theorem dX8_draws_5 : decode cX8_draws 5 = .ok (.iconst 0, 1) := DX8_draws_0 (5, .iconst 0, 1) (List.mem_of_getElem? (i := 3) rfl)
theorem dX8_draws_6 : decode cX8_draws 6 = .ok (.putfield 344, 3) := DX8_draws_0 (6, .putfield 344, 3) (List.mem_of_getElem? (i := 4) rfl)
theorem dX8_draws_9 : decode cX8_draws 9 = .ok (.iconst 0, 1) := DX8_draws_0 (9, .iconst 0, 1) (List.mem_of_getElem? (i := 5) rfl)
theorem dX8_draws_10 : decode cX8_draws 10 = .ok (.istore_n 3, 1) := DX8_draws_0 (10, .istore_n 3, 1) (List.mem_of_getElem? (i := 6) rfl)
theorem dX8_draws_11 : decode cX8_draws 11 = .ok (.iload_n 3, 1) := DX8_draws_0 (11, .iload_n 3, 1) (List.mem_of_getElem? (i := 7) rfl)
theorem dX8_draws_12 : decode cX8_draws 12 = .ok (.sipush 180, 3) := DX8_draws_0 (12, .sipush 180, 3) (List.mem_of_getElem? (i := 8) rfl)
theorem dX8_draws_15 : decode cX8_draws 15 = .ok (.if_icmp .ge 53, 3) := DX8_draws_0 (15, .if_icmp .ge 53, 3) (List.mem_of_getElem? (i := 9) rfl)
theorem dX8_draws_18 : decode cX8_draws 18 = .ok (.aload_n 0, 1) := DX8_draws_0 (18, .aload_n 0, 1) (List.mem_of_getElem? (i := 10) rfl)
theorem dX8_draws_19 : decode cX8_draws 19 = .ok (.iload_n 3, 1) := DX8_draws_0 (19, .iload_n 3, 1) (List.mem_of_getElem? (i := 11) rfl)
theorem dX8_draws_20 : decode cX8_draws 20 = .ok (.invokevirtual 124, 3) := DX8_draws_0 (20, .invokevirtual 124, 3) (List.mem_of_getElem? (i := 12) rfl)
theorem dX8_draws_23 : decode cX8_draws 23 = .ok (.ifCond .eq 39, 3) := DX8_draws_0 (23, .ifCond .eq 39, 3) (List.mem_of_getElem? (i := 13) rfl)
theorem dX8_draws_26 : decode cX8_draws 26 = .ok (.aload_n 0, 1) := DX8_draws_0 (26, .aload_n 0, 1) (List.mem_of_getElem? (i := 14) rfl)
theorem dX8_draws_27 : decode cX8_draws 27 = .ok (.getfield 7, 3) := DX8_draws_0 (27, .getfield 7, 3) (List.mem_of_getElem? (i := 15) rfl)
theorem dX8_draws_30 : decode cX8_draws 30 = .ok (.sipush 953, 3) := DX8_draws_0 (30, .sipush 953, 3) (List.mem_of_getElem? (i := 16) rfl)
theorem dX8_draws_33 : decode cX8_draws 33 = .ok (.iload_n 3, 1) := DX8_draws_0 (33, .iload_n 3, 1) (List.mem_of_getElem? (i := 17) rfl)
theorem dX8_draws_34 : decode cX8_draws 34 = .ok (.iadd, 1) := DX8_draws_0 (34, .iadd, 1) (List.mem_of_getElem? (i := 18) rfl)
theorem dX8_draws_35 : decode cX8_draws 35 = .ok (.iaload, 1) := DX8_draws_0 (35, .iaload, 1) (List.mem_of_getElem? (i := 19) rfl)
theorem dX8_draws_36 : decode cX8_draws 36 = .ok (.ifCond .ne 6, 3) := DX8_draws_0 (36, .ifCond .ne 6, 3) (List.mem_of_getElem? (i := 20) rfl)
theorem dX8_draws_39 : decode cX8_draws 39 = .ok (.goto 23, 3) := DX8_draws_0 (39, .goto 23, 3) (List.mem_of_getElem? (i := 21) rfl)
theorem dX8_draws_42 : decode cX8_draws 42 = .ok (.aload_n 0, 1) := DX8_draws_0 (42, .aload_n 0, 1) (List.mem_of_getElem? (i := 22) rfl)
theorem dX8_draws_43 : decode cX8_draws 43 = .ok (.getfield 53, 3) := DX8_draws_0 (43, .getfield 53, 3) (List.mem_of_getElem? (i := 23) rfl)
theorem dX8_draws_46 : decode cX8_draws 46 = .ok (.aload_n 0, 1) := DX8_draws_0 (46, .aload_n 0, 1) (List.mem_of_getElem? (i := 24) rfl)
theorem dX8_draws_47 : decode cX8_draws 47 = .ok (.getfield 344, 3) := DX8_draws_0 (47, .getfield 344, 3) (List.mem_of_getElem? (i := 25) rfl)
theorem dX8_draws_50 : decode cX8_draws 50 = .ok (.iload_n 3, 1) := DX8_draws_0 (50, .iload_n 3, 1) (List.mem_of_getElem? (i := 26) rfl)
theorem dX8_draws_51 : decode cX8_draws 51 = .ok (.iastore, 1) := DX8_draws_0 (51, .iastore, 1) (List.mem_of_getElem? (i := 27) rfl)
theorem dX8_draws_52 : decode cX8_draws 52 = .ok (.aload_n 0, 1) := DX8_draws_0 (52, .aload_n 0, 1) (List.mem_of_getElem? (i := 28) rfl)
theorem dX8_draws_53 : decode cX8_draws 53 = .ok (.dup, 1) := DX8_draws_0 (53, .dup, 1) (List.mem_of_getElem? (i := 29) rfl)
theorem dX8_draws_54 : decode cX8_draws 54 = .ok (.getfield 344, 3) := DX8_draws_0 (54, .getfield 344, 3) (List.mem_of_getElem? (i := 30) rfl)
theorem dX8_draws_57 : decode cX8_draws 57 = .ok (.iconst 1, 1) := DX8_draws_0 (57, .iconst 1, 1) (List.mem_of_getElem? (i := 31) rfl)
theorem dX8_draws_58 : decode cX8_draws 58 = .ok (.iadd, 1) := DX8_draws_0 (58, .iadd, 1) (List.mem_of_getElem? (i := 32) rfl)
theorem dX8_draws_59 : decode cX8_draws 59 = .ok (.putfield 344, 3) := DX8_draws_0 (59, .putfield 344, 3) (List.mem_of_getElem? (i := 33) rfl)
theorem dX8_draws_62 : decode cX8_draws 62 = .ok (.iinc 3 1, 3) := DX8_draws_0 (62, .iinc 3 1, 3) (List.mem_of_getElem? (i := 34) rfl)
theorem dX8_draws_65 : decode cX8_draws 65 = .ok (.goto (-54), 3) := DX8_draws_0 (65, .goto (-54), 3) (List.mem_of_getElem? (i := 35) rfl)
theorem dX8_draws_68 : decode cX8_draws 68 = .ok (.aload_n 0, 1) := DX8_draws_0 (68, .aload_n 0, 1) (List.mem_of_getElem? (i := 36) rfl)
theorem dX8_draws_69 : decode cX8_draws 69 = .ok (.iconst 0, 1) := DX8_draws_0 (69, .iconst 0, 1) (List.mem_of_getElem? (i := 37) rfl)
theorem dX8_draws_70 : decode cX8_draws 70 = .ok (.putfield 347, 3) := DX8_draws_0 (70, .putfield 347, 3) (List.mem_of_getElem? (i := 38) rfl)
theorem dX8_draws_73 : decode cX8_draws 73 = .ok (.iload_n 2, 1) := DX8_draws_0 (73, .iload_n 2, 1) (List.mem_of_getElem? (i := 39) rfl)
theorem DX8_draws_1 : ∀ q ∈ ([(74, .istore_n 3, 1), (75, .aload_n 0, 1), (76, .getfield 347, 3), (79, .iload_n 1, 1), (80, .if_icmp .ge 110, 3), (83, .aload_n 0, 1), (84, .getfield 344, 3), (87, .ifCond .le 103, 3), (90, .iload_n 3, 1), (91, .ldc_w 350, 3), (94, .imul, 1), (95, .sipush 12345, 3), (98, .iadd, 1), (99, .ldc_w 351, 3), (102, .iand, 1), (103, .istore_n 3, 1), (104, .iload_n 3, 1), (105, .ldc_w 352, 3), (108, .idiv, 1), (109, .aload_n 0, 1), (110, .getfield 344, 3), (113, .irem, 1), (114, .istore 4, 2), (116, .aload_n 0, 1), (117, .getfield 56, 3), (120, .aload_n 0, 1), (121, .getfield 347, 3), (124, .aload_n 0, 1), (125, .getfield 53, 3), (128, .iload 4, 2), (130, .iaload, 1), (131, .iastore, 1), (132, .aload_n 0, 1), (133, .dup, 1), (134, .getfield 347, 3), (137, .iconst 1, 1), (138, .iadd, 1), (139, .putfield 347, 3), (142, .aload_n 0, 1), (143, .dup, 1)] : List (Nat × Instr × Nat)), decode cX8_draws q.1 = .ok q.2 := by decide +kernel
theorem dX8_draws_74 : decode cX8_draws 74 = .ok (.istore_n 3, 1) := DX8_draws_1 (74, .istore_n 3, 1) (List.mem_of_getElem? (i := 0) rfl)
theorem dX8_draws_75 : decode cX8_draws 75 = .ok (.aload_n 0, 1) := DX8_draws_1 (75, .aload_n 0, 1) (List.mem_of_getElem? (i := 1) rfl)
theorem dX8_draws_76 : decode cX8_draws 76 = .ok (.getfield 347, 3) := DX8_draws_1 (76, .getfield 347, 3) (List.mem_of_getElem? (i := 2) rfl)
theorem dX8_draws_79 : decode cX8_draws 79 = .ok (.iload_n 1, 1) := DX8_draws_1 (79, .iload_n 1, 1) (List.mem_of_getElem? (i := 3) rfl)
theorem dX8_draws_80 : decode cX8_draws 80 = .ok (.if_icmp .ge 110, 3) := DX8_draws_1 (80, .if_icmp .ge 110, 3) (List.mem_of_getElem? (i := 4) rfl)
theorem dX8_draws_83 : decode cX8_draws 83 = .ok (.aload_n 0, 1) := DX8_draws_1 (83, .aload_n 0, 1) (List.mem_of_getElem? (i := 5) rfl)
theorem dX8_draws_84 : decode cX8_draws 84 = .ok (.getfield 344, 3) := DX8_draws_1 (84, .getfield 344, 3) (List.mem_of_getElem? (i := 6) rfl)
theorem dX8_draws_87 : decode cX8_draws 87 = .ok (.ifCond .le 103, 3) := DX8_draws_1 (87, .ifCond .le 103, 3) (List.mem_of_getElem? (i := 7) rfl)
theorem dX8_draws_90 : decode cX8_draws 90 = .ok (.iload_n 3, 1) := DX8_draws_1 (90, .iload_n 3, 1) (List.mem_of_getElem? (i := 8) rfl)
theorem dX8_draws_91 : decode cX8_draws 91 = .ok (.ldc_w 350, 3) := DX8_draws_1 (91, .ldc_w 350, 3) (List.mem_of_getElem? (i := 9) rfl)
theorem dX8_draws_94 : decode cX8_draws 94 = .ok (.imul, 1) := DX8_draws_1 (94, .imul, 1) (List.mem_of_getElem? (i := 10) rfl)
theorem dX8_draws_95 : decode cX8_draws 95 = .ok (.sipush 12345, 3) := DX8_draws_1 (95, .sipush 12345, 3) (List.mem_of_getElem? (i := 11) rfl)
theorem dX8_draws_98 : decode cX8_draws 98 = .ok (.iadd, 1) := DX8_draws_1 (98, .iadd, 1) (List.mem_of_getElem? (i := 12) rfl)
theorem dX8_draws_99 : decode cX8_draws 99 = .ok (.ldc_w 351, 3) := DX8_draws_1 (99, .ldc_w 351, 3) (List.mem_of_getElem? (i := 13) rfl)
theorem dX8_draws_102 : decode cX8_draws 102 = .ok (.iand, 1) := DX8_draws_1 (102, .iand, 1) (List.mem_of_getElem? (i := 14) rfl)
theorem dX8_draws_103 : decode cX8_draws 103 = .ok (.istore_n 3, 1) := DX8_draws_1 (103, .istore_n 3, 1) (List.mem_of_getElem? (i := 15) rfl)
theorem dX8_draws_104 : decode cX8_draws 104 = .ok (.iload_n 3, 1) := DX8_draws_1 (104, .iload_n 3, 1) (List.mem_of_getElem? (i := 16) rfl)
theorem dX8_draws_105 : decode cX8_draws 105 = .ok (.ldc_w 352, 3) := DX8_draws_1 (105, .ldc_w 352, 3) (List.mem_of_getElem? (i := 17) rfl)
theorem dX8_draws_108 : decode cX8_draws 108 = .ok (.idiv, 1) := DX8_draws_1 (108, .idiv, 1) (List.mem_of_getElem? (i := 18) rfl)
theorem dX8_draws_109 : decode cX8_draws 109 = .ok (.aload_n 0, 1) := DX8_draws_1 (109, .aload_n 0, 1) (List.mem_of_getElem? (i := 19) rfl)
theorem dX8_draws_110 : decode cX8_draws 110 = .ok (.getfield 344, 3) := DX8_draws_1 (110, .getfield 344, 3) (List.mem_of_getElem? (i := 20) rfl)
theorem dX8_draws_113 : decode cX8_draws 113 = .ok (.irem, 1) := DX8_draws_1 (113, .irem, 1) (List.mem_of_getElem? (i := 21) rfl)
theorem dX8_draws_114 : decode cX8_draws 114 = .ok (.istore 4, 2) := DX8_draws_1 (114, .istore 4, 2) (List.mem_of_getElem? (i := 22) rfl)
theorem dX8_draws_116 : decode cX8_draws 116 = .ok (.aload_n 0, 1) := DX8_draws_1 (116, .aload_n 0, 1) (List.mem_of_getElem? (i := 23) rfl)
theorem dX8_draws_117 : decode cX8_draws 117 = .ok (.getfield 56, 3) := DX8_draws_1 (117, .getfield 56, 3) (List.mem_of_getElem? (i := 24) rfl)
theorem dX8_draws_120 : decode cX8_draws 120 = .ok (.aload_n 0, 1) := DX8_draws_1 (120, .aload_n 0, 1) (List.mem_of_getElem? (i := 25) rfl)
theorem dX8_draws_121 : decode cX8_draws 121 = .ok (.getfield 347, 3) := DX8_draws_1 (121, .getfield 347, 3) (List.mem_of_getElem? (i := 26) rfl)
theorem dX8_draws_124 : decode cX8_draws 124 = .ok (.aload_n 0, 1) := DX8_draws_1 (124, .aload_n 0, 1) (List.mem_of_getElem? (i := 27) rfl)
theorem dX8_draws_125 : decode cX8_draws 125 = .ok (.getfield 53, 3) := DX8_draws_1 (125, .getfield 53, 3) (List.mem_of_getElem? (i := 28) rfl)
theorem dX8_draws_128 : decode cX8_draws 128 = .ok (.iload 4, 2) := DX8_draws_1 (128, .iload 4, 2) (List.mem_of_getElem? (i := 29) rfl)
theorem dX8_draws_130 : decode cX8_draws 130 = .ok (.iaload, 1) := DX8_draws_1 (130, .iaload, 1) (List.mem_of_getElem? (i := 30) rfl)
theorem dX8_draws_131 : decode cX8_draws 131 = .ok (.iastore, 1) := DX8_draws_1 (131, .iastore, 1) (List.mem_of_getElem? (i := 31) rfl)
theorem dX8_draws_132 : decode cX8_draws 132 = .ok (.aload_n 0, 1) := DX8_draws_1 (132, .aload_n 0, 1) (List.mem_of_getElem? (i := 32) rfl)
theorem dX8_draws_133 : decode cX8_draws 133 = .ok (.dup, 1) := DX8_draws_1 (133, .dup, 1) (List.mem_of_getElem? (i := 33) rfl)
theorem dX8_draws_134 : decode cX8_draws 134 = .ok (.getfield 347, 3) := DX8_draws_1 (134, .getfield 347, 3) (List.mem_of_getElem? (i := 34) rfl)
theorem dX8_draws_137 : decode cX8_draws 137 = .ok (.iconst 1, 1) := DX8_draws_1 (137, .iconst 1, 1) (List.mem_of_getElem? (i := 35) rfl)
theorem dX8_draws_138 : decode cX8_draws 138 = .ok (.iadd, 1) := DX8_draws_1 (138, .iadd, 1) (List.mem_of_getElem? (i := 36) rfl)
theorem dX8_draws_139 : decode cX8_draws 139 = .ok (.putfield 347, 3) := DX8_draws_1 (139, .putfield 347, 3) (List.mem_of_getElem? (i := 37) rfl)
theorem dX8_draws_142 : decode cX8_draws 142 = .ok (.aload_n 0, 1) := DX8_draws_1 (142, .aload_n 0, 1) (List.mem_of_getElem? (i := 38) rfl)
theorem dX8_draws_143 : decode cX8_draws 143 = .ok (.dup, 1) := DX8_draws_1 (143, .dup, 1) (List.mem_of_getElem? (i := 39) rfl)
theorem DX8_draws_2 : ∀ q ∈ ([(144, .getfield 344, 3), (147, .iconst 1, 1), (148, .isub, 1), (149, .putfield 344, 3), (152, .iload 4, 2), (154, .istore 5, 2), (156, .iload 5, 2), (158, .aload_n 0, 1), (159, .getfield 344, 3), (162, .if_icmp .ge 25, 3), (165, .aload_n 0, 1), (166, .getfield 53, 3), (169, .iload 5, 2), (171, .aload_n 0, 1), (172, .getfield 53, 3), (175, .iload 5, 2), (177, .iconst 1, 1), (178, .iadd, 1), (179, .iaload, 1), (180, .iastore, 1), (181, .iinc 5 1, 3), (184, .goto (-28), 3), (187, .goto (-112), 3), (190, .return_, 1)] : List (Nat × Instr × Nat)), decode cX8_draws q.1 = .ok q.2 := by decide +kernel
theorem dX8_draws_144 : decode cX8_draws 144 = .ok (.getfield 344, 3) := DX8_draws_2 (144, .getfield 344, 3) (List.mem_of_getElem? (i := 0) rfl)
theorem dX8_draws_147 : decode cX8_draws 147 = .ok (.iconst 1, 1) := DX8_draws_2 (147, .iconst 1, 1) (List.mem_of_getElem? (i := 1) rfl)
theorem dX8_draws_148 : decode cX8_draws 148 = .ok (.isub, 1) := DX8_draws_2 (148, .isub, 1) (List.mem_of_getElem? (i := 2) rfl)
theorem dX8_draws_149 : decode cX8_draws 149 = .ok (.putfield 344, 3) := DX8_draws_2 (149, .putfield 344, 3) (List.mem_of_getElem? (i := 3) rfl)
theorem dX8_draws_152 : decode cX8_draws 152 = .ok (.iload 4, 2) := DX8_draws_2 (152, .iload 4, 2) (List.mem_of_getElem? (i := 4) rfl)
theorem dX8_draws_154 : decode cX8_draws 154 = .ok (.istore 5, 2) := DX8_draws_2 (154, .istore 5, 2) (List.mem_of_getElem? (i := 5) rfl)
theorem dX8_draws_156 : decode cX8_draws 156 = .ok (.iload 5, 2) := DX8_draws_2 (156, .iload 5, 2) (List.mem_of_getElem? (i := 6) rfl)
theorem dX8_draws_158 : decode cX8_draws 158 = .ok (.aload_n 0, 1) := DX8_draws_2 (158, .aload_n 0, 1) (List.mem_of_getElem? (i := 7) rfl)
theorem dX8_draws_159 : decode cX8_draws 159 = .ok (.getfield 344, 3) := DX8_draws_2 (159, .getfield 344, 3) (List.mem_of_getElem? (i := 8) rfl)
theorem dX8_draws_162 : decode cX8_draws 162 = .ok (.if_icmp .ge 25, 3) := DX8_draws_2 (162, .if_icmp .ge 25, 3) (List.mem_of_getElem? (i := 9) rfl)
theorem dX8_draws_165 : decode cX8_draws 165 = .ok (.aload_n 0, 1) := DX8_draws_2 (165, .aload_n 0, 1) (List.mem_of_getElem? (i := 10) rfl)
theorem dX8_draws_166 : decode cX8_draws 166 = .ok (.getfield 53, 3) := DX8_draws_2 (166, .getfield 53, 3) (List.mem_of_getElem? (i := 11) rfl)
theorem dX8_draws_169 : decode cX8_draws 169 = .ok (.iload 5, 2) := DX8_draws_2 (169, .iload 5, 2) (List.mem_of_getElem? (i := 12) rfl)
theorem dX8_draws_171 : decode cX8_draws 171 = .ok (.aload_n 0, 1) := DX8_draws_2 (171, .aload_n 0, 1) (List.mem_of_getElem? (i := 13) rfl)
theorem dX8_draws_172 : decode cX8_draws 172 = .ok (.getfield 53, 3) := DX8_draws_2 (172, .getfield 53, 3) (List.mem_of_getElem? (i := 14) rfl)
theorem dX8_draws_175 : decode cX8_draws 175 = .ok (.iload 5, 2) := DX8_draws_2 (175, .iload 5, 2) (List.mem_of_getElem? (i := 15) rfl)
theorem dX8_draws_177 : decode cX8_draws 177 = .ok (.iconst 1, 1) := DX8_draws_2 (177, .iconst 1, 1) (List.mem_of_getElem? (i := 16) rfl)
theorem dX8_draws_178 : decode cX8_draws 178 = .ok (.iadd, 1) := DX8_draws_2 (178, .iadd, 1) (List.mem_of_getElem? (i := 17) rfl)
theorem dX8_draws_179 : decode cX8_draws 179 = .ok (.iaload, 1) := DX8_draws_2 (179, .iaload, 1) (List.mem_of_getElem? (i := 18) rfl)
theorem dX8_draws_180 : decode cX8_draws 180 = .ok (.iastore, 1) := DX8_draws_2 (180, .iastore, 1) (List.mem_of_getElem? (i := 19) rfl)
theorem dX8_draws_181 : decode cX8_draws 181 = .ok (.iinc 5 1, 3) := DX8_draws_2 (181, .iinc 5 1, 3) (List.mem_of_getElem? (i := 20) rfl)
theorem dX8_draws_184 : decode cX8_draws 184 = .ok (.goto (-28), 3) := DX8_draws_2 (184, .goto (-28), 3) (List.mem_of_getElem? (i := 21) rfl)
theorem dX8_draws_187 : decode cX8_draws 187 = .ok (.goto (-112), 3) := DX8_draws_2 (187, .goto (-112), 3) (List.mem_of_getElem? (i := 22) rfl)
theorem dX8_draws_190 : decode cX8_draws 190 = .ok (.return_, 1) := DX8_draws_2 (190, .return_, 1) (List.mem_of_getElem? (i := 23) rfl)
abbrev rmX8_draws : Room := { frames := 4, cells := 0, slots := 0, locals := 90 }
set_option maxHeartbeats 400000 in
set_option maxRecDepth 100000 in
theorem met_X8_draws (l : Launch) (D : va_G) (kA : Nat → ClassId) (a : Nat → Nat) (n : Nat) (V0 : Sz) (x1 : Int) (x2 : Int) (hDt : ∀ w : Sz, va_D (fun _ => True) (cs_X8 kA a w)) {Vr : Sz} (hf : f_X8_draws n V0 x1 x2 = some Vr) : MZ l yX8_draws cX8_draws 6 none rmX8_draws D kA [.ref (a 0), vI x1, vI x2] (cs_X8 kA a V0) (cs_X8 kA a Vr) (none) := by
  refine zZV (own := RX8) rfl rfl (Nat.le_of_ble_eq_true rfl) ?_
  intro p e s m args below meth c ls Q hC hK hP hl hret
  have hl : lv_has ls 6 [(0, .ref (a 0)), (1, vI x1), (2, vI x2)] := hl
  have hS : va_S (zF (cs_X8 kA a V0)) s.heap s.heap [] := va_S.rf
  have hD := zDself (C := fun w : Sz => (cs_X8 kA a w)) hDt V0 (fun _ => rfl)
  try dsimp only at hD
  generalize hAe : zF (cs_X8 kA a V0) = A0 at hS hD hret
  unfold f_X8_draws at hf
  have L75 : ∀ (k75 : Nat) (y3 : Int) (V : Sz) (H : Heap) (locs : List Loc) (ls : Array Slot), lpF (bX8_draws_75 n x1 x2) k75 (y3, V) = some Vr → va_P D vwCl (cs_X8 kA a V) H → va_S A0 s.heap H locs → lv_has ls 6 [(0, .ref (a 0)), (1, vI x1), (3, vI y3)] → W p l e rmX8_draws s m args below meth c H locs 0 0 Q (F0 m 75 ls []) := by
    intro k75
    induction k75 with
    | zero => intro y3 V H locs ls hf hP hS hl; exact lp_0 hf
    | succ k75 ih75 =>
      intro y3 V H locs ls hf hP hS hl
      have hf := lp_s hf
      rw [bX8_draws_75_e] at hf
      have L156 : ∀ (k156 : Nat) (y3 : Int) (y5 : Int) (V : Sz) (H : Heap) (locs : List Loc) (ls : Array Slot), lpF (bX8_draws_156 n x1 x2 (lpF (bX8_draws_75 n x1 x2) k75)) k156 (y3, y5, V) = some Vr → va_P D vwCl (cs_X8 kA a V) H → va_S A0 s.heap H locs → lv_has ls 6 [(0, .ref (a 0)), (1, vI x1), (3, vI y3), (5, vI y5)] → W p l e rmX8_draws s m args below meth c H locs 0 0 Q (F0 m 156 ls []) := by
        intro k156
        induction k156 with
        | zero => intro y3 y5 V H locs ls hf hP hS hl; exact lp_0 hf
        | succ k156 ih156 =>
          intro y3 y5 V H locs ls hf hP hS hl
          have hf := lp_s hf
          rw [bX8_draws_156_e] at hf
          refine ziload hC.1 hC.2.1 dX8_draws_156 (lv_at hl 3 rfl) <| lv_aload_n hC.1 hC.2.1 dX8_draws_158 rfl (lv_at hl 0 rfl) <| gfX8_344 hC hK hP (q0 := 0) rfl rfl dX8_draws_159 <| ?_
          obtain ⟨hz_16, hf⟩ := ck_some hf
          refine zicmp_ge (tgt := 187) hC.1 hC.2.1 ⟨hz_16.1, hz_16.2⟩ dX8_draws_162 (by decide) (fun hc => ?_) (fun hc => ?_)
          · have hf := it_t hf hc
            exact lv_goto (tgt := 75) hC.1 hC.2.1 dX8_draws_187 (by decide) <| ih75 _ _ _ _ _ hf hP hS (lv_sub hl [0, 1, 2] rfl)
          · have hf := it_f hf hc
            refine lv_aload_n hC.1 hC.2.1 dX8_draws_165 rfl (lv_at hl 0 rfl) <| gfX8_53 hC hK hP (q0 := 0) rfl rfl dX8_draws_166 <| ziload hC.1 hC.2.1 dX8_draws_169 (lv_at hl 3 rfl) <| lv_aload_n hC.1 hC.2.1 dX8_draws_171 rfl (lv_at hl 0 rfl) <| gfX8_53 hC hK hP (q0 := 0) rfl rfl dX8_draws_172 <| ziload hC.1 hC.2.1 dX8_draws_175 (lv_at hl 3 rfl) <| ziconst hC.1 hC.2.1 dX8_draws_177 <| ziadd hC.1 hC.2.1 dX8_draws_178 <| ?_
            obtain ⟨hz_17, hf⟩ := ck_some hf
            refine jal hC hK hP (q0 := 14) rfl (Nat.le_of_ble_eq_true rfl) hz_17 rfl dX8_draws_179 <| ?_
            obtain ⟨hz_18, hf⟩ := ck_some hf
            refine jas hC hK hP (hD V) hS (q0 := 14) rfl (Nat.le_of_ble_eq_true rfl) hz_18 rfl dX8_draws_180 (fun H locs hP hS => ?_)
            obtain ⟨V_19, eV_19⟩ : ∃ y, y = uz V 26 y5.toNat (V 26 (y5 + 1).toNat) := ⟨_, rfl⟩
            have hf := nm_at hf eV_19
            have hP : va_P D vwCl (cs_X8 kA a V_19) H := by rw [eV_19]; exact hP
            obtain ⟨x_20, ex_20⟩ : ∃ y : Int, y = y5 + 1 := ⟨_, rfl⟩
            have hf := nm_at hf ex_20
            refine ziinc (v := x_20) (lv' := [(5, vI x_20), (0, .ref (a 0)), (1, vI x1), (3, vI y3)]) hC.1 hC.2.1 dX8_draws_181 hl (k := 3) rfl ex_20 (by decide) rfl (fun ls hl => ?_)
            exact lv_goto (tgt := 156) hC.1 hC.2.1 dX8_draws_184 (by decide) <| ih156 _ _ _ _ _ _ hf hP hS (lv_sub hl [1, 2, 3, 0] rfl)
      refine lv_aload_n hC.1 hC.2.1 dX8_draws_75 rfl (lv_at hl 0 rfl) <| gfX8_347 hC hK hP (q0 := 0) rfl rfl dX8_draws_76 <| ziload_n hC.1 hC.2.1 dX8_draws_79 rfl (lv_at hl 1 rfl) <| ?_
      obtain ⟨hz_5, hf⟩ := ck_some hf
      refine zicmp_ge (tgt := 190) hC.1 hC.2.1 ⟨hz_5.1, hz_5.2⟩ dX8_draws_80 (by decide) (fun hc => ?_) (fun hc => ?_)
      · have hf := it_t hf hc
        have hf := Option.some.inj hf
        exact hret _ _ _ _ rfl (by rw [← hf]; exact hP) hS dX8_draws_190
      · have hf := it_f hf hc
        refine lv_aload_n hC.1 hC.2.1 dX8_draws_83 rfl (lv_at hl 0 rfl) <| gfX8_344 hC hK hP (q0 := 0) rfl rfl dX8_draws_84 <| ?_
        obtain ⟨hz_6, hf⟩ := ck_some hf
        refine zif_le (tgt := 190) hC.1 hC.2.1 hz_6 dX8_draws_87 (by decide) (fun hc => ?_) (fun hc => ?_)
        · have hf := it_t hf hc
          have hf := Option.some.inj hf
          exact hret _ _ _ _ rfl (by rw [← hf]; exact hP) hS dX8_draws_190
        · have hf := it_f hf hc
          refine ziload_n hC.1 hC.2.1 dX8_draws_90 rfl (lv_at hl 2 rfl) <| zldcw (n := 1103515245) hC qw_1794 (by decide) dX8_draws_91 <| zimul hC.1 hC.2.1 dX8_draws_94 <| zsipush hC.1 hC.2.1 dX8_draws_95 (by decide) <| ziadd hC.1 hC.2.1 dX8_draws_98 <| zldcw (n := 2147483647) hC qw_1795 (by decide) dX8_draws_99 <| ziand2147483647 hC.1 hC.2.1 dX8_draws_102 <| ?_
          refine ztopi (fun x_7 ex_7 => ?_)
          have hf := nm_at hf ex_7
          refine zistore_n (lv' := [(3, vI x_7), (0, .ref (a 0)), (1, vI x1)]) hC.1 hC.2.1 dX8_draws_103 rfl hl (by decide) rfl (fun ls hl => ?_)
          refine ziload_n hC.1 hC.2.1 dX8_draws_104 rfl (lv_at hl 0 rfl) <| zldcw (n := 65536) hC qw_1796 (by decide) dX8_draws_105 <| ?_
          obtain ⟨hz_8, hf⟩ := ck_some hf
          refine zidiv hC.1 hC.2.1 ⟨hz_8.1, hz_8.2, by decide, by decide⟩ dX8_draws_108 <| lv_aload_n hC.1 hC.2.1 dX8_draws_109 rfl (lv_at hl 1 rfl) <| gfX8_344 hC hK hP (q0 := 0) rfl rfl dX8_draws_110 <| ?_
          obtain ⟨hz_9, hf⟩ := ck_some hf
          refine zirem hC.1 hC.2.1 hz_9 dX8_draws_113 <| ?_
          refine ztopi (fun x_10 ex_10 => ?_)
          have hf := nm_at hf ex_10
          refine zistore (lv' := [(4, vI x_10), (3, vI x_7), (0, .ref (a 0)), (1, vI x1)]) hC.1 hC.2.1 dX8_draws_114 hl (by decide) rfl (fun ls hl => ?_)
          refine lv_aload_n hC.1 hC.2.1 dX8_draws_116 rfl (lv_at hl 2 rfl) <| gfX8_56 hC hK hP (q0 := 0) rfl rfl dX8_draws_117 <| lv_aload_n hC.1 hC.2.1 dX8_draws_120 rfl (lv_at hl 2 rfl) <| gfX8_347 hC hK hP (q0 := 0) rfl rfl dX8_draws_121 <| lv_aload_n hC.1 hC.2.1 dX8_draws_124 rfl (lv_at hl 2 rfl) <| gfX8_53 hC hK hP (q0 := 0) rfl rfl dX8_draws_125 <| ziload hC.1 hC.2.1 dX8_draws_128 (lv_at hl 0 rfl) <| ?_
          obtain ⟨hz_11, hf⟩ := ck_some hf
          refine jal hC hK hP (q0 := 14) rfl (Nat.le_of_ble_eq_true rfl) hz_11 rfl dX8_draws_130 <| ?_
          obtain ⟨hz_12, hf⟩ := ck_some hf
          refine jas hC hK hP (hD V) hS (q0 := 15) rfl (Nat.le_of_ble_eq_true rfl) hz_12 rfl dX8_draws_131 (fun H locs hP hS => ?_)
          obtain ⟨V_13, eV_13⟩ : ∃ y, y = uz V 28 (V 29 0).toNat (V 26 x_10.toNat) := ⟨_, rfl⟩
          have hf := nm_at hf eV_13
          have hP : va_P D vwCl (cs_X8 kA a V_13) H := by rw [eV_13]; exact hP
          refine lv_aload_n hC.1 hC.2.1 dX8_draws_132 rfl (lv_at hl 2 rfl) <| lv_dup hC.1 hC.2.1 dX8_draws_133 rfl <| gfX8_347 hC hK hP (q0 := 0) rfl rfl dX8_draws_134 <| ziconst hC.1 hC.2.1 dX8_draws_137 <| ziadd hC.1 hC.2.1 dX8_draws_138 <| ?_
          refine pfX8_347 hC hK hP (hD V_13) hS (q0 := 0) rfl (Nat.le_of_ble_eq_true rfl) dX8_draws_139 (fun H locs hP hS => ?_)
          obtain ⟨V_14, eV_14⟩ : ∃ y, y = us V_13 29 ((V_13 29 0) + 1) := ⟨_, rfl⟩
          have hf := nm_at hf eV_14
          have hP : va_P D vwCl (cs_X8 kA a V_14) H := by rw [eV_14]; exact hP
          refine lv_aload_n hC.1 hC.2.1 dX8_draws_142 rfl (lv_at hl 2 rfl) <| lv_dup hC.1 hC.2.1 dX8_draws_143 rfl <| gfX8_344 hC hK hP (q0 := 0) rfl rfl dX8_draws_144 <| ziconst hC.1 hC.2.1 dX8_draws_147 <| zisub hC.1 hC.2.1 dX8_draws_148 <| ?_
          refine pfX8_344 hC hK hP (hD V_14) hS (q0 := 0) rfl (Nat.le_of_ble_eq_true rfl) dX8_draws_149 (fun H locs hP hS => ?_)
          obtain ⟨V_15, eV_15⟩ : ∃ y, y = us V_14 27 ((V_14 27 0) - 1) := ⟨_, rfl⟩
          have hf := nm_at hf eV_15
          have hP : va_P D vwCl (cs_X8 kA a V_15) H := by rw [eV_15]; exact hP
          refine ziload hC.1 hC.2.1 dX8_draws_152 (lv_at hl 0 rfl) <| zistore (lv' := [(5, vI x_10), (4, vI x_10), (3, vI x_7), (0, .ref (a 0)), (1, vI x1)]) hC.1 hC.2.1 dX8_draws_154 hl (by decide) rfl (fun ls hl => ?_)
          exact L156 n _ _ _ _ _ _ hf hP hS (lv_sub hl [3, 4, 2, 0] rfl)
  have L11 : ∀ (k11 : Nat) (y3 : Int) (V : Sz) (H : Heap) (locs : List Loc) (ls : Array Slot), lpF (bX8_draws_11 n x1 x2) k11 (y3, V) = some Vr → va_P D vwCl (cs_X8 kA a V) H → va_S A0 s.heap H locs → lv_has ls 6 [(0, .ref (a 0)), (1, vI x1), (2, vI x2), (3, vI y3)] → W p l e rmX8_draws s m args below meth c H locs 0 0 Q (F0 m 11 ls []) := by
    intro k11
    induction k11 with
    | zero => intro y3 V H locs ls hf hP hS hl; exact lp_0 hf
    | succ k11 ih11 =>
      intro y3 V H locs ls hf hP hS hl
      have hf := lp_s hf
      rw [bX8_draws_11_e] at hf
      have J62 : ∀ (y3 : Int) (V : Sz) (H : Heap) (locs : List Loc) (ls : Array Slot), jX8_draws_62 n x1 x2 (lpF (bX8_draws_11 n x1 x2) k11) y3 V = some Vr → va_P D vwCl (cs_X8 kA a V) H → va_S A0 s.heap H locs → lv_has ls 6 [(0, .ref (a 0)), (1, vI x1), (2, vI x2), (3, vI y3)] → W p l e rmX8_draws s m args below meth c H locs 0 0 Q (F0 m 62 ls []) := by
        intro y3 V H locs ls hf hP hS hl
        unfold jX8_draws_62 at hf
        obtain ⟨x_22, ex_22⟩ : ∃ y : Int, y = y3 + 1 := ⟨_, rfl⟩
        have hf := nm_at hf ex_22
        refine ziinc (v := x_22) (lv' := [(3, vI x_22), (0, .ref (a 0)), (1, vI x1), (2, vI x2)]) hC.1 hC.2.1 dX8_draws_62 hl (k := 3) rfl ex_22 (by decide) rfl (fun ls hl => ?_)
        exact lv_goto (tgt := 11) hC.1 hC.2.1 dX8_draws_65 (by decide) <| ih11 _ _ _ _ _ hf hP hS (lv_sub hl [1, 2, 3, 0] rfl)
      refine ziload_n hC.1 hC.2.1 dX8_draws_11 rfl (lv_at hl 3 rfl) <| zsipush hC.1 hC.2.1 dX8_draws_12 (by decide) <| ?_
      obtain ⟨hz_3, hf⟩ := ck_some hf
      refine zicmp_ge (tgt := 68) hC.1 hC.2.1 ⟨hz_3, (by decide)⟩ dX8_draws_15 (by decide) (fun hc => ?_) (fun hc => ?_)
      · have hf := it_t hf hc
        refine lv_aload_n hC.1 hC.2.1 dX8_draws_68 rfl (lv_at hl 0 rfl) <| ziconst hC.1 hC.2.1 dX8_draws_69 <| ?_
        refine pfX8_347 hC hK hP (hD V) hS (q0 := 0) rfl (Nat.le_of_ble_eq_true rfl) dX8_draws_70 (fun H locs hP hS => ?_)
        obtain ⟨V_4, eV_4⟩ : ∃ y, y = us V 29 0 := ⟨_, rfl⟩
        have hf := nm_at hf eV_4
        have hP : va_P D vwCl (cs_X8 kA a V_4) H := by rw [eV_4]; exact hP
        refine ziload_n hC.1 hC.2.1 dX8_draws_73 rfl (lv_at hl 2 rfl) <| zistore_n (lv' := [(3, vI x2), (0, .ref (a 0)), (1, vI x1), (2, vI x2)]) hC.1 hC.2.1 dX8_draws_74 rfl hl (by decide) rfl (fun ls hl => ?_)
        exact L75 n _ _ _ _ _ hf hP hS (lv_sub hl [1, 2, 0] rfl)
      · have hf := it_f hf hc
        refine lv_aload_n hC.1 hC.2.1 dX8_draws_18 rfl (lv_at hl 0 rfl) <| ziload_n hC.1 hC.2.1 dX8_draws_19 rfl (lv_at hl 3 rfl) <| ?_
        obtain ⟨r_21, hu, hf⟩ := bd_some hf
        refine zcVP (As := [vI y3]) (rest := []) hC hK (met_X8_isPart l D kA a V y3 hu) zwX8_124 hP (q0 := 0) rfl rfl rfl rfl hl.1 rfl (Nat.le_of_ble_eq_true rfl) ⟨Nat.le_of_ble_eq_true rfl, Nat.le_of_ble_eq_true rfl⟩ ⟨rfl, rfl⟩ ⟨Nat.le_refl _, Nat.le_refl _⟩ dX8_draws_20 <| zifb_eq (tgt := 62) hC.1 hC.2.1 dX8_draws_23 (by decide) (fun hc => ?_) (fun hc => ?_)
        · have hf := it_t hf hc
          exact J62 _ _ _ _ _ hf hP hS (lv_sub hl [0, 1, 2, 3] rfl)
        · have hf := it_f hf hc
          refine lv_aload_n hC.1 hC.2.1 dX8_draws_26 rfl (lv_at hl 0 rfl) <| gfX8_7 hC hK hP (q0 := 0) rfl rfl dX8_draws_27 <| zsipush hC.1 hC.2.1 dX8_draws_30 (by decide) <| ziload_n hC.1 hC.2.1 dX8_draws_33 rfl (lv_at hl 3 rfl) <| ziadd hC.1 hC.2.1 dX8_draws_34 <| ?_
          obtain ⟨hz_23, hf⟩ := ck_some hf
          refine jal hC hK hP (q0 := 1) rfl (Nat.le_of_ble_eq_true rfl) hz_23 rfl dX8_draws_35 <| ?_
          obtain ⟨hz_24, hf⟩ := ck_some hf
          refine zif_ne (tgt := 42) hC.1 hC.2.1 hz_24 dX8_draws_36 (by decide) (fun hc => ?_) (fun hc => ?_)
          · have hf := it_f hf hc
            refine lv_aload_n hC.1 hC.2.1 dX8_draws_42 rfl (lv_at hl 0 rfl) <| gfX8_53 hC hK hP (q0 := 0) rfl rfl dX8_draws_43 <| lv_aload_n hC.1 hC.2.1 dX8_draws_46 rfl (lv_at hl 0 rfl) <| gfX8_344 hC hK hP (q0 := 0) rfl rfl dX8_draws_47 <| ziload_n hC.1 hC.2.1 dX8_draws_50 rfl (lv_at hl 3 rfl) <| ?_
            obtain ⟨hz_25, hf⟩ := ck_some hf
            refine jas hC hK hP (hD V) hS (q0 := 14) rfl (Nat.le_of_ble_eq_true rfl) hz_25 rfl dX8_draws_51 (fun H locs hP hS => ?_)
            obtain ⟨V_26, eV_26⟩ : ∃ y, y = uz V 26 (V 27 0).toNat y3 := ⟨_, rfl⟩
            have hf := nm_at hf eV_26
            have hP : va_P D vwCl (cs_X8 kA a V_26) H := by rw [eV_26]; exact hP
            refine lv_aload_n hC.1 hC.2.1 dX8_draws_52 rfl (lv_at hl 0 rfl) <| lv_dup hC.1 hC.2.1 dX8_draws_53 rfl <| gfX8_344 hC hK hP (q0 := 0) rfl rfl dX8_draws_54 <| ziconst hC.1 hC.2.1 dX8_draws_57 <| ziadd hC.1 hC.2.1 dX8_draws_58 <| ?_
            refine pfX8_344 hC hK hP (hD V_26) hS (q0 := 0) rfl (Nat.le_of_ble_eq_true rfl) dX8_draws_59 (fun H locs hP hS => ?_)
            obtain ⟨V_27, eV_27⟩ : ∃ y, y = us V_26 27 ((V_26 27 0) + 1) := ⟨_, rfl⟩
            have hf := nm_at hf eV_27
            have hP : va_P D vwCl (cs_X8 kA a V_27) H := by rw [eV_27]; exact hP
            exact J62 _ _ _ _ _ hf hP hS (lv_sub hl [0, 1, 2, 3] rfl)
          · have hf := it_t hf hc
            exact lv_goto (tgt := 62) hC.1 hC.2.1 dX8_draws_39 (by decide) <| J62 _ _ _ _ _ hf hP hS (lv_sub hl [0, 1, 2, 3] rfl)
  refine lv_aload_n hC.1 hC.2.1 dX8_draws_0 rfl (lv_at hl 0 rfl) <| ?_
  obtain ⟨V_1, hu, hf⟩ := bd_some hf
  have hDc := hDt
  refine zcVZ (As := []) (rest := []) hC hK (met_X8_laysAid l D kA a n V0 hDc hu) zwX8_121 hS (zFsub (hD V0) [0, 1, 2, 3, 4, 5, 6, 7, 8, 9, 10, 11, 12, 13, 14, 15, 16] rfl) hP (q0 := 0) rfl rfl rfl rfl hl.1 rfl (Nat.le_of_ble_eq_true rfl) ⟨Nat.le_of_ble_eq_true rfl, Nat.le_of_ble_eq_true rfl⟩ ⟨rfl, rfl⟩ ⟨Nat.le_refl _, Nat.le_refl _⟩ dX8_draws_1 (fun H locs hP1 hk1 hS => ?_)
  have hP : va_P D vwCl (cs_X8 kA a V_1) H := hP1
  refine lv_aload_n hC.1 hC.2.1 dX8_draws_4 rfl (lv_at hl 0 rfl) <| ziconst hC.1 hC.2.1 dX8_draws_5 <| ?_
  refine pfX8_344 hC hK hP (hD V_1) hS (q0 := 0) rfl (Nat.le_of_ble_eq_true rfl) dX8_draws_6 (fun H locs hP hS => ?_)
  obtain ⟨V_2, eV_2⟩ : ∃ y, y = us V_1 27 0 := ⟨_, rfl⟩
  have hf := nm_at hf eV_2
  have hP : va_P D vwCl (cs_X8 kA a V_2) H := by rw [eV_2]; exact hP
  refine ziconst hC.1 hC.2.1 dX8_draws_9 <| zistore_n (lv' := [(3, vI 0), (0, .ref (a 0)), (1, vI x1), (2, vI x2)]) hC.1 hC.2.1 dX8_draws_10 rfl hl (by decide) rfl (fun ls hl => ?_)
  exact L11 n _ _ _ _ _ hf hP hS (lv_sub hl [1, 2, 3, 0] rfl)
theorem DX8_noSample_0 : ∀ q ∈ ([(0, .aload_n 0, 1), (1, .iconst 0, 1), (2, .putfield 65, 3), (5, .aload_n 0, 1), (6, .iload_n 1, 1), (7, .iconst 1, 1), (8, .bipush 60, 2), (10, .invokestatic 79, 3), (13, .ifCond .ne 7, 3), (16, .iconst 1, 1), (17, .goto 4, 3), (20, .iconst 0, 1), (21, .iconst 1, 1), (22, .invokevirtual 261, 3), (25, .ireturn, 1)] : List (Nat × Instr × Nat)), decode cX8_noSample q.1 = .ok q.2 := by decide +kernel
theorem dX8_noSample_0 : decode cX8_noSample 0 = .ok (.aload_n 0, 1) := DX8_noSample_0 (0, .aload_n 0, 1) (List.mem_of_getElem? (i := 0) rfl)
theorem dX8_noSample_1 : decode cX8_noSample 1 = .ok (.iconst 0, 1) := DX8_noSample_0 (1, .iconst 0, 1) (List.mem_of_getElem? (i := 1) rfl)
theorem dX8_noSample_2 : decode cX8_noSample 2 = .ok (.putfield 65, 3) := DX8_noSample_0 (2, .putfield 65, 3) (List.mem_of_getElem? (i := 2) rfl)
theorem dX8_noSample_5 : decode cX8_noSample 5 = .ok (.aload_n 0, 1) := DX8_noSample_0 (5, .aload_n 0, 1) (List.mem_of_getElem? (i := 3) rfl)
theorem dX8_noSample_6 : decode cX8_noSample 6 = .ok (.iload_n 1, 1) := DX8_noSample_0 (6, .iload_n 1, 1) (List.mem_of_getElem? (i := 4) rfl)
theorem dX8_noSample_7 : decode cX8_noSample 7 = .ok (.iconst 1, 1) := DX8_noSample_0 (7, .iconst 1, 1) (List.mem_of_getElem? (i := 5) rfl)
theorem dX8_noSample_8 : decode cX8_noSample 8 = .ok (.bipush 60, 2) := DX8_noSample_0 (8, .bipush 60, 2) (List.mem_of_getElem? (i := 6) rfl)
theorem dX8_noSample_10 : decode cX8_noSample 10 = .ok (.invokestatic 79, 3) := DX8_noSample_0 (10, .invokestatic 79, 3) (List.mem_of_getElem? (i := 7) rfl)
theorem dX8_noSample_13 : decode cX8_noSample 13 = .ok (.ifCond .ne 7, 3) := DX8_noSample_0 (13, .ifCond .ne 7, 3) (List.mem_of_getElem? (i := 8) rfl)
theorem dX8_noSample_16 : decode cX8_noSample 16 = .ok (.iconst 1, 1) := DX8_noSample_0 (16, .iconst 1, 1) (List.mem_of_getElem? (i := 9) rfl)
theorem dX8_noSample_17 : decode cX8_noSample 17 = .ok (.goto 4, 3) := DX8_noSample_0 (17, .goto 4, 3) (List.mem_of_getElem? (i := 10) rfl)
theorem dX8_noSample_20 : decode cX8_noSample 20 = .ok (.iconst 0, 1) := DX8_noSample_0 (20, .iconst 0, 1) (List.mem_of_getElem? (i := 11) rfl)
theorem dX8_noSample_21 : decode cX8_noSample 21 = .ok (.iconst 1, 1) := DX8_noSample_0 (21, .iconst 1, 1) (List.mem_of_getElem? (i := 12) rfl)
theorem dX8_noSample_22 : decode cX8_noSample 22 = .ok (.invokevirtual 261, 3) := DX8_noSample_0 (22, .invokevirtual 261, 3) (List.mem_of_getElem? (i := 13) rfl)
theorem dX8_noSample_25 : decode cX8_noSample 25 = .ok (.ireturn, 1) := DX8_noSample_0 (25, .ireturn, 1) (List.mem_of_getElem? (i := 14) rfl)
abbrev rmX8_noSample : Room := { frames := 1, cells := 0, slots := 0, locals := 22 }
set_option maxHeartbeats 400000 in
set_option maxRecDepth 100000 in
theorem met_X8_noSample (l : Launch) (D : va_G) (kA : Nat → ClassId) (a : Nat → Nat) (V0 : Sz) (x1 : Int) (hDt : ∀ w : Sz, va_D (fun _ => True) (cs_X8 kA a w)) {r : Bool} {Vr : Sz} (hf : f_X8_noSample V0 x1 = some (r, Vr)) : MZ l yX8_noSample cX8_noSample 2 (some .boolean) rmX8_noSample D kA [.ref (a 0), vI x1] (cs_X8 kA a V0) (cs_X8 kA a Vr) (some (vI (bI r))) := by
  refine zZZ (own := RX8) rfl rfl (Nat.le_of_ble_eq_true rfl) ?_
  intro p e s m args below meth c ls Q hC hK hP hl hret
  have hl : lv_has ls 2 [(0, .ref (a 0)), (1, vI x1)] := hl
  have hS : va_S (zF (cs_X8 kA a V0)) s.heap s.heap [] := va_S.rf
  have hD := zDself (C := fun w : Sz => (cs_X8 kA a w)) hDt V0 (fun _ => rfl)
  try dsimp only at hD
  generalize hAe : zF (cs_X8 kA a V0) = A0 at hS hD hret
  unfold f_X8_noSample at hf
  have J21 : ∀ (V : Sz) (z0 : Int) (H : Heap) (locs : List Loc) (ls : Array Slot), jX8_noSample_21 x1 V z0 = some (r, Vr) → va_P D vwCl (cs_X8 kA a V) H → va_S A0 s.heap H locs → lv_has ls 2 [] → W p l e rmX8_noSample s m args below meth c H locs 0 0 Q (F0 m 21 ls [vI z0, .ref (a 0)]) := by
    intro V z0 H locs ls hf hP hS hl
    unfold jX8_noSample_21 at hf
    refine ziconst hC.1 hC.2.1 dX8_noSample_21 <| ?_
    obtain ⟨⟨r_3, V_4⟩, hu, hf⟩ := bd_some hf
    have hDc := hDt
    refine zcVZ (As := [vI z0, vI 1]) (rest := []) hC hK (met_X8_fails l D kA a V z0 1 hDc hu) zwX8_261 hS (zFsub (hD V) [0, 1, 2, 3, 4, 5, 6, 7, 8, 9, 10, 11, 12, 13, 14, 15, 16] rfl) hP (q0 := 0) rfl rfl rfl rfl hl.1 rfl (Nat.le_of_ble_eq_true rfl) ⟨Nat.le_of_ble_eq_true rfl, Nat.le_of_ble_eq_true rfl⟩ ⟨rfl, rfl⟩ ⟨Nat.le_refl _, Nat.le_refl _⟩ dX8_noSample_22 (fun H locs hP1 hk1 hS => ?_)
    have hP : va_P D vwCl (cs_X8 kA a V_4) H := hP1
    have hf := Option.some.inj hf
    simp only [Prod.mk.injEq] at hf
    exact hret (Int32.ofInt (bI r_3)) _ _ _ _ (zb01 _) (congrArg (fun z => some (vI (bI z))) hf.1.symm) (by rw [← hf.2]; exact hP) hS dX8_noSample_25
  refine lv_aload_n hC.1 hC.2.1 dX8_noSample_0 rfl (lv_at hl 0 rfl) <| ziconst hC.1 hC.2.1 dX8_noSample_1 <| ?_
  refine pfX8_65 hC hK hP (hD V0) hS (q0 := 0) rfl (Nat.le_of_ble_eq_true rfl) dX8_noSample_2 (fun H locs hP hS => ?_)
  obtain ⟨V_1, eV_1⟩ : ∃ y, y = us V0 9 0 := ⟨_, rfl⟩
  have hf := nm_at hf eV_1
  have hP : va_P D vwCl (cs_X8 kA a V_1) H := by rw [eV_1]; exact hP
  refine lv_aload_n hC.1 hC.2.1 dX8_noSample_5 rfl (lv_at hl 0 rfl) <| ziload_n hC.1 hC.2.1 dX8_noSample_6 rfl (lv_at hl 1 rfl) <| ziconst hC.1 hC.2.1 dX8_noSample_7 <| zbipush hC.1 hC.2.1 dX8_noSample_8 (by decide) <| ?_
  obtain ⟨r_2, hu, hf⟩ := bd_some hf
  have hPc : va_P D vwCl ([] : va_W) _ := hP.sub [] rfl
  refine zcSP (As := [vI x1, vI 1, vI 60]) (rest := [.ref (a 0)]) hC hK (met_X8_inRange l D kA x1 1 60 hu) zwX8_79 hPc rfl hl.1 rfl (Nat.le_of_ble_eq_true rfl) ⟨Nat.le_of_ble_eq_true rfl, Nat.le_of_ble_eq_true rfl⟩ ⟨rfl, rfl⟩ ⟨Nat.le_refl _, Nat.le_refl _⟩ dX8_noSample_10 <| zifb_ne (tgt := 20) hC.1 hC.2.1 dX8_noSample_13 (by decide) (fun hc => ?_) (fun hc => ?_)
  · have hf := it_t hf hc
    exact ziconst hC.1 hC.2.1 dX8_noSample_20 <| J21 _ _ _ _ _ hf hP hS (lv_sub hl [] rfl)
  · have hf := it_f hf hc
    exact ziconst hC.1 hC.2.1 dX8_noSample_16 <| lv_goto (tgt := 21) hC.1 hC.2.1 dX8_noSample_17 (by decide) <| J21 _ _ _ _ _ hf hP hS (lv_sub hl [] rfl)
theorem DX8_sample_0 : ∀ q ∈ ([(0, .aload_n 0, 1), (1, .iload_n 1, 1), (2, .invokevirtual 353, 3), (5, .ifCond .eq 5, 3), (8, .iconst 0, 1), (9, .ireturn, 1), (10, .aload_n 0, 1), (11, .iload_n 1, 1), (12, .iload_n 2, 1), (13, .invokevirtual 356, 3), (16, .iload_n 3, 1), (17, .iconst 0, 1), (18, .aload_n 0, 1), (19, .getfield 347, 3), (22, .iconst 1, 1), (23, .isub, 1), (24, .invokestatic 79, 3), (27, .ifCond .eq 12, 3), (30, .aload_n 0, 1), (31, .getfield 56, 3), (34, .iload_n 3, 1), (35, .iaload, 1), (36, .goto 4, 3), (39, .iconst (-1), 1), (40, .ireturn, 1)] : List (Nat × Instr × Nat)), decode cX8_sample q.1 = .ok q.2 := by decide +kernel
theorem dX8_sample_0 : decode cX8_sample 0 = .ok (.aload_n 0, 1) := DX8_sample_0 (0, .aload_n 0, 1) (List.mem_of_getElem? (i := 0) rfl)
theorem dX8_sample_1 : decode cX8_sample 1 = .ok (.iload_n 1, 1) := DX8_sample_0 (1, .iload_n 1, 1) (List.mem_of_getElem? (i := 1) rfl)
theorem dX8_sample_2 : decode cX8_sample 2 = .ok (.invokevirtual 353, 3) := DX8_sample_0 (2, .invokevirtual 353, 3) (List.mem_of_getElem? (i := 2) rfl)
theorem dX8_sample_5 : decode cX8_sample 5 = .ok (.ifCond .eq 5, 3) := DX8_sample_0 (5, .ifCond .eq 5, 3) (List.mem_of_getElem? (i := 3) rfl)
theorem dX8_sample_8 : decode cX8_sample 8 = .ok (.iconst 0, 1) := DX8_sample_0 (8, .iconst 0, 1) (List.mem_of_getElem? (i := 4) rfl)
theorem dX8_sample_9 : decode cX8_sample 9 = .ok (.ireturn, 1) := DX8_sample_0 (9, .ireturn, 1) (List.mem_of_getElem? (i := 5) rfl)
theorem dX8_sample_10 : decode cX8_sample 10 = .ok (.aload_n 0, 1) := DX8_sample_0 (10, .aload_n 0, 1) (List.mem_of_getElem? (i := 6) rfl)
theorem dX8_sample_11 : decode cX8_sample 11 = .ok (.iload_n 1, 1) := DX8_sample_0 (11, .iload_n 1, 1) (List.mem_of_getElem? (i := 7) rfl)
theorem dX8_sample_12 : decode cX8_sample 12 = .ok (.iload_n 2, 1) := DX8_sample_0 (12, .iload_n 2, 1) (List.mem_of_getElem? (i := 8) rfl)
theorem dX8_sample_13 : decode cX8_sample 13 = .ok (.invokevirtual 356, 3) := DX8_sample_0 (13, .invokevirtual 356, 3) (List.mem_of_getElem? (i := 9) rfl)
theorem dX8_sample_16 : decode cX8_sample 16 = .ok (.iload_n 3, 1) := DX8_sample_0 (16, .iload_n 3, 1) (List.mem_of_getElem? (i := 10) rfl)
theorem dX8_sample_17 : decode cX8_sample 17 = .ok (.iconst 0, 1) := DX8_sample_0 (17, .iconst 0, 1) (List.mem_of_getElem? (i := 11) rfl)
theorem dX8_sample_18 : decode cX8_sample 18 = .ok (.aload_n 0, 1) := DX8_sample_0 (18, .aload_n 0, 1) (List.mem_of_getElem? (i := 12) rfl)
theorem dX8_sample_19 : decode cX8_sample 19 = .ok (.getfield 347, 3) := DX8_sample_0 (19, .getfield 347, 3) (List.mem_of_getElem? (i := 13) rfl)
theorem dX8_sample_22 : decode cX8_sample 22 = .ok (.iconst 1, 1) := DX8_sample_0 (22, .iconst 1, 1) (List.mem_of_getElem? (i := 14) rfl)
theorem dX8_sample_23 : decode cX8_sample 23 = .ok (.isub, 1) := DX8_sample_0 (23, .isub, 1) (List.mem_of_getElem? (i := 15) rfl)
theorem dX8_sample_24 : decode cX8_sample 24 = .ok (.invokestatic 79, 3) := DX8_sample_0 (24, .invokestatic 79, 3) (List.mem_of_getElem? (i := 16) rfl)
theorem dX8_sample_27 : decode cX8_sample 27 = .ok (.ifCond .eq 12, 3) := DX8_sample_0 (27, .ifCond .eq 12, 3) (List.mem_of_getElem? (i := 17) rfl)
theorem dX8_sample_30 : decode cX8_sample 30 = .ok (.aload_n 0, 1) := DX8_sample_0 (30, .aload_n 0, 1) (List.mem_of_getElem? (i := 18) rfl)
theorem dX8_sample_31 : decode cX8_sample 31 = .ok (.getfield 56, 3) := DX8_sample_0 (31, .getfield 56, 3) (List.mem_of_getElem? (i := 19) rfl)
theorem dX8_sample_34 : decode cX8_sample 34 = .ok (.iload_n 3, 1) := DX8_sample_0 (34, .iload_n 3, 1) (List.mem_of_getElem? (i := 20) rfl)
theorem dX8_sample_35 : decode cX8_sample 35 = .ok (.iaload, 1) := DX8_sample_0 (35, .iaload, 1) (List.mem_of_getElem? (i := 21) rfl)
theorem dX8_sample_36 : decode cX8_sample 36 = .ok (.goto 4, 3) := DX8_sample_0 (36, .goto 4, 3) (List.mem_of_getElem? (i := 22) rfl)
theorem dX8_sample_39 : decode cX8_sample 39 = .ok (.iconst (-1), 1) := DX8_sample_0 (39, .iconst (-1), 1) (List.mem_of_getElem? (i := 23) rfl)
theorem dX8_sample_40 : decode cX8_sample 40 = .ok (.ireturn, 1) := DX8_sample_0 (40, .ireturn, 1) (List.mem_of_getElem? (i := 24) rfl)
abbrev rmX8_sample : Room := { frames := 5, cells := 0, slots := 0, locals := 115 }
set_option maxHeartbeats 400000 in
set_option maxRecDepth 100000 in
theorem met_X8_sample (l : Launch) (D : va_G) (kA : Nat → ClassId) (a : Nat → Nat) (n : Nat) (V0 : Sz) (x1 : Int) (x2 : Int) (x3 : Int) (hDt : ∀ w : Sz, va_D (fun _ => True) (cs_X8 kA a w)) {r : Int} {Vr : Sz} (hf : f_X8_sample n V0 x1 x2 x3 = some (r, Vr)) : MZ l yX8_sample cX8_sample 4 (some .int) rmX8_sample D kA [.ref (a 0), vI x1, vI x2, vI x3] (cs_X8 kA a V0) (cs_X8 kA a Vr) (some (vI r)) := by
  refine zZI (own := RX8) rfl rfl (Nat.le_of_ble_eq_true rfl) ?_
  intro p e s m args below meth c ls Q hC hK hP hl hret
  have hl : lv_has ls 4 [(0, .ref (a 0)), (1, vI x1), (2, vI x2), (3, vI x3)] := hl
  have hS : va_S (zF (cs_X8 kA a V0)) s.heap s.heap [] := va_S.rf
  have hD := zDself (C := fun w : Sz => (cs_X8 kA a w)) hDt V0 (fun _ => rfl)
  try dsimp only at hD
  generalize hAe : zF (cs_X8 kA a V0) = A0 at hS hD hret
  unfold f_X8_sample at hf
  refine lv_aload_n hC.1 hC.2.1 dX8_sample_0 rfl (lv_at hl 0 rfl) <| ziload_n hC.1 hC.2.1 dX8_sample_1 rfl (lv_at hl 1 rfl) <| ?_
  obtain ⟨⟨r_1, V_2⟩, hu, hf⟩ := bd_some hf
  have hDc := hDt
  refine zcVZ (As := [vI x1]) (rest := []) hC hK (met_X8_noSample l D kA a V0 x1 hDc hu) zwX8_353 hS (zFsub (hD V0) [0, 1, 2, 3, 4, 5, 6, 7, 8, 9, 10, 11, 12, 13, 14, 15, 16] rfl) hP (q0 := 0) rfl rfl rfl rfl hl.1 rfl (Nat.le_of_ble_eq_true rfl) ⟨Nat.le_of_ble_eq_true rfl, Nat.le_of_ble_eq_true rfl⟩ ⟨rfl, rfl⟩ ⟨Nat.le_refl _, Nat.le_refl _⟩ dX8_sample_2 (fun H locs hP1 hk1 hS => ?_)
  have hP : va_P D vwCl (cs_X8 kA a V_2) H := hP1
  refine zifb_eq (tgt := 10) hC.1 hC.2.1 dX8_sample_5 (by decide) (fun hc => ?_) (fun hc => ?_)
  · have hf := it_t hf hc
    refine lv_aload_n hC.1 hC.2.1 dX8_sample_10 rfl (lv_at hl 0 rfl) <| ziload_n hC.1 hC.2.1 dX8_sample_11 rfl (lv_at hl 1 rfl) <| ziload_n hC.1 hC.2.1 dX8_sample_12 rfl (lv_at hl 2 rfl) <| ?_
    obtain ⟨V_3, hu, hf⟩ := bd_some hf
    have hDc := hDt
    refine zcVZ (As := [vI x1, vI x2]) (rest := []) hC hK (met_X8_draws l D kA a n V_2 x1 x2 hDc hu) zwX8_356 hS (zFsub (hD V_2) [0, 1, 2, 3, 4, 5, 6, 7, 8, 9, 10, 11, 12, 13, 14, 15, 16] rfl) hP (q0 := 0) rfl rfl rfl rfl hl.1 rfl (Nat.le_of_ble_eq_true rfl) ⟨Nat.le_of_ble_eq_true rfl, Nat.le_of_ble_eq_true rfl⟩ ⟨rfl, rfl⟩ ⟨Nat.le_refl _, Nat.le_refl _⟩ dX8_sample_13 (fun H locs hP1 hk1 hS => ?_)
    have hP : va_P D vwCl (cs_X8 kA a V_3) H := hP1
    refine ziload_n hC.1 hC.2.1 dX8_sample_16 rfl (lv_at hl 3 rfl) <| ziconst hC.1 hC.2.1 dX8_sample_17 <| lv_aload_n hC.1 hC.2.1 dX8_sample_18 rfl (lv_at hl 0 rfl) <| gfX8_347 hC hK hP (q0 := 0) rfl rfl dX8_sample_19 <| ziconst hC.1 hC.2.1 dX8_sample_22 <| zisub hC.1 hC.2.1 dX8_sample_23 <| ?_
    obtain ⟨r_4, hu, hf⟩ := bd_some hf
    have hPc : va_P D vwCl ([] : va_W) _ := hP.sub [] rfl
    refine zcSP (As := [vI x3, vI 0, vI ((V_3 29 0) - 1)]) (rest := []) hC hK (met_X8_inRange l D kA x3 0 ((V_3 29 0) - 1) hu) zwX8_79 hPc rfl hl.1 rfl (Nat.le_of_ble_eq_true rfl) ⟨Nat.le_of_ble_eq_true rfl, Nat.le_of_ble_eq_true rfl⟩ ⟨rfl, rfl⟩ ⟨Nat.le_refl _, Nat.le_refl _⟩ dX8_sample_24 <| zifb_eq (tgt := 39) hC.1 hC.2.1 dX8_sample_27 (by decide) (fun hc => ?_) (fun hc => ?_)
    · have hf := it_t hf hc
      refine ziconst hC.1 hC.2.1 dX8_sample_39 <| ?_
      have hf := Option.some.inj hf
      simp only [Prod.mk.injEq] at hf
      exact hret (Int32.ofInt (-1)) _ _ _ _ (congrArg (fun z => some (vI z)) hf.1.symm) (by rw [← hf.2]; exact hP) hS dX8_sample_40
    · have hf := it_f hf hc
      refine lv_aload_n hC.1 hC.2.1 dX8_sample_30 rfl (lv_at hl 0 rfl) <| gfX8_56 hC hK hP (q0 := 0) rfl rfl dX8_sample_31 <| ziload_n hC.1 hC.2.1 dX8_sample_34 rfl (lv_at hl 3 rfl) <| ?_
      obtain ⟨hz_5, hf⟩ := ck_some hf
      refine jal hC hK hP (q0 := 15) rfl (Nat.le_of_ble_eq_true rfl) hz_5 rfl dX8_sample_35 <| lv_goto (tgt := 40) hC.1 hC.2.1 dX8_sample_36 (by decide) <| ?_
      have hf := Option.some.inj hf
      simp only [Prod.mk.injEq] at hf
      exact hret (Int32.ofInt (V_3 28 x3.toNat)) _ _ _ _ (congrArg (fun z => some (vI z)) hf.1.symm) (by rw [← hf.2]; exact hP) hS dX8_sample_40
  · have hf := it_f hf hc
    refine ziconst hC.1 hC.2.1 dX8_sample_8 <| ?_
    have hf := Option.some.inj hf
    simp only [Prod.mk.injEq] at hf
    exact hret (Int32.ofInt 0) _ _ _ _ (congrArg (fun z => some (vI z)) hf.1.symm) (by rw [← hf.2]; exact hP) hS dX8_sample_9
theorem DX8_wrongIn_0 : ∀ q ∈ ([(0, .aload_n 0, 1), (1, .iload_n 1, 1), (2, .invokevirtual 353, 3), (5, .ifCond .eq 5, 3), (8, .iconst 0, 1), (9, .ireturn, 1), (10, .aload_n 0, 1), (11, .iload_n 1, 1), (12, .iload_n 2, 1), (13, .invokevirtual 356, 3), (16, .iconst 0, 1), (17, .istore_n 3, 1), (18, .iconst 0, 1), (19, .istore 4, 2), (21, .iload 4, 2), (23, .aload_n 0, 1), (24, .getfield 347, 3), (27, .if_icmp .ge 31, 3), (30, .iload_n 3, 1), (31, .aload_n 0, 1), (32, .aload_n 0, 1), (33, .getfield 56, 3), (36, .iload 4, 2), (38, .iaload, 1), (39, .invokevirtual 323, 3), (42, .ifCond .le 7, 3), (45, .iconst 1, 1), (46, .goto 4, 3), (49, .iconst 0, 1), (50, .iadd, 1), (51, .istore_n 3, 1), (52, .iinc 4 1, 3), (55, .goto (-34), 3), (58, .iload_n 3, 1), (59, .ireturn, 1)] : List (Nat × Instr × Nat)), decode cX8_wrongIn q.1 = .ok q.2 := by decide +kernel
theorem dX8_wrongIn_0 : decode cX8_wrongIn 0 = .ok (.aload_n 0, 1) := DX8_wrongIn_0 (0, .aload_n 0, 1) (List.mem_of_getElem? (i := 0) rfl)
theorem dX8_wrongIn_1 : decode cX8_wrongIn 1 = .ok (.iload_n 1, 1) := DX8_wrongIn_0 (1, .iload_n 1, 1) (List.mem_of_getElem? (i := 1) rfl)
theorem dX8_wrongIn_2 : decode cX8_wrongIn 2 = .ok (.invokevirtual 353, 3) := DX8_wrongIn_0 (2, .invokevirtual 353, 3) (List.mem_of_getElem? (i := 2) rfl)
theorem dX8_wrongIn_5 : decode cX8_wrongIn 5 = .ok (.ifCond .eq 5, 3) := DX8_wrongIn_0 (5, .ifCond .eq 5, 3) (List.mem_of_getElem? (i := 3) rfl)
theorem dX8_wrongIn_8 : decode cX8_wrongIn 8 = .ok (.iconst 0, 1) := DX8_wrongIn_0 (8, .iconst 0, 1) (List.mem_of_getElem? (i := 4) rfl)
theorem dX8_wrongIn_9 : decode cX8_wrongIn 9 = .ok (.ireturn, 1) := DX8_wrongIn_0 (9, .ireturn, 1) (List.mem_of_getElem? (i := 5) rfl)
theorem dX8_wrongIn_10 : decode cX8_wrongIn 10 = .ok (.aload_n 0, 1) := DX8_wrongIn_0 (10, .aload_n 0, 1) (List.mem_of_getElem? (i := 6) rfl)
theorem dX8_wrongIn_11 : decode cX8_wrongIn 11 = .ok (.iload_n 1, 1) := DX8_wrongIn_0 (11, .iload_n 1, 1) (List.mem_of_getElem? (i := 7) rfl)
theorem dX8_wrongIn_12 : decode cX8_wrongIn 12 = .ok (.iload_n 2, 1) := DX8_wrongIn_0 (12, .iload_n 2, 1) (List.mem_of_getElem? (i := 8) rfl)
theorem dX8_wrongIn_13 : decode cX8_wrongIn 13 = .ok (.invokevirtual 356, 3) := DX8_wrongIn_0 (13, .invokevirtual 356, 3) (List.mem_of_getElem? (i := 9) rfl)
theorem dX8_wrongIn_16 : decode cX8_wrongIn 16 = .ok (.iconst 0, 1) := DX8_wrongIn_0 (16, .iconst 0, 1) (List.mem_of_getElem? (i := 10) rfl)
theorem dX8_wrongIn_17 : decode cX8_wrongIn 17 = .ok (.istore_n 3, 1) := DX8_wrongIn_0 (17, .istore_n 3, 1) (List.mem_of_getElem? (i := 11) rfl)
theorem dX8_wrongIn_18 : decode cX8_wrongIn 18 = .ok (.iconst 0, 1) := DX8_wrongIn_0 (18, .iconst 0, 1) (List.mem_of_getElem? (i := 12) rfl)
theorem dX8_wrongIn_19 : decode cX8_wrongIn 19 = .ok (.istore 4, 2) := DX8_wrongIn_0 (19, .istore 4, 2) (List.mem_of_getElem? (i := 13) rfl)
theorem dX8_wrongIn_21 : decode cX8_wrongIn 21 = .ok (.iload 4, 2) := DX8_wrongIn_0 (21, .iload 4, 2) (List.mem_of_getElem? (i := 14) rfl)
theorem dX8_wrongIn_23 : decode cX8_wrongIn 23 = .ok (.aload_n 0, 1) := DX8_wrongIn_0 (23, .aload_n 0, 1) (List.mem_of_getElem? (i := 15) rfl)
theorem dX8_wrongIn_24 : decode cX8_wrongIn 24 = .ok (.getfield 347, 3) := DX8_wrongIn_0 (24, .getfield 347, 3) (List.mem_of_getElem? (i := 16) rfl)
theorem dX8_wrongIn_27 : decode cX8_wrongIn 27 = .ok (.if_icmp .ge 31, 3) := DX8_wrongIn_0 (27, .if_icmp .ge 31, 3) (List.mem_of_getElem? (i := 17) rfl)
theorem dX8_wrongIn_30 : decode cX8_wrongIn 30 = .ok (.iload_n 3, 1) := DX8_wrongIn_0 (30, .iload_n 3, 1) (List.mem_of_getElem? (i := 18) rfl)
theorem dX8_wrongIn_31 : decode cX8_wrongIn 31 = .ok (.aload_n 0, 1) := DX8_wrongIn_0 (31, .aload_n 0, 1) (List.mem_of_getElem? (i := 19) rfl)
theorem dX8_wrongIn_32 : decode cX8_wrongIn 32 = .ok (.aload_n 0, 1) := DX8_wrongIn_0 (32, .aload_n 0, 1) (List.mem_of_getElem? (i := 20) rfl)
theorem dX8_wrongIn_33 : decode cX8_wrongIn 33 = .ok (.getfield 56, 3) := DX8_wrongIn_0 (33, .getfield 56, 3) (List.mem_of_getElem? (i := 21) rfl)
theorem dX8_wrongIn_36 : decode cX8_wrongIn 36 = .ok (.iload 4, 2) := DX8_wrongIn_0 (36, .iload 4, 2) (List.mem_of_getElem? (i := 22) rfl)
theorem dX8_wrongIn_38 : decode cX8_wrongIn 38 = .ok (.iaload, 1) := DX8_wrongIn_0 (38, .iaload, 1) (List.mem_of_getElem? (i := 23) rfl)
theorem dX8_wrongIn_39 : decode cX8_wrongIn 39 = .ok (.invokevirtual 323, 3) := DX8_wrongIn_0 (39, .invokevirtual 323, 3) (List.mem_of_getElem? (i := 24) rfl)
theorem dX8_wrongIn_42 : decode cX8_wrongIn 42 = .ok (.ifCond .le 7, 3) := DX8_wrongIn_0 (42, .ifCond .le 7, 3) (List.mem_of_getElem? (i := 25) rfl)
theorem dX8_wrongIn_45 : decode cX8_wrongIn 45 = .ok (.iconst 1, 1) := DX8_wrongIn_0 (45, .iconst 1, 1) (List.mem_of_getElem? (i := 26) rfl)
theorem dX8_wrongIn_46 : decode cX8_wrongIn 46 = .ok (.goto 4, 3) := DX8_wrongIn_0 (46, .goto 4, 3) (List.mem_of_getElem? (i := 27) rfl)
theorem dX8_wrongIn_49 : decode cX8_wrongIn 49 = .ok (.iconst 0, 1) := DX8_wrongIn_0 (49, .iconst 0, 1) (List.mem_of_getElem? (i := 28) rfl)
theorem dX8_wrongIn_50 : decode cX8_wrongIn 50 = .ok (.iadd, 1) := DX8_wrongIn_0 (50, .iadd, 1) (List.mem_of_getElem? (i := 29) rfl)
theorem dX8_wrongIn_51 : decode cX8_wrongIn 51 = .ok (.istore_n 3, 1) := DX8_wrongIn_0 (51, .istore_n 3, 1) (List.mem_of_getElem? (i := 30) rfl)
theorem dX8_wrongIn_52 : decode cX8_wrongIn 52 = .ok (.iinc 4 1, 3) := DX8_wrongIn_0 (52, .iinc 4 1, 3) (List.mem_of_getElem? (i := 31) rfl)
theorem dX8_wrongIn_55 : decode cX8_wrongIn 55 = .ok (.goto (-34), 3) := DX8_wrongIn_0 (55, .goto (-34), 3) (List.mem_of_getElem? (i := 32) rfl)
theorem dX8_wrongIn_58 : decode cX8_wrongIn 58 = .ok (.iload_n 3, 1) := DX8_wrongIn_0 (58, .iload_n 3, 1) (List.mem_of_getElem? (i := 33) rfl)
theorem dX8_wrongIn_59 : decode cX8_wrongIn 59 = .ok (.ireturn, 1) := DX8_wrongIn_0 (59, .ireturn, 1) (List.mem_of_getElem? (i := 34) rfl)
abbrev rmX8_wrongIn : Room := { frames := 5, cells := 0, slots := 0, locals := 115 }
set_option maxHeartbeats 400000 in
set_option maxRecDepth 100000 in
theorem met_X8_wrongIn (l : Launch) (D : va_G) (kA : Nat → ClassId) (a : Nat → Nat) (n : Nat) (V0 : Sz) (x1 : Int) (x2 : Int) (hDt : ∀ w : Sz, va_D (fun _ => True) (cs_X8 kA a w)) {r : Int} {Vr : Sz} (hf : f_X8_wrongIn n V0 x1 x2 = some (r, Vr)) : MZ l yX8_wrongIn cX8_wrongIn 5 (some .int) rmX8_wrongIn D kA [.ref (a 0), vI x1, vI x2] (cs_X8 kA a V0) (cs_X8 kA a Vr) (some (vI r)) := by
  refine zZI (own := RX8) rfl rfl (Nat.le_of_ble_eq_true rfl) ?_
  intro p e s m args below meth c ls Q hC hK hP hl hret
  have hl : lv_has ls 5 [(0, .ref (a 0)), (1, vI x1), (2, vI x2)] := hl
  have hS : va_S (zF (cs_X8 kA a V0)) s.heap s.heap [] := va_S.rf
  have hD := zDself (C := fun w : Sz => (cs_X8 kA a w)) hDt V0 (fun _ => rfl)
  try dsimp only at hD
  generalize hAe : zF (cs_X8 kA a V0) = A0 at hS hD hret
  unfold f_X8_wrongIn at hf
  have L21 : ∀ (k21 : Nat) (y3 : Int) (y4 : Int) (V : Sz) (H : Heap) (locs : List Loc) (ls : Array Slot), lpF (bX8_wrongIn_21 n x1 x2) k21 (y3, y4, V) = some (r, Vr) → va_P D vwCl (cs_X8 kA a V) H → va_S A0 s.heap H locs → lv_has ls 5 [(0, .ref (a 0)), (3, vI y3), (4, vI y4)] → W p l e rmX8_wrongIn s m args below meth c H locs 0 0 Q (F0 m 21 ls []) := by
    intro k21
    induction k21 with
    | zero => intro y3 y4 V H locs ls hf hP hS hl; exact lp_0 hf
    | succ k21 ih21 =>
      intro y3 y4 V H locs ls hf hP hS hl
      have hf := lp_s hf
      rw [bX8_wrongIn_21_e] at hf
      have J50 : ∀ (y4 : Int) (V : Sz) (z0 : Int) (z1 : Int) (H : Heap) (locs : List Loc) (ls : Array Slot), jX8_wrongIn_50 n x1 x2 (lpF (bX8_wrongIn_21 n x1 x2) k21) y4 V z0 z1 = some (r, Vr) → va_P D vwCl (cs_X8 kA a V) H → va_S A0 s.heap H locs → lv_has ls 5 [(0, .ref (a 0)), (4, vI y4)] → W p l e rmX8_wrongIn s m args below meth c H locs 0 0 Q (F0 m 50 ls [vI z0, vI z1]) := by
        intro y4 V z0 z1 H locs ls hf hP hS hl
        unfold jX8_wrongIn_50 at hf
        refine ziadd hC.1 hC.2.1 dX8_wrongIn_50 <| ?_
        refine ztopi (fun x_8 ex_8 => ?_)
        have hf := nm_at hf ex_8
        refine zistore_n (lv' := [(3, vI x_8), (0, .ref (a 0)), (4, vI y4)]) hC.1 hC.2.1 dX8_wrongIn_51 rfl hl (by decide) rfl (fun ls hl => ?_)
        obtain ⟨x_9, ex_9⟩ : ∃ y : Int, y = y4 + 1 := ⟨_, rfl⟩
        have hf := nm_at hf ex_9
        refine ziinc (v := x_9) (lv' := [(4, vI x_9), (3, vI x_8), (0, .ref (a 0))]) hC.1 hC.2.1 dX8_wrongIn_52 hl (k := 2) rfl ex_9 (by decide) rfl (fun ls hl => ?_)
        exact lv_goto (tgt := 21) hC.1 hC.2.1 dX8_wrongIn_55 (by decide) <| ih21 _ _ _ _ _ _ hf hP hS (lv_sub hl [2, 1, 0] rfl)
      refine ziload hC.1 hC.2.1 dX8_wrongIn_21 (lv_at hl 2 rfl) <| lv_aload_n hC.1 hC.2.1 dX8_wrongIn_23 rfl (lv_at hl 0 rfl) <| gfX8_347 hC hK hP (q0 := 0) rfl rfl dX8_wrongIn_24 <| ?_
      obtain ⟨hz_4, hf⟩ := ck_some hf
      refine zicmp_ge (tgt := 58) hC.1 hC.2.1 ⟨hz_4.1, hz_4.2⟩ dX8_wrongIn_27 (by decide) (fun hc => ?_) (fun hc => ?_)
      · have hf := it_t hf hc
        refine ziload_n hC.1 hC.2.1 dX8_wrongIn_58 rfl (lv_at hl 1 rfl) <| ?_
        have hf := Option.some.inj hf
        simp only [Prod.mk.injEq] at hf
        exact hret (Int32.ofInt y3) _ _ _ _ (congrArg (fun z => some (vI z)) hf.1.symm) (by rw [← hf.2]; exact hP) hS dX8_wrongIn_59
      · have hf := it_f hf hc
        refine ziload_n hC.1 hC.2.1 dX8_wrongIn_30 rfl (lv_at hl 1 rfl) <| lv_aload_n hC.1 hC.2.1 dX8_wrongIn_31 rfl (lv_at hl 0 rfl) <| lv_aload_n hC.1 hC.2.1 dX8_wrongIn_32 rfl (lv_at hl 0 rfl) <| gfX8_56 hC hK hP (q0 := 0) rfl rfl dX8_wrongIn_33 <| ziload hC.1 hC.2.1 dX8_wrongIn_36 (lv_at hl 2 rfl) <| ?_
        obtain ⟨hz_5, hf⟩ := ck_some hf
        refine jal hC hK hP (q0 := 15) rfl (Nat.le_of_ble_eq_true rfl) hz_5 rfl dX8_wrongIn_38 <| ?_
        obtain ⟨r_6, hu, hf⟩ := bd_some hf
        refine zcVP (As := [vI (V 28 y4.toNat)]) (rest := [vI y3]) hC hK (met_X8_over l D kA a V (V 28 y4.toNat) hu) zwX8_323 hP (q0 := 0) rfl rfl rfl rfl hl.1 rfl (Nat.le_of_ble_eq_true rfl) ⟨Nat.le_of_ble_eq_true rfl, Nat.le_of_ble_eq_true rfl⟩ ⟨rfl, rfl⟩ ⟨Nat.le_refl _, Nat.le_refl _⟩ dX8_wrongIn_39 <| ?_
        obtain ⟨hz_7, hf⟩ := ck_some hf
        refine zif_le (tgt := 49) hC.1 hC.2.1 hz_7 dX8_wrongIn_42 (by decide) (fun hc => ?_) (fun hc => ?_)
        · have hf := it_t hf hc
          exact ziconst hC.1 hC.2.1 dX8_wrongIn_49 <| J50 _ _ _ _ _ _ _ hf hP hS (lv_sub hl [0, 2] rfl)
        · have hf := it_f hf hc
          exact ziconst hC.1 hC.2.1 dX8_wrongIn_45 <| lv_goto (tgt := 50) hC.1 hC.2.1 dX8_wrongIn_46 (by decide) <| J50 _ _ _ _ _ _ _ hf hP hS (lv_sub hl [0, 2] rfl)
  refine lv_aload_n hC.1 hC.2.1 dX8_wrongIn_0 rfl (lv_at hl 0 rfl) <| ziload_n hC.1 hC.2.1 dX8_wrongIn_1 rfl (lv_at hl 1 rfl) <| ?_
  obtain ⟨⟨r_1, V_2⟩, hu, hf⟩ := bd_some hf
  have hDc := hDt
  refine zcVZ (As := [vI x1]) (rest := []) hC hK (met_X8_noSample l D kA a V0 x1 hDc hu) zwX8_353 hS (zFsub (hD V0) [0, 1, 2, 3, 4, 5, 6, 7, 8, 9, 10, 11, 12, 13, 14, 15, 16] rfl) hP (q0 := 0) rfl rfl rfl rfl hl.1 rfl (Nat.le_of_ble_eq_true rfl) ⟨Nat.le_of_ble_eq_true rfl, Nat.le_of_ble_eq_true rfl⟩ ⟨rfl, rfl⟩ ⟨Nat.le_refl _, Nat.le_refl _⟩ dX8_wrongIn_2 (fun H locs hP1 hk1 hS => ?_)
  have hP : va_P D vwCl (cs_X8 kA a V_2) H := hP1
  refine zifb_eq (tgt := 10) hC.1 hC.2.1 dX8_wrongIn_5 (by decide) (fun hc => ?_) (fun hc => ?_)
  · have hf := it_t hf hc
    refine lv_aload_n hC.1 hC.2.1 dX8_wrongIn_10 rfl (lv_at hl 0 rfl) <| ziload_n hC.1 hC.2.1 dX8_wrongIn_11 rfl (lv_at hl 1 rfl) <| ziload_n hC.1 hC.2.1 dX8_wrongIn_12 rfl (lv_at hl 2 rfl) <| ?_
    obtain ⟨V_3, hu, hf⟩ := bd_some hf
    have hDc := hDt
    refine zcVZ (As := [vI x1, vI x2]) (rest := []) hC hK (met_X8_draws l D kA a n V_2 x1 x2 hDc hu) zwX8_356 hS (zFsub (hD V_2) [0, 1, 2, 3, 4, 5, 6, 7, 8, 9, 10, 11, 12, 13, 14, 15, 16] rfl) hP (q0 := 0) rfl rfl rfl rfl hl.1 rfl (Nat.le_of_ble_eq_true rfl) ⟨Nat.le_of_ble_eq_true rfl, Nat.le_of_ble_eq_true rfl⟩ ⟨rfl, rfl⟩ ⟨Nat.le_refl _, Nat.le_refl _⟩ dX8_wrongIn_13 (fun H locs hP1 hk1 hS => ?_)
    have hP : va_P D vwCl (cs_X8 kA a V_3) H := hP1
    refine ziconst hC.1 hC.2.1 dX8_wrongIn_16 <| zistore_n (lv' := [(3, vI 0), (0, .ref (a 0)), (1, vI x1), (2, vI x2)]) hC.1 hC.2.1 dX8_wrongIn_17 rfl hl (by decide) rfl (fun ls hl => ?_)
    refine ziconst hC.1 hC.2.1 dX8_wrongIn_18 <| zistore (lv' := [(4, vI 0), (3, vI 0), (0, .ref (a 0)), (1, vI x1), (2, vI x2)]) hC.1 hC.2.1 dX8_wrongIn_19 hl (by decide) rfl (fun ls hl => ?_)
    exact L21 n _ _ _ _ _ _ hf hP hS (lv_sub hl [2, 1, 0] rfl)
  · have hf := it_f hf hc
    refine ziconst hC.1 hC.2.1 dX8_wrongIn_8 <| ?_
    have hf := Option.some.inj hf
    simp only [Prod.mk.injEq] at hf
    exact hret (Int32.ofInt 0) _ _ _ _ (congrArg (fun z => some (vI z)) hf.1.symm) (by rw [← hf.2]; exact hP) hS dX8_wrongIn_9
theorem DX8_write_0 : ∀ q ∈ ([(0, .aload_n 0, 1), (1, .getfield 59, 3), (4, .aload_n 0, 1), (5, .getfield 360, 3), (8, .iload_n 1, 1), (9, .iastore, 1), (10, .aload_n 0, 1), (11, .dup, 1), (12, .getfield 360, 3), (15, .iconst 1, 1), (16, .iadd, 1), (17, .putfield 360, 3), (20, .return_, 1)] : List (Nat × Instr × Nat)), decode cX8_write q.1 = .ok q.2 := by decide +kernel
theorem dX8_write_0 : decode cX8_write 0 = .ok (.aload_n 0, 1) := DX8_write_0 (0, .aload_n 0, 1) (List.mem_of_getElem? (i := 0) rfl)
theorem dX8_write_1 : decode cX8_write 1 = .ok (.getfield 59, 3) := DX8_write_0 (1, .getfield 59, 3) (List.mem_of_getElem? (i := 1) rfl)
theorem dX8_write_4 : decode cX8_write 4 = .ok (.aload_n 0, 1) := DX8_write_0 (4, .aload_n 0, 1) (List.mem_of_getElem? (i := 2) rfl)
theorem dX8_write_5 : decode cX8_write 5 = .ok (.getfield 360, 3) := DX8_write_0 (5, .getfield 360, 3) (List.mem_of_getElem? (i := 3) rfl)
theorem dX8_write_8 : decode cX8_write 8 = .ok (.iload_n 1, 1) := DX8_write_0 (8, .iload_n 1, 1) (List.mem_of_getElem? (i := 4) rfl)
theorem dX8_write_9 : decode cX8_write 9 = .ok (.iastore, 1) := DX8_write_0 (9, .iastore, 1) (List.mem_of_getElem? (i := 5) rfl)
theorem dX8_write_10 : decode cX8_write 10 = .ok (.aload_n 0, 1) := DX8_write_0 (10, .aload_n 0, 1) (List.mem_of_getElem? (i := 6) rfl)
theorem dX8_write_11 : decode cX8_write 11 = .ok (.dup, 1) := DX8_write_0 (11, .dup, 1) (List.mem_of_getElem? (i := 7) rfl)
theorem dX8_write_12 : decode cX8_write 12 = .ok (.getfield 360, 3) := DX8_write_0 (12, .getfield 360, 3) (List.mem_of_getElem? (i := 8) rfl)
theorem dX8_write_15 : decode cX8_write 15 = .ok (.iconst 1, 1) := DX8_write_0 (15, .iconst 1, 1) (List.mem_of_getElem? (i := 9) rfl)
theorem dX8_write_16 : decode cX8_write 16 = .ok (.iadd, 1) := DX8_write_0 (16, .iadd, 1) (List.mem_of_getElem? (i := 10) rfl)
theorem dX8_write_17 : decode cX8_write 17 = .ok (.putfield 360, 3) := DX8_write_0 (17, .putfield 360, 3) (List.mem_of_getElem? (i := 11) rfl)
theorem dX8_write_20 : decode cX8_write 20 = .ok (.return_, 1) := DX8_write_0 (20, .return_, 1) (List.mem_of_getElem? (i := 12) rfl)
abbrev rmX8_write : Room := { frames := 0, cells := 0, slots := 0, locals := 0 }
set_option maxHeartbeats 400000 in
set_option maxRecDepth 100000 in
theorem met_X8_write (l : Launch) (D : va_G) (kA : Nat → ClassId) (a : Nat → Nat) (V0 : Sz) (x1 : Int) (hDt : ∀ w : Sz, va_D (fun _ => True) (cs_X8 kA a w)) {Vr : Sz} (hf : f_X8_write V0 x1 = some Vr) : MZ l yX8_write cX8_write 2 none rmX8_write D kA [.ref (a 0), vI x1] (cs_X8 kA a V0) (cs_X8 kA a Vr) (none) := by
  refine zZV (own := RX8) rfl rfl (Nat.le_of_ble_eq_true rfl) ?_
  intro p e s m args below meth c ls Q hC hK hP hl hret
  have hl : lv_has ls 2 [(0, .ref (a 0)), (1, vI x1)] := hl
  have hS : va_S (zF (cs_X8 kA a V0)) s.heap s.heap [] := va_S.rf
  have hD := zDself (C := fun w : Sz => (cs_X8 kA a w)) hDt V0 (fun _ => rfl)
  try dsimp only at hD
  generalize hAe : zF (cs_X8 kA a V0) = A0 at hS hD hret
  unfold f_X8_write at hf
  refine lv_aload_n hC.1 hC.2.1 dX8_write_0 rfl (lv_at hl 0 rfl) <| gfX8_59 hC hK hP (q0 := 0) rfl rfl dX8_write_1 <| lv_aload_n hC.1 hC.2.1 dX8_write_4 rfl (lv_at hl 0 rfl) <| gfX8_360 hC hK hP (q0 := 0) rfl rfl dX8_write_5 <| ziload_n hC.1 hC.2.1 dX8_write_8 rfl (lv_at hl 1 rfl) <| ?_
  obtain ⟨hz_1, hf⟩ := ck_some hf
  refine jas hC hK hP (hD V0) hS (q0 := 16) rfl (Nat.le_of_ble_eq_true rfl) hz_1 rfl dX8_write_9 (fun H locs hP hS => ?_)
  obtain ⟨V_2, eV_2⟩ : ∃ y, y = uz V0 30 (V0 31 0).toNat x1 := ⟨_, rfl⟩
  have hf := nm_at hf eV_2
  have hP : va_P D vwCl (cs_X8 kA a V_2) H := by rw [eV_2]; exact hP
  refine lv_aload_n hC.1 hC.2.1 dX8_write_10 rfl (lv_at hl 0 rfl) <| lv_dup hC.1 hC.2.1 dX8_write_11 rfl <| gfX8_360 hC hK hP (q0 := 0) rfl rfl dX8_write_12 <| ziconst hC.1 hC.2.1 dX8_write_15 <| ziadd hC.1 hC.2.1 dX8_write_16 <| ?_
  refine pfX8_360 hC hK hP (hD V_2) hS (q0 := 0) rfl (Nat.le_of_ble_eq_true rfl) dX8_write_17 (fun H locs hP hS => ?_)
  obtain ⟨V_3, eV_3⟩ : ∃ y, y = us V_2 31 ((V_2 31 0) + 1) := ⟨_, rfl⟩
  have hf := nm_at hf eV_3
  have hP : va_P D vwCl (cs_X8 kA a V_3) H := by rw [eV_3]; exact hP
  have hf := Option.some.inj hf
  exact hret _ _ _ _ rfl (by rw [← hf]; exact hP) hS dX8_write_20
theorem DX8_writeNumber_0 : ∀ q ∈ ([(0, .iconst 1, 1), (1, .istore_n 2, 1), (2, .iload_n 1, 1), (3, .iload_n 2, 1), (4, .idiv, 1), (5, .bipush 9, 2), (7, .if_icmp .le 11, 3), (10, .iload_n 2, 1), (11, .bipush 10, 2), (13, .imul, 1), (14, .istore_n 2, 1), (15, .goto (-13), 3), (18, .iload_n 2, 1), (19, .ifCond .le 24, 3), (22, .aload_n 0, 1), (23, .bipush 48, 2), (25, .iload_n 1, 1), (26, .iload_n 2, 1), (27, .idiv, 1), (28, .bipush 10, 2), (30, .irem, 1), (31, .iadd, 1), (32, .invokevirtual 363, 3), (35, .iload_n 2, 1), (36, .bipush 10, 2), (38, .idiv, 1), (39, .istore_n 2, 1), (40, .goto (-22), 3), (43, .return_, 1)] : List (Nat × Instr × Nat)), decode cX8_writeNumber q.1 = .ok q.2 := by decide +kernel
theorem dX8_writeNumber_0 : decode cX8_writeNumber 0 = .ok (.iconst 1, 1) := DX8_writeNumber_0 (0, .iconst 1, 1) (List.mem_of_getElem? (i := 0) rfl)
theorem dX8_writeNumber_1 : decode cX8_writeNumber 1 = .ok (.istore_n 2, 1) := DX8_writeNumber_0 (1, .istore_n 2, 1) (List.mem_of_getElem? (i := 1) rfl)
theorem dX8_writeNumber_2 : decode cX8_writeNumber 2 = .ok (.iload_n 1, 1) := DX8_writeNumber_0 (2, .iload_n 1, 1) (List.mem_of_getElem? (i := 2) rfl)
theorem dX8_writeNumber_3 : decode cX8_writeNumber 3 = .ok (.iload_n 2, 1) := DX8_writeNumber_0 (3, .iload_n 2, 1) (List.mem_of_getElem? (i := 3) rfl)
theorem dX8_writeNumber_4 : decode cX8_writeNumber 4 = .ok (.idiv, 1) := DX8_writeNumber_0 (4, .idiv, 1) (List.mem_of_getElem? (i := 4) rfl)
theorem dX8_writeNumber_5 : decode cX8_writeNumber 5 = .ok (.bipush 9, 2) := DX8_writeNumber_0 (5, .bipush 9, 2) (List.mem_of_getElem? (i := 5) rfl)
theorem dX8_writeNumber_7 : decode cX8_writeNumber 7 = .ok (.if_icmp .le 11, 3) := DX8_writeNumber_0 (7, .if_icmp .le 11, 3) (List.mem_of_getElem? (i := 6) rfl)
theorem dX8_writeNumber_10 : decode cX8_writeNumber 10 = .ok (.iload_n 2, 1) := DX8_writeNumber_0 (10, .iload_n 2, 1) (List.mem_of_getElem? (i := 7) rfl)
theorem dX8_writeNumber_11 : decode cX8_writeNumber 11 = .ok (.bipush 10, 2) := DX8_writeNumber_0 (11, .bipush 10, 2) (List.mem_of_getElem? (i := 8) rfl)
theorem dX8_writeNumber_13 : decode cX8_writeNumber 13 = .ok (.imul, 1) := DX8_writeNumber_0 (13, .imul, 1) (List.mem_of_getElem? (i := 9) rfl)
theorem dX8_writeNumber_14 : decode cX8_writeNumber 14 = .ok (.istore_n 2, 1) := DX8_writeNumber_0 (14, .istore_n 2, 1) (List.mem_of_getElem? (i := 10) rfl)
theorem dX8_writeNumber_15 : decode cX8_writeNumber 15 = .ok (.goto (-13), 3) := DX8_writeNumber_0 (15, .goto (-13), 3) (List.mem_of_getElem? (i := 11) rfl)
theorem dX8_writeNumber_18 : decode cX8_writeNumber 18 = .ok (.iload_n 2, 1) := DX8_writeNumber_0 (18, .iload_n 2, 1) (List.mem_of_getElem? (i := 12) rfl)
theorem dX8_writeNumber_19 : decode cX8_writeNumber 19 = .ok (.ifCond .le 24, 3) := DX8_writeNumber_0 (19, .ifCond .le 24, 3) (List.mem_of_getElem? (i := 13) rfl)
theorem dX8_writeNumber_22 : decode cX8_writeNumber 22 = .ok (.aload_n 0, 1) := DX8_writeNumber_0 (22, .aload_n 0, 1) (List.mem_of_getElem? (i := 14) rfl)
theorem dX8_writeNumber_23 : decode cX8_writeNumber 23 = .ok (.bipush 48, 2) := DX8_writeNumber_0 (23, .bipush 48, 2) (List.mem_of_getElem? (i := 15) rfl)
theorem dX8_writeNumber_25 : decode cX8_writeNumber 25 = .ok (.iload_n 1, 1) := DX8_writeNumber_0 (25, .iload_n 1, 1) (List.mem_of_getElem? (i := 16) rfl)
theorem dX8_writeNumber_26 : decode cX8_writeNumber 26 = .ok (.iload_n 2, 1) := DX8_writeNumber_0 (26, .iload_n 2, 1) (List.mem_of_getElem? (i := 17) rfl)
theorem dX8_writeNumber_27 : decode cX8_writeNumber 27 = .ok (.idiv, 1) := DX8_writeNumber_0 (27, .idiv, 1) (List.mem_of_getElem? (i := 18) rfl)
theorem dX8_writeNumber_28 : decode cX8_writeNumber 28 = .ok (.bipush 10, 2) := DX8_writeNumber_0 (28, .bipush 10, 2) (List.mem_of_getElem? (i := 19) rfl)
theorem dX8_writeNumber_30 : decode cX8_writeNumber 30 = .ok (.irem, 1) := DX8_writeNumber_0 (30, .irem, 1) (List.mem_of_getElem? (i := 20) rfl)
theorem dX8_writeNumber_31 : decode cX8_writeNumber 31 = .ok (.iadd, 1) := DX8_writeNumber_0 (31, .iadd, 1) (List.mem_of_getElem? (i := 21) rfl)
theorem dX8_writeNumber_32 : decode cX8_writeNumber 32 = .ok (.invokevirtual 363, 3) := DX8_writeNumber_0 (32, .invokevirtual 363, 3) (List.mem_of_getElem? (i := 22) rfl)
theorem dX8_writeNumber_35 : decode cX8_writeNumber 35 = .ok (.iload_n 2, 1) := DX8_writeNumber_0 (35, .iload_n 2, 1) (List.mem_of_getElem? (i := 23) rfl)
theorem dX8_writeNumber_36 : decode cX8_writeNumber 36 = .ok (.bipush 10, 2) := DX8_writeNumber_0 (36, .bipush 10, 2) (List.mem_of_getElem? (i := 24) rfl)
theorem dX8_writeNumber_38 : decode cX8_writeNumber 38 = .ok (.idiv, 1) := DX8_writeNumber_0 (38, .idiv, 1) (List.mem_of_getElem? (i := 25) rfl)
theorem dX8_writeNumber_39 : decode cX8_writeNumber 39 = .ok (.istore_n 2, 1) := DX8_writeNumber_0 (39, .istore_n 2, 1) (List.mem_of_getElem? (i := 26) rfl)
theorem dX8_writeNumber_40 : decode cX8_writeNumber 40 = .ok (.goto (-22), 3) := DX8_writeNumber_0 (40, .goto (-22), 3) (List.mem_of_getElem? (i := 27) rfl)
theorem dX8_writeNumber_43 : decode cX8_writeNumber 43 = .ok (.return_, 1) := DX8_writeNumber_0 (43, .return_, 1) (List.mem_of_getElem? (i := 28) rfl)
abbrev rmX8_writeNumber : Room := { frames := 1, cells := 0, slots := 0, locals := 21 }
set_option maxHeartbeats 400000 in
set_option maxRecDepth 100000 in
theorem met_X8_writeNumber (l : Launch) (D : va_G) (kA : Nat → ClassId) (a : Nat → Nat) (n : Nat) (V0 : Sz) (x1 : Int) (hDt : ∀ w : Sz, va_D (fun _ => True) (cs_X8 kA a w)) {Vr : Sz} (hf : f_X8_writeNumber n V0 x1 = some Vr) : MZ l yX8_writeNumber cX8_writeNumber 3 none rmX8_writeNumber D kA [.ref (a 0), vI x1] (cs_X8 kA a V0) (cs_X8 kA a Vr) (none) := by
  refine zZV (own := RX8) rfl rfl (Nat.le_of_ble_eq_true rfl) ?_
  intro p e s m args below meth c ls Q hC hK hP hl hret
  have hl : lv_has ls 3 [(0, .ref (a 0)), (1, vI x1)] := hl
  have hS : va_S (zF (cs_X8 kA a V0)) s.heap s.heap [] := va_S.rf
  have hD := zDself (C := fun w : Sz => (cs_X8 kA a w)) hDt V0 (fun _ => rfl)
  try dsimp only at hD
  generalize hAe : zF (cs_X8 kA a V0) = A0 at hS hD hret
  unfold f_X8_writeNumber at hf
  have L18 : ∀ (k18 : Nat) (y2 : Int) (V : Sz) (H : Heap) (locs : List Loc) (ls : Array Slot), lpF (bX8_writeNumber_18 n x1) k18 (y2, V) = some Vr → va_P D vwCl (cs_X8 kA a V) H → va_S A0 s.heap H locs → lv_has ls 3 [(0, .ref (a 0)), (1, vI x1), (2, vI y2)] → W p l e rmX8_writeNumber s m args below meth c H locs 0 0 Q (F0 m 18 ls []) := by
    intro k18
    induction k18 with
    | zero => intro y2 V H locs ls hf hP hS hl; exact lp_0 hf
    | succ k18 ih18 =>
      intro y2 V H locs ls hf hP hS hl
      have hf := lp_s hf
      rw [bX8_writeNumber_18_e] at hf
      refine ziload_n hC.1 hC.2.1 dX8_writeNumber_18 rfl (lv_at hl 2 rfl) <| ?_
      obtain ⟨hz_3, hf⟩ := ck_some hf
      refine zif_le (tgt := 43) hC.1 hC.2.1 hz_3 dX8_writeNumber_19 (by decide) (fun hc => ?_) (fun hc => ?_)
      · have hf := it_t hf hc
        have hf := Option.some.inj hf
        exact hret _ _ _ _ rfl (by rw [← hf]; exact hP) hS dX8_writeNumber_43
      · have hf := it_f hf hc
        refine lv_aload_n hC.1 hC.2.1 dX8_writeNumber_22 rfl (lv_at hl 0 rfl) <| zbipush hC.1 hC.2.1 dX8_writeNumber_23 (by decide) <| ziload_n hC.1 hC.2.1 dX8_writeNumber_25 rfl (lv_at hl 1 rfl) <| ziload_n hC.1 hC.2.1 dX8_writeNumber_26 rfl (lv_at hl 2 rfl) <| ?_
        obtain ⟨hz_4, hf⟩ := ck_some hf
        refine zidiv hC.1 hC.2.1 hz_4 dX8_writeNumber_27 <| zbipush hC.1 hC.2.1 dX8_writeNumber_28 (by decide) <| ?_
        obtain ⟨hz_5, hf⟩ := ck_some hf
        refine zirem hC.1 hC.2.1 ⟨hz_5.1, hz_5.2, by decide, by decide⟩ dX8_writeNumber_30 <| ziadd hC.1 hC.2.1 dX8_writeNumber_31 <| ?_
        obtain ⟨V_6, hu, hf⟩ := bd_some hf
        have hDc := hDt
        refine zcVZ (As := [vI (48 + ((x1 / y2) % 10))]) (rest := []) hC hK (met_X8_write l D kA a V (48 + ((x1 / y2) % 10)) hDc hu) zwX8_363 hS (zFsub (hD V) [0, 1, 2, 3, 4, 5, 6, 7, 8, 9, 10, 11, 12, 13, 14, 15, 16] rfl) hP (q0 := 0) rfl rfl rfl rfl hl.1 rfl (Nat.le_of_ble_eq_true rfl) ⟨Nat.le_of_ble_eq_true rfl, Nat.le_of_ble_eq_true rfl⟩ ⟨rfl, rfl⟩ ⟨Nat.le_refl _, Nat.le_refl _⟩ dX8_writeNumber_32 (fun H locs hP1 hk1 hS => ?_)
        have hP : va_P D vwCl (cs_X8 kA a V_6) H := hP1
        refine ziload_n hC.1 hC.2.1 dX8_writeNumber_35 rfl (lv_at hl 2 rfl) <| zbipush hC.1 hC.2.1 dX8_writeNumber_36 (by decide) <| ?_
        obtain ⟨hz_7, hf⟩ := ck_some hf
        refine zidiv hC.1 hC.2.1 ⟨hz_7.1, hz_7.2, by decide, by decide⟩ dX8_writeNumber_38 <| ?_
        refine ztopi (fun x_8 ex_8 => ?_)
        have hf := nm_at hf ex_8
        refine zistore_n (lv' := [(2, vI x_8), (0, .ref (a 0)), (1, vI x1)]) hC.1 hC.2.1 dX8_writeNumber_39 rfl hl (by decide) rfl (fun ls hl => ?_)
        exact lv_goto (tgt := 18) hC.1 hC.2.1 dX8_writeNumber_40 (by decide) <| ih18 _ _ _ _ _ hf hP hS (lv_sub hl [1, 2, 0] rfl)
  have L2 : ∀ (k2 : Nat) (y2 : Int) (V : Sz) (H : Heap) (locs : List Loc) (ls : Array Slot), lpF (bX8_writeNumber_2 n x1) k2 (y2, V) = some Vr → va_P D vwCl (cs_X8 kA a V) H → va_S A0 s.heap H locs → lv_has ls 3 [(0, .ref (a 0)), (1, vI x1), (2, vI y2)] → W p l e rmX8_writeNumber s m args below meth c H locs 0 0 Q (F0 m 2 ls []) := by
    intro k2
    induction k2 with
    | zero => intro y2 V H locs ls hf hP hS hl; exact lp_0 hf
    | succ k2 ih2 =>
      intro y2 V H locs ls hf hP hS hl
      have hf := lp_s hf
      rw [bX8_writeNumber_2_e] at hf
      refine ziload_n hC.1 hC.2.1 dX8_writeNumber_2 rfl (lv_at hl 1 rfl) <| ziload_n hC.1 hC.2.1 dX8_writeNumber_3 rfl (lv_at hl 2 rfl) <| ?_
      obtain ⟨hz_1, hf⟩ := ck_some hf
      refine zidiv hC.1 hC.2.1 hz_1 dX8_writeNumber_4 <| zbipush hC.1 hC.2.1 dX8_writeNumber_5 (by decide) <| ?_
      obtain ⟨hz_2, hf⟩ := ck_some hf
      refine zicmp_le (tgt := 18) hC.1 hC.2.1 ⟨hz_2, (by decide)⟩ dX8_writeNumber_7 (by decide) (fun hc => ?_) (fun hc => ?_)
      · have hf := it_t hf hc
        exact L18 n _ _ _ _ _ hf hP hS (lv_sub hl [0, 1, 2] rfl)
      · have hf := it_f hf hc
        refine ziload_n hC.1 hC.2.1 dX8_writeNumber_10 rfl (lv_at hl 2 rfl) <| zbipush hC.1 hC.2.1 dX8_writeNumber_11 (by decide) <| zimul hC.1 hC.2.1 dX8_writeNumber_13 <| ?_
        refine ztopi (fun x_9 ex_9 => ?_)
        have hf := nm_at hf ex_9
        refine zistore_n (lv' := [(2, vI x_9), (0, .ref (a 0)), (1, vI x1)]) hC.1 hC.2.1 dX8_writeNumber_14 rfl hl (by decide) rfl (fun ls hl => ?_)
        exact lv_goto (tgt := 2) hC.1 hC.2.1 dX8_writeNumber_15 (by decide) <| ih2 _ _ _ _ _ hf hP hS (lv_sub hl [1, 2, 0] rfl)
  refine ziconst hC.1 hC.2.1 dX8_writeNumber_0 <| zistore_n (lv' := [(2, vI 1), (0, .ref (a 0)), (1, vI x1)]) hC.1 hC.2.1 dX8_writeNumber_1 rfl hl (by decide) rfl (fun ls hl => ?_)
  exact L2 n _ _ _ _ _ hf hP hS (lv_sub hl [1, 2, 0] rfl)
theorem DX8_printStatement_0 : ∀ q ∈ ([(0, .aload_n 0, 1), (1, .iload_n 1, 1), (2, .invokevirtual 287, 3), (5, .ifCond .eq 5, 3), (8, .iconst 0, 1), (9, .ireturn, 1), (10, .aload_n 0, 1), (11, .invokevirtual 121, 3), (14, .aload_n 0, 1), (15, .iconst 0, 1), (16, .putfield 360, 3), (19, .iconst 0, 1), (20, .istore_n 2, 1), (21, .iload_n 2, 1), (22, .sipush 180, 3), (25, .if_icmp .ge 80, 3), (28, .aload_n 0, 1), (29, .iload_n 2, 1), (30, .invokevirtual 124, 3), (33, .ifCond .eq 66, 3), (36, .aload_n 0, 1), (37, .getfield 7, 3), (40, .sipush 413, 3), (43, .iload_n 2, 1), (44, .iadd, 1), (45, .iaload, 1), (46, .iload_n 1, 1), (47, .if_icmp .eq 6, 3), (50, .goto 49, 3), (53, .aload_n 0, 1), (54, .aload_n 0, 1), (55, .iload_n 2, 1), (56, .invokevirtual 83, 3), (59, .invokevirtual 366, 3), (62, .aload_n 0, 1), (63, .bipush 58, 2), (65, .invokevirtual 363, 3), (68, .aload_n 0, 1), (69, .aload_n 0, 1), (70, .iload_n 2, 1)] : List (Nat × Instr × Nat)), decode cX8_printStatement q.1 = .ok q.2 := by decide +kernel
theorem dX8_printStatement_0 : decode cX8_printStatement 0 = .ok (.aload_n 0, 1) := DX8_printStatement_0 (0, .aload_n 0, 1) (List.mem_of_getElem? (i := 0) rfl)
theorem dX8_printStatement_1 : decode cX8_printStatement 1 = .ok (.iload_n 1, 1) := DX8_printStatement_0 (1, .iload_n 1, 1) (List.mem_of_getElem? (i := 1) rfl)
theorem dX8_printStatement_2 : decode cX8_printStatement 2 = .ok (.invokevirtual 287, 3) := DX8_printStatement_0 (2, .invokevirtual 287, 3) (List.mem_of_getElem? (i := 2) rfl)
theorem dX8_printStatement_5 : decode cX8_printStatement 5 = .ok (.ifCond .eq 5, 3) := DX8_printStatement_0 (5, .ifCond .eq 5, 3) (List.mem_of_getElem? (i := 3) rfl)
theorem dX8_printStatement_8 : decode cX8_printStatement 8 = .ok (.iconst 0, 1) := DX8_printStatement_0 (8, .iconst 0, 1) (List.mem_of_getElem? (i := 4) rfl)
theorem dX8_printStatement_9 : decode cX8_printStatement 9 = .ok (.ireturn, 1) := DX8_printStatement_0 (9, .ireturn, 1) (List.mem_of_getElem? (i := 5) rfl)
theorem dX8_printStatement_10 : decode cX8_printStatement 10 = .ok (.aload_n 0, 1) := DX8_printStatement_0 (10, .aload_n 0, 1) (List.mem_of_getElem? (i := 6) rfl)
theorem dX8_printStatement_11 : decode cX8_printStatement 11 = .ok (.invokevirtual 121, 3) := DX8_printStatement_0 (11, .invokevirtual 121, 3) (List.mem_of_getElem? (i := 7) rfl)
theorem dX8_printStatement_14 : decode cX8_printStatement 14 = .ok (.aload_n 0, 1) := DX8_printStatement_0 (14, .aload_n 0, 1) (List.mem_of_getElem? (i := 8) rfl)
theorem dX8_printStatement_15 : decode cX8_printStatement 15 = .ok (.iconst 0, 1) := DX8_printStatement_0 (15, .iconst 0, 1) (List.mem_of_getElem? (i := 9) rfl)
theorem dX8_printStatement_16 : decode cX8_printStatement 16 = .ok (.putfield 360, 3) := DX8_printStatement_0 (16, .putfield 360, 3) (List.mem_of_getElem? (i := 10) rfl)
theorem dX8_printStatement_19 : decode cX8_printStatement 19 = .ok (.iconst 0, 1) := DX8_printStatement_0 (19, .iconst 0, 1) (List.mem_of_getElem? (i := 11) rfl)
theorem dX8_printStatement_20 : decode cX8_printStatement 20 = .ok (.istore_n 2, 1) := DX8_printStatement_0 (20, .istore_n 2, 1) (List.mem_of_getElem? (i := 12) rfl)
theorem dX8_printStatement_21 : decode cX8_printStatement 21 = .ok (.iload_n 2, 1) := DX8_printStatement_0 (21, .iload_n 2, 1) (List.mem_of_getElem? (i := 13) rfl)
theorem dX8_printStatement_22 : decode cX8_printStatement 22 = .ok (.sipush 180, 3) := DX8_printStatement_0 (22, .sipush 180, 3) (List.mem_of_getElem? (i := 14) rfl)
theorem dX8_printStatement_25 : decode cX8_printStatement 25 = .ok (.if_icmp .ge 80, 3) := DX8_printStatement_0 (25, .if_icmp .ge 80, 3) (List.mem_of_getElem? (i := 15) rfl)
theorem dX8_printStatement_28 : decode cX8_printStatement 28 = .ok (.aload_n 0, 1) := DX8_printStatement_0 (28, .aload_n 0, 1) (List.mem_of_getElem? (i := 16) rfl)
theorem dX8_printStatement_29 : decode cX8_printStatement 29 = .ok (.iload_n 2, 1) := DX8_printStatement_0 (29, .iload_n 2, 1) (List.mem_of_getElem? (i := 17) rfl)
theorem dX8_printStatement_30 : decode cX8_printStatement 30 = .ok (.invokevirtual 124, 3) := DX8_printStatement_0 (30, .invokevirtual 124, 3) (List.mem_of_getElem? (i := 18) rfl)
theorem dX8_printStatement_33 : decode cX8_printStatement 33 = .ok (.ifCond .eq 66, 3) := DX8_printStatement_0 (33, .ifCond .eq 66, 3) (List.mem_of_getElem? (i := 19) rfl)
theorem dX8_printStatement_36 : decode cX8_printStatement 36 = .ok (.aload_n 0, 1) := DX8_printStatement_0 (36, .aload_n 0, 1) (List.mem_of_getElem? (i := 20) rfl)
theorem dX8_printStatement_37 : decode cX8_printStatement 37 = .ok (.getfield 7, 3) := DX8_printStatement_0 (37, .getfield 7, 3) (List.mem_of_getElem? (i := 21) rfl)
theorem dX8_printStatement_40 : decode cX8_printStatement 40 = .ok (.sipush 413, 3) := DX8_printStatement_0 (40, .sipush 413, 3) (List.mem_of_getElem? (i := 22) rfl)
theorem dX8_printStatement_43 : decode cX8_printStatement 43 = .ok (.iload_n 2, 1) := DX8_printStatement_0 (43, .iload_n 2, 1) (List.mem_of_getElem? (i := 23) rfl)
theorem dX8_printStatement_44 : decode cX8_printStatement 44 = .ok (.iadd, 1) := DX8_printStatement_0 (44, .iadd, 1) (List.mem_of_getElem? (i := 24) rfl)
theorem dX8_printStatement_45 : decode cX8_printStatement 45 = .ok (.iaload, 1) := DX8_printStatement_0 (45, .iaload, 1) (List.mem_of_getElem? (i := 25) rfl)
theorem dX8_printStatement_46 : decode cX8_printStatement 46 = .ok (.iload_n 1, 1) := DX8_printStatement_0 (46, .iload_n 1, 1) (List.mem_of_getElem? (i := 26) rfl)
theorem dX8_printStatement_47 : decode cX8_printStatement 47 = .ok (.if_icmp .eq 6, 3) := DX8_printStatement_0 (47, .if_icmp .eq 6, 3) (List.mem_of_getElem? (i := 27) rfl)
theorem dX8_printStatement_50 : decode cX8_printStatement 50 = .ok (.goto 49, 3) := DX8_printStatement_0 (50, .goto 49, 3) (List.mem_of_getElem? (i := 28) rfl)
theorem dX8_printStatement_53 : decode cX8_printStatement 53 = .ok (.aload_n 0, 1) := DX8_printStatement_0 (53, .aload_n 0, 1) (List.mem_of_getElem? (i := 29) rfl)
theorem dX8_printStatement_54 : decode cX8_printStatement 54 = .ok (.aload_n 0, 1) := DX8_printStatement_0 (54, .aload_n 0, 1) (List.mem_of_getElem? (i := 30) rfl)
theorem dX8_printStatement_55 : decode cX8_printStatement 55 = .ok (.iload_n 2, 1) := DX8_printStatement_0 (55, .iload_n 2, 1) (List.mem_of_getElem? (i := 31) rfl)
theorem dX8_printStatement_56 : decode cX8_printStatement 56 = .ok (.invokevirtual 83, 3) := DX8_printStatement_0 (56, .invokevirtual 83, 3) (List.mem_of_getElem? (i := 32) rfl)
theorem dX8_printStatement_59 : decode cX8_printStatement 59 = .ok (.invokevirtual 366, 3) := DX8_printStatement_0 (59, .invokevirtual 366, 3) (List.mem_of_getElem? (i := 33) rfl)
theorem dX8_printStatement_62 : decode cX8_printStatement 62 = .ok (.aload_n 0, 1) := DX8_printStatement_0 (62, .aload_n 0, 1) (List.mem_of_getElem? (i := 34) rfl)
theorem dX8_printStatement_63 : decode cX8_printStatement 63 = .ok (.bipush 58, 2) := DX8_printStatement_0 (63, .bipush 58, 2) (List.mem_of_getElem? (i := 35) rfl)
theorem dX8_printStatement_65 : decode cX8_printStatement 65 = .ok (.invokevirtual 363, 3) := DX8_printStatement_0 (65, .invokevirtual 363, 3) (List.mem_of_getElem? (i := 36) rfl)
theorem dX8_printStatement_68 : decode cX8_printStatement 68 = .ok (.aload_n 0, 1) := DX8_printStatement_0 (68, .aload_n 0, 1) (List.mem_of_getElem? (i := 37) rfl)
theorem dX8_printStatement_69 : decode cX8_printStatement 69 = .ok (.aload_n 0, 1) := DX8_printStatement_0 (69, .aload_n 0, 1) (List.mem_of_getElem? (i := 38) rfl)
theorem dX8_printStatement_70 : decode cX8_printStatement 70 = .ok (.iload_n 2, 1) := DX8_printStatement_0 (70, .iload_n 2, 1) (List.mem_of_getElem? (i := 39) rfl)
theorem DX8_printStatement_1 : ∀ q ∈ ([(71, .invokevirtual 86, 3), (74, .invokevirtual 366, 3), (77, .aload_n 0, 1), (78, .bipush 43, 2), (80, .invokevirtual 363, 3), (83, .aload_n 0, 1), (84, .aload_n 0, 1), (85, .getfield 37, 3), (88, .iload_n 2, 1), (89, .iaload, 1), (90, .invokevirtual 366, 3), (93, .aload_n 0, 1), (94, .bipush 10, 2), (96, .invokevirtual 363, 3), (99, .iinc 2 1, 3), (102, .goto (-81), 3), (105, .aload_n 0, 1), (106, .getfield 360, 3), (109, .ireturn, 1)] : List (Nat × Instr × Nat)), decode cX8_printStatement q.1 = .ok q.2 := by decide +kernel
theorem dX8_printStatement_71 : decode cX8_printStatement 71 = .ok (.invokevirtual 86, 3) := DX8_printStatement_1 (71, .invokevirtual 86, 3) (List.mem_of_getElem? (i := 0) rfl)
theorem dX8_printStatement_74 : decode cX8_printStatement 74 = .ok (.invokevirtual 366, 3) := DX8_printStatement_1 (74, .invokevirtual 366, 3) (List.mem_of_getElem? (i := 1) rfl)
theorem dX8_printStatement_77 : decode cX8_printStatement 77 = .ok (.aload_n 0, 1) := DX8_printStatement_1 (77, .aload_n 0, 1) (List.mem_of_getElem? (i := 2) rfl)
theorem dX8_printStatement_78 : decode cX8_printStatement 78 = .ok (.bipush 43, 2) := DX8_printStatement_1 (78, .bipush 43, 2) (List.mem_of_getElem? (i := 3) rfl)
theorem dX8_printStatement_80 : decode cX8_printStatement 80 = .ok (.invokevirtual 363, 3) := DX8_printStatement_1 (80, .invokevirtual 363, 3) (List.mem_of_getElem? (i := 4) rfl)
theorem dX8_printStatement_83 : decode cX8_printStatement 83 = .ok (.aload_n 0, 1) := DX8_printStatement_1 (83, .aload_n 0, 1) (List.mem_of_getElem? (i := 5) rfl)
theorem dX8_printStatement_84 : decode cX8_printStatement 84 = .ok (.aload_n 0, 1) := DX8_printStatement_1 (84, .aload_n 0, 1) (List.mem_of_getElem? (i := 6) rfl)
theorem dX8_printStatement_85 : decode cX8_printStatement 85 = .ok (.getfield 37, 3) := DX8_printStatement_1 (85, .getfield 37, 3) (List.mem_of_getElem? (i := 7) rfl)
theorem dX8_printStatement_88 : decode cX8_printStatement 88 = .ok (.iload_n 2, 1) := DX8_printStatement_1 (88, .iload_n 2, 1) (List.mem_of_getElem? (i := 8) rfl)
theorem dX8_printStatement_89 : decode cX8_printStatement 89 = .ok (.iaload, 1) := DX8_printStatement_1 (89, .iaload, 1) (List.mem_of_getElem? (i := 9) rfl)
theorem dX8_printStatement_90 : decode cX8_printStatement 90 = .ok (.invokevirtual 366, 3) := DX8_printStatement_1 (90, .invokevirtual 366, 3) (List.mem_of_getElem? (i := 10) rfl)
theorem dX8_printStatement_93 : decode cX8_printStatement 93 = .ok (.aload_n 0, 1) := DX8_printStatement_1 (93, .aload_n 0, 1) (List.mem_of_getElem? (i := 11) rfl)
theorem dX8_printStatement_94 : decode cX8_printStatement 94 = .ok (.bipush 10, 2) := DX8_printStatement_1 (94, .bipush 10, 2) (List.mem_of_getElem? (i := 12) rfl)
theorem dX8_printStatement_96 : decode cX8_printStatement 96 = .ok (.invokevirtual 363, 3) := DX8_printStatement_1 (96, .invokevirtual 363, 3) (List.mem_of_getElem? (i := 13) rfl)
theorem dX8_printStatement_99 : decode cX8_printStatement 99 = .ok (.iinc 2 1, 3) := DX8_printStatement_1 (99, .iinc 2 1, 3) (List.mem_of_getElem? (i := 14) rfl)
theorem dX8_printStatement_102 : decode cX8_printStatement 102 = .ok (.goto (-81), 3) := DX8_printStatement_1 (102, .goto (-81), 3) (List.mem_of_getElem? (i := 15) rfl)
theorem dX8_printStatement_105 : decode cX8_printStatement 105 = .ok (.aload_n 0, 1) := DX8_printStatement_1 (105, .aload_n 0, 1) (List.mem_of_getElem? (i := 16) rfl)
theorem dX8_printStatement_106 : decode cX8_printStatement 106 = .ok (.getfield 360, 3) := DX8_printStatement_1 (106, .getfield 360, 3) (List.mem_of_getElem? (i := 17) rfl)
theorem dX8_printStatement_109 : decode cX8_printStatement 109 = .ok (.ireturn, 1) := DX8_printStatement_1 (109, .ireturn, 1) (List.mem_of_getElem? (i := 18) rfl)
abbrev rmX8_printStatement : Room := { frames := 4, cells := 0, slots := 0, locals := 90 }
set_option maxHeartbeats 400000 in
set_option maxRecDepth 100000 in
theorem met_X8_printStatement (l : Launch) (D : va_G) (kA : Nat → ClassId) (a : Nat → Nat) (n : Nat) (V0 : Sz) (x1 : Int) (hDt : ∀ w : Sz, va_D (fun _ => True) (cs_X8 kA a w)) {r : Int} {Vr : Sz} (hf : f_X8_printStatement n V0 x1 = some (r, Vr)) : MZ l yX8_printStatement cX8_printStatement 3 (some .int) rmX8_printStatement D kA [.ref (a 0), vI x1] (cs_X8 kA a V0) (cs_X8 kA a Vr) (some (vI r)) := by
  refine zZI (own := RX8) rfl rfl (Nat.le_of_ble_eq_true rfl) ?_
  intro p e s m args below meth c ls Q hC hK hP hl hret
  have hl : lv_has ls 3 [(0, .ref (a 0)), (1, vI x1)] := hl
  have hS : va_S (zF (cs_X8 kA a V0)) s.heap s.heap [] := va_S.rf
  have hD := zDself (C := fun w : Sz => (cs_X8 kA a w)) hDt V0 (fun _ => rfl)
  try dsimp only at hD
  generalize hAe : zF (cs_X8 kA a V0) = A0 at hS hD hret
  unfold f_X8_printStatement at hf
  have L21 : ∀ (k21 : Nat) (y2 : Int) (V : Sz) (H : Heap) (locs : List Loc) (ls : Array Slot), lpF (bX8_printStatement_21 n x1) k21 (y2, V) = some (r, Vr) → va_P D vwCl (cs_X8 kA a V) H → va_S A0 s.heap H locs → lv_has ls 3 [(0, .ref (a 0)), (1, vI x1), (2, vI y2)] → W p l e rmX8_printStatement s m args below meth c H locs 0 0 Q (F0 m 21 ls []) := by
    intro k21
    induction k21 with
    | zero => intro y2 V H locs ls hf hP hS hl; exact lp_0 hf
    | succ k21 ih21 =>
      intro y2 V H locs ls hf hP hS hl
      have hf := lp_s hf
      rw [bX8_printStatement_21_e] at hf
      have J99 : ∀ (y2 : Int) (V : Sz) (H : Heap) (locs : List Loc) (ls : Array Slot), jX8_printStatement_99 n x1 (lpF (bX8_printStatement_21 n x1) k21) y2 V = some (r, Vr) → va_P D vwCl (cs_X8 kA a V) H → va_S A0 s.heap H locs → lv_has ls 3 [(0, .ref (a 0)), (1, vI x1), (2, vI y2)] → W p l e rmX8_printStatement s m args below meth c H locs 0 0 Q (F0 m 99 ls []) := by
        intro y2 V H locs ls hf hP hS hl
        unfold jX8_printStatement_99 at hf
        obtain ⟨x_7, ex_7⟩ : ∃ y : Int, y = y2 + 1 := ⟨_, rfl⟩
        have hf := nm_at hf ex_7
        refine ziinc (v := x_7) (lv' := [(2, vI x_7), (0, .ref (a 0)), (1, vI x1)]) hC.1 hC.2.1 dX8_printStatement_99 hl (k := 2) rfl ex_7 (by decide) rfl (fun ls hl => ?_)
        exact lv_goto (tgt := 21) hC.1 hC.2.1 dX8_printStatement_102 (by decide) <| ih21 _ _ _ _ _ hf hP hS (lv_sub hl [1, 2, 0] rfl)
      refine ziload_n hC.1 hC.2.1 dX8_printStatement_21 rfl (lv_at hl 2 rfl) <| zsipush hC.1 hC.2.1 dX8_printStatement_22 (by decide) <| ?_
      obtain ⟨hz_5, hf⟩ := ck_some hf
      refine zicmp_ge (tgt := 105) hC.1 hC.2.1 ⟨hz_5, (by decide)⟩ dX8_printStatement_25 (by decide) (fun hc => ?_) (fun hc => ?_)
      · have hf := it_t hf hc
        refine lv_aload_n hC.1 hC.2.1 dX8_printStatement_105 rfl (lv_at hl 0 rfl) <| gfX8_360 hC hK hP (q0 := 0) rfl rfl dX8_printStatement_106 <| ?_
        have hf := Option.some.inj hf
        simp only [Prod.mk.injEq] at hf
        exact hret (Int32.ofInt (V 31 0)) _ _ _ _ (congrArg (fun z => some (vI z)) hf.1.symm) (by rw [← hf.2]; exact hP) hS dX8_printStatement_109
      · have hf := it_f hf hc
        refine lv_aload_n hC.1 hC.2.1 dX8_printStatement_28 rfl (lv_at hl 0 rfl) <| ziload_n hC.1 hC.2.1 dX8_printStatement_29 rfl (lv_at hl 2 rfl) <| ?_
        obtain ⟨r_6, hu, hf⟩ := bd_some hf
        refine zcVP (As := [vI y2]) (rest := []) hC hK (met_X8_isPart l D kA a V y2 hu) zwX8_124 hP (q0 := 0) rfl rfl rfl rfl hl.1 rfl (Nat.le_of_ble_eq_true rfl) ⟨Nat.le_of_ble_eq_true rfl, Nat.le_of_ble_eq_true rfl⟩ ⟨rfl, rfl⟩ ⟨Nat.le_refl _, Nat.le_refl _⟩ dX8_printStatement_30 <| zifb_eq (tgt := 99) hC.1 hC.2.1 dX8_printStatement_33 (by decide) (fun hc => ?_) (fun hc => ?_)
        · have hf := it_t hf hc
          exact J99 _ _ _ _ _ hf hP hS (lv_sub hl [0, 1, 2] rfl)
        · have hf := it_f hf hc
          refine lv_aload_n hC.1 hC.2.1 dX8_printStatement_36 rfl (lv_at hl 0 rfl) <| gfX8_7 hC hK hP (q0 := 0) rfl rfl dX8_printStatement_37 <| zsipush hC.1 hC.2.1 dX8_printStatement_40 (by decide) <| ziload_n hC.1 hC.2.1 dX8_printStatement_43 rfl (lv_at hl 2 rfl) <| ziadd hC.1 hC.2.1 dX8_printStatement_44 <| ?_
          obtain ⟨hz_8, hf⟩ := ck_some hf
          refine jal hC hK hP (q0 := 1) rfl (Nat.le_of_ble_eq_true rfl) hz_8 rfl dX8_printStatement_45 <| ziload_n hC.1 hC.2.1 dX8_printStatement_46 rfl (lv_at hl 1 rfl) <| ?_
          obtain ⟨hz_9, hf⟩ := ck_some hf
          refine zicmp_eq (tgt := 53) hC.1 hC.2.1 ⟨hz_9.1, hz_9.2⟩ dX8_printStatement_47 (by decide) (fun hc => ?_) (fun hc => ?_)
          · have hf := it_t hf hc
            refine lv_aload_n hC.1 hC.2.1 dX8_printStatement_53 rfl (lv_at hl 0 rfl) <| lv_aload_n hC.1 hC.2.1 dX8_printStatement_54 rfl (lv_at hl 0 rfl) <| ziload_n hC.1 hC.2.1 dX8_printStatement_55 rfl (lv_at hl 2 rfl) <| ?_
            obtain ⟨r_10, hu, hf⟩ := bd_some hf
            refine zcVP (As := [vI y2]) (rest := [.ref (a 0)]) hC hK (met_X8_dayOf l D kA a V y2 hu) zwX8_83 hP (q0 := 0) rfl rfl rfl rfl hl.1 rfl (Nat.le_of_ble_eq_true rfl) ⟨Nat.le_of_ble_eq_true rfl, Nat.le_of_ble_eq_true rfl⟩ ⟨rfl, rfl⟩ ⟨Nat.le_refl _, Nat.le_refl _⟩ dX8_printStatement_56 <| ?_
            obtain ⟨V_11, hu, hf⟩ := bd_some hf
            have hDc := hDt
            refine zcVZ (As := [vI r_10]) (rest := []) hC hK (met_X8_writeNumber l D kA a n V r_10 hDc hu) zwX8_366 hS (zFsub (hD V) [0, 1, 2, 3, 4, 5, 6, 7, 8, 9, 10, 11, 12, 13, 14, 15, 16] rfl) hP (q0 := 0) rfl rfl rfl rfl hl.1 rfl (Nat.le_of_ble_eq_true rfl) ⟨Nat.le_of_ble_eq_true rfl, Nat.le_of_ble_eq_true rfl⟩ ⟨rfl, rfl⟩ ⟨Nat.le_refl _, Nat.le_refl _⟩ dX8_printStatement_59 (fun H locs hP1 hk1 hS => ?_)
            have hP : va_P D vwCl (cs_X8 kA a V_11) H := hP1
            refine lv_aload_n hC.1 hC.2.1 dX8_printStatement_62 rfl (lv_at hl 0 rfl) <| zbipush hC.1 hC.2.1 dX8_printStatement_63 (by decide) <| ?_
            obtain ⟨V_12, hu, hf⟩ := bd_some hf
            have hDc := hDt
            refine zcVZ (As := [vI 58]) (rest := []) hC hK (met_X8_write l D kA a V_11 58 hDc hu) zwX8_363 hS (zFsub (hD V_11) [0, 1, 2, 3, 4, 5, 6, 7, 8, 9, 10, 11, 12, 13, 14, 15, 16] rfl) hP (q0 := 0) rfl rfl rfl rfl hl.1 rfl (Nat.le_of_ble_eq_true rfl) ⟨Nat.le_of_ble_eq_true rfl, Nat.le_of_ble_eq_true rfl⟩ ⟨rfl, rfl⟩ ⟨Nat.le_refl _, Nat.le_refl _⟩ dX8_printStatement_65 (fun H locs hP1 hk1 hS => ?_)
            have hP : va_P D vwCl (cs_X8 kA a V_12) H := hP1
            refine lv_aload_n hC.1 hC.2.1 dX8_printStatement_68 rfl (lv_at hl 0 rfl) <| lv_aload_n hC.1 hC.2.1 dX8_printStatement_69 rfl (lv_at hl 0 rfl) <| ziload_n hC.1 hC.2.1 dX8_printStatement_70 rfl (lv_at hl 2 rfl) <| ?_
            obtain ⟨r_13, hu, hf⟩ := bd_some hf
            refine zcVP (As := [vI y2]) (rest := [.ref (a 0)]) hC hK (met_X8_leftOf l D kA a V_12 y2 hu) zwX8_86 hP (q0 := 0) rfl rfl rfl rfl hl.1 rfl (Nat.le_of_ble_eq_true rfl) ⟨Nat.le_of_ble_eq_true rfl, Nat.le_of_ble_eq_true rfl⟩ ⟨rfl, rfl⟩ ⟨Nat.le_refl _, Nat.le_refl _⟩ dX8_printStatement_71 <| ?_
            obtain ⟨V_14, hu, hf⟩ := bd_some hf
            have hDc := hDt
            refine zcVZ (As := [vI r_13]) (rest := []) hC hK (met_X8_writeNumber l D kA a n V_12 r_13 hDc hu) zwX8_366 hS (zFsub (hD V_12) [0, 1, 2, 3, 4, 5, 6, 7, 8, 9, 10, 11, 12, 13, 14, 15, 16] rfl) hP (q0 := 0) rfl rfl rfl rfl hl.1 rfl (Nat.le_of_ble_eq_true rfl) ⟨Nat.le_of_ble_eq_true rfl, Nat.le_of_ble_eq_true rfl⟩ ⟨rfl, rfl⟩ ⟨Nat.le_refl _, Nat.le_refl _⟩ dX8_printStatement_74 (fun H locs hP1 hk1 hS => ?_)
            have hP : va_P D vwCl (cs_X8 kA a V_14) H := hP1
            refine lv_aload_n hC.1 hC.2.1 dX8_printStatement_77 rfl (lv_at hl 0 rfl) <| zbipush hC.1 hC.2.1 dX8_printStatement_78 (by decide) <| ?_
            obtain ⟨V_15, hu, hf⟩ := bd_some hf
            have hDc := hDt
            refine zcVZ (As := [vI 43]) (rest := []) hC hK (met_X8_write l D kA a V_14 43 hDc hu) zwX8_363 hS (zFsub (hD V_14) [0, 1, 2, 3, 4, 5, 6, 7, 8, 9, 10, 11, 12, 13, 14, 15, 16] rfl) hP (q0 := 0) rfl rfl rfl rfl hl.1 rfl (Nat.le_of_ble_eq_true rfl) ⟨Nat.le_of_ble_eq_true rfl, Nat.le_of_ble_eq_true rfl⟩ ⟨rfl, rfl⟩ ⟨Nat.le_refl _, Nat.le_refl _⟩ dX8_printStatement_80 (fun H locs hP1 hk1 hS => ?_)
            have hP : va_P D vwCl (cs_X8 kA a V_15) H := hP1
            refine lv_aload_n hC.1 hC.2.1 dX8_printStatement_83 rfl (lv_at hl 0 rfl) <| lv_aload_n hC.1 hC.2.1 dX8_printStatement_84 rfl (lv_at hl 0 rfl) <| gfX8_37 hC hK hP (q0 := 0) rfl rfl dX8_printStatement_85 <| ziload_n hC.1 hC.2.1 dX8_printStatement_88 rfl (lv_at hl 2 rfl) <| ?_
            obtain ⟨hz_16, hf⟩ := ck_some hf
            refine jal hC hK hP (q0 := 10) rfl (Nat.le_of_ble_eq_true rfl) hz_16 rfl dX8_printStatement_89 <| ?_
            obtain ⟨V_17, hu, hf⟩ := bd_some hf
            have hDc := hDt
            refine zcVZ (As := [vI (V_15 12 y2.toNat)]) (rest := []) hC hK (met_X8_writeNumber l D kA a n V_15 (V_15 12 y2.toNat) hDc hu) zwX8_366 hS (zFsub (hD V_15) [0, 1, 2, 3, 4, 5, 6, 7, 8, 9, 10, 11, 12, 13, 14, 15, 16] rfl) hP (q0 := 0) rfl rfl rfl rfl hl.1 rfl (Nat.le_of_ble_eq_true rfl) ⟨Nat.le_of_ble_eq_true rfl, Nat.le_of_ble_eq_true rfl⟩ ⟨rfl, rfl⟩ ⟨Nat.le_refl _, Nat.le_refl _⟩ dX8_printStatement_90 (fun H locs hP1 hk1 hS => ?_)
            have hP : va_P D vwCl (cs_X8 kA a V_17) H := hP1
            refine lv_aload_n hC.1 hC.2.1 dX8_printStatement_93 rfl (lv_at hl 0 rfl) <| zbipush hC.1 hC.2.1 dX8_printStatement_94 (by decide) <| ?_
            obtain ⟨V_18, hu, hf⟩ := bd_some hf
            have hDc := hDt
            refine zcVZ (As := [vI 10]) (rest := []) hC hK (met_X8_write l D kA a V_17 10 hDc hu) zwX8_363 hS (zFsub (hD V_17) [0, 1, 2, 3, 4, 5, 6, 7, 8, 9, 10, 11, 12, 13, 14, 15, 16] rfl) hP (q0 := 0) rfl rfl rfl rfl hl.1 rfl (Nat.le_of_ble_eq_true rfl) ⟨Nat.le_of_ble_eq_true rfl, Nat.le_of_ble_eq_true rfl⟩ ⟨rfl, rfl⟩ ⟨Nat.le_refl _, Nat.le_refl _⟩ dX8_printStatement_96 (fun H locs hP1 hk1 hS => ?_)
            have hP : va_P D vwCl (cs_X8 kA a V_18) H := hP1
            exact J99 _ _ _ _ _ hf hP hS (lv_sub hl [0, 1, 2] rfl)
          · have hf := it_f hf hc
            exact lv_goto (tgt := 99) hC.1 hC.2.1 dX8_printStatement_50 (by decide) <| J99 _ _ _ _ _ hf hP hS (lv_sub hl [0, 1, 2] rfl)
  refine lv_aload_n hC.1 hC.2.1 dX8_printStatement_0 rfl (lv_at hl 0 rfl) <| ziload_n hC.1 hC.2.1 dX8_printStatement_1 rfl (lv_at hl 1 rfl) <| ?_
  obtain ⟨⟨r_1, V_2⟩, hu, hf⟩ := bd_some hf
  have hDc := hDt
  refine zcVZ (As := [vI x1]) (rest := []) hC hK (met_X8_noDonor l D kA a V0 x1 hDc hu) zwX8_287 hS (zFsub (hD V0) [0, 1, 2, 3, 4, 5, 6, 7, 8, 9, 10, 11, 12, 13, 14, 15, 16] rfl) hP (q0 := 0) rfl rfl rfl rfl hl.1 rfl (Nat.le_of_ble_eq_true rfl) ⟨Nat.le_of_ble_eq_true rfl, Nat.le_of_ble_eq_true rfl⟩ ⟨rfl, rfl⟩ ⟨Nat.le_refl _, Nat.le_refl _⟩ dX8_printStatement_2 (fun H locs hP1 hk1 hS => ?_)
  have hP : va_P D vwCl (cs_X8 kA a V_2) H := hP1
  refine zifb_eq (tgt := 10) hC.1 hC.2.1 dX8_printStatement_5 (by decide) (fun hc => ?_) (fun hc => ?_)
  · have hf := it_t hf hc
    refine lv_aload_n hC.1 hC.2.1 dX8_printStatement_10 rfl (lv_at hl 0 rfl) <| ?_
    obtain ⟨V_3, hu, hf⟩ := bd_some hf
    have hDc := hDt
    refine zcVZ (As := []) (rest := []) hC hK (met_X8_laysAid l D kA a n V_2 hDc hu) zwX8_121 hS (zFsub (hD V_2) [0, 1, 2, 3, 4, 5, 6, 7, 8, 9, 10, 11, 12, 13, 14, 15, 16] rfl) hP (q0 := 0) rfl rfl rfl rfl hl.1 rfl (Nat.le_of_ble_eq_true rfl) ⟨Nat.le_of_ble_eq_true rfl, Nat.le_of_ble_eq_true rfl⟩ ⟨rfl, rfl⟩ ⟨Nat.le_refl _, Nat.le_refl _⟩ dX8_printStatement_11 (fun H locs hP1 hk1 hS => ?_)
    have hP : va_P D vwCl (cs_X8 kA a V_3) H := hP1
    refine lv_aload_n hC.1 hC.2.1 dX8_printStatement_14 rfl (lv_at hl 0 rfl) <| ziconst hC.1 hC.2.1 dX8_printStatement_15 <| ?_
    refine pfX8_360 hC hK hP (hD V_3) hS (q0 := 0) rfl (Nat.le_of_ble_eq_true rfl) dX8_printStatement_16 (fun H locs hP hS => ?_)
    obtain ⟨V_4, eV_4⟩ : ∃ y, y = us V_3 31 0 := ⟨_, rfl⟩
    have hf := nm_at hf eV_4
    have hP : va_P D vwCl (cs_X8 kA a V_4) H := by rw [eV_4]; exact hP
    refine ziconst hC.1 hC.2.1 dX8_printStatement_19 <| zistore_n (lv' := [(2, vI 0), (0, .ref (a 0)), (1, vI x1)]) hC.1 hC.2.1 dX8_printStatement_20 rfl hl (by decide) rfl (fun ls hl => ?_)
    exact L21 n _ _ _ _ _ hf hP hS (lv_sub hl [1, 2, 0] rfl)
  · have hf := it_f hf hc
    refine ziconst hC.1 hC.2.1 dX8_printStatement_8 <| ?_
    have hf := Option.some.inj hf
    simp only [Prod.mk.injEq] at hf
    exact hret (Int32.ofInt 0) _ _ _ _ (congrArg (fun z => some (vI z)) hf.1.symm) (by rw [← hf.2]; exact hP) hS dX8_printStatement_9
theorem DX8_outputByte_0 : ∀ q ∈ ([(0, .aload_n 0, 1), (1, .iconst 0, 1), (2, .putfield 65, 3), (5, .iload_n 1, 1), (6, .iconst 0, 1), (7, .aload_n 0, 1), (8, .getfield 360, 3), (11, .iconst 1, 1), (12, .isub, 1), (13, .invokestatic 79, 3), (16, .ifCond .eq 12, 3), (19, .aload_n 0, 1), (20, .getfield 59, 3), (23, .iload_n 1, 1), (24, .iaload, 1), (25, .goto 4, 3), (28, .iconst (-1), 1), (29, .ireturn, 1)] : List (Nat × Instr × Nat)), decode cX8_outputByte q.1 = .ok q.2 := by decide +kernel
theorem dX8_outputByte_0 : decode cX8_outputByte 0 = .ok (.aload_n 0, 1) := DX8_outputByte_0 (0, .aload_n 0, 1) (List.mem_of_getElem? (i := 0) rfl)
theorem dX8_outputByte_1 : decode cX8_outputByte 1 = .ok (.iconst 0, 1) := DX8_outputByte_0 (1, .iconst 0, 1) (List.mem_of_getElem? (i := 1) rfl)
theorem dX8_outputByte_2 : decode cX8_outputByte 2 = .ok (.putfield 65, 3) := DX8_outputByte_0 (2, .putfield 65, 3) (List.mem_of_getElem? (i := 2) rfl)
theorem dX8_outputByte_5 : decode cX8_outputByte 5 = .ok (.iload_n 1, 1) := DX8_outputByte_0 (5, .iload_n 1, 1) (List.mem_of_getElem? (i := 3) rfl)
theorem dX8_outputByte_6 : decode cX8_outputByte 6 = .ok (.iconst 0, 1) := DX8_outputByte_0 (6, .iconst 0, 1) (List.mem_of_getElem? (i := 4) rfl)
theorem dX8_outputByte_7 : decode cX8_outputByte 7 = .ok (.aload_n 0, 1) := DX8_outputByte_0 (7, .aload_n 0, 1) (List.mem_of_getElem? (i := 5) rfl)
theorem dX8_outputByte_8 : decode cX8_outputByte 8 = .ok (.getfield 360, 3) := DX8_outputByte_0 (8, .getfield 360, 3) (List.mem_of_getElem? (i := 6) rfl)
theorem dX8_outputByte_11 : decode cX8_outputByte 11 = .ok (.iconst 1, 1) := DX8_outputByte_0 (11, .iconst 1, 1) (List.mem_of_getElem? (i := 7) rfl)
theorem dX8_outputByte_12 : decode cX8_outputByte 12 = .ok (.isub, 1) := DX8_outputByte_0 (12, .isub, 1) (List.mem_of_getElem? (i := 8) rfl)
theorem dX8_outputByte_13 : decode cX8_outputByte 13 = .ok (.invokestatic 79, 3) := DX8_outputByte_0 (13, .invokestatic 79, 3) (List.mem_of_getElem? (i := 9) rfl)
theorem dX8_outputByte_16 : decode cX8_outputByte 16 = .ok (.ifCond .eq 12, 3) := DX8_outputByte_0 (16, .ifCond .eq 12, 3) (List.mem_of_getElem? (i := 10) rfl)
theorem dX8_outputByte_19 : decode cX8_outputByte 19 = .ok (.aload_n 0, 1) := DX8_outputByte_0 (19, .aload_n 0, 1) (List.mem_of_getElem? (i := 11) rfl)
theorem dX8_outputByte_20 : decode cX8_outputByte 20 = .ok (.getfield 59, 3) := DX8_outputByte_0 (20, .getfield 59, 3) (List.mem_of_getElem? (i := 12) rfl)
theorem dX8_outputByte_23 : decode cX8_outputByte 23 = .ok (.iload_n 1, 1) := DX8_outputByte_0 (23, .iload_n 1, 1) (List.mem_of_getElem? (i := 13) rfl)
theorem dX8_outputByte_24 : decode cX8_outputByte 24 = .ok (.iaload, 1) := DX8_outputByte_0 (24, .iaload, 1) (List.mem_of_getElem? (i := 14) rfl)
theorem dX8_outputByte_25 : decode cX8_outputByte 25 = .ok (.goto 4, 3) := DX8_outputByte_0 (25, .goto 4, 3) (List.mem_of_getElem? (i := 15) rfl)
theorem dX8_outputByte_28 : decode cX8_outputByte 28 = .ok (.iconst (-1), 1) := DX8_outputByte_0 (28, .iconst (-1), 1) (List.mem_of_getElem? (i := 16) rfl)
theorem dX8_outputByte_29 : decode cX8_outputByte 29 = .ok (.ireturn, 1) := DX8_outputByte_0 (29, .ireturn, 1) (List.mem_of_getElem? (i := 17) rfl)
abbrev rmX8_outputByte : Room := { frames := 1, cells := 0, slots := 0, locals := 22 }
set_option maxHeartbeats 400000 in
set_option maxRecDepth 100000 in
theorem met_X8_outputByte (l : Launch) (D : va_G) (kA : Nat → ClassId) (a : Nat → Nat) (V0 : Sz) (x1 : Int) (hDt : ∀ w : Sz, va_D (fun _ => True) (cs_X8 kA a w)) {r : Int} {Vr : Sz} (hf : f_X8_outputByte V0 x1 = some (r, Vr)) : MZ l yX8_outputByte cX8_outputByte 2 (some .int) rmX8_outputByte D kA [.ref (a 0), vI x1] (cs_X8 kA a V0) (cs_X8 kA a Vr) (some (vI r)) := by
  refine zZI (own := RX8) rfl rfl (Nat.le_of_ble_eq_true rfl) ?_
  intro p e s m args below meth c ls Q hC hK hP hl hret
  have hl : lv_has ls 2 [(0, .ref (a 0)), (1, vI x1)] := hl
  have hS : va_S (zF (cs_X8 kA a V0)) s.heap s.heap [] := va_S.rf
  have hD := zDself (C := fun w : Sz => (cs_X8 kA a w)) hDt V0 (fun _ => rfl)
  try dsimp only at hD
  generalize hAe : zF (cs_X8 kA a V0) = A0 at hS hD hret
  unfold f_X8_outputByte at hf
  refine lv_aload_n hC.1 hC.2.1 dX8_outputByte_0 rfl (lv_at hl 0 rfl) <| ziconst hC.1 hC.2.1 dX8_outputByte_1 <| ?_
  refine pfX8_65 hC hK hP (hD V0) hS (q0 := 0) rfl (Nat.le_of_ble_eq_true rfl) dX8_outputByte_2 (fun H locs hP hS => ?_)
  obtain ⟨V_1, eV_1⟩ : ∃ y, y = us V0 9 0 := ⟨_, rfl⟩
  have hf := nm_at hf eV_1
  have hP : va_P D vwCl (cs_X8 kA a V_1) H := by rw [eV_1]; exact hP
  refine ziload_n hC.1 hC.2.1 dX8_outputByte_5 rfl (lv_at hl 1 rfl) <| ziconst hC.1 hC.2.1 dX8_outputByte_6 <| lv_aload_n hC.1 hC.2.1 dX8_outputByte_7 rfl (lv_at hl 0 rfl) <| gfX8_360 hC hK hP (q0 := 0) rfl rfl dX8_outputByte_8 <| ziconst hC.1 hC.2.1 dX8_outputByte_11 <| zisub hC.1 hC.2.1 dX8_outputByte_12 <| ?_
  obtain ⟨r_2, hu, hf⟩ := bd_some hf
  have hPc : va_P D vwCl ([] : va_W) _ := hP.sub [] rfl
  refine zcSP (As := [vI x1, vI 0, vI ((V_1 31 0) - 1)]) (rest := []) hC hK (met_X8_inRange l D kA x1 0 ((V_1 31 0) - 1) hu) zwX8_79 hPc rfl hl.1 rfl (Nat.le_of_ble_eq_true rfl) ⟨Nat.le_of_ble_eq_true rfl, Nat.le_of_ble_eq_true rfl⟩ ⟨rfl, rfl⟩ ⟨Nat.le_refl _, Nat.le_refl _⟩ dX8_outputByte_13 <| zifb_eq (tgt := 28) hC.1 hC.2.1 dX8_outputByte_16 (by decide) (fun hc => ?_) (fun hc => ?_)
  · have hf := it_t hf hc
    refine ziconst hC.1 hC.2.1 dX8_outputByte_28 <| ?_
    have hf := Option.some.inj hf
    simp only [Prod.mk.injEq] at hf
    exact hret (Int32.ofInt (-1)) _ _ _ _ (congrArg (fun z => some (vI z)) hf.1.symm) (by rw [← hf.2]; exact hP) hS dX8_outputByte_29
  · have hf := it_f hf hc
    refine lv_aload_n hC.1 hC.2.1 dX8_outputByte_19 rfl (lv_at hl 0 rfl) <| gfX8_59 hC hK hP (q0 := 0) rfl rfl dX8_outputByte_20 <| ziload_n hC.1 hC.2.1 dX8_outputByte_23 rfl (lv_at hl 1 rfl) <| ?_
    obtain ⟨hz_3, hf⟩ := ck_some hf
    refine jal hC hK hP (q0 := 16) rfl (Nat.le_of_ble_eq_true rfl) hz_3 rfl dX8_outputByte_24 <| lv_goto (tgt := 29) hC.1 hC.2.1 dX8_outputByte_25 (by decide) <| ?_
    have hf := Option.some.inj hf
    simp only [Prod.mk.injEq] at hf
    exact hret (Int32.ofInt (V_1 30 x1.toNat)) _ _ _ _ (congrArg (fun z => some (vI z)) hf.1.symm) (by rw [← hf.2]; exact hP) hS dX8_outputByte_29
theorem DX8_undo_0 : ∀ q ∈ ([(0, .aload_n 0, 1), (1, .iconst 0, 1), (2, .putfield 65, 3), (5, .aload_n 0, 1), (6, .getfield 68, 3), (9, .ifCond .ne 5, 3), (12, .iconst (-1), 1), (13, .ireturn, 1), (14, .aload_n 0, 1), (15, .dup, 1), (16, .getfield 68, 3), (19, .iconst 1, 1), (20, .isub, 1), (21, .putfield 68, 3), (24, .aload_n 0, 1), (25, .getfield 22, 3), (28, .sipush 1233, 3), (31, .aload_n 0, 1), (32, .getfield 68, 3), (35, .imul, 1), (36, .aload_n 0, 1), (37, .getfield 7, 3), (40, .iconst 0, 1), (41, .sipush 1233, 3), (44, .invokestatic 71, 3), (47, .aload_n 0, 1), (48, .getfield 68, 3), (51, .ireturn, 1)] : List (Nat × Instr × Nat)), decode cX8_undo q.1 = .ok q.2 := by decide +kernel
theorem dX8_undo_0 : decode cX8_undo 0 = .ok (.aload_n 0, 1) := DX8_undo_0 (0, .aload_n 0, 1) (List.mem_of_getElem? (i := 0) rfl)
theorem dX8_undo_1 : decode cX8_undo 1 = .ok (.iconst 0, 1) := DX8_undo_0 (1, .iconst 0, 1) (List.mem_of_getElem? (i := 1) rfl)
theorem dX8_undo_2 : decode cX8_undo 2 = .ok (.putfield 65, 3) := DX8_undo_0 (2, .putfield 65, 3) (List.mem_of_getElem? (i := 2) rfl)
theorem dX8_undo_5 : decode cX8_undo 5 = .ok (.aload_n 0, 1) := DX8_undo_0 (5, .aload_n 0, 1) (List.mem_of_getElem? (i := 3) rfl)
theorem dX8_undo_6 : decode cX8_undo 6 = .ok (.getfield 68, 3) := DX8_undo_0 (6, .getfield 68, 3) (List.mem_of_getElem? (i := 4) rfl)
theorem dX8_undo_9 : decode cX8_undo 9 = .ok (.ifCond .ne 5, 3) := DX8_undo_0 (9, .ifCond .ne 5, 3) (List.mem_of_getElem? (i := 5) rfl)
theorem dX8_undo_12 : decode cX8_undo 12 = .ok (.iconst (-1), 1) := DX8_undo_0 (12, .iconst (-1), 1) (List.mem_of_getElem? (i := 6) rfl)
theorem dX8_undo_13 : decode cX8_undo 13 = .ok (.ireturn, 1) := DX8_undo_0 (13, .ireturn, 1) (List.mem_of_getElem? (i := 7) rfl)
theorem dX8_undo_14 : decode cX8_undo 14 = .ok (.aload_n 0, 1) := DX8_undo_0 (14, .aload_n 0, 1) (List.mem_of_getElem? (i := 8) rfl)
theorem dX8_undo_15 : decode cX8_undo 15 = .ok (.dup, 1) := DX8_undo_0 (15, .dup, 1) (List.mem_of_getElem? (i := 9) rfl)
theorem dX8_undo_16 : decode cX8_undo 16 = .ok (.getfield 68, 3) := DX8_undo_0 (16, .getfield 68, 3) (List.mem_of_getElem? (i := 10) rfl)
theorem dX8_undo_19 : decode cX8_undo 19 = .ok (.iconst 1, 1) := DX8_undo_0 (19, .iconst 1, 1) (List.mem_of_getElem? (i := 11) rfl)
theorem dX8_undo_20 : decode cX8_undo 20 = .ok (.isub, 1) := DX8_undo_0 (20, .isub, 1) (List.mem_of_getElem? (i := 12) rfl)
theorem dX8_undo_21 : decode cX8_undo 21 = .ok (.putfield 68, 3) := DX8_undo_0 (21, .putfield 68, 3) (List.mem_of_getElem? (i := 13) rfl)
theorem dX8_undo_24 : decode cX8_undo 24 = .ok (.aload_n 0, 1) := DX8_undo_0 (24, .aload_n 0, 1) (List.mem_of_getElem? (i := 14) rfl)
theorem dX8_undo_25 : decode cX8_undo 25 = .ok (.getfield 22, 3) := DX8_undo_0 (25, .getfield 22, 3) (List.mem_of_getElem? (i := 15) rfl)
theorem dX8_undo_28 : decode cX8_undo 28 = .ok (.sipush 1233, 3) := DX8_undo_0 (28, .sipush 1233, 3) (List.mem_of_getElem? (i := 16) rfl)
theorem dX8_undo_31 : decode cX8_undo 31 = .ok (.aload_n 0, 1) := DX8_undo_0 (31, .aload_n 0, 1) (List.mem_of_getElem? (i := 17) rfl)
theorem dX8_undo_32 : decode cX8_undo 32 = .ok (.getfield 68, 3) := DX8_undo_0 (32, .getfield 68, 3) (List.mem_of_getElem? (i := 18) rfl)
theorem dX8_undo_35 : decode cX8_undo 35 = .ok (.imul, 1) := DX8_undo_0 (35, .imul, 1) (List.mem_of_getElem? (i := 19) rfl)
theorem dX8_undo_36 : decode cX8_undo 36 = .ok (.aload_n 0, 1) := DX8_undo_0 (36, .aload_n 0, 1) (List.mem_of_getElem? (i := 20) rfl)
theorem dX8_undo_37 : decode cX8_undo 37 = .ok (.getfield 7, 3) := DX8_undo_0 (37, .getfield 7, 3) (List.mem_of_getElem? (i := 21) rfl)
theorem dX8_undo_40 : decode cX8_undo 40 = .ok (.iconst 0, 1) := DX8_undo_0 (40, .iconst 0, 1) (List.mem_of_getElem? (i := 22) rfl)
theorem dX8_undo_41 : decode cX8_undo 41 = .ok (.sipush 1233, 3) := DX8_undo_0 (41, .sipush 1233, 3) (List.mem_of_getElem? (i := 23) rfl)
theorem dX8_undo_44 : decode cX8_undo 44 = .ok (.invokestatic 71, 3) := DX8_undo_0 (44, .invokestatic 71, 3) (List.mem_of_getElem? (i := 24) rfl)
theorem dX8_undo_47 : decode cX8_undo 47 = .ok (.aload_n 0, 1) := DX8_undo_0 (47, .aload_n 0, 1) (List.mem_of_getElem? (i := 25) rfl)
theorem dX8_undo_48 : decode cX8_undo 48 = .ok (.getfield 68, 3) := DX8_undo_0 (48, .getfield 68, 3) (List.mem_of_getElem? (i := 26) rfl)
theorem dX8_undo_51 : decode cX8_undo 51 = .ok (.ireturn, 1) := DX8_undo_0 (51, .ireturn, 1) (List.mem_of_getElem? (i := 27) rfl)
abbrev rmX8_undo : Room := { frames := 1, cells := 0, slots := 0, locals := 25 }
set_option maxHeartbeats 400000 in
set_option maxRecDepth 100000 in
theorem met_X8_undo (l : Launch) (D : va_G) (kA : Nat → ClassId) (a : Nat → Nat) (n : Nat) (V0 : Sz) (hDt : ∀ w : Sz, va_D (fun _ => True) (cs_X8 kA a w)) {r : Int} {Vr : Sz} (hf : f_X8_undo n V0 = some (r, Vr)) : MZ l yX8_undo cX8_undo 1 (some .int) rmX8_undo D kA [.ref (a 0)] (cs_X8 kA a V0) (cs_X8 kA a Vr) (some (vI r)) := by
  refine zZI (own := RX8) rfl rfl (Nat.le_of_ble_eq_true rfl) ?_
  intro p e s m args below meth c ls Q hC hK hP hl hret
  have hl : lv_has ls 1 [(0, .ref (a 0))] := hl
  have hS : va_S (zF (cs_X8 kA a V0)) s.heap s.heap [] := va_S.rf
  have hD := zDself (C := fun w : Sz => (cs_X8 kA a w)) hDt V0 (fun _ => rfl)
  try dsimp only at hD
  generalize hAe : zF (cs_X8 kA a V0) = A0 at hS hD hret
  unfold f_X8_undo at hf
  refine lv_aload_n hC.1 hC.2.1 dX8_undo_0 rfl (lv_at hl 0 rfl) <| ziconst hC.1 hC.2.1 dX8_undo_1 <| ?_
  refine pfX8_65 hC hK hP (hD V0) hS (q0 := 0) rfl (Nat.le_of_ble_eq_true rfl) dX8_undo_2 (fun H locs hP hS => ?_)
  obtain ⟨V_1, eV_1⟩ : ∃ y, y = us V0 9 0 := ⟨_, rfl⟩
  have hf := nm_at hf eV_1
  have hP : va_P D vwCl (cs_X8 kA a V_1) H := by rw [eV_1]; exact hP
  refine lv_aload_n hC.1 hC.2.1 dX8_undo_5 rfl (lv_at hl 0 rfl) <| gfX8_68 hC hK hP (q0 := 0) rfl rfl dX8_undo_6 <| ?_
  obtain ⟨hz_2, hf⟩ := ck_some hf
  refine zif_ne (tgt := 14) hC.1 hC.2.1 hz_2 dX8_undo_9 (by decide) (fun hc => ?_) (fun hc => ?_)
  · have hf := it_f hf hc
    refine lv_aload_n hC.1 hC.2.1 dX8_undo_14 rfl (lv_at hl 0 rfl) <| lv_dup hC.1 hC.2.1 dX8_undo_15 rfl <| gfX8_68 hC hK hP (q0 := 0) rfl rfl dX8_undo_16 <| ziconst hC.1 hC.2.1 dX8_undo_19 <| zisub hC.1 hC.2.1 dX8_undo_20 <| ?_
    refine pfX8_68 hC hK hP (hD V_1) hS (q0 := 0) rfl (Nat.le_of_ble_eq_true rfl) dX8_undo_21 (fun H locs hP hS => ?_)
    obtain ⟨V_3, eV_3⟩ : ∃ y, y = us V_1 5 ((V_1 5 0) - 1) := ⟨_, rfl⟩
    have hf := nm_at hf eV_3
    have hP : va_P D vwCl (cs_X8 kA a V_3) H := by rw [eV_3]; exact hP
    refine lv_aload_n hC.1 hC.2.1 dX8_undo_24 rfl (lv_at hl 0 rfl) <| gfX8_22 hC hK hP (q0 := 0) rfl rfl dX8_undo_25 <| zsipush hC.1 hC.2.1 dX8_undo_28 (by decide) <| lv_aload_n hC.1 hC.2.1 dX8_undo_31 rfl (lv_at hl 0 rfl) <| gfX8_68 hC hK hP (q0 := 0) rfl rfl dX8_undo_32 <| zimul hC.1 hC.2.1 dX8_undo_35 <| lv_aload_n hC.1 hC.2.1 dX8_undo_36 rfl (lv_at hl 0 rfl) <| gfX8_7 hC hK hP (q0 := 0) rfl rfl dX8_undo_37 <| ziconst hC.1 hC.2.1 dX8_undo_40 <| zsipush hC.1 hC.2.1 dX8_undo_41 (by decide) <| ?_
    obtain ⟨V_4, hu, hf⟩ := bd_some hf
    have hPc : va_P D vwCl ([((a 5), .inl (kA 0, 12330, .inl (aI (V_3 4))))] ++ ([((a 1), .inl (kA 0, 1233, .inl (aI (V_3 0))))])) _ := hP.sub [5, 1] rfl
    have hDc : ∀ w : (Nat → Int), va_D (fun _ => True) ([((a 5), .inl (kA 0, 12330, .inl (aI (V_3 4))))] ++ ([((a 1), .inl (kA 0, 1233, .inl (aI w)))])) := fun w => (hDt (uy V_3 0 w)).sub [5, 1] (by decide) rfl
    refine zcSZ (As := [.ref (a 5), vI (1233 * (V_3 5 0)), .ref (a 1), vI 0, vI 1233]) (rest := []) hC hK (met_X8_copies l D kA (a 5) (a 1) n 12330 1233 (V_3 4) (V_3 0) (1233 * (V_3 5 0)) 0 1233 (Nat.le_of_ble_eq_true rfl) (Nat.le_of_ble_eq_true rfl) hDc hu) zwX8_71 hS (zFsub (hD V_3) [5, 1] rfl) hPc rfl hl.1 rfl (Nat.le_of_ble_eq_true rfl) ⟨Nat.le_of_ble_eq_true rfl, Nat.le_of_ble_eq_true rfl⟩ ⟨rfl, rfl⟩ ⟨Nat.le_refl _, Nat.le_refl _⟩ dX8_undo_44 (fun H locs hP1 hk1 hS => ?_)
    obtain ⟨V_5, eV_5⟩ : ∃ y, y = uy V_3 0 V_4 := ⟨_, rfl⟩
    have hf := nm_at hf eV_5
    have hP : va_P D vwCl (cs_X8 kA a V_5) H := by rw [eV_5]; exact zjoin hP (hDt V_3) [5, 1] (w0 := ([((a 5), .inl (kA 0, 12330, .inl (aI (V_3 4))))] ++ ([((a 1), .inl (kA 0, 1233, .inl (aI (V_3 0))))]))) rfl (Nat.le_of_ble_eq_true rfl) hk1 hP1
    refine lv_aload_n hC.1 hC.2.1 dX8_undo_47 rfl (lv_at hl 0 rfl) <| gfX8_68 hC hK hP (q0 := 0) rfl rfl dX8_undo_48 <| ?_
    have hf := Option.some.inj hf
    simp only [Prod.mk.injEq] at hf
    exact hret (Int32.ofInt (V_5 5 0)) _ _ _ _ (congrArg (fun z => some (vI z)) hf.1.symm) (by rw [← hf.2]; exact hP) hS dX8_undo_51
  · have hf := it_t hf hc
    refine ziconst hC.1 hC.2.1 dX8_undo_12 <| ?_
    have hf := Option.some.inj hf
    simp only [Prod.mk.injEq] at hf
    exact hret (Int32.ofInt (-1)) _ _ _ _ (congrArg (fun z => some (vI z)) hf.1.symm) (by rw [← hf.2]; exact hP) hS dX8_undo_13
theorem DX8_saveState_0 : ∀ q ∈ ([(0, .aload_n 0, 1), (1, .iconst 0, 1), (2, .putfield 65, 3), (5, .aload_n 0, 1), (6, .getfield 7, 3), (9, .iconst 0, 1), (10, .aload_n 0, 1), (11, .getfield 16, 3), (14, .iconst 0, 1), (15, .sipush 1233, 3), (18, .invokestatic 71, 3), (21, .aload_n 0, 1), (22, .iconst 1, 1), (23, .putfield 258, 3), (26, .aload_n 0, 1), (27, .getfield 7, 3), (30, .iconst 2, 1), (31, .iaload, 1), (32, .ireturn, 1)] : List (Nat × Instr × Nat)), decode cX8_saveState q.1 = .ok q.2 := by decide +kernel
theorem dX8_saveState_0 : decode cX8_saveState 0 = .ok (.aload_n 0, 1) := DX8_saveState_0 (0, .aload_n 0, 1) (List.mem_of_getElem? (i := 0) rfl)
theorem dX8_saveState_1 : decode cX8_saveState 1 = .ok (.iconst 0, 1) := DX8_saveState_0 (1, .iconst 0, 1) (List.mem_of_getElem? (i := 1) rfl)
theorem dX8_saveState_2 : decode cX8_saveState 2 = .ok (.putfield 65, 3) := DX8_saveState_0 (2, .putfield 65, 3) (List.mem_of_getElem? (i := 2) rfl)
theorem dX8_saveState_5 : decode cX8_saveState 5 = .ok (.aload_n 0, 1) := DX8_saveState_0 (5, .aload_n 0, 1) (List.mem_of_getElem? (i := 3) rfl)
theorem dX8_saveState_6 : decode cX8_saveState 6 = .ok (.getfield 7, 3) := DX8_saveState_0 (6, .getfield 7, 3) (List.mem_of_getElem? (i := 4) rfl)
theorem dX8_saveState_9 : decode cX8_saveState 9 = .ok (.iconst 0, 1) := DX8_saveState_0 (9, .iconst 0, 1) (List.mem_of_getElem? (i := 5) rfl)
theorem dX8_saveState_10 : decode cX8_saveState 10 = .ok (.aload_n 0, 1) := DX8_saveState_0 (10, .aload_n 0, 1) (List.mem_of_getElem? (i := 6) rfl)
theorem dX8_saveState_11 : decode cX8_saveState 11 = .ok (.getfield 16, 3) := DX8_saveState_0 (11, .getfield 16, 3) (List.mem_of_getElem? (i := 7) rfl)
theorem dX8_saveState_14 : decode cX8_saveState 14 = .ok (.iconst 0, 1) := DX8_saveState_0 (14, .iconst 0, 1) (List.mem_of_getElem? (i := 8) rfl)
theorem dX8_saveState_15 : decode cX8_saveState 15 = .ok (.sipush 1233, 3) := DX8_saveState_0 (15, .sipush 1233, 3) (List.mem_of_getElem? (i := 9) rfl)
theorem dX8_saveState_18 : decode cX8_saveState 18 = .ok (.invokestatic 71, 3) := DX8_saveState_0 (18, .invokestatic 71, 3) (List.mem_of_getElem? (i := 10) rfl)
theorem dX8_saveState_21 : decode cX8_saveState 21 = .ok (.aload_n 0, 1) := DX8_saveState_0 (21, .aload_n 0, 1) (List.mem_of_getElem? (i := 11) rfl)
theorem dX8_saveState_22 : decode cX8_saveState 22 = .ok (.iconst 1, 1) := DX8_saveState_0 (22, .iconst 1, 1) (List.mem_of_getElem? (i := 12) rfl)
theorem dX8_saveState_23 : decode cX8_saveState 23 = .ok (.putfield 258, 3) := DX8_saveState_0 (23, .putfield 258, 3) (List.mem_of_getElem? (i := 13) rfl)
theorem dX8_saveState_26 : decode cX8_saveState 26 = .ok (.aload_n 0, 1) := DX8_saveState_0 (26, .aload_n 0, 1) (List.mem_of_getElem? (i := 14) rfl)
theorem dX8_saveState_27 : decode cX8_saveState 27 = .ok (.getfield 7, 3) := DX8_saveState_0 (27, .getfield 7, 3) (List.mem_of_getElem? (i := 15) rfl)
theorem dX8_saveState_30 : decode cX8_saveState 30 = .ok (.iconst 2, 1) := DX8_saveState_0 (30, .iconst 2, 1) (List.mem_of_getElem? (i := 16) rfl)
theorem dX8_saveState_31 : decode cX8_saveState 31 = .ok (.iaload, 1) := DX8_saveState_0 (31, .iaload, 1) (List.mem_of_getElem? (i := 17) rfl)
theorem dX8_saveState_32 : decode cX8_saveState 32 = .ok (.ireturn, 1) := DX8_saveState_0 (32, .ireturn, 1) (List.mem_of_getElem? (i := 18) rfl)
abbrev rmX8_saveState : Room := { frames := 1, cells := 0, slots := 0, locals := 25 }
set_option maxHeartbeats 400000 in
set_option maxRecDepth 100000 in
theorem met_X8_saveState (l : Launch) (D : va_G) (kA : Nat → ClassId) (a : Nat → Nat) (n : Nat) (V0 : Sz) (hDt : ∀ w : Sz, va_D (fun _ => True) (cs_X8 kA a w)) {r : Int} {Vr : Sz} (hf : f_X8_saveState n V0 = some (r, Vr)) : MZ l yX8_saveState cX8_saveState 1 (some .int) rmX8_saveState D kA [.ref (a 0)] (cs_X8 kA a V0) (cs_X8 kA a Vr) (some (vI r)) := by
  refine zZI (own := RX8) rfl rfl (Nat.le_of_ble_eq_true rfl) ?_
  intro p e s m args below meth c ls Q hC hK hP hl hret
  have hl : lv_has ls 1 [(0, .ref (a 0))] := hl
  have hS : va_S (zF (cs_X8 kA a V0)) s.heap s.heap [] := va_S.rf
  have hD := zDself (C := fun w : Sz => (cs_X8 kA a w)) hDt V0 (fun _ => rfl)
  try dsimp only at hD
  generalize hAe : zF (cs_X8 kA a V0) = A0 at hS hD hret
  unfold f_X8_saveState at hf
  refine lv_aload_n hC.1 hC.2.1 dX8_saveState_0 rfl (lv_at hl 0 rfl) <| ziconst hC.1 hC.2.1 dX8_saveState_1 <| ?_
  refine pfX8_65 hC hK hP (hD V0) hS (q0 := 0) rfl (Nat.le_of_ble_eq_true rfl) dX8_saveState_2 (fun H locs hP hS => ?_)
  obtain ⟨V_1, eV_1⟩ : ∃ y, y = us V0 9 0 := ⟨_, rfl⟩
  have hf := nm_at hf eV_1
  have hP : va_P D vwCl (cs_X8 kA a V_1) H := by rw [eV_1]; exact hP
  refine lv_aload_n hC.1 hC.2.1 dX8_saveState_5 rfl (lv_at hl 0 rfl) <| gfX8_7 hC hK hP (q0 := 0) rfl rfl dX8_saveState_6 <| ziconst hC.1 hC.2.1 dX8_saveState_9 <| lv_aload_n hC.1 hC.2.1 dX8_saveState_10 rfl (lv_at hl 0 rfl) <| gfX8_16 hC hK hP (q0 := 0) rfl rfl dX8_saveState_11 <| ziconst hC.1 hC.2.1 dX8_saveState_14 <| zsipush hC.1 hC.2.1 dX8_saveState_15 (by decide) <| ?_
  obtain ⟨V_2, hu, hf⟩ := bd_some hf
  have hPc : va_P D vwCl ([((a 1), .inl (kA 0, 1233, .inl (aI (V_1 0))))] ++ ([((a 3), .inl (kA 0, 1233, .inl (aI (V_1 2))))])) _ := hP.sub [1, 3] rfl
  have hDc : ∀ w : (Nat → Int), va_D (fun _ => True) ([((a 1), .inl (kA 0, 1233, .inl (aI (V_1 0))))] ++ ([((a 3), .inl (kA 0, 1233, .inl (aI w)))])) := fun w => (hDt (uy V_1 2 w)).sub [1, 3] (by decide) rfl
  refine zcSZ (As := [.ref (a 1), vI 0, .ref (a 3), vI 0, vI 1233]) (rest := []) hC hK (met_X8_copies l D kA (a 1) (a 3) n 1233 1233 (V_1 0) (V_1 2) 0 0 1233 (Nat.le_of_ble_eq_true rfl) (Nat.le_of_ble_eq_true rfl) hDc hu) zwX8_71 hS (zFsub (hD V_1) [1, 3] rfl) hPc rfl hl.1 rfl (Nat.le_of_ble_eq_true rfl) ⟨Nat.le_of_ble_eq_true rfl, Nat.le_of_ble_eq_true rfl⟩ ⟨rfl, rfl⟩ ⟨Nat.le_refl _, Nat.le_refl _⟩ dX8_saveState_18 (fun H locs hP1 hk1 hS => ?_)
  obtain ⟨V_3, eV_3⟩ : ∃ y, y = uy V_1 2 V_2 := ⟨_, rfl⟩
  have hf := nm_at hf eV_3
  have hP : va_P D vwCl (cs_X8 kA a V_3) H := by rw [eV_3]; exact zjoin hP (hDt V_1) [1, 3] (w0 := ([((a 1), .inl (kA 0, 1233, .inl (aI (V_1 0))))] ++ ([((a 3), .inl (kA 0, 1233, .inl (aI (V_1 2))))]))) rfl (Nat.le_of_ble_eq_true rfl) hk1 hP1
  refine lv_aload_n hC.1 hC.2.1 dX8_saveState_21 rfl (lv_at hl 0 rfl) <| ziconst hC.1 hC.2.1 dX8_saveState_22 <| ?_
  refine pfX8_258 hC hK hP (hD V_3) hS (q0 := 0) rfl (Nat.le_of_ble_eq_true rfl) (Or.inr rfl) dX8_saveState_23 (fun H locs hP hS => ?_)
  obtain ⟨V_4, eV_4⟩ : ∃ y, y = us V_3 6 1 := ⟨_, rfl⟩
  have hf := nm_at hf eV_4
  have hP : va_P D vwCl (cs_X8 kA a V_4) H := by rw [eV_4]; exact hP
  refine lv_aload_n hC.1 hC.2.1 dX8_saveState_26 rfl (lv_at hl 0 rfl) <| gfX8_7 hC hK hP (q0 := 0) rfl rfl dX8_saveState_27 <| ziconst hC.1 hC.2.1 dX8_saveState_30 <| jal hC hK hP (q0 := 1) rfl (Nat.le_of_ble_eq_true rfl) (by decide) rfl dX8_saveState_31 <| ?_
  have hf := Option.some.inj hf
  simp only [Prod.mk.injEq] at hf
  exact hret (Int32.ofInt (V_4 0 2)) _ _ _ _ (congrArg (fun z => some (vI z)) hf.1.symm) (by rw [← hf.2]; exact hP) hS dX8_saveState_32
theorem DX8_restoreState_0 : ∀ q ∈ ([(0, .aload_n 0, 1), (1, .iconst 0, 1), (2, .putfield 65, 3), (5, .aload_n 0, 1), (6, .aload_n 0, 1), (7, .getfield 258, 3), (10, .ifCond .ne 7, 3), (13, .iconst 1, 1), (14, .goto 4, 3), (17, .iconst 0, 1), (18, .iconst 1, 1), (19, .invokevirtual 261, 3), (22, .ifCond .eq 5, 3), (25, .iconst 0, 1), (26, .ireturn, 1), (27, .aload_n 0, 1), (28, .getfield 16, 3), (31, .iconst 0, 1), (32, .aload_n 0, 1), (33, .getfield 7, 3), (36, .iconst 0, 1), (37, .sipush 1233, 3), (40, .invokestatic 71, 3), (43, .aload_n 0, 1), (44, .iconst 0, 1), (45, .putfield 68, 3), (48, .aload_n 0, 1), (49, .getfield 7, 3), (52, .iconst 2, 1), (53, .iaload, 1), (54, .ireturn, 1)] : List (Nat × Instr × Nat)), decode cX8_restoreState q.1 = .ok q.2 := by decide +kernel
theorem dX8_restoreState_0 : decode cX8_restoreState 0 = .ok (.aload_n 0, 1) := DX8_restoreState_0 (0, .aload_n 0, 1) (List.mem_of_getElem? (i := 0) rfl)
theorem dX8_restoreState_1 : decode cX8_restoreState 1 = .ok (.iconst 0, 1) := DX8_restoreState_0 (1, .iconst 0, 1) (List.mem_of_getElem? (i := 1) rfl)
theorem dX8_restoreState_2 : decode cX8_restoreState 2 = .ok (.putfield 65, 3) := DX8_restoreState_0 (2, .putfield 65, 3) (List.mem_of_getElem? (i := 2) rfl)
theorem dX8_restoreState_5 : decode cX8_restoreState 5 = .ok (.aload_n 0, 1) := DX8_restoreState_0 (5, .aload_n 0, 1) (List.mem_of_getElem? (i := 3) rfl)
theorem dX8_restoreState_6 : decode cX8_restoreState 6 = .ok (.aload_n 0, 1) := DX8_restoreState_0 (6, .aload_n 0, 1) (List.mem_of_getElem? (i := 4) rfl)
theorem dX8_restoreState_7 : decode cX8_restoreState 7 = .ok (.getfield 258, 3) := DX8_restoreState_0 (7, .getfield 258, 3) (List.mem_of_getElem? (i := 5) rfl)
theorem dX8_restoreState_10 : decode cX8_restoreState 10 = .ok (.ifCond .ne 7, 3) := DX8_restoreState_0 (10, .ifCond .ne 7, 3) (List.mem_of_getElem? (i := 6) rfl)
theorem dX8_restoreState_13 : decode cX8_restoreState 13 = .ok (.iconst 1, 1) := DX8_restoreState_0 (13, .iconst 1, 1) (List.mem_of_getElem? (i := 7) rfl)
theorem dX8_restoreState_14 : decode cX8_restoreState 14 = .ok (.goto 4, 3) := DX8_restoreState_0 (14, .goto 4, 3) (List.mem_of_getElem? (i := 8) rfl)
theorem dX8_restoreState_17 : decode cX8_restoreState 17 = .ok (.iconst 0, 1) := DX8_restoreState_0 (17, .iconst 0, 1) (List.mem_of_getElem? (i := 9) rfl)
theorem dX8_restoreState_18 : decode cX8_restoreState 18 = .ok (.iconst 1, 1) := DX8_restoreState_0 (18, .iconst 1, 1) (List.mem_of_getElem? (i := 10) rfl)
theorem dX8_restoreState_19 : decode cX8_restoreState 19 = .ok (.invokevirtual 261, 3) := DX8_restoreState_0 (19, .invokevirtual 261, 3) (List.mem_of_getElem? (i := 11) rfl)
theorem dX8_restoreState_22 : decode cX8_restoreState 22 = .ok (.ifCond .eq 5, 3) := DX8_restoreState_0 (22, .ifCond .eq 5, 3) (List.mem_of_getElem? (i := 12) rfl)
theorem dX8_restoreState_25 : decode cX8_restoreState 25 = .ok (.iconst 0, 1) := DX8_restoreState_0 (25, .iconst 0, 1) (List.mem_of_getElem? (i := 13) rfl)
theorem dX8_restoreState_26 : decode cX8_restoreState 26 = .ok (.ireturn, 1) := DX8_restoreState_0 (26, .ireturn, 1) (List.mem_of_getElem? (i := 14) rfl)
theorem dX8_restoreState_27 : decode cX8_restoreState 27 = .ok (.aload_n 0, 1) := DX8_restoreState_0 (27, .aload_n 0, 1) (List.mem_of_getElem? (i := 15) rfl)
theorem dX8_restoreState_28 : decode cX8_restoreState 28 = .ok (.getfield 16, 3) := DX8_restoreState_0 (28, .getfield 16, 3) (List.mem_of_getElem? (i := 16) rfl)
theorem dX8_restoreState_31 : decode cX8_restoreState 31 = .ok (.iconst 0, 1) := DX8_restoreState_0 (31, .iconst 0, 1) (List.mem_of_getElem? (i := 17) rfl)
theorem dX8_restoreState_32 : decode cX8_restoreState 32 = .ok (.aload_n 0, 1) := DX8_restoreState_0 (32, .aload_n 0, 1) (List.mem_of_getElem? (i := 18) rfl)
theorem dX8_restoreState_33 : decode cX8_restoreState 33 = .ok (.getfield 7, 3) := DX8_restoreState_0 (33, .getfield 7, 3) (List.mem_of_getElem? (i := 19) rfl)
theorem dX8_restoreState_36 : decode cX8_restoreState 36 = .ok (.iconst 0, 1) := DX8_restoreState_0 (36, .iconst 0, 1) (List.mem_of_getElem? (i := 20) rfl)
theorem dX8_restoreState_37 : decode cX8_restoreState 37 = .ok (.sipush 1233, 3) := DX8_restoreState_0 (37, .sipush 1233, 3) (List.mem_of_getElem? (i := 21) rfl)
theorem dX8_restoreState_40 : decode cX8_restoreState 40 = .ok (.invokestatic 71, 3) := DX8_restoreState_0 (40, .invokestatic 71, 3) (List.mem_of_getElem? (i := 22) rfl)
theorem dX8_restoreState_43 : decode cX8_restoreState 43 = .ok (.aload_n 0, 1) := DX8_restoreState_0 (43, .aload_n 0, 1) (List.mem_of_getElem? (i := 23) rfl)
theorem dX8_restoreState_44 : decode cX8_restoreState 44 = .ok (.iconst 0, 1) := DX8_restoreState_0 (44, .iconst 0, 1) (List.mem_of_getElem? (i := 24) rfl)
theorem dX8_restoreState_45 : decode cX8_restoreState 45 = .ok (.putfield 68, 3) := DX8_restoreState_0 (45, .putfield 68, 3) (List.mem_of_getElem? (i := 25) rfl)
theorem dX8_restoreState_48 : decode cX8_restoreState 48 = .ok (.aload_n 0, 1) := DX8_restoreState_0 (48, .aload_n 0, 1) (List.mem_of_getElem? (i := 26) rfl)
theorem dX8_restoreState_49 : decode cX8_restoreState 49 = .ok (.getfield 7, 3) := DX8_restoreState_0 (49, .getfield 7, 3) (List.mem_of_getElem? (i := 27) rfl)
theorem dX8_restoreState_52 : decode cX8_restoreState 52 = .ok (.iconst 2, 1) := DX8_restoreState_0 (52, .iconst 2, 1) (List.mem_of_getElem? (i := 28) rfl)
theorem dX8_restoreState_53 : decode cX8_restoreState 53 = .ok (.iaload, 1) := DX8_restoreState_0 (53, .iaload, 1) (List.mem_of_getElem? (i := 29) rfl)
theorem dX8_restoreState_54 : decode cX8_restoreState 54 = .ok (.ireturn, 1) := DX8_restoreState_0 (54, .ireturn, 1) (List.mem_of_getElem? (i := 30) rfl)
abbrev rmX8_restoreState : Room := { frames := 1, cells := 0, slots := 0, locals := 25 }
set_option maxHeartbeats 400000 in
set_option maxRecDepth 100000 in
theorem met_X8_restoreState (l : Launch) (D : va_G) (kA : Nat → ClassId) (a : Nat → Nat) (n : Nat) (V0 : Sz) (hDt : ∀ w : Sz, va_D (fun _ => True) (cs_X8 kA a w)) {r : Int} {Vr : Sz} (hf : f_X8_restoreState n V0 = some (r, Vr)) : MZ l yX8_restoreState cX8_restoreState 1 (some .int) rmX8_restoreState D kA [.ref (a 0)] (cs_X8 kA a V0) (cs_X8 kA a Vr) (some (vI r)) := by
  refine zZI (own := RX8) rfl rfl (Nat.le_of_ble_eq_true rfl) ?_
  intro p e s m args below meth c ls Q hC hK hP hl hret
  have hl : lv_has ls 1 [(0, .ref (a 0))] := hl
  have hS : va_S (zF (cs_X8 kA a V0)) s.heap s.heap [] := va_S.rf
  have hD := zDself (C := fun w : Sz => (cs_X8 kA a w)) hDt V0 (fun _ => rfl)
  try dsimp only at hD
  generalize hAe : zF (cs_X8 kA a V0) = A0 at hS hD hret
  unfold f_X8_restoreState at hf
  have J18 : ∀ (V : Sz) (z0 : Int) (H : Heap) (locs : List Loc) (ls : Array Slot), jX8_restoreState_18 n V z0 = some (r, Vr) → va_P D vwCl (cs_X8 kA a V) H → va_S A0 s.heap H locs → lv_has ls 1 [(0, .ref (a 0))] → W p l e rmX8_restoreState s m args below meth c H locs 0 0 Q (F0 m 18 ls [vI z0, .ref (a 0)]) := by
    intro V z0 H locs ls hf hP hS hl
    unfold jX8_restoreState_18 at hf
    refine ziconst hC.1 hC.2.1 dX8_restoreState_18 <| ?_
    obtain ⟨⟨r_3, V_4⟩, hu, hf⟩ := bd_some hf
    have hDc := hDt
    refine zcVZ (As := [vI z0, vI 1]) (rest := []) hC hK (met_X8_fails l D kA a V z0 1 hDc hu) zwX8_261 hS (zFsub (hD V) [0, 1, 2, 3, 4, 5, 6, 7, 8, 9, 10, 11, 12, 13, 14, 15, 16] rfl) hP (q0 := 0) rfl rfl rfl rfl hl.1 rfl (Nat.le_of_ble_eq_true rfl) ⟨Nat.le_of_ble_eq_true rfl, Nat.le_of_ble_eq_true rfl⟩ ⟨rfl, rfl⟩ ⟨Nat.le_refl _, Nat.le_refl _⟩ dX8_restoreState_19 (fun H locs hP1 hk1 hS => ?_)
    have hP : va_P D vwCl (cs_X8 kA a V_4) H := hP1
    refine zifb_eq (tgt := 27) hC.1 hC.2.1 dX8_restoreState_22 (by decide) (fun hc => ?_) (fun hc => ?_)
    · have hf := it_t hf hc
      refine lv_aload_n hC.1 hC.2.1 dX8_restoreState_27 rfl (lv_at hl 0 rfl) <| gfX8_16 hC hK hP (q0 := 0) rfl rfl dX8_restoreState_28 <| ziconst hC.1 hC.2.1 dX8_restoreState_31 <| lv_aload_n hC.1 hC.2.1 dX8_restoreState_32 rfl (lv_at hl 0 rfl) <| gfX8_7 hC hK hP (q0 := 0) rfl rfl dX8_restoreState_33 <| ziconst hC.1 hC.2.1 dX8_restoreState_36 <| zsipush hC.1 hC.2.1 dX8_restoreState_37 (by decide) <| ?_
      obtain ⟨V_5, hu, hf⟩ := bd_some hf
      have hPc : va_P D vwCl ([((a 3), .inl (kA 0, 1233, .inl (aI (V_4 2))))] ++ ([((a 1), .inl (kA 0, 1233, .inl (aI (V_4 0))))])) _ := hP.sub [3, 1] rfl
      have hDc : ∀ w : (Nat → Int), va_D (fun _ => True) ([((a 3), .inl (kA 0, 1233, .inl (aI (V_4 2))))] ++ ([((a 1), .inl (kA 0, 1233, .inl (aI w)))])) := fun w => (hDt (uy V_4 0 w)).sub [3, 1] (by decide) rfl
      refine zcSZ (As := [.ref (a 3), vI 0, .ref (a 1), vI 0, vI 1233]) (rest := []) hC hK (met_X8_copies l D kA (a 3) (a 1) n 1233 1233 (V_4 2) (V_4 0) 0 0 1233 (Nat.le_of_ble_eq_true rfl) (Nat.le_of_ble_eq_true rfl) hDc hu) zwX8_71 hS (zFsub (hD V_4) [3, 1] rfl) hPc rfl hl.1 rfl (Nat.le_of_ble_eq_true rfl) ⟨Nat.le_of_ble_eq_true rfl, Nat.le_of_ble_eq_true rfl⟩ ⟨rfl, rfl⟩ ⟨Nat.le_refl _, Nat.le_refl _⟩ dX8_restoreState_40 (fun H locs hP1 hk1 hS => ?_)
      obtain ⟨V_6, eV_6⟩ : ∃ y, y = uy V_4 0 V_5 := ⟨_, rfl⟩
      have hf := nm_at hf eV_6
      have hP : va_P D vwCl (cs_X8 kA a V_6) H := by rw [eV_6]; exact zjoin hP (hDt V_4) [3, 1] (w0 := ([((a 3), .inl (kA 0, 1233, .inl (aI (V_4 2))))] ++ ([((a 1), .inl (kA 0, 1233, .inl (aI (V_4 0))))]))) rfl (Nat.le_of_ble_eq_true rfl) hk1 hP1
      refine lv_aload_n hC.1 hC.2.1 dX8_restoreState_43 rfl (lv_at hl 0 rfl) <| ziconst hC.1 hC.2.1 dX8_restoreState_44 <| ?_
      refine pfX8_68 hC hK hP (hD V_6) hS (q0 := 0) rfl (Nat.le_of_ble_eq_true rfl) dX8_restoreState_45 (fun H locs hP hS => ?_)
      obtain ⟨V_7, eV_7⟩ : ∃ y, y = us V_6 5 0 := ⟨_, rfl⟩
      have hf := nm_at hf eV_7
      have hP : va_P D vwCl (cs_X8 kA a V_7) H := by rw [eV_7]; exact hP
      refine lv_aload_n hC.1 hC.2.1 dX8_restoreState_48 rfl (lv_at hl 0 rfl) <| gfX8_7 hC hK hP (q0 := 0) rfl rfl dX8_restoreState_49 <| ziconst hC.1 hC.2.1 dX8_restoreState_52 <| jal hC hK hP (q0 := 1) rfl (Nat.le_of_ble_eq_true rfl) (by decide) rfl dX8_restoreState_53 <| ?_
      have hf := Option.some.inj hf
      simp only [Prod.mk.injEq] at hf
      exact hret (Int32.ofInt (V_7 0 2)) _ _ _ _ (congrArg (fun z => some (vI z)) hf.1.symm) (by rw [← hf.2]; exact hP) hS dX8_restoreState_54
    · have hf := it_f hf hc
      refine ziconst hC.1 hC.2.1 dX8_restoreState_25 <| ?_
      have hf := Option.some.inj hf
      simp only [Prod.mk.injEq] at hf
      exact hret (Int32.ofInt 0) _ _ _ _ (congrArg (fun z => some (vI z)) hf.1.symm) (by rw [← hf.2]; exact hP) hS dX8_restoreState_26
  refine lv_aload_n hC.1 hC.2.1 dX8_restoreState_0 rfl (lv_at hl 0 rfl) <| ziconst hC.1 hC.2.1 dX8_restoreState_1 <| ?_
  refine pfX8_65 hC hK hP (hD V0) hS (q0 := 0) rfl (Nat.le_of_ble_eq_true rfl) dX8_restoreState_2 (fun H locs hP hS => ?_)
  obtain ⟨V_1, eV_1⟩ : ∃ y, y = us V0 9 0 := ⟨_, rfl⟩
  have hf := nm_at hf eV_1
  have hP : va_P D vwCl (cs_X8 kA a V_1) H := by rw [eV_1]; exact hP
  refine lv_aload_n hC.1 hC.2.1 dX8_restoreState_5 rfl (lv_at hl 0 rfl) <| lv_aload_n hC.1 hC.2.1 dX8_restoreState_6 rfl (lv_at hl 0 rfl) <| gfX8_258 hC hK hP (q0 := 0) rfl rfl dX8_restoreState_7 <| ?_
  obtain ⟨hz_2, hf⟩ := ck_some hf
  refine zif_ne (tgt := 17) hC.1 hC.2.1 hz_2 dX8_restoreState_10 (by decide) (fun hc => ?_) (fun hc => ?_)
  · have hf := it_f hf hc
    exact ziconst hC.1 hC.2.1 dX8_restoreState_17 <| J18 _ _ _ _ _ hf hP hS (lv_sub hl [0] rfl)
  · have hf := it_t hf hc
    exact ziconst hC.1 hC.2.1 dX8_restoreState_13 <| lv_goto (tgt := 18) hC.1 hC.2.1 dX8_restoreState_14 (by decide) <| J18 _ _ _ _ _ hf hP hS (lv_sub hl [0] rfl)
