def cs_X3 (kA : Nat → ClassId) (a : Nat → Nat) (V : Sz) : va_W := [(a 0, .inr (3, [vI (V 0 0), .ref (a 1), .ref (a 2), .ref (a 3), .ref (a 4), .ref (a 5), .ref (a 6), .ref (a 7), .ref (a 8), .ref (a 9), .ref (a 10), .ref (a 11)])), (a 1, .inl (kA 0, 60, .inl (aI (V 1)))), (a 2, .inl (kA 0, 60, .inl (aI (V 2)))), (a 3, .inl (kA 0, 60, .inl (aI (V 3)))), (a 4, .inl (kA 0, 60, .inl (aI (V 4)))), (a 5, .inl (kA 0, 60, .inl (aI (V 5)))), (a 6, .inl (kA 0, 60, .inl (aI (V 6)))), (a 7, .inl (kA 0, 180, .inl (aI (V 7)))), (a 8, .inl (kA 0, 180, .inl (aI (V 8)))), (a 9, .inl (kA 0, 180, .inl (aI (V 9)))), (a 10, .inl (kA 0, 180, .inl (aI (V 10)))), (a 11, .inl (kA 0, 180, .inl (aI (V 11))))]
def f_X3_become (V0 : Sz) (G : Sz) : Option (Sz) := nm (us V0 0 (G 0 0)) fun (V_1 : Sz) => bd (f_X7_copyRow 60 60 (G 1) (V_1 1)) fun (V_2 : (Nat → Int)) => nm (uy V_1 1 V_2) fun (V_3 : Sz) => bd (f_X7_copyRow 60 60 (G 2) (V_3 2)) fun (V_4 : (Nat → Int)) => nm (uy V_3 2 V_4) fun (V_5 : Sz) => bd (f_X7_copyRow 60 60 (G 3) (V_5 3)) fun (V_6 : (Nat → Int)) => nm (uy V_5 3 V_6) fun (V_7 : Sz) => bd (f_X7_copyRow 60 60 (G 4) (V_7 4)) fun (V_8 : (Nat → Int)) => nm (uy V_7 4 V_8) fun (V_9 : Sz) => bd (f_X7_copyRow 60 60 (G 5) (V_9 5)) fun (V_10 : (Nat → Int)) => nm (uy V_9 5 V_10) fun (V_11 : Sz) => bd (f_X7_copyRow 60 60 (G 6) (V_11 6)) fun (V_12 : (Nat → Int)) => nm (uy V_11 6 V_12) fun (V_13 : Sz) => bd (f_X7_copyRow 180 180 (G 7) (V_13 7)) fun (V_14 : (Nat → Int)) => nm (uy V_13 7 V_14) fun (V_15 : Sz) => bd (f_X7_copyRow 180 180 (G 8) (V_15 8)) fun (V_16 : (Nat → Int)) => nm (uy V_15 8 V_16) fun (V_17 : Sz) => bd (f_X7_copyRow 180 180 (G 9) (V_17 9)) fun (V_18 : (Nat → Int)) => nm (uy V_17 9 V_18) fun (V_19 : Sz) => bd (f_X7_copyRow 180 180 (G 10) (V_19 10)) fun (V_20 : (Nat → Int)) => nm (uy V_19 10 V_20) fun (V_21 : Sz) => bd (f_X7_copyRow 180 180 (G 11) (V_21 11)) fun (V_22 : (Nat → Int)) => nm (uy V_21 11 V_22) fun (V_23 : Sz) => some V_23
def f_X3_isFull (V : Sz) : Option (Bool) := ck (rng (V 0 0)) <| if V 0 0 < 60 then (some false) else (some true)
def jX3_add_104 (n : Nat) (x1 : Int) (x2 : Int) (x3 : Int) (y4 : Int) (y5 : Int) (V : Sz) : Option (Int × Sz) := ck (inZ y5 60) <| nm (uz V 6 y5.toNat y4) fun (V_11 : Sz) => nm (us V_11 0 ((V_11 0 0) + 1)) fun (V_12 : Sz) => some (y4, V_12)
def bX3_add_59 (n : Nat) (x1 : Int) (x2 : Int) (x3 : Int) (rec59 : Int × Int × Sz → Option (Int × Sz)) : Int × Int × Sz → Option (Int × Sz) := fun (y4, y5, V) => ck (rng y5) <| if y5 ≤ 0 then (jX3_add_104 n x1 x2 x3 y4 y5 V) else (ck (inZ (y5 - 1) 60) <| ck (inZ (V 6 (y5 - 1).toNat) 60) <| ck (rng (V 1 (V 6 (y5 - 1).toNat).toNat) ∧ rng x1) <| if V 1 (V 6 (y5 - 1).toNat).toNat ≤ x1 then (jX3_add_104 n x1 x2 x3 y4 y5 V) else (ck (inZ y5 60) <| nm (uz V 6 y5.toNat (V 6 (y5 - 1).toNat)) fun (V_17 : Sz) => nm (y5 + (-1)) fun (x_18 : Int) => rec59 (y4, x_18, V_17)))
theorem bX3_add_59_e (n : Nat) (x1 : Int) (x2 : Int) (x3 : Int) (rec59 : Int × Int × Sz → Option (Int × Sz)) (y4 : Int) (y5 : Int) (V : Sz) : bX3_add_59 n x1 x2 x3 rec59 (y4, y5, V) = (ck (rng y5) <| if y5 ≤ 0 then (jX3_add_104 n x1 x2 x3 y4 y5 V) else (ck (inZ (y5 - 1) 60) <| ck (inZ (V 6 (y5 - 1).toNat) 60) <| ck (rng (V 1 (V 6 (y5 - 1).toNat).toNat) ∧ rng x1) <| if V 1 (V 6 (y5 - 1).toNat).toNat ≤ x1 then (jX3_add_104 n x1 x2 x3 y4 y5 V) else (ck (inZ y5 60) <| nm (uz V 6 y5.toNat (V 6 (y5 - 1).toNat)) fun (V_17 : Sz) => nm (y5 + (-1)) fun (x_18 : Int) => rec59 (y4, x_18, V_17)))) := rfl
def f_X3_add (n : Nat) (V0 : Sz) (x1 : Int) (x2 : Int) (x3 : Int) : Option (Int × Sz) := bd (f_X3_isFull V0) fun (r_1 : Bool) => if r_1 = false then (nm (V0 0 0) fun (x_2 : Int) => ck (inZ x_2 60) <| nm (uz V0 1 x_2.toNat x1) fun (V_4 : Sz) => nm (uz V_4 2 x_2.toNat x2) fun (V_5 : Sz) => nm (uz V_5 3 x_2.toNat x3) fun (V_6 : Sz) => nm (uz V_6 4 x_2.toNat 0) fun (V_7 : Sz) => nm (uz V_7 5 x_2.toNat 0) fun (V_8 : Sz) => lpF (bX3_add_59 n x1 x2 x3) n (x_2, x_2, V_8)) else (some ((-1), V0))
def bX3_shareOut_115 (n : Nat) (x1 : Int) (rec115 : Int × Int × Int × Sz → Option (Sz)) : Int × Int × Int × Sz → Option (Sz) := fun (y2, y4, y5, V) => ck (inZ x1 60) <| ck (rng y5 ∧ rng (V 5 x1.toNat)) <| if V 5 x1.toNat ≤ y5 then (some V) else (ck (rng y4) <| if y4 ≤ y5 then (some V) else (ck (inZ (y2 + y5) 180) <| nm (uz V 9 (y2 + y5).toNat ((V 9 (y2 + y5).toNat) + 1)) fun (V_12 : Sz) => nm (y5 + 1) fun (x_13 : Int) => rec115 (y2, y4, x_13, V_12)))
theorem bX3_shareOut_115_e (n : Nat) (x1 : Int) (rec115 : Int × Int × Int × Sz → Option (Sz)) (y2 : Int) (y4 : Int) (y5 : Int) (V : Sz) : bX3_shareOut_115 n x1 rec115 (y2, y4, y5, V) = (ck (inZ x1 60) <| ck (rng y5 ∧ rng (V 5 x1.toNat)) <| if V 5 x1.toNat ≤ y5 then (some V) else (ck (rng y4) <| if y4 ≤ y5 then (some V) else (ck (inZ (y2 + y5) 180) <| nm (uz V 9 (y2 + y5).toNat ((V 9 (y2 + y5).toNat) + 1)) fun (V_12 : Sz) => nm (y5 + 1) fun (x_13 : Int) => rec115 (y2, y4, x_13, V_12)))) := rfl
def bX3_shareOut_54 (n : Nat) (x1 : Int) (rec54 : Int × Int × Int × Int × Sz → Option (Sz)) : Int × Int × Int × Int × Sz → Option (Sz) := fun (y2, y3, y4, y5, V) => ck (inZ x1 60) <| ck (rng y5 ∧ rng (V 5 x1.toNat)) <| if V 5 x1.toNat ≤ y5 then (lpF (bX3_shareOut_115 n x1) n (y2, y4, 0, V)) else (ck (inZ (y2 + y5) 180) <| ck (dvI ((V 2 x1.toNat) * (V 8 (y2 + y5).toNat)) y3) <| nm (uz V 9 (y2 + y5).toNat (((V 2 x1.toNat) * (V 8 (y2 + y5).toNat)) / y3)) fun (V_16 : Sz) => nm (y4 - (V_16 9 (y2 + y5).toNat)) fun (x_17 : Int) => nm (y5 + 1) fun (x_18 : Int) => rec54 (y2, y3, x_17, x_18, V_16))
theorem bX3_shareOut_54_e (n : Nat) (x1 : Int) (rec54 : Int × Int × Int × Int × Sz → Option (Sz)) (y2 : Int) (y3 : Int) (y4 : Int) (y5 : Int) (V : Sz) : bX3_shareOut_54 n x1 rec54 (y2, y3, y4, y5, V) = (ck (inZ x1 60) <| ck (rng y5 ∧ rng (V 5 x1.toNat)) <| if V 5 x1.toNat ≤ y5 then (lpF (bX3_shareOut_115 n x1) n (y2, y4, 0, V)) else (ck (inZ (y2 + y5) 180) <| ck (dvI ((V 2 x1.toNat) * (V 8 (y2 + y5).toNat)) y3) <| nm (uz V 9 (y2 + y5).toNat (((V 2 x1.toNat) * (V 8 (y2 + y5).toNat)) / y3)) fun (V_16 : Sz) => nm (y4 - (V_16 9 (y2 + y5).toNat)) fun (x_17 : Int) => nm (y5 + 1) fun (x_18 : Int) => rec54 (y2, y3, x_17, x_18, V_16))) := rfl
def bX3_shareOut_9 (n : Nat) (x1 : Int) (rec9 : Int × Int × Int × Sz → Option (Sz)) : Int × Int × Int × Sz → Option (Sz) := fun (y2, y3, y4, V) => ck (inZ x1 60) <| ck (rng y4 ∧ rng (V 5 x1.toNat)) <| if V 5 x1.toNat ≤ y4 then (ck (rng y3) <| if 0 < y3 then (nm (V 2 x1.toNat) fun (x_5 : Int) => lpF (bX3_shareOut_54 n x1) n (y2, y3, x_5, 0, V)) else (some V)) else (ck (inZ (y2 + y4) 180) <| nm (y3 + (V 8 (y2 + y4).toNat)) fun (x_20 : Int) => nm (y4 + 1) fun (x_21 : Int) => rec9 (y2, x_20, x_21, V))
theorem bX3_shareOut_9_e (n : Nat) (x1 : Int) (rec9 : Int × Int × Int × Sz → Option (Sz)) (y2 : Int) (y3 : Int) (y4 : Int) (V : Sz) : bX3_shareOut_9 n x1 rec9 (y2, y3, y4, V) = (ck (inZ x1 60) <| ck (rng y4 ∧ rng (V 5 x1.toNat)) <| if V 5 x1.toNat ≤ y4 then (ck (rng y3) <| if 0 < y3 then (nm (V 2 x1.toNat) fun (x_5 : Int) => lpF (bX3_shareOut_54 n x1) n (y2, y3, x_5, 0, V)) else (some V)) else (ck (inZ (y2 + y4) 180) <| nm (y3 + (V 8 (y2 + y4).toNat)) fun (x_20 : Int) => nm (y4 + 1) fun (x_21 : Int) => rec9 (y2, x_20, x_21, V))) := rfl
def f_X3_shareOut (n : Nat) (V0 : Sz) (x1 : Int) : Option (Sz) := nm (x1 * 3) fun (x_1 : Int) => lpF (bX3_shareOut_9 n x1) n (x_1, 0, 0, V0)
def f_X3_addPart (n : Nat) (V0 : Sz) (x1 : Int) (x2 : Int) (x3 : Int) : Option (Sz) := ck (rng x1) <| if x1 < 0 then (some V0) else (ck (rng (V0 0 0)) <| if V0 0 0 ≤ x1 then (some V0) else (ck (inZ x1 60) <| ck (rng (V0 5 x1.toNat)) <| if V0 5 x1.toNat < 3 then (nm ((x1 * 3) + (V0 5 x1.toNat)) fun (x_5 : Int) => ck (inZ x_5 180) <| nm (uz V0 7 x_5.toNat x2) fun (V_7 : Sz) => nm (uz V_7 8 x_5.toNat x3) fun (V_8 : Sz) => nm (uz V_8 10 x_5.toNat 0) fun (V_9 : Sz) => nm (uz V_9 11 x_5.toNat 0) fun (V_10 : Sz) => nm (uz V_10 5 x1.toNat ((V_10 5 x1.toNat) + 1)) fun (V_11 : Sz) => bd (f_X3_shareOut n V_11 x1) fun (V_12 : Sz) => some V_12) else (some V0)))
def f_X3_divide (n : Nat) (V0 : Sz) (x1 : Int) (x2 : Int) (x3 : Int) (x4 : Int) : Option (Sz) := ck (inZ (x1 * 3) 180) <| nm (uz V0 8 (x1 * 3).toNat x2) fun (V_2 : Sz) => bd (f_X3_addPart n V_2 x1 x3 x4) fun (V_3 : Sz) => some V_3
def f_X3_leftOfPart (V : Sz) (x1 : Int) : Option (Int) := ck (inZ x1 180) <| some ((V 9 x1.toNat) - (V 10 x1.toNat))
def bX3_takeBack_22 (n : Nat) (x1 : Int) (x2 : Int) (rec22 : Int × Int × Sz → Option (Sz)) : Int × Int × Sz → Option (Sz) := fun (y3, y4, V) => ck (rng y4) <| if y4 < 0 then (some V) else (nm ((x1 * 3) + y4) fun (x_5 : Int) => bd (f_X3_leftOfPart V x_5) fun (r_6 : Int) => ck (rng y3 ∧ rng r_6) <| nm (min y3 r_6) fun (x_8 : Int) => ck (inZ x_5 180) <| nm (uz V 10 x_5.toNat ((V 10 x_5.toNat) + x_8)) fun (V_10 : Sz) => nm (y3 - x_8) fun (x_11 : Int) => nm (y4 + (-1)) fun (x_12 : Int) => rec22 (x_11, x_12, V_10))
theorem bX3_takeBack_22_e (n : Nat) (x1 : Int) (x2 : Int) (rec22 : Int × Int × Sz → Option (Sz)) (y3 : Int) (y4 : Int) (V : Sz) : bX3_takeBack_22 n x1 x2 rec22 (y3, y4, V) = (ck (rng y4) <| if y4 < 0 then (some V) else (nm ((x1 * 3) + y4) fun (x_5 : Int) => bd (f_X3_leftOfPart V x_5) fun (r_6 : Int) => ck (rng y3 ∧ rng r_6) <| nm (min y3 r_6) fun (x_8 : Int) => ck (inZ x_5 180) <| nm (uz V 10 x_5.toNat ((V 10 x_5.toNat) + x_8)) fun (V_10 : Sz) => nm (y3 - x_8) fun (x_11 : Int) => nm (y4 + (-1)) fun (x_12 : Int) => rec22 (x_11, x_12, V_10))) := rfl
def f_X3_takeBack (n : Nat) (V0 : Sz) (x1 : Int) (x2 : Int) : Option (Sz) := ck (inZ x1 60) <| nm (uz V0 4 x1.toNat ((V0 4 x1.toNat) + x2)) fun (V_2 : Sz) => nm ((V_2 5 x1.toNat) - 1) fun (x_3 : Int) => lpF (bX3_takeBack_22 n x1 x2) n (x2, x_3, V_2)
def f_X3_isWhole (V : Sz) (x1 : Int) : Option (Bool) := ck (inZ x1 60) <| ck (rng (V 5 x1.toNat)) <| if V 5 x1.toNat = 1 then (ck (rng (V 4 x1.toNat)) <| if V 4 x1.toNat = 0 then (ck (inZ (x1 * 3) 180) <| ck (rng (V 11 (x1 * 3).toNat)) <| if V 11 (x1 * 3).toNat = 0 then (some true) else (some false)) else (some false)) else (some false)
def f_X3_isAllOf (V : Sz) (x1 : Int) (x2 : Int) : Option (Bool) := ck (inZ x1 60) <| ck (rng (V 5 x1.toNat)) <| if V 5 x1.toNat = 1 then (ck (inZ (x1 * 3) 180) <| ck (rng (V 7 (x1 * 3).toNat) ∧ rng x2) <| if V 7 (x1 * 3).toNat = x2 then (some true) else (some false)) else (some false)
def bX3_hasDonor_2 (n : Nat) (V : Sz) (x1 : Int) (x2 : Int) (rec2 : Int → Option (Bool)) : Int → Option (Bool) := fun y3 => ck (inZ x1 60) <| ck (rng y3 ∧ rng (V 5 x1.toNat)) <| if V 5 x1.toNat ≤ y3 then (some false) else (ck (inZ ((x1 * 3) + y3) 180) <| ck (rng (V 7 ((x1 * 3) + y3).toNat) ∧ rng x2) <| if V 7 ((x1 * 3) + y3).toNat = x2 then (some true) else (nm (y3 + 1) fun (x_5 : Int) => rec2 x_5))
theorem bX3_hasDonor_2_e (n : Nat) (V : Sz) (x1 : Int) (x2 : Int) (rec2 : Int → Option (Bool)) (y3 : Int) : bX3_hasDonor_2 n V x1 x2 rec2 y3 = (ck (inZ x1 60) <| ck (rng y3 ∧ rng (V 5 x1.toNat)) <| if V 5 x1.toNat ≤ y3 then (some false) else (ck (inZ ((x1 * 3) + y3) 180) <| ck (rng (V 7 ((x1 * 3) + y3).toNat) ∧ rng x2) <| if V 7 ((x1 * 3) + y3).toNat = x2 then (some true) else (nm (y3 + 1) fun (x_5 : Int) => rec2 x_5))) := rfl
def f_X3_hasDonor (n : Nat) (V : Sz) (x1 : Int) (x2 : Int) : Option (Bool) := lpF (bX3_hasDonor_2 n V x1 x2) n 0
def f_X3_slotCount (V : Sz) : Option (Int) := some ((V 0 0) * 3)
def f_X3_isPart (V : Sz) (x1 : Int) : Option (Bool) := ck (0 ≤ x1 ∧ x1 < 2147483648) <| ck (inZ (x1 / 3) 60) <| ck (rng (x1 % 3) ∧ rng (V 5 (x1 / 3).toNat)) <| if V 5 (x1 / 3).toNat ≤ x1 % 3 then (some false) else (some true)
def f_X3_isPartOf (V : Sz) (x1 : Int) (x2 : Int) : Option (Bool) := bd (f_X3_isPart V x1) fun (r_1 : Bool) => if r_1 = false then (some false) else (ck (inZ x1 180) <| ck (rng (V 7 x1.toNat) ∧ rng x2) <| if V 7 x1.toNat = x2 then (some true) else (some false))
def f_X3_dayOfPart (V : Sz) (x1 : Int) : Option (Int) := ck (0 ≤ x1 ∧ x1 < 2147483648) <| ck (inZ (x1 / 3) 60) <| some (V 1 (x1 / 3).toNat)
def f_X3_yearOf (V : Sz) (x1 : Int) : Option (Int) := ck (inZ x1 60) <| ck (0 ≤ V 1 x1.toNat ∧ V 1 x1.toNat < 2147483648) <| some ((V 1 x1.toNat) / 365)
def f_X3_leftOf (V : Sz) (x1 : Int) : Option (Int) := ck (inZ x1 60) <| some ((V 2 x1.toNat) - (V 4 x1.toNat))
def bX3_leftOfAll_4 (n : Nat) (V : Sz) (rec4 : Int × Int → Option (Int)) : Int × Int → Option (Int) := fun (y1, y2) => ck (rng y2 ∧ rng (V 0 0)) <| if V 0 0 ≤ y2 then (some y1) else (bd (f_X3_leftOf V y2) fun (r_2 : Int) => nm (y1 + r_2) fun (x_3 : Int) => nm (y2 + 1) fun (x_4 : Int) => rec4 (x_3, x_4))
theorem bX3_leftOfAll_4_e (n : Nat) (V : Sz) (rec4 : Int × Int → Option (Int)) (y1 : Int) (y2 : Int) : bX3_leftOfAll_4 n V rec4 (y1, y2) = (ck (rng y2 ∧ rng (V 0 0)) <| if V 0 0 ≤ y2 then (some y1) else (bd (f_X3_leftOf V y2) fun (r_2 : Int) => nm (y1 + r_2) fun (x_3 : Int) => nm (y2 + 1) fun (x_4 : Int) => rec4 (x_3, x_4))) := rfl
def f_X3_leftOfAll (n : Nat) (V : Sz) : Option (Int) := lpF (bX3_leftOfAll_4 n V) n (0, 0)
def jX3_countLeft_23 (n : Nat) (V : Sz) (rec4 : Int × Int → Option (Int)) (y1 : Int) (y2 : Int) : Option (Int) := nm (y2 + 1) fun (x_4 : Int) => rec4 (y1, x_4)
def bX3_countLeft_4 (n : Nat) (V : Sz) (rec4 : Int × Int → Option (Int)) : Int × Int → Option (Int) := fun (y1, y2) => ck (rng y2 ∧ rng (V 0 0)) <| if V 0 0 ≤ y2 then (some y1) else (bd (f_X3_leftOf V y2) fun (r_2 : Int) => ck (rng r_2) <| if r_2 ≤ 0 then (jX3_countLeft_23 n V rec4 y1 y2) else (nm (y1 + 1) fun (x_5 : Int) => jX3_countLeft_23 n V rec4 x_5 y2))
theorem bX3_countLeft_4_e (n : Nat) (V : Sz) (rec4 : Int × Int → Option (Int)) (y1 : Int) (y2 : Int) : bX3_countLeft_4 n V rec4 (y1, y2) = (ck (rng y2 ∧ rng (V 0 0)) <| if V 0 0 ≤ y2 then (some y1) else (bd (f_X3_leftOf V y2) fun (r_2 : Int) => ck (rng r_2) <| if r_2 ≤ 0 then (jX3_countLeft_23 n V rec4 y1 y2) else (nm (y1 + 1) fun (x_5 : Int) => jX3_countLeft_23 n V rec4 x_5 y2))) := rfl
def f_X3_countLeft (n : Nat) (V : Sz) : Option (Int) := lpF (bX3_countLeft_4 n V) n (0, 0)
def jX3_countWithoutParts_24 (n : Nat) (V : Sz) (rec4 : Int × Int → Option (Int)) (y1 : Int) (y2 : Int) : Option (Int) := nm (y2 + 1) fun (x_4 : Int) => rec4 (y1, x_4)
def bX3_countWithoutParts_4 (n : Nat) (V : Sz) (rec4 : Int × Int → Option (Int)) : Int × Int → Option (Int) := fun (y1, y2) => ck (rng y2 ∧ rng (V 0 0)) <| if V 0 0 ≤ y2 then (some y1) else (ck (inZ y2 60) <| ck (rng (V 5 y2.toNat)) <| if V 5 y2.toNat = 0 then (nm (y1 + 1) fun (x_5 : Int) => jX3_countWithoutParts_24 n V rec4 x_5 y2) else (jX3_countWithoutParts_24 n V rec4 y1 y2))
theorem bX3_countWithoutParts_4_e (n : Nat) (V : Sz) (rec4 : Int × Int → Option (Int)) (y1 : Int) (y2 : Int) : bX3_countWithoutParts_4 n V rec4 (y1, y2) = (ck (rng y2 ∧ rng (V 0 0)) <| if V 0 0 ≤ y2 then (some y1) else (ck (inZ y2 60) <| ck (rng (V 5 y2.toNat)) <| if V 5 y2.toNat = 0 then (nm (y1 + 1) fun (x_5 : Int) => jX3_countWithoutParts_24 n V rec4 x_5 y2) else (jX3_countWithoutParts_24 n V rec4 y1 y2))) := rfl
def f_X3_countWithoutParts (n : Nat) (V : Sz) : Option (Int) := lpF (bX3_countWithoutParts_4 n V) n (0, 0)
theorem DX3_become_0 : ∀ q ∈ ([(0, .aload_n 0, 1), (1, .aload_n 1, 1), (2, .getfield 45, 3), (5, .putfield 45, 3), (8, .aload_n 1, 1), (9, .getfield 9, 3), (12, .aload_n 0, 1), (13, .getfield 9, 3), (16, .invokestatic 49, 3), (19, .aload_n 1, 1), (20, .getfield 15, 3), (23, .aload_n 0, 1), (24, .getfield 15, 3), (27, .invokestatic 49, 3), (30, .aload_n 1, 1), (31, .getfield 18, 3), (34, .aload_n 0, 1), (35, .getfield 18, 3), (38, .invokestatic 49, 3), (41, .aload_n 1, 1), (42, .getfield 21, 3), (45, .aload_n 0, 1), (46, .getfield 21, 3), (49, .invokestatic 49, 3), (52, .aload_n 1, 1), (53, .getfield 24, 3), (56, .aload_n 0, 1), (57, .getfield 24, 3), (60, .invokestatic 49, 3), (63, .aload_n 1, 1), (64, .getfield 27, 3), (67, .aload_n 0, 1), (68, .getfield 27, 3), (71, .invokestatic 49, 3), (74, .aload_n 1, 1), (75, .getfield 30, 3), (78, .aload_n 0, 1), (79, .getfield 30, 3), (82, .invokestatic 49, 3), (85, .aload_n 1, 1)] : List (Nat × Instr × Nat)), decode cX3_become q.1 = .ok q.2 := by decide +kernel
theorem dX3_become_0 : decode cX3_become 0 = .ok (.aload_n 0, 1) := DX3_become_0 (0, .aload_n 0, 1) (List.mem_of_getElem? (i := 0) rfl)
theorem dX3_become_1 : decode cX3_become 1 = .ok (.aload_n 1, 1) := DX3_become_0 (1, .aload_n 1, 1) (List.mem_of_getElem? (i := 1) rfl)
theorem dX3_become_2 : decode cX3_become 2 = .ok (.getfield 45, 3) := DX3_become_0 (2, .getfield 45, 3) (List.mem_of_getElem? (i := 2) rfl)
theorem dX3_become_5 : decode cX3_become 5 = .ok (.putfield 45, 3) := DX3_become_0 (5, .putfield 45, 3) (List.mem_of_getElem? (i := 3) rfl)
theorem dX3_become_8 : decode cX3_become 8 = .ok (.aload_n 1, 1) := DX3_become_0 (8, .aload_n 1, 1) (List.mem_of_getElem? (i := 4) rfl)
theorem dX3_become_9 : decode cX3_become 9 = .ok (.getfield 9, 3) := DX3_become_0 (9, .getfield 9, 3) (List.mem_of_getElem? (i := 5) rfl)
theorem dX3_become_12 : decode cX3_become 12 = .ok (.aload_n 0, 1) := DX3_become_0 (12, .aload_n 0, 1) (List.mem_of_getElem? (i := 6) rfl)
theorem dX3_become_13 : decode cX3_become 13 = .ok (.getfield 9, 3) := DX3_become_0 (13, .getfield 9, 3) (List.mem_of_getElem? (i := 7) rfl)
theorem dX3_become_16 : decode cX3_become 16 = .ok (.invokestatic 49, 3) := DX3_become_0 (16, .invokestatic 49, 3) (List.mem_of_getElem? (i := 8) rfl)
theorem dX3_become_19 : decode cX3_become 19 = .ok (.aload_n 1, 1) := DX3_become_0 (19, .aload_n 1, 1) (List.mem_of_getElem? (i := 9) rfl)
theorem dX3_become_20 : decode cX3_become 20 = .ok (.getfield 15, 3) := DX3_become_0 (20, .getfield 15, 3) (List.mem_of_getElem? (i := 10) rfl)
theorem dX3_become_23 : decode cX3_become 23 = .ok (.aload_n 0, 1) := DX3_become_0 (23, .aload_n 0, 1) (List.mem_of_getElem? (i := 11) rfl)
theorem dX3_become_24 : decode cX3_become 24 = .ok (.getfield 15, 3) := DX3_become_0 (24, .getfield 15, 3) (List.mem_of_getElem? (i := 12) rfl)
theorem dX3_become_27 : decode cX3_become 27 = .ok (.invokestatic 49, 3) := DX3_become_0 (27, .invokestatic 49, 3) (List.mem_of_getElem? (i := 13) rfl)
theorem dX3_become_30 : decode cX3_become 30 = .ok (.aload_n 1, 1) := DX3_become_0 (30, .aload_n 1, 1) (List.mem_of_getElem? (i := 14) rfl)
theorem dX3_become_31 : decode cX3_become 31 = .ok (.getfield 18, 3) := DX3_become_0 (31, .getfield 18, 3) (List.mem_of_getElem? (i := 15) rfl)
theorem dX3_become_34 : decode cX3_become 34 = .ok (.aload_n 0, 1) := DX3_become_0 (34, .aload_n 0, 1) (List.mem_of_getElem? (i := 16) rfl)
theorem dX3_become_35 : decode cX3_become 35 = .ok (.getfield 18, 3) := DX3_become_0 (35, .getfield 18, 3) (List.mem_of_getElem? (i := 17) rfl)
theorem dX3_become_38 : decode cX3_become 38 = .ok (.invokestatic 49, 3) := DX3_become_0 (38, .invokestatic 49, 3) (List.mem_of_getElem? (i := 18) rfl)
theorem dX3_become_41 : decode cX3_become 41 = .ok (.aload_n 1, 1) := DX3_become_0 (41, .aload_n 1, 1) (List.mem_of_getElem? (i := 19) rfl)
theorem dX3_become_42 : decode cX3_become 42 = .ok (.getfield 21, 3) := DX3_become_0 (42, .getfield 21, 3) (List.mem_of_getElem? (i := 20) rfl)
theorem dX3_become_45 : decode cX3_become 45 = .ok (.aload_n 0, 1) := DX3_become_0 (45, .aload_n 0, 1) (List.mem_of_getElem? (i := 21) rfl)
theorem dX3_become_46 : decode cX3_become 46 = .ok (.getfield 21, 3) := DX3_become_0 (46, .getfield 21, 3) (List.mem_of_getElem? (i := 22) rfl)
theorem dX3_become_49 : decode cX3_become 49 = .ok (.invokestatic 49, 3) := DX3_become_0 (49, .invokestatic 49, 3) (List.mem_of_getElem? (i := 23) rfl)
theorem dX3_become_52 : decode cX3_become 52 = .ok (.aload_n 1, 1) := DX3_become_0 (52, .aload_n 1, 1) (List.mem_of_getElem? (i := 24) rfl)
theorem dX3_become_53 : decode cX3_become 53 = .ok (.getfield 24, 3) := DX3_become_0 (53, .getfield 24, 3) (List.mem_of_getElem? (i := 25) rfl)
theorem dX3_become_56 : decode cX3_become 56 = .ok (.aload_n 0, 1) := DX3_become_0 (56, .aload_n 0, 1) (List.mem_of_getElem? (i := 26) rfl)
theorem dX3_become_57 : decode cX3_become 57 = .ok (.getfield 24, 3) := DX3_become_0 (57, .getfield 24, 3) (List.mem_of_getElem? (i := 27) rfl)
theorem dX3_become_60 : decode cX3_become 60 = .ok (.invokestatic 49, 3) := DX3_become_0 (60, .invokestatic 49, 3) (List.mem_of_getElem? (i := 28) rfl)
theorem dX3_become_63 : decode cX3_become 63 = .ok (.aload_n 1, 1) := DX3_become_0 (63, .aload_n 1, 1) (List.mem_of_getElem? (i := 29) rfl)
theorem dX3_become_64 : decode cX3_become 64 = .ok (.getfield 27, 3) := DX3_become_0 (64, .getfield 27, 3) (List.mem_of_getElem? (i := 30) rfl)
theorem dX3_become_67 : decode cX3_become 67 = .ok (.aload_n 0, 1) := DX3_become_0 (67, .aload_n 0, 1) (List.mem_of_getElem? (i := 31) rfl)
theorem dX3_become_68 : decode cX3_become 68 = .ok (.getfield 27, 3) := DX3_become_0 (68, .getfield 27, 3) (List.mem_of_getElem? (i := 32) rfl)
theorem dX3_become_71 : decode cX3_become 71 = .ok (.invokestatic 49, 3) := DX3_become_0 (71, .invokestatic 49, 3) (List.mem_of_getElem? (i := 33) rfl)
theorem dX3_become_74 : decode cX3_become 74 = .ok (.aload_n 1, 1) := DX3_become_0 (74, .aload_n 1, 1) (List.mem_of_getElem? (i := 34) rfl)
theorem dX3_become_75 : decode cX3_become 75 = .ok (.getfield 30, 3) := DX3_become_0 (75, .getfield 30, 3) (List.mem_of_getElem? (i := 35) rfl)
theorem dX3_become_78 : decode cX3_become 78 = .ok (.aload_n 0, 1) := DX3_become_0 (78, .aload_n 0, 1) (List.mem_of_getElem? (i := 36) rfl)
theorem dX3_become_79 : decode cX3_become 79 = .ok (.getfield 30, 3) := DX3_become_0 (79, .getfield 30, 3) (List.mem_of_getElem? (i := 37) rfl)
theorem dX3_become_82 : decode cX3_become 82 = .ok (.invokestatic 49, 3) := DX3_become_0 (82, .invokestatic 49, 3) (List.mem_of_getElem? (i := 38) rfl)
theorem dX3_become_85 : decode cX3_become 85 = .ok (.aload_n 1, 1) := DX3_become_0 (85, .aload_n 1, 1) (List.mem_of_getElem? (i := 39) rfl)
theorem DX3_become_1 : ∀ q ∈ ([(86, .getfield 33, 3), (89, .aload_n 0, 1), (90, .getfield 33, 3), (93, .invokestatic 49, 3), (96, .aload_n 1, 1), (97, .getfield 36, 3), (100, .aload_n 0, 1), (101, .getfield 36, 3), (104, .invokestatic 49, 3), (107, .aload_n 1, 1), (108, .getfield 39, 3), (111, .aload_n 0, 1), (112, .getfield 39, 3), (115, .invokestatic 49, 3), (118, .aload_n 1, 1), (119, .getfield 42, 3), (122, .aload_n 0, 1), (123, .getfield 42, 3), (126, .invokestatic 49, 3), (129, .return_, 1)] : List (Nat × Instr × Nat)), decode cX3_become q.1 = .ok q.2 := by decide +kernel
theorem dX3_become_86 : decode cX3_become 86 = .ok (.getfield 33, 3) := DX3_become_1 (86, .getfield 33, 3) (List.mem_of_getElem? (i := 0) rfl)
theorem dX3_become_89 : decode cX3_become 89 = .ok (.aload_n 0, 1) := DX3_become_1 (89, .aload_n 0, 1) (List.mem_of_getElem? (i := 1) rfl)
theorem dX3_become_90 : decode cX3_become 90 = .ok (.getfield 33, 3) := DX3_become_1 (90, .getfield 33, 3) (List.mem_of_getElem? (i := 2) rfl)
theorem dX3_become_93 : decode cX3_become 93 = .ok (.invokestatic 49, 3) := DX3_become_1 (93, .invokestatic 49, 3) (List.mem_of_getElem? (i := 3) rfl)
theorem dX3_become_96 : decode cX3_become 96 = .ok (.aload_n 1, 1) := DX3_become_1 (96, .aload_n 1, 1) (List.mem_of_getElem? (i := 4) rfl)
theorem dX3_become_97 : decode cX3_become 97 = .ok (.getfield 36, 3) := DX3_become_1 (97, .getfield 36, 3) (List.mem_of_getElem? (i := 5) rfl)
theorem dX3_become_100 : decode cX3_become 100 = .ok (.aload_n 0, 1) := DX3_become_1 (100, .aload_n 0, 1) (List.mem_of_getElem? (i := 6) rfl)
theorem dX3_become_101 : decode cX3_become 101 = .ok (.getfield 36, 3) := DX3_become_1 (101, .getfield 36, 3) (List.mem_of_getElem? (i := 7) rfl)
theorem dX3_become_104 : decode cX3_become 104 = .ok (.invokestatic 49, 3) := DX3_become_1 (104, .invokestatic 49, 3) (List.mem_of_getElem? (i := 8) rfl)
theorem dX3_become_107 : decode cX3_become 107 = .ok (.aload_n 1, 1) := DX3_become_1 (107, .aload_n 1, 1) (List.mem_of_getElem? (i := 9) rfl)
theorem dX3_become_108 : decode cX3_become 108 = .ok (.getfield 39, 3) := DX3_become_1 (108, .getfield 39, 3) (List.mem_of_getElem? (i := 10) rfl)
theorem dX3_become_111 : decode cX3_become 111 = .ok (.aload_n 0, 1) := DX3_become_1 (111, .aload_n 0, 1) (List.mem_of_getElem? (i := 11) rfl)
theorem dX3_become_112 : decode cX3_become 112 = .ok (.getfield 39, 3) := DX3_become_1 (112, .getfield 39, 3) (List.mem_of_getElem? (i := 12) rfl)
theorem dX3_become_115 : decode cX3_become 115 = .ok (.invokestatic 49, 3) := DX3_become_1 (115, .invokestatic 49, 3) (List.mem_of_getElem? (i := 13) rfl)
theorem dX3_become_118 : decode cX3_become 118 = .ok (.aload_n 1, 1) := DX3_become_1 (118, .aload_n 1, 1) (List.mem_of_getElem? (i := 14) rfl)
theorem dX3_become_119 : decode cX3_become 119 = .ok (.getfield 42, 3) := DX3_become_1 (119, .getfield 42, 3) (List.mem_of_getElem? (i := 15) rfl)
theorem dX3_become_122 : decode cX3_become 122 = .ok (.aload_n 0, 1) := DX3_become_1 (122, .aload_n 0, 1) (List.mem_of_getElem? (i := 16) rfl)
theorem dX3_become_123 : decode cX3_become 123 = .ok (.getfield 42, 3) := DX3_become_1 (123, .getfield 42, 3) (List.mem_of_getElem? (i := 17) rfl)
theorem dX3_become_126 : decode cX3_become 126 = .ok (.invokestatic 49, 3) := DX3_become_1 (126, .invokestatic 49, 3) (List.mem_of_getElem? (i := 18) rfl)
theorem dX3_become_129 : decode cX3_become 129 = .ok (.return_, 1) := DX3_become_1 (129, .return_, 1) (List.mem_of_getElem? (i := 19) rfl)
abbrev rmX3_become : Room := { frames := 2, cells := 0, slots := 0, locals := 81 }
set_option maxHeartbeats 400000 in
set_option maxRecDepth 100000 in
theorem met_X3_become (l : Launch) (D : va_G) (kA : Nat → ClassId) (a : Nat → Nat) (b : Nat → Nat) (V0 : Sz) (G : Sz) (hDt : ∀ w : Sz, va_D (fun _ => True) (cs_X3 kA a w ++ (cs_X3 kA b G))) {Vr : Sz} (hf : f_X3_become V0 G = some Vr) : MZ l yX3_become cX3_become 2 none rmX3_become D kA [.ref (a 0), .ref (b 0)] (cs_X3 kA a V0 ++ (cs_X3 kA b G)) (cs_X3 kA a Vr ++ (cs_X3 kA b G)) (none) := by
  refine zZV (own := RX3) rfl rfl (Nat.le_of_ble_eq_true rfl) ?_
  intro p e s m args below meth c ls Q hC hK hP hl hret
  have hl : lv_has ls 2 [(0, .ref (a 0)), (1, .ref (b 0))] := hl
  have hS : va_S (zF (cs_X3 kA a V0 ++ (cs_X3 kA b G))) s.heap s.heap [] := va_S.rf
  have hD := zDself (C := fun w : Sz => (cs_X3 kA a w ++ (cs_X3 kA b G))) hDt V0 (fun _ => rfl)
  try dsimp only at hD
  generalize hAe : zF (cs_X3 kA a V0 ++ (cs_X3 kA b G)) = A0 at hS hD hret
  unfold f_X3_become at hf
  refine lv_aload_n hC.1 hC.2.1 dX3_become_0 rfl (lv_at hl 0 rfl) <| lv_aload_n hC.1 hC.2.1 dX3_become_1 rfl (lv_at hl 1 rfl) <| gfX3_45 hC hK hP (q0 := 12) rfl rfl dX3_become_2 <| ?_
  refine pfX3_45 hC hK hP (hD V0) hS (q0 := 0) rfl (Nat.le_of_ble_eq_true rfl) dX3_become_5 (fun H locs hP hS => ?_)
  obtain ⟨V_1, eV_1⟩ : ∃ y, y = us V0 0 (G 0 0) := ⟨_, rfl⟩
  have hf := nm_at hf eV_1
  have hP : va_P D vwCl (cs_X3 kA a V_1 ++ (cs_X3 kA b G)) H := by rw [eV_1]; exact hP
  refine lv_aload_n hC.1 hC.2.1 dX3_become_8 rfl (lv_at hl 1 rfl) <| gfX3_9 hC hK hP (q0 := 12) rfl rfl dX3_become_9 <| lv_aload_n hC.1 hC.2.1 dX3_become_12 rfl (lv_at hl 0 rfl) <| gfX3_9 hC hK hP (q0 := 0) rfl rfl dX3_become_13 <| ?_
  obtain ⟨V_2, hu, hf⟩ := bd_some hf
  have hPc : va_P D vwCl ([((b 1), .inl (kA 0, 60, .inl (aI (G 1))))] ++ ([((a 1), .inl (kA 0, 60, .inl (aI (V_1 1))))])) _ := hP.sub [13, 1] rfl
  have hDc : ∀ w : (Nat → Int), va_D (fun _ => True) ([((b 1), .inl (kA 0, 60, .inl (aI (G 1))))] ++ ([((a 1), .inl (kA 0, 60, .inl (aI w)))])) := fun w => (hDt (uy V_1 1 w)).sub [13, 1] (by decide) rfl
  refine zcNZ (As := [.ref (b 1), .ref (a 1)]) (rest := []) hC hK (met_X7_copyRow l D kA (b 1) (a 1) 60 60 (G 1) (V_1 1) (Nat.le_of_ble_eq_true rfl) (Nat.le_of_ble_eq_true rfl) hDc hu) zwNcopy znX3_49 hS (zFsub (hD V_1) [13, 1] rfl) hPc rfl hl.1 rfl (Nat.le_of_ble_eq_true rfl) ⟨Nat.le_of_ble_eq_true rfl, Nat.le_of_ble_eq_true rfl⟩ ⟨rfl, rfl⟩ ⟨Nat.le_refl _, Nat.le_refl _⟩ dX3_become_16 (fun H locs hP1 hk1 hS => ?_)
  obtain ⟨V_3, eV_3⟩ : ∃ y, y = uy V_1 1 V_2 := ⟨_, rfl⟩
  have hf := nm_at hf eV_3
  have hP : va_P D vwCl (cs_X3 kA a V_3 ++ (cs_X3 kA b G)) H := by rw [eV_3]; exact zjoin hP (hDt V_1) [13, 1] (w0 := ([((b 1), .inl (kA 0, 60, .inl (aI (G 1))))] ++ ([((a 1), .inl (kA 0, 60, .inl (aI (V_1 1))))]))) rfl (Nat.le_of_ble_eq_true rfl) hk1 hP1
  refine lv_aload_n hC.1 hC.2.1 dX3_become_19 rfl (lv_at hl 1 rfl) <| gfX3_15 hC hK hP (q0 := 12) rfl rfl dX3_become_20 <| lv_aload_n hC.1 hC.2.1 dX3_become_23 rfl (lv_at hl 0 rfl) <| gfX3_15 hC hK hP (q0 := 0) rfl rfl dX3_become_24 <| ?_
  obtain ⟨V_4, hu, hf⟩ := bd_some hf
  have hPc : va_P D vwCl ([((b 2), .inl (kA 0, 60, .inl (aI (G 2))))] ++ ([((a 2), .inl (kA 0, 60, .inl (aI (V_3 2))))])) _ := hP.sub [14, 2] rfl
  have hDc : ∀ w : (Nat → Int), va_D (fun _ => True) ([((b 2), .inl (kA 0, 60, .inl (aI (G 2))))] ++ ([((a 2), .inl (kA 0, 60, .inl (aI w)))])) := fun w => (hDt (uy V_3 2 w)).sub [14, 2] (by decide) rfl
  refine zcNZ (As := [.ref (b 2), .ref (a 2)]) (rest := []) hC hK (met_X7_copyRow l D kA (b 2) (a 2) 60 60 (G 2) (V_3 2) (Nat.le_of_ble_eq_true rfl) (Nat.le_of_ble_eq_true rfl) hDc hu) zwNcopy znX3_49 hS (zFsub (hD V_3) [14, 2] rfl) hPc rfl hl.1 rfl (Nat.le_of_ble_eq_true rfl) ⟨Nat.le_of_ble_eq_true rfl, Nat.le_of_ble_eq_true rfl⟩ ⟨rfl, rfl⟩ ⟨Nat.le_refl _, Nat.le_refl _⟩ dX3_become_27 (fun H locs hP1 hk1 hS => ?_)
  obtain ⟨V_5, eV_5⟩ : ∃ y, y = uy V_3 2 V_4 := ⟨_, rfl⟩
  have hf := nm_at hf eV_5
  have hP : va_P D vwCl (cs_X3 kA a V_5 ++ (cs_X3 kA b G)) H := by rw [eV_5]; exact zjoin hP (hDt V_3) [14, 2] (w0 := ([((b 2), .inl (kA 0, 60, .inl (aI (G 2))))] ++ ([((a 2), .inl (kA 0, 60, .inl (aI (V_3 2))))]))) rfl (Nat.le_of_ble_eq_true rfl) hk1 hP1
  refine lv_aload_n hC.1 hC.2.1 dX3_become_30 rfl (lv_at hl 1 rfl) <| gfX3_18 hC hK hP (q0 := 12) rfl rfl dX3_become_31 <| lv_aload_n hC.1 hC.2.1 dX3_become_34 rfl (lv_at hl 0 rfl) <| gfX3_18 hC hK hP (q0 := 0) rfl rfl dX3_become_35 <| ?_
  obtain ⟨V_6, hu, hf⟩ := bd_some hf
  have hPc : va_P D vwCl ([((b 3), .inl (kA 0, 60, .inl (aI (G 3))))] ++ ([((a 3), .inl (kA 0, 60, .inl (aI (V_5 3))))])) _ := hP.sub [15, 3] rfl
  have hDc : ∀ w : (Nat → Int), va_D (fun _ => True) ([((b 3), .inl (kA 0, 60, .inl (aI (G 3))))] ++ ([((a 3), .inl (kA 0, 60, .inl (aI w)))])) := fun w => (hDt (uy V_5 3 w)).sub [15, 3] (by decide) rfl
  refine zcNZ (As := [.ref (b 3), .ref (a 3)]) (rest := []) hC hK (met_X7_copyRow l D kA (b 3) (a 3) 60 60 (G 3) (V_5 3) (Nat.le_of_ble_eq_true rfl) (Nat.le_of_ble_eq_true rfl) hDc hu) zwNcopy znX3_49 hS (zFsub (hD V_5) [15, 3] rfl) hPc rfl hl.1 rfl (Nat.le_of_ble_eq_true rfl) ⟨Nat.le_of_ble_eq_true rfl, Nat.le_of_ble_eq_true rfl⟩ ⟨rfl, rfl⟩ ⟨Nat.le_refl _, Nat.le_refl _⟩ dX3_become_38 (fun H locs hP1 hk1 hS => ?_)
  obtain ⟨V_7, eV_7⟩ : ∃ y, y = uy V_5 3 V_6 := ⟨_, rfl⟩
  have hf := nm_at hf eV_7
  have hP : va_P D vwCl (cs_X3 kA a V_7 ++ (cs_X3 kA b G)) H := by rw [eV_7]; exact zjoin hP (hDt V_5) [15, 3] (w0 := ([((b 3), .inl (kA 0, 60, .inl (aI (G 3))))] ++ ([((a 3), .inl (kA 0, 60, .inl (aI (V_5 3))))]))) rfl (Nat.le_of_ble_eq_true rfl) hk1 hP1
  refine lv_aload_n hC.1 hC.2.1 dX3_become_41 rfl (lv_at hl 1 rfl) <| gfX3_21 hC hK hP (q0 := 12) rfl rfl dX3_become_42 <| lv_aload_n hC.1 hC.2.1 dX3_become_45 rfl (lv_at hl 0 rfl) <| gfX3_21 hC hK hP (q0 := 0) rfl rfl dX3_become_46 <| ?_
  obtain ⟨V_8, hu, hf⟩ := bd_some hf
  have hPc : va_P D vwCl ([((b 4), .inl (kA 0, 60, .inl (aI (G 4))))] ++ ([((a 4), .inl (kA 0, 60, .inl (aI (V_7 4))))])) _ := hP.sub [16, 4] rfl
  have hDc : ∀ w : (Nat → Int), va_D (fun _ => True) ([((b 4), .inl (kA 0, 60, .inl (aI (G 4))))] ++ ([((a 4), .inl (kA 0, 60, .inl (aI w)))])) := fun w => (hDt (uy V_7 4 w)).sub [16, 4] (by decide) rfl
  refine zcNZ (As := [.ref (b 4), .ref (a 4)]) (rest := []) hC hK (met_X7_copyRow l D kA (b 4) (a 4) 60 60 (G 4) (V_7 4) (Nat.le_of_ble_eq_true rfl) (Nat.le_of_ble_eq_true rfl) hDc hu) zwNcopy znX3_49 hS (zFsub (hD V_7) [16, 4] rfl) hPc rfl hl.1 rfl (Nat.le_of_ble_eq_true rfl) ⟨Nat.le_of_ble_eq_true rfl, Nat.le_of_ble_eq_true rfl⟩ ⟨rfl, rfl⟩ ⟨Nat.le_refl _, Nat.le_refl _⟩ dX3_become_49 (fun H locs hP1 hk1 hS => ?_)
  obtain ⟨V_9, eV_9⟩ : ∃ y, y = uy V_7 4 V_8 := ⟨_, rfl⟩
  have hf := nm_at hf eV_9
  have hP : va_P D vwCl (cs_X3 kA a V_9 ++ (cs_X3 kA b G)) H := by rw [eV_9]; exact zjoin hP (hDt V_7) [16, 4] (w0 := ([((b 4), .inl (kA 0, 60, .inl (aI (G 4))))] ++ ([((a 4), .inl (kA 0, 60, .inl (aI (V_7 4))))]))) rfl (Nat.le_of_ble_eq_true rfl) hk1 hP1
  refine lv_aload_n hC.1 hC.2.1 dX3_become_52 rfl (lv_at hl 1 rfl) <| gfX3_24 hC hK hP (q0 := 12) rfl rfl dX3_become_53 <| lv_aload_n hC.1 hC.2.1 dX3_become_56 rfl (lv_at hl 0 rfl) <| gfX3_24 hC hK hP (q0 := 0) rfl rfl dX3_become_57 <| ?_
  obtain ⟨V_10, hu, hf⟩ := bd_some hf
  have hPc : va_P D vwCl ([((b 5), .inl (kA 0, 60, .inl (aI (G 5))))] ++ ([((a 5), .inl (kA 0, 60, .inl (aI (V_9 5))))])) _ := hP.sub [17, 5] rfl
  have hDc : ∀ w : (Nat → Int), va_D (fun _ => True) ([((b 5), .inl (kA 0, 60, .inl (aI (G 5))))] ++ ([((a 5), .inl (kA 0, 60, .inl (aI w)))])) := fun w => (hDt (uy V_9 5 w)).sub [17, 5] (by decide) rfl
  refine zcNZ (As := [.ref (b 5), .ref (a 5)]) (rest := []) hC hK (met_X7_copyRow l D kA (b 5) (a 5) 60 60 (G 5) (V_9 5) (Nat.le_of_ble_eq_true rfl) (Nat.le_of_ble_eq_true rfl) hDc hu) zwNcopy znX3_49 hS (zFsub (hD V_9) [17, 5] rfl) hPc rfl hl.1 rfl (Nat.le_of_ble_eq_true rfl) ⟨Nat.le_of_ble_eq_true rfl, Nat.le_of_ble_eq_true rfl⟩ ⟨rfl, rfl⟩ ⟨Nat.le_refl _, Nat.le_refl _⟩ dX3_become_60 (fun H locs hP1 hk1 hS => ?_)
  obtain ⟨V_11, eV_11⟩ : ∃ y, y = uy V_9 5 V_10 := ⟨_, rfl⟩
  have hf := nm_at hf eV_11
  have hP : va_P D vwCl (cs_X3 kA a V_11 ++ (cs_X3 kA b G)) H := by rw [eV_11]; exact zjoin hP (hDt V_9) [17, 5] (w0 := ([((b 5), .inl (kA 0, 60, .inl (aI (G 5))))] ++ ([((a 5), .inl (kA 0, 60, .inl (aI (V_9 5))))]))) rfl (Nat.le_of_ble_eq_true rfl) hk1 hP1
  refine lv_aload_n hC.1 hC.2.1 dX3_become_63 rfl (lv_at hl 1 rfl) <| gfX3_27 hC hK hP (q0 := 12) rfl rfl dX3_become_64 <| lv_aload_n hC.1 hC.2.1 dX3_become_67 rfl (lv_at hl 0 rfl) <| gfX3_27 hC hK hP (q0 := 0) rfl rfl dX3_become_68 <| ?_
  obtain ⟨V_12, hu, hf⟩ := bd_some hf
  have hPc : va_P D vwCl ([((b 6), .inl (kA 0, 60, .inl (aI (G 6))))] ++ ([((a 6), .inl (kA 0, 60, .inl (aI (V_11 6))))])) _ := hP.sub [18, 6] rfl
  have hDc : ∀ w : (Nat → Int), va_D (fun _ => True) ([((b 6), .inl (kA 0, 60, .inl (aI (G 6))))] ++ ([((a 6), .inl (kA 0, 60, .inl (aI w)))])) := fun w => (hDt (uy V_11 6 w)).sub [18, 6] (by decide) rfl
  refine zcNZ (As := [.ref (b 6), .ref (a 6)]) (rest := []) hC hK (met_X7_copyRow l D kA (b 6) (a 6) 60 60 (G 6) (V_11 6) (Nat.le_of_ble_eq_true rfl) (Nat.le_of_ble_eq_true rfl) hDc hu) zwNcopy znX3_49 hS (zFsub (hD V_11) [18, 6] rfl) hPc rfl hl.1 rfl (Nat.le_of_ble_eq_true rfl) ⟨Nat.le_of_ble_eq_true rfl, Nat.le_of_ble_eq_true rfl⟩ ⟨rfl, rfl⟩ ⟨Nat.le_refl _, Nat.le_refl _⟩ dX3_become_71 (fun H locs hP1 hk1 hS => ?_)
  obtain ⟨V_13, eV_13⟩ : ∃ y, y = uy V_11 6 V_12 := ⟨_, rfl⟩
  have hf := nm_at hf eV_13
  have hP : va_P D vwCl (cs_X3 kA a V_13 ++ (cs_X3 kA b G)) H := by rw [eV_13]; exact zjoin hP (hDt V_11) [18, 6] (w0 := ([((b 6), .inl (kA 0, 60, .inl (aI (G 6))))] ++ ([((a 6), .inl (kA 0, 60, .inl (aI (V_11 6))))]))) rfl (Nat.le_of_ble_eq_true rfl) hk1 hP1
  refine lv_aload_n hC.1 hC.2.1 dX3_become_74 rfl (lv_at hl 1 rfl) <| gfX3_30 hC hK hP (q0 := 12) rfl rfl dX3_become_75 <| lv_aload_n hC.1 hC.2.1 dX3_become_78 rfl (lv_at hl 0 rfl) <| gfX3_30 hC hK hP (q0 := 0) rfl rfl dX3_become_79 <| ?_
  obtain ⟨V_14, hu, hf⟩ := bd_some hf
  have hPc : va_P D vwCl ([((b 7), .inl (kA 0, 180, .inl (aI (G 7))))] ++ ([((a 7), .inl (kA 0, 180, .inl (aI (V_13 7))))])) _ := hP.sub [19, 7] rfl
  have hDc : ∀ w : (Nat → Int), va_D (fun _ => True) ([((b 7), .inl (kA 0, 180, .inl (aI (G 7))))] ++ ([((a 7), .inl (kA 0, 180, .inl (aI w)))])) := fun w => (hDt (uy V_13 7 w)).sub [19, 7] (by decide) rfl
  refine zcNZ (As := [.ref (b 7), .ref (a 7)]) (rest := []) hC hK (met_X7_copyRow l D kA (b 7) (a 7) 180 180 (G 7) (V_13 7) (Nat.le_of_ble_eq_true rfl) (Nat.le_of_ble_eq_true rfl) hDc hu) zwNcopy znX3_49 hS (zFsub (hD V_13) [19, 7] rfl) hPc rfl hl.1 rfl (Nat.le_of_ble_eq_true rfl) ⟨Nat.le_of_ble_eq_true rfl, Nat.le_of_ble_eq_true rfl⟩ ⟨rfl, rfl⟩ ⟨Nat.le_refl _, Nat.le_refl _⟩ dX3_become_82 (fun H locs hP1 hk1 hS => ?_)
  obtain ⟨V_15, eV_15⟩ : ∃ y, y = uy V_13 7 V_14 := ⟨_, rfl⟩
  have hf := nm_at hf eV_15
  have hP : va_P D vwCl (cs_X3 kA a V_15 ++ (cs_X3 kA b G)) H := by rw [eV_15]; exact zjoin hP (hDt V_13) [19, 7] (w0 := ([((b 7), .inl (kA 0, 180, .inl (aI (G 7))))] ++ ([((a 7), .inl (kA 0, 180, .inl (aI (V_13 7))))]))) rfl (Nat.le_of_ble_eq_true rfl) hk1 hP1
  refine lv_aload_n hC.1 hC.2.1 dX3_become_85 rfl (lv_at hl 1 rfl) <| gfX3_33 hC hK hP (q0 := 12) rfl rfl dX3_become_86 <| lv_aload_n hC.1 hC.2.1 dX3_become_89 rfl (lv_at hl 0 rfl) <| gfX3_33 hC hK hP (q0 := 0) rfl rfl dX3_become_90 <| ?_
  obtain ⟨V_16, hu, hf⟩ := bd_some hf
  have hPc : va_P D vwCl ([((b 8), .inl (kA 0, 180, .inl (aI (G 8))))] ++ ([((a 8), .inl (kA 0, 180, .inl (aI (V_15 8))))])) _ := hP.sub [20, 8] rfl
  have hDc : ∀ w : (Nat → Int), va_D (fun _ => True) ([((b 8), .inl (kA 0, 180, .inl (aI (G 8))))] ++ ([((a 8), .inl (kA 0, 180, .inl (aI w)))])) := fun w => (hDt (uy V_15 8 w)).sub [20, 8] (by decide) rfl
  refine zcNZ (As := [.ref (b 8), .ref (a 8)]) (rest := []) hC hK (met_X7_copyRow l D kA (b 8) (a 8) 180 180 (G 8) (V_15 8) (Nat.le_of_ble_eq_true rfl) (Nat.le_of_ble_eq_true rfl) hDc hu) zwNcopy znX3_49 hS (zFsub (hD V_15) [20, 8] rfl) hPc rfl hl.1 rfl (Nat.le_of_ble_eq_true rfl) ⟨Nat.le_of_ble_eq_true rfl, Nat.le_of_ble_eq_true rfl⟩ ⟨rfl, rfl⟩ ⟨Nat.le_refl _, Nat.le_refl _⟩ dX3_become_93 (fun H locs hP1 hk1 hS => ?_)
  obtain ⟨V_17, eV_17⟩ : ∃ y, y = uy V_15 8 V_16 := ⟨_, rfl⟩
  have hf := nm_at hf eV_17
  have hP : va_P D vwCl (cs_X3 kA a V_17 ++ (cs_X3 kA b G)) H := by rw [eV_17]; exact zjoin hP (hDt V_15) [20, 8] (w0 := ([((b 8), .inl (kA 0, 180, .inl (aI (G 8))))] ++ ([((a 8), .inl (kA 0, 180, .inl (aI (V_15 8))))]))) rfl (Nat.le_of_ble_eq_true rfl) hk1 hP1
  refine lv_aload_n hC.1 hC.2.1 dX3_become_96 rfl (lv_at hl 1 rfl) <| gfX3_36 hC hK hP (q0 := 12) rfl rfl dX3_become_97 <| lv_aload_n hC.1 hC.2.1 dX3_become_100 rfl (lv_at hl 0 rfl) <| gfX3_36 hC hK hP (q0 := 0) rfl rfl dX3_become_101 <| ?_
  obtain ⟨V_18, hu, hf⟩ := bd_some hf
  have hPc : va_P D vwCl ([((b 9), .inl (kA 0, 180, .inl (aI (G 9))))] ++ ([((a 9), .inl (kA 0, 180, .inl (aI (V_17 9))))])) _ := hP.sub [21, 9] rfl
  have hDc : ∀ w : (Nat → Int), va_D (fun _ => True) ([((b 9), .inl (kA 0, 180, .inl (aI (G 9))))] ++ ([((a 9), .inl (kA 0, 180, .inl (aI w)))])) := fun w => (hDt (uy V_17 9 w)).sub [21, 9] (by decide) rfl
  refine zcNZ (As := [.ref (b 9), .ref (a 9)]) (rest := []) hC hK (met_X7_copyRow l D kA (b 9) (a 9) 180 180 (G 9) (V_17 9) (Nat.le_of_ble_eq_true rfl) (Nat.le_of_ble_eq_true rfl) hDc hu) zwNcopy znX3_49 hS (zFsub (hD V_17) [21, 9] rfl) hPc rfl hl.1 rfl (Nat.le_of_ble_eq_true rfl) ⟨Nat.le_of_ble_eq_true rfl, Nat.le_of_ble_eq_true rfl⟩ ⟨rfl, rfl⟩ ⟨Nat.le_refl _, Nat.le_refl _⟩ dX3_become_104 (fun H locs hP1 hk1 hS => ?_)
  obtain ⟨V_19, eV_19⟩ : ∃ y, y = uy V_17 9 V_18 := ⟨_, rfl⟩
  have hf := nm_at hf eV_19
  have hP : va_P D vwCl (cs_X3 kA a V_19 ++ (cs_X3 kA b G)) H := by rw [eV_19]; exact zjoin hP (hDt V_17) [21, 9] (w0 := ([((b 9), .inl (kA 0, 180, .inl (aI (G 9))))] ++ ([((a 9), .inl (kA 0, 180, .inl (aI (V_17 9))))]))) rfl (Nat.le_of_ble_eq_true rfl) hk1 hP1
  refine lv_aload_n hC.1 hC.2.1 dX3_become_107 rfl (lv_at hl 1 rfl) <| gfX3_39 hC hK hP (q0 := 12) rfl rfl dX3_become_108 <| lv_aload_n hC.1 hC.2.1 dX3_become_111 rfl (lv_at hl 0 rfl) <| gfX3_39 hC hK hP (q0 := 0) rfl rfl dX3_become_112 <| ?_
  obtain ⟨V_20, hu, hf⟩ := bd_some hf
  have hPc : va_P D vwCl ([((b 10), .inl (kA 0, 180, .inl (aI (G 10))))] ++ ([((a 10), .inl (kA 0, 180, .inl (aI (V_19 10))))])) _ := hP.sub [22, 10] rfl
  have hDc : ∀ w : (Nat → Int), va_D (fun _ => True) ([((b 10), .inl (kA 0, 180, .inl (aI (G 10))))] ++ ([((a 10), .inl (kA 0, 180, .inl (aI w)))])) := fun w => (hDt (uy V_19 10 w)).sub [22, 10] (by decide) rfl
  refine zcNZ (As := [.ref (b 10), .ref (a 10)]) (rest := []) hC hK (met_X7_copyRow l D kA (b 10) (a 10) 180 180 (G 10) (V_19 10) (Nat.le_of_ble_eq_true rfl) (Nat.le_of_ble_eq_true rfl) hDc hu) zwNcopy znX3_49 hS (zFsub (hD V_19) [22, 10] rfl) hPc rfl hl.1 rfl (Nat.le_of_ble_eq_true rfl) ⟨Nat.le_of_ble_eq_true rfl, Nat.le_of_ble_eq_true rfl⟩ ⟨rfl, rfl⟩ ⟨Nat.le_refl _, Nat.le_refl _⟩ dX3_become_115 (fun H locs hP1 hk1 hS => ?_)
  obtain ⟨V_21, eV_21⟩ : ∃ y, y = uy V_19 10 V_20 := ⟨_, rfl⟩
  have hf := nm_at hf eV_21
  have hP : va_P D vwCl (cs_X3 kA a V_21 ++ (cs_X3 kA b G)) H := by rw [eV_21]; exact zjoin hP (hDt V_19) [22, 10] (w0 := ([((b 10), .inl (kA 0, 180, .inl (aI (G 10))))] ++ ([((a 10), .inl (kA 0, 180, .inl (aI (V_19 10))))]))) rfl (Nat.le_of_ble_eq_true rfl) hk1 hP1
  refine lv_aload_n hC.1 hC.2.1 dX3_become_118 rfl (lv_at hl 1 rfl) <| gfX3_42 hC hK hP (q0 := 12) rfl rfl dX3_become_119 <| lv_aload_n hC.1 hC.2.1 dX3_become_122 rfl (lv_at hl 0 rfl) <| gfX3_42 hC hK hP (q0 := 0) rfl rfl dX3_become_123 <| ?_
  obtain ⟨V_22, hu, hf⟩ := bd_some hf
  have hPc : va_P D vwCl ([((b 11), .inl (kA 0, 180, .inl (aI (G 11))))] ++ ([((a 11), .inl (kA 0, 180, .inl (aI (V_21 11))))])) _ := hP.sub [23, 11] rfl
  have hDc : ∀ w : (Nat → Int), va_D (fun _ => True) ([((b 11), .inl (kA 0, 180, .inl (aI (G 11))))] ++ ([((a 11), .inl (kA 0, 180, .inl (aI w)))])) := fun w => (hDt (uy V_21 11 w)).sub [23, 11] (by decide) rfl
  refine zcNZ (As := [.ref (b 11), .ref (a 11)]) (rest := []) hC hK (met_X7_copyRow l D kA (b 11) (a 11) 180 180 (G 11) (V_21 11) (Nat.le_of_ble_eq_true rfl) (Nat.le_of_ble_eq_true rfl) hDc hu) zwNcopy znX3_49 hS (zFsub (hD V_21) [23, 11] rfl) hPc rfl hl.1 rfl (Nat.le_of_ble_eq_true rfl) ⟨Nat.le_of_ble_eq_true rfl, Nat.le_of_ble_eq_true rfl⟩ ⟨rfl, rfl⟩ ⟨Nat.le_refl _, Nat.le_refl _⟩ dX3_become_126 (fun H locs hP1 hk1 hS => ?_)
  obtain ⟨V_23, eV_23⟩ : ∃ y, y = uy V_21 11 V_22 := ⟨_, rfl⟩
  have hf := nm_at hf eV_23
  have hP : va_P D vwCl (cs_X3 kA a V_23 ++ (cs_X3 kA b G)) H := by rw [eV_23]; exact zjoin hP (hDt V_21) [23, 11] (w0 := ([((b 11), .inl (kA 0, 180, .inl (aI (G 11))))] ++ ([((a 11), .inl (kA 0, 180, .inl (aI (V_21 11))))]))) rfl (Nat.le_of_ble_eq_true rfl) hk1 hP1
  have hf := Option.some.inj hf
  exact hret _ _ _ _ rfl (by rw [← hf]; exact hP) hS dX3_become_129
theorem DX3_isFull_0 : ∀ q ∈ ([(0, .aload_n 0, 1), (1, .getfield 45, 3), (4, .bipush 60, 2), (6, .if_icmp .lt 7, 3), (9, .iconst 1, 1), (10, .goto 4, 3), (13, .iconst 0, 1), (14, .ireturn, 1)] : List (Nat × Instr × Nat)), decode cX3_isFull q.1 = .ok q.2 := by decide +kernel
theorem dX3_isFull_0 : decode cX3_isFull 0 = .ok (.aload_n 0, 1) := DX3_isFull_0 (0, .aload_n 0, 1) (List.mem_of_getElem? (i := 0) rfl)
theorem dX3_isFull_1 : decode cX3_isFull 1 = .ok (.getfield 45, 3) := DX3_isFull_0 (1, .getfield 45, 3) (List.mem_of_getElem? (i := 1) rfl)
theorem dX3_isFull_4 : decode cX3_isFull 4 = .ok (.bipush 60, 2) := DX3_isFull_0 (4, .bipush 60, 2) (List.mem_of_getElem? (i := 2) rfl)
theorem dX3_isFull_6 : decode cX3_isFull 6 = .ok (.if_icmp .lt 7, 3) := DX3_isFull_0 (6, .if_icmp .lt 7, 3) (List.mem_of_getElem? (i := 3) rfl)
theorem dX3_isFull_9 : decode cX3_isFull 9 = .ok (.iconst 1, 1) := DX3_isFull_0 (9, .iconst 1, 1) (List.mem_of_getElem? (i := 4) rfl)
theorem dX3_isFull_10 : decode cX3_isFull 10 = .ok (.goto 4, 3) := DX3_isFull_0 (10, .goto 4, 3) (List.mem_of_getElem? (i := 5) rfl)
theorem dX3_isFull_13 : decode cX3_isFull 13 = .ok (.iconst 0, 1) := DX3_isFull_0 (13, .iconst 0, 1) (List.mem_of_getElem? (i := 6) rfl)
theorem dX3_isFull_14 : decode cX3_isFull 14 = .ok (.ireturn, 1) := DX3_isFull_0 (14, .ireturn, 1) (List.mem_of_getElem? (i := 7) rfl)
abbrev rmX3_isFull : Room := { frames := 0, cells := 0, slots := 0, locals := 0 }
set_option maxHeartbeats 400000 in
set_option maxRecDepth 100000 in
theorem met_X3_isFull (l : Launch) (D : va_G) (kA : Nat → ClassId) (a : Nat → Nat) (V : Sz) {r : Bool} (hf : f_X3_isFull V = some r) : MP l yX3_isFull cX3_isFull 1 (some .boolean) rmX3_isFull D kA [.ref (a 0)] (cs_X3 kA a V) (some (vI (bI r))) := by
  refine zPZ (own := RX3) rfl rfl (Nat.le_of_ble_eq_true rfl) ?_
  intro p e s m args below meth c ls Q hC hK hP hl hret
  have hl : lv_has ls 1 [(0, .ref (a 0))] := hl
  unfold f_X3_isFull at hf
  refine lv_aload_n hC.1 hC.2.1 dX3_isFull_0 rfl (lv_at hl 0 rfl) <| gfX3_45 hC hK hP (q0 := 0) rfl rfl dX3_isFull_1 <| zbipush hC.1 hC.2.1 dX3_isFull_4 (by decide) <| ?_
  obtain ⟨hz_1, hf⟩ := ck_some hf
  refine zicmp_lt (tgt := 13) hC.1 hC.2.1 ⟨hz_1, (by decide)⟩ dX3_isFull_6 (by decide) (fun hc => ?_) (fun hc => ?_)
  · have hf := it_t hf hc
    exact ziconst hC.1 hC.2.1 dX3_isFull_13 <| hret (Int32.ofInt (bI false)) _ _ (zb01 _) (qZ hf) dX3_isFull_14
  · have hf := it_f hf hc
    exact ziconst hC.1 hC.2.1 dX3_isFull_9 <| lv_goto (tgt := 14) hC.1 hC.2.1 dX3_isFull_10 (by decide) <| hret (Int32.ofInt (bI true)) _ _ (zb01 _) (qZ hf) dX3_isFull_14
theorem DX3_add_0 : ∀ q ∈ ([(0, .aload_n 0, 1), (1, .invokevirtual 53, 3), (4, .ifCond .eq 5, 3), (7, .iconst (-1), 1), (8, .ireturn, 1), (9, .aload_n 0, 1), (10, .getfield 45, 3), (13, .istore 4, 2), (15, .aload_n 0, 1), (16, .getfield 9, 3), (19, .iload 4, 2), (21, .iload_n 1, 1), (22, .iastore, 1), (23, .aload_n 0, 1), (24, .getfield 15, 3), (27, .iload 4, 2), (29, .iload_n 2, 1), (30, .iastore, 1), (31, .aload_n 0, 1), (32, .getfield 18, 3), (35, .iload 4, 2), (37, .iload_n 3, 1), (38, .iastore, 1), (39, .aload_n 0, 1), (40, .getfield 21, 3), (43, .iload 4, 2), (45, .iconst 0, 1), (46, .iastore, 1), (47, .aload_n 0, 1), (48, .getfield 24, 3), (51, .iload 4, 2), (53, .iconst 0, 1), (54, .iastore, 1), (55, .iload 4, 2), (57, .istore 5, 2), (59, .iload 5, 2), (61, .ifCond .le 43, 3), (64, .aload_n 0, 1), (65, .getfield 9, 3), (68, .aload_n 0, 1)] : List (Nat × Instr × Nat)), decode cX3_add q.1 = .ok q.2 := by decide +kernel
theorem dX3_add_0 : decode cX3_add 0 = .ok (.aload_n 0, 1) := DX3_add_0 (0, .aload_n 0, 1) (List.mem_of_getElem? (i := 0) rfl)
theorem dX3_add_1 : decode cX3_add 1 = .ok (.invokevirtual 53, 3) := DX3_add_0 (1, .invokevirtual 53, 3) (List.mem_of_getElem? (i := 1) rfl)
theorem dX3_add_4 : decode cX3_add 4 = .ok (.ifCond .eq 5, 3) := DX3_add_0 (4, .ifCond .eq 5, 3) (List.mem_of_getElem? (i := 2) rfl)
theorem dX3_add_7 : decode cX3_add 7 = .ok (.iconst (-1), 1) := DX3_add_0 (7, .iconst (-1), 1) (List.mem_of_getElem? (i := 3) rfl)
theorem dX3_add_8 : decode cX3_add 8 = .ok (.ireturn, 1) := DX3_add_0 (8, .ireturn, 1) (List.mem_of_getElem? (i := 4) rfl)
theorem dX3_add_9 : decode cX3_add 9 = .ok (.aload_n 0, 1) := DX3_add_0 (9, .aload_n 0, 1) (List.mem_of_getElem? (i := 5) rfl)
theorem dX3_add_10 : decode cX3_add 10 = .ok (.getfield 45, 3) := DX3_add_0 (10, .getfield 45, 3) (List.mem_of_getElem? (i := 6) rfl)
theorem dX3_add_13 : decode cX3_add 13 = .ok (.istore 4, 2) := DX3_add_0 (13, .istore 4, 2) (List.mem_of_getElem? (i := 7) rfl)
theorem dX3_add_15 : decode cX3_add 15 = .ok (.aload_n 0, 1) := DX3_add_0 (15, .aload_n 0, 1) (List.mem_of_getElem? (i := 8) rfl)
theorem dX3_add_16 : decode cX3_add 16 = .ok (.getfield 9, 3) := DX3_add_0 (16, .getfield 9, 3) (List.mem_of_getElem? (i := 9) rfl)
theorem dX3_add_19 : decode cX3_add 19 = .ok (.iload 4, 2) := DX3_add_0 (19, .iload 4, 2) (List.mem_of_getElem? (i := 10) rfl)
theorem dX3_add_21 : decode cX3_add 21 = .ok (.iload_n 1, 1) := DX3_add_0 (21, .iload_n 1, 1) (List.mem_of_getElem? (i := 11) rfl)
theorem dX3_add_22 : decode cX3_add 22 = .ok (.iastore, 1) := DX3_add_0 (22, .iastore, 1) (List.mem_of_getElem? (i := 12) rfl)
theorem dX3_add_23 : decode cX3_add 23 = .ok (.aload_n 0, 1) := DX3_add_0 (23, .aload_n 0, 1) (List.mem_of_getElem? (i := 13) rfl)
theorem dX3_add_24 : decode cX3_add 24 = .ok (.getfield 15, 3) := DX3_add_0 (24, .getfield 15, 3) (List.mem_of_getElem? (i := 14) rfl)
theorem dX3_add_27 : decode cX3_add 27 = .ok (.iload 4, 2) := DX3_add_0 (27, .iload 4, 2) (List.mem_of_getElem? (i := 15) rfl)
theorem dX3_add_29 : decode cX3_add 29 = .ok (.iload_n 2, 1) := DX3_add_0 (29, .iload_n 2, 1) (List.mem_of_getElem? (i := 16) rfl)
theorem dX3_add_30 : decode cX3_add 30 = .ok (.iastore, 1) := DX3_add_0 (30, .iastore, 1) (List.mem_of_getElem? (i := 17) rfl)
theorem dX3_add_31 : decode cX3_add 31 = .ok (.aload_n 0, 1) := DX3_add_0 (31, .aload_n 0, 1) (List.mem_of_getElem? (i := 18) rfl)
theorem dX3_add_32 : decode cX3_add 32 = .ok (.getfield 18, 3) := DX3_add_0 (32, .getfield 18, 3) (List.mem_of_getElem? (i := 19) rfl)
theorem dX3_add_35 : decode cX3_add 35 = .ok (.iload 4, 2) := DX3_add_0 (35, .iload 4, 2) (List.mem_of_getElem? (i := 20) rfl)
theorem dX3_add_37 : decode cX3_add 37 = .ok (.iload_n 3, 1) := DX3_add_0 (37, .iload_n 3, 1) (List.mem_of_getElem? (i := 21) rfl)
theorem dX3_add_38 : decode cX3_add 38 = .ok (.iastore, 1) := DX3_add_0 (38, .iastore, 1) (List.mem_of_getElem? (i := 22) rfl)
theorem dX3_add_39 : decode cX3_add 39 = .ok (.aload_n 0, 1) := DX3_add_0 (39, .aload_n 0, 1) (List.mem_of_getElem? (i := 23) rfl)
theorem dX3_add_40 : decode cX3_add 40 = .ok (.getfield 21, 3) := DX3_add_0 (40, .getfield 21, 3) (List.mem_of_getElem? (i := 24) rfl)
theorem dX3_add_43 : decode cX3_add 43 = .ok (.iload 4, 2) := DX3_add_0 (43, .iload 4, 2) (List.mem_of_getElem? (i := 25) rfl)
theorem dX3_add_45 : decode cX3_add 45 = .ok (.iconst 0, 1) := DX3_add_0 (45, .iconst 0, 1) (List.mem_of_getElem? (i := 26) rfl)
theorem dX3_add_46 : decode cX3_add 46 = .ok (.iastore, 1) := DX3_add_0 (46, .iastore, 1) (List.mem_of_getElem? (i := 27) rfl)
theorem dX3_add_47 : decode cX3_add 47 = .ok (.aload_n 0, 1) := DX3_add_0 (47, .aload_n 0, 1) (List.mem_of_getElem? (i := 28) rfl)
theorem dX3_add_48 : decode cX3_add 48 = .ok (.getfield 24, 3) := DX3_add_0 (48, .getfield 24, 3) (List.mem_of_getElem? (i := 29) rfl)
theorem dX3_add_51 : decode cX3_add 51 = .ok (.iload 4, 2) := DX3_add_0 (51, .iload 4, 2) (List.mem_of_getElem? (i := 30) rfl)
theorem dX3_add_53 : decode cX3_add 53 = .ok (.iconst 0, 1) := DX3_add_0 (53, .iconst 0, 1) (List.mem_of_getElem? (i := 31) rfl)
theorem dX3_add_54 : decode cX3_add 54 = .ok (.iastore, 1) := DX3_add_0 (54, .iastore, 1) (List.mem_of_getElem? (i := 32) rfl)
theorem dX3_add_55 : decode cX3_add 55 = .ok (.iload 4, 2) := DX3_add_0 (55, .iload 4, 2) (List.mem_of_getElem? (i := 33) rfl)
theorem dX3_add_57 : decode cX3_add 57 = .ok (.istore 5, 2) := DX3_add_0 (57, .istore 5, 2) (List.mem_of_getElem? (i := 34) rfl)
theorem dX3_add_59 : decode cX3_add 59 = .ok (.iload 5, 2) := DX3_add_0 (59, .iload 5, 2) (List.mem_of_getElem? (i := 35) rfl)
theorem dX3_add_61 : decode cX3_add 61 = .ok (.ifCond .le 43, 3) := DX3_add_0 (61, .ifCond .le 43, 3) (List.mem_of_getElem? (i := 36) rfl)
theorem dX3_add_64 : decode cX3_add 64 = .ok (.aload_n 0, 1) := DX3_add_0 (64, .aload_n 0, 1) (List.mem_of_getElem? (i := 37) rfl)
theorem dX3_add_65 : decode cX3_add 65 = .ok (.getfield 9, 3) := DX3_add_0 (65, .getfield 9, 3) (List.mem_of_getElem? (i := 38) rfl)
theorem dX3_add_68 : decode cX3_add 68 = .ok (.aload_n 0, 1) := DX3_add_0 (68, .aload_n 0, 1) (List.mem_of_getElem? (i := 39) rfl)
theorem DX3_add_1 : ∀ q ∈ ([(69, .getfield 27, 3), (72, .iload 5, 2), (74, .iconst 1, 1), (75, .isub, 1), (76, .iaload, 1), (77, .iaload, 1), (78, .iload_n 1, 1), (79, .if_icmp .le 25, 3), (82, .aload_n 0, 1), (83, .getfield 27, 3), (86, .iload 5, 2), (88, .aload_n 0, 1), (89, .getfield 27, 3), (92, .iload 5, 2), (94, .iconst 1, 1), (95, .isub, 1), (96, .iaload, 1), (97, .iastore, 1), (98, .iinc 5 (-1), 3), (101, .goto (-42), 3), (104, .aload_n 0, 1), (105, .getfield 27, 3), (108, .iload 5, 2), (110, .iload 4, 2), (112, .iastore, 1), (113, .aload_n 0, 1), (114, .dup, 1), (115, .getfield 45, 3), (118, .iconst 1, 1), (119, .iadd, 1), (120, .putfield 45, 3), (123, .iload 4, 2), (125, .ireturn, 1)] : List (Nat × Instr × Nat)), decode cX3_add q.1 = .ok q.2 := by decide +kernel
theorem dX3_add_69 : decode cX3_add 69 = .ok (.getfield 27, 3) := DX3_add_1 (69, .getfield 27, 3) (List.mem_of_getElem? (i := 0) rfl)
theorem dX3_add_72 : decode cX3_add 72 = .ok (.iload 5, 2) := DX3_add_1 (72, .iload 5, 2) (List.mem_of_getElem? (i := 1) rfl)
theorem dX3_add_74 : decode cX3_add 74 = .ok (.iconst 1, 1) := DX3_add_1 (74, .iconst 1, 1) (List.mem_of_getElem? (i := 2) rfl)
theorem dX3_add_75 : decode cX3_add 75 = .ok (.isub, 1) := DX3_add_1 (75, .isub, 1) (List.mem_of_getElem? (i := 3) rfl)
theorem dX3_add_76 : decode cX3_add 76 = .ok (.iaload, 1) := DX3_add_1 (76, .iaload, 1) (List.mem_of_getElem? (i := 4) rfl)
theorem dX3_add_77 : decode cX3_add 77 = .ok (.iaload, 1) := DX3_add_1 (77, .iaload, 1) (List.mem_of_getElem? (i := 5) rfl)
theorem dX3_add_78 : decode cX3_add 78 = .ok (.iload_n 1, 1) := DX3_add_1 (78, .iload_n 1, 1) (List.mem_of_getElem? (i := 6) rfl)
theorem dX3_add_79 : decode cX3_add 79 = .ok (.if_icmp .le 25, 3) := DX3_add_1 (79, .if_icmp .le 25, 3) (List.mem_of_getElem? (i := 7) rfl)
theorem dX3_add_82 : decode cX3_add 82 = .ok (.aload_n 0, 1) := DX3_add_1 (82, .aload_n 0, 1) (List.mem_of_getElem? (i := 8) rfl)
theorem dX3_add_83 : decode cX3_add 83 = .ok (.getfield 27, 3) := DX3_add_1 (83, .getfield 27, 3) (List.mem_of_getElem? (i := 9) rfl)
theorem dX3_add_86 : decode cX3_add 86 = .ok (.iload 5, 2) := DX3_add_1 (86, .iload 5, 2) (List.mem_of_getElem? (i := 10) rfl)
theorem dX3_add_88 : decode cX3_add 88 = .ok (.aload_n 0, 1) := DX3_add_1 (88, .aload_n 0, 1) (List.mem_of_getElem? (i := 11) rfl)
theorem dX3_add_89 : decode cX3_add 89 = .ok (.getfield 27, 3) := DX3_add_1 (89, .getfield 27, 3) (List.mem_of_getElem? (i := 12) rfl)
theorem dX3_add_92 : decode cX3_add 92 = .ok (.iload 5, 2) := DX3_add_1 (92, .iload 5, 2) (List.mem_of_getElem? (i := 13) rfl)
theorem dX3_add_94 : decode cX3_add 94 = .ok (.iconst 1, 1) := DX3_add_1 (94, .iconst 1, 1) (List.mem_of_getElem? (i := 14) rfl)
theorem dX3_add_95 : decode cX3_add 95 = .ok (.isub, 1) := DX3_add_1 (95, .isub, 1) (List.mem_of_getElem? (i := 15) rfl)
theorem dX3_add_96 : decode cX3_add 96 = .ok (.iaload, 1) := DX3_add_1 (96, .iaload, 1) (List.mem_of_getElem? (i := 16) rfl)
theorem dX3_add_97 : decode cX3_add 97 = .ok (.iastore, 1) := DX3_add_1 (97, .iastore, 1) (List.mem_of_getElem? (i := 17) rfl)
theorem dX3_add_98 : decode cX3_add 98 = .ok (.iinc 5 (-1), 3) := DX3_add_1 (98, .iinc 5 (-1), 3) (List.mem_of_getElem? (i := 18) rfl)
theorem dX3_add_101 : decode cX3_add 101 = .ok (.goto (-42), 3) := DX3_add_1 (101, .goto (-42), 3) (List.mem_of_getElem? (i := 19) rfl)
theorem dX3_add_104 : decode cX3_add 104 = .ok (.aload_n 0, 1) := DX3_add_1 (104, .aload_n 0, 1) (List.mem_of_getElem? (i := 20) rfl)
theorem dX3_add_105 : decode cX3_add 105 = .ok (.getfield 27, 3) := DX3_add_1 (105, .getfield 27, 3) (List.mem_of_getElem? (i := 21) rfl)
theorem dX3_add_108 : decode cX3_add 108 = .ok (.iload 5, 2) := DX3_add_1 (108, .iload 5, 2) (List.mem_of_getElem? (i := 22) rfl)
theorem dX3_add_110 : decode cX3_add 110 = .ok (.iload 4, 2) := DX3_add_1 (110, .iload 4, 2) (List.mem_of_getElem? (i := 23) rfl)
theorem dX3_add_112 : decode cX3_add 112 = .ok (.iastore, 1) := DX3_add_1 (112, .iastore, 1) (List.mem_of_getElem? (i := 24) rfl)
theorem dX3_add_113 : decode cX3_add 113 = .ok (.aload_n 0, 1) := DX3_add_1 (113, .aload_n 0, 1) (List.mem_of_getElem? (i := 25) rfl)
theorem dX3_add_114 : decode cX3_add 114 = .ok (.dup, 1) := DX3_add_1 (114, .dup, 1) (List.mem_of_getElem? (i := 26) rfl)
theorem dX3_add_115 : decode cX3_add 115 = .ok (.getfield 45, 3) := DX3_add_1 (115, .getfield 45, 3) (List.mem_of_getElem? (i := 27) rfl)
theorem dX3_add_118 : decode cX3_add 118 = .ok (.iconst 1, 1) := DX3_add_1 (118, .iconst 1, 1) (List.mem_of_getElem? (i := 28) rfl)
theorem dX3_add_119 : decode cX3_add 119 = .ok (.iadd, 1) := DX3_add_1 (119, .iadd, 1) (List.mem_of_getElem? (i := 29) rfl)
theorem dX3_add_120 : decode cX3_add 120 = .ok (.putfield 45, 3) := DX3_add_1 (120, .putfield 45, 3) (List.mem_of_getElem? (i := 30) rfl)
theorem dX3_add_123 : decode cX3_add 123 = .ok (.iload 4, 2) := DX3_add_1 (123, .iload 4, 2) (List.mem_of_getElem? (i := 31) rfl)
theorem dX3_add_125 : decode cX3_add 125 = .ok (.ireturn, 1) := DX3_add_1 (125, .ireturn, 1) (List.mem_of_getElem? (i := 32) rfl)
abbrev rmX3_add : Room := { frames := 1, cells := 0, slots := 0, locals := 20 }
set_option maxHeartbeats 400000 in
set_option maxRecDepth 100000 in
theorem met_X3_add (l : Launch) (D : va_G) (kA : Nat → ClassId) (a : Nat → Nat) (n : Nat) (V0 : Sz) (x1 : Int) (x2 : Int) (x3 : Int) (hDt : ∀ w : Sz, va_D (fun _ => True) (cs_X3 kA a w)) {r : Int} {Vr : Sz} (hf : f_X3_add n V0 x1 x2 x3 = some (r, Vr)) : MZ l yX3_add cX3_add 6 (some .int) rmX3_add D kA [.ref (a 0), vI x1, vI x2, vI x3] (cs_X3 kA a V0) (cs_X3 kA a Vr) (some (vI r)) := by
  refine zZI (own := RX3) rfl rfl (Nat.le_of_ble_eq_true rfl) ?_
  intro p e s m args below meth c ls Q hC hK hP hl hret
  have hl : lv_has ls 6 [(0, .ref (a 0)), (1, vI x1), (2, vI x2), (3, vI x3)] := hl
  have hS : va_S (zF (cs_X3 kA a V0)) s.heap s.heap [] := va_S.rf
  have hD := zDself (C := fun w : Sz => (cs_X3 kA a w)) hDt V0 (fun _ => rfl)
  try dsimp only at hD
  generalize hAe : zF (cs_X3 kA a V0) = A0 at hS hD hret
  unfold f_X3_add at hf
  have J104 : ∀ (y4 : Int) (y5 : Int) (V : Sz) (H : Heap) (locs : List Loc) (ls : Array Slot), jX3_add_104 n x1 x2 x3 y4 y5 V = some (r, Vr) → va_P D vwCl (cs_X3 kA a V) H → va_S A0 s.heap H locs → lv_has ls 6 [(0, .ref (a 0)), (4, vI y4), (5, vI y5)] → W p l e rmX3_add s m args below meth c H locs 0 0 Q (F0 m 104 ls []) := by
    intro y4 y5 V H locs ls hf hP hS hl
    unfold jX3_add_104 at hf
    refine lv_aload_n hC.1 hC.2.1 dX3_add_104 rfl (lv_at hl 0 rfl) <| gfX3_27 hC hK hP (q0 := 0) rfl rfl dX3_add_105 <| ziload hC.1 hC.2.1 dX3_add_108 (lv_at hl 2 rfl) <| ziload hC.1 hC.2.1 dX3_add_110 (lv_at hl 1 rfl) <| ?_
    obtain ⟨hz_10, hf⟩ := ck_some hf
    refine jas hC hK hP (hD V) hS (q0 := 6) rfl (Nat.le_of_ble_eq_true rfl) hz_10 rfl dX3_add_112 (fun H locs hP hS => ?_)
    obtain ⟨V_11, eV_11⟩ : ∃ y, y = uz V 6 y5.toNat y4 := ⟨_, rfl⟩
    have hf := nm_at hf eV_11
    have hP : va_P D vwCl (cs_X3 kA a V_11) H := by rw [eV_11]; exact hP
    refine lv_aload_n hC.1 hC.2.1 dX3_add_113 rfl (lv_at hl 0 rfl) <| lv_dup hC.1 hC.2.1 dX3_add_114 rfl <| gfX3_45 hC hK hP (q0 := 0) rfl rfl dX3_add_115 <| ziconst hC.1 hC.2.1 dX3_add_118 <| ziadd hC.1 hC.2.1 dX3_add_119 <| ?_
    refine pfX3_45 hC hK hP (hD V_11) hS (q0 := 0) rfl (Nat.le_of_ble_eq_true rfl) dX3_add_120 (fun H locs hP hS => ?_)
    obtain ⟨V_12, eV_12⟩ : ∃ y, y = us V_11 0 ((V_11 0 0) + 1) := ⟨_, rfl⟩
    have hf := nm_at hf eV_12
    have hP : va_P D vwCl (cs_X3 kA a V_12) H := by rw [eV_12]; exact hP
    refine ziload hC.1 hC.2.1 dX3_add_123 (lv_at hl 1 rfl) <| ?_
    have hf := Option.some.inj hf
    simp only [Prod.mk.injEq] at hf
    exact hret (Int32.ofInt y4) _ _ _ _ (congrArg (fun z => some (vI z)) hf.1.symm) (by rw [← hf.2]; exact hP) hS dX3_add_125
  have L59 : ∀ (k59 : Nat) (y4 : Int) (y5 : Int) (V : Sz) (H : Heap) (locs : List Loc) (ls : Array Slot), lpF (bX3_add_59 n x1 x2 x3) k59 (y4, y5, V) = some (r, Vr) → va_P D vwCl (cs_X3 kA a V) H → va_S A0 s.heap H locs → lv_has ls 6 [(0, .ref (a 0)), (1, vI x1), (4, vI y4), (5, vI y5)] → W p l e rmX3_add s m args below meth c H locs 0 0 Q (F0 m 59 ls []) := by
    intro k59
    induction k59 with
    | zero => intro y4 y5 V H locs ls hf hP hS hl; exact lp_0 hf
    | succ k59 ih59 =>
      intro y4 y5 V H locs ls hf hP hS hl
      have hf := lp_s hf
      rw [bX3_add_59_e] at hf
      refine ziload hC.1 hC.2.1 dX3_add_59 (lv_at hl 3 rfl) <| ?_
      obtain ⟨hz_9, hf⟩ := ck_some hf
      refine zif_le (tgt := 104) hC.1 hC.2.1 hz_9 dX3_add_61 (by decide) (fun hc => ?_) (fun hc => ?_)
      · have hf := it_t hf hc
        exact J104 _ _ _ _ _ _ hf hP hS (lv_sub hl [0, 2, 3] rfl)
      · have hf := it_f hf hc
        refine lv_aload_n hC.1 hC.2.1 dX3_add_64 rfl (lv_at hl 0 rfl) <| gfX3_9 hC hK hP (q0 := 0) rfl rfl dX3_add_65 <| lv_aload_n hC.1 hC.2.1 dX3_add_68 rfl (lv_at hl 0 rfl) <| gfX3_27 hC hK hP (q0 := 0) rfl rfl dX3_add_69 <| ziload hC.1 hC.2.1 dX3_add_72 (lv_at hl 3 rfl) <| ziconst hC.1 hC.2.1 dX3_add_74 <| zisub hC.1 hC.2.1 dX3_add_75 <| ?_
        obtain ⟨hz_13, hf⟩ := ck_some hf
        refine jal hC hK hP (q0 := 6) rfl (Nat.le_of_ble_eq_true rfl) hz_13 rfl dX3_add_76 <| ?_
        obtain ⟨hz_14, hf⟩ := ck_some hf
        refine jal hC hK hP (q0 := 1) rfl (Nat.le_of_ble_eq_true rfl) hz_14 rfl dX3_add_77 <| ziload_n hC.1 hC.2.1 dX3_add_78 rfl (lv_at hl 1 rfl) <| ?_
        obtain ⟨hz_15, hf⟩ := ck_some hf
        refine zicmp_le (tgt := 104) hC.1 hC.2.1 ⟨hz_15.1, hz_15.2⟩ dX3_add_79 (by decide) (fun hc => ?_) (fun hc => ?_)
        · have hf := it_t hf hc
          exact J104 _ _ _ _ _ _ hf hP hS (lv_sub hl [0, 2, 3] rfl)
        · have hf := it_f hf hc
          refine lv_aload_n hC.1 hC.2.1 dX3_add_82 rfl (lv_at hl 0 rfl) <| gfX3_27 hC hK hP (q0 := 0) rfl rfl dX3_add_83 <| ziload hC.1 hC.2.1 dX3_add_86 (lv_at hl 3 rfl) <| lv_aload_n hC.1 hC.2.1 dX3_add_88 rfl (lv_at hl 0 rfl) <| gfX3_27 hC hK hP (q0 := 0) rfl rfl dX3_add_89 <| ziload hC.1 hC.2.1 dX3_add_92 (lv_at hl 3 rfl) <| ziconst hC.1 hC.2.1 dX3_add_94 <| zisub hC.1 hC.2.1 dX3_add_95 <| jal hC hK hP (q0 := 6) rfl (Nat.le_of_ble_eq_true rfl) hz_13 rfl dX3_add_96 <| ?_
          obtain ⟨hz_16, hf⟩ := ck_some hf
          refine jas hC hK hP (hD V) hS (q0 := 6) rfl (Nat.le_of_ble_eq_true rfl) hz_16 rfl dX3_add_97 (fun H locs hP hS => ?_)
          obtain ⟨V_17, eV_17⟩ : ∃ y, y = uz V 6 y5.toNat (V 6 (y5 - 1).toNat) := ⟨_, rfl⟩
          have hf := nm_at hf eV_17
          have hP : va_P D vwCl (cs_X3 kA a V_17) H := by rw [eV_17]; exact hP
          obtain ⟨x_18, ex_18⟩ : ∃ y : Int, y = y5 + (-1) := ⟨_, rfl⟩
          have hf := nm_at hf ex_18
          refine ziinc (v := x_18) (lv' := [(5, vI x_18), (0, .ref (a 0)), (1, vI x1), (4, vI y4)]) hC.1 hC.2.1 dX3_add_98 hl (k := 3) rfl ex_18 (by decide) rfl (fun ls hl => ?_)
          exact lv_goto (tgt := 59) hC.1 hC.2.1 dX3_add_101 (by decide) <| ih59 _ _ _ _ _ _ hf hP hS (lv_sub hl [1, 2, 3, 0] rfl)
  refine lv_aload_n hC.1 hC.2.1 dX3_add_0 rfl (lv_at hl 0 rfl) <| ?_
  obtain ⟨r_1, hu, hf⟩ := bd_some hf
  refine zcVP (As := []) (rest := []) hC hK (met_X3_isFull l D kA a V0 hu) zwX3_53 hP (q0 := 0) rfl rfl rfl rfl hl.1 rfl (Nat.le_of_ble_eq_true rfl) ⟨Nat.le_of_ble_eq_true rfl, Nat.le_of_ble_eq_true rfl⟩ ⟨rfl, rfl⟩ ⟨Nat.le_refl _, Nat.le_refl _⟩ dX3_add_1 <| zifb_eq (tgt := 9) hC.1 hC.2.1 dX3_add_4 (by decide) (fun hc => ?_) (fun hc => ?_)
  · have hf := it_t hf hc
    refine lv_aload_n hC.1 hC.2.1 dX3_add_9 rfl (lv_at hl 0 rfl) <| gfX3_45 hC hK hP (q0 := 0) rfl rfl dX3_add_10 <| ?_
    refine ztopi (fun x_2 ex_2 => ?_)
    have hf := nm_at hf ex_2
    refine zistore (lv' := [(4, vI x_2), (0, .ref (a 0)), (1, vI x1), (2, vI x2), (3, vI x3)]) hC.1 hC.2.1 dX3_add_13 hl (by decide) rfl (fun ls hl => ?_)
    refine lv_aload_n hC.1 hC.2.1 dX3_add_15 rfl (lv_at hl 1 rfl) <| gfX3_9 hC hK hP (q0 := 0) rfl rfl dX3_add_16 <| ziload hC.1 hC.2.1 dX3_add_19 (lv_at hl 0 rfl) <| ziload_n hC.1 hC.2.1 dX3_add_21 rfl (lv_at hl 2 rfl) <| ?_
    obtain ⟨hz_3, hf⟩ := ck_some hf
    refine jas hC hK hP (hD V0) hS (q0 := 1) rfl (Nat.le_of_ble_eq_true rfl) hz_3 rfl dX3_add_22 (fun H locs hP hS => ?_)
    obtain ⟨V_4, eV_4⟩ : ∃ y, y = uz V0 1 x_2.toNat x1 := ⟨_, rfl⟩
    have hf := nm_at hf eV_4
    have hP : va_P D vwCl (cs_X3 kA a V_4) H := by rw [eV_4]; exact hP
    refine lv_aload_n hC.1 hC.2.1 dX3_add_23 rfl (lv_at hl 1 rfl) <| gfX3_15 hC hK hP (q0 := 0) rfl rfl dX3_add_24 <| ziload hC.1 hC.2.1 dX3_add_27 (lv_at hl 0 rfl) <| ziload_n hC.1 hC.2.1 dX3_add_29 rfl (lv_at hl 3 rfl) <| ?_
    refine jas hC hK hP (hD V_4) hS (q0 := 2) rfl (Nat.le_of_ble_eq_true rfl) hz_3 rfl dX3_add_30 (fun H locs hP hS => ?_)
    obtain ⟨V_5, eV_5⟩ : ∃ y, y = uz V_4 2 x_2.toNat x2 := ⟨_, rfl⟩
    have hf := nm_at hf eV_5
    have hP : va_P D vwCl (cs_X3 kA a V_5) H := by rw [eV_5]; exact hP
    refine lv_aload_n hC.1 hC.2.1 dX3_add_31 rfl (lv_at hl 1 rfl) <| gfX3_18 hC hK hP (q0 := 0) rfl rfl dX3_add_32 <| ziload hC.1 hC.2.1 dX3_add_35 (lv_at hl 0 rfl) <| ziload_n hC.1 hC.2.1 dX3_add_37 rfl (lv_at hl 4 rfl) <| ?_
    refine jas hC hK hP (hD V_5) hS (q0 := 3) rfl (Nat.le_of_ble_eq_true rfl) hz_3 rfl dX3_add_38 (fun H locs hP hS => ?_)
    obtain ⟨V_6, eV_6⟩ : ∃ y, y = uz V_5 3 x_2.toNat x3 := ⟨_, rfl⟩
    have hf := nm_at hf eV_6
    have hP : va_P D vwCl (cs_X3 kA a V_6) H := by rw [eV_6]; exact hP
    refine lv_aload_n hC.1 hC.2.1 dX3_add_39 rfl (lv_at hl 1 rfl) <| gfX3_21 hC hK hP (q0 := 0) rfl rfl dX3_add_40 <| ziload hC.1 hC.2.1 dX3_add_43 (lv_at hl 0 rfl) <| ziconst hC.1 hC.2.1 dX3_add_45 <| ?_
    refine jas hC hK hP (hD V_6) hS (q0 := 4) rfl (Nat.le_of_ble_eq_true rfl) hz_3 rfl dX3_add_46 (fun H locs hP hS => ?_)
    obtain ⟨V_7, eV_7⟩ : ∃ y, y = uz V_6 4 x_2.toNat 0 := ⟨_, rfl⟩
    have hf := nm_at hf eV_7
    have hP : va_P D vwCl (cs_X3 kA a V_7) H := by rw [eV_7]; exact hP
    refine lv_aload_n hC.1 hC.2.1 dX3_add_47 rfl (lv_at hl 1 rfl) <| gfX3_24 hC hK hP (q0 := 0) rfl rfl dX3_add_48 <| ziload hC.1 hC.2.1 dX3_add_51 (lv_at hl 0 rfl) <| ziconst hC.1 hC.2.1 dX3_add_53 <| ?_
    refine jas hC hK hP (hD V_7) hS (q0 := 5) rfl (Nat.le_of_ble_eq_true rfl) hz_3 rfl dX3_add_54 (fun H locs hP hS => ?_)
    obtain ⟨V_8, eV_8⟩ : ∃ y, y = uz V_7 5 x_2.toNat 0 := ⟨_, rfl⟩
    have hf := nm_at hf eV_8
    have hP : va_P D vwCl (cs_X3 kA a V_8) H := by rw [eV_8]; exact hP
    refine ziload hC.1 hC.2.1 dX3_add_55 (lv_at hl 0 rfl) <| zistore (lv' := [(5, vI x_2), (4, vI x_2), (0, .ref (a 0)), (1, vI x1), (2, vI x2), (3, vI x3)]) hC.1 hC.2.1 dX3_add_57 hl (by decide) rfl (fun ls hl => ?_)
    exact L59 n _ _ _ _ _ _ hf hP hS (lv_sub hl [2, 3, 1, 0] rfl)
  · have hf := it_f hf hc
    refine ziconst hC.1 hC.2.1 dX3_add_7 <| ?_
    have hf := Option.some.inj hf
    simp only [Prod.mk.injEq] at hf
    exact hret (Int32.ofInt (-1)) _ _ _ _ (congrArg (fun z => some (vI z)) hf.1.symm) (by rw [← hf.2]; exact hP) hS dX3_add_8
theorem DX3_shareOut_0 : ∀ q ∈ ([(0, .iload_n 1, 1), (1, .iconst 3, 1), (2, .imul, 1), (3, .istore_n 2, 1), (4, .iconst 0, 1), (5, .istore_n 3, 1), (6, .iconst 0, 1), (7, .istore 4, 2), (9, .iload 4, 2), (11, .aload_n 0, 1), (12, .getfield 24, 3), (15, .iload_n 1, 1), (16, .iaload, 1), (17, .if_icmp .ge 21, 3), (20, .iload_n 3, 1), (21, .aload_n 0, 1), (22, .getfield 33, 3), (25, .iload_n 2, 1), (26, .iload 4, 2), (28, .iadd, 1), (29, .iaload, 1), (30, .iadd, 1), (31, .istore_n 3, 1), (32, .iinc 4 1, 3), (35, .goto (-26), 3), (38, .iload_n 3, 1), (39, .ifCond .gt 4, 3), (42, .return_, 1), (43, .aload_n 0, 1), (44, .getfield 15, 3), (47, .iload_n 1, 1), (48, .iaload, 1), (49, .istore 4, 2), (51, .iconst 0, 1), (52, .istore 5, 2), (54, .iload 5, 2), (56, .aload_n 0, 1), (57, .getfield 24, 3), (60, .iload_n 1, 1), (61, .iaload, 1)] : List (Nat × Instr × Nat)), decode cX3_shareOut q.1 = .ok q.2 := by decide +kernel
theorem dX3_shareOut_0 : decode cX3_shareOut 0 = .ok (.iload_n 1, 1) := DX3_shareOut_0 (0, .iload_n 1, 1) (List.mem_of_getElem? (i := 0) rfl)
theorem dX3_shareOut_1 : decode cX3_shareOut 1 = .ok (.iconst 3, 1) := DX3_shareOut_0 (1, .iconst 3, 1) (List.mem_of_getElem? (i := 1) rfl)
theorem dX3_shareOut_2 : decode cX3_shareOut 2 = .ok (.imul, 1) := DX3_shareOut_0 (2, .imul, 1) (List.mem_of_getElem? (i := 2) rfl)
theorem dX3_shareOut_3 : decode cX3_shareOut 3 = .ok (.istore_n 2, 1) := DX3_shareOut_0 (3, .istore_n 2, 1) (List.mem_of_getElem? (i := 3) rfl)
theorem dX3_shareOut_4 : decode cX3_shareOut 4 = .ok (.iconst 0, 1) := DX3_shareOut_0 (4, .iconst 0, 1) (List.mem_of_getElem? (i := 4) rfl)
theorem dX3_shareOut_5 : decode cX3_shareOut 5 = .ok (.istore_n 3, 1) := DX3_shareOut_0 (5, .istore_n 3, 1) (List.mem_of_getElem? (i := 5) rfl)
theorem dX3_shareOut_6 : decode cX3_shareOut 6 = .ok (.iconst 0, 1) := DX3_shareOut_0 (6, .iconst 0, 1) (List.mem_of_getElem? (i := 6) rfl)
theorem dX3_shareOut_7 : decode cX3_shareOut 7 = .ok (.istore 4, 2) := DX3_shareOut_0 (7, .istore 4, 2) (List.mem_of_getElem? (i := 7) rfl)
theorem dX3_shareOut_9 : decode cX3_shareOut 9 = .ok (.iload 4, 2) := DX3_shareOut_0 (9, .iload 4, 2) (List.mem_of_getElem? (i := 8) rfl)
theorem dX3_shareOut_11 : decode cX3_shareOut 11 = .ok (.aload_n 0, 1) := DX3_shareOut_0 (11, .aload_n 0, 1) (List.mem_of_getElem? (i := 9) rfl)
theorem dX3_shareOut_12 : decode cX3_shareOut 12 = .ok (.getfield 24, 3) := DX3_shareOut_0 (12, .getfield 24, 3) (List.mem_of_getElem? (i := 10) rfl)
theorem dX3_shareOut_15 : decode cX3_shareOut 15 = .ok (.iload_n 1, 1) := DX3_shareOut_0 (15, .iload_n 1, 1) (List.mem_of_getElem? (i := 11) rfl)
theorem dX3_shareOut_16 : decode cX3_shareOut 16 = .ok (.iaload, 1) := DX3_shareOut_0 (16, .iaload, 1) (List.mem_of_getElem? (i := 12) rfl)
theorem dX3_shareOut_17 : decode cX3_shareOut 17 = .ok (.if_icmp .ge 21, 3) := DX3_shareOut_0 (17, .if_icmp .ge 21, 3) (List.mem_of_getElem? (i := 13) rfl)
theorem dX3_shareOut_20 : decode cX3_shareOut 20 = .ok (.iload_n 3, 1) := DX3_shareOut_0 (20, .iload_n 3, 1) (List.mem_of_getElem? (i := 14) rfl)
theorem dX3_shareOut_21 : decode cX3_shareOut 21 = .ok (.aload_n 0, 1) := DX3_shareOut_0 (21, .aload_n 0, 1) (List.mem_of_getElem? (i := 15) rfl)
theorem dX3_shareOut_22 : decode cX3_shareOut 22 = .ok (.getfield 33, 3) := DX3_shareOut_0 (22, .getfield 33, 3) (List.mem_of_getElem? (i := 16) rfl)
theorem dX3_shareOut_25 : decode cX3_shareOut 25 = .ok (.iload_n 2, 1) := DX3_shareOut_0 (25, .iload_n 2, 1) (List.mem_of_getElem? (i := 17) rfl)
theorem dX3_shareOut_26 : decode cX3_shareOut 26 = .ok (.iload 4, 2) := DX3_shareOut_0 (26, .iload 4, 2) (List.mem_of_getElem? (i := 18) rfl)
theorem dX3_shareOut_28 : decode cX3_shareOut 28 = .ok (.iadd, 1) := DX3_shareOut_0 (28, .iadd, 1) (List.mem_of_getElem? (i := 19) rfl)
theorem dX3_shareOut_29 : decode cX3_shareOut 29 = .ok (.iaload, 1) := DX3_shareOut_0 (29, .iaload, 1) (List.mem_of_getElem? (i := 20) rfl)
theorem dX3_shareOut_30 : decode cX3_shareOut 30 = .ok (.iadd, 1) := DX3_shareOut_0 (30, .iadd, 1) (List.mem_of_getElem? (i := 21) rfl)
theorem dX3_shareOut_31 : decode cX3_shareOut 31 = .ok (.istore_n 3, 1) := DX3_shareOut_0 (31, .istore_n 3, 1) (List.mem_of_getElem? (i := 22) rfl)
theorem dX3_shareOut_32 : decode cX3_shareOut 32 = .ok (.iinc 4 1, 3) := DX3_shareOut_0 (32, .iinc 4 1, 3) (List.mem_of_getElem? (i := 23) rfl)
theorem dX3_shareOut_35 : decode cX3_shareOut 35 = .ok (.goto (-26), 3) := DX3_shareOut_0 (35, .goto (-26), 3) (List.mem_of_getElem? (i := 24) rfl)
theorem dX3_shareOut_38 : decode cX3_shareOut 38 = .ok (.iload_n 3, 1) := DX3_shareOut_0 (38, .iload_n 3, 1) (List.mem_of_getElem? (i := 25) rfl)
theorem dX3_shareOut_39 : decode cX3_shareOut 39 = .ok (.ifCond .gt 4, 3) := DX3_shareOut_0 (39, .ifCond .gt 4, 3) (List.mem_of_getElem? (i := 26) rfl)
theorem dX3_shareOut_42 : decode cX3_shareOut 42 = .ok (.return_, 1) := DX3_shareOut_0 (42, .return_, 1) (List.mem_of_getElem? (i := 27) rfl)
theorem dX3_shareOut_43 : decode cX3_shareOut 43 = .ok (.aload_n 0, 1) := DX3_shareOut_0 (43, .aload_n 0, 1) (List.mem_of_getElem? (i := 28) rfl)
theorem dX3_shareOut_44 : decode cX3_shareOut 44 = .ok (.getfield 15, 3) := DX3_shareOut_0 (44, .getfield 15, 3) (List.mem_of_getElem? (i := 29) rfl)
theorem dX3_shareOut_47 : decode cX3_shareOut 47 = .ok (.iload_n 1, 1) := DX3_shareOut_0 (47, .iload_n 1, 1) (List.mem_of_getElem? (i := 30) rfl)
theorem dX3_shareOut_48 : decode cX3_shareOut 48 = .ok (.iaload, 1) := DX3_shareOut_0 (48, .iaload, 1) (List.mem_of_getElem? (i := 31) rfl)
theorem dX3_shareOut_49 : decode cX3_shareOut 49 = .ok (.istore 4, 2) := DX3_shareOut_0 (49, .istore 4, 2) (List.mem_of_getElem? (i := 32) rfl)
theorem dX3_shareOut_51 : decode cX3_shareOut 51 = .ok (.iconst 0, 1) := DX3_shareOut_0 (51, .iconst 0, 1) (List.mem_of_getElem? (i := 33) rfl)
theorem dX3_shareOut_52 : decode cX3_shareOut 52 = .ok (.istore 5, 2) := DX3_shareOut_0 (52, .istore 5, 2) (List.mem_of_getElem? (i := 34) rfl)
theorem dX3_shareOut_54 : decode cX3_shareOut 54 = .ok (.iload 5, 2) := DX3_shareOut_0 (54, .iload 5, 2) (List.mem_of_getElem? (i := 35) rfl)
theorem dX3_shareOut_56 : decode cX3_shareOut 56 = .ok (.aload_n 0, 1) := DX3_shareOut_0 (56, .aload_n 0, 1) (List.mem_of_getElem? (i := 36) rfl)
theorem dX3_shareOut_57 : decode cX3_shareOut 57 = .ok (.getfield 24, 3) := DX3_shareOut_0 (57, .getfield 24, 3) (List.mem_of_getElem? (i := 37) rfl)
theorem dX3_shareOut_60 : decode cX3_shareOut 60 = .ok (.iload_n 1, 1) := DX3_shareOut_0 (60, .iload_n 1, 1) (List.mem_of_getElem? (i := 38) rfl)
theorem dX3_shareOut_61 : decode cX3_shareOut 61 = .ok (.iaload, 1) := DX3_shareOut_0 (61, .iaload, 1) (List.mem_of_getElem? (i := 39) rfl)
theorem DX3_shareOut_1 : ∀ q ∈ ([(62, .if_icmp .ge 50, 3), (65, .aload_n 0, 1), (66, .getfield 36, 3), (69, .iload_n 2, 1), (70, .iload 5, 2), (72, .iadd, 1), (73, .aload_n 0, 1), (74, .getfield 15, 3), (77, .iload_n 1, 1), (78, .iaload, 1), (79, .aload_n 0, 1), (80, .getfield 33, 3), (83, .iload_n 2, 1), (84, .iload 5, 2), (86, .iadd, 1), (87, .iaload, 1), (88, .imul, 1), (89, .iload_n 3, 1), (90, .idiv, 1), (91, .iastore, 1), (92, .iload 4, 2), (94, .aload_n 0, 1), (95, .getfield 36, 3), (98, .iload_n 2, 1), (99, .iload 5, 2), (101, .iadd, 1), (102, .iaload, 1), (103, .isub, 1), (104, .istore 4, 2), (106, .iinc 5 1, 3), (109, .goto (-55), 3), (112, .iconst 0, 1), (113, .istore 5, 2), (115, .iload 5, 2), (117, .aload_n 0, 1), (118, .getfield 24, 3), (121, .iload_n 1, 1), (122, .iaload, 1), (123, .if_icmp .ge 29, 3), (126, .iload 5, 2)] : List (Nat × Instr × Nat)), decode cX3_shareOut q.1 = .ok q.2 := by decide +kernel
theorem dX3_shareOut_62 : decode cX3_shareOut 62 = .ok (.if_icmp .ge 50, 3) := DX3_shareOut_1 (62, .if_icmp .ge 50, 3) (List.mem_of_getElem? (i := 0) rfl)
theorem dX3_shareOut_65 : decode cX3_shareOut 65 = .ok (.aload_n 0, 1) := DX3_shareOut_1 (65, .aload_n 0, 1) (List.mem_of_getElem? (i := 1) rfl)
theorem dX3_shareOut_66 : decode cX3_shareOut 66 = .ok (.getfield 36, 3) := DX3_shareOut_1 (66, .getfield 36, 3) (List.mem_of_getElem? (i := 2) rfl)
theorem dX3_shareOut_69 : decode cX3_shareOut 69 = .ok (.iload_n 2, 1) := DX3_shareOut_1 (69, .iload_n 2, 1) (List.mem_of_getElem? (i := 3) rfl)
theorem dX3_shareOut_70 : decode cX3_shareOut 70 = .ok (.iload 5, 2) := DX3_shareOut_1 (70, .iload 5, 2) (List.mem_of_getElem? (i := 4) rfl)
theorem dX3_shareOut_72 : decode cX3_shareOut 72 = .ok (.iadd, 1) := DX3_shareOut_1 (72, .iadd, 1) (List.mem_of_getElem? (i := 5) rfl)
theorem dX3_shareOut_73 : decode cX3_shareOut 73 = .ok (.aload_n 0, 1) := DX3_shareOut_1 (73, .aload_n 0, 1) (List.mem_of_getElem? (i := 6) rfl)
theorem dX3_shareOut_74 : decode cX3_shareOut 74 = .ok (.getfield 15, 3) := DX3_shareOut_1 (74, .getfield 15, 3) (List.mem_of_getElem? (i := 7) rfl)
theorem dX3_shareOut_77 : decode cX3_shareOut 77 = .ok (.iload_n 1, 1) := DX3_shareOut_1 (77, .iload_n 1, 1) (List.mem_of_getElem? (i := 8) rfl)
theorem dX3_shareOut_78 : decode cX3_shareOut 78 = .ok (.iaload, 1) := DX3_shareOut_1 (78, .iaload, 1) (List.mem_of_getElem? (i := 9) rfl)
theorem dX3_shareOut_79 : decode cX3_shareOut 79 = .ok (.aload_n 0, 1) := DX3_shareOut_1 (79, .aload_n 0, 1) (List.mem_of_getElem? (i := 10) rfl)
theorem dX3_shareOut_80 : decode cX3_shareOut 80 = .ok (.getfield 33, 3) := DX3_shareOut_1 (80, .getfield 33, 3) (List.mem_of_getElem? (i := 11) rfl)
theorem dX3_shareOut_83 : decode cX3_shareOut 83 = .ok (.iload_n 2, 1) := DX3_shareOut_1 (83, .iload_n 2, 1) (List.mem_of_getElem? (i := 12) rfl)
theorem dX3_shareOut_84 : decode cX3_shareOut 84 = .ok (.iload 5, 2) := DX3_shareOut_1 (84, .iload 5, 2) (List.mem_of_getElem? (i := 13) rfl)
theorem dX3_shareOut_86 : decode cX3_shareOut 86 = .ok (.iadd, 1) := DX3_shareOut_1 (86, .iadd, 1) (List.mem_of_getElem? (i := 14) rfl)
theorem dX3_shareOut_87 : decode cX3_shareOut 87 = .ok (.iaload, 1) := DX3_shareOut_1 (87, .iaload, 1) (List.mem_of_getElem? (i := 15) rfl)
theorem dX3_shareOut_88 : decode cX3_shareOut 88 = .ok (.imul, 1) := DX3_shareOut_1 (88, .imul, 1) (List.mem_of_getElem? (i := 16) rfl)
theorem dX3_shareOut_89 : decode cX3_shareOut 89 = .ok (.iload_n 3, 1) := DX3_shareOut_1 (89, .iload_n 3, 1) (List.mem_of_getElem? (i := 17) rfl)
theorem dX3_shareOut_90 : decode cX3_shareOut 90 = .ok (.idiv, 1) := DX3_shareOut_1 (90, .idiv, 1) (List.mem_of_getElem? (i := 18) rfl)
theorem dX3_shareOut_91 : decode cX3_shareOut 91 = .ok (.iastore, 1) := DX3_shareOut_1 (91, .iastore, 1) (List.mem_of_getElem? (i := 19) rfl)
theorem dX3_shareOut_92 : decode cX3_shareOut 92 = .ok (.iload 4, 2) := DX3_shareOut_1 (92, .iload 4, 2) (List.mem_of_getElem? (i := 20) rfl)
theorem dX3_shareOut_94 : decode cX3_shareOut 94 = .ok (.aload_n 0, 1) := DX3_shareOut_1 (94, .aload_n 0, 1) (List.mem_of_getElem? (i := 21) rfl)
theorem dX3_shareOut_95 : decode cX3_shareOut 95 = .ok (.getfield 36, 3) := DX3_shareOut_1 (95, .getfield 36, 3) (List.mem_of_getElem? (i := 22) rfl)
theorem dX3_shareOut_98 : decode cX3_shareOut 98 = .ok (.iload_n 2, 1) := DX3_shareOut_1 (98, .iload_n 2, 1) (List.mem_of_getElem? (i := 23) rfl)
theorem dX3_shareOut_99 : decode cX3_shareOut 99 = .ok (.iload 5, 2) := DX3_shareOut_1 (99, .iload 5, 2) (List.mem_of_getElem? (i := 24) rfl)
theorem dX3_shareOut_101 : decode cX3_shareOut 101 = .ok (.iadd, 1) := DX3_shareOut_1 (101, .iadd, 1) (List.mem_of_getElem? (i := 25) rfl)
theorem dX3_shareOut_102 : decode cX3_shareOut 102 = .ok (.iaload, 1) := DX3_shareOut_1 (102, .iaload, 1) (List.mem_of_getElem? (i := 26) rfl)
theorem dX3_shareOut_103 : decode cX3_shareOut 103 = .ok (.isub, 1) := DX3_shareOut_1 (103, .isub, 1) (List.mem_of_getElem? (i := 27) rfl)
theorem dX3_shareOut_104 : decode cX3_shareOut 104 = .ok (.istore 4, 2) := DX3_shareOut_1 (104, .istore 4, 2) (List.mem_of_getElem? (i := 28) rfl)
theorem dX3_shareOut_106 : decode cX3_shareOut 106 = .ok (.iinc 5 1, 3) := DX3_shareOut_1 (106, .iinc 5 1, 3) (List.mem_of_getElem? (i := 29) rfl)
theorem dX3_shareOut_109 : decode cX3_shareOut 109 = .ok (.goto (-55), 3) := DX3_shareOut_1 (109, .goto (-55), 3) (List.mem_of_getElem? (i := 30) rfl)
theorem dX3_shareOut_112 : decode cX3_shareOut 112 = .ok (.iconst 0, 1) := DX3_shareOut_1 (112, .iconst 0, 1) (List.mem_of_getElem? (i := 31) rfl)
theorem dX3_shareOut_113 : decode cX3_shareOut 113 = .ok (.istore 5, 2) := DX3_shareOut_1 (113, .istore 5, 2) (List.mem_of_getElem? (i := 32) rfl)
theorem dX3_shareOut_115 : decode cX3_shareOut 115 = .ok (.iload 5, 2) := DX3_shareOut_1 (115, .iload 5, 2) (List.mem_of_getElem? (i := 33) rfl)
theorem dX3_shareOut_117 : decode cX3_shareOut 117 = .ok (.aload_n 0, 1) := DX3_shareOut_1 (117, .aload_n 0, 1) (List.mem_of_getElem? (i := 34) rfl)
theorem dX3_shareOut_118 : decode cX3_shareOut 118 = .ok (.getfield 24, 3) := DX3_shareOut_1 (118, .getfield 24, 3) (List.mem_of_getElem? (i := 35) rfl)
theorem dX3_shareOut_121 : decode cX3_shareOut 121 = .ok (.iload_n 1, 1) := DX3_shareOut_1 (121, .iload_n 1, 1) (List.mem_of_getElem? (i := 36) rfl)
theorem dX3_shareOut_122 : decode cX3_shareOut 122 = .ok (.iaload, 1) := DX3_shareOut_1 (122, .iaload, 1) (List.mem_of_getElem? (i := 37) rfl)
theorem dX3_shareOut_123 : decode cX3_shareOut 123 = .ok (.if_icmp .ge 29, 3) := DX3_shareOut_1 (123, .if_icmp .ge 29, 3) (List.mem_of_getElem? (i := 38) rfl)
theorem dX3_shareOut_126 : decode cX3_shareOut 126 = .ok (.iload 5, 2) := DX3_shareOut_1 (126, .iload 5, 2) (List.mem_of_getElem? (i := 39) rfl)
theorem DX3_shareOut_2 : ∀ q ∈ ([(128, .iload 4, 2), (130, .if_icmp .ge 22, 3), (133, .aload_n 0, 1), (134, .getfield 36, 3), (137, .iload_n 2, 1), (138, .iload 5, 2), (140, .iadd, 1), (141, .dup2, 1), (142, .iaload, 1), (143, .iconst 1, 1), (144, .iadd, 1), (145, .iastore, 1), (146, .iinc 5 1, 3), (149, .goto (-34), 3), (152, .return_, 1)] : List (Nat × Instr × Nat)), decode cX3_shareOut q.1 = .ok q.2 := by decide +kernel
theorem dX3_shareOut_128 : decode cX3_shareOut 128 = .ok (.iload 4, 2) := DX3_shareOut_2 (128, .iload 4, 2) (List.mem_of_getElem? (i := 0) rfl)
theorem dX3_shareOut_130 : decode cX3_shareOut 130 = .ok (.if_icmp .ge 22, 3) := DX3_shareOut_2 (130, .if_icmp .ge 22, 3) (List.mem_of_getElem? (i := 1) rfl)
theorem dX3_shareOut_133 : decode cX3_shareOut 133 = .ok (.aload_n 0, 1) := DX3_shareOut_2 (133, .aload_n 0, 1) (List.mem_of_getElem? (i := 2) rfl)
theorem dX3_shareOut_134 : decode cX3_shareOut 134 = .ok (.getfield 36, 3) := DX3_shareOut_2 (134, .getfield 36, 3) (List.mem_of_getElem? (i := 3) rfl)
theorem dX3_shareOut_137 : decode cX3_shareOut 137 = .ok (.iload_n 2, 1) := DX3_shareOut_2 (137, .iload_n 2, 1) (List.mem_of_getElem? (i := 4) rfl)
theorem dX3_shareOut_138 : decode cX3_shareOut 138 = .ok (.iload 5, 2) := DX3_shareOut_2 (138, .iload 5, 2) (List.mem_of_getElem? (i := 5) rfl)
theorem dX3_shareOut_140 : decode cX3_shareOut 140 = .ok (.iadd, 1) := DX3_shareOut_2 (140, .iadd, 1) (List.mem_of_getElem? (i := 6) rfl)
theorem dX3_shareOut_141 : decode cX3_shareOut 141 = .ok (.dup2, 1) := DX3_shareOut_2 (141, .dup2, 1) (List.mem_of_getElem? (i := 7) rfl)
theorem dX3_shareOut_142 : decode cX3_shareOut 142 = .ok (.iaload, 1) := DX3_shareOut_2 (142, .iaload, 1) (List.mem_of_getElem? (i := 8) rfl)
theorem dX3_shareOut_143 : decode cX3_shareOut 143 = .ok (.iconst 1, 1) := DX3_shareOut_2 (143, .iconst 1, 1) (List.mem_of_getElem? (i := 9) rfl)
theorem dX3_shareOut_144 : decode cX3_shareOut 144 = .ok (.iadd, 1) := DX3_shareOut_2 (144, .iadd, 1) (List.mem_of_getElem? (i := 10) rfl)
theorem dX3_shareOut_145 : decode cX3_shareOut 145 = .ok (.iastore, 1) := DX3_shareOut_2 (145, .iastore, 1) (List.mem_of_getElem? (i := 11) rfl)
theorem dX3_shareOut_146 : decode cX3_shareOut 146 = .ok (.iinc 5 1, 3) := DX3_shareOut_2 (146, .iinc 5 1, 3) (List.mem_of_getElem? (i := 12) rfl)
theorem dX3_shareOut_149 : decode cX3_shareOut 149 = .ok (.goto (-34), 3) := DX3_shareOut_2 (149, .goto (-34), 3) (List.mem_of_getElem? (i := 13) rfl)
theorem dX3_shareOut_152 : decode cX3_shareOut 152 = .ok (.return_, 1) := DX3_shareOut_2 (152, .return_, 1) (List.mem_of_getElem? (i := 14) rfl)
abbrev rmX3_shareOut : Room := { frames := 0, cells := 0, slots := 0, locals := 0 }
set_option maxHeartbeats 400000 in
set_option maxRecDepth 100000 in
theorem met_X3_shareOut (l : Launch) (D : va_G) (kA : Nat → ClassId) (a : Nat → Nat) (n : Nat) (V0 : Sz) (x1 : Int) (hDt : ∀ w : Sz, va_D (fun _ => True) (cs_X3 kA a w)) {Vr : Sz} (hf : f_X3_shareOut n V0 x1 = some Vr) : MZ l yX3_shareOut cX3_shareOut 6 none rmX3_shareOut D kA [.ref (a 0), vI x1] (cs_X3 kA a V0) (cs_X3 kA a Vr) (none) := by
  refine zZV (own := RX3) rfl rfl (Nat.le_of_ble_eq_true rfl) ?_
  intro p e s m args below meth c ls Q hC hK hP hl hret
  have hl : lv_has ls 6 [(0, .ref (a 0)), (1, vI x1)] := hl
  have hS : va_S (zF (cs_X3 kA a V0)) s.heap s.heap [] := va_S.rf
  have hD := zDself (C := fun w : Sz => (cs_X3 kA a w)) hDt V0 (fun _ => rfl)
  try dsimp only at hD
  generalize hAe : zF (cs_X3 kA a V0) = A0 at hS hD hret
  unfold f_X3_shareOut at hf
  have L115 : ∀ (k115 : Nat) (y2 : Int) (y4 : Int) (y5 : Int) (V : Sz) (H : Heap) (locs : List Loc) (ls : Array Slot), lpF (bX3_shareOut_115 n x1) k115 (y2, y4, y5, V) = some Vr → va_P D vwCl (cs_X3 kA a V) H → va_S A0 s.heap H locs → lv_has ls 6 [(0, .ref (a 0)), (1, vI x1), (2, vI y2), (4, vI y4), (5, vI y5)] → W p l e rmX3_shareOut s m args below meth c H locs 0 0 Q (F0 m 115 ls []) := by
    intro k115
    induction k115 with
    | zero => intro y2 y4 y5 V H locs ls hf hP hS hl; exact lp_0 hf
    | succ k115 ih115 =>
      intro y2 y4 y5 V H locs ls hf hP hS hl
      have hf := lp_s hf
      rw [bX3_shareOut_115_e] at hf
      refine ziload hC.1 hC.2.1 dX3_shareOut_115 (lv_at hl 4 rfl) <| lv_aload_n hC.1 hC.2.1 dX3_shareOut_117 rfl (lv_at hl 0 rfl) <| gfX3_24 hC hK hP (q0 := 0) rfl rfl dX3_shareOut_118 <| ziload_n hC.1 hC.2.1 dX3_shareOut_121 rfl (lv_at hl 1 rfl) <| ?_
      obtain ⟨hz_8, hf⟩ := ck_some hf
      refine jal hC hK hP (q0 := 5) rfl (Nat.le_of_ble_eq_true rfl) hz_8 rfl dX3_shareOut_122 <| ?_
      obtain ⟨hz_9, hf⟩ := ck_some hf
      refine zicmp_ge (tgt := 152) hC.1 hC.2.1 ⟨hz_9.1, hz_9.2⟩ dX3_shareOut_123 (by decide) (fun hc => ?_) (fun hc => ?_)
      · have hf := it_t hf hc
        have hf := Option.some.inj hf
        exact hret _ _ _ _ rfl (by rw [← hf]; exact hP) hS dX3_shareOut_152
      · have hf := it_f hf hc
        refine ziload hC.1 hC.2.1 dX3_shareOut_126 (lv_at hl 4 rfl) <| ziload hC.1 hC.2.1 dX3_shareOut_128 (lv_at hl 3 rfl) <| ?_
        obtain ⟨hz_10, hf⟩ := ck_some hf
        refine zicmp_ge (tgt := 152) hC.1 hC.2.1 ⟨hz_9.1, hz_10⟩ dX3_shareOut_130 (by decide) (fun hc => ?_) (fun hc => ?_)
        · have hf := it_t hf hc
          have hf := Option.some.inj hf
          exact hret _ _ _ _ rfl (by rw [← hf]; exact hP) hS dX3_shareOut_152
        · have hf := it_f hf hc
          refine lv_aload_n hC.1 hC.2.1 dX3_shareOut_133 rfl (lv_at hl 0 rfl) <| gfX3_36 hC hK hP (q0 := 0) rfl rfl dX3_shareOut_134 <| ziload_n hC.1 hC.2.1 dX3_shareOut_137 rfl (lv_at hl 2 rfl) <| ziload hC.1 hC.2.1 dX3_shareOut_138 (lv_at hl 4 rfl) <| ziadd hC.1 hC.2.1 dX3_shareOut_140 <| lv_dup2_11 hC.1 hC.2.1 dX3_shareOut_141 rfl rfl <| ?_
          obtain ⟨hz_11, hf⟩ := ck_some hf
          refine jal hC hK hP (q0 := 9) rfl (Nat.le_of_ble_eq_true rfl) hz_11 rfl dX3_shareOut_142 <| ziconst hC.1 hC.2.1 dX3_shareOut_143 <| ziadd hC.1 hC.2.1 dX3_shareOut_144 <| ?_
          refine jas hC hK hP (hD V) hS (q0 := 9) rfl (Nat.le_of_ble_eq_true rfl) hz_11 rfl dX3_shareOut_145 (fun H locs hP hS => ?_)
          obtain ⟨V_12, eV_12⟩ : ∃ y, y = uz V 9 (y2 + y5).toNat ((V 9 (y2 + y5).toNat) + 1) := ⟨_, rfl⟩
          have hf := nm_at hf eV_12
          have hP : va_P D vwCl (cs_X3 kA a V_12) H := by rw [eV_12]; exact hP
          obtain ⟨x_13, ex_13⟩ : ∃ y : Int, y = y5 + 1 := ⟨_, rfl⟩
          have hf := nm_at hf ex_13
          refine ziinc (v := x_13) (lv' := [(5, vI x_13), (0, .ref (a 0)), (1, vI x1), (2, vI y2), (4, vI y4)]) hC.1 hC.2.1 dX3_shareOut_146 hl (k := 4) rfl ex_13 (by decide) rfl (fun ls hl => ?_)
          exact lv_goto (tgt := 115) hC.1 hC.2.1 dX3_shareOut_149 (by decide) <| ih115 _ _ _ _ _ _ _ hf hP hS (lv_sub hl [1, 2, 3, 4, 0] rfl)
  have L54 : ∀ (k54 : Nat) (y2 : Int) (y3 : Int) (y4 : Int) (y5 : Int) (V : Sz) (H : Heap) (locs : List Loc) (ls : Array Slot), lpF (bX3_shareOut_54 n x1) k54 (y2, y3, y4, y5, V) = some Vr → va_P D vwCl (cs_X3 kA a V) H → va_S A0 s.heap H locs → lv_has ls 6 [(0, .ref (a 0)), (1, vI x1), (2, vI y2), (3, vI y3), (4, vI y4), (5, vI y5)] → W p l e rmX3_shareOut s m args below meth c H locs 0 0 Q (F0 m 54 ls []) := by
    intro k54
    induction k54 with
    | zero => intro y2 y3 y4 y5 V H locs ls hf hP hS hl; exact lp_0 hf
    | succ k54 ih54 =>
      intro y2 y3 y4 y5 V H locs ls hf hP hS hl
      have hf := lp_s hf
      rw [bX3_shareOut_54_e] at hf
      refine ziload hC.1 hC.2.1 dX3_shareOut_54 (lv_at hl 5 rfl) <| lv_aload_n hC.1 hC.2.1 dX3_shareOut_56 rfl (lv_at hl 0 rfl) <| gfX3_24 hC hK hP (q0 := 0) rfl rfl dX3_shareOut_57 <| ziload_n hC.1 hC.2.1 dX3_shareOut_60 rfl (lv_at hl 1 rfl) <| ?_
      obtain ⟨hz_6, hf⟩ := ck_some hf
      refine jal hC hK hP (q0 := 5) rfl (Nat.le_of_ble_eq_true rfl) hz_6 rfl dX3_shareOut_61 <| ?_
      obtain ⟨hz_7, hf⟩ := ck_some hf
      refine zicmp_ge (tgt := 112) hC.1 hC.2.1 ⟨hz_7.1, hz_7.2⟩ dX3_shareOut_62 (by decide) (fun hc => ?_) (fun hc => ?_)
      · have hf := it_t hf hc
        refine ziconst hC.1 hC.2.1 dX3_shareOut_112 <| zistore (lv' := [(5, vI 0), (0, .ref (a 0)), (1, vI x1), (2, vI y2), (3, vI y3), (4, vI y4)]) hC.1 hC.2.1 dX3_shareOut_113 hl (by decide) rfl (fun ls hl => ?_)
        exact L115 n _ _ _ _ _ _ _ hf hP hS (lv_sub hl [1, 2, 3, 5, 0] rfl)
      · have hf := it_f hf hc
        refine lv_aload_n hC.1 hC.2.1 dX3_shareOut_65 rfl (lv_at hl 0 rfl) <| gfX3_36 hC hK hP (q0 := 0) rfl rfl dX3_shareOut_66 <| ziload_n hC.1 hC.2.1 dX3_shareOut_69 rfl (lv_at hl 2 rfl) <| ziload hC.1 hC.2.1 dX3_shareOut_70 (lv_at hl 5 rfl) <| ziadd hC.1 hC.2.1 dX3_shareOut_72 <| lv_aload_n hC.1 hC.2.1 dX3_shareOut_73 rfl (lv_at hl 0 rfl) <| gfX3_15 hC hK hP (q0 := 0) rfl rfl dX3_shareOut_74 <| ziload_n hC.1 hC.2.1 dX3_shareOut_77 rfl (lv_at hl 1 rfl) <| jal hC hK hP (q0 := 2) rfl (Nat.le_of_ble_eq_true rfl) hz_6 rfl dX3_shareOut_78 <| lv_aload_n hC.1 hC.2.1 dX3_shareOut_79 rfl (lv_at hl 0 rfl) <| gfX3_33 hC hK hP (q0 := 0) rfl rfl dX3_shareOut_80 <| ziload_n hC.1 hC.2.1 dX3_shareOut_83 rfl (lv_at hl 2 rfl) <| ziload hC.1 hC.2.1 dX3_shareOut_84 (lv_at hl 5 rfl) <| ziadd hC.1 hC.2.1 dX3_shareOut_86 <| ?_
        obtain ⟨hz_14, hf⟩ := ck_some hf
        refine jal hC hK hP (q0 := 8) rfl (Nat.le_of_ble_eq_true rfl) hz_14 rfl dX3_shareOut_87 <| zimul hC.1 hC.2.1 dX3_shareOut_88 <| ziload_n hC.1 hC.2.1 dX3_shareOut_89 rfl (lv_at hl 3 rfl) <| ?_
        obtain ⟨hz_15, hf⟩ := ck_some hf
        refine zidiv hC.1 hC.2.1 hz_15 dX3_shareOut_90 <| ?_
        refine jas hC hK hP (hD V) hS (q0 := 9) rfl (Nat.le_of_ble_eq_true rfl) hz_14 rfl dX3_shareOut_91 (fun H locs hP hS => ?_)
        obtain ⟨V_16, eV_16⟩ : ∃ y, y = uz V 9 (y2 + y5).toNat (((V 2 x1.toNat) * (V 8 (y2 + y5).toNat)) / y3) := ⟨_, rfl⟩
        have hf := nm_at hf eV_16
        have hP : va_P D vwCl (cs_X3 kA a V_16) H := by rw [eV_16]; exact hP
        refine ziload hC.1 hC.2.1 dX3_shareOut_92 (lv_at hl 4 rfl) <| lv_aload_n hC.1 hC.2.1 dX3_shareOut_94 rfl (lv_at hl 0 rfl) <| gfX3_36 hC hK hP (q0 := 0) rfl rfl dX3_shareOut_95 <| ziload_n hC.1 hC.2.1 dX3_shareOut_98 rfl (lv_at hl 2 rfl) <| ziload hC.1 hC.2.1 dX3_shareOut_99 (lv_at hl 5 rfl) <| ziadd hC.1 hC.2.1 dX3_shareOut_101 <| jal hC hK hP (q0 := 9) rfl (Nat.le_of_ble_eq_true rfl) hz_14 rfl dX3_shareOut_102 <| zisub hC.1 hC.2.1 dX3_shareOut_103 <| ?_
        refine ztopi (fun x_17 ex_17 => ?_)
        have hf := nm_at hf ex_17
        refine zistore (lv' := [(4, vI x_17), (0, .ref (a 0)), (1, vI x1), (2, vI y2), (3, vI y3), (5, vI y5)]) hC.1 hC.2.1 dX3_shareOut_104 hl (by decide) rfl (fun ls hl => ?_)
        obtain ⟨x_18, ex_18⟩ : ∃ y : Int, y = y5 + 1 := ⟨_, rfl⟩
        have hf := nm_at hf ex_18
        refine ziinc (v := x_18) (lv' := [(5, vI x_18), (4, vI x_17), (0, .ref (a 0)), (1, vI x1), (2, vI y2), (3, vI y3)]) hC.1 hC.2.1 dX3_shareOut_106 hl (k := 5) rfl ex_18 (by decide) rfl (fun ls hl => ?_)
        exact lv_goto (tgt := 54) hC.1 hC.2.1 dX3_shareOut_109 (by decide) <| ih54 _ _ _ _ _ _ _ _ hf hP hS (lv_sub hl [2, 3, 4, 5, 1, 0] rfl)
  have L9 : ∀ (k9 : Nat) (y2 : Int) (y3 : Int) (y4 : Int) (V : Sz) (H : Heap) (locs : List Loc) (ls : Array Slot), lpF (bX3_shareOut_9 n x1) k9 (y2, y3, y4, V) = some Vr → va_P D vwCl (cs_X3 kA a V) H → va_S A0 s.heap H locs → lv_has ls 6 [(0, .ref (a 0)), (1, vI x1), (2, vI y2), (3, vI y3), (4, vI y4)] → W p l e rmX3_shareOut s m args below meth c H locs 0 0 Q (F0 m 9 ls []) := by
    intro k9
    induction k9 with
    | zero => intro y2 y3 y4 V H locs ls hf hP hS hl; exact lp_0 hf
    | succ k9 ih9 =>
      intro y2 y3 y4 V H locs ls hf hP hS hl
      have hf := lp_s hf
      rw [bX3_shareOut_9_e] at hf
      refine ziload hC.1 hC.2.1 dX3_shareOut_9 (lv_at hl 4 rfl) <| lv_aload_n hC.1 hC.2.1 dX3_shareOut_11 rfl (lv_at hl 0 rfl) <| gfX3_24 hC hK hP (q0 := 0) rfl rfl dX3_shareOut_12 <| ziload_n hC.1 hC.2.1 dX3_shareOut_15 rfl (lv_at hl 1 rfl) <| ?_
      obtain ⟨hz_2, hf⟩ := ck_some hf
      refine jal hC hK hP (q0 := 5) rfl (Nat.le_of_ble_eq_true rfl) hz_2 rfl dX3_shareOut_16 <| ?_
      obtain ⟨hz_3, hf⟩ := ck_some hf
      refine zicmp_ge (tgt := 38) hC.1 hC.2.1 ⟨hz_3.1, hz_3.2⟩ dX3_shareOut_17 (by decide) (fun hc => ?_) (fun hc => ?_)
      · have hf := it_t hf hc
        refine ziload_n hC.1 hC.2.1 dX3_shareOut_38 rfl (lv_at hl 3 rfl) <| ?_
        obtain ⟨hz_4, hf⟩ := ck_some hf
        refine zif_gt (tgt := 43) hC.1 hC.2.1 hz_4 dX3_shareOut_39 (by decide) (fun hc => ?_) (fun hc => ?_)
        · have hf := it_t hf hc
          refine lv_aload_n hC.1 hC.2.1 dX3_shareOut_43 rfl (lv_at hl 0 rfl) <| gfX3_15 hC hK hP (q0 := 0) rfl rfl dX3_shareOut_44 <| ziload_n hC.1 hC.2.1 dX3_shareOut_47 rfl (lv_at hl 1 rfl) <| jal hC hK hP (q0 := 2) rfl (Nat.le_of_ble_eq_true rfl) hz_2 rfl dX3_shareOut_48 <| ?_
          refine ztopi (fun x_5 ex_5 => ?_)
          have hf := nm_at hf ex_5
          refine zistore (lv' := [(4, vI x_5), (0, .ref (a 0)), (1, vI x1), (2, vI y2), (3, vI y3)]) hC.1 hC.2.1 dX3_shareOut_49 hl (by decide) rfl (fun ls hl => ?_)
          refine ziconst hC.1 hC.2.1 dX3_shareOut_51 <| zistore (lv' := [(5, vI 0), (4, vI x_5), (0, .ref (a 0)), (1, vI x1), (2, vI y2), (3, vI y3)]) hC.1 hC.2.1 dX3_shareOut_52 hl (by decide) rfl (fun ls hl => ?_)
          exact L54 n _ _ _ _ _ _ _ _ hf hP hS (lv_sub hl [2, 3, 4, 5, 1, 0] rfl)
        · have hf := it_f hf hc
          have hf := Option.some.inj hf
          exact hret _ _ _ _ rfl (by rw [← hf]; exact hP) hS dX3_shareOut_42
      · have hf := it_f hf hc
        refine ziload_n hC.1 hC.2.1 dX3_shareOut_20 rfl (lv_at hl 3 rfl) <| lv_aload_n hC.1 hC.2.1 dX3_shareOut_21 rfl (lv_at hl 0 rfl) <| gfX3_33 hC hK hP (q0 := 0) rfl rfl dX3_shareOut_22 <| ziload_n hC.1 hC.2.1 dX3_shareOut_25 rfl (lv_at hl 2 rfl) <| ziload hC.1 hC.2.1 dX3_shareOut_26 (lv_at hl 4 rfl) <| ziadd hC.1 hC.2.1 dX3_shareOut_28 <| ?_
        obtain ⟨hz_19, hf⟩ := ck_some hf
        refine jal hC hK hP (q0 := 8) rfl (Nat.le_of_ble_eq_true rfl) hz_19 rfl dX3_shareOut_29 <| ziadd hC.1 hC.2.1 dX3_shareOut_30 <| ?_
        refine ztopi (fun x_20 ex_20 => ?_)
        have hf := nm_at hf ex_20
        refine zistore_n (lv' := [(3, vI x_20), (0, .ref (a 0)), (1, vI x1), (2, vI y2), (4, vI y4)]) hC.1 hC.2.1 dX3_shareOut_31 rfl hl (by decide) rfl (fun ls hl => ?_)
        obtain ⟨x_21, ex_21⟩ : ∃ y : Int, y = y4 + 1 := ⟨_, rfl⟩
        have hf := nm_at hf ex_21
        refine ziinc (v := x_21) (lv' := [(4, vI x_21), (3, vI x_20), (0, .ref (a 0)), (1, vI x1), (2, vI y2)]) hC.1 hC.2.1 dX3_shareOut_32 hl (k := 4) rfl ex_21 (by decide) rfl (fun ls hl => ?_)
        exact lv_goto (tgt := 9) hC.1 hC.2.1 dX3_shareOut_35 (by decide) <| ih9 _ _ _ _ _ _ _ hf hP hS (lv_sub hl [2, 3, 4, 1, 0] rfl)
  refine ziload_n hC.1 hC.2.1 dX3_shareOut_0 rfl (lv_at hl 1 rfl) <| ziconst hC.1 hC.2.1 dX3_shareOut_1 <| zimul hC.1 hC.2.1 dX3_shareOut_2 <| ?_
  refine ztopi (fun x_1 ex_1 => ?_)
  have hf := nm_at hf ex_1
  refine zistore_n (lv' := [(2, vI x_1), (0, .ref (a 0)), (1, vI x1)]) hC.1 hC.2.1 dX3_shareOut_3 rfl hl (by decide) rfl (fun ls hl => ?_)
  refine ziconst hC.1 hC.2.1 dX3_shareOut_4 <| zistore_n (lv' := [(3, vI 0), (2, vI x_1), (0, .ref (a 0)), (1, vI x1)]) hC.1 hC.2.1 dX3_shareOut_5 rfl hl (by decide) rfl (fun ls hl => ?_)
  refine ziconst hC.1 hC.2.1 dX3_shareOut_6 <| zistore (lv' := [(4, vI 0), (3, vI 0), (2, vI x_1), (0, .ref (a 0)), (1, vI x1)]) hC.1 hC.2.1 dX3_shareOut_7 hl (by decide) rfl (fun ls hl => ?_)
  exact L9 n _ _ _ _ _ _ _ hf hP hS (lv_sub hl [3, 4, 2, 1, 0] rfl)
theorem DX3_addPart_0 : ∀ q ∈ ([(0, .iload_n 1, 1), (1, .ifCond .lt 21, 3), (4, .iload_n 1, 1), (5, .aload_n 0, 1), (6, .getfield 45, 3), (9, .if_icmp .ge 13, 3), (12, .aload_n 0, 1), (13, .getfield 24, 3), (16, .iload_n 1, 1), (17, .iaload, 1), (18, .iconst 3, 1), (19, .if_icmp .lt 4, 3), (22, .return_, 1), (23, .iload_n 1, 1), (24, .iconst 3, 1), (25, .imul, 1), (26, .aload_n 0, 1), (27, .getfield 24, 3), (30, .iload_n 1, 1), (31, .iaload, 1), (32, .iadd, 1), (33, .istore 4, 2), (35, .aload_n 0, 1), (36, .getfield 30, 3), (39, .iload 4, 2), (41, .iload_n 2, 1), (42, .iastore, 1), (43, .aload_n 0, 1), (44, .getfield 33, 3), (47, .iload 4, 2), (49, .iload_n 3, 1), (50, .iastore, 1), (51, .aload_n 0, 1), (52, .getfield 39, 3), (55, .iload 4, 2), (57, .iconst 0, 1), (58, .iastore, 1), (59, .aload_n 0, 1), (60, .getfield 42, 3), (63, .iload 4, 2)] : List (Nat × Instr × Nat)), decode cX3_addPart q.1 = .ok q.2 := by decide +kernel
theorem dX3_addPart_0 : decode cX3_addPart 0 = .ok (.iload_n 1, 1) := DX3_addPart_0 (0, .iload_n 1, 1) (List.mem_of_getElem? (i := 0) rfl)
theorem dX3_addPart_1 : decode cX3_addPart 1 = .ok (.ifCond .lt 21, 3) := DX3_addPart_0 (1, .ifCond .lt 21, 3) (List.mem_of_getElem? (i := 1) rfl)
theorem dX3_addPart_4 : decode cX3_addPart 4 = .ok (.iload_n 1, 1) := DX3_addPart_0 (4, .iload_n 1, 1) (List.mem_of_getElem? (i := 2) rfl)
theorem dX3_addPart_5 : decode cX3_addPart 5 = .ok (.aload_n 0, 1) := DX3_addPart_0 (5, .aload_n 0, 1) (List.mem_of_getElem? (i := 3) rfl)
theorem dX3_addPart_6 : decode cX3_addPart 6 = .ok (.getfield 45, 3) := DX3_addPart_0 (6, .getfield 45, 3) (List.mem_of_getElem? (i := 4) rfl)
theorem dX3_addPart_9 : decode cX3_addPart 9 = .ok (.if_icmp .ge 13, 3) := DX3_addPart_0 (9, .if_icmp .ge 13, 3) (List.mem_of_getElem? (i := 5) rfl)
theorem dX3_addPart_12 : decode cX3_addPart 12 = .ok (.aload_n 0, 1) := DX3_addPart_0 (12, .aload_n 0, 1) (List.mem_of_getElem? (i := 6) rfl)
theorem dX3_addPart_13 : decode cX3_addPart 13 = .ok (.getfield 24, 3) := DX3_addPart_0 (13, .getfield 24, 3) (List.mem_of_getElem? (i := 7) rfl)
theorem dX3_addPart_16 : decode cX3_addPart 16 = .ok (.iload_n 1, 1) := DX3_addPart_0 (16, .iload_n 1, 1) (List.mem_of_getElem? (i := 8) rfl)
theorem dX3_addPart_17 : decode cX3_addPart 17 = .ok (.iaload, 1) := DX3_addPart_0 (17, .iaload, 1) (List.mem_of_getElem? (i := 9) rfl)
theorem dX3_addPart_18 : decode cX3_addPart 18 = .ok (.iconst 3, 1) := DX3_addPart_0 (18, .iconst 3, 1) (List.mem_of_getElem? (i := 10) rfl)
theorem dX3_addPart_19 : decode cX3_addPart 19 = .ok (.if_icmp .lt 4, 3) := DX3_addPart_0 (19, .if_icmp .lt 4, 3) (List.mem_of_getElem? (i := 11) rfl)
theorem dX3_addPart_22 : decode cX3_addPart 22 = .ok (.return_, 1) := DX3_addPart_0 (22, .return_, 1) (List.mem_of_getElem? (i := 12) rfl)
theorem dX3_addPart_23 : decode cX3_addPart 23 = .ok (.iload_n 1, 1) := DX3_addPart_0 (23, .iload_n 1, 1) (List.mem_of_getElem? (i := 13) rfl)
theorem dX3_addPart_24 : decode cX3_addPart 24 = .ok (.iconst 3, 1) := DX3_addPart_0 (24, .iconst 3, 1) (List.mem_of_getElem? (i := 14) rfl)
theorem dX3_addPart_25 : decode cX3_addPart 25 = .ok (.imul, 1) := DX3_addPart_0 (25, .imul, 1) (List.mem_of_getElem? (i := 15) rfl)
theorem dX3_addPart_26 : decode cX3_addPart 26 = .ok (.aload_n 0, 1) := DX3_addPart_0 (26, .aload_n 0, 1) (List.mem_of_getElem? (i := 16) rfl)
theorem dX3_addPart_27 : decode cX3_addPart 27 = .ok (.getfield 24, 3) := DX3_addPart_0 (27, .getfield 24, 3) (List.mem_of_getElem? (i := 17) rfl)
theorem dX3_addPart_30 : decode cX3_addPart 30 = .ok (.iload_n 1, 1) := DX3_addPart_0 (30, .iload_n 1, 1) (List.mem_of_getElem? (i := 18) rfl)
theorem dX3_addPart_31 : decode cX3_addPart 31 = .ok (.iaload, 1) := DX3_addPart_0 (31, .iaload, 1) (List.mem_of_getElem? (i := 19) rfl)
theorem dX3_addPart_32 : decode cX3_addPart 32 = .ok (.iadd, 1) := DX3_addPart_0 (32, .iadd, 1) (List.mem_of_getElem? (i := 20) rfl)
theorem dX3_addPart_33 : decode cX3_addPart 33 = .ok (.istore 4, 2) := DX3_addPart_0 (33, .istore 4, 2) (List.mem_of_getElem? (i := 21) rfl)
theorem dX3_addPart_35 : decode cX3_addPart 35 = .ok (.aload_n 0, 1) := DX3_addPart_0 (35, .aload_n 0, 1) (List.mem_of_getElem? (i := 22) rfl)
theorem dX3_addPart_36 : decode cX3_addPart 36 = .ok (.getfield 30, 3) := DX3_addPart_0 (36, .getfield 30, 3) (List.mem_of_getElem? (i := 23) rfl)
theorem dX3_addPart_39 : decode cX3_addPart 39 = .ok (.iload 4, 2) := DX3_addPart_0 (39, .iload 4, 2) (List.mem_of_getElem? (i := 24) rfl)
theorem dX3_addPart_41 : decode cX3_addPart 41 = .ok (.iload_n 2, 1) := DX3_addPart_0 (41, .iload_n 2, 1) (List.mem_of_getElem? (i := 25) rfl)
theorem dX3_addPart_42 : decode cX3_addPart 42 = .ok (.iastore, 1) := DX3_addPart_0 (42, .iastore, 1) (List.mem_of_getElem? (i := 26) rfl)
theorem dX3_addPart_43 : decode cX3_addPart 43 = .ok (.aload_n 0, 1) := DX3_addPart_0 (43, .aload_n 0, 1) (List.mem_of_getElem? (i := 27) rfl)
theorem dX3_addPart_44 : decode cX3_addPart 44 = .ok (.getfield 33, 3) := DX3_addPart_0 (44, .getfield 33, 3) (List.mem_of_getElem? (i := 28) rfl)
theorem dX3_addPart_47 : decode cX3_addPart 47 = .ok (.iload 4, 2) := DX3_addPart_0 (47, .iload 4, 2) (List.mem_of_getElem? (i := 29) rfl)
theorem dX3_addPart_49 : decode cX3_addPart 49 = .ok (.iload_n 3, 1) := DX3_addPart_0 (49, .iload_n 3, 1) (List.mem_of_getElem? (i := 30) rfl)
theorem dX3_addPart_50 : decode cX3_addPart 50 = .ok (.iastore, 1) := DX3_addPart_0 (50, .iastore, 1) (List.mem_of_getElem? (i := 31) rfl)
theorem dX3_addPart_51 : decode cX3_addPart 51 = .ok (.aload_n 0, 1) := DX3_addPart_0 (51, .aload_n 0, 1) (List.mem_of_getElem? (i := 32) rfl)
theorem dX3_addPart_52 : decode cX3_addPart 52 = .ok (.getfield 39, 3) := DX3_addPart_0 (52, .getfield 39, 3) (List.mem_of_getElem? (i := 33) rfl)
theorem dX3_addPart_55 : decode cX3_addPart 55 = .ok (.iload 4, 2) := DX3_addPart_0 (55, .iload 4, 2) (List.mem_of_getElem? (i := 34) rfl)
theorem dX3_addPart_57 : decode cX3_addPart 57 = .ok (.iconst 0, 1) := DX3_addPart_0 (57, .iconst 0, 1) (List.mem_of_getElem? (i := 35) rfl)
theorem dX3_addPart_58 : decode cX3_addPart 58 = .ok (.iastore, 1) := DX3_addPart_0 (58, .iastore, 1) (List.mem_of_getElem? (i := 36) rfl)
theorem dX3_addPart_59 : decode cX3_addPart 59 = .ok (.aload_n 0, 1) := DX3_addPart_0 (59, .aload_n 0, 1) (List.mem_of_getElem? (i := 37) rfl)
theorem dX3_addPart_60 : decode cX3_addPart 60 = .ok (.getfield 42, 3) := DX3_addPart_0 (60, .getfield 42, 3) (List.mem_of_getElem? (i := 38) rfl)
theorem dX3_addPart_63 : decode cX3_addPart 63 = .ok (.iload 4, 2) := DX3_addPart_0 (63, .iload 4, 2) (List.mem_of_getElem? (i := 39) rfl)
theorem DX3_addPart_1 : ∀ q ∈ ([(65, .iconst 0, 1), (66, .iastore, 1), (67, .aload_n 0, 1), (68, .getfield 24, 3), (71, .iload_n 1, 1), (72, .dup2, 1), (73, .iaload, 1), (74, .iconst 1, 1), (75, .iadd, 1), (76, .iastore, 1), (77, .aload_n 0, 1), (78, .iload_n 1, 1), (79, .invokevirtual 57, 3), (82, .return_, 1)] : List (Nat × Instr × Nat)), decode cX3_addPart q.1 = .ok q.2 := by decide +kernel
theorem dX3_addPart_65 : decode cX3_addPart 65 = .ok (.iconst 0, 1) := DX3_addPart_1 (65, .iconst 0, 1) (List.mem_of_getElem? (i := 0) rfl)
theorem dX3_addPart_66 : decode cX3_addPart 66 = .ok (.iastore, 1) := DX3_addPart_1 (66, .iastore, 1) (List.mem_of_getElem? (i := 1) rfl)
theorem dX3_addPart_67 : decode cX3_addPart 67 = .ok (.aload_n 0, 1) := DX3_addPart_1 (67, .aload_n 0, 1) (List.mem_of_getElem? (i := 2) rfl)
theorem dX3_addPart_68 : decode cX3_addPart 68 = .ok (.getfield 24, 3) := DX3_addPart_1 (68, .getfield 24, 3) (List.mem_of_getElem? (i := 3) rfl)
theorem dX3_addPart_71 : decode cX3_addPart 71 = .ok (.iload_n 1, 1) := DX3_addPart_1 (71, .iload_n 1, 1) (List.mem_of_getElem? (i := 4) rfl)
theorem dX3_addPart_72 : decode cX3_addPart 72 = .ok (.dup2, 1) := DX3_addPart_1 (72, .dup2, 1) (List.mem_of_getElem? (i := 5) rfl)
theorem dX3_addPart_73 : decode cX3_addPart 73 = .ok (.iaload, 1) := DX3_addPart_1 (73, .iaload, 1) (List.mem_of_getElem? (i := 6) rfl)
theorem dX3_addPart_74 : decode cX3_addPart 74 = .ok (.iconst 1, 1) := DX3_addPart_1 (74, .iconst 1, 1) (List.mem_of_getElem? (i := 7) rfl)
theorem dX3_addPart_75 : decode cX3_addPart 75 = .ok (.iadd, 1) := DX3_addPart_1 (75, .iadd, 1) (List.mem_of_getElem? (i := 8) rfl)
theorem dX3_addPart_76 : decode cX3_addPart 76 = .ok (.iastore, 1) := DX3_addPart_1 (76, .iastore, 1) (List.mem_of_getElem? (i := 9) rfl)
theorem dX3_addPart_77 : decode cX3_addPart 77 = .ok (.aload_n 0, 1) := DX3_addPart_1 (77, .aload_n 0, 1) (List.mem_of_getElem? (i := 10) rfl)
theorem dX3_addPart_78 : decode cX3_addPart 78 = .ok (.iload_n 1, 1) := DX3_addPart_1 (78, .iload_n 1, 1) (List.mem_of_getElem? (i := 11) rfl)
theorem dX3_addPart_79 : decode cX3_addPart 79 = .ok (.invokevirtual 57, 3) := DX3_addPart_1 (79, .invokevirtual 57, 3) (List.mem_of_getElem? (i := 12) rfl)
theorem dX3_addPart_82 : decode cX3_addPart 82 = .ok (.return_, 1) := DX3_addPart_1 (82, .return_, 1) (List.mem_of_getElem? (i := 13) rfl)
abbrev rmX3_addPart : Room := { frames := 1, cells := 0, slots := 0, locals := 25 }
set_option maxHeartbeats 400000 in
set_option maxRecDepth 100000 in
theorem met_X3_addPart (l : Launch) (D : va_G) (kA : Nat → ClassId) (a : Nat → Nat) (n : Nat) (V0 : Sz) (x1 : Int) (x2 : Int) (x3 : Int) (hDt : ∀ w : Sz, va_D (fun _ => True) (cs_X3 kA a w)) {Vr : Sz} (hf : f_X3_addPart n V0 x1 x2 x3 = some Vr) : MZ l yX3_addPart cX3_addPart 5 none rmX3_addPart D kA [.ref (a 0), vI x1, vI x2, vI x3] (cs_X3 kA a V0) (cs_X3 kA a Vr) (none) := by
  refine zZV (own := RX3) rfl rfl (Nat.le_of_ble_eq_true rfl) ?_
  intro p e s m args below meth c ls Q hC hK hP hl hret
  have hl : lv_has ls 5 [(0, .ref (a 0)), (1, vI x1), (2, vI x2), (3, vI x3)] := hl
  have hS : va_S (zF (cs_X3 kA a V0)) s.heap s.heap [] := va_S.rf
  have hD := zDself (C := fun w : Sz => (cs_X3 kA a w)) hDt V0 (fun _ => rfl)
  try dsimp only at hD
  generalize hAe : zF (cs_X3 kA a V0) = A0 at hS hD hret
  unfold f_X3_addPart at hf
  refine ziload_n hC.1 hC.2.1 dX3_addPart_0 rfl (lv_at hl 1 rfl) <| ?_
  obtain ⟨hz_1, hf⟩ := ck_some hf
  refine zif_lt (tgt := 22) hC.1 hC.2.1 hz_1 dX3_addPart_1 (by decide) (fun hc => ?_) (fun hc => ?_)
  · have hf := it_t hf hc
    have hf := Option.some.inj hf
    exact hret _ _ _ _ rfl (by rw [← hf]; exact hP) hS dX3_addPart_22
  · have hf := it_f hf hc
    refine ziload_n hC.1 hC.2.1 dX3_addPart_4 rfl (lv_at hl 1 rfl) <| lv_aload_n hC.1 hC.2.1 dX3_addPart_5 rfl (lv_at hl 0 rfl) <| gfX3_45 hC hK hP (q0 := 0) rfl rfl dX3_addPart_6 <| ?_
    obtain ⟨hz_2, hf⟩ := ck_some hf
    refine zicmp_ge (tgt := 22) hC.1 hC.2.1 ⟨hz_1, hz_2⟩ dX3_addPart_9 (by decide) (fun hc => ?_) (fun hc => ?_)
    · have hf := it_t hf hc
      have hf := Option.some.inj hf
      exact hret _ _ _ _ rfl (by rw [← hf]; exact hP) hS dX3_addPart_22
    · have hf := it_f hf hc
      refine lv_aload_n hC.1 hC.2.1 dX3_addPart_12 rfl (lv_at hl 0 rfl) <| gfX3_24 hC hK hP (q0 := 0) rfl rfl dX3_addPart_13 <| ziload_n hC.1 hC.2.1 dX3_addPart_16 rfl (lv_at hl 1 rfl) <| ?_
      obtain ⟨hz_3, hf⟩ := ck_some hf
      refine jal hC hK hP (q0 := 5) rfl (Nat.le_of_ble_eq_true rfl) hz_3 rfl dX3_addPart_17 <| ziconst hC.1 hC.2.1 dX3_addPart_18 <| ?_
      obtain ⟨hz_4, hf⟩ := ck_some hf
      refine zicmp_lt (tgt := 23) hC.1 hC.2.1 ⟨hz_4, (by decide)⟩ dX3_addPart_19 (by decide) (fun hc => ?_) (fun hc => ?_)
      · have hf := it_t hf hc
        refine ziload_n hC.1 hC.2.1 dX3_addPart_23 rfl (lv_at hl 1 rfl) <| ziconst hC.1 hC.2.1 dX3_addPart_24 <| zimul hC.1 hC.2.1 dX3_addPart_25 <| lv_aload_n hC.1 hC.2.1 dX3_addPart_26 rfl (lv_at hl 0 rfl) <| gfX3_24 hC hK hP (q0 := 0) rfl rfl dX3_addPart_27 <| ziload_n hC.1 hC.2.1 dX3_addPart_30 rfl (lv_at hl 1 rfl) <| jal hC hK hP (q0 := 5) rfl (Nat.le_of_ble_eq_true rfl) hz_3 rfl dX3_addPart_31 <| ziadd hC.1 hC.2.1 dX3_addPart_32 <| ?_
        refine ztopi (fun x_5 ex_5 => ?_)
        have hf := nm_at hf ex_5
        refine zistore (lv' := [(4, vI x_5), (0, .ref (a 0)), (1, vI x1), (2, vI x2), (3, vI x3)]) hC.1 hC.2.1 dX3_addPart_33 hl (by decide) rfl (fun ls hl => ?_)
        refine lv_aload_n hC.1 hC.2.1 dX3_addPart_35 rfl (lv_at hl 1 rfl) <| gfX3_30 hC hK hP (q0 := 0) rfl rfl dX3_addPart_36 <| ziload hC.1 hC.2.1 dX3_addPart_39 (lv_at hl 0 rfl) <| ziload_n hC.1 hC.2.1 dX3_addPart_41 rfl (lv_at hl 3 rfl) <| ?_
        obtain ⟨hz_6, hf⟩ := ck_some hf
        refine jas hC hK hP (hD V0) hS (q0 := 7) rfl (Nat.le_of_ble_eq_true rfl) hz_6 rfl dX3_addPart_42 (fun H locs hP hS => ?_)
        obtain ⟨V_7, eV_7⟩ : ∃ y, y = uz V0 7 x_5.toNat x2 := ⟨_, rfl⟩
        have hf := nm_at hf eV_7
        have hP : va_P D vwCl (cs_X3 kA a V_7) H := by rw [eV_7]; exact hP
        refine lv_aload_n hC.1 hC.2.1 dX3_addPart_43 rfl (lv_at hl 1 rfl) <| gfX3_33 hC hK hP (q0 := 0) rfl rfl dX3_addPart_44 <| ziload hC.1 hC.2.1 dX3_addPart_47 (lv_at hl 0 rfl) <| ziload_n hC.1 hC.2.1 dX3_addPart_49 rfl (lv_at hl 4 rfl) <| ?_
        refine jas hC hK hP (hD V_7) hS (q0 := 8) rfl (Nat.le_of_ble_eq_true rfl) hz_6 rfl dX3_addPart_50 (fun H locs hP hS => ?_)
        obtain ⟨V_8, eV_8⟩ : ∃ y, y = uz V_7 8 x_5.toNat x3 := ⟨_, rfl⟩
        have hf := nm_at hf eV_8
        have hP : va_P D vwCl (cs_X3 kA a V_8) H := by rw [eV_8]; exact hP
        refine lv_aload_n hC.1 hC.2.1 dX3_addPart_51 rfl (lv_at hl 1 rfl) <| gfX3_39 hC hK hP (q0 := 0) rfl rfl dX3_addPart_52 <| ziload hC.1 hC.2.1 dX3_addPart_55 (lv_at hl 0 rfl) <| ziconst hC.1 hC.2.1 dX3_addPart_57 <| ?_
        refine jas hC hK hP (hD V_8) hS (q0 := 10) rfl (Nat.le_of_ble_eq_true rfl) hz_6 rfl dX3_addPart_58 (fun H locs hP hS => ?_)
        obtain ⟨V_9, eV_9⟩ : ∃ y, y = uz V_8 10 x_5.toNat 0 := ⟨_, rfl⟩
        have hf := nm_at hf eV_9
        have hP : va_P D vwCl (cs_X3 kA a V_9) H := by rw [eV_9]; exact hP
        refine lv_aload_n hC.1 hC.2.1 dX3_addPart_59 rfl (lv_at hl 1 rfl) <| gfX3_42 hC hK hP (q0 := 0) rfl rfl dX3_addPart_60 <| ziload hC.1 hC.2.1 dX3_addPart_63 (lv_at hl 0 rfl) <| ziconst hC.1 hC.2.1 dX3_addPart_65 <| ?_
        refine jas hC hK hP (hD V_9) hS (q0 := 11) rfl (Nat.le_of_ble_eq_true rfl) hz_6 rfl dX3_addPart_66 (fun H locs hP hS => ?_)
        obtain ⟨V_10, eV_10⟩ : ∃ y, y = uz V_9 11 x_5.toNat 0 := ⟨_, rfl⟩
        have hf := nm_at hf eV_10
        have hP : va_P D vwCl (cs_X3 kA a V_10) H := by rw [eV_10]; exact hP
        refine lv_aload_n hC.1 hC.2.1 dX3_addPart_67 rfl (lv_at hl 1 rfl) <| gfX3_24 hC hK hP (q0 := 0) rfl rfl dX3_addPart_68 <| ziload_n hC.1 hC.2.1 dX3_addPart_71 rfl (lv_at hl 2 rfl) <| lv_dup2_11 hC.1 hC.2.1 dX3_addPart_72 rfl rfl <| jal hC hK hP (q0 := 5) rfl (Nat.le_of_ble_eq_true rfl) hz_3 rfl dX3_addPart_73 <| ziconst hC.1 hC.2.1 dX3_addPart_74 <| ziadd hC.1 hC.2.1 dX3_addPart_75 <| ?_
        refine jas hC hK hP (hD V_10) hS (q0 := 5) rfl (Nat.le_of_ble_eq_true rfl) hz_3 rfl dX3_addPart_76 (fun H locs hP hS => ?_)
        obtain ⟨V_11, eV_11⟩ : ∃ y, y = uz V_10 5 x1.toNat ((V_10 5 x1.toNat) + 1) := ⟨_, rfl⟩
        have hf := nm_at hf eV_11
        have hP : va_P D vwCl (cs_X3 kA a V_11) H := by rw [eV_11]; exact hP
        refine lv_aload_n hC.1 hC.2.1 dX3_addPart_77 rfl (lv_at hl 1 rfl) <| ziload_n hC.1 hC.2.1 dX3_addPart_78 rfl (lv_at hl 2 rfl) <| ?_
        obtain ⟨V_12, hu, hf⟩ := bd_some hf
        have hDc := hDt
        refine zcVZ (As := [vI x1]) (rest := []) hC hK (met_X3_shareOut l D kA a n V_11 x1 hDc hu) zwX3_57 hS (zFsub (hD V_11) [0, 1, 2, 3, 4, 5, 6, 7, 8, 9, 10, 11] rfl) hP (q0 := 0) rfl rfl rfl rfl hl.1 rfl (Nat.le_of_ble_eq_true rfl) ⟨Nat.le_of_ble_eq_true rfl, Nat.le_of_ble_eq_true rfl⟩ ⟨rfl, rfl⟩ ⟨Nat.le_refl _, Nat.le_refl _⟩ dX3_addPart_79 (fun H locs hP1 hk1 hS => ?_)
        have hP : va_P D vwCl (cs_X3 kA a V_12) H := hP1
        have hf := Option.some.inj hf
        exact hret _ _ _ _ rfl (by rw [← hf]; exact hP) hS dX3_addPart_82
      · have hf := it_f hf hc
        have hf := Option.some.inj hf
        exact hret _ _ _ _ rfl (by rw [← hf]; exact hP) hS dX3_addPart_22
theorem DX3_divide_0 : ∀ q ∈ ([(0, .aload_n 0, 1), (1, .getfield 33, 3), (4, .iload_n 1, 1), (5, .iconst 3, 1), (6, .imul, 1), (7, .iload_n 2, 1), (8, .iastore, 1), (9, .aload_n 0, 1), (10, .iload_n 1, 1), (11, .iload_n 3, 1), (12, .iload 4, 2), (14, .invokevirtual 61, 3), (17, .return_, 1)] : List (Nat × Instr × Nat)), decode cX3_divide q.1 = .ok q.2 := by decide +kernel
theorem dX3_divide_0 : decode cX3_divide 0 = .ok (.aload_n 0, 1) := DX3_divide_0 (0, .aload_n 0, 1) (List.mem_of_getElem? (i := 0) rfl)
theorem dX3_divide_1 : decode cX3_divide 1 = .ok (.getfield 33, 3) := DX3_divide_0 (1, .getfield 33, 3) (List.mem_of_getElem? (i := 1) rfl)
theorem dX3_divide_4 : decode cX3_divide 4 = .ok (.iload_n 1, 1) := DX3_divide_0 (4, .iload_n 1, 1) (List.mem_of_getElem? (i := 2) rfl)
theorem dX3_divide_5 : decode cX3_divide 5 = .ok (.iconst 3, 1) := DX3_divide_0 (5, .iconst 3, 1) (List.mem_of_getElem? (i := 3) rfl)
theorem dX3_divide_6 : decode cX3_divide 6 = .ok (.imul, 1) := DX3_divide_0 (6, .imul, 1) (List.mem_of_getElem? (i := 4) rfl)
theorem dX3_divide_7 : decode cX3_divide 7 = .ok (.iload_n 2, 1) := DX3_divide_0 (7, .iload_n 2, 1) (List.mem_of_getElem? (i := 5) rfl)
theorem dX3_divide_8 : decode cX3_divide 8 = .ok (.iastore, 1) := DX3_divide_0 (8, .iastore, 1) (List.mem_of_getElem? (i := 6) rfl)
theorem dX3_divide_9 : decode cX3_divide 9 = .ok (.aload_n 0, 1) := DX3_divide_0 (9, .aload_n 0, 1) (List.mem_of_getElem? (i := 7) rfl)
theorem dX3_divide_10 : decode cX3_divide 10 = .ok (.iload_n 1, 1) := DX3_divide_0 (10, .iload_n 1, 1) (List.mem_of_getElem? (i := 8) rfl)
theorem dX3_divide_11 : decode cX3_divide 11 = .ok (.iload_n 3, 1) := DX3_divide_0 (11, .iload_n 3, 1) (List.mem_of_getElem? (i := 9) rfl)
theorem dX3_divide_12 : decode cX3_divide 12 = .ok (.iload 4, 2) := DX3_divide_0 (12, .iload 4, 2) (List.mem_of_getElem? (i := 10) rfl)
theorem dX3_divide_14 : decode cX3_divide 14 = .ok (.invokevirtual 61, 3) := DX3_divide_0 (14, .invokevirtual 61, 3) (List.mem_of_getElem? (i := 11) rfl)
theorem dX3_divide_17 : decode cX3_divide 17 = .ok (.return_, 1) := DX3_divide_0 (17, .return_, 1) (List.mem_of_getElem? (i := 12) rfl)
abbrev rmX3_divide : Room := { frames := 2, cells := 0, slots := 0, locals := 49 }
set_option maxHeartbeats 400000 in
set_option maxRecDepth 100000 in
theorem met_X3_divide (l : Launch) (D : va_G) (kA : Nat → ClassId) (a : Nat → Nat) (n : Nat) (V0 : Sz) (x1 : Int) (x2 : Int) (x3 : Int) (x4 : Int) (hDt : ∀ w : Sz, va_D (fun _ => True) (cs_X3 kA a w)) {Vr : Sz} (hf : f_X3_divide n V0 x1 x2 x3 x4 = some Vr) : MZ l yX3_divide cX3_divide 5 none rmX3_divide D kA [.ref (a 0), vI x1, vI x2, vI x3, vI x4] (cs_X3 kA a V0) (cs_X3 kA a Vr) (none) := by
  refine zZV (own := RX3) rfl rfl (Nat.le_of_ble_eq_true rfl) ?_
  intro p e s m args below meth c ls Q hC hK hP hl hret
  have hl : lv_has ls 5 [(0, .ref (a 0)), (1, vI x1), (2, vI x2), (3, vI x3), (4, vI x4)] := hl
  have hS : va_S (zF (cs_X3 kA a V0)) s.heap s.heap [] := va_S.rf
  have hD := zDself (C := fun w : Sz => (cs_X3 kA a w)) hDt V0 (fun _ => rfl)
  try dsimp only at hD
  generalize hAe : zF (cs_X3 kA a V0) = A0 at hS hD hret
  unfold f_X3_divide at hf
  refine lv_aload_n hC.1 hC.2.1 dX3_divide_0 rfl (lv_at hl 0 rfl) <| gfX3_33 hC hK hP (q0 := 0) rfl rfl dX3_divide_1 <| ziload_n hC.1 hC.2.1 dX3_divide_4 rfl (lv_at hl 1 rfl) <| ziconst hC.1 hC.2.1 dX3_divide_5 <| zimul hC.1 hC.2.1 dX3_divide_6 <| ziload_n hC.1 hC.2.1 dX3_divide_7 rfl (lv_at hl 2 rfl) <| ?_
  obtain ⟨hz_1, hf⟩ := ck_some hf
  refine jas hC hK hP (hD V0) hS (q0 := 8) rfl (Nat.le_of_ble_eq_true rfl) hz_1 rfl dX3_divide_8 (fun H locs hP hS => ?_)
  obtain ⟨V_2, eV_2⟩ : ∃ y, y = uz V0 8 (x1 * 3).toNat x2 := ⟨_, rfl⟩
  have hf := nm_at hf eV_2
  have hP : va_P D vwCl (cs_X3 kA a V_2) H := by rw [eV_2]; exact hP
  refine lv_aload_n hC.1 hC.2.1 dX3_divide_9 rfl (lv_at hl 0 rfl) <| ziload_n hC.1 hC.2.1 dX3_divide_10 rfl (lv_at hl 1 rfl) <| ziload_n hC.1 hC.2.1 dX3_divide_11 rfl (lv_at hl 3 rfl) <| ziload hC.1 hC.2.1 dX3_divide_12 (lv_at hl 4 rfl) <| ?_
  obtain ⟨V_3, hu, hf⟩ := bd_some hf
  have hDc := hDt
  refine zcVZ (As := [vI x1, vI x3, vI x4]) (rest := []) hC hK (met_X3_addPart l D kA a n V_2 x1 x3 x4 hDc hu) zwX3_61 hS (zFsub (hD V_2) [0, 1, 2, 3, 4, 5, 6, 7, 8, 9, 10, 11] rfl) hP (q0 := 0) rfl rfl rfl rfl hl.1 rfl (Nat.le_of_ble_eq_true rfl) ⟨Nat.le_of_ble_eq_true rfl, Nat.le_of_ble_eq_true rfl⟩ ⟨rfl, rfl⟩ ⟨Nat.le_refl _, Nat.le_refl _⟩ dX3_divide_14 (fun H locs hP1 hk1 hS => ?_)
  have hP : va_P D vwCl (cs_X3 kA a V_3) H := hP1
  have hf := Option.some.inj hf
  exact hret _ _ _ _ rfl (by rw [← hf]; exact hP) hS dX3_divide_17
theorem DX3_leftOfPart_0 : ∀ q ∈ ([(0, .aload_n 0, 1), (1, .getfield 36, 3), (4, .iload_n 1, 1), (5, .iaload, 1), (6, .aload_n 0, 1), (7, .getfield 39, 3), (10, .iload_n 1, 1), (11, .iaload, 1), (12, .isub, 1), (13, .ireturn, 1)] : List (Nat × Instr × Nat)), decode cX3_leftOfPart q.1 = .ok q.2 := by decide +kernel
theorem dX3_leftOfPart_0 : decode cX3_leftOfPart 0 = .ok (.aload_n 0, 1) := DX3_leftOfPart_0 (0, .aload_n 0, 1) (List.mem_of_getElem? (i := 0) rfl)
theorem dX3_leftOfPart_1 : decode cX3_leftOfPart 1 = .ok (.getfield 36, 3) := DX3_leftOfPart_0 (1, .getfield 36, 3) (List.mem_of_getElem? (i := 1) rfl)
theorem dX3_leftOfPart_4 : decode cX3_leftOfPart 4 = .ok (.iload_n 1, 1) := DX3_leftOfPart_0 (4, .iload_n 1, 1) (List.mem_of_getElem? (i := 2) rfl)
theorem dX3_leftOfPart_5 : decode cX3_leftOfPart 5 = .ok (.iaload, 1) := DX3_leftOfPart_0 (5, .iaload, 1) (List.mem_of_getElem? (i := 3) rfl)
theorem dX3_leftOfPart_6 : decode cX3_leftOfPart 6 = .ok (.aload_n 0, 1) := DX3_leftOfPart_0 (6, .aload_n 0, 1) (List.mem_of_getElem? (i := 4) rfl)
theorem dX3_leftOfPart_7 : decode cX3_leftOfPart 7 = .ok (.getfield 39, 3) := DX3_leftOfPart_0 (7, .getfield 39, 3) (List.mem_of_getElem? (i := 5) rfl)
theorem dX3_leftOfPart_10 : decode cX3_leftOfPart 10 = .ok (.iload_n 1, 1) := DX3_leftOfPart_0 (10, .iload_n 1, 1) (List.mem_of_getElem? (i := 6) rfl)
theorem dX3_leftOfPart_11 : decode cX3_leftOfPart 11 = .ok (.iaload, 1) := DX3_leftOfPart_0 (11, .iaload, 1) (List.mem_of_getElem? (i := 7) rfl)
theorem dX3_leftOfPart_12 : decode cX3_leftOfPart 12 = .ok (.isub, 1) := DX3_leftOfPart_0 (12, .isub, 1) (List.mem_of_getElem? (i := 8) rfl)
theorem dX3_leftOfPart_13 : decode cX3_leftOfPart 13 = .ok (.ireturn, 1) := DX3_leftOfPart_0 (13, .ireturn, 1) (List.mem_of_getElem? (i := 9) rfl)
abbrev rmX3_leftOfPart : Room := { frames := 0, cells := 0, slots := 0, locals := 0 }
set_option maxHeartbeats 400000 in
set_option maxRecDepth 100000 in
theorem met_X3_leftOfPart (l : Launch) (D : va_G) (kA : Nat → ClassId) (a : Nat → Nat) (V : Sz) (x1 : Int) {r : Int} (hf : f_X3_leftOfPart V x1 = some r) : MP l yX3_leftOfPart cX3_leftOfPart 2 (some .int) rmX3_leftOfPart D kA [.ref (a 0), vI x1] (cs_X3 kA a V) (some (vI r)) := by
  refine zPI (own := RX3) rfl rfl (Nat.le_of_ble_eq_true rfl) ?_
  intro p e s m args below meth c ls Q hC hK hP hl hret
  have hl : lv_has ls 2 [(0, .ref (a 0)), (1, vI x1)] := hl
  unfold f_X3_leftOfPart at hf
  refine lv_aload_n hC.1 hC.2.1 dX3_leftOfPart_0 rfl (lv_at hl 0 rfl) <| gfX3_36 hC hK hP (q0 := 0) rfl rfl dX3_leftOfPart_1 <| ziload_n hC.1 hC.2.1 dX3_leftOfPart_4 rfl (lv_at hl 1 rfl) <| ?_
  obtain ⟨hz_1, hf⟩ := ck_some hf
  exact jal hC hK hP (q0 := 9) rfl (Nat.le_of_ble_eq_true rfl) hz_1 rfl dX3_leftOfPart_5 <| lv_aload_n hC.1 hC.2.1 dX3_leftOfPart_6 rfl (lv_at hl 0 rfl) <| gfX3_39 hC hK hP (q0 := 0) rfl rfl dX3_leftOfPart_7 <| ziload_n hC.1 hC.2.1 dX3_leftOfPart_10 rfl (lv_at hl 1 rfl) <| jal hC hK hP (q0 := 10) rfl (Nat.le_of_ble_eq_true rfl) hz_1 rfl dX3_leftOfPart_11 <| zisub hC.1 hC.2.1 dX3_leftOfPart_12 <| hret (Int32.ofInt ((V 9 x1.toNat) - (V 10 x1.toNat))) _ _ (qI hf) dX3_leftOfPart_13
theorem DX3_takeBack_0 : ∀ q ∈ ([(0, .aload_n 0, 1), (1, .getfield 21, 3), (4, .iload_n 1, 1), (5, .dup2, 1), (6, .iaload, 1), (7, .iload_n 2, 1), (8, .iadd, 1), (9, .iastore, 1), (10, .iload_n 2, 1), (11, .istore_n 3, 1), (12, .aload_n 0, 1), (13, .getfield 24, 3), (16, .iload_n 1, 1), (17, .iaload, 1), (18, .iconst 1, 1), (19, .isub, 1), (20, .istore 4, 2), (22, .iload 4, 2), (24, .ifCond .lt 46, 3), (27, .iload_n 1, 1), (28, .iconst 3, 1), (29, .imul, 1), (30, .iload 4, 2), (32, .iadd, 1), (33, .istore 5, 2), (35, .iload_n 3, 1), (36, .aload_n 0, 1), (37, .iload 5, 2), (39, .invokevirtual 65, 3), (42, .invokestatic 69, 3), (45, .istore 6, 2), (47, .aload_n 0, 1), (48, .getfield 39, 3), (51, .iload 5, 2), (53, .dup2, 1), (54, .iaload, 1), (55, .iload 6, 2), (57, .iadd, 1), (58, .iastore, 1), (59, .iload_n 3, 1)] : List (Nat × Instr × Nat)), decode cX3_takeBack q.1 = .ok q.2 := by decide +kernel
theorem dX3_takeBack_0 : decode cX3_takeBack 0 = .ok (.aload_n 0, 1) := DX3_takeBack_0 (0, .aload_n 0, 1) (List.mem_of_getElem? (i := 0) rfl)
theorem dX3_takeBack_1 : decode cX3_takeBack 1 = .ok (.getfield 21, 3) := DX3_takeBack_0 (1, .getfield 21, 3) (List.mem_of_getElem? (i := 1) rfl)
theorem dX3_takeBack_4 : decode cX3_takeBack 4 = .ok (.iload_n 1, 1) := DX3_takeBack_0 (4, .iload_n 1, 1) (List.mem_of_getElem? (i := 2) rfl)
theorem dX3_takeBack_5 : decode cX3_takeBack 5 = .ok (.dup2, 1) := DX3_takeBack_0 (5, .dup2, 1) (List.mem_of_getElem? (i := 3) rfl)
theorem dX3_takeBack_6 : decode cX3_takeBack 6 = .ok (.iaload, 1) := DX3_takeBack_0 (6, .iaload, 1) (List.mem_of_getElem? (i := 4) rfl)
theorem dX3_takeBack_7 : decode cX3_takeBack 7 = .ok (.iload_n 2, 1) := DX3_takeBack_0 (7, .iload_n 2, 1) (List.mem_of_getElem? (i := 5) rfl)
theorem dX3_takeBack_8 : decode cX3_takeBack 8 = .ok (.iadd, 1) := DX3_takeBack_0 (8, .iadd, 1) (List.mem_of_getElem? (i := 6) rfl)
theorem dX3_takeBack_9 : decode cX3_takeBack 9 = .ok (.iastore, 1) := DX3_takeBack_0 (9, .iastore, 1) (List.mem_of_getElem? (i := 7) rfl)
theorem dX3_takeBack_10 : decode cX3_takeBack 10 = .ok (.iload_n 2, 1) := DX3_takeBack_0 (10, .iload_n 2, 1) (List.mem_of_getElem? (i := 8) rfl)
theorem dX3_takeBack_11 : decode cX3_takeBack 11 = .ok (.istore_n 3, 1) := DX3_takeBack_0 (11, .istore_n 3, 1) (List.mem_of_getElem? (i := 9) rfl)
theorem dX3_takeBack_12 : decode cX3_takeBack 12 = .ok (.aload_n 0, 1) := DX3_takeBack_0 (12, .aload_n 0, 1) (List.mem_of_getElem? (i := 10) rfl)
theorem dX3_takeBack_13 : decode cX3_takeBack 13 = .ok (.getfield 24, 3) := DX3_takeBack_0 (13, .getfield 24, 3) (List.mem_of_getElem? (i := 11) rfl)
theorem dX3_takeBack_16 : decode cX3_takeBack 16 = .ok (.iload_n 1, 1) := DX3_takeBack_0 (16, .iload_n 1, 1) (List.mem_of_getElem? (i := 12) rfl)
theorem dX3_takeBack_17 : decode cX3_takeBack 17 = .ok (.iaload, 1) := DX3_takeBack_0 (17, .iaload, 1) (List.mem_of_getElem? (i := 13) rfl)
theorem dX3_takeBack_18 : decode cX3_takeBack 18 = .ok (.iconst 1, 1) := DX3_takeBack_0 (18, .iconst 1, 1) (List.mem_of_getElem? (i := 14) rfl)
theorem dX3_takeBack_19 : decode cX3_takeBack 19 = .ok (.isub, 1) := DX3_takeBack_0 (19, .isub, 1) (List.mem_of_getElem? (i := 15) rfl)
theorem dX3_takeBack_20 : decode cX3_takeBack 20 = .ok (.istore 4, 2) := DX3_takeBack_0 (20, .istore 4, 2) (List.mem_of_getElem? (i := 16) rfl)
theorem dX3_takeBack_22 : decode cX3_takeBack 22 = .ok (.iload 4, 2) := DX3_takeBack_0 (22, .iload 4, 2) (List.mem_of_getElem? (i := 17) rfl)
theorem dX3_takeBack_24 : decode cX3_takeBack 24 = .ok (.ifCond .lt 46, 3) := DX3_takeBack_0 (24, .ifCond .lt 46, 3) (List.mem_of_getElem? (i := 18) rfl)
theorem dX3_takeBack_27 : decode cX3_takeBack 27 = .ok (.iload_n 1, 1) := DX3_takeBack_0 (27, .iload_n 1, 1) (List.mem_of_getElem? (i := 19) rfl)
theorem dX3_takeBack_28 : decode cX3_takeBack 28 = .ok (.iconst 3, 1) := DX3_takeBack_0 (28, .iconst 3, 1) (List.mem_of_getElem? (i := 20) rfl)
theorem dX3_takeBack_29 : decode cX3_takeBack 29 = .ok (.imul, 1) := DX3_takeBack_0 (29, .imul, 1) (List.mem_of_getElem? (i := 21) rfl)
theorem dX3_takeBack_30 : decode cX3_takeBack 30 = .ok (.iload 4, 2) := DX3_takeBack_0 (30, .iload 4, 2) (List.mem_of_getElem? (i := 22) rfl)
theorem dX3_takeBack_32 : decode cX3_takeBack 32 = .ok (.iadd, 1) := DX3_takeBack_0 (32, .iadd, 1) (List.mem_of_getElem? (i := 23) rfl)
theorem dX3_takeBack_33 : decode cX3_takeBack 33 = .ok (.istore 5, 2) := DX3_takeBack_0 (33, .istore 5, 2) (List.mem_of_getElem? (i := 24) rfl)
theorem dX3_takeBack_35 : decode cX3_takeBack 35 = .ok (.iload_n 3, 1) := DX3_takeBack_0 (35, .iload_n 3, 1) (List.mem_of_getElem? (i := 25) rfl)
theorem dX3_takeBack_36 : decode cX3_takeBack 36 = .ok (.aload_n 0, 1) := DX3_takeBack_0 (36, .aload_n 0, 1) (List.mem_of_getElem? (i := 26) rfl)
theorem dX3_takeBack_37 : decode cX3_takeBack 37 = .ok (.iload 5, 2) := DX3_takeBack_0 (37, .iload 5, 2) (List.mem_of_getElem? (i := 27) rfl)
theorem dX3_takeBack_39 : decode cX3_takeBack 39 = .ok (.invokevirtual 65, 3) := DX3_takeBack_0 (39, .invokevirtual 65, 3) (List.mem_of_getElem? (i := 28) rfl)
theorem dX3_takeBack_42 : decode cX3_takeBack 42 = .ok (.invokestatic 69, 3) := DX3_takeBack_0 (42, .invokestatic 69, 3) (List.mem_of_getElem? (i := 29) rfl)
theorem dX3_takeBack_45 : decode cX3_takeBack 45 = .ok (.istore 6, 2) := DX3_takeBack_0 (45, .istore 6, 2) (List.mem_of_getElem? (i := 30) rfl)
theorem dX3_takeBack_47 : decode cX3_takeBack 47 = .ok (.aload_n 0, 1) := DX3_takeBack_0 (47, .aload_n 0, 1) (List.mem_of_getElem? (i := 31) rfl)
theorem dX3_takeBack_48 : decode cX3_takeBack 48 = .ok (.getfield 39, 3) := DX3_takeBack_0 (48, .getfield 39, 3) (List.mem_of_getElem? (i := 32) rfl)
theorem dX3_takeBack_51 : decode cX3_takeBack 51 = .ok (.iload 5, 2) := DX3_takeBack_0 (51, .iload 5, 2) (List.mem_of_getElem? (i := 33) rfl)
theorem dX3_takeBack_53 : decode cX3_takeBack 53 = .ok (.dup2, 1) := DX3_takeBack_0 (53, .dup2, 1) (List.mem_of_getElem? (i := 34) rfl)
theorem dX3_takeBack_54 : decode cX3_takeBack 54 = .ok (.iaload, 1) := DX3_takeBack_0 (54, .iaload, 1) (List.mem_of_getElem? (i := 35) rfl)
theorem dX3_takeBack_55 : decode cX3_takeBack 55 = .ok (.iload 6, 2) := DX3_takeBack_0 (55, .iload 6, 2) (List.mem_of_getElem? (i := 36) rfl)
theorem dX3_takeBack_57 : decode cX3_takeBack 57 = .ok (.iadd, 1) := DX3_takeBack_0 (57, .iadd, 1) (List.mem_of_getElem? (i := 37) rfl)
theorem dX3_takeBack_58 : decode cX3_takeBack 58 = .ok (.iastore, 1) := DX3_takeBack_0 (58, .iastore, 1) (List.mem_of_getElem? (i := 38) rfl)
theorem dX3_takeBack_59 : decode cX3_takeBack 59 = .ok (.iload_n 3, 1) := DX3_takeBack_0 (59, .iload_n 3, 1) (List.mem_of_getElem? (i := 39) rfl)
theorem DX3_takeBack_1 : ∀ q ∈ ([(60, .iload 6, 2), (62, .isub, 1), (63, .istore_n 3, 1), (64, .iinc 4 (-1), 3), (67, .goto (-45), 3), (70, .return_, 1)] : List (Nat × Instr × Nat)), decode cX3_takeBack q.1 = .ok q.2 := by decide +kernel
theorem dX3_takeBack_60 : decode cX3_takeBack 60 = .ok (.iload 6, 2) := DX3_takeBack_1 (60, .iload 6, 2) (List.mem_of_getElem? (i := 0) rfl)
theorem dX3_takeBack_62 : decode cX3_takeBack 62 = .ok (.isub, 1) := DX3_takeBack_1 (62, .isub, 1) (List.mem_of_getElem? (i := 1) rfl)
theorem dX3_takeBack_63 : decode cX3_takeBack 63 = .ok (.istore_n 3, 1) := DX3_takeBack_1 (63, .istore_n 3, 1) (List.mem_of_getElem? (i := 2) rfl)
theorem dX3_takeBack_64 : decode cX3_takeBack 64 = .ok (.iinc 4 (-1), 3) := DX3_takeBack_1 (64, .iinc 4 (-1), 3) (List.mem_of_getElem? (i := 3) rfl)
theorem dX3_takeBack_67 : decode cX3_takeBack 67 = .ok (.goto (-45), 3) := DX3_takeBack_1 (67, .goto (-45), 3) (List.mem_of_getElem? (i := 4) rfl)
theorem dX3_takeBack_70 : decode cX3_takeBack 70 = .ok (.return_, 1) := DX3_takeBack_1 (70, .return_, 1) (List.mem_of_getElem? (i := 5) rfl)
abbrev rmX3_takeBack : Room := { frames := 1, cells := 0, slots := 0, locals := 60 }
set_option maxHeartbeats 400000 in
set_option maxRecDepth 100000 in
theorem met_X3_takeBack (l : Launch) (D : va_G) (kA : Nat → ClassId) (a : Nat → Nat) (n : Nat) (V0 : Sz) (x1 : Int) (x2 : Int) (hDt : ∀ w : Sz, va_D (fun _ => True) (cs_X3 kA a w)) {Vr : Sz} (hf : f_X3_takeBack n V0 x1 x2 = some Vr) : MZ l yX3_takeBack cX3_takeBack 7 none rmX3_takeBack D kA [.ref (a 0), vI x1, vI x2] (cs_X3 kA a V0) (cs_X3 kA a Vr) (none) := by
  refine zZV (own := RX3) rfl rfl (Nat.le_of_ble_eq_true rfl) ?_
  intro p e s m args below meth c ls Q hC hK hP hl hret
  have hl : lv_has ls 7 [(0, .ref (a 0)), (1, vI x1), (2, vI x2)] := hl
  have hS : va_S (zF (cs_X3 kA a V0)) s.heap s.heap [] := va_S.rf
  have hD := zDself (C := fun w : Sz => (cs_X3 kA a w)) hDt V0 (fun _ => rfl)
  try dsimp only at hD
  generalize hAe : zF (cs_X3 kA a V0) = A0 at hS hD hret
  unfold f_X3_takeBack at hf
  have L22 : ∀ (k22 : Nat) (y3 : Int) (y4 : Int) (V : Sz) (H : Heap) (locs : List Loc) (ls : Array Slot), lpF (bX3_takeBack_22 n x1 x2) k22 (y3, y4, V) = some Vr → va_P D vwCl (cs_X3 kA a V) H → va_S A0 s.heap H locs → lv_has ls 7 [(0, .ref (a 0)), (1, vI x1), (3, vI y3), (4, vI y4)] → W p l e rmX3_takeBack s m args below meth c H locs 0 0 Q (F0 m 22 ls []) := by
    intro k22
    induction k22 with
    | zero => intro y3 y4 V H locs ls hf hP hS hl; exact lp_0 hf
    | succ k22 ih22 =>
      intro y3 y4 V H locs ls hf hP hS hl
      have hf := lp_s hf
      rw [bX3_takeBack_22_e] at hf
      refine ziload hC.1 hC.2.1 dX3_takeBack_22 (lv_at hl 3 rfl) <| ?_
      obtain ⟨hz_4, hf⟩ := ck_some hf
      refine zif_lt (tgt := 70) hC.1 hC.2.1 hz_4 dX3_takeBack_24 (by decide) (fun hc => ?_) (fun hc => ?_)
      · have hf := it_t hf hc
        have hf := Option.some.inj hf
        exact hret _ _ _ _ rfl (by rw [← hf]; exact hP) hS dX3_takeBack_70
      · have hf := it_f hf hc
        refine ziload_n hC.1 hC.2.1 dX3_takeBack_27 rfl (lv_at hl 1 rfl) <| ziconst hC.1 hC.2.1 dX3_takeBack_28 <| zimul hC.1 hC.2.1 dX3_takeBack_29 <| ziload hC.1 hC.2.1 dX3_takeBack_30 (lv_at hl 3 rfl) <| ziadd hC.1 hC.2.1 dX3_takeBack_32 <| ?_
        refine ztopi (fun x_5 ex_5 => ?_)
        have hf := nm_at hf ex_5
        refine zistore (lv' := [(5, vI x_5), (0, .ref (a 0)), (1, vI x1), (3, vI y3), (4, vI y4)]) hC.1 hC.2.1 dX3_takeBack_33 hl (by decide) rfl (fun ls hl => ?_)
        refine ziload_n hC.1 hC.2.1 dX3_takeBack_35 rfl (lv_at hl 3 rfl) <| lv_aload_n hC.1 hC.2.1 dX3_takeBack_36 rfl (lv_at hl 1 rfl) <| ziload hC.1 hC.2.1 dX3_takeBack_37 (lv_at hl 0 rfl) <| ?_
        obtain ⟨r_6, hu, hf⟩ := bd_some hf
        refine zcVP (As := [vI x_5]) (rest := [vI y3]) hC hK (met_X3_leftOfPart l D kA a V x_5 hu) zwX3_65 hP (q0 := 0) rfl rfl rfl rfl hl.1 rfl (Nat.le_of_ble_eq_true rfl) ⟨Nat.le_of_ble_eq_true rfl, Nat.le_of_ble_eq_true rfl⟩ ⟨rfl, rfl⟩ ⟨Nat.le_refl _, Nat.le_refl _⟩ dX3_takeBack_39 <| ?_
        obtain ⟨hz_7, hf⟩ := ck_some hf
        refine jmin ⟨hz_7.1, hz_7.2⟩ hC qw_960 hl.1 (Nat.le_of_ble_eq_true rfl) ⟨Nat.le_of_ble_eq_true rfl, Nat.le_of_ble_eq_true rfl⟩ ⟨Nat.le_refl _, Nat.le_refl _⟩ dX3_takeBack_42 <| ?_
        refine ztopi (fun x_8 ex_8 => ?_)
        have hf := nm_at hf ex_8
        refine zistore (lv' := [(6, vI x_8), (5, vI x_5), (0, .ref (a 0)), (1, vI x1), (3, vI y3), (4, vI y4)]) hC.1 hC.2.1 dX3_takeBack_45 hl (by decide) rfl (fun ls hl => ?_)
        refine lv_aload_n hC.1 hC.2.1 dX3_takeBack_47 rfl (lv_at hl 2 rfl) <| gfX3_39 hC hK hP (q0 := 0) rfl rfl dX3_takeBack_48 <| ziload hC.1 hC.2.1 dX3_takeBack_51 (lv_at hl 1 rfl) <| lv_dup2_11 hC.1 hC.2.1 dX3_takeBack_53 rfl rfl <| ?_
        obtain ⟨hz_9, hf⟩ := ck_some hf
        refine jal hC hK hP (q0 := 10) rfl (Nat.le_of_ble_eq_true rfl) hz_9 rfl dX3_takeBack_54 <| ziload hC.1 hC.2.1 dX3_takeBack_55 (lv_at hl 0 rfl) <| ziadd hC.1 hC.2.1 dX3_takeBack_57 <| ?_
        refine jas hC hK hP (hD V) hS (q0 := 10) rfl (Nat.le_of_ble_eq_true rfl) hz_9 rfl dX3_takeBack_58 (fun H locs hP hS => ?_)
        obtain ⟨V_10, eV_10⟩ : ∃ y, y = uz V 10 x_5.toNat ((V 10 x_5.toNat) + x_8) := ⟨_, rfl⟩
        have hf := nm_at hf eV_10
        have hP : va_P D vwCl (cs_X3 kA a V_10) H := by rw [eV_10]; exact hP
        refine ziload_n hC.1 hC.2.1 dX3_takeBack_59 rfl (lv_at hl 4 rfl) <| ziload hC.1 hC.2.1 dX3_takeBack_60 (lv_at hl 0 rfl) <| zisub hC.1 hC.2.1 dX3_takeBack_62 <| ?_
        refine ztopi (fun x_11 ex_11 => ?_)
        have hf := nm_at hf ex_11
        refine zistore_n (lv' := [(3, vI x_11), (6, vI x_8), (5, vI x_5), (0, .ref (a 0)), (1, vI x1), (4, vI y4)]) hC.1 hC.2.1 dX3_takeBack_63 rfl hl (by decide) rfl (fun ls hl => ?_)
        obtain ⟨x_12, ex_12⟩ : ∃ y : Int, y = y4 + (-1) := ⟨_, rfl⟩
        have hf := nm_at hf ex_12
        refine ziinc (v := x_12) (lv' := [(4, vI x_12), (3, vI x_11), (6, vI x_8), (5, vI x_5), (0, .ref (a 0)), (1, vI x1)]) hC.1 hC.2.1 dX3_takeBack_64 hl (k := 5) rfl ex_12 (by decide) rfl (fun ls hl => ?_)
        exact lv_goto (tgt := 22) hC.1 hC.2.1 dX3_takeBack_67 (by decide) <| ih22 _ _ _ _ _ _ hf hP hS (lv_sub hl [4, 5, 1, 0] rfl)
  refine lv_aload_n hC.1 hC.2.1 dX3_takeBack_0 rfl (lv_at hl 0 rfl) <| gfX3_21 hC hK hP (q0 := 0) rfl rfl dX3_takeBack_1 <| ziload_n hC.1 hC.2.1 dX3_takeBack_4 rfl (lv_at hl 1 rfl) <| lv_dup2_11 hC.1 hC.2.1 dX3_takeBack_5 rfl rfl <| ?_
  obtain ⟨hz_1, hf⟩ := ck_some hf
  refine jal hC hK hP (q0 := 4) rfl (Nat.le_of_ble_eq_true rfl) hz_1 rfl dX3_takeBack_6 <| ziload_n hC.1 hC.2.1 dX3_takeBack_7 rfl (lv_at hl 2 rfl) <| ziadd hC.1 hC.2.1 dX3_takeBack_8 <| ?_
  refine jas hC hK hP (hD V0) hS (q0 := 4) rfl (Nat.le_of_ble_eq_true rfl) hz_1 rfl dX3_takeBack_9 (fun H locs hP hS => ?_)
  obtain ⟨V_2, eV_2⟩ : ∃ y, y = uz V0 4 x1.toNat ((V0 4 x1.toNat) + x2) := ⟨_, rfl⟩
  have hf := nm_at hf eV_2
  have hP : va_P D vwCl (cs_X3 kA a V_2) H := by rw [eV_2]; exact hP
  refine ziload_n hC.1 hC.2.1 dX3_takeBack_10 rfl (lv_at hl 2 rfl) <| zistore_n (lv' := [(3, vI x2), (0, .ref (a 0)), (1, vI x1), (2, vI x2)]) hC.1 hC.2.1 dX3_takeBack_11 rfl hl (by decide) rfl (fun ls hl => ?_)
  refine lv_aload_n hC.1 hC.2.1 dX3_takeBack_12 rfl (lv_at hl 1 rfl) <| gfX3_24 hC hK hP (q0 := 0) rfl rfl dX3_takeBack_13 <| ziload_n hC.1 hC.2.1 dX3_takeBack_16 rfl (lv_at hl 2 rfl) <| jal hC hK hP (q0 := 5) rfl (Nat.le_of_ble_eq_true rfl) hz_1 rfl dX3_takeBack_17 <| ziconst hC.1 hC.2.1 dX3_takeBack_18 <| zisub hC.1 hC.2.1 dX3_takeBack_19 <| ?_
  refine ztopi (fun x_3 ex_3 => ?_)
  have hf := nm_at hf ex_3
  refine zistore (lv' := [(4, vI x_3), (3, vI x2), (0, .ref (a 0)), (1, vI x1), (2, vI x2)]) hC.1 hC.2.1 dX3_takeBack_20 hl (by decide) rfl (fun ls hl => ?_)
  exact L22 n _ _ _ _ _ _ hf hP hS (lv_sub hl [2, 3, 1, 0] rfl)
theorem DX3_isWhole_0 : ∀ q ∈ ([(0, .aload_n 0, 1), (1, .getfield 24, 3), (4, .iload_n 1, 1), (5, .iaload, 1), (6, .iconst 1, 1), (7, .if_icmp .ne 27, 3), (10, .aload_n 0, 1), (11, .getfield 21, 3), (14, .iload_n 1, 1), (15, .iaload, 1), (16, .ifCond .ne 18, 3), (19, .aload_n 0, 1), (20, .getfield 42, 3), (23, .iload_n 1, 1), (24, .iconst 3, 1), (25, .imul, 1), (26, .iaload, 1), (27, .ifCond .ne 7, 3), (30, .iconst 1, 1), (31, .goto 4, 3), (34, .iconst 0, 1), (35, .ireturn, 1)] : List (Nat × Instr × Nat)), decode cX3_isWhole q.1 = .ok q.2 := by decide +kernel
theorem dX3_isWhole_0 : decode cX3_isWhole 0 = .ok (.aload_n 0, 1) := DX3_isWhole_0 (0, .aload_n 0, 1) (List.mem_of_getElem? (i := 0) rfl)
theorem dX3_isWhole_1 : decode cX3_isWhole 1 = .ok (.getfield 24, 3) := DX3_isWhole_0 (1, .getfield 24, 3) (List.mem_of_getElem? (i := 1) rfl)
theorem dX3_isWhole_4 : decode cX3_isWhole 4 = .ok (.iload_n 1, 1) := DX3_isWhole_0 (4, .iload_n 1, 1) (List.mem_of_getElem? (i := 2) rfl)
theorem dX3_isWhole_5 : decode cX3_isWhole 5 = .ok (.iaload, 1) := DX3_isWhole_0 (5, .iaload, 1) (List.mem_of_getElem? (i := 3) rfl)
theorem dX3_isWhole_6 : decode cX3_isWhole 6 = .ok (.iconst 1, 1) := DX3_isWhole_0 (6, .iconst 1, 1) (List.mem_of_getElem? (i := 4) rfl)
theorem dX3_isWhole_7 : decode cX3_isWhole 7 = .ok (.if_icmp .ne 27, 3) := DX3_isWhole_0 (7, .if_icmp .ne 27, 3) (List.mem_of_getElem? (i := 5) rfl)
theorem dX3_isWhole_10 : decode cX3_isWhole 10 = .ok (.aload_n 0, 1) := DX3_isWhole_0 (10, .aload_n 0, 1) (List.mem_of_getElem? (i := 6) rfl)
theorem dX3_isWhole_11 : decode cX3_isWhole 11 = .ok (.getfield 21, 3) := DX3_isWhole_0 (11, .getfield 21, 3) (List.mem_of_getElem? (i := 7) rfl)
theorem dX3_isWhole_14 : decode cX3_isWhole 14 = .ok (.iload_n 1, 1) := DX3_isWhole_0 (14, .iload_n 1, 1) (List.mem_of_getElem? (i := 8) rfl)
theorem dX3_isWhole_15 : decode cX3_isWhole 15 = .ok (.iaload, 1) := DX3_isWhole_0 (15, .iaload, 1) (List.mem_of_getElem? (i := 9) rfl)
theorem dX3_isWhole_16 : decode cX3_isWhole 16 = .ok (.ifCond .ne 18, 3) := DX3_isWhole_0 (16, .ifCond .ne 18, 3) (List.mem_of_getElem? (i := 10) rfl)
theorem dX3_isWhole_19 : decode cX3_isWhole 19 = .ok (.aload_n 0, 1) := DX3_isWhole_0 (19, .aload_n 0, 1) (List.mem_of_getElem? (i := 11) rfl)
theorem dX3_isWhole_20 : decode cX3_isWhole 20 = .ok (.getfield 42, 3) := DX3_isWhole_0 (20, .getfield 42, 3) (List.mem_of_getElem? (i := 12) rfl)
theorem dX3_isWhole_23 : decode cX3_isWhole 23 = .ok (.iload_n 1, 1) := DX3_isWhole_0 (23, .iload_n 1, 1) (List.mem_of_getElem? (i := 13) rfl)
theorem dX3_isWhole_24 : decode cX3_isWhole 24 = .ok (.iconst 3, 1) := DX3_isWhole_0 (24, .iconst 3, 1) (List.mem_of_getElem? (i := 14) rfl)
theorem dX3_isWhole_25 : decode cX3_isWhole 25 = .ok (.imul, 1) := DX3_isWhole_0 (25, .imul, 1) (List.mem_of_getElem? (i := 15) rfl)
theorem dX3_isWhole_26 : decode cX3_isWhole 26 = .ok (.iaload, 1) := DX3_isWhole_0 (26, .iaload, 1) (List.mem_of_getElem? (i := 16) rfl)
theorem dX3_isWhole_27 : decode cX3_isWhole 27 = .ok (.ifCond .ne 7, 3) := DX3_isWhole_0 (27, .ifCond .ne 7, 3) (List.mem_of_getElem? (i := 17) rfl)
theorem dX3_isWhole_30 : decode cX3_isWhole 30 = .ok (.iconst 1, 1) := DX3_isWhole_0 (30, .iconst 1, 1) (List.mem_of_getElem? (i := 18) rfl)
theorem dX3_isWhole_31 : decode cX3_isWhole 31 = .ok (.goto 4, 3) := DX3_isWhole_0 (31, .goto 4, 3) (List.mem_of_getElem? (i := 19) rfl)
theorem dX3_isWhole_34 : decode cX3_isWhole 34 = .ok (.iconst 0, 1) := DX3_isWhole_0 (34, .iconst 0, 1) (List.mem_of_getElem? (i := 20) rfl)
theorem dX3_isWhole_35 : decode cX3_isWhole 35 = .ok (.ireturn, 1) := DX3_isWhole_0 (35, .ireturn, 1) (List.mem_of_getElem? (i := 21) rfl)
abbrev rmX3_isWhole : Room := { frames := 0, cells := 0, slots := 0, locals := 0 }
set_option maxHeartbeats 400000 in
set_option maxRecDepth 100000 in
theorem met_X3_isWhole (l : Launch) (D : va_G) (kA : Nat → ClassId) (a : Nat → Nat) (V : Sz) (x1 : Int) {r : Bool} (hf : f_X3_isWhole V x1 = some r) : MP l yX3_isWhole cX3_isWhole 2 (some .boolean) rmX3_isWhole D kA [.ref (a 0), vI x1] (cs_X3 kA a V) (some (vI (bI r))) := by
  refine zPZ (own := RX3) rfl rfl (Nat.le_of_ble_eq_true rfl) ?_
  intro p e s m args below meth c ls Q hC hK hP hl hret
  have hl : lv_has ls 2 [(0, .ref (a 0)), (1, vI x1)] := hl
  unfold f_X3_isWhole at hf
  refine lv_aload_n hC.1 hC.2.1 dX3_isWhole_0 rfl (lv_at hl 0 rfl) <| gfX3_24 hC hK hP (q0 := 0) rfl rfl dX3_isWhole_1 <| ziload_n hC.1 hC.2.1 dX3_isWhole_4 rfl (lv_at hl 1 rfl) <| ?_
  obtain ⟨hz_1, hf⟩ := ck_some hf
  refine jal hC hK hP (q0 := 5) rfl (Nat.le_of_ble_eq_true rfl) hz_1 rfl dX3_isWhole_5 <| ziconst hC.1 hC.2.1 dX3_isWhole_6 <| ?_
  obtain ⟨hz_2, hf⟩ := ck_some hf
  refine zicmp_ne (tgt := 34) hC.1 hC.2.1 ⟨hz_2, (by decide)⟩ dX3_isWhole_7 (by decide) (fun hc => ?_) (fun hc => ?_)
  · have hf := it_f hf hc
    exact ziconst hC.1 hC.2.1 dX3_isWhole_34 <| hret (Int32.ofInt (bI false)) _ _ (zb01 _) (qZ hf) dX3_isWhole_35
  · have hf := it_t hf hc
    refine lv_aload_n hC.1 hC.2.1 dX3_isWhole_10 rfl (lv_at hl 0 rfl) <| gfX3_21 hC hK hP (q0 := 0) rfl rfl dX3_isWhole_11 <| ziload_n hC.1 hC.2.1 dX3_isWhole_14 rfl (lv_at hl 1 rfl) <| jal hC hK hP (q0 := 4) rfl (Nat.le_of_ble_eq_true rfl) hz_1 rfl dX3_isWhole_15 <| ?_
    obtain ⟨hz_3, hf⟩ := ck_some hf
    refine zif_ne (tgt := 34) hC.1 hC.2.1 hz_3 dX3_isWhole_16 (by decide) (fun hc => ?_) (fun hc => ?_)
    · have hf := it_f hf hc
      exact ziconst hC.1 hC.2.1 dX3_isWhole_34 <| hret (Int32.ofInt (bI false)) _ _ (zb01 _) (qZ hf) dX3_isWhole_35
    · have hf := it_t hf hc
      refine lv_aload_n hC.1 hC.2.1 dX3_isWhole_19 rfl (lv_at hl 0 rfl) <| gfX3_42 hC hK hP (q0 := 0) rfl rfl dX3_isWhole_20 <| ziload_n hC.1 hC.2.1 dX3_isWhole_23 rfl (lv_at hl 1 rfl) <| ziconst hC.1 hC.2.1 dX3_isWhole_24 <| zimul hC.1 hC.2.1 dX3_isWhole_25 <| ?_
      obtain ⟨hz_4, hf⟩ := ck_some hf
      refine jal hC hK hP (q0 := 11) rfl (Nat.le_of_ble_eq_true rfl) hz_4 rfl dX3_isWhole_26 <| ?_
      obtain ⟨hz_5, hf⟩ := ck_some hf
      refine zif_ne (tgt := 34) hC.1 hC.2.1 hz_5 dX3_isWhole_27 (by decide) (fun hc => ?_) (fun hc => ?_)
      · have hf := it_f hf hc
        exact ziconst hC.1 hC.2.1 dX3_isWhole_34 <| hret (Int32.ofInt (bI false)) _ _ (zb01 _) (qZ hf) dX3_isWhole_35
      · have hf := it_t hf hc
        exact ziconst hC.1 hC.2.1 dX3_isWhole_30 <| lv_goto (tgt := 35) hC.1 hC.2.1 dX3_isWhole_31 (by decide) <| hret (Int32.ofInt (bI true)) _ _ (zb01 _) (qZ hf) dX3_isWhole_35
theorem DX3_isAllOf_0 : ∀ q ∈ ([(0, .aload_n 0, 1), (1, .getfield 24, 3), (4, .iload_n 1, 1), (5, .iaload, 1), (6, .iconst 1, 1), (7, .if_icmp .ne 19, 3), (10, .aload_n 0, 1), (11, .getfield 30, 3), (14, .iload_n 1, 1), (15, .iconst 3, 1), (16, .imul, 1), (17, .iaload, 1), (18, .iload_n 2, 1), (19, .if_icmp .ne 7, 3), (22, .iconst 1, 1), (23, .goto 4, 3), (26, .iconst 0, 1), (27, .ireturn, 1)] : List (Nat × Instr × Nat)), decode cX3_isAllOf q.1 = .ok q.2 := by decide +kernel
theorem dX3_isAllOf_0 : decode cX3_isAllOf 0 = .ok (.aload_n 0, 1) := DX3_isAllOf_0 (0, .aload_n 0, 1) (List.mem_of_getElem? (i := 0) rfl)
theorem dX3_isAllOf_1 : decode cX3_isAllOf 1 = .ok (.getfield 24, 3) := DX3_isAllOf_0 (1, .getfield 24, 3) (List.mem_of_getElem? (i := 1) rfl)
theorem dX3_isAllOf_4 : decode cX3_isAllOf 4 = .ok (.iload_n 1, 1) := DX3_isAllOf_0 (4, .iload_n 1, 1) (List.mem_of_getElem? (i := 2) rfl)
theorem dX3_isAllOf_5 : decode cX3_isAllOf 5 = .ok (.iaload, 1) := DX3_isAllOf_0 (5, .iaload, 1) (List.mem_of_getElem? (i := 3) rfl)
theorem dX3_isAllOf_6 : decode cX3_isAllOf 6 = .ok (.iconst 1, 1) := DX3_isAllOf_0 (6, .iconst 1, 1) (List.mem_of_getElem? (i := 4) rfl)
theorem dX3_isAllOf_7 : decode cX3_isAllOf 7 = .ok (.if_icmp .ne 19, 3) := DX3_isAllOf_0 (7, .if_icmp .ne 19, 3) (List.mem_of_getElem? (i := 5) rfl)
theorem dX3_isAllOf_10 : decode cX3_isAllOf 10 = .ok (.aload_n 0, 1) := DX3_isAllOf_0 (10, .aload_n 0, 1) (List.mem_of_getElem? (i := 6) rfl)
theorem dX3_isAllOf_11 : decode cX3_isAllOf 11 = .ok (.getfield 30, 3) := DX3_isAllOf_0 (11, .getfield 30, 3) (List.mem_of_getElem? (i := 7) rfl)
theorem dX3_isAllOf_14 : decode cX3_isAllOf 14 = .ok (.iload_n 1, 1) := DX3_isAllOf_0 (14, .iload_n 1, 1) (List.mem_of_getElem? (i := 8) rfl)
theorem dX3_isAllOf_15 : decode cX3_isAllOf 15 = .ok (.iconst 3, 1) := DX3_isAllOf_0 (15, .iconst 3, 1) (List.mem_of_getElem? (i := 9) rfl)
theorem dX3_isAllOf_16 : decode cX3_isAllOf 16 = .ok (.imul, 1) := DX3_isAllOf_0 (16, .imul, 1) (List.mem_of_getElem? (i := 10) rfl)
theorem dX3_isAllOf_17 : decode cX3_isAllOf 17 = .ok (.iaload, 1) := DX3_isAllOf_0 (17, .iaload, 1) (List.mem_of_getElem? (i := 11) rfl)
theorem dX3_isAllOf_18 : decode cX3_isAllOf 18 = .ok (.iload_n 2, 1) := DX3_isAllOf_0 (18, .iload_n 2, 1) (List.mem_of_getElem? (i := 12) rfl)
theorem dX3_isAllOf_19 : decode cX3_isAllOf 19 = .ok (.if_icmp .ne 7, 3) := DX3_isAllOf_0 (19, .if_icmp .ne 7, 3) (List.mem_of_getElem? (i := 13) rfl)
theorem dX3_isAllOf_22 : decode cX3_isAllOf 22 = .ok (.iconst 1, 1) := DX3_isAllOf_0 (22, .iconst 1, 1) (List.mem_of_getElem? (i := 14) rfl)
theorem dX3_isAllOf_23 : decode cX3_isAllOf 23 = .ok (.goto 4, 3) := DX3_isAllOf_0 (23, .goto 4, 3) (List.mem_of_getElem? (i := 15) rfl)
theorem dX3_isAllOf_26 : decode cX3_isAllOf 26 = .ok (.iconst 0, 1) := DX3_isAllOf_0 (26, .iconst 0, 1) (List.mem_of_getElem? (i := 16) rfl)
theorem dX3_isAllOf_27 : decode cX3_isAllOf 27 = .ok (.ireturn, 1) := DX3_isAllOf_0 (27, .ireturn, 1) (List.mem_of_getElem? (i := 17) rfl)
abbrev rmX3_isAllOf : Room := { frames := 0, cells := 0, slots := 0, locals := 0 }
set_option maxHeartbeats 400000 in
set_option maxRecDepth 100000 in
theorem met_X3_isAllOf (l : Launch) (D : va_G) (kA : Nat → ClassId) (a : Nat → Nat) (V : Sz) (x1 : Int) (x2 : Int) {r : Bool} (hf : f_X3_isAllOf V x1 x2 = some r) : MP l yX3_isAllOf cX3_isAllOf 3 (some .boolean) rmX3_isAllOf D kA [.ref (a 0), vI x1, vI x2] (cs_X3 kA a V) (some (vI (bI r))) := by
  refine zPZ (own := RX3) rfl rfl (Nat.le_of_ble_eq_true rfl) ?_
  intro p e s m args below meth c ls Q hC hK hP hl hret
  have hl : lv_has ls 3 [(0, .ref (a 0)), (1, vI x1), (2, vI x2)] := hl
  unfold f_X3_isAllOf at hf
  refine lv_aload_n hC.1 hC.2.1 dX3_isAllOf_0 rfl (lv_at hl 0 rfl) <| gfX3_24 hC hK hP (q0 := 0) rfl rfl dX3_isAllOf_1 <| ziload_n hC.1 hC.2.1 dX3_isAllOf_4 rfl (lv_at hl 1 rfl) <| ?_
  obtain ⟨hz_1, hf⟩ := ck_some hf
  refine jal hC hK hP (q0 := 5) rfl (Nat.le_of_ble_eq_true rfl) hz_1 rfl dX3_isAllOf_5 <| ziconst hC.1 hC.2.1 dX3_isAllOf_6 <| ?_
  obtain ⟨hz_2, hf⟩ := ck_some hf
  refine zicmp_ne (tgt := 26) hC.1 hC.2.1 ⟨hz_2, (by decide)⟩ dX3_isAllOf_7 (by decide) (fun hc => ?_) (fun hc => ?_)
  · have hf := it_f hf hc
    exact ziconst hC.1 hC.2.1 dX3_isAllOf_26 <| hret (Int32.ofInt (bI false)) _ _ (zb01 _) (qZ hf) dX3_isAllOf_27
  · have hf := it_t hf hc
    refine lv_aload_n hC.1 hC.2.1 dX3_isAllOf_10 rfl (lv_at hl 0 rfl) <| gfX3_30 hC hK hP (q0 := 0) rfl rfl dX3_isAllOf_11 <| ziload_n hC.1 hC.2.1 dX3_isAllOf_14 rfl (lv_at hl 1 rfl) <| ziconst hC.1 hC.2.1 dX3_isAllOf_15 <| zimul hC.1 hC.2.1 dX3_isAllOf_16 <| ?_
    obtain ⟨hz_3, hf⟩ := ck_some hf
    refine jal hC hK hP (q0 := 7) rfl (Nat.le_of_ble_eq_true rfl) hz_3 rfl dX3_isAllOf_17 <| ziload_n hC.1 hC.2.1 dX3_isAllOf_18 rfl (lv_at hl 2 rfl) <| ?_
    obtain ⟨hz_4, hf⟩ := ck_some hf
    refine zicmp_ne (tgt := 26) hC.1 hC.2.1 ⟨hz_4.1, hz_4.2⟩ dX3_isAllOf_19 (by decide) (fun hc => ?_) (fun hc => ?_)
    · have hf := it_f hf hc
      exact ziconst hC.1 hC.2.1 dX3_isAllOf_26 <| hret (Int32.ofInt (bI false)) _ _ (zb01 _) (qZ hf) dX3_isAllOf_27
    · have hf := it_t hf hc
      exact ziconst hC.1 hC.2.1 dX3_isAllOf_22 <| lv_goto (tgt := 27) hC.1 hC.2.1 dX3_isAllOf_23 (by decide) <| hret (Int32.ofInt (bI true)) _ _ (zb01 _) (qZ hf) dX3_isAllOf_27
theorem DX3_hasDonor_0 : ∀ q ∈ ([(0, .iconst 0, 1), (1, .istore_n 3, 1), (2, .iload_n 3, 1), (3, .aload_n 0, 1), (4, .getfield 24, 3), (7, .iload_n 1, 1), (8, .iaload, 1), (9, .if_icmp .ge 25, 3), (12, .aload_n 0, 1), (13, .getfield 30, 3), (16, .iload_n 1, 1), (17, .iconst 3, 1), (18, .imul, 1), (19, .iload_n 3, 1), (20, .iadd, 1), (21, .iaload, 1), (22, .iload_n 2, 1), (23, .if_icmp .ne 5, 3), (26, .iconst 1, 1), (27, .ireturn, 1), (28, .iinc 3 1, 3), (31, .goto (-29), 3), (34, .iconst 0, 1), (35, .ireturn, 1)] : List (Nat × Instr × Nat)), decode cX3_hasDonor q.1 = .ok q.2 := by decide +kernel
theorem dX3_hasDonor_0 : decode cX3_hasDonor 0 = .ok (.iconst 0, 1) := DX3_hasDonor_0 (0, .iconst 0, 1) (List.mem_of_getElem? (i := 0) rfl)
theorem dX3_hasDonor_1 : decode cX3_hasDonor 1 = .ok (.istore_n 3, 1) := DX3_hasDonor_0 (1, .istore_n 3, 1) (List.mem_of_getElem? (i := 1) rfl)
theorem dX3_hasDonor_2 : decode cX3_hasDonor 2 = .ok (.iload_n 3, 1) := DX3_hasDonor_0 (2, .iload_n 3, 1) (List.mem_of_getElem? (i := 2) rfl)
theorem dX3_hasDonor_3 : decode cX3_hasDonor 3 = .ok (.aload_n 0, 1) := DX3_hasDonor_0 (3, .aload_n 0, 1) (List.mem_of_getElem? (i := 3) rfl)
theorem dX3_hasDonor_4 : decode cX3_hasDonor 4 = .ok (.getfield 24, 3) := DX3_hasDonor_0 (4, .getfield 24, 3) (List.mem_of_getElem? (i := 4) rfl)
theorem dX3_hasDonor_7 : decode cX3_hasDonor 7 = .ok (.iload_n 1, 1) := DX3_hasDonor_0 (7, .iload_n 1, 1) (List.mem_of_getElem? (i := 5) rfl)
theorem dX3_hasDonor_8 : decode cX3_hasDonor 8 = .ok (.iaload, 1) := DX3_hasDonor_0 (8, .iaload, 1) (List.mem_of_getElem? (i := 6) rfl)
theorem dX3_hasDonor_9 : decode cX3_hasDonor 9 = .ok (.if_icmp .ge 25, 3) := DX3_hasDonor_0 (9, .if_icmp .ge 25, 3) (List.mem_of_getElem? (i := 7) rfl)
theorem dX3_hasDonor_12 : decode cX3_hasDonor 12 = .ok (.aload_n 0, 1) := DX3_hasDonor_0 (12, .aload_n 0, 1) (List.mem_of_getElem? (i := 8) rfl)
theorem dX3_hasDonor_13 : decode cX3_hasDonor 13 = .ok (.getfield 30, 3) := DX3_hasDonor_0 (13, .getfield 30, 3) (List.mem_of_getElem? (i := 9) rfl)
theorem dX3_hasDonor_16 : decode cX3_hasDonor 16 = .ok (.iload_n 1, 1) := DX3_hasDonor_0 (16, .iload_n 1, 1) (List.mem_of_getElem? (i := 10) rfl)
theorem dX3_hasDonor_17 : decode cX3_hasDonor 17 = .ok (.iconst 3, 1) := DX3_hasDonor_0 (17, .iconst 3, 1) (List.mem_of_getElem? (i := 11) rfl)
theorem dX3_hasDonor_18 : decode cX3_hasDonor 18 = .ok (.imul, 1) := DX3_hasDonor_0 (18, .imul, 1) (List.mem_of_getElem? (i := 12) rfl)
theorem dX3_hasDonor_19 : decode cX3_hasDonor 19 = .ok (.iload_n 3, 1) := DX3_hasDonor_0 (19, .iload_n 3, 1) (List.mem_of_getElem? (i := 13) rfl)
theorem dX3_hasDonor_20 : decode cX3_hasDonor 20 = .ok (.iadd, 1) := DX3_hasDonor_0 (20, .iadd, 1) (List.mem_of_getElem? (i := 14) rfl)
theorem dX3_hasDonor_21 : decode cX3_hasDonor 21 = .ok (.iaload, 1) := DX3_hasDonor_0 (21, .iaload, 1) (List.mem_of_getElem? (i := 15) rfl)
theorem dX3_hasDonor_22 : decode cX3_hasDonor 22 = .ok (.iload_n 2, 1) := DX3_hasDonor_0 (22, .iload_n 2, 1) (List.mem_of_getElem? (i := 16) rfl)
theorem dX3_hasDonor_23 : decode cX3_hasDonor 23 = .ok (.if_icmp .ne 5, 3) := DX3_hasDonor_0 (23, .if_icmp .ne 5, 3) (List.mem_of_getElem? (i := 17) rfl)
theorem dX3_hasDonor_26 : decode cX3_hasDonor 26 = .ok (.iconst 1, 1) := DX3_hasDonor_0 (26, .iconst 1, 1) (List.mem_of_getElem? (i := 18) rfl)
theorem dX3_hasDonor_27 : decode cX3_hasDonor 27 = .ok (.ireturn, 1) := DX3_hasDonor_0 (27, .ireturn, 1) (List.mem_of_getElem? (i := 19) rfl)
theorem dX3_hasDonor_28 : decode cX3_hasDonor 28 = .ok (.iinc 3 1, 3) := DX3_hasDonor_0 (28, .iinc 3 1, 3) (List.mem_of_getElem? (i := 20) rfl)
theorem dX3_hasDonor_31 : decode cX3_hasDonor 31 = .ok (.goto (-29), 3) := DX3_hasDonor_0 (31, .goto (-29), 3) (List.mem_of_getElem? (i := 21) rfl)
theorem dX3_hasDonor_34 : decode cX3_hasDonor 34 = .ok (.iconst 0, 1) := DX3_hasDonor_0 (34, .iconst 0, 1) (List.mem_of_getElem? (i := 22) rfl)
theorem dX3_hasDonor_35 : decode cX3_hasDonor 35 = .ok (.ireturn, 1) := DX3_hasDonor_0 (35, .ireturn, 1) (List.mem_of_getElem? (i := 23) rfl)
abbrev rmX3_hasDonor : Room := { frames := 0, cells := 0, slots := 0, locals := 0 }
set_option maxHeartbeats 400000 in
set_option maxRecDepth 100000 in
theorem met_X3_hasDonor (l : Launch) (D : va_G) (kA : Nat → ClassId) (a : Nat → Nat) (n : Nat) (V : Sz) (x1 : Int) (x2 : Int) {r : Bool} (hf : f_X3_hasDonor n V x1 x2 = some r) : MP l yX3_hasDonor cX3_hasDonor 4 (some .boolean) rmX3_hasDonor D kA [.ref (a 0), vI x1, vI x2] (cs_X3 kA a V) (some (vI (bI r))) := by
  refine zPZ (own := RX3) rfl rfl (Nat.le_of_ble_eq_true rfl) ?_
  intro p e s m args below meth c ls Q hC hK hP hl hret
  have hl : lv_has ls 4 [(0, .ref (a 0)), (1, vI x1), (2, vI x2)] := hl
  unfold f_X3_hasDonor at hf
  have L2 : ∀ (k2 : Nat) (y3 : Int) (ls : Array Slot), lpF (bX3_hasDonor_2 n V x1 x2) k2 y3 = some r → lv_has ls 4 [(0, .ref (a 0)), (1, vI x1), (2, vI x2), (3, vI y3)] → W p l e rmX3_hasDonor s m args below meth c s.heap [] 0 0 Q (F0 m 2 ls []) := by
    intro k2
    induction k2 with
    | zero => intro y3 ls hf hl; exact lp_0 hf
    | succ k2 ih2 =>
      intro y3 ls hf hl
      have hf := lp_s hf
      rw [bX3_hasDonor_2_e] at hf
      refine ziload_n hC.1 hC.2.1 dX3_hasDonor_2 rfl (lv_at hl 3 rfl) <| lv_aload_n hC.1 hC.2.1 dX3_hasDonor_3 rfl (lv_at hl 0 rfl) <| gfX3_24 hC hK hP (q0 := 0) rfl rfl dX3_hasDonor_4 <| ziload_n hC.1 hC.2.1 dX3_hasDonor_7 rfl (lv_at hl 1 rfl) <| ?_
      obtain ⟨hz_1, hf⟩ := ck_some hf
      refine jal hC hK hP (q0 := 5) rfl (Nat.le_of_ble_eq_true rfl) hz_1 rfl dX3_hasDonor_8 <| ?_
      obtain ⟨hz_2, hf⟩ := ck_some hf
      refine zicmp_ge (tgt := 34) hC.1 hC.2.1 ⟨hz_2.1, hz_2.2⟩ dX3_hasDonor_9 (by decide) (fun hc => ?_) (fun hc => ?_)
      · have hf := it_t hf hc
        exact ziconst hC.1 hC.2.1 dX3_hasDonor_34 <| hret (Int32.ofInt (bI false)) _ _ (zb01 _) (qZ hf) dX3_hasDonor_35
      · have hf := it_f hf hc
        refine lv_aload_n hC.1 hC.2.1 dX3_hasDonor_12 rfl (lv_at hl 0 rfl) <| gfX3_30 hC hK hP (q0 := 0) rfl rfl dX3_hasDonor_13 <| ziload_n hC.1 hC.2.1 dX3_hasDonor_16 rfl (lv_at hl 1 rfl) <| ziconst hC.1 hC.2.1 dX3_hasDonor_17 <| zimul hC.1 hC.2.1 dX3_hasDonor_18 <| ziload_n hC.1 hC.2.1 dX3_hasDonor_19 rfl (lv_at hl 3 rfl) <| ziadd hC.1 hC.2.1 dX3_hasDonor_20 <| ?_
        obtain ⟨hz_3, hf⟩ := ck_some hf
        refine jal hC hK hP (q0 := 7) rfl (Nat.le_of_ble_eq_true rfl) hz_3 rfl dX3_hasDonor_21 <| ziload_n hC.1 hC.2.1 dX3_hasDonor_22 rfl (lv_at hl 2 rfl) <| ?_
        obtain ⟨hz_4, hf⟩ := ck_some hf
        refine zicmp_ne (tgt := 28) hC.1 hC.2.1 ⟨hz_4.1, hz_4.2⟩ dX3_hasDonor_23 (by decide) (fun hc => ?_) (fun hc => ?_)
        · have hf := it_f hf hc
          obtain ⟨x_5, ex_5⟩ : ∃ y : Int, y = y3 + 1 := ⟨_, rfl⟩
          have hf := nm_at hf ex_5
          refine ziinc (v := x_5) (lv' := [(3, vI x_5), (0, .ref (a 0)), (1, vI x1), (2, vI x2)]) hC.1 hC.2.1 dX3_hasDonor_28 hl (k := 3) rfl ex_5 (by decide) rfl (fun ls hl => ?_)
          exact lv_goto (tgt := 2) hC.1 hC.2.1 dX3_hasDonor_31 (by decide) <| ih2 _ _ hf (lv_sub hl [1, 2, 3, 0] rfl)
        · have hf := it_t hf hc
          exact ziconst hC.1 hC.2.1 dX3_hasDonor_26 <| hret (Int32.ofInt (bI true)) _ _ (zb01 _) (qZ hf) dX3_hasDonor_27
  refine ziconst hC.1 hC.2.1 dX3_hasDonor_0 <| zistore_n (lv' := [(3, vI 0), (0, .ref (a 0)), (1, vI x1), (2, vI x2)]) hC.1 hC.2.1 dX3_hasDonor_1 rfl hl (by decide) rfl (fun ls hl => ?_)
  exact L2 n _ _ hf (lv_sub hl [1, 2, 3, 0] rfl)
theorem DX3_slotCount_0 : ∀ q ∈ ([(0, .aload_n 0, 1), (1, .getfield 45, 3), (4, .iconst 3, 1), (5, .imul, 1), (6, .ireturn, 1)] : List (Nat × Instr × Nat)), decode cX3_slotCount q.1 = .ok q.2 := by decide +kernel
theorem dX3_slotCount_0 : decode cX3_slotCount 0 = .ok (.aload_n 0, 1) := DX3_slotCount_0 (0, .aload_n 0, 1) (List.mem_of_getElem? (i := 0) rfl)
theorem dX3_slotCount_1 : decode cX3_slotCount 1 = .ok (.getfield 45, 3) := DX3_slotCount_0 (1, .getfield 45, 3) (List.mem_of_getElem? (i := 1) rfl)
theorem dX3_slotCount_4 : decode cX3_slotCount 4 = .ok (.iconst 3, 1) := DX3_slotCount_0 (4, .iconst 3, 1) (List.mem_of_getElem? (i := 2) rfl)
theorem dX3_slotCount_5 : decode cX3_slotCount 5 = .ok (.imul, 1) := DX3_slotCount_0 (5, .imul, 1) (List.mem_of_getElem? (i := 3) rfl)
theorem dX3_slotCount_6 : decode cX3_slotCount 6 = .ok (.ireturn, 1) := DX3_slotCount_0 (6, .ireturn, 1) (List.mem_of_getElem? (i := 4) rfl)
abbrev rmX3_slotCount : Room := { frames := 0, cells := 0, slots := 0, locals := 0 }
set_option maxHeartbeats 400000 in
set_option maxRecDepth 100000 in
theorem met_X3_slotCount (l : Launch) (D : va_G) (kA : Nat → ClassId) (a : Nat → Nat) (V : Sz) {r : Int} (hf : f_X3_slotCount V = some r) : MP l yX3_slotCount cX3_slotCount 1 (some .int) rmX3_slotCount D kA [.ref (a 0)] (cs_X3 kA a V) (some (vI r)) := by
  refine zPI (own := RX3) rfl rfl (Nat.le_of_ble_eq_true rfl) ?_
  intro p e s m args below meth c ls Q hC hK hP hl hret
  have hl : lv_has ls 1 [(0, .ref (a 0))] := hl
  unfold f_X3_slotCount at hf
  exact lv_aload_n hC.1 hC.2.1 dX3_slotCount_0 rfl (lv_at hl 0 rfl) <| gfX3_45 hC hK hP (q0 := 0) rfl rfl dX3_slotCount_1 <| ziconst hC.1 hC.2.1 dX3_slotCount_4 <| zimul hC.1 hC.2.1 dX3_slotCount_5 <| hret (Int32.ofInt ((V 0 0) * 3)) _ _ (qI hf) dX3_slotCount_6
theorem DX3_isPart_0 : ∀ q ∈ ([(0, .iload_n 1, 1), (1, .iconst 3, 1), (2, .irem, 1), (3, .aload_n 0, 1), (4, .getfield 24, 3), (7, .iload_n 1, 1), (8, .iconst 3, 1), (9, .idiv, 1), (10, .iaload, 1), (11, .if_icmp .ge 7, 3), (14, .iconst 1, 1), (15, .goto 4, 3), (18, .iconst 0, 1), (19, .ireturn, 1)] : List (Nat × Instr × Nat)), decode cX3_isPart q.1 = .ok q.2 := by decide +kernel
theorem dX3_isPart_0 : decode cX3_isPart 0 = .ok (.iload_n 1, 1) := DX3_isPart_0 (0, .iload_n 1, 1) (List.mem_of_getElem? (i := 0) rfl)
theorem dX3_isPart_1 : decode cX3_isPart 1 = .ok (.iconst 3, 1) := DX3_isPart_0 (1, .iconst 3, 1) (List.mem_of_getElem? (i := 1) rfl)
theorem dX3_isPart_2 : decode cX3_isPart 2 = .ok (.irem, 1) := DX3_isPart_0 (2, .irem, 1) (List.mem_of_getElem? (i := 2) rfl)
theorem dX3_isPart_3 : decode cX3_isPart 3 = .ok (.aload_n 0, 1) := DX3_isPart_0 (3, .aload_n 0, 1) (List.mem_of_getElem? (i := 3) rfl)
theorem dX3_isPart_4 : decode cX3_isPart 4 = .ok (.getfield 24, 3) := DX3_isPart_0 (4, .getfield 24, 3) (List.mem_of_getElem? (i := 4) rfl)
theorem dX3_isPart_7 : decode cX3_isPart 7 = .ok (.iload_n 1, 1) := DX3_isPart_0 (7, .iload_n 1, 1) (List.mem_of_getElem? (i := 5) rfl)
theorem dX3_isPart_8 : decode cX3_isPart 8 = .ok (.iconst 3, 1) := DX3_isPart_0 (8, .iconst 3, 1) (List.mem_of_getElem? (i := 6) rfl)
theorem dX3_isPart_9 : decode cX3_isPart 9 = .ok (.idiv, 1) := DX3_isPart_0 (9, .idiv, 1) (List.mem_of_getElem? (i := 7) rfl)
theorem dX3_isPart_10 : decode cX3_isPart 10 = .ok (.iaload, 1) := DX3_isPart_0 (10, .iaload, 1) (List.mem_of_getElem? (i := 8) rfl)
theorem dX3_isPart_11 : decode cX3_isPart 11 = .ok (.if_icmp .ge 7, 3) := DX3_isPart_0 (11, .if_icmp .ge 7, 3) (List.mem_of_getElem? (i := 9) rfl)
theorem dX3_isPart_14 : decode cX3_isPart 14 = .ok (.iconst 1, 1) := DX3_isPart_0 (14, .iconst 1, 1) (List.mem_of_getElem? (i := 10) rfl)
theorem dX3_isPart_15 : decode cX3_isPart 15 = .ok (.goto 4, 3) := DX3_isPart_0 (15, .goto 4, 3) (List.mem_of_getElem? (i := 11) rfl)
theorem dX3_isPart_18 : decode cX3_isPart 18 = .ok (.iconst 0, 1) := DX3_isPart_0 (18, .iconst 0, 1) (List.mem_of_getElem? (i := 12) rfl)
theorem dX3_isPart_19 : decode cX3_isPart 19 = .ok (.ireturn, 1) := DX3_isPart_0 (19, .ireturn, 1) (List.mem_of_getElem? (i := 13) rfl)
abbrev rmX3_isPart : Room := { frames := 0, cells := 0, slots := 0, locals := 0 }
set_option maxHeartbeats 400000 in
set_option maxRecDepth 100000 in
theorem met_X3_isPart (l : Launch) (D : va_G) (kA : Nat → ClassId) (a : Nat → Nat) (V : Sz) (x1 : Int) {r : Bool} (hf : f_X3_isPart V x1 = some r) : MP l yX3_isPart cX3_isPart 2 (some .boolean) rmX3_isPart D kA [.ref (a 0), vI x1] (cs_X3 kA a V) (some (vI (bI r))) := by
  refine zPZ (own := RX3) rfl rfl (Nat.le_of_ble_eq_true rfl) ?_
  intro p e s m args below meth c ls Q hC hK hP hl hret
  have hl : lv_has ls 2 [(0, .ref (a 0)), (1, vI x1)] := hl
  unfold f_X3_isPart at hf
  refine ziload_n hC.1 hC.2.1 dX3_isPart_0 rfl (lv_at hl 1 rfl) <| ziconst hC.1 hC.2.1 dX3_isPart_1 <| ?_
  obtain ⟨hz_1, hf⟩ := ck_some hf
  refine zirem hC.1 hC.2.1 ⟨hz_1.1, hz_1.2, by decide, by decide⟩ dX3_isPart_2 <| lv_aload_n hC.1 hC.2.1 dX3_isPart_3 rfl (lv_at hl 0 rfl) <| gfX3_24 hC hK hP (q0 := 0) rfl rfl dX3_isPart_4 <| ziload_n hC.1 hC.2.1 dX3_isPart_7 rfl (lv_at hl 1 rfl) <| ziconst hC.1 hC.2.1 dX3_isPart_8 <| zidiv hC.1 hC.2.1 ⟨hz_1.1, hz_1.2, by decide, by decide⟩ dX3_isPart_9 <| ?_
  obtain ⟨hz_2, hf⟩ := ck_some hf
  refine jal hC hK hP (q0 := 5) rfl (Nat.le_of_ble_eq_true rfl) hz_2 rfl dX3_isPart_10 <| ?_
  obtain ⟨hz_3, hf⟩ := ck_some hf
  refine zicmp_ge (tgt := 18) hC.1 hC.2.1 ⟨hz_3.1, hz_3.2⟩ dX3_isPart_11 (by decide) (fun hc => ?_) (fun hc => ?_)
  · have hf := it_t hf hc
    exact ziconst hC.1 hC.2.1 dX3_isPart_18 <| hret (Int32.ofInt (bI false)) _ _ (zb01 _) (qZ hf) dX3_isPart_19
  · have hf := it_f hf hc
    exact ziconst hC.1 hC.2.1 dX3_isPart_14 <| lv_goto (tgt := 19) hC.1 hC.2.1 dX3_isPart_15 (by decide) <| hret (Int32.ofInt (bI true)) _ _ (zb01 _) (qZ hf) dX3_isPart_19
theorem DX3_isPartOf_0 : ∀ q ∈ ([(0, .aload_n 0, 1), (1, .iload_n 1, 1), (2, .invokevirtual 75, 3), (5, .ifCond .eq 17, 3), (8, .aload_n 0, 1), (9, .getfield 30, 3), (12, .iload_n 1, 1), (13, .iaload, 1), (14, .iload_n 2, 1), (15, .if_icmp .ne 7, 3), (18, .iconst 1, 1), (19, .goto 4, 3), (22, .iconst 0, 1), (23, .ireturn, 1)] : List (Nat × Instr × Nat)), decode cX3_isPartOf q.1 = .ok q.2 := by decide +kernel
theorem dX3_isPartOf_0 : decode cX3_isPartOf 0 = .ok (.aload_n 0, 1) := DX3_isPartOf_0 (0, .aload_n 0, 1) (List.mem_of_getElem? (i := 0) rfl)
theorem dX3_isPartOf_1 : decode cX3_isPartOf 1 = .ok (.iload_n 1, 1) := DX3_isPartOf_0 (1, .iload_n 1, 1) (List.mem_of_getElem? (i := 1) rfl)
theorem dX3_isPartOf_2 : decode cX3_isPartOf 2 = .ok (.invokevirtual 75, 3) := DX3_isPartOf_0 (2, .invokevirtual 75, 3) (List.mem_of_getElem? (i := 2) rfl)
theorem dX3_isPartOf_5 : decode cX3_isPartOf 5 = .ok (.ifCond .eq 17, 3) := DX3_isPartOf_0 (5, .ifCond .eq 17, 3) (List.mem_of_getElem? (i := 3) rfl)
theorem dX3_isPartOf_8 : decode cX3_isPartOf 8 = .ok (.aload_n 0, 1) := DX3_isPartOf_0 (8, .aload_n 0, 1) (List.mem_of_getElem? (i := 4) rfl)
theorem dX3_isPartOf_9 : decode cX3_isPartOf 9 = .ok (.getfield 30, 3) := DX3_isPartOf_0 (9, .getfield 30, 3) (List.mem_of_getElem? (i := 5) rfl)
theorem dX3_isPartOf_12 : decode cX3_isPartOf 12 = .ok (.iload_n 1, 1) := DX3_isPartOf_0 (12, .iload_n 1, 1) (List.mem_of_getElem? (i := 6) rfl)
theorem dX3_isPartOf_13 : decode cX3_isPartOf 13 = .ok (.iaload, 1) := DX3_isPartOf_0 (13, .iaload, 1) (List.mem_of_getElem? (i := 7) rfl)
theorem dX3_isPartOf_14 : decode cX3_isPartOf 14 = .ok (.iload_n 2, 1) := DX3_isPartOf_0 (14, .iload_n 2, 1) (List.mem_of_getElem? (i := 8) rfl)
theorem dX3_isPartOf_15 : decode cX3_isPartOf 15 = .ok (.if_icmp .ne 7, 3) := DX3_isPartOf_0 (15, .if_icmp .ne 7, 3) (List.mem_of_getElem? (i := 9) rfl)
theorem dX3_isPartOf_18 : decode cX3_isPartOf 18 = .ok (.iconst 1, 1) := DX3_isPartOf_0 (18, .iconst 1, 1) (List.mem_of_getElem? (i := 10) rfl)
theorem dX3_isPartOf_19 : decode cX3_isPartOf 19 = .ok (.goto 4, 3) := DX3_isPartOf_0 (19, .goto 4, 3) (List.mem_of_getElem? (i := 11) rfl)
theorem dX3_isPartOf_22 : decode cX3_isPartOf 22 = .ok (.iconst 0, 1) := DX3_isPartOf_0 (22, .iconst 0, 1) (List.mem_of_getElem? (i := 12) rfl)
theorem dX3_isPartOf_23 : decode cX3_isPartOf 23 = .ok (.ireturn, 1) := DX3_isPartOf_0 (23, .ireturn, 1) (List.mem_of_getElem? (i := 13) rfl)
abbrev rmX3_isPartOf : Room := { frames := 1, cells := 0, slots := 0, locals := 21 }
set_option maxHeartbeats 400000 in
set_option maxRecDepth 100000 in
theorem met_X3_isPartOf (l : Launch) (D : va_G) (kA : Nat → ClassId) (a : Nat → Nat) (V : Sz) (x1 : Int) (x2 : Int) {r : Bool} (hf : f_X3_isPartOf V x1 x2 = some r) : MP l yX3_isPartOf cX3_isPartOf 3 (some .boolean) rmX3_isPartOf D kA [.ref (a 0), vI x1, vI x2] (cs_X3 kA a V) (some (vI (bI r))) := by
  refine zPZ (own := RX3) rfl rfl (Nat.le_of_ble_eq_true rfl) ?_
  intro p e s m args below meth c ls Q hC hK hP hl hret
  have hl : lv_has ls 3 [(0, .ref (a 0)), (1, vI x1), (2, vI x2)] := hl
  unfold f_X3_isPartOf at hf
  refine lv_aload_n hC.1 hC.2.1 dX3_isPartOf_0 rfl (lv_at hl 0 rfl) <| ziload_n hC.1 hC.2.1 dX3_isPartOf_1 rfl (lv_at hl 1 rfl) <| ?_
  obtain ⟨r_1, hu, hf⟩ := bd_some hf
  refine zcVP (As := [vI x1]) (rest := []) hC hK (met_X3_isPart l D kA a V x1 hu) zwX3_75 hP (q0 := 0) rfl rfl rfl rfl hl.1 rfl (Nat.le_of_ble_eq_true rfl) ⟨Nat.le_of_ble_eq_true rfl, Nat.le_of_ble_eq_true rfl⟩ ⟨rfl, rfl⟩ ⟨Nat.le_refl _, Nat.le_refl _⟩ dX3_isPartOf_2 <| zifb_eq (tgt := 22) hC.1 hC.2.1 dX3_isPartOf_5 (by decide) (fun hc => ?_) (fun hc => ?_)
  · have hf := it_t hf hc
    exact ziconst hC.1 hC.2.1 dX3_isPartOf_22 <| hret (Int32.ofInt (bI false)) _ _ (zb01 _) (qZ hf) dX3_isPartOf_23
  · have hf := it_f hf hc
    refine lv_aload_n hC.1 hC.2.1 dX3_isPartOf_8 rfl (lv_at hl 0 rfl) <| gfX3_30 hC hK hP (q0 := 0) rfl rfl dX3_isPartOf_9 <| ziload_n hC.1 hC.2.1 dX3_isPartOf_12 rfl (lv_at hl 1 rfl) <| ?_
    obtain ⟨hz_2, hf⟩ := ck_some hf
    refine jal hC hK hP (q0 := 7) rfl (Nat.le_of_ble_eq_true rfl) hz_2 rfl dX3_isPartOf_13 <| ziload_n hC.1 hC.2.1 dX3_isPartOf_14 rfl (lv_at hl 2 rfl) <| ?_
    obtain ⟨hz_3, hf⟩ := ck_some hf
    refine zicmp_ne (tgt := 22) hC.1 hC.2.1 ⟨hz_3.1, hz_3.2⟩ dX3_isPartOf_15 (by decide) (fun hc => ?_) (fun hc => ?_)
    · have hf := it_f hf hc
      exact ziconst hC.1 hC.2.1 dX3_isPartOf_22 <| hret (Int32.ofInt (bI false)) _ _ (zb01 _) (qZ hf) dX3_isPartOf_23
    · have hf := it_t hf hc
      exact ziconst hC.1 hC.2.1 dX3_isPartOf_18 <| lv_goto (tgt := 23) hC.1 hC.2.1 dX3_isPartOf_19 (by decide) <| hret (Int32.ofInt (bI true)) _ _ (zb01 _) (qZ hf) dX3_isPartOf_23
theorem DX3_dayOfPart_0 : ∀ q ∈ ([(0, .aload_n 0, 1), (1, .getfield 9, 3), (4, .iload_n 1, 1), (5, .iconst 3, 1), (6, .idiv, 1), (7, .iaload, 1), (8, .ireturn, 1)] : List (Nat × Instr × Nat)), decode cX3_dayOfPart q.1 = .ok q.2 := by decide +kernel
theorem dX3_dayOfPart_0 : decode cX3_dayOfPart 0 = .ok (.aload_n 0, 1) := DX3_dayOfPart_0 (0, .aload_n 0, 1) (List.mem_of_getElem? (i := 0) rfl)
theorem dX3_dayOfPart_1 : decode cX3_dayOfPart 1 = .ok (.getfield 9, 3) := DX3_dayOfPart_0 (1, .getfield 9, 3) (List.mem_of_getElem? (i := 1) rfl)
theorem dX3_dayOfPart_4 : decode cX3_dayOfPart 4 = .ok (.iload_n 1, 1) := DX3_dayOfPart_0 (4, .iload_n 1, 1) (List.mem_of_getElem? (i := 2) rfl)
theorem dX3_dayOfPart_5 : decode cX3_dayOfPart 5 = .ok (.iconst 3, 1) := DX3_dayOfPart_0 (5, .iconst 3, 1) (List.mem_of_getElem? (i := 3) rfl)
theorem dX3_dayOfPart_6 : decode cX3_dayOfPart 6 = .ok (.idiv, 1) := DX3_dayOfPart_0 (6, .idiv, 1) (List.mem_of_getElem? (i := 4) rfl)
theorem dX3_dayOfPart_7 : decode cX3_dayOfPart 7 = .ok (.iaload, 1) := DX3_dayOfPart_0 (7, .iaload, 1) (List.mem_of_getElem? (i := 5) rfl)
theorem dX3_dayOfPart_8 : decode cX3_dayOfPart 8 = .ok (.ireturn, 1) := DX3_dayOfPart_0 (8, .ireturn, 1) (List.mem_of_getElem? (i := 6) rfl)
abbrev rmX3_dayOfPart : Room := { frames := 0, cells := 0, slots := 0, locals := 0 }
set_option maxHeartbeats 400000 in
set_option maxRecDepth 100000 in
theorem met_X3_dayOfPart (l : Launch) (D : va_G) (kA : Nat → ClassId) (a : Nat → Nat) (V : Sz) (x1 : Int) {r : Int} (hf : f_X3_dayOfPart V x1 = some r) : MP l yX3_dayOfPart cX3_dayOfPart 2 (some .int) rmX3_dayOfPart D kA [.ref (a 0), vI x1] (cs_X3 kA a V) (some (vI r)) := by
  refine zPI (own := RX3) rfl rfl (Nat.le_of_ble_eq_true rfl) ?_
  intro p e s m args below meth c ls Q hC hK hP hl hret
  have hl : lv_has ls 2 [(0, .ref (a 0)), (1, vI x1)] := hl
  unfold f_X3_dayOfPart at hf
  refine lv_aload_n hC.1 hC.2.1 dX3_dayOfPart_0 rfl (lv_at hl 0 rfl) <| gfX3_9 hC hK hP (q0 := 0) rfl rfl dX3_dayOfPart_1 <| ziload_n hC.1 hC.2.1 dX3_dayOfPart_4 rfl (lv_at hl 1 rfl) <| ziconst hC.1 hC.2.1 dX3_dayOfPart_5 <| ?_
  obtain ⟨hz_1, hf⟩ := ck_some hf
  refine zidiv hC.1 hC.2.1 ⟨hz_1.1, hz_1.2, by decide, by decide⟩ dX3_dayOfPart_6 <| ?_
  obtain ⟨hz_2, hf⟩ := ck_some hf
  exact jal hC hK hP (q0 := 1) rfl (Nat.le_of_ble_eq_true rfl) hz_2 rfl dX3_dayOfPart_7 <| hret (Int32.ofInt (V 1 (x1 / 3).toNat)) _ _ (qI hf) dX3_dayOfPart_8
theorem DX3_yearOf_0 : ∀ q ∈ ([(0, .aload_n 0, 1), (1, .getfield 9, 3), (4, .iload_n 1, 1), (5, .iaload, 1), (6, .sipush 365, 3), (9, .idiv, 1), (10, .ireturn, 1)] : List (Nat × Instr × Nat)), decode cX3_yearOf q.1 = .ok q.2 := by decide +kernel
theorem dX3_yearOf_0 : decode cX3_yearOf 0 = .ok (.aload_n 0, 1) := DX3_yearOf_0 (0, .aload_n 0, 1) (List.mem_of_getElem? (i := 0) rfl)
theorem dX3_yearOf_1 : decode cX3_yearOf 1 = .ok (.getfield 9, 3) := DX3_yearOf_0 (1, .getfield 9, 3) (List.mem_of_getElem? (i := 1) rfl)
theorem dX3_yearOf_4 : decode cX3_yearOf 4 = .ok (.iload_n 1, 1) := DX3_yearOf_0 (4, .iload_n 1, 1) (List.mem_of_getElem? (i := 2) rfl)
theorem dX3_yearOf_5 : decode cX3_yearOf 5 = .ok (.iaload, 1) := DX3_yearOf_0 (5, .iaload, 1) (List.mem_of_getElem? (i := 3) rfl)
theorem dX3_yearOf_6 : decode cX3_yearOf 6 = .ok (.sipush 365, 3) := DX3_yearOf_0 (6, .sipush 365, 3) (List.mem_of_getElem? (i := 4) rfl)
theorem dX3_yearOf_9 : decode cX3_yearOf 9 = .ok (.idiv, 1) := DX3_yearOf_0 (9, .idiv, 1) (List.mem_of_getElem? (i := 5) rfl)
theorem dX3_yearOf_10 : decode cX3_yearOf 10 = .ok (.ireturn, 1) := DX3_yearOf_0 (10, .ireturn, 1) (List.mem_of_getElem? (i := 6) rfl)
abbrev rmX3_yearOf : Room := { frames := 0, cells := 0, slots := 0, locals := 0 }
set_option maxHeartbeats 400000 in
set_option maxRecDepth 100000 in
theorem met_X3_yearOf (l : Launch) (D : va_G) (kA : Nat → ClassId) (a : Nat → Nat) (V : Sz) (x1 : Int) {r : Int} (hf : f_X3_yearOf V x1 = some r) : MP l yX3_yearOf cX3_yearOf 2 (some .int) rmX3_yearOf D kA [.ref (a 0), vI x1] (cs_X3 kA a V) (some (vI r)) := by
  refine zPI (own := RX3) rfl rfl (Nat.le_of_ble_eq_true rfl) ?_
  intro p e s m args below meth c ls Q hC hK hP hl hret
  have hl : lv_has ls 2 [(0, .ref (a 0)), (1, vI x1)] := hl
  unfold f_X3_yearOf at hf
  refine lv_aload_n hC.1 hC.2.1 dX3_yearOf_0 rfl (lv_at hl 0 rfl) <| gfX3_9 hC hK hP (q0 := 0) rfl rfl dX3_yearOf_1 <| ziload_n hC.1 hC.2.1 dX3_yearOf_4 rfl (lv_at hl 1 rfl) <| ?_
  obtain ⟨hz_1, hf⟩ := ck_some hf
  refine jal hC hK hP (q0 := 1) rfl (Nat.le_of_ble_eq_true rfl) hz_1 rfl dX3_yearOf_5 <| zsipush hC.1 hC.2.1 dX3_yearOf_6 (by decide) <| ?_
  obtain ⟨hz_2, hf⟩ := ck_some hf
  exact zidiv hC.1 hC.2.1 ⟨hz_2.1, hz_2.2, by decide, by decide⟩ dX3_yearOf_9 <| hret (Int32.ofInt ((V 1 x1.toNat) / 365)) _ _ (qI hf) dX3_yearOf_10
theorem DX3_leftOf_0 : ∀ q ∈ ([(0, .aload_n 0, 1), (1, .getfield 15, 3), (4, .iload_n 1, 1), (5, .iaload, 1), (6, .aload_n 0, 1), (7, .getfield 21, 3), (10, .iload_n 1, 1), (11, .iaload, 1), (12, .isub, 1), (13, .ireturn, 1)] : List (Nat × Instr × Nat)), decode cX3_leftOf q.1 = .ok q.2 := by decide +kernel
theorem dX3_leftOf_0 : decode cX3_leftOf 0 = .ok (.aload_n 0, 1) := DX3_leftOf_0 (0, .aload_n 0, 1) (List.mem_of_getElem? (i := 0) rfl)
theorem dX3_leftOf_1 : decode cX3_leftOf 1 = .ok (.getfield 15, 3) := DX3_leftOf_0 (1, .getfield 15, 3) (List.mem_of_getElem? (i := 1) rfl)
theorem dX3_leftOf_4 : decode cX3_leftOf 4 = .ok (.iload_n 1, 1) := DX3_leftOf_0 (4, .iload_n 1, 1) (List.mem_of_getElem? (i := 2) rfl)
theorem dX3_leftOf_5 : decode cX3_leftOf 5 = .ok (.iaload, 1) := DX3_leftOf_0 (5, .iaload, 1) (List.mem_of_getElem? (i := 3) rfl)
theorem dX3_leftOf_6 : decode cX3_leftOf 6 = .ok (.aload_n 0, 1) := DX3_leftOf_0 (6, .aload_n 0, 1) (List.mem_of_getElem? (i := 4) rfl)
theorem dX3_leftOf_7 : decode cX3_leftOf 7 = .ok (.getfield 21, 3) := DX3_leftOf_0 (7, .getfield 21, 3) (List.mem_of_getElem? (i := 5) rfl)
theorem dX3_leftOf_10 : decode cX3_leftOf 10 = .ok (.iload_n 1, 1) := DX3_leftOf_0 (10, .iload_n 1, 1) (List.mem_of_getElem? (i := 6) rfl)
theorem dX3_leftOf_11 : decode cX3_leftOf 11 = .ok (.iaload, 1) := DX3_leftOf_0 (11, .iaload, 1) (List.mem_of_getElem? (i := 7) rfl)
theorem dX3_leftOf_12 : decode cX3_leftOf 12 = .ok (.isub, 1) := DX3_leftOf_0 (12, .isub, 1) (List.mem_of_getElem? (i := 8) rfl)
theorem dX3_leftOf_13 : decode cX3_leftOf 13 = .ok (.ireturn, 1) := DX3_leftOf_0 (13, .ireturn, 1) (List.mem_of_getElem? (i := 9) rfl)
abbrev rmX3_leftOf : Room := { frames := 0, cells := 0, slots := 0, locals := 0 }
set_option maxHeartbeats 400000 in
set_option maxRecDepth 100000 in
theorem met_X3_leftOf (l : Launch) (D : va_G) (kA : Nat → ClassId) (a : Nat → Nat) (V : Sz) (x1 : Int) {r : Int} (hf : f_X3_leftOf V x1 = some r) : MP l yX3_leftOf cX3_leftOf 2 (some .int) rmX3_leftOf D kA [.ref (a 0), vI x1] (cs_X3 kA a V) (some (vI r)) := by
  refine zPI (own := RX3) rfl rfl (Nat.le_of_ble_eq_true rfl) ?_
  intro p e s m args below meth c ls Q hC hK hP hl hret
  have hl : lv_has ls 2 [(0, .ref (a 0)), (1, vI x1)] := hl
  unfold f_X3_leftOf at hf
  refine lv_aload_n hC.1 hC.2.1 dX3_leftOf_0 rfl (lv_at hl 0 rfl) <| gfX3_15 hC hK hP (q0 := 0) rfl rfl dX3_leftOf_1 <| ziload_n hC.1 hC.2.1 dX3_leftOf_4 rfl (lv_at hl 1 rfl) <| ?_
  obtain ⟨hz_1, hf⟩ := ck_some hf
  exact jal hC hK hP (q0 := 2) rfl (Nat.le_of_ble_eq_true rfl) hz_1 rfl dX3_leftOf_5 <| lv_aload_n hC.1 hC.2.1 dX3_leftOf_6 rfl (lv_at hl 0 rfl) <| gfX3_21 hC hK hP (q0 := 0) rfl rfl dX3_leftOf_7 <| ziload_n hC.1 hC.2.1 dX3_leftOf_10 rfl (lv_at hl 1 rfl) <| jal hC hK hP (q0 := 4) rfl (Nat.le_of_ble_eq_true rfl) hz_1 rfl dX3_leftOf_11 <| zisub hC.1 hC.2.1 dX3_leftOf_12 <| hret (Int32.ofInt ((V 2 x1.toNat) - (V 4 x1.toNat))) _ _ (qI hf) dX3_leftOf_13
theorem DX3_leftOfAll_0 : ∀ q ∈ ([(0, .iconst 0, 1), (1, .istore_n 1, 1), (2, .iconst 0, 1), (3, .istore_n 2, 1), (4, .iload_n 2, 1), (5, .aload_n 0, 1), (6, .getfield 45, 3), (9, .if_icmp .ge 17, 3), (12, .iload_n 1, 1), (13, .aload_n 0, 1), (14, .iload_n 2, 1), (15, .invokevirtual 79, 3), (18, .iadd, 1), (19, .istore_n 1, 1), (20, .iinc 2 1, 3), (23, .goto (-19), 3), (26, .iload_n 1, 1), (27, .ireturn, 1)] : List (Nat × Instr × Nat)), decode cX3_leftOfAll q.1 = .ok q.2 := by decide +kernel
theorem dX3_leftOfAll_0 : decode cX3_leftOfAll 0 = .ok (.iconst 0, 1) := DX3_leftOfAll_0 (0, .iconst 0, 1) (List.mem_of_getElem? (i := 0) rfl)
theorem dX3_leftOfAll_1 : decode cX3_leftOfAll 1 = .ok (.istore_n 1, 1) := DX3_leftOfAll_0 (1, .istore_n 1, 1) (List.mem_of_getElem? (i := 1) rfl)
theorem dX3_leftOfAll_2 : decode cX3_leftOfAll 2 = .ok (.iconst 0, 1) := DX3_leftOfAll_0 (2, .iconst 0, 1) (List.mem_of_getElem? (i := 2) rfl)
theorem dX3_leftOfAll_3 : decode cX3_leftOfAll 3 = .ok (.istore_n 2, 1) := DX3_leftOfAll_0 (3, .istore_n 2, 1) (List.mem_of_getElem? (i := 3) rfl)
theorem dX3_leftOfAll_4 : decode cX3_leftOfAll 4 = .ok (.iload_n 2, 1) := DX3_leftOfAll_0 (4, .iload_n 2, 1) (List.mem_of_getElem? (i := 4) rfl)
theorem dX3_leftOfAll_5 : decode cX3_leftOfAll 5 = .ok (.aload_n 0, 1) := DX3_leftOfAll_0 (5, .aload_n 0, 1) (List.mem_of_getElem? (i := 5) rfl)
theorem dX3_leftOfAll_6 : decode cX3_leftOfAll 6 = .ok (.getfield 45, 3) := DX3_leftOfAll_0 (6, .getfield 45, 3) (List.mem_of_getElem? (i := 6) rfl)
theorem dX3_leftOfAll_9 : decode cX3_leftOfAll 9 = .ok (.if_icmp .ge 17, 3) := DX3_leftOfAll_0 (9, .if_icmp .ge 17, 3) (List.mem_of_getElem? (i := 7) rfl)
theorem dX3_leftOfAll_12 : decode cX3_leftOfAll 12 = .ok (.iload_n 1, 1) := DX3_leftOfAll_0 (12, .iload_n 1, 1) (List.mem_of_getElem? (i := 8) rfl)
theorem dX3_leftOfAll_13 : decode cX3_leftOfAll 13 = .ok (.aload_n 0, 1) := DX3_leftOfAll_0 (13, .aload_n 0, 1) (List.mem_of_getElem? (i := 9) rfl)
theorem dX3_leftOfAll_14 : decode cX3_leftOfAll 14 = .ok (.iload_n 2, 1) := DX3_leftOfAll_0 (14, .iload_n 2, 1) (List.mem_of_getElem? (i := 10) rfl)
theorem dX3_leftOfAll_15 : decode cX3_leftOfAll 15 = .ok (.invokevirtual 79, 3) := DX3_leftOfAll_0 (15, .invokevirtual 79, 3) (List.mem_of_getElem? (i := 11) rfl)
theorem dX3_leftOfAll_18 : decode cX3_leftOfAll 18 = .ok (.iadd, 1) := DX3_leftOfAll_0 (18, .iadd, 1) (List.mem_of_getElem? (i := 12) rfl)
theorem dX3_leftOfAll_19 : decode cX3_leftOfAll 19 = .ok (.istore_n 1, 1) := DX3_leftOfAll_0 (19, .istore_n 1, 1) (List.mem_of_getElem? (i := 13) rfl)
theorem dX3_leftOfAll_20 : decode cX3_leftOfAll 20 = .ok (.iinc 2 1, 3) := DX3_leftOfAll_0 (20, .iinc 2 1, 3) (List.mem_of_getElem? (i := 14) rfl)
theorem dX3_leftOfAll_23 : decode cX3_leftOfAll 23 = .ok (.goto (-19), 3) := DX3_leftOfAll_0 (23, .goto (-19), 3) (List.mem_of_getElem? (i := 15) rfl)
theorem dX3_leftOfAll_26 : decode cX3_leftOfAll 26 = .ok (.iload_n 1, 1) := DX3_leftOfAll_0 (26, .iload_n 1, 1) (List.mem_of_getElem? (i := 16) rfl)
theorem dX3_leftOfAll_27 : decode cX3_leftOfAll 27 = .ok (.ireturn, 1) := DX3_leftOfAll_0 (27, .ireturn, 1) (List.mem_of_getElem? (i := 17) rfl)
abbrev rmX3_leftOfAll : Room := { frames := 1, cells := 0, slots := 0, locals := 21 }
set_option maxHeartbeats 400000 in
set_option maxRecDepth 100000 in
theorem met_X3_leftOfAll (l : Launch) (D : va_G) (kA : Nat → ClassId) (a : Nat → Nat) (n : Nat) (V : Sz) {r : Int} (hf : f_X3_leftOfAll n V = some r) : MP l yX3_leftOfAll cX3_leftOfAll 3 (some .int) rmX3_leftOfAll D kA [.ref (a 0)] (cs_X3 kA a V) (some (vI r)) := by
  refine zPI (own := RX3) rfl rfl (Nat.le_of_ble_eq_true rfl) ?_
  intro p e s m args below meth c ls Q hC hK hP hl hret
  have hl : lv_has ls 3 [(0, .ref (a 0))] := hl
  unfold f_X3_leftOfAll at hf
  have L4 : ∀ (k4 : Nat) (y1 : Int) (y2 : Int) (ls : Array Slot), lpF (bX3_leftOfAll_4 n V) k4 (y1, y2) = some r → lv_has ls 3 [(0, .ref (a 0)), (1, vI y1), (2, vI y2)] → W p l e rmX3_leftOfAll s m args below meth c s.heap [] 0 0 Q (F0 m 4 ls []) := by
    intro k4
    induction k4 with
    | zero => intro y1 y2 ls hf hl; exact lp_0 hf
    | succ k4 ih4 =>
      intro y1 y2 ls hf hl
      have hf := lp_s hf
      rw [bX3_leftOfAll_4_e] at hf
      refine ziload_n hC.1 hC.2.1 dX3_leftOfAll_4 rfl (lv_at hl 2 rfl) <| lv_aload_n hC.1 hC.2.1 dX3_leftOfAll_5 rfl (lv_at hl 0 rfl) <| gfX3_45 hC hK hP (q0 := 0) rfl rfl dX3_leftOfAll_6 <| ?_
      obtain ⟨hz_1, hf⟩ := ck_some hf
      refine zicmp_ge (tgt := 26) hC.1 hC.2.1 ⟨hz_1.1, hz_1.2⟩ dX3_leftOfAll_9 (by decide) (fun hc => ?_) (fun hc => ?_)
      · have hf := it_t hf hc
        exact ziload_n hC.1 hC.2.1 dX3_leftOfAll_26 rfl (lv_at hl 1 rfl) <| hret (Int32.ofInt y1) _ _ (qI hf) dX3_leftOfAll_27
      · have hf := it_f hf hc
        refine ziload_n hC.1 hC.2.1 dX3_leftOfAll_12 rfl (lv_at hl 1 rfl) <| lv_aload_n hC.1 hC.2.1 dX3_leftOfAll_13 rfl (lv_at hl 0 rfl) <| ziload_n hC.1 hC.2.1 dX3_leftOfAll_14 rfl (lv_at hl 2 rfl) <| ?_
        obtain ⟨r_2, hu, hf⟩ := bd_some hf
        refine zcVP (As := [vI y2]) (rest := [vI y1]) hC hK (met_X3_leftOf l D kA a V y2 hu) zwX3_79 hP (q0 := 0) rfl rfl rfl rfl hl.1 rfl (Nat.le_of_ble_eq_true rfl) ⟨Nat.le_of_ble_eq_true rfl, Nat.le_of_ble_eq_true rfl⟩ ⟨rfl, rfl⟩ ⟨Nat.le_refl _, Nat.le_refl _⟩ dX3_leftOfAll_15 <| ziadd hC.1 hC.2.1 dX3_leftOfAll_18 <| ?_
        refine ztopi (fun x_3 ex_3 => ?_)
        have hf := nm_at hf ex_3
        refine zistore_n (lv' := [(1, vI x_3), (0, .ref (a 0)), (2, vI y2)]) hC.1 hC.2.1 dX3_leftOfAll_19 rfl hl (by decide) rfl (fun ls hl => ?_)
        obtain ⟨x_4, ex_4⟩ : ∃ y : Int, y = y2 + 1 := ⟨_, rfl⟩
        have hf := nm_at hf ex_4
        refine ziinc (v := x_4) (lv' := [(2, vI x_4), (1, vI x_3), (0, .ref (a 0))]) hC.1 hC.2.1 dX3_leftOfAll_20 hl (k := 2) rfl ex_4 (by decide) rfl (fun ls hl => ?_)
        exact lv_goto (tgt := 4) hC.1 hC.2.1 dX3_leftOfAll_23 (by decide) <| ih4 _ _ _ hf (lv_sub hl [2, 1, 0] rfl)
  refine ziconst hC.1 hC.2.1 dX3_leftOfAll_0 <| zistore_n (lv' := [(1, vI 0), (0, .ref (a 0))]) hC.1 hC.2.1 dX3_leftOfAll_1 rfl hl (by decide) rfl (fun ls hl => ?_)
  refine ziconst hC.1 hC.2.1 dX3_leftOfAll_2 <| zistore_n (lv' := [(2, vI 0), (1, vI 0), (0, .ref (a 0))]) hC.1 hC.2.1 dX3_leftOfAll_3 rfl hl (by decide) rfl (fun ls hl => ?_)
  exact L4 n _ _ _ hf (lv_sub hl [2, 1, 0] rfl)
theorem DX3_countLeft_0 : ∀ q ∈ ([(0, .iconst 0, 1), (1, .istore_n 1, 1), (2, .iconst 0, 1), (3, .istore_n 2, 1), (4, .iload_n 2, 1), (5, .aload_n 0, 1), (6, .getfield 45, 3), (9, .if_icmp .ge 20, 3), (12, .aload_n 0, 1), (13, .iload_n 2, 1), (14, .invokevirtual 79, 3), (17, .ifCond .le 6, 3), (20, .iinc 1 1, 3), (23, .iinc 2 1, 3), (26, .goto (-22), 3), (29, .iload_n 1, 1), (30, .ireturn, 1)] : List (Nat × Instr × Nat)), decode cX3_countLeft q.1 = .ok q.2 := by decide +kernel
theorem dX3_countLeft_0 : decode cX3_countLeft 0 = .ok (.iconst 0, 1) := DX3_countLeft_0 (0, .iconst 0, 1) (List.mem_of_getElem? (i := 0) rfl)
theorem dX3_countLeft_1 : decode cX3_countLeft 1 = .ok (.istore_n 1, 1) := DX3_countLeft_0 (1, .istore_n 1, 1) (List.mem_of_getElem? (i := 1) rfl)
theorem dX3_countLeft_2 : decode cX3_countLeft 2 = .ok (.iconst 0, 1) := DX3_countLeft_0 (2, .iconst 0, 1) (List.mem_of_getElem? (i := 2) rfl)
theorem dX3_countLeft_3 : decode cX3_countLeft 3 = .ok (.istore_n 2, 1) := DX3_countLeft_0 (3, .istore_n 2, 1) (List.mem_of_getElem? (i := 3) rfl)
theorem dX3_countLeft_4 : decode cX3_countLeft 4 = .ok (.iload_n 2, 1) := DX3_countLeft_0 (4, .iload_n 2, 1) (List.mem_of_getElem? (i := 4) rfl)
theorem dX3_countLeft_5 : decode cX3_countLeft 5 = .ok (.aload_n 0, 1) := DX3_countLeft_0 (5, .aload_n 0, 1) (List.mem_of_getElem? (i := 5) rfl)
theorem dX3_countLeft_6 : decode cX3_countLeft 6 = .ok (.getfield 45, 3) := DX3_countLeft_0 (6, .getfield 45, 3) (List.mem_of_getElem? (i := 6) rfl)
theorem dX3_countLeft_9 : decode cX3_countLeft 9 = .ok (.if_icmp .ge 20, 3) := DX3_countLeft_0 (9, .if_icmp .ge 20, 3) (List.mem_of_getElem? (i := 7) rfl)
theorem dX3_countLeft_12 : decode cX3_countLeft 12 = .ok (.aload_n 0, 1) := DX3_countLeft_0 (12, .aload_n 0, 1) (List.mem_of_getElem? (i := 8) rfl)
theorem dX3_countLeft_13 : decode cX3_countLeft 13 = .ok (.iload_n 2, 1) := DX3_countLeft_0 (13, .iload_n 2, 1) (List.mem_of_getElem? (i := 9) rfl)
theorem dX3_countLeft_14 : decode cX3_countLeft 14 = .ok (.invokevirtual 79, 3) := DX3_countLeft_0 (14, .invokevirtual 79, 3) (List.mem_of_getElem? (i := 10) rfl)
theorem dX3_countLeft_17 : decode cX3_countLeft 17 = .ok (.ifCond .le 6, 3) := DX3_countLeft_0 (17, .ifCond .le 6, 3) (List.mem_of_getElem? (i := 11) rfl)
theorem dX3_countLeft_20 : decode cX3_countLeft 20 = .ok (.iinc 1 1, 3) := DX3_countLeft_0 (20, .iinc 1 1, 3) (List.mem_of_getElem? (i := 12) rfl)
theorem dX3_countLeft_23 : decode cX3_countLeft 23 = .ok (.iinc 2 1, 3) := DX3_countLeft_0 (23, .iinc 2 1, 3) (List.mem_of_getElem? (i := 13) rfl)
theorem dX3_countLeft_26 : decode cX3_countLeft 26 = .ok (.goto (-22), 3) := DX3_countLeft_0 (26, .goto (-22), 3) (List.mem_of_getElem? (i := 14) rfl)
theorem dX3_countLeft_29 : decode cX3_countLeft 29 = .ok (.iload_n 1, 1) := DX3_countLeft_0 (29, .iload_n 1, 1) (List.mem_of_getElem? (i := 15) rfl)
theorem dX3_countLeft_30 : decode cX3_countLeft 30 = .ok (.ireturn, 1) := DX3_countLeft_0 (30, .ireturn, 1) (List.mem_of_getElem? (i := 16) rfl)
abbrev rmX3_countLeft : Room := { frames := 1, cells := 0, slots := 0, locals := 21 }
set_option maxHeartbeats 400000 in
set_option maxRecDepth 100000 in
theorem met_X3_countLeft (l : Launch) (D : va_G) (kA : Nat → ClassId) (a : Nat → Nat) (n : Nat) (V : Sz) {r : Int} (hf : f_X3_countLeft n V = some r) : MP l yX3_countLeft cX3_countLeft 3 (some .int) rmX3_countLeft D kA [.ref (a 0)] (cs_X3 kA a V) (some (vI r)) := by
  refine zPI (own := RX3) rfl rfl (Nat.le_of_ble_eq_true rfl) ?_
  intro p e s m args below meth c ls Q hC hK hP hl hret
  have hl : lv_has ls 3 [(0, .ref (a 0))] := hl
  unfold f_X3_countLeft at hf
  have L4 : ∀ (k4 : Nat) (y1 : Int) (y2 : Int) (ls : Array Slot), lpF (bX3_countLeft_4 n V) k4 (y1, y2) = some r → lv_has ls 3 [(0, .ref (a 0)), (1, vI y1), (2, vI y2)] → W p l e rmX3_countLeft s m args below meth c s.heap [] 0 0 Q (F0 m 4 ls []) := by
    intro k4
    induction k4 with
    | zero => intro y1 y2 ls hf hl; exact lp_0 hf
    | succ k4 ih4 =>
      intro y1 y2 ls hf hl
      have hf := lp_s hf
      rw [bX3_countLeft_4_e] at hf
      have J23 : ∀ (y1 : Int) (y2 : Int) (ls : Array Slot), jX3_countLeft_23 n V (lpF (bX3_countLeft_4 n V) k4) y1 y2 = some r → lv_has ls 3 [(0, .ref (a 0)), (1, vI y1), (2, vI y2)] → W p l e rmX3_countLeft s m args below meth c s.heap [] 0 0 Q (F0 m 23 ls []) := by
        intro y1 y2 ls hf hl
        unfold jX3_countLeft_23 at hf
        obtain ⟨x_4, ex_4⟩ : ∃ y : Int, y = y2 + 1 := ⟨_, rfl⟩
        have hf := nm_at hf ex_4
        refine ziinc (v := x_4) (lv' := [(2, vI x_4), (0, .ref (a 0)), (1, vI y1)]) hC.1 hC.2.1 dX3_countLeft_23 hl (k := 2) rfl ex_4 (by decide) rfl (fun ls hl => ?_)
        exact lv_goto (tgt := 4) hC.1 hC.2.1 dX3_countLeft_26 (by decide) <| ih4 _ _ _ hf (lv_sub hl [1, 2, 0] rfl)
      refine ziload_n hC.1 hC.2.1 dX3_countLeft_4 rfl (lv_at hl 2 rfl) <| lv_aload_n hC.1 hC.2.1 dX3_countLeft_5 rfl (lv_at hl 0 rfl) <| gfX3_45 hC hK hP (q0 := 0) rfl rfl dX3_countLeft_6 <| ?_
      obtain ⟨hz_1, hf⟩ := ck_some hf
      refine zicmp_ge (tgt := 29) hC.1 hC.2.1 ⟨hz_1.1, hz_1.2⟩ dX3_countLeft_9 (by decide) (fun hc => ?_) (fun hc => ?_)
      · have hf := it_t hf hc
        exact ziload_n hC.1 hC.2.1 dX3_countLeft_29 rfl (lv_at hl 1 rfl) <| hret (Int32.ofInt y1) _ _ (qI hf) dX3_countLeft_30
      · have hf := it_f hf hc
        refine lv_aload_n hC.1 hC.2.1 dX3_countLeft_12 rfl (lv_at hl 0 rfl) <| ziload_n hC.1 hC.2.1 dX3_countLeft_13 rfl (lv_at hl 2 rfl) <| ?_
        obtain ⟨r_2, hu, hf⟩ := bd_some hf
        refine zcVP (As := [vI y2]) (rest := []) hC hK (met_X3_leftOf l D kA a V y2 hu) zwX3_79 hP (q0 := 0) rfl rfl rfl rfl hl.1 rfl (Nat.le_of_ble_eq_true rfl) ⟨Nat.le_of_ble_eq_true rfl, Nat.le_of_ble_eq_true rfl⟩ ⟨rfl, rfl⟩ ⟨Nat.le_refl _, Nat.le_refl _⟩ dX3_countLeft_14 <| ?_
        obtain ⟨hz_3, hf⟩ := ck_some hf
        refine zif_le (tgt := 23) hC.1 hC.2.1 hz_3 dX3_countLeft_17 (by decide) (fun hc => ?_) (fun hc => ?_)
        · have hf := it_t hf hc
          exact J23 _ _ _ hf (lv_sub hl [0, 1, 2] rfl)
        · have hf := it_f hf hc
          obtain ⟨x_5, ex_5⟩ : ∃ y : Int, y = y1 + 1 := ⟨_, rfl⟩
          have hf := nm_at hf ex_5
          refine ziinc (v := x_5) (lv' := [(1, vI x_5), (0, .ref (a 0)), (2, vI y2)]) hC.1 hC.2.1 dX3_countLeft_20 hl (k := 1) rfl ex_5 (by decide) rfl (fun ls hl => ?_)
          exact J23 _ _ _ hf (lv_sub hl [1, 0, 2] rfl)
  refine ziconst hC.1 hC.2.1 dX3_countLeft_0 <| zistore_n (lv' := [(1, vI 0), (0, .ref (a 0))]) hC.1 hC.2.1 dX3_countLeft_1 rfl hl (by decide) rfl (fun ls hl => ?_)
  refine ziconst hC.1 hC.2.1 dX3_countLeft_2 <| zistore_n (lv' := [(2, vI 0), (1, vI 0), (0, .ref (a 0))]) hC.1 hC.2.1 dX3_countLeft_3 rfl hl (by decide) rfl (fun ls hl => ?_)
  exact L4 n _ _ _ hf (lv_sub hl [2, 1, 0] rfl)
theorem DX3_countWithoutParts_0 : ∀ q ∈ ([(0, .iconst 0, 1), (1, .istore_n 1, 1), (2, .iconst 0, 1), (3, .istore_n 2, 1), (4, .iload_n 2, 1), (5, .aload_n 0, 1), (6, .getfield 45, 3), (9, .if_icmp .ge 21, 3), (12, .aload_n 0, 1), (13, .getfield 24, 3), (16, .iload_n 2, 1), (17, .iaload, 1), (18, .ifCond .ne 6, 3), (21, .iinc 1 1, 3), (24, .iinc 2 1, 3), (27, .goto (-23), 3), (30, .iload_n 1, 1), (31, .ireturn, 1)] : List (Nat × Instr × Nat)), decode cX3_countWithoutParts q.1 = .ok q.2 := by decide +kernel
theorem dX3_countWithoutParts_0 : decode cX3_countWithoutParts 0 = .ok (.iconst 0, 1) := DX3_countWithoutParts_0 (0, .iconst 0, 1) (List.mem_of_getElem? (i := 0) rfl)
theorem dX3_countWithoutParts_1 : decode cX3_countWithoutParts 1 = .ok (.istore_n 1, 1) := DX3_countWithoutParts_0 (1, .istore_n 1, 1) (List.mem_of_getElem? (i := 1) rfl)
theorem dX3_countWithoutParts_2 : decode cX3_countWithoutParts 2 = .ok (.iconst 0, 1) := DX3_countWithoutParts_0 (2, .iconst 0, 1) (List.mem_of_getElem? (i := 2) rfl)
theorem dX3_countWithoutParts_3 : decode cX3_countWithoutParts 3 = .ok (.istore_n 2, 1) := DX3_countWithoutParts_0 (3, .istore_n 2, 1) (List.mem_of_getElem? (i := 3) rfl)
theorem dX3_countWithoutParts_4 : decode cX3_countWithoutParts 4 = .ok (.iload_n 2, 1) := DX3_countWithoutParts_0 (4, .iload_n 2, 1) (List.mem_of_getElem? (i := 4) rfl)
theorem dX3_countWithoutParts_5 : decode cX3_countWithoutParts 5 = .ok (.aload_n 0, 1) := DX3_countWithoutParts_0 (5, .aload_n 0, 1) (List.mem_of_getElem? (i := 5) rfl)
theorem dX3_countWithoutParts_6 : decode cX3_countWithoutParts 6 = .ok (.getfield 45, 3) := DX3_countWithoutParts_0 (6, .getfield 45, 3) (List.mem_of_getElem? (i := 6) rfl)
theorem dX3_countWithoutParts_9 : decode cX3_countWithoutParts 9 = .ok (.if_icmp .ge 21, 3) := DX3_countWithoutParts_0 (9, .if_icmp .ge 21, 3) (List.mem_of_getElem? (i := 7) rfl)
theorem dX3_countWithoutParts_12 : decode cX3_countWithoutParts 12 = .ok (.aload_n 0, 1) := DX3_countWithoutParts_0 (12, .aload_n 0, 1) (List.mem_of_getElem? (i := 8) rfl)
theorem dX3_countWithoutParts_13 : decode cX3_countWithoutParts 13 = .ok (.getfield 24, 3) := DX3_countWithoutParts_0 (13, .getfield 24, 3) (List.mem_of_getElem? (i := 9) rfl)
theorem dX3_countWithoutParts_16 : decode cX3_countWithoutParts 16 = .ok (.iload_n 2, 1) := DX3_countWithoutParts_0 (16, .iload_n 2, 1) (List.mem_of_getElem? (i := 10) rfl)
theorem dX3_countWithoutParts_17 : decode cX3_countWithoutParts 17 = .ok (.iaload, 1) := DX3_countWithoutParts_0 (17, .iaload, 1) (List.mem_of_getElem? (i := 11) rfl)
theorem dX3_countWithoutParts_18 : decode cX3_countWithoutParts 18 = .ok (.ifCond .ne 6, 3) := DX3_countWithoutParts_0 (18, .ifCond .ne 6, 3) (List.mem_of_getElem? (i := 12) rfl)
theorem dX3_countWithoutParts_21 : decode cX3_countWithoutParts 21 = .ok (.iinc 1 1, 3) := DX3_countWithoutParts_0 (21, .iinc 1 1, 3) (List.mem_of_getElem? (i := 13) rfl)
theorem dX3_countWithoutParts_24 : decode cX3_countWithoutParts 24 = .ok (.iinc 2 1, 3) := DX3_countWithoutParts_0 (24, .iinc 2 1, 3) (List.mem_of_getElem? (i := 14) rfl)
theorem dX3_countWithoutParts_27 : decode cX3_countWithoutParts 27 = .ok (.goto (-23), 3) := DX3_countWithoutParts_0 (27, .goto (-23), 3) (List.mem_of_getElem? (i := 15) rfl)
theorem dX3_countWithoutParts_30 : decode cX3_countWithoutParts 30 = .ok (.iload_n 1, 1) := DX3_countWithoutParts_0 (30, .iload_n 1, 1) (List.mem_of_getElem? (i := 16) rfl)
theorem dX3_countWithoutParts_31 : decode cX3_countWithoutParts 31 = .ok (.ireturn, 1) := DX3_countWithoutParts_0 (31, .ireturn, 1) (List.mem_of_getElem? (i := 17) rfl)
abbrev rmX3_countWithoutParts : Room := { frames := 0, cells := 0, slots := 0, locals := 0 }
set_option maxHeartbeats 400000 in
set_option maxRecDepth 100000 in
theorem met_X3_countWithoutParts (l : Launch) (D : va_G) (kA : Nat → ClassId) (a : Nat → Nat) (n : Nat) (V : Sz) {r : Int} (hf : f_X3_countWithoutParts n V = some r) : MP l yX3_countWithoutParts cX3_countWithoutParts 3 (some .int) rmX3_countWithoutParts D kA [.ref (a 0)] (cs_X3 kA a V) (some (vI r)) := by
  refine zPI (own := RX3) rfl rfl (Nat.le_of_ble_eq_true rfl) ?_
  intro p e s m args below meth c ls Q hC hK hP hl hret
  have hl : lv_has ls 3 [(0, .ref (a 0))] := hl
  unfold f_X3_countWithoutParts at hf
  have L4 : ∀ (k4 : Nat) (y1 : Int) (y2 : Int) (ls : Array Slot), lpF (bX3_countWithoutParts_4 n V) k4 (y1, y2) = some r → lv_has ls 3 [(0, .ref (a 0)), (1, vI y1), (2, vI y2)] → W p l e rmX3_countWithoutParts s m args below meth c s.heap [] 0 0 Q (F0 m 4 ls []) := by
    intro k4
    induction k4 with
    | zero => intro y1 y2 ls hf hl; exact lp_0 hf
    | succ k4 ih4 =>
      intro y1 y2 ls hf hl
      have hf := lp_s hf
      rw [bX3_countWithoutParts_4_e] at hf
      have J24 : ∀ (y1 : Int) (y2 : Int) (ls : Array Slot), jX3_countWithoutParts_24 n V (lpF (bX3_countWithoutParts_4 n V) k4) y1 y2 = some r → lv_has ls 3 [(0, .ref (a 0)), (1, vI y1), (2, vI y2)] → W p l e rmX3_countWithoutParts s m args below meth c s.heap [] 0 0 Q (F0 m 24 ls []) := by
        intro y1 y2 ls hf hl
        unfold jX3_countWithoutParts_24 at hf
        obtain ⟨x_4, ex_4⟩ : ∃ y : Int, y = y2 + 1 := ⟨_, rfl⟩
        have hf := nm_at hf ex_4
        refine ziinc (v := x_4) (lv' := [(2, vI x_4), (0, .ref (a 0)), (1, vI y1)]) hC.1 hC.2.1 dX3_countWithoutParts_24 hl (k := 2) rfl ex_4 (by decide) rfl (fun ls hl => ?_)
        exact lv_goto (tgt := 4) hC.1 hC.2.1 dX3_countWithoutParts_27 (by decide) <| ih4 _ _ _ hf (lv_sub hl [1, 2, 0] rfl)
      refine ziload_n hC.1 hC.2.1 dX3_countWithoutParts_4 rfl (lv_at hl 2 rfl) <| lv_aload_n hC.1 hC.2.1 dX3_countWithoutParts_5 rfl (lv_at hl 0 rfl) <| gfX3_45 hC hK hP (q0 := 0) rfl rfl dX3_countWithoutParts_6 <| ?_
      obtain ⟨hz_1, hf⟩ := ck_some hf
      refine zicmp_ge (tgt := 30) hC.1 hC.2.1 ⟨hz_1.1, hz_1.2⟩ dX3_countWithoutParts_9 (by decide) (fun hc => ?_) (fun hc => ?_)
      · have hf := it_t hf hc
        exact ziload_n hC.1 hC.2.1 dX3_countWithoutParts_30 rfl (lv_at hl 1 rfl) <| hret (Int32.ofInt y1) _ _ (qI hf) dX3_countWithoutParts_31
      · have hf := it_f hf hc
        refine lv_aload_n hC.1 hC.2.1 dX3_countWithoutParts_12 rfl (lv_at hl 0 rfl) <| gfX3_24 hC hK hP (q0 := 0) rfl rfl dX3_countWithoutParts_13 <| ziload_n hC.1 hC.2.1 dX3_countWithoutParts_16 rfl (lv_at hl 2 rfl) <| ?_
        obtain ⟨hz_2, hf⟩ := ck_some hf
        refine jal hC hK hP (q0 := 5) rfl (Nat.le_of_ble_eq_true rfl) hz_2 rfl dX3_countWithoutParts_17 <| ?_
        obtain ⟨hz_3, hf⟩ := ck_some hf
        refine zif_ne (tgt := 24) hC.1 hC.2.1 hz_3 dX3_countWithoutParts_18 (by decide) (fun hc => ?_) (fun hc => ?_)
        · have hf := it_f hf hc
          exact J24 _ _ _ hf (lv_sub hl [0, 1, 2] rfl)
        · have hf := it_t hf hc
          obtain ⟨x_5, ex_5⟩ : ∃ y : Int, y = y1 + 1 := ⟨_, rfl⟩
          have hf := nm_at hf ex_5
          refine ziinc (v := x_5) (lv' := [(1, vI x_5), (0, .ref (a 0)), (2, vI y2)]) hC.1 hC.2.1 dX3_countWithoutParts_21 hl (k := 1) rfl ex_5 (by decide) rfl (fun ls hl => ?_)
          exact J24 _ _ _ hf (lv_sub hl [1, 0, 2] rfl)
  refine ziconst hC.1 hC.2.1 dX3_countWithoutParts_0 <| zistore_n (lv' := [(1, vI 0), (0, .ref (a 0))]) hC.1 hC.2.1 dX3_countWithoutParts_1 rfl hl (by decide) rfl (fun ls hl => ?_)
  refine ziconst hC.1 hC.2.1 dX3_countWithoutParts_2 <| zistore_n (lv' := [(2, vI 0), (1, vI 0), (0, .ref (a 0))]) hC.1 hC.2.1 dX3_countWithoutParts_3 rfl hl (by decide) rfl (fun ls hl => ?_)
  exact L4 n _ _ _ hf (lv_sub hl [2, 1, 0] rfl)
