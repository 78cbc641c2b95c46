def cs_X4 (kA : Nat → ClassId) (a : Nat → Nat) (V : Sz) : va_W := [(a 0, .inr (4, [vI (V 0 0), vI (V 1 0), vI (V 2 0), vI (V 3 0), .ref (a 1), .ref (a 2), .ref (a 6), .ref (a 18), .ref (a 20), .ref (a 21), .ref (a 22), .ref (a 23)])), (a 1, .inl (kA 0, 10, .inl (aI (V 4)))), (a 2, .inr (1, [vI (V 5 0), .ref (a 3), .ref (a 4), .ref (a 5)])), (a 3, .inl (kA 0, 30, .inl (aI (V 6)))), (a 4, .inl (kA 0, 30, .inl (aI (V 7)))), (a 5, .inl (kA 0, 30, .inl (aI (V 8)))), (a 6, .inr (3, [vI (V 9 0), .ref (a 7), .ref (a 8), .ref (a 9), .ref (a 10), .ref (a 11), .ref (a 12), .ref (a 13), .ref (a 14), .ref (a 15), .ref (a 16), .ref (a 17)])), (a 7, .inl (kA 0, 60, .inl (aI (V 10)))), (a 8, .inl (kA 0, 60, .inl (aI (V 11)))), (a 9, .inl (kA 0, 60, .inl (aI (V 12)))), (a 10, .inl (kA 0, 60, .inl (aI (V 13)))), (a 11, .inl (kA 0, 60, .inl (aI (V 14)))), (a 12, .inl (kA 0, 60, .inl (aI (V 15)))), (a 13, .inl (kA 0, 180, .inl (aI (V 16)))), (a 14, .inl (kA 0, 180, .inl (aI (V 17)))), (a 15, .inl (kA 0, 180, .inl (aI (V 18)))), (a 16, .inl (kA 0, 180, .inl (aI (V 19)))), (a 17, .inl (kA 0, 180, .inl (aI (V 20)))), (a 18, .inr (0, [vI (V 21 0), .ref (a 19)])), (a 19, .inl (kA 0, 100, .inl (aI (V 22)))), (a 20, .inl (kA 0, 180, .inl (aI (V 23)))), (a 21, .inl (kA 0, 180, .inl (aI (V 24)))), (a 22, .inl (kA 0, 180, .inl (aI (V 25)))), (a 23, .inl (kA 0, 10, .inl (aI (V 26))))]
def f_X4_become (V0 : Sz) (G : Sz) : Option (Sz) := nm (us V0 0 (G 0 0)) fun (V_1 : Sz) => nm (us V_1 1 (G 1 0)) fun (V_2 : Sz) => nm (us V_2 2 (G 2 0)) fun (V_3 : Sz) => nm (us V_3 3 (G 3 0)) fun (V_4 : Sz) => bd (f_X7_copyRow 10 10 (G 4) (V_4 4)) fun (V_5 : (Nat → Int)) => nm (uy V_4 4 V_5) fun (V_6 : Sz) => bd (f_X1_become (sv 5 V_6) (sv 5 G)) fun (V_7 : Sz) => nm (sw 5 4 V_6 V_7) fun (V_8 : Sz) => bd (f_X3_become (sv 9 V_8) (sv 9 G)) fun (V_9 : Sz) => nm (sw 9 12 V_8 V_9) fun (V_10 : Sz) => bd (f_X0_become (sv 21 V_10) (sv 21 G)) fun (V_11 : Sz) => nm (sw 21 2 V_10 V_11) fun (V_12 : Sz) => bd (f_X7_copyRow 180 180 (G 23) (V_12 23)) fun (V_13 : (Nat → Int)) => nm (uy V_12 23 V_13) fun (V_14 : Sz) => bd (f_X7_copyRow 180 180 (G 24) (V_14 24)) fun (V_15 : (Nat → Int)) => nm (uy V_14 24 V_15) fun (V_16 : Sz) => bd (f_X7_copyRow 180 180 (G 25) (V_16 25)) fun (V_17 : (Nat → Int)) => nm (uy V_16 25 V_17) fun (V_18 : Sz) => some V_18
def f_X4_clear (V0 : Sz) : Option (Sz) := nm (us V0 0 25) fun (V_1 : Sz) => nm (us V_1 1 1460) fun (V_2 : Sz) => nm (us V_2 2 25) fun (V_3 : Sz) => nm (us V_3 3 0) fun (V_4 : Sz) => nm (us V_4 5 0) fun (V_5 : Sz) => nm (us V_5 9 0) fun (V_6 : Sz) => nm (us V_6 21 0) fun (V_7 : Sz) => some V_7
def f_X4_addDonor (V0 : Sz) (x1 : Int) : Option (Sz) := ck (rng (V0 3 0)) <| if 10 ≤ V0 3 0 then (some V0) else (ck (inZ (V0 3 0) 10) <| nm (uz V0 4 (V0 3 0).toNat x1) fun (V_3 : Sz) => nm (us V_3 3 ((V_3 3 0) + 1)) fun (V_4 : Sz) => some V_4)
def f_X4_isSpoilt (V : Sz) (x1 : Int) : Option (Bool) := ck (inZ x1 60) <| ck (rng ((V 12 x1.toNat) * 100) ∧ rng ((V 2 0) * (V 11 x1.toNat))) <| if (V 12 x1.toNat) * 100 ≤ (V 2 0) * (V 11 x1.toNat) then (some false) else (some true)
def f_X4_fullAid (V : Sz) (x1 : Int) : Option (Int) := bd (f_X3_leftOfPart (sv 9 V) x1) fun (r_1 : Int) => ck (0 ≤ r_1 * (V 0 0) ∧ r_1 * (V 0 0) < 2147483648) <| some ((r_1 * (V 0 0)) / 100)
def jX4_settlePart_68 (n : Nat) (x1 : Int) (x2 : Int) (y3 : Int) (V : Sz) (z0 : Int) (z1 : Int) : Option (Sz) := ck (inZ z1 180) <| nm (uz V 24 z1.toNat z0) fun (V_10 : Sz) => ck (inZ x2 180) <| ck (inZ y3 10) <| ck (rng (V_10 24 x2.toNat) ∧ rng ((V_10 4 y3.toNat) - (V_10 26 y3.toNat))) <| nm (uz V_10 25 x2.toNat (min (V_10 24 x2.toNat) ((V_10 4 y3.toNat) - (V_10 26 y3.toNat)))) fun (V_14 : Sz) => nm (uz V_14 26 y3.toNat ((V_14 26 y3.toNat) + (V_14 25 x2.toNat))) fun (V_15 : Sz) => some V_15
def jX4_settlePart_32 (n : Nat) (x1 : Int) (x2 : Int) (y3 : Int) (V : Sz) (z0 : Int) (z1 : Int) : Option (Sz) := ck (inZ z1 180) <| nm (uz V 23 z1.toNat z0) fun (V_6 : Sz) => ck (inZ x1 60) <| bd (f_X1_covers n (sv 5 V_6) y3 (V_6 10 x1.toNat)) fun (r_8 : Bool) => if r_8 = false then (jX4_settlePart_68 n x1 x2 y3 V_6 0 x2) else (ck (inZ x2 180) <| jX4_settlePart_68 n x1 x2 y3 V_6 (V_6 23 x2.toNat) x2)
def f_X4_settlePart (n : Nat) (V0 : Sz) (x1 : Int) (x2 : Int) : Option (Sz) := ck (inZ x2 180) <| nm (V0 16 x2.toNat) fun (x_2 : Int) => bd (f_X4_isSpoilt V0 x1) fun (r_3 : Bool) => if r_3 = false then (bd (f_X4_fullAid V0 x2) fun (r_4 : Int) => jX4_settlePart_32 n x1 x2 x_2 V0 r_4 x2) else (jX4_settlePart_32 n x1 x2 x_2 V0 0 x2)
def bX4_settle_57 (n : Nat) (rec4 : Int × Int × Sz → Option (Sz)) (rec57 : Int × Int × Int × Int × Sz → Option (Sz)) : Int × Int × Int × Int × Sz → Option (Sz) := fun (y1, y2, y3, y4, V) => ck (inZ y3 60) <| ck (rng y4 ∧ rng (V 14 y3.toNat)) <| if V 14 y3.toNat ≤ y4 then (nm (y2 + 1) fun (x_8 : Int) => rec4 (y1, x_8, V)) else (bd (f_X4_settlePart n V y3 ((y3 * 3) + y4)) fun (V_9 : Sz) => nm (y4 + 1) fun (x_10 : Int) => rec57 (y1, y2, y3, x_10, V_9))
theorem bX4_settle_57_e (n : Nat) (rec4 : Int × Int × Sz → Option (Sz)) (rec57 : Int × Int × Int × Int × Sz → Option (Sz)) (y1 : Int) (y2 : Int) (y3 : Int) (y4 : Int) (V : Sz) : bX4_settle_57 n rec4 rec57 (y1, y2, y3, y4, V) = (ck (inZ y3 60) <| ck (rng y4 ∧ rng (V 14 y3.toNat)) <| if V 14 y3.toNat ≤ y4 then (nm (y2 + 1) fun (x_8 : Int) => rec4 (y1, x_8, V)) else (bd (f_X4_settlePart n V y3 ((y3 * 3) + y4)) fun (V_9 : Sz) => nm (y4 + 1) fun (x_10 : Int) => rec57 (y1, y2, y3, x_10, V_9))) := rfl
def jX4_settle_54 (n : Nat) (rec4 : Int × Int × Sz → Option (Sz)) (y1 : Int) (y2 : Int) (y3 : Int) (V : Sz) : Option (Sz) := lpF (bX4_settle_57 n rec4) n (y1, y2, y3, 0, V)
def bX4_settle_4 (n : Nat) (rec4 : Int × Int × Sz → Option (Sz)) : Int × Int × Sz → Option (Sz) := fun (y1, y2, V) => ck (rng y2 ∧ rng (V 9 0)) <| if V 9 0 ≤ y2 then (some V) else (ck (inZ y2 60) <| nm (V 15 y2.toNat) fun (x_3 : Int) => bd (f_X3_yearOf (sv 9 V) x_3) fun (r_4 : Int) => ck (rng r_4 ∧ rng y1) <| if r_4 = y1 then (jX4_settle_54 n rec4 y1 y2 x_3 V) else (bd (f_X3_yearOf (sv 9 V) x_3) fun (r_11 : Int) => bd (f_J7_fill_53178 n 10 (V 26) 0) fun (V_12 : (Nat → Int)) => nm (uy V 26 V_12) fun (V_13 : Sz) => jX4_settle_54 n rec4 r_11 y2 x_3 V_13))
theorem bX4_settle_4_e (n : Nat) (rec4 : Int × Int × Sz → Option (Sz)) (y1 : Int) (y2 : Int) (V : Sz) : bX4_settle_4 n rec4 (y1, y2, V) = (ck (rng y2 ∧ rng (V 9 0)) <| if V 9 0 ≤ y2 then (some V) else (ck (inZ y2 60) <| nm (V 15 y2.toNat) fun (x_3 : Int) => bd (f_X3_yearOf (sv 9 V) x_3) fun (r_4 : Int) => ck (rng r_4 ∧ rng y1) <| if r_4 = y1 then (jX4_settle_54 n rec4 y1 y2 x_3 V) else (bd (f_X3_yearOf (sv 9 V) x_3) fun (r_11 : Int) => bd (f_J7_fill_53178 n 10 (V 26) 0) fun (V_12 : (Nat → Int)) => nm (uy V 26 V_12) fun (V_13 : Sz) => jX4_settle_54 n rec4 r_11 y2 x_3 V_13))) := rfl
def f_X4_settle (n : Nat) (V0 : Sz) : Option (Sz) := lpF (bX4_settle_4 n) n ((-1), 0, V0)
def jX4_countSpoilt_26 (n : Nat) (V : Sz) (rec4 : Int × Int → Option (Int)) (y1 : Int) (y2 : Int) : Option (Int) := nm (y2 + 1) fun (x_3 : Int) => rec4 (y1, x_3)
def bX4_countSpoilt_4 (n : Nat) (V : Sz) (rec4 : Int × Int → Option (Int)) : Int × Int → Option (Int) := fun (y1, y2) => ck (rng y2 ∧ rng (V 9 0)) <| if V 9 0 ≤ y2 then (some y1) else (bd (f_X4_isSpoilt V y2) fun (r_2 : Bool) => if r_2 = false then (jX4_countSpoilt_26 n V rec4 y1 y2) else (nm (y1 + 1) fun (x_4 : Int) => jX4_countSpoilt_26 n V rec4 x_4 y2))
theorem bX4_countSpoilt_4_e (n : Nat) (V : Sz) (rec4 : Int × Int → Option (Int)) (y1 : Int) (y2 : Int) : bX4_countSpoilt_4 n V rec4 (y1, y2) = (ck (rng y2 ∧ rng (V 9 0)) <| if V 9 0 ≤ y2 then (some y1) else (bd (f_X4_isSpoilt V y2) fun (r_2 : Bool) => if r_2 = false then (jX4_countSpoilt_26 n V rec4 y1 y2) else (nm (y1 + 1) fun (x_4 : Int) => jX4_countSpoilt_26 n V rec4 x_4 y2))) := rfl
def f_X4_countSpoilt (n : Nat) (V : Sz) : Option (Int) := lpF (bX4_countSpoilt_4 n V) n (0, 0)
def f_X4_measure (V : Sz) (x1 : Int) (x2 : Int) : Option (Int) := ck (rng x2) <| if x2 = 0 then (bd (f_X3_leftOfPart (sv 9 V) x1) fun (r_2 : Int) => some r_2) else (if x2 = 1 then (ck (inZ x1 180) <| some (V 24 x1.toNat)) else (if x2 = 2 then (ck (inZ x1 180) <| some (V 25 x1.toNat)) else (if x2 = 3 then (ck (inZ x1 180) <| some (V 20 x1.toNat)) else (some 1))))
def bX4_sumOfGift_5 (n : Nat) (V : Sz) (x1 : Int) (x2 : Int) (rec5 : Int × Int → Option (Int)) : Int × Int → Option (Int) := fun (y3, y4) => ck (inZ x1 60) <| ck (rng y4 ∧ rng (V 14 x1.toNat)) <| if V 14 x1.toNat ≤ y4 then (some y3) else (bd (f_X4_measure V ((x1 * 3) + y4) x2) fun (r_3 : Int) => nm (y3 + r_3) fun (x_4 : Int) => nm (y4 + 1) fun (x_5 : Int) => rec5 (x_4, x_5))
theorem bX4_sumOfGift_5_e (n : Nat) (V : Sz) (x1 : Int) (x2 : Int) (rec5 : Int × Int → Option (Int)) (y3 : Int) (y4 : Int) : bX4_sumOfGift_5 n V x1 x2 rec5 (y3, y4) = (ck (inZ x1 60) <| ck (rng y4 ∧ rng (V 14 x1.toNat)) <| if V 14 x1.toNat ≤ y4 then (some y3) else (bd (f_X4_measure V ((x1 * 3) + y4) x2) fun (r_3 : Int) => nm (y3 + r_3) fun (x_4 : Int) => nm (y4 + 1) fun (x_5 : Int) => rec5 (x_4, x_5))) := rfl
def f_X4_sumOfGift (n : Nat) (V : Sz) (x1 : Int) (x2 : Int) : Option (Int) := lpF (bX4_sumOfGift_5 n V x1 x2) n (0, 0)
def bX4_sumOfAll_4 (n : Nat) (V : Sz) (x1 : Int) (rec4 : Int × Int → Option (Int)) : Int × Int → Option (Int) := fun (y2, y3) => ck (rng y3 ∧ rng (V 9 0)) <| if V 9 0 ≤ y3 then (some y2) else (bd (f_X4_sumOfGift n V y3 x1) fun (r_2 : Int) => nm (y2 + r_2) fun (x_3 : Int) => nm (y3 + 1) fun (x_4 : Int) => rec4 (x_3, x_4))
theorem bX4_sumOfAll_4_e (n : Nat) (V : Sz) (x1 : Int) (rec4 : Int × Int → Option (Int)) (y2 : Int) (y3 : Int) : bX4_sumOfAll_4 n V x1 rec4 (y2, y3) = (ck (rng y3 ∧ rng (V 9 0)) <| if V 9 0 ≤ y3 then (some y2) else (bd (f_X4_sumOfGift n V y3 x1) fun (r_2 : Int) => nm (y2 + r_2) fun (x_3 : Int) => nm (y3 + 1) fun (x_4 : Int) => rec4 (x_3, x_4))) := rfl
def f_X4_sumOfAll (n : Nat) (V : Sz) (x1 : Int) : Option (Int) := lpF (bX4_sumOfAll_4 n V x1) n (0, 0)
def jX4_sumOfDonor_75 (n : Nat) (V : Sz) (x1 : Int) (x2 : Int) (x3 : Int) (rec6 : Int × Int → Option (Int)) (y4 : Int) (y5 : Int) : Option (Int) := nm (y5 + 1) fun (x_5 : Int) => rec6 (y4, x_5)
def jX4_sumOfDonor_43 (n : Nat) (V : Sz) (x1 : Int) (x2 : Int) (x3 : Int) (rec6 : Int × Int → Option (Int)) (y4 : Int) (y5 : Int) (z0 : Int) : Option (Int) := ck (rng z0) <| if z0 = 0 then (jX4_sumOfDonor_75 n V x1 x2 x3 rec6 y4 y5) else (bd (f_X3_isPartOf (sv 9 V) y5 x1) fun (r_6 : Bool) => if r_6 = false then (jX4_sumOfDonor_75 n V x1 x2 x3 rec6 y4 y5) else (bd (f_X4_measure V y5 x2) fun (r_7 : Int) => nm (y4 + r_7) fun (x_8 : Int) => jX4_sumOfDonor_75 n V x1 x2 x3 rec6 x_8 y5))
def jX4_sumOfDonor_38 (n : Nat) (V : Sz) (x1 : Int) (x2 : Int) (x3 : Int) (rec6 : Int × Int → Option (Int)) (y4 : Int) (y5 : Int) : Option (Int) := jX4_sumOfDonor_43 n V x1 x2 x3 rec6 y4 y5 1
def bX4_sumOfDonor_6 (n : Nat) (V : Sz) (x1 : Int) (x2 : Int) (x3 : Int) (rec6 : Int × Int → Option (Int)) : Int × Int → Option (Int) := fun (y4, y5) => bd (f_X3_slotCount (sv 9 V)) fun (r_1 : Int) => ck (rng y5 ∧ rng r_1) <| if r_1 ≤ y5 then (some y4) else (ck (rng x3) <| if x3 = (-1) then (jX4_sumOfDonor_38 n V x1 x2 x3 rec6 y4 y5) else (ck (0 ≤ y5 ∧ y5 < 2147483648) <| bd (f_X3_yearOf (sv 9 V) (y5 / 3)) fun (r_10 : Int) => ck (rng r_10) <| if r_10 = x3 then (jX4_sumOfDonor_38 n V x1 x2 x3 rec6 y4 y5) else (jX4_sumOfDonor_43 n V x1 x2 x3 rec6 y4 y5 0)))
theorem bX4_sumOfDonor_6_e (n : Nat) (V : Sz) (x1 : Int) (x2 : Int) (x3 : Int) (rec6 : Int × Int → Option (Int)) (y4 : Int) (y5 : Int) : bX4_sumOfDonor_6 n V x1 x2 x3 rec6 (y4, y5) = (bd (f_X3_slotCount (sv 9 V)) fun (r_1 : Int) => ck (rng y5 ∧ rng r_1) <| if r_1 ≤ y5 then (some y4) else (ck (rng x3) <| if x3 = (-1) then (jX4_sumOfDonor_38 n V x1 x2 x3 rec6 y4 y5) else (ck (0 ≤ y5 ∧ y5 < 2147483648) <| bd (f_X3_yearOf (sv 9 V) (y5 / 3)) fun (r_10 : Int) => ck (rng r_10) <| if r_10 = x3 then (jX4_sumOfDonor_38 n V x1 x2 x3 rec6 y4 y5) else (jX4_sumOfDonor_43 n V x1 x2 x3 rec6 y4 y5 0)))) := rfl
def f_X4_sumOfDonor (n : Nat) (V : Sz) (x1 : Int) (x2 : Int) (x3 : Int) : Option (Int) := lpF (bX4_sumOfDonor_6 n V x1 x2 x3) n (0, 0)
def jX4_reasonOf_22 (n : Nat) (V : Sz) (x1 : Int) : Option (Int) := bd (f_X3_leftOfPart (sv 9 V) x1) fun (r_3 : Int) => ck (rng r_3) <| if r_3 = 0 then (some 1) else (ck (0 ≤ x1 ∧ x1 < 2147483648) <| bd (f_X4_isSpoilt V (x1 / 3)) fun (r_6 : Bool) => if r_6 = false then (ck (inZ x1 180) <| bd (f_X3_dayOfPart (sv 9 V) x1) fun (r_8 : Int) => bd (f_X1_covers n (sv 5 V) (V 16 x1.toNat) r_8) fun (r_9 : Bool) => if r_9 = true then (ck (rng (V 24 x1.toNat)) <| if V 24 x1.toNat = 0 then (some 4) else (some 5)) else (some 3)) else (some 2))
def f_X4_reasonOf (n : Nat) (V : Sz) (x1 : Int) : Option (Int) := bd (f_X4_fullAid V x1) fun (r_1 : Int) => ck (rng r_1) <| if r_1 = 0 then (jX4_reasonOf_22 n V x1) else (ck (inZ x1 180) <| ck (rng (V 25 x1.toNat)) <| if V 25 x1.toNat = r_1 then (some 0) else (jX4_reasonOf_22 n V x1))
def jX4_lostBy_50 (n : Nat) (V : Sz) (x1 : Int) (rec4 : Int × Int → Option (Int)) (y2 : Int) (y3 : Int) : Option (Int) := nm (y3 + 1) fun (x_4 : Int) => rec4 (y2, x_4)
def bX4_lostBy_4 (n : Nat) (V : Sz) (x1 : Int) (rec4 : Int × Int → Option (Int)) : Int × Int → Option (Int) := fun (y2, y3) => bd (f_X3_slotCount (sv 9 V)) fun (r_1 : Int) => ck (rng y3 ∧ rng r_1) <| if r_1 ≤ y3 then (some y2) else (bd (f_X3_isPart (sv 9 V) y3) fun (r_3 : Bool) => if r_3 = false then (jX4_lostBy_50 n V x1 rec4 y2 y3) else (bd (f_X4_reasonOf n V y3) fun (r_5 : Int) => ck (rng r_5 ∧ rng x1) <| if r_5 = x1 then (bd (f_X4_fullAid V y3) fun (r_7 : Int) => ck (inZ y3 180) <| nm (y2 + (r_7 - (V 25 y3.toNat))) fun (x_9 : Int) => jX4_lostBy_50 n V x1 rec4 x_9 y3) else (jX4_lostBy_50 n V x1 rec4 y2 y3)))
theorem bX4_lostBy_4_e (n : Nat) (V : Sz) (x1 : Int) (rec4 : Int × Int → Option (Int)) (y2 : Int) (y3 : Int) : bX4_lostBy_4 n V x1 rec4 (y2, y3) = (bd (f_X3_slotCount (sv 9 V)) fun (r_1 : Int) => ck (rng y3 ∧ rng r_1) <| if r_1 ≤ y3 then (some y2) else (bd (f_X3_isPart (sv 9 V) y3) fun (r_3 : Bool) => if r_3 = false then (jX4_lostBy_50 n V x1 rec4 y2 y3) else (bd (f_X4_reasonOf n V y3) fun (r_5 : Int) => ck (rng r_5 ∧ rng x1) <| if r_5 = x1 then (bd (f_X4_fullAid V y3) fun (r_7 : Int) => ck (inZ y3 180) <| nm (y2 + (r_7 - (V 25 y3.toNat))) fun (x_9 : Int) => jX4_lostBy_50 n V x1 rec4 x_9 y3) else (jX4_lostBy_50 n V x1 rec4 y2 y3)))) := rfl
def f_X4_lostBy (n : Nat) (V : Sz) (x1 : Int) : Option (Int) := lpF (bX4_lostBy_4 n V x1) n (0, 0)
def f_X4_differenceOn (V : Sz) (x1 : Int) (x2 : Int) : Option (Int) := bd (f_X3_dayOfPart (sv 9 V) x1) fun (r_1 : Int) => nm (x2 - r_1) fun (x_2 : Int) => bd (f_X3_isPart (sv 9 V) x1) fun (r_3 : Bool) => if r_3 = false then (some 0) else (ck (rng x_2) <| if 0 ≤ x_2 then (ck (inZ x1 180) <| nm ((V 25 x1.toNat) - (V 20 x1.toNat)) fun (x_6 : Int) => ck (rng x_6) <| if x_6 ≤ 0 then (some x_6) else (ck (rng (V 1 0)) <| if x_2 ≤ V 1 0 then (some x_6) else (some 0))) else (some 0))
def bX4_makeClaim_10 (n : Nat) (x1 : Int) (rec10 : Int × Sz → Option (Int × Sz)) : Int × Sz → Option (Int × Sz) := fun (y2, V) => bd (f_X3_slotCount (sv 9 V)) fun (r_3 : Int) => ck (rng y2 ∧ rng r_3) <| if r_3 ≤ y2 then (bd (f_X0_latestBalance (sv 21 V)) fun (r_5 : Int) => some (r_5, V)) else (bd (f_X4_differenceOn V y2 x1) fun (r_6 : Int) => bd (f_X0_enter (sv 21 V) r_6) fun (V_7 : Sz) => nm (sw 21 2 V V_7) fun (V_8 : Sz) => ck (inZ y2 180) <| nm (uz V_8 20 y2.toNat ((V_8 20 y2.toNat) + r_6)) fun (V_10 : Sz) => nm (y2 + 1) fun (x_11 : Int) => rec10 (x_11, V_10))
theorem bX4_makeClaim_10_e (n : Nat) (x1 : Int) (rec10 : Int × Sz → Option (Int × Sz)) (y2 : Int) (V : Sz) : bX4_makeClaim_10 n x1 rec10 (y2, V) = (bd (f_X3_slotCount (sv 9 V)) fun (r_3 : Int) => ck (rng y2 ∧ rng r_3) <| if r_3 ≤ y2 then (bd (f_X0_latestBalance (sv 21 V)) fun (r_5 : Int) => some (r_5, V)) else (bd (f_X4_differenceOn V y2 x1) fun (r_6 : Int) => bd (f_X0_enter (sv 21 V) r_6) fun (V_7 : Sz) => nm (sw 21 2 V V_7) fun (V_8 : Sz) => ck (inZ y2 180) <| nm (uz V_8 20 y2.toNat ((V_8 20 y2.toNat) + r_6)) fun (V_10 : Sz) => nm (y2 + 1) fun (x_11 : Int) => rec10 (x_11, V_10))) := rfl
def f_X4_makeClaim (n : Nat) (V0 : Sz) (x1 : Int) : Option (Int × Sz) := bd (f_X0_begin n (sv 21 V0) x1) fun (V_1 : Sz) => nm (sw 21 2 V0 V_1) fun (V_2 : Sz) => lpF (bX4_makeClaim_10 n x1) n (0, V_2)
def jX4_forecast_40 (n : Nat) (V : Sz) (x1 : Int) (x2 : Int) (rec5 : Int × Int → Option (Int)) (y4 : Int) (z0 : Int) (z1 : Int) (z2 : Int) : Option (Int) := ck (rng z1 ∧ rng z0) <| nm (z2 + (max z1 z0)) fun (x_6 : Int) => nm (y4 + 1) fun (x_7 : Int) => rec5 (x_6, x_7)
def bX4_forecast_5 (n : Nat) (V : Sz) (x1 : Int) (x2 : Int) (rec5 : Int × Int → Option (Int)) : Int × Int → Option (Int) := fun (y3, y4) => bd (f_X3_slotCount (sv 9 V)) fun (r_1 : Int) => ck (rng y4 ∧ rng r_1) <| if r_1 ≤ y4 then (some y3) else (bd (f_X4_differenceOn V y4 x1) fun (r_3 : Int) => ck (rng x2) <| if x2 = 0 then (jX4_forecast_40 n V x1 x2 rec5 y4 r_3 0 y3) else (jX4_forecast_40 n V x1 x2 rec5 y4 (-r_3) 0 y3))
theorem bX4_forecast_5_e (n : Nat) (V : Sz) (x1 : Int) (x2 : Int) (rec5 : Int × Int → Option (Int)) (y3 : Int) (y4 : Int) : bX4_forecast_5 n V x1 x2 rec5 (y3, y4) = (bd (f_X3_slotCount (sv 9 V)) fun (r_1 : Int) => ck (rng y4 ∧ rng r_1) <| if r_1 ≤ y4 then (some y3) else (bd (f_X4_differenceOn V y4 x1) fun (r_3 : Int) => ck (rng x2) <| if x2 = 0 then (jX4_forecast_40 n V x1 x2 rec5 y4 r_3 0 y3) else (jX4_forecast_40 n V x1 x2 rec5 y4 (-r_3) 0 y3))) := rfl
def f_X4_forecast (n : Nat) (V : Sz) (x1 : Int) (x2 : Int) : Option (Int) := lpF (bX4_forecast_5 n V x1 x2) n (0, 0)
def f_X4_tooMuch (V : Sz) (x1 : Int) : Option (Int) := bd (f_X3_isPart (sv 9 V) x1) fun (r_1 : Bool) => if r_1 = false then (some 0) else (ck (inZ x1 180) <| ck (rng ((V 20 x1.toNat) - (V 25 x1.toNat))) <| some (max 0 ((V 20 x1.toNat) - (V 25 x1.toNat))))
def f_X4_unclaimed (V : Sz) (x1 : Int) : Option (Int) := bd (f_X3_isPart (sv 9 V) x1) fun (r_1 : Bool) => if r_1 = false then (some 0) else (ck (inZ x1 180) <| ck (rng ((V 25 x1.toNat) - (V 20 x1.toNat))) <| some (max 0 ((V 25 x1.toNat) - (V 20 x1.toNat))))
def bX4_unclaimedOfGift_4 (n : Nat) (V : Sz) (x1 : Int) (rec4 : Int × Int → Option (Int)) : Int × Int → Option (Int) := fun (y2, y3) => ck (rng y3) <| if 3 ≤ y3 then (some y2) else (bd (f_X4_unclaimed V ((x1 * 3) + y3)) fun (r_2 : Int) => nm (y2 + r_2) fun (x_3 : Int) => nm (y3 + 1) fun (x_4 : Int) => rec4 (x_3, x_4))
theorem bX4_unclaimedOfGift_4_e (n : Nat) (V : Sz) (x1 : Int) (rec4 : Int × Int → Option (Int)) (y2 : Int) (y3 : Int) : bX4_unclaimedOfGift_4 n V x1 rec4 (y2, y3) = (ck (rng y3) <| if 3 ≤ y3 then (some y2) else (bd (f_X4_unclaimed V ((x1 * 3) + y3)) fun (r_2 : Int) => nm (y2 + r_2) fun (x_3 : Int) => nm (y3 + 1) fun (x_4 : Int) => rec4 (x_3, x_4))) := rfl
def f_X4_unclaimedOfGift (n : Nat) (V : Sz) (x1 : Int) : Option (Int) := lpF (bX4_unclaimedOfGift_4 n V x1) n (0, 0)
def jX4_urgentGift_60 (n : Nat) (V : Sz) (rec8 : Int × Int × Int → Option (Int)) (y1 : Int) (y2 : Int) (y3 : Int) : Option (Int) := nm (y3 + 1) fun (x_6 : Int) => rec8 (y1, y2, x_6)
def bX4_urgentGift_8 (n : Nat) (V : Sz) (rec8 : Int × Int × Int → Option (Int)) : Int × Int × Int → Option (Int) := fun (y1, y2, y3) => ck (rng y3 ∧ rng (V 9 0)) <| if V 9 0 ≤ y3 then (some y1) else (ck (inZ y3 60) <| ck (rng ((V 10 y3.toNat) + (V 1 0))) <| nm (min 9999 ((V 10 y3.toNat) + (V 1 0))) fun (x_4 : Int) => ck (rng x_4 ∧ rng y2) <| if y2 ≤ x_4 then (jX4_urgentGift_60 n V rec8 y1 y2 y3) else (bd (f_X4_unclaimedOfGift n V y3) fun (r_7 : Int) => ck (rng r_7) <| if r_7 ≤ 0 then (jX4_urgentGift_60 n V rec8 y1 y2 y3) else (jX4_urgentGift_60 n V rec8 y3 x_4 y3)))
theorem bX4_urgentGift_8_e (n : Nat) (V : Sz) (rec8 : Int × Int × Int → Option (Int)) (y1 : Int) (y2 : Int) (y3 : Int) : bX4_urgentGift_8 n V rec8 (y1, y2, y3) = (ck (rng y3 ∧ rng (V 9 0)) <| if V 9 0 ≤ y3 then (some y1) else (ck (inZ y3 60) <| ck (rng ((V 10 y3.toNat) + (V 1 0))) <| nm (min 9999 ((V 10 y3.toNat) + (V 1 0))) fun (x_4 : Int) => ck (rng x_4 ∧ rng y2) <| if y2 ≤ x_4 then (jX4_urgentGift_60 n V rec8 y1 y2 y3) else (bd (f_X4_unclaimedOfGift n V y3) fun (r_7 : Int) => ck (rng r_7) <| if r_7 ≤ 0 then (jX4_urgentGift_60 n V rec8 y1 y2 y3) else (jX4_urgentGift_60 n V rec8 y3 x_4 y3)))) := rfl
def f_X4_urgentGift (n : Nat) (V : Sz) : Option (Int) := lpF (bX4_urgentGift_8 n V) n ((-1), 10000, 0)
def jX4_openUntil_55 (n : Nat) (V : Sz) (x1 : Int) (x2 : Int) (rec5 : Int × Int → Option (Int)) (y3 : Int) (y4 : Int) : Option (Int) := nm (y4 + 1) fun (x_5 : Int) => rec5 (y3, x_5)
def bX4_openUntil_5 (n : Nat) (V : Sz) (x1 : Int) (x2 : Int) (rec5 : Int × Int → Option (Int)) : Int × Int → Option (Int) := fun (y3, y4) => ck (rng y4 ∧ rng (V 9 0)) <| if V 9 0 ≤ y4 then (some y3) else (ck (inZ y4 60) <| nm ((V 10 y4.toNat) + (V 1 0)) fun (x_3 : Int) => ck (rng x1 ∧ rng x_3) <| if x_3 < x1 then (jX4_openUntil_55 n V x1 x2 rec5 y3 y4) else (ck (rng x2) <| if x2 < x_3 then (jX4_openUntil_55 n V x1 x2 rec5 y3 y4) else (bd (f_X4_unclaimedOfGift n V y4) fun (r_7 : Int) => nm (y3 + r_7) fun (x_8 : Int) => jX4_openUntil_55 n V x1 x2 rec5 x_8 y4)))
theorem bX4_openUntil_5_e (n : Nat) (V : Sz) (x1 : Int) (x2 : Int) (rec5 : Int × Int → Option (Int)) (y3 : Int) (y4 : Int) : bX4_openUntil_5 n V x1 x2 rec5 (y3, y4) = (ck (rng y4 ∧ rng (V 9 0)) <| if V 9 0 ≤ y4 then (some y3) else (ck (inZ y4 60) <| nm ((V 10 y4.toNat) + (V 1 0)) fun (x_3 : Int) => ck (rng x1 ∧ rng x_3) <| if x_3 < x1 then (jX4_openUntil_55 n V x1 x2 rec5 y3 y4) else (ck (rng x2) <| if x2 < x_3 then (jX4_openUntil_55 n V x1 x2 rec5 y3 y4) else (bd (f_X4_unclaimedOfGift n V y4) fun (r_7 : Int) => nm (y3 + r_7) fun (x_8 : Int) => jX4_openUntil_55 n V x1 x2 rec5 x_8 y4)))) := rfl
def f_X4_openUntil (n : Nat) (V : Sz) (x1 : Int) (x2 : Int) : Option (Int) := lpF (bX4_openUntil_5 n V x1 x2) n (0, 0)
def jX4_isLimited_55 (n : Nat) (V : Sz) (x1 : Int) (x2 : Int) (rec2 : Int → Option (Bool)) (y3 : Int) : Option (Bool) := nm (y3 + 1) fun (x_6 : Int) => rec2 x_6
def bX4_isLimited_2 (n : Nat) (V : Sz) (x1 : Int) (x2 : Int) (rec2 : Int → Option (Bool)) : Int → Option (Bool) := fun y3 => ck (inZ x1 60) <| ck (rng y3 ∧ rng (V 14 x1.toNat)) <| if V 14 x1.toNat ≤ y3 then (some false) else (nm ((x1 * 3) + y3) fun (x_3 : Int) => ck (inZ x_3 180) <| ck (rng (V 16 x_3.toNat) ∧ rng x2) <| if V 16 x_3.toNat = x2 then (ck (rng (V 25 x_3.toNat) ∧ rng (V 24 x_3.toNat)) <| if V 24 x_3.toNat ≤ V 25 x_3.toNat then (jX4_isLimited_55 n V x1 x2 rec2 y3) else (some true)) else (jX4_isLimited_55 n V x1 x2 rec2 y3))
theorem bX4_isLimited_2_e (n : Nat) (V : Sz) (x1 : Int) (x2 : Int) (rec2 : Int → Option (Bool)) (y3 : Int) : bX4_isLimited_2 n V x1 x2 rec2 y3 = (ck (inZ x1 60) <| ck (rng y3 ∧ rng (V 14 x1.toNat)) <| if V 14 x1.toNat ≤ y3 then (some false) else (nm ((x1 * 3) + y3) fun (x_3 : Int) => ck (inZ x_3 180) <| ck (rng (V 16 x_3.toNat) ∧ rng x2) <| if V 16 x_3.toNat = x2 then (ck (rng (V 25 x_3.toNat) ∧ rng (V 24 x_3.toNat)) <| if V 24 x_3.toNat ≤ V 25 x_3.toNat then (jX4_isLimited_55 n V x1 x2 rec2 y3) else (some true)) else (jX4_isLimited_55 n V x1 x2 rec2 y3))) := rfl
def f_X4_isLimited (n : Nat) (V : Sz) (x1 : Int) (x2 : Int) : Option (Bool) := lpF (bX4_isLimited_2 n V x1 x2) n 0
def jX4_countLimitedYears_67 (n : Nat) (V : Sz) (x1 : Int) (rec7 : Int × Int × Int → Option (Int)) (y2 : Int) (y3 : Int) (y4 : Int) : Option (Int) := nm (y4 + 1) fun (x_6 : Int) => rec7 (y2, y3, x_6)
def bX4_countLimitedYears_7 (n : Nat) (V : Sz) (x1 : Int) (rec7 : Int × Int × Int → Option (Int)) : Int × Int × Int → Option (Int) := fun (y2, y3, y4) => ck (rng y4 ∧ rng (V 9 0)) <| if V 9 0 ≤ y4 then (some y2) else (ck (inZ y4 60) <| nm (V 15 y4.toNat) fun (x_3 : Int) => bd (f_X3_yearOf (sv 9 V) x_3) fun (r_4 : Int) => ck (rng r_4 ∧ rng y3) <| if r_4 = y3 then (jX4_countLimitedYears_67 n V x1 rec7 y2 y3 y4) else (bd (f_X4_isLimited n V x_3 x1) fun (r_7 : Bool) => if r_7 = false then (jX4_countLimitedYears_67 n V x1 rec7 y2 y3 y4) else (bd (f_X3_yearOf (sv 9 V) x_3) fun (r_8 : Int) => nm (y2 + 1) fun (x_9 : Int) => jX4_countLimitedYears_67 n V x1 rec7 x_9 r_8 y4)))
theorem bX4_countLimitedYears_7_e (n : Nat) (V : Sz) (x1 : Int) (rec7 : Int × Int × Int → Option (Int)) (y2 : Int) (y3 : Int) (y4 : Int) : bX4_countLimitedYears_7 n V x1 rec7 (y2, y3, y4) = (ck (rng y4 ∧ rng (V 9 0)) <| if V 9 0 ≤ y4 then (some y2) else (ck (inZ y4 60) <| nm (V 15 y4.toNat) fun (x_3 : Int) => bd (f_X3_yearOf (sv 9 V) x_3) fun (r_4 : Int) => ck (rng r_4 ∧ rng y3) <| if r_4 = y3 then (jX4_countLimitedYears_67 n V x1 rec7 y2 y3 y4) else (bd (f_X4_isLimited n V x_3 x1) fun (r_7 : Bool) => if r_7 = false then (jX4_countLimitedYears_67 n V x1 rec7 y2 y3 y4) else (bd (f_X3_yearOf (sv 9 V) x_3) fun (r_8 : Int) => nm (y2 + 1) fun (x_9 : Int) => jX4_countLimitedYears_67 n V x1 rec7 x_9 r_8 y4)))) := rfl
def f_X4_countLimitedYears (n : Nat) (V : Sz) (x1 : Int) : Option (Int) := lpF (bX4_countLimitedYears_7 n V x1) n (0, (-1), 0)
def jX4_yearOfMostAid_85 (n : Nat) (V : Sz) (rec12 : Int × Int × Int × Int × Int → Option (Int)) (y1 : Int) (y2 : Int) (y3 : Int) (y4 : Int) (y5 : Int) : Option (Int) := nm (y5 + 1) fun (x_9 : Int) => rec12 (y1, y2, y3, y4, x_9)
def jX4_yearOfMostAid_62 (n : Nat) (V : Sz) (rec12 : Int × Int × Int × Int × Int → Option (Int)) (y1 : Int) (y2 : Int) (y3 : Int) (y4 : Int) (y5 : Int) (y6 : Int) : Option (Int) := bd (f_X4_sumOfGift n V y6 2) fun (r_6 : Int) => nm (y4 + r_6) fun (x_7 : Int) => ck (rng x_7 ∧ rng y2) <| if x_7 ≤ y2 then (jX4_yearOfMostAid_85 n V rec12 y1 y2 y3 x_7 y5) else (jX4_yearOfMostAid_85 n V rec12 y3 x_7 y3 x_7 y5)
def bX4_yearOfMostAid_12 (n : Nat) (V : Sz) (rec12 : Int × Int × Int × Int × Int → Option (Int)) : Int × Int × Int × Int × Int → Option (Int) := fun (y1, y2, y3, y4, y5) => ck (rng y5 ∧ rng (V 9 0)) <| if V 9 0 ≤ y5 then (some y1) else (ck (inZ y5 60) <| nm (V 15 y5.toNat) fun (x_3 : Int) => bd (f_X3_yearOf (sv 9 V) x_3) fun (r_4 : Int) => ck (rng r_4 ∧ rng y3) <| if r_4 = y3 then (jX4_yearOfMostAid_62 n V rec12 y1 y2 y3 y4 y5 x_3) else (bd (f_X3_yearOf (sv 9 V) x_3) fun (r_10 : Int) => jX4_yearOfMostAid_62 n V rec12 y1 y2 r_10 0 y5 x_3))
theorem bX4_yearOfMostAid_12_e (n : Nat) (V : Sz) (rec12 : Int × Int × Int × Int × Int → Option (Int)) (y1 : Int) (y2 : Int) (y3 : Int) (y4 : Int) (y5 : Int) : bX4_yearOfMostAid_12 n V rec12 (y1, y2, y3, y4, y5) = (ck (rng y5 ∧ rng (V 9 0)) <| if V 9 0 ≤ y5 then (some y1) else (ck (inZ y5 60) <| nm (V 15 y5.toNat) fun (x_3 : Int) => bd (f_X3_yearOf (sv 9 V) x_3) fun (r_4 : Int) => ck (rng r_4 ∧ rng y3) <| if r_4 = y3 then (jX4_yearOfMostAid_62 n V rec12 y1 y2 y3 y4 y5 x_3) else (bd (f_X3_yearOf (sv 9 V) x_3) fun (r_10 : Int) => jX4_yearOfMostAid_62 n V rec12 y1 y2 r_10 0 y5 x_3))) := rfl
def f_X4_yearOfMostAid (n : Nat) (V : Sz) : Option (Int) := lpF (bX4_yearOfMostAid_12 n V) n ((-1), 0, (-1), 0, 0)
def bX4_wishOf_3 (n : Nat) (V : Sz) (x1 : Int) (x2 : Int) (x3 : Int) (rec3 : Int → Option (Int)) : Int → Option (Int) := fun y4 => ck (inZ x1 60) <| ck (rng y4 ∧ rng (V 14 x1.toNat)) <| if V 14 x1.toNat ≤ y4 then (some 0) else (nm ((x1 * 3) + y4) fun (x_3 : Int) => ck (inZ x_3 180) <| ck (rng (V 16 x_3.toNat) ∧ rng x2) <| if V 16 x_3.toNat = x2 then (ck (rng x3) <| if x3 = 0 then (some (V 24 x_3.toNat)) else (some (V 23 x_3.toNat))) else (nm (y4 + 1) fun (x_6 : Int) => rec3 x_6))
theorem bX4_wishOf_3_e (n : Nat) (V : Sz) (x1 : Int) (x2 : Int) (x3 : Int) (rec3 : Int → Option (Int)) (y4 : Int) : bX4_wishOf_3 n V x1 x2 x3 rec3 y4 = (ck (inZ x1 60) <| ck (rng y4 ∧ rng (V 14 x1.toNat)) <| if V 14 x1.toNat ≤ y4 then (some 0) else (nm ((x1 * 3) + y4) fun (x_3 : Int) => ck (inZ x_3 180) <| ck (rng (V 16 x_3.toNat) ∧ rng x2) <| if V 16 x_3.toNat = x2 then (ck (rng x3) <| if x3 = 0 then (some (V 24 x_3.toNat)) else (some (V 23 x_3.toNat))) else (nm (y4 + 1) fun (x_6 : Int) => rec3 x_6))) := rfl
def f_X4_wishOf (n : Nat) (V : Sz) (x1 : Int) (x2 : Int) (x3 : Int) : Option (Int) := lpF (bX4_wishOf_3 n V x1 x2 x3) n 0
def jX4_aidWith_104 (n : Nat) (V : Sz) (x1 : Int) (x2 : Int) (x3 : Int) (rec12 : Int × Int × Int × Int → Option (Int)) (y4 : Int) (y5 : Int) (y6 : Int) (y7 : Int) (y8 : Int) (z0 : Int) : Option (Int) := ck (inZ x1 10) <| bd (f_X4_wishOf n V y8 x1 z0) fun (r_9 : Int) => ck (rng (V 4 x1.toNat) ∧ rng (y5 + r_9)) <| nm (min (V 4 x1.toNat) (y5 + r_9)) fun (x_11 : Int) => nm (y7 + 1) fun (x_12 : Int) => rec12 (y4, x_11, y6, x_12)
def jX4_aidWith_103 (n : Nat) (V : Sz) (x1 : Int) (x2 : Int) (x3 : Int) (rec12 : Int × Int × Int × Int → Option (Int)) (y4 : Int) (y5 : Int) (y6 : Int) (y7 : Int) (y8 : Int) : Option (Int) := jX4_aidWith_104 n V x1 x2 x3 rec12 y4 y5 y6 y7 y8 0
def jX4_aidWith_71 (n : Nat) (V : Sz) (x1 : Int) (x2 : Int) (x3 : Int) (rec12 : Int × Int × Int × Int → Option (Int)) (y4 : Int) (y5 : Int) (y6 : Int) (y7 : Int) (y8 : Int) : Option (Int) := ck (inZ y8 60) <| ck (rng x2 ∧ rng (V 10 y8.toNat)) <| if V 10 y8.toNat < x2 then (jX4_aidWith_103 n V x1 x2 x3 rec12 y4 y5 y6 y7 y8) else (ck (rng x3) <| if x3 < V 10 y8.toNat then (jX4_aidWith_103 n V x1 x2 x3 rec12 y4 y5 y6 y7 y8) else (jX4_aidWith_104 n V x1 x2 x3 rec12 y4 y5 y6 y7 y8 1))
def bX4_aidWith_12 (n : Nat) (V : Sz) (x1 : Int) (x2 : Int) (x3 : Int) (rec12 : Int × Int × Int × Int → Option (Int)) : Int × Int × Int × Int → Option (Int) := fun (y4, y5, y6, y7) => ck (rng y7 ∧ rng (V 9 0)) <| if V 9 0 ≤ y7 then (some (y4 + y5)) else (ck (inZ y7 60) <| nm (V 15 y7.toNat) fun (x_3 : Int) => bd (f_X3_yearOf (sv 9 V) x_3) fun (r_4 : Int) => ck (rng r_4 ∧ rng y6) <| if r_4 = y6 then (jX4_aidWith_71 n V x1 x2 x3 rec12 y4 y5 y6 y7 x_3) else (bd (f_X3_yearOf (sv 9 V) x_3) fun (r_14 : Int) => nm (y4 + y5) fun (x_15 : Int) => jX4_aidWith_71 n V x1 x2 x3 rec12 x_15 0 r_14 y7 x_3))
theorem bX4_aidWith_12_e (n : Nat) (V : Sz) (x1 : Int) (x2 : Int) (x3 : Int) (rec12 : Int × Int × Int × Int → Option (Int)) (y4 : Int) (y5 : Int) (y6 : Int) (y7 : Int) : bX4_aidWith_12 n V x1 x2 x3 rec12 (y4, y5, y6, y7) = (ck (rng y7 ∧ rng (V 9 0)) <| if V 9 0 ≤ y7 then (some (y4 + y5)) else (ck (inZ y7 60) <| nm (V 15 y7.toNat) fun (x_3 : Int) => bd (f_X3_yearOf (sv 9 V) x_3) fun (r_4 : Int) => ck (rng r_4 ∧ rng y6) <| if r_4 = y6 then (jX4_aidWith_71 n V x1 x2 x3 rec12 y4 y5 y6 y7 x_3) else (bd (f_X3_yearOf (sv 9 V) x_3) fun (r_14 : Int) => nm (y4 + y5) fun (x_15 : Int) => jX4_aidWith_71 n V x1 x2 x3 rec12 x_15 0 r_14 y7 x_3))) := rfl
def f_X4_aidWith (n : Nat) (V : Sz) (x1 : Int) (x2 : Int) (x3 : Int) : Option (Int) := lpF (bX4_aidWith_12 n V x1 x2 x3) n (0, 0, (-1), 0)
def f_X4_growthWith (n : Nat) (V : Sz) (x1 : Int) (x2 : Int) (x3 : Int) : Option (Int) := bd (f_X4_aidWith n V x1 x2 x3) fun (r_1 : Int) => bd (f_X4_sumOfDonor n V x1 2 (-1)) fun (r_2 : Int) => some (r_1 - r_2)
def jX4_endOfNeed_181 (n : Nat) (V : Sz) (x1 : Int) (x2 : Int) (rec37 : Int × Int × Int × Int × Int → Option (Int)) (y3 : Int) (y4 : Int) (y5 : Int) (y6 : Int) (y7 : Int) : Option (Int) := nm (y7 + 1) fun (x_11 : Int) => rec37 (y3, y4, y5, y6, x_11)
def jX4_endOfNeed_116 (n : Nat) (V : Sz) (x1 : Int) (x2 : Int) (rec37 : Int × Int × Int × Int × Int → Option (Int)) (y3 : Int) (y4 : Int) (y5 : Int) (y6 : Int) (y7 : Int) (y8 : Int) : Option (Int) := ck (rng y6 ∧ rng (V 9 0)) <| if V 9 0 ≤ y6 then (jX4_endOfNeed_181 n V x1 x2 rec37 y3 y4 y5 y6 y7) else (ck (inZ y6 60) <| ck (inZ (V 15 y6.toNat) 60) <| ck (rng ((V 10 (V 15 y6.toNat).toNat) - y8) ∧ rng (y5 - y4)) <| if y5 - y4 ≤ (V 10 (V 15 y6.toNat).toNat) - y8 then (jX4_endOfNeed_181 n V x1 x2 rec37 y3 y4 y5 y6 y7) else (nm (V 10 (V 15 y6.toNat).toNat) fun (x_15 : Int) => jX4_endOfNeed_181 n V x1 x2 rec37 y3 y8 x_15 y6 y7))
def bX4_endOfNeed_69 (n : Nat) (V : Sz) (x1 : Int) (x2 : Int) (rec37 : Int × Int × Int × Int × Int → Option (Int)) (rec69 : Int × Int × Int × Int × Int × Int → Option (Int)) : Int × Int × Int × Int × Int × Int → Option (Int) := fun (y3, y4, y5, y6, y7, y8) => ck (rng y6 ∧ rng (V 9 0)) <| if V 9 0 ≤ y6 then (jX4_endOfNeed_116 n V x1 x2 rec37 y3 y4 y5 y6 y7 y8) else (ck (inZ y6 60) <| ck (inZ (V 15 y6.toNat) 60) <| bd (f_X4_aidWith n V x1 y8 (V 10 (V 15 y6.toNat).toNat)) fun (r_18 : Int) => ck (rng r_18 ∧ rng y3) <| if y3 ≤ r_18 then (jX4_endOfNeed_116 n V x1 x2 rec37 y3 y4 y5 y6 y7 y8) else (nm (y6 + 1) fun (x_20 : Int) => rec69 (y3, y4, y5, x_20, y7, y8)))
theorem bX4_endOfNeed_69_e (n : Nat) (V : Sz) (x1 : Int) (x2 : Int) (rec37 : Int × Int × Int × Int × Int → Option (Int)) (rec69 : Int × Int × Int × Int × Int × Int → Option (Int)) (y3 : Int) (y4 : Int) (y5 : Int) (y6 : Int) (y7 : Int) (y8 : Int) : bX4_endOfNeed_69 n V x1 x2 rec37 rec69 (y3, y4, y5, y6, y7, y8) = (ck (rng y6 ∧ rng (V 9 0)) <| if V 9 0 ≤ y6 then (jX4_endOfNeed_116 n V x1 x2 rec37 y3 y4 y5 y6 y7 y8) else (ck (inZ y6 60) <| ck (inZ (V 15 y6.toNat) 60) <| bd (f_X4_aidWith n V x1 y8 (V 10 (V 15 y6.toNat).toNat)) fun (r_18 : Int) => ck (rng r_18 ∧ rng y3) <| if y3 ≤ r_18 then (jX4_endOfNeed_116 n V x1 x2 rec37 y3 y4 y5 y6 y7 y8) else (nm (y6 + 1) fun (x_20 : Int) => rec69 (y3, y4, y5, x_20, y7, y8)))) := rfl
def bX4_endOfNeed_37 (n : Nat) (V : Sz) (x1 : Int) (x2 : Int) (rec37 : Int × Int × Int × Int × Int → Option (Int)) : Int × Int × Int × Int × Int → Option (Int) := fun (y3, y4, y5, y6, y7) => ck (rng y7 ∧ rng (V 9 0)) <| if V 9 0 ≤ y7 then (ck (rng x2) <| if x2 = 0 then (some y4) else (some y5)) else (ck (inZ y7 60) <| ck (inZ (V 15 y7.toNat) 60) <| nm (V 10 (V 15 y7.toNat).toNat) fun (x_8 : Int) => lpF (bX4_endOfNeed_69 n V x1 x2 rec37) n (y3, y4, y5, y6, y7, x_8))
theorem bX4_endOfNeed_37_e (n : Nat) (V : Sz) (x1 : Int) (x2 : Int) (rec37 : Int × Int × Int × Int × Int → Option (Int)) (y3 : Int) (y4 : Int) (y5 : Int) (y6 : Int) (y7 : Int) : bX4_endOfNeed_37 n V x1 x2 rec37 (y3, y4, y5, y6, y7) = (ck (rng y7 ∧ rng (V 9 0)) <| if V 9 0 ≤ y7 then (ck (rng x2) <| if x2 = 0 then (some y4) else (some y5)) else (ck (inZ y7 60) <| ck (inZ (V 15 y7.toNat) 60) <| nm (V 10 (V 15 y7.toNat).toNat) fun (x_8 : Int) => lpF (bX4_endOfNeed_69 n V x1 x2 rec37) n (y3, y4, y5, y6, y7, x_8))) := rfl
def f_X4_endOfNeed (n : Nat) (V : Sz) (x1 : Int) (x2 : Int) : Option (Int) := bd (f_X4_aidWith n V x1 0 9999) fun (r_1 : Int) => bd (f_X4_sumOfDonor n V x1 2 (-1)) fun (r_2 : Int) => ck (rng r_1 ∧ rng r_2) <| if r_1 = r_2 then (some (-1)) else (lpF (bX4_endOfNeed_37 n V x1 x2) n (r_1, 0, 9999, 0, 0))
theorem DX4_become_0 : ∀ q ∈ ([(0, .aload_n 0, 1), (1, .aload_n 1, 1), (2, .getfield 51, 3), (5, .putfield 51, 3), (8, .aload_n 0, 1), (9, .aload_n 1, 1), (10, .getfield 55, 3), (13, .putfield 55, 3), (16, .aload_n 0, 1), (17, .aload_n 1, 1), (18, .getfield 58, 3), (21, .putfield 58, 3), (24, .aload_n 0, 1), (25, .aload_n 1, 1), (26, .getfield 61, 3), (29, .putfield 61, 3), (32, .aload_n 1, 1), (33, .getfield 9, 3), (36, .aload_n 0, 1), (37, .getfield 9, 3), (40, .invokestatic 64, 3), (43, .aload_n 0, 1), (44, .getfield 18, 3), (47, .aload_n 1, 1), (48, .getfield 18, 3), (51, .invokevirtual 68, 3), (54, .aload_n 0, 1), (55, .getfield 25, 3), (58, .aload_n 1, 1), (59, .getfield 25, 3), (62, .invokevirtual 72, 3), (65, .aload_n 0, 1), (66, .getfield 32, 3), (69, .aload_n 1, 1), (70, .getfield 32, 3), (73, .invokevirtual 75, 3), (76, .aload_n 1, 1), (77, .getfield 36, 3), (80, .aload_n 0, 1), (81, .getfield 36, 3)] : List (Nat × Instr × Nat)), decode cX4_become q.1 = .ok q.2 := by decide +kernel
theorem dX4_become_0 : decode cX4_become 0 = .ok (.aload_n 0, 1) := DX4_become_0 (0, .aload_n 0, 1) (List.mem_of_getElem? (i := 0) rfl)
theorem dX4_become_1 : decode cX4_become 1 = .ok (.aload_n 1, 1) := DX4_become_0 (1, .aload_n 1, 1) (List.mem_of_getElem? (i := 1) rfl)
theorem dX4_become_2 : decode cX4_become 2 = .ok (.getfield 51, 3) := DX4_become_0 (2, .getfield 51, 3) (List.mem_of_getElem? (i := 2) rfl)
theorem dX4_become_5 : decode cX4_become 5 = .ok (.putfield 51, 3) := DX4_become_0 (5, .putfield 51, 3) (List.mem_of_getElem? (i := 3) rfl)
theorem dX4_become_8 : decode cX4_become 8 = .ok (.aload_n 0, 1) := DX4_become_0 (8, .aload_n 0, 1) (List.mem_of_getElem? (i := 4) rfl)
theorem dX4_become_9 : decode cX4_become 9 = .ok (.aload_n 1, 1) := DX4_become_0 (9, .aload_n 1, 1) (List.mem_of_getElem? (i := 5) rfl)
theorem dX4_become_10 : decode cX4_become 10 = .ok (.getfield 55, 3) := DX4_become_0 (10, .getfield 55, 3) (List.mem_of_getElem? (i := 6) rfl)
theorem dX4_become_13 : decode cX4_become 13 = .ok (.putfield 55, 3) := DX4_become_0 (13, .putfield 55, 3) (List.mem_of_getElem? (i := 7) rfl)
theorem dX4_become_16 : decode cX4_become 16 = .ok (.aload_n 0, 1) := DX4_become_0 (16, .aload_n 0, 1) (List.mem_of_getElem? (i := 8) rfl)
theorem dX4_become_17 : decode cX4_become 17 = .ok (.aload_n 1, 1) := DX4_become_0 (17, .aload_n 1, 1) (List.mem_of_getElem? (i := 9) rfl)
theorem dX4_become_18 : decode cX4_become 18 = .ok (.getfield 58, 3) := DX4_become_0 (18, .getfield 58, 3) (List.mem_of_getElem? (i := 10) rfl)
theorem dX4_become_21 : decode cX4_become 21 = .ok (.putfield 58, 3) := DX4_become_0 (21, .putfield 58, 3) (List.mem_of_getElem? (i := 11) rfl)
theorem dX4_become_24 : decode cX4_become 24 = .ok (.aload_n 0, 1) := DX4_become_0 (24, .aload_n 0, 1) (List.mem_of_getElem? (i := 12) rfl)
theorem dX4_become_25 : decode cX4_become 25 = .ok (.aload_n 1, 1) := DX4_become_0 (25, .aload_n 1, 1) (List.mem_of_getElem? (i := 13) rfl)
theorem dX4_become_26 : decode cX4_become 26 = .ok (.getfield 61, 3) := DX4_become_0 (26, .getfield 61, 3) (List.mem_of_getElem? (i := 14) rfl)
theorem dX4_become_29 : decode cX4_become 29 = .ok (.putfield 61, 3) := DX4_become_0 (29, .putfield 61, 3) (List.mem_of_getElem? (i := 15) rfl)
theorem dX4_become_32 : decode cX4_become 32 = .ok (.aload_n 1, 1) := DX4_become_0 (32, .aload_n 1, 1) (List.mem_of_getElem? (i := 16) rfl)
theorem dX4_become_33 : decode cX4_become 33 = .ok (.getfield 9, 3) := DX4_become_0 (33, .getfield 9, 3) (List.mem_of_getElem? (i := 17) rfl)
theorem dX4_become_36 : decode cX4_become 36 = .ok (.aload_n 0, 1) := DX4_become_0 (36, .aload_n 0, 1) (List.mem_of_getElem? (i := 18) rfl)
theorem dX4_become_37 : decode cX4_become 37 = .ok (.getfield 9, 3) := DX4_become_0 (37, .getfield 9, 3) (List.mem_of_getElem? (i := 19) rfl)
theorem dX4_become_40 : decode cX4_become 40 = .ok (.invokestatic 64, 3) := DX4_become_0 (40, .invokestatic 64, 3) (List.mem_of_getElem? (i := 20) rfl)
theorem dX4_become_43 : decode cX4_become 43 = .ok (.aload_n 0, 1) := DX4_become_0 (43, .aload_n 0, 1) (List.mem_of_getElem? (i := 21) rfl)
theorem dX4_become_44 : decode cX4_become 44 = .ok (.getfield 18, 3) := DX4_become_0 (44, .getfield 18, 3) (List.mem_of_getElem? (i := 22) rfl)
theorem dX4_become_47 : decode cX4_become 47 = .ok (.aload_n 1, 1) := DX4_become_0 (47, .aload_n 1, 1) (List.mem_of_getElem? (i := 23) rfl)
theorem dX4_become_48 : decode cX4_become 48 = .ok (.getfield 18, 3) := DX4_become_0 (48, .getfield 18, 3) (List.mem_of_getElem? (i := 24) rfl)
theorem dX4_become_51 : decode cX4_become 51 = .ok (.invokevirtual 68, 3) := DX4_become_0 (51, .invokevirtual 68, 3) (List.mem_of_getElem? (i := 25) rfl)
theorem dX4_become_54 : decode cX4_become 54 = .ok (.aload_n 0, 1) := DX4_become_0 (54, .aload_n 0, 1) (List.mem_of_getElem? (i := 26) rfl)
theorem dX4_become_55 : decode cX4_become 55 = .ok (.getfield 25, 3) := DX4_become_0 (55, .getfield 25, 3) (List.mem_of_getElem? (i := 27) rfl)
theorem dX4_become_58 : decode cX4_become 58 = .ok (.aload_n 1, 1) := DX4_become_0 (58, .aload_n 1, 1) (List.mem_of_getElem? (i := 28) rfl)
theorem dX4_become_59 : decode cX4_become 59 = .ok (.getfield 25, 3) := DX4_become_0 (59, .getfield 25, 3) (List.mem_of_getElem? (i := 29) rfl)
theorem dX4_become_62 : decode cX4_become 62 = .ok (.invokevirtual 72, 3) := DX4_become_0 (62, .invokevirtual 72, 3) (List.mem_of_getElem? (i := 30) rfl)
theorem dX4_become_65 : decode cX4_become 65 = .ok (.aload_n 0, 1) := DX4_become_0 (65, .aload_n 0, 1) (List.mem_of_getElem? (i := 31) rfl)
theorem dX4_become_66 : decode cX4_become 66 = .ok (.getfield 32, 3) := DX4_become_0 (66, .getfield 32, 3) (List.mem_of_getElem? (i := 32) rfl)
theorem dX4_become_69 : decode cX4_become 69 = .ok (.aload_n 1, 1) := DX4_become_0 (69, .aload_n 1, 1) (List.mem_of_getElem? (i := 33) rfl)
theorem dX4_become_70 : decode cX4_become 70 = .ok (.getfield 32, 3) := DX4_become_0 (70, .getfield 32, 3) (List.mem_of_getElem? (i := 34) rfl)
theorem dX4_become_73 : decode cX4_become 73 = .ok (.invokevirtual 75, 3) := DX4_become_0 (73, .invokevirtual 75, 3) (List.mem_of_getElem? (i := 35) rfl)
theorem dX4_become_76 : decode cX4_become 76 = .ok (.aload_n 1, 1) := DX4_become_0 (76, .aload_n 1, 1) (List.mem_of_getElem? (i := 36) rfl)
theorem dX4_become_77 : decode cX4_become 77 = .ok (.getfield 36, 3) := DX4_become_0 (77, .getfield 36, 3) (List.mem_of_getElem? (i := 37) rfl)
theorem dX4_become_80 : decode cX4_become 80 = .ok (.aload_n 0, 1) := DX4_become_0 (80, .aload_n 0, 1) (List.mem_of_getElem? (i := 38) rfl)
theorem dX4_become_81 : decode cX4_become 81 = .ok (.getfield 36, 3) := DX4_become_0 (81, .getfield 36, 3) (List.mem_of_getElem? (i := 39) rfl)
theorem DX4_become_1 : ∀ q ∈ ([(84, .invokestatic 64, 3), (87, .aload_n 1, 1), (88, .getfield 39, 3), (91, .aload_n 0, 1), (92, .getfield 39, 3), (95, .invokestatic 64, 3), (98, .aload_n 1, 1), (99, .getfield 42, 3), (102, .aload_n 0, 1), (103, .getfield 42, 3), (106, .invokestatic 64, 3), (109, .return_, 1)] : List (Nat × Instr × Nat)), decode cX4_become q.1 = .ok q.2 := by decide +kernel
theorem dX4_become_84 : decode cX4_become 84 = .ok (.invokestatic 64, 3) := DX4_become_1 (84, .invokestatic 64, 3) (List.mem_of_getElem? (i := 0) rfl)
theorem dX4_become_87 : decode cX4_become 87 = .ok (.aload_n 1, 1) := DX4_become_1 (87, .aload_n 1, 1) (List.mem_of_getElem? (i := 1) rfl)
theorem dX4_become_88 : decode cX4_become 88 = .ok (.getfield 39, 3) := DX4_become_1 (88, .getfield 39, 3) (List.mem_of_getElem? (i := 2) rfl)
theorem dX4_become_91 : decode cX4_become 91 = .ok (.aload_n 0, 1) := DX4_become_1 (91, .aload_n 0, 1) (List.mem_of_getElem? (i := 3) rfl)
theorem dX4_become_92 : decode cX4_become 92 = .ok (.getfield 39, 3) := DX4_become_1 (92, .getfield 39, 3) (List.mem_of_getElem? (i := 4) rfl)
theorem dX4_become_95 : decode cX4_become 95 = .ok (.invokestatic 64, 3) := DX4_become_1 (95, .invokestatic 64, 3) (List.mem_of_getElem? (i := 5) rfl)
theorem dX4_become_98 : decode cX4_become 98 = .ok (.aload_n 1, 1) := DX4_become_1 (98, .aload_n 1, 1) (List.mem_of_getElem? (i := 6) rfl)
theorem dX4_become_99 : decode cX4_become 99 = .ok (.getfield 42, 3) := DX4_become_1 (99, .getfield 42, 3) (List.mem_of_getElem? (i := 7) rfl)
theorem dX4_become_102 : decode cX4_become 102 = .ok (.aload_n 0, 1) := DX4_become_1 (102, .aload_n 0, 1) (List.mem_of_getElem? (i := 8) rfl)
theorem dX4_become_103 : decode cX4_become 103 = .ok (.getfield 42, 3) := DX4_become_1 (103, .getfield 42, 3) (List.mem_of_getElem? (i := 9) rfl)
theorem dX4_become_106 : decode cX4_become 106 = .ok (.invokestatic 64, 3) := DX4_become_1 (106, .invokestatic 64, 3) (List.mem_of_getElem? (i := 10) rfl)
theorem dX4_become_109 : decode cX4_become 109 = .ok (.return_, 1) := DX4_become_1 (109, .return_, 1) (List.mem_of_getElem? (i := 11) rfl)
abbrev rmX4_become : Room := { frames := 3, cells := 0, slots := 0, locals := 102 }
set_option maxHeartbeats 400000 in
set_option maxRecDepth 100000 in
theorem met_X4_become (l : Launch) (D : va_G) (kA : Nat → ClassId) (a : Nat → Nat) (b : Nat → Nat) (V0 : Sz) (G : Sz) (hDt : ∀ w : Sz, va_D (fun _ => True) (cs_X4 kA a w ++ (cs_X4 kA b G))) {Vr : Sz} (hf : f_X4_become V0 G = some Vr) : MZ l yX4_become cX4_become 2 none rmX4_become D kA [.ref (a 0), .ref (b 0)] (cs_X4 kA a V0 ++ (cs_X4 kA b G)) (cs_X4 kA a Vr ++ (cs_X4 kA b G)) (none) := by
  refine zZV (own := RX4) rfl rfl (Nat.le_of_ble_eq_true rfl) ?_
  intro p e s m args below meth c ls Q hC hK hP hl hret
  have hl : lv_has ls 2 [(0, .ref (a 0)), (1, .ref (b 0))] := hl
  have hS : va_S (zF (cs_X4 kA a V0 ++ (cs_X4 kA b G))) s.heap s.heap [] := va_S.rf
  have hD := zDself (C := fun w : Sz => (cs_X4 kA a w ++ (cs_X4 kA b G))) hDt V0 (fun _ => rfl)
  try dsimp only at hD
  generalize hAe : zF (cs_X4 kA a V0 ++ (cs_X4 kA b G)) = A0 at hS hD hret
  unfold f_X4_become at hf
  refine lv_aload_n hC.1 hC.2.1 dX4_become_0 rfl (lv_at hl 0 rfl) <| lv_aload_n hC.1 hC.2.1 dX4_become_1 rfl (lv_at hl 1 rfl) <| gfX4_51 hC hK hP (q0 := 24) rfl rfl dX4_become_2 <| ?_
  refine pfX4_51 hC hK hP (hD V0) hS (q0 := 0) rfl (Nat.le_of_ble_eq_true rfl) dX4_become_5 (fun H locs hP hS => ?_)
  obtain ⟨V_1, eV_1⟩ : ∃ y, y = us V0 0 (G 0 0) := ⟨_, rfl⟩
  have hf := nm_at hf eV_1
  have hP : va_P D vwCl (cs_X4 kA a V_1 ++ (cs_X4 kA b G)) H := by rw [eV_1]; exact hP
  refine lv_aload_n hC.1 hC.2.1 dX4_become_8 rfl (lv_at hl 0 rfl) <| lv_aload_n hC.1 hC.2.1 dX4_become_9 rfl (lv_at hl 1 rfl) <| gfX4_55 hC hK hP (q0 := 24) rfl rfl dX4_become_10 <| ?_
  refine pfX4_55 hC hK hP (hD V_1) hS (q0 := 0) rfl (Nat.le_of_ble_eq_true rfl) dX4_become_13 (fun H locs hP hS => ?_)
  obtain ⟨V_2, eV_2⟩ : ∃ y, y = us V_1 1 (G 1 0) := ⟨_, rfl⟩
  have hf := nm_at hf eV_2
  have hP : va_P D vwCl (cs_X4 kA a V_2 ++ (cs_X4 kA b G)) H := by rw [eV_2]; exact hP
  refine lv_aload_n hC.1 hC.2.1 dX4_become_16 rfl (lv_at hl 0 rfl) <| lv_aload_n hC.1 hC.2.1 dX4_become_17 rfl (lv_at hl 1 rfl) <| gfX4_58 hC hK hP (q0 := 24) rfl rfl dX4_become_18 <| ?_
  refine pfX4_58 hC hK hP (hD V_2) hS (q0 := 0) rfl (Nat.le_of_ble_eq_true rfl) dX4_become_21 (fun H locs hP hS => ?_)
  obtain ⟨V_3, eV_3⟩ : ∃ y, y = us V_2 2 (G 2 0) := ⟨_, rfl⟩
  have hf := nm_at hf eV_3
  have hP : va_P D vwCl (cs_X4 kA a V_3 ++ (cs_X4 kA b G)) H := by rw [eV_3]; exact hP
  refine lv_aload_n hC.1 hC.2.1 dX4_become_24 rfl (lv_at hl 0 rfl) <| lv_aload_n hC.1 hC.2.1 dX4_become_25 rfl (lv_at hl 1 rfl) <| gfX4_61 hC hK hP (q0 := 24) rfl rfl dX4_become_26 <| ?_
  refine pfX4_61 hC hK hP (hD V_3) hS (q0 := 0) rfl (Nat.le_of_ble_eq_true rfl) dX4_become_29 (fun H locs hP hS => ?_)
  obtain ⟨V_4, eV_4⟩ : ∃ y, y = us V_3 3 (G 3 0) := ⟨_, rfl⟩
  have hf := nm_at hf eV_4
  have hP : va_P D vwCl (cs_X4 kA a V_4 ++ (cs_X4 kA b G)) H := by rw [eV_4]; exact hP
  refine lv_aload_n hC.1 hC.2.1 dX4_become_32 rfl (lv_at hl 1 rfl) <| gfX4_9 hC hK hP (q0 := 24) rfl rfl dX4_become_33 <| lv_aload_n hC.1 hC.2.1 dX4_become_36 rfl (lv_at hl 0 rfl) <| gfX4_9 hC hK hP (q0 := 0) rfl rfl dX4_become_37 <| ?_
  obtain ⟨V_5, hu, hf⟩ := bd_some hf
  have hPc : va_P D vwCl ([((b 1), .inl (kA 0, 10, .inl (aI (G 4))))] ++ ([((a 1), .inl (kA 0, 10, .inl (aI (V_4 4))))])) _ := hP.sub [25, 1] rfl
  have hDc : ∀ w : (Nat → Int), va_D (fun _ => True) ([((b 1), .inl (kA 0, 10, .inl (aI (G 4))))] ++ ([((a 1), .inl (kA 0, 10, .inl (aI w)))])) := fun w => (hDt (uy V_4 4 w)).sub [25, 1] (by decide) rfl
  refine zcNZ (As := [.ref (b 1), .ref (a 1)]) (rest := []) hC hK (met_X7_copyRow l D kA (b 1) (a 1) 10 10 (G 4) (V_4 4) (Nat.le_of_ble_eq_true rfl) (Nat.le_of_ble_eq_true rfl) hDc hu) zwNcopy znX4_64 hS (zFsub (hD V_4) [25, 1] rfl) hPc rfl hl.1 rfl (Nat.le_of_ble_eq_true rfl) ⟨Nat.le_of_ble_eq_true rfl, Nat.le_of_ble_eq_true rfl⟩ ⟨rfl, rfl⟩ ⟨Nat.le_refl _, Nat.le_refl _⟩ dX4_become_40 (fun H locs hP1 hk1 hS => ?_)
  obtain ⟨V_6, eV_6⟩ : ∃ y, y = uy V_4 4 V_5 := ⟨_, rfl⟩
  have hf := nm_at hf eV_6
  have hP : va_P D vwCl (cs_X4 kA a V_6 ++ (cs_X4 kA b G)) H := by rw [eV_6]; exact zjoin hP (hDt V_4) [25, 1] (w0 := ([((b 1), .inl (kA 0, 10, .inl (aI (G 4))))] ++ ([((a 1), .inl (kA 0, 10, .inl (aI (V_4 4))))]))) rfl (Nat.le_of_ble_eq_true rfl) hk1 hP1
  refine lv_aload_n hC.1 hC.2.1 dX4_become_43 rfl (lv_at hl 0 rfl) <| gfX4_18 hC hK hP (q0 := 0) rfl rfl dX4_become_44 <| lv_aload_n hC.1 hC.2.1 dX4_become_47 rfl (lv_at hl 1 rfl) <| gfX4_18 hC hK hP (q0 := 24) rfl rfl dX4_become_48 <| ?_
  obtain ⟨V_7, hu, hf⟩ := bd_some hf
  have hPc : va_P D vwCl (cs_X1 kA (sv 2 a) (sv 5 V_6) ++ (cs_X1 kA (sv 2 b) (sv 5 G))) _ := hP.sub [2, 3, 4, 5, 26, 27, 28, 29] rfl
  have hDc : ∀ w : Sz, va_D (fun _ => True) (cs_X1 kA (sv 2 a) w ++ (cs_X1 kA (sv 2 b) (sv 5 G))) := fun w => (hDt (sw 5 4 V_6 w)).sub [2, 3, 4, 5, 26, 27, 28, 29] (by decide) rfl
  refine zcVZ (As := [.ref (b 2)]) (rest := []) hC hK (met_X1_become l D kA (sv 2 a) (sv 2 b) (sv 5 V_6) (sv 5 G) hDc hu) zwX4_68 hS (zFsub (hD V_6) [2, 3, 4, 5, 26, 27, 28, 29] rfl) hPc (q0 := 0) rfl rfl rfl rfl hl.1 rfl (Nat.le_of_ble_eq_true rfl) ⟨Nat.le_of_ble_eq_true rfl, Nat.le_of_ble_eq_true rfl⟩ ⟨rfl, rfl⟩ ⟨Nat.le_refl _, Nat.le_refl _⟩ dX4_become_51 (fun H locs hP1 hk1 hS => ?_)
  obtain ⟨V_8, eV_8⟩ : ∃ y, y = sw 5 4 V_6 V_7 := ⟨_, rfl⟩
  have hf := nm_at hf eV_8
  have hP : va_P D vwCl (cs_X4 kA a V_8 ++ (cs_X4 kA b G)) H := by rw [eV_8]; exact zjoin hP (hDt V_6) [2, 3, 4, 5, 26, 27, 28, 29] (w0 := (cs_X1 kA (sv 2 a) (sv 5 V_6) ++ (cs_X1 kA (sv 2 b) (sv 5 G)))) rfl (Nat.le_of_ble_eq_true rfl) hk1 hP1
  refine lv_aload_n hC.1 hC.2.1 dX4_become_54 rfl (lv_at hl 0 rfl) <| gfX4_25 hC hK hP (q0 := 0) rfl rfl dX4_become_55 <| lv_aload_n hC.1 hC.2.1 dX4_become_58 rfl (lv_at hl 1 rfl) <| gfX4_25 hC hK hP (q0 := 24) rfl rfl dX4_become_59 <| ?_
  obtain ⟨V_9, hu, hf⟩ := bd_some hf
  have hPc : va_P D vwCl (cs_X3 kA (sv 6 a) (sv 9 V_8) ++ (cs_X3 kA (sv 6 b) (sv 9 G))) _ := hP.sub [6, 7, 8, 9, 10, 11, 12, 13, 14, 15, 16, 17, 30, 31, 32, 33, 34, 35, 36, 37, 38, 39, 40, 41] rfl
  have hDc : ∀ w : Sz, va_D (fun _ => True) (cs_X3 kA (sv 6 a) w ++ (cs_X3 kA (sv 6 b) (sv 9 G))) := fun w => (hDt (sw 9 12 V_8 w)).sub [6, 7, 8, 9, 10, 11, 12, 13, 14, 15, 16, 17, 30, 31, 32, 33, 34, 35, 36, 37, 38, 39, 40, 41] (by decide) rfl
  refine zcVZ (As := [.ref (b 6)]) (rest := []) hC hK (met_X3_become l D kA (sv 6 a) (sv 6 b) (sv 9 V_8) (sv 9 G) hDc hu) zwX4_72 hS (zFsub (hD V_8) [6, 7, 8, 9, 10, 11, 12, 13, 14, 15, 16, 17, 30, 31, 32, 33, 34, 35, 36, 37, 38, 39, 40, 41] rfl) hPc (q0 := 0) rfl rfl rfl rfl hl.1 rfl (Nat.le_of_ble_eq_true rfl) ⟨Nat.le_of_ble_eq_true rfl, Nat.le_of_ble_eq_true rfl⟩ ⟨rfl, rfl⟩ ⟨Nat.le_refl _, Nat.le_refl _⟩ dX4_become_62 (fun H locs hP1 hk1 hS => ?_)
  obtain ⟨V_10, eV_10⟩ : ∃ y, y = sw 9 12 V_8 V_9 := ⟨_, rfl⟩
  have hf := nm_at hf eV_10
  have hP : va_P D vwCl (cs_X4 kA a V_10 ++ (cs_X4 kA b G)) H := by rw [eV_10]; exact zjoinB (wb0 := (cs_X3 kA (sv 6 a) (sv 9 V_8))) (wb1 := (cs_X3 kA (sv 6 a) V_9)) (wo := (cs_X3 kA (sv 6 b) (sv 9 G))) hP (hDt V_8) 6 12 [6, 7, 8, 9, 10, 11, 12, 13, 14, 15, 16, 17, 30, 31, 32, 33, 34, 35, 36, 37, 38, 39, 40, 41] rfl rfl rfl rfl hk1 hP1
  refine lv_aload_n hC.1 hC.2.1 dX4_become_65 rfl (lv_at hl 0 rfl) <| gfX4_32 hC hK hP (q0 := 0) rfl rfl dX4_become_66 <| lv_aload_n hC.1 hC.2.1 dX4_become_69 rfl (lv_at hl 1 rfl) <| gfX4_32 hC hK hP (q0 := 24) rfl rfl dX4_become_70 <| ?_
  obtain ⟨V_11, hu, hf⟩ := bd_some hf
  have hPc : va_P D vwCl (cs_X0 kA (sv 18 a) (sv 21 V_10) ++ (cs_X0 kA (sv 18 b) (sv 21 G))) _ := hP.sub [18, 19, 42, 43] rfl
  have hDc : ∀ w : Sz, va_D (fun _ => True) (cs_X0 kA (sv 18 a) w ++ (cs_X0 kA (sv 18 b) (sv 21 G))) := fun w => (hDt (sw 21 2 V_10 w)).sub [18, 19, 42, 43] (by decide) rfl
  refine zcVZ (As := [.ref (b 18)]) (rest := []) hC hK (met_X0_become l D kA (sv 18 a) (sv 18 b) (sv 21 V_10) (sv 21 G) hDc hu) zwX4_75 hS (zFsub (hD V_10) [18, 19, 42, 43] rfl) hPc (q0 := 0) rfl rfl rfl rfl hl.1 rfl (Nat.le_of_ble_eq_true rfl) ⟨Nat.le_of_ble_eq_true rfl, Nat.le_of_ble_eq_true rfl⟩ ⟨rfl, rfl⟩ ⟨Nat.le_refl _, Nat.le_refl _⟩ dX4_become_73 (fun H locs hP1 hk1 hS => ?_)
  obtain ⟨V_12, eV_12⟩ : ∃ y, y = sw 21 2 V_10 V_11 := ⟨_, rfl⟩
  have hf := nm_at hf eV_12
  have hP : va_P D vwCl (cs_X4 kA a V_12 ++ (cs_X4 kA b G)) H := by rw [eV_12]; exact zjoin hP (hDt V_10) [18, 19, 42, 43] (w0 := (cs_X0 kA (sv 18 a) (sv 21 V_10) ++ (cs_X0 kA (sv 18 b) (sv 21 G)))) rfl (Nat.le_of_ble_eq_true rfl) hk1 hP1
  refine lv_aload_n hC.1 hC.2.1 dX4_become_76 rfl (lv_at hl 1 rfl) <| gfX4_36 hC hK hP (q0 := 24) rfl rfl dX4_become_77 <| lv_aload_n hC.1 hC.2.1 dX4_become_80 rfl (lv_at hl 0 rfl) <| gfX4_36 hC hK hP (q0 := 0) rfl rfl dX4_become_81 <| ?_
  obtain ⟨V_13, hu, hf⟩ := bd_some hf
  have hPc : va_P D vwCl ([((b 20), .inl (kA 0, 180, .inl (aI (G 23))))] ++ ([((a 20), .inl (kA 0, 180, .inl (aI (V_12 23))))])) _ := hP.sub [44, 20] rfl
  have hDc : ∀ w : (Nat → Int), va_D (fun _ => True) ([((b 20), .inl (kA 0, 180, .inl (aI (G 23))))] ++ ([((a 20), .inl (kA 0, 180, .inl (aI w)))])) := fun w => (hDt (uy V_12 23 w)).sub [44, 20] (by decide) rfl
  refine zcNZ (As := [.ref (b 20), .ref (a 20)]) (rest := []) hC hK (met_X7_copyRow l D kA (b 20) (a 20) 180 180 (G 23) (V_12 23) (Nat.le_of_ble_eq_true rfl) (Nat.le_of_ble_eq_true rfl) hDc hu) zwNcopy znX4_64 hS (zFsub (hD V_12) [44, 20] rfl) hPc rfl hl.1 rfl (Nat.le_of_ble_eq_true rfl) ⟨Nat.le_of_ble_eq_true rfl, Nat.le_of_ble_eq_true rfl⟩ ⟨rfl, rfl⟩ ⟨Nat.le_refl _, Nat.le_refl _⟩ dX4_become_84 (fun H locs hP1 hk1 hS => ?_)
  obtain ⟨V_14, eV_14⟩ : ∃ y, y = uy V_12 23 V_13 := ⟨_, rfl⟩
  have hf := nm_at hf eV_14
  have hP : va_P D vwCl (cs_X4 kA a V_14 ++ (cs_X4 kA b G)) H := by rw [eV_14]; exact zjoin hP (hDt V_12) [44, 20] (w0 := ([((b 20), .inl (kA 0, 180, .inl (aI (G 23))))] ++ ([((a 20), .inl (kA 0, 180, .inl (aI (V_12 23))))]))) rfl (Nat.le_of_ble_eq_true rfl) hk1 hP1
  refine lv_aload_n hC.1 hC.2.1 dX4_become_87 rfl (lv_at hl 1 rfl) <| gfX4_39 hC hK hP (q0 := 24) rfl rfl dX4_become_88 <| lv_aload_n hC.1 hC.2.1 dX4_become_91 rfl (lv_at hl 0 rfl) <| gfX4_39 hC hK hP (q0 := 0) rfl rfl dX4_become_92 <| ?_
  obtain ⟨V_15, hu, hf⟩ := bd_some hf
  have hPc : va_P D vwCl ([((b 21), .inl (kA 0, 180, .inl (aI (G 24))))] ++ ([((a 21), .inl (kA 0, 180, .inl (aI (V_14 24))))])) _ := hP.sub [45, 21] rfl
  have hDc : ∀ w : (Nat → Int), va_D (fun _ => True) ([((b 21), .inl (kA 0, 180, .inl (aI (G 24))))] ++ ([((a 21), .inl (kA 0, 180, .inl (aI w)))])) := fun w => (hDt (uy V_14 24 w)).sub [45, 21] (by decide) rfl
  refine zcNZ (As := [.ref (b 21), .ref (a 21)]) (rest := []) hC hK (met_X7_copyRow l D kA (b 21) (a 21) 180 180 (G 24) (V_14 24) (Nat.le_of_ble_eq_true rfl) (Nat.le_of_ble_eq_true rfl) hDc hu) zwNcopy znX4_64 hS (zFsub (hD V_14) [45, 21] rfl) hPc rfl hl.1 rfl (Nat.le_of_ble_eq_true rfl) ⟨Nat.le_of_ble_eq_true rfl, Nat.le_of_ble_eq_true rfl⟩ ⟨rfl, rfl⟩ ⟨Nat.le_refl _, Nat.le_refl _⟩ dX4_become_95 (fun H locs hP1 hk1 hS => ?_)
  obtain ⟨V_16, eV_16⟩ : ∃ y, y = uy V_14 24 V_15 := ⟨_, rfl⟩
  have hf := nm_at hf eV_16
  have hP : va_P D vwCl (cs_X4 kA a V_16 ++ (cs_X4 kA b G)) H := by rw [eV_16]; exact zjoin hP (hDt V_14) [45, 21] (w0 := ([((b 21), .inl (kA 0, 180, .inl (aI (G 24))))] ++ ([((a 21), .inl (kA 0, 180, .inl (aI (V_14 24))))]))) rfl (Nat.le_of_ble_eq_true rfl) hk1 hP1
  refine lv_aload_n hC.1 hC.2.1 dX4_become_98 rfl (lv_at hl 1 rfl) <| gfX4_42 hC hK hP (q0 := 24) rfl rfl dX4_become_99 <| lv_aload_n hC.1 hC.2.1 dX4_become_102 rfl (lv_at hl 0 rfl) <| gfX4_42 hC hK hP (q0 := 0) rfl rfl dX4_become_103 <| ?_
  obtain ⟨V_17, hu, hf⟩ := bd_some hf
  have hPc : va_P D vwCl ([((b 22), .inl (kA 0, 180, .inl (aI (G 25))))] ++ ([((a 22), .inl (kA 0, 180, .inl (aI (V_16 25))))])) _ := hP.sub [46, 22] rfl
  have hDc : ∀ w : (Nat → Int), va_D (fun _ => True) ([((b 22), .inl (kA 0, 180, .inl (aI (G 25))))] ++ ([((a 22), .inl (kA 0, 180, .inl (aI w)))])) := fun w => (hDt (uy V_16 25 w)).sub [46, 22] (by decide) rfl
  refine zcNZ (As := [.ref (b 22), .ref (a 22)]) (rest := []) hC hK (met_X7_copyRow l D kA (b 22) (a 22) 180 180 (G 25) (V_16 25) (Nat.le_of_ble_eq_true rfl) (Nat.le_of_ble_eq_true rfl) hDc hu) zwNcopy znX4_64 hS (zFsub (hD V_16) [46, 22] rfl) hPc rfl hl.1 rfl (Nat.le_of_ble_eq_true rfl) ⟨Nat.le_of_ble_eq_true rfl, Nat.le_of_ble_eq_true rfl⟩ ⟨rfl, rfl⟩ ⟨Nat.le_refl _, Nat.le_refl _⟩ dX4_become_106 (fun H locs hP1 hk1 hS => ?_)
  obtain ⟨V_18, eV_18⟩ : ∃ y, y = uy V_16 25 V_17 := ⟨_, rfl⟩
  have hf := nm_at hf eV_18
  have hP : va_P D vwCl (cs_X4 kA a V_18 ++ (cs_X4 kA b G)) H := by rw [eV_18]; exact zjoin hP (hDt V_16) [46, 22] (w0 := ([((b 22), .inl (kA 0, 180, .inl (aI (G 25))))] ++ ([((a 22), .inl (kA 0, 180, .inl (aI (V_16 25))))]))) rfl (Nat.le_of_ble_eq_true rfl) hk1 hP1
  have hf := Option.some.inj hf
  exact hret _ _ _ _ rfl (by rw [← hf]; exact hP) hS dX4_become_109
theorem DX4_clear_0 : ∀ q ∈ ([(0, .aload_n 0, 1), (1, .bipush 25, 2), (3, .putfield 51, 3), (6, .aload_n 0, 1), (7, .sipush 1460, 3), (10, .putfield 55, 3), (13, .aload_n 0, 1), (14, .bipush 25, 2), (16, .putfield 58, 3), (19, .aload_n 0, 1), (20, .iconst 0, 1), (21, .putfield 61, 3), (24, .aload_n 0, 1), (25, .getfield 18, 3), (28, .iconst 0, 1), (29, .putfield 78, 3), (32, .aload_n 0, 1), (33, .getfield 25, 3), (36, .iconst 0, 1), (37, .putfield 81, 3), (40, .aload_n 0, 1), (41, .getfield 32, 3), (44, .iconst 0, 1), (45, .putfield 82, 3), (48, .return_, 1)] : List (Nat × Instr × Nat)), decode cX4_clear q.1 = .ok q.2 := by decide +kernel
theorem dX4_clear_0 : decode cX4_clear 0 = .ok (.aload_n 0, 1) := DX4_clear_0 (0, .aload_n 0, 1) (List.mem_of_getElem? (i := 0) rfl)
theorem dX4_clear_1 : decode cX4_clear 1 = .ok (.bipush 25, 2) := DX4_clear_0 (1, .bipush 25, 2) (List.mem_of_getElem? (i := 1) rfl)
theorem dX4_clear_3 : decode cX4_clear 3 = .ok (.putfield 51, 3) := DX4_clear_0 (3, .putfield 51, 3) (List.mem_of_getElem? (i := 2) rfl)
theorem dX4_clear_6 : decode cX4_clear 6 = .ok (.aload_n 0, 1) := DX4_clear_0 (6, .aload_n 0, 1) (List.mem_of_getElem? (i := 3) rfl)
theorem dX4_clear_7 : decode cX4_clear 7 = .ok (.sipush 1460, 3) := DX4_clear_0 (7, .sipush 1460, 3) (List.mem_of_getElem? (i := 4) rfl)
theorem dX4_clear_10 : decode cX4_clear 10 = .ok (.putfield 55, 3) := DX4_clear_0 (10, .putfield 55, 3) (List.mem_of_getElem? (i := 5) rfl)
theorem dX4_clear_13 : decode cX4_clear 13 = .ok (.aload_n 0, 1) := DX4_clear_0 (13, .aload_n 0, 1) (List.mem_of_getElem? (i := 6) rfl)
theorem dX4_clear_14 : decode cX4_clear 14 = .ok (.bipush 25, 2) := DX4_clear_0 (14, .bipush 25, 2) (List.mem_of_getElem? (i := 7) rfl)
theorem dX4_clear_16 : decode cX4_clear 16 = .ok (.putfield 58, 3) := DX4_clear_0 (16, .putfield 58, 3) (List.mem_of_getElem? (i := 8) rfl)
theorem dX4_clear_19 : decode cX4_clear 19 = .ok (.aload_n 0, 1) := DX4_clear_0 (19, .aload_n 0, 1) (List.mem_of_getElem? (i := 9) rfl)
theorem dX4_clear_20 : decode cX4_clear 20 = .ok (.iconst 0, 1) := DX4_clear_0 (20, .iconst 0, 1) (List.mem_of_getElem? (i := 10) rfl)
theorem dX4_clear_21 : decode cX4_clear 21 = .ok (.putfield 61, 3) := DX4_clear_0 (21, .putfield 61, 3) (List.mem_of_getElem? (i := 11) rfl)
theorem dX4_clear_24 : decode cX4_clear 24 = .ok (.aload_n 0, 1) := DX4_clear_0 (24, .aload_n 0, 1) (List.mem_of_getElem? (i := 12) rfl)
theorem dX4_clear_25 : decode cX4_clear 25 = .ok (.getfield 18, 3) := DX4_clear_0 (25, .getfield 18, 3) (List.mem_of_getElem? (i := 13) rfl)
theorem dX4_clear_28 : decode cX4_clear 28 = .ok (.iconst 0, 1) := DX4_clear_0 (28, .iconst 0, 1) (List.mem_of_getElem? (i := 14) rfl)
theorem dX4_clear_29 : decode cX4_clear 29 = .ok (.putfield 78, 3) := DX4_clear_0 (29, .putfield 78, 3) (List.mem_of_getElem? (i := 15) rfl)
theorem dX4_clear_32 : decode cX4_clear 32 = .ok (.aload_n 0, 1) := DX4_clear_0 (32, .aload_n 0, 1) (List.mem_of_getElem? (i := 16) rfl)
theorem dX4_clear_33 : decode cX4_clear 33 = .ok (.getfield 25, 3) := DX4_clear_0 (33, .getfield 25, 3) (List.mem_of_getElem? (i := 17) rfl)
theorem dX4_clear_36 : decode cX4_clear 36 = .ok (.iconst 0, 1) := DX4_clear_0 (36, .iconst 0, 1) (List.mem_of_getElem? (i := 18) rfl)
theorem dX4_clear_37 : decode cX4_clear 37 = .ok (.putfield 81, 3) := DX4_clear_0 (37, .putfield 81, 3) (List.mem_of_getElem? (i := 19) rfl)
theorem dX4_clear_40 : decode cX4_clear 40 = .ok (.aload_n 0, 1) := DX4_clear_0 (40, .aload_n 0, 1) (List.mem_of_getElem? (i := 20) rfl)
theorem dX4_clear_41 : decode cX4_clear 41 = .ok (.getfield 32, 3) := DX4_clear_0 (41, .getfield 32, 3) (List.mem_of_getElem? (i := 21) rfl)
theorem dX4_clear_44 : decode cX4_clear 44 = .ok (.iconst 0, 1) := DX4_clear_0 (44, .iconst 0, 1) (List.mem_of_getElem? (i := 22) rfl)
theorem dX4_clear_45 : decode cX4_clear 45 = .ok (.putfield 82, 3) := DX4_clear_0 (45, .putfield 82, 3) (List.mem_of_getElem? (i := 23) rfl)
theorem dX4_clear_48 : decode cX4_clear 48 = .ok (.return_, 1) := DX4_clear_0 (48, .return_, 1) (List.mem_of_getElem? (i := 24) rfl)
abbrev rmX4_clear : Room := { frames := 0, cells := 0, slots := 0, locals := 0 }
set_option maxHeartbeats 400000 in
set_option maxRecDepth 100000 in
theorem met_X4_clear (l : Launch) (D : va_G) (kA : Nat → ClassId) (a : Nat → Nat) (V0 : Sz) (hDt : ∀ w : Sz, va_D (fun _ => True) (cs_X4 kA a w)) {Vr : Sz} (hf : f_X4_clear V0 = some Vr) : MZ l yX4_clear cX4_clear 1 none rmX4_clear D kA [.ref (a 0)] (cs_X4 kA a V0) (cs_X4 kA a Vr) (none) := by
  refine zZV (own := RX4) rfl rfl (Nat.le_of_ble_eq_true rfl) ?_
  intro p e s m args below meth c ls Q hC hK hP hl hret
  have hl : lv_has ls 1 [(0, .ref (a 0))] := hl
  have hS : va_S (zF (cs_X4 kA a V0)) s.heap s.heap [] := va_S.rf
  have hD := zDself (C := fun w : Sz => (cs_X4 kA a w)) hDt V0 (fun _ => rfl)
  try dsimp only at hD
  generalize hAe : zF (cs_X4 kA a V0) = A0 at hS hD hret
  unfold f_X4_clear at hf
  refine lv_aload_n hC.1 hC.2.1 dX4_clear_0 rfl (lv_at hl 0 rfl) <| zbipush hC.1 hC.2.1 dX4_clear_1 (by decide) <| ?_
  refine pfX4_51 hC hK hP (hD V0) hS (q0 := 0) rfl (Nat.le_of_ble_eq_true rfl) dX4_clear_3 (fun H locs hP hS => ?_)
  obtain ⟨V_1, eV_1⟩ : ∃ y, y = us V0 0 25 := ⟨_, rfl⟩
  have hf := nm_at hf eV_1
  have hP : va_P D vwCl (cs_X4 kA a V_1) H := by rw [eV_1]; exact hP
  refine lv_aload_n hC.1 hC.2.1 dX4_clear_6 rfl (lv_at hl 0 rfl) <| zsipush hC.1 hC.2.1 dX4_clear_7 (by decide) <| ?_
  refine pfX4_55 hC hK hP (hD V_1) hS (q0 := 0) rfl (Nat.le_of_ble_eq_true rfl) dX4_clear_10 (fun H locs hP hS => ?_)
  obtain ⟨V_2, eV_2⟩ : ∃ y, y = us V_1 1 1460 := ⟨_, rfl⟩
  have hf := nm_at hf eV_2
  have hP : va_P D vwCl (cs_X4 kA a V_2) H := by rw [eV_2]; exact hP
  refine lv_aload_n hC.1 hC.2.1 dX4_clear_13 rfl (lv_at hl 0 rfl) <| zbipush hC.1 hC.2.1 dX4_clear_14 (by decide) <| ?_
  refine pfX4_58 hC hK hP (hD V_2) hS (q0 := 0) rfl (Nat.le_of_ble_eq_true rfl) dX4_clear_16 (fun H locs hP hS => ?_)
  obtain ⟨V_3, eV_3⟩ : ∃ y, y = us V_2 2 25 := ⟨_, rfl⟩
  have hf := nm_at hf eV_3
  have hP : va_P D vwCl (cs_X4 kA a V_3) H := by rw [eV_3]; exact hP
  refine lv_aload_n hC.1 hC.2.1 dX4_clear_19 rfl (lv_at hl 0 rfl) <| ziconst hC.1 hC.2.1 dX4_clear_20 <| ?_
  refine pfX4_61 hC hK hP (hD V_3) hS (q0 := 0) rfl (Nat.le_of_ble_eq_true rfl) dX4_clear_21 (fun H locs hP hS => ?_)
  obtain ⟨V_4, eV_4⟩ : ∃ y, y = us V_3 3 0 := ⟨_, rfl⟩
  have hf := nm_at hf eV_4
  have hP : va_P D vwCl (cs_X4 kA a V_4) H := by rw [eV_4]; exact hP
  refine lv_aload_n hC.1 hC.2.1 dX4_clear_24 rfl (lv_at hl 0 rfl) <| gfX4_18 hC hK hP (q0 := 0) rfl rfl dX4_clear_25 <| ziconst hC.1 hC.2.1 dX4_clear_28 <| ?_
  refine pfX4_78 hC hK hP (hD V_4) hS (q0 := 2) rfl (Nat.le_of_ble_eq_true rfl) dX4_clear_29 (fun H locs hP hS => ?_)
  obtain ⟨V_5, eV_5⟩ : ∃ y, y = us V_4 5 0 := ⟨_, rfl⟩
  have hf := nm_at hf eV_5
  have hP : va_P D vwCl (cs_X4 kA a V_5) H := by rw [eV_5]; exact hP
  refine lv_aload_n hC.1 hC.2.1 dX4_clear_32 rfl (lv_at hl 0 rfl) <| gfX4_25 hC hK hP (q0 := 0) rfl rfl dX4_clear_33 <| ziconst hC.1 hC.2.1 dX4_clear_36 <| ?_
  refine pfX4_81 hC hK hP (hD V_5) hS (q0 := 6) rfl (Nat.le_of_ble_eq_true rfl) dX4_clear_37 (fun H locs hP hS => ?_)
  obtain ⟨V_6, eV_6⟩ : ∃ y, y = us V_5 9 0 := ⟨_, rfl⟩
  have hf := nm_at hf eV_6
  have hP : va_P D vwCl (cs_X4 kA a V_6) H := by rw [eV_6]; exact hP
  refine lv_aload_n hC.1 hC.2.1 dX4_clear_40 rfl (lv_at hl 0 rfl) <| gfX4_32 hC hK hP (q0 := 0) rfl rfl dX4_clear_41 <| ziconst hC.1 hC.2.1 dX4_clear_44 <| ?_
  refine pfX4_82 hC hK hP (hD V_6) hS (q0 := 18) rfl (Nat.le_of_ble_eq_true rfl) dX4_clear_45 (fun H locs hP hS => ?_)
  obtain ⟨V_7, eV_7⟩ : ∃ y, y = us V_6 21 0 := ⟨_, rfl⟩
  have hf := nm_at hf eV_7
  have hP : va_P D vwCl (cs_X4 kA a V_7) H := by rw [eV_7]; exact hP
  have hf := Option.some.inj hf
  exact hret _ _ _ _ rfl (by rw [← hf]; exact hP) hS dX4_clear_48
theorem DX4_addDonor_0 : ∀ q ∈ ([(0, .aload_n 0, 1), (1, .getfield 61, 3), (4, .bipush 10, 2), (6, .if_icmp .ge 23, 3), (9, .aload_n 0, 1), (10, .getfield 9, 3), (13, .aload_n 0, 1), (14, .getfield 61, 3), (17, .iload_n 1, 1), (18, .iastore, 1), (19, .aload_n 0, 1), (20, .dup, 1), (21, .getfield 61, 3), (24, .iconst 1, 1), (25, .iadd, 1), (26, .putfield 61, 3), (29, .return_, 1)] : List (Nat × Instr × Nat)), decode cX4_addDonor q.1 = .ok q.2 := by decide +kernel
theorem dX4_addDonor_0 : decode cX4_addDonor 0 = .ok (.aload_n 0, 1) := DX4_addDonor_0 (0, .aload_n 0, 1) (List.mem_of_getElem? (i := 0) rfl)
theorem dX4_addDonor_1 : decode cX4_addDonor 1 = .ok (.getfield 61, 3) := DX4_addDonor_0 (1, .getfield 61, 3) (List.mem_of_getElem? (i := 1) rfl)
theorem dX4_addDonor_4 : decode cX4_addDonor 4 = .ok (.bipush 10, 2) := DX4_addDonor_0 (4, .bipush 10, 2) (List.mem_of_getElem? (i := 2) rfl)
theorem dX4_addDonor_6 : decode cX4_addDonor 6 = .ok (.if_icmp .ge 23, 3) := DX4_addDonor_0 (6, .if_icmp .ge 23, 3) (List.mem_of_getElem? (i := 3) rfl)
theorem dX4_addDonor_9 : decode cX4_addDonor 9 = .ok (.aload_n 0, 1) := DX4_addDonor_0 (9, .aload_n 0, 1) (List.mem_of_getElem? (i := 4) rfl)
theorem dX4_addDonor_10 : decode cX4_addDonor 10 = .ok (.getfield 9, 3) := DX4_addDonor_0 (10, .getfield 9, 3) (List.mem_of_getElem? (i := 5) rfl)
theorem dX4_addDonor_13 : decode cX4_addDonor 13 = .ok (.aload_n 0, 1) := DX4_addDonor_0 (13, .aload_n 0, 1) (List.mem_of_getElem? (i := 6) rfl)
theorem dX4_addDonor_14 : decode cX4_addDonor 14 = .ok (.getfield 61, 3) := DX4_addDonor_0 (14, .getfield 61, 3) (List.mem_of_getElem? (i := 7) rfl)
theorem dX4_addDonor_17 : decode cX4_addDonor 17 = .ok (.iload_n 1, 1) := DX4_addDonor_0 (17, .iload_n 1, 1) (List.mem_of_getElem? (i := 8) rfl)
theorem dX4_addDonor_18 : decode cX4_addDonor 18 = .ok (.iastore, 1) := DX4_addDonor_0 (18, .iastore, 1) (List.mem_of_getElem? (i := 9) rfl)
theorem dX4_addDonor_19 : decode cX4_addDonor 19 = .ok (.aload_n 0, 1) := DX4_addDonor_0 (19, .aload_n 0, 1) (List.mem_of_getElem? (i := 10) rfl)
theorem dX4_addDonor_20 : decode cX4_addDonor 20 = .ok (.dup, 1) := DX4_addDonor_0 (20, .dup, 1) (List.mem_of_getElem? (i := 11) rfl)
theorem dX4_addDonor_21 : decode cX4_addDonor 21 = .ok (.getfield 61, 3) := DX4_addDonor_0 (21, .getfield 61, 3) (List.mem_of_getElem? (i := 12) rfl)
theorem dX4_addDonor_24 : decode cX4_addDonor 24 = .ok (.iconst 1, 1) := DX4_addDonor_0 (24, .iconst 1, 1) (List.mem_of_getElem? (i := 13) rfl)
theorem dX4_addDonor_25 : decode cX4_addDonor 25 = .ok (.iadd, 1) := DX4_addDonor_0 (25, .iadd, 1) (List.mem_of_getElem? (i := 14) rfl)
theorem dX4_addDonor_26 : decode cX4_addDonor 26 = .ok (.putfield 61, 3) := DX4_addDonor_0 (26, .putfield 61, 3) (List.mem_of_getElem? (i := 15) rfl)
theorem dX4_addDonor_29 : decode cX4_addDonor 29 = .ok (.return_, 1) := DX4_addDonor_0 (29, .return_, 1) (List.mem_of_getElem? (i := 16) rfl)
abbrev rmX4_addDonor : Room := { frames := 0, cells := 0, slots := 0, locals := 0 }
set_option maxHeartbeats 400000 in
set_option maxRecDepth 100000 in
theorem met_X4_addDonor (l : Launch) (D : va_G) (kA : Nat → ClassId) (a : Nat → Nat) (V0 : Sz) (x1 : Int) (hDt : ∀ w : Sz, va_D (fun _ => True) (cs_X4 kA a w)) {Vr : Sz} (hf : f_X4_addDonor V0 x1 = some Vr) : MZ l yX4_addDonor cX4_addDonor 2 none rmX4_addDonor D kA [.ref (a 0), vI x1] (cs_X4 kA a V0) (cs_X4 kA a Vr) (none) := by
  refine zZV (own := RX4) rfl rfl (Nat.le_of_ble_eq_true rfl) ?_
  intro p e s m args below meth c ls Q hC hK hP hl hret
  have hl : lv_has ls 2 [(0, .ref (a 0)), (1, vI x1)] := hl
  have hS : va_S (zF (cs_X4 kA a V0)) s.heap s.heap [] := va_S.rf
  have hD := zDself (C := fun w : Sz => (cs_X4 kA a w)) hDt V0 (fun _ => rfl)
  try dsimp only at hD
  generalize hAe : zF (cs_X4 kA a V0) = A0 at hS hD hret
  unfold f_X4_addDonor at hf
  refine lv_aload_n hC.1 hC.2.1 dX4_addDonor_0 rfl (lv_at hl 0 rfl) <| gfX4_61 hC hK hP (q0 := 0) rfl rfl dX4_addDonor_1 <| zbipush hC.1 hC.2.1 dX4_addDonor_4 (by decide) <| ?_
  obtain ⟨hz_1, hf⟩ := ck_some hf
  refine zicmp_ge (tgt := 29) hC.1 hC.2.1 ⟨hz_1, (by decide)⟩ dX4_addDonor_6 (by decide) (fun hc => ?_) (fun hc => ?_)
  · have hf := it_t hf hc
    have hf := Option.some.inj hf
    exact hret _ _ _ _ rfl (by rw [← hf]; exact hP) hS dX4_addDonor_29
  · have hf := it_f hf hc
    refine lv_aload_n hC.1 hC.2.1 dX4_addDonor_9 rfl (lv_at hl 0 rfl) <| gfX4_9 hC hK hP (q0 := 0) rfl rfl dX4_addDonor_10 <| lv_aload_n hC.1 hC.2.1 dX4_addDonor_13 rfl (lv_at hl 0 rfl) <| gfX4_61 hC hK hP (q0 := 0) rfl rfl dX4_addDonor_14 <| ziload_n hC.1 hC.2.1 dX4_addDonor_17 rfl (lv_at hl 1 rfl) <| ?_
    obtain ⟨hz_2, hf⟩ := ck_some hf
    refine jas hC hK hP (hD V0) hS (q0 := 1) rfl (Nat.le_of_ble_eq_true rfl) hz_2 rfl dX4_addDonor_18 (fun H locs hP hS => ?_)
    obtain ⟨V_3, eV_3⟩ : ∃ y, y = uz V0 4 (V0 3 0).toNat x1 := ⟨_, rfl⟩
    have hf := nm_at hf eV_3
    have hP : va_P D vwCl (cs_X4 kA a V_3) H := by rw [eV_3]; exact hP
    refine lv_aload_n hC.1 hC.2.1 dX4_addDonor_19 rfl (lv_at hl 0 rfl) <| lv_dup hC.1 hC.2.1 dX4_addDonor_20 rfl <| gfX4_61 hC hK hP (q0 := 0) rfl rfl dX4_addDonor_21 <| ziconst hC.1 hC.2.1 dX4_addDonor_24 <| ziadd hC.1 hC.2.1 dX4_addDonor_25 <| ?_
    refine pfX4_61 hC hK hP (hD V_3) hS (q0 := 0) rfl (Nat.le_of_ble_eq_true rfl) dX4_addDonor_26 (fun H locs hP hS => ?_)
    obtain ⟨V_4, eV_4⟩ : ∃ y, y = us V_3 3 ((V_3 3 0) + 1) := ⟨_, rfl⟩
    have hf := nm_at hf eV_4
    have hP : va_P D vwCl (cs_X4 kA a V_4) H := by rw [eV_4]; exact hP
    have hf := Option.some.inj hf
    exact hret _ _ _ _ rfl (by rw [← hf]; exact hP) hS dX4_addDonor_29
theorem DX4_isSpoilt_0 : ∀ q ∈ ([(0, .aload_n 0, 1), (1, .getfield 25, 3), (4, .getfield 129, 3), (7, .iload_n 1, 1), (8, .iaload, 1), (9, .bipush 100, 2), (11, .imul, 1), (12, .aload_n 0, 1), (13, .getfield 58, 3), (16, .aload_n 0, 1), (17, .getfield 25, 3), (20, .getfield 132, 3), (23, .iload_n 1, 1), (24, .iaload, 1), (25, .imul, 1), (26, .if_icmp .le 7, 3), (29, .iconst 1, 1), (30, .goto 4, 3), (33, .iconst 0, 1), (34, .ireturn, 1)] : List (Nat × Instr × Nat)), decode cX4_isSpoilt q.1 = .ok q.2 := by decide +kernel
theorem dX4_isSpoilt_0 : decode cX4_isSpoilt 0 = .ok (.aload_n 0, 1) := DX4_isSpoilt_0 (0, .aload_n 0, 1) (List.mem_of_getElem? (i := 0) rfl)
theorem dX4_isSpoilt_1 : decode cX4_isSpoilt 1 = .ok (.getfield 25, 3) := DX4_isSpoilt_0 (1, .getfield 25, 3) (List.mem_of_getElem? (i := 1) rfl)
theorem dX4_isSpoilt_4 : decode cX4_isSpoilt 4 = .ok (.getfield 129, 3) := DX4_isSpoilt_0 (4, .getfield 129, 3) (List.mem_of_getElem? (i := 2) rfl)
theorem dX4_isSpoilt_7 : decode cX4_isSpoilt 7 = .ok (.iload_n 1, 1) := DX4_isSpoilt_0 (7, .iload_n 1, 1) (List.mem_of_getElem? (i := 3) rfl)
theorem dX4_isSpoilt_8 : decode cX4_isSpoilt 8 = .ok (.iaload, 1) := DX4_isSpoilt_0 (8, .iaload, 1) (List.mem_of_getElem? (i := 4) rfl)
theorem dX4_isSpoilt_9 : decode cX4_isSpoilt 9 = .ok (.bipush 100, 2) := DX4_isSpoilt_0 (9, .bipush 100, 2) (List.mem_of_getElem? (i := 5) rfl)
theorem dX4_isSpoilt_11 : decode cX4_isSpoilt 11 = .ok (.imul, 1) := DX4_isSpoilt_0 (11, .imul, 1) (List.mem_of_getElem? (i := 6) rfl)
theorem dX4_isSpoilt_12 : decode cX4_isSpoilt 12 = .ok (.aload_n 0, 1) := DX4_isSpoilt_0 (12, .aload_n 0, 1) (List.mem_of_getElem? (i := 7) rfl)
theorem dX4_isSpoilt_13 : decode cX4_isSpoilt 13 = .ok (.getfield 58, 3) := DX4_isSpoilt_0 (13, .getfield 58, 3) (List.mem_of_getElem? (i := 8) rfl)
theorem dX4_isSpoilt_16 : decode cX4_isSpoilt 16 = .ok (.aload_n 0, 1) := DX4_isSpoilt_0 (16, .aload_n 0, 1) (List.mem_of_getElem? (i := 9) rfl)
theorem dX4_isSpoilt_17 : decode cX4_isSpoilt 17 = .ok (.getfield 25, 3) := DX4_isSpoilt_0 (17, .getfield 25, 3) (List.mem_of_getElem? (i := 10) rfl)
theorem dX4_isSpoilt_20 : decode cX4_isSpoilt 20 = .ok (.getfield 132, 3) := DX4_isSpoilt_0 (20, .getfield 132, 3) (List.mem_of_getElem? (i := 11) rfl)
theorem dX4_isSpoilt_23 : decode cX4_isSpoilt 23 = .ok (.iload_n 1, 1) := DX4_isSpoilt_0 (23, .iload_n 1, 1) (List.mem_of_getElem? (i := 12) rfl)
theorem dX4_isSpoilt_24 : decode cX4_isSpoilt 24 = .ok (.iaload, 1) := DX4_isSpoilt_0 (24, .iaload, 1) (List.mem_of_getElem? (i := 13) rfl)
theorem dX4_isSpoilt_25 : decode cX4_isSpoilt 25 = .ok (.imul, 1) := DX4_isSpoilt_0 (25, .imul, 1) (List.mem_of_getElem? (i := 14) rfl)
theorem dX4_isSpoilt_26 : decode cX4_isSpoilt 26 = .ok (.if_icmp .le 7, 3) := DX4_isSpoilt_0 (26, .if_icmp .le 7, 3) (List.mem_of_getElem? (i := 15) rfl)
theorem dX4_isSpoilt_29 : decode cX4_isSpoilt 29 = .ok (.iconst 1, 1) := DX4_isSpoilt_0 (29, .iconst 1, 1) (List.mem_of_getElem? (i := 16) rfl)
theorem dX4_isSpoilt_30 : decode cX4_isSpoilt 30 = .ok (.goto 4, 3) := DX4_isSpoilt_0 (30, .goto 4, 3) (List.mem_of_getElem? (i := 17) rfl)
theorem dX4_isSpoilt_33 : decode cX4_isSpoilt 33 = .ok (.iconst 0, 1) := DX4_isSpoilt_0 (33, .iconst 0, 1) (List.mem_of_getElem? (i := 18) rfl)
theorem dX4_isSpoilt_34 : decode cX4_isSpoilt 34 = .ok (.ireturn, 1) := DX4_isSpoilt_0 (34, .ireturn, 1) (List.mem_of_getElem? (i := 19) rfl)
abbrev rmX4_isSpoilt : Room := { frames := 0, cells := 0, slots := 0, locals := 0 }
set_option maxHeartbeats 400000 in
set_option maxRecDepth 100000 in
theorem met_X4_isSpoilt (l : Launch) (D : va_G) (kA : Nat → ClassId) (a : Nat → Nat) (V : Sz) (x1 : Int) {r : Bool} (hf : f_X4_isSpoilt V x1 = some r) : MP l yX4_isSpoilt cX4_isSpoilt 2 (some .boolean) rmX4_isSpoilt D kA [.ref (a 0), vI x1] (cs_X4 kA a V) (some (vI (bI r))) := by
  refine zPZ (own := RX4) rfl rfl (Nat.le_of_ble_eq_true rfl) ?_
  intro p e s m args below meth c ls Q hC hK hP hl hret
  have hl : lv_has ls 2 [(0, .ref (a 0)), (1, vI x1)] := hl
  unfold f_X4_isSpoilt at hf
  refine lv_aload_n hC.1 hC.2.1 dX4_isSpoilt_0 rfl (lv_at hl 0 rfl) <| gfX4_25 hC hK hP (q0 := 0) rfl rfl dX4_isSpoilt_1 <| gfX4_129 hC hK hP (q0 := 6) rfl rfl dX4_isSpoilt_4 <| ziload_n hC.1 hC.2.1 dX4_isSpoilt_7 rfl (lv_at hl 1 rfl) <| ?_
  obtain ⟨hz_1, hf⟩ := ck_some hf
  refine jal hC hK hP (q0 := 9) rfl (Nat.le_of_ble_eq_true rfl) hz_1 rfl dX4_isSpoilt_8 <| zbipush hC.1 hC.2.1 dX4_isSpoilt_9 (by decide) <| zimul hC.1 hC.2.1 dX4_isSpoilt_11 <| lv_aload_n hC.1 hC.2.1 dX4_isSpoilt_12 rfl (lv_at hl 0 rfl) <| gfX4_58 hC hK hP (q0 := 0) rfl rfl dX4_isSpoilt_13 <| lv_aload_n hC.1 hC.2.1 dX4_isSpoilt_16 rfl (lv_at hl 0 rfl) <| gfX4_25 hC hK hP (q0 := 0) rfl rfl dX4_isSpoilt_17 <| gfX4_132 hC hK hP (q0 := 6) rfl rfl dX4_isSpoilt_20 <| ziload_n hC.1 hC.2.1 dX4_isSpoilt_23 rfl (lv_at hl 1 rfl) <| jal hC hK hP (q0 := 8) rfl (Nat.le_of_ble_eq_true rfl) hz_1 rfl dX4_isSpoilt_24 <| zimul hC.1 hC.2.1 dX4_isSpoilt_25 <| ?_
  obtain ⟨hz_2, hf⟩ := ck_some hf
  refine zicmp_le (tgt := 33) hC.1 hC.2.1 ⟨hz_2.1, hz_2.2⟩ dX4_isSpoilt_26 (by decide) (fun hc => ?_) (fun hc => ?_)
  · have hf := it_t hf hc
    exact ziconst hC.1 hC.2.1 dX4_isSpoilt_33 <| hret (Int32.ofInt (bI false)) _ _ (zb01 _) (qZ hf) dX4_isSpoilt_34
  · have hf := it_f hf hc
    exact ziconst hC.1 hC.2.1 dX4_isSpoilt_29 <| lv_goto (tgt := 34) hC.1 hC.2.1 dX4_isSpoilt_30 (by decide) <| hret (Int32.ofInt (bI true)) _ _ (zb01 _) (qZ hf) dX4_isSpoilt_34
theorem DX4_fullAid_0 : ∀ q ∈ ([(0, .aload_n 0, 1), (1, .getfield 25, 3), (4, .iload_n 1, 1), (5, .invokevirtual 126, 3), (8, .aload_n 0, 1), (9, .getfield 51, 3), (12, .imul, 1), (13, .bipush 100, 2), (15, .idiv, 1), (16, .ireturn, 1)] : List (Nat × Instr × Nat)), decode cX4_fullAid q.1 = .ok q.2 := by decide +kernel
theorem dX4_fullAid_0 : decode cX4_fullAid 0 = .ok (.aload_n 0, 1) := DX4_fullAid_0 (0, .aload_n 0, 1) (List.mem_of_getElem? (i := 0) rfl)
theorem dX4_fullAid_1 : decode cX4_fullAid 1 = .ok (.getfield 25, 3) := DX4_fullAid_0 (1, .getfield 25, 3) (List.mem_of_getElem? (i := 1) rfl)
theorem dX4_fullAid_4 : decode cX4_fullAid 4 = .ok (.iload_n 1, 1) := DX4_fullAid_0 (4, .iload_n 1, 1) (List.mem_of_getElem? (i := 2) rfl)
theorem dX4_fullAid_5 : decode cX4_fullAid 5 = .ok (.invokevirtual 126, 3) := DX4_fullAid_0 (5, .invokevirtual 126, 3) (List.mem_of_getElem? (i := 3) rfl)
theorem dX4_fullAid_8 : decode cX4_fullAid 8 = .ok (.aload_n 0, 1) := DX4_fullAid_0 (8, .aload_n 0, 1) (List.mem_of_getElem? (i := 4) rfl)
theorem dX4_fullAid_9 : decode cX4_fullAid 9 = .ok (.getfield 51, 3) := DX4_fullAid_0 (9, .getfield 51, 3) (List.mem_of_getElem? (i := 5) rfl)
theorem dX4_fullAid_12 : decode cX4_fullAid 12 = .ok (.imul, 1) := DX4_fullAid_0 (12, .imul, 1) (List.mem_of_getElem? (i := 6) rfl)
theorem dX4_fullAid_13 : decode cX4_fullAid 13 = .ok (.bipush 100, 2) := DX4_fullAid_0 (13, .bipush 100, 2) (List.mem_of_getElem? (i := 7) rfl)
theorem dX4_fullAid_15 : decode cX4_fullAid 15 = .ok (.idiv, 1) := DX4_fullAid_0 (15, .idiv, 1) (List.mem_of_getElem? (i := 8) rfl)
theorem dX4_fullAid_16 : decode cX4_fullAid 16 = .ok (.ireturn, 1) := DX4_fullAid_0 (16, .ireturn, 1) (List.mem_of_getElem? (i := 9) rfl)
abbrev rmX4_fullAid : Room := { frames := 1, cells := 0, slots := 0, locals := 21 }
set_option maxHeartbeats 400000 in
set_option maxRecDepth 100000 in
theorem met_X4_fullAid (l : Launch) (D : va_G) (kA : Nat → ClassId) (a : Nat → Nat) (V : Sz) (x1 : Int) {r : Int} (hf : f_X4_fullAid V x1 = some r) : MP l yX4_fullAid cX4_fullAid 2 (some .int) rmX4_fullAid D kA [.ref (a 0), vI x1] (cs_X4 kA a V) (some (vI r)) := by
  refine zPI (own := RX4) rfl rfl (Nat.le_of_ble_eq_true rfl) ?_
  intro p e s m args below meth c ls Q hC hK hP hl hret
  have hl : lv_has ls 2 [(0, .ref (a 0)), (1, vI x1)] := hl
  unfold f_X4_fullAid at hf
  refine lv_aload_n hC.1 hC.2.1 dX4_fullAid_0 rfl (lv_at hl 0 rfl) <| gfX4_25 hC hK hP (q0 := 0) rfl rfl dX4_fullAid_1 <| ziload_n hC.1 hC.2.1 dX4_fullAid_4 rfl (lv_at hl 1 rfl) <| ?_
  obtain ⟨r_1, hu, hf⟩ := bd_some hf
  have hPc : va_P D vwCl (cs_X3 kA (sv 6 a) (sv 9 V)) _ := hP.sub [6, 7, 8, 9, 10, 11, 12, 13, 14, 15, 16, 17] rfl
  refine zcVP (As := [vI x1]) (rest := []) hC hK (met_X3_leftOfPart l D kA (sv 6 a) (sv 9 V) x1 hu) zwX4_126 hPc (q0 := 0) rfl rfl rfl rfl hl.1 rfl (Nat.le_of_ble_eq_true rfl) ⟨Nat.le_of_ble_eq_true rfl, Nat.le_of_ble_eq_true rfl⟩ ⟨rfl, rfl⟩ ⟨Nat.le_refl _, Nat.le_refl _⟩ dX4_fullAid_5 <| lv_aload_n hC.1 hC.2.1 dX4_fullAid_8 rfl (lv_at hl 0 rfl) <| gfX4_51 hC hK hP (q0 := 0) rfl rfl dX4_fullAid_9 <| zimul hC.1 hC.2.1 dX4_fullAid_12 <| zbipush hC.1 hC.2.1 dX4_fullAid_13 (by decide) <| ?_
  obtain ⟨hz_2, hf⟩ := ck_some hf
  exact zidiv hC.1 hC.2.1 ⟨hz_2.1, hz_2.2, by decide, by decide⟩ dX4_fullAid_15 <| hret (Int32.ofInt ((r_1 * (V 0 0)) / 100)) _ _ (qI hf) dX4_fullAid_16
theorem DX4_settlePart_0 : ∀ q ∈ ([(0, .aload_n 0, 1), (1, .getfield 25, 3), (4, .getfield 103, 3), (7, .iload_n 2, 1), (8, .iaload, 1), (9, .istore_n 3, 1), (10, .aload_n 0, 1), (11, .getfield 36, 3), (14, .iload_n 2, 1), (15, .aload_n 0, 1), (16, .iload_n 1, 1), (17, .invokevirtual 106, 3), (20, .ifCond .eq 7, 3), (23, .iconst 0, 1), (24, .goto 8, 3), (27, .aload_n 0, 1), (28, .iload_n 2, 1), (29, .invokevirtual 110, 3), (32, .iastore, 1), (33, .aload_n 0, 1), (34, .getfield 39, 3), (37, .iload_n 2, 1), (38, .aload_n 0, 1), (39, .getfield 18, 3), (42, .iload_n 3, 1), (43, .aload_n 0, 1), (44, .getfield 25, 3), (47, .getfield 113, 3), (50, .iload_n 1, 1), (51, .iaload, 1), (52, .invokevirtual 116, 3), (55, .ifCond .eq 12, 3), (58, .aload_n 0, 1), (59, .getfield 36, 3), (62, .iload_n 2, 1), (63, .iaload, 1), (64, .goto 4, 3), (67, .iconst 0, 1), (68, .iastore, 1), (69, .aload_n 0, 1)] : List (Nat × Instr × Nat)), decode cX4_settlePart q.1 = .ok q.2 := by decide +kernel
theorem dX4_settlePart_0 : decode cX4_settlePart 0 = .ok (.aload_n 0, 1) := DX4_settlePart_0 (0, .aload_n 0, 1) (List.mem_of_getElem? (i := 0) rfl)
theorem dX4_settlePart_1 : decode cX4_settlePart 1 = .ok (.getfield 25, 3) := DX4_settlePart_0 (1, .getfield 25, 3) (List.mem_of_getElem? (i := 1) rfl)
theorem dX4_settlePart_4 : decode cX4_settlePart 4 = .ok (.getfield 103, 3) := DX4_settlePart_0 (4, .getfield 103, 3) (List.mem_of_getElem? (i := 2) rfl)
theorem dX4_settlePart_7 : decode cX4_settlePart 7 = .ok (.iload_n 2, 1) := DX4_settlePart_0 (7, .iload_n 2, 1) (List.mem_of_getElem? (i := 3) rfl)
theorem dX4_settlePart_8 : decode cX4_settlePart 8 = .ok (.iaload, 1) := DX4_settlePart_0 (8, .iaload, 1) (List.mem_of_getElem? (i := 4) rfl)
theorem dX4_settlePart_9 : decode cX4_settlePart 9 = .ok (.istore_n 3, 1) := DX4_settlePart_0 (9, .istore_n 3, 1) (List.mem_of_getElem? (i := 5) rfl)
theorem dX4_settlePart_10 : decode cX4_settlePart 10 = .ok (.aload_n 0, 1) := DX4_settlePart_0 (10, .aload_n 0, 1) (List.mem_of_getElem? (i := 6) rfl)
theorem dX4_settlePart_11 : decode cX4_settlePart 11 = .ok (.getfield 36, 3) := DX4_settlePart_0 (11, .getfield 36, 3) (List.mem_of_getElem? (i := 7) rfl)
theorem dX4_settlePart_14 : decode cX4_settlePart 14 = .ok (.iload_n 2, 1) := DX4_settlePart_0 (14, .iload_n 2, 1) (List.mem_of_getElem? (i := 8) rfl)
theorem dX4_settlePart_15 : decode cX4_settlePart 15 = .ok (.aload_n 0, 1) := DX4_settlePart_0 (15, .aload_n 0, 1) (List.mem_of_getElem? (i := 9) rfl)
theorem dX4_settlePart_16 : decode cX4_settlePart 16 = .ok (.iload_n 1, 1) := DX4_settlePart_0 (16, .iload_n 1, 1) (List.mem_of_getElem? (i := 10) rfl)
theorem dX4_settlePart_17 : decode cX4_settlePart 17 = .ok (.invokevirtual 106, 3) := DX4_settlePart_0 (17, .invokevirtual 106, 3) (List.mem_of_getElem? (i := 11) rfl)
theorem dX4_settlePart_20 : decode cX4_settlePart 20 = .ok (.ifCond .eq 7, 3) := DX4_settlePart_0 (20, .ifCond .eq 7, 3) (List.mem_of_getElem? (i := 12) rfl)
theorem dX4_settlePart_23 : decode cX4_settlePart 23 = .ok (.iconst 0, 1) := DX4_settlePart_0 (23, .iconst 0, 1) (List.mem_of_getElem? (i := 13) rfl)
theorem dX4_settlePart_24 : decode cX4_settlePart 24 = .ok (.goto 8, 3) := DX4_settlePart_0 (24, .goto 8, 3) (List.mem_of_getElem? (i := 14) rfl)
theorem dX4_settlePart_27 : decode cX4_settlePart 27 = .ok (.aload_n 0, 1) := DX4_settlePart_0 (27, .aload_n 0, 1) (List.mem_of_getElem? (i := 15) rfl)
theorem dX4_settlePart_28 : decode cX4_settlePart 28 = .ok (.iload_n 2, 1) := DX4_settlePart_0 (28, .iload_n 2, 1) (List.mem_of_getElem? (i := 16) rfl)
theorem dX4_settlePart_29 : decode cX4_settlePart 29 = .ok (.invokevirtual 110, 3) := DX4_settlePart_0 (29, .invokevirtual 110, 3) (List.mem_of_getElem? (i := 17) rfl)
theorem dX4_settlePart_32 : decode cX4_settlePart 32 = .ok (.iastore, 1) := DX4_settlePart_0 (32, .iastore, 1) (List.mem_of_getElem? (i := 18) rfl)
theorem dX4_settlePart_33 : decode cX4_settlePart 33 = .ok (.aload_n 0, 1) := DX4_settlePart_0 (33, .aload_n 0, 1) (List.mem_of_getElem? (i := 19) rfl)
theorem dX4_settlePart_34 : decode cX4_settlePart 34 = .ok (.getfield 39, 3) := DX4_settlePart_0 (34, .getfield 39, 3) (List.mem_of_getElem? (i := 20) rfl)
theorem dX4_settlePart_37 : decode cX4_settlePart 37 = .ok (.iload_n 2, 1) := DX4_settlePart_0 (37, .iload_n 2, 1) (List.mem_of_getElem? (i := 21) rfl)
theorem dX4_settlePart_38 : decode cX4_settlePart 38 = .ok (.aload_n 0, 1) := DX4_settlePart_0 (38, .aload_n 0, 1) (List.mem_of_getElem? (i := 22) rfl)
theorem dX4_settlePart_39 : decode cX4_settlePart 39 = .ok (.getfield 18, 3) := DX4_settlePart_0 (39, .getfield 18, 3) (List.mem_of_getElem? (i := 23) rfl)
theorem dX4_settlePart_42 : decode cX4_settlePart 42 = .ok (.iload_n 3, 1) := DX4_settlePart_0 (42, .iload_n 3, 1) (List.mem_of_getElem? (i := 24) rfl)
theorem dX4_settlePart_43 : decode cX4_settlePart 43 = .ok (.aload_n 0, 1) := DX4_settlePart_0 (43, .aload_n 0, 1) (List.mem_of_getElem? (i := 25) rfl)
theorem dX4_settlePart_44 : decode cX4_settlePart 44 = .ok (.getfield 25, 3) := DX4_settlePart_0 (44, .getfield 25, 3) (List.mem_of_getElem? (i := 26) rfl)
theorem dX4_settlePart_47 : decode cX4_settlePart 47 = .ok (.getfield 113, 3) := DX4_settlePart_0 (47, .getfield 113, 3) (List.mem_of_getElem? (i := 27) rfl)
theorem dX4_settlePart_50 : decode cX4_settlePart 50 = .ok (.iload_n 1, 1) := DX4_settlePart_0 (50, .iload_n 1, 1) (List.mem_of_getElem? (i := 28) rfl)
theorem dX4_settlePart_51 : decode cX4_settlePart 51 = .ok (.iaload, 1) := DX4_settlePart_0 (51, .iaload, 1) (List.mem_of_getElem? (i := 29) rfl)
theorem dX4_settlePart_52 : decode cX4_settlePart 52 = .ok (.invokevirtual 116, 3) := DX4_settlePart_0 (52, .invokevirtual 116, 3) (List.mem_of_getElem? (i := 30) rfl)
theorem dX4_settlePart_55 : decode cX4_settlePart 55 = .ok (.ifCond .eq 12, 3) := DX4_settlePart_0 (55, .ifCond .eq 12, 3) (List.mem_of_getElem? (i := 31) rfl)
theorem dX4_settlePart_58 : decode cX4_settlePart 58 = .ok (.aload_n 0, 1) := DX4_settlePart_0 (58, .aload_n 0, 1) (List.mem_of_getElem? (i := 32) rfl)
theorem dX4_settlePart_59 : decode cX4_settlePart 59 = .ok (.getfield 36, 3) := DX4_settlePart_0 (59, .getfield 36, 3) (List.mem_of_getElem? (i := 33) rfl)
theorem dX4_settlePart_62 : decode cX4_settlePart 62 = .ok (.iload_n 2, 1) := DX4_settlePart_0 (62, .iload_n 2, 1) (List.mem_of_getElem? (i := 34) rfl)
theorem dX4_settlePart_63 : decode cX4_settlePart 63 = .ok (.iaload, 1) := DX4_settlePart_0 (63, .iaload, 1) (List.mem_of_getElem? (i := 35) rfl)
theorem dX4_settlePart_64 : decode cX4_settlePart 64 = .ok (.goto 4, 3) := DX4_settlePart_0 (64, .goto 4, 3) (List.mem_of_getElem? (i := 36) rfl)
theorem dX4_settlePart_67 : decode cX4_settlePart 67 = .ok (.iconst 0, 1) := DX4_settlePart_0 (67, .iconst 0, 1) (List.mem_of_getElem? (i := 37) rfl)
theorem dX4_settlePart_68 : decode cX4_settlePart 68 = .ok (.iastore, 1) := DX4_settlePart_0 (68, .iastore, 1) (List.mem_of_getElem? (i := 38) rfl)
theorem dX4_settlePart_69 : decode cX4_settlePart 69 = .ok (.aload_n 0, 1) := DX4_settlePart_0 (69, .aload_n 0, 1) (List.mem_of_getElem? (i := 39) rfl)
theorem DX4_settlePart_1 : ∀ q ∈ ([(70, .getfield 42, 3), (73, .iload_n 2, 1), (74, .aload_n 0, 1), (75, .getfield 39, 3), (78, .iload_n 2, 1), (79, .iaload, 1), (80, .aload_n 0, 1), (81, .getfield 9, 3), (84, .iload_n 3, 1), (85, .iaload, 1), (86, .aload_n 0, 1), (87, .getfield 45, 3), (90, .iload_n 3, 1), (91, .iaload, 1), (92, .isub, 1), (93, .invokestatic 120, 3), (96, .iastore, 1), (97, .aload_n 0, 1), (98, .getfield 45, 3), (101, .iload_n 3, 1), (102, .dup2, 1), (103, .iaload, 1), (104, .aload_n 0, 1), (105, .getfield 42, 3), (108, .iload_n 2, 1), (109, .iaload, 1), (110, .iadd, 1), (111, .iastore, 1), (112, .return_, 1)] : List (Nat × Instr × Nat)), decode cX4_settlePart q.1 = .ok q.2 := by decide +kernel
theorem dX4_settlePart_70 : decode cX4_settlePart 70 = .ok (.getfield 42, 3) := DX4_settlePart_1 (70, .getfield 42, 3) (List.mem_of_getElem? (i := 0) rfl)
theorem dX4_settlePart_73 : decode cX4_settlePart 73 = .ok (.iload_n 2, 1) := DX4_settlePart_1 (73, .iload_n 2, 1) (List.mem_of_getElem? (i := 1) rfl)
theorem dX4_settlePart_74 : decode cX4_settlePart 74 = .ok (.aload_n 0, 1) := DX4_settlePart_1 (74, .aload_n 0, 1) (List.mem_of_getElem? (i := 2) rfl)
theorem dX4_settlePart_75 : decode cX4_settlePart 75 = .ok (.getfield 39, 3) := DX4_settlePart_1 (75, .getfield 39, 3) (List.mem_of_getElem? (i := 3) rfl)
theorem dX4_settlePart_78 : decode cX4_settlePart 78 = .ok (.iload_n 2, 1) := DX4_settlePart_1 (78, .iload_n 2, 1) (List.mem_of_getElem? (i := 4) rfl)
theorem dX4_settlePart_79 : decode cX4_settlePart 79 = .ok (.iaload, 1) := DX4_settlePart_1 (79, .iaload, 1) (List.mem_of_getElem? (i := 5) rfl)
theorem dX4_settlePart_80 : decode cX4_settlePart 80 = .ok (.aload_n 0, 1) := DX4_settlePart_1 (80, .aload_n 0, 1) (List.mem_of_getElem? (i := 6) rfl)
theorem dX4_settlePart_81 : decode cX4_settlePart 81 = .ok (.getfield 9, 3) := DX4_settlePart_1 (81, .getfield 9, 3) (List.mem_of_getElem? (i := 7) rfl)
theorem dX4_settlePart_84 : decode cX4_settlePart 84 = .ok (.iload_n 3, 1) := DX4_settlePart_1 (84, .iload_n 3, 1) (List.mem_of_getElem? (i := 8) rfl)
theorem dX4_settlePart_85 : decode cX4_settlePart 85 = .ok (.iaload, 1) := DX4_settlePart_1 (85, .iaload, 1) (List.mem_of_getElem? (i := 9) rfl)
theorem dX4_settlePart_86 : decode cX4_settlePart 86 = .ok (.aload_n 0, 1) := DX4_settlePart_1 (86, .aload_n 0, 1) (List.mem_of_getElem? (i := 10) rfl)
theorem dX4_settlePart_87 : decode cX4_settlePart 87 = .ok (.getfield 45, 3) := DX4_settlePart_1 (87, .getfield 45, 3) (List.mem_of_getElem? (i := 11) rfl)
theorem dX4_settlePart_90 : decode cX4_settlePart 90 = .ok (.iload_n 3, 1) := DX4_settlePart_1 (90, .iload_n 3, 1) (List.mem_of_getElem? (i := 12) rfl)
theorem dX4_settlePart_91 : decode cX4_settlePart 91 = .ok (.iaload, 1) := DX4_settlePart_1 (91, .iaload, 1) (List.mem_of_getElem? (i := 13) rfl)
theorem dX4_settlePart_92 : decode cX4_settlePart 92 = .ok (.isub, 1) := DX4_settlePart_1 (92, .isub, 1) (List.mem_of_getElem? (i := 14) rfl)
theorem dX4_settlePart_93 : decode cX4_settlePart 93 = .ok (.invokestatic 120, 3) := DX4_settlePart_1 (93, .invokestatic 120, 3) (List.mem_of_getElem? (i := 15) rfl)
theorem dX4_settlePart_96 : decode cX4_settlePart 96 = .ok (.iastore, 1) := DX4_settlePart_1 (96, .iastore, 1) (List.mem_of_getElem? (i := 16) rfl)
theorem dX4_settlePart_97 : decode cX4_settlePart 97 = .ok (.aload_n 0, 1) := DX4_settlePart_1 (97, .aload_n 0, 1) (List.mem_of_getElem? (i := 17) rfl)
theorem dX4_settlePart_98 : decode cX4_settlePart 98 = .ok (.getfield 45, 3) := DX4_settlePart_1 (98, .getfield 45, 3) (List.mem_of_getElem? (i := 18) rfl)
theorem dX4_settlePart_101 : decode cX4_settlePart 101 = .ok (.iload_n 3, 1) := DX4_settlePart_1 (101, .iload_n 3, 1) (List.mem_of_getElem? (i := 19) rfl)
theorem dX4_settlePart_102 : decode cX4_settlePart 102 = .ok (.dup2, 1) := DX4_settlePart_1 (102, .dup2, 1) (List.mem_of_getElem? (i := 20) rfl)
theorem dX4_settlePart_103 : decode cX4_settlePart 103 = .ok (.iaload, 1) := DX4_settlePart_1 (103, .iaload, 1) (List.mem_of_getElem? (i := 21) rfl)
theorem dX4_settlePart_104 : decode cX4_settlePart 104 = .ok (.aload_n 0, 1) := DX4_settlePart_1 (104, .aload_n 0, 1) (List.mem_of_getElem? (i := 22) rfl)
theorem dX4_settlePart_105 : decode cX4_settlePart 105 = .ok (.getfield 42, 3) := DX4_settlePart_1 (105, .getfield 42, 3) (List.mem_of_getElem? (i := 23) rfl)
theorem dX4_settlePart_108 : decode cX4_settlePart 108 = .ok (.iload_n 2, 1) := DX4_settlePart_1 (108, .iload_n 2, 1) (List.mem_of_getElem? (i := 24) rfl)
theorem dX4_settlePart_109 : decode cX4_settlePart 109 = .ok (.iaload, 1) := DX4_settlePart_1 (109, .iaload, 1) (List.mem_of_getElem? (i := 25) rfl)
theorem dX4_settlePart_110 : decode cX4_settlePart 110 = .ok (.iadd, 1) := DX4_settlePart_1 (110, .iadd, 1) (List.mem_of_getElem? (i := 26) rfl)
theorem dX4_settlePart_111 : decode cX4_settlePart 111 = .ok (.iastore, 1) := DX4_settlePart_1 (111, .iastore, 1) (List.mem_of_getElem? (i := 27) rfl)
theorem dX4_settlePart_112 : decode cX4_settlePart 112 = .ok (.return_, 1) := DX4_settlePart_1 (112, .return_, 1) (List.mem_of_getElem? (i := 28) rfl)
abbrev rmX4_settlePart : Room := { frames := 2, cells := 0, slots := 0, locals := 60 }
set_option maxHeartbeats 400000 in
set_option maxRecDepth 100000 in
theorem met_X4_settlePart (l : Launch) (D : va_G) (kA : Nat → ClassId) (a : Nat → Nat) (n : Nat) (V0 : Sz) (x1 : Int) (x2 : Int) (hDt : ∀ w : Sz, va_D (fun _ => True) (cs_X4 kA a w)) {Vr : Sz} (hf : f_X4_settlePart n V0 x1 x2 = some Vr) : MZ l yX4_settlePart cX4_settlePart 4 none rmX4_settlePart D kA [.ref (a 0), vI x1, vI x2] (cs_X4 kA a V0) (cs_X4 kA a Vr) (none) := by
  refine zZV (own := RX4) rfl rfl (Nat.le_of_ble_eq_true rfl) ?_
  intro p e s m args below meth c ls Q hC hK hP hl hret
  have hl : lv_has ls 4 [(0, .ref (a 0)), (1, vI x1), (2, vI x2)] := hl
  have hS : va_S (zF (cs_X4 kA a V0)) s.heap s.heap [] := va_S.rf
  have hD := zDself (C := fun w : Sz => (cs_X4 kA a w)) hDt V0 (fun _ => rfl)
  try dsimp only at hD
  generalize hAe : zF (cs_X4 kA a V0) = A0 at hS hD hret
  unfold f_X4_settlePart at hf
  have J68 : ∀ (y3 : Int) (V : Sz) (z0 : Int) (z1 : Int) (H : Heap) (locs : List Loc) (ls : Array Slot), jX4_settlePart_68 n x1 x2 y3 V z0 z1 = some Vr → va_P D vwCl (cs_X4 kA a V) H → va_S A0 s.heap H locs → lv_has ls 4 [(0, .ref (a 0)), (2, vI x2), (3, vI y3)] → W p l e rmX4_settlePart s m args below meth c H locs 0 0 Q (F0 m 68 ls [vI z0, vI z1, .ref (a 21)]) := by
    intro y3 V z0 z1 H locs ls hf hP hS hl
    unfold jX4_settlePart_68 at hf
    obtain ⟨hz_9, hf⟩ := ck_some hf
    refine jas hC hK hP (hD V) hS (q0 := 21) rfl (Nat.le_of_ble_eq_true rfl) hz_9 rfl dX4_settlePart_68 (fun H locs hP hS => ?_)
    obtain ⟨V_10, eV_10⟩ : ∃ y, y = uz V 24 z1.toNat z0 := ⟨_, rfl⟩
    have hf := nm_at hf eV_10
    have hP : va_P D vwCl (cs_X4 kA a V_10) H := by rw [eV_10]; exact hP
    refine lv_aload_n hC.1 hC.2.1 dX4_settlePart_69 rfl (lv_at hl 0 rfl) <| gfX4_42 hC hK hP (q0 := 0) rfl rfl dX4_settlePart_70 <| ziload_n hC.1 hC.2.1 dX4_settlePart_73 rfl (lv_at hl 1 rfl) <| lv_aload_n hC.1 hC.2.1 dX4_settlePart_74 rfl (lv_at hl 0 rfl) <| gfX4_39 hC hK hP (q0 := 0) rfl rfl dX4_settlePart_75 <| ziload_n hC.1 hC.2.1 dX4_settlePart_78 rfl (lv_at hl 1 rfl) <| ?_
    obtain ⟨hz_11, hf⟩ := ck_some hf
    refine jal hC hK hP (q0 := 21) rfl (Nat.le_of_ble_eq_true rfl) hz_11 rfl dX4_settlePart_79 <| lv_aload_n hC.1 hC.2.1 dX4_settlePart_80 rfl (lv_at hl 0 rfl) <| gfX4_9 hC hK hP (q0 := 0) rfl rfl dX4_settlePart_81 <| ziload_n hC.1 hC.2.1 dX4_settlePart_84 rfl (lv_at hl 2 rfl) <| ?_
    obtain ⟨hz_12, hf⟩ := ck_some hf
    refine jal hC hK hP (q0 := 1) rfl (Nat.le_of_ble_eq_true rfl) hz_12 rfl dX4_settlePart_85 <| lv_aload_n hC.1 hC.2.1 dX4_settlePart_86 rfl (lv_at hl 0 rfl) <| gfX4_45 hC hK hP (q0 := 0) rfl rfl dX4_settlePart_87 <| ziload_n hC.1 hC.2.1 dX4_settlePart_90 rfl (lv_at hl 2 rfl) <| jal hC hK hP (q0 := 23) rfl (Nat.le_of_ble_eq_true rfl) hz_12 rfl dX4_settlePart_91 <| zisub hC.1 hC.2.1 dX4_settlePart_92 <| ?_
    obtain ⟨hz_13, hf⟩ := ck_some hf
    refine jmin ⟨hz_13.1, hz_13.2⟩ hC qw_484 hl.1 (Nat.le_of_ble_eq_true rfl) ⟨Nat.le_of_ble_eq_true rfl, Nat.le_of_ble_eq_true rfl⟩ ⟨Nat.le_refl _, Nat.le_refl _⟩ dX4_settlePart_93 <| ?_
    refine jas hC hK hP (hD V_10) hS (q0 := 22) rfl (Nat.le_of_ble_eq_true rfl) hz_11 rfl dX4_settlePart_96 (fun H locs hP hS => ?_)
    obtain ⟨V_14, eV_14⟩ : ∃ y, y = uz V_10 25 x2.toNat (min (V_10 24 x2.toNat) ((V_10 4 y3.toNat) - (V_10 26 y3.toNat))) := ⟨_, rfl⟩
    have hf := nm_at hf eV_14
    have hP : va_P D vwCl (cs_X4 kA a V_14) H := by rw [eV_14]; exact hP
    refine lv_aload_n hC.1 hC.2.1 dX4_settlePart_97 rfl (lv_at hl 0 rfl) <| gfX4_45 hC hK hP (q0 := 0) rfl rfl dX4_settlePart_98 <| ziload_n hC.1 hC.2.1 dX4_settlePart_101 rfl (lv_at hl 2 rfl) <| lv_dup2_11 hC.1 hC.2.1 dX4_settlePart_102 rfl rfl <| jal hC hK hP (q0 := 23) rfl (Nat.le_of_ble_eq_true rfl) hz_12 rfl dX4_settlePart_103 <| lv_aload_n hC.1 hC.2.1 dX4_settlePart_104 rfl (lv_at hl 0 rfl) <| gfX4_42 hC hK hP (q0 := 0) rfl rfl dX4_settlePart_105 <| ziload_n hC.1 hC.2.1 dX4_settlePart_108 rfl (lv_at hl 1 rfl) <| jal hC hK hP (q0 := 22) rfl (Nat.le_of_ble_eq_true rfl) hz_11 rfl dX4_settlePart_109 <| ziadd hC.1 hC.2.1 dX4_settlePart_110 <| ?_
    refine jas hC hK hP (hD V_14) hS (q0 := 23) rfl (Nat.le_of_ble_eq_true rfl) hz_12 rfl dX4_settlePart_111 (fun H locs hP hS => ?_)
    obtain ⟨V_15, eV_15⟩ : ∃ y, y = uz V_14 26 y3.toNat ((V_14 26 y3.toNat) + (V_14 25 x2.toNat)) := ⟨_, rfl⟩
    have hf := nm_at hf eV_15
    have hP : va_P D vwCl (cs_X4 kA a V_15) H := by rw [eV_15]; exact hP
    have hf := Option.some.inj hf
    exact hret _ _ _ _ rfl (by rw [← hf]; exact hP) hS dX4_settlePart_112
  have J32 : ∀ (y3 : Int) (V : Sz) (z0 : Int) (z1 : Int) (H : Heap) (locs : List Loc) (ls : Array Slot), jX4_settlePart_32 n x1 x2 y3 V z0 z1 = some Vr → va_P D vwCl (cs_X4 kA a V) H → va_S A0 s.heap H locs → lv_has ls 4 [(0, .ref (a 0)), (1, vI x1), (2, vI x2), (3, vI y3)] → W p l e rmX4_settlePart s m args below meth c H locs 0 0 Q (F0 m 32 ls [vI z0, vI z1, .ref (a 20)]) := by
    intro y3 V z0 z1 H locs ls hf hP hS hl
    unfold jX4_settlePart_32 at hf
    obtain ⟨hz_5, hf⟩ := ck_some hf
    refine jas hC hK hP (hD V) hS (q0 := 20) rfl (Nat.le_of_ble_eq_true rfl) hz_5 rfl dX4_settlePart_32 (fun H locs hP hS => ?_)
    obtain ⟨V_6, eV_6⟩ : ∃ y, y = uz V 23 z1.toNat z0 := ⟨_, rfl⟩
    have hf := nm_at hf eV_6
    have hP : va_P D vwCl (cs_X4 kA a V_6) H := by rw [eV_6]; exact hP
    refine lv_aload_n hC.1 hC.2.1 dX4_settlePart_33 rfl (lv_at hl 0 rfl) <| gfX4_39 hC hK hP (q0 := 0) rfl rfl dX4_settlePart_34 <| ziload_n hC.1 hC.2.1 dX4_settlePart_37 rfl (lv_at hl 2 rfl) <| lv_aload_n hC.1 hC.2.1 dX4_settlePart_38 rfl (lv_at hl 0 rfl) <| gfX4_18 hC hK hP (q0 := 0) rfl rfl dX4_settlePart_39 <| ziload_n hC.1 hC.2.1 dX4_settlePart_42 rfl (lv_at hl 3 rfl) <| lv_aload_n hC.1 hC.2.1 dX4_settlePart_43 rfl (lv_at hl 0 rfl) <| gfX4_25 hC hK hP (q0 := 0) rfl rfl dX4_settlePart_44 <| gfX4_113 hC hK hP (q0 := 6) rfl rfl dX4_settlePart_47 <| ziload_n hC.1 hC.2.1 dX4_settlePart_50 rfl (lv_at hl 1 rfl) <| ?_
    obtain ⟨hz_7, hf⟩ := ck_some hf
    refine jal hC hK hP (q0 := 7) rfl (Nat.le_of_ble_eq_true rfl) hz_7 rfl dX4_settlePart_51 <| ?_
    obtain ⟨r_8, hu, hf⟩ := bd_some hf
    have hPc : va_P D vwCl (cs_X1 kA (sv 2 a) (sv 5 V_6)) _ := hP.sub [2, 3, 4, 5] rfl
    refine zcVP (As := [vI y3, vI (V_6 10 x1.toNat)]) (rest := [vI x2, .ref (a 21)]) hC hK (met_X1_covers l D kA (sv 2 a) n (sv 5 V_6) y3 (V_6 10 x1.toNat) hu) zwX4_116 hPc (q0 := 0) rfl rfl rfl rfl hl.1 rfl (Nat.le_of_ble_eq_true rfl) ⟨Nat.le_of_ble_eq_true rfl, Nat.le_of_ble_eq_true rfl⟩ ⟨rfl, rfl⟩ ⟨Nat.le_refl _, Nat.le_refl _⟩ dX4_settlePart_52 <| zifb_eq (tgt := 67) hC.1 hC.2.1 dX4_settlePart_55 (by decide) (fun hc => ?_) (fun hc => ?_)
    · have hf := it_t hf hc
      exact ziconst hC.1 hC.2.1 dX4_settlePart_67 <| J68 _ _ _ _ _ _ _ hf hP hS (lv_sub hl [0, 2, 3] rfl)
    · have hf := it_f hf hc
      refine lv_aload_n hC.1 hC.2.1 dX4_settlePart_58 rfl (lv_at hl 0 rfl) <| gfX4_36 hC hK hP (q0 := 0) rfl rfl dX4_settlePart_59 <| ziload_n hC.1 hC.2.1 dX4_settlePart_62 rfl (lv_at hl 2 rfl) <| ?_
      obtain ⟨hz_16, hf⟩ := ck_some hf
      exact jal hC hK hP (q0 := 20) rfl (Nat.le_of_ble_eq_true rfl) hz_16 rfl dX4_settlePart_63 <| lv_goto (tgt := 68) hC.1 hC.2.1 dX4_settlePart_64 (by decide) <| J68 _ _ _ _ _ _ _ hf hP hS (lv_sub hl [0, 2, 3] rfl)
  refine lv_aload_n hC.1 hC.2.1 dX4_settlePart_0 rfl (lv_at hl 0 rfl) <| gfX4_25 hC hK hP (q0 := 0) rfl rfl dX4_settlePart_1 <| gfX4_103 hC hK hP (q0 := 6) rfl rfl dX4_settlePart_4 <| ziload_n hC.1 hC.2.1 dX4_settlePart_7 rfl (lv_at hl 2 rfl) <| ?_
  obtain ⟨hz_1, hf⟩ := ck_some hf
  refine jal hC hK hP (q0 := 13) rfl (Nat.le_of_ble_eq_true rfl) hz_1 rfl dX4_settlePart_8 <| ?_
  refine ztopi (fun x_2 ex_2 => ?_)
  have hf := nm_at hf ex_2
  refine zistore_n (lv' := [(3, vI x_2), (0, .ref (a 0)), (1, vI x1), (2, vI x2)]) hC.1 hC.2.1 dX4_settlePart_9 rfl hl (by decide) rfl (fun ls hl => ?_)
  refine lv_aload_n hC.1 hC.2.1 dX4_settlePart_10 rfl (lv_at hl 1 rfl) <| gfX4_36 hC hK hP (q0 := 0) rfl rfl dX4_settlePart_11 <| ziload_n hC.1 hC.2.1 dX4_settlePart_14 rfl (lv_at hl 3 rfl) <| lv_aload_n hC.1 hC.2.1 dX4_settlePart_15 rfl (lv_at hl 1 rfl) <| ziload_n hC.1 hC.2.1 dX4_settlePart_16 rfl (lv_at hl 2 rfl) <| ?_
  obtain ⟨r_3, hu, hf⟩ := bd_some hf
  refine zcVP (As := [vI x1]) (rest := [vI x2, .ref (a 20)]) hC hK (met_X4_isSpoilt l D kA a V0 x1 hu) zwX4_106 hP (q0 := 0) rfl rfl rfl rfl hl.1 rfl (Nat.le_of_ble_eq_true rfl) ⟨Nat.le_of_ble_eq_true rfl, Nat.le_of_ble_eq_true rfl⟩ ⟨rfl, rfl⟩ ⟨Nat.le_refl _, Nat.le_refl _⟩ dX4_settlePart_17 <| zifb_eq (tgt := 27) hC.1 hC.2.1 dX4_settlePart_20 (by decide) (fun hc => ?_) (fun hc => ?_)
  · have hf := it_t hf hc
    refine lv_aload_n hC.1 hC.2.1 dX4_settlePart_27 rfl (lv_at hl 1 rfl) <| ziload_n hC.1 hC.2.1 dX4_settlePart_28 rfl (lv_at hl 3 rfl) <| ?_
    obtain ⟨r_4, hu, hf⟩ := bd_some hf
    exact zcVP (As := [vI x2]) (rest := [vI x2, .ref (a 20)]) hC hK (met_X4_fullAid l D kA a V0 x2 hu) zwX4_110 hP (q0 := 0) rfl rfl rfl rfl hl.1 rfl (Nat.le_of_ble_eq_true rfl) ⟨Nat.le_of_ble_eq_true rfl, Nat.le_of_ble_eq_true rfl⟩ ⟨rfl, rfl⟩ ⟨Nat.le_refl _, Nat.le_refl _⟩ dX4_settlePart_29 <| J32 _ _ _ _ _ _ _ hf hP hS (lv_sub hl [1, 2, 3, 0] rfl)
  · have hf := it_f hf hc
    exact ziconst hC.1 hC.2.1 dX4_settlePart_23 <| lv_goto (tgt := 32) hC.1 hC.2.1 dX4_settlePart_24 (by decide) <| J32 _ _ _ _ _ _ _ hf hP hS (lv_sub hl [1, 2, 3, 0] rfl)
theorem DX4_settle_0 : ∀ q ∈ ([(0, .iconst (-1), 1), (1, .istore_n 1, 1), (2, .iconst 0, 1), (3, .istore_n 2, 1), (4, .iload_n 2, 1), (5, .aload_n 0, 1), (6, .getfield 25, 3), (9, .getfield 81, 3), (12, .if_icmp .ge 82, 3), (15, .aload_n 0, 1), (16, .getfield 25, 3), (19, .getfield 83, 3), (22, .iload_n 2, 1), (23, .iaload, 1), (24, .istore_n 3, 1), (25, .aload_n 0, 1), (26, .getfield 25, 3), (29, .iload_n 3, 1), (30, .invokevirtual 86, 3), (33, .iload_n 1, 1), (34, .if_icmp .eq 20, 3), (37, .aload_n 0, 1), (38, .getfield 25, 3), (41, .iload_n 3, 1), (42, .invokevirtual 86, 3), (45, .istore_n 1, 1), (46, .aload_n 0, 1), (47, .getfield 45, 3), (50, .iconst 0, 1), (51, .invokestatic 90, 3), (54, .iconst 0, 1), (55, .istore 4, 2), (57, .iload 4, 2), (59, .aload_n 0, 1), (60, .getfield 25, 3), (63, .getfield 96, 3), (66, .iload_n 3, 1), (67, .iaload, 1), (68, .if_icmp .ge 20, 3), (71, .aload_n 0, 1)] : List (Nat × Instr × Nat)), decode cX4_settle q.1 = .ok q.2 := by decide +kernel
theorem dX4_settle_0 : decode cX4_settle 0 = .ok (.iconst (-1), 1) := DX4_settle_0 (0, .iconst (-1), 1) (List.mem_of_getElem? (i := 0) rfl)
theorem dX4_settle_1 : decode cX4_settle 1 = .ok (.istore_n 1, 1) := DX4_settle_0 (1, .istore_n 1, 1) (List.mem_of_getElem? (i := 1) rfl)
theorem dX4_settle_2 : decode cX4_settle 2 = .ok (.iconst 0, 1) := DX4_settle_0 (2, .iconst 0, 1) (List.mem_of_getElem? (i := 2) rfl)
theorem dX4_settle_3 : decode cX4_settle 3 = .ok (.istore_n 2, 1) := DX4_settle_0 (3, .istore_n 2, 1) (List.mem_of_getElem? (i := 3) rfl)
theorem dX4_settle_4 : decode cX4_settle 4 = .ok (.iload_n 2, 1) := DX4_settle_0 (4, .iload_n 2, 1) (List.mem_of_getElem? (i := 4) rfl)
theorem dX4_settle_5 : decode cX4_settle 5 = .ok (.aload_n 0, 1) := DX4_settle_0 (5, .aload_n 0, 1) (List.mem_of_getElem? (i := 5) rfl)
theorem dX4_settle_6 : decode cX4_settle 6 = .ok (.getfield 25, 3) := DX4_settle_0 (6, .getfield 25, 3) (List.mem_of_getElem? (i := 6) rfl)
theorem dX4_settle_9 : decode cX4_settle 9 = .ok (.getfield 81, 3) := DX4_settle_0 (9, .getfield 81, 3) (List.mem_of_getElem? (i := 7) rfl)
theorem dX4_settle_12 : decode cX4_settle 12 = .ok (.if_icmp .ge 82, 3) := DX4_settle_0 (12, .if_icmp .ge 82, 3) (List.mem_of_getElem? (i := 8) rfl)
theorem dX4_settle_15 : decode cX4_settle 15 = .ok (.aload_n 0, 1) := DX4_settle_0 (15, .aload_n 0, 1) (List.mem_of_getElem? (i := 9) rfl)
theorem dX4_settle_16 : decode cX4_settle 16 = .ok (.getfield 25, 3) := DX4_settle_0 (16, .getfield 25, 3) (List.mem_of_getElem? (i := 10) rfl)
theorem dX4_settle_19 : decode cX4_settle 19 = .ok (.getfield 83, 3) := DX4_settle_0 (19, .getfield 83, 3) (List.mem_of_getElem? (i := 11) rfl)
theorem dX4_settle_22 : decode cX4_settle 22 = .ok (.iload_n 2, 1) := DX4_settle_0 (22, .iload_n 2, 1) (List.mem_of_getElem? (i := 12) rfl)
theorem dX4_settle_23 : decode cX4_settle 23 = .ok (.iaload, 1) := DX4_settle_0 (23, .iaload, 1) (List.mem_of_getElem? (i := 13) rfl)
theorem dX4_settle_24 : decode cX4_settle 24 = .ok (.istore_n 3, 1) := DX4_settle_0 (24, .istore_n 3, 1) (List.mem_of_getElem? (i := 14) rfl)
theorem dX4_settle_25 : decode cX4_settle 25 = .ok (.aload_n 0, 1) := DX4_settle_0 (25, .aload_n 0, 1) (List.mem_of_getElem? (i := 15) rfl)
theorem dX4_settle_26 : decode cX4_settle 26 = .ok (.getfield 25, 3) := DX4_settle_0 (26, .getfield 25, 3) (List.mem_of_getElem? (i := 16) rfl)
theorem dX4_settle_29 : decode cX4_settle 29 = .ok (.iload_n 3, 1) := DX4_settle_0 (29, .iload_n 3, 1) (List.mem_of_getElem? (i := 17) rfl)
theorem dX4_settle_30 : decode cX4_settle 30 = .ok (.invokevirtual 86, 3) := DX4_settle_0 (30, .invokevirtual 86, 3) (List.mem_of_getElem? (i := 18) rfl)
theorem dX4_settle_33 : decode cX4_settle 33 = .ok (.iload_n 1, 1) := DX4_settle_0 (33, .iload_n 1, 1) (List.mem_of_getElem? (i := 19) rfl)
theorem dX4_settle_34 : decode cX4_settle 34 = .ok (.if_icmp .eq 20, 3) := DX4_settle_0 (34, .if_icmp .eq 20, 3) (List.mem_of_getElem? (i := 20) rfl)
theorem dX4_settle_37 : decode cX4_settle 37 = .ok (.aload_n 0, 1) := DX4_settle_0 (37, .aload_n 0, 1) (List.mem_of_getElem? (i := 21) rfl)
theorem dX4_settle_38 : decode cX4_settle 38 = .ok (.getfield 25, 3) := DX4_settle_0 (38, .getfield 25, 3) (List.mem_of_getElem? (i := 22) rfl)
theorem dX4_settle_41 : decode cX4_settle 41 = .ok (.iload_n 3, 1) := DX4_settle_0 (41, .iload_n 3, 1) (List.mem_of_getElem? (i := 23) rfl)
theorem dX4_settle_42 : decode cX4_settle 42 = .ok (.invokevirtual 86, 3) := DX4_settle_0 (42, .invokevirtual 86, 3) (List.mem_of_getElem? (i := 24) rfl)
theorem dX4_settle_45 : decode cX4_settle 45 = .ok (.istore_n 1, 1) := DX4_settle_0 (45, .istore_n 1, 1) (List.mem_of_getElem? (i := 25) rfl)
theorem dX4_settle_46 : decode cX4_settle 46 = .ok (.aload_n 0, 1) := DX4_settle_0 (46, .aload_n 0, 1) (List.mem_of_getElem? (i := 26) rfl)
theorem dX4_settle_47 : decode cX4_settle 47 = .ok (.getfield 45, 3) := DX4_settle_0 (47, .getfield 45, 3) (List.mem_of_getElem? (i := 27) rfl)
theorem dX4_settle_50 : decode cX4_settle 50 = .ok (.iconst 0, 1) := DX4_settle_0 (50, .iconst 0, 1) (List.mem_of_getElem? (i := 28) rfl)
theorem dX4_settle_51 : decode cX4_settle 51 = .ok (.invokestatic 90, 3) := DX4_settle_0 (51, .invokestatic 90, 3) (List.mem_of_getElem? (i := 29) rfl)
theorem dX4_settle_54 : decode cX4_settle 54 = .ok (.iconst 0, 1) := DX4_settle_0 (54, .iconst 0, 1) (List.mem_of_getElem? (i := 30) rfl)
theorem dX4_settle_55 : decode cX4_settle 55 = .ok (.istore 4, 2) := DX4_settle_0 (55, .istore 4, 2) (List.mem_of_getElem? (i := 31) rfl)
theorem dX4_settle_57 : decode cX4_settle 57 = .ok (.iload 4, 2) := DX4_settle_0 (57, .iload 4, 2) (List.mem_of_getElem? (i := 32) rfl)
theorem dX4_settle_59 : decode cX4_settle 59 = .ok (.aload_n 0, 1) := DX4_settle_0 (59, .aload_n 0, 1) (List.mem_of_getElem? (i := 33) rfl)
theorem dX4_settle_60 : decode cX4_settle 60 = .ok (.getfield 25, 3) := DX4_settle_0 (60, .getfield 25, 3) (List.mem_of_getElem? (i := 34) rfl)
theorem dX4_settle_63 : decode cX4_settle 63 = .ok (.getfield 96, 3) := DX4_settle_0 (63, .getfield 96, 3) (List.mem_of_getElem? (i := 35) rfl)
theorem dX4_settle_66 : decode cX4_settle 66 = .ok (.iload_n 3, 1) := DX4_settle_0 (66, .iload_n 3, 1) (List.mem_of_getElem? (i := 36) rfl)
theorem dX4_settle_67 : decode cX4_settle 67 = .ok (.iaload, 1) := DX4_settle_0 (67, .iaload, 1) (List.mem_of_getElem? (i := 37) rfl)
theorem dX4_settle_68 : decode cX4_settle 68 = .ok (.if_icmp .ge 20, 3) := DX4_settle_0 (68, .if_icmp .ge 20, 3) (List.mem_of_getElem? (i := 38) rfl)
theorem dX4_settle_71 : decode cX4_settle 71 = .ok (.aload_n 0, 1) := DX4_settle_0 (71, .aload_n 0, 1) (List.mem_of_getElem? (i := 39) rfl)
theorem DX4_settle_1 : ∀ q ∈ ([(72, .iload_n 3, 1), (73, .iload_n 3, 1), (74, .iconst 3, 1), (75, .imul, 1), (76, .iload 4, 2), (78, .iadd, 1), (79, .invokevirtual 99, 3), (82, .iinc 4 1, 3), (85, .goto (-28), 3), (88, .iinc 2 1, 3), (91, .goto (-87), 3), (94, .return_, 1)] : List (Nat × Instr × Nat)), decode cX4_settle q.1 = .ok q.2 := by decide +kernel
theorem dX4_settle_72 : decode cX4_settle 72 = .ok (.iload_n 3, 1) := DX4_settle_1 (72, .iload_n 3, 1) (List.mem_of_getElem? (i := 0) rfl)
theorem dX4_settle_73 : decode cX4_settle 73 = .ok (.iload_n 3, 1) := DX4_settle_1 (73, .iload_n 3, 1) (List.mem_of_getElem? (i := 1) rfl)
theorem dX4_settle_74 : decode cX4_settle 74 = .ok (.iconst 3, 1) := DX4_settle_1 (74, .iconst 3, 1) (List.mem_of_getElem? (i := 2) rfl)
theorem dX4_settle_75 : decode cX4_settle 75 = .ok (.imul, 1) := DX4_settle_1 (75, .imul, 1) (List.mem_of_getElem? (i := 3) rfl)
theorem dX4_settle_76 : decode cX4_settle 76 = .ok (.iload 4, 2) := DX4_settle_1 (76, .iload 4, 2) (List.mem_of_getElem? (i := 4) rfl)
theorem dX4_settle_78 : decode cX4_settle 78 = .ok (.iadd, 1) := DX4_settle_1 (78, .iadd, 1) (List.mem_of_getElem? (i := 5) rfl)
theorem dX4_settle_79 : decode cX4_settle 79 = .ok (.invokevirtual 99, 3) := DX4_settle_1 (79, .invokevirtual 99, 3) (List.mem_of_getElem? (i := 6) rfl)
theorem dX4_settle_82 : decode cX4_settle 82 = .ok (.iinc 4 1, 3) := DX4_settle_1 (82, .iinc 4 1, 3) (List.mem_of_getElem? (i := 7) rfl)
theorem dX4_settle_85 : decode cX4_settle 85 = .ok (.goto (-28), 3) := DX4_settle_1 (85, .goto (-28), 3) (List.mem_of_getElem? (i := 8) rfl)
theorem dX4_settle_88 : decode cX4_settle 88 = .ok (.iinc 2 1, 3) := DX4_settle_1 (88, .iinc 2 1, 3) (List.mem_of_getElem? (i := 9) rfl)
theorem dX4_settle_91 : decode cX4_settle 91 = .ok (.goto (-87), 3) := DX4_settle_1 (91, .goto (-87), 3) (List.mem_of_getElem? (i := 10) rfl)
theorem dX4_settle_94 : decode cX4_settle 94 = .ok (.return_, 1) := DX4_settle_1 (94, .return_, 1) (List.mem_of_getElem? (i := 11) rfl)
abbrev rmX4_settle : Room := { frames := 3, cells := 0, slots := 0, locals := 83 }
set_option maxHeartbeats 400000 in
set_option maxRecDepth 100000 in
theorem met_X4_settle (l : Launch) (D : va_G) (kA : Nat → ClassId) (a : Nat → Nat) (n : Nat) (V0 : Sz) (hDt : ∀ w : Sz, va_D (fun _ => True) (cs_X4 kA a w)) {Vr : Sz} (hf : f_X4_settle n V0 = some Vr) : MZ l yX4_settle cX4_settle 5 none rmX4_settle D kA [.ref (a 0)] (cs_X4 kA a V0) (cs_X4 kA a Vr) (none) := by
  refine zZV (own := RX4) rfl rfl (Nat.le_of_ble_eq_true rfl) ?_
  intro p e s m args below meth c ls Q hC hK hP hl hret
  have hl : lv_has ls 5 [(0, .ref (a 0))] := hl
  have hS : va_S (zF (cs_X4 kA a V0)) s.heap s.heap [] := va_S.rf
  have hD := zDself (C := fun w : Sz => (cs_X4 kA a w)) hDt V0 (fun _ => rfl)
  try dsimp only at hD
  generalize hAe : zF (cs_X4 kA a V0) = A0 at hS hD hret
  unfold f_X4_settle at hf
  have L4 : ∀ (k4 : Nat) (y1 : Int) (y2 : Int) (V : Sz) (H : Heap) (locs : List Loc) (ls : Array Slot), lpF (bX4_settle_4 n) k4 (y1, y2, V) = some Vr → va_P D vwCl (cs_X4 kA a V) H → va_S A0 s.heap H locs → lv_has ls 5 [(0, .ref (a 0)), (1, vI y1), (2, vI y2)] → W p l e rmX4_settle s m args below meth c H locs 0 0 Q (F0 m 4 ls []) := by
    intro k4
    induction k4 with
    | zero => intro y1 y2 V H locs ls hf hP hS hl; exact lp_0 hf
    | succ k4 ih4 =>
      intro y1 y2 V H locs ls hf hP hS hl
      have hf := lp_s hf
      rw [bX4_settle_4_e] at hf
      have L57 : ∀ (k57 : Nat) (y1 : Int) (y2 : Int) (y3 : Int) (y4 : Int) (V : Sz) (H : Heap) (locs : List Loc) (ls : Array Slot), lpF (bX4_settle_57 n (lpF (bX4_settle_4 n) k4)) k57 (y1, y2, y3, y4, V) = some Vr → va_P D vwCl (cs_X4 kA a V) H → va_S A0 s.heap H locs → lv_has ls 5 [(0, .ref (a 0)), (1, vI y1), (2, vI y2), (3, vI y3), (4, vI y4)] → W p l e rmX4_settle s m args below meth c H locs 0 0 Q (F0 m 57 ls []) := by
        intro k57
        induction k57 with
        | zero => intro y1 y2 y3 y4 V H locs ls hf hP hS hl; exact lp_0 hf
        | succ k57 ih57 =>
          intro y1 y2 y3 y4 V H locs ls hf hP hS hl
          have hf := lp_s hf
          rw [bX4_settle_57_e] at hf
          refine ziload hC.1 hC.2.1 dX4_settle_57 (lv_at hl 4 rfl) <| lv_aload_n hC.1 hC.2.1 dX4_settle_59 rfl (lv_at hl 0 rfl) <| gfX4_25 hC hK hP (q0 := 0) rfl rfl dX4_settle_60 <| gfX4_96 hC hK hP (q0 := 6) rfl rfl dX4_settle_63 <| ziload_n hC.1 hC.2.1 dX4_settle_66 rfl (lv_at hl 3 rfl) <| ?_
          obtain ⟨hz_6, hf⟩ := ck_some hf
          refine jal hC hK hP (q0 := 11) rfl (Nat.le_of_ble_eq_true rfl) hz_6 rfl dX4_settle_67 <| ?_
          obtain ⟨hz_7, hf⟩ := ck_some hf
          refine zicmp_ge (tgt := 88) hC.1 hC.2.1 ⟨hz_7.1, hz_7.2⟩ dX4_settle_68 (by decide) (fun hc => ?_) (fun hc => ?_)
          · have hf := it_t hf hc
            obtain ⟨x_8, ex_8⟩ : ∃ y : Int, y = y2 + 1 := ⟨_, rfl⟩
            have hf := nm_at hf ex_8
            refine ziinc (v := x_8) (lv' := [(2, vI x_8), (0, .ref (a 0)), (1, vI y1), (3, vI y3), (4, vI y4)]) hC.1 hC.2.1 dX4_settle_88 hl (k := 2) rfl ex_8 (by decide) rfl (fun ls hl => ?_)
            exact lv_goto (tgt := 4) hC.1 hC.2.1 dX4_settle_91 (by decide) <| ih4 _ _ _ _ _ _ hf hP hS (lv_sub hl [1, 2, 0] rfl)
          · have hf := it_f hf hc
            refine lv_aload_n hC.1 hC.2.1 dX4_settle_71 rfl (lv_at hl 0 rfl) <| ziload_n hC.1 hC.2.1 dX4_settle_72 rfl (lv_at hl 3 rfl) <| ziload_n hC.1 hC.2.1 dX4_settle_73 rfl (lv_at hl 3 rfl) <| ziconst hC.1 hC.2.1 dX4_settle_74 <| zimul hC.1 hC.2.1 dX4_settle_75 <| ziload hC.1 hC.2.1 dX4_settle_76 (lv_at hl 4 rfl) <| ziadd hC.1 hC.2.1 dX4_settle_78 <| ?_
            obtain ⟨V_9, hu, hf⟩ := bd_some hf
            have hDc := hDt
            refine zcVZ (As := [vI y3, vI ((y3 * 3) + y4)]) (rest := []) hC hK (met_X4_settlePart l D kA a n V y3 ((y3 * 3) + y4) hDc hu) zwX4_99 hS (zFsub (hD V) [0, 1, 2, 3, 4, 5, 6, 7, 8, 9, 10, 11, 12, 13, 14, 15, 16, 17, 18, 19, 20, 21, 22, 23] rfl) hP (q0 := 0) rfl rfl rfl rfl hl.1 rfl (Nat.le_of_ble_eq_true rfl) ⟨Nat.le_of_ble_eq_true rfl, Nat.le_of_ble_eq_true rfl⟩ ⟨rfl, rfl⟩ ⟨Nat.le_refl _, Nat.le_refl _⟩ dX4_settle_79 (fun H locs hP1 hk1 hS => ?_)
            have hP : va_P D vwCl (cs_X4 kA a V_9) H := hP1
            obtain ⟨x_10, ex_10⟩ : ∃ y : Int, y = y4 + 1 := ⟨_, rfl⟩
            have hf := nm_at hf ex_10
            refine ziinc (v := x_10) (lv' := [(4, vI x_10), (0, .ref (a 0)), (1, vI y1), (2, vI y2), (3, vI y3)]) hC.1 hC.2.1 dX4_settle_82 hl (k := 4) rfl ex_10 (by decide) rfl (fun ls hl => ?_)
            exact lv_goto (tgt := 57) hC.1 hC.2.1 dX4_settle_85 (by decide) <| ih57 _ _ _ _ _ _ _ _ hf hP hS (lv_sub hl [1, 2, 3, 4, 0] rfl)
      have J54 : ∀ (y1 : Int) (y2 : Int) (y3 : Int) (V : Sz) (H : Heap) (locs : List Loc) (ls : Array Slot), jX4_settle_54 n (lpF (bX4_settle_4 n) k4) y1 y2 y3 V = some Vr → va_P D vwCl (cs_X4 kA a V) H → va_S A0 s.heap H locs → lv_has ls 5 [(0, .ref (a 0)), (1, vI y1), (2, vI y2), (3, vI y3)] → W p l e rmX4_settle s m args below meth c H locs 0 0 Q (F0 m 54 ls []) := by
        intro y1 y2 y3 V H locs ls hf hP hS hl
        unfold jX4_settle_54 at hf
        refine ziconst hC.1 hC.2.1 dX4_settle_54 <| zistore (lv' := [(4, vI 0), (0, .ref (a 0)), (1, vI y1), (2, vI y2), (3, vI y3)]) hC.1 hC.2.1 dX4_settle_55 hl (by decide) rfl (fun ls hl => ?_)
        exact L57 n _ _ _ _ _ _ _ _ hf hP hS (lv_sub hl [1, 2, 3, 4, 0] rfl)
      refine ziload_n hC.1 hC.2.1 dX4_settle_4 rfl (lv_at hl 2 rfl) <| lv_aload_n hC.1 hC.2.1 dX4_settle_5 rfl (lv_at hl 0 rfl) <| gfX4_25 hC hK hP (q0 := 0) rfl rfl dX4_settle_6 <| gfX4_81 hC hK hP (q0 := 6) rfl rfl dX4_settle_9 <| ?_
      obtain ⟨hz_1, hf⟩ := ck_some hf
      refine zicmp_ge (tgt := 94) hC.1 hC.2.1 ⟨hz_1.1, hz_1.2⟩ dX4_settle_12 (by decide) (fun hc => ?_) (fun hc => ?_)
      · have hf := it_t hf hc
        have hf := Option.some.inj hf
        exact hret _ _ _ _ rfl (by rw [← hf]; exact hP) hS dX4_settle_94
      · have hf := it_f hf hc
        refine lv_aload_n hC.1 hC.2.1 dX4_settle_15 rfl (lv_at hl 0 rfl) <| gfX4_25 hC hK hP (q0 := 0) rfl rfl dX4_settle_16 <| gfX4_83 hC hK hP (q0 := 6) rfl rfl dX4_settle_19 <| ziload_n hC.1 hC.2.1 dX4_settle_22 rfl (lv_at hl 2 rfl) <| ?_
        obtain ⟨hz_2, hf⟩ := ck_some hf
        refine jal hC hK hP (q0 := 12) rfl (Nat.le_of_ble_eq_true rfl) hz_2 rfl dX4_settle_23 <| ?_
        refine ztopi (fun x_3 ex_3 => ?_)
        have hf := nm_at hf ex_3
        refine zistore_n (lv' := [(3, vI x_3), (0, .ref (a 0)), (1, vI y1), (2, vI y2)]) hC.1 hC.2.1 dX4_settle_24 rfl hl (by decide) rfl (fun ls hl => ?_)
        refine lv_aload_n hC.1 hC.2.1 dX4_settle_25 rfl (lv_at hl 1 rfl) <| gfX4_25 hC hK hP (q0 := 0) rfl rfl dX4_settle_26 <| ziload_n hC.1 hC.2.1 dX4_settle_29 rfl (lv_at hl 0 rfl) <| ?_
        obtain ⟨r_4, hu, hf⟩ := bd_some hf
        have hPc : va_P D vwCl (cs_X3 kA (sv 6 a) (sv 9 V)) _ := hP.sub [6, 7, 8, 9, 10, 11, 12, 13, 14, 15, 16, 17] rfl
        refine zcVP (As := [vI x_3]) (rest := []) hC hK (met_X3_yearOf l D kA (sv 6 a) (sv 9 V) x_3 hu) zwX4_86 hPc (q0 := 0) rfl rfl rfl rfl hl.1 rfl (Nat.le_of_ble_eq_true rfl) ⟨Nat.le_of_ble_eq_true rfl, Nat.le_of_ble_eq_true rfl⟩ ⟨rfl, rfl⟩ ⟨Nat.le_refl _, Nat.le_refl _⟩ dX4_settle_30 <| ziload_n hC.1 hC.2.1 dX4_settle_33 rfl (lv_at hl 2 rfl) <| ?_
        obtain ⟨hz_5, hf⟩ := ck_some hf
        refine zicmp_eq (tgt := 54) hC.1 hC.2.1 ⟨hz_5.1, hz_5.2⟩ dX4_settle_34 (by decide) (fun hc => ?_) (fun hc => ?_)
        · have hf := it_t hf hc
          exact J54 _ _ _ _ _ _ _ hf hP hS (lv_sub hl [1, 2, 3, 0] rfl)
        · have hf := it_f hf hc
          refine lv_aload_n hC.1 hC.2.1 dX4_settle_37 rfl (lv_at hl 1 rfl) <| gfX4_25 hC hK hP (q0 := 0) rfl rfl dX4_settle_38 <| ziload_n hC.1 hC.2.1 dX4_settle_41 rfl (lv_at hl 0 rfl) <| ?_
          obtain ⟨r_11, hu, hf⟩ := bd_some hf
          have hPc : va_P D vwCl (cs_X3 kA (sv 6 a) (sv 9 V)) _ := hP.sub [6, 7, 8, 9, 10, 11, 12, 13, 14, 15, 16, 17] rfl
          refine zcVP (As := [vI x_3]) (rest := []) hC hK (met_X3_yearOf l D kA (sv 6 a) (sv 9 V) x_3 hu) zwX4_86 hPc (q0 := 0) rfl rfl rfl rfl hl.1 rfl (Nat.le_of_ble_eq_true rfl) ⟨Nat.le_of_ble_eq_true rfl, Nat.le_of_ble_eq_true rfl⟩ ⟨rfl, rfl⟩ ⟨Nat.le_refl _, Nat.le_refl _⟩ dX4_settle_42 <| zistore_n (lv' := [(1, vI r_11), (3, vI x_3), (0, .ref (a 0)), (2, vI y2)]) hC.1 hC.2.1 dX4_settle_45 rfl hl (by decide) rfl (fun ls hl => ?_)
          refine lv_aload_n hC.1 hC.2.1 dX4_settle_46 rfl (lv_at hl 2 rfl) <| gfX4_45 hC hK hP (q0 := 0) rfl rfl dX4_settle_47 <| ziconst hC.1 hC.2.1 dX4_settle_50 <| ?_
          obtain ⟨V_12, hu, hf⟩ := bd_some hf
          have hPc : va_P D vwCl ([((a 23), .inl (kA 0, 10, .inl (aI (V 26))))]) _ := hP.sub [23] rfl
          have hDc : ∀ w : (Nat → Int), va_D (fun _ => True) ([((a 23), .inl (kA 0, 10, .inl (aI w)))]) := fun w => (hDt (uy V 26 w)).sub [23] (by decide) rfl
          refine zcSZ (As := [.ref (a 23), vI 0]) (rest := []) hC hK (met_J7_fill_53178 l D kA (a 23) n 10 (V 26) 0 (Nat.le_of_ble_eq_true rfl) hDc hu) zwX4_90 hS (zFsub (hD V) [23] rfl) hPc rfl hl.1 rfl (Nat.le_of_ble_eq_true rfl) ⟨Nat.le_of_ble_eq_true rfl, Nat.le_of_ble_eq_true rfl⟩ ⟨rfl, rfl⟩ ⟨Nat.le_refl _, Nat.le_refl _⟩ dX4_settle_51 (fun H locs hP1 hk1 hS => ?_)
          obtain ⟨V_13, eV_13⟩ : ∃ y, y = uy V 26 V_12 := ⟨_, rfl⟩
          have hf := nm_at hf eV_13
          have hP : va_P D vwCl (cs_X4 kA a V_13) H := by rw [eV_13]; exact zjoin hP (hDt V) [23] (w0 := ([((a 23), .inl (kA 0, 10, .inl (aI (V 26))))])) rfl (Nat.le_of_ble_eq_true rfl) hk1 hP1
          exact J54 _ _ _ _ _ _ _ hf hP hS (lv_sub hl [2, 0, 3, 1] rfl)
  refine ziconst hC.1 hC.2.1 dX4_settle_0 <| zistore_n (lv' := [(1, vI (-1)), (0, .ref (a 0))]) hC.1 hC.2.1 dX4_settle_1 rfl hl (by decide) rfl (fun ls hl => ?_)
  refine ziconst hC.1 hC.2.1 dX4_settle_2 <| zistore_n (lv' := [(2, vI 0), (1, vI (-1)), (0, .ref (a 0))]) hC.1 hC.2.1 dX4_settle_3 rfl hl (by decide) rfl (fun ls hl => ?_)
  exact L4 n _ _ _ _ _ _ hf hP hS (lv_sub hl [2, 1, 0] rfl)
theorem DX4_countSpoilt_0 : ∀ q ∈ ([(0, .iconst 0, 1), (1, .istore_n 1, 1), (2, .iconst 0, 1), (3, .istore_n 2, 1), (4, .iload_n 2, 1), (5, .aload_n 0, 1), (6, .getfield 25, 3), (9, .getfield 81, 3), (12, .if_icmp .ge 20, 3), (15, .aload_n 0, 1), (16, .iload_n 2, 1), (17, .invokevirtual 106, 3), (20, .ifCond .eq 6, 3), (23, .iinc 1 1, 3), (26, .iinc 2 1, 3), (29, .goto (-25), 3), (32, .iload_n 1, 1), (33, .ireturn, 1)] : List (Nat × Instr × Nat)), decode cX4_countSpoilt q.1 = .ok q.2 := by decide +kernel
theorem dX4_countSpoilt_0 : decode cX4_countSpoilt 0 = .ok (.iconst 0, 1) := DX4_countSpoilt_0 (0, .iconst 0, 1) (List.mem_of_getElem? (i := 0) rfl)
theorem dX4_countSpoilt_1 : decode cX4_countSpoilt 1 = .ok (.istore_n 1, 1) := DX4_countSpoilt_0 (1, .istore_n 1, 1) (List.mem_of_getElem? (i := 1) rfl)
theorem dX4_countSpoilt_2 : decode cX4_countSpoilt 2 = .ok (.iconst 0, 1) := DX4_countSpoilt_0 (2, .iconst 0, 1) (List.mem_of_getElem? (i := 2) rfl)
theorem dX4_countSpoilt_3 : decode cX4_countSpoilt 3 = .ok (.istore_n 2, 1) := DX4_countSpoilt_0 (3, .istore_n 2, 1) (List.mem_of_getElem? (i := 3) rfl)
theorem dX4_countSpoilt_4 : decode cX4_countSpoilt 4 = .ok (.iload_n 2, 1) := DX4_countSpoilt_0 (4, .iload_n 2, 1) (List.mem_of_getElem? (i := 4) rfl)
theorem dX4_countSpoilt_5 : decode cX4_countSpoilt 5 = .ok (.aload_n 0, 1) := DX4_countSpoilt_0 (5, .aload_n 0, 1) (List.mem_of_getElem? (i := 5) rfl)
theorem dX4_countSpoilt_6 : decode cX4_countSpoilt 6 = .ok (.getfield 25, 3) := DX4_countSpoilt_0 (6, .getfield 25, 3) (List.mem_of_getElem? (i := 6) rfl)
theorem dX4_countSpoilt_9 : decode cX4_countSpoilt 9 = .ok (.getfield 81, 3) := DX4_countSpoilt_0 (9, .getfield 81, 3) (List.mem_of_getElem? (i := 7) rfl)
theorem dX4_countSpoilt_12 : decode cX4_countSpoilt 12 = .ok (.if_icmp .ge 20, 3) := DX4_countSpoilt_0 (12, .if_icmp .ge 20, 3) (List.mem_of_getElem? (i := 8) rfl)
theorem dX4_countSpoilt_15 : decode cX4_countSpoilt 15 = .ok (.aload_n 0, 1) := DX4_countSpoilt_0 (15, .aload_n 0, 1) (List.mem_of_getElem? (i := 9) rfl)
theorem dX4_countSpoilt_16 : decode cX4_countSpoilt 16 = .ok (.iload_n 2, 1) := DX4_countSpoilt_0 (16, .iload_n 2, 1) (List.mem_of_getElem? (i := 10) rfl)
theorem dX4_countSpoilt_17 : decode cX4_countSpoilt 17 = .ok (.invokevirtual 106, 3) := DX4_countSpoilt_0 (17, .invokevirtual 106, 3) (List.mem_of_getElem? (i := 11) rfl)
theorem dX4_countSpoilt_20 : decode cX4_countSpoilt 20 = .ok (.ifCond .eq 6, 3) := DX4_countSpoilt_0 (20, .ifCond .eq 6, 3) (List.mem_of_getElem? (i := 12) rfl)
theorem dX4_countSpoilt_23 : decode cX4_countSpoilt 23 = .ok (.iinc 1 1, 3) := DX4_countSpoilt_0 (23, .iinc 1 1, 3) (List.mem_of_getElem? (i := 13) rfl)
theorem dX4_countSpoilt_26 : decode cX4_countSpoilt 26 = .ok (.iinc 2 1, 3) := DX4_countSpoilt_0 (26, .iinc 2 1, 3) (List.mem_of_getElem? (i := 14) rfl)
theorem dX4_countSpoilt_29 : decode cX4_countSpoilt 29 = .ok (.goto (-25), 3) := DX4_countSpoilt_0 (29, .goto (-25), 3) (List.mem_of_getElem? (i := 15) rfl)
theorem dX4_countSpoilt_32 : decode cX4_countSpoilt 32 = .ok (.iload_n 1, 1) := DX4_countSpoilt_0 (32, .iload_n 1, 1) (List.mem_of_getElem? (i := 16) rfl)
theorem dX4_countSpoilt_33 : decode cX4_countSpoilt 33 = .ok (.ireturn, 1) := DX4_countSpoilt_0 (33, .ireturn, 1) (List.mem_of_getElem? (i := 17) rfl)
abbrev rmX4_countSpoilt : Room := { frames := 1, cells := 0, slots := 0, locals := 21 }
set_option maxHeartbeats 400000 in
set_option maxRecDepth 100000 in
theorem met_X4_countSpoilt (l : Launch) (D : va_G) (kA : Nat → ClassId) (a : Nat → Nat) (n : Nat) (V : Sz) {r : Int} (hf : f_X4_countSpoilt n V = some r) : MP l yX4_countSpoilt cX4_countSpoilt 3 (some .int) rmX4_countSpoilt D kA [.ref (a 0)] (cs_X4 kA a V) (some (vI r)) := by
  refine zPI (own := RX4) rfl rfl (Nat.le_of_ble_eq_true rfl) ?_
  intro p e s m args below meth c ls Q hC hK hP hl hret
  have hl : lv_has ls 3 [(0, .ref (a 0))] := hl
  unfold f_X4_countSpoilt at hf
  have L4 : ∀ (k4 : Nat) (y1 : Int) (y2 : Int) (ls : Array Slot), lpF (bX4_countSpoilt_4 n V) k4 (y1, y2) = some r → lv_has ls 3 [(0, .ref (a 0)), (1, vI y1), (2, vI y2)] → W p l e rmX4_countSpoilt s m args below meth c s.heap [] 0 0 Q (F0 m 4 ls []) := by
    intro k4
    induction k4 with
    | zero => intro y1 y2 ls hf hl; exact lp_0 hf
    | succ k4 ih4 =>
      intro y1 y2 ls hf hl
      have hf := lp_s hf
      rw [bX4_countSpoilt_4_e] at hf
      have J26 : ∀ (y1 : Int) (y2 : Int) (ls : Array Slot), jX4_countSpoilt_26 n V (lpF (bX4_countSpoilt_4 n V) k4) y1 y2 = some r → lv_has ls 3 [(0, .ref (a 0)), (1, vI y1), (2, vI y2)] → W p l e rmX4_countSpoilt s m args below meth c s.heap [] 0 0 Q (F0 m 26 ls []) := by
        intro y1 y2 ls hf hl
        unfold jX4_countSpoilt_26 at hf
        obtain ⟨x_3, ex_3⟩ : ∃ y : Int, y = y2 + 1 := ⟨_, rfl⟩
        have hf := nm_at hf ex_3
        refine ziinc (v := x_3) (lv' := [(2, vI x_3), (0, .ref (a 0)), (1, vI y1)]) hC.1 hC.2.1 dX4_countSpoilt_26 hl (k := 2) rfl ex_3 (by decide) rfl (fun ls hl => ?_)
        exact lv_goto (tgt := 4) hC.1 hC.2.1 dX4_countSpoilt_29 (by decide) <| ih4 _ _ _ hf (lv_sub hl [1, 2, 0] rfl)
      refine ziload_n hC.1 hC.2.1 dX4_countSpoilt_4 rfl (lv_at hl 2 rfl) <| lv_aload_n hC.1 hC.2.1 dX4_countSpoilt_5 rfl (lv_at hl 0 rfl) <| gfX4_25 hC hK hP (q0 := 0) rfl rfl dX4_countSpoilt_6 <| gfX4_81 hC hK hP (q0 := 6) rfl rfl dX4_countSpoilt_9 <| ?_
      obtain ⟨hz_1, hf⟩ := ck_some hf
      refine zicmp_ge (tgt := 32) hC.1 hC.2.1 ⟨hz_1.1, hz_1.2⟩ dX4_countSpoilt_12 (by decide) (fun hc => ?_) (fun hc => ?_)
      · have hf := it_t hf hc
        exact ziload_n hC.1 hC.2.1 dX4_countSpoilt_32 rfl (lv_at hl 1 rfl) <| hret (Int32.ofInt y1) _ _ (qI hf) dX4_countSpoilt_33
      · have hf := it_f hf hc
        refine lv_aload_n hC.1 hC.2.1 dX4_countSpoilt_15 rfl (lv_at hl 0 rfl) <| ziload_n hC.1 hC.2.1 dX4_countSpoilt_16 rfl (lv_at hl 2 rfl) <| ?_
        obtain ⟨r_2, hu, hf⟩ := bd_some hf
        refine zcVP (As := [vI y2]) (rest := []) hC hK (met_X4_isSpoilt l D kA a V y2 hu) zwX4_106 hP (q0 := 0) rfl rfl rfl rfl hl.1 rfl (Nat.le_of_ble_eq_true rfl) ⟨Nat.le_of_ble_eq_true rfl, Nat.le_of_ble_eq_true rfl⟩ ⟨rfl, rfl⟩ ⟨Nat.le_refl _, Nat.le_refl _⟩ dX4_countSpoilt_17 <| zifb_eq (tgt := 26) hC.1 hC.2.1 dX4_countSpoilt_20 (by decide) (fun hc => ?_) (fun hc => ?_)
        · have hf := it_t hf hc
          exact J26 _ _ _ hf (lv_sub hl [0, 1, 2] rfl)
        · have hf := it_f hf hc
          obtain ⟨x_4, ex_4⟩ : ∃ y : Int, y = y1 + 1 := ⟨_, rfl⟩
          have hf := nm_at hf ex_4
          refine ziinc (v := x_4) (lv' := [(1, vI x_4), (0, .ref (a 0)), (2, vI y2)]) hC.1 hC.2.1 dX4_countSpoilt_23 hl (k := 1) rfl ex_4 (by decide) rfl (fun ls hl => ?_)
          exact J26 _ _ _ hf (lv_sub hl [1, 0, 2] rfl)
  refine ziconst hC.1 hC.2.1 dX4_countSpoilt_0 <| zistore_n (lv' := [(1, vI 0), (0, .ref (a 0))]) hC.1 hC.2.1 dX4_countSpoilt_1 rfl hl (by decide) rfl (fun ls hl => ?_)
  refine ziconst hC.1 hC.2.1 dX4_countSpoilt_2 <| zistore_n (lv' := [(2, vI 0), (1, vI 0), (0, .ref (a 0))]) hC.1 hC.2.1 dX4_countSpoilt_3 rfl hl (by decide) rfl (fun ls hl => ?_)
  exact L4 n _ _ _ hf (lv_sub hl [2, 1, 0] rfl)
theorem DX4_measure_0 : ∀ q ∈ ([(0, .iload_n 2, 1), (1, .tableswitch 64 0 3 #[31, 40, 47, 54], 31), (32, .aload_n 0, 1), (33, .getfield 25, 3), (36, .iload_n 1, 1), (37, .invokevirtual 126, 3), (40, .ireturn, 1), (41, .aload_n 0, 1), (42, .getfield 39, 3), (45, .iload_n 1, 1), (46, .iaload, 1), (47, .ireturn, 1), (48, .aload_n 0, 1), (49, .getfield 42, 3), (52, .iload_n 1, 1), (53, .iaload, 1), (54, .ireturn, 1), (55, .aload_n 0, 1), (56, .getfield 25, 3), (59, .getfield 135, 3), (62, .iload_n 1, 1), (63, .iaload, 1), (64, .ireturn, 1), (65, .iconst 1, 1), (66, .ireturn, 1)] : List (Nat × Instr × Nat)), decode cX4_measure q.1 = .ok q.2 := by decide +kernel
theorem dX4_measure_0 : decode cX4_measure 0 = .ok (.iload_n 2, 1) := DX4_measure_0 (0, .iload_n 2, 1) (List.mem_of_getElem? (i := 0) rfl)
theorem dX4_measure_1 : decode cX4_measure 1 = .ok (.tableswitch 64 0 3 #[31, 40, 47, 54], 31) := DX4_measure_0 (1, .tableswitch 64 0 3 #[31, 40, 47, 54], 31) (List.mem_of_getElem? (i := 1) rfl)
theorem dX4_measure_32 : decode cX4_measure 32 = .ok (.aload_n 0, 1) := DX4_measure_0 (32, .aload_n 0, 1) (List.mem_of_getElem? (i := 2) rfl)
theorem dX4_measure_33 : decode cX4_measure 33 = .ok (.getfield 25, 3) := DX4_measure_0 (33, .getfield 25, 3) (List.mem_of_getElem? (i := 3) rfl)
theorem dX4_measure_36 : decode cX4_measure 36 = .ok (.iload_n 1, 1) := DX4_measure_0 (36, .iload_n 1, 1) (List.mem_of_getElem? (i := 4) rfl)
theorem dX4_measure_37 : decode cX4_measure 37 = .ok (.invokevirtual 126, 3) := DX4_measure_0 (37, .invokevirtual 126, 3) (List.mem_of_getElem? (i := 5) rfl)
theorem dX4_measure_40 : decode cX4_measure 40 = .ok (.ireturn, 1) := DX4_measure_0 (40, .ireturn, 1) (List.mem_of_getElem? (i := 6) rfl)
theorem dX4_measure_41 : decode cX4_measure 41 = .ok (.aload_n 0, 1) := DX4_measure_0 (41, .aload_n 0, 1) (List.mem_of_getElem? (i := 7) rfl)
theorem dX4_measure_42 : decode cX4_measure 42 = .ok (.getfield 39, 3) := DX4_measure_0 (42, .getfield 39, 3) (List.mem_of_getElem? (i := 8) rfl)
theorem dX4_measure_45 : decode cX4_measure 45 = .ok (.iload_n 1, 1) := DX4_measure_0 (45, .iload_n 1, 1) (List.mem_of_getElem? (i := 9) rfl)
theorem dX4_measure_46 : decode cX4_measure 46 = .ok (.iaload, 1) := DX4_measure_0 (46, .iaload, 1) (List.mem_of_getElem? (i := 10) rfl)
theorem dX4_measure_47 : decode cX4_measure 47 = .ok (.ireturn, 1) := DX4_measure_0 (47, .ireturn, 1) (List.mem_of_getElem? (i := 11) rfl)
theorem dX4_measure_48 : decode cX4_measure 48 = .ok (.aload_n 0, 1) := DX4_measure_0 (48, .aload_n 0, 1) (List.mem_of_getElem? (i := 12) rfl)
theorem dX4_measure_49 : decode cX4_measure 49 = .ok (.getfield 42, 3) := DX4_measure_0 (49, .getfield 42, 3) (List.mem_of_getElem? (i := 13) rfl)
theorem dX4_measure_52 : decode cX4_measure 52 = .ok (.iload_n 1, 1) := DX4_measure_0 (52, .iload_n 1, 1) (List.mem_of_getElem? (i := 14) rfl)
theorem dX4_measure_53 : decode cX4_measure 53 = .ok (.iaload, 1) := DX4_measure_0 (53, .iaload, 1) (List.mem_of_getElem? (i := 15) rfl)
theorem dX4_measure_54 : decode cX4_measure 54 = .ok (.ireturn, 1) := DX4_measure_0 (54, .ireturn, 1) (List.mem_of_getElem? (i := 16) rfl)
theorem dX4_measure_55 : decode cX4_measure 55 = .ok (.aload_n 0, 1) := DX4_measure_0 (55, .aload_n 0, 1) (List.mem_of_getElem? (i := 17) rfl)
theorem dX4_measure_56 : decode cX4_measure 56 = .ok (.getfield 25, 3) := DX4_measure_0 (56, .getfield 25, 3) (List.mem_of_getElem? (i := 18) rfl)
theorem dX4_measure_59 : decode cX4_measure 59 = .ok (.getfield 135, 3) := DX4_measure_0 (59, .getfield 135, 3) (List.mem_of_getElem? (i := 19) rfl)
theorem dX4_measure_62 : decode cX4_measure 62 = .ok (.iload_n 1, 1) := DX4_measure_0 (62, .iload_n 1, 1) (List.mem_of_getElem? (i := 20) rfl)
theorem dX4_measure_63 : decode cX4_measure 63 = .ok (.iaload, 1) := DX4_measure_0 (63, .iaload, 1) (List.mem_of_getElem? (i := 21) rfl)
theorem dX4_measure_64 : decode cX4_measure 64 = .ok (.ireturn, 1) := DX4_measure_0 (64, .ireturn, 1) (List.mem_of_getElem? (i := 22) rfl)
theorem dX4_measure_65 : decode cX4_measure 65 = .ok (.iconst 1, 1) := DX4_measure_0 (65, .iconst 1, 1) (List.mem_of_getElem? (i := 23) rfl)
theorem dX4_measure_66 : decode cX4_measure 66 = .ok (.ireturn, 1) := DX4_measure_0 (66, .ireturn, 1) (List.mem_of_getElem? (i := 24) rfl)
abbrev rmX4_measure : Room := { frames := 1, cells := 0, slots := 0, locals := 21 }
set_option maxHeartbeats 400000 in
set_option maxRecDepth 100000 in
theorem met_X4_measure (l : Launch) (D : va_G) (kA : Nat → ClassId) (a : Nat → Nat) (V : Sz) (x1 : Int) (x2 : Int) {r : Int} (hf : f_X4_measure V x1 x2 = some r) : MP l yX4_measure cX4_measure 3 (some .int) rmX4_measure D kA [.ref (a 0), vI x1, vI x2] (cs_X4 kA a V) (some (vI r)) := by
  refine zPI (own := RX4) rfl rfl (Nat.le_of_ble_eq_true rfl) ?_
  intro p e s m args below meth c ls Q hC hK hP hl hret
  have hl : lv_has ls 3 [(0, .ref (a 0)), (1, vI x1), (2, vI x2)] := hl
  unfold f_X4_measure at hf
  refine ziload_n hC.1 hC.2.1 dX4_measure_0 rfl (lv_at hl 2 rfl) <| ?_
  obtain ⟨hz_1, hf⟩ := ck_some hf
  by_cases hc : x2 = 0
  · have hf := it_t hf hc
    refine ztsIn (k := 0) (tgt := 32) hC.1 hC.2.1 dX4_measure_1 hc (by decide) rfl (by decide) ?_
    refine lv_aload_n hC.1 hC.2.1 dX4_measure_32 rfl (lv_at hl 0 rfl) <| gfX4_25 hC hK hP (q0 := 0) rfl rfl dX4_measure_33 <| ziload_n hC.1 hC.2.1 dX4_measure_36 rfl (lv_at hl 1 rfl) <| ?_
    obtain ⟨r_2, hu, hf⟩ := bd_some hf
    have hPc : va_P D vwCl (cs_X3 kA (sv 6 a) (sv 9 V)) _ := hP.sub [6, 7, 8, 9, 10, 11, 12, 13, 14, 15, 16, 17] rfl
    exact zcVP (As := [vI x1]) (rest := []) hC hK (met_X3_leftOfPart l D kA (sv 6 a) (sv 9 V) x1 hu) zwX4_126 hPc (q0 := 0) rfl rfl rfl rfl hl.1 rfl (Nat.le_of_ble_eq_true rfl) ⟨Nat.le_of_ble_eq_true rfl, Nat.le_of_ble_eq_true rfl⟩ ⟨rfl, rfl⟩ ⟨Nat.le_refl _, Nat.le_refl _⟩ dX4_measure_37 <| hret (Int32.ofInt r_2) _ _ (qI hf) dX4_measure_40
  have hf := it_f hf hc
  have hc0 := hc
  by_cases hc : x2 = 1
  · have hf := it_t hf hc
    refine ztsIn (k := 1) (tgt := 41) hC.1 hC.2.1 dX4_measure_1 hc (by decide) rfl (by decide) ?_
    refine lv_aload_n hC.1 hC.2.1 dX4_measure_41 rfl (lv_at hl 0 rfl) <| gfX4_39 hC hK hP (q0 := 0) rfl rfl dX4_measure_42 <| ziload_n hC.1 hC.2.1 dX4_measure_45 rfl (lv_at hl 1 rfl) <| ?_
    obtain ⟨hz_3, hf⟩ := ck_some hf
    exact jal hC hK hP (q0 := 21) rfl (Nat.le_of_ble_eq_true rfl) hz_3 rfl dX4_measure_46 <| hret (Int32.ofInt (V 24 x1.toNat)) _ _ (qI hf) dX4_measure_47
  have hf := it_f hf hc
  have hc1 := hc
  by_cases hc : x2 = 2
  · have hf := it_t hf hc
    refine ztsIn (k := 2) (tgt := 48) hC.1 hC.2.1 dX4_measure_1 hc (by decide) rfl (by decide) ?_
    refine lv_aload_n hC.1 hC.2.1 dX4_measure_48 rfl (lv_at hl 0 rfl) <| gfX4_42 hC hK hP (q0 := 0) rfl rfl dX4_measure_49 <| ziload_n hC.1 hC.2.1 dX4_measure_52 rfl (lv_at hl 1 rfl) <| ?_
    obtain ⟨hz_4, hf⟩ := ck_some hf
    exact jal hC hK hP (q0 := 22) rfl (Nat.le_of_ble_eq_true rfl) hz_4 rfl dX4_measure_53 <| hret (Int32.ofInt (V 25 x1.toNat)) _ _ (qI hf) dX4_measure_54
  have hf := it_f hf hc
  have hc2 := hc
  by_cases hc : x2 = 3
  · have hf := it_t hf hc
    refine ztsIn (k := 3) (tgt := 55) hC.1 hC.2.1 dX4_measure_1 hc (by decide) rfl (by decide) ?_
    refine lv_aload_n hC.1 hC.2.1 dX4_measure_55 rfl (lv_at hl 0 rfl) <| gfX4_25 hC hK hP (q0 := 0) rfl rfl dX4_measure_56 <| gfX4_135 hC hK hP (q0 := 6) rfl rfl dX4_measure_59 <| ziload_n hC.1 hC.2.1 dX4_measure_62 rfl (lv_at hl 1 rfl) <| ?_
    obtain ⟨hz_5, hf⟩ := ck_some hf
    exact jal hC hK hP (q0 := 17) rfl (Nat.le_of_ble_eq_true rfl) hz_5 rfl dX4_measure_63 <| hret (Int32.ofInt (V 20 x1.toNat)) _ _ (qI hf) dX4_measure_64
  have hf := it_f hf hc
  have hc3 := hc
  refine ztsOut (tgt := 65) hC.1 hC.2.1 hz_1 dX4_measure_1 (by decide) (by omega) ?_
  exact ziconst hC.1 hC.2.1 dX4_measure_65 <| hret (Int32.ofInt 1) _ _ (qI hf) dX4_measure_66
theorem DX4_sumOfGift_0 : ∀ q ∈ ([(0, .iconst 0, 1), (1, .istore_n 3, 1), (2, .iconst 0, 1), (3, .istore 4, 2), (5, .iload 4, 2), (7, .aload_n 0, 1), (8, .getfield 25, 3), (11, .getfield 96, 3), (14, .iload_n 1, 1), (15, .iaload, 1), (16, .if_icmp .ge 23, 3), (19, .iload_n 3, 1), (20, .aload_n 0, 1), (21, .iload_n 1, 1), (22, .iconst 3, 1), (23, .imul, 1), (24, .iload 4, 2), (26, .iadd, 1), (27, .iload_n 2, 1), (28, .invokevirtual 138, 3), (31, .iadd, 1), (32, .istore_n 3, 1), (33, .iinc 4 1, 3), (36, .goto (-31), 3), (39, .iload_n 3, 1), (40, .ireturn, 1)] : List (Nat × Instr × Nat)), decode cX4_sumOfGift q.1 = .ok q.2 := by decide +kernel
theorem dX4_sumOfGift_0 : decode cX4_sumOfGift 0 = .ok (.iconst 0, 1) := DX4_sumOfGift_0 (0, .iconst 0, 1) (List.mem_of_getElem? (i := 0) rfl)
theorem dX4_sumOfGift_1 : decode cX4_sumOfGift 1 = .ok (.istore_n 3, 1) := DX4_sumOfGift_0 (1, .istore_n 3, 1) (List.mem_of_getElem? (i := 1) rfl)
theorem dX4_sumOfGift_2 : decode cX4_sumOfGift 2 = .ok (.iconst 0, 1) := DX4_sumOfGift_0 (2, .iconst 0, 1) (List.mem_of_getElem? (i := 2) rfl)
theorem dX4_sumOfGift_3 : decode cX4_sumOfGift 3 = .ok (.istore 4, 2) := DX4_sumOfGift_0 (3, .istore 4, 2) (List.mem_of_getElem? (i := 3) rfl)
theorem dX4_sumOfGift_5 : decode cX4_sumOfGift 5 = .ok (.iload 4, 2) := DX4_sumOfGift_0 (5, .iload 4, 2) (List.mem_of_getElem? (i := 4) rfl)
theorem dX4_sumOfGift_7 : decode cX4_sumOfGift 7 = .ok (.aload_n 0, 1) := DX4_sumOfGift_0 (7, .aload_n 0, 1) (List.mem_of_getElem? (i := 5) rfl)
theorem dX4_sumOfGift_8 : decode cX4_sumOfGift 8 = .ok (.getfield 25, 3) := DX4_sumOfGift_0 (8, .getfield 25, 3) (List.mem_of_getElem? (i := 6) rfl)
theorem dX4_sumOfGift_11 : decode cX4_sumOfGift 11 = .ok (.getfield 96, 3) := DX4_sumOfGift_0 (11, .getfield 96, 3) (List.mem_of_getElem? (i := 7) rfl)
theorem dX4_sumOfGift_14 : decode cX4_sumOfGift 14 = .ok (.iload_n 1, 1) := DX4_sumOfGift_0 (14, .iload_n 1, 1) (List.mem_of_getElem? (i := 8) rfl)
theorem dX4_sumOfGift_15 : decode cX4_sumOfGift 15 = .ok (.iaload, 1) := DX4_sumOfGift_0 (15, .iaload, 1) (List.mem_of_getElem? (i := 9) rfl)
theorem dX4_sumOfGift_16 : decode cX4_sumOfGift 16 = .ok (.if_icmp .ge 23, 3) := DX4_sumOfGift_0 (16, .if_icmp .ge 23, 3) (List.mem_of_getElem? (i := 10) rfl)
theorem dX4_sumOfGift_19 : decode cX4_sumOfGift 19 = .ok (.iload_n 3, 1) := DX4_sumOfGift_0 (19, .iload_n 3, 1) (List.mem_of_getElem? (i := 11) rfl)
theorem dX4_sumOfGift_20 : decode cX4_sumOfGift 20 = .ok (.aload_n 0, 1) := DX4_sumOfGift_0 (20, .aload_n 0, 1) (List.mem_of_getElem? (i := 12) rfl)
theorem dX4_sumOfGift_21 : decode cX4_sumOfGift 21 = .ok (.iload_n 1, 1) := DX4_sumOfGift_0 (21, .iload_n 1, 1) (List.mem_of_getElem? (i := 13) rfl)
theorem dX4_sumOfGift_22 : decode cX4_sumOfGift 22 = .ok (.iconst 3, 1) := DX4_sumOfGift_0 (22, .iconst 3, 1) (List.mem_of_getElem? (i := 14) rfl)
theorem dX4_sumOfGift_23 : decode cX4_sumOfGift 23 = .ok (.imul, 1) := DX4_sumOfGift_0 (23, .imul, 1) (List.mem_of_getElem? (i := 15) rfl)
theorem dX4_sumOfGift_24 : decode cX4_sumOfGift 24 = .ok (.iload 4, 2) := DX4_sumOfGift_0 (24, .iload 4, 2) (List.mem_of_getElem? (i := 16) rfl)
theorem dX4_sumOfGift_26 : decode cX4_sumOfGift 26 = .ok (.iadd, 1) := DX4_sumOfGift_0 (26, .iadd, 1) (List.mem_of_getElem? (i := 17) rfl)
theorem dX4_sumOfGift_27 : decode cX4_sumOfGift 27 = .ok (.iload_n 2, 1) := DX4_sumOfGift_0 (27, .iload_n 2, 1) (List.mem_of_getElem? (i := 18) rfl)
theorem dX4_sumOfGift_28 : decode cX4_sumOfGift 28 = .ok (.invokevirtual 138, 3) := DX4_sumOfGift_0 (28, .invokevirtual 138, 3) (List.mem_of_getElem? (i := 19) rfl)
theorem dX4_sumOfGift_31 : decode cX4_sumOfGift 31 = .ok (.iadd, 1) := DX4_sumOfGift_0 (31, .iadd, 1) (List.mem_of_getElem? (i := 20) rfl)
theorem dX4_sumOfGift_32 : decode cX4_sumOfGift 32 = .ok (.istore_n 3, 1) := DX4_sumOfGift_0 (32, .istore_n 3, 1) (List.mem_of_getElem? (i := 21) rfl)
theorem dX4_sumOfGift_33 : decode cX4_sumOfGift 33 = .ok (.iinc 4 1, 3) := DX4_sumOfGift_0 (33, .iinc 4 1, 3) (List.mem_of_getElem? (i := 22) rfl)
theorem dX4_sumOfGift_36 : decode cX4_sumOfGift 36 = .ok (.goto (-31), 3) := DX4_sumOfGift_0 (36, .goto (-31), 3) (List.mem_of_getElem? (i := 23) rfl)
theorem dX4_sumOfGift_39 : decode cX4_sumOfGift 39 = .ok (.iload_n 3, 1) := DX4_sumOfGift_0 (39, .iload_n 3, 1) (List.mem_of_getElem? (i := 24) rfl)
theorem dX4_sumOfGift_40 : decode cX4_sumOfGift 40 = .ok (.ireturn, 1) := DX4_sumOfGift_0 (40, .ireturn, 1) (List.mem_of_getElem? (i := 25) rfl)
abbrev rmX4_sumOfGift : Room := { frames := 2, cells := 0, slots := 0, locals := 43 }
set_option maxHeartbeats 400000 in
set_option maxRecDepth 100000 in
theorem met_X4_sumOfGift (l : Launch) (D : va_G) (kA : Nat → ClassId) (a : Nat → Nat) (n : Nat) (V : Sz) (x1 : Int) (x2 : Int) {r : Int} (hf : f_X4_sumOfGift n V x1 x2 = some r) : MP l yX4_sumOfGift cX4_sumOfGift 5 (some .int) rmX4_sumOfGift D kA [.ref (a 0), vI x1, vI x2] (cs_X4 kA a V) (some (vI r)) := by
  refine zPI (own := RX4) rfl rfl (Nat.le_of_ble_eq_true rfl) ?_
  intro p e s m args below meth c ls Q hC hK hP hl hret
  have hl : lv_has ls 5 [(0, .ref (a 0)), (1, vI x1), (2, vI x2)] := hl
  unfold f_X4_sumOfGift at hf
  have L5 : ∀ (k5 : Nat) (y3 : Int) (y4 : Int) (ls : Array Slot), lpF (bX4_sumOfGift_5 n V x1 x2) k5 (y3, y4) = some r → lv_has ls 5 [(0, .ref (a 0)), (1, vI x1), (2, vI x2), (3, vI y3), (4, vI y4)] → W p l e rmX4_sumOfGift s m args below meth c s.heap [] 0 0 Q (F0 m 5 ls []) := by
    intro k5
    induction k5 with
    | zero => intro y3 y4 ls hf hl; exact lp_0 hf
    | succ k5 ih5 =>
      intro y3 y4 ls hf hl
      have hf := lp_s hf
      rw [bX4_sumOfGift_5_e] at hf
      refine ziload hC.1 hC.2.1 dX4_sumOfGift_5 (lv_at hl 4 rfl) <| lv_aload_n hC.1 hC.2.1 dX4_sumOfGift_7 rfl (lv_at hl 0 rfl) <| gfX4_25 hC hK hP (q0 := 0) rfl rfl dX4_sumOfGift_8 <| gfX4_96 hC hK hP (q0 := 6) rfl rfl dX4_sumOfGift_11 <| ziload_n hC.1 hC.2.1 dX4_sumOfGift_14 rfl (lv_at hl 1 rfl) <| ?_
      obtain ⟨hz_1, hf⟩ := ck_some hf
      refine jal hC hK hP (q0 := 11) rfl (Nat.le_of_ble_eq_true rfl) hz_1 rfl dX4_sumOfGift_15 <| ?_
      obtain ⟨hz_2, hf⟩ := ck_some hf
      refine zicmp_ge (tgt := 39) hC.1 hC.2.1 ⟨hz_2.1, hz_2.2⟩ dX4_sumOfGift_16 (by decide) (fun hc => ?_) (fun hc => ?_)
      · have hf := it_t hf hc
        exact ziload_n hC.1 hC.2.1 dX4_sumOfGift_39 rfl (lv_at hl 3 rfl) <| hret (Int32.ofInt y3) _ _ (qI hf) dX4_sumOfGift_40
      · have hf := it_f hf hc
        refine ziload_n hC.1 hC.2.1 dX4_sumOfGift_19 rfl (lv_at hl 3 rfl) <| lv_aload_n hC.1 hC.2.1 dX4_sumOfGift_20 rfl (lv_at hl 0 rfl) <| ziload_n hC.1 hC.2.1 dX4_sumOfGift_21 rfl (lv_at hl 1 rfl) <| ziconst hC.1 hC.2.1 dX4_sumOfGift_22 <| zimul hC.1 hC.2.1 dX4_sumOfGift_23 <| ziload hC.1 hC.2.1 dX4_sumOfGift_24 (lv_at hl 4 rfl) <| ziadd hC.1 hC.2.1 dX4_sumOfGift_26 <| ziload_n hC.1 hC.2.1 dX4_sumOfGift_27 rfl (lv_at hl 2 rfl) <| ?_
        obtain ⟨r_3, hu, hf⟩ := bd_some hf
        refine zcVP (As := [vI ((x1 * 3) + y4), vI x2]) (rest := [vI y3]) hC hK (met_X4_measure l D kA a V ((x1 * 3) + y4) x2 hu) zwX4_138 hP (q0 := 0) rfl rfl rfl rfl hl.1 rfl (Nat.le_of_ble_eq_true rfl) ⟨Nat.le_of_ble_eq_true rfl, Nat.le_of_ble_eq_true rfl⟩ ⟨rfl, rfl⟩ ⟨Nat.le_refl _, Nat.le_refl _⟩ dX4_sumOfGift_28 <| ziadd hC.1 hC.2.1 dX4_sumOfGift_31 <| ?_
        refine ztopi (fun x_4 ex_4 => ?_)
        have hf := nm_at hf ex_4
        refine zistore_n (lv' := [(3, vI x_4), (0, .ref (a 0)), (1, vI x1), (2, vI x2), (4, vI y4)]) hC.1 hC.2.1 dX4_sumOfGift_32 rfl hl (by decide) rfl (fun ls hl => ?_)
        obtain ⟨x_5, ex_5⟩ : ∃ y : Int, y = y4 + 1 := ⟨_, rfl⟩
        have hf := nm_at hf ex_5
        refine ziinc (v := x_5) (lv' := [(4, vI x_5), (3, vI x_4), (0, .ref (a 0)), (1, vI x1), (2, vI x2)]) hC.1 hC.2.1 dX4_sumOfGift_33 hl (k := 4) rfl ex_5 (by decide) rfl (fun ls hl => ?_)
        exact lv_goto (tgt := 5) hC.1 hC.2.1 dX4_sumOfGift_36 (by decide) <| ih5 _ _ _ hf (lv_sub hl [2, 3, 4, 1, 0] rfl)
  refine ziconst hC.1 hC.2.1 dX4_sumOfGift_0 <| zistore_n (lv' := [(3, vI 0), (0, .ref (a 0)), (1, vI x1), (2, vI x2)]) hC.1 hC.2.1 dX4_sumOfGift_1 rfl hl (by decide) rfl (fun ls hl => ?_)
  refine ziconst hC.1 hC.2.1 dX4_sumOfGift_2 <| zistore (lv' := [(4, vI 0), (3, vI 0), (0, .ref (a 0)), (1, vI x1), (2, vI x2)]) hC.1 hC.2.1 dX4_sumOfGift_3 hl (by decide) rfl (fun ls hl => ?_)
  exact L5 n _ _ _ hf (lv_sub hl [2, 3, 4, 1, 0] rfl)
theorem DX4_sumOfAll_0 : ∀ q ∈ ([(0, .iconst 0, 1), (1, .istore_n 2, 1), (2, .iconst 0, 1), (3, .istore_n 3, 1), (4, .iload_n 3, 1), (5, .aload_n 0, 1), (6, .getfield 25, 3), (9, .getfield 81, 3), (12, .if_icmp .ge 18, 3), (15, .iload_n 2, 1), (16, .aload_n 0, 1), (17, .iload_n 3, 1), (18, .iload_n 1, 1), (19, .invokevirtual 141, 3), (22, .iadd, 1), (23, .istore_n 2, 1), (24, .iinc 3 1, 3), (27, .goto (-23), 3), (30, .iload_n 2, 1), (31, .ireturn, 1)] : List (Nat × Instr × Nat)), decode cX4_sumOfAll q.1 = .ok q.2 := by decide +kernel
theorem dX4_sumOfAll_0 : decode cX4_sumOfAll 0 = .ok (.iconst 0, 1) := DX4_sumOfAll_0 (0, .iconst 0, 1) (List.mem_of_getElem? (i := 0) rfl)
theorem dX4_sumOfAll_1 : decode cX4_sumOfAll 1 = .ok (.istore_n 2, 1) := DX4_sumOfAll_0 (1, .istore_n 2, 1) (List.mem_of_getElem? (i := 1) rfl)
theorem dX4_sumOfAll_2 : decode cX4_sumOfAll 2 = .ok (.iconst 0, 1) := DX4_sumOfAll_0 (2, .iconst 0, 1) (List.mem_of_getElem? (i := 2) rfl)
theorem dX4_sumOfAll_3 : decode cX4_sumOfAll 3 = .ok (.istore_n 3, 1) := DX4_sumOfAll_0 (3, .istore_n 3, 1) (List.mem_of_getElem? (i := 3) rfl)
theorem dX4_sumOfAll_4 : decode cX4_sumOfAll 4 = .ok (.iload_n 3, 1) := DX4_sumOfAll_0 (4, .iload_n 3, 1) (List.mem_of_getElem? (i := 4) rfl)
theorem dX4_sumOfAll_5 : decode cX4_sumOfAll 5 = .ok (.aload_n 0, 1) := DX4_sumOfAll_0 (5, .aload_n 0, 1) (List.mem_of_getElem? (i := 5) rfl)
theorem dX4_sumOfAll_6 : decode cX4_sumOfAll 6 = .ok (.getfield 25, 3) := DX4_sumOfAll_0 (6, .getfield 25, 3) (List.mem_of_getElem? (i := 6) rfl)
theorem dX4_sumOfAll_9 : decode cX4_sumOfAll 9 = .ok (.getfield 81, 3) := DX4_sumOfAll_0 (9, .getfield 81, 3) (List.mem_of_getElem? (i := 7) rfl)
theorem dX4_sumOfAll_12 : decode cX4_sumOfAll 12 = .ok (.if_icmp .ge 18, 3) := DX4_sumOfAll_0 (12, .if_icmp .ge 18, 3) (List.mem_of_getElem? (i := 8) rfl)
theorem dX4_sumOfAll_15 : decode cX4_sumOfAll 15 = .ok (.iload_n 2, 1) := DX4_sumOfAll_0 (15, .iload_n 2, 1) (List.mem_of_getElem? (i := 9) rfl)
theorem dX4_sumOfAll_16 : decode cX4_sumOfAll 16 = .ok (.aload_n 0, 1) := DX4_sumOfAll_0 (16, .aload_n 0, 1) (List.mem_of_getElem? (i := 10) rfl)
theorem dX4_sumOfAll_17 : decode cX4_sumOfAll 17 = .ok (.iload_n 3, 1) := DX4_sumOfAll_0 (17, .iload_n 3, 1) (List.mem_of_getElem? (i := 11) rfl)
theorem dX4_sumOfAll_18 : decode cX4_sumOfAll 18 = .ok (.iload_n 1, 1) := DX4_sumOfAll_0 (18, .iload_n 1, 1) (List.mem_of_getElem? (i := 12) rfl)
theorem dX4_sumOfAll_19 : decode cX4_sumOfAll 19 = .ok (.invokevirtual 141, 3) := DX4_sumOfAll_0 (19, .invokevirtual 141, 3) (List.mem_of_getElem? (i := 13) rfl)
theorem dX4_sumOfAll_22 : decode cX4_sumOfAll 22 = .ok (.iadd, 1) := DX4_sumOfAll_0 (22, .iadd, 1) (List.mem_of_getElem? (i := 14) rfl)
theorem dX4_sumOfAll_23 : decode cX4_sumOfAll 23 = .ok (.istore_n 2, 1) := DX4_sumOfAll_0 (23, .istore_n 2, 1) (List.mem_of_getElem? (i := 15) rfl)
theorem dX4_sumOfAll_24 : decode cX4_sumOfAll 24 = .ok (.iinc 3 1, 3) := DX4_sumOfAll_0 (24, .iinc 3 1, 3) (List.mem_of_getElem? (i := 16) rfl)
theorem dX4_sumOfAll_27 : decode cX4_sumOfAll 27 = .ok (.goto (-23), 3) := DX4_sumOfAll_0 (27, .goto (-23), 3) (List.mem_of_getElem? (i := 17) rfl)
theorem dX4_sumOfAll_30 : decode cX4_sumOfAll 30 = .ok (.iload_n 2, 1) := DX4_sumOfAll_0 (30, .iload_n 2, 1) (List.mem_of_getElem? (i := 18) rfl)
theorem dX4_sumOfAll_31 : decode cX4_sumOfAll 31 = .ok (.ireturn, 1) := DX4_sumOfAll_0 (31, .ireturn, 1) (List.mem_of_getElem? (i := 19) rfl)
abbrev rmX4_sumOfAll : Room := { frames := 3, cells := 0, slots := 0, locals := 67 }
set_option maxHeartbeats 400000 in
set_option maxRecDepth 100000 in
theorem met_X4_sumOfAll (l : Launch) (D : va_G) (kA : Nat → ClassId) (a : Nat → Nat) (n : Nat) (V : Sz) (x1 : Int) {r : Int} (hf : f_X4_sumOfAll n V x1 = some r) : MP l yX4_sumOfAll cX4_sumOfAll 4 (some .int) rmX4_sumOfAll D kA [.ref (a 0), vI x1] (cs_X4 kA a V) (some (vI r)) := by
  refine zPI (own := RX4) rfl rfl (Nat.le_of_ble_eq_true rfl) ?_
  intro p e s m args below meth c ls Q hC hK hP hl hret
  have hl : lv_has ls 4 [(0, .ref (a 0)), (1, vI x1)] := hl
  unfold f_X4_sumOfAll at hf
  have L4 : ∀ (k4 : Nat) (y2 : Int) (y3 : Int) (ls : Array Slot), lpF (bX4_sumOfAll_4 n V x1) k4 (y2, y3) = some r → lv_has ls 4 [(0, .ref (a 0)), (1, vI x1), (2, vI y2), (3, vI y3)] → W p l e rmX4_sumOfAll s m args below meth c s.heap [] 0 0 Q (F0 m 4 ls []) := by
    intro k4
    induction k4 with
    | zero => intro y2 y3 ls hf hl; exact lp_0 hf
    | succ k4 ih4 =>
      intro y2 y3 ls hf hl
      have hf := lp_s hf
      rw [bX4_sumOfAll_4_e] at hf
      refine ziload_n hC.1 hC.2.1 dX4_sumOfAll_4 rfl (lv_at hl 3 rfl) <| lv_aload_n hC.1 hC.2.1 dX4_sumOfAll_5 rfl (lv_at hl 0 rfl) <| gfX4_25 hC hK hP (q0 := 0) rfl rfl dX4_sumOfAll_6 <| gfX4_81 hC hK hP (q0 := 6) rfl rfl dX4_sumOfAll_9 <| ?_
      obtain ⟨hz_1, hf⟩ := ck_some hf
      refine zicmp_ge (tgt := 30) hC.1 hC.2.1 ⟨hz_1.1, hz_1.2⟩ dX4_sumOfAll_12 (by decide) (fun hc => ?_) (fun hc => ?_)
      · have hf := it_t hf hc
        exact ziload_n hC.1 hC.2.1 dX4_sumOfAll_30 rfl (lv_at hl 2 rfl) <| hret (Int32.ofInt y2) _ _ (qI hf) dX4_sumOfAll_31
      · have hf := it_f hf hc
        refine ziload_n hC.1 hC.2.1 dX4_sumOfAll_15 rfl (lv_at hl 2 rfl) <| lv_aload_n hC.1 hC.2.1 dX4_sumOfAll_16 rfl (lv_at hl 0 rfl) <| ziload_n hC.1 hC.2.1 dX4_sumOfAll_17 rfl (lv_at hl 3 rfl) <| ziload_n hC.1 hC.2.1 dX4_sumOfAll_18 rfl (lv_at hl 1 rfl) <| ?_
        obtain ⟨r_2, hu, hf⟩ := bd_some hf
        refine zcVP (As := [vI y3, vI x1]) (rest := [vI y2]) hC hK (met_X4_sumOfGift l D kA a n V y3 x1 hu) zwX4_141 hP (q0 := 0) rfl rfl rfl rfl hl.1 rfl (Nat.le_of_ble_eq_true rfl) ⟨Nat.le_of_ble_eq_true rfl, Nat.le_of_ble_eq_true rfl⟩ ⟨rfl, rfl⟩ ⟨Nat.le_refl _, Nat.le_refl _⟩ dX4_sumOfAll_19 <| ziadd hC.1 hC.2.1 dX4_sumOfAll_22 <| ?_
        refine ztopi (fun x_3 ex_3 => ?_)
        have hf := nm_at hf ex_3
        refine zistore_n (lv' := [(2, vI x_3), (0, .ref (a 0)), (1, vI x1), (3, vI y3)]) hC.1 hC.2.1 dX4_sumOfAll_23 rfl hl (by decide) rfl (fun ls hl => ?_)
        obtain ⟨x_4, ex_4⟩ : ∃ y : Int, y = y3 + 1 := ⟨_, rfl⟩
        have hf := nm_at hf ex_4
        refine ziinc (v := x_4) (lv' := [(3, vI x_4), (2, vI x_3), (0, .ref (a 0)), (1, vI x1)]) hC.1 hC.2.1 dX4_sumOfAll_24 hl (k := 3) rfl ex_4 (by decide) rfl (fun ls hl => ?_)
        exact lv_goto (tgt := 4) hC.1 hC.2.1 dX4_sumOfAll_27 (by decide) <| ih4 _ _ _ hf (lv_sub hl [2, 3, 1, 0] rfl)
  refine ziconst hC.1 hC.2.1 dX4_sumOfAll_0 <| zistore_n (lv' := [(2, vI 0), (0, .ref (a 0)), (1, vI x1)]) hC.1 hC.2.1 dX4_sumOfAll_1 rfl hl (by decide) rfl (fun ls hl => ?_)
  refine ziconst hC.1 hC.2.1 dX4_sumOfAll_2 <| zistore_n (lv' := [(3, vI 0), (2, vI 0), (0, .ref (a 0)), (1, vI x1)]) hC.1 hC.2.1 dX4_sumOfAll_3 rfl hl (by decide) rfl (fun ls hl => ?_)
  exact L4 n _ _ _ hf (lv_sub hl [2, 3, 1, 0] rfl)
theorem DX4_sumOfDonor_0 : ∀ q ∈ ([(0, .iconst 0, 1), (1, .istore 4, 2), (3, .iconst 0, 1), (4, .istore 5, 2), (6, .iload 5, 2), (8, .aload_n 0, 1), (9, .getfield 25, 3), (12, .invokevirtual 144, 3), (15, .if_icmp .ge 66, 3), (18, .iload_n 3, 1), (19, .iconst (-1), 1), (20, .if_icmp .eq 18, 3), (23, .aload_n 0, 1), (24, .getfield 25, 3), (27, .iload 5, 2), (29, .iconst 3, 1), (30, .idiv, 1), (31, .invokevirtual 86, 3), (34, .iload_n 3, 1), (35, .if_icmp .ne 7, 3), (38, .iconst 1, 1), (39, .goto 4, 3), (42, .iconst 0, 1), (43, .istore 6, 2), (45, .iload 6, 2), (47, .ifCond .eq 28, 3), (50, .aload_n 0, 1), (51, .getfield 25, 3), (54, .iload 5, 2), (56, .iload_n 1, 1), (57, .invokevirtual 148, 3), (60, .ifCond .eq 15, 3), (63, .iload 4, 2), (65, .aload_n 0, 1), (66, .iload 5, 2), (68, .iload_n 2, 1), (69, .invokevirtual 138, 3), (72, .iadd, 1), (73, .istore 4, 2), (75, .iinc 5 1, 3)] : List (Nat × Instr × Nat)), decode cX4_sumOfDonor q.1 = .ok q.2 := by decide +kernel
theorem dX4_sumOfDonor_0 : decode cX4_sumOfDonor 0 = .ok (.iconst 0, 1) := DX4_sumOfDonor_0 (0, .iconst 0, 1) (List.mem_of_getElem? (i := 0) rfl)
theorem dX4_sumOfDonor_1 : decode cX4_sumOfDonor 1 = .ok (.istore 4, 2) := DX4_sumOfDonor_0 (1, .istore 4, 2) (List.mem_of_getElem? (i := 1) rfl)
theorem dX4_sumOfDonor_3 : decode cX4_sumOfDonor 3 = .ok (.iconst 0, 1) := DX4_sumOfDonor_0 (3, .iconst 0, 1) (List.mem_of_getElem? (i := 2) rfl)
theorem dX4_sumOfDonor_4 : decode cX4_sumOfDonor 4 = .ok (.istore 5, 2) := DX4_sumOfDonor_0 (4, .istore 5, 2) (List.mem_of_getElem? (i := 3) rfl)
theorem dX4_sumOfDonor_6 : decode cX4_sumOfDonor 6 = .ok (.iload 5, 2) := DX4_sumOfDonor_0 (6, .iload 5, 2) (List.mem_of_getElem? (i := 4) rfl)
theorem dX4_sumOfDonor_8 : decode cX4_sumOfDonor 8 = .ok (.aload_n 0, 1) := DX4_sumOfDonor_0 (8, .aload_n 0, 1) (List.mem_of_getElem? (i := 5) rfl)
theorem dX4_sumOfDonor_9 : decode cX4_sumOfDonor 9 = .ok (.getfield 25, 3) := DX4_sumOfDonor_0 (9, .getfield 25, 3) (List.mem_of_getElem? (i := 6) rfl)
theorem dX4_sumOfDonor_12 : decode cX4_sumOfDonor 12 = .ok (.invokevirtual 144, 3) := DX4_sumOfDonor_0 (12, .invokevirtual 144, 3) (List.mem_of_getElem? (i := 7) rfl)
theorem dX4_sumOfDonor_15 : decode cX4_sumOfDonor 15 = .ok (.if_icmp .ge 66, 3) := DX4_sumOfDonor_0 (15, .if_icmp .ge 66, 3) (List.mem_of_getElem? (i := 8) rfl)
theorem dX4_sumOfDonor_18 : decode cX4_sumOfDonor 18 = .ok (.iload_n 3, 1) := DX4_sumOfDonor_0 (18, .iload_n 3, 1) (List.mem_of_getElem? (i := 9) rfl)
theorem dX4_sumOfDonor_19 : decode cX4_sumOfDonor 19 = .ok (.iconst (-1), 1) := DX4_sumOfDonor_0 (19, .iconst (-1), 1) (List.mem_of_getElem? (i := 10) rfl)
theorem dX4_sumOfDonor_20 : decode cX4_sumOfDonor 20 = .ok (.if_icmp .eq 18, 3) := DX4_sumOfDonor_0 (20, .if_icmp .eq 18, 3) (List.mem_of_getElem? (i := 11) rfl)
theorem dX4_sumOfDonor_23 : decode cX4_sumOfDonor 23 = .ok (.aload_n 0, 1) := DX4_sumOfDonor_0 (23, .aload_n 0, 1) (List.mem_of_getElem? (i := 12) rfl)
theorem dX4_sumOfDonor_24 : decode cX4_sumOfDonor 24 = .ok (.getfield 25, 3) := DX4_sumOfDonor_0 (24, .getfield 25, 3) (List.mem_of_getElem? (i := 13) rfl)
theorem dX4_sumOfDonor_27 : decode cX4_sumOfDonor 27 = .ok (.iload 5, 2) := DX4_sumOfDonor_0 (27, .iload 5, 2) (List.mem_of_getElem? (i := 14) rfl)
theorem dX4_sumOfDonor_29 : decode cX4_sumOfDonor 29 = .ok (.iconst 3, 1) := DX4_sumOfDonor_0 (29, .iconst 3, 1) (List.mem_of_getElem? (i := 15) rfl)
theorem dX4_sumOfDonor_30 : decode cX4_sumOfDonor 30 = .ok (.idiv, 1) := DX4_sumOfDonor_0 (30, .idiv, 1) (List.mem_of_getElem? (i := 16) rfl)
theorem dX4_sumOfDonor_31 : decode cX4_sumOfDonor 31 = .ok (.invokevirtual 86, 3) := DX4_sumOfDonor_0 (31, .invokevirtual 86, 3) (List.mem_of_getElem? (i := 17) rfl)
theorem dX4_sumOfDonor_34 : decode cX4_sumOfDonor 34 = .ok (.iload_n 3, 1) := DX4_sumOfDonor_0 (34, .iload_n 3, 1) (List.mem_of_getElem? (i := 18) rfl)
theorem dX4_sumOfDonor_35 : decode cX4_sumOfDonor 35 = .ok (.if_icmp .ne 7, 3) := DX4_sumOfDonor_0 (35, .if_icmp .ne 7, 3) (List.mem_of_getElem? (i := 19) rfl)
theorem dX4_sumOfDonor_38 : decode cX4_sumOfDonor 38 = .ok (.iconst 1, 1) := DX4_sumOfDonor_0 (38, .iconst 1, 1) (List.mem_of_getElem? (i := 20) rfl)
theorem dX4_sumOfDonor_39 : decode cX4_sumOfDonor 39 = .ok (.goto 4, 3) := DX4_sumOfDonor_0 (39, .goto 4, 3) (List.mem_of_getElem? (i := 21) rfl)
theorem dX4_sumOfDonor_42 : decode cX4_sumOfDonor 42 = .ok (.iconst 0, 1) := DX4_sumOfDonor_0 (42, .iconst 0, 1) (List.mem_of_getElem? (i := 22) rfl)
theorem dX4_sumOfDonor_43 : decode cX4_sumOfDonor 43 = .ok (.istore 6, 2) := DX4_sumOfDonor_0 (43, .istore 6, 2) (List.mem_of_getElem? (i := 23) rfl)
theorem dX4_sumOfDonor_45 : decode cX4_sumOfDonor 45 = .ok (.iload 6, 2) := DX4_sumOfDonor_0 (45, .iload 6, 2) (List.mem_of_getElem? (i := 24) rfl)
theorem dX4_sumOfDonor_47 : decode cX4_sumOfDonor 47 = .ok (.ifCond .eq 28, 3) := DX4_sumOfDonor_0 (47, .ifCond .eq 28, 3) (List.mem_of_getElem? (i := 25) rfl)
theorem dX4_sumOfDonor_50 : decode cX4_sumOfDonor 50 = .ok (.aload_n 0, 1) := DX4_sumOfDonor_0 (50, .aload_n 0, 1) (List.mem_of_getElem? (i := 26) rfl)
theorem dX4_sumOfDonor_51 : decode cX4_sumOfDonor 51 = .ok (.getfield 25, 3) := DX4_sumOfDonor_0 (51, .getfield 25, 3) (List.mem_of_getElem? (i := 27) rfl)
theorem dX4_sumOfDonor_54 : decode cX4_sumOfDonor 54 = .ok (.iload 5, 2) := DX4_sumOfDonor_0 (54, .iload 5, 2) (List.mem_of_getElem? (i := 28) rfl)
theorem dX4_sumOfDonor_56 : decode cX4_sumOfDonor 56 = .ok (.iload_n 1, 1) := DX4_sumOfDonor_0 (56, .iload_n 1, 1) (List.mem_of_getElem? (i := 29) rfl)
theorem dX4_sumOfDonor_57 : decode cX4_sumOfDonor 57 = .ok (.invokevirtual 148, 3) := DX4_sumOfDonor_0 (57, .invokevirtual 148, 3) (List.mem_of_getElem? (i := 30) rfl)
theorem dX4_sumOfDonor_60 : decode cX4_sumOfDonor 60 = .ok (.ifCond .eq 15, 3) := DX4_sumOfDonor_0 (60, .ifCond .eq 15, 3) (List.mem_of_getElem? (i := 31) rfl)
theorem dX4_sumOfDonor_63 : decode cX4_sumOfDonor 63 = .ok (.iload 4, 2) := DX4_sumOfDonor_0 (63, .iload 4, 2) (List.mem_of_getElem? (i := 32) rfl)
theorem dX4_sumOfDonor_65 : decode cX4_sumOfDonor 65 = .ok (.aload_n 0, 1) := DX4_sumOfDonor_0 (65, .aload_n 0, 1) (List.mem_of_getElem? (i := 33) rfl)
theorem dX4_sumOfDonor_66 : decode cX4_sumOfDonor 66 = .ok (.iload 5, 2) := DX4_sumOfDonor_0 (66, .iload 5, 2) (List.mem_of_getElem? (i := 34) rfl)
theorem dX4_sumOfDonor_68 : decode cX4_sumOfDonor 68 = .ok (.iload_n 2, 1) := DX4_sumOfDonor_0 (68, .iload_n 2, 1) (List.mem_of_getElem? (i := 35) rfl)
theorem dX4_sumOfDonor_69 : decode cX4_sumOfDonor 69 = .ok (.invokevirtual 138, 3) := DX4_sumOfDonor_0 (69, .invokevirtual 138, 3) (List.mem_of_getElem? (i := 36) rfl)
theorem dX4_sumOfDonor_72 : decode cX4_sumOfDonor 72 = .ok (.iadd, 1) := DX4_sumOfDonor_0 (72, .iadd, 1) (List.mem_of_getElem? (i := 37) rfl)
theorem dX4_sumOfDonor_73 : decode cX4_sumOfDonor 73 = .ok (.istore 4, 2) := DX4_sumOfDonor_0 (73, .istore 4, 2) (List.mem_of_getElem? (i := 38) rfl)
theorem dX4_sumOfDonor_75 : decode cX4_sumOfDonor 75 = .ok (.iinc 5 1, 3) := DX4_sumOfDonor_0 (75, .iinc 5 1, 3) (List.mem_of_getElem? (i := 39) rfl)
theorem DX4_sumOfDonor_1 : ∀ q ∈ ([(78, .goto (-72), 3), (81, .iload 4, 2), (83, .ireturn, 1)] : List (Nat × Instr × Nat)), decode cX4_sumOfDonor q.1 = .ok q.2 := by decide +kernel
theorem dX4_sumOfDonor_78 : decode cX4_sumOfDonor 78 = .ok (.goto (-72), 3) := DX4_sumOfDonor_1 (78, .goto (-72), 3) (List.mem_of_getElem? (i := 0) rfl)
theorem dX4_sumOfDonor_81 : decode cX4_sumOfDonor 81 = .ok (.iload 4, 2) := DX4_sumOfDonor_1 (81, .iload 4, 2) (List.mem_of_getElem? (i := 1) rfl)
theorem dX4_sumOfDonor_83 : decode cX4_sumOfDonor 83 = .ok (.ireturn, 1) := DX4_sumOfDonor_1 (83, .ireturn, 1) (List.mem_of_getElem? (i := 2) rfl)
abbrev rmX4_sumOfDonor : Room := { frames := 2, cells := 0, slots := 0, locals := 43 }
set_option maxHeartbeats 400000 in
set_option maxRecDepth 100000 in
theorem met_X4_sumOfDonor (l : Launch) (D : va_G) (kA : Nat → ClassId) (a : Nat → Nat) (n : Nat) (V : Sz) (x1 : Int) (x2 : Int) (x3 : Int) {r : Int} (hf : f_X4_sumOfDonor n V x1 x2 x3 = some r) : MP l yX4_sumOfDonor cX4_sumOfDonor 7 (some .int) rmX4_sumOfDonor D kA [.ref (a 0), vI x1, vI x2, vI x3] (cs_X4 kA a V) (some (vI r)) := by
  refine zPI (own := RX4) rfl rfl (Nat.le_of_ble_eq_true rfl) ?_
  intro p e s m args below meth c ls Q hC hK hP hl hret
  have hl : lv_has ls 7 [(0, .ref (a 0)), (1, vI x1), (2, vI x2), (3, vI x3)] := hl
  unfold f_X4_sumOfDonor at hf
  have L6 : ∀ (k6 : Nat) (y4 : Int) (y5 : Int) (ls : Array Slot), lpF (bX4_sumOfDonor_6 n V x1 x2 x3) k6 (y4, y5) = some r → lv_has ls 7 [(0, .ref (a 0)), (1, vI x1), (2, vI x2), (3, vI x3), (4, vI y4), (5, vI y5)] → W p l e rmX4_sumOfDonor s m args below meth c s.heap [] 0 0 Q (F0 m 6 ls []) := by
    intro k6
    induction k6 with
    | zero => intro y4 y5 ls hf hl; exact lp_0 hf
    | succ k6 ih6 =>
      intro y4 y5 ls hf hl
      have hf := lp_s hf
      rw [bX4_sumOfDonor_6_e] at hf
      have J75 : ∀ (y4 : Int) (y5 : Int) (ls : Array Slot), jX4_sumOfDonor_75 n V x1 x2 x3 (lpF (bX4_sumOfDonor_6 n V x1 x2 x3) k6) y4 y5 = some r → lv_has ls 7 [(0, .ref (a 0)), (1, vI x1), (2, vI x2), (3, vI x3), (4, vI y4), (5, vI y5)] → W p l e rmX4_sumOfDonor s m args below meth c s.heap [] 0 0 Q (F0 m 75 ls []) := by
        intro y4 y5 ls hf hl
        unfold jX4_sumOfDonor_75 at hf
        obtain ⟨x_5, ex_5⟩ : ∃ y : Int, y = y5 + 1 := ⟨_, rfl⟩
        have hf := nm_at hf ex_5
        refine ziinc (v := x_5) (lv' := [(5, vI x_5), (0, .ref (a 0)), (1, vI x1), (2, vI x2), (3, vI x3), (4, vI y4)]) hC.1 hC.2.1 dX4_sumOfDonor_75 hl (k := 5) rfl ex_5 (by decide) rfl (fun ls hl => ?_)
        exact lv_goto (tgt := 6) hC.1 hC.2.1 dX4_sumOfDonor_78 (by decide) <| ih6 _ _ _ hf (lv_sub hl [1, 2, 3, 4, 5, 0] rfl)
      have J43 : ∀ (y4 : Int) (y5 : Int) (z0 : Int) (ls : Array Slot), jX4_sumOfDonor_43 n V x1 x2 x3 (lpF (bX4_sumOfDonor_6 n V x1 x2 x3) k6) y4 y5 z0 = some r → lv_has ls 7 [(0, .ref (a 0)), (1, vI x1), (2, vI x2), (3, vI x3), (4, vI y4), (5, vI y5)] → W p l e rmX4_sumOfDonor s m args below meth c s.heap [] 0 0 Q (F0 m 43 ls [vI z0]) := by
        intro y4 y5 z0 ls hf hl
        unfold jX4_sumOfDonor_43 at hf
        refine zistore (lv' := [(6, vI z0), (0, .ref (a 0)), (1, vI x1), (2, vI x2), (3, vI x3), (4, vI y4), (5, vI y5)]) hC.1 hC.2.1 dX4_sumOfDonor_43 hl (by decide) rfl (fun ls hl => ?_)
        refine ziload hC.1 hC.2.1 dX4_sumOfDonor_45 (lv_at hl 0 rfl) <| ?_
        obtain ⟨hz_4, hf⟩ := ck_some hf
        refine zif_eq (tgt := 75) hC.1 hC.2.1 hz_4 dX4_sumOfDonor_47 (by decide) (fun hc => ?_) (fun hc => ?_)
        · have hf := it_t hf hc
          exact J75 _ _ _ hf (lv_sub hl [1, 2, 3, 4, 5, 6] rfl)
        · have hf := it_f hf hc
          refine lv_aload_n hC.1 hC.2.1 dX4_sumOfDonor_50 rfl (lv_at hl 1 rfl) <| gfX4_25 hC hK hP (q0 := 0) rfl rfl dX4_sumOfDonor_51 <| ziload hC.1 hC.2.1 dX4_sumOfDonor_54 (lv_at hl 6 rfl) <| ziload_n hC.1 hC.2.1 dX4_sumOfDonor_56 rfl (lv_at hl 2 rfl) <| ?_
          obtain ⟨r_6, hu, hf⟩ := bd_some hf
          have hPc : va_P D vwCl (cs_X3 kA (sv 6 a) (sv 9 V)) _ := hP.sub [6, 7, 8, 9, 10, 11, 12, 13, 14, 15, 16, 17] rfl
          refine zcVP (As := [vI y5, vI x1]) (rest := []) hC hK (met_X3_isPartOf l D kA (sv 6 a) (sv 9 V) y5 x1 hu) zwX4_148 hPc (q0 := 0) rfl rfl rfl rfl hl.1 rfl (Nat.le_of_ble_eq_true rfl) ⟨Nat.le_of_ble_eq_true rfl, Nat.le_of_ble_eq_true rfl⟩ ⟨rfl, rfl⟩ ⟨Nat.le_refl _, Nat.le_refl _⟩ dX4_sumOfDonor_57 <| zifb_eq (tgt := 75) hC.1 hC.2.1 dX4_sumOfDonor_60 (by decide) (fun hc => ?_) (fun hc => ?_)
          · have hf := it_t hf hc
            exact J75 _ _ _ hf (lv_sub hl [1, 2, 3, 4, 5, 6] rfl)
          · have hf := it_f hf hc
            refine ziload hC.1 hC.2.1 dX4_sumOfDonor_63 (lv_at hl 5 rfl) <| lv_aload_n hC.1 hC.2.1 dX4_sumOfDonor_65 rfl (lv_at hl 1 rfl) <| ziload hC.1 hC.2.1 dX4_sumOfDonor_66 (lv_at hl 6 rfl) <| ziload_n hC.1 hC.2.1 dX4_sumOfDonor_68 rfl (lv_at hl 3 rfl) <| ?_
            obtain ⟨r_7, hu, hf⟩ := bd_some hf
            refine zcVP (As := [vI y5, vI x2]) (rest := [vI y4]) hC hK (met_X4_measure l D kA a V y5 x2 hu) zwX4_138 hP (q0 := 0) rfl rfl rfl rfl hl.1 rfl (Nat.le_of_ble_eq_true rfl) ⟨Nat.le_of_ble_eq_true rfl, Nat.le_of_ble_eq_true rfl⟩ ⟨rfl, rfl⟩ ⟨Nat.le_refl _, Nat.le_refl _⟩ dX4_sumOfDonor_69 <| ziadd hC.1 hC.2.1 dX4_sumOfDonor_72 <| ?_
            refine ztopi (fun x_8 ex_8 => ?_)
            have hf := nm_at hf ex_8
            refine zistore (lv' := [(4, vI x_8), (6, vI z0), (0, .ref (a 0)), (1, vI x1), (2, vI x2), (3, vI x3), (5, vI y5)]) hC.1 hC.2.1 dX4_sumOfDonor_73 hl (by decide) rfl (fun ls hl => ?_)
            exact J75 _ _ _ hf (lv_sub hl [2, 3, 4, 5, 0, 6] rfl)
      have J38 : ∀ (y4 : Int) (y5 : Int) (ls : Array Slot), jX4_sumOfDonor_38 n V x1 x2 x3 (lpF (bX4_sumOfDonor_6 n V x1 x2 x3) k6) y4 y5 = some r → lv_has ls 7 [(0, .ref (a 0)), (1, vI x1), (2, vI x2), (3, vI x3), (4, vI y4), (5, vI y5)] → W p l e rmX4_sumOfDonor s m args below meth c s.heap [] 0 0 Q (F0 m 38 ls []) := by
        intro y4 y5 ls hf hl
        unfold jX4_sumOfDonor_38 at hf
        exact ziconst hC.1 hC.2.1 dX4_sumOfDonor_38 <| lv_goto (tgt := 43) hC.1 hC.2.1 dX4_sumOfDonor_39 (by decide) <| J43 _ _ _ _ hf (lv_sub hl [0, 1, 2, 3, 4, 5] rfl)
      refine ziload hC.1 hC.2.1 dX4_sumOfDonor_6 (lv_at hl 5 rfl) <| lv_aload_n hC.1 hC.2.1 dX4_sumOfDonor_8 rfl (lv_at hl 0 rfl) <| gfX4_25 hC hK hP (q0 := 0) rfl rfl dX4_sumOfDonor_9 <| ?_
      obtain ⟨r_1, hu, hf⟩ := bd_some hf
      have hPc : va_P D vwCl (cs_X3 kA (sv 6 a) (sv 9 V)) _ := hP.sub [6, 7, 8, 9, 10, 11, 12, 13, 14, 15, 16, 17] rfl
      refine zcVP (As := []) (rest := [vI y5]) hC hK (met_X3_slotCount l D kA (sv 6 a) (sv 9 V) hu) zwX4_144 hPc (q0 := 0) rfl rfl rfl rfl hl.1 rfl (Nat.le_of_ble_eq_true rfl) ⟨Nat.le_of_ble_eq_true rfl, Nat.le_of_ble_eq_true rfl⟩ ⟨rfl, rfl⟩ ⟨Nat.le_refl _, Nat.le_refl _⟩ dX4_sumOfDonor_12 <| ?_
      obtain ⟨hz_2, hf⟩ := ck_some hf
      refine zicmp_ge (tgt := 81) hC.1 hC.2.1 ⟨hz_2.1, hz_2.2⟩ dX4_sumOfDonor_15 (by decide) (fun hc => ?_) (fun hc => ?_)
      · have hf := it_t hf hc
        exact ziload hC.1 hC.2.1 dX4_sumOfDonor_81 (lv_at hl 4 rfl) <| hret (Int32.ofInt y4) _ _ (qI hf) dX4_sumOfDonor_83
      · have hf := it_f hf hc
        refine ziload_n hC.1 hC.2.1 dX4_sumOfDonor_18 rfl (lv_at hl 3 rfl) <| ziconst hC.1 hC.2.1 dX4_sumOfDonor_19 <| ?_
        obtain ⟨hz_3, hf⟩ := ck_some hf
        refine zicmp_eq (tgt := 38) hC.1 hC.2.1 ⟨hz_3, (by decide)⟩ dX4_sumOfDonor_20 (by decide) (fun hc => ?_) (fun hc => ?_)
        · have hf := it_t hf hc
          exact J38 _ _ _ hf (lv_sub hl [0, 1, 2, 3, 4, 5] rfl)
        · have hf := it_f hf hc
          refine lv_aload_n hC.1 hC.2.1 dX4_sumOfDonor_23 rfl (lv_at hl 0 rfl) <| gfX4_25 hC hK hP (q0 := 0) rfl rfl dX4_sumOfDonor_24 <| ziload hC.1 hC.2.1 dX4_sumOfDonor_27 (lv_at hl 5 rfl) <| ziconst hC.1 hC.2.1 dX4_sumOfDonor_29 <| ?_
          obtain ⟨hz_9, hf⟩ := ck_some hf
          refine zidiv hC.1 hC.2.1 ⟨hz_9.1, hz_9.2, by decide, by decide⟩ dX4_sumOfDonor_30 <| ?_
          obtain ⟨r_10, hu, hf⟩ := bd_some hf
          have hPc : va_P D vwCl (cs_X3 kA (sv 6 a) (sv 9 V)) _ := hP.sub [6, 7, 8, 9, 10, 11, 12, 13, 14, 15, 16, 17] rfl
          refine zcVP (As := [vI (y5 / 3)]) (rest := []) hC hK (met_X3_yearOf l D kA (sv 6 a) (sv 9 V) (y5 / 3) hu) zwX4_86 hPc (q0 := 0) rfl rfl rfl rfl hl.1 rfl (Nat.le_of_ble_eq_true rfl) ⟨Nat.le_of_ble_eq_true rfl, Nat.le_of_ble_eq_true rfl⟩ ⟨rfl, rfl⟩ ⟨Nat.le_refl _, Nat.le_refl _⟩ dX4_sumOfDonor_31 <| ziload_n hC.1 hC.2.1 dX4_sumOfDonor_34 rfl (lv_at hl 3 rfl) <| ?_
          obtain ⟨hz_11, hf⟩ := ck_some hf
          refine zicmp_ne (tgt := 42) hC.1 hC.2.1 ⟨hz_11, hz_3⟩ dX4_sumOfDonor_35 (by decide) (fun hc => ?_) (fun hc => ?_)
          · have hf := it_f hf hc
            exact ziconst hC.1 hC.2.1 dX4_sumOfDonor_42 <| J43 _ _ _ _ hf (lv_sub hl [0, 1, 2, 3, 4, 5] rfl)
          · have hf := it_t hf hc
            exact J38 _ _ _ hf (lv_sub hl [0, 1, 2, 3, 4, 5] rfl)
  refine ziconst hC.1 hC.2.1 dX4_sumOfDonor_0 <| zistore (lv' := [(4, vI 0), (0, .ref (a 0)), (1, vI x1), (2, vI x2), (3, vI x3)]) hC.1 hC.2.1 dX4_sumOfDonor_1 hl (by decide) rfl (fun ls hl => ?_)
  refine ziconst hC.1 hC.2.1 dX4_sumOfDonor_3 <| zistore (lv' := [(5, vI 0), (4, vI 0), (0, .ref (a 0)), (1, vI x1), (2, vI x2), (3, vI x3)]) hC.1 hC.2.1 dX4_sumOfDonor_4 hl (by decide) rfl (fun ls hl => ?_)
  exact L6 n _ _ _ hf (lv_sub hl [2, 3, 4, 5, 1, 0] rfl)
theorem DX4_reasonOf_0 : ∀ q ∈ ([(0, .aload_n 0, 1), (1, .iload_n 1, 1), (2, .invokevirtual 110, 3), (5, .istore_n 2, 1), (6, .iload_n 2, 1), (7, .ifCond .eq 15, 3), (10, .aload_n 0, 1), (11, .getfield 42, 3), (14, .iload_n 1, 1), (15, .iaload, 1), (16, .iload_n 2, 1), (17, .if_icmp .ne 5, 3), (20, .iconst 0, 1), (21, .ireturn, 1), (22, .aload_n 0, 1), (23, .getfield 25, 3), (26, .iload_n 1, 1), (27, .invokevirtual 126, 3), (30, .ifCond .ne 5, 3), (33, .iconst 1, 1), (34, .ireturn, 1), (35, .aload_n 0, 1), (36, .iload_n 1, 1), (37, .iconst 3, 1), (38, .idiv, 1), (39, .invokevirtual 106, 3), (42, .ifCond .eq 5, 3), (45, .iconst 2, 1), (46, .ireturn, 1), (47, .aload_n 0, 1), (48, .getfield 18, 3), (51, .aload_n 0, 1), (52, .getfield 25, 3), (55, .getfield 103, 3), (58, .iload_n 1, 1), (59, .iaload, 1), (60, .aload_n 0, 1), (61, .getfield 25, 3), (64, .iload_n 1, 1), (65, .invokevirtual 151, 3)] : List (Nat × Instr × Nat)), decode cX4_reasonOf q.1 = .ok q.2 := by decide +kernel
theorem dX4_reasonOf_0 : decode cX4_reasonOf 0 = .ok (.aload_n 0, 1) := DX4_reasonOf_0 (0, .aload_n 0, 1) (List.mem_of_getElem? (i := 0) rfl)
theorem dX4_reasonOf_1 : decode cX4_reasonOf 1 = .ok (.iload_n 1, 1) := DX4_reasonOf_0 (1, .iload_n 1, 1) (List.mem_of_getElem? (i := 1) rfl)
theorem dX4_reasonOf_2 : decode cX4_reasonOf 2 = .ok (.invokevirtual 110, 3) := DX4_reasonOf_0 (2, .invokevirtual 110, 3) (List.mem_of_getElem? (i := 2) rfl)
theorem dX4_reasonOf_5 : decode cX4_reasonOf 5 = .ok (.istore_n 2, 1) := DX4_reasonOf_0 (5, .istore_n 2, 1) (List.mem_of_getElem? (i := 3) rfl)
theorem dX4_reasonOf_6 : decode cX4_reasonOf 6 = .ok (.iload_n 2, 1) := DX4_reasonOf_0 (6, .iload_n 2, 1) (List.mem_of_getElem? (i := 4) rfl)
theorem dX4_reasonOf_7 : decode cX4_reasonOf 7 = .ok (.ifCond .eq 15, 3) := DX4_reasonOf_0 (7, .ifCond .eq 15, 3) (List.mem_of_getElem? (i := 5) rfl)
theorem dX4_reasonOf_10 : decode cX4_reasonOf 10 = .ok (.aload_n 0, 1) := DX4_reasonOf_0 (10, .aload_n 0, 1) (List.mem_of_getElem? (i := 6) rfl)
theorem dX4_reasonOf_11 : decode cX4_reasonOf 11 = .ok (.getfield 42, 3) := DX4_reasonOf_0 (11, .getfield 42, 3) (List.mem_of_getElem? (i := 7) rfl)
theorem dX4_reasonOf_14 : decode cX4_reasonOf 14 = .ok (.iload_n 1, 1) := DX4_reasonOf_0 (14, .iload_n 1, 1) (List.mem_of_getElem? (i := 8) rfl)
theorem dX4_reasonOf_15 : decode cX4_reasonOf 15 = .ok (.iaload, 1) := DX4_reasonOf_0 (15, .iaload, 1) (List.mem_of_getElem? (i := 9) rfl)
theorem dX4_reasonOf_16 : decode cX4_reasonOf 16 = .ok (.iload_n 2, 1) := DX4_reasonOf_0 (16, .iload_n 2, 1) (List.mem_of_getElem? (i := 10) rfl)
theorem dX4_reasonOf_17 : decode cX4_reasonOf 17 = .ok (.if_icmp .ne 5, 3) := DX4_reasonOf_0 (17, .if_icmp .ne 5, 3) (List.mem_of_getElem? (i := 11) rfl)
theorem dX4_reasonOf_20 : decode cX4_reasonOf 20 = .ok (.iconst 0, 1) := DX4_reasonOf_0 (20, .iconst 0, 1) (List.mem_of_getElem? (i := 12) rfl)
theorem dX4_reasonOf_21 : decode cX4_reasonOf 21 = .ok (.ireturn, 1) := DX4_reasonOf_0 (21, .ireturn, 1) (List.mem_of_getElem? (i := 13) rfl)
theorem dX4_reasonOf_22 : decode cX4_reasonOf 22 = .ok (.aload_n 0, 1) := DX4_reasonOf_0 (22, .aload_n 0, 1) (List.mem_of_getElem? (i := 14) rfl)
theorem dX4_reasonOf_23 : decode cX4_reasonOf 23 = .ok (.getfield 25, 3) := DX4_reasonOf_0 (23, .getfield 25, 3) (List.mem_of_getElem? (i := 15) rfl)
theorem dX4_reasonOf_26 : decode cX4_reasonOf 26 = .ok (.iload_n 1, 1) := DX4_reasonOf_0 (26, .iload_n 1, 1) (List.mem_of_getElem? (i := 16) rfl)
theorem dX4_reasonOf_27 : decode cX4_reasonOf 27 = .ok (.invokevirtual 126, 3) := DX4_reasonOf_0 (27, .invokevirtual 126, 3) (List.mem_of_getElem? (i := 17) rfl)
theorem dX4_reasonOf_30 : decode cX4_reasonOf 30 = .ok (.ifCond .ne 5, 3) := DX4_reasonOf_0 (30, .ifCond .ne 5, 3) (List.mem_of_getElem? (i := 18) rfl)
theorem dX4_reasonOf_33 : decode cX4_reasonOf 33 = .ok (.iconst 1, 1) := DX4_reasonOf_0 (33, .iconst 1, 1) (List.mem_of_getElem? (i := 19) rfl)
theorem dX4_reasonOf_34 : decode cX4_reasonOf 34 = .ok (.ireturn, 1) := DX4_reasonOf_0 (34, .ireturn, 1) (List.mem_of_getElem? (i := 20) rfl)
theorem dX4_reasonOf_35 : decode cX4_reasonOf 35 = .ok (.aload_n 0, 1) := DX4_reasonOf_0 (35, .aload_n 0, 1) (List.mem_of_getElem? (i := 21) rfl)
theorem dX4_reasonOf_36 : decode cX4_reasonOf 36 = .ok (.iload_n 1, 1) := DX4_reasonOf_0 (36, .iload_n 1, 1) (List.mem_of_getElem? (i := 22) rfl)
theorem dX4_reasonOf_37 : decode cX4_reasonOf 37 = .ok (.iconst 3, 1) := DX4_reasonOf_0 (37, .iconst 3, 1) (List.mem_of_getElem? (i := 23) rfl)
theorem dX4_reasonOf_38 : decode cX4_reasonOf 38 = .ok (.idiv, 1) := DX4_reasonOf_0 (38, .idiv, 1) (List.mem_of_getElem? (i := 24) rfl)
theorem dX4_reasonOf_39 : decode cX4_reasonOf 39 = .ok (.invokevirtual 106, 3) := DX4_reasonOf_0 (39, .invokevirtual 106, 3) (List.mem_of_getElem? (i := 25) rfl)
theorem dX4_reasonOf_42 : decode cX4_reasonOf 42 = .ok (.ifCond .eq 5, 3) := DX4_reasonOf_0 (42, .ifCond .eq 5, 3) (List.mem_of_getElem? (i := 26) rfl)
theorem dX4_reasonOf_45 : decode cX4_reasonOf 45 = .ok (.iconst 2, 1) := DX4_reasonOf_0 (45, .iconst 2, 1) (List.mem_of_getElem? (i := 27) rfl)
theorem dX4_reasonOf_46 : decode cX4_reasonOf 46 = .ok (.ireturn, 1) := DX4_reasonOf_0 (46, .ireturn, 1) (List.mem_of_getElem? (i := 28) rfl)
theorem dX4_reasonOf_47 : decode cX4_reasonOf 47 = .ok (.aload_n 0, 1) := DX4_reasonOf_0 (47, .aload_n 0, 1) (List.mem_of_getElem? (i := 29) rfl)
theorem dX4_reasonOf_48 : decode cX4_reasonOf 48 = .ok (.getfield 18, 3) := DX4_reasonOf_0 (48, .getfield 18, 3) (List.mem_of_getElem? (i := 30) rfl)
theorem dX4_reasonOf_51 : decode cX4_reasonOf 51 = .ok (.aload_n 0, 1) := DX4_reasonOf_0 (51, .aload_n 0, 1) (List.mem_of_getElem? (i := 31) rfl)
theorem dX4_reasonOf_52 : decode cX4_reasonOf 52 = .ok (.getfield 25, 3) := DX4_reasonOf_0 (52, .getfield 25, 3) (List.mem_of_getElem? (i := 32) rfl)
theorem dX4_reasonOf_55 : decode cX4_reasonOf 55 = .ok (.getfield 103, 3) := DX4_reasonOf_0 (55, .getfield 103, 3) (List.mem_of_getElem? (i := 33) rfl)
theorem dX4_reasonOf_58 : decode cX4_reasonOf 58 = .ok (.iload_n 1, 1) := DX4_reasonOf_0 (58, .iload_n 1, 1) (List.mem_of_getElem? (i := 34) rfl)
theorem dX4_reasonOf_59 : decode cX4_reasonOf 59 = .ok (.iaload, 1) := DX4_reasonOf_0 (59, .iaload, 1) (List.mem_of_getElem? (i := 35) rfl)
theorem dX4_reasonOf_60 : decode cX4_reasonOf 60 = .ok (.aload_n 0, 1) := DX4_reasonOf_0 (60, .aload_n 0, 1) (List.mem_of_getElem? (i := 36) rfl)
theorem dX4_reasonOf_61 : decode cX4_reasonOf 61 = .ok (.getfield 25, 3) := DX4_reasonOf_0 (61, .getfield 25, 3) (List.mem_of_getElem? (i := 37) rfl)
theorem dX4_reasonOf_64 : decode cX4_reasonOf 64 = .ok (.iload_n 1, 1) := DX4_reasonOf_0 (64, .iload_n 1, 1) (List.mem_of_getElem? (i := 38) rfl)
theorem dX4_reasonOf_65 : decode cX4_reasonOf 65 = .ok (.invokevirtual 151, 3) := DX4_reasonOf_0 (65, .invokevirtual 151, 3) (List.mem_of_getElem? (i := 39) rfl)
theorem DX4_reasonOf_1 : ∀ q ∈ ([(68, .invokevirtual 116, 3), (71, .ifCond .ne 5, 3), (74, .iconst 3, 1), (75, .ireturn, 1), (76, .aload_n 0, 1), (77, .getfield 39, 3), (80, .iload_n 1, 1), (81, .iaload, 1), (82, .ifCond .ne 7, 3), (85, .iconst 4, 1), (86, .goto 4, 3), (89, .iconst 5, 1), (90, .ireturn, 1)] : List (Nat × Instr × Nat)), decode cX4_reasonOf q.1 = .ok q.2 := by decide +kernel
theorem dX4_reasonOf_68 : decode cX4_reasonOf 68 = .ok (.invokevirtual 116, 3) := DX4_reasonOf_1 (68, .invokevirtual 116, 3) (List.mem_of_getElem? (i := 0) rfl)
theorem dX4_reasonOf_71 : decode cX4_reasonOf 71 = .ok (.ifCond .ne 5, 3) := DX4_reasonOf_1 (71, .ifCond .ne 5, 3) (List.mem_of_getElem? (i := 1) rfl)
theorem dX4_reasonOf_74 : decode cX4_reasonOf 74 = .ok (.iconst 3, 1) := DX4_reasonOf_1 (74, .iconst 3, 1) (List.mem_of_getElem? (i := 2) rfl)
theorem dX4_reasonOf_75 : decode cX4_reasonOf 75 = .ok (.ireturn, 1) := DX4_reasonOf_1 (75, .ireturn, 1) (List.mem_of_getElem? (i := 3) rfl)
theorem dX4_reasonOf_76 : decode cX4_reasonOf 76 = .ok (.aload_n 0, 1) := DX4_reasonOf_1 (76, .aload_n 0, 1) (List.mem_of_getElem? (i := 4) rfl)
theorem dX4_reasonOf_77 : decode cX4_reasonOf 77 = .ok (.getfield 39, 3) := DX4_reasonOf_1 (77, .getfield 39, 3) (List.mem_of_getElem? (i := 5) rfl)
theorem dX4_reasonOf_80 : decode cX4_reasonOf 80 = .ok (.iload_n 1, 1) := DX4_reasonOf_1 (80, .iload_n 1, 1) (List.mem_of_getElem? (i := 6) rfl)
theorem dX4_reasonOf_81 : decode cX4_reasonOf 81 = .ok (.iaload, 1) := DX4_reasonOf_1 (81, .iaload, 1) (List.mem_of_getElem? (i := 7) rfl)
theorem dX4_reasonOf_82 : decode cX4_reasonOf 82 = .ok (.ifCond .ne 7, 3) := DX4_reasonOf_1 (82, .ifCond .ne 7, 3) (List.mem_of_getElem? (i := 8) rfl)
theorem dX4_reasonOf_85 : decode cX4_reasonOf 85 = .ok (.iconst 4, 1) := DX4_reasonOf_1 (85, .iconst 4, 1) (List.mem_of_getElem? (i := 9) rfl)
theorem dX4_reasonOf_86 : decode cX4_reasonOf 86 = .ok (.goto 4, 3) := DX4_reasonOf_1 (86, .goto 4, 3) (List.mem_of_getElem? (i := 10) rfl)
theorem dX4_reasonOf_89 : decode cX4_reasonOf 89 = .ok (.iconst 5, 1) := DX4_reasonOf_1 (89, .iconst 5, 1) (List.mem_of_getElem? (i := 11) rfl)
theorem dX4_reasonOf_90 : decode cX4_reasonOf 90 = .ok (.ireturn, 1) := DX4_reasonOf_1 (90, .ireturn, 1) (List.mem_of_getElem? (i := 12) rfl)
abbrev rmX4_reasonOf : Room := { frames := 2, cells := 0, slots := 0, locals := 46 }
set_option maxHeartbeats 400000 in
set_option maxRecDepth 100000 in
theorem met_X4_reasonOf (l : Launch) (D : va_G) (kA : Nat → ClassId) (a : Nat → Nat) (n : Nat) (V : Sz) (x1 : Int) {r : Int} (hf : f_X4_reasonOf n V x1 = some r) : MP l yX4_reasonOf cX4_reasonOf 3 (some .int) rmX4_reasonOf D kA [.ref (a 0), vI x1] (cs_X4 kA a V) (some (vI r)) := by
  refine zPI (own := RX4) rfl rfl (Nat.le_of_ble_eq_true rfl) ?_
  intro p e s m args below meth c ls Q hC hK hP hl hret
  have hl : lv_has ls 3 [(0, .ref (a 0)), (1, vI x1)] := hl
  unfold f_X4_reasonOf at hf
  have J22 : ∀ (ls : Array Slot), jX4_reasonOf_22 n V x1 = some r → lv_has ls 3 [(0, .ref (a 0)), (1, vI x1)] → W p l e rmX4_reasonOf s m args below meth c s.heap [] 0 0 Q (F0 m 22 ls []) := by
    intro  ls hf hl
    unfold jX4_reasonOf_22 at hf
    refine lv_aload_n hC.1 hC.2.1 dX4_reasonOf_22 rfl (lv_at hl 0 rfl) <| gfX4_25 hC hK hP (q0 := 0) rfl rfl dX4_reasonOf_23 <| ziload_n hC.1 hC.2.1 dX4_reasonOf_26 rfl (lv_at hl 1 rfl) <| ?_
    obtain ⟨r_3, hu, hf⟩ := bd_some hf
    have hPc : va_P D vwCl (cs_X3 kA (sv 6 a) (sv 9 V)) _ := hP.sub [6, 7, 8, 9, 10, 11, 12, 13, 14, 15, 16, 17] rfl
    refine zcVP (As := [vI x1]) (rest := []) hC hK (met_X3_leftOfPart l D kA (sv 6 a) (sv 9 V) x1 hu) zwX4_126 hPc (q0 := 0) rfl rfl rfl rfl hl.1 rfl (Nat.le_of_ble_eq_true rfl) ⟨Nat.le_of_ble_eq_true rfl, Nat.le_of_ble_eq_true rfl⟩ ⟨rfl, rfl⟩ ⟨Nat.le_refl _, Nat.le_refl _⟩ dX4_reasonOf_27 <| ?_
    obtain ⟨hz_4, hf⟩ := ck_some hf
    refine zif_ne (tgt := 35) hC.1 hC.2.1 hz_4 dX4_reasonOf_30 (by decide) (fun hc => ?_) (fun hc => ?_)
    · have hf := it_f hf hc
      refine lv_aload_n hC.1 hC.2.1 dX4_reasonOf_35 rfl (lv_at hl 0 rfl) <| ziload_n hC.1 hC.2.1 dX4_reasonOf_36 rfl (lv_at hl 1 rfl) <| ziconst hC.1 hC.2.1 dX4_reasonOf_37 <| ?_
      obtain ⟨hz_5, hf⟩ := ck_some hf
      refine zidiv hC.1 hC.2.1 ⟨hz_5.1, hz_5.2, by decide, by decide⟩ dX4_reasonOf_38 <| ?_
      obtain ⟨r_6, hu, hf⟩ := bd_some hf
      refine zcVP (As := [vI (x1 / 3)]) (rest := []) hC hK (met_X4_isSpoilt l D kA a V (x1 / 3) hu) zwX4_106 hP (q0 := 0) rfl rfl rfl rfl hl.1 rfl (Nat.le_of_ble_eq_true rfl) ⟨Nat.le_of_ble_eq_true rfl, Nat.le_of_ble_eq_true rfl⟩ ⟨rfl, rfl⟩ ⟨Nat.le_refl _, Nat.le_refl _⟩ dX4_reasonOf_39 <| zifb_eq (tgt := 47) hC.1 hC.2.1 dX4_reasonOf_42 (by decide) (fun hc => ?_) (fun hc => ?_)
      · have hf := it_t hf hc
        refine lv_aload_n hC.1 hC.2.1 dX4_reasonOf_47 rfl (lv_at hl 0 rfl) <| gfX4_18 hC hK hP (q0 := 0) rfl rfl dX4_reasonOf_48 <| lv_aload_n hC.1 hC.2.1 dX4_reasonOf_51 rfl (lv_at hl 0 rfl) <| gfX4_25 hC hK hP (q0 := 0) rfl rfl dX4_reasonOf_52 <| gfX4_103 hC hK hP (q0 := 6) rfl rfl dX4_reasonOf_55 <| ziload_n hC.1 hC.2.1 dX4_reasonOf_58 rfl (lv_at hl 1 rfl) <| ?_
        obtain ⟨hz_7, hf⟩ := ck_some hf
        refine jal hC hK hP (q0 := 13) rfl (Nat.le_of_ble_eq_true rfl) hz_7 rfl dX4_reasonOf_59 <| lv_aload_n hC.1 hC.2.1 dX4_reasonOf_60 rfl (lv_at hl 0 rfl) <| gfX4_25 hC hK hP (q0 := 0) rfl rfl dX4_reasonOf_61 <| ziload_n hC.1 hC.2.1 dX4_reasonOf_64 rfl (lv_at hl 1 rfl) <| ?_
        obtain ⟨r_8, hu, hf⟩ := bd_some hf
        have hPc : va_P D vwCl (cs_X3 kA (sv 6 a) (sv 9 V)) _ := hP.sub [6, 7, 8, 9, 10, 11, 12, 13, 14, 15, 16, 17] rfl
        refine zcVP (As := [vI x1]) (rest := [vI (V 16 x1.toNat), .ref (a 2)]) hC hK (met_X3_dayOfPart l D kA (sv 6 a) (sv 9 V) x1 hu) zwX4_151 hPc (q0 := 0) rfl rfl rfl rfl hl.1 rfl (Nat.le_of_ble_eq_true rfl) ⟨Nat.le_of_ble_eq_true rfl, Nat.le_of_ble_eq_true rfl⟩ ⟨rfl, rfl⟩ ⟨Nat.le_refl _, Nat.le_refl _⟩ dX4_reasonOf_65 <| ?_
        obtain ⟨r_9, hu, hf⟩ := bd_some hf
        have hPc : va_P D vwCl (cs_X1 kA (sv 2 a) (sv 5 V)) _ := hP.sub [2, 3, 4, 5] rfl
        refine zcVP (As := [vI (V 16 x1.toNat), vI r_8]) (rest := []) hC hK (met_X1_covers l D kA (sv 2 a) n (sv 5 V) (V 16 x1.toNat) r_8 hu) zwX4_116 hPc (q0 := 0) rfl rfl rfl rfl hl.1 rfl (Nat.le_of_ble_eq_true rfl) ⟨Nat.le_of_ble_eq_true rfl, Nat.le_of_ble_eq_true rfl⟩ ⟨rfl, rfl⟩ ⟨Nat.le_refl _, Nat.le_refl _⟩ dX4_reasonOf_68 <| zifb_ne (tgt := 76) hC.1 hC.2.1 dX4_reasonOf_71 (by decide) (fun hc => ?_) (fun hc => ?_)
        · have hf := it_t hf hc
          refine lv_aload_n hC.1 hC.2.1 dX4_reasonOf_76 rfl (lv_at hl 0 rfl) <| gfX4_39 hC hK hP (q0 := 0) rfl rfl dX4_reasonOf_77 <| ziload_n hC.1 hC.2.1 dX4_reasonOf_80 rfl (lv_at hl 1 rfl) <| jal hC hK hP (q0 := 21) rfl (Nat.le_of_ble_eq_true rfl) hz_7 rfl dX4_reasonOf_81 <| ?_
          obtain ⟨hz_10, hf⟩ := ck_some hf
          refine zif_ne (tgt := 89) hC.1 hC.2.1 hz_10 dX4_reasonOf_82 (by decide) (fun hc => ?_) (fun hc => ?_)
          · have hf := it_f hf hc
            exact ziconst hC.1 hC.2.1 dX4_reasonOf_89 <| hret (Int32.ofInt 5) _ _ (qI hf) dX4_reasonOf_90
          · have hf := it_t hf hc
            exact ziconst hC.1 hC.2.1 dX4_reasonOf_85 <| lv_goto (tgt := 90) hC.1 hC.2.1 dX4_reasonOf_86 (by decide) <| hret (Int32.ofInt 4) _ _ (qI hf) dX4_reasonOf_90
        · have hf := it_f hf hc
          exact ziconst hC.1 hC.2.1 dX4_reasonOf_74 <| hret (Int32.ofInt 3) _ _ (qI hf) dX4_reasonOf_75
      · have hf := it_f hf hc
        exact ziconst hC.1 hC.2.1 dX4_reasonOf_45 <| hret (Int32.ofInt 2) _ _ (qI hf) dX4_reasonOf_46
    · have hf := it_t hf hc
      exact ziconst hC.1 hC.2.1 dX4_reasonOf_33 <| hret (Int32.ofInt 1) _ _ (qI hf) dX4_reasonOf_34
  refine lv_aload_n hC.1 hC.2.1 dX4_reasonOf_0 rfl (lv_at hl 0 rfl) <| ziload_n hC.1 hC.2.1 dX4_reasonOf_1 rfl (lv_at hl 1 rfl) <| ?_
  obtain ⟨r_1, hu, hf⟩ := bd_some hf
  refine zcVP (As := [vI x1]) (rest := []) hC hK (met_X4_fullAid l D kA a V x1 hu) zwX4_110 hP (q0 := 0) rfl rfl rfl rfl hl.1 rfl (Nat.le_of_ble_eq_true rfl) ⟨Nat.le_of_ble_eq_true rfl, Nat.le_of_ble_eq_true rfl⟩ ⟨rfl, rfl⟩ ⟨Nat.le_refl _, Nat.le_refl _⟩ dX4_reasonOf_2 <| zistore_n (lv' := [(2, vI r_1), (0, .ref (a 0)), (1, vI x1)]) hC.1 hC.2.1 dX4_reasonOf_5 rfl hl (by decide) rfl (fun ls hl => ?_)
  refine ziload_n hC.1 hC.2.1 dX4_reasonOf_6 rfl (lv_at hl 0 rfl) <| ?_
  obtain ⟨hz_2, hf⟩ := ck_some hf
  refine zif_eq (tgt := 22) hC.1 hC.2.1 hz_2 dX4_reasonOf_7 (by decide) (fun hc => ?_) (fun hc => ?_)
  · have hf := it_t hf hc
    exact J22 _ hf (lv_sub hl [1, 2] rfl)
  · have hf := it_f hf hc
    refine lv_aload_n hC.1 hC.2.1 dX4_reasonOf_10 rfl (lv_at hl 1 rfl) <| gfX4_42 hC hK hP (q0 := 0) rfl rfl dX4_reasonOf_11 <| ziload_n hC.1 hC.2.1 dX4_reasonOf_14 rfl (lv_at hl 2 rfl) <| ?_
    obtain ⟨hz_11, hf⟩ := ck_some hf
    refine jal hC hK hP (q0 := 22) rfl (Nat.le_of_ble_eq_true rfl) hz_11 rfl dX4_reasonOf_15 <| ziload_n hC.1 hC.2.1 dX4_reasonOf_16 rfl (lv_at hl 0 rfl) <| ?_
    obtain ⟨hz_12, hf⟩ := ck_some hf
    refine zicmp_ne (tgt := 22) hC.1 hC.2.1 ⟨hz_12, hz_2⟩ dX4_reasonOf_17 (by decide) (fun hc => ?_) (fun hc => ?_)
    · have hf := it_f hf hc
      exact J22 _ hf (lv_sub hl [1, 2] rfl)
    · have hf := it_t hf hc
      exact ziconst hC.1 hC.2.1 dX4_reasonOf_20 <| hret (Int32.ofInt 0) _ _ (qI hf) dX4_reasonOf_21
theorem DX4_lostBy_0 : ∀ q ∈ ([(0, .iconst 0, 1), (1, .istore_n 2, 1), (2, .iconst 0, 1), (3, .istore_n 3, 1), (4, .iload_n 3, 1), (5, .aload_n 0, 1), (6, .getfield 25, 3), (9, .invokevirtual 144, 3), (12, .if_icmp .ge 44, 3), (15, .aload_n 0, 1), (16, .getfield 25, 3), (19, .iload_n 3, 1), (20, .invokevirtual 154, 3), (23, .ifCond .eq 27, 3), (26, .aload_n 0, 1), (27, .iload_n 3, 1), (28, .invokevirtual 157, 3), (31, .iload_n 1, 1), (32, .if_icmp .ne 18, 3), (35, .iload_n 2, 1), (36, .aload_n 0, 1), (37, .iload_n 3, 1), (38, .invokevirtual 110, 3), (41, .aload_n 0, 1), (42, .getfield 42, 3), (45, .iload_n 3, 1), (46, .iaload, 1), (47, .isub, 1), (48, .iadd, 1), (49, .istore_n 2, 1), (50, .iinc 3 1, 3), (53, .goto (-49), 3), (56, .iload_n 2, 1), (57, .ireturn, 1)] : List (Nat × Instr × Nat)), decode cX4_lostBy q.1 = .ok q.2 := by decide +kernel
theorem dX4_lostBy_0 : decode cX4_lostBy 0 = .ok (.iconst 0, 1) := DX4_lostBy_0 (0, .iconst 0, 1) (List.mem_of_getElem? (i := 0) rfl)
theorem dX4_lostBy_1 : decode cX4_lostBy 1 = .ok (.istore_n 2, 1) := DX4_lostBy_0 (1, .istore_n 2, 1) (List.mem_of_getElem? (i := 1) rfl)
theorem dX4_lostBy_2 : decode cX4_lostBy 2 = .ok (.iconst 0, 1) := DX4_lostBy_0 (2, .iconst 0, 1) (List.mem_of_getElem? (i := 2) rfl)
theorem dX4_lostBy_3 : decode cX4_lostBy 3 = .ok (.istore_n 3, 1) := DX4_lostBy_0 (3, .istore_n 3, 1) (List.mem_of_getElem? (i := 3) rfl)
theorem dX4_lostBy_4 : decode cX4_lostBy 4 = .ok (.iload_n 3, 1) := DX4_lostBy_0 (4, .iload_n 3, 1) (List.mem_of_getElem? (i := 4) rfl)
theorem dX4_lostBy_5 : decode cX4_lostBy 5 = .ok (.aload_n 0, 1) := DX4_lostBy_0 (5, .aload_n 0, 1) (List.mem_of_getElem? (i := 5) rfl)
theorem dX4_lostBy_6 : decode cX4_lostBy 6 = .ok (.getfield 25, 3) := DX4_lostBy_0 (6, .getfield 25, 3) (List.mem_of_getElem? (i := 6) rfl)
theorem dX4_lostBy_9 : decode cX4_lostBy 9 = .ok (.invokevirtual 144, 3) := DX4_lostBy_0 (9, .invokevirtual 144, 3) (List.mem_of_getElem? (i := 7) rfl)
theorem dX4_lostBy_12 : decode cX4_lostBy 12 = .ok (.if_icmp .ge 44, 3) := DX4_lostBy_0 (12, .if_icmp .ge 44, 3) (List.mem_of_getElem? (i := 8) rfl)
theorem dX4_lostBy_15 : decode cX4_lostBy 15 = .ok (.aload_n 0, 1) := DX4_lostBy_0 (15, .aload_n 0, 1) (List.mem_of_getElem? (i := 9) rfl)
theorem dX4_lostBy_16 : decode cX4_lostBy 16 = .ok (.getfield 25, 3) := DX4_lostBy_0 (16, .getfield 25, 3) (List.mem_of_getElem? (i := 10) rfl)
theorem dX4_lostBy_19 : decode cX4_lostBy 19 = .ok (.iload_n 3, 1) := DX4_lostBy_0 (19, .iload_n 3, 1) (List.mem_of_getElem? (i := 11) rfl)
theorem dX4_lostBy_20 : decode cX4_lostBy 20 = .ok (.invokevirtual 154, 3) := DX4_lostBy_0 (20, .invokevirtual 154, 3) (List.mem_of_getElem? (i := 12) rfl)
theorem dX4_lostBy_23 : decode cX4_lostBy 23 = .ok (.ifCond .eq 27, 3) := DX4_lostBy_0 (23, .ifCond .eq 27, 3) (List.mem_of_getElem? (i := 13) rfl)
theorem dX4_lostBy_26 : decode cX4_lostBy 26 = .ok (.aload_n 0, 1) := DX4_lostBy_0 (26, .aload_n 0, 1) (List.mem_of_getElem? (i := 14) rfl)
theorem dX4_lostBy_27 : decode cX4_lostBy 27 = .ok (.iload_n 3, 1) := DX4_lostBy_0 (27, .iload_n 3, 1) (List.mem_of_getElem? (i := 15) rfl)
theorem dX4_lostBy_28 : decode cX4_lostBy 28 = .ok (.invokevirtual 157, 3) := DX4_lostBy_0 (28, .invokevirtual 157, 3) (List.mem_of_getElem? (i := 16) rfl)
theorem dX4_lostBy_31 : decode cX4_lostBy 31 = .ok (.iload_n 1, 1) := DX4_lostBy_0 (31, .iload_n 1, 1) (List.mem_of_getElem? (i := 17) rfl)
theorem dX4_lostBy_32 : decode cX4_lostBy 32 = .ok (.if_icmp .ne 18, 3) := DX4_lostBy_0 (32, .if_icmp .ne 18, 3) (List.mem_of_getElem? (i := 18) rfl)
theorem dX4_lostBy_35 : decode cX4_lostBy 35 = .ok (.iload_n 2, 1) := DX4_lostBy_0 (35, .iload_n 2, 1) (List.mem_of_getElem? (i := 19) rfl)
theorem dX4_lostBy_36 : decode cX4_lostBy 36 = .ok (.aload_n 0, 1) := DX4_lostBy_0 (36, .aload_n 0, 1) (List.mem_of_getElem? (i := 20) rfl)
theorem dX4_lostBy_37 : decode cX4_lostBy 37 = .ok (.iload_n 3, 1) := DX4_lostBy_0 (37, .iload_n 3, 1) (List.mem_of_getElem? (i := 21) rfl)
theorem dX4_lostBy_38 : decode cX4_lostBy 38 = .ok (.invokevirtual 110, 3) := DX4_lostBy_0 (38, .invokevirtual 110, 3) (List.mem_of_getElem? (i := 22) rfl)
theorem dX4_lostBy_41 : decode cX4_lostBy 41 = .ok (.aload_n 0, 1) := DX4_lostBy_0 (41, .aload_n 0, 1) (List.mem_of_getElem? (i := 23) rfl)
theorem dX4_lostBy_42 : decode cX4_lostBy 42 = .ok (.getfield 42, 3) := DX4_lostBy_0 (42, .getfield 42, 3) (List.mem_of_getElem? (i := 24) rfl)
theorem dX4_lostBy_45 : decode cX4_lostBy 45 = .ok (.iload_n 3, 1) := DX4_lostBy_0 (45, .iload_n 3, 1) (List.mem_of_getElem? (i := 25) rfl)
theorem dX4_lostBy_46 : decode cX4_lostBy 46 = .ok (.iaload, 1) := DX4_lostBy_0 (46, .iaload, 1) (List.mem_of_getElem? (i := 26) rfl)
theorem dX4_lostBy_47 : decode cX4_lostBy 47 = .ok (.isub, 1) := DX4_lostBy_0 (47, .isub, 1) (List.mem_of_getElem? (i := 27) rfl)
theorem dX4_lostBy_48 : decode cX4_lostBy 48 = .ok (.iadd, 1) := DX4_lostBy_0 (48, .iadd, 1) (List.mem_of_getElem? (i := 28) rfl)
theorem dX4_lostBy_49 : decode cX4_lostBy 49 = .ok (.istore_n 2, 1) := DX4_lostBy_0 (49, .istore_n 2, 1) (List.mem_of_getElem? (i := 29) rfl)
theorem dX4_lostBy_50 : decode cX4_lostBy 50 = .ok (.iinc 3 1, 3) := DX4_lostBy_0 (50, .iinc 3 1, 3) (List.mem_of_getElem? (i := 30) rfl)
theorem dX4_lostBy_53 : decode cX4_lostBy 53 = .ok (.goto (-49), 3) := DX4_lostBy_0 (53, .goto (-49), 3) (List.mem_of_getElem? (i := 31) rfl)
theorem dX4_lostBy_56 : decode cX4_lostBy 56 = .ok (.iload_n 2, 1) := DX4_lostBy_0 (56, .iload_n 2, 1) (List.mem_of_getElem? (i := 32) rfl)
theorem dX4_lostBy_57 : decode cX4_lostBy 57 = .ok (.ireturn, 1) := DX4_lostBy_0 (57, .ireturn, 1) (List.mem_of_getElem? (i := 33) rfl)
abbrev rmX4_lostBy : Room := { frames := 3, cells := 0, slots := 0, locals := 68 }
set_option maxHeartbeats 400000 in
set_option maxRecDepth 100000 in
theorem met_X4_lostBy (l : Launch) (D : va_G) (kA : Nat → ClassId) (a : Nat → Nat) (n : Nat) (V : Sz) (x1 : Int) {r : Int} (hf : f_X4_lostBy n V x1 = some r) : MP l yX4_lostBy cX4_lostBy 4 (some .int) rmX4_lostBy D kA [.ref (a 0), vI x1] (cs_X4 kA a V) (some (vI r)) := by
  refine zPI (own := RX4) rfl rfl (Nat.le_of_ble_eq_true rfl) ?_
  intro p e s m args below meth c ls Q hC hK hP hl hret
  have hl : lv_has ls 4 [(0, .ref (a 0)), (1, vI x1)] := hl
  unfold f_X4_lostBy at hf
  have L4 : ∀ (k4 : Nat) (y2 : Int) (y3 : Int) (ls : Array Slot), lpF (bX4_lostBy_4 n V x1) k4 (y2, y3) = some r → lv_has ls 4 [(0, .ref (a 0)), (1, vI x1), (2, vI y2), (3, vI y3)] → W p l e rmX4_lostBy s m args below meth c s.heap [] 0 0 Q (F0 m 4 ls []) := by
    intro k4
    induction k4 with
    | zero => intro y2 y3 ls hf hl; exact lp_0 hf
    | succ k4 ih4 =>
      intro y2 y3 ls hf hl
      have hf := lp_s hf
      rw [bX4_lostBy_4_e] at hf
      have J50 : ∀ (y2 : Int) (y3 : Int) (ls : Array Slot), jX4_lostBy_50 n V x1 (lpF (bX4_lostBy_4 n V x1) k4) y2 y3 = some r → lv_has ls 4 [(0, .ref (a 0)), (1, vI x1), (2, vI y2), (3, vI y3)] → W p l e rmX4_lostBy s m args below meth c s.heap [] 0 0 Q (F0 m 50 ls []) := by
        intro y2 y3 ls hf hl
        unfold jX4_lostBy_50 at hf
        obtain ⟨x_4, ex_4⟩ : ∃ y : Int, y = y3 + 1 := ⟨_, rfl⟩
        have hf := nm_at hf ex_4
        refine ziinc (v := x_4) (lv' := [(3, vI x_4), (0, .ref (a 0)), (1, vI x1), (2, vI y2)]) hC.1 hC.2.1 dX4_lostBy_50 hl (k := 3) rfl ex_4 (by decide) rfl (fun ls hl => ?_)
        exact lv_goto (tgt := 4) hC.1 hC.2.1 dX4_lostBy_53 (by decide) <| ih4 _ _ _ hf (lv_sub hl [1, 2, 3, 0] rfl)
      refine ziload_n hC.1 hC.2.1 dX4_lostBy_4 rfl (lv_at hl 3 rfl) <| lv_aload_n hC.1 hC.2.1 dX4_lostBy_5 rfl (lv_at hl 0 rfl) <| gfX4_25 hC hK hP (q0 := 0) rfl rfl dX4_lostBy_6 <| ?_
      obtain ⟨r_1, hu, hf⟩ := bd_some hf
      have hPc : va_P D vwCl (cs_X3 kA (sv 6 a) (sv 9 V)) _ := hP.sub [6, 7, 8, 9, 10, 11, 12, 13, 14, 15, 16, 17] rfl
      refine zcVP (As := []) (rest := [vI y3]) hC hK (met_X3_slotCount l D kA (sv 6 a) (sv 9 V) hu) zwX4_144 hPc (q0 := 0) rfl rfl rfl rfl hl.1 rfl (Nat.le_of_ble_eq_true rfl) ⟨Nat.le_of_ble_eq_true rfl, Nat.le_of_ble_eq_true rfl⟩ ⟨rfl, rfl⟩ ⟨Nat.le_refl _, Nat.le_refl _⟩ dX4_lostBy_9 <| ?_
      obtain ⟨hz_2, hf⟩ := ck_some hf
      refine zicmp_ge (tgt := 56) hC.1 hC.2.1 ⟨hz_2.1, hz_2.2⟩ dX4_lostBy_12 (by decide) (fun hc => ?_) (fun hc => ?_)
      · have hf := it_t hf hc
        exact ziload_n hC.1 hC.2.1 dX4_lostBy_56 rfl (lv_at hl 2 rfl) <| hret (Int32.ofInt y2) _ _ (qI hf) dX4_lostBy_57
      · have hf := it_f hf hc
        refine lv_aload_n hC.1 hC.2.1 dX4_lostBy_15 rfl (lv_at hl 0 rfl) <| gfX4_25 hC hK hP (q0 := 0) rfl rfl dX4_lostBy_16 <| ziload_n hC.1 hC.2.1 dX4_lostBy_19 rfl (lv_at hl 3 rfl) <| ?_
        obtain ⟨r_3, hu, hf⟩ := bd_some hf
        have hPc : va_P D vwCl (cs_X3 kA (sv 6 a) (sv 9 V)) _ := hP.sub [6, 7, 8, 9, 10, 11, 12, 13, 14, 15, 16, 17] rfl
        refine zcVP (As := [vI y3]) (rest := []) hC hK (met_X3_isPart l D kA (sv 6 a) (sv 9 V) y3 hu) zwX4_154 hPc (q0 := 0) rfl rfl rfl rfl hl.1 rfl (Nat.le_of_ble_eq_true rfl) ⟨Nat.le_of_ble_eq_true rfl, Nat.le_of_ble_eq_true rfl⟩ ⟨rfl, rfl⟩ ⟨Nat.le_refl _, Nat.le_refl _⟩ dX4_lostBy_20 <| zifb_eq (tgt := 50) hC.1 hC.2.1 dX4_lostBy_23 (by decide) (fun hc => ?_) (fun hc => ?_)
        · have hf := it_t hf hc
          exact J50 _ _ _ hf (lv_sub hl [0, 1, 2, 3] rfl)
        · have hf := it_f hf hc
          refine lv_aload_n hC.1 hC.2.1 dX4_lostBy_26 rfl (lv_at hl 0 rfl) <| ziload_n hC.1 hC.2.1 dX4_lostBy_27 rfl (lv_at hl 3 rfl) <| ?_
          obtain ⟨r_5, hu, hf⟩ := bd_some hf
          refine zcVP (As := [vI y3]) (rest := []) hC hK (met_X4_reasonOf l D kA a n V y3 hu) zwX4_157 hP (q0 := 0) rfl rfl rfl rfl hl.1 rfl (Nat.le_of_ble_eq_true rfl) ⟨Nat.le_of_ble_eq_true rfl, Nat.le_of_ble_eq_true rfl⟩ ⟨rfl, rfl⟩ ⟨Nat.le_refl _, Nat.le_refl _⟩ dX4_lostBy_28 <| ziload_n hC.1 hC.2.1 dX4_lostBy_31 rfl (lv_at hl 1 rfl) <| ?_
          obtain ⟨hz_6, hf⟩ := ck_some hf
          refine zicmp_ne (tgt := 50) hC.1 hC.2.1 ⟨hz_6.1, hz_6.2⟩ dX4_lostBy_32 (by decide) (fun hc => ?_) (fun hc => ?_)
          · have hf := it_f hf hc
            exact J50 _ _ _ hf (lv_sub hl [0, 1, 2, 3] rfl)
          · have hf := it_t hf hc
            refine ziload_n hC.1 hC.2.1 dX4_lostBy_35 rfl (lv_at hl 2 rfl) <| lv_aload_n hC.1 hC.2.1 dX4_lostBy_36 rfl (lv_at hl 0 rfl) <| ziload_n hC.1 hC.2.1 dX4_lostBy_37 rfl (lv_at hl 3 rfl) <| ?_
            obtain ⟨r_7, hu, hf⟩ := bd_some hf
            refine zcVP (As := [vI y3]) (rest := [vI y2]) hC hK (met_X4_fullAid l D kA a V y3 hu) zwX4_110 hP (q0 := 0) rfl rfl rfl rfl hl.1 rfl (Nat.le_of_ble_eq_true rfl) ⟨Nat.le_of_ble_eq_true rfl, Nat.le_of_ble_eq_true rfl⟩ ⟨rfl, rfl⟩ ⟨Nat.le_refl _, Nat.le_refl _⟩ dX4_lostBy_38 <| lv_aload_n hC.1 hC.2.1 dX4_lostBy_41 rfl (lv_at hl 0 rfl) <| gfX4_42 hC hK hP (q0 := 0) rfl rfl dX4_lostBy_42 <| ziload_n hC.1 hC.2.1 dX4_lostBy_45 rfl (lv_at hl 3 rfl) <| ?_
            obtain ⟨hz_8, hf⟩ := ck_some hf
            refine jal hC hK hP (q0 := 22) rfl (Nat.le_of_ble_eq_true rfl) hz_8 rfl dX4_lostBy_46 <| zisub hC.1 hC.2.1 dX4_lostBy_47 <| ziadd hC.1 hC.2.1 dX4_lostBy_48 <| ?_
            refine ztopi (fun x_9 ex_9 => ?_)
            have hf := nm_at hf ex_9
            refine zistore_n (lv' := [(2, vI x_9), (0, .ref (a 0)), (1, vI x1), (3, vI y3)]) hC.1 hC.2.1 dX4_lostBy_49 rfl hl (by decide) rfl (fun ls hl => ?_)
            exact J50 _ _ _ hf (lv_sub hl [1, 2, 0, 3] rfl)
  refine ziconst hC.1 hC.2.1 dX4_lostBy_0 <| zistore_n (lv' := [(2, vI 0), (0, .ref (a 0)), (1, vI x1)]) hC.1 hC.2.1 dX4_lostBy_1 rfl hl (by decide) rfl (fun ls hl => ?_)
  refine ziconst hC.1 hC.2.1 dX4_lostBy_2 <| zistore_n (lv' := [(3, vI 0), (2, vI 0), (0, .ref (a 0)), (1, vI x1)]) hC.1 hC.2.1 dX4_lostBy_3 rfl hl (by decide) rfl (fun ls hl => ?_)
  exact L4 n _ _ _ hf (lv_sub hl [2, 3, 1, 0] rfl)
theorem DX4_differenceOn_0 : ∀ q ∈ ([(0, .iload_n 2, 1), (1, .aload_n 0, 1), (2, .getfield 25, 3), (5, .iload_n 1, 1), (6, .invokevirtual 151, 3), (9, .isub, 1), (10, .istore_n 3, 1), (11, .aload_n 0, 1), (12, .getfield 25, 3), (15, .iload_n 1, 1), (16, .invokevirtual 154, 3), (19, .ifCond .eq 7, 3), (22, .iload_n 3, 1), (23, .ifCond .ge 5, 3), (26, .iconst 0, 1), (27, .ireturn, 1), (28, .aload_n 0, 1), (29, .getfield 42, 3), (32, .iload_n 1, 1), (33, .iaload, 1), (34, .aload_n 0, 1), (35, .getfield 25, 3), (38, .getfield 135, 3), (41, .iload_n 1, 1), (42, .iaload, 1), (43, .isub, 1), (44, .istore 4, 2), (46, .iload 4, 2), (48, .ifCond .le 15, 3), (51, .iload_n 3, 1), (52, .aload_n 0, 1), (53, .getfield 55, 3), (56, .if_icmp .le 7, 3), (59, .iconst 0, 1), (60, .goto 5, 3), (63, .iload 4, 2), (65, .ireturn, 1)] : List (Nat × Instr × Nat)), decode cX4_differenceOn q.1 = .ok q.2 := by decide +kernel
theorem dX4_differenceOn_0 : decode cX4_differenceOn 0 = .ok (.iload_n 2, 1) := DX4_differenceOn_0 (0, .iload_n 2, 1) (List.mem_of_getElem? (i := 0) rfl)
theorem dX4_differenceOn_1 : decode cX4_differenceOn 1 = .ok (.aload_n 0, 1) := DX4_differenceOn_0 (1, .aload_n 0, 1) (List.mem_of_getElem? (i := 1) rfl)
theorem dX4_differenceOn_2 : decode cX4_differenceOn 2 = .ok (.getfield 25, 3) := DX4_differenceOn_0 (2, .getfield 25, 3) (List.mem_of_getElem? (i := 2) rfl)
theorem dX4_differenceOn_5 : decode cX4_differenceOn 5 = .ok (.iload_n 1, 1) := DX4_differenceOn_0 (5, .iload_n 1, 1) (List.mem_of_getElem? (i := 3) rfl)
theorem dX4_differenceOn_6 : decode cX4_differenceOn 6 = .ok (.invokevirtual 151, 3) := DX4_differenceOn_0 (6, .invokevirtual 151, 3) (List.mem_of_getElem? (i := 4) rfl)
theorem dX4_differenceOn_9 : decode cX4_differenceOn 9 = .ok (.isub, 1) := DX4_differenceOn_0 (9, .isub, 1) (List.mem_of_getElem? (i := 5) rfl)
theorem dX4_differenceOn_10 : decode cX4_differenceOn 10 = .ok (.istore_n 3, 1) := DX4_differenceOn_0 (10, .istore_n 3, 1) (List.mem_of_getElem? (i := 6) rfl)
theorem dX4_differenceOn_11 : decode cX4_differenceOn 11 = .ok (.aload_n 0, 1) := DX4_differenceOn_0 (11, .aload_n 0, 1) (List.mem_of_getElem? (i := 7) rfl)
theorem dX4_differenceOn_12 : decode cX4_differenceOn 12 = .ok (.getfield 25, 3) := DX4_differenceOn_0 (12, .getfield 25, 3) (List.mem_of_getElem? (i := 8) rfl)
theorem dX4_differenceOn_15 : decode cX4_differenceOn 15 = .ok (.iload_n 1, 1) := DX4_differenceOn_0 (15, .iload_n 1, 1) (List.mem_of_getElem? (i := 9) rfl)
theorem dX4_differenceOn_16 : decode cX4_differenceOn 16 = .ok (.invokevirtual 154, 3) := DX4_differenceOn_0 (16, .invokevirtual 154, 3) (List.mem_of_getElem? (i := 10) rfl)
theorem dX4_differenceOn_19 : decode cX4_differenceOn 19 = .ok (.ifCond .eq 7, 3) := DX4_differenceOn_0 (19, .ifCond .eq 7, 3) (List.mem_of_getElem? (i := 11) rfl)
theorem dX4_differenceOn_22 : decode cX4_differenceOn 22 = .ok (.iload_n 3, 1) := DX4_differenceOn_0 (22, .iload_n 3, 1) (List.mem_of_getElem? (i := 12) rfl)
theorem dX4_differenceOn_23 : decode cX4_differenceOn 23 = .ok (.ifCond .ge 5, 3) := DX4_differenceOn_0 (23, .ifCond .ge 5, 3) (List.mem_of_getElem? (i := 13) rfl)
theorem dX4_differenceOn_26 : decode cX4_differenceOn 26 = .ok (.iconst 0, 1) := DX4_differenceOn_0 (26, .iconst 0, 1) (List.mem_of_getElem? (i := 14) rfl)
theorem dX4_differenceOn_27 : decode cX4_differenceOn 27 = .ok (.ireturn, 1) := DX4_differenceOn_0 (27, .ireturn, 1) (List.mem_of_getElem? (i := 15) rfl)
theorem dX4_differenceOn_28 : decode cX4_differenceOn 28 = .ok (.aload_n 0, 1) := DX4_differenceOn_0 (28, .aload_n 0, 1) (List.mem_of_getElem? (i := 16) rfl)
theorem dX4_differenceOn_29 : decode cX4_differenceOn 29 = .ok (.getfield 42, 3) := DX4_differenceOn_0 (29, .getfield 42, 3) (List.mem_of_getElem? (i := 17) rfl)
theorem dX4_differenceOn_32 : decode cX4_differenceOn 32 = .ok (.iload_n 1, 1) := DX4_differenceOn_0 (32, .iload_n 1, 1) (List.mem_of_getElem? (i := 18) rfl)
theorem dX4_differenceOn_33 : decode cX4_differenceOn 33 = .ok (.iaload, 1) := DX4_differenceOn_0 (33, .iaload, 1) (List.mem_of_getElem? (i := 19) rfl)
theorem dX4_differenceOn_34 : decode cX4_differenceOn 34 = .ok (.aload_n 0, 1) := DX4_differenceOn_0 (34, .aload_n 0, 1) (List.mem_of_getElem? (i := 20) rfl)
theorem dX4_differenceOn_35 : decode cX4_differenceOn 35 = .ok (.getfield 25, 3) := DX4_differenceOn_0 (35, .getfield 25, 3) (List.mem_of_getElem? (i := 21) rfl)
theorem dX4_differenceOn_38 : decode cX4_differenceOn 38 = .ok (.getfield 135, 3) := DX4_differenceOn_0 (38, .getfield 135, 3) (List.mem_of_getElem? (i := 22) rfl)
theorem dX4_differenceOn_41 : decode cX4_differenceOn 41 = .ok (.iload_n 1, 1) := DX4_differenceOn_0 (41, .iload_n 1, 1) (List.mem_of_getElem? (i := 23) rfl)
theorem dX4_differenceOn_42 : decode cX4_differenceOn 42 = .ok (.iaload, 1) := DX4_differenceOn_0 (42, .iaload, 1) (List.mem_of_getElem? (i := 24) rfl)
theorem dX4_differenceOn_43 : decode cX4_differenceOn 43 = .ok (.isub, 1) := DX4_differenceOn_0 (43, .isub, 1) (List.mem_of_getElem? (i := 25) rfl)
theorem dX4_differenceOn_44 : decode cX4_differenceOn 44 = .ok (.istore 4, 2) := DX4_differenceOn_0 (44, .istore 4, 2) (List.mem_of_getElem? (i := 26) rfl)
theorem dX4_differenceOn_46 : decode cX4_differenceOn 46 = .ok (.iload 4, 2) := DX4_differenceOn_0 (46, .iload 4, 2) (List.mem_of_getElem? (i := 27) rfl)
theorem dX4_differenceOn_48 : decode cX4_differenceOn 48 = .ok (.ifCond .le 15, 3) := DX4_differenceOn_0 (48, .ifCond .le 15, 3) (List.mem_of_getElem? (i := 28) rfl)
theorem dX4_differenceOn_51 : decode cX4_differenceOn 51 = .ok (.iload_n 3, 1) := DX4_differenceOn_0 (51, .iload_n 3, 1) (List.mem_of_getElem? (i := 29) rfl)
theorem dX4_differenceOn_52 : decode cX4_differenceOn 52 = .ok (.aload_n 0, 1) := DX4_differenceOn_0 (52, .aload_n 0, 1) (List.mem_of_getElem? (i := 30) rfl)
theorem dX4_differenceOn_53 : decode cX4_differenceOn 53 = .ok (.getfield 55, 3) := DX4_differenceOn_0 (53, .getfield 55, 3) (List.mem_of_getElem? (i := 31) rfl)
theorem dX4_differenceOn_56 : decode cX4_differenceOn 56 = .ok (.if_icmp .le 7, 3) := DX4_differenceOn_0 (56, .if_icmp .le 7, 3) (List.mem_of_getElem? (i := 32) rfl)
theorem dX4_differenceOn_59 : decode cX4_differenceOn 59 = .ok (.iconst 0, 1) := DX4_differenceOn_0 (59, .iconst 0, 1) (List.mem_of_getElem? (i := 33) rfl)
theorem dX4_differenceOn_60 : decode cX4_differenceOn 60 = .ok (.goto 5, 3) := DX4_differenceOn_0 (60, .goto 5, 3) (List.mem_of_getElem? (i := 34) rfl)
theorem dX4_differenceOn_63 : decode cX4_differenceOn 63 = .ok (.iload 4, 2) := DX4_differenceOn_0 (63, .iload 4, 2) (List.mem_of_getElem? (i := 35) rfl)
theorem dX4_differenceOn_65 : decode cX4_differenceOn 65 = .ok (.ireturn, 1) := DX4_differenceOn_0 (65, .ireturn, 1) (List.mem_of_getElem? (i := 36) rfl)
abbrev rmX4_differenceOn : Room := { frames := 1, cells := 0, slots := 0, locals := 21 }
set_option maxHeartbeats 400000 in
set_option maxRecDepth 100000 in
theorem met_X4_differenceOn (l : Launch) (D : va_G) (kA : Nat → ClassId) (a : Nat → Nat) (V : Sz) (x1 : Int) (x2 : Int) {r : Int} (hf : f_X4_differenceOn V x1 x2 = some r) : MP l yX4_differenceOn cX4_differenceOn 5 (some .int) rmX4_differenceOn D kA [.ref (a 0), vI x1, vI x2] (cs_X4 kA a V) (some (vI r)) := by
  refine zPI (own := RX4) rfl rfl (Nat.le_of_ble_eq_true rfl) ?_
  intro p e s m args below meth c ls Q hC hK hP hl hret
  have hl : lv_has ls 5 [(0, .ref (a 0)), (1, vI x1), (2, vI x2)] := hl
  unfold f_X4_differenceOn at hf
  refine ziload_n hC.1 hC.2.1 dX4_differenceOn_0 rfl (lv_at hl 2 rfl) <| lv_aload_n hC.1 hC.2.1 dX4_differenceOn_1 rfl (lv_at hl 0 rfl) <| gfX4_25 hC hK hP (q0 := 0) rfl rfl dX4_differenceOn_2 <| ziload_n hC.1 hC.2.1 dX4_differenceOn_5 rfl (lv_at hl 1 rfl) <| ?_
  obtain ⟨r_1, hu, hf⟩ := bd_some hf
  have hPc : va_P D vwCl (cs_X3 kA (sv 6 a) (sv 9 V)) _ := hP.sub [6, 7, 8, 9, 10, 11, 12, 13, 14, 15, 16, 17] rfl
  refine zcVP (As := [vI x1]) (rest := [vI x2]) hC hK (met_X3_dayOfPart l D kA (sv 6 a) (sv 9 V) x1 hu) zwX4_151 hPc (q0 := 0) rfl rfl rfl rfl hl.1 rfl (Nat.le_of_ble_eq_true rfl) ⟨Nat.le_of_ble_eq_true rfl, Nat.le_of_ble_eq_true rfl⟩ ⟨rfl, rfl⟩ ⟨Nat.le_refl _, Nat.le_refl _⟩ dX4_differenceOn_6 <| zisub hC.1 hC.2.1 dX4_differenceOn_9 <| ?_
  refine ztopi (fun x_2 ex_2 => ?_)
  have hf := nm_at hf ex_2
  refine zistore_n (lv' := [(3, vI x_2), (0, .ref (a 0)), (1, vI x1), (2, vI x2)]) hC.1 hC.2.1 dX4_differenceOn_10 rfl hl (by decide) rfl (fun ls hl => ?_)
  refine lv_aload_n hC.1 hC.2.1 dX4_differenceOn_11 rfl (lv_at hl 1 rfl) <| gfX4_25 hC hK hP (q0 := 0) rfl rfl dX4_differenceOn_12 <| ziload_n hC.1 hC.2.1 dX4_differenceOn_15 rfl (lv_at hl 2 rfl) <| ?_
  obtain ⟨r_3, hu, hf⟩ := bd_some hf
  have hPc : va_P D vwCl (cs_X3 kA (sv 6 a) (sv 9 V)) _ := hP.sub [6, 7, 8, 9, 10, 11, 12, 13, 14, 15, 16, 17] rfl
  refine zcVP (As := [vI x1]) (rest := []) hC hK (met_X3_isPart l D kA (sv 6 a) (sv 9 V) x1 hu) zwX4_154 hPc (q0 := 0) rfl rfl rfl rfl hl.1 rfl (Nat.le_of_ble_eq_true rfl) ⟨Nat.le_of_ble_eq_true rfl, Nat.le_of_ble_eq_true rfl⟩ ⟨rfl, rfl⟩ ⟨Nat.le_refl _, Nat.le_refl _⟩ dX4_differenceOn_16 <| zifb_eq (tgt := 26) hC.1 hC.2.1 dX4_differenceOn_19 (by decide) (fun hc => ?_) (fun hc => ?_)
  · have hf := it_t hf hc
    exact ziconst hC.1 hC.2.1 dX4_differenceOn_26 <| hret (Int32.ofInt 0) _ _ (qI hf) dX4_differenceOn_27
  · have hf := it_f hf hc
    refine ziload_n hC.1 hC.2.1 dX4_differenceOn_22 rfl (lv_at hl 0 rfl) <| ?_
    obtain ⟨hz_4, hf⟩ := ck_some hf
    refine zif_ge (tgt := 28) hC.1 hC.2.1 hz_4 dX4_differenceOn_23 (by decide) (fun hc => ?_) (fun hc => ?_)
    · have hf := it_t hf hc
      refine lv_aload_n hC.1 hC.2.1 dX4_differenceOn_28 rfl (lv_at hl 1 rfl) <| gfX4_42 hC hK hP (q0 := 0) rfl rfl dX4_differenceOn_29 <| ziload_n hC.1 hC.2.1 dX4_differenceOn_32 rfl (lv_at hl 2 rfl) <| ?_
      obtain ⟨hz_5, hf⟩ := ck_some hf
      refine jal hC hK hP (q0 := 22) rfl (Nat.le_of_ble_eq_true rfl) hz_5 rfl dX4_differenceOn_33 <| lv_aload_n hC.1 hC.2.1 dX4_differenceOn_34 rfl (lv_at hl 1 rfl) <| gfX4_25 hC hK hP (q0 := 0) rfl rfl dX4_differenceOn_35 <| gfX4_135 hC hK hP (q0 := 6) rfl rfl dX4_differenceOn_38 <| ziload_n hC.1 hC.2.1 dX4_differenceOn_41 rfl (lv_at hl 2 rfl) <| jal hC hK hP (q0 := 17) rfl (Nat.le_of_ble_eq_true rfl) hz_5 rfl dX4_differenceOn_42 <| zisub hC.1 hC.2.1 dX4_differenceOn_43 <| ?_
      refine ztopi (fun x_6 ex_6 => ?_)
      have hf := nm_at hf ex_6
      refine zistore (lv' := [(4, vI x_6), (3, vI x_2), (0, .ref (a 0)), (1, vI x1), (2, vI x2)]) hC.1 hC.2.1 dX4_differenceOn_44 hl (by decide) rfl (fun ls hl => ?_)
      refine ziload hC.1 hC.2.1 dX4_differenceOn_46 (lv_at hl 0 rfl) <| ?_
      obtain ⟨hz_7, hf⟩ := ck_some hf
      refine zif_le (tgt := 63) hC.1 hC.2.1 hz_7 dX4_differenceOn_48 (by decide) (fun hc => ?_) (fun hc => ?_)
      · have hf := it_t hf hc
        exact ziload hC.1 hC.2.1 dX4_differenceOn_63 (lv_at hl 0 rfl) <| hret (Int32.ofInt x_6) _ _ (qI hf) dX4_differenceOn_65
      · have hf := it_f hf hc
        refine ziload_n hC.1 hC.2.1 dX4_differenceOn_51 rfl (lv_at hl 1 rfl) <| lv_aload_n hC.1 hC.2.1 dX4_differenceOn_52 rfl (lv_at hl 2 rfl) <| gfX4_55 hC hK hP (q0 := 0) rfl rfl dX4_differenceOn_53 <| ?_
        obtain ⟨hz_8, hf⟩ := ck_some hf
        refine zicmp_le (tgt := 63) hC.1 hC.2.1 ⟨hz_4, hz_8⟩ dX4_differenceOn_56 (by decide) (fun hc => ?_) (fun hc => ?_)
        · have hf := it_t hf hc
          exact ziload hC.1 hC.2.1 dX4_differenceOn_63 (lv_at hl 0 rfl) <| hret (Int32.ofInt x_6) _ _ (qI hf) dX4_differenceOn_65
        · have hf := it_f hf hc
          exact ziconst hC.1 hC.2.1 dX4_differenceOn_59 <| lv_goto (tgt := 65) hC.1 hC.2.1 dX4_differenceOn_60 (by decide) <| hret (Int32.ofInt 0) _ _ (qI hf) dX4_differenceOn_65
    · have hf := it_f hf hc
      exact ziconst hC.1 hC.2.1 dX4_differenceOn_26 <| hret (Int32.ofInt 0) _ _ (qI hf) dX4_differenceOn_27
theorem DX4_makeClaim_0 : ∀ q ∈ ([(0, .aload_n 0, 1), (1, .getfield 32, 3), (4, .iload_n 1, 1), (5, .invokevirtual 160, 3), (8, .iconst 0, 1), (9, .istore_n 2, 1), (10, .iload_n 2, 1), (11, .aload_n 0, 1), (12, .getfield 25, 3), (15, .invokevirtual 144, 3), (18, .if_icmp .ge 37, 3), (21, .aload_n 0, 1), (22, .iload_n 2, 1), (23, .iload_n 1, 1), (24, .invokevirtual 164, 3), (27, .istore_n 3, 1), (28, .aload_n 0, 1), (29, .getfield 32, 3), (32, .iload_n 3, 1), (33, .invokevirtual 167, 3), (36, .aload_n 0, 1), (37, .getfield 25, 3), (40, .getfield 135, 3), (43, .iload_n 2, 1), (44, .dup2, 1), (45, .iaload, 1), (46, .iload_n 3, 1), (47, .iadd, 1), (48, .iastore, 1), (49, .iinc 2 1, 3), (52, .goto (-42), 3), (55, .aload_n 0, 1), (56, .getfield 32, 3), (59, .invokevirtual 170, 3), (62, .ireturn, 1)] : List (Nat × Instr × Nat)), decode cX4_makeClaim q.1 = .ok q.2 := by decide +kernel
theorem dX4_makeClaim_0 : decode cX4_makeClaim 0 = .ok (.aload_n 0, 1) := DX4_makeClaim_0 (0, .aload_n 0, 1) (List.mem_of_getElem? (i := 0) rfl)
theorem dX4_makeClaim_1 : decode cX4_makeClaim 1 = .ok (.getfield 32, 3) := DX4_makeClaim_0 (1, .getfield 32, 3) (List.mem_of_getElem? (i := 1) rfl)
theorem dX4_makeClaim_4 : decode cX4_makeClaim 4 = .ok (.iload_n 1, 1) := DX4_makeClaim_0 (4, .iload_n 1, 1) (List.mem_of_getElem? (i := 2) rfl)
theorem dX4_makeClaim_5 : decode cX4_makeClaim 5 = .ok (.invokevirtual 160, 3) := DX4_makeClaim_0 (5, .invokevirtual 160, 3) (List.mem_of_getElem? (i := 3) rfl)
theorem dX4_makeClaim_8 : decode cX4_makeClaim 8 = .ok (.iconst 0, 1) := DX4_makeClaim_0 (8, .iconst 0, 1) (List.mem_of_getElem? (i := 4) rfl)
theorem dX4_makeClaim_9 : decode cX4_makeClaim 9 = .ok (.istore_n 2, 1) := DX4_makeClaim_0 (9, .istore_n 2, 1) (List.mem_of_getElem? (i := 5) rfl)
theorem dX4_makeClaim_10 : decode cX4_makeClaim 10 = .ok (.iload_n 2, 1) := DX4_makeClaim_0 (10, .iload_n 2, 1) (List.mem_of_getElem? (i := 6) rfl)
theorem dX4_makeClaim_11 : decode cX4_makeClaim 11 = .ok (.aload_n 0, 1) := DX4_makeClaim_0 (11, .aload_n 0, 1) (List.mem_of_getElem? (i := 7) rfl)
theorem dX4_makeClaim_12 : decode cX4_makeClaim 12 = .ok (.getfield 25, 3) := DX4_makeClaim_0 (12, .getfield 25, 3) (List.mem_of_getElem? (i := 8) rfl)
theorem dX4_makeClaim_15 : decode cX4_makeClaim 15 = .ok (.invokevirtual 144, 3) := DX4_makeClaim_0 (15, .invokevirtual 144, 3) (List.mem_of_getElem? (i := 9) rfl)
theorem dX4_makeClaim_18 : decode cX4_makeClaim 18 = .ok (.if_icmp .ge 37, 3) := DX4_makeClaim_0 (18, .if_icmp .ge 37, 3) (List.mem_of_getElem? (i := 10) rfl)
theorem dX4_makeClaim_21 : decode cX4_makeClaim 21 = .ok (.aload_n 0, 1) := DX4_makeClaim_0 (21, .aload_n 0, 1) (List.mem_of_getElem? (i := 11) rfl)
theorem dX4_makeClaim_22 : decode cX4_makeClaim 22 = .ok (.iload_n 2, 1) := DX4_makeClaim_0 (22, .iload_n 2, 1) (List.mem_of_getElem? (i := 12) rfl)
theorem dX4_makeClaim_23 : decode cX4_makeClaim 23 = .ok (.iload_n 1, 1) := DX4_makeClaim_0 (23, .iload_n 1, 1) (List.mem_of_getElem? (i := 13) rfl)
theorem dX4_makeClaim_24 : decode cX4_makeClaim 24 = .ok (.invokevirtual 164, 3) := DX4_makeClaim_0 (24, .invokevirtual 164, 3) (List.mem_of_getElem? (i := 14) rfl)
theorem dX4_makeClaim_27 : decode cX4_makeClaim 27 = .ok (.istore_n 3, 1) := DX4_makeClaim_0 (27, .istore_n 3, 1) (List.mem_of_getElem? (i := 15) rfl)
theorem dX4_makeClaim_28 : decode cX4_makeClaim 28 = .ok (.aload_n 0, 1) := DX4_makeClaim_0 (28, .aload_n 0, 1) (List.mem_of_getElem? (i := 16) rfl)
theorem dX4_makeClaim_29 : decode cX4_makeClaim 29 = .ok (.getfield 32, 3) := DX4_makeClaim_0 (29, .getfield 32, 3) (List.mem_of_getElem? (i := 17) rfl)
theorem dX4_makeClaim_32 : decode cX4_makeClaim 32 = .ok (.iload_n 3, 1) := DX4_makeClaim_0 (32, .iload_n 3, 1) (List.mem_of_getElem? (i := 18) rfl)
theorem dX4_makeClaim_33 : decode cX4_makeClaim 33 = .ok (.invokevirtual 167, 3) := DX4_makeClaim_0 (33, .invokevirtual 167, 3) (List.mem_of_getElem? (i := 19) rfl)
theorem dX4_makeClaim_36 : decode cX4_makeClaim 36 = .ok (.aload_n 0, 1) := DX4_makeClaim_0 (36, .aload_n 0, 1) (List.mem_of_getElem? (i := 20) rfl)
theorem dX4_makeClaim_37 : decode cX4_makeClaim 37 = .ok (.getfield 25, 3) := DX4_makeClaim_0 (37, .getfield 25, 3) (List.mem_of_getElem? (i := 21) rfl)
theorem dX4_makeClaim_40 : decode cX4_makeClaim 40 = .ok (.getfield 135, 3) := DX4_makeClaim_0 (40, .getfield 135, 3) (List.mem_of_getElem? (i := 22) rfl)
theorem dX4_makeClaim_43 : decode cX4_makeClaim 43 = .ok (.iload_n 2, 1) := DX4_makeClaim_0 (43, .iload_n 2, 1) (List.mem_of_getElem? (i := 23) rfl)
theorem dX4_makeClaim_44 : decode cX4_makeClaim 44 = .ok (.dup2, 1) := DX4_makeClaim_0 (44, .dup2, 1) (List.mem_of_getElem? (i := 24) rfl)
theorem dX4_makeClaim_45 : decode cX4_makeClaim 45 = .ok (.iaload, 1) := DX4_makeClaim_0 (45, .iaload, 1) (List.mem_of_getElem? (i := 25) rfl)
theorem dX4_makeClaim_46 : decode cX4_makeClaim 46 = .ok (.iload_n 3, 1) := DX4_makeClaim_0 (46, .iload_n 3, 1) (List.mem_of_getElem? (i := 26) rfl)
theorem dX4_makeClaim_47 : decode cX4_makeClaim 47 = .ok (.iadd, 1) := DX4_makeClaim_0 (47, .iadd, 1) (List.mem_of_getElem? (i := 27) rfl)
theorem dX4_makeClaim_48 : decode cX4_makeClaim 48 = .ok (.iastore, 1) := DX4_makeClaim_0 (48, .iastore, 1) (List.mem_of_getElem? (i := 28) rfl)
theorem dX4_makeClaim_49 : decode cX4_makeClaim 49 = .ok (.iinc 2 1, 3) := DX4_makeClaim_0 (49, .iinc 2 1, 3) (List.mem_of_getElem? (i := 29) rfl)
theorem dX4_makeClaim_52 : decode cX4_makeClaim 52 = .ok (.goto (-42), 3) := DX4_makeClaim_0 (52, .goto (-42), 3) (List.mem_of_getElem? (i := 30) rfl)
theorem dX4_makeClaim_55 : decode cX4_makeClaim 55 = .ok (.aload_n 0, 1) := DX4_makeClaim_0 (55, .aload_n 0, 1) (List.mem_of_getElem? (i := 31) rfl)
theorem dX4_makeClaim_56 : decode cX4_makeClaim 56 = .ok (.getfield 32, 3) := DX4_makeClaim_0 (56, .getfield 32, 3) (List.mem_of_getElem? (i := 32) rfl)
theorem dX4_makeClaim_59 : decode cX4_makeClaim 59 = .ok (.invokevirtual 170, 3) := DX4_makeClaim_0 (59, .invokevirtual 170, 3) (List.mem_of_getElem? (i := 33) rfl)
theorem dX4_makeClaim_62 : decode cX4_makeClaim 62 = .ok (.ireturn, 1) := DX4_makeClaim_0 (62, .ireturn, 1) (List.mem_of_getElem? (i := 34) rfl)
abbrev rmX4_makeClaim : Room := { frames := 2, cells := 0, slots := 0, locals := 45 }
set_option maxHeartbeats 400000 in
set_option maxRecDepth 100000 in
theorem met_X4_makeClaim (l : Launch) (D : va_G) (kA : Nat → ClassId) (a : Nat → Nat) (n : Nat) (V0 : Sz) (x1 : Int) (hDt : ∀ w : Sz, va_D (fun _ => True) (cs_X4 kA a w)) {r : Int} {Vr : Sz} (hf : f_X4_makeClaim n V0 x1 = some (r, Vr)) : MZ l yX4_makeClaim cX4_makeClaim 4 (some .int) rmX4_makeClaim D kA [.ref (a 0), vI x1] (cs_X4 kA a V0) (cs_X4 kA a Vr) (some (vI r)) := by
  refine zZI (own := RX4) rfl rfl (Nat.le_of_ble_eq_true rfl) ?_
  intro p e s m args below meth c ls Q hC hK hP hl hret
  have hl : lv_has ls 4 [(0, .ref (a 0)), (1, vI x1)] := hl
  have hS : va_S (zF (cs_X4 kA a V0)) s.heap s.heap [] := va_S.rf
  have hD := zDself (C := fun w : Sz => (cs_X4 kA a w)) hDt V0 (fun _ => rfl)
  try dsimp only at hD
  generalize hAe : zF (cs_X4 kA a V0) = A0 at hS hD hret
  unfold f_X4_makeClaim at hf
  have L10 : ∀ (k10 : Nat) (y2 : Int) (V : Sz) (H : Heap) (locs : List Loc) (ls : Array Slot), lpF (bX4_makeClaim_10 n x1) k10 (y2, V) = some (r, Vr) → va_P D vwCl (cs_X4 kA a V) H → va_S A0 s.heap H locs → lv_has ls 4 [(0, .ref (a 0)), (1, vI x1), (2, vI y2)] → W p l e rmX4_makeClaim s m args below meth c H locs 0 0 Q (F0 m 10 ls []) := by
    intro k10
    induction k10 with
    | zero => intro y2 V H locs ls hf hP hS hl; exact lp_0 hf
    | succ k10 ih10 =>
      intro y2 V H locs ls hf hP hS hl
      have hf := lp_s hf
      rw [bX4_makeClaim_10_e] at hf
      refine ziload_n hC.1 hC.2.1 dX4_makeClaim_10 rfl (lv_at hl 2 rfl) <| lv_aload_n hC.1 hC.2.1 dX4_makeClaim_11 rfl (lv_at hl 0 rfl) <| gfX4_25 hC hK hP (q0 := 0) rfl rfl dX4_makeClaim_12 <| ?_
      obtain ⟨r_3, hu, hf⟩ := bd_some hf
      have hPc : va_P D vwCl (cs_X3 kA (sv 6 a) (sv 9 V)) _ := hP.sub [6, 7, 8, 9, 10, 11, 12, 13, 14, 15, 16, 17] rfl
      refine zcVP (As := []) (rest := [vI y2]) hC hK (met_X3_slotCount l D kA (sv 6 a) (sv 9 V) hu) zwX4_144 hPc (q0 := 0) rfl rfl rfl rfl hl.1 rfl (Nat.le_of_ble_eq_true rfl) ⟨Nat.le_of_ble_eq_true rfl, Nat.le_of_ble_eq_true rfl⟩ ⟨rfl, rfl⟩ ⟨Nat.le_refl _, Nat.le_refl _⟩ dX4_makeClaim_15 <| ?_
      obtain ⟨hz_4, hf⟩ := ck_some hf
      refine zicmp_ge (tgt := 55) hC.1 hC.2.1 ⟨hz_4.1, hz_4.2⟩ dX4_makeClaim_18 (by decide) (fun hc => ?_) (fun hc => ?_)
      · have hf := it_t hf hc
        refine lv_aload_n hC.1 hC.2.1 dX4_makeClaim_55 rfl (lv_at hl 0 rfl) <| gfX4_32 hC hK hP (q0 := 0) rfl rfl dX4_makeClaim_56 <| ?_
        obtain ⟨r_5, hu, hf⟩ := bd_some hf
        have hPc : va_P D vwCl (cs_X0 kA (sv 18 a) (sv 21 V)) _ := hP.sub [18, 19] rfl
        refine zcVP (As := []) (rest := []) hC hK (met_X0_latestBalance l D kA (sv 18 a) (sv 21 V) hu) zwX4_170 hPc (q0 := 0) rfl rfl rfl rfl hl.1 rfl (Nat.le_of_ble_eq_true rfl) ⟨Nat.le_of_ble_eq_true rfl, Nat.le_of_ble_eq_true rfl⟩ ⟨rfl, rfl⟩ ⟨Nat.le_refl _, Nat.le_refl _⟩ dX4_makeClaim_59 <| ?_
        have hf := Option.some.inj hf
        simp only [Prod.mk.injEq] at hf
        exact hret (Int32.ofInt r_5) _ _ _ _ (congrArg (fun z => some (vI z)) hf.1.symm) (by rw [← hf.2]; exact hP) hS dX4_makeClaim_62
      · have hf := it_f hf hc
        refine lv_aload_n hC.1 hC.2.1 dX4_makeClaim_21 rfl (lv_at hl 0 rfl) <| ziload_n hC.1 hC.2.1 dX4_makeClaim_22 rfl (lv_at hl 2 rfl) <| ziload_n hC.1 hC.2.1 dX4_makeClaim_23 rfl (lv_at hl 1 rfl) <| ?_
        obtain ⟨r_6, hu, hf⟩ := bd_some hf
        refine zcVP (As := [vI y2, vI x1]) (rest := []) hC hK (met_X4_differenceOn l D kA a V y2 x1 hu) zwX4_164 hP (q0 := 0) rfl rfl rfl rfl hl.1 rfl (Nat.le_of_ble_eq_true rfl) ⟨Nat.le_of_ble_eq_true rfl, Nat.le_of_ble_eq_true rfl⟩ ⟨rfl, rfl⟩ ⟨Nat.le_refl _, Nat.le_refl _⟩ dX4_makeClaim_24 <| zistore_n (lv' := [(3, vI r_6), (0, .ref (a 0)), (1, vI x1), (2, vI y2)]) hC.1 hC.2.1 dX4_makeClaim_27 rfl hl (by decide) rfl (fun ls hl => ?_)
        refine lv_aload_n hC.1 hC.2.1 dX4_makeClaim_28 rfl (lv_at hl 1 rfl) <| gfX4_32 hC hK hP (q0 := 0) rfl rfl dX4_makeClaim_29 <| ziload_n hC.1 hC.2.1 dX4_makeClaim_32 rfl (lv_at hl 0 rfl) <| ?_
        obtain ⟨V_7, hu, hf⟩ := bd_some hf
        have hPc : va_P D vwCl (cs_X0 kA (sv 18 a) (sv 21 V)) _ := hP.sub [18, 19] rfl
        have hDc : ∀ w : Sz, va_D (fun _ => True) (cs_X0 kA (sv 18 a) w) := fun w => (hDt (sw 21 2 V w)).sub [18, 19] (by decide) rfl
        refine zcVZ (As := [vI r_6]) (rest := []) hC hK (met_X0_enter l D kA (sv 18 a) (sv 21 V) r_6 hDc hu) zwX4_167 hS (zFsub (hD V) [18, 19] rfl) hPc (q0 := 0) rfl rfl rfl rfl hl.1 rfl (Nat.le_of_ble_eq_true rfl) ⟨Nat.le_of_ble_eq_true rfl, Nat.le_of_ble_eq_true rfl⟩ ⟨rfl, rfl⟩ ⟨Nat.le_refl _, Nat.le_refl _⟩ dX4_makeClaim_33 (fun H locs hP1 hk1 hS => ?_)
        obtain ⟨V_8, eV_8⟩ : ∃ y, y = sw 21 2 V V_7 := ⟨_, rfl⟩
        have hf := nm_at hf eV_8
        have hP : va_P D vwCl (cs_X4 kA a V_8) H := by rw [eV_8]; exact zjoin hP (hDt V) [18, 19] (w0 := (cs_X0 kA (sv 18 a) (sv 21 V))) rfl (Nat.le_of_ble_eq_true rfl) hk1 hP1
        refine lv_aload_n hC.1 hC.2.1 dX4_makeClaim_36 rfl (lv_at hl 1 rfl) <| gfX4_25 hC hK hP (q0 := 0) rfl rfl dX4_makeClaim_37 <| gfX4_135 hC hK hP (q0 := 6) rfl rfl dX4_makeClaim_40 <| ziload_n hC.1 hC.2.1 dX4_makeClaim_43 rfl (lv_at hl 3 rfl) <| lv_dup2_11 hC.1 hC.2.1 dX4_makeClaim_44 rfl rfl <| ?_
        obtain ⟨hz_9, hf⟩ := ck_some hf
        refine jal hC hK hP (q0 := 17) rfl (Nat.le_of_ble_eq_true rfl) hz_9 rfl dX4_makeClaim_45 <| ziload_n hC.1 hC.2.1 dX4_makeClaim_46 rfl (lv_at hl 0 rfl) <| ziadd hC.1 hC.2.1 dX4_makeClaim_47 <| ?_
        refine jas hC hK hP (hD V_8) hS (q0 := 17) rfl (Nat.le_of_ble_eq_true rfl) hz_9 rfl dX4_makeClaim_48 (fun H locs hP hS => ?_)
        obtain ⟨V_10, eV_10⟩ : ∃ y, y = uz V_8 20 y2.toNat ((V_8 20 y2.toNat) + r_6) := ⟨_, rfl⟩
        have hf := nm_at hf eV_10
        have hP : va_P D vwCl (cs_X4 kA a V_10) H := by rw [eV_10]; exact hP
        obtain ⟨x_11, ex_11⟩ : ∃ y : Int, y = y2 + 1 := ⟨_, rfl⟩
        have hf := nm_at hf ex_11
        refine ziinc (v := x_11) (lv' := [(2, vI x_11), (3, vI r_6), (0, .ref (a 0)), (1, vI x1)]) hC.1 hC.2.1 dX4_makeClaim_49 hl (k := 3) rfl ex_11 (by decide) rfl (fun ls hl => ?_)
        exact lv_goto (tgt := 10) hC.1 hC.2.1 dX4_makeClaim_52 (by decide) <| ih10 _ _ _ _ _ hf hP hS (lv_sub hl [2, 3, 0] rfl)
  refine lv_aload_n hC.1 hC.2.1 dX4_makeClaim_0 rfl (lv_at hl 0 rfl) <| gfX4_32 hC hK hP (q0 := 0) rfl rfl dX4_makeClaim_1 <| ziload_n hC.1 hC.2.1 dX4_makeClaim_4 rfl (lv_at hl 1 rfl) <| ?_
  obtain ⟨V_1, hu, hf⟩ := bd_some hf
  have hPc : va_P D vwCl (cs_X0 kA (sv 18 a) (sv 21 V0)) _ := hP.sub [18, 19] rfl
  have hDc : ∀ w : Sz, va_D (fun _ => True) (cs_X0 kA (sv 18 a) w) := fun w => (hDt (sw 21 2 V0 w)).sub [18, 19] (by decide) rfl
  refine zcVZ (As := [vI x1]) (rest := []) hC hK (met_X0_begin l D kA (sv 18 a) n (sv 21 V0) x1 hDc hu) zwX4_160 hS (zFsub (hD V0) [18, 19] rfl) hPc (q0 := 0) rfl rfl rfl rfl hl.1 rfl (Nat.le_of_ble_eq_true rfl) ⟨Nat.le_of_ble_eq_true rfl, Nat.le_of_ble_eq_true rfl⟩ ⟨rfl, rfl⟩ ⟨Nat.le_refl _, Nat.le_refl _⟩ dX4_makeClaim_5 (fun H locs hP1 hk1 hS => ?_)
  obtain ⟨V_2, eV_2⟩ : ∃ y, y = sw 21 2 V0 V_1 := ⟨_, rfl⟩
  have hf := nm_at hf eV_2
  have hP : va_P D vwCl (cs_X4 kA a V_2) H := by rw [eV_2]; exact zjoin hP (hDt V0) [18, 19] (w0 := (cs_X0 kA (sv 18 a) (sv 21 V0))) rfl (Nat.le_of_ble_eq_true rfl) hk1 hP1
  refine ziconst hC.1 hC.2.1 dX4_makeClaim_8 <| zistore_n (lv' := [(2, vI 0), (0, .ref (a 0)), (1, vI x1)]) hC.1 hC.2.1 dX4_makeClaim_9 rfl hl (by decide) rfl (fun ls hl => ?_)
  exact L10 n _ _ _ _ _ hf hP hS (lv_sub hl [1, 2, 0] rfl)
theorem DX4_forecast_0 : ∀ q ∈ ([(0, .iconst 0, 1), (1, .istore_n 3, 1), (2, .iconst 0, 1), (3, .istore 4, 2), (5, .iload 4, 2), (7, .aload_n 0, 1), (8, .getfield 25, 3), (11, .invokevirtual 144, 3), (14, .if_icmp .ge 37, 3), (17, .aload_n 0, 1), (18, .iload 4, 2), (20, .iload_n 1, 1), (21, .invokevirtual 164, 3), (24, .istore 5, 2), (26, .iload_n 3, 1), (27, .iconst 0, 1), (28, .iload_n 2, 1), (29, .ifCond .eq 9, 3), (32, .iload 5, 2), (34, .ineg, 1), (35, .goto 5, 3), (38, .iload 5, 2), (40, .invokestatic 173, 3), (43, .iadd, 1), (44, .istore_n 3, 1), (45, .iinc 4 1, 3), (48, .goto (-43), 3), (51, .iload_n 3, 1), (52, .ireturn, 1)] : List (Nat × Instr × Nat)), decode cX4_forecast q.1 = .ok q.2 := by decide +kernel
theorem dX4_forecast_0 : decode cX4_forecast 0 = .ok (.iconst 0, 1) := DX4_forecast_0 (0, .iconst 0, 1) (List.mem_of_getElem? (i := 0) rfl)
theorem dX4_forecast_1 : decode cX4_forecast 1 = .ok (.istore_n 3, 1) := DX4_forecast_0 (1, .istore_n 3, 1) (List.mem_of_getElem? (i := 1) rfl)
theorem dX4_forecast_2 : decode cX4_forecast 2 = .ok (.iconst 0, 1) := DX4_forecast_0 (2, .iconst 0, 1) (List.mem_of_getElem? (i := 2) rfl)
theorem dX4_forecast_3 : decode cX4_forecast 3 = .ok (.istore 4, 2) := DX4_forecast_0 (3, .istore 4, 2) (List.mem_of_getElem? (i := 3) rfl)
theorem dX4_forecast_5 : decode cX4_forecast 5 = .ok (.iload 4, 2) := DX4_forecast_0 (5, .iload 4, 2) (List.mem_of_getElem? (i := 4) rfl)
theorem dX4_forecast_7 : decode cX4_forecast 7 = .ok (.aload_n 0, 1) := DX4_forecast_0 (7, .aload_n 0, 1) (List.mem_of_getElem? (i := 5) rfl)
theorem dX4_forecast_8 : decode cX4_forecast 8 = .ok (.getfield 25, 3) := DX4_forecast_0 (8, .getfield 25, 3) (List.mem_of_getElem? (i := 6) rfl)
theorem dX4_forecast_11 : decode cX4_forecast 11 = .ok (.invokevirtual 144, 3) := DX4_forecast_0 (11, .invokevirtual 144, 3) (List.mem_of_getElem? (i := 7) rfl)
theorem dX4_forecast_14 : decode cX4_forecast 14 = .ok (.if_icmp .ge 37, 3) := DX4_forecast_0 (14, .if_icmp .ge 37, 3) (List.mem_of_getElem? (i := 8) rfl)
theorem dX4_forecast_17 : decode cX4_forecast 17 = .ok (.aload_n 0, 1) := DX4_forecast_0 (17, .aload_n 0, 1) (List.mem_of_getElem? (i := 9) rfl)
theorem dX4_forecast_18 : decode cX4_forecast 18 = .ok (.iload 4, 2) := DX4_forecast_0 (18, .iload 4, 2) (List.mem_of_getElem? (i := 10) rfl)
theorem dX4_forecast_20 : decode cX4_forecast 20 = .ok (.iload_n 1, 1) := DX4_forecast_0 (20, .iload_n 1, 1) (List.mem_of_getElem? (i := 11) rfl)
theorem dX4_forecast_21 : decode cX4_forecast 21 = .ok (.invokevirtual 164, 3) := DX4_forecast_0 (21, .invokevirtual 164, 3) (List.mem_of_getElem? (i := 12) rfl)
theorem dX4_forecast_24 : decode cX4_forecast 24 = .ok (.istore 5, 2) := DX4_forecast_0 (24, .istore 5, 2) (List.mem_of_getElem? (i := 13) rfl)
theorem dX4_forecast_26 : decode cX4_forecast 26 = .ok (.iload_n 3, 1) := DX4_forecast_0 (26, .iload_n 3, 1) (List.mem_of_getElem? (i := 14) rfl)
theorem dX4_forecast_27 : decode cX4_forecast 27 = .ok (.iconst 0, 1) := DX4_forecast_0 (27, .iconst 0, 1) (List.mem_of_getElem? (i := 15) rfl)
theorem dX4_forecast_28 : decode cX4_forecast 28 = .ok (.iload_n 2, 1) := DX4_forecast_0 (28, .iload_n 2, 1) (List.mem_of_getElem? (i := 16) rfl)
theorem dX4_forecast_29 : decode cX4_forecast 29 = .ok (.ifCond .eq 9, 3) := DX4_forecast_0 (29, .ifCond .eq 9, 3) (List.mem_of_getElem? (i := 17) rfl)
theorem dX4_forecast_32 : decode cX4_forecast 32 = .ok (.iload 5, 2) := DX4_forecast_0 (32, .iload 5, 2) (List.mem_of_getElem? (i := 18) rfl)
theorem dX4_forecast_34 : decode cX4_forecast 34 = .ok (.ineg, 1) := DX4_forecast_0 (34, .ineg, 1) (List.mem_of_getElem? (i := 19) rfl)
theorem dX4_forecast_35 : decode cX4_forecast 35 = .ok (.goto 5, 3) := DX4_forecast_0 (35, .goto 5, 3) (List.mem_of_getElem? (i := 20) rfl)
theorem dX4_forecast_38 : decode cX4_forecast 38 = .ok (.iload 5, 2) := DX4_forecast_0 (38, .iload 5, 2) (List.mem_of_getElem? (i := 21) rfl)
theorem dX4_forecast_40 : decode cX4_forecast 40 = .ok (.invokestatic 173, 3) := DX4_forecast_0 (40, .invokestatic 173, 3) (List.mem_of_getElem? (i := 22) rfl)
theorem dX4_forecast_43 : decode cX4_forecast 43 = .ok (.iadd, 1) := DX4_forecast_0 (43, .iadd, 1) (List.mem_of_getElem? (i := 23) rfl)
theorem dX4_forecast_44 : decode cX4_forecast 44 = .ok (.istore_n 3, 1) := DX4_forecast_0 (44, .istore_n 3, 1) (List.mem_of_getElem? (i := 24) rfl)
theorem dX4_forecast_45 : decode cX4_forecast 45 = .ok (.iinc 4 1, 3) := DX4_forecast_0 (45, .iinc 4 1, 3) (List.mem_of_getElem? (i := 25) rfl)
theorem dX4_forecast_48 : decode cX4_forecast 48 = .ok (.goto (-43), 3) := DX4_forecast_0 (48, .goto (-43), 3) (List.mem_of_getElem? (i := 26) rfl)
theorem dX4_forecast_51 : decode cX4_forecast 51 = .ok (.iload_n 3, 1) := DX4_forecast_0 (51, .iload_n 3, 1) (List.mem_of_getElem? (i := 27) rfl)
theorem dX4_forecast_52 : decode cX4_forecast 52 = .ok (.ireturn, 1) := DX4_forecast_0 (52, .ireturn, 1) (List.mem_of_getElem? (i := 28) rfl)
abbrev rmX4_forecast : Room := { frames := 2, cells := 0, slots := 0, locals := 60 }
set_option maxHeartbeats 400000 in
set_option maxRecDepth 100000 in
theorem met_X4_forecast (l : Launch) (D : va_G) (kA : Nat → ClassId) (a : Nat → Nat) (n : Nat) (V : Sz) (x1 : Int) (x2 : Int) {r : Int} (hf : f_X4_forecast n V x1 x2 = some r) : MP l yX4_forecast cX4_forecast 6 (some .int) rmX4_forecast D kA [.ref (a 0), vI x1, vI x2] (cs_X4 kA a V) (some (vI r)) := by
  refine zPI (own := RX4) rfl rfl (Nat.le_of_ble_eq_true rfl) ?_
  intro p e s m args below meth c ls Q hC hK hP hl hret
  have hl : lv_has ls 6 [(0, .ref (a 0)), (1, vI x1), (2, vI x2)] := hl
  unfold f_X4_forecast at hf
  have L5 : ∀ (k5 : Nat) (y3 : Int) (y4 : Int) (ls : Array Slot), lpF (bX4_forecast_5 n V x1 x2) k5 (y3, y4) = some r → lv_has ls 6 [(0, .ref (a 0)), (1, vI x1), (2, vI x2), (3, vI y3), (4, vI y4)] → W p l e rmX4_forecast s m args below meth c s.heap [] 0 0 Q (F0 m 5 ls []) := by
    intro k5
    induction k5 with
    | zero => intro y3 y4 ls hf hl; exact lp_0 hf
    | succ k5 ih5 =>
      intro y3 y4 ls hf hl
      have hf := lp_s hf
      rw [bX4_forecast_5_e] at hf
      have J40 : ∀ (y4 : Int) (z0 : Int) (z1 : Int) (z2 : Int) (ls : Array Slot), jX4_forecast_40 n V x1 x2 (lpF (bX4_forecast_5 n V x1 x2) k5) y4 z0 z1 z2 = some r → lv_has ls 6 [(0, .ref (a 0)), (1, vI x1), (2, vI x2), (4, vI y4)] → W p l e rmX4_forecast s m args below meth c s.heap [] 0 0 Q (F0 m 40 ls [vI z0, vI z1, vI z2]) := by
        intro y4 z0 z1 z2 ls hf hl
        unfold jX4_forecast_40 at hf
        obtain ⟨hz_5, hf⟩ := ck_some hf
        refine jmax ⟨hz_5.1, hz_5.2⟩ hC qw_535 hl.1 (Nat.le_of_ble_eq_true rfl) ⟨Nat.le_of_ble_eq_true rfl, Nat.le_of_ble_eq_true rfl⟩ ⟨Nat.le_refl _, Nat.le_refl _⟩ dX4_forecast_40 <| ziadd hC.1 hC.2.1 dX4_forecast_43 <| ?_
        refine ztopi (fun x_6 ex_6 => ?_)
        have hf := nm_at hf ex_6
        refine zistore_n (lv' := [(3, vI x_6), (0, .ref (a 0)), (1, vI x1), (2, vI x2), (4, vI y4)]) hC.1 hC.2.1 dX4_forecast_44 rfl hl (by decide) rfl (fun ls hl => ?_)
        obtain ⟨x_7, ex_7⟩ : ∃ y : Int, y = y4 + 1 := ⟨_, rfl⟩
        have hf := nm_at hf ex_7
        refine ziinc (v := x_7) (lv' := [(4, vI x_7), (3, vI x_6), (0, .ref (a 0)), (1, vI x1), (2, vI x2)]) hC.1 hC.2.1 dX4_forecast_45 hl (k := 4) rfl ex_7 (by decide) rfl (fun ls hl => ?_)
        exact lv_goto (tgt := 5) hC.1 hC.2.1 dX4_forecast_48 (by decide) <| ih5 _ _ _ hf (lv_sub hl [2, 3, 4, 1, 0] rfl)
      refine ziload hC.1 hC.2.1 dX4_forecast_5 (lv_at hl 4 rfl) <| lv_aload_n hC.1 hC.2.1 dX4_forecast_7 rfl (lv_at hl 0 rfl) <| gfX4_25 hC hK hP (q0 := 0) rfl rfl dX4_forecast_8 <| ?_
      obtain ⟨r_1, hu, hf⟩ := bd_some hf
      have hPc : va_P D vwCl (cs_X3 kA (sv 6 a) (sv 9 V)) _ := hP.sub [6, 7, 8, 9, 10, 11, 12, 13, 14, 15, 16, 17] rfl
      refine zcVP (As := []) (rest := [vI y4]) hC hK (met_X3_slotCount l D kA (sv 6 a) (sv 9 V) hu) zwX4_144 hPc (q0 := 0) rfl rfl rfl rfl hl.1 rfl (Nat.le_of_ble_eq_true rfl) ⟨Nat.le_of_ble_eq_true rfl, Nat.le_of_ble_eq_true rfl⟩ ⟨rfl, rfl⟩ ⟨Nat.le_refl _, Nat.le_refl _⟩ dX4_forecast_11 <| ?_
      obtain ⟨hz_2, hf⟩ := ck_some hf
      refine zicmp_ge (tgt := 51) hC.1 hC.2.1 ⟨hz_2.1, hz_2.2⟩ dX4_forecast_14 (by decide) (fun hc => ?_) (fun hc => ?_)
      · have hf := it_t hf hc
        exact ziload_n hC.1 hC.2.1 dX4_forecast_51 rfl (lv_at hl 3 rfl) <| hret (Int32.ofInt y3) _ _ (qI hf) dX4_forecast_52
      · have hf := it_f hf hc
        refine lv_aload_n hC.1 hC.2.1 dX4_forecast_17 rfl (lv_at hl 0 rfl) <| ziload hC.1 hC.2.1 dX4_forecast_18 (lv_at hl 4 rfl) <| ziload_n hC.1 hC.2.1 dX4_forecast_20 rfl (lv_at hl 1 rfl) <| ?_
        obtain ⟨r_3, hu, hf⟩ := bd_some hf
        refine zcVP (As := [vI y4, vI x1]) (rest := []) hC hK (met_X4_differenceOn l D kA a V y4 x1 hu) zwX4_164 hP (q0 := 0) rfl rfl rfl rfl hl.1 rfl (Nat.le_of_ble_eq_true rfl) ⟨Nat.le_of_ble_eq_true rfl, Nat.le_of_ble_eq_true rfl⟩ ⟨rfl, rfl⟩ ⟨Nat.le_refl _, Nat.le_refl _⟩ dX4_forecast_21 <| zistore (lv' := [(5, vI r_3), (0, .ref (a 0)), (1, vI x1), (2, vI x2), (3, vI y3), (4, vI y4)]) hC.1 hC.2.1 dX4_forecast_24 hl (by decide) rfl (fun ls hl => ?_)
        refine ziload_n hC.1 hC.2.1 dX4_forecast_26 rfl (lv_at hl 4 rfl) <| ziconst hC.1 hC.2.1 dX4_forecast_27 <| ziload_n hC.1 hC.2.1 dX4_forecast_28 rfl (lv_at hl 3 rfl) <| ?_
        obtain ⟨hz_4, hf⟩ := ck_some hf
        refine zif_eq (tgt := 38) hC.1 hC.2.1 hz_4 dX4_forecast_29 (by decide) (fun hc => ?_) (fun hc => ?_)
        · have hf := it_t hf hc
          exact ziload hC.1 hC.2.1 dX4_forecast_38 (lv_at hl 0 rfl) <| J40 _ _ _ _ _ hf (lv_sub hl [1, 2, 3, 5] rfl)
        · have hf := it_f hf hc
          exact ziload hC.1 hC.2.1 dX4_forecast_32 (lv_at hl 0 rfl) <| zineg hC.1 hC.2.1 dX4_forecast_34 <| lv_goto (tgt := 40) hC.1 hC.2.1 dX4_forecast_35 (by decide) <| J40 _ _ _ _ _ hf (lv_sub hl [1, 2, 3, 5] rfl)
  refine ziconst hC.1 hC.2.1 dX4_forecast_0 <| zistore_n (lv' := [(3, vI 0), (0, .ref (a 0)), (1, vI x1), (2, vI x2)]) hC.1 hC.2.1 dX4_forecast_1 rfl hl (by decide) rfl (fun ls hl => ?_)
  refine ziconst hC.1 hC.2.1 dX4_forecast_2 <| zistore (lv' := [(4, vI 0), (3, vI 0), (0, .ref (a 0)), (1, vI x1), (2, vI x2)]) hC.1 hC.2.1 dX4_forecast_3 hl (by decide) rfl (fun ls hl => ?_)
  exact L5 n _ _ _ hf (lv_sub hl [2, 3, 4, 1, 0] rfl)
theorem DX4_tooMuch_0 : ∀ q ∈ ([(0, .aload_n 0, 1), (1, .getfield 25, 3), (4, .iload_n 1, 1), (5, .invokevirtual 154, 3), (8, .ifCond .eq 26, 3), (11, .iconst 0, 1), (12, .aload_n 0, 1), (13, .getfield 25, 3), (16, .getfield 135, 3), (19, .iload_n 1, 1), (20, .iaload, 1), (21, .aload_n 0, 1), (22, .getfield 42, 3), (25, .iload_n 1, 1), (26, .iaload, 1), (27, .isub, 1), (28, .invokestatic 173, 3), (31, .goto 4, 3), (34, .iconst 0, 1), (35, .ireturn, 1)] : List (Nat × Instr × Nat)), decode cX4_tooMuch q.1 = .ok q.2 := by decide +kernel
theorem dX4_tooMuch_0 : decode cX4_tooMuch 0 = .ok (.aload_n 0, 1) := DX4_tooMuch_0 (0, .aload_n 0, 1) (List.mem_of_getElem? (i := 0) rfl)
theorem dX4_tooMuch_1 : decode cX4_tooMuch 1 = .ok (.getfield 25, 3) := DX4_tooMuch_0 (1, .getfield 25, 3) (List.mem_of_getElem? (i := 1) rfl)
theorem dX4_tooMuch_4 : decode cX4_tooMuch 4 = .ok (.iload_n 1, 1) := DX4_tooMuch_0 (4, .iload_n 1, 1) (List.mem_of_getElem? (i := 2) rfl)
theorem dX4_tooMuch_5 : decode cX4_tooMuch 5 = .ok (.invokevirtual 154, 3) := DX4_tooMuch_0 (5, .invokevirtual 154, 3) (List.mem_of_getElem? (i := 3) rfl)
theorem dX4_tooMuch_8 : decode cX4_tooMuch 8 = .ok (.ifCond .eq 26, 3) := DX4_tooMuch_0 (8, .ifCond .eq 26, 3) (List.mem_of_getElem? (i := 4) rfl)
theorem dX4_tooMuch_11 : decode cX4_tooMuch 11 = .ok (.iconst 0, 1) := DX4_tooMuch_0 (11, .iconst 0, 1) (List.mem_of_getElem? (i := 5) rfl)
theorem dX4_tooMuch_12 : decode cX4_tooMuch 12 = .ok (.aload_n 0, 1) := DX4_tooMuch_0 (12, .aload_n 0, 1) (List.mem_of_getElem? (i := 6) rfl)
theorem dX4_tooMuch_13 : decode cX4_tooMuch 13 = .ok (.getfield 25, 3) := DX4_tooMuch_0 (13, .getfield 25, 3) (List.mem_of_getElem? (i := 7) rfl)
theorem dX4_tooMuch_16 : decode cX4_tooMuch 16 = .ok (.getfield 135, 3) := DX4_tooMuch_0 (16, .getfield 135, 3) (List.mem_of_getElem? (i := 8) rfl)
theorem dX4_tooMuch_19 : decode cX4_tooMuch 19 = .ok (.iload_n 1, 1) := DX4_tooMuch_0 (19, .iload_n 1, 1) (List.mem_of_getElem? (i := 9) rfl)
theorem dX4_tooMuch_20 : decode cX4_tooMuch 20 = .ok (.iaload, 1) := DX4_tooMuch_0 (20, .iaload, 1) (List.mem_of_getElem? (i := 10) rfl)
theorem dX4_tooMuch_21 : decode cX4_tooMuch 21 = .ok (.aload_n 0, 1) := DX4_tooMuch_0 (21, .aload_n 0, 1) (List.mem_of_getElem? (i := 11) rfl)
theorem dX4_tooMuch_22 : decode cX4_tooMuch 22 = .ok (.getfield 42, 3) := DX4_tooMuch_0 (22, .getfield 42, 3) (List.mem_of_getElem? (i := 12) rfl)
theorem dX4_tooMuch_25 : decode cX4_tooMuch 25 = .ok (.iload_n 1, 1) := DX4_tooMuch_0 (25, .iload_n 1, 1) (List.mem_of_getElem? (i := 13) rfl)
theorem dX4_tooMuch_26 : decode cX4_tooMuch 26 = .ok (.iaload, 1) := DX4_tooMuch_0 (26, .iaload, 1) (List.mem_of_getElem? (i := 14) rfl)
theorem dX4_tooMuch_27 : decode cX4_tooMuch 27 = .ok (.isub, 1) := DX4_tooMuch_0 (27, .isub, 1) (List.mem_of_getElem? (i := 15) rfl)
theorem dX4_tooMuch_28 : decode cX4_tooMuch 28 = .ok (.invokestatic 173, 3) := DX4_tooMuch_0 (28, .invokestatic 173, 3) (List.mem_of_getElem? (i := 16) rfl)
theorem dX4_tooMuch_31 : decode cX4_tooMuch 31 = .ok (.goto 4, 3) := DX4_tooMuch_0 (31, .goto 4, 3) (List.mem_of_getElem? (i := 17) rfl)
theorem dX4_tooMuch_34 : decode cX4_tooMuch 34 = .ok (.iconst 0, 1) := DX4_tooMuch_0 (34, .iconst 0, 1) (List.mem_of_getElem? (i := 18) rfl)
theorem dX4_tooMuch_35 : decode cX4_tooMuch 35 = .ok (.ireturn, 1) := DX4_tooMuch_0 (35, .ireturn, 1) (List.mem_of_getElem? (i := 19) rfl)
abbrev rmX4_tooMuch : Room := { frames := 1, cells := 0, slots := 0, locals := 60 }
set_option maxHeartbeats 400000 in
set_option maxRecDepth 100000 in
theorem met_X4_tooMuch (l : Launch) (D : va_G) (kA : Nat → ClassId) (a : Nat → Nat) (V : Sz) (x1 : Int) {r : Int} (hf : f_X4_tooMuch V x1 = some r) : MP l yX4_tooMuch cX4_tooMuch 2 (some .int) rmX4_tooMuch D kA [.ref (a 0), vI x1] (cs_X4 kA a V) (some (vI r)) := by
  refine zPI (own := RX4) rfl rfl (Nat.le_of_ble_eq_true rfl) ?_
  intro p e s m args below meth c ls Q hC hK hP hl hret
  have hl : lv_has ls 2 [(0, .ref (a 0)), (1, vI x1)] := hl
  unfold f_X4_tooMuch at hf
  refine lv_aload_n hC.1 hC.2.1 dX4_tooMuch_0 rfl (lv_at hl 0 rfl) <| gfX4_25 hC hK hP (q0 := 0) rfl rfl dX4_tooMuch_1 <| ziload_n hC.1 hC.2.1 dX4_tooMuch_4 rfl (lv_at hl 1 rfl) <| ?_
  obtain ⟨r_1, hu, hf⟩ := bd_some hf
  have hPc : va_P D vwCl (cs_X3 kA (sv 6 a) (sv 9 V)) _ := hP.sub [6, 7, 8, 9, 10, 11, 12, 13, 14, 15, 16, 17] rfl
  refine zcVP (As := [vI x1]) (rest := []) hC hK (met_X3_isPart l D kA (sv 6 a) (sv 9 V) x1 hu) zwX4_154 hPc (q0 := 0) rfl rfl rfl rfl hl.1 rfl (Nat.le_of_ble_eq_true rfl) ⟨Nat.le_of_ble_eq_true rfl, Nat.le_of_ble_eq_true rfl⟩ ⟨rfl, rfl⟩ ⟨Nat.le_refl _, Nat.le_refl _⟩ dX4_tooMuch_5 <| zifb_eq (tgt := 34) hC.1 hC.2.1 dX4_tooMuch_8 (by decide) (fun hc => ?_) (fun hc => ?_)
  · have hf := it_t hf hc
    exact ziconst hC.1 hC.2.1 dX4_tooMuch_34 <| hret (Int32.ofInt 0) _ _ (qI hf) dX4_tooMuch_35
  · have hf := it_f hf hc
    refine ziconst hC.1 hC.2.1 dX4_tooMuch_11 <| lv_aload_n hC.1 hC.2.1 dX4_tooMuch_12 rfl (lv_at hl 0 rfl) <| gfX4_25 hC hK hP (q0 := 0) rfl rfl dX4_tooMuch_13 <| gfX4_135 hC hK hP (q0 := 6) rfl rfl dX4_tooMuch_16 <| ziload_n hC.1 hC.2.1 dX4_tooMuch_19 rfl (lv_at hl 1 rfl) <| ?_
    obtain ⟨hz_2, hf⟩ := ck_some hf
    refine jal hC hK hP (q0 := 17) rfl (Nat.le_of_ble_eq_true rfl) hz_2 rfl dX4_tooMuch_20 <| lv_aload_n hC.1 hC.2.1 dX4_tooMuch_21 rfl (lv_at hl 0 rfl) <| gfX4_42 hC hK hP (q0 := 0) rfl rfl dX4_tooMuch_22 <| ziload_n hC.1 hC.2.1 dX4_tooMuch_25 rfl (lv_at hl 1 rfl) <| jal hC hK hP (q0 := 22) rfl (Nat.le_of_ble_eq_true rfl) hz_2 rfl dX4_tooMuch_26 <| zisub hC.1 hC.2.1 dX4_tooMuch_27 <| ?_
    obtain ⟨hz_3, hf⟩ := ck_some hf
    exact jmax ⟨(by decide), hz_3⟩ hC qw_535 hl.1 (Nat.le_of_ble_eq_true rfl) ⟨Nat.le_of_ble_eq_true rfl, Nat.le_of_ble_eq_true rfl⟩ ⟨Nat.le_refl _, Nat.le_refl _⟩ dX4_tooMuch_28 <| lv_goto (tgt := 35) hC.1 hC.2.1 dX4_tooMuch_31 (by decide) <| hret (Int32.ofInt (max 0 ((V 20 x1.toNat) - (V 25 x1.toNat)))) _ _ (qI hf) dX4_tooMuch_35
theorem DX4_unclaimed_0 : ∀ q ∈ ([(0, .aload_n 0, 1), (1, .getfield 25, 3), (4, .iload_n 1, 1), (5, .invokevirtual 154, 3), (8, .ifCond .eq 26, 3), (11, .iconst 0, 1), (12, .aload_n 0, 1), (13, .getfield 42, 3), (16, .iload_n 1, 1), (17, .iaload, 1), (18, .aload_n 0, 1), (19, .getfield 25, 3), (22, .getfield 135, 3), (25, .iload_n 1, 1), (26, .iaload, 1), (27, .isub, 1), (28, .invokestatic 173, 3), (31, .goto 4, 3), (34, .iconst 0, 1), (35, .ireturn, 1)] : List (Nat × Instr × Nat)), decode cX4_unclaimed q.1 = .ok q.2 := by decide +kernel
theorem dX4_unclaimed_0 : decode cX4_unclaimed 0 = .ok (.aload_n 0, 1) := DX4_unclaimed_0 (0, .aload_n 0, 1) (List.mem_of_getElem? (i := 0) rfl)
theorem dX4_unclaimed_1 : decode cX4_unclaimed 1 = .ok (.getfield 25, 3) := DX4_unclaimed_0 (1, .getfield 25, 3) (List.mem_of_getElem? (i := 1) rfl)
theorem dX4_unclaimed_4 : decode cX4_unclaimed 4 = .ok (.iload_n 1, 1) := DX4_unclaimed_0 (4, .iload_n 1, 1) (List.mem_of_getElem? (i := 2) rfl)
theorem dX4_unclaimed_5 : decode cX4_unclaimed 5 = .ok (.invokevirtual 154, 3) := DX4_unclaimed_0 (5, .invokevirtual 154, 3) (List.mem_of_getElem? (i := 3) rfl)
theorem dX4_unclaimed_8 : decode cX4_unclaimed 8 = .ok (.ifCond .eq 26, 3) := DX4_unclaimed_0 (8, .ifCond .eq 26, 3) (List.mem_of_getElem? (i := 4) rfl)
theorem dX4_unclaimed_11 : decode cX4_unclaimed 11 = .ok (.iconst 0, 1) := DX4_unclaimed_0 (11, .iconst 0, 1) (List.mem_of_getElem? (i := 5) rfl)
theorem dX4_unclaimed_12 : decode cX4_unclaimed 12 = .ok (.aload_n 0, 1) := DX4_unclaimed_0 (12, .aload_n 0, 1) (List.mem_of_getElem? (i := 6) rfl)
theorem dX4_unclaimed_13 : decode cX4_unclaimed 13 = .ok (.getfield 42, 3) := DX4_unclaimed_0 (13, .getfield 42, 3) (List.mem_of_getElem? (i := 7) rfl)
theorem dX4_unclaimed_16 : decode cX4_unclaimed 16 = .ok (.iload_n 1, 1) := DX4_unclaimed_0 (16, .iload_n 1, 1) (List.mem_of_getElem? (i := 8) rfl)
theorem dX4_unclaimed_17 : decode cX4_unclaimed 17 = .ok (.iaload, 1) := DX4_unclaimed_0 (17, .iaload, 1) (List.mem_of_getElem? (i := 9) rfl)
theorem dX4_unclaimed_18 : decode cX4_unclaimed 18 = .ok (.aload_n 0, 1) := DX4_unclaimed_0 (18, .aload_n 0, 1) (List.mem_of_getElem? (i := 10) rfl)
theorem dX4_unclaimed_19 : decode cX4_unclaimed 19 = .ok (.getfield 25, 3) := DX4_unclaimed_0 (19, .getfield 25, 3) (List.mem_of_getElem? (i := 11) rfl)
theorem dX4_unclaimed_22 : decode cX4_unclaimed 22 = .ok (.getfield 135, 3) := DX4_unclaimed_0 (22, .getfield 135, 3) (List.mem_of_getElem? (i := 12) rfl)
theorem dX4_unclaimed_25 : decode cX4_unclaimed 25 = .ok (.iload_n 1, 1) := DX4_unclaimed_0 (25, .iload_n 1, 1) (List.mem_of_getElem? (i := 13) rfl)
theorem dX4_unclaimed_26 : decode cX4_unclaimed 26 = .ok (.iaload, 1) := DX4_unclaimed_0 (26, .iaload, 1) (List.mem_of_getElem? (i := 14) rfl)
theorem dX4_unclaimed_27 : decode cX4_unclaimed 27 = .ok (.isub, 1) := DX4_unclaimed_0 (27, .isub, 1) (List.mem_of_getElem? (i := 15) rfl)
theorem dX4_unclaimed_28 : decode cX4_unclaimed 28 = .ok (.invokestatic 173, 3) := DX4_unclaimed_0 (28, .invokestatic 173, 3) (List.mem_of_getElem? (i := 16) rfl)
theorem dX4_unclaimed_31 : decode cX4_unclaimed 31 = .ok (.goto 4, 3) := DX4_unclaimed_0 (31, .goto 4, 3) (List.mem_of_getElem? (i := 17) rfl)
theorem dX4_unclaimed_34 : decode cX4_unclaimed 34 = .ok (.iconst 0, 1) := DX4_unclaimed_0 (34, .iconst 0, 1) (List.mem_of_getElem? (i := 18) rfl)
theorem dX4_unclaimed_35 : decode cX4_unclaimed 35 = .ok (.ireturn, 1) := DX4_unclaimed_0 (35, .ireturn, 1) (List.mem_of_getElem? (i := 19) rfl)
abbrev rmX4_unclaimed : Room := { frames := 1, cells := 0, slots := 0, locals := 60 }
set_option maxHeartbeats 400000 in
set_option maxRecDepth 100000 in
theorem met_X4_unclaimed (l : Launch) (D : va_G) (kA : Nat → ClassId) (a : Nat → Nat) (V : Sz) (x1 : Int) {r : Int} (hf : f_X4_unclaimed V x1 = some r) : MP l yX4_unclaimed cX4_unclaimed 2 (some .int) rmX4_unclaimed D kA [.ref (a 0), vI x1] (cs_X4 kA a V) (some (vI r)) := by
  refine zPI (own := RX4) rfl rfl (Nat.le_of_ble_eq_true rfl) ?_
  intro p e s m args below meth c ls Q hC hK hP hl hret
  have hl : lv_has ls 2 [(0, .ref (a 0)), (1, vI x1)] := hl
  unfold f_X4_unclaimed at hf
  refine lv_aload_n hC.1 hC.2.1 dX4_unclaimed_0 rfl (lv_at hl 0 rfl) <| gfX4_25 hC hK hP (q0 := 0) rfl rfl dX4_unclaimed_1 <| ziload_n hC.1 hC.2.1 dX4_unclaimed_4 rfl (lv_at hl 1 rfl) <| ?_
  obtain ⟨r_1, hu, hf⟩ := bd_some hf
  have hPc : va_P D vwCl (cs_X3 kA (sv 6 a) (sv 9 V)) _ := hP.sub [6, 7, 8, 9, 10, 11, 12, 13, 14, 15, 16, 17] rfl
  refine zcVP (As := [vI x1]) (rest := []) hC hK (met_X3_isPart l D kA (sv 6 a) (sv 9 V) x1 hu) zwX4_154 hPc (q0 := 0) rfl rfl rfl rfl hl.1 rfl (Nat.le_of_ble_eq_true rfl) ⟨Nat.le_of_ble_eq_true rfl, Nat.le_of_ble_eq_true rfl⟩ ⟨rfl, rfl⟩ ⟨Nat.le_refl _, Nat.le_refl _⟩ dX4_unclaimed_5 <| zifb_eq (tgt := 34) hC.1 hC.2.1 dX4_unclaimed_8 (by decide) (fun hc => ?_) (fun hc => ?_)
  · have hf := it_t hf hc
    exact ziconst hC.1 hC.2.1 dX4_unclaimed_34 <| hret (Int32.ofInt 0) _ _ (qI hf) dX4_unclaimed_35
  · have hf := it_f hf hc
    refine ziconst hC.1 hC.2.1 dX4_unclaimed_11 <| lv_aload_n hC.1 hC.2.1 dX4_unclaimed_12 rfl (lv_at hl 0 rfl) <| gfX4_42 hC hK hP (q0 := 0) rfl rfl dX4_unclaimed_13 <| ziload_n hC.1 hC.2.1 dX4_unclaimed_16 rfl (lv_at hl 1 rfl) <| ?_
    obtain ⟨hz_2, hf⟩ := ck_some hf
    refine jal hC hK hP (q0 := 22) rfl (Nat.le_of_ble_eq_true rfl) hz_2 rfl dX4_unclaimed_17 <| lv_aload_n hC.1 hC.2.1 dX4_unclaimed_18 rfl (lv_at hl 0 rfl) <| gfX4_25 hC hK hP (q0 := 0) rfl rfl dX4_unclaimed_19 <| gfX4_135 hC hK hP (q0 := 6) rfl rfl dX4_unclaimed_22 <| ziload_n hC.1 hC.2.1 dX4_unclaimed_25 rfl (lv_at hl 1 rfl) <| jal hC hK hP (q0 := 17) rfl (Nat.le_of_ble_eq_true rfl) hz_2 rfl dX4_unclaimed_26 <| zisub hC.1 hC.2.1 dX4_unclaimed_27 <| ?_
    obtain ⟨hz_3, hf⟩ := ck_some hf
    exact jmax ⟨(by decide), hz_3⟩ hC qw_535 hl.1 (Nat.le_of_ble_eq_true rfl) ⟨Nat.le_of_ble_eq_true rfl, Nat.le_of_ble_eq_true rfl⟩ ⟨Nat.le_refl _, Nat.le_refl _⟩ dX4_unclaimed_28 <| lv_goto (tgt := 35) hC.1 hC.2.1 dX4_unclaimed_31 (by decide) <| hret (Int32.ofInt (max 0 ((V 25 x1.toNat) - (V 20 x1.toNat)))) _ _ (qI hf) dX4_unclaimed_35
theorem DX4_unclaimedOfGift_0 : ∀ q ∈ ([(0, .iconst 0, 1), (1, .istore_n 2, 1), (2, .iconst 0, 1), (3, .istore_n 3, 1), (4, .iload_n 3, 1), (5, .iconst 3, 1), (6, .if_icmp .ge 21, 3), (9, .iload_n 2, 1), (10, .aload_n 0, 1), (11, .iload_n 1, 1), (12, .iconst 3, 1), (13, .imul, 1), (14, .iload_n 3, 1), (15, .iadd, 1), (16, .invokevirtual 176, 3), (19, .iadd, 1), (20, .istore_n 2, 1), (21, .iinc 3 1, 3), (24, .goto (-20), 3), (27, .iload_n 2, 1), (28, .ireturn, 1)] : List (Nat × Instr × Nat)), decode cX4_unclaimedOfGift q.1 = .ok q.2 := by decide +kernel
theorem dX4_unclaimedOfGift_0 : decode cX4_unclaimedOfGift 0 = .ok (.iconst 0, 1) := DX4_unclaimedOfGift_0 (0, .iconst 0, 1) (List.mem_of_getElem? (i := 0) rfl)
theorem dX4_unclaimedOfGift_1 : decode cX4_unclaimedOfGift 1 = .ok (.istore_n 2, 1) := DX4_unclaimedOfGift_0 (1, .istore_n 2, 1) (List.mem_of_getElem? (i := 1) rfl)
theorem dX4_unclaimedOfGift_2 : decode cX4_unclaimedOfGift 2 = .ok (.iconst 0, 1) := DX4_unclaimedOfGift_0 (2, .iconst 0, 1) (List.mem_of_getElem? (i := 2) rfl)
theorem dX4_unclaimedOfGift_3 : decode cX4_unclaimedOfGift 3 = .ok (.istore_n 3, 1) := DX4_unclaimedOfGift_0 (3, .istore_n 3, 1) (List.mem_of_getElem? (i := 3) rfl)
theorem dX4_unclaimedOfGift_4 : decode cX4_unclaimedOfGift 4 = .ok (.iload_n 3, 1) := DX4_unclaimedOfGift_0 (4, .iload_n 3, 1) (List.mem_of_getElem? (i := 4) rfl)
theorem dX4_unclaimedOfGift_5 : decode cX4_unclaimedOfGift 5 = .ok (.iconst 3, 1) := DX4_unclaimedOfGift_0 (5, .iconst 3, 1) (List.mem_of_getElem? (i := 5) rfl)
theorem dX4_unclaimedOfGift_6 : decode cX4_unclaimedOfGift 6 = .ok (.if_icmp .ge 21, 3) := DX4_unclaimedOfGift_0 (6, .if_icmp .ge 21, 3) (List.mem_of_getElem? (i := 6) rfl)
theorem dX4_unclaimedOfGift_9 : decode cX4_unclaimedOfGift 9 = .ok (.iload_n 2, 1) := DX4_unclaimedOfGift_0 (9, .iload_n 2, 1) (List.mem_of_getElem? (i := 7) rfl)
theorem dX4_unclaimedOfGift_10 : decode cX4_unclaimedOfGift 10 = .ok (.aload_n 0, 1) := DX4_unclaimedOfGift_0 (10, .aload_n 0, 1) (List.mem_of_getElem? (i := 8) rfl)
theorem dX4_unclaimedOfGift_11 : decode cX4_unclaimedOfGift 11 = .ok (.iload_n 1, 1) := DX4_unclaimedOfGift_0 (11, .iload_n 1, 1) (List.mem_of_getElem? (i := 9) rfl)
theorem dX4_unclaimedOfGift_12 : decode cX4_unclaimedOfGift 12 = .ok (.iconst 3, 1) := DX4_unclaimedOfGift_0 (12, .iconst 3, 1) (List.mem_of_getElem? (i := 10) rfl)
theorem dX4_unclaimedOfGift_13 : decode cX4_unclaimedOfGift 13 = .ok (.imul, 1) := DX4_unclaimedOfGift_0 (13, .imul, 1) (List.mem_of_getElem? (i := 11) rfl)
theorem dX4_unclaimedOfGift_14 : decode cX4_unclaimedOfGift 14 = .ok (.iload_n 3, 1) := DX4_unclaimedOfGift_0 (14, .iload_n 3, 1) (List.mem_of_getElem? (i := 12) rfl)
theorem dX4_unclaimedOfGift_15 : decode cX4_unclaimedOfGift 15 = .ok (.iadd, 1) := DX4_unclaimedOfGift_0 (15, .iadd, 1) (List.mem_of_getElem? (i := 13) rfl)
theorem dX4_unclaimedOfGift_16 : decode cX4_unclaimedOfGift 16 = .ok (.invokevirtual 176, 3) := DX4_unclaimedOfGift_0 (16, .invokevirtual 176, 3) (List.mem_of_getElem? (i := 14) rfl)
theorem dX4_unclaimedOfGift_19 : decode cX4_unclaimedOfGift 19 = .ok (.iadd, 1) := DX4_unclaimedOfGift_0 (19, .iadd, 1) (List.mem_of_getElem? (i := 15) rfl)
theorem dX4_unclaimedOfGift_20 : decode cX4_unclaimedOfGift 20 = .ok (.istore_n 2, 1) := DX4_unclaimedOfGift_0 (20, .istore_n 2, 1) (List.mem_of_getElem? (i := 16) rfl)
theorem dX4_unclaimedOfGift_21 : decode cX4_unclaimedOfGift 21 = .ok (.iinc 3 1, 3) := DX4_unclaimedOfGift_0 (21, .iinc 3 1, 3) (List.mem_of_getElem? (i := 17) rfl)
theorem dX4_unclaimedOfGift_24 : decode cX4_unclaimedOfGift 24 = .ok (.goto (-20), 3) := DX4_unclaimedOfGift_0 (24, .goto (-20), 3) (List.mem_of_getElem? (i := 18) rfl)
theorem dX4_unclaimedOfGift_27 : decode cX4_unclaimedOfGift 27 = .ok (.iload_n 2, 1) := DX4_unclaimedOfGift_0 (27, .iload_n 2, 1) (List.mem_of_getElem? (i := 19) rfl)
theorem dX4_unclaimedOfGift_28 : decode cX4_unclaimedOfGift 28 = .ok (.ireturn, 1) := DX4_unclaimedOfGift_0 (28, .ireturn, 1) (List.mem_of_getElem? (i := 20) rfl)
abbrev rmX4_unclaimedOfGift : Room := { frames := 2, cells := 0, slots := 0, locals := 81 }
set_option maxHeartbeats 400000 in
set_option maxRecDepth 100000 in
theorem met_X4_unclaimedOfGift (l : Launch) (D : va_G) (kA : Nat → ClassId) (a : Nat → Nat) (n : Nat) (V : Sz) (x1 : Int) {r : Int} (hf : f_X4_unclaimedOfGift n V x1 = some r) : MP l yX4_unclaimedOfGift cX4_unclaimedOfGift 4 (some .int) rmX4_unclaimedOfGift D kA [.ref (a 0), vI x1] (cs_X4 kA a V) (some (vI r)) := by
  refine zPI (own := RX4) rfl rfl (Nat.le_of_ble_eq_true rfl) ?_
  intro p e s m args below meth c ls Q hC hK hP hl hret
  have hl : lv_has ls 4 [(0, .ref (a 0)), (1, vI x1)] := hl
  unfold f_X4_unclaimedOfGift at hf
  have L4 : ∀ (k4 : Nat) (y2 : Int) (y3 : Int) (ls : Array Slot), lpF (bX4_unclaimedOfGift_4 n V x1) k4 (y2, y3) = some r → lv_has ls 4 [(0, .ref (a 0)), (1, vI x1), (2, vI y2), (3, vI y3)] → W p l e rmX4_unclaimedOfGift s m args below meth c s.heap [] 0 0 Q (F0 m 4 ls []) := by
    intro k4
    induction k4 with
    | zero => intro y2 y3 ls hf hl; exact lp_0 hf
    | succ k4 ih4 =>
      intro y2 y3 ls hf hl
      have hf := lp_s hf
      rw [bX4_unclaimedOfGift_4_e] at hf
      refine ziload_n hC.1 hC.2.1 dX4_unclaimedOfGift_4 rfl (lv_at hl 3 rfl) <| ziconst hC.1 hC.2.1 dX4_unclaimedOfGift_5 <| ?_
      obtain ⟨hz_1, hf⟩ := ck_some hf
      refine zicmp_ge (tgt := 27) hC.1 hC.2.1 ⟨hz_1, (by decide)⟩ dX4_unclaimedOfGift_6 (by decide) (fun hc => ?_) (fun hc => ?_)
      · have hf := it_t hf hc
        exact ziload_n hC.1 hC.2.1 dX4_unclaimedOfGift_27 rfl (lv_at hl 2 rfl) <| hret (Int32.ofInt y2) _ _ (qI hf) dX4_unclaimedOfGift_28
      · have hf := it_f hf hc
        refine ziload_n hC.1 hC.2.1 dX4_unclaimedOfGift_9 rfl (lv_at hl 2 rfl) <| lv_aload_n hC.1 hC.2.1 dX4_unclaimedOfGift_10 rfl (lv_at hl 0 rfl) <| ziload_n hC.1 hC.2.1 dX4_unclaimedOfGift_11 rfl (lv_at hl 1 rfl) <| ziconst hC.1 hC.2.1 dX4_unclaimedOfGift_12 <| zimul hC.1 hC.2.1 dX4_unclaimedOfGift_13 <| ziload_n hC.1 hC.2.1 dX4_unclaimedOfGift_14 rfl (lv_at hl 3 rfl) <| ziadd hC.1 hC.2.1 dX4_unclaimedOfGift_15 <| ?_
        obtain ⟨r_2, hu, hf⟩ := bd_some hf
        refine zcVP (As := [vI ((x1 * 3) + y3)]) (rest := [vI y2]) hC hK (met_X4_unclaimed l D kA a V ((x1 * 3) + y3) hu) zwX4_176 hP (q0 := 0) rfl rfl rfl rfl hl.1 rfl (Nat.le_of_ble_eq_true rfl) ⟨Nat.le_of_ble_eq_true rfl, Nat.le_of_ble_eq_true rfl⟩ ⟨rfl, rfl⟩ ⟨Nat.le_refl _, Nat.le_refl _⟩ dX4_unclaimedOfGift_16 <| ziadd hC.1 hC.2.1 dX4_unclaimedOfGift_19 <| ?_
        refine ztopi (fun x_3 ex_3 => ?_)
        have hf := nm_at hf ex_3
        refine zistore_n (lv' := [(2, vI x_3), (0, .ref (a 0)), (1, vI x1), (3, vI y3)]) hC.1 hC.2.1 dX4_unclaimedOfGift_20 rfl hl (by decide) rfl (fun ls hl => ?_)
        obtain ⟨x_4, ex_4⟩ : ∃ y : Int, y = y3 + 1 := ⟨_, rfl⟩
        have hf := nm_at hf ex_4
        refine ziinc (v := x_4) (lv' := [(3, vI x_4), (2, vI x_3), (0, .ref (a 0)), (1, vI x1)]) hC.1 hC.2.1 dX4_unclaimedOfGift_21 hl (k := 3) rfl ex_4 (by decide) rfl (fun ls hl => ?_)
        exact lv_goto (tgt := 4) hC.1 hC.2.1 dX4_unclaimedOfGift_24 (by decide) <| ih4 _ _ _ hf (lv_sub hl [2, 3, 1, 0] rfl)
  refine ziconst hC.1 hC.2.1 dX4_unclaimedOfGift_0 <| zistore_n (lv' := [(2, vI 0), (0, .ref (a 0)), (1, vI x1)]) hC.1 hC.2.1 dX4_unclaimedOfGift_1 rfl hl (by decide) rfl (fun ls hl => ?_)
  refine ziconst hC.1 hC.2.1 dX4_unclaimedOfGift_2 <| zistore_n (lv' := [(3, vI 0), (2, vI 0), (0, .ref (a 0)), (1, vI x1)]) hC.1 hC.2.1 dX4_unclaimedOfGift_3 rfl hl (by decide) rfl (fun ls hl => ?_)
  exact L4 n _ _ _ hf (lv_sub hl [2, 3, 1, 0] rfl)
theorem DX4_urgentGift_0 : ∀ q ∈ ([(0, .iconst (-1), 1), (1, .istore_n 1, 1), (2, .sipush 10000, 3), (5, .istore_n 2, 1), (6, .iconst 0, 1), (7, .istore_n 3, 1), (8, .iload_n 3, 1), (9, .aload_n 0, 1), (10, .getfield 25, 3), (13, .getfield 81, 3), (16, .if_icmp .ge 50, 3), (19, .sipush 9999, 3), (22, .aload_n 0, 1), (23, .getfield 25, 3), (26, .getfield 113, 3), (29, .iload_n 3, 1), (30, .iaload, 1), (31, .aload_n 0, 1), (32, .getfield 55, 3), (35, .iadd, 1), (36, .invokestatic 120, 3), (39, .istore 4, 2), (41, .iload 4, 2), (43, .iload_n 2, 1), (44, .if_icmp .ge 16, 3), (47, .aload_n 0, 1), (48, .iload_n 3, 1), (49, .invokevirtual 179, 3), (52, .ifCond .le 8, 3), (55, .iload 4, 2), (57, .istore_n 2, 1), (58, .iload_n 3, 1), (59, .istore_n 1, 1), (60, .iinc 3 1, 3), (63, .goto (-55), 3), (66, .iload_n 1, 1), (67, .ireturn, 1)] : List (Nat × Instr × Nat)), decode cX4_urgentGift q.1 = .ok q.2 := by decide +kernel
theorem dX4_urgentGift_0 : decode cX4_urgentGift 0 = .ok (.iconst (-1), 1) := DX4_urgentGift_0 (0, .iconst (-1), 1) (List.mem_of_getElem? (i := 0) rfl)
theorem dX4_urgentGift_1 : decode cX4_urgentGift 1 = .ok (.istore_n 1, 1) := DX4_urgentGift_0 (1, .istore_n 1, 1) (List.mem_of_getElem? (i := 1) rfl)
theorem dX4_urgentGift_2 : decode cX4_urgentGift 2 = .ok (.sipush 10000, 3) := DX4_urgentGift_0 (2, .sipush 10000, 3) (List.mem_of_getElem? (i := 2) rfl)
theorem dX4_urgentGift_5 : decode cX4_urgentGift 5 = .ok (.istore_n 2, 1) := DX4_urgentGift_0 (5, .istore_n 2, 1) (List.mem_of_getElem? (i := 3) rfl)
theorem dX4_urgentGift_6 : decode cX4_urgentGift 6 = .ok (.iconst 0, 1) := DX4_urgentGift_0 (6, .iconst 0, 1) (List.mem_of_getElem? (i := 4) rfl)
theorem dX4_urgentGift_7 : decode cX4_urgentGift 7 = .ok (.istore_n 3, 1) := DX4_urgentGift_0 (7, .istore_n 3, 1) (List.mem_of_getElem? (i := 5) rfl)
theorem dX4_urgentGift_8 : decode cX4_urgentGift 8 = .ok (.iload_n 3, 1) := DX4_urgentGift_0 (8, .iload_n 3, 1) (List.mem_of_getElem? (i := 6) rfl)
theorem dX4_urgentGift_9 : decode cX4_urgentGift 9 = .ok (.aload_n 0, 1) := DX4_urgentGift_0 (9, .aload_n 0, 1) (List.mem_of_getElem? (i := 7) rfl)
theorem dX4_urgentGift_10 : decode cX4_urgentGift 10 = .ok (.getfield 25, 3) := DX4_urgentGift_0 (10, .getfield 25, 3) (List.mem_of_getElem? (i := 8) rfl)
theorem dX4_urgentGift_13 : decode cX4_urgentGift 13 = .ok (.getfield 81, 3) := DX4_urgentGift_0 (13, .getfield 81, 3) (List.mem_of_getElem? (i := 9) rfl)
theorem dX4_urgentGift_16 : decode cX4_urgentGift 16 = .ok (.if_icmp .ge 50, 3) := DX4_urgentGift_0 (16, .if_icmp .ge 50, 3) (List.mem_of_getElem? (i := 10) rfl)
theorem dX4_urgentGift_19 : decode cX4_urgentGift 19 = .ok (.sipush 9999, 3) := DX4_urgentGift_0 (19, .sipush 9999, 3) (List.mem_of_getElem? (i := 11) rfl)
theorem dX4_urgentGift_22 : decode cX4_urgentGift 22 = .ok (.aload_n 0, 1) := DX4_urgentGift_0 (22, .aload_n 0, 1) (List.mem_of_getElem? (i := 12) rfl)
theorem dX4_urgentGift_23 : decode cX4_urgentGift 23 = .ok (.getfield 25, 3) := DX4_urgentGift_0 (23, .getfield 25, 3) (List.mem_of_getElem? (i := 13) rfl)
theorem dX4_urgentGift_26 : decode cX4_urgentGift 26 = .ok (.getfield 113, 3) := DX4_urgentGift_0 (26, .getfield 113, 3) (List.mem_of_getElem? (i := 14) rfl)
theorem dX4_urgentGift_29 : decode cX4_urgentGift 29 = .ok (.iload_n 3, 1) := DX4_urgentGift_0 (29, .iload_n 3, 1) (List.mem_of_getElem? (i := 15) rfl)
theorem dX4_urgentGift_30 : decode cX4_urgentGift 30 = .ok (.iaload, 1) := DX4_urgentGift_0 (30, .iaload, 1) (List.mem_of_getElem? (i := 16) rfl)
theorem dX4_urgentGift_31 : decode cX4_urgentGift 31 = .ok (.aload_n 0, 1) := DX4_urgentGift_0 (31, .aload_n 0, 1) (List.mem_of_getElem? (i := 17) rfl)
theorem dX4_urgentGift_32 : decode cX4_urgentGift 32 = .ok (.getfield 55, 3) := DX4_urgentGift_0 (32, .getfield 55, 3) (List.mem_of_getElem? (i := 18) rfl)
theorem dX4_urgentGift_35 : decode cX4_urgentGift 35 = .ok (.iadd, 1) := DX4_urgentGift_0 (35, .iadd, 1) (List.mem_of_getElem? (i := 19) rfl)
theorem dX4_urgentGift_36 : decode cX4_urgentGift 36 = .ok (.invokestatic 120, 3) := DX4_urgentGift_0 (36, .invokestatic 120, 3) (List.mem_of_getElem? (i := 20) rfl)
theorem dX4_urgentGift_39 : decode cX4_urgentGift 39 = .ok (.istore 4, 2) := DX4_urgentGift_0 (39, .istore 4, 2) (List.mem_of_getElem? (i := 21) rfl)
theorem dX4_urgentGift_41 : decode cX4_urgentGift 41 = .ok (.iload 4, 2) := DX4_urgentGift_0 (41, .iload 4, 2) (List.mem_of_getElem? (i := 22) rfl)
theorem dX4_urgentGift_43 : decode cX4_urgentGift 43 = .ok (.iload_n 2, 1) := DX4_urgentGift_0 (43, .iload_n 2, 1) (List.mem_of_getElem? (i := 23) rfl)
theorem dX4_urgentGift_44 : decode cX4_urgentGift 44 = .ok (.if_icmp .ge 16, 3) := DX4_urgentGift_0 (44, .if_icmp .ge 16, 3) (List.mem_of_getElem? (i := 24) rfl)
theorem dX4_urgentGift_47 : decode cX4_urgentGift 47 = .ok (.aload_n 0, 1) := DX4_urgentGift_0 (47, .aload_n 0, 1) (List.mem_of_getElem? (i := 25) rfl)
theorem dX4_urgentGift_48 : decode cX4_urgentGift 48 = .ok (.iload_n 3, 1) := DX4_urgentGift_0 (48, .iload_n 3, 1) (List.mem_of_getElem? (i := 26) rfl)
theorem dX4_urgentGift_49 : decode cX4_urgentGift 49 = .ok (.invokevirtual 179, 3) := DX4_urgentGift_0 (49, .invokevirtual 179, 3) (List.mem_of_getElem? (i := 27) rfl)
theorem dX4_urgentGift_52 : decode cX4_urgentGift 52 = .ok (.ifCond .le 8, 3) := DX4_urgentGift_0 (52, .ifCond .le 8, 3) (List.mem_of_getElem? (i := 28) rfl)
theorem dX4_urgentGift_55 : decode cX4_urgentGift 55 = .ok (.iload 4, 2) := DX4_urgentGift_0 (55, .iload 4, 2) (List.mem_of_getElem? (i := 29) rfl)
theorem dX4_urgentGift_57 : decode cX4_urgentGift 57 = .ok (.istore_n 2, 1) := DX4_urgentGift_0 (57, .istore_n 2, 1) (List.mem_of_getElem? (i := 30) rfl)
theorem dX4_urgentGift_58 : decode cX4_urgentGift 58 = .ok (.iload_n 3, 1) := DX4_urgentGift_0 (58, .iload_n 3, 1) (List.mem_of_getElem? (i := 31) rfl)
theorem dX4_urgentGift_59 : decode cX4_urgentGift 59 = .ok (.istore_n 1, 1) := DX4_urgentGift_0 (59, .istore_n 1, 1) (List.mem_of_getElem? (i := 32) rfl)
theorem dX4_urgentGift_60 : decode cX4_urgentGift 60 = .ok (.iinc 3 1, 3) := DX4_urgentGift_0 (60, .iinc 3 1, 3) (List.mem_of_getElem? (i := 33) rfl)
theorem dX4_urgentGift_63 : decode cX4_urgentGift 63 = .ok (.goto (-55), 3) := DX4_urgentGift_0 (63, .goto (-55), 3) (List.mem_of_getElem? (i := 34) rfl)
theorem dX4_urgentGift_66 : decode cX4_urgentGift 66 = .ok (.iload_n 1, 1) := DX4_urgentGift_0 (66, .iload_n 1, 1) (List.mem_of_getElem? (i := 35) rfl)
theorem dX4_urgentGift_67 : decode cX4_urgentGift 67 = .ok (.ireturn, 1) := DX4_urgentGift_0 (67, .ireturn, 1) (List.mem_of_getElem? (i := 36) rfl)
abbrev rmX4_urgentGift : Room := { frames := 3, cells := 0, slots := 0, locals := 104 }
set_option maxHeartbeats 400000 in
set_option maxRecDepth 100000 in
theorem met_X4_urgentGift (l : Launch) (D : va_G) (kA : Nat → ClassId) (a : Nat → Nat) (n : Nat) (V : Sz) {r : Int} (hf : f_X4_urgentGift n V = some r) : MP l yX4_urgentGift cX4_urgentGift 5 (some .int) rmX4_urgentGift D kA [.ref (a 0)] (cs_X4 kA a V) (some (vI r)) := by
  refine zPI (own := RX4) rfl rfl (Nat.le_of_ble_eq_true rfl) ?_
  intro p e s m args below meth c ls Q hC hK hP hl hret
  have hl : lv_has ls 5 [(0, .ref (a 0))] := hl
  unfold f_X4_urgentGift at hf
  have L8 : ∀ (k8 : Nat) (y1 : Int) (y2 : Int) (y3 : Int) (ls : Array Slot), lpF (bX4_urgentGift_8 n V) k8 (y1, y2, y3) = some r → lv_has ls 5 [(0, .ref (a 0)), (1, vI y1), (2, vI y2), (3, vI y3)] → W p l e rmX4_urgentGift s m args below meth c s.heap [] 0 0 Q (F0 m 8 ls []) := by
    intro k8
    induction k8 with
    | zero => intro y1 y2 y3 ls hf hl; exact lp_0 hf
    | succ k8 ih8 =>
      intro y1 y2 y3 ls hf hl
      have hf := lp_s hf
      rw [bX4_urgentGift_8_e] at hf
      have J60 : ∀ (y1 : Int) (y2 : Int) (y3 : Int) (ls : Array Slot), jX4_urgentGift_60 n V (lpF (bX4_urgentGift_8 n V) k8) y1 y2 y3 = some r → lv_has ls 5 [(0, .ref (a 0)), (1, vI y1), (2, vI y2), (3, vI y3)] → W p l e rmX4_urgentGift s m args below meth c s.heap [] 0 0 Q (F0 m 60 ls []) := by
        intro y1 y2 y3 ls hf hl
        unfold jX4_urgentGift_60 at hf
        obtain ⟨x_6, ex_6⟩ : ∃ y : Int, y = y3 + 1 := ⟨_, rfl⟩
        have hf := nm_at hf ex_6
        refine ziinc (v := x_6) (lv' := [(3, vI x_6), (0, .ref (a 0)), (1, vI y1), (2, vI y2)]) hC.1 hC.2.1 dX4_urgentGift_60 hl (k := 3) rfl ex_6 (by decide) rfl (fun ls hl => ?_)
        exact lv_goto (tgt := 8) hC.1 hC.2.1 dX4_urgentGift_63 (by decide) <| ih8 _ _ _ _ hf (lv_sub hl [1, 2, 3, 0] rfl)
      refine ziload_n hC.1 hC.2.1 dX4_urgentGift_8 rfl (lv_at hl 3 rfl) <| lv_aload_n hC.1 hC.2.1 dX4_urgentGift_9 rfl (lv_at hl 0 rfl) <| gfX4_25 hC hK hP (q0 := 0) rfl rfl dX4_urgentGift_10 <| gfX4_81 hC hK hP (q0 := 6) rfl rfl dX4_urgentGift_13 <| ?_
      obtain ⟨hz_1, hf⟩ := ck_some hf
      refine zicmp_ge (tgt := 66) hC.1 hC.2.1 ⟨hz_1.1, hz_1.2⟩ dX4_urgentGift_16 (by decide) (fun hc => ?_) (fun hc => ?_)
      · have hf := it_t hf hc
        exact ziload_n hC.1 hC.2.1 dX4_urgentGift_66 rfl (lv_at hl 1 rfl) <| hret (Int32.ofInt y1) _ _ (qI hf) dX4_urgentGift_67
      · have hf := it_f hf hc
        refine zsipush hC.1 hC.2.1 dX4_urgentGift_19 (by decide) <| lv_aload_n hC.1 hC.2.1 dX4_urgentGift_22 rfl (lv_at hl 0 rfl) <| gfX4_25 hC hK hP (q0 := 0) rfl rfl dX4_urgentGift_23 <| gfX4_113 hC hK hP (q0 := 6) rfl rfl dX4_urgentGift_26 <| ziload_n hC.1 hC.2.1 dX4_urgentGift_29 rfl (lv_at hl 3 rfl) <| ?_
        obtain ⟨hz_2, hf⟩ := ck_some hf
        refine jal hC hK hP (q0 := 7) rfl (Nat.le_of_ble_eq_true rfl) hz_2 rfl dX4_urgentGift_30 <| lv_aload_n hC.1 hC.2.1 dX4_urgentGift_31 rfl (lv_at hl 0 rfl) <| gfX4_55 hC hK hP (q0 := 0) rfl rfl dX4_urgentGift_32 <| ziadd hC.1 hC.2.1 dX4_urgentGift_35 <| ?_
        obtain ⟨hz_3, hf⟩ := ck_some hf
        refine jmin ⟨(by decide), hz_3⟩ hC qw_484 hl.1 (Nat.le_of_ble_eq_true rfl) ⟨Nat.le_of_ble_eq_true rfl, Nat.le_of_ble_eq_true rfl⟩ ⟨Nat.le_refl _, Nat.le_refl _⟩ dX4_urgentGift_36 <| ?_
        refine ztopi (fun x_4 ex_4 => ?_)
        have hf := nm_at hf ex_4
        refine zistore (lv' := [(4, vI x_4), (0, .ref (a 0)), (1, vI y1), (2, vI y2), (3, vI y3)]) hC.1 hC.2.1 dX4_urgentGift_39 hl (by decide) rfl (fun ls hl => ?_)
        refine ziload hC.1 hC.2.1 dX4_urgentGift_41 (lv_at hl 0 rfl) <| ziload_n hC.1 hC.2.1 dX4_urgentGift_43 rfl (lv_at hl 3 rfl) <| ?_
        obtain ⟨hz_5, hf⟩ := ck_some hf
        refine zicmp_ge (tgt := 60) hC.1 hC.2.1 ⟨hz_5.1, hz_5.2⟩ dX4_urgentGift_44 (by decide) (fun hc => ?_) (fun hc => ?_)
        · have hf := it_t hf hc
          exact J60 _ _ _ _ hf (lv_sub hl [1, 2, 3, 4] rfl)
        · have hf := it_f hf hc
          refine lv_aload_n hC.1 hC.2.1 dX4_urgentGift_47 rfl (lv_at hl 1 rfl) <| ziload_n hC.1 hC.2.1 dX4_urgentGift_48 rfl (lv_at hl 4 rfl) <| ?_
          obtain ⟨r_7, hu, hf⟩ := bd_some hf
          refine zcVP (As := [vI y3]) (rest := []) hC hK (met_X4_unclaimedOfGift l D kA a n V y3 hu) zwX4_179 hP (q0 := 0) rfl rfl rfl rfl hl.1 rfl (Nat.le_of_ble_eq_true rfl) ⟨Nat.le_of_ble_eq_true rfl, Nat.le_of_ble_eq_true rfl⟩ ⟨rfl, rfl⟩ ⟨Nat.le_refl _, Nat.le_refl _⟩ dX4_urgentGift_49 <| ?_
          obtain ⟨hz_8, hf⟩ := ck_some hf
          refine zif_le (tgt := 60) hC.1 hC.2.1 hz_8 dX4_urgentGift_52 (by decide) (fun hc => ?_) (fun hc => ?_)
          · have hf := it_t hf hc
            exact J60 _ _ _ _ hf (lv_sub hl [1, 2, 3, 4] rfl)
          · have hf := it_f hf hc
            refine ziload hC.1 hC.2.1 dX4_urgentGift_55 (lv_at hl 0 rfl) <| zistore_n (lv' := [(2, vI x_4), (4, vI x_4), (0, .ref (a 0)), (1, vI y1), (3, vI y3)]) hC.1 hC.2.1 dX4_urgentGift_57 rfl hl (by decide) rfl (fun ls hl => ?_)
            refine ziload_n hC.1 hC.2.1 dX4_urgentGift_58 rfl (lv_at hl 4 rfl) <| zistore_n (lv' := [(1, vI y3), (2, vI x_4), (4, vI x_4), (0, .ref (a 0)), (3, vI y3)]) hC.1 hC.2.1 dX4_urgentGift_59 rfl hl (by decide) rfl (fun ls hl => ?_)
            exact J60 _ _ _ _ hf (lv_sub hl [3, 0, 1, 4] rfl)
  refine ziconst hC.1 hC.2.1 dX4_urgentGift_0 <| zistore_n (lv' := [(1, vI (-1)), (0, .ref (a 0))]) hC.1 hC.2.1 dX4_urgentGift_1 rfl hl (by decide) rfl (fun ls hl => ?_)
  refine zsipush hC.1 hC.2.1 dX4_urgentGift_2 (by decide) <| zistore_n (lv' := [(2, vI 10000), (1, vI (-1)), (0, .ref (a 0))]) hC.1 hC.2.1 dX4_urgentGift_5 rfl hl (by decide) rfl (fun ls hl => ?_)
  refine ziconst hC.1 hC.2.1 dX4_urgentGift_6 <| zistore_n (lv' := [(3, vI 0), (2, vI 10000), (1, vI (-1)), (0, .ref (a 0))]) hC.1 hC.2.1 dX4_urgentGift_7 rfl hl (by decide) rfl (fun ls hl => ?_)
  exact L8 n _ _ _ _ hf (lv_sub hl [3, 2, 1, 0] rfl)
theorem DX4_openUntil_0 : ∀ q ∈ ([(0, .iconst 0, 1), (1, .istore_n 3, 1), (2, .iconst 0, 1), (3, .istore 4, 2), (5, .iload 4, 2), (7, .aload_n 0, 1), (8, .getfield 25, 3), (11, .getfield 81, 3), (14, .if_icmp .ge 47, 3), (17, .aload_n 0, 1), (18, .getfield 25, 3), (21, .getfield 113, 3), (24, .iload 4, 2), (26, .iaload, 1), (27, .aload_n 0, 1), (28, .getfield 55, 3), (31, .iadd, 1), (32, .istore 5, 2), (34, .iload_n 1, 1), (35, .iload 5, 2), (37, .if_icmp .gt 18, 3), (40, .iload 5, 2), (42, .iload_n 2, 1), (43, .if_icmp .gt 12, 3), (46, .iload_n 3, 1), (47, .aload_n 0, 1), (48, .iload 4, 2), (50, .invokevirtual 179, 3), (53, .iadd, 1), (54, .istore_n 3, 1), (55, .iinc 4 1, 3), (58, .goto (-53), 3), (61, .iload_n 3, 1), (62, .ireturn, 1)] : List (Nat × Instr × Nat)), decode cX4_openUntil q.1 = .ok q.2 := by decide +kernel
theorem dX4_openUntil_0 : decode cX4_openUntil 0 = .ok (.iconst 0, 1) := DX4_openUntil_0 (0, .iconst 0, 1) (List.mem_of_getElem? (i := 0) rfl)
theorem dX4_openUntil_1 : decode cX4_openUntil 1 = .ok (.istore_n 3, 1) := DX4_openUntil_0 (1, .istore_n 3, 1) (List.mem_of_getElem? (i := 1) rfl)
theorem dX4_openUntil_2 : decode cX4_openUntil 2 = .ok (.iconst 0, 1) := DX4_openUntil_0 (2, .iconst 0, 1) (List.mem_of_getElem? (i := 2) rfl)
theorem dX4_openUntil_3 : decode cX4_openUntil 3 = .ok (.istore 4, 2) := DX4_openUntil_0 (3, .istore 4, 2) (List.mem_of_getElem? (i := 3) rfl)
theorem dX4_openUntil_5 : decode cX4_openUntil 5 = .ok (.iload 4, 2) := DX4_openUntil_0 (5, .iload 4, 2) (List.mem_of_getElem? (i := 4) rfl)
theorem dX4_openUntil_7 : decode cX4_openUntil 7 = .ok (.aload_n 0, 1) := DX4_openUntil_0 (7, .aload_n 0, 1) (List.mem_of_getElem? (i := 5) rfl)
theorem dX4_openUntil_8 : decode cX4_openUntil 8 = .ok (.getfield 25, 3) := DX4_openUntil_0 (8, .getfield 25, 3) (List.mem_of_getElem? (i := 6) rfl)
theorem dX4_openUntil_11 : decode cX4_openUntil 11 = .ok (.getfield 81, 3) := DX4_openUntil_0 (11, .getfield 81, 3) (List.mem_of_getElem? (i := 7) rfl)
theorem dX4_openUntil_14 : decode cX4_openUntil 14 = .ok (.if_icmp .ge 47, 3) := DX4_openUntil_0 (14, .if_icmp .ge 47, 3) (List.mem_of_getElem? (i := 8) rfl)
theorem dX4_openUntil_17 : decode cX4_openUntil 17 = .ok (.aload_n 0, 1) := DX4_openUntil_0 (17, .aload_n 0, 1) (List.mem_of_getElem? (i := 9) rfl)
theorem dX4_openUntil_18 : decode cX4_openUntil 18 = .ok (.getfield 25, 3) := DX4_openUntil_0 (18, .getfield 25, 3) (List.mem_of_getElem? (i := 10) rfl)
theorem dX4_openUntil_21 : decode cX4_openUntil 21 = .ok (.getfield 113, 3) := DX4_openUntil_0 (21, .getfield 113, 3) (List.mem_of_getElem? (i := 11) rfl)
theorem dX4_openUntil_24 : decode cX4_openUntil 24 = .ok (.iload 4, 2) := DX4_openUntil_0 (24, .iload 4, 2) (List.mem_of_getElem? (i := 12) rfl)
theorem dX4_openUntil_26 : decode cX4_openUntil 26 = .ok (.iaload, 1) := DX4_openUntil_0 (26, .iaload, 1) (List.mem_of_getElem? (i := 13) rfl)
theorem dX4_openUntil_27 : decode cX4_openUntil 27 = .ok (.aload_n 0, 1) := DX4_openUntil_0 (27, .aload_n 0, 1) (List.mem_of_getElem? (i := 14) rfl)
theorem dX4_openUntil_28 : decode cX4_openUntil 28 = .ok (.getfield 55, 3) := DX4_openUntil_0 (28, .getfield 55, 3) (List.mem_of_getElem? (i := 15) rfl)
theorem dX4_openUntil_31 : decode cX4_openUntil 31 = .ok (.iadd, 1) := DX4_openUntil_0 (31, .iadd, 1) (List.mem_of_getElem? (i := 16) rfl)
theorem dX4_openUntil_32 : decode cX4_openUntil 32 = .ok (.istore 5, 2) := DX4_openUntil_0 (32, .istore 5, 2) (List.mem_of_getElem? (i := 17) rfl)
theorem dX4_openUntil_34 : decode cX4_openUntil 34 = .ok (.iload_n 1, 1) := DX4_openUntil_0 (34, .iload_n 1, 1) (List.mem_of_getElem? (i := 18) rfl)
theorem dX4_openUntil_35 : decode cX4_openUntil 35 = .ok (.iload 5, 2) := DX4_openUntil_0 (35, .iload 5, 2) (List.mem_of_getElem? (i := 19) rfl)
theorem dX4_openUntil_37 : decode cX4_openUntil 37 = .ok (.if_icmp .gt 18, 3) := DX4_openUntil_0 (37, .if_icmp .gt 18, 3) (List.mem_of_getElem? (i := 20) rfl)
theorem dX4_openUntil_40 : decode cX4_openUntil 40 = .ok (.iload 5, 2) := DX4_openUntil_0 (40, .iload 5, 2) (List.mem_of_getElem? (i := 21) rfl)
theorem dX4_openUntil_42 : decode cX4_openUntil 42 = .ok (.iload_n 2, 1) := DX4_openUntil_0 (42, .iload_n 2, 1) (List.mem_of_getElem? (i := 22) rfl)
theorem dX4_openUntil_43 : decode cX4_openUntil 43 = .ok (.if_icmp .gt 12, 3) := DX4_openUntil_0 (43, .if_icmp .gt 12, 3) (List.mem_of_getElem? (i := 23) rfl)
theorem dX4_openUntil_46 : decode cX4_openUntil 46 = .ok (.iload_n 3, 1) := DX4_openUntil_0 (46, .iload_n 3, 1) (List.mem_of_getElem? (i := 24) rfl)
theorem dX4_openUntil_47 : decode cX4_openUntil 47 = .ok (.aload_n 0, 1) := DX4_openUntil_0 (47, .aload_n 0, 1) (List.mem_of_getElem? (i := 25) rfl)
theorem dX4_openUntil_48 : decode cX4_openUntil 48 = .ok (.iload 4, 2) := DX4_openUntil_0 (48, .iload 4, 2) (List.mem_of_getElem? (i := 26) rfl)
theorem dX4_openUntil_50 : decode cX4_openUntil 50 = .ok (.invokevirtual 179, 3) := DX4_openUntil_0 (50, .invokevirtual 179, 3) (List.mem_of_getElem? (i := 27) rfl)
theorem dX4_openUntil_53 : decode cX4_openUntil 53 = .ok (.iadd, 1) := DX4_openUntil_0 (53, .iadd, 1) (List.mem_of_getElem? (i := 28) rfl)
theorem dX4_openUntil_54 : decode cX4_openUntil 54 = .ok (.istore_n 3, 1) := DX4_openUntil_0 (54, .istore_n 3, 1) (List.mem_of_getElem? (i := 29) rfl)
theorem dX4_openUntil_55 : decode cX4_openUntil 55 = .ok (.iinc 4 1, 3) := DX4_openUntil_0 (55, .iinc 4 1, 3) (List.mem_of_getElem? (i := 30) rfl)
theorem dX4_openUntil_58 : decode cX4_openUntil 58 = .ok (.goto (-53), 3) := DX4_openUntil_0 (58, .goto (-53), 3) (List.mem_of_getElem? (i := 31) rfl)
theorem dX4_openUntil_61 : decode cX4_openUntil 61 = .ok (.iload_n 3, 1) := DX4_openUntil_0 (61, .iload_n 3, 1) (List.mem_of_getElem? (i := 32) rfl)
theorem dX4_openUntil_62 : decode cX4_openUntil 62 = .ok (.ireturn, 1) := DX4_openUntil_0 (62, .ireturn, 1) (List.mem_of_getElem? (i := 33) rfl)
abbrev rmX4_openUntil : Room := { frames := 3, cells := 0, slots := 0, locals := 104 }
set_option maxHeartbeats 400000 in
set_option maxRecDepth 100000 in
theorem met_X4_openUntil (l : Launch) (D : va_G) (kA : Nat → ClassId) (a : Nat → Nat) (n : Nat) (V : Sz) (x1 : Int) (x2 : Int) {r : Int} (hf : f_X4_openUntil n V x1 x2 = some r) : MP l yX4_openUntil cX4_openUntil 6 (some .int) rmX4_openUntil D kA [.ref (a 0), vI x1, vI x2] (cs_X4 kA a V) (some (vI r)) := by
  refine zPI (own := RX4) rfl rfl (Nat.le_of_ble_eq_true rfl) ?_
  intro p e s m args below meth c ls Q hC hK hP hl hret
  have hl : lv_has ls 6 [(0, .ref (a 0)), (1, vI x1), (2, vI x2)] := hl
  unfold f_X4_openUntil at hf
  have L5 : ∀ (k5 : Nat) (y3 : Int) (y4 : Int) (ls : Array Slot), lpF (bX4_openUntil_5 n V x1 x2) k5 (y3, y4) = some r → lv_has ls 6 [(0, .ref (a 0)), (1, vI x1), (2, vI x2), (3, vI y3), (4, vI y4)] → W p l e rmX4_openUntil s m args below meth c s.heap [] 0 0 Q (F0 m 5 ls []) := by
    intro k5
    induction k5 with
    | zero => intro y3 y4 ls hf hl; exact lp_0 hf
    | succ k5 ih5 =>
      intro y3 y4 ls hf hl
      have hf := lp_s hf
      rw [bX4_openUntil_5_e] at hf
      have J55 : ∀ (y3 : Int) (y4 : Int) (ls : Array Slot), jX4_openUntil_55 n V x1 x2 (lpF (bX4_openUntil_5 n V x1 x2) k5) y3 y4 = some r → lv_has ls 6 [(0, .ref (a 0)), (1, vI x1), (2, vI x2), (3, vI y3), (4, vI y4)] → W p l e rmX4_openUntil s m args below meth c s.heap [] 0 0 Q (F0 m 55 ls []) := by
        intro y3 y4 ls hf hl
        unfold jX4_openUntil_55 at hf
        obtain ⟨x_5, ex_5⟩ : ∃ y : Int, y = y4 + 1 := ⟨_, rfl⟩
        have hf := nm_at hf ex_5
        refine ziinc (v := x_5) (lv' := [(4, vI x_5), (0, .ref (a 0)), (1, vI x1), (2, vI x2), (3, vI y3)]) hC.1 hC.2.1 dX4_openUntil_55 hl (k := 4) rfl ex_5 (by decide) rfl (fun ls hl => ?_)
        exact lv_goto (tgt := 5) hC.1 hC.2.1 dX4_openUntil_58 (by decide) <| ih5 _ _ _ hf (lv_sub hl [1, 2, 3, 4, 0] rfl)
      refine ziload hC.1 hC.2.1 dX4_openUntil_5 (lv_at hl 4 rfl) <| lv_aload_n hC.1 hC.2.1 dX4_openUntil_7 rfl (lv_at hl 0 rfl) <| gfX4_25 hC hK hP (q0 := 0) rfl rfl dX4_openUntil_8 <| gfX4_81 hC hK hP (q0 := 6) rfl rfl dX4_openUntil_11 <| ?_
      obtain ⟨hz_1, hf⟩ := ck_some hf
      refine zicmp_ge (tgt := 61) hC.1 hC.2.1 ⟨hz_1.1, hz_1.2⟩ dX4_openUntil_14 (by decide) (fun hc => ?_) (fun hc => ?_)
      · have hf := it_t hf hc
        exact ziload_n hC.1 hC.2.1 dX4_openUntil_61 rfl (lv_at hl 3 rfl) <| hret (Int32.ofInt y3) _ _ (qI hf) dX4_openUntil_62
      · have hf := it_f hf hc
        refine lv_aload_n hC.1 hC.2.1 dX4_openUntil_17 rfl (lv_at hl 0 rfl) <| gfX4_25 hC hK hP (q0 := 0) rfl rfl dX4_openUntil_18 <| gfX4_113 hC hK hP (q0 := 6) rfl rfl dX4_openUntil_21 <| ziload hC.1 hC.2.1 dX4_openUntil_24 (lv_at hl 4 rfl) <| ?_
        obtain ⟨hz_2, hf⟩ := ck_some hf
        refine jal hC hK hP (q0 := 7) rfl (Nat.le_of_ble_eq_true rfl) hz_2 rfl dX4_openUntil_26 <| lv_aload_n hC.1 hC.2.1 dX4_openUntil_27 rfl (lv_at hl 0 rfl) <| gfX4_55 hC hK hP (q0 := 0) rfl rfl dX4_openUntil_28 <| ziadd hC.1 hC.2.1 dX4_openUntil_31 <| ?_
        refine ztopi (fun x_3 ex_3 => ?_)
        have hf := nm_at hf ex_3
        refine zistore (lv' := [(5, vI x_3), (0, .ref (a 0)), (1, vI x1), (2, vI x2), (3, vI y3), (4, vI y4)]) hC.1 hC.2.1 dX4_openUntil_32 hl (by decide) rfl (fun ls hl => ?_)
        refine ziload_n hC.1 hC.2.1 dX4_openUntil_34 rfl (lv_at hl 2 rfl) <| ziload hC.1 hC.2.1 dX4_openUntil_35 (lv_at hl 0 rfl) <| ?_
        obtain ⟨hz_4, hf⟩ := ck_some hf
        refine zicmp_gt (tgt := 55) hC.1 hC.2.1 ⟨hz_4.1, hz_4.2⟩ dX4_openUntil_37 (by decide) (fun hc => ?_) (fun hc => ?_)
        · have hf := it_t hf hc
          exact J55 _ _ _ hf (lv_sub hl [1, 2, 3, 4, 5] rfl)
        · have hf := it_f hf hc
          refine ziload hC.1 hC.2.1 dX4_openUntil_40 (lv_at hl 0 rfl) <| ziload_n hC.1 hC.2.1 dX4_openUntil_42 rfl (lv_at hl 3 rfl) <| ?_
          obtain ⟨hz_6, hf⟩ := ck_some hf
          refine zicmp_gt (tgt := 55) hC.1 hC.2.1 ⟨hz_4.2, hz_6⟩ dX4_openUntil_43 (by decide) (fun hc => ?_) (fun hc => ?_)
          · have hf := it_t hf hc
            exact J55 _ _ _ hf (lv_sub hl [1, 2, 3, 4, 5] rfl)
          · have hf := it_f hf hc
            refine ziload_n hC.1 hC.2.1 dX4_openUntil_46 rfl (lv_at hl 4 rfl) <| lv_aload_n hC.1 hC.2.1 dX4_openUntil_47 rfl (lv_at hl 1 rfl) <| ziload hC.1 hC.2.1 dX4_openUntil_48 (lv_at hl 5 rfl) <| ?_
            obtain ⟨r_7, hu, hf⟩ := bd_some hf
            refine zcVP (As := [vI y4]) (rest := [vI y3]) hC hK (met_X4_unclaimedOfGift l D kA a n V y4 hu) zwX4_179 hP (q0 := 0) rfl rfl rfl rfl hl.1 rfl (Nat.le_of_ble_eq_true rfl) ⟨Nat.le_of_ble_eq_true rfl, Nat.le_of_ble_eq_true rfl⟩ ⟨rfl, rfl⟩ ⟨Nat.le_refl _, Nat.le_refl _⟩ dX4_openUntil_50 <| ziadd hC.1 hC.2.1 dX4_openUntil_53 <| ?_
            refine ztopi (fun x_8 ex_8 => ?_)
            have hf := nm_at hf ex_8
            refine zistore_n (lv' := [(3, vI x_8), (5, vI x_3), (0, .ref (a 0)), (1, vI x1), (2, vI x2), (4, vI y4)]) hC.1 hC.2.1 dX4_openUntil_54 rfl hl (by decide) rfl (fun ls hl => ?_)
            exact J55 _ _ _ hf (lv_sub hl [2, 3, 4, 0, 5] rfl)
  refine ziconst hC.1 hC.2.1 dX4_openUntil_0 <| zistore_n (lv' := [(3, vI 0), (0, .ref (a 0)), (1, vI x1), (2, vI x2)]) hC.1 hC.2.1 dX4_openUntil_1 rfl hl (by decide) rfl (fun ls hl => ?_)
  refine ziconst hC.1 hC.2.1 dX4_openUntil_2 <| zistore (lv' := [(4, vI 0), (3, vI 0), (0, .ref (a 0)), (1, vI x1), (2, vI x2)]) hC.1 hC.2.1 dX4_openUntil_3 hl (by decide) rfl (fun ls hl => ?_)
  exact L5 n _ _ _ hf (lv_sub hl [2, 3, 4, 1, 0] rfl)
theorem DX4_isLimited_0 : ∀ q ∈ ([(0, .iconst 0, 1), (1, .istore_n 3, 1), (2, .iload_n 3, 1), (3, .aload_n 0, 1), (4, .getfield 25, 3), (7, .getfield 96, 3), (10, .iload_n 1, 1), (11, .iaload, 1), (12, .if_icmp .ge 49, 3), (15, .iload_n 1, 1), (16, .iconst 3, 1), (17, .imul, 1), (18, .iload_n 3, 1), (19, .iadd, 1), (20, .istore 4, 2), (22, .aload_n 0, 1), (23, .getfield 25, 3), (26, .getfield 103, 3), (29, .iload 4, 2), (31, .iaload, 1), (32, .iload_n 2, 1), (33, .if_icmp .ne 22, 3), (36, .aload_n 0, 1), (37, .getfield 42, 3), (40, .iload 4, 2), (42, .iaload, 1), (43, .aload_n 0, 1), (44, .getfield 39, 3), (47, .iload 4, 2), (49, .iaload, 1), (50, .if_icmp .ge 5, 3), (53, .iconst 1, 1), (54, .ireturn, 1), (55, .iinc 3 1, 3), (58, .goto (-56), 3), (61, .iconst 0, 1), (62, .ireturn, 1)] : List (Nat × Instr × Nat)), decode cX4_isLimited q.1 = .ok q.2 := by decide +kernel
theorem dX4_isLimited_0 : decode cX4_isLimited 0 = .ok (.iconst 0, 1) := DX4_isLimited_0 (0, .iconst 0, 1) (List.mem_of_getElem? (i := 0) rfl)
theorem dX4_isLimited_1 : decode cX4_isLimited 1 = .ok (.istore_n 3, 1) := DX4_isLimited_0 (1, .istore_n 3, 1) (List.mem_of_getElem? (i := 1) rfl)
theorem dX4_isLimited_2 : decode cX4_isLimited 2 = .ok (.iload_n 3, 1) := DX4_isLimited_0 (2, .iload_n 3, 1) (List.mem_of_getElem? (i := 2) rfl)
theorem dX4_isLimited_3 : decode cX4_isLimited 3 = .ok (.aload_n 0, 1) := DX4_isLimited_0 (3, .aload_n 0, 1) (List.mem_of_getElem? (i := 3) rfl)
theorem dX4_isLimited_4 : decode cX4_isLimited 4 = .ok (.getfield 25, 3) := DX4_isLimited_0 (4, .getfield 25, 3) (List.mem_of_getElem? (i := 4) rfl)
theorem dX4_isLimited_7 : decode cX4_isLimited 7 = .ok (.getfield 96, 3) := DX4_isLimited_0 (7, .getfield 96, 3) (List.mem_of_getElem? (i := 5) rfl)
theorem dX4_isLimited_10 : decode cX4_isLimited 10 = .ok (.iload_n 1, 1) := DX4_isLimited_0 (10, .iload_n 1, 1) (List.mem_of_getElem? (i := 6) rfl)
theorem dX4_isLimited_11 : decode cX4_isLimited 11 = .ok (.iaload, 1) := DX4_isLimited_0 (11, .iaload, 1) (List.mem_of_getElem? (i := 7) rfl)
theorem dX4_isLimited_12 : decode cX4_isLimited 12 = .ok (.if_icmp .ge 49, 3) := DX4_isLimited_0 (12, .if_icmp .ge 49, 3) (List.mem_of_getElem? (i := 8) rfl)
theorem dX4_isLimited_15 : decode cX4_isLimited 15 = .ok (.iload_n 1, 1) := DX4_isLimited_0 (15, .iload_n 1, 1) (List.mem_of_getElem? (i := 9) rfl)
theorem dX4_isLimited_16 : decode cX4_isLimited 16 = .ok (.iconst 3, 1) := DX4_isLimited_0 (16, .iconst 3, 1) (List.mem_of_getElem? (i := 10) rfl)
theorem dX4_isLimited_17 : decode cX4_isLimited 17 = .ok (.imul, 1) := DX4_isLimited_0 (17, .imul, 1) (List.mem_of_getElem? (i := 11) rfl)
theorem dX4_isLimited_18 : decode cX4_isLimited 18 = .ok (.iload_n 3, 1) := DX4_isLimited_0 (18, .iload_n 3, 1) (List.mem_of_getElem? (i := 12) rfl)
theorem dX4_isLimited_19 : decode cX4_isLimited 19 = .ok (.iadd, 1) := DX4_isLimited_0 (19, .iadd, 1) (List.mem_of_getElem? (i := 13) rfl)
theorem dX4_isLimited_20 : decode cX4_isLimited 20 = .ok (.istore 4, 2) := DX4_isLimited_0 (20, .istore 4, 2) (List.mem_of_getElem? (i := 14) rfl)
theorem dX4_isLimited_22 : decode cX4_isLimited 22 = .ok (.aload_n 0, 1) := DX4_isLimited_0 (22, .aload_n 0, 1) (List.mem_of_getElem? (i := 15) rfl)
theorem dX4_isLimited_23 : decode cX4_isLimited 23 = .ok (.getfield 25, 3) := DX4_isLimited_0 (23, .getfield 25, 3) (List.mem_of_getElem? (i := 16) rfl)
theorem dX4_isLimited_26 : decode cX4_isLimited 26 = .ok (.getfield 103, 3) := DX4_isLimited_0 (26, .getfield 103, 3) (List.mem_of_getElem? (i := 17) rfl)
theorem dX4_isLimited_29 : decode cX4_isLimited 29 = .ok (.iload 4, 2) := DX4_isLimited_0 (29, .iload 4, 2) (List.mem_of_getElem? (i := 18) rfl)
theorem dX4_isLimited_31 : decode cX4_isLimited 31 = .ok (.iaload, 1) := DX4_isLimited_0 (31, .iaload, 1) (List.mem_of_getElem? (i := 19) rfl)
theorem dX4_isLimited_32 : decode cX4_isLimited 32 = .ok (.iload_n 2, 1) := DX4_isLimited_0 (32, .iload_n 2, 1) (List.mem_of_getElem? (i := 20) rfl)
theorem dX4_isLimited_33 : decode cX4_isLimited 33 = .ok (.if_icmp .ne 22, 3) := DX4_isLimited_0 (33, .if_icmp .ne 22, 3) (List.mem_of_getElem? (i := 21) rfl)
theorem dX4_isLimited_36 : decode cX4_isLimited 36 = .ok (.aload_n 0, 1) := DX4_isLimited_0 (36, .aload_n 0, 1) (List.mem_of_getElem? (i := 22) rfl)
theorem dX4_isLimited_37 : decode cX4_isLimited 37 = .ok (.getfield 42, 3) := DX4_isLimited_0 (37, .getfield 42, 3) (List.mem_of_getElem? (i := 23) rfl)
theorem dX4_isLimited_40 : decode cX4_isLimited 40 = .ok (.iload 4, 2) := DX4_isLimited_0 (40, .iload 4, 2) (List.mem_of_getElem? (i := 24) rfl)
theorem dX4_isLimited_42 : decode cX4_isLimited 42 = .ok (.iaload, 1) := DX4_isLimited_0 (42, .iaload, 1) (List.mem_of_getElem? (i := 25) rfl)
theorem dX4_isLimited_43 : decode cX4_isLimited 43 = .ok (.aload_n 0, 1) := DX4_isLimited_0 (43, .aload_n 0, 1) (List.mem_of_getElem? (i := 26) rfl)
theorem dX4_isLimited_44 : decode cX4_isLimited 44 = .ok (.getfield 39, 3) := DX4_isLimited_0 (44, .getfield 39, 3) (List.mem_of_getElem? (i := 27) rfl)
theorem dX4_isLimited_47 : decode cX4_isLimited 47 = .ok (.iload 4, 2) := DX4_isLimited_0 (47, .iload 4, 2) (List.mem_of_getElem? (i := 28) rfl)
theorem dX4_isLimited_49 : decode cX4_isLimited 49 = .ok (.iaload, 1) := DX4_isLimited_0 (49, .iaload, 1) (List.mem_of_getElem? (i := 29) rfl)
theorem dX4_isLimited_50 : decode cX4_isLimited 50 = .ok (.if_icmp .ge 5, 3) := DX4_isLimited_0 (50, .if_icmp .ge 5, 3) (List.mem_of_getElem? (i := 30) rfl)
theorem dX4_isLimited_53 : decode cX4_isLimited 53 = .ok (.iconst 1, 1) := DX4_isLimited_0 (53, .iconst 1, 1) (List.mem_of_getElem? (i := 31) rfl)
theorem dX4_isLimited_54 : decode cX4_isLimited 54 = .ok (.ireturn, 1) := DX4_isLimited_0 (54, .ireturn, 1) (List.mem_of_getElem? (i := 32) rfl)
theorem dX4_isLimited_55 : decode cX4_isLimited 55 = .ok (.iinc 3 1, 3) := DX4_isLimited_0 (55, .iinc 3 1, 3) (List.mem_of_getElem? (i := 33) rfl)
theorem dX4_isLimited_58 : decode cX4_isLimited 58 = .ok (.goto (-56), 3) := DX4_isLimited_0 (58, .goto (-56), 3) (List.mem_of_getElem? (i := 34) rfl)
theorem dX4_isLimited_61 : decode cX4_isLimited 61 = .ok (.iconst 0, 1) := DX4_isLimited_0 (61, .iconst 0, 1) (List.mem_of_getElem? (i := 35) rfl)
theorem dX4_isLimited_62 : decode cX4_isLimited 62 = .ok (.ireturn, 1) := DX4_isLimited_0 (62, .ireturn, 1) (List.mem_of_getElem? (i := 36) rfl)
abbrev rmX4_isLimited : Room := { frames := 0, cells := 0, slots := 0, locals := 0 }
set_option maxHeartbeats 400000 in
set_option maxRecDepth 100000 in
theorem met_X4_isLimited (l : Launch) (D : va_G) (kA : Nat → ClassId) (a : Nat → Nat) (n : Nat) (V : Sz) (x1 : Int) (x2 : Int) {r : Bool} (hf : f_X4_isLimited n V x1 x2 = some r) : MP l yX4_isLimited cX4_isLimited 5 (some .boolean) rmX4_isLimited D kA [.ref (a 0), vI x1, vI x2] (cs_X4 kA a V) (some (vI (bI r))) := by
  refine zPZ (own := RX4) rfl rfl (Nat.le_of_ble_eq_true rfl) ?_
  intro p e s m args below meth c ls Q hC hK hP hl hret
  have hl : lv_has ls 5 [(0, .ref (a 0)), (1, vI x1), (2, vI x2)] := hl
  unfold f_X4_isLimited at hf
  have L2 : ∀ (k2 : Nat) (y3 : Int) (ls : Array Slot), lpF (bX4_isLimited_2 n V x1 x2) k2 y3 = some r → lv_has ls 5 [(0, .ref (a 0)), (1, vI x1), (2, vI x2), (3, vI y3)] → W p l e rmX4_isLimited s m args below meth c s.heap [] 0 0 Q (F0 m 2 ls []) := by
    intro k2
    induction k2 with
    | zero => intro y3 ls hf hl; exact lp_0 hf
    | succ k2 ih2 =>
      intro y3 ls hf hl
      have hf := lp_s hf
      rw [bX4_isLimited_2_e] at hf
      have J55 : ∀ (y3 : Int) (ls : Array Slot), jX4_isLimited_55 n V x1 x2 (lpF (bX4_isLimited_2 n V x1 x2) k2) y3 = some r → lv_has ls 5 [(0, .ref (a 0)), (1, vI x1), (2, vI x2), (3, vI y3)] → W p l e rmX4_isLimited s m args below meth c s.heap [] 0 0 Q (F0 m 55 ls []) := by
        intro y3 ls hf hl
        unfold jX4_isLimited_55 at hf
        obtain ⟨x_6, ex_6⟩ : ∃ y : Int, y = y3 + 1 := ⟨_, rfl⟩
        have hf := nm_at hf ex_6
        refine ziinc (v := x_6) (lv' := [(3, vI x_6), (0, .ref (a 0)), (1, vI x1), (2, vI x2)]) hC.1 hC.2.1 dX4_isLimited_55 hl (k := 3) rfl ex_6 (by decide) rfl (fun ls hl => ?_)
        exact lv_goto (tgt := 2) hC.1 hC.2.1 dX4_isLimited_58 (by decide) <| ih2 _ _ hf (lv_sub hl [1, 2, 3, 0] rfl)
      refine ziload_n hC.1 hC.2.1 dX4_isLimited_2 rfl (lv_at hl 3 rfl) <| lv_aload_n hC.1 hC.2.1 dX4_isLimited_3 rfl (lv_at hl 0 rfl) <| gfX4_25 hC hK hP (q0 := 0) rfl rfl dX4_isLimited_4 <| gfX4_96 hC hK hP (q0 := 6) rfl rfl dX4_isLimited_7 <| ziload_n hC.1 hC.2.1 dX4_isLimited_10 rfl (lv_at hl 1 rfl) <| ?_
      obtain ⟨hz_1, hf⟩ := ck_some hf
      refine jal hC hK hP (q0 := 11) rfl (Nat.le_of_ble_eq_true rfl) hz_1 rfl dX4_isLimited_11 <| ?_
      obtain ⟨hz_2, hf⟩ := ck_some hf
      refine zicmp_ge (tgt := 61) hC.1 hC.2.1 ⟨hz_2.1, hz_2.2⟩ dX4_isLimited_12 (by decide) (fun hc => ?_) (fun hc => ?_)
      · have hf := it_t hf hc
        exact ziconst hC.1 hC.2.1 dX4_isLimited_61 <| hret (Int32.ofInt (bI false)) _ _ (zb01 _) (qZ hf) dX4_isLimited_62
      · have hf := it_f hf hc
        refine ziload_n hC.1 hC.2.1 dX4_isLimited_15 rfl (lv_at hl 1 rfl) <| ziconst hC.1 hC.2.1 dX4_isLimited_16 <| zimul hC.1 hC.2.1 dX4_isLimited_17 <| ziload_n hC.1 hC.2.1 dX4_isLimited_18 rfl (lv_at hl 3 rfl) <| ziadd hC.1 hC.2.1 dX4_isLimited_19 <| ?_
        refine ztopi (fun x_3 ex_3 => ?_)
        have hf := nm_at hf ex_3
        refine zistore (lv' := [(4, vI x_3), (0, .ref (a 0)), (1, vI x1), (2, vI x2), (3, vI y3)]) hC.1 hC.2.1 dX4_isLimited_20 hl (by decide) rfl (fun ls hl => ?_)
        refine lv_aload_n hC.1 hC.2.1 dX4_isLimited_22 rfl (lv_at hl 1 rfl) <| gfX4_25 hC hK hP (q0 := 0) rfl rfl dX4_isLimited_23 <| gfX4_103 hC hK hP (q0 := 6) rfl rfl dX4_isLimited_26 <| ziload hC.1 hC.2.1 dX4_isLimited_29 (lv_at hl 0 rfl) <| ?_
        obtain ⟨hz_4, hf⟩ := ck_some hf
        refine jal hC hK hP (q0 := 13) rfl (Nat.le_of_ble_eq_true rfl) hz_4 rfl dX4_isLimited_31 <| ziload_n hC.1 hC.2.1 dX4_isLimited_32 rfl (lv_at hl 3 rfl) <| ?_
        obtain ⟨hz_5, hf⟩ := ck_some hf
        refine zicmp_ne (tgt := 55) hC.1 hC.2.1 ⟨hz_5.1, hz_5.2⟩ dX4_isLimited_33 (by decide) (fun hc => ?_) (fun hc => ?_)
        · have hf := it_f hf hc
          exact J55 _ _ hf (lv_sub hl [1, 2, 3, 4] rfl)
        · have hf := it_t hf hc
          refine lv_aload_n hC.1 hC.2.1 dX4_isLimited_36 rfl (lv_at hl 1 rfl) <| gfX4_42 hC hK hP (q0 := 0) rfl rfl dX4_isLimited_37 <| ziload hC.1 hC.2.1 dX4_isLimited_40 (lv_at hl 0 rfl) <| jal hC hK hP (q0 := 22) rfl (Nat.le_of_ble_eq_true rfl) hz_4 rfl dX4_isLimited_42 <| lv_aload_n hC.1 hC.2.1 dX4_isLimited_43 rfl (lv_at hl 1 rfl) <| gfX4_39 hC hK hP (q0 := 0) rfl rfl dX4_isLimited_44 <| ziload hC.1 hC.2.1 dX4_isLimited_47 (lv_at hl 0 rfl) <| jal hC hK hP (q0 := 21) rfl (Nat.le_of_ble_eq_true rfl) hz_4 rfl dX4_isLimited_49 <| ?_
          obtain ⟨hz_7, hf⟩ := ck_some hf
          refine zicmp_ge (tgt := 55) hC.1 hC.2.1 ⟨hz_7.1, hz_7.2⟩ dX4_isLimited_50 (by decide) (fun hc => ?_) (fun hc => ?_)
          · have hf := it_t hf hc
            exact J55 _ _ hf (lv_sub hl [1, 2, 3, 4] rfl)
          · have hf := it_f hf hc
            exact ziconst hC.1 hC.2.1 dX4_isLimited_53 <| hret (Int32.ofInt (bI true)) _ _ (zb01 _) (qZ hf) dX4_isLimited_54
  refine ziconst hC.1 hC.2.1 dX4_isLimited_0 <| zistore_n (lv' := [(3, vI 0), (0, .ref (a 0)), (1, vI x1), (2, vI x2)]) hC.1 hC.2.1 dX4_isLimited_1 rfl hl (by decide) rfl (fun ls hl => ?_)
  exact L2 n _ _ hf (lv_sub hl [1, 2, 3, 0] rfl)
theorem DX4_countLimitedYears_0 : ∀ q ∈ ([(0, .iconst 0, 1), (1, .istore_n 2, 1), (2, .iconst (-1), 1), (3, .istore_n 3, 1), (4, .iconst 0, 1), (5, .istore 4, 2), (7, .iload 4, 2), (9, .aload_n 0, 1), (10, .getfield 25, 3), (13, .getfield 81, 3), (16, .if_icmp .ge 57, 3), (19, .aload_n 0, 1), (20, .getfield 25, 3), (23, .getfield 83, 3), (26, .iload 4, 2), (28, .iaload, 1), (29, .istore 5, 2), (31, .aload_n 0, 1), (32, .getfield 25, 3), (35, .iload 5, 2), (37, .invokevirtual 86, 3), (40, .iload_n 3, 1), (41, .if_icmp .eq 26, 3), (44, .aload_n 0, 1), (45, .iload 5, 2), (47, .iload_n 1, 1), (48, .invokevirtual 182, 3), (51, .ifCond .eq 16, 3), (54, .aload_n 0, 1), (55, .getfield 25, 3), (58, .iload 5, 2), (60, .invokevirtual 86, 3), (63, .istore_n 3, 1), (64, .iinc 2 1, 3), (67, .iinc 4 1, 3), (70, .goto (-63), 3), (73, .iload_n 2, 1), (74, .ireturn, 1)] : List (Nat × Instr × Nat)), decode cX4_countLimitedYears q.1 = .ok q.2 := by decide +kernel
theorem dX4_countLimitedYears_0 : decode cX4_countLimitedYears 0 = .ok (.iconst 0, 1) := DX4_countLimitedYears_0 (0, .iconst 0, 1) (List.mem_of_getElem? (i := 0) rfl)
theorem dX4_countLimitedYears_1 : decode cX4_countLimitedYears 1 = .ok (.istore_n 2, 1) := DX4_countLimitedYears_0 (1, .istore_n 2, 1) (List.mem_of_getElem? (i := 1) rfl)
theorem dX4_countLimitedYears_2 : decode cX4_countLimitedYears 2 = .ok (.iconst (-1), 1) := DX4_countLimitedYears_0 (2, .iconst (-1), 1) (List.mem_of_getElem? (i := 2) rfl)
theorem dX4_countLimitedYears_3 : decode cX4_countLimitedYears 3 = .ok (.istore_n 3, 1) := DX4_countLimitedYears_0 (3, .istore_n 3, 1) (List.mem_of_getElem? (i := 3) rfl)
theorem dX4_countLimitedYears_4 : decode cX4_countLimitedYears 4 = .ok (.iconst 0, 1) := DX4_countLimitedYears_0 (4, .iconst 0, 1) (List.mem_of_getElem? (i := 4) rfl)
theorem dX4_countLimitedYears_5 : decode cX4_countLimitedYears 5 = .ok (.istore 4, 2) := DX4_countLimitedYears_0 (5, .istore 4, 2) (List.mem_of_getElem? (i := 5) rfl)
theorem dX4_countLimitedYears_7 : decode cX4_countLimitedYears 7 = .ok (.iload 4, 2) := DX4_countLimitedYears_0 (7, .iload 4, 2) (List.mem_of_getElem? (i := 6) rfl)
theorem dX4_countLimitedYears_9 : decode cX4_countLimitedYears 9 = .ok (.aload_n 0, 1) := DX4_countLimitedYears_0 (9, .aload_n 0, 1) (List.mem_of_getElem? (i := 7) rfl)
theorem dX4_countLimitedYears_10 : decode cX4_countLimitedYears 10 = .ok (.getfield 25, 3) := DX4_countLimitedYears_0 (10, .getfield 25, 3) (List.mem_of_getElem? (i := 8) rfl)
theorem dX4_countLimitedYears_13 : decode cX4_countLimitedYears 13 = .ok (.getfield 81, 3) := DX4_countLimitedYears_0 (13, .getfield 81, 3) (List.mem_of_getElem? (i := 9) rfl)
theorem dX4_countLimitedYears_16 : decode cX4_countLimitedYears 16 = .ok (.if_icmp .ge 57, 3) := DX4_countLimitedYears_0 (16, .if_icmp .ge 57, 3) (List.mem_of_getElem? (i := 10) rfl)
theorem dX4_countLimitedYears_19 : decode cX4_countLimitedYears 19 = .ok (.aload_n 0, 1) := DX4_countLimitedYears_0 (19, .aload_n 0, 1) (List.mem_of_getElem? (i := 11) rfl)
theorem dX4_countLimitedYears_20 : decode cX4_countLimitedYears 20 = .ok (.getfield 25, 3) := DX4_countLimitedYears_0 (20, .getfield 25, 3) (List.mem_of_getElem? (i := 12) rfl)
theorem dX4_countLimitedYears_23 : decode cX4_countLimitedYears 23 = .ok (.getfield 83, 3) := DX4_countLimitedYears_0 (23, .getfield 83, 3) (List.mem_of_getElem? (i := 13) rfl)
theorem dX4_countLimitedYears_26 : decode cX4_countLimitedYears 26 = .ok (.iload 4, 2) := DX4_countLimitedYears_0 (26, .iload 4, 2) (List.mem_of_getElem? (i := 14) rfl)
theorem dX4_countLimitedYears_28 : decode cX4_countLimitedYears 28 = .ok (.iaload, 1) := DX4_countLimitedYears_0 (28, .iaload, 1) (List.mem_of_getElem? (i := 15) rfl)
theorem dX4_countLimitedYears_29 : decode cX4_countLimitedYears 29 = .ok (.istore 5, 2) := DX4_countLimitedYears_0 (29, .istore 5, 2) (List.mem_of_getElem? (i := 16) rfl)
theorem dX4_countLimitedYears_31 : decode cX4_countLimitedYears 31 = .ok (.aload_n 0, 1) := DX4_countLimitedYears_0 (31, .aload_n 0, 1) (List.mem_of_getElem? (i := 17) rfl)
theorem dX4_countLimitedYears_32 : decode cX4_countLimitedYears 32 = .ok (.getfield 25, 3) := DX4_countLimitedYears_0 (32, .getfield 25, 3) (List.mem_of_getElem? (i := 18) rfl)
theorem dX4_countLimitedYears_35 : decode cX4_countLimitedYears 35 = .ok (.iload 5, 2) := DX4_countLimitedYears_0 (35, .iload 5, 2) (List.mem_of_getElem? (i := 19) rfl)
theorem dX4_countLimitedYears_37 : decode cX4_countLimitedYears 37 = .ok (.invokevirtual 86, 3) := DX4_countLimitedYears_0 (37, .invokevirtual 86, 3) (List.mem_of_getElem? (i := 20) rfl)
theorem dX4_countLimitedYears_40 : decode cX4_countLimitedYears 40 = .ok (.iload_n 3, 1) := DX4_countLimitedYears_0 (40, .iload_n 3, 1) (List.mem_of_getElem? (i := 21) rfl)
theorem dX4_countLimitedYears_41 : decode cX4_countLimitedYears 41 = .ok (.if_icmp .eq 26, 3) := DX4_countLimitedYears_0 (41, .if_icmp .eq 26, 3) (List.mem_of_getElem? (i := 22) rfl)
theorem dX4_countLimitedYears_44 : decode cX4_countLimitedYears 44 = .ok (.aload_n 0, 1) := DX4_countLimitedYears_0 (44, .aload_n 0, 1) (List.mem_of_getElem? (i := 23) rfl)
theorem dX4_countLimitedYears_45 : decode cX4_countLimitedYears 45 = .ok (.iload 5, 2) := DX4_countLimitedYears_0 (45, .iload 5, 2) (List.mem_of_getElem? (i := 24) rfl)
theorem dX4_countLimitedYears_47 : decode cX4_countLimitedYears 47 = .ok (.iload_n 1, 1) := DX4_countLimitedYears_0 (47, .iload_n 1, 1) (List.mem_of_getElem? (i := 25) rfl)
theorem dX4_countLimitedYears_48 : decode cX4_countLimitedYears 48 = .ok (.invokevirtual 182, 3) := DX4_countLimitedYears_0 (48, .invokevirtual 182, 3) (List.mem_of_getElem? (i := 26) rfl)
theorem dX4_countLimitedYears_51 : decode cX4_countLimitedYears 51 = .ok (.ifCond .eq 16, 3) := DX4_countLimitedYears_0 (51, .ifCond .eq 16, 3) (List.mem_of_getElem? (i := 27) rfl)
theorem dX4_countLimitedYears_54 : decode cX4_countLimitedYears 54 = .ok (.aload_n 0, 1) := DX4_countLimitedYears_0 (54, .aload_n 0, 1) (List.mem_of_getElem? (i := 28) rfl)
theorem dX4_countLimitedYears_55 : decode cX4_countLimitedYears 55 = .ok (.getfield 25, 3) := DX4_countLimitedYears_0 (55, .getfield 25, 3) (List.mem_of_getElem? (i := 29) rfl)
theorem dX4_countLimitedYears_58 : decode cX4_countLimitedYears 58 = .ok (.iload 5, 2) := DX4_countLimitedYears_0 (58, .iload 5, 2) (List.mem_of_getElem? (i := 30) rfl)
theorem dX4_countLimitedYears_60 : decode cX4_countLimitedYears 60 = .ok (.invokevirtual 86, 3) := DX4_countLimitedYears_0 (60, .invokevirtual 86, 3) (List.mem_of_getElem? (i := 31) rfl)
theorem dX4_countLimitedYears_63 : decode cX4_countLimitedYears 63 = .ok (.istore_n 3, 1) := DX4_countLimitedYears_0 (63, .istore_n 3, 1) (List.mem_of_getElem? (i := 32) rfl)
theorem dX4_countLimitedYears_64 : decode cX4_countLimitedYears 64 = .ok (.iinc 2 1, 3) := DX4_countLimitedYears_0 (64, .iinc 2 1, 3) (List.mem_of_getElem? (i := 33) rfl)
theorem dX4_countLimitedYears_67 : decode cX4_countLimitedYears 67 = .ok (.iinc 4 1, 3) := DX4_countLimitedYears_0 (67, .iinc 4 1, 3) (List.mem_of_getElem? (i := 34) rfl)
theorem dX4_countLimitedYears_70 : decode cX4_countLimitedYears 70 = .ok (.goto (-63), 3) := DX4_countLimitedYears_0 (70, .goto (-63), 3) (List.mem_of_getElem? (i := 35) rfl)
theorem dX4_countLimitedYears_73 : decode cX4_countLimitedYears 73 = .ok (.iload_n 2, 1) := DX4_countLimitedYears_0 (73, .iload_n 2, 1) (List.mem_of_getElem? (i := 36) rfl)
theorem dX4_countLimitedYears_74 : decode cX4_countLimitedYears 74 = .ok (.ireturn, 1) := DX4_countLimitedYears_0 (74, .ireturn, 1) (List.mem_of_getElem? (i := 37) rfl)
abbrev rmX4_countLimitedYears : Room := { frames := 1, cells := 0, slots := 0, locals := 24 }
set_option maxHeartbeats 400000 in
set_option maxRecDepth 100000 in
theorem met_X4_countLimitedYears (l : Launch) (D : va_G) (kA : Nat → ClassId) (a : Nat → Nat) (n : Nat) (V : Sz) (x1 : Int) {r : Int} (hf : f_X4_countLimitedYears n V x1 = some r) : MP l yX4_countLimitedYears cX4_countLimitedYears 6 (some .int) rmX4_countLimitedYears D kA [.ref (a 0), vI x1] (cs_X4 kA a V) (some (vI r)) := by
  refine zPI (own := RX4) rfl rfl (Nat.le_of_ble_eq_true rfl) ?_
  intro p e s m args below meth c ls Q hC hK hP hl hret
  have hl : lv_has ls 6 [(0, .ref (a 0)), (1, vI x1)] := hl
  unfold f_X4_countLimitedYears at hf
  have L7 : ∀ (k7 : Nat) (y2 : Int) (y3 : Int) (y4 : Int) (ls : Array Slot), lpF (bX4_countLimitedYears_7 n V x1) k7 (y2, y3, y4) = some r → lv_has ls 6 [(0, .ref (a 0)), (1, vI x1), (2, vI y2), (3, vI y3), (4, vI y4)] → W p l e rmX4_countLimitedYears s m args below meth c s.heap [] 0 0 Q (F0 m 7 ls []) := by
    intro k7
    induction k7 with
    | zero => intro y2 y3 y4 ls hf hl; exact lp_0 hf
    | succ k7 ih7 =>
      intro y2 y3 y4 ls hf hl
      have hf := lp_s hf
      rw [bX4_countLimitedYears_7_e] at hf
      have J67 : ∀ (y2 : Int) (y3 : Int) (y4 : Int) (ls : Array Slot), jX4_countLimitedYears_67 n V x1 (lpF (bX4_countLimitedYears_7 n V x1) k7) y2 y3 y4 = some r → lv_has ls 6 [(0, .ref (a 0)), (1, vI x1), (2, vI y2), (3, vI y3), (4, vI y4)] → W p l e rmX4_countLimitedYears s m args below meth c s.heap [] 0 0 Q (F0 m 67 ls []) := by
        intro y2 y3 y4 ls hf hl
        unfold jX4_countLimitedYears_67 at hf
        obtain ⟨x_6, ex_6⟩ : ∃ y : Int, y = y4 + 1 := ⟨_, rfl⟩
        have hf := nm_at hf ex_6
        refine ziinc (v := x_6) (lv' := [(4, vI x_6), (0, .ref (a 0)), (1, vI x1), (2, vI y2), (3, vI y3)]) hC.1 hC.2.1 dX4_countLimitedYears_67 hl (k := 4) rfl ex_6 (by decide) rfl (fun ls hl => ?_)
        exact lv_goto (tgt := 7) hC.1 hC.2.1 dX4_countLimitedYears_70 (by decide) <| ih7 _ _ _ _ hf (lv_sub hl [1, 2, 3, 4, 0] rfl)
      refine ziload hC.1 hC.2.1 dX4_countLimitedYears_7 (lv_at hl 4 rfl) <| lv_aload_n hC.1 hC.2.1 dX4_countLimitedYears_9 rfl (lv_at hl 0 rfl) <| gfX4_25 hC hK hP (q0 := 0) rfl rfl dX4_countLimitedYears_10 <| gfX4_81 hC hK hP (q0 := 6) rfl rfl dX4_countLimitedYears_13 <| ?_
      obtain ⟨hz_1, hf⟩ := ck_some hf
      refine zicmp_ge (tgt := 73) hC.1 hC.2.1 ⟨hz_1.1, hz_1.2⟩ dX4_countLimitedYears_16 (by decide) (fun hc => ?_) (fun hc => ?_)
      · have hf := it_t hf hc
        exact ziload_n hC.1 hC.2.1 dX4_countLimitedYears_73 rfl (lv_at hl 2 rfl) <| hret (Int32.ofInt y2) _ _ (qI hf) dX4_countLimitedYears_74
      · have hf := it_f hf hc
        refine lv_aload_n hC.1 hC.2.1 dX4_countLimitedYears_19 rfl (lv_at hl 0 rfl) <| gfX4_25 hC hK hP (q0 := 0) rfl rfl dX4_countLimitedYears_20 <| gfX4_83 hC hK hP (q0 := 6) rfl rfl dX4_countLimitedYears_23 <| ziload hC.1 hC.2.1 dX4_countLimitedYears_26 (lv_at hl 4 rfl) <| ?_
        obtain ⟨hz_2, hf⟩ := ck_some hf
        refine jal hC hK hP (q0 := 12) rfl (Nat.le_of_ble_eq_true rfl) hz_2 rfl dX4_countLimitedYears_28 <| ?_
        refine ztopi (fun x_3 ex_3 => ?_)
        have hf := nm_at hf ex_3
        refine zistore (lv' := [(5, vI x_3), (0, .ref (a 0)), (1, vI x1), (2, vI y2), (3, vI y3), (4, vI y4)]) hC.1 hC.2.1 dX4_countLimitedYears_29 hl (by decide) rfl (fun ls hl => ?_)
        refine lv_aload_n hC.1 hC.2.1 dX4_countLimitedYears_31 rfl (lv_at hl 1 rfl) <| gfX4_25 hC hK hP (q0 := 0) rfl rfl dX4_countLimitedYears_32 <| ziload hC.1 hC.2.1 dX4_countLimitedYears_35 (lv_at hl 0 rfl) <| ?_
        obtain ⟨r_4, hu, hf⟩ := bd_some hf
        have hPc : va_P D vwCl (cs_X3 kA (sv 6 a) (sv 9 V)) _ := hP.sub [6, 7, 8, 9, 10, 11, 12, 13, 14, 15, 16, 17] rfl
        refine zcVP (As := [vI x_3]) (rest := []) hC hK (met_X3_yearOf l D kA (sv 6 a) (sv 9 V) x_3 hu) zwX4_86 hPc (q0 := 0) rfl rfl rfl rfl hl.1 rfl (Nat.le_of_ble_eq_true rfl) ⟨Nat.le_of_ble_eq_true rfl, Nat.le_of_ble_eq_true rfl⟩ ⟨rfl, rfl⟩ ⟨Nat.le_refl _, Nat.le_refl _⟩ dX4_countLimitedYears_37 <| ziload_n hC.1 hC.2.1 dX4_countLimitedYears_40 rfl (lv_at hl 4 rfl) <| ?_
        obtain ⟨hz_5, hf⟩ := ck_some hf
        refine zicmp_eq (tgt := 67) hC.1 hC.2.1 ⟨hz_5.1, hz_5.2⟩ dX4_countLimitedYears_41 (by decide) (fun hc => ?_) (fun hc => ?_)
        · have hf := it_t hf hc
          exact J67 _ _ _ _ hf (lv_sub hl [1, 2, 3, 4, 5] rfl)
        · have hf := it_f hf hc
          refine lv_aload_n hC.1 hC.2.1 dX4_countLimitedYears_44 rfl (lv_at hl 1 rfl) <| ziload hC.1 hC.2.1 dX4_countLimitedYears_45 (lv_at hl 0 rfl) <| ziload_n hC.1 hC.2.1 dX4_countLimitedYears_47 rfl (lv_at hl 2 rfl) <| ?_
          obtain ⟨r_7, hu, hf⟩ := bd_some hf
          refine zcVP (As := [vI x_3, vI x1]) (rest := []) hC hK (met_X4_isLimited l D kA a n V x_3 x1 hu) zwX4_182 hP (q0 := 0) rfl rfl rfl rfl hl.1 rfl (Nat.le_of_ble_eq_true rfl) ⟨Nat.le_of_ble_eq_true rfl, Nat.le_of_ble_eq_true rfl⟩ ⟨rfl, rfl⟩ ⟨Nat.le_refl _, Nat.le_refl _⟩ dX4_countLimitedYears_48 <| zifb_eq (tgt := 67) hC.1 hC.2.1 dX4_countLimitedYears_51 (by decide) (fun hc => ?_) (fun hc => ?_)
          · have hf := it_t hf hc
            exact J67 _ _ _ _ hf (lv_sub hl [1, 2, 3, 4, 5] rfl)
          · have hf := it_f hf hc
            refine lv_aload_n hC.1 hC.2.1 dX4_countLimitedYears_54 rfl (lv_at hl 1 rfl) <| gfX4_25 hC hK hP (q0 := 0) rfl rfl dX4_countLimitedYears_55 <| ziload hC.1 hC.2.1 dX4_countLimitedYears_58 (lv_at hl 0 rfl) <| ?_
            obtain ⟨r_8, hu, hf⟩ := bd_some hf
            have hPc : va_P D vwCl (cs_X3 kA (sv 6 a) (sv 9 V)) _ := hP.sub [6, 7, 8, 9, 10, 11, 12, 13, 14, 15, 16, 17] rfl
            refine zcVP (As := [vI x_3]) (rest := []) hC hK (met_X3_yearOf l D kA (sv 6 a) (sv 9 V) x_3 hu) zwX4_86 hPc (q0 := 0) rfl rfl rfl rfl hl.1 rfl (Nat.le_of_ble_eq_true rfl) ⟨Nat.le_of_ble_eq_true rfl, Nat.le_of_ble_eq_true rfl⟩ ⟨rfl, rfl⟩ ⟨Nat.le_refl _, Nat.le_refl _⟩ dX4_countLimitedYears_60 <| zistore_n (lv' := [(3, vI r_8), (5, vI x_3), (0, .ref (a 0)), (1, vI x1), (2, vI y2), (4, vI y4)]) hC.1 hC.2.1 dX4_countLimitedYears_63 rfl hl (by decide) rfl (fun ls hl => ?_)
            obtain ⟨x_9, ex_9⟩ : ∃ y : Int, y = y2 + 1 := ⟨_, rfl⟩
            have hf := nm_at hf ex_9
            refine ziinc (v := x_9) (lv' := [(2, vI x_9), (3, vI r_8), (5, vI x_3), (0, .ref (a 0)), (1, vI x1), (4, vI y4)]) hC.1 hC.2.1 dX4_countLimitedYears_64 hl (k := 4) rfl ex_9 (by decide) rfl (fun ls hl => ?_)
            exact J67 _ _ _ _ hf (lv_sub hl [3, 4, 0, 1, 5] rfl)
  refine ziconst hC.1 hC.2.1 dX4_countLimitedYears_0 <| zistore_n (lv' := [(2, vI 0), (0, .ref (a 0)), (1, vI x1)]) hC.1 hC.2.1 dX4_countLimitedYears_1 rfl hl (by decide) rfl (fun ls hl => ?_)
  refine ziconst hC.1 hC.2.1 dX4_countLimitedYears_2 <| zistore_n (lv' := [(3, vI (-1)), (2, vI 0), (0, .ref (a 0)), (1, vI x1)]) hC.1 hC.2.1 dX4_countLimitedYears_3 rfl hl (by decide) rfl (fun ls hl => ?_)
  refine ziconst hC.1 hC.2.1 dX4_countLimitedYears_4 <| zistore (lv' := [(4, vI 0), (3, vI (-1)), (2, vI 0), (0, .ref (a 0)), (1, vI x1)]) hC.1 hC.2.1 dX4_countLimitedYears_5 hl (by decide) rfl (fun ls hl => ?_)
  exact L7 n _ _ _ _ hf (lv_sub hl [3, 4, 2, 1, 0] rfl)
theorem DX4_yearOfMostAid_0 : ∀ q ∈ ([(0, .iconst (-1), 1), (1, .istore_n 1, 1), (2, .iconst 0, 1), (3, .istore_n 2, 1), (4, .iconst (-1), 1), (5, .istore_n 3, 1), (6, .iconst 0, 1), (7, .istore 4, 2), (9, .iconst 0, 1), (10, .istore 5, 2), (12, .iload 5, 2), (14, .aload_n 0, 1), (15, .getfield 25, 3), (18, .getfield 81, 3), (21, .if_icmp .ge 70, 3), (24, .aload_n 0, 1), (25, .getfield 25, 3), (28, .getfield 83, 3), (31, .iload 5, 2), (33, .iaload, 1), (34, .istore 6, 2), (36, .aload_n 0, 1), (37, .getfield 25, 3), (40, .iload 6, 2), (42, .invokevirtual 86, 3), (45, .iload_n 3, 1), (46, .if_icmp .eq 16, 3), (49, .aload_n 0, 1), (50, .getfield 25, 3), (53, .iload 6, 2), (55, .invokevirtual 86, 3), (58, .istore_n 3, 1), (59, .iconst 0, 1), (60, .istore 4, 2), (62, .iload 4, 2), (64, .aload_n 0, 1), (65, .iload 6, 2), (67, .iconst 2, 1), (68, .invokevirtual 141, 3), (71, .iadd, 1)] : List (Nat × Instr × Nat)), decode cX4_yearOfMostAid q.1 = .ok q.2 := by decide +kernel
theorem dX4_yearOfMostAid_0 : decode cX4_yearOfMostAid 0 = .ok (.iconst (-1), 1) := DX4_yearOfMostAid_0 (0, .iconst (-1), 1) (List.mem_of_getElem? (i := 0) rfl)
theorem dX4_yearOfMostAid_1 : decode cX4_yearOfMostAid 1 = .ok (.istore_n 1, 1) := DX4_yearOfMostAid_0 (1, .istore_n 1, 1) (List.mem_of_getElem? (i := 1) rfl)
theorem dX4_yearOfMostAid_2 : decode cX4_yearOfMostAid 2 = .ok (.iconst 0, 1) := DX4_yearOfMostAid_0 (2, .iconst 0, 1) (List.mem_of_getElem? (i := 2) rfl)
theorem dX4_yearOfMostAid_3 : decode cX4_yearOfMostAid 3 = .ok (.istore_n 2, 1) := DX4_yearOfMostAid_0 (3, .istore_n 2, 1) (List.mem_of_getElem? (i := 3) rfl)
theorem dX4_yearOfMostAid_4 : decode cX4_yearOfMostAid 4 = .ok (.iconst (-1), 1) := DX4_yearOfMostAid_0 (4, .iconst (-1), 1) (List.mem_of_getElem? (i := 4) rfl)
theorem dX4_yearOfMostAid_5 : decode cX4_yearOfMostAid 5 = .ok (.istore_n 3, 1) := DX4_yearOfMostAid_0 (5, .istore_n 3, 1) (List.mem_of_getElem? (i := 5) rfl)
theorem dX4_yearOfMostAid_6 : decode cX4_yearOfMostAid 6 = .ok (.iconst 0, 1) := DX4_yearOfMostAid_0 (6, .iconst 0, 1) (List.mem_of_getElem? (i := 6) rfl)
theorem dX4_yearOfMostAid_7 : decode cX4_yearOfMostAid 7 = .ok (.istore 4, 2) := DX4_yearOfMostAid_0 (7, .istore 4, 2) (List.mem_of_getElem? (i := 7) rfl)
theorem dX4_yearOfMostAid_9 : decode cX4_yearOfMostAid 9 = .ok (.iconst 0, 1) := DX4_yearOfMostAid_0 (9, .iconst 0, 1) (List.mem_of_getElem? (i := 8) rfl)
theorem dX4_yearOfMostAid_10 : decode cX4_yearOfMostAid 10 = .ok (.istore 5, 2) := DX4_yearOfMostAid_0 (10, .istore 5, 2) (List.mem_of_getElem? (i := 9) rfl)
theorem dX4_yearOfMostAid_12 : decode cX4_yearOfMostAid 12 = .ok (.iload 5, 2) := DX4_yearOfMostAid_0 (12, .iload 5, 2) (List.mem_of_getElem? (i := 10) rfl)
theorem dX4_yearOfMostAid_14 : decode cX4_yearOfMostAid 14 = .ok (.aload_n 0, 1) := DX4_yearOfMostAid_0 (14, .aload_n 0, 1) (List.mem_of_getElem? (i := 11) rfl)
theorem dX4_yearOfMostAid_15 : decode cX4_yearOfMostAid 15 = .ok (.getfield 25, 3) := DX4_yearOfMostAid_0 (15, .getfield 25, 3) (List.mem_of_getElem? (i := 12) rfl)
theorem dX4_yearOfMostAid_18 : decode cX4_yearOfMostAid 18 = .ok (.getfield 81, 3) := DX4_yearOfMostAid_0 (18, .getfield 81, 3) (List.mem_of_getElem? (i := 13) rfl)
theorem dX4_yearOfMostAid_21 : decode cX4_yearOfMostAid 21 = .ok (.if_icmp .ge 70, 3) := DX4_yearOfMostAid_0 (21, .if_icmp .ge 70, 3) (List.mem_of_getElem? (i := 14) rfl)
theorem dX4_yearOfMostAid_24 : decode cX4_yearOfMostAid 24 = .ok (.aload_n 0, 1) := DX4_yearOfMostAid_0 (24, .aload_n 0, 1) (List.mem_of_getElem? (i := 15) rfl)
theorem dX4_yearOfMostAid_25 : decode cX4_yearOfMostAid 25 = .ok (.getfield 25, 3) := DX4_yearOfMostAid_0 (25, .getfield 25, 3) (List.mem_of_getElem? (i := 16) rfl)
theorem dX4_yearOfMostAid_28 : decode cX4_yearOfMostAid 28 = .ok (.getfield 83, 3) := DX4_yearOfMostAid_0 (28, .getfield 83, 3) (List.mem_of_getElem? (i := 17) rfl)
theorem dX4_yearOfMostAid_31 : decode cX4_yearOfMostAid 31 = .ok (.iload 5, 2) := DX4_yearOfMostAid_0 (31, .iload 5, 2) (List.mem_of_getElem? (i := 18) rfl)
theorem dX4_yearOfMostAid_33 : decode cX4_yearOfMostAid 33 = .ok (.iaload, 1) := DX4_yearOfMostAid_0 (33, .iaload, 1) (List.mem_of_getElem? (i := 19) rfl)
theorem dX4_yearOfMostAid_34 : decode cX4_yearOfMostAid 34 = .ok (.istore 6, 2) := DX4_yearOfMostAid_0 (34, .istore 6, 2) (List.mem_of_getElem? (i := 20) rfl)
theorem dX4_yearOfMostAid_36 : decode cX4_yearOfMostAid 36 = .ok (.aload_n 0, 1) := DX4_yearOfMostAid_0 (36, .aload_n 0, 1) (List.mem_of_getElem? (i := 21) rfl)
theorem dX4_yearOfMostAid_37 : decode cX4_yearOfMostAid 37 = .ok (.getfield 25, 3) := DX4_yearOfMostAid_0 (37, .getfield 25, 3) (List.mem_of_getElem? (i := 22) rfl)
theorem dX4_yearOfMostAid_40 : decode cX4_yearOfMostAid 40 = .ok (.iload 6, 2) := DX4_yearOfMostAid_0 (40, .iload 6, 2) (List.mem_of_getElem? (i := 23) rfl)
theorem dX4_yearOfMostAid_42 : decode cX4_yearOfMostAid 42 = .ok (.invokevirtual 86, 3) := DX4_yearOfMostAid_0 (42, .invokevirtual 86, 3) (List.mem_of_getElem? (i := 24) rfl)
theorem dX4_yearOfMostAid_45 : decode cX4_yearOfMostAid 45 = .ok (.iload_n 3, 1) := DX4_yearOfMostAid_0 (45, .iload_n 3, 1) (List.mem_of_getElem? (i := 25) rfl)
theorem dX4_yearOfMostAid_46 : decode cX4_yearOfMostAid 46 = .ok (.if_icmp .eq 16, 3) := DX4_yearOfMostAid_0 (46, .if_icmp .eq 16, 3) (List.mem_of_getElem? (i := 26) rfl)
theorem dX4_yearOfMostAid_49 : decode cX4_yearOfMostAid 49 = .ok (.aload_n 0, 1) := DX4_yearOfMostAid_0 (49, .aload_n 0, 1) (List.mem_of_getElem? (i := 27) rfl)
theorem dX4_yearOfMostAid_50 : decode cX4_yearOfMostAid 50 = .ok (.getfield 25, 3) := DX4_yearOfMostAid_0 (50, .getfield 25, 3) (List.mem_of_getElem? (i := 28) rfl)
theorem dX4_yearOfMostAid_53 : decode cX4_yearOfMostAid 53 = .ok (.iload 6, 2) := DX4_yearOfMostAid_0 (53, .iload 6, 2) (List.mem_of_getElem? (i := 29) rfl)
theorem dX4_yearOfMostAid_55 : decode cX4_yearOfMostAid 55 = .ok (.invokevirtual 86, 3) := DX4_yearOfMostAid_0 (55, .invokevirtual 86, 3) (List.mem_of_getElem? (i := 30) rfl)
theorem dX4_yearOfMostAid_58 : decode cX4_yearOfMostAid 58 = .ok (.istore_n 3, 1) := DX4_yearOfMostAid_0 (58, .istore_n 3, 1) (List.mem_of_getElem? (i := 31) rfl)
theorem dX4_yearOfMostAid_59 : decode cX4_yearOfMostAid 59 = .ok (.iconst 0, 1) := DX4_yearOfMostAid_0 (59, .iconst 0, 1) (List.mem_of_getElem? (i := 32) rfl)
theorem dX4_yearOfMostAid_60 : decode cX4_yearOfMostAid 60 = .ok (.istore 4, 2) := DX4_yearOfMostAid_0 (60, .istore 4, 2) (List.mem_of_getElem? (i := 33) rfl)
theorem dX4_yearOfMostAid_62 : decode cX4_yearOfMostAid 62 = .ok (.iload 4, 2) := DX4_yearOfMostAid_0 (62, .iload 4, 2) (List.mem_of_getElem? (i := 34) rfl)
theorem dX4_yearOfMostAid_64 : decode cX4_yearOfMostAid 64 = .ok (.aload_n 0, 1) := DX4_yearOfMostAid_0 (64, .aload_n 0, 1) (List.mem_of_getElem? (i := 35) rfl)
theorem dX4_yearOfMostAid_65 : decode cX4_yearOfMostAid 65 = .ok (.iload 6, 2) := DX4_yearOfMostAid_0 (65, .iload 6, 2) (List.mem_of_getElem? (i := 36) rfl)
theorem dX4_yearOfMostAid_67 : decode cX4_yearOfMostAid 67 = .ok (.iconst 2, 1) := DX4_yearOfMostAid_0 (67, .iconst 2, 1) (List.mem_of_getElem? (i := 37) rfl)
theorem dX4_yearOfMostAid_68 : decode cX4_yearOfMostAid 68 = .ok (.invokevirtual 141, 3) := DX4_yearOfMostAid_0 (68, .invokevirtual 141, 3) (List.mem_of_getElem? (i := 38) rfl)
theorem dX4_yearOfMostAid_71 : decode cX4_yearOfMostAid 71 = .ok (.iadd, 1) := DX4_yearOfMostAid_0 (71, .iadd, 1) (List.mem_of_getElem? (i := 39) rfl)
theorem DX4_yearOfMostAid_1 : ∀ q ∈ ([(72, .istore 4, 2), (74, .iload 4, 2), (76, .iload_n 2, 1), (77, .if_icmp .le 8, 3), (80, .iload 4, 2), (82, .istore_n 2, 1), (83, .iload_n 3, 1), (84, .istore_n 1, 1), (85, .iinc 5 1, 3), (88, .goto (-76), 3), (91, .iload_n 1, 1), (92, .ireturn, 1)] : List (Nat × Instr × Nat)), decode cX4_yearOfMostAid q.1 = .ok q.2 := by decide +kernel
theorem dX4_yearOfMostAid_72 : decode cX4_yearOfMostAid 72 = .ok (.istore 4, 2) := DX4_yearOfMostAid_1 (72, .istore 4, 2) (List.mem_of_getElem? (i := 0) rfl)
theorem dX4_yearOfMostAid_74 : decode cX4_yearOfMostAid 74 = .ok (.iload 4, 2) := DX4_yearOfMostAid_1 (74, .iload 4, 2) (List.mem_of_getElem? (i := 1) rfl)
theorem dX4_yearOfMostAid_76 : decode cX4_yearOfMostAid 76 = .ok (.iload_n 2, 1) := DX4_yearOfMostAid_1 (76, .iload_n 2, 1) (List.mem_of_getElem? (i := 2) rfl)
theorem dX4_yearOfMostAid_77 : decode cX4_yearOfMostAid 77 = .ok (.if_icmp .le 8, 3) := DX4_yearOfMostAid_1 (77, .if_icmp .le 8, 3) (List.mem_of_getElem? (i := 3) rfl)
theorem dX4_yearOfMostAid_80 : decode cX4_yearOfMostAid 80 = .ok (.iload 4, 2) := DX4_yearOfMostAid_1 (80, .iload 4, 2) (List.mem_of_getElem? (i := 4) rfl)
theorem dX4_yearOfMostAid_82 : decode cX4_yearOfMostAid 82 = .ok (.istore_n 2, 1) := DX4_yearOfMostAid_1 (82, .istore_n 2, 1) (List.mem_of_getElem? (i := 5) rfl)
theorem dX4_yearOfMostAid_83 : decode cX4_yearOfMostAid 83 = .ok (.iload_n 3, 1) := DX4_yearOfMostAid_1 (83, .iload_n 3, 1) (List.mem_of_getElem? (i := 6) rfl)
theorem dX4_yearOfMostAid_84 : decode cX4_yearOfMostAid 84 = .ok (.istore_n 1, 1) := DX4_yearOfMostAid_1 (84, .istore_n 1, 1) (List.mem_of_getElem? (i := 7) rfl)
theorem dX4_yearOfMostAid_85 : decode cX4_yearOfMostAid 85 = .ok (.iinc 5 1, 3) := DX4_yearOfMostAid_1 (85, .iinc 5 1, 3) (List.mem_of_getElem? (i := 8) rfl)
theorem dX4_yearOfMostAid_88 : decode cX4_yearOfMostAid 88 = .ok (.goto (-76), 3) := DX4_yearOfMostAid_1 (88, .goto (-76), 3) (List.mem_of_getElem? (i := 9) rfl)
theorem dX4_yearOfMostAid_91 : decode cX4_yearOfMostAid 91 = .ok (.iload_n 1, 1) := DX4_yearOfMostAid_1 (91, .iload_n 1, 1) (List.mem_of_getElem? (i := 10) rfl)
theorem dX4_yearOfMostAid_92 : decode cX4_yearOfMostAid 92 = .ok (.ireturn, 1) := DX4_yearOfMostAid_1 (92, .ireturn, 1) (List.mem_of_getElem? (i := 11) rfl)
abbrev rmX4_yearOfMostAid : Room := { frames := 3, cells := 0, slots := 0, locals := 67 }
set_option maxHeartbeats 400000 in
set_option maxRecDepth 100000 in
theorem met_X4_yearOfMostAid (l : Launch) (D : va_G) (kA : Nat → ClassId) (a : Nat → Nat) (n : Nat) (V : Sz) {r : Int} (hf : f_X4_yearOfMostAid n V = some r) : MP l yX4_yearOfMostAid cX4_yearOfMostAid 7 (some .int) rmX4_yearOfMostAid D kA [.ref (a 0)] (cs_X4 kA a V) (some (vI r)) := by
  refine zPI (own := RX4) rfl rfl (Nat.le_of_ble_eq_true rfl) ?_
  intro p e s m args below meth c ls Q hC hK hP hl hret
  have hl : lv_has ls 7 [(0, .ref (a 0))] := hl
  unfold f_X4_yearOfMostAid at hf
  have L12 : ∀ (k12 : Nat) (y1 : Int) (y2 : Int) (y3 : Int) (y4 : Int) (y5 : Int) (ls : Array Slot), lpF (bX4_yearOfMostAid_12 n V) k12 (y1, y2, y3, y4, y5) = some r → lv_has ls 7 [(0, .ref (a 0)), (1, vI y1), (2, vI y2), (3, vI y3), (4, vI y4), (5, vI y5)] → W p l e rmX4_yearOfMostAid s m args below meth c s.heap [] 0 0 Q (F0 m 12 ls []) := by
    intro k12
    induction k12 with
    | zero => intro y1 y2 y3 y4 y5 ls hf hl; exact lp_0 hf
    | succ k12 ih12 =>
      intro y1 y2 y3 y4 y5 ls hf hl
      have hf := lp_s hf
      rw [bX4_yearOfMostAid_12_e] at hf
      have J85 : ∀ (y1 : Int) (y2 : Int) (y3 : Int) (y4 : Int) (y5 : Int) (ls : Array Slot), jX4_yearOfMostAid_85 n V (lpF (bX4_yearOfMostAid_12 n V) k12) y1 y2 y3 y4 y5 = some r → lv_has ls 7 [(0, .ref (a 0)), (1, vI y1), (2, vI y2), (3, vI y3), (4, vI y4), (5, vI y5)] → W p l e rmX4_yearOfMostAid s m args below meth c s.heap [] 0 0 Q (F0 m 85 ls []) := by
        intro y1 y2 y3 y4 y5 ls hf hl
        unfold jX4_yearOfMostAid_85 at hf
        obtain ⟨x_9, ex_9⟩ : ∃ y : Int, y = y5 + 1 := ⟨_, rfl⟩
        have hf := nm_at hf ex_9
        refine ziinc (v := x_9) (lv' := [(5, vI x_9), (0, .ref (a 0)), (1, vI y1), (2, vI y2), (3, vI y3), (4, vI y4)]) hC.1 hC.2.1 dX4_yearOfMostAid_85 hl (k := 5) rfl ex_9 (by decide) rfl (fun ls hl => ?_)
        exact lv_goto (tgt := 12) hC.1 hC.2.1 dX4_yearOfMostAid_88 (by decide) <| ih12 _ _ _ _ _ _ hf (lv_sub hl [1, 2, 3, 4, 5, 0] rfl)
      have J62 : ∀ (y1 : Int) (y2 : Int) (y3 : Int) (y4 : Int) (y5 : Int) (y6 : Int) (ls : Array Slot), jX4_yearOfMostAid_62 n V (lpF (bX4_yearOfMostAid_12 n V) k12) y1 y2 y3 y4 y5 y6 = some r → lv_has ls 7 [(0, .ref (a 0)), (1, vI y1), (2, vI y2), (3, vI y3), (4, vI y4), (5, vI y5), (6, vI y6)] → W p l e rmX4_yearOfMostAid s m args below meth c s.heap [] 0 0 Q (F0 m 62 ls []) := by
        intro y1 y2 y3 y4 y5 y6 ls hf hl
        unfold jX4_yearOfMostAid_62 at hf
        refine ziload hC.1 hC.2.1 dX4_yearOfMostAid_62 (lv_at hl 4 rfl) <| lv_aload_n hC.1 hC.2.1 dX4_yearOfMostAid_64 rfl (lv_at hl 0 rfl) <| ziload hC.1 hC.2.1 dX4_yearOfMostAid_65 (lv_at hl 6 rfl) <| ziconst hC.1 hC.2.1 dX4_yearOfMostAid_67 <| ?_
        obtain ⟨r_6, hu, hf⟩ := bd_some hf
        refine zcVP (As := [vI y6, vI 2]) (rest := [vI y4]) hC hK (met_X4_sumOfGift l D kA a n V y6 2 hu) zwX4_141 hP (q0 := 0) rfl rfl rfl rfl hl.1 rfl (Nat.le_of_ble_eq_true rfl) ⟨Nat.le_of_ble_eq_true rfl, Nat.le_of_ble_eq_true rfl⟩ ⟨rfl, rfl⟩ ⟨Nat.le_refl _, Nat.le_refl _⟩ dX4_yearOfMostAid_68 <| ziadd hC.1 hC.2.1 dX4_yearOfMostAid_71 <| ?_
        refine ztopi (fun x_7 ex_7 => ?_)
        have hf := nm_at hf ex_7
        refine zistore (lv' := [(4, vI x_7), (0, .ref (a 0)), (1, vI y1), (2, vI y2), (3, vI y3), (5, vI y5), (6, vI y6)]) hC.1 hC.2.1 dX4_yearOfMostAid_72 hl (by decide) rfl (fun ls hl => ?_)
        refine ziload hC.1 hC.2.1 dX4_yearOfMostAid_74 (lv_at hl 0 rfl) <| ziload_n hC.1 hC.2.1 dX4_yearOfMostAid_76 rfl (lv_at hl 3 rfl) <| ?_
        obtain ⟨hz_8, hf⟩ := ck_some hf
        refine zicmp_le (tgt := 85) hC.1 hC.2.1 ⟨hz_8.1, hz_8.2⟩ dX4_yearOfMostAid_77 (by decide) (fun hc => ?_) (fun hc => ?_)
        · have hf := it_t hf hc
          exact J85 _ _ _ _ _ _ hf (lv_sub hl [1, 2, 3, 4, 0, 5] rfl)
        · have hf := it_f hf hc
          refine ziload hC.1 hC.2.1 dX4_yearOfMostAid_80 (lv_at hl 0 rfl) <| zistore_n (lv' := [(2, vI x_7), (4, vI x_7), (0, .ref (a 0)), (1, vI y1), (3, vI y3), (5, vI y5), (6, vI y6)]) hC.1 hC.2.1 dX4_yearOfMostAid_82 rfl hl (by decide) rfl (fun ls hl => ?_)
          refine ziload_n hC.1 hC.2.1 dX4_yearOfMostAid_83 rfl (lv_at hl 4 rfl) <| zistore_n (lv' := [(1, vI y3), (2, vI x_7), (4, vI x_7), (0, .ref (a 0)), (3, vI y3), (5, vI y5), (6, vI y6)]) hC.1 hC.2.1 dX4_yearOfMostAid_84 rfl hl (by decide) rfl (fun ls hl => ?_)
          exact J85 _ _ _ _ _ _ hf (lv_sub hl [3, 0, 1, 4, 2, 5] rfl)
      refine ziload hC.1 hC.2.1 dX4_yearOfMostAid_12 (lv_at hl 5 rfl) <| lv_aload_n hC.1 hC.2.1 dX4_yearOfMostAid_14 rfl (lv_at hl 0 rfl) <| gfX4_25 hC hK hP (q0 := 0) rfl rfl dX4_yearOfMostAid_15 <| gfX4_81 hC hK hP (q0 := 6) rfl rfl dX4_yearOfMostAid_18 <| ?_
      obtain ⟨hz_1, hf⟩ := ck_some hf
      refine zicmp_ge (tgt := 91) hC.1 hC.2.1 ⟨hz_1.1, hz_1.2⟩ dX4_yearOfMostAid_21 (by decide) (fun hc => ?_) (fun hc => ?_)
      · have hf := it_t hf hc
        exact ziload_n hC.1 hC.2.1 dX4_yearOfMostAid_91 rfl (lv_at hl 1 rfl) <| hret (Int32.ofInt y1) _ _ (qI hf) dX4_yearOfMostAid_92
      · have hf := it_f hf hc
        refine lv_aload_n hC.1 hC.2.1 dX4_yearOfMostAid_24 rfl (lv_at hl 0 rfl) <| gfX4_25 hC hK hP (q0 := 0) rfl rfl dX4_yearOfMostAid_25 <| gfX4_83 hC hK hP (q0 := 6) rfl rfl dX4_yearOfMostAid_28 <| ziload hC.1 hC.2.1 dX4_yearOfMostAid_31 (lv_at hl 5 rfl) <| ?_
        obtain ⟨hz_2, hf⟩ := ck_some hf
        refine jal hC hK hP (q0 := 12) rfl (Nat.le_of_ble_eq_true rfl) hz_2 rfl dX4_yearOfMostAid_33 <| ?_
        refine ztopi (fun x_3 ex_3 => ?_)
        have hf := nm_at hf ex_3
        refine zistore (lv' := [(6, vI x_3), (0, .ref (a 0)), (1, vI y1), (2, vI y2), (3, vI y3), (4, vI y4), (5, vI y5)]) hC.1 hC.2.1 dX4_yearOfMostAid_34 hl (by decide) rfl (fun ls hl => ?_)
        refine lv_aload_n hC.1 hC.2.1 dX4_yearOfMostAid_36 rfl (lv_at hl 1 rfl) <| gfX4_25 hC hK hP (q0 := 0) rfl rfl dX4_yearOfMostAid_37 <| ziload hC.1 hC.2.1 dX4_yearOfMostAid_40 (lv_at hl 0 rfl) <| ?_
        obtain ⟨r_4, hu, hf⟩ := bd_some hf
        have hPc : va_P D vwCl (cs_X3 kA (sv 6 a) (sv 9 V)) _ := hP.sub [6, 7, 8, 9, 10, 11, 12, 13, 14, 15, 16, 17] rfl
        refine zcVP (As := [vI x_3]) (rest := []) hC hK (met_X3_yearOf l D kA (sv 6 a) (sv 9 V) x_3 hu) zwX4_86 hPc (q0 := 0) rfl rfl rfl rfl hl.1 rfl (Nat.le_of_ble_eq_true rfl) ⟨Nat.le_of_ble_eq_true rfl, Nat.le_of_ble_eq_true rfl⟩ ⟨rfl, rfl⟩ ⟨Nat.le_refl _, Nat.le_refl _⟩ dX4_yearOfMostAid_42 <| ziload_n hC.1 hC.2.1 dX4_yearOfMostAid_45 rfl (lv_at hl 4 rfl) <| ?_
        obtain ⟨hz_5, hf⟩ := ck_some hf
        refine zicmp_eq (tgt := 62) hC.1 hC.2.1 ⟨hz_5.1, hz_5.2⟩ dX4_yearOfMostAid_46 (by decide) (fun hc => ?_) (fun hc => ?_)
        · have hf := it_t hf hc
          exact J62 _ _ _ _ _ _ _ hf (lv_sub hl [1, 2, 3, 4, 5, 6, 0] rfl)
        · have hf := it_f hf hc
          refine lv_aload_n hC.1 hC.2.1 dX4_yearOfMostAid_49 rfl (lv_at hl 1 rfl) <| gfX4_25 hC hK hP (q0 := 0) rfl rfl dX4_yearOfMostAid_50 <| ziload hC.1 hC.2.1 dX4_yearOfMostAid_53 (lv_at hl 0 rfl) <| ?_
          obtain ⟨r_10, hu, hf⟩ := bd_some hf
          have hPc : va_P D vwCl (cs_X3 kA (sv 6 a) (sv 9 V)) _ := hP.sub [6, 7, 8, 9, 10, 11, 12, 13, 14, 15, 16, 17] rfl
          refine zcVP (As := [vI x_3]) (rest := []) hC hK (met_X3_yearOf l D kA (sv 6 a) (sv 9 V) x_3 hu) zwX4_86 hPc (q0 := 0) rfl rfl rfl rfl hl.1 rfl (Nat.le_of_ble_eq_true rfl) ⟨Nat.le_of_ble_eq_true rfl, Nat.le_of_ble_eq_true rfl⟩ ⟨rfl, rfl⟩ ⟨Nat.le_refl _, Nat.le_refl _⟩ dX4_yearOfMostAid_55 <| zistore_n (lv' := [(3, vI r_10), (6, vI x_3), (0, .ref (a 0)), (1, vI y1), (2, vI y2), (4, vI y4), (5, vI y5)]) hC.1 hC.2.1 dX4_yearOfMostAid_58 rfl hl (by decide) rfl (fun ls hl => ?_)
          refine ziconst hC.1 hC.2.1 dX4_yearOfMostAid_59 <| zistore (lv' := [(4, vI 0), (3, vI r_10), (6, vI x_3), (0, .ref (a 0)), (1, vI y1), (2, vI y2), (5, vI y5)]) hC.1 hC.2.1 dX4_yearOfMostAid_60 hl (by decide) rfl (fun ls hl => ?_)
          exact J62 _ _ _ _ _ _ _ hf (lv_sub hl [3, 4, 5, 1, 0, 6, 2] rfl)
  refine ziconst hC.1 hC.2.1 dX4_yearOfMostAid_0 <| zistore_n (lv' := [(1, vI (-1)), (0, .ref (a 0))]) hC.1 hC.2.1 dX4_yearOfMostAid_1 rfl hl (by decide) rfl (fun ls hl => ?_)
  refine ziconst hC.1 hC.2.1 dX4_yearOfMostAid_2 <| zistore_n (lv' := [(2, vI 0), (1, vI (-1)), (0, .ref (a 0))]) hC.1 hC.2.1 dX4_yearOfMostAid_3 rfl hl (by decide) rfl (fun ls hl => ?_)
  refine ziconst hC.1 hC.2.1 dX4_yearOfMostAid_4 <| zistore_n (lv' := [(3, vI (-1)), (2, vI 0), (1, vI (-1)), (0, .ref (a 0))]) hC.1 hC.2.1 dX4_yearOfMostAid_5 rfl hl (by decide) rfl (fun ls hl => ?_)
  refine ziconst hC.1 hC.2.1 dX4_yearOfMostAid_6 <| zistore (lv' := [(4, vI 0), (3, vI (-1)), (2, vI 0), (1, vI (-1)), (0, .ref (a 0))]) hC.1 hC.2.1 dX4_yearOfMostAid_7 hl (by decide) rfl (fun ls hl => ?_)
  refine ziconst hC.1 hC.2.1 dX4_yearOfMostAid_9 <| zistore (lv' := [(5, vI 0), (4, vI 0), (3, vI (-1)), (2, vI 0), (1, vI (-1)), (0, .ref (a 0))]) hC.1 hC.2.1 dX4_yearOfMostAid_10 hl (by decide) rfl (fun ls hl => ?_)
  exact L12 n _ _ _ _ _ _ hf (lv_sub hl [5, 4, 3, 2, 1, 0] rfl)
theorem DX4_wishOf_0 : ∀ q ∈ ([(0, .iconst 0, 1), (1, .istore 4, 2), (3, .iload 4, 2), (5, .aload_n 0, 1), (6, .getfield 25, 3), (9, .getfield 96, 3), (12, .iload_n 1, 1), (13, .iaload, 1), (14, .if_icmp .ge 53, 3), (17, .iload_n 1, 1), (18, .iconst 3, 1), (19, .imul, 1), (20, .iload 4, 2), (22, .iadd, 1), (23, .istore 5, 2), (25, .aload_n 0, 1), (26, .getfield 25, 3), (29, .getfield 103, 3), (32, .iload 5, 2), (34, .iaload, 1), (35, .iload_n 2, 1), (36, .if_icmp .ne 25, 3), (39, .iload_n 3, 1), (40, .ifCond .eq 13, 3), (43, .aload_n 0, 1), (44, .getfield 36, 3), (47, .iload 5, 2), (49, .iaload, 1), (50, .goto 10, 3), (53, .aload_n 0, 1), (54, .getfield 39, 3), (57, .iload 5, 2), (59, .iaload, 1), (60, .ireturn, 1), (61, .iinc 4 1, 3), (64, .goto (-61), 3), (67, .iconst 0, 1), (68, .ireturn, 1)] : List (Nat × Instr × Nat)), decode cX4_wishOf q.1 = .ok q.2 := by decide +kernel
theorem dX4_wishOf_0 : decode cX4_wishOf 0 = .ok (.iconst 0, 1) := DX4_wishOf_0 (0, .iconst 0, 1) (List.mem_of_getElem? (i := 0) rfl)
theorem dX4_wishOf_1 : decode cX4_wishOf 1 = .ok (.istore 4, 2) := DX4_wishOf_0 (1, .istore 4, 2) (List.mem_of_getElem? (i := 1) rfl)
theorem dX4_wishOf_3 : decode cX4_wishOf 3 = .ok (.iload 4, 2) := DX4_wishOf_0 (3, .iload 4, 2) (List.mem_of_getElem? (i := 2) rfl)
theorem dX4_wishOf_5 : decode cX4_wishOf 5 = .ok (.aload_n 0, 1) := DX4_wishOf_0 (5, .aload_n 0, 1) (List.mem_of_getElem? (i := 3) rfl)
theorem dX4_wishOf_6 : decode cX4_wishOf 6 = .ok (.getfield 25, 3) := DX4_wishOf_0 (6, .getfield 25, 3) (List.mem_of_getElem? (i := 4) rfl)
theorem dX4_wishOf_9 : decode cX4_wishOf 9 = .ok (.getfield 96, 3) := DX4_wishOf_0 (9, .getfield 96, 3) (List.mem_of_getElem? (i := 5) rfl)
theorem dX4_wishOf_12 : decode cX4_wishOf 12 = .ok (.iload_n 1, 1) := DX4_wishOf_0 (12, .iload_n 1, 1) (List.mem_of_getElem? (i := 6) rfl)
theorem dX4_wishOf_13 : decode cX4_wishOf 13 = .ok (.iaload, 1) := DX4_wishOf_0 (13, .iaload, 1) (List.mem_of_getElem? (i := 7) rfl)
theorem dX4_wishOf_14 : decode cX4_wishOf 14 = .ok (.if_icmp .ge 53, 3) := DX4_wishOf_0 (14, .if_icmp .ge 53, 3) (List.mem_of_getElem? (i := 8) rfl)
theorem dX4_wishOf_17 : decode cX4_wishOf 17 = .ok (.iload_n 1, 1) := DX4_wishOf_0 (17, .iload_n 1, 1) (List.mem_of_getElem? (i := 9) rfl)
theorem dX4_wishOf_18 : decode cX4_wishOf 18 = .ok (.iconst 3, 1) := DX4_wishOf_0 (18, .iconst 3, 1) (List.mem_of_getElem? (i := 10) rfl)
theorem dX4_wishOf_19 : decode cX4_wishOf 19 = .ok (.imul, 1) := DX4_wishOf_0 (19, .imul, 1) (List.mem_of_getElem? (i := 11) rfl)
theorem dX4_wishOf_20 : decode cX4_wishOf 20 = .ok (.iload 4, 2) := DX4_wishOf_0 (20, .iload 4, 2) (List.mem_of_getElem? (i := 12) rfl)
theorem dX4_wishOf_22 : decode cX4_wishOf 22 = .ok (.iadd, 1) := DX4_wishOf_0 (22, .iadd, 1) (List.mem_of_getElem? (i := 13) rfl)
theorem dX4_wishOf_23 : decode cX4_wishOf 23 = .ok (.istore 5, 2) := DX4_wishOf_0 (23, .istore 5, 2) (List.mem_of_getElem? (i := 14) rfl)
theorem dX4_wishOf_25 : decode cX4_wishOf 25 = .ok (.aload_n 0, 1) := DX4_wishOf_0 (25, .aload_n 0, 1) (List.mem_of_getElem? (i := 15) rfl)
theorem dX4_wishOf_26 : decode cX4_wishOf 26 = .ok (.getfield 25, 3) := DX4_wishOf_0 (26, .getfield 25, 3) (List.mem_of_getElem? (i := 16) rfl)
theorem dX4_wishOf_29 : decode cX4_wishOf 29 = .ok (.getfield 103, 3) := DX4_wishOf_0 (29, .getfield 103, 3) (List.mem_of_getElem? (i := 17) rfl)
theorem dX4_wishOf_32 : decode cX4_wishOf 32 = .ok (.iload 5, 2) := DX4_wishOf_0 (32, .iload 5, 2) (List.mem_of_getElem? (i := 18) rfl)
theorem dX4_wishOf_34 : decode cX4_wishOf 34 = .ok (.iaload, 1) := DX4_wishOf_0 (34, .iaload, 1) (List.mem_of_getElem? (i := 19) rfl)
theorem dX4_wishOf_35 : decode cX4_wishOf 35 = .ok (.iload_n 2, 1) := DX4_wishOf_0 (35, .iload_n 2, 1) (List.mem_of_getElem? (i := 20) rfl)
theorem dX4_wishOf_36 : decode cX4_wishOf 36 = .ok (.if_icmp .ne 25, 3) := DX4_wishOf_0 (36, .if_icmp .ne 25, 3) (List.mem_of_getElem? (i := 21) rfl)
theorem dX4_wishOf_39 : decode cX4_wishOf 39 = .ok (.iload_n 3, 1) := DX4_wishOf_0 (39, .iload_n 3, 1) (List.mem_of_getElem? (i := 22) rfl)
theorem dX4_wishOf_40 : decode cX4_wishOf 40 = .ok (.ifCond .eq 13, 3) := DX4_wishOf_0 (40, .ifCond .eq 13, 3) (List.mem_of_getElem? (i := 23) rfl)
theorem dX4_wishOf_43 : decode cX4_wishOf 43 = .ok (.aload_n 0, 1) := DX4_wishOf_0 (43, .aload_n 0, 1) (List.mem_of_getElem? (i := 24) rfl)
theorem dX4_wishOf_44 : decode cX4_wishOf 44 = .ok (.getfield 36, 3) := DX4_wishOf_0 (44, .getfield 36, 3) (List.mem_of_getElem? (i := 25) rfl)
theorem dX4_wishOf_47 : decode cX4_wishOf 47 = .ok (.iload 5, 2) := DX4_wishOf_0 (47, .iload 5, 2) (List.mem_of_getElem? (i := 26) rfl)
theorem dX4_wishOf_49 : decode cX4_wishOf 49 = .ok (.iaload, 1) := DX4_wishOf_0 (49, .iaload, 1) (List.mem_of_getElem? (i := 27) rfl)
theorem dX4_wishOf_50 : decode cX4_wishOf 50 = .ok (.goto 10, 3) := DX4_wishOf_0 (50, .goto 10, 3) (List.mem_of_getElem? (i := 28) rfl)
theorem dX4_wishOf_53 : decode cX4_wishOf 53 = .ok (.aload_n 0, 1) := DX4_wishOf_0 (53, .aload_n 0, 1) (List.mem_of_getElem? (i := 29) rfl)
theorem dX4_wishOf_54 : decode cX4_wishOf 54 = .ok (.getfield 39, 3) := DX4_wishOf_0 (54, .getfield 39, 3) (List.mem_of_getElem? (i := 30) rfl)
theorem dX4_wishOf_57 : decode cX4_wishOf 57 = .ok (.iload 5, 2) := DX4_wishOf_0 (57, .iload 5, 2) (List.mem_of_getElem? (i := 31) rfl)
theorem dX4_wishOf_59 : decode cX4_wishOf 59 = .ok (.iaload, 1) := DX4_wishOf_0 (59, .iaload, 1) (List.mem_of_getElem? (i := 32) rfl)
theorem dX4_wishOf_60 : decode cX4_wishOf 60 = .ok (.ireturn, 1) := DX4_wishOf_0 (60, .ireturn, 1) (List.mem_of_getElem? (i := 33) rfl)
theorem dX4_wishOf_61 : decode cX4_wishOf 61 = .ok (.iinc 4 1, 3) := DX4_wishOf_0 (61, .iinc 4 1, 3) (List.mem_of_getElem? (i := 34) rfl)
theorem dX4_wishOf_64 : decode cX4_wishOf 64 = .ok (.goto (-61), 3) := DX4_wishOf_0 (64, .goto (-61), 3) (List.mem_of_getElem? (i := 35) rfl)
theorem dX4_wishOf_67 : decode cX4_wishOf 67 = .ok (.iconst 0, 1) := DX4_wishOf_0 (67, .iconst 0, 1) (List.mem_of_getElem? (i := 36) rfl)
theorem dX4_wishOf_68 : decode cX4_wishOf 68 = .ok (.ireturn, 1) := DX4_wishOf_0 (68, .ireturn, 1) (List.mem_of_getElem? (i := 37) rfl)
abbrev rmX4_wishOf : Room := { frames := 0, cells := 0, slots := 0, locals := 0 }
set_option maxHeartbeats 400000 in
set_option maxRecDepth 100000 in
theorem met_X4_wishOf (l : Launch) (D : va_G) (kA : Nat → ClassId) (a : Nat → Nat) (n : Nat) (V : Sz) (x1 : Int) (x2 : Int) (x3 : Int) {r : Int} (hf : f_X4_wishOf n V x1 x2 x3 = some r) : MP l yX4_wishOf cX4_wishOf 6 (some .int) rmX4_wishOf D kA [.ref (a 0), vI x1, vI x2, vI x3] (cs_X4 kA a V) (some (vI r)) := by
  refine zPI (own := RX4) rfl rfl (Nat.le_of_ble_eq_true rfl) ?_
  intro p e s m args below meth c ls Q hC hK hP hl hret
  have hl : lv_has ls 6 [(0, .ref (a 0)), (1, vI x1), (2, vI x2), (3, vI x3)] := hl
  unfold f_X4_wishOf at hf
  have L3 : ∀ (k3 : Nat) (y4 : Int) (ls : Array Slot), lpF (bX4_wishOf_3 n V x1 x2 x3) k3 y4 = some r → lv_has ls 6 [(0, .ref (a 0)), (1, vI x1), (2, vI x2), (3, vI x3), (4, vI y4)] → W p l e rmX4_wishOf s m args below meth c s.heap [] 0 0 Q (F0 m 3 ls []) := by
    intro k3
    induction k3 with
    | zero => intro y4 ls hf hl; exact lp_0 hf
    | succ k3 ih3 =>
      intro y4 ls hf hl
      have hf := lp_s hf
      rw [bX4_wishOf_3_e] at hf
      refine ziload hC.1 hC.2.1 dX4_wishOf_3 (lv_at hl 4 rfl) <| lv_aload_n hC.1 hC.2.1 dX4_wishOf_5 rfl (lv_at hl 0 rfl) <| gfX4_25 hC hK hP (q0 := 0) rfl rfl dX4_wishOf_6 <| gfX4_96 hC hK hP (q0 := 6) rfl rfl dX4_wishOf_9 <| ziload_n hC.1 hC.2.1 dX4_wishOf_12 rfl (lv_at hl 1 rfl) <| ?_
      obtain ⟨hz_1, hf⟩ := ck_some hf
      refine jal hC hK hP (q0 := 11) rfl (Nat.le_of_ble_eq_true rfl) hz_1 rfl dX4_wishOf_13 <| ?_
      obtain ⟨hz_2, hf⟩ := ck_some hf
      refine zicmp_ge (tgt := 67) hC.1 hC.2.1 ⟨hz_2.1, hz_2.2⟩ dX4_wishOf_14 (by decide) (fun hc => ?_) (fun hc => ?_)
      · have hf := it_t hf hc
        exact ziconst hC.1 hC.2.1 dX4_wishOf_67 <| hret (Int32.ofInt 0) _ _ (qI hf) dX4_wishOf_68
      · have hf := it_f hf hc
        refine ziload_n hC.1 hC.2.1 dX4_wishOf_17 rfl (lv_at hl 1 rfl) <| ziconst hC.1 hC.2.1 dX4_wishOf_18 <| zimul hC.1 hC.2.1 dX4_wishOf_19 <| ziload hC.1 hC.2.1 dX4_wishOf_20 (lv_at hl 4 rfl) <| ziadd hC.1 hC.2.1 dX4_wishOf_22 <| ?_
        refine ztopi (fun x_3 ex_3 => ?_)
        have hf := nm_at hf ex_3
        refine zistore (lv' := [(5, vI x_3), (0, .ref (a 0)), (1, vI x1), (2, vI x2), (3, vI x3), (4, vI y4)]) hC.1 hC.2.1 dX4_wishOf_23 hl (by decide) rfl (fun ls hl => ?_)
        refine lv_aload_n hC.1 hC.2.1 dX4_wishOf_25 rfl (lv_at hl 1 rfl) <| gfX4_25 hC hK hP (q0 := 0) rfl rfl dX4_wishOf_26 <| gfX4_103 hC hK hP (q0 := 6) rfl rfl dX4_wishOf_29 <| ziload hC.1 hC.2.1 dX4_wishOf_32 (lv_at hl 0 rfl) <| ?_
        obtain ⟨hz_4, hf⟩ := ck_some hf
        refine jal hC hK hP (q0 := 13) rfl (Nat.le_of_ble_eq_true rfl) hz_4 rfl dX4_wishOf_34 <| ziload_n hC.1 hC.2.1 dX4_wishOf_35 rfl (lv_at hl 3 rfl) <| ?_
        obtain ⟨hz_5, hf⟩ := ck_some hf
        refine zicmp_ne (tgt := 61) hC.1 hC.2.1 ⟨hz_5.1, hz_5.2⟩ dX4_wishOf_36 (by decide) (fun hc => ?_) (fun hc => ?_)
        · have hf := it_f hf hc
          obtain ⟨x_6, ex_6⟩ : ∃ y : Int, y = y4 + 1 := ⟨_, rfl⟩
          have hf := nm_at hf ex_6
          refine ziinc (v := x_6) (lv' := [(4, vI x_6), (5, vI x_3), (0, .ref (a 0)), (1, vI x1), (2, vI x2), (3, vI x3)]) hC.1 hC.2.1 dX4_wishOf_61 hl (k := 5) rfl ex_6 (by decide) rfl (fun ls hl => ?_)
          exact lv_goto (tgt := 3) hC.1 hC.2.1 dX4_wishOf_64 (by decide) <| ih3 _ _ hf (lv_sub hl [2, 3, 4, 5, 0] rfl)
        · have hf := it_t hf hc
          refine ziload_n hC.1 hC.2.1 dX4_wishOf_39 rfl (lv_at hl 4 rfl) <| ?_
          obtain ⟨hz_7, hf⟩ := ck_some hf
          refine zif_eq (tgt := 53) hC.1 hC.2.1 hz_7 dX4_wishOf_40 (by decide) (fun hc => ?_) (fun hc => ?_)
          · have hf := it_t hf hc
            exact lv_aload_n hC.1 hC.2.1 dX4_wishOf_53 rfl (lv_at hl 1 rfl) <| gfX4_39 hC hK hP (q0 := 0) rfl rfl dX4_wishOf_54 <| ziload hC.1 hC.2.1 dX4_wishOf_57 (lv_at hl 0 rfl) <| jal hC hK hP (q0 := 21) rfl (Nat.le_of_ble_eq_true rfl) hz_4 rfl dX4_wishOf_59 <| hret (Int32.ofInt (V 24 x_3.toNat)) _ _ (qI hf) dX4_wishOf_60
          · have hf := it_f hf hc
            exact lv_aload_n hC.1 hC.2.1 dX4_wishOf_43 rfl (lv_at hl 1 rfl) <| gfX4_36 hC hK hP (q0 := 0) rfl rfl dX4_wishOf_44 <| ziload hC.1 hC.2.1 dX4_wishOf_47 (lv_at hl 0 rfl) <| jal hC hK hP (q0 := 20) rfl (Nat.le_of_ble_eq_true rfl) hz_4 rfl dX4_wishOf_49 <| lv_goto (tgt := 60) hC.1 hC.2.1 dX4_wishOf_50 (by decide) <| hret (Int32.ofInt (V 23 x_3.toNat)) _ _ (qI hf) dX4_wishOf_60
  refine ziconst hC.1 hC.2.1 dX4_wishOf_0 <| zistore (lv' := [(4, vI 0), (0, .ref (a 0)), (1, vI x1), (2, vI x2), (3, vI x3)]) hC.1 hC.2.1 dX4_wishOf_1 hl (by decide) rfl (fun ls hl => ?_)
  exact L3 n _ _ hf (lv_sub hl [1, 2, 3, 4, 0] rfl)
theorem DX4_aidWith_0 : ∀ q ∈ ([(0, .iconst 0, 1), (1, .istore 4, 2), (3, .iconst 0, 1), (4, .istore 5, 2), (6, .iconst (-1), 1), (7, .istore 6, 2), (9, .iconst 0, 1), (10, .istore 7, 2), (12, .iload 7, 2), (14, .aload_n 0, 1), (15, .getfield 25, 3), (18, .getfield 81, 3), (21, .if_icmp .ge 114, 3), (24, .aload_n 0, 1), (25, .getfield 25, 3), (28, .getfield 83, 3), (31, .iload 7, 2), (33, .iaload, 1), (34, .istore 8, 2), (36, .aload_n 0, 1), (37, .getfield 25, 3), (40, .iload 8, 2), (42, .invokevirtual 86, 3), (45, .iload 6, 2), (47, .if_icmp .eq 24, 3), (50, .aload_n 0, 1), (51, .getfield 25, 3), (54, .iload 8, 2), (56, .invokevirtual 86, 3), (59, .istore 6, 2), (61, .iload 4, 2), (63, .iload 5, 2), (65, .iadd, 1), (66, .istore 4, 2), (68, .iconst 0, 1), (69, .istore 5, 2), (71, .iload_n 2, 1), (72, .aload_n 0, 1), (73, .getfield 25, 3), (76, .getfield 113, 3)] : List (Nat × Instr × Nat)), decode cX4_aidWith q.1 = .ok q.2 := by decide +kernel
theorem dX4_aidWith_0 : decode cX4_aidWith 0 = .ok (.iconst 0, 1) := DX4_aidWith_0 (0, .iconst 0, 1) (List.mem_of_getElem? (i := 0) rfl)
theorem dX4_aidWith_1 : decode cX4_aidWith 1 = .ok (.istore 4, 2) := DX4_aidWith_0 (1, .istore 4, 2) (List.mem_of_getElem? (i := 1) rfl)
theorem dX4_aidWith_3 : decode cX4_aidWith 3 = .ok (.iconst 0, 1) := DX4_aidWith_0 (3, .iconst 0, 1) (List.mem_of_getElem? (i := 2) rfl)
theorem dX4_aidWith_4 : decode cX4_aidWith 4 = .ok (.istore 5, 2) := DX4_aidWith_0 (4, .istore 5, 2) (List.mem_of_getElem? (i := 3) rfl)
theorem dX4_aidWith_6 : decode cX4_aidWith 6 = .ok (.iconst (-1), 1) := DX4_aidWith_0 (6, .iconst (-1), 1) (List.mem_of_getElem? (i := 4) rfl)
theorem dX4_aidWith_7 : decode cX4_aidWith 7 = .ok (.istore 6, 2) := DX4_aidWith_0 (7, .istore 6, 2) (List.mem_of_getElem? (i := 5) rfl)
theorem dX4_aidWith_9 : decode cX4_aidWith 9 = .ok (.iconst 0, 1) := DX4_aidWith_0 (9, .iconst 0, 1) (List.mem_of_getElem? (i := 6) rfl)
theorem dX4_aidWith_10 : decode cX4_aidWith 10 = .ok (.istore 7, 2) := DX4_aidWith_0 (10, .istore 7, 2) (List.mem_of_getElem? (i := 7) rfl)
theorem dX4_aidWith_12 : decode cX4_aidWith 12 = .ok (.iload 7, 2) := DX4_aidWith_0 (12, .iload 7, 2) (List.mem_of_getElem? (i := 8) rfl)
theorem dX4_aidWith_14 : decode cX4_aidWith 14 = .ok (.aload_n 0, 1) := DX4_aidWith_0 (14, .aload_n 0, 1) (List.mem_of_getElem? (i := 9) rfl)
theorem dX4_aidWith_15 : decode cX4_aidWith 15 = .ok (.getfield 25, 3) := DX4_aidWith_0 (15, .getfield 25, 3) (List.mem_of_getElem? (i := 10) rfl)
theorem dX4_aidWith_18 : decode cX4_aidWith 18 = .ok (.getfield 81, 3) := DX4_aidWith_0 (18, .getfield 81, 3) (List.mem_of_getElem? (i := 11) rfl)
theorem dX4_aidWith_21 : decode cX4_aidWith 21 = .ok (.if_icmp .ge 114, 3) := DX4_aidWith_0 (21, .if_icmp .ge 114, 3) (List.mem_of_getElem? (i := 12) rfl)
theorem dX4_aidWith_24 : decode cX4_aidWith 24 = .ok (.aload_n 0, 1) := DX4_aidWith_0 (24, .aload_n 0, 1) (List.mem_of_getElem? (i := 13) rfl)
theorem dX4_aidWith_25 : decode cX4_aidWith 25 = .ok (.getfield 25, 3) := DX4_aidWith_0 (25, .getfield 25, 3) (List.mem_of_getElem? (i := 14) rfl)
theorem dX4_aidWith_28 : decode cX4_aidWith 28 = .ok (.getfield 83, 3) := DX4_aidWith_0 (28, .getfield 83, 3) (List.mem_of_getElem? (i := 15) rfl)
theorem dX4_aidWith_31 : decode cX4_aidWith 31 = .ok (.iload 7, 2) := DX4_aidWith_0 (31, .iload 7, 2) (List.mem_of_getElem? (i := 16) rfl)
theorem dX4_aidWith_33 : decode cX4_aidWith 33 = .ok (.iaload, 1) := DX4_aidWith_0 (33, .iaload, 1) (List.mem_of_getElem? (i := 17) rfl)
theorem dX4_aidWith_34 : decode cX4_aidWith 34 = .ok (.istore 8, 2) := DX4_aidWith_0 (34, .istore 8, 2) (List.mem_of_getElem? (i := 18) rfl)
theorem dX4_aidWith_36 : decode cX4_aidWith 36 = .ok (.aload_n 0, 1) := DX4_aidWith_0 (36, .aload_n 0, 1) (List.mem_of_getElem? (i := 19) rfl)
theorem dX4_aidWith_37 : decode cX4_aidWith 37 = .ok (.getfield 25, 3) := DX4_aidWith_0 (37, .getfield 25, 3) (List.mem_of_getElem? (i := 20) rfl)
theorem dX4_aidWith_40 : decode cX4_aidWith 40 = .ok (.iload 8, 2) := DX4_aidWith_0 (40, .iload 8, 2) (List.mem_of_getElem? (i := 21) rfl)
theorem dX4_aidWith_42 : decode cX4_aidWith 42 = .ok (.invokevirtual 86, 3) := DX4_aidWith_0 (42, .invokevirtual 86, 3) (List.mem_of_getElem? (i := 22) rfl)
theorem dX4_aidWith_45 : decode cX4_aidWith 45 = .ok (.iload 6, 2) := DX4_aidWith_0 (45, .iload 6, 2) (List.mem_of_getElem? (i := 23) rfl)
theorem dX4_aidWith_47 : decode cX4_aidWith 47 = .ok (.if_icmp .eq 24, 3) := DX4_aidWith_0 (47, .if_icmp .eq 24, 3) (List.mem_of_getElem? (i := 24) rfl)
theorem dX4_aidWith_50 : decode cX4_aidWith 50 = .ok (.aload_n 0, 1) := DX4_aidWith_0 (50, .aload_n 0, 1) (List.mem_of_getElem? (i := 25) rfl)
theorem dX4_aidWith_51 : decode cX4_aidWith 51 = .ok (.getfield 25, 3) := DX4_aidWith_0 (51, .getfield 25, 3) (List.mem_of_getElem? (i := 26) rfl)
theorem dX4_aidWith_54 : decode cX4_aidWith 54 = .ok (.iload 8, 2) := DX4_aidWith_0 (54, .iload 8, 2) (List.mem_of_getElem? (i := 27) rfl)
theorem dX4_aidWith_56 : decode cX4_aidWith 56 = .ok (.invokevirtual 86, 3) := DX4_aidWith_0 (56, .invokevirtual 86, 3) (List.mem_of_getElem? (i := 28) rfl)
theorem dX4_aidWith_59 : decode cX4_aidWith 59 = .ok (.istore 6, 2) := DX4_aidWith_0 (59, .istore 6, 2) (List.mem_of_getElem? (i := 29) rfl)
theorem dX4_aidWith_61 : decode cX4_aidWith 61 = .ok (.iload 4, 2) := DX4_aidWith_0 (61, .iload 4, 2) (List.mem_of_getElem? (i := 30) rfl)
theorem dX4_aidWith_63 : decode cX4_aidWith 63 = .ok (.iload 5, 2) := DX4_aidWith_0 (63, .iload 5, 2) (List.mem_of_getElem? (i := 31) rfl)
theorem dX4_aidWith_65 : decode cX4_aidWith 65 = .ok (.iadd, 1) := DX4_aidWith_0 (65, .iadd, 1) (List.mem_of_getElem? (i := 32) rfl)
theorem dX4_aidWith_66 : decode cX4_aidWith 66 = .ok (.istore 4, 2) := DX4_aidWith_0 (66, .istore 4, 2) (List.mem_of_getElem? (i := 33) rfl)
theorem dX4_aidWith_68 : decode cX4_aidWith 68 = .ok (.iconst 0, 1) := DX4_aidWith_0 (68, .iconst 0, 1) (List.mem_of_getElem? (i := 34) rfl)
theorem dX4_aidWith_69 : decode cX4_aidWith 69 = .ok (.istore 5, 2) := DX4_aidWith_0 (69, .istore 5, 2) (List.mem_of_getElem? (i := 35) rfl)
theorem dX4_aidWith_71 : decode cX4_aidWith 71 = .ok (.iload_n 2, 1) := DX4_aidWith_0 (71, .iload_n 2, 1) (List.mem_of_getElem? (i := 36) rfl)
theorem dX4_aidWith_72 : decode cX4_aidWith 72 = .ok (.aload_n 0, 1) := DX4_aidWith_0 (72, .aload_n 0, 1) (List.mem_of_getElem? (i := 37) rfl)
theorem dX4_aidWith_73 : decode cX4_aidWith 73 = .ok (.getfield 25, 3) := DX4_aidWith_0 (73, .getfield 25, 3) (List.mem_of_getElem? (i := 38) rfl)
theorem dX4_aidWith_76 : decode cX4_aidWith 76 = .ok (.getfield 113, 3) := DX4_aidWith_0 (76, .getfield 113, 3) (List.mem_of_getElem? (i := 39) rfl)
theorem DX4_aidWith_1 : ∀ q ∈ ([(79, .iload 8, 2), (81, .iaload, 1), (82, .if_icmp .gt 21, 3), (85, .aload_n 0, 1), (86, .getfield 25, 3), (89, .getfield 113, 3), (92, .iload 8, 2), (94, .iaload, 1), (95, .iload_n 3, 1), (96, .if_icmp .gt 7, 3), (99, .iconst 1, 1), (100, .goto 4, 3), (103, .iconst 0, 1), (104, .istore 9, 2), (106, .aload_n 0, 1), (107, .getfield 9, 3), (110, .iload_n 1, 1), (111, .iaload, 1), (112, .iload 5, 2), (114, .aload_n 0, 1), (115, .iload 8, 2), (117, .iload_n 1, 1), (118, .iload 9, 2), (120, .invokevirtual 192, 3), (123, .iadd, 1), (124, .invokestatic 120, 3), (127, .istore 5, 2), (129, .iinc 7 1, 3), (132, .goto (-120), 3), (135, .iload 4, 2), (137, .iload 5, 2), (139, .iadd, 1), (140, .ireturn, 1)] : List (Nat × Instr × Nat)), decode cX4_aidWith q.1 = .ok q.2 := by decide +kernel
theorem dX4_aidWith_79 : decode cX4_aidWith 79 = .ok (.iload 8, 2) := DX4_aidWith_1 (79, .iload 8, 2) (List.mem_of_getElem? (i := 0) rfl)
theorem dX4_aidWith_81 : decode cX4_aidWith 81 = .ok (.iaload, 1) := DX4_aidWith_1 (81, .iaload, 1) (List.mem_of_getElem? (i := 1) rfl)
theorem dX4_aidWith_82 : decode cX4_aidWith 82 = .ok (.if_icmp .gt 21, 3) := DX4_aidWith_1 (82, .if_icmp .gt 21, 3) (List.mem_of_getElem? (i := 2) rfl)
theorem dX4_aidWith_85 : decode cX4_aidWith 85 = .ok (.aload_n 0, 1) := DX4_aidWith_1 (85, .aload_n 0, 1) (List.mem_of_getElem? (i := 3) rfl)
theorem dX4_aidWith_86 : decode cX4_aidWith 86 = .ok (.getfield 25, 3) := DX4_aidWith_1 (86, .getfield 25, 3) (List.mem_of_getElem? (i := 4) rfl)
theorem dX4_aidWith_89 : decode cX4_aidWith 89 = .ok (.getfield 113, 3) := DX4_aidWith_1 (89, .getfield 113, 3) (List.mem_of_getElem? (i := 5) rfl)
theorem dX4_aidWith_92 : decode cX4_aidWith 92 = .ok (.iload 8, 2) := DX4_aidWith_1 (92, .iload 8, 2) (List.mem_of_getElem? (i := 6) rfl)
theorem dX4_aidWith_94 : decode cX4_aidWith 94 = .ok (.iaload, 1) := DX4_aidWith_1 (94, .iaload, 1) (List.mem_of_getElem? (i := 7) rfl)
theorem dX4_aidWith_95 : decode cX4_aidWith 95 = .ok (.iload_n 3, 1) := DX4_aidWith_1 (95, .iload_n 3, 1) (List.mem_of_getElem? (i := 8) rfl)
theorem dX4_aidWith_96 : decode cX4_aidWith 96 = .ok (.if_icmp .gt 7, 3) := DX4_aidWith_1 (96, .if_icmp .gt 7, 3) (List.mem_of_getElem? (i := 9) rfl)
theorem dX4_aidWith_99 : decode cX4_aidWith 99 = .ok (.iconst 1, 1) := DX4_aidWith_1 (99, .iconst 1, 1) (List.mem_of_getElem? (i := 10) rfl)
theorem dX4_aidWith_100 : decode cX4_aidWith 100 = .ok (.goto 4, 3) := DX4_aidWith_1 (100, .goto 4, 3) (List.mem_of_getElem? (i := 11) rfl)
theorem dX4_aidWith_103 : decode cX4_aidWith 103 = .ok (.iconst 0, 1) := DX4_aidWith_1 (103, .iconst 0, 1) (List.mem_of_getElem? (i := 12) rfl)
theorem dX4_aidWith_104 : decode cX4_aidWith 104 = .ok (.istore 9, 2) := DX4_aidWith_1 (104, .istore 9, 2) (List.mem_of_getElem? (i := 13) rfl)
theorem dX4_aidWith_106 : decode cX4_aidWith 106 = .ok (.aload_n 0, 1) := DX4_aidWith_1 (106, .aload_n 0, 1) (List.mem_of_getElem? (i := 14) rfl)
theorem dX4_aidWith_107 : decode cX4_aidWith 107 = .ok (.getfield 9, 3) := DX4_aidWith_1 (107, .getfield 9, 3) (List.mem_of_getElem? (i := 15) rfl)
theorem dX4_aidWith_110 : decode cX4_aidWith 110 = .ok (.iload_n 1, 1) := DX4_aidWith_1 (110, .iload_n 1, 1) (List.mem_of_getElem? (i := 16) rfl)
theorem dX4_aidWith_111 : decode cX4_aidWith 111 = .ok (.iaload, 1) := DX4_aidWith_1 (111, .iaload, 1) (List.mem_of_getElem? (i := 17) rfl)
theorem dX4_aidWith_112 : decode cX4_aidWith 112 = .ok (.iload 5, 2) := DX4_aidWith_1 (112, .iload 5, 2) (List.mem_of_getElem? (i := 18) rfl)
theorem dX4_aidWith_114 : decode cX4_aidWith 114 = .ok (.aload_n 0, 1) := DX4_aidWith_1 (114, .aload_n 0, 1) (List.mem_of_getElem? (i := 19) rfl)
theorem dX4_aidWith_115 : decode cX4_aidWith 115 = .ok (.iload 8, 2) := DX4_aidWith_1 (115, .iload 8, 2) (List.mem_of_getElem? (i := 20) rfl)
theorem dX4_aidWith_117 : decode cX4_aidWith 117 = .ok (.iload_n 1, 1) := DX4_aidWith_1 (117, .iload_n 1, 1) (List.mem_of_getElem? (i := 21) rfl)
theorem dX4_aidWith_118 : decode cX4_aidWith 118 = .ok (.iload 9, 2) := DX4_aidWith_1 (118, .iload 9, 2) (List.mem_of_getElem? (i := 22) rfl)
theorem dX4_aidWith_120 : decode cX4_aidWith 120 = .ok (.invokevirtual 192, 3) := DX4_aidWith_1 (120, .invokevirtual 192, 3) (List.mem_of_getElem? (i := 23) rfl)
theorem dX4_aidWith_123 : decode cX4_aidWith 123 = .ok (.iadd, 1) := DX4_aidWith_1 (123, .iadd, 1) (List.mem_of_getElem? (i := 24) rfl)
theorem dX4_aidWith_124 : decode cX4_aidWith 124 = .ok (.invokestatic 120, 3) := DX4_aidWith_1 (124, .invokestatic 120, 3) (List.mem_of_getElem? (i := 25) rfl)
theorem dX4_aidWith_127 : decode cX4_aidWith 127 = .ok (.istore 5, 2) := DX4_aidWith_1 (127, .istore 5, 2) (List.mem_of_getElem? (i := 26) rfl)
theorem dX4_aidWith_129 : decode cX4_aidWith 129 = .ok (.iinc 7 1, 3) := DX4_aidWith_1 (129, .iinc 7 1, 3) (List.mem_of_getElem? (i := 27) rfl)
theorem dX4_aidWith_132 : decode cX4_aidWith 132 = .ok (.goto (-120), 3) := DX4_aidWith_1 (132, .goto (-120), 3) (List.mem_of_getElem? (i := 28) rfl)
theorem dX4_aidWith_135 : decode cX4_aidWith 135 = .ok (.iload 4, 2) := DX4_aidWith_1 (135, .iload 4, 2) (List.mem_of_getElem? (i := 29) rfl)
theorem dX4_aidWith_137 : decode cX4_aidWith 137 = .ok (.iload 5, 2) := DX4_aidWith_1 (137, .iload 5, 2) (List.mem_of_getElem? (i := 30) rfl)
theorem dX4_aidWith_139 : decode cX4_aidWith 139 = .ok (.iadd, 1) := DX4_aidWith_1 (139, .iadd, 1) (List.mem_of_getElem? (i := 31) rfl)
theorem dX4_aidWith_140 : decode cX4_aidWith 140 = .ok (.ireturn, 1) := DX4_aidWith_1 (140, .ireturn, 1) (List.mem_of_getElem? (i := 32) rfl)
abbrev rmX4_aidWith : Room := { frames := 1, cells := 0, slots := 0, locals := 60 }
set_option maxHeartbeats 400000 in
set_option maxRecDepth 100000 in
theorem met_X4_aidWith (l : Launch) (D : va_G) (kA : Nat → ClassId) (a : Nat → Nat) (n : Nat) (V : Sz) (x1 : Int) (x2 : Int) (x3 : Int) {r : Int} (hf : f_X4_aidWith n V x1 x2 x3 = some r) : MP l yX4_aidWith cX4_aidWith 10 (some .int) rmX4_aidWith D kA [.ref (a 0), vI x1, vI x2, vI x3] (cs_X4 kA a V) (some (vI r)) := by
  refine zPI (own := RX4) rfl rfl (Nat.le_of_ble_eq_true rfl) ?_
  intro p e s m args below meth c ls Q hC hK hP hl hret
  have hl : lv_has ls 10 [(0, .ref (a 0)), (1, vI x1), (2, vI x2), (3, vI x3)] := hl
  unfold f_X4_aidWith at hf
  have L12 : ∀ (k12 : Nat) (y4 : Int) (y5 : Int) (y6 : Int) (y7 : Int) (ls : Array Slot), lpF (bX4_aidWith_12 n V x1 x2 x3) k12 (y4, y5, y6, y7) = some r → lv_has ls 10 [(0, .ref (a 0)), (1, vI x1), (2, vI x2), (3, vI x3), (4, vI y4), (5, vI y5), (6, vI y6), (7, vI y7)] → W p l e rmX4_aidWith s m args below meth c s.heap [] 0 0 Q (F0 m 12 ls []) := by
    intro k12
    induction k12 with
    | zero => intro y4 y5 y6 y7 ls hf hl; exact lp_0 hf
    | succ k12 ih12 =>
      intro y4 y5 y6 y7 ls hf hl
      have hf := lp_s hf
      rw [bX4_aidWith_12_e] at hf
      have J104 : ∀ (y4 : Int) (y5 : Int) (y6 : Int) (y7 : Int) (y8 : Int) (z0 : Int) (ls : Array Slot), jX4_aidWith_104 n V x1 x2 x3 (lpF (bX4_aidWith_12 n V x1 x2 x3) k12) y4 y5 y6 y7 y8 z0 = some r → lv_has ls 10 [(0, .ref (a 0)), (1, vI x1), (2, vI x2), (3, vI x3), (4, vI y4), (5, vI y5), (6, vI y6), (7, vI y7), (8, vI y8)] → W p l e rmX4_aidWith s m args below meth c s.heap [] 0 0 Q (F0 m 104 ls [vI z0]) := by
        intro y4 y5 y6 y7 y8 z0 ls hf hl
        unfold jX4_aidWith_104 at hf
        refine zistore (lv' := [(9, vI z0), (0, .ref (a 0)), (1, vI x1), (2, vI x2), (3, vI x3), (4, vI y4), (5, vI y5), (6, vI y6), (7, vI y7), (8, vI y8)]) hC.1 hC.2.1 dX4_aidWith_104 hl (by decide) rfl (fun ls hl => ?_)
        refine lv_aload_n hC.1 hC.2.1 dX4_aidWith_106 rfl (lv_at hl 1 rfl) <| gfX4_9 hC hK hP (q0 := 0) rfl rfl dX4_aidWith_107 <| ziload_n hC.1 hC.2.1 dX4_aidWith_110 rfl (lv_at hl 2 rfl) <| ?_
        obtain ⟨hz_8, hf⟩ := ck_some hf
        refine jal hC hK hP (q0 := 1) rfl (Nat.le_of_ble_eq_true rfl) hz_8 rfl dX4_aidWith_111 <| ziload hC.1 hC.2.1 dX4_aidWith_112 (lv_at hl 6 rfl) <| lv_aload_n hC.1 hC.2.1 dX4_aidWith_114 rfl (lv_at hl 1 rfl) <| ziload hC.1 hC.2.1 dX4_aidWith_115 (lv_at hl 9 rfl) <| ziload_n hC.1 hC.2.1 dX4_aidWith_117 rfl (lv_at hl 2 rfl) <| ziload hC.1 hC.2.1 dX4_aidWith_118 (lv_at hl 0 rfl) <| ?_
        obtain ⟨r_9, hu, hf⟩ := bd_some hf
        refine zcVP (As := [vI y8, vI x1, vI z0]) (rest := [vI y5, vI (V 4 x1.toNat)]) hC hK (met_X4_wishOf l D kA a n V y8 x1 z0 hu) zwX4_192 hP (q0 := 0) rfl rfl rfl rfl hl.1 rfl (Nat.le_of_ble_eq_true rfl) ⟨Nat.le_of_ble_eq_true rfl, Nat.le_of_ble_eq_true rfl⟩ ⟨rfl, rfl⟩ ⟨Nat.le_refl _, Nat.le_refl _⟩ dX4_aidWith_120 <| ziadd hC.1 hC.2.1 dX4_aidWith_123 <| ?_
        obtain ⟨hz_10, hf⟩ := ck_some hf
        refine jmin ⟨hz_10.1, hz_10.2⟩ hC qw_484 hl.1 (Nat.le_of_ble_eq_true rfl) ⟨Nat.le_of_ble_eq_true rfl, Nat.le_of_ble_eq_true rfl⟩ ⟨Nat.le_refl _, Nat.le_refl _⟩ dX4_aidWith_124 <| ?_
        refine ztopi (fun x_11 ex_11 => ?_)
        have hf := nm_at hf ex_11
        refine zistore (lv' := [(5, vI x_11), (9, vI z0), (0, .ref (a 0)), (1, vI x1), (2, vI x2), (3, vI x3), (4, vI y4), (6, vI y6), (7, vI y7), (8, vI y8)]) hC.1 hC.2.1 dX4_aidWith_127 hl (by decide) rfl (fun ls hl => ?_)
        obtain ⟨x_12, ex_12⟩ : ∃ y : Int, y = y7 + 1 := ⟨_, rfl⟩
        have hf := nm_at hf ex_12
        refine ziinc (v := x_12) (lv' := [(7, vI x_12), (5, vI x_11), (9, vI z0), (0, .ref (a 0)), (1, vI x1), (2, vI x2), (3, vI x3), (4, vI y4), (6, vI y6), (8, vI y8)]) hC.1 hC.2.1 dX4_aidWith_129 hl (k := 8) rfl ex_12 (by decide) rfl (fun ls hl => ?_)
        exact lv_goto (tgt := 12) hC.1 hC.2.1 dX4_aidWith_132 (by decide) <| ih12 _ _ _ _ _ hf (lv_sub hl [3, 4, 5, 6, 7, 1, 8, 0] rfl)
      have J103 : ∀ (y4 : Int) (y5 : Int) (y6 : Int) (y7 : Int) (y8 : Int) (ls : Array Slot), jX4_aidWith_103 n V x1 x2 x3 (lpF (bX4_aidWith_12 n V x1 x2 x3) k12) y4 y5 y6 y7 y8 = some r → lv_has ls 10 [(0, .ref (a 0)), (1, vI x1), (2, vI x2), (3, vI x3), (4, vI y4), (5, vI y5), (6, vI y6), (7, vI y7), (8, vI y8)] → W p l e rmX4_aidWith s m args below meth c s.heap [] 0 0 Q (F0 m 103 ls []) := by
        intro y4 y5 y6 y7 y8 ls hf hl
        unfold jX4_aidWith_103 at hf
        exact ziconst hC.1 hC.2.1 dX4_aidWith_103 <| J104 _ _ _ _ _ _ _ hf (lv_sub hl [0, 1, 2, 3, 4, 5, 6, 7, 8] rfl)
      have J71 : ∀ (y4 : Int) (y5 : Int) (y6 : Int) (y7 : Int) (y8 : Int) (ls : Array Slot), jX4_aidWith_71 n V x1 x2 x3 (lpF (bX4_aidWith_12 n V x1 x2 x3) k12) y4 y5 y6 y7 y8 = some r → lv_has ls 10 [(0, .ref (a 0)), (1, vI x1), (2, vI x2), (3, vI x3), (4, vI y4), (5, vI y5), (6, vI y6), (7, vI y7), (8, vI y8)] → W p l e rmX4_aidWith s m args below meth c s.heap [] 0 0 Q (F0 m 71 ls []) := by
        intro y4 y5 y6 y7 y8 ls hf hl
        unfold jX4_aidWith_71 at hf
        refine ziload_n hC.1 hC.2.1 dX4_aidWith_71 rfl (lv_at hl 2 rfl) <| lv_aload_n hC.1 hC.2.1 dX4_aidWith_72 rfl (lv_at hl 0 rfl) <| gfX4_25 hC hK hP (q0 := 0) rfl rfl dX4_aidWith_73 <| gfX4_113 hC hK hP (q0 := 6) rfl rfl dX4_aidWith_76 <| ziload hC.1 hC.2.1 dX4_aidWith_79 (lv_at hl 8 rfl) <| ?_
        obtain ⟨hz_6, hf⟩ := ck_some hf
        refine jal hC hK hP (q0 := 7) rfl (Nat.le_of_ble_eq_true rfl) hz_6 rfl dX4_aidWith_81 <| ?_
        obtain ⟨hz_7, hf⟩ := ck_some hf
        refine zicmp_gt (tgt := 103) hC.1 hC.2.1 ⟨hz_7.1, hz_7.2⟩ dX4_aidWith_82 (by decide) (fun hc => ?_) (fun hc => ?_)
        · have hf := it_t hf hc
          exact J103 _ _ _ _ _ _ hf (lv_sub hl [0, 1, 2, 3, 4, 5, 6, 7, 8] rfl)
        · have hf := it_f hf hc
          refine lv_aload_n hC.1 hC.2.1 dX4_aidWith_85 rfl (lv_at hl 0 rfl) <| gfX4_25 hC hK hP (q0 := 0) rfl rfl dX4_aidWith_86 <| gfX4_113 hC hK hP (q0 := 6) rfl rfl dX4_aidWith_89 <| ziload hC.1 hC.2.1 dX4_aidWith_92 (lv_at hl 8 rfl) <| jal hC hK hP (q0 := 7) rfl (Nat.le_of_ble_eq_true rfl) hz_6 rfl dX4_aidWith_94 <| ziload_n hC.1 hC.2.1 dX4_aidWith_95 rfl (lv_at hl 3 rfl) <| ?_
          obtain ⟨hz_13, hf⟩ := ck_some hf
          refine zicmp_gt (tgt := 103) hC.1 hC.2.1 ⟨hz_7.2, hz_13⟩ dX4_aidWith_96 (by decide) (fun hc => ?_) (fun hc => ?_)
          · have hf := it_t hf hc
            exact J103 _ _ _ _ _ _ hf (lv_sub hl [0, 1, 2, 3, 4, 5, 6, 7, 8] rfl)
          · have hf := it_f hf hc
            exact ziconst hC.1 hC.2.1 dX4_aidWith_99 <| lv_goto (tgt := 104) hC.1 hC.2.1 dX4_aidWith_100 (by decide) <| J104 _ _ _ _ _ _ _ hf (lv_sub hl [0, 1, 2, 3, 4, 5, 6, 7, 8] rfl)
      refine ziload hC.1 hC.2.1 dX4_aidWith_12 (lv_at hl 7 rfl) <| lv_aload_n hC.1 hC.2.1 dX4_aidWith_14 rfl (lv_at hl 0 rfl) <| gfX4_25 hC hK hP (q0 := 0) rfl rfl dX4_aidWith_15 <| gfX4_81 hC hK hP (q0 := 6) rfl rfl dX4_aidWith_18 <| ?_
      obtain ⟨hz_1, hf⟩ := ck_some hf
      refine zicmp_ge (tgt := 135) hC.1 hC.2.1 ⟨hz_1.1, hz_1.2⟩ dX4_aidWith_21 (by decide) (fun hc => ?_) (fun hc => ?_)
      · have hf := it_t hf hc
        exact ziload hC.1 hC.2.1 dX4_aidWith_135 (lv_at hl 4 rfl) <| ziload hC.1 hC.2.1 dX4_aidWith_137 (lv_at hl 5 rfl) <| ziadd hC.1 hC.2.1 dX4_aidWith_139 <| hret (Int32.ofInt (y4 + y5)) _ _ (qI hf) dX4_aidWith_140
      · have hf := it_f hf hc
        refine lv_aload_n hC.1 hC.2.1 dX4_aidWith_24 rfl (lv_at hl 0 rfl) <| gfX4_25 hC hK hP (q0 := 0) rfl rfl dX4_aidWith_25 <| gfX4_83 hC hK hP (q0 := 6) rfl rfl dX4_aidWith_28 <| ziload hC.1 hC.2.1 dX4_aidWith_31 (lv_at hl 7 rfl) <| ?_
        obtain ⟨hz_2, hf⟩ := ck_some hf
        refine jal hC hK hP (q0 := 12) rfl (Nat.le_of_ble_eq_true rfl) hz_2 rfl dX4_aidWith_33 <| ?_
        refine ztopi (fun x_3 ex_3 => ?_)
        have hf := nm_at hf ex_3
        refine zistore (lv' := [(8, vI x_3), (0, .ref (a 0)), (1, vI x1), (2, vI x2), (3, vI x3), (4, vI y4), (5, vI y5), (6, vI y6), (7, vI y7)]) hC.1 hC.2.1 dX4_aidWith_34 hl (by decide) rfl (fun ls hl => ?_)
        refine lv_aload_n hC.1 hC.2.1 dX4_aidWith_36 rfl (lv_at hl 1 rfl) <| gfX4_25 hC hK hP (q0 := 0) rfl rfl dX4_aidWith_37 <| ziload hC.1 hC.2.1 dX4_aidWith_40 (lv_at hl 0 rfl) <| ?_
        obtain ⟨r_4, hu, hf⟩ := bd_some hf
        have hPc : va_P D vwCl (cs_X3 kA (sv 6 a) (sv 9 V)) _ := hP.sub [6, 7, 8, 9, 10, 11, 12, 13, 14, 15, 16, 17] rfl
        refine zcVP (As := [vI x_3]) (rest := []) hC hK (met_X3_yearOf l D kA (sv 6 a) (sv 9 V) x_3 hu) zwX4_86 hPc (q0 := 0) rfl rfl rfl rfl hl.1 rfl (Nat.le_of_ble_eq_true rfl) ⟨Nat.le_of_ble_eq_true rfl, Nat.le_of_ble_eq_true rfl⟩ ⟨rfl, rfl⟩ ⟨Nat.le_refl _, Nat.le_refl _⟩ dX4_aidWith_42 <| ziload hC.1 hC.2.1 dX4_aidWith_45 (lv_at hl 7 rfl) <| ?_
        obtain ⟨hz_5, hf⟩ := ck_some hf
        refine zicmp_eq (tgt := 71) hC.1 hC.2.1 ⟨hz_5.1, hz_5.2⟩ dX4_aidWith_47 (by decide) (fun hc => ?_) (fun hc => ?_)
        · have hf := it_t hf hc
          exact J71 _ _ _ _ _ _ hf (lv_sub hl [1, 2, 3, 4, 5, 6, 7, 8, 0] rfl)
        · have hf := it_f hf hc
          refine lv_aload_n hC.1 hC.2.1 dX4_aidWith_50 rfl (lv_at hl 1 rfl) <| gfX4_25 hC hK hP (q0 := 0) rfl rfl dX4_aidWith_51 <| ziload hC.1 hC.2.1 dX4_aidWith_54 (lv_at hl 0 rfl) <| ?_
          obtain ⟨r_14, hu, hf⟩ := bd_some hf
          have hPc : va_P D vwCl (cs_X3 kA (sv 6 a) (sv 9 V)) _ := hP.sub [6, 7, 8, 9, 10, 11, 12, 13, 14, 15, 16, 17] rfl
          refine zcVP (As := [vI x_3]) (rest := []) hC hK (met_X3_yearOf l D kA (sv 6 a) (sv 9 V) x_3 hu) zwX4_86 hPc (q0 := 0) rfl rfl rfl rfl hl.1 rfl (Nat.le_of_ble_eq_true rfl) ⟨Nat.le_of_ble_eq_true rfl, Nat.le_of_ble_eq_true rfl⟩ ⟨rfl, rfl⟩ ⟨Nat.le_refl _, Nat.le_refl _⟩ dX4_aidWith_56 <| zistore (lv' := [(6, vI r_14), (8, vI x_3), (0, .ref (a 0)), (1, vI x1), (2, vI x2), (3, vI x3), (4, vI y4), (5, vI y5), (7, vI y7)]) hC.1 hC.2.1 dX4_aidWith_59 hl (by decide) rfl (fun ls hl => ?_)
          refine ziload hC.1 hC.2.1 dX4_aidWith_61 (lv_at hl 6 rfl) <| ziload hC.1 hC.2.1 dX4_aidWith_63 (lv_at hl 7 rfl) <| ziadd hC.1 hC.2.1 dX4_aidWith_65 <| ?_
          refine ztopi (fun x_15 ex_15 => ?_)
          have hf := nm_at hf ex_15
          refine zistore (lv' := [(4, vI x_15), (6, vI r_14), (8, vI x_3), (0, .ref (a 0)), (1, vI x1), (2, vI x2), (3, vI x3), (5, vI y5), (7, vI y7)]) hC.1 hC.2.1 dX4_aidWith_66 hl (by decide) rfl (fun ls hl => ?_)
          refine ziconst hC.1 hC.2.1 dX4_aidWith_68 <| zistore (lv' := [(5, vI 0), (4, vI x_15), (6, vI r_14), (8, vI x_3), (0, .ref (a 0)), (1, vI x1), (2, vI x2), (3, vI x3), (7, vI y7)]) hC.1 hC.2.1 dX4_aidWith_69 hl (by decide) rfl (fun ls hl => ?_)
          exact J71 _ _ _ _ _ _ hf (lv_sub hl [4, 5, 6, 7, 1, 0, 2, 8, 3] rfl)
  refine ziconst hC.1 hC.2.1 dX4_aidWith_0 <| zistore (lv' := [(4, vI 0), (0, .ref (a 0)), (1, vI x1), (2, vI x2), (3, vI x3)]) hC.1 hC.2.1 dX4_aidWith_1 hl (by decide) rfl (fun ls hl => ?_)
  refine ziconst hC.1 hC.2.1 dX4_aidWith_3 <| zistore (lv' := [(5, vI 0), (4, vI 0), (0, .ref (a 0)), (1, vI x1), (2, vI x2), (3, vI x3)]) hC.1 hC.2.1 dX4_aidWith_4 hl (by decide) rfl (fun ls hl => ?_)
  refine ziconst hC.1 hC.2.1 dX4_aidWith_6 <| zistore (lv' := [(6, vI (-1)), (5, vI 0), (4, vI 0), (0, .ref (a 0)), (1, vI x1), (2, vI x2), (3, vI x3)]) hC.1 hC.2.1 dX4_aidWith_7 hl (by decide) rfl (fun ls hl => ?_)
  refine ziconst hC.1 hC.2.1 dX4_aidWith_9 <| zistore (lv' := [(7, vI 0), (6, vI (-1)), (5, vI 0), (4, vI 0), (0, .ref (a 0)), (1, vI x1), (2, vI x2), (3, vI x3)]) hC.1 hC.2.1 dX4_aidWith_10 hl (by decide) rfl (fun ls hl => ?_)
  exact L12 n _ _ _ _ _ hf (lv_sub hl [4, 5, 6, 7, 3, 2, 1, 0] rfl)
theorem DX4_growthWith_0 : ∀ q ∈ ([(0, .aload_n 0, 1), (1, .iload_n 1, 1), (2, .iload_n 2, 1), (3, .iload_n 3, 1), (4, .invokevirtual 185, 3), (7, .aload_n 0, 1), (8, .iload_n 1, 1), (9, .iconst 2, 1), (10, .iconst (-1), 1), (11, .invokevirtual 189, 3), (14, .isub, 1), (15, .ireturn, 1)] : List (Nat × Instr × Nat)), decode cX4_growthWith q.1 = .ok q.2 := by decide +kernel
theorem dX4_growthWith_0 : decode cX4_growthWith 0 = .ok (.aload_n 0, 1) := DX4_growthWith_0 (0, .aload_n 0, 1) (List.mem_of_getElem? (i := 0) rfl)
theorem dX4_growthWith_1 : decode cX4_growthWith 1 = .ok (.iload_n 1, 1) := DX4_growthWith_0 (1, .iload_n 1, 1) (List.mem_of_getElem? (i := 1) rfl)
theorem dX4_growthWith_2 : decode cX4_growthWith 2 = .ok (.iload_n 2, 1) := DX4_growthWith_0 (2, .iload_n 2, 1) (List.mem_of_getElem? (i := 2) rfl)
theorem dX4_growthWith_3 : decode cX4_growthWith 3 = .ok (.iload_n 3, 1) := DX4_growthWith_0 (3, .iload_n 3, 1) (List.mem_of_getElem? (i := 3) rfl)
theorem dX4_growthWith_4 : decode cX4_growthWith 4 = .ok (.invokevirtual 185, 3) := DX4_growthWith_0 (4, .invokevirtual 185, 3) (List.mem_of_getElem? (i := 4) rfl)
theorem dX4_growthWith_7 : decode cX4_growthWith 7 = .ok (.aload_n 0, 1) := DX4_growthWith_0 (7, .aload_n 0, 1) (List.mem_of_getElem? (i := 5) rfl)
theorem dX4_growthWith_8 : decode cX4_growthWith 8 = .ok (.iload_n 1, 1) := DX4_growthWith_0 (8, .iload_n 1, 1) (List.mem_of_getElem? (i := 6) rfl)
theorem dX4_growthWith_9 : decode cX4_growthWith 9 = .ok (.iconst 2, 1) := DX4_growthWith_0 (9, .iconst 2, 1) (List.mem_of_getElem? (i := 7) rfl)
theorem dX4_growthWith_10 : decode cX4_growthWith 10 = .ok (.iconst (-1), 1) := DX4_growthWith_0 (10, .iconst (-1), 1) (List.mem_of_getElem? (i := 8) rfl)
theorem dX4_growthWith_11 : decode cX4_growthWith 11 = .ok (.invokevirtual 189, 3) := DX4_growthWith_0 (11, .invokevirtual 189, 3) (List.mem_of_getElem? (i := 9) rfl)
theorem dX4_growthWith_14 : decode cX4_growthWith 14 = .ok (.isub, 1) := DX4_growthWith_0 (14, .isub, 1) (List.mem_of_getElem? (i := 10) rfl)
theorem dX4_growthWith_15 : decode cX4_growthWith 15 = .ok (.ireturn, 1) := DX4_growthWith_0 (15, .ireturn, 1) (List.mem_of_getElem? (i := 11) rfl)
abbrev rmX4_growthWith : Room := { frames := 3, cells := 0, slots := 0, locals := 89 }
set_option maxHeartbeats 400000 in
set_option maxRecDepth 100000 in
theorem met_X4_growthWith (l : Launch) (D : va_G) (kA : Nat → ClassId) (a : Nat → Nat) (n : Nat) (V : Sz) (x1 : Int) (x2 : Int) (x3 : Int) {r : Int} (hf : f_X4_growthWith n V x1 x2 x3 = some r) : MP l yX4_growthWith cX4_growthWith 4 (some .int) rmX4_growthWith D kA [.ref (a 0), vI x1, vI x2, vI x3] (cs_X4 kA a V) (some (vI r)) := by
  refine zPI (own := RX4) rfl rfl (Nat.le_of_ble_eq_true rfl) ?_
  intro p e s m args below meth c ls Q hC hK hP hl hret
  have hl : lv_has ls 4 [(0, .ref (a 0)), (1, vI x1), (2, vI x2), (3, vI x3)] := hl
  unfold f_X4_growthWith at hf
  refine lv_aload_n hC.1 hC.2.1 dX4_growthWith_0 rfl (lv_at hl 0 rfl) <| ziload_n hC.1 hC.2.1 dX4_growthWith_1 rfl (lv_at hl 1 rfl) <| ziload_n hC.1 hC.2.1 dX4_growthWith_2 rfl (lv_at hl 2 rfl) <| ziload_n hC.1 hC.2.1 dX4_growthWith_3 rfl (lv_at hl 3 rfl) <| ?_
  obtain ⟨r_1, hu, hf⟩ := bd_some hf
  refine zcVP (As := [vI x1, vI x2, vI x3]) (rest := []) hC hK (met_X4_aidWith l D kA a n V x1 x2 x3 hu) zwX4_185 hP (q0 := 0) rfl rfl rfl rfl hl.1 rfl (Nat.le_of_ble_eq_true rfl) ⟨Nat.le_of_ble_eq_true rfl, Nat.le_of_ble_eq_true rfl⟩ ⟨rfl, rfl⟩ ⟨Nat.le_refl _, Nat.le_refl _⟩ dX4_growthWith_4 <| lv_aload_n hC.1 hC.2.1 dX4_growthWith_7 rfl (lv_at hl 0 rfl) <| ziload_n hC.1 hC.2.1 dX4_growthWith_8 rfl (lv_at hl 1 rfl) <| ziconst hC.1 hC.2.1 dX4_growthWith_9 <| ziconst hC.1 hC.2.1 dX4_growthWith_10 <| ?_
  obtain ⟨r_2, hu, hf⟩ := bd_some hf
  exact zcVP (As := [vI x1, vI 2, vI (-1)]) (rest := [vI r_1]) hC hK (met_X4_sumOfDonor l D kA a n V x1 2 (-1) hu) zwX4_189 hP (q0 := 0) rfl rfl rfl rfl hl.1 rfl (Nat.le_of_ble_eq_true rfl) ⟨Nat.le_of_ble_eq_true rfl, Nat.le_of_ble_eq_true rfl⟩ ⟨rfl, rfl⟩ ⟨Nat.le_refl _, Nat.le_refl _⟩ dX4_growthWith_11 <| zisub hC.1 hC.2.1 dX4_growthWith_14 <| hret (Int32.ofInt (r_1 - r_2)) _ _ (qI hf) dX4_growthWith_15
theorem DX4_endOfNeed_0 : ∀ q ∈ ([(0, .aload_n 0, 1), (1, .iload_n 1, 1), (2, .iconst 0, 1), (3, .sipush 9999, 3), (6, .invokevirtual 185, 3), (9, .istore_n 3, 1), (10, .iload_n 3, 1), (11, .aload_n 0, 1), (12, .iload_n 1, 1), (13, .iconst 2, 1), (14, .iconst (-1), 1), (15, .invokevirtual 189, 3), (18, .if_icmp .ne 5, 3), (21, .iconst (-1), 1), (22, .ireturn, 1), (23, .iconst 0, 1), (24, .istore 4, 2), (26, .sipush 9999, 3), (29, .istore 5, 2), (31, .iconst 0, 1), (32, .istore 6, 2), (34, .iconst 0, 1), (35, .istore 7, 2), (37, .iload 7, 2), (39, .aload_n 0, 1), (40, .getfield 25, 3), (43, .getfield 81, 3), (46, .if_icmp .ge 141, 3), (49, .aload_n 0, 1), (50, .getfield 25, 3), (53, .getfield 113, 3), (56, .aload_n 0, 1), (57, .getfield 25, 3), (60, .getfield 83, 3), (63, .iload 7, 2), (65, .iaload, 1), (66, .iaload, 1), (67, .istore 8, 2), (69, .iload 6, 2), (71, .aload_n 0, 1)] : List (Nat × Instr × Nat)), decode cX4_endOfNeed q.1 = .ok q.2 := by decide +kernel
theorem dX4_endOfNeed_0 : decode cX4_endOfNeed 0 = .ok (.aload_n 0, 1) := DX4_endOfNeed_0 (0, .aload_n 0, 1) (List.mem_of_getElem? (i := 0) rfl)
theorem dX4_endOfNeed_1 : decode cX4_endOfNeed 1 = .ok (.iload_n 1, 1) := DX4_endOfNeed_0 (1, .iload_n 1, 1) (List.mem_of_getElem? (i := 1) rfl)
theorem dX4_endOfNeed_2 : decode cX4_endOfNeed 2 = .ok (.iconst 0, 1) := DX4_endOfNeed_0 (2, .iconst 0, 1) (List.mem_of_getElem? (i := 2) rfl)
theorem dX4_endOfNeed_3 : decode cX4_endOfNeed 3 = .ok (.sipush 9999, 3) := DX4_endOfNeed_0 (3, .sipush 9999, 3) (List.mem_of_getElem? (i := 3) rfl)
theorem dX4_endOfNeed_6 : decode cX4_endOfNeed 6 = .ok (.invokevirtual 185, 3) := DX4_endOfNeed_0 (6, .invokevirtual 185, 3) (List.mem_of_getElem? (i := 4) rfl)
theorem dX4_endOfNeed_9 : decode cX4_endOfNeed 9 = .ok (.istore_n 3, 1) := DX4_endOfNeed_0 (9, .istore_n 3, 1) (List.mem_of_getElem? (i := 5) rfl)
theorem dX4_endOfNeed_10 : decode cX4_endOfNeed 10 = .ok (.iload_n 3, 1) := DX4_endOfNeed_0 (10, .iload_n 3, 1) (List.mem_of_getElem? (i := 6) rfl)
theorem dX4_endOfNeed_11 : decode cX4_endOfNeed 11 = .ok (.aload_n 0, 1) := DX4_endOfNeed_0 (11, .aload_n 0, 1) (List.mem_of_getElem? (i := 7) rfl)
theorem dX4_endOfNeed_12 : decode cX4_endOfNeed 12 = .ok (.iload_n 1, 1) := DX4_endOfNeed_0 (12, .iload_n 1, 1) (List.mem_of_getElem? (i := 8) rfl)
theorem dX4_endOfNeed_13 : decode cX4_endOfNeed 13 = .ok (.iconst 2, 1) := DX4_endOfNeed_0 (13, .iconst 2, 1) (List.mem_of_getElem? (i := 9) rfl)
theorem dX4_endOfNeed_14 : decode cX4_endOfNeed 14 = .ok (.iconst (-1), 1) := DX4_endOfNeed_0 (14, .iconst (-1), 1) (List.mem_of_getElem? (i := 10) rfl)
theorem dX4_endOfNeed_15 : decode cX4_endOfNeed 15 = .ok (.invokevirtual 189, 3) := DX4_endOfNeed_0 (15, .invokevirtual 189, 3) (List.mem_of_getElem? (i := 11) rfl)
theorem dX4_endOfNeed_18 : decode cX4_endOfNeed 18 = .ok (.if_icmp .ne 5, 3) := DX4_endOfNeed_0 (18, .if_icmp .ne 5, 3) (List.mem_of_getElem? (i := 12) rfl)
theorem dX4_endOfNeed_21 : decode cX4_endOfNeed 21 = .ok (.iconst (-1), 1) := DX4_endOfNeed_0 (21, .iconst (-1), 1) (List.mem_of_getElem? (i := 13) rfl)
theorem dX4_endOfNeed_22 : decode cX4_endOfNeed 22 = .ok (.ireturn, 1) := DX4_endOfNeed_0 (22, .ireturn, 1) (List.mem_of_getElem? (i := 14) rfl)
theorem dX4_endOfNeed_23 : decode cX4_endOfNeed 23 = .ok (.iconst 0, 1) := DX4_endOfNeed_0 (23, .iconst 0, 1) (List.mem_of_getElem? (i := 15) rfl)
theorem dX4_endOfNeed_24 : decode cX4_endOfNeed 24 = .ok (.istore 4, 2) := DX4_endOfNeed_0 (24, .istore 4, 2) (List.mem_of_getElem? (i := 16) rfl)
theorem dX4_endOfNeed_26 : decode cX4_endOfNeed 26 = .ok (.sipush 9999, 3) := DX4_endOfNeed_0 (26, .sipush 9999, 3) (List.mem_of_getElem? (i := 17) rfl)
theorem dX4_endOfNeed_29 : decode cX4_endOfNeed 29 = .ok (.istore 5, 2) := DX4_endOfNeed_0 (29, .istore 5, 2) (List.mem_of_getElem? (i := 18) rfl)
theorem dX4_endOfNeed_31 : decode cX4_endOfNeed 31 = .ok (.iconst 0, 1) := DX4_endOfNeed_0 (31, .iconst 0, 1) (List.mem_of_getElem? (i := 19) rfl)
theorem dX4_endOfNeed_32 : decode cX4_endOfNeed 32 = .ok (.istore 6, 2) := DX4_endOfNeed_0 (32, .istore 6, 2) (List.mem_of_getElem? (i := 20) rfl)
theorem dX4_endOfNeed_34 : decode cX4_endOfNeed 34 = .ok (.iconst 0, 1) := DX4_endOfNeed_0 (34, .iconst 0, 1) (List.mem_of_getElem? (i := 21) rfl)
theorem dX4_endOfNeed_35 : decode cX4_endOfNeed 35 = .ok (.istore 7, 2) := DX4_endOfNeed_0 (35, .istore 7, 2) (List.mem_of_getElem? (i := 22) rfl)
theorem dX4_endOfNeed_37 : decode cX4_endOfNeed 37 = .ok (.iload 7, 2) := DX4_endOfNeed_0 (37, .iload 7, 2) (List.mem_of_getElem? (i := 23) rfl)
theorem dX4_endOfNeed_39 : decode cX4_endOfNeed 39 = .ok (.aload_n 0, 1) := DX4_endOfNeed_0 (39, .aload_n 0, 1) (List.mem_of_getElem? (i := 24) rfl)
theorem dX4_endOfNeed_40 : decode cX4_endOfNeed 40 = .ok (.getfield 25, 3) := DX4_endOfNeed_0 (40, .getfield 25, 3) (List.mem_of_getElem? (i := 25) rfl)
theorem dX4_endOfNeed_43 : decode cX4_endOfNeed 43 = .ok (.getfield 81, 3) := DX4_endOfNeed_0 (43, .getfield 81, 3) (List.mem_of_getElem? (i := 26) rfl)
theorem dX4_endOfNeed_46 : decode cX4_endOfNeed 46 = .ok (.if_icmp .ge 141, 3) := DX4_endOfNeed_0 (46, .if_icmp .ge 141, 3) (List.mem_of_getElem? (i := 27) rfl)
theorem dX4_endOfNeed_49 : decode cX4_endOfNeed 49 = .ok (.aload_n 0, 1) := DX4_endOfNeed_0 (49, .aload_n 0, 1) (List.mem_of_getElem? (i := 28) rfl)
theorem dX4_endOfNeed_50 : decode cX4_endOfNeed 50 = .ok (.getfield 25, 3) := DX4_endOfNeed_0 (50, .getfield 25, 3) (List.mem_of_getElem? (i := 29) rfl)
theorem dX4_endOfNeed_53 : decode cX4_endOfNeed 53 = .ok (.getfield 113, 3) := DX4_endOfNeed_0 (53, .getfield 113, 3) (List.mem_of_getElem? (i := 30) rfl)
theorem dX4_endOfNeed_56 : decode cX4_endOfNeed 56 = .ok (.aload_n 0, 1) := DX4_endOfNeed_0 (56, .aload_n 0, 1) (List.mem_of_getElem? (i := 31) rfl)
theorem dX4_endOfNeed_57 : decode cX4_endOfNeed 57 = .ok (.getfield 25, 3) := DX4_endOfNeed_0 (57, .getfield 25, 3) (List.mem_of_getElem? (i := 32) rfl)
theorem dX4_endOfNeed_60 : decode cX4_endOfNeed 60 = .ok (.getfield 83, 3) := DX4_endOfNeed_0 (60, .getfield 83, 3) (List.mem_of_getElem? (i := 33) rfl)
theorem dX4_endOfNeed_63 : decode cX4_endOfNeed 63 = .ok (.iload 7, 2) := DX4_endOfNeed_0 (63, .iload 7, 2) (List.mem_of_getElem? (i := 34) rfl)
theorem dX4_endOfNeed_65 : decode cX4_endOfNeed 65 = .ok (.iaload, 1) := DX4_endOfNeed_0 (65, .iaload, 1) (List.mem_of_getElem? (i := 35) rfl)
theorem dX4_endOfNeed_66 : decode cX4_endOfNeed 66 = .ok (.iaload, 1) := DX4_endOfNeed_0 (66, .iaload, 1) (List.mem_of_getElem? (i := 36) rfl)
theorem dX4_endOfNeed_67 : decode cX4_endOfNeed 67 = .ok (.istore 8, 2) := DX4_endOfNeed_0 (67, .istore 8, 2) (List.mem_of_getElem? (i := 37) rfl)
theorem dX4_endOfNeed_69 : decode cX4_endOfNeed 69 = .ok (.iload 6, 2) := DX4_endOfNeed_0 (69, .iload 6, 2) (List.mem_of_getElem? (i := 38) rfl)
theorem dX4_endOfNeed_71 : decode cX4_endOfNeed 71 = .ok (.aload_n 0, 1) := DX4_endOfNeed_0 (71, .aload_n 0, 1) (List.mem_of_getElem? (i := 39) rfl)
theorem DX4_endOfNeed_1 : ∀ q ∈ ([(72, .getfield 25, 3), (75, .getfield 81, 3), (78, .if_icmp .ge 38, 3), (81, .aload_n 0, 1), (82, .iload_n 1, 1), (83, .iload 8, 2), (85, .aload_n 0, 1), (86, .getfield 25, 3), (89, .getfield 113, 3), (92, .aload_n 0, 1), (93, .getfield 25, 3), (96, .getfield 83, 3), (99, .iload 6, 2), (101, .iaload, 1), (102, .iaload, 1), (103, .invokevirtual 185, 3), (106, .iload_n 3, 1), (107, .if_icmp .ge 9, 3), (110, .iinc 6 1, 3), (113, .goto (-44), 3), (116, .iload 6, 2), (118, .aload_n 0, 1), (119, .getfield 25, 3), (122, .getfield 81, 3), (125, .if_icmp .ge 56, 3), (128, .aload_n 0, 1), (129, .getfield 25, 3), (132, .getfield 113, 3), (135, .aload_n 0, 1), (136, .getfield 25, 3), (139, .getfield 83, 3), (142, .iload 6, 2), (144, .iaload, 1), (145, .iaload, 1), (146, .iload 8, 2), (148, .isub, 1), (149, .iload 5, 2), (151, .iload 4, 2), (153, .isub, 1), (154, .if_icmp .ge 27, 3)] : List (Nat × Instr × Nat)), decode cX4_endOfNeed q.1 = .ok q.2 := by decide +kernel
theorem dX4_endOfNeed_72 : decode cX4_endOfNeed 72 = .ok (.getfield 25, 3) := DX4_endOfNeed_1 (72, .getfield 25, 3) (List.mem_of_getElem? (i := 0) rfl)
theorem dX4_endOfNeed_75 : decode cX4_endOfNeed 75 = .ok (.getfield 81, 3) := DX4_endOfNeed_1 (75, .getfield 81, 3) (List.mem_of_getElem? (i := 1) rfl)
theorem dX4_endOfNeed_78 : decode cX4_endOfNeed 78 = .ok (.if_icmp .ge 38, 3) := DX4_endOfNeed_1 (78, .if_icmp .ge 38, 3) (List.mem_of_getElem? (i := 2) rfl)
theorem dX4_endOfNeed_81 : decode cX4_endOfNeed 81 = .ok (.aload_n 0, 1) := DX4_endOfNeed_1 (81, .aload_n 0, 1) (List.mem_of_getElem? (i := 3) rfl)
theorem dX4_endOfNeed_82 : decode cX4_endOfNeed 82 = .ok (.iload_n 1, 1) := DX4_endOfNeed_1 (82, .iload_n 1, 1) (List.mem_of_getElem? (i := 4) rfl)
theorem dX4_endOfNeed_83 : decode cX4_endOfNeed 83 = .ok (.iload 8, 2) := DX4_endOfNeed_1 (83, .iload 8, 2) (List.mem_of_getElem? (i := 5) rfl)
theorem dX4_endOfNeed_85 : decode cX4_endOfNeed 85 = .ok (.aload_n 0, 1) := DX4_endOfNeed_1 (85, .aload_n 0, 1) (List.mem_of_getElem? (i := 6) rfl)
theorem dX4_endOfNeed_86 : decode cX4_endOfNeed 86 = .ok (.getfield 25, 3) := DX4_endOfNeed_1 (86, .getfield 25, 3) (List.mem_of_getElem? (i := 7) rfl)
theorem dX4_endOfNeed_89 : decode cX4_endOfNeed 89 = .ok (.getfield 113, 3) := DX4_endOfNeed_1 (89, .getfield 113, 3) (List.mem_of_getElem? (i := 8) rfl)
theorem dX4_endOfNeed_92 : decode cX4_endOfNeed 92 = .ok (.aload_n 0, 1) := DX4_endOfNeed_1 (92, .aload_n 0, 1) (List.mem_of_getElem? (i := 9) rfl)
theorem dX4_endOfNeed_93 : decode cX4_endOfNeed 93 = .ok (.getfield 25, 3) := DX4_endOfNeed_1 (93, .getfield 25, 3) (List.mem_of_getElem? (i := 10) rfl)
theorem dX4_endOfNeed_96 : decode cX4_endOfNeed 96 = .ok (.getfield 83, 3) := DX4_endOfNeed_1 (96, .getfield 83, 3) (List.mem_of_getElem? (i := 11) rfl)
theorem dX4_endOfNeed_99 : decode cX4_endOfNeed 99 = .ok (.iload 6, 2) := DX4_endOfNeed_1 (99, .iload 6, 2) (List.mem_of_getElem? (i := 12) rfl)
theorem dX4_endOfNeed_101 : decode cX4_endOfNeed 101 = .ok (.iaload, 1) := DX4_endOfNeed_1 (101, .iaload, 1) (List.mem_of_getElem? (i := 13) rfl)
theorem dX4_endOfNeed_102 : decode cX4_endOfNeed 102 = .ok (.iaload, 1) := DX4_endOfNeed_1 (102, .iaload, 1) (List.mem_of_getElem? (i := 14) rfl)
theorem dX4_endOfNeed_103 : decode cX4_endOfNeed 103 = .ok (.invokevirtual 185, 3) := DX4_endOfNeed_1 (103, .invokevirtual 185, 3) (List.mem_of_getElem? (i := 15) rfl)
theorem dX4_endOfNeed_106 : decode cX4_endOfNeed 106 = .ok (.iload_n 3, 1) := DX4_endOfNeed_1 (106, .iload_n 3, 1) (List.mem_of_getElem? (i := 16) rfl)
theorem dX4_endOfNeed_107 : decode cX4_endOfNeed 107 = .ok (.if_icmp .ge 9, 3) := DX4_endOfNeed_1 (107, .if_icmp .ge 9, 3) (List.mem_of_getElem? (i := 17) rfl)
theorem dX4_endOfNeed_110 : decode cX4_endOfNeed 110 = .ok (.iinc 6 1, 3) := DX4_endOfNeed_1 (110, .iinc 6 1, 3) (List.mem_of_getElem? (i := 18) rfl)
theorem dX4_endOfNeed_113 : decode cX4_endOfNeed 113 = .ok (.goto (-44), 3) := DX4_endOfNeed_1 (113, .goto (-44), 3) (List.mem_of_getElem? (i := 19) rfl)
theorem dX4_endOfNeed_116 : decode cX4_endOfNeed 116 = .ok (.iload 6, 2) := DX4_endOfNeed_1 (116, .iload 6, 2) (List.mem_of_getElem? (i := 20) rfl)
theorem dX4_endOfNeed_118 : decode cX4_endOfNeed 118 = .ok (.aload_n 0, 1) := DX4_endOfNeed_1 (118, .aload_n 0, 1) (List.mem_of_getElem? (i := 21) rfl)
theorem dX4_endOfNeed_119 : decode cX4_endOfNeed 119 = .ok (.getfield 25, 3) := DX4_endOfNeed_1 (119, .getfield 25, 3) (List.mem_of_getElem? (i := 22) rfl)
theorem dX4_endOfNeed_122 : decode cX4_endOfNeed 122 = .ok (.getfield 81, 3) := DX4_endOfNeed_1 (122, .getfield 81, 3) (List.mem_of_getElem? (i := 23) rfl)
theorem dX4_endOfNeed_125 : decode cX4_endOfNeed 125 = .ok (.if_icmp .ge 56, 3) := DX4_endOfNeed_1 (125, .if_icmp .ge 56, 3) (List.mem_of_getElem? (i := 24) rfl)
theorem dX4_endOfNeed_128 : decode cX4_endOfNeed 128 = .ok (.aload_n 0, 1) := DX4_endOfNeed_1 (128, .aload_n 0, 1) (List.mem_of_getElem? (i := 25) rfl)
theorem dX4_endOfNeed_129 : decode cX4_endOfNeed 129 = .ok (.getfield 25, 3) := DX4_endOfNeed_1 (129, .getfield 25, 3) (List.mem_of_getElem? (i := 26) rfl)
theorem dX4_endOfNeed_132 : decode cX4_endOfNeed 132 = .ok (.getfield 113, 3) := DX4_endOfNeed_1 (132, .getfield 113, 3) (List.mem_of_getElem? (i := 27) rfl)
theorem dX4_endOfNeed_135 : decode cX4_endOfNeed 135 = .ok (.aload_n 0, 1) := DX4_endOfNeed_1 (135, .aload_n 0, 1) (List.mem_of_getElem? (i := 28) rfl)
theorem dX4_endOfNeed_136 : decode cX4_endOfNeed 136 = .ok (.getfield 25, 3) := DX4_endOfNeed_1 (136, .getfield 25, 3) (List.mem_of_getElem? (i := 29) rfl)
theorem dX4_endOfNeed_139 : decode cX4_endOfNeed 139 = .ok (.getfield 83, 3) := DX4_endOfNeed_1 (139, .getfield 83, 3) (List.mem_of_getElem? (i := 30) rfl)
theorem dX4_endOfNeed_142 : decode cX4_endOfNeed 142 = .ok (.iload 6, 2) := DX4_endOfNeed_1 (142, .iload 6, 2) (List.mem_of_getElem? (i := 31) rfl)
theorem dX4_endOfNeed_144 : decode cX4_endOfNeed 144 = .ok (.iaload, 1) := DX4_endOfNeed_1 (144, .iaload, 1) (List.mem_of_getElem? (i := 32) rfl)
theorem dX4_endOfNeed_145 : decode cX4_endOfNeed 145 = .ok (.iaload, 1) := DX4_endOfNeed_1 (145, .iaload, 1) (List.mem_of_getElem? (i := 33) rfl)
theorem dX4_endOfNeed_146 : decode cX4_endOfNeed 146 = .ok (.iload 8, 2) := DX4_endOfNeed_1 (146, .iload 8, 2) (List.mem_of_getElem? (i := 34) rfl)
theorem dX4_endOfNeed_148 : decode cX4_endOfNeed 148 = .ok (.isub, 1) := DX4_endOfNeed_1 (148, .isub, 1) (List.mem_of_getElem? (i := 35) rfl)
theorem dX4_endOfNeed_149 : decode cX4_endOfNeed 149 = .ok (.iload 5, 2) := DX4_endOfNeed_1 (149, .iload 5, 2) (List.mem_of_getElem? (i := 36) rfl)
theorem dX4_endOfNeed_151 : decode cX4_endOfNeed 151 = .ok (.iload 4, 2) := DX4_endOfNeed_1 (151, .iload 4, 2) (List.mem_of_getElem? (i := 37) rfl)
theorem dX4_endOfNeed_153 : decode cX4_endOfNeed 153 = .ok (.isub, 1) := DX4_endOfNeed_1 (153, .isub, 1) (List.mem_of_getElem? (i := 38) rfl)
theorem dX4_endOfNeed_154 : decode cX4_endOfNeed 154 = .ok (.if_icmp .ge 27, 3) := DX4_endOfNeed_1 (154, .if_icmp .ge 27, 3) (List.mem_of_getElem? (i := 39) rfl)
theorem DX4_endOfNeed_2 : ∀ q ∈ ([(157, .iload 8, 2), (159, .istore 4, 2), (161, .aload_n 0, 1), (162, .getfield 25, 3), (165, .getfield 113, 3), (168, .aload_n 0, 1), (169, .getfield 25, 3), (172, .getfield 83, 3), (175, .iload 6, 2), (177, .iaload, 1), (178, .iaload, 1), (179, .istore 5, 2), (181, .iinc 7 1, 3), (184, .goto (-147), 3), (187, .iload_n 2, 1), (188, .ifCond .eq 8, 3), (191, .iload 5, 2), (193, .goto 5, 3), (196, .iload 4, 2), (198, .ireturn, 1)] : List (Nat × Instr × Nat)), decode cX4_endOfNeed q.1 = .ok q.2 := by decide +kernel
theorem dX4_endOfNeed_157 : decode cX4_endOfNeed 157 = .ok (.iload 8, 2) := DX4_endOfNeed_2 (157, .iload 8, 2) (List.mem_of_getElem? (i := 0) rfl)
theorem dX4_endOfNeed_159 : decode cX4_endOfNeed 159 = .ok (.istore 4, 2) := DX4_endOfNeed_2 (159, .istore 4, 2) (List.mem_of_getElem? (i := 1) rfl)
theorem dX4_endOfNeed_161 : decode cX4_endOfNeed 161 = .ok (.aload_n 0, 1) := DX4_endOfNeed_2 (161, .aload_n 0, 1) (List.mem_of_getElem? (i := 2) rfl)
theorem dX4_endOfNeed_162 : decode cX4_endOfNeed 162 = .ok (.getfield 25, 3) := DX4_endOfNeed_2 (162, .getfield 25, 3) (List.mem_of_getElem? (i := 3) rfl)
theorem dX4_endOfNeed_165 : decode cX4_endOfNeed 165 = .ok (.getfield 113, 3) := DX4_endOfNeed_2 (165, .getfield 113, 3) (List.mem_of_getElem? (i := 4) rfl)
theorem dX4_endOfNeed_168 : decode cX4_endOfNeed 168 = .ok (.aload_n 0, 1) := DX4_endOfNeed_2 (168, .aload_n 0, 1) (List.mem_of_getElem? (i := 5) rfl)
theorem dX4_endOfNeed_169 : decode cX4_endOfNeed 169 = .ok (.getfield 25, 3) := DX4_endOfNeed_2 (169, .getfield 25, 3) (List.mem_of_getElem? (i := 6) rfl)
theorem dX4_endOfNeed_172 : decode cX4_endOfNeed 172 = .ok (.getfield 83, 3) := DX4_endOfNeed_2 (172, .getfield 83, 3) (List.mem_of_getElem? (i := 7) rfl)
theorem dX4_endOfNeed_175 : decode cX4_endOfNeed 175 = .ok (.iload 6, 2) := DX4_endOfNeed_2 (175, .iload 6, 2) (List.mem_of_getElem? (i := 8) rfl)
theorem dX4_endOfNeed_177 : decode cX4_endOfNeed 177 = .ok (.iaload, 1) := DX4_endOfNeed_2 (177, .iaload, 1) (List.mem_of_getElem? (i := 9) rfl)
theorem dX4_endOfNeed_178 : decode cX4_endOfNeed 178 = .ok (.iaload, 1) := DX4_endOfNeed_2 (178, .iaload, 1) (List.mem_of_getElem? (i := 10) rfl)
theorem dX4_endOfNeed_179 : decode cX4_endOfNeed 179 = .ok (.istore 5, 2) := DX4_endOfNeed_2 (179, .istore 5, 2) (List.mem_of_getElem? (i := 11) rfl)
theorem dX4_endOfNeed_181 : decode cX4_endOfNeed 181 = .ok (.iinc 7 1, 3) := DX4_endOfNeed_2 (181, .iinc 7 1, 3) (List.mem_of_getElem? (i := 12) rfl)
theorem dX4_endOfNeed_184 : decode cX4_endOfNeed 184 = .ok (.goto (-147), 3) := DX4_endOfNeed_2 (184, .goto (-147), 3) (List.mem_of_getElem? (i := 13) rfl)
theorem dX4_endOfNeed_187 : decode cX4_endOfNeed 187 = .ok (.iload_n 2, 1) := DX4_endOfNeed_2 (187, .iload_n 2, 1) (List.mem_of_getElem? (i := 14) rfl)
theorem dX4_endOfNeed_188 : decode cX4_endOfNeed 188 = .ok (.ifCond .eq 8, 3) := DX4_endOfNeed_2 (188, .ifCond .eq 8, 3) (List.mem_of_getElem? (i := 15) rfl)
theorem dX4_endOfNeed_191 : decode cX4_endOfNeed 191 = .ok (.iload 5, 2) := DX4_endOfNeed_2 (191, .iload 5, 2) (List.mem_of_getElem? (i := 16) rfl)
theorem dX4_endOfNeed_193 : decode cX4_endOfNeed 193 = .ok (.goto 5, 3) := DX4_endOfNeed_2 (193, .goto 5, 3) (List.mem_of_getElem? (i := 17) rfl)
theorem dX4_endOfNeed_196 : decode cX4_endOfNeed 196 = .ok (.iload 4, 2) := DX4_endOfNeed_2 (196, .iload 4, 2) (List.mem_of_getElem? (i := 18) rfl)
theorem dX4_endOfNeed_198 : decode cX4_endOfNeed 198 = .ok (.ireturn, 1) := DX4_endOfNeed_2 (198, .ireturn, 1) (List.mem_of_getElem? (i := 19) rfl)
abbrev rmX4_endOfNeed : Room := { frames := 3, cells := 0, slots := 0, locals := 89 }
set_option maxHeartbeats 400000 in
set_option maxRecDepth 100000 in
theorem met_X4_endOfNeed (l : Launch) (D : va_G) (kA : Nat → ClassId) (a : Nat → Nat) (n : Nat) (V : Sz) (x1 : Int) (x2 : Int) {r : Int} (hf : f_X4_endOfNeed n V x1 x2 = some r) : MP l yX4_endOfNeed cX4_endOfNeed 9 (some .int) rmX4_endOfNeed D kA [.ref (a 0), vI x1, vI x2] (cs_X4 kA a V) (some (vI r)) := by
  refine zPI (own := RX4) rfl rfl (Nat.le_of_ble_eq_true rfl) ?_
  intro p e s m args below meth c ls Q hC hK hP hl hret
  have hl : lv_has ls 9 [(0, .ref (a 0)), (1, vI x1), (2, vI x2)] := hl
  unfold f_X4_endOfNeed at hf
  have L37 : ∀ (k37 : Nat) (y3 : Int) (y4 : Int) (y5 : Int) (y6 : Int) (y7 : Int) (ls : Array Slot), lpF (bX4_endOfNeed_37 n V x1 x2) k37 (y3, y4, y5, y6, y7) = some r → lv_has ls 9 [(0, .ref (a 0)), (1, vI x1), (2, vI x2), (3, vI y3), (4, vI y4), (5, vI y5), (6, vI y6), (7, vI y7)] → W p l e rmX4_endOfNeed s m args below meth c s.heap [] 0 0 Q (F0 m 37 ls []) := by
    intro k37
    induction k37 with
    | zero => intro y3 y4 y5 y6 y7 ls hf hl; exact lp_0 hf
    | succ k37 ih37 =>
      intro y3 y4 y5 y6 y7 ls hf hl
      have hf := lp_s hf
      rw [bX4_endOfNeed_37_e] at hf
      have J181 : ∀ (y3 : Int) (y4 : Int) (y5 : Int) (y6 : Int) (y7 : Int) (ls : Array Slot), jX4_endOfNeed_181 n V x1 x2 (lpF (bX4_endOfNeed_37 n V x1 x2) k37) y3 y4 y5 y6 y7 = some r → lv_has ls 9 [(0, .ref (a 0)), (1, vI x1), (2, vI x2), (3, vI y3), (4, vI y4), (5, vI y5), (6, vI y6), (7, vI y7)] → W p l e rmX4_endOfNeed s m args below meth c s.heap [] 0 0 Q (F0 m 181 ls []) := by
        intro y3 y4 y5 y6 y7 ls hf hl
        unfold jX4_endOfNeed_181 at hf
        obtain ⟨x_11, ex_11⟩ : ∃ y : Int, y = y7 + 1 := ⟨_, rfl⟩
        have hf := nm_at hf ex_11
        refine ziinc (v := x_11) (lv' := [(7, vI x_11), (0, .ref (a 0)), (1, vI x1), (2, vI x2), (3, vI y3), (4, vI y4), (5, vI y5), (6, vI y6)]) hC.1 hC.2.1 dX4_endOfNeed_181 hl (k := 7) rfl ex_11 (by decide) rfl (fun ls hl => ?_)
        exact lv_goto (tgt := 37) hC.1 hC.2.1 dX4_endOfNeed_184 (by decide) <| ih37 _ _ _ _ _ _ hf (lv_sub hl [1, 2, 3, 4, 5, 6, 7, 0] rfl)
      have J116 : ∀ (y3 : Int) (y4 : Int) (y5 : Int) (y6 : Int) (y7 : Int) (y8 : Int) (ls : Array Slot), jX4_endOfNeed_116 n V x1 x2 (lpF (bX4_endOfNeed_37 n V x1 x2) k37) y3 y4 y5 y6 y7 y8 = some r → lv_has ls 9 [(0, .ref (a 0)), (1, vI x1), (2, vI x2), (3, vI y3), (4, vI y4), (5, vI y5), (6, vI y6), (7, vI y7), (8, vI y8)] → W p l e rmX4_endOfNeed s m args below meth c s.heap [] 0 0 Q (F0 m 116 ls []) := by
        intro y3 y4 y5 y6 y7 y8 ls hf hl
        unfold jX4_endOfNeed_116 at hf
        refine ziload hC.1 hC.2.1 dX4_endOfNeed_116 (lv_at hl 6 rfl) <| lv_aload_n hC.1 hC.2.1 dX4_endOfNeed_118 rfl (lv_at hl 0 rfl) <| gfX4_25 hC hK hP (q0 := 0) rfl rfl dX4_endOfNeed_119 <| gfX4_81 hC hK hP (q0 := 6) rfl rfl dX4_endOfNeed_122 <| ?_
        obtain ⟨hz_10, hf⟩ := ck_some hf
        refine zicmp_ge (tgt := 181) hC.1 hC.2.1 ⟨hz_10.1, hz_10.2⟩ dX4_endOfNeed_125 (by decide) (fun hc => ?_) (fun hc => ?_)
        · have hf := it_t hf hc
          exact J181 _ _ _ _ _ _ hf (lv_sub hl [0, 1, 2, 3, 4, 5, 6, 7] rfl)
        · have hf := it_f hf hc
          refine lv_aload_n hC.1 hC.2.1 dX4_endOfNeed_128 rfl (lv_at hl 0 rfl) <| gfX4_25 hC hK hP (q0 := 0) rfl rfl dX4_endOfNeed_129 <| gfX4_113 hC hK hP (q0 := 6) rfl rfl dX4_endOfNeed_132 <| lv_aload_n hC.1 hC.2.1 dX4_endOfNeed_135 rfl (lv_at hl 0 rfl) <| gfX4_25 hC hK hP (q0 := 0) rfl rfl dX4_endOfNeed_136 <| gfX4_83 hC hK hP (q0 := 6) rfl rfl dX4_endOfNeed_139 <| ziload hC.1 hC.2.1 dX4_endOfNeed_142 (lv_at hl 6 rfl) <| ?_
          obtain ⟨hz_12, hf⟩ := ck_some hf
          refine jal hC hK hP (q0 := 12) rfl (Nat.le_of_ble_eq_true rfl) hz_12 rfl dX4_endOfNeed_144 <| ?_
          obtain ⟨hz_13, hf⟩ := ck_some hf
          refine jal hC hK hP (q0 := 7) rfl (Nat.le_of_ble_eq_true rfl) hz_13 rfl dX4_endOfNeed_145 <| ziload hC.1 hC.2.1 dX4_endOfNeed_146 (lv_at hl 8 rfl) <| zisub hC.1 hC.2.1 dX4_endOfNeed_148 <| ziload hC.1 hC.2.1 dX4_endOfNeed_149 (lv_at hl 5 rfl) <| ziload hC.1 hC.2.1 dX4_endOfNeed_151 (lv_at hl 4 rfl) <| zisub hC.1 hC.2.1 dX4_endOfNeed_153 <| ?_
          obtain ⟨hz_14, hf⟩ := ck_some hf
          refine zicmp_ge (tgt := 181) hC.1 hC.2.1 ⟨hz_14.1, hz_14.2⟩ dX4_endOfNeed_154 (by decide) (fun hc => ?_) (fun hc => ?_)
          · have hf := it_t hf hc
            exact J181 _ _ _ _ _ _ hf (lv_sub hl [0, 1, 2, 3, 4, 5, 6, 7] rfl)
          · have hf := it_f hf hc
            refine ziload hC.1 hC.2.1 dX4_endOfNeed_157 (lv_at hl 8 rfl) <| zistore (lv' := [(4, vI y8), (0, .ref (a 0)), (1, vI x1), (2, vI x2), (3, vI y3), (5, vI y5), (6, vI y6), (7, vI y7), (8, vI y8)]) hC.1 hC.2.1 dX4_endOfNeed_159 hl (by decide) rfl (fun ls hl => ?_)
            refine lv_aload_n hC.1 hC.2.1 dX4_endOfNeed_161 rfl (lv_at hl 1 rfl) <| gfX4_25 hC hK hP (q0 := 0) rfl rfl dX4_endOfNeed_162 <| gfX4_113 hC hK hP (q0 := 6) rfl rfl dX4_endOfNeed_165 <| lv_aload_n hC.1 hC.2.1 dX4_endOfNeed_168 rfl (lv_at hl 1 rfl) <| gfX4_25 hC hK hP (q0 := 0) rfl rfl dX4_endOfNeed_169 <| gfX4_83 hC hK hP (q0 := 6) rfl rfl dX4_endOfNeed_172 <| ziload hC.1 hC.2.1 dX4_endOfNeed_175 (lv_at hl 6 rfl) <| jal hC hK hP (q0 := 12) rfl (Nat.le_of_ble_eq_true rfl) hz_12 rfl dX4_endOfNeed_177 <| jal hC hK hP (q0 := 7) rfl (Nat.le_of_ble_eq_true rfl) hz_13 rfl dX4_endOfNeed_178 <| ?_
            refine ztopi (fun x_15 ex_15 => ?_)
            have hf := nm_at hf ex_15
            refine zistore (lv' := [(5, vI x_15), (4, vI y8), (0, .ref (a 0)), (1, vI x1), (2, vI x2), (3, vI y3), (6, vI y6), (7, vI y7), (8, vI y8)]) hC.1 hC.2.1 dX4_endOfNeed_179 hl (by decide) rfl (fun ls hl => ?_)
            exact J181 _ _ _ _ _ _ hf (lv_sub hl [2, 3, 4, 5, 1, 0, 6, 7] rfl)
      have L69 : ∀ (k69 : Nat) (y3 : Int) (y4 : Int) (y5 : Int) (y6 : Int) (y7 : Int) (y8 : Int) (ls : Array Slot), lpF (bX4_endOfNeed_69 n V x1 x2 (lpF (bX4_endOfNeed_37 n V x1 x2) k37)) k69 (y3, y4, y5, y6, y7, y8) = some r → lv_has ls 9 [(0, .ref (a 0)), (1, vI x1), (2, vI x2), (3, vI y3), (4, vI y4), (5, vI y5), (6, vI y6), (7, vI y7), (8, vI y8)] → W p l e rmX4_endOfNeed s m args below meth c s.heap [] 0 0 Q (F0 m 69 ls []) := by
        intro k69
        induction k69 with
        | zero => intro y3 y4 y5 y6 y7 y8 ls hf hl; exact lp_0 hf
        | succ k69 ih69 =>
          intro y3 y4 y5 y6 y7 y8 ls hf hl
          have hf := lp_s hf
          rw [bX4_endOfNeed_69_e] at hf
          refine ziload hC.1 hC.2.1 dX4_endOfNeed_69 (lv_at hl 6 rfl) <| lv_aload_n hC.1 hC.2.1 dX4_endOfNeed_71 rfl (lv_at hl 0 rfl) <| gfX4_25 hC hK hP (q0 := 0) rfl rfl dX4_endOfNeed_72 <| gfX4_81 hC hK hP (q0 := 6) rfl rfl dX4_endOfNeed_75 <| ?_
          obtain ⟨hz_9, hf⟩ := ck_some hf
          refine zicmp_ge (tgt := 116) hC.1 hC.2.1 ⟨hz_9.1, hz_9.2⟩ dX4_endOfNeed_78 (by decide) (fun hc => ?_) (fun hc => ?_)
          · have hf := it_t hf hc
            exact J116 _ _ _ _ _ _ _ hf (lv_sub hl [0, 1, 2, 3, 4, 5, 6, 7, 8] rfl)
          · have hf := it_f hf hc
            refine lv_aload_n hC.1 hC.2.1 dX4_endOfNeed_81 rfl (lv_at hl 0 rfl) <| ziload_n hC.1 hC.2.1 dX4_endOfNeed_82 rfl (lv_at hl 1 rfl) <| ziload hC.1 hC.2.1 dX4_endOfNeed_83 (lv_at hl 8 rfl) <| lv_aload_n hC.1 hC.2.1 dX4_endOfNeed_85 rfl (lv_at hl 0 rfl) <| gfX4_25 hC hK hP (q0 := 0) rfl rfl dX4_endOfNeed_86 <| gfX4_113 hC hK hP (q0 := 6) rfl rfl dX4_endOfNeed_89 <| lv_aload_n hC.1 hC.2.1 dX4_endOfNeed_92 rfl (lv_at hl 0 rfl) <| gfX4_25 hC hK hP (q0 := 0) rfl rfl dX4_endOfNeed_93 <| gfX4_83 hC hK hP (q0 := 6) rfl rfl dX4_endOfNeed_96 <| ziload hC.1 hC.2.1 dX4_endOfNeed_99 (lv_at hl 6 rfl) <| ?_
            obtain ⟨hz_16, hf⟩ := ck_some hf
            refine jal hC hK hP (q0 := 12) rfl (Nat.le_of_ble_eq_true rfl) hz_16 rfl dX4_endOfNeed_101 <| ?_
            obtain ⟨hz_17, hf⟩ := ck_some hf
            refine jal hC hK hP (q0 := 7) rfl (Nat.le_of_ble_eq_true rfl) hz_17 rfl dX4_endOfNeed_102 <| ?_
            obtain ⟨r_18, hu, hf⟩ := bd_some hf
            refine zcVP (As := [vI x1, vI y8, vI (V 10 (V 15 y6.toNat).toNat)]) (rest := []) hC hK (met_X4_aidWith l D kA a n V x1 y8 (V 10 (V 15 y6.toNat).toNat) hu) zwX4_185 hP (q0 := 0) rfl rfl rfl rfl hl.1 rfl (Nat.le_of_ble_eq_true rfl) ⟨Nat.le_of_ble_eq_true rfl, Nat.le_of_ble_eq_true rfl⟩ ⟨rfl, rfl⟩ ⟨Nat.le_refl _, Nat.le_refl _⟩ dX4_endOfNeed_103 <| ziload_n hC.1 hC.2.1 dX4_endOfNeed_106 rfl (lv_at hl 3 rfl) <| ?_
            obtain ⟨hz_19, hf⟩ := ck_some hf
            refine zicmp_ge (tgt := 116) hC.1 hC.2.1 ⟨hz_19.1, hz_19.2⟩ dX4_endOfNeed_107 (by decide) (fun hc => ?_) (fun hc => ?_)
            · have hf := it_t hf hc
              exact J116 _ _ _ _ _ _ _ hf (lv_sub hl [0, 1, 2, 3, 4, 5, 6, 7, 8] rfl)
            · have hf := it_f hf hc
              obtain ⟨x_20, ex_20⟩ : ∃ y : Int, y = y6 + 1 := ⟨_, rfl⟩
              have hf := nm_at hf ex_20
              refine ziinc (v := x_20) (lv' := [(6, vI x_20), (0, .ref (a 0)), (1, vI x1), (2, vI x2), (3, vI y3), (4, vI y4), (5, vI y5), (7, vI y7), (8, vI y8)]) hC.1 hC.2.1 dX4_endOfNeed_110 hl (k := 6) rfl ex_20 (by decide) rfl (fun ls hl => ?_)
              exact lv_goto (tgt := 69) hC.1 hC.2.1 dX4_endOfNeed_113 (by decide) <| ih69 _ _ _ _ _ _ _ hf (lv_sub hl [1, 2, 3, 4, 5, 6, 0, 7, 8] rfl)
      refine ziload hC.1 hC.2.1 dX4_endOfNeed_37 (lv_at hl 7 rfl) <| lv_aload_n hC.1 hC.2.1 dX4_endOfNeed_39 rfl (lv_at hl 0 rfl) <| gfX4_25 hC hK hP (q0 := 0) rfl rfl dX4_endOfNeed_40 <| gfX4_81 hC hK hP (q0 := 6) rfl rfl dX4_endOfNeed_43 <| ?_
      obtain ⟨hz_4, hf⟩ := ck_some hf
      refine zicmp_ge (tgt := 187) hC.1 hC.2.1 ⟨hz_4.1, hz_4.2⟩ dX4_endOfNeed_46 (by decide) (fun hc => ?_) (fun hc => ?_)
      · have hf := it_t hf hc
        refine ziload_n hC.1 hC.2.1 dX4_endOfNeed_187 rfl (lv_at hl 2 rfl) <| ?_
        obtain ⟨hz_5, hf⟩ := ck_some hf
        refine zif_eq (tgt := 196) hC.1 hC.2.1 hz_5 dX4_endOfNeed_188 (by decide) (fun hc => ?_) (fun hc => ?_)
        · have hf := it_t hf hc
          exact ziload hC.1 hC.2.1 dX4_endOfNeed_196 (lv_at hl 4 rfl) <| hret (Int32.ofInt y4) _ _ (qI hf) dX4_endOfNeed_198
        · have hf := it_f hf hc
          exact ziload hC.1 hC.2.1 dX4_endOfNeed_191 (lv_at hl 5 rfl) <| lv_goto (tgt := 198) hC.1 hC.2.1 dX4_endOfNeed_193 (by decide) <| hret (Int32.ofInt y5) _ _ (qI hf) dX4_endOfNeed_198
      · have hf := it_f hf hc
        refine lv_aload_n hC.1 hC.2.1 dX4_endOfNeed_49 rfl (lv_at hl 0 rfl) <| gfX4_25 hC hK hP (q0 := 0) rfl rfl dX4_endOfNeed_50 <| gfX4_113 hC hK hP (q0 := 6) rfl rfl dX4_endOfNeed_53 <| lv_aload_n hC.1 hC.2.1 dX4_endOfNeed_56 rfl (lv_at hl 0 rfl) <| gfX4_25 hC hK hP (q0 := 0) rfl rfl dX4_endOfNeed_57 <| gfX4_83 hC hK hP (q0 := 6) rfl rfl dX4_endOfNeed_60 <| ziload hC.1 hC.2.1 dX4_endOfNeed_63 (lv_at hl 7 rfl) <| ?_
        obtain ⟨hz_6, hf⟩ := ck_some hf
        refine jal hC hK hP (q0 := 12) rfl (Nat.le_of_ble_eq_true rfl) hz_6 rfl dX4_endOfNeed_65 <| ?_
        obtain ⟨hz_7, hf⟩ := ck_some hf
        refine jal hC hK hP (q0 := 7) rfl (Nat.le_of_ble_eq_true rfl) hz_7 rfl dX4_endOfNeed_66 <| ?_
        refine ztopi (fun x_8 ex_8 => ?_)
        have hf := nm_at hf ex_8
        refine zistore (lv' := [(8, vI x_8), (0, .ref (a 0)), (1, vI x1), (2, vI x2), (3, vI y3), (4, vI y4), (5, vI y5), (6, vI y6), (7, vI y7)]) hC.1 hC.2.1 dX4_endOfNeed_67 hl (by decide) rfl (fun ls hl => ?_)
        exact L69 n _ _ _ _ _ _ _ hf (lv_sub hl [1, 2, 3, 4, 5, 6, 7, 8, 0] rfl)
  refine lv_aload_n hC.1 hC.2.1 dX4_endOfNeed_0 rfl (lv_at hl 0 rfl) <| ziload_n hC.1 hC.2.1 dX4_endOfNeed_1 rfl (lv_at hl 1 rfl) <| ziconst hC.1 hC.2.1 dX4_endOfNeed_2 <| zsipush hC.1 hC.2.1 dX4_endOfNeed_3 (by decide) <| ?_
  obtain ⟨r_1, hu, hf⟩ := bd_some hf
  refine zcVP (As := [vI x1, vI 0, vI 9999]) (rest := []) hC hK (met_X4_aidWith l D kA a n V x1 0 9999 hu) zwX4_185 hP (q0 := 0) rfl rfl rfl rfl hl.1 rfl (Nat.le_of_ble_eq_true rfl) ⟨Nat.le_of_ble_eq_true rfl, Nat.le_of_ble_eq_true rfl⟩ ⟨rfl, rfl⟩ ⟨Nat.le_refl _, Nat.le_refl _⟩ dX4_endOfNeed_6 <| zistore_n (lv' := [(3, vI r_1), (0, .ref (a 0)), (1, vI x1), (2, vI x2)]) hC.1 hC.2.1 dX4_endOfNeed_9 rfl hl (by decide) rfl (fun ls hl => ?_)
  refine ziload_n hC.1 hC.2.1 dX4_endOfNeed_10 rfl (lv_at hl 0 rfl) <| lv_aload_n hC.1 hC.2.1 dX4_endOfNeed_11 rfl (lv_at hl 1 rfl) <| ziload_n hC.1 hC.2.1 dX4_endOfNeed_12 rfl (lv_at hl 2 rfl) <| ziconst hC.1 hC.2.1 dX4_endOfNeed_13 <| ziconst hC.1 hC.2.1 dX4_endOfNeed_14 <| ?_
  obtain ⟨r_2, hu, hf⟩ := bd_some hf
  refine zcVP (As := [vI x1, vI 2, vI (-1)]) (rest := [vI r_1]) hC hK (met_X4_sumOfDonor l D kA a n V x1 2 (-1) hu) zwX4_189 hP (q0 := 0) rfl rfl rfl rfl hl.1 rfl (Nat.le_of_ble_eq_true rfl) ⟨Nat.le_of_ble_eq_true rfl, Nat.le_of_ble_eq_true rfl⟩ ⟨rfl, rfl⟩ ⟨Nat.le_refl _, Nat.le_refl _⟩ dX4_endOfNeed_15 <| ?_
  obtain ⟨hz_3, hf⟩ := ck_some hf
  refine zicmp_ne (tgt := 23) hC.1 hC.2.1 ⟨hz_3.1, hz_3.2⟩ dX4_endOfNeed_18 (by decide) (fun hc => ?_) (fun hc => ?_)
  · have hf := it_f hf hc
    refine ziconst hC.1 hC.2.1 dX4_endOfNeed_23 <| zistore (lv' := [(4, vI 0), (3, vI r_1), (0, .ref (a 0)), (1, vI x1), (2, vI x2)]) hC.1 hC.2.1 dX4_endOfNeed_24 hl (by decide) rfl (fun ls hl => ?_)
    refine zsipush hC.1 hC.2.1 dX4_endOfNeed_26 (by decide) <| zistore (lv' := [(5, vI 9999), (4, vI 0), (3, vI r_1), (0, .ref (a 0)), (1, vI x1), (2, vI x2)]) hC.1 hC.2.1 dX4_endOfNeed_29 hl (by decide) rfl (fun ls hl => ?_)
    refine ziconst hC.1 hC.2.1 dX4_endOfNeed_31 <| zistore (lv' := [(6, vI 0), (5, vI 9999), (4, vI 0), (3, vI r_1), (0, .ref (a 0)), (1, vI x1), (2, vI x2)]) hC.1 hC.2.1 dX4_endOfNeed_32 hl (by decide) rfl (fun ls hl => ?_)
    refine ziconst hC.1 hC.2.1 dX4_endOfNeed_34 <| zistore (lv' := [(7, vI 0), (6, vI 0), (5, vI 9999), (4, vI 0), (3, vI r_1), (0, .ref (a 0)), (1, vI x1), (2, vI x2)]) hC.1 hC.2.1 dX4_endOfNeed_35 hl (by decide) rfl (fun ls hl => ?_)
    exact L37 n _ _ _ _ _ _ hf (lv_sub hl [5, 6, 7, 4, 3, 2, 1, 0] rfl)
  · have hf := it_t hf hc
    exact ziconst hC.1 hC.2.1 dX4_endOfNeed_21 <| hret (Int32.ofInt (-1)) _ _ (qI hf) dX4_endOfNeed_22
