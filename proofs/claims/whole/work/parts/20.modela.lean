def cs_X8 (kA : Nat → ClassId) (a : Nat → Nat) (V : Sz) : va_W := [(a 0, .inr (8, [.ref (a 1), .ref (a 2), .ref (a 3), .ref (a 4), .ref (a 5), vI (V 5 0), vI (V 6 0), .ref (a 6), .ref (a 7), vI (V 9 0), .ref (a 8), .ref (a 9), .ref (a 10), .ref (a 11), .ref (a 12), vI (V 15 0), vI (V 16 0), vI (V 17 0), vI (V 18 0), vI (V 19 0), vI (V 20 0), vI (V 21 0), vI (V 22 0), vI (V 23 0), vI (V 24 0), .ref (a 13), .ref (a 14), vI (V 27 0), .ref (a 15), vI (V 29 0), .ref (a 16), vI (V 31 0)])), (a 1, .inl (kA 0, 1233, .inl (aI (V 0)))), (a 2, .inl (kA 0, 1233, .inl (aI (V 1)))), (a 3, .inl (kA 0, 1233, .inl (aI (V 2)))), (a 4, .inl (kA 0, 1233, .inl (aI (V 3)))), (a 5, .inl (kA 0, 12330, .inl (aI (V 4)))), (a 6, .inl (kA 0, 60, .inl (aI (V 7)))), (a 7, .inl (kA 0, 60, .inl (aI (V 8)))), (a 8, .inl (kA 0, 60, .inl (aI (V 10)))), (a 9, .inl (kA 0, 280, .inl (aI (V 11)))), (a 10, .inl (kA 0, 180, .inl (aI (V 12)))), (a 11, .inl (kA 0, 180, .inl (aI (V 13)))), (a 12, .inl (kA 0, 900, .inl (aI (V 14)))), (a 13, .inl (kA 0, 3, .inl (aI (V 25)))), (a 14, .inl (kA 0, 180, .inl (aI (V 26)))), (a 15, .inl (kA 0, 60, .inl (aI (V 28)))), (a 16, .inl (kA 0, 1400, .inl (aI (V 30))))]
def f_X8_thrown (V : Sz) : Option (Int) := some (V 9 0)
def f_X8_inRange (x0 : Int) (x1 : Int) (x2 : Int) : Option (Bool) := ck (rng x0 ∧ rng x1) <| if x0 < x1 then (some false) else (ck (rng x2) <| if x2 < x0 then (some false) else (some true))
def f_X8_fails (V0 : Sz) (x1 : Int) (x2 : Int) : Option (Bool × Sz) := ck (rng x1) <| if x1 = 0 then (ck (x1 = 0 ∨ x1 = 1) <| some ((dZ x1), V0)) else (nm (us V0 9 x2) fun (V_3 : Sz) => ck (x1 = 0 ∨ x1 = 1) <| some ((dZ x1), V_3))
def bX8_copies_3 (n : Nat) (n0 : Nat) (n2 : Nat) (T0 : Nat → Int) (x1 : Int) (x3 : Int) (x4 : Int) (rec3 : Int × (Nat → Int) → Option ((Nat → Int))) : Int × (Nat → Int) → Option ((Nat → Int)) := fun (y5, T1) => ck (rng y5 ∧ rng x4) <| if x4 ≤ y5 then (some T1) else (ck (inZ (x1 + y5) n0) <| ck (inZ (x3 + y5) n2) <| nm (up T1 (x3 + y5).toNat (T0 (x1 + y5).toNat)) fun (T1_4 : Nat → Int) => nm (y5 + 1) fun (x_5 : Int) => rec3 (x_5, T1_4))
theorem bX8_copies_3_e (n : Nat) (n0 : Nat) (n2 : Nat) (T0 : Nat → Int) (x1 : Int) (x3 : Int) (x4 : Int) (rec3 : Int × (Nat → Int) → Option ((Nat → Int))) (y5 : Int) (T1 : Nat → Int) : bX8_copies_3 n n0 n2 T0 x1 x3 x4 rec3 (y5, T1) = (ck (rng y5 ∧ rng x4) <| if x4 ≤ y5 then (some T1) else (ck (inZ (x1 + y5) n0) <| ck (inZ (x3 + y5) n2) <| nm (up T1 (x3 + y5).toNat (T0 (x1 + y5).toNat)) fun (T1_4 : Nat → Int) => nm (y5 + 1) fun (x_5 : Int) => rec3 (x_5, T1_4))) := rfl
def f_X8_copies (n : Nat) (n0 : Nat) (n2 : Nat) (T0 : Nat → Int) (T10 : Nat → Int) (x1 : Int) (x3 : Int) (x4 : Int) : Option ((Nat → Int)) := lpF (bX8_copies_3 n n0 n2 T0 x1 x3 x4) n (0, T10)
def bX8_clear_2 (n : Nat) (rec2 : Int × Sz → Option (Sz)) : Int × Sz → Option (Sz) := fun (y1, V) => ck (rng y1) <| if 1233 ≤ y1 then (nm (uz V 0 5 25) fun (V_2 : Sz) => nm (uz V_2 0 6 1460) fun (V_3 : Sz) => nm (uz V_3 0 7 25) fun (V_4 : Sz) => some V_4) else (ck (inZ y1 1233) <| nm (uz V 0 y1.toNat 0) fun (V_6 : Sz) => nm (y1 + 1) fun (x_7 : Int) => rec2 (x_7, V_6))
theorem bX8_clear_2_e (n : Nat) (rec2 : Int × Sz → Option (Sz)) (y1 : Int) (V : Sz) : bX8_clear_2 n rec2 (y1, V) = (ck (rng y1) <| if 1233 ≤ y1 then (nm (uz V 0 5 25) fun (V_2 : Sz) => nm (uz V_2 0 6 1460) fun (V_3 : Sz) => nm (uz V_3 0 7 25) fun (V_4 : Sz) => some V_4) else (ck (inZ y1 1233) <| nm (uz V 0 y1.toNat 0) fun (V_6 : Sz) => nm (y1 + 1) fun (x_7 : Int) => rec2 (x_7, V_6))) := rfl
def f_X8_clear (n : Nat) (V0 : Sz) : Option (Sz) := lpF (bX8_clear_2 n) n (0, V0)
def bX8_copies_same_3 (n : Nat) (n0 : Nat) (x1 : Int) (x3 : Int) (x4 : Int) (rec3 : Int × (Nat → Int) → Option ((Nat → Int))) : Int × (Nat → Int) → Option ((Nat → Int)) := fun (y5, T0) => ck (rng y5 ∧ rng x4) <| if x4 ≤ y5 then (some T0) else (ck (inZ (x1 + y5) n0) <| ck (inZ (x3 + y5) n0) <| nm (up T0 (x3 + y5).toNat (T0 (x1 + y5).toNat)) fun (T0_4 : Nat → Int) => nm (y5 + 1) fun (x_5 : Int) => rec3 (x_5, T0_4))
theorem bX8_copies_same_3_e (n : Nat) (n0 : Nat) (x1 : Int) (x3 : Int) (x4 : Int) (rec3 : Int × (Nat → Int) → Option ((Nat → Int))) (y5 : Int) (T0 : Nat → Int) : bX8_copies_same_3 n n0 x1 x3 x4 rec3 (y5, T0) = (ck (rng y5 ∧ rng x4) <| if x4 ≤ y5 then (some T0) else (ck (inZ (x1 + y5) n0) <| ck (inZ (x3 + y5) n0) <| nm (up T0 (x3 + y5).toNat (T0 (x1 + y5).toNat)) fun (T0_4 : Nat → Int) => nm (y5 + 1) fun (x_5 : Int) => rec3 (x_5, T0_4))) := rfl
def f_X8_copies_same (n : Nat) (n0 : Nat) (T00 : Nat → Int) (x1 : Int) (x3 : Int) (x4 : Int) : Option ((Nat → Int)) := lpF (bX8_copies_same_3 n n0 x1 x3 x4) n (0, T00)
def jX8_remembers_37 (n : Nat) (V : Sz) : Option (Sz) := bd (f_X8_copies n 1233 12330 (V 0) (V 4) 0 (1233 * (V 5 0)) 1233) fun (V_2 : (Nat → Int)) => nm (uy V 4 V_2) fun (V_3 : Sz) => nm (us V_3 5 ((V_3 5 0) + 1)) fun (V_4 : Sz) => some V_4
def f_X8_remembers (n : Nat) (V0 : Sz) : Option (Sz) := ck (rng (V0 5 0)) <| if V0 5 0 = 10 then (bd (f_X8_copies_same n 12330 (V0 4) 1233 0 11097) fun (V_5 : (Nat → Int)) => nm (uy V0 4 V_5) fun (V_6 : Sz) => nm (us V_6 5 ((V_6 5 0) - 1)) fun (V_7 : Sz) => jX8_remembers_37 n V_7) else (jX8_remembers_37 n V0)
def f_X8_partOf (x0 : Int) (x1 : Int) : Option (Int) := some ((3 * x0) + x1)
def f_X8_giftOf (x0 : Int) : Option (Int) := ck (0 ≤ x0 ∧ x0 < 2147483648) <| some (x0 / 3)
def f_X8_isPart (V : Sz) (x1 : Int) : Option (Bool) := ck (0 ≤ x1 ∧ x1 < 2147483648) <| bd (f_X8_giftOf x1) fun (r_2 : Int) => ck (inZ (293 + r_2) 1233) <| ck (rng (x1 % 3) ∧ rng (V 0 (293 + r_2).toNat)) <| if V 0 (293 + r_2).toNat ≤ x1 % 3 then (some false) else (bd (f_X8_giftOf x1) fun (r_5 : Int) => ck (rng r_5 ∧ rng (V 0 2)) <| if V 0 2 ≤ r_5 then (some false) else (some true))
def f_X8_leftOf (V : Sz) (x1 : Int) : Option (Int) := ck (inZ (593 + x1) 1233) <| ck (inZ (773 + x1) 1233) <| some ((V 0 (593 + x1).toNat) - (V 0 (773 + x1).toNat))
def f_X8_leftOfGift (V : Sz) (x1 : Int) : Option (Int) := ck (inZ (173 + x1) 1233) <| ck (inZ (353 + x1) 1233) <| some ((V 0 (173 + x1).toNat) - (V 0 (353 + x1).toNat))
def f_X8_isSpoilt (V : Sz) (x1 : Int) : Option (Bool) := ck (inZ (233 + x1) 1233) <| ck (inZ (173 + x1) 1233) <| ck (rng ((V 0 (233 + x1).toNat) * 100) ∧ rng ((V 0 7) * (V 0 (173 + x1).toNat))) <| if (V 0 (233 + x1).toNat) * 100 ≤ (V 0 7) * (V 0 (173 + x1).toNat) then (some false) else (some true)
def jX8_isForced_52 (n : Nat) (V : Sz) (x1 : Int) (x2 : Int) (rec2 : Int → Option (Bool)) (y3 : Int) : Option (Bool) := nm (y3 + 1) fun (x_4 : Int) => rec2 x_4
def bX8_isForced_2 (n : Nat) (V : Sz) (x1 : Int) (x2 : Int) (rec2 : Int → Option (Bool)) : Int → Option (Bool) := fun y3 => ck (rng y3 ∧ rng (V 0 1)) <| if V 0 1 ≤ y3 then (some false) else (ck (inZ (20 + y3) 1233) <| ck (rng (V 0 (20 + y3).toNat) ∧ rng x1) <| if V 0 (20 + y3).toNat = x1 then (ck (inZ (51 + y3) 1233) <| ck (inZ (82 + y3) 1233) <| bd (f_X8_inRange x2 (V 0 (51 + y3).toNat) (V 0 (82 + y3).toNat)) fun (r_7 : Bool) => if r_7 = false then (jX8_isForced_52 n V x1 x2 rec2 y3) else (some true)) else (jX8_isForced_52 n V x1 x2 rec2 y3))
theorem bX8_isForced_2_e (n : Nat) (V : Sz) (x1 : Int) (x2 : Int) (rec2 : Int → Option (Bool)) (y3 : Int) : bX8_isForced_2 n V x1 x2 rec2 y3 = (ck (rng y3 ∧ rng (V 0 1)) <| if V 0 1 ≤ y3 then (some false) else (ck (inZ (20 + y3) 1233) <| ck (rng (V 0 (20 + y3).toNat) ∧ rng x1) <| if V 0 (20 + y3).toNat = x1 then (ck (inZ (51 + y3) 1233) <| ck (inZ (82 + y3) 1233) <| bd (f_X8_inRange x2 (V 0 (51 + y3).toNat) (V 0 (82 + y3).toNat)) fun (r_7 : Bool) => if r_7 = false then (jX8_isForced_52 n V x1 x2 rec2 y3) else (some true)) else (jX8_isForced_52 n V x1 x2 rec2 y3))) := rfl
def f_X8_isForced (n : Nat) (V : Sz) (x1 : Int) (x2 : Int) : Option (Bool) := lpF (bX8_isForced_2 n V x1 x2) n 0
def f_X8_dayOf (V : Sz) (x1 : Int) : Option (Int) := bd (f_X8_giftOf x1) fun (r_1 : Int) => ck (inZ (113 + r_1) 1233) <| some (V 0 (113 + r_1).toNat)
def f_X8_yearOf (V : Sz) (x1 : Int) : Option (Int) := bd (f_X8_dayOf V x1) fun (r_1 : Int) => ck (0 ≤ r_1 ∧ r_1 < 2147483648) <| some (r_1 / 365)
def f_X8_full (V : Sz) (x1 : Int) : Option (Int) := bd (f_X8_leftOf V x1) fun (r_1 : Int) => ck (0 ≤ r_1 * (V 0 5) ∧ r_1 * (V 0 5) < 2147483648) <| some ((r_1 * (V 0 5)) / 100)
def f_X8_wishOf (n : Nat) (V : Sz) (x1 : Int) : Option (Int) := bd (f_X8_giftOf x1) fun (r_1 : Int) => bd (f_X8_isSpoilt V r_1) fun (r_2 : Bool) => if r_2 = true then (some 0) else (ck (inZ (413 + x1) 1233) <| bd (f_X8_dayOf V x1) fun (r_4 : Int) => bd (f_X8_isForced n V (V 0 (413 + x1).toNat) r_4) fun (r_5 : Bool) => if r_5 = false then (some 0) else (bd (f_X8_full V x1) fun (r_6 : Int) => some r_6))
def jX8_laysOrder_66 (n : Nat) (rec2 : Int × Sz → Option (Sz)) (y1 : Int) (y2 : Int) (V : Sz) : Option (Sz) := ck (inZ y2 60) <| nm (uz V 10 y2.toNat y1) fun (V_4 : Sz) => nm (y1 + 1) fun (x_5 : Int) => rec2 (x_5, V_4)
def bX8_laysOrder_14 (n : Nat) (rec2 : Int × Sz → Option (Sz)) (rec14 : Int × Int × Sz → Option (Sz)) : Int × Int × Sz → Option (Sz) := fun (y1, y2, V) => ck (rng y2) <| if y2 ≤ 0 then (jX8_laysOrder_66 n rec2 y1 y2 V) else (ck (inZ (y2 - 1) 60) <| ck (inZ (113 + (V 10 (y2 - 1).toNat)) 1233) <| ck (inZ (113 + y1) 1233) <| ck (rng (V 0 (113 + (V 10 (y2 - 1).toNat)).toNat) ∧ rng (V 0 (113 + y1).toNat)) <| if V 0 (113 + (V 10 (y2 - 1).toNat)).toNat ≤ V 0 (113 + y1).toNat then (jX8_laysOrder_66 n rec2 y1 y2 V) else (ck (inZ y2 60) <| nm (uz V 10 y2.toNat (V 10 (y2 - 1).toNat)) fun (V_11 : Sz) => nm (y2 + (-1)) fun (x_12 : Int) => rec14 (y1, x_12, V_11)))
theorem bX8_laysOrder_14_e (n : Nat) (rec2 : Int × Sz → Option (Sz)) (rec14 : Int × Int × Sz → Option (Sz)) (y1 : Int) (y2 : Int) (V : Sz) : bX8_laysOrder_14 n rec2 rec14 (y1, y2, V) = (ck (rng y2) <| if y2 ≤ 0 then (jX8_laysOrder_66 n rec2 y1 y2 V) else (ck (inZ (y2 - 1) 60) <| ck (inZ (113 + (V 10 (y2 - 1).toNat)) 1233) <| ck (inZ (113 + y1) 1233) <| ck (rng (V 0 (113 + (V 10 (y2 - 1).toNat)).toNat) ∧ rng (V 0 (113 + y1).toNat)) <| if V 0 (113 + (V 10 (y2 - 1).toNat)).toNat ≤ V 0 (113 + y1).toNat then (jX8_laysOrder_66 n rec2 y1 y2 V) else (ck (inZ y2 60) <| nm (uz V 10 y2.toNat (V 10 (y2 - 1).toNat)) fun (V_11 : Sz) => nm (y2 + (-1)) fun (x_12 : Int) => rec14 (y1, x_12, V_11)))) := rfl
def bX8_laysOrder_2 (n : Nat) (rec2 : Int × Sz → Option (Sz)) : Int × Sz → Option (Sz) := fun (y1, V) => ck (rng y1 ∧ rng (V 0 2)) <| if V 0 2 ≤ y1 then (some V) else (lpF (bX8_laysOrder_14 n rec2) n (y1, y1, V))
theorem bX8_laysOrder_2_e (n : Nat) (rec2 : Int × Sz → Option (Sz)) (y1 : Int) (V : Sz) : bX8_laysOrder_2 n rec2 (y1, V) = (ck (rng y1 ∧ rng (V 0 2)) <| if V 0 2 ≤ y1 then (some V) else (lpF (bX8_laysOrder_14 n rec2) n (y1, y1, V))) := rfl
def f_X8_laysOrder (n : Nat) (V0 : Sz) : Option (Sz) := lpF (bX8_laysOrder_2 n) n (0, V0)
def bX8_laysAid_40 (n : Nat) (rec28 : Int × Sz → Option (Sz)) (rec40 : Int × Int × Sz → Option (Sz)) : Int × Int × Sz → Option (Sz) := fun (y1, y2, V) => ck (inZ y1 60) <| ck (inZ (293 + (V 10 y1.toNat)) 1233) <| ck (rng y2 ∧ rng (V 0 (293 + (V 10 y1.toNat)).toNat)) <| if V 0 (293 + (V 10 y1.toNat)).toNat ≤ y2 then (nm (y1 + 1) fun (x_7 : Int) => rec28 (x_7, V)) else (bd (f_X8_partOf (V 10 y1.toNat) y2) fun (r_8 : Int) => ck (inZ (413 + r_8) 1233) <| bd (f_X8_yearOf V r_8) fun (r_10 : Int) => nm ((28 * (V 0 (413 + r_8).toNat)) + r_10) fun (x_11 : Int) => bd (f_X8_wishOf n V r_8) fun (r_12 : Int) => ck (inZ r_8 180) <| nm (uz V 13 r_8.toNat r_12) fun (V_14 : Sz) => ck (inZ (10 + (V_14 0 (413 + r_8).toNat)) 1233) <| ck (inZ x_11 280) <| ck (rng (V_14 13 r_8.toNat) ∧ rng ((V_14 0 (10 + (V_14 0 (413 + r_8).toNat)).toNat) - (V_14 11 x_11.toNat))) <| ck (rng (min (V_14 13 r_8.toNat) ((V_14 0 (10 + (V_14 0 (413 + r_8).toNat)).toNat) - (V_14 11 x_11.toNat)))) <| nm (uz V_14 12 r_8.toNat (max 0 (min (V_14 13 r_8.toNat) ((V_14 0 (10 + (V_14 0 (413 + r_8).toNat)).toNat) - (V_14 11 x_11.toNat))))) fun (V_19 : Sz) => nm (uz V_19 11 x_11.toNat ((V_19 11 x_11.toNat) + (V_19 12 r_8.toNat))) fun (V_20 : Sz) => nm (y2 + 1) fun (x_21 : Int) => rec40 (y1, x_21, V_20))
theorem bX8_laysAid_40_e (n : Nat) (rec28 : Int × Sz → Option (Sz)) (rec40 : Int × Int × Sz → Option (Sz)) (y1 : Int) (y2 : Int) (V : Sz) : bX8_laysAid_40 n rec28 rec40 (y1, y2, V) = (ck (inZ y1 60) <| ck (inZ (293 + (V 10 y1.toNat)) 1233) <| ck (rng y2 ∧ rng (V 0 (293 + (V 10 y1.toNat)).toNat)) <| if V 0 (293 + (V 10 y1.toNat)).toNat ≤ y2 then (nm (y1 + 1) fun (x_7 : Int) => rec28 (x_7, V)) else (bd (f_X8_partOf (V 10 y1.toNat) y2) fun (r_8 : Int) => ck (inZ (413 + r_8) 1233) <| bd (f_X8_yearOf V r_8) fun (r_10 : Int) => nm ((28 * (V 0 (413 + r_8).toNat)) + r_10) fun (x_11 : Int) => bd (f_X8_wishOf n V r_8) fun (r_12 : Int) => ck (inZ r_8 180) <| nm (uz V 13 r_8.toNat r_12) fun (V_14 : Sz) => ck (inZ (10 + (V_14 0 (413 + r_8).toNat)) 1233) <| ck (inZ x_11 280) <| ck (rng (V_14 13 r_8.toNat) ∧ rng ((V_14 0 (10 + (V_14 0 (413 + r_8).toNat)).toNat) - (V_14 11 x_11.toNat))) <| ck (rng (min (V_14 13 r_8.toNat) ((V_14 0 (10 + (V_14 0 (413 + r_8).toNat)).toNat) - (V_14 11 x_11.toNat)))) <| nm (uz V_14 12 r_8.toNat (max 0 (min (V_14 13 r_8.toNat) ((V_14 0 (10 + (V_14 0 (413 + r_8).toNat)).toNat) - (V_14 11 x_11.toNat))))) fun (V_19 : Sz) => nm (uz V_19 11 x_11.toNat ((V_19 11 x_11.toNat) + (V_19 12 r_8.toNat))) fun (V_20 : Sz) => nm (y2 + 1) fun (x_21 : Int) => rec40 (y1, x_21, V_20))) := rfl
def bX8_laysAid_28 (n : Nat) (rec28 : Int × Sz → Option (Sz)) : Int × Sz → Option (Sz) := fun (y1, V) => ck (rng y1 ∧ rng (V 0 2)) <| if V 0 2 ≤ y1 then (some V) else (lpF (bX8_laysAid_40 n rec28) n (y1, 0, V))
theorem bX8_laysAid_28_e (n : Nat) (rec28 : Int × Sz → Option (Sz)) (y1 : Int) (V : Sz) : bX8_laysAid_28 n rec28 (y1, V) = (ck (rng y1 ∧ rng (V 0 2)) <| if V 0 2 ≤ y1 then (some V) else (lpF (bX8_laysAid_40 n rec28) n (y1, 0, V))) := rfl
def bX8_laysAid_6 (n : Nat) (rec6 : Int × Sz → Option (Sz)) : Int × Sz → Option (Sz) := fun (y1, V) => ck (rng y1) <| if 280 ≤ y1 then (lpF (bX8_laysAid_28 n) n (0, V)) else (ck (inZ y1 280) <| nm (uz V 11 y1.toNat 0) fun (V_23 : Sz) => nm (y1 + 1) fun (x_24 : Int) => rec6 (x_24, V_23))
theorem bX8_laysAid_6_e (n : Nat) (rec6 : Int × Sz → Option (Sz)) (y1 : Int) (V : Sz) : bX8_laysAid_6 n rec6 (y1, V) = (ck (rng y1) <| if 280 ≤ y1 then (lpF (bX8_laysAid_28 n) n (0, V)) else (ck (inZ y1 280) <| nm (uz V 11 y1.toNat 0) fun (V_23 : Sz) => nm (y1 + 1) fun (x_24 : Int) => rec6 (x_24, V_23))) := rfl
def f_X8_laysAid (n : Nat) (V0 : Sz) : Option (Sz) := bd (f_X8_laysOrder n V0) fun (V_1 : Sz) => lpF (bX8_laysAid_6 n) n (0, V_1)
def jX8_allAid_34 (n : Nat) (rec8 : Int × Int × Sz → Option (Int × Sz)) (y2 : Int) (V : Sz) (z0 : Int) (z1 : Int) : Option (Int × Sz) := nm (z1 + z0) fun (x_4 : Int) => nm (y2 + 1) fun (x_5 : Int) => rec8 (x_4, x_5, V)
def bX8_allAid_8 (n : Nat) (rec8 : Int × Int × Sz → Option (Int × Sz)) : Int × Int × Sz → Option (Int × Sz) := fun (y1, y2, V) => ck (rng y2) <| if 180 ≤ y2 then (some (y1, V)) else (bd (f_X8_isPart V y2) fun (r_3 : Bool) => if r_3 = false then (jX8_allAid_34 n rec8 y2 V 0 y1) else (ck (inZ y2 180) <| jX8_allAid_34 n rec8 y2 V (V 12 y2.toNat) y1))
theorem bX8_allAid_8_e (n : Nat) (rec8 : Int × Int × Sz → Option (Int × Sz)) (y1 : Int) (y2 : Int) (V : Sz) : bX8_allAid_8 n rec8 (y1, y2, V) = (ck (rng y2) <| if 180 ≤ y2 then (some (y1, V)) else (bd (f_X8_isPart V y2) fun (r_3 : Bool) => if r_3 = false then (jX8_allAid_34 n rec8 y2 V 0 y1) else (ck (inZ y2 180) <| jX8_allAid_34 n rec8 y2 V (V 12 y2.toNat) y1))) := rfl
def f_X8_allAid (n : Nat) (V0 : Sz) : Option (Int × Sz) := bd (f_X8_laysAid n V0) fun (V_1 : Sz) => lpF (bX8_allAid_8 n) n (0, 0, V_1)
def bX8_shares_114 (n : Nat) (x1 : Int) (x2 : Int) (x3 : Int) (x4 : Int) (x5 : Int) (rec114 : Int × Int × Sz → Option (Sz)) : Int × Int × Sz → Option (Sz) := fun (y7, y8, V) => ck (rng y8 ∧ rng y7) <| if y7 ≤ y8 then (ck (inZ (293 + x1) 1233) <| nm (uz V 0 (293 + x1).toNat x2) fun (V_7 : Sz) => some V_7) else (bd (f_X8_partOf x1 y8) fun (r_8 : Int) => ck (inZ (593 + r_8) 1233) <| nm (uz V 0 (593 + r_8).toNat ((V 0 (593 + r_8).toNat) + 1)) fun (V_10 : Sz) => nm (y8 + 1) fun (x_11 : Int) => rec114 (y7, x_11, V_10))
theorem bX8_shares_114_e (n : Nat) (x1 : Int) (x2 : Int) (x3 : Int) (x4 : Int) (x5 : Int) (rec114 : Int × Int × Sz → Option (Sz)) (y7 : Int) (y8 : Int) (V : Sz) : bX8_shares_114 n x1 x2 x3 x4 x5 rec114 (y7, y8, V) = (ck (rng y8 ∧ rng y7) <| if y7 ≤ y8 then (ck (inZ (293 + x1) 1233) <| nm (uz V 0 (293 + x1).toNat x2) fun (V_7 : Sz) => some V_7) else (bd (f_X8_partOf x1 y8) fun (r_8 : Int) => ck (inZ (593 + r_8) 1233) <| nm (uz V 0 (593 + r_8).toNat ((V 0 (593 + r_8).toNat) + 1)) fun (V_10 : Sz) => nm (y8 + 1) fun (x_11 : Int) => rec114 (y7, x_11, V_10))) := rfl
def jX8_shares_52 (n : Nat) (x1 : Int) (x2 : Int) (x3 : Int) (x4 : Int) (x5 : Int) (rec24 : Int × Int × Int × Sz → Option (Sz)) (y6 : Int) (y7 : Int) (y8 : Int) (V : Sz) (z0 : Int) : Option (Sz) := bd (f_X8_partOf x1 y8) fun (r_12 : Int) => ck (inZ (173 + x1) 1233) <| ck (dvI ((V 0 (173 + x1).toNat) * z0) y6) <| ck (inZ (593 + r_12) 1233) <| nm (uz V 0 (593 + r_12).toNat (((V 0 (173 + x1).toNat) * z0) / y6)) fun (V_16 : Sz) => bd (f_X8_partOf x1 y8) fun (r_17 : Int) => ck (inZ (593 + r_17) 1233) <| nm (y7 - (V_16 0 (593 + r_17).toNat)) fun (x_19 : Int) => nm (y8 + 1) fun (x_20 : Int) => rec24 (y6, x_19, x_20, V_16)
def bX8_shares_24 (n : Nat) (x1 : Int) (x2 : Int) (x3 : Int) (x4 : Int) (x5 : Int) (rec24 : Int × Int × Int × Sz → Option (Sz)) : Int × Int × Int × Sz → Option (Sz) := fun (y6, y7, y8, V) => ck (rng y8 ∧ rng x2) <| if x2 ≤ y8 then (lpF (bX8_shares_114 n x1 x2 x3 x4 x5) n (y7, 0, V)) else (if y8 = 0 then (jX8_shares_52 n x1 x2 x3 x4 x5 rec24 y6 y7 y8 V x3) else (if y8 = 1 then (jX8_shares_52 n x1 x2 x3 x4 x5 rec24 y6 y7 y8 V x4) else (jX8_shares_52 n x1 x2 x3 x4 x5 rec24 y6 y7 y8 V x5)))
theorem bX8_shares_24_e (n : Nat) (x1 : Int) (x2 : Int) (x3 : Int) (x4 : Int) (x5 : Int) (rec24 : Int × Int × Int × Sz → Option (Sz)) (y6 : Int) (y7 : Int) (y8 : Int) (V : Sz) : bX8_shares_24 n x1 x2 x3 x4 x5 rec24 (y6, y7, y8, V) = (ck (rng y8 ∧ rng x2) <| if x2 ≤ y8 then (lpF (bX8_shares_114 n x1 x2 x3 x4 x5) n (y7, 0, V)) else (if y8 = 0 then (jX8_shares_52 n x1 x2 x3 x4 x5 rec24 y6 y7 y8 V x3) else (if y8 = 1 then (jX8_shares_52 n x1 x2 x3 x4 x5 rec24 y6 y7 y8 V x4) else (jX8_shares_52 n x1 x2 x3 x4 x5 rec24 y6 y7 y8 V x5)))) := rfl
def f_X8_shares (n : Nat) (V0 : Sz) (x1 : Int) (x2 : Int) (x3 : Int) (x4 : Int) (x5 : Int) : Option (Sz) := nm ((x3 + x4) + x5) fun (x_1 : Int) => ck (inZ (173 + x1) 1233) <| nm (V0 0 (173 + x1).toNat) fun (x_3 : Int) => lpF (bX8_shares_24 n x1 x2 x3 x4 x5) n (x_1, x_3, 0, V0)
def bX8_clearsParts_2 (n : Nat) (x1 : Int) (rec2 : Int × Sz → Option (Sz)) : Int × Sz → Option (Sz) := fun (y2, V) => ck (rng y2) <| if 3 ≤ y2 then (ck (inZ (293 + x1) 1233) <| nm (uz V 0 (293 + x1).toNat 0) fun (V_3 : Sz) => ck (inZ (353 + x1) 1233) <| nm (uz V_3 0 (353 + x1).toNat 0) fun (V_5 : Sz) => some V_5) else (bd (f_X8_partOf x1 y2) fun (r_6 : Int) => ck (inZ (413 + r_6) 1233) <| nm (uz V 0 (413 + r_6).toNat 0) fun (V_8 : Sz) => ck (inZ (593 + r_6) 1233) <| nm (uz V_8 0 (593 + r_6).toNat 0) fun (V_10 : Sz) => ck (inZ (773 + r_6) 1233) <| nm (uz V_10 0 (773 + r_6).toNat 0) fun (V_12 : Sz) => ck (inZ (953 + r_6) 1233) <| nm (uz V_12 0 (953 + r_6).toNat 0) fun (V_14 : Sz) => nm (y2 + 1) fun (x_15 : Int) => rec2 (x_15, V_14))
theorem bX8_clearsParts_2_e (n : Nat) (x1 : Int) (rec2 : Int × Sz → Option (Sz)) (y2 : Int) (V : Sz) : bX8_clearsParts_2 n x1 rec2 (y2, V) = (ck (rng y2) <| if 3 ≤ y2 then (ck (inZ (293 + x1) 1233) <| nm (uz V 0 (293 + x1).toNat 0) fun (V_3 : Sz) => ck (inZ (353 + x1) 1233) <| nm (uz V_3 0 (353 + x1).toNat 0) fun (V_5 : Sz) => some V_5) else (bd (f_X8_partOf x1 y2) fun (r_6 : Int) => ck (inZ (413 + r_6) 1233) <| nm (uz V 0 (413 + r_6).toNat 0) fun (V_8 : Sz) => ck (inZ (593 + r_6) 1233) <| nm (uz V_8 0 (593 + r_6).toNat 0) fun (V_10 : Sz) => ck (inZ (773 + r_6) 1233) <| nm (uz V_10 0 (773 + r_6).toNat 0) fun (V_12 : Sz) => ck (inZ (953 + r_6) 1233) <| nm (uz V_12 0 (953 + r_6).toNat 0) fun (V_14 : Sz) => nm (y2 + 1) fun (x_15 : Int) => rec2 (x_15, V_14))) := rfl
def f_X8_clearsParts (n : Nat) (V0 : Sz) (x1 : Int) : Option (Sz) := lpF (bX8_clearsParts_2 n x1) n (0, V0)
def f_X8_declares (V0 : Sz) (x1 : Int) (x2 : Int) (x3 : Int) : Option (Sz) := nm (V0 0 1) fun (x_1 : Int) => ck (inZ (20 + x_1) 1233) <| nm (uz V0 0 (20 + x_1).toNat x1) fun (V_3 : Sz) => ck (inZ (51 + x_1) 1233) <| nm (uz V_3 0 (51 + x_1).toNat x2) fun (V_5 : Sz) => ck (inZ (82 + x_1) 1233) <| nm (uz V_5 0 (82 + x_1).toNat x3) fun (V_7 : Sz) => nm (uz V_7 0 1 ((V_7 0 1) + 1)) fun (V_8 : Sz) => some V_8
def bX8_appendWord_3 (n : Nat) (x1 : Int) (rec3 : Int × Sz → Option (Sz)) : Int × Sz → Option (Sz) := fun (y2, V) => ck (rng y2) <| if y2 < 0 then (some V) else (ck (rng x1 ∧ (y2 = 24 ∨ y2 = 16 ∨ y2 = 8 ∨ y2 = 0)) <| ck (inZ (V 15 0) 900) <| nm (uz V 14 (V 15 0).toNat ((shX x1 y2) % 256)) fun (V_4 : Sz) => nm (us V_4 15 ((V_4 15 0) + 1)) fun (V_5 : Sz) => nm (y2 + (-8)) fun (x_6 : Int) => rec3 (x_6, V_5))
theorem bX8_appendWord_3_e (n : Nat) (x1 : Int) (rec3 : Int × Sz → Option (Sz)) (y2 : Int) (V : Sz) : bX8_appendWord_3 n x1 rec3 (y2, V) = (ck (rng y2) <| if y2 < 0 then (some V) else (ck (rng x1 ∧ (y2 = 24 ∨ y2 = 16 ∨ y2 = 8 ∨ y2 = 0)) <| ck (inZ (V 15 0) 900) <| nm (uz V 14 (V 15 0).toNat ((shX x1 y2) % 256)) fun (V_4 : Sz) => nm (us V_4 15 ((V_4 15 0) + 1)) fun (V_5 : Sz) => nm (y2 + (-8)) fun (x_6 : Int) => rec3 (x_6, V_5))) := rfl
def f_X8_appendWord (n : Nat) (V0 : Sz) (x1 : Int) : Option (Sz) := lpF (bX8_appendWord_3 n x1) n (24, V0)
def f_X8_appendInput (n : Nat) (V0 : Sz) (x1 : Int) (x2 : Int) (x3 : Int) (x4 : Int) (x5 : Int) : Option (Int × Sz) := nm (us V0 9 0) fun (V_1 : Sz) => ck (rng ((V_1 15 0) + 20)) <| if (V_1 15 0) + 20 ≤ 900 then (bd (f_X8_appendWord n V_1 x1) fun (V_3 : Sz) => bd (f_X8_appendWord n V_3 x2) fun (V_4 : Sz) => bd (f_X8_appendWord n V_4 x3) fun (V_5 : Sz) => bd (f_X8_appendWord n V_5 x4) fun (V_6 : Sz) => bd (f_X8_appendWord n V_6 x5) fun (V_7 : Sz) => some (V_7 15 0, V_7)) else (some ((-1), V_1))
def f_X8_truncateInput (V0 : Sz) (x1 : Int) : Option (Bool × Sz) := nm (us V0 9 0) fun (V_1 : Sz) => bd (f_X8_inRange x1 0 (V_1 15 0)) fun (r_2 : Bool) => if r_2 = true then (nm (us V_1 15 x1) fun (V_3 : Sz) => some (true, V_3)) else (some (false, V_1))
def f_X8_byteAt (V : Sz) (x1 : Int) : Option (Int) := ck (rng x1 ∧ rng (V 15 0)) <| if V 15 0 ≤ x1 then (some (-1)) else (ck (inZ x1 900) <| some (V 14 x1.toNat))
def jX8_advanceToken_26 (n : Nat) (rec0 : Sz → Option (Sz)) (V : Sz) : Option (Sz) := nm (us V 20 ((V 20 0) + 1)) fun (V_3 : Sz) => rec0 V_3
def jX8_advanceToken_217 (n : Nat) (V : Sz) (z0 : Int) : Option (Sz) := nm (us V 23 z0) fun (V_12 : Sz) => nm (us V_12 20 ((V_12 20 0) + 1)) fun (V_13 : Sz) => some V_13
def jX8_advanceToken_192 (n : Nat) (rec137 : Sz → Option (Sz)) (V : Sz) : Option (Sz) := nm (us V 20 ((V 20 0) + 1)) fun (V_18 : Sz) => rec137 V_18
def bX8_advanceToken_137 (n : Nat) (rec137 : Sz → Option (Sz)) : Sz → Option (Sz) := fun V => bd (f_X8_byteAt V (V 20 0)) fun (r_15 : Int) => bd (f_X8_inRange r_15 48 57) fun (r_16 : Bool) => if r_16 = false then (some V) else (ck (rng ((V 20 0) - (V 21 0))) <| if 6 ≤ (V 20 0) - (V 21 0) then (jX8_advanceToken_192 n rec137 V) else (bd (f_X8_byteAt V (V 20 0)) fun (r_19 : Int) => nm (us V 22 (((10 * (V 22 0)) + r_19) - 48)) fun (V_20 : Sz) => jX8_advanceToken_192 n rec137 V_20))
theorem bX8_advanceToken_137_e (n : Nat) (rec137 : Sz → Option (Sz)) (V : Sz) : bX8_advanceToken_137 n rec137 V = (bd (f_X8_byteAt V (V 20 0)) fun (r_15 : Int) => bd (f_X8_inRange r_15 48 57) fun (r_16 : Bool) => if r_16 = false then (some V) else (ck (rng ((V 20 0) - (V 21 0))) <| if 6 ≤ (V 20 0) - (V 21 0) then (jX8_advanceToken_192 n rec137 V) else (bd (f_X8_byteAt V (V 20 0)) fun (r_19 : Int) => nm (us V 22 (((10 * (V 22 0)) + r_19) - 48)) fun (V_20 : Sz) => jX8_advanceToken_192 n rec137 V_20))) := rfl
def bX8_advanceToken_90 (n : Nat) (rec90 : Sz → Option (Sz)) : Sz → Option (Sz) := fun V => bd (f_X8_byteAt V (V 20 0)) fun (r_22 : Int) => bd (f_X8_inRange r_22 97 122) fun (r_23 : Bool) => if r_23 = false then (some V) else (nm (us V 20 ((V 20 0) + 1)) fun (V_24 : Sz) => rec90 V_24)
theorem bX8_advanceToken_90_e (n : Nat) (rec90 : Sz → Option (Sz)) (V : Sz) : bX8_advanceToken_90 n rec90 V = (bd (f_X8_byteAt V (V 20 0)) fun (r_22 : Int) => bd (f_X8_inRange r_22 97 122) fun (r_23 : Bool) => if r_23 = false then (some V) else (nm (us V 20 ((V 20 0) + 1)) fun (V_24 : Sz) => rec90 V_24)) := rfl
def bX8_advanceToken_0 (n : Nat) (rec0 : Sz → Option (Sz)) : Sz → Option (Sz) := fun V => bd (f_X8_byteAt V (V 20 0)) fun (r_1 : Int) => ck (rng r_1) <| if r_1 = 32 then (jX8_advanceToken_26 n rec0 V) else (bd (f_X8_byteAt V (V 20 0)) fun (r_4 : Int) => ck (rng r_4) <| if r_4 = 10 then (jX8_advanceToken_26 n rec0 V) else (nm (us V 21 (V 20 0)) fun (V_6 : Sz) => bd (f_X8_byteAt V_6 (V_6 20 0)) fun (r_7 : Int) => nm (us V_6 22 0) fun (V_8 : Sz) => ck (rng r_7) <| if r_7 = (-1) then (nm (us V_8 23 0) fun (V_25 : Sz) => some V_25) else (bd (f_X8_inRange r_7 97 122) fun (r_10 : Bool) => if r_10 = false then (bd (f_X8_inRange r_7 48 57) fun (r_11 : Bool) => if r_11 = false then (if r_7 = 59 then (jX8_advanceToken_217 n V_8 3) else (jX8_advanceToken_217 n V_8 4)) else (nm (us V_8 23 2) fun (V_14 : Sz) => lpF (bX8_advanceToken_137 n) n V_14)) else (nm (us V_8 23 1) fun (V_21 : Sz) => lpF (bX8_advanceToken_90 n) n V_21))))
theorem bX8_advanceToken_0_e (n : Nat) (rec0 : Sz → Option (Sz)) (V : Sz) : bX8_advanceToken_0 n rec0 V = (bd (f_X8_byteAt V (V 20 0)) fun (r_1 : Int) => ck (rng r_1) <| if r_1 = 32 then (jX8_advanceToken_26 n rec0 V) else (bd (f_X8_byteAt V (V 20 0)) fun (r_4 : Int) => ck (rng r_4) <| if r_4 = 10 then (jX8_advanceToken_26 n rec0 V) else (nm (us V 21 (V 20 0)) fun (V_6 : Sz) => bd (f_X8_byteAt V_6 (V_6 20 0)) fun (r_7 : Int) => nm (us V_6 22 0) fun (V_8 : Sz) => ck (rng r_7) <| if r_7 = (-1) then (nm (us V_8 23 0) fun (V_25 : Sz) => some V_25) else (bd (f_X8_inRange r_7 97 122) fun (r_10 : Bool) => if r_10 = false then (bd (f_X8_inRange r_7 48 57) fun (r_11 : Bool) => if r_11 = false then (if r_7 = 59 then (jX8_advanceToken_217 n V_8 3) else (jX8_advanceToken_217 n V_8 4)) else (nm (us V_8 23 2) fun (V_14 : Sz) => lpF (bX8_advanceToken_137 n) n V_14)) else (nm (us V_8 23 1) fun (V_21 : Sz) => lpF (bX8_advanceToken_90 n) n V_21))))) := rfl
def f_X8_advanceToken (n : Nat) (V0 : Sz) : Option (Sz) := lpF (bX8_advanceToken_0 n) n V0
def f_X8_tokenLength (V : Sz) : Option (Int) := some ((V 20 0) - (V 21 0))
def f_X8_failsAt (V0 : Sz) (x1 : Int) : Option (Bool × Sz) := ck (rng (V0 18 0)) <| if V0 18 0 = 0 then (nm (us V0 18 x1) fun (V_2 : Sz) => nm (us V_2 19 (V_2 21 0)) fun (V_3 : Sz) => some (false, V_3)) else (some (false, V0))
def jX8_takesInto_17 (n : Nat) (x1 : Int) (x2 : Int) (x3 : Int) (V : Sz) : Option (Bool × Sz) := bd (f_X8_failsAt V 1) fun ((r_2, V_3) : Bool × Sz) => some (r_2, V_3)
def f_X8_takesInto (n : Nat) (V0 : Sz) (x1 : Int) (x2 : Int) (x3 : Int) : Option (Bool × Sz) := ck (rng (V0 23 0)) <| if V0 23 0 = 2 then (bd (f_X8_tokenLength V0) fun (r_4 : Int) => ck (rng r_4) <| if r_4 ≤ 6 then (bd (f_X8_inRange (V0 22 0) x2 x3) fun (r_6 : Bool) => if r_6 = true then (ck (inZ x1 1233) <| nm (uz V0 0 x1.toNat (V0 22 0)) fun (V_8 : Sz) => bd (f_X8_advanceToken n V_8) fun (V_9 : Sz) => some (true, V_9)) else (bd (f_X8_failsAt V0 2) fun ((r_10, V_11) : Bool × Sz) => some (r_10, V_11))) else (jX8_takesInto_17 n x1 x2 x3 V0)) else (jX8_takesInto_17 n x1 x2 x3 V0)
def f_X8_starts (n : Nat) (V0 : Sz) (x1 : Int) : Option (Bool × Sz) := ck (rng x1) <| if x1 = 0 then (bd (f_X8_failsAt V0 4) fun ((r_3, V_4) : Bool × Sz) => some (r_3, V_4)) else (bd (f_X8_advanceToken n V0) fun (V_2 : Sz) => some (true, V_2))
def f_X8_letterHere (V : Sz) (x1 : Int) : Option (Int) := bd (f_X8_tokenLength V) fun (r_1 : Int) => ck (rng x1 ∧ rng r_1) <| if r_1 ≤ x1 then (some 0) else (ck (inZ ((V 21 0) + x1) 900) <| some (V 14 ((V 21 0) + x1).toNat))
def jX8_find_57 (n : Nat) (V : Sz) (rec2 : Int → Option (Int)) (y1 : Int) (y2 : Int) : Option (Int) := ck (rng y2) <| if y2 = 0 then (nm (y1 + 1) fun (x_4 : Int) => rec2 x_4) else (some y1)
def jX8_find_50 (n : Nat) (V : Sz) (rec2 : Int → Option (Int)) (rec16 : Int × Int × Int → Option (Int)) (y1 : Int) (y3 : Int) (z0 : Int) : Option (Int) := nm (y3 + 1) fun (x_9 : Int) => rec16 (y1, z0, x_9)
def bX8_find_16 (n : Nat) (V : Sz) (rec2 : Int → Option (Int)) (rec16 : Int × Int × Int → Option (Int)) : Int × Int × Int → Option (Int) := fun (y1, y2, y3) => ck (rng y3) <| if 6 ≤ y3 then (jX8_find_57 n V rec2 y1 y2) else (ck (rng y2) <| if y2 = 0 then (jX8_find_57 n V rec2 y1 y2) else (ck (inZ ((6 * y1) + y3) 60) <| bd (f_X8_letterHere V y3) fun (r_7 : Int) => ck (rng (V 7 ((6 * y1) + y3).toNat) ∧ rng r_7) <| if V 7 ((6 * y1) + y3).toNat = r_7 then (jX8_find_50 n V rec2 rec16 y1 y3 1) else (jX8_find_50 n V rec2 rec16 y1 y3 0)))
theorem bX8_find_16_e (n : Nat) (V : Sz) (rec2 : Int → Option (Int)) (rec16 : Int × Int × Int → Option (Int)) (y1 : Int) (y2 : Int) (y3 : Int) : bX8_find_16 n V rec2 rec16 (y1, y2, y3) = (ck (rng y3) <| if 6 ≤ y3 then (jX8_find_57 n V rec2 y1 y2) else (ck (rng y2) <| if y2 = 0 then (jX8_find_57 n V rec2 y1 y2) else (ck (inZ ((6 * y1) + y3) 60) <| bd (f_X8_letterHere V y3) fun (r_7 : Int) => ck (rng (V 7 ((6 * y1) + y3).toNat) ∧ rng r_7) <| if V 7 ((6 * y1) + y3).toNat = r_7 then (jX8_find_50 n V rec2 rec16 y1 y3 1) else (jX8_find_50 n V rec2 rec16 y1 y3 0)))) := rfl
def bX8_find_2 (n : Nat) (V : Sz) (rec2 : Int → Option (Int)) : Int → Option (Int) := fun y1 => ck (rng y1 ∧ rng (V 0 0)) <| if V 0 0 ≤ y1 then (some (-1)) else (lpF (bX8_find_16 n V rec2) n (y1, 1, 0))
theorem bX8_find_2_e (n : Nat) (V : Sz) (rec2 : Int → Option (Int)) (y1 : Int) : bX8_find_2 n V rec2 y1 = (ck (rng y1 ∧ rng (V 0 0)) <| if V 0 0 ≤ y1 then (some (-1)) else (lpF (bX8_find_16 n V rec2) n (y1, 1, 0))) := rfl
def f_X8_find (n : Nat) (V : Sz) : Option (Int) := lpF (bX8_find_2 n V) n 0
def jX8_readMoney_19 (n : Nat) (y1 : Int) (V : Sz) (z0 : Int) : Option (Bool × Sz) := bd (f_X8_starts n V z0) fun ((r_3, V_4) : Bool × Sz) => if r_3 = true then (bd (f_X8_clearsParts n V_4 y1) fun (V_5 : Sz) => bd (f_X8_takesInto n V_5 (113 + y1) 0 9999) fun ((r_6, V_7) : Bool × Sz) => if r_6 = false then (some (false, V_7)) else (bd (f_X8_takesInto n V_7 (173 + y1) 1 999999) fun ((r_8, V_9) : Bool × Sz) => if r_8 = false then (some (false, V_9)) else (bd (f_X8_takesInto n V_9 (233 + y1) 0 999999) fun ((r_10, V_11) : Bool × Sz) => if r_10 = false then (some (false, V_11)) else (some (true, V_11))))) else (some (false, V_4))
def f_X8_readMoney (n : Nat) (V0 : Sz) : Option (Bool × Sz) := nm (V0 0 2) fun (x_1 : Int) => ck (rng x_1) <| if 60 ≤ x_1 then (jX8_readMoney_19 n x_1 V0 0) else (jX8_readMoney_19 n x_1 V0 1)
def f_X8_readCash (n : Nat) (V0 : Sz) : Option (Bool × Sz) := bd (f_X8_readMoney n V0) fun ((r_1, V_2) : Bool × Sz) => if r_1 = true then (nm (uz V_2 0 2 ((V_2 0 2) + 1)) fun (V_3 : Sz) => some (true, V_3)) else (some (false, V_2))
def jX8_readRules_21 (n : Nat) (V : Sz) (z0 : Int) : Option (Bool × Sz) := nm (us V 24 1) fun (V_2 : Sz) => bd (f_X8_starts n V_2 z0) fun ((r_3, V_4) : Bool × Sz) => if r_3 = false then (some (false, V_4)) else (bd (f_X8_takesInto n V_4 5 0 100) fun ((r_5, V_6) : Bool × Sz) => if r_5 = false then (some (false, V_6)) else (bd (f_X8_takesInto n V_6 6 0 9999) fun ((r_7, V_8) : Bool × Sz) => if r_7 = false then (some (false, V_8)) else (bd (f_X8_takesInto n V_8 7 0 100) fun ((r_9, V_10) : Bool × Sz) => if r_9 = false then (some (false, V_10)) else (some (true, V_10)))))
def jX8_readRules_20 (n : Nat) (V : Sz) : Option (Bool × Sz) := jX8_readRules_21 n V 0
def f_X8_readRules (n : Nat) (V0 : Sz) : Option (Bool × Sz) := ck (rng (V0 24 0)) <| if V0 24 0 = 0 then (ck (rng (V0 0 2)) <| if V0 0 2 = 0 then (jX8_readRules_21 n V0 1) else (jX8_readRules_20 n V0)) else (jX8_readRules_20 n V0)
def f_X8_errorCode (V0 : Sz) : Option (Int × Sz) := nm (us V0 9 0) fun (V_1 : Sz) => some (V_1 16 0, V_1)
def f_X8_errorOffset (V0 : Sz) : Option (Int × Sz) := nm (us V0 9 0) fun (V_1 : Sz) => some (V_1 17 0, V_1)
def jX8_noDonor_27 (x1 : Int) (V : Sz) (z0 : Int) : Option (Bool × Sz) := bd (f_X8_fails V z0 1) fun ((r_3, V_4) : Bool × Sz) => some (r_3, V_4)
def f_X8_noDonor (V0 : Sz) (x1 : Int) : Option (Bool × Sz) := nm (us V0 9 0) fun (V_1 : Sz) => bd (f_X8_inRange x1 0 ((V_1 0 0) - 1)) fun (r_2 : Bool) => if r_2 = true then (jX8_noDonor_27 x1 V_1 0) else (jX8_noDonor_27 x1 V_1 1)
theorem DX8_thrown_0 : ∀ q ∈ ([(0, .aload_n 0, 1), (1, .getfield 65, 3), (4, .ireturn, 1)] : List (Nat × Instr × Nat)), decode cX8_thrown q.1 = .ok q.2 := by decide +kernel
theorem dX8_thrown_0 : decode cX8_thrown 0 = .ok (.aload_n 0, 1) := DX8_thrown_0 (0, .aload_n 0, 1) (List.mem_of_getElem? (i := 0) rfl)
theorem dX8_thrown_1 : decode cX8_thrown 1 = .ok (.getfield 65, 3) := DX8_thrown_0 (1, .getfield 65, 3) (List.mem_of_getElem? (i := 1) rfl)
theorem dX8_thrown_4 : decode cX8_thrown 4 = .ok (.ireturn, 1) := DX8_thrown_0 (4, .ireturn, 1) (List.mem_of_getElem? (i := 2) rfl)
abbrev rmX8_thrown : Room := { frames := 0, cells := 0, slots := 0, locals := 0 }
set_option maxHeartbeats 400000 in
set_option maxRecDepth 100000 in
theorem met_X8_thrown (l : Launch) (D : va_G) (kA : Nat → ClassId) (a : Nat → Nat) (V : Sz) {r : Int} (hf : f_X8_thrown V = some r) : MP l yX8_thrown cX8_thrown 1 (some .int) rmX8_thrown D kA [.ref (a 0)] (cs_X8 kA a V) (some (vI r)) := by
  refine zPI (own := RX8) rfl rfl (Nat.le_of_ble_eq_true rfl) ?_
  intro p e s m args below meth c ls Q hC hK hP hl hret
  have hl : lv_has ls 1 [(0, .ref (a 0))] := hl
  unfold f_X8_thrown at hf
  exact lv_aload_n hC.1 hC.2.1 dX8_thrown_0 rfl (lv_at hl 0 rfl) <| gfX8_65 hC hK hP (q0 := 0) rfl rfl dX8_thrown_1 <| hret (Int32.ofInt (V 9 0)) _ _ (qI hf) dX8_thrown_4
theorem DX8_inRange_0 : ∀ q ∈ ([(0, .iload_n 0, 1), (1, .iload_n 1, 1), (2, .if_icmp .lt 12, 3), (5, .iload_n 0, 1), (6, .iload_n 2, 1), (7, .if_icmp .gt 7, 3), (10, .iconst 1, 1), (11, .goto 4, 3), (14, .iconst 0, 1), (15, .ireturn, 1)] : List (Nat × Instr × Nat)), decode cX8_inRange q.1 = .ok q.2 := by decide +kernel
theorem dX8_inRange_0 : decode cX8_inRange 0 = .ok (.iload_n 0, 1) := DX8_inRange_0 (0, .iload_n 0, 1) (List.mem_of_getElem? (i := 0) rfl)
theorem dX8_inRange_1 : decode cX8_inRange 1 = .ok (.iload_n 1, 1) := DX8_inRange_0 (1, .iload_n 1, 1) (List.mem_of_getElem? (i := 1) rfl)
theorem dX8_inRange_2 : decode cX8_inRange 2 = .ok (.if_icmp .lt 12, 3) := DX8_inRange_0 (2, .if_icmp .lt 12, 3) (List.mem_of_getElem? (i := 2) rfl)
theorem dX8_inRange_5 : decode cX8_inRange 5 = .ok (.iload_n 0, 1) := DX8_inRange_0 (5, .iload_n 0, 1) (List.mem_of_getElem? (i := 3) rfl)
theorem dX8_inRange_6 : decode cX8_inRange 6 = .ok (.iload_n 2, 1) := DX8_inRange_0 (6, .iload_n 2, 1) (List.mem_of_getElem? (i := 4) rfl)
theorem dX8_inRange_7 : decode cX8_inRange 7 = .ok (.if_icmp .gt 7, 3) := DX8_inRange_0 (7, .if_icmp .gt 7, 3) (List.mem_of_getElem? (i := 5) rfl)
theorem dX8_inRange_10 : decode cX8_inRange 10 = .ok (.iconst 1, 1) := DX8_inRange_0 (10, .iconst 1, 1) (List.mem_of_getElem? (i := 6) rfl)
theorem dX8_inRange_11 : decode cX8_inRange 11 = .ok (.goto 4, 3) := DX8_inRange_0 (11, .goto 4, 3) (List.mem_of_getElem? (i := 7) rfl)
theorem dX8_inRange_14 : decode cX8_inRange 14 = .ok (.iconst 0, 1) := DX8_inRange_0 (14, .iconst 0, 1) (List.mem_of_getElem? (i := 8) rfl)
theorem dX8_inRange_15 : decode cX8_inRange 15 = .ok (.ireturn, 1) := DX8_inRange_0 (15, .ireturn, 1) (List.mem_of_getElem? (i := 9) rfl)
abbrev rmX8_inRange : Room := { frames := 0, cells := 0, slots := 0, locals := 0 }
set_option maxHeartbeats 400000 in
set_option maxRecDepth 100000 in
theorem met_X8_inRange (l : Launch) (D : va_G) (kA : Nat → ClassId)  (x0 : Int) (x1 : Int) (x2 : Int) {r : Bool} (hf : f_X8_inRange x0 x1 x2 = some r) : MP l yX8_inRange cX8_inRange 3 (some .boolean) rmX8_inRange D kA [vI x0, vI x1, vI x2] ([] : va_W) (some (vI (bI r))) := by
  refine zPZ (own := RX8) rfl rfl (Nat.le_of_ble_eq_true rfl) ?_
  intro p e s m args below meth c ls Q hC hK hP hl hret
  have hl : lv_has ls 3 [(0, vI x0), (1, vI x1), (2, vI x2)] := hl
  unfold f_X8_inRange at hf
  refine ziload_n hC.1 hC.2.1 dX8_inRange_0 rfl (lv_at hl 0 rfl) <| ziload_n hC.1 hC.2.1 dX8_inRange_1 rfl (lv_at hl 1 rfl) <| ?_
  obtain ⟨hz_1, hf⟩ := ck_some hf
  refine zicmp_lt (tgt := 14) hC.1 hC.2.1 ⟨hz_1.1, hz_1.2⟩ dX8_inRange_2 (by decide) (fun hc => ?_) (fun hc => ?_)
  · have hf := it_t hf hc
    exact ziconst hC.1 hC.2.1 dX8_inRange_14 <| hret (Int32.ofInt (bI false)) _ _ (zb01 _) (qZ hf) dX8_inRange_15
  · have hf := it_f hf hc
    refine ziload_n hC.1 hC.2.1 dX8_inRange_5 rfl (lv_at hl 0 rfl) <| ziload_n hC.1 hC.2.1 dX8_inRange_6 rfl (lv_at hl 2 rfl) <| ?_
    obtain ⟨hz_2, hf⟩ := ck_some hf
    refine zicmp_gt (tgt := 14) hC.1 hC.2.1 ⟨hz_1.1, hz_2⟩ dX8_inRange_7 (by decide) (fun hc => ?_) (fun hc => ?_)
    · have hf := it_t hf hc
      exact ziconst hC.1 hC.2.1 dX8_inRange_14 <| hret (Int32.ofInt (bI false)) _ _ (zb01 _) (qZ hf) dX8_inRange_15
    · have hf := it_f hf hc
      exact ziconst hC.1 hC.2.1 dX8_inRange_10 <| lv_goto (tgt := 15) hC.1 hC.2.1 dX8_inRange_11 (by decide) <| hret (Int32.ofInt (bI true)) _ _ (zb01 _) (qZ hf) dX8_inRange_15
theorem DX8_fails_0 : ∀ q ∈ ([(0, .iload_n 1, 1), (1, .ifCond .eq 8, 3), (4, .aload_n 0, 1), (5, .iload_n 2, 1), (6, .putfield 65, 3), (9, .iload_n 1, 1), (10, .ireturn, 1)] : List (Nat × Instr × Nat)), decode cX8_fails q.1 = .ok q.2 := by decide +kernel
theorem dX8_fails_0 : decode cX8_fails 0 = .ok (.iload_n 1, 1) := DX8_fails_0 (0, .iload_n 1, 1) (List.mem_of_getElem? (i := 0) rfl)
theorem dX8_fails_1 : decode cX8_fails 1 = .ok (.ifCond .eq 8, 3) := DX8_fails_0 (1, .ifCond .eq 8, 3) (List.mem_of_getElem? (i := 1) rfl)
theorem dX8_fails_4 : decode cX8_fails 4 = .ok (.aload_n 0, 1) := DX8_fails_0 (4, .aload_n 0, 1) (List.mem_of_getElem? (i := 2) rfl)
theorem dX8_fails_5 : decode cX8_fails 5 = .ok (.iload_n 2, 1) := DX8_fails_0 (5, .iload_n 2, 1) (List.mem_of_getElem? (i := 3) rfl)
theorem dX8_fails_6 : decode cX8_fails 6 = .ok (.putfield 65, 3) := DX8_fails_0 (6, .putfield 65, 3) (List.mem_of_getElem? (i := 4) rfl)
theorem dX8_fails_9 : decode cX8_fails 9 = .ok (.iload_n 1, 1) := DX8_fails_0 (9, .iload_n 1, 1) (List.mem_of_getElem? (i := 5) rfl)
theorem dX8_fails_10 : decode cX8_fails 10 = .ok (.ireturn, 1) := DX8_fails_0 (10, .ireturn, 1) (List.mem_of_getElem? (i := 6) rfl)
abbrev rmX8_fails : Room := { frames := 0, cells := 0, slots := 0, locals := 0 }
set_option maxHeartbeats 400000 in
set_option maxRecDepth 100000 in
theorem met_X8_fails (l : Launch) (D : va_G) (kA : Nat → ClassId) (a : Nat → Nat) (V0 : Sz) (x1 : Int) (x2 : Int) (hDt : ∀ w : Sz, va_D (fun _ => True) (cs_X8 kA a w)) {r : Bool} {Vr : Sz} (hf : f_X8_fails V0 x1 x2 = some (r, Vr)) : MZ l yX8_fails cX8_fails 3 (some .boolean) rmX8_fails D kA [.ref (a 0), vI x1, vI x2] (cs_X8 kA a V0) (cs_X8 kA a Vr) (some (vI (bI r))) := by
  refine zZZ (own := RX8) rfl rfl (Nat.le_of_ble_eq_true rfl) ?_
  intro p e s m args below meth c ls Q hC hK hP hl hret
  have hl : lv_has ls 3 [(0, .ref (a 0)), (1, vI x1), (2, vI x2)] := hl
  have hS : va_S (zF (cs_X8 kA a V0)) s.heap s.heap [] := va_S.rf
  have hD := zDself (C := fun w : Sz => (cs_X8 kA a w)) hDt V0 (fun _ => rfl)
  try dsimp only at hD
  generalize hAe : zF (cs_X8 kA a V0) = A0 at hS hD hret
  unfold f_X8_fails at hf
  refine ziload_n hC.1 hC.2.1 dX8_fails_0 rfl (lv_at hl 1 rfl) <| ?_
  obtain ⟨hz_1, hf⟩ := ck_some hf
  refine zif_eq (tgt := 9) hC.1 hC.2.1 hz_1 dX8_fails_1 (by decide) (fun hc => ?_) (fun hc => ?_)
  · have hf := it_t hf hc
    refine ziload_n hC.1 hC.2.1 dX8_fails_9 rfl (lv_at hl 1 rfl) <| ?_
    obtain ⟨hz_2, hf⟩ := ck_some hf
    refine ztopz hz_2 <| ?_
    have hf := Option.some.inj hf
    simp only [Prod.mk.injEq] at hf
    exact hret (Int32.ofInt (bI (dZ x1))) _ _ _ _ (zb01 _) (congrArg (fun z => some (vI (bI z))) hf.1.symm) (by rw [← hf.2]; exact hP) hS dX8_fails_10
  · have hf := it_f hf hc
    refine lv_aload_n hC.1 hC.2.1 dX8_fails_4 rfl (lv_at hl 0 rfl) <| ziload_n hC.1 hC.2.1 dX8_fails_5 rfl (lv_at hl 2 rfl) <| ?_
    refine pfX8_65 hC hK hP (hD V0) hS (q0 := 0) rfl (Nat.le_of_ble_eq_true rfl) dX8_fails_6 (fun H locs hP hS => ?_)
    obtain ⟨V_3, eV_3⟩ : ∃ y, y = us V0 9 x2 := ⟨_, rfl⟩
    have hf := nm_at hf eV_3
    have hP : va_P D vwCl (cs_X8 kA a V_3) H := by rw [eV_3]; exact hP
    refine ziload_n hC.1 hC.2.1 dX8_fails_9 rfl (lv_at hl 1 rfl) <| ?_
    obtain ⟨hz_4, hf⟩ := ck_some hf
    refine ztopz hz_4 <| ?_
    have hf := Option.some.inj hf
    simp only [Prod.mk.injEq] at hf
    exact hret (Int32.ofInt (bI (dZ x1))) _ _ _ _ (zb01 _) (congrArg (fun z => some (vI (bI z))) hf.1.symm) (by rw [← hf.2]; exact hP) hS dX8_fails_10
theorem DX8_copies_0 : ∀ q ∈ ([(0, .iconst 0, 1), (1, .istore 5, 2), (3, .iload 5, 2), (5, .iload 4, 2), (7, .if_icmp .ge 21, 3), (10, .aload_n 2, 1), (11, .iload_n 3, 1), (12, .iload 5, 2), (14, .iadd, 1), (15, .aload_n 0, 1), (16, .iload_n 1, 1), (17, .iload 5, 2), (19, .iadd, 1), (20, .iaload, 1), (21, .iastore, 1), (22, .iinc 5 1, 3), (25, .goto (-22), 3), (28, .return_, 1)] : List (Nat × Instr × Nat)), decode cX8_copies q.1 = .ok q.2 := by decide +kernel
theorem dX8_copies_0 : decode cX8_copies 0 = .ok (.iconst 0, 1) := DX8_copies_0 (0, .iconst 0, 1) (List.mem_of_getElem? (i := 0) rfl)
theorem dX8_copies_1 : decode cX8_copies 1 = .ok (.istore 5, 2) := DX8_copies_0 (1, .istore 5, 2) (List.mem_of_getElem? (i := 1) rfl)
theorem dX8_copies_3 : decode cX8_copies 3 = .ok (.iload 5, 2) := DX8_copies_0 (3, .iload 5, 2) (List.mem_of_getElem? (i := 2) rfl)
theorem dX8_copies_5 : decode cX8_copies 5 = .ok (.iload 4, 2) := DX8_copies_0 (5, .iload 4, 2) (List.mem_of_getElem? (i := 3) rfl)
theorem dX8_copies_7 : decode cX8_copies 7 = .ok (.if_icmp .ge 21, 3) := DX8_copies_0 (7, .if_icmp .ge 21, 3) (List.mem_of_getElem? (i := 4) rfl)
theorem dX8_copies_10 : decode cX8_copies 10 = .ok (.aload_n 2, 1) := DX8_copies_0 (10, .aload_n 2, 1) (List.mem_of_getElem? (i := 5) rfl)
theorem dX8_copies_11 : decode cX8_copies 11 = .ok (.iload_n 3, 1) := DX8_copies_0 (11, .iload_n 3, 1) (List.mem_of_getElem? (i := 6) rfl)
theorem dX8_copies_12 : decode cX8_copies 12 = .ok (.iload 5, 2) := DX8_copies_0 (12, .iload 5, 2) (List.mem_of_getElem? (i := 7) rfl)
theorem dX8_copies_14 : decode cX8_copies 14 = .ok (.iadd, 1) := DX8_copies_0 (14, .iadd, 1) (List.mem_of_getElem? (i := 8) rfl)
theorem dX8_copies_15 : decode cX8_copies 15 = .ok (.aload_n 0, 1) := DX8_copies_0 (15, .aload_n 0, 1) (List.mem_of_getElem? (i := 9) rfl)
theorem dX8_copies_16 : decode cX8_copies 16 = .ok (.iload_n 1, 1) := DX8_copies_0 (16, .iload_n 1, 1) (List.mem_of_getElem? (i := 10) rfl)
theorem dX8_copies_17 : decode cX8_copies 17 = .ok (.iload 5, 2) := DX8_copies_0 (17, .iload 5, 2) (List.mem_of_getElem? (i := 11) rfl)
theorem dX8_copies_19 : decode cX8_copies 19 = .ok (.iadd, 1) := DX8_copies_0 (19, .iadd, 1) (List.mem_of_getElem? (i := 12) rfl)
theorem dX8_copies_20 : decode cX8_copies 20 = .ok (.iaload, 1) := DX8_copies_0 (20, .iaload, 1) (List.mem_of_getElem? (i := 13) rfl)
theorem dX8_copies_21 : decode cX8_copies 21 = .ok (.iastore, 1) := DX8_copies_0 (21, .iastore, 1) (List.mem_of_getElem? (i := 14) rfl)
theorem dX8_copies_22 : decode cX8_copies 22 = .ok (.iinc 5 1, 3) := DX8_copies_0 (22, .iinc 5 1, 3) (List.mem_of_getElem? (i := 15) rfl)
theorem dX8_copies_25 : decode cX8_copies 25 = .ok (.goto (-22), 3) := DX8_copies_0 (25, .goto (-22), 3) (List.mem_of_getElem? (i := 16) rfl)
theorem dX8_copies_28 : decode cX8_copies 28 = .ok (.return_, 1) := DX8_copies_0 (28, .return_, 1) (List.mem_of_getElem? (i := 17) rfl)
abbrev rmX8_copies : Room := { frames := 0, cells := 0, slots := 0, locals := 0 }
set_option maxHeartbeats 400000 in
set_option maxRecDepth 100000 in
theorem met_X8_copies (l : Launch) (D : va_G) (kA : Nat → ClassId) (a : Nat) (b : Nat) (n : Nat) (n0 : Nat) (n2 : Nat) (T0 : Nat → Int) (T10 : Nat → Int) (x1 : Int) (x3 : Int) (x4 : Int) (hn0 : n0 ≤ 2147483648) (hn2 : n2 ≤ 2147483648) (hDt : ∀ w : (Nat → Int), va_D (fun _ => True) ([(a, .inl (kA 0, n0, .inl (aI T0)))] ++ ([(b, .inl (kA 0, n2, .inl (aI w)))]))) {T1r : (Nat → Int)} (hf : f_X8_copies n n0 n2 T0 T10 x1 x3 x4 = some T1r) : MZ l yX8_copies cX8_copies 6 none rmX8_copies D kA [.ref (a), vI x1, .ref (b), vI x3, vI x4] ([(a, .inl (kA 0, n0, .inl (aI T0)))] ++ ([(b, .inl (kA 0, n2, .inl (aI T10)))])) ([(a, .inl (kA 0, n0, .inl (aI T0)))] ++ ([(b, .inl (kA 0, n2, .inl (aI T1r)))])) (none) := by
  refine zZV (own := RX8) rfl rfl (Nat.le_of_ble_eq_true rfl) ?_
  intro p e s m args below meth c ls Q hC hK hP hl hret
  have hl : lv_has ls 6 [(0, .ref (a)), (1, vI x1), (2, .ref (b)), (3, vI x3), (4, vI x4)] := hl
  have hS : va_S (zF ([(a, .inl (kA 0, n0, .inl (aI T0)))] ++ ([(b, .inl (kA 0, n2, .inl (aI T10)))]))) s.heap s.heap [] := va_S.rf
  have hD := zDself (C := fun w : (Nat → Int) => ([(a, .inl (kA 0, n0, .inl (aI T0)))] ++ ([(b, .inl (kA 0, n2, .inl (aI w)))]))) hDt T10 (fun _ => rfl)
  try dsimp only at hD
  generalize hAe : zF ([(a, .inl (kA 0, n0, .inl (aI T0)))] ++ ([(b, .inl (kA 0, n2, .inl (aI T10)))])) = A0 at hS hD hret
  unfold f_X8_copies at hf
  have L3 : ∀ (k3 : Nat) (y5 : Int) (T1 : Nat → Int) (H : Heap) (locs : List Loc) (ls : Array Slot), lpF (bX8_copies_3 n n0 n2 T0 x1 x3 x4) k3 (y5, T1) = some T1r → va_P D vwCl ([(a, .inl (kA 0, n0, .inl (aI T0)))] ++ ([(b, .inl (kA 0, n2, .inl (aI T1)))])) H → va_S A0 s.heap H locs → lv_has ls 6 [(0, .ref (a)), (1, vI x1), (2, .ref (b)), (3, vI x3), (4, vI x4), (5, vI y5)] → W p l e rmX8_copies s m args below meth c H locs 0 0 Q (F0 m 3 ls []) := by
    intro k3
    induction k3 with
    | zero => intro y5 T1 H locs ls hf hP hS hl; exact lp_0 hf
    | succ k3 ih3 =>
      intro y5 T1 H locs ls hf hP hS hl
      have hf := lp_s hf
      rw [bX8_copies_3_e] at hf
      refine ziload hC.1 hC.2.1 dX8_copies_3 (lv_at hl 5 rfl) <| ziload hC.1 hC.2.1 dX8_copies_5 (lv_at hl 4 rfl) <| ?_
      obtain ⟨hz_1, hf⟩ := ck_some hf
      refine zicmp_ge (tgt := 28) hC.1 hC.2.1 ⟨hz_1.1, hz_1.2⟩ dX8_copies_7 (by decide) (fun hc => ?_) (fun hc => ?_)
      · have hf := it_t hf hc
        have hf := Option.some.inj hf
        exact hret _ _ _ _ rfl (by rw [← hf]; exact hP) hS dX8_copies_28
      · have hf := it_f hf hc
        refine lv_aload_n hC.1 hC.2.1 dX8_copies_10 rfl (lv_at hl 2 rfl) <| ziload_n hC.1 hC.2.1 dX8_copies_11 rfl (lv_at hl 3 rfl) <| ziload hC.1 hC.2.1 dX8_copies_12 (lv_at hl 5 rfl) <| ziadd hC.1 hC.2.1 dX8_copies_14 <| lv_aload_n hC.1 hC.2.1 dX8_copies_15 rfl (lv_at hl 0 rfl) <| ziload_n hC.1 hC.2.1 dX8_copies_16 rfl (lv_at hl 1 rfl) <| ziload hC.1 hC.2.1 dX8_copies_17 (lv_at hl 5 rfl) <| ziadd hC.1 hC.2.1 dX8_copies_19 <| ?_
        obtain ⟨hz_2, hf⟩ := ck_some hf
        refine jal hC hK hP (q0 := 0) rfl hn0 hz_2 rfl dX8_copies_20 <| ?_
        obtain ⟨hz_3, hf⟩ := ck_some hf
        refine jas hC hK hP (hD T1) hS (q0 := 1) rfl hn2 hz_3 rfl dX8_copies_21 (fun H locs hP hS => ?_)
        obtain ⟨T1_4, eT1_4⟩ : ∃ y, y = up T1 (x3 + y5).toNat (T0 (x1 + y5).toNat) := ⟨_, rfl⟩
        have hf := nm_at hf eT1_4
        have hP : va_P D vwCl ([(a, .inl (kA 0, n0, .inl (aI T0)))] ++ ([(b, .inl (kA 0, n2, .inl (aI T1_4)))])) H := by rw [eT1_4]; exact hP
        obtain ⟨x_5, ex_5⟩ : ∃ y : Int, y = y5 + 1 := ⟨_, rfl⟩
        have hf := nm_at hf ex_5
        refine ziinc (v := x_5) (lv' := [(5, vI x_5), (0, .ref (a)), (1, vI x1), (2, .ref (b)), (3, vI x3), (4, vI x4)]) hC.1 hC.2.1 dX8_copies_22 hl (k := 5) rfl ex_5 (by decide) rfl (fun ls hl => ?_)
        exact lv_goto (tgt := 3) hC.1 hC.2.1 dX8_copies_25 (by decide) <| ih3 _ _ _ _ _ hf hP hS (lv_sub hl [1, 2, 3, 4, 5, 0] rfl)
  refine ziconst hC.1 hC.2.1 dX8_copies_0 <| zistore (lv' := [(5, vI 0), (0, .ref (a)), (1, vI x1), (2, .ref (b)), (3, vI x3), (4, vI x4)]) hC.1 hC.2.1 dX8_copies_1 hl (by decide) rfl (fun ls hl => ?_)
  exact L3 n _ _ _ _ _ hf hP hS (lv_sub hl [1, 2, 3, 4, 5, 0] rfl)
theorem DX8_clear_0 : ∀ q ∈ ([(0, .iconst 0, 1), (1, .istore_n 1, 1), (2, .iload_n 1, 1), (3, .sipush 1233, 3), (6, .if_icmp .ge 16, 3), (9, .aload_n 0, 1), (10, .getfield 7, 3), (13, .iload_n 1, 1), (14, .iconst 0, 1), (15, .iastore, 1), (16, .iinc 1 1, 3), (19, .goto (-17), 3), (22, .aload_n 0, 1), (23, .getfield 7, 3), (26, .iconst 5, 1), (27, .bipush 25, 2), (29, .iastore, 1), (30, .aload_n 0, 1), (31, .getfield 7, 3), (34, .bipush 6, 2), (36, .sipush 1460, 3), (39, .iastore, 1), (40, .aload_n 0, 1), (41, .getfield 7, 3), (44, .bipush 7, 2), (46, .bipush 25, 2), (48, .iastore, 1), (49, .return_, 1)] : List (Nat × Instr × Nat)), decode cX8_clear q.1 = .ok q.2 := by decide +kernel
theorem dX8_clear_0 : decode cX8_clear 0 = .ok (.iconst 0, 1) := DX8_clear_0 (0, .iconst 0, 1) (List.mem_of_getElem? (i := 0) rfl)
theorem dX8_clear_1 : decode cX8_clear 1 = .ok (.istore_n 1, 1) := DX8_clear_0 (1, .istore_n 1, 1) (List.mem_of_getElem? (i := 1) rfl)
theorem dX8_clear_2 : decode cX8_clear 2 = .ok (.iload_n 1, 1) := DX8_clear_0 (2, .iload_n 1, 1) (List.mem_of_getElem? (i := 2) rfl)
theorem dX8_clear_3 : decode cX8_clear 3 = .ok (.sipush 1233, 3) := DX8_clear_0 (3, .sipush 1233, 3) (List.mem_of_getElem? (i := 3) rfl)
theorem dX8_clear_6 : decode cX8_clear 6 = .ok (.if_icmp .ge 16, 3) := DX8_clear_0 (6, .if_icmp .ge 16, 3) (List.mem_of_getElem? (i := 4) rfl)
theorem dX8_clear_9 : decode cX8_clear 9 = .ok (.aload_n 0, 1) := DX8_clear_0 (9, .aload_n 0, 1) (List.mem_of_getElem? (i := 5) rfl)
theorem dX8_clear_10 : decode cX8_clear 10 = .ok (.getfield 7, 3) := DX8_clear_0 (10, .getfield 7, 3) (List.mem_of_getElem? (i := 6) rfl)
theorem dX8_clear_13 : decode cX8_clear 13 = .ok (.iload_n 1, 1) := DX8_clear_0 (13, .iload_n 1, 1) (List.mem_of_getElem? (i := 7) rfl)
theorem dX8_clear_14 : decode cX8_clear 14 = .ok (.iconst 0, 1) := DX8_clear_0 (14, .iconst 0, 1) (List.mem_of_getElem? (i := 8) rfl)
theorem dX8_clear_15 : decode cX8_clear 15 = .ok (.iastore, 1) := DX8_clear_0 (15, .iastore, 1) (List.mem_of_getElem? (i := 9) rfl)
theorem dX8_clear_16 : decode cX8_clear 16 = .ok (.iinc 1 1, 3) := DX8_clear_0 (16, .iinc 1 1, 3) (List.mem_of_getElem? (i := 10) rfl)
theorem dX8_clear_19 : decode cX8_clear 19 = .ok (.goto (-17), 3) := DX8_clear_0 (19, .goto (-17), 3) (List.mem_of_getElem? (i := 11) rfl)
theorem dX8_clear_22 : decode cX8_clear 22 = .ok (.aload_n 0, 1) := DX8_clear_0 (22, .aload_n 0, 1) (List.mem_of_getElem? (i := 12) rfl)
theorem dX8_clear_23 : decode cX8_clear 23 = .ok (.getfield 7, 3) := DX8_clear_0 (23, .getfield 7, 3) (List.mem_of_getElem? (i := 13) rfl)
theorem dX8_clear_26 : decode cX8_clear 26 = .ok (.iconst 5, 1) := DX8_clear_0 (26, .iconst 5, 1) (List.mem_of_getElem? (i := 14) rfl)
theorem dX8_clear_27 : decode cX8_clear 27 = .ok (.bipush 25, 2) := DX8_clear_0 (27, .bipush 25, 2) (List.mem_of_getElem? (i := 15) rfl)
theorem dX8_clear_29 : decode cX8_clear 29 = .ok (.iastore, 1) := DX8_clear_0 (29, .iastore, 1) (List.mem_of_getElem? (i := 16) rfl)
theorem dX8_clear_30 : decode cX8_clear 30 = .ok (.aload_n 0, 1) := DX8_clear_0 (30, .aload_n 0, 1) (List.mem_of_getElem? (i := 17) rfl)
theorem dX8_clear_31 : decode cX8_clear 31 = .ok (.getfield 7, 3) := DX8_clear_0 (31, .getfield 7, 3) (List.mem_of_getElem? (i := 18) rfl)
theorem dX8_clear_34 : decode cX8_clear 34 = .ok (.bipush 6, 2) := DX8_clear_0 (34, .bipush 6, 2) (List.mem_of_getElem? (i := 19) rfl)
theorem dX8_clear_36 : decode cX8_clear 36 = .ok (.sipush 1460, 3) := DX8_clear_0 (36, .sipush 1460, 3) (List.mem_of_getElem? (i := 20) rfl)
theorem dX8_clear_39 : decode cX8_clear 39 = .ok (.iastore, 1) := DX8_clear_0 (39, .iastore, 1) (List.mem_of_getElem? (i := 21) rfl)
theorem dX8_clear_40 : decode cX8_clear 40 = .ok (.aload_n 0, 1) := DX8_clear_0 (40, .aload_n 0, 1) (List.mem_of_getElem? (i := 22) rfl)
theorem dX8_clear_41 : decode cX8_clear 41 = .ok (.getfield 7, 3) := DX8_clear_0 (41, .getfield 7, 3) (List.mem_of_getElem? (i := 23) rfl)
theorem dX8_clear_44 : decode cX8_clear 44 = .ok (.bipush 7, 2) := DX8_clear_0 (44, .bipush 7, 2) (List.mem_of_getElem? (i := 24) rfl)
theorem dX8_clear_46 : decode cX8_clear 46 = .ok (.bipush 25, 2) := DX8_clear_0 (46, .bipush 25, 2) (List.mem_of_getElem? (i := 25) rfl)
theorem dX8_clear_48 : decode cX8_clear 48 = .ok (.iastore, 1) := DX8_clear_0 (48, .iastore, 1) (List.mem_of_getElem? (i := 26) rfl)
theorem dX8_clear_49 : decode cX8_clear 49 = .ok (.return_, 1) := DX8_clear_0 (49, .return_, 1) (List.mem_of_getElem? (i := 27) rfl)
abbrev rmX8_clear : Room := { frames := 0, cells := 0, slots := 0, locals := 0 }
set_option maxHeartbeats 400000 in
set_option maxRecDepth 100000 in
theorem met_X8_clear (l : Launch) (D : va_G) (kA : Nat → ClassId) (a : Nat → Nat) (n : Nat) (V0 : Sz) (hDt : ∀ w : Sz, va_D (fun _ => True) (cs_X8 kA a w)) {Vr : Sz} (hf : f_X8_clear n V0 = some Vr) : MZ l yX8_clear cX8_clear 2 none rmX8_clear D kA [.ref (a 0)] (cs_X8 kA a V0) (cs_X8 kA a Vr) (none) := by
  refine zZV (own := RX8) rfl rfl (Nat.le_of_ble_eq_true rfl) ?_
  intro p e s m args below meth c ls Q hC hK hP hl hret
  have hl : lv_has ls 2 [(0, .ref (a 0))] := hl
  have hS : va_S (zF (cs_X8 kA a V0)) s.heap s.heap [] := va_S.rf
  have hD := zDself (C := fun w : Sz => (cs_X8 kA a w)) hDt V0 (fun _ => rfl)
  try dsimp only at hD
  generalize hAe : zF (cs_X8 kA a V0) = A0 at hS hD hret
  unfold f_X8_clear at hf
  have L2 : ∀ (k2 : Nat) (y1 : Int) (V : Sz) (H : Heap) (locs : List Loc) (ls : Array Slot), lpF (bX8_clear_2 n) k2 (y1, V) = some Vr → va_P D vwCl (cs_X8 kA a V) H → va_S A0 s.heap H locs → lv_has ls 2 [(0, .ref (a 0)), (1, vI y1)] → W p l e rmX8_clear s m args below meth c H locs 0 0 Q (F0 m 2 ls []) := by
    intro k2
    induction k2 with
    | zero => intro y1 V H locs ls hf hP hS hl; exact lp_0 hf
    | succ k2 ih2 =>
      intro y1 V H locs ls hf hP hS hl
      have hf := lp_s hf
      rw [bX8_clear_2_e] at hf
      refine ziload_n hC.1 hC.2.1 dX8_clear_2 rfl (lv_at hl 1 rfl) <| zsipush hC.1 hC.2.1 dX8_clear_3 (by decide) <| ?_
      obtain ⟨hz_1, hf⟩ := ck_some hf
      refine zicmp_ge (tgt := 22) hC.1 hC.2.1 ⟨hz_1, (by decide)⟩ dX8_clear_6 (by decide) (fun hc => ?_) (fun hc => ?_)
      · have hf := it_t hf hc
        refine lv_aload_n hC.1 hC.2.1 dX8_clear_22 rfl (lv_at hl 0 rfl) <| gfX8_7 hC hK hP (q0 := 0) rfl rfl dX8_clear_23 <| ziconst hC.1 hC.2.1 dX8_clear_26 <| zbipush hC.1 hC.2.1 dX8_clear_27 (by decide) <| ?_
        refine jas hC hK hP (hD V) hS (q0 := 1) rfl (Nat.le_of_ble_eq_true rfl) (by decide) rfl dX8_clear_29 (fun H locs hP hS => ?_)
        obtain ⟨V_2, eV_2⟩ : ∃ y, y = uz V 0 5 25 := ⟨_, rfl⟩
        have hf := nm_at hf eV_2
        have hP : va_P D vwCl (cs_X8 kA a V_2) H := by rw [eV_2]; exact hP
        refine lv_aload_n hC.1 hC.2.1 dX8_clear_30 rfl (lv_at hl 0 rfl) <| gfX8_7 hC hK hP (q0 := 0) rfl rfl dX8_clear_31 <| zbipush hC.1 hC.2.1 dX8_clear_34 (by decide) <| zsipush hC.1 hC.2.1 dX8_clear_36 (by decide) <| ?_
        refine jas hC hK hP (hD V_2) hS (q0 := 1) rfl (Nat.le_of_ble_eq_true rfl) (by decide) rfl dX8_clear_39 (fun H locs hP hS => ?_)
        obtain ⟨V_3, eV_3⟩ : ∃ y, y = uz V_2 0 6 1460 := ⟨_, rfl⟩
        have hf := nm_at hf eV_3
        have hP : va_P D vwCl (cs_X8 kA a V_3) H := by rw [eV_3]; exact hP
        refine lv_aload_n hC.1 hC.2.1 dX8_clear_40 rfl (lv_at hl 0 rfl) <| gfX8_7 hC hK hP (q0 := 0) rfl rfl dX8_clear_41 <| zbipush hC.1 hC.2.1 dX8_clear_44 (by decide) <| zbipush hC.1 hC.2.1 dX8_clear_46 (by decide) <| ?_
        refine jas hC hK hP (hD V_3) hS (q0 := 1) rfl (Nat.le_of_ble_eq_true rfl) (by decide) rfl dX8_clear_48 (fun H locs hP hS => ?_)
        obtain ⟨V_4, eV_4⟩ : ∃ y, y = uz V_3 0 7 25 := ⟨_, rfl⟩
        have hf := nm_at hf eV_4
        have hP : va_P D vwCl (cs_X8 kA a V_4) H := by rw [eV_4]; exact hP
        have hf := Option.some.inj hf
        exact hret _ _ _ _ rfl (by rw [← hf]; exact hP) hS dX8_clear_49
      · have hf := it_f hf hc
        refine lv_aload_n hC.1 hC.2.1 dX8_clear_9 rfl (lv_at hl 0 rfl) <| gfX8_7 hC hK hP (q0 := 0) rfl rfl dX8_clear_10 <| ziload_n hC.1 hC.2.1 dX8_clear_13 rfl (lv_at hl 1 rfl) <| ziconst hC.1 hC.2.1 dX8_clear_14 <| ?_
        obtain ⟨hz_5, hf⟩ := ck_some hf
        refine jas hC hK hP (hD V) hS (q0 := 1) rfl (Nat.le_of_ble_eq_true rfl) hz_5 rfl dX8_clear_15 (fun H locs hP hS => ?_)
        obtain ⟨V_6, eV_6⟩ : ∃ y, y = uz V 0 y1.toNat 0 := ⟨_, rfl⟩
        have hf := nm_at hf eV_6
        have hP : va_P D vwCl (cs_X8 kA a V_6) H := by rw [eV_6]; exact hP
        obtain ⟨x_7, ex_7⟩ : ∃ y : Int, y = y1 + 1 := ⟨_, rfl⟩
        have hf := nm_at hf ex_7
        refine ziinc (v := x_7) (lv' := [(1, vI x_7), (0, .ref (a 0))]) hC.1 hC.2.1 dX8_clear_16 hl (k := 1) rfl ex_7 (by decide) rfl (fun ls hl => ?_)
        exact lv_goto (tgt := 2) hC.1 hC.2.1 dX8_clear_19 (by decide) <| ih2 _ _ _ _ _ hf hP hS (lv_sub hl [1, 0] rfl)
  refine ziconst hC.1 hC.2.1 dX8_clear_0 <| zistore_n (lv' := [(1, vI 0), (0, .ref (a 0))]) hC.1 hC.2.1 dX8_clear_1 rfl hl (by decide) rfl (fun ls hl => ?_)
  exact L2 n _ _ _ _ _ hf hP hS (lv_sub hl [1, 0] rfl)
abbrev rmX8_copies_same : Room := { frames := 0, cells := 0, slots := 0, locals := 0 }
set_option maxHeartbeats 400000 in
set_option maxRecDepth 100000 in
theorem met_X8_copies_same (l : Launch) (D : va_G) (kA : Nat → ClassId) (a : Nat) (n : Nat) (n0 : Nat) (T00 : Nat → Int) (x1 : Int) (x3 : Int) (x4 : Int) (hn0 : n0 ≤ 2147483648) (hDt : ∀ w : (Nat → Int), va_D (fun _ => True) ([(a, .inl (kA 0, n0, .inl (aI w)))])) {T0r : (Nat → Int)} (hf : f_X8_copies_same n n0 T00 x1 x3 x4 = some T0r) : MZ l yX8_copies cX8_copies 6 none rmX8_copies_same D kA [.ref (a), vI x1, .ref (a), vI x3, vI x4] ([(a, .inl (kA 0, n0, .inl (aI T00)))]) ([(a, .inl (kA 0, n0, .inl (aI T0r)))]) (none) := by
  refine zZV (own := RX8) rfl rfl (Nat.le_of_ble_eq_true rfl) ?_
  intro p e s m args below meth c ls Q hC hK hP hl hret
  have hl : lv_has ls 6 [(0, .ref (a)), (1, vI x1), (2, .ref (a)), (3, vI x3), (4, vI x4)] := hl
  have hS : va_S (zF ([(a, .inl (kA 0, n0, .inl (aI T00)))])) s.heap s.heap [] := va_S.rf
  have hD := zDself (C := fun w : (Nat → Int) => ([(a, .inl (kA 0, n0, .inl (aI w)))])) hDt T00 (fun _ => rfl)
  try dsimp only at hD
  generalize hAe : zF ([(a, .inl (kA 0, n0, .inl (aI T00)))]) = A0 at hS hD hret
  unfold f_X8_copies_same at hf
  have L3 : ∀ (k3 : Nat) (y5 : Int) (T0 : Nat → Int) (H : Heap) (locs : List Loc) (ls : Array Slot), lpF (bX8_copies_same_3 n n0 x1 x3 x4) k3 (y5, T0) = some T0r → va_P D vwCl ([(a, .inl (kA 0, n0, .inl (aI T0)))]) H → va_S A0 s.heap H locs → lv_has ls 6 [(0, .ref (a)), (1, vI x1), (2, .ref (a)), (3, vI x3), (4, vI x4), (5, vI y5)] → W p l e rmX8_copies_same s m args below meth c H locs 0 0 Q (F0 m 3 ls []) := by
    intro k3
    induction k3 with
    | zero => intro y5 T0 H locs ls hf hP hS hl; exact lp_0 hf
    | succ k3 ih3 =>
      intro y5 T0 H locs ls hf hP hS hl
      have hf := lp_s hf
      rw [bX8_copies_same_3_e] at hf
      refine ziload hC.1 hC.2.1 dX8_copies_3 (lv_at hl 5 rfl) <| ziload hC.1 hC.2.1 dX8_copies_5 (lv_at hl 4 rfl) <| ?_
      obtain ⟨hz_1, hf⟩ := ck_some hf
      refine zicmp_ge (tgt := 28) hC.1 hC.2.1 ⟨hz_1.1, hz_1.2⟩ dX8_copies_7 (by decide) (fun hc => ?_) (fun hc => ?_)
      · have hf := it_t hf hc
        have hf := Option.some.inj hf
        exact hret _ _ _ _ rfl (by rw [← hf]; exact hP) hS dX8_copies_28
      · have hf := it_f hf hc
        refine lv_aload_n hC.1 hC.2.1 dX8_copies_10 rfl (lv_at hl 2 rfl) <| ziload_n hC.1 hC.2.1 dX8_copies_11 rfl (lv_at hl 3 rfl) <| ziload hC.1 hC.2.1 dX8_copies_12 (lv_at hl 5 rfl) <| ziadd hC.1 hC.2.1 dX8_copies_14 <| lv_aload_n hC.1 hC.2.1 dX8_copies_15 rfl (lv_at hl 0 rfl) <| ziload_n hC.1 hC.2.1 dX8_copies_16 rfl (lv_at hl 1 rfl) <| ziload hC.1 hC.2.1 dX8_copies_17 (lv_at hl 5 rfl) <| ziadd hC.1 hC.2.1 dX8_copies_19 <| ?_
        obtain ⟨hz_2, hf⟩ := ck_some hf
        refine jal hC hK hP (q0 := 0) rfl hn0 hz_2 rfl dX8_copies_20 <| ?_
        obtain ⟨hz_3, hf⟩ := ck_some hf
        refine jas hC hK hP (hD T0) hS (q0 := 0) rfl hn0 hz_3 rfl dX8_copies_21 (fun H locs hP hS => ?_)
        obtain ⟨T0_4, eT0_4⟩ : ∃ y, y = up T0 (x3 + y5).toNat (T0 (x1 + y5).toNat) := ⟨_, rfl⟩
        have hf := nm_at hf eT0_4
        have hP : va_P D vwCl ([(a, .inl (kA 0, n0, .inl (aI T0_4)))]) H := by rw [eT0_4]; exact hP
        obtain ⟨x_5, ex_5⟩ : ∃ y : Int, y = y5 + 1 := ⟨_, rfl⟩
        have hf := nm_at hf ex_5
        refine ziinc (v := x_5) (lv' := [(5, vI x_5), (0, .ref (a)), (1, vI x1), (2, .ref (a)), (3, vI x3), (4, vI x4)]) hC.1 hC.2.1 dX8_copies_22 hl (k := 5) rfl ex_5 (by decide) rfl (fun ls hl => ?_)
        exact lv_goto (tgt := 3) hC.1 hC.2.1 dX8_copies_25 (by decide) <| ih3 _ _ _ _ _ hf hP hS (lv_sub hl [1, 2, 3, 4, 5, 0] rfl)
  refine ziconst hC.1 hC.2.1 dX8_copies_0 <| zistore (lv' := [(5, vI 0), (0, .ref (a)), (1, vI x1), (2, .ref (a)), (3, vI x3), (4, vI x4)]) hC.1 hC.2.1 dX8_copies_1 hl (by decide) rfl (fun ls hl => ?_)
  exact L3 n _ _ _ _ _ hf hP hS (lv_sub hl [1, 2, 3, 4, 5, 0] rfl)
theorem DX8_remembers_0 : ∀ q ∈ ([(0, .aload_n 0, 1), (1, .getfield 68, 3), (4, .bipush 10, 2), (6, .if_icmp .ne 31, 3), (9, .aload_n 0, 1), (10, .getfield 22, 3), (13, .sipush 1233, 3), (16, .aload_n 0, 1), (17, .getfield 22, 3), (20, .iconst 0, 1), (21, .sipush 11097, 3), (24, .invokestatic 71, 3), (27, .aload_n 0, 1), (28, .dup, 1), (29, .getfield 68, 3), (32, .iconst 1, 1), (33, .isub, 1), (34, .putfield 68, 3), (37, .aload_n 0, 1), (38, .getfield 7, 3), (41, .iconst 0, 1), (42, .aload_n 0, 1), (43, .getfield 22, 3), (46, .sipush 1233, 3), (49, .aload_n 0, 1), (50, .getfield 68, 3), (53, .imul, 1), (54, .sipush 1233, 3), (57, .invokestatic 71, 3), (60, .aload_n 0, 1), (61, .dup, 1), (62, .getfield 68, 3), (65, .iconst 1, 1), (66, .iadd, 1), (67, .putfield 68, 3), (70, .return_, 1)] : List (Nat × Instr × Nat)), decode cX8_remembers q.1 = .ok q.2 := by decide +kernel
theorem dX8_remembers_0 : decode cX8_remembers 0 = .ok (.aload_n 0, 1) := DX8_remembers_0 (0, .aload_n 0, 1) (List.mem_of_getElem? (i := 0) rfl)
theorem dX8_remembers_1 : decode cX8_remembers 1 = .ok (.getfield 68, 3) := DX8_remembers_0 (1, .getfield 68, 3) (List.mem_of_getElem? (i := 1) rfl)
theorem dX8_remembers_4 : decode cX8_remembers 4 = .ok (.bipush 10, 2) := DX8_remembers_0 (4, .bipush 10, 2) (List.mem_of_getElem? (i := 2) rfl)
theorem dX8_remembers_6 : decode cX8_remembers 6 = .ok (.if_icmp .ne 31, 3) := DX8_remembers_0 (6, .if_icmp .ne 31, 3) (List.mem_of_getElem? (i := 3) rfl)
theorem dX8_remembers_9 : decode cX8_remembers 9 = .ok (.aload_n 0, 1) := DX8_remembers_0 (9, .aload_n 0, 1) (List.mem_of_getElem? (i := 4) rfl)
theorem dX8_remembers_10 : decode cX8_remembers 10 = .ok (.getfield 22, 3) := DX8_remembers_0 (10, .getfield 22, 3) (List.mem_of_getElem? (i := 5) rfl)
theorem dX8_remembers_13 : decode cX8_remembers 13 = .ok (.sipush 1233, 3) := DX8_remembers_0 (13, .sipush 1233, 3) (List.mem_of_getElem? (i := 6) rfl)
theorem dX8_remembers_16 : decode cX8_remembers 16 = .ok (.aload_n 0, 1) := DX8_remembers_0 (16, .aload_n 0, 1) (List.mem_of_getElem? (i := 7) rfl)
theorem dX8_remembers_17 : decode cX8_remembers 17 = .ok (.getfield 22, 3) := DX8_remembers_0 (17, .getfield 22, 3) (List.mem_of_getElem? (i := 8) rfl)
theorem dX8_remembers_20 : decode cX8_remembers 20 = .ok (.iconst 0, 1) := DX8_remembers_0 (20, .iconst 0, 1) (List.mem_of_getElem? (i := 9) rfl)
theorem dX8_remembers_21 : decode cX8_remembers 21 = .ok (.sipush 11097, 3) := DX8_remembers_0 (21, .sipush 11097, 3) (List.mem_of_getElem? (i := 10) rfl)
theorem dX8_remembers_24 : decode cX8_remembers 24 = .ok (.invokestatic 71, 3) := DX8_remembers_0 (24, .invokestatic 71, 3) (List.mem_of_getElem? (i := 11) rfl)
theorem dX8_remembers_27 : decode cX8_remembers 27 = .ok (.aload_n 0, 1) := DX8_remembers_0 (27, .aload_n 0, 1) (List.mem_of_getElem? (i := 12) rfl)
theorem dX8_remembers_28 : decode cX8_remembers 28 = .ok (.dup, 1) := DX8_remembers_0 (28, .dup, 1) (List.mem_of_getElem? (i := 13) rfl)
theorem dX8_remembers_29 : decode cX8_remembers 29 = .ok (.getfield 68, 3) := DX8_remembers_0 (29, .getfield 68, 3) (List.mem_of_getElem? (i := 14) rfl)
theorem dX8_remembers_32 : decode cX8_remembers 32 = .ok (.iconst 1, 1) := DX8_remembers_0 (32, .iconst 1, 1) (List.mem_of_getElem? (i := 15) rfl)
theorem dX8_remembers_33 : decode cX8_remembers 33 = .ok (.isub, 1) := DX8_remembers_0 (33, .isub, 1) (List.mem_of_getElem? (i := 16) rfl)
theorem dX8_remembers_34 : decode cX8_remembers 34 = .ok (.putfield 68, 3) := DX8_remembers_0 (34, .putfield 68, 3) (List.mem_of_getElem? (i := 17) rfl)
theorem dX8_remembers_37 : decode cX8_remembers 37 = .ok (.aload_n 0, 1) := DX8_remembers_0 (37, .aload_n 0, 1) (List.mem_of_getElem? (i := 18) rfl)
theorem dX8_remembers_38 : decode cX8_remembers 38 = .ok (.getfield 7, 3) := DX8_remembers_0 (38, .getfield 7, 3) (List.mem_of_getElem? (i := 19) rfl)
theorem dX8_remembers_41 : decode cX8_remembers 41 = .ok (.iconst 0, 1) := DX8_remembers_0 (41, .iconst 0, 1) (List.mem_of_getElem? (i := 20) rfl)
theorem dX8_remembers_42 : decode cX8_remembers 42 = .ok (.aload_n 0, 1) := DX8_remembers_0 (42, .aload_n 0, 1) (List.mem_of_getElem? (i := 21) rfl)
theorem dX8_remembers_43 : decode cX8_remembers 43 = .ok (.getfield 22, 3) := DX8_remembers_0 (43, .getfield 22, 3) (List.mem_of_getElem? (i := 22) rfl)
theorem dX8_remembers_46 : decode cX8_remembers 46 = .ok (.sipush 1233, 3) := DX8_remembers_0 (46, .sipush 1233, 3) (List.mem_of_getElem? (i := 23) rfl)
theorem dX8_remembers_49 : decode cX8_remembers 49 = .ok (.aload_n 0, 1) := DX8_remembers_0 (49, .aload_n 0, 1) (List.mem_of_getElem? (i := 24) rfl)
theorem dX8_remembers_50 : decode cX8_remembers 50 = .ok (.getfield 68, 3) := DX8_remembers_0 (50, .getfield 68, 3) (List.mem_of_getElem? (i := 25) rfl)
theorem dX8_remembers_53 : decode cX8_remembers 53 = .ok (.imul, 1) := DX8_remembers_0 (53, .imul, 1) (List.mem_of_getElem? (i := 26) rfl)
theorem dX8_remembers_54 : decode cX8_remembers 54 = .ok (.sipush 1233, 3) := DX8_remembers_0 (54, .sipush 1233, 3) (List.mem_of_getElem? (i := 27) rfl)
theorem dX8_remembers_57 : decode cX8_remembers 57 = .ok (.invokestatic 71, 3) := DX8_remembers_0 (57, .invokestatic 71, 3) (List.mem_of_getElem? (i := 28) rfl)
theorem dX8_remembers_60 : decode cX8_remembers 60 = .ok (.aload_n 0, 1) := DX8_remembers_0 (60, .aload_n 0, 1) (List.mem_of_getElem? (i := 29) rfl)
theorem dX8_remembers_61 : decode cX8_remembers 61 = .ok (.dup, 1) := DX8_remembers_0 (61, .dup, 1) (List.mem_of_getElem? (i := 30) rfl)
theorem dX8_remembers_62 : decode cX8_remembers 62 = .ok (.getfield 68, 3) := DX8_remembers_0 (62, .getfield 68, 3) (List.mem_of_getElem? (i := 31) rfl)
theorem dX8_remembers_65 : decode cX8_remembers 65 = .ok (.iconst 1, 1) := DX8_remembers_0 (65, .iconst 1, 1) (List.mem_of_getElem? (i := 32) rfl)
theorem dX8_remembers_66 : decode cX8_remembers 66 = .ok (.iadd, 1) := DX8_remembers_0 (66, .iadd, 1) (List.mem_of_getElem? (i := 33) rfl)
theorem dX8_remembers_67 : decode cX8_remembers 67 = .ok (.putfield 68, 3) := DX8_remembers_0 (67, .putfield 68, 3) (List.mem_of_getElem? (i := 34) rfl)
theorem dX8_remembers_70 : decode cX8_remembers 70 = .ok (.return_, 1) := DX8_remembers_0 (70, .return_, 1) (List.mem_of_getElem? (i := 35) rfl)
abbrev rmX8_remembers : Room := { frames := 1, cells := 0, slots := 0, locals := 25 }
set_option maxHeartbeats 400000 in
set_option maxRecDepth 100000 in
theorem met_X8_remembers (l : Launch) (D : va_G) (kA : Nat → ClassId) (a : Nat → Nat) (n : Nat) (V0 : Sz) (hDt : ∀ w : Sz, va_D (fun _ => True) (cs_X8 kA a w)) {Vr : Sz} (hf : f_X8_remembers n V0 = some Vr) : MZ l yX8_remembers cX8_remembers 1 none rmX8_remembers D kA [.ref (a 0)] (cs_X8 kA a V0) (cs_X8 kA a Vr) (none) := by
  refine zZV (own := RX8) rfl rfl (Nat.le_of_ble_eq_true rfl) ?_
  intro p e s m args below meth c ls Q hC hK hP hl hret
  have hl : lv_has ls 1 [(0, .ref (a 0))] := hl
  have hS : va_S (zF (cs_X8 kA a V0)) s.heap s.heap [] := va_S.rf
  have hD := zDself (C := fun w : Sz => (cs_X8 kA a w)) hDt V0 (fun _ => rfl)
  try dsimp only at hD
  generalize hAe : zF (cs_X8 kA a V0) = A0 at hS hD hret
  unfold f_X8_remembers at hf
  have J37 : ∀ (V : Sz) (H : Heap) (locs : List Loc) (ls : Array Slot), jX8_remembers_37 n V = some Vr → va_P D vwCl (cs_X8 kA a V) H → va_S A0 s.heap H locs → lv_has ls 1 [(0, .ref (a 0))] → W p l e rmX8_remembers s m args below meth c H locs 0 0 Q (F0 m 37 ls []) := by
    intro V H locs ls hf hP hS hl
    unfold jX8_remembers_37 at hf
    refine lv_aload_n hC.1 hC.2.1 dX8_remembers_37 rfl (lv_at hl 0 rfl) <| gfX8_7 hC hK hP (q0 := 0) rfl rfl dX8_remembers_38 <| ziconst hC.1 hC.2.1 dX8_remembers_41 <| lv_aload_n hC.1 hC.2.1 dX8_remembers_42 rfl (lv_at hl 0 rfl) <| gfX8_22 hC hK hP (q0 := 0) rfl rfl dX8_remembers_43 <| zsipush hC.1 hC.2.1 dX8_remembers_46 (by decide) <| lv_aload_n hC.1 hC.2.1 dX8_remembers_49 rfl (lv_at hl 0 rfl) <| gfX8_68 hC hK hP (q0 := 0) rfl rfl dX8_remembers_50 <| zimul hC.1 hC.2.1 dX8_remembers_53 <| zsipush hC.1 hC.2.1 dX8_remembers_54 (by decide) <| ?_
    obtain ⟨V_2, hu, hf⟩ := bd_some hf
    have hPc : va_P D vwCl ([((a 1), .inl (kA 0, 1233, .inl (aI (V 0))))] ++ ([((a 5), .inl (kA 0, 12330, .inl (aI (V 4))))])) _ := hP.sub [1, 5] rfl
    have hDc : ∀ w : (Nat → Int), va_D (fun _ => True) ([((a 1), .inl (kA 0, 1233, .inl (aI (V 0))))] ++ ([((a 5), .inl (kA 0, 12330, .inl (aI w)))])) := fun w => (hDt (uy V 4 w)).sub [1, 5] (by decide) rfl
    refine zcSZ (As := [.ref (a 1), vI 0, .ref (a 5), vI (1233 * (V 5 0)), vI 1233]) (rest := []) hC hK (met_X8_copies l D kA (a 1) (a 5) n 1233 12330 (V 0) (V 4) 0 (1233 * (V 5 0)) 1233 (Nat.le_of_ble_eq_true rfl) (Nat.le_of_ble_eq_true rfl) hDc hu) zwX8_71 hS (zFsub (hD V) [1, 5] rfl) hPc rfl hl.1 rfl (Nat.le_of_ble_eq_true rfl) ⟨Nat.le_of_ble_eq_true rfl, Nat.le_of_ble_eq_true rfl⟩ ⟨rfl, rfl⟩ ⟨Nat.le_refl _, Nat.le_refl _⟩ dX8_remembers_57 (fun H locs hP1 hk1 hS => ?_)
    obtain ⟨V_3, eV_3⟩ : ∃ y, y = uy V 4 V_2 := ⟨_, rfl⟩
    have hf := nm_at hf eV_3
    have hP : va_P D vwCl (cs_X8 kA a V_3) H := by rw [eV_3]; exact zjoin hP (hDt V) [1, 5] (w0 := ([((a 1), .inl (kA 0, 1233, .inl (aI (V 0))))] ++ ([((a 5), .inl (kA 0, 12330, .inl (aI (V 4))))]))) rfl (Nat.le_of_ble_eq_true rfl) hk1 hP1
    refine lv_aload_n hC.1 hC.2.1 dX8_remembers_60 rfl (lv_at hl 0 rfl) <| lv_dup hC.1 hC.2.1 dX8_remembers_61 rfl <| gfX8_68 hC hK hP (q0 := 0) rfl rfl dX8_remembers_62 <| ziconst hC.1 hC.2.1 dX8_remembers_65 <| ziadd hC.1 hC.2.1 dX8_remembers_66 <| ?_
    refine pfX8_68 hC hK hP (hD V_3) hS (q0 := 0) rfl (Nat.le_of_ble_eq_true rfl) dX8_remembers_67 (fun H locs hP hS => ?_)
    obtain ⟨V_4, eV_4⟩ : ∃ y, y = us V_3 5 ((V_3 5 0) + 1) := ⟨_, rfl⟩
    have hf := nm_at hf eV_4
    have hP : va_P D vwCl (cs_X8 kA a V_4) H := by rw [eV_4]; exact hP
    have hf := Option.some.inj hf
    exact hret _ _ _ _ rfl (by rw [← hf]; exact hP) hS dX8_remembers_70
  refine lv_aload_n hC.1 hC.2.1 dX8_remembers_0 rfl (lv_at hl 0 rfl) <| gfX8_68 hC hK hP (q0 := 0) rfl rfl dX8_remembers_1 <| zbipush hC.1 hC.2.1 dX8_remembers_4 (by decide) <| ?_
  obtain ⟨hz_1, hf⟩ := ck_some hf
  refine zicmp_ne (tgt := 37) hC.1 hC.2.1 ⟨hz_1, (by decide)⟩ dX8_remembers_6 (by decide) (fun hc => ?_) (fun hc => ?_)
  · have hf := it_f hf hc
    exact J37 _ _ _ _ hf hP hS (lv_sub hl [0] rfl)
  · have hf := it_t hf hc
    refine lv_aload_n hC.1 hC.2.1 dX8_remembers_9 rfl (lv_at hl 0 rfl) <| gfX8_22 hC hK hP (q0 := 0) rfl rfl dX8_remembers_10 <| zsipush hC.1 hC.2.1 dX8_remembers_13 (by decide) <| lv_aload_n hC.1 hC.2.1 dX8_remembers_16 rfl (lv_at hl 0 rfl) <| gfX8_22 hC hK hP (q0 := 0) rfl rfl dX8_remembers_17 <| ziconst hC.1 hC.2.1 dX8_remembers_20 <| zsipush hC.1 hC.2.1 dX8_remembers_21 (by decide) <| ?_
    obtain ⟨V_5, hu, hf⟩ := bd_some hf
    have hPc : va_P D vwCl ([((a 5), .inl (kA 0, 12330, .inl (aI (V0 4))))]) _ := hP.sub [5] rfl
    have hDc : ∀ w : (Nat → Int), va_D (fun _ => True) ([((a 5), .inl (kA 0, 12330, .inl (aI w)))]) := fun w => (hDt (uy V0 4 w)).sub [5] (by decide) rfl
    refine zcSZ (As := [.ref (a 5), vI 1233, .ref (a 5), vI 0, vI 11097]) (rest := []) hC hK (met_X8_copies_same l D kA (a 5) n 12330 (V0 4) 1233 0 11097 (Nat.le_of_ble_eq_true rfl) hDc hu) zwX8_71 hS (zFsub (hD V0) [5] rfl) hPc rfl hl.1 rfl (Nat.le_of_ble_eq_true rfl) ⟨Nat.le_of_ble_eq_true rfl, Nat.le_of_ble_eq_true rfl⟩ ⟨rfl, rfl⟩ ⟨Nat.le_refl _, Nat.le_refl _⟩ dX8_remembers_24 (fun H locs hP1 hk1 hS => ?_)
    obtain ⟨V_6, eV_6⟩ : ∃ y, y = uy V0 4 V_5 := ⟨_, rfl⟩
    have hf := nm_at hf eV_6
    have hP : va_P D vwCl (cs_X8 kA a V_6) H := by rw [eV_6]; exact zjoin hP (hDt V0) [5] (w0 := ([((a 5), .inl (kA 0, 12330, .inl (aI (V0 4))))])) rfl (Nat.le_of_ble_eq_true rfl) hk1 hP1
    refine lv_aload_n hC.1 hC.2.1 dX8_remembers_27 rfl (lv_at hl 0 rfl) <| lv_dup hC.1 hC.2.1 dX8_remembers_28 rfl <| gfX8_68 hC hK hP (q0 := 0) rfl rfl dX8_remembers_29 <| ziconst hC.1 hC.2.1 dX8_remembers_32 <| zisub hC.1 hC.2.1 dX8_remembers_33 <| ?_
    refine pfX8_68 hC hK hP (hD V_6) hS (q0 := 0) rfl (Nat.le_of_ble_eq_true rfl) dX8_remembers_34 (fun H locs hP hS => ?_)
    obtain ⟨V_7, eV_7⟩ : ∃ y, y = us V_6 5 ((V_6 5 0) - 1) := ⟨_, rfl⟩
    have hf := nm_at hf eV_7
    have hP : va_P D vwCl (cs_X8 kA a V_7) H := by rw [eV_7]; exact hP
    exact J37 _ _ _ _ hf hP hS (lv_sub hl [0] rfl)
theorem DX8_partOf_0 : ∀ q ∈ ([(0, .iconst 3, 1), (1, .iload_n 0, 1), (2, .imul, 1), (3, .iload_n 1, 1), (4, .iadd, 1), (5, .ireturn, 1)] : List (Nat × Instr × Nat)), decode cX8_partOf q.1 = .ok q.2 := by decide +kernel
theorem dX8_partOf_0 : decode cX8_partOf 0 = .ok (.iconst 3, 1) := DX8_partOf_0 (0, .iconst 3, 1) (List.mem_of_getElem? (i := 0) rfl)
theorem dX8_partOf_1 : decode cX8_partOf 1 = .ok (.iload_n 0, 1) := DX8_partOf_0 (1, .iload_n 0, 1) (List.mem_of_getElem? (i := 1) rfl)
theorem dX8_partOf_2 : decode cX8_partOf 2 = .ok (.imul, 1) := DX8_partOf_0 (2, .imul, 1) (List.mem_of_getElem? (i := 2) rfl)
theorem dX8_partOf_3 : decode cX8_partOf 3 = .ok (.iload_n 1, 1) := DX8_partOf_0 (3, .iload_n 1, 1) (List.mem_of_getElem? (i := 3) rfl)
theorem dX8_partOf_4 : decode cX8_partOf 4 = .ok (.iadd, 1) := DX8_partOf_0 (4, .iadd, 1) (List.mem_of_getElem? (i := 4) rfl)
theorem dX8_partOf_5 : decode cX8_partOf 5 = .ok (.ireturn, 1) := DX8_partOf_0 (5, .ireturn, 1) (List.mem_of_getElem? (i := 5) rfl)
abbrev rmX8_partOf : Room := { frames := 0, cells := 0, slots := 0, locals := 0 }
set_option maxHeartbeats 400000 in
set_option maxRecDepth 100000 in
theorem met_X8_partOf (l : Launch) (D : va_G) (kA : Nat → ClassId)  (x0 : Int) (x1 : Int) {r : Int} (hf : f_X8_partOf x0 x1 = some r) : MP l yX8_partOf cX8_partOf 2 (some .int) rmX8_partOf D kA [vI x0, vI x1] ([] : va_W) (some (vI r)) := by
  refine zPI (own := RX8) rfl rfl (Nat.le_of_ble_eq_true rfl) ?_
  intro p e s m args below meth c ls Q hC hK hP hl hret
  have hl : lv_has ls 2 [(0, vI x0), (1, vI x1)] := hl
  unfold f_X8_partOf at hf
  exact ziconst hC.1 hC.2.1 dX8_partOf_0 <| ziload_n hC.1 hC.2.1 dX8_partOf_1 rfl (lv_at hl 0 rfl) <| zimul hC.1 hC.2.1 dX8_partOf_2 <| ziload_n hC.1 hC.2.1 dX8_partOf_3 rfl (lv_at hl 1 rfl) <| ziadd hC.1 hC.2.1 dX8_partOf_4 <| hret (Int32.ofInt ((3 * x0) + x1)) _ _ (qI hf) dX8_partOf_5
theorem DX8_giftOf_0 : ∀ q ∈ ([(0, .iload_n 0, 1), (1, .iconst 3, 1), (2, .idiv, 1), (3, .ireturn, 1)] : List (Nat × Instr × Nat)), decode cX8_giftOf q.1 = .ok q.2 := by decide +kernel
theorem dX8_giftOf_0 : decode cX8_giftOf 0 = .ok (.iload_n 0, 1) := DX8_giftOf_0 (0, .iload_n 0, 1) (List.mem_of_getElem? (i := 0) rfl)
theorem dX8_giftOf_1 : decode cX8_giftOf 1 = .ok (.iconst 3, 1) := DX8_giftOf_0 (1, .iconst 3, 1) (List.mem_of_getElem? (i := 1) rfl)
theorem dX8_giftOf_2 : decode cX8_giftOf 2 = .ok (.idiv, 1) := DX8_giftOf_0 (2, .idiv, 1) (List.mem_of_getElem? (i := 2) rfl)
theorem dX8_giftOf_3 : decode cX8_giftOf 3 = .ok (.ireturn, 1) := DX8_giftOf_0 (3, .ireturn, 1) (List.mem_of_getElem? (i := 3) rfl)
abbrev rmX8_giftOf : Room := { frames := 0, cells := 0, slots := 0, locals := 0 }
set_option maxHeartbeats 400000 in
set_option maxRecDepth 100000 in
theorem met_X8_giftOf (l : Launch) (D : va_G) (kA : Nat → ClassId)  (x0 : Int) {r : Int} (hf : f_X8_giftOf x0 = some r) : MP l yX8_giftOf cX8_giftOf 1 (some .int) rmX8_giftOf D kA [vI x0] ([] : va_W) (some (vI r)) := by
  refine zPI (own := RX8) rfl rfl (Nat.le_of_ble_eq_true rfl) ?_
  intro p e s m args below meth c ls Q hC hK hP hl hret
  have hl : lv_has ls 1 [(0, vI x0)] := hl
  unfold f_X8_giftOf at hf
  refine ziload_n hC.1 hC.2.1 dX8_giftOf_0 rfl (lv_at hl 0 rfl) <| ziconst hC.1 hC.2.1 dX8_giftOf_1 <| ?_
  obtain ⟨hz_1, hf⟩ := ck_some hf
  exact zidiv hC.1 hC.2.1 ⟨hz_1.1, hz_1.2, by decide, by decide⟩ dX8_giftOf_2 <| hret (Int32.ofInt (x0 / 3)) _ _ (qI hf) dX8_giftOf_3
theorem DX8_isPart_0 : ∀ q ∈ ([(0, .iload_n 1, 1), (1, .iconst 3, 1), (2, .irem, 1), (3, .aload_n 0, 1), (4, .getfield 7, 3), (7, .sipush 293, 3), (10, .iload_n 1, 1), (11, .invokestatic 75, 3), (14, .iadd, 1), (15, .iaload, 1), (16, .if_icmp .ge 20, 3), (19, .iload_n 1, 1), (20, .invokestatic 75, 3), (23, .aload_n 0, 1), (24, .getfield 7, 3), (27, .iconst 2, 1), (28, .iaload, 1), (29, .if_icmp .ge 7, 3), (32, .iconst 1, 1), (33, .goto 4, 3), (36, .iconst 0, 1), (37, .ireturn, 1)] : List (Nat × Instr × Nat)), decode cX8_isPart q.1 = .ok q.2 := by decide +kernel
theorem dX8_isPart_0 : decode cX8_isPart 0 = .ok (.iload_n 1, 1) := DX8_isPart_0 (0, .iload_n 1, 1) (List.mem_of_getElem? (i := 0) rfl)
theorem dX8_isPart_1 : decode cX8_isPart 1 = .ok (.iconst 3, 1) := DX8_isPart_0 (1, .iconst 3, 1) (List.mem_of_getElem? (i := 1) rfl)
theorem dX8_isPart_2 : decode cX8_isPart 2 = .ok (.irem, 1) := DX8_isPart_0 (2, .irem, 1) (List.mem_of_getElem? (i := 2) rfl)
theorem dX8_isPart_3 : decode cX8_isPart 3 = .ok (.aload_n 0, 1) := DX8_isPart_0 (3, .aload_n 0, 1) (List.mem_of_getElem? (i := 3) rfl)
theorem dX8_isPart_4 : decode cX8_isPart 4 = .ok (.getfield 7, 3) := DX8_isPart_0 (4, .getfield 7, 3) (List.mem_of_getElem? (i := 4) rfl)
theorem dX8_isPart_7 : decode cX8_isPart 7 = .ok (.sipush 293, 3) := DX8_isPart_0 (7, .sipush 293, 3) (List.mem_of_getElem? (i := 5) rfl)
theorem dX8_isPart_10 : decode cX8_isPart 10 = .ok (.iload_n 1, 1) := DX8_isPart_0 (10, .iload_n 1, 1) (List.mem_of_getElem? (i := 6) rfl)
theorem dX8_isPart_11 : decode cX8_isPart 11 = .ok (.invokestatic 75, 3) := DX8_isPart_0 (11, .invokestatic 75, 3) (List.mem_of_getElem? (i := 7) rfl)
theorem dX8_isPart_14 : decode cX8_isPart 14 = .ok (.iadd, 1) := DX8_isPart_0 (14, .iadd, 1) (List.mem_of_getElem? (i := 8) rfl)
theorem dX8_isPart_15 : decode cX8_isPart 15 = .ok (.iaload, 1) := DX8_isPart_0 (15, .iaload, 1) (List.mem_of_getElem? (i := 9) rfl)
theorem dX8_isPart_16 : decode cX8_isPart 16 = .ok (.if_icmp .ge 20, 3) := DX8_isPart_0 (16, .if_icmp .ge 20, 3) (List.mem_of_getElem? (i := 10) rfl)
theorem dX8_isPart_19 : decode cX8_isPart 19 = .ok (.iload_n 1, 1) := DX8_isPart_0 (19, .iload_n 1, 1) (List.mem_of_getElem? (i := 11) rfl)
theorem dX8_isPart_20 : decode cX8_isPart 20 = .ok (.invokestatic 75, 3) := DX8_isPart_0 (20, .invokestatic 75, 3) (List.mem_of_getElem? (i := 12) rfl)
theorem dX8_isPart_23 : decode cX8_isPart 23 = .ok (.aload_n 0, 1) := DX8_isPart_0 (23, .aload_n 0, 1) (List.mem_of_getElem? (i := 13) rfl)
theorem dX8_isPart_24 : decode cX8_isPart 24 = .ok (.getfield 7, 3) := DX8_isPart_0 (24, .getfield 7, 3) (List.mem_of_getElem? (i := 14) rfl)
theorem dX8_isPart_27 : decode cX8_isPart 27 = .ok (.iconst 2, 1) := DX8_isPart_0 (27, .iconst 2, 1) (List.mem_of_getElem? (i := 15) rfl)
theorem dX8_isPart_28 : decode cX8_isPart 28 = .ok (.iaload, 1) := DX8_isPart_0 (28, .iaload, 1) (List.mem_of_getElem? (i := 16) rfl)
theorem dX8_isPart_29 : decode cX8_isPart 29 = .ok (.if_icmp .ge 7, 3) := DX8_isPart_0 (29, .if_icmp .ge 7, 3) (List.mem_of_getElem? (i := 17) rfl)
theorem dX8_isPart_32 : decode cX8_isPart 32 = .ok (.iconst 1, 1) := DX8_isPart_0 (32, .iconst 1, 1) (List.mem_of_getElem? (i := 18) rfl)
theorem dX8_isPart_33 : decode cX8_isPart 33 = .ok (.goto 4, 3) := DX8_isPart_0 (33, .goto 4, 3) (List.mem_of_getElem? (i := 19) rfl)
theorem dX8_isPart_36 : decode cX8_isPart 36 = .ok (.iconst 0, 1) := DX8_isPart_0 (36, .iconst 0, 1) (List.mem_of_getElem? (i := 20) rfl)
theorem dX8_isPart_37 : decode cX8_isPart 37 = .ok (.ireturn, 1) := DX8_isPart_0 (37, .ireturn, 1) (List.mem_of_getElem? (i := 21) rfl)
abbrev rmX8_isPart : Room := { frames := 1, cells := 0, slots := 0, locals := 20 }
set_option maxHeartbeats 400000 in
set_option maxRecDepth 100000 in
theorem met_X8_isPart (l : Launch) (D : va_G) (kA : Nat → ClassId) (a : Nat → Nat) (V : Sz) (x1 : Int) {r : Bool} (hf : f_X8_isPart V x1 = some r) : MP l yX8_isPart cX8_isPart 2 (some .boolean) rmX8_isPart D kA [.ref (a 0), vI x1] (cs_X8 kA a V) (some (vI (bI r))) := by
  refine zPZ (own := RX8) rfl rfl (Nat.le_of_ble_eq_true rfl) ?_
  intro p e s m args below meth c ls Q hC hK hP hl hret
  have hl : lv_has ls 2 [(0, .ref (a 0)), (1, vI x1)] := hl
  unfold f_X8_isPart at hf
  refine ziload_n hC.1 hC.2.1 dX8_isPart_0 rfl (lv_at hl 1 rfl) <| ziconst hC.1 hC.2.1 dX8_isPart_1 <| ?_
  obtain ⟨hz_1, hf⟩ := ck_some hf
  refine zirem hC.1 hC.2.1 ⟨hz_1.1, hz_1.2, by decide, by decide⟩ dX8_isPart_2 <| lv_aload_n hC.1 hC.2.1 dX8_isPart_3 rfl (lv_at hl 0 rfl) <| gfX8_7 hC hK hP (q0 := 0) rfl rfl dX8_isPart_4 <| zsipush hC.1 hC.2.1 dX8_isPart_7 (by decide) <| ziload_n hC.1 hC.2.1 dX8_isPart_10 rfl (lv_at hl 1 rfl) <| ?_
  obtain ⟨r_2, hu, hf⟩ := bd_some hf
  have hPc : va_P D vwCl ([] : va_W) _ := hP.sub [] rfl
  refine zcSP (As := [vI x1]) (rest := [vI 293, .ref (a 1), vI (x1 % 3)]) hC hK (met_X8_giftOf l D kA x1 hu) zwX8_75 hPc rfl hl.1 rfl (Nat.le_of_ble_eq_true rfl) ⟨Nat.le_of_ble_eq_true rfl, Nat.le_of_ble_eq_true rfl⟩ ⟨rfl, rfl⟩ ⟨Nat.le_refl _, Nat.le_refl _⟩ dX8_isPart_11 <| ziadd hC.1 hC.2.1 dX8_isPart_14 <| ?_
  obtain ⟨hz_3, hf⟩ := ck_some hf
  refine jal hC hK hP (q0 := 1) rfl (Nat.le_of_ble_eq_true rfl) hz_3 rfl dX8_isPart_15 <| ?_
  obtain ⟨hz_4, hf⟩ := ck_some hf
  refine zicmp_ge (tgt := 36) hC.1 hC.2.1 ⟨hz_4.1, hz_4.2⟩ dX8_isPart_16 (by decide) (fun hc => ?_) (fun hc => ?_)
  · have hf := it_t hf hc
    exact ziconst hC.1 hC.2.1 dX8_isPart_36 <| hret (Int32.ofInt (bI false)) _ _ (zb01 _) (qZ hf) dX8_isPart_37
  · have hf := it_f hf hc
    refine ziload_n hC.1 hC.2.1 dX8_isPart_19 rfl (lv_at hl 1 rfl) <| ?_
    obtain ⟨r_5, hu, hf⟩ := bd_some hf
    have hPc : va_P D vwCl ([] : va_W) _ := hP.sub [] rfl
    refine zcSP (As := [vI x1]) (rest := []) hC hK (met_X8_giftOf l D kA x1 hu) zwX8_75 hPc rfl hl.1 rfl (Nat.le_of_ble_eq_true rfl) ⟨Nat.le_of_ble_eq_true rfl, Nat.le_of_ble_eq_true rfl⟩ ⟨rfl, rfl⟩ ⟨Nat.le_refl _, Nat.le_refl _⟩ dX8_isPart_20 <| lv_aload_n hC.1 hC.2.1 dX8_isPart_23 rfl (lv_at hl 0 rfl) <| gfX8_7 hC hK hP (q0 := 0) rfl rfl dX8_isPart_24 <| ziconst hC.1 hC.2.1 dX8_isPart_27 <| jal hC hK hP (q0 := 1) rfl (Nat.le_of_ble_eq_true rfl) (by decide) rfl dX8_isPart_28 <| ?_
    obtain ⟨hz_6, hf⟩ := ck_some hf
    refine zicmp_ge (tgt := 36) hC.1 hC.2.1 ⟨hz_6.1, hz_6.2⟩ dX8_isPart_29 (by decide) (fun hc => ?_) (fun hc => ?_)
    · have hf := it_t hf hc
      exact ziconst hC.1 hC.2.1 dX8_isPart_36 <| hret (Int32.ofInt (bI false)) _ _ (zb01 _) (qZ hf) dX8_isPart_37
    · have hf := it_f hf hc
      exact ziconst hC.1 hC.2.1 dX8_isPart_32 <| lv_goto (tgt := 37) hC.1 hC.2.1 dX8_isPart_33 (by decide) <| hret (Int32.ofInt (bI true)) _ _ (zb01 _) (qZ hf) dX8_isPart_37
theorem DX8_leftOf_0 : ∀ q ∈ ([(0, .aload_n 0, 1), (1, .getfield 7, 3), (4, .sipush 593, 3), (7, .iload_n 1, 1), (8, .iadd, 1), (9, .iaload, 1), (10, .aload_n 0, 1), (11, .getfield 7, 3), (14, .sipush 773, 3), (17, .iload_n 1, 1), (18, .iadd, 1), (19, .iaload, 1), (20, .isub, 1), (21, .ireturn, 1)] : List (Nat × Instr × Nat)), decode cX8_leftOf q.1 = .ok q.2 := by decide +kernel
theorem dX8_leftOf_0 : decode cX8_leftOf 0 = .ok (.aload_n 0, 1) := DX8_leftOf_0 (0, .aload_n 0, 1) (List.mem_of_getElem? (i := 0) rfl)
theorem dX8_leftOf_1 : decode cX8_leftOf 1 = .ok (.getfield 7, 3) := DX8_leftOf_0 (1, .getfield 7, 3) (List.mem_of_getElem? (i := 1) rfl)
theorem dX8_leftOf_4 : decode cX8_leftOf 4 = .ok (.sipush 593, 3) := DX8_leftOf_0 (4, .sipush 593, 3) (List.mem_of_getElem? (i := 2) rfl)
theorem dX8_leftOf_7 : decode cX8_leftOf 7 = .ok (.iload_n 1, 1) := DX8_leftOf_0 (7, .iload_n 1, 1) (List.mem_of_getElem? (i := 3) rfl)
theorem dX8_leftOf_8 : decode cX8_leftOf 8 = .ok (.iadd, 1) := DX8_leftOf_0 (8, .iadd, 1) (List.mem_of_getElem? (i := 4) rfl)
theorem dX8_leftOf_9 : decode cX8_leftOf 9 = .ok (.iaload, 1) := DX8_leftOf_0 (9, .iaload, 1) (List.mem_of_getElem? (i := 5) rfl)
theorem dX8_leftOf_10 : decode cX8_leftOf 10 = .ok (.aload_n 0, 1) := DX8_leftOf_0 (10, .aload_n 0, 1) (List.mem_of_getElem? (i := 6) rfl)
theorem dX8_leftOf_11 : decode cX8_leftOf 11 = .ok (.getfield 7, 3) := DX8_leftOf_0 (11, .getfield 7, 3) (List.mem_of_getElem? (i := 7) rfl)
theorem dX8_leftOf_14 : decode cX8_leftOf 14 = .ok (.sipush 773, 3) := DX8_leftOf_0 (14, .sipush 773, 3) (List.mem_of_getElem? (i := 8) rfl)
theorem dX8_leftOf_17 : decode cX8_leftOf 17 = .ok (.iload_n 1, 1) := DX8_leftOf_0 (17, .iload_n 1, 1) (List.mem_of_getElem? (i := 9) rfl)
theorem dX8_leftOf_18 : decode cX8_leftOf 18 = .ok (.iadd, 1) := DX8_leftOf_0 (18, .iadd, 1) (List.mem_of_getElem? (i := 10) rfl)
theorem dX8_leftOf_19 : decode cX8_leftOf 19 = .ok (.iaload, 1) := DX8_leftOf_0 (19, .iaload, 1) (List.mem_of_getElem? (i := 11) rfl)
theorem dX8_leftOf_20 : decode cX8_leftOf 20 = .ok (.isub, 1) := DX8_leftOf_0 (20, .isub, 1) (List.mem_of_getElem? (i := 12) rfl)
theorem dX8_leftOf_21 : decode cX8_leftOf 21 = .ok (.ireturn, 1) := DX8_leftOf_0 (21, .ireturn, 1) (List.mem_of_getElem? (i := 13) rfl)
abbrev rmX8_leftOf : Room := { frames := 0, cells := 0, slots := 0, locals := 0 }
set_option maxHeartbeats 400000 in
set_option maxRecDepth 100000 in
theorem met_X8_leftOf (l : Launch) (D : va_G) (kA : Nat → ClassId) (a : Nat → Nat) (V : Sz) (x1 : Int) {r : Int} (hf : f_X8_leftOf V x1 = some r) : MP l yX8_leftOf cX8_leftOf 2 (some .int) rmX8_leftOf D kA [.ref (a 0), vI x1] (cs_X8 kA a V) (some (vI r)) := by
  refine zPI (own := RX8) rfl rfl (Nat.le_of_ble_eq_true rfl) ?_
  intro p e s m args below meth c ls Q hC hK hP hl hret
  have hl : lv_has ls 2 [(0, .ref (a 0)), (1, vI x1)] := hl
  unfold f_X8_leftOf at hf
  refine lv_aload_n hC.1 hC.2.1 dX8_leftOf_0 rfl (lv_at hl 0 rfl) <| gfX8_7 hC hK hP (q0 := 0) rfl rfl dX8_leftOf_1 <| zsipush hC.1 hC.2.1 dX8_leftOf_4 (by decide) <| ziload_n hC.1 hC.2.1 dX8_leftOf_7 rfl (lv_at hl 1 rfl) <| ziadd hC.1 hC.2.1 dX8_leftOf_8 <| ?_
  obtain ⟨hz_1, hf⟩ := ck_some hf
  refine jal hC hK hP (q0 := 1) rfl (Nat.le_of_ble_eq_true rfl) hz_1 rfl dX8_leftOf_9 <| lv_aload_n hC.1 hC.2.1 dX8_leftOf_10 rfl (lv_at hl 0 rfl) <| gfX8_7 hC hK hP (q0 := 0) rfl rfl dX8_leftOf_11 <| zsipush hC.1 hC.2.1 dX8_leftOf_14 (by decide) <| ziload_n hC.1 hC.2.1 dX8_leftOf_17 rfl (lv_at hl 1 rfl) <| ziadd hC.1 hC.2.1 dX8_leftOf_18 <| ?_
  obtain ⟨hz_2, hf⟩ := ck_some hf
  exact jal hC hK hP (q0 := 1) rfl (Nat.le_of_ble_eq_true rfl) hz_2 rfl dX8_leftOf_19 <| zisub hC.1 hC.2.1 dX8_leftOf_20 <| hret (Int32.ofInt ((V 0 (593 + x1).toNat) - (V 0 (773 + x1).toNat))) _ _ (qI hf) dX8_leftOf_21
theorem DX8_leftOfGift_0 : ∀ q ∈ ([(0, .aload_n 0, 1), (1, .getfield 7, 3), (4, .sipush 173, 3), (7, .iload_n 1, 1), (8, .iadd, 1), (9, .iaload, 1), (10, .aload_n 0, 1), (11, .getfield 7, 3), (14, .sipush 353, 3), (17, .iload_n 1, 1), (18, .iadd, 1), (19, .iaload, 1), (20, .isub, 1), (21, .ireturn, 1)] : List (Nat × Instr × Nat)), decode cX8_leftOfGift q.1 = .ok q.2 := by decide +kernel
theorem dX8_leftOfGift_0 : decode cX8_leftOfGift 0 = .ok (.aload_n 0, 1) := DX8_leftOfGift_0 (0, .aload_n 0, 1) (List.mem_of_getElem? (i := 0) rfl)
theorem dX8_leftOfGift_1 : decode cX8_leftOfGift 1 = .ok (.getfield 7, 3) := DX8_leftOfGift_0 (1, .getfield 7, 3) (List.mem_of_getElem? (i := 1) rfl)
theorem dX8_leftOfGift_4 : decode cX8_leftOfGift 4 = .ok (.sipush 173, 3) := DX8_leftOfGift_0 (4, .sipush 173, 3) (List.mem_of_getElem? (i := 2) rfl)
theorem dX8_leftOfGift_7 : decode cX8_leftOfGift 7 = .ok (.iload_n 1, 1) := DX8_leftOfGift_0 (7, .iload_n 1, 1) (List.mem_of_getElem? (i := 3) rfl)
theorem dX8_leftOfGift_8 : decode cX8_leftOfGift 8 = .ok (.iadd, 1) := DX8_leftOfGift_0 (8, .iadd, 1) (List.mem_of_getElem? (i := 4) rfl)
theorem dX8_leftOfGift_9 : decode cX8_leftOfGift 9 = .ok (.iaload, 1) := DX8_leftOfGift_0 (9, .iaload, 1) (List.mem_of_getElem? (i := 5) rfl)
theorem dX8_leftOfGift_10 : decode cX8_leftOfGift 10 = .ok (.aload_n 0, 1) := DX8_leftOfGift_0 (10, .aload_n 0, 1) (List.mem_of_getElem? (i := 6) rfl)
theorem dX8_leftOfGift_11 : decode cX8_leftOfGift 11 = .ok (.getfield 7, 3) := DX8_leftOfGift_0 (11, .getfield 7, 3) (List.mem_of_getElem? (i := 7) rfl)
theorem dX8_leftOfGift_14 : decode cX8_leftOfGift 14 = .ok (.sipush 353, 3) := DX8_leftOfGift_0 (14, .sipush 353, 3) (List.mem_of_getElem? (i := 8) rfl)
theorem dX8_leftOfGift_17 : decode cX8_leftOfGift 17 = .ok (.iload_n 1, 1) := DX8_leftOfGift_0 (17, .iload_n 1, 1) (List.mem_of_getElem? (i := 9) rfl)
theorem dX8_leftOfGift_18 : decode cX8_leftOfGift 18 = .ok (.iadd, 1) := DX8_leftOfGift_0 (18, .iadd, 1) (List.mem_of_getElem? (i := 10) rfl)
theorem dX8_leftOfGift_19 : decode cX8_leftOfGift 19 = .ok (.iaload, 1) := DX8_leftOfGift_0 (19, .iaload, 1) (List.mem_of_getElem? (i := 11) rfl)
theorem dX8_leftOfGift_20 : decode cX8_leftOfGift 20 = .ok (.isub, 1) := DX8_leftOfGift_0 (20, .isub, 1) (List.mem_of_getElem? (i := 12) rfl)
theorem dX8_leftOfGift_21 : decode cX8_leftOfGift 21 = .ok (.ireturn, 1) := DX8_leftOfGift_0 (21, .ireturn, 1) (List.mem_of_getElem? (i := 13) rfl)
abbrev rmX8_leftOfGift : Room := { frames := 0, cells := 0, slots := 0, locals := 0 }
set_option maxHeartbeats 400000 in
set_option maxRecDepth 100000 in
theorem met_X8_leftOfGift (l : Launch) (D : va_G) (kA : Nat → ClassId) (a : Nat → Nat) (V : Sz) (x1 : Int) {r : Int} (hf : f_X8_leftOfGift V x1 = some r) : MP l yX8_leftOfGift cX8_leftOfGift 2 (some .int) rmX8_leftOfGift D kA [.ref (a 0), vI x1] (cs_X8 kA a V) (some (vI r)) := by
  refine zPI (own := RX8) rfl rfl (Nat.le_of_ble_eq_true rfl) ?_
  intro p e s m args below meth c ls Q hC hK hP hl hret
  have hl : lv_has ls 2 [(0, .ref (a 0)), (1, vI x1)] := hl
  unfold f_X8_leftOfGift at hf
  refine lv_aload_n hC.1 hC.2.1 dX8_leftOfGift_0 rfl (lv_at hl 0 rfl) <| gfX8_7 hC hK hP (q0 := 0) rfl rfl dX8_leftOfGift_1 <| zsipush hC.1 hC.2.1 dX8_leftOfGift_4 (by decide) <| ziload_n hC.1 hC.2.1 dX8_leftOfGift_7 rfl (lv_at hl 1 rfl) <| ziadd hC.1 hC.2.1 dX8_leftOfGift_8 <| ?_
  obtain ⟨hz_1, hf⟩ := ck_some hf
  refine jal hC hK hP (q0 := 1) rfl (Nat.le_of_ble_eq_true rfl) hz_1 rfl dX8_leftOfGift_9 <| lv_aload_n hC.1 hC.2.1 dX8_leftOfGift_10 rfl (lv_at hl 0 rfl) <| gfX8_7 hC hK hP (q0 := 0) rfl rfl dX8_leftOfGift_11 <| zsipush hC.1 hC.2.1 dX8_leftOfGift_14 (by decide) <| ziload_n hC.1 hC.2.1 dX8_leftOfGift_17 rfl (lv_at hl 1 rfl) <| ziadd hC.1 hC.2.1 dX8_leftOfGift_18 <| ?_
  obtain ⟨hz_2, hf⟩ := ck_some hf
  exact jal hC hK hP (q0 := 1) rfl (Nat.le_of_ble_eq_true rfl) hz_2 rfl dX8_leftOfGift_19 <| zisub hC.1 hC.2.1 dX8_leftOfGift_20 <| hret (Int32.ofInt ((V 0 (173 + x1).toNat) - (V 0 (353 + x1).toNat))) _ _ (qI hf) dX8_leftOfGift_21
theorem DX8_isSpoilt_0 : ∀ q ∈ ([(0, .aload_n 0, 1), (1, .getfield 7, 3), (4, .sipush 233, 3), (7, .iload_n 1, 1), (8, .iadd, 1), (9, .iaload, 1), (10, .bipush 100, 2), (12, .imul, 1), (13, .aload_n 0, 1), (14, .getfield 7, 3), (17, .bipush 7, 2), (19, .iaload, 1), (20, .aload_n 0, 1), (21, .getfield 7, 3), (24, .sipush 173, 3), (27, .iload_n 1, 1), (28, .iadd, 1), (29, .iaload, 1), (30, .imul, 1), (31, .if_icmp .le 7, 3), (34, .iconst 1, 1), (35, .goto 4, 3), (38, .iconst 0, 1), (39, .ireturn, 1)] : List (Nat × Instr × Nat)), decode cX8_isSpoilt q.1 = .ok q.2 := by decide +kernel
theorem dX8_isSpoilt_0 : decode cX8_isSpoilt 0 = .ok (.aload_n 0, 1) := DX8_isSpoilt_0 (0, .aload_n 0, 1) (List.mem_of_getElem? (i := 0) rfl)
theorem dX8_isSpoilt_1 : decode cX8_isSpoilt 1 = .ok (.getfield 7, 3) := DX8_isSpoilt_0 (1, .getfield 7, 3) (List.mem_of_getElem? (i := 1) rfl)
theorem dX8_isSpoilt_4 : decode cX8_isSpoilt 4 = .ok (.sipush 233, 3) := DX8_isSpoilt_0 (4, .sipush 233, 3) (List.mem_of_getElem? (i := 2) rfl)
theorem dX8_isSpoilt_7 : decode cX8_isSpoilt 7 = .ok (.iload_n 1, 1) := DX8_isSpoilt_0 (7, .iload_n 1, 1) (List.mem_of_getElem? (i := 3) rfl)
theorem dX8_isSpoilt_8 : decode cX8_isSpoilt 8 = .ok (.iadd, 1) := DX8_isSpoilt_0 (8, .iadd, 1) (List.mem_of_getElem? (i := 4) rfl)
theorem dX8_isSpoilt_9 : decode cX8_isSpoilt 9 = .ok (.iaload, 1) := DX8_isSpoilt_0 (9, .iaload, 1) (List.mem_of_getElem? (i := 5) rfl)
theorem dX8_isSpoilt_10 : decode cX8_isSpoilt 10 = .ok (.bipush 100, 2) := DX8_isSpoilt_0 (10, .bipush 100, 2) (List.mem_of_getElem? (i := 6) rfl)
theorem dX8_isSpoilt_12 : decode cX8_isSpoilt 12 = .ok (.imul, 1) := DX8_isSpoilt_0 (12, .imul, 1) (List.mem_of_getElem? (i := 7) rfl)
theorem dX8_isSpoilt_13 : decode cX8_isSpoilt 13 = .ok (.aload_n 0, 1) := DX8_isSpoilt_0 (13, .aload_n 0, 1) (List.mem_of_getElem? (i := 8) rfl)
theorem dX8_isSpoilt_14 : decode cX8_isSpoilt 14 = .ok (.getfield 7, 3) := DX8_isSpoilt_0 (14, .getfield 7, 3) (List.mem_of_getElem? (i := 9) rfl)
theorem dX8_isSpoilt_17 : decode cX8_isSpoilt 17 = .ok (.bipush 7, 2) := DX8_isSpoilt_0 (17, .bipush 7, 2) (List.mem_of_getElem? (i := 10) rfl)
theorem dX8_isSpoilt_19 : decode cX8_isSpoilt 19 = .ok (.iaload, 1) := DX8_isSpoilt_0 (19, .iaload, 1) (List.mem_of_getElem? (i := 11) rfl)
theorem dX8_isSpoilt_20 : decode cX8_isSpoilt 20 = .ok (.aload_n 0, 1) := DX8_isSpoilt_0 (20, .aload_n 0, 1) (List.mem_of_getElem? (i := 12) rfl)
theorem dX8_isSpoilt_21 : decode cX8_isSpoilt 21 = .ok (.getfield 7, 3) := DX8_isSpoilt_0 (21, .getfield 7, 3) (List.mem_of_getElem? (i := 13) rfl)
theorem dX8_isSpoilt_24 : decode cX8_isSpoilt 24 = .ok (.sipush 173, 3) := DX8_isSpoilt_0 (24, .sipush 173, 3) (List.mem_of_getElem? (i := 14) rfl)
theorem dX8_isSpoilt_27 : decode cX8_isSpoilt 27 = .ok (.iload_n 1, 1) := DX8_isSpoilt_0 (27, .iload_n 1, 1) (List.mem_of_getElem? (i := 15) rfl)
theorem dX8_isSpoilt_28 : decode cX8_isSpoilt 28 = .ok (.iadd, 1) := DX8_isSpoilt_0 (28, .iadd, 1) (List.mem_of_getElem? (i := 16) rfl)
theorem dX8_isSpoilt_29 : decode cX8_isSpoilt 29 = .ok (.iaload, 1) := DX8_isSpoilt_0 (29, .iaload, 1) (List.mem_of_getElem? (i := 17) rfl)
theorem dX8_isSpoilt_30 : decode cX8_isSpoilt 30 = .ok (.imul, 1) := DX8_isSpoilt_0 (30, .imul, 1) (List.mem_of_getElem? (i := 18) rfl)
theorem dX8_isSpoilt_31 : decode cX8_isSpoilt 31 = .ok (.if_icmp .le 7, 3) := DX8_isSpoilt_0 (31, .if_icmp .le 7, 3) (List.mem_of_getElem? (i := 19) rfl)
theorem dX8_isSpoilt_34 : decode cX8_isSpoilt 34 = .ok (.iconst 1, 1) := DX8_isSpoilt_0 (34, .iconst 1, 1) (List.mem_of_getElem? (i := 20) rfl)
theorem dX8_isSpoilt_35 : decode cX8_isSpoilt 35 = .ok (.goto 4, 3) := DX8_isSpoilt_0 (35, .goto 4, 3) (List.mem_of_getElem? (i := 21) rfl)
theorem dX8_isSpoilt_38 : decode cX8_isSpoilt 38 = .ok (.iconst 0, 1) := DX8_isSpoilt_0 (38, .iconst 0, 1) (List.mem_of_getElem? (i := 22) rfl)
theorem dX8_isSpoilt_39 : decode cX8_isSpoilt 39 = .ok (.ireturn, 1) := DX8_isSpoilt_0 (39, .ireturn, 1) (List.mem_of_getElem? (i := 23) rfl)
abbrev rmX8_isSpoilt : Room := { frames := 0, cells := 0, slots := 0, locals := 0 }
set_option maxHeartbeats 400000 in
set_option maxRecDepth 100000 in
theorem met_X8_isSpoilt (l : Launch) (D : va_G) (kA : Nat → ClassId) (a : Nat → Nat) (V : Sz) (x1 : Int) {r : Bool} (hf : f_X8_isSpoilt V x1 = some r) : MP l yX8_isSpoilt cX8_isSpoilt 2 (some .boolean) rmX8_isSpoilt D kA [.ref (a 0), vI x1] (cs_X8 kA a V) (some (vI (bI r))) := by
  refine zPZ (own := RX8) rfl rfl (Nat.le_of_ble_eq_true rfl) ?_
  intro p e s m args below meth c ls Q hC hK hP hl hret
  have hl : lv_has ls 2 [(0, .ref (a 0)), (1, vI x1)] := hl
  unfold f_X8_isSpoilt at hf
  refine lv_aload_n hC.1 hC.2.1 dX8_isSpoilt_0 rfl (lv_at hl 0 rfl) <| gfX8_7 hC hK hP (q0 := 0) rfl rfl dX8_isSpoilt_1 <| zsipush hC.1 hC.2.1 dX8_isSpoilt_4 (by decide) <| ziload_n hC.1 hC.2.1 dX8_isSpoilt_7 rfl (lv_at hl 1 rfl) <| ziadd hC.1 hC.2.1 dX8_isSpoilt_8 <| ?_
  obtain ⟨hz_1, hf⟩ := ck_some hf
  refine jal hC hK hP (q0 := 1) rfl (Nat.le_of_ble_eq_true rfl) hz_1 rfl dX8_isSpoilt_9 <| zbipush hC.1 hC.2.1 dX8_isSpoilt_10 (by decide) <| zimul hC.1 hC.2.1 dX8_isSpoilt_12 <| lv_aload_n hC.1 hC.2.1 dX8_isSpoilt_13 rfl (lv_at hl 0 rfl) <| gfX8_7 hC hK hP (q0 := 0) rfl rfl dX8_isSpoilt_14 <| zbipush hC.1 hC.2.1 dX8_isSpoilt_17 (by decide) <| jal hC hK hP (q0 := 1) rfl (Nat.le_of_ble_eq_true rfl) (by decide) rfl dX8_isSpoilt_19 <| lv_aload_n hC.1 hC.2.1 dX8_isSpoilt_20 rfl (lv_at hl 0 rfl) <| gfX8_7 hC hK hP (q0 := 0) rfl rfl dX8_isSpoilt_21 <| zsipush hC.1 hC.2.1 dX8_isSpoilt_24 (by decide) <| ziload_n hC.1 hC.2.1 dX8_isSpoilt_27 rfl (lv_at hl 1 rfl) <| ziadd hC.1 hC.2.1 dX8_isSpoilt_28 <| ?_
  obtain ⟨hz_2, hf⟩ := ck_some hf
  refine jal hC hK hP (q0 := 1) rfl (Nat.le_of_ble_eq_true rfl) hz_2 rfl dX8_isSpoilt_29 <| zimul hC.1 hC.2.1 dX8_isSpoilt_30 <| ?_
  obtain ⟨hz_3, hf⟩ := ck_some hf
  refine zicmp_le (tgt := 38) hC.1 hC.2.1 ⟨hz_3.1, hz_3.2⟩ dX8_isSpoilt_31 (by decide) (fun hc => ?_) (fun hc => ?_)
  · have hf := it_t hf hc
    exact ziconst hC.1 hC.2.1 dX8_isSpoilt_38 <| hret (Int32.ofInt (bI false)) _ _ (zb01 _) (qZ hf) dX8_isSpoilt_39
  · have hf := it_f hf hc
    exact ziconst hC.1 hC.2.1 dX8_isSpoilt_34 <| lv_goto (tgt := 39) hC.1 hC.2.1 dX8_isSpoilt_35 (by decide) <| hret (Int32.ofInt (bI true)) _ _ (zb01 _) (qZ hf) dX8_isSpoilt_39
theorem DX8_isForced_0 : ∀ q ∈ ([(0, .iconst 0, 1), (1, .istore_n 3, 1), (2, .iload_n 3, 1), (3, .aload_n 0, 1), (4, .getfield 7, 3), (7, .iconst 1, 1), (8, .iaload, 1), (9, .if_icmp .ge 49, 3), (12, .aload_n 0, 1), (13, .getfield 7, 3), (16, .bipush 20, 2), (18, .iload_n 3, 1), (19, .iadd, 1), (20, .iaload, 1), (21, .iload_n 1, 1), (22, .if_icmp .ne 30, 3), (25, .iload_n 2, 1), (26, .aload_n 0, 1), (27, .getfield 7, 3), (30, .bipush 51, 2), (32, .iload_n 3, 1), (33, .iadd, 1), (34, .iaload, 1), (35, .aload_n 0, 1), (36, .getfield 7, 3), (39, .bipush 82, 2), (41, .iload_n 3, 1), (42, .iadd, 1), (43, .iaload, 1), (44, .invokestatic 79, 3), (47, .ifCond .eq 5, 3), (50, .iconst 1, 1), (51, .ireturn, 1), (52, .iinc 3 1, 3), (55, .goto (-53), 3), (58, .iconst 0, 1), (59, .ireturn, 1)] : List (Nat × Instr × Nat)), decode cX8_isForced q.1 = .ok q.2 := by decide +kernel
theorem dX8_isForced_0 : decode cX8_isForced 0 = .ok (.iconst 0, 1) := DX8_isForced_0 (0, .iconst 0, 1) (List.mem_of_getElem? (i := 0) rfl)
theorem dX8_isForced_1 : decode cX8_isForced 1 = .ok (.istore_n 3, 1) := DX8_isForced_0 (1, .istore_n 3, 1) (List.mem_of_getElem? (i := 1) rfl)
theorem dX8_isForced_2 : decode cX8_isForced 2 = .ok (.iload_n 3, 1) := DX8_isForced_0 (2, .iload_n 3, 1) (List.mem_of_getElem? (i := 2) rfl)
theorem dX8_isForced_3 : decode cX8_isForced 3 = .ok (.aload_n 0, 1) := DX8_isForced_0 (3, .aload_n 0, 1) (List.mem_of_getElem? (i := 3) rfl)
theorem dX8_isForced_4 : decode cX8_isForced 4 = .ok (.getfield 7, 3) := DX8_isForced_0 (4, .getfield 7, 3) (List.mem_of_getElem? (i := 4) rfl)
theorem dX8_isForced_7 : decode cX8_isForced 7 = .ok (.iconst 1, 1) := DX8_isForced_0 (7, .iconst 1, 1) (List.mem_of_getElem? (i := 5) rfl)
theorem dX8_isForced_8 : decode cX8_isForced 8 = .ok (.iaload, 1) := DX8_isForced_0 (8, .iaload, 1) (List.mem_of_getElem? (i := 6) rfl)
theorem dX8_isForced_9 : decode cX8_isForced 9 = .ok (.if_icmp .ge 49, 3) := DX8_isForced_0 (9, .if_icmp .ge 49, 3) (List.mem_of_getElem? (i := 7) rfl)
theorem dX8_isForced_12 : decode cX8_isForced 12 = .ok (.aload_n 0, 1) := DX8_isForced_0 (12, .aload_n 0, 1) (List.mem_of_getElem? (i := 8) rfl)
theorem dX8_isForced_13 : decode cX8_isForced 13 = .ok (.getfield 7, 3) := DX8_isForced_0 (13, .getfield 7, 3) (List.mem_of_getElem? (i := 9) rfl)
theorem dX8_isForced_16 : decode cX8_isForced 16 = .ok (.bipush 20, 2) := DX8_isForced_0 (16, .bipush 20, 2) (List.mem_of_getElem? (i := 10) rfl)
theorem dX8_isForced_18 : decode cX8_isForced 18 = .ok (.iload_n 3, 1) := DX8_isForced_0 (18, .iload_n 3, 1) (List.mem_of_getElem? (i := 11) rfl)
theorem dX8_isForced_19 : decode cX8_isForced 19 = .ok (.iadd, 1) := DX8_isForced_0 (19, .iadd, 1) (List.mem_of_getElem? (i := 12) rfl)
theorem dX8_isForced_20 : decode cX8_isForced 20 = .ok (.iaload, 1) := DX8_isForced_0 (20, .iaload, 1) (List.mem_of_getElem? (i := 13) rfl)
theorem dX8_isForced_21 : decode cX8_isForced 21 = .ok (.iload_n 1, 1) := DX8_isForced_0 (21, .iload_n 1, 1) (List.mem_of_getElem? (i := 14) rfl)
theorem dX8_isForced_22 : decode cX8_isForced 22 = .ok (.if_icmp .ne 30, 3) := DX8_isForced_0 (22, .if_icmp .ne 30, 3) (List.mem_of_getElem? (i := 15) rfl)
theorem dX8_isForced_25 : decode cX8_isForced 25 = .ok (.iload_n 2, 1) := DX8_isForced_0 (25, .iload_n 2, 1) (List.mem_of_getElem? (i := 16) rfl)
theorem dX8_isForced_26 : decode cX8_isForced 26 = .ok (.aload_n 0, 1) := DX8_isForced_0 (26, .aload_n 0, 1) (List.mem_of_getElem? (i := 17) rfl)
theorem dX8_isForced_27 : decode cX8_isForced 27 = .ok (.getfield 7, 3) := DX8_isForced_0 (27, .getfield 7, 3) (List.mem_of_getElem? (i := 18) rfl)
theorem dX8_isForced_30 : decode cX8_isForced 30 = .ok (.bipush 51, 2) := DX8_isForced_0 (30, .bipush 51, 2) (List.mem_of_getElem? (i := 19) rfl)
theorem dX8_isForced_32 : decode cX8_isForced 32 = .ok (.iload_n 3, 1) := DX8_isForced_0 (32, .iload_n 3, 1) (List.mem_of_getElem? (i := 20) rfl)
theorem dX8_isForced_33 : decode cX8_isForced 33 = .ok (.iadd, 1) := DX8_isForced_0 (33, .iadd, 1) (List.mem_of_getElem? (i := 21) rfl)
theorem dX8_isForced_34 : decode cX8_isForced 34 = .ok (.iaload, 1) := DX8_isForced_0 (34, .iaload, 1) (List.mem_of_getElem? (i := 22) rfl)
theorem dX8_isForced_35 : decode cX8_isForced 35 = .ok (.aload_n 0, 1) := DX8_isForced_0 (35, .aload_n 0, 1) (List.mem_of_getElem? (i := 23) rfl)
theorem dX8_isForced_36 : decode cX8_isForced 36 = .ok (.getfield 7, 3) := DX8_isForced_0 (36, .getfield 7, 3) (List.mem_of_getElem? (i := 24) rfl)
theorem dX8_isForced_39 : decode cX8_isForced 39 = .ok (.bipush 82, 2) := DX8_isForced_0 (39, .bipush 82, 2) (List.mem_of_getElem? (i := 25) rfl)
theorem dX8_isForced_41 : decode cX8_isForced 41 = .ok (.iload_n 3, 1) := DX8_isForced_0 (41, .iload_n 3, 1) (List.mem_of_getElem? (i := 26) rfl)
theorem dX8_isForced_42 : decode cX8_isForced 42 = .ok (.iadd, 1) := DX8_isForced_0 (42, .iadd, 1) (List.mem_of_getElem? (i := 27) rfl)
theorem dX8_isForced_43 : decode cX8_isForced 43 = .ok (.iaload, 1) := DX8_isForced_0 (43, .iaload, 1) (List.mem_of_getElem? (i := 28) rfl)
theorem dX8_isForced_44 : decode cX8_isForced 44 = .ok (.invokestatic 79, 3) := DX8_isForced_0 (44, .invokestatic 79, 3) (List.mem_of_getElem? (i := 29) rfl)
theorem dX8_isForced_47 : decode cX8_isForced 47 = .ok (.ifCond .eq 5, 3) := DX8_isForced_0 (47, .ifCond .eq 5, 3) (List.mem_of_getElem? (i := 30) rfl)
theorem dX8_isForced_50 : decode cX8_isForced 50 = .ok (.iconst 1, 1) := DX8_isForced_0 (50, .iconst 1, 1) (List.mem_of_getElem? (i := 31) rfl)
theorem dX8_isForced_51 : decode cX8_isForced 51 = .ok (.ireturn, 1) := DX8_isForced_0 (51, .ireturn, 1) (List.mem_of_getElem? (i := 32) rfl)
theorem dX8_isForced_52 : decode cX8_isForced 52 = .ok (.iinc 3 1, 3) := DX8_isForced_0 (52, .iinc 3 1, 3) (List.mem_of_getElem? (i := 33) rfl)
theorem dX8_isForced_55 : decode cX8_isForced 55 = .ok (.goto (-53), 3) := DX8_isForced_0 (55, .goto (-53), 3) (List.mem_of_getElem? (i := 34) rfl)
theorem dX8_isForced_58 : decode cX8_isForced 58 = .ok (.iconst 0, 1) := DX8_isForced_0 (58, .iconst 0, 1) (List.mem_of_getElem? (i := 35) rfl)
theorem dX8_isForced_59 : decode cX8_isForced 59 = .ok (.ireturn, 1) := DX8_isForced_0 (59, .ireturn, 1) (List.mem_of_getElem? (i := 36) rfl)
abbrev rmX8_isForced : Room := { frames := 1, cells := 0, slots := 0, locals := 22 }
set_option maxHeartbeats 400000 in
set_option maxRecDepth 100000 in
theorem met_X8_isForced (l : Launch) (D : va_G) (kA : Nat → ClassId) (a : Nat → Nat) (n : Nat) (V : Sz) (x1 : Int) (x2 : Int) {r : Bool} (hf : f_X8_isForced n V x1 x2 = some r) : MP l yX8_isForced cX8_isForced 4 (some .boolean) rmX8_isForced D kA [.ref (a 0), vI x1, vI x2] (cs_X8 kA a V) (some (vI (bI r))) := by
  refine zPZ (own := RX8) rfl rfl (Nat.le_of_ble_eq_true rfl) ?_
  intro p e s m args below meth c ls Q hC hK hP hl hret
  have hl : lv_has ls 4 [(0, .ref (a 0)), (1, vI x1), (2, vI x2)] := hl
  unfold f_X8_isForced at hf
  have L2 : ∀ (k2 : Nat) (y3 : Int) (ls : Array Slot), lpF (bX8_isForced_2 n V x1 x2) k2 y3 = some r → lv_has ls 4 [(0, .ref (a 0)), (1, vI x1), (2, vI x2), (3, vI y3)] → W p l e rmX8_isForced s m args below meth c s.heap [] 0 0 Q (F0 m 2 ls []) := by
    intro k2
    induction k2 with
    | zero => intro y3 ls hf hl; exact lp_0 hf
    | succ k2 ih2 =>
      intro y3 ls hf hl
      have hf := lp_s hf
      rw [bX8_isForced_2_e] at hf
      have J52 : ∀ (y3 : Int) (ls : Array Slot), jX8_isForced_52 n V x1 x2 (lpF (bX8_isForced_2 n V x1 x2) k2) y3 = some r → lv_has ls 4 [(0, .ref (a 0)), (1, vI x1), (2, vI x2), (3, vI y3)] → W p l e rmX8_isForced s m args below meth c s.heap [] 0 0 Q (F0 m 52 ls []) := by
        intro y3 ls hf hl
        unfold jX8_isForced_52 at hf
        obtain ⟨x_4, ex_4⟩ : ∃ y : Int, y = y3 + 1 := ⟨_, rfl⟩
        have hf := nm_at hf ex_4
        refine ziinc (v := x_4) (lv' := [(3, vI x_4), (0, .ref (a 0)), (1, vI x1), (2, vI x2)]) hC.1 hC.2.1 dX8_isForced_52 hl (k := 3) rfl ex_4 (by decide) rfl (fun ls hl => ?_)
        exact lv_goto (tgt := 2) hC.1 hC.2.1 dX8_isForced_55 (by decide) <| ih2 _ _ hf (lv_sub hl [1, 2, 3, 0] rfl)
      refine ziload_n hC.1 hC.2.1 dX8_isForced_2 rfl (lv_at hl 3 rfl) <| lv_aload_n hC.1 hC.2.1 dX8_isForced_3 rfl (lv_at hl 0 rfl) <| gfX8_7 hC hK hP (q0 := 0) rfl rfl dX8_isForced_4 <| ziconst hC.1 hC.2.1 dX8_isForced_7 <| jal hC hK hP (q0 := 1) rfl (Nat.le_of_ble_eq_true rfl) (by decide) rfl dX8_isForced_8 <| ?_
      obtain ⟨hz_1, hf⟩ := ck_some hf
      refine zicmp_ge (tgt := 58) hC.1 hC.2.1 ⟨hz_1.1, hz_1.2⟩ dX8_isForced_9 (by decide) (fun hc => ?_) (fun hc => ?_)
      · have hf := it_t hf hc
        exact ziconst hC.1 hC.2.1 dX8_isForced_58 <| hret (Int32.ofInt (bI false)) _ _ (zb01 _) (qZ hf) dX8_isForced_59
      · have hf := it_f hf hc
        refine lv_aload_n hC.1 hC.2.1 dX8_isForced_12 rfl (lv_at hl 0 rfl) <| gfX8_7 hC hK hP (q0 := 0) rfl rfl dX8_isForced_13 <| zbipush hC.1 hC.2.1 dX8_isForced_16 (by decide) <| ziload_n hC.1 hC.2.1 dX8_isForced_18 rfl (lv_at hl 3 rfl) <| ziadd hC.1 hC.2.1 dX8_isForced_19 <| ?_
        obtain ⟨hz_2, hf⟩ := ck_some hf
        refine jal hC hK hP (q0 := 1) rfl (Nat.le_of_ble_eq_true rfl) hz_2 rfl dX8_isForced_20 <| ziload_n hC.1 hC.2.1 dX8_isForced_21 rfl (lv_at hl 1 rfl) <| ?_
        obtain ⟨hz_3, hf⟩ := ck_some hf
        refine zicmp_ne (tgt := 52) hC.1 hC.2.1 ⟨hz_3.1, hz_3.2⟩ dX8_isForced_22 (by decide) (fun hc => ?_) (fun hc => ?_)
        · have hf := it_f hf hc
          exact J52 _ _ hf (lv_sub hl [0, 1, 2, 3] rfl)
        · have hf := it_t hf hc
          refine ziload_n hC.1 hC.2.1 dX8_isForced_25 rfl (lv_at hl 2 rfl) <| lv_aload_n hC.1 hC.2.1 dX8_isForced_26 rfl (lv_at hl 0 rfl) <| gfX8_7 hC hK hP (q0 := 0) rfl rfl dX8_isForced_27 <| zbipush hC.1 hC.2.1 dX8_isForced_30 (by decide) <| ziload_n hC.1 hC.2.1 dX8_isForced_32 rfl (lv_at hl 3 rfl) <| ziadd hC.1 hC.2.1 dX8_isForced_33 <| ?_
          obtain ⟨hz_5, hf⟩ := ck_some hf
          refine jal hC hK hP (q0 := 1) rfl (Nat.le_of_ble_eq_true rfl) hz_5 rfl dX8_isForced_34 <| lv_aload_n hC.1 hC.2.1 dX8_isForced_35 rfl (lv_at hl 0 rfl) <| gfX8_7 hC hK hP (q0 := 0) rfl rfl dX8_isForced_36 <| zbipush hC.1 hC.2.1 dX8_isForced_39 (by decide) <| ziload_n hC.1 hC.2.1 dX8_isForced_41 rfl (lv_at hl 3 rfl) <| ziadd hC.1 hC.2.1 dX8_isForced_42 <| ?_
          obtain ⟨hz_6, hf⟩ := ck_some hf
          refine jal hC hK hP (q0 := 1) rfl (Nat.le_of_ble_eq_true rfl) hz_6 rfl dX8_isForced_43 <| ?_
          obtain ⟨r_7, hu, hf⟩ := bd_some hf
          have hPc : va_P D vwCl ([] : va_W) _ := hP.sub [] rfl
          refine zcSP (As := [vI x2, vI (V 0 (51 + y3).toNat), vI (V 0 (82 + y3).toNat)]) (rest := []) hC hK (met_X8_inRange l D kA x2 (V 0 (51 + y3).toNat) (V 0 (82 + y3).toNat) hu) zwX8_79 hPc rfl hl.1 rfl (Nat.le_of_ble_eq_true rfl) ⟨Nat.le_of_ble_eq_true rfl, Nat.le_of_ble_eq_true rfl⟩ ⟨rfl, rfl⟩ ⟨Nat.le_refl _, Nat.le_refl _⟩ dX8_isForced_44 <| zifb_eq (tgt := 52) hC.1 hC.2.1 dX8_isForced_47 (by decide) (fun hc => ?_) (fun hc => ?_)
          · have hf := it_t hf hc
            exact J52 _ _ hf (lv_sub hl [0, 1, 2, 3] rfl)
          · have hf := it_f hf hc
            exact ziconst hC.1 hC.2.1 dX8_isForced_50 <| hret (Int32.ofInt (bI true)) _ _ (zb01 _) (qZ hf) dX8_isForced_51
  refine ziconst hC.1 hC.2.1 dX8_isForced_0 <| zistore_n (lv' := [(3, vI 0), (0, .ref (a 0)), (1, vI x1), (2, vI x2)]) hC.1 hC.2.1 dX8_isForced_1 rfl hl (by decide) rfl (fun ls hl => ?_)
  exact L2 n _ _ hf (lv_sub hl [1, 2, 3, 0] rfl)
theorem DX8_dayOf_0 : ∀ q ∈ ([(0, .aload_n 0, 1), (1, .getfield 7, 3), (4, .bipush 113, 2), (6, .iload_n 1, 1), (7, .invokestatic 75, 3), (10, .iadd, 1), (11, .iaload, 1), (12, .ireturn, 1)] : List (Nat × Instr × Nat)), decode cX8_dayOf q.1 = .ok q.2 := by decide +kernel
theorem dX8_dayOf_0 : decode cX8_dayOf 0 = .ok (.aload_n 0, 1) := DX8_dayOf_0 (0, .aload_n 0, 1) (List.mem_of_getElem? (i := 0) rfl)
theorem dX8_dayOf_1 : decode cX8_dayOf 1 = .ok (.getfield 7, 3) := DX8_dayOf_0 (1, .getfield 7, 3) (List.mem_of_getElem? (i := 1) rfl)
theorem dX8_dayOf_4 : decode cX8_dayOf 4 = .ok (.bipush 113, 2) := DX8_dayOf_0 (4, .bipush 113, 2) (List.mem_of_getElem? (i := 2) rfl)
theorem dX8_dayOf_6 : decode cX8_dayOf 6 = .ok (.iload_n 1, 1) := DX8_dayOf_0 (6, .iload_n 1, 1) (List.mem_of_getElem? (i := 3) rfl)
theorem dX8_dayOf_7 : decode cX8_dayOf 7 = .ok (.invokestatic 75, 3) := DX8_dayOf_0 (7, .invokestatic 75, 3) (List.mem_of_getElem? (i := 4) rfl)
theorem dX8_dayOf_10 : decode cX8_dayOf 10 = .ok (.iadd, 1) := DX8_dayOf_0 (10, .iadd, 1) (List.mem_of_getElem? (i := 5) rfl)
theorem dX8_dayOf_11 : decode cX8_dayOf 11 = .ok (.iaload, 1) := DX8_dayOf_0 (11, .iaload, 1) (List.mem_of_getElem? (i := 6) rfl)
theorem dX8_dayOf_12 : decode cX8_dayOf 12 = .ok (.ireturn, 1) := DX8_dayOf_0 (12, .ireturn, 1) (List.mem_of_getElem? (i := 7) rfl)
abbrev rmX8_dayOf : Room := { frames := 1, cells := 0, slots := 0, locals := 20 }
set_option maxHeartbeats 400000 in
set_option maxRecDepth 100000 in
theorem met_X8_dayOf (l : Launch) (D : va_G) (kA : Nat → ClassId) (a : Nat → Nat) (V : Sz) (x1 : Int) {r : Int} (hf : f_X8_dayOf V x1 = some r) : MP l yX8_dayOf cX8_dayOf 2 (some .int) rmX8_dayOf D kA [.ref (a 0), vI x1] (cs_X8 kA a V) (some (vI r)) := by
  refine zPI (own := RX8) rfl rfl (Nat.le_of_ble_eq_true rfl) ?_
  intro p e s m args below meth c ls Q hC hK hP hl hret
  have hl : lv_has ls 2 [(0, .ref (a 0)), (1, vI x1)] := hl
  unfold f_X8_dayOf at hf
  refine lv_aload_n hC.1 hC.2.1 dX8_dayOf_0 rfl (lv_at hl 0 rfl) <| gfX8_7 hC hK hP (q0 := 0) rfl rfl dX8_dayOf_1 <| zbipush hC.1 hC.2.1 dX8_dayOf_4 (by decide) <| ziload_n hC.1 hC.2.1 dX8_dayOf_6 rfl (lv_at hl 1 rfl) <| ?_
  obtain ⟨r_1, hu, hf⟩ := bd_some hf
  have hPc : va_P D vwCl ([] : va_W) _ := hP.sub [] rfl
  refine zcSP (As := [vI x1]) (rest := [vI 113, .ref (a 1)]) hC hK (met_X8_giftOf l D kA x1 hu) zwX8_75 hPc rfl hl.1 rfl (Nat.le_of_ble_eq_true rfl) ⟨Nat.le_of_ble_eq_true rfl, Nat.le_of_ble_eq_true rfl⟩ ⟨rfl, rfl⟩ ⟨Nat.le_refl _, Nat.le_refl _⟩ dX8_dayOf_7 <| ziadd hC.1 hC.2.1 dX8_dayOf_10 <| ?_
  obtain ⟨hz_2, hf⟩ := ck_some hf
  exact jal hC hK hP (q0 := 1) rfl (Nat.le_of_ble_eq_true rfl) hz_2 rfl dX8_dayOf_11 <| hret (Int32.ofInt (V 0 (113 + r_1).toNat)) _ _ (qI hf) dX8_dayOf_12
theorem DX8_yearOf_0 : ∀ q ∈ ([(0, .aload_n 0, 1), (1, .iload_n 1, 1), (2, .invokevirtual 83, 3), (5, .sipush 365, 3), (8, .idiv, 1), (9, .ireturn, 1)] : List (Nat × Instr × Nat)), decode cX8_yearOf q.1 = .ok q.2 := by decide +kernel
theorem dX8_yearOf_0 : decode cX8_yearOf 0 = .ok (.aload_n 0, 1) := DX8_yearOf_0 (0, .aload_n 0, 1) (List.mem_of_getElem? (i := 0) rfl)
theorem dX8_yearOf_1 : decode cX8_yearOf 1 = .ok (.iload_n 1, 1) := DX8_yearOf_0 (1, .iload_n 1, 1) (List.mem_of_getElem? (i := 1) rfl)
theorem dX8_yearOf_2 : decode cX8_yearOf 2 = .ok (.invokevirtual 83, 3) := DX8_yearOf_0 (2, .invokevirtual 83, 3) (List.mem_of_getElem? (i := 2) rfl)
theorem dX8_yearOf_5 : decode cX8_yearOf 5 = .ok (.sipush 365, 3) := DX8_yearOf_0 (5, .sipush 365, 3) (List.mem_of_getElem? (i := 3) rfl)
theorem dX8_yearOf_8 : decode cX8_yearOf 8 = .ok (.idiv, 1) := DX8_yearOf_0 (8, .idiv, 1) (List.mem_of_getElem? (i := 4) rfl)
theorem dX8_yearOf_9 : decode cX8_yearOf 9 = .ok (.ireturn, 1) := DX8_yearOf_0 (9, .ireturn, 1) (List.mem_of_getElem? (i := 5) rfl)
abbrev rmX8_yearOf : Room := { frames := 2, cells := 0, slots := 0, locals := 41 }
set_option maxHeartbeats 400000 in
set_option maxRecDepth 100000 in
theorem met_X8_yearOf (l : Launch) (D : va_G) (kA : Nat → ClassId) (a : Nat → Nat) (V : Sz) (x1 : Int) {r : Int} (hf : f_X8_yearOf V x1 = some r) : MP l yX8_yearOf cX8_yearOf 2 (some .int) rmX8_yearOf D kA [.ref (a 0), vI x1] (cs_X8 kA a V) (some (vI r)) := by
  refine zPI (own := RX8) rfl rfl (Nat.le_of_ble_eq_true rfl) ?_
  intro p e s m args below meth c ls Q hC hK hP hl hret
  have hl : lv_has ls 2 [(0, .ref (a 0)), (1, vI x1)] := hl
  unfold f_X8_yearOf at hf
  refine lv_aload_n hC.1 hC.2.1 dX8_yearOf_0 rfl (lv_at hl 0 rfl) <| ziload_n hC.1 hC.2.1 dX8_yearOf_1 rfl (lv_at hl 1 rfl) <| ?_
  obtain ⟨r_1, hu, hf⟩ := bd_some hf
  refine zcVP (As := [vI x1]) (rest := []) hC hK (met_X8_dayOf l D kA a V x1 hu) zwX8_83 hP (q0 := 0) rfl rfl rfl rfl hl.1 rfl (Nat.le_of_ble_eq_true rfl) ⟨Nat.le_of_ble_eq_true rfl, Nat.le_of_ble_eq_true rfl⟩ ⟨rfl, rfl⟩ ⟨Nat.le_refl _, Nat.le_refl _⟩ dX8_yearOf_2 <| zsipush hC.1 hC.2.1 dX8_yearOf_5 (by decide) <| ?_
  obtain ⟨hz_2, hf⟩ := ck_some hf
  exact zidiv hC.1 hC.2.1 ⟨hz_2.1, hz_2.2, by decide, by decide⟩ dX8_yearOf_8 <| hret (Int32.ofInt (r_1 / 365)) _ _ (qI hf) dX8_yearOf_9
theorem DX8_full_0 : ∀ q ∈ ([(0, .aload_n 0, 1), (1, .iload_n 1, 1), (2, .invokevirtual 86, 3), (5, .aload_n 0, 1), (6, .getfield 7, 3), (9, .iconst 5, 1), (10, .iaload, 1), (11, .imul, 1), (12, .bipush 100, 2), (14, .idiv, 1), (15, .ireturn, 1)] : List (Nat × Instr × Nat)), decode cX8_full q.1 = .ok q.2 := by decide +kernel
theorem dX8_full_0 : decode cX8_full 0 = .ok (.aload_n 0, 1) := DX8_full_0 (0, .aload_n 0, 1) (List.mem_of_getElem? (i := 0) rfl)
theorem dX8_full_1 : decode cX8_full 1 = .ok (.iload_n 1, 1) := DX8_full_0 (1, .iload_n 1, 1) (List.mem_of_getElem? (i := 1) rfl)
theorem dX8_full_2 : decode cX8_full 2 = .ok (.invokevirtual 86, 3) := DX8_full_0 (2, .invokevirtual 86, 3) (List.mem_of_getElem? (i := 2) rfl)
theorem dX8_full_5 : decode cX8_full 5 = .ok (.aload_n 0, 1) := DX8_full_0 (5, .aload_n 0, 1) (List.mem_of_getElem? (i := 3) rfl)
theorem dX8_full_6 : decode cX8_full 6 = .ok (.getfield 7, 3) := DX8_full_0 (6, .getfield 7, 3) (List.mem_of_getElem? (i := 4) rfl)
theorem dX8_full_9 : decode cX8_full 9 = .ok (.iconst 5, 1) := DX8_full_0 (9, .iconst 5, 1) (List.mem_of_getElem? (i := 5) rfl)
theorem dX8_full_10 : decode cX8_full 10 = .ok (.iaload, 1) := DX8_full_0 (10, .iaload, 1) (List.mem_of_getElem? (i := 6) rfl)
theorem dX8_full_11 : decode cX8_full 11 = .ok (.imul, 1) := DX8_full_0 (11, .imul, 1) (List.mem_of_getElem? (i := 7) rfl)
theorem dX8_full_12 : decode cX8_full 12 = .ok (.bipush 100, 2) := DX8_full_0 (12, .bipush 100, 2) (List.mem_of_getElem? (i := 8) rfl)
theorem dX8_full_14 : decode cX8_full 14 = .ok (.idiv, 1) := DX8_full_0 (14, .idiv, 1) (List.mem_of_getElem? (i := 9) rfl)
theorem dX8_full_15 : decode cX8_full 15 = .ok (.ireturn, 1) := DX8_full_0 (15, .ireturn, 1) (List.mem_of_getElem? (i := 10) rfl)
abbrev rmX8_full : Room := { frames := 1, cells := 0, slots := 0, locals := 21 }
set_option maxHeartbeats 400000 in
set_option maxRecDepth 100000 in
theorem met_X8_full (l : Launch) (D : va_G) (kA : Nat → ClassId) (a : Nat → Nat) (V : Sz) (x1 : Int) {r : Int} (hf : f_X8_full V x1 = some r) : MP l yX8_full cX8_full 2 (some .int) rmX8_full D kA [.ref (a 0), vI x1] (cs_X8 kA a V) (some (vI r)) := by
  refine zPI (own := RX8) rfl rfl (Nat.le_of_ble_eq_true rfl) ?_
  intro p e s m args below meth c ls Q hC hK hP hl hret
  have hl : lv_has ls 2 [(0, .ref (a 0)), (1, vI x1)] := hl
  unfold f_X8_full at hf
  refine lv_aload_n hC.1 hC.2.1 dX8_full_0 rfl (lv_at hl 0 rfl) <| ziload_n hC.1 hC.2.1 dX8_full_1 rfl (lv_at hl 1 rfl) <| ?_
  obtain ⟨r_1, hu, hf⟩ := bd_some hf
  refine zcVP (As := [vI x1]) (rest := []) hC hK (met_X8_leftOf l D kA a V x1 hu) zwX8_86 hP (q0 := 0) rfl rfl rfl rfl hl.1 rfl (Nat.le_of_ble_eq_true rfl) ⟨Nat.le_of_ble_eq_true rfl, Nat.le_of_ble_eq_true rfl⟩ ⟨rfl, rfl⟩ ⟨Nat.le_refl _, Nat.le_refl _⟩ dX8_full_2 <| lv_aload_n hC.1 hC.2.1 dX8_full_5 rfl (lv_at hl 0 rfl) <| gfX8_7 hC hK hP (q0 := 0) rfl rfl dX8_full_6 <| ziconst hC.1 hC.2.1 dX8_full_9 <| jal hC hK hP (q0 := 1) rfl (Nat.le_of_ble_eq_true rfl) (by decide) rfl dX8_full_10 <| zimul hC.1 hC.2.1 dX8_full_11 <| zbipush hC.1 hC.2.1 dX8_full_12 (by decide) <| ?_
  obtain ⟨hz_2, hf⟩ := ck_some hf
  exact zidiv hC.1 hC.2.1 ⟨hz_2.1, hz_2.2, by decide, by decide⟩ dX8_full_14 <| hret (Int32.ofInt ((r_1 * (V 0 5)) / 100)) _ _ (qI hf) dX8_full_15
theorem DX8_wishOf_0 : ∀ q ∈ ([(0, .aload_n 0, 1), (1, .iload_n 1, 1), (2, .invokestatic 75, 3), (5, .invokevirtual 89, 3), (8, .ifCond .ne 33, 3), (11, .aload_n 0, 1), (12, .aload_n 0, 1), (13, .getfield 7, 3), (16, .sipush 413, 3), (19, .iload_n 1, 1), (20, .iadd, 1), (21, .iaload, 1), (22, .aload_n 0, 1), (23, .iload_n 1, 1), (24, .invokevirtual 83, 3), (27, .invokevirtual 93, 3), (30, .ifCond .eq 11, 3), (33, .aload_n 0, 1), (34, .iload_n 1, 1), (35, .invokevirtual 97, 3), (38, .goto 4, 3), (41, .iconst 0, 1), (42, .ireturn, 1)] : List (Nat × Instr × Nat)), decode cX8_wishOf q.1 = .ok q.2 := by decide +kernel
theorem dX8_wishOf_0 : decode cX8_wishOf 0 = .ok (.aload_n 0, 1) := DX8_wishOf_0 (0, .aload_n 0, 1) (List.mem_of_getElem? (i := 0) rfl)
theorem dX8_wishOf_1 : decode cX8_wishOf 1 = .ok (.iload_n 1, 1) := DX8_wishOf_0 (1, .iload_n 1, 1) (List.mem_of_getElem? (i := 1) rfl)
theorem dX8_wishOf_2 : decode cX8_wishOf 2 = .ok (.invokestatic 75, 3) := DX8_wishOf_0 (2, .invokestatic 75, 3) (List.mem_of_getElem? (i := 2) rfl)
theorem dX8_wishOf_5 : decode cX8_wishOf 5 = .ok (.invokevirtual 89, 3) := DX8_wishOf_0 (5, .invokevirtual 89, 3) (List.mem_of_getElem? (i := 3) rfl)
theorem dX8_wishOf_8 : decode cX8_wishOf 8 = .ok (.ifCond .ne 33, 3) := DX8_wishOf_0 (8, .ifCond .ne 33, 3) (List.mem_of_getElem? (i := 4) rfl)
theorem dX8_wishOf_11 : decode cX8_wishOf 11 = .ok (.aload_n 0, 1) := DX8_wishOf_0 (11, .aload_n 0, 1) (List.mem_of_getElem? (i := 5) rfl)
theorem dX8_wishOf_12 : decode cX8_wishOf 12 = .ok (.aload_n 0, 1) := DX8_wishOf_0 (12, .aload_n 0, 1) (List.mem_of_getElem? (i := 6) rfl)
theorem dX8_wishOf_13 : decode cX8_wishOf 13 = .ok (.getfield 7, 3) := DX8_wishOf_0 (13, .getfield 7, 3) (List.mem_of_getElem? (i := 7) rfl)
theorem dX8_wishOf_16 : decode cX8_wishOf 16 = .ok (.sipush 413, 3) := DX8_wishOf_0 (16, .sipush 413, 3) (List.mem_of_getElem? (i := 8) rfl)
theorem dX8_wishOf_19 : decode cX8_wishOf 19 = .ok (.iload_n 1, 1) := DX8_wishOf_0 (19, .iload_n 1, 1) (List.mem_of_getElem? (i := 9) rfl)
theorem dX8_wishOf_20 : decode cX8_wishOf 20 = .ok (.iadd, 1) := DX8_wishOf_0 (20, .iadd, 1) (List.mem_of_getElem? (i := 10) rfl)
theorem dX8_wishOf_21 : decode cX8_wishOf 21 = .ok (.iaload, 1) := DX8_wishOf_0 (21, .iaload, 1) (List.mem_of_getElem? (i := 11) rfl)
theorem dX8_wishOf_22 : decode cX8_wishOf 22 = .ok (.aload_n 0, 1) := DX8_wishOf_0 (22, .aload_n 0, 1) (List.mem_of_getElem? (i := 12) rfl)
theorem dX8_wishOf_23 : decode cX8_wishOf 23 = .ok (.iload_n 1, 1) := DX8_wishOf_0 (23, .iload_n 1, 1) (List.mem_of_getElem? (i := 13) rfl)
theorem dX8_wishOf_24 : decode cX8_wishOf 24 = .ok (.invokevirtual 83, 3) := DX8_wishOf_0 (24, .invokevirtual 83, 3) (List.mem_of_getElem? (i := 14) rfl)
theorem dX8_wishOf_27 : decode cX8_wishOf 27 = .ok (.invokevirtual 93, 3) := DX8_wishOf_0 (27, .invokevirtual 93, 3) (List.mem_of_getElem? (i := 15) rfl)
theorem dX8_wishOf_30 : decode cX8_wishOf 30 = .ok (.ifCond .eq 11, 3) := DX8_wishOf_0 (30, .ifCond .eq 11, 3) (List.mem_of_getElem? (i := 16) rfl)
theorem dX8_wishOf_33 : decode cX8_wishOf 33 = .ok (.aload_n 0, 1) := DX8_wishOf_0 (33, .aload_n 0, 1) (List.mem_of_getElem? (i := 17) rfl)
theorem dX8_wishOf_34 : decode cX8_wishOf 34 = .ok (.iload_n 1, 1) := DX8_wishOf_0 (34, .iload_n 1, 1) (List.mem_of_getElem? (i := 18) rfl)
theorem dX8_wishOf_35 : decode cX8_wishOf 35 = .ok (.invokevirtual 97, 3) := DX8_wishOf_0 (35, .invokevirtual 97, 3) (List.mem_of_getElem? (i := 19) rfl)
theorem dX8_wishOf_38 : decode cX8_wishOf 38 = .ok (.goto 4, 3) := DX8_wishOf_0 (38, .goto 4, 3) (List.mem_of_getElem? (i := 20) rfl)
theorem dX8_wishOf_41 : decode cX8_wishOf 41 = .ok (.iconst 0, 1) := DX8_wishOf_0 (41, .iconst 0, 1) (List.mem_of_getElem? (i := 21) rfl)
theorem dX8_wishOf_42 : decode cX8_wishOf 42 = .ok (.ireturn, 1) := DX8_wishOf_0 (42, .ireturn, 1) (List.mem_of_getElem? (i := 22) rfl)
abbrev rmX8_wishOf : Room := { frames := 2, cells := 0, slots := 0, locals := 45 }
set_option maxHeartbeats 400000 in
set_option maxRecDepth 100000 in
theorem met_X8_wishOf (l : Launch) (D : va_G) (kA : Nat → ClassId) (a : Nat → Nat) (n : Nat) (V : Sz) (x1 : Int) {r : Int} (hf : f_X8_wishOf n V x1 = some r) : MP l yX8_wishOf cX8_wishOf 2 (some .int) rmX8_wishOf D kA [.ref (a 0), vI x1] (cs_X8 kA a V) (some (vI r)) := by
  refine zPI (own := RX8) rfl rfl (Nat.le_of_ble_eq_true rfl) ?_
  intro p e s m args below meth c ls Q hC hK hP hl hret
  have hl : lv_has ls 2 [(0, .ref (a 0)), (1, vI x1)] := hl
  unfold f_X8_wishOf at hf
  refine lv_aload_n hC.1 hC.2.1 dX8_wishOf_0 rfl (lv_at hl 0 rfl) <| ziload_n hC.1 hC.2.1 dX8_wishOf_1 rfl (lv_at hl 1 rfl) <| ?_
  obtain ⟨r_1, hu, hf⟩ := bd_some hf
  have hPc : va_P D vwCl ([] : va_W) _ := hP.sub [] rfl
  refine zcSP (As := [vI x1]) (rest := [.ref (a 0)]) hC hK (met_X8_giftOf l D kA x1 hu) zwX8_75 hPc rfl hl.1 rfl (Nat.le_of_ble_eq_true rfl) ⟨Nat.le_of_ble_eq_true rfl, Nat.le_of_ble_eq_true rfl⟩ ⟨rfl, rfl⟩ ⟨Nat.le_refl _, Nat.le_refl _⟩ dX8_wishOf_2 <| ?_
  obtain ⟨r_2, hu, hf⟩ := bd_some hf
  refine zcVP (As := [vI r_1]) (rest := []) hC hK (met_X8_isSpoilt l D kA a V r_1 hu) zwX8_89 hP (q0 := 0) rfl rfl rfl rfl hl.1 rfl (Nat.le_of_ble_eq_true rfl) ⟨Nat.le_of_ble_eq_true rfl, Nat.le_of_ble_eq_true rfl⟩ ⟨rfl, rfl⟩ ⟨Nat.le_refl _, Nat.le_refl _⟩ dX8_wishOf_5 <| zifb_ne (tgt := 41) hC.1 hC.2.1 dX8_wishOf_8 (by decide) (fun hc => ?_) (fun hc => ?_)
  · have hf := it_t hf hc
    exact ziconst hC.1 hC.2.1 dX8_wishOf_41 <| hret (Int32.ofInt 0) _ _ (qI hf) dX8_wishOf_42
  · have hf := it_f hf hc
    refine lv_aload_n hC.1 hC.2.1 dX8_wishOf_11 rfl (lv_at hl 0 rfl) <| lv_aload_n hC.1 hC.2.1 dX8_wishOf_12 rfl (lv_at hl 0 rfl) <| gfX8_7 hC hK hP (q0 := 0) rfl rfl dX8_wishOf_13 <| zsipush hC.1 hC.2.1 dX8_wishOf_16 (by decide) <| ziload_n hC.1 hC.2.1 dX8_wishOf_19 rfl (lv_at hl 1 rfl) <| ziadd hC.1 hC.2.1 dX8_wishOf_20 <| ?_
    obtain ⟨hz_3, hf⟩ := ck_some hf
    refine jal hC hK hP (q0 := 1) rfl (Nat.le_of_ble_eq_true rfl) hz_3 rfl dX8_wishOf_21 <| lv_aload_n hC.1 hC.2.1 dX8_wishOf_22 rfl (lv_at hl 0 rfl) <| ziload_n hC.1 hC.2.1 dX8_wishOf_23 rfl (lv_at hl 1 rfl) <| ?_
    obtain ⟨r_4, hu, hf⟩ := bd_some hf
    refine zcVP (As := [vI x1]) (rest := [vI (V 0 (413 + x1).toNat), .ref (a 0)]) hC hK (met_X8_dayOf l D kA a V x1 hu) zwX8_83 hP (q0 := 0) rfl rfl rfl rfl hl.1 rfl (Nat.le_of_ble_eq_true rfl) ⟨Nat.le_of_ble_eq_true rfl, Nat.le_of_ble_eq_true rfl⟩ ⟨rfl, rfl⟩ ⟨Nat.le_refl _, Nat.le_refl _⟩ dX8_wishOf_24 <| ?_
    obtain ⟨r_5, hu, hf⟩ := bd_some hf
    refine zcVP (As := [vI (V 0 (413 + x1).toNat), vI r_4]) (rest := []) hC hK (met_X8_isForced l D kA a n V (V 0 (413 + x1).toNat) r_4 hu) zwX8_93 hP (q0 := 0) rfl rfl rfl rfl hl.1 rfl (Nat.le_of_ble_eq_true rfl) ⟨Nat.le_of_ble_eq_true rfl, Nat.le_of_ble_eq_true rfl⟩ ⟨rfl, rfl⟩ ⟨Nat.le_refl _, Nat.le_refl _⟩ dX8_wishOf_27 <| zifb_eq (tgt := 41) hC.1 hC.2.1 dX8_wishOf_30 (by decide) (fun hc => ?_) (fun hc => ?_)
    · have hf := it_t hf hc
      exact ziconst hC.1 hC.2.1 dX8_wishOf_41 <| hret (Int32.ofInt 0) _ _ (qI hf) dX8_wishOf_42
    · have hf := it_f hf hc
      refine lv_aload_n hC.1 hC.2.1 dX8_wishOf_33 rfl (lv_at hl 0 rfl) <| ziload_n hC.1 hC.2.1 dX8_wishOf_34 rfl (lv_at hl 1 rfl) <| ?_
      obtain ⟨r_6, hu, hf⟩ := bd_some hf
      exact zcVP (As := [vI x1]) (rest := []) hC hK (met_X8_full l D kA a V x1 hu) zwX8_97 hP (q0 := 0) rfl rfl rfl rfl hl.1 rfl (Nat.le_of_ble_eq_true rfl) ⟨Nat.le_of_ble_eq_true rfl, Nat.le_of_ble_eq_true rfl⟩ ⟨rfl, rfl⟩ ⟨Nat.le_refl _, Nat.le_refl _⟩ dX8_wishOf_35 <| lv_goto (tgt := 42) hC.1 hC.2.1 dX8_wishOf_38 (by decide) <| hret (Int32.ofInt r_6) _ _ (qI hf) dX8_wishOf_42
theorem DX8_laysOrder_0 : ∀ q ∈ ([(0, .iconst 0, 1), (1, .istore_n 1, 1), (2, .iload_n 1, 1), (3, .aload_n 0, 1), (4, .getfield 7, 3), (7, .iconst 2, 1), (8, .iaload, 1), (9, .if_icmp .ge 70, 3), (12, .iload_n 1, 1), (13, .istore_n 2, 1), (14, .iload_n 2, 1), (15, .ifCond .le 51, 3), (18, .aload_n 0, 1), (19, .getfield 7, 3), (22, .bipush 113, 2), (24, .aload_n 0, 1), (25, .getfield 31, 3), (28, .iload_n 2, 1), (29, .iconst 1, 1), (30, .isub, 1), (31, .iaload, 1), (32, .iadd, 1), (33, .iaload, 1), (34, .aload_n 0, 1), (35, .getfield 7, 3), (38, .bipush 113, 2), (40, .iload_n 1, 1), (41, .iadd, 1), (42, .iaload, 1), (43, .if_icmp .le 23, 3), (46, .aload_n 0, 1), (47, .getfield 31, 3), (50, .iload_n 2, 1), (51, .aload_n 0, 1), (52, .getfield 31, 3), (55, .iload_n 2, 1), (56, .iconst 1, 1), (57, .isub, 1), (58, .iaload, 1), (59, .iastore, 1)] : List (Nat × Instr × Nat)), decode cX8_laysOrder q.1 = .ok q.2 := by decide +kernel
theorem dX8_laysOrder_0 : decode cX8_laysOrder 0 = .ok (.iconst 0, 1) := DX8_laysOrder_0 (0, .iconst 0, 1) (List.mem_of_getElem? (i := 0) rfl)
theorem dX8_laysOrder_1 : decode cX8_laysOrder 1 = .ok (.istore_n 1, 1) := DX8_laysOrder_0 (1, .istore_n 1, 1) (List.mem_of_getElem? (i := 1) rfl)
theorem dX8_laysOrder_2 : decode cX8_laysOrder 2 = .ok (.iload_n 1, 1) := DX8_laysOrder_0 (2, .iload_n 1, 1) (List.mem_of_getElem? (i := 2) rfl)
theorem dX8_laysOrder_3 : decode cX8_laysOrder 3 = .ok (.aload_n 0, 1) := DX8_laysOrder_0 (3, .aload_n 0, 1) (List.mem_of_getElem? (i := 3) rfl)
theorem dX8_laysOrder_4 : decode cX8_laysOrder 4 = .ok (.getfield 7, 3) := DX8_laysOrder_0 (4, .getfield 7, 3) (List.mem_of_getElem? (i := 4) rfl)
theorem dX8_laysOrder_7 : decode cX8_laysOrder 7 = .ok (.iconst 2, 1) := DX8_laysOrder_0 (7, .iconst 2, 1) (List.mem_of_getElem? (i := 5) rfl)
theorem dX8_laysOrder_8 : decode cX8_laysOrder 8 = .ok (.iaload, 1) := DX8_laysOrder_0 (8, .iaload, 1) (List.mem_of_getElem? (i := 6) rfl)
theorem dX8_laysOrder_9 : decode cX8_laysOrder 9 = .ok (.if_icmp .ge 70, 3) := DX8_laysOrder_0 (9, .if_icmp .ge 70, 3) (List.mem_of_getElem? (i := 7) rfl)
theorem dX8_laysOrder_12 : decode cX8_laysOrder 12 = .ok (.iload_n 1, 1) := DX8_laysOrder_0 (12, .iload_n 1, 1) (List.mem_of_getElem? (i := 8) rfl)
theorem dX8_laysOrder_13 : decode cX8_laysOrder 13 = .ok (.istore_n 2, 1) := DX8_laysOrder_0 (13, .istore_n 2, 1) (List.mem_of_getElem? (i := 9) rfl)
theorem dX8_laysOrder_14 : decode cX8_laysOrder 14 = .ok (.iload_n 2, 1) := DX8_laysOrder_0 (14, .iload_n 2, 1) (List.mem_of_getElem? (i := 10) rfl)
theorem dX8_laysOrder_15 : decode cX8_laysOrder 15 = .ok (.ifCond .le 51, 3) := DX8_laysOrder_0 (15, .ifCond .le 51, 3) (List.mem_of_getElem? (i := 11) rfl)
theorem dX8_laysOrder_18 : decode cX8_laysOrder 18 = .ok (.aload_n 0, 1) := DX8_laysOrder_0 (18, .aload_n 0, 1) (List.mem_of_getElem? (i := 12) rfl)
theorem dX8_laysOrder_19 : decode cX8_laysOrder 19 = .ok (.getfield 7, 3) := DX8_laysOrder_0 (19, .getfield 7, 3) (List.mem_of_getElem? (i := 13) rfl)
theorem dX8_laysOrder_22 : decode cX8_laysOrder 22 = .ok (.bipush 113, 2) := DX8_laysOrder_0 (22, .bipush 113, 2) (List.mem_of_getElem? (i := 14) rfl)
theorem dX8_laysOrder_24 : decode cX8_laysOrder 24 = .ok (.aload_n 0, 1) := DX8_laysOrder_0 (24, .aload_n 0, 1) (List.mem_of_getElem? (i := 15) rfl)
theorem dX8_laysOrder_25 : decode cX8_laysOrder 25 = .ok (.getfield 31, 3) := DX8_laysOrder_0 (25, .getfield 31, 3) (List.mem_of_getElem? (i := 16) rfl)
theorem dX8_laysOrder_28 : decode cX8_laysOrder 28 = .ok (.iload_n 2, 1) := DX8_laysOrder_0 (28, .iload_n 2, 1) (List.mem_of_getElem? (i := 17) rfl)
theorem dX8_laysOrder_29 : decode cX8_laysOrder 29 = .ok (.iconst 1, 1) := DX8_laysOrder_0 (29, .iconst 1, 1) (List.mem_of_getElem? (i := 18) rfl)
theorem dX8_laysOrder_30 : decode cX8_laysOrder 30 = .ok (.isub, 1) := DX8_laysOrder_0 (30, .isub, 1) (List.mem_of_getElem? (i := 19) rfl)
theorem dX8_laysOrder_31 : decode cX8_laysOrder 31 = .ok (.iaload, 1) := DX8_laysOrder_0 (31, .iaload, 1) (List.mem_of_getElem? (i := 20) rfl)
theorem dX8_laysOrder_32 : decode cX8_laysOrder 32 = .ok (.iadd, 1) := DX8_laysOrder_0 (32, .iadd, 1) (List.mem_of_getElem? (i := 21) rfl)
theorem dX8_laysOrder_33 : decode cX8_laysOrder 33 = .ok (.iaload, 1) := DX8_laysOrder_0 (33, .iaload, 1) (List.mem_of_getElem? (i := 22) rfl)
theorem dX8_laysOrder_34 : decode cX8_laysOrder 34 = .ok (.aload_n 0, 1) := DX8_laysOrder_0 (34, .aload_n 0, 1) (List.mem_of_getElem? (i := 23) rfl)
theorem dX8_laysOrder_35 : decode cX8_laysOrder 35 = .ok (.getfield 7, 3) := DX8_laysOrder_0 (35, .getfield 7, 3) (List.mem_of_getElem? (i := 24) rfl)
theorem dX8_laysOrder_38 : decode cX8_laysOrder 38 = .ok (.bipush 113, 2) := DX8_laysOrder_0 (38, .bipush 113, 2) (List.mem_of_getElem? (i := 25) rfl)
theorem dX8_laysOrder_40 : decode cX8_laysOrder 40 = .ok (.iload_n 1, 1) := DX8_laysOrder_0 (40, .iload_n 1, 1) (List.mem_of_getElem? (i := 26) rfl)
theorem dX8_laysOrder_41 : decode cX8_laysOrder 41 = .ok (.iadd, 1) := DX8_laysOrder_0 (41, .iadd, 1) (List.mem_of_getElem? (i := 27) rfl)
theorem dX8_laysOrder_42 : decode cX8_laysOrder 42 = .ok (.iaload, 1) := DX8_laysOrder_0 (42, .iaload, 1) (List.mem_of_getElem? (i := 28) rfl)
theorem dX8_laysOrder_43 : decode cX8_laysOrder 43 = .ok (.if_icmp .le 23, 3) := DX8_laysOrder_0 (43, .if_icmp .le 23, 3) (List.mem_of_getElem? (i := 29) rfl)
theorem dX8_laysOrder_46 : decode cX8_laysOrder 46 = .ok (.aload_n 0, 1) := DX8_laysOrder_0 (46, .aload_n 0, 1) (List.mem_of_getElem? (i := 30) rfl)
theorem dX8_laysOrder_47 : decode cX8_laysOrder 47 = .ok (.getfield 31, 3) := DX8_laysOrder_0 (47, .getfield 31, 3) (List.mem_of_getElem? (i := 31) rfl)
theorem dX8_laysOrder_50 : decode cX8_laysOrder 50 = .ok (.iload_n 2, 1) := DX8_laysOrder_0 (50, .iload_n 2, 1) (List.mem_of_getElem? (i := 32) rfl)
theorem dX8_laysOrder_51 : decode cX8_laysOrder 51 = .ok (.aload_n 0, 1) := DX8_laysOrder_0 (51, .aload_n 0, 1) (List.mem_of_getElem? (i := 33) rfl)
theorem dX8_laysOrder_52 : decode cX8_laysOrder 52 = .ok (.getfield 31, 3) := DX8_laysOrder_0 (52, .getfield 31, 3) (List.mem_of_getElem? (i := 34) rfl)
theorem dX8_laysOrder_55 : decode cX8_laysOrder 55 = .ok (.iload_n 2, 1) := DX8_laysOrder_0 (55, .iload_n 2, 1) (List.mem_of_getElem? (i := 35) rfl)
theorem dX8_laysOrder_56 : decode cX8_laysOrder 56 = .ok (.iconst 1, 1) := DX8_laysOrder_0 (56, .iconst 1, 1) (List.mem_of_getElem? (i := 36) rfl)
theorem dX8_laysOrder_57 : decode cX8_laysOrder 57 = .ok (.isub, 1) := DX8_laysOrder_0 (57, .isub, 1) (List.mem_of_getElem? (i := 37) rfl)
theorem dX8_laysOrder_58 : decode cX8_laysOrder 58 = .ok (.iaload, 1) := DX8_laysOrder_0 (58, .iaload, 1) (List.mem_of_getElem? (i := 38) rfl)
theorem dX8_laysOrder_59 : decode cX8_laysOrder 59 = .ok (.iastore, 1) := DX8_laysOrder_0 (59, .iastore, 1) (List.mem_of_getElem? (i := 39) rfl)
theorem DX8_laysOrder_1 : ∀ q ∈ ([(60, .iinc 2 (-1), 3), (63, .goto (-49), 3), (66, .aload_n 0, 1), (67, .getfield 31, 3), (70, .iload_n 2, 1), (71, .iload_n 1, 1), (72, .iastore, 1), (73, .iinc 1 1, 3), (76, .goto (-74), 3), (79, .return_, 1)] : List (Nat × Instr × Nat)), decode cX8_laysOrder q.1 = .ok q.2 := by decide +kernel
theorem dX8_laysOrder_60 : decode cX8_laysOrder 60 = .ok (.iinc 2 (-1), 3) := DX8_laysOrder_1 (60, .iinc 2 (-1), 3) (List.mem_of_getElem? (i := 0) rfl)
theorem dX8_laysOrder_63 : decode cX8_laysOrder 63 = .ok (.goto (-49), 3) := DX8_laysOrder_1 (63, .goto (-49), 3) (List.mem_of_getElem? (i := 1) rfl)
theorem dX8_laysOrder_66 : decode cX8_laysOrder 66 = .ok (.aload_n 0, 1) := DX8_laysOrder_1 (66, .aload_n 0, 1) (List.mem_of_getElem? (i := 2) rfl)
theorem dX8_laysOrder_67 : decode cX8_laysOrder 67 = .ok (.getfield 31, 3) := DX8_laysOrder_1 (67, .getfield 31, 3) (List.mem_of_getElem? (i := 3) rfl)
theorem dX8_laysOrder_70 : decode cX8_laysOrder 70 = .ok (.iload_n 2, 1) := DX8_laysOrder_1 (70, .iload_n 2, 1) (List.mem_of_getElem? (i := 4) rfl)
theorem dX8_laysOrder_71 : decode cX8_laysOrder 71 = .ok (.iload_n 1, 1) := DX8_laysOrder_1 (71, .iload_n 1, 1) (List.mem_of_getElem? (i := 5) rfl)
theorem dX8_laysOrder_72 : decode cX8_laysOrder 72 = .ok (.iastore, 1) := DX8_laysOrder_1 (72, .iastore, 1) (List.mem_of_getElem? (i := 6) rfl)
theorem dX8_laysOrder_73 : decode cX8_laysOrder 73 = .ok (.iinc 1 1, 3) := DX8_laysOrder_1 (73, .iinc 1 1, 3) (List.mem_of_getElem? (i := 7) rfl)
theorem dX8_laysOrder_76 : decode cX8_laysOrder 76 = .ok (.goto (-74), 3) := DX8_laysOrder_1 (76, .goto (-74), 3) (List.mem_of_getElem? (i := 8) rfl)
theorem dX8_laysOrder_79 : decode cX8_laysOrder 79 = .ok (.return_, 1) := DX8_laysOrder_1 (79, .return_, 1) (List.mem_of_getElem? (i := 9) rfl)
abbrev rmX8_laysOrder : Room := { frames := 0, cells := 0, slots := 0, locals := 0 }
set_option maxHeartbeats 400000 in
set_option maxRecDepth 100000 in
theorem met_X8_laysOrder (l : Launch) (D : va_G) (kA : Nat → ClassId) (a : Nat → Nat) (n : Nat) (V0 : Sz) (hDt : ∀ w : Sz, va_D (fun _ => True) (cs_X8 kA a w)) {Vr : Sz} (hf : f_X8_laysOrder n V0 = some Vr) : MZ l yX8_laysOrder cX8_laysOrder 3 none rmX8_laysOrder D kA [.ref (a 0)] (cs_X8 kA a V0) (cs_X8 kA a Vr) (none) := by
  refine zZV (own := RX8) rfl rfl (Nat.le_of_ble_eq_true rfl) ?_
  intro p e s m args below meth c ls Q hC hK hP hl hret
  have hl : lv_has ls 3 [(0, .ref (a 0))] := hl
  have hS : va_S (zF (cs_X8 kA a V0)) s.heap s.heap [] := va_S.rf
  have hD := zDself (C := fun w : Sz => (cs_X8 kA a w)) hDt V0 (fun _ => rfl)
  try dsimp only at hD
  generalize hAe : zF (cs_X8 kA a V0) = A0 at hS hD hret
  unfold f_X8_laysOrder at hf
  have L2 : ∀ (k2 : Nat) (y1 : Int) (V : Sz) (H : Heap) (locs : List Loc) (ls : Array Slot), lpF (bX8_laysOrder_2 n) k2 (y1, V) = some Vr → va_P D vwCl (cs_X8 kA a V) H → va_S A0 s.heap H locs → lv_has ls 3 [(0, .ref (a 0)), (1, vI y1)] → W p l e rmX8_laysOrder s m args below meth c H locs 0 0 Q (F0 m 2 ls []) := by
    intro k2
    induction k2 with
    | zero => intro y1 V H locs ls hf hP hS hl; exact lp_0 hf
    | succ k2 ih2 =>
      intro y1 V H locs ls hf hP hS hl
      have hf := lp_s hf
      rw [bX8_laysOrder_2_e] at hf
      have J66 : ∀ (y1 : Int) (y2 : Int) (V : Sz) (H : Heap) (locs : List Loc) (ls : Array Slot), jX8_laysOrder_66 n (lpF (bX8_laysOrder_2 n) k2) y1 y2 V = some Vr → va_P D vwCl (cs_X8 kA a V) H → va_S A0 s.heap H locs → lv_has ls 3 [(0, .ref (a 0)), (1, vI y1), (2, vI y2)] → W p l e rmX8_laysOrder s m args below meth c H locs 0 0 Q (F0 m 66 ls []) := by
        intro y1 y2 V H locs ls hf hP hS hl
        unfold jX8_laysOrder_66 at hf
        refine lv_aload_n hC.1 hC.2.1 dX8_laysOrder_66 rfl (lv_at hl 0 rfl) <| gfX8_31 hC hK hP (q0 := 0) rfl rfl dX8_laysOrder_67 <| ziload_n hC.1 hC.2.1 dX8_laysOrder_70 rfl (lv_at hl 2 rfl) <| ziload_n hC.1 hC.2.1 dX8_laysOrder_71 rfl (lv_at hl 1 rfl) <| ?_
        obtain ⟨hz_3, hf⟩ := ck_some hf
        refine jas hC hK hP (hD V) hS (q0 := 8) rfl (Nat.le_of_ble_eq_true rfl) hz_3 rfl dX8_laysOrder_72 (fun H locs hP hS => ?_)
        obtain ⟨V_4, eV_4⟩ : ∃ y, y = uz V 10 y2.toNat y1 := ⟨_, rfl⟩
        have hf := nm_at hf eV_4
        have hP : va_P D vwCl (cs_X8 kA a V_4) H := by rw [eV_4]; exact hP
        obtain ⟨x_5, ex_5⟩ : ∃ y : Int, y = y1 + 1 := ⟨_, rfl⟩
        have hf := nm_at hf ex_5
        refine ziinc (v := x_5) (lv' := [(1, vI x_5), (0, .ref (a 0)), (2, vI y2)]) hC.1 hC.2.1 dX8_laysOrder_73 hl (k := 1) rfl ex_5 (by decide) rfl (fun ls hl => ?_)
        exact lv_goto (tgt := 2) hC.1 hC.2.1 dX8_laysOrder_76 (by decide) <| ih2 _ _ _ _ _ hf hP hS (lv_sub hl [1, 0] rfl)
      have L14 : ∀ (k14 : Nat) (y1 : Int) (y2 : Int) (V : Sz) (H : Heap) (locs : List Loc) (ls : Array Slot), lpF (bX8_laysOrder_14 n (lpF (bX8_laysOrder_2 n) k2)) k14 (y1, y2, V) = some Vr → va_P D vwCl (cs_X8 kA a V) H → va_S A0 s.heap H locs → lv_has ls 3 [(0, .ref (a 0)), (1, vI y1), (2, vI y2)] → W p l e rmX8_laysOrder s m args below meth c H locs 0 0 Q (F0 m 14 ls []) := by
        intro k14
        induction k14 with
        | zero => intro y1 y2 V H locs ls hf hP hS hl; exact lp_0 hf
        | succ k14 ih14 =>
          intro y1 y2 V H locs ls hf hP hS hl
          have hf := lp_s hf
          rw [bX8_laysOrder_14_e] at hf
          refine ziload_n hC.1 hC.2.1 dX8_laysOrder_14 rfl (lv_at hl 2 rfl) <| ?_
          obtain ⟨hz_2, hf⟩ := ck_some hf
          refine zif_le (tgt := 66) hC.1 hC.2.1 hz_2 dX8_laysOrder_15 (by decide) (fun hc => ?_) (fun hc => ?_)
          · have hf := it_t hf hc
            exact J66 _ _ _ _ _ _ hf hP hS (lv_sub hl [0, 1, 2] rfl)
          · have hf := it_f hf hc
            refine lv_aload_n hC.1 hC.2.1 dX8_laysOrder_18 rfl (lv_at hl 0 rfl) <| gfX8_7 hC hK hP (q0 := 0) rfl rfl dX8_laysOrder_19 <| zbipush hC.1 hC.2.1 dX8_laysOrder_22 (by decide) <| lv_aload_n hC.1 hC.2.1 dX8_laysOrder_24 rfl (lv_at hl 0 rfl) <| gfX8_31 hC hK hP (q0 := 0) rfl rfl dX8_laysOrder_25 <| ziload_n hC.1 hC.2.1 dX8_laysOrder_28 rfl (lv_at hl 2 rfl) <| ziconst hC.1 hC.2.1 dX8_laysOrder_29 <| zisub hC.1 hC.2.1 dX8_laysOrder_30 <| ?_
            obtain ⟨hz_6, hf⟩ := ck_some hf
            refine jal hC hK hP (q0 := 8) rfl (Nat.le_of_ble_eq_true rfl) hz_6 rfl dX8_laysOrder_31 <| ziadd hC.1 hC.2.1 dX8_laysOrder_32 <| ?_
            obtain ⟨hz_7, hf⟩ := ck_some hf
            refine jal hC hK hP (q0 := 1) rfl (Nat.le_of_ble_eq_true rfl) hz_7 rfl dX8_laysOrder_33 <| lv_aload_n hC.1 hC.2.1 dX8_laysOrder_34 rfl (lv_at hl 0 rfl) <| gfX8_7 hC hK hP (q0 := 0) rfl rfl dX8_laysOrder_35 <| zbipush hC.1 hC.2.1 dX8_laysOrder_38 (by decide) <| ziload_n hC.1 hC.2.1 dX8_laysOrder_40 rfl (lv_at hl 1 rfl) <| ziadd hC.1 hC.2.1 dX8_laysOrder_41 <| ?_
            obtain ⟨hz_8, hf⟩ := ck_some hf
            refine jal hC hK hP (q0 := 1) rfl (Nat.le_of_ble_eq_true rfl) hz_8 rfl dX8_laysOrder_42 <| ?_
            obtain ⟨hz_9, hf⟩ := ck_some hf
            refine zicmp_le (tgt := 66) hC.1 hC.2.1 ⟨hz_9.1, hz_9.2⟩ dX8_laysOrder_43 (by decide) (fun hc => ?_) (fun hc => ?_)
            · have hf := it_t hf hc
              exact J66 _ _ _ _ _ _ hf hP hS (lv_sub hl [0, 1, 2] rfl)
            · have hf := it_f hf hc
              refine lv_aload_n hC.1 hC.2.1 dX8_laysOrder_46 rfl (lv_at hl 0 rfl) <| gfX8_31 hC hK hP (q0 := 0) rfl rfl dX8_laysOrder_47 <| ziload_n hC.1 hC.2.1 dX8_laysOrder_50 rfl (lv_at hl 2 rfl) <| lv_aload_n hC.1 hC.2.1 dX8_laysOrder_51 rfl (lv_at hl 0 rfl) <| gfX8_31 hC hK hP (q0 := 0) rfl rfl dX8_laysOrder_52 <| ziload_n hC.1 hC.2.1 dX8_laysOrder_55 rfl (lv_at hl 2 rfl) <| ziconst hC.1 hC.2.1 dX8_laysOrder_56 <| zisub hC.1 hC.2.1 dX8_laysOrder_57 <| jal hC hK hP (q0 := 8) rfl (Nat.le_of_ble_eq_true rfl) hz_6 rfl dX8_laysOrder_58 <| ?_
              obtain ⟨hz_10, hf⟩ := ck_some hf
              refine jas hC hK hP (hD V) hS (q0 := 8) rfl (Nat.le_of_ble_eq_true rfl) hz_10 rfl dX8_laysOrder_59 (fun H locs hP hS => ?_)
              obtain ⟨V_11, eV_11⟩ : ∃ y, y = uz V 10 y2.toNat (V 10 (y2 - 1).toNat) := ⟨_, rfl⟩
              have hf := nm_at hf eV_11
              have hP : va_P D vwCl (cs_X8 kA a V_11) H := by rw [eV_11]; exact hP
              obtain ⟨x_12, ex_12⟩ : ∃ y : Int, y = y2 + (-1) := ⟨_, rfl⟩
              have hf := nm_at hf ex_12
              refine ziinc (v := x_12) (lv' := [(2, vI x_12), (0, .ref (a 0)), (1, vI y1)]) hC.1 hC.2.1 dX8_laysOrder_60 hl (k := 2) rfl ex_12 (by decide) rfl (fun ls hl => ?_)
              exact lv_goto (tgt := 14) hC.1 hC.2.1 dX8_laysOrder_63 (by decide) <| ih14 _ _ _ _ _ _ hf hP hS (lv_sub hl [1, 2, 0] rfl)
      refine ziload_n hC.1 hC.2.1 dX8_laysOrder_2 rfl (lv_at hl 1 rfl) <| lv_aload_n hC.1 hC.2.1 dX8_laysOrder_3 rfl (lv_at hl 0 rfl) <| gfX8_7 hC hK hP (q0 := 0) rfl rfl dX8_laysOrder_4 <| ziconst hC.1 hC.2.1 dX8_laysOrder_7 <| jal hC hK hP (q0 := 1) rfl (Nat.le_of_ble_eq_true rfl) (by decide) rfl dX8_laysOrder_8 <| ?_
      obtain ⟨hz_1, hf⟩ := ck_some hf
      refine zicmp_ge (tgt := 79) hC.1 hC.2.1 ⟨hz_1.1, hz_1.2⟩ dX8_laysOrder_9 (by decide) (fun hc => ?_) (fun hc => ?_)
      · have hf := it_t hf hc
        have hf := Option.some.inj hf
        exact hret _ _ _ _ rfl (by rw [← hf]; exact hP) hS dX8_laysOrder_79
      · have hf := it_f hf hc
        refine ziload_n hC.1 hC.2.1 dX8_laysOrder_12 rfl (lv_at hl 1 rfl) <| zistore_n (lv' := [(2, vI y1), (0, .ref (a 0)), (1, vI y1)]) hC.1 hC.2.1 dX8_laysOrder_13 rfl hl (by decide) rfl (fun ls hl => ?_)
        exact L14 n _ _ _ _ _ _ hf hP hS (lv_sub hl [1, 2, 0] rfl)
  refine ziconst hC.1 hC.2.1 dX8_laysOrder_0 <| zistore_n (lv' := [(1, vI 0), (0, .ref (a 0))]) hC.1 hC.2.1 dX8_laysOrder_1 rfl hl (by decide) rfl (fun ls hl => ?_)
  exact L2 n _ _ _ _ _ hf hP hS (lv_sub hl [1, 0] rfl)
theorem DX8_laysAid_0 : ∀ q ∈ ([(0, .aload_n 0, 1), (1, .invokevirtual 100, 3), (4, .iconst 0, 1), (5, .istore_n 1, 1), (6, .iload_n 1, 1), (7, .sipush 280, 3), (10, .if_icmp .ge 16, 3), (13, .aload_n 0, 1), (14, .getfield 34, 3), (17, .iload_n 1, 1), (18, .iconst 0, 1), (19, .iastore, 1), (20, .iinc 1 1, 3), (23, .goto (-17), 3), (26, .iconst 0, 1), (27, .istore_n 1, 1), (28, .iload_n 1, 1), (29, .aload_n 0, 1), (30, .getfield 7, 3), (33, .iconst 2, 1), (34, .iaload, 1), (35, .if_icmp .ge 140, 3), (38, .iconst 0, 1), (39, .istore_n 2, 1), (40, .iload_n 2, 1), (41, .aload_n 0, 1), (42, .getfield 7, 3), (45, .sipush 293, 3), (48, .aload_n 0, 1), (49, .getfield 31, 3), (52, .iload_n 1, 1), (53, .iaload, 1), (54, .iadd, 1), (55, .iaload, 1), (56, .if_icmp .ge 113, 3), (59, .aload_n 0, 1), (60, .getfield 31, 3), (63, .iload_n 1, 1), (64, .iaload, 1), (65, .iload_n 2, 1)] : List (Nat × Instr × Nat)), decode cX8_laysAid q.1 = .ok q.2 := by decide +kernel
theorem dX8_laysAid_0 : decode cX8_laysAid 0 = .ok (.aload_n 0, 1) := DX8_laysAid_0 (0, .aload_n 0, 1) (List.mem_of_getElem? (i := 0) rfl)
theorem dX8_laysAid_1 : decode cX8_laysAid 1 = .ok (.invokevirtual 100, 3) := DX8_laysAid_0 (1, .invokevirtual 100, 3) (List.mem_of_getElem? (i := 1) rfl)
theorem dX8_laysAid_4 : decode cX8_laysAid 4 = .ok (.iconst 0, 1) := DX8_laysAid_0 (4, .iconst 0, 1) (List.mem_of_getElem? (i := 2) rfl)
theorem dX8_laysAid_5 : decode cX8_laysAid 5 = .ok (.istore_n 1, 1) := DX8_laysAid_0 (5, .istore_n 1, 1) (List.mem_of_getElem? (i := 3) rfl)
theorem dX8_laysAid_6 : decode cX8_laysAid 6 = .ok (.iload_n 1, 1) := DX8_laysAid_0 (6, .iload_n 1, 1) (List.mem_of_getElem? (i := 4) rfl)
theorem dX8_laysAid_7 : decode cX8_laysAid 7 = .ok (.sipush 280, 3) := DX8_laysAid_0 (7, .sipush 280, 3) (List.mem_of_getElem? (i := 5) rfl)
theorem dX8_laysAid_10 : decode cX8_laysAid 10 = .ok (.if_icmp .ge 16, 3) := DX8_laysAid_0 (10, .if_icmp .ge 16, 3) (List.mem_of_getElem? (i := 6) rfl)
theorem dX8_laysAid_13 : decode cX8_laysAid 13 = .ok (.aload_n 0, 1) := DX8_laysAid_0 (13, .aload_n 0, 1) (List.mem_of_getElem? (i := 7) rfl)
theorem dX8_laysAid_14 : decode cX8_laysAid 14 = .ok (.getfield 34, 3) := DX8_laysAid_0 (14, .getfield 34, 3) (List.mem_of_getElem? (i := 8) rfl)
theorem dX8_laysAid_17 : decode cX8_laysAid 17 = .ok (.iload_n 1, 1) := DX8_laysAid_0 (17, .iload_n 1, 1) (List.mem_of_getElem? (i := 9) rfl)
theorem dX8_laysAid_18 : decode cX8_laysAid 18 = .ok (.iconst 0, 1) := DX8_laysAid_0 (18, .iconst 0, 1) (List.mem_of_getElem? (i := 10) rfl)
theorem dX8_laysAid_19 : decode cX8_laysAid 19 = .ok (.iastore, 1) := DX8_laysAid_0 (19, .iastore, 1) (List.mem_of_getElem? (i := 11) rfl)
theorem dX8_laysAid_20 : decode cX8_laysAid 20 = .ok (.iinc 1 1, 3) := DX8_laysAid_0 (20, .iinc 1 1, 3) (List.mem_of_getElem? (i := 12) rfl)
theorem dX8_laysAid_23 : decode cX8_laysAid 23 = .ok (.goto (-17), 3) := DX8_laysAid_0 (23, .goto (-17), 3) (List.mem_of_getElem? (i := 13) rfl)
theorem dX8_laysAid_26 : decode cX8_laysAid 26 = .ok (.iconst 0, 1) := DX8_laysAid_0 (26, .iconst 0, 1) (List.mem_of_getElem? (i := 14) rfl)
theorem dX8_laysAid_27 : decode cX8_laysAid 27 = .ok (.istore_n 1, 1) := DX8_laysAid_0 (27, .istore_n 1, 1) (List.mem_of_getElem? (i := 15) rfl)
theorem dX8_laysAid_28 : decode cX8_laysAid 28 = .ok (.iload_n 1, 1) := DX8_laysAid_0 (28, .iload_n 1, 1) (List.mem_of_getElem? (i := 16) rfl)
theorem dX8_laysAid_29 : decode cX8_laysAid 29 = .ok (.aload_n 0, 1) := DX8_laysAid_0 (29, .aload_n 0, 1) (List.mem_of_getElem? (i := 17) rfl)
theorem dX8_laysAid_30 : decode cX8_laysAid 30 = .ok (.getfield 7, 3) := DX8_laysAid_0 (30, .getfield 7, 3) (List.mem_of_getElem? (i := 18) rfl)
theorem dX8_laysAid_33 : decode cX8_laysAid 33 = .ok (.iconst 2, 1) := DX8_laysAid_0 (33, .iconst 2, 1) (List.mem_of_getElem? (i := 19) rfl)
theorem dX8_laysAid_34 : decode cX8_laysAid 34 = .ok (.iaload, 1) := DX8_laysAid_0 (34, .iaload, 1) (List.mem_of_getElem? (i := 20) rfl)
theorem dX8_laysAid_35 : decode cX8_laysAid 35 = .ok (.if_icmp .ge 140, 3) := DX8_laysAid_0 (35, .if_icmp .ge 140, 3) (List.mem_of_getElem? (i := 21) rfl)
theorem dX8_laysAid_38 : decode cX8_laysAid 38 = .ok (.iconst 0, 1) := DX8_laysAid_0 (38, .iconst 0, 1) (List.mem_of_getElem? (i := 22) rfl)
theorem dX8_laysAid_39 : decode cX8_laysAid 39 = .ok (.istore_n 2, 1) := DX8_laysAid_0 (39, .istore_n 2, 1) (List.mem_of_getElem? (i := 23) rfl)
theorem dX8_laysAid_40 : decode cX8_laysAid 40 = .ok (.iload_n 2, 1) := DX8_laysAid_0 (40, .iload_n 2, 1) (List.mem_of_getElem? (i := 24) rfl)
theorem dX8_laysAid_41 : decode cX8_laysAid 41 = .ok (.aload_n 0, 1) := DX8_laysAid_0 (41, .aload_n 0, 1) (List.mem_of_getElem? (i := 25) rfl)
theorem dX8_laysAid_42 : decode cX8_laysAid 42 = .ok (.getfield 7, 3) := DX8_laysAid_0 (42, .getfield 7, 3) (List.mem_of_getElem? (i := 26) rfl)
theorem dX8_laysAid_45 : decode cX8_laysAid 45 = .ok (.sipush 293, 3) := DX8_laysAid_0 (45, .sipush 293, 3) (List.mem_of_getElem? (i := 27) rfl)
theorem dX8_laysAid_48 : decode cX8_laysAid 48 = .ok (.aload_n 0, 1) := DX8_laysAid_0 (48, .aload_n 0, 1) (List.mem_of_getElem? (i := 28) rfl)
theorem dX8_laysAid_49 : decode cX8_laysAid 49 = .ok (.getfield 31, 3) := DX8_laysAid_0 (49, .getfield 31, 3) (List.mem_of_getElem? (i := 29) rfl)
theorem dX8_laysAid_52 : decode cX8_laysAid 52 = .ok (.iload_n 1, 1) := DX8_laysAid_0 (52, .iload_n 1, 1) (List.mem_of_getElem? (i := 30) rfl)
theorem dX8_laysAid_53 : decode cX8_laysAid 53 = .ok (.iaload, 1) := DX8_laysAid_0 (53, .iaload, 1) (List.mem_of_getElem? (i := 31) rfl)
theorem dX8_laysAid_54 : decode cX8_laysAid 54 = .ok (.iadd, 1) := DX8_laysAid_0 (54, .iadd, 1) (List.mem_of_getElem? (i := 32) rfl)
theorem dX8_laysAid_55 : decode cX8_laysAid 55 = .ok (.iaload, 1) := DX8_laysAid_0 (55, .iaload, 1) (List.mem_of_getElem? (i := 33) rfl)
theorem dX8_laysAid_56 : decode cX8_laysAid 56 = .ok (.if_icmp .ge 113, 3) := DX8_laysAid_0 (56, .if_icmp .ge 113, 3) (List.mem_of_getElem? (i := 34) rfl)
theorem dX8_laysAid_59 : decode cX8_laysAid 59 = .ok (.aload_n 0, 1) := DX8_laysAid_0 (59, .aload_n 0, 1) (List.mem_of_getElem? (i := 35) rfl)
theorem dX8_laysAid_60 : decode cX8_laysAid 60 = .ok (.getfield 31, 3) := DX8_laysAid_0 (60, .getfield 31, 3) (List.mem_of_getElem? (i := 36) rfl)
theorem dX8_laysAid_63 : decode cX8_laysAid 63 = .ok (.iload_n 1, 1) := DX8_laysAid_0 (63, .iload_n 1, 1) (List.mem_of_getElem? (i := 37) rfl)
theorem dX8_laysAid_64 : decode cX8_laysAid 64 = .ok (.iaload, 1) := DX8_laysAid_0 (64, .iaload, 1) (List.mem_of_getElem? (i := 38) rfl)
theorem dX8_laysAid_65 : decode cX8_laysAid 65 = .ok (.iload_n 2, 1) := DX8_laysAid_0 (65, .iload_n 2, 1) (List.mem_of_getElem? (i := 39) rfl)
theorem DX8_laysAid_1 : ∀ q ∈ ([(66, .invokestatic 103, 3), (69, .istore_n 3, 1), (70, .bipush 28, 2), (72, .aload_n 0, 1), (73, .getfield 7, 3), (76, .sipush 413, 3), (79, .iload_n 3, 1), (80, .iadd, 1), (81, .iaload, 1), (82, .imul, 1), (83, .aload_n 0, 1), (84, .iload_n 3, 1), (85, .invokevirtual 107, 3), (88, .iadd, 1), (89, .istore 4, 2), (91, .aload_n 0, 1), (92, .getfield 40, 3), (95, .iload_n 3, 1), (96, .aload_n 0, 1), (97, .iload_n 3, 1), (98, .invokevirtual 110, 3), (101, .iastore, 1), (102, .aload_n 0, 1), (103, .getfield 37, 3), (106, .iload_n 3, 1), (107, .iconst 0, 1), (108, .aload_n 0, 1), (109, .getfield 40, 3), (112, .iload_n 3, 1), (113, .iaload, 1), (114, .aload_n 0, 1), (115, .getfield 7, 3), (118, .bipush 10, 2), (120, .aload_n 0, 1), (121, .getfield 7, 3), (124, .sipush 413, 3), (127, .iload_n 3, 1), (128, .iadd, 1), (129, .iaload, 1), (130, .iadd, 1)] : List (Nat × Instr × Nat)), decode cX8_laysAid q.1 = .ok q.2 := by decide +kernel
theorem dX8_laysAid_66 : decode cX8_laysAid 66 = .ok (.invokestatic 103, 3) := DX8_laysAid_1 (66, .invokestatic 103, 3) (List.mem_of_getElem? (i := 0) rfl)
theorem dX8_laysAid_69 : decode cX8_laysAid 69 = .ok (.istore_n 3, 1) := DX8_laysAid_1 (69, .istore_n 3, 1) (List.mem_of_getElem? (i := 1) rfl)
theorem dX8_laysAid_70 : decode cX8_laysAid 70 = .ok (.bipush 28, 2) := DX8_laysAid_1 (70, .bipush 28, 2) (List.mem_of_getElem? (i := 2) rfl)
theorem dX8_laysAid_72 : decode cX8_laysAid 72 = .ok (.aload_n 0, 1) := DX8_laysAid_1 (72, .aload_n 0, 1) (List.mem_of_getElem? (i := 3) rfl)
theorem dX8_laysAid_73 : decode cX8_laysAid 73 = .ok (.getfield 7, 3) := DX8_laysAid_1 (73, .getfield 7, 3) (List.mem_of_getElem? (i := 4) rfl)
theorem dX8_laysAid_76 : decode cX8_laysAid 76 = .ok (.sipush 413, 3) := DX8_laysAid_1 (76, .sipush 413, 3) (List.mem_of_getElem? (i := 5) rfl)
theorem dX8_laysAid_79 : decode cX8_laysAid 79 = .ok (.iload_n 3, 1) := DX8_laysAid_1 (79, .iload_n 3, 1) (List.mem_of_getElem? (i := 6) rfl)
theorem dX8_laysAid_80 : decode cX8_laysAid 80 = .ok (.iadd, 1) := DX8_laysAid_1 (80, .iadd, 1) (List.mem_of_getElem? (i := 7) rfl)
theorem dX8_laysAid_81 : decode cX8_laysAid 81 = .ok (.iaload, 1) := DX8_laysAid_1 (81, .iaload, 1) (List.mem_of_getElem? (i := 8) rfl)
theorem dX8_laysAid_82 : decode cX8_laysAid 82 = .ok (.imul, 1) := DX8_laysAid_1 (82, .imul, 1) (List.mem_of_getElem? (i := 9) rfl)
theorem dX8_laysAid_83 : decode cX8_laysAid 83 = .ok (.aload_n 0, 1) := DX8_laysAid_1 (83, .aload_n 0, 1) (List.mem_of_getElem? (i := 10) rfl)
theorem dX8_laysAid_84 : decode cX8_laysAid 84 = .ok (.iload_n 3, 1) := DX8_laysAid_1 (84, .iload_n 3, 1) (List.mem_of_getElem? (i := 11) rfl)
theorem dX8_laysAid_85 : decode cX8_laysAid 85 = .ok (.invokevirtual 107, 3) := DX8_laysAid_1 (85, .invokevirtual 107, 3) (List.mem_of_getElem? (i := 12) rfl)
theorem dX8_laysAid_88 : decode cX8_laysAid 88 = .ok (.iadd, 1) := DX8_laysAid_1 (88, .iadd, 1) (List.mem_of_getElem? (i := 13) rfl)
theorem dX8_laysAid_89 : decode cX8_laysAid 89 = .ok (.istore 4, 2) := DX8_laysAid_1 (89, .istore 4, 2) (List.mem_of_getElem? (i := 14) rfl)
theorem dX8_laysAid_91 : decode cX8_laysAid 91 = .ok (.aload_n 0, 1) := DX8_laysAid_1 (91, .aload_n 0, 1) (List.mem_of_getElem? (i := 15) rfl)
theorem dX8_laysAid_92 : decode cX8_laysAid 92 = .ok (.getfield 40, 3) := DX8_laysAid_1 (92, .getfield 40, 3) (List.mem_of_getElem? (i := 16) rfl)
theorem dX8_laysAid_95 : decode cX8_laysAid 95 = .ok (.iload_n 3, 1) := DX8_laysAid_1 (95, .iload_n 3, 1) (List.mem_of_getElem? (i := 17) rfl)
theorem dX8_laysAid_96 : decode cX8_laysAid 96 = .ok (.aload_n 0, 1) := DX8_laysAid_1 (96, .aload_n 0, 1) (List.mem_of_getElem? (i := 18) rfl)
theorem dX8_laysAid_97 : decode cX8_laysAid 97 = .ok (.iload_n 3, 1) := DX8_laysAid_1 (97, .iload_n 3, 1) (List.mem_of_getElem? (i := 19) rfl)
theorem dX8_laysAid_98 : decode cX8_laysAid 98 = .ok (.invokevirtual 110, 3) := DX8_laysAid_1 (98, .invokevirtual 110, 3) (List.mem_of_getElem? (i := 20) rfl)
theorem dX8_laysAid_101 : decode cX8_laysAid 101 = .ok (.iastore, 1) := DX8_laysAid_1 (101, .iastore, 1) (List.mem_of_getElem? (i := 21) rfl)
theorem dX8_laysAid_102 : decode cX8_laysAid 102 = .ok (.aload_n 0, 1) := DX8_laysAid_1 (102, .aload_n 0, 1) (List.mem_of_getElem? (i := 22) rfl)
theorem dX8_laysAid_103 : decode cX8_laysAid 103 = .ok (.getfield 37, 3) := DX8_laysAid_1 (103, .getfield 37, 3) (List.mem_of_getElem? (i := 23) rfl)
theorem dX8_laysAid_106 : decode cX8_laysAid 106 = .ok (.iload_n 3, 1) := DX8_laysAid_1 (106, .iload_n 3, 1) (List.mem_of_getElem? (i := 24) rfl)
theorem dX8_laysAid_107 : decode cX8_laysAid 107 = .ok (.iconst 0, 1) := DX8_laysAid_1 (107, .iconst 0, 1) (List.mem_of_getElem? (i := 25) rfl)
theorem dX8_laysAid_108 : decode cX8_laysAid 108 = .ok (.aload_n 0, 1) := DX8_laysAid_1 (108, .aload_n 0, 1) (List.mem_of_getElem? (i := 26) rfl)
theorem dX8_laysAid_109 : decode cX8_laysAid 109 = .ok (.getfield 40, 3) := DX8_laysAid_1 (109, .getfield 40, 3) (List.mem_of_getElem? (i := 27) rfl)
theorem dX8_laysAid_112 : decode cX8_laysAid 112 = .ok (.iload_n 3, 1) := DX8_laysAid_1 (112, .iload_n 3, 1) (List.mem_of_getElem? (i := 28) rfl)
theorem dX8_laysAid_113 : decode cX8_laysAid 113 = .ok (.iaload, 1) := DX8_laysAid_1 (113, .iaload, 1) (List.mem_of_getElem? (i := 29) rfl)
theorem dX8_laysAid_114 : decode cX8_laysAid 114 = .ok (.aload_n 0, 1) := DX8_laysAid_1 (114, .aload_n 0, 1) (List.mem_of_getElem? (i := 30) rfl)
theorem dX8_laysAid_115 : decode cX8_laysAid 115 = .ok (.getfield 7, 3) := DX8_laysAid_1 (115, .getfield 7, 3) (List.mem_of_getElem? (i := 31) rfl)
theorem dX8_laysAid_118 : decode cX8_laysAid 118 = .ok (.bipush 10, 2) := DX8_laysAid_1 (118, .bipush 10, 2) (List.mem_of_getElem? (i := 32) rfl)
theorem dX8_laysAid_120 : decode cX8_laysAid 120 = .ok (.aload_n 0, 1) := DX8_laysAid_1 (120, .aload_n 0, 1) (List.mem_of_getElem? (i := 33) rfl)
theorem dX8_laysAid_121 : decode cX8_laysAid 121 = .ok (.getfield 7, 3) := DX8_laysAid_1 (121, .getfield 7, 3) (List.mem_of_getElem? (i := 34) rfl)
theorem dX8_laysAid_124 : decode cX8_laysAid 124 = .ok (.sipush 413, 3) := DX8_laysAid_1 (124, .sipush 413, 3) (List.mem_of_getElem? (i := 35) rfl)
theorem dX8_laysAid_127 : decode cX8_laysAid 127 = .ok (.iload_n 3, 1) := DX8_laysAid_1 (127, .iload_n 3, 1) (List.mem_of_getElem? (i := 36) rfl)
theorem dX8_laysAid_128 : decode cX8_laysAid 128 = .ok (.iadd, 1) := DX8_laysAid_1 (128, .iadd, 1) (List.mem_of_getElem? (i := 37) rfl)
theorem dX8_laysAid_129 : decode cX8_laysAid 129 = .ok (.iaload, 1) := DX8_laysAid_1 (129, .iaload, 1) (List.mem_of_getElem? (i := 38) rfl)
theorem dX8_laysAid_130 : decode cX8_laysAid 130 = .ok (.iadd, 1) := DX8_laysAid_1 (130, .iadd, 1) (List.mem_of_getElem? (i := 39) rfl)
theorem DX8_laysAid_2 : ∀ q ∈ ([(131, .iaload, 1), (132, .aload_n 0, 1), (133, .getfield 34, 3), (136, .iload 4, 2), (138, .iaload, 1), (139, .isub, 1), (140, .invokestatic 113, 3), (143, .invokestatic 118, 3), (146, .iastore, 1), (147, .aload_n 0, 1), (148, .getfield 34, 3), (151, .iload 4, 2), (153, .dup2, 1), (154, .iaload, 1), (155, .aload_n 0, 1), (156, .getfield 37, 3), (159, .iload_n 3, 1), (160, .iaload, 1), (161, .iadd, 1), (162, .iastore, 1), (163, .iinc 2 1, 3), (166, .goto (-126), 3), (169, .iinc 1 1, 3), (172, .goto (-144), 3), (175, .return_, 1)] : List (Nat × Instr × Nat)), decode cX8_laysAid q.1 = .ok q.2 := by decide +kernel
theorem dX8_laysAid_131 : decode cX8_laysAid 131 = .ok (.iaload, 1) := DX8_laysAid_2 (131, .iaload, 1) (List.mem_of_getElem? (i := 0) rfl)
theorem dX8_laysAid_132 : decode cX8_laysAid 132 = .ok (.aload_n 0, 1) := DX8_laysAid_2 (132, .aload_n 0, 1) (List.mem_of_getElem? (i := 1) rfl)
theorem dX8_laysAid_133 : decode cX8_laysAid 133 = .ok (.getfield 34, 3) := DX8_laysAid_2 (133, .getfield 34, 3) (List.mem_of_getElem? (i := 2) rfl)
theorem dX8_laysAid_136 : decode cX8_laysAid 136 = .ok (.iload 4, 2) := DX8_laysAid_2 (136, .iload 4, 2) (List.mem_of_getElem? (i := 3) rfl)
theorem dX8_laysAid_138 : decode cX8_laysAid 138 = .ok (.iaload, 1) := DX8_laysAid_2 (138, .iaload, 1) (List.mem_of_getElem? (i := 4) rfl)
theorem dX8_laysAid_139 : decode cX8_laysAid 139 = .ok (.isub, 1) := DX8_laysAid_2 (139, .isub, 1) (List.mem_of_getElem? (i := 5) rfl)
theorem dX8_laysAid_140 : decode cX8_laysAid 140 = .ok (.invokestatic 113, 3) := DX8_laysAid_2 (140, .invokestatic 113, 3) (List.mem_of_getElem? (i := 6) rfl)
theorem dX8_laysAid_143 : decode cX8_laysAid 143 = .ok (.invokestatic 118, 3) := DX8_laysAid_2 (143, .invokestatic 118, 3) (List.mem_of_getElem? (i := 7) rfl)
theorem dX8_laysAid_146 : decode cX8_laysAid 146 = .ok (.iastore, 1) := DX8_laysAid_2 (146, .iastore, 1) (List.mem_of_getElem? (i := 8) rfl)
theorem dX8_laysAid_147 : decode cX8_laysAid 147 = .ok (.aload_n 0, 1) := DX8_laysAid_2 (147, .aload_n 0, 1) (List.mem_of_getElem? (i := 9) rfl)
theorem dX8_laysAid_148 : decode cX8_laysAid 148 = .ok (.getfield 34, 3) := DX8_laysAid_2 (148, .getfield 34, 3) (List.mem_of_getElem? (i := 10) rfl)
theorem dX8_laysAid_151 : decode cX8_laysAid 151 = .ok (.iload 4, 2) := DX8_laysAid_2 (151, .iload 4, 2) (List.mem_of_getElem? (i := 11) rfl)
theorem dX8_laysAid_153 : decode cX8_laysAid 153 = .ok (.dup2, 1) := DX8_laysAid_2 (153, .dup2, 1) (List.mem_of_getElem? (i := 12) rfl)
theorem dX8_laysAid_154 : decode cX8_laysAid 154 = .ok (.iaload, 1) := DX8_laysAid_2 (154, .iaload, 1) (List.mem_of_getElem? (i := 13) rfl)
theorem dX8_laysAid_155 : decode cX8_laysAid 155 = .ok (.aload_n 0, 1) := DX8_laysAid_2 (155, .aload_n 0, 1) (List.mem_of_getElem? (i := 14) rfl)
theorem dX8_laysAid_156 : decode cX8_laysAid 156 = .ok (.getfield 37, 3) := DX8_laysAid_2 (156, .getfield 37, 3) (List.mem_of_getElem? (i := 15) rfl)
theorem dX8_laysAid_159 : decode cX8_laysAid 159 = .ok (.iload_n 3, 1) := DX8_laysAid_2 (159, .iload_n 3, 1) (List.mem_of_getElem? (i := 16) rfl)
theorem dX8_laysAid_160 : decode cX8_laysAid 160 = .ok (.iaload, 1) := DX8_laysAid_2 (160, .iaload, 1) (List.mem_of_getElem? (i := 17) rfl)
theorem dX8_laysAid_161 : decode cX8_laysAid 161 = .ok (.iadd, 1) := DX8_laysAid_2 (161, .iadd, 1) (List.mem_of_getElem? (i := 18) rfl)
theorem dX8_laysAid_162 : decode cX8_laysAid 162 = .ok (.iastore, 1) := DX8_laysAid_2 (162, .iastore, 1) (List.mem_of_getElem? (i := 19) rfl)
theorem dX8_laysAid_163 : decode cX8_laysAid 163 = .ok (.iinc 2 1, 3) := DX8_laysAid_2 (163, .iinc 2 1, 3) (List.mem_of_getElem? (i := 20) rfl)
theorem dX8_laysAid_166 : decode cX8_laysAid 166 = .ok (.goto (-126), 3) := DX8_laysAid_2 (166, .goto (-126), 3) (List.mem_of_getElem? (i := 21) rfl)
theorem dX8_laysAid_169 : decode cX8_laysAid 169 = .ok (.iinc 1 1, 3) := DX8_laysAid_2 (169, .iinc 1 1, 3) (List.mem_of_getElem? (i := 22) rfl)
theorem dX8_laysAid_172 : decode cX8_laysAid 172 = .ok (.goto (-144), 3) := DX8_laysAid_2 (172, .goto (-144), 3) (List.mem_of_getElem? (i := 23) rfl)
theorem dX8_laysAid_175 : decode cX8_laysAid 175 = .ok (.return_, 1) := DX8_laysAid_2 (175, .return_, 1) (List.mem_of_getElem? (i := 24) rfl)
abbrev rmX8_laysAid : Room := { frames := 3, cells := 0, slots := 0, locals := 66 }
set_option maxHeartbeats 400000 in
set_option maxRecDepth 100000 in
theorem met_X8_laysAid (l : Launch) (D : va_G) (kA : Nat → ClassId) (a : Nat → Nat) (n : Nat) (V0 : Sz) (hDt : ∀ w : Sz, va_D (fun _ => True) (cs_X8 kA a w)) {Vr : Sz} (hf : f_X8_laysAid n V0 = some Vr) : MZ l yX8_laysAid cX8_laysAid 5 none rmX8_laysAid D kA [.ref (a 0)] (cs_X8 kA a V0) (cs_X8 kA a Vr) (none) := by
  refine zZV (own := RX8) rfl rfl (Nat.le_of_ble_eq_true rfl) ?_
  intro p e s m args below meth c ls Q hC hK hP hl hret
  have hl : lv_has ls 5 [(0, .ref (a 0))] := hl
  have hS : va_S (zF (cs_X8 kA a V0)) s.heap s.heap [] := va_S.rf
  have hD := zDself (C := fun w : Sz => (cs_X8 kA a w)) hDt V0 (fun _ => rfl)
  try dsimp only at hD
  generalize hAe : zF (cs_X8 kA a V0) = A0 at hS hD hret
  unfold f_X8_laysAid at hf
  have L28 : ∀ (k28 : Nat) (y1 : Int) (V : Sz) (H : Heap) (locs : List Loc) (ls : Array Slot), lpF (bX8_laysAid_28 n) k28 (y1, V) = some Vr → va_P D vwCl (cs_X8 kA a V) H → va_S A0 s.heap H locs → lv_has ls 5 [(0, .ref (a 0)), (1, vI y1)] → W p l e rmX8_laysAid s m args below meth c H locs 0 0 Q (F0 m 28 ls []) := by
    intro k28
    induction k28 with
    | zero => intro y1 V H locs ls hf hP hS hl; exact lp_0 hf
    | succ k28 ih28 =>
      intro y1 V H locs ls hf hP hS hl
      have hf := lp_s hf
      rw [bX8_laysAid_28_e] at hf
      have L40 : ∀ (k40 : Nat) (y1 : Int) (y2 : Int) (V : Sz) (H : Heap) (locs : List Loc) (ls : Array Slot), lpF (bX8_laysAid_40 n (lpF (bX8_laysAid_28 n) k28)) k40 (y1, y2, V) = some Vr → va_P D vwCl (cs_X8 kA a V) H → va_S A0 s.heap H locs → lv_has ls 5 [(0, .ref (a 0)), (1, vI y1), (2, vI y2)] → W p l e rmX8_laysAid s m args below meth c H locs 0 0 Q (F0 m 40 ls []) := by
        intro k40
        induction k40 with
        | zero => intro y1 y2 V H locs ls hf hP hS hl; exact lp_0 hf
        | succ k40 ih40 =>
          intro y1 y2 V H locs ls hf hP hS hl
          have hf := lp_s hf
          rw [bX8_laysAid_40_e] at hf
          refine ziload_n hC.1 hC.2.1 dX8_laysAid_40 rfl (lv_at hl 2 rfl) <| lv_aload_n hC.1 hC.2.1 dX8_laysAid_41 rfl (lv_at hl 0 rfl) <| gfX8_7 hC hK hP (q0 := 0) rfl rfl dX8_laysAid_42 <| zsipush hC.1 hC.2.1 dX8_laysAid_45 (by decide) <| lv_aload_n hC.1 hC.2.1 dX8_laysAid_48 rfl (lv_at hl 0 rfl) <| gfX8_31 hC hK hP (q0 := 0) rfl rfl dX8_laysAid_49 <| ziload_n hC.1 hC.2.1 dX8_laysAid_52 rfl (lv_at hl 1 rfl) <| ?_
          obtain ⟨hz_4, hf⟩ := ck_some hf
          refine jal hC hK hP (q0 := 8) rfl (Nat.le_of_ble_eq_true rfl) hz_4 rfl dX8_laysAid_53 <| ziadd hC.1 hC.2.1 dX8_laysAid_54 <| ?_
          obtain ⟨hz_5, hf⟩ := ck_some hf
          refine jal hC hK hP (q0 := 1) rfl (Nat.le_of_ble_eq_true rfl) hz_5 rfl dX8_laysAid_55 <| ?_
          obtain ⟨hz_6, hf⟩ := ck_some hf
          refine zicmp_ge (tgt := 169) hC.1 hC.2.1 ⟨hz_6.1, hz_6.2⟩ dX8_laysAid_56 (by decide) (fun hc => ?_) (fun hc => ?_)
          · have hf := it_t hf hc
            obtain ⟨x_7, ex_7⟩ : ∃ y : Int, y = y1 + 1 := ⟨_, rfl⟩
            have hf := nm_at hf ex_7
            refine ziinc (v := x_7) (lv' := [(1, vI x_7), (0, .ref (a 0)), (2, vI y2)]) hC.1 hC.2.1 dX8_laysAid_169 hl (k := 1) rfl ex_7 (by decide) rfl (fun ls hl => ?_)
            exact lv_goto (tgt := 28) hC.1 hC.2.1 dX8_laysAid_172 (by decide) <| ih28 _ _ _ _ _ hf hP hS (lv_sub hl [1, 0] rfl)
          · have hf := it_f hf hc
            refine lv_aload_n hC.1 hC.2.1 dX8_laysAid_59 rfl (lv_at hl 0 rfl) <| gfX8_31 hC hK hP (q0 := 0) rfl rfl dX8_laysAid_60 <| ziload_n hC.1 hC.2.1 dX8_laysAid_63 rfl (lv_at hl 1 rfl) <| jal hC hK hP (q0 := 8) rfl (Nat.le_of_ble_eq_true rfl) hz_4 rfl dX8_laysAid_64 <| ziload_n hC.1 hC.2.1 dX8_laysAid_65 rfl (lv_at hl 2 rfl) <| ?_
            obtain ⟨r_8, hu, hf⟩ := bd_some hf
            have hPc : va_P D vwCl ([] : va_W) _ := hP.sub [] rfl
            refine zcSP (As := [vI (V 10 y1.toNat), vI y2]) (rest := []) hC hK (met_X8_partOf l D kA (V 10 y1.toNat) y2 hu) zwX8_103 hPc rfl hl.1 rfl (Nat.le_of_ble_eq_true rfl) ⟨Nat.le_of_ble_eq_true rfl, Nat.le_of_ble_eq_true rfl⟩ ⟨rfl, rfl⟩ ⟨Nat.le_refl _, Nat.le_refl _⟩ dX8_laysAid_66 <| zistore_n (lv' := [(3, vI r_8), (0, .ref (a 0)), (1, vI y1), (2, vI y2)]) hC.1 hC.2.1 dX8_laysAid_69 rfl hl (by decide) rfl (fun ls hl => ?_)
            refine zbipush hC.1 hC.2.1 dX8_laysAid_70 (by decide) <| lv_aload_n hC.1 hC.2.1 dX8_laysAid_72 rfl (lv_at hl 1 rfl) <| gfX8_7 hC hK hP (q0 := 0) rfl rfl dX8_laysAid_73 <| zsipush hC.1 hC.2.1 dX8_laysAid_76 (by decide) <| ziload_n hC.1 hC.2.1 dX8_laysAid_79 rfl (lv_at hl 0 rfl) <| ziadd hC.1 hC.2.1 dX8_laysAid_80 <| ?_
            obtain ⟨hz_9, hf⟩ := ck_some hf
            refine jal hC hK hP (q0 := 1) rfl (Nat.le_of_ble_eq_true rfl) hz_9 rfl dX8_laysAid_81 <| zimul hC.1 hC.2.1 dX8_laysAid_82 <| lv_aload_n hC.1 hC.2.1 dX8_laysAid_83 rfl (lv_at hl 1 rfl) <| ziload_n hC.1 hC.2.1 dX8_laysAid_84 rfl (lv_at hl 0 rfl) <| ?_
            obtain ⟨r_10, hu, hf⟩ := bd_some hf
            refine zcVP (As := [vI r_8]) (rest := [vI (28 * (V 0 (413 + r_8).toNat))]) hC hK (met_X8_yearOf l D kA a V r_8 hu) zwX8_107 hP (q0 := 0) rfl rfl rfl rfl hl.1 rfl (Nat.le_of_ble_eq_true rfl) ⟨Nat.le_of_ble_eq_true rfl, Nat.le_of_ble_eq_true rfl⟩ ⟨rfl, rfl⟩ ⟨Nat.le_refl _, Nat.le_refl _⟩ dX8_laysAid_85 <| ziadd hC.1 hC.2.1 dX8_laysAid_88 <| ?_
            refine ztopi (fun x_11 ex_11 => ?_)
            have hf := nm_at hf ex_11
            refine zistore (lv' := [(4, vI x_11), (3, vI r_8), (0, .ref (a 0)), (1, vI y1), (2, vI y2)]) hC.1 hC.2.1 dX8_laysAid_89 hl (by decide) rfl (fun ls hl => ?_)
            refine lv_aload_n hC.1 hC.2.1 dX8_laysAid_91 rfl (lv_at hl 2 rfl) <| gfX8_40 hC hK hP (q0 := 0) rfl rfl dX8_laysAid_92 <| ziload_n hC.1 hC.2.1 dX8_laysAid_95 rfl (lv_at hl 1 rfl) <| lv_aload_n hC.1 hC.2.1 dX8_laysAid_96 rfl (lv_at hl 2 rfl) <| ziload_n hC.1 hC.2.1 dX8_laysAid_97 rfl (lv_at hl 1 rfl) <| ?_
            obtain ⟨r_12, hu, hf⟩ := bd_some hf
            refine zcVP (As := [vI r_8]) (rest := [vI r_8, .ref (a 11)]) hC hK (met_X8_wishOf l D kA a n V r_8 hu) zwX8_110 hP (q0 := 0) rfl rfl rfl rfl hl.1 rfl (Nat.le_of_ble_eq_true rfl) ⟨Nat.le_of_ble_eq_true rfl, Nat.le_of_ble_eq_true rfl⟩ ⟨rfl, rfl⟩ ⟨Nat.le_refl _, Nat.le_refl _⟩ dX8_laysAid_98 <| ?_
            obtain ⟨hz_13, hf⟩ := ck_some hf
            refine jas hC hK hP (hD V) hS (q0 := 11) rfl (Nat.le_of_ble_eq_true rfl) hz_13 rfl dX8_laysAid_101 (fun H locs hP hS => ?_)
            obtain ⟨V_14, eV_14⟩ : ∃ y, y = uz V 13 r_8.toNat r_12 := ⟨_, rfl⟩
            have hf := nm_at hf eV_14
            have hP : va_P D vwCl (cs_X8 kA a V_14) H := by rw [eV_14]; exact hP
            refine lv_aload_n hC.1 hC.2.1 dX8_laysAid_102 rfl (lv_at hl 2 rfl) <| gfX8_37 hC hK hP (q0 := 0) rfl rfl dX8_laysAid_103 <| ziload_n hC.1 hC.2.1 dX8_laysAid_106 rfl (lv_at hl 1 rfl) <| ziconst hC.1 hC.2.1 dX8_laysAid_107 <| lv_aload_n hC.1 hC.2.1 dX8_laysAid_108 rfl (lv_at hl 2 rfl) <| gfX8_40 hC hK hP (q0 := 0) rfl rfl dX8_laysAid_109 <| ziload_n hC.1 hC.2.1 dX8_laysAid_112 rfl (lv_at hl 1 rfl) <| jal hC hK hP (q0 := 11) rfl (Nat.le_of_ble_eq_true rfl) hz_13 rfl dX8_laysAid_113 <| lv_aload_n hC.1 hC.2.1 dX8_laysAid_114 rfl (lv_at hl 2 rfl) <| gfX8_7 hC hK hP (q0 := 0) rfl rfl dX8_laysAid_115 <| zbipush hC.1 hC.2.1 dX8_laysAid_118 (by decide) <| lv_aload_n hC.1 hC.2.1 dX8_laysAid_120 rfl (lv_at hl 2 rfl) <| gfX8_7 hC hK hP (q0 := 0) rfl rfl dX8_laysAid_121 <| zsipush hC.1 hC.2.1 dX8_laysAid_124 (by decide) <| ziload_n hC.1 hC.2.1 dX8_laysAid_127 rfl (lv_at hl 1 rfl) <| ziadd hC.1 hC.2.1 dX8_laysAid_128 <| jal hC hK hP (q0 := 1) rfl (Nat.le_of_ble_eq_true rfl) hz_9 rfl dX8_laysAid_129 <| ziadd hC.1 hC.2.1 dX8_laysAid_130 <| ?_
            obtain ⟨hz_15, hf⟩ := ck_some hf
            refine jal hC hK hP (q0 := 1) rfl (Nat.le_of_ble_eq_true rfl) hz_15 rfl dX8_laysAid_131 <| lv_aload_n hC.1 hC.2.1 dX8_laysAid_132 rfl (lv_at hl 2 rfl) <| gfX8_34 hC hK hP (q0 := 0) rfl rfl dX8_laysAid_133 <| ziload hC.1 hC.2.1 dX8_laysAid_136 (lv_at hl 0 rfl) <| ?_
            obtain ⟨hz_16, hf⟩ := ck_some hf
            refine jal hC hK hP (q0 := 9) rfl (Nat.le_of_ble_eq_true rfl) hz_16 rfl dX8_laysAid_138 <| zisub hC.1 hC.2.1 dX8_laysAid_139 <| ?_
            obtain ⟨hz_17, hf⟩ := ck_some hf
            refine jmin ⟨hz_17.1, hz_17.2⟩ hC qw_1562 hl.1 (Nat.le_of_ble_eq_true rfl) ⟨Nat.le_of_ble_eq_true rfl, Nat.le_of_ble_eq_true rfl⟩ ⟨Nat.le_refl _, Nat.le_refl _⟩ dX8_laysAid_140 <| ?_
            obtain ⟨hz_18, hf⟩ := ck_some hf
            refine jmax ⟨(by decide), hz_18⟩ hC qw_1518 hl.1 (Nat.le_of_ble_eq_true rfl) ⟨Nat.le_of_ble_eq_true rfl, Nat.le_of_ble_eq_true rfl⟩ ⟨Nat.le_refl _, Nat.le_refl _⟩ dX8_laysAid_143 <| ?_
            refine jas hC hK hP (hD V_14) hS (q0 := 10) rfl (Nat.le_of_ble_eq_true rfl) hz_13 rfl dX8_laysAid_146 (fun H locs hP hS => ?_)
            obtain ⟨V_19, eV_19⟩ : ∃ y, y = uz V_14 12 r_8.toNat (max 0 (min (V_14 13 r_8.toNat) ((V_14 0 (10 + (V_14 0 (413 + r_8).toNat)).toNat) - (V_14 11 x_11.toNat)))) := ⟨_, rfl⟩
            have hf := nm_at hf eV_19
            have hP : va_P D vwCl (cs_X8 kA a V_19) H := by rw [eV_19]; exact hP
            refine lv_aload_n hC.1 hC.2.1 dX8_laysAid_147 rfl (lv_at hl 2 rfl) <| gfX8_34 hC hK hP (q0 := 0) rfl rfl dX8_laysAid_148 <| ziload hC.1 hC.2.1 dX8_laysAid_151 (lv_at hl 0 rfl) <| lv_dup2_11 hC.1 hC.2.1 dX8_laysAid_153 rfl rfl <| jal hC hK hP (q0 := 9) rfl (Nat.le_of_ble_eq_true rfl) hz_16 rfl dX8_laysAid_154 <| lv_aload_n hC.1 hC.2.1 dX8_laysAid_155 rfl (lv_at hl 2 rfl) <| gfX8_37 hC hK hP (q0 := 0) rfl rfl dX8_laysAid_156 <| ziload_n hC.1 hC.2.1 dX8_laysAid_159 rfl (lv_at hl 1 rfl) <| jal hC hK hP (q0 := 10) rfl (Nat.le_of_ble_eq_true rfl) hz_13 rfl dX8_laysAid_160 <| ziadd hC.1 hC.2.1 dX8_laysAid_161 <| ?_
            refine jas hC hK hP (hD V_19) hS (q0 := 9) rfl (Nat.le_of_ble_eq_true rfl) hz_16 rfl dX8_laysAid_162 (fun H locs hP hS => ?_)
            obtain ⟨V_20, eV_20⟩ : ∃ y, y = uz V_19 11 x_11.toNat ((V_19 11 x_11.toNat) + (V_19 12 r_8.toNat)) := ⟨_, rfl⟩
            have hf := nm_at hf eV_20
            have hP : va_P D vwCl (cs_X8 kA a V_20) H := by rw [eV_20]; exact hP
            obtain ⟨x_21, ex_21⟩ : ∃ y : Int, y = y2 + 1 := ⟨_, rfl⟩
            have hf := nm_at hf ex_21
            refine ziinc (v := x_21) (lv' := [(2, vI x_21), (4, vI x_11), (3, vI r_8), (0, .ref (a 0)), (1, vI y1)]) hC.1 hC.2.1 dX8_laysAid_163 hl (k := 4) rfl ex_21 (by decide) rfl (fun ls hl => ?_)
            exact lv_goto (tgt := 40) hC.1 hC.2.1 dX8_laysAid_166 (by decide) <| ih40 _ _ _ _ _ _ hf hP hS (lv_sub hl [3, 4, 0] rfl)
      refine ziload_n hC.1 hC.2.1 dX8_laysAid_28 rfl (lv_at hl 1 rfl) <| lv_aload_n hC.1 hC.2.1 dX8_laysAid_29 rfl (lv_at hl 0 rfl) <| gfX8_7 hC hK hP (q0 := 0) rfl rfl dX8_laysAid_30 <| ziconst hC.1 hC.2.1 dX8_laysAid_33 <| jal hC hK hP (q0 := 1) rfl (Nat.le_of_ble_eq_true rfl) (by decide) rfl dX8_laysAid_34 <| ?_
      obtain ⟨hz_3, hf⟩ := ck_some hf
      refine zicmp_ge (tgt := 175) hC.1 hC.2.1 ⟨hz_3.1, hz_3.2⟩ dX8_laysAid_35 (by decide) (fun hc => ?_) (fun hc => ?_)
      · have hf := it_t hf hc
        have hf := Option.some.inj hf
        exact hret _ _ _ _ rfl (by rw [← hf]; exact hP) hS dX8_laysAid_175
      · have hf := it_f hf hc
        refine ziconst hC.1 hC.2.1 dX8_laysAid_38 <| zistore_n (lv' := [(2, vI 0), (0, .ref (a 0)), (1, vI y1)]) hC.1 hC.2.1 dX8_laysAid_39 rfl hl (by decide) rfl (fun ls hl => ?_)
        exact L40 n _ _ _ _ _ _ hf hP hS (lv_sub hl [1, 2, 0] rfl)
  have L6 : ∀ (k6 : Nat) (y1 : Int) (V : Sz) (H : Heap) (locs : List Loc) (ls : Array Slot), lpF (bX8_laysAid_6 n) k6 (y1, V) = some Vr → va_P D vwCl (cs_X8 kA a V) H → va_S A0 s.heap H locs → lv_has ls 5 [(0, .ref (a 0)), (1, vI y1)] → W p l e rmX8_laysAid s m args below meth c H locs 0 0 Q (F0 m 6 ls []) := by
    intro k6
    induction k6 with
    | zero => intro y1 V H locs ls hf hP hS hl; exact lp_0 hf
    | succ k6 ih6 =>
      intro y1 V H locs ls hf hP hS hl
      have hf := lp_s hf
      rw [bX8_laysAid_6_e] at hf
      refine ziload_n hC.1 hC.2.1 dX8_laysAid_6 rfl (lv_at hl 1 rfl) <| zsipush hC.1 hC.2.1 dX8_laysAid_7 (by decide) <| ?_
      obtain ⟨hz_2, hf⟩ := ck_some hf
      refine zicmp_ge (tgt := 26) hC.1 hC.2.1 ⟨hz_2, (by decide)⟩ dX8_laysAid_10 (by decide) (fun hc => ?_) (fun hc => ?_)
      · have hf := it_t hf hc
        refine ziconst hC.1 hC.2.1 dX8_laysAid_26 <| zistore_n (lv' := [(1, vI 0), (0, .ref (a 0))]) hC.1 hC.2.1 dX8_laysAid_27 rfl hl (by decide) rfl (fun ls hl => ?_)
        exact L28 n _ _ _ _ _ hf hP hS (lv_sub hl [1, 0] rfl)
      · have hf := it_f hf hc
        refine lv_aload_n hC.1 hC.2.1 dX8_laysAid_13 rfl (lv_at hl 0 rfl) <| gfX8_34 hC hK hP (q0 := 0) rfl rfl dX8_laysAid_14 <| ziload_n hC.1 hC.2.1 dX8_laysAid_17 rfl (lv_at hl 1 rfl) <| ziconst hC.1 hC.2.1 dX8_laysAid_18 <| ?_
        obtain ⟨hz_22, hf⟩ := ck_some hf
        refine jas hC hK hP (hD V) hS (q0 := 9) rfl (Nat.le_of_ble_eq_true rfl) hz_22 rfl dX8_laysAid_19 (fun H locs hP hS => ?_)
        obtain ⟨V_23, eV_23⟩ : ∃ y, y = uz V 11 y1.toNat 0 := ⟨_, rfl⟩
        have hf := nm_at hf eV_23
        have hP : va_P D vwCl (cs_X8 kA a V_23) H := by rw [eV_23]; exact hP
        obtain ⟨x_24, ex_24⟩ : ∃ y : Int, y = y1 + 1 := ⟨_, rfl⟩
        have hf := nm_at hf ex_24
        refine ziinc (v := x_24) (lv' := [(1, vI x_24), (0, .ref (a 0))]) hC.1 hC.2.1 dX8_laysAid_20 hl (k := 1) rfl ex_24 (by decide) rfl (fun ls hl => ?_)
        exact lv_goto (tgt := 6) hC.1 hC.2.1 dX8_laysAid_23 (by decide) <| ih6 _ _ _ _ _ hf hP hS (lv_sub hl [1, 0] rfl)
  refine lv_aload_n hC.1 hC.2.1 dX8_laysAid_0 rfl (lv_at hl 0 rfl) <| ?_
  obtain ⟨V_1, hu, hf⟩ := bd_some hf
  have hDc := hDt
  refine zcVZ (As := []) (rest := []) hC hK (met_X8_laysOrder l D kA a n V0 hDc hu) zwX8_100 hS (zFsub (hD V0) [0, 1, 2, 3, 4, 5, 6, 7, 8, 9, 10, 11, 12, 13, 14, 15, 16] rfl) hP (q0 := 0) rfl rfl rfl rfl hl.1 rfl (Nat.le_of_ble_eq_true rfl) ⟨Nat.le_of_ble_eq_true rfl, Nat.le_of_ble_eq_true rfl⟩ ⟨rfl, rfl⟩ ⟨Nat.le_refl _, Nat.le_refl _⟩ dX8_laysAid_1 (fun H locs hP1 hk1 hS => ?_)
  have hP : va_P D vwCl (cs_X8 kA a V_1) H := hP1
  refine ziconst hC.1 hC.2.1 dX8_laysAid_4 <| zistore_n (lv' := [(1, vI 0), (0, .ref (a 0))]) hC.1 hC.2.1 dX8_laysAid_5 rfl hl (by decide) rfl (fun ls hl => ?_)
  exact L6 n _ _ _ _ _ hf hP hS (lv_sub hl [1, 0] rfl)
theorem DX8_allAid_0 : ∀ q ∈ ([(0, .aload_n 0, 1), (1, .invokevirtual 121, 3), (4, .iconst 0, 1), (5, .istore_n 1, 1), (6, .iconst 0, 1), (7, .istore_n 2, 1), (8, .iload_n 2, 1), (9, .sipush 180, 3), (12, .if_icmp .ge 30, 3), (15, .iload_n 1, 1), (16, .aload_n 0, 1), (17, .iload_n 2, 1), (18, .invokevirtual 124, 3), (21, .ifCond .eq 12, 3), (24, .aload_n 0, 1), (25, .getfield 37, 3), (28, .iload_n 2, 1), (29, .iaload, 1), (30, .goto 4, 3), (33, .iconst 0, 1), (34, .iadd, 1), (35, .istore_n 1, 1), (36, .iinc 2 1, 3), (39, .goto (-31), 3), (42, .iload_n 1, 1), (43, .ireturn, 1)] : List (Nat × Instr × Nat)), decode cX8_allAid q.1 = .ok q.2 := by decide +kernel
theorem dX8_allAid_0 : decode cX8_allAid 0 = .ok (.aload_n 0, 1) := DX8_allAid_0 (0, .aload_n 0, 1) (List.mem_of_getElem? (i := 0) rfl)
theorem dX8_allAid_1 : decode cX8_allAid 1 = .ok (.invokevirtual 121, 3) := DX8_allAid_0 (1, .invokevirtual 121, 3) (List.mem_of_getElem? (i := 1) rfl)
theorem dX8_allAid_4 : decode cX8_allAid 4 = .ok (.iconst 0, 1) := DX8_allAid_0 (4, .iconst 0, 1) (List.mem_of_getElem? (i := 2) rfl)
theorem dX8_allAid_5 : decode cX8_allAid 5 = .ok (.istore_n 1, 1) := DX8_allAid_0 (5, .istore_n 1, 1) (List.mem_of_getElem? (i := 3) rfl)
theorem dX8_allAid_6 : decode cX8_allAid 6 = .ok (.iconst 0, 1) := DX8_allAid_0 (6, .iconst 0, 1) (List.mem_of_getElem? (i := 4) rfl)
theorem dX8_allAid_7 : decode cX8_allAid 7 = .ok (.istore_n 2, 1) := DX8_allAid_0 (7, .istore_n 2, 1) (List.mem_of_getElem? (i := 5) rfl)
theorem dX8_allAid_8 : decode cX8_allAid 8 = .ok (.iload_n 2, 1) := DX8_allAid_0 (8, .iload_n 2, 1) (List.mem_of_getElem? (i := 6) rfl)
theorem dX8_allAid_9 : decode cX8_allAid 9 = .ok (.sipush 180, 3) := DX8_allAid_0 (9, .sipush 180, 3) (List.mem_of_getElem? (i := 7) rfl)
theorem dX8_allAid_12 : decode cX8_allAid 12 = .ok (.if_icmp .ge 30, 3) := DX8_allAid_0 (12, .if_icmp .ge 30, 3) (List.mem_of_getElem? (i := 8) rfl)
theorem dX8_allAid_15 : decode cX8_allAid 15 = .ok (.iload_n 1, 1) := DX8_allAid_0 (15, .iload_n 1, 1) (List.mem_of_getElem? (i := 9) rfl)
theorem dX8_allAid_16 : decode cX8_allAid 16 = .ok (.aload_n 0, 1) := DX8_allAid_0 (16, .aload_n 0, 1) (List.mem_of_getElem? (i := 10) rfl)
theorem dX8_allAid_17 : decode cX8_allAid 17 = .ok (.iload_n 2, 1) := DX8_allAid_0 (17, .iload_n 2, 1) (List.mem_of_getElem? (i := 11) rfl)
theorem dX8_allAid_18 : decode cX8_allAid 18 = .ok (.invokevirtual 124, 3) := DX8_allAid_0 (18, .invokevirtual 124, 3) (List.mem_of_getElem? (i := 12) rfl)
theorem dX8_allAid_21 : decode cX8_allAid 21 = .ok (.ifCond .eq 12, 3) := DX8_allAid_0 (21, .ifCond .eq 12, 3) (List.mem_of_getElem? (i := 13) rfl)
theorem dX8_allAid_24 : decode cX8_allAid 24 = .ok (.aload_n 0, 1) := DX8_allAid_0 (24, .aload_n 0, 1) (List.mem_of_getElem? (i := 14) rfl)
theorem dX8_allAid_25 : decode cX8_allAid 25 = .ok (.getfield 37, 3) := DX8_allAid_0 (25, .getfield 37, 3) (List.mem_of_getElem? (i := 15) rfl)
theorem dX8_allAid_28 : decode cX8_allAid 28 = .ok (.iload_n 2, 1) := DX8_allAid_0 (28, .iload_n 2, 1) (List.mem_of_getElem? (i := 16) rfl)
theorem dX8_allAid_29 : decode cX8_allAid 29 = .ok (.iaload, 1) := DX8_allAid_0 (29, .iaload, 1) (List.mem_of_getElem? (i := 17) rfl)
theorem dX8_allAid_30 : decode cX8_allAid 30 = .ok (.goto 4, 3) := DX8_allAid_0 (30, .goto 4, 3) (List.mem_of_getElem? (i := 18) rfl)
theorem dX8_allAid_33 : decode cX8_allAid 33 = .ok (.iconst 0, 1) := DX8_allAid_0 (33, .iconst 0, 1) (List.mem_of_getElem? (i := 19) rfl)
theorem dX8_allAid_34 : decode cX8_allAid 34 = .ok (.iadd, 1) := DX8_allAid_0 (34, .iadd, 1) (List.mem_of_getElem? (i := 20) rfl)
theorem dX8_allAid_35 : decode cX8_allAid 35 = .ok (.istore_n 1, 1) := DX8_allAid_0 (35, .istore_n 1, 1) (List.mem_of_getElem? (i := 21) rfl)
theorem dX8_allAid_36 : decode cX8_allAid 36 = .ok (.iinc 2 1, 3) := DX8_allAid_0 (36, .iinc 2 1, 3) (List.mem_of_getElem? (i := 22) rfl)
theorem dX8_allAid_39 : decode cX8_allAid 39 = .ok (.goto (-31), 3) := DX8_allAid_0 (39, .goto (-31), 3) (List.mem_of_getElem? (i := 23) rfl)
theorem dX8_allAid_42 : decode cX8_allAid 42 = .ok (.iload_n 1, 1) := DX8_allAid_0 (42, .iload_n 1, 1) (List.mem_of_getElem? (i := 24) rfl)
theorem dX8_allAid_43 : decode cX8_allAid 43 = .ok (.ireturn, 1) := DX8_allAid_0 (43, .ireturn, 1) (List.mem_of_getElem? (i := 25) rfl)
abbrev rmX8_allAid : Room := { frames := 4, cells := 0, slots := 0, locals := 90 }
set_option maxHeartbeats 400000 in
set_option maxRecDepth 100000 in
theorem met_X8_allAid (l : Launch) (D : va_G) (kA : Nat → ClassId) (a : Nat → Nat) (n : Nat) (V0 : Sz) (hDt : ∀ w : Sz, va_D (fun _ => True) (cs_X8 kA a w)) {r : Int} {Vr : Sz} (hf : f_X8_allAid n V0 = some (r, Vr)) : MZ l yX8_allAid cX8_allAid 3 (some .int) rmX8_allAid D kA [.ref (a 0)] (cs_X8 kA a V0) (cs_X8 kA a Vr) (some (vI r)) := by
  refine zZI (own := RX8) rfl rfl (Nat.le_of_ble_eq_true rfl) ?_
  intro p e s m args below meth c ls Q hC hK hP hl hret
  have hl : lv_has ls 3 [(0, .ref (a 0))] := hl
  have hS : va_S (zF (cs_X8 kA a V0)) s.heap s.heap [] := va_S.rf
  have hD := zDself (C := fun w : Sz => (cs_X8 kA a w)) hDt V0 (fun _ => rfl)
  try dsimp only at hD
  generalize hAe : zF (cs_X8 kA a V0) = A0 at hS hD hret
  unfold f_X8_allAid at hf
  have L8 : ∀ (k8 : Nat) (y1 : Int) (y2 : Int) (V : Sz) (H : Heap) (locs : List Loc) (ls : Array Slot), lpF (bX8_allAid_8 n) k8 (y1, y2, V) = some (r, Vr) → va_P D vwCl (cs_X8 kA a V) H → va_S A0 s.heap H locs → lv_has ls 3 [(0, .ref (a 0)), (1, vI y1), (2, vI y2)] → W p l e rmX8_allAid s m args below meth c H locs 0 0 Q (F0 m 8 ls []) := by
    intro k8
    induction k8 with
    | zero => intro y1 y2 V H locs ls hf hP hS hl; exact lp_0 hf
    | succ k8 ih8 =>
      intro y1 y2 V H locs ls hf hP hS hl
      have hf := lp_s hf
      rw [bX8_allAid_8_e] at hf
      have J34 : ∀ (y2 : Int) (V : Sz) (z0 : Int) (z1 : Int) (H : Heap) (locs : List Loc) (ls : Array Slot), jX8_allAid_34 n (lpF (bX8_allAid_8 n) k8) y2 V z0 z1 = some (r, Vr) → va_P D vwCl (cs_X8 kA a V) H → va_S A0 s.heap H locs → lv_has ls 3 [(0, .ref (a 0)), (2, vI y2)] → W p l e rmX8_allAid s m args below meth c H locs 0 0 Q (F0 m 34 ls [vI z0, vI z1]) := by
        intro y2 V z0 z1 H locs ls hf hP hS hl
        unfold jX8_allAid_34 at hf
        refine ziadd hC.1 hC.2.1 dX8_allAid_34 <| ?_
        refine ztopi (fun x_4 ex_4 => ?_)
        have hf := nm_at hf ex_4
        refine zistore_n (lv' := [(1, vI x_4), (0, .ref (a 0)), (2, vI y2)]) hC.1 hC.2.1 dX8_allAid_35 rfl hl (by decide) rfl (fun ls hl => ?_)
        obtain ⟨x_5, ex_5⟩ : ∃ y : Int, y = y2 + 1 := ⟨_, rfl⟩
        have hf := nm_at hf ex_5
        refine ziinc (v := x_5) (lv' := [(2, vI x_5), (1, vI x_4), (0, .ref (a 0))]) hC.1 hC.2.1 dX8_allAid_36 hl (k := 2) rfl ex_5 (by decide) rfl (fun ls hl => ?_)
        exact lv_goto (tgt := 8) hC.1 hC.2.1 dX8_allAid_39 (by decide) <| ih8 _ _ _ _ _ _ hf hP hS (lv_sub hl [2, 1, 0] rfl)
      refine ziload_n hC.1 hC.2.1 dX8_allAid_8 rfl (lv_at hl 2 rfl) <| zsipush hC.1 hC.2.1 dX8_allAid_9 (by decide) <| ?_
      obtain ⟨hz_2, hf⟩ := ck_some hf
      refine zicmp_ge (tgt := 42) hC.1 hC.2.1 ⟨hz_2, (by decide)⟩ dX8_allAid_12 (by decide) (fun hc => ?_) (fun hc => ?_)
      · have hf := it_t hf hc
        refine ziload_n hC.1 hC.2.1 dX8_allAid_42 rfl (lv_at hl 1 rfl) <| ?_
        have hf := Option.some.inj hf
        simp only [Prod.mk.injEq] at hf
        exact hret (Int32.ofInt y1) _ _ _ _ (congrArg (fun z => some (vI z)) hf.1.symm) (by rw [← hf.2]; exact hP) hS dX8_allAid_43
      · have hf := it_f hf hc
        refine ziload_n hC.1 hC.2.1 dX8_allAid_15 rfl (lv_at hl 1 rfl) <| lv_aload_n hC.1 hC.2.1 dX8_allAid_16 rfl (lv_at hl 0 rfl) <| ziload_n hC.1 hC.2.1 dX8_allAid_17 rfl (lv_at hl 2 rfl) <| ?_
        obtain ⟨r_3, hu, hf⟩ := bd_some hf
        refine zcVP (As := [vI y2]) (rest := [vI y1]) hC hK (met_X8_isPart l D kA a V y2 hu) zwX8_124 hP (q0 := 0) rfl rfl rfl rfl hl.1 rfl (Nat.le_of_ble_eq_true rfl) ⟨Nat.le_of_ble_eq_true rfl, Nat.le_of_ble_eq_true rfl⟩ ⟨rfl, rfl⟩ ⟨Nat.le_refl _, Nat.le_refl _⟩ dX8_allAid_18 <| zifb_eq (tgt := 33) hC.1 hC.2.1 dX8_allAid_21 (by decide) (fun hc => ?_) (fun hc => ?_)
        · have hf := it_t hf hc
          exact ziconst hC.1 hC.2.1 dX8_allAid_33 <| J34 _ _ _ _ _ _ _ hf hP hS (lv_sub hl [0, 2] rfl)
        · have hf := it_f hf hc
          refine lv_aload_n hC.1 hC.2.1 dX8_allAid_24 rfl (lv_at hl 0 rfl) <| gfX8_37 hC hK hP (q0 := 0) rfl rfl dX8_allAid_25 <| ziload_n hC.1 hC.2.1 dX8_allAid_28 rfl (lv_at hl 2 rfl) <| ?_
          obtain ⟨hz_6, hf⟩ := ck_some hf
          exact jal hC hK hP (q0 := 10) rfl (Nat.le_of_ble_eq_true rfl) hz_6 rfl dX8_allAid_29 <| lv_goto (tgt := 34) hC.1 hC.2.1 dX8_allAid_30 (by decide) <| J34 _ _ _ _ _ _ _ hf hP hS (lv_sub hl [0, 2] rfl)
  refine lv_aload_n hC.1 hC.2.1 dX8_allAid_0 rfl (lv_at hl 0 rfl) <| ?_
  obtain ⟨V_1, hu, hf⟩ := bd_some hf
  have hDc := hDt
  refine zcVZ (As := []) (rest := []) hC hK (met_X8_laysAid l D kA a n V0 hDc hu) zwX8_121 hS (zFsub (hD V0) [0, 1, 2, 3, 4, 5, 6, 7, 8, 9, 10, 11, 12, 13, 14, 15, 16] rfl) hP (q0 := 0) rfl rfl rfl rfl hl.1 rfl (Nat.le_of_ble_eq_true rfl) ⟨Nat.le_of_ble_eq_true rfl, Nat.le_of_ble_eq_true rfl⟩ ⟨rfl, rfl⟩ ⟨Nat.le_refl _, Nat.le_refl _⟩ dX8_allAid_1 (fun H locs hP1 hk1 hS => ?_)
  have hP : va_P D vwCl (cs_X8 kA a V_1) H := hP1
  refine ziconst hC.1 hC.2.1 dX8_allAid_4 <| zistore_n (lv' := [(1, vI 0), (0, .ref (a 0))]) hC.1 hC.2.1 dX8_allAid_5 rfl hl (by decide) rfl (fun ls hl => ?_)
  refine ziconst hC.1 hC.2.1 dX8_allAid_6 <| zistore_n (lv' := [(2, vI 0), (1, vI 0), (0, .ref (a 0))]) hC.1 hC.2.1 dX8_allAid_7 rfl hl (by decide) rfl (fun ls hl => ?_)
  exact L8 n _ _ _ _ _ _ hf hP hS (lv_sub hl [2, 1, 0] rfl)
theorem DX8_shares_0 : ∀ q ∈ ([(0, .iload_n 3, 1), (1, .iload 4, 2), (3, .iadd, 1), (4, .iload 5, 2), (6, .iadd, 1), (7, .istore 6, 2), (9, .aload_n 0, 1), (10, .getfield 7, 3), (13, .sipush 173, 3), (16, .iload_n 1, 1), (17, .iadd, 1), (18, .iaload, 1), (19, .istore 7, 2), (21, .iconst 0, 1), (22, .istore 8, 2), (24, .iload 8, 2), (26, .iload_n 2, 1), (27, .if_icmp .ge 84, 3), (30, .iload 8, 2), (32, .ifCond .ne 7, 3), (35, .iload_n 3, 1), (36, .goto 16, 3), (39, .iload 8, 2), (41, .iconst 1, 1), (42, .if_icmp .ne 8, 3), (45, .iload 4, 2), (47, .goto 5, 3), (50, .iload 5, 2), (52, .istore 9, 2), (54, .aload_n 0, 1), (55, .getfield 7, 3), (58, .sipush 593, 3), (61, .iload_n 1, 1), (62, .iload 8, 2), (64, .invokestatic 103, 3), (67, .iadd, 1), (68, .aload_n 0, 1), (69, .getfield 7, 3), (72, .sipush 173, 3), (75, .iload_n 1, 1)] : List (Nat × Instr × Nat)), decode cX8_shares q.1 = .ok q.2 := by decide +kernel
theorem dX8_shares_0 : decode cX8_shares 0 = .ok (.iload_n 3, 1) := DX8_shares_0 (0, .iload_n 3, 1) (List.mem_of_getElem? (i := 0) rfl)
theorem dX8_shares_1 : decode cX8_shares 1 = .ok (.iload 4, 2) := DX8_shares_0 (1, .iload 4, 2) (List.mem_of_getElem? (i := 1) rfl)
theorem dX8_shares_3 : decode cX8_shares 3 = .ok (.iadd, 1) := DX8_shares_0 (3, .iadd, 1) (List.mem_of_getElem? (i := 2) rfl)
theorem dX8_shares_4 : decode cX8_shares 4 = .ok (.iload 5, 2) := DX8_shares_0 (4, .iload 5, 2) (List.mem_of_getElem? (i := 3) rfl)
theorem dX8_shares_6 : decode cX8_shares 6 = .ok (.iadd, 1) := DX8_shares_0 (6, .iadd, 1) (List.mem_of_getElem? (i := 4) rfl)
theorem dX8_shares_7 : decode cX8_shares 7 = .ok (.istore 6, 2) := DX8_shares_0 (7, .istore 6, 2) (List.mem_of_getElem? (i := 5) rfl)
theorem dX8_shares_9 : decode cX8_shares 9 = .ok (.aload_n 0, 1) := DX8_shares_0 (9, .aload_n 0, 1) (List.mem_of_getElem? (i := 6) rfl)
theorem dX8_shares_10 : decode cX8_shares 10 = .ok (.getfield 7, 3) := DX8_shares_0 (10, .getfield 7, 3) (List.mem_of_getElem? (i := 7) rfl)
theorem dX8_shares_13 : decode cX8_shares 13 = .ok (.sipush 173, 3) := DX8_shares_0 (13, .sipush 173, 3) (List.mem_of_getElem? (i := 8) rfl)
theorem dX8_shares_16 : decode cX8_shares 16 = .ok (.iload_n 1, 1) := DX8_shares_0 (16, .iload_n 1, 1) (List.mem_of_getElem? (i := 9) rfl)
theorem dX8_shares_17 : decode cX8_shares 17 = .ok (.iadd, 1) := DX8_shares_0 (17, .iadd, 1) (List.mem_of_getElem? (i := 10) rfl)
theorem dX8_shares_18 : decode cX8_shares 18 = .ok (.iaload, 1) := DX8_shares_0 (18, .iaload, 1) (List.mem_of_getElem? (i := 11) rfl)
theorem dX8_shares_19 : decode cX8_shares 19 = .ok (.istore 7, 2) := DX8_shares_0 (19, .istore 7, 2) (List.mem_of_getElem? (i := 12) rfl)
theorem dX8_shares_21 : decode cX8_shares 21 = .ok (.iconst 0, 1) := DX8_shares_0 (21, .iconst 0, 1) (List.mem_of_getElem? (i := 13) rfl)
theorem dX8_shares_22 : decode cX8_shares 22 = .ok (.istore 8, 2) := DX8_shares_0 (22, .istore 8, 2) (List.mem_of_getElem? (i := 14) rfl)
theorem dX8_shares_24 : decode cX8_shares 24 = .ok (.iload 8, 2) := DX8_shares_0 (24, .iload 8, 2) (List.mem_of_getElem? (i := 15) rfl)
theorem dX8_shares_26 : decode cX8_shares 26 = .ok (.iload_n 2, 1) := DX8_shares_0 (26, .iload_n 2, 1) (List.mem_of_getElem? (i := 16) rfl)
theorem dX8_shares_27 : decode cX8_shares 27 = .ok (.if_icmp .ge 84, 3) := DX8_shares_0 (27, .if_icmp .ge 84, 3) (List.mem_of_getElem? (i := 17) rfl)
theorem dX8_shares_30 : decode cX8_shares 30 = .ok (.iload 8, 2) := DX8_shares_0 (30, .iload 8, 2) (List.mem_of_getElem? (i := 18) rfl)
theorem dX8_shares_32 : decode cX8_shares 32 = .ok (.ifCond .ne 7, 3) := DX8_shares_0 (32, .ifCond .ne 7, 3) (List.mem_of_getElem? (i := 19) rfl)
theorem dX8_shares_35 : decode cX8_shares 35 = .ok (.iload_n 3, 1) := DX8_shares_0 (35, .iload_n 3, 1) (List.mem_of_getElem? (i := 20) rfl)
theorem dX8_shares_36 : decode cX8_shares 36 = .ok (.goto 16, 3) := DX8_shares_0 (36, .goto 16, 3) (List.mem_of_getElem? (i := 21) rfl)
theorem dX8_shares_39 : decode cX8_shares 39 = .ok (.iload 8, 2) := DX8_shares_0 (39, .iload 8, 2) (List.mem_of_getElem? (i := 22) rfl)
theorem dX8_shares_41 : decode cX8_shares 41 = .ok (.iconst 1, 1) := DX8_shares_0 (41, .iconst 1, 1) (List.mem_of_getElem? (i := 23) rfl)
theorem dX8_shares_42 : decode cX8_shares 42 = .ok (.if_icmp .ne 8, 3) := DX8_shares_0 (42, .if_icmp .ne 8, 3) (List.mem_of_getElem? (i := 24) rfl)
theorem dX8_shares_45 : decode cX8_shares 45 = .ok (.iload 4, 2) := DX8_shares_0 (45, .iload 4, 2) (List.mem_of_getElem? (i := 25) rfl)
theorem dX8_shares_47 : decode cX8_shares 47 = .ok (.goto 5, 3) := DX8_shares_0 (47, .goto 5, 3) (List.mem_of_getElem? (i := 26) rfl)
theorem dX8_shares_50 : decode cX8_shares 50 = .ok (.iload 5, 2) := DX8_shares_0 (50, .iload 5, 2) (List.mem_of_getElem? (i := 27) rfl)
theorem dX8_shares_52 : decode cX8_shares 52 = .ok (.istore 9, 2) := DX8_shares_0 (52, .istore 9, 2) (List.mem_of_getElem? (i := 28) rfl)
theorem dX8_shares_54 : decode cX8_shares 54 = .ok (.aload_n 0, 1) := DX8_shares_0 (54, .aload_n 0, 1) (List.mem_of_getElem? (i := 29) rfl)
theorem dX8_shares_55 : decode cX8_shares 55 = .ok (.getfield 7, 3) := DX8_shares_0 (55, .getfield 7, 3) (List.mem_of_getElem? (i := 30) rfl)
theorem dX8_shares_58 : decode cX8_shares 58 = .ok (.sipush 593, 3) := DX8_shares_0 (58, .sipush 593, 3) (List.mem_of_getElem? (i := 31) rfl)
theorem dX8_shares_61 : decode cX8_shares 61 = .ok (.iload_n 1, 1) := DX8_shares_0 (61, .iload_n 1, 1) (List.mem_of_getElem? (i := 32) rfl)
theorem dX8_shares_62 : decode cX8_shares 62 = .ok (.iload 8, 2) := DX8_shares_0 (62, .iload 8, 2) (List.mem_of_getElem? (i := 33) rfl)
theorem dX8_shares_64 : decode cX8_shares 64 = .ok (.invokestatic 103, 3) := DX8_shares_0 (64, .invokestatic 103, 3) (List.mem_of_getElem? (i := 34) rfl)
theorem dX8_shares_67 : decode cX8_shares 67 = .ok (.iadd, 1) := DX8_shares_0 (67, .iadd, 1) (List.mem_of_getElem? (i := 35) rfl)
theorem dX8_shares_68 : decode cX8_shares 68 = .ok (.aload_n 0, 1) := DX8_shares_0 (68, .aload_n 0, 1) (List.mem_of_getElem? (i := 36) rfl)
theorem dX8_shares_69 : decode cX8_shares 69 = .ok (.getfield 7, 3) := DX8_shares_0 (69, .getfield 7, 3) (List.mem_of_getElem? (i := 37) rfl)
theorem dX8_shares_72 : decode cX8_shares 72 = .ok (.sipush 173, 3) := DX8_shares_0 (72, .sipush 173, 3) (List.mem_of_getElem? (i := 38) rfl)
theorem dX8_shares_75 : decode cX8_shares 75 = .ok (.iload_n 1, 1) := DX8_shares_0 (75, .iload_n 1, 1) (List.mem_of_getElem? (i := 39) rfl)
theorem DX8_shares_1 : ∀ q ∈ ([(76, .iadd, 1), (77, .iaload, 1), (78, .iload 9, 2), (80, .imul, 1), (81, .iload 6, 2), (83, .idiv, 1), (84, .iastore, 1), (85, .iload 7, 2), (87, .aload_n 0, 1), (88, .getfield 7, 3), (91, .sipush 593, 3), (94, .iload_n 1, 1), (95, .iload 8, 2), (97, .invokestatic 103, 3), (100, .iadd, 1), (101, .iaload, 1), (102, .isub, 1), (103, .istore 7, 2), (105, .iinc 8 1, 3), (108, .goto (-84), 3), (111, .iconst 0, 1), (112, .istore 8, 2), (114, .iload 8, 2), (116, .iload 7, 2), (118, .if_icmp .ge 28, 3), (121, .aload_n 0, 1), (122, .getfield 7, 3), (125, .sipush 593, 3), (128, .iload_n 1, 1), (129, .iload 8, 2), (131, .invokestatic 103, 3), (134, .iadd, 1), (135, .dup2, 1), (136, .iaload, 1), (137, .iconst 1, 1), (138, .iadd, 1), (139, .iastore, 1), (140, .iinc 8 1, 3), (143, .goto (-29), 3), (146, .aload_n 0, 1)] : List (Nat × Instr × Nat)), decode cX8_shares q.1 = .ok q.2 := by decide +kernel
theorem dX8_shares_76 : decode cX8_shares 76 = .ok (.iadd, 1) := DX8_shares_1 (76, .iadd, 1) (List.mem_of_getElem? (i := 0) rfl)
theorem dX8_shares_77 : decode cX8_shares 77 = .ok (.iaload, 1) := DX8_shares_1 (77, .iaload, 1) (List.mem_of_getElem? (i := 1) rfl)
theorem dX8_shares_78 : decode cX8_shares 78 = .ok (.iload 9, 2) := DX8_shares_1 (78, .iload 9, 2) (List.mem_of_getElem? (i := 2) rfl)
theorem dX8_shares_80 : decode cX8_shares 80 = .ok (.imul, 1) := DX8_shares_1 (80, .imul, 1) (List.mem_of_getElem? (i := 3) rfl)
theorem dX8_shares_81 : decode cX8_shares 81 = .ok (.iload 6, 2) := DX8_shares_1 (81, .iload 6, 2) (List.mem_of_getElem? (i := 4) rfl)
theorem dX8_shares_83 : decode cX8_shares 83 = .ok (.idiv, 1) := DX8_shares_1 (83, .idiv, 1) (List.mem_of_getElem? (i := 5) rfl)
theorem dX8_shares_84 : decode cX8_shares 84 = .ok (.iastore, 1) := DX8_shares_1 (84, .iastore, 1) (List.mem_of_getElem? (i := 6) rfl)
theorem dX8_shares_85 : decode cX8_shares 85 = .ok (.iload 7, 2) := DX8_shares_1 (85, .iload 7, 2) (List.mem_of_getElem? (i := 7) rfl)
theorem dX8_shares_87 : decode cX8_shares 87 = .ok (.aload_n 0, 1) := DX8_shares_1 (87, .aload_n 0, 1) (List.mem_of_getElem? (i := 8) rfl)
theorem dX8_shares_88 : decode cX8_shares 88 = .ok (.getfield 7, 3) := DX8_shares_1 (88, .getfield 7, 3) (List.mem_of_getElem? (i := 9) rfl)
theorem dX8_shares_91 : decode cX8_shares 91 = .ok (.sipush 593, 3) := DX8_shares_1 (91, .sipush 593, 3) (List.mem_of_getElem? (i := 10) rfl)
theorem dX8_shares_94 : decode cX8_shares 94 = .ok (.iload_n 1, 1) := DX8_shares_1 (94, .iload_n 1, 1) (List.mem_of_getElem? (i := 11) rfl)
theorem dX8_shares_95 : decode cX8_shares 95 = .ok (.iload 8, 2) := DX8_shares_1 (95, .iload 8, 2) (List.mem_of_getElem? (i := 12) rfl)
theorem dX8_shares_97 : decode cX8_shares 97 = .ok (.invokestatic 103, 3) := DX8_shares_1 (97, .invokestatic 103, 3) (List.mem_of_getElem? (i := 13) rfl)
theorem dX8_shares_100 : decode cX8_shares 100 = .ok (.iadd, 1) := DX8_shares_1 (100, .iadd, 1) (List.mem_of_getElem? (i := 14) rfl)
theorem dX8_shares_101 : decode cX8_shares 101 = .ok (.iaload, 1) := DX8_shares_1 (101, .iaload, 1) (List.mem_of_getElem? (i := 15) rfl)
theorem dX8_shares_102 : decode cX8_shares 102 = .ok (.isub, 1) := DX8_shares_1 (102, .isub, 1) (List.mem_of_getElem? (i := 16) rfl)
theorem dX8_shares_103 : decode cX8_shares 103 = .ok (.istore 7, 2) := DX8_shares_1 (103, .istore 7, 2) (List.mem_of_getElem? (i := 17) rfl)
theorem dX8_shares_105 : decode cX8_shares 105 = .ok (.iinc 8 1, 3) := DX8_shares_1 (105, .iinc 8 1, 3) (List.mem_of_getElem? (i := 18) rfl)
theorem dX8_shares_108 : decode cX8_shares 108 = .ok (.goto (-84), 3) := DX8_shares_1 (108, .goto (-84), 3) (List.mem_of_getElem? (i := 19) rfl)
theorem dX8_shares_111 : decode cX8_shares 111 = .ok (.iconst 0, 1) := DX8_shares_1 (111, .iconst 0, 1) (List.mem_of_getElem? (i := 20) rfl)
theorem dX8_shares_112 : decode cX8_shares 112 = .ok (.istore 8, 2) := DX8_shares_1 (112, .istore 8, 2) (List.mem_of_getElem? (i := 21) rfl)
theorem dX8_shares_114 : decode cX8_shares 114 = .ok (.iload 8, 2) := DX8_shares_1 (114, .iload 8, 2) (List.mem_of_getElem? (i := 22) rfl)
theorem dX8_shares_116 : decode cX8_shares 116 = .ok (.iload 7, 2) := DX8_shares_1 (116, .iload 7, 2) (List.mem_of_getElem? (i := 23) rfl)
theorem dX8_shares_118 : decode cX8_shares 118 = .ok (.if_icmp .ge 28, 3) := DX8_shares_1 (118, .if_icmp .ge 28, 3) (List.mem_of_getElem? (i := 24) rfl)
theorem dX8_shares_121 : decode cX8_shares 121 = .ok (.aload_n 0, 1) := DX8_shares_1 (121, .aload_n 0, 1) (List.mem_of_getElem? (i := 25) rfl)
theorem dX8_shares_122 : decode cX8_shares 122 = .ok (.getfield 7, 3) := DX8_shares_1 (122, .getfield 7, 3) (List.mem_of_getElem? (i := 26) rfl)
theorem dX8_shares_125 : decode cX8_shares 125 = .ok (.sipush 593, 3) := DX8_shares_1 (125, .sipush 593, 3) (List.mem_of_getElem? (i := 27) rfl)
theorem dX8_shares_128 : decode cX8_shares 128 = .ok (.iload_n 1, 1) := DX8_shares_1 (128, .iload_n 1, 1) (List.mem_of_getElem? (i := 28) rfl)
theorem dX8_shares_129 : decode cX8_shares 129 = .ok (.iload 8, 2) := DX8_shares_1 (129, .iload 8, 2) (List.mem_of_getElem? (i := 29) rfl)
theorem dX8_shares_131 : decode cX8_shares 131 = .ok (.invokestatic 103, 3) := DX8_shares_1 (131, .invokestatic 103, 3) (List.mem_of_getElem? (i := 30) rfl)
theorem dX8_shares_134 : decode cX8_shares 134 = .ok (.iadd, 1) := DX8_shares_1 (134, .iadd, 1) (List.mem_of_getElem? (i := 31) rfl)
theorem dX8_shares_135 : decode cX8_shares 135 = .ok (.dup2, 1) := DX8_shares_1 (135, .dup2, 1) (List.mem_of_getElem? (i := 32) rfl)
theorem dX8_shares_136 : decode cX8_shares 136 = .ok (.iaload, 1) := DX8_shares_1 (136, .iaload, 1) (List.mem_of_getElem? (i := 33) rfl)
theorem dX8_shares_137 : decode cX8_shares 137 = .ok (.iconst 1, 1) := DX8_shares_1 (137, .iconst 1, 1) (List.mem_of_getElem? (i := 34) rfl)
theorem dX8_shares_138 : decode cX8_shares 138 = .ok (.iadd, 1) := DX8_shares_1 (138, .iadd, 1) (List.mem_of_getElem? (i := 35) rfl)
theorem dX8_shares_139 : decode cX8_shares 139 = .ok (.iastore, 1) := DX8_shares_1 (139, .iastore, 1) (List.mem_of_getElem? (i := 36) rfl)
theorem dX8_shares_140 : decode cX8_shares 140 = .ok (.iinc 8 1, 3) := DX8_shares_1 (140, .iinc 8 1, 3) (List.mem_of_getElem? (i := 37) rfl)
theorem dX8_shares_143 : decode cX8_shares 143 = .ok (.goto (-29), 3) := DX8_shares_1 (143, .goto (-29), 3) (List.mem_of_getElem? (i := 38) rfl)
theorem dX8_shares_146 : decode cX8_shares 146 = .ok (.aload_n 0, 1) := DX8_shares_1 (146, .aload_n 0, 1) (List.mem_of_getElem? (i := 39) rfl)
theorem DX8_shares_2 : ∀ q ∈ ([(147, .getfield 7, 3), (150, .sipush 293, 3), (153, .iload_n 1, 1), (154, .iadd, 1), (155, .iload_n 2, 1), (156, .iastore, 1), (157, .return_, 1)] : List (Nat × Instr × Nat)), decode cX8_shares q.1 = .ok q.2 := by decide +kernel
theorem dX8_shares_147 : decode cX8_shares 147 = .ok (.getfield 7, 3) := DX8_shares_2 (147, .getfield 7, 3) (List.mem_of_getElem? (i := 0) rfl)
theorem dX8_shares_150 : decode cX8_shares 150 = .ok (.sipush 293, 3) := DX8_shares_2 (150, .sipush 293, 3) (List.mem_of_getElem? (i := 1) rfl)
theorem dX8_shares_153 : decode cX8_shares 153 = .ok (.iload_n 1, 1) := DX8_shares_2 (153, .iload_n 1, 1) (List.mem_of_getElem? (i := 2) rfl)
theorem dX8_shares_154 : decode cX8_shares 154 = .ok (.iadd, 1) := DX8_shares_2 (154, .iadd, 1) (List.mem_of_getElem? (i := 3) rfl)
theorem dX8_shares_155 : decode cX8_shares 155 = .ok (.iload_n 2, 1) := DX8_shares_2 (155, .iload_n 2, 1) (List.mem_of_getElem? (i := 4) rfl)
theorem dX8_shares_156 : decode cX8_shares 156 = .ok (.iastore, 1) := DX8_shares_2 (156, .iastore, 1) (List.mem_of_getElem? (i := 5) rfl)
theorem dX8_shares_157 : decode cX8_shares 157 = .ok (.return_, 1) := DX8_shares_2 (157, .return_, 1) (List.mem_of_getElem? (i := 6) rfl)
abbrev rmX8_shares : Room := { frames := 1, cells := 0, slots := 0, locals := 21 }
set_option maxHeartbeats 400000 in
set_option maxRecDepth 100000 in
theorem met_X8_shares (l : Launch) (D : va_G) (kA : Nat → ClassId) (a : Nat → Nat) (n : Nat) (V0 : Sz) (x1 : Int) (x2 : Int) (x3 : Int) (x4 : Int) (x5 : Int) (hDt : ∀ w : Sz, va_D (fun _ => True) (cs_X8 kA a w)) {Vr : Sz} (hf : f_X8_shares n V0 x1 x2 x3 x4 x5 = some Vr) : MZ l yX8_shares cX8_shares 10 none rmX8_shares D kA [.ref (a 0), vI x1, vI x2, vI x3, vI x4, vI x5] (cs_X8 kA a V0) (cs_X8 kA a Vr) (none) := by
  refine zZV (own := RX8) rfl rfl (Nat.le_of_ble_eq_true rfl) ?_
  intro p e s m args below meth c ls Q hC hK hP hl hret
  have hl : lv_has ls 10 [(0, .ref (a 0)), (1, vI x1), (2, vI x2), (3, vI x3), (4, vI x4), (5, vI x5)] := hl
  have hS : va_S (zF (cs_X8 kA a V0)) s.heap s.heap [] := va_S.rf
  have hD := zDself (C := fun w : Sz => (cs_X8 kA a w)) hDt V0 (fun _ => rfl)
  try dsimp only at hD
  generalize hAe : zF (cs_X8 kA a V0) = A0 at hS hD hret
  unfold f_X8_shares at hf
  have L114 : ∀ (k114 : Nat) (y7 : Int) (y8 : Int) (V : Sz) (H : Heap) (locs : List Loc) (ls : Array Slot), lpF (bX8_shares_114 n x1 x2 x3 x4 x5) k114 (y7, y8, V) = some Vr → va_P D vwCl (cs_X8 kA a V) H → va_S A0 s.heap H locs → lv_has ls 10 [(0, .ref (a 0)), (1, vI x1), (2, vI x2), (7, vI y7), (8, vI y8)] → W p l e rmX8_shares s m args below meth c H locs 0 0 Q (F0 m 114 ls []) := by
    intro k114
    induction k114 with
    | zero => intro y7 y8 V H locs ls hf hP hS hl; exact lp_0 hf
    | succ k114 ih114 =>
      intro y7 y8 V H locs ls hf hP hS hl
      have hf := lp_s hf
      rw [bX8_shares_114_e] at hf
      refine ziload hC.1 hC.2.1 dX8_shares_114 (lv_at hl 4 rfl) <| ziload hC.1 hC.2.1 dX8_shares_116 (lv_at hl 3 rfl) <| ?_
      obtain ⟨hz_5, hf⟩ := ck_some hf
      refine zicmp_ge (tgt := 146) hC.1 hC.2.1 ⟨hz_5.1, hz_5.2⟩ dX8_shares_118 (by decide) (fun hc => ?_) (fun hc => ?_)
      · have hf := it_t hf hc
        refine lv_aload_n hC.1 hC.2.1 dX8_shares_146 rfl (lv_at hl 0 rfl) <| gfX8_7 hC hK hP (q0 := 0) rfl rfl dX8_shares_147 <| zsipush hC.1 hC.2.1 dX8_shares_150 (by decide) <| ziload_n hC.1 hC.2.1 dX8_shares_153 rfl (lv_at hl 1 rfl) <| ziadd hC.1 hC.2.1 dX8_shares_154 <| ziload_n hC.1 hC.2.1 dX8_shares_155 rfl (lv_at hl 2 rfl) <| ?_
        obtain ⟨hz_6, hf⟩ := ck_some hf
        refine jas hC hK hP (hD V) hS (q0 := 1) rfl (Nat.le_of_ble_eq_true rfl) hz_6 rfl dX8_shares_156 (fun H locs hP hS => ?_)
        obtain ⟨V_7, eV_7⟩ : ∃ y, y = uz V 0 (293 + x1).toNat x2 := ⟨_, rfl⟩
        have hf := nm_at hf eV_7
        have hP : va_P D vwCl (cs_X8 kA a V_7) H := by rw [eV_7]; exact hP
        have hf := Option.some.inj hf
        exact hret _ _ _ _ rfl (by rw [← hf]; exact hP) hS dX8_shares_157
      · have hf := it_f hf hc
        refine lv_aload_n hC.1 hC.2.1 dX8_shares_121 rfl (lv_at hl 0 rfl) <| gfX8_7 hC hK hP (q0 := 0) rfl rfl dX8_shares_122 <| zsipush hC.1 hC.2.1 dX8_shares_125 (by decide) <| ziload_n hC.1 hC.2.1 dX8_shares_128 rfl (lv_at hl 1 rfl) <| ziload hC.1 hC.2.1 dX8_shares_129 (lv_at hl 4 rfl) <| ?_
        obtain ⟨r_8, hu, hf⟩ := bd_some hf
        have hPc : va_P D vwCl ([] : va_W) _ := hP.sub [] rfl
        refine zcSP (As := [vI x1, vI y8]) (rest := [vI 593, .ref (a 1)]) hC hK (met_X8_partOf l D kA x1 y8 hu) zwX8_103 hPc rfl hl.1 rfl (Nat.le_of_ble_eq_true rfl) ⟨Nat.le_of_ble_eq_true rfl, Nat.le_of_ble_eq_true rfl⟩ ⟨rfl, rfl⟩ ⟨Nat.le_refl _, Nat.le_refl _⟩ dX8_shares_131 <| ziadd hC.1 hC.2.1 dX8_shares_134 <| lv_dup2_11 hC.1 hC.2.1 dX8_shares_135 rfl rfl <| ?_
        obtain ⟨hz_9, hf⟩ := ck_some hf
        refine jal hC hK hP (q0 := 1) rfl (Nat.le_of_ble_eq_true rfl) hz_9 rfl dX8_shares_136 <| ziconst hC.1 hC.2.1 dX8_shares_137 <| ziadd hC.1 hC.2.1 dX8_shares_138 <| ?_
        refine jas hC hK hP (hD V) hS (q0 := 1) rfl (Nat.le_of_ble_eq_true rfl) hz_9 rfl dX8_shares_139 (fun H locs hP hS => ?_)
        obtain ⟨V_10, eV_10⟩ : ∃ y, y = uz V 0 (593 + r_8).toNat ((V 0 (593 + r_8).toNat) + 1) := ⟨_, rfl⟩
        have hf := nm_at hf eV_10
        have hP : va_P D vwCl (cs_X8 kA a V_10) H := by rw [eV_10]; exact hP
        obtain ⟨x_11, ex_11⟩ : ∃ y : Int, y = y8 + 1 := ⟨_, rfl⟩
        have hf := nm_at hf ex_11
        refine ziinc (v := x_11) (lv' := [(8, vI x_11), (0, .ref (a 0)), (1, vI x1), (2, vI x2), (7, vI y7)]) hC.1 hC.2.1 dX8_shares_140 hl (k := 4) rfl ex_11 (by decide) rfl (fun ls hl => ?_)
        exact lv_goto (tgt := 114) hC.1 hC.2.1 dX8_shares_143 (by decide) <| ih114 _ _ _ _ _ _ hf hP hS (lv_sub hl [1, 2, 3, 4, 0] rfl)
  have L24 : ∀ (k24 : Nat) (y6 : Int) (y7 : Int) (y8 : Int) (V : Sz) (H : Heap) (locs : List Loc) (ls : Array Slot), lpF (bX8_shares_24 n x1 x2 x3 x4 x5) k24 (y6, y7, y8, V) = some Vr → va_P D vwCl (cs_X8 kA a V) H → va_S A0 s.heap H locs → lv_has ls 10 [(0, .ref (a 0)), (1, vI x1), (2, vI x2), (3, vI x3), (4, vI x4), (5, vI x5), (6, vI y6), (7, vI y7), (8, vI y8)] → W p l e rmX8_shares s m args below meth c H locs 0 0 Q (F0 m 24 ls []) := by
    intro k24
    induction k24 with
    | zero => intro y6 y7 y8 V H locs ls hf hP hS hl; exact lp_0 hf
    | succ k24 ih24 =>
      intro y6 y7 y8 V H locs ls hf hP hS hl
      have hf := lp_s hf
      rw [bX8_shares_24_e] at hf
      have J52 : ∀ (y6 : Int) (y7 : Int) (y8 : Int) (V : Sz) (z0 : Int) (H : Heap) (locs : List Loc) (ls : Array Slot), jX8_shares_52 n x1 x2 x3 x4 x5 (lpF (bX8_shares_24 n x1 x2 x3 x4 x5) k24) y6 y7 y8 V z0 = some Vr → va_P D vwCl (cs_X8 kA a V) H → va_S A0 s.heap H locs → lv_has ls 10 [(0, .ref (a 0)), (1, vI x1), (2, vI x2), (3, vI x3), (4, vI x4), (5, vI x5), (6, vI y6), (7, vI y7), (8, vI y8)] → W p l e rmX8_shares s m args below meth c H locs 0 0 Q (F0 m 52 ls [vI z0]) := by
        intro y6 y7 y8 V z0 H locs ls hf hP hS hl
        unfold jX8_shares_52 at hf
        refine zistore (lv' := [(9, vI z0), (0, .ref (a 0)), (1, vI x1), (2, vI x2), (3, vI x3), (4, vI x4), (5, vI x5), (6, vI y6), (7, vI y7), (8, vI y8)]) hC.1 hC.2.1 dX8_shares_52 hl (by decide) rfl (fun ls hl => ?_)
        refine lv_aload_n hC.1 hC.2.1 dX8_shares_54 rfl (lv_at hl 1 rfl) <| gfX8_7 hC hK hP (q0 := 0) rfl rfl dX8_shares_55 <| zsipush hC.1 hC.2.1 dX8_shares_58 (by decide) <| ziload_n hC.1 hC.2.1 dX8_shares_61 rfl (lv_at hl 2 rfl) <| ziload hC.1 hC.2.1 dX8_shares_62 (lv_at hl 9 rfl) <| ?_
        obtain ⟨r_12, hu, hf⟩ := bd_some hf
        have hPc : va_P D vwCl ([] : va_W) _ := hP.sub [] rfl
        refine zcSP (As := [vI x1, vI y8]) (rest := [vI 593, .ref (a 1)]) hC hK (met_X8_partOf l D kA x1 y8 hu) zwX8_103 hPc rfl hl.1 rfl (Nat.le_of_ble_eq_true rfl) ⟨Nat.le_of_ble_eq_true rfl, Nat.le_of_ble_eq_true rfl⟩ ⟨rfl, rfl⟩ ⟨Nat.le_refl _, Nat.le_refl _⟩ dX8_shares_64 <| ziadd hC.1 hC.2.1 dX8_shares_67 <| lv_aload_n hC.1 hC.2.1 dX8_shares_68 rfl (lv_at hl 1 rfl) <| gfX8_7 hC hK hP (q0 := 0) rfl rfl dX8_shares_69 <| zsipush hC.1 hC.2.1 dX8_shares_72 (by decide) <| ziload_n hC.1 hC.2.1 dX8_shares_75 rfl (lv_at hl 2 rfl) <| ziadd hC.1 hC.2.1 dX8_shares_76 <| ?_
        obtain ⟨hz_13, hf⟩ := ck_some hf
        refine jal hC hK hP (q0 := 1) rfl (Nat.le_of_ble_eq_true rfl) hz_13 rfl dX8_shares_77 <| ziload hC.1 hC.2.1 dX8_shares_78 (lv_at hl 0 rfl) <| zimul hC.1 hC.2.1 dX8_shares_80 <| ziload hC.1 hC.2.1 dX8_shares_81 (lv_at hl 7 rfl) <| ?_
        obtain ⟨hz_14, hf⟩ := ck_some hf
        refine zidiv hC.1 hC.2.1 hz_14 dX8_shares_83 <| ?_
        obtain ⟨hz_15, hf⟩ := ck_some hf
        refine jas hC hK hP (hD V) hS (q0 := 1) rfl (Nat.le_of_ble_eq_true rfl) hz_15 rfl dX8_shares_84 (fun H locs hP hS => ?_)
        obtain ⟨V_16, eV_16⟩ : ∃ y, y = uz V 0 (593 + r_12).toNat (((V 0 (173 + x1).toNat) * z0) / y6) := ⟨_, rfl⟩
        have hf := nm_at hf eV_16
        have hP : va_P D vwCl (cs_X8 kA a V_16) H := by rw [eV_16]; exact hP
        refine ziload hC.1 hC.2.1 dX8_shares_85 (lv_at hl 8 rfl) <| lv_aload_n hC.1 hC.2.1 dX8_shares_87 rfl (lv_at hl 1 rfl) <| gfX8_7 hC hK hP (q0 := 0) rfl rfl dX8_shares_88 <| zsipush hC.1 hC.2.1 dX8_shares_91 (by decide) <| ziload_n hC.1 hC.2.1 dX8_shares_94 rfl (lv_at hl 2 rfl) <| ziload hC.1 hC.2.1 dX8_shares_95 (lv_at hl 9 rfl) <| ?_
        obtain ⟨r_17, hu, hf⟩ := bd_some hf
        have hPc : va_P D vwCl ([] : va_W) _ := hP.sub [] rfl
        refine zcSP (As := [vI x1, vI y8]) (rest := [vI 593, .ref (a 1), vI y7]) hC hK (met_X8_partOf l D kA x1 y8 hu) zwX8_103 hPc rfl hl.1 rfl (Nat.le_of_ble_eq_true rfl) ⟨Nat.le_of_ble_eq_true rfl, Nat.le_of_ble_eq_true rfl⟩ ⟨rfl, rfl⟩ ⟨Nat.le_refl _, Nat.le_refl _⟩ dX8_shares_97 <| ziadd hC.1 hC.2.1 dX8_shares_100 <| ?_
        obtain ⟨hz_18, hf⟩ := ck_some hf
        refine jal hC hK hP (q0 := 1) rfl (Nat.le_of_ble_eq_true rfl) hz_18 rfl dX8_shares_101 <| zisub hC.1 hC.2.1 dX8_shares_102 <| ?_
        refine ztopi (fun x_19 ex_19 => ?_)
        have hf := nm_at hf ex_19
        refine zistore (lv' := [(7, vI x_19), (9, vI z0), (0, .ref (a 0)), (1, vI x1), (2, vI x2), (3, vI x3), (4, vI x4), (5, vI x5), (6, vI y6), (8, vI y8)]) hC.1 hC.2.1 dX8_shares_103 hl (by decide) rfl (fun ls hl => ?_)
        obtain ⟨x_20, ex_20⟩ : ∃ y : Int, y = y8 + 1 := ⟨_, rfl⟩
        have hf := nm_at hf ex_20
        refine ziinc (v := x_20) (lv' := [(8, vI x_20), (7, vI x_19), (9, vI z0), (0, .ref (a 0)), (1, vI x1), (2, vI x2), (3, vI x3), (4, vI x4), (5, vI x5), (6, vI y6)]) hC.1 hC.2.1 dX8_shares_105 hl (k := 9) rfl ex_20 (by decide) rfl (fun ls hl => ?_)
        exact lv_goto (tgt := 24) hC.1 hC.2.1 dX8_shares_108 (by decide) <| ih24 _ _ _ _ _ _ _ hf hP hS (lv_sub hl [3, 4, 5, 6, 7, 8, 9, 1, 0] rfl)
      refine ziload hC.1 hC.2.1 dX8_shares_24 (lv_at hl 8 rfl) <| ziload_n hC.1 hC.2.1 dX8_shares_26 rfl (lv_at hl 2 rfl) <| ?_
      obtain ⟨hz_4, hf⟩ := ck_some hf
      refine zicmp_ge (tgt := 111) hC.1 hC.2.1 ⟨hz_4.1, hz_4.2⟩ dX8_shares_27 (by decide) (fun hc => ?_) (fun hc => ?_)
      · have hf := it_t hf hc
        refine ziconst hC.1 hC.2.1 dX8_shares_111 <| zistore (lv' := [(8, vI 0), (0, .ref (a 0)), (1, vI x1), (2, vI x2), (3, vI x3), (4, vI x4), (5, vI x5), (6, vI y6), (7, vI y7)]) hC.1 hC.2.1 dX8_shares_112 hl (by decide) rfl (fun ls hl => ?_)
        exact L114 n _ _ _ _ _ _ hf hP hS (lv_sub hl [1, 2, 3, 8, 0] rfl)
      · have hf := it_f hf hc
        refine ziload hC.1 hC.2.1 dX8_shares_30 (lv_at hl 8 rfl) <| zif_ne (tgt := 39) hC.1 hC.2.1 hz_4.1 dX8_shares_32 (by decide) (fun hc => ?_) (fun hc => ?_)
        · have hf := it_f hf hc
          refine ziload hC.1 hC.2.1 dX8_shares_39 (lv_at hl 8 rfl) <| ziconst hC.1 hC.2.1 dX8_shares_41 <| zicmp_ne (tgt := 50) hC.1 hC.2.1 ⟨hz_4.1, (by decide)⟩ dX8_shares_42 (by decide) (fun hc => ?_) (fun hc => ?_)
          · have hf := it_f hf hc
            exact ziload hC.1 hC.2.1 dX8_shares_50 (lv_at hl 5 rfl) <| J52 _ _ _ _ _ _ _ _ hf hP hS (lv_sub hl [0, 1, 2, 3, 4, 5, 6, 7, 8] rfl)
          · have hf := it_t hf hc
            exact ziload hC.1 hC.2.1 dX8_shares_45 (lv_at hl 4 rfl) <| lv_goto (tgt := 52) hC.1 hC.2.1 dX8_shares_47 (by decide) <| J52 _ _ _ _ _ _ _ _ hf hP hS (lv_sub hl [0, 1, 2, 3, 4, 5, 6, 7, 8] rfl)
        · have hf := it_t hf hc
          exact ziload_n hC.1 hC.2.1 dX8_shares_35 rfl (lv_at hl 3 rfl) <| lv_goto (tgt := 52) hC.1 hC.2.1 dX8_shares_36 (by decide) <| J52 _ _ _ _ _ _ _ _ hf hP hS (lv_sub hl [0, 1, 2, 3, 4, 5, 6, 7, 8] rfl)
  refine ziload_n hC.1 hC.2.1 dX8_shares_0 rfl (lv_at hl 3 rfl) <| ziload hC.1 hC.2.1 dX8_shares_1 (lv_at hl 4 rfl) <| ziadd hC.1 hC.2.1 dX8_shares_3 <| ziload hC.1 hC.2.1 dX8_shares_4 (lv_at hl 5 rfl) <| ziadd hC.1 hC.2.1 dX8_shares_6 <| ?_
  refine ztopi (fun x_1 ex_1 => ?_)
  have hf := nm_at hf ex_1
  refine zistore (lv' := [(6, vI x_1), (0, .ref (a 0)), (1, vI x1), (2, vI x2), (3, vI x3), (4, vI x4), (5, vI x5)]) hC.1 hC.2.1 dX8_shares_7 hl (by decide) rfl (fun ls hl => ?_)
  refine lv_aload_n hC.1 hC.2.1 dX8_shares_9 rfl (lv_at hl 1 rfl) <| gfX8_7 hC hK hP (q0 := 0) rfl rfl dX8_shares_10 <| zsipush hC.1 hC.2.1 dX8_shares_13 (by decide) <| ziload_n hC.1 hC.2.1 dX8_shares_16 rfl (lv_at hl 2 rfl) <| ziadd hC.1 hC.2.1 dX8_shares_17 <| ?_
  obtain ⟨hz_2, hf⟩ := ck_some hf
  refine jal hC hK hP (q0 := 1) rfl (Nat.le_of_ble_eq_true rfl) hz_2 rfl dX8_shares_18 <| ?_
  refine ztopi (fun x_3 ex_3 => ?_)
  have hf := nm_at hf ex_3
  refine zistore (lv' := [(7, vI x_3), (6, vI x_1), (0, .ref (a 0)), (1, vI x1), (2, vI x2), (3, vI x3), (4, vI x4), (5, vI x5)]) hC.1 hC.2.1 dX8_shares_19 hl (by decide) rfl (fun ls hl => ?_)
  refine ziconst hC.1 hC.2.1 dX8_shares_21 <| zistore (lv' := [(8, vI 0), (7, vI x_3), (6, vI x_1), (0, .ref (a 0)), (1, vI x1), (2, vI x2), (3, vI x3), (4, vI x4), (5, vI x5)]) hC.1 hC.2.1 dX8_shares_22 hl (by decide) rfl (fun ls hl => ?_)
  exact L24 n _ _ _ _ _ _ _ hf hP hS (lv_sub hl [3, 4, 5, 6, 7, 8, 2, 1, 0] rfl)
theorem DX8_clearsParts_0 : ∀ q ∈ ([(0, .iconst 0, 1), (1, .istore_n 2, 1), (2, .iload_n 2, 1), (3, .iconst 3, 1), (4, .if_icmp .ge 59, 3), (7, .iload_n 1, 1), (8, .iload_n 2, 1), (9, .invokestatic 103, 3), (12, .istore_n 3, 1), (13, .aload_n 0, 1), (14, .getfield 7, 3), (17, .sipush 413, 3), (20, .iload_n 3, 1), (21, .iadd, 1), (22, .iconst 0, 1), (23, .iastore, 1), (24, .aload_n 0, 1), (25, .getfield 7, 3), (28, .sipush 593, 3), (31, .iload_n 3, 1), (32, .iadd, 1), (33, .iconst 0, 1), (34, .iastore, 1), (35, .aload_n 0, 1), (36, .getfield 7, 3), (39, .sipush 773, 3), (42, .iload_n 3, 1), (43, .iadd, 1), (44, .iconst 0, 1), (45, .iastore, 1), (46, .aload_n 0, 1), (47, .getfield 7, 3), (50, .sipush 953, 3), (53, .iload_n 3, 1), (54, .iadd, 1), (55, .iconst 0, 1), (56, .iastore, 1), (57, .iinc 2 1, 3), (60, .goto (-58), 3), (63, .aload_n 0, 1)] : List (Nat × Instr × Nat)), decode cX8_clearsParts q.1 = .ok q.2 := by decide +kernel
theorem dX8_clearsParts_0 : decode cX8_clearsParts 0 = .ok (.iconst 0, 1) := DX8_clearsParts_0 (0, .iconst 0, 1) (List.mem_of_getElem? (i := 0) rfl)
theorem dX8_clearsParts_1 : decode cX8_clearsParts 1 = .ok (.istore_n 2, 1) := DX8_clearsParts_0 (1, .istore_n 2, 1) (List.mem_of_getElem? (i := 1) rfl)
theorem dX8_clearsParts_2 : decode cX8_clearsParts 2 = .ok (.iload_n 2, 1) := DX8_clearsParts_0 (2, .iload_n 2, 1) (List.mem_of_getElem? (i := 2) rfl)
theorem dX8_clearsParts_3 : decode cX8_clearsParts 3 = .ok (.iconst 3, 1) := DX8_clearsParts_0 (3, .iconst 3, 1) (List.mem_of_getElem? (i := 3) rfl)
theorem dX8_clearsParts_4 : decode cX8_clearsParts 4 = .ok (.if_icmp .ge 59, 3) := DX8_clearsParts_0 (4, .if_icmp .ge 59, 3) (List.mem_of_getElem? (i := 4) rfl)
theorem dX8_clearsParts_7 : decode cX8_clearsParts 7 = .ok (.iload_n 1, 1) := DX8_clearsParts_0 (7, .iload_n 1, 1) (List.mem_of_getElem? (i := 5) rfl)
theorem dX8_clearsParts_8 : decode cX8_clearsParts 8 = .ok (.iload_n 2, 1) := DX8_clearsParts_0 (8, .iload_n 2, 1) (List.mem_of_getElem? (i := 6) rfl)
theorem dX8_clearsParts_9 : decode cX8_clearsParts 9 = .ok (.invokestatic 103, 3) := DX8_clearsParts_0 (9, .invokestatic 103, 3) (List.mem_of_getElem? (i := 7) rfl)
theorem dX8_clearsParts_12 : decode cX8_clearsParts 12 = .ok (.istore_n 3, 1) := DX8_clearsParts_0 (12, .istore_n 3, 1) (List.mem_of_getElem? (i := 8) rfl)
theorem dX8_clearsParts_13 : decode cX8_clearsParts 13 = .ok (.aload_n 0, 1) := DX8_clearsParts_0 (13, .aload_n 0, 1) (List.mem_of_getElem? (i := 9) rfl)
theorem dX8_clearsParts_14 : decode cX8_clearsParts 14 = .ok (.getfield 7, 3) := DX8_clearsParts_0 (14, .getfield 7, 3) (List.mem_of_getElem? (i := 10) rfl)
theorem dX8_clearsParts_17 : decode cX8_clearsParts 17 = .ok (.sipush 413, 3) := DX8_clearsParts_0 (17, .sipush 413, 3) (List.mem_of_getElem? (i := 11) rfl)
theorem dX8_clearsParts_20 : decode cX8_clearsParts 20 = .ok (.iload_n 3, 1) := DX8_clearsParts_0 (20, .iload_n 3, 1) (List.mem_of_getElem? (i := 12) rfl)
theorem dX8_clearsParts_21 : decode cX8_clearsParts 21 = .ok (.iadd, 1) := DX8_clearsParts_0 (21, .iadd, 1) (List.mem_of_getElem? (i := 13) rfl)
theorem dX8_clearsParts_22 : decode cX8_clearsParts 22 = .ok (.iconst 0, 1) := DX8_clearsParts_0 (22, .iconst 0, 1) (List.mem_of_getElem? (i := 14) rfl)
theorem dX8_clearsParts_23 : decode cX8_clearsParts 23 = .ok (.iastore, 1) := DX8_clearsParts_0 (23, .iastore, 1) (List.mem_of_getElem? (i := 15) rfl)
theorem dX8_clearsParts_24 : decode cX8_clearsParts 24 = .ok (.aload_n 0, 1) := DX8_clearsParts_0 (24, .aload_n 0, 1) (List.mem_of_getElem? (i := 16) rfl)
theorem dX8_clearsParts_25 : decode cX8_clearsParts 25 = .ok (.getfield 7, 3) := DX8_clearsParts_0 (25, .getfield 7, 3) (List.mem_of_getElem? (i := 17) rfl)
theorem dX8_clearsParts_28 : decode cX8_clearsParts 28 = .ok (.sipush 593, 3) := DX8_clearsParts_0 (28, .sipush 593, 3) (List.mem_of_getElem? (i := 18) rfl)
theorem dX8_clearsParts_31 : decode cX8_clearsParts 31 = .ok (.iload_n 3, 1) := DX8_clearsParts_0 (31, .iload_n 3, 1) (List.mem_of_getElem? (i := 19) rfl)
theorem dX8_clearsParts_32 : decode cX8_clearsParts 32 = .ok (.iadd, 1) := DX8_clearsParts_0 (32, .iadd, 1) (List.mem_of_getElem? (i := 20) rfl)
theorem dX8_clearsParts_33 : decode cX8_clearsParts 33 = .ok (.iconst 0, 1) := DX8_clearsParts_0 (33, .iconst 0, 1) (List.mem_of_getElem? (i := 21) rfl)
theorem dX8_clearsParts_34 : decode cX8_clearsParts 34 = .ok (.iastore, 1) := DX8_clearsParts_0 (34, .iastore, 1) (List.mem_of_getElem? (i := 22) rfl)
theorem dX8_clearsParts_35 : decode cX8_clearsParts 35 = .ok (.aload_n 0, 1) := DX8_clearsParts_0 (35, .aload_n 0, 1) (List.mem_of_getElem? (i := 23) rfl)
theorem dX8_clearsParts_36 : decode cX8_clearsParts 36 = .ok (.getfield 7, 3) := DX8_clearsParts_0 (36, .getfield 7, 3) (List.mem_of_getElem? (i := 24) rfl)
theorem dX8_clearsParts_39 : decode cX8_clearsParts 39 = .ok (.sipush 773, 3) := DX8_clearsParts_0 (39, .sipush 773, 3) (List.mem_of_getElem? (i := 25) rfl)
theorem dX8_clearsParts_42 : decode cX8_clearsParts 42 = .ok (.iload_n 3, 1) := DX8_clearsParts_0 (42, .iload_n 3, 1) (List.mem_of_getElem? (i := 26) rfl)
theorem dX8_clearsParts_43 : decode cX8_clearsParts 43 = .ok (.iadd, 1) := DX8_clearsParts_0 (43, .iadd, 1) (List.mem_of_getElem? (i := 27) rfl)
theorem dX8_clearsParts_44 : decode cX8_clearsParts 44 = .ok (.iconst 0, 1) := DX8_clearsParts_0 (44, .iconst 0, 1) (List.mem_of_getElem? (i := 28) rfl)
theorem dX8_clearsParts_45 : decode cX8_clearsParts 45 = .ok (.iastore, 1) := DX8_clearsParts_0 (45, .iastore, 1) (List.mem_of_getElem? (i := 29) rfl)
theorem dX8_clearsParts_46 : decode cX8_clearsParts 46 = .ok (.aload_n 0, 1) := DX8_clearsParts_0 (46, .aload_n 0, 1) (List.mem_of_getElem? (i := 30) rfl)
theorem dX8_clearsParts_47 : decode cX8_clearsParts 47 = .ok (.getfield 7, 3) := DX8_clearsParts_0 (47, .getfield 7, 3) (List.mem_of_getElem? (i := 31) rfl)
theorem dX8_clearsParts_50 : decode cX8_clearsParts 50 = .ok (.sipush 953, 3) := DX8_clearsParts_0 (50, .sipush 953, 3) (List.mem_of_getElem? (i := 32) rfl)
theorem dX8_clearsParts_53 : decode cX8_clearsParts 53 = .ok (.iload_n 3, 1) := DX8_clearsParts_0 (53, .iload_n 3, 1) (List.mem_of_getElem? (i := 33) rfl)
theorem dX8_clearsParts_54 : decode cX8_clearsParts 54 = .ok (.iadd, 1) := DX8_clearsParts_0 (54, .iadd, 1) (List.mem_of_getElem? (i := 34) rfl)
theorem dX8_clearsParts_55 : decode cX8_clearsParts 55 = .ok (.iconst 0, 1) := DX8_clearsParts_0 (55, .iconst 0, 1) (List.mem_of_getElem? (i := 35) rfl)
theorem dX8_clearsParts_56 : decode cX8_clearsParts 56 = .ok (.iastore, 1) := DX8_clearsParts_0 (56, .iastore, 1) (List.mem_of_getElem? (i := 36) rfl)
theorem dX8_clearsParts_57 : decode cX8_clearsParts 57 = .ok (.iinc 2 1, 3) := DX8_clearsParts_0 (57, .iinc 2 1, 3) (List.mem_of_getElem? (i := 37) rfl)
theorem dX8_clearsParts_60 : decode cX8_clearsParts 60 = .ok (.goto (-58), 3) := DX8_clearsParts_0 (60, .goto (-58), 3) (List.mem_of_getElem? (i := 38) rfl)
theorem dX8_clearsParts_63 : decode cX8_clearsParts 63 = .ok (.aload_n 0, 1) := DX8_clearsParts_0 (63, .aload_n 0, 1) (List.mem_of_getElem? (i := 39) rfl)
theorem DX8_clearsParts_1 : ∀ q ∈ ([(64, .getfield 7, 3), (67, .sipush 293, 3), (70, .iload_n 1, 1), (71, .iadd, 1), (72, .iconst 0, 1), (73, .iastore, 1), (74, .aload_n 0, 1), (75, .getfield 7, 3), (78, .sipush 353, 3), (81, .iload_n 1, 1), (82, .iadd, 1), (83, .iconst 0, 1), (84, .iastore, 1), (85, .return_, 1)] : List (Nat × Instr × Nat)), decode cX8_clearsParts q.1 = .ok q.2 := by decide +kernel
theorem dX8_clearsParts_64 : decode cX8_clearsParts 64 = .ok (.getfield 7, 3) := DX8_clearsParts_1 (64, .getfield 7, 3) (List.mem_of_getElem? (i := 0) rfl)
theorem dX8_clearsParts_67 : decode cX8_clearsParts 67 = .ok (.sipush 293, 3) := DX8_clearsParts_1 (67, .sipush 293, 3) (List.mem_of_getElem? (i := 1) rfl)
theorem dX8_clearsParts_70 : decode cX8_clearsParts 70 = .ok (.iload_n 1, 1) := DX8_clearsParts_1 (70, .iload_n 1, 1) (List.mem_of_getElem? (i := 2) rfl)
theorem dX8_clearsParts_71 : decode cX8_clearsParts 71 = .ok (.iadd, 1) := DX8_clearsParts_1 (71, .iadd, 1) (List.mem_of_getElem? (i := 3) rfl)
theorem dX8_clearsParts_72 : decode cX8_clearsParts 72 = .ok (.iconst 0, 1) := DX8_clearsParts_1 (72, .iconst 0, 1) (List.mem_of_getElem? (i := 4) rfl)
theorem dX8_clearsParts_73 : decode cX8_clearsParts 73 = .ok (.iastore, 1) := DX8_clearsParts_1 (73, .iastore, 1) (List.mem_of_getElem? (i := 5) rfl)
theorem dX8_clearsParts_74 : decode cX8_clearsParts 74 = .ok (.aload_n 0, 1) := DX8_clearsParts_1 (74, .aload_n 0, 1) (List.mem_of_getElem? (i := 6) rfl)
theorem dX8_clearsParts_75 : decode cX8_clearsParts 75 = .ok (.getfield 7, 3) := DX8_clearsParts_1 (75, .getfield 7, 3) (List.mem_of_getElem? (i := 7) rfl)
theorem dX8_clearsParts_78 : decode cX8_clearsParts 78 = .ok (.sipush 353, 3) := DX8_clearsParts_1 (78, .sipush 353, 3) (List.mem_of_getElem? (i := 8) rfl)
theorem dX8_clearsParts_81 : decode cX8_clearsParts 81 = .ok (.iload_n 1, 1) := DX8_clearsParts_1 (81, .iload_n 1, 1) (List.mem_of_getElem? (i := 9) rfl)
theorem dX8_clearsParts_82 : decode cX8_clearsParts 82 = .ok (.iadd, 1) := DX8_clearsParts_1 (82, .iadd, 1) (List.mem_of_getElem? (i := 10) rfl)
theorem dX8_clearsParts_83 : decode cX8_clearsParts 83 = .ok (.iconst 0, 1) := DX8_clearsParts_1 (83, .iconst 0, 1) (List.mem_of_getElem? (i := 11) rfl)
theorem dX8_clearsParts_84 : decode cX8_clearsParts 84 = .ok (.iastore, 1) := DX8_clearsParts_1 (84, .iastore, 1) (List.mem_of_getElem? (i := 12) rfl)
theorem dX8_clearsParts_85 : decode cX8_clearsParts 85 = .ok (.return_, 1) := DX8_clearsParts_1 (85, .return_, 1) (List.mem_of_getElem? (i := 13) rfl)
abbrev rmX8_clearsParts : Room := { frames := 1, cells := 0, slots := 0, locals := 21 }
set_option maxHeartbeats 400000 in
set_option maxRecDepth 100000 in
theorem met_X8_clearsParts (l : Launch) (D : va_G) (kA : Nat → ClassId) (a : Nat → Nat) (n : Nat) (V0 : Sz) (x1 : Int) (hDt : ∀ w : Sz, va_D (fun _ => True) (cs_X8 kA a w)) {Vr : Sz} (hf : f_X8_clearsParts n V0 x1 = some Vr) : MZ l yX8_clearsParts cX8_clearsParts 4 none rmX8_clearsParts D kA [.ref (a 0), vI x1] (cs_X8 kA a V0) (cs_X8 kA a Vr) (none) := by
  refine zZV (own := RX8) rfl rfl (Nat.le_of_ble_eq_true rfl) ?_
  intro p e s m args below meth c ls Q hC hK hP hl hret
  have hl : lv_has ls 4 [(0, .ref (a 0)), (1, vI x1)] := hl
  have hS : va_S (zF (cs_X8 kA a V0)) s.heap s.heap [] := va_S.rf
  have hD := zDself (C := fun w : Sz => (cs_X8 kA a w)) hDt V0 (fun _ => rfl)
  try dsimp only at hD
  generalize hAe : zF (cs_X8 kA a V0) = A0 at hS hD hret
  unfold f_X8_clearsParts at hf
  have L2 : ∀ (k2 : Nat) (y2 : Int) (V : Sz) (H : Heap) (locs : List Loc) (ls : Array Slot), lpF (bX8_clearsParts_2 n x1) k2 (y2, V) = some Vr → va_P D vwCl (cs_X8 kA a V) H → va_S A0 s.heap H locs → lv_has ls 4 [(0, .ref (a 0)), (1, vI x1), (2, vI y2)] → W p l e rmX8_clearsParts s m args below meth c H locs 0 0 Q (F0 m 2 ls []) := by
    intro k2
    induction k2 with
    | zero => intro y2 V H locs ls hf hP hS hl; exact lp_0 hf
    | succ k2 ih2 =>
      intro y2 V H locs ls hf hP hS hl
      have hf := lp_s hf
      rw [bX8_clearsParts_2_e] at hf
      refine ziload_n hC.1 hC.2.1 dX8_clearsParts_2 rfl (lv_at hl 2 rfl) <| ziconst hC.1 hC.2.1 dX8_clearsParts_3 <| ?_
      obtain ⟨hz_1, hf⟩ := ck_some hf
      refine zicmp_ge (tgt := 63) hC.1 hC.2.1 ⟨hz_1, (by decide)⟩ dX8_clearsParts_4 (by decide) (fun hc => ?_) (fun hc => ?_)
      · have hf := it_t hf hc
        refine lv_aload_n hC.1 hC.2.1 dX8_clearsParts_63 rfl (lv_at hl 0 rfl) <| gfX8_7 hC hK hP (q0 := 0) rfl rfl dX8_clearsParts_64 <| zsipush hC.1 hC.2.1 dX8_clearsParts_67 (by decide) <| ziload_n hC.1 hC.2.1 dX8_clearsParts_70 rfl (lv_at hl 1 rfl) <| ziadd hC.1 hC.2.1 dX8_clearsParts_71 <| ziconst hC.1 hC.2.1 dX8_clearsParts_72 <| ?_
        obtain ⟨hz_2, hf⟩ := ck_some hf
        refine jas hC hK hP (hD V) hS (q0 := 1) rfl (Nat.le_of_ble_eq_true rfl) hz_2 rfl dX8_clearsParts_73 (fun H locs hP hS => ?_)
        obtain ⟨V_3, eV_3⟩ : ∃ y, y = uz V 0 (293 + x1).toNat 0 := ⟨_, rfl⟩
        have hf := nm_at hf eV_3
        have hP : va_P D vwCl (cs_X8 kA a V_3) H := by rw [eV_3]; exact hP
        refine lv_aload_n hC.1 hC.2.1 dX8_clearsParts_74 rfl (lv_at hl 0 rfl) <| gfX8_7 hC hK hP (q0 := 0) rfl rfl dX8_clearsParts_75 <| zsipush hC.1 hC.2.1 dX8_clearsParts_78 (by decide) <| ziload_n hC.1 hC.2.1 dX8_clearsParts_81 rfl (lv_at hl 1 rfl) <| ziadd hC.1 hC.2.1 dX8_clearsParts_82 <| ziconst hC.1 hC.2.1 dX8_clearsParts_83 <| ?_
        obtain ⟨hz_4, hf⟩ := ck_some hf
        refine jas hC hK hP (hD V_3) hS (q0 := 1) rfl (Nat.le_of_ble_eq_true rfl) hz_4 rfl dX8_clearsParts_84 (fun H locs hP hS => ?_)
        obtain ⟨V_5, eV_5⟩ : ∃ y, y = uz V_3 0 (353 + x1).toNat 0 := ⟨_, rfl⟩
        have hf := nm_at hf eV_5
        have hP : va_P D vwCl (cs_X8 kA a V_5) H := by rw [eV_5]; exact hP
        have hf := Option.some.inj hf
        exact hret _ _ _ _ rfl (by rw [← hf]; exact hP) hS dX8_clearsParts_85
      · have hf := it_f hf hc
        refine ziload_n hC.1 hC.2.1 dX8_clearsParts_7 rfl (lv_at hl 1 rfl) <| ziload_n hC.1 hC.2.1 dX8_clearsParts_8 rfl (lv_at hl 2 rfl) <| ?_
        obtain ⟨r_6, hu, hf⟩ := bd_some hf
        have hPc : va_P D vwCl ([] : va_W) _ := hP.sub [] rfl
        refine zcSP (As := [vI x1, vI y2]) (rest := []) hC hK (met_X8_partOf l D kA x1 y2 hu) zwX8_103 hPc rfl hl.1 rfl (Nat.le_of_ble_eq_true rfl) ⟨Nat.le_of_ble_eq_true rfl, Nat.le_of_ble_eq_true rfl⟩ ⟨rfl, rfl⟩ ⟨Nat.le_refl _, Nat.le_refl _⟩ dX8_clearsParts_9 <| zistore_n (lv' := [(3, vI r_6), (0, .ref (a 0)), (1, vI x1), (2, vI y2)]) hC.1 hC.2.1 dX8_clearsParts_12 rfl hl (by decide) rfl (fun ls hl => ?_)
        refine lv_aload_n hC.1 hC.2.1 dX8_clearsParts_13 rfl (lv_at hl 1 rfl) <| gfX8_7 hC hK hP (q0 := 0) rfl rfl dX8_clearsParts_14 <| zsipush hC.1 hC.2.1 dX8_clearsParts_17 (by decide) <| ziload_n hC.1 hC.2.1 dX8_clearsParts_20 rfl (lv_at hl 0 rfl) <| ziadd hC.1 hC.2.1 dX8_clearsParts_21 <| ziconst hC.1 hC.2.1 dX8_clearsParts_22 <| ?_
        obtain ⟨hz_7, hf⟩ := ck_some hf
        refine jas hC hK hP (hD V) hS (q0 := 1) rfl (Nat.le_of_ble_eq_true rfl) hz_7 rfl dX8_clearsParts_23 (fun H locs hP hS => ?_)
        obtain ⟨V_8, eV_8⟩ : ∃ y, y = uz V 0 (413 + r_6).toNat 0 := ⟨_, rfl⟩
        have hf := nm_at hf eV_8
        have hP : va_P D vwCl (cs_X8 kA a V_8) H := by rw [eV_8]; exact hP
        refine lv_aload_n hC.1 hC.2.1 dX8_clearsParts_24 rfl (lv_at hl 1 rfl) <| gfX8_7 hC hK hP (q0 := 0) rfl rfl dX8_clearsParts_25 <| zsipush hC.1 hC.2.1 dX8_clearsParts_28 (by decide) <| ziload_n hC.1 hC.2.1 dX8_clearsParts_31 rfl (lv_at hl 0 rfl) <| ziadd hC.1 hC.2.1 dX8_clearsParts_32 <| ziconst hC.1 hC.2.1 dX8_clearsParts_33 <| ?_
        obtain ⟨hz_9, hf⟩ := ck_some hf
        refine jas hC hK hP (hD V_8) hS (q0 := 1) rfl (Nat.le_of_ble_eq_true rfl) hz_9 rfl dX8_clearsParts_34 (fun H locs hP hS => ?_)
        obtain ⟨V_10, eV_10⟩ : ∃ y, y = uz V_8 0 (593 + r_6).toNat 0 := ⟨_, rfl⟩
        have hf := nm_at hf eV_10
        have hP : va_P D vwCl (cs_X8 kA a V_10) H := by rw [eV_10]; exact hP
        refine lv_aload_n hC.1 hC.2.1 dX8_clearsParts_35 rfl (lv_at hl 1 rfl) <| gfX8_7 hC hK hP (q0 := 0) rfl rfl dX8_clearsParts_36 <| zsipush hC.1 hC.2.1 dX8_clearsParts_39 (by decide) <| ziload_n hC.1 hC.2.1 dX8_clearsParts_42 rfl (lv_at hl 0 rfl) <| ziadd hC.1 hC.2.1 dX8_clearsParts_43 <| ziconst hC.1 hC.2.1 dX8_clearsParts_44 <| ?_
        obtain ⟨hz_11, hf⟩ := ck_some hf
        refine jas hC hK hP (hD V_10) hS (q0 := 1) rfl (Nat.le_of_ble_eq_true rfl) hz_11 rfl dX8_clearsParts_45 (fun H locs hP hS => ?_)
        obtain ⟨V_12, eV_12⟩ : ∃ y, y = uz V_10 0 (773 + r_6).toNat 0 := ⟨_, rfl⟩
        have hf := nm_at hf eV_12
        have hP : va_P D vwCl (cs_X8 kA a V_12) H := by rw [eV_12]; exact hP
        refine lv_aload_n hC.1 hC.2.1 dX8_clearsParts_46 rfl (lv_at hl 1 rfl) <| gfX8_7 hC hK hP (q0 := 0) rfl rfl dX8_clearsParts_47 <| zsipush hC.1 hC.2.1 dX8_clearsParts_50 (by decide) <| ziload_n hC.1 hC.2.1 dX8_clearsParts_53 rfl (lv_at hl 0 rfl) <| ziadd hC.1 hC.2.1 dX8_clearsParts_54 <| ziconst hC.1 hC.2.1 dX8_clearsParts_55 <| ?_
        obtain ⟨hz_13, hf⟩ := ck_some hf
        refine jas hC hK hP (hD V_12) hS (q0 := 1) rfl (Nat.le_of_ble_eq_true rfl) hz_13 rfl dX8_clearsParts_56 (fun H locs hP hS => ?_)
        obtain ⟨V_14, eV_14⟩ : ∃ y, y = uz V_12 0 (953 + r_6).toNat 0 := ⟨_, rfl⟩
        have hf := nm_at hf eV_14
        have hP : va_P D vwCl (cs_X8 kA a V_14) H := by rw [eV_14]; exact hP
        obtain ⟨x_15, ex_15⟩ : ∃ y : Int, y = y2 + 1 := ⟨_, rfl⟩
        have hf := nm_at hf ex_15
        refine ziinc (v := x_15) (lv' := [(2, vI x_15), (3, vI r_6), (0, .ref (a 0)), (1, vI x1)]) hC.1 hC.2.1 dX8_clearsParts_57 hl (k := 3) rfl ex_15 (by decide) rfl (fun ls hl => ?_)
        exact lv_goto (tgt := 2) hC.1 hC.2.1 dX8_clearsParts_60 (by decide) <| ih2 _ _ _ _ _ hf hP hS (lv_sub hl [2, 3, 0] rfl)
  refine ziconst hC.1 hC.2.1 dX8_clearsParts_0 <| zistore_n (lv' := [(2, vI 0), (0, .ref (a 0)), (1, vI x1)]) hC.1 hC.2.1 dX8_clearsParts_1 rfl hl (by decide) rfl (fun ls hl => ?_)
  exact L2 n _ _ _ _ _ hf hP hS (lv_sub hl [1, 2, 0] rfl)
theorem DX8_declares_0 : ∀ q ∈ ([(0, .aload_n 0, 1), (1, .getfield 7, 3), (4, .iconst 1, 1), (5, .iaload, 1), (6, .istore 4, 2), (8, .aload_n 0, 1), (9, .getfield 7, 3), (12, .bipush 20, 2), (14, .iload 4, 2), (16, .iadd, 1), (17, .iload_n 1, 1), (18, .iastore, 1), (19, .aload_n 0, 1), (20, .getfield 7, 3), (23, .bipush 51, 2), (25, .iload 4, 2), (27, .iadd, 1), (28, .iload_n 2, 1), (29, .iastore, 1), (30, .aload_n 0, 1), (31, .getfield 7, 3), (34, .bipush 82, 2), (36, .iload 4, 2), (38, .iadd, 1), (39, .iload_n 3, 1), (40, .iastore, 1), (41, .aload_n 0, 1), (42, .getfield 7, 3), (45, .iconst 1, 1), (46, .dup2, 1), (47, .iaload, 1), (48, .iconst 1, 1), (49, .iadd, 1), (50, .iastore, 1), (51, .return_, 1)] : List (Nat × Instr × Nat)), decode cX8_declares q.1 = .ok q.2 := by decide +kernel
theorem dX8_declares_0 : decode cX8_declares 0 = .ok (.aload_n 0, 1) := DX8_declares_0 (0, .aload_n 0, 1) (List.mem_of_getElem? (i := 0) rfl)
theorem dX8_declares_1 : decode cX8_declares 1 = .ok (.getfield 7, 3) := DX8_declares_0 (1, .getfield 7, 3) (List.mem_of_getElem? (i := 1) rfl)
theorem dX8_declares_4 : decode cX8_declares 4 = .ok (.iconst 1, 1) := DX8_declares_0 (4, .iconst 1, 1) (List.mem_of_getElem? (i := 2) rfl)
theorem dX8_declares_5 : decode cX8_declares 5 = .ok (.iaload, 1) := DX8_declares_0 (5, .iaload, 1) (List.mem_of_getElem? (i := 3) rfl)
theorem dX8_declares_6 : decode cX8_declares 6 = .ok (.istore 4, 2) := DX8_declares_0 (6, .istore 4, 2) (List.mem_of_getElem? (i := 4) rfl)
theorem dX8_declares_8 : decode cX8_declares 8 = .ok (.aload_n 0, 1) := DX8_declares_0 (8, .aload_n 0, 1) (List.mem_of_getElem? (i := 5) rfl)
theorem dX8_declares_9 : decode cX8_declares 9 = .ok (.getfield 7, 3) := DX8_declares_0 (9, .getfield 7, 3) (List.mem_of_getElem? (i := 6) rfl)
theorem dX8_declares_12 : decode cX8_declares 12 = .ok (.bipush 20, 2) := DX8_declares_0 (12, .bipush 20, 2) (List.mem_of_getElem? (i := 7) rfl)
theorem dX8_declares_14 : decode cX8_declares 14 = .ok (.iload 4, 2) := DX8_declares_0 (14, .iload 4, 2) (List.mem_of_getElem? (i := 8) rfl)
theorem dX8_declares_16 : decode cX8_declares 16 = .ok (.iadd, 1) := DX8_declares_0 (16, .iadd, 1) (List.mem_of_getElem? (i := 9) rfl)
theorem dX8_declares_17 : decode cX8_declares 17 = .ok (.iload_n 1, 1) := DX8_declares_0 (17, .iload_n 1, 1) (List.mem_of_getElem? (i := 10) rfl)
theorem dX8_declares_18 : decode cX8_declares 18 = .ok (.iastore, 1) := DX8_declares_0 (18, .iastore, 1) (List.mem_of_getElem? (i := 11) rfl)
theorem dX8_declares_19 : decode cX8_declares 19 = .ok (.aload_n 0, 1) := DX8_declares_0 (19, .aload_n 0, 1) (List.mem_of_getElem? (i := 12) rfl)
theorem dX8_declares_20 : decode cX8_declares 20 = .ok (.getfield 7, 3) := DX8_declares_0 (20, .getfield 7, 3) (List.mem_of_getElem? (i := 13) rfl)
theorem dX8_declares_23 : decode cX8_declares 23 = .ok (.bipush 51, 2) := DX8_declares_0 (23, .bipush 51, 2) (List.mem_of_getElem? (i := 14) rfl)
theorem dX8_declares_25 : decode cX8_declares 25 = .ok (.iload 4, 2) := DX8_declares_0 (25, .iload 4, 2) (List.mem_of_getElem? (i := 15) rfl)
theorem dX8_declares_27 : decode cX8_declares 27 = .ok (.iadd, 1) := DX8_declares_0 (27, .iadd, 1) (List.mem_of_getElem? (i := 16) rfl)
theorem dX8_declares_28 : decode cX8_declares 28 = .ok (.iload_n 2, 1) := DX8_declares_0 (28, .iload_n 2, 1) (List.mem_of_getElem? (i := 17) rfl)
theorem dX8_declares_29 : decode cX8_declares 29 = .ok (.iastore, 1) := DX8_declares_0 (29, .iastore, 1) (List.mem_of_getElem? (i := 18) rfl)
theorem dX8_declares_30 : decode cX8_declares 30 = .ok (.aload_n 0, 1) := DX8_declares_0 (30, .aload_n 0, 1) (List.mem_of_getElem? (i := 19) rfl)
theorem dX8_declares_31 : decode cX8_declares 31 = .ok (.getfield 7, 3) := DX8_declares_0 (31, .getfield 7, 3) (List.mem_of_getElem? (i := 20) rfl)
theorem dX8_declares_34 : decode cX8_declares 34 = .ok (.bipush 82, 2) := DX8_declares_0 (34, .bipush 82, 2) (List.mem_of_getElem? (i := 21) rfl)
theorem dX8_declares_36 : decode cX8_declares 36 = .ok (.iload 4, 2) := DX8_declares_0 (36, .iload 4, 2) (List.mem_of_getElem? (i := 22) rfl)
theorem dX8_declares_38 : decode cX8_declares 38 = .ok (.iadd, 1) := DX8_declares_0 (38, .iadd, 1) (List.mem_of_getElem? (i := 23) rfl)
theorem dX8_declares_39 : decode cX8_declares 39 = .ok (.iload_n 3, 1) := DX8_declares_0 (39, .iload_n 3, 1) (List.mem_of_getElem? (i := 24) rfl)
theorem dX8_declares_40 : decode cX8_declares 40 = .ok (.iastore, 1) := DX8_declares_0 (40, .iastore, 1) (List.mem_of_getElem? (i := 25) rfl)
theorem dX8_declares_41 : decode cX8_declares 41 = .ok (.aload_n 0, 1) := DX8_declares_0 (41, .aload_n 0, 1) (List.mem_of_getElem? (i := 26) rfl)
theorem dX8_declares_42 : decode cX8_declares 42 = .ok (.getfield 7, 3) := DX8_declares_0 (42, .getfield 7, 3) (List.mem_of_getElem? (i := 27) rfl)
theorem dX8_declares_45 : decode cX8_declares 45 = .ok (.iconst 1, 1) := DX8_declares_0 (45, .iconst 1, 1) (List.mem_of_getElem? (i := 28) rfl)
theorem dX8_declares_46 : decode cX8_declares 46 = .ok (.dup2, 1) := DX8_declares_0 (46, .dup2, 1) (List.mem_of_getElem? (i := 29) rfl)
theorem dX8_declares_47 : decode cX8_declares 47 = .ok (.iaload, 1) := DX8_declares_0 (47, .iaload, 1) (List.mem_of_getElem? (i := 30) rfl)
theorem dX8_declares_48 : decode cX8_declares 48 = .ok (.iconst 1, 1) := DX8_declares_0 (48, .iconst 1, 1) (List.mem_of_getElem? (i := 31) rfl)
theorem dX8_declares_49 : decode cX8_declares 49 = .ok (.iadd, 1) := DX8_declares_0 (49, .iadd, 1) (List.mem_of_getElem? (i := 32) rfl)
theorem dX8_declares_50 : decode cX8_declares 50 = .ok (.iastore, 1) := DX8_declares_0 (50, .iastore, 1) (List.mem_of_getElem? (i := 33) rfl)
theorem dX8_declares_51 : decode cX8_declares 51 = .ok (.return_, 1) := DX8_declares_0 (51, .return_, 1) (List.mem_of_getElem? (i := 34) rfl)
abbrev rmX8_declares : Room := { frames := 0, cells := 0, slots := 0, locals := 0 }
set_option maxHeartbeats 400000 in
set_option maxRecDepth 100000 in
theorem met_X8_declares (l : Launch) (D : va_G) (kA : Nat → ClassId) (a : Nat → Nat) (V0 : Sz) (x1 : Int) (x2 : Int) (x3 : Int) (hDt : ∀ w : Sz, va_D (fun _ => True) (cs_X8 kA a w)) {Vr : Sz} (hf : f_X8_declares V0 x1 x2 x3 = some Vr) : MZ l yX8_declares cX8_declares 5 none rmX8_declares D kA [.ref (a 0), vI x1, vI x2, vI x3] (cs_X8 kA a V0) (cs_X8 kA a Vr) (none) := by
  refine zZV (own := RX8) rfl rfl (Nat.le_of_ble_eq_true rfl) ?_
  intro p e s m args below meth c ls Q hC hK hP hl hret
  have hl : lv_has ls 5 [(0, .ref (a 0)), (1, vI x1), (2, vI x2), (3, vI x3)] := hl
  have hS : va_S (zF (cs_X8 kA a V0)) s.heap s.heap [] := va_S.rf
  have hD := zDself (C := fun w : Sz => (cs_X8 kA a w)) hDt V0 (fun _ => rfl)
  try dsimp only at hD
  generalize hAe : zF (cs_X8 kA a V0) = A0 at hS hD hret
  unfold f_X8_declares at hf
  refine lv_aload_n hC.1 hC.2.1 dX8_declares_0 rfl (lv_at hl 0 rfl) <| gfX8_7 hC hK hP (q0 := 0) rfl rfl dX8_declares_1 <| ziconst hC.1 hC.2.1 dX8_declares_4 <| jal hC hK hP (q0 := 1) rfl (Nat.le_of_ble_eq_true rfl) (by decide) rfl dX8_declares_5 <| ?_
  refine ztopi (fun x_1 ex_1 => ?_)
  have hf := nm_at hf ex_1
  refine zistore (lv' := [(4, vI x_1), (0, .ref (a 0)), (1, vI x1), (2, vI x2), (3, vI x3)]) hC.1 hC.2.1 dX8_declares_6 hl (by decide) rfl (fun ls hl => ?_)
  refine lv_aload_n hC.1 hC.2.1 dX8_declares_8 rfl (lv_at hl 1 rfl) <| gfX8_7 hC hK hP (q0 := 0) rfl rfl dX8_declares_9 <| zbipush hC.1 hC.2.1 dX8_declares_12 (by decide) <| ziload hC.1 hC.2.1 dX8_declares_14 (lv_at hl 0 rfl) <| ziadd hC.1 hC.2.1 dX8_declares_16 <| ziload_n hC.1 hC.2.1 dX8_declares_17 rfl (lv_at hl 2 rfl) <| ?_
  obtain ⟨hz_2, hf⟩ := ck_some hf
  refine jas hC hK hP (hD V0) hS (q0 := 1) rfl (Nat.le_of_ble_eq_true rfl) hz_2 rfl dX8_declares_18 (fun H locs hP hS => ?_)
  obtain ⟨V_3, eV_3⟩ : ∃ y, y = uz V0 0 (20 + x_1).toNat x1 := ⟨_, rfl⟩
  have hf := nm_at hf eV_3
  have hP : va_P D vwCl (cs_X8 kA a V_3) H := by rw [eV_3]; exact hP
  refine lv_aload_n hC.1 hC.2.1 dX8_declares_19 rfl (lv_at hl 1 rfl) <| gfX8_7 hC hK hP (q0 := 0) rfl rfl dX8_declares_20 <| zbipush hC.1 hC.2.1 dX8_declares_23 (by decide) <| ziload hC.1 hC.2.1 dX8_declares_25 (lv_at hl 0 rfl) <| ziadd hC.1 hC.2.1 dX8_declares_27 <| ziload_n hC.1 hC.2.1 dX8_declares_28 rfl (lv_at hl 3 rfl) <| ?_
  obtain ⟨hz_4, hf⟩ := ck_some hf
  refine jas hC hK hP (hD V_3) hS (q0 := 1) rfl (Nat.le_of_ble_eq_true rfl) hz_4 rfl dX8_declares_29 (fun H locs hP hS => ?_)
  obtain ⟨V_5, eV_5⟩ : ∃ y, y = uz V_3 0 (51 + x_1).toNat x2 := ⟨_, rfl⟩
  have hf := nm_at hf eV_5
  have hP : va_P D vwCl (cs_X8 kA a V_5) H := by rw [eV_5]; exact hP
  refine lv_aload_n hC.1 hC.2.1 dX8_declares_30 rfl (lv_at hl 1 rfl) <| gfX8_7 hC hK hP (q0 := 0) rfl rfl dX8_declares_31 <| zbipush hC.1 hC.2.1 dX8_declares_34 (by decide) <| ziload hC.1 hC.2.1 dX8_declares_36 (lv_at hl 0 rfl) <| ziadd hC.1 hC.2.1 dX8_declares_38 <| ziload_n hC.1 hC.2.1 dX8_declares_39 rfl (lv_at hl 4 rfl) <| ?_
  obtain ⟨hz_6, hf⟩ := ck_some hf
  refine jas hC hK hP (hD V_5) hS (q0 := 1) rfl (Nat.le_of_ble_eq_true rfl) hz_6 rfl dX8_declares_40 (fun H locs hP hS => ?_)
  obtain ⟨V_7, eV_7⟩ : ∃ y, y = uz V_5 0 (82 + x_1).toNat x3 := ⟨_, rfl⟩
  have hf := nm_at hf eV_7
  have hP : va_P D vwCl (cs_X8 kA a V_7) H := by rw [eV_7]; exact hP
  refine lv_aload_n hC.1 hC.2.1 dX8_declares_41 rfl (lv_at hl 1 rfl) <| gfX8_7 hC hK hP (q0 := 0) rfl rfl dX8_declares_42 <| ziconst hC.1 hC.2.1 dX8_declares_45 <| lv_dup2_11 hC.1 hC.2.1 dX8_declares_46 rfl rfl <| jal hC hK hP (q0 := 1) rfl (Nat.le_of_ble_eq_true rfl) (by decide) rfl dX8_declares_47 <| ziconst hC.1 hC.2.1 dX8_declares_48 <| ziadd hC.1 hC.2.1 dX8_declares_49 <| ?_
  refine jas hC hK hP (hD V_7) hS (q0 := 1) rfl (Nat.le_of_ble_eq_true rfl) (by decide) rfl dX8_declares_50 (fun H locs hP hS => ?_)
  obtain ⟨V_8, eV_8⟩ : ∃ y, y = uz V_7 0 1 ((V_7 0 1) + 1) := ⟨_, rfl⟩
  have hf := nm_at hf eV_8
  have hP : va_P D vwCl (cs_X8 kA a V_8) H := by rw [eV_8]; exact hP
  have hf := Option.some.inj hf
  exact hret _ _ _ _ rfl (by rw [← hf]; exact hP) hS dX8_declares_51
theorem DX8_appendWord_0 : ∀ q ∈ ([(0, .bipush 24, 2), (2, .istore_n 2, 1), (3, .iload_n 2, 1), (4, .ifCond .lt 35, 3), (7, .aload_n 0, 1), (8, .getfield 43, 3), (11, .aload_n 0, 1), (12, .getfield 127, 3), (15, .iload_n 1, 1), (16, .iload_n 2, 1), (17, .ishr, 1), (18, .sipush 255, 3), (21, .iand, 1), (22, .iastore, 1), (23, .aload_n 0, 1), (24, .dup, 1), (25, .getfield 127, 3), (28, .iconst 1, 1), (29, .iadd, 1), (30, .putfield 127, 3), (33, .iinc 2 (-8), 3), (36, .goto (-33), 3), (39, .return_, 1)] : List (Nat × Instr × Nat)), decode cX8_appendWord q.1 = .ok q.2 := by decide +kernel
theorem dX8_appendWord_0 : decode cX8_appendWord 0 = .ok (.bipush 24, 2) := DX8_appendWord_0 (0, .bipush 24, 2) (List.mem_of_getElem? (i := 0) rfl)
theorem dX8_appendWord_2 : decode cX8_appendWord 2 = .ok (.istore_n 2, 1) := DX8_appendWord_0 (2, .istore_n 2, 1) (List.mem_of_getElem? (i := 1) rfl)
theorem dX8_appendWord_3 : decode cX8_appendWord 3 = .ok (.iload_n 2, 1) := DX8_appendWord_0 (3, .iload_n 2, 1) (List.mem_of_getElem? (i := 2) rfl)
theorem dX8_appendWord_4 : decode cX8_appendWord 4 = .ok (.ifCond .lt 35, 3) := DX8_appendWord_0 (4, .ifCond .lt 35, 3) (List.mem_of_getElem? (i := 3) rfl)
theorem dX8_appendWord_7 : decode cX8_appendWord 7 = .ok (.aload_n 0, 1) := DX8_appendWord_0 (7, .aload_n 0, 1) (List.mem_of_getElem? (i := 4) rfl)
theorem dX8_appendWord_8 : decode cX8_appendWord 8 = .ok (.getfield 43, 3) := DX8_appendWord_0 (8, .getfield 43, 3) (List.mem_of_getElem? (i := 5) rfl)
theorem dX8_appendWord_11 : decode cX8_appendWord 11 = .ok (.aload_n 0, 1) := DX8_appendWord_0 (11, .aload_n 0, 1) (List.mem_of_getElem? (i := 6) rfl)
theorem dX8_appendWord_12 : decode cX8_appendWord 12 = .ok (.getfield 127, 3) := DX8_appendWord_0 (12, .getfield 127, 3) (List.mem_of_getElem? (i := 7) rfl)
theorem dX8_appendWord_15 : decode cX8_appendWord 15 = .ok (.iload_n 1, 1) := DX8_appendWord_0 (15, .iload_n 1, 1) (List.mem_of_getElem? (i := 8) rfl)
theorem dX8_appendWord_16 : decode cX8_appendWord 16 = .ok (.iload_n 2, 1) := DX8_appendWord_0 (16, .iload_n 2, 1) (List.mem_of_getElem? (i := 9) rfl)
theorem dX8_appendWord_17 : decode cX8_appendWord 17 = .ok (.ishr, 1) := DX8_appendWord_0 (17, .ishr, 1) (List.mem_of_getElem? (i := 10) rfl)
theorem dX8_appendWord_18 : decode cX8_appendWord 18 = .ok (.sipush 255, 3) := DX8_appendWord_0 (18, .sipush 255, 3) (List.mem_of_getElem? (i := 11) rfl)
theorem dX8_appendWord_21 : decode cX8_appendWord 21 = .ok (.iand, 1) := DX8_appendWord_0 (21, .iand, 1) (List.mem_of_getElem? (i := 12) rfl)
theorem dX8_appendWord_22 : decode cX8_appendWord 22 = .ok (.iastore, 1) := DX8_appendWord_0 (22, .iastore, 1) (List.mem_of_getElem? (i := 13) rfl)
theorem dX8_appendWord_23 : decode cX8_appendWord 23 = .ok (.aload_n 0, 1) := DX8_appendWord_0 (23, .aload_n 0, 1) (List.mem_of_getElem? (i := 14) rfl)
theorem dX8_appendWord_24 : decode cX8_appendWord 24 = .ok (.dup, 1) := DX8_appendWord_0 (24, .dup, 1) (List.mem_of_getElem? (i := 15) rfl)
theorem dX8_appendWord_25 : decode cX8_appendWord 25 = .ok (.getfield 127, 3) := DX8_appendWord_0 (25, .getfield 127, 3) (List.mem_of_getElem? (i := 16) rfl)
theorem dX8_appendWord_28 : decode cX8_appendWord 28 = .ok (.iconst 1, 1) := DX8_appendWord_0 (28, .iconst 1, 1) (List.mem_of_getElem? (i := 17) rfl)
theorem dX8_appendWord_29 : decode cX8_appendWord 29 = .ok (.iadd, 1) := DX8_appendWord_0 (29, .iadd, 1) (List.mem_of_getElem? (i := 18) rfl)
theorem dX8_appendWord_30 : decode cX8_appendWord 30 = .ok (.putfield 127, 3) := DX8_appendWord_0 (30, .putfield 127, 3) (List.mem_of_getElem? (i := 19) rfl)
theorem dX8_appendWord_33 : decode cX8_appendWord 33 = .ok (.iinc 2 (-8), 3) := DX8_appendWord_0 (33, .iinc 2 (-8), 3) (List.mem_of_getElem? (i := 20) rfl)
theorem dX8_appendWord_36 : decode cX8_appendWord 36 = .ok (.goto (-33), 3) := DX8_appendWord_0 (36, .goto (-33), 3) (List.mem_of_getElem? (i := 21) rfl)
theorem dX8_appendWord_39 : decode cX8_appendWord 39 = .ok (.return_, 1) := DX8_appendWord_0 (39, .return_, 1) (List.mem_of_getElem? (i := 22) rfl)
abbrev rmX8_appendWord : Room := { frames := 0, cells := 0, slots := 0, locals := 0 }
set_option maxHeartbeats 400000 in
set_option maxRecDepth 100000 in
theorem met_X8_appendWord (l : Launch) (D : va_G) (kA : Nat → ClassId) (a : Nat → Nat) (n : Nat) (V0 : Sz) (x1 : Int) (hDt : ∀ w : Sz, va_D (fun _ => True) (cs_X8 kA a w)) {Vr : Sz} (hf : f_X8_appendWord n V0 x1 = some Vr) : MZ l yX8_appendWord cX8_appendWord 3 none rmX8_appendWord D kA [.ref (a 0), vI x1] (cs_X8 kA a V0) (cs_X8 kA a Vr) (none) := by
  refine zZV (own := RX8) rfl rfl (Nat.le_of_ble_eq_true rfl) ?_
  intro p e s m args below meth c ls Q hC hK hP hl hret
  have hl : lv_has ls 3 [(0, .ref (a 0)), (1, vI x1)] := hl
  have hS : va_S (zF (cs_X8 kA a V0)) s.heap s.heap [] := va_S.rf
  have hD := zDself (C := fun w : Sz => (cs_X8 kA a w)) hDt V0 (fun _ => rfl)
  try dsimp only at hD
  generalize hAe : zF (cs_X8 kA a V0) = A0 at hS hD hret
  unfold f_X8_appendWord at hf
  have L3 : ∀ (k3 : Nat) (y2 : Int) (V : Sz) (H : Heap) (locs : List Loc) (ls : Array Slot), lpF (bX8_appendWord_3 n x1) k3 (y2, V) = some Vr → va_P D vwCl (cs_X8 kA a V) H → va_S A0 s.heap H locs → lv_has ls 3 [(0, .ref (a 0)), (1, vI x1), (2, vI y2)] → W p l e rmX8_appendWord s m args below meth c H locs 0 0 Q (F0 m 3 ls []) := by
    intro k3
    induction k3 with
    | zero => intro y2 V H locs ls hf hP hS hl; exact lp_0 hf
    | succ k3 ih3 =>
      intro y2 V H locs ls hf hP hS hl
      have hf := lp_s hf
      rw [bX8_appendWord_3_e] at hf
      refine ziload_n hC.1 hC.2.1 dX8_appendWord_3 rfl (lv_at hl 2 rfl) <| ?_
      obtain ⟨hz_1, hf⟩ := ck_some hf
      refine zif_lt (tgt := 39) hC.1 hC.2.1 hz_1 dX8_appendWord_4 (by decide) (fun hc => ?_) (fun hc => ?_)
      · have hf := it_t hf hc
        have hf := Option.some.inj hf
        exact hret _ _ _ _ rfl (by rw [← hf]; exact hP) hS dX8_appendWord_39
      · have hf := it_f hf hc
        refine lv_aload_n hC.1 hC.2.1 dX8_appendWord_7 rfl (lv_at hl 0 rfl) <| gfX8_43 hC hK hP (q0 := 0) rfl rfl dX8_appendWord_8 <| lv_aload_n hC.1 hC.2.1 dX8_appendWord_11 rfl (lv_at hl 0 rfl) <| gfX8_127 hC hK hP (q0 := 0) rfl rfl dX8_appendWord_12 <| ziload_n hC.1 hC.2.1 dX8_appendWord_15 rfl (lv_at hl 1 rfl) <| ziload_n hC.1 hC.2.1 dX8_appendWord_16 rfl (lv_at hl 2 rfl) <| ?_
        obtain ⟨hz_2, hf⟩ := ck_some hf
        refine zishr hC.1 hC.2.1 ⟨hz_2.1, hz_2.2⟩ dX8_appendWord_17 <| zsipush hC.1 hC.2.1 dX8_appendWord_18 (by decide) <| ziand255 hC.1 hC.2.1 dX8_appendWord_21 <| ?_
        obtain ⟨hz_3, hf⟩ := ck_some hf
        refine jas hC hK hP (hD V) hS (q0 := 12) rfl (Nat.le_of_ble_eq_true rfl) hz_3 rfl dX8_appendWord_22 (fun H locs hP hS => ?_)
        obtain ⟨V_4, eV_4⟩ : ∃ y, y = uz V 14 (V 15 0).toNat ((shX x1 y2) % 256) := ⟨_, rfl⟩
        have hf := nm_at hf eV_4
        have hP : va_P D vwCl (cs_X8 kA a V_4) H := by rw [eV_4]; exact hP
        refine lv_aload_n hC.1 hC.2.1 dX8_appendWord_23 rfl (lv_at hl 0 rfl) <| lv_dup hC.1 hC.2.1 dX8_appendWord_24 rfl <| gfX8_127 hC hK hP (q0 := 0) rfl rfl dX8_appendWord_25 <| ziconst hC.1 hC.2.1 dX8_appendWord_28 <| ziadd hC.1 hC.2.1 dX8_appendWord_29 <| ?_
        refine pfX8_127 hC hK hP (hD V_4) hS (q0 := 0) rfl (Nat.le_of_ble_eq_true rfl) dX8_appendWord_30 (fun H locs hP hS => ?_)
        obtain ⟨V_5, eV_5⟩ : ∃ y, y = us V_4 15 ((V_4 15 0) + 1) := ⟨_, rfl⟩
        have hf := nm_at hf eV_5
        have hP : va_P D vwCl (cs_X8 kA a V_5) H := by rw [eV_5]; exact hP
        obtain ⟨x_6, ex_6⟩ : ∃ y : Int, y = y2 + (-8) := ⟨_, rfl⟩
        have hf := nm_at hf ex_6
        refine ziinc (v := x_6) (lv' := [(2, vI x_6), (0, .ref (a 0)), (1, vI x1)]) hC.1 hC.2.1 dX8_appendWord_33 hl (k := 2) rfl ex_6 (by decide) rfl (fun ls hl => ?_)
        exact lv_goto (tgt := 3) hC.1 hC.2.1 dX8_appendWord_36 (by decide) <| ih3 _ _ _ _ _ hf hP hS (lv_sub hl [1, 2, 0] rfl)
  refine zbipush hC.1 hC.2.1 dX8_appendWord_0 (by decide) <| zistore_n (lv' := [(2, vI 24), (0, .ref (a 0)), (1, vI x1)]) hC.1 hC.2.1 dX8_appendWord_2 rfl hl (by decide) rfl (fun ls hl => ?_)
  exact L3 n _ _ _ _ _ hf hP hS (lv_sub hl [1, 2, 0] rfl)
theorem DX8_appendInput_0 : ∀ q ∈ ([(0, .aload_n 0, 1), (1, .iconst 0, 1), (2, .putfield 65, 3), (5, .aload_n 0, 1), (6, .getfield 127, 3), (9, .bipush 20, 2), (11, .iadd, 1), (12, .sipush 900, 3), (15, .if_icmp .le 5, 3), (18, .iconst (-1), 1), (19, .ireturn, 1), (20, .aload_n 0, 1), (21, .iload_n 1, 1), (22, .invokevirtual 130, 3), (25, .aload_n 0, 1), (26, .iload_n 2, 1), (27, .invokevirtual 130, 3), (30, .aload_n 0, 1), (31, .iload_n 3, 1), (32, .invokevirtual 130, 3), (35, .aload_n 0, 1), (36, .iload 4, 2), (38, .invokevirtual 130, 3), (41, .aload_n 0, 1), (42, .iload 5, 2), (44, .invokevirtual 130, 3), (47, .aload_n 0, 1), (48, .getfield 127, 3), (51, .ireturn, 1)] : List (Nat × Instr × Nat)), decode cX8_appendInput q.1 = .ok q.2 := by decide +kernel
theorem dX8_appendInput_0 : decode cX8_appendInput 0 = .ok (.aload_n 0, 1) := DX8_appendInput_0 (0, .aload_n 0, 1) (List.mem_of_getElem? (i := 0) rfl)
theorem dX8_appendInput_1 : decode cX8_appendInput 1 = .ok (.iconst 0, 1) := DX8_appendInput_0 (1, .iconst 0, 1) (List.mem_of_getElem? (i := 1) rfl)
theorem dX8_appendInput_2 : decode cX8_appendInput 2 = .ok (.putfield 65, 3) := DX8_appendInput_0 (2, .putfield 65, 3) (List.mem_of_getElem? (i := 2) rfl)
theorem dX8_appendInput_5 : decode cX8_appendInput 5 = .ok (.aload_n 0, 1) := DX8_appendInput_0 (5, .aload_n 0, 1) (List.mem_of_getElem? (i := 3) rfl)
theorem dX8_appendInput_6 : decode cX8_appendInput 6 = .ok (.getfield 127, 3) := DX8_appendInput_0 (6, .getfield 127, 3) (List.mem_of_getElem? (i := 4) rfl)
theorem dX8_appendInput_9 : decode cX8_appendInput 9 = .ok (.bipush 20, 2) := DX8_appendInput_0 (9, .bipush 20, 2) (List.mem_of_getElem? (i := 5) rfl)
theorem dX8_appendInput_11 : decode cX8_appendInput 11 = .ok (.iadd, 1) := DX8_appendInput_0 (11, .iadd, 1) (List.mem_of_getElem? (i := 6) rfl)
theorem dX8_appendInput_12 : decode cX8_appendInput 12 = .ok (.sipush 900, 3) := DX8_appendInput_0 (12, .sipush 900, 3) (List.mem_of_getElem? (i := 7) rfl)
theorem dX8_appendInput_15 : decode cX8_appendInput 15 = .ok (.if_icmp .le 5, 3) := DX8_appendInput_0 (15, .if_icmp .le 5, 3) (List.mem_of_getElem? (i := 8) rfl)
theorem dX8_appendInput_18 : decode cX8_appendInput 18 = .ok (.iconst (-1), 1) := DX8_appendInput_0 (18, .iconst (-1), 1) (List.mem_of_getElem? (i := 9) rfl)
theorem dX8_appendInput_19 : decode cX8_appendInput 19 = .ok (.ireturn, 1) := DX8_appendInput_0 (19, .ireturn, 1) (List.mem_of_getElem? (i := 10) rfl)
theorem dX8_appendInput_20 : decode cX8_appendInput 20 = .ok (.aload_n 0, 1) := DX8_appendInput_0 (20, .aload_n 0, 1) (List.mem_of_getElem? (i := 11) rfl)
theorem dX8_appendInput_21 : decode cX8_appendInput 21 = .ok (.iload_n 1, 1) := DX8_appendInput_0 (21, .iload_n 1, 1) (List.mem_of_getElem? (i := 12) rfl)
theorem dX8_appendInput_22 : decode cX8_appendInput 22 = .ok (.invokevirtual 130, 3) := DX8_appendInput_0 (22, .invokevirtual 130, 3) (List.mem_of_getElem? (i := 13) rfl)
theorem dX8_appendInput_25 : decode cX8_appendInput 25 = .ok (.aload_n 0, 1) := DX8_appendInput_0 (25, .aload_n 0, 1) (List.mem_of_getElem? (i := 14) rfl)
theorem dX8_appendInput_26 : decode cX8_appendInput 26 = .ok (.iload_n 2, 1) := DX8_appendInput_0 (26, .iload_n 2, 1) (List.mem_of_getElem? (i := 15) rfl)
theorem dX8_appendInput_27 : decode cX8_appendInput 27 = .ok (.invokevirtual 130, 3) := DX8_appendInput_0 (27, .invokevirtual 130, 3) (List.mem_of_getElem? (i := 16) rfl)
theorem dX8_appendInput_30 : decode cX8_appendInput 30 = .ok (.aload_n 0, 1) := DX8_appendInput_0 (30, .aload_n 0, 1) (List.mem_of_getElem? (i := 17) rfl)
theorem dX8_appendInput_31 : decode cX8_appendInput 31 = .ok (.iload_n 3, 1) := DX8_appendInput_0 (31, .iload_n 3, 1) (List.mem_of_getElem? (i := 18) rfl)
theorem dX8_appendInput_32 : decode cX8_appendInput 32 = .ok (.invokevirtual 130, 3) := DX8_appendInput_0 (32, .invokevirtual 130, 3) (List.mem_of_getElem? (i := 19) rfl)
theorem dX8_appendInput_35 : decode cX8_appendInput 35 = .ok (.aload_n 0, 1) := DX8_appendInput_0 (35, .aload_n 0, 1) (List.mem_of_getElem? (i := 20) rfl)
theorem dX8_appendInput_36 : decode cX8_appendInput 36 = .ok (.iload 4, 2) := DX8_appendInput_0 (36, .iload 4, 2) (List.mem_of_getElem? (i := 21) rfl)
theorem dX8_appendInput_38 : decode cX8_appendInput 38 = .ok (.invokevirtual 130, 3) := DX8_appendInput_0 (38, .invokevirtual 130, 3) (List.mem_of_getElem? (i := 22) rfl)
theorem dX8_appendInput_41 : decode cX8_appendInput 41 = .ok (.aload_n 0, 1) := DX8_appendInput_0 (41, .aload_n 0, 1) (List.mem_of_getElem? (i := 23) rfl)
theorem dX8_appendInput_42 : decode cX8_appendInput 42 = .ok (.iload 5, 2) := DX8_appendInput_0 (42, .iload 5, 2) (List.mem_of_getElem? (i := 24) rfl)
theorem dX8_appendInput_44 : decode cX8_appendInput 44 = .ok (.invokevirtual 130, 3) := DX8_appendInput_0 (44, .invokevirtual 130, 3) (List.mem_of_getElem? (i := 25) rfl)
theorem dX8_appendInput_47 : decode cX8_appendInput 47 = .ok (.aload_n 0, 1) := DX8_appendInput_0 (47, .aload_n 0, 1) (List.mem_of_getElem? (i := 26) rfl)
theorem dX8_appendInput_48 : decode cX8_appendInput 48 = .ok (.getfield 127, 3) := DX8_appendInput_0 (48, .getfield 127, 3) (List.mem_of_getElem? (i := 27) rfl)
theorem dX8_appendInput_51 : decode cX8_appendInput 51 = .ok (.ireturn, 1) := DX8_appendInput_0 (51, .ireturn, 1) (List.mem_of_getElem? (i := 28) rfl)
abbrev rmX8_appendInput : Room := { frames := 1, cells := 0, slots := 0, locals := 22 }
set_option maxHeartbeats 400000 in
set_option maxRecDepth 100000 in
theorem met_X8_appendInput (l : Launch) (D : va_G) (kA : Nat → ClassId) (a : Nat → Nat) (n : Nat) (V0 : Sz) (x1 : Int) (x2 : Int) (x3 : Int) (x4 : Int) (x5 : Int) (hDt : ∀ w : Sz, va_D (fun _ => True) (cs_X8 kA a w)) {r : Int} {Vr : Sz} (hf : f_X8_appendInput n V0 x1 x2 x3 x4 x5 = some (r, Vr)) : MZ l yX8_appendInput cX8_appendInput 6 (some .int) rmX8_appendInput D kA [.ref (a 0), vI x1, vI x2, vI x3, vI x4, vI x5] (cs_X8 kA a V0) (cs_X8 kA a Vr) (some (vI r)) := by
  refine zZI (own := RX8) rfl rfl (Nat.le_of_ble_eq_true rfl) ?_
  intro p e s m args below meth c ls Q hC hK hP hl hret
  have hl : lv_has ls 6 [(0, .ref (a 0)), (1, vI x1), (2, vI x2), (3, vI x3), (4, vI x4), (5, vI x5)] := hl
  have hS : va_S (zF (cs_X8 kA a V0)) s.heap s.heap [] := va_S.rf
  have hD := zDself (C := fun w : Sz => (cs_X8 kA a w)) hDt V0 (fun _ => rfl)
  try dsimp only at hD
  generalize hAe : zF (cs_X8 kA a V0) = A0 at hS hD hret
  unfold f_X8_appendInput at hf
  refine lv_aload_n hC.1 hC.2.1 dX8_appendInput_0 rfl (lv_at hl 0 rfl) <| ziconst hC.1 hC.2.1 dX8_appendInput_1 <| ?_
  refine pfX8_65 hC hK hP (hD V0) hS (q0 := 0) rfl (Nat.le_of_ble_eq_true rfl) dX8_appendInput_2 (fun H locs hP hS => ?_)
  obtain ⟨V_1, eV_1⟩ : ∃ y, y = us V0 9 0 := ⟨_, rfl⟩
  have hf := nm_at hf eV_1
  have hP : va_P D vwCl (cs_X8 kA a V_1) H := by rw [eV_1]; exact hP
  refine lv_aload_n hC.1 hC.2.1 dX8_appendInput_5 rfl (lv_at hl 0 rfl) <| gfX8_127 hC hK hP (q0 := 0) rfl rfl dX8_appendInput_6 <| zbipush hC.1 hC.2.1 dX8_appendInput_9 (by decide) <| ziadd hC.1 hC.2.1 dX8_appendInput_11 <| zsipush hC.1 hC.2.1 dX8_appendInput_12 (by decide) <| ?_
  obtain ⟨hz_2, hf⟩ := ck_some hf
  refine zicmp_le (tgt := 20) hC.1 hC.2.1 ⟨hz_2, (by decide)⟩ dX8_appendInput_15 (by decide) (fun hc => ?_) (fun hc => ?_)
  · have hf := it_t hf hc
    refine lv_aload_n hC.1 hC.2.1 dX8_appendInput_20 rfl (lv_at hl 0 rfl) <| ziload_n hC.1 hC.2.1 dX8_appendInput_21 rfl (lv_at hl 1 rfl) <| ?_
    obtain ⟨V_3, hu, hf⟩ := bd_some hf
    have hDc := hDt
    refine zcVZ (As := [vI x1]) (rest := []) hC hK (met_X8_appendWord l D kA a n V_1 x1 hDc hu) zwX8_130 hS (zFsub (hD V_1) [0, 1, 2, 3, 4, 5, 6, 7, 8, 9, 10, 11, 12, 13, 14, 15, 16] rfl) hP (q0 := 0) rfl rfl rfl rfl hl.1 rfl (Nat.le_of_ble_eq_true rfl) ⟨Nat.le_of_ble_eq_true rfl, Nat.le_of_ble_eq_true rfl⟩ ⟨rfl, rfl⟩ ⟨Nat.le_refl _, Nat.le_refl _⟩ dX8_appendInput_22 (fun H locs hP1 hk1 hS => ?_)
    have hP : va_P D vwCl (cs_X8 kA a V_3) H := hP1
    refine lv_aload_n hC.1 hC.2.1 dX8_appendInput_25 rfl (lv_at hl 0 rfl) <| ziload_n hC.1 hC.2.1 dX8_appendInput_26 rfl (lv_at hl 2 rfl) <| ?_
    obtain ⟨V_4, hu, hf⟩ := bd_some hf
    have hDc := hDt
    refine zcVZ (As := [vI x2]) (rest := []) hC hK (met_X8_appendWord l D kA a n V_3 x2 hDc hu) zwX8_130 hS (zFsub (hD V_3) [0, 1, 2, 3, 4, 5, 6, 7, 8, 9, 10, 11, 12, 13, 14, 15, 16] rfl) hP (q0 := 0) rfl rfl rfl rfl hl.1 rfl (Nat.le_of_ble_eq_true rfl) ⟨Nat.le_of_ble_eq_true rfl, Nat.le_of_ble_eq_true rfl⟩ ⟨rfl, rfl⟩ ⟨Nat.le_refl _, Nat.le_refl _⟩ dX8_appendInput_27 (fun H locs hP1 hk1 hS => ?_)
    have hP : va_P D vwCl (cs_X8 kA a V_4) H := hP1
    refine lv_aload_n hC.1 hC.2.1 dX8_appendInput_30 rfl (lv_at hl 0 rfl) <| ziload_n hC.1 hC.2.1 dX8_appendInput_31 rfl (lv_at hl 3 rfl) <| ?_
    obtain ⟨V_5, hu, hf⟩ := bd_some hf
    have hDc := hDt
    refine zcVZ (As := [vI x3]) (rest := []) hC hK (met_X8_appendWord l D kA a n V_4 x3 hDc hu) zwX8_130 hS (zFsub (hD V_4) [0, 1, 2, 3, 4, 5, 6, 7, 8, 9, 10, 11, 12, 13, 14, 15, 16] rfl) hP (q0 := 0) rfl rfl rfl rfl hl.1 rfl (Nat.le_of_ble_eq_true rfl) ⟨Nat.le_of_ble_eq_true rfl, Nat.le_of_ble_eq_true rfl⟩ ⟨rfl, rfl⟩ ⟨Nat.le_refl _, Nat.le_refl _⟩ dX8_appendInput_32 (fun H locs hP1 hk1 hS => ?_)
    have hP : va_P D vwCl (cs_X8 kA a V_5) H := hP1
    refine lv_aload_n hC.1 hC.2.1 dX8_appendInput_35 rfl (lv_at hl 0 rfl) <| ziload hC.1 hC.2.1 dX8_appendInput_36 (lv_at hl 4 rfl) <| ?_
    obtain ⟨V_6, hu, hf⟩ := bd_some hf
    have hDc := hDt
    refine zcVZ (As := [vI x4]) (rest := []) hC hK (met_X8_appendWord l D kA a n V_5 x4 hDc hu) zwX8_130 hS (zFsub (hD V_5) [0, 1, 2, 3, 4, 5, 6, 7, 8, 9, 10, 11, 12, 13, 14, 15, 16] rfl) hP (q0 := 0) rfl rfl rfl rfl hl.1 rfl (Nat.le_of_ble_eq_true rfl) ⟨Nat.le_of_ble_eq_true rfl, Nat.le_of_ble_eq_true rfl⟩ ⟨rfl, rfl⟩ ⟨Nat.le_refl _, Nat.le_refl _⟩ dX8_appendInput_38 (fun H locs hP1 hk1 hS => ?_)
    have hP : va_P D vwCl (cs_X8 kA a V_6) H := hP1
    refine lv_aload_n hC.1 hC.2.1 dX8_appendInput_41 rfl (lv_at hl 0 rfl) <| ziload hC.1 hC.2.1 dX8_appendInput_42 (lv_at hl 5 rfl) <| ?_
    obtain ⟨V_7, hu, hf⟩ := bd_some hf
    have hDc := hDt
    refine zcVZ (As := [vI x5]) (rest := []) hC hK (met_X8_appendWord l D kA a n V_6 x5 hDc hu) zwX8_130 hS (zFsub (hD V_6) [0, 1, 2, 3, 4, 5, 6, 7, 8, 9, 10, 11, 12, 13, 14, 15, 16] rfl) hP (q0 := 0) rfl rfl rfl rfl hl.1 rfl (Nat.le_of_ble_eq_true rfl) ⟨Nat.le_of_ble_eq_true rfl, Nat.le_of_ble_eq_true rfl⟩ ⟨rfl, rfl⟩ ⟨Nat.le_refl _, Nat.le_refl _⟩ dX8_appendInput_44 (fun H locs hP1 hk1 hS => ?_)
    have hP : va_P D vwCl (cs_X8 kA a V_7) H := hP1
    refine lv_aload_n hC.1 hC.2.1 dX8_appendInput_47 rfl (lv_at hl 0 rfl) <| gfX8_127 hC hK hP (q0 := 0) rfl rfl dX8_appendInput_48 <| ?_
    have hf := Option.some.inj hf
    simp only [Prod.mk.injEq] at hf
    exact hret (Int32.ofInt (V_7 15 0)) _ _ _ _ (congrArg (fun z => some (vI z)) hf.1.symm) (by rw [← hf.2]; exact hP) hS dX8_appendInput_51
  · have hf := it_f hf hc
    refine ziconst hC.1 hC.2.1 dX8_appendInput_18 <| ?_
    have hf := Option.some.inj hf
    simp only [Prod.mk.injEq] at hf
    exact hret (Int32.ofInt (-1)) _ _ _ _ (congrArg (fun z => some (vI z)) hf.1.symm) (by rw [← hf.2]; exact hP) hS dX8_appendInput_19
theorem DX8_truncateInput_0 : ∀ q ∈ ([(0, .aload_n 0, 1), (1, .iconst 0, 1), (2, .putfield 65, 3), (5, .iload_n 1, 1), (6, .iconst 0, 1), (7, .aload_n 0, 1), (8, .getfield 127, 3), (11, .invokestatic 79, 3), (14, .ifCond .ne 5, 3), (17, .iconst 0, 1), (18, .ireturn, 1), (19, .aload_n 0, 1), (20, .iload_n 1, 1), (21, .putfield 127, 3), (24, .iconst 1, 1), (25, .ireturn, 1)] : List (Nat × Instr × Nat)), decode cX8_truncateInput q.1 = .ok q.2 := by decide +kernel
theorem dX8_truncateInput_0 : decode cX8_truncateInput 0 = .ok (.aload_n 0, 1) := DX8_truncateInput_0 (0, .aload_n 0, 1) (List.mem_of_getElem? (i := 0) rfl)
theorem dX8_truncateInput_1 : decode cX8_truncateInput 1 = .ok (.iconst 0, 1) := DX8_truncateInput_0 (1, .iconst 0, 1) (List.mem_of_getElem? (i := 1) rfl)
theorem dX8_truncateInput_2 : decode cX8_truncateInput 2 = .ok (.putfield 65, 3) := DX8_truncateInput_0 (2, .putfield 65, 3) (List.mem_of_getElem? (i := 2) rfl)
theorem dX8_truncateInput_5 : decode cX8_truncateInput 5 = .ok (.iload_n 1, 1) := DX8_truncateInput_0 (5, .iload_n 1, 1) (List.mem_of_getElem? (i := 3) rfl)
theorem dX8_truncateInput_6 : decode cX8_truncateInput 6 = .ok (.iconst 0, 1) := DX8_truncateInput_0 (6, .iconst 0, 1) (List.mem_of_getElem? (i := 4) rfl)
theorem dX8_truncateInput_7 : decode cX8_truncateInput 7 = .ok (.aload_n 0, 1) := DX8_truncateInput_0 (7, .aload_n 0, 1) (List.mem_of_getElem? (i := 5) rfl)
theorem dX8_truncateInput_8 : decode cX8_truncateInput 8 = .ok (.getfield 127, 3) := DX8_truncateInput_0 (8, .getfield 127, 3) (List.mem_of_getElem? (i := 6) rfl)
theorem dX8_truncateInput_11 : decode cX8_truncateInput 11 = .ok (.invokestatic 79, 3) := DX8_truncateInput_0 (11, .invokestatic 79, 3) (List.mem_of_getElem? (i := 7) rfl)
theorem dX8_truncateInput_14 : decode cX8_truncateInput 14 = .ok (.ifCond .ne 5, 3) := DX8_truncateInput_0 (14, .ifCond .ne 5, 3) (List.mem_of_getElem? (i := 8) rfl)
theorem dX8_truncateInput_17 : decode cX8_truncateInput 17 = .ok (.iconst 0, 1) := DX8_truncateInput_0 (17, .iconst 0, 1) (List.mem_of_getElem? (i := 9) rfl)
theorem dX8_truncateInput_18 : decode cX8_truncateInput 18 = .ok (.ireturn, 1) := DX8_truncateInput_0 (18, .ireturn, 1) (List.mem_of_getElem? (i := 10) rfl)
theorem dX8_truncateInput_19 : decode cX8_truncateInput 19 = .ok (.aload_n 0, 1) := DX8_truncateInput_0 (19, .aload_n 0, 1) (List.mem_of_getElem? (i := 11) rfl)
theorem dX8_truncateInput_20 : decode cX8_truncateInput 20 = .ok (.iload_n 1, 1) := DX8_truncateInput_0 (20, .iload_n 1, 1) (List.mem_of_getElem? (i := 12) rfl)
theorem dX8_truncateInput_21 : decode cX8_truncateInput 21 = .ok (.putfield 127, 3) := DX8_truncateInput_0 (21, .putfield 127, 3) (List.mem_of_getElem? (i := 13) rfl)
theorem dX8_truncateInput_24 : decode cX8_truncateInput 24 = .ok (.iconst 1, 1) := DX8_truncateInput_0 (24, .iconst 1, 1) (List.mem_of_getElem? (i := 14) rfl)
theorem dX8_truncateInput_25 : decode cX8_truncateInput 25 = .ok (.ireturn, 1) := DX8_truncateInput_0 (25, .ireturn, 1) (List.mem_of_getElem? (i := 15) rfl)
abbrev rmX8_truncateInput : Room := { frames := 1, cells := 0, slots := 0, locals := 22 }
set_option maxHeartbeats 400000 in
set_option maxRecDepth 100000 in
theorem met_X8_truncateInput (l : Launch) (D : va_G) (kA : Nat → ClassId) (a : Nat → Nat) (V0 : Sz) (x1 : Int) (hDt : ∀ w : Sz, va_D (fun _ => True) (cs_X8 kA a w)) {r : Bool} {Vr : Sz} (hf : f_X8_truncateInput V0 x1 = some (r, Vr)) : MZ l yX8_truncateInput cX8_truncateInput 2 (some .boolean) rmX8_truncateInput D kA [.ref (a 0), vI x1] (cs_X8 kA a V0) (cs_X8 kA a Vr) (some (vI (bI r))) := by
  refine zZZ (own := RX8) rfl rfl (Nat.le_of_ble_eq_true rfl) ?_
  intro p e s m args below meth c ls Q hC hK hP hl hret
  have hl : lv_has ls 2 [(0, .ref (a 0)), (1, vI x1)] := hl
  have hS : va_S (zF (cs_X8 kA a V0)) s.heap s.heap [] := va_S.rf
  have hD := zDself (C := fun w : Sz => (cs_X8 kA a w)) hDt V0 (fun _ => rfl)
  try dsimp only at hD
  generalize hAe : zF (cs_X8 kA a V0) = A0 at hS hD hret
  unfold f_X8_truncateInput at hf
  refine lv_aload_n hC.1 hC.2.1 dX8_truncateInput_0 rfl (lv_at hl 0 rfl) <| ziconst hC.1 hC.2.1 dX8_truncateInput_1 <| ?_
  refine pfX8_65 hC hK hP (hD V0) hS (q0 := 0) rfl (Nat.le_of_ble_eq_true rfl) dX8_truncateInput_2 (fun H locs hP hS => ?_)
  obtain ⟨V_1, eV_1⟩ : ∃ y, y = us V0 9 0 := ⟨_, rfl⟩
  have hf := nm_at hf eV_1
  have hP : va_P D vwCl (cs_X8 kA a V_1) H := by rw [eV_1]; exact hP
  refine ziload_n hC.1 hC.2.1 dX8_truncateInput_5 rfl (lv_at hl 1 rfl) <| ziconst hC.1 hC.2.1 dX8_truncateInput_6 <| lv_aload_n hC.1 hC.2.1 dX8_truncateInput_7 rfl (lv_at hl 0 rfl) <| gfX8_127 hC hK hP (q0 := 0) rfl rfl dX8_truncateInput_8 <| ?_
  obtain ⟨r_2, hu, hf⟩ := bd_some hf
  have hPc : va_P D vwCl ([] : va_W) _ := hP.sub [] rfl
  refine zcSP (As := [vI x1, vI 0, vI (V_1 15 0)]) (rest := []) hC hK (met_X8_inRange l D kA x1 0 (V_1 15 0) hu) zwX8_79 hPc rfl hl.1 rfl (Nat.le_of_ble_eq_true rfl) ⟨Nat.le_of_ble_eq_true rfl, Nat.le_of_ble_eq_true rfl⟩ ⟨rfl, rfl⟩ ⟨Nat.le_refl _, Nat.le_refl _⟩ dX8_truncateInput_11 <| zifb_ne (tgt := 19) hC.1 hC.2.1 dX8_truncateInput_14 (by decide) (fun hc => ?_) (fun hc => ?_)
  · have hf := it_t hf hc
    refine lv_aload_n hC.1 hC.2.1 dX8_truncateInput_19 rfl (lv_at hl 0 rfl) <| ziload_n hC.1 hC.2.1 dX8_truncateInput_20 rfl (lv_at hl 1 rfl) <| ?_
    refine pfX8_127 hC hK hP (hD V_1) hS (q0 := 0) rfl (Nat.le_of_ble_eq_true rfl) dX8_truncateInput_21 (fun H locs hP hS => ?_)
    obtain ⟨V_3, eV_3⟩ : ∃ y, y = us V_1 15 x1 := ⟨_, rfl⟩
    have hf := nm_at hf eV_3
    have hP : va_P D vwCl (cs_X8 kA a V_3) H := by rw [eV_3]; exact hP
    refine ziconst hC.1 hC.2.1 dX8_truncateInput_24 <| ?_
    have hf := Option.some.inj hf
    simp only [Prod.mk.injEq] at hf
    exact hret (Int32.ofInt (bI true)) _ _ _ _ (zb01 _) (congrArg (fun z => some (vI (bI z))) hf.1.symm) (by rw [← hf.2]; exact hP) hS dX8_truncateInput_25
  · have hf := it_f hf hc
    refine ziconst hC.1 hC.2.1 dX8_truncateInput_17 <| ?_
    have hf := Option.some.inj hf
    simp only [Prod.mk.injEq] at hf
    exact hret (Int32.ofInt (bI false)) _ _ _ _ (zb01 _) (congrArg (fun z => some (vI (bI z))) hf.1.symm) (by rw [← hf.2]; exact hP) hS dX8_truncateInput_18
theorem DX8_byteAt_0 : ∀ q ∈ ([(0, .iload_n 1, 1), (1, .aload_n 0, 1), (2, .getfield 127, 3), (5, .if_icmp .ge 12, 3), (8, .aload_n 0, 1), (9, .getfield 43, 3), (12, .iload_n 1, 1), (13, .iaload, 1), (14, .goto 4, 3), (17, .iconst (-1), 1), (18, .ireturn, 1)] : List (Nat × Instr × Nat)), decode cX8_byteAt q.1 = .ok q.2 := by decide +kernel
theorem dX8_byteAt_0 : decode cX8_byteAt 0 = .ok (.iload_n 1, 1) := DX8_byteAt_0 (0, .iload_n 1, 1) (List.mem_of_getElem? (i := 0) rfl)
theorem dX8_byteAt_1 : decode cX8_byteAt 1 = .ok (.aload_n 0, 1) := DX8_byteAt_0 (1, .aload_n 0, 1) (List.mem_of_getElem? (i := 1) rfl)
theorem dX8_byteAt_2 : decode cX8_byteAt 2 = .ok (.getfield 127, 3) := DX8_byteAt_0 (2, .getfield 127, 3) (List.mem_of_getElem? (i := 2) rfl)
theorem dX8_byteAt_5 : decode cX8_byteAt 5 = .ok (.if_icmp .ge 12, 3) := DX8_byteAt_0 (5, .if_icmp .ge 12, 3) (List.mem_of_getElem? (i := 3) rfl)
theorem dX8_byteAt_8 : decode cX8_byteAt 8 = .ok (.aload_n 0, 1) := DX8_byteAt_0 (8, .aload_n 0, 1) (List.mem_of_getElem? (i := 4) rfl)
theorem dX8_byteAt_9 : decode cX8_byteAt 9 = .ok (.getfield 43, 3) := DX8_byteAt_0 (9, .getfield 43, 3) (List.mem_of_getElem? (i := 5) rfl)
theorem dX8_byteAt_12 : decode cX8_byteAt 12 = .ok (.iload_n 1, 1) := DX8_byteAt_0 (12, .iload_n 1, 1) (List.mem_of_getElem? (i := 6) rfl)
theorem dX8_byteAt_13 : decode cX8_byteAt 13 = .ok (.iaload, 1) := DX8_byteAt_0 (13, .iaload, 1) (List.mem_of_getElem? (i := 7) rfl)
theorem dX8_byteAt_14 : decode cX8_byteAt 14 = .ok (.goto 4, 3) := DX8_byteAt_0 (14, .goto 4, 3) (List.mem_of_getElem? (i := 8) rfl)
theorem dX8_byteAt_17 : decode cX8_byteAt 17 = .ok (.iconst (-1), 1) := DX8_byteAt_0 (17, .iconst (-1), 1) (List.mem_of_getElem? (i := 9) rfl)
theorem dX8_byteAt_18 : decode cX8_byteAt 18 = .ok (.ireturn, 1) := DX8_byteAt_0 (18, .ireturn, 1) (List.mem_of_getElem? (i := 10) rfl)
abbrev rmX8_byteAt : Room := { frames := 0, cells := 0, slots := 0, locals := 0 }
set_option maxHeartbeats 400000 in
set_option maxRecDepth 100000 in
theorem met_X8_byteAt (l : Launch) (D : va_G) (kA : Nat → ClassId) (a : Nat → Nat) (V : Sz) (x1 : Int) {r : Int} (hf : f_X8_byteAt V x1 = some r) : MP l yX8_byteAt cX8_byteAt 2 (some .int) rmX8_byteAt D kA [.ref (a 0), vI x1] (cs_X8 kA a V) (some (vI r)) := by
  refine zPI (own := RX8) rfl rfl (Nat.le_of_ble_eq_true rfl) ?_
  intro p e s m args below meth c ls Q hC hK hP hl hret
  have hl : lv_has ls 2 [(0, .ref (a 0)), (1, vI x1)] := hl
  unfold f_X8_byteAt at hf
  refine ziload_n hC.1 hC.2.1 dX8_byteAt_0 rfl (lv_at hl 1 rfl) <| lv_aload_n hC.1 hC.2.1 dX8_byteAt_1 rfl (lv_at hl 0 rfl) <| gfX8_127 hC hK hP (q0 := 0) rfl rfl dX8_byteAt_2 <| ?_
  obtain ⟨hz_1, hf⟩ := ck_some hf
  refine zicmp_ge (tgt := 17) hC.1 hC.2.1 ⟨hz_1.1, hz_1.2⟩ dX8_byteAt_5 (by decide) (fun hc => ?_) (fun hc => ?_)
  · have hf := it_t hf hc
    exact ziconst hC.1 hC.2.1 dX8_byteAt_17 <| hret (Int32.ofInt (-1)) _ _ (qI hf) dX8_byteAt_18
  · have hf := it_f hf hc
    refine lv_aload_n hC.1 hC.2.1 dX8_byteAt_8 rfl (lv_at hl 0 rfl) <| gfX8_43 hC hK hP (q0 := 0) rfl rfl dX8_byteAt_9 <| ziload_n hC.1 hC.2.1 dX8_byteAt_12 rfl (lv_at hl 1 rfl) <| ?_
    obtain ⟨hz_2, hf⟩ := ck_some hf
    exact jal hC hK hP (q0 := 12) rfl (Nat.le_of_ble_eq_true rfl) hz_2 rfl dX8_byteAt_13 <| lv_goto (tgt := 18) hC.1 hC.2.1 dX8_byteAt_14 (by decide) <| hret (Int32.ofInt (V 14 x1.toNat)) _ _ (qI hf) dX8_byteAt_18
theorem DX8_advanceToken_0 : ∀ q ∈ ([(0, .aload_n 0, 1), (1, .aload_n 0, 1), (2, .getfield 134, 3), (5, .invokevirtual 137, 3), (8, .bipush 32, 2), (10, .if_icmp .eq 16, 3), (13, .aload_n 0, 1), (14, .aload_n 0, 1), (15, .getfield 134, 3), (18, .invokevirtual 137, 3), (21, .bipush 10, 2), (23, .if_icmp .ne 16, 3), (26, .aload_n 0, 1), (27, .dup, 1), (28, .getfield 134, 3), (31, .iconst 1, 1), (32, .iadd, 1), (33, .putfield 134, 3), (36, .goto (-36), 3), (39, .aload_n 0, 1), (40, .aload_n 0, 1), (41, .getfield 134, 3), (44, .putfield 140, 3), (47, .aload_n 0, 1), (48, .aload_n 0, 1), (49, .getfield 134, 3), (52, .invokevirtual 137, 3), (55, .istore_n 1, 1), (56, .aload_n 0, 1), (57, .iconst 0, 1), (58, .putfield 143, 3), (61, .iload_n 1, 1), (62, .iconst (-1), 1), (63, .if_icmp .ne 11, 3), (66, .aload_n 0, 1), (67, .iconst 0, 1), (68, .putfield 146, 3), (71, .goto 159, 3), (74, .iload_n 1, 1), (75, .bipush 97, 2)] : List (Nat × Instr × Nat)), decode cX8_advanceToken q.1 = .ok q.2 := by decide +kernel
theorem dX8_advanceToken_0 : decode cX8_advanceToken 0 = .ok (.aload_n 0, 1) := DX8_advanceToken_0 (0, .aload_n 0, 1) (List.mem_of_getElem? (i := 0) rfl)
theorem dX8_advanceToken_1 : decode cX8_advanceToken 1 = .ok (.aload_n 0, 1) := DX8_advanceToken_0 (1, .aload_n 0, 1) (List.mem_of_getElem? (i := 1) rfl)
theorem dX8_advanceToken_2 : decode cX8_advanceToken 2 = .ok (.getfield 134, 3) := DX8_advanceToken_0 (2, .getfield 134, 3) (List.mem_of_getElem? (i := 2) rfl)
theorem dX8_advanceToken_5 : decode cX8_advanceToken 5 = .ok (.invokevirtual 137, 3) := DX8_advanceToken_0 (5, .invokevirtual 137, 3) (List.mem_of_getElem? (i := 3) rfl)
theorem dX8_advanceToken_8 : decode cX8_advanceToken 8 = .ok (.bipush 32, 2) := DX8_advanceToken_0 (8, .bipush 32, 2) (List.mem_of_getElem? (i := 4) rfl)
theorem dX8_advanceToken_10 : decode cX8_advanceToken 10 = .ok (.if_icmp .eq 16, 3) := DX8_advanceToken_0 (10, .if_icmp .eq 16, 3) (List.mem_of_getElem? (i := 5) rfl)
theorem dX8_advanceToken_13 : decode cX8_advanceToken 13 = .ok (.aload_n 0, 1) := DX8_advanceToken_0 (13, .aload_n 0, 1) (List.mem_of_getElem? (i := 6) rfl)
theorem dX8_advanceToken_14 : decode cX8_advanceToken 14 = .ok (.aload_n 0, 1) := DX8_advanceToken_0 (14, .aload_n 0, 1) (List.mem_of_getElem? (i := 7) rfl)
theorem dX8_advanceToken_15 : decode cX8_advanceToken 15 = .ok (.getfield 134, 3) := DX8_advanceToken_0 (15, .getfield 134, 3) (List.mem_of_getElem? (i := 8) rfl)
theorem dX8_advanceToken_18 : decode cX8_advanceToken 18 = .ok (.invokevirtual 137, 3) := DX8_advanceToken_0 (18, .invokevirtual 137, 3) (List.mem_of_getElem? (i := 9) rfl)
theorem dX8_advanceToken_21 : decode cX8_advanceToken 21 = .ok (.bipush 10, 2) := DX8_advanceToken_0 (21, .bipush 10, 2) (List.mem_of_getElem? (i := 10) rfl)
theorem dX8_advanceToken_23 : decode cX8_advanceToken 23 = .ok (.if_icmp .ne 16, 3) := DX8_advanceToken_0 (23, .if_icmp .ne 16, 3) (List.mem_of_getElem? (i := 11) rfl)
theorem dX8_advanceToken_26 : decode cX8_advanceToken 26 = .ok (.aload_n 0, 1) := DX8_advanceToken_0 (26, .aload_n 0, 1) (List.mem_of_getElem? (i := 12) rfl)
theorem dX8_advanceToken_27 : decode cX8_advanceToken 27 = .ok (.dup, 1) := DX8_advanceToken_0 (27, .dup, 1) (List.mem_of_getElem? (i := 13) rfl)
theorem dX8_advanceToken_28 : decode cX8_advanceToken 28 = .ok (.getfield 134, 3) := DX8_advanceToken_0 (28, .getfield 134, 3) (List.mem_of_getElem? (i := 14) rfl)
theorem dX8_advanceToken_31 : decode cX8_advanceToken 31 = .ok (.iconst 1, 1) := DX8_advanceToken_0 (31, .iconst 1, 1) (List.mem_of_getElem? (i := 15) rfl)
theorem dX8_advanceToken_32 : decode cX8_advanceToken 32 = .ok (.iadd, 1) := DX8_advanceToken_0 (32, .iadd, 1) (List.mem_of_getElem? (i := 16) rfl)
theorem dX8_advanceToken_33 : decode cX8_advanceToken 33 = .ok (.putfield 134, 3) := DX8_advanceToken_0 (33, .putfield 134, 3) (List.mem_of_getElem? (i := 17) rfl)
theorem dX8_advanceToken_36 : decode cX8_advanceToken 36 = .ok (.goto (-36), 3) := DX8_advanceToken_0 (36, .goto (-36), 3) (List.mem_of_getElem? (i := 18) rfl)
theorem dX8_advanceToken_39 : decode cX8_advanceToken 39 = .ok (.aload_n 0, 1) := DX8_advanceToken_0 (39, .aload_n 0, 1) (List.mem_of_getElem? (i := 19) rfl)
theorem dX8_advanceToken_40 : decode cX8_advanceToken 40 = .ok (.aload_n 0, 1) := DX8_advanceToken_0 (40, .aload_n 0, 1) (List.mem_of_getElem? (i := 20) rfl)
theorem dX8_advanceToken_41 : decode cX8_advanceToken 41 = .ok (.getfield 134, 3) := DX8_advanceToken_0 (41, .getfield 134, 3) (List.mem_of_getElem? (i := 21) rfl)
theorem dX8_advanceToken_44 : decode cX8_advanceToken 44 = .ok (.putfield 140, 3) := DX8_advanceToken_0 (44, .putfield 140, 3) (List.mem_of_getElem? (i := 22) rfl)
theorem dX8_advanceToken_47 : decode cX8_advanceToken 47 = .ok (.aload_n 0, 1) := DX8_advanceToken_0 (47, .aload_n 0, 1) (List.mem_of_getElem? (i := 23) rfl)
theorem dX8_advanceToken_48 : decode cX8_advanceToken 48 = .ok (.aload_n 0, 1) := DX8_advanceToken_0 (48, .aload_n 0, 1) (List.mem_of_getElem? (i := 24) rfl)
theorem dX8_advanceToken_49 : decode cX8_advanceToken 49 = .ok (.getfield 134, 3) := DX8_advanceToken_0 (49, .getfield 134, 3) (List.mem_of_getElem? (i := 25) rfl)
theorem dX8_advanceToken_52 : decode cX8_advanceToken 52 = .ok (.invokevirtual 137, 3) := DX8_advanceToken_0 (52, .invokevirtual 137, 3) (List.mem_of_getElem? (i := 26) rfl)
theorem dX8_advanceToken_55 : decode cX8_advanceToken 55 = .ok (.istore_n 1, 1) := DX8_advanceToken_0 (55, .istore_n 1, 1) (List.mem_of_getElem? (i := 27) rfl)
theorem dX8_advanceToken_56 : decode cX8_advanceToken 56 = .ok (.aload_n 0, 1) := DX8_advanceToken_0 (56, .aload_n 0, 1) (List.mem_of_getElem? (i := 28) rfl)
theorem dX8_advanceToken_57 : decode cX8_advanceToken 57 = .ok (.iconst 0, 1) := DX8_advanceToken_0 (57, .iconst 0, 1) (List.mem_of_getElem? (i := 29) rfl)
theorem dX8_advanceToken_58 : decode cX8_advanceToken 58 = .ok (.putfield 143, 3) := DX8_advanceToken_0 (58, .putfield 143, 3) (List.mem_of_getElem? (i := 30) rfl)
theorem dX8_advanceToken_61 : decode cX8_advanceToken 61 = .ok (.iload_n 1, 1) := DX8_advanceToken_0 (61, .iload_n 1, 1) (List.mem_of_getElem? (i := 31) rfl)
theorem dX8_advanceToken_62 : decode cX8_advanceToken 62 = .ok (.iconst (-1), 1) := DX8_advanceToken_0 (62, .iconst (-1), 1) (List.mem_of_getElem? (i := 32) rfl)
theorem dX8_advanceToken_63 : decode cX8_advanceToken 63 = .ok (.if_icmp .ne 11, 3) := DX8_advanceToken_0 (63, .if_icmp .ne 11, 3) (List.mem_of_getElem? (i := 33) rfl)
theorem dX8_advanceToken_66 : decode cX8_advanceToken 66 = .ok (.aload_n 0, 1) := DX8_advanceToken_0 (66, .aload_n 0, 1) (List.mem_of_getElem? (i := 34) rfl)
theorem dX8_advanceToken_67 : decode cX8_advanceToken 67 = .ok (.iconst 0, 1) := DX8_advanceToken_0 (67, .iconst 0, 1) (List.mem_of_getElem? (i := 35) rfl)
theorem dX8_advanceToken_68 : decode cX8_advanceToken 68 = .ok (.putfield 146, 3) := DX8_advanceToken_0 (68, .putfield 146, 3) (List.mem_of_getElem? (i := 36) rfl)
theorem dX8_advanceToken_71 : decode cX8_advanceToken 71 = .ok (.goto 159, 3) := DX8_advanceToken_0 (71, .goto 159, 3) (List.mem_of_getElem? (i := 37) rfl)
theorem dX8_advanceToken_74 : decode cX8_advanceToken 74 = .ok (.iload_n 1, 1) := DX8_advanceToken_0 (74, .iload_n 1, 1) (List.mem_of_getElem? (i := 38) rfl)
theorem dX8_advanceToken_75 : decode cX8_advanceToken 75 = .ok (.bipush 97, 2) := DX8_advanceToken_0 (75, .bipush 97, 2) (List.mem_of_getElem? (i := 39) rfl)
theorem DX8_advanceToken_1 : ∀ q ∈ ([(77, .bipush 122, 2), (79, .invokestatic 79, 3), (82, .ifCond .eq 39, 3), (85, .aload_n 0, 1), (86, .iconst 1, 1), (87, .putfield 146, 3), (90, .aload_n 0, 1), (91, .aload_n 0, 1), (92, .getfield 134, 3), (95, .invokevirtual 137, 3), (98, .bipush 97, 2), (100, .bipush 122, 2), (102, .invokestatic 79, 3), (105, .ifCond .eq 125, 3), (108, .aload_n 0, 1), (109, .dup, 1), (110, .getfield 134, 3), (113, .iconst 1, 1), (114, .iadd, 1), (115, .putfield 134, 3), (118, .goto (-28), 3), (121, .iload_n 1, 1), (122, .bipush 48, 2), (124, .bipush 57, 2), (126, .invokestatic 79, 3), (129, .ifCond .eq 76, 3), (132, .aload_n 0, 1), (133, .iconst 2, 1), (134, .putfield 146, 3), (137, .aload_n 0, 1), (138, .aload_n 0, 1), (139, .getfield 134, 3), (142, .invokevirtual 137, 3), (145, .bipush 48, 2), (147, .bipush 57, 2), (149, .invokestatic 79, 3), (152, .ifCond .eq 78, 3), (155, .aload_n 0, 1), (156, .getfield 134, 3), (159, .aload_n 0, 1)] : List (Nat × Instr × Nat)), decode cX8_advanceToken q.1 = .ok q.2 := by decide +kernel
theorem dX8_advanceToken_77 : decode cX8_advanceToken 77 = .ok (.bipush 122, 2) := DX8_advanceToken_1 (77, .bipush 122, 2) (List.mem_of_getElem? (i := 0) rfl)
theorem dX8_advanceToken_79 : decode cX8_advanceToken 79 = .ok (.invokestatic 79, 3) := DX8_advanceToken_1 (79, .invokestatic 79, 3) (List.mem_of_getElem? (i := 1) rfl)
theorem dX8_advanceToken_82 : decode cX8_advanceToken 82 = .ok (.ifCond .eq 39, 3) := DX8_advanceToken_1 (82, .ifCond .eq 39, 3) (List.mem_of_getElem? (i := 2) rfl)
theorem dX8_advanceToken_85 : decode cX8_advanceToken 85 = .ok (.aload_n 0, 1) := DX8_advanceToken_1 (85, .aload_n 0, 1) (List.mem_of_getElem? (i := 3) rfl)
theorem dX8_advanceToken_86 : decode cX8_advanceToken 86 = .ok (.iconst 1, 1) := DX8_advanceToken_1 (86, .iconst 1, 1) (List.mem_of_getElem? (i := 4) rfl)
theorem dX8_advanceToken_87 : decode cX8_advanceToken 87 = .ok (.putfield 146, 3) := DX8_advanceToken_1 (87, .putfield 146, 3) (List.mem_of_getElem? (i := 5) rfl)
theorem dX8_advanceToken_90 : decode cX8_advanceToken 90 = .ok (.aload_n 0, 1) := DX8_advanceToken_1 (90, .aload_n 0, 1) (List.mem_of_getElem? (i := 6) rfl)
theorem dX8_advanceToken_91 : decode cX8_advanceToken 91 = .ok (.aload_n 0, 1) := DX8_advanceToken_1 (91, .aload_n 0, 1) (List.mem_of_getElem? (i := 7) rfl)
theorem dX8_advanceToken_92 : decode cX8_advanceToken 92 = .ok (.getfield 134, 3) := DX8_advanceToken_1 (92, .getfield 134, 3) (List.mem_of_getElem? (i := 8) rfl)
theorem dX8_advanceToken_95 : decode cX8_advanceToken 95 = .ok (.invokevirtual 137, 3) := DX8_advanceToken_1 (95, .invokevirtual 137, 3) (List.mem_of_getElem? (i := 9) rfl)
theorem dX8_advanceToken_98 : decode cX8_advanceToken 98 = .ok (.bipush 97, 2) := DX8_advanceToken_1 (98, .bipush 97, 2) (List.mem_of_getElem? (i := 10) rfl)
theorem dX8_advanceToken_100 : decode cX8_advanceToken 100 = .ok (.bipush 122, 2) := DX8_advanceToken_1 (100, .bipush 122, 2) (List.mem_of_getElem? (i := 11) rfl)
theorem dX8_advanceToken_102 : decode cX8_advanceToken 102 = .ok (.invokestatic 79, 3) := DX8_advanceToken_1 (102, .invokestatic 79, 3) (List.mem_of_getElem? (i := 12) rfl)
theorem dX8_advanceToken_105 : decode cX8_advanceToken 105 = .ok (.ifCond .eq 125, 3) := DX8_advanceToken_1 (105, .ifCond .eq 125, 3) (List.mem_of_getElem? (i := 13) rfl)
theorem dX8_advanceToken_108 : decode cX8_advanceToken 108 = .ok (.aload_n 0, 1) := DX8_advanceToken_1 (108, .aload_n 0, 1) (List.mem_of_getElem? (i := 14) rfl)
theorem dX8_advanceToken_109 : decode cX8_advanceToken 109 = .ok (.dup, 1) := DX8_advanceToken_1 (109, .dup, 1) (List.mem_of_getElem? (i := 15) rfl)
theorem dX8_advanceToken_110 : decode cX8_advanceToken 110 = .ok (.getfield 134, 3) := DX8_advanceToken_1 (110, .getfield 134, 3) (List.mem_of_getElem? (i := 16) rfl)
theorem dX8_advanceToken_113 : decode cX8_advanceToken 113 = .ok (.iconst 1, 1) := DX8_advanceToken_1 (113, .iconst 1, 1) (List.mem_of_getElem? (i := 17) rfl)
theorem dX8_advanceToken_114 : decode cX8_advanceToken 114 = .ok (.iadd, 1) := DX8_advanceToken_1 (114, .iadd, 1) (List.mem_of_getElem? (i := 18) rfl)
theorem dX8_advanceToken_115 : decode cX8_advanceToken 115 = .ok (.putfield 134, 3) := DX8_advanceToken_1 (115, .putfield 134, 3) (List.mem_of_getElem? (i := 19) rfl)
theorem dX8_advanceToken_118 : decode cX8_advanceToken 118 = .ok (.goto (-28), 3) := DX8_advanceToken_1 (118, .goto (-28), 3) (List.mem_of_getElem? (i := 20) rfl)
theorem dX8_advanceToken_121 : decode cX8_advanceToken 121 = .ok (.iload_n 1, 1) := DX8_advanceToken_1 (121, .iload_n 1, 1) (List.mem_of_getElem? (i := 21) rfl)
theorem dX8_advanceToken_122 : decode cX8_advanceToken 122 = .ok (.bipush 48, 2) := DX8_advanceToken_1 (122, .bipush 48, 2) (List.mem_of_getElem? (i := 22) rfl)
theorem dX8_advanceToken_124 : decode cX8_advanceToken 124 = .ok (.bipush 57, 2) := DX8_advanceToken_1 (124, .bipush 57, 2) (List.mem_of_getElem? (i := 23) rfl)
theorem dX8_advanceToken_126 : decode cX8_advanceToken 126 = .ok (.invokestatic 79, 3) := DX8_advanceToken_1 (126, .invokestatic 79, 3) (List.mem_of_getElem? (i := 24) rfl)
theorem dX8_advanceToken_129 : decode cX8_advanceToken 129 = .ok (.ifCond .eq 76, 3) := DX8_advanceToken_1 (129, .ifCond .eq 76, 3) (List.mem_of_getElem? (i := 25) rfl)
theorem dX8_advanceToken_132 : decode cX8_advanceToken 132 = .ok (.aload_n 0, 1) := DX8_advanceToken_1 (132, .aload_n 0, 1) (List.mem_of_getElem? (i := 26) rfl)
theorem dX8_advanceToken_133 : decode cX8_advanceToken 133 = .ok (.iconst 2, 1) := DX8_advanceToken_1 (133, .iconst 2, 1) (List.mem_of_getElem? (i := 27) rfl)
theorem dX8_advanceToken_134 : decode cX8_advanceToken 134 = .ok (.putfield 146, 3) := DX8_advanceToken_1 (134, .putfield 146, 3) (List.mem_of_getElem? (i := 28) rfl)
theorem dX8_advanceToken_137 : decode cX8_advanceToken 137 = .ok (.aload_n 0, 1) := DX8_advanceToken_1 (137, .aload_n 0, 1) (List.mem_of_getElem? (i := 29) rfl)
theorem dX8_advanceToken_138 : decode cX8_advanceToken 138 = .ok (.aload_n 0, 1) := DX8_advanceToken_1 (138, .aload_n 0, 1) (List.mem_of_getElem? (i := 30) rfl)
theorem dX8_advanceToken_139 : decode cX8_advanceToken 139 = .ok (.getfield 134, 3) := DX8_advanceToken_1 (139, .getfield 134, 3) (List.mem_of_getElem? (i := 31) rfl)
theorem dX8_advanceToken_142 : decode cX8_advanceToken 142 = .ok (.invokevirtual 137, 3) := DX8_advanceToken_1 (142, .invokevirtual 137, 3) (List.mem_of_getElem? (i := 32) rfl)
theorem dX8_advanceToken_145 : decode cX8_advanceToken 145 = .ok (.bipush 48, 2) := DX8_advanceToken_1 (145, .bipush 48, 2) (List.mem_of_getElem? (i := 33) rfl)
theorem dX8_advanceToken_147 : decode cX8_advanceToken 147 = .ok (.bipush 57, 2) := DX8_advanceToken_1 (147, .bipush 57, 2) (List.mem_of_getElem? (i := 34) rfl)
theorem dX8_advanceToken_149 : decode cX8_advanceToken 149 = .ok (.invokestatic 79, 3) := DX8_advanceToken_1 (149, .invokestatic 79, 3) (List.mem_of_getElem? (i := 35) rfl)
theorem dX8_advanceToken_152 : decode cX8_advanceToken 152 = .ok (.ifCond .eq 78, 3) := DX8_advanceToken_1 (152, .ifCond .eq 78, 3) (List.mem_of_getElem? (i := 36) rfl)
theorem dX8_advanceToken_155 : decode cX8_advanceToken 155 = .ok (.aload_n 0, 1) := DX8_advanceToken_1 (155, .aload_n 0, 1) (List.mem_of_getElem? (i := 37) rfl)
theorem dX8_advanceToken_156 : decode cX8_advanceToken 156 = .ok (.getfield 134, 3) := DX8_advanceToken_1 (156, .getfield 134, 3) (List.mem_of_getElem? (i := 38) rfl)
theorem dX8_advanceToken_159 : decode cX8_advanceToken 159 = .ok (.aload_n 0, 1) := DX8_advanceToken_1 (159, .aload_n 0, 1) (List.mem_of_getElem? (i := 39) rfl)
theorem DX8_advanceToken_2 : ∀ q ∈ ([(160, .getfield 140, 3), (163, .isub, 1), (164, .bipush 6, 2), (166, .if_icmp .ge 26, 3), (169, .aload_n 0, 1), (170, .bipush 10, 2), (172, .aload_n 0, 1), (173, .getfield 143, 3), (176, .imul, 1), (177, .aload_n 0, 1), (178, .aload_n 0, 1), (179, .getfield 134, 3), (182, .invokevirtual 137, 3), (185, .iadd, 1), (186, .bipush 48, 2), (188, .isub, 1), (189, .putfield 143, 3), (192, .aload_n 0, 1), (193, .dup, 1), (194, .getfield 134, 3), (197, .iconst 1, 1), (198, .iadd, 1), (199, .putfield 134, 3), (202, .goto (-65), 3), (205, .aload_n 0, 1), (206, .iload_n 1, 1), (207, .bipush 59, 2), (209, .if_icmp .ne 7, 3), (212, .iconst 3, 1), (213, .goto 4, 3), (216, .iconst 4, 1), (217, .putfield 146, 3), (220, .aload_n 0, 1), (221, .dup, 1), (222, .getfield 134, 3), (225, .iconst 1, 1), (226, .iadd, 1), (227, .putfield 134, 3), (230, .return_, 1)] : List (Nat × Instr × Nat)), decode cX8_advanceToken q.1 = .ok q.2 := by decide +kernel
theorem dX8_advanceToken_160 : decode cX8_advanceToken 160 = .ok (.getfield 140, 3) := DX8_advanceToken_2 (160, .getfield 140, 3) (List.mem_of_getElem? (i := 0) rfl)
theorem dX8_advanceToken_163 : decode cX8_advanceToken 163 = .ok (.isub, 1) := DX8_advanceToken_2 (163, .isub, 1) (List.mem_of_getElem? (i := 1) rfl)
theorem dX8_advanceToken_164 : decode cX8_advanceToken 164 = .ok (.bipush 6, 2) := DX8_advanceToken_2 (164, .bipush 6, 2) (List.mem_of_getElem? (i := 2) rfl)
theorem dX8_advanceToken_166 : decode cX8_advanceToken 166 = .ok (.if_icmp .ge 26, 3) := DX8_advanceToken_2 (166, .if_icmp .ge 26, 3) (List.mem_of_getElem? (i := 3) rfl)
theorem dX8_advanceToken_169 : decode cX8_advanceToken 169 = .ok (.aload_n 0, 1) := DX8_advanceToken_2 (169, .aload_n 0, 1) (List.mem_of_getElem? (i := 4) rfl)
theorem dX8_advanceToken_170 : decode cX8_advanceToken 170 = .ok (.bipush 10, 2) := DX8_advanceToken_2 (170, .bipush 10, 2) (List.mem_of_getElem? (i := 5) rfl)
theorem dX8_advanceToken_172 : decode cX8_advanceToken 172 = .ok (.aload_n 0, 1) := DX8_advanceToken_2 (172, .aload_n 0, 1) (List.mem_of_getElem? (i := 6) rfl)
theorem dX8_advanceToken_173 : decode cX8_advanceToken 173 = .ok (.getfield 143, 3) := DX8_advanceToken_2 (173, .getfield 143, 3) (List.mem_of_getElem? (i := 7) rfl)
theorem dX8_advanceToken_176 : decode cX8_advanceToken 176 = .ok (.imul, 1) := DX8_advanceToken_2 (176, .imul, 1) (List.mem_of_getElem? (i := 8) rfl)
theorem dX8_advanceToken_177 : decode cX8_advanceToken 177 = .ok (.aload_n 0, 1) := DX8_advanceToken_2 (177, .aload_n 0, 1) (List.mem_of_getElem? (i := 9) rfl)
theorem dX8_advanceToken_178 : decode cX8_advanceToken 178 = .ok (.aload_n 0, 1) := DX8_advanceToken_2 (178, .aload_n 0, 1) (List.mem_of_getElem? (i := 10) rfl)
theorem dX8_advanceToken_179 : decode cX8_advanceToken 179 = .ok (.getfield 134, 3) := DX8_advanceToken_2 (179, .getfield 134, 3) (List.mem_of_getElem? (i := 11) rfl)
theorem dX8_advanceToken_182 : decode cX8_advanceToken 182 = .ok (.invokevirtual 137, 3) := DX8_advanceToken_2 (182, .invokevirtual 137, 3) (List.mem_of_getElem? (i := 12) rfl)
theorem dX8_advanceToken_185 : decode cX8_advanceToken 185 = .ok (.iadd, 1) := DX8_advanceToken_2 (185, .iadd, 1) (List.mem_of_getElem? (i := 13) rfl)
theorem dX8_advanceToken_186 : decode cX8_advanceToken 186 = .ok (.bipush 48, 2) := DX8_advanceToken_2 (186, .bipush 48, 2) (List.mem_of_getElem? (i := 14) rfl)
theorem dX8_advanceToken_188 : decode cX8_advanceToken 188 = .ok (.isub, 1) := DX8_advanceToken_2 (188, .isub, 1) (List.mem_of_getElem? (i := 15) rfl)
theorem dX8_advanceToken_189 : decode cX8_advanceToken 189 = .ok (.putfield 143, 3) := DX8_advanceToken_2 (189, .putfield 143, 3) (List.mem_of_getElem? (i := 16) rfl)
theorem dX8_advanceToken_192 : decode cX8_advanceToken 192 = .ok (.aload_n 0, 1) := DX8_advanceToken_2 (192, .aload_n 0, 1) (List.mem_of_getElem? (i := 17) rfl)
theorem dX8_advanceToken_193 : decode cX8_advanceToken 193 = .ok (.dup, 1) := DX8_advanceToken_2 (193, .dup, 1) (List.mem_of_getElem? (i := 18) rfl)
theorem dX8_advanceToken_194 : decode cX8_advanceToken 194 = .ok (.getfield 134, 3) := DX8_advanceToken_2 (194, .getfield 134, 3) (List.mem_of_getElem? (i := 19) rfl)
theorem dX8_advanceToken_197 : decode cX8_advanceToken 197 = .ok (.iconst 1, 1) := DX8_advanceToken_2 (197, .iconst 1, 1) (List.mem_of_getElem? (i := 20) rfl)
theorem dX8_advanceToken_198 : decode cX8_advanceToken 198 = .ok (.iadd, 1) := DX8_advanceToken_2 (198, .iadd, 1) (List.mem_of_getElem? (i := 21) rfl)
theorem dX8_advanceToken_199 : decode cX8_advanceToken 199 = .ok (.putfield 134, 3) := DX8_advanceToken_2 (199, .putfield 134, 3) (List.mem_of_getElem? (i := 22) rfl)
theorem dX8_advanceToken_202 : decode cX8_advanceToken 202 = .ok (.goto (-65), 3) := DX8_advanceToken_2 (202, .goto (-65), 3) (List.mem_of_getElem? (i := 23) rfl)
theorem dX8_advanceToken_205 : decode cX8_advanceToken 205 = .ok (.aload_n 0, 1) := DX8_advanceToken_2 (205, .aload_n 0, 1) (List.mem_of_getElem? (i := 24) rfl)
theorem dX8_advanceToken_206 : decode cX8_advanceToken 206 = .ok (.iload_n 1, 1) := DX8_advanceToken_2 (206, .iload_n 1, 1) (List.mem_of_getElem? (i := 25) rfl)
theorem dX8_advanceToken_207 : decode cX8_advanceToken 207 = .ok (.bipush 59, 2) := DX8_advanceToken_2 (207, .bipush 59, 2) (List.mem_of_getElem? (i := 26) rfl)
theorem dX8_advanceToken_209 : decode cX8_advanceToken 209 = .ok (.if_icmp .ne 7, 3) := DX8_advanceToken_2 (209, .if_icmp .ne 7, 3) (List.mem_of_getElem? (i := 27) rfl)
theorem dX8_advanceToken_212 : decode cX8_advanceToken 212 = .ok (.iconst 3, 1) := DX8_advanceToken_2 (212, .iconst 3, 1) (List.mem_of_getElem? (i := 28) rfl)
theorem dX8_advanceToken_213 : decode cX8_advanceToken 213 = .ok (.goto 4, 3) := DX8_advanceToken_2 (213, .goto 4, 3) (List.mem_of_getElem? (i := 29) rfl)
theorem dX8_advanceToken_216 : decode cX8_advanceToken 216 = .ok (.iconst 4, 1) := DX8_advanceToken_2 (216, .iconst 4, 1) (List.mem_of_getElem? (i := 30) rfl)
theorem dX8_advanceToken_217 : decode cX8_advanceToken 217 = .ok (.putfield 146, 3) := DX8_advanceToken_2 (217, .putfield 146, 3) (List.mem_of_getElem? (i := 31) rfl)
theorem dX8_advanceToken_220 : decode cX8_advanceToken 220 = .ok (.aload_n 0, 1) := DX8_advanceToken_2 (220, .aload_n 0, 1) (List.mem_of_getElem? (i := 32) rfl)
theorem dX8_advanceToken_221 : decode cX8_advanceToken 221 = .ok (.dup, 1) := DX8_advanceToken_2 (221, .dup, 1) (List.mem_of_getElem? (i := 33) rfl)
theorem dX8_advanceToken_222 : decode cX8_advanceToken 222 = .ok (.getfield 134, 3) := DX8_advanceToken_2 (222, .getfield 134, 3) (List.mem_of_getElem? (i := 34) rfl)
theorem dX8_advanceToken_225 : decode cX8_advanceToken 225 = .ok (.iconst 1, 1) := DX8_advanceToken_2 (225, .iconst 1, 1) (List.mem_of_getElem? (i := 35) rfl)
theorem dX8_advanceToken_226 : decode cX8_advanceToken 226 = .ok (.iadd, 1) := DX8_advanceToken_2 (226, .iadd, 1) (List.mem_of_getElem? (i := 36) rfl)
theorem dX8_advanceToken_227 : decode cX8_advanceToken 227 = .ok (.putfield 134, 3) := DX8_advanceToken_2 (227, .putfield 134, 3) (List.mem_of_getElem? (i := 37) rfl)
theorem dX8_advanceToken_230 : decode cX8_advanceToken 230 = .ok (.return_, 1) := DX8_advanceToken_2 (230, .return_, 1) (List.mem_of_getElem? (i := 38) rfl)
abbrev rmX8_advanceToken : Room := { frames := 1, cells := 0, slots := 0, locals := 22 }
set_option maxHeartbeats 400000 in
set_option maxRecDepth 100000 in
theorem met_X8_advanceToken (l : Launch) (D : va_G) (kA : Nat → ClassId) (a : Nat → Nat) (n : Nat) (V0 : Sz) (hDt : ∀ w : Sz, va_D (fun _ => True) (cs_X8 kA a w)) {Vr : Sz} (hf : f_X8_advanceToken n V0 = some Vr) : MZ l yX8_advanceToken cX8_advanceToken 2 none rmX8_advanceToken D kA [.ref (a 0)] (cs_X8 kA a V0) (cs_X8 kA a Vr) (none) := by
  refine zZV (own := RX8) rfl rfl (Nat.le_of_ble_eq_true rfl) ?_
  intro p e s m args below meth c ls Q hC hK hP hl hret
  have hl : lv_has ls 2 [(0, .ref (a 0))] := hl
  have hS : va_S (zF (cs_X8 kA a V0)) s.heap s.heap [] := va_S.rf
  have hD := zDself (C := fun w : Sz => (cs_X8 kA a w)) hDt V0 (fun _ => rfl)
  try dsimp only at hD
  generalize hAe : zF (cs_X8 kA a V0) = A0 at hS hD hret
  unfold f_X8_advanceToken at hf
  have J217 : ∀ (V : Sz) (z0 : Int) (H : Heap) (locs : List Loc) (ls : Array Slot), jX8_advanceToken_217 n V z0 = some Vr → va_P D vwCl (cs_X8 kA a V) H → va_S A0 s.heap H locs → lv_has ls 2 [(0, .ref (a 0))] → W p l e rmX8_advanceToken s m args below meth c H locs 0 0 Q (F0 m 217 ls [vI z0, .ref (a 0)]) := by
    intro V z0 H locs ls hf hP hS hl
    unfold jX8_advanceToken_217 at hf
    refine pfX8_146 hC hK hP (hD V) hS (q0 := 0) rfl (Nat.le_of_ble_eq_true rfl) dX8_advanceToken_217 (fun H locs hP hS => ?_)
    obtain ⟨V_12, eV_12⟩ : ∃ y, y = us V 23 z0 := ⟨_, rfl⟩
    have hf := nm_at hf eV_12
    have hP : va_P D vwCl (cs_X8 kA a V_12) H := by rw [eV_12]; exact hP
    refine lv_aload_n hC.1 hC.2.1 dX8_advanceToken_220 rfl (lv_at hl 0 rfl) <| lv_dup hC.1 hC.2.1 dX8_advanceToken_221 rfl <| gfX8_134 hC hK hP (q0 := 0) rfl rfl dX8_advanceToken_222 <| ziconst hC.1 hC.2.1 dX8_advanceToken_225 <| ziadd hC.1 hC.2.1 dX8_advanceToken_226 <| ?_
    refine pfX8_134 hC hK hP (hD V_12) hS (q0 := 0) rfl (Nat.le_of_ble_eq_true rfl) dX8_advanceToken_227 (fun H locs hP hS => ?_)
    obtain ⟨V_13, eV_13⟩ : ∃ y, y = us V_12 20 ((V_12 20 0) + 1) := ⟨_, rfl⟩
    have hf := nm_at hf eV_13
    have hP : va_P D vwCl (cs_X8 kA a V_13) H := by rw [eV_13]; exact hP
    have hf := Option.some.inj hf
    exact hret _ _ _ _ rfl (by rw [← hf]; exact hP) hS dX8_advanceToken_230
  have L137 : ∀ (k137 : Nat) (V : Sz) (H : Heap) (locs : List Loc) (ls : Array Slot), lpF (bX8_advanceToken_137 n) k137 V = some Vr → va_P D vwCl (cs_X8 kA a V) H → va_S A0 s.heap H locs → lv_has ls 2 [(0, .ref (a 0))] → W p l e rmX8_advanceToken s m args below meth c H locs 0 0 Q (F0 m 137 ls []) := by
    intro k137
    induction k137 with
    | zero => intro V H locs ls hf hP hS hl; exact lp_0 hf
    | succ k137 ih137 =>
      intro V H locs ls hf hP hS hl
      have hf := lp_s hf
      rw [bX8_advanceToken_137_e] at hf
      have J192 : ∀ (V : Sz) (H : Heap) (locs : List Loc) (ls : Array Slot), jX8_advanceToken_192 n (lpF (bX8_advanceToken_137 n) k137) V = some Vr → va_P D vwCl (cs_X8 kA a V) H → va_S A0 s.heap H locs → lv_has ls 2 [(0, .ref (a 0))] → W p l e rmX8_advanceToken s m args below meth c H locs 0 0 Q (F0 m 192 ls []) := by
        intro V H locs ls hf hP hS hl
        unfold jX8_advanceToken_192 at hf
        refine lv_aload_n hC.1 hC.2.1 dX8_advanceToken_192 rfl (lv_at hl 0 rfl) <| lv_dup hC.1 hC.2.1 dX8_advanceToken_193 rfl <| gfX8_134 hC hK hP (q0 := 0) rfl rfl dX8_advanceToken_194 <| ziconst hC.1 hC.2.1 dX8_advanceToken_197 <| ziadd hC.1 hC.2.1 dX8_advanceToken_198 <| ?_
        refine pfX8_134 hC hK hP (hD V) hS (q0 := 0) rfl (Nat.le_of_ble_eq_true rfl) dX8_advanceToken_199 (fun H locs hP hS => ?_)
        obtain ⟨V_18, eV_18⟩ : ∃ y, y = us V 20 ((V 20 0) + 1) := ⟨_, rfl⟩
        have hf := nm_at hf eV_18
        have hP : va_P D vwCl (cs_X8 kA a V_18) H := by rw [eV_18]; exact hP
        exact lv_goto (tgt := 137) hC.1 hC.2.1 dX8_advanceToken_202 (by decide) <| ih137 _ _ _ _ hf hP hS (lv_sub hl [0] rfl)
      refine lv_aload_n hC.1 hC.2.1 dX8_advanceToken_137 rfl (lv_at hl 0 rfl) <| lv_aload_n hC.1 hC.2.1 dX8_advanceToken_138 rfl (lv_at hl 0 rfl) <| gfX8_134 hC hK hP (q0 := 0) rfl rfl dX8_advanceToken_139 <| ?_
      obtain ⟨r_15, hu, hf⟩ := bd_some hf
      refine zcVP (As := [vI (V 20 0)]) (rest := []) hC hK (met_X8_byteAt l D kA a V (V 20 0) hu) zwX8_137 hP (q0 := 0) rfl rfl rfl rfl hl.1 rfl (Nat.le_of_ble_eq_true rfl) ⟨Nat.le_of_ble_eq_true rfl, Nat.le_of_ble_eq_true rfl⟩ ⟨rfl, rfl⟩ ⟨Nat.le_refl _, Nat.le_refl _⟩ dX8_advanceToken_142 <| zbipush hC.1 hC.2.1 dX8_advanceToken_145 (by decide) <| zbipush hC.1 hC.2.1 dX8_advanceToken_147 (by decide) <| ?_
      obtain ⟨r_16, hu, hf⟩ := bd_some hf
      have hPc : va_P D vwCl ([] : va_W) _ := hP.sub [] rfl
      refine zcSP (As := [vI r_15, vI 48, vI 57]) (rest := []) hC hK (met_X8_inRange l D kA r_15 48 57 hu) zwX8_79 hPc rfl hl.1 rfl (Nat.le_of_ble_eq_true rfl) ⟨Nat.le_of_ble_eq_true rfl, Nat.le_of_ble_eq_true rfl⟩ ⟨rfl, rfl⟩ ⟨Nat.le_refl _, Nat.le_refl _⟩ dX8_advanceToken_149 <| zifb_eq (tgt := 230) hC.1 hC.2.1 dX8_advanceToken_152 (by decide) (fun hc => ?_) (fun hc => ?_)
      · have hf := it_t hf hc
        have hf := Option.some.inj hf
        exact hret _ _ _ _ rfl (by rw [← hf]; exact hP) hS dX8_advanceToken_230
      · have hf := it_f hf hc
        refine lv_aload_n hC.1 hC.2.1 dX8_advanceToken_155 rfl (lv_at hl 0 rfl) <| gfX8_134 hC hK hP (q0 := 0) rfl rfl dX8_advanceToken_156 <| lv_aload_n hC.1 hC.2.1 dX8_advanceToken_159 rfl (lv_at hl 0 rfl) <| gfX8_140 hC hK hP (q0 := 0) rfl rfl dX8_advanceToken_160 <| zisub hC.1 hC.2.1 dX8_advanceToken_163 <| zbipush hC.1 hC.2.1 dX8_advanceToken_164 (by decide) <| ?_
        obtain ⟨hz_17, hf⟩ := ck_some hf
        refine zicmp_ge (tgt := 192) hC.1 hC.2.1 ⟨hz_17, (by decide)⟩ dX8_advanceToken_166 (by decide) (fun hc => ?_) (fun hc => ?_)
        · have hf := it_t hf hc
          exact J192 _ _ _ _ hf hP hS (lv_sub hl [0] rfl)
        · have hf := it_f hf hc
          refine lv_aload_n hC.1 hC.2.1 dX8_advanceToken_169 rfl (lv_at hl 0 rfl) <| zbipush hC.1 hC.2.1 dX8_advanceToken_170 (by decide) <| lv_aload_n hC.1 hC.2.1 dX8_advanceToken_172 rfl (lv_at hl 0 rfl) <| gfX8_143 hC hK hP (q0 := 0) rfl rfl dX8_advanceToken_173 <| zimul hC.1 hC.2.1 dX8_advanceToken_176 <| lv_aload_n hC.1 hC.2.1 dX8_advanceToken_177 rfl (lv_at hl 0 rfl) <| lv_aload_n hC.1 hC.2.1 dX8_advanceToken_178 rfl (lv_at hl 0 rfl) <| gfX8_134 hC hK hP (q0 := 0) rfl rfl dX8_advanceToken_179 <| ?_
          obtain ⟨r_19, hu, hf⟩ := bd_some hf
          refine zcVP (As := [vI (V 20 0)]) (rest := [vI (10 * (V 22 0)), .ref (a 0)]) hC hK (met_X8_byteAt l D kA a V (V 20 0) hu) zwX8_137 hP (q0 := 0) rfl rfl rfl rfl hl.1 rfl (Nat.le_of_ble_eq_true rfl) ⟨Nat.le_of_ble_eq_true rfl, Nat.le_of_ble_eq_true rfl⟩ ⟨rfl, rfl⟩ ⟨Nat.le_refl _, Nat.le_refl _⟩ dX8_advanceToken_182 <| ziadd hC.1 hC.2.1 dX8_advanceToken_185 <| zbipush hC.1 hC.2.1 dX8_advanceToken_186 (by decide) <| zisub hC.1 hC.2.1 dX8_advanceToken_188 <| ?_
          refine pfX8_143 hC hK hP (hD V) hS (q0 := 0) rfl (Nat.le_of_ble_eq_true rfl) dX8_advanceToken_189 (fun H locs hP hS => ?_)
          obtain ⟨V_20, eV_20⟩ : ∃ y, y = us V 22 (((10 * (V 22 0)) + r_19) - 48) := ⟨_, rfl⟩
          have hf := nm_at hf eV_20
          have hP : va_P D vwCl (cs_X8 kA a V_20) H := by rw [eV_20]; exact hP
          exact J192 _ _ _ _ hf hP hS (lv_sub hl [0] rfl)
  have L90 : ∀ (k90 : Nat) (V : Sz) (H : Heap) (locs : List Loc) (ls : Array Slot), lpF (bX8_advanceToken_90 n) k90 V = some Vr → va_P D vwCl (cs_X8 kA a V) H → va_S A0 s.heap H locs → lv_has ls 2 [(0, .ref (a 0))] → W p l e rmX8_advanceToken s m args below meth c H locs 0 0 Q (F0 m 90 ls []) := by
    intro k90
    induction k90 with
    | zero => intro V H locs ls hf hP hS hl; exact lp_0 hf
    | succ k90 ih90 =>
      intro V H locs ls hf hP hS hl
      have hf := lp_s hf
      rw [bX8_advanceToken_90_e] at hf
      refine lv_aload_n hC.1 hC.2.1 dX8_advanceToken_90 rfl (lv_at hl 0 rfl) <| lv_aload_n hC.1 hC.2.1 dX8_advanceToken_91 rfl (lv_at hl 0 rfl) <| gfX8_134 hC hK hP (q0 := 0) rfl rfl dX8_advanceToken_92 <| ?_
      obtain ⟨r_22, hu, hf⟩ := bd_some hf
      refine zcVP (As := [vI (V 20 0)]) (rest := []) hC hK (met_X8_byteAt l D kA a V (V 20 0) hu) zwX8_137 hP (q0 := 0) rfl rfl rfl rfl hl.1 rfl (Nat.le_of_ble_eq_true rfl) ⟨Nat.le_of_ble_eq_true rfl, Nat.le_of_ble_eq_true rfl⟩ ⟨rfl, rfl⟩ ⟨Nat.le_refl _, Nat.le_refl _⟩ dX8_advanceToken_95 <| zbipush hC.1 hC.2.1 dX8_advanceToken_98 (by decide) <| zbipush hC.1 hC.2.1 dX8_advanceToken_100 (by decide) <| ?_
      obtain ⟨r_23, hu, hf⟩ := bd_some hf
      have hPc : va_P D vwCl ([] : va_W) _ := hP.sub [] rfl
      refine zcSP (As := [vI r_22, vI 97, vI 122]) (rest := []) hC hK (met_X8_inRange l D kA r_22 97 122 hu) zwX8_79 hPc rfl hl.1 rfl (Nat.le_of_ble_eq_true rfl) ⟨Nat.le_of_ble_eq_true rfl, Nat.le_of_ble_eq_true rfl⟩ ⟨rfl, rfl⟩ ⟨Nat.le_refl _, Nat.le_refl _⟩ dX8_advanceToken_102 <| zifb_eq (tgt := 230) hC.1 hC.2.1 dX8_advanceToken_105 (by decide) (fun hc => ?_) (fun hc => ?_)
      · have hf := it_t hf hc
        have hf := Option.some.inj hf
        exact hret _ _ _ _ rfl (by rw [← hf]; exact hP) hS dX8_advanceToken_230
      · have hf := it_f hf hc
        refine lv_aload_n hC.1 hC.2.1 dX8_advanceToken_108 rfl (lv_at hl 0 rfl) <| lv_dup hC.1 hC.2.1 dX8_advanceToken_109 rfl <| gfX8_134 hC hK hP (q0 := 0) rfl rfl dX8_advanceToken_110 <| ziconst hC.1 hC.2.1 dX8_advanceToken_113 <| ziadd hC.1 hC.2.1 dX8_advanceToken_114 <| ?_
        refine pfX8_134 hC hK hP (hD V) hS (q0 := 0) rfl (Nat.le_of_ble_eq_true rfl) dX8_advanceToken_115 (fun H locs hP hS => ?_)
        obtain ⟨V_24, eV_24⟩ : ∃ y, y = us V 20 ((V 20 0) + 1) := ⟨_, rfl⟩
        have hf := nm_at hf eV_24
        have hP : va_P D vwCl (cs_X8 kA a V_24) H := by rw [eV_24]; exact hP
        exact lv_goto (tgt := 90) hC.1 hC.2.1 dX8_advanceToken_118 (by decide) <| ih90 _ _ _ _ hf hP hS (lv_sub hl [0] rfl)
  have L0 : ∀ (k0 : Nat) (V : Sz) (H : Heap) (locs : List Loc) (ls : Array Slot), lpF (bX8_advanceToken_0 n) k0 V = some Vr → va_P D vwCl (cs_X8 kA a V) H → va_S A0 s.heap H locs → lv_has ls 2 [(0, .ref (a 0))] → W p l e rmX8_advanceToken s m args below meth c H locs 0 0 Q (F0 m 0 ls []) := by
    intro k0
    induction k0 with
    | zero => intro V H locs ls hf hP hS hl; exact lp_0 hf
    | succ k0 ih0 =>
      intro V H locs ls hf hP hS hl
      have hf := lp_s hf
      rw [bX8_advanceToken_0_e] at hf
      have J26 : ∀ (V : Sz) (H : Heap) (locs : List Loc) (ls : Array Slot), jX8_advanceToken_26 n (lpF (bX8_advanceToken_0 n) k0) V = some Vr → va_P D vwCl (cs_X8 kA a V) H → va_S A0 s.heap H locs → lv_has ls 2 [(0, .ref (a 0))] → W p l e rmX8_advanceToken s m args below meth c H locs 0 0 Q (F0 m 26 ls []) := by
        intro V H locs ls hf hP hS hl
        unfold jX8_advanceToken_26 at hf
        refine lv_aload_n hC.1 hC.2.1 dX8_advanceToken_26 rfl (lv_at hl 0 rfl) <| lv_dup hC.1 hC.2.1 dX8_advanceToken_27 rfl <| gfX8_134 hC hK hP (q0 := 0) rfl rfl dX8_advanceToken_28 <| ziconst hC.1 hC.2.1 dX8_advanceToken_31 <| ziadd hC.1 hC.2.1 dX8_advanceToken_32 <| ?_
        refine pfX8_134 hC hK hP (hD V) hS (q0 := 0) rfl (Nat.le_of_ble_eq_true rfl) dX8_advanceToken_33 (fun H locs hP hS => ?_)
        obtain ⟨V_3, eV_3⟩ : ∃ y, y = us V 20 ((V 20 0) + 1) := ⟨_, rfl⟩
        have hf := nm_at hf eV_3
        have hP : va_P D vwCl (cs_X8 kA a V_3) H := by rw [eV_3]; exact hP
        exact lv_goto (tgt := 0) hC.1 hC.2.1 dX8_advanceToken_36 (by decide) <| ih0 _ _ _ _ hf hP hS (lv_sub hl [0] rfl)
      refine lv_aload_n hC.1 hC.2.1 dX8_advanceToken_0 rfl (lv_at hl 0 rfl) <| lv_aload_n hC.1 hC.2.1 dX8_advanceToken_1 rfl (lv_at hl 0 rfl) <| gfX8_134 hC hK hP (q0 := 0) rfl rfl dX8_advanceToken_2 <| ?_
      obtain ⟨r_1, hu, hf⟩ := bd_some hf
      refine zcVP (As := [vI (V 20 0)]) (rest := []) hC hK (met_X8_byteAt l D kA a V (V 20 0) hu) zwX8_137 hP (q0 := 0) rfl rfl rfl rfl hl.1 rfl (Nat.le_of_ble_eq_true rfl) ⟨Nat.le_of_ble_eq_true rfl, Nat.le_of_ble_eq_true rfl⟩ ⟨rfl, rfl⟩ ⟨Nat.le_refl _, Nat.le_refl _⟩ dX8_advanceToken_5 <| zbipush hC.1 hC.2.1 dX8_advanceToken_8 (by decide) <| ?_
      obtain ⟨hz_2, hf⟩ := ck_some hf
      refine zicmp_eq (tgt := 26) hC.1 hC.2.1 ⟨hz_2, (by decide)⟩ dX8_advanceToken_10 (by decide) (fun hc => ?_) (fun hc => ?_)
      · have hf := it_t hf hc
        exact J26 _ _ _ _ hf hP hS (lv_sub hl [0] rfl)
      · have hf := it_f hf hc
        refine lv_aload_n hC.1 hC.2.1 dX8_advanceToken_13 rfl (lv_at hl 0 rfl) <| lv_aload_n hC.1 hC.2.1 dX8_advanceToken_14 rfl (lv_at hl 0 rfl) <| gfX8_134 hC hK hP (q0 := 0) rfl rfl dX8_advanceToken_15 <| ?_
        obtain ⟨r_4, hu, hf⟩ := bd_some hf
        refine zcVP (As := [vI (V 20 0)]) (rest := []) hC hK (met_X8_byteAt l D kA a V (V 20 0) hu) zwX8_137 hP (q0 := 0) rfl rfl rfl rfl hl.1 rfl (Nat.le_of_ble_eq_true rfl) ⟨Nat.le_of_ble_eq_true rfl, Nat.le_of_ble_eq_true rfl⟩ ⟨rfl, rfl⟩ ⟨Nat.le_refl _, Nat.le_refl _⟩ dX8_advanceToken_18 <| zbipush hC.1 hC.2.1 dX8_advanceToken_21 (by decide) <| ?_
        obtain ⟨hz_5, hf⟩ := ck_some hf
        refine zicmp_ne (tgt := 39) hC.1 hC.2.1 ⟨hz_5, (by decide)⟩ dX8_advanceToken_23 (by decide) (fun hc => ?_) (fun hc => ?_)
        · have hf := it_f hf hc
          refine lv_aload_n hC.1 hC.2.1 dX8_advanceToken_39 rfl (lv_at hl 0 rfl) <| lv_aload_n hC.1 hC.2.1 dX8_advanceToken_40 rfl (lv_at hl 0 rfl) <| gfX8_134 hC hK hP (q0 := 0) rfl rfl dX8_advanceToken_41 <| ?_
          refine pfX8_140 hC hK hP (hD V) hS (q0 := 0) rfl (Nat.le_of_ble_eq_true rfl) dX8_advanceToken_44 (fun H locs hP hS => ?_)
          obtain ⟨V_6, eV_6⟩ : ∃ y, y = us V 21 (V 20 0) := ⟨_, rfl⟩
          have hf := nm_at hf eV_6
          have hP : va_P D vwCl (cs_X8 kA a V_6) H := by rw [eV_6]; exact hP
          refine lv_aload_n hC.1 hC.2.1 dX8_advanceToken_47 rfl (lv_at hl 0 rfl) <| lv_aload_n hC.1 hC.2.1 dX8_advanceToken_48 rfl (lv_at hl 0 rfl) <| gfX8_134 hC hK hP (q0 := 0) rfl rfl dX8_advanceToken_49 <| ?_
          obtain ⟨r_7, hu, hf⟩ := bd_some hf
          refine zcVP (As := [vI (V_6 20 0)]) (rest := []) hC hK (met_X8_byteAt l D kA a V_6 (V_6 20 0) hu) zwX8_137 hP (q0 := 0) rfl rfl rfl rfl hl.1 rfl (Nat.le_of_ble_eq_true rfl) ⟨Nat.le_of_ble_eq_true rfl, Nat.le_of_ble_eq_true rfl⟩ ⟨rfl, rfl⟩ ⟨Nat.le_refl _, Nat.le_refl _⟩ dX8_advanceToken_52 <| zistore_n (lv' := [(1, vI r_7), (0, .ref (a 0))]) hC.1 hC.2.1 dX8_advanceToken_55 rfl hl (by decide) rfl (fun ls hl => ?_)
          refine lv_aload_n hC.1 hC.2.1 dX8_advanceToken_56 rfl (lv_at hl 1 rfl) <| ziconst hC.1 hC.2.1 dX8_advanceToken_57 <| ?_
          refine pfX8_143 hC hK hP (hD V_6) hS (q0 := 0) rfl (Nat.le_of_ble_eq_true rfl) dX8_advanceToken_58 (fun H locs hP hS => ?_)
          obtain ⟨V_8, eV_8⟩ : ∃ y, y = us V_6 22 0 := ⟨_, rfl⟩
          have hf := nm_at hf eV_8
          have hP : va_P D vwCl (cs_X8 kA a V_8) H := by rw [eV_8]; exact hP
          refine ziload_n hC.1 hC.2.1 dX8_advanceToken_61 rfl (lv_at hl 0 rfl) <| ziconst hC.1 hC.2.1 dX8_advanceToken_62 <| ?_
          obtain ⟨hz_9, hf⟩ := ck_some hf
          refine zicmp_ne (tgt := 74) hC.1 hC.2.1 ⟨hz_9, (by decide)⟩ dX8_advanceToken_63 (by decide) (fun hc => ?_) (fun hc => ?_)
          · have hf := it_f hf hc
            refine ziload_n hC.1 hC.2.1 dX8_advanceToken_74 rfl (lv_at hl 0 rfl) <| zbipush hC.1 hC.2.1 dX8_advanceToken_75 (by decide) <| zbipush hC.1 hC.2.1 dX8_advanceToken_77 (by decide) <| ?_
            obtain ⟨r_10, hu, hf⟩ := bd_some hf
            have hPc : va_P D vwCl ([] : va_W) _ := hP.sub [] rfl
            refine zcSP (As := [vI r_7, vI 97, vI 122]) (rest := []) hC hK (met_X8_inRange l D kA r_7 97 122 hu) zwX8_79 hPc rfl hl.1 rfl (Nat.le_of_ble_eq_true rfl) ⟨Nat.le_of_ble_eq_true rfl, Nat.le_of_ble_eq_true rfl⟩ ⟨rfl, rfl⟩ ⟨Nat.le_refl _, Nat.le_refl _⟩ dX8_advanceToken_79 <| zifb_eq (tgt := 121) hC.1 hC.2.1 dX8_advanceToken_82 (by decide) (fun hc => ?_) (fun hc => ?_)
            · have hf := it_t hf hc
              refine ziload_n hC.1 hC.2.1 dX8_advanceToken_121 rfl (lv_at hl 0 rfl) <| zbipush hC.1 hC.2.1 dX8_advanceToken_122 (by decide) <| zbipush hC.1 hC.2.1 dX8_advanceToken_124 (by decide) <| ?_
              obtain ⟨r_11, hu, hf⟩ := bd_some hf
              have hPc : va_P D vwCl ([] : va_W) _ := hP.sub [] rfl
              refine zcSP (As := [vI r_7, vI 48, vI 57]) (rest := []) hC hK (met_X8_inRange l D kA r_7 48 57 hu) zwX8_79 hPc rfl hl.1 rfl (Nat.le_of_ble_eq_true rfl) ⟨Nat.le_of_ble_eq_true rfl, Nat.le_of_ble_eq_true rfl⟩ ⟨rfl, rfl⟩ ⟨Nat.le_refl _, Nat.le_refl _⟩ dX8_advanceToken_126 <| zifb_eq (tgt := 205) hC.1 hC.2.1 dX8_advanceToken_129 (by decide) (fun hc => ?_) (fun hc => ?_)
              · have hf := it_t hf hc
                refine lv_aload_n hC.1 hC.2.1 dX8_advanceToken_205 rfl (lv_at hl 1 rfl) <| ziload_n hC.1 hC.2.1 dX8_advanceToken_206 rfl (lv_at hl 0 rfl) <| zbipush hC.1 hC.2.1 dX8_advanceToken_207 (by decide) <| zicmp_ne (tgt := 216) hC.1 hC.2.1 ⟨hz_9, (by decide)⟩ dX8_advanceToken_209 (by decide) (fun hc => ?_) (fun hc => ?_)
                · have hf := it_f hf hc
                  exact ziconst hC.1 hC.2.1 dX8_advanceToken_216 <| J217 _ _ _ _ _ hf hP hS (lv_sub hl [1] rfl)
                · have hf := it_t hf hc
                  exact ziconst hC.1 hC.2.1 dX8_advanceToken_212 <| lv_goto (tgt := 217) hC.1 hC.2.1 dX8_advanceToken_213 (by decide) <| J217 _ _ _ _ _ hf hP hS (lv_sub hl [1] rfl)
              · have hf := it_f hf hc
                refine lv_aload_n hC.1 hC.2.1 dX8_advanceToken_132 rfl (lv_at hl 1 rfl) <| ziconst hC.1 hC.2.1 dX8_advanceToken_133 <| ?_
                refine pfX8_146 hC hK hP (hD V_8) hS (q0 := 0) rfl (Nat.le_of_ble_eq_true rfl) dX8_advanceToken_134 (fun H locs hP hS => ?_)
                obtain ⟨V_14, eV_14⟩ : ∃ y, y = us V_8 23 2 := ⟨_, rfl⟩
                have hf := nm_at hf eV_14
                have hP : va_P D vwCl (cs_X8 kA a V_14) H := by rw [eV_14]; exact hP
                exact L137 n _ _ _ _ hf hP hS (lv_sub hl [1] rfl)
            · have hf := it_f hf hc
              refine lv_aload_n hC.1 hC.2.1 dX8_advanceToken_85 rfl (lv_at hl 1 rfl) <| ziconst hC.1 hC.2.1 dX8_advanceToken_86 <| ?_
              refine pfX8_146 hC hK hP (hD V_8) hS (q0 := 0) rfl (Nat.le_of_ble_eq_true rfl) dX8_advanceToken_87 (fun H locs hP hS => ?_)
              obtain ⟨V_21, eV_21⟩ : ∃ y, y = us V_8 23 1 := ⟨_, rfl⟩
              have hf := nm_at hf eV_21
              have hP : va_P D vwCl (cs_X8 kA a V_21) H := by rw [eV_21]; exact hP
              exact L90 n _ _ _ _ hf hP hS (lv_sub hl [1] rfl)
          · have hf := it_t hf hc
            refine lv_aload_n hC.1 hC.2.1 dX8_advanceToken_66 rfl (lv_at hl 1 rfl) <| ziconst hC.1 hC.2.1 dX8_advanceToken_67 <| ?_
            refine pfX8_146 hC hK hP (hD V_8) hS (q0 := 0) rfl (Nat.le_of_ble_eq_true rfl) dX8_advanceToken_68 (fun H locs hP hS => ?_)
            obtain ⟨V_25, eV_25⟩ : ∃ y, y = us V_8 23 0 := ⟨_, rfl⟩
            have hf := nm_at hf eV_25
            have hP : va_P D vwCl (cs_X8 kA a V_25) H := by rw [eV_25]; exact hP
            refine lv_goto (tgt := 230) hC.1 hC.2.1 dX8_advanceToken_71 (by decide) <| ?_
            have hf := Option.some.inj hf
            exact hret _ _ _ _ rfl (by rw [← hf]; exact hP) hS dX8_advanceToken_230
        · have hf := it_t hf hc
          exact J26 _ _ _ _ hf hP hS (lv_sub hl [0] rfl)
  exact L0 n _ _ _ _ hf hP hS (lv_sub hl [0] rfl)
theorem DX8_tokenLength_0 : ∀ q ∈ ([(0, .aload_n 0, 1), (1, .getfield 134, 3), (4, .aload_n 0, 1), (5, .getfield 140, 3), (8, .isub, 1), (9, .ireturn, 1)] : List (Nat × Instr × Nat)), decode cX8_tokenLength q.1 = .ok q.2 := by decide +kernel
theorem dX8_tokenLength_0 : decode cX8_tokenLength 0 = .ok (.aload_n 0, 1) := DX8_tokenLength_0 (0, .aload_n 0, 1) (List.mem_of_getElem? (i := 0) rfl)
theorem dX8_tokenLength_1 : decode cX8_tokenLength 1 = .ok (.getfield 134, 3) := DX8_tokenLength_0 (1, .getfield 134, 3) (List.mem_of_getElem? (i := 1) rfl)
theorem dX8_tokenLength_4 : decode cX8_tokenLength 4 = .ok (.aload_n 0, 1) := DX8_tokenLength_0 (4, .aload_n 0, 1) (List.mem_of_getElem? (i := 2) rfl)
theorem dX8_tokenLength_5 : decode cX8_tokenLength 5 = .ok (.getfield 140, 3) := DX8_tokenLength_0 (5, .getfield 140, 3) (List.mem_of_getElem? (i := 3) rfl)
theorem dX8_tokenLength_8 : decode cX8_tokenLength 8 = .ok (.isub, 1) := DX8_tokenLength_0 (8, .isub, 1) (List.mem_of_getElem? (i := 4) rfl)
theorem dX8_tokenLength_9 : decode cX8_tokenLength 9 = .ok (.ireturn, 1) := DX8_tokenLength_0 (9, .ireturn, 1) (List.mem_of_getElem? (i := 5) rfl)
abbrev rmX8_tokenLength : Room := { frames := 0, cells := 0, slots := 0, locals := 0 }
set_option maxHeartbeats 400000 in
set_option maxRecDepth 100000 in
theorem met_X8_tokenLength (l : Launch) (D : va_G) (kA : Nat → ClassId) (a : Nat → Nat) (V : Sz) {r : Int} (hf : f_X8_tokenLength V = some r) : MP l yX8_tokenLength cX8_tokenLength 1 (some .int) rmX8_tokenLength D kA [.ref (a 0)] (cs_X8 kA a V) (some (vI r)) := by
  refine zPI (own := RX8) rfl rfl (Nat.le_of_ble_eq_true rfl) ?_
  intro p e s m args below meth c ls Q hC hK hP hl hret
  have hl : lv_has ls 1 [(0, .ref (a 0))] := hl
  unfold f_X8_tokenLength at hf
  exact lv_aload_n hC.1 hC.2.1 dX8_tokenLength_0 rfl (lv_at hl 0 rfl) <| gfX8_134 hC hK hP (q0 := 0) rfl rfl dX8_tokenLength_1 <| lv_aload_n hC.1 hC.2.1 dX8_tokenLength_4 rfl (lv_at hl 0 rfl) <| gfX8_140 hC hK hP (q0 := 0) rfl rfl dX8_tokenLength_5 <| zisub hC.1 hC.2.1 dX8_tokenLength_8 <| hret (Int32.ofInt ((V 20 0) - (V 21 0))) _ _ (qI hf) dX8_tokenLength_9
theorem DX8_failsAt_0 : ∀ q ∈ ([(0, .aload_n 0, 1), (1, .getfield 149, 3), (4, .ifCond .ne 16, 3), (7, .aload_n 0, 1), (8, .iload_n 1, 1), (9, .putfield 149, 3), (12, .aload_n 0, 1), (13, .aload_n 0, 1), (14, .getfield 140, 3), (17, .putfield 152, 3), (20, .iconst 0, 1), (21, .ireturn, 1)] : List (Nat × Instr × Nat)), decode cX8_failsAt q.1 = .ok q.2 := by decide +kernel
theorem dX8_failsAt_0 : decode cX8_failsAt 0 = .ok (.aload_n 0, 1) := DX8_failsAt_0 (0, .aload_n 0, 1) (List.mem_of_getElem? (i := 0) rfl)
theorem dX8_failsAt_1 : decode cX8_failsAt 1 = .ok (.getfield 149, 3) := DX8_failsAt_0 (1, .getfield 149, 3) (List.mem_of_getElem? (i := 1) rfl)
theorem dX8_failsAt_4 : decode cX8_failsAt 4 = .ok (.ifCond .ne 16, 3) := DX8_failsAt_0 (4, .ifCond .ne 16, 3) (List.mem_of_getElem? (i := 2) rfl)
theorem dX8_failsAt_7 : decode cX8_failsAt 7 = .ok (.aload_n 0, 1) := DX8_failsAt_0 (7, .aload_n 0, 1) (List.mem_of_getElem? (i := 3) rfl)
theorem dX8_failsAt_8 : decode cX8_failsAt 8 = .ok (.iload_n 1, 1) := DX8_failsAt_0 (8, .iload_n 1, 1) (List.mem_of_getElem? (i := 4) rfl)
theorem dX8_failsAt_9 : decode cX8_failsAt 9 = .ok (.putfield 149, 3) := DX8_failsAt_0 (9, .putfield 149, 3) (List.mem_of_getElem? (i := 5) rfl)
theorem dX8_failsAt_12 : decode cX8_failsAt 12 = .ok (.aload_n 0, 1) := DX8_failsAt_0 (12, .aload_n 0, 1) (List.mem_of_getElem? (i := 6) rfl)
theorem dX8_failsAt_13 : decode cX8_failsAt 13 = .ok (.aload_n 0, 1) := DX8_failsAt_0 (13, .aload_n 0, 1) (List.mem_of_getElem? (i := 7) rfl)
theorem dX8_failsAt_14 : decode cX8_failsAt 14 = .ok (.getfield 140, 3) := DX8_failsAt_0 (14, .getfield 140, 3) (List.mem_of_getElem? (i := 8) rfl)
theorem dX8_failsAt_17 : decode cX8_failsAt 17 = .ok (.putfield 152, 3) := DX8_failsAt_0 (17, .putfield 152, 3) (List.mem_of_getElem? (i := 9) rfl)
theorem dX8_failsAt_20 : decode cX8_failsAt 20 = .ok (.iconst 0, 1) := DX8_failsAt_0 (20, .iconst 0, 1) (List.mem_of_getElem? (i := 10) rfl)
theorem dX8_failsAt_21 : decode cX8_failsAt 21 = .ok (.ireturn, 1) := DX8_failsAt_0 (21, .ireturn, 1) (List.mem_of_getElem? (i := 11) rfl)
abbrev rmX8_failsAt : Room := { frames := 0, cells := 0, slots := 0, locals := 0 }
set_option maxHeartbeats 400000 in
set_option maxRecDepth 100000 in
theorem met_X8_failsAt (l : Launch) (D : va_G) (kA : Nat → ClassId) (a : Nat → Nat) (V0 : Sz) (x1 : Int) (hDt : ∀ w : Sz, va_D (fun _ => True) (cs_X8 kA a w)) {r : Bool} {Vr : Sz} (hf : f_X8_failsAt V0 x1 = some (r, Vr)) : MZ l yX8_failsAt cX8_failsAt 2 (some .boolean) rmX8_failsAt D kA [.ref (a 0), vI x1] (cs_X8 kA a V0) (cs_X8 kA a Vr) (some (vI (bI r))) := by
  refine zZZ (own := RX8) rfl rfl (Nat.le_of_ble_eq_true rfl) ?_
  intro p e s m args below meth c ls Q hC hK hP hl hret
  have hl : lv_has ls 2 [(0, .ref (a 0)), (1, vI x1)] := hl
  have hS : va_S (zF (cs_X8 kA a V0)) s.heap s.heap [] := va_S.rf
  have hD := zDself (C := fun w : Sz => (cs_X8 kA a w)) hDt V0 (fun _ => rfl)
  try dsimp only at hD
  generalize hAe : zF (cs_X8 kA a V0) = A0 at hS hD hret
  unfold f_X8_failsAt at hf
  refine lv_aload_n hC.1 hC.2.1 dX8_failsAt_0 rfl (lv_at hl 0 rfl) <| gfX8_149 hC hK hP (q0 := 0) rfl rfl dX8_failsAt_1 <| ?_
  obtain ⟨hz_1, hf⟩ := ck_some hf
  refine zif_ne (tgt := 20) hC.1 hC.2.1 hz_1 dX8_failsAt_4 (by decide) (fun hc => ?_) (fun hc => ?_)
  · have hf := it_f hf hc
    refine ziconst hC.1 hC.2.1 dX8_failsAt_20 <| ?_
    have hf := Option.some.inj hf
    simp only [Prod.mk.injEq] at hf
    exact hret (Int32.ofInt (bI false)) _ _ _ _ (zb01 _) (congrArg (fun z => some (vI (bI z))) hf.1.symm) (by rw [← hf.2]; exact hP) hS dX8_failsAt_21
  · have hf := it_t hf hc
    refine lv_aload_n hC.1 hC.2.1 dX8_failsAt_7 rfl (lv_at hl 0 rfl) <| ziload_n hC.1 hC.2.1 dX8_failsAt_8 rfl (lv_at hl 1 rfl) <| ?_
    refine pfX8_149 hC hK hP (hD V0) hS (q0 := 0) rfl (Nat.le_of_ble_eq_true rfl) dX8_failsAt_9 (fun H locs hP hS => ?_)
    obtain ⟨V_2, eV_2⟩ : ∃ y, y = us V0 18 x1 := ⟨_, rfl⟩
    have hf := nm_at hf eV_2
    have hP : va_P D vwCl (cs_X8 kA a V_2) H := by rw [eV_2]; exact hP
    refine lv_aload_n hC.1 hC.2.1 dX8_failsAt_12 rfl (lv_at hl 0 rfl) <| lv_aload_n hC.1 hC.2.1 dX8_failsAt_13 rfl (lv_at hl 0 rfl) <| gfX8_140 hC hK hP (q0 := 0) rfl rfl dX8_failsAt_14 <| ?_
    refine pfX8_152 hC hK hP (hD V_2) hS (q0 := 0) rfl (Nat.le_of_ble_eq_true rfl) dX8_failsAt_17 (fun H locs hP hS => ?_)
    obtain ⟨V_3, eV_3⟩ : ∃ y, y = us V_2 19 (V_2 21 0) := ⟨_, rfl⟩
    have hf := nm_at hf eV_3
    have hP : va_P D vwCl (cs_X8 kA a V_3) H := by rw [eV_3]; exact hP
    refine ziconst hC.1 hC.2.1 dX8_failsAt_20 <| ?_
    have hf := Option.some.inj hf
    simp only [Prod.mk.injEq] at hf
    exact hret (Int32.ofInt (bI false)) _ _ _ _ (zb01 _) (congrArg (fun z => some (vI (bI z))) hf.1.symm) (by rw [← hf.2]; exact hP) hS dX8_failsAt_21
theorem DX8_takesInto_0 : ∀ q ∈ ([(0, .aload_n 0, 1), (1, .getfield 146, 3), (4, .iconst 2, 1), (5, .if_icmp .ne 12, 3), (8, .aload_n 0, 1), (9, .invokevirtual 155, 3), (12, .bipush 6, 2), (14, .if_icmp .le 9, 3), (17, .aload_n 0, 1), (18, .iconst 1, 1), (19, .invokevirtual 168, 3), (22, .ireturn, 1), (23, .aload_n 0, 1), (24, .getfield 143, 3), (27, .iload_n 2, 1), (28, .iload_n 3, 1), (29, .invokestatic 79, 3), (32, .ifCond .ne 9, 3), (35, .aload_n 0, 1), (36, .iconst 2, 1), (37, .invokevirtual 168, 3), (40, .ireturn, 1), (41, .aload_n 0, 1), (42, .getfield 7, 3), (45, .iload_n 1, 1), (46, .aload_n 0, 1), (47, .getfield 143, 3), (50, .iastore, 1), (51, .aload_n 0, 1), (52, .invokevirtual 171, 3), (55, .iconst 1, 1), (56, .ireturn, 1)] : List (Nat × Instr × Nat)), decode cX8_takesInto q.1 = .ok q.2 := by decide +kernel
theorem dX8_takesInto_0 : decode cX8_takesInto 0 = .ok (.aload_n 0, 1) := DX8_takesInto_0 (0, .aload_n 0, 1) (List.mem_of_getElem? (i := 0) rfl)
theorem dX8_takesInto_1 : decode cX8_takesInto 1 = .ok (.getfield 146, 3) := DX8_takesInto_0 (1, .getfield 146, 3) (List.mem_of_getElem? (i := 1) rfl)
theorem dX8_takesInto_4 : decode cX8_takesInto 4 = .ok (.iconst 2, 1) := DX8_takesInto_0 (4, .iconst 2, 1) (List.mem_of_getElem? (i := 2) rfl)
theorem dX8_takesInto_5 : decode cX8_takesInto 5 = .ok (.if_icmp .ne 12, 3) := DX8_takesInto_0 (5, .if_icmp .ne 12, 3) (List.mem_of_getElem? (i := 3) rfl)
theorem dX8_takesInto_8 : decode cX8_takesInto 8 = .ok (.aload_n 0, 1) := DX8_takesInto_0 (8, .aload_n 0, 1) (List.mem_of_getElem? (i := 4) rfl)
theorem dX8_takesInto_9 : decode cX8_takesInto 9 = .ok (.invokevirtual 155, 3) := DX8_takesInto_0 (9, .invokevirtual 155, 3) (List.mem_of_getElem? (i := 5) rfl)
theorem dX8_takesInto_12 : decode cX8_takesInto 12 = .ok (.bipush 6, 2) := DX8_takesInto_0 (12, .bipush 6, 2) (List.mem_of_getElem? (i := 6) rfl)
theorem dX8_takesInto_14 : decode cX8_takesInto 14 = .ok (.if_icmp .le 9, 3) := DX8_takesInto_0 (14, .if_icmp .le 9, 3) (List.mem_of_getElem? (i := 7) rfl)
theorem dX8_takesInto_17 : decode cX8_takesInto 17 = .ok (.aload_n 0, 1) := DX8_takesInto_0 (17, .aload_n 0, 1) (List.mem_of_getElem? (i := 8) rfl)
theorem dX8_takesInto_18 : decode cX8_takesInto 18 = .ok (.iconst 1, 1) := DX8_takesInto_0 (18, .iconst 1, 1) (List.mem_of_getElem? (i := 9) rfl)
theorem dX8_takesInto_19 : decode cX8_takesInto 19 = .ok (.invokevirtual 168, 3) := DX8_takesInto_0 (19, .invokevirtual 168, 3) (List.mem_of_getElem? (i := 10) rfl)
theorem dX8_takesInto_22 : decode cX8_takesInto 22 = .ok (.ireturn, 1) := DX8_takesInto_0 (22, .ireturn, 1) (List.mem_of_getElem? (i := 11) rfl)
theorem dX8_takesInto_23 : decode cX8_takesInto 23 = .ok (.aload_n 0, 1) := DX8_takesInto_0 (23, .aload_n 0, 1) (List.mem_of_getElem? (i := 12) rfl)
theorem dX8_takesInto_24 : decode cX8_takesInto 24 = .ok (.getfield 143, 3) := DX8_takesInto_0 (24, .getfield 143, 3) (List.mem_of_getElem? (i := 13) rfl)
theorem dX8_takesInto_27 : decode cX8_takesInto 27 = .ok (.iload_n 2, 1) := DX8_takesInto_0 (27, .iload_n 2, 1) (List.mem_of_getElem? (i := 14) rfl)
theorem dX8_takesInto_28 : decode cX8_takesInto 28 = .ok (.iload_n 3, 1) := DX8_takesInto_0 (28, .iload_n 3, 1) (List.mem_of_getElem? (i := 15) rfl)
theorem dX8_takesInto_29 : decode cX8_takesInto 29 = .ok (.invokestatic 79, 3) := DX8_takesInto_0 (29, .invokestatic 79, 3) (List.mem_of_getElem? (i := 16) rfl)
theorem dX8_takesInto_32 : decode cX8_takesInto 32 = .ok (.ifCond .ne 9, 3) := DX8_takesInto_0 (32, .ifCond .ne 9, 3) (List.mem_of_getElem? (i := 17) rfl)
theorem dX8_takesInto_35 : decode cX8_takesInto 35 = .ok (.aload_n 0, 1) := DX8_takesInto_0 (35, .aload_n 0, 1) (List.mem_of_getElem? (i := 18) rfl)
theorem dX8_takesInto_36 : decode cX8_takesInto 36 = .ok (.iconst 2, 1) := DX8_takesInto_0 (36, .iconst 2, 1) (List.mem_of_getElem? (i := 19) rfl)
theorem dX8_takesInto_37 : decode cX8_takesInto 37 = .ok (.invokevirtual 168, 3) := DX8_takesInto_0 (37, .invokevirtual 168, 3) (List.mem_of_getElem? (i := 20) rfl)
theorem dX8_takesInto_40 : decode cX8_takesInto 40 = .ok (.ireturn, 1) := DX8_takesInto_0 (40, .ireturn, 1) (List.mem_of_getElem? (i := 21) rfl)
theorem dX8_takesInto_41 : decode cX8_takesInto 41 = .ok (.aload_n 0, 1) := DX8_takesInto_0 (41, .aload_n 0, 1) (List.mem_of_getElem? (i := 22) rfl)
theorem dX8_takesInto_42 : decode cX8_takesInto 42 = .ok (.getfield 7, 3) := DX8_takesInto_0 (42, .getfield 7, 3) (List.mem_of_getElem? (i := 23) rfl)
theorem dX8_takesInto_45 : decode cX8_takesInto 45 = .ok (.iload_n 1, 1) := DX8_takesInto_0 (45, .iload_n 1, 1) (List.mem_of_getElem? (i := 24) rfl)
theorem dX8_takesInto_46 : decode cX8_takesInto 46 = .ok (.aload_n 0, 1) := DX8_takesInto_0 (46, .aload_n 0, 1) (List.mem_of_getElem? (i := 25) rfl)
theorem dX8_takesInto_47 : decode cX8_takesInto 47 = .ok (.getfield 143, 3) := DX8_takesInto_0 (47, .getfield 143, 3) (List.mem_of_getElem? (i := 26) rfl)
theorem dX8_takesInto_50 : decode cX8_takesInto 50 = .ok (.iastore, 1) := DX8_takesInto_0 (50, .iastore, 1) (List.mem_of_getElem? (i := 27) rfl)
theorem dX8_takesInto_51 : decode cX8_takesInto 51 = .ok (.aload_n 0, 1) := DX8_takesInto_0 (51, .aload_n 0, 1) (List.mem_of_getElem? (i := 28) rfl)
theorem dX8_takesInto_52 : decode cX8_takesInto 52 = .ok (.invokevirtual 171, 3) := DX8_takesInto_0 (52, .invokevirtual 171, 3) (List.mem_of_getElem? (i := 29) rfl)
theorem dX8_takesInto_55 : decode cX8_takesInto 55 = .ok (.iconst 1, 1) := DX8_takesInto_0 (55, .iconst 1, 1) (List.mem_of_getElem? (i := 30) rfl)
theorem dX8_takesInto_56 : decode cX8_takesInto 56 = .ok (.ireturn, 1) := DX8_takesInto_0 (56, .ireturn, 1) (List.mem_of_getElem? (i := 31) rfl)
abbrev rmX8_takesInto : Room := { frames := 2, cells := 0, slots := 0, locals := 43 }
set_option maxHeartbeats 400000 in
set_option maxRecDepth 100000 in
theorem met_X8_takesInto (l : Launch) (D : va_G) (kA : Nat → ClassId) (a : Nat → Nat) (n : Nat) (V0 : Sz) (x1 : Int) (x2 : Int) (x3 : Int) (hDt : ∀ w : Sz, va_D (fun _ => True) (cs_X8 kA a w)) {r : Bool} {Vr : Sz} (hf : f_X8_takesInto n V0 x1 x2 x3 = some (r, Vr)) : MZ l yX8_takesInto cX8_takesInto 4 (some .boolean) rmX8_takesInto D kA [.ref (a 0), vI x1, vI x2, vI x3] (cs_X8 kA a V0) (cs_X8 kA a Vr) (some (vI (bI r))) := by
  refine zZZ (own := RX8) rfl rfl (Nat.le_of_ble_eq_true rfl) ?_
  intro p e s m args below meth c ls Q hC hK hP hl hret
  have hl : lv_has ls 4 [(0, .ref (a 0)), (1, vI x1), (2, vI x2), (3, vI x3)] := hl
  have hS : va_S (zF (cs_X8 kA a V0)) s.heap s.heap [] := va_S.rf
  have hD := zDself (C := fun w : Sz => (cs_X8 kA a w)) hDt V0 (fun _ => rfl)
  try dsimp only at hD
  generalize hAe : zF (cs_X8 kA a V0) = A0 at hS hD hret
  unfold f_X8_takesInto at hf
  have J17 : ∀ (V : Sz) (H : Heap) (locs : List Loc) (ls : Array Slot), jX8_takesInto_17 n x1 x2 x3 V = some (r, Vr) → va_P D vwCl (cs_X8 kA a V) H → va_S A0 s.heap H locs → lv_has ls 4 [(0, .ref (a 0))] → W p l e rmX8_takesInto s m args below meth c H locs 0 0 Q (F0 m 17 ls []) := by
    intro V H locs ls hf hP hS hl
    unfold jX8_takesInto_17 at hf
    refine lv_aload_n hC.1 hC.2.1 dX8_takesInto_17 rfl (lv_at hl 0 rfl) <| ziconst hC.1 hC.2.1 dX8_takesInto_18 <| ?_
    obtain ⟨⟨r_2, V_3⟩, hu, hf⟩ := bd_some hf
    have hDc := hDt
    refine zcVZ (As := [vI 1]) (rest := []) hC hK (met_X8_failsAt l D kA a V 1 hDc hu) zwX8_168 hS (zFsub (hD V) [0, 1, 2, 3, 4, 5, 6, 7, 8, 9, 10, 11, 12, 13, 14, 15, 16] rfl) hP (q0 := 0) rfl rfl rfl rfl hl.1 rfl (Nat.le_of_ble_eq_true rfl) ⟨Nat.le_of_ble_eq_true rfl, Nat.le_of_ble_eq_true rfl⟩ ⟨rfl, rfl⟩ ⟨Nat.le_refl _, Nat.le_refl _⟩ dX8_takesInto_19 (fun H locs hP1 hk1 hS => ?_)
    have hP : va_P D vwCl (cs_X8 kA a V_3) H := hP1
    have hf := Option.some.inj hf
    simp only [Prod.mk.injEq] at hf
    exact hret (Int32.ofInt (bI r_2)) _ _ _ _ (zb01 _) (congrArg (fun z => some (vI (bI z))) hf.1.symm) (by rw [← hf.2]; exact hP) hS dX8_takesInto_22
  refine lv_aload_n hC.1 hC.2.1 dX8_takesInto_0 rfl (lv_at hl 0 rfl) <| gfX8_146 hC hK hP (q0 := 0) rfl rfl dX8_takesInto_1 <| ziconst hC.1 hC.2.1 dX8_takesInto_4 <| ?_
  obtain ⟨hz_1, hf⟩ := ck_some hf
  refine zicmp_ne (tgt := 17) hC.1 hC.2.1 ⟨hz_1, (by decide)⟩ dX8_takesInto_5 (by decide) (fun hc => ?_) (fun hc => ?_)
  · have hf := it_f hf hc
    exact J17 _ _ _ _ hf hP hS (lv_sub hl [0] rfl)
  · have hf := it_t hf hc
    refine lv_aload_n hC.1 hC.2.1 dX8_takesInto_8 rfl (lv_at hl 0 rfl) <| ?_
    obtain ⟨r_4, hu, hf⟩ := bd_some hf
    refine zcVP (As := []) (rest := []) hC hK (met_X8_tokenLength l D kA a V0 hu) zwX8_155 hP (q0 := 0) rfl rfl rfl rfl hl.1 rfl (Nat.le_of_ble_eq_true rfl) ⟨Nat.le_of_ble_eq_true rfl, Nat.le_of_ble_eq_true rfl⟩ ⟨rfl, rfl⟩ ⟨Nat.le_refl _, Nat.le_refl _⟩ dX8_takesInto_9 <| zbipush hC.1 hC.2.1 dX8_takesInto_12 (by decide) <| ?_
    obtain ⟨hz_5, hf⟩ := ck_some hf
    refine zicmp_le (tgt := 23) hC.1 hC.2.1 ⟨hz_5, (by decide)⟩ dX8_takesInto_14 (by decide) (fun hc => ?_) (fun hc => ?_)
    · have hf := it_t hf hc
      refine lv_aload_n hC.1 hC.2.1 dX8_takesInto_23 rfl (lv_at hl 0 rfl) <| gfX8_143 hC hK hP (q0 := 0) rfl rfl dX8_takesInto_24 <| ziload_n hC.1 hC.2.1 dX8_takesInto_27 rfl (lv_at hl 2 rfl) <| ziload_n hC.1 hC.2.1 dX8_takesInto_28 rfl (lv_at hl 3 rfl) <| ?_
      obtain ⟨r_6, hu, hf⟩ := bd_some hf
      have hPc : va_P D vwCl ([] : va_W) _ := hP.sub [] rfl
      refine zcSP (As := [vI (V0 22 0), vI x2, vI x3]) (rest := []) hC hK (met_X8_inRange l D kA (V0 22 0) x2 x3 hu) zwX8_79 hPc rfl hl.1 rfl (Nat.le_of_ble_eq_true rfl) ⟨Nat.le_of_ble_eq_true rfl, Nat.le_of_ble_eq_true rfl⟩ ⟨rfl, rfl⟩ ⟨Nat.le_refl _, Nat.le_refl _⟩ dX8_takesInto_29 <| zifb_ne (tgt := 41) hC.1 hC.2.1 dX8_takesInto_32 (by decide) (fun hc => ?_) (fun hc => ?_)
      · have hf := it_t hf hc
        refine lv_aload_n hC.1 hC.2.1 dX8_takesInto_41 rfl (lv_at hl 0 rfl) <| gfX8_7 hC hK hP (q0 := 0) rfl rfl dX8_takesInto_42 <| ziload_n hC.1 hC.2.1 dX8_takesInto_45 rfl (lv_at hl 1 rfl) <| lv_aload_n hC.1 hC.2.1 dX8_takesInto_46 rfl (lv_at hl 0 rfl) <| gfX8_143 hC hK hP (q0 := 0) rfl rfl dX8_takesInto_47 <| ?_
        obtain ⟨hz_7, hf⟩ := ck_some hf
        refine jas hC hK hP (hD V0) hS (q0 := 1) rfl (Nat.le_of_ble_eq_true rfl) hz_7 rfl dX8_takesInto_50 (fun H locs hP hS => ?_)
        obtain ⟨V_8, eV_8⟩ : ∃ y, y = uz V0 0 x1.toNat (V0 22 0) := ⟨_, rfl⟩
        have hf := nm_at hf eV_8
        have hP : va_P D vwCl (cs_X8 kA a V_8) H := by rw [eV_8]; exact hP
        refine lv_aload_n hC.1 hC.2.1 dX8_takesInto_51 rfl (lv_at hl 0 rfl) <| ?_
        obtain ⟨V_9, hu, hf⟩ := bd_some hf
        have hDc := hDt
        refine zcVZ (As := []) (rest := []) hC hK (met_X8_advanceToken l D kA a n V_8 hDc hu) zwX8_171 hS (zFsub (hD V_8) [0, 1, 2, 3, 4, 5, 6, 7, 8, 9, 10, 11, 12, 13, 14, 15, 16] rfl) hP (q0 := 0) rfl rfl rfl rfl hl.1 rfl (Nat.le_of_ble_eq_true rfl) ⟨Nat.le_of_ble_eq_true rfl, Nat.le_of_ble_eq_true rfl⟩ ⟨rfl, rfl⟩ ⟨Nat.le_refl _, Nat.le_refl _⟩ dX8_takesInto_52 (fun H locs hP1 hk1 hS => ?_)
        have hP : va_P D vwCl (cs_X8 kA a V_9) H := hP1
        refine ziconst hC.1 hC.2.1 dX8_takesInto_55 <| ?_
        have hf := Option.some.inj hf
        simp only [Prod.mk.injEq] at hf
        exact hret (Int32.ofInt (bI true)) _ _ _ _ (zb01 _) (congrArg (fun z => some (vI (bI z))) hf.1.symm) (by rw [← hf.2]; exact hP) hS dX8_takesInto_56
      · have hf := it_f hf hc
        refine lv_aload_n hC.1 hC.2.1 dX8_takesInto_35 rfl (lv_at hl 0 rfl) <| ziconst hC.1 hC.2.1 dX8_takesInto_36 <| ?_
        obtain ⟨⟨r_10, V_11⟩, hu, hf⟩ := bd_some hf
        have hDc := hDt
        refine zcVZ (As := [vI 2]) (rest := []) hC hK (met_X8_failsAt l D kA a V0 2 hDc hu) zwX8_168 hS (zFsub (hD V0) [0, 1, 2, 3, 4, 5, 6, 7, 8, 9, 10, 11, 12, 13, 14, 15, 16] rfl) hP (q0 := 0) rfl rfl rfl rfl hl.1 rfl (Nat.le_of_ble_eq_true rfl) ⟨Nat.le_of_ble_eq_true rfl, Nat.le_of_ble_eq_true rfl⟩ ⟨rfl, rfl⟩ ⟨Nat.le_refl _, Nat.le_refl _⟩ dX8_takesInto_37 (fun H locs hP1 hk1 hS => ?_)
        have hP : va_P D vwCl (cs_X8 kA a V_11) H := hP1
        have hf := Option.some.inj hf
        simp only [Prod.mk.injEq] at hf
        exact hret (Int32.ofInt (bI r_10)) _ _ _ _ (zb01 _) (congrArg (fun z => some (vI (bI z))) hf.1.symm) (by rw [← hf.2]; exact hP) hS dX8_takesInto_40
    · have hf := it_f hf hc
      exact J17 _ _ _ _ hf hP hS (lv_sub hl [0] rfl)
theorem DX8_starts_0 : ∀ q ∈ ([(0, .iload_n 1, 1), (1, .ifCond .ne 9, 3), (4, .aload_n 0, 1), (5, .iconst 4, 1), (6, .invokevirtual 168, 3), (9, .ireturn, 1), (10, .aload_n 0, 1), (11, .invokevirtual 171, 3), (14, .iconst 1, 1), (15, .ireturn, 1)] : List (Nat × Instr × Nat)), decode cX8_starts q.1 = .ok q.2 := by decide +kernel
theorem dX8_starts_0 : decode cX8_starts 0 = .ok (.iload_n 1, 1) := DX8_starts_0 (0, .iload_n 1, 1) (List.mem_of_getElem? (i := 0) rfl)
theorem dX8_starts_1 : decode cX8_starts 1 = .ok (.ifCond .ne 9, 3) := DX8_starts_0 (1, .ifCond .ne 9, 3) (List.mem_of_getElem? (i := 1) rfl)
theorem dX8_starts_4 : decode cX8_starts 4 = .ok (.aload_n 0, 1) := DX8_starts_0 (4, .aload_n 0, 1) (List.mem_of_getElem? (i := 2) rfl)
theorem dX8_starts_5 : decode cX8_starts 5 = .ok (.iconst 4, 1) := DX8_starts_0 (5, .iconst 4, 1) (List.mem_of_getElem? (i := 3) rfl)
theorem dX8_starts_6 : decode cX8_starts 6 = .ok (.invokevirtual 168, 3) := DX8_starts_0 (6, .invokevirtual 168, 3) (List.mem_of_getElem? (i := 4) rfl)
theorem dX8_starts_9 : decode cX8_starts 9 = .ok (.ireturn, 1) := DX8_starts_0 (9, .ireturn, 1) (List.mem_of_getElem? (i := 5) rfl)
theorem dX8_starts_10 : decode cX8_starts 10 = .ok (.aload_n 0, 1) := DX8_starts_0 (10, .aload_n 0, 1) (List.mem_of_getElem? (i := 6) rfl)
theorem dX8_starts_11 : decode cX8_starts 11 = .ok (.invokevirtual 171, 3) := DX8_starts_0 (11, .invokevirtual 171, 3) (List.mem_of_getElem? (i := 7) rfl)
theorem dX8_starts_14 : decode cX8_starts 14 = .ok (.iconst 1, 1) := DX8_starts_0 (14, .iconst 1, 1) (List.mem_of_getElem? (i := 8) rfl)
theorem dX8_starts_15 : decode cX8_starts 15 = .ok (.ireturn, 1) := DX8_starts_0 (15, .ireturn, 1) (List.mem_of_getElem? (i := 9) rfl)
abbrev rmX8_starts : Room := { frames := 2, cells := 0, slots := 0, locals := 43 }
set_option maxHeartbeats 400000 in
set_option maxRecDepth 100000 in
theorem met_X8_starts (l : Launch) (D : va_G) (kA : Nat → ClassId) (a : Nat → Nat) (n : Nat) (V0 : Sz) (x1 : Int) (hDt : ∀ w : Sz, va_D (fun _ => True) (cs_X8 kA a w)) {r : Bool} {Vr : Sz} (hf : f_X8_starts n V0 x1 = some (r, Vr)) : MZ l yX8_starts cX8_starts 2 (some .boolean) rmX8_starts D kA [.ref (a 0), vI x1] (cs_X8 kA a V0) (cs_X8 kA a Vr) (some (vI (bI r))) := by
  refine zZZ (own := RX8) rfl rfl (Nat.le_of_ble_eq_true rfl) ?_
  intro p e s m args below meth c ls Q hC hK hP hl hret
  have hl : lv_has ls 2 [(0, .ref (a 0)), (1, vI x1)] := hl
  have hS : va_S (zF (cs_X8 kA a V0)) s.heap s.heap [] := va_S.rf
  have hD := zDself (C := fun w : Sz => (cs_X8 kA a w)) hDt V0 (fun _ => rfl)
  try dsimp only at hD
  generalize hAe : zF (cs_X8 kA a V0) = A0 at hS hD hret
  unfold f_X8_starts at hf
  refine ziload_n hC.1 hC.2.1 dX8_starts_0 rfl (lv_at hl 1 rfl) <| ?_
  obtain ⟨hz_1, hf⟩ := ck_some hf
  refine zif_ne (tgt := 10) hC.1 hC.2.1 hz_1 dX8_starts_1 (by decide) (fun hc => ?_) (fun hc => ?_)
  · have hf := it_f hf hc
    refine lv_aload_n hC.1 hC.2.1 dX8_starts_10 rfl (lv_at hl 0 rfl) <| ?_
    obtain ⟨V_2, hu, hf⟩ := bd_some hf
    have hDc := hDt
    refine zcVZ (As := []) (rest := []) hC hK (met_X8_advanceToken l D kA a n V0 hDc hu) zwX8_171 hS (zFsub (hD V0) [0, 1, 2, 3, 4, 5, 6, 7, 8, 9, 10, 11, 12, 13, 14, 15, 16] rfl) hP (q0 := 0) rfl rfl rfl rfl hl.1 rfl (Nat.le_of_ble_eq_true rfl) ⟨Nat.le_of_ble_eq_true rfl, Nat.le_of_ble_eq_true rfl⟩ ⟨rfl, rfl⟩ ⟨Nat.le_refl _, Nat.le_refl _⟩ dX8_starts_11 (fun H locs hP1 hk1 hS => ?_)
    have hP : va_P D vwCl (cs_X8 kA a V_2) H := hP1
    refine ziconst hC.1 hC.2.1 dX8_starts_14 <| ?_
    have hf := Option.some.inj hf
    simp only [Prod.mk.injEq] at hf
    exact hret (Int32.ofInt (bI true)) _ _ _ _ (zb01 _) (congrArg (fun z => some (vI (bI z))) hf.1.symm) (by rw [← hf.2]; exact hP) hS dX8_starts_15
  · have hf := it_t hf hc
    refine lv_aload_n hC.1 hC.2.1 dX8_starts_4 rfl (lv_at hl 0 rfl) <| ziconst hC.1 hC.2.1 dX8_starts_5 <| ?_
    obtain ⟨⟨r_3, V_4⟩, hu, hf⟩ := bd_some hf
    have hDc := hDt
    refine zcVZ (As := [vI 4]) (rest := []) hC hK (met_X8_failsAt l D kA a V0 4 hDc hu) zwX8_168 hS (zFsub (hD V0) [0, 1, 2, 3, 4, 5, 6, 7, 8, 9, 10, 11, 12, 13, 14, 15, 16] rfl) hP (q0 := 0) rfl rfl rfl rfl hl.1 rfl (Nat.le_of_ble_eq_true rfl) ⟨Nat.le_of_ble_eq_true rfl, Nat.le_of_ble_eq_true rfl⟩ ⟨rfl, rfl⟩ ⟨Nat.le_refl _, Nat.le_refl _⟩ dX8_starts_6 (fun H locs hP1 hk1 hS => ?_)
    have hP : va_P D vwCl (cs_X8 kA a V_4) H := hP1
    have hf := Option.some.inj hf
    simp only [Prod.mk.injEq] at hf
    exact hret (Int32.ofInt (bI r_3)) _ _ _ _ (zb01 _) (congrArg (fun z => some (vI (bI z))) hf.1.symm) (by rw [← hf.2]; exact hP) hS dX8_starts_9
theorem DX8_letterHere_0 : ∀ q ∈ ([(0, .iload_n 1, 1), (1, .aload_n 0, 1), (2, .invokevirtual 155, 3), (5, .if_icmp .ge 17, 3), (8, .aload_n 0, 1), (9, .getfield 43, 3), (12, .aload_n 0, 1), (13, .getfield 140, 3), (16, .iload_n 1, 1), (17, .iadd, 1), (18, .iaload, 1), (19, .goto 4, 3), (22, .iconst 0, 1), (23, .ireturn, 1)] : List (Nat × Instr × Nat)), decode cX8_letterHere q.1 = .ok q.2 := by decide +kernel
theorem dX8_letterHere_0 : decode cX8_letterHere 0 = .ok (.iload_n 1, 1) := DX8_letterHere_0 (0, .iload_n 1, 1) (List.mem_of_getElem? (i := 0) rfl)
theorem dX8_letterHere_1 : decode cX8_letterHere 1 = .ok (.aload_n 0, 1) := DX8_letterHere_0 (1, .aload_n 0, 1) (List.mem_of_getElem? (i := 1) rfl)
theorem dX8_letterHere_2 : decode cX8_letterHere 2 = .ok (.invokevirtual 155, 3) := DX8_letterHere_0 (2, .invokevirtual 155, 3) (List.mem_of_getElem? (i := 2) rfl)
theorem dX8_letterHere_5 : decode cX8_letterHere 5 = .ok (.if_icmp .ge 17, 3) := DX8_letterHere_0 (5, .if_icmp .ge 17, 3) (List.mem_of_getElem? (i := 3) rfl)
theorem dX8_letterHere_8 : decode cX8_letterHere 8 = .ok (.aload_n 0, 1) := DX8_letterHere_0 (8, .aload_n 0, 1) (List.mem_of_getElem? (i := 4) rfl)
theorem dX8_letterHere_9 : decode cX8_letterHere 9 = .ok (.getfield 43, 3) := DX8_letterHere_0 (9, .getfield 43, 3) (List.mem_of_getElem? (i := 5) rfl)
theorem dX8_letterHere_12 : decode cX8_letterHere 12 = .ok (.aload_n 0, 1) := DX8_letterHere_0 (12, .aload_n 0, 1) (List.mem_of_getElem? (i := 6) rfl)
theorem dX8_letterHere_13 : decode cX8_letterHere 13 = .ok (.getfield 140, 3) := DX8_letterHere_0 (13, .getfield 140, 3) (List.mem_of_getElem? (i := 7) rfl)
theorem dX8_letterHere_16 : decode cX8_letterHere 16 = .ok (.iload_n 1, 1) := DX8_letterHere_0 (16, .iload_n 1, 1) (List.mem_of_getElem? (i := 8) rfl)
theorem dX8_letterHere_17 : decode cX8_letterHere 17 = .ok (.iadd, 1) := DX8_letterHere_0 (17, .iadd, 1) (List.mem_of_getElem? (i := 9) rfl)
theorem dX8_letterHere_18 : decode cX8_letterHere 18 = .ok (.iaload, 1) := DX8_letterHere_0 (18, .iaload, 1) (List.mem_of_getElem? (i := 10) rfl)
theorem dX8_letterHere_19 : decode cX8_letterHere 19 = .ok (.goto 4, 3) := DX8_letterHere_0 (19, .goto 4, 3) (List.mem_of_getElem? (i := 11) rfl)
theorem dX8_letterHere_22 : decode cX8_letterHere 22 = .ok (.iconst 0, 1) := DX8_letterHere_0 (22, .iconst 0, 1) (List.mem_of_getElem? (i := 12) rfl)
theorem dX8_letterHere_23 : decode cX8_letterHere 23 = .ok (.ireturn, 1) := DX8_letterHere_0 (23, .ireturn, 1) (List.mem_of_getElem? (i := 13) rfl)
abbrev rmX8_letterHere : Room := { frames := 1, cells := 0, slots := 0, locals := 20 }
set_option maxHeartbeats 400000 in
set_option maxRecDepth 100000 in
theorem met_X8_letterHere (l : Launch) (D : va_G) (kA : Nat → ClassId) (a : Nat → Nat) (V : Sz) (x1 : Int) {r : Int} (hf : f_X8_letterHere V x1 = some r) : MP l yX8_letterHere cX8_letterHere 2 (some .int) rmX8_letterHere D kA [.ref (a 0), vI x1] (cs_X8 kA a V) (some (vI r)) := by
  refine zPI (own := RX8) rfl rfl (Nat.le_of_ble_eq_true rfl) ?_
  intro p e s m args below meth c ls Q hC hK hP hl hret
  have hl : lv_has ls 2 [(0, .ref (a 0)), (1, vI x1)] := hl
  unfold f_X8_letterHere at hf
  refine ziload_n hC.1 hC.2.1 dX8_letterHere_0 rfl (lv_at hl 1 rfl) <| lv_aload_n hC.1 hC.2.1 dX8_letterHere_1 rfl (lv_at hl 0 rfl) <| ?_
  obtain ⟨r_1, hu, hf⟩ := bd_some hf
  refine zcVP (As := []) (rest := [vI x1]) hC hK (met_X8_tokenLength l D kA a V hu) zwX8_155 hP (q0 := 0) rfl rfl rfl rfl hl.1 rfl (Nat.le_of_ble_eq_true rfl) ⟨Nat.le_of_ble_eq_true rfl, Nat.le_of_ble_eq_true rfl⟩ ⟨rfl, rfl⟩ ⟨Nat.le_refl _, Nat.le_refl _⟩ dX8_letterHere_2 <| ?_
  obtain ⟨hz_2, hf⟩ := ck_some hf
  refine zicmp_ge (tgt := 22) hC.1 hC.2.1 ⟨hz_2.1, hz_2.2⟩ dX8_letterHere_5 (by decide) (fun hc => ?_) (fun hc => ?_)
  · have hf := it_t hf hc
    exact ziconst hC.1 hC.2.1 dX8_letterHere_22 <| hret (Int32.ofInt 0) _ _ (qI hf) dX8_letterHere_23
  · have hf := it_f hf hc
    refine lv_aload_n hC.1 hC.2.1 dX8_letterHere_8 rfl (lv_at hl 0 rfl) <| gfX8_43 hC hK hP (q0 := 0) rfl rfl dX8_letterHere_9 <| lv_aload_n hC.1 hC.2.1 dX8_letterHere_12 rfl (lv_at hl 0 rfl) <| gfX8_140 hC hK hP (q0 := 0) rfl rfl dX8_letterHere_13 <| ziload_n hC.1 hC.2.1 dX8_letterHere_16 rfl (lv_at hl 1 rfl) <| ziadd hC.1 hC.2.1 dX8_letterHere_17 <| ?_
    obtain ⟨hz_3, hf⟩ := ck_some hf
    exact jal hC hK hP (q0 := 12) rfl (Nat.le_of_ble_eq_true rfl) hz_3 rfl dX8_letterHere_18 <| lv_goto (tgt := 23) hC.1 hC.2.1 dX8_letterHere_19 (by decide) <| hret (Int32.ofInt (V 14 ((V 21 0) + x1).toNat)) _ _ (qI hf) dX8_letterHere_23
theorem DX8_find_0 : ∀ q ∈ ([(0, .iconst 0, 1), (1, .istore_n 1, 1), (2, .iload_n 1, 1), (3, .aload_n 0, 1), (4, .getfield 7, 3), (7, .iconst 0, 1), (8, .iaload, 1), (9, .if_icmp .ge 60, 3), (12, .iconst 1, 1), (13, .istore_n 2, 1), (14, .iconst 0, 1), (15, .istore_n 3, 1), (16, .iload_n 3, 1), (17, .bipush 6, 2), (19, .if_icmp .ge 38, 3), (22, .iload_n 2, 1), (23, .ifCond .eq 34, 3), (26, .aload_n 0, 1), (27, .getfield 25, 3), (30, .bipush 6, 2), (32, .iload_n 1, 1), (33, .imul, 1), (34, .iload_n 3, 1), (35, .iadd, 1), (36, .iaload, 1), (37, .aload_n 0, 1), (38, .iload_n 3, 1), (39, .invokevirtual 194, 3), (42, .if_icmp .ne 7, 3), (45, .iconst 1, 1), (46, .goto 4, 3), (49, .iconst 0, 1), (50, .istore_n 2, 1), (51, .iinc 3 1, 3), (54, .goto (-38), 3), (57, .iload_n 2, 1), (58, .ifCond .eq 5, 3), (61, .iload_n 1, 1), (62, .ireturn, 1), (63, .iinc 1 1, 3)] : List (Nat × Instr × Nat)), decode cX8_find q.1 = .ok q.2 := by decide +kernel
theorem dX8_find_0 : decode cX8_find 0 = .ok (.iconst 0, 1) := DX8_find_0 (0, .iconst 0, 1) (List.mem_of_getElem? (i := 0) rfl)
theorem dX8_find_1 : decode cX8_find 1 = .ok (.istore_n 1, 1) := DX8_find_0 (1, .istore_n 1, 1) (List.mem_of_getElem? (i := 1) rfl)
theorem dX8_find_2 : decode cX8_find 2 = .ok (.iload_n 1, 1) := DX8_find_0 (2, .iload_n 1, 1) (List.mem_of_getElem? (i := 2) rfl)
theorem dX8_find_3 : decode cX8_find 3 = .ok (.aload_n 0, 1) := DX8_find_0 (3, .aload_n 0, 1) (List.mem_of_getElem? (i := 3) rfl)
theorem dX8_find_4 : decode cX8_find 4 = .ok (.getfield 7, 3) := DX8_find_0 (4, .getfield 7, 3) (List.mem_of_getElem? (i := 4) rfl)
theorem dX8_find_7 : decode cX8_find 7 = .ok (.iconst 0, 1) := DX8_find_0 (7, .iconst 0, 1) (List.mem_of_getElem? (i := 5) rfl)
theorem dX8_find_8 : decode cX8_find 8 = .ok (.iaload, 1) := DX8_find_0 (8, .iaload, 1) (List.mem_of_getElem? (i := 6) rfl)
theorem dX8_find_9 : decode cX8_find 9 = .ok (.if_icmp .ge 60, 3) := DX8_find_0 (9, .if_icmp .ge 60, 3) (List.mem_of_getElem? (i := 7) rfl)
theorem dX8_find_12 : decode cX8_find 12 = .ok (.iconst 1, 1) := DX8_find_0 (12, .iconst 1, 1) (List.mem_of_getElem? (i := 8) rfl)
theorem dX8_find_13 : decode cX8_find 13 = .ok (.istore_n 2, 1) := DX8_find_0 (13, .istore_n 2, 1) (List.mem_of_getElem? (i := 9) rfl)
theorem dX8_find_14 : decode cX8_find 14 = .ok (.iconst 0, 1) := DX8_find_0 (14, .iconst 0, 1) (List.mem_of_getElem? (i := 10) rfl)
theorem dX8_find_15 : decode cX8_find 15 = .ok (.istore_n 3, 1) := DX8_find_0 (15, .istore_n 3, 1) (List.mem_of_getElem? (i := 11) rfl)
theorem dX8_find_16 : decode cX8_find 16 = .ok (.iload_n 3, 1) := DX8_find_0 (16, .iload_n 3, 1) (List.mem_of_getElem? (i := 12) rfl)
theorem dX8_find_17 : decode cX8_find 17 = .ok (.bipush 6, 2) := DX8_find_0 (17, .bipush 6, 2) (List.mem_of_getElem? (i := 13) rfl)
theorem dX8_find_19 : decode cX8_find 19 = .ok (.if_icmp .ge 38, 3) := DX8_find_0 (19, .if_icmp .ge 38, 3) (List.mem_of_getElem? (i := 14) rfl)
theorem dX8_find_22 : decode cX8_find 22 = .ok (.iload_n 2, 1) := DX8_find_0 (22, .iload_n 2, 1) (List.mem_of_getElem? (i := 15) rfl)
theorem dX8_find_23 : decode cX8_find 23 = .ok (.ifCond .eq 34, 3) := DX8_find_0 (23, .ifCond .eq 34, 3) (List.mem_of_getElem? (i := 16) rfl)
theorem dX8_find_26 : decode cX8_find 26 = .ok (.aload_n 0, 1) := DX8_find_0 (26, .aload_n 0, 1) (List.mem_of_getElem? (i := 17) rfl)
theorem dX8_find_27 : decode cX8_find 27 = .ok (.getfield 25, 3) := DX8_find_0 (27, .getfield 25, 3) (List.mem_of_getElem? (i := 18) rfl)
theorem dX8_find_30 : decode cX8_find 30 = .ok (.bipush 6, 2) := DX8_find_0 (30, .bipush 6, 2) (List.mem_of_getElem? (i := 19) rfl)
theorem dX8_find_32 : decode cX8_find 32 = .ok (.iload_n 1, 1) := DX8_find_0 (32, .iload_n 1, 1) (List.mem_of_getElem? (i := 20) rfl)
theorem dX8_find_33 : decode cX8_find 33 = .ok (.imul, 1) := DX8_find_0 (33, .imul, 1) (List.mem_of_getElem? (i := 21) rfl)
theorem dX8_find_34 : decode cX8_find 34 = .ok (.iload_n 3, 1) := DX8_find_0 (34, .iload_n 3, 1) (List.mem_of_getElem? (i := 22) rfl)
theorem dX8_find_35 : decode cX8_find 35 = .ok (.iadd, 1) := DX8_find_0 (35, .iadd, 1) (List.mem_of_getElem? (i := 23) rfl)
theorem dX8_find_36 : decode cX8_find 36 = .ok (.iaload, 1) := DX8_find_0 (36, .iaload, 1) (List.mem_of_getElem? (i := 24) rfl)
theorem dX8_find_37 : decode cX8_find 37 = .ok (.aload_n 0, 1) := DX8_find_0 (37, .aload_n 0, 1) (List.mem_of_getElem? (i := 25) rfl)
theorem dX8_find_38 : decode cX8_find 38 = .ok (.iload_n 3, 1) := DX8_find_0 (38, .iload_n 3, 1) (List.mem_of_getElem? (i := 26) rfl)
theorem dX8_find_39 : decode cX8_find 39 = .ok (.invokevirtual 194, 3) := DX8_find_0 (39, .invokevirtual 194, 3) (List.mem_of_getElem? (i := 27) rfl)
theorem dX8_find_42 : decode cX8_find 42 = .ok (.if_icmp .ne 7, 3) := DX8_find_0 (42, .if_icmp .ne 7, 3) (List.mem_of_getElem? (i := 28) rfl)
theorem dX8_find_45 : decode cX8_find 45 = .ok (.iconst 1, 1) := DX8_find_0 (45, .iconst 1, 1) (List.mem_of_getElem? (i := 29) rfl)
theorem dX8_find_46 : decode cX8_find 46 = .ok (.goto 4, 3) := DX8_find_0 (46, .goto 4, 3) (List.mem_of_getElem? (i := 30) rfl)
theorem dX8_find_49 : decode cX8_find 49 = .ok (.iconst 0, 1) := DX8_find_0 (49, .iconst 0, 1) (List.mem_of_getElem? (i := 31) rfl)
theorem dX8_find_50 : decode cX8_find 50 = .ok (.istore_n 2, 1) := DX8_find_0 (50, .istore_n 2, 1) (List.mem_of_getElem? (i := 32) rfl)
theorem dX8_find_51 : decode cX8_find 51 = .ok (.iinc 3 1, 3) := DX8_find_0 (51, .iinc 3 1, 3) (List.mem_of_getElem? (i := 33) rfl)
theorem dX8_find_54 : decode cX8_find 54 = .ok (.goto (-38), 3) := DX8_find_0 (54, .goto (-38), 3) (List.mem_of_getElem? (i := 34) rfl)
theorem dX8_find_57 : decode cX8_find 57 = .ok (.iload_n 2, 1) := DX8_find_0 (57, .iload_n 2, 1) (List.mem_of_getElem? (i := 35) rfl)
theorem dX8_find_58 : decode cX8_find 58 = .ok (.ifCond .eq 5, 3) := DX8_find_0 (58, .ifCond .eq 5, 3) (List.mem_of_getElem? (i := 36) rfl)
theorem dX8_find_61 : decode cX8_find 61 = .ok (.iload_n 1, 1) := DX8_find_0 (61, .iload_n 1, 1) (List.mem_of_getElem? (i := 37) rfl)
theorem dX8_find_62 : decode cX8_find 62 = .ok (.ireturn, 1) := DX8_find_0 (62, .ireturn, 1) (List.mem_of_getElem? (i := 38) rfl)
theorem dX8_find_63 : decode cX8_find 63 = .ok (.iinc 1 1, 3) := DX8_find_0 (63, .iinc 1 1, 3) (List.mem_of_getElem? (i := 39) rfl)
theorem DX8_find_1 : ∀ q ∈ ([(66, .goto (-64), 3), (69, .iconst (-1), 1), (70, .ireturn, 1)] : List (Nat × Instr × Nat)), decode cX8_find q.1 = .ok q.2 := by decide +kernel
theorem dX8_find_66 : decode cX8_find 66 = .ok (.goto (-64), 3) := DX8_find_1 (66, .goto (-64), 3) (List.mem_of_getElem? (i := 0) rfl)
theorem dX8_find_69 : decode cX8_find 69 = .ok (.iconst (-1), 1) := DX8_find_1 (69, .iconst (-1), 1) (List.mem_of_getElem? (i := 1) rfl)
theorem dX8_find_70 : decode cX8_find 70 = .ok (.ireturn, 1) := DX8_find_1 (70, .ireturn, 1) (List.mem_of_getElem? (i := 2) rfl)
abbrev rmX8_find : Room := { frames := 2, cells := 0, slots := 0, locals := 41 }
set_option maxHeartbeats 400000 in
set_option maxRecDepth 100000 in
theorem met_X8_find (l : Launch) (D : va_G) (kA : Nat → ClassId) (a : Nat → Nat) (n : Nat) (V : Sz) {r : Int} (hf : f_X8_find n V = some r) : MP l yX8_find cX8_find 4 (some .int) rmX8_find D kA [.ref (a 0)] (cs_X8 kA a V) (some (vI r)) := by
  refine zPI (own := RX8) rfl rfl (Nat.le_of_ble_eq_true rfl) ?_
  intro p e s m args below meth c ls Q hC hK hP hl hret
  have hl : lv_has ls 4 [(0, .ref (a 0))] := hl
  unfold f_X8_find at hf
  have L2 : ∀ (k2 : Nat) (y1 : Int) (ls : Array Slot), lpF (bX8_find_2 n V) k2 y1 = some r → lv_has ls 4 [(0, .ref (a 0)), (1, vI y1)] → W p l e rmX8_find s m args below meth c s.heap [] 0 0 Q (F0 m 2 ls []) := by
    intro k2
    induction k2 with
    | zero => intro y1 ls hf hl; exact lp_0 hf
    | succ k2 ih2 =>
      intro y1 ls hf hl
      have hf := lp_s hf
      rw [bX8_find_2_e] at hf
      have J57 : ∀ (y1 : Int) (y2 : Int) (ls : Array Slot), jX8_find_57 n V (lpF (bX8_find_2 n V) k2) y1 y2 = some r → lv_has ls 4 [(0, .ref (a 0)), (1, vI y1), (2, vI y2)] → W p l e rmX8_find s m args below meth c s.heap [] 0 0 Q (F0 m 57 ls []) := by
        intro y1 y2 ls hf hl
        unfold jX8_find_57 at hf
        refine ziload_n hC.1 hC.2.1 dX8_find_57 rfl (lv_at hl 2 rfl) <| ?_
        obtain ⟨hz_3, hf⟩ := ck_some hf
        refine zif_eq (tgt := 63) hC.1 hC.2.1 hz_3 dX8_find_58 (by decide) (fun hc => ?_) (fun hc => ?_)
        · have hf := it_t hf hc
          obtain ⟨x_4, ex_4⟩ : ∃ y : Int, y = y1 + 1 := ⟨_, rfl⟩
          have hf := nm_at hf ex_4
          refine ziinc (v := x_4) (lv' := [(1, vI x_4), (0, .ref (a 0)), (2, vI y2)]) hC.1 hC.2.1 dX8_find_63 hl (k := 1) rfl ex_4 (by decide) rfl (fun ls hl => ?_)
          exact lv_goto (tgt := 2) hC.1 hC.2.1 dX8_find_66 (by decide) <| ih2 _ _ hf (lv_sub hl [1, 0] rfl)
        · have hf := it_f hf hc
          exact ziload_n hC.1 hC.2.1 dX8_find_61 rfl (lv_at hl 1 rfl) <| hret (Int32.ofInt y1) _ _ (qI hf) dX8_find_62
      have L16 : ∀ (k16 : Nat) (y1 : Int) (y2 : Int) (y3 : Int) (ls : Array Slot), lpF (bX8_find_16 n V (lpF (bX8_find_2 n V) k2)) k16 (y1, y2, y3) = some r → lv_has ls 4 [(0, .ref (a 0)), (1, vI y1), (2, vI y2), (3, vI y3)] → W p l e rmX8_find s m args below meth c s.heap [] 0 0 Q (F0 m 16 ls []) := by
        intro k16
        induction k16 with
        | zero => intro y1 y2 y3 ls hf hl; exact lp_0 hf
        | succ k16 ih16 =>
          intro y1 y2 y3 ls hf hl
          have hf := lp_s hf
          rw [bX8_find_16_e] at hf
          have J50 : ∀ (y1 : Int) (y3 : Int) (z0 : Int) (ls : Array Slot), jX8_find_50 n V (lpF (bX8_find_2 n V) k2) (lpF (bX8_find_16 n V (lpF (bX8_find_2 n V) k2)) k16) y1 y3 z0 = some r → lv_has ls 4 [(0, .ref (a 0)), (1, vI y1), (3, vI y3)] → W p l e rmX8_find s m args below meth c s.heap [] 0 0 Q (F0 m 50 ls [vI z0]) := by
            intro y1 y3 z0 ls hf hl
            unfold jX8_find_50 at hf
            refine zistore_n (lv' := [(2, vI z0), (0, .ref (a 0)), (1, vI y1), (3, vI y3)]) hC.1 hC.2.1 dX8_find_50 rfl hl (by decide) rfl (fun ls hl => ?_)
            obtain ⟨x_9, ex_9⟩ : ∃ y : Int, y = y3 + 1 := ⟨_, rfl⟩
            have hf := nm_at hf ex_9
            refine ziinc (v := x_9) (lv' := [(3, vI x_9), (2, vI z0), (0, .ref (a 0)), (1, vI y1)]) hC.1 hC.2.1 dX8_find_51 hl (k := 3) rfl ex_9 (by decide) rfl (fun ls hl => ?_)
            exact lv_goto (tgt := 16) hC.1 hC.2.1 dX8_find_54 (by decide) <| ih16 _ _ _ _ hf (lv_sub hl [2, 3, 1, 0] rfl)
          refine ziload_n hC.1 hC.2.1 dX8_find_16 rfl (lv_at hl 3 rfl) <| zbipush hC.1 hC.2.1 dX8_find_17 (by decide) <| ?_
          obtain ⟨hz_2, hf⟩ := ck_some hf
          refine zicmp_ge (tgt := 57) hC.1 hC.2.1 ⟨hz_2, (by decide)⟩ dX8_find_19 (by decide) (fun hc => ?_) (fun hc => ?_)
          · have hf := it_t hf hc
            exact J57 _ _ _ hf (lv_sub hl [0, 1, 2] rfl)
          · have hf := it_f hf hc
            refine ziload_n hC.1 hC.2.1 dX8_find_22 rfl (lv_at hl 2 rfl) <| ?_
            obtain ⟨hz_5, hf⟩ := ck_some hf
            refine zif_eq (tgt := 57) hC.1 hC.2.1 hz_5 dX8_find_23 (by decide) (fun hc => ?_) (fun hc => ?_)
            · have hf := it_t hf hc
              exact J57 _ _ _ hf (lv_sub hl [0, 1, 2] rfl)
            · have hf := it_f hf hc
              refine lv_aload_n hC.1 hC.2.1 dX8_find_26 rfl (lv_at hl 0 rfl) <| gfX8_25 hC hK hP (q0 := 0) rfl rfl dX8_find_27 <| zbipush hC.1 hC.2.1 dX8_find_30 (by decide) <| ziload_n hC.1 hC.2.1 dX8_find_32 rfl (lv_at hl 1 rfl) <| zimul hC.1 hC.2.1 dX8_find_33 <| ziload_n hC.1 hC.2.1 dX8_find_34 rfl (lv_at hl 3 rfl) <| ziadd hC.1 hC.2.1 dX8_find_35 <| ?_
              obtain ⟨hz_6, hf⟩ := ck_some hf
              refine jal hC hK hP (q0 := 6) rfl (Nat.le_of_ble_eq_true rfl) hz_6 rfl dX8_find_36 <| lv_aload_n hC.1 hC.2.1 dX8_find_37 rfl (lv_at hl 0 rfl) <| ziload_n hC.1 hC.2.1 dX8_find_38 rfl (lv_at hl 3 rfl) <| ?_
              obtain ⟨r_7, hu, hf⟩ := bd_some hf
              refine zcVP (As := [vI y3]) (rest := [vI (V 7 ((6 * y1) + y3).toNat)]) hC hK (met_X8_letterHere l D kA a V y3 hu) zwX8_194 hP (q0 := 0) rfl rfl rfl rfl hl.1 rfl (Nat.le_of_ble_eq_true rfl) ⟨Nat.le_of_ble_eq_true rfl, Nat.le_of_ble_eq_true rfl⟩ ⟨rfl, rfl⟩ ⟨Nat.le_refl _, Nat.le_refl _⟩ dX8_find_39 <| ?_
              obtain ⟨hz_8, hf⟩ := ck_some hf
              refine zicmp_ne (tgt := 49) hC.1 hC.2.1 ⟨hz_8.1, hz_8.2⟩ dX8_find_42 (by decide) (fun hc => ?_) (fun hc => ?_)
              · have hf := it_f hf hc
                exact ziconst hC.1 hC.2.1 dX8_find_49 <| J50 _ _ _ _ hf (lv_sub hl [0, 1, 3] rfl)
              · have hf := it_t hf hc
                exact ziconst hC.1 hC.2.1 dX8_find_45 <| lv_goto (tgt := 50) hC.1 hC.2.1 dX8_find_46 (by decide) <| J50 _ _ _ _ hf (lv_sub hl [0, 1, 3] rfl)
      refine ziload_n hC.1 hC.2.1 dX8_find_2 rfl (lv_at hl 1 rfl) <| lv_aload_n hC.1 hC.2.1 dX8_find_3 rfl (lv_at hl 0 rfl) <| gfX8_7 hC hK hP (q0 := 0) rfl rfl dX8_find_4 <| ziconst hC.1 hC.2.1 dX8_find_7 <| jal hC hK hP (q0 := 1) rfl (Nat.le_of_ble_eq_true rfl) (by decide) rfl dX8_find_8 <| ?_
      obtain ⟨hz_1, hf⟩ := ck_some hf
      refine zicmp_ge (tgt := 69) hC.1 hC.2.1 ⟨hz_1.1, hz_1.2⟩ dX8_find_9 (by decide) (fun hc => ?_) (fun hc => ?_)
      · have hf := it_t hf hc
        exact ziconst hC.1 hC.2.1 dX8_find_69 <| hret (Int32.ofInt (-1)) _ _ (qI hf) dX8_find_70
      · have hf := it_f hf hc
        refine ziconst hC.1 hC.2.1 dX8_find_12 <| zistore_n (lv' := [(2, vI 1), (0, .ref (a 0)), (1, vI y1)]) hC.1 hC.2.1 dX8_find_13 rfl hl (by decide) rfl (fun ls hl => ?_)
        refine ziconst hC.1 hC.2.1 dX8_find_14 <| zistore_n (lv' := [(3, vI 0), (2, vI 1), (0, .ref (a 0)), (1, vI y1)]) hC.1 hC.2.1 dX8_find_15 rfl hl (by decide) rfl (fun ls hl => ?_)
        exact L16 n _ _ _ _ hf (lv_sub hl [2, 3, 1, 0] rfl)
  refine ziconst hC.1 hC.2.1 dX8_find_0 <| zistore_n (lv' := [(1, vI 0), (0, .ref (a 0))]) hC.1 hC.2.1 dX8_find_1 rfl hl (by decide) rfl (fun ls hl => ?_)
  exact L2 n _ _ hf (lv_sub hl [1, 0] rfl)
theorem DX8_readMoney_0 : ∀ q ∈ ([(0, .aload_n 0, 1), (1, .getfield 7, 3), (4, .iconst 2, 1), (5, .iaload, 1), (6, .istore_n 1, 1), (7, .aload_n 0, 1), (8, .iload_n 1, 1), (9, .bipush 60, 2), (11, .if_icmp .ge 7, 3), (14, .iconst 1, 1), (15, .goto 4, 3), (18, .iconst 0, 1), (19, .invokevirtual 197, 3), (22, .ifCond .ne 5, 3), (25, .iconst 0, 1), (26, .ireturn, 1), (27, .aload_n 0, 1), (28, .iload_n 1, 1), (29, .invokevirtual 214, 3), (32, .aload_n 0, 1), (33, .bipush 113, 2), (35, .iload_n 1, 1), (36, .iadd, 1), (37, .iconst 0, 1), (38, .sipush 9999, 3), (41, .invokevirtual 208, 3), (44, .ifCond .eq 37, 3), (47, .aload_n 0, 1), (48, .sipush 173, 3), (51, .iload_n 1, 1), (52, .iadd, 1), (53, .iconst 1, 1), (54, .ldc 207, 2), (56, .invokevirtual 208, 3), (59, .ifCond .eq 22, 3), (62, .aload_n 0, 1), (63, .sipush 233, 3), (66, .iload_n 1, 1), (67, .iadd, 1), (68, .iconst 0, 1)] : List (Nat × Instr × Nat)), decode cX8_readMoney q.1 = .ok q.2 := by decide +kernel
theorem dX8_readMoney_0 : decode cX8_readMoney 0 = .ok (.aload_n 0, 1) := DX8_readMoney_0 (0, .aload_n 0, 1) (List.mem_of_getElem? (i := 0) rfl)
theorem dX8_readMoney_1 : decode cX8_readMoney 1 = .ok (.getfield 7, 3) := DX8_readMoney_0 (1, .getfield 7, 3) (List.mem_of_getElem? (i := 1) rfl)
theorem dX8_readMoney_4 : decode cX8_readMoney 4 = .ok (.iconst 2, 1) := DX8_readMoney_0 (4, .iconst 2, 1) (List.mem_of_getElem? (i := 2) rfl)
theorem dX8_readMoney_5 : decode cX8_readMoney 5 = .ok (.iaload, 1) := DX8_readMoney_0 (5, .iaload, 1) (List.mem_of_getElem? (i := 3) rfl)
theorem dX8_readMoney_6 : decode cX8_readMoney 6 = .ok (.istore_n 1, 1) := DX8_readMoney_0 (6, .istore_n 1, 1) (List.mem_of_getElem? (i := 4) rfl)
theorem dX8_readMoney_7 : decode cX8_readMoney 7 = .ok (.aload_n 0, 1) := DX8_readMoney_0 (7, .aload_n 0, 1) (List.mem_of_getElem? (i := 5) rfl)
theorem dX8_readMoney_8 : decode cX8_readMoney 8 = .ok (.iload_n 1, 1) := DX8_readMoney_0 (8, .iload_n 1, 1) (List.mem_of_getElem? (i := 6) rfl)
theorem dX8_readMoney_9 : decode cX8_readMoney 9 = .ok (.bipush 60, 2) := DX8_readMoney_0 (9, .bipush 60, 2) (List.mem_of_getElem? (i := 7) rfl)
theorem dX8_readMoney_11 : decode cX8_readMoney 11 = .ok (.if_icmp .ge 7, 3) := DX8_readMoney_0 (11, .if_icmp .ge 7, 3) (List.mem_of_getElem? (i := 8) rfl)
theorem dX8_readMoney_14 : decode cX8_readMoney 14 = .ok (.iconst 1, 1) := DX8_readMoney_0 (14, .iconst 1, 1) (List.mem_of_getElem? (i := 9) rfl)
theorem dX8_readMoney_15 : decode cX8_readMoney 15 = .ok (.goto 4, 3) := DX8_readMoney_0 (15, .goto 4, 3) (List.mem_of_getElem? (i := 10) rfl)
theorem dX8_readMoney_18 : decode cX8_readMoney 18 = .ok (.iconst 0, 1) := DX8_readMoney_0 (18, .iconst 0, 1) (List.mem_of_getElem? (i := 11) rfl)
theorem dX8_readMoney_19 : decode cX8_readMoney 19 = .ok (.invokevirtual 197, 3) := DX8_readMoney_0 (19, .invokevirtual 197, 3) (List.mem_of_getElem? (i := 12) rfl)
theorem dX8_readMoney_22 : decode cX8_readMoney 22 = .ok (.ifCond .ne 5, 3) := DX8_readMoney_0 (22, .ifCond .ne 5, 3) (List.mem_of_getElem? (i := 13) rfl)
theorem dX8_readMoney_25 : decode cX8_readMoney 25 = .ok (.iconst 0, 1) := DX8_readMoney_0 (25, .iconst 0, 1) (List.mem_of_getElem? (i := 14) rfl)
theorem dX8_readMoney_26 : decode cX8_readMoney 26 = .ok (.ireturn, 1) := DX8_readMoney_0 (26, .ireturn, 1) (List.mem_of_getElem? (i := 15) rfl)
theorem dX8_readMoney_27 : decode cX8_readMoney 27 = .ok (.aload_n 0, 1) := DX8_readMoney_0 (27, .aload_n 0, 1) (List.mem_of_getElem? (i := 16) rfl)
theorem dX8_readMoney_28 : decode cX8_readMoney 28 = .ok (.iload_n 1, 1) := DX8_readMoney_0 (28, .iload_n 1, 1) (List.mem_of_getElem? (i := 17) rfl)
theorem dX8_readMoney_29 : decode cX8_readMoney 29 = .ok (.invokevirtual 214, 3) := DX8_readMoney_0 (29, .invokevirtual 214, 3) (List.mem_of_getElem? (i := 18) rfl)
theorem dX8_readMoney_32 : decode cX8_readMoney 32 = .ok (.aload_n 0, 1) := DX8_readMoney_0 (32, .aload_n 0, 1) (List.mem_of_getElem? (i := 19) rfl)
theorem dX8_readMoney_33 : decode cX8_readMoney 33 = .ok (.bipush 113, 2) := DX8_readMoney_0 (33, .bipush 113, 2) (List.mem_of_getElem? (i := 20) rfl)
theorem dX8_readMoney_35 : decode cX8_readMoney 35 = .ok (.iload_n 1, 1) := DX8_readMoney_0 (35, .iload_n 1, 1) (List.mem_of_getElem? (i := 21) rfl)
theorem dX8_readMoney_36 : decode cX8_readMoney 36 = .ok (.iadd, 1) := DX8_readMoney_0 (36, .iadd, 1) (List.mem_of_getElem? (i := 22) rfl)
theorem dX8_readMoney_37 : decode cX8_readMoney 37 = .ok (.iconst 0, 1) := DX8_readMoney_0 (37, .iconst 0, 1) (List.mem_of_getElem? (i := 23) rfl)
theorem dX8_readMoney_38 : decode cX8_readMoney 38 = .ok (.sipush 9999, 3) := DX8_readMoney_0 (38, .sipush 9999, 3) (List.mem_of_getElem? (i := 24) rfl)
theorem dX8_readMoney_41 : decode cX8_readMoney 41 = .ok (.invokevirtual 208, 3) := DX8_readMoney_0 (41, .invokevirtual 208, 3) (List.mem_of_getElem? (i := 25) rfl)
theorem dX8_readMoney_44 : decode cX8_readMoney 44 = .ok (.ifCond .eq 37, 3) := DX8_readMoney_0 (44, .ifCond .eq 37, 3) (List.mem_of_getElem? (i := 26) rfl)
theorem dX8_readMoney_47 : decode cX8_readMoney 47 = .ok (.aload_n 0, 1) := DX8_readMoney_0 (47, .aload_n 0, 1) (List.mem_of_getElem? (i := 27) rfl)
theorem dX8_readMoney_48 : decode cX8_readMoney 48 = .ok (.sipush 173, 3) := DX8_readMoney_0 (48, .sipush 173, 3) (List.mem_of_getElem? (i := 28) rfl)
theorem dX8_readMoney_51 : decode cX8_readMoney 51 = .ok (.iload_n 1, 1) := DX8_readMoney_0 (51, .iload_n 1, 1) (List.mem_of_getElem? (i := 29) rfl)
theorem dX8_readMoney_52 : decode cX8_readMoney 52 = .ok (.iadd, 1) := DX8_readMoney_0 (52, .iadd, 1) (List.mem_of_getElem? (i := 30) rfl)
theorem dX8_readMoney_53 : decode cX8_readMoney 53 = .ok (.iconst 1, 1) := DX8_readMoney_0 (53, .iconst 1, 1) (List.mem_of_getElem? (i := 31) rfl)
theorem dX8_readMoney_54 : decode cX8_readMoney 54 = .ok (.ldc 207, 2) := DX8_readMoney_0 (54, .ldc 207, 2) (List.mem_of_getElem? (i := 32) rfl)
theorem dX8_readMoney_56 : decode cX8_readMoney 56 = .ok (.invokevirtual 208, 3) := DX8_readMoney_0 (56, .invokevirtual 208, 3) (List.mem_of_getElem? (i := 33) rfl)
theorem dX8_readMoney_59 : decode cX8_readMoney 59 = .ok (.ifCond .eq 22, 3) := DX8_readMoney_0 (59, .ifCond .eq 22, 3) (List.mem_of_getElem? (i := 34) rfl)
theorem dX8_readMoney_62 : decode cX8_readMoney 62 = .ok (.aload_n 0, 1) := DX8_readMoney_0 (62, .aload_n 0, 1) (List.mem_of_getElem? (i := 35) rfl)
theorem dX8_readMoney_63 : decode cX8_readMoney 63 = .ok (.sipush 233, 3) := DX8_readMoney_0 (63, .sipush 233, 3) (List.mem_of_getElem? (i := 36) rfl)
theorem dX8_readMoney_66 : decode cX8_readMoney 66 = .ok (.iload_n 1, 1) := DX8_readMoney_0 (66, .iload_n 1, 1) (List.mem_of_getElem? (i := 37) rfl)
theorem dX8_readMoney_67 : decode cX8_readMoney 67 = .ok (.iadd, 1) := DX8_readMoney_0 (67, .iadd, 1) (List.mem_of_getElem? (i := 38) rfl)
theorem dX8_readMoney_68 : decode cX8_readMoney 68 = .ok (.iconst 0, 1) := DX8_readMoney_0 (68, .iconst 0, 1) (List.mem_of_getElem? (i := 39) rfl)
theorem DX8_readMoney_1 : ∀ q ∈ ([(69, .ldc 207, 2), (71, .invokevirtual 208, 3), (74, .ifCond .eq 7, 3), (77, .iconst 1, 1), (78, .goto 4, 3), (81, .iconst 0, 1), (82, .ireturn, 1)] : List (Nat × Instr × Nat)), decode cX8_readMoney q.1 = .ok q.2 := by decide +kernel
theorem dX8_readMoney_69 : decode cX8_readMoney 69 = .ok (.ldc 207, 2) := DX8_readMoney_1 (69, .ldc 207, 2) (List.mem_of_getElem? (i := 0) rfl)
theorem dX8_readMoney_71 : decode cX8_readMoney 71 = .ok (.invokevirtual 208, 3) := DX8_readMoney_1 (71, .invokevirtual 208, 3) (List.mem_of_getElem? (i := 1) rfl)
theorem dX8_readMoney_74 : decode cX8_readMoney 74 = .ok (.ifCond .eq 7, 3) := DX8_readMoney_1 (74, .ifCond .eq 7, 3) (List.mem_of_getElem? (i := 2) rfl)
theorem dX8_readMoney_77 : decode cX8_readMoney 77 = .ok (.iconst 1, 1) := DX8_readMoney_1 (77, .iconst 1, 1) (List.mem_of_getElem? (i := 3) rfl)
theorem dX8_readMoney_78 : decode cX8_readMoney 78 = .ok (.goto 4, 3) := DX8_readMoney_1 (78, .goto 4, 3) (List.mem_of_getElem? (i := 4) rfl)
theorem dX8_readMoney_81 : decode cX8_readMoney 81 = .ok (.iconst 0, 1) := DX8_readMoney_1 (81, .iconst 0, 1) (List.mem_of_getElem? (i := 5) rfl)
theorem dX8_readMoney_82 : decode cX8_readMoney 82 = .ok (.ireturn, 1) := DX8_readMoney_1 (82, .ireturn, 1) (List.mem_of_getElem? (i := 6) rfl)
abbrev rmX8_readMoney : Room := { frames := 3, cells := 0, slots := 0, locals := 66 }
set_option maxHeartbeats 400000 in
set_option maxRecDepth 100000 in
theorem met_X8_readMoney (l : Launch) (D : va_G) (kA : Nat → ClassId) (a : Nat → Nat) (n : Nat) (V0 : Sz) (hDt : ∀ w : Sz, va_D (fun _ => True) (cs_X8 kA a w)) {r : Bool} {Vr : Sz} (hf : f_X8_readMoney n V0 = some (r, Vr)) : MZ l yX8_readMoney cX8_readMoney 2 (some .boolean) rmX8_readMoney D kA [.ref (a 0)] (cs_X8 kA a V0) (cs_X8 kA a Vr) (some (vI (bI r))) := by
  refine zZZ (own := RX8) rfl rfl (Nat.le_of_ble_eq_true rfl) ?_
  intro p e s m args below meth c ls Q hC hK hP hl hret
  have hl : lv_has ls 2 [(0, .ref (a 0))] := hl
  have hS : va_S (zF (cs_X8 kA a V0)) s.heap s.heap [] := va_S.rf
  have hD := zDself (C := fun w : Sz => (cs_X8 kA a w)) hDt V0 (fun _ => rfl)
  try dsimp only at hD
  generalize hAe : zF (cs_X8 kA a V0) = A0 at hS hD hret
  unfold f_X8_readMoney at hf
  have J19 : ∀ (y1 : Int) (V : Sz) (z0 : Int) (H : Heap) (locs : List Loc) (ls : Array Slot), jX8_readMoney_19 n y1 V z0 = some (r, Vr) → va_P D vwCl (cs_X8 kA a V) H → va_S A0 s.heap H locs → lv_has ls 2 [(0, .ref (a 0)), (1, vI y1)] → W p l e rmX8_readMoney s m args below meth c H locs 0 0 Q (F0 m 19 ls [vI z0, .ref (a 0)]) := by
    intro y1 V z0 H locs ls hf hP hS hl
    unfold jX8_readMoney_19 at hf
    obtain ⟨⟨r_3, V_4⟩, hu, hf⟩ := bd_some hf
    have hDc := hDt
    refine zcVZ (As := [vI z0]) (rest := []) hC hK (met_X8_starts l D kA a n V z0 hDc hu) zwX8_197 hS (zFsub (hD V) [0, 1, 2, 3, 4, 5, 6, 7, 8, 9, 10, 11, 12, 13, 14, 15, 16] rfl) hP (q0 := 0) rfl rfl rfl rfl hl.1 rfl (Nat.le_of_ble_eq_true rfl) ⟨Nat.le_of_ble_eq_true rfl, Nat.le_of_ble_eq_true rfl⟩ ⟨rfl, rfl⟩ ⟨Nat.le_refl _, Nat.le_refl _⟩ dX8_readMoney_19 (fun H locs hP1 hk1 hS => ?_)
    have hP : va_P D vwCl (cs_X8 kA a V_4) H := hP1
    refine zifb_ne (tgt := 27) hC.1 hC.2.1 dX8_readMoney_22 (by decide) (fun hc => ?_) (fun hc => ?_)
    · have hf := it_t hf hc
      refine lv_aload_n hC.1 hC.2.1 dX8_readMoney_27 rfl (lv_at hl 0 rfl) <| ziload_n hC.1 hC.2.1 dX8_readMoney_28 rfl (lv_at hl 1 rfl) <| ?_
      obtain ⟨V_5, hu, hf⟩ := bd_some hf
      have hDc := hDt
      refine zcVZ (As := [vI y1]) (rest := []) hC hK (met_X8_clearsParts l D kA a n V_4 y1 hDc hu) zwX8_214 hS (zFsub (hD V_4) [0, 1, 2, 3, 4, 5, 6, 7, 8, 9, 10, 11, 12, 13, 14, 15, 16] rfl) hP (q0 := 0) rfl rfl rfl rfl hl.1 rfl (Nat.le_of_ble_eq_true rfl) ⟨Nat.le_of_ble_eq_true rfl, Nat.le_of_ble_eq_true rfl⟩ ⟨rfl, rfl⟩ ⟨Nat.le_refl _, Nat.le_refl _⟩ dX8_readMoney_29 (fun H locs hP1 hk1 hS => ?_)
      have hP : va_P D vwCl (cs_X8 kA a V_5) H := hP1
      refine lv_aload_n hC.1 hC.2.1 dX8_readMoney_32 rfl (lv_at hl 0 rfl) <| zbipush hC.1 hC.2.1 dX8_readMoney_33 (by decide) <| ziload_n hC.1 hC.2.1 dX8_readMoney_35 rfl (lv_at hl 1 rfl) <| ziadd hC.1 hC.2.1 dX8_readMoney_36 <| ziconst hC.1 hC.2.1 dX8_readMoney_37 <| zsipush hC.1 hC.2.1 dX8_readMoney_38 (by decide) <| ?_
      obtain ⟨⟨r_6, V_7⟩, hu, hf⟩ := bd_some hf
      have hDc := hDt
      refine zcVZ (As := [vI (113 + y1), vI 0, vI 9999]) (rest := []) hC hK (met_X8_takesInto l D kA a n V_5 (113 + y1) 0 9999 hDc hu) zwX8_208 hS (zFsub (hD V_5) [0, 1, 2, 3, 4, 5, 6, 7, 8, 9, 10, 11, 12, 13, 14, 15, 16] rfl) hP (q0 := 0) rfl rfl rfl rfl hl.1 rfl (Nat.le_of_ble_eq_true rfl) ⟨Nat.le_of_ble_eq_true rfl, Nat.le_of_ble_eq_true rfl⟩ ⟨rfl, rfl⟩ ⟨Nat.le_refl _, Nat.le_refl _⟩ dX8_readMoney_41 (fun H locs hP1 hk1 hS => ?_)
      have hP : va_P D vwCl (cs_X8 kA a V_7) H := hP1
      refine zifb_eq (tgt := 81) hC.1 hC.2.1 dX8_readMoney_44 (by decide) (fun hc => ?_) (fun hc => ?_)
      · have hf := it_t hf hc
        refine ziconst hC.1 hC.2.1 dX8_readMoney_81 <| ?_
        have hf := Option.some.inj hf
        simp only [Prod.mk.injEq] at hf
        exact hret (Int32.ofInt (bI false)) _ _ _ _ (zb01 _) (congrArg (fun z => some (vI (bI z))) hf.1.symm) (by rw [← hf.2]; exact hP) hS dX8_readMoney_82
      · have hf := it_f hf hc
        refine lv_aload_n hC.1 hC.2.1 dX8_readMoney_47 rfl (lv_at hl 0 rfl) <| zsipush hC.1 hC.2.1 dX8_readMoney_48 (by decide) <| ziload_n hC.1 hC.2.1 dX8_readMoney_51 rfl (lv_at hl 1 rfl) <| ziadd hC.1 hC.2.1 dX8_readMoney_52 <| ziconst hC.1 hC.2.1 dX8_readMoney_53 <| zldc (n := 999999) hC qw_1434 (by decide) dX8_readMoney_54 <| ?_
        obtain ⟨⟨r_8, V_9⟩, hu, hf⟩ := bd_some hf
        have hDc := hDt
        refine zcVZ (As := [vI (173 + y1), vI 1, vI 999999]) (rest := []) hC hK (met_X8_takesInto l D kA a n V_7 (173 + y1) 1 999999 hDc hu) zwX8_208 hS (zFsub (hD V_7) [0, 1, 2, 3, 4, 5, 6, 7, 8, 9, 10, 11, 12, 13, 14, 15, 16] rfl) hP (q0 := 0) rfl rfl rfl rfl hl.1 rfl (Nat.le_of_ble_eq_true rfl) ⟨Nat.le_of_ble_eq_true rfl, Nat.le_of_ble_eq_true rfl⟩ ⟨rfl, rfl⟩ ⟨Nat.le_refl _, Nat.le_refl _⟩ dX8_readMoney_56 (fun H locs hP1 hk1 hS => ?_)
        have hP : va_P D vwCl (cs_X8 kA a V_9) H := hP1
        refine zifb_eq (tgt := 81) hC.1 hC.2.1 dX8_readMoney_59 (by decide) (fun hc => ?_) (fun hc => ?_)
        · have hf := it_t hf hc
          refine ziconst hC.1 hC.2.1 dX8_readMoney_81 <| ?_
          have hf := Option.some.inj hf
          simp only [Prod.mk.injEq] at hf
          exact hret (Int32.ofInt (bI false)) _ _ _ _ (zb01 _) (congrArg (fun z => some (vI (bI z))) hf.1.symm) (by rw [← hf.2]; exact hP) hS dX8_readMoney_82
        · have hf := it_f hf hc
          refine lv_aload_n hC.1 hC.2.1 dX8_readMoney_62 rfl (lv_at hl 0 rfl) <| zsipush hC.1 hC.2.1 dX8_readMoney_63 (by decide) <| ziload_n hC.1 hC.2.1 dX8_readMoney_66 rfl (lv_at hl 1 rfl) <| ziadd hC.1 hC.2.1 dX8_readMoney_67 <| ziconst hC.1 hC.2.1 dX8_readMoney_68 <| zldc (n := 999999) hC qw_1434 (by decide) dX8_readMoney_69 <| ?_
          obtain ⟨⟨r_10, V_11⟩, hu, hf⟩ := bd_some hf
          have hDc := hDt
          refine zcVZ (As := [vI (233 + y1), vI 0, vI 999999]) (rest := []) hC hK (met_X8_takesInto l D kA a n V_9 (233 + y1) 0 999999 hDc hu) zwX8_208 hS (zFsub (hD V_9) [0, 1, 2, 3, 4, 5, 6, 7, 8, 9, 10, 11, 12, 13, 14, 15, 16] rfl) hP (q0 := 0) rfl rfl rfl rfl hl.1 rfl (Nat.le_of_ble_eq_true rfl) ⟨Nat.le_of_ble_eq_true rfl, Nat.le_of_ble_eq_true rfl⟩ ⟨rfl, rfl⟩ ⟨Nat.le_refl _, Nat.le_refl _⟩ dX8_readMoney_71 (fun H locs hP1 hk1 hS => ?_)
          have hP : va_P D vwCl (cs_X8 kA a V_11) H := hP1
          refine zifb_eq (tgt := 81) hC.1 hC.2.1 dX8_readMoney_74 (by decide) (fun hc => ?_) (fun hc => ?_)
          · have hf := it_t hf hc
            refine ziconst hC.1 hC.2.1 dX8_readMoney_81 <| ?_
            have hf := Option.some.inj hf
            simp only [Prod.mk.injEq] at hf
            exact hret (Int32.ofInt (bI false)) _ _ _ _ (zb01 _) (congrArg (fun z => some (vI (bI z))) hf.1.symm) (by rw [← hf.2]; exact hP) hS dX8_readMoney_82
          · have hf := it_f hf hc
            refine ziconst hC.1 hC.2.1 dX8_readMoney_77 <| lv_goto (tgt := 82) hC.1 hC.2.1 dX8_readMoney_78 (by decide) <| ?_
            have hf := Option.some.inj hf
            simp only [Prod.mk.injEq] at hf
            exact hret (Int32.ofInt (bI true)) _ _ _ _ (zb01 _) (congrArg (fun z => some (vI (bI z))) hf.1.symm) (by rw [← hf.2]; exact hP) hS dX8_readMoney_82
    · have hf := it_f hf hc
      refine ziconst hC.1 hC.2.1 dX8_readMoney_25 <| ?_
      have hf := Option.some.inj hf
      simp only [Prod.mk.injEq] at hf
      exact hret (Int32.ofInt (bI false)) _ _ _ _ (zb01 _) (congrArg (fun z => some (vI (bI z))) hf.1.symm) (by rw [← hf.2]; exact hP) hS dX8_readMoney_26
  refine lv_aload_n hC.1 hC.2.1 dX8_readMoney_0 rfl (lv_at hl 0 rfl) <| gfX8_7 hC hK hP (q0 := 0) rfl rfl dX8_readMoney_1 <| ziconst hC.1 hC.2.1 dX8_readMoney_4 <| jal hC hK hP (q0 := 1) rfl (Nat.le_of_ble_eq_true rfl) (by decide) rfl dX8_readMoney_5 <| ?_
  refine ztopi (fun x_1 ex_1 => ?_)
  have hf := nm_at hf ex_1
  refine zistore_n (lv' := [(1, vI x_1), (0, .ref (a 0))]) hC.1 hC.2.1 dX8_readMoney_6 rfl hl (by decide) rfl (fun ls hl => ?_)
  refine lv_aload_n hC.1 hC.2.1 dX8_readMoney_7 rfl (lv_at hl 1 rfl) <| ziload_n hC.1 hC.2.1 dX8_readMoney_8 rfl (lv_at hl 0 rfl) <| zbipush hC.1 hC.2.1 dX8_readMoney_9 (by decide) <| ?_
  obtain ⟨hz_2, hf⟩ := ck_some hf
  refine zicmp_ge (tgt := 18) hC.1 hC.2.1 ⟨hz_2, (by decide)⟩ dX8_readMoney_11 (by decide) (fun hc => ?_) (fun hc => ?_)
  · have hf := it_t hf hc
    exact ziconst hC.1 hC.2.1 dX8_readMoney_18 <| J19 _ _ _ _ _ _ hf hP hS (lv_sub hl [1, 0] rfl)
  · have hf := it_f hf hc
    exact ziconst hC.1 hC.2.1 dX8_readMoney_14 <| lv_goto (tgt := 19) hC.1 hC.2.1 dX8_readMoney_15 (by decide) <| J19 _ _ _ _ _ _ hf hP hS (lv_sub hl [1, 0] rfl)
theorem DX8_readCash_0 : ∀ q ∈ ([(0, .aload_n 0, 1), (1, .invokevirtual 217, 3), (4, .ifCond .ne 5, 3), (7, .iconst 0, 1), (8, .ireturn, 1), (9, .aload_n 0, 1), (10, .getfield 7, 3), (13, .iconst 2, 1), (14, .dup2, 1), (15, .iaload, 1), (16, .iconst 1, 1), (17, .iadd, 1), (18, .iastore, 1), (19, .iconst 1, 1), (20, .ireturn, 1)] : List (Nat × Instr × Nat)), decode cX8_readCash q.1 = .ok q.2 := by decide +kernel
theorem dX8_readCash_0 : decode cX8_readCash 0 = .ok (.aload_n 0, 1) := DX8_readCash_0 (0, .aload_n 0, 1) (List.mem_of_getElem? (i := 0) rfl)
theorem dX8_readCash_1 : decode cX8_readCash 1 = .ok (.invokevirtual 217, 3) := DX8_readCash_0 (1, .invokevirtual 217, 3) (List.mem_of_getElem? (i := 1) rfl)
theorem dX8_readCash_4 : decode cX8_readCash 4 = .ok (.ifCond .ne 5, 3) := DX8_readCash_0 (4, .ifCond .ne 5, 3) (List.mem_of_getElem? (i := 2) rfl)
theorem dX8_readCash_7 : decode cX8_readCash 7 = .ok (.iconst 0, 1) := DX8_readCash_0 (7, .iconst 0, 1) (List.mem_of_getElem? (i := 3) rfl)
theorem dX8_readCash_8 : decode cX8_readCash 8 = .ok (.ireturn, 1) := DX8_readCash_0 (8, .ireturn, 1) (List.mem_of_getElem? (i := 4) rfl)
theorem dX8_readCash_9 : decode cX8_readCash 9 = .ok (.aload_n 0, 1) := DX8_readCash_0 (9, .aload_n 0, 1) (List.mem_of_getElem? (i := 5) rfl)
theorem dX8_readCash_10 : decode cX8_readCash 10 = .ok (.getfield 7, 3) := DX8_readCash_0 (10, .getfield 7, 3) (List.mem_of_getElem? (i := 6) rfl)
theorem dX8_readCash_13 : decode cX8_readCash 13 = .ok (.iconst 2, 1) := DX8_readCash_0 (13, .iconst 2, 1) (List.mem_of_getElem? (i := 7) rfl)
theorem dX8_readCash_14 : decode cX8_readCash 14 = .ok (.dup2, 1) := DX8_readCash_0 (14, .dup2, 1) (List.mem_of_getElem? (i := 8) rfl)
theorem dX8_readCash_15 : decode cX8_readCash 15 = .ok (.iaload, 1) := DX8_readCash_0 (15, .iaload, 1) (List.mem_of_getElem? (i := 9) rfl)
theorem dX8_readCash_16 : decode cX8_readCash 16 = .ok (.iconst 1, 1) := DX8_readCash_0 (16, .iconst 1, 1) (List.mem_of_getElem? (i := 10) rfl)
theorem dX8_readCash_17 : decode cX8_readCash 17 = .ok (.iadd, 1) := DX8_readCash_0 (17, .iadd, 1) (List.mem_of_getElem? (i := 11) rfl)
theorem dX8_readCash_18 : decode cX8_readCash 18 = .ok (.iastore, 1) := DX8_readCash_0 (18, .iastore, 1) (List.mem_of_getElem? (i := 12) rfl)
theorem dX8_readCash_19 : decode cX8_readCash 19 = .ok (.iconst 1, 1) := DX8_readCash_0 (19, .iconst 1, 1) (List.mem_of_getElem? (i := 13) rfl)
theorem dX8_readCash_20 : decode cX8_readCash 20 = .ok (.ireturn, 1) := DX8_readCash_0 (20, .ireturn, 1) (List.mem_of_getElem? (i := 14) rfl)
abbrev rmX8_readCash : Room := { frames := 4, cells := 0, slots := 0, locals := 87 }
set_option maxHeartbeats 400000 in
set_option maxRecDepth 100000 in
theorem met_X8_readCash (l : Launch) (D : va_G) (kA : Nat → ClassId) (a : Nat → Nat) (n : Nat) (V0 : Sz) (hDt : ∀ w : Sz, va_D (fun _ => True) (cs_X8 kA a w)) {r : Bool} {Vr : Sz} (hf : f_X8_readCash n V0 = some (r, Vr)) : MZ l yX8_readCash cX8_readCash 1 (some .boolean) rmX8_readCash D kA [.ref (a 0)] (cs_X8 kA a V0) (cs_X8 kA a Vr) (some (vI (bI r))) := by
  refine zZZ (own := RX8) rfl rfl (Nat.le_of_ble_eq_true rfl) ?_
  intro p e s m args below meth c ls Q hC hK hP hl hret
  have hl : lv_has ls 1 [(0, .ref (a 0))] := hl
  have hS : va_S (zF (cs_X8 kA a V0)) s.heap s.heap [] := va_S.rf
  have hD := zDself (C := fun w : Sz => (cs_X8 kA a w)) hDt V0 (fun _ => rfl)
  try dsimp only at hD
  generalize hAe : zF (cs_X8 kA a V0) = A0 at hS hD hret
  unfold f_X8_readCash at hf
  refine lv_aload_n hC.1 hC.2.1 dX8_readCash_0 rfl (lv_at hl 0 rfl) <| ?_
  obtain ⟨⟨r_1, V_2⟩, hu, hf⟩ := bd_some hf
  have hDc := hDt
  refine zcVZ (As := []) (rest := []) hC hK (met_X8_readMoney l D kA a n V0 hDc hu) zwX8_217 hS (zFsub (hD V0) [0, 1, 2, 3, 4, 5, 6, 7, 8, 9, 10, 11, 12, 13, 14, 15, 16] rfl) hP (q0 := 0) rfl rfl rfl rfl hl.1 rfl (Nat.le_of_ble_eq_true rfl) ⟨Nat.le_of_ble_eq_true rfl, Nat.le_of_ble_eq_true rfl⟩ ⟨rfl, rfl⟩ ⟨Nat.le_refl _, Nat.le_refl _⟩ dX8_readCash_1 (fun H locs hP1 hk1 hS => ?_)
  have hP : va_P D vwCl (cs_X8 kA a V_2) H := hP1
  refine zifb_ne (tgt := 9) hC.1 hC.2.1 dX8_readCash_4 (by decide) (fun hc => ?_) (fun hc => ?_)
  · have hf := it_t hf hc
    refine lv_aload_n hC.1 hC.2.1 dX8_readCash_9 rfl (lv_at hl 0 rfl) <| gfX8_7 hC hK hP (q0 := 0) rfl rfl dX8_readCash_10 <| ziconst hC.1 hC.2.1 dX8_readCash_13 <| lv_dup2_11 hC.1 hC.2.1 dX8_readCash_14 rfl rfl <| jal hC hK hP (q0 := 1) rfl (Nat.le_of_ble_eq_true rfl) (by decide) rfl dX8_readCash_15 <| ziconst hC.1 hC.2.1 dX8_readCash_16 <| ziadd hC.1 hC.2.1 dX8_readCash_17 <| ?_
    refine jas hC hK hP (hD V_2) hS (q0 := 1) rfl (Nat.le_of_ble_eq_true rfl) (by decide) rfl dX8_readCash_18 (fun H locs hP hS => ?_)
    obtain ⟨V_3, eV_3⟩ : ∃ y, y = uz V_2 0 2 ((V_2 0 2) + 1) := ⟨_, rfl⟩
    have hf := nm_at hf eV_3
    have hP : va_P D vwCl (cs_X8 kA a V_3) H := by rw [eV_3]; exact hP
    refine ziconst hC.1 hC.2.1 dX8_readCash_19 <| ?_
    have hf := Option.some.inj hf
    simp only [Prod.mk.injEq] at hf
    exact hret (Int32.ofInt (bI true)) _ _ _ _ (zb01 _) (congrArg (fun z => some (vI (bI z))) hf.1.symm) (by rw [← hf.2]; exact hP) hS dX8_readCash_20
  · have hf := it_f hf hc
    refine ziconst hC.1 hC.2.1 dX8_readCash_7 <| ?_
    have hf := Option.some.inj hf
    simp only [Prod.mk.injEq] at hf
    exact hret (Int32.ofInt (bI false)) _ _ _ _ (zb01 _) (congrArg (fun z => some (vI (bI z))) hf.1.symm) (by rw [← hf.2]; exact hP) hS dX8_readCash_8
theorem DX8_readRules_0 : ∀ q ∈ ([(0, .aload_n 0, 1), (1, .getfield 227, 3), (4, .ifCond .ne 16, 3), (7, .aload_n 0, 1), (8, .getfield 7, 3), (11, .iconst 2, 1), (12, .iaload, 1), (13, .ifCond .ne 7, 3), (16, .iconst 1, 1), (17, .goto 4, 3), (20, .iconst 0, 1), (21, .istore_n 1, 1), (22, .aload_n 0, 1), (23, .iconst 1, 1), (24, .putfield 227, 3), (27, .aload_n 0, 1), (28, .iload_n 1, 1), (29, .invokevirtual 197, 3), (32, .ifCond .eq 43, 3), (35, .aload_n 0, 1), (36, .iconst 5, 1), (37, .iconst 0, 1), (38, .bipush 100, 2), (40, .invokevirtual 208, 3), (43, .ifCond .eq 32, 3), (46, .aload_n 0, 1), (47, .bipush 6, 2), (49, .iconst 0, 1), (50, .sipush 9999, 3), (53, .invokevirtual 208, 3), (56, .ifCond .eq 19, 3), (59, .aload_n 0, 1), (60, .bipush 7, 2), (62, .iconst 0, 1), (63, .bipush 100, 2), (65, .invokevirtual 208, 3), (68, .ifCond .eq 7, 3), (71, .iconst 1, 1), (72, .goto 4, 3), (75, .iconst 0, 1)] : List (Nat × Instr × Nat)), decode cX8_readRules q.1 = .ok q.2 := by decide +kernel
theorem dX8_readRules_0 : decode cX8_readRules 0 = .ok (.aload_n 0, 1) := DX8_readRules_0 (0, .aload_n 0, 1) (List.mem_of_getElem? (i := 0) rfl)
theorem dX8_readRules_1 : decode cX8_readRules 1 = .ok (.getfield 227, 3) := DX8_readRules_0 (1, .getfield 227, 3) (List.mem_of_getElem? (i := 1) rfl)
theorem dX8_readRules_4 : decode cX8_readRules 4 = .ok (.ifCond .ne 16, 3) := DX8_readRules_0 (4, .ifCond .ne 16, 3) (List.mem_of_getElem? (i := 2) rfl)
theorem dX8_readRules_7 : decode cX8_readRules 7 = .ok (.aload_n 0, 1) := DX8_readRules_0 (7, .aload_n 0, 1) (List.mem_of_getElem? (i := 3) rfl)
theorem dX8_readRules_8 : decode cX8_readRules 8 = .ok (.getfield 7, 3) := DX8_readRules_0 (8, .getfield 7, 3) (List.mem_of_getElem? (i := 4) rfl)
theorem dX8_readRules_11 : decode cX8_readRules 11 = .ok (.iconst 2, 1) := DX8_readRules_0 (11, .iconst 2, 1) (List.mem_of_getElem? (i := 5) rfl)
theorem dX8_readRules_12 : decode cX8_readRules 12 = .ok (.iaload, 1) := DX8_readRules_0 (12, .iaload, 1) (List.mem_of_getElem? (i := 6) rfl)
theorem dX8_readRules_13 : decode cX8_readRules 13 = .ok (.ifCond .ne 7, 3) := DX8_readRules_0 (13, .ifCond .ne 7, 3) (List.mem_of_getElem? (i := 7) rfl)
theorem dX8_readRules_16 : decode cX8_readRules 16 = .ok (.iconst 1, 1) := DX8_readRules_0 (16, .iconst 1, 1) (List.mem_of_getElem? (i := 8) rfl)
theorem dX8_readRules_17 : decode cX8_readRules 17 = .ok (.goto 4, 3) := DX8_readRules_0 (17, .goto 4, 3) (List.mem_of_getElem? (i := 9) rfl)
theorem dX8_readRules_20 : decode cX8_readRules 20 = .ok (.iconst 0, 1) := DX8_readRules_0 (20, .iconst 0, 1) (List.mem_of_getElem? (i := 10) rfl)
theorem dX8_readRules_21 : decode cX8_readRules 21 = .ok (.istore_n 1, 1) := DX8_readRules_0 (21, .istore_n 1, 1) (List.mem_of_getElem? (i := 11) rfl)
theorem dX8_readRules_22 : decode cX8_readRules 22 = .ok (.aload_n 0, 1) := DX8_readRules_0 (22, .aload_n 0, 1) (List.mem_of_getElem? (i := 12) rfl)
theorem dX8_readRules_23 : decode cX8_readRules 23 = .ok (.iconst 1, 1) := DX8_readRules_0 (23, .iconst 1, 1) (List.mem_of_getElem? (i := 13) rfl)
theorem dX8_readRules_24 : decode cX8_readRules 24 = .ok (.putfield 227, 3) := DX8_readRules_0 (24, .putfield 227, 3) (List.mem_of_getElem? (i := 14) rfl)
theorem dX8_readRules_27 : decode cX8_readRules 27 = .ok (.aload_n 0, 1) := DX8_readRules_0 (27, .aload_n 0, 1) (List.mem_of_getElem? (i := 15) rfl)
theorem dX8_readRules_28 : decode cX8_readRules 28 = .ok (.iload_n 1, 1) := DX8_readRules_0 (28, .iload_n 1, 1) (List.mem_of_getElem? (i := 16) rfl)
theorem dX8_readRules_29 : decode cX8_readRules 29 = .ok (.invokevirtual 197, 3) := DX8_readRules_0 (29, .invokevirtual 197, 3) (List.mem_of_getElem? (i := 17) rfl)
theorem dX8_readRules_32 : decode cX8_readRules 32 = .ok (.ifCond .eq 43, 3) := DX8_readRules_0 (32, .ifCond .eq 43, 3) (List.mem_of_getElem? (i := 18) rfl)
theorem dX8_readRules_35 : decode cX8_readRules 35 = .ok (.aload_n 0, 1) := DX8_readRules_0 (35, .aload_n 0, 1) (List.mem_of_getElem? (i := 19) rfl)
theorem dX8_readRules_36 : decode cX8_readRules 36 = .ok (.iconst 5, 1) := DX8_readRules_0 (36, .iconst 5, 1) (List.mem_of_getElem? (i := 20) rfl)
theorem dX8_readRules_37 : decode cX8_readRules 37 = .ok (.iconst 0, 1) := DX8_readRules_0 (37, .iconst 0, 1) (List.mem_of_getElem? (i := 21) rfl)
theorem dX8_readRules_38 : decode cX8_readRules 38 = .ok (.bipush 100, 2) := DX8_readRules_0 (38, .bipush 100, 2) (List.mem_of_getElem? (i := 22) rfl)
theorem dX8_readRules_40 : decode cX8_readRules 40 = .ok (.invokevirtual 208, 3) := DX8_readRules_0 (40, .invokevirtual 208, 3) (List.mem_of_getElem? (i := 23) rfl)
theorem dX8_readRules_43 : decode cX8_readRules 43 = .ok (.ifCond .eq 32, 3) := DX8_readRules_0 (43, .ifCond .eq 32, 3) (List.mem_of_getElem? (i := 24) rfl)
theorem dX8_readRules_46 : decode cX8_readRules 46 = .ok (.aload_n 0, 1) := DX8_readRules_0 (46, .aload_n 0, 1) (List.mem_of_getElem? (i := 25) rfl)
theorem dX8_readRules_47 : decode cX8_readRules 47 = .ok (.bipush 6, 2) := DX8_readRules_0 (47, .bipush 6, 2) (List.mem_of_getElem? (i := 26) rfl)
theorem dX8_readRules_49 : decode cX8_readRules 49 = .ok (.iconst 0, 1) := DX8_readRules_0 (49, .iconst 0, 1) (List.mem_of_getElem? (i := 27) rfl)
theorem dX8_readRules_50 : decode cX8_readRules 50 = .ok (.sipush 9999, 3) := DX8_readRules_0 (50, .sipush 9999, 3) (List.mem_of_getElem? (i := 28) rfl)
theorem dX8_readRules_53 : decode cX8_readRules 53 = .ok (.invokevirtual 208, 3) := DX8_readRules_0 (53, .invokevirtual 208, 3) (List.mem_of_getElem? (i := 29) rfl)
theorem dX8_readRules_56 : decode cX8_readRules 56 = .ok (.ifCond .eq 19, 3) := DX8_readRules_0 (56, .ifCond .eq 19, 3) (List.mem_of_getElem? (i := 30) rfl)
theorem dX8_readRules_59 : decode cX8_readRules 59 = .ok (.aload_n 0, 1) := DX8_readRules_0 (59, .aload_n 0, 1) (List.mem_of_getElem? (i := 31) rfl)
theorem dX8_readRules_60 : decode cX8_readRules 60 = .ok (.bipush 7, 2) := DX8_readRules_0 (60, .bipush 7, 2) (List.mem_of_getElem? (i := 32) rfl)
theorem dX8_readRules_62 : decode cX8_readRules 62 = .ok (.iconst 0, 1) := DX8_readRules_0 (62, .iconst 0, 1) (List.mem_of_getElem? (i := 33) rfl)
theorem dX8_readRules_63 : decode cX8_readRules 63 = .ok (.bipush 100, 2) := DX8_readRules_0 (63, .bipush 100, 2) (List.mem_of_getElem? (i := 34) rfl)
theorem dX8_readRules_65 : decode cX8_readRules 65 = .ok (.invokevirtual 208, 3) := DX8_readRules_0 (65, .invokevirtual 208, 3) (List.mem_of_getElem? (i := 35) rfl)
theorem dX8_readRules_68 : decode cX8_readRules 68 = .ok (.ifCond .eq 7, 3) := DX8_readRules_0 (68, .ifCond .eq 7, 3) (List.mem_of_getElem? (i := 36) rfl)
theorem dX8_readRules_71 : decode cX8_readRules 71 = .ok (.iconst 1, 1) := DX8_readRules_0 (71, .iconst 1, 1) (List.mem_of_getElem? (i := 37) rfl)
theorem dX8_readRules_72 : decode cX8_readRules 72 = .ok (.goto 4, 3) := DX8_readRules_0 (72, .goto 4, 3) (List.mem_of_getElem? (i := 38) rfl)
theorem dX8_readRules_75 : decode cX8_readRules 75 = .ok (.iconst 0, 1) := DX8_readRules_0 (75, .iconst 0, 1) (List.mem_of_getElem? (i := 39) rfl)
theorem DX8_readRules_1 : ∀ q ∈ ([(76, .ireturn, 1)] : List (Nat × Instr × Nat)), decode cX8_readRules q.1 = .ok q.2 := by decide +kernel
theorem dX8_readRules_76 : decode cX8_readRules 76 = .ok (.ireturn, 1) := DX8_readRules_1 (76, .ireturn, 1) (List.mem_of_getElem? (i := 0) rfl)
abbrev rmX8_readRules : Room := { frames := 3, cells := 0, slots := 0, locals := 66 }
set_option maxHeartbeats 400000 in
set_option maxRecDepth 100000 in
theorem met_X8_readRules (l : Launch) (D : va_G) (kA : Nat → ClassId) (a : Nat → Nat) (n : Nat) (V0 : Sz) (hDt : ∀ w : Sz, va_D (fun _ => True) (cs_X8 kA a w)) {r : Bool} {Vr : Sz} (hf : f_X8_readRules n V0 = some (r, Vr)) : MZ l yX8_readRules cX8_readRules 2 (some .boolean) rmX8_readRules D kA [.ref (a 0)] (cs_X8 kA a V0) (cs_X8 kA a Vr) (some (vI (bI r))) := by
  refine zZZ (own := RX8) rfl rfl (Nat.le_of_ble_eq_true rfl) ?_
  intro p e s m args below meth c ls Q hC hK hP hl hret
  have hl : lv_has ls 2 [(0, .ref (a 0))] := hl
  have hS : va_S (zF (cs_X8 kA a V0)) s.heap s.heap [] := va_S.rf
  have hD := zDself (C := fun w : Sz => (cs_X8 kA a w)) hDt V0 (fun _ => rfl)
  try dsimp only at hD
  generalize hAe : zF (cs_X8 kA a V0) = A0 at hS hD hret
  unfold f_X8_readRules at hf
  have J21 : ∀ (V : Sz) (z0 : Int) (H : Heap) (locs : List Loc) (ls : Array Slot), jX8_readRules_21 n V z0 = some (r, Vr) → va_P D vwCl (cs_X8 kA a V) H → va_S A0 s.heap H locs → lv_has ls 2 [(0, .ref (a 0))] → W p l e rmX8_readRules s m args below meth c H locs 0 0 Q (F0 m 21 ls [vI z0]) := by
    intro V z0 H locs ls hf hP hS hl
    unfold jX8_readRules_21 at hf
    refine zistore_n (lv' := [(1, vI z0), (0, .ref (a 0))]) hC.1 hC.2.1 dX8_readRules_21 rfl hl (by decide) rfl (fun ls hl => ?_)
    refine lv_aload_n hC.1 hC.2.1 dX8_readRules_22 rfl (lv_at hl 1 rfl) <| ziconst hC.1 hC.2.1 dX8_readRules_23 <| ?_
    refine pfX8_227 hC hK hP (hD V) hS (q0 := 0) rfl (Nat.le_of_ble_eq_true rfl) (Or.inr rfl) dX8_readRules_24 (fun H locs hP hS => ?_)
    obtain ⟨V_2, eV_2⟩ : ∃ y, y = us V 24 1 := ⟨_, rfl⟩
    have hf := nm_at hf eV_2
    have hP : va_P D vwCl (cs_X8 kA a V_2) H := by rw [eV_2]; exact hP
    refine lv_aload_n hC.1 hC.2.1 dX8_readRules_27 rfl (lv_at hl 1 rfl) <| ziload_n hC.1 hC.2.1 dX8_readRules_28 rfl (lv_at hl 0 rfl) <| ?_
    obtain ⟨⟨r_3, V_4⟩, hu, hf⟩ := bd_some hf
    have hDc := hDt
    refine zcVZ (As := [vI z0]) (rest := []) hC hK (met_X8_starts l D kA a n V_2 z0 hDc hu) zwX8_197 hS (zFsub (hD V_2) [0, 1, 2, 3, 4, 5, 6, 7, 8, 9, 10, 11, 12, 13, 14, 15, 16] rfl) hP (q0 := 0) rfl rfl rfl rfl hl.1 rfl (Nat.le_of_ble_eq_true rfl) ⟨Nat.le_of_ble_eq_true rfl, Nat.le_of_ble_eq_true rfl⟩ ⟨rfl, rfl⟩ ⟨Nat.le_refl _, Nat.le_refl _⟩ dX8_readRules_29 (fun H locs hP1 hk1 hS => ?_)
    have hP : va_P D vwCl (cs_X8 kA a V_4) H := hP1
    refine zifb_eq (tgt := 75) hC.1 hC.2.1 dX8_readRules_32 (by decide) (fun hc => ?_) (fun hc => ?_)
    · have hf := it_t hf hc
      refine ziconst hC.1 hC.2.1 dX8_readRules_75 <| ?_
      have hf := Option.some.inj hf
      simp only [Prod.mk.injEq] at hf
      exact hret (Int32.ofInt (bI false)) _ _ _ _ (zb01 _) (congrArg (fun z => some (vI (bI z))) hf.1.symm) (by rw [← hf.2]; exact hP) hS dX8_readRules_76
    · have hf := it_f hf hc
      refine lv_aload_n hC.1 hC.2.1 dX8_readRules_35 rfl (lv_at hl 1 rfl) <| ziconst hC.1 hC.2.1 dX8_readRules_36 <| ziconst hC.1 hC.2.1 dX8_readRules_37 <| zbipush hC.1 hC.2.1 dX8_readRules_38 (by decide) <| ?_
      obtain ⟨⟨r_5, V_6⟩, hu, hf⟩ := bd_some hf
      have hDc := hDt
      refine zcVZ (As := [vI 5, vI 0, vI 100]) (rest := []) hC hK (met_X8_takesInto l D kA a n V_4 5 0 100 hDc hu) zwX8_208 hS (zFsub (hD V_4) [0, 1, 2, 3, 4, 5, 6, 7, 8, 9, 10, 11, 12, 13, 14, 15, 16] rfl) hP (q0 := 0) rfl rfl rfl rfl hl.1 rfl (Nat.le_of_ble_eq_true rfl) ⟨Nat.le_of_ble_eq_true rfl, Nat.le_of_ble_eq_true rfl⟩ ⟨rfl, rfl⟩ ⟨Nat.le_refl _, Nat.le_refl _⟩ dX8_readRules_40 (fun H locs hP1 hk1 hS => ?_)
      have hP : va_P D vwCl (cs_X8 kA a V_6) H := hP1
      refine zifb_eq (tgt := 75) hC.1 hC.2.1 dX8_readRules_43 (by decide) (fun hc => ?_) (fun hc => ?_)
      · have hf := it_t hf hc
        refine ziconst hC.1 hC.2.1 dX8_readRules_75 <| ?_
        have hf := Option.some.inj hf
        simp only [Prod.mk.injEq] at hf
        exact hret (Int32.ofInt (bI false)) _ _ _ _ (zb01 _) (congrArg (fun z => some (vI (bI z))) hf.1.symm) (by rw [← hf.2]; exact hP) hS dX8_readRules_76
      · have hf := it_f hf hc
        refine lv_aload_n hC.1 hC.2.1 dX8_readRules_46 rfl (lv_at hl 1 rfl) <| zbipush hC.1 hC.2.1 dX8_readRules_47 (by decide) <| ziconst hC.1 hC.2.1 dX8_readRules_49 <| zsipush hC.1 hC.2.1 dX8_readRules_50 (by decide) <| ?_
        obtain ⟨⟨r_7, V_8⟩, hu, hf⟩ := bd_some hf
        have hDc := hDt
        refine zcVZ (As := [vI 6, vI 0, vI 9999]) (rest := []) hC hK (met_X8_takesInto l D kA a n V_6 6 0 9999 hDc hu) zwX8_208 hS (zFsub (hD V_6) [0, 1, 2, 3, 4, 5, 6, 7, 8, 9, 10, 11, 12, 13, 14, 15, 16] rfl) hP (q0 := 0) rfl rfl rfl rfl hl.1 rfl (Nat.le_of_ble_eq_true rfl) ⟨Nat.le_of_ble_eq_true rfl, Nat.le_of_ble_eq_true rfl⟩ ⟨rfl, rfl⟩ ⟨Nat.le_refl _, Nat.le_refl _⟩ dX8_readRules_53 (fun H locs hP1 hk1 hS => ?_)
        have hP : va_P D vwCl (cs_X8 kA a V_8) H := hP1
        refine zifb_eq (tgt := 75) hC.1 hC.2.1 dX8_readRules_56 (by decide) (fun hc => ?_) (fun hc => ?_)
        · have hf := it_t hf hc
          refine ziconst hC.1 hC.2.1 dX8_readRules_75 <| ?_
          have hf := Option.some.inj hf
          simp only [Prod.mk.injEq] at hf
          exact hret (Int32.ofInt (bI false)) _ _ _ _ (zb01 _) (congrArg (fun z => some (vI (bI z))) hf.1.symm) (by rw [← hf.2]; exact hP) hS dX8_readRules_76
        · have hf := it_f hf hc
          refine lv_aload_n hC.1 hC.2.1 dX8_readRules_59 rfl (lv_at hl 1 rfl) <| zbipush hC.1 hC.2.1 dX8_readRules_60 (by decide) <| ziconst hC.1 hC.2.1 dX8_readRules_62 <| zbipush hC.1 hC.2.1 dX8_readRules_63 (by decide) <| ?_
          obtain ⟨⟨r_9, V_10⟩, hu, hf⟩ := bd_some hf
          have hDc := hDt
          refine zcVZ (As := [vI 7, vI 0, vI 100]) (rest := []) hC hK (met_X8_takesInto l D kA a n V_8 7 0 100 hDc hu) zwX8_208 hS (zFsub (hD V_8) [0, 1, 2, 3, 4, 5, 6, 7, 8, 9, 10, 11, 12, 13, 14, 15, 16] rfl) hP (q0 := 0) rfl rfl rfl rfl hl.1 rfl (Nat.le_of_ble_eq_true rfl) ⟨Nat.le_of_ble_eq_true rfl, Nat.le_of_ble_eq_true rfl⟩ ⟨rfl, rfl⟩ ⟨Nat.le_refl _, Nat.le_refl _⟩ dX8_readRules_65 (fun H locs hP1 hk1 hS => ?_)
          have hP : va_P D vwCl (cs_X8 kA a V_10) H := hP1
          refine zifb_eq (tgt := 75) hC.1 hC.2.1 dX8_readRules_68 (by decide) (fun hc => ?_) (fun hc => ?_)
          · have hf := it_t hf hc
            refine ziconst hC.1 hC.2.1 dX8_readRules_75 <| ?_
            have hf := Option.some.inj hf
            simp only [Prod.mk.injEq] at hf
            exact hret (Int32.ofInt (bI false)) _ _ _ _ (zb01 _) (congrArg (fun z => some (vI (bI z))) hf.1.symm) (by rw [← hf.2]; exact hP) hS dX8_readRules_76
          · have hf := it_f hf hc
            refine ziconst hC.1 hC.2.1 dX8_readRules_71 <| lv_goto (tgt := 76) hC.1 hC.2.1 dX8_readRules_72 (by decide) <| ?_
            have hf := Option.some.inj hf
            simp only [Prod.mk.injEq] at hf
            exact hret (Int32.ofInt (bI true)) _ _ _ _ (zb01 _) (congrArg (fun z => some (vI (bI z))) hf.1.symm) (by rw [← hf.2]; exact hP) hS dX8_readRules_76
  have J20 : ∀ (V : Sz) (H : Heap) (locs : List Loc) (ls : Array Slot), jX8_readRules_20 n V = some (r, Vr) → va_P D vwCl (cs_X8 kA a V) H → va_S A0 s.heap H locs → lv_has ls 2 [(0, .ref (a 0))] → W p l e rmX8_readRules s m args below meth c H locs 0 0 Q (F0 m 20 ls []) := by
    intro V H locs ls hf hP hS hl
    unfold jX8_readRules_20 at hf
    exact ziconst hC.1 hC.2.1 dX8_readRules_20 <| J21 _ _ _ _ _ hf hP hS (lv_sub hl [0] rfl)
  refine lv_aload_n hC.1 hC.2.1 dX8_readRules_0 rfl (lv_at hl 0 rfl) <| gfX8_227 hC hK hP (q0 := 0) rfl rfl dX8_readRules_1 <| ?_
  obtain ⟨hz_1, hf⟩ := ck_some hf
  refine zif_ne (tgt := 20) hC.1 hC.2.1 hz_1 dX8_readRules_4 (by decide) (fun hc => ?_) (fun hc => ?_)
  · have hf := it_f hf hc
    exact J20 _ _ _ _ hf hP hS (lv_sub hl [0] rfl)
  · have hf := it_t hf hc
    refine lv_aload_n hC.1 hC.2.1 dX8_readRules_7 rfl (lv_at hl 0 rfl) <| gfX8_7 hC hK hP (q0 := 0) rfl rfl dX8_readRules_8 <| ziconst hC.1 hC.2.1 dX8_readRules_11 <| jal hC hK hP (q0 := 1) rfl (Nat.le_of_ble_eq_true rfl) (by decide) rfl dX8_readRules_12 <| ?_
    obtain ⟨hz_11, hf⟩ := ck_some hf
    refine zif_ne (tgt := 20) hC.1 hC.2.1 hz_11 dX8_readRules_13 (by decide) (fun hc => ?_) (fun hc => ?_)
    · have hf := it_f hf hc
      exact J20 _ _ _ _ hf hP hS (lv_sub hl [0] rfl)
    · have hf := it_t hf hc
      exact ziconst hC.1 hC.2.1 dX8_readRules_16 <| lv_goto (tgt := 21) hC.1 hC.2.1 dX8_readRules_17 (by decide) <| J21 _ _ _ _ _ hf hP hS (lv_sub hl [0] rfl)
theorem DX8_errorCode_0 : ∀ q ∈ ([(0, .aload_n 0, 1), (1, .iconst 0, 1), (2, .putfield 65, 3), (5, .aload_n 0, 1), (6, .getfield 255, 3), (9, .ireturn, 1)] : List (Nat × Instr × Nat)), decode cX8_errorCode q.1 = .ok q.2 := by decide +kernel
theorem dX8_errorCode_0 : decode cX8_errorCode 0 = .ok (.aload_n 0, 1) := DX8_errorCode_0 (0, .aload_n 0, 1) (List.mem_of_getElem? (i := 0) rfl)
theorem dX8_errorCode_1 : decode cX8_errorCode 1 = .ok (.iconst 0, 1) := DX8_errorCode_0 (1, .iconst 0, 1) (List.mem_of_getElem? (i := 1) rfl)
theorem dX8_errorCode_2 : decode cX8_errorCode 2 = .ok (.putfield 65, 3) := DX8_errorCode_0 (2, .putfield 65, 3) (List.mem_of_getElem? (i := 2) rfl)
theorem dX8_errorCode_5 : decode cX8_errorCode 5 = .ok (.aload_n 0, 1) := DX8_errorCode_0 (5, .aload_n 0, 1) (List.mem_of_getElem? (i := 3) rfl)
theorem dX8_errorCode_6 : decode cX8_errorCode 6 = .ok (.getfield 255, 3) := DX8_errorCode_0 (6, .getfield 255, 3) (List.mem_of_getElem? (i := 4) rfl)
theorem dX8_errorCode_9 : decode cX8_errorCode 9 = .ok (.ireturn, 1) := DX8_errorCode_0 (9, .ireturn, 1) (List.mem_of_getElem? (i := 5) rfl)
abbrev rmX8_errorCode : Room := { frames := 0, cells := 0, slots := 0, locals := 0 }
set_option maxHeartbeats 400000 in
set_option maxRecDepth 100000 in
theorem met_X8_errorCode (l : Launch) (D : va_G) (kA : Nat → ClassId) (a : Nat → Nat) (V0 : Sz) (hDt : ∀ w : Sz, va_D (fun _ => True) (cs_X8 kA a w)) {r : Int} {Vr : Sz} (hf : f_X8_errorCode V0 = some (r, Vr)) : MZ l yX8_errorCode cX8_errorCode 1 (some .int) rmX8_errorCode D kA [.ref (a 0)] (cs_X8 kA a V0) (cs_X8 kA a Vr) (some (vI r)) := by
  refine zZI (own := RX8) rfl rfl (Nat.le_of_ble_eq_true rfl) ?_
  intro p e s m args below meth c ls Q hC hK hP hl hret
  have hl : lv_has ls 1 [(0, .ref (a 0))] := hl
  have hS : va_S (zF (cs_X8 kA a V0)) s.heap s.heap [] := va_S.rf
  have hD := zDself (C := fun w : Sz => (cs_X8 kA a w)) hDt V0 (fun _ => rfl)
  try dsimp only at hD
  generalize hAe : zF (cs_X8 kA a V0) = A0 at hS hD hret
  unfold f_X8_errorCode at hf
  refine lv_aload_n hC.1 hC.2.1 dX8_errorCode_0 rfl (lv_at hl 0 rfl) <| ziconst hC.1 hC.2.1 dX8_errorCode_1 <| ?_
  refine pfX8_65 hC hK hP (hD V0) hS (q0 := 0) rfl (Nat.le_of_ble_eq_true rfl) dX8_errorCode_2 (fun H locs hP hS => ?_)
  obtain ⟨V_1, eV_1⟩ : ∃ y, y = us V0 9 0 := ⟨_, rfl⟩
  have hf := nm_at hf eV_1
  have hP : va_P D vwCl (cs_X8 kA a V_1) H := by rw [eV_1]; exact hP
  refine lv_aload_n hC.1 hC.2.1 dX8_errorCode_5 rfl (lv_at hl 0 rfl) <| gfX8_255 hC hK hP (q0 := 0) rfl rfl dX8_errorCode_6 <| ?_
  have hf := Option.some.inj hf
  simp only [Prod.mk.injEq] at hf
  exact hret (Int32.ofInt (V_1 16 0)) _ _ _ _ (congrArg (fun z => some (vI z)) hf.1.symm) (by rw [← hf.2]; exact hP) hS dX8_errorCode_9
theorem DX8_errorOffset_0 : ∀ q ∈ ([(0, .aload_n 0, 1), (1, .iconst 0, 1), (2, .putfield 65, 3), (5, .aload_n 0, 1), (6, .getfield 46, 3), (9, .ireturn, 1)] : List (Nat × Instr × Nat)), decode cX8_errorOffset q.1 = .ok q.2 := by decide +kernel
theorem dX8_errorOffset_0 : decode cX8_errorOffset 0 = .ok (.aload_n 0, 1) := DX8_errorOffset_0 (0, .aload_n 0, 1) (List.mem_of_getElem? (i := 0) rfl)
theorem dX8_errorOffset_1 : decode cX8_errorOffset 1 = .ok (.iconst 0, 1) := DX8_errorOffset_0 (1, .iconst 0, 1) (List.mem_of_getElem? (i := 1) rfl)
theorem dX8_errorOffset_2 : decode cX8_errorOffset 2 = .ok (.putfield 65, 3) := DX8_errorOffset_0 (2, .putfield 65, 3) (List.mem_of_getElem? (i := 2) rfl)
theorem dX8_errorOffset_5 : decode cX8_errorOffset 5 = .ok (.aload_n 0, 1) := DX8_errorOffset_0 (5, .aload_n 0, 1) (List.mem_of_getElem? (i := 3) rfl)
theorem dX8_errorOffset_6 : decode cX8_errorOffset 6 = .ok (.getfield 46, 3) := DX8_errorOffset_0 (6, .getfield 46, 3) (List.mem_of_getElem? (i := 4) rfl)
theorem dX8_errorOffset_9 : decode cX8_errorOffset 9 = .ok (.ireturn, 1) := DX8_errorOffset_0 (9, .ireturn, 1) (List.mem_of_getElem? (i := 5) rfl)
abbrev rmX8_errorOffset : Room := { frames := 0, cells := 0, slots := 0, locals := 0 }
set_option maxHeartbeats 400000 in
set_option maxRecDepth 100000 in
theorem met_X8_errorOffset (l : Launch) (D : va_G) (kA : Nat → ClassId) (a : Nat → Nat) (V0 : Sz) (hDt : ∀ w : Sz, va_D (fun _ => True) (cs_X8 kA a w)) {r : Int} {Vr : Sz} (hf : f_X8_errorOffset V0 = some (r, Vr)) : MZ l yX8_errorOffset cX8_errorOffset 1 (some .int) rmX8_errorOffset D kA [.ref (a 0)] (cs_X8 kA a V0) (cs_X8 kA a Vr) (some (vI r)) := by
  refine zZI (own := RX8) rfl rfl (Nat.le_of_ble_eq_true rfl) ?_
  intro p e s m args below meth c ls Q hC hK hP hl hret
  have hl : lv_has ls 1 [(0, .ref (a 0))] := hl
  have hS : va_S (zF (cs_X8 kA a V0)) s.heap s.heap [] := va_S.rf
  have hD := zDself (C := fun w : Sz => (cs_X8 kA a w)) hDt V0 (fun _ => rfl)
  try dsimp only at hD
  generalize hAe : zF (cs_X8 kA a V0) = A0 at hS hD hret
  unfold f_X8_errorOffset at hf
  refine lv_aload_n hC.1 hC.2.1 dX8_errorOffset_0 rfl (lv_at hl 0 rfl) <| ziconst hC.1 hC.2.1 dX8_errorOffset_1 <| ?_
  refine pfX8_65 hC hK hP (hD V0) hS (q0 := 0) rfl (Nat.le_of_ble_eq_true rfl) dX8_errorOffset_2 (fun H locs hP hS => ?_)
  obtain ⟨V_1, eV_1⟩ : ∃ y, y = us V0 9 0 := ⟨_, rfl⟩
  have hf := nm_at hf eV_1
  have hP : va_P D vwCl (cs_X8 kA a V_1) H := by rw [eV_1]; exact hP
  refine lv_aload_n hC.1 hC.2.1 dX8_errorOffset_5 rfl (lv_at hl 0 rfl) <| gfX8_46 hC hK hP (q0 := 0) rfl rfl dX8_errorOffset_6 <| ?_
  have hf := Option.some.inj hf
  simp only [Prod.mk.injEq] at hf
  exact hret (Int32.ofInt (V_1 17 0)) _ _ _ _ (congrArg (fun z => some (vI z)) hf.1.symm) (by rw [← hf.2]; exact hP) hS dX8_errorOffset_9
theorem DX8_noDonor_0 : ∀ q ∈ ([(0, .aload_n 0, 1), (1, .iconst 0, 1), (2, .putfield 65, 3), (5, .aload_n 0, 1), (6, .iload_n 1, 1), (7, .iconst 0, 1), (8, .aload_n 0, 1), (9, .getfield 7, 3), (12, .iconst 0, 1), (13, .iaload, 1), (14, .iconst 1, 1), (15, .isub, 1), (16, .invokestatic 79, 3), (19, .ifCond .ne 7, 3), (22, .iconst 1, 1), (23, .goto 4, 3), (26, .iconst 0, 1), (27, .iconst 1, 1), (28, .invokevirtual 261, 3), (31, .ireturn, 1)] : List (Nat × Instr × Nat)), decode cX8_noDonor q.1 = .ok q.2 := by decide +kernel
theorem dX8_noDonor_0 : decode cX8_noDonor 0 = .ok (.aload_n 0, 1) := DX8_noDonor_0 (0, .aload_n 0, 1) (List.mem_of_getElem? (i := 0) rfl)
theorem dX8_noDonor_1 : decode cX8_noDonor 1 = .ok (.iconst 0, 1) := DX8_noDonor_0 (1, .iconst 0, 1) (List.mem_of_getElem? (i := 1) rfl)
theorem dX8_noDonor_2 : decode cX8_noDonor 2 = .ok (.putfield 65, 3) := DX8_noDonor_0 (2, .putfield 65, 3) (List.mem_of_getElem? (i := 2) rfl)
theorem dX8_noDonor_5 : decode cX8_noDonor 5 = .ok (.aload_n 0, 1) := DX8_noDonor_0 (5, .aload_n 0, 1) (List.mem_of_getElem? (i := 3) rfl)
theorem dX8_noDonor_6 : decode cX8_noDonor 6 = .ok (.iload_n 1, 1) := DX8_noDonor_0 (6, .iload_n 1, 1) (List.mem_of_getElem? (i := 4) rfl)
theorem dX8_noDonor_7 : decode cX8_noDonor 7 = .ok (.iconst 0, 1) := DX8_noDonor_0 (7, .iconst 0, 1) (List.mem_of_getElem? (i := 5) rfl)
theorem dX8_noDonor_8 : decode cX8_noDonor 8 = .ok (.aload_n 0, 1) := DX8_noDonor_0 (8, .aload_n 0, 1) (List.mem_of_getElem? (i := 6) rfl)
theorem dX8_noDonor_9 : decode cX8_noDonor 9 = .ok (.getfield 7, 3) := DX8_noDonor_0 (9, .getfield 7, 3) (List.mem_of_getElem? (i := 7) rfl)
theorem dX8_noDonor_12 : decode cX8_noDonor 12 = .ok (.iconst 0, 1) := DX8_noDonor_0 (12, .iconst 0, 1) (List.mem_of_getElem? (i := 8) rfl)
theorem dX8_noDonor_13 : decode cX8_noDonor 13 = .ok (.iaload, 1) := DX8_noDonor_0 (13, .iaload, 1) (List.mem_of_getElem? (i := 9) rfl)
theorem dX8_noDonor_14 : decode cX8_noDonor 14 = .ok (.iconst 1, 1) := DX8_noDonor_0 (14, .iconst 1, 1) (List.mem_of_getElem? (i := 10) rfl)
theorem dX8_noDonor_15 : decode cX8_noDonor 15 = .ok (.isub, 1) := DX8_noDonor_0 (15, .isub, 1) (List.mem_of_getElem? (i := 11) rfl)
theorem dX8_noDonor_16 : decode cX8_noDonor 16 = .ok (.invokestatic 79, 3) := DX8_noDonor_0 (16, .invokestatic 79, 3) (List.mem_of_getElem? (i := 12) rfl)
theorem dX8_noDonor_19 : decode cX8_noDonor 19 = .ok (.ifCond .ne 7, 3) := DX8_noDonor_0 (19, .ifCond .ne 7, 3) (List.mem_of_getElem? (i := 13) rfl)
theorem dX8_noDonor_22 : decode cX8_noDonor 22 = .ok (.iconst 1, 1) := DX8_noDonor_0 (22, .iconst 1, 1) (List.mem_of_getElem? (i := 14) rfl)
theorem dX8_noDonor_23 : decode cX8_noDonor 23 = .ok (.goto 4, 3) := DX8_noDonor_0 (23, .goto 4, 3) (List.mem_of_getElem? (i := 15) rfl)
theorem dX8_noDonor_26 : decode cX8_noDonor 26 = .ok (.iconst 0, 1) := DX8_noDonor_0 (26, .iconst 0, 1) (List.mem_of_getElem? (i := 16) rfl)
theorem dX8_noDonor_27 : decode cX8_noDonor 27 = .ok (.iconst 1, 1) := DX8_noDonor_0 (27, .iconst 1, 1) (List.mem_of_getElem? (i := 17) rfl)
theorem dX8_noDonor_28 : decode cX8_noDonor 28 = .ok (.invokevirtual 261, 3) := DX8_noDonor_0 (28, .invokevirtual 261, 3) (List.mem_of_getElem? (i := 18) rfl)
theorem dX8_noDonor_31 : decode cX8_noDonor 31 = .ok (.ireturn, 1) := DX8_noDonor_0 (31, .ireturn, 1) (List.mem_of_getElem? (i := 19) rfl)
abbrev rmX8_noDonor : Room := { frames := 1, cells := 0, slots := 0, locals := 22 }
set_option maxHeartbeats 400000 in
set_option maxRecDepth 100000 in
theorem met_X8_noDonor (l : Launch) (D : va_G) (kA : Nat → ClassId) (a : Nat → Nat) (V0 : Sz) (x1 : Int) (hDt : ∀ w : Sz, va_D (fun _ => True) (cs_X8 kA a w)) {r : Bool} {Vr : Sz} (hf : f_X8_noDonor V0 x1 = some (r, Vr)) : MZ l yX8_noDonor cX8_noDonor 2 (some .boolean) rmX8_noDonor D kA [.ref (a 0), vI x1] (cs_X8 kA a V0) (cs_X8 kA a Vr) (some (vI (bI r))) := by
  refine zZZ (own := RX8) rfl rfl (Nat.le_of_ble_eq_true rfl) ?_
  intro p e s m args below meth c ls Q hC hK hP hl hret
  have hl : lv_has ls 2 [(0, .ref (a 0)), (1, vI x1)] := hl
  have hS : va_S (zF (cs_X8 kA a V0)) s.heap s.heap [] := va_S.rf
  have hD := zDself (C := fun w : Sz => (cs_X8 kA a w)) hDt V0 (fun _ => rfl)
  try dsimp only at hD
  generalize hAe : zF (cs_X8 kA a V0) = A0 at hS hD hret
  unfold f_X8_noDonor at hf
  have J27 : ∀ (V : Sz) (z0 : Int) (H : Heap) (locs : List Loc) (ls : Array Slot), jX8_noDonor_27 x1 V z0 = some (r, Vr) → va_P D vwCl (cs_X8 kA a V) H → va_S A0 s.heap H locs → lv_has ls 2 [] → W p l e rmX8_noDonor s m args below meth c H locs 0 0 Q (F0 m 27 ls [vI z0, .ref (a 0)]) := by
    intro V z0 H locs ls hf hP hS hl
    unfold jX8_noDonor_27 at hf
    refine ziconst hC.1 hC.2.1 dX8_noDonor_27 <| ?_
    obtain ⟨⟨r_3, V_4⟩, hu, hf⟩ := bd_some hf
    have hDc := hDt
    refine zcVZ (As := [vI z0, vI 1]) (rest := []) hC hK (met_X8_fails l D kA a V z0 1 hDc hu) zwX8_261 hS (zFsub (hD V) [0, 1, 2, 3, 4, 5, 6, 7, 8, 9, 10, 11, 12, 13, 14, 15, 16] rfl) hP (q0 := 0) rfl rfl rfl rfl hl.1 rfl (Nat.le_of_ble_eq_true rfl) ⟨Nat.le_of_ble_eq_true rfl, Nat.le_of_ble_eq_true rfl⟩ ⟨rfl, rfl⟩ ⟨Nat.le_refl _, Nat.le_refl _⟩ dX8_noDonor_28 (fun H locs hP1 hk1 hS => ?_)
    have hP : va_P D vwCl (cs_X8 kA a V_4) H := hP1
    have hf := Option.some.inj hf
    simp only [Prod.mk.injEq] at hf
    exact hret (Int32.ofInt (bI r_3)) _ _ _ _ (zb01 _) (congrArg (fun z => some (vI (bI z))) hf.1.symm) (by rw [← hf.2]; exact hP) hS dX8_noDonor_31
  refine lv_aload_n hC.1 hC.2.1 dX8_noDonor_0 rfl (lv_at hl 0 rfl) <| ziconst hC.1 hC.2.1 dX8_noDonor_1 <| ?_
  refine pfX8_65 hC hK hP (hD V0) hS (q0 := 0) rfl (Nat.le_of_ble_eq_true rfl) dX8_noDonor_2 (fun H locs hP hS => ?_)
  obtain ⟨V_1, eV_1⟩ : ∃ y, y = us V0 9 0 := ⟨_, rfl⟩
  have hf := nm_at hf eV_1
  have hP : va_P D vwCl (cs_X8 kA a V_1) H := by rw [eV_1]; exact hP
  refine lv_aload_n hC.1 hC.2.1 dX8_noDonor_5 rfl (lv_at hl 0 rfl) <| ziload_n hC.1 hC.2.1 dX8_noDonor_6 rfl (lv_at hl 1 rfl) <| ziconst hC.1 hC.2.1 dX8_noDonor_7 <| lv_aload_n hC.1 hC.2.1 dX8_noDonor_8 rfl (lv_at hl 0 rfl) <| gfX8_7 hC hK hP (q0 := 0) rfl rfl dX8_noDonor_9 <| ziconst hC.1 hC.2.1 dX8_noDonor_12 <| jal hC hK hP (q0 := 1) rfl (Nat.le_of_ble_eq_true rfl) (by decide) rfl dX8_noDonor_13 <| ziconst hC.1 hC.2.1 dX8_noDonor_14 <| zisub hC.1 hC.2.1 dX8_noDonor_15 <| ?_
  obtain ⟨r_2, hu, hf⟩ := bd_some hf
  have hPc : va_P D vwCl ([] : va_W) _ := hP.sub [] rfl
  refine zcSP (As := [vI x1, vI 0, vI ((V_1 0 0) - 1)]) (rest := [.ref (a 0)]) hC hK (met_X8_inRange l D kA x1 0 ((V_1 0 0) - 1) hu) zwX8_79 hPc rfl hl.1 rfl (Nat.le_of_ble_eq_true rfl) ⟨Nat.le_of_ble_eq_true rfl, Nat.le_of_ble_eq_true rfl⟩ ⟨rfl, rfl⟩ ⟨Nat.le_refl _, Nat.le_refl _⟩ dX8_noDonor_16 <| zifb_ne (tgt := 26) hC.1 hC.2.1 dX8_noDonor_19 (by decide) (fun hc => ?_) (fun hc => ?_)
  · have hf := it_t hf hc
    exact ziconst hC.1 hC.2.1 dX8_noDonor_26 <| J27 _ _ _ _ _ hf hP hS (lv_sub hl [] rfl)
  · have hf := it_f hf hc
    exact ziconst hC.1 hC.2.1 dX8_noDonor_22 <| lv_goto (tgt := 27) hC.1 hC.2.1 dX8_noDonor_23 (by decide) <| J27 _ _ _ _ _ hf hP hS (lv_sub hl [] rfl)
