def jX8_noDeclaration_27 (x1 : Int) (V : Sz) (z0 : Int) : Option (Bool × Sz) := bd (f_X8_fails V z0 1) fun ((r_3, V_4) : Bool × Sz) => some (r_3, V_4)
def f_X8_noDeclaration (V0 : Sz) (x1 : Int) : Option (Bool × Sz) := nm (us V0 9 0) fun (V_1 : Sz) => bd (f_X8_inRange x1 0 ((V_1 0 1) - 1)) fun (r_2 : Bool) => if r_2 = true then (jX8_noDeclaration_27 x1 V_1 0) else (jX8_noDeclaration_27 x1 V_1 1)
def jX8_noGift_27 (x1 : Int) (V : Sz) (z0 : Int) : Option (Bool × Sz) := bd (f_X8_fails V z0 1) fun ((r_3, V_4) : Bool × Sz) => some (r_3, V_4)
def f_X8_noGift (V0 : Sz) (x1 : Int) : Option (Bool × Sz) := nm (us V0 9 0) fun (V_1 : Sz) => bd (f_X8_inRange x1 0 ((V_1 0 2) - 1)) fun (r_2 : Bool) => if r_2 = true then (jX8_noGift_27 x1 V_1 0) else (jX8_noGift_27 x1 V_1 1)
def jX8_noPart_34 (x1 : Int) (x2 : Int) (V : Sz) (z0 : Int) : Option (Bool × Sz) := bd (f_X8_fails V z0 1) fun ((r_5, V_6) : Bool × Sz) => if r_5 = false then (some (false, V_6)) else (some (true, V_6))
def f_X8_noPart (V0 : Sz) (x1 : Int) (x2 : Int) : Option (Bool × Sz) := bd (f_X8_noGift V0 x1) fun ((r_1, V_2) : Bool × Sz) => if r_1 = true then (some (true, V_2)) else (ck (inZ (293 + x1) 1233) <| bd (f_X8_inRange x2 0 ((V_2 0 (293 + x1).toNat) - 1)) fun (r_4 : Bool) => if r_4 = true then (jX8_noPart_34 x1 x2 V_2 0) else (jX8_noPart_34 x1 x2 V_2 1))
def jX8_giftsWith_48 (n : Nat) (V : Sz) (x1 : Int) (rec4 : Int × Int → Option (Int)) (y3 : Int) (z0 : Int) (z1 : Int) : Option (Int) := nm (z1 + z0) fun (x_5 : Int) => nm (y3 + 1) fun (x_6 : Int) => rec4 (x_5, x_6)
def jX8_giftsWith_47 (n : Nat) (V : Sz) (x1 : Int) (rec4 : Int × Int → Option (Int)) (y3 : Int) (z0 : Int) : Option (Int) := jX8_giftsWith_48 n V x1 rec4 y3 0 z0
def jX8_giftsWith_43 (n : Nat) (V : Sz) (x1 : Int) (rec4 : Int × Int → Option (Int)) (y3 : Int) (z0 : Int) : Option (Int) := jX8_giftsWith_48 n V x1 rec4 y3 1 z0
def bX8_giftsWith_4 (n : Nat) (V : Sz) (x1 : Int) (rec4 : Int × Int → Option (Int)) : Int × Int → Option (Int) := fun (y2, y3) => ck (rng y3 ∧ rng (V 0 2)) <| if V 0 2 ≤ y3 then (some y2) else (ck (rng x1) <| if x1 = 0 then (ck (inZ (293 + y3) 1233) <| ck (rng (V 0 (293 + y3).toNat)) <| if V 0 (293 + y3).toNat = 0 then (jX8_giftsWith_43 n V x1 rec4 y3 y2) else (jX8_giftsWith_47 n V x1 rec4 y3 y2)) else (bd (f_X8_isSpoilt V y3) fun (r_7 : Bool) => if r_7 = false then (jX8_giftsWith_47 n V x1 rec4 y3 y2) else (jX8_giftsWith_43 n V x1 rec4 y3 y2)))
theorem bX8_giftsWith_4_e (n : Nat) (V : Sz) (x1 : Int) (rec4 : Int × Int → Option (Int)) (y2 : Int) (y3 : Int) : bX8_giftsWith_4 n V x1 rec4 (y2, y3) = (ck (rng y3 ∧ rng (V 0 2)) <| if V 0 2 ≤ y3 then (some y2) else (ck (rng x1) <| if x1 = 0 then (ck (inZ (293 + y3) 1233) <| ck (rng (V 0 (293 + y3).toNat)) <| if V 0 (293 + y3).toNat = 0 then (jX8_giftsWith_43 n V x1 rec4 y3 y2) else (jX8_giftsWith_47 n V x1 rec4 y3 y2)) else (bd (f_X8_isSpoilt V y3) fun (r_7 : Bool) => if r_7 = false then (jX8_giftsWith_47 n V x1 rec4 y3 y2) else (jX8_giftsWith_43 n V x1 rec4 y3 y2)))) := rfl
def f_X8_giftsWith (n : Nat) (V : Sz) (x1 : Int) : Option (Int) := lpF (bX8_giftsWith_4 n V x1) n (0, 0)
def jX8_count_21 (n : Nat) (x1 : Int) (V : Sz) (z0 : Int) : Option (Int × Sz) := bd (f_X8_fails V z0 1) fun ((r_3, V_4) : Bool × Sz) => if r_3 = false then (ck (rng x1) <| if x1 = 3 then (bd (f_X8_giftsWith n V_4 0) fun (r_8 : Int) => some (r_8, V_4)) else (if x1 = 8 then (bd (f_X8_giftsWith n V_4 1) fun (r_7 : Int) => some (r_7, V_4)) else (if x1 = 9 then (some (V_4 5 0, V_4)) else (ck (inZ x1 1233) <| some (V_4 0 x1.toNat, V_4))))) else (some (0, V_4))
def f_X8_count (n : Nat) (V0 : Sz) (x1 : Int) : Option (Int × Sz) := nm (us V0 9 0) fun (V_1 : Sz) => bd (f_X8_inRange x1 0 9) fun (r_2 : Bool) => if r_2 = true then (jX8_count_21 n x1 V_1 0) else (jX8_count_21 n x1 V_1 1)
def f_X8_daysOf (V : Sz) (x1 : Int) : Option (Int) := ck (inZ (82 + x1) 1233) <| ck (inZ (51 + x1) 1233) <| ck (rng (((V 0 (82 + x1).toNat) - (V 0 (51 + x1).toNat)) + 1)) <| some (max 0 (((V 0 (82 + x1).toNat) - (V 0 (51 + x1).toNat)) + 1))
def jX8_declaration_23 (x1 : Int) (x2 : Int) (V : Sz) (z0 : Int) : Option (Int × Sz) := bd (f_X8_fails V z0 2) fun ((r_4, V_5) : Bool × Sz) => if r_4 = false then (ck (rng x2) <| if x2 = 0 then (ck (inZ (20 + x1) 1233) <| some (V_5 0 (20 + x1).toNat, V_5)) else (if x2 = 1 then (ck (inZ (51 + x1) 1233) <| some (V_5 0 (51 + x1).toNat, V_5)) else (if x2 = 2 then (ck (inZ (82 + x1) 1233) <| some (V_5 0 (82 + x1).toNat, V_5)) else (bd (f_X8_daysOf V_5 x1) fun (r_7 : Int) => some (r_7, V_5))))) else (some (0, V_5))
def f_X8_declaration (V0 : Sz) (x1 : Int) (x2 : Int) : Option (Int × Sz) := bd (f_X8_noDeclaration V0 x1) fun ((r_1, V_2) : Bool × Sz) => if r_1 = true then (some (0, V_2)) else (bd (f_X8_inRange x2 0 3) fun (r_3 : Bool) => if r_3 = true then (jX8_declaration_23 x1 x2 V_2 0) else (jX8_declaration_23 x1 x2 V_2 1))
def jX8_gift_93 (n : Nat) (x1 : Int) (x2 : Int) (rec42 : Int × Int × Sz → Option (Int × Sz)) (y4 : Int) (V : Sz) (z0 : Int) (z1 : Int) : Option (Int × Sz) := nm (z1 + z0) fun (x_18 : Int) => nm (y4 + 1) fun (x_19 : Int) => rec42 (x_18, x_19, V)
def bX8_gift_42 (n : Nat) (x1 : Int) (x2 : Int) (rec42 : Int × Int × Sz → Option (Int × Sz)) : Int × Int × Sz → Option (Int × Sz) := fun (y3, y4, V) => ck (inZ (293 + x1) 1233) <| ck (rng y4 ∧ rng (V 0 (293 + x1).toNat)) <| if V 0 (293 + x1).toNat ≤ y4 then (ck (rng x2) <| if x2 = 0 then (ck (inZ (113 + x1) 1233) <| some (V 0 (113 + x1).toNat, V)) else (if x2 = 1 then (ck (inZ (173 + x1) 1233) <| some (V 0 (173 + x1).toNat, V)) else (if x2 = 2 then (ck (inZ (233 + x1) 1233) <| some (V 0 (233 + x1).toNat, V)) else (if x2 = 3 then (some (V 0 (293 + x1).toNat, V)) else (if x2 = 4 then (bd (f_X8_leftOfGift V x1) fun (r_13 : Int) => some (r_13, V)) else (if x2 = 5 then (bd (f_X8_isSpoilt V x1) fun (r_14 : Bool) => if r_14 = false then (some (0, V)) else (some (1, V))) else (some (y3, V)))))))) else (ck (rng x2) <| if x2 = 6 then (bd (f_X8_partOf x1 y4) fun (r_20 : Int) => ck (inZ r_20 180) <| jX8_gift_93 n x1 x2 rec42 y4 V (V 12 r_20.toNat) y3) else (bd (f_X8_partOf x1 y4) fun (r_16 : Int) => ck (inZ (953 + r_16) 1233) <| jX8_gift_93 n x1 x2 rec42 y4 V (V 0 (953 + r_16).toNat) y3))
theorem bX8_gift_42_e (n : Nat) (x1 : Int) (x2 : Int) (rec42 : Int × Int × Sz → Option (Int × Sz)) (y3 : Int) (y4 : Int) (V : Sz) : bX8_gift_42 n x1 x2 rec42 (y3, y4, V) = (ck (inZ (293 + x1) 1233) <| ck (rng y4 ∧ rng (V 0 (293 + x1).toNat)) <| if V 0 (293 + x1).toNat ≤ y4 then (ck (rng x2) <| if x2 = 0 then (ck (inZ (113 + x1) 1233) <| some (V 0 (113 + x1).toNat, V)) else (if x2 = 1 then (ck (inZ (173 + x1) 1233) <| some (V 0 (173 + x1).toNat, V)) else (if x2 = 2 then (ck (inZ (233 + x1) 1233) <| some (V 0 (233 + x1).toNat, V)) else (if x2 = 3 then (some (V 0 (293 + x1).toNat, V)) else (if x2 = 4 then (bd (f_X8_leftOfGift V x1) fun (r_13 : Int) => some (r_13, V)) else (if x2 = 5 then (bd (f_X8_isSpoilt V x1) fun (r_14 : Bool) => if r_14 = false then (some (0, V)) else (some (1, V))) else (some (y3, V)))))))) else (ck (rng x2) <| if x2 = 6 then (bd (f_X8_partOf x1 y4) fun (r_20 : Int) => ck (inZ r_20 180) <| jX8_gift_93 n x1 x2 rec42 y4 V (V 12 r_20.toNat) y3) else (bd (f_X8_partOf x1 y4) fun (r_16 : Int) => ck (inZ (953 + r_16) 1233) <| jX8_gift_93 n x1 x2 rec42 y4 V (V 0 (953 + r_16).toNat) y3))) := rfl
def jX8_gift_24 (n : Nat) (x1 : Int) (x2 : Int) (V : Sz) (z0 : Int) : Option (Int × Sz) := bd (f_X8_fails V z0 2) fun ((r_4, V_5) : Bool × Sz) => if r_4 = false then (bd (f_X8_laysAid n V_5) fun (V_6 : Sz) => lpF (bX8_gift_42 n x1 x2) n (0, 0, V_6)) else (some (0, V_5))
def f_X8_gift (n : Nat) (V0 : Sz) (x1 : Int) (x2 : Int) : Option (Int × Sz) := bd (f_X8_noGift V0 x1) fun ((r_1, V_2) : Bool × Sz) => if r_1 = true then (some (0, V_2)) else (bd (f_X8_inRange x2 0 7) fun (r_3 : Bool) => if r_3 = true then (jX8_gift_24 n x1 x2 V_2 0) else (jX8_gift_24 n x1 x2 V_2 1))
def jX8_part_24 (n : Nat) (x1 : Int) (x2 : Int) (x3 : Int) (V : Sz) (z0 : Int) : Option (Int × Sz) := bd (f_X8_fails V z0 2) fun ((r_4, V_5) : Bool × Sz) => if r_4 = false then (bd (f_X8_laysAid n V_5) fun (V_6 : Sz) => bd (f_X8_partOf x1 x2) fun (r_7 : Int) => ck (rng x3) <| if x3 = 0 then (ck (inZ (413 + r_7) 1233) <| some (V_6 0 (413 + r_7).toNat, V_6)) else (if x3 = 1 then (ck (inZ (593 + r_7) 1233) <| some (V_6 0 (593 + r_7).toNat, V_6)) else (if x3 = 2 then (bd (f_X8_leftOf V_6 r_7) fun (r_11 : Int) => some (r_11, V_6)) else (if x3 = 3 then (ck (inZ r_7 180) <| some (V_6 13 r_7.toNat, V_6)) else (if x3 = 4 then (ck (inZ r_7 180) <| some (V_6 12 r_7.toNat, V_6)) else (ck (inZ (953 + r_7) 1233) <| some (V_6 0 (953 + r_7).toNat, V_6))))))) else (some (0, V_5))
def f_X8_part (n : Nat) (V0 : Sz) (x1 : Int) (x2 : Int) (x3 : Int) : Option (Int × Sz) := bd (f_X8_noPart V0 x1 x2) fun ((r_1, V_2) : Bool × Sz) => if r_1 = true then (some (0, V_2)) else (bd (f_X8_inRange x3 0 5) fun (r_3 : Bool) => if r_3 = true then (jX8_part_24 n x1 x2 x3 V_2 0) else (jX8_part_24 n x1 x2 x3 V_2 1))
def jX8_reasonOf_25 (n : Nat) (V : Sz) (x1 : Int) : Option (Int) := bd (f_X8_leftOf V x1) fun (r_4 : Int) => ck (rng r_4) <| if r_4 = 0 then (some 1) else (bd (f_X8_giftOf x1) fun (r_6 : Int) => bd (f_X8_isSpoilt V r_6) fun (r_7 : Bool) => if r_7 = false then (ck (inZ (413 + x1) 1233) <| bd (f_X8_dayOf V x1) fun (r_9 : Int) => bd (f_X8_isForced n V (V 0 (413 + x1).toNat) r_9) fun (r_10 : Bool) => if r_10 = true then (ck (inZ x1 180) <| ck (rng (V 13 x1.toNat)) <| if V 13 x1.toNat = 0 then (some 4) else (some 5)) else (some 3)) else (some 2))
def f_X8_reasonOf (n : Nat) (V : Sz) (x1 : Int) : Option (Int) := ck (inZ x1 180) <| bd (f_X8_full V x1) fun (r_2 : Int) => ck (rng (V 12 x1.toNat) ∧ rng r_2) <| if V 12 x1.toNat = r_2 then (if V 12 x1.toNat = 0 then (jX8_reasonOf_25 n V x1) else (some 0)) else (jX8_reasonOf_25 n V x1)
def f_X8_reason (n : Nat) (V0 : Sz) (x1 : Int) (x2 : Int) : Option (Int × Sz) := bd (f_X8_noPart V0 x1 x2) fun ((r_1, V_2) : Bool × Sz) => if r_1 = false then (bd (f_X8_laysAid n V_2) fun (V_3 : Sz) => bd (f_X8_partOf x1 x2) fun (r_4 : Int) => bd (f_X8_reasonOf n V_3 r_4) fun (r_5 : Int) => some (r_5, V_3)) else (some (0, V_2))
def jX8_sumOf_124 (n : Nat) (V : Sz) (x1 : Int) (x2 : Int) (x3 : Int) (rec6 : Int × Int → Option (Int)) (y4 : Int) (y5 : Int) : Option (Int) := nm (y5 + 1) fun (x_3 : Int) => rec6 (y4, x_3)
def jX8_sumOf_121 (n : Nat) (V : Sz) (x1 : Int) (x2 : Int) (x3 : Int) (rec6 : Int × Int → Option (Int)) (y5 : Int) (z0 : Int) (z1 : Int) : Option (Int) := nm (z1 + z0) fun (x_8 : Int) => jX8_sumOf_124 n V x1 x2 x3 rec6 x_8 y5
def jX8_sumOf_56 (n : Nat) (V : Sz) (x1 : Int) (x2 : Int) (x3 : Int) (rec6 : Int × Int → Option (Int)) (y4 : Int) (y5 : Int) : Option (Int) := ck (rng x2) <| if x2 = 0 then (bd (f_X8_leftOf V y5) fun (r_12 : Int) => jX8_sumOf_121 n V x1 x2 x3 rec6 y5 r_12 y4) else (if x2 = 1 then (ck (inZ y5 180) <| jX8_sumOf_121 n V x1 x2 x3 rec6 y5 (V 13 y5.toNat) y4) else (if x2 = 2 then (ck (inZ y5 180) <| jX8_sumOf_121 n V x1 x2 x3 rec6 y5 (V 12 y5.toNat) y4) else (if x2 = 3 then (ck (inZ (953 + y5) 1233) <| jX8_sumOf_121 n V x1 x2 x3 rec6 y5 (V 0 (953 + y5).toNat) y4) else (jX8_sumOf_121 n V x1 x2 x3 rec6 y5 1 y4))))
def bX8_sumOf_6 (n : Nat) (V : Sz) (x1 : Int) (x2 : Int) (x3 : Int) (rec6 : Int × Int → Option (Int)) : Int × Int → Option (Int) := fun (y4, y5) => ck (rng y5) <| if 180 ≤ y5 then (some y4) else (bd (f_X8_isPart V y5) fun (r_2 : Bool) => if r_2 = false then (jX8_sumOf_124 n V x1 x2 x3 rec6 y4 y5) else (ck (inZ (413 + y5) 1233) <| ck (rng (V 0 (413 + y5).toNat) ∧ rng x1) <| if V 0 (413 + y5).toNat = x1 then (ck (rng x3) <| if x3 = (-1) then (jX8_sumOf_56 n V x1 x2 x3 rec6 y4 y5) else (bd (f_X8_yearOf V y5) fun (r_13 : Int) => ck (rng r_13) <| if r_13 = x3 then (jX8_sumOf_56 n V x1 x2 x3 rec6 y4 y5) else (jX8_sumOf_124 n V x1 x2 x3 rec6 y4 y5))) else (jX8_sumOf_124 n V x1 x2 x3 rec6 y4 y5)))
theorem bX8_sumOf_6_e (n : Nat) (V : Sz) (x1 : Int) (x2 : Int) (x3 : Int) (rec6 : Int × Int → Option (Int)) (y4 : Int) (y5 : Int) : bX8_sumOf_6 n V x1 x2 x3 rec6 (y4, y5) = (ck (rng y5) <| if 180 ≤ y5 then (some y4) else (bd (f_X8_isPart V y5) fun (r_2 : Bool) => if r_2 = false then (jX8_sumOf_124 n V x1 x2 x3 rec6 y4 y5) else (ck (inZ (413 + y5) 1233) <| ck (rng (V 0 (413 + y5).toNat) ∧ rng x1) <| if V 0 (413 + y5).toNat = x1 then (ck (rng x3) <| if x3 = (-1) then (jX8_sumOf_56 n V x1 x2 x3 rec6 y4 y5) else (bd (f_X8_yearOf V y5) fun (r_13 : Int) => ck (rng r_13) <| if r_13 = x3 then (jX8_sumOf_56 n V x1 x2 x3 rec6 y4 y5) else (jX8_sumOf_124 n V x1 x2 x3 rec6 y4 y5))) else (jX8_sumOf_124 n V x1 x2 x3 rec6 y4 y5)))) := rfl
def f_X8_sumOf (n : Nat) (V : Sz) (x1 : Int) (x2 : Int) (x3 : Int) : Option (Int) := lpF (bX8_sumOf_6 n V x1 x2 x3) n (0, 0)
def jX8_donor_33 (n : Nat) (x1 : Int) (x2 : Int) (x3 : Int) (V : Sz) (z0 : Int) : Option (Int × Sz) := bd (f_X8_fails V z0 2) fun ((r_4, V_5) : Bool × Sz) => if r_4 = false then (bd (f_X8_laysAid n V_5) fun (V_6 : Sz) => bd (f_X8_sumOf n V_6 x1 x2 x3) fun (r_7 : Int) => some (r_7, V_6)) else (some (0, V_5))
def jX8_donor_28 (n : Nat) (x1 : Int) (x2 : Int) (x3 : Int) (V : Sz) : Option (Int × Sz) := jX8_donor_33 n x1 x2 x3 V 1
def f_X8_donor (n : Nat) (V0 : Sz) (x1 : Int) (x2 : Int) (x3 : Int) : Option (Int × Sz) := bd (f_X8_noDonor V0 x1) fun ((r_1, V_2) : Bool × Sz) => if r_1 = true then (some (0, V_2)) else (bd (f_X8_inRange x2 0 4) fun (r_3 : Bool) => if r_3 = false then (jX8_donor_28 n x1 x2 x3 V_2) else (bd (f_X8_inRange x3 (-1) 27) fun (r_8 : Bool) => if r_8 = true then (jX8_donor_33 n x1 x2 x3 V_2 0) else (jX8_donor_28 n x1 x2 x3 V_2)))
def f_X8_taxLimit (V0 : Sz) (x1 : Int) : Option (Int × Sz) := bd (f_X8_noDonor V0 x1) fun ((r_1, V_2) : Bool × Sz) => if r_1 = false then (ck (inZ (10 + x1) 1233) <| some (V_2 0 (10 + x1).toNat, V_2)) else (some (0, V_2))
def f_X8_isDeclared (n : Nat) (V0 : Sz) (x1 : Int) (x2 : Int) : Option (Bool × Sz) := bd (f_X8_noDonor V0 x1) fun ((r_1, V_2) : Bool × Sz) => if r_1 = true then (some (false, V_2)) else (bd (f_X8_isForced n V_2 x1 x2) fun (r_3 : Bool) => if r_3 = false then (some (false, V_2)) else (some (true, V_2)))
def jX8_noSpan_28 (x1 : Int) (x2 : Int) (V : Sz) (z0 : Int) : Option (Bool × Sz) := bd (f_X8_fails V z0 2) fun ((r_2, V_3) : Bool × Sz) => some (r_2, V_3)
def jX8_noSpan_23 (x1 : Int) (x2 : Int) (V : Sz) : Option (Bool × Sz) := jX8_noSpan_28 x1 x2 V 1
def f_X8_noSpan (V0 : Sz) (x1 : Int) (x2 : Int) : Option (Bool × Sz) := bd (f_X8_inRange x1 0 9999) fun (r_1 : Bool) => if r_1 = false then (jX8_noSpan_23 x1 x2 V0) else (bd (f_X8_inRange x2 x1 9999) fun (r_4 : Bool) => if r_4 = true then (jX8_noSpan_28 x1 x2 V0 0) else (jX8_noSpan_23 x1 x2 V0))
def jX8_coverage_48 (n : Nat) (x1 : Int) (x2 : Int) (x3 : Int) (rec25 : Int × Int × Sz → Option (Int × Sz)) (y5 : Int) (V : Sz) (z0 : Int) (z1 : Int) : Option (Int × Sz) := nm (z1 + z0) fun (x_7 : Int) => nm (y5 + 1) fun (x_8 : Int) => rec25 (x_7, x_8, V)
def bX8_coverage_25 (n : Nat) (x1 : Int) (x2 : Int) (x3 : Int) (rec25 : Int × Int × Sz → Option (Int × Sz)) : Int × Int × Sz → Option (Int × Sz) := fun (y4, y5, V) => ck (rng y5 ∧ rng x3) <| if x3 < y5 then (some (y4, V)) else (bd (f_X8_isForced n V x1 y5) fun (r_6 : Bool) => if r_6 = false then (jX8_coverage_48 n x1 x2 x3 rec25 y5 V 0 y4) else (jX8_coverage_48 n x1 x2 x3 rec25 y5 V 1 y4))
theorem bX8_coverage_25_e (n : Nat) (x1 : Int) (x2 : Int) (x3 : Int) (rec25 : Int × Int × Sz → Option (Int × Sz)) (y4 : Int) (y5 : Int) (V : Sz) : bX8_coverage_25 n x1 x2 x3 rec25 (y4, y5, V) = (ck (rng y5 ∧ rng x3) <| if x3 < y5 then (some (y4, V)) else (bd (f_X8_isForced n V x1 y5) fun (r_6 : Bool) => if r_6 = false then (jX8_coverage_48 n x1 x2 x3 rec25 y5 V 0 y4) else (jX8_coverage_48 n x1 x2 x3 rec25 y5 V 1 y4))) := rfl
def f_X8_coverage (n : Nat) (V0 : Sz) (x1 : Int) (x2 : Int) (x3 : Int) : Option (Int × Sz) := bd (f_X8_noDonor V0 x1) fun ((r_1, V_2) : Bool × Sz) => if r_1 = true then (some (0, V_2)) else (bd (f_X8_noSpan V_2 x2 x3) fun ((r_3, V_4) : Bool × Sz) => if r_3 = false then (lpF (bX8_coverage_25 n x1 x2 x3) n (0, x2, V_4)) else (some (0, V_4)))
def jX8_gap_96 (n : Nat) (x1 : Int) (x2 : Int) (x3 : Int) (rec19 : Int × Int × Int × Sz → Option (Int × Sz)) (y4 : Int) (y6 : Int) (y7 : Int) (V : Sz) : Option (Int × Sz) := nm (y6 + 1) fun (x_8 : Int) => rec19 (y4, y7, x_8, V)
def jX8_gap_62 (n : Nat) (x1 : Int) (x2 : Int) (x3 : Int) (rec19 : Int × Int × Int × Sz → Option (Int × Sz)) (y4 : Int) (y6 : Int) (y7 : Int) (V : Sz) : Option (Int × Sz) := ck (rng y7) <| if y7 = 0 then (ck (rng y4 ∧ rng x2) <| if y4 = x2 then (ck (rng y6) <| if y6 = 9999 then (some (y6, V)) else (bd (f_X8_isForced n V x1 (y6 + 1)) fun (r_11 : Bool) => if r_11 = false then (jX8_gap_96 n x1 x2 x3 rec19 y4 y6 y7 V) else (some (y6, V)))) else (jX8_gap_96 n x1 x2 x3 rec19 y4 y6 y7 V)) else (jX8_gap_96 n x1 x2 x3 rec19 y4 y6 y7 V)
def bX8_gap_19 (n : Nat) (x1 : Int) (x2 : Int) (x3 : Int) (rec19 : Int × Int × Int × Sz → Option (Int × Sz)) : Int × Int × Int × Sz → Option (Int × Sz) := fun (y4, y5, y6, V) => ck (rng y6) <| if 9999 < y6 then (some ((-1), V)) else (bd (f_X8_isForced n V x1 y6) fun (r_4 : Bool) => nm ((bI r_4)) fun (x_5 : Int) => ck (rng x_5) <| if x_5 = 0 then (ck (rng y5) <| if y5 = 0 then (jX8_gap_62 n x1 x2 x3 rec19 y4 y6 x_5 V) else (nm (y4 + 1) fun (x_13 : Int) => ck (rng x_13 ∧ rng x2) <| if x_13 = x2 then (ck (rng x3) <| if x3 = 0 then (some (y6, V)) else (jX8_gap_62 n x1 x2 x3 rec19 x_13 y6 x_5 V)) else (jX8_gap_62 n x1 x2 x3 rec19 x_13 y6 x_5 V))) else (jX8_gap_62 n x1 x2 x3 rec19 y4 y6 x_5 V))
theorem bX8_gap_19_e (n : Nat) (x1 : Int) (x2 : Int) (x3 : Int) (rec19 : Int × Int × Int × Sz → Option (Int × Sz)) (y4 : Int) (y5 : Int) (y6 : Int) (V : Sz) : bX8_gap_19 n x1 x2 x3 rec19 (y4, y5, y6, V) = (ck (rng y6) <| if 9999 < y6 then (some ((-1), V)) else (bd (f_X8_isForced n V x1 y6) fun (r_4 : Bool) => nm ((bI r_4)) fun (x_5 : Int) => ck (rng x_5) <| if x_5 = 0 then (ck (rng y5) <| if y5 = 0 then (jX8_gap_62 n x1 x2 x3 rec19 y4 y6 x_5 V) else (nm (y4 + 1) fun (x_13 : Int) => ck (rng x_13 ∧ rng x2) <| if x_13 = x2 then (ck (rng x3) <| if x3 = 0 then (some (y6, V)) else (jX8_gap_62 n x1 x2 x3 rec19 x_13 y6 x_5 V)) else (jX8_gap_62 n x1 x2 x3 rec19 x_13 y6 x_5 V))) else (jX8_gap_62 n x1 x2 x3 rec19 y4 y6 x_5 V))) := rfl
def f_X8_gap (n : Nat) (V0 : Sz) (x1 : Int) (x2 : Int) (x3 : Int) : Option (Int × Sz) := bd (f_X8_noDonor V0 x1) fun ((r_1, V_2) : Bool × Sz) => if r_1 = false then (lpF (bX8_gap_19 n x1 x2 x3) n ((-1), 1, 0, V_2)) else (some (0, V_2))
def jX8_isNeedless_72 (n : Nat) (x1 : Int) (y3 : Int) (y4 : Int) (V : Sz) : Option (Bool × Sz) := ck (inZ (82 + x1) 1233) <| nm (uz V 0 (82 + x1).toNat y3) fun (V_8 : Sz) => ck (y4 = 0 ∨ y4 = 1) <| some ((dZ y4), V_8)
def bX8_isNeedless_38 (n : Nat) (x1 : Int) (rec38 : Int × Int × Int × Sz → Option (Bool × Sz)) : Int × Int × Int × Sz → Option (Bool × Sz) := fun (y3, y4, y5, V) => ck (rng y5 ∧ rng y3) <| if y3 < y5 then (jX8_isNeedless_72 n x1 y3 y4 V) else (ck (rng y4) <| if y4 = 0 then (jX8_isNeedless_72 n x1 y3 y4 V) else (ck (inZ (20 + x1) 1233) <| bd (f_X8_isForced n V (V 0 (20 + x1).toNat) y5) fun (r_12 : Bool) => nm ((bI r_12)) fun (x_13 : Int) => nm (y5 + 1) fun (x_14 : Int) => rec38 (y3, x_13, x_14, V)))
theorem bX8_isNeedless_38_e (n : Nat) (x1 : Int) (rec38 : Int × Int × Int × Sz → Option (Bool × Sz)) (y3 : Int) (y4 : Int) (y5 : Int) (V : Sz) : bX8_isNeedless_38 n x1 rec38 (y3, y4, y5, V) = (ck (rng y5 ∧ rng y3) <| if y3 < y5 then (jX8_isNeedless_72 n x1 y3 y4 V) else (ck (rng y4) <| if y4 = 0 then (jX8_isNeedless_72 n x1 y3 y4 V) else (ck (inZ (20 + x1) 1233) <| bd (f_X8_isForced n V (V 0 (20 + x1).toNat) y5) fun (r_12 : Bool) => nm ((bI r_12)) fun (x_13 : Int) => nm (y5 + 1) fun (x_14 : Int) => rec38 (y3, x_13, x_14, V)))) := rfl
def f_X8_isNeedless (n : Nat) (V0 : Sz) (x1 : Int) : Option (Bool × Sz) := ck (inZ (51 + x1) 1233) <| nm (V0 0 (51 + x1).toNat) fun (x_2 : Int) => ck (inZ (82 + x1) 1233) <| nm (V0 0 (82 + x1).toNat) fun (x_4 : Int) => nm (uz V0 0 (82 + x1).toNat (x_2 - 1)) fun (V_5 : Sz) => lpF (bX8_isNeedless_38 n x1) n (x_4, 1, x_2, V_5)
def jX8_longestSpan_42 (n : Nat) (x1 : Int) (rec17 : Int × Int × Int × Sz → Option (Int × Sz)) (y2 : Int) (y4 : Int) (V : Sz) (z0 : Int) : Option (Int × Sz) := ck (rng y2 ∧ rng z0) <| nm (max y2 z0) fun (x_6 : Int) => nm (y4 + 1) fun (x_7 : Int) => rec17 (x_6, z0, x_7, V)
def bX8_longestSpan_17 (n : Nat) (x1 : Int) (rec17 : Int × Int × Int × Sz → Option (Int × Sz)) : Int × Int × Int × Sz → Option (Int × Sz) := fun (y2, y3, y4, V) => ck (rng y4) <| if 9999 < y4 then (some (y2, V)) else (bd (f_X8_isForced n V x1 y4) fun (r_4 : Bool) => if r_4 = false then (jX8_longestSpan_42 n x1 rec17 y2 y4 V 0) else (jX8_longestSpan_42 n x1 rec17 y2 y4 V (y3 + 1)))
theorem bX8_longestSpan_17_e (n : Nat) (x1 : Int) (rec17 : Int × Int × Int × Sz → Option (Int × Sz)) (y2 : Int) (y3 : Int) (y4 : Int) (V : Sz) : bX8_longestSpan_17 n x1 rec17 (y2, y3, y4, V) = (ck (rng y4) <| if 9999 < y4 then (some (y2, V)) else (bd (f_X8_isForced n V x1 y4) fun (r_4 : Bool) => if r_4 = false then (jX8_longestSpan_42 n x1 rec17 y2 y4 V 0) else (jX8_longestSpan_42 n x1 rec17 y2 y4 V (y3 + 1)))) := rfl
def f_X8_longestSpan (n : Nat) (V0 : Sz) (x1 : Int) : Option (Int × Sz) := bd (f_X8_noDonor V0 x1) fun ((r_1, V_2) : Bool × Sz) => if r_1 = false then (lpF (bX8_longestSpan_17 n x1) n (0, 0, 0, V_2)) else (some (0, V_2))
def jX8_needless_51 (n : Nat) (x1 : Int) (rec14 : Int × Int × Sz → Option (Int × Sz)) (y3 : Int) (V : Sz) (z0 : Int) (z1 : Int) : Option (Int × Sz) := nm (z1 + z0) fun (x_6 : Int) => nm (y3 + 1) fun (x_7 : Int) => rec14 (x_6, x_7, V)
def jX8_needless_50 (n : Nat) (x1 : Int) (rec14 : Int × Int × Sz → Option (Int × Sz)) (y3 : Int) (V : Sz) (z0 : Int) : Option (Int × Sz) := jX8_needless_51 n x1 rec14 y3 V 0 z0
def bX8_needless_14 (n : Nat) (x1 : Int) (rec14 : Int × Int × Sz → Option (Int × Sz)) : Int × Int × Sz → Option (Int × Sz) := fun (y2, y3, V) => ck (rng y3 ∧ rng (V 0 1)) <| if V 0 1 ≤ y3 then (some (y2, V)) else (ck (inZ (20 + y3) 1233) <| ck (rng (V 0 (20 + y3).toNat) ∧ rng x1) <| if V 0 (20 + y3).toNat = x1 then (bd (f_X8_isNeedless n V y3) fun ((r_8, V_9) : Bool × Sz) => if r_8 = false then (jX8_needless_50 n x1 rec14 y3 V_9 y2) else (jX8_needless_51 n x1 rec14 y3 V_9 1 y2)) else (jX8_needless_50 n x1 rec14 y3 V y2))
theorem bX8_needless_14_e (n : Nat) (x1 : Int) (rec14 : Int × Int × Sz → Option (Int × Sz)) (y2 : Int) (y3 : Int) (V : Sz) : bX8_needless_14 n x1 rec14 (y2, y3, V) = (ck (rng y3 ∧ rng (V 0 1)) <| if V 0 1 ≤ y3 then (some (y2, V)) else (ck (inZ (20 + y3) 1233) <| ck (rng (V 0 (20 + y3).toNat) ∧ rng x1) <| if V 0 (20 + y3).toNat = x1 then (bd (f_X8_isNeedless n V y3) fun ((r_8, V_9) : Bool × Sz) => if r_8 = false then (jX8_needless_50 n x1 rec14 y3 V_9 y2) else (jX8_needless_51 n x1 rec14 y3 V_9 1 y2)) else (jX8_needless_50 n x1 rec14 y3 V y2))) := rfl
def f_X8_needless (n : Nat) (V0 : Sz) (x1 : Int) : Option (Int × Sz) := bd (f_X8_noDonor V0 x1) fun ((r_1, V_2) : Bool × Sz) => if r_1 = false then (lpF (bX8_needless_14 n x1) n (0, 0, V_2)) else (some (0, V_2))
def jX8_declare_34 (n : Nat) (x1 : Int) (x2 : Int) (x3 : Int) (V : Sz) (z0 : Int) : Option (Int × Sz) := bd (f_X8_fails V z0 3) fun ((r_6, V_7) : Bool × Sz) => if r_6 = false then (bd (f_X8_remembers n V_7) fun (V_8 : Sz) => bd (f_X8_declares V_8 x1 x2 x3) fun (V_9 : Sz) => some ((V_9 0 1) - 1, V_9)) else (some (0, V_7))
def f_X8_declare (n : Nat) (V0 : Sz) (x1 : Int) (x2 : Int) (x3 : Int) : Option (Int × Sz) := bd (f_X8_noDonor V0 x1) fun ((r_1, V_2) : Bool × Sz) => if r_1 = true then (some (0, V_2)) else (bd (f_X8_noSpan V_2 x2 x3) fun ((r_3, V_4) : Bool × Sz) => if r_3 = true then (some (0, V_4)) else (ck (rng (V_4 0 1)) <| if V_4 0 1 = 30 then (jX8_declare_34 n x1 x2 x3 V_4 1) else (jX8_declare_34 n x1 x2 x3 V_4 0)))
def jX8_revoke_25 (n : Nat) (x1 : Int) (x2 : Int) (V : Sz) (z0 : Int) : Option (Int × Sz) := bd (f_X8_fails V z0 2) fun ((r_4, V_5) : Bool × Sz) => if r_4 = false then (bd (f_X8_remembers n V_5) fun (V_6 : Sz) => bd (f_X8_daysOf V_6 x1) fun (r_7 : Int) => ck (inZ (82 + x1) 1233) <| ck (rng (V_6 0 (82 + x1).toNat) ∧ rng (x2 - 1)) <| nm (uz V_6 0 (82 + x1).toNat (min (V_6 0 (82 + x1).toNat) (x2 - 1))) fun (V_10 : Sz) => bd (f_X8_daysOf V_10 x1) fun (r_11 : Int) => some (r_7 - r_11, V_10)) else (some (0, V_5))
def f_X8_revoke (n : Nat) (V0 : Sz) (x1 : Int) (x2 : Int) : Option (Int × Sz) := bd (f_X8_noDeclaration V0 x1) fun ((r_1, V_2) : Bool × Sz) => if r_1 = true then (some (0, V_2)) else (bd (f_X8_inRange x2 0 9999) fun (r_3 : Bool) => if r_3 = true then (jX8_revoke_25 n x1 x2 V_2 0) else (jX8_revoke_25 n x1 x2 V_2 1))
def jX8_addGift_192 (n : Nat) (x1 : Int) (x2 : Int) (x3 : Int) (x4 : Int) (y5 : Int) (V : Sz) : Option (Int × Sz) := nm (uz V 0 2 ((V 0 2) + 1)) fun (V_21 : Sz) => some (y5, V_21)
def jX8_addGift_98 (n : Nat) (x1 : Int) (x2 : Int) (x3 : Int) (x4 : Int) (V : Sz) (z0 : Int) : Option (Int × Sz) := bd (f_X8_fails V z0 3) fun ((r_9, V_10) : Bool × Sz) => if r_9 = false then (bd (f_X8_remembers n V_10) fun (V_11 : Sz) => nm (V_11 0 2) fun (x_12 : Int) => bd (f_X8_clearsParts n V_11 x_12) fun (V_13 : Sz) => ck (inZ (113 + x_12) 1233) <| nm (uz V_13 0 (113 + x_12).toNat x2) fun (V_15 : Sz) => ck (inZ (173 + x_12) 1233) <| nm (uz V_15 0 (173 + x_12).toNat x3) fun (V_17 : Sz) => ck (inZ (233 + x_12) 1233) <| nm (uz V_17 0 (233 + x_12).toNat x4) fun (V_19 : Sz) => ck (rng x1) <| if x1 = (-1) then (jX8_addGift_192 n x1 x2 x3 x4 x_12 V_19) else (bd (f_X8_partOf x_12 0) fun (r_22 : Int) => ck (inZ (413 + r_22) 1233) <| nm (uz V_19 0 (413 + r_22).toNat x1) fun (V_24 : Sz) => bd (f_X8_shares n V_24 x_12 1 1 0 0) fun (V_25 : Sz) => jX8_addGift_192 n x1 x2 x3 x4 x_12 V_25)) else (some (0, V_10))
def jX8_addGift_74 (n : Nat) (x1 : Int) (x2 : Int) (x3 : Int) (x4 : Int) (V : Sz) (z0 : Int) : Option (Int × Sz) := bd (f_X8_fails V z0 2) fun ((r_6, V_7) : Bool × Sz) => if r_6 = true then (some (0, V_7)) else (ck (rng (V_7 0 2)) <| if V_7 0 2 = 60 then (jX8_addGift_98 n x1 x2 x3 x4 V_7 1) else (jX8_addGift_98 n x1 x2 x3 x4 V_7 0))
def jX8_addGift_69 (n : Nat) (x1 : Int) (x2 : Int) (x3 : Int) (x4 : Int) (V : Sz) : Option (Int × Sz) := jX8_addGift_74 n x1 x2 x3 x4 V 1
def jX8_addGift_27 (n : Nat) (x1 : Int) (x2 : Int) (x3 : Int) (x4 : Int) (V : Sz) (z0 : Int) : Option (Int × Sz) := bd (f_X8_fails V z0 1) fun ((r_3, V_4) : Bool × Sz) => if r_3 = false then (bd (f_X8_inRange x2 0 9999) fun (r_5 : Bool) => if r_5 = false then (jX8_addGift_69 n x1 x2 x3 x4 V_4) else (bd (f_X8_inRange x3 1 999999) fun (r_26 : Bool) => if r_26 = false then (jX8_addGift_69 n x1 x2 x3 x4 V_4) else (bd (f_X8_inRange x4 0 999999) fun (r_27 : Bool) => if r_27 = true then (jX8_addGift_74 n x1 x2 x3 x4 V_4 0) else (jX8_addGift_69 n x1 x2 x3 x4 V_4)))) else (some (0, V_4))
def f_X8_addGift (n : Nat) (V0 : Sz) (x1 : Int) (x2 : Int) (x3 : Int) (x4 : Int) : Option (Int × Sz) := nm (us V0 9 0) fun (V_1 : Sz) => bd (f_X8_inRange x1 (-1) ((V_1 0 0) - 1)) fun (r_2 : Bool) => if r_2 = true then (jX8_addGift_27 n x1 x2 x3 x4 V_1 0) else (jX8_addGift_27 n x1 x2 x3 x4 V_1 1)
def f_X8_canSplit (V : Sz) (x1 : Int) : Option (Bool) := ck (inZ (293 + x1) 1233) <| ck (rng (V 0 (293 + x1).toNat)) <| if V 0 (293 + x1).toNat = 1 then (ck (inZ (353 + x1) 1233) <| ck (rng (V 0 (353 + x1).toNat)) <| if V 0 (353 + x1).toNat = 0 then (bd (f_X8_partOf x1 0) fun (r_5 : Int) => ck (inZ (953 + r_5) 1233) <| ck (rng (V 0 (953 + r_5).toNat)) <| if V 0 (953 + r_5).toNat = 0 then (some true) else (some false)) else (some false)) else (some false)
def f_X8_isDonorOf (V : Sz) (x1 : Int) (x2 : Int) : Option (Bool) := ck (inZ (293 + x1) 1233) <| ck (rng (V 0 (293 + x1).toNat)) <| if V 0 (293 + x1).toNat = 1 then (bd (f_X8_partOf x1 0) fun (r_3 : Int) => ck (inZ (413 + r_3) 1233) <| ck (rng (V 0 (413 + r_3).toNat) ∧ rng x2) <| if V 0 (413 + r_3).toNat = x2 then (some true) else (some false)) else (some false)
def f_X8_splits (n : Nat) (V0 : Sz) (x1 : Int) (x2 : Int) (x3 : Int) (x4 : Int) : Option (Sz) := bd (f_X8_partOf x1 1) fun (r_1 : Int) => ck (inZ (413 + r_1) 1233) <| nm (uz V0 0 (413 + r_1).toNat x3) fun (V_3 : Sz) => bd (f_X8_shares n V_3 x1 2 x2 x4 0) fun (V_4 : Sz) => some V_4
theorem DX8_noDeclaration_0 : ∀ q ∈ ([(0, .aload_n 0, 1), (1, .iconst 0, 1), (2, .putfield 65, 3), (5, .aload_n 0, 1), (6, .iload_n 1, 1), (7, .iconst 0, 1), (8, .aload_n 0, 1), (9, .getfield 7, 3), (12, .iconst 1, 1), (13, .iaload, 1), (14, .iconst 1, 1), (15, .isub, 1), (16, .invokestatic 79, 3), (19, .ifCond .ne 7, 3), (22, .iconst 1, 1), (23, .goto 4, 3), (26, .iconst 0, 1), (27, .iconst 1, 1), (28, .invokevirtual 261, 3), (31, .ireturn, 1)] : List (Nat × Instr × Nat)), decode cX8_noDeclaration q.1 = .ok q.2 := by decide +kernel
theorem dX8_noDeclaration_0 : decode cX8_noDeclaration 0 = .ok (.aload_n 0, 1) := DX8_noDeclaration_0 (0, .aload_n 0, 1) (List.mem_of_getElem? (i := 0) rfl)
theorem dX8_noDeclaration_1 : decode cX8_noDeclaration 1 = .ok (.iconst 0, 1) := DX8_noDeclaration_0 (1, .iconst 0, 1) (List.mem_of_getElem? (i := 1) rfl)
theorem dX8_noDeclaration_2 : decode cX8_noDeclaration 2 = .ok (.putfield 65, 3) := DX8_noDeclaration_0 (2, .putfield 65, 3) (List.mem_of_getElem? (i := 2) rfl)
theorem dX8_noDeclaration_5 : decode cX8_noDeclaration 5 = .ok (.aload_n 0, 1) := DX8_noDeclaration_0 (5, .aload_n 0, 1) (List.mem_of_getElem? (i := 3) rfl)
theorem dX8_noDeclaration_6 : decode cX8_noDeclaration 6 = .ok (.iload_n 1, 1) := DX8_noDeclaration_0 (6, .iload_n 1, 1) (List.mem_of_getElem? (i := 4) rfl)
theorem dX8_noDeclaration_7 : decode cX8_noDeclaration 7 = .ok (.iconst 0, 1) := DX8_noDeclaration_0 (7, .iconst 0, 1) (List.mem_of_getElem? (i := 5) rfl)
theorem dX8_noDeclaration_8 : decode cX8_noDeclaration 8 = .ok (.aload_n 0, 1) := DX8_noDeclaration_0 (8, .aload_n 0, 1) (List.mem_of_getElem? (i := 6) rfl)
theorem dX8_noDeclaration_9 : decode cX8_noDeclaration 9 = .ok (.getfield 7, 3) := DX8_noDeclaration_0 (9, .getfield 7, 3) (List.mem_of_getElem? (i := 7) rfl)
theorem dX8_noDeclaration_12 : decode cX8_noDeclaration 12 = .ok (.iconst 1, 1) := DX8_noDeclaration_0 (12, .iconst 1, 1) (List.mem_of_getElem? (i := 8) rfl)
theorem dX8_noDeclaration_13 : decode cX8_noDeclaration 13 = .ok (.iaload, 1) := DX8_noDeclaration_0 (13, .iaload, 1) (List.mem_of_getElem? (i := 9) rfl)
theorem dX8_noDeclaration_14 : decode cX8_noDeclaration 14 = .ok (.iconst 1, 1) := DX8_noDeclaration_0 (14, .iconst 1, 1) (List.mem_of_getElem? (i := 10) rfl)
theorem dX8_noDeclaration_15 : decode cX8_noDeclaration 15 = .ok (.isub, 1) := DX8_noDeclaration_0 (15, .isub, 1) (List.mem_of_getElem? (i := 11) rfl)
theorem dX8_noDeclaration_16 : decode cX8_noDeclaration 16 = .ok (.invokestatic 79, 3) := DX8_noDeclaration_0 (16, .invokestatic 79, 3) (List.mem_of_getElem? (i := 12) rfl)
theorem dX8_noDeclaration_19 : decode cX8_noDeclaration 19 = .ok (.ifCond .ne 7, 3) := DX8_noDeclaration_0 (19, .ifCond .ne 7, 3) (List.mem_of_getElem? (i := 13) rfl)
theorem dX8_noDeclaration_22 : decode cX8_noDeclaration 22 = .ok (.iconst 1, 1) := DX8_noDeclaration_0 (22, .iconst 1, 1) (List.mem_of_getElem? (i := 14) rfl)
theorem dX8_noDeclaration_23 : decode cX8_noDeclaration 23 = .ok (.goto 4, 3) := DX8_noDeclaration_0 (23, .goto 4, 3) (List.mem_of_getElem? (i := 15) rfl)
theorem dX8_noDeclaration_26 : decode cX8_noDeclaration 26 = .ok (.iconst 0, 1) := DX8_noDeclaration_0 (26, .iconst 0, 1) (List.mem_of_getElem? (i := 16) rfl)
theorem dX8_noDeclaration_27 : decode cX8_noDeclaration 27 = .ok (.iconst 1, 1) := DX8_noDeclaration_0 (27, .iconst 1, 1) (List.mem_of_getElem? (i := 17) rfl)
theorem dX8_noDeclaration_28 : decode cX8_noDeclaration 28 = .ok (.invokevirtual 261, 3) := DX8_noDeclaration_0 (28, .invokevirtual 261, 3) (List.mem_of_getElem? (i := 18) rfl)
theorem dX8_noDeclaration_31 : decode cX8_noDeclaration 31 = .ok (.ireturn, 1) := DX8_noDeclaration_0 (31, .ireturn, 1) (List.mem_of_getElem? (i := 19) rfl)
abbrev rmX8_noDeclaration : Room := { frames := 1, cells := 0, slots := 0, locals := 22 }
set_option maxHeartbeats 400000 in
set_option maxRecDepth 100000 in
theorem met_X8_noDeclaration (l : Launch) (D : va_G) (kA : Nat → ClassId) (a : Nat → Nat) (V0 : Sz) (x1 : Int) (hDt : ∀ w : Sz, va_D (fun _ => True) (cs_X8 kA a w)) {r : Bool} {Vr : Sz} (hf : f_X8_noDeclaration V0 x1 = some (r, Vr)) : MZ l yX8_noDeclaration cX8_noDeclaration 2 (some .boolean) rmX8_noDeclaration D kA [.ref (a 0), vI x1] (cs_X8 kA a V0) (cs_X8 kA a Vr) (some (vI (bI r))) := by
  refine zZZ (own := RX8) rfl rfl (Nat.le_of_ble_eq_true rfl) ?_
  intro p e s m args below meth c ls Q hC hK hP hl hret
  have hl : lv_has ls 2 [(0, .ref (a 0)), (1, vI x1)] := hl
  have hS : va_S (zF (cs_X8 kA a V0)) s.heap s.heap [] := va_S.rf
  have hD := zDself (C := fun w : Sz => (cs_X8 kA a w)) hDt V0 (fun _ => rfl)
  try dsimp only at hD
  generalize hAe : zF (cs_X8 kA a V0) = A0 at hS hD hret
  unfold f_X8_noDeclaration at hf
  have J27 : ∀ (V : Sz) (z0 : Int) (H : Heap) (locs : List Loc) (ls : Array Slot), jX8_noDeclaration_27 x1 V z0 = some (r, Vr) → va_P D vwCl (cs_X8 kA a V) H → va_S A0 s.heap H locs → lv_has ls 2 [] → W p l e rmX8_noDeclaration s m args below meth c H locs 0 0 Q (F0 m 27 ls [vI z0, .ref (a 0)]) := by
    intro V z0 H locs ls hf hP hS hl
    unfold jX8_noDeclaration_27 at hf
    refine ziconst hC.1 hC.2.1 dX8_noDeclaration_27 <| ?_
    obtain ⟨⟨r_3, V_4⟩, hu, hf⟩ := bd_some hf
    have hDc := hDt
    refine zcVZ (As := [vI z0, vI 1]) (rest := []) hC hK (met_X8_fails l D kA a V z0 1 hDc hu) zwX8_261 hS (zFsub (hD V) [0, 1, 2, 3, 4, 5, 6, 7, 8, 9, 10, 11, 12, 13, 14, 15, 16] rfl) hP (q0 := 0) rfl rfl rfl rfl hl.1 rfl (Nat.le_of_ble_eq_true rfl) ⟨Nat.le_of_ble_eq_true rfl, Nat.le_of_ble_eq_true rfl⟩ ⟨rfl, rfl⟩ ⟨Nat.le_refl _, Nat.le_refl _⟩ dX8_noDeclaration_28 (fun H locs hP1 hk1 hS => ?_)
    have hP : va_P D vwCl (cs_X8 kA a V_4) H := hP1
    have hf := Option.some.inj hf
    simp only [Prod.mk.injEq] at hf
    exact hret (Int32.ofInt (bI r_3)) _ _ _ _ (zb01 _) (congrArg (fun z => some (vI (bI z))) hf.1.symm) (by rw [← hf.2]; exact hP) hS dX8_noDeclaration_31
  refine lv_aload_n hC.1 hC.2.1 dX8_noDeclaration_0 rfl (lv_at hl 0 rfl) <| ziconst hC.1 hC.2.1 dX8_noDeclaration_1 <| ?_
  refine pfX8_65 hC hK hP (hD V0) hS (q0 := 0) rfl (Nat.le_of_ble_eq_true rfl) dX8_noDeclaration_2 (fun H locs hP hS => ?_)
  obtain ⟨V_1, eV_1⟩ : ∃ y, y = us V0 9 0 := ⟨_, rfl⟩
  have hf := nm_at hf eV_1
  have hP : va_P D vwCl (cs_X8 kA a V_1) H := by rw [eV_1]; exact hP
  refine lv_aload_n hC.1 hC.2.1 dX8_noDeclaration_5 rfl (lv_at hl 0 rfl) <| ziload_n hC.1 hC.2.1 dX8_noDeclaration_6 rfl (lv_at hl 1 rfl) <| ziconst hC.1 hC.2.1 dX8_noDeclaration_7 <| lv_aload_n hC.1 hC.2.1 dX8_noDeclaration_8 rfl (lv_at hl 0 rfl) <| gfX8_7 hC hK hP (q0 := 0) rfl rfl dX8_noDeclaration_9 <| ziconst hC.1 hC.2.1 dX8_noDeclaration_12 <| jal hC hK hP (q0 := 1) rfl (Nat.le_of_ble_eq_true rfl) (by decide) rfl dX8_noDeclaration_13 <| ziconst hC.1 hC.2.1 dX8_noDeclaration_14 <| zisub hC.1 hC.2.1 dX8_noDeclaration_15 <| ?_
  obtain ⟨r_2, hu, hf⟩ := bd_some hf
  have hPc : va_P D vwCl ([] : va_W) _ := hP.sub [] rfl
  refine zcSP (As := [vI x1, vI 0, vI ((V_1 0 1) - 1)]) (rest := [.ref (a 0)]) hC hK (met_X8_inRange l D kA x1 0 ((V_1 0 1) - 1) hu) zwX8_79 hPc rfl hl.1 rfl (Nat.le_of_ble_eq_true rfl) ⟨Nat.le_of_ble_eq_true rfl, Nat.le_of_ble_eq_true rfl⟩ ⟨rfl, rfl⟩ ⟨Nat.le_refl _, Nat.le_refl _⟩ dX8_noDeclaration_16 <| zifb_ne (tgt := 26) hC.1 hC.2.1 dX8_noDeclaration_19 (by decide) (fun hc => ?_) (fun hc => ?_)
  · have hf := it_t hf hc
    exact ziconst hC.1 hC.2.1 dX8_noDeclaration_26 <| J27 _ _ _ _ _ hf hP hS (lv_sub hl [] rfl)
  · have hf := it_f hf hc
    exact ziconst hC.1 hC.2.1 dX8_noDeclaration_22 <| lv_goto (tgt := 27) hC.1 hC.2.1 dX8_noDeclaration_23 (by decide) <| J27 _ _ _ _ _ hf hP hS (lv_sub hl [] rfl)
theorem DX8_noGift_0 : ∀ q ∈ ([(0, .aload_n 0, 1), (1, .iconst 0, 1), (2, .putfield 65, 3), (5, .aload_n 0, 1), (6, .iload_n 1, 1), (7, .iconst 0, 1), (8, .aload_n 0, 1), (9, .getfield 7, 3), (12, .iconst 2, 1), (13, .iaload, 1), (14, .iconst 1, 1), (15, .isub, 1), (16, .invokestatic 79, 3), (19, .ifCond .ne 7, 3), (22, .iconst 1, 1), (23, .goto 4, 3), (26, .iconst 0, 1), (27, .iconst 1, 1), (28, .invokevirtual 261, 3), (31, .ireturn, 1)] : List (Nat × Instr × Nat)), decode cX8_noGift q.1 = .ok q.2 := by decide +kernel
theorem dX8_noGift_0 : decode cX8_noGift 0 = .ok (.aload_n 0, 1) := DX8_noGift_0 (0, .aload_n 0, 1) (List.mem_of_getElem? (i := 0) rfl)
theorem dX8_noGift_1 : decode cX8_noGift 1 = .ok (.iconst 0, 1) := DX8_noGift_0 (1, .iconst 0, 1) (List.mem_of_getElem? (i := 1) rfl)
theorem dX8_noGift_2 : decode cX8_noGift 2 = .ok (.putfield 65, 3) := DX8_noGift_0 (2, .putfield 65, 3) (List.mem_of_getElem? (i := 2) rfl)
theorem dX8_noGift_5 : decode cX8_noGift 5 = .ok (.aload_n 0, 1) := DX8_noGift_0 (5, .aload_n 0, 1) (List.mem_of_getElem? (i := 3) rfl)
theorem dX8_noGift_6 : decode cX8_noGift 6 = .ok (.iload_n 1, 1) := DX8_noGift_0 (6, .iload_n 1, 1) (List.mem_of_getElem? (i := 4) rfl)
theorem dX8_noGift_7 : decode cX8_noGift 7 = .ok (.iconst 0, 1) := DX8_noGift_0 (7, .iconst 0, 1) (List.mem_of_getElem? (i := 5) rfl)
theorem dX8_noGift_8 : decode cX8_noGift 8 = .ok (.aload_n 0, 1) := DX8_noGift_0 (8, .aload_n 0, 1) (List.mem_of_getElem? (i := 6) rfl)
theorem dX8_noGift_9 : decode cX8_noGift 9 = .ok (.getfield 7, 3) := DX8_noGift_0 (9, .getfield 7, 3) (List.mem_of_getElem? (i := 7) rfl)
theorem dX8_noGift_12 : decode cX8_noGift 12 = .ok (.iconst 2, 1) := DX8_noGift_0 (12, .iconst 2, 1) (List.mem_of_getElem? (i := 8) rfl)
theorem dX8_noGift_13 : decode cX8_noGift 13 = .ok (.iaload, 1) := DX8_noGift_0 (13, .iaload, 1) (List.mem_of_getElem? (i := 9) rfl)
theorem dX8_noGift_14 : decode cX8_noGift 14 = .ok (.iconst 1, 1) := DX8_noGift_0 (14, .iconst 1, 1) (List.mem_of_getElem? (i := 10) rfl)
theorem dX8_noGift_15 : decode cX8_noGift 15 = .ok (.isub, 1) := DX8_noGift_0 (15, .isub, 1) (List.mem_of_getElem? (i := 11) rfl)
theorem dX8_noGift_16 : decode cX8_noGift 16 = .ok (.invokestatic 79, 3) := DX8_noGift_0 (16, .invokestatic 79, 3) (List.mem_of_getElem? (i := 12) rfl)
theorem dX8_noGift_19 : decode cX8_noGift 19 = .ok (.ifCond .ne 7, 3) := DX8_noGift_0 (19, .ifCond .ne 7, 3) (List.mem_of_getElem? (i := 13) rfl)
theorem dX8_noGift_22 : decode cX8_noGift 22 = .ok (.iconst 1, 1) := DX8_noGift_0 (22, .iconst 1, 1) (List.mem_of_getElem? (i := 14) rfl)
theorem dX8_noGift_23 : decode cX8_noGift 23 = .ok (.goto 4, 3) := DX8_noGift_0 (23, .goto 4, 3) (List.mem_of_getElem? (i := 15) rfl)
theorem dX8_noGift_26 : decode cX8_noGift 26 = .ok (.iconst 0, 1) := DX8_noGift_0 (26, .iconst 0, 1) (List.mem_of_getElem? (i := 16) rfl)
theorem dX8_noGift_27 : decode cX8_noGift 27 = .ok (.iconst 1, 1) := DX8_noGift_0 (27, .iconst 1, 1) (List.mem_of_getElem? (i := 17) rfl)
theorem dX8_noGift_28 : decode cX8_noGift 28 = .ok (.invokevirtual 261, 3) := DX8_noGift_0 (28, .invokevirtual 261, 3) (List.mem_of_getElem? (i := 18) rfl)
theorem dX8_noGift_31 : decode cX8_noGift 31 = .ok (.ireturn, 1) := DX8_noGift_0 (31, .ireturn, 1) (List.mem_of_getElem? (i := 19) rfl)
abbrev rmX8_noGift : Room := { frames := 1, cells := 0, slots := 0, locals := 22 }
set_option maxHeartbeats 400000 in
set_option maxRecDepth 100000 in
theorem met_X8_noGift (l : Launch) (D : va_G) (kA : Nat → ClassId) (a : Nat → Nat) (V0 : Sz) (x1 : Int) (hDt : ∀ w : Sz, va_D (fun _ => True) (cs_X8 kA a w)) {r : Bool} {Vr : Sz} (hf : f_X8_noGift V0 x1 = some (r, Vr)) : MZ l yX8_noGift cX8_noGift 2 (some .boolean) rmX8_noGift D kA [.ref (a 0), vI x1] (cs_X8 kA a V0) (cs_X8 kA a Vr) (some (vI (bI r))) := by
  refine zZZ (own := RX8) rfl rfl (Nat.le_of_ble_eq_true rfl) ?_
  intro p e s m args below meth c ls Q hC hK hP hl hret
  have hl : lv_has ls 2 [(0, .ref (a 0)), (1, vI x1)] := hl
  have hS : va_S (zF (cs_X8 kA a V0)) s.heap s.heap [] := va_S.rf
  have hD := zDself (C := fun w : Sz => (cs_X8 kA a w)) hDt V0 (fun _ => rfl)
  try dsimp only at hD
  generalize hAe : zF (cs_X8 kA a V0) = A0 at hS hD hret
  unfold f_X8_noGift at hf
  have J27 : ∀ (V : Sz) (z0 : Int) (H : Heap) (locs : List Loc) (ls : Array Slot), jX8_noGift_27 x1 V z0 = some (r, Vr) → va_P D vwCl (cs_X8 kA a V) H → va_S A0 s.heap H locs → lv_has ls 2 [] → W p l e rmX8_noGift s m args below meth c H locs 0 0 Q (F0 m 27 ls [vI z0, .ref (a 0)]) := by
    intro V z0 H locs ls hf hP hS hl
    unfold jX8_noGift_27 at hf
    refine ziconst hC.1 hC.2.1 dX8_noGift_27 <| ?_
    obtain ⟨⟨r_3, V_4⟩, hu, hf⟩ := bd_some hf
    have hDc := hDt
    refine zcVZ (As := [vI z0, vI 1]) (rest := []) hC hK (met_X8_fails l D kA a V z0 1 hDc hu) zwX8_261 hS (zFsub (hD V) [0, 1, 2, 3, 4, 5, 6, 7, 8, 9, 10, 11, 12, 13, 14, 15, 16] rfl) hP (q0 := 0) rfl rfl rfl rfl hl.1 rfl (Nat.le_of_ble_eq_true rfl) ⟨Nat.le_of_ble_eq_true rfl, Nat.le_of_ble_eq_true rfl⟩ ⟨rfl, rfl⟩ ⟨Nat.le_refl _, Nat.le_refl _⟩ dX8_noGift_28 (fun H locs hP1 hk1 hS => ?_)
    have hP : va_P D vwCl (cs_X8 kA a V_4) H := hP1
    have hf := Option.some.inj hf
    simp only [Prod.mk.injEq] at hf
    exact hret (Int32.ofInt (bI r_3)) _ _ _ _ (zb01 _) (congrArg (fun z => some (vI (bI z))) hf.1.symm) (by rw [← hf.2]; exact hP) hS dX8_noGift_31
  refine lv_aload_n hC.1 hC.2.1 dX8_noGift_0 rfl (lv_at hl 0 rfl) <| ziconst hC.1 hC.2.1 dX8_noGift_1 <| ?_
  refine pfX8_65 hC hK hP (hD V0) hS (q0 := 0) rfl (Nat.le_of_ble_eq_true rfl) dX8_noGift_2 (fun H locs hP hS => ?_)
  obtain ⟨V_1, eV_1⟩ : ∃ y, y = us V0 9 0 := ⟨_, rfl⟩
  have hf := nm_at hf eV_1
  have hP : va_P D vwCl (cs_X8 kA a V_1) H := by rw [eV_1]; exact hP
  refine lv_aload_n hC.1 hC.2.1 dX8_noGift_5 rfl (lv_at hl 0 rfl) <| ziload_n hC.1 hC.2.1 dX8_noGift_6 rfl (lv_at hl 1 rfl) <| ziconst hC.1 hC.2.1 dX8_noGift_7 <| lv_aload_n hC.1 hC.2.1 dX8_noGift_8 rfl (lv_at hl 0 rfl) <| gfX8_7 hC hK hP (q0 := 0) rfl rfl dX8_noGift_9 <| ziconst hC.1 hC.2.1 dX8_noGift_12 <| jal hC hK hP (q0 := 1) rfl (Nat.le_of_ble_eq_true rfl) (by decide) rfl dX8_noGift_13 <| ziconst hC.1 hC.2.1 dX8_noGift_14 <| zisub hC.1 hC.2.1 dX8_noGift_15 <| ?_
  obtain ⟨r_2, hu, hf⟩ := bd_some hf
  have hPc : va_P D vwCl ([] : va_W) _ := hP.sub [] rfl
  refine zcSP (As := [vI x1, vI 0, vI ((V_1 0 2) - 1)]) (rest := [.ref (a 0)]) hC hK (met_X8_inRange l D kA x1 0 ((V_1 0 2) - 1) hu) zwX8_79 hPc rfl hl.1 rfl (Nat.le_of_ble_eq_true rfl) ⟨Nat.le_of_ble_eq_true rfl, Nat.le_of_ble_eq_true rfl⟩ ⟨rfl, rfl⟩ ⟨Nat.le_refl _, Nat.le_refl _⟩ dX8_noGift_16 <| zifb_ne (tgt := 26) hC.1 hC.2.1 dX8_noGift_19 (by decide) (fun hc => ?_) (fun hc => ?_)
  · have hf := it_t hf hc
    exact ziconst hC.1 hC.2.1 dX8_noGift_26 <| J27 _ _ _ _ _ hf hP hS (lv_sub hl [] rfl)
  · have hf := it_f hf hc
    exact ziconst hC.1 hC.2.1 dX8_noGift_22 <| lv_goto (tgt := 27) hC.1 hC.2.1 dX8_noGift_23 (by decide) <| J27 _ _ _ _ _ hf hP hS (lv_sub hl [] rfl)
theorem DX8_noPart_0 : ∀ q ∈ ([(0, .aload_n 0, 1), (1, .iload_n 1, 1), (2, .invokevirtual 265, 3), (5, .ifCond .ne 36, 3), (8, .aload_n 0, 1), (9, .iload_n 2, 1), (10, .iconst 0, 1), (11, .aload_n 0, 1), (12, .getfield 7, 3), (15, .sipush 293, 3), (18, .iload_n 1, 1), (19, .iadd, 1), (20, .iaload, 1), (21, .iconst 1, 1), (22, .isub, 1), (23, .invokestatic 79, 3), (26, .ifCond .ne 7, 3), (29, .iconst 1, 1), (30, .goto 4, 3), (33, .iconst 0, 1), (34, .iconst 1, 1), (35, .invokevirtual 261, 3), (38, .ifCond .eq 7, 3), (41, .iconst 1, 1), (42, .goto 4, 3), (45, .iconst 0, 1), (46, .ireturn, 1)] : List (Nat × Instr × Nat)), decode cX8_noPart q.1 = .ok q.2 := by decide +kernel
theorem dX8_noPart_0 : decode cX8_noPart 0 = .ok (.aload_n 0, 1) := DX8_noPart_0 (0, .aload_n 0, 1) (List.mem_of_getElem? (i := 0) rfl)
theorem dX8_noPart_1 : decode cX8_noPart 1 = .ok (.iload_n 1, 1) := DX8_noPart_0 (1, .iload_n 1, 1) (List.mem_of_getElem? (i := 1) rfl)
theorem dX8_noPart_2 : decode cX8_noPart 2 = .ok (.invokevirtual 265, 3) := DX8_noPart_0 (2, .invokevirtual 265, 3) (List.mem_of_getElem? (i := 2) rfl)
theorem dX8_noPart_5 : decode cX8_noPart 5 = .ok (.ifCond .ne 36, 3) := DX8_noPart_0 (5, .ifCond .ne 36, 3) (List.mem_of_getElem? (i := 3) rfl)
theorem dX8_noPart_8 : decode cX8_noPart 8 = .ok (.aload_n 0, 1) := DX8_noPart_0 (8, .aload_n 0, 1) (List.mem_of_getElem? (i := 4) rfl)
theorem dX8_noPart_9 : decode cX8_noPart 9 = .ok (.iload_n 2, 1) := DX8_noPart_0 (9, .iload_n 2, 1) (List.mem_of_getElem? (i := 5) rfl)
theorem dX8_noPart_10 : decode cX8_noPart 10 = .ok (.iconst 0, 1) := DX8_noPart_0 (10, .iconst 0, 1) (List.mem_of_getElem? (i := 6) rfl)
theorem dX8_noPart_11 : decode cX8_noPart 11 = .ok (.aload_n 0, 1) := DX8_noPart_0 (11, .aload_n 0, 1) (List.mem_of_getElem? (i := 7) rfl)
theorem dX8_noPart_12 : decode cX8_noPart 12 = .ok (.getfield 7, 3) := DX8_noPart_0 (12, .getfield 7, 3) (List.mem_of_getElem? (i := 8) rfl)
theorem dX8_noPart_15 : decode cX8_noPart 15 = .ok (.sipush 293, 3) := DX8_noPart_0 (15, .sipush 293, 3) (List.mem_of_getElem? (i := 9) rfl)
theorem dX8_noPart_18 : decode cX8_noPart 18 = .ok (.iload_n 1, 1) := DX8_noPart_0 (18, .iload_n 1, 1) (List.mem_of_getElem? (i := 10) rfl)
theorem dX8_noPart_19 : decode cX8_noPart 19 = .ok (.iadd, 1) := DX8_noPart_0 (19, .iadd, 1) (List.mem_of_getElem? (i := 11) rfl)
theorem dX8_noPart_20 : decode cX8_noPart 20 = .ok (.iaload, 1) := DX8_noPart_0 (20, .iaload, 1) (List.mem_of_getElem? (i := 12) rfl)
theorem dX8_noPart_21 : decode cX8_noPart 21 = .ok (.iconst 1, 1) := DX8_noPart_0 (21, .iconst 1, 1) (List.mem_of_getElem? (i := 13) rfl)
theorem dX8_noPart_22 : decode cX8_noPart 22 = .ok (.isub, 1) := DX8_noPart_0 (22, .isub, 1) (List.mem_of_getElem? (i := 14) rfl)
theorem dX8_noPart_23 : decode cX8_noPart 23 = .ok (.invokestatic 79, 3) := DX8_noPart_0 (23, .invokestatic 79, 3) (List.mem_of_getElem? (i := 15) rfl)
theorem dX8_noPart_26 : decode cX8_noPart 26 = .ok (.ifCond .ne 7, 3) := DX8_noPart_0 (26, .ifCond .ne 7, 3) (List.mem_of_getElem? (i := 16) rfl)
theorem dX8_noPart_29 : decode cX8_noPart 29 = .ok (.iconst 1, 1) := DX8_noPart_0 (29, .iconst 1, 1) (List.mem_of_getElem? (i := 17) rfl)
theorem dX8_noPart_30 : decode cX8_noPart 30 = .ok (.goto 4, 3) := DX8_noPart_0 (30, .goto 4, 3) (List.mem_of_getElem? (i := 18) rfl)
theorem dX8_noPart_33 : decode cX8_noPart 33 = .ok (.iconst 0, 1) := DX8_noPart_0 (33, .iconst 0, 1) (List.mem_of_getElem? (i := 19) rfl)
theorem dX8_noPart_34 : decode cX8_noPart 34 = .ok (.iconst 1, 1) := DX8_noPart_0 (34, .iconst 1, 1) (List.mem_of_getElem? (i := 20) rfl)
theorem dX8_noPart_35 : decode cX8_noPart 35 = .ok (.invokevirtual 261, 3) := DX8_noPart_0 (35, .invokevirtual 261, 3) (List.mem_of_getElem? (i := 21) rfl)
theorem dX8_noPart_38 : decode cX8_noPart 38 = .ok (.ifCond .eq 7, 3) := DX8_noPart_0 (38, .ifCond .eq 7, 3) (List.mem_of_getElem? (i := 22) rfl)
theorem dX8_noPart_41 : decode cX8_noPart 41 = .ok (.iconst 1, 1) := DX8_noPart_0 (41, .iconst 1, 1) (List.mem_of_getElem? (i := 23) rfl)
theorem dX8_noPart_42 : decode cX8_noPart 42 = .ok (.goto 4, 3) := DX8_noPart_0 (42, .goto 4, 3) (List.mem_of_getElem? (i := 24) rfl)
theorem dX8_noPart_45 : decode cX8_noPart 45 = .ok (.iconst 0, 1) := DX8_noPart_0 (45, .iconst 0, 1) (List.mem_of_getElem? (i := 25) rfl)
theorem dX8_noPart_46 : decode cX8_noPart 46 = .ok (.ireturn, 1) := DX8_noPart_0 (46, .ireturn, 1) (List.mem_of_getElem? (i := 26) rfl)
abbrev rmX8_noPart : Room := { frames := 2, cells := 0, slots := 0, locals := 43 }
set_option maxHeartbeats 400000 in
set_option maxRecDepth 100000 in
theorem met_X8_noPart (l : Launch) (D : va_G) (kA : Nat → ClassId) (a : Nat → Nat) (V0 : Sz) (x1 : Int) (x2 : Int) (hDt : ∀ w : Sz, va_D (fun _ => True) (cs_X8 kA a w)) {r : Bool} {Vr : Sz} (hf : f_X8_noPart V0 x1 x2 = some (r, Vr)) : MZ l yX8_noPart cX8_noPart 3 (some .boolean) rmX8_noPart D kA [.ref (a 0), vI x1, vI x2] (cs_X8 kA a V0) (cs_X8 kA a Vr) (some (vI (bI r))) := by
  refine zZZ (own := RX8) rfl rfl (Nat.le_of_ble_eq_true rfl) ?_
  intro p e s m args below meth c ls Q hC hK hP hl hret
  have hl : lv_has ls 3 [(0, .ref (a 0)), (1, vI x1), (2, vI x2)] := hl
  have hS : va_S (zF (cs_X8 kA a V0)) s.heap s.heap [] := va_S.rf
  have hD := zDself (C := fun w : Sz => (cs_X8 kA a w)) hDt V0 (fun _ => rfl)
  try dsimp only at hD
  generalize hAe : zF (cs_X8 kA a V0) = A0 at hS hD hret
  unfold f_X8_noPart at hf
  have J34 : ∀ (V : Sz) (z0 : Int) (H : Heap) (locs : List Loc) (ls : Array Slot), jX8_noPart_34 x1 x2 V z0 = some (r, Vr) → va_P D vwCl (cs_X8 kA a V) H → va_S A0 s.heap H locs → lv_has ls 3 [] → W p l e rmX8_noPart s m args below meth c H locs 0 0 Q (F0 m 34 ls [vI z0, .ref (a 0)]) := by
    intro V z0 H locs ls hf hP hS hl
    unfold jX8_noPart_34 at hf
    refine ziconst hC.1 hC.2.1 dX8_noPart_34 <| ?_
    obtain ⟨⟨r_5, V_6⟩, hu, hf⟩ := bd_some hf
    have hDc := hDt
    refine zcVZ (As := [vI z0, vI 1]) (rest := []) hC hK (met_X8_fails l D kA a V z0 1 hDc hu) zwX8_261 hS (zFsub (hD V) [0, 1, 2, 3, 4, 5, 6, 7, 8, 9, 10, 11, 12, 13, 14, 15, 16] rfl) hP (q0 := 0) rfl rfl rfl rfl hl.1 rfl (Nat.le_of_ble_eq_true rfl) ⟨Nat.le_of_ble_eq_true rfl, Nat.le_of_ble_eq_true rfl⟩ ⟨rfl, rfl⟩ ⟨Nat.le_refl _, Nat.le_refl _⟩ dX8_noPart_35 (fun H locs hP1 hk1 hS => ?_)
    have hP : va_P D vwCl (cs_X8 kA a V_6) H := hP1
    refine zifb_eq (tgt := 45) hC.1 hC.2.1 dX8_noPart_38 (by decide) (fun hc => ?_) (fun hc => ?_)
    · have hf := it_t hf hc
      refine ziconst hC.1 hC.2.1 dX8_noPart_45 <| ?_
      have hf := Option.some.inj hf
      simp only [Prod.mk.injEq] at hf
      exact hret (Int32.ofInt (bI false)) _ _ _ _ (zb01 _) (congrArg (fun z => some (vI (bI z))) hf.1.symm) (by rw [← hf.2]; exact hP) hS dX8_noPart_46
    · have hf := it_f hf hc
      refine ziconst hC.1 hC.2.1 dX8_noPart_41 <| lv_goto (tgt := 46) hC.1 hC.2.1 dX8_noPart_42 (by decide) <| ?_
      have hf := Option.some.inj hf
      simp only [Prod.mk.injEq] at hf
      exact hret (Int32.ofInt (bI true)) _ _ _ _ (zb01 _) (congrArg (fun z => some (vI (bI z))) hf.1.symm) (by rw [← hf.2]; exact hP) hS dX8_noPart_46
  refine lv_aload_n hC.1 hC.2.1 dX8_noPart_0 rfl (lv_at hl 0 rfl) <| ziload_n hC.1 hC.2.1 dX8_noPart_1 rfl (lv_at hl 1 rfl) <| ?_
  obtain ⟨⟨r_1, V_2⟩, hu, hf⟩ := bd_some hf
  have hDc := hDt
  refine zcVZ (As := [vI x1]) (rest := []) hC hK (met_X8_noGift l D kA a V0 x1 hDc hu) zwX8_265 hS (zFsub (hD V0) [0, 1, 2, 3, 4, 5, 6, 7, 8, 9, 10, 11, 12, 13, 14, 15, 16] rfl) hP (q0 := 0) rfl rfl rfl rfl hl.1 rfl (Nat.le_of_ble_eq_true rfl) ⟨Nat.le_of_ble_eq_true rfl, Nat.le_of_ble_eq_true rfl⟩ ⟨rfl, rfl⟩ ⟨Nat.le_refl _, Nat.le_refl _⟩ dX8_noPart_2 (fun H locs hP1 hk1 hS => ?_)
  have hP : va_P D vwCl (cs_X8 kA a V_2) H := hP1
  refine zifb_ne (tgt := 41) hC.1 hC.2.1 dX8_noPart_5 (by decide) (fun hc => ?_) (fun hc => ?_)
  · have hf := it_t hf hc
    refine ziconst hC.1 hC.2.1 dX8_noPart_41 <| lv_goto (tgt := 46) hC.1 hC.2.1 dX8_noPart_42 (by decide) <| ?_
    have hf := Option.some.inj hf
    simp only [Prod.mk.injEq] at hf
    exact hret (Int32.ofInt (bI true)) _ _ _ _ (zb01 _) (congrArg (fun z => some (vI (bI z))) hf.1.symm) (by rw [← hf.2]; exact hP) hS dX8_noPart_46
  · have hf := it_f hf hc
    refine lv_aload_n hC.1 hC.2.1 dX8_noPart_8 rfl (lv_at hl 0 rfl) <| ziload_n hC.1 hC.2.1 dX8_noPart_9 rfl (lv_at hl 2 rfl) <| ziconst hC.1 hC.2.1 dX8_noPart_10 <| lv_aload_n hC.1 hC.2.1 dX8_noPart_11 rfl (lv_at hl 0 rfl) <| gfX8_7 hC hK hP (q0 := 0) rfl rfl dX8_noPart_12 <| zsipush hC.1 hC.2.1 dX8_noPart_15 (by decide) <| ziload_n hC.1 hC.2.1 dX8_noPart_18 rfl (lv_at hl 1 rfl) <| ziadd hC.1 hC.2.1 dX8_noPart_19 <| ?_
    obtain ⟨hz_3, hf⟩ := ck_some hf
    refine jal hC hK hP (q0 := 1) rfl (Nat.le_of_ble_eq_true rfl) hz_3 rfl dX8_noPart_20 <| ziconst hC.1 hC.2.1 dX8_noPart_21 <| zisub hC.1 hC.2.1 dX8_noPart_22 <| ?_
    obtain ⟨r_4, hu, hf⟩ := bd_some hf
    have hPc : va_P D vwCl ([] : va_W) _ := hP.sub [] rfl
    refine zcSP (As := [vI x2, vI 0, vI ((V_2 0 (293 + x1).toNat) - 1)]) (rest := [.ref (a 0)]) hC hK (met_X8_inRange l D kA x2 0 ((V_2 0 (293 + x1).toNat) - 1) hu) zwX8_79 hPc rfl hl.1 rfl (Nat.le_of_ble_eq_true rfl) ⟨Nat.le_of_ble_eq_true rfl, Nat.le_of_ble_eq_true rfl⟩ ⟨rfl, rfl⟩ ⟨Nat.le_refl _, Nat.le_refl _⟩ dX8_noPart_23 <| zifb_ne (tgt := 33) hC.1 hC.2.1 dX8_noPart_26 (by decide) (fun hc => ?_) (fun hc => ?_)
    · have hf := it_t hf hc
      exact ziconst hC.1 hC.2.1 dX8_noPart_33 <| J34 _ _ _ _ _ hf hP hS (lv_sub hl [] rfl)
    · have hf := it_f hf hc
      exact ziconst hC.1 hC.2.1 dX8_noPart_29 <| lv_goto (tgt := 34) hC.1 hC.2.1 dX8_noPart_30 (by decide) <| J34 _ _ _ _ _ hf hP hS (lv_sub hl [] rfl)
theorem DX8_giftsWith_0 : ∀ q ∈ ([(0, .iconst 0, 1), (1, .istore_n 2, 1), (2, .iconst 0, 1), (3, .istore_n 3, 1), (4, .iload_n 3, 1), (5, .aload_n 0, 1), (6, .getfield 7, 3), (9, .iconst 2, 1), (10, .iaload, 1), (11, .if_icmp .ge 45, 3), (14, .iload_n 2, 1), (15, .iload_n 1, 1), (16, .ifCond .eq 14, 3), (19, .aload_n 0, 1), (20, .iload_n 3, 1), (21, .invokevirtual 89, 3), (24, .ifCond .eq 23, 3), (27, .goto 16, 3), (30, .aload_n 0, 1), (31, .getfield 7, 3), (34, .sipush 293, 3), (37, .iload_n 3, 1), (38, .iadd, 1), (39, .iaload, 1), (40, .ifCond .ne 7, 3), (43, .iconst 1, 1), (44, .goto 4, 3), (47, .iconst 0, 1), (48, .iadd, 1), (49, .istore_n 2, 1), (50, .iinc 3 1, 3), (53, .goto (-49), 3), (56, .iload_n 2, 1), (57, .ireturn, 1)] : List (Nat × Instr × Nat)), decode cX8_giftsWith q.1 = .ok q.2 := by decide +kernel
theorem dX8_giftsWith_0 : decode cX8_giftsWith 0 = .ok (.iconst 0, 1) := DX8_giftsWith_0 (0, .iconst 0, 1) (List.mem_of_getElem? (i := 0) rfl)
theorem dX8_giftsWith_1 : decode cX8_giftsWith 1 = .ok (.istore_n 2, 1) := DX8_giftsWith_0 (1, .istore_n 2, 1) (List.mem_of_getElem? (i := 1) rfl)
theorem dX8_giftsWith_2 : decode cX8_giftsWith 2 = .ok (.iconst 0, 1) := DX8_giftsWith_0 (2, .iconst 0, 1) (List.mem_of_getElem? (i := 2) rfl)
theorem dX8_giftsWith_3 : decode cX8_giftsWith 3 = .ok (.istore_n 3, 1) := DX8_giftsWith_0 (3, .istore_n 3, 1) (List.mem_of_getElem? (i := 3) rfl)
theorem dX8_giftsWith_4 : decode cX8_giftsWith 4 = .ok (.iload_n 3, 1) := DX8_giftsWith_0 (4, .iload_n 3, 1) (List.mem_of_getElem? (i := 4) rfl)
theorem dX8_giftsWith_5 : decode cX8_giftsWith 5 = .ok (.aload_n 0, 1) := DX8_giftsWith_0 (5, .aload_n 0, 1) (List.mem_of_getElem? (i := 5) rfl)
theorem dX8_giftsWith_6 : decode cX8_giftsWith 6 = .ok (.getfield 7, 3) := DX8_giftsWith_0 (6, .getfield 7, 3) (List.mem_of_getElem? (i := 6) rfl)
theorem dX8_giftsWith_9 : decode cX8_giftsWith 9 = .ok (.iconst 2, 1) := DX8_giftsWith_0 (9, .iconst 2, 1) (List.mem_of_getElem? (i := 7) rfl)
theorem dX8_giftsWith_10 : decode cX8_giftsWith 10 = .ok (.iaload, 1) := DX8_giftsWith_0 (10, .iaload, 1) (List.mem_of_getElem? (i := 8) rfl)
theorem dX8_giftsWith_11 : decode cX8_giftsWith 11 = .ok (.if_icmp .ge 45, 3) := DX8_giftsWith_0 (11, .if_icmp .ge 45, 3) (List.mem_of_getElem? (i := 9) rfl)
theorem dX8_giftsWith_14 : decode cX8_giftsWith 14 = .ok (.iload_n 2, 1) := DX8_giftsWith_0 (14, .iload_n 2, 1) (List.mem_of_getElem? (i := 10) rfl)
theorem dX8_giftsWith_15 : decode cX8_giftsWith 15 = .ok (.iload_n 1, 1) := DX8_giftsWith_0 (15, .iload_n 1, 1) (List.mem_of_getElem? (i := 11) rfl)
theorem dX8_giftsWith_16 : decode cX8_giftsWith 16 = .ok (.ifCond .eq 14, 3) := DX8_giftsWith_0 (16, .ifCond .eq 14, 3) (List.mem_of_getElem? (i := 12) rfl)
theorem dX8_giftsWith_19 : decode cX8_giftsWith 19 = .ok (.aload_n 0, 1) := DX8_giftsWith_0 (19, .aload_n 0, 1) (List.mem_of_getElem? (i := 13) rfl)
theorem dX8_giftsWith_20 : decode cX8_giftsWith 20 = .ok (.iload_n 3, 1) := DX8_giftsWith_0 (20, .iload_n 3, 1) (List.mem_of_getElem? (i := 14) rfl)
theorem dX8_giftsWith_21 : decode cX8_giftsWith 21 = .ok (.invokevirtual 89, 3) := DX8_giftsWith_0 (21, .invokevirtual 89, 3) (List.mem_of_getElem? (i := 15) rfl)
theorem dX8_giftsWith_24 : decode cX8_giftsWith 24 = .ok (.ifCond .eq 23, 3) := DX8_giftsWith_0 (24, .ifCond .eq 23, 3) (List.mem_of_getElem? (i := 16) rfl)
theorem dX8_giftsWith_27 : decode cX8_giftsWith 27 = .ok (.goto 16, 3) := DX8_giftsWith_0 (27, .goto 16, 3) (List.mem_of_getElem? (i := 17) rfl)
theorem dX8_giftsWith_30 : decode cX8_giftsWith 30 = .ok (.aload_n 0, 1) := DX8_giftsWith_0 (30, .aload_n 0, 1) (List.mem_of_getElem? (i := 18) rfl)
theorem dX8_giftsWith_31 : decode cX8_giftsWith 31 = .ok (.getfield 7, 3) := DX8_giftsWith_0 (31, .getfield 7, 3) (List.mem_of_getElem? (i := 19) rfl)
theorem dX8_giftsWith_34 : decode cX8_giftsWith 34 = .ok (.sipush 293, 3) := DX8_giftsWith_0 (34, .sipush 293, 3) (List.mem_of_getElem? (i := 20) rfl)
theorem dX8_giftsWith_37 : decode cX8_giftsWith 37 = .ok (.iload_n 3, 1) := DX8_giftsWith_0 (37, .iload_n 3, 1) (List.mem_of_getElem? (i := 21) rfl)
theorem dX8_giftsWith_38 : decode cX8_giftsWith 38 = .ok (.iadd, 1) := DX8_giftsWith_0 (38, .iadd, 1) (List.mem_of_getElem? (i := 22) rfl)
theorem dX8_giftsWith_39 : decode cX8_giftsWith 39 = .ok (.iaload, 1) := DX8_giftsWith_0 (39, .iaload, 1) (List.mem_of_getElem? (i := 23) rfl)
theorem dX8_giftsWith_40 : decode cX8_giftsWith 40 = .ok (.ifCond .ne 7, 3) := DX8_giftsWith_0 (40, .ifCond .ne 7, 3) (List.mem_of_getElem? (i := 24) rfl)
theorem dX8_giftsWith_43 : decode cX8_giftsWith 43 = .ok (.iconst 1, 1) := DX8_giftsWith_0 (43, .iconst 1, 1) (List.mem_of_getElem? (i := 25) rfl)
theorem dX8_giftsWith_44 : decode cX8_giftsWith 44 = .ok (.goto 4, 3) := DX8_giftsWith_0 (44, .goto 4, 3) (List.mem_of_getElem? (i := 26) rfl)
theorem dX8_giftsWith_47 : decode cX8_giftsWith 47 = .ok (.iconst 0, 1) := DX8_giftsWith_0 (47, .iconst 0, 1) (List.mem_of_getElem? (i := 27) rfl)
theorem dX8_giftsWith_48 : decode cX8_giftsWith 48 = .ok (.iadd, 1) := DX8_giftsWith_0 (48, .iadd, 1) (List.mem_of_getElem? (i := 28) rfl)
theorem dX8_giftsWith_49 : decode cX8_giftsWith 49 = .ok (.istore_n 2, 1) := DX8_giftsWith_0 (49, .istore_n 2, 1) (List.mem_of_getElem? (i := 29) rfl)
theorem dX8_giftsWith_50 : decode cX8_giftsWith 50 = .ok (.iinc 3 1, 3) := DX8_giftsWith_0 (50, .iinc 3 1, 3) (List.mem_of_getElem? (i := 30) rfl)
theorem dX8_giftsWith_53 : decode cX8_giftsWith 53 = .ok (.goto (-49), 3) := DX8_giftsWith_0 (53, .goto (-49), 3) (List.mem_of_getElem? (i := 31) rfl)
theorem dX8_giftsWith_56 : decode cX8_giftsWith 56 = .ok (.iload_n 2, 1) := DX8_giftsWith_0 (56, .iload_n 2, 1) (List.mem_of_getElem? (i := 32) rfl)
theorem dX8_giftsWith_57 : decode cX8_giftsWith 57 = .ok (.ireturn, 1) := DX8_giftsWith_0 (57, .ireturn, 1) (List.mem_of_getElem? (i := 33) rfl)
abbrev rmX8_giftsWith : Room := { frames := 1, cells := 0, slots := 0, locals := 21 }
set_option maxHeartbeats 400000 in
set_option maxRecDepth 100000 in
theorem met_X8_giftsWith (l : Launch) (D : va_G) (kA : Nat → ClassId) (a : Nat → Nat) (n : Nat) (V : Sz) (x1 : Int) {r : Int} (hf : f_X8_giftsWith n V x1 = some r) : MP l yX8_giftsWith cX8_giftsWith 4 (some .int) rmX8_giftsWith D kA [.ref (a 0), vI x1] (cs_X8 kA a V) (some (vI r)) := by
  refine zPI (own := RX8) rfl rfl (Nat.le_of_ble_eq_true rfl) ?_
  intro p e s m args below meth c ls Q hC hK hP hl hret
  have hl : lv_has ls 4 [(0, .ref (a 0)), (1, vI x1)] := hl
  unfold f_X8_giftsWith at hf
  have L4 : ∀ (k4 : Nat) (y2 : Int) (y3 : Int) (ls : Array Slot), lpF (bX8_giftsWith_4 n V x1) k4 (y2, y3) = some r → lv_has ls 4 [(0, .ref (a 0)), (1, vI x1), (2, vI y2), (3, vI y3)] → W p l e rmX8_giftsWith s m args below meth c s.heap [] 0 0 Q (F0 m 4 ls []) := by
    intro k4
    induction k4 with
    | zero => intro y2 y3 ls hf hl; exact lp_0 hf
    | succ k4 ih4 =>
      intro y2 y3 ls hf hl
      have hf := lp_s hf
      rw [bX8_giftsWith_4_e] at hf
      have J48 : ∀ (y3 : Int) (z0 : Int) (z1 : Int) (ls : Array Slot), jX8_giftsWith_48 n V x1 (lpF (bX8_giftsWith_4 n V x1) k4) y3 z0 z1 = some r → lv_has ls 4 [(0, .ref (a 0)), (1, vI x1), (3, vI y3)] → W p l e rmX8_giftsWith s m args below meth c s.heap [] 0 0 Q (F0 m 48 ls [vI z0, vI z1]) := by
        intro y3 z0 z1 ls hf hl
        unfold jX8_giftsWith_48 at hf
        refine ziadd hC.1 hC.2.1 dX8_giftsWith_48 <| ?_
        refine ztopi (fun x_5 ex_5 => ?_)
        have hf := nm_at hf ex_5
        refine zistore_n (lv' := [(2, vI x_5), (0, .ref (a 0)), (1, vI x1), (3, vI y3)]) hC.1 hC.2.1 dX8_giftsWith_49 rfl hl (by decide) rfl (fun ls hl => ?_)
        obtain ⟨x_6, ex_6⟩ : ∃ y : Int, y = y3 + 1 := ⟨_, rfl⟩
        have hf := nm_at hf ex_6
        refine ziinc (v := x_6) (lv' := [(3, vI x_6), (2, vI x_5), (0, .ref (a 0)), (1, vI x1)]) hC.1 hC.2.1 dX8_giftsWith_50 hl (k := 3) rfl ex_6 (by decide) rfl (fun ls hl => ?_)
        exact lv_goto (tgt := 4) hC.1 hC.2.1 dX8_giftsWith_53 (by decide) <| ih4 _ _ _ hf (lv_sub hl [2, 3, 1, 0] rfl)
      have J47 : ∀ (y3 : Int) (z0 : Int) (ls : Array Slot), jX8_giftsWith_47 n V x1 (lpF (bX8_giftsWith_4 n V x1) k4) y3 z0 = some r → lv_has ls 4 [(0, .ref (a 0)), (1, vI x1), (3, vI y3)] → W p l e rmX8_giftsWith s m args below meth c s.heap [] 0 0 Q (F0 m 47 ls [vI z0]) := by
        intro y3 z0 ls hf hl
        unfold jX8_giftsWith_47 at hf
        exact ziconst hC.1 hC.2.1 dX8_giftsWith_47 <| J48 _ _ _ _ hf (lv_sub hl [0, 1, 2] rfl)
      have J43 : ∀ (y3 : Int) (z0 : Int) (ls : Array Slot), jX8_giftsWith_43 n V x1 (lpF (bX8_giftsWith_4 n V x1) k4) y3 z0 = some r → lv_has ls 4 [(0, .ref (a 0)), (1, vI x1), (3, vI y3)] → W p l e rmX8_giftsWith s m args below meth c s.heap [] 0 0 Q (F0 m 43 ls [vI z0]) := by
        intro y3 z0 ls hf hl
        unfold jX8_giftsWith_43 at hf
        exact ziconst hC.1 hC.2.1 dX8_giftsWith_43 <| lv_goto (tgt := 48) hC.1 hC.2.1 dX8_giftsWith_44 (by decide) <| J48 _ _ _ _ hf (lv_sub hl [0, 1, 2] rfl)
      refine ziload_n hC.1 hC.2.1 dX8_giftsWith_4 rfl (lv_at hl 3 rfl) <| lv_aload_n hC.1 hC.2.1 dX8_giftsWith_5 rfl (lv_at hl 0 rfl) <| gfX8_7 hC hK hP (q0 := 0) rfl rfl dX8_giftsWith_6 <| ziconst hC.1 hC.2.1 dX8_giftsWith_9 <| jal hC hK hP (q0 := 1) rfl (Nat.le_of_ble_eq_true rfl) (by decide) rfl dX8_giftsWith_10 <| ?_
      obtain ⟨hz_1, hf⟩ := ck_some hf
      refine zicmp_ge (tgt := 56) hC.1 hC.2.1 ⟨hz_1.1, hz_1.2⟩ dX8_giftsWith_11 (by decide) (fun hc => ?_) (fun hc => ?_)
      · have hf := it_t hf hc
        exact ziload_n hC.1 hC.2.1 dX8_giftsWith_56 rfl (lv_at hl 2 rfl) <| hret (Int32.ofInt y2) _ _ (qI hf) dX8_giftsWith_57
      · have hf := it_f hf hc
        refine ziload_n hC.1 hC.2.1 dX8_giftsWith_14 rfl (lv_at hl 2 rfl) <| ziload_n hC.1 hC.2.1 dX8_giftsWith_15 rfl (lv_at hl 1 rfl) <| ?_
        obtain ⟨hz_2, hf⟩ := ck_some hf
        refine zif_eq (tgt := 30) hC.1 hC.2.1 hz_2 dX8_giftsWith_16 (by decide) (fun hc => ?_) (fun hc => ?_)
        · have hf := it_t hf hc
          refine lv_aload_n hC.1 hC.2.1 dX8_giftsWith_30 rfl (lv_at hl 0 rfl) <| gfX8_7 hC hK hP (q0 := 0) rfl rfl dX8_giftsWith_31 <| zsipush hC.1 hC.2.1 dX8_giftsWith_34 (by decide) <| ziload_n hC.1 hC.2.1 dX8_giftsWith_37 rfl (lv_at hl 3 rfl) <| ziadd hC.1 hC.2.1 dX8_giftsWith_38 <| ?_
          obtain ⟨hz_3, hf⟩ := ck_some hf
          refine jal hC hK hP (q0 := 1) rfl (Nat.le_of_ble_eq_true rfl) hz_3 rfl dX8_giftsWith_39 <| ?_
          obtain ⟨hz_4, hf⟩ := ck_some hf
          refine zif_ne (tgt := 47) hC.1 hC.2.1 hz_4 dX8_giftsWith_40 (by decide) (fun hc => ?_) (fun hc => ?_)
          · have hf := it_f hf hc
            exact J47 _ _ _ hf (lv_sub hl [0, 1, 3] rfl)
          · have hf := it_t hf hc
            exact J43 _ _ _ hf (lv_sub hl [0, 1, 3] rfl)
        · have hf := it_f hf hc
          refine lv_aload_n hC.1 hC.2.1 dX8_giftsWith_19 rfl (lv_at hl 0 rfl) <| ziload_n hC.1 hC.2.1 dX8_giftsWith_20 rfl (lv_at hl 3 rfl) <| ?_
          obtain ⟨r_7, hu, hf⟩ := bd_some hf
          refine zcVP (As := [vI y3]) (rest := [vI y2]) hC hK (met_X8_isSpoilt l D kA a V y3 hu) zwX8_89 hP (q0 := 0) rfl rfl rfl rfl hl.1 rfl (Nat.le_of_ble_eq_true rfl) ⟨Nat.le_of_ble_eq_true rfl, Nat.le_of_ble_eq_true rfl⟩ ⟨rfl, rfl⟩ ⟨Nat.le_refl _, Nat.le_refl _⟩ dX8_giftsWith_21 <| zifb_eq (tgt := 47) hC.1 hC.2.1 dX8_giftsWith_24 (by decide) (fun hc => ?_) (fun hc => ?_)
          · have hf := it_t hf hc
            exact J47 _ _ _ hf (lv_sub hl [0, 1, 3] rfl)
          · have hf := it_f hf hc
            exact lv_goto (tgt := 43) hC.1 hC.2.1 dX8_giftsWith_27 (by decide) <| J43 _ _ _ hf (lv_sub hl [0, 1, 3] rfl)
  refine ziconst hC.1 hC.2.1 dX8_giftsWith_0 <| zistore_n (lv' := [(2, vI 0), (0, .ref (a 0)), (1, vI x1)]) hC.1 hC.2.1 dX8_giftsWith_1 rfl hl (by decide) rfl (fun ls hl => ?_)
  refine ziconst hC.1 hC.2.1 dX8_giftsWith_2 <| zistore_n (lv' := [(3, vI 0), (2, vI 0), (0, .ref (a 0)), (1, vI x1)]) hC.1 hC.2.1 dX8_giftsWith_3 rfl hl (by decide) rfl (fun ls hl => ?_)
  exact L4 n _ _ _ hf (lv_sub hl [2, 3, 1, 0] rfl)
theorem DX8_count_0 : ∀ q ∈ ([(0, .aload_n 0, 1), (1, .iconst 0, 1), (2, .putfield 65, 3), (5, .aload_n 0, 1), (6, .iload_n 1, 1), (7, .iconst 0, 1), (8, .bipush 9, 2), (10, .invokestatic 79, 3), (13, .ifCond .ne 7, 3), (16, .iconst 1, 1), (17, .goto 4, 3), (20, .iconst 0, 1), (21, .iconst 1, 1), (22, .invokevirtual 261, 3), (25, .ifCond .eq 5, 3), (28, .iconst 0, 1), (29, .ireturn, 1), (30, .iload_n 1, 1), (31, .iconst 3, 1), (32, .if_icmp .ne 11, 3), (35, .aload_n 0, 1), (36, .iconst 0, 1), (37, .invokevirtual 268, 3), (40, .goto 36, 3), (43, .iload_n 1, 1), (44, .bipush 8, 2), (46, .if_icmp .ne 11, 3), (49, .aload_n 0, 1), (50, .iconst 1, 1), (51, .invokevirtual 268, 3), (54, .goto 22, 3), (57, .iload_n 1, 1), (58, .bipush 9, 2), (60, .if_icmp .ne 10, 3), (63, .aload_n 0, 1), (64, .getfield 68, 3), (67, .goto 9, 3), (70, .aload_n 0, 1), (71, .getfield 7, 3), (74, .iload_n 1, 1)] : List (Nat × Instr × Nat)), decode cX8_count q.1 = .ok q.2 := by decide +kernel
theorem dX8_count_0 : decode cX8_count 0 = .ok (.aload_n 0, 1) := DX8_count_0 (0, .aload_n 0, 1) (List.mem_of_getElem? (i := 0) rfl)
theorem dX8_count_1 : decode cX8_count 1 = .ok (.iconst 0, 1) := DX8_count_0 (1, .iconst 0, 1) (List.mem_of_getElem? (i := 1) rfl)
theorem dX8_count_2 : decode cX8_count 2 = .ok (.putfield 65, 3) := DX8_count_0 (2, .putfield 65, 3) (List.mem_of_getElem? (i := 2) rfl)
theorem dX8_count_5 : decode cX8_count 5 = .ok (.aload_n 0, 1) := DX8_count_0 (5, .aload_n 0, 1) (List.mem_of_getElem? (i := 3) rfl)
theorem dX8_count_6 : decode cX8_count 6 = .ok (.iload_n 1, 1) := DX8_count_0 (6, .iload_n 1, 1) (List.mem_of_getElem? (i := 4) rfl)
theorem dX8_count_7 : decode cX8_count 7 = .ok (.iconst 0, 1) := DX8_count_0 (7, .iconst 0, 1) (List.mem_of_getElem? (i := 5) rfl)
theorem dX8_count_8 : decode cX8_count 8 = .ok (.bipush 9, 2) := DX8_count_0 (8, .bipush 9, 2) (List.mem_of_getElem? (i := 6) rfl)
theorem dX8_count_10 : decode cX8_count 10 = .ok (.invokestatic 79, 3) := DX8_count_0 (10, .invokestatic 79, 3) (List.mem_of_getElem? (i := 7) rfl)
theorem dX8_count_13 : decode cX8_count 13 = .ok (.ifCond .ne 7, 3) := DX8_count_0 (13, .ifCond .ne 7, 3) (List.mem_of_getElem? (i := 8) rfl)
theorem dX8_count_16 : decode cX8_count 16 = .ok (.iconst 1, 1) := DX8_count_0 (16, .iconst 1, 1) (List.mem_of_getElem? (i := 9) rfl)
theorem dX8_count_17 : decode cX8_count 17 = .ok (.goto 4, 3) := DX8_count_0 (17, .goto 4, 3) (List.mem_of_getElem? (i := 10) rfl)
theorem dX8_count_20 : decode cX8_count 20 = .ok (.iconst 0, 1) := DX8_count_0 (20, .iconst 0, 1) (List.mem_of_getElem? (i := 11) rfl)
theorem dX8_count_21 : decode cX8_count 21 = .ok (.iconst 1, 1) := DX8_count_0 (21, .iconst 1, 1) (List.mem_of_getElem? (i := 12) rfl)
theorem dX8_count_22 : decode cX8_count 22 = .ok (.invokevirtual 261, 3) := DX8_count_0 (22, .invokevirtual 261, 3) (List.mem_of_getElem? (i := 13) rfl)
theorem dX8_count_25 : decode cX8_count 25 = .ok (.ifCond .eq 5, 3) := DX8_count_0 (25, .ifCond .eq 5, 3) (List.mem_of_getElem? (i := 14) rfl)
theorem dX8_count_28 : decode cX8_count 28 = .ok (.iconst 0, 1) := DX8_count_0 (28, .iconst 0, 1) (List.mem_of_getElem? (i := 15) rfl)
theorem dX8_count_29 : decode cX8_count 29 = .ok (.ireturn, 1) := DX8_count_0 (29, .ireturn, 1) (List.mem_of_getElem? (i := 16) rfl)
theorem dX8_count_30 : decode cX8_count 30 = .ok (.iload_n 1, 1) := DX8_count_0 (30, .iload_n 1, 1) (List.mem_of_getElem? (i := 17) rfl)
theorem dX8_count_31 : decode cX8_count 31 = .ok (.iconst 3, 1) := DX8_count_0 (31, .iconst 3, 1) (List.mem_of_getElem? (i := 18) rfl)
theorem dX8_count_32 : decode cX8_count 32 = .ok (.if_icmp .ne 11, 3) := DX8_count_0 (32, .if_icmp .ne 11, 3) (List.mem_of_getElem? (i := 19) rfl)
theorem dX8_count_35 : decode cX8_count 35 = .ok (.aload_n 0, 1) := DX8_count_0 (35, .aload_n 0, 1) (List.mem_of_getElem? (i := 20) rfl)
theorem dX8_count_36 : decode cX8_count 36 = .ok (.iconst 0, 1) := DX8_count_0 (36, .iconst 0, 1) (List.mem_of_getElem? (i := 21) rfl)
theorem dX8_count_37 : decode cX8_count 37 = .ok (.invokevirtual 268, 3) := DX8_count_0 (37, .invokevirtual 268, 3) (List.mem_of_getElem? (i := 22) rfl)
theorem dX8_count_40 : decode cX8_count 40 = .ok (.goto 36, 3) := DX8_count_0 (40, .goto 36, 3) (List.mem_of_getElem? (i := 23) rfl)
theorem dX8_count_43 : decode cX8_count 43 = .ok (.iload_n 1, 1) := DX8_count_0 (43, .iload_n 1, 1) (List.mem_of_getElem? (i := 24) rfl)
theorem dX8_count_44 : decode cX8_count 44 = .ok (.bipush 8, 2) := DX8_count_0 (44, .bipush 8, 2) (List.mem_of_getElem? (i := 25) rfl)
theorem dX8_count_46 : decode cX8_count 46 = .ok (.if_icmp .ne 11, 3) := DX8_count_0 (46, .if_icmp .ne 11, 3) (List.mem_of_getElem? (i := 26) rfl)
theorem dX8_count_49 : decode cX8_count 49 = .ok (.aload_n 0, 1) := DX8_count_0 (49, .aload_n 0, 1) (List.mem_of_getElem? (i := 27) rfl)
theorem dX8_count_50 : decode cX8_count 50 = .ok (.iconst 1, 1) := DX8_count_0 (50, .iconst 1, 1) (List.mem_of_getElem? (i := 28) rfl)
theorem dX8_count_51 : decode cX8_count 51 = .ok (.invokevirtual 268, 3) := DX8_count_0 (51, .invokevirtual 268, 3) (List.mem_of_getElem? (i := 29) rfl)
theorem dX8_count_54 : decode cX8_count 54 = .ok (.goto 22, 3) := DX8_count_0 (54, .goto 22, 3) (List.mem_of_getElem? (i := 30) rfl)
theorem dX8_count_57 : decode cX8_count 57 = .ok (.iload_n 1, 1) := DX8_count_0 (57, .iload_n 1, 1) (List.mem_of_getElem? (i := 31) rfl)
theorem dX8_count_58 : decode cX8_count 58 = .ok (.bipush 9, 2) := DX8_count_0 (58, .bipush 9, 2) (List.mem_of_getElem? (i := 32) rfl)
theorem dX8_count_60 : decode cX8_count 60 = .ok (.if_icmp .ne 10, 3) := DX8_count_0 (60, .if_icmp .ne 10, 3) (List.mem_of_getElem? (i := 33) rfl)
theorem dX8_count_63 : decode cX8_count 63 = .ok (.aload_n 0, 1) := DX8_count_0 (63, .aload_n 0, 1) (List.mem_of_getElem? (i := 34) rfl)
theorem dX8_count_64 : decode cX8_count 64 = .ok (.getfield 68, 3) := DX8_count_0 (64, .getfield 68, 3) (List.mem_of_getElem? (i := 35) rfl)
theorem dX8_count_67 : decode cX8_count 67 = .ok (.goto 9, 3) := DX8_count_0 (67, .goto 9, 3) (List.mem_of_getElem? (i := 36) rfl)
theorem dX8_count_70 : decode cX8_count 70 = .ok (.aload_n 0, 1) := DX8_count_0 (70, .aload_n 0, 1) (List.mem_of_getElem? (i := 37) rfl)
theorem dX8_count_71 : decode cX8_count 71 = .ok (.getfield 7, 3) := DX8_count_0 (71, .getfield 7, 3) (List.mem_of_getElem? (i := 38) rfl)
theorem dX8_count_74 : decode cX8_count 74 = .ok (.iload_n 1, 1) := DX8_count_0 (74, .iload_n 1, 1) (List.mem_of_getElem? (i := 39) rfl)
theorem DX8_count_1 : ∀ q ∈ ([(75, .iaload, 1), (76, .ireturn, 1)] : List (Nat × Instr × Nat)), decode cX8_count q.1 = .ok q.2 := by decide +kernel
theorem dX8_count_75 : decode cX8_count 75 = .ok (.iaload, 1) := DX8_count_1 (75, .iaload, 1) (List.mem_of_getElem? (i := 0) rfl)
theorem dX8_count_76 : decode cX8_count 76 = .ok (.ireturn, 1) := DX8_count_1 (76, .ireturn, 1) (List.mem_of_getElem? (i := 1) rfl)
abbrev rmX8_count : Room := { frames := 2, cells := 0, slots := 0, locals := 44 }
set_option maxHeartbeats 400000 in
set_option maxRecDepth 100000 in
theorem met_X8_count (l : Launch) (D : va_G) (kA : Nat → ClassId) (a : Nat → Nat) (n : Nat) (V0 : Sz) (x1 : Int) (hDt : ∀ w : Sz, va_D (fun _ => True) (cs_X8 kA a w)) {r : Int} {Vr : Sz} (hf : f_X8_count n V0 x1 = some (r, Vr)) : MZ l yX8_count cX8_count 2 (some .int) rmX8_count D kA [.ref (a 0), vI x1] (cs_X8 kA a V0) (cs_X8 kA a Vr) (some (vI r)) := by
  refine zZI (own := RX8) rfl rfl (Nat.le_of_ble_eq_true rfl) ?_
  intro p e s m args below meth c ls Q hC hK hP hl hret
  have hl : lv_has ls 2 [(0, .ref (a 0)), (1, vI x1)] := hl
  have hS : va_S (zF (cs_X8 kA a V0)) s.heap s.heap [] := va_S.rf
  have hD := zDself (C := fun w : Sz => (cs_X8 kA a w)) hDt V0 (fun _ => rfl)
  try dsimp only at hD
  generalize hAe : zF (cs_X8 kA a V0) = A0 at hS hD hret
  unfold f_X8_count at hf
  have J21 : ∀ (V : Sz) (z0 : Int) (H : Heap) (locs : List Loc) (ls : Array Slot), jX8_count_21 n x1 V z0 = some (r, Vr) → va_P D vwCl (cs_X8 kA a V) H → va_S A0 s.heap H locs → lv_has ls 2 [(0, .ref (a 0)), (1, vI x1)] → W p l e rmX8_count s m args below meth c H locs 0 0 Q (F0 m 21 ls [vI z0, .ref (a 0)]) := by
    intro V z0 H locs ls hf hP hS hl
    unfold jX8_count_21 at hf
    refine ziconst hC.1 hC.2.1 dX8_count_21 <| ?_
    obtain ⟨⟨r_3, V_4⟩, hu, hf⟩ := bd_some hf
    have hDc := hDt
    refine zcVZ (As := [vI z0, vI 1]) (rest := []) hC hK (met_X8_fails l D kA a V z0 1 hDc hu) zwX8_261 hS (zFsub (hD V) [0, 1, 2, 3, 4, 5, 6, 7, 8, 9, 10, 11, 12, 13, 14, 15, 16] rfl) hP (q0 := 0) rfl rfl rfl rfl hl.1 rfl (Nat.le_of_ble_eq_true rfl) ⟨Nat.le_of_ble_eq_true rfl, Nat.le_of_ble_eq_true rfl⟩ ⟨rfl, rfl⟩ ⟨Nat.le_refl _, Nat.le_refl _⟩ dX8_count_22 (fun H locs hP1 hk1 hS => ?_)
    have hP : va_P D vwCl (cs_X8 kA a V_4) H := hP1
    refine zifb_eq (tgt := 30) hC.1 hC.2.1 dX8_count_25 (by decide) (fun hc => ?_) (fun hc => ?_)
    · have hf := it_t hf hc
      refine ziload_n hC.1 hC.2.1 dX8_count_30 rfl (lv_at hl 1 rfl) <| ziconst hC.1 hC.2.1 dX8_count_31 <| ?_
      obtain ⟨hz_5, hf⟩ := ck_some hf
      refine zicmp_ne (tgt := 43) hC.1 hC.2.1 ⟨hz_5, (by decide)⟩ dX8_count_32 (by decide) (fun hc => ?_) (fun hc => ?_)
      · have hf := it_f hf hc
        refine ziload_n hC.1 hC.2.1 dX8_count_43 rfl (lv_at hl 1 rfl) <| zbipush hC.1 hC.2.1 dX8_count_44 (by decide) <| zicmp_ne (tgt := 57) hC.1 hC.2.1 ⟨hz_5, (by decide)⟩ dX8_count_46 (by decide) (fun hc => ?_) (fun hc => ?_)
        · have hf := it_f hf hc
          refine ziload_n hC.1 hC.2.1 dX8_count_57 rfl (lv_at hl 1 rfl) <| zbipush hC.1 hC.2.1 dX8_count_58 (by decide) <| zicmp_ne (tgt := 70) hC.1 hC.2.1 ⟨hz_5, (by decide)⟩ dX8_count_60 (by decide) (fun hc => ?_) (fun hc => ?_)
          · have hf := it_f hf hc
            refine lv_aload_n hC.1 hC.2.1 dX8_count_70 rfl (lv_at hl 0 rfl) <| gfX8_7 hC hK hP (q0 := 0) rfl rfl dX8_count_71 <| ziload_n hC.1 hC.2.1 dX8_count_74 rfl (lv_at hl 1 rfl) <| ?_
            obtain ⟨hz_6, hf⟩ := ck_some hf
            refine jal hC hK hP (q0 := 1) rfl (Nat.le_of_ble_eq_true rfl) hz_6 rfl dX8_count_75 <| ?_
            have hf := Option.some.inj hf
            simp only [Prod.mk.injEq] at hf
            exact hret (Int32.ofInt (V_4 0 x1.toNat)) _ _ _ _ (congrArg (fun z => some (vI z)) hf.1.symm) (by rw [← hf.2]; exact hP) hS dX8_count_76
          · have hf := it_t hf hc
            refine lv_aload_n hC.1 hC.2.1 dX8_count_63 rfl (lv_at hl 0 rfl) <| gfX8_68 hC hK hP (q0 := 0) rfl rfl dX8_count_64 <| lv_goto (tgt := 76) hC.1 hC.2.1 dX8_count_67 (by decide) <| ?_
            have hf := Option.some.inj hf
            simp only [Prod.mk.injEq] at hf
            exact hret (Int32.ofInt (V_4 5 0)) _ _ _ _ (congrArg (fun z => some (vI z)) hf.1.symm) (by rw [← hf.2]; exact hP) hS dX8_count_76
        · have hf := it_t hf hc
          refine lv_aload_n hC.1 hC.2.1 dX8_count_49 rfl (lv_at hl 0 rfl) <| ziconst hC.1 hC.2.1 dX8_count_50 <| ?_
          obtain ⟨r_7, hu, hf⟩ := bd_some hf
          refine zcVP (As := [vI 1]) (rest := []) hC hK (met_X8_giftsWith l D kA a n V_4 1 hu) zwX8_268 hP (q0 := 0) rfl rfl rfl rfl hl.1 rfl (Nat.le_of_ble_eq_true rfl) ⟨Nat.le_of_ble_eq_true rfl, Nat.le_of_ble_eq_true rfl⟩ ⟨rfl, rfl⟩ ⟨Nat.le_refl _, Nat.le_refl _⟩ dX8_count_51 <| lv_goto (tgt := 76) hC.1 hC.2.1 dX8_count_54 (by decide) <| ?_
          have hf := Option.some.inj hf
          simp only [Prod.mk.injEq] at hf
          exact hret (Int32.ofInt r_7) _ _ _ _ (congrArg (fun z => some (vI z)) hf.1.symm) (by rw [← hf.2]; exact hP) hS dX8_count_76
      · have hf := it_t hf hc
        refine lv_aload_n hC.1 hC.2.1 dX8_count_35 rfl (lv_at hl 0 rfl) <| ziconst hC.1 hC.2.1 dX8_count_36 <| ?_
        obtain ⟨r_8, hu, hf⟩ := bd_some hf
        refine zcVP (As := [vI 0]) (rest := []) hC hK (met_X8_giftsWith l D kA a n V_4 0 hu) zwX8_268 hP (q0 := 0) rfl rfl rfl rfl hl.1 rfl (Nat.le_of_ble_eq_true rfl) ⟨Nat.le_of_ble_eq_true rfl, Nat.le_of_ble_eq_true rfl⟩ ⟨rfl, rfl⟩ ⟨Nat.le_refl _, Nat.le_refl _⟩ dX8_count_37 <| lv_goto (tgt := 76) hC.1 hC.2.1 dX8_count_40 (by decide) <| ?_
        have hf := Option.some.inj hf
        simp only [Prod.mk.injEq] at hf
        exact hret (Int32.ofInt r_8) _ _ _ _ (congrArg (fun z => some (vI z)) hf.1.symm) (by rw [← hf.2]; exact hP) hS dX8_count_76
    · have hf := it_f hf hc
      refine ziconst hC.1 hC.2.1 dX8_count_28 <| ?_
      have hf := Option.some.inj hf
      simp only [Prod.mk.injEq] at hf
      exact hret (Int32.ofInt 0) _ _ _ _ (congrArg (fun z => some (vI z)) hf.1.symm) (by rw [← hf.2]; exact hP) hS dX8_count_29
  refine lv_aload_n hC.1 hC.2.1 dX8_count_0 rfl (lv_at hl 0 rfl) <| ziconst hC.1 hC.2.1 dX8_count_1 <| ?_
  refine pfX8_65 hC hK hP (hD V0) hS (q0 := 0) rfl (Nat.le_of_ble_eq_true rfl) dX8_count_2 (fun H locs hP hS => ?_)
  obtain ⟨V_1, eV_1⟩ : ∃ y, y = us V0 9 0 := ⟨_, rfl⟩
  have hf := nm_at hf eV_1
  have hP : va_P D vwCl (cs_X8 kA a V_1) H := by rw [eV_1]; exact hP
  refine lv_aload_n hC.1 hC.2.1 dX8_count_5 rfl (lv_at hl 0 rfl) <| ziload_n hC.1 hC.2.1 dX8_count_6 rfl (lv_at hl 1 rfl) <| ziconst hC.1 hC.2.1 dX8_count_7 <| zbipush hC.1 hC.2.1 dX8_count_8 (by decide) <| ?_
  obtain ⟨r_2, hu, hf⟩ := bd_some hf
  have hPc : va_P D vwCl ([] : va_W) _ := hP.sub [] rfl
  refine zcSP (As := [vI x1, vI 0, vI 9]) (rest := [.ref (a 0)]) hC hK (met_X8_inRange l D kA x1 0 9 hu) zwX8_79 hPc rfl hl.1 rfl (Nat.le_of_ble_eq_true rfl) ⟨Nat.le_of_ble_eq_true rfl, Nat.le_of_ble_eq_true rfl⟩ ⟨rfl, rfl⟩ ⟨Nat.le_refl _, Nat.le_refl _⟩ dX8_count_10 <| zifb_ne (tgt := 20) hC.1 hC.2.1 dX8_count_13 (by decide) (fun hc => ?_) (fun hc => ?_)
  · have hf := it_t hf hc
    exact ziconst hC.1 hC.2.1 dX8_count_20 <| J21 _ _ _ _ _ hf hP hS (lv_sub hl [0, 1] rfl)
  · have hf := it_f hf hc
    exact ziconst hC.1 hC.2.1 dX8_count_16 <| lv_goto (tgt := 21) hC.1 hC.2.1 dX8_count_17 (by decide) <| J21 _ _ _ _ _ hf hP hS (lv_sub hl [0, 1] rfl)
theorem DX8_daysOf_0 : ∀ q ∈ ([(0, .iconst 0, 1), (1, .aload_n 0, 1), (2, .getfield 7, 3), (5, .bipush 82, 2), (7, .iload_n 1, 1), (8, .iadd, 1), (9, .iaload, 1), (10, .aload_n 0, 1), (11, .getfield 7, 3), (14, .bipush 51, 2), (16, .iload_n 1, 1), (17, .iadd, 1), (18, .iaload, 1), (19, .isub, 1), (20, .iconst 1, 1), (21, .iadd, 1), (22, .invokestatic 118, 3), (25, .ireturn, 1)] : List (Nat × Instr × Nat)), decode cX8_daysOf q.1 = .ok q.2 := by decide +kernel
theorem dX8_daysOf_0 : decode cX8_daysOf 0 = .ok (.iconst 0, 1) := DX8_daysOf_0 (0, .iconst 0, 1) (List.mem_of_getElem? (i := 0) rfl)
theorem dX8_daysOf_1 : decode cX8_daysOf 1 = .ok (.aload_n 0, 1) := DX8_daysOf_0 (1, .aload_n 0, 1) (List.mem_of_getElem? (i := 1) rfl)
theorem dX8_daysOf_2 : decode cX8_daysOf 2 = .ok (.getfield 7, 3) := DX8_daysOf_0 (2, .getfield 7, 3) (List.mem_of_getElem? (i := 2) rfl)
theorem dX8_daysOf_5 : decode cX8_daysOf 5 = .ok (.bipush 82, 2) := DX8_daysOf_0 (5, .bipush 82, 2) (List.mem_of_getElem? (i := 3) rfl)
theorem dX8_daysOf_7 : decode cX8_daysOf 7 = .ok (.iload_n 1, 1) := DX8_daysOf_0 (7, .iload_n 1, 1) (List.mem_of_getElem? (i := 4) rfl)
theorem dX8_daysOf_8 : decode cX8_daysOf 8 = .ok (.iadd, 1) := DX8_daysOf_0 (8, .iadd, 1) (List.mem_of_getElem? (i := 5) rfl)
theorem dX8_daysOf_9 : decode cX8_daysOf 9 = .ok (.iaload, 1) := DX8_daysOf_0 (9, .iaload, 1) (List.mem_of_getElem? (i := 6) rfl)
theorem dX8_daysOf_10 : decode cX8_daysOf 10 = .ok (.aload_n 0, 1) := DX8_daysOf_0 (10, .aload_n 0, 1) (List.mem_of_getElem? (i := 7) rfl)
theorem dX8_daysOf_11 : decode cX8_daysOf 11 = .ok (.getfield 7, 3) := DX8_daysOf_0 (11, .getfield 7, 3) (List.mem_of_getElem? (i := 8) rfl)
theorem dX8_daysOf_14 : decode cX8_daysOf 14 = .ok (.bipush 51, 2) := DX8_daysOf_0 (14, .bipush 51, 2) (List.mem_of_getElem? (i := 9) rfl)
theorem dX8_daysOf_16 : decode cX8_daysOf 16 = .ok (.iload_n 1, 1) := DX8_daysOf_0 (16, .iload_n 1, 1) (List.mem_of_getElem? (i := 10) rfl)
theorem dX8_daysOf_17 : decode cX8_daysOf 17 = .ok (.iadd, 1) := DX8_daysOf_0 (17, .iadd, 1) (List.mem_of_getElem? (i := 11) rfl)
theorem dX8_daysOf_18 : decode cX8_daysOf 18 = .ok (.iaload, 1) := DX8_daysOf_0 (18, .iaload, 1) (List.mem_of_getElem? (i := 12) rfl)
theorem dX8_daysOf_19 : decode cX8_daysOf 19 = .ok (.isub, 1) := DX8_daysOf_0 (19, .isub, 1) (List.mem_of_getElem? (i := 13) rfl)
theorem dX8_daysOf_20 : decode cX8_daysOf 20 = .ok (.iconst 1, 1) := DX8_daysOf_0 (20, .iconst 1, 1) (List.mem_of_getElem? (i := 14) rfl)
theorem dX8_daysOf_21 : decode cX8_daysOf 21 = .ok (.iadd, 1) := DX8_daysOf_0 (21, .iadd, 1) (List.mem_of_getElem? (i := 15) rfl)
theorem dX8_daysOf_22 : decode cX8_daysOf 22 = .ok (.invokestatic 118, 3) := DX8_daysOf_0 (22, .invokestatic 118, 3) (List.mem_of_getElem? (i := 16) rfl)
theorem dX8_daysOf_25 : decode cX8_daysOf 25 = .ok (.ireturn, 1) := DX8_daysOf_0 (25, .ireturn, 1) (List.mem_of_getElem? (i := 17) rfl)
abbrev rmX8_daysOf : Room := { frames := 1, cells := 0, slots := 0, locals := 60 }
set_option maxHeartbeats 400000 in
set_option maxRecDepth 100000 in
theorem met_X8_daysOf (l : Launch) (D : va_G) (kA : Nat → ClassId) (a : Nat → Nat) (V : Sz) (x1 : Int) {r : Int} (hf : f_X8_daysOf V x1 = some r) : MP l yX8_daysOf cX8_daysOf 2 (some .int) rmX8_daysOf D kA [.ref (a 0), vI x1] (cs_X8 kA a V) (some (vI r)) := by
  refine zPI (own := RX8) rfl rfl (Nat.le_of_ble_eq_true rfl) ?_
  intro p e s m args below meth c ls Q hC hK hP hl hret
  have hl : lv_has ls 2 [(0, .ref (a 0)), (1, vI x1)] := hl
  unfold f_X8_daysOf at hf
  refine ziconst hC.1 hC.2.1 dX8_daysOf_0 <| lv_aload_n hC.1 hC.2.1 dX8_daysOf_1 rfl (lv_at hl 0 rfl) <| gfX8_7 hC hK hP (q0 := 0) rfl rfl dX8_daysOf_2 <| zbipush hC.1 hC.2.1 dX8_daysOf_5 (by decide) <| ziload_n hC.1 hC.2.1 dX8_daysOf_7 rfl (lv_at hl 1 rfl) <| ziadd hC.1 hC.2.1 dX8_daysOf_8 <| ?_
  obtain ⟨hz_1, hf⟩ := ck_some hf
  refine jal hC hK hP (q0 := 1) rfl (Nat.le_of_ble_eq_true rfl) hz_1 rfl dX8_daysOf_9 <| lv_aload_n hC.1 hC.2.1 dX8_daysOf_10 rfl (lv_at hl 0 rfl) <| gfX8_7 hC hK hP (q0 := 0) rfl rfl dX8_daysOf_11 <| zbipush hC.1 hC.2.1 dX8_daysOf_14 (by decide) <| ziload_n hC.1 hC.2.1 dX8_daysOf_16 rfl (lv_at hl 1 rfl) <| ziadd hC.1 hC.2.1 dX8_daysOf_17 <| ?_
  obtain ⟨hz_2, hf⟩ := ck_some hf
  refine jal hC hK hP (q0 := 1) rfl (Nat.le_of_ble_eq_true rfl) hz_2 rfl dX8_daysOf_18 <| zisub hC.1 hC.2.1 dX8_daysOf_19 <| ziconst hC.1 hC.2.1 dX8_daysOf_20 <| ziadd hC.1 hC.2.1 dX8_daysOf_21 <| ?_
  obtain ⟨hz_3, hf⟩ := ck_some hf
  exact jmax ⟨(by decide), hz_3⟩ hC qw_1518 hl.1 (Nat.le_of_ble_eq_true rfl) ⟨Nat.le_of_ble_eq_true rfl, Nat.le_of_ble_eq_true rfl⟩ ⟨Nat.le_refl _, Nat.le_refl _⟩ dX8_daysOf_22 <| hret (Int32.ofInt (max 0 (((V 0 (82 + x1).toNat) - (V 0 (51 + x1).toNat)) + 1))) _ _ (qI hf) dX8_daysOf_25
theorem DX8_declaration_0 : ∀ q ∈ ([(0, .aload_n 0, 1), (1, .iload_n 1, 1), (2, .invokevirtual 272, 3), (5, .ifCond .ne 25, 3), (8, .aload_n 0, 1), (9, .iload_n 2, 1), (10, .iconst 0, 1), (11, .iconst 3, 1), (12, .invokestatic 79, 3), (15, .ifCond .ne 7, 3), (18, .iconst 1, 1), (19, .goto 4, 3), (22, .iconst 0, 1), (23, .iconst 2, 1), (24, .invokevirtual 261, 3), (27, .ifCond .eq 5, 3), (30, .iconst 0, 1), (31, .ireturn, 1), (32, .iload_n 2, 1), (33, .ifCond .ne 15, 3), (36, .aload_n 0, 1), (37, .getfield 7, 3), (40, .bipush 20, 2), (42, .iload_n 1, 1), (43, .iadd, 1), (44, .iaload, 1), (45, .goto 42, 3), (48, .iload_n 2, 1), (49, .iconst 1, 1), (50, .if_icmp .ne 15, 3), (53, .aload_n 0, 1), (54, .getfield 7, 3), (57, .bipush 51, 2), (59, .iload_n 1, 1), (60, .iadd, 1), (61, .iaload, 1), (62, .goto 25, 3), (65, .iload_n 2, 1), (66, .iconst 2, 1), (67, .if_icmp .ne 15, 3)] : List (Nat × Instr × Nat)), decode cX8_declaration q.1 = .ok q.2 := by decide +kernel
theorem dX8_declaration_0 : decode cX8_declaration 0 = .ok (.aload_n 0, 1) := DX8_declaration_0 (0, .aload_n 0, 1) (List.mem_of_getElem? (i := 0) rfl)
theorem dX8_declaration_1 : decode cX8_declaration 1 = .ok (.iload_n 1, 1) := DX8_declaration_0 (1, .iload_n 1, 1) (List.mem_of_getElem? (i := 1) rfl)
theorem dX8_declaration_2 : decode cX8_declaration 2 = .ok (.invokevirtual 272, 3) := DX8_declaration_0 (2, .invokevirtual 272, 3) (List.mem_of_getElem? (i := 2) rfl)
theorem dX8_declaration_5 : decode cX8_declaration 5 = .ok (.ifCond .ne 25, 3) := DX8_declaration_0 (5, .ifCond .ne 25, 3) (List.mem_of_getElem? (i := 3) rfl)
theorem dX8_declaration_8 : decode cX8_declaration 8 = .ok (.aload_n 0, 1) := DX8_declaration_0 (8, .aload_n 0, 1) (List.mem_of_getElem? (i := 4) rfl)
theorem dX8_declaration_9 : decode cX8_declaration 9 = .ok (.iload_n 2, 1) := DX8_declaration_0 (9, .iload_n 2, 1) (List.mem_of_getElem? (i := 5) rfl)
theorem dX8_declaration_10 : decode cX8_declaration 10 = .ok (.iconst 0, 1) := DX8_declaration_0 (10, .iconst 0, 1) (List.mem_of_getElem? (i := 6) rfl)
theorem dX8_declaration_11 : decode cX8_declaration 11 = .ok (.iconst 3, 1) := DX8_declaration_0 (11, .iconst 3, 1) (List.mem_of_getElem? (i := 7) rfl)
theorem dX8_declaration_12 : decode cX8_declaration 12 = .ok (.invokestatic 79, 3) := DX8_declaration_0 (12, .invokestatic 79, 3) (List.mem_of_getElem? (i := 8) rfl)
theorem dX8_declaration_15 : decode cX8_declaration 15 = .ok (.ifCond .ne 7, 3) := DX8_declaration_0 (15, .ifCond .ne 7, 3) (List.mem_of_getElem? (i := 9) rfl)
theorem dX8_declaration_18 : decode cX8_declaration 18 = .ok (.iconst 1, 1) := DX8_declaration_0 (18, .iconst 1, 1) (List.mem_of_getElem? (i := 10) rfl)
theorem dX8_declaration_19 : decode cX8_declaration 19 = .ok (.goto 4, 3) := DX8_declaration_0 (19, .goto 4, 3) (List.mem_of_getElem? (i := 11) rfl)
theorem dX8_declaration_22 : decode cX8_declaration 22 = .ok (.iconst 0, 1) := DX8_declaration_0 (22, .iconst 0, 1) (List.mem_of_getElem? (i := 12) rfl)
theorem dX8_declaration_23 : decode cX8_declaration 23 = .ok (.iconst 2, 1) := DX8_declaration_0 (23, .iconst 2, 1) (List.mem_of_getElem? (i := 13) rfl)
theorem dX8_declaration_24 : decode cX8_declaration 24 = .ok (.invokevirtual 261, 3) := DX8_declaration_0 (24, .invokevirtual 261, 3) (List.mem_of_getElem? (i := 14) rfl)
theorem dX8_declaration_27 : decode cX8_declaration 27 = .ok (.ifCond .eq 5, 3) := DX8_declaration_0 (27, .ifCond .eq 5, 3) (List.mem_of_getElem? (i := 15) rfl)
theorem dX8_declaration_30 : decode cX8_declaration 30 = .ok (.iconst 0, 1) := DX8_declaration_0 (30, .iconst 0, 1) (List.mem_of_getElem? (i := 16) rfl)
theorem dX8_declaration_31 : decode cX8_declaration 31 = .ok (.ireturn, 1) := DX8_declaration_0 (31, .ireturn, 1) (List.mem_of_getElem? (i := 17) rfl)
theorem dX8_declaration_32 : decode cX8_declaration 32 = .ok (.iload_n 2, 1) := DX8_declaration_0 (32, .iload_n 2, 1) (List.mem_of_getElem? (i := 18) rfl)
theorem dX8_declaration_33 : decode cX8_declaration 33 = .ok (.ifCond .ne 15, 3) := DX8_declaration_0 (33, .ifCond .ne 15, 3) (List.mem_of_getElem? (i := 19) rfl)
theorem dX8_declaration_36 : decode cX8_declaration 36 = .ok (.aload_n 0, 1) := DX8_declaration_0 (36, .aload_n 0, 1) (List.mem_of_getElem? (i := 20) rfl)
theorem dX8_declaration_37 : decode cX8_declaration 37 = .ok (.getfield 7, 3) := DX8_declaration_0 (37, .getfield 7, 3) (List.mem_of_getElem? (i := 21) rfl)
theorem dX8_declaration_40 : decode cX8_declaration 40 = .ok (.bipush 20, 2) := DX8_declaration_0 (40, .bipush 20, 2) (List.mem_of_getElem? (i := 22) rfl)
theorem dX8_declaration_42 : decode cX8_declaration 42 = .ok (.iload_n 1, 1) := DX8_declaration_0 (42, .iload_n 1, 1) (List.mem_of_getElem? (i := 23) rfl)
theorem dX8_declaration_43 : decode cX8_declaration 43 = .ok (.iadd, 1) := DX8_declaration_0 (43, .iadd, 1) (List.mem_of_getElem? (i := 24) rfl)
theorem dX8_declaration_44 : decode cX8_declaration 44 = .ok (.iaload, 1) := DX8_declaration_0 (44, .iaload, 1) (List.mem_of_getElem? (i := 25) rfl)
theorem dX8_declaration_45 : decode cX8_declaration 45 = .ok (.goto 42, 3) := DX8_declaration_0 (45, .goto 42, 3) (List.mem_of_getElem? (i := 26) rfl)
theorem dX8_declaration_48 : decode cX8_declaration 48 = .ok (.iload_n 2, 1) := DX8_declaration_0 (48, .iload_n 2, 1) (List.mem_of_getElem? (i := 27) rfl)
theorem dX8_declaration_49 : decode cX8_declaration 49 = .ok (.iconst 1, 1) := DX8_declaration_0 (49, .iconst 1, 1) (List.mem_of_getElem? (i := 28) rfl)
theorem dX8_declaration_50 : decode cX8_declaration 50 = .ok (.if_icmp .ne 15, 3) := DX8_declaration_0 (50, .if_icmp .ne 15, 3) (List.mem_of_getElem? (i := 29) rfl)
theorem dX8_declaration_53 : decode cX8_declaration 53 = .ok (.aload_n 0, 1) := DX8_declaration_0 (53, .aload_n 0, 1) (List.mem_of_getElem? (i := 30) rfl)
theorem dX8_declaration_54 : decode cX8_declaration 54 = .ok (.getfield 7, 3) := DX8_declaration_0 (54, .getfield 7, 3) (List.mem_of_getElem? (i := 31) rfl)
theorem dX8_declaration_57 : decode cX8_declaration 57 = .ok (.bipush 51, 2) := DX8_declaration_0 (57, .bipush 51, 2) (List.mem_of_getElem? (i := 32) rfl)
theorem dX8_declaration_59 : decode cX8_declaration 59 = .ok (.iload_n 1, 1) := DX8_declaration_0 (59, .iload_n 1, 1) (List.mem_of_getElem? (i := 33) rfl)
theorem dX8_declaration_60 : decode cX8_declaration 60 = .ok (.iadd, 1) := DX8_declaration_0 (60, .iadd, 1) (List.mem_of_getElem? (i := 34) rfl)
theorem dX8_declaration_61 : decode cX8_declaration 61 = .ok (.iaload, 1) := DX8_declaration_0 (61, .iaload, 1) (List.mem_of_getElem? (i := 35) rfl)
theorem dX8_declaration_62 : decode cX8_declaration 62 = .ok (.goto 25, 3) := DX8_declaration_0 (62, .goto 25, 3) (List.mem_of_getElem? (i := 36) rfl)
theorem dX8_declaration_65 : decode cX8_declaration 65 = .ok (.iload_n 2, 1) := DX8_declaration_0 (65, .iload_n 2, 1) (List.mem_of_getElem? (i := 37) rfl)
theorem dX8_declaration_66 : decode cX8_declaration 66 = .ok (.iconst 2, 1) := DX8_declaration_0 (66, .iconst 2, 1) (List.mem_of_getElem? (i := 38) rfl)
theorem dX8_declaration_67 : decode cX8_declaration 67 = .ok (.if_icmp .ne 15, 3) := DX8_declaration_0 (67, .if_icmp .ne 15, 3) (List.mem_of_getElem? (i := 39) rfl)
theorem DX8_declaration_1 : ∀ q ∈ ([(70, .aload_n 0, 1), (71, .getfield 7, 3), (74, .bipush 82, 2), (76, .iload_n 1, 1), (77, .iadd, 1), (78, .iaload, 1), (79, .goto 8, 3), (82, .aload_n 0, 1), (83, .iload_n 1, 1), (84, .invokevirtual 275, 3), (87, .ireturn, 1)] : List (Nat × Instr × Nat)), decode cX8_declaration q.1 = .ok q.2 := by decide +kernel
theorem dX8_declaration_70 : decode cX8_declaration 70 = .ok (.aload_n 0, 1) := DX8_declaration_1 (70, .aload_n 0, 1) (List.mem_of_getElem? (i := 0) rfl)
theorem dX8_declaration_71 : decode cX8_declaration 71 = .ok (.getfield 7, 3) := DX8_declaration_1 (71, .getfield 7, 3) (List.mem_of_getElem? (i := 1) rfl)
theorem dX8_declaration_74 : decode cX8_declaration 74 = .ok (.bipush 82, 2) := DX8_declaration_1 (74, .bipush 82, 2) (List.mem_of_getElem? (i := 2) rfl)
theorem dX8_declaration_76 : decode cX8_declaration 76 = .ok (.iload_n 1, 1) := DX8_declaration_1 (76, .iload_n 1, 1) (List.mem_of_getElem? (i := 3) rfl)
theorem dX8_declaration_77 : decode cX8_declaration 77 = .ok (.iadd, 1) := DX8_declaration_1 (77, .iadd, 1) (List.mem_of_getElem? (i := 4) rfl)
theorem dX8_declaration_78 : decode cX8_declaration 78 = .ok (.iaload, 1) := DX8_declaration_1 (78, .iaload, 1) (List.mem_of_getElem? (i := 5) rfl)
theorem dX8_declaration_79 : decode cX8_declaration 79 = .ok (.goto 8, 3) := DX8_declaration_1 (79, .goto 8, 3) (List.mem_of_getElem? (i := 6) rfl)
theorem dX8_declaration_82 : decode cX8_declaration 82 = .ok (.aload_n 0, 1) := DX8_declaration_1 (82, .aload_n 0, 1) (List.mem_of_getElem? (i := 7) rfl)
theorem dX8_declaration_83 : decode cX8_declaration 83 = .ok (.iload_n 1, 1) := DX8_declaration_1 (83, .iload_n 1, 1) (List.mem_of_getElem? (i := 8) rfl)
theorem dX8_declaration_84 : decode cX8_declaration 84 = .ok (.invokevirtual 275, 3) := DX8_declaration_1 (84, .invokevirtual 275, 3) (List.mem_of_getElem? (i := 9) rfl)
theorem dX8_declaration_87 : decode cX8_declaration 87 = .ok (.ireturn, 1) := DX8_declaration_1 (87, .ireturn, 1) (List.mem_of_getElem? (i := 10) rfl)
abbrev rmX8_declaration : Room := { frames := 2, cells := 0, slots := 0, locals := 81 }
set_option maxHeartbeats 400000 in
set_option maxRecDepth 100000 in
theorem met_X8_declaration (l : Launch) (D : va_G) (kA : Nat → ClassId) (a : Nat → Nat) (V0 : Sz) (x1 : Int) (x2 : Int) (hDt : ∀ w : Sz, va_D (fun _ => True) (cs_X8 kA a w)) {r : Int} {Vr : Sz} (hf : f_X8_declaration V0 x1 x2 = some (r, Vr)) : MZ l yX8_declaration cX8_declaration 3 (some .int) rmX8_declaration D kA [.ref (a 0), vI x1, vI x2] (cs_X8 kA a V0) (cs_X8 kA a Vr) (some (vI r)) := by
  refine zZI (own := RX8) rfl rfl (Nat.le_of_ble_eq_true rfl) ?_
  intro p e s m args below meth c ls Q hC hK hP hl hret
  have hl : lv_has ls 3 [(0, .ref (a 0)), (1, vI x1), (2, vI x2)] := hl
  have hS : va_S (zF (cs_X8 kA a V0)) s.heap s.heap [] := va_S.rf
  have hD := zDself (C := fun w : Sz => (cs_X8 kA a w)) hDt V0 (fun _ => rfl)
  try dsimp only at hD
  generalize hAe : zF (cs_X8 kA a V0) = A0 at hS hD hret
  unfold f_X8_declaration at hf
  have J23 : ∀ (V : Sz) (z0 : Int) (H : Heap) (locs : List Loc) (ls : Array Slot), jX8_declaration_23 x1 x2 V z0 = some (r, Vr) → va_P D vwCl (cs_X8 kA a V) H → va_S A0 s.heap H locs → lv_has ls 3 [(0, .ref (a 0)), (1, vI x1), (2, vI x2)] → W p l e rmX8_declaration s m args below meth c H locs 0 0 Q (F0 m 23 ls [vI z0, .ref (a 0)]) := by
    intro V z0 H locs ls hf hP hS hl
    unfold jX8_declaration_23 at hf
    refine ziconst hC.1 hC.2.1 dX8_declaration_23 <| ?_
    obtain ⟨⟨r_4, V_5⟩, hu, hf⟩ := bd_some hf
    have hDc := hDt
    refine zcVZ (As := [vI z0, vI 2]) (rest := []) hC hK (met_X8_fails l D kA a V z0 2 hDc hu) zwX8_261 hS (zFsub (hD V) [0, 1, 2, 3, 4, 5, 6, 7, 8, 9, 10, 11, 12, 13, 14, 15, 16] rfl) hP (q0 := 0) rfl rfl rfl rfl hl.1 rfl (Nat.le_of_ble_eq_true rfl) ⟨Nat.le_of_ble_eq_true rfl, Nat.le_of_ble_eq_true rfl⟩ ⟨rfl, rfl⟩ ⟨Nat.le_refl _, Nat.le_refl _⟩ dX8_declaration_24 (fun H locs hP1 hk1 hS => ?_)
    have hP : va_P D vwCl (cs_X8 kA a V_5) H := hP1
    refine zifb_eq (tgt := 32) hC.1 hC.2.1 dX8_declaration_27 (by decide) (fun hc => ?_) (fun hc => ?_)
    · have hf := it_t hf hc
      refine ziload_n hC.1 hC.2.1 dX8_declaration_32 rfl (lv_at hl 2 rfl) <| ?_
      obtain ⟨hz_6, hf⟩ := ck_some hf
      refine zif_ne (tgt := 48) hC.1 hC.2.1 hz_6 dX8_declaration_33 (by decide) (fun hc => ?_) (fun hc => ?_)
      · have hf := it_f hf hc
        refine ziload_n hC.1 hC.2.1 dX8_declaration_48 rfl (lv_at hl 2 rfl) <| ziconst hC.1 hC.2.1 dX8_declaration_49 <| zicmp_ne (tgt := 65) hC.1 hC.2.1 ⟨hz_6, (by decide)⟩ dX8_declaration_50 (by decide) (fun hc => ?_) (fun hc => ?_)
        · have hf := it_f hf hc
          refine ziload_n hC.1 hC.2.1 dX8_declaration_65 rfl (lv_at hl 2 rfl) <| ziconst hC.1 hC.2.1 dX8_declaration_66 <| zicmp_ne (tgt := 82) hC.1 hC.2.1 ⟨hz_6, (by decide)⟩ dX8_declaration_67 (by decide) (fun hc => ?_) (fun hc => ?_)
          · have hf := it_f hf hc
            refine lv_aload_n hC.1 hC.2.1 dX8_declaration_82 rfl (lv_at hl 0 rfl) <| ziload_n hC.1 hC.2.1 dX8_declaration_83 rfl (lv_at hl 1 rfl) <| ?_
            obtain ⟨r_7, hu, hf⟩ := bd_some hf
            refine zcVP (As := [vI x1]) (rest := []) hC hK (met_X8_daysOf l D kA a V_5 x1 hu) zwX8_275 hP (q0 := 0) rfl rfl rfl rfl hl.1 rfl (Nat.le_of_ble_eq_true rfl) ⟨Nat.le_of_ble_eq_true rfl, Nat.le_of_ble_eq_true rfl⟩ ⟨rfl, rfl⟩ ⟨Nat.le_refl _, Nat.le_refl _⟩ dX8_declaration_84 <| ?_
            have hf := Option.some.inj hf
            simp only [Prod.mk.injEq] at hf
            exact hret (Int32.ofInt r_7) _ _ _ _ (congrArg (fun z => some (vI z)) hf.1.symm) (by rw [← hf.2]; exact hP) hS dX8_declaration_87
          · have hf := it_t hf hc
            refine lv_aload_n hC.1 hC.2.1 dX8_declaration_70 rfl (lv_at hl 0 rfl) <| gfX8_7 hC hK hP (q0 := 0) rfl rfl dX8_declaration_71 <| zbipush hC.1 hC.2.1 dX8_declaration_74 (by decide) <| ziload_n hC.1 hC.2.1 dX8_declaration_76 rfl (lv_at hl 1 rfl) <| ziadd hC.1 hC.2.1 dX8_declaration_77 <| ?_
            obtain ⟨hz_8, hf⟩ := ck_some hf
            refine jal hC hK hP (q0 := 1) rfl (Nat.le_of_ble_eq_true rfl) hz_8 rfl dX8_declaration_78 <| lv_goto (tgt := 87) hC.1 hC.2.1 dX8_declaration_79 (by decide) <| ?_
            have hf := Option.some.inj hf
            simp only [Prod.mk.injEq] at hf
            exact hret (Int32.ofInt (V_5 0 (82 + x1).toNat)) _ _ _ _ (congrArg (fun z => some (vI z)) hf.1.symm) (by rw [← hf.2]; exact hP) hS dX8_declaration_87
        · have hf := it_t hf hc
          refine lv_aload_n hC.1 hC.2.1 dX8_declaration_53 rfl (lv_at hl 0 rfl) <| gfX8_7 hC hK hP (q0 := 0) rfl rfl dX8_declaration_54 <| zbipush hC.1 hC.2.1 dX8_declaration_57 (by decide) <| ziload_n hC.1 hC.2.1 dX8_declaration_59 rfl (lv_at hl 1 rfl) <| ziadd hC.1 hC.2.1 dX8_declaration_60 <| ?_
          obtain ⟨hz_9, hf⟩ := ck_some hf
          refine jal hC hK hP (q0 := 1) rfl (Nat.le_of_ble_eq_true rfl) hz_9 rfl dX8_declaration_61 <| lv_goto (tgt := 87) hC.1 hC.2.1 dX8_declaration_62 (by decide) <| ?_
          have hf := Option.some.inj hf
          simp only [Prod.mk.injEq] at hf
          exact hret (Int32.ofInt (V_5 0 (51 + x1).toNat)) _ _ _ _ (congrArg (fun z => some (vI z)) hf.1.symm) (by rw [← hf.2]; exact hP) hS dX8_declaration_87
      · have hf := it_t hf hc
        refine lv_aload_n hC.1 hC.2.1 dX8_declaration_36 rfl (lv_at hl 0 rfl) <| gfX8_7 hC hK hP (q0 := 0) rfl rfl dX8_declaration_37 <| zbipush hC.1 hC.2.1 dX8_declaration_40 (by decide) <| ziload_n hC.1 hC.2.1 dX8_declaration_42 rfl (lv_at hl 1 rfl) <| ziadd hC.1 hC.2.1 dX8_declaration_43 <| ?_
        obtain ⟨hz_10, hf⟩ := ck_some hf
        refine jal hC hK hP (q0 := 1) rfl (Nat.le_of_ble_eq_true rfl) hz_10 rfl dX8_declaration_44 <| lv_goto (tgt := 87) hC.1 hC.2.1 dX8_declaration_45 (by decide) <| ?_
        have hf := Option.some.inj hf
        simp only [Prod.mk.injEq] at hf
        exact hret (Int32.ofInt (V_5 0 (20 + x1).toNat)) _ _ _ _ (congrArg (fun z => some (vI z)) hf.1.symm) (by rw [← hf.2]; exact hP) hS dX8_declaration_87
    · have hf := it_f hf hc
      refine ziconst hC.1 hC.2.1 dX8_declaration_30 <| ?_
      have hf := Option.some.inj hf
      simp only [Prod.mk.injEq] at hf
      exact hret (Int32.ofInt 0) _ _ _ _ (congrArg (fun z => some (vI z)) hf.1.symm) (by rw [← hf.2]; exact hP) hS dX8_declaration_31
  refine lv_aload_n hC.1 hC.2.1 dX8_declaration_0 rfl (lv_at hl 0 rfl) <| ziload_n hC.1 hC.2.1 dX8_declaration_1 rfl (lv_at hl 1 rfl) <| ?_
  obtain ⟨⟨r_1, V_2⟩, hu, hf⟩ := bd_some hf
  have hDc := hDt
  refine zcVZ (As := [vI x1]) (rest := []) hC hK (met_X8_noDeclaration l D kA a V0 x1 hDc hu) zwX8_272 hS (zFsub (hD V0) [0, 1, 2, 3, 4, 5, 6, 7, 8, 9, 10, 11, 12, 13, 14, 15, 16] rfl) hP (q0 := 0) rfl rfl rfl rfl hl.1 rfl (Nat.le_of_ble_eq_true rfl) ⟨Nat.le_of_ble_eq_true rfl, Nat.le_of_ble_eq_true rfl⟩ ⟨rfl, rfl⟩ ⟨Nat.le_refl _, Nat.le_refl _⟩ dX8_declaration_2 (fun H locs hP1 hk1 hS => ?_)
  have hP : va_P D vwCl (cs_X8 kA a V_2) H := hP1
  refine zifb_ne (tgt := 30) hC.1 hC.2.1 dX8_declaration_5 (by decide) (fun hc => ?_) (fun hc => ?_)
  · have hf := it_t hf hc
    refine ziconst hC.1 hC.2.1 dX8_declaration_30 <| ?_
    have hf := Option.some.inj hf
    simp only [Prod.mk.injEq] at hf
    exact hret (Int32.ofInt 0) _ _ _ _ (congrArg (fun z => some (vI z)) hf.1.symm) (by rw [← hf.2]; exact hP) hS dX8_declaration_31
  · have hf := it_f hf hc
    refine lv_aload_n hC.1 hC.2.1 dX8_declaration_8 rfl (lv_at hl 0 rfl) <| ziload_n hC.1 hC.2.1 dX8_declaration_9 rfl (lv_at hl 2 rfl) <| ziconst hC.1 hC.2.1 dX8_declaration_10 <| ziconst hC.1 hC.2.1 dX8_declaration_11 <| ?_
    obtain ⟨r_3, hu, hf⟩ := bd_some hf
    have hPc : va_P D vwCl ([] : va_W) _ := hP.sub [] rfl
    refine zcSP (As := [vI x2, vI 0, vI 3]) (rest := [.ref (a 0)]) hC hK (met_X8_inRange l D kA x2 0 3 hu) zwX8_79 hPc rfl hl.1 rfl (Nat.le_of_ble_eq_true rfl) ⟨Nat.le_of_ble_eq_true rfl, Nat.le_of_ble_eq_true rfl⟩ ⟨rfl, rfl⟩ ⟨Nat.le_refl _, Nat.le_refl _⟩ dX8_declaration_12 <| zifb_ne (tgt := 22) hC.1 hC.2.1 dX8_declaration_15 (by decide) (fun hc => ?_) (fun hc => ?_)
    · have hf := it_t hf hc
      exact ziconst hC.1 hC.2.1 dX8_declaration_22 <| J23 _ _ _ _ _ hf hP hS (lv_sub hl [0, 1, 2] rfl)
    · have hf := it_f hf hc
      exact ziconst hC.1 hC.2.1 dX8_declaration_18 <| lv_goto (tgt := 23) hC.1 hC.2.1 dX8_declaration_19 (by decide) <| J23 _ _ _ _ _ hf hP hS (lv_sub hl [0, 1, 2] rfl)
theorem DX8_gift_0 : ∀ q ∈ ([(0, .aload_n 0, 1), (1, .iload_n 1, 1), (2, .invokevirtual 265, 3), (5, .ifCond .ne 26, 3), (8, .aload_n 0, 1), (9, .iload_n 2, 1), (10, .iconst 0, 1), (11, .bipush 7, 2), (13, .invokestatic 79, 3), (16, .ifCond .ne 7, 3), (19, .iconst 1, 1), (20, .goto 4, 3), (23, .iconst 0, 1), (24, .iconst 2, 1), (25, .invokevirtual 261, 3), (28, .ifCond .eq 5, 3), (31, .iconst 0, 1), (32, .ireturn, 1), (33, .aload_n 0, 1), (34, .invokevirtual 121, 3), (37, .iconst 0, 1), (38, .istore_n 3, 1), (39, .iconst 0, 1), (40, .istore 4, 2), (42, .iload 4, 2), (44, .aload_n 0, 1), (45, .getfield 7, 3), (48, .sipush 293, 3), (51, .iload_n 1, 1), (52, .iadd, 1), (53, .iaload, 1), (54, .if_icmp .ge 47, 3), (57, .iload_n 3, 1), (58, .iload_n 2, 1), (59, .bipush 6, 2), (61, .if_icmp .ne 17, 3), (64, .aload_n 0, 1), (65, .getfield 37, 3), (68, .iload_n 1, 1), (69, .iload 4, 2)] : List (Nat × Instr × Nat)), decode cX8_gift q.1 = .ok q.2 := by decide +kernel
theorem dX8_gift_0 : decode cX8_gift 0 = .ok (.aload_n 0, 1) := DX8_gift_0 (0, .aload_n 0, 1) (List.mem_of_getElem? (i := 0) rfl)
theorem dX8_gift_1 : decode cX8_gift 1 = .ok (.iload_n 1, 1) := DX8_gift_0 (1, .iload_n 1, 1) (List.mem_of_getElem? (i := 1) rfl)
theorem dX8_gift_2 : decode cX8_gift 2 = .ok (.invokevirtual 265, 3) := DX8_gift_0 (2, .invokevirtual 265, 3) (List.mem_of_getElem? (i := 2) rfl)
theorem dX8_gift_5 : decode cX8_gift 5 = .ok (.ifCond .ne 26, 3) := DX8_gift_0 (5, .ifCond .ne 26, 3) (List.mem_of_getElem? (i := 3) rfl)
theorem dX8_gift_8 : decode cX8_gift 8 = .ok (.aload_n 0, 1) := DX8_gift_0 (8, .aload_n 0, 1) (List.mem_of_getElem? (i := 4) rfl)
theorem dX8_gift_9 : decode cX8_gift 9 = .ok (.iload_n 2, 1) := DX8_gift_0 (9, .iload_n 2, 1) (List.mem_of_getElem? (i := 5) rfl)
theorem dX8_gift_10 : decode cX8_gift 10 = .ok (.iconst 0, 1) := DX8_gift_0 (10, .iconst 0, 1) (List.mem_of_getElem? (i := 6) rfl)
theorem dX8_gift_11 : decode cX8_gift 11 = .ok (.bipush 7, 2) := DX8_gift_0 (11, .bipush 7, 2) (List.mem_of_getElem? (i := 7) rfl)
theorem dX8_gift_13 : decode cX8_gift 13 = .ok (.invokestatic 79, 3) := DX8_gift_0 (13, .invokestatic 79, 3) (List.mem_of_getElem? (i := 8) rfl)
theorem dX8_gift_16 : decode cX8_gift 16 = .ok (.ifCond .ne 7, 3) := DX8_gift_0 (16, .ifCond .ne 7, 3) (List.mem_of_getElem? (i := 9) rfl)
theorem dX8_gift_19 : decode cX8_gift 19 = .ok (.iconst 1, 1) := DX8_gift_0 (19, .iconst 1, 1) (List.mem_of_getElem? (i := 10) rfl)
theorem dX8_gift_20 : decode cX8_gift 20 = .ok (.goto 4, 3) := DX8_gift_0 (20, .goto 4, 3) (List.mem_of_getElem? (i := 11) rfl)
theorem dX8_gift_23 : decode cX8_gift 23 = .ok (.iconst 0, 1) := DX8_gift_0 (23, .iconst 0, 1) (List.mem_of_getElem? (i := 12) rfl)
theorem dX8_gift_24 : decode cX8_gift 24 = .ok (.iconst 2, 1) := DX8_gift_0 (24, .iconst 2, 1) (List.mem_of_getElem? (i := 13) rfl)
theorem dX8_gift_25 : decode cX8_gift 25 = .ok (.invokevirtual 261, 3) := DX8_gift_0 (25, .invokevirtual 261, 3) (List.mem_of_getElem? (i := 14) rfl)
theorem dX8_gift_28 : decode cX8_gift 28 = .ok (.ifCond .eq 5, 3) := DX8_gift_0 (28, .ifCond .eq 5, 3) (List.mem_of_getElem? (i := 15) rfl)
theorem dX8_gift_31 : decode cX8_gift 31 = .ok (.iconst 0, 1) := DX8_gift_0 (31, .iconst 0, 1) (List.mem_of_getElem? (i := 16) rfl)
theorem dX8_gift_32 : decode cX8_gift 32 = .ok (.ireturn, 1) := DX8_gift_0 (32, .ireturn, 1) (List.mem_of_getElem? (i := 17) rfl)
theorem dX8_gift_33 : decode cX8_gift 33 = .ok (.aload_n 0, 1) := DX8_gift_0 (33, .aload_n 0, 1) (List.mem_of_getElem? (i := 18) rfl)
theorem dX8_gift_34 : decode cX8_gift 34 = .ok (.invokevirtual 121, 3) := DX8_gift_0 (34, .invokevirtual 121, 3) (List.mem_of_getElem? (i := 19) rfl)
theorem dX8_gift_37 : decode cX8_gift 37 = .ok (.iconst 0, 1) := DX8_gift_0 (37, .iconst 0, 1) (List.mem_of_getElem? (i := 20) rfl)
theorem dX8_gift_38 : decode cX8_gift 38 = .ok (.istore_n 3, 1) := DX8_gift_0 (38, .istore_n 3, 1) (List.mem_of_getElem? (i := 21) rfl)
theorem dX8_gift_39 : decode cX8_gift 39 = .ok (.iconst 0, 1) := DX8_gift_0 (39, .iconst 0, 1) (List.mem_of_getElem? (i := 22) rfl)
theorem dX8_gift_40 : decode cX8_gift 40 = .ok (.istore 4, 2) := DX8_gift_0 (40, .istore 4, 2) (List.mem_of_getElem? (i := 23) rfl)
theorem dX8_gift_42 : decode cX8_gift 42 = .ok (.iload 4, 2) := DX8_gift_0 (42, .iload 4, 2) (List.mem_of_getElem? (i := 24) rfl)
theorem dX8_gift_44 : decode cX8_gift 44 = .ok (.aload_n 0, 1) := DX8_gift_0 (44, .aload_n 0, 1) (List.mem_of_getElem? (i := 25) rfl)
theorem dX8_gift_45 : decode cX8_gift 45 = .ok (.getfield 7, 3) := DX8_gift_0 (45, .getfield 7, 3) (List.mem_of_getElem? (i := 26) rfl)
theorem dX8_gift_48 : decode cX8_gift 48 = .ok (.sipush 293, 3) := DX8_gift_0 (48, .sipush 293, 3) (List.mem_of_getElem? (i := 27) rfl)
theorem dX8_gift_51 : decode cX8_gift 51 = .ok (.iload_n 1, 1) := DX8_gift_0 (51, .iload_n 1, 1) (List.mem_of_getElem? (i := 28) rfl)
theorem dX8_gift_52 : decode cX8_gift 52 = .ok (.iadd, 1) := DX8_gift_0 (52, .iadd, 1) (List.mem_of_getElem? (i := 29) rfl)
theorem dX8_gift_53 : decode cX8_gift 53 = .ok (.iaload, 1) := DX8_gift_0 (53, .iaload, 1) (List.mem_of_getElem? (i := 30) rfl)
theorem dX8_gift_54 : decode cX8_gift 54 = .ok (.if_icmp .ge 47, 3) := DX8_gift_0 (54, .if_icmp .ge 47, 3) (List.mem_of_getElem? (i := 31) rfl)
theorem dX8_gift_57 : decode cX8_gift 57 = .ok (.iload_n 3, 1) := DX8_gift_0 (57, .iload_n 3, 1) (List.mem_of_getElem? (i := 32) rfl)
theorem dX8_gift_58 : decode cX8_gift 58 = .ok (.iload_n 2, 1) := DX8_gift_0 (58, .iload_n 2, 1) (List.mem_of_getElem? (i := 33) rfl)
theorem dX8_gift_59 : decode cX8_gift 59 = .ok (.bipush 6, 2) := DX8_gift_0 (59, .bipush 6, 2) (List.mem_of_getElem? (i := 34) rfl)
theorem dX8_gift_61 : decode cX8_gift 61 = .ok (.if_icmp .ne 17, 3) := DX8_gift_0 (61, .if_icmp .ne 17, 3) (List.mem_of_getElem? (i := 35) rfl)
theorem dX8_gift_64 : decode cX8_gift 64 = .ok (.aload_n 0, 1) := DX8_gift_0 (64, .aload_n 0, 1) (List.mem_of_getElem? (i := 36) rfl)
theorem dX8_gift_65 : decode cX8_gift 65 = .ok (.getfield 37, 3) := DX8_gift_0 (65, .getfield 37, 3) (List.mem_of_getElem? (i := 37) rfl)
theorem dX8_gift_68 : decode cX8_gift 68 = .ok (.iload_n 1, 1) := DX8_gift_0 (68, .iload_n 1, 1) (List.mem_of_getElem? (i := 38) rfl)
theorem dX8_gift_69 : decode cX8_gift 69 = .ok (.iload 4, 2) := DX8_gift_0 (69, .iload 4, 2) (List.mem_of_getElem? (i := 39) rfl)
theorem DX8_gift_1 : ∀ q ∈ ([(71, .invokestatic 103, 3), (74, .iaload, 1), (75, .goto 18, 3), (78, .aload_n 0, 1), (79, .getfield 7, 3), (82, .sipush 953, 3), (85, .iload_n 1, 1), (86, .iload 4, 2), (88, .invokestatic 103, 3), (91, .iadd, 1), (92, .iaload, 1), (93, .iadd, 1), (94, .istore_n 3, 1), (95, .iinc 4 1, 3), (98, .goto (-56), 3), (101, .iload_n 2, 1), (102, .tableswitch 101 0 5 #[38, 48, 59, 70, 81, 87], 38), (140, .aload_n 0, 1), (141, .getfield 7, 3), (144, .bipush 113, 2), (146, .iload_n 1, 1), (147, .iadd, 1), (148, .iaload, 1), (149, .ireturn, 1), (150, .aload_n 0, 1), (151, .getfield 7, 3), (154, .sipush 173, 3), (157, .iload_n 1, 1), (158, .iadd, 1), (159, .iaload, 1), (160, .ireturn, 1), (161, .aload_n 0, 1), (162, .getfield 7, 3), (165, .sipush 233, 3), (168, .iload_n 1, 1), (169, .iadd, 1), (170, .iaload, 1), (171, .ireturn, 1), (172, .aload_n 0, 1), (173, .getfield 7, 3)] : List (Nat × Instr × Nat)), decode cX8_gift q.1 = .ok q.2 := by decide +kernel
theorem dX8_gift_71 : decode cX8_gift 71 = .ok (.invokestatic 103, 3) := DX8_gift_1 (71, .invokestatic 103, 3) (List.mem_of_getElem? (i := 0) rfl)
theorem dX8_gift_74 : decode cX8_gift 74 = .ok (.iaload, 1) := DX8_gift_1 (74, .iaload, 1) (List.mem_of_getElem? (i := 1) rfl)
theorem dX8_gift_75 : decode cX8_gift 75 = .ok (.goto 18, 3) := DX8_gift_1 (75, .goto 18, 3) (List.mem_of_getElem? (i := 2) rfl)
theorem dX8_gift_78 : decode cX8_gift 78 = .ok (.aload_n 0, 1) := DX8_gift_1 (78, .aload_n 0, 1) (List.mem_of_getElem? (i := 3) rfl)
theorem dX8_gift_79 : decode cX8_gift 79 = .ok (.getfield 7, 3) := DX8_gift_1 (79, .getfield 7, 3) (List.mem_of_getElem? (i := 4) rfl)
theorem dX8_gift_82 : decode cX8_gift 82 = .ok (.sipush 953, 3) := DX8_gift_1 (82, .sipush 953, 3) (List.mem_of_getElem? (i := 5) rfl)
theorem dX8_gift_85 : decode cX8_gift 85 = .ok (.iload_n 1, 1) := DX8_gift_1 (85, .iload_n 1, 1) (List.mem_of_getElem? (i := 6) rfl)
theorem dX8_gift_86 : decode cX8_gift 86 = .ok (.iload 4, 2) := DX8_gift_1 (86, .iload 4, 2) (List.mem_of_getElem? (i := 7) rfl)
theorem dX8_gift_88 : decode cX8_gift 88 = .ok (.invokestatic 103, 3) := DX8_gift_1 (88, .invokestatic 103, 3) (List.mem_of_getElem? (i := 8) rfl)
theorem dX8_gift_91 : decode cX8_gift 91 = .ok (.iadd, 1) := DX8_gift_1 (91, .iadd, 1) (List.mem_of_getElem? (i := 9) rfl)
theorem dX8_gift_92 : decode cX8_gift 92 = .ok (.iaload, 1) := DX8_gift_1 (92, .iaload, 1) (List.mem_of_getElem? (i := 10) rfl)
theorem dX8_gift_93 : decode cX8_gift 93 = .ok (.iadd, 1) := DX8_gift_1 (93, .iadd, 1) (List.mem_of_getElem? (i := 11) rfl)
theorem dX8_gift_94 : decode cX8_gift 94 = .ok (.istore_n 3, 1) := DX8_gift_1 (94, .istore_n 3, 1) (List.mem_of_getElem? (i := 12) rfl)
theorem dX8_gift_95 : decode cX8_gift 95 = .ok (.iinc 4 1, 3) := DX8_gift_1 (95, .iinc 4 1, 3) (List.mem_of_getElem? (i := 13) rfl)
theorem dX8_gift_98 : decode cX8_gift 98 = .ok (.goto (-56), 3) := DX8_gift_1 (98, .goto (-56), 3) (List.mem_of_getElem? (i := 14) rfl)
theorem dX8_gift_101 : decode cX8_gift 101 = .ok (.iload_n 2, 1) := DX8_gift_1 (101, .iload_n 2, 1) (List.mem_of_getElem? (i := 15) rfl)
theorem dX8_gift_102 : decode cX8_gift 102 = .ok (.tableswitch 101 0 5 #[38, 48, 59, 70, 81, 87], 38) := DX8_gift_1 (102, .tableswitch 101 0 5 #[38, 48, 59, 70, 81, 87], 38) (List.mem_of_getElem? (i := 16) rfl)
theorem dX8_gift_140 : decode cX8_gift 140 = .ok (.aload_n 0, 1) := DX8_gift_1 (140, .aload_n 0, 1) (List.mem_of_getElem? (i := 17) rfl)
theorem dX8_gift_141 : decode cX8_gift 141 = .ok (.getfield 7, 3) := DX8_gift_1 (141, .getfield 7, 3) (List.mem_of_getElem? (i := 18) rfl)
theorem dX8_gift_144 : decode cX8_gift 144 = .ok (.bipush 113, 2) := DX8_gift_1 (144, .bipush 113, 2) (List.mem_of_getElem? (i := 19) rfl)
theorem dX8_gift_146 : decode cX8_gift 146 = .ok (.iload_n 1, 1) := DX8_gift_1 (146, .iload_n 1, 1) (List.mem_of_getElem? (i := 20) rfl)
theorem dX8_gift_147 : decode cX8_gift 147 = .ok (.iadd, 1) := DX8_gift_1 (147, .iadd, 1) (List.mem_of_getElem? (i := 21) rfl)
theorem dX8_gift_148 : decode cX8_gift 148 = .ok (.iaload, 1) := DX8_gift_1 (148, .iaload, 1) (List.mem_of_getElem? (i := 22) rfl)
theorem dX8_gift_149 : decode cX8_gift 149 = .ok (.ireturn, 1) := DX8_gift_1 (149, .ireturn, 1) (List.mem_of_getElem? (i := 23) rfl)
theorem dX8_gift_150 : decode cX8_gift 150 = .ok (.aload_n 0, 1) := DX8_gift_1 (150, .aload_n 0, 1) (List.mem_of_getElem? (i := 24) rfl)
theorem dX8_gift_151 : decode cX8_gift 151 = .ok (.getfield 7, 3) := DX8_gift_1 (151, .getfield 7, 3) (List.mem_of_getElem? (i := 25) rfl)
theorem dX8_gift_154 : decode cX8_gift 154 = .ok (.sipush 173, 3) := DX8_gift_1 (154, .sipush 173, 3) (List.mem_of_getElem? (i := 26) rfl)
theorem dX8_gift_157 : decode cX8_gift 157 = .ok (.iload_n 1, 1) := DX8_gift_1 (157, .iload_n 1, 1) (List.mem_of_getElem? (i := 27) rfl)
theorem dX8_gift_158 : decode cX8_gift 158 = .ok (.iadd, 1) := DX8_gift_1 (158, .iadd, 1) (List.mem_of_getElem? (i := 28) rfl)
theorem dX8_gift_159 : decode cX8_gift 159 = .ok (.iaload, 1) := DX8_gift_1 (159, .iaload, 1) (List.mem_of_getElem? (i := 29) rfl)
theorem dX8_gift_160 : decode cX8_gift 160 = .ok (.ireturn, 1) := DX8_gift_1 (160, .ireturn, 1) (List.mem_of_getElem? (i := 30) rfl)
theorem dX8_gift_161 : decode cX8_gift 161 = .ok (.aload_n 0, 1) := DX8_gift_1 (161, .aload_n 0, 1) (List.mem_of_getElem? (i := 31) rfl)
theorem dX8_gift_162 : decode cX8_gift 162 = .ok (.getfield 7, 3) := DX8_gift_1 (162, .getfield 7, 3) (List.mem_of_getElem? (i := 32) rfl)
theorem dX8_gift_165 : decode cX8_gift 165 = .ok (.sipush 233, 3) := DX8_gift_1 (165, .sipush 233, 3) (List.mem_of_getElem? (i := 33) rfl)
theorem dX8_gift_168 : decode cX8_gift 168 = .ok (.iload_n 1, 1) := DX8_gift_1 (168, .iload_n 1, 1) (List.mem_of_getElem? (i := 34) rfl)
theorem dX8_gift_169 : decode cX8_gift 169 = .ok (.iadd, 1) := DX8_gift_1 (169, .iadd, 1) (List.mem_of_getElem? (i := 35) rfl)
theorem dX8_gift_170 : decode cX8_gift 170 = .ok (.iaload, 1) := DX8_gift_1 (170, .iaload, 1) (List.mem_of_getElem? (i := 36) rfl)
theorem dX8_gift_171 : decode cX8_gift 171 = .ok (.ireturn, 1) := DX8_gift_1 (171, .ireturn, 1) (List.mem_of_getElem? (i := 37) rfl)
theorem dX8_gift_172 : decode cX8_gift 172 = .ok (.aload_n 0, 1) := DX8_gift_1 (172, .aload_n 0, 1) (List.mem_of_getElem? (i := 38) rfl)
theorem dX8_gift_173 : decode cX8_gift 173 = .ok (.getfield 7, 3) := DX8_gift_1 (173, .getfield 7, 3) (List.mem_of_getElem? (i := 39) rfl)
theorem DX8_gift_2 : ∀ q ∈ ([(176, .sipush 293, 3), (179, .iload_n 1, 1), (180, .iadd, 1), (181, .iaload, 1), (182, .ireturn, 1), (183, .aload_n 0, 1), (184, .iload_n 1, 1), (185, .invokevirtual 278, 3), (188, .ireturn, 1), (189, .aload_n 0, 1), (190, .iload_n 1, 1), (191, .invokevirtual 89, 3), (194, .ifCond .eq 7, 3), (197, .iconst 1, 1), (198, .goto 4, 3), (201, .iconst 0, 1), (202, .ireturn, 1), (203, .iload_n 3, 1), (204, .ireturn, 1)] : List (Nat × Instr × Nat)), decode cX8_gift q.1 = .ok q.2 := by decide +kernel
theorem dX8_gift_176 : decode cX8_gift 176 = .ok (.sipush 293, 3) := DX8_gift_2 (176, .sipush 293, 3) (List.mem_of_getElem? (i := 0) rfl)
theorem dX8_gift_179 : decode cX8_gift 179 = .ok (.iload_n 1, 1) := DX8_gift_2 (179, .iload_n 1, 1) (List.mem_of_getElem? (i := 1) rfl)
theorem dX8_gift_180 : decode cX8_gift 180 = .ok (.iadd, 1) := DX8_gift_2 (180, .iadd, 1) (List.mem_of_getElem? (i := 2) rfl)
theorem dX8_gift_181 : decode cX8_gift 181 = .ok (.iaload, 1) := DX8_gift_2 (181, .iaload, 1) (List.mem_of_getElem? (i := 3) rfl)
theorem dX8_gift_182 : decode cX8_gift 182 = .ok (.ireturn, 1) := DX8_gift_2 (182, .ireturn, 1) (List.mem_of_getElem? (i := 4) rfl)
theorem dX8_gift_183 : decode cX8_gift 183 = .ok (.aload_n 0, 1) := DX8_gift_2 (183, .aload_n 0, 1) (List.mem_of_getElem? (i := 5) rfl)
theorem dX8_gift_184 : decode cX8_gift 184 = .ok (.iload_n 1, 1) := DX8_gift_2 (184, .iload_n 1, 1) (List.mem_of_getElem? (i := 6) rfl)
theorem dX8_gift_185 : decode cX8_gift 185 = .ok (.invokevirtual 278, 3) := DX8_gift_2 (185, .invokevirtual 278, 3) (List.mem_of_getElem? (i := 7) rfl)
theorem dX8_gift_188 : decode cX8_gift 188 = .ok (.ireturn, 1) := DX8_gift_2 (188, .ireturn, 1) (List.mem_of_getElem? (i := 8) rfl)
theorem dX8_gift_189 : decode cX8_gift 189 = .ok (.aload_n 0, 1) := DX8_gift_2 (189, .aload_n 0, 1) (List.mem_of_getElem? (i := 9) rfl)
theorem dX8_gift_190 : decode cX8_gift 190 = .ok (.iload_n 1, 1) := DX8_gift_2 (190, .iload_n 1, 1) (List.mem_of_getElem? (i := 10) rfl)
theorem dX8_gift_191 : decode cX8_gift 191 = .ok (.invokevirtual 89, 3) := DX8_gift_2 (191, .invokevirtual 89, 3) (List.mem_of_getElem? (i := 11) rfl)
theorem dX8_gift_194 : decode cX8_gift 194 = .ok (.ifCond .eq 7, 3) := DX8_gift_2 (194, .ifCond .eq 7, 3) (List.mem_of_getElem? (i := 12) rfl)
theorem dX8_gift_197 : decode cX8_gift 197 = .ok (.iconst 1, 1) := DX8_gift_2 (197, .iconst 1, 1) (List.mem_of_getElem? (i := 13) rfl)
theorem dX8_gift_198 : decode cX8_gift 198 = .ok (.goto 4, 3) := DX8_gift_2 (198, .goto 4, 3) (List.mem_of_getElem? (i := 14) rfl)
theorem dX8_gift_201 : decode cX8_gift 201 = .ok (.iconst 0, 1) := DX8_gift_2 (201, .iconst 0, 1) (List.mem_of_getElem? (i := 15) rfl)
theorem dX8_gift_202 : decode cX8_gift 202 = .ok (.ireturn, 1) := DX8_gift_2 (202, .ireturn, 1) (List.mem_of_getElem? (i := 16) rfl)
theorem dX8_gift_203 : decode cX8_gift 203 = .ok (.iload_n 3, 1) := DX8_gift_2 (203, .iload_n 3, 1) (List.mem_of_getElem? (i := 17) rfl)
theorem dX8_gift_204 : decode cX8_gift 204 = .ok (.ireturn, 1) := DX8_gift_2 (204, .ireturn, 1) (List.mem_of_getElem? (i := 18) rfl)
abbrev rmX8_gift : Room := { frames := 4, cells := 0, slots := 0, locals := 90 }
set_option maxHeartbeats 400000 in
set_option maxRecDepth 100000 in
theorem met_X8_gift (l : Launch) (D : va_G) (kA : Nat → ClassId) (a : Nat → Nat) (n : Nat) (V0 : Sz) (x1 : Int) (x2 : Int) (hDt : ∀ w : Sz, va_D (fun _ => True) (cs_X8 kA a w)) {r : Int} {Vr : Sz} (hf : f_X8_gift n V0 x1 x2 = some (r, Vr)) : MZ l yX8_gift cX8_gift 5 (some .int) rmX8_gift D kA [.ref (a 0), vI x1, vI x2] (cs_X8 kA a V0) (cs_X8 kA a Vr) (some (vI r)) := by
  refine zZI (own := RX8) rfl rfl (Nat.le_of_ble_eq_true rfl) ?_
  intro p e s m args below meth c ls Q hC hK hP hl hret
  have hl : lv_has ls 5 [(0, .ref (a 0)), (1, vI x1), (2, vI x2)] := hl
  have hS : va_S (zF (cs_X8 kA a V0)) s.heap s.heap [] := va_S.rf
  have hD := zDself (C := fun w : Sz => (cs_X8 kA a w)) hDt V0 (fun _ => rfl)
  try dsimp only at hD
  generalize hAe : zF (cs_X8 kA a V0) = A0 at hS hD hret
  unfold f_X8_gift at hf
  have L42 : ∀ (k42 : Nat) (y3 : Int) (y4 : Int) (V : Sz) (H : Heap) (locs : List Loc) (ls : Array Slot), lpF (bX8_gift_42 n x1 x2) k42 (y3, y4, V) = some (r, Vr) → va_P D vwCl (cs_X8 kA a V) H → va_S A0 s.heap H locs → lv_has ls 5 [(0, .ref (a 0)), (1, vI x1), (2, vI x2), (3, vI y3), (4, vI y4)] → W p l e rmX8_gift s m args below meth c H locs 0 0 Q (F0 m 42 ls []) := by
    intro k42
    induction k42 with
    | zero => intro y3 y4 V H locs ls hf hP hS hl; exact lp_0 hf
    | succ k42 ih42 =>
      intro y3 y4 V H locs ls hf hP hS hl
      have hf := lp_s hf
      rw [bX8_gift_42_e] at hf
      have J93 : ∀ (y4 : Int) (V : Sz) (z0 : Int) (z1 : Int) (H : Heap) (locs : List Loc) (ls : Array Slot), jX8_gift_93 n x1 x2 (lpF (bX8_gift_42 n x1 x2) k42) y4 V z0 z1 = some (r, Vr) → va_P D vwCl (cs_X8 kA a V) H → va_S A0 s.heap H locs → lv_has ls 5 [(0, .ref (a 0)), (1, vI x1), (2, vI x2), (4, vI y4)] → W p l e rmX8_gift s m args below meth c H locs 0 0 Q (F0 m 93 ls [vI z0, vI z1]) := by
        intro y4 V z0 z1 H locs ls hf hP hS hl
        unfold jX8_gift_93 at hf
        refine ziadd hC.1 hC.2.1 dX8_gift_93 <| ?_
        refine ztopi (fun x_18 ex_18 => ?_)
        have hf := nm_at hf ex_18
        refine zistore_n (lv' := [(3, vI x_18), (0, .ref (a 0)), (1, vI x1), (2, vI x2), (4, vI y4)]) hC.1 hC.2.1 dX8_gift_94 rfl hl (by decide) rfl (fun ls hl => ?_)
        obtain ⟨x_19, ex_19⟩ : ∃ y : Int, y = y4 + 1 := ⟨_, rfl⟩
        have hf := nm_at hf ex_19
        refine ziinc (v := x_19) (lv' := [(4, vI x_19), (3, vI x_18), (0, .ref (a 0)), (1, vI x1), (2, vI x2)]) hC.1 hC.2.1 dX8_gift_95 hl (k := 4) rfl ex_19 (by decide) rfl (fun ls hl => ?_)
        exact lv_goto (tgt := 42) hC.1 hC.2.1 dX8_gift_98 (by decide) <| ih42 _ _ _ _ _ _ hf hP hS (lv_sub hl [2, 3, 4, 1, 0] rfl)
      refine ziload hC.1 hC.2.1 dX8_gift_42 (lv_at hl 4 rfl) <| lv_aload_n hC.1 hC.2.1 dX8_gift_44 rfl (lv_at hl 0 rfl) <| gfX8_7 hC hK hP (q0 := 0) rfl rfl dX8_gift_45 <| zsipush hC.1 hC.2.1 dX8_gift_48 (by decide) <| ziload_n hC.1 hC.2.1 dX8_gift_51 rfl (lv_at hl 1 rfl) <| ziadd hC.1 hC.2.1 dX8_gift_52 <| ?_
      obtain ⟨hz_7, hf⟩ := ck_some hf
      refine jal hC hK hP (q0 := 1) rfl (Nat.le_of_ble_eq_true rfl) hz_7 rfl dX8_gift_53 <| ?_
      obtain ⟨hz_8, hf⟩ := ck_some hf
      refine zicmp_ge (tgt := 101) hC.1 hC.2.1 ⟨hz_8.1, hz_8.2⟩ dX8_gift_54 (by decide) (fun hc => ?_) (fun hc => ?_)
      · have hf := it_t hf hc
        refine ziload_n hC.1 hC.2.1 dX8_gift_101 rfl (lv_at hl 2 rfl) <| ?_
        obtain ⟨hz_9, hf⟩ := ck_some hf
        by_cases hc : x2 = 0
        · have hf := it_t hf hc
          refine ztsIn (k := 0) (tgt := 140) hC.1 hC.2.1 dX8_gift_102 hc (by decide) rfl (by decide) ?_
          refine lv_aload_n hC.1 hC.2.1 dX8_gift_140 rfl (lv_at hl 0 rfl) <| gfX8_7 hC hK hP (q0 := 0) rfl rfl dX8_gift_141 <| zbipush hC.1 hC.2.1 dX8_gift_144 (by decide) <| ziload_n hC.1 hC.2.1 dX8_gift_146 rfl (lv_at hl 1 rfl) <| ziadd hC.1 hC.2.1 dX8_gift_147 <| ?_
          obtain ⟨hz_10, hf⟩ := ck_some hf
          refine jal hC hK hP (q0 := 1) rfl (Nat.le_of_ble_eq_true rfl) hz_10 rfl dX8_gift_148 <| ?_
          have hf := Option.some.inj hf
          simp only [Prod.mk.injEq] at hf
          exact hret (Int32.ofInt (V 0 (113 + x1).toNat)) _ _ _ _ (congrArg (fun z => some (vI z)) hf.1.symm) (by rw [← hf.2]; exact hP) hS dX8_gift_149
        have hf := it_f hf hc
        have hc0 := hc
        by_cases hc : x2 = 1
        · have hf := it_t hf hc
          refine ztsIn (k := 1) (tgt := 150) hC.1 hC.2.1 dX8_gift_102 hc (by decide) rfl (by decide) ?_
          refine lv_aload_n hC.1 hC.2.1 dX8_gift_150 rfl (lv_at hl 0 rfl) <| gfX8_7 hC hK hP (q0 := 0) rfl rfl dX8_gift_151 <| zsipush hC.1 hC.2.1 dX8_gift_154 (by decide) <| ziload_n hC.1 hC.2.1 dX8_gift_157 rfl (lv_at hl 1 rfl) <| ziadd hC.1 hC.2.1 dX8_gift_158 <| ?_
          obtain ⟨hz_11, hf⟩ := ck_some hf
          refine jal hC hK hP (q0 := 1) rfl (Nat.le_of_ble_eq_true rfl) hz_11 rfl dX8_gift_159 <| ?_
          have hf := Option.some.inj hf
          simp only [Prod.mk.injEq] at hf
          exact hret (Int32.ofInt (V 0 (173 + x1).toNat)) _ _ _ _ (congrArg (fun z => some (vI z)) hf.1.symm) (by rw [← hf.2]; exact hP) hS dX8_gift_160
        have hf := it_f hf hc
        have hc1 := hc
        by_cases hc : x2 = 2
        · have hf := it_t hf hc
          refine ztsIn (k := 2) (tgt := 161) hC.1 hC.2.1 dX8_gift_102 hc (by decide) rfl (by decide) ?_
          refine lv_aload_n hC.1 hC.2.1 dX8_gift_161 rfl (lv_at hl 0 rfl) <| gfX8_7 hC hK hP (q0 := 0) rfl rfl dX8_gift_162 <| zsipush hC.1 hC.2.1 dX8_gift_165 (by decide) <| ziload_n hC.1 hC.2.1 dX8_gift_168 rfl (lv_at hl 1 rfl) <| ziadd hC.1 hC.2.1 dX8_gift_169 <| ?_
          obtain ⟨hz_12, hf⟩ := ck_some hf
          refine jal hC hK hP (q0 := 1) rfl (Nat.le_of_ble_eq_true rfl) hz_12 rfl dX8_gift_170 <| ?_
          have hf := Option.some.inj hf
          simp only [Prod.mk.injEq] at hf
          exact hret (Int32.ofInt (V 0 (233 + x1).toNat)) _ _ _ _ (congrArg (fun z => some (vI z)) hf.1.symm) (by rw [← hf.2]; exact hP) hS dX8_gift_171
        have hf := it_f hf hc
        have hc2 := hc
        by_cases hc : x2 = 3
        · have hf := it_t hf hc
          refine ztsIn (k := 3) (tgt := 172) hC.1 hC.2.1 dX8_gift_102 hc (by decide) rfl (by decide) ?_
          refine lv_aload_n hC.1 hC.2.1 dX8_gift_172 rfl (lv_at hl 0 rfl) <| gfX8_7 hC hK hP (q0 := 0) rfl rfl dX8_gift_173 <| zsipush hC.1 hC.2.1 dX8_gift_176 (by decide) <| ziload_n hC.1 hC.2.1 dX8_gift_179 rfl (lv_at hl 1 rfl) <| ziadd hC.1 hC.2.1 dX8_gift_180 <| jal hC hK hP (q0 := 1) rfl (Nat.le_of_ble_eq_true rfl) hz_7 rfl dX8_gift_181 <| ?_
          have hf := Option.some.inj hf
          simp only [Prod.mk.injEq] at hf
          exact hret (Int32.ofInt (V 0 (293 + x1).toNat)) _ _ _ _ (congrArg (fun z => some (vI z)) hf.1.symm) (by rw [← hf.2]; exact hP) hS dX8_gift_182
        have hf := it_f hf hc
        have hc3 := hc
        by_cases hc : x2 = 4
        · have hf := it_t hf hc
          refine ztsIn (k := 4) (tgt := 183) hC.1 hC.2.1 dX8_gift_102 hc (by decide) rfl (by decide) ?_
          refine lv_aload_n hC.1 hC.2.1 dX8_gift_183 rfl (lv_at hl 0 rfl) <| ziload_n hC.1 hC.2.1 dX8_gift_184 rfl (lv_at hl 1 rfl) <| ?_
          obtain ⟨r_13, hu, hf⟩ := bd_some hf
          refine zcVP (As := [vI x1]) (rest := []) hC hK (met_X8_leftOfGift l D kA a V x1 hu) zwX8_278 hP (q0 := 0) rfl rfl rfl rfl hl.1 rfl (Nat.le_of_ble_eq_true rfl) ⟨Nat.le_of_ble_eq_true rfl, Nat.le_of_ble_eq_true rfl⟩ ⟨rfl, rfl⟩ ⟨Nat.le_refl _, Nat.le_refl _⟩ dX8_gift_185 <| ?_
          have hf := Option.some.inj hf
          simp only [Prod.mk.injEq] at hf
          exact hret (Int32.ofInt r_13) _ _ _ _ (congrArg (fun z => some (vI z)) hf.1.symm) (by rw [← hf.2]; exact hP) hS dX8_gift_188
        have hf := it_f hf hc
        have hc4 := hc
        by_cases hc : x2 = 5
        · have hf := it_t hf hc
          refine ztsIn (k := 5) (tgt := 189) hC.1 hC.2.1 dX8_gift_102 hc (by decide) rfl (by decide) ?_
          refine lv_aload_n hC.1 hC.2.1 dX8_gift_189 rfl (lv_at hl 0 rfl) <| ziload_n hC.1 hC.2.1 dX8_gift_190 rfl (lv_at hl 1 rfl) <| ?_
          obtain ⟨r_14, hu, hf⟩ := bd_some hf
          refine zcVP (As := [vI x1]) (rest := []) hC hK (met_X8_isSpoilt l D kA a V x1 hu) zwX8_89 hP (q0 := 0) rfl rfl rfl rfl hl.1 rfl (Nat.le_of_ble_eq_true rfl) ⟨Nat.le_of_ble_eq_true rfl, Nat.le_of_ble_eq_true rfl⟩ ⟨rfl, rfl⟩ ⟨Nat.le_refl _, Nat.le_refl _⟩ dX8_gift_191 <| zifb_eq (tgt := 201) hC.1 hC.2.1 dX8_gift_194 (by decide) (fun hc => ?_) (fun hc => ?_)
          · have hf := it_t hf hc
            refine ziconst hC.1 hC.2.1 dX8_gift_201 <| ?_
            have hf := Option.some.inj hf
            simp only [Prod.mk.injEq] at hf
            exact hret (Int32.ofInt 0) _ _ _ _ (congrArg (fun z => some (vI z)) hf.1.symm) (by rw [← hf.2]; exact hP) hS dX8_gift_202
          · have hf := it_f hf hc
            refine ziconst hC.1 hC.2.1 dX8_gift_197 <| lv_goto (tgt := 202) hC.1 hC.2.1 dX8_gift_198 (by decide) <| ?_
            have hf := Option.some.inj hf
            simp only [Prod.mk.injEq] at hf
            exact hret (Int32.ofInt 1) _ _ _ _ (congrArg (fun z => some (vI z)) hf.1.symm) (by rw [← hf.2]; exact hP) hS dX8_gift_202
        have hf := it_f hf hc
        have hc5 := hc
        refine ztsOut (tgt := 203) hC.1 hC.2.1 hz_9 dX8_gift_102 (by decide) (by omega) ?_
        refine ziload_n hC.1 hC.2.1 dX8_gift_203 rfl (lv_at hl 3 rfl) <| ?_
        have hf := Option.some.inj hf
        simp only [Prod.mk.injEq] at hf
        exact hret (Int32.ofInt y3) _ _ _ _ (congrArg (fun z => some (vI z)) hf.1.symm) (by rw [← hf.2]; exact hP) hS dX8_gift_204
      · have hf := it_f hf hc
        refine ziload_n hC.1 hC.2.1 dX8_gift_57 rfl (lv_at hl 3 rfl) <| ziload_n hC.1 hC.2.1 dX8_gift_58 rfl (lv_at hl 2 rfl) <| zbipush hC.1 hC.2.1 dX8_gift_59 (by decide) <| ?_
        obtain ⟨hz_15, hf⟩ := ck_some hf
        refine zicmp_ne (tgt := 78) hC.1 hC.2.1 ⟨hz_15, (by decide)⟩ dX8_gift_61 (by decide) (fun hc => ?_) (fun hc => ?_)
        · have hf := it_f hf hc
          refine lv_aload_n hC.1 hC.2.1 dX8_gift_78 rfl (lv_at hl 0 rfl) <| gfX8_7 hC hK hP (q0 := 0) rfl rfl dX8_gift_79 <| zsipush hC.1 hC.2.1 dX8_gift_82 (by decide) <| ziload_n hC.1 hC.2.1 dX8_gift_85 rfl (lv_at hl 1 rfl) <| ziload hC.1 hC.2.1 dX8_gift_86 (lv_at hl 4 rfl) <| ?_
          obtain ⟨r_16, hu, hf⟩ := bd_some hf
          have hPc : va_P D vwCl ([] : va_W) _ := hP.sub [] rfl
          refine zcSP (As := [vI x1, vI y4]) (rest := [vI 953, .ref (a 1), vI y3]) hC hK (met_X8_partOf l D kA x1 y4 hu) zwX8_103 hPc rfl hl.1 rfl (Nat.le_of_ble_eq_true rfl) ⟨Nat.le_of_ble_eq_true rfl, Nat.le_of_ble_eq_true rfl⟩ ⟨rfl, rfl⟩ ⟨Nat.le_refl _, Nat.le_refl _⟩ dX8_gift_88 <| ziadd hC.1 hC.2.1 dX8_gift_91 <| ?_
          obtain ⟨hz_17, hf⟩ := ck_some hf
          exact jal hC hK hP (q0 := 1) rfl (Nat.le_of_ble_eq_true rfl) hz_17 rfl dX8_gift_92 <| J93 _ _ _ _ _ _ _ hf hP hS (lv_sub hl [0, 1, 2, 4] rfl)
        · have hf := it_t hf hc
          refine lv_aload_n hC.1 hC.2.1 dX8_gift_64 rfl (lv_at hl 0 rfl) <| gfX8_37 hC hK hP (q0 := 0) rfl rfl dX8_gift_65 <| ziload_n hC.1 hC.2.1 dX8_gift_68 rfl (lv_at hl 1 rfl) <| ziload hC.1 hC.2.1 dX8_gift_69 (lv_at hl 4 rfl) <| ?_
          obtain ⟨r_20, hu, hf⟩ := bd_some hf
          have hPc : va_P D vwCl ([] : va_W) _ := hP.sub [] rfl
          refine zcSP (As := [vI x1, vI y4]) (rest := [.ref (a 10), vI y3]) hC hK (met_X8_partOf l D kA x1 y4 hu) zwX8_103 hPc rfl hl.1 rfl (Nat.le_of_ble_eq_true rfl) ⟨Nat.le_of_ble_eq_true rfl, Nat.le_of_ble_eq_true rfl⟩ ⟨rfl, rfl⟩ ⟨Nat.le_refl _, Nat.le_refl _⟩ dX8_gift_71 <| ?_
          obtain ⟨hz_21, hf⟩ := ck_some hf
          exact jal hC hK hP (q0 := 10) rfl (Nat.le_of_ble_eq_true rfl) hz_21 rfl dX8_gift_74 <| lv_goto (tgt := 93) hC.1 hC.2.1 dX8_gift_75 (by decide) <| J93 _ _ _ _ _ _ _ hf hP hS (lv_sub hl [0, 1, 2, 4] rfl)
  have J24 : ∀ (V : Sz) (z0 : Int) (H : Heap) (locs : List Loc) (ls : Array Slot), jX8_gift_24 n x1 x2 V z0 = some (r, Vr) → va_P D vwCl (cs_X8 kA a V) H → va_S A0 s.heap H locs → lv_has ls 5 [(0, .ref (a 0)), (1, vI x1), (2, vI x2)] → W p l e rmX8_gift s m args below meth c H locs 0 0 Q (F0 m 24 ls [vI z0, .ref (a 0)]) := by
    intro V z0 H locs ls hf hP hS hl
    unfold jX8_gift_24 at hf
    refine ziconst hC.1 hC.2.1 dX8_gift_24 <| ?_
    obtain ⟨⟨r_4, V_5⟩, hu, hf⟩ := bd_some hf
    have hDc := hDt
    refine zcVZ (As := [vI z0, vI 2]) (rest := []) hC hK (met_X8_fails l D kA a V z0 2 hDc hu) zwX8_261 hS (zFsub (hD V) [0, 1, 2, 3, 4, 5, 6, 7, 8, 9, 10, 11, 12, 13, 14, 15, 16] rfl) hP (q0 := 0) rfl rfl rfl rfl hl.1 rfl (Nat.le_of_ble_eq_true rfl) ⟨Nat.le_of_ble_eq_true rfl, Nat.le_of_ble_eq_true rfl⟩ ⟨rfl, rfl⟩ ⟨Nat.le_refl _, Nat.le_refl _⟩ dX8_gift_25 (fun H locs hP1 hk1 hS => ?_)
    have hP : va_P D vwCl (cs_X8 kA a V_5) H := hP1
    refine zifb_eq (tgt := 33) hC.1 hC.2.1 dX8_gift_28 (by decide) (fun hc => ?_) (fun hc => ?_)
    · have hf := it_t hf hc
      refine lv_aload_n hC.1 hC.2.1 dX8_gift_33 rfl (lv_at hl 0 rfl) <| ?_
      obtain ⟨V_6, hu, hf⟩ := bd_some hf
      have hDc := hDt
      refine zcVZ (As := []) (rest := []) hC hK (met_X8_laysAid l D kA a n V_5 hDc hu) zwX8_121 hS (zFsub (hD V_5) [0, 1, 2, 3, 4, 5, 6, 7, 8, 9, 10, 11, 12, 13, 14, 15, 16] rfl) hP (q0 := 0) rfl rfl rfl rfl hl.1 rfl (Nat.le_of_ble_eq_true rfl) ⟨Nat.le_of_ble_eq_true rfl, Nat.le_of_ble_eq_true rfl⟩ ⟨rfl, rfl⟩ ⟨Nat.le_refl _, Nat.le_refl _⟩ dX8_gift_34 (fun H locs hP1 hk1 hS => ?_)
      have hP : va_P D vwCl (cs_X8 kA a V_6) H := hP1
      refine ziconst hC.1 hC.2.1 dX8_gift_37 <| zistore_n (lv' := [(3, vI 0), (0, .ref (a 0)), (1, vI x1), (2, vI x2)]) hC.1 hC.2.1 dX8_gift_38 rfl hl (by decide) rfl (fun ls hl => ?_)
      refine ziconst hC.1 hC.2.1 dX8_gift_39 <| zistore (lv' := [(4, vI 0), (3, vI 0), (0, .ref (a 0)), (1, vI x1), (2, vI x2)]) hC.1 hC.2.1 dX8_gift_40 hl (by decide) rfl (fun ls hl => ?_)
      exact L42 n _ _ _ _ _ _ hf hP hS (lv_sub hl [2, 3, 4, 1, 0] rfl)
    · have hf := it_f hf hc
      refine ziconst hC.1 hC.2.1 dX8_gift_31 <| ?_
      have hf := Option.some.inj hf
      simp only [Prod.mk.injEq] at hf
      exact hret (Int32.ofInt 0) _ _ _ _ (congrArg (fun z => some (vI z)) hf.1.symm) (by rw [← hf.2]; exact hP) hS dX8_gift_32
  refine lv_aload_n hC.1 hC.2.1 dX8_gift_0 rfl (lv_at hl 0 rfl) <| ziload_n hC.1 hC.2.1 dX8_gift_1 rfl (lv_at hl 1 rfl) <| ?_
  obtain ⟨⟨r_1, V_2⟩, hu, hf⟩ := bd_some hf
  have hDc := hDt
  refine zcVZ (As := [vI x1]) (rest := []) hC hK (met_X8_noGift l D kA a V0 x1 hDc hu) zwX8_265 hS (zFsub (hD V0) [0, 1, 2, 3, 4, 5, 6, 7, 8, 9, 10, 11, 12, 13, 14, 15, 16] rfl) hP (q0 := 0) rfl rfl rfl rfl hl.1 rfl (Nat.le_of_ble_eq_true rfl) ⟨Nat.le_of_ble_eq_true rfl, Nat.le_of_ble_eq_true rfl⟩ ⟨rfl, rfl⟩ ⟨Nat.le_refl _, Nat.le_refl _⟩ dX8_gift_2 (fun H locs hP1 hk1 hS => ?_)
  have hP : va_P D vwCl (cs_X8 kA a V_2) H := hP1
  refine zifb_ne (tgt := 31) hC.1 hC.2.1 dX8_gift_5 (by decide) (fun hc => ?_) (fun hc => ?_)
  · have hf := it_t hf hc
    refine ziconst hC.1 hC.2.1 dX8_gift_31 <| ?_
    have hf := Option.some.inj hf
    simp only [Prod.mk.injEq] at hf
    exact hret (Int32.ofInt 0) _ _ _ _ (congrArg (fun z => some (vI z)) hf.1.symm) (by rw [← hf.2]; exact hP) hS dX8_gift_32
  · have hf := it_f hf hc
    refine lv_aload_n hC.1 hC.2.1 dX8_gift_8 rfl (lv_at hl 0 rfl) <| ziload_n hC.1 hC.2.1 dX8_gift_9 rfl (lv_at hl 2 rfl) <| ziconst hC.1 hC.2.1 dX8_gift_10 <| zbipush hC.1 hC.2.1 dX8_gift_11 (by decide) <| ?_
    obtain ⟨r_3, hu, hf⟩ := bd_some hf
    have hPc : va_P D vwCl ([] : va_W) _ := hP.sub [] rfl
    refine zcSP (As := [vI x2, vI 0, vI 7]) (rest := [.ref (a 0)]) hC hK (met_X8_inRange l D kA x2 0 7 hu) zwX8_79 hPc rfl hl.1 rfl (Nat.le_of_ble_eq_true rfl) ⟨Nat.le_of_ble_eq_true rfl, Nat.le_of_ble_eq_true rfl⟩ ⟨rfl, rfl⟩ ⟨Nat.le_refl _, Nat.le_refl _⟩ dX8_gift_13 <| zifb_ne (tgt := 23) hC.1 hC.2.1 dX8_gift_16 (by decide) (fun hc => ?_) (fun hc => ?_)
    · have hf := it_t hf hc
      exact ziconst hC.1 hC.2.1 dX8_gift_23 <| J24 _ _ _ _ _ hf hP hS (lv_sub hl [0, 1, 2] rfl)
    · have hf := it_f hf hc
      exact ziconst hC.1 hC.2.1 dX8_gift_19 <| lv_goto (tgt := 24) hC.1 hC.2.1 dX8_gift_20 (by decide) <| J24 _ _ _ _ _ hf hP hS (lv_sub hl [0, 1, 2] rfl)
theorem DX8_part_0 : ∀ q ∈ ([(0, .aload_n 0, 1), (1, .iload_n 1, 1), (2, .iload_n 2, 1), (3, .invokevirtual 281, 3), (6, .ifCond .ne 25, 3), (9, .aload_n 0, 1), (10, .iload_n 3, 1), (11, .iconst 0, 1), (12, .iconst 5, 1), (13, .invokestatic 79, 3), (16, .ifCond .ne 7, 3), (19, .iconst 1, 1), (20, .goto 4, 3), (23, .iconst 0, 1), (24, .iconst 2, 1), (25, .invokevirtual 261, 3), (28, .ifCond .eq 5, 3), (31, .iconst 0, 1), (32, .ireturn, 1), (33, .aload_n 0, 1), (34, .invokevirtual 121, 3), (37, .iload_n 1, 1), (38, .iload_n 2, 1), (39, .invokestatic 103, 3), (42, .istore 4, 2), (44, .iload_n 3, 1), (45, .tableswitch 82 0 4 #[35, 47, 59, 66, 74], 35), (80, .aload_n 0, 1), (81, .getfield 7, 3), (84, .sipush 413, 3), (87, .iload 4, 2), (89, .iadd, 1), (90, .iaload, 1), (91, .ireturn, 1), (92, .aload_n 0, 1), (93, .getfield 7, 3), (96, .sipush 593, 3), (99, .iload 4, 2), (101, .iadd, 1), (102, .iaload, 1)] : List (Nat × Instr × Nat)), decode cX8_part q.1 = .ok q.2 := by decide +kernel
theorem dX8_part_0 : decode cX8_part 0 = .ok (.aload_n 0, 1) := DX8_part_0 (0, .aload_n 0, 1) (List.mem_of_getElem? (i := 0) rfl)
theorem dX8_part_1 : decode cX8_part 1 = .ok (.iload_n 1, 1) := DX8_part_0 (1, .iload_n 1, 1) (List.mem_of_getElem? (i := 1) rfl)
theorem dX8_part_2 : decode cX8_part 2 = .ok (.iload_n 2, 1) := DX8_part_0 (2, .iload_n 2, 1) (List.mem_of_getElem? (i := 2) rfl)
theorem dX8_part_3 : decode cX8_part 3 = .ok (.invokevirtual 281, 3) := DX8_part_0 (3, .invokevirtual 281, 3) (List.mem_of_getElem? (i := 3) rfl)
theorem dX8_part_6 : decode cX8_part 6 = .ok (.ifCond .ne 25, 3) := DX8_part_0 (6, .ifCond .ne 25, 3) (List.mem_of_getElem? (i := 4) rfl)
theorem dX8_part_9 : decode cX8_part 9 = .ok (.aload_n 0, 1) := DX8_part_0 (9, .aload_n 0, 1) (List.mem_of_getElem? (i := 5) rfl)
theorem dX8_part_10 : decode cX8_part 10 = .ok (.iload_n 3, 1) := DX8_part_0 (10, .iload_n 3, 1) (List.mem_of_getElem? (i := 6) rfl)
theorem dX8_part_11 : decode cX8_part 11 = .ok (.iconst 0, 1) := DX8_part_0 (11, .iconst 0, 1) (List.mem_of_getElem? (i := 7) rfl)
theorem dX8_part_12 : decode cX8_part 12 = .ok (.iconst 5, 1) := DX8_part_0 (12, .iconst 5, 1) (List.mem_of_getElem? (i := 8) rfl)
theorem dX8_part_13 : decode cX8_part 13 = .ok (.invokestatic 79, 3) := DX8_part_0 (13, .invokestatic 79, 3) (List.mem_of_getElem? (i := 9) rfl)
theorem dX8_part_16 : decode cX8_part 16 = .ok (.ifCond .ne 7, 3) := DX8_part_0 (16, .ifCond .ne 7, 3) (List.mem_of_getElem? (i := 10) rfl)
theorem dX8_part_19 : decode cX8_part 19 = .ok (.iconst 1, 1) := DX8_part_0 (19, .iconst 1, 1) (List.mem_of_getElem? (i := 11) rfl)
theorem dX8_part_20 : decode cX8_part 20 = .ok (.goto 4, 3) := DX8_part_0 (20, .goto 4, 3) (List.mem_of_getElem? (i := 12) rfl)
theorem dX8_part_23 : decode cX8_part 23 = .ok (.iconst 0, 1) := DX8_part_0 (23, .iconst 0, 1) (List.mem_of_getElem? (i := 13) rfl)
theorem dX8_part_24 : decode cX8_part 24 = .ok (.iconst 2, 1) := DX8_part_0 (24, .iconst 2, 1) (List.mem_of_getElem? (i := 14) rfl)
theorem dX8_part_25 : decode cX8_part 25 = .ok (.invokevirtual 261, 3) := DX8_part_0 (25, .invokevirtual 261, 3) (List.mem_of_getElem? (i := 15) rfl)
theorem dX8_part_28 : decode cX8_part 28 = .ok (.ifCond .eq 5, 3) := DX8_part_0 (28, .ifCond .eq 5, 3) (List.mem_of_getElem? (i := 16) rfl)
theorem dX8_part_31 : decode cX8_part 31 = .ok (.iconst 0, 1) := DX8_part_0 (31, .iconst 0, 1) (List.mem_of_getElem? (i := 17) rfl)
theorem dX8_part_32 : decode cX8_part 32 = .ok (.ireturn, 1) := DX8_part_0 (32, .ireturn, 1) (List.mem_of_getElem? (i := 18) rfl)
theorem dX8_part_33 : decode cX8_part 33 = .ok (.aload_n 0, 1) := DX8_part_0 (33, .aload_n 0, 1) (List.mem_of_getElem? (i := 19) rfl)
theorem dX8_part_34 : decode cX8_part 34 = .ok (.invokevirtual 121, 3) := DX8_part_0 (34, .invokevirtual 121, 3) (List.mem_of_getElem? (i := 20) rfl)
theorem dX8_part_37 : decode cX8_part 37 = .ok (.iload_n 1, 1) := DX8_part_0 (37, .iload_n 1, 1) (List.mem_of_getElem? (i := 21) rfl)
theorem dX8_part_38 : decode cX8_part 38 = .ok (.iload_n 2, 1) := DX8_part_0 (38, .iload_n 2, 1) (List.mem_of_getElem? (i := 22) rfl)
theorem dX8_part_39 : decode cX8_part 39 = .ok (.invokestatic 103, 3) := DX8_part_0 (39, .invokestatic 103, 3) (List.mem_of_getElem? (i := 23) rfl)
theorem dX8_part_42 : decode cX8_part 42 = .ok (.istore 4, 2) := DX8_part_0 (42, .istore 4, 2) (List.mem_of_getElem? (i := 24) rfl)
theorem dX8_part_44 : decode cX8_part 44 = .ok (.iload_n 3, 1) := DX8_part_0 (44, .iload_n 3, 1) (List.mem_of_getElem? (i := 25) rfl)
theorem dX8_part_45 : decode cX8_part 45 = .ok (.tableswitch 82 0 4 #[35, 47, 59, 66, 74], 35) := DX8_part_0 (45, .tableswitch 82 0 4 #[35, 47, 59, 66, 74], 35) (List.mem_of_getElem? (i := 26) rfl)
theorem dX8_part_80 : decode cX8_part 80 = .ok (.aload_n 0, 1) := DX8_part_0 (80, .aload_n 0, 1) (List.mem_of_getElem? (i := 27) rfl)
theorem dX8_part_81 : decode cX8_part 81 = .ok (.getfield 7, 3) := DX8_part_0 (81, .getfield 7, 3) (List.mem_of_getElem? (i := 28) rfl)
theorem dX8_part_84 : decode cX8_part 84 = .ok (.sipush 413, 3) := DX8_part_0 (84, .sipush 413, 3) (List.mem_of_getElem? (i := 29) rfl)
theorem dX8_part_87 : decode cX8_part 87 = .ok (.iload 4, 2) := DX8_part_0 (87, .iload 4, 2) (List.mem_of_getElem? (i := 30) rfl)
theorem dX8_part_89 : decode cX8_part 89 = .ok (.iadd, 1) := DX8_part_0 (89, .iadd, 1) (List.mem_of_getElem? (i := 31) rfl)
theorem dX8_part_90 : decode cX8_part 90 = .ok (.iaload, 1) := DX8_part_0 (90, .iaload, 1) (List.mem_of_getElem? (i := 32) rfl)
theorem dX8_part_91 : decode cX8_part 91 = .ok (.ireturn, 1) := DX8_part_0 (91, .ireturn, 1) (List.mem_of_getElem? (i := 33) rfl)
theorem dX8_part_92 : decode cX8_part 92 = .ok (.aload_n 0, 1) := DX8_part_0 (92, .aload_n 0, 1) (List.mem_of_getElem? (i := 34) rfl)
theorem dX8_part_93 : decode cX8_part 93 = .ok (.getfield 7, 3) := DX8_part_0 (93, .getfield 7, 3) (List.mem_of_getElem? (i := 35) rfl)
theorem dX8_part_96 : decode cX8_part 96 = .ok (.sipush 593, 3) := DX8_part_0 (96, .sipush 593, 3) (List.mem_of_getElem? (i := 36) rfl)
theorem dX8_part_99 : decode cX8_part 99 = .ok (.iload 4, 2) := DX8_part_0 (99, .iload 4, 2) (List.mem_of_getElem? (i := 37) rfl)
theorem dX8_part_101 : decode cX8_part 101 = .ok (.iadd, 1) := DX8_part_0 (101, .iadd, 1) (List.mem_of_getElem? (i := 38) rfl)
theorem dX8_part_102 : decode cX8_part 102 = .ok (.iaload, 1) := DX8_part_0 (102, .iaload, 1) (List.mem_of_getElem? (i := 39) rfl)
theorem DX8_part_1 : ∀ q ∈ ([(103, .ireturn, 1), (104, .aload_n 0, 1), (105, .iload 4, 2), (107, .invokevirtual 86, 3), (110, .ireturn, 1), (111, .aload_n 0, 1), (112, .getfield 40, 3), (115, .iload 4, 2), (117, .iaload, 1), (118, .ireturn, 1), (119, .aload_n 0, 1), (120, .getfield 37, 3), (123, .iload 4, 2), (125, .iaload, 1), (126, .ireturn, 1), (127, .aload_n 0, 1), (128, .getfield 7, 3), (131, .sipush 953, 3), (134, .iload 4, 2), (136, .iadd, 1), (137, .iaload, 1), (138, .ireturn, 1)] : List (Nat × Instr × Nat)), decode cX8_part q.1 = .ok q.2 := by decide +kernel
theorem dX8_part_103 : decode cX8_part 103 = .ok (.ireturn, 1) := DX8_part_1 (103, .ireturn, 1) (List.mem_of_getElem? (i := 0) rfl)
theorem dX8_part_104 : decode cX8_part 104 = .ok (.aload_n 0, 1) := DX8_part_1 (104, .aload_n 0, 1) (List.mem_of_getElem? (i := 1) rfl)
theorem dX8_part_105 : decode cX8_part 105 = .ok (.iload 4, 2) := DX8_part_1 (105, .iload 4, 2) (List.mem_of_getElem? (i := 2) rfl)
theorem dX8_part_107 : decode cX8_part 107 = .ok (.invokevirtual 86, 3) := DX8_part_1 (107, .invokevirtual 86, 3) (List.mem_of_getElem? (i := 3) rfl)
theorem dX8_part_110 : decode cX8_part 110 = .ok (.ireturn, 1) := DX8_part_1 (110, .ireturn, 1) (List.mem_of_getElem? (i := 4) rfl)
theorem dX8_part_111 : decode cX8_part 111 = .ok (.aload_n 0, 1) := DX8_part_1 (111, .aload_n 0, 1) (List.mem_of_getElem? (i := 5) rfl)
theorem dX8_part_112 : decode cX8_part 112 = .ok (.getfield 40, 3) := DX8_part_1 (112, .getfield 40, 3) (List.mem_of_getElem? (i := 6) rfl)
theorem dX8_part_115 : decode cX8_part 115 = .ok (.iload 4, 2) := DX8_part_1 (115, .iload 4, 2) (List.mem_of_getElem? (i := 7) rfl)
theorem dX8_part_117 : decode cX8_part 117 = .ok (.iaload, 1) := DX8_part_1 (117, .iaload, 1) (List.mem_of_getElem? (i := 8) rfl)
theorem dX8_part_118 : decode cX8_part 118 = .ok (.ireturn, 1) := DX8_part_1 (118, .ireturn, 1) (List.mem_of_getElem? (i := 9) rfl)
theorem dX8_part_119 : decode cX8_part 119 = .ok (.aload_n 0, 1) := DX8_part_1 (119, .aload_n 0, 1) (List.mem_of_getElem? (i := 10) rfl)
theorem dX8_part_120 : decode cX8_part 120 = .ok (.getfield 37, 3) := DX8_part_1 (120, .getfield 37, 3) (List.mem_of_getElem? (i := 11) rfl)
theorem dX8_part_123 : decode cX8_part 123 = .ok (.iload 4, 2) := DX8_part_1 (123, .iload 4, 2) (List.mem_of_getElem? (i := 12) rfl)
theorem dX8_part_125 : decode cX8_part 125 = .ok (.iaload, 1) := DX8_part_1 (125, .iaload, 1) (List.mem_of_getElem? (i := 13) rfl)
theorem dX8_part_126 : decode cX8_part 126 = .ok (.ireturn, 1) := DX8_part_1 (126, .ireturn, 1) (List.mem_of_getElem? (i := 14) rfl)
theorem dX8_part_127 : decode cX8_part 127 = .ok (.aload_n 0, 1) := DX8_part_1 (127, .aload_n 0, 1) (List.mem_of_getElem? (i := 15) rfl)
theorem dX8_part_128 : decode cX8_part 128 = .ok (.getfield 7, 3) := DX8_part_1 (128, .getfield 7, 3) (List.mem_of_getElem? (i := 16) rfl)
theorem dX8_part_131 : decode cX8_part 131 = .ok (.sipush 953, 3) := DX8_part_1 (131, .sipush 953, 3) (List.mem_of_getElem? (i := 17) rfl)
theorem dX8_part_134 : decode cX8_part 134 = .ok (.iload 4, 2) := DX8_part_1 (134, .iload 4, 2) (List.mem_of_getElem? (i := 18) rfl)
theorem dX8_part_136 : decode cX8_part 136 = .ok (.iadd, 1) := DX8_part_1 (136, .iadd, 1) (List.mem_of_getElem? (i := 19) rfl)
theorem dX8_part_137 : decode cX8_part 137 = .ok (.iaload, 1) := DX8_part_1 (137, .iaload, 1) (List.mem_of_getElem? (i := 20) rfl)
theorem dX8_part_138 : decode cX8_part 138 = .ok (.ireturn, 1) := DX8_part_1 (138, .ireturn, 1) (List.mem_of_getElem? (i := 21) rfl)
abbrev rmX8_part : Room := { frames := 4, cells := 0, slots := 0, locals := 90 }
set_option maxHeartbeats 400000 in
set_option maxRecDepth 100000 in
theorem met_X8_part (l : Launch) (D : va_G) (kA : Nat → ClassId) (a : Nat → Nat) (n : Nat) (V0 : Sz) (x1 : Int) (x2 : Int) (x3 : Int) (hDt : ∀ w : Sz, va_D (fun _ => True) (cs_X8 kA a w)) {r : Int} {Vr : Sz} (hf : f_X8_part n V0 x1 x2 x3 = some (r, Vr)) : MZ l yX8_part cX8_part 5 (some .int) rmX8_part D kA [.ref (a 0), vI x1, vI x2, vI x3] (cs_X8 kA a V0) (cs_X8 kA a Vr) (some (vI r)) := by
  refine zZI (own := RX8) rfl rfl (Nat.le_of_ble_eq_true rfl) ?_
  intro p e s m args below meth c ls Q hC hK hP hl hret
  have hl : lv_has ls 5 [(0, .ref (a 0)), (1, vI x1), (2, vI x2), (3, vI x3)] := hl
  have hS : va_S (zF (cs_X8 kA a V0)) s.heap s.heap [] := va_S.rf
  have hD := zDself (C := fun w : Sz => (cs_X8 kA a w)) hDt V0 (fun _ => rfl)
  try dsimp only at hD
  generalize hAe : zF (cs_X8 kA a V0) = A0 at hS hD hret
  unfold f_X8_part at hf
  have J24 : ∀ (V : Sz) (z0 : Int) (H : Heap) (locs : List Loc) (ls : Array Slot), jX8_part_24 n x1 x2 x3 V z0 = some (r, Vr) → va_P D vwCl (cs_X8 kA a V) H → va_S A0 s.heap H locs → lv_has ls 5 [(0, .ref (a 0)), (1, vI x1), (2, vI x2), (3, vI x3)] → W p l e rmX8_part s m args below meth c H locs 0 0 Q (F0 m 24 ls [vI z0, .ref (a 0)]) := by
    intro V z0 H locs ls hf hP hS hl
    unfold jX8_part_24 at hf
    refine ziconst hC.1 hC.2.1 dX8_part_24 <| ?_
    obtain ⟨⟨r_4, V_5⟩, hu, hf⟩ := bd_some hf
    have hDc := hDt
    refine zcVZ (As := [vI z0, vI 2]) (rest := []) hC hK (met_X8_fails l D kA a V z0 2 hDc hu) zwX8_261 hS (zFsub (hD V) [0, 1, 2, 3, 4, 5, 6, 7, 8, 9, 10, 11, 12, 13, 14, 15, 16] rfl) hP (q0 := 0) rfl rfl rfl rfl hl.1 rfl (Nat.le_of_ble_eq_true rfl) ⟨Nat.le_of_ble_eq_true rfl, Nat.le_of_ble_eq_true rfl⟩ ⟨rfl, rfl⟩ ⟨Nat.le_refl _, Nat.le_refl _⟩ dX8_part_25 (fun H locs hP1 hk1 hS => ?_)
    have hP : va_P D vwCl (cs_X8 kA a V_5) H := hP1
    refine zifb_eq (tgt := 33) hC.1 hC.2.1 dX8_part_28 (by decide) (fun hc => ?_) (fun hc => ?_)
    · have hf := it_t hf hc
      refine lv_aload_n hC.1 hC.2.1 dX8_part_33 rfl (lv_at hl 0 rfl) <| ?_
      obtain ⟨V_6, hu, hf⟩ := bd_some hf
      have hDc := hDt
      refine zcVZ (As := []) (rest := []) hC hK (met_X8_laysAid l D kA a n V_5 hDc hu) zwX8_121 hS (zFsub (hD V_5) [0, 1, 2, 3, 4, 5, 6, 7, 8, 9, 10, 11, 12, 13, 14, 15, 16] rfl) hP (q0 := 0) rfl rfl rfl rfl hl.1 rfl (Nat.le_of_ble_eq_true rfl) ⟨Nat.le_of_ble_eq_true rfl, Nat.le_of_ble_eq_true rfl⟩ ⟨rfl, rfl⟩ ⟨Nat.le_refl _, Nat.le_refl _⟩ dX8_part_34 (fun H locs hP1 hk1 hS => ?_)
      have hP : va_P D vwCl (cs_X8 kA a V_6) H := hP1
      refine ziload_n hC.1 hC.2.1 dX8_part_37 rfl (lv_at hl 1 rfl) <| ziload_n hC.1 hC.2.1 dX8_part_38 rfl (lv_at hl 2 rfl) <| ?_
      obtain ⟨r_7, hu, hf⟩ := bd_some hf
      have hPc : va_P D vwCl ([] : va_W) _ := hP.sub [] rfl
      refine zcSP (As := [vI x1, vI x2]) (rest := []) hC hK (met_X8_partOf l D kA x1 x2 hu) zwX8_103 hPc rfl hl.1 rfl (Nat.le_of_ble_eq_true rfl) ⟨Nat.le_of_ble_eq_true rfl, Nat.le_of_ble_eq_true rfl⟩ ⟨rfl, rfl⟩ ⟨Nat.le_refl _, Nat.le_refl _⟩ dX8_part_39 <| zistore (lv' := [(4, vI r_7), (0, .ref (a 0)), (1, vI x1), (2, vI x2), (3, vI x3)]) hC.1 hC.2.1 dX8_part_42 hl (by decide) rfl (fun ls hl => ?_)
      refine ziload_n hC.1 hC.2.1 dX8_part_44 rfl (lv_at hl 4 rfl) <| ?_
      obtain ⟨hz_8, hf⟩ := ck_some hf
      by_cases hc : x3 = 0
      · have hf := it_t hf hc
        refine ztsIn (k := 0) (tgt := 80) hC.1 hC.2.1 dX8_part_45 hc (by decide) rfl (by decide) ?_
        refine lv_aload_n hC.1 hC.2.1 dX8_part_80 rfl (lv_at hl 1 rfl) <| gfX8_7 hC hK hP (q0 := 0) rfl rfl dX8_part_81 <| zsipush hC.1 hC.2.1 dX8_part_84 (by decide) <| ziload hC.1 hC.2.1 dX8_part_87 (lv_at hl 0 rfl) <| ziadd hC.1 hC.2.1 dX8_part_89 <| ?_
        obtain ⟨hz_9, hf⟩ := ck_some hf
        refine jal hC hK hP (q0 := 1) rfl (Nat.le_of_ble_eq_true rfl) hz_9 rfl dX8_part_90 <| ?_
        have hf := Option.some.inj hf
        simp only [Prod.mk.injEq] at hf
        exact hret (Int32.ofInt (V_6 0 (413 + r_7).toNat)) _ _ _ _ (congrArg (fun z => some (vI z)) hf.1.symm) (by rw [← hf.2]; exact hP) hS dX8_part_91
      have hf := it_f hf hc
      have hc0 := hc
      by_cases hc : x3 = 1
      · have hf := it_t hf hc
        refine ztsIn (k := 1) (tgt := 92) hC.1 hC.2.1 dX8_part_45 hc (by decide) rfl (by decide) ?_
        refine lv_aload_n hC.1 hC.2.1 dX8_part_92 rfl (lv_at hl 1 rfl) <| gfX8_7 hC hK hP (q0 := 0) rfl rfl dX8_part_93 <| zsipush hC.1 hC.2.1 dX8_part_96 (by decide) <| ziload hC.1 hC.2.1 dX8_part_99 (lv_at hl 0 rfl) <| ziadd hC.1 hC.2.1 dX8_part_101 <| ?_
        obtain ⟨hz_10, hf⟩ := ck_some hf
        refine jal hC hK hP (q0 := 1) rfl (Nat.le_of_ble_eq_true rfl) hz_10 rfl dX8_part_102 <| ?_
        have hf := Option.some.inj hf
        simp only [Prod.mk.injEq] at hf
        exact hret (Int32.ofInt (V_6 0 (593 + r_7).toNat)) _ _ _ _ (congrArg (fun z => some (vI z)) hf.1.symm) (by rw [← hf.2]; exact hP) hS dX8_part_103
      have hf := it_f hf hc
      have hc1 := hc
      by_cases hc : x3 = 2
      · have hf := it_t hf hc
        refine ztsIn (k := 2) (tgt := 104) hC.1 hC.2.1 dX8_part_45 hc (by decide) rfl (by decide) ?_
        refine lv_aload_n hC.1 hC.2.1 dX8_part_104 rfl (lv_at hl 1 rfl) <| ziload hC.1 hC.2.1 dX8_part_105 (lv_at hl 0 rfl) <| ?_
        obtain ⟨r_11, hu, hf⟩ := bd_some hf
        refine zcVP (As := [vI r_7]) (rest := []) hC hK (met_X8_leftOf l D kA a V_6 r_7 hu) zwX8_86 hP (q0 := 0) rfl rfl rfl rfl hl.1 rfl (Nat.le_of_ble_eq_true rfl) ⟨Nat.le_of_ble_eq_true rfl, Nat.le_of_ble_eq_true rfl⟩ ⟨rfl, rfl⟩ ⟨Nat.le_refl _, Nat.le_refl _⟩ dX8_part_107 <| ?_
        have hf := Option.some.inj hf
        simp only [Prod.mk.injEq] at hf
        exact hret (Int32.ofInt r_11) _ _ _ _ (congrArg (fun z => some (vI z)) hf.1.symm) (by rw [← hf.2]; exact hP) hS dX8_part_110
      have hf := it_f hf hc
      have hc2 := hc
      by_cases hc : x3 = 3
      · have hf := it_t hf hc
        refine ztsIn (k := 3) (tgt := 111) hC.1 hC.2.1 dX8_part_45 hc (by decide) rfl (by decide) ?_
        refine lv_aload_n hC.1 hC.2.1 dX8_part_111 rfl (lv_at hl 1 rfl) <| gfX8_40 hC hK hP (q0 := 0) rfl rfl dX8_part_112 <| ziload hC.1 hC.2.1 dX8_part_115 (lv_at hl 0 rfl) <| ?_
        obtain ⟨hz_12, hf⟩ := ck_some hf
        refine jal hC hK hP (q0 := 11) rfl (Nat.le_of_ble_eq_true rfl) hz_12 rfl dX8_part_117 <| ?_
        have hf := Option.some.inj hf
        simp only [Prod.mk.injEq] at hf
        exact hret (Int32.ofInt (V_6 13 r_7.toNat)) _ _ _ _ (congrArg (fun z => some (vI z)) hf.1.symm) (by rw [← hf.2]; exact hP) hS dX8_part_118
      have hf := it_f hf hc
      have hc3 := hc
      by_cases hc : x3 = 4
      · have hf := it_t hf hc
        refine ztsIn (k := 4) (tgt := 119) hC.1 hC.2.1 dX8_part_45 hc (by decide) rfl (by decide) ?_
        refine lv_aload_n hC.1 hC.2.1 dX8_part_119 rfl (lv_at hl 1 rfl) <| gfX8_37 hC hK hP (q0 := 0) rfl rfl dX8_part_120 <| ziload hC.1 hC.2.1 dX8_part_123 (lv_at hl 0 rfl) <| ?_
        obtain ⟨hz_13, hf⟩ := ck_some hf
        refine jal hC hK hP (q0 := 10) rfl (Nat.le_of_ble_eq_true rfl) hz_13 rfl dX8_part_125 <| ?_
        have hf := Option.some.inj hf
        simp only [Prod.mk.injEq] at hf
        exact hret (Int32.ofInt (V_6 12 r_7.toNat)) _ _ _ _ (congrArg (fun z => some (vI z)) hf.1.symm) (by rw [← hf.2]; exact hP) hS dX8_part_126
      have hf := it_f hf hc
      have hc4 := hc
      refine ztsOut (tgt := 127) hC.1 hC.2.1 hz_8 dX8_part_45 (by decide) (by omega) ?_
      refine lv_aload_n hC.1 hC.2.1 dX8_part_127 rfl (lv_at hl 1 rfl) <| gfX8_7 hC hK hP (q0 := 0) rfl rfl dX8_part_128 <| zsipush hC.1 hC.2.1 dX8_part_131 (by decide) <| ziload hC.1 hC.2.1 dX8_part_134 (lv_at hl 0 rfl) <| ziadd hC.1 hC.2.1 dX8_part_136 <| ?_
      obtain ⟨hz_14, hf⟩ := ck_some hf
      refine jal hC hK hP (q0 := 1) rfl (Nat.le_of_ble_eq_true rfl) hz_14 rfl dX8_part_137 <| ?_
      have hf := Option.some.inj hf
      simp only [Prod.mk.injEq] at hf
      exact hret (Int32.ofInt (V_6 0 (953 + r_7).toNat)) _ _ _ _ (congrArg (fun z => some (vI z)) hf.1.symm) (by rw [← hf.2]; exact hP) hS dX8_part_138
    · have hf := it_f hf hc
      refine ziconst hC.1 hC.2.1 dX8_part_31 <| ?_
      have hf := Option.some.inj hf
      simp only [Prod.mk.injEq] at hf
      exact hret (Int32.ofInt 0) _ _ _ _ (congrArg (fun z => some (vI z)) hf.1.symm) (by rw [← hf.2]; exact hP) hS dX8_part_32
  refine lv_aload_n hC.1 hC.2.1 dX8_part_0 rfl (lv_at hl 0 rfl) <| ziload_n hC.1 hC.2.1 dX8_part_1 rfl (lv_at hl 1 rfl) <| ziload_n hC.1 hC.2.1 dX8_part_2 rfl (lv_at hl 2 rfl) <| ?_
  obtain ⟨⟨r_1, V_2⟩, hu, hf⟩ := bd_some hf
  have hDc := hDt
  refine zcVZ (As := [vI x1, vI x2]) (rest := []) hC hK (met_X8_noPart l D kA a V0 x1 x2 hDc hu) zwX8_281 hS (zFsub (hD V0) [0, 1, 2, 3, 4, 5, 6, 7, 8, 9, 10, 11, 12, 13, 14, 15, 16] rfl) hP (q0 := 0) rfl rfl rfl rfl hl.1 rfl (Nat.le_of_ble_eq_true rfl) ⟨Nat.le_of_ble_eq_true rfl, Nat.le_of_ble_eq_true rfl⟩ ⟨rfl, rfl⟩ ⟨Nat.le_refl _, Nat.le_refl _⟩ dX8_part_3 (fun H locs hP1 hk1 hS => ?_)
  have hP : va_P D vwCl (cs_X8 kA a V_2) H := hP1
  refine zifb_ne (tgt := 31) hC.1 hC.2.1 dX8_part_6 (by decide) (fun hc => ?_) (fun hc => ?_)
  · have hf := it_t hf hc
    refine ziconst hC.1 hC.2.1 dX8_part_31 <| ?_
    have hf := Option.some.inj hf
    simp only [Prod.mk.injEq] at hf
    exact hret (Int32.ofInt 0) _ _ _ _ (congrArg (fun z => some (vI z)) hf.1.symm) (by rw [← hf.2]; exact hP) hS dX8_part_32
  · have hf := it_f hf hc
    refine lv_aload_n hC.1 hC.2.1 dX8_part_9 rfl (lv_at hl 0 rfl) <| ziload_n hC.1 hC.2.1 dX8_part_10 rfl (lv_at hl 3 rfl) <| ziconst hC.1 hC.2.1 dX8_part_11 <| ziconst hC.1 hC.2.1 dX8_part_12 <| ?_
    obtain ⟨r_3, hu, hf⟩ := bd_some hf
    have hPc : va_P D vwCl ([] : va_W) _ := hP.sub [] rfl
    refine zcSP (As := [vI x3, vI 0, vI 5]) (rest := [.ref (a 0)]) hC hK (met_X8_inRange l D kA x3 0 5 hu) zwX8_79 hPc rfl hl.1 rfl (Nat.le_of_ble_eq_true rfl) ⟨Nat.le_of_ble_eq_true rfl, Nat.le_of_ble_eq_true rfl⟩ ⟨rfl, rfl⟩ ⟨Nat.le_refl _, Nat.le_refl _⟩ dX8_part_13 <| zifb_ne (tgt := 23) hC.1 hC.2.1 dX8_part_16 (by decide) (fun hc => ?_) (fun hc => ?_)
    · have hf := it_t hf hc
      exact ziconst hC.1 hC.2.1 dX8_part_23 <| J24 _ _ _ _ _ hf hP hS (lv_sub hl [0, 1, 2, 3] rfl)
    · have hf := it_f hf hc
      exact ziconst hC.1 hC.2.1 dX8_part_19 <| lv_goto (tgt := 24) hC.1 hC.2.1 dX8_part_20 (by decide) <| J24 _ _ _ _ _ hf hP hS (lv_sub hl [0, 1, 2, 3] rfl)
theorem DX8_reasonOf_0 : ∀ q ∈ ([(0, .aload_n 0, 1), (1, .getfield 37, 3), (4, .iload_n 1, 1), (5, .iaload, 1), (6, .aload_n 0, 1), (7, .iload_n 1, 1), (8, .invokevirtual 97, 3), (11, .if_icmp .ne 14, 3), (14, .aload_n 0, 1), (15, .getfield 37, 3), (18, .iload_n 1, 1), (19, .iaload, 1), (20, .ifCond .eq 5, 3), (23, .iconst 0, 1), (24, .ireturn, 1), (25, .aload_n 0, 1), (26, .iload_n 1, 1), (27, .invokevirtual 86, 3), (30, .ifCond .ne 5, 3), (33, .iconst 1, 1), (34, .ireturn, 1), (35, .aload_n 0, 1), (36, .iload_n 1, 1), (37, .invokestatic 75, 3), (40, .invokevirtual 89, 3), (43, .ifCond .eq 5, 3), (46, .iconst 2, 1), (47, .ireturn, 1), (48, .aload_n 0, 1), (49, .aload_n 0, 1), (50, .getfield 7, 3), (53, .sipush 413, 3), (56, .iload_n 1, 1), (57, .iadd, 1), (58, .iaload, 1), (59, .aload_n 0, 1), (60, .iload_n 1, 1), (61, .invokevirtual 83, 3), (64, .invokevirtual 93, 3), (67, .ifCond .ne 5, 3)] : List (Nat × Instr × Nat)), decode cX8_reasonOf q.1 = .ok q.2 := by decide +kernel
theorem dX8_reasonOf_0 : decode cX8_reasonOf 0 = .ok (.aload_n 0, 1) := DX8_reasonOf_0 (0, .aload_n 0, 1) (List.mem_of_getElem? (i := 0) rfl)
theorem dX8_reasonOf_1 : decode cX8_reasonOf 1 = .ok (.getfield 37, 3) := DX8_reasonOf_0 (1, .getfield 37, 3) (List.mem_of_getElem? (i := 1) rfl)
theorem dX8_reasonOf_4 : decode cX8_reasonOf 4 = .ok (.iload_n 1, 1) := DX8_reasonOf_0 (4, .iload_n 1, 1) (List.mem_of_getElem? (i := 2) rfl)
theorem dX8_reasonOf_5 : decode cX8_reasonOf 5 = .ok (.iaload, 1) := DX8_reasonOf_0 (5, .iaload, 1) (List.mem_of_getElem? (i := 3) rfl)
theorem dX8_reasonOf_6 : decode cX8_reasonOf 6 = .ok (.aload_n 0, 1) := DX8_reasonOf_0 (6, .aload_n 0, 1) (List.mem_of_getElem? (i := 4) rfl)
theorem dX8_reasonOf_7 : decode cX8_reasonOf 7 = .ok (.iload_n 1, 1) := DX8_reasonOf_0 (7, .iload_n 1, 1) (List.mem_of_getElem? (i := 5) rfl)
theorem dX8_reasonOf_8 : decode cX8_reasonOf 8 = .ok (.invokevirtual 97, 3) := DX8_reasonOf_0 (8, .invokevirtual 97, 3) (List.mem_of_getElem? (i := 6) rfl)
theorem dX8_reasonOf_11 : decode cX8_reasonOf 11 = .ok (.if_icmp .ne 14, 3) := DX8_reasonOf_0 (11, .if_icmp .ne 14, 3) (List.mem_of_getElem? (i := 7) rfl)
theorem dX8_reasonOf_14 : decode cX8_reasonOf 14 = .ok (.aload_n 0, 1) := DX8_reasonOf_0 (14, .aload_n 0, 1) (List.mem_of_getElem? (i := 8) rfl)
theorem dX8_reasonOf_15 : decode cX8_reasonOf 15 = .ok (.getfield 37, 3) := DX8_reasonOf_0 (15, .getfield 37, 3) (List.mem_of_getElem? (i := 9) rfl)
theorem dX8_reasonOf_18 : decode cX8_reasonOf 18 = .ok (.iload_n 1, 1) := DX8_reasonOf_0 (18, .iload_n 1, 1) (List.mem_of_getElem? (i := 10) rfl)
theorem dX8_reasonOf_19 : decode cX8_reasonOf 19 = .ok (.iaload, 1) := DX8_reasonOf_0 (19, .iaload, 1) (List.mem_of_getElem? (i := 11) rfl)
theorem dX8_reasonOf_20 : decode cX8_reasonOf 20 = .ok (.ifCond .eq 5, 3) := DX8_reasonOf_0 (20, .ifCond .eq 5, 3) (List.mem_of_getElem? (i := 12) rfl)
theorem dX8_reasonOf_23 : decode cX8_reasonOf 23 = .ok (.iconst 0, 1) := DX8_reasonOf_0 (23, .iconst 0, 1) (List.mem_of_getElem? (i := 13) rfl)
theorem dX8_reasonOf_24 : decode cX8_reasonOf 24 = .ok (.ireturn, 1) := DX8_reasonOf_0 (24, .ireturn, 1) (List.mem_of_getElem? (i := 14) rfl)
theorem dX8_reasonOf_25 : decode cX8_reasonOf 25 = .ok (.aload_n 0, 1) := DX8_reasonOf_0 (25, .aload_n 0, 1) (List.mem_of_getElem? (i := 15) rfl)
theorem dX8_reasonOf_26 : decode cX8_reasonOf 26 = .ok (.iload_n 1, 1) := DX8_reasonOf_0 (26, .iload_n 1, 1) (List.mem_of_getElem? (i := 16) rfl)
theorem dX8_reasonOf_27 : decode cX8_reasonOf 27 = .ok (.invokevirtual 86, 3) := DX8_reasonOf_0 (27, .invokevirtual 86, 3) (List.mem_of_getElem? (i := 17) rfl)
theorem dX8_reasonOf_30 : decode cX8_reasonOf 30 = .ok (.ifCond .ne 5, 3) := DX8_reasonOf_0 (30, .ifCond .ne 5, 3) (List.mem_of_getElem? (i := 18) rfl)
theorem dX8_reasonOf_33 : decode cX8_reasonOf 33 = .ok (.iconst 1, 1) := DX8_reasonOf_0 (33, .iconst 1, 1) (List.mem_of_getElem? (i := 19) rfl)
theorem dX8_reasonOf_34 : decode cX8_reasonOf 34 = .ok (.ireturn, 1) := DX8_reasonOf_0 (34, .ireturn, 1) (List.mem_of_getElem? (i := 20) rfl)
theorem dX8_reasonOf_35 : decode cX8_reasonOf 35 = .ok (.aload_n 0, 1) := DX8_reasonOf_0 (35, .aload_n 0, 1) (List.mem_of_getElem? (i := 21) rfl)
theorem dX8_reasonOf_36 : decode cX8_reasonOf 36 = .ok (.iload_n 1, 1) := DX8_reasonOf_0 (36, .iload_n 1, 1) (List.mem_of_getElem? (i := 22) rfl)
theorem dX8_reasonOf_37 : decode cX8_reasonOf 37 = .ok (.invokestatic 75, 3) := DX8_reasonOf_0 (37, .invokestatic 75, 3) (List.mem_of_getElem? (i := 23) rfl)
theorem dX8_reasonOf_40 : decode cX8_reasonOf 40 = .ok (.invokevirtual 89, 3) := DX8_reasonOf_0 (40, .invokevirtual 89, 3) (List.mem_of_getElem? (i := 24) rfl)
theorem dX8_reasonOf_43 : decode cX8_reasonOf 43 = .ok (.ifCond .eq 5, 3) := DX8_reasonOf_0 (43, .ifCond .eq 5, 3) (List.mem_of_getElem? (i := 25) rfl)
theorem dX8_reasonOf_46 : decode cX8_reasonOf 46 = .ok (.iconst 2, 1) := DX8_reasonOf_0 (46, .iconst 2, 1) (List.mem_of_getElem? (i := 26) rfl)
theorem dX8_reasonOf_47 : decode cX8_reasonOf 47 = .ok (.ireturn, 1) := DX8_reasonOf_0 (47, .ireturn, 1) (List.mem_of_getElem? (i := 27) rfl)
theorem dX8_reasonOf_48 : decode cX8_reasonOf 48 = .ok (.aload_n 0, 1) := DX8_reasonOf_0 (48, .aload_n 0, 1) (List.mem_of_getElem? (i := 28) rfl)
theorem dX8_reasonOf_49 : decode cX8_reasonOf 49 = .ok (.aload_n 0, 1) := DX8_reasonOf_0 (49, .aload_n 0, 1) (List.mem_of_getElem? (i := 29) rfl)
theorem dX8_reasonOf_50 : decode cX8_reasonOf 50 = .ok (.getfield 7, 3) := DX8_reasonOf_0 (50, .getfield 7, 3) (List.mem_of_getElem? (i := 30) rfl)
theorem dX8_reasonOf_53 : decode cX8_reasonOf 53 = .ok (.sipush 413, 3) := DX8_reasonOf_0 (53, .sipush 413, 3) (List.mem_of_getElem? (i := 31) rfl)
theorem dX8_reasonOf_56 : decode cX8_reasonOf 56 = .ok (.iload_n 1, 1) := DX8_reasonOf_0 (56, .iload_n 1, 1) (List.mem_of_getElem? (i := 32) rfl)
theorem dX8_reasonOf_57 : decode cX8_reasonOf 57 = .ok (.iadd, 1) := DX8_reasonOf_0 (57, .iadd, 1) (List.mem_of_getElem? (i := 33) rfl)
theorem dX8_reasonOf_58 : decode cX8_reasonOf 58 = .ok (.iaload, 1) := DX8_reasonOf_0 (58, .iaload, 1) (List.mem_of_getElem? (i := 34) rfl)
theorem dX8_reasonOf_59 : decode cX8_reasonOf 59 = .ok (.aload_n 0, 1) := DX8_reasonOf_0 (59, .aload_n 0, 1) (List.mem_of_getElem? (i := 35) rfl)
theorem dX8_reasonOf_60 : decode cX8_reasonOf 60 = .ok (.iload_n 1, 1) := DX8_reasonOf_0 (60, .iload_n 1, 1) (List.mem_of_getElem? (i := 36) rfl)
theorem dX8_reasonOf_61 : decode cX8_reasonOf 61 = .ok (.invokevirtual 83, 3) := DX8_reasonOf_0 (61, .invokevirtual 83, 3) (List.mem_of_getElem? (i := 37) rfl)
theorem dX8_reasonOf_64 : decode cX8_reasonOf 64 = .ok (.invokevirtual 93, 3) := DX8_reasonOf_0 (64, .invokevirtual 93, 3) (List.mem_of_getElem? (i := 38) rfl)
theorem dX8_reasonOf_67 : decode cX8_reasonOf 67 = .ok (.ifCond .ne 5, 3) := DX8_reasonOf_0 (67, .ifCond .ne 5, 3) (List.mem_of_getElem? (i := 39) rfl)
theorem DX8_reasonOf_1 : ∀ q ∈ ([(70, .iconst 3, 1), (71, .ireturn, 1), (72, .aload_n 0, 1), (73, .getfield 40, 3), (76, .iload_n 1, 1), (77, .iaload, 1), (78, .ifCond .ne 7, 3), (81, .iconst 4, 1), (82, .goto 4, 3), (85, .iconst 5, 1), (86, .ireturn, 1)] : List (Nat × Instr × Nat)), decode cX8_reasonOf q.1 = .ok q.2 := by decide +kernel
theorem dX8_reasonOf_70 : decode cX8_reasonOf 70 = .ok (.iconst 3, 1) := DX8_reasonOf_1 (70, .iconst 3, 1) (List.mem_of_getElem? (i := 0) rfl)
theorem dX8_reasonOf_71 : decode cX8_reasonOf 71 = .ok (.ireturn, 1) := DX8_reasonOf_1 (71, .ireturn, 1) (List.mem_of_getElem? (i := 1) rfl)
theorem dX8_reasonOf_72 : decode cX8_reasonOf 72 = .ok (.aload_n 0, 1) := DX8_reasonOf_1 (72, .aload_n 0, 1) (List.mem_of_getElem? (i := 2) rfl)
theorem dX8_reasonOf_73 : decode cX8_reasonOf 73 = .ok (.getfield 40, 3) := DX8_reasonOf_1 (73, .getfield 40, 3) (List.mem_of_getElem? (i := 3) rfl)
theorem dX8_reasonOf_76 : decode cX8_reasonOf 76 = .ok (.iload_n 1, 1) := DX8_reasonOf_1 (76, .iload_n 1, 1) (List.mem_of_getElem? (i := 4) rfl)
theorem dX8_reasonOf_77 : decode cX8_reasonOf 77 = .ok (.iaload, 1) := DX8_reasonOf_1 (77, .iaload, 1) (List.mem_of_getElem? (i := 5) rfl)
theorem dX8_reasonOf_78 : decode cX8_reasonOf 78 = .ok (.ifCond .ne 7, 3) := DX8_reasonOf_1 (78, .ifCond .ne 7, 3) (List.mem_of_getElem? (i := 6) rfl)
theorem dX8_reasonOf_81 : decode cX8_reasonOf 81 = .ok (.iconst 4, 1) := DX8_reasonOf_1 (81, .iconst 4, 1) (List.mem_of_getElem? (i := 7) rfl)
theorem dX8_reasonOf_82 : decode cX8_reasonOf 82 = .ok (.goto 4, 3) := DX8_reasonOf_1 (82, .goto 4, 3) (List.mem_of_getElem? (i := 8) rfl)
theorem dX8_reasonOf_85 : decode cX8_reasonOf 85 = .ok (.iconst 5, 1) := DX8_reasonOf_1 (85, .iconst 5, 1) (List.mem_of_getElem? (i := 9) rfl)
theorem dX8_reasonOf_86 : decode cX8_reasonOf 86 = .ok (.ireturn, 1) := DX8_reasonOf_1 (86, .ireturn, 1) (List.mem_of_getElem? (i := 10) rfl)
abbrev rmX8_reasonOf : Room := { frames := 2, cells := 0, slots := 0, locals := 45 }
set_option maxHeartbeats 400000 in
set_option maxRecDepth 100000 in
theorem met_X8_reasonOf (l : Launch) (D : va_G) (kA : Nat → ClassId) (a : Nat → Nat) (n : Nat) (V : Sz) (x1 : Int) {r : Int} (hf : f_X8_reasonOf n V x1 = some r) : MP l yX8_reasonOf cX8_reasonOf 2 (some .int) rmX8_reasonOf D kA [.ref (a 0), vI x1] (cs_X8 kA a V) (some (vI r)) := by
  refine zPI (own := RX8) rfl rfl (Nat.le_of_ble_eq_true rfl) ?_
  intro p e s m args below meth c ls Q hC hK hP hl hret
  have hl : lv_has ls 2 [(0, .ref (a 0)), (1, vI x1)] := hl
  unfold f_X8_reasonOf at hf
  have J25 : ∀ (ls : Array Slot), jX8_reasonOf_25 n V x1 = some r → lv_has ls 2 [(0, .ref (a 0)), (1, vI x1)] → W p l e rmX8_reasonOf s m args below meth c s.heap [] 0 0 Q (F0 m 25 ls []) := by
    intro  ls hf hl
    unfold jX8_reasonOf_25 at hf
    refine lv_aload_n hC.1 hC.2.1 dX8_reasonOf_25 rfl (lv_at hl 0 rfl) <| ziload_n hC.1 hC.2.1 dX8_reasonOf_26 rfl (lv_at hl 1 rfl) <| ?_
    obtain ⟨r_4, hu, hf⟩ := bd_some hf
    refine zcVP (As := [vI x1]) (rest := []) hC hK (met_X8_leftOf l D kA a V x1 hu) zwX8_86 hP (q0 := 0) rfl rfl rfl rfl hl.1 rfl (Nat.le_of_ble_eq_true rfl) ⟨Nat.le_of_ble_eq_true rfl, Nat.le_of_ble_eq_true rfl⟩ ⟨rfl, rfl⟩ ⟨Nat.le_refl _, Nat.le_refl _⟩ dX8_reasonOf_27 <| ?_
    obtain ⟨hz_5, hf⟩ := ck_some hf
    refine zif_ne (tgt := 35) hC.1 hC.2.1 hz_5 dX8_reasonOf_30 (by decide) (fun hc => ?_) (fun hc => ?_)
    · have hf := it_f hf hc
      refine lv_aload_n hC.1 hC.2.1 dX8_reasonOf_35 rfl (lv_at hl 0 rfl) <| ziload_n hC.1 hC.2.1 dX8_reasonOf_36 rfl (lv_at hl 1 rfl) <| ?_
      obtain ⟨r_6, hu, hf⟩ := bd_some hf
      have hPc : va_P D vwCl ([] : va_W) _ := hP.sub [] rfl
      refine zcSP (As := [vI x1]) (rest := [.ref (a 0)]) hC hK (met_X8_giftOf l D kA x1 hu) zwX8_75 hPc rfl hl.1 rfl (Nat.le_of_ble_eq_true rfl) ⟨Nat.le_of_ble_eq_true rfl, Nat.le_of_ble_eq_true rfl⟩ ⟨rfl, rfl⟩ ⟨Nat.le_refl _, Nat.le_refl _⟩ dX8_reasonOf_37 <| ?_
      obtain ⟨r_7, hu, hf⟩ := bd_some hf
      refine zcVP (As := [vI r_6]) (rest := []) hC hK (met_X8_isSpoilt l D kA a V r_6 hu) zwX8_89 hP (q0 := 0) rfl rfl rfl rfl hl.1 rfl (Nat.le_of_ble_eq_true rfl) ⟨Nat.le_of_ble_eq_true rfl, Nat.le_of_ble_eq_true rfl⟩ ⟨rfl, rfl⟩ ⟨Nat.le_refl _, Nat.le_refl _⟩ dX8_reasonOf_40 <| zifb_eq (tgt := 48) hC.1 hC.2.1 dX8_reasonOf_43 (by decide) (fun hc => ?_) (fun hc => ?_)
      · have hf := it_t hf hc
        refine lv_aload_n hC.1 hC.2.1 dX8_reasonOf_48 rfl (lv_at hl 0 rfl) <| lv_aload_n hC.1 hC.2.1 dX8_reasonOf_49 rfl (lv_at hl 0 rfl) <| gfX8_7 hC hK hP (q0 := 0) rfl rfl dX8_reasonOf_50 <| zsipush hC.1 hC.2.1 dX8_reasonOf_53 (by decide) <| ziload_n hC.1 hC.2.1 dX8_reasonOf_56 rfl (lv_at hl 1 rfl) <| ziadd hC.1 hC.2.1 dX8_reasonOf_57 <| ?_
        obtain ⟨hz_8, hf⟩ := ck_some hf
        refine jal hC hK hP (q0 := 1) rfl (Nat.le_of_ble_eq_true rfl) hz_8 rfl dX8_reasonOf_58 <| lv_aload_n hC.1 hC.2.1 dX8_reasonOf_59 rfl (lv_at hl 0 rfl) <| ziload_n hC.1 hC.2.1 dX8_reasonOf_60 rfl (lv_at hl 1 rfl) <| ?_
        obtain ⟨r_9, hu, hf⟩ := bd_some hf
        refine zcVP (As := [vI x1]) (rest := [vI (V 0 (413 + x1).toNat), .ref (a 0)]) hC hK (met_X8_dayOf l D kA a V x1 hu) zwX8_83 hP (q0 := 0) rfl rfl rfl rfl hl.1 rfl (Nat.le_of_ble_eq_true rfl) ⟨Nat.le_of_ble_eq_true rfl, Nat.le_of_ble_eq_true rfl⟩ ⟨rfl, rfl⟩ ⟨Nat.le_refl _, Nat.le_refl _⟩ dX8_reasonOf_61 <| ?_
        obtain ⟨r_10, hu, hf⟩ := bd_some hf
        refine zcVP (As := [vI (V 0 (413 + x1).toNat), vI r_9]) (rest := []) hC hK (met_X8_isForced l D kA a n V (V 0 (413 + x1).toNat) r_9 hu) zwX8_93 hP (q0 := 0) rfl rfl rfl rfl hl.1 rfl (Nat.le_of_ble_eq_true rfl) ⟨Nat.le_of_ble_eq_true rfl, Nat.le_of_ble_eq_true rfl⟩ ⟨rfl, rfl⟩ ⟨Nat.le_refl _, Nat.le_refl _⟩ dX8_reasonOf_64 <| zifb_ne (tgt := 72) hC.1 hC.2.1 dX8_reasonOf_67 (by decide) (fun hc => ?_) (fun hc => ?_)
        · have hf := it_t hf hc
          refine lv_aload_n hC.1 hC.2.1 dX8_reasonOf_72 rfl (lv_at hl 0 rfl) <| gfX8_40 hC hK hP (q0 := 0) rfl rfl dX8_reasonOf_73 <| ziload_n hC.1 hC.2.1 dX8_reasonOf_76 rfl (lv_at hl 1 rfl) <| ?_
          obtain ⟨hz_11, hf⟩ := ck_some hf
          refine jal hC hK hP (q0 := 11) rfl (Nat.le_of_ble_eq_true rfl) hz_11 rfl dX8_reasonOf_77 <| ?_
          obtain ⟨hz_12, hf⟩ := ck_some hf
          refine zif_ne (tgt := 85) hC.1 hC.2.1 hz_12 dX8_reasonOf_78 (by decide) (fun hc => ?_) (fun hc => ?_)
          · have hf := it_f hf hc
            exact ziconst hC.1 hC.2.1 dX8_reasonOf_85 <| hret (Int32.ofInt 5) _ _ (qI hf) dX8_reasonOf_86
          · have hf := it_t hf hc
            exact ziconst hC.1 hC.2.1 dX8_reasonOf_81 <| lv_goto (tgt := 86) hC.1 hC.2.1 dX8_reasonOf_82 (by decide) <| hret (Int32.ofInt 4) _ _ (qI hf) dX8_reasonOf_86
        · have hf := it_f hf hc
          exact ziconst hC.1 hC.2.1 dX8_reasonOf_70 <| hret (Int32.ofInt 3) _ _ (qI hf) dX8_reasonOf_71
      · have hf := it_f hf hc
        exact ziconst hC.1 hC.2.1 dX8_reasonOf_46 <| hret (Int32.ofInt 2) _ _ (qI hf) dX8_reasonOf_47
    · have hf := it_t hf hc
      exact ziconst hC.1 hC.2.1 dX8_reasonOf_33 <| hret (Int32.ofInt 1) _ _ (qI hf) dX8_reasonOf_34
  refine lv_aload_n hC.1 hC.2.1 dX8_reasonOf_0 rfl (lv_at hl 0 rfl) <| gfX8_37 hC hK hP (q0 := 0) rfl rfl dX8_reasonOf_1 <| ziload_n hC.1 hC.2.1 dX8_reasonOf_4 rfl (lv_at hl 1 rfl) <| ?_
  obtain ⟨hz_1, hf⟩ := ck_some hf
  refine jal hC hK hP (q0 := 10) rfl (Nat.le_of_ble_eq_true rfl) hz_1 rfl dX8_reasonOf_5 <| lv_aload_n hC.1 hC.2.1 dX8_reasonOf_6 rfl (lv_at hl 0 rfl) <| ziload_n hC.1 hC.2.1 dX8_reasonOf_7 rfl (lv_at hl 1 rfl) <| ?_
  obtain ⟨r_2, hu, hf⟩ := bd_some hf
  refine zcVP (As := [vI x1]) (rest := [vI (V 12 x1.toNat)]) hC hK (met_X8_full l D kA a V x1 hu) zwX8_97 hP (q0 := 0) rfl rfl rfl rfl hl.1 rfl (Nat.le_of_ble_eq_true rfl) ⟨Nat.le_of_ble_eq_true rfl, Nat.le_of_ble_eq_true rfl⟩ ⟨rfl, rfl⟩ ⟨Nat.le_refl _, Nat.le_refl _⟩ dX8_reasonOf_8 <| ?_
  obtain ⟨hz_3, hf⟩ := ck_some hf
  refine zicmp_ne (tgt := 25) hC.1 hC.2.1 ⟨hz_3.1, hz_3.2⟩ dX8_reasonOf_11 (by decide) (fun hc => ?_) (fun hc => ?_)
  · have hf := it_f hf hc
    exact J25 _ hf (lv_sub hl [0, 1] rfl)
  · have hf := it_t hf hc
    refine lv_aload_n hC.1 hC.2.1 dX8_reasonOf_14 rfl (lv_at hl 0 rfl) <| gfX8_37 hC hK hP (q0 := 0) rfl rfl dX8_reasonOf_15 <| ziload_n hC.1 hC.2.1 dX8_reasonOf_18 rfl (lv_at hl 1 rfl) <| jal hC hK hP (q0 := 10) rfl (Nat.le_of_ble_eq_true rfl) hz_1 rfl dX8_reasonOf_19 <| zif_eq (tgt := 25) hC.1 hC.2.1 hz_3.1 dX8_reasonOf_20 (by decide) (fun hc => ?_) (fun hc => ?_)
    · have hf := it_t hf hc
      exact J25 _ hf (lv_sub hl [0, 1] rfl)
    · have hf := it_f hf hc
      exact ziconst hC.1 hC.2.1 dX8_reasonOf_23 <| hret (Int32.ofInt 0) _ _ (qI hf) dX8_reasonOf_24
theorem DX8_reason_0 : ∀ q ∈ ([(0, .aload_n 0, 1), (1, .iload_n 1, 1), (2, .iload_n 2, 1), (3, .invokevirtual 281, 3), (6, .ifCond .eq 5, 3), (9, .iconst 0, 1), (10, .ireturn, 1), (11, .aload_n 0, 1), (12, .invokevirtual 121, 3), (15, .aload_n 0, 1), (16, .iload_n 1, 1), (17, .iload_n 2, 1), (18, .invokestatic 103, 3), (21, .invokevirtual 284, 3), (24, .ireturn, 1)] : List (Nat × Instr × Nat)), decode cX8_reason q.1 = .ok q.2 := by decide +kernel
theorem dX8_reason_0 : decode cX8_reason 0 = .ok (.aload_n 0, 1) := DX8_reason_0 (0, .aload_n 0, 1) (List.mem_of_getElem? (i := 0) rfl)
theorem dX8_reason_1 : decode cX8_reason 1 = .ok (.iload_n 1, 1) := DX8_reason_0 (1, .iload_n 1, 1) (List.mem_of_getElem? (i := 1) rfl)
theorem dX8_reason_2 : decode cX8_reason 2 = .ok (.iload_n 2, 1) := DX8_reason_0 (2, .iload_n 2, 1) (List.mem_of_getElem? (i := 2) rfl)
theorem dX8_reason_3 : decode cX8_reason 3 = .ok (.invokevirtual 281, 3) := DX8_reason_0 (3, .invokevirtual 281, 3) (List.mem_of_getElem? (i := 3) rfl)
theorem dX8_reason_6 : decode cX8_reason 6 = .ok (.ifCond .eq 5, 3) := DX8_reason_0 (6, .ifCond .eq 5, 3) (List.mem_of_getElem? (i := 4) rfl)
theorem dX8_reason_9 : decode cX8_reason 9 = .ok (.iconst 0, 1) := DX8_reason_0 (9, .iconst 0, 1) (List.mem_of_getElem? (i := 5) rfl)
theorem dX8_reason_10 : decode cX8_reason 10 = .ok (.ireturn, 1) := DX8_reason_0 (10, .ireturn, 1) (List.mem_of_getElem? (i := 6) rfl)
theorem dX8_reason_11 : decode cX8_reason 11 = .ok (.aload_n 0, 1) := DX8_reason_0 (11, .aload_n 0, 1) (List.mem_of_getElem? (i := 7) rfl)
theorem dX8_reason_12 : decode cX8_reason 12 = .ok (.invokevirtual 121, 3) := DX8_reason_0 (12, .invokevirtual 121, 3) (List.mem_of_getElem? (i := 8) rfl)
theorem dX8_reason_15 : decode cX8_reason 15 = .ok (.aload_n 0, 1) := DX8_reason_0 (15, .aload_n 0, 1) (List.mem_of_getElem? (i := 9) rfl)
theorem dX8_reason_16 : decode cX8_reason 16 = .ok (.iload_n 1, 1) := DX8_reason_0 (16, .iload_n 1, 1) (List.mem_of_getElem? (i := 10) rfl)
theorem dX8_reason_17 : decode cX8_reason 17 = .ok (.iload_n 2, 1) := DX8_reason_0 (17, .iload_n 2, 1) (List.mem_of_getElem? (i := 11) rfl)
theorem dX8_reason_18 : decode cX8_reason 18 = .ok (.invokestatic 103, 3) := DX8_reason_0 (18, .invokestatic 103, 3) (List.mem_of_getElem? (i := 12) rfl)
theorem dX8_reason_21 : decode cX8_reason 21 = .ok (.invokevirtual 284, 3) := DX8_reason_0 (21, .invokevirtual 284, 3) (List.mem_of_getElem? (i := 13) rfl)
theorem dX8_reason_24 : decode cX8_reason 24 = .ok (.ireturn, 1) := DX8_reason_0 (24, .ireturn, 1) (List.mem_of_getElem? (i := 14) rfl)
abbrev rmX8_reason : Room := { frames := 4, cells := 0, slots := 0, locals := 90 }
set_option maxHeartbeats 400000 in
set_option maxRecDepth 100000 in
theorem met_X8_reason (l : Launch) (D : va_G) (kA : Nat → ClassId) (a : Nat → Nat) (n : Nat) (V0 : Sz) (x1 : Int) (x2 : Int) (hDt : ∀ w : Sz, va_D (fun _ => True) (cs_X8 kA a w)) {r : Int} {Vr : Sz} (hf : f_X8_reason n V0 x1 x2 = some (r, Vr)) : MZ l yX8_reason cX8_reason 3 (some .int) rmX8_reason D kA [.ref (a 0), vI x1, vI x2] (cs_X8 kA a V0) (cs_X8 kA a Vr) (some (vI r)) := by
  refine zZI (own := RX8) rfl rfl (Nat.le_of_ble_eq_true rfl) ?_
  intro p e s m args below meth c ls Q hC hK hP hl hret
  have hl : lv_has ls 3 [(0, .ref (a 0)), (1, vI x1), (2, vI x2)] := hl
  have hS : va_S (zF (cs_X8 kA a V0)) s.heap s.heap [] := va_S.rf
  have hD := zDself (C := fun w : Sz => (cs_X8 kA a w)) hDt V0 (fun _ => rfl)
  try dsimp only at hD
  generalize hAe : zF (cs_X8 kA a V0) = A0 at hS hD hret
  unfold f_X8_reason at hf
  refine lv_aload_n hC.1 hC.2.1 dX8_reason_0 rfl (lv_at hl 0 rfl) <| ziload_n hC.1 hC.2.1 dX8_reason_1 rfl (lv_at hl 1 rfl) <| ziload_n hC.1 hC.2.1 dX8_reason_2 rfl (lv_at hl 2 rfl) <| ?_
  obtain ⟨⟨r_1, V_2⟩, hu, hf⟩ := bd_some hf
  have hDc := hDt
  refine zcVZ (As := [vI x1, vI x2]) (rest := []) hC hK (met_X8_noPart l D kA a V0 x1 x2 hDc hu) zwX8_281 hS (zFsub (hD V0) [0, 1, 2, 3, 4, 5, 6, 7, 8, 9, 10, 11, 12, 13, 14, 15, 16] rfl) hP (q0 := 0) rfl rfl rfl rfl hl.1 rfl (Nat.le_of_ble_eq_true rfl) ⟨Nat.le_of_ble_eq_true rfl, Nat.le_of_ble_eq_true rfl⟩ ⟨rfl, rfl⟩ ⟨Nat.le_refl _, Nat.le_refl _⟩ dX8_reason_3 (fun H locs hP1 hk1 hS => ?_)
  have hP : va_P D vwCl (cs_X8 kA a V_2) H := hP1
  refine zifb_eq (tgt := 11) hC.1 hC.2.1 dX8_reason_6 (by decide) (fun hc => ?_) (fun hc => ?_)
  · have hf := it_t hf hc
    refine lv_aload_n hC.1 hC.2.1 dX8_reason_11 rfl (lv_at hl 0 rfl) <| ?_
    obtain ⟨V_3, hu, hf⟩ := bd_some hf
    have hDc := hDt
    refine zcVZ (As := []) (rest := []) hC hK (met_X8_laysAid l D kA a n V_2 hDc hu) zwX8_121 hS (zFsub (hD V_2) [0, 1, 2, 3, 4, 5, 6, 7, 8, 9, 10, 11, 12, 13, 14, 15, 16] rfl) hP (q0 := 0) rfl rfl rfl rfl hl.1 rfl (Nat.le_of_ble_eq_true rfl) ⟨Nat.le_of_ble_eq_true rfl, Nat.le_of_ble_eq_true rfl⟩ ⟨rfl, rfl⟩ ⟨Nat.le_refl _, Nat.le_refl _⟩ dX8_reason_12 (fun H locs hP1 hk1 hS => ?_)
    have hP : va_P D vwCl (cs_X8 kA a V_3) H := hP1
    refine lv_aload_n hC.1 hC.2.1 dX8_reason_15 rfl (lv_at hl 0 rfl) <| ziload_n hC.1 hC.2.1 dX8_reason_16 rfl (lv_at hl 1 rfl) <| ziload_n hC.1 hC.2.1 dX8_reason_17 rfl (lv_at hl 2 rfl) <| ?_
    obtain ⟨r_4, hu, hf⟩ := bd_some hf
    have hPc : va_P D vwCl ([] : va_W) _ := hP.sub [] rfl
    refine zcSP (As := [vI x1, vI x2]) (rest := [.ref (a 0)]) hC hK (met_X8_partOf l D kA x1 x2 hu) zwX8_103 hPc rfl hl.1 rfl (Nat.le_of_ble_eq_true rfl) ⟨Nat.le_of_ble_eq_true rfl, Nat.le_of_ble_eq_true rfl⟩ ⟨rfl, rfl⟩ ⟨Nat.le_refl _, Nat.le_refl _⟩ dX8_reason_18 <| ?_
    obtain ⟨r_5, hu, hf⟩ := bd_some hf
    refine zcVP (As := [vI r_4]) (rest := []) hC hK (met_X8_reasonOf l D kA a n V_3 r_4 hu) zwX8_284 hP (q0 := 0) rfl rfl rfl rfl hl.1 rfl (Nat.le_of_ble_eq_true rfl) ⟨Nat.le_of_ble_eq_true rfl, Nat.le_of_ble_eq_true rfl⟩ ⟨rfl, rfl⟩ ⟨Nat.le_refl _, Nat.le_refl _⟩ dX8_reason_21 <| ?_
    have hf := Option.some.inj hf
    simp only [Prod.mk.injEq] at hf
    exact hret (Int32.ofInt r_5) _ _ _ _ (congrArg (fun z => some (vI z)) hf.1.symm) (by rw [← hf.2]; exact hP) hS dX8_reason_24
  · have hf := it_f hf hc
    refine ziconst hC.1 hC.2.1 dX8_reason_9 <| ?_
    have hf := Option.some.inj hf
    simp only [Prod.mk.injEq] at hf
    exact hret (Int32.ofInt 0) _ _ _ _ (congrArg (fun z => some (vI z)) hf.1.symm) (by rw [← hf.2]; exact hP) hS dX8_reason_10
theorem DX8_sumOf_0 : ∀ q ∈ ([(0, .iconst 0, 1), (1, .istore 4, 2), (3, .iconst 0, 1), (4, .istore 5, 2), (6, .iload 5, 2), (8, .sipush 180, 3), (11, .if_icmp .ge 119, 3), (14, .aload_n 0, 1), (15, .iload 5, 2), (17, .invokevirtual 124, 3), (20, .ifCond .eq 104, 3), (23, .aload_n 0, 1), (24, .getfield 7, 3), (27, .sipush 413, 3), (30, .iload 5, 2), (32, .iadd, 1), (33, .iaload, 1), (34, .iload_n 1, 1), (35, .if_icmp .ne 89, 3), (38, .iload_n 3, 1), (39, .iconst (-1), 1), (40, .if_icmp .eq 16, 3), (43, .aload_n 0, 1), (44, .iload 5, 2), (46, .invokevirtual 107, 3), (49, .iload_n 3, 1), (50, .if_icmp .eq 6, 3), (53, .goto 71, 3), (56, .iload 4, 2), (58, .iload_n 2, 1), (59, .ifCond .ne 12, 3), (62, .aload_n 0, 1), (63, .iload 5, 2), (65, .invokevirtual 86, 3), (68, .goto 53, 3), (71, .iload_n 2, 1), (72, .iconst 1, 1), (73, .if_icmp .ne 13, 3), (76, .aload_n 0, 1), (77, .getfield 40, 3)] : List (Nat × Instr × Nat)), decode cX8_sumOf q.1 = .ok q.2 := by decide +kernel
theorem dX8_sumOf_0 : decode cX8_sumOf 0 = .ok (.iconst 0, 1) := DX8_sumOf_0 (0, .iconst 0, 1) (List.mem_of_getElem? (i := 0) rfl)
theorem dX8_sumOf_1 : decode cX8_sumOf 1 = .ok (.istore 4, 2) := DX8_sumOf_0 (1, .istore 4, 2) (List.mem_of_getElem? (i := 1) rfl)
theorem dX8_sumOf_3 : decode cX8_sumOf 3 = .ok (.iconst 0, 1) := DX8_sumOf_0 (3, .iconst 0, 1) (List.mem_of_getElem? (i := 2) rfl)
theorem dX8_sumOf_4 : decode cX8_sumOf 4 = .ok (.istore 5, 2) := DX8_sumOf_0 (4, .istore 5, 2) (List.mem_of_getElem? (i := 3) rfl)
theorem dX8_sumOf_6 : decode cX8_sumOf 6 = .ok (.iload 5, 2) := DX8_sumOf_0 (6, .iload 5, 2) (List.mem_of_getElem? (i := 4) rfl)
theorem dX8_sumOf_8 : decode cX8_sumOf 8 = .ok (.sipush 180, 3) := DX8_sumOf_0 (8, .sipush 180, 3) (List.mem_of_getElem? (i := 5) rfl)
theorem dX8_sumOf_11 : decode cX8_sumOf 11 = .ok (.if_icmp .ge 119, 3) := DX8_sumOf_0 (11, .if_icmp .ge 119, 3) (List.mem_of_getElem? (i := 6) rfl)
theorem dX8_sumOf_14 : decode cX8_sumOf 14 = .ok (.aload_n 0, 1) := DX8_sumOf_0 (14, .aload_n 0, 1) (List.mem_of_getElem? (i := 7) rfl)
theorem dX8_sumOf_15 : decode cX8_sumOf 15 = .ok (.iload 5, 2) := DX8_sumOf_0 (15, .iload 5, 2) (List.mem_of_getElem? (i := 8) rfl)
theorem dX8_sumOf_17 : decode cX8_sumOf 17 = .ok (.invokevirtual 124, 3) := DX8_sumOf_0 (17, .invokevirtual 124, 3) (List.mem_of_getElem? (i := 9) rfl)
theorem dX8_sumOf_20 : decode cX8_sumOf 20 = .ok (.ifCond .eq 104, 3) := DX8_sumOf_0 (20, .ifCond .eq 104, 3) (List.mem_of_getElem? (i := 10) rfl)
theorem dX8_sumOf_23 : decode cX8_sumOf 23 = .ok (.aload_n 0, 1) := DX8_sumOf_0 (23, .aload_n 0, 1) (List.mem_of_getElem? (i := 11) rfl)
theorem dX8_sumOf_24 : decode cX8_sumOf 24 = .ok (.getfield 7, 3) := DX8_sumOf_0 (24, .getfield 7, 3) (List.mem_of_getElem? (i := 12) rfl)
theorem dX8_sumOf_27 : decode cX8_sumOf 27 = .ok (.sipush 413, 3) := DX8_sumOf_0 (27, .sipush 413, 3) (List.mem_of_getElem? (i := 13) rfl)
theorem dX8_sumOf_30 : decode cX8_sumOf 30 = .ok (.iload 5, 2) := DX8_sumOf_0 (30, .iload 5, 2) (List.mem_of_getElem? (i := 14) rfl)
theorem dX8_sumOf_32 : decode cX8_sumOf 32 = .ok (.iadd, 1) := DX8_sumOf_0 (32, .iadd, 1) (List.mem_of_getElem? (i := 15) rfl)
theorem dX8_sumOf_33 : decode cX8_sumOf 33 = .ok (.iaload, 1) := DX8_sumOf_0 (33, .iaload, 1) (List.mem_of_getElem? (i := 16) rfl)
theorem dX8_sumOf_34 : decode cX8_sumOf 34 = .ok (.iload_n 1, 1) := DX8_sumOf_0 (34, .iload_n 1, 1) (List.mem_of_getElem? (i := 17) rfl)
theorem dX8_sumOf_35 : decode cX8_sumOf 35 = .ok (.if_icmp .ne 89, 3) := DX8_sumOf_0 (35, .if_icmp .ne 89, 3) (List.mem_of_getElem? (i := 18) rfl)
theorem dX8_sumOf_38 : decode cX8_sumOf 38 = .ok (.iload_n 3, 1) := DX8_sumOf_0 (38, .iload_n 3, 1) (List.mem_of_getElem? (i := 19) rfl)
theorem dX8_sumOf_39 : decode cX8_sumOf 39 = .ok (.iconst (-1), 1) := DX8_sumOf_0 (39, .iconst (-1), 1) (List.mem_of_getElem? (i := 20) rfl)
theorem dX8_sumOf_40 : decode cX8_sumOf 40 = .ok (.if_icmp .eq 16, 3) := DX8_sumOf_0 (40, .if_icmp .eq 16, 3) (List.mem_of_getElem? (i := 21) rfl)
theorem dX8_sumOf_43 : decode cX8_sumOf 43 = .ok (.aload_n 0, 1) := DX8_sumOf_0 (43, .aload_n 0, 1) (List.mem_of_getElem? (i := 22) rfl)
theorem dX8_sumOf_44 : decode cX8_sumOf 44 = .ok (.iload 5, 2) := DX8_sumOf_0 (44, .iload 5, 2) (List.mem_of_getElem? (i := 23) rfl)
theorem dX8_sumOf_46 : decode cX8_sumOf 46 = .ok (.invokevirtual 107, 3) := DX8_sumOf_0 (46, .invokevirtual 107, 3) (List.mem_of_getElem? (i := 24) rfl)
theorem dX8_sumOf_49 : decode cX8_sumOf 49 = .ok (.iload_n 3, 1) := DX8_sumOf_0 (49, .iload_n 3, 1) (List.mem_of_getElem? (i := 25) rfl)
theorem dX8_sumOf_50 : decode cX8_sumOf 50 = .ok (.if_icmp .eq 6, 3) := DX8_sumOf_0 (50, .if_icmp .eq 6, 3) (List.mem_of_getElem? (i := 26) rfl)
theorem dX8_sumOf_53 : decode cX8_sumOf 53 = .ok (.goto 71, 3) := DX8_sumOf_0 (53, .goto 71, 3) (List.mem_of_getElem? (i := 27) rfl)
theorem dX8_sumOf_56 : decode cX8_sumOf 56 = .ok (.iload 4, 2) := DX8_sumOf_0 (56, .iload 4, 2) (List.mem_of_getElem? (i := 28) rfl)
theorem dX8_sumOf_58 : decode cX8_sumOf 58 = .ok (.iload_n 2, 1) := DX8_sumOf_0 (58, .iload_n 2, 1) (List.mem_of_getElem? (i := 29) rfl)
theorem dX8_sumOf_59 : decode cX8_sumOf 59 = .ok (.ifCond .ne 12, 3) := DX8_sumOf_0 (59, .ifCond .ne 12, 3) (List.mem_of_getElem? (i := 30) rfl)
theorem dX8_sumOf_62 : decode cX8_sumOf 62 = .ok (.aload_n 0, 1) := DX8_sumOf_0 (62, .aload_n 0, 1) (List.mem_of_getElem? (i := 31) rfl)
theorem dX8_sumOf_63 : decode cX8_sumOf 63 = .ok (.iload 5, 2) := DX8_sumOf_0 (63, .iload 5, 2) (List.mem_of_getElem? (i := 32) rfl)
theorem dX8_sumOf_65 : decode cX8_sumOf 65 = .ok (.invokevirtual 86, 3) := DX8_sumOf_0 (65, .invokevirtual 86, 3) (List.mem_of_getElem? (i := 33) rfl)
theorem dX8_sumOf_68 : decode cX8_sumOf 68 = .ok (.goto 53, 3) := DX8_sumOf_0 (68, .goto 53, 3) (List.mem_of_getElem? (i := 34) rfl)
theorem dX8_sumOf_71 : decode cX8_sumOf 71 = .ok (.iload_n 2, 1) := DX8_sumOf_0 (71, .iload_n 2, 1) (List.mem_of_getElem? (i := 35) rfl)
theorem dX8_sumOf_72 : decode cX8_sumOf 72 = .ok (.iconst 1, 1) := DX8_sumOf_0 (72, .iconst 1, 1) (List.mem_of_getElem? (i := 36) rfl)
theorem dX8_sumOf_73 : decode cX8_sumOf 73 = .ok (.if_icmp .ne 13, 3) := DX8_sumOf_0 (73, .if_icmp .ne 13, 3) (List.mem_of_getElem? (i := 37) rfl)
theorem dX8_sumOf_76 : decode cX8_sumOf 76 = .ok (.aload_n 0, 1) := DX8_sumOf_0 (76, .aload_n 0, 1) (List.mem_of_getElem? (i := 38) rfl)
theorem dX8_sumOf_77 : decode cX8_sumOf 77 = .ok (.getfield 40, 3) := DX8_sumOf_0 (77, .getfield 40, 3) (List.mem_of_getElem? (i := 39) rfl)
theorem DX8_sumOf_1 : ∀ q ∈ ([(80, .iload 5, 2), (82, .iaload, 1), (83, .goto 38, 3), (86, .iload_n 2, 1), (87, .iconst 2, 1), (88, .if_icmp .ne 13, 3), (91, .aload_n 0, 1), (92, .getfield 37, 3), (95, .iload 5, 2), (97, .iaload, 1), (98, .goto 23, 3), (101, .iload_n 2, 1), (102, .iconst 3, 1), (103, .if_icmp .ne 17, 3), (106, .aload_n 0, 1), (107, .getfield 7, 3), (110, .sipush 953, 3), (113, .iload 5, 2), (115, .iadd, 1), (116, .iaload, 1), (117, .goto 4, 3), (120, .iconst 1, 1), (121, .iadd, 1), (122, .istore 4, 2), (124, .iinc 5 1, 3), (127, .goto (-121), 3), (130, .iload 4, 2), (132, .ireturn, 1)] : List (Nat × Instr × Nat)), decode cX8_sumOf q.1 = .ok q.2 := by decide +kernel
theorem dX8_sumOf_80 : decode cX8_sumOf 80 = .ok (.iload 5, 2) := DX8_sumOf_1 (80, .iload 5, 2) (List.mem_of_getElem? (i := 0) rfl)
theorem dX8_sumOf_82 : decode cX8_sumOf 82 = .ok (.iaload, 1) := DX8_sumOf_1 (82, .iaload, 1) (List.mem_of_getElem? (i := 1) rfl)
theorem dX8_sumOf_83 : decode cX8_sumOf 83 = .ok (.goto 38, 3) := DX8_sumOf_1 (83, .goto 38, 3) (List.mem_of_getElem? (i := 2) rfl)
theorem dX8_sumOf_86 : decode cX8_sumOf 86 = .ok (.iload_n 2, 1) := DX8_sumOf_1 (86, .iload_n 2, 1) (List.mem_of_getElem? (i := 3) rfl)
theorem dX8_sumOf_87 : decode cX8_sumOf 87 = .ok (.iconst 2, 1) := DX8_sumOf_1 (87, .iconst 2, 1) (List.mem_of_getElem? (i := 4) rfl)
theorem dX8_sumOf_88 : decode cX8_sumOf 88 = .ok (.if_icmp .ne 13, 3) := DX8_sumOf_1 (88, .if_icmp .ne 13, 3) (List.mem_of_getElem? (i := 5) rfl)
theorem dX8_sumOf_91 : decode cX8_sumOf 91 = .ok (.aload_n 0, 1) := DX8_sumOf_1 (91, .aload_n 0, 1) (List.mem_of_getElem? (i := 6) rfl)
theorem dX8_sumOf_92 : decode cX8_sumOf 92 = .ok (.getfield 37, 3) := DX8_sumOf_1 (92, .getfield 37, 3) (List.mem_of_getElem? (i := 7) rfl)
theorem dX8_sumOf_95 : decode cX8_sumOf 95 = .ok (.iload 5, 2) := DX8_sumOf_1 (95, .iload 5, 2) (List.mem_of_getElem? (i := 8) rfl)
theorem dX8_sumOf_97 : decode cX8_sumOf 97 = .ok (.iaload, 1) := DX8_sumOf_1 (97, .iaload, 1) (List.mem_of_getElem? (i := 9) rfl)
theorem dX8_sumOf_98 : decode cX8_sumOf 98 = .ok (.goto 23, 3) := DX8_sumOf_1 (98, .goto 23, 3) (List.mem_of_getElem? (i := 10) rfl)
theorem dX8_sumOf_101 : decode cX8_sumOf 101 = .ok (.iload_n 2, 1) := DX8_sumOf_1 (101, .iload_n 2, 1) (List.mem_of_getElem? (i := 11) rfl)
theorem dX8_sumOf_102 : decode cX8_sumOf 102 = .ok (.iconst 3, 1) := DX8_sumOf_1 (102, .iconst 3, 1) (List.mem_of_getElem? (i := 12) rfl)
theorem dX8_sumOf_103 : decode cX8_sumOf 103 = .ok (.if_icmp .ne 17, 3) := DX8_sumOf_1 (103, .if_icmp .ne 17, 3) (List.mem_of_getElem? (i := 13) rfl)
theorem dX8_sumOf_106 : decode cX8_sumOf 106 = .ok (.aload_n 0, 1) := DX8_sumOf_1 (106, .aload_n 0, 1) (List.mem_of_getElem? (i := 14) rfl)
theorem dX8_sumOf_107 : decode cX8_sumOf 107 = .ok (.getfield 7, 3) := DX8_sumOf_1 (107, .getfield 7, 3) (List.mem_of_getElem? (i := 15) rfl)
theorem dX8_sumOf_110 : decode cX8_sumOf 110 = .ok (.sipush 953, 3) := DX8_sumOf_1 (110, .sipush 953, 3) (List.mem_of_getElem? (i := 16) rfl)
theorem dX8_sumOf_113 : decode cX8_sumOf 113 = .ok (.iload 5, 2) := DX8_sumOf_1 (113, .iload 5, 2) (List.mem_of_getElem? (i := 17) rfl)
theorem dX8_sumOf_115 : decode cX8_sumOf 115 = .ok (.iadd, 1) := DX8_sumOf_1 (115, .iadd, 1) (List.mem_of_getElem? (i := 18) rfl)
theorem dX8_sumOf_116 : decode cX8_sumOf 116 = .ok (.iaload, 1) := DX8_sumOf_1 (116, .iaload, 1) (List.mem_of_getElem? (i := 19) rfl)
theorem dX8_sumOf_117 : decode cX8_sumOf 117 = .ok (.goto 4, 3) := DX8_sumOf_1 (117, .goto 4, 3) (List.mem_of_getElem? (i := 20) rfl)
theorem dX8_sumOf_120 : decode cX8_sumOf 120 = .ok (.iconst 1, 1) := DX8_sumOf_1 (120, .iconst 1, 1) (List.mem_of_getElem? (i := 21) rfl)
theorem dX8_sumOf_121 : decode cX8_sumOf 121 = .ok (.iadd, 1) := DX8_sumOf_1 (121, .iadd, 1) (List.mem_of_getElem? (i := 22) rfl)
theorem dX8_sumOf_122 : decode cX8_sumOf 122 = .ok (.istore 4, 2) := DX8_sumOf_1 (122, .istore 4, 2) (List.mem_of_getElem? (i := 23) rfl)
theorem dX8_sumOf_124 : decode cX8_sumOf 124 = .ok (.iinc 5 1, 3) := DX8_sumOf_1 (124, .iinc 5 1, 3) (List.mem_of_getElem? (i := 24) rfl)
theorem dX8_sumOf_127 : decode cX8_sumOf 127 = .ok (.goto (-121), 3) := DX8_sumOf_1 (127, .goto (-121), 3) (List.mem_of_getElem? (i := 25) rfl)
theorem dX8_sumOf_130 : decode cX8_sumOf 130 = .ok (.iload 4, 2) := DX8_sumOf_1 (130, .iload 4, 2) (List.mem_of_getElem? (i := 26) rfl)
theorem dX8_sumOf_132 : decode cX8_sumOf 132 = .ok (.ireturn, 1) := DX8_sumOf_1 (132, .ireturn, 1) (List.mem_of_getElem? (i := 27) rfl)
abbrev rmX8_sumOf : Room := { frames := 3, cells := 0, slots := 0, locals := 62 }
set_option maxHeartbeats 400000 in
set_option maxRecDepth 100000 in
theorem met_X8_sumOf (l : Launch) (D : va_G) (kA : Nat → ClassId) (a : Nat → Nat) (n : Nat) (V : Sz) (x1 : Int) (x2 : Int) (x3 : Int) {r : Int} (hf : f_X8_sumOf n V x1 x2 x3 = some r) : MP l yX8_sumOf cX8_sumOf 6 (some .int) rmX8_sumOf D kA [.ref (a 0), vI x1, vI x2, vI x3] (cs_X8 kA a V) (some (vI r)) := by
  refine zPI (own := RX8) rfl rfl (Nat.le_of_ble_eq_true rfl) ?_
  intro p e s m args below meth c ls Q hC hK hP hl hret
  have hl : lv_has ls 6 [(0, .ref (a 0)), (1, vI x1), (2, vI x2), (3, vI x3)] := hl
  unfold f_X8_sumOf at hf
  have L6 : ∀ (k6 : Nat) (y4 : Int) (y5 : Int) (ls : Array Slot), lpF (bX8_sumOf_6 n V x1 x2 x3) k6 (y4, y5) = some r → lv_has ls 6 [(0, .ref (a 0)), (1, vI x1), (2, vI x2), (3, vI x3), (4, vI y4), (5, vI y5)] → W p l e rmX8_sumOf s m args below meth c s.heap [] 0 0 Q (F0 m 6 ls []) := by
    intro k6
    induction k6 with
    | zero => intro y4 y5 ls hf hl; exact lp_0 hf
    | succ k6 ih6 =>
      intro y4 y5 ls hf hl
      have hf := lp_s hf
      rw [bX8_sumOf_6_e] at hf
      have J124 : ∀ (y4 : Int) (y5 : Int) (ls : Array Slot), jX8_sumOf_124 n V x1 x2 x3 (lpF (bX8_sumOf_6 n V x1 x2 x3) k6) y4 y5 = some r → lv_has ls 6 [(0, .ref (a 0)), (1, vI x1), (2, vI x2), (3, vI x3), (4, vI y4), (5, vI y5)] → W p l e rmX8_sumOf s m args below meth c s.heap [] 0 0 Q (F0 m 124 ls []) := by
        intro y4 y5 ls hf hl
        unfold jX8_sumOf_124 at hf
        obtain ⟨x_3, ex_3⟩ : ∃ y : Int, y = y5 + 1 := ⟨_, rfl⟩
        have hf := nm_at hf ex_3
        refine ziinc (v := x_3) (lv' := [(5, vI x_3), (0, .ref (a 0)), (1, vI x1), (2, vI x2), (3, vI x3), (4, vI y4)]) hC.1 hC.2.1 dX8_sumOf_124 hl (k := 5) rfl ex_3 (by decide) rfl (fun ls hl => ?_)
        exact lv_goto (tgt := 6) hC.1 hC.2.1 dX8_sumOf_127 (by decide) <| ih6 _ _ _ hf (lv_sub hl [1, 2, 3, 4, 5, 0] rfl)
      have J121 : ∀ (y5 : Int) (z0 : Int) (z1 : Int) (ls : Array Slot), jX8_sumOf_121 n V x1 x2 x3 (lpF (bX8_sumOf_6 n V x1 x2 x3) k6) y5 z0 z1 = some r → lv_has ls 6 [(0, .ref (a 0)), (1, vI x1), (2, vI x2), (3, vI x3), (5, vI y5)] → W p l e rmX8_sumOf s m args below meth c s.heap [] 0 0 Q (F0 m 121 ls [vI z0, vI z1]) := by
        intro y5 z0 z1 ls hf hl
        unfold jX8_sumOf_121 at hf
        refine ziadd hC.1 hC.2.1 dX8_sumOf_121 <| ?_
        refine ztopi (fun x_8 ex_8 => ?_)
        have hf := nm_at hf ex_8
        refine zistore (lv' := [(4, vI x_8), (0, .ref (a 0)), (1, vI x1), (2, vI x2), (3, vI x3), (5, vI y5)]) hC.1 hC.2.1 dX8_sumOf_122 hl (by decide) rfl (fun ls hl => ?_)
        exact J124 _ _ _ hf (lv_sub hl [1, 2, 3, 4, 0, 5] rfl)
      have J56 : ∀ (y4 : Int) (y5 : Int) (ls : Array Slot), jX8_sumOf_56 n V x1 x2 x3 (lpF (bX8_sumOf_6 n V x1 x2 x3) k6) y4 y5 = some r → lv_has ls 6 [(0, .ref (a 0)), (1, vI x1), (2, vI x2), (3, vI x3), (4, vI y4), (5, vI y5)] → W p l e rmX8_sumOf s m args below meth c s.heap [] 0 0 Q (F0 m 56 ls []) := by
        intro y4 y5 ls hf hl
        unfold jX8_sumOf_56 at hf
        refine ziload hC.1 hC.2.1 dX8_sumOf_56 (lv_at hl 4 rfl) <| ziload_n hC.1 hC.2.1 dX8_sumOf_58 rfl (lv_at hl 2 rfl) <| ?_
        obtain ⟨hz_7, hf⟩ := ck_some hf
        refine zif_ne (tgt := 71) hC.1 hC.2.1 hz_7 dX8_sumOf_59 (by decide) (fun hc => ?_) (fun hc => ?_)
        · have hf := it_f hf hc
          refine ziload_n hC.1 hC.2.1 dX8_sumOf_71 rfl (lv_at hl 2 rfl) <| ziconst hC.1 hC.2.1 dX8_sumOf_72 <| zicmp_ne (tgt := 86) hC.1 hC.2.1 ⟨hz_7, (by decide)⟩ dX8_sumOf_73 (by decide) (fun hc => ?_) (fun hc => ?_)
          · have hf := it_f hf hc
            refine ziload_n hC.1 hC.2.1 dX8_sumOf_86 rfl (lv_at hl 2 rfl) <| ziconst hC.1 hC.2.1 dX8_sumOf_87 <| zicmp_ne (tgt := 101) hC.1 hC.2.1 ⟨hz_7, (by decide)⟩ dX8_sumOf_88 (by decide) (fun hc => ?_) (fun hc => ?_)
            · have hf := it_f hf hc
              refine ziload_n hC.1 hC.2.1 dX8_sumOf_101 rfl (lv_at hl 2 rfl) <| ziconst hC.1 hC.2.1 dX8_sumOf_102 <| zicmp_ne (tgt := 120) hC.1 hC.2.1 ⟨hz_7, (by decide)⟩ dX8_sumOf_103 (by decide) (fun hc => ?_) (fun hc => ?_)
              · have hf := it_f hf hc
                exact ziconst hC.1 hC.2.1 dX8_sumOf_120 <| J121 _ _ _ _ hf (lv_sub hl [0, 1, 2, 3, 5] rfl)
              · have hf := it_t hf hc
                refine lv_aload_n hC.1 hC.2.1 dX8_sumOf_106 rfl (lv_at hl 0 rfl) <| gfX8_7 hC hK hP (q0 := 0) rfl rfl dX8_sumOf_107 <| zsipush hC.1 hC.2.1 dX8_sumOf_110 (by decide) <| ziload hC.1 hC.2.1 dX8_sumOf_113 (lv_at hl 5 rfl) <| ziadd hC.1 hC.2.1 dX8_sumOf_115 <| ?_
                obtain ⟨hz_9, hf⟩ := ck_some hf
                exact jal hC hK hP (q0 := 1) rfl (Nat.le_of_ble_eq_true rfl) hz_9 rfl dX8_sumOf_116 <| lv_goto (tgt := 121) hC.1 hC.2.1 dX8_sumOf_117 (by decide) <| J121 _ _ _ _ hf (lv_sub hl [0, 1, 2, 3, 5] rfl)
            · have hf := it_t hf hc
              refine lv_aload_n hC.1 hC.2.1 dX8_sumOf_91 rfl (lv_at hl 0 rfl) <| gfX8_37 hC hK hP (q0 := 0) rfl rfl dX8_sumOf_92 <| ziload hC.1 hC.2.1 dX8_sumOf_95 (lv_at hl 5 rfl) <| ?_
              obtain ⟨hz_10, hf⟩ := ck_some hf
              exact jal hC hK hP (q0 := 10) rfl (Nat.le_of_ble_eq_true rfl) hz_10 rfl dX8_sumOf_97 <| lv_goto (tgt := 121) hC.1 hC.2.1 dX8_sumOf_98 (by decide) <| J121 _ _ _ _ hf (lv_sub hl [0, 1, 2, 3, 5] rfl)
          · have hf := it_t hf hc
            refine lv_aload_n hC.1 hC.2.1 dX8_sumOf_76 rfl (lv_at hl 0 rfl) <| gfX8_40 hC hK hP (q0 := 0) rfl rfl dX8_sumOf_77 <| ziload hC.1 hC.2.1 dX8_sumOf_80 (lv_at hl 5 rfl) <| ?_
            obtain ⟨hz_11, hf⟩ := ck_some hf
            exact jal hC hK hP (q0 := 11) rfl (Nat.le_of_ble_eq_true rfl) hz_11 rfl dX8_sumOf_82 <| lv_goto (tgt := 121) hC.1 hC.2.1 dX8_sumOf_83 (by decide) <| J121 _ _ _ _ hf (lv_sub hl [0, 1, 2, 3, 5] rfl)
        · have hf := it_t hf hc
          refine lv_aload_n hC.1 hC.2.1 dX8_sumOf_62 rfl (lv_at hl 0 rfl) <| ziload hC.1 hC.2.1 dX8_sumOf_63 (lv_at hl 5 rfl) <| ?_
          obtain ⟨r_12, hu, hf⟩ := bd_some hf
          exact zcVP (As := [vI y5]) (rest := [vI y4]) hC hK (met_X8_leftOf l D kA a V y5 hu) zwX8_86 hP (q0 := 0) rfl rfl rfl rfl hl.1 rfl (Nat.le_of_ble_eq_true rfl) ⟨Nat.le_of_ble_eq_true rfl, Nat.le_of_ble_eq_true rfl⟩ ⟨rfl, rfl⟩ ⟨Nat.le_refl _, Nat.le_refl _⟩ dX8_sumOf_65 <| lv_goto (tgt := 121) hC.1 hC.2.1 dX8_sumOf_68 (by decide) <| J121 _ _ _ _ hf (lv_sub hl [0, 1, 2, 3, 5] rfl)
      refine ziload hC.1 hC.2.1 dX8_sumOf_6 (lv_at hl 5 rfl) <| zsipush hC.1 hC.2.1 dX8_sumOf_8 (by decide) <| ?_
      obtain ⟨hz_1, hf⟩ := ck_some hf
      refine zicmp_ge (tgt := 130) hC.1 hC.2.1 ⟨hz_1, (by decide)⟩ dX8_sumOf_11 (by decide) (fun hc => ?_) (fun hc => ?_)
      · have hf := it_t hf hc
        exact ziload hC.1 hC.2.1 dX8_sumOf_130 (lv_at hl 4 rfl) <| hret (Int32.ofInt y4) _ _ (qI hf) dX8_sumOf_132
      · have hf := it_f hf hc
        refine lv_aload_n hC.1 hC.2.1 dX8_sumOf_14 rfl (lv_at hl 0 rfl) <| ziload hC.1 hC.2.1 dX8_sumOf_15 (lv_at hl 5 rfl) <| ?_
        obtain ⟨r_2, hu, hf⟩ := bd_some hf
        refine zcVP (As := [vI y5]) (rest := []) hC hK (met_X8_isPart l D kA a V y5 hu) zwX8_124 hP (q0 := 0) rfl rfl rfl rfl hl.1 rfl (Nat.le_of_ble_eq_true rfl) ⟨Nat.le_of_ble_eq_true rfl, Nat.le_of_ble_eq_true rfl⟩ ⟨rfl, rfl⟩ ⟨Nat.le_refl _, Nat.le_refl _⟩ dX8_sumOf_17 <| zifb_eq (tgt := 124) hC.1 hC.2.1 dX8_sumOf_20 (by decide) (fun hc => ?_) (fun hc => ?_)
        · have hf := it_t hf hc
          exact J124 _ _ _ hf (lv_sub hl [0, 1, 2, 3, 4, 5] rfl)
        · have hf := it_f hf hc
          refine lv_aload_n hC.1 hC.2.1 dX8_sumOf_23 rfl (lv_at hl 0 rfl) <| gfX8_7 hC hK hP (q0 := 0) rfl rfl dX8_sumOf_24 <| zsipush hC.1 hC.2.1 dX8_sumOf_27 (by decide) <| ziload hC.1 hC.2.1 dX8_sumOf_30 (lv_at hl 5 rfl) <| ziadd hC.1 hC.2.1 dX8_sumOf_32 <| ?_
          obtain ⟨hz_4, hf⟩ := ck_some hf
          refine jal hC hK hP (q0 := 1) rfl (Nat.le_of_ble_eq_true rfl) hz_4 rfl dX8_sumOf_33 <| ziload_n hC.1 hC.2.1 dX8_sumOf_34 rfl (lv_at hl 1 rfl) <| ?_
          obtain ⟨hz_5, hf⟩ := ck_some hf
          refine zicmp_ne (tgt := 124) hC.1 hC.2.1 ⟨hz_5.1, hz_5.2⟩ dX8_sumOf_35 (by decide) (fun hc => ?_) (fun hc => ?_)
          · have hf := it_f hf hc
            exact J124 _ _ _ hf (lv_sub hl [0, 1, 2, 3, 4, 5] rfl)
          · have hf := it_t hf hc
            refine ziload_n hC.1 hC.2.1 dX8_sumOf_38 rfl (lv_at hl 3 rfl) <| ziconst hC.1 hC.2.1 dX8_sumOf_39 <| ?_
            obtain ⟨hz_6, hf⟩ := ck_some hf
            refine zicmp_eq (tgt := 56) hC.1 hC.2.1 ⟨hz_6, (by decide)⟩ dX8_sumOf_40 (by decide) (fun hc => ?_) (fun hc => ?_)
            · have hf := it_t hf hc
              exact J56 _ _ _ hf (lv_sub hl [0, 1, 2, 3, 4, 5] rfl)
            · have hf := it_f hf hc
              refine lv_aload_n hC.1 hC.2.1 dX8_sumOf_43 rfl (lv_at hl 0 rfl) <| ziload hC.1 hC.2.1 dX8_sumOf_44 (lv_at hl 5 rfl) <| ?_
              obtain ⟨r_13, hu, hf⟩ := bd_some hf
              refine zcVP (As := [vI y5]) (rest := []) hC hK (met_X8_yearOf l D kA a V y5 hu) zwX8_107 hP (q0 := 0) rfl rfl rfl rfl hl.1 rfl (Nat.le_of_ble_eq_true rfl) ⟨Nat.le_of_ble_eq_true rfl, Nat.le_of_ble_eq_true rfl⟩ ⟨rfl, rfl⟩ ⟨Nat.le_refl _, Nat.le_refl _⟩ dX8_sumOf_46 <| ziload_n hC.1 hC.2.1 dX8_sumOf_49 rfl (lv_at hl 3 rfl) <| ?_
              obtain ⟨hz_14, hf⟩ := ck_some hf
              refine zicmp_eq (tgt := 56) hC.1 hC.2.1 ⟨hz_14, hz_6⟩ dX8_sumOf_50 (by decide) (fun hc => ?_) (fun hc => ?_)
              · have hf := it_t hf hc
                exact J56 _ _ _ hf (lv_sub hl [0, 1, 2, 3, 4, 5] rfl)
              · have hf := it_f hf hc
                exact lv_goto (tgt := 124) hC.1 hC.2.1 dX8_sumOf_53 (by decide) <| J124 _ _ _ hf (lv_sub hl [0, 1, 2, 3, 4, 5] rfl)
  refine ziconst hC.1 hC.2.1 dX8_sumOf_0 <| zistore (lv' := [(4, vI 0), (0, .ref (a 0)), (1, vI x1), (2, vI x2), (3, vI x3)]) hC.1 hC.2.1 dX8_sumOf_1 hl (by decide) rfl (fun ls hl => ?_)
  refine ziconst hC.1 hC.2.1 dX8_sumOf_3 <| zistore (lv' := [(5, vI 0), (4, vI 0), (0, .ref (a 0)), (1, vI x1), (2, vI x2), (3, vI x3)]) hC.1 hC.2.1 dX8_sumOf_4 hl (by decide) rfl (fun ls hl => ?_)
  exact L6 n _ _ _ hf (lv_sub hl [2, 3, 4, 5, 1, 0] rfl)
theorem DX8_donor_0 : ∀ q ∈ ([(0, .aload_n 0, 1), (1, .iload_n 1, 1), (2, .invokevirtual 287, 3), (5, .ifCond .ne 35, 3), (8, .aload_n 0, 1), (9, .iload_n 2, 1), (10, .iconst 0, 1), (11, .iconst 4, 1), (12, .invokestatic 79, 3), (15, .ifCond .eq 13, 3), (18, .iload_n 3, 1), (19, .iconst (-1), 1), (20, .bipush 27, 2), (22, .invokestatic 79, 3), (25, .ifCond .ne 7, 3), (28, .iconst 1, 1), (29, .goto 4, 3), (32, .iconst 0, 1), (33, .iconst 2, 1), (34, .invokevirtual 261, 3), (37, .ifCond .eq 5, 3), (40, .iconst 0, 1), (41, .ireturn, 1), (42, .aload_n 0, 1), (43, .invokevirtual 121, 3), (46, .aload_n 0, 1), (47, .iload_n 1, 1), (48, .iload_n 2, 1), (49, .iload_n 3, 1), (50, .invokevirtual 290, 3), (53, .ireturn, 1)] : List (Nat × Instr × Nat)), decode cX8_donor q.1 = .ok q.2 := by decide +kernel
theorem dX8_donor_0 : decode cX8_donor 0 = .ok (.aload_n 0, 1) := DX8_donor_0 (0, .aload_n 0, 1) (List.mem_of_getElem? (i := 0) rfl)
theorem dX8_donor_1 : decode cX8_donor 1 = .ok (.iload_n 1, 1) := DX8_donor_0 (1, .iload_n 1, 1) (List.mem_of_getElem? (i := 1) rfl)
theorem dX8_donor_2 : decode cX8_donor 2 = .ok (.invokevirtual 287, 3) := DX8_donor_0 (2, .invokevirtual 287, 3) (List.mem_of_getElem? (i := 2) rfl)
theorem dX8_donor_5 : decode cX8_donor 5 = .ok (.ifCond .ne 35, 3) := DX8_donor_0 (5, .ifCond .ne 35, 3) (List.mem_of_getElem? (i := 3) rfl)
theorem dX8_donor_8 : decode cX8_donor 8 = .ok (.aload_n 0, 1) := DX8_donor_0 (8, .aload_n 0, 1) (List.mem_of_getElem? (i := 4) rfl)
theorem dX8_donor_9 : decode cX8_donor 9 = .ok (.iload_n 2, 1) := DX8_donor_0 (9, .iload_n 2, 1) (List.mem_of_getElem? (i := 5) rfl)
theorem dX8_donor_10 : decode cX8_donor 10 = .ok (.iconst 0, 1) := DX8_donor_0 (10, .iconst 0, 1) (List.mem_of_getElem? (i := 6) rfl)
theorem dX8_donor_11 : decode cX8_donor 11 = .ok (.iconst 4, 1) := DX8_donor_0 (11, .iconst 4, 1) (List.mem_of_getElem? (i := 7) rfl)
theorem dX8_donor_12 : decode cX8_donor 12 = .ok (.invokestatic 79, 3) := DX8_donor_0 (12, .invokestatic 79, 3) (List.mem_of_getElem? (i := 8) rfl)
theorem dX8_donor_15 : decode cX8_donor 15 = .ok (.ifCond .eq 13, 3) := DX8_donor_0 (15, .ifCond .eq 13, 3) (List.mem_of_getElem? (i := 9) rfl)
theorem dX8_donor_18 : decode cX8_donor 18 = .ok (.iload_n 3, 1) := DX8_donor_0 (18, .iload_n 3, 1) (List.mem_of_getElem? (i := 10) rfl)
theorem dX8_donor_19 : decode cX8_donor 19 = .ok (.iconst (-1), 1) := DX8_donor_0 (19, .iconst (-1), 1) (List.mem_of_getElem? (i := 11) rfl)
theorem dX8_donor_20 : decode cX8_donor 20 = .ok (.bipush 27, 2) := DX8_donor_0 (20, .bipush 27, 2) (List.mem_of_getElem? (i := 12) rfl)
theorem dX8_donor_22 : decode cX8_donor 22 = .ok (.invokestatic 79, 3) := DX8_donor_0 (22, .invokestatic 79, 3) (List.mem_of_getElem? (i := 13) rfl)
theorem dX8_donor_25 : decode cX8_donor 25 = .ok (.ifCond .ne 7, 3) := DX8_donor_0 (25, .ifCond .ne 7, 3) (List.mem_of_getElem? (i := 14) rfl)
theorem dX8_donor_28 : decode cX8_donor 28 = .ok (.iconst 1, 1) := DX8_donor_0 (28, .iconst 1, 1) (List.mem_of_getElem? (i := 15) rfl)
theorem dX8_donor_29 : decode cX8_donor 29 = .ok (.goto 4, 3) := DX8_donor_0 (29, .goto 4, 3) (List.mem_of_getElem? (i := 16) rfl)
theorem dX8_donor_32 : decode cX8_donor 32 = .ok (.iconst 0, 1) := DX8_donor_0 (32, .iconst 0, 1) (List.mem_of_getElem? (i := 17) rfl)
theorem dX8_donor_33 : decode cX8_donor 33 = .ok (.iconst 2, 1) := DX8_donor_0 (33, .iconst 2, 1) (List.mem_of_getElem? (i := 18) rfl)
theorem dX8_donor_34 : decode cX8_donor 34 = .ok (.invokevirtual 261, 3) := DX8_donor_0 (34, .invokevirtual 261, 3) (List.mem_of_getElem? (i := 19) rfl)
theorem dX8_donor_37 : decode cX8_donor 37 = .ok (.ifCond .eq 5, 3) := DX8_donor_0 (37, .ifCond .eq 5, 3) (List.mem_of_getElem? (i := 20) rfl)
theorem dX8_donor_40 : decode cX8_donor 40 = .ok (.iconst 0, 1) := DX8_donor_0 (40, .iconst 0, 1) (List.mem_of_getElem? (i := 21) rfl)
theorem dX8_donor_41 : decode cX8_donor 41 = .ok (.ireturn, 1) := DX8_donor_0 (41, .ireturn, 1) (List.mem_of_getElem? (i := 22) rfl)
theorem dX8_donor_42 : decode cX8_donor 42 = .ok (.aload_n 0, 1) := DX8_donor_0 (42, .aload_n 0, 1) (List.mem_of_getElem? (i := 23) rfl)
theorem dX8_donor_43 : decode cX8_donor 43 = .ok (.invokevirtual 121, 3) := DX8_donor_0 (43, .invokevirtual 121, 3) (List.mem_of_getElem? (i := 24) rfl)
theorem dX8_donor_46 : decode cX8_donor 46 = .ok (.aload_n 0, 1) := DX8_donor_0 (46, .aload_n 0, 1) (List.mem_of_getElem? (i := 25) rfl)
theorem dX8_donor_47 : decode cX8_donor 47 = .ok (.iload_n 1, 1) := DX8_donor_0 (47, .iload_n 1, 1) (List.mem_of_getElem? (i := 26) rfl)
theorem dX8_donor_48 : decode cX8_donor 48 = .ok (.iload_n 2, 1) := DX8_donor_0 (48, .iload_n 2, 1) (List.mem_of_getElem? (i := 27) rfl)
theorem dX8_donor_49 : decode cX8_donor 49 = .ok (.iload_n 3, 1) := DX8_donor_0 (49, .iload_n 3, 1) (List.mem_of_getElem? (i := 28) rfl)
theorem dX8_donor_50 : decode cX8_donor 50 = .ok (.invokevirtual 290, 3) := DX8_donor_0 (50, .invokevirtual 290, 3) (List.mem_of_getElem? (i := 29) rfl)
theorem dX8_donor_53 : decode cX8_donor 53 = .ok (.ireturn, 1) := DX8_donor_0 (53, .ireturn, 1) (List.mem_of_getElem? (i := 30) rfl)
abbrev rmX8_donor : Room := { frames := 4, cells := 0, slots := 0, locals := 90 }
set_option maxHeartbeats 400000 in
set_option maxRecDepth 100000 in
theorem met_X8_donor (l : Launch) (D : va_G) (kA : Nat → ClassId) (a : Nat → Nat) (n : Nat) (V0 : Sz) (x1 : Int) (x2 : Int) (x3 : Int) (hDt : ∀ w : Sz, va_D (fun _ => True) (cs_X8 kA a w)) {r : Int} {Vr : Sz} (hf : f_X8_donor n V0 x1 x2 x3 = some (r, Vr)) : MZ l yX8_donor cX8_donor 4 (some .int) rmX8_donor D kA [.ref (a 0), vI x1, vI x2, vI x3] (cs_X8 kA a V0) (cs_X8 kA a Vr) (some (vI r)) := by
  refine zZI (own := RX8) rfl rfl (Nat.le_of_ble_eq_true rfl) ?_
  intro p e s m args below meth c ls Q hC hK hP hl hret
  have hl : lv_has ls 4 [(0, .ref (a 0)), (1, vI x1), (2, vI x2), (3, vI x3)] := hl
  have hS : va_S (zF (cs_X8 kA a V0)) s.heap s.heap [] := va_S.rf
  have hD := zDself (C := fun w : Sz => (cs_X8 kA a w)) hDt V0 (fun _ => rfl)
  try dsimp only at hD
  generalize hAe : zF (cs_X8 kA a V0) = A0 at hS hD hret
  unfold f_X8_donor at hf
  have J33 : ∀ (V : Sz) (z0 : Int) (H : Heap) (locs : List Loc) (ls : Array Slot), jX8_donor_33 n x1 x2 x3 V z0 = some (r, Vr) → va_P D vwCl (cs_X8 kA a V) H → va_S A0 s.heap H locs → lv_has ls 4 [(0, .ref (a 0)), (1, vI x1), (2, vI x2), (3, vI x3)] → W p l e rmX8_donor s m args below meth c H locs 0 0 Q (F0 m 33 ls [vI z0, .ref (a 0)]) := by
    intro V z0 H locs ls hf hP hS hl
    unfold jX8_donor_33 at hf
    refine ziconst hC.1 hC.2.1 dX8_donor_33 <| ?_
    obtain ⟨⟨r_4, V_5⟩, hu, hf⟩ := bd_some hf
    have hDc := hDt
    refine zcVZ (As := [vI z0, vI 2]) (rest := []) hC hK (met_X8_fails l D kA a V z0 2 hDc hu) zwX8_261 hS (zFsub (hD V) [0, 1, 2, 3, 4, 5, 6, 7, 8, 9, 10, 11, 12, 13, 14, 15, 16] rfl) hP (q0 := 0) rfl rfl rfl rfl hl.1 rfl (Nat.le_of_ble_eq_true rfl) ⟨Nat.le_of_ble_eq_true rfl, Nat.le_of_ble_eq_true rfl⟩ ⟨rfl, rfl⟩ ⟨Nat.le_refl _, Nat.le_refl _⟩ dX8_donor_34 (fun H locs hP1 hk1 hS => ?_)
    have hP : va_P D vwCl (cs_X8 kA a V_5) H := hP1
    refine zifb_eq (tgt := 42) hC.1 hC.2.1 dX8_donor_37 (by decide) (fun hc => ?_) (fun hc => ?_)
    · have hf := it_t hf hc
      refine lv_aload_n hC.1 hC.2.1 dX8_donor_42 rfl (lv_at hl 0 rfl) <| ?_
      obtain ⟨V_6, hu, hf⟩ := bd_some hf
      have hDc := hDt
      refine zcVZ (As := []) (rest := []) hC hK (met_X8_laysAid l D kA a n V_5 hDc hu) zwX8_121 hS (zFsub (hD V_5) [0, 1, 2, 3, 4, 5, 6, 7, 8, 9, 10, 11, 12, 13, 14, 15, 16] rfl) hP (q0 := 0) rfl rfl rfl rfl hl.1 rfl (Nat.le_of_ble_eq_true rfl) ⟨Nat.le_of_ble_eq_true rfl, Nat.le_of_ble_eq_true rfl⟩ ⟨rfl, rfl⟩ ⟨Nat.le_refl _, Nat.le_refl _⟩ dX8_donor_43 (fun H locs hP1 hk1 hS => ?_)
      have hP : va_P D vwCl (cs_X8 kA a V_6) H := hP1
      refine lv_aload_n hC.1 hC.2.1 dX8_donor_46 rfl (lv_at hl 0 rfl) <| ziload_n hC.1 hC.2.1 dX8_donor_47 rfl (lv_at hl 1 rfl) <| ziload_n hC.1 hC.2.1 dX8_donor_48 rfl (lv_at hl 2 rfl) <| ziload_n hC.1 hC.2.1 dX8_donor_49 rfl (lv_at hl 3 rfl) <| ?_
      obtain ⟨r_7, hu, hf⟩ := bd_some hf
      refine zcVP (As := [vI x1, vI x2, vI x3]) (rest := []) hC hK (met_X8_sumOf l D kA a n V_6 x1 x2 x3 hu) zwX8_290 hP (q0 := 0) rfl rfl rfl rfl hl.1 rfl (Nat.le_of_ble_eq_true rfl) ⟨Nat.le_of_ble_eq_true rfl, Nat.le_of_ble_eq_true rfl⟩ ⟨rfl, rfl⟩ ⟨Nat.le_refl _, Nat.le_refl _⟩ dX8_donor_50 <| ?_
      have hf := Option.some.inj hf
      simp only [Prod.mk.injEq] at hf
      exact hret (Int32.ofInt r_7) _ _ _ _ (congrArg (fun z => some (vI z)) hf.1.symm) (by rw [← hf.2]; exact hP) hS dX8_donor_53
    · have hf := it_f hf hc
      refine ziconst hC.1 hC.2.1 dX8_donor_40 <| ?_
      have hf := Option.some.inj hf
      simp only [Prod.mk.injEq] at hf
      exact hret (Int32.ofInt 0) _ _ _ _ (congrArg (fun z => some (vI z)) hf.1.symm) (by rw [← hf.2]; exact hP) hS dX8_donor_41
  have J28 : ∀ (V : Sz) (H : Heap) (locs : List Loc) (ls : Array Slot), jX8_donor_28 n x1 x2 x3 V = some (r, Vr) → va_P D vwCl (cs_X8 kA a V) H → va_S A0 s.heap H locs → lv_has ls 4 [(0, .ref (a 0)), (1, vI x1), (2, vI x2), (3, vI x3)] → W p l e rmX8_donor s m args below meth c H locs 0 0 Q (F0 m 28 ls [.ref (a 0)]) := by
    intro V H locs ls hf hP hS hl
    unfold jX8_donor_28 at hf
    exact ziconst hC.1 hC.2.1 dX8_donor_28 <| lv_goto (tgt := 33) hC.1 hC.2.1 dX8_donor_29 (by decide) <| J33 _ _ _ _ _ hf hP hS (lv_sub hl [0, 1, 2, 3] rfl)
  refine lv_aload_n hC.1 hC.2.1 dX8_donor_0 rfl (lv_at hl 0 rfl) <| ziload_n hC.1 hC.2.1 dX8_donor_1 rfl (lv_at hl 1 rfl) <| ?_
  obtain ⟨⟨r_1, V_2⟩, hu, hf⟩ := bd_some hf
  have hDc := hDt
  refine zcVZ (As := [vI x1]) (rest := []) hC hK (met_X8_noDonor l D kA a V0 x1 hDc hu) zwX8_287 hS (zFsub (hD V0) [0, 1, 2, 3, 4, 5, 6, 7, 8, 9, 10, 11, 12, 13, 14, 15, 16] rfl) hP (q0 := 0) rfl rfl rfl rfl hl.1 rfl (Nat.le_of_ble_eq_true rfl) ⟨Nat.le_of_ble_eq_true rfl, Nat.le_of_ble_eq_true rfl⟩ ⟨rfl, rfl⟩ ⟨Nat.le_refl _, Nat.le_refl _⟩ dX8_donor_2 (fun H locs hP1 hk1 hS => ?_)
  have hP : va_P D vwCl (cs_X8 kA a V_2) H := hP1
  refine zifb_ne (tgt := 40) hC.1 hC.2.1 dX8_donor_5 (by decide) (fun hc => ?_) (fun hc => ?_)
  · have hf := it_t hf hc
    refine ziconst hC.1 hC.2.1 dX8_donor_40 <| ?_
    have hf := Option.some.inj hf
    simp only [Prod.mk.injEq] at hf
    exact hret (Int32.ofInt 0) _ _ _ _ (congrArg (fun z => some (vI z)) hf.1.symm) (by rw [← hf.2]; exact hP) hS dX8_donor_41
  · have hf := it_f hf hc
    refine lv_aload_n hC.1 hC.2.1 dX8_donor_8 rfl (lv_at hl 0 rfl) <| ziload_n hC.1 hC.2.1 dX8_donor_9 rfl (lv_at hl 2 rfl) <| ziconst hC.1 hC.2.1 dX8_donor_10 <| ziconst hC.1 hC.2.1 dX8_donor_11 <| ?_
    obtain ⟨r_3, hu, hf⟩ := bd_some hf
    have hPc : va_P D vwCl ([] : va_W) _ := hP.sub [] rfl
    refine zcSP (As := [vI x2, vI 0, vI 4]) (rest := [.ref (a 0)]) hC hK (met_X8_inRange l D kA x2 0 4 hu) zwX8_79 hPc rfl hl.1 rfl (Nat.le_of_ble_eq_true rfl) ⟨Nat.le_of_ble_eq_true rfl, Nat.le_of_ble_eq_true rfl⟩ ⟨rfl, rfl⟩ ⟨Nat.le_refl _, Nat.le_refl _⟩ dX8_donor_12 <| zifb_eq (tgt := 28) hC.1 hC.2.1 dX8_donor_15 (by decide) (fun hc => ?_) (fun hc => ?_)
    · have hf := it_t hf hc
      exact J28 _ _ _ _ hf hP hS (lv_sub hl [0, 1, 2, 3] rfl)
    · have hf := it_f hf hc
      refine ziload_n hC.1 hC.2.1 dX8_donor_18 rfl (lv_at hl 3 rfl) <| ziconst hC.1 hC.2.1 dX8_donor_19 <| zbipush hC.1 hC.2.1 dX8_donor_20 (by decide) <| ?_
      obtain ⟨r_8, hu, hf⟩ := bd_some hf
      have hPc : va_P D vwCl ([] : va_W) _ := hP.sub [] rfl
      refine zcSP (As := [vI x3, vI (-1), vI 27]) (rest := [.ref (a 0)]) hC hK (met_X8_inRange l D kA x3 (-1) 27 hu) zwX8_79 hPc rfl hl.1 rfl (Nat.le_of_ble_eq_true rfl) ⟨Nat.le_of_ble_eq_true rfl, Nat.le_of_ble_eq_true rfl⟩ ⟨rfl, rfl⟩ ⟨Nat.le_refl _, Nat.le_refl _⟩ dX8_donor_22 <| zifb_ne (tgt := 32) hC.1 hC.2.1 dX8_donor_25 (by decide) (fun hc => ?_) (fun hc => ?_)
      · have hf := it_t hf hc
        exact ziconst hC.1 hC.2.1 dX8_donor_32 <| J33 _ _ _ _ _ hf hP hS (lv_sub hl [0, 1, 2, 3] rfl)
      · have hf := it_f hf hc
        exact J28 _ _ _ _ hf hP hS (lv_sub hl [0, 1, 2, 3] rfl)
theorem DX8_taxLimit_0 : ∀ q ∈ ([(0, .aload_n 0, 1), (1, .iload_n 1, 1), (2, .invokevirtual 287, 3), (5, .ifCond .eq 7, 3), (8, .iconst 0, 1), (9, .goto 12, 3), (12, .aload_n 0, 1), (13, .getfield 7, 3), (16, .bipush 10, 2), (18, .iload_n 1, 1), (19, .iadd, 1), (20, .iaload, 1), (21, .ireturn, 1)] : List (Nat × Instr × Nat)), decode cX8_taxLimit q.1 = .ok q.2 := by decide +kernel
theorem dX8_taxLimit_0 : decode cX8_taxLimit 0 = .ok (.aload_n 0, 1) := DX8_taxLimit_0 (0, .aload_n 0, 1) (List.mem_of_getElem? (i := 0) rfl)
theorem dX8_taxLimit_1 : decode cX8_taxLimit 1 = .ok (.iload_n 1, 1) := DX8_taxLimit_0 (1, .iload_n 1, 1) (List.mem_of_getElem? (i := 1) rfl)
theorem dX8_taxLimit_2 : decode cX8_taxLimit 2 = .ok (.invokevirtual 287, 3) := DX8_taxLimit_0 (2, .invokevirtual 287, 3) (List.mem_of_getElem? (i := 2) rfl)
theorem dX8_taxLimit_5 : decode cX8_taxLimit 5 = .ok (.ifCond .eq 7, 3) := DX8_taxLimit_0 (5, .ifCond .eq 7, 3) (List.mem_of_getElem? (i := 3) rfl)
theorem dX8_taxLimit_8 : decode cX8_taxLimit 8 = .ok (.iconst 0, 1) := DX8_taxLimit_0 (8, .iconst 0, 1) (List.mem_of_getElem? (i := 4) rfl)
theorem dX8_taxLimit_9 : decode cX8_taxLimit 9 = .ok (.goto 12, 3) := DX8_taxLimit_0 (9, .goto 12, 3) (List.mem_of_getElem? (i := 5) rfl)
theorem dX8_taxLimit_12 : decode cX8_taxLimit 12 = .ok (.aload_n 0, 1) := DX8_taxLimit_0 (12, .aload_n 0, 1) (List.mem_of_getElem? (i := 6) rfl)
theorem dX8_taxLimit_13 : decode cX8_taxLimit 13 = .ok (.getfield 7, 3) := DX8_taxLimit_0 (13, .getfield 7, 3) (List.mem_of_getElem? (i := 7) rfl)
theorem dX8_taxLimit_16 : decode cX8_taxLimit 16 = .ok (.bipush 10, 2) := DX8_taxLimit_0 (16, .bipush 10, 2) (List.mem_of_getElem? (i := 8) rfl)
theorem dX8_taxLimit_18 : decode cX8_taxLimit 18 = .ok (.iload_n 1, 1) := DX8_taxLimit_0 (18, .iload_n 1, 1) (List.mem_of_getElem? (i := 9) rfl)
theorem dX8_taxLimit_19 : decode cX8_taxLimit 19 = .ok (.iadd, 1) := DX8_taxLimit_0 (19, .iadd, 1) (List.mem_of_getElem? (i := 10) rfl)
theorem dX8_taxLimit_20 : decode cX8_taxLimit 20 = .ok (.iaload, 1) := DX8_taxLimit_0 (20, .iaload, 1) (List.mem_of_getElem? (i := 11) rfl)
theorem dX8_taxLimit_21 : decode cX8_taxLimit 21 = .ok (.ireturn, 1) := DX8_taxLimit_0 (21, .ireturn, 1) (List.mem_of_getElem? (i := 12) rfl)
abbrev rmX8_taxLimit : Room := { frames := 2, cells := 0, slots := 0, locals := 43 }
set_option maxHeartbeats 400000 in
set_option maxRecDepth 100000 in
theorem met_X8_taxLimit (l : Launch) (D : va_G) (kA : Nat → ClassId) (a : Nat → Nat) (V0 : Sz) (x1 : Int) (hDt : ∀ w : Sz, va_D (fun _ => True) (cs_X8 kA a w)) {r : Int} {Vr : Sz} (hf : f_X8_taxLimit V0 x1 = some (r, Vr)) : MZ l yX8_taxLimit cX8_taxLimit 2 (some .int) rmX8_taxLimit D kA [.ref (a 0), vI x1] (cs_X8 kA a V0) (cs_X8 kA a Vr) (some (vI r)) := by
  refine zZI (own := RX8) rfl rfl (Nat.le_of_ble_eq_true rfl) ?_
  intro p e s m args below meth c ls Q hC hK hP hl hret
  have hl : lv_has ls 2 [(0, .ref (a 0)), (1, vI x1)] := hl
  have hS : va_S (zF (cs_X8 kA a V0)) s.heap s.heap [] := va_S.rf
  have hD := zDself (C := fun w : Sz => (cs_X8 kA a w)) hDt V0 (fun _ => rfl)
  try dsimp only at hD
  generalize hAe : zF (cs_X8 kA a V0) = A0 at hS hD hret
  unfold f_X8_taxLimit at hf
  refine lv_aload_n hC.1 hC.2.1 dX8_taxLimit_0 rfl (lv_at hl 0 rfl) <| ziload_n hC.1 hC.2.1 dX8_taxLimit_1 rfl (lv_at hl 1 rfl) <| ?_
  obtain ⟨⟨r_1, V_2⟩, hu, hf⟩ := bd_some hf
  have hDc := hDt
  refine zcVZ (As := [vI x1]) (rest := []) hC hK (met_X8_noDonor l D kA a V0 x1 hDc hu) zwX8_287 hS (zFsub (hD V0) [0, 1, 2, 3, 4, 5, 6, 7, 8, 9, 10, 11, 12, 13, 14, 15, 16] rfl) hP (q0 := 0) rfl rfl rfl rfl hl.1 rfl (Nat.le_of_ble_eq_true rfl) ⟨Nat.le_of_ble_eq_true rfl, Nat.le_of_ble_eq_true rfl⟩ ⟨rfl, rfl⟩ ⟨Nat.le_refl _, Nat.le_refl _⟩ dX8_taxLimit_2 (fun H locs hP1 hk1 hS => ?_)
  have hP : va_P D vwCl (cs_X8 kA a V_2) H := hP1
  refine zifb_eq (tgt := 12) hC.1 hC.2.1 dX8_taxLimit_5 (by decide) (fun hc => ?_) (fun hc => ?_)
  · have hf := it_t hf hc
    refine lv_aload_n hC.1 hC.2.1 dX8_taxLimit_12 rfl (lv_at hl 0 rfl) <| gfX8_7 hC hK hP (q0 := 0) rfl rfl dX8_taxLimit_13 <| zbipush hC.1 hC.2.1 dX8_taxLimit_16 (by decide) <| ziload_n hC.1 hC.2.1 dX8_taxLimit_18 rfl (lv_at hl 1 rfl) <| ziadd hC.1 hC.2.1 dX8_taxLimit_19 <| ?_
    obtain ⟨hz_3, hf⟩ := ck_some hf
    refine jal hC hK hP (q0 := 1) rfl (Nat.le_of_ble_eq_true rfl) hz_3 rfl dX8_taxLimit_20 <| ?_
    have hf := Option.some.inj hf
    simp only [Prod.mk.injEq] at hf
    exact hret (Int32.ofInt (V_2 0 (10 + x1).toNat)) _ _ _ _ (congrArg (fun z => some (vI z)) hf.1.symm) (by rw [← hf.2]; exact hP) hS dX8_taxLimit_21
  · have hf := it_f hf hc
    refine ziconst hC.1 hC.2.1 dX8_taxLimit_8 <| lv_goto (tgt := 21) hC.1 hC.2.1 dX8_taxLimit_9 (by decide) <| ?_
    have hf := Option.some.inj hf
    simp only [Prod.mk.injEq] at hf
    exact hret (Int32.ofInt 0) _ _ _ _ (congrArg (fun z => some (vI z)) hf.1.symm) (by rw [← hf.2]; exact hP) hS dX8_taxLimit_21
theorem DX8_isDeclared_0 : ∀ q ∈ ([(0, .aload_n 0, 1), (1, .iload_n 1, 1), (2, .invokevirtual 287, 3), (5, .ifCond .ne 16, 3), (8, .aload_n 0, 1), (9, .iload_n 1, 1), (10, .iload_n 2, 1), (11, .invokevirtual 93, 3), (14, .ifCond .eq 7, 3), (17, .iconst 1, 1), (18, .goto 4, 3), (21, .iconst 0, 1), (22, .ireturn, 1)] : List (Nat × Instr × Nat)), decode cX8_isDeclared q.1 = .ok q.2 := by decide +kernel
theorem dX8_isDeclared_0 : decode cX8_isDeclared 0 = .ok (.aload_n 0, 1) := DX8_isDeclared_0 (0, .aload_n 0, 1) (List.mem_of_getElem? (i := 0) rfl)
theorem dX8_isDeclared_1 : decode cX8_isDeclared 1 = .ok (.iload_n 1, 1) := DX8_isDeclared_0 (1, .iload_n 1, 1) (List.mem_of_getElem? (i := 1) rfl)
theorem dX8_isDeclared_2 : decode cX8_isDeclared 2 = .ok (.invokevirtual 287, 3) := DX8_isDeclared_0 (2, .invokevirtual 287, 3) (List.mem_of_getElem? (i := 2) rfl)
theorem dX8_isDeclared_5 : decode cX8_isDeclared 5 = .ok (.ifCond .ne 16, 3) := DX8_isDeclared_0 (5, .ifCond .ne 16, 3) (List.mem_of_getElem? (i := 3) rfl)
theorem dX8_isDeclared_8 : decode cX8_isDeclared 8 = .ok (.aload_n 0, 1) := DX8_isDeclared_0 (8, .aload_n 0, 1) (List.mem_of_getElem? (i := 4) rfl)
theorem dX8_isDeclared_9 : decode cX8_isDeclared 9 = .ok (.iload_n 1, 1) := DX8_isDeclared_0 (9, .iload_n 1, 1) (List.mem_of_getElem? (i := 5) rfl)
theorem dX8_isDeclared_10 : decode cX8_isDeclared 10 = .ok (.iload_n 2, 1) := DX8_isDeclared_0 (10, .iload_n 2, 1) (List.mem_of_getElem? (i := 6) rfl)
theorem dX8_isDeclared_11 : decode cX8_isDeclared 11 = .ok (.invokevirtual 93, 3) := DX8_isDeclared_0 (11, .invokevirtual 93, 3) (List.mem_of_getElem? (i := 7) rfl)
theorem dX8_isDeclared_14 : decode cX8_isDeclared 14 = .ok (.ifCond .eq 7, 3) := DX8_isDeclared_0 (14, .ifCond .eq 7, 3) (List.mem_of_getElem? (i := 8) rfl)
theorem dX8_isDeclared_17 : decode cX8_isDeclared 17 = .ok (.iconst 1, 1) := DX8_isDeclared_0 (17, .iconst 1, 1) (List.mem_of_getElem? (i := 9) rfl)
theorem dX8_isDeclared_18 : decode cX8_isDeclared 18 = .ok (.goto 4, 3) := DX8_isDeclared_0 (18, .goto 4, 3) (List.mem_of_getElem? (i := 10) rfl)
theorem dX8_isDeclared_21 : decode cX8_isDeclared 21 = .ok (.iconst 0, 1) := DX8_isDeclared_0 (21, .iconst 0, 1) (List.mem_of_getElem? (i := 11) rfl)
theorem dX8_isDeclared_22 : decode cX8_isDeclared 22 = .ok (.ireturn, 1) := DX8_isDeclared_0 (22, .ireturn, 1) (List.mem_of_getElem? (i := 12) rfl)
abbrev rmX8_isDeclared : Room := { frames := 2, cells := 0, slots := 0, locals := 45 }
set_option maxHeartbeats 400000 in
set_option maxRecDepth 100000 in
theorem met_X8_isDeclared (l : Launch) (D : va_G) (kA : Nat → ClassId) (a : Nat → Nat) (n : Nat) (V0 : Sz) (x1 : Int) (x2 : Int) (hDt : ∀ w : Sz, va_D (fun _ => True) (cs_X8 kA a w)) {r : Bool} {Vr : Sz} (hf : f_X8_isDeclared n V0 x1 x2 = some (r, Vr)) : MZ l yX8_isDeclared cX8_isDeclared 3 (some .boolean) rmX8_isDeclared D kA [.ref (a 0), vI x1, vI x2] (cs_X8 kA a V0) (cs_X8 kA a Vr) (some (vI (bI r))) := by
  refine zZZ (own := RX8) rfl rfl (Nat.le_of_ble_eq_true rfl) ?_
  intro p e s m args below meth c ls Q hC hK hP hl hret
  have hl : lv_has ls 3 [(0, .ref (a 0)), (1, vI x1), (2, vI x2)] := hl
  have hS : va_S (zF (cs_X8 kA a V0)) s.heap s.heap [] := va_S.rf
  have hD := zDself (C := fun w : Sz => (cs_X8 kA a w)) hDt V0 (fun _ => rfl)
  try dsimp only at hD
  generalize hAe : zF (cs_X8 kA a V0) = A0 at hS hD hret
  unfold f_X8_isDeclared at hf
  refine lv_aload_n hC.1 hC.2.1 dX8_isDeclared_0 rfl (lv_at hl 0 rfl) <| ziload_n hC.1 hC.2.1 dX8_isDeclared_1 rfl (lv_at hl 1 rfl) <| ?_
  obtain ⟨⟨r_1, V_2⟩, hu, hf⟩ := bd_some hf
  have hDc := hDt
  refine zcVZ (As := [vI x1]) (rest := []) hC hK (met_X8_noDonor l D kA a V0 x1 hDc hu) zwX8_287 hS (zFsub (hD V0) [0, 1, 2, 3, 4, 5, 6, 7, 8, 9, 10, 11, 12, 13, 14, 15, 16] rfl) hP (q0 := 0) rfl rfl rfl rfl hl.1 rfl (Nat.le_of_ble_eq_true rfl) ⟨Nat.le_of_ble_eq_true rfl, Nat.le_of_ble_eq_true rfl⟩ ⟨rfl, rfl⟩ ⟨Nat.le_refl _, Nat.le_refl _⟩ dX8_isDeclared_2 (fun H locs hP1 hk1 hS => ?_)
  have hP : va_P D vwCl (cs_X8 kA a V_2) H := hP1
  refine zifb_ne (tgt := 21) hC.1 hC.2.1 dX8_isDeclared_5 (by decide) (fun hc => ?_) (fun hc => ?_)
  · have hf := it_t hf hc
    refine ziconst hC.1 hC.2.1 dX8_isDeclared_21 <| ?_
    have hf := Option.some.inj hf
    simp only [Prod.mk.injEq] at hf
    exact hret (Int32.ofInt (bI false)) _ _ _ _ (zb01 _) (congrArg (fun z => some (vI (bI z))) hf.1.symm) (by rw [← hf.2]; exact hP) hS dX8_isDeclared_22
  · have hf := it_f hf hc
    refine lv_aload_n hC.1 hC.2.1 dX8_isDeclared_8 rfl (lv_at hl 0 rfl) <| ziload_n hC.1 hC.2.1 dX8_isDeclared_9 rfl (lv_at hl 1 rfl) <| ziload_n hC.1 hC.2.1 dX8_isDeclared_10 rfl (lv_at hl 2 rfl) <| ?_
    obtain ⟨r_3, hu, hf⟩ := bd_some hf
    refine zcVP (As := [vI x1, vI x2]) (rest := []) hC hK (met_X8_isForced l D kA a n V_2 x1 x2 hu) zwX8_93 hP (q0 := 0) rfl rfl rfl rfl hl.1 rfl (Nat.le_of_ble_eq_true rfl) ⟨Nat.le_of_ble_eq_true rfl, Nat.le_of_ble_eq_true rfl⟩ ⟨rfl, rfl⟩ ⟨Nat.le_refl _, Nat.le_refl _⟩ dX8_isDeclared_11 <| zifb_eq (tgt := 21) hC.1 hC.2.1 dX8_isDeclared_14 (by decide) (fun hc => ?_) (fun hc => ?_)
    · have hf := it_t hf hc
      refine ziconst hC.1 hC.2.1 dX8_isDeclared_21 <| ?_
      have hf := Option.some.inj hf
      simp only [Prod.mk.injEq] at hf
      exact hret (Int32.ofInt (bI false)) _ _ _ _ (zb01 _) (congrArg (fun z => some (vI (bI z))) hf.1.symm) (by rw [← hf.2]; exact hP) hS dX8_isDeclared_22
    · have hf := it_f hf hc
      refine ziconst hC.1 hC.2.1 dX8_isDeclared_17 <| lv_goto (tgt := 22) hC.1 hC.2.1 dX8_isDeclared_18 (by decide) <| ?_
      have hf := Option.some.inj hf
      simp only [Prod.mk.injEq] at hf
      exact hret (Int32.ofInt (bI true)) _ _ _ _ (zb01 _) (congrArg (fun z => some (vI (bI z))) hf.1.symm) (by rw [← hf.2]; exact hP) hS dX8_isDeclared_22
theorem DX8_noSpan_0 : ∀ q ∈ ([(0, .aload_n 0, 1), (1, .iload_n 1, 1), (2, .iconst 0, 1), (3, .sipush 9999, 3), (6, .invokestatic 79, 3), (9, .ifCond .eq 14, 3), (12, .iload_n 2, 1), (13, .iload_n 1, 1), (14, .sipush 9999, 3), (17, .invokestatic 79, 3), (20, .ifCond .ne 7, 3), (23, .iconst 1, 1), (24, .goto 4, 3), (27, .iconst 0, 1), (28, .iconst 2, 1), (29, .invokevirtual 261, 3), (32, .ireturn, 1)] : List (Nat × Instr × Nat)), decode cX8_noSpan q.1 = .ok q.2 := by decide +kernel
theorem dX8_noSpan_0 : decode cX8_noSpan 0 = .ok (.aload_n 0, 1) := DX8_noSpan_0 (0, .aload_n 0, 1) (List.mem_of_getElem? (i := 0) rfl)
theorem dX8_noSpan_1 : decode cX8_noSpan 1 = .ok (.iload_n 1, 1) := DX8_noSpan_0 (1, .iload_n 1, 1) (List.mem_of_getElem? (i := 1) rfl)
theorem dX8_noSpan_2 : decode cX8_noSpan 2 = .ok (.iconst 0, 1) := DX8_noSpan_0 (2, .iconst 0, 1) (List.mem_of_getElem? (i := 2) rfl)
theorem dX8_noSpan_3 : decode cX8_noSpan 3 = .ok (.sipush 9999, 3) := DX8_noSpan_0 (3, .sipush 9999, 3) (List.mem_of_getElem? (i := 3) rfl)
theorem dX8_noSpan_6 : decode cX8_noSpan 6 = .ok (.invokestatic 79, 3) := DX8_noSpan_0 (6, .invokestatic 79, 3) (List.mem_of_getElem? (i := 4) rfl)
theorem dX8_noSpan_9 : decode cX8_noSpan 9 = .ok (.ifCond .eq 14, 3) := DX8_noSpan_0 (9, .ifCond .eq 14, 3) (List.mem_of_getElem? (i := 5) rfl)
theorem dX8_noSpan_12 : decode cX8_noSpan 12 = .ok (.iload_n 2, 1) := DX8_noSpan_0 (12, .iload_n 2, 1) (List.mem_of_getElem? (i := 6) rfl)
theorem dX8_noSpan_13 : decode cX8_noSpan 13 = .ok (.iload_n 1, 1) := DX8_noSpan_0 (13, .iload_n 1, 1) (List.mem_of_getElem? (i := 7) rfl)
theorem dX8_noSpan_14 : decode cX8_noSpan 14 = .ok (.sipush 9999, 3) := DX8_noSpan_0 (14, .sipush 9999, 3) (List.mem_of_getElem? (i := 8) rfl)
theorem dX8_noSpan_17 : decode cX8_noSpan 17 = .ok (.invokestatic 79, 3) := DX8_noSpan_0 (17, .invokestatic 79, 3) (List.mem_of_getElem? (i := 9) rfl)
theorem dX8_noSpan_20 : decode cX8_noSpan 20 = .ok (.ifCond .ne 7, 3) := DX8_noSpan_0 (20, .ifCond .ne 7, 3) (List.mem_of_getElem? (i := 10) rfl)
theorem dX8_noSpan_23 : decode cX8_noSpan 23 = .ok (.iconst 1, 1) := DX8_noSpan_0 (23, .iconst 1, 1) (List.mem_of_getElem? (i := 11) rfl)
theorem dX8_noSpan_24 : decode cX8_noSpan 24 = .ok (.goto 4, 3) := DX8_noSpan_0 (24, .goto 4, 3) (List.mem_of_getElem? (i := 12) rfl)
theorem dX8_noSpan_27 : decode cX8_noSpan 27 = .ok (.iconst 0, 1) := DX8_noSpan_0 (27, .iconst 0, 1) (List.mem_of_getElem? (i := 13) rfl)
theorem dX8_noSpan_28 : decode cX8_noSpan 28 = .ok (.iconst 2, 1) := DX8_noSpan_0 (28, .iconst 2, 1) (List.mem_of_getElem? (i := 14) rfl)
theorem dX8_noSpan_29 : decode cX8_noSpan 29 = .ok (.invokevirtual 261, 3) := DX8_noSpan_0 (29, .invokevirtual 261, 3) (List.mem_of_getElem? (i := 15) rfl)
theorem dX8_noSpan_32 : decode cX8_noSpan 32 = .ok (.ireturn, 1) := DX8_noSpan_0 (32, .ireturn, 1) (List.mem_of_getElem? (i := 16) rfl)
abbrev rmX8_noSpan : Room := { frames := 1, cells := 0, slots := 0, locals := 22 }
set_option maxHeartbeats 400000 in
set_option maxRecDepth 100000 in
theorem met_X8_noSpan (l : Launch) (D : va_G) (kA : Nat → ClassId) (a : Nat → Nat) (V0 : Sz) (x1 : Int) (x2 : Int) (hDt : ∀ w : Sz, va_D (fun _ => True) (cs_X8 kA a w)) {r : Bool} {Vr : Sz} (hf : f_X8_noSpan V0 x1 x2 = some (r, Vr)) : MZ l yX8_noSpan cX8_noSpan 3 (some .boolean) rmX8_noSpan D kA [.ref (a 0), vI x1, vI x2] (cs_X8 kA a V0) (cs_X8 kA a Vr) (some (vI (bI r))) := by
  refine zZZ (own := RX8) rfl rfl (Nat.le_of_ble_eq_true rfl) ?_
  intro p e s m args below meth c ls Q hC hK hP hl hret
  have hl : lv_has ls 3 [(0, .ref (a 0)), (1, vI x1), (2, vI x2)] := hl
  have hS : va_S (zF (cs_X8 kA a V0)) s.heap s.heap [] := va_S.rf
  have hD := zDself (C := fun w : Sz => (cs_X8 kA a w)) hDt V0 (fun _ => rfl)
  try dsimp only at hD
  generalize hAe : zF (cs_X8 kA a V0) = A0 at hS hD hret
  unfold f_X8_noSpan at hf
  have J28 : ∀ (V : Sz) (z0 : Int) (H : Heap) (locs : List Loc) (ls : Array Slot), jX8_noSpan_28 x1 x2 V z0 = some (r, Vr) → va_P D vwCl (cs_X8 kA a V) H → va_S A0 s.heap H locs → lv_has ls 3 [] → W p l e rmX8_noSpan s m args below meth c H locs 0 0 Q (F0 m 28 ls [vI z0, .ref (a 0)]) := by
    intro V z0 H locs ls hf hP hS hl
    unfold jX8_noSpan_28 at hf
    refine ziconst hC.1 hC.2.1 dX8_noSpan_28 <| ?_
    obtain ⟨⟨r_2, V_3⟩, hu, hf⟩ := bd_some hf
    have hDc := hDt
    refine zcVZ (As := [vI z0, vI 2]) (rest := []) hC hK (met_X8_fails l D kA a V z0 2 hDc hu) zwX8_261 hS (zFsub (hD V) [0, 1, 2, 3, 4, 5, 6, 7, 8, 9, 10, 11, 12, 13, 14, 15, 16] rfl) hP (q0 := 0) rfl rfl rfl rfl hl.1 rfl (Nat.le_of_ble_eq_true rfl) ⟨Nat.le_of_ble_eq_true rfl, Nat.le_of_ble_eq_true rfl⟩ ⟨rfl, rfl⟩ ⟨Nat.le_refl _, Nat.le_refl _⟩ dX8_noSpan_29 (fun H locs hP1 hk1 hS => ?_)
    have hP : va_P D vwCl (cs_X8 kA a V_3) H := hP1
    have hf := Option.some.inj hf
    simp only [Prod.mk.injEq] at hf
    exact hret (Int32.ofInt (bI r_2)) _ _ _ _ (zb01 _) (congrArg (fun z => some (vI (bI z))) hf.1.symm) (by rw [← hf.2]; exact hP) hS dX8_noSpan_32
  have J23 : ∀ (V : Sz) (H : Heap) (locs : List Loc) (ls : Array Slot), jX8_noSpan_23 x1 x2 V = some (r, Vr) → va_P D vwCl (cs_X8 kA a V) H → va_S A0 s.heap H locs → lv_has ls 3 [] → W p l e rmX8_noSpan s m args below meth c H locs 0 0 Q (F0 m 23 ls [.ref (a 0)]) := by
    intro V H locs ls hf hP hS hl
    unfold jX8_noSpan_23 at hf
    exact ziconst hC.1 hC.2.1 dX8_noSpan_23 <| lv_goto (tgt := 28) hC.1 hC.2.1 dX8_noSpan_24 (by decide) <| J28 _ _ _ _ _ hf hP hS (lv_sub hl [] rfl)
  refine lv_aload_n hC.1 hC.2.1 dX8_noSpan_0 rfl (lv_at hl 0 rfl) <| ziload_n hC.1 hC.2.1 dX8_noSpan_1 rfl (lv_at hl 1 rfl) <| ziconst hC.1 hC.2.1 dX8_noSpan_2 <| zsipush hC.1 hC.2.1 dX8_noSpan_3 (by decide) <| ?_
  obtain ⟨r_1, hu, hf⟩ := bd_some hf
  have hPc : va_P D vwCl ([] : va_W) _ := hP.sub [] rfl
  refine zcSP (As := [vI x1, vI 0, vI 9999]) (rest := [.ref (a 0)]) hC hK (met_X8_inRange l D kA x1 0 9999 hu) zwX8_79 hPc rfl hl.1 rfl (Nat.le_of_ble_eq_true rfl) ⟨Nat.le_of_ble_eq_true rfl, Nat.le_of_ble_eq_true rfl⟩ ⟨rfl, rfl⟩ ⟨Nat.le_refl _, Nat.le_refl _⟩ dX8_noSpan_6 <| zifb_eq (tgt := 23) hC.1 hC.2.1 dX8_noSpan_9 (by decide) (fun hc => ?_) (fun hc => ?_)
  · have hf := it_t hf hc
    exact J23 _ _ _ _ hf hP hS (lv_sub hl [] rfl)
  · have hf := it_f hf hc
    refine ziload_n hC.1 hC.2.1 dX8_noSpan_12 rfl (lv_at hl 2 rfl) <| ziload_n hC.1 hC.2.1 dX8_noSpan_13 rfl (lv_at hl 1 rfl) <| zsipush hC.1 hC.2.1 dX8_noSpan_14 (by decide) <| ?_
    obtain ⟨r_4, hu, hf⟩ := bd_some hf
    have hPc : va_P D vwCl ([] : va_W) _ := hP.sub [] rfl
    refine zcSP (As := [vI x2, vI x1, vI 9999]) (rest := [.ref (a 0)]) hC hK (met_X8_inRange l D kA x2 x1 9999 hu) zwX8_79 hPc rfl hl.1 rfl (Nat.le_of_ble_eq_true rfl) ⟨Nat.le_of_ble_eq_true rfl, Nat.le_of_ble_eq_true rfl⟩ ⟨rfl, rfl⟩ ⟨Nat.le_refl _, Nat.le_refl _⟩ dX8_noSpan_17 <| zifb_ne (tgt := 27) hC.1 hC.2.1 dX8_noSpan_20 (by decide) (fun hc => ?_) (fun hc => ?_)
    · have hf := it_t hf hc
      exact ziconst hC.1 hC.2.1 dX8_noSpan_27 <| J28 _ _ _ _ _ hf hP hS (lv_sub hl [] rfl)
    · have hf := it_f hf hc
      exact J23 _ _ _ _ hf hP hS (lv_sub hl [] rfl)
theorem DX8_coverage_0 : ∀ q ∈ ([(0, .aload_n 0, 1), (1, .iload_n 1, 1), (2, .invokevirtual 287, 3), (5, .ifCond .ne 12, 3), (8, .aload_n 0, 1), (9, .iload_n 2, 1), (10, .iload_n 3, 1), (11, .invokevirtual 294, 3), (14, .ifCond .eq 5, 3), (17, .iconst 0, 1), (18, .ireturn, 1), (19, .iconst 0, 1), (20, .istore 4, 2), (22, .iload_n 2, 1), (23, .istore 5, 2), (25, .iload 5, 2), (27, .iload_n 3, 1), (28, .if_icmp .gt 29, 3), (31, .iload 4, 2), (33, .aload_n 0, 1), (34, .iload_n 1, 1), (35, .iload 5, 2), (37, .invokevirtual 93, 3), (40, .ifCond .eq 7, 3), (43, .iconst 1, 1), (44, .goto 4, 3), (47, .iconst 0, 1), (48, .iadd, 1), (49, .istore 4, 2), (51, .iinc 5 1, 3), (54, .goto (-29), 3), (57, .iload 4, 2), (59, .ireturn, 1)] : List (Nat × Instr × Nat)), decode cX8_coverage q.1 = .ok q.2 := by decide +kernel
theorem dX8_coverage_0 : decode cX8_coverage 0 = .ok (.aload_n 0, 1) := DX8_coverage_0 (0, .aload_n 0, 1) (List.mem_of_getElem? (i := 0) rfl)
theorem dX8_coverage_1 : decode cX8_coverage 1 = .ok (.iload_n 1, 1) := DX8_coverage_0 (1, .iload_n 1, 1) (List.mem_of_getElem? (i := 1) rfl)
theorem dX8_coverage_2 : decode cX8_coverage 2 = .ok (.invokevirtual 287, 3) := DX8_coverage_0 (2, .invokevirtual 287, 3) (List.mem_of_getElem? (i := 2) rfl)
theorem dX8_coverage_5 : decode cX8_coverage 5 = .ok (.ifCond .ne 12, 3) := DX8_coverage_0 (5, .ifCond .ne 12, 3) (List.mem_of_getElem? (i := 3) rfl)
theorem dX8_coverage_8 : decode cX8_coverage 8 = .ok (.aload_n 0, 1) := DX8_coverage_0 (8, .aload_n 0, 1) (List.mem_of_getElem? (i := 4) rfl)
theorem dX8_coverage_9 : decode cX8_coverage 9 = .ok (.iload_n 2, 1) := DX8_coverage_0 (9, .iload_n 2, 1) (List.mem_of_getElem? (i := 5) rfl)
theorem dX8_coverage_10 : decode cX8_coverage 10 = .ok (.iload_n 3, 1) := DX8_coverage_0 (10, .iload_n 3, 1) (List.mem_of_getElem? (i := 6) rfl)
theorem dX8_coverage_11 : decode cX8_coverage 11 = .ok (.invokevirtual 294, 3) := DX8_coverage_0 (11, .invokevirtual 294, 3) (List.mem_of_getElem? (i := 7) rfl)
theorem dX8_coverage_14 : decode cX8_coverage 14 = .ok (.ifCond .eq 5, 3) := DX8_coverage_0 (14, .ifCond .eq 5, 3) (List.mem_of_getElem? (i := 8) rfl)
theorem dX8_coverage_17 : decode cX8_coverage 17 = .ok (.iconst 0, 1) := DX8_coverage_0 (17, .iconst 0, 1) (List.mem_of_getElem? (i := 9) rfl)
theorem dX8_coverage_18 : decode cX8_coverage 18 = .ok (.ireturn, 1) := DX8_coverage_0 (18, .ireturn, 1) (List.mem_of_getElem? (i := 10) rfl)
theorem dX8_coverage_19 : decode cX8_coverage 19 = .ok (.iconst 0, 1) := DX8_coverage_0 (19, .iconst 0, 1) (List.mem_of_getElem? (i := 11) rfl)
theorem dX8_coverage_20 : decode cX8_coverage 20 = .ok (.istore 4, 2) := DX8_coverage_0 (20, .istore 4, 2) (List.mem_of_getElem? (i := 12) rfl)
theorem dX8_coverage_22 : decode cX8_coverage 22 = .ok (.iload_n 2, 1) := DX8_coverage_0 (22, .iload_n 2, 1) (List.mem_of_getElem? (i := 13) rfl)
theorem dX8_coverage_23 : decode cX8_coverage 23 = .ok (.istore 5, 2) := DX8_coverage_0 (23, .istore 5, 2) (List.mem_of_getElem? (i := 14) rfl)
theorem dX8_coverage_25 : decode cX8_coverage 25 = .ok (.iload 5, 2) := DX8_coverage_0 (25, .iload 5, 2) (List.mem_of_getElem? (i := 15) rfl)
theorem dX8_coverage_27 : decode cX8_coverage 27 = .ok (.iload_n 3, 1) := DX8_coverage_0 (27, .iload_n 3, 1) (List.mem_of_getElem? (i := 16) rfl)
theorem dX8_coverage_28 : decode cX8_coverage 28 = .ok (.if_icmp .gt 29, 3) := DX8_coverage_0 (28, .if_icmp .gt 29, 3) (List.mem_of_getElem? (i := 17) rfl)
theorem dX8_coverage_31 : decode cX8_coverage 31 = .ok (.iload 4, 2) := DX8_coverage_0 (31, .iload 4, 2) (List.mem_of_getElem? (i := 18) rfl)
theorem dX8_coverage_33 : decode cX8_coverage 33 = .ok (.aload_n 0, 1) := DX8_coverage_0 (33, .aload_n 0, 1) (List.mem_of_getElem? (i := 19) rfl)
theorem dX8_coverage_34 : decode cX8_coverage 34 = .ok (.iload_n 1, 1) := DX8_coverage_0 (34, .iload_n 1, 1) (List.mem_of_getElem? (i := 20) rfl)
theorem dX8_coverage_35 : decode cX8_coverage 35 = .ok (.iload 5, 2) := DX8_coverage_0 (35, .iload 5, 2) (List.mem_of_getElem? (i := 21) rfl)
theorem dX8_coverage_37 : decode cX8_coverage 37 = .ok (.invokevirtual 93, 3) := DX8_coverage_0 (37, .invokevirtual 93, 3) (List.mem_of_getElem? (i := 22) rfl)
theorem dX8_coverage_40 : decode cX8_coverage 40 = .ok (.ifCond .eq 7, 3) := DX8_coverage_0 (40, .ifCond .eq 7, 3) (List.mem_of_getElem? (i := 23) rfl)
theorem dX8_coverage_43 : decode cX8_coverage 43 = .ok (.iconst 1, 1) := DX8_coverage_0 (43, .iconst 1, 1) (List.mem_of_getElem? (i := 24) rfl)
theorem dX8_coverage_44 : decode cX8_coverage 44 = .ok (.goto 4, 3) := DX8_coverage_0 (44, .goto 4, 3) (List.mem_of_getElem? (i := 25) rfl)
theorem dX8_coverage_47 : decode cX8_coverage 47 = .ok (.iconst 0, 1) := DX8_coverage_0 (47, .iconst 0, 1) (List.mem_of_getElem? (i := 26) rfl)
theorem dX8_coverage_48 : decode cX8_coverage 48 = .ok (.iadd, 1) := DX8_coverage_0 (48, .iadd, 1) (List.mem_of_getElem? (i := 27) rfl)
theorem dX8_coverage_49 : decode cX8_coverage 49 = .ok (.istore 4, 2) := DX8_coverage_0 (49, .istore 4, 2) (List.mem_of_getElem? (i := 28) rfl)
theorem dX8_coverage_51 : decode cX8_coverage 51 = .ok (.iinc 5 1, 3) := DX8_coverage_0 (51, .iinc 5 1, 3) (List.mem_of_getElem? (i := 29) rfl)
theorem dX8_coverage_54 : decode cX8_coverage 54 = .ok (.goto (-29), 3) := DX8_coverage_0 (54, .goto (-29), 3) (List.mem_of_getElem? (i := 30) rfl)
theorem dX8_coverage_57 : decode cX8_coverage 57 = .ok (.iload 4, 2) := DX8_coverage_0 (57, .iload 4, 2) (List.mem_of_getElem? (i := 31) rfl)
theorem dX8_coverage_59 : decode cX8_coverage 59 = .ok (.ireturn, 1) := DX8_coverage_0 (59, .ireturn, 1) (List.mem_of_getElem? (i := 32) rfl)
abbrev rmX8_coverage : Room := { frames := 2, cells := 0, slots := 0, locals := 45 }
set_option maxHeartbeats 400000 in
set_option maxRecDepth 100000 in
theorem met_X8_coverage (l : Launch) (D : va_G) (kA : Nat → ClassId) (a : Nat → Nat) (n : Nat) (V0 : Sz) (x1 : Int) (x2 : Int) (x3 : Int) (hDt : ∀ w : Sz, va_D (fun _ => True) (cs_X8 kA a w)) {r : Int} {Vr : Sz} (hf : f_X8_coverage n V0 x1 x2 x3 = some (r, Vr)) : MZ l yX8_coverage cX8_coverage 6 (some .int) rmX8_coverage D kA [.ref (a 0), vI x1, vI x2, vI x3] (cs_X8 kA a V0) (cs_X8 kA a Vr) (some (vI r)) := by
  refine zZI (own := RX8) rfl rfl (Nat.le_of_ble_eq_true rfl) ?_
  intro p e s m args below meth c ls Q hC hK hP hl hret
  have hl : lv_has ls 6 [(0, .ref (a 0)), (1, vI x1), (2, vI x2), (3, vI x3)] := hl
  have hS : va_S (zF (cs_X8 kA a V0)) s.heap s.heap [] := va_S.rf
  have hD := zDself (C := fun w : Sz => (cs_X8 kA a w)) hDt V0 (fun _ => rfl)
  try dsimp only at hD
  generalize hAe : zF (cs_X8 kA a V0) = A0 at hS hD hret
  unfold f_X8_coverage at hf
  have L25 : ∀ (k25 : Nat) (y4 : Int) (y5 : Int) (V : Sz) (H : Heap) (locs : List Loc) (ls : Array Slot), lpF (bX8_coverage_25 n x1 x2 x3) k25 (y4, y5, V) = some (r, Vr) → va_P D vwCl (cs_X8 kA a V) H → va_S A0 s.heap H locs → lv_has ls 6 [(0, .ref (a 0)), (1, vI x1), (3, vI x3), (4, vI y4), (5, vI y5)] → W p l e rmX8_coverage s m args below meth c H locs 0 0 Q (F0 m 25 ls []) := by
    intro k25
    induction k25 with
    | zero => intro y4 y5 V H locs ls hf hP hS hl; exact lp_0 hf
    | succ k25 ih25 =>
      intro y4 y5 V H locs ls hf hP hS hl
      have hf := lp_s hf
      rw [bX8_coverage_25_e] at hf
      have J48 : ∀ (y5 : Int) (V : Sz) (z0 : Int) (z1 : Int) (H : Heap) (locs : List Loc) (ls : Array Slot), jX8_coverage_48 n x1 x2 x3 (lpF (bX8_coverage_25 n x1 x2 x3) k25) y5 V z0 z1 = some (r, Vr) → va_P D vwCl (cs_X8 kA a V) H → va_S A0 s.heap H locs → lv_has ls 6 [(0, .ref (a 0)), (1, vI x1), (3, vI x3), (5, vI y5)] → W p l e rmX8_coverage s m args below meth c H locs 0 0 Q (F0 m 48 ls [vI z0, vI z1]) := by
        intro y5 V z0 z1 H locs ls hf hP hS hl
        unfold jX8_coverage_48 at hf
        refine ziadd hC.1 hC.2.1 dX8_coverage_48 <| ?_
        refine ztopi (fun x_7 ex_7 => ?_)
        have hf := nm_at hf ex_7
        refine zistore (lv' := [(4, vI x_7), (0, .ref (a 0)), (1, vI x1), (3, vI x3), (5, vI y5)]) hC.1 hC.2.1 dX8_coverage_49 hl (by decide) rfl (fun ls hl => ?_)
        obtain ⟨x_8, ex_8⟩ : ∃ y : Int, y = y5 + 1 := ⟨_, rfl⟩
        have hf := nm_at hf ex_8
        refine ziinc (v := x_8) (lv' := [(5, vI x_8), (4, vI x_7), (0, .ref (a 0)), (1, vI x1), (3, vI x3)]) hC.1 hC.2.1 dX8_coverage_51 hl (k := 4) rfl ex_8 (by decide) rfl (fun ls hl => ?_)
        exact lv_goto (tgt := 25) hC.1 hC.2.1 dX8_coverage_54 (by decide) <| ih25 _ _ _ _ _ _ hf hP hS (lv_sub hl [2, 3, 4, 1, 0] rfl)
      refine ziload hC.1 hC.2.1 dX8_coverage_25 (lv_at hl 4 rfl) <| ziload_n hC.1 hC.2.1 dX8_coverage_27 rfl (lv_at hl 2 rfl) <| ?_
      obtain ⟨hz_5, hf⟩ := ck_some hf
      refine zicmp_gt (tgt := 57) hC.1 hC.2.1 ⟨hz_5.1, hz_5.2⟩ dX8_coverage_28 (by decide) (fun hc => ?_) (fun hc => ?_)
      · have hf := it_t hf hc
        refine ziload hC.1 hC.2.1 dX8_coverage_57 (lv_at hl 3 rfl) <| ?_
        have hf := Option.some.inj hf
        simp only [Prod.mk.injEq] at hf
        exact hret (Int32.ofInt y4) _ _ _ _ (congrArg (fun z => some (vI z)) hf.1.symm) (by rw [← hf.2]; exact hP) hS dX8_coverage_59
      · have hf := it_f hf hc
        refine ziload hC.1 hC.2.1 dX8_coverage_31 (lv_at hl 3 rfl) <| lv_aload_n hC.1 hC.2.1 dX8_coverage_33 rfl (lv_at hl 0 rfl) <| ziload_n hC.1 hC.2.1 dX8_coverage_34 rfl (lv_at hl 1 rfl) <| ziload hC.1 hC.2.1 dX8_coverage_35 (lv_at hl 4 rfl) <| ?_
        obtain ⟨r_6, hu, hf⟩ := bd_some hf
        refine zcVP (As := [vI x1, vI y5]) (rest := [vI y4]) hC hK (met_X8_isForced l D kA a n V x1 y5 hu) zwX8_93 hP (q0 := 0) rfl rfl rfl rfl hl.1 rfl (Nat.le_of_ble_eq_true rfl) ⟨Nat.le_of_ble_eq_true rfl, Nat.le_of_ble_eq_true rfl⟩ ⟨rfl, rfl⟩ ⟨Nat.le_refl _, Nat.le_refl _⟩ dX8_coverage_37 <| zifb_eq (tgt := 47) hC.1 hC.2.1 dX8_coverage_40 (by decide) (fun hc => ?_) (fun hc => ?_)
        · have hf := it_t hf hc
          exact ziconst hC.1 hC.2.1 dX8_coverage_47 <| J48 _ _ _ _ _ _ _ hf hP hS (lv_sub hl [0, 1, 2, 4] rfl)
        · have hf := it_f hf hc
          exact ziconst hC.1 hC.2.1 dX8_coverage_43 <| lv_goto (tgt := 48) hC.1 hC.2.1 dX8_coverage_44 (by decide) <| J48 _ _ _ _ _ _ _ hf hP hS (lv_sub hl [0, 1, 2, 4] rfl)
  refine lv_aload_n hC.1 hC.2.1 dX8_coverage_0 rfl (lv_at hl 0 rfl) <| ziload_n hC.1 hC.2.1 dX8_coverage_1 rfl (lv_at hl 1 rfl) <| ?_
  obtain ⟨⟨r_1, V_2⟩, hu, hf⟩ := bd_some hf
  have hDc := hDt
  refine zcVZ (As := [vI x1]) (rest := []) hC hK (met_X8_noDonor l D kA a V0 x1 hDc hu) zwX8_287 hS (zFsub (hD V0) [0, 1, 2, 3, 4, 5, 6, 7, 8, 9, 10, 11, 12, 13, 14, 15, 16] rfl) hP (q0 := 0) rfl rfl rfl rfl hl.1 rfl (Nat.le_of_ble_eq_true rfl) ⟨Nat.le_of_ble_eq_true rfl, Nat.le_of_ble_eq_true rfl⟩ ⟨rfl, rfl⟩ ⟨Nat.le_refl _, Nat.le_refl _⟩ dX8_coverage_2 (fun H locs hP1 hk1 hS => ?_)
  have hP : va_P D vwCl (cs_X8 kA a V_2) H := hP1
  refine zifb_ne (tgt := 17) hC.1 hC.2.1 dX8_coverage_5 (by decide) (fun hc => ?_) (fun hc => ?_)
  · have hf := it_t hf hc
    refine ziconst hC.1 hC.2.1 dX8_coverage_17 <| ?_
    have hf := Option.some.inj hf
    simp only [Prod.mk.injEq] at hf
    exact hret (Int32.ofInt 0) _ _ _ _ (congrArg (fun z => some (vI z)) hf.1.symm) (by rw [← hf.2]; exact hP) hS dX8_coverage_18
  · have hf := it_f hf hc
    refine lv_aload_n hC.1 hC.2.1 dX8_coverage_8 rfl (lv_at hl 0 rfl) <| ziload_n hC.1 hC.2.1 dX8_coverage_9 rfl (lv_at hl 2 rfl) <| ziload_n hC.1 hC.2.1 dX8_coverage_10 rfl (lv_at hl 3 rfl) <| ?_
    obtain ⟨⟨r_3, V_4⟩, hu, hf⟩ := bd_some hf
    have hDc := hDt
    refine zcVZ (As := [vI x2, vI x3]) (rest := []) hC hK (met_X8_noSpan l D kA a V_2 x2 x3 hDc hu) zwX8_294 hS (zFsub (hD V_2) [0, 1, 2, 3, 4, 5, 6, 7, 8, 9, 10, 11, 12, 13, 14, 15, 16] rfl) hP (q0 := 0) rfl rfl rfl rfl hl.1 rfl (Nat.le_of_ble_eq_true rfl) ⟨Nat.le_of_ble_eq_true rfl, Nat.le_of_ble_eq_true rfl⟩ ⟨rfl, rfl⟩ ⟨Nat.le_refl _, Nat.le_refl _⟩ dX8_coverage_11 (fun H locs hP1 hk1 hS => ?_)
    have hP : va_P D vwCl (cs_X8 kA a V_4) H := hP1
    refine zifb_eq (tgt := 19) hC.1 hC.2.1 dX8_coverage_14 (by decide) (fun hc => ?_) (fun hc => ?_)
    · have hf := it_t hf hc
      refine ziconst hC.1 hC.2.1 dX8_coverage_19 <| zistore (lv' := [(4, vI 0), (0, .ref (a 0)), (1, vI x1), (2, vI x2), (3, vI x3)]) hC.1 hC.2.1 dX8_coverage_20 hl (by decide) rfl (fun ls hl => ?_)
      refine ziload_n hC.1 hC.2.1 dX8_coverage_22 rfl (lv_at hl 3 rfl) <| zistore (lv' := [(5, vI x2), (4, vI 0), (0, .ref (a 0)), (1, vI x1), (2, vI x2), (3, vI x3)]) hC.1 hC.2.1 dX8_coverage_23 hl (by decide) rfl (fun ls hl => ?_)
      exact L25 n _ _ _ _ _ _ hf hP hS (lv_sub hl [2, 3, 5, 1, 0] rfl)
    · have hf := it_f hf hc
      refine ziconst hC.1 hC.2.1 dX8_coverage_17 <| ?_
      have hf := Option.some.inj hf
      simp only [Prod.mk.injEq] at hf
      exact hret (Int32.ofInt 0) _ _ _ _ (congrArg (fun z => some (vI z)) hf.1.symm) (by rw [← hf.2]; exact hP) hS dX8_coverage_18
theorem DX8_gap_0 : ∀ q ∈ ([(0, .aload_n 0, 1), (1, .iload_n 1, 1), (2, .invokevirtual 287, 3), (5, .ifCond .eq 5, 3), (8, .iconst 0, 1), (9, .ireturn, 1), (10, .iconst (-1), 1), (11, .istore 4, 2), (13, .iconst 1, 1), (14, .istore 5, 2), (16, .iconst 0, 1), (17, .istore 6, 2), (19, .iload 6, 2), (21, .sipush 9999, 3), (24, .if_icmp .gt 82, 3), (27, .aload_n 0, 1), (28, .iload_n 1, 1), (29, .iload 6, 2), (31, .invokevirtual 93, 3), (34, .istore 7, 2), (36, .iload 7, 2), (38, .ifCond .ne 24, 3), (41, .iload 5, 2), (43, .ifCond .eq 19, 3), (46, .iinc 4 1, 3), (49, .iload 4, 2), (51, .iload_n 2, 1), (52, .if_icmp .ne 10, 3), (55, .iload_n 3, 1), (56, .ifCond .ne 6, 3), (59, .iload 6, 2), (61, .ireturn, 1), (62, .iload 7, 2), (64, .ifCond .ne 32, 3), (67, .iload 4, 2), (69, .iload_n 2, 1), (70, .if_icmp .ne 26, 3), (73, .iload 6, 2), (75, .sipush 9999, 3), (78, .if_icmp .eq 15, 3)] : List (Nat × Instr × Nat)), decode cX8_gap q.1 = .ok q.2 := by decide +kernel
theorem dX8_gap_0 : decode cX8_gap 0 = .ok (.aload_n 0, 1) := DX8_gap_0 (0, .aload_n 0, 1) (List.mem_of_getElem? (i := 0) rfl)
theorem dX8_gap_1 : decode cX8_gap 1 = .ok (.iload_n 1, 1) := DX8_gap_0 (1, .iload_n 1, 1) (List.mem_of_getElem? (i := 1) rfl)
theorem dX8_gap_2 : decode cX8_gap 2 = .ok (.invokevirtual 287, 3) := DX8_gap_0 (2, .invokevirtual 287, 3) (List.mem_of_getElem? (i := 2) rfl)
theorem dX8_gap_5 : decode cX8_gap 5 = .ok (.ifCond .eq 5, 3) := DX8_gap_0 (5, .ifCond .eq 5, 3) (List.mem_of_getElem? (i := 3) rfl)
theorem dX8_gap_8 : decode cX8_gap 8 = .ok (.iconst 0, 1) := DX8_gap_0 (8, .iconst 0, 1) (List.mem_of_getElem? (i := 4) rfl)
theorem dX8_gap_9 : decode cX8_gap 9 = .ok (.ireturn, 1) := DX8_gap_0 (9, .ireturn, 1) (List.mem_of_getElem? (i := 5) rfl)
theorem dX8_gap_10 : decode cX8_gap 10 = .ok (.iconst (-1), 1) := DX8_gap_0 (10, .iconst (-1), 1) (List.mem_of_getElem? (i := 6) rfl)
theorem dX8_gap_11 : decode cX8_gap 11 = .ok (.istore 4, 2) := DX8_gap_0 (11, .istore 4, 2) (List.mem_of_getElem? (i := 7) rfl)
theorem dX8_gap_13 : decode cX8_gap 13 = .ok (.iconst 1, 1) := DX8_gap_0 (13, .iconst 1, 1) (List.mem_of_getElem? (i := 8) rfl)
theorem dX8_gap_14 : decode cX8_gap 14 = .ok (.istore 5, 2) := DX8_gap_0 (14, .istore 5, 2) (List.mem_of_getElem? (i := 9) rfl)
theorem dX8_gap_16 : decode cX8_gap 16 = .ok (.iconst 0, 1) := DX8_gap_0 (16, .iconst 0, 1) (List.mem_of_getElem? (i := 10) rfl)
theorem dX8_gap_17 : decode cX8_gap 17 = .ok (.istore 6, 2) := DX8_gap_0 (17, .istore 6, 2) (List.mem_of_getElem? (i := 11) rfl)
theorem dX8_gap_19 : decode cX8_gap 19 = .ok (.iload 6, 2) := DX8_gap_0 (19, .iload 6, 2) (List.mem_of_getElem? (i := 12) rfl)
theorem dX8_gap_21 : decode cX8_gap 21 = .ok (.sipush 9999, 3) := DX8_gap_0 (21, .sipush 9999, 3) (List.mem_of_getElem? (i := 13) rfl)
theorem dX8_gap_24 : decode cX8_gap 24 = .ok (.if_icmp .gt 82, 3) := DX8_gap_0 (24, .if_icmp .gt 82, 3) (List.mem_of_getElem? (i := 14) rfl)
theorem dX8_gap_27 : decode cX8_gap 27 = .ok (.aload_n 0, 1) := DX8_gap_0 (27, .aload_n 0, 1) (List.mem_of_getElem? (i := 15) rfl)
theorem dX8_gap_28 : decode cX8_gap 28 = .ok (.iload_n 1, 1) := DX8_gap_0 (28, .iload_n 1, 1) (List.mem_of_getElem? (i := 16) rfl)
theorem dX8_gap_29 : decode cX8_gap 29 = .ok (.iload 6, 2) := DX8_gap_0 (29, .iload 6, 2) (List.mem_of_getElem? (i := 17) rfl)
theorem dX8_gap_31 : decode cX8_gap 31 = .ok (.invokevirtual 93, 3) := DX8_gap_0 (31, .invokevirtual 93, 3) (List.mem_of_getElem? (i := 18) rfl)
theorem dX8_gap_34 : decode cX8_gap 34 = .ok (.istore 7, 2) := DX8_gap_0 (34, .istore 7, 2) (List.mem_of_getElem? (i := 19) rfl)
theorem dX8_gap_36 : decode cX8_gap 36 = .ok (.iload 7, 2) := DX8_gap_0 (36, .iload 7, 2) (List.mem_of_getElem? (i := 20) rfl)
theorem dX8_gap_38 : decode cX8_gap 38 = .ok (.ifCond .ne 24, 3) := DX8_gap_0 (38, .ifCond .ne 24, 3) (List.mem_of_getElem? (i := 21) rfl)
theorem dX8_gap_41 : decode cX8_gap 41 = .ok (.iload 5, 2) := DX8_gap_0 (41, .iload 5, 2) (List.mem_of_getElem? (i := 22) rfl)
theorem dX8_gap_43 : decode cX8_gap 43 = .ok (.ifCond .eq 19, 3) := DX8_gap_0 (43, .ifCond .eq 19, 3) (List.mem_of_getElem? (i := 23) rfl)
theorem dX8_gap_46 : decode cX8_gap 46 = .ok (.iinc 4 1, 3) := DX8_gap_0 (46, .iinc 4 1, 3) (List.mem_of_getElem? (i := 24) rfl)
theorem dX8_gap_49 : decode cX8_gap 49 = .ok (.iload 4, 2) := DX8_gap_0 (49, .iload 4, 2) (List.mem_of_getElem? (i := 25) rfl)
theorem dX8_gap_51 : decode cX8_gap 51 = .ok (.iload_n 2, 1) := DX8_gap_0 (51, .iload_n 2, 1) (List.mem_of_getElem? (i := 26) rfl)
theorem dX8_gap_52 : decode cX8_gap 52 = .ok (.if_icmp .ne 10, 3) := DX8_gap_0 (52, .if_icmp .ne 10, 3) (List.mem_of_getElem? (i := 27) rfl)
theorem dX8_gap_55 : decode cX8_gap 55 = .ok (.iload_n 3, 1) := DX8_gap_0 (55, .iload_n 3, 1) (List.mem_of_getElem? (i := 28) rfl)
theorem dX8_gap_56 : decode cX8_gap 56 = .ok (.ifCond .ne 6, 3) := DX8_gap_0 (56, .ifCond .ne 6, 3) (List.mem_of_getElem? (i := 29) rfl)
theorem dX8_gap_59 : decode cX8_gap 59 = .ok (.iload 6, 2) := DX8_gap_0 (59, .iload 6, 2) (List.mem_of_getElem? (i := 30) rfl)
theorem dX8_gap_61 : decode cX8_gap 61 = .ok (.ireturn, 1) := DX8_gap_0 (61, .ireturn, 1) (List.mem_of_getElem? (i := 31) rfl)
theorem dX8_gap_62 : decode cX8_gap 62 = .ok (.iload 7, 2) := DX8_gap_0 (62, .iload 7, 2) (List.mem_of_getElem? (i := 32) rfl)
theorem dX8_gap_64 : decode cX8_gap 64 = .ok (.ifCond .ne 32, 3) := DX8_gap_0 (64, .ifCond .ne 32, 3) (List.mem_of_getElem? (i := 33) rfl)
theorem dX8_gap_67 : decode cX8_gap 67 = .ok (.iload 4, 2) := DX8_gap_0 (67, .iload 4, 2) (List.mem_of_getElem? (i := 34) rfl)
theorem dX8_gap_69 : decode cX8_gap 69 = .ok (.iload_n 2, 1) := DX8_gap_0 (69, .iload_n 2, 1) (List.mem_of_getElem? (i := 35) rfl)
theorem dX8_gap_70 : decode cX8_gap 70 = .ok (.if_icmp .ne 26, 3) := DX8_gap_0 (70, .if_icmp .ne 26, 3) (List.mem_of_getElem? (i := 36) rfl)
theorem dX8_gap_73 : decode cX8_gap 73 = .ok (.iload 6, 2) := DX8_gap_0 (73, .iload 6, 2) (List.mem_of_getElem? (i := 37) rfl)
theorem dX8_gap_75 : decode cX8_gap 75 = .ok (.sipush 9999, 3) := DX8_gap_0 (75, .sipush 9999, 3) (List.mem_of_getElem? (i := 38) rfl)
theorem dX8_gap_78 : decode cX8_gap 78 = .ok (.if_icmp .eq 15, 3) := DX8_gap_0 (78, .if_icmp .eq 15, 3) (List.mem_of_getElem? (i := 39) rfl)
theorem DX8_gap_1 : ∀ q ∈ ([(81, .aload_n 0, 1), (82, .iload_n 1, 1), (83, .iload 6, 2), (85, .iconst 1, 1), (86, .iadd, 1), (87, .invokevirtual 93, 3), (90, .ifCond .eq 6, 3), (93, .iload 6, 2), (95, .ireturn, 1), (96, .iload 7, 2), (98, .istore 5, 2), (100, .iinc 6 1, 3), (103, .goto (-84), 3), (106, .iconst (-1), 1), (107, .ireturn, 1)] : List (Nat × Instr × Nat)), decode cX8_gap q.1 = .ok q.2 := by decide +kernel
theorem dX8_gap_81 : decode cX8_gap 81 = .ok (.aload_n 0, 1) := DX8_gap_1 (81, .aload_n 0, 1) (List.mem_of_getElem? (i := 0) rfl)
theorem dX8_gap_82 : decode cX8_gap 82 = .ok (.iload_n 1, 1) := DX8_gap_1 (82, .iload_n 1, 1) (List.mem_of_getElem? (i := 1) rfl)
theorem dX8_gap_83 : decode cX8_gap 83 = .ok (.iload 6, 2) := DX8_gap_1 (83, .iload 6, 2) (List.mem_of_getElem? (i := 2) rfl)
theorem dX8_gap_85 : decode cX8_gap 85 = .ok (.iconst 1, 1) := DX8_gap_1 (85, .iconst 1, 1) (List.mem_of_getElem? (i := 3) rfl)
theorem dX8_gap_86 : decode cX8_gap 86 = .ok (.iadd, 1) := DX8_gap_1 (86, .iadd, 1) (List.mem_of_getElem? (i := 4) rfl)
theorem dX8_gap_87 : decode cX8_gap 87 = .ok (.invokevirtual 93, 3) := DX8_gap_1 (87, .invokevirtual 93, 3) (List.mem_of_getElem? (i := 5) rfl)
theorem dX8_gap_90 : decode cX8_gap 90 = .ok (.ifCond .eq 6, 3) := DX8_gap_1 (90, .ifCond .eq 6, 3) (List.mem_of_getElem? (i := 6) rfl)
theorem dX8_gap_93 : decode cX8_gap 93 = .ok (.iload 6, 2) := DX8_gap_1 (93, .iload 6, 2) (List.mem_of_getElem? (i := 7) rfl)
theorem dX8_gap_95 : decode cX8_gap 95 = .ok (.ireturn, 1) := DX8_gap_1 (95, .ireturn, 1) (List.mem_of_getElem? (i := 8) rfl)
theorem dX8_gap_96 : decode cX8_gap 96 = .ok (.iload 7, 2) := DX8_gap_1 (96, .iload 7, 2) (List.mem_of_getElem? (i := 9) rfl)
theorem dX8_gap_98 : decode cX8_gap 98 = .ok (.istore 5, 2) := DX8_gap_1 (98, .istore 5, 2) (List.mem_of_getElem? (i := 10) rfl)
theorem dX8_gap_100 : decode cX8_gap 100 = .ok (.iinc 6 1, 3) := DX8_gap_1 (100, .iinc 6 1, 3) (List.mem_of_getElem? (i := 11) rfl)
theorem dX8_gap_103 : decode cX8_gap 103 = .ok (.goto (-84), 3) := DX8_gap_1 (103, .goto (-84), 3) (List.mem_of_getElem? (i := 12) rfl)
theorem dX8_gap_106 : decode cX8_gap 106 = .ok (.iconst (-1), 1) := DX8_gap_1 (106, .iconst (-1), 1) (List.mem_of_getElem? (i := 13) rfl)
theorem dX8_gap_107 : decode cX8_gap 107 = .ok (.ireturn, 1) := DX8_gap_1 (107, .ireturn, 1) (List.mem_of_getElem? (i := 14) rfl)
abbrev rmX8_gap : Room := { frames := 2, cells := 0, slots := 0, locals := 45 }
set_option maxHeartbeats 400000 in
set_option maxRecDepth 100000 in
theorem met_X8_gap (l : Launch) (D : va_G) (kA : Nat → ClassId) (a : Nat → Nat) (n : Nat) (V0 : Sz) (x1 : Int) (x2 : Int) (x3 : Int) (hDt : ∀ w : Sz, va_D (fun _ => True) (cs_X8 kA a w)) {r : Int} {Vr : Sz} (hf : f_X8_gap n V0 x1 x2 x3 = some (r, Vr)) : MZ l yX8_gap cX8_gap 8 (some .int) rmX8_gap D kA [.ref (a 0), vI x1, vI x2, vI x3] (cs_X8 kA a V0) (cs_X8 kA a Vr) (some (vI r)) := by
  refine zZI (own := RX8) rfl rfl (Nat.le_of_ble_eq_true rfl) ?_
  intro p e s m args below meth c ls Q hC hK hP hl hret
  have hl : lv_has ls 8 [(0, .ref (a 0)), (1, vI x1), (2, vI x2), (3, vI x3)] := hl
  have hS : va_S (zF (cs_X8 kA a V0)) s.heap s.heap [] := va_S.rf
  have hD := zDself (C := fun w : Sz => (cs_X8 kA a w)) hDt V0 (fun _ => rfl)
  try dsimp only at hD
  generalize hAe : zF (cs_X8 kA a V0) = A0 at hS hD hret
  unfold f_X8_gap at hf
  have L19 : ∀ (k19 : Nat) (y4 : Int) (y5 : Int) (y6 : Int) (V : Sz) (H : Heap) (locs : List Loc) (ls : Array Slot), lpF (bX8_gap_19 n x1 x2 x3) k19 (y4, y5, y6, V) = some (r, Vr) → va_P D vwCl (cs_X8 kA a V) H → va_S A0 s.heap H locs → lv_has ls 8 [(0, .ref (a 0)), (1, vI x1), (2, vI x2), (3, vI x3), (4, vI y4), (5, vI y5), (6, vI y6)] → W p l e rmX8_gap s m args below meth c H locs 0 0 Q (F0 m 19 ls []) := by
    intro k19
    induction k19 with
    | zero => intro y4 y5 y6 V H locs ls hf hP hS hl; exact lp_0 hf
    | succ k19 ih19 =>
      intro y4 y5 y6 V H locs ls hf hP hS hl
      have hf := lp_s hf
      rw [bX8_gap_19_e] at hf
      have J96 : ∀ (y4 : Int) (y6 : Int) (y7 : Int) (V : Sz) (H : Heap) (locs : List Loc) (ls : Array Slot), jX8_gap_96 n x1 x2 x3 (lpF (bX8_gap_19 n x1 x2 x3) k19) y4 y6 y7 V = some (r, Vr) → va_P D vwCl (cs_X8 kA a V) H → va_S A0 s.heap H locs → lv_has ls 8 [(0, .ref (a 0)), (1, vI x1), (2, vI x2), (3, vI x3), (4, vI y4), (6, vI y6), (7, vI y7)] → W p l e rmX8_gap s m args below meth c H locs 0 0 Q (F0 m 96 ls []) := by
        intro y4 y6 y7 V H locs ls hf hP hS hl
        unfold jX8_gap_96 at hf
        refine ziload hC.1 hC.2.1 dX8_gap_96 (lv_at hl 6 rfl) <| zistore (lv' := [(5, vI y7), (0, .ref (a 0)), (1, vI x1), (2, vI x2), (3, vI x3), (4, vI y4), (6, vI y6), (7, vI y7)]) hC.1 hC.2.1 dX8_gap_98 hl (by decide) rfl (fun ls hl => ?_)
        obtain ⟨x_8, ex_8⟩ : ∃ y : Int, y = y6 + 1 := ⟨_, rfl⟩
        have hf := nm_at hf ex_8
        refine ziinc (v := x_8) (lv' := [(6, vI x_8), (5, vI y7), (0, .ref (a 0)), (1, vI x1), (2, vI x2), (3, vI x3), (4, vI y4), (7, vI y7)]) hC.1 hC.2.1 dX8_gap_100 hl (k := 6) rfl ex_8 (by decide) rfl (fun ls hl => ?_)
        exact lv_goto (tgt := 19) hC.1 hC.2.1 dX8_gap_103 (by decide) <| ih19 _ _ _ _ _ _ _ hf hP hS (lv_sub hl [2, 3, 4, 5, 6, 1, 0] rfl)
      have J62 : ∀ (y4 : Int) (y6 : Int) (y7 : Int) (V : Sz) (H : Heap) (locs : List Loc) (ls : Array Slot), jX8_gap_62 n x1 x2 x3 (lpF (bX8_gap_19 n x1 x2 x3) k19) y4 y6 y7 V = some (r, Vr) → va_P D vwCl (cs_X8 kA a V) H → va_S A0 s.heap H locs → lv_has ls 8 [(0, .ref (a 0)), (1, vI x1), (2, vI x2), (3, vI x3), (4, vI y4), (6, vI y6), (7, vI y7)] → W p l e rmX8_gap s m args below meth c H locs 0 0 Q (F0 m 62 ls []) := by
        intro y4 y6 y7 V H locs ls hf hP hS hl
        unfold jX8_gap_62 at hf
        refine ziload hC.1 hC.2.1 dX8_gap_62 (lv_at hl 6 rfl) <| ?_
        obtain ⟨hz_7, hf⟩ := ck_some hf
        refine zif_ne (tgt := 96) hC.1 hC.2.1 hz_7 dX8_gap_64 (by decide) (fun hc => ?_) (fun hc => ?_)
        · have hf := it_f hf hc
          exact J96 _ _ _ _ _ _ _ hf hP hS (lv_sub hl [0, 1, 2, 3, 4, 5, 6] rfl)
        · have hf := it_t hf hc
          refine ziload hC.1 hC.2.1 dX8_gap_67 (lv_at hl 4 rfl) <| ziload_n hC.1 hC.2.1 dX8_gap_69 rfl (lv_at hl 2 rfl) <| ?_
          obtain ⟨hz_9, hf⟩ := ck_some hf
          refine zicmp_ne (tgt := 96) hC.1 hC.2.1 ⟨hz_9.1, hz_9.2⟩ dX8_gap_70 (by decide) (fun hc => ?_) (fun hc => ?_)
          · have hf := it_f hf hc
            exact J96 _ _ _ _ _ _ _ hf hP hS (lv_sub hl [0, 1, 2, 3, 4, 5, 6] rfl)
          · have hf := it_t hf hc
            refine ziload hC.1 hC.2.1 dX8_gap_73 (lv_at hl 5 rfl) <| zsipush hC.1 hC.2.1 dX8_gap_75 (by decide) <| ?_
            obtain ⟨hz_10, hf⟩ := ck_some hf
            refine zicmp_eq (tgt := 93) hC.1 hC.2.1 ⟨hz_10, (by decide)⟩ dX8_gap_78 (by decide) (fun hc => ?_) (fun hc => ?_)
            · have hf := it_t hf hc
              refine ziload hC.1 hC.2.1 dX8_gap_93 (lv_at hl 5 rfl) <| ?_
              have hf := Option.some.inj hf
              simp only [Prod.mk.injEq] at hf
              exact hret (Int32.ofInt y6) _ _ _ _ (congrArg (fun z => some (vI z)) hf.1.symm) (by rw [← hf.2]; exact hP) hS dX8_gap_95
            · have hf := it_f hf hc
              refine lv_aload_n hC.1 hC.2.1 dX8_gap_81 rfl (lv_at hl 0 rfl) <| ziload_n hC.1 hC.2.1 dX8_gap_82 rfl (lv_at hl 1 rfl) <| ziload hC.1 hC.2.1 dX8_gap_83 (lv_at hl 5 rfl) <| ziconst hC.1 hC.2.1 dX8_gap_85 <| ziadd hC.1 hC.2.1 dX8_gap_86 <| ?_
              obtain ⟨r_11, hu, hf⟩ := bd_some hf
              refine zcVP (As := [vI x1, vI (y6 + 1)]) (rest := []) hC hK (met_X8_isForced l D kA a n V x1 (y6 + 1) hu) zwX8_93 hP (q0 := 0) rfl rfl rfl rfl hl.1 rfl (Nat.le_of_ble_eq_true rfl) ⟨Nat.le_of_ble_eq_true rfl, Nat.le_of_ble_eq_true rfl⟩ ⟨rfl, rfl⟩ ⟨Nat.le_refl _, Nat.le_refl _⟩ dX8_gap_87 <| zifb_eq (tgt := 96) hC.1 hC.2.1 dX8_gap_90 (by decide) (fun hc => ?_) (fun hc => ?_)
              · have hf := it_t hf hc
                exact J96 _ _ _ _ _ _ _ hf hP hS (lv_sub hl [0, 1, 2, 3, 4, 5, 6] rfl)
              · have hf := it_f hf hc
                refine ziload hC.1 hC.2.1 dX8_gap_93 (lv_at hl 5 rfl) <| ?_
                have hf := Option.some.inj hf
                simp only [Prod.mk.injEq] at hf
                exact hret (Int32.ofInt y6) _ _ _ _ (congrArg (fun z => some (vI z)) hf.1.symm) (by rw [← hf.2]; exact hP) hS dX8_gap_95
      refine ziload hC.1 hC.2.1 dX8_gap_19 (lv_at hl 6 rfl) <| zsipush hC.1 hC.2.1 dX8_gap_21 (by decide) <| ?_
      obtain ⟨hz_3, hf⟩ := ck_some hf
      refine zicmp_gt (tgt := 106) hC.1 hC.2.1 ⟨hz_3, (by decide)⟩ dX8_gap_24 (by decide) (fun hc => ?_) (fun hc => ?_)
      · have hf := it_t hf hc
        refine ziconst hC.1 hC.2.1 dX8_gap_106 <| ?_
        have hf := Option.some.inj hf
        simp only [Prod.mk.injEq] at hf
        exact hret (Int32.ofInt (-1)) _ _ _ _ (congrArg (fun z => some (vI z)) hf.1.symm) (by rw [← hf.2]; exact hP) hS dX8_gap_107
      · have hf := it_f hf hc
        refine lv_aload_n hC.1 hC.2.1 dX8_gap_27 rfl (lv_at hl 0 rfl) <| ziload_n hC.1 hC.2.1 dX8_gap_28 rfl (lv_at hl 1 rfl) <| ziload hC.1 hC.2.1 dX8_gap_29 (lv_at hl 6 rfl) <| ?_
        obtain ⟨r_4, hu, hf⟩ := bd_some hf
        refine zcVP (As := [vI x1, vI y6]) (rest := []) hC hK (met_X8_isForced l D kA a n V x1 y6 hu) zwX8_93 hP (q0 := 0) rfl rfl rfl rfl hl.1 rfl (Nat.le_of_ble_eq_true rfl) ⟨Nat.le_of_ble_eq_true rfl, Nat.le_of_ble_eq_true rfl⟩ ⟨rfl, rfl⟩ ⟨Nat.le_refl _, Nat.le_refl _⟩ dX8_gap_31 <| ?_
        refine ztopi (fun x_5 ex_5 => ?_)
        have hf := nm_at hf ex_5
        refine zistore (lv' := [(7, vI x_5), (0, .ref (a 0)), (1, vI x1), (2, vI x2), (3, vI x3), (4, vI y4), (5, vI y5), (6, vI y6)]) hC.1 hC.2.1 dX8_gap_34 hl (by decide) rfl (fun ls hl => ?_)
        refine ziload hC.1 hC.2.1 dX8_gap_36 (lv_at hl 0 rfl) <| ?_
        obtain ⟨hz_6, hf⟩ := ck_some hf
        refine zif_ne (tgt := 62) hC.1 hC.2.1 hz_6 dX8_gap_38 (by decide) (fun hc => ?_) (fun hc => ?_)
        · have hf := it_f hf hc
          exact J62 _ _ _ _ _ _ _ hf hP hS (lv_sub hl [1, 2, 3, 4, 5, 7, 0] rfl)
        · have hf := it_t hf hc
          refine ziload hC.1 hC.2.1 dX8_gap_41 (lv_at hl 6 rfl) <| ?_
          obtain ⟨hz_12, hf⟩ := ck_some hf
          refine zif_eq (tgt := 62) hC.1 hC.2.1 hz_12 dX8_gap_43 (by decide) (fun hc => ?_) (fun hc => ?_)
          · have hf := it_t hf hc
            exact J62 _ _ _ _ _ _ _ hf hP hS (lv_sub hl [1, 2, 3, 4, 5, 7, 0] rfl)
          · have hf := it_f hf hc
            obtain ⟨x_13, ex_13⟩ : ∃ y : Int, y = y4 + 1 := ⟨_, rfl⟩
            have hf := nm_at hf ex_13
            refine ziinc (v := x_13) (lv' := [(4, vI x_13), (7, vI x_5), (0, .ref (a 0)), (1, vI x1), (2, vI x2), (3, vI x3), (5, vI y5), (6, vI y6)]) hC.1 hC.2.1 dX8_gap_46 hl (k := 5) rfl ex_13 (by decide) rfl (fun ls hl => ?_)
            refine ziload hC.1 hC.2.1 dX8_gap_49 (lv_at hl 0 rfl) <| ziload_n hC.1 hC.2.1 dX8_gap_51 rfl (lv_at hl 4 rfl) <| ?_
            obtain ⟨hz_14, hf⟩ := ck_some hf
            refine zicmp_ne (tgt := 62) hC.1 hC.2.1 ⟨hz_14.1, hz_14.2⟩ dX8_gap_52 (by decide) (fun hc => ?_) (fun hc => ?_)
            · have hf := it_f hf hc
              exact J62 _ _ _ _ _ _ _ hf hP hS (lv_sub hl [2, 3, 4, 5, 0, 7, 1] rfl)
            · have hf := it_t hf hc
              refine ziload_n hC.1 hC.2.1 dX8_gap_55 rfl (lv_at hl 5 rfl) <| ?_
              obtain ⟨hz_15, hf⟩ := ck_some hf
              refine zif_ne (tgt := 62) hC.1 hC.2.1 hz_15 dX8_gap_56 (by decide) (fun hc => ?_) (fun hc => ?_)
              · have hf := it_f hf hc
                exact J62 _ _ _ _ _ _ _ hf hP hS (lv_sub hl [2, 3, 4, 5, 0, 7, 1] rfl)
              · have hf := it_t hf hc
                refine ziload hC.1 hC.2.1 dX8_gap_59 (lv_at hl 7 rfl) <| ?_
                have hf := Option.some.inj hf
                simp only [Prod.mk.injEq] at hf
                exact hret (Int32.ofInt y6) _ _ _ _ (congrArg (fun z => some (vI z)) hf.1.symm) (by rw [← hf.2]; exact hP) hS dX8_gap_61
  refine lv_aload_n hC.1 hC.2.1 dX8_gap_0 rfl (lv_at hl 0 rfl) <| ziload_n hC.1 hC.2.1 dX8_gap_1 rfl (lv_at hl 1 rfl) <| ?_
  obtain ⟨⟨r_1, V_2⟩, hu, hf⟩ := bd_some hf
  have hDc := hDt
  refine zcVZ (As := [vI x1]) (rest := []) hC hK (met_X8_noDonor l D kA a V0 x1 hDc hu) zwX8_287 hS (zFsub (hD V0) [0, 1, 2, 3, 4, 5, 6, 7, 8, 9, 10, 11, 12, 13, 14, 15, 16] rfl) hP (q0 := 0) rfl rfl rfl rfl hl.1 rfl (Nat.le_of_ble_eq_true rfl) ⟨Nat.le_of_ble_eq_true rfl, Nat.le_of_ble_eq_true rfl⟩ ⟨rfl, rfl⟩ ⟨Nat.le_refl _, Nat.le_refl _⟩ dX8_gap_2 (fun H locs hP1 hk1 hS => ?_)
  have hP : va_P D vwCl (cs_X8 kA a V_2) H := hP1
  refine zifb_eq (tgt := 10) hC.1 hC.2.1 dX8_gap_5 (by decide) (fun hc => ?_) (fun hc => ?_)
  · have hf := it_t hf hc
    refine ziconst hC.1 hC.2.1 dX8_gap_10 <| zistore (lv' := [(4, vI (-1)), (0, .ref (a 0)), (1, vI x1), (2, vI x2), (3, vI x3)]) hC.1 hC.2.1 dX8_gap_11 hl (by decide) rfl (fun ls hl => ?_)
    refine ziconst hC.1 hC.2.1 dX8_gap_13 <| zistore (lv' := [(5, vI 1), (4, vI (-1)), (0, .ref (a 0)), (1, vI x1), (2, vI x2), (3, vI x3)]) hC.1 hC.2.1 dX8_gap_14 hl (by decide) rfl (fun ls hl => ?_)
    refine ziconst hC.1 hC.2.1 dX8_gap_16 <| zistore (lv' := [(6, vI 0), (5, vI 1), (4, vI (-1)), (0, .ref (a 0)), (1, vI x1), (2, vI x2), (3, vI x3)]) hC.1 hC.2.1 dX8_gap_17 hl (by decide) rfl (fun ls hl => ?_)
    exact L19 n _ _ _ _ _ _ _ hf hP hS (lv_sub hl [3, 4, 5, 6, 2, 1, 0] rfl)
  · have hf := it_f hf hc
    refine ziconst hC.1 hC.2.1 dX8_gap_8 <| ?_
    have hf := Option.some.inj hf
    simp only [Prod.mk.injEq] at hf
    exact hret (Int32.ofInt 0) _ _ _ _ (congrArg (fun z => some (vI z)) hf.1.symm) (by rw [← hf.2]; exact hP) hS dX8_gap_9
theorem DX8_isNeedless_0 : ∀ q ∈ ([(0, .aload_n 0, 1), (1, .getfield 7, 3), (4, .bipush 51, 2), (6, .iload_n 1, 1), (7, .iadd, 1), (8, .iaload, 1), (9, .istore_n 2, 1), (10, .aload_n 0, 1), (11, .getfield 7, 3), (14, .bipush 82, 2), (16, .iload_n 1, 1), (17, .iadd, 1), (18, .iaload, 1), (19, .istore_n 3, 1), (20, .aload_n 0, 1), (21, .getfield 7, 3), (24, .bipush 82, 2), (26, .iload_n 1, 1), (27, .iadd, 1), (28, .iload_n 2, 1), (29, .iconst 1, 1), (30, .isub, 1), (31, .iastore, 1), (32, .iconst 1, 1), (33, .istore 4, 2), (35, .iload_n 2, 1), (36, .istore 5, 2), (38, .iload 5, 2), (40, .iload_n 3, 1), (41, .if_icmp .gt 31, 3), (44, .iload 4, 2), (46, .ifCond .eq 26, 3), (49, .aload_n 0, 1), (50, .aload_n 0, 1), (51, .getfield 7, 3), (54, .bipush 20, 2), (56, .iload_n 1, 1), (57, .iadd, 1), (58, .iaload, 1), (59, .iload 5, 2)] : List (Nat × Instr × Nat)), decode cX8_isNeedless q.1 = .ok q.2 := by decide +kernel
theorem dX8_isNeedless_0 : decode cX8_isNeedless 0 = .ok (.aload_n 0, 1) := DX8_isNeedless_0 (0, .aload_n 0, 1) (List.mem_of_getElem? (i := 0) rfl)
theorem dX8_isNeedless_1 : decode cX8_isNeedless 1 = .ok (.getfield 7, 3) := DX8_isNeedless_0 (1, .getfield 7, 3) (List.mem_of_getElem? (i := 1) rfl)
theorem dX8_isNeedless_4 : decode cX8_isNeedless 4 = .ok (.bipush 51, 2) := DX8_isNeedless_0 (4, .bipush 51, 2) (List.mem_of_getElem? (i := 2) rfl)
theorem dX8_isNeedless_6 : decode cX8_isNeedless 6 = .ok (.iload_n 1, 1) := DX8_isNeedless_0 (6, .iload_n 1, 1) (List.mem_of_getElem? (i := 3) rfl)
theorem dX8_isNeedless_7 : decode cX8_isNeedless 7 = .ok (.iadd, 1) := DX8_isNeedless_0 (7, .iadd, 1) (List.mem_of_getElem? (i := 4) rfl)
theorem dX8_isNeedless_8 : decode cX8_isNeedless 8 = .ok (.iaload, 1) := DX8_isNeedless_0 (8, .iaload, 1) (List.mem_of_getElem? (i := 5) rfl)
theorem dX8_isNeedless_9 : decode cX8_isNeedless 9 = .ok (.istore_n 2, 1) := DX8_isNeedless_0 (9, .istore_n 2, 1) (List.mem_of_getElem? (i := 6) rfl)
theorem dX8_isNeedless_10 : decode cX8_isNeedless 10 = .ok (.aload_n 0, 1) := DX8_isNeedless_0 (10, .aload_n 0, 1) (List.mem_of_getElem? (i := 7) rfl)
theorem dX8_isNeedless_11 : decode cX8_isNeedless 11 = .ok (.getfield 7, 3) := DX8_isNeedless_0 (11, .getfield 7, 3) (List.mem_of_getElem? (i := 8) rfl)
theorem dX8_isNeedless_14 : decode cX8_isNeedless 14 = .ok (.bipush 82, 2) := DX8_isNeedless_0 (14, .bipush 82, 2) (List.mem_of_getElem? (i := 9) rfl)
theorem dX8_isNeedless_16 : decode cX8_isNeedless 16 = .ok (.iload_n 1, 1) := DX8_isNeedless_0 (16, .iload_n 1, 1) (List.mem_of_getElem? (i := 10) rfl)
theorem dX8_isNeedless_17 : decode cX8_isNeedless 17 = .ok (.iadd, 1) := DX8_isNeedless_0 (17, .iadd, 1) (List.mem_of_getElem? (i := 11) rfl)
theorem dX8_isNeedless_18 : decode cX8_isNeedless 18 = .ok (.iaload, 1) := DX8_isNeedless_0 (18, .iaload, 1) (List.mem_of_getElem? (i := 12) rfl)
theorem dX8_isNeedless_19 : decode cX8_isNeedless 19 = .ok (.istore_n 3, 1) := DX8_isNeedless_0 (19, .istore_n 3, 1) (List.mem_of_getElem? (i := 13) rfl)
theorem dX8_isNeedless_20 : decode cX8_isNeedless 20 = .ok (.aload_n 0, 1) := DX8_isNeedless_0 (20, .aload_n 0, 1) (List.mem_of_getElem? (i := 14) rfl)
theorem dX8_isNeedless_21 : decode cX8_isNeedless 21 = .ok (.getfield 7, 3) := DX8_isNeedless_0 (21, .getfield 7, 3) (List.mem_of_getElem? (i := 15) rfl)
theorem dX8_isNeedless_24 : decode cX8_isNeedless 24 = .ok (.bipush 82, 2) := DX8_isNeedless_0 (24, .bipush 82, 2) (List.mem_of_getElem? (i := 16) rfl)
theorem dX8_isNeedless_26 : decode cX8_isNeedless 26 = .ok (.iload_n 1, 1) := DX8_isNeedless_0 (26, .iload_n 1, 1) (List.mem_of_getElem? (i := 17) rfl)
theorem dX8_isNeedless_27 : decode cX8_isNeedless 27 = .ok (.iadd, 1) := DX8_isNeedless_0 (27, .iadd, 1) (List.mem_of_getElem? (i := 18) rfl)
theorem dX8_isNeedless_28 : decode cX8_isNeedless 28 = .ok (.iload_n 2, 1) := DX8_isNeedless_0 (28, .iload_n 2, 1) (List.mem_of_getElem? (i := 19) rfl)
theorem dX8_isNeedless_29 : decode cX8_isNeedless 29 = .ok (.iconst 1, 1) := DX8_isNeedless_0 (29, .iconst 1, 1) (List.mem_of_getElem? (i := 20) rfl)
theorem dX8_isNeedless_30 : decode cX8_isNeedless 30 = .ok (.isub, 1) := DX8_isNeedless_0 (30, .isub, 1) (List.mem_of_getElem? (i := 21) rfl)
theorem dX8_isNeedless_31 : decode cX8_isNeedless 31 = .ok (.iastore, 1) := DX8_isNeedless_0 (31, .iastore, 1) (List.mem_of_getElem? (i := 22) rfl)
theorem dX8_isNeedless_32 : decode cX8_isNeedless 32 = .ok (.iconst 1, 1) := DX8_isNeedless_0 (32, .iconst 1, 1) (List.mem_of_getElem? (i := 23) rfl)
theorem dX8_isNeedless_33 : decode cX8_isNeedless 33 = .ok (.istore 4, 2) := DX8_isNeedless_0 (33, .istore 4, 2) (List.mem_of_getElem? (i := 24) rfl)
theorem dX8_isNeedless_35 : decode cX8_isNeedless 35 = .ok (.iload_n 2, 1) := DX8_isNeedless_0 (35, .iload_n 2, 1) (List.mem_of_getElem? (i := 25) rfl)
theorem dX8_isNeedless_36 : decode cX8_isNeedless 36 = .ok (.istore 5, 2) := DX8_isNeedless_0 (36, .istore 5, 2) (List.mem_of_getElem? (i := 26) rfl)
theorem dX8_isNeedless_38 : decode cX8_isNeedless 38 = .ok (.iload 5, 2) := DX8_isNeedless_0 (38, .iload 5, 2) (List.mem_of_getElem? (i := 27) rfl)
theorem dX8_isNeedless_40 : decode cX8_isNeedless 40 = .ok (.iload_n 3, 1) := DX8_isNeedless_0 (40, .iload_n 3, 1) (List.mem_of_getElem? (i := 28) rfl)
theorem dX8_isNeedless_41 : decode cX8_isNeedless 41 = .ok (.if_icmp .gt 31, 3) := DX8_isNeedless_0 (41, .if_icmp .gt 31, 3) (List.mem_of_getElem? (i := 29) rfl)
theorem dX8_isNeedless_44 : decode cX8_isNeedless 44 = .ok (.iload 4, 2) := DX8_isNeedless_0 (44, .iload 4, 2) (List.mem_of_getElem? (i := 30) rfl)
theorem dX8_isNeedless_46 : decode cX8_isNeedless 46 = .ok (.ifCond .eq 26, 3) := DX8_isNeedless_0 (46, .ifCond .eq 26, 3) (List.mem_of_getElem? (i := 31) rfl)
theorem dX8_isNeedless_49 : decode cX8_isNeedless 49 = .ok (.aload_n 0, 1) := DX8_isNeedless_0 (49, .aload_n 0, 1) (List.mem_of_getElem? (i := 32) rfl)
theorem dX8_isNeedless_50 : decode cX8_isNeedless 50 = .ok (.aload_n 0, 1) := DX8_isNeedless_0 (50, .aload_n 0, 1) (List.mem_of_getElem? (i := 33) rfl)
theorem dX8_isNeedless_51 : decode cX8_isNeedless 51 = .ok (.getfield 7, 3) := DX8_isNeedless_0 (51, .getfield 7, 3) (List.mem_of_getElem? (i := 34) rfl)
theorem dX8_isNeedless_54 : decode cX8_isNeedless 54 = .ok (.bipush 20, 2) := DX8_isNeedless_0 (54, .bipush 20, 2) (List.mem_of_getElem? (i := 35) rfl)
theorem dX8_isNeedless_56 : decode cX8_isNeedless 56 = .ok (.iload_n 1, 1) := DX8_isNeedless_0 (56, .iload_n 1, 1) (List.mem_of_getElem? (i := 36) rfl)
theorem dX8_isNeedless_57 : decode cX8_isNeedless 57 = .ok (.iadd, 1) := DX8_isNeedless_0 (57, .iadd, 1) (List.mem_of_getElem? (i := 37) rfl)
theorem dX8_isNeedless_58 : decode cX8_isNeedless 58 = .ok (.iaload, 1) := DX8_isNeedless_0 (58, .iaload, 1) (List.mem_of_getElem? (i := 38) rfl)
theorem dX8_isNeedless_59 : decode cX8_isNeedless 59 = .ok (.iload 5, 2) := DX8_isNeedless_0 (59, .iload 5, 2) (List.mem_of_getElem? (i := 39) rfl)
theorem DX8_isNeedless_1 : ∀ q ∈ ([(61, .invokevirtual 93, 3), (64, .istore 4, 2), (66, .iinc 5 1, 3), (69, .goto (-31), 3), (72, .aload_n 0, 1), (73, .getfield 7, 3), (76, .bipush 82, 2), (78, .iload_n 1, 1), (79, .iadd, 1), (80, .iload_n 3, 1), (81, .iastore, 1), (82, .iload 4, 2), (84, .ireturn, 1)] : List (Nat × Instr × Nat)), decode cX8_isNeedless q.1 = .ok q.2 := by decide +kernel
theorem dX8_isNeedless_61 : decode cX8_isNeedless 61 = .ok (.invokevirtual 93, 3) := DX8_isNeedless_1 (61, .invokevirtual 93, 3) (List.mem_of_getElem? (i := 0) rfl)
theorem dX8_isNeedless_64 : decode cX8_isNeedless 64 = .ok (.istore 4, 2) := DX8_isNeedless_1 (64, .istore 4, 2) (List.mem_of_getElem? (i := 1) rfl)
theorem dX8_isNeedless_66 : decode cX8_isNeedless 66 = .ok (.iinc 5 1, 3) := DX8_isNeedless_1 (66, .iinc 5 1, 3) (List.mem_of_getElem? (i := 2) rfl)
theorem dX8_isNeedless_69 : decode cX8_isNeedless 69 = .ok (.goto (-31), 3) := DX8_isNeedless_1 (69, .goto (-31), 3) (List.mem_of_getElem? (i := 3) rfl)
theorem dX8_isNeedless_72 : decode cX8_isNeedless 72 = .ok (.aload_n 0, 1) := DX8_isNeedless_1 (72, .aload_n 0, 1) (List.mem_of_getElem? (i := 4) rfl)
theorem dX8_isNeedless_73 : decode cX8_isNeedless 73 = .ok (.getfield 7, 3) := DX8_isNeedless_1 (73, .getfield 7, 3) (List.mem_of_getElem? (i := 5) rfl)
theorem dX8_isNeedless_76 : decode cX8_isNeedless 76 = .ok (.bipush 82, 2) := DX8_isNeedless_1 (76, .bipush 82, 2) (List.mem_of_getElem? (i := 6) rfl)
theorem dX8_isNeedless_78 : decode cX8_isNeedless 78 = .ok (.iload_n 1, 1) := DX8_isNeedless_1 (78, .iload_n 1, 1) (List.mem_of_getElem? (i := 7) rfl)
theorem dX8_isNeedless_79 : decode cX8_isNeedless 79 = .ok (.iadd, 1) := DX8_isNeedless_1 (79, .iadd, 1) (List.mem_of_getElem? (i := 8) rfl)
theorem dX8_isNeedless_80 : decode cX8_isNeedless 80 = .ok (.iload_n 3, 1) := DX8_isNeedless_1 (80, .iload_n 3, 1) (List.mem_of_getElem? (i := 9) rfl)
theorem dX8_isNeedless_81 : decode cX8_isNeedless 81 = .ok (.iastore, 1) := DX8_isNeedless_1 (81, .iastore, 1) (List.mem_of_getElem? (i := 10) rfl)
theorem dX8_isNeedless_82 : decode cX8_isNeedless 82 = .ok (.iload 4, 2) := DX8_isNeedless_1 (82, .iload 4, 2) (List.mem_of_getElem? (i := 11) rfl)
theorem dX8_isNeedless_84 : decode cX8_isNeedless 84 = .ok (.ireturn, 1) := DX8_isNeedless_1 (84, .ireturn, 1) (List.mem_of_getElem? (i := 12) rfl)
abbrev rmX8_isNeedless : Room := { frames := 2, cells := 0, slots := 0, locals := 45 }
set_option maxHeartbeats 400000 in
set_option maxRecDepth 100000 in
theorem met_X8_isNeedless (l : Launch) (D : va_G) (kA : Nat → ClassId) (a : Nat → Nat) (n : Nat) (V0 : Sz) (x1 : Int) (hDt : ∀ w : Sz, va_D (fun _ => True) (cs_X8 kA a w)) {r : Bool} {Vr : Sz} (hf : f_X8_isNeedless n V0 x1 = some (r, Vr)) : MZ l yX8_isNeedless cX8_isNeedless 6 (some .boolean) rmX8_isNeedless D kA [.ref (a 0), vI x1] (cs_X8 kA a V0) (cs_X8 kA a Vr) (some (vI (bI r))) := by
  refine zZZ (own := RX8) rfl rfl (Nat.le_of_ble_eq_true rfl) ?_
  intro p e s m args below meth c ls Q hC hK hP hl hret
  have hl : lv_has ls 6 [(0, .ref (a 0)), (1, vI x1)] := hl
  have hS : va_S (zF (cs_X8 kA a V0)) s.heap s.heap [] := va_S.rf
  have hD := zDself (C := fun w : Sz => (cs_X8 kA a w)) hDt V0 (fun _ => rfl)
  try dsimp only at hD
  generalize hAe : zF (cs_X8 kA a V0) = A0 at hS hD hret
  unfold f_X8_isNeedless at hf
  have J72 : ∀ (y3 : Int) (y4 : Int) (V : Sz) (H : Heap) (locs : List Loc) (ls : Array Slot), jX8_isNeedless_72 n x1 y3 y4 V = some (r, Vr) → va_P D vwCl (cs_X8 kA a V) H → va_S A0 s.heap H locs → lv_has ls 6 [(0, .ref (a 0)), (1, vI x1), (3, vI y3), (4, vI y4)] → W p l e rmX8_isNeedless s m args below meth c H locs 0 0 Q (F0 m 72 ls []) := by
    intro y3 y4 V H locs ls hf hP hS hl
    unfold jX8_isNeedless_72 at hf
    refine lv_aload_n hC.1 hC.2.1 dX8_isNeedless_72 rfl (lv_at hl 0 rfl) <| gfX8_7 hC hK hP (q0 := 0) rfl rfl dX8_isNeedless_73 <| zbipush hC.1 hC.2.1 dX8_isNeedless_76 (by decide) <| ziload_n hC.1 hC.2.1 dX8_isNeedless_78 rfl (lv_at hl 1 rfl) <| ziadd hC.1 hC.2.1 dX8_isNeedless_79 <| ziload_n hC.1 hC.2.1 dX8_isNeedless_80 rfl (lv_at hl 2 rfl) <| ?_
    obtain ⟨hz_7, hf⟩ := ck_some hf
    refine jas hC hK hP (hD V) hS (q0 := 1) rfl (Nat.le_of_ble_eq_true rfl) hz_7 rfl dX8_isNeedless_81 (fun H locs hP hS => ?_)
    obtain ⟨V_8, eV_8⟩ : ∃ y, y = uz V 0 (82 + x1).toNat y3 := ⟨_, rfl⟩
    have hf := nm_at hf eV_8
    have hP : va_P D vwCl (cs_X8 kA a V_8) H := by rw [eV_8]; exact hP
    refine ziload hC.1 hC.2.1 dX8_isNeedless_82 (lv_at hl 3 rfl) <| ?_
    obtain ⟨hz_9, hf⟩ := ck_some hf
    refine ztopz hz_9 <| ?_
    have hf := Option.some.inj hf
    simp only [Prod.mk.injEq] at hf
    exact hret (Int32.ofInt (bI (dZ y4))) _ _ _ _ (zb01 _) (congrArg (fun z => some (vI (bI z))) hf.1.symm) (by rw [← hf.2]; exact hP) hS dX8_isNeedless_84
  have L38 : ∀ (k38 : Nat) (y3 : Int) (y4 : Int) (y5 : Int) (V : Sz) (H : Heap) (locs : List Loc) (ls : Array Slot), lpF (bX8_isNeedless_38 n x1) k38 (y3, y4, y5, V) = some (r, Vr) → va_P D vwCl (cs_X8 kA a V) H → va_S A0 s.heap H locs → lv_has ls 6 [(0, .ref (a 0)), (1, vI x1), (3, vI y3), (4, vI y4), (5, vI y5)] → W p l e rmX8_isNeedless s m args below meth c H locs 0 0 Q (F0 m 38 ls []) := by
    intro k38
    induction k38 with
    | zero => intro y3 y4 y5 V H locs ls hf hP hS hl; exact lp_0 hf
    | succ k38 ih38 =>
      intro y3 y4 y5 V H locs ls hf hP hS hl
      have hf := lp_s hf
      rw [bX8_isNeedless_38_e] at hf
      refine ziload hC.1 hC.2.1 dX8_isNeedless_38 (lv_at hl 4 rfl) <| ziload_n hC.1 hC.2.1 dX8_isNeedless_40 rfl (lv_at hl 2 rfl) <| ?_
      obtain ⟨hz_6, hf⟩ := ck_some hf
      refine zicmp_gt (tgt := 72) hC.1 hC.2.1 ⟨hz_6.1, hz_6.2⟩ dX8_isNeedless_41 (by decide) (fun hc => ?_) (fun hc => ?_)
      · have hf := it_t hf hc
        exact J72 _ _ _ _ _ _ hf hP hS (lv_sub hl [0, 1, 2, 3] rfl)
      · have hf := it_f hf hc
        refine ziload hC.1 hC.2.1 dX8_isNeedless_44 (lv_at hl 3 rfl) <| ?_
        obtain ⟨hz_10, hf⟩ := ck_some hf
        refine zif_eq (tgt := 72) hC.1 hC.2.1 hz_10 dX8_isNeedless_46 (by decide) (fun hc => ?_) (fun hc => ?_)
        · have hf := it_t hf hc
          exact J72 _ _ _ _ _ _ hf hP hS (lv_sub hl [0, 1, 2, 3] rfl)
        · have hf := it_f hf hc
          refine lv_aload_n hC.1 hC.2.1 dX8_isNeedless_49 rfl (lv_at hl 0 rfl) <| lv_aload_n hC.1 hC.2.1 dX8_isNeedless_50 rfl (lv_at hl 0 rfl) <| gfX8_7 hC hK hP (q0 := 0) rfl rfl dX8_isNeedless_51 <| zbipush hC.1 hC.2.1 dX8_isNeedless_54 (by decide) <| ziload_n hC.1 hC.2.1 dX8_isNeedless_56 rfl (lv_at hl 1 rfl) <| ziadd hC.1 hC.2.1 dX8_isNeedless_57 <| ?_
          obtain ⟨hz_11, hf⟩ := ck_some hf
          refine jal hC hK hP (q0 := 1) rfl (Nat.le_of_ble_eq_true rfl) hz_11 rfl dX8_isNeedless_58 <| ziload hC.1 hC.2.1 dX8_isNeedless_59 (lv_at hl 4 rfl) <| ?_
          obtain ⟨r_12, hu, hf⟩ := bd_some hf
          refine zcVP (As := [vI (V 0 (20 + x1).toNat), vI y5]) (rest := []) hC hK (met_X8_isForced l D kA a n V (V 0 (20 + x1).toNat) y5 hu) zwX8_93 hP (q0 := 0) rfl rfl rfl rfl hl.1 rfl (Nat.le_of_ble_eq_true rfl) ⟨Nat.le_of_ble_eq_true rfl, Nat.le_of_ble_eq_true rfl⟩ ⟨rfl, rfl⟩ ⟨Nat.le_refl _, Nat.le_refl _⟩ dX8_isNeedless_61 <| ?_
          refine ztopi (fun x_13 ex_13 => ?_)
          have hf := nm_at hf ex_13
          refine zistore (lv' := [(4, vI x_13), (0, .ref (a 0)), (1, vI x1), (3, vI y3), (5, vI y5)]) hC.1 hC.2.1 dX8_isNeedless_64 hl (by decide) rfl (fun ls hl => ?_)
          obtain ⟨x_14, ex_14⟩ : ∃ y : Int, y = y5 + 1 := ⟨_, rfl⟩
          have hf := nm_at hf ex_14
          refine ziinc (v := x_14) (lv' := [(5, vI x_14), (4, vI x_13), (0, .ref (a 0)), (1, vI x1), (3, vI y3)]) hC.1 hC.2.1 dX8_isNeedless_66 hl (k := 4) rfl ex_14 (by decide) rfl (fun ls hl => ?_)
          exact lv_goto (tgt := 38) hC.1 hC.2.1 dX8_isNeedless_69 (by decide) <| ih38 _ _ _ _ _ _ _ hf hP hS (lv_sub hl [2, 3, 4, 1, 0] rfl)
  refine lv_aload_n hC.1 hC.2.1 dX8_isNeedless_0 rfl (lv_at hl 0 rfl) <| gfX8_7 hC hK hP (q0 := 0) rfl rfl dX8_isNeedless_1 <| zbipush hC.1 hC.2.1 dX8_isNeedless_4 (by decide) <| ziload_n hC.1 hC.2.1 dX8_isNeedless_6 rfl (lv_at hl 1 rfl) <| ziadd hC.1 hC.2.1 dX8_isNeedless_7 <| ?_
  obtain ⟨hz_1, hf⟩ := ck_some hf
  refine jal hC hK hP (q0 := 1) rfl (Nat.le_of_ble_eq_true rfl) hz_1 rfl dX8_isNeedless_8 <| ?_
  refine ztopi (fun x_2 ex_2 => ?_)
  have hf := nm_at hf ex_2
  refine zistore_n (lv' := [(2, vI x_2), (0, .ref (a 0)), (1, vI x1)]) hC.1 hC.2.1 dX8_isNeedless_9 rfl hl (by decide) rfl (fun ls hl => ?_)
  refine lv_aload_n hC.1 hC.2.1 dX8_isNeedless_10 rfl (lv_at hl 1 rfl) <| gfX8_7 hC hK hP (q0 := 0) rfl rfl dX8_isNeedless_11 <| zbipush hC.1 hC.2.1 dX8_isNeedless_14 (by decide) <| ziload_n hC.1 hC.2.1 dX8_isNeedless_16 rfl (lv_at hl 2 rfl) <| ziadd hC.1 hC.2.1 dX8_isNeedless_17 <| ?_
  obtain ⟨hz_3, hf⟩ := ck_some hf
  refine jal hC hK hP (q0 := 1) rfl (Nat.le_of_ble_eq_true rfl) hz_3 rfl dX8_isNeedless_18 <| ?_
  refine ztopi (fun x_4 ex_4 => ?_)
  have hf := nm_at hf ex_4
  refine zistore_n (lv' := [(3, vI x_4), (2, vI x_2), (0, .ref (a 0)), (1, vI x1)]) hC.1 hC.2.1 dX8_isNeedless_19 rfl hl (by decide) rfl (fun ls hl => ?_)
  refine lv_aload_n hC.1 hC.2.1 dX8_isNeedless_20 rfl (lv_at hl 2 rfl) <| gfX8_7 hC hK hP (q0 := 0) rfl rfl dX8_isNeedless_21 <| zbipush hC.1 hC.2.1 dX8_isNeedless_24 (by decide) <| ziload_n hC.1 hC.2.1 dX8_isNeedless_26 rfl (lv_at hl 3 rfl) <| ziadd hC.1 hC.2.1 dX8_isNeedless_27 <| ziload_n hC.1 hC.2.1 dX8_isNeedless_28 rfl (lv_at hl 1 rfl) <| ziconst hC.1 hC.2.1 dX8_isNeedless_29 <| zisub hC.1 hC.2.1 dX8_isNeedless_30 <| ?_
  refine jas hC hK hP (hD V0) hS (q0 := 1) rfl (Nat.le_of_ble_eq_true rfl) hz_3 rfl dX8_isNeedless_31 (fun H locs hP hS => ?_)
  obtain ⟨V_5, eV_5⟩ : ∃ y, y = uz V0 0 (82 + x1).toNat (x_2 - 1) := ⟨_, rfl⟩
  have hf := nm_at hf eV_5
  have hP : va_P D vwCl (cs_X8 kA a V_5) H := by rw [eV_5]; exact hP
  refine ziconst hC.1 hC.2.1 dX8_isNeedless_32 <| zistore (lv' := [(4, vI 1), (3, vI x_4), (2, vI x_2), (0, .ref (a 0)), (1, vI x1)]) hC.1 hC.2.1 dX8_isNeedless_33 hl (by decide) rfl (fun ls hl => ?_)
  refine ziload_n hC.1 hC.2.1 dX8_isNeedless_35 rfl (lv_at hl 2 rfl) <| zistore (lv' := [(5, vI x_2), (4, vI 1), (3, vI x_4), (2, vI x_2), (0, .ref (a 0)), (1, vI x1)]) hC.1 hC.2.1 dX8_isNeedless_36 hl (by decide) rfl (fun ls hl => ?_)
  exact L38 n _ _ _ _ _ _ _ hf hP hS (lv_sub hl [4, 5, 2, 1, 0] rfl)
theorem DX8_longestSpan_0 : ∀ q ∈ ([(0, .aload_n 0, 1), (1, .iload_n 1, 1), (2, .invokevirtual 287, 3), (5, .ifCond .eq 5, 3), (8, .iconst 0, 1), (9, .ireturn, 1), (10, .iconst 0, 1), (11, .istore_n 2, 1), (12, .iconst 0, 1), (13, .istore_n 3, 1), (14, .iconst 0, 1), (15, .istore 4, 2), (17, .iload 4, 2), (19, .sipush 9999, 3), (22, .if_icmp .gt 33, 3), (25, .aload_n 0, 1), (26, .iload_n 1, 1), (27, .iload 4, 2), (29, .invokevirtual 93, 3), (32, .ifCond .eq 9, 3), (35, .iload_n 3, 1), (36, .iconst 1, 1), (37, .iadd, 1), (38, .goto 4, 3), (41, .iconst 0, 1), (42, .istore_n 3, 1), (43, .iload_n 2, 1), (44, .iload_n 3, 1), (45, .invokestatic 118, 3), (48, .istore_n 2, 1), (49, .iinc 4 1, 3), (52, .goto (-35), 3), (55, .iload_n 2, 1), (56, .ireturn, 1)] : List (Nat × Instr × Nat)), decode cX8_longestSpan q.1 = .ok q.2 := by decide +kernel
theorem dX8_longestSpan_0 : decode cX8_longestSpan 0 = .ok (.aload_n 0, 1) := DX8_longestSpan_0 (0, .aload_n 0, 1) (List.mem_of_getElem? (i := 0) rfl)
theorem dX8_longestSpan_1 : decode cX8_longestSpan 1 = .ok (.iload_n 1, 1) := DX8_longestSpan_0 (1, .iload_n 1, 1) (List.mem_of_getElem? (i := 1) rfl)
theorem dX8_longestSpan_2 : decode cX8_longestSpan 2 = .ok (.invokevirtual 287, 3) := DX8_longestSpan_0 (2, .invokevirtual 287, 3) (List.mem_of_getElem? (i := 2) rfl)
theorem dX8_longestSpan_5 : decode cX8_longestSpan 5 = .ok (.ifCond .eq 5, 3) := DX8_longestSpan_0 (5, .ifCond .eq 5, 3) (List.mem_of_getElem? (i := 3) rfl)
theorem dX8_longestSpan_8 : decode cX8_longestSpan 8 = .ok (.iconst 0, 1) := DX8_longestSpan_0 (8, .iconst 0, 1) (List.mem_of_getElem? (i := 4) rfl)
theorem dX8_longestSpan_9 : decode cX8_longestSpan 9 = .ok (.ireturn, 1) := DX8_longestSpan_0 (9, .ireturn, 1) (List.mem_of_getElem? (i := 5) rfl)
theorem dX8_longestSpan_10 : decode cX8_longestSpan 10 = .ok (.iconst 0, 1) := DX8_longestSpan_0 (10, .iconst 0, 1) (List.mem_of_getElem? (i := 6) rfl)
theorem dX8_longestSpan_11 : decode cX8_longestSpan 11 = .ok (.istore_n 2, 1) := DX8_longestSpan_0 (11, .istore_n 2, 1) (List.mem_of_getElem? (i := 7) rfl)
theorem dX8_longestSpan_12 : decode cX8_longestSpan 12 = .ok (.iconst 0, 1) := DX8_longestSpan_0 (12, .iconst 0, 1) (List.mem_of_getElem? (i := 8) rfl)
theorem dX8_longestSpan_13 : decode cX8_longestSpan 13 = .ok (.istore_n 3, 1) := DX8_longestSpan_0 (13, .istore_n 3, 1) (List.mem_of_getElem? (i := 9) rfl)
theorem dX8_longestSpan_14 : decode cX8_longestSpan 14 = .ok (.iconst 0, 1) := DX8_longestSpan_0 (14, .iconst 0, 1) (List.mem_of_getElem? (i := 10) rfl)
theorem dX8_longestSpan_15 : decode cX8_longestSpan 15 = .ok (.istore 4, 2) := DX8_longestSpan_0 (15, .istore 4, 2) (List.mem_of_getElem? (i := 11) rfl)
theorem dX8_longestSpan_17 : decode cX8_longestSpan 17 = .ok (.iload 4, 2) := DX8_longestSpan_0 (17, .iload 4, 2) (List.mem_of_getElem? (i := 12) rfl)
theorem dX8_longestSpan_19 : decode cX8_longestSpan 19 = .ok (.sipush 9999, 3) := DX8_longestSpan_0 (19, .sipush 9999, 3) (List.mem_of_getElem? (i := 13) rfl)
theorem dX8_longestSpan_22 : decode cX8_longestSpan 22 = .ok (.if_icmp .gt 33, 3) := DX8_longestSpan_0 (22, .if_icmp .gt 33, 3) (List.mem_of_getElem? (i := 14) rfl)
theorem dX8_longestSpan_25 : decode cX8_longestSpan 25 = .ok (.aload_n 0, 1) := DX8_longestSpan_0 (25, .aload_n 0, 1) (List.mem_of_getElem? (i := 15) rfl)
theorem dX8_longestSpan_26 : decode cX8_longestSpan 26 = .ok (.iload_n 1, 1) := DX8_longestSpan_0 (26, .iload_n 1, 1) (List.mem_of_getElem? (i := 16) rfl)
theorem dX8_longestSpan_27 : decode cX8_longestSpan 27 = .ok (.iload 4, 2) := DX8_longestSpan_0 (27, .iload 4, 2) (List.mem_of_getElem? (i := 17) rfl)
theorem dX8_longestSpan_29 : decode cX8_longestSpan 29 = .ok (.invokevirtual 93, 3) := DX8_longestSpan_0 (29, .invokevirtual 93, 3) (List.mem_of_getElem? (i := 18) rfl)
theorem dX8_longestSpan_32 : decode cX8_longestSpan 32 = .ok (.ifCond .eq 9, 3) := DX8_longestSpan_0 (32, .ifCond .eq 9, 3) (List.mem_of_getElem? (i := 19) rfl)
theorem dX8_longestSpan_35 : decode cX8_longestSpan 35 = .ok (.iload_n 3, 1) := DX8_longestSpan_0 (35, .iload_n 3, 1) (List.mem_of_getElem? (i := 20) rfl)
theorem dX8_longestSpan_36 : decode cX8_longestSpan 36 = .ok (.iconst 1, 1) := DX8_longestSpan_0 (36, .iconst 1, 1) (List.mem_of_getElem? (i := 21) rfl)
theorem dX8_longestSpan_37 : decode cX8_longestSpan 37 = .ok (.iadd, 1) := DX8_longestSpan_0 (37, .iadd, 1) (List.mem_of_getElem? (i := 22) rfl)
theorem dX8_longestSpan_38 : decode cX8_longestSpan 38 = .ok (.goto 4, 3) := DX8_longestSpan_0 (38, .goto 4, 3) (List.mem_of_getElem? (i := 23) rfl)
theorem dX8_longestSpan_41 : decode cX8_longestSpan 41 = .ok (.iconst 0, 1) := DX8_longestSpan_0 (41, .iconst 0, 1) (List.mem_of_getElem? (i := 24) rfl)
theorem dX8_longestSpan_42 : decode cX8_longestSpan 42 = .ok (.istore_n 3, 1) := DX8_longestSpan_0 (42, .istore_n 3, 1) (List.mem_of_getElem? (i := 25) rfl)
theorem dX8_longestSpan_43 : decode cX8_longestSpan 43 = .ok (.iload_n 2, 1) := DX8_longestSpan_0 (43, .iload_n 2, 1) (List.mem_of_getElem? (i := 26) rfl)
theorem dX8_longestSpan_44 : decode cX8_longestSpan 44 = .ok (.iload_n 3, 1) := DX8_longestSpan_0 (44, .iload_n 3, 1) (List.mem_of_getElem? (i := 27) rfl)
theorem dX8_longestSpan_45 : decode cX8_longestSpan 45 = .ok (.invokestatic 118, 3) := DX8_longestSpan_0 (45, .invokestatic 118, 3) (List.mem_of_getElem? (i := 28) rfl)
theorem dX8_longestSpan_48 : decode cX8_longestSpan 48 = .ok (.istore_n 2, 1) := DX8_longestSpan_0 (48, .istore_n 2, 1) (List.mem_of_getElem? (i := 29) rfl)
theorem dX8_longestSpan_49 : decode cX8_longestSpan 49 = .ok (.iinc 4 1, 3) := DX8_longestSpan_0 (49, .iinc 4 1, 3) (List.mem_of_getElem? (i := 30) rfl)
theorem dX8_longestSpan_52 : decode cX8_longestSpan 52 = .ok (.goto (-35), 3) := DX8_longestSpan_0 (52, .goto (-35), 3) (List.mem_of_getElem? (i := 31) rfl)
theorem dX8_longestSpan_55 : decode cX8_longestSpan 55 = .ok (.iload_n 2, 1) := DX8_longestSpan_0 (55, .iload_n 2, 1) (List.mem_of_getElem? (i := 32) rfl)
theorem dX8_longestSpan_56 : decode cX8_longestSpan 56 = .ok (.ireturn, 1) := DX8_longestSpan_0 (56, .ireturn, 1) (List.mem_of_getElem? (i := 33) rfl)
abbrev rmX8_longestSpan : Room := { frames := 2, cells := 0, slots := 0, locals := 60 }
set_option maxHeartbeats 400000 in
set_option maxRecDepth 100000 in
theorem met_X8_longestSpan (l : Launch) (D : va_G) (kA : Nat → ClassId) (a : Nat → Nat) (n : Nat) (V0 : Sz) (x1 : Int) (hDt : ∀ w : Sz, va_D (fun _ => True) (cs_X8 kA a w)) {r : Int} {Vr : Sz} (hf : f_X8_longestSpan n V0 x1 = some (r, Vr)) : MZ l yX8_longestSpan cX8_longestSpan 5 (some .int) rmX8_longestSpan D kA [.ref (a 0), vI x1] (cs_X8 kA a V0) (cs_X8 kA a Vr) (some (vI r)) := by
  refine zZI (own := RX8) rfl rfl (Nat.le_of_ble_eq_true rfl) ?_
  intro p e s m args below meth c ls Q hC hK hP hl hret
  have hl : lv_has ls 5 [(0, .ref (a 0)), (1, vI x1)] := hl
  have hS : va_S (zF (cs_X8 kA a V0)) s.heap s.heap [] := va_S.rf
  have hD := zDself (C := fun w : Sz => (cs_X8 kA a w)) hDt V0 (fun _ => rfl)
  try dsimp only at hD
  generalize hAe : zF (cs_X8 kA a V0) = A0 at hS hD hret
  unfold f_X8_longestSpan at hf
  have L17 : ∀ (k17 : Nat) (y2 : Int) (y3 : Int) (y4 : Int) (V : Sz) (H : Heap) (locs : List Loc) (ls : Array Slot), lpF (bX8_longestSpan_17 n x1) k17 (y2, y3, y4, V) = some (r, Vr) → va_P D vwCl (cs_X8 kA a V) H → va_S A0 s.heap H locs → lv_has ls 5 [(0, .ref (a 0)), (1, vI x1), (2, vI y2), (3, vI y3), (4, vI y4)] → W p l e rmX8_longestSpan s m args below meth c H locs 0 0 Q (F0 m 17 ls []) := by
    intro k17
    induction k17 with
    | zero => intro y2 y3 y4 V H locs ls hf hP hS hl; exact lp_0 hf
    | succ k17 ih17 =>
      intro y2 y3 y4 V H locs ls hf hP hS hl
      have hf := lp_s hf
      rw [bX8_longestSpan_17_e] at hf
      have J42 : ∀ (y2 : Int) (y4 : Int) (V : Sz) (z0 : Int) (H : Heap) (locs : List Loc) (ls : Array Slot), jX8_longestSpan_42 n x1 (lpF (bX8_longestSpan_17 n x1) k17) y2 y4 V z0 = some (r, Vr) → va_P D vwCl (cs_X8 kA a V) H → va_S A0 s.heap H locs → lv_has ls 5 [(0, .ref (a 0)), (1, vI x1), (2, vI y2), (4, vI y4)] → W p l e rmX8_longestSpan s m args below meth c H locs 0 0 Q (F0 m 42 ls [vI z0]) := by
        intro y2 y4 V z0 H locs ls hf hP hS hl
        unfold jX8_longestSpan_42 at hf
        refine zistore_n (lv' := [(3, vI z0), (0, .ref (a 0)), (1, vI x1), (2, vI y2), (4, vI y4)]) hC.1 hC.2.1 dX8_longestSpan_42 rfl hl (by decide) rfl (fun ls hl => ?_)
        refine ziload_n hC.1 hC.2.1 dX8_longestSpan_43 rfl (lv_at hl 3 rfl) <| ziload_n hC.1 hC.2.1 dX8_longestSpan_44 rfl (lv_at hl 0 rfl) <| ?_
        obtain ⟨hz_5, hf⟩ := ck_some hf
        refine jmax ⟨hz_5.1, hz_5.2⟩ hC qw_1518 hl.1 (Nat.le_of_ble_eq_true rfl) ⟨Nat.le_of_ble_eq_true rfl, Nat.le_of_ble_eq_true rfl⟩ ⟨Nat.le_refl _, Nat.le_refl _⟩ dX8_longestSpan_45 <| ?_
        refine ztopi (fun x_6 ex_6 => ?_)
        have hf := nm_at hf ex_6
        refine zistore_n (lv' := [(2, vI x_6), (3, vI z0), (0, .ref (a 0)), (1, vI x1), (4, vI y4)]) hC.1 hC.2.1 dX8_longestSpan_48 rfl hl (by decide) rfl (fun ls hl => ?_)
        obtain ⟨x_7, ex_7⟩ : ∃ y : Int, y = y4 + 1 := ⟨_, rfl⟩
        have hf := nm_at hf ex_7
        refine ziinc (v := x_7) (lv' := [(4, vI x_7), (2, vI x_6), (3, vI z0), (0, .ref (a 0)), (1, vI x1)]) hC.1 hC.2.1 dX8_longestSpan_49 hl (k := 4) rfl ex_7 (by decide) rfl (fun ls hl => ?_)
        exact lv_goto (tgt := 17) hC.1 hC.2.1 dX8_longestSpan_52 (by decide) <| ih17 _ _ _ _ _ _ _ hf hP hS (lv_sub hl [3, 4, 1, 2, 0] rfl)
      refine ziload hC.1 hC.2.1 dX8_longestSpan_17 (lv_at hl 4 rfl) <| zsipush hC.1 hC.2.1 dX8_longestSpan_19 (by decide) <| ?_
      obtain ⟨hz_3, hf⟩ := ck_some hf
      refine zicmp_gt (tgt := 55) hC.1 hC.2.1 ⟨hz_3, (by decide)⟩ dX8_longestSpan_22 (by decide) (fun hc => ?_) (fun hc => ?_)
      · have hf := it_t hf hc
        refine ziload_n hC.1 hC.2.1 dX8_longestSpan_55 rfl (lv_at hl 2 rfl) <| ?_
        have hf := Option.some.inj hf
        simp only [Prod.mk.injEq] at hf
        exact hret (Int32.ofInt y2) _ _ _ _ (congrArg (fun z => some (vI z)) hf.1.symm) (by rw [← hf.2]; exact hP) hS dX8_longestSpan_56
      · have hf := it_f hf hc
        refine lv_aload_n hC.1 hC.2.1 dX8_longestSpan_25 rfl (lv_at hl 0 rfl) <| ziload_n hC.1 hC.2.1 dX8_longestSpan_26 rfl (lv_at hl 1 rfl) <| ziload hC.1 hC.2.1 dX8_longestSpan_27 (lv_at hl 4 rfl) <| ?_
        obtain ⟨r_4, hu, hf⟩ := bd_some hf
        refine zcVP (As := [vI x1, vI y4]) (rest := []) hC hK (met_X8_isForced l D kA a n V x1 y4 hu) zwX8_93 hP (q0 := 0) rfl rfl rfl rfl hl.1 rfl (Nat.le_of_ble_eq_true rfl) ⟨Nat.le_of_ble_eq_true rfl, Nat.le_of_ble_eq_true rfl⟩ ⟨rfl, rfl⟩ ⟨Nat.le_refl _, Nat.le_refl _⟩ dX8_longestSpan_29 <| zifb_eq (tgt := 41) hC.1 hC.2.1 dX8_longestSpan_32 (by decide) (fun hc => ?_) (fun hc => ?_)
        · have hf := it_t hf hc
          exact ziconst hC.1 hC.2.1 dX8_longestSpan_41 <| J42 _ _ _ _ _ _ _ hf hP hS (lv_sub hl [0, 1, 2, 4] rfl)
        · have hf := it_f hf hc
          exact ziload_n hC.1 hC.2.1 dX8_longestSpan_35 rfl (lv_at hl 3 rfl) <| ziconst hC.1 hC.2.1 dX8_longestSpan_36 <| ziadd hC.1 hC.2.1 dX8_longestSpan_37 <| lv_goto (tgt := 42) hC.1 hC.2.1 dX8_longestSpan_38 (by decide) <| J42 _ _ _ _ _ _ _ hf hP hS (lv_sub hl [0, 1, 2, 4] rfl)
  refine lv_aload_n hC.1 hC.2.1 dX8_longestSpan_0 rfl (lv_at hl 0 rfl) <| ziload_n hC.1 hC.2.1 dX8_longestSpan_1 rfl (lv_at hl 1 rfl) <| ?_
  obtain ⟨⟨r_1, V_2⟩, hu, hf⟩ := bd_some hf
  have hDc := hDt
  refine zcVZ (As := [vI x1]) (rest := []) hC hK (met_X8_noDonor l D kA a V0 x1 hDc hu) zwX8_287 hS (zFsub (hD V0) [0, 1, 2, 3, 4, 5, 6, 7, 8, 9, 10, 11, 12, 13, 14, 15, 16] rfl) hP (q0 := 0) rfl rfl rfl rfl hl.1 rfl (Nat.le_of_ble_eq_true rfl) ⟨Nat.le_of_ble_eq_true rfl, Nat.le_of_ble_eq_true rfl⟩ ⟨rfl, rfl⟩ ⟨Nat.le_refl _, Nat.le_refl _⟩ dX8_longestSpan_2 (fun H locs hP1 hk1 hS => ?_)
  have hP : va_P D vwCl (cs_X8 kA a V_2) H := hP1
  refine zifb_eq (tgt := 10) hC.1 hC.2.1 dX8_longestSpan_5 (by decide) (fun hc => ?_) (fun hc => ?_)
  · have hf := it_t hf hc
    refine ziconst hC.1 hC.2.1 dX8_longestSpan_10 <| zistore_n (lv' := [(2, vI 0), (0, .ref (a 0)), (1, vI x1)]) hC.1 hC.2.1 dX8_longestSpan_11 rfl hl (by decide) rfl (fun ls hl => ?_)
    refine ziconst hC.1 hC.2.1 dX8_longestSpan_12 <| zistore_n (lv' := [(3, vI 0), (2, vI 0), (0, .ref (a 0)), (1, vI x1)]) hC.1 hC.2.1 dX8_longestSpan_13 rfl hl (by decide) rfl (fun ls hl => ?_)
    refine ziconst hC.1 hC.2.1 dX8_longestSpan_14 <| zistore (lv' := [(4, vI 0), (3, vI 0), (2, vI 0), (0, .ref (a 0)), (1, vI x1)]) hC.1 hC.2.1 dX8_longestSpan_15 hl (by decide) rfl (fun ls hl => ?_)
    exact L17 n _ _ _ _ _ _ _ hf hP hS (lv_sub hl [3, 4, 2, 1, 0] rfl)
  · have hf := it_f hf hc
    refine ziconst hC.1 hC.2.1 dX8_longestSpan_8 <| ?_
    have hf := Option.some.inj hf
    simp only [Prod.mk.injEq] at hf
    exact hret (Int32.ofInt 0) _ _ _ _ (congrArg (fun z => some (vI z)) hf.1.symm) (by rw [← hf.2]; exact hP) hS dX8_longestSpan_9
theorem DX8_needless_0 : ∀ q ∈ ([(0, .aload_n 0, 1), (1, .iload_n 1, 1), (2, .invokevirtual 287, 3), (5, .ifCond .eq 5, 3), (8, .iconst 0, 1), (9, .ireturn, 1), (10, .iconst 0, 1), (11, .istore_n 2, 1), (12, .iconst 0, 1), (13, .istore_n 3, 1), (14, .iload_n 3, 1), (15, .aload_n 0, 1), (16, .getfield 7, 3), (19, .iconst 1, 1), (20, .iaload, 1), (21, .if_icmp .ge 38, 3), (24, .iload_n 2, 1), (25, .aload_n 0, 1), (26, .getfield 7, 3), (29, .bipush 20, 2), (31, .iload_n 3, 1), (32, .iadd, 1), (33, .iaload, 1), (34, .iload_n 1, 1), (35, .if_icmp .ne 15, 3), (38, .aload_n 0, 1), (39, .iload_n 3, 1), (40, .invokevirtual 297, 3), (43, .ifCond .eq 7, 3), (46, .iconst 1, 1), (47, .goto 4, 3), (50, .iconst 0, 1), (51, .iadd, 1), (52, .istore_n 2, 1), (53, .iinc 3 1, 3), (56, .goto (-42), 3), (59, .iload_n 2, 1), (60, .ireturn, 1)] : List (Nat × Instr × Nat)), decode cX8_needless q.1 = .ok q.2 := by decide +kernel
theorem dX8_needless_0 : decode cX8_needless 0 = .ok (.aload_n 0, 1) := DX8_needless_0 (0, .aload_n 0, 1) (List.mem_of_getElem? (i := 0) rfl)
theorem dX8_needless_1 : decode cX8_needless 1 = .ok (.iload_n 1, 1) := DX8_needless_0 (1, .iload_n 1, 1) (List.mem_of_getElem? (i := 1) rfl)
theorem dX8_needless_2 : decode cX8_needless 2 = .ok (.invokevirtual 287, 3) := DX8_needless_0 (2, .invokevirtual 287, 3) (List.mem_of_getElem? (i := 2) rfl)
theorem dX8_needless_5 : decode cX8_needless 5 = .ok (.ifCond .eq 5, 3) := DX8_needless_0 (5, .ifCond .eq 5, 3) (List.mem_of_getElem? (i := 3) rfl)
theorem dX8_needless_8 : decode cX8_needless 8 = .ok (.iconst 0, 1) := DX8_needless_0 (8, .iconst 0, 1) (List.mem_of_getElem? (i := 4) rfl)
theorem dX8_needless_9 : decode cX8_needless 9 = .ok (.ireturn, 1) := DX8_needless_0 (9, .ireturn, 1) (List.mem_of_getElem? (i := 5) rfl)
theorem dX8_needless_10 : decode cX8_needless 10 = .ok (.iconst 0, 1) := DX8_needless_0 (10, .iconst 0, 1) (List.mem_of_getElem? (i := 6) rfl)
theorem dX8_needless_11 : decode cX8_needless 11 = .ok (.istore_n 2, 1) := DX8_needless_0 (11, .istore_n 2, 1) (List.mem_of_getElem? (i := 7) rfl)
theorem dX8_needless_12 : decode cX8_needless 12 = .ok (.iconst 0, 1) := DX8_needless_0 (12, .iconst 0, 1) (List.mem_of_getElem? (i := 8) rfl)
theorem dX8_needless_13 : decode cX8_needless 13 = .ok (.istore_n 3, 1) := DX8_needless_0 (13, .istore_n 3, 1) (List.mem_of_getElem? (i := 9) rfl)
theorem dX8_needless_14 : decode cX8_needless 14 = .ok (.iload_n 3, 1) := DX8_needless_0 (14, .iload_n 3, 1) (List.mem_of_getElem? (i := 10) rfl)
theorem dX8_needless_15 : decode cX8_needless 15 = .ok (.aload_n 0, 1) := DX8_needless_0 (15, .aload_n 0, 1) (List.mem_of_getElem? (i := 11) rfl)
theorem dX8_needless_16 : decode cX8_needless 16 = .ok (.getfield 7, 3) := DX8_needless_0 (16, .getfield 7, 3) (List.mem_of_getElem? (i := 12) rfl)
theorem dX8_needless_19 : decode cX8_needless 19 = .ok (.iconst 1, 1) := DX8_needless_0 (19, .iconst 1, 1) (List.mem_of_getElem? (i := 13) rfl)
theorem dX8_needless_20 : decode cX8_needless 20 = .ok (.iaload, 1) := DX8_needless_0 (20, .iaload, 1) (List.mem_of_getElem? (i := 14) rfl)
theorem dX8_needless_21 : decode cX8_needless 21 = .ok (.if_icmp .ge 38, 3) := DX8_needless_0 (21, .if_icmp .ge 38, 3) (List.mem_of_getElem? (i := 15) rfl)
theorem dX8_needless_24 : decode cX8_needless 24 = .ok (.iload_n 2, 1) := DX8_needless_0 (24, .iload_n 2, 1) (List.mem_of_getElem? (i := 16) rfl)
theorem dX8_needless_25 : decode cX8_needless 25 = .ok (.aload_n 0, 1) := DX8_needless_0 (25, .aload_n 0, 1) (List.mem_of_getElem? (i := 17) rfl)
theorem dX8_needless_26 : decode cX8_needless 26 = .ok (.getfield 7, 3) := DX8_needless_0 (26, .getfield 7, 3) (List.mem_of_getElem? (i := 18) rfl)
theorem dX8_needless_29 : decode cX8_needless 29 = .ok (.bipush 20, 2) := DX8_needless_0 (29, .bipush 20, 2) (List.mem_of_getElem? (i := 19) rfl)
theorem dX8_needless_31 : decode cX8_needless 31 = .ok (.iload_n 3, 1) := DX8_needless_0 (31, .iload_n 3, 1) (List.mem_of_getElem? (i := 20) rfl)
theorem dX8_needless_32 : decode cX8_needless 32 = .ok (.iadd, 1) := DX8_needless_0 (32, .iadd, 1) (List.mem_of_getElem? (i := 21) rfl)
theorem dX8_needless_33 : decode cX8_needless 33 = .ok (.iaload, 1) := DX8_needless_0 (33, .iaload, 1) (List.mem_of_getElem? (i := 22) rfl)
theorem dX8_needless_34 : decode cX8_needless 34 = .ok (.iload_n 1, 1) := DX8_needless_0 (34, .iload_n 1, 1) (List.mem_of_getElem? (i := 23) rfl)
theorem dX8_needless_35 : decode cX8_needless 35 = .ok (.if_icmp .ne 15, 3) := DX8_needless_0 (35, .if_icmp .ne 15, 3) (List.mem_of_getElem? (i := 24) rfl)
theorem dX8_needless_38 : decode cX8_needless 38 = .ok (.aload_n 0, 1) := DX8_needless_0 (38, .aload_n 0, 1) (List.mem_of_getElem? (i := 25) rfl)
theorem dX8_needless_39 : decode cX8_needless 39 = .ok (.iload_n 3, 1) := DX8_needless_0 (39, .iload_n 3, 1) (List.mem_of_getElem? (i := 26) rfl)
theorem dX8_needless_40 : decode cX8_needless 40 = .ok (.invokevirtual 297, 3) := DX8_needless_0 (40, .invokevirtual 297, 3) (List.mem_of_getElem? (i := 27) rfl)
theorem dX8_needless_43 : decode cX8_needless 43 = .ok (.ifCond .eq 7, 3) := DX8_needless_0 (43, .ifCond .eq 7, 3) (List.mem_of_getElem? (i := 28) rfl)
theorem dX8_needless_46 : decode cX8_needless 46 = .ok (.iconst 1, 1) := DX8_needless_0 (46, .iconst 1, 1) (List.mem_of_getElem? (i := 29) rfl)
theorem dX8_needless_47 : decode cX8_needless 47 = .ok (.goto 4, 3) := DX8_needless_0 (47, .goto 4, 3) (List.mem_of_getElem? (i := 30) rfl)
theorem dX8_needless_50 : decode cX8_needless 50 = .ok (.iconst 0, 1) := DX8_needless_0 (50, .iconst 0, 1) (List.mem_of_getElem? (i := 31) rfl)
theorem dX8_needless_51 : decode cX8_needless 51 = .ok (.iadd, 1) := DX8_needless_0 (51, .iadd, 1) (List.mem_of_getElem? (i := 32) rfl)
theorem dX8_needless_52 : decode cX8_needless 52 = .ok (.istore_n 2, 1) := DX8_needless_0 (52, .istore_n 2, 1) (List.mem_of_getElem? (i := 33) rfl)
theorem dX8_needless_53 : decode cX8_needless 53 = .ok (.iinc 3 1, 3) := DX8_needless_0 (53, .iinc 3 1, 3) (List.mem_of_getElem? (i := 34) rfl)
theorem dX8_needless_56 : decode cX8_needless 56 = .ok (.goto (-42), 3) := DX8_needless_0 (56, .goto (-42), 3) (List.mem_of_getElem? (i := 35) rfl)
theorem dX8_needless_59 : decode cX8_needless 59 = .ok (.iload_n 2, 1) := DX8_needless_0 (59, .iload_n 2, 1) (List.mem_of_getElem? (i := 36) rfl)
theorem dX8_needless_60 : decode cX8_needless 60 = .ok (.ireturn, 1) := DX8_needless_0 (60, .ireturn, 1) (List.mem_of_getElem? (i := 37) rfl)
abbrev rmX8_needless : Room := { frames := 3, cells := 0, slots := 0, locals := 70 }
set_option maxHeartbeats 400000 in
set_option maxRecDepth 100000 in
theorem met_X8_needless (l : Launch) (D : va_G) (kA : Nat → ClassId) (a : Nat → Nat) (n : Nat) (V0 : Sz) (x1 : Int) (hDt : ∀ w : Sz, va_D (fun _ => True) (cs_X8 kA a w)) {r : Int} {Vr : Sz} (hf : f_X8_needless n V0 x1 = some (r, Vr)) : MZ l yX8_needless cX8_needless 4 (some .int) rmX8_needless D kA [.ref (a 0), vI x1] (cs_X8 kA a V0) (cs_X8 kA a Vr) (some (vI r)) := by
  refine zZI (own := RX8) rfl rfl (Nat.le_of_ble_eq_true rfl) ?_
  intro p e s m args below meth c ls Q hC hK hP hl hret
  have hl : lv_has ls 4 [(0, .ref (a 0)), (1, vI x1)] := hl
  have hS : va_S (zF (cs_X8 kA a V0)) s.heap s.heap [] := va_S.rf
  have hD := zDself (C := fun w : Sz => (cs_X8 kA a w)) hDt V0 (fun _ => rfl)
  try dsimp only at hD
  generalize hAe : zF (cs_X8 kA a V0) = A0 at hS hD hret
  unfold f_X8_needless at hf
  have L14 : ∀ (k14 : Nat) (y2 : Int) (y3 : Int) (V : Sz) (H : Heap) (locs : List Loc) (ls : Array Slot), lpF (bX8_needless_14 n x1) k14 (y2, y3, V) = some (r, Vr) → va_P D vwCl (cs_X8 kA a V) H → va_S A0 s.heap H locs → lv_has ls 4 [(0, .ref (a 0)), (1, vI x1), (2, vI y2), (3, vI y3)] → W p l e rmX8_needless s m args below meth c H locs 0 0 Q (F0 m 14 ls []) := by
    intro k14
    induction k14 with
    | zero => intro y2 y3 V H locs ls hf hP hS hl; exact lp_0 hf
    | succ k14 ih14 =>
      intro y2 y3 V H locs ls hf hP hS hl
      have hf := lp_s hf
      rw [bX8_needless_14_e] at hf
      have J51 : ∀ (y3 : Int) (V : Sz) (z0 : Int) (z1 : Int) (H : Heap) (locs : List Loc) (ls : Array Slot), jX8_needless_51 n x1 (lpF (bX8_needless_14 n x1) k14) y3 V z0 z1 = some (r, Vr) → va_P D vwCl (cs_X8 kA a V) H → va_S A0 s.heap H locs → lv_has ls 4 [(0, .ref (a 0)), (1, vI x1), (3, vI y3)] → W p l e rmX8_needless s m args below meth c H locs 0 0 Q (F0 m 51 ls [vI z0, vI z1]) := by
        intro y3 V z0 z1 H locs ls hf hP hS hl
        unfold jX8_needless_51 at hf
        refine ziadd hC.1 hC.2.1 dX8_needless_51 <| ?_
        refine ztopi (fun x_6 ex_6 => ?_)
        have hf := nm_at hf ex_6
        refine zistore_n (lv' := [(2, vI x_6), (0, .ref (a 0)), (1, vI x1), (3, vI y3)]) hC.1 hC.2.1 dX8_needless_52 rfl hl (by decide) rfl (fun ls hl => ?_)
        obtain ⟨x_7, ex_7⟩ : ∃ y : Int, y = y3 + 1 := ⟨_, rfl⟩
        have hf := nm_at hf ex_7
        refine ziinc (v := x_7) (lv' := [(3, vI x_7), (2, vI x_6), (0, .ref (a 0)), (1, vI x1)]) hC.1 hC.2.1 dX8_needless_53 hl (k := 3) rfl ex_7 (by decide) rfl (fun ls hl => ?_)
        exact lv_goto (tgt := 14) hC.1 hC.2.1 dX8_needless_56 (by decide) <| ih14 _ _ _ _ _ _ hf hP hS (lv_sub hl [2, 3, 1, 0] rfl)
      have J50 : ∀ (y3 : Int) (V : Sz) (z0 : Int) (H : Heap) (locs : List Loc) (ls : Array Slot), jX8_needless_50 n x1 (lpF (bX8_needless_14 n x1) k14) y3 V z0 = some (r, Vr) → va_P D vwCl (cs_X8 kA a V) H → va_S A0 s.heap H locs → lv_has ls 4 [(0, .ref (a 0)), (1, vI x1), (3, vI y3)] → W p l e rmX8_needless s m args below meth c H locs 0 0 Q (F0 m 50 ls [vI z0]) := by
        intro y3 V z0 H locs ls hf hP hS hl
        unfold jX8_needless_50 at hf
        exact ziconst hC.1 hC.2.1 dX8_needless_50 <| J51 _ _ _ _ _ _ _ hf hP hS (lv_sub hl [0, 1, 2] rfl)
      refine ziload_n hC.1 hC.2.1 dX8_needless_14 rfl (lv_at hl 3 rfl) <| lv_aload_n hC.1 hC.2.1 dX8_needless_15 rfl (lv_at hl 0 rfl) <| gfX8_7 hC hK hP (q0 := 0) rfl rfl dX8_needless_16 <| ziconst hC.1 hC.2.1 dX8_needless_19 <| jal hC hK hP (q0 := 1) rfl (Nat.le_of_ble_eq_true rfl) (by decide) rfl dX8_needless_20 <| ?_
      obtain ⟨hz_3, hf⟩ := ck_some hf
      refine zicmp_ge (tgt := 59) hC.1 hC.2.1 ⟨hz_3.1, hz_3.2⟩ dX8_needless_21 (by decide) (fun hc => ?_) (fun hc => ?_)
      · have hf := it_t hf hc
        refine ziload_n hC.1 hC.2.1 dX8_needless_59 rfl (lv_at hl 2 rfl) <| ?_
        have hf := Option.some.inj hf
        simp only [Prod.mk.injEq] at hf
        exact hret (Int32.ofInt y2) _ _ _ _ (congrArg (fun z => some (vI z)) hf.1.symm) (by rw [← hf.2]; exact hP) hS dX8_needless_60
      · have hf := it_f hf hc
        refine ziload_n hC.1 hC.2.1 dX8_needless_24 rfl (lv_at hl 2 rfl) <| lv_aload_n hC.1 hC.2.1 dX8_needless_25 rfl (lv_at hl 0 rfl) <| gfX8_7 hC hK hP (q0 := 0) rfl rfl dX8_needless_26 <| zbipush hC.1 hC.2.1 dX8_needless_29 (by decide) <| ziload_n hC.1 hC.2.1 dX8_needless_31 rfl (lv_at hl 3 rfl) <| ziadd hC.1 hC.2.1 dX8_needless_32 <| ?_
        obtain ⟨hz_4, hf⟩ := ck_some hf
        refine jal hC hK hP (q0 := 1) rfl (Nat.le_of_ble_eq_true rfl) hz_4 rfl dX8_needless_33 <| ziload_n hC.1 hC.2.1 dX8_needless_34 rfl (lv_at hl 1 rfl) <| ?_
        obtain ⟨hz_5, hf⟩ := ck_some hf
        refine zicmp_ne (tgt := 50) hC.1 hC.2.1 ⟨hz_5.1, hz_5.2⟩ dX8_needless_35 (by decide) (fun hc => ?_) (fun hc => ?_)
        · have hf := it_f hf hc
          exact J50 _ _ _ _ _ _ hf hP hS (lv_sub hl [0, 1, 3] rfl)
        · have hf := it_t hf hc
          refine lv_aload_n hC.1 hC.2.1 dX8_needless_38 rfl (lv_at hl 0 rfl) <| ziload_n hC.1 hC.2.1 dX8_needless_39 rfl (lv_at hl 3 rfl) <| ?_
          obtain ⟨⟨r_8, V_9⟩, hu, hf⟩ := bd_some hf
          have hDc := hDt
          refine zcVZ (As := [vI y3]) (rest := [vI y2]) hC hK (met_X8_isNeedless l D kA a n V y3 hDc hu) zwX8_297 hS (zFsub (hD V) [0, 1, 2, 3, 4, 5, 6, 7, 8, 9, 10, 11, 12, 13, 14, 15, 16] rfl) hP (q0 := 0) rfl rfl rfl rfl hl.1 rfl (Nat.le_of_ble_eq_true rfl) ⟨Nat.le_of_ble_eq_true rfl, Nat.le_of_ble_eq_true rfl⟩ ⟨rfl, rfl⟩ ⟨Nat.le_refl _, Nat.le_refl _⟩ dX8_needless_40 (fun H locs hP1 hk1 hS => ?_)
          have hP : va_P D vwCl (cs_X8 kA a V_9) H := hP1
          refine zifb_eq (tgt := 50) hC.1 hC.2.1 dX8_needless_43 (by decide) (fun hc => ?_) (fun hc => ?_)
          · have hf := it_t hf hc
            exact J50 _ _ _ _ _ _ hf hP hS (lv_sub hl [0, 1, 3] rfl)
          · have hf := it_f hf hc
            exact ziconst hC.1 hC.2.1 dX8_needless_46 <| lv_goto (tgt := 51) hC.1 hC.2.1 dX8_needless_47 (by decide) <| J51 _ _ _ _ _ _ _ hf hP hS (lv_sub hl [0, 1, 3] rfl)
  refine lv_aload_n hC.1 hC.2.1 dX8_needless_0 rfl (lv_at hl 0 rfl) <| ziload_n hC.1 hC.2.1 dX8_needless_1 rfl (lv_at hl 1 rfl) <| ?_
  obtain ⟨⟨r_1, V_2⟩, hu, hf⟩ := bd_some hf
  have hDc := hDt
  refine zcVZ (As := [vI x1]) (rest := []) hC hK (met_X8_noDonor l D kA a V0 x1 hDc hu) zwX8_287 hS (zFsub (hD V0) [0, 1, 2, 3, 4, 5, 6, 7, 8, 9, 10, 11, 12, 13, 14, 15, 16] rfl) hP (q0 := 0) rfl rfl rfl rfl hl.1 rfl (Nat.le_of_ble_eq_true rfl) ⟨Nat.le_of_ble_eq_true rfl, Nat.le_of_ble_eq_true rfl⟩ ⟨rfl, rfl⟩ ⟨Nat.le_refl _, Nat.le_refl _⟩ dX8_needless_2 (fun H locs hP1 hk1 hS => ?_)
  have hP : va_P D vwCl (cs_X8 kA a V_2) H := hP1
  refine zifb_eq (tgt := 10) hC.1 hC.2.1 dX8_needless_5 (by decide) (fun hc => ?_) (fun hc => ?_)
  · have hf := it_t hf hc
    refine ziconst hC.1 hC.2.1 dX8_needless_10 <| zistore_n (lv' := [(2, vI 0), (0, .ref (a 0)), (1, vI x1)]) hC.1 hC.2.1 dX8_needless_11 rfl hl (by decide) rfl (fun ls hl => ?_)
    refine ziconst hC.1 hC.2.1 dX8_needless_12 <| zistore_n (lv' := [(3, vI 0), (2, vI 0), (0, .ref (a 0)), (1, vI x1)]) hC.1 hC.2.1 dX8_needless_13 rfl hl (by decide) rfl (fun ls hl => ?_)
    exact L14 n _ _ _ _ _ _ hf hP hS (lv_sub hl [2, 3, 1, 0] rfl)
  · have hf := it_f hf hc
    refine ziconst hC.1 hC.2.1 dX8_needless_8 <| ?_
    have hf := Option.some.inj hf
    simp only [Prod.mk.injEq] at hf
    exact hret (Int32.ofInt 0) _ _ _ _ (congrArg (fun z => some (vI z)) hf.1.symm) (by rw [← hf.2]; exact hP) hS dX8_needless_9
theorem DX8_declare_0 : ∀ q ∈ ([(0, .aload_n 0, 1), (1, .iload_n 1, 1), (2, .invokevirtual 287, 3), (5, .ifCond .ne 36, 3), (8, .aload_n 0, 1), (9, .iload_n 2, 1), (10, .iload_n 3, 1), (11, .invokevirtual 294, 3), (14, .ifCond .ne 27, 3), (17, .aload_n 0, 1), (18, .aload_n 0, 1), (19, .getfield 7, 3), (22, .iconst 1, 1), (23, .iaload, 1), (24, .bipush 30, 2), (26, .if_icmp .ne 7, 3), (29, .iconst 1, 1), (30, .goto 4, 3), (33, .iconst 0, 1), (34, .iconst 3, 1), (35, .invokevirtual 261, 3), (38, .ifCond .eq 5, 3), (41, .iconst 0, 1), (42, .ireturn, 1), (43, .aload_n 0, 1), (44, .invokevirtual 300, 3), (47, .aload_n 0, 1), (48, .iload_n 1, 1), (49, .iload_n 2, 1), (50, .iload_n 3, 1), (51, .invokevirtual 303, 3), (54, .aload_n 0, 1), (55, .getfield 7, 3), (58, .iconst 1, 1), (59, .iaload, 1), (60, .iconst 1, 1), (61, .isub, 1), (62, .ireturn, 1)] : List (Nat × Instr × Nat)), decode cX8_declare q.1 = .ok q.2 := by decide +kernel
theorem dX8_declare_0 : decode cX8_declare 0 = .ok (.aload_n 0, 1) := DX8_declare_0 (0, .aload_n 0, 1) (List.mem_of_getElem? (i := 0) rfl)
theorem dX8_declare_1 : decode cX8_declare 1 = .ok (.iload_n 1, 1) := DX8_declare_0 (1, .iload_n 1, 1) (List.mem_of_getElem? (i := 1) rfl)
theorem dX8_declare_2 : decode cX8_declare 2 = .ok (.invokevirtual 287, 3) := DX8_declare_0 (2, .invokevirtual 287, 3) (List.mem_of_getElem? (i := 2) rfl)
theorem dX8_declare_5 : decode cX8_declare 5 = .ok (.ifCond .ne 36, 3) := DX8_declare_0 (5, .ifCond .ne 36, 3) (List.mem_of_getElem? (i := 3) rfl)
theorem dX8_declare_8 : decode cX8_declare 8 = .ok (.aload_n 0, 1) := DX8_declare_0 (8, .aload_n 0, 1) (List.mem_of_getElem? (i := 4) rfl)
theorem dX8_declare_9 : decode cX8_declare 9 = .ok (.iload_n 2, 1) := DX8_declare_0 (9, .iload_n 2, 1) (List.mem_of_getElem? (i := 5) rfl)
theorem dX8_declare_10 : decode cX8_declare 10 = .ok (.iload_n 3, 1) := DX8_declare_0 (10, .iload_n 3, 1) (List.mem_of_getElem? (i := 6) rfl)
theorem dX8_declare_11 : decode cX8_declare 11 = .ok (.invokevirtual 294, 3) := DX8_declare_0 (11, .invokevirtual 294, 3) (List.mem_of_getElem? (i := 7) rfl)
theorem dX8_declare_14 : decode cX8_declare 14 = .ok (.ifCond .ne 27, 3) := DX8_declare_0 (14, .ifCond .ne 27, 3) (List.mem_of_getElem? (i := 8) rfl)
theorem dX8_declare_17 : decode cX8_declare 17 = .ok (.aload_n 0, 1) := DX8_declare_0 (17, .aload_n 0, 1) (List.mem_of_getElem? (i := 9) rfl)
theorem dX8_declare_18 : decode cX8_declare 18 = .ok (.aload_n 0, 1) := DX8_declare_0 (18, .aload_n 0, 1) (List.mem_of_getElem? (i := 10) rfl)
theorem dX8_declare_19 : decode cX8_declare 19 = .ok (.getfield 7, 3) := DX8_declare_0 (19, .getfield 7, 3) (List.mem_of_getElem? (i := 11) rfl)
theorem dX8_declare_22 : decode cX8_declare 22 = .ok (.iconst 1, 1) := DX8_declare_0 (22, .iconst 1, 1) (List.mem_of_getElem? (i := 12) rfl)
theorem dX8_declare_23 : decode cX8_declare 23 = .ok (.iaload, 1) := DX8_declare_0 (23, .iaload, 1) (List.mem_of_getElem? (i := 13) rfl)
theorem dX8_declare_24 : decode cX8_declare 24 = .ok (.bipush 30, 2) := DX8_declare_0 (24, .bipush 30, 2) (List.mem_of_getElem? (i := 14) rfl)
theorem dX8_declare_26 : decode cX8_declare 26 = .ok (.if_icmp .ne 7, 3) := DX8_declare_0 (26, .if_icmp .ne 7, 3) (List.mem_of_getElem? (i := 15) rfl)
theorem dX8_declare_29 : decode cX8_declare 29 = .ok (.iconst 1, 1) := DX8_declare_0 (29, .iconst 1, 1) (List.mem_of_getElem? (i := 16) rfl)
theorem dX8_declare_30 : decode cX8_declare 30 = .ok (.goto 4, 3) := DX8_declare_0 (30, .goto 4, 3) (List.mem_of_getElem? (i := 17) rfl)
theorem dX8_declare_33 : decode cX8_declare 33 = .ok (.iconst 0, 1) := DX8_declare_0 (33, .iconst 0, 1) (List.mem_of_getElem? (i := 18) rfl)
theorem dX8_declare_34 : decode cX8_declare 34 = .ok (.iconst 3, 1) := DX8_declare_0 (34, .iconst 3, 1) (List.mem_of_getElem? (i := 19) rfl)
theorem dX8_declare_35 : decode cX8_declare 35 = .ok (.invokevirtual 261, 3) := DX8_declare_0 (35, .invokevirtual 261, 3) (List.mem_of_getElem? (i := 20) rfl)
theorem dX8_declare_38 : decode cX8_declare 38 = .ok (.ifCond .eq 5, 3) := DX8_declare_0 (38, .ifCond .eq 5, 3) (List.mem_of_getElem? (i := 21) rfl)
theorem dX8_declare_41 : decode cX8_declare 41 = .ok (.iconst 0, 1) := DX8_declare_0 (41, .iconst 0, 1) (List.mem_of_getElem? (i := 22) rfl)
theorem dX8_declare_42 : decode cX8_declare 42 = .ok (.ireturn, 1) := DX8_declare_0 (42, .ireturn, 1) (List.mem_of_getElem? (i := 23) rfl)
theorem dX8_declare_43 : decode cX8_declare 43 = .ok (.aload_n 0, 1) := DX8_declare_0 (43, .aload_n 0, 1) (List.mem_of_getElem? (i := 24) rfl)
theorem dX8_declare_44 : decode cX8_declare 44 = .ok (.invokevirtual 300, 3) := DX8_declare_0 (44, .invokevirtual 300, 3) (List.mem_of_getElem? (i := 25) rfl)
theorem dX8_declare_47 : decode cX8_declare 47 = .ok (.aload_n 0, 1) := DX8_declare_0 (47, .aload_n 0, 1) (List.mem_of_getElem? (i := 26) rfl)
theorem dX8_declare_48 : decode cX8_declare 48 = .ok (.iload_n 1, 1) := DX8_declare_0 (48, .iload_n 1, 1) (List.mem_of_getElem? (i := 27) rfl)
theorem dX8_declare_49 : decode cX8_declare 49 = .ok (.iload_n 2, 1) := DX8_declare_0 (49, .iload_n 2, 1) (List.mem_of_getElem? (i := 28) rfl)
theorem dX8_declare_50 : decode cX8_declare 50 = .ok (.iload_n 3, 1) := DX8_declare_0 (50, .iload_n 3, 1) (List.mem_of_getElem? (i := 29) rfl)
theorem dX8_declare_51 : decode cX8_declare 51 = .ok (.invokevirtual 303, 3) := DX8_declare_0 (51, .invokevirtual 303, 3) (List.mem_of_getElem? (i := 30) rfl)
theorem dX8_declare_54 : decode cX8_declare 54 = .ok (.aload_n 0, 1) := DX8_declare_0 (54, .aload_n 0, 1) (List.mem_of_getElem? (i := 31) rfl)
theorem dX8_declare_55 : decode cX8_declare 55 = .ok (.getfield 7, 3) := DX8_declare_0 (55, .getfield 7, 3) (List.mem_of_getElem? (i := 32) rfl)
theorem dX8_declare_58 : decode cX8_declare 58 = .ok (.iconst 1, 1) := DX8_declare_0 (58, .iconst 1, 1) (List.mem_of_getElem? (i := 33) rfl)
theorem dX8_declare_59 : decode cX8_declare 59 = .ok (.iaload, 1) := DX8_declare_0 (59, .iaload, 1) (List.mem_of_getElem? (i := 34) rfl)
theorem dX8_declare_60 : decode cX8_declare 60 = .ok (.iconst 1, 1) := DX8_declare_0 (60, .iconst 1, 1) (List.mem_of_getElem? (i := 35) rfl)
theorem dX8_declare_61 : decode cX8_declare 61 = .ok (.isub, 1) := DX8_declare_0 (61, .isub, 1) (List.mem_of_getElem? (i := 36) rfl)
theorem dX8_declare_62 : decode cX8_declare 62 = .ok (.ireturn, 1) := DX8_declare_0 (62, .ireturn, 1) (List.mem_of_getElem? (i := 37) rfl)
abbrev rmX8_declare : Room := { frames := 2, cells := 0, slots := 0, locals := 45 }
set_option maxHeartbeats 400000 in
set_option maxRecDepth 100000 in
theorem met_X8_declare (l : Launch) (D : va_G) (kA : Nat → ClassId) (a : Nat → Nat) (n : Nat) (V0 : Sz) (x1 : Int) (x2 : Int) (x3 : Int) (hDt : ∀ w : Sz, va_D (fun _ => True) (cs_X8 kA a w)) {r : Int} {Vr : Sz} (hf : f_X8_declare n V0 x1 x2 x3 = some (r, Vr)) : MZ l yX8_declare cX8_declare 4 (some .int) rmX8_declare D kA [.ref (a 0), vI x1, vI x2, vI x3] (cs_X8 kA a V0) (cs_X8 kA a Vr) (some (vI r)) := by
  refine zZI (own := RX8) rfl rfl (Nat.le_of_ble_eq_true rfl) ?_
  intro p e s m args below meth c ls Q hC hK hP hl hret
  have hl : lv_has ls 4 [(0, .ref (a 0)), (1, vI x1), (2, vI x2), (3, vI x3)] := hl
  have hS : va_S (zF (cs_X8 kA a V0)) s.heap s.heap [] := va_S.rf
  have hD := zDself (C := fun w : Sz => (cs_X8 kA a w)) hDt V0 (fun _ => rfl)
  try dsimp only at hD
  generalize hAe : zF (cs_X8 kA a V0) = A0 at hS hD hret
  unfold f_X8_declare at hf
  have J34 : ∀ (V : Sz) (z0 : Int) (H : Heap) (locs : List Loc) (ls : Array Slot), jX8_declare_34 n x1 x2 x3 V z0 = some (r, Vr) → va_P D vwCl (cs_X8 kA a V) H → va_S A0 s.heap H locs → lv_has ls 4 [(0, .ref (a 0)), (1, vI x1), (2, vI x2), (3, vI x3)] → W p l e rmX8_declare s m args below meth c H locs 0 0 Q (F0 m 34 ls [vI z0, .ref (a 0)]) := by
    intro V z0 H locs ls hf hP hS hl
    unfold jX8_declare_34 at hf
    refine ziconst hC.1 hC.2.1 dX8_declare_34 <| ?_
    obtain ⟨⟨r_6, V_7⟩, hu, hf⟩ := bd_some hf
    have hDc := hDt
    refine zcVZ (As := [vI z0, vI 3]) (rest := []) hC hK (met_X8_fails l D kA a V z0 3 hDc hu) zwX8_261 hS (zFsub (hD V) [0, 1, 2, 3, 4, 5, 6, 7, 8, 9, 10, 11, 12, 13, 14, 15, 16] rfl) hP (q0 := 0) rfl rfl rfl rfl hl.1 rfl (Nat.le_of_ble_eq_true rfl) ⟨Nat.le_of_ble_eq_true rfl, Nat.le_of_ble_eq_true rfl⟩ ⟨rfl, rfl⟩ ⟨Nat.le_refl _, Nat.le_refl _⟩ dX8_declare_35 (fun H locs hP1 hk1 hS => ?_)
    have hP : va_P D vwCl (cs_X8 kA a V_7) H := hP1
    refine zifb_eq (tgt := 43) hC.1 hC.2.1 dX8_declare_38 (by decide) (fun hc => ?_) (fun hc => ?_)
    · have hf := it_t hf hc
      refine lv_aload_n hC.1 hC.2.1 dX8_declare_43 rfl (lv_at hl 0 rfl) <| ?_
      obtain ⟨V_8, hu, hf⟩ := bd_some hf
      have hDc := hDt
      refine zcVZ (As := []) (rest := []) hC hK (met_X8_remembers l D kA a n V_7 hDc hu) zwX8_300 hS (zFsub (hD V_7) [0, 1, 2, 3, 4, 5, 6, 7, 8, 9, 10, 11, 12, 13, 14, 15, 16] rfl) hP (q0 := 0) rfl rfl rfl rfl hl.1 rfl (Nat.le_of_ble_eq_true rfl) ⟨Nat.le_of_ble_eq_true rfl, Nat.le_of_ble_eq_true rfl⟩ ⟨rfl, rfl⟩ ⟨Nat.le_refl _, Nat.le_refl _⟩ dX8_declare_44 (fun H locs hP1 hk1 hS => ?_)
      have hP : va_P D vwCl (cs_X8 kA a V_8) H := hP1
      refine lv_aload_n hC.1 hC.2.1 dX8_declare_47 rfl (lv_at hl 0 rfl) <| ziload_n hC.1 hC.2.1 dX8_declare_48 rfl (lv_at hl 1 rfl) <| ziload_n hC.1 hC.2.1 dX8_declare_49 rfl (lv_at hl 2 rfl) <| ziload_n hC.1 hC.2.1 dX8_declare_50 rfl (lv_at hl 3 rfl) <| ?_
      obtain ⟨V_9, hu, hf⟩ := bd_some hf
      have hDc := hDt
      refine zcVZ (As := [vI x1, vI x2, vI x3]) (rest := []) hC hK (met_X8_declares l D kA a V_8 x1 x2 x3 hDc hu) zwX8_303 hS (zFsub (hD V_8) [0, 1, 2, 3, 4, 5, 6, 7, 8, 9, 10, 11, 12, 13, 14, 15, 16] rfl) hP (q0 := 0) rfl rfl rfl rfl hl.1 rfl (Nat.le_of_ble_eq_true rfl) ⟨Nat.le_of_ble_eq_true rfl, Nat.le_of_ble_eq_true rfl⟩ ⟨rfl, rfl⟩ ⟨Nat.le_refl _, Nat.le_refl _⟩ dX8_declare_51 (fun H locs hP1 hk1 hS => ?_)
      have hP : va_P D vwCl (cs_X8 kA a V_9) H := hP1
      refine lv_aload_n hC.1 hC.2.1 dX8_declare_54 rfl (lv_at hl 0 rfl) <| gfX8_7 hC hK hP (q0 := 0) rfl rfl dX8_declare_55 <| ziconst hC.1 hC.2.1 dX8_declare_58 <| jal hC hK hP (q0 := 1) rfl (Nat.le_of_ble_eq_true rfl) (by decide) rfl dX8_declare_59 <| ziconst hC.1 hC.2.1 dX8_declare_60 <| zisub hC.1 hC.2.1 dX8_declare_61 <| ?_
      have hf := Option.some.inj hf
      simp only [Prod.mk.injEq] at hf
      exact hret (Int32.ofInt ((V_9 0 1) - 1)) _ _ _ _ (congrArg (fun z => some (vI z)) hf.1.symm) (by rw [← hf.2]; exact hP) hS dX8_declare_62
    · have hf := it_f hf hc
      refine ziconst hC.1 hC.2.1 dX8_declare_41 <| ?_
      have hf := Option.some.inj hf
      simp only [Prod.mk.injEq] at hf
      exact hret (Int32.ofInt 0) _ _ _ _ (congrArg (fun z => some (vI z)) hf.1.symm) (by rw [← hf.2]; exact hP) hS dX8_declare_42
  refine lv_aload_n hC.1 hC.2.1 dX8_declare_0 rfl (lv_at hl 0 rfl) <| ziload_n hC.1 hC.2.1 dX8_declare_1 rfl (lv_at hl 1 rfl) <| ?_
  obtain ⟨⟨r_1, V_2⟩, hu, hf⟩ := bd_some hf
  have hDc := hDt
  refine zcVZ (As := [vI x1]) (rest := []) hC hK (met_X8_noDonor l D kA a V0 x1 hDc hu) zwX8_287 hS (zFsub (hD V0) [0, 1, 2, 3, 4, 5, 6, 7, 8, 9, 10, 11, 12, 13, 14, 15, 16] rfl) hP (q0 := 0) rfl rfl rfl rfl hl.1 rfl (Nat.le_of_ble_eq_true rfl) ⟨Nat.le_of_ble_eq_true rfl, Nat.le_of_ble_eq_true rfl⟩ ⟨rfl, rfl⟩ ⟨Nat.le_refl _, Nat.le_refl _⟩ dX8_declare_2 (fun H locs hP1 hk1 hS => ?_)
  have hP : va_P D vwCl (cs_X8 kA a V_2) H := hP1
  refine zifb_ne (tgt := 41) hC.1 hC.2.1 dX8_declare_5 (by decide) (fun hc => ?_) (fun hc => ?_)
  · have hf := it_t hf hc
    refine ziconst hC.1 hC.2.1 dX8_declare_41 <| ?_
    have hf := Option.some.inj hf
    simp only [Prod.mk.injEq] at hf
    exact hret (Int32.ofInt 0) _ _ _ _ (congrArg (fun z => some (vI z)) hf.1.symm) (by rw [← hf.2]; exact hP) hS dX8_declare_42
  · have hf := it_f hf hc
    refine lv_aload_n hC.1 hC.2.1 dX8_declare_8 rfl (lv_at hl 0 rfl) <| ziload_n hC.1 hC.2.1 dX8_declare_9 rfl (lv_at hl 2 rfl) <| ziload_n hC.1 hC.2.1 dX8_declare_10 rfl (lv_at hl 3 rfl) <| ?_
    obtain ⟨⟨r_3, V_4⟩, hu, hf⟩ := bd_some hf
    have hDc := hDt
    refine zcVZ (As := [vI x2, vI x3]) (rest := []) hC hK (met_X8_noSpan l D kA a V_2 x2 x3 hDc hu) zwX8_294 hS (zFsub (hD V_2) [0, 1, 2, 3, 4, 5, 6, 7, 8, 9, 10, 11, 12, 13, 14, 15, 16] rfl) hP (q0 := 0) rfl rfl rfl rfl hl.1 rfl (Nat.le_of_ble_eq_true rfl) ⟨Nat.le_of_ble_eq_true rfl, Nat.le_of_ble_eq_true rfl⟩ ⟨rfl, rfl⟩ ⟨Nat.le_refl _, Nat.le_refl _⟩ dX8_declare_11 (fun H locs hP1 hk1 hS => ?_)
    have hP : va_P D vwCl (cs_X8 kA a V_4) H := hP1
    refine zifb_ne (tgt := 41) hC.1 hC.2.1 dX8_declare_14 (by decide) (fun hc => ?_) (fun hc => ?_)
    · have hf := it_t hf hc
      refine ziconst hC.1 hC.2.1 dX8_declare_41 <| ?_
      have hf := Option.some.inj hf
      simp only [Prod.mk.injEq] at hf
      exact hret (Int32.ofInt 0) _ _ _ _ (congrArg (fun z => some (vI z)) hf.1.symm) (by rw [← hf.2]; exact hP) hS dX8_declare_42
    · have hf := it_f hf hc
      refine lv_aload_n hC.1 hC.2.1 dX8_declare_17 rfl (lv_at hl 0 rfl) <| lv_aload_n hC.1 hC.2.1 dX8_declare_18 rfl (lv_at hl 0 rfl) <| gfX8_7 hC hK hP (q0 := 0) rfl rfl dX8_declare_19 <| ziconst hC.1 hC.2.1 dX8_declare_22 <| jal hC hK hP (q0 := 1) rfl (Nat.le_of_ble_eq_true rfl) (by decide) rfl dX8_declare_23 <| zbipush hC.1 hC.2.1 dX8_declare_24 (by decide) <| ?_
      obtain ⟨hz_5, hf⟩ := ck_some hf
      refine zicmp_ne (tgt := 33) hC.1 hC.2.1 ⟨hz_5, (by decide)⟩ dX8_declare_26 (by decide) (fun hc => ?_) (fun hc => ?_)
      · have hf := it_f hf hc
        exact ziconst hC.1 hC.2.1 dX8_declare_33 <| J34 _ _ _ _ _ hf hP hS (lv_sub hl [0, 1, 2, 3] rfl)
      · have hf := it_t hf hc
        exact ziconst hC.1 hC.2.1 dX8_declare_29 <| lv_goto (tgt := 34) hC.1 hC.2.1 dX8_declare_30 (by decide) <| J34 _ _ _ _ _ hf hP hS (lv_sub hl [0, 1, 2, 3] rfl)
theorem DX8_revoke_0 : ∀ q ∈ ([(0, .aload_n 0, 1), (1, .iload_n 1, 1), (2, .invokevirtual 272, 3), (5, .ifCond .ne 27, 3), (8, .aload_n 0, 1), (9, .iload_n 2, 1), (10, .iconst 0, 1), (11, .sipush 9999, 3), (14, .invokestatic 79, 3), (17, .ifCond .ne 7, 3), (20, .iconst 1, 1), (21, .goto 4, 3), (24, .iconst 0, 1), (25, .iconst 2, 1), (26, .invokevirtual 261, 3), (29, .ifCond .eq 5, 3), (32, .iconst 0, 1), (33, .ireturn, 1), (34, .aload_n 0, 1), (35, .invokevirtual 300, 3), (38, .aload_n 0, 1), (39, .iload_n 1, 1), (40, .invokevirtual 275, 3), (43, .istore_n 3, 1), (44, .aload_n 0, 1), (45, .getfield 7, 3), (48, .bipush 82, 2), (50, .iload_n 1, 1), (51, .iadd, 1), (52, .aload_n 0, 1), (53, .getfield 7, 3), (56, .bipush 82, 2), (58, .iload_n 1, 1), (59, .iadd, 1), (60, .iaload, 1), (61, .iload_n 2, 1), (62, .iconst 1, 1), (63, .isub, 1), (64, .invokestatic 113, 3), (67, .iastore, 1)] : List (Nat × Instr × Nat)), decode cX8_revoke q.1 = .ok q.2 := by decide +kernel
theorem dX8_revoke_0 : decode cX8_revoke 0 = .ok (.aload_n 0, 1) := DX8_revoke_0 (0, .aload_n 0, 1) (List.mem_of_getElem? (i := 0) rfl)
theorem dX8_revoke_1 : decode cX8_revoke 1 = .ok (.iload_n 1, 1) := DX8_revoke_0 (1, .iload_n 1, 1) (List.mem_of_getElem? (i := 1) rfl)
theorem dX8_revoke_2 : decode cX8_revoke 2 = .ok (.invokevirtual 272, 3) := DX8_revoke_0 (2, .invokevirtual 272, 3) (List.mem_of_getElem? (i := 2) rfl)
theorem dX8_revoke_5 : decode cX8_revoke 5 = .ok (.ifCond .ne 27, 3) := DX8_revoke_0 (5, .ifCond .ne 27, 3) (List.mem_of_getElem? (i := 3) rfl)
theorem dX8_revoke_8 : decode cX8_revoke 8 = .ok (.aload_n 0, 1) := DX8_revoke_0 (8, .aload_n 0, 1) (List.mem_of_getElem? (i := 4) rfl)
theorem dX8_revoke_9 : decode cX8_revoke 9 = .ok (.iload_n 2, 1) := DX8_revoke_0 (9, .iload_n 2, 1) (List.mem_of_getElem? (i := 5) rfl)
theorem dX8_revoke_10 : decode cX8_revoke 10 = .ok (.iconst 0, 1) := DX8_revoke_0 (10, .iconst 0, 1) (List.mem_of_getElem? (i := 6) rfl)
theorem dX8_revoke_11 : decode cX8_revoke 11 = .ok (.sipush 9999, 3) := DX8_revoke_0 (11, .sipush 9999, 3) (List.mem_of_getElem? (i := 7) rfl)
theorem dX8_revoke_14 : decode cX8_revoke 14 = .ok (.invokestatic 79, 3) := DX8_revoke_0 (14, .invokestatic 79, 3) (List.mem_of_getElem? (i := 8) rfl)
theorem dX8_revoke_17 : decode cX8_revoke 17 = .ok (.ifCond .ne 7, 3) := DX8_revoke_0 (17, .ifCond .ne 7, 3) (List.mem_of_getElem? (i := 9) rfl)
theorem dX8_revoke_20 : decode cX8_revoke 20 = .ok (.iconst 1, 1) := DX8_revoke_0 (20, .iconst 1, 1) (List.mem_of_getElem? (i := 10) rfl)
theorem dX8_revoke_21 : decode cX8_revoke 21 = .ok (.goto 4, 3) := DX8_revoke_0 (21, .goto 4, 3) (List.mem_of_getElem? (i := 11) rfl)
theorem dX8_revoke_24 : decode cX8_revoke 24 = .ok (.iconst 0, 1) := DX8_revoke_0 (24, .iconst 0, 1) (List.mem_of_getElem? (i := 12) rfl)
theorem dX8_revoke_25 : decode cX8_revoke 25 = .ok (.iconst 2, 1) := DX8_revoke_0 (25, .iconst 2, 1) (List.mem_of_getElem? (i := 13) rfl)
theorem dX8_revoke_26 : decode cX8_revoke 26 = .ok (.invokevirtual 261, 3) := DX8_revoke_0 (26, .invokevirtual 261, 3) (List.mem_of_getElem? (i := 14) rfl)
theorem dX8_revoke_29 : decode cX8_revoke 29 = .ok (.ifCond .eq 5, 3) := DX8_revoke_0 (29, .ifCond .eq 5, 3) (List.mem_of_getElem? (i := 15) rfl)
theorem dX8_revoke_32 : decode cX8_revoke 32 = .ok (.iconst 0, 1) := DX8_revoke_0 (32, .iconst 0, 1) (List.mem_of_getElem? (i := 16) rfl)
theorem dX8_revoke_33 : decode cX8_revoke 33 = .ok (.ireturn, 1) := DX8_revoke_0 (33, .ireturn, 1) (List.mem_of_getElem? (i := 17) rfl)
theorem dX8_revoke_34 : decode cX8_revoke 34 = .ok (.aload_n 0, 1) := DX8_revoke_0 (34, .aload_n 0, 1) (List.mem_of_getElem? (i := 18) rfl)
theorem dX8_revoke_35 : decode cX8_revoke 35 = .ok (.invokevirtual 300, 3) := DX8_revoke_0 (35, .invokevirtual 300, 3) (List.mem_of_getElem? (i := 19) rfl)
theorem dX8_revoke_38 : decode cX8_revoke 38 = .ok (.aload_n 0, 1) := DX8_revoke_0 (38, .aload_n 0, 1) (List.mem_of_getElem? (i := 20) rfl)
theorem dX8_revoke_39 : decode cX8_revoke 39 = .ok (.iload_n 1, 1) := DX8_revoke_0 (39, .iload_n 1, 1) (List.mem_of_getElem? (i := 21) rfl)
theorem dX8_revoke_40 : decode cX8_revoke 40 = .ok (.invokevirtual 275, 3) := DX8_revoke_0 (40, .invokevirtual 275, 3) (List.mem_of_getElem? (i := 22) rfl)
theorem dX8_revoke_43 : decode cX8_revoke 43 = .ok (.istore_n 3, 1) := DX8_revoke_0 (43, .istore_n 3, 1) (List.mem_of_getElem? (i := 23) rfl)
theorem dX8_revoke_44 : decode cX8_revoke 44 = .ok (.aload_n 0, 1) := DX8_revoke_0 (44, .aload_n 0, 1) (List.mem_of_getElem? (i := 24) rfl)
theorem dX8_revoke_45 : decode cX8_revoke 45 = .ok (.getfield 7, 3) := DX8_revoke_0 (45, .getfield 7, 3) (List.mem_of_getElem? (i := 25) rfl)
theorem dX8_revoke_48 : decode cX8_revoke 48 = .ok (.bipush 82, 2) := DX8_revoke_0 (48, .bipush 82, 2) (List.mem_of_getElem? (i := 26) rfl)
theorem dX8_revoke_50 : decode cX8_revoke 50 = .ok (.iload_n 1, 1) := DX8_revoke_0 (50, .iload_n 1, 1) (List.mem_of_getElem? (i := 27) rfl)
theorem dX8_revoke_51 : decode cX8_revoke 51 = .ok (.iadd, 1) := DX8_revoke_0 (51, .iadd, 1) (List.mem_of_getElem? (i := 28) rfl)
theorem dX8_revoke_52 : decode cX8_revoke 52 = .ok (.aload_n 0, 1) := DX8_revoke_0 (52, .aload_n 0, 1) (List.mem_of_getElem? (i := 29) rfl)
theorem dX8_revoke_53 : decode cX8_revoke 53 = .ok (.getfield 7, 3) := DX8_revoke_0 (53, .getfield 7, 3) (List.mem_of_getElem? (i := 30) rfl)
theorem dX8_revoke_56 : decode cX8_revoke 56 = .ok (.bipush 82, 2) := DX8_revoke_0 (56, .bipush 82, 2) (List.mem_of_getElem? (i := 31) rfl)
theorem dX8_revoke_58 : decode cX8_revoke 58 = .ok (.iload_n 1, 1) := DX8_revoke_0 (58, .iload_n 1, 1) (List.mem_of_getElem? (i := 32) rfl)
theorem dX8_revoke_59 : decode cX8_revoke 59 = .ok (.iadd, 1) := DX8_revoke_0 (59, .iadd, 1) (List.mem_of_getElem? (i := 33) rfl)
theorem dX8_revoke_60 : decode cX8_revoke 60 = .ok (.iaload, 1) := DX8_revoke_0 (60, .iaload, 1) (List.mem_of_getElem? (i := 34) rfl)
theorem dX8_revoke_61 : decode cX8_revoke 61 = .ok (.iload_n 2, 1) := DX8_revoke_0 (61, .iload_n 2, 1) (List.mem_of_getElem? (i := 35) rfl)
theorem dX8_revoke_62 : decode cX8_revoke 62 = .ok (.iconst 1, 1) := DX8_revoke_0 (62, .iconst 1, 1) (List.mem_of_getElem? (i := 36) rfl)
theorem dX8_revoke_63 : decode cX8_revoke 63 = .ok (.isub, 1) := DX8_revoke_0 (63, .isub, 1) (List.mem_of_getElem? (i := 37) rfl)
theorem dX8_revoke_64 : decode cX8_revoke 64 = .ok (.invokestatic 113, 3) := DX8_revoke_0 (64, .invokestatic 113, 3) (List.mem_of_getElem? (i := 38) rfl)
theorem dX8_revoke_67 : decode cX8_revoke 67 = .ok (.iastore, 1) := DX8_revoke_0 (67, .iastore, 1) (List.mem_of_getElem? (i := 39) rfl)
theorem DX8_revoke_1 : ∀ q ∈ ([(68, .iload_n 3, 1), (69, .aload_n 0, 1), (70, .iload_n 1, 1), (71, .invokevirtual 275, 3), (74, .isub, 1), (75, .ireturn, 1)] : List (Nat × Instr × Nat)), decode cX8_revoke q.1 = .ok q.2 := by decide +kernel
theorem dX8_revoke_68 : decode cX8_revoke 68 = .ok (.iload_n 3, 1) := DX8_revoke_1 (68, .iload_n 3, 1) (List.mem_of_getElem? (i := 0) rfl)
theorem dX8_revoke_69 : decode cX8_revoke 69 = .ok (.aload_n 0, 1) := DX8_revoke_1 (69, .aload_n 0, 1) (List.mem_of_getElem? (i := 1) rfl)
theorem dX8_revoke_70 : decode cX8_revoke 70 = .ok (.iload_n 1, 1) := DX8_revoke_1 (70, .iload_n 1, 1) (List.mem_of_getElem? (i := 2) rfl)
theorem dX8_revoke_71 : decode cX8_revoke 71 = .ok (.invokevirtual 275, 3) := DX8_revoke_1 (71, .invokevirtual 275, 3) (List.mem_of_getElem? (i := 3) rfl)
theorem dX8_revoke_74 : decode cX8_revoke 74 = .ok (.isub, 1) := DX8_revoke_1 (74, .isub, 1) (List.mem_of_getElem? (i := 4) rfl)
theorem dX8_revoke_75 : decode cX8_revoke 75 = .ok (.ireturn, 1) := DX8_revoke_1 (75, .ireturn, 1) (List.mem_of_getElem? (i := 5) rfl)
abbrev rmX8_revoke : Room := { frames := 2, cells := 0, slots := 0, locals := 81 }
set_option maxHeartbeats 400000 in
set_option maxRecDepth 100000 in
theorem met_X8_revoke (l : Launch) (D : va_G) (kA : Nat → ClassId) (a : Nat → Nat) (n : Nat) (V0 : Sz) (x1 : Int) (x2 : Int) (hDt : ∀ w : Sz, va_D (fun _ => True) (cs_X8 kA a w)) {r : Int} {Vr : Sz} (hf : f_X8_revoke n V0 x1 x2 = some (r, Vr)) : MZ l yX8_revoke cX8_revoke 4 (some .int) rmX8_revoke D kA [.ref (a 0), vI x1, vI x2] (cs_X8 kA a V0) (cs_X8 kA a Vr) (some (vI r)) := by
  refine zZI (own := RX8) rfl rfl (Nat.le_of_ble_eq_true rfl) ?_
  intro p e s m args below meth c ls Q hC hK hP hl hret
  have hl : lv_has ls 4 [(0, .ref (a 0)), (1, vI x1), (2, vI x2)] := hl
  have hS : va_S (zF (cs_X8 kA a V0)) s.heap s.heap [] := va_S.rf
  have hD := zDself (C := fun w : Sz => (cs_X8 kA a w)) hDt V0 (fun _ => rfl)
  try dsimp only at hD
  generalize hAe : zF (cs_X8 kA a V0) = A0 at hS hD hret
  unfold f_X8_revoke at hf
  have J25 : ∀ (V : Sz) (z0 : Int) (H : Heap) (locs : List Loc) (ls : Array Slot), jX8_revoke_25 n x1 x2 V z0 = some (r, Vr) → va_P D vwCl (cs_X8 kA a V) H → va_S A0 s.heap H locs → lv_has ls 4 [(0, .ref (a 0)), (1, vI x1), (2, vI x2)] → W p l e rmX8_revoke s m args below meth c H locs 0 0 Q (F0 m 25 ls [vI z0, .ref (a 0)]) := by
    intro V z0 H locs ls hf hP hS hl
    unfold jX8_revoke_25 at hf
    refine ziconst hC.1 hC.2.1 dX8_revoke_25 <| ?_
    obtain ⟨⟨r_4, V_5⟩, hu, hf⟩ := bd_some hf
    have hDc := hDt
    refine zcVZ (As := [vI z0, vI 2]) (rest := []) hC hK (met_X8_fails l D kA a V z0 2 hDc hu) zwX8_261 hS (zFsub (hD V) [0, 1, 2, 3, 4, 5, 6, 7, 8, 9, 10, 11, 12, 13, 14, 15, 16] rfl) hP (q0 := 0) rfl rfl rfl rfl hl.1 rfl (Nat.le_of_ble_eq_true rfl) ⟨Nat.le_of_ble_eq_true rfl, Nat.le_of_ble_eq_true rfl⟩ ⟨rfl, rfl⟩ ⟨Nat.le_refl _, Nat.le_refl _⟩ dX8_revoke_26 (fun H locs hP1 hk1 hS => ?_)
    have hP : va_P D vwCl (cs_X8 kA a V_5) H := hP1
    refine zifb_eq (tgt := 34) hC.1 hC.2.1 dX8_revoke_29 (by decide) (fun hc => ?_) (fun hc => ?_)
    · have hf := it_t hf hc
      refine lv_aload_n hC.1 hC.2.1 dX8_revoke_34 rfl (lv_at hl 0 rfl) <| ?_
      obtain ⟨V_6, hu, hf⟩ := bd_some hf
      have hDc := hDt
      refine zcVZ (As := []) (rest := []) hC hK (met_X8_remembers l D kA a n V_5 hDc hu) zwX8_300 hS (zFsub (hD V_5) [0, 1, 2, 3, 4, 5, 6, 7, 8, 9, 10, 11, 12, 13, 14, 15, 16] rfl) hP (q0 := 0) rfl rfl rfl rfl hl.1 rfl (Nat.le_of_ble_eq_true rfl) ⟨Nat.le_of_ble_eq_true rfl, Nat.le_of_ble_eq_true rfl⟩ ⟨rfl, rfl⟩ ⟨Nat.le_refl _, Nat.le_refl _⟩ dX8_revoke_35 (fun H locs hP1 hk1 hS => ?_)
      have hP : va_P D vwCl (cs_X8 kA a V_6) H := hP1
      refine lv_aload_n hC.1 hC.2.1 dX8_revoke_38 rfl (lv_at hl 0 rfl) <| ziload_n hC.1 hC.2.1 dX8_revoke_39 rfl (lv_at hl 1 rfl) <| ?_
      obtain ⟨r_7, hu, hf⟩ := bd_some hf
      refine zcVP (As := [vI x1]) (rest := []) hC hK (met_X8_daysOf l D kA a V_6 x1 hu) zwX8_275 hP (q0 := 0) rfl rfl rfl rfl hl.1 rfl (Nat.le_of_ble_eq_true rfl) ⟨Nat.le_of_ble_eq_true rfl, Nat.le_of_ble_eq_true rfl⟩ ⟨rfl, rfl⟩ ⟨Nat.le_refl _, Nat.le_refl _⟩ dX8_revoke_40 <| zistore_n (lv' := [(3, vI r_7), (0, .ref (a 0)), (1, vI x1), (2, vI x2)]) hC.1 hC.2.1 dX8_revoke_43 rfl hl (by decide) rfl (fun ls hl => ?_)
      refine lv_aload_n hC.1 hC.2.1 dX8_revoke_44 rfl (lv_at hl 1 rfl) <| gfX8_7 hC hK hP (q0 := 0) rfl rfl dX8_revoke_45 <| zbipush hC.1 hC.2.1 dX8_revoke_48 (by decide) <| ziload_n hC.1 hC.2.1 dX8_revoke_50 rfl (lv_at hl 2 rfl) <| ziadd hC.1 hC.2.1 dX8_revoke_51 <| lv_aload_n hC.1 hC.2.1 dX8_revoke_52 rfl (lv_at hl 1 rfl) <| gfX8_7 hC hK hP (q0 := 0) rfl rfl dX8_revoke_53 <| zbipush hC.1 hC.2.1 dX8_revoke_56 (by decide) <| ziload_n hC.1 hC.2.1 dX8_revoke_58 rfl (lv_at hl 2 rfl) <| ziadd hC.1 hC.2.1 dX8_revoke_59 <| ?_
      obtain ⟨hz_8, hf⟩ := ck_some hf
      refine jal hC hK hP (q0 := 1) rfl (Nat.le_of_ble_eq_true rfl) hz_8 rfl dX8_revoke_60 <| ziload_n hC.1 hC.2.1 dX8_revoke_61 rfl (lv_at hl 3 rfl) <| ziconst hC.1 hC.2.1 dX8_revoke_62 <| zisub hC.1 hC.2.1 dX8_revoke_63 <| ?_
      obtain ⟨hz_9, hf⟩ := ck_some hf
      refine jmin ⟨hz_9.1, hz_9.2⟩ hC qw_1562 hl.1 (Nat.le_of_ble_eq_true rfl) ⟨Nat.le_of_ble_eq_true rfl, Nat.le_of_ble_eq_true rfl⟩ ⟨Nat.le_refl _, Nat.le_refl _⟩ dX8_revoke_64 <| ?_
      refine jas hC hK hP (hD V_6) hS (q0 := 1) rfl (Nat.le_of_ble_eq_true rfl) hz_8 rfl dX8_revoke_67 (fun H locs hP hS => ?_)
      obtain ⟨V_10, eV_10⟩ : ∃ y, y = uz V_6 0 (82 + x1).toNat (min (V_6 0 (82 + x1).toNat) (x2 - 1)) := ⟨_, rfl⟩
      have hf := nm_at hf eV_10
      have hP : va_P D vwCl (cs_X8 kA a V_10) H := by rw [eV_10]; exact hP
      refine ziload_n hC.1 hC.2.1 dX8_revoke_68 rfl (lv_at hl 0 rfl) <| lv_aload_n hC.1 hC.2.1 dX8_revoke_69 rfl (lv_at hl 1 rfl) <| ziload_n hC.1 hC.2.1 dX8_revoke_70 rfl (lv_at hl 2 rfl) <| ?_
      obtain ⟨r_11, hu, hf⟩ := bd_some hf
      refine zcVP (As := [vI x1]) (rest := [vI r_7]) hC hK (met_X8_daysOf l D kA a V_10 x1 hu) zwX8_275 hP (q0 := 0) rfl rfl rfl rfl hl.1 rfl (Nat.le_of_ble_eq_true rfl) ⟨Nat.le_of_ble_eq_true rfl, Nat.le_of_ble_eq_true rfl⟩ ⟨rfl, rfl⟩ ⟨Nat.le_refl _, Nat.le_refl _⟩ dX8_revoke_71 <| zisub hC.1 hC.2.1 dX8_revoke_74 <| ?_
      have hf := Option.some.inj hf
      simp only [Prod.mk.injEq] at hf
      exact hret (Int32.ofInt (r_7 - r_11)) _ _ _ _ (congrArg (fun z => some (vI z)) hf.1.symm) (by rw [← hf.2]; exact hP) hS dX8_revoke_75
    · have hf := it_f hf hc
      refine ziconst hC.1 hC.2.1 dX8_revoke_32 <| ?_
      have hf := Option.some.inj hf
      simp only [Prod.mk.injEq] at hf
      exact hret (Int32.ofInt 0) _ _ _ _ (congrArg (fun z => some (vI z)) hf.1.symm) (by rw [← hf.2]; exact hP) hS dX8_revoke_33
  refine lv_aload_n hC.1 hC.2.1 dX8_revoke_0 rfl (lv_at hl 0 rfl) <| ziload_n hC.1 hC.2.1 dX8_revoke_1 rfl (lv_at hl 1 rfl) <| ?_
  obtain ⟨⟨r_1, V_2⟩, hu, hf⟩ := bd_some hf
  have hDc := hDt
  refine zcVZ (As := [vI x1]) (rest := []) hC hK (met_X8_noDeclaration l D kA a V0 x1 hDc hu) zwX8_272 hS (zFsub (hD V0) [0, 1, 2, 3, 4, 5, 6, 7, 8, 9, 10, 11, 12, 13, 14, 15, 16] rfl) hP (q0 := 0) rfl rfl rfl rfl hl.1 rfl (Nat.le_of_ble_eq_true rfl) ⟨Nat.le_of_ble_eq_true rfl, Nat.le_of_ble_eq_true rfl⟩ ⟨rfl, rfl⟩ ⟨Nat.le_refl _, Nat.le_refl _⟩ dX8_revoke_2 (fun H locs hP1 hk1 hS => ?_)
  have hP : va_P D vwCl (cs_X8 kA a V_2) H := hP1
  refine zifb_ne (tgt := 32) hC.1 hC.2.1 dX8_revoke_5 (by decide) (fun hc => ?_) (fun hc => ?_)
  · have hf := it_t hf hc
    refine ziconst hC.1 hC.2.1 dX8_revoke_32 <| ?_
    have hf := Option.some.inj hf
    simp only [Prod.mk.injEq] at hf
    exact hret (Int32.ofInt 0) _ _ _ _ (congrArg (fun z => some (vI z)) hf.1.symm) (by rw [← hf.2]; exact hP) hS dX8_revoke_33
  · have hf := it_f hf hc
    refine lv_aload_n hC.1 hC.2.1 dX8_revoke_8 rfl (lv_at hl 0 rfl) <| ziload_n hC.1 hC.2.1 dX8_revoke_9 rfl (lv_at hl 2 rfl) <| ziconst hC.1 hC.2.1 dX8_revoke_10 <| zsipush hC.1 hC.2.1 dX8_revoke_11 (by decide) <| ?_
    obtain ⟨r_3, hu, hf⟩ := bd_some hf
    have hPc : va_P D vwCl ([] : va_W) _ := hP.sub [] rfl
    refine zcSP (As := [vI x2, vI 0, vI 9999]) (rest := [.ref (a 0)]) hC hK (met_X8_inRange l D kA x2 0 9999 hu) zwX8_79 hPc rfl hl.1 rfl (Nat.le_of_ble_eq_true rfl) ⟨Nat.le_of_ble_eq_true rfl, Nat.le_of_ble_eq_true rfl⟩ ⟨rfl, rfl⟩ ⟨Nat.le_refl _, Nat.le_refl _⟩ dX8_revoke_14 <| zifb_ne (tgt := 24) hC.1 hC.2.1 dX8_revoke_17 (by decide) (fun hc => ?_) (fun hc => ?_)
    · have hf := it_t hf hc
      exact ziconst hC.1 hC.2.1 dX8_revoke_24 <| J25 _ _ _ _ _ hf hP hS (lv_sub hl [0, 1, 2] rfl)
    · have hf := it_f hf hc
      exact ziconst hC.1 hC.2.1 dX8_revoke_20 <| lv_goto (tgt := 25) hC.1 hC.2.1 dX8_revoke_21 (by decide) <| J25 _ _ _ _ _ hf hP hS (lv_sub hl [0, 1, 2] rfl)
theorem DX8_addGift_0 : ∀ q ∈ ([(0, .aload_n 0, 1), (1, .iconst 0, 1), (2, .putfield 65, 3), (5, .aload_n 0, 1), (6, .iload_n 1, 1), (7, .iconst (-1), 1), (8, .aload_n 0, 1), (9, .getfield 7, 3), (12, .iconst 0, 1), (13, .iaload, 1), (14, .iconst 1, 1), (15, .isub, 1), (16, .invokestatic 79, 3), (19, .ifCond .ne 7, 3), (22, .iconst 1, 1), (23, .goto 4, 3), (26, .iconst 0, 1), (27, .iconst 1, 1), (28, .invokevirtual 261, 3), (31, .ifCond .eq 5, 3), (34, .iconst 0, 1), (35, .ireturn, 1), (36, .aload_n 0, 1), (37, .iload_n 2, 1), (38, .iconst 0, 1), (39, .sipush 9999, 3), (42, .invokestatic 79, 3), (45, .ifCond .eq 24, 3), (48, .iload_n 3, 1), (49, .iconst 1, 1), (50, .ldc 207, 2), (52, .invokestatic 79, 3), (55, .ifCond .eq 14, 3), (58, .iload 4, 2), (60, .iconst 0, 1), (61, .ldc 207, 2), (63, .invokestatic 79, 3), (66, .ifCond .ne 7, 3), (69, .iconst 1, 1), (70, .goto 4, 3)] : List (Nat × Instr × Nat)), decode cX8_addGift q.1 = .ok q.2 := by decide +kernel
theorem dX8_addGift_0 : decode cX8_addGift 0 = .ok (.aload_n 0, 1) := DX8_addGift_0 (0, .aload_n 0, 1) (List.mem_of_getElem? (i := 0) rfl)
theorem dX8_addGift_1 : decode cX8_addGift 1 = .ok (.iconst 0, 1) := DX8_addGift_0 (1, .iconst 0, 1) (List.mem_of_getElem? (i := 1) rfl)
theorem dX8_addGift_2 : decode cX8_addGift 2 = .ok (.putfield 65, 3) := DX8_addGift_0 (2, .putfield 65, 3) (List.mem_of_getElem? (i := 2) rfl)
theorem dX8_addGift_5 : decode cX8_addGift 5 = .ok (.aload_n 0, 1) := DX8_addGift_0 (5, .aload_n 0, 1) (List.mem_of_getElem? (i := 3) rfl)
theorem dX8_addGift_6 : decode cX8_addGift 6 = .ok (.iload_n 1, 1) := DX8_addGift_0 (6, .iload_n 1, 1) (List.mem_of_getElem? (i := 4) rfl)
theorem dX8_addGift_7 : decode cX8_addGift 7 = .ok (.iconst (-1), 1) := DX8_addGift_0 (7, .iconst (-1), 1) (List.mem_of_getElem? (i := 5) rfl)
theorem dX8_addGift_8 : decode cX8_addGift 8 = .ok (.aload_n 0, 1) := DX8_addGift_0 (8, .aload_n 0, 1) (List.mem_of_getElem? (i := 6) rfl)
theorem dX8_addGift_9 : decode cX8_addGift 9 = .ok (.getfield 7, 3) := DX8_addGift_0 (9, .getfield 7, 3) (List.mem_of_getElem? (i := 7) rfl)
theorem dX8_addGift_12 : decode cX8_addGift 12 = .ok (.iconst 0, 1) := DX8_addGift_0 (12, .iconst 0, 1) (List.mem_of_getElem? (i := 8) rfl)
theorem dX8_addGift_13 : decode cX8_addGift 13 = .ok (.iaload, 1) := DX8_addGift_0 (13, .iaload, 1) (List.mem_of_getElem? (i := 9) rfl)
theorem dX8_addGift_14 : decode cX8_addGift 14 = .ok (.iconst 1, 1) := DX8_addGift_0 (14, .iconst 1, 1) (List.mem_of_getElem? (i := 10) rfl)
theorem dX8_addGift_15 : decode cX8_addGift 15 = .ok (.isub, 1) := DX8_addGift_0 (15, .isub, 1) (List.mem_of_getElem? (i := 11) rfl)
theorem dX8_addGift_16 : decode cX8_addGift 16 = .ok (.invokestatic 79, 3) := DX8_addGift_0 (16, .invokestatic 79, 3) (List.mem_of_getElem? (i := 12) rfl)
theorem dX8_addGift_19 : decode cX8_addGift 19 = .ok (.ifCond .ne 7, 3) := DX8_addGift_0 (19, .ifCond .ne 7, 3) (List.mem_of_getElem? (i := 13) rfl)
theorem dX8_addGift_22 : decode cX8_addGift 22 = .ok (.iconst 1, 1) := DX8_addGift_0 (22, .iconst 1, 1) (List.mem_of_getElem? (i := 14) rfl)
theorem dX8_addGift_23 : decode cX8_addGift 23 = .ok (.goto 4, 3) := DX8_addGift_0 (23, .goto 4, 3) (List.mem_of_getElem? (i := 15) rfl)
theorem dX8_addGift_26 : decode cX8_addGift 26 = .ok (.iconst 0, 1) := DX8_addGift_0 (26, .iconst 0, 1) (List.mem_of_getElem? (i := 16) rfl)
theorem dX8_addGift_27 : decode cX8_addGift 27 = .ok (.iconst 1, 1) := DX8_addGift_0 (27, .iconst 1, 1) (List.mem_of_getElem? (i := 17) rfl)
theorem dX8_addGift_28 : decode cX8_addGift 28 = .ok (.invokevirtual 261, 3) := DX8_addGift_0 (28, .invokevirtual 261, 3) (List.mem_of_getElem? (i := 18) rfl)
theorem dX8_addGift_31 : decode cX8_addGift 31 = .ok (.ifCond .eq 5, 3) := DX8_addGift_0 (31, .ifCond .eq 5, 3) (List.mem_of_getElem? (i := 19) rfl)
theorem dX8_addGift_34 : decode cX8_addGift 34 = .ok (.iconst 0, 1) := DX8_addGift_0 (34, .iconst 0, 1) (List.mem_of_getElem? (i := 20) rfl)
theorem dX8_addGift_35 : decode cX8_addGift 35 = .ok (.ireturn, 1) := DX8_addGift_0 (35, .ireturn, 1) (List.mem_of_getElem? (i := 21) rfl)
theorem dX8_addGift_36 : decode cX8_addGift 36 = .ok (.aload_n 0, 1) := DX8_addGift_0 (36, .aload_n 0, 1) (List.mem_of_getElem? (i := 22) rfl)
theorem dX8_addGift_37 : decode cX8_addGift 37 = .ok (.iload_n 2, 1) := DX8_addGift_0 (37, .iload_n 2, 1) (List.mem_of_getElem? (i := 23) rfl)
theorem dX8_addGift_38 : decode cX8_addGift 38 = .ok (.iconst 0, 1) := DX8_addGift_0 (38, .iconst 0, 1) (List.mem_of_getElem? (i := 24) rfl)
theorem dX8_addGift_39 : decode cX8_addGift 39 = .ok (.sipush 9999, 3) := DX8_addGift_0 (39, .sipush 9999, 3) (List.mem_of_getElem? (i := 25) rfl)
theorem dX8_addGift_42 : decode cX8_addGift 42 = .ok (.invokestatic 79, 3) := DX8_addGift_0 (42, .invokestatic 79, 3) (List.mem_of_getElem? (i := 26) rfl)
theorem dX8_addGift_45 : decode cX8_addGift 45 = .ok (.ifCond .eq 24, 3) := DX8_addGift_0 (45, .ifCond .eq 24, 3) (List.mem_of_getElem? (i := 27) rfl)
theorem dX8_addGift_48 : decode cX8_addGift 48 = .ok (.iload_n 3, 1) := DX8_addGift_0 (48, .iload_n 3, 1) (List.mem_of_getElem? (i := 28) rfl)
theorem dX8_addGift_49 : decode cX8_addGift 49 = .ok (.iconst 1, 1) := DX8_addGift_0 (49, .iconst 1, 1) (List.mem_of_getElem? (i := 29) rfl)
theorem dX8_addGift_50 : decode cX8_addGift 50 = .ok (.ldc 207, 2) := DX8_addGift_0 (50, .ldc 207, 2) (List.mem_of_getElem? (i := 30) rfl)
theorem dX8_addGift_52 : decode cX8_addGift 52 = .ok (.invokestatic 79, 3) := DX8_addGift_0 (52, .invokestatic 79, 3) (List.mem_of_getElem? (i := 31) rfl)
theorem dX8_addGift_55 : decode cX8_addGift 55 = .ok (.ifCond .eq 14, 3) := DX8_addGift_0 (55, .ifCond .eq 14, 3) (List.mem_of_getElem? (i := 32) rfl)
theorem dX8_addGift_58 : decode cX8_addGift 58 = .ok (.iload 4, 2) := DX8_addGift_0 (58, .iload 4, 2) (List.mem_of_getElem? (i := 33) rfl)
theorem dX8_addGift_60 : decode cX8_addGift 60 = .ok (.iconst 0, 1) := DX8_addGift_0 (60, .iconst 0, 1) (List.mem_of_getElem? (i := 34) rfl)
theorem dX8_addGift_61 : decode cX8_addGift 61 = .ok (.ldc 207, 2) := DX8_addGift_0 (61, .ldc 207, 2) (List.mem_of_getElem? (i := 35) rfl)
theorem dX8_addGift_63 : decode cX8_addGift 63 = .ok (.invokestatic 79, 3) := DX8_addGift_0 (63, .invokestatic 79, 3) (List.mem_of_getElem? (i := 36) rfl)
theorem dX8_addGift_66 : decode cX8_addGift 66 = .ok (.ifCond .ne 7, 3) := DX8_addGift_0 (66, .ifCond .ne 7, 3) (List.mem_of_getElem? (i := 37) rfl)
theorem dX8_addGift_69 : decode cX8_addGift 69 = .ok (.iconst 1, 1) := DX8_addGift_0 (69, .iconst 1, 1) (List.mem_of_getElem? (i := 38) rfl)
theorem dX8_addGift_70 : decode cX8_addGift 70 = .ok (.goto 4, 3) := DX8_addGift_0 (70, .goto 4, 3) (List.mem_of_getElem? (i := 39) rfl)
theorem DX8_addGift_1 : ∀ q ∈ ([(73, .iconst 0, 1), (74, .iconst 2, 1), (75, .invokevirtual 261, 3), (78, .ifCond .ne 27, 3), (81, .aload_n 0, 1), (82, .aload_n 0, 1), (83, .getfield 7, 3), (86, .iconst 2, 1), (87, .iaload, 1), (88, .bipush 60, 2), (90, .if_icmp .ne 7, 3), (93, .iconst 1, 1), (94, .goto 4, 3), (97, .iconst 0, 1), (98, .iconst 3, 1), (99, .invokevirtual 261, 3), (102, .ifCond .eq 5, 3), (105, .iconst 0, 1), (106, .ireturn, 1), (107, .aload_n 0, 1), (108, .invokevirtual 300, 3), (111, .aload_n 0, 1), (112, .getfield 7, 3), (115, .iconst 2, 1), (116, .iaload, 1), (117, .istore 5, 2), (119, .aload_n 0, 1), (120, .iload 5, 2), (122, .invokevirtual 214, 3), (125, .aload_n 0, 1), (126, .getfield 7, 3), (129, .bipush 113, 2), (131, .iload 5, 2), (133, .iadd, 1), (134, .iload_n 2, 1), (135, .iastore, 1), (136, .aload_n 0, 1), (137, .getfield 7, 3), (140, .sipush 173, 3), (143, .iload 5, 2)] : List (Nat × Instr × Nat)), decode cX8_addGift q.1 = .ok q.2 := by decide +kernel
theorem dX8_addGift_73 : decode cX8_addGift 73 = .ok (.iconst 0, 1) := DX8_addGift_1 (73, .iconst 0, 1) (List.mem_of_getElem? (i := 0) rfl)
theorem dX8_addGift_74 : decode cX8_addGift 74 = .ok (.iconst 2, 1) := DX8_addGift_1 (74, .iconst 2, 1) (List.mem_of_getElem? (i := 1) rfl)
theorem dX8_addGift_75 : decode cX8_addGift 75 = .ok (.invokevirtual 261, 3) := DX8_addGift_1 (75, .invokevirtual 261, 3) (List.mem_of_getElem? (i := 2) rfl)
theorem dX8_addGift_78 : decode cX8_addGift 78 = .ok (.ifCond .ne 27, 3) := DX8_addGift_1 (78, .ifCond .ne 27, 3) (List.mem_of_getElem? (i := 3) rfl)
theorem dX8_addGift_81 : decode cX8_addGift 81 = .ok (.aload_n 0, 1) := DX8_addGift_1 (81, .aload_n 0, 1) (List.mem_of_getElem? (i := 4) rfl)
theorem dX8_addGift_82 : decode cX8_addGift 82 = .ok (.aload_n 0, 1) := DX8_addGift_1 (82, .aload_n 0, 1) (List.mem_of_getElem? (i := 5) rfl)
theorem dX8_addGift_83 : decode cX8_addGift 83 = .ok (.getfield 7, 3) := DX8_addGift_1 (83, .getfield 7, 3) (List.mem_of_getElem? (i := 6) rfl)
theorem dX8_addGift_86 : decode cX8_addGift 86 = .ok (.iconst 2, 1) := DX8_addGift_1 (86, .iconst 2, 1) (List.mem_of_getElem? (i := 7) rfl)
theorem dX8_addGift_87 : decode cX8_addGift 87 = .ok (.iaload, 1) := DX8_addGift_1 (87, .iaload, 1) (List.mem_of_getElem? (i := 8) rfl)
theorem dX8_addGift_88 : decode cX8_addGift 88 = .ok (.bipush 60, 2) := DX8_addGift_1 (88, .bipush 60, 2) (List.mem_of_getElem? (i := 9) rfl)
theorem dX8_addGift_90 : decode cX8_addGift 90 = .ok (.if_icmp .ne 7, 3) := DX8_addGift_1 (90, .if_icmp .ne 7, 3) (List.mem_of_getElem? (i := 10) rfl)
theorem dX8_addGift_93 : decode cX8_addGift 93 = .ok (.iconst 1, 1) := DX8_addGift_1 (93, .iconst 1, 1) (List.mem_of_getElem? (i := 11) rfl)
theorem dX8_addGift_94 : decode cX8_addGift 94 = .ok (.goto 4, 3) := DX8_addGift_1 (94, .goto 4, 3) (List.mem_of_getElem? (i := 12) rfl)
theorem dX8_addGift_97 : decode cX8_addGift 97 = .ok (.iconst 0, 1) := DX8_addGift_1 (97, .iconst 0, 1) (List.mem_of_getElem? (i := 13) rfl)
theorem dX8_addGift_98 : decode cX8_addGift 98 = .ok (.iconst 3, 1) := DX8_addGift_1 (98, .iconst 3, 1) (List.mem_of_getElem? (i := 14) rfl)
theorem dX8_addGift_99 : decode cX8_addGift 99 = .ok (.invokevirtual 261, 3) := DX8_addGift_1 (99, .invokevirtual 261, 3) (List.mem_of_getElem? (i := 15) rfl)
theorem dX8_addGift_102 : decode cX8_addGift 102 = .ok (.ifCond .eq 5, 3) := DX8_addGift_1 (102, .ifCond .eq 5, 3) (List.mem_of_getElem? (i := 16) rfl)
theorem dX8_addGift_105 : decode cX8_addGift 105 = .ok (.iconst 0, 1) := DX8_addGift_1 (105, .iconst 0, 1) (List.mem_of_getElem? (i := 17) rfl)
theorem dX8_addGift_106 : decode cX8_addGift 106 = .ok (.ireturn, 1) := DX8_addGift_1 (106, .ireturn, 1) (List.mem_of_getElem? (i := 18) rfl)
theorem dX8_addGift_107 : decode cX8_addGift 107 = .ok (.aload_n 0, 1) := DX8_addGift_1 (107, .aload_n 0, 1) (List.mem_of_getElem? (i := 19) rfl)
theorem dX8_addGift_108 : decode cX8_addGift 108 = .ok (.invokevirtual 300, 3) := DX8_addGift_1 (108, .invokevirtual 300, 3) (List.mem_of_getElem? (i := 20) rfl)
theorem dX8_addGift_111 : decode cX8_addGift 111 = .ok (.aload_n 0, 1) := DX8_addGift_1 (111, .aload_n 0, 1) (List.mem_of_getElem? (i := 21) rfl)
theorem dX8_addGift_112 : decode cX8_addGift 112 = .ok (.getfield 7, 3) := DX8_addGift_1 (112, .getfield 7, 3) (List.mem_of_getElem? (i := 22) rfl)
theorem dX8_addGift_115 : decode cX8_addGift 115 = .ok (.iconst 2, 1) := DX8_addGift_1 (115, .iconst 2, 1) (List.mem_of_getElem? (i := 23) rfl)
theorem dX8_addGift_116 : decode cX8_addGift 116 = .ok (.iaload, 1) := DX8_addGift_1 (116, .iaload, 1) (List.mem_of_getElem? (i := 24) rfl)
theorem dX8_addGift_117 : decode cX8_addGift 117 = .ok (.istore 5, 2) := DX8_addGift_1 (117, .istore 5, 2) (List.mem_of_getElem? (i := 25) rfl)
theorem dX8_addGift_119 : decode cX8_addGift 119 = .ok (.aload_n 0, 1) := DX8_addGift_1 (119, .aload_n 0, 1) (List.mem_of_getElem? (i := 26) rfl)
theorem dX8_addGift_120 : decode cX8_addGift 120 = .ok (.iload 5, 2) := DX8_addGift_1 (120, .iload 5, 2) (List.mem_of_getElem? (i := 27) rfl)
theorem dX8_addGift_122 : decode cX8_addGift 122 = .ok (.invokevirtual 214, 3) := DX8_addGift_1 (122, .invokevirtual 214, 3) (List.mem_of_getElem? (i := 28) rfl)
theorem dX8_addGift_125 : decode cX8_addGift 125 = .ok (.aload_n 0, 1) := DX8_addGift_1 (125, .aload_n 0, 1) (List.mem_of_getElem? (i := 29) rfl)
theorem dX8_addGift_126 : decode cX8_addGift 126 = .ok (.getfield 7, 3) := DX8_addGift_1 (126, .getfield 7, 3) (List.mem_of_getElem? (i := 30) rfl)
theorem dX8_addGift_129 : decode cX8_addGift 129 = .ok (.bipush 113, 2) := DX8_addGift_1 (129, .bipush 113, 2) (List.mem_of_getElem? (i := 31) rfl)
theorem dX8_addGift_131 : decode cX8_addGift 131 = .ok (.iload 5, 2) := DX8_addGift_1 (131, .iload 5, 2) (List.mem_of_getElem? (i := 32) rfl)
theorem dX8_addGift_133 : decode cX8_addGift 133 = .ok (.iadd, 1) := DX8_addGift_1 (133, .iadd, 1) (List.mem_of_getElem? (i := 33) rfl)
theorem dX8_addGift_134 : decode cX8_addGift 134 = .ok (.iload_n 2, 1) := DX8_addGift_1 (134, .iload_n 2, 1) (List.mem_of_getElem? (i := 34) rfl)
theorem dX8_addGift_135 : decode cX8_addGift 135 = .ok (.iastore, 1) := DX8_addGift_1 (135, .iastore, 1) (List.mem_of_getElem? (i := 35) rfl)
theorem dX8_addGift_136 : decode cX8_addGift 136 = .ok (.aload_n 0, 1) := DX8_addGift_1 (136, .aload_n 0, 1) (List.mem_of_getElem? (i := 36) rfl)
theorem dX8_addGift_137 : decode cX8_addGift 137 = .ok (.getfield 7, 3) := DX8_addGift_1 (137, .getfield 7, 3) (List.mem_of_getElem? (i := 37) rfl)
theorem dX8_addGift_140 : decode cX8_addGift 140 = .ok (.sipush 173, 3) := DX8_addGift_1 (140, .sipush 173, 3) (List.mem_of_getElem? (i := 38) rfl)
theorem dX8_addGift_143 : decode cX8_addGift 143 = .ok (.iload 5, 2) := DX8_addGift_1 (143, .iload 5, 2) (List.mem_of_getElem? (i := 39) rfl)
theorem DX8_addGift_2 : ∀ q ∈ ([(145, .iadd, 1), (146, .iload_n 3, 1), (147, .iastore, 1), (148, .aload_n 0, 1), (149, .getfield 7, 3), (152, .sipush 233, 3), (155, .iload 5, 2), (157, .iadd, 1), (158, .iload 4, 2), (160, .iastore, 1), (161, .iload_n 1, 1), (162, .iconst (-1), 1), (163, .if_icmp .eq 29, 3), (166, .aload_n 0, 1), (167, .getfield 7, 3), (170, .sipush 413, 3), (173, .iload 5, 2), (175, .iconst 0, 1), (176, .invokestatic 103, 3), (179, .iadd, 1), (180, .iload_n 1, 1), (181, .iastore, 1), (182, .aload_n 0, 1), (183, .iload 5, 2), (185, .iconst 1, 1), (186, .iconst 1, 1), (187, .iconst 0, 1), (188, .iconst 0, 1), (189, .invokevirtual 220, 3), (192, .aload_n 0, 1), (193, .getfield 7, 3), (196, .iconst 2, 1), (197, .dup2, 1), (198, .iaload, 1), (199, .iconst 1, 1), (200, .iadd, 1), (201, .iastore, 1), (202, .iload 5, 2), (204, .ireturn, 1)] : List (Nat × Instr × Nat)), decode cX8_addGift q.1 = .ok q.2 := by decide +kernel
theorem dX8_addGift_145 : decode cX8_addGift 145 = .ok (.iadd, 1) := DX8_addGift_2 (145, .iadd, 1) (List.mem_of_getElem? (i := 0) rfl)
theorem dX8_addGift_146 : decode cX8_addGift 146 = .ok (.iload_n 3, 1) := DX8_addGift_2 (146, .iload_n 3, 1) (List.mem_of_getElem? (i := 1) rfl)
theorem dX8_addGift_147 : decode cX8_addGift 147 = .ok (.iastore, 1) := DX8_addGift_2 (147, .iastore, 1) (List.mem_of_getElem? (i := 2) rfl)
theorem dX8_addGift_148 : decode cX8_addGift 148 = .ok (.aload_n 0, 1) := DX8_addGift_2 (148, .aload_n 0, 1) (List.mem_of_getElem? (i := 3) rfl)
theorem dX8_addGift_149 : decode cX8_addGift 149 = .ok (.getfield 7, 3) := DX8_addGift_2 (149, .getfield 7, 3) (List.mem_of_getElem? (i := 4) rfl)
theorem dX8_addGift_152 : decode cX8_addGift 152 = .ok (.sipush 233, 3) := DX8_addGift_2 (152, .sipush 233, 3) (List.mem_of_getElem? (i := 5) rfl)
theorem dX8_addGift_155 : decode cX8_addGift 155 = .ok (.iload 5, 2) := DX8_addGift_2 (155, .iload 5, 2) (List.mem_of_getElem? (i := 6) rfl)
theorem dX8_addGift_157 : decode cX8_addGift 157 = .ok (.iadd, 1) := DX8_addGift_2 (157, .iadd, 1) (List.mem_of_getElem? (i := 7) rfl)
theorem dX8_addGift_158 : decode cX8_addGift 158 = .ok (.iload 4, 2) := DX8_addGift_2 (158, .iload 4, 2) (List.mem_of_getElem? (i := 8) rfl)
theorem dX8_addGift_160 : decode cX8_addGift 160 = .ok (.iastore, 1) := DX8_addGift_2 (160, .iastore, 1) (List.mem_of_getElem? (i := 9) rfl)
theorem dX8_addGift_161 : decode cX8_addGift 161 = .ok (.iload_n 1, 1) := DX8_addGift_2 (161, .iload_n 1, 1) (List.mem_of_getElem? (i := 10) rfl)
theorem dX8_addGift_162 : decode cX8_addGift 162 = .ok (.iconst (-1), 1) := DX8_addGift_2 (162, .iconst (-1), 1) (List.mem_of_getElem? (i := 11) rfl)
theorem dX8_addGift_163 : decode cX8_addGift 163 = .ok (.if_icmp .eq 29, 3) := DX8_addGift_2 (163, .if_icmp .eq 29, 3) (List.mem_of_getElem? (i := 12) rfl)
theorem dX8_addGift_166 : decode cX8_addGift 166 = .ok (.aload_n 0, 1) := DX8_addGift_2 (166, .aload_n 0, 1) (List.mem_of_getElem? (i := 13) rfl)
theorem dX8_addGift_167 : decode cX8_addGift 167 = .ok (.getfield 7, 3) := DX8_addGift_2 (167, .getfield 7, 3) (List.mem_of_getElem? (i := 14) rfl)
theorem dX8_addGift_170 : decode cX8_addGift 170 = .ok (.sipush 413, 3) := DX8_addGift_2 (170, .sipush 413, 3) (List.mem_of_getElem? (i := 15) rfl)
theorem dX8_addGift_173 : decode cX8_addGift 173 = .ok (.iload 5, 2) := DX8_addGift_2 (173, .iload 5, 2) (List.mem_of_getElem? (i := 16) rfl)
theorem dX8_addGift_175 : decode cX8_addGift 175 = .ok (.iconst 0, 1) := DX8_addGift_2 (175, .iconst 0, 1) (List.mem_of_getElem? (i := 17) rfl)
theorem dX8_addGift_176 : decode cX8_addGift 176 = .ok (.invokestatic 103, 3) := DX8_addGift_2 (176, .invokestatic 103, 3) (List.mem_of_getElem? (i := 18) rfl)
theorem dX8_addGift_179 : decode cX8_addGift 179 = .ok (.iadd, 1) := DX8_addGift_2 (179, .iadd, 1) (List.mem_of_getElem? (i := 19) rfl)
theorem dX8_addGift_180 : decode cX8_addGift 180 = .ok (.iload_n 1, 1) := DX8_addGift_2 (180, .iload_n 1, 1) (List.mem_of_getElem? (i := 20) rfl)
theorem dX8_addGift_181 : decode cX8_addGift 181 = .ok (.iastore, 1) := DX8_addGift_2 (181, .iastore, 1) (List.mem_of_getElem? (i := 21) rfl)
theorem dX8_addGift_182 : decode cX8_addGift 182 = .ok (.aload_n 0, 1) := DX8_addGift_2 (182, .aload_n 0, 1) (List.mem_of_getElem? (i := 22) rfl)
theorem dX8_addGift_183 : decode cX8_addGift 183 = .ok (.iload 5, 2) := DX8_addGift_2 (183, .iload 5, 2) (List.mem_of_getElem? (i := 23) rfl)
theorem dX8_addGift_185 : decode cX8_addGift 185 = .ok (.iconst 1, 1) := DX8_addGift_2 (185, .iconst 1, 1) (List.mem_of_getElem? (i := 24) rfl)
theorem dX8_addGift_186 : decode cX8_addGift 186 = .ok (.iconst 1, 1) := DX8_addGift_2 (186, .iconst 1, 1) (List.mem_of_getElem? (i := 25) rfl)
theorem dX8_addGift_187 : decode cX8_addGift 187 = .ok (.iconst 0, 1) := DX8_addGift_2 (187, .iconst 0, 1) (List.mem_of_getElem? (i := 26) rfl)
theorem dX8_addGift_188 : decode cX8_addGift 188 = .ok (.iconst 0, 1) := DX8_addGift_2 (188, .iconst 0, 1) (List.mem_of_getElem? (i := 27) rfl)
theorem dX8_addGift_189 : decode cX8_addGift 189 = .ok (.invokevirtual 220, 3) := DX8_addGift_2 (189, .invokevirtual 220, 3) (List.mem_of_getElem? (i := 28) rfl)
theorem dX8_addGift_192 : decode cX8_addGift 192 = .ok (.aload_n 0, 1) := DX8_addGift_2 (192, .aload_n 0, 1) (List.mem_of_getElem? (i := 29) rfl)
theorem dX8_addGift_193 : decode cX8_addGift 193 = .ok (.getfield 7, 3) := DX8_addGift_2 (193, .getfield 7, 3) (List.mem_of_getElem? (i := 30) rfl)
theorem dX8_addGift_196 : decode cX8_addGift 196 = .ok (.iconst 2, 1) := DX8_addGift_2 (196, .iconst 2, 1) (List.mem_of_getElem? (i := 31) rfl)
theorem dX8_addGift_197 : decode cX8_addGift 197 = .ok (.dup2, 1) := DX8_addGift_2 (197, .dup2, 1) (List.mem_of_getElem? (i := 32) rfl)
theorem dX8_addGift_198 : decode cX8_addGift 198 = .ok (.iaload, 1) := DX8_addGift_2 (198, .iaload, 1) (List.mem_of_getElem? (i := 33) rfl)
theorem dX8_addGift_199 : decode cX8_addGift 199 = .ok (.iconst 1, 1) := DX8_addGift_2 (199, .iconst 1, 1) (List.mem_of_getElem? (i := 34) rfl)
theorem dX8_addGift_200 : decode cX8_addGift 200 = .ok (.iadd, 1) := DX8_addGift_2 (200, .iadd, 1) (List.mem_of_getElem? (i := 35) rfl)
theorem dX8_addGift_201 : decode cX8_addGift 201 = .ok (.iastore, 1) := DX8_addGift_2 (201, .iastore, 1) (List.mem_of_getElem? (i := 36) rfl)
theorem dX8_addGift_202 : decode cX8_addGift 202 = .ok (.iload 5, 2) := DX8_addGift_2 (202, .iload 5, 2) (List.mem_of_getElem? (i := 37) rfl)
theorem dX8_addGift_204 : decode cX8_addGift 204 = .ok (.ireturn, 1) := DX8_addGift_2 (204, .ireturn, 1) (List.mem_of_getElem? (i := 38) rfl)
abbrev rmX8_addGift : Room := { frames := 2, cells := 0, slots := 0, locals := 50 }
set_option maxHeartbeats 400000 in
set_option maxRecDepth 100000 in
theorem met_X8_addGift (l : Launch) (D : va_G) (kA : Nat → ClassId) (a : Nat → Nat) (n : Nat) (V0 : Sz) (x1 : Int) (x2 : Int) (x3 : Int) (x4 : Int) (hDt : ∀ w : Sz, va_D (fun _ => True) (cs_X8 kA a w)) {r : Int} {Vr : Sz} (hf : f_X8_addGift n V0 x1 x2 x3 x4 = some (r, Vr)) : MZ l yX8_addGift cX8_addGift 6 (some .int) rmX8_addGift D kA [.ref (a 0), vI x1, vI x2, vI x3, vI x4] (cs_X8 kA a V0) (cs_X8 kA a Vr) (some (vI r)) := by
  refine zZI (own := RX8) rfl rfl (Nat.le_of_ble_eq_true rfl) ?_
  intro p e s m args below meth c ls Q hC hK hP hl hret
  have hl : lv_has ls 6 [(0, .ref (a 0)), (1, vI x1), (2, vI x2), (3, vI x3), (4, vI x4)] := hl
  have hS : va_S (zF (cs_X8 kA a V0)) s.heap s.heap [] := va_S.rf
  have hD := zDself (C := fun w : Sz => (cs_X8 kA a w)) hDt V0 (fun _ => rfl)
  try dsimp only at hD
  generalize hAe : zF (cs_X8 kA a V0) = A0 at hS hD hret
  unfold f_X8_addGift at hf
  have J192 : ∀ (y5 : Int) (V : Sz) (H : Heap) (locs : List Loc) (ls : Array Slot), jX8_addGift_192 n x1 x2 x3 x4 y5 V = some (r, Vr) → va_P D vwCl (cs_X8 kA a V) H → va_S A0 s.heap H locs → lv_has ls 6 [(0, .ref (a 0)), (5, vI y5)] → W p l e rmX8_addGift s m args below meth c H locs 0 0 Q (F0 m 192 ls []) := by
    intro y5 V H locs ls hf hP hS hl
    unfold jX8_addGift_192 at hf
    refine lv_aload_n hC.1 hC.2.1 dX8_addGift_192 rfl (lv_at hl 0 rfl) <| gfX8_7 hC hK hP (q0 := 0) rfl rfl dX8_addGift_193 <| ziconst hC.1 hC.2.1 dX8_addGift_196 <| lv_dup2_11 hC.1 hC.2.1 dX8_addGift_197 rfl rfl <| jal hC hK hP (q0 := 1) rfl (Nat.le_of_ble_eq_true rfl) (by decide) rfl dX8_addGift_198 <| ziconst hC.1 hC.2.1 dX8_addGift_199 <| ziadd hC.1 hC.2.1 dX8_addGift_200 <| ?_
    refine jas hC hK hP (hD V) hS (q0 := 1) rfl (Nat.le_of_ble_eq_true rfl) (by decide) rfl dX8_addGift_201 (fun H locs hP hS => ?_)
    obtain ⟨V_21, eV_21⟩ : ∃ y, y = uz V 0 2 ((V 0 2) + 1) := ⟨_, rfl⟩
    have hf := nm_at hf eV_21
    have hP : va_P D vwCl (cs_X8 kA a V_21) H := by rw [eV_21]; exact hP
    refine ziload hC.1 hC.2.1 dX8_addGift_202 (lv_at hl 1 rfl) <| ?_
    have hf := Option.some.inj hf
    simp only [Prod.mk.injEq] at hf
    exact hret (Int32.ofInt y5) _ _ _ _ (congrArg (fun z => some (vI z)) hf.1.symm) (by rw [← hf.2]; exact hP) hS dX8_addGift_204
  have J98 : ∀ (V : Sz) (z0 : Int) (H : Heap) (locs : List Loc) (ls : Array Slot), jX8_addGift_98 n x1 x2 x3 x4 V z0 = some (r, Vr) → va_P D vwCl (cs_X8 kA a V) H → va_S A0 s.heap H locs → lv_has ls 6 [(0, .ref (a 0)), (1, vI x1), (2, vI x2), (3, vI x3), (4, vI x4)] → W p l e rmX8_addGift s m args below meth c H locs 0 0 Q (F0 m 98 ls [vI z0, .ref (a 0)]) := by
    intro V z0 H locs ls hf hP hS hl
    unfold jX8_addGift_98 at hf
    refine ziconst hC.1 hC.2.1 dX8_addGift_98 <| ?_
    obtain ⟨⟨r_9, V_10⟩, hu, hf⟩ := bd_some hf
    have hDc := hDt
    refine zcVZ (As := [vI z0, vI 3]) (rest := []) hC hK (met_X8_fails l D kA a V z0 3 hDc hu) zwX8_261 hS (zFsub (hD V) [0, 1, 2, 3, 4, 5, 6, 7, 8, 9, 10, 11, 12, 13, 14, 15, 16] rfl) hP (q0 := 0) rfl rfl rfl rfl hl.1 rfl (Nat.le_of_ble_eq_true rfl) ⟨Nat.le_of_ble_eq_true rfl, Nat.le_of_ble_eq_true rfl⟩ ⟨rfl, rfl⟩ ⟨Nat.le_refl _, Nat.le_refl _⟩ dX8_addGift_99 (fun H locs hP1 hk1 hS => ?_)
    have hP : va_P D vwCl (cs_X8 kA a V_10) H := hP1
    refine zifb_eq (tgt := 107) hC.1 hC.2.1 dX8_addGift_102 (by decide) (fun hc => ?_) (fun hc => ?_)
    · have hf := it_t hf hc
      refine lv_aload_n hC.1 hC.2.1 dX8_addGift_107 rfl (lv_at hl 0 rfl) <| ?_
      obtain ⟨V_11, hu, hf⟩ := bd_some hf
      have hDc := hDt
      refine zcVZ (As := []) (rest := []) hC hK (met_X8_remembers l D kA a n V_10 hDc hu) zwX8_300 hS (zFsub (hD V_10) [0, 1, 2, 3, 4, 5, 6, 7, 8, 9, 10, 11, 12, 13, 14, 15, 16] rfl) hP (q0 := 0) rfl rfl rfl rfl hl.1 rfl (Nat.le_of_ble_eq_true rfl) ⟨Nat.le_of_ble_eq_true rfl, Nat.le_of_ble_eq_true rfl⟩ ⟨rfl, rfl⟩ ⟨Nat.le_refl _, Nat.le_refl _⟩ dX8_addGift_108 (fun H locs hP1 hk1 hS => ?_)
      have hP : va_P D vwCl (cs_X8 kA a V_11) H := hP1
      refine lv_aload_n hC.1 hC.2.1 dX8_addGift_111 rfl (lv_at hl 0 rfl) <| gfX8_7 hC hK hP (q0 := 0) rfl rfl dX8_addGift_112 <| ziconst hC.1 hC.2.1 dX8_addGift_115 <| jal hC hK hP (q0 := 1) rfl (Nat.le_of_ble_eq_true rfl) (by decide) rfl dX8_addGift_116 <| ?_
      refine ztopi (fun x_12 ex_12 => ?_)
      have hf := nm_at hf ex_12
      refine zistore (lv' := [(5, vI x_12), (0, .ref (a 0)), (1, vI x1), (2, vI x2), (3, vI x3), (4, vI x4)]) hC.1 hC.2.1 dX8_addGift_117 hl (by decide) rfl (fun ls hl => ?_)
      refine lv_aload_n hC.1 hC.2.1 dX8_addGift_119 rfl (lv_at hl 1 rfl) <| ziload hC.1 hC.2.1 dX8_addGift_120 (lv_at hl 0 rfl) <| ?_
      obtain ⟨V_13, hu, hf⟩ := bd_some hf
      have hDc := hDt
      refine zcVZ (As := [vI x_12]) (rest := []) hC hK (met_X8_clearsParts l D kA a n V_11 x_12 hDc hu) zwX8_214 hS (zFsub (hD V_11) [0, 1, 2, 3, 4, 5, 6, 7, 8, 9, 10, 11, 12, 13, 14, 15, 16] rfl) hP (q0 := 0) rfl rfl rfl rfl hl.1 rfl (Nat.le_of_ble_eq_true rfl) ⟨Nat.le_of_ble_eq_true rfl, Nat.le_of_ble_eq_true rfl⟩ ⟨rfl, rfl⟩ ⟨Nat.le_refl _, Nat.le_refl _⟩ dX8_addGift_122 (fun H locs hP1 hk1 hS => ?_)
      have hP : va_P D vwCl (cs_X8 kA a V_13) H := hP1
      refine lv_aload_n hC.1 hC.2.1 dX8_addGift_125 rfl (lv_at hl 1 rfl) <| gfX8_7 hC hK hP (q0 := 0) rfl rfl dX8_addGift_126 <| zbipush hC.1 hC.2.1 dX8_addGift_129 (by decide) <| ziload hC.1 hC.2.1 dX8_addGift_131 (lv_at hl 0 rfl) <| ziadd hC.1 hC.2.1 dX8_addGift_133 <| ziload_n hC.1 hC.2.1 dX8_addGift_134 rfl (lv_at hl 3 rfl) <| ?_
      obtain ⟨hz_14, hf⟩ := ck_some hf
      refine jas hC hK hP (hD V_13) hS (q0 := 1) rfl (Nat.le_of_ble_eq_true rfl) hz_14 rfl dX8_addGift_135 (fun H locs hP hS => ?_)
      obtain ⟨V_15, eV_15⟩ : ∃ y, y = uz V_13 0 (113 + x_12).toNat x2 := ⟨_, rfl⟩
      have hf := nm_at hf eV_15
      have hP : va_P D vwCl (cs_X8 kA a V_15) H := by rw [eV_15]; exact hP
      refine lv_aload_n hC.1 hC.2.1 dX8_addGift_136 rfl (lv_at hl 1 rfl) <| gfX8_7 hC hK hP (q0 := 0) rfl rfl dX8_addGift_137 <| zsipush hC.1 hC.2.1 dX8_addGift_140 (by decide) <| ziload hC.1 hC.2.1 dX8_addGift_143 (lv_at hl 0 rfl) <| ziadd hC.1 hC.2.1 dX8_addGift_145 <| ziload_n hC.1 hC.2.1 dX8_addGift_146 rfl (lv_at hl 4 rfl) <| ?_
      obtain ⟨hz_16, hf⟩ := ck_some hf
      refine jas hC hK hP (hD V_15) hS (q0 := 1) rfl (Nat.le_of_ble_eq_true rfl) hz_16 rfl dX8_addGift_147 (fun H locs hP hS => ?_)
      obtain ⟨V_17, eV_17⟩ : ∃ y, y = uz V_15 0 (173 + x_12).toNat x3 := ⟨_, rfl⟩
      have hf := nm_at hf eV_17
      have hP : va_P D vwCl (cs_X8 kA a V_17) H := by rw [eV_17]; exact hP
      refine lv_aload_n hC.1 hC.2.1 dX8_addGift_148 rfl (lv_at hl 1 rfl) <| gfX8_7 hC hK hP (q0 := 0) rfl rfl dX8_addGift_149 <| zsipush hC.1 hC.2.1 dX8_addGift_152 (by decide) <| ziload hC.1 hC.2.1 dX8_addGift_155 (lv_at hl 0 rfl) <| ziadd hC.1 hC.2.1 dX8_addGift_157 <| ziload hC.1 hC.2.1 dX8_addGift_158 (lv_at hl 5 rfl) <| ?_
      obtain ⟨hz_18, hf⟩ := ck_some hf
      refine jas hC hK hP (hD V_17) hS (q0 := 1) rfl (Nat.le_of_ble_eq_true rfl) hz_18 rfl dX8_addGift_160 (fun H locs hP hS => ?_)
      obtain ⟨V_19, eV_19⟩ : ∃ y, y = uz V_17 0 (233 + x_12).toNat x4 := ⟨_, rfl⟩
      have hf := nm_at hf eV_19
      have hP : va_P D vwCl (cs_X8 kA a V_19) H := by rw [eV_19]; exact hP
      refine ziload_n hC.1 hC.2.1 dX8_addGift_161 rfl (lv_at hl 2 rfl) <| ziconst hC.1 hC.2.1 dX8_addGift_162 <| ?_
      obtain ⟨hz_20, hf⟩ := ck_some hf
      refine zicmp_eq (tgt := 192) hC.1 hC.2.1 ⟨hz_20, (by decide)⟩ dX8_addGift_163 (by decide) (fun hc => ?_) (fun hc => ?_)
      · have hf := it_t hf hc
        exact J192 _ _ _ _ _ hf hP hS (lv_sub hl [1, 0] rfl)
      · have hf := it_f hf hc
        refine lv_aload_n hC.1 hC.2.1 dX8_addGift_166 rfl (lv_at hl 1 rfl) <| gfX8_7 hC hK hP (q0 := 0) rfl rfl dX8_addGift_167 <| zsipush hC.1 hC.2.1 dX8_addGift_170 (by decide) <| ziload hC.1 hC.2.1 dX8_addGift_173 (lv_at hl 0 rfl) <| ziconst hC.1 hC.2.1 dX8_addGift_175 <| ?_
        obtain ⟨r_22, hu, hf⟩ := bd_some hf
        have hPc : va_P D vwCl ([] : va_W) _ := hP.sub [] rfl
        refine zcSP (As := [vI x_12, vI 0]) (rest := [vI 413, .ref (a 1)]) hC hK (met_X8_partOf l D kA x_12 0 hu) zwX8_103 hPc rfl hl.1 rfl (Nat.le_of_ble_eq_true rfl) ⟨Nat.le_of_ble_eq_true rfl, Nat.le_of_ble_eq_true rfl⟩ ⟨rfl, rfl⟩ ⟨Nat.le_refl _, Nat.le_refl _⟩ dX8_addGift_176 <| ziadd hC.1 hC.2.1 dX8_addGift_179 <| ziload_n hC.1 hC.2.1 dX8_addGift_180 rfl (lv_at hl 2 rfl) <| ?_
        obtain ⟨hz_23, hf⟩ := ck_some hf
        refine jas hC hK hP (hD V_19) hS (q0 := 1) rfl (Nat.le_of_ble_eq_true rfl) hz_23 rfl dX8_addGift_181 (fun H locs hP hS => ?_)
        obtain ⟨V_24, eV_24⟩ : ∃ y, y = uz V_19 0 (413 + r_22).toNat x1 := ⟨_, rfl⟩
        have hf := nm_at hf eV_24
        have hP : va_P D vwCl (cs_X8 kA a V_24) H := by rw [eV_24]; exact hP
        refine lv_aload_n hC.1 hC.2.1 dX8_addGift_182 rfl (lv_at hl 1 rfl) <| ziload hC.1 hC.2.1 dX8_addGift_183 (lv_at hl 0 rfl) <| ziconst hC.1 hC.2.1 dX8_addGift_185 <| ziconst hC.1 hC.2.1 dX8_addGift_186 <| ziconst hC.1 hC.2.1 dX8_addGift_187 <| ziconst hC.1 hC.2.1 dX8_addGift_188 <| ?_
        obtain ⟨V_25, hu, hf⟩ := bd_some hf
        have hDc := hDt
        refine zcVZ (As := [vI x_12, vI 1, vI 1, vI 0, vI 0]) (rest := []) hC hK (met_X8_shares l D kA a n V_24 x_12 1 1 0 0 hDc hu) zwX8_220 hS (zFsub (hD V_24) [0, 1, 2, 3, 4, 5, 6, 7, 8, 9, 10, 11, 12, 13, 14, 15, 16] rfl) hP (q0 := 0) rfl rfl rfl rfl hl.1 rfl (Nat.le_of_ble_eq_true rfl) ⟨Nat.le_of_ble_eq_true rfl, Nat.le_of_ble_eq_true rfl⟩ ⟨rfl, rfl⟩ ⟨Nat.le_refl _, Nat.le_refl _⟩ dX8_addGift_189 (fun H locs hP1 hk1 hS => ?_)
        have hP : va_P D vwCl (cs_X8 kA a V_25) H := hP1
        exact J192 _ _ _ _ _ hf hP hS (lv_sub hl [1, 0] rfl)
    · have hf := it_f hf hc
      refine ziconst hC.1 hC.2.1 dX8_addGift_105 <| ?_
      have hf := Option.some.inj hf
      simp only [Prod.mk.injEq] at hf
      exact hret (Int32.ofInt 0) _ _ _ _ (congrArg (fun z => some (vI z)) hf.1.symm) (by rw [← hf.2]; exact hP) hS dX8_addGift_106
  have J74 : ∀ (V : Sz) (z0 : Int) (H : Heap) (locs : List Loc) (ls : Array Slot), jX8_addGift_74 n x1 x2 x3 x4 V z0 = some (r, Vr) → va_P D vwCl (cs_X8 kA a V) H → va_S A0 s.heap H locs → lv_has ls 6 [(0, .ref (a 0)), (1, vI x1), (2, vI x2), (3, vI x3), (4, vI x4)] → W p l e rmX8_addGift s m args below meth c H locs 0 0 Q (F0 m 74 ls [vI z0, .ref (a 0)]) := by
    intro V z0 H locs ls hf hP hS hl
    unfold jX8_addGift_74 at hf
    refine ziconst hC.1 hC.2.1 dX8_addGift_74 <| ?_
    obtain ⟨⟨r_6, V_7⟩, hu, hf⟩ := bd_some hf
    have hDc := hDt
    refine zcVZ (As := [vI z0, vI 2]) (rest := []) hC hK (met_X8_fails l D kA a V z0 2 hDc hu) zwX8_261 hS (zFsub (hD V) [0, 1, 2, 3, 4, 5, 6, 7, 8, 9, 10, 11, 12, 13, 14, 15, 16] rfl) hP (q0 := 0) rfl rfl rfl rfl hl.1 rfl (Nat.le_of_ble_eq_true rfl) ⟨Nat.le_of_ble_eq_true rfl, Nat.le_of_ble_eq_true rfl⟩ ⟨rfl, rfl⟩ ⟨Nat.le_refl _, Nat.le_refl _⟩ dX8_addGift_75 (fun H locs hP1 hk1 hS => ?_)
    have hP : va_P D vwCl (cs_X8 kA a V_7) H := hP1
    refine zifb_ne (tgt := 105) hC.1 hC.2.1 dX8_addGift_78 (by decide) (fun hc => ?_) (fun hc => ?_)
    · have hf := it_t hf hc
      refine ziconst hC.1 hC.2.1 dX8_addGift_105 <| ?_
      have hf := Option.some.inj hf
      simp only [Prod.mk.injEq] at hf
      exact hret (Int32.ofInt 0) _ _ _ _ (congrArg (fun z => some (vI z)) hf.1.symm) (by rw [← hf.2]; exact hP) hS dX8_addGift_106
    · have hf := it_f hf hc
      refine lv_aload_n hC.1 hC.2.1 dX8_addGift_81 rfl (lv_at hl 0 rfl) <| lv_aload_n hC.1 hC.2.1 dX8_addGift_82 rfl (lv_at hl 0 rfl) <| gfX8_7 hC hK hP (q0 := 0) rfl rfl dX8_addGift_83 <| ziconst hC.1 hC.2.1 dX8_addGift_86 <| jal hC hK hP (q0 := 1) rfl (Nat.le_of_ble_eq_true rfl) (by decide) rfl dX8_addGift_87 <| zbipush hC.1 hC.2.1 dX8_addGift_88 (by decide) <| ?_
      obtain ⟨hz_8, hf⟩ := ck_some hf
      refine zicmp_ne (tgt := 97) hC.1 hC.2.1 ⟨hz_8, (by decide)⟩ dX8_addGift_90 (by decide) (fun hc => ?_) (fun hc => ?_)
      · have hf := it_f hf hc
        exact ziconst hC.1 hC.2.1 dX8_addGift_97 <| J98 _ _ _ _ _ hf hP hS (lv_sub hl [0, 1, 2, 3, 4] rfl)
      · have hf := it_t hf hc
        exact ziconst hC.1 hC.2.1 dX8_addGift_93 <| lv_goto (tgt := 98) hC.1 hC.2.1 dX8_addGift_94 (by decide) <| J98 _ _ _ _ _ hf hP hS (lv_sub hl [0, 1, 2, 3, 4] rfl)
  have J69 : ∀ (V : Sz) (H : Heap) (locs : List Loc) (ls : Array Slot), jX8_addGift_69 n x1 x2 x3 x4 V = some (r, Vr) → va_P D vwCl (cs_X8 kA a V) H → va_S A0 s.heap H locs → lv_has ls 6 [(0, .ref (a 0)), (1, vI x1), (2, vI x2), (3, vI x3), (4, vI x4)] → W p l e rmX8_addGift s m args below meth c H locs 0 0 Q (F0 m 69 ls [.ref (a 0)]) := by
    intro V H locs ls hf hP hS hl
    unfold jX8_addGift_69 at hf
    exact ziconst hC.1 hC.2.1 dX8_addGift_69 <| lv_goto (tgt := 74) hC.1 hC.2.1 dX8_addGift_70 (by decide) <| J74 _ _ _ _ _ hf hP hS (lv_sub hl [0, 1, 2, 3, 4] rfl)
  have J27 : ∀ (V : Sz) (z0 : Int) (H : Heap) (locs : List Loc) (ls : Array Slot), jX8_addGift_27 n x1 x2 x3 x4 V z0 = some (r, Vr) → va_P D vwCl (cs_X8 kA a V) H → va_S A0 s.heap H locs → lv_has ls 6 [(0, .ref (a 0)), (1, vI x1), (2, vI x2), (3, vI x3), (4, vI x4)] → W p l e rmX8_addGift s m args below meth c H locs 0 0 Q (F0 m 27 ls [vI z0, .ref (a 0)]) := by
    intro V z0 H locs ls hf hP hS hl
    unfold jX8_addGift_27 at hf
    refine ziconst hC.1 hC.2.1 dX8_addGift_27 <| ?_
    obtain ⟨⟨r_3, V_4⟩, hu, hf⟩ := bd_some hf
    have hDc := hDt
    refine zcVZ (As := [vI z0, vI 1]) (rest := []) hC hK (met_X8_fails l D kA a V z0 1 hDc hu) zwX8_261 hS (zFsub (hD V) [0, 1, 2, 3, 4, 5, 6, 7, 8, 9, 10, 11, 12, 13, 14, 15, 16] rfl) hP (q0 := 0) rfl rfl rfl rfl hl.1 rfl (Nat.le_of_ble_eq_true rfl) ⟨Nat.le_of_ble_eq_true rfl, Nat.le_of_ble_eq_true rfl⟩ ⟨rfl, rfl⟩ ⟨Nat.le_refl _, Nat.le_refl _⟩ dX8_addGift_28 (fun H locs hP1 hk1 hS => ?_)
    have hP : va_P D vwCl (cs_X8 kA a V_4) H := hP1
    refine zifb_eq (tgt := 36) hC.1 hC.2.1 dX8_addGift_31 (by decide) (fun hc => ?_) (fun hc => ?_)
    · have hf := it_t hf hc
      refine lv_aload_n hC.1 hC.2.1 dX8_addGift_36 rfl (lv_at hl 0 rfl) <| ziload_n hC.1 hC.2.1 dX8_addGift_37 rfl (lv_at hl 2 rfl) <| ziconst hC.1 hC.2.1 dX8_addGift_38 <| zsipush hC.1 hC.2.1 dX8_addGift_39 (by decide) <| ?_
      obtain ⟨r_5, hu, hf⟩ := bd_some hf
      have hPc : va_P D vwCl ([] : va_W) _ := hP.sub [] rfl
      refine zcSP (As := [vI x2, vI 0, vI 9999]) (rest := [.ref (a 0)]) hC hK (met_X8_inRange l D kA x2 0 9999 hu) zwX8_79 hPc rfl hl.1 rfl (Nat.le_of_ble_eq_true rfl) ⟨Nat.le_of_ble_eq_true rfl, Nat.le_of_ble_eq_true rfl⟩ ⟨rfl, rfl⟩ ⟨Nat.le_refl _, Nat.le_refl _⟩ dX8_addGift_42 <| zifb_eq (tgt := 69) hC.1 hC.2.1 dX8_addGift_45 (by decide) (fun hc => ?_) (fun hc => ?_)
      · have hf := it_t hf hc
        exact J69 _ _ _ _ hf hP hS (lv_sub hl [0, 1, 2, 3, 4] rfl)
      · have hf := it_f hf hc
        refine ziload_n hC.1 hC.2.1 dX8_addGift_48 rfl (lv_at hl 3 rfl) <| ziconst hC.1 hC.2.1 dX8_addGift_49 <| zldc (n := 999999) hC qw_1434 (by decide) dX8_addGift_50 <| ?_
        obtain ⟨r_26, hu, hf⟩ := bd_some hf
        have hPc : va_P D vwCl ([] : va_W) _ := hP.sub [] rfl
        refine zcSP (As := [vI x3, vI 1, vI 999999]) (rest := [.ref (a 0)]) hC hK (met_X8_inRange l D kA x3 1 999999 hu) zwX8_79 hPc rfl hl.1 rfl (Nat.le_of_ble_eq_true rfl) ⟨Nat.le_of_ble_eq_true rfl, Nat.le_of_ble_eq_true rfl⟩ ⟨rfl, rfl⟩ ⟨Nat.le_refl _, Nat.le_refl _⟩ dX8_addGift_52 <| zifb_eq (tgt := 69) hC.1 hC.2.1 dX8_addGift_55 (by decide) (fun hc => ?_) (fun hc => ?_)
        · have hf := it_t hf hc
          exact J69 _ _ _ _ hf hP hS (lv_sub hl [0, 1, 2, 3, 4] rfl)
        · have hf := it_f hf hc
          refine ziload hC.1 hC.2.1 dX8_addGift_58 (lv_at hl 4 rfl) <| ziconst hC.1 hC.2.1 dX8_addGift_60 <| zldc (n := 999999) hC qw_1434 (by decide) dX8_addGift_61 <| ?_
          obtain ⟨r_27, hu, hf⟩ := bd_some hf
          have hPc : va_P D vwCl ([] : va_W) _ := hP.sub [] rfl
          refine zcSP (As := [vI x4, vI 0, vI 999999]) (rest := [.ref (a 0)]) hC hK (met_X8_inRange l D kA x4 0 999999 hu) zwX8_79 hPc rfl hl.1 rfl (Nat.le_of_ble_eq_true rfl) ⟨Nat.le_of_ble_eq_true rfl, Nat.le_of_ble_eq_true rfl⟩ ⟨rfl, rfl⟩ ⟨Nat.le_refl _, Nat.le_refl _⟩ dX8_addGift_63 <| zifb_ne (tgt := 73) hC.1 hC.2.1 dX8_addGift_66 (by decide) (fun hc => ?_) (fun hc => ?_)
          · have hf := it_t hf hc
            exact ziconst hC.1 hC.2.1 dX8_addGift_73 <| J74 _ _ _ _ _ hf hP hS (lv_sub hl [0, 1, 2, 3, 4] rfl)
          · have hf := it_f hf hc
            exact J69 _ _ _ _ hf hP hS (lv_sub hl [0, 1, 2, 3, 4] rfl)
    · have hf := it_f hf hc
      refine ziconst hC.1 hC.2.1 dX8_addGift_34 <| ?_
      have hf := Option.some.inj hf
      simp only [Prod.mk.injEq] at hf
      exact hret (Int32.ofInt 0) _ _ _ _ (congrArg (fun z => some (vI z)) hf.1.symm) (by rw [← hf.2]; exact hP) hS dX8_addGift_35
  refine lv_aload_n hC.1 hC.2.1 dX8_addGift_0 rfl (lv_at hl 0 rfl) <| ziconst hC.1 hC.2.1 dX8_addGift_1 <| ?_
  refine pfX8_65 hC hK hP (hD V0) hS (q0 := 0) rfl (Nat.le_of_ble_eq_true rfl) dX8_addGift_2 (fun H locs hP hS => ?_)
  obtain ⟨V_1, eV_1⟩ : ∃ y, y = us V0 9 0 := ⟨_, rfl⟩
  have hf := nm_at hf eV_1
  have hP : va_P D vwCl (cs_X8 kA a V_1) H := by rw [eV_1]; exact hP
  refine lv_aload_n hC.1 hC.2.1 dX8_addGift_5 rfl (lv_at hl 0 rfl) <| ziload_n hC.1 hC.2.1 dX8_addGift_6 rfl (lv_at hl 1 rfl) <| ziconst hC.1 hC.2.1 dX8_addGift_7 <| lv_aload_n hC.1 hC.2.1 dX8_addGift_8 rfl (lv_at hl 0 rfl) <| gfX8_7 hC hK hP (q0 := 0) rfl rfl dX8_addGift_9 <| ziconst hC.1 hC.2.1 dX8_addGift_12 <| jal hC hK hP (q0 := 1) rfl (Nat.le_of_ble_eq_true rfl) (by decide) rfl dX8_addGift_13 <| ziconst hC.1 hC.2.1 dX8_addGift_14 <| zisub hC.1 hC.2.1 dX8_addGift_15 <| ?_
  obtain ⟨r_2, hu, hf⟩ := bd_some hf
  have hPc : va_P D vwCl ([] : va_W) _ := hP.sub [] rfl
  refine zcSP (As := [vI x1, vI (-1), vI ((V_1 0 0) - 1)]) (rest := [.ref (a 0)]) hC hK (met_X8_inRange l D kA x1 (-1) ((V_1 0 0) - 1) hu) zwX8_79 hPc rfl hl.1 rfl (Nat.le_of_ble_eq_true rfl) ⟨Nat.le_of_ble_eq_true rfl, Nat.le_of_ble_eq_true rfl⟩ ⟨rfl, rfl⟩ ⟨Nat.le_refl _, Nat.le_refl _⟩ dX8_addGift_16 <| zifb_ne (tgt := 26) hC.1 hC.2.1 dX8_addGift_19 (by decide) (fun hc => ?_) (fun hc => ?_)
  · have hf := it_t hf hc
    exact ziconst hC.1 hC.2.1 dX8_addGift_26 <| J27 _ _ _ _ _ hf hP hS (lv_sub hl [0, 1, 2, 3, 4] rfl)
  · have hf := it_f hf hc
    exact ziconst hC.1 hC.2.1 dX8_addGift_22 <| lv_goto (tgt := 27) hC.1 hC.2.1 dX8_addGift_23 (by decide) <| J27 _ _ _ _ _ hf hP hS (lv_sub hl [0, 1, 2, 3, 4] rfl)
theorem DX8_canSplit_0 : ∀ q ∈ ([(0, .aload_n 0, 1), (1, .getfield 7, 3), (4, .sipush 293, 3), (7, .iload_n 1, 1), (8, .iadd, 1), (9, .iaload, 1), (10, .iconst 1, 1), (11, .if_icmp .ne 37, 3), (14, .aload_n 0, 1), (15, .getfield 7, 3), (18, .sipush 353, 3), (21, .iload_n 1, 1), (22, .iadd, 1), (23, .iaload, 1), (24, .ifCond .ne 24, 3), (27, .aload_n 0, 1), (28, .getfield 7, 3), (31, .sipush 953, 3), (34, .iload_n 1, 1), (35, .iconst 0, 1), (36, .invokestatic 103, 3), (39, .iadd, 1), (40, .iaload, 1), (41, .ifCond .ne 7, 3), (44, .iconst 1, 1), (45, .goto 4, 3), (48, .iconst 0, 1), (49, .ireturn, 1)] : List (Nat × Instr × Nat)), decode cX8_canSplit q.1 = .ok q.2 := by decide +kernel
theorem dX8_canSplit_0 : decode cX8_canSplit 0 = .ok (.aload_n 0, 1) := DX8_canSplit_0 (0, .aload_n 0, 1) (List.mem_of_getElem? (i := 0) rfl)
theorem dX8_canSplit_1 : decode cX8_canSplit 1 = .ok (.getfield 7, 3) := DX8_canSplit_0 (1, .getfield 7, 3) (List.mem_of_getElem? (i := 1) rfl)
theorem dX8_canSplit_4 : decode cX8_canSplit 4 = .ok (.sipush 293, 3) := DX8_canSplit_0 (4, .sipush 293, 3) (List.mem_of_getElem? (i := 2) rfl)
theorem dX8_canSplit_7 : decode cX8_canSplit 7 = .ok (.iload_n 1, 1) := DX8_canSplit_0 (7, .iload_n 1, 1) (List.mem_of_getElem? (i := 3) rfl)
theorem dX8_canSplit_8 : decode cX8_canSplit 8 = .ok (.iadd, 1) := DX8_canSplit_0 (8, .iadd, 1) (List.mem_of_getElem? (i := 4) rfl)
theorem dX8_canSplit_9 : decode cX8_canSplit 9 = .ok (.iaload, 1) := DX8_canSplit_0 (9, .iaload, 1) (List.mem_of_getElem? (i := 5) rfl)
theorem dX8_canSplit_10 : decode cX8_canSplit 10 = .ok (.iconst 1, 1) := DX8_canSplit_0 (10, .iconst 1, 1) (List.mem_of_getElem? (i := 6) rfl)
theorem dX8_canSplit_11 : decode cX8_canSplit 11 = .ok (.if_icmp .ne 37, 3) := DX8_canSplit_0 (11, .if_icmp .ne 37, 3) (List.mem_of_getElem? (i := 7) rfl)
theorem dX8_canSplit_14 : decode cX8_canSplit 14 = .ok (.aload_n 0, 1) := DX8_canSplit_0 (14, .aload_n 0, 1) (List.mem_of_getElem? (i := 8) rfl)
theorem dX8_canSplit_15 : decode cX8_canSplit 15 = .ok (.getfield 7, 3) := DX8_canSplit_0 (15, .getfield 7, 3) (List.mem_of_getElem? (i := 9) rfl)
theorem dX8_canSplit_18 : decode cX8_canSplit 18 = .ok (.sipush 353, 3) := DX8_canSplit_0 (18, .sipush 353, 3) (List.mem_of_getElem? (i := 10) rfl)
theorem dX8_canSplit_21 : decode cX8_canSplit 21 = .ok (.iload_n 1, 1) := DX8_canSplit_0 (21, .iload_n 1, 1) (List.mem_of_getElem? (i := 11) rfl)
theorem dX8_canSplit_22 : decode cX8_canSplit 22 = .ok (.iadd, 1) := DX8_canSplit_0 (22, .iadd, 1) (List.mem_of_getElem? (i := 12) rfl)
theorem dX8_canSplit_23 : decode cX8_canSplit 23 = .ok (.iaload, 1) := DX8_canSplit_0 (23, .iaload, 1) (List.mem_of_getElem? (i := 13) rfl)
theorem dX8_canSplit_24 : decode cX8_canSplit 24 = .ok (.ifCond .ne 24, 3) := DX8_canSplit_0 (24, .ifCond .ne 24, 3) (List.mem_of_getElem? (i := 14) rfl)
theorem dX8_canSplit_27 : decode cX8_canSplit 27 = .ok (.aload_n 0, 1) := DX8_canSplit_0 (27, .aload_n 0, 1) (List.mem_of_getElem? (i := 15) rfl)
theorem dX8_canSplit_28 : decode cX8_canSplit 28 = .ok (.getfield 7, 3) := DX8_canSplit_0 (28, .getfield 7, 3) (List.mem_of_getElem? (i := 16) rfl)
theorem dX8_canSplit_31 : decode cX8_canSplit 31 = .ok (.sipush 953, 3) := DX8_canSplit_0 (31, .sipush 953, 3) (List.mem_of_getElem? (i := 17) rfl)
theorem dX8_canSplit_34 : decode cX8_canSplit 34 = .ok (.iload_n 1, 1) := DX8_canSplit_0 (34, .iload_n 1, 1) (List.mem_of_getElem? (i := 18) rfl)
theorem dX8_canSplit_35 : decode cX8_canSplit 35 = .ok (.iconst 0, 1) := DX8_canSplit_0 (35, .iconst 0, 1) (List.mem_of_getElem? (i := 19) rfl)
theorem dX8_canSplit_36 : decode cX8_canSplit 36 = .ok (.invokestatic 103, 3) := DX8_canSplit_0 (36, .invokestatic 103, 3) (List.mem_of_getElem? (i := 20) rfl)
theorem dX8_canSplit_39 : decode cX8_canSplit 39 = .ok (.iadd, 1) := DX8_canSplit_0 (39, .iadd, 1) (List.mem_of_getElem? (i := 21) rfl)
theorem dX8_canSplit_40 : decode cX8_canSplit 40 = .ok (.iaload, 1) := DX8_canSplit_0 (40, .iaload, 1) (List.mem_of_getElem? (i := 22) rfl)
theorem dX8_canSplit_41 : decode cX8_canSplit 41 = .ok (.ifCond .ne 7, 3) := DX8_canSplit_0 (41, .ifCond .ne 7, 3) (List.mem_of_getElem? (i := 23) rfl)
theorem dX8_canSplit_44 : decode cX8_canSplit 44 = .ok (.iconst 1, 1) := DX8_canSplit_0 (44, .iconst 1, 1) (List.mem_of_getElem? (i := 24) rfl)
theorem dX8_canSplit_45 : decode cX8_canSplit 45 = .ok (.goto 4, 3) := DX8_canSplit_0 (45, .goto 4, 3) (List.mem_of_getElem? (i := 25) rfl)
theorem dX8_canSplit_48 : decode cX8_canSplit 48 = .ok (.iconst 0, 1) := DX8_canSplit_0 (48, .iconst 0, 1) (List.mem_of_getElem? (i := 26) rfl)
theorem dX8_canSplit_49 : decode cX8_canSplit 49 = .ok (.ireturn, 1) := DX8_canSplit_0 (49, .ireturn, 1) (List.mem_of_getElem? (i := 27) rfl)
abbrev rmX8_canSplit : Room := { frames := 1, cells := 0, slots := 0, locals := 21 }
set_option maxHeartbeats 400000 in
set_option maxRecDepth 100000 in
theorem met_X8_canSplit (l : Launch) (D : va_G) (kA : Nat → ClassId) (a : Nat → Nat) (V : Sz) (x1 : Int) {r : Bool} (hf : f_X8_canSplit V x1 = some r) : MP l yX8_canSplit cX8_canSplit 2 (some .boolean) rmX8_canSplit D kA [.ref (a 0), vI x1] (cs_X8 kA a V) (some (vI (bI r))) := by
  refine zPZ (own := RX8) rfl rfl (Nat.le_of_ble_eq_true rfl) ?_
  intro p e s m args below meth c ls Q hC hK hP hl hret
  have hl : lv_has ls 2 [(0, .ref (a 0)), (1, vI x1)] := hl
  unfold f_X8_canSplit at hf
  refine lv_aload_n hC.1 hC.2.1 dX8_canSplit_0 rfl (lv_at hl 0 rfl) <| gfX8_7 hC hK hP (q0 := 0) rfl rfl dX8_canSplit_1 <| zsipush hC.1 hC.2.1 dX8_canSplit_4 (by decide) <| ziload_n hC.1 hC.2.1 dX8_canSplit_7 rfl (lv_at hl 1 rfl) <| ziadd hC.1 hC.2.1 dX8_canSplit_8 <| ?_
  obtain ⟨hz_1, hf⟩ := ck_some hf
  refine jal hC hK hP (q0 := 1) rfl (Nat.le_of_ble_eq_true rfl) hz_1 rfl dX8_canSplit_9 <| ziconst hC.1 hC.2.1 dX8_canSplit_10 <| ?_
  obtain ⟨hz_2, hf⟩ := ck_some hf
  refine zicmp_ne (tgt := 48) hC.1 hC.2.1 ⟨hz_2, (by decide)⟩ dX8_canSplit_11 (by decide) (fun hc => ?_) (fun hc => ?_)
  · have hf := it_f hf hc
    exact ziconst hC.1 hC.2.1 dX8_canSplit_48 <| hret (Int32.ofInt (bI false)) _ _ (zb01 _) (qZ hf) dX8_canSplit_49
  · have hf := it_t hf hc
    refine lv_aload_n hC.1 hC.2.1 dX8_canSplit_14 rfl (lv_at hl 0 rfl) <| gfX8_7 hC hK hP (q0 := 0) rfl rfl dX8_canSplit_15 <| zsipush hC.1 hC.2.1 dX8_canSplit_18 (by decide) <| ziload_n hC.1 hC.2.1 dX8_canSplit_21 rfl (lv_at hl 1 rfl) <| ziadd hC.1 hC.2.1 dX8_canSplit_22 <| ?_
    obtain ⟨hz_3, hf⟩ := ck_some hf
    refine jal hC hK hP (q0 := 1) rfl (Nat.le_of_ble_eq_true rfl) hz_3 rfl dX8_canSplit_23 <| ?_
    obtain ⟨hz_4, hf⟩ := ck_some hf
    refine zif_ne (tgt := 48) hC.1 hC.2.1 hz_4 dX8_canSplit_24 (by decide) (fun hc => ?_) (fun hc => ?_)
    · have hf := it_f hf hc
      exact ziconst hC.1 hC.2.1 dX8_canSplit_48 <| hret (Int32.ofInt (bI false)) _ _ (zb01 _) (qZ hf) dX8_canSplit_49
    · have hf := it_t hf hc
      refine lv_aload_n hC.1 hC.2.1 dX8_canSplit_27 rfl (lv_at hl 0 rfl) <| gfX8_7 hC hK hP (q0 := 0) rfl rfl dX8_canSplit_28 <| zsipush hC.1 hC.2.1 dX8_canSplit_31 (by decide) <| ziload_n hC.1 hC.2.1 dX8_canSplit_34 rfl (lv_at hl 1 rfl) <| ziconst hC.1 hC.2.1 dX8_canSplit_35 <| ?_
      obtain ⟨r_5, hu, hf⟩ := bd_some hf
      have hPc : va_P D vwCl ([] : va_W) _ := hP.sub [] rfl
      refine zcSP (As := [vI x1, vI 0]) (rest := [vI 953, .ref (a 1)]) hC hK (met_X8_partOf l D kA x1 0 hu) zwX8_103 hPc rfl hl.1 rfl (Nat.le_of_ble_eq_true rfl) ⟨Nat.le_of_ble_eq_true rfl, Nat.le_of_ble_eq_true rfl⟩ ⟨rfl, rfl⟩ ⟨Nat.le_refl _, Nat.le_refl _⟩ dX8_canSplit_36 <| ziadd hC.1 hC.2.1 dX8_canSplit_39 <| ?_
      obtain ⟨hz_6, hf⟩ := ck_some hf
      refine jal hC hK hP (q0 := 1) rfl (Nat.le_of_ble_eq_true rfl) hz_6 rfl dX8_canSplit_40 <| ?_
      obtain ⟨hz_7, hf⟩ := ck_some hf
      refine zif_ne (tgt := 48) hC.1 hC.2.1 hz_7 dX8_canSplit_41 (by decide) (fun hc => ?_) (fun hc => ?_)
      · have hf := it_f hf hc
        exact ziconst hC.1 hC.2.1 dX8_canSplit_48 <| hret (Int32.ofInt (bI false)) _ _ (zb01 _) (qZ hf) dX8_canSplit_49
      · have hf := it_t hf hc
        exact ziconst hC.1 hC.2.1 dX8_canSplit_44 <| lv_goto (tgt := 49) hC.1 hC.2.1 dX8_canSplit_45 (by decide) <| hret (Int32.ofInt (bI true)) _ _ (zb01 _) (qZ hf) dX8_canSplit_49
theorem DX8_isDonorOf_0 : ∀ q ∈ ([(0, .aload_n 0, 1), (1, .getfield 7, 3), (4, .sipush 293, 3), (7, .iload_n 1, 1), (8, .iadd, 1), (9, .iaload, 1), (10, .iconst 1, 1), (11, .if_icmp .ne 25, 3), (14, .aload_n 0, 1), (15, .getfield 7, 3), (18, .sipush 413, 3), (21, .iload_n 1, 1), (22, .iconst 0, 1), (23, .invokestatic 103, 3), (26, .iadd, 1), (27, .iaload, 1), (28, .iload_n 2, 1), (29, .if_icmp .ne 7, 3), (32, .iconst 1, 1), (33, .goto 4, 3), (36, .iconst 0, 1), (37, .ireturn, 1)] : List (Nat × Instr × Nat)), decode cX8_isDonorOf q.1 = .ok q.2 := by decide +kernel
theorem dX8_isDonorOf_0 : decode cX8_isDonorOf 0 = .ok (.aload_n 0, 1) := DX8_isDonorOf_0 (0, .aload_n 0, 1) (List.mem_of_getElem? (i := 0) rfl)
theorem dX8_isDonorOf_1 : decode cX8_isDonorOf 1 = .ok (.getfield 7, 3) := DX8_isDonorOf_0 (1, .getfield 7, 3) (List.mem_of_getElem? (i := 1) rfl)
theorem dX8_isDonorOf_4 : decode cX8_isDonorOf 4 = .ok (.sipush 293, 3) := DX8_isDonorOf_0 (4, .sipush 293, 3) (List.mem_of_getElem? (i := 2) rfl)
theorem dX8_isDonorOf_7 : decode cX8_isDonorOf 7 = .ok (.iload_n 1, 1) := DX8_isDonorOf_0 (7, .iload_n 1, 1) (List.mem_of_getElem? (i := 3) rfl)
theorem dX8_isDonorOf_8 : decode cX8_isDonorOf 8 = .ok (.iadd, 1) := DX8_isDonorOf_0 (8, .iadd, 1) (List.mem_of_getElem? (i := 4) rfl)
theorem dX8_isDonorOf_9 : decode cX8_isDonorOf 9 = .ok (.iaload, 1) := DX8_isDonorOf_0 (9, .iaload, 1) (List.mem_of_getElem? (i := 5) rfl)
theorem dX8_isDonorOf_10 : decode cX8_isDonorOf 10 = .ok (.iconst 1, 1) := DX8_isDonorOf_0 (10, .iconst 1, 1) (List.mem_of_getElem? (i := 6) rfl)
theorem dX8_isDonorOf_11 : decode cX8_isDonorOf 11 = .ok (.if_icmp .ne 25, 3) := DX8_isDonorOf_0 (11, .if_icmp .ne 25, 3) (List.mem_of_getElem? (i := 7) rfl)
theorem dX8_isDonorOf_14 : decode cX8_isDonorOf 14 = .ok (.aload_n 0, 1) := DX8_isDonorOf_0 (14, .aload_n 0, 1) (List.mem_of_getElem? (i := 8) rfl)
theorem dX8_isDonorOf_15 : decode cX8_isDonorOf 15 = .ok (.getfield 7, 3) := DX8_isDonorOf_0 (15, .getfield 7, 3) (List.mem_of_getElem? (i := 9) rfl)
theorem dX8_isDonorOf_18 : decode cX8_isDonorOf 18 = .ok (.sipush 413, 3) := DX8_isDonorOf_0 (18, .sipush 413, 3) (List.mem_of_getElem? (i := 10) rfl)
theorem dX8_isDonorOf_21 : decode cX8_isDonorOf 21 = .ok (.iload_n 1, 1) := DX8_isDonorOf_0 (21, .iload_n 1, 1) (List.mem_of_getElem? (i := 11) rfl)
theorem dX8_isDonorOf_22 : decode cX8_isDonorOf 22 = .ok (.iconst 0, 1) := DX8_isDonorOf_0 (22, .iconst 0, 1) (List.mem_of_getElem? (i := 12) rfl)
theorem dX8_isDonorOf_23 : decode cX8_isDonorOf 23 = .ok (.invokestatic 103, 3) := DX8_isDonorOf_0 (23, .invokestatic 103, 3) (List.mem_of_getElem? (i := 13) rfl)
theorem dX8_isDonorOf_26 : decode cX8_isDonorOf 26 = .ok (.iadd, 1) := DX8_isDonorOf_0 (26, .iadd, 1) (List.mem_of_getElem? (i := 14) rfl)
theorem dX8_isDonorOf_27 : decode cX8_isDonorOf 27 = .ok (.iaload, 1) := DX8_isDonorOf_0 (27, .iaload, 1) (List.mem_of_getElem? (i := 15) rfl)
theorem dX8_isDonorOf_28 : decode cX8_isDonorOf 28 = .ok (.iload_n 2, 1) := DX8_isDonorOf_0 (28, .iload_n 2, 1) (List.mem_of_getElem? (i := 16) rfl)
theorem dX8_isDonorOf_29 : decode cX8_isDonorOf 29 = .ok (.if_icmp .ne 7, 3) := DX8_isDonorOf_0 (29, .if_icmp .ne 7, 3) (List.mem_of_getElem? (i := 17) rfl)
theorem dX8_isDonorOf_32 : decode cX8_isDonorOf 32 = .ok (.iconst 1, 1) := DX8_isDonorOf_0 (32, .iconst 1, 1) (List.mem_of_getElem? (i := 18) rfl)
theorem dX8_isDonorOf_33 : decode cX8_isDonorOf 33 = .ok (.goto 4, 3) := DX8_isDonorOf_0 (33, .goto 4, 3) (List.mem_of_getElem? (i := 19) rfl)
theorem dX8_isDonorOf_36 : decode cX8_isDonorOf 36 = .ok (.iconst 0, 1) := DX8_isDonorOf_0 (36, .iconst 0, 1) (List.mem_of_getElem? (i := 20) rfl)
theorem dX8_isDonorOf_37 : decode cX8_isDonorOf 37 = .ok (.ireturn, 1) := DX8_isDonorOf_0 (37, .ireturn, 1) (List.mem_of_getElem? (i := 21) rfl)
abbrev rmX8_isDonorOf : Room := { frames := 1, cells := 0, slots := 0, locals := 21 }
set_option maxHeartbeats 400000 in
set_option maxRecDepth 100000 in
theorem met_X8_isDonorOf (l : Launch) (D : va_G) (kA : Nat → ClassId) (a : Nat → Nat) (V : Sz) (x1 : Int) (x2 : Int) {r : Bool} (hf : f_X8_isDonorOf V x1 x2 = some r) : MP l yX8_isDonorOf cX8_isDonorOf 3 (some .boolean) rmX8_isDonorOf D kA [.ref (a 0), vI x1, vI x2] (cs_X8 kA a V) (some (vI (bI r))) := by
  refine zPZ (own := RX8) rfl rfl (Nat.le_of_ble_eq_true rfl) ?_
  intro p e s m args below meth c ls Q hC hK hP hl hret
  have hl : lv_has ls 3 [(0, .ref (a 0)), (1, vI x1), (2, vI x2)] := hl
  unfold f_X8_isDonorOf at hf
  refine lv_aload_n hC.1 hC.2.1 dX8_isDonorOf_0 rfl (lv_at hl 0 rfl) <| gfX8_7 hC hK hP (q0 := 0) rfl rfl dX8_isDonorOf_1 <| zsipush hC.1 hC.2.1 dX8_isDonorOf_4 (by decide) <| ziload_n hC.1 hC.2.1 dX8_isDonorOf_7 rfl (lv_at hl 1 rfl) <| ziadd hC.1 hC.2.1 dX8_isDonorOf_8 <| ?_
  obtain ⟨hz_1, hf⟩ := ck_some hf
  refine jal hC hK hP (q0 := 1) rfl (Nat.le_of_ble_eq_true rfl) hz_1 rfl dX8_isDonorOf_9 <| ziconst hC.1 hC.2.1 dX8_isDonorOf_10 <| ?_
  obtain ⟨hz_2, hf⟩ := ck_some hf
  refine zicmp_ne (tgt := 36) hC.1 hC.2.1 ⟨hz_2, (by decide)⟩ dX8_isDonorOf_11 (by decide) (fun hc => ?_) (fun hc => ?_)
  · have hf := it_f hf hc
    exact ziconst hC.1 hC.2.1 dX8_isDonorOf_36 <| hret (Int32.ofInt (bI false)) _ _ (zb01 _) (qZ hf) dX8_isDonorOf_37
  · have hf := it_t hf hc
    refine lv_aload_n hC.1 hC.2.1 dX8_isDonorOf_14 rfl (lv_at hl 0 rfl) <| gfX8_7 hC hK hP (q0 := 0) rfl rfl dX8_isDonorOf_15 <| zsipush hC.1 hC.2.1 dX8_isDonorOf_18 (by decide) <| ziload_n hC.1 hC.2.1 dX8_isDonorOf_21 rfl (lv_at hl 1 rfl) <| ziconst hC.1 hC.2.1 dX8_isDonorOf_22 <| ?_
    obtain ⟨r_3, hu, hf⟩ := bd_some hf
    have hPc : va_P D vwCl ([] : va_W) _ := hP.sub [] rfl
    refine zcSP (As := [vI x1, vI 0]) (rest := [vI 413, .ref (a 1)]) hC hK (met_X8_partOf l D kA x1 0 hu) zwX8_103 hPc rfl hl.1 rfl (Nat.le_of_ble_eq_true rfl) ⟨Nat.le_of_ble_eq_true rfl, Nat.le_of_ble_eq_true rfl⟩ ⟨rfl, rfl⟩ ⟨Nat.le_refl _, Nat.le_refl _⟩ dX8_isDonorOf_23 <| ziadd hC.1 hC.2.1 dX8_isDonorOf_26 <| ?_
    obtain ⟨hz_4, hf⟩ := ck_some hf
    refine jal hC hK hP (q0 := 1) rfl (Nat.le_of_ble_eq_true rfl) hz_4 rfl dX8_isDonorOf_27 <| ziload_n hC.1 hC.2.1 dX8_isDonorOf_28 rfl (lv_at hl 2 rfl) <| ?_
    obtain ⟨hz_5, hf⟩ := ck_some hf
    refine zicmp_ne (tgt := 36) hC.1 hC.2.1 ⟨hz_5.1, hz_5.2⟩ dX8_isDonorOf_29 (by decide) (fun hc => ?_) (fun hc => ?_)
    · have hf := it_f hf hc
      exact ziconst hC.1 hC.2.1 dX8_isDonorOf_36 <| hret (Int32.ofInt (bI false)) _ _ (zb01 _) (qZ hf) dX8_isDonorOf_37
    · have hf := it_t hf hc
      exact ziconst hC.1 hC.2.1 dX8_isDonorOf_32 <| lv_goto (tgt := 37) hC.1 hC.2.1 dX8_isDonorOf_33 (by decide) <| hret (Int32.ofInt (bI true)) _ _ (zb01 _) (qZ hf) dX8_isDonorOf_37
theorem DX8_splits_0 : ∀ q ∈ ([(0, .aload_n 0, 1), (1, .getfield 7, 3), (4, .sipush 413, 3), (7, .iload_n 1, 1), (8, .iconst 1, 1), (9, .invokestatic 103, 3), (12, .iadd, 1), (13, .iload_n 3, 1), (14, .iastore, 1), (15, .aload_n 0, 1), (16, .iload_n 1, 1), (17, .iconst 2, 1), (18, .iload_n 2, 1), (19, .iload 4, 2), (21, .iconst 0, 1), (22, .invokevirtual 220, 3), (25, .return_, 1)] : List (Nat × Instr × Nat)), decode cX8_splits q.1 = .ok q.2 := by decide +kernel
theorem dX8_splits_0 : decode cX8_splits 0 = .ok (.aload_n 0, 1) := DX8_splits_0 (0, .aload_n 0, 1) (List.mem_of_getElem? (i := 0) rfl)
theorem dX8_splits_1 : decode cX8_splits 1 = .ok (.getfield 7, 3) := DX8_splits_0 (1, .getfield 7, 3) (List.mem_of_getElem? (i := 1) rfl)
theorem dX8_splits_4 : decode cX8_splits 4 = .ok (.sipush 413, 3) := DX8_splits_0 (4, .sipush 413, 3) (List.mem_of_getElem? (i := 2) rfl)
theorem dX8_splits_7 : decode cX8_splits 7 = .ok (.iload_n 1, 1) := DX8_splits_0 (7, .iload_n 1, 1) (List.mem_of_getElem? (i := 3) rfl)
theorem dX8_splits_8 : decode cX8_splits 8 = .ok (.iconst 1, 1) := DX8_splits_0 (8, .iconst 1, 1) (List.mem_of_getElem? (i := 4) rfl)
theorem dX8_splits_9 : decode cX8_splits 9 = .ok (.invokestatic 103, 3) := DX8_splits_0 (9, .invokestatic 103, 3) (List.mem_of_getElem? (i := 5) rfl)
theorem dX8_splits_12 : decode cX8_splits 12 = .ok (.iadd, 1) := DX8_splits_0 (12, .iadd, 1) (List.mem_of_getElem? (i := 6) rfl)
theorem dX8_splits_13 : decode cX8_splits 13 = .ok (.iload_n 3, 1) := DX8_splits_0 (13, .iload_n 3, 1) (List.mem_of_getElem? (i := 7) rfl)
theorem dX8_splits_14 : decode cX8_splits 14 = .ok (.iastore, 1) := DX8_splits_0 (14, .iastore, 1) (List.mem_of_getElem? (i := 8) rfl)
theorem dX8_splits_15 : decode cX8_splits 15 = .ok (.aload_n 0, 1) := DX8_splits_0 (15, .aload_n 0, 1) (List.mem_of_getElem? (i := 9) rfl)
theorem dX8_splits_16 : decode cX8_splits 16 = .ok (.iload_n 1, 1) := DX8_splits_0 (16, .iload_n 1, 1) (List.mem_of_getElem? (i := 10) rfl)
theorem dX8_splits_17 : decode cX8_splits 17 = .ok (.iconst 2, 1) := DX8_splits_0 (17, .iconst 2, 1) (List.mem_of_getElem? (i := 11) rfl)
theorem dX8_splits_18 : decode cX8_splits 18 = .ok (.iload_n 2, 1) := DX8_splits_0 (18, .iload_n 2, 1) (List.mem_of_getElem? (i := 12) rfl)
theorem dX8_splits_19 : decode cX8_splits 19 = .ok (.iload 4, 2) := DX8_splits_0 (19, .iload 4, 2) (List.mem_of_getElem? (i := 13) rfl)
theorem dX8_splits_21 : decode cX8_splits 21 = .ok (.iconst 0, 1) := DX8_splits_0 (21, .iconst 0, 1) (List.mem_of_getElem? (i := 14) rfl)
theorem dX8_splits_22 : decode cX8_splits 22 = .ok (.invokevirtual 220, 3) := DX8_splits_0 (22, .invokevirtual 220, 3) (List.mem_of_getElem? (i := 15) rfl)
theorem dX8_splits_25 : decode cX8_splits 25 = .ok (.return_, 1) := DX8_splits_0 (25, .return_, 1) (List.mem_of_getElem? (i := 16) rfl)
abbrev rmX8_splits : Room := { frames := 2, cells := 0, slots := 0, locals := 50 }
set_option maxHeartbeats 400000 in
set_option maxRecDepth 100000 in
theorem met_X8_splits (l : Launch) (D : va_G) (kA : Nat → ClassId) (a : Nat → Nat) (n : Nat) (V0 : Sz) (x1 : Int) (x2 : Int) (x3 : Int) (x4 : Int) (hDt : ∀ w : Sz, va_D (fun _ => True) (cs_X8 kA a w)) {Vr : Sz} (hf : f_X8_splits n V0 x1 x2 x3 x4 = some Vr) : MZ l yX8_splits cX8_splits 5 none rmX8_splits D kA [.ref (a 0), vI x1, vI x2, vI x3, vI x4] (cs_X8 kA a V0) (cs_X8 kA a Vr) (none) := by
  refine zZV (own := RX8) rfl rfl (Nat.le_of_ble_eq_true rfl) ?_
  intro p e s m args below meth c ls Q hC hK hP hl hret
  have hl : lv_has ls 5 [(0, .ref (a 0)), (1, vI x1), (2, vI x2), (3, vI x3), (4, vI x4)] := hl
  have hS : va_S (zF (cs_X8 kA a V0)) s.heap s.heap [] := va_S.rf
  have hD := zDself (C := fun w : Sz => (cs_X8 kA a w)) hDt V0 (fun _ => rfl)
  try dsimp only at hD
  generalize hAe : zF (cs_X8 kA a V0) = A0 at hS hD hret
  unfold f_X8_splits at hf
  refine lv_aload_n hC.1 hC.2.1 dX8_splits_0 rfl (lv_at hl 0 rfl) <| gfX8_7 hC hK hP (q0 := 0) rfl rfl dX8_splits_1 <| zsipush hC.1 hC.2.1 dX8_splits_4 (by decide) <| ziload_n hC.1 hC.2.1 dX8_splits_7 rfl (lv_at hl 1 rfl) <| ziconst hC.1 hC.2.1 dX8_splits_8 <| ?_
  obtain ⟨r_1, hu, hf⟩ := bd_some hf
  have hPc : va_P D vwCl ([] : va_W) _ := hP.sub [] rfl
  refine zcSP (As := [vI x1, vI 1]) (rest := [vI 413, .ref (a 1)]) hC hK (met_X8_partOf l D kA x1 1 hu) zwX8_103 hPc rfl hl.1 rfl (Nat.le_of_ble_eq_true rfl) ⟨Nat.le_of_ble_eq_true rfl, Nat.le_of_ble_eq_true rfl⟩ ⟨rfl, rfl⟩ ⟨Nat.le_refl _, Nat.le_refl _⟩ dX8_splits_9 <| ziadd hC.1 hC.2.1 dX8_splits_12 <| ziload_n hC.1 hC.2.1 dX8_splits_13 rfl (lv_at hl 3 rfl) <| ?_
  obtain ⟨hz_2, hf⟩ := ck_some hf
  refine jas hC hK hP (hD V0) hS (q0 := 1) rfl (Nat.le_of_ble_eq_true rfl) hz_2 rfl dX8_splits_14 (fun H locs hP hS => ?_)
  obtain ⟨V_3, eV_3⟩ : ∃ y, y = uz V0 0 (413 + r_1).toNat x3 := ⟨_, rfl⟩
  have hf := nm_at hf eV_3
  have hP : va_P D vwCl (cs_X8 kA a V_3) H := by rw [eV_3]; exact hP
  refine lv_aload_n hC.1 hC.2.1 dX8_splits_15 rfl (lv_at hl 0 rfl) <| ziload_n hC.1 hC.2.1 dX8_splits_16 rfl (lv_at hl 1 rfl) <| ziconst hC.1 hC.2.1 dX8_splits_17 <| ziload_n hC.1 hC.2.1 dX8_splits_18 rfl (lv_at hl 2 rfl) <| ziload hC.1 hC.2.1 dX8_splits_19 (lv_at hl 4 rfl) <| ziconst hC.1 hC.2.1 dX8_splits_21 <| ?_
  obtain ⟨V_4, hu, hf⟩ := bd_some hf
  have hDc := hDt
  refine zcVZ (As := [vI x1, vI 2, vI x2, vI x4, vI 0]) (rest := []) hC hK (met_X8_shares l D kA a n V_3 x1 2 x2 x4 0 hDc hu) zwX8_220 hS (zFsub (hD V_3) [0, 1, 2, 3, 4, 5, 6, 7, 8, 9, 10, 11, 12, 13, 14, 15, 16] rfl) hP (q0 := 0) rfl rfl rfl rfl hl.1 rfl (Nat.le_of_ble_eq_true rfl) ⟨Nat.le_of_ble_eq_true rfl, Nat.le_of_ble_eq_true rfl⟩ ⟨rfl, rfl⟩ ⟨Nat.le_refl _, Nat.le_refl _⟩ dX8_splits_22 (fun H locs hP1 hk1 hS => ?_)
  have hP : va_P D vwCl (cs_X8 kA a V_4) H := hP1
  have hf := Option.some.inj hf
  exact hret _ _ _ _ rfl (by rw [← hf]; exact hP) hS dX8_splits_25
