def jX8_split_75 (n : Nat) (x1 : Int) (x2 : Int) (x3 : Int) (x4 : Int) (V : Sz) (z0 : Int) : Option (Int × Sz) := bd (f_X8_fails V z0 3) fun ((r_9, V_10) : Bool × Sz) => if r_9 = false then (bd (f_X8_remembers n V_10) fun (V_11 : Sz) => bd (f_X8_splits n V_11 x1 x2 x3 x4) fun (V_12 : Sz) => bd (f_X8_partOf x1 1) fun (r_13 : Int) => ck (inZ (593 + r_13) 1233) <| some (V_12 0 (593 + r_13).toNat, V_12)) else (some (0, V_10))
def jX8_split_54 (n : Nat) (x1 : Int) (x2 : Int) (x3 : Int) (x4 : Int) (V : Sz) (z0 : Int) : Option (Int × Sz) := bd (f_X8_fails V z0 2) fun ((r_6, V_7) : Bool × Sz) => if r_6 = true then (some (0, V_7)) else (bd (f_X8_canSplit V_7 x1) fun (r_8 : Bool) => if r_8 = true then (jX8_split_75 n x1 x2 x3 x4 V_7 0) else (jX8_split_75 n x1 x2 x3 x4 V_7 1))
def jX8_split_49 (n : Nat) (x1 : Int) (x2 : Int) (x3 : Int) (x4 : Int) (V : Sz) : Option (Int × Sz) := jX8_split_54 n x1 x2 x3 x4 V 1
def f_X8_split (n : Nat) (V0 : Sz) (x1 : Int) (x2 : Int) (x3 : Int) (x4 : Int) : Option (Int × Sz) := bd (f_X8_noGift V0 x1) fun ((r_1, V_2) : Bool × Sz) => if r_1 = true then (some (0, V_2)) else (bd (f_X8_noDonor V_2 x3) fun ((r_3, V_4) : Bool × Sz) => if r_3 = false then (bd (f_X8_inRange x2 1 9) fun (r_5 : Bool) => if r_5 = false then (jX8_split_49 n x1 x2 x3 x4 V_4) else (bd (f_X8_inRange x4 1 9) fun (r_15 : Bool) => if r_15 = false then (jX8_split_49 n x1 x2 x3 x4 V_4) else (bd (f_X8_isDonorOf V_4 x1 x3) fun (r_16 : Bool) => if r_16 = false then (jX8_split_54 n x1 x2 x3 x4 V_4 0) else (jX8_split_49 n x1 x2 x3 x4 V_4)))) else (some (0, V_4)))
def bX8_refund_75 (n : Nat) (x1 : Int) (x2 : Int) (rec75 : Int × Int × Sz → Option (Int × Sz)) : Int × Int × Sz → Option (Int × Sz) := fun (y3, y4, V) => ck (rng y4) <| if y4 < 0 then (ck (inZ (353 + x1) 1233) <| nm (uz V 0 (353 + x1).toNat ((V 0 (353 + x1).toNat) + x2)) fun (V_15 : Sz) => bd (f_X8_leftOfGift V_15 x1) fun (r_16 : Int) => some (r_16, V_15)) else (bd (f_X8_partOf x1 y4) fun (r_17 : Int) => bd (f_X8_leftOf V r_17) fun (r_18 : Int) => ck (rng y3 ∧ rng r_18) <| nm (min y3 r_18) fun (x_20 : Int) => ck (inZ (773 + r_17) 1233) <| nm (uz V 0 (773 + r_17).toNat ((V 0 (773 + r_17).toNat) + x_20)) fun (V_22 : Sz) => nm (y3 - x_20) fun (x_23 : Int) => nm (y4 + (-1)) fun (x_24 : Int) => rec75 (x_23, x_24, V_22))
theorem bX8_refund_75_e (n : Nat) (x1 : Int) (x2 : Int) (rec75 : Int × Int × Sz → Option (Int × Sz)) (y3 : Int) (y4 : Int) (V : Sz) : bX8_refund_75 n x1 x2 rec75 (y3, y4, V) = (ck (rng y4) <| if y4 < 0 then (ck (inZ (353 + x1) 1233) <| nm (uz V 0 (353 + x1).toNat ((V 0 (353 + x1).toNat) + x2)) fun (V_15 : Sz) => bd (f_X8_leftOfGift V_15 x1) fun (r_16 : Int) => some (r_16, V_15)) else (bd (f_X8_partOf x1 y4) fun (r_17 : Int) => bd (f_X8_leftOf V r_17) fun (r_18 : Int) => ck (rng y3 ∧ rng r_18) <| nm (min y3 r_18) fun (x_20 : Int) => ck (inZ (773 + r_17) 1233) <| nm (uz V 0 (773 + r_17).toNat ((V 0 (773 + r_17).toNat) + x_20)) fun (V_22 : Sz) => nm (y3 - x_20) fun (x_23 : Int) => nm (y4 + (-1)) fun (x_24 : Int) => rec75 (x_23, x_24, V_22))) := rfl
def jX8_refund_46 (n : Nat) (x1 : Int) (x2 : Int) (V : Sz) (z0 : Int) : Option (Int × Sz) := bd (f_X8_fails V z0 3) fun ((r_8, V_9) : Bool × Sz) => if r_8 = false then (bd (f_X8_remembers n V_9) fun (V_10 : Sz) => ck (inZ (293 + x1) 1233) <| nm ((V_10 0 (293 + x1).toNat) - 1) fun (x_12 : Int) => lpF (bX8_refund_75 n x1 x2) n (x2, x_12, V_10)) else (some (0, V_9))
def jX8_refund_24 (n : Nat) (x1 : Int) (x2 : Int) (V : Sz) (z0 : Int) : Option (Int × Sz) := bd (f_X8_fails V z0 2) fun ((r_4, V_5) : Bool × Sz) => if r_4 = true then (some (0, V_5)) else (bd (f_X8_leftOfGift V_5 x1) fun (r_6 : Int) => ck (rng r_6 ∧ rng x2) <| if x2 ≤ r_6 then (jX8_refund_46 n x1 x2 V_5 0) else (jX8_refund_46 n x1 x2 V_5 1))
def f_X8_refund (n : Nat) (V0 : Sz) (x1 : Int) (x2 : Int) : Option (Int × Sz) := bd (f_X8_noGift V0 x1) fun ((r_1, V_2) : Bool × Sz) => if r_1 = true then (some (0, V_2)) else (bd (f_X8_inRange x2 1 999999) fun (r_3 : Bool) => if r_3 = true then (jX8_refund_24 n x1 x2 V_2 0) else (jX8_refund_24 n x1 x2 V_2 1))
def jX8_setTaxLimit_24 (n : Nat) (x1 : Int) (x2 : Int) (V : Sz) (z0 : Int) : Option (Int × Sz) := bd (f_X8_fails V z0 2) fun ((r_4, V_5) : Bool × Sz) => if r_4 = false then (bd (f_X8_remembers n V_5) fun (V_6 : Sz) => ck (inZ (10 + x1) 1233) <| nm (V_6 0 (10 + x1).toNat) fun (x_8 : Int) => nm (uz V_6 0 (10 + x1).toNat x2) fun (V_9 : Sz) => some (x_8, V_9)) else (some (0, V_5))
def f_X8_setTaxLimit (n : Nat) (V0 : Sz) (x1 : Int) (x2 : Int) : Option (Int × Sz) := bd (f_X8_noDonor V0 x1) fun ((r_1, V_2) : Bool × Sz) => if r_1 = true then (some (0, V_2)) else (bd (f_X8_inRange x2 0 999999) fun (r_3 : Bool) => if r_3 = true then (jX8_setTaxLimit_24 n x1 x2 V_2 0) else (jX8_setTaxLimit_24 n x1 x2 V_2 1))
def jX8_setRate_21 (n : Nat) (x1 : Int) (V : Sz) (z0 : Int) : Option (Int × Sz) := bd (f_X8_fails V z0 1) fun ((r_3, V_4) : Bool × Sz) => if r_3 = false then (bd (f_X8_remembers n V_4) fun (V_5 : Sz) => nm (V_5 0 5) fun (x_6 : Int) => nm (uz V_5 0 5 x1) fun (V_7 : Sz) => some (x_6, V_7)) else (some (0, V_4))
def f_X8_setRate (n : Nat) (V0 : Sz) (x1 : Int) : Option (Int × Sz) := nm (us V0 9 0) fun (V_1 : Sz) => bd (f_X8_inRange x1 0 100) fun (r_2 : Bool) => if r_2 = true then (jX8_setRate_21 n x1 V_1 0) else (jX8_setRate_21 n x1 V_1 1)
def f_X8_claimOf (V : Sz) (x1 : Int) (x2 : Int) : Option (Int) := bd (f_X8_isPart V x1) fun (r_1 : Bool) => if r_1 = false then (some 0) else (bd (f_X8_dayOf V x1) fun (r_2 : Int) => ck (rng r_2 ∧ rng x2) <| if r_2 ≤ x2 then (ck (inZ x1 180) <| ck (inZ (953 + x1) 1233) <| nm ((V 12 x1.toNat) - (V 0 (953 + x1).toNat)) fun (x_6 : Int) => ck (rng x_6) <| if x_6 ≤ 0 then (some x_6) else (bd (f_X8_dayOf V x1) fun (r_8 : Int) => ck (rng (x2 - r_8) ∧ rng (V 0 6)) <| if x2 - r_8 ≤ V 0 6 then (some x_6) else (some 0))) else (some 0))
def jX8_claim_219 (n : Nat) (x1 : Int) (rec130 : Int × Int × Sz → Option (Int × Sz)) (y3 : Int) (y4 : Int) (V : Sz) : Option (Int × Sz) := nm (y4 + 1) fun (x_29 : Int) => rec130 (y3, x_29, V)
def jX8_claim_195 (n : Nat) (x1 : Int) (rec130 : Int × Int × Sz → Option (Int × Sz)) (y3 : Int) (y4 : Int) (V : Sz) (z0 : Int) (z1 : Int) : Option (Int × Sz) := ck (inZ (z1 + z0) 1233) <| nm (uz V 0 (z1 + z0).toNat ((V 0 (z1 + z0).toNat) + 1)) fun (V_25 : Sz) => ck (inZ y4 180) <| ck (inZ (953 + y4) 1233) <| nm (uz V_25 0 (953 + y4).toNat (V_25 12 y4.toNat)) fun (V_28 : Sz) => jX8_claim_219 n x1 rec130 y3 y4 V_28
def jX8_claim_170 (n : Nat) (x1 : Int) (rec130 : Int × Int × Sz → Option (Int × Sz)) (y3 : Int) (y4 : Int) (y5 : Int) (V : Sz) (z0 : Int) (z1 : Int) : Option (Int × Sz) := ck (inZ (z1 + z0) 1233) <| ck (rng y5) <| nm (uz V 0 (z1 + z0).toNat ((V 0 (z1 + z0).toNat) + (abZ y5))) fun (V_23 : Sz) => if y5 ≤ 0 then (jX8_claim_195 n x1 rec130 y3 y4 V_23 4 y3) else (jX8_claim_195 n x1 rec130 y3 y4 V_23 3 y3)
def bX8_claim_130 (n : Nat) (x1 : Int) (rec130 : Int × Int × Sz → Option (Int × Sz)) : Int × Int × Sz → Option (Int × Sz) := fun (y3, y4, V) => ck (rng y4) <| if 180 ≤ y4 then (nm (uz V 0 4 ((V 0 4) + 1)) fun (V_16 : Sz) => ck (inZ (y3 + 1) 1233) <| ck (inZ (y3 + 2) 1233) <| some ((V_16 0 (y3 + 1).toNat) - (V_16 0 (y3 + 2).toNat), V_16)) else (bd (f_X8_claimOf V y4 x1) fun (r_19 : Int) => ck (rng r_19) <| if r_19 = 0 then (jX8_claim_219 n x1 rec130 y3 y4 V) else (if r_19 ≤ 0 then (jX8_claim_170 n x1 rec130 y3 y4 r_19 V 2 y3) else (jX8_claim_170 n x1 rec130 y3 y4 r_19 V 1 y3)))
theorem bX8_claim_130_e (n : Nat) (x1 : Int) (rec130 : Int × Int × Sz → Option (Int × Sz)) (y3 : Int) (y4 : Int) (V : Sz) : bX8_claim_130 n x1 rec130 (y3, y4, V) = (ck (rng y4) <| if 180 ≤ y4 then (nm (uz V 0 4 ((V 0 4) + 1)) fun (V_16 : Sz) => ck (inZ (y3 + 1) 1233) <| ck (inZ (y3 + 2) 1233) <| some ((V_16 0 (y3 + 1).toNat) - (V_16 0 (y3 + 2).toNat), V_16)) else (bd (f_X8_claimOf V y4 x1) fun (r_19 : Int) => ck (rng r_19) <| if r_19 = 0 then (jX8_claim_219 n x1 rec130 y3 y4 V) else (if r_19 ≤ 0 then (jX8_claim_170 n x1 rec130 y3 y4 r_19 V 2 y3) else (jX8_claim_170 n x1 rec130 y3 y4 r_19 V 1 y3)))) := rfl
def bX8_claim_98 (n : Nat) (x1 : Int) (rec98 : Int × Int × Sz → Option (Int × Sz)) : Int × Int × Sz → Option (Int × Sz) := fun (y3, y4, V) => ck (rng y4) <| if 5 ≤ y4 then (ck (inZ y3 1233) <| nm (uz V 0 y3.toNat x1) fun (V_14 : Sz) => lpF (bX8_claim_130 n x1) n (y3, 0, V_14)) else (ck (inZ (y3 + y4) 1233) <| nm (uz V 0 (y3 + y4).toNat 0) fun (V_31 : Sz) => nm (y4 + 1) fun (x_32 : Int) => rec98 (y3, x_32, V_31))
theorem bX8_claim_98_e (n : Nat) (x1 : Int) (rec98 : Int × Int × Sz → Option (Int × Sz)) (y3 : Int) (y4 : Int) (V : Sz) : bX8_claim_98 n x1 rec98 (y3, y4, V) = (ck (rng y4) <| if 5 ≤ y4 then (ck (inZ y3 1233) <| nm (uz V 0 y3.toNat x1) fun (V_14 : Sz) => lpF (bX8_claim_130 n x1) n (y3, 0, V_14)) else (ck (inZ (y3 + y4) 1233) <| nm (uz V 0 (y3 + y4).toNat 0) fun (V_31 : Sz) => nm (y4 + 1) fun (x_32 : Int) => rec98 (y3, x_32, V_31))) := rfl
def jX8_claim_70 (n : Nat) (x1 : Int) (y2 : Int) (V : Sz) (z0 : Int) : Option (Int × Sz) := bd (f_X8_fails V z0 2) fun ((r_7, V_8) : Bool × Sz) => if r_7 = false then (bd (f_X8_remembers n V_8) fun (V_9 : Sz) => bd (f_X8_laysAid n V_9) fun (V_10 : Sz) => nm (1133 + (5 * y2)) fun (x_11 : Int) => lpF (bX8_claim_98 n x1) n (x_11, 0, V_10)) else (some (0, V_8))
def jX8_claim_65 (n : Nat) (x1 : Int) (y2 : Int) (V : Sz) : Option (Int × Sz) := jX8_claim_70 n x1 y2 V 1
def jX8_claim_69 (n : Nat) (x1 : Int) (y2 : Int) (V : Sz) : Option (Int × Sz) := jX8_claim_70 n x1 y2 V 0
def jX8_claim_29 (n : Nat) (x1 : Int) (y2 : Int) (V : Sz) (z0 : Int) : Option (Int × Sz) := bd (f_X8_fails V z0 1) fun ((r_4, V_5) : Bool × Sz) => if r_4 = true then (some (0, V_5)) else (ck (rng y2) <| if y2 = 20 then (jX8_claim_65 n x1 y2 V_5) else (if y2 ≤ 0 then (jX8_claim_69 n x1 y2 V_5) else (ck (inZ (1133 + (5 * (y2 - 1))) 1233) <| ck (rng (V_5 0 (1133 + (5 * (y2 - 1))).toNat) ∧ rng x1) <| if V_5 0 (1133 + (5 * (y2 - 1))).toNat ≤ x1 then (jX8_claim_69 n x1 y2 V_5) else (jX8_claim_65 n x1 y2 V_5))))
def f_X8_claim (n : Nat) (V0 : Sz) (x1 : Int) : Option (Int × Sz) := nm (us V0 9 0) fun (V_1 : Sz) => nm (V_1 0 4) fun (x_2 : Int) => bd (f_X8_inRange x1 0 9999) fun (r_3 : Bool) => if r_3 = true then (jX8_claim_29 n x1 x_2 V_1 0) else (jX8_claim_29 n x1 x_2 V_1 1)
def jX8_claimed_49 (x1 : Int) (x2 : Int) (V : Sz) (z0 : Int) : Option (Int × Sz) := bd (f_X8_fails V z0 2) fun ((r_6, V_7) : Bool × Sz) => if r_6 = false then (ck (inZ ((1133 + (5 * x1)) + x2) 1233) <| some (V_7 0 ((1133 + (5 * x1)) + x2).toNat, V_7)) else (some (0, V_7))
def jX8_claimed_27 (x1 : Int) (x2 : Int) (V : Sz) (z0 : Int) : Option (Int × Sz) := bd (f_X8_fails V z0 1) fun ((r_3, V_4) : Bool × Sz) => if r_3 = true then (some (0, V_4)) else (bd (f_X8_inRange x2 0 4) fun (r_5 : Bool) => if r_5 = true then (jX8_claimed_49 x1 x2 V_4 0) else (jX8_claimed_49 x1 x2 V_4 1))
def f_X8_claimed (V0 : Sz) (x1 : Int) (x2 : Int) : Option (Int × Sz) := nm (us V0 9 0) fun (V_1 : Sz) => bd (f_X8_inRange x1 0 ((V_1 0 4) - 1)) fun (r_2 : Bool) => if r_2 = true then (jX8_claimed_27 x1 x2 V_1 0) else (jX8_claimed_27 x1 x2 V_1 1)
def jX8_claimable_78 (n : Nat) (x1 : Int) (x2 : Int) (rec40 : Int × Int × Sz → Option (Int × Sz)) (y4 : Int) (V : Sz) (z0 : Int) (z1 : Int) : Option (Int × Sz) := nm (z1 + z0) fun (x_10 : Int) => nm (y4 + 1) fun (x_11 : Int) => rec40 (x_10, x_11, V)
def bX8_claimable_40 (n : Nat) (x1 : Int) (x2 : Int) (rec40 : Int × Int × Sz → Option (Int × Sz)) : Int × Int × Sz → Option (Int × Sz) := fun (y3, y4, V) => ck (rng y4) <| if 180 ≤ y4 then (some (y3, V)) else (bd (f_X8_claimOf V y4 x1) fun (r_7 : Int) => ck (rng x2) <| if x2 = 0 then (ck (rng r_7) <| jX8_claimable_78 n x1 x2 rec40 y4 V (max 0 r_7) y3) else (ck (rng (-r_7)) <| jX8_claimable_78 n x1 x2 rec40 y4 V (max 0 (-r_7)) y3))
theorem bX8_claimable_40_e (n : Nat) (x1 : Int) (x2 : Int) (rec40 : Int × Int × Sz → Option (Int × Sz)) (y3 : Int) (y4 : Int) (V : Sz) : bX8_claimable_40 n x1 x2 rec40 (y3, y4, V) = (ck (rng y4) <| if 180 ≤ y4 then (some (y3, V)) else (bd (f_X8_claimOf V y4 x1) fun (r_7 : Int) => ck (rng x2) <| if x2 = 0 then (ck (rng r_7) <| jX8_claimable_78 n x1 x2 rec40 y4 V (max 0 r_7) y3) else (ck (rng (-r_7)) <| jX8_claimable_78 n x1 x2 rec40 y4 V (max 0 (-r_7)) y3))) := rfl
def jX8_claimable_22 (n : Nat) (x1 : Int) (x2 : Int) (V : Sz) (z0 : Int) : Option (Int × Sz) := bd (f_X8_fails V z0 1) fun ((r_3, V_4) : Bool × Sz) => if r_3 = false then (bd (f_X8_laysAid n V_4) fun (V_5 : Sz) => lpF (bX8_claimable_40 n x1 x2) n (0, 0, V_5)) else (some (0, V_4))
def f_X8_claimable (n : Nat) (V0 : Sz) (x1 : Int) (x2 : Int) : Option (Int × Sz) := nm (us V0 9 0) fun (V_1 : Sz) => bd (f_X8_inRange x1 0 9999) fun (r_2 : Bool) => if r_2 = true then (jX8_claimable_22 n x1 x2 V_1 0) else (jX8_claimable_22 n x1 x2 V_1 1)
def f_X8_over (V : Sz) (x1 : Int) : Option (Int) := ck (inZ (953 + x1) 1233) <| ck (inZ x1 180) <| ck (rng ((V 0 (953 + x1).toNat) - (V 12 x1.toNat))) <| some (max 0 ((V 0 (953 + x1).toNat) - (V 12 x1.toNat)))
def f_X8_under (V : Sz) (x1 : Int) : Option (Int) := ck (inZ x1 180) <| ck (inZ (953 + x1) 1233) <| ck (rng ((V 12 x1.toNat) - (V 0 (953 + x1).toNat))) <| some (max 0 ((V 12 x1.toNat) - (V 0 (953 + x1).toNat)))
def jX8_overclaimed_38 (n : Nat) (rec13 : Int × Int × Sz → Option (Int × Sz)) (y2 : Int) (V : Sz) (z0 : Int) (z1 : Int) : Option (Int × Sz) := nm (z1 + z0) fun (x_5 : Int) => nm (y2 + 1) fun (x_6 : Int) => rec13 (x_5, x_6, V)
def bX8_overclaimed_13 (n : Nat) (rec13 : Int × Int × Sz → Option (Int × Sz)) : Int × Int × Sz → Option (Int × Sz) := fun (y1, y2, V) => ck (rng y2) <| if 180 ≤ y2 then (some (y1, V)) else (bd (f_X8_isPart V y2) fun (r_4 : Bool) => if r_4 = false then (jX8_overclaimed_38 n rec13 y2 V 0 y1) else (bd (f_X8_over V y2) fun (r_7 : Int) => jX8_overclaimed_38 n rec13 y2 V r_7 y1))
theorem bX8_overclaimed_13_e (n : Nat) (rec13 : Int × Int × Sz → Option (Int × Sz)) (y1 : Int) (y2 : Int) (V : Sz) : bX8_overclaimed_13 n rec13 (y1, y2, V) = (ck (rng y2) <| if 180 ≤ y2 then (some (y1, V)) else (bd (f_X8_isPart V y2) fun (r_4 : Bool) => if r_4 = false then (jX8_overclaimed_38 n rec13 y2 V 0 y1) else (bd (f_X8_over V y2) fun (r_7 : Int) => jX8_overclaimed_38 n rec13 y2 V r_7 y1))) := rfl
def f_X8_overclaimed (n : Nat) (V0 : Sz) : Option (Int × Sz) := nm (us V0 9 0) fun (V_1 : Sz) => bd (f_X8_laysAid n V_1) fun (V_2 : Sz) => lpF (bX8_overclaimed_13 n) n (0, 0, V_2)
def f_X8_totalAid (n : Nat) (V0 : Sz) : Option (Int × Sz) := nm (us V0 9 0) fun (V_1 : Sz) => bd (f_X8_allAid n V_1) fun ((r_2, V_3) : Int × Sz) => some (r_2, V_3)
def jX8_lost_78 (n : Nat) (x1 : Int) (rec37 : Int × Int × Sz → Option (Int × Sz)) (y3 : Int) (V : Sz) (z0 : Int) (z1 : Int) : Option (Int × Sz) := nm (z1 + z0) fun (x_8 : Int) => nm (y3 + 1) fun (x_9 : Int) => rec37 (x_8, x_9, V)
def jX8_lost_77 (n : Nat) (x1 : Int) (rec37 : Int × Int × Sz → Option (Int × Sz)) (y3 : Int) (V : Sz) (z0 : Int) : Option (Int × Sz) := jX8_lost_78 n x1 rec37 y3 V 0 z0
def bX8_lost_37 (n : Nat) (x1 : Int) (rec37 : Int × Int × Sz → Option (Int × Sz)) : Int × Int × Sz → Option (Int × Sz) := fun (y2, y3, V) => ck (rng y3) <| if 180 ≤ y3 then (some (y2, V)) else (bd (f_X8_isPart V y3) fun (r_7 : Bool) => if r_7 = false then (jX8_lost_77 n x1 rec37 y3 V y2) else (bd (f_X8_reasonOf n V y3) fun (r_10 : Int) => ck (rng r_10 ∧ rng x1) <| if r_10 = x1 then (bd (f_X8_full V y3) fun (r_12 : Int) => ck (inZ y3 180) <| jX8_lost_78 n x1 rec37 y3 V (r_12 - (V 12 y3.toNat)) y2) else (jX8_lost_77 n x1 rec37 y3 V y2)))
theorem bX8_lost_37_e (n : Nat) (x1 : Int) (rec37 : Int × Int × Sz → Option (Int × Sz)) (y2 : Int) (y3 : Int) (V : Sz) : bX8_lost_37 n x1 rec37 (y2, y3, V) = (ck (rng y3) <| if 180 ≤ y3 then (some (y2, V)) else (bd (f_X8_isPart V y3) fun (r_7 : Bool) => if r_7 = false then (jX8_lost_77 n x1 rec37 y3 V y2) else (bd (f_X8_reasonOf n V y3) fun (r_10 : Int) => ck (rng r_10 ∧ rng x1) <| if r_10 = x1 then (bd (f_X8_full V y3) fun (r_12 : Int) => ck (inZ y3 180) <| jX8_lost_78 n x1 rec37 y3 V (r_12 - (V 12 y3.toNat)) y2) else (jX8_lost_77 n x1 rec37 y3 V y2)))) := rfl
def jX8_lost_20 (n : Nat) (x1 : Int) (V : Sz) (z0 : Int) : Option (Int × Sz) := bd (f_X8_fails V z0 1) fun ((r_3, V_4) : Bool × Sz) => if r_3 = false then (bd (f_X8_laysAid n V_4) fun (V_5 : Sz) => lpF (bX8_lost_37 n x1) n (0, 0, V_5)) else (some (0, V_4))
def f_X8_lost (n : Nat) (V0 : Sz) (x1 : Int) : Option (Int × Sz) := nm (us V0 9 0) fun (V_1 : Sz) => bd (f_X8_inRange x1 1 5) fun (r_2 : Bool) => if r_2 = true then (jX8_lost_20 n x1 V_1 0) else (jX8_lost_20 n x1 V_1 1)
def jX8_mostUrgent_84 (n : Nat) (rec15 : Int × Int × Int × Sz → Option (Int × Sz)) (y1 : Int) (y2 : Int) (y3 : Int) (V : Sz) : Option (Int × Sz) := nm (y3 + 1) fun (x_5 : Int) => rec15 (y1, y2, x_5, V)
def jX8_mostUrgent_76 (n : Nat) (rec15 : Int × Int × Int × Sz → Option (Int × Sz)) (y3 : Int) (y4 : Int) (V : Sz) : Option (Int × Sz) := bd (f_X8_giftOf y3) fun (r_12 : Int) => jX8_mostUrgent_84 n rec15 r_12 y4 y3 V
def bX8_mostUrgent_15 (n : Nat) (rec15 : Int × Int × Int × Sz → Option (Int × Sz)) : Int × Int × Int × Sz → Option (Int × Sz) := fun (y1, y2, y3, V) => ck (rng y3) <| if 180 ≤ y3 then (some (y1, V)) else (bd (f_X8_isPart V y3) fun (r_4 : Bool) => if r_4 = false then (jX8_mostUrgent_84 n rec15 y1 y2 y3 V) else (bd (f_X8_under V y3) fun (r_6 : Int) => ck (rng r_6) <| if r_6 = 0 then (jX8_mostUrgent_84 n rec15 y1 y2 y3 V) else (bd (f_X8_dayOf V y3) fun (r_8 : Int) => ck (rng (r_8 + (V 0 6))) <| nm (min 9999 (r_8 + (V 0 6))) fun (x_10 : Int) => ck (rng y1) <| if y1 = (-1) then (jX8_mostUrgent_76 n rec15 y3 x_10 V) else (ck (rng x_10 ∧ rng y2) <| if x_10 < y2 then (jX8_mostUrgent_76 n rec15 y3 x_10 V) else (jX8_mostUrgent_84 n rec15 y1 y2 y3 V)))))
theorem bX8_mostUrgent_15_e (n : Nat) (rec15 : Int × Int × Int × Sz → Option (Int × Sz)) (y1 : Int) (y2 : Int) (y3 : Int) (V : Sz) : bX8_mostUrgent_15 n rec15 (y1, y2, y3, V) = (ck (rng y3) <| if 180 ≤ y3 then (some (y1, V)) else (bd (f_X8_isPart V y3) fun (r_4 : Bool) => if r_4 = false then (jX8_mostUrgent_84 n rec15 y1 y2 y3 V) else (bd (f_X8_under V y3) fun (r_6 : Int) => ck (rng r_6) <| if r_6 = 0 then (jX8_mostUrgent_84 n rec15 y1 y2 y3 V) else (bd (f_X8_dayOf V y3) fun (r_8 : Int) => ck (rng (r_8 + (V 0 6))) <| nm (min 9999 (r_8 + (V 0 6))) fun (x_10 : Int) => ck (rng y1) <| if y1 = (-1) then (jX8_mostUrgent_76 n rec15 y3 x_10 V) else (ck (rng x_10 ∧ rng y2) <| if x_10 < y2 then (jX8_mostUrgent_76 n rec15 y3 x_10 V) else (jX8_mostUrgent_84 n rec15 y1 y2 y3 V)))))) := rfl
def f_X8_mostUrgent (n : Nat) (V0 : Sz) : Option (Int × Sz) := nm (us V0 9 0) fun (V_1 : Sz) => bd (f_X8_laysAid n V_1) fun (V_2 : Sz) => lpF (bX8_mostUrgent_15 n) n ((-1), 0, 0, V_2)
def jX8_limitedYears_47 (n : Nat) (x1 : Int) (rec18 : Int × Int × Sz → Option (Int × Sz)) (y3 : Int) (V : Sz) (z0 : Int) (z1 : Int) : Option (Int × Sz) := nm (z1 + z0) fun (x_8 : Int) => nm (y3 + 1) fun (x_9 : Int) => rec18 (x_8, x_9, V)
def bX8_limitedYears_18 (n : Nat) (x1 : Int) (rec18 : Int × Int × Sz → Option (Int × Sz)) : Int × Int × Sz → Option (Int × Sz) := fun (y2, y3, V) => ck (rng y3) <| if 28 ≤ y3 then (some (y2, V)) else (bd (f_X8_sumOf n V x1 2 y3) fun (r_5 : Int) => bd (f_X8_sumOf n V x1 1 y3) fun (r_6 : Int) => ck (rng r_5 ∧ rng r_6) <| if r_6 ≤ r_5 then (jX8_limitedYears_47 n x1 rec18 y3 V 0 y2) else (jX8_limitedYears_47 n x1 rec18 y3 V 1 y2))
theorem bX8_limitedYears_18_e (n : Nat) (x1 : Int) (rec18 : Int × Int × Sz → Option (Int × Sz)) (y2 : Int) (y3 : Int) (V : Sz) : bX8_limitedYears_18 n x1 rec18 (y2, y3, V) = (ck (rng y3) <| if 28 ≤ y3 then (some (y2, V)) else (bd (f_X8_sumOf n V x1 2 y3) fun (r_5 : Int) => bd (f_X8_sumOf n V x1 1 y3) fun (r_6 : Int) => ck (rng r_5 ∧ rng r_6) <| if r_6 ≤ r_5 then (jX8_limitedYears_47 n x1 rec18 y3 V 0 y2) else (jX8_limitedYears_47 n x1 rec18 y3 V 1 y2))) := rfl
def f_X8_limitedYears (n : Nat) (V0 : Sz) (x1 : Int) : Option (Int × Sz) := bd (f_X8_noDonor V0 x1) fun ((r_1, V_2) : Bool × Sz) => if r_1 = false then (bd (f_X8_laysAid n V_2) fun (V_3 : Sz) => lpF (bX8_limitedYears_18 n x1) n (0, 0, V_3)) else (some (0, V_2))
def jX8_expiring_101 (n : Nat) (x1 : Int) (x2 : Int) (rec51 : Int × Int × Sz → Option (Int × Sz)) (y4 : Int) (V : Sz) (z0 : Int) (z1 : Int) : Option (Int × Sz) := nm (z1 + z0) fun (x_8 : Int) => nm (y4 + 1) fun (x_9 : Int) => rec51 (x_8, x_9, V)
def jX8_expiring_100 (n : Nat) (x1 : Int) (x2 : Int) (rec51 : Int × Int × Sz → Option (Int × Sz)) (y4 : Int) (V : Sz) (z0 : Int) : Option (Int × Sz) := jX8_expiring_101 n x1 x2 rec51 y4 V 0 z0
def bX8_expiring_51 (n : Nat) (x1 : Int) (x2 : Int) (rec51 : Int × Int × Sz → Option (Int × Sz)) : Int × Int × Sz → Option (Int × Sz) := fun (y3, y4, V) => ck (rng y4) <| if 180 ≤ y4 then (some (y3, V)) else (bd (f_X8_isPart V y4) fun (r_7 : Bool) => if r_7 = false then (jX8_expiring_100 n x1 x2 rec51 y4 V y3) else (bd (f_X8_dayOf V y4) fun (r_10 : Int) => bd (f_X8_inRange (r_10 + (V 0 6)) x1 x2) fun (r_11 : Bool) => if r_11 = false then (jX8_expiring_100 n x1 x2 rec51 y4 V y3) else (bd (f_X8_under V y4) fun (r_12 : Int) => jX8_expiring_101 n x1 x2 rec51 y4 V r_12 y3)))
theorem bX8_expiring_51_e (n : Nat) (x1 : Int) (x2 : Int) (rec51 : Int × Int × Sz → Option (Int × Sz)) (y3 : Int) (y4 : Int) (V : Sz) : bX8_expiring_51 n x1 x2 rec51 (y3, y4, V) = (ck (rng y4) <| if 180 ≤ y4 then (some (y3, V)) else (bd (f_X8_isPart V y4) fun (r_7 : Bool) => if r_7 = false then (jX8_expiring_100 n x1 x2 rec51 y4 V y3) else (bd (f_X8_dayOf V y4) fun (r_10 : Int) => bd (f_X8_inRange (r_10 + (V 0 6)) x1 x2) fun (r_11 : Bool) => if r_11 = false then (jX8_expiring_100 n x1 x2 rec51 y4 V y3) else (bd (f_X8_under V y4) fun (r_12 : Int) => jX8_expiring_101 n x1 x2 rec51 y4 V r_12 y3)))) := rfl
def jX8_expiring_33 (n : Nat) (x1 : Int) (x2 : Int) (V : Sz) (z0 : Int) : Option (Int × Sz) := bd (f_X8_fails V z0 1) fun ((r_3, V_4) : Bool × Sz) => if r_3 = false then (bd (f_X8_laysAid n V_4) fun (V_5 : Sz) => lpF (bX8_expiring_51 n x1 x2) n (0, 0, V_5)) else (some (0, V_4))
def jX8_expiring_28 (n : Nat) (x1 : Int) (x2 : Int) (V : Sz) : Option (Int × Sz) := jX8_expiring_33 n x1 x2 V 1
def f_X8_expiring (n : Nat) (V0 : Sz) (x1 : Int) (x2 : Int) : Option (Int × Sz) := nm (us V0 9 0) fun (V_1 : Sz) => bd (f_X8_inRange x1 0 9999) fun (r_2 : Bool) => if r_2 = false then (jX8_expiring_28 n x1 x2 V_1) else (bd (f_X8_inRange x2 x1 9999) fun (r_13 : Bool) => if r_13 = true then (jX8_expiring_33 n x1 x2 V_1 0) else (jX8_expiring_28 n x1 x2 V_1))
def f_X8_begins (n : Nat) (V0 : Sz) : Option (Sz) := bd (f_X8_copies n 1233 1233 (V0 0) (V0 3) 0 0 1233) fun (V_1 : (Nat → Int)) => nm (uy V0 3 V_1) fun (V_2 : Sz) => some V_2
def f_X8_ends (n : Nat) (V0 : Sz) : Option (Sz) := bd (f_X8_copies n 1233 1233 (V0 3) (V0 0) 0 0 1233) fun (V_1 : (Nat → Int)) => nm (uy V0 0 V_1) fun (V_2 : Sz) => some V_2
def f_X8_useOf (n : Nat) (V0 : Sz) (x1 : Int) : Option (Int × Sz) := bd (f_X8_noDeclaration V0 x1) fun ((r_1, V_2) : Bool × Sz) => if r_1 = false then (bd (f_X8_allAid n V_2) fun ((r_3, V_4) : Int × Sz) => ck (inZ (82 + x1) 1233) <| nm (V_4 0 (82 + x1).toNat) fun (x_6 : Int) => ck (inZ (51 + x1) 1233) <| nm (uz V_4 0 (82 + x1).toNat ((V_4 0 (51 + x1).toNat) - 1)) fun (V_8 : Sz) => bd (f_X8_allAid n V_8) fun ((r_9, V_10) : Int × Sz) => nm (uz V_10 0 (82 + x1).toNat x_6) fun (V_11 : Sz) => some (r_3 - r_9, V_11)) else (some (0, V_2))
def f_X8_benefitRoom (V0 : Sz) (x1 : Int) : Option (Int × Sz) := bd (f_X8_noGift V0 x1) fun ((r_1, V_2) : Bool × Sz) => if r_1 = false then (ck (inZ (173 + x1) 1233) <| ck (0 ≤ (V_2 0 7) * (V_2 0 (173 + x1).toNat) ∧ (V_2 0 7) * (V_2 0 (173 + x1).toNat) < 2147483648) <| some (((V_2 0 7) * (V_2 0 (173 + x1).toNat)) / 100, V_2)) else (some (0, V_2))
def jX8_topDonor_71 (n : Nat) (x1 : Int) (rec37 : Int × Int × Sz → Option (Int × Sz)) (y2 : Int) (y3 : Int) (V : Sz) : Option (Int × Sz) := nm (y3 + 1) fun (x_8 : Int) => rec37 (y2, x_8, V)
def jX8_topDonor_69 (n : Nat) (x1 : Int) (rec37 : Int × Int × Sz → Option (Int × Sz)) (y3 : Int) (V : Sz) : Option (Int × Sz) := jX8_topDonor_71 n x1 rec37 y3 y3 V
def bX8_topDonor_37 (n : Nat) (x1 : Int) (rec37 : Int × Int × Sz → Option (Int × Sz)) : Int × Int × Sz → Option (Int × Sz) := fun (y2, y3, V) => ck (rng y3 ∧ rng (V 0 0)) <| if V 0 0 ≤ y3 then (some (y2, V)) else (ck (rng y2) <| if y2 = (-1) then (jX8_topDonor_69 n x1 rec37 y3 V) else (bd (f_X8_sumOf n V y3 x1 (-1)) fun (r_9 : Int) => bd (f_X8_sumOf n V y2 x1 (-1)) fun (r_10 : Int) => ck (rng r_9 ∧ rng r_10) <| if r_9 ≤ r_10 then (jX8_topDonor_71 n x1 rec37 y2 y3 V) else (jX8_topDonor_69 n x1 rec37 y3 V)))
theorem bX8_topDonor_37_e (n : Nat) (x1 : Int) (rec37 : Int × Int × Sz → Option (Int × Sz)) (y2 : Int) (y3 : Int) (V : Sz) : bX8_topDonor_37 n x1 rec37 (y2, y3, V) = (ck (rng y3 ∧ rng (V 0 0)) <| if V 0 0 ≤ y3 then (some (y2, V)) else (ck (rng y2) <| if y2 = (-1) then (jX8_topDonor_69 n x1 rec37 y3 V) else (bd (f_X8_sumOf n V y3 x1 (-1)) fun (r_9 : Int) => bd (f_X8_sumOf n V y2 x1 (-1)) fun (r_10 : Int) => ck (rng r_9 ∧ rng r_10) <| if r_9 ≤ r_10 then (jX8_topDonor_71 n x1 rec37 y2 y3 V) else (jX8_topDonor_69 n x1 rec37 y3 V)))) := rfl
def jX8_topDonor_20 (n : Nat) (x1 : Int) (V : Sz) (z0 : Int) : Option (Int × Sz) := bd (f_X8_fails V z0 1) fun ((r_3, V_4) : Bool × Sz) => if r_3 = false then (bd (f_X8_laysAid n V_4) fun (V_5 : Sz) => lpF (bX8_topDonor_37 n x1) n ((-1), 0, V_5)) else (some (0, V_4))
def f_X8_topDonor (n : Nat) (V0 : Sz) (x1 : Int) : Option (Int × Sz) := nm (us V0 9 0) fun (V_1 : Sz) => bd (f_X8_inRange x1 0 4) fun (r_2 : Bool) => if r_2 = true then (jX8_topDonor_20 n x1 V_1 0) else (jX8_topDonor_20 n x1 V_1 1)
def jX8_bestYear_71 (n : Nat) (rec15 : Int × Int × Int × Sz → Option (Int × Sz)) (y1 : Int) (y2 : Int) (y3 : Int) (V : Sz) : Option (Int × Sz) := nm (y3 + 1) fun (x_6 : Int) => rec15 (y1, y2, x_6, V)
def bX8_bestYear_27 (n : Nat) (rec15 : Int × Int × Int × Sz → Option (Int × Sz)) (rec27 : Int × Int × Int × Int × Int × Sz → Option (Int × Sz)) : Int × Int × Int × Int × Int × Sz → Option (Int × Sz) := fun (y1, y2, y3, y4, y5, V) => ck (rng y5 ∧ rng (V 0 0)) <| if V 0 0 ≤ y5 then (ck (rng y4 ∧ rng y2) <| if y2 < y4 then (jX8_bestYear_71 n rec15 y3 y4 y3 V) else (jX8_bestYear_71 n rec15 y1 y2 y3 V)) else (bd (f_X8_sumOf n V y5 2 y3) fun (r_7 : Int) => nm (y4 + r_7) fun (x_8 : Int) => nm (y5 + 1) fun (x_9 : Int) => rec27 (y1, y2, y3, x_8, x_9, V))
theorem bX8_bestYear_27_e (n : Nat) (rec15 : Int × Int × Int × Sz → Option (Int × Sz)) (rec27 : Int × Int × Int × Int × Int × Sz → Option (Int × Sz)) (y1 : Int) (y2 : Int) (y3 : Int) (y4 : Int) (y5 : Int) (V : Sz) : bX8_bestYear_27 n rec15 rec27 (y1, y2, y3, y4, y5, V) = (ck (rng y5 ∧ rng (V 0 0)) <| if V 0 0 ≤ y5 then (ck (rng y4 ∧ rng y2) <| if y2 < y4 then (jX8_bestYear_71 n rec15 y3 y4 y3 V) else (jX8_bestYear_71 n rec15 y1 y2 y3 V)) else (bd (f_X8_sumOf n V y5 2 y3) fun (r_7 : Int) => nm (y4 + r_7) fun (x_8 : Int) => nm (y5 + 1) fun (x_9 : Int) => rec27 (y1, y2, y3, x_8, x_9, V))) := rfl
def bX8_bestYear_15 (n : Nat) (rec15 : Int × Int × Int × Sz → Option (Int × Sz)) : Int × Int × Int × Sz → Option (Int × Sz) := fun (y1, y2, y3, V) => ck (rng y3) <| if 28 ≤ y3 then (some (y1, V)) else (lpF (bX8_bestYear_27 n rec15) n (y1, y2, y3, 0, 0, V))
theorem bX8_bestYear_15_e (n : Nat) (rec15 : Int × Int × Int × Sz → Option (Int × Sz)) (y1 : Int) (y2 : Int) (y3 : Int) (V : Sz) : bX8_bestYear_15 n rec15 (y1, y2, y3, V) = (ck (rng y3) <| if 28 ≤ y3 then (some (y1, V)) else (lpF (bX8_bestYear_27 n rec15) n (y1, y2, y3, 0, 0, V))) := rfl
def f_X8_bestYear (n : Nat) (V0 : Sz) : Option (Int × Sz) := nm (us V0 9 0) fun (V_1 : Sz) => bd (f_X8_laysAid n V_1) fun (V_2 : Sz) => lpF (bX8_bestYear_15 n) n ((-1), 0, 0, V_2)
def f_X8_aidWith (n : Nat) (V0 : Sz) (x1 : Int) (x2 : Int) (x3 : Int) : Option (Int × Sz) := bd (f_X8_declares V0 x1 x2 x3) fun (V_1 : Sz) => bd (f_X8_allAid n V_1) fun ((r_2, V_3) : Int × Sz) => nm (uz V_3 0 1 ((V_3 0 1) - 1)) fun (V_4 : Sz) => some (r_2, V_4)
def f_X8_gainOf (n : Nat) (V0 : Sz) (x1 : Int) (x2 : Int) (x3 : Int) : Option (Int × Sz) := bd (f_X8_noDonor V0 x1) fun ((r_1, V_2) : Bool × Sz) => if r_1 = true then (some (0, V_2)) else (bd (f_X8_noSpan V_2 x2 x3) fun ((r_3, V_4) : Bool × Sz) => if r_3 = false then (bd (f_X8_aidWith n V_4 x1 x2 x3) fun ((r_5, V_6) : Int × Sz) => bd (f_X8_allAid n V_6) fun ((r_7, V_8) : Int × Sz) => some (r_5 - r_7, V_8)) else (some (0, V_4)))
def jX8_bestAsked_49 (n : Nat) (rec14 : Int × Int × Int × Sz → Option (Int × Sz)) (y1 : Int) (y2 : Int) (y3 : Int) (V : Sz) : Option (Int × Sz) := nm (y3 + 1) fun (x_8 : Int) => rec14 (y1, y2, x_8, V)
def bX8_bestAsked_14 (n : Nat) (rec14 : Int × Int × Int × Sz → Option (Int × Sz)) : Int × Int × Int × Sz → Option (Int × Sz) := fun (y1, y2, y3, V) => ck (rng y3 ∧ rng (V 0 0)) <| if V 0 0 ≤ y3 then (some (y1, V)) else (bd (f_X8_aidWith n V y3 0 9999) fun ((r_5, V_6) : Int × Sz) => ck (rng r_5 ∧ rng y2) <| if y2 < r_5 then (jX8_bestAsked_49 n rec14 y3 r_5 y3 V_6) else (jX8_bestAsked_49 n rec14 y1 y2 y3 V_6))
theorem bX8_bestAsked_14_e (n : Nat) (rec14 : Int × Int × Int × Sz → Option (Int × Sz)) (y1 : Int) (y2 : Int) (y3 : Int) (V : Sz) : bX8_bestAsked_14 n rec14 (y1, y2, y3, V) = (ck (rng y3 ∧ rng (V 0 0)) <| if V 0 0 ≤ y3 then (some (y1, V)) else (bd (f_X8_aidWith n V y3 0 9999) fun ((r_5, V_6) : Int × Sz) => ck (rng r_5 ∧ rng y2) <| if y2 < r_5 then (jX8_bestAsked_49 n rec14 y3 r_5 y3 V_6) else (jX8_bestAsked_49 n rec14 y1 y2 y3 V_6))) := rfl
def f_X8_bestAsked (n : Nat) (V0 : Sz) : Option (Int × Sz) := nm (us V0 9 0) fun (V_1 : Sz) => bd (f_X8_allAid n V_1) fun ((r_2, V_3) : Int × Sz) => lpF (bX8_bestAsked_14 n) n ((-1), r_2, 0, V_3)
def bX8_isDonorThere_2 (n : Nat) (V : Sz) (x1 : Int) (x2 : Int) (rec2 : Int → Option (Bool)) : Int → Option (Bool) := fun y3 => ck (inZ (293 + x2) 1233) <| ck (rng y3 ∧ rng (V 0 (293 + x2).toNat)) <| if V 0 (293 + x2).toNat ≤ y3 then (some false) else (bd (f_X8_partOf x2 y3) fun (r_3 : Int) => ck (inZ (413 + r_3) 1233) <| ck (rng (V 0 (413 + r_3).toNat) ∧ rng x1) <| if V 0 (413 + r_3).toNat = x1 then (some true) else (nm (y3 + 1) fun (x_6 : Int) => rec2 x_6))
theorem bX8_isDonorThere_2_e (n : Nat) (V : Sz) (x1 : Int) (x2 : Int) (rec2 : Int → Option (Bool)) (y3 : Int) : bX8_isDonorThere_2 n V x1 x2 rec2 y3 = (ck (inZ (293 + x2) 1233) <| ck (rng y3 ∧ rng (V 0 (293 + x2).toNat)) <| if V 0 (293 + x2).toNat ≤ y3 then (some false) else (bd (f_X8_partOf x2 y3) fun (r_3 : Int) => ck (inZ (413 + r_3) 1233) <| ck (rng (V 0 (413 + r_3).toNat) ∧ rng x1) <| if V 0 (413 + r_3).toNat = x1 then (some true) else (nm (y3 + 1) fun (x_6 : Int) => rec2 x_6))) := rfl
def f_X8_isDonorThere (n : Nat) (V : Sz) (x1 : Int) (x2 : Int) : Option (Bool) := lpF (bX8_isDonorThere_2 n V x1 x2) n 0
theorem DX8_split_0 : ∀ q ∈ ([(0, .aload_n 0, 1), (1, .iload_n 1, 1), (2, .invokevirtual 265, 3), (5, .ifCond .ne 11, 3), (8, .aload_n 0, 1), (9, .iload_n 3, 1), (10, .invokevirtual 287, 3), (13, .ifCond .eq 5, 3), (16, .iconst 0, 1), (17, .ireturn, 1), (18, .aload_n 0, 1), (19, .iload_n 2, 1), (20, .iconst 1, 1), (21, .bipush 9, 2), (23, .invokestatic 79, 3), (26, .ifCond .eq 23, 3), (29, .iload 4, 2), (31, .iconst 1, 1), (32, .bipush 9, 2), (34, .invokestatic 79, 3), (37, .ifCond .eq 12, 3), (40, .aload_n 0, 1), (41, .iload_n 1, 1), (42, .iload_n 3, 1), (43, .invokevirtual 307, 3), (46, .ifCond .eq 7, 3), (49, .iconst 1, 1), (50, .goto 4, 3), (53, .iconst 0, 1), (54, .iconst 2, 1), (55, .invokevirtual 261, 3), (58, .ifCond .ne 24, 3), (61, .aload_n 0, 1), (62, .aload_n 0, 1), (63, .iload_n 1, 1), (64, .invokevirtual 310, 3), (67, .ifCond .ne 7, 3), (70, .iconst 1, 1), (71, .goto 4, 3), (74, .iconst 0, 1)] : List (Nat × Instr × Nat)), decode cX8_split q.1 = .ok q.2 := by decide +kernel
theorem dX8_split_0 : decode cX8_split 0 = .ok (.aload_n 0, 1) := DX8_split_0 (0, .aload_n 0, 1) (List.mem_of_getElem? (i := 0) rfl)
theorem dX8_split_1 : decode cX8_split 1 = .ok (.iload_n 1, 1) := DX8_split_0 (1, .iload_n 1, 1) (List.mem_of_getElem? (i := 1) rfl)
theorem dX8_split_2 : decode cX8_split 2 = .ok (.invokevirtual 265, 3) := DX8_split_0 (2, .invokevirtual 265, 3) (List.mem_of_getElem? (i := 2) rfl)
theorem dX8_split_5 : decode cX8_split 5 = .ok (.ifCond .ne 11, 3) := DX8_split_0 (5, .ifCond .ne 11, 3) (List.mem_of_getElem? (i := 3) rfl)
theorem dX8_split_8 : decode cX8_split 8 = .ok (.aload_n 0, 1) := DX8_split_0 (8, .aload_n 0, 1) (List.mem_of_getElem? (i := 4) rfl)
theorem dX8_split_9 : decode cX8_split 9 = .ok (.iload_n 3, 1) := DX8_split_0 (9, .iload_n 3, 1) (List.mem_of_getElem? (i := 5) rfl)
theorem dX8_split_10 : decode cX8_split 10 = .ok (.invokevirtual 287, 3) := DX8_split_0 (10, .invokevirtual 287, 3) (List.mem_of_getElem? (i := 6) rfl)
theorem dX8_split_13 : decode cX8_split 13 = .ok (.ifCond .eq 5, 3) := DX8_split_0 (13, .ifCond .eq 5, 3) (List.mem_of_getElem? (i := 7) rfl)
theorem dX8_split_16 : decode cX8_split 16 = .ok (.iconst 0, 1) := DX8_split_0 (16, .iconst 0, 1) (List.mem_of_getElem? (i := 8) rfl)
theorem dX8_split_17 : decode cX8_split 17 = .ok (.ireturn, 1) := DX8_split_0 (17, .ireturn, 1) (List.mem_of_getElem? (i := 9) rfl)
theorem dX8_split_18 : decode cX8_split 18 = .ok (.aload_n 0, 1) := DX8_split_0 (18, .aload_n 0, 1) (List.mem_of_getElem? (i := 10) rfl)
theorem dX8_split_19 : decode cX8_split 19 = .ok (.iload_n 2, 1) := DX8_split_0 (19, .iload_n 2, 1) (List.mem_of_getElem? (i := 11) rfl)
theorem dX8_split_20 : decode cX8_split 20 = .ok (.iconst 1, 1) := DX8_split_0 (20, .iconst 1, 1) (List.mem_of_getElem? (i := 12) rfl)
theorem dX8_split_21 : decode cX8_split 21 = .ok (.bipush 9, 2) := DX8_split_0 (21, .bipush 9, 2) (List.mem_of_getElem? (i := 13) rfl)
theorem dX8_split_23 : decode cX8_split 23 = .ok (.invokestatic 79, 3) := DX8_split_0 (23, .invokestatic 79, 3) (List.mem_of_getElem? (i := 14) rfl)
theorem dX8_split_26 : decode cX8_split 26 = .ok (.ifCond .eq 23, 3) := DX8_split_0 (26, .ifCond .eq 23, 3) (List.mem_of_getElem? (i := 15) rfl)
theorem dX8_split_29 : decode cX8_split 29 = .ok (.iload 4, 2) := DX8_split_0 (29, .iload 4, 2) (List.mem_of_getElem? (i := 16) rfl)
theorem dX8_split_31 : decode cX8_split 31 = .ok (.iconst 1, 1) := DX8_split_0 (31, .iconst 1, 1) (List.mem_of_getElem? (i := 17) rfl)
theorem dX8_split_32 : decode cX8_split 32 = .ok (.bipush 9, 2) := DX8_split_0 (32, .bipush 9, 2) (List.mem_of_getElem? (i := 18) rfl)
theorem dX8_split_34 : decode cX8_split 34 = .ok (.invokestatic 79, 3) := DX8_split_0 (34, .invokestatic 79, 3) (List.mem_of_getElem? (i := 19) rfl)
theorem dX8_split_37 : decode cX8_split 37 = .ok (.ifCond .eq 12, 3) := DX8_split_0 (37, .ifCond .eq 12, 3) (List.mem_of_getElem? (i := 20) rfl)
theorem dX8_split_40 : decode cX8_split 40 = .ok (.aload_n 0, 1) := DX8_split_0 (40, .aload_n 0, 1) (List.mem_of_getElem? (i := 21) rfl)
theorem dX8_split_41 : decode cX8_split 41 = .ok (.iload_n 1, 1) := DX8_split_0 (41, .iload_n 1, 1) (List.mem_of_getElem? (i := 22) rfl)
theorem dX8_split_42 : decode cX8_split 42 = .ok (.iload_n 3, 1) := DX8_split_0 (42, .iload_n 3, 1) (List.mem_of_getElem? (i := 23) rfl)
theorem dX8_split_43 : decode cX8_split 43 = .ok (.invokevirtual 307, 3) := DX8_split_0 (43, .invokevirtual 307, 3) (List.mem_of_getElem? (i := 24) rfl)
theorem dX8_split_46 : decode cX8_split 46 = .ok (.ifCond .eq 7, 3) := DX8_split_0 (46, .ifCond .eq 7, 3) (List.mem_of_getElem? (i := 25) rfl)
theorem dX8_split_49 : decode cX8_split 49 = .ok (.iconst 1, 1) := DX8_split_0 (49, .iconst 1, 1) (List.mem_of_getElem? (i := 26) rfl)
theorem dX8_split_50 : decode cX8_split 50 = .ok (.goto 4, 3) := DX8_split_0 (50, .goto 4, 3) (List.mem_of_getElem? (i := 27) rfl)
theorem dX8_split_53 : decode cX8_split 53 = .ok (.iconst 0, 1) := DX8_split_0 (53, .iconst 0, 1) (List.mem_of_getElem? (i := 28) rfl)
theorem dX8_split_54 : decode cX8_split 54 = .ok (.iconst 2, 1) := DX8_split_0 (54, .iconst 2, 1) (List.mem_of_getElem? (i := 29) rfl)
theorem dX8_split_55 : decode cX8_split 55 = .ok (.invokevirtual 261, 3) := DX8_split_0 (55, .invokevirtual 261, 3) (List.mem_of_getElem? (i := 30) rfl)
theorem dX8_split_58 : decode cX8_split 58 = .ok (.ifCond .ne 24, 3) := DX8_split_0 (58, .ifCond .ne 24, 3) (List.mem_of_getElem? (i := 31) rfl)
theorem dX8_split_61 : decode cX8_split 61 = .ok (.aload_n 0, 1) := DX8_split_0 (61, .aload_n 0, 1) (List.mem_of_getElem? (i := 32) rfl)
theorem dX8_split_62 : decode cX8_split 62 = .ok (.aload_n 0, 1) := DX8_split_0 (62, .aload_n 0, 1) (List.mem_of_getElem? (i := 33) rfl)
theorem dX8_split_63 : decode cX8_split 63 = .ok (.iload_n 1, 1) := DX8_split_0 (63, .iload_n 1, 1) (List.mem_of_getElem? (i := 34) rfl)
theorem dX8_split_64 : decode cX8_split 64 = .ok (.invokevirtual 310, 3) := DX8_split_0 (64, .invokevirtual 310, 3) (List.mem_of_getElem? (i := 35) rfl)
theorem dX8_split_67 : decode cX8_split 67 = .ok (.ifCond .ne 7, 3) := DX8_split_0 (67, .ifCond .ne 7, 3) (List.mem_of_getElem? (i := 36) rfl)
theorem dX8_split_70 : decode cX8_split 70 = .ok (.iconst 1, 1) := DX8_split_0 (70, .iconst 1, 1) (List.mem_of_getElem? (i := 37) rfl)
theorem dX8_split_71 : decode cX8_split 71 = .ok (.goto 4, 3) := DX8_split_0 (71, .goto 4, 3) (List.mem_of_getElem? (i := 38) rfl)
theorem dX8_split_74 : decode cX8_split 74 = .ok (.iconst 0, 1) := DX8_split_0 (74, .iconst 0, 1) (List.mem_of_getElem? (i := 39) rfl)
theorem DX8_split_1 : ∀ q ∈ ([(75, .iconst 3, 1), (76, .invokevirtual 261, 3), (79, .ifCond .eq 5, 3), (82, .iconst 0, 1), (83, .ireturn, 1), (84, .aload_n 0, 1), (85, .invokevirtual 300, 3), (88, .aload_n 0, 1), (89, .iload_n 1, 1), (90, .iload_n 2, 1), (91, .iload_n 3, 1), (92, .iload 4, 2), (94, .invokevirtual 313, 3), (97, .aload_n 0, 1), (98, .getfield 7, 3), (101, .sipush 593, 3), (104, .iload_n 1, 1), (105, .iconst 1, 1), (106, .invokestatic 103, 3), (109, .iadd, 1), (110, .iaload, 1), (111, .ireturn, 1)] : List (Nat × Instr × Nat)), decode cX8_split q.1 = .ok q.2 := by decide +kernel
theorem dX8_split_75 : decode cX8_split 75 = .ok (.iconst 3, 1) := DX8_split_1 (75, .iconst 3, 1) (List.mem_of_getElem? (i := 0) rfl)
theorem dX8_split_76 : decode cX8_split 76 = .ok (.invokevirtual 261, 3) := DX8_split_1 (76, .invokevirtual 261, 3) (List.mem_of_getElem? (i := 1) rfl)
theorem dX8_split_79 : decode cX8_split 79 = .ok (.ifCond .eq 5, 3) := DX8_split_1 (79, .ifCond .eq 5, 3) (List.mem_of_getElem? (i := 2) rfl)
theorem dX8_split_82 : decode cX8_split 82 = .ok (.iconst 0, 1) := DX8_split_1 (82, .iconst 0, 1) (List.mem_of_getElem? (i := 3) rfl)
theorem dX8_split_83 : decode cX8_split 83 = .ok (.ireturn, 1) := DX8_split_1 (83, .ireturn, 1) (List.mem_of_getElem? (i := 4) rfl)
theorem dX8_split_84 : decode cX8_split 84 = .ok (.aload_n 0, 1) := DX8_split_1 (84, .aload_n 0, 1) (List.mem_of_getElem? (i := 5) rfl)
theorem dX8_split_85 : decode cX8_split 85 = .ok (.invokevirtual 300, 3) := DX8_split_1 (85, .invokevirtual 300, 3) (List.mem_of_getElem? (i := 6) rfl)
theorem dX8_split_88 : decode cX8_split 88 = .ok (.aload_n 0, 1) := DX8_split_1 (88, .aload_n 0, 1) (List.mem_of_getElem? (i := 7) rfl)
theorem dX8_split_89 : decode cX8_split 89 = .ok (.iload_n 1, 1) := DX8_split_1 (89, .iload_n 1, 1) (List.mem_of_getElem? (i := 8) rfl)
theorem dX8_split_90 : decode cX8_split 90 = .ok (.iload_n 2, 1) := DX8_split_1 (90, .iload_n 2, 1) (List.mem_of_getElem? (i := 9) rfl)
theorem dX8_split_91 : decode cX8_split 91 = .ok (.iload_n 3, 1) := DX8_split_1 (91, .iload_n 3, 1) (List.mem_of_getElem? (i := 10) rfl)
theorem dX8_split_92 : decode cX8_split 92 = .ok (.iload 4, 2) := DX8_split_1 (92, .iload 4, 2) (List.mem_of_getElem? (i := 11) rfl)
theorem dX8_split_94 : decode cX8_split 94 = .ok (.invokevirtual 313, 3) := DX8_split_1 (94, .invokevirtual 313, 3) (List.mem_of_getElem? (i := 12) rfl)
theorem dX8_split_97 : decode cX8_split 97 = .ok (.aload_n 0, 1) := DX8_split_1 (97, .aload_n 0, 1) (List.mem_of_getElem? (i := 13) rfl)
theorem dX8_split_98 : decode cX8_split 98 = .ok (.getfield 7, 3) := DX8_split_1 (98, .getfield 7, 3) (List.mem_of_getElem? (i := 14) rfl)
theorem dX8_split_101 : decode cX8_split 101 = .ok (.sipush 593, 3) := DX8_split_1 (101, .sipush 593, 3) (List.mem_of_getElem? (i := 15) rfl)
theorem dX8_split_104 : decode cX8_split 104 = .ok (.iload_n 1, 1) := DX8_split_1 (104, .iload_n 1, 1) (List.mem_of_getElem? (i := 16) rfl)
theorem dX8_split_105 : decode cX8_split 105 = .ok (.iconst 1, 1) := DX8_split_1 (105, .iconst 1, 1) (List.mem_of_getElem? (i := 17) rfl)
theorem dX8_split_106 : decode cX8_split 106 = .ok (.invokestatic 103, 3) := DX8_split_1 (106, .invokestatic 103, 3) (List.mem_of_getElem? (i := 18) rfl)
theorem dX8_split_109 : decode cX8_split 109 = .ok (.iadd, 1) := DX8_split_1 (109, .iadd, 1) (List.mem_of_getElem? (i := 19) rfl)
theorem dX8_split_110 : decode cX8_split 110 = .ok (.iaload, 1) := DX8_split_1 (110, .iaload, 1) (List.mem_of_getElem? (i := 20) rfl)
theorem dX8_split_111 : decode cX8_split 111 = .ok (.ireturn, 1) := DX8_split_1 (111, .ireturn, 1) (List.mem_of_getElem? (i := 21) rfl)
abbrev rmX8_split : Room := { frames := 3, cells := 0, slots := 0, locals := 74 }
set_option maxHeartbeats 400000 in
set_option maxRecDepth 100000 in
theorem met_X8_split (l : Launch) (D : va_G) (kA : Nat → ClassId) (a : Nat → Nat) (n : Nat) (V0 : Sz) (x1 : Int) (x2 : Int) (x3 : Int) (x4 : Int) (hDt : ∀ w : Sz, va_D (fun _ => True) (cs_X8 kA a w)) {r : Int} {Vr : Sz} (hf : f_X8_split n V0 x1 x2 x3 x4 = some (r, Vr)) : MZ l yX8_split cX8_split 5 (some .int) rmX8_split D kA [.ref (a 0), vI x1, vI x2, vI x3, vI x4] (cs_X8 kA a V0) (cs_X8 kA a Vr) (some (vI r)) := by
  refine zZI (own := RX8) rfl rfl (Nat.le_of_ble_eq_true rfl) ?_
  intro p e s m args below meth c ls Q hC hK hP hl hret
  have hl : lv_has ls 5 [(0, .ref (a 0)), (1, vI x1), (2, vI x2), (3, vI x3), (4, vI x4)] := hl
  have hS : va_S (zF (cs_X8 kA a V0)) s.heap s.heap [] := va_S.rf
  have hD := zDself (C := fun w : Sz => (cs_X8 kA a w)) hDt V0 (fun _ => rfl)
  try dsimp only at hD
  generalize hAe : zF (cs_X8 kA a V0) = A0 at hS hD hret
  unfold f_X8_split at hf
  have J75 : ∀ (V : Sz) (z0 : Int) (H : Heap) (locs : List Loc) (ls : Array Slot), jX8_split_75 n x1 x2 x3 x4 V z0 = some (r, Vr) → va_P D vwCl (cs_X8 kA a V) H → va_S A0 s.heap H locs → lv_has ls 5 [(0, .ref (a 0)), (1, vI x1), (2, vI x2), (3, vI x3), (4, vI x4)] → W p l e rmX8_split s m args below meth c H locs 0 0 Q (F0 m 75 ls [vI z0, .ref (a 0)]) := by
    intro V z0 H locs ls hf hP hS hl
    unfold jX8_split_75 at hf
    refine ziconst hC.1 hC.2.1 dX8_split_75 <| ?_
    obtain ⟨⟨r_9, V_10⟩, hu, hf⟩ := bd_some hf
    have hDc := hDt
    refine zcVZ (As := [vI z0, vI 3]) (rest := []) hC hK (met_X8_fails l D kA a V z0 3 hDc hu) zwX8_261 hS (zFsub (hD V) [0, 1, 2, 3, 4, 5, 6, 7, 8, 9, 10, 11, 12, 13, 14, 15, 16] rfl) hP (q0 := 0) rfl rfl rfl rfl hl.1 rfl (Nat.le_of_ble_eq_true rfl) ⟨Nat.le_of_ble_eq_true rfl, Nat.le_of_ble_eq_true rfl⟩ ⟨rfl, rfl⟩ ⟨Nat.le_refl _, Nat.le_refl _⟩ dX8_split_76 (fun H locs hP1 hk1 hS => ?_)
    have hP : va_P D vwCl (cs_X8 kA a V_10) H := hP1
    refine zifb_eq (tgt := 84) hC.1 hC.2.1 dX8_split_79 (by decide) (fun hc => ?_) (fun hc => ?_)
    · have hf := it_t hf hc
      refine lv_aload_n hC.1 hC.2.1 dX8_split_84 rfl (lv_at hl 0 rfl) <| ?_
      obtain ⟨V_11, hu, hf⟩ := bd_some hf
      have hDc := hDt
      refine zcVZ (As := []) (rest := []) hC hK (met_X8_remembers l D kA a n V_10 hDc hu) zwX8_300 hS (zFsub (hD V_10) [0, 1, 2, 3, 4, 5, 6, 7, 8, 9, 10, 11, 12, 13, 14, 15, 16] rfl) hP (q0 := 0) rfl rfl rfl rfl hl.1 rfl (Nat.le_of_ble_eq_true rfl) ⟨Nat.le_of_ble_eq_true rfl, Nat.le_of_ble_eq_true rfl⟩ ⟨rfl, rfl⟩ ⟨Nat.le_refl _, Nat.le_refl _⟩ dX8_split_85 (fun H locs hP1 hk1 hS => ?_)
      have hP : va_P D vwCl (cs_X8 kA a V_11) H := hP1
      refine lv_aload_n hC.1 hC.2.1 dX8_split_88 rfl (lv_at hl 0 rfl) <| ziload_n hC.1 hC.2.1 dX8_split_89 rfl (lv_at hl 1 rfl) <| ziload_n hC.1 hC.2.1 dX8_split_90 rfl (lv_at hl 2 rfl) <| ziload_n hC.1 hC.2.1 dX8_split_91 rfl (lv_at hl 3 rfl) <| ziload hC.1 hC.2.1 dX8_split_92 (lv_at hl 4 rfl) <| ?_
      obtain ⟨V_12, hu, hf⟩ := bd_some hf
      have hDc := hDt
      refine zcVZ (As := [vI x1, vI x2, vI x3, vI x4]) (rest := []) hC hK (met_X8_splits l D kA a n V_11 x1 x2 x3 x4 hDc hu) zwX8_313 hS (zFsub (hD V_11) [0, 1, 2, 3, 4, 5, 6, 7, 8, 9, 10, 11, 12, 13, 14, 15, 16] rfl) hP (q0 := 0) rfl rfl rfl rfl hl.1 rfl (Nat.le_of_ble_eq_true rfl) ⟨Nat.le_of_ble_eq_true rfl, Nat.le_of_ble_eq_true rfl⟩ ⟨rfl, rfl⟩ ⟨Nat.le_refl _, Nat.le_refl _⟩ dX8_split_94 (fun H locs hP1 hk1 hS => ?_)
      have hP : va_P D vwCl (cs_X8 kA a V_12) H := hP1
      refine lv_aload_n hC.1 hC.2.1 dX8_split_97 rfl (lv_at hl 0 rfl) <| gfX8_7 hC hK hP (q0 := 0) rfl rfl dX8_split_98 <| zsipush hC.1 hC.2.1 dX8_split_101 (by decide) <| ziload_n hC.1 hC.2.1 dX8_split_104 rfl (lv_at hl 1 rfl) <| ziconst hC.1 hC.2.1 dX8_split_105 <| ?_
      obtain ⟨r_13, hu, hf⟩ := bd_some hf
      have hPc : va_P D vwCl ([] : va_W) _ := hP.sub [] rfl
      refine zcSP (As := [vI x1, vI 1]) (rest := [vI 593, .ref (a 1)]) hC hK (met_X8_partOf l D kA x1 1 hu) zwX8_103 hPc rfl hl.1 rfl (Nat.le_of_ble_eq_true rfl) ⟨Nat.le_of_ble_eq_true rfl, Nat.le_of_ble_eq_true rfl⟩ ⟨rfl, rfl⟩ ⟨Nat.le_refl _, Nat.le_refl _⟩ dX8_split_106 <| ziadd hC.1 hC.2.1 dX8_split_109 <| ?_
      obtain ⟨hz_14, hf⟩ := ck_some hf
      refine jal hC hK hP (q0 := 1) rfl (Nat.le_of_ble_eq_true rfl) hz_14 rfl dX8_split_110 <| ?_
      have hf := Option.some.inj hf
      simp only [Prod.mk.injEq] at hf
      exact hret (Int32.ofInt (V_12 0 (593 + r_13).toNat)) _ _ _ _ (congrArg (fun z => some (vI z)) hf.1.symm) (by rw [← hf.2]; exact hP) hS dX8_split_111
    · have hf := it_f hf hc
      refine ziconst hC.1 hC.2.1 dX8_split_82 <| ?_
      have hf := Option.some.inj hf
      simp only [Prod.mk.injEq] at hf
      exact hret (Int32.ofInt 0) _ _ _ _ (congrArg (fun z => some (vI z)) hf.1.symm) (by rw [← hf.2]; exact hP) hS dX8_split_83
  have J54 : ∀ (V : Sz) (z0 : Int) (H : Heap) (locs : List Loc) (ls : Array Slot), jX8_split_54 n x1 x2 x3 x4 V z0 = some (r, Vr) → va_P D vwCl (cs_X8 kA a V) H → va_S A0 s.heap H locs → lv_has ls 5 [(0, .ref (a 0)), (1, vI x1), (2, vI x2), (3, vI x3), (4, vI x4)] → W p l e rmX8_split s m args below meth c H locs 0 0 Q (F0 m 54 ls [vI z0, .ref (a 0)]) := by
    intro V z0 H locs ls hf hP hS hl
    unfold jX8_split_54 at hf
    refine ziconst hC.1 hC.2.1 dX8_split_54 <| ?_
    obtain ⟨⟨r_6, V_7⟩, hu, hf⟩ := bd_some hf
    have hDc := hDt
    refine zcVZ (As := [vI z0, vI 2]) (rest := []) hC hK (met_X8_fails l D kA a V z0 2 hDc hu) zwX8_261 hS (zFsub (hD V) [0, 1, 2, 3, 4, 5, 6, 7, 8, 9, 10, 11, 12, 13, 14, 15, 16] rfl) hP (q0 := 0) rfl rfl rfl rfl hl.1 rfl (Nat.le_of_ble_eq_true rfl) ⟨Nat.le_of_ble_eq_true rfl, Nat.le_of_ble_eq_true rfl⟩ ⟨rfl, rfl⟩ ⟨Nat.le_refl _, Nat.le_refl _⟩ dX8_split_55 (fun H locs hP1 hk1 hS => ?_)
    have hP : va_P D vwCl (cs_X8 kA a V_7) H := hP1
    refine zifb_ne (tgt := 82) hC.1 hC.2.1 dX8_split_58 (by decide) (fun hc => ?_) (fun hc => ?_)
    · have hf := it_t hf hc
      refine ziconst hC.1 hC.2.1 dX8_split_82 <| ?_
      have hf := Option.some.inj hf
      simp only [Prod.mk.injEq] at hf
      exact hret (Int32.ofInt 0) _ _ _ _ (congrArg (fun z => some (vI z)) hf.1.symm) (by rw [← hf.2]; exact hP) hS dX8_split_83
    · have hf := it_f hf hc
      refine lv_aload_n hC.1 hC.2.1 dX8_split_61 rfl (lv_at hl 0 rfl) <| lv_aload_n hC.1 hC.2.1 dX8_split_62 rfl (lv_at hl 0 rfl) <| ziload_n hC.1 hC.2.1 dX8_split_63 rfl (lv_at hl 1 rfl) <| ?_
      obtain ⟨r_8, hu, hf⟩ := bd_some hf
      refine zcVP (As := [vI x1]) (rest := [.ref (a 0)]) hC hK (met_X8_canSplit l D kA a V_7 x1 hu) zwX8_310 hP (q0 := 0) rfl rfl rfl rfl hl.1 rfl (Nat.le_of_ble_eq_true rfl) ⟨Nat.le_of_ble_eq_true rfl, Nat.le_of_ble_eq_true rfl⟩ ⟨rfl, rfl⟩ ⟨Nat.le_refl _, Nat.le_refl _⟩ dX8_split_64 <| zifb_ne (tgt := 74) hC.1 hC.2.1 dX8_split_67 (by decide) (fun hc => ?_) (fun hc => ?_)
      · have hf := it_t hf hc
        exact ziconst hC.1 hC.2.1 dX8_split_74 <| J75 _ _ _ _ _ hf hP hS (lv_sub hl [0, 1, 2, 3, 4] rfl)
      · have hf := it_f hf hc
        exact ziconst hC.1 hC.2.1 dX8_split_70 <| lv_goto (tgt := 75) hC.1 hC.2.1 dX8_split_71 (by decide) <| J75 _ _ _ _ _ hf hP hS (lv_sub hl [0, 1, 2, 3, 4] rfl)
  have J49 : ∀ (V : Sz) (H : Heap) (locs : List Loc) (ls : Array Slot), jX8_split_49 n x1 x2 x3 x4 V = some (r, Vr) → va_P D vwCl (cs_X8 kA a V) H → va_S A0 s.heap H locs → lv_has ls 5 [(0, .ref (a 0)), (1, vI x1), (2, vI x2), (3, vI x3), (4, vI x4)] → W p l e rmX8_split s m args below meth c H locs 0 0 Q (F0 m 49 ls [.ref (a 0)]) := by
    intro V H locs ls hf hP hS hl
    unfold jX8_split_49 at hf
    exact ziconst hC.1 hC.2.1 dX8_split_49 <| lv_goto (tgt := 54) hC.1 hC.2.1 dX8_split_50 (by decide) <| J54 _ _ _ _ _ hf hP hS (lv_sub hl [0, 1, 2, 3, 4] rfl)
  refine lv_aload_n hC.1 hC.2.1 dX8_split_0 rfl (lv_at hl 0 rfl) <| ziload_n hC.1 hC.2.1 dX8_split_1 rfl (lv_at hl 1 rfl) <| ?_
  obtain ⟨⟨r_1, V_2⟩, hu, hf⟩ := bd_some hf
  have hDc := hDt
  refine zcVZ (As := [vI x1]) (rest := []) hC hK (met_X8_noGift l D kA a V0 x1 hDc hu) zwX8_265 hS (zFsub (hD V0) [0, 1, 2, 3, 4, 5, 6, 7, 8, 9, 10, 11, 12, 13, 14, 15, 16] rfl) hP (q0 := 0) rfl rfl rfl rfl hl.1 rfl (Nat.le_of_ble_eq_true rfl) ⟨Nat.le_of_ble_eq_true rfl, Nat.le_of_ble_eq_true rfl⟩ ⟨rfl, rfl⟩ ⟨Nat.le_refl _, Nat.le_refl _⟩ dX8_split_2 (fun H locs hP1 hk1 hS => ?_)
  have hP : va_P D vwCl (cs_X8 kA a V_2) H := hP1
  refine zifb_ne (tgt := 16) hC.1 hC.2.1 dX8_split_5 (by decide) (fun hc => ?_) (fun hc => ?_)
  · have hf := it_t hf hc
    refine ziconst hC.1 hC.2.1 dX8_split_16 <| ?_
    have hf := Option.some.inj hf
    simp only [Prod.mk.injEq] at hf
    exact hret (Int32.ofInt 0) _ _ _ _ (congrArg (fun z => some (vI z)) hf.1.symm) (by rw [← hf.2]; exact hP) hS dX8_split_17
  · have hf := it_f hf hc
    refine lv_aload_n hC.1 hC.2.1 dX8_split_8 rfl (lv_at hl 0 rfl) <| ziload_n hC.1 hC.2.1 dX8_split_9 rfl (lv_at hl 3 rfl) <| ?_
    obtain ⟨⟨r_3, V_4⟩, hu, hf⟩ := bd_some hf
    have hDc := hDt
    refine zcVZ (As := [vI x3]) (rest := []) hC hK (met_X8_noDonor l D kA a V_2 x3 hDc hu) zwX8_287 hS (zFsub (hD V_2) [0, 1, 2, 3, 4, 5, 6, 7, 8, 9, 10, 11, 12, 13, 14, 15, 16] rfl) hP (q0 := 0) rfl rfl rfl rfl hl.1 rfl (Nat.le_of_ble_eq_true rfl) ⟨Nat.le_of_ble_eq_true rfl, Nat.le_of_ble_eq_true rfl⟩ ⟨rfl, rfl⟩ ⟨Nat.le_refl _, Nat.le_refl _⟩ dX8_split_10 (fun H locs hP1 hk1 hS => ?_)
    have hP : va_P D vwCl (cs_X8 kA a V_4) H := hP1
    refine zifb_eq (tgt := 18) hC.1 hC.2.1 dX8_split_13 (by decide) (fun hc => ?_) (fun hc => ?_)
    · have hf := it_t hf hc
      refine lv_aload_n hC.1 hC.2.1 dX8_split_18 rfl (lv_at hl 0 rfl) <| ziload_n hC.1 hC.2.1 dX8_split_19 rfl (lv_at hl 2 rfl) <| ziconst hC.1 hC.2.1 dX8_split_20 <| zbipush hC.1 hC.2.1 dX8_split_21 (by decide) <| ?_
      obtain ⟨r_5, hu, hf⟩ := bd_some hf
      have hPc : va_P D vwCl ([] : va_W) _ := hP.sub [] rfl
      refine zcSP (As := [vI x2, vI 1, vI 9]) (rest := [.ref (a 0)]) hC hK (met_X8_inRange l D kA x2 1 9 hu) zwX8_79 hPc rfl hl.1 rfl (Nat.le_of_ble_eq_true rfl) ⟨Nat.le_of_ble_eq_true rfl, Nat.le_of_ble_eq_true rfl⟩ ⟨rfl, rfl⟩ ⟨Nat.le_refl _, Nat.le_refl _⟩ dX8_split_23 <| zifb_eq (tgt := 49) hC.1 hC.2.1 dX8_split_26 (by decide) (fun hc => ?_) (fun hc => ?_)
      · have hf := it_t hf hc
        exact J49 _ _ _ _ hf hP hS (lv_sub hl [0, 1, 2, 3, 4] rfl)
      · have hf := it_f hf hc
        refine ziload hC.1 hC.2.1 dX8_split_29 (lv_at hl 4 rfl) <| ziconst hC.1 hC.2.1 dX8_split_31 <| zbipush hC.1 hC.2.1 dX8_split_32 (by decide) <| ?_
        obtain ⟨r_15, hu, hf⟩ := bd_some hf
        have hPc : va_P D vwCl ([] : va_W) _ := hP.sub [] rfl
        refine zcSP (As := [vI x4, vI 1, vI 9]) (rest := [.ref (a 0)]) hC hK (met_X8_inRange l D kA x4 1 9 hu) zwX8_79 hPc rfl hl.1 rfl (Nat.le_of_ble_eq_true rfl) ⟨Nat.le_of_ble_eq_true rfl, Nat.le_of_ble_eq_true rfl⟩ ⟨rfl, rfl⟩ ⟨Nat.le_refl _, Nat.le_refl _⟩ dX8_split_34 <| zifb_eq (tgt := 49) hC.1 hC.2.1 dX8_split_37 (by decide) (fun hc => ?_) (fun hc => ?_)
        · have hf := it_t hf hc
          exact J49 _ _ _ _ hf hP hS (lv_sub hl [0, 1, 2, 3, 4] rfl)
        · have hf := it_f hf hc
          refine lv_aload_n hC.1 hC.2.1 dX8_split_40 rfl (lv_at hl 0 rfl) <| ziload_n hC.1 hC.2.1 dX8_split_41 rfl (lv_at hl 1 rfl) <| ziload_n hC.1 hC.2.1 dX8_split_42 rfl (lv_at hl 3 rfl) <| ?_
          obtain ⟨r_16, hu, hf⟩ := bd_some hf
          refine zcVP (As := [vI x1, vI x3]) (rest := [.ref (a 0)]) hC hK (met_X8_isDonorOf l D kA a V_4 x1 x3 hu) zwX8_307 hP (q0 := 0) rfl rfl rfl rfl hl.1 rfl (Nat.le_of_ble_eq_true rfl) ⟨Nat.le_of_ble_eq_true rfl, Nat.le_of_ble_eq_true rfl⟩ ⟨rfl, rfl⟩ ⟨Nat.le_refl _, Nat.le_refl _⟩ dX8_split_43 <| zifb_eq (tgt := 53) hC.1 hC.2.1 dX8_split_46 (by decide) (fun hc => ?_) (fun hc => ?_)
          · have hf := it_t hf hc
            exact ziconst hC.1 hC.2.1 dX8_split_53 <| J54 _ _ _ _ _ hf hP hS (lv_sub hl [0, 1, 2, 3, 4] rfl)
          · have hf := it_f hf hc
            exact J49 _ _ _ _ hf hP hS (lv_sub hl [0, 1, 2, 3, 4] rfl)
    · have hf := it_f hf hc
      refine ziconst hC.1 hC.2.1 dX8_split_16 <| ?_
      have hf := Option.some.inj hf
      simp only [Prod.mk.injEq] at hf
      exact hret (Int32.ofInt 0) _ _ _ _ (congrArg (fun z => some (vI z)) hf.1.symm) (by rw [← hf.2]; exact hP) hS dX8_split_17
theorem DX8_refund_0 : ∀ q ∈ ([(0, .aload_n 0, 1), (1, .iload_n 1, 1), (2, .invokevirtual 265, 3), (5, .ifCond .ne 48, 3), (8, .aload_n 0, 1), (9, .iload_n 2, 1), (10, .iconst 1, 1), (11, .ldc 207, 2), (13, .invokestatic 79, 3), (16, .ifCond .ne 7, 3), (19, .iconst 1, 1), (20, .goto 4, 3), (23, .iconst 0, 1), (24, .iconst 2, 1), (25, .invokevirtual 261, 3), (28, .ifCond .ne 25, 3), (31, .aload_n 0, 1), (32, .aload_n 0, 1), (33, .iload_n 1, 1), (34, .invokevirtual 278, 3), (37, .iload_n 2, 1), (38, .if_icmp .ge 7, 3), (41, .iconst 1, 1), (42, .goto 4, 3), (45, .iconst 0, 1), (46, .iconst 3, 1), (47, .invokevirtual 261, 3), (50, .ifCond .eq 5, 3), (53, .iconst 0, 1), (54, .ireturn, 1), (55, .aload_n 0, 1), (56, .invokevirtual 300, 3), (59, .iload_n 2, 1), (60, .istore_n 3, 1), (61, .aload_n 0, 1), (62, .getfield 7, 3), (65, .sipush 293, 3), (68, .iload_n 1, 1), (69, .iadd, 1), (70, .iaload, 1)] : List (Nat × Instr × Nat)), decode cX8_refund q.1 = .ok q.2 := by decide +kernel
theorem dX8_refund_0 : decode cX8_refund 0 = .ok (.aload_n 0, 1) := DX8_refund_0 (0, .aload_n 0, 1) (List.mem_of_getElem? (i := 0) rfl)
theorem dX8_refund_1 : decode cX8_refund 1 = .ok (.iload_n 1, 1) := DX8_refund_0 (1, .iload_n 1, 1) (List.mem_of_getElem? (i := 1) rfl)
theorem dX8_refund_2 : decode cX8_refund 2 = .ok (.invokevirtual 265, 3) := DX8_refund_0 (2, .invokevirtual 265, 3) (List.mem_of_getElem? (i := 2) rfl)
theorem dX8_refund_5 : decode cX8_refund 5 = .ok (.ifCond .ne 48, 3) := DX8_refund_0 (5, .ifCond .ne 48, 3) (List.mem_of_getElem? (i := 3) rfl)
theorem dX8_refund_8 : decode cX8_refund 8 = .ok (.aload_n 0, 1) := DX8_refund_0 (8, .aload_n 0, 1) (List.mem_of_getElem? (i := 4) rfl)
theorem dX8_refund_9 : decode cX8_refund 9 = .ok (.iload_n 2, 1) := DX8_refund_0 (9, .iload_n 2, 1) (List.mem_of_getElem? (i := 5) rfl)
theorem dX8_refund_10 : decode cX8_refund 10 = .ok (.iconst 1, 1) := DX8_refund_0 (10, .iconst 1, 1) (List.mem_of_getElem? (i := 6) rfl)
theorem dX8_refund_11 : decode cX8_refund 11 = .ok (.ldc 207, 2) := DX8_refund_0 (11, .ldc 207, 2) (List.mem_of_getElem? (i := 7) rfl)
theorem dX8_refund_13 : decode cX8_refund 13 = .ok (.invokestatic 79, 3) := DX8_refund_0 (13, .invokestatic 79, 3) (List.mem_of_getElem? (i := 8) rfl)
theorem dX8_refund_16 : decode cX8_refund 16 = .ok (.ifCond .ne 7, 3) := DX8_refund_0 (16, .ifCond .ne 7, 3) (List.mem_of_getElem? (i := 9) rfl)
theorem dX8_refund_19 : decode cX8_refund 19 = .ok (.iconst 1, 1) := DX8_refund_0 (19, .iconst 1, 1) (List.mem_of_getElem? (i := 10) rfl)
theorem dX8_refund_20 : decode cX8_refund 20 = .ok (.goto 4, 3) := DX8_refund_0 (20, .goto 4, 3) (List.mem_of_getElem? (i := 11) rfl)
theorem dX8_refund_23 : decode cX8_refund 23 = .ok (.iconst 0, 1) := DX8_refund_0 (23, .iconst 0, 1) (List.mem_of_getElem? (i := 12) rfl)
theorem dX8_refund_24 : decode cX8_refund 24 = .ok (.iconst 2, 1) := DX8_refund_0 (24, .iconst 2, 1) (List.mem_of_getElem? (i := 13) rfl)
theorem dX8_refund_25 : decode cX8_refund 25 = .ok (.invokevirtual 261, 3) := DX8_refund_0 (25, .invokevirtual 261, 3) (List.mem_of_getElem? (i := 14) rfl)
theorem dX8_refund_28 : decode cX8_refund 28 = .ok (.ifCond .ne 25, 3) := DX8_refund_0 (28, .ifCond .ne 25, 3) (List.mem_of_getElem? (i := 15) rfl)
theorem dX8_refund_31 : decode cX8_refund 31 = .ok (.aload_n 0, 1) := DX8_refund_0 (31, .aload_n 0, 1) (List.mem_of_getElem? (i := 16) rfl)
theorem dX8_refund_32 : decode cX8_refund 32 = .ok (.aload_n 0, 1) := DX8_refund_0 (32, .aload_n 0, 1) (List.mem_of_getElem? (i := 17) rfl)
theorem dX8_refund_33 : decode cX8_refund 33 = .ok (.iload_n 1, 1) := DX8_refund_0 (33, .iload_n 1, 1) (List.mem_of_getElem? (i := 18) rfl)
theorem dX8_refund_34 : decode cX8_refund 34 = .ok (.invokevirtual 278, 3) := DX8_refund_0 (34, .invokevirtual 278, 3) (List.mem_of_getElem? (i := 19) rfl)
theorem dX8_refund_37 : decode cX8_refund 37 = .ok (.iload_n 2, 1) := DX8_refund_0 (37, .iload_n 2, 1) (List.mem_of_getElem? (i := 20) rfl)
theorem dX8_refund_38 : decode cX8_refund 38 = .ok (.if_icmp .ge 7, 3) := DX8_refund_0 (38, .if_icmp .ge 7, 3) (List.mem_of_getElem? (i := 21) rfl)
theorem dX8_refund_41 : decode cX8_refund 41 = .ok (.iconst 1, 1) := DX8_refund_0 (41, .iconst 1, 1) (List.mem_of_getElem? (i := 22) rfl)
theorem dX8_refund_42 : decode cX8_refund 42 = .ok (.goto 4, 3) := DX8_refund_0 (42, .goto 4, 3) (List.mem_of_getElem? (i := 23) rfl)
theorem dX8_refund_45 : decode cX8_refund 45 = .ok (.iconst 0, 1) := DX8_refund_0 (45, .iconst 0, 1) (List.mem_of_getElem? (i := 24) rfl)
theorem dX8_refund_46 : decode cX8_refund 46 = .ok (.iconst 3, 1) := DX8_refund_0 (46, .iconst 3, 1) (List.mem_of_getElem? (i := 25) rfl)
theorem dX8_refund_47 : decode cX8_refund 47 = .ok (.invokevirtual 261, 3) := DX8_refund_0 (47, .invokevirtual 261, 3) (List.mem_of_getElem? (i := 26) rfl)
theorem dX8_refund_50 : decode cX8_refund 50 = .ok (.ifCond .eq 5, 3) := DX8_refund_0 (50, .ifCond .eq 5, 3) (List.mem_of_getElem? (i := 27) rfl)
theorem dX8_refund_53 : decode cX8_refund 53 = .ok (.iconst 0, 1) := DX8_refund_0 (53, .iconst 0, 1) (List.mem_of_getElem? (i := 28) rfl)
theorem dX8_refund_54 : decode cX8_refund 54 = .ok (.ireturn, 1) := DX8_refund_0 (54, .ireturn, 1) (List.mem_of_getElem? (i := 29) rfl)
theorem dX8_refund_55 : decode cX8_refund 55 = .ok (.aload_n 0, 1) := DX8_refund_0 (55, .aload_n 0, 1) (List.mem_of_getElem? (i := 30) rfl)
theorem dX8_refund_56 : decode cX8_refund 56 = .ok (.invokevirtual 300, 3) := DX8_refund_0 (56, .invokevirtual 300, 3) (List.mem_of_getElem? (i := 31) rfl)
theorem dX8_refund_59 : decode cX8_refund 59 = .ok (.iload_n 2, 1) := DX8_refund_0 (59, .iload_n 2, 1) (List.mem_of_getElem? (i := 32) rfl)
theorem dX8_refund_60 : decode cX8_refund 60 = .ok (.istore_n 3, 1) := DX8_refund_0 (60, .istore_n 3, 1) (List.mem_of_getElem? (i := 33) rfl)
theorem dX8_refund_61 : decode cX8_refund 61 = .ok (.aload_n 0, 1) := DX8_refund_0 (61, .aload_n 0, 1) (List.mem_of_getElem? (i := 34) rfl)
theorem dX8_refund_62 : decode cX8_refund 62 = .ok (.getfield 7, 3) := DX8_refund_0 (62, .getfield 7, 3) (List.mem_of_getElem? (i := 35) rfl)
theorem dX8_refund_65 : decode cX8_refund 65 = .ok (.sipush 293, 3) := DX8_refund_0 (65, .sipush 293, 3) (List.mem_of_getElem? (i := 36) rfl)
theorem dX8_refund_68 : decode cX8_refund 68 = .ok (.iload_n 1, 1) := DX8_refund_0 (68, .iload_n 1, 1) (List.mem_of_getElem? (i := 37) rfl)
theorem dX8_refund_69 : decode cX8_refund 69 = .ok (.iadd, 1) := DX8_refund_0 (69, .iadd, 1) (List.mem_of_getElem? (i := 38) rfl)
theorem dX8_refund_70 : decode cX8_refund 70 = .ok (.iaload, 1) := DX8_refund_0 (70, .iaload, 1) (List.mem_of_getElem? (i := 39) rfl)
theorem DX8_refund_1 : ∀ q ∈ ([(71, .iconst 1, 1), (72, .isub, 1), (73, .istore 4, 2), (75, .iload 4, 2), (77, .ifCond .lt 50, 3), (80, .iload_n 1, 1), (81, .iload 4, 2), (83, .invokestatic 103, 3), (86, .istore 5, 2), (88, .iload_n 3, 1), (89, .aload_n 0, 1), (90, .iload 5, 2), (92, .invokevirtual 86, 3), (95, .invokestatic 113, 3), (98, .istore 6, 2), (100, .aload_n 0, 1), (101, .getfield 7, 3), (104, .sipush 773, 3), (107, .iload 5, 2), (109, .iadd, 1), (110, .dup2, 1), (111, .iaload, 1), (112, .iload 6, 2), (114, .iadd, 1), (115, .iastore, 1), (116, .iload_n 3, 1), (117, .iload 6, 2), (119, .isub, 1), (120, .istore_n 3, 1), (121, .iinc 4 (-1), 3), (124, .goto (-49), 3), (127, .aload_n 0, 1), (128, .getfield 7, 3), (131, .sipush 353, 3), (134, .iload_n 1, 1), (135, .iadd, 1), (136, .dup2, 1), (137, .iaload, 1), (138, .iload_n 2, 1), (139, .iadd, 1)] : List (Nat × Instr × Nat)), decode cX8_refund q.1 = .ok q.2 := by decide +kernel
theorem dX8_refund_71 : decode cX8_refund 71 = .ok (.iconst 1, 1) := DX8_refund_1 (71, .iconst 1, 1) (List.mem_of_getElem? (i := 0) rfl)
theorem dX8_refund_72 : decode cX8_refund 72 = .ok (.isub, 1) := DX8_refund_1 (72, .isub, 1) (List.mem_of_getElem? (i := 1) rfl)
theorem dX8_refund_73 : decode cX8_refund 73 = .ok (.istore 4, 2) := DX8_refund_1 (73, .istore 4, 2) (List.mem_of_getElem? (i := 2) rfl)
theorem dX8_refund_75 : decode cX8_refund 75 = .ok (.iload 4, 2) := DX8_refund_1 (75, .iload 4, 2) (List.mem_of_getElem? (i := 3) rfl)
theorem dX8_refund_77 : decode cX8_refund 77 = .ok (.ifCond .lt 50, 3) := DX8_refund_1 (77, .ifCond .lt 50, 3) (List.mem_of_getElem? (i := 4) rfl)
theorem dX8_refund_80 : decode cX8_refund 80 = .ok (.iload_n 1, 1) := DX8_refund_1 (80, .iload_n 1, 1) (List.mem_of_getElem? (i := 5) rfl)
theorem dX8_refund_81 : decode cX8_refund 81 = .ok (.iload 4, 2) := DX8_refund_1 (81, .iload 4, 2) (List.mem_of_getElem? (i := 6) rfl)
theorem dX8_refund_83 : decode cX8_refund 83 = .ok (.invokestatic 103, 3) := DX8_refund_1 (83, .invokestatic 103, 3) (List.mem_of_getElem? (i := 7) rfl)
theorem dX8_refund_86 : decode cX8_refund 86 = .ok (.istore 5, 2) := DX8_refund_1 (86, .istore 5, 2) (List.mem_of_getElem? (i := 8) rfl)
theorem dX8_refund_88 : decode cX8_refund 88 = .ok (.iload_n 3, 1) := DX8_refund_1 (88, .iload_n 3, 1) (List.mem_of_getElem? (i := 9) rfl)
theorem dX8_refund_89 : decode cX8_refund 89 = .ok (.aload_n 0, 1) := DX8_refund_1 (89, .aload_n 0, 1) (List.mem_of_getElem? (i := 10) rfl)
theorem dX8_refund_90 : decode cX8_refund 90 = .ok (.iload 5, 2) := DX8_refund_1 (90, .iload 5, 2) (List.mem_of_getElem? (i := 11) rfl)
theorem dX8_refund_92 : decode cX8_refund 92 = .ok (.invokevirtual 86, 3) := DX8_refund_1 (92, .invokevirtual 86, 3) (List.mem_of_getElem? (i := 12) rfl)
theorem dX8_refund_95 : decode cX8_refund 95 = .ok (.invokestatic 113, 3) := DX8_refund_1 (95, .invokestatic 113, 3) (List.mem_of_getElem? (i := 13) rfl)
theorem dX8_refund_98 : decode cX8_refund 98 = .ok (.istore 6, 2) := DX8_refund_1 (98, .istore 6, 2) (List.mem_of_getElem? (i := 14) rfl)
theorem dX8_refund_100 : decode cX8_refund 100 = .ok (.aload_n 0, 1) := DX8_refund_1 (100, .aload_n 0, 1) (List.mem_of_getElem? (i := 15) rfl)
theorem dX8_refund_101 : decode cX8_refund 101 = .ok (.getfield 7, 3) := DX8_refund_1 (101, .getfield 7, 3) (List.mem_of_getElem? (i := 16) rfl)
theorem dX8_refund_104 : decode cX8_refund 104 = .ok (.sipush 773, 3) := DX8_refund_1 (104, .sipush 773, 3) (List.mem_of_getElem? (i := 17) rfl)
theorem dX8_refund_107 : decode cX8_refund 107 = .ok (.iload 5, 2) := DX8_refund_1 (107, .iload 5, 2) (List.mem_of_getElem? (i := 18) rfl)
theorem dX8_refund_109 : decode cX8_refund 109 = .ok (.iadd, 1) := DX8_refund_1 (109, .iadd, 1) (List.mem_of_getElem? (i := 19) rfl)
theorem dX8_refund_110 : decode cX8_refund 110 = .ok (.dup2, 1) := DX8_refund_1 (110, .dup2, 1) (List.mem_of_getElem? (i := 20) rfl)
theorem dX8_refund_111 : decode cX8_refund 111 = .ok (.iaload, 1) := DX8_refund_1 (111, .iaload, 1) (List.mem_of_getElem? (i := 21) rfl)
theorem dX8_refund_112 : decode cX8_refund 112 = .ok (.iload 6, 2) := DX8_refund_1 (112, .iload 6, 2) (List.mem_of_getElem? (i := 22) rfl)
theorem dX8_refund_114 : decode cX8_refund 114 = .ok (.iadd, 1) := DX8_refund_1 (114, .iadd, 1) (List.mem_of_getElem? (i := 23) rfl)
theorem dX8_refund_115 : decode cX8_refund 115 = .ok (.iastore, 1) := DX8_refund_1 (115, .iastore, 1) (List.mem_of_getElem? (i := 24) rfl)
theorem dX8_refund_116 : decode cX8_refund 116 = .ok (.iload_n 3, 1) := DX8_refund_1 (116, .iload_n 3, 1) (List.mem_of_getElem? (i := 25) rfl)
theorem dX8_refund_117 : decode cX8_refund 117 = .ok (.iload 6, 2) := DX8_refund_1 (117, .iload 6, 2) (List.mem_of_getElem? (i := 26) rfl)
theorem dX8_refund_119 : decode cX8_refund 119 = .ok (.isub, 1) := DX8_refund_1 (119, .isub, 1) (List.mem_of_getElem? (i := 27) rfl)
theorem dX8_refund_120 : decode cX8_refund 120 = .ok (.istore_n 3, 1) := DX8_refund_1 (120, .istore_n 3, 1) (List.mem_of_getElem? (i := 28) rfl)
theorem dX8_refund_121 : decode cX8_refund 121 = .ok (.iinc 4 (-1), 3) := DX8_refund_1 (121, .iinc 4 (-1), 3) (List.mem_of_getElem? (i := 29) rfl)
theorem dX8_refund_124 : decode cX8_refund 124 = .ok (.goto (-49), 3) := DX8_refund_1 (124, .goto (-49), 3) (List.mem_of_getElem? (i := 30) rfl)
theorem dX8_refund_127 : decode cX8_refund 127 = .ok (.aload_n 0, 1) := DX8_refund_1 (127, .aload_n 0, 1) (List.mem_of_getElem? (i := 31) rfl)
theorem dX8_refund_128 : decode cX8_refund 128 = .ok (.getfield 7, 3) := DX8_refund_1 (128, .getfield 7, 3) (List.mem_of_getElem? (i := 32) rfl)
theorem dX8_refund_131 : decode cX8_refund 131 = .ok (.sipush 353, 3) := DX8_refund_1 (131, .sipush 353, 3) (List.mem_of_getElem? (i := 33) rfl)
theorem dX8_refund_134 : decode cX8_refund 134 = .ok (.iload_n 1, 1) := DX8_refund_1 (134, .iload_n 1, 1) (List.mem_of_getElem? (i := 34) rfl)
theorem dX8_refund_135 : decode cX8_refund 135 = .ok (.iadd, 1) := DX8_refund_1 (135, .iadd, 1) (List.mem_of_getElem? (i := 35) rfl)
theorem dX8_refund_136 : decode cX8_refund 136 = .ok (.dup2, 1) := DX8_refund_1 (136, .dup2, 1) (List.mem_of_getElem? (i := 36) rfl)
theorem dX8_refund_137 : decode cX8_refund 137 = .ok (.iaload, 1) := DX8_refund_1 (137, .iaload, 1) (List.mem_of_getElem? (i := 37) rfl)
theorem dX8_refund_138 : decode cX8_refund 138 = .ok (.iload_n 2, 1) := DX8_refund_1 (138, .iload_n 2, 1) (List.mem_of_getElem? (i := 38) rfl)
theorem dX8_refund_139 : decode cX8_refund 139 = .ok (.iadd, 1) := DX8_refund_1 (139, .iadd, 1) (List.mem_of_getElem? (i := 39) rfl)
theorem DX8_refund_2 : ∀ q ∈ ([(140, .iastore, 1), (141, .aload_n 0, 1), (142, .iload_n 1, 1), (143, .invokevirtual 278, 3), (146, .ireturn, 1)] : List (Nat × Instr × Nat)), decode cX8_refund q.1 = .ok q.2 := by decide +kernel
theorem dX8_refund_140 : decode cX8_refund 140 = .ok (.iastore, 1) := DX8_refund_2 (140, .iastore, 1) (List.mem_of_getElem? (i := 0) rfl)
theorem dX8_refund_141 : decode cX8_refund 141 = .ok (.aload_n 0, 1) := DX8_refund_2 (141, .aload_n 0, 1) (List.mem_of_getElem? (i := 1) rfl)
theorem dX8_refund_142 : decode cX8_refund 142 = .ok (.iload_n 1, 1) := DX8_refund_2 (142, .iload_n 1, 1) (List.mem_of_getElem? (i := 2) rfl)
theorem dX8_refund_143 : decode cX8_refund 143 = .ok (.invokevirtual 278, 3) := DX8_refund_2 (143, .invokevirtual 278, 3) (List.mem_of_getElem? (i := 3) rfl)
theorem dX8_refund_146 : decode cX8_refund 146 = .ok (.ireturn, 1) := DX8_refund_2 (146, .ireturn, 1) (List.mem_of_getElem? (i := 4) rfl)
abbrev rmX8_refund : Room := { frames := 2, cells := 0, slots := 0, locals := 60 }
set_option maxHeartbeats 400000 in
set_option maxRecDepth 100000 in
theorem met_X8_refund (l : Launch) (D : va_G) (kA : Nat → ClassId) (a : Nat → Nat) (n : Nat) (V0 : Sz) (x1 : Int) (x2 : Int) (hDt : ∀ w : Sz, va_D (fun _ => True) (cs_X8 kA a w)) {r : Int} {Vr : Sz} (hf : f_X8_refund n V0 x1 x2 = some (r, Vr)) : MZ l yX8_refund cX8_refund 7 (some .int) rmX8_refund D kA [.ref (a 0), vI x1, vI x2] (cs_X8 kA a V0) (cs_X8 kA a Vr) (some (vI r)) := by
  refine zZI (own := RX8) rfl rfl (Nat.le_of_ble_eq_true rfl) ?_
  intro p e s m args below meth c ls Q hC hK hP hl hret
  have hl : lv_has ls 7 [(0, .ref (a 0)), (1, vI x1), (2, vI x2)] := hl
  have hS : va_S (zF (cs_X8 kA a V0)) s.heap s.heap [] := va_S.rf
  have hD := zDself (C := fun w : Sz => (cs_X8 kA a w)) hDt V0 (fun _ => rfl)
  try dsimp only at hD
  generalize hAe : zF (cs_X8 kA a V0) = A0 at hS hD hret
  unfold f_X8_refund at hf
  have L75 : ∀ (k75 : Nat) (y3 : Int) (y4 : Int) (V : Sz) (H : Heap) (locs : List Loc) (ls : Array Slot), lpF (bX8_refund_75 n x1 x2) k75 (y3, y4, V) = some (r, Vr) → va_P D vwCl (cs_X8 kA a V) H → va_S A0 s.heap H locs → lv_has ls 7 [(0, .ref (a 0)), (1, vI x1), (2, vI x2), (3, vI y3), (4, vI y4)] → W p l e rmX8_refund s m args below meth c H locs 0 0 Q (F0 m 75 ls []) := by
    intro k75
    induction k75 with
    | zero => intro y3 y4 V H locs ls hf hP hS hl; exact lp_0 hf
    | succ k75 ih75 =>
      intro y3 y4 V H locs ls hf hP hS hl
      have hf := lp_s hf
      rw [bX8_refund_75_e] at hf
      refine ziload hC.1 hC.2.1 dX8_refund_75 (lv_at hl 4 rfl) <| ?_
      obtain ⟨hz_13, hf⟩ := ck_some hf
      refine zif_lt (tgt := 127) hC.1 hC.2.1 hz_13 dX8_refund_77 (by decide) (fun hc => ?_) (fun hc => ?_)
      · have hf := it_t hf hc
        refine lv_aload_n hC.1 hC.2.1 dX8_refund_127 rfl (lv_at hl 0 rfl) <| gfX8_7 hC hK hP (q0 := 0) rfl rfl dX8_refund_128 <| zsipush hC.1 hC.2.1 dX8_refund_131 (by decide) <| ziload_n hC.1 hC.2.1 dX8_refund_134 rfl (lv_at hl 1 rfl) <| ziadd hC.1 hC.2.1 dX8_refund_135 <| lv_dup2_11 hC.1 hC.2.1 dX8_refund_136 rfl rfl <| ?_
        obtain ⟨hz_14, hf⟩ := ck_some hf
        refine jal hC hK hP (q0 := 1) rfl (Nat.le_of_ble_eq_true rfl) hz_14 rfl dX8_refund_137 <| ziload_n hC.1 hC.2.1 dX8_refund_138 rfl (lv_at hl 2 rfl) <| ziadd hC.1 hC.2.1 dX8_refund_139 <| ?_
        refine jas hC hK hP (hD V) hS (q0 := 1) rfl (Nat.le_of_ble_eq_true rfl) hz_14 rfl dX8_refund_140 (fun H locs hP hS => ?_)
        obtain ⟨V_15, eV_15⟩ : ∃ y, y = uz V 0 (353 + x1).toNat ((V 0 (353 + x1).toNat) + x2) := ⟨_, rfl⟩
        have hf := nm_at hf eV_15
        have hP : va_P D vwCl (cs_X8 kA a V_15) H := by rw [eV_15]; exact hP
        refine lv_aload_n hC.1 hC.2.1 dX8_refund_141 rfl (lv_at hl 0 rfl) <| ziload_n hC.1 hC.2.1 dX8_refund_142 rfl (lv_at hl 1 rfl) <| ?_
        obtain ⟨r_16, hu, hf⟩ := bd_some hf
        refine zcVP (As := [vI x1]) (rest := []) hC hK (met_X8_leftOfGift l D kA a V_15 x1 hu) zwX8_278 hP (q0 := 0) rfl rfl rfl rfl hl.1 rfl (Nat.le_of_ble_eq_true rfl) ⟨Nat.le_of_ble_eq_true rfl, Nat.le_of_ble_eq_true rfl⟩ ⟨rfl, rfl⟩ ⟨Nat.le_refl _, Nat.le_refl _⟩ dX8_refund_143 <| ?_
        have hf := Option.some.inj hf
        simp only [Prod.mk.injEq] at hf
        exact hret (Int32.ofInt r_16) _ _ _ _ (congrArg (fun z => some (vI z)) hf.1.symm) (by rw [← hf.2]; exact hP) hS dX8_refund_146
      · have hf := it_f hf hc
        refine ziload_n hC.1 hC.2.1 dX8_refund_80 rfl (lv_at hl 1 rfl) <| ziload hC.1 hC.2.1 dX8_refund_81 (lv_at hl 4 rfl) <| ?_
        obtain ⟨r_17, hu, hf⟩ := bd_some hf
        have hPc : va_P D vwCl ([] : va_W) _ := hP.sub [] rfl
        refine zcSP (As := [vI x1, vI y4]) (rest := []) hC hK (met_X8_partOf l D kA x1 y4 hu) zwX8_103 hPc rfl hl.1 rfl (Nat.le_of_ble_eq_true rfl) ⟨Nat.le_of_ble_eq_true rfl, Nat.le_of_ble_eq_true rfl⟩ ⟨rfl, rfl⟩ ⟨Nat.le_refl _, Nat.le_refl _⟩ dX8_refund_83 <| zistore (lv' := [(5, vI r_17), (0, .ref (a 0)), (1, vI x1), (2, vI x2), (3, vI y3), (4, vI y4)]) hC.1 hC.2.1 dX8_refund_86 hl (by decide) rfl (fun ls hl => ?_)
        refine ziload_n hC.1 hC.2.1 dX8_refund_88 rfl (lv_at hl 4 rfl) <| lv_aload_n hC.1 hC.2.1 dX8_refund_89 rfl (lv_at hl 1 rfl) <| ziload hC.1 hC.2.1 dX8_refund_90 (lv_at hl 0 rfl) <| ?_
        obtain ⟨r_18, hu, hf⟩ := bd_some hf
        refine zcVP (As := [vI r_17]) (rest := [vI y3]) hC hK (met_X8_leftOf l D kA a V r_17 hu) zwX8_86 hP (q0 := 0) rfl rfl rfl rfl hl.1 rfl (Nat.le_of_ble_eq_true rfl) ⟨Nat.le_of_ble_eq_true rfl, Nat.le_of_ble_eq_true rfl⟩ ⟨rfl, rfl⟩ ⟨Nat.le_refl _, Nat.le_refl _⟩ dX8_refund_92 <| ?_
        obtain ⟨hz_19, hf⟩ := ck_some hf
        refine jmin ⟨hz_19.1, hz_19.2⟩ hC qw_1562 hl.1 (Nat.le_of_ble_eq_true rfl) ⟨Nat.le_of_ble_eq_true rfl, Nat.le_of_ble_eq_true rfl⟩ ⟨Nat.le_refl _, Nat.le_refl _⟩ dX8_refund_95 <| ?_
        refine ztopi (fun x_20 ex_20 => ?_)
        have hf := nm_at hf ex_20
        refine zistore (lv' := [(6, vI x_20), (5, vI r_17), (0, .ref (a 0)), (1, vI x1), (2, vI x2), (3, vI y3), (4, vI y4)]) hC.1 hC.2.1 dX8_refund_98 hl (by decide) rfl (fun ls hl => ?_)
        refine lv_aload_n hC.1 hC.2.1 dX8_refund_100 rfl (lv_at hl 2 rfl) <| gfX8_7 hC hK hP (q0 := 0) rfl rfl dX8_refund_101 <| zsipush hC.1 hC.2.1 dX8_refund_104 (by decide) <| ziload hC.1 hC.2.1 dX8_refund_107 (lv_at hl 1 rfl) <| ziadd hC.1 hC.2.1 dX8_refund_109 <| lv_dup2_11 hC.1 hC.2.1 dX8_refund_110 rfl rfl <| ?_
        obtain ⟨hz_21, hf⟩ := ck_some hf
        refine jal hC hK hP (q0 := 1) rfl (Nat.le_of_ble_eq_true rfl) hz_21 rfl dX8_refund_111 <| ziload hC.1 hC.2.1 dX8_refund_112 (lv_at hl 0 rfl) <| ziadd hC.1 hC.2.1 dX8_refund_114 <| ?_
        refine jas hC hK hP (hD V) hS (q0 := 1) rfl (Nat.le_of_ble_eq_true rfl) hz_21 rfl dX8_refund_115 (fun H locs hP hS => ?_)
        obtain ⟨V_22, eV_22⟩ : ∃ y, y = uz V 0 (773 + r_17).toNat ((V 0 (773 + r_17).toNat) + x_20) := ⟨_, rfl⟩
        have hf := nm_at hf eV_22
        have hP : va_P D vwCl (cs_X8 kA a V_22) H := by rw [eV_22]; exact hP
        refine ziload_n hC.1 hC.2.1 dX8_refund_116 rfl (lv_at hl 5 rfl) <| ziload hC.1 hC.2.1 dX8_refund_117 (lv_at hl 0 rfl) <| zisub hC.1 hC.2.1 dX8_refund_119 <| ?_
        refine ztopi (fun x_23 ex_23 => ?_)
        have hf := nm_at hf ex_23
        refine zistore_n (lv' := [(3, vI x_23), (6, vI x_20), (5, vI r_17), (0, .ref (a 0)), (1, vI x1), (2, vI x2), (4, vI y4)]) hC.1 hC.2.1 dX8_refund_120 rfl hl (by decide) rfl (fun ls hl => ?_)
        obtain ⟨x_24, ex_24⟩ : ∃ y : Int, y = y4 + (-1) := ⟨_, rfl⟩
        have hf := nm_at hf ex_24
        refine ziinc (v := x_24) (lv' := [(4, vI x_24), (3, vI x_23), (6, vI x_20), (5, vI r_17), (0, .ref (a 0)), (1, vI x1), (2, vI x2)]) hC.1 hC.2.1 dX8_refund_121 hl (k := 6) rfl ex_24 (by decide) rfl (fun ls hl => ?_)
        exact lv_goto (tgt := 75) hC.1 hC.2.1 dX8_refund_124 (by decide) <| ih75 _ _ _ _ _ _ hf hP hS (lv_sub hl [4, 5, 6, 1, 0] rfl)
  have J46 : ∀ (V : Sz) (z0 : Int) (H : Heap) (locs : List Loc) (ls : Array Slot), jX8_refund_46 n x1 x2 V z0 = some (r, Vr) → va_P D vwCl (cs_X8 kA a V) H → va_S A0 s.heap H locs → lv_has ls 7 [(0, .ref (a 0)), (1, vI x1), (2, vI x2)] → W p l e rmX8_refund s m args below meth c H locs 0 0 Q (F0 m 46 ls [vI z0, .ref (a 0)]) := by
    intro V z0 H locs ls hf hP hS hl
    unfold jX8_refund_46 at hf
    refine ziconst hC.1 hC.2.1 dX8_refund_46 <| ?_
    obtain ⟨⟨r_8, V_9⟩, hu, hf⟩ := bd_some hf
    have hDc := hDt
    refine zcVZ (As := [vI z0, vI 3]) (rest := []) hC hK (met_X8_fails l D kA a V z0 3 hDc hu) zwX8_261 hS (zFsub (hD V) [0, 1, 2, 3, 4, 5, 6, 7, 8, 9, 10, 11, 12, 13, 14, 15, 16] rfl) hP (q0 := 0) rfl rfl rfl rfl hl.1 rfl (Nat.le_of_ble_eq_true rfl) ⟨Nat.le_of_ble_eq_true rfl, Nat.le_of_ble_eq_true rfl⟩ ⟨rfl, rfl⟩ ⟨Nat.le_refl _, Nat.le_refl _⟩ dX8_refund_47 (fun H locs hP1 hk1 hS => ?_)
    have hP : va_P D vwCl (cs_X8 kA a V_9) H := hP1
    refine zifb_eq (tgt := 55) hC.1 hC.2.1 dX8_refund_50 (by decide) (fun hc => ?_) (fun hc => ?_)
    · have hf := it_t hf hc
      refine lv_aload_n hC.1 hC.2.1 dX8_refund_55 rfl (lv_at hl 0 rfl) <| ?_
      obtain ⟨V_10, hu, hf⟩ := bd_some hf
      have hDc := hDt
      refine zcVZ (As := []) (rest := []) hC hK (met_X8_remembers l D kA a n V_9 hDc hu) zwX8_300 hS (zFsub (hD V_9) [0, 1, 2, 3, 4, 5, 6, 7, 8, 9, 10, 11, 12, 13, 14, 15, 16] rfl) hP (q0 := 0) rfl rfl rfl rfl hl.1 rfl (Nat.le_of_ble_eq_true rfl) ⟨Nat.le_of_ble_eq_true rfl, Nat.le_of_ble_eq_true rfl⟩ ⟨rfl, rfl⟩ ⟨Nat.le_refl _, Nat.le_refl _⟩ dX8_refund_56 (fun H locs hP1 hk1 hS => ?_)
      have hP : va_P D vwCl (cs_X8 kA a V_10) H := hP1
      refine ziload_n hC.1 hC.2.1 dX8_refund_59 rfl (lv_at hl 2 rfl) <| zistore_n (lv' := [(3, vI x2), (0, .ref (a 0)), (1, vI x1), (2, vI x2)]) hC.1 hC.2.1 dX8_refund_60 rfl hl (by decide) rfl (fun ls hl => ?_)
      refine lv_aload_n hC.1 hC.2.1 dX8_refund_61 rfl (lv_at hl 1 rfl) <| gfX8_7 hC hK hP (q0 := 0) rfl rfl dX8_refund_62 <| zsipush hC.1 hC.2.1 dX8_refund_65 (by decide) <| ziload_n hC.1 hC.2.1 dX8_refund_68 rfl (lv_at hl 2 rfl) <| ziadd hC.1 hC.2.1 dX8_refund_69 <| ?_
      obtain ⟨hz_11, hf⟩ := ck_some hf
      refine jal hC hK hP (q0 := 1) rfl (Nat.le_of_ble_eq_true rfl) hz_11 rfl dX8_refund_70 <| ziconst hC.1 hC.2.1 dX8_refund_71 <| zisub hC.1 hC.2.1 dX8_refund_72 <| ?_
      refine ztopi (fun x_12 ex_12 => ?_)
      have hf := nm_at hf ex_12
      refine zistore (lv' := [(4, vI x_12), (3, vI x2), (0, .ref (a 0)), (1, vI x1), (2, vI x2)]) hC.1 hC.2.1 dX8_refund_73 hl (by decide) rfl (fun ls hl => ?_)
      exact L75 n _ _ _ _ _ _ hf hP hS (lv_sub hl [2, 3, 4, 1, 0] rfl)
    · have hf := it_f hf hc
      refine ziconst hC.1 hC.2.1 dX8_refund_53 <| ?_
      have hf := Option.some.inj hf
      simp only [Prod.mk.injEq] at hf
      exact hret (Int32.ofInt 0) _ _ _ _ (congrArg (fun z => some (vI z)) hf.1.symm) (by rw [← hf.2]; exact hP) hS dX8_refund_54
  have J24 : ∀ (V : Sz) (z0 : Int) (H : Heap) (locs : List Loc) (ls : Array Slot), jX8_refund_24 n x1 x2 V z0 = some (r, Vr) → va_P D vwCl (cs_X8 kA a V) H → va_S A0 s.heap H locs → lv_has ls 7 [(0, .ref (a 0)), (1, vI x1), (2, vI x2)] → W p l e rmX8_refund s m args below meth c H locs 0 0 Q (F0 m 24 ls [vI z0, .ref (a 0)]) := by
    intro V z0 H locs ls hf hP hS hl
    unfold jX8_refund_24 at hf
    refine ziconst hC.1 hC.2.1 dX8_refund_24 <| ?_
    obtain ⟨⟨r_4, V_5⟩, hu, hf⟩ := bd_some hf
    have hDc := hDt
    refine zcVZ (As := [vI z0, vI 2]) (rest := []) hC hK (met_X8_fails l D kA a V z0 2 hDc hu) zwX8_261 hS (zFsub (hD V) [0, 1, 2, 3, 4, 5, 6, 7, 8, 9, 10, 11, 12, 13, 14, 15, 16] rfl) hP (q0 := 0) rfl rfl rfl rfl hl.1 rfl (Nat.le_of_ble_eq_true rfl) ⟨Nat.le_of_ble_eq_true rfl, Nat.le_of_ble_eq_true rfl⟩ ⟨rfl, rfl⟩ ⟨Nat.le_refl _, Nat.le_refl _⟩ dX8_refund_25 (fun H locs hP1 hk1 hS => ?_)
    have hP : va_P D vwCl (cs_X8 kA a V_5) H := hP1
    refine zifb_ne (tgt := 53) hC.1 hC.2.1 dX8_refund_28 (by decide) (fun hc => ?_) (fun hc => ?_)
    · have hf := it_t hf hc
      refine ziconst hC.1 hC.2.1 dX8_refund_53 <| ?_
      have hf := Option.some.inj hf
      simp only [Prod.mk.injEq] at hf
      exact hret (Int32.ofInt 0) _ _ _ _ (congrArg (fun z => some (vI z)) hf.1.symm) (by rw [← hf.2]; exact hP) hS dX8_refund_54
    · have hf := it_f hf hc
      refine lv_aload_n hC.1 hC.2.1 dX8_refund_31 rfl (lv_at hl 0 rfl) <| lv_aload_n hC.1 hC.2.1 dX8_refund_32 rfl (lv_at hl 0 rfl) <| ziload_n hC.1 hC.2.1 dX8_refund_33 rfl (lv_at hl 1 rfl) <| ?_
      obtain ⟨r_6, hu, hf⟩ := bd_some hf
      refine zcVP (As := [vI x1]) (rest := [.ref (a 0)]) hC hK (met_X8_leftOfGift l D kA a V_5 x1 hu) zwX8_278 hP (q0 := 0) rfl rfl rfl rfl hl.1 rfl (Nat.le_of_ble_eq_true rfl) ⟨Nat.le_of_ble_eq_true rfl, Nat.le_of_ble_eq_true rfl⟩ ⟨rfl, rfl⟩ ⟨Nat.le_refl _, Nat.le_refl _⟩ dX8_refund_34 <| ziload_n hC.1 hC.2.1 dX8_refund_37 rfl (lv_at hl 2 rfl) <| ?_
      obtain ⟨hz_7, hf⟩ := ck_some hf
      refine zicmp_ge (tgt := 45) hC.1 hC.2.1 ⟨hz_7.1, hz_7.2⟩ dX8_refund_38 (by decide) (fun hc => ?_) (fun hc => ?_)
      · have hf := it_t hf hc
        exact ziconst hC.1 hC.2.1 dX8_refund_45 <| J46 _ _ _ _ _ hf hP hS (lv_sub hl [0, 1, 2] rfl)
      · have hf := it_f hf hc
        exact ziconst hC.1 hC.2.1 dX8_refund_41 <| lv_goto (tgt := 46) hC.1 hC.2.1 dX8_refund_42 (by decide) <| J46 _ _ _ _ _ hf hP hS (lv_sub hl [0, 1, 2] rfl)
  refine lv_aload_n hC.1 hC.2.1 dX8_refund_0 rfl (lv_at hl 0 rfl) <| ziload_n hC.1 hC.2.1 dX8_refund_1 rfl (lv_at hl 1 rfl) <| ?_
  obtain ⟨⟨r_1, V_2⟩, hu, hf⟩ := bd_some hf
  have hDc := hDt
  refine zcVZ (As := [vI x1]) (rest := []) hC hK (met_X8_noGift l D kA a V0 x1 hDc hu) zwX8_265 hS (zFsub (hD V0) [0, 1, 2, 3, 4, 5, 6, 7, 8, 9, 10, 11, 12, 13, 14, 15, 16] rfl) hP (q0 := 0) rfl rfl rfl rfl hl.1 rfl (Nat.le_of_ble_eq_true rfl) ⟨Nat.le_of_ble_eq_true rfl, Nat.le_of_ble_eq_true rfl⟩ ⟨rfl, rfl⟩ ⟨Nat.le_refl _, Nat.le_refl _⟩ dX8_refund_2 (fun H locs hP1 hk1 hS => ?_)
  have hP : va_P D vwCl (cs_X8 kA a V_2) H := hP1
  refine zifb_ne (tgt := 53) hC.1 hC.2.1 dX8_refund_5 (by decide) (fun hc => ?_) (fun hc => ?_)
  · have hf := it_t hf hc
    refine ziconst hC.1 hC.2.1 dX8_refund_53 <| ?_
    have hf := Option.some.inj hf
    simp only [Prod.mk.injEq] at hf
    exact hret (Int32.ofInt 0) _ _ _ _ (congrArg (fun z => some (vI z)) hf.1.symm) (by rw [← hf.2]; exact hP) hS dX8_refund_54
  · have hf := it_f hf hc
    refine lv_aload_n hC.1 hC.2.1 dX8_refund_8 rfl (lv_at hl 0 rfl) <| ziload_n hC.1 hC.2.1 dX8_refund_9 rfl (lv_at hl 2 rfl) <| ziconst hC.1 hC.2.1 dX8_refund_10 <| zldc (n := 999999) hC qw_1434 (by decide) dX8_refund_11 <| ?_
    obtain ⟨r_3, hu, hf⟩ := bd_some hf
    have hPc : va_P D vwCl ([] : va_W) _ := hP.sub [] rfl
    refine zcSP (As := [vI x2, vI 1, vI 999999]) (rest := [.ref (a 0)]) hC hK (met_X8_inRange l D kA x2 1 999999 hu) zwX8_79 hPc rfl hl.1 rfl (Nat.le_of_ble_eq_true rfl) ⟨Nat.le_of_ble_eq_true rfl, Nat.le_of_ble_eq_true rfl⟩ ⟨rfl, rfl⟩ ⟨Nat.le_refl _, Nat.le_refl _⟩ dX8_refund_13 <| zifb_ne (tgt := 23) hC.1 hC.2.1 dX8_refund_16 (by decide) (fun hc => ?_) (fun hc => ?_)
    · have hf := it_t hf hc
      exact ziconst hC.1 hC.2.1 dX8_refund_23 <| J24 _ _ _ _ _ hf hP hS (lv_sub hl [0, 1, 2] rfl)
    · have hf := it_f hf hc
      exact ziconst hC.1 hC.2.1 dX8_refund_19 <| lv_goto (tgt := 24) hC.1 hC.2.1 dX8_refund_20 (by decide) <| J24 _ _ _ _ _ hf hP hS (lv_sub hl [0, 1, 2] rfl)
theorem DX8_setTaxLimit_0 : ∀ q ∈ ([(0, .aload_n 0, 1), (1, .iload_n 1, 1), (2, .invokevirtual 287, 3), (5, .ifCond .ne 26, 3), (8, .aload_n 0, 1), (9, .iload_n 2, 1), (10, .iconst 0, 1), (11, .ldc 207, 2), (13, .invokestatic 79, 3), (16, .ifCond .ne 7, 3), (19, .iconst 1, 1), (20, .goto 4, 3), (23, .iconst 0, 1), (24, .iconst 2, 1), (25, .invokevirtual 261, 3), (28, .ifCond .eq 5, 3), (31, .iconst 0, 1), (32, .ireturn, 1), (33, .aload_n 0, 1), (34, .invokevirtual 300, 3), (37, .aload_n 0, 1), (38, .getfield 7, 3), (41, .bipush 10, 2), (43, .iload_n 1, 1), (44, .iadd, 1), (45, .iaload, 1), (46, .istore_n 3, 1), (47, .aload_n 0, 1), (48, .getfield 7, 3), (51, .bipush 10, 2), (53, .iload_n 1, 1), (54, .iadd, 1), (55, .iload_n 2, 1), (56, .iastore, 1), (57, .iload_n 3, 1), (58, .ireturn, 1)] : List (Nat × Instr × Nat)), decode cX8_setTaxLimit q.1 = .ok q.2 := by decide +kernel
theorem dX8_setTaxLimit_0 : decode cX8_setTaxLimit 0 = .ok (.aload_n 0, 1) := DX8_setTaxLimit_0 (0, .aload_n 0, 1) (List.mem_of_getElem? (i := 0) rfl)
theorem dX8_setTaxLimit_1 : decode cX8_setTaxLimit 1 = .ok (.iload_n 1, 1) := DX8_setTaxLimit_0 (1, .iload_n 1, 1) (List.mem_of_getElem? (i := 1) rfl)
theorem dX8_setTaxLimit_2 : decode cX8_setTaxLimit 2 = .ok (.invokevirtual 287, 3) := DX8_setTaxLimit_0 (2, .invokevirtual 287, 3) (List.mem_of_getElem? (i := 2) rfl)
theorem dX8_setTaxLimit_5 : decode cX8_setTaxLimit 5 = .ok (.ifCond .ne 26, 3) := DX8_setTaxLimit_0 (5, .ifCond .ne 26, 3) (List.mem_of_getElem? (i := 3) rfl)
theorem dX8_setTaxLimit_8 : decode cX8_setTaxLimit 8 = .ok (.aload_n 0, 1) := DX8_setTaxLimit_0 (8, .aload_n 0, 1) (List.mem_of_getElem? (i := 4) rfl)
theorem dX8_setTaxLimit_9 : decode cX8_setTaxLimit 9 = .ok (.iload_n 2, 1) := DX8_setTaxLimit_0 (9, .iload_n 2, 1) (List.mem_of_getElem? (i := 5) rfl)
theorem dX8_setTaxLimit_10 : decode cX8_setTaxLimit 10 = .ok (.iconst 0, 1) := DX8_setTaxLimit_0 (10, .iconst 0, 1) (List.mem_of_getElem? (i := 6) rfl)
theorem dX8_setTaxLimit_11 : decode cX8_setTaxLimit 11 = .ok (.ldc 207, 2) := DX8_setTaxLimit_0 (11, .ldc 207, 2) (List.mem_of_getElem? (i := 7) rfl)
theorem dX8_setTaxLimit_13 : decode cX8_setTaxLimit 13 = .ok (.invokestatic 79, 3) := DX8_setTaxLimit_0 (13, .invokestatic 79, 3) (List.mem_of_getElem? (i := 8) rfl)
theorem dX8_setTaxLimit_16 : decode cX8_setTaxLimit 16 = .ok (.ifCond .ne 7, 3) := DX8_setTaxLimit_0 (16, .ifCond .ne 7, 3) (List.mem_of_getElem? (i := 9) rfl)
theorem dX8_setTaxLimit_19 : decode cX8_setTaxLimit 19 = .ok (.iconst 1, 1) := DX8_setTaxLimit_0 (19, .iconst 1, 1) (List.mem_of_getElem? (i := 10) rfl)
theorem dX8_setTaxLimit_20 : decode cX8_setTaxLimit 20 = .ok (.goto 4, 3) := DX8_setTaxLimit_0 (20, .goto 4, 3) (List.mem_of_getElem? (i := 11) rfl)
theorem dX8_setTaxLimit_23 : decode cX8_setTaxLimit 23 = .ok (.iconst 0, 1) := DX8_setTaxLimit_0 (23, .iconst 0, 1) (List.mem_of_getElem? (i := 12) rfl)
theorem dX8_setTaxLimit_24 : decode cX8_setTaxLimit 24 = .ok (.iconst 2, 1) := DX8_setTaxLimit_0 (24, .iconst 2, 1) (List.mem_of_getElem? (i := 13) rfl)
theorem dX8_setTaxLimit_25 : decode cX8_setTaxLimit 25 = .ok (.invokevirtual 261, 3) := DX8_setTaxLimit_0 (25, .invokevirtual 261, 3) (List.mem_of_getElem? (i := 14) rfl)
theorem dX8_setTaxLimit_28 : decode cX8_setTaxLimit 28 = .ok (.ifCond .eq 5, 3) := DX8_setTaxLimit_0 (28, .ifCond .eq 5, 3) (List.mem_of_getElem? (i := 15) rfl)
theorem dX8_setTaxLimit_31 : decode cX8_setTaxLimit 31 = .ok (.iconst 0, 1) := DX8_setTaxLimit_0 (31, .iconst 0, 1) (List.mem_of_getElem? (i := 16) rfl)
theorem dX8_setTaxLimit_32 : decode cX8_setTaxLimit 32 = .ok (.ireturn, 1) := DX8_setTaxLimit_0 (32, .ireturn, 1) (List.mem_of_getElem? (i := 17) rfl)
theorem dX8_setTaxLimit_33 : decode cX8_setTaxLimit 33 = .ok (.aload_n 0, 1) := DX8_setTaxLimit_0 (33, .aload_n 0, 1) (List.mem_of_getElem? (i := 18) rfl)
theorem dX8_setTaxLimit_34 : decode cX8_setTaxLimit 34 = .ok (.invokevirtual 300, 3) := DX8_setTaxLimit_0 (34, .invokevirtual 300, 3) (List.mem_of_getElem? (i := 19) rfl)
theorem dX8_setTaxLimit_37 : decode cX8_setTaxLimit 37 = .ok (.aload_n 0, 1) := DX8_setTaxLimit_0 (37, .aload_n 0, 1) (List.mem_of_getElem? (i := 20) rfl)
theorem dX8_setTaxLimit_38 : decode cX8_setTaxLimit 38 = .ok (.getfield 7, 3) := DX8_setTaxLimit_0 (38, .getfield 7, 3) (List.mem_of_getElem? (i := 21) rfl)
theorem dX8_setTaxLimit_41 : decode cX8_setTaxLimit 41 = .ok (.bipush 10, 2) := DX8_setTaxLimit_0 (41, .bipush 10, 2) (List.mem_of_getElem? (i := 22) rfl)
theorem dX8_setTaxLimit_43 : decode cX8_setTaxLimit 43 = .ok (.iload_n 1, 1) := DX8_setTaxLimit_0 (43, .iload_n 1, 1) (List.mem_of_getElem? (i := 23) rfl)
theorem dX8_setTaxLimit_44 : decode cX8_setTaxLimit 44 = .ok (.iadd, 1) := DX8_setTaxLimit_0 (44, .iadd, 1) (List.mem_of_getElem? (i := 24) rfl)
theorem dX8_setTaxLimit_45 : decode cX8_setTaxLimit 45 = .ok (.iaload, 1) := DX8_setTaxLimit_0 (45, .iaload, 1) (List.mem_of_getElem? (i := 25) rfl)
theorem dX8_setTaxLimit_46 : decode cX8_setTaxLimit 46 = .ok (.istore_n 3, 1) := DX8_setTaxLimit_0 (46, .istore_n 3, 1) (List.mem_of_getElem? (i := 26) rfl)
theorem dX8_setTaxLimit_47 : decode cX8_setTaxLimit 47 = .ok (.aload_n 0, 1) := DX8_setTaxLimit_0 (47, .aload_n 0, 1) (List.mem_of_getElem? (i := 27) rfl)
theorem dX8_setTaxLimit_48 : decode cX8_setTaxLimit 48 = .ok (.getfield 7, 3) := DX8_setTaxLimit_0 (48, .getfield 7, 3) (List.mem_of_getElem? (i := 28) rfl)
theorem dX8_setTaxLimit_51 : decode cX8_setTaxLimit 51 = .ok (.bipush 10, 2) := DX8_setTaxLimit_0 (51, .bipush 10, 2) (List.mem_of_getElem? (i := 29) rfl)
theorem dX8_setTaxLimit_53 : decode cX8_setTaxLimit 53 = .ok (.iload_n 1, 1) := DX8_setTaxLimit_0 (53, .iload_n 1, 1) (List.mem_of_getElem? (i := 30) rfl)
theorem dX8_setTaxLimit_54 : decode cX8_setTaxLimit 54 = .ok (.iadd, 1) := DX8_setTaxLimit_0 (54, .iadd, 1) (List.mem_of_getElem? (i := 31) rfl)
theorem dX8_setTaxLimit_55 : decode cX8_setTaxLimit 55 = .ok (.iload_n 2, 1) := DX8_setTaxLimit_0 (55, .iload_n 2, 1) (List.mem_of_getElem? (i := 32) rfl)
theorem dX8_setTaxLimit_56 : decode cX8_setTaxLimit 56 = .ok (.iastore, 1) := DX8_setTaxLimit_0 (56, .iastore, 1) (List.mem_of_getElem? (i := 33) rfl)
theorem dX8_setTaxLimit_57 : decode cX8_setTaxLimit 57 = .ok (.iload_n 3, 1) := DX8_setTaxLimit_0 (57, .iload_n 3, 1) (List.mem_of_getElem? (i := 34) rfl)
theorem dX8_setTaxLimit_58 : decode cX8_setTaxLimit 58 = .ok (.ireturn, 1) := DX8_setTaxLimit_0 (58, .ireturn, 1) (List.mem_of_getElem? (i := 35) rfl)
abbrev rmX8_setTaxLimit : Room := { frames := 2, cells := 0, slots := 0, locals := 45 }
set_option maxHeartbeats 400000 in
set_option maxRecDepth 100000 in
theorem met_X8_setTaxLimit (l : Launch) (D : va_G) (kA : Nat → ClassId) (a : Nat → Nat) (n : Nat) (V0 : Sz) (x1 : Int) (x2 : Int) (hDt : ∀ w : Sz, va_D (fun _ => True) (cs_X8 kA a w)) {r : Int} {Vr : Sz} (hf : f_X8_setTaxLimit n V0 x1 x2 = some (r, Vr)) : MZ l yX8_setTaxLimit cX8_setTaxLimit 4 (some .int) rmX8_setTaxLimit D kA [.ref (a 0), vI x1, vI x2] (cs_X8 kA a V0) (cs_X8 kA a Vr) (some (vI r)) := by
  refine zZI (own := RX8) rfl rfl (Nat.le_of_ble_eq_true rfl) ?_
  intro p e s m args below meth c ls Q hC hK hP hl hret
  have hl : lv_has ls 4 [(0, .ref (a 0)), (1, vI x1), (2, vI x2)] := hl
  have hS : va_S (zF (cs_X8 kA a V0)) s.heap s.heap [] := va_S.rf
  have hD := zDself (C := fun w : Sz => (cs_X8 kA a w)) hDt V0 (fun _ => rfl)
  try dsimp only at hD
  generalize hAe : zF (cs_X8 kA a V0) = A0 at hS hD hret
  unfold f_X8_setTaxLimit at hf
  have J24 : ∀ (V : Sz) (z0 : Int) (H : Heap) (locs : List Loc) (ls : Array Slot), jX8_setTaxLimit_24 n x1 x2 V z0 = some (r, Vr) → va_P D vwCl (cs_X8 kA a V) H → va_S A0 s.heap H locs → lv_has ls 4 [(0, .ref (a 0)), (1, vI x1), (2, vI x2)] → W p l e rmX8_setTaxLimit s m args below meth c H locs 0 0 Q (F0 m 24 ls [vI z0, .ref (a 0)]) := by
    intro V z0 H locs ls hf hP hS hl
    unfold jX8_setTaxLimit_24 at hf
    refine ziconst hC.1 hC.2.1 dX8_setTaxLimit_24 <| ?_
    obtain ⟨⟨r_4, V_5⟩, hu, hf⟩ := bd_some hf
    have hDc := hDt
    refine zcVZ (As := [vI z0, vI 2]) (rest := []) hC hK (met_X8_fails l D kA a V z0 2 hDc hu) zwX8_261 hS (zFsub (hD V) [0, 1, 2, 3, 4, 5, 6, 7, 8, 9, 10, 11, 12, 13, 14, 15, 16] rfl) hP (q0 := 0) rfl rfl rfl rfl hl.1 rfl (Nat.le_of_ble_eq_true rfl) ⟨Nat.le_of_ble_eq_true rfl, Nat.le_of_ble_eq_true rfl⟩ ⟨rfl, rfl⟩ ⟨Nat.le_refl _, Nat.le_refl _⟩ dX8_setTaxLimit_25 (fun H locs hP1 hk1 hS => ?_)
    have hP : va_P D vwCl (cs_X8 kA a V_5) H := hP1
    refine zifb_eq (tgt := 33) hC.1 hC.2.1 dX8_setTaxLimit_28 (by decide) (fun hc => ?_) (fun hc => ?_)
    · have hf := it_t hf hc
      refine lv_aload_n hC.1 hC.2.1 dX8_setTaxLimit_33 rfl (lv_at hl 0 rfl) <| ?_
      obtain ⟨V_6, hu, hf⟩ := bd_some hf
      have hDc := hDt
      refine zcVZ (As := []) (rest := []) hC hK (met_X8_remembers l D kA a n V_5 hDc hu) zwX8_300 hS (zFsub (hD V_5) [0, 1, 2, 3, 4, 5, 6, 7, 8, 9, 10, 11, 12, 13, 14, 15, 16] rfl) hP (q0 := 0) rfl rfl rfl rfl hl.1 rfl (Nat.le_of_ble_eq_true rfl) ⟨Nat.le_of_ble_eq_true rfl, Nat.le_of_ble_eq_true rfl⟩ ⟨rfl, rfl⟩ ⟨Nat.le_refl _, Nat.le_refl _⟩ dX8_setTaxLimit_34 (fun H locs hP1 hk1 hS => ?_)
      have hP : va_P D vwCl (cs_X8 kA a V_6) H := hP1
      refine lv_aload_n hC.1 hC.2.1 dX8_setTaxLimit_37 rfl (lv_at hl 0 rfl) <| gfX8_7 hC hK hP (q0 := 0) rfl rfl dX8_setTaxLimit_38 <| zbipush hC.1 hC.2.1 dX8_setTaxLimit_41 (by decide) <| ziload_n hC.1 hC.2.1 dX8_setTaxLimit_43 rfl (lv_at hl 1 rfl) <| ziadd hC.1 hC.2.1 dX8_setTaxLimit_44 <| ?_
      obtain ⟨hz_7, hf⟩ := ck_some hf
      refine jal hC hK hP (q0 := 1) rfl (Nat.le_of_ble_eq_true rfl) hz_7 rfl dX8_setTaxLimit_45 <| ?_
      refine ztopi (fun x_8 ex_8 => ?_)
      have hf := nm_at hf ex_8
      refine zistore_n (lv' := [(3, vI x_8), (0, .ref (a 0)), (1, vI x1), (2, vI x2)]) hC.1 hC.2.1 dX8_setTaxLimit_46 rfl hl (by decide) rfl (fun ls hl => ?_)
      refine lv_aload_n hC.1 hC.2.1 dX8_setTaxLimit_47 rfl (lv_at hl 1 rfl) <| gfX8_7 hC hK hP (q0 := 0) rfl rfl dX8_setTaxLimit_48 <| zbipush hC.1 hC.2.1 dX8_setTaxLimit_51 (by decide) <| ziload_n hC.1 hC.2.1 dX8_setTaxLimit_53 rfl (lv_at hl 2 rfl) <| ziadd hC.1 hC.2.1 dX8_setTaxLimit_54 <| ziload_n hC.1 hC.2.1 dX8_setTaxLimit_55 rfl (lv_at hl 3 rfl) <| ?_
      refine jas hC hK hP (hD V_6) hS (q0 := 1) rfl (Nat.le_of_ble_eq_true rfl) hz_7 rfl dX8_setTaxLimit_56 (fun H locs hP hS => ?_)
      obtain ⟨V_9, eV_9⟩ : ∃ y, y = uz V_6 0 (10 + x1).toNat x2 := ⟨_, rfl⟩
      have hf := nm_at hf eV_9
      have hP : va_P D vwCl (cs_X8 kA a V_9) H := by rw [eV_9]; exact hP
      refine ziload_n hC.1 hC.2.1 dX8_setTaxLimit_57 rfl (lv_at hl 0 rfl) <| ?_
      have hf := Option.some.inj hf
      simp only [Prod.mk.injEq] at hf
      exact hret (Int32.ofInt x_8) _ _ _ _ (congrArg (fun z => some (vI z)) hf.1.symm) (by rw [← hf.2]; exact hP) hS dX8_setTaxLimit_58
    · have hf := it_f hf hc
      refine ziconst hC.1 hC.2.1 dX8_setTaxLimit_31 <| ?_
      have hf := Option.some.inj hf
      simp only [Prod.mk.injEq] at hf
      exact hret (Int32.ofInt 0) _ _ _ _ (congrArg (fun z => some (vI z)) hf.1.symm) (by rw [← hf.2]; exact hP) hS dX8_setTaxLimit_32
  refine lv_aload_n hC.1 hC.2.1 dX8_setTaxLimit_0 rfl (lv_at hl 0 rfl) <| ziload_n hC.1 hC.2.1 dX8_setTaxLimit_1 rfl (lv_at hl 1 rfl) <| ?_
  obtain ⟨⟨r_1, V_2⟩, hu, hf⟩ := bd_some hf
  have hDc := hDt
  refine zcVZ (As := [vI x1]) (rest := []) hC hK (met_X8_noDonor l D kA a V0 x1 hDc hu) zwX8_287 hS (zFsub (hD V0) [0, 1, 2, 3, 4, 5, 6, 7, 8, 9, 10, 11, 12, 13, 14, 15, 16] rfl) hP (q0 := 0) rfl rfl rfl rfl hl.1 rfl (Nat.le_of_ble_eq_true rfl) ⟨Nat.le_of_ble_eq_true rfl, Nat.le_of_ble_eq_true rfl⟩ ⟨rfl, rfl⟩ ⟨Nat.le_refl _, Nat.le_refl _⟩ dX8_setTaxLimit_2 (fun H locs hP1 hk1 hS => ?_)
  have hP : va_P D vwCl (cs_X8 kA a V_2) H := hP1
  refine zifb_ne (tgt := 31) hC.1 hC.2.1 dX8_setTaxLimit_5 (by decide) (fun hc => ?_) (fun hc => ?_)
  · have hf := it_t hf hc
    refine ziconst hC.1 hC.2.1 dX8_setTaxLimit_31 <| ?_
    have hf := Option.some.inj hf
    simp only [Prod.mk.injEq] at hf
    exact hret (Int32.ofInt 0) _ _ _ _ (congrArg (fun z => some (vI z)) hf.1.symm) (by rw [← hf.2]; exact hP) hS dX8_setTaxLimit_32
  · have hf := it_f hf hc
    refine lv_aload_n hC.1 hC.2.1 dX8_setTaxLimit_8 rfl (lv_at hl 0 rfl) <| ziload_n hC.1 hC.2.1 dX8_setTaxLimit_9 rfl (lv_at hl 2 rfl) <| ziconst hC.1 hC.2.1 dX8_setTaxLimit_10 <| zldc (n := 999999) hC qw_1434 (by decide) dX8_setTaxLimit_11 <| ?_
    obtain ⟨r_3, hu, hf⟩ := bd_some hf
    have hPc : va_P D vwCl ([] : va_W) _ := hP.sub [] rfl
    refine zcSP (As := [vI x2, vI 0, vI 999999]) (rest := [.ref (a 0)]) hC hK (met_X8_inRange l D kA x2 0 999999 hu) zwX8_79 hPc rfl hl.1 rfl (Nat.le_of_ble_eq_true rfl) ⟨Nat.le_of_ble_eq_true rfl, Nat.le_of_ble_eq_true rfl⟩ ⟨rfl, rfl⟩ ⟨Nat.le_refl _, Nat.le_refl _⟩ dX8_setTaxLimit_13 <| zifb_ne (tgt := 23) hC.1 hC.2.1 dX8_setTaxLimit_16 (by decide) (fun hc => ?_) (fun hc => ?_)
    · have hf := it_t hf hc
      exact ziconst hC.1 hC.2.1 dX8_setTaxLimit_23 <| J24 _ _ _ _ _ hf hP hS (lv_sub hl [0, 1, 2] rfl)
    · have hf := it_f hf hc
      exact ziconst hC.1 hC.2.1 dX8_setTaxLimit_19 <| lv_goto (tgt := 24) hC.1 hC.2.1 dX8_setTaxLimit_20 (by decide) <| J24 _ _ _ _ _ hf hP hS (lv_sub hl [0, 1, 2] rfl)
theorem DX8_setRate_0 : ∀ q ∈ ([(0, .aload_n 0, 1), (1, .iconst 0, 1), (2, .putfield 65, 3), (5, .aload_n 0, 1), (6, .iload_n 1, 1), (7, .iconst 0, 1), (8, .bipush 100, 2), (10, .invokestatic 79, 3), (13, .ifCond .ne 7, 3), (16, .iconst 1, 1), (17, .goto 4, 3), (20, .iconst 0, 1), (21, .iconst 1, 1), (22, .invokevirtual 261, 3), (25, .ifCond .eq 5, 3), (28, .iconst 0, 1), (29, .ireturn, 1), (30, .aload_n 0, 1), (31, .invokevirtual 300, 3), (34, .aload_n 0, 1), (35, .getfield 7, 3), (38, .iconst 5, 1), (39, .iaload, 1), (40, .istore_n 2, 1), (41, .aload_n 0, 1), (42, .getfield 7, 3), (45, .iconst 5, 1), (46, .iload_n 1, 1), (47, .iastore, 1), (48, .iload_n 2, 1), (49, .ireturn, 1)] : List (Nat × Instr × Nat)), decode cX8_setRate q.1 = .ok q.2 := by decide +kernel
theorem dX8_setRate_0 : decode cX8_setRate 0 = .ok (.aload_n 0, 1) := DX8_setRate_0 (0, .aload_n 0, 1) (List.mem_of_getElem? (i := 0) rfl)
theorem dX8_setRate_1 : decode cX8_setRate 1 = .ok (.iconst 0, 1) := DX8_setRate_0 (1, .iconst 0, 1) (List.mem_of_getElem? (i := 1) rfl)
theorem dX8_setRate_2 : decode cX8_setRate 2 = .ok (.putfield 65, 3) := DX8_setRate_0 (2, .putfield 65, 3) (List.mem_of_getElem? (i := 2) rfl)
theorem dX8_setRate_5 : decode cX8_setRate 5 = .ok (.aload_n 0, 1) := DX8_setRate_0 (5, .aload_n 0, 1) (List.mem_of_getElem? (i := 3) rfl)
theorem dX8_setRate_6 : decode cX8_setRate 6 = .ok (.iload_n 1, 1) := DX8_setRate_0 (6, .iload_n 1, 1) (List.mem_of_getElem? (i := 4) rfl)
theorem dX8_setRate_7 : decode cX8_setRate 7 = .ok (.iconst 0, 1) := DX8_setRate_0 (7, .iconst 0, 1) (List.mem_of_getElem? (i := 5) rfl)
theorem dX8_setRate_8 : decode cX8_setRate 8 = .ok (.bipush 100, 2) := DX8_setRate_0 (8, .bipush 100, 2) (List.mem_of_getElem? (i := 6) rfl)
theorem dX8_setRate_10 : decode cX8_setRate 10 = .ok (.invokestatic 79, 3) := DX8_setRate_0 (10, .invokestatic 79, 3) (List.mem_of_getElem? (i := 7) rfl)
theorem dX8_setRate_13 : decode cX8_setRate 13 = .ok (.ifCond .ne 7, 3) := DX8_setRate_0 (13, .ifCond .ne 7, 3) (List.mem_of_getElem? (i := 8) rfl)
theorem dX8_setRate_16 : decode cX8_setRate 16 = .ok (.iconst 1, 1) := DX8_setRate_0 (16, .iconst 1, 1) (List.mem_of_getElem? (i := 9) rfl)
theorem dX8_setRate_17 : decode cX8_setRate 17 = .ok (.goto 4, 3) := DX8_setRate_0 (17, .goto 4, 3) (List.mem_of_getElem? (i := 10) rfl)
theorem dX8_setRate_20 : decode cX8_setRate 20 = .ok (.iconst 0, 1) := DX8_setRate_0 (20, .iconst 0, 1) (List.mem_of_getElem? (i := 11) rfl)
theorem dX8_setRate_21 : decode cX8_setRate 21 = .ok (.iconst 1, 1) := DX8_setRate_0 (21, .iconst 1, 1) (List.mem_of_getElem? (i := 12) rfl)
theorem dX8_setRate_22 : decode cX8_setRate 22 = .ok (.invokevirtual 261, 3) := DX8_setRate_0 (22, .invokevirtual 261, 3) (List.mem_of_getElem? (i := 13) rfl)
theorem dX8_setRate_25 : decode cX8_setRate 25 = .ok (.ifCond .eq 5, 3) := DX8_setRate_0 (25, .ifCond .eq 5, 3) (List.mem_of_getElem? (i := 14) rfl)
theorem dX8_setRate_28 : decode cX8_setRate 28 = .ok (.iconst 0, 1) := DX8_setRate_0 (28, .iconst 0, 1) (List.mem_of_getElem? (i := 15) rfl)
theorem dX8_setRate_29 : decode cX8_setRate 29 = .ok (.ireturn, 1) := DX8_setRate_0 (29, .ireturn, 1) (List.mem_of_getElem? (i := 16) rfl)
theorem dX8_setRate_30 : decode cX8_setRate 30 = .ok (.aload_n 0, 1) := DX8_setRate_0 (30, .aload_n 0, 1) (List.mem_of_getElem? (i := 17) rfl)
theorem dX8_setRate_31 : decode cX8_setRate 31 = .ok (.invokevirtual 300, 3) := DX8_setRate_0 (31, .invokevirtual 300, 3) (List.mem_of_getElem? (i := 18) rfl)
theorem dX8_setRate_34 : decode cX8_setRate 34 = .ok (.aload_n 0, 1) := DX8_setRate_0 (34, .aload_n 0, 1) (List.mem_of_getElem? (i := 19) rfl)
theorem dX8_setRate_35 : decode cX8_setRate 35 = .ok (.getfield 7, 3) := DX8_setRate_0 (35, .getfield 7, 3) (List.mem_of_getElem? (i := 20) rfl)
theorem dX8_setRate_38 : decode cX8_setRate 38 = .ok (.iconst 5, 1) := DX8_setRate_0 (38, .iconst 5, 1) (List.mem_of_getElem? (i := 21) rfl)
theorem dX8_setRate_39 : decode cX8_setRate 39 = .ok (.iaload, 1) := DX8_setRate_0 (39, .iaload, 1) (List.mem_of_getElem? (i := 22) rfl)
theorem dX8_setRate_40 : decode cX8_setRate 40 = .ok (.istore_n 2, 1) := DX8_setRate_0 (40, .istore_n 2, 1) (List.mem_of_getElem? (i := 23) rfl)
theorem dX8_setRate_41 : decode cX8_setRate 41 = .ok (.aload_n 0, 1) := DX8_setRate_0 (41, .aload_n 0, 1) (List.mem_of_getElem? (i := 24) rfl)
theorem dX8_setRate_42 : decode cX8_setRate 42 = .ok (.getfield 7, 3) := DX8_setRate_0 (42, .getfield 7, 3) (List.mem_of_getElem? (i := 25) rfl)
theorem dX8_setRate_45 : decode cX8_setRate 45 = .ok (.iconst 5, 1) := DX8_setRate_0 (45, .iconst 5, 1) (List.mem_of_getElem? (i := 26) rfl)
theorem dX8_setRate_46 : decode cX8_setRate 46 = .ok (.iload_n 1, 1) := DX8_setRate_0 (46, .iload_n 1, 1) (List.mem_of_getElem? (i := 27) rfl)
theorem dX8_setRate_47 : decode cX8_setRate 47 = .ok (.iastore, 1) := DX8_setRate_0 (47, .iastore, 1) (List.mem_of_getElem? (i := 28) rfl)
theorem dX8_setRate_48 : decode cX8_setRate 48 = .ok (.iload_n 2, 1) := DX8_setRate_0 (48, .iload_n 2, 1) (List.mem_of_getElem? (i := 29) rfl)
theorem dX8_setRate_49 : decode cX8_setRate 49 = .ok (.ireturn, 1) := DX8_setRate_0 (49, .ireturn, 1) (List.mem_of_getElem? (i := 30) rfl)
abbrev rmX8_setRate : Room := { frames := 2, cells := 0, slots := 0, locals := 45 }
set_option maxHeartbeats 400000 in
set_option maxRecDepth 100000 in
theorem met_X8_setRate (l : Launch) (D : va_G) (kA : Nat → ClassId) (a : Nat → Nat) (n : Nat) (V0 : Sz) (x1 : Int) (hDt : ∀ w : Sz, va_D (fun _ => True) (cs_X8 kA a w)) {r : Int} {Vr : Sz} (hf : f_X8_setRate n V0 x1 = some (r, Vr)) : MZ l yX8_setRate cX8_setRate 3 (some .int) rmX8_setRate D kA [.ref (a 0), vI x1] (cs_X8 kA a V0) (cs_X8 kA a Vr) (some (vI r)) := by
  refine zZI (own := RX8) rfl rfl (Nat.le_of_ble_eq_true rfl) ?_
  intro p e s m args below meth c ls Q hC hK hP hl hret
  have hl : lv_has ls 3 [(0, .ref (a 0)), (1, vI x1)] := hl
  have hS : va_S (zF (cs_X8 kA a V0)) s.heap s.heap [] := va_S.rf
  have hD := zDself (C := fun w : Sz => (cs_X8 kA a w)) hDt V0 (fun _ => rfl)
  try dsimp only at hD
  generalize hAe : zF (cs_X8 kA a V0) = A0 at hS hD hret
  unfold f_X8_setRate at hf
  have J21 : ∀ (V : Sz) (z0 : Int) (H : Heap) (locs : List Loc) (ls : Array Slot), jX8_setRate_21 n x1 V z0 = some (r, Vr) → va_P D vwCl (cs_X8 kA a V) H → va_S A0 s.heap H locs → lv_has ls 3 [(0, .ref (a 0)), (1, vI x1)] → W p l e rmX8_setRate s m args below meth c H locs 0 0 Q (F0 m 21 ls [vI z0, .ref (a 0)]) := by
    intro V z0 H locs ls hf hP hS hl
    unfold jX8_setRate_21 at hf
    refine ziconst hC.1 hC.2.1 dX8_setRate_21 <| ?_
    obtain ⟨⟨r_3, V_4⟩, hu, hf⟩ := bd_some hf
    have hDc := hDt
    refine zcVZ (As := [vI z0, vI 1]) (rest := []) hC hK (met_X8_fails l D kA a V z0 1 hDc hu) zwX8_261 hS (zFsub (hD V) [0, 1, 2, 3, 4, 5, 6, 7, 8, 9, 10, 11, 12, 13, 14, 15, 16] rfl) hP (q0 := 0) rfl rfl rfl rfl hl.1 rfl (Nat.le_of_ble_eq_true rfl) ⟨Nat.le_of_ble_eq_true rfl, Nat.le_of_ble_eq_true rfl⟩ ⟨rfl, rfl⟩ ⟨Nat.le_refl _, Nat.le_refl _⟩ dX8_setRate_22 (fun H locs hP1 hk1 hS => ?_)
    have hP : va_P D vwCl (cs_X8 kA a V_4) H := hP1
    refine zifb_eq (tgt := 30) hC.1 hC.2.1 dX8_setRate_25 (by decide) (fun hc => ?_) (fun hc => ?_)
    · have hf := it_t hf hc
      refine lv_aload_n hC.1 hC.2.1 dX8_setRate_30 rfl (lv_at hl 0 rfl) <| ?_
      obtain ⟨V_5, hu, hf⟩ := bd_some hf
      have hDc := hDt
      refine zcVZ (As := []) (rest := []) hC hK (met_X8_remembers l D kA a n V_4 hDc hu) zwX8_300 hS (zFsub (hD V_4) [0, 1, 2, 3, 4, 5, 6, 7, 8, 9, 10, 11, 12, 13, 14, 15, 16] rfl) hP (q0 := 0) rfl rfl rfl rfl hl.1 rfl (Nat.le_of_ble_eq_true rfl) ⟨Nat.le_of_ble_eq_true rfl, Nat.le_of_ble_eq_true rfl⟩ ⟨rfl, rfl⟩ ⟨Nat.le_refl _, Nat.le_refl _⟩ dX8_setRate_31 (fun H locs hP1 hk1 hS => ?_)
      have hP : va_P D vwCl (cs_X8 kA a V_5) H := hP1
      refine lv_aload_n hC.1 hC.2.1 dX8_setRate_34 rfl (lv_at hl 0 rfl) <| gfX8_7 hC hK hP (q0 := 0) rfl rfl dX8_setRate_35 <| ziconst hC.1 hC.2.1 dX8_setRate_38 <| jal hC hK hP (q0 := 1) rfl (Nat.le_of_ble_eq_true rfl) (by decide) rfl dX8_setRate_39 <| ?_
      refine ztopi (fun x_6 ex_6 => ?_)
      have hf := nm_at hf ex_6
      refine zistore_n (lv' := [(2, vI x_6), (0, .ref (a 0)), (1, vI x1)]) hC.1 hC.2.1 dX8_setRate_40 rfl hl (by decide) rfl (fun ls hl => ?_)
      refine lv_aload_n hC.1 hC.2.1 dX8_setRate_41 rfl (lv_at hl 1 rfl) <| gfX8_7 hC hK hP (q0 := 0) rfl rfl dX8_setRate_42 <| ziconst hC.1 hC.2.1 dX8_setRate_45 <| ziload_n hC.1 hC.2.1 dX8_setRate_46 rfl (lv_at hl 2 rfl) <| ?_
      refine jas hC hK hP (hD V_5) hS (q0 := 1) rfl (Nat.le_of_ble_eq_true rfl) (by decide) rfl dX8_setRate_47 (fun H locs hP hS => ?_)
      obtain ⟨V_7, eV_7⟩ : ∃ y, y = uz V_5 0 5 x1 := ⟨_, rfl⟩
      have hf := nm_at hf eV_7
      have hP : va_P D vwCl (cs_X8 kA a V_7) H := by rw [eV_7]; exact hP
      refine ziload_n hC.1 hC.2.1 dX8_setRate_48 rfl (lv_at hl 0 rfl) <| ?_
      have hf := Option.some.inj hf
      simp only [Prod.mk.injEq] at hf
      exact hret (Int32.ofInt x_6) _ _ _ _ (congrArg (fun z => some (vI z)) hf.1.symm) (by rw [← hf.2]; exact hP) hS dX8_setRate_49
    · have hf := it_f hf hc
      refine ziconst hC.1 hC.2.1 dX8_setRate_28 <| ?_
      have hf := Option.some.inj hf
      simp only [Prod.mk.injEq] at hf
      exact hret (Int32.ofInt 0) _ _ _ _ (congrArg (fun z => some (vI z)) hf.1.symm) (by rw [← hf.2]; exact hP) hS dX8_setRate_29
  refine lv_aload_n hC.1 hC.2.1 dX8_setRate_0 rfl (lv_at hl 0 rfl) <| ziconst hC.1 hC.2.1 dX8_setRate_1 <| ?_
  refine pfX8_65 hC hK hP (hD V0) hS (q0 := 0) rfl (Nat.le_of_ble_eq_true rfl) dX8_setRate_2 (fun H locs hP hS => ?_)
  obtain ⟨V_1, eV_1⟩ : ∃ y, y = us V0 9 0 := ⟨_, rfl⟩
  have hf := nm_at hf eV_1
  have hP : va_P D vwCl (cs_X8 kA a V_1) H := by rw [eV_1]; exact hP
  refine lv_aload_n hC.1 hC.2.1 dX8_setRate_5 rfl (lv_at hl 0 rfl) <| ziload_n hC.1 hC.2.1 dX8_setRate_6 rfl (lv_at hl 1 rfl) <| ziconst hC.1 hC.2.1 dX8_setRate_7 <| zbipush hC.1 hC.2.1 dX8_setRate_8 (by decide) <| ?_
  obtain ⟨r_2, hu, hf⟩ := bd_some hf
  have hPc : va_P D vwCl ([] : va_W) _ := hP.sub [] rfl
  refine zcSP (As := [vI x1, vI 0, vI 100]) (rest := [.ref (a 0)]) hC hK (met_X8_inRange l D kA x1 0 100 hu) zwX8_79 hPc rfl hl.1 rfl (Nat.le_of_ble_eq_true rfl) ⟨Nat.le_of_ble_eq_true rfl, Nat.le_of_ble_eq_true rfl⟩ ⟨rfl, rfl⟩ ⟨Nat.le_refl _, Nat.le_refl _⟩ dX8_setRate_10 <| zifb_ne (tgt := 20) hC.1 hC.2.1 dX8_setRate_13 (by decide) (fun hc => ?_) (fun hc => ?_)
  · have hf := it_t hf hc
    exact ziconst hC.1 hC.2.1 dX8_setRate_20 <| J21 _ _ _ _ _ hf hP hS (lv_sub hl [0, 1] rfl)
  · have hf := it_f hf hc
    exact ziconst hC.1 hC.2.1 dX8_setRate_16 <| lv_goto (tgt := 21) hC.1 hC.2.1 dX8_setRate_17 (by decide) <| J21 _ _ _ _ _ hf hP hS (lv_sub hl [0, 1] rfl)
theorem DX8_claimOf_0 : ∀ q ∈ ([(0, .aload_n 0, 1), (1, .iload_n 1, 1), (2, .invokevirtual 124, 3), (5, .ifCond .eq 12, 3), (8, .aload_n 0, 1), (9, .iload_n 1, 1), (10, .invokevirtual 83, 3), (13, .iload_n 2, 1), (14, .if_icmp .le 5, 3), (17, .iconst 0, 1), (18, .ireturn, 1), (19, .aload_n 0, 1), (20, .getfield 37, 3), (23, .iload_n 1, 1), (24, .iaload, 1), (25, .aload_n 0, 1), (26, .getfield 7, 3), (29, .sipush 953, 3), (32, .iload_n 1, 1), (33, .iadd, 1), (34, .iaload, 1), (35, .isub, 1), (36, .istore_n 3, 1), (37, .iload_n 3, 1), (38, .ifCond .le 24, 3), (41, .iload_n 2, 1), (42, .aload_n 0, 1), (43, .iload_n 1, 1), (44, .invokevirtual 83, 3), (47, .isub, 1), (48, .aload_n 0, 1), (49, .getfield 7, 3), (52, .bipush 6, 2), (54, .iaload, 1), (55, .if_icmp .le 7, 3), (58, .iconst 0, 1), (59, .goto 4, 3), (62, .iload_n 3, 1), (63, .ireturn, 1)] : List (Nat × Instr × Nat)), decode cX8_claimOf q.1 = .ok q.2 := by decide +kernel
theorem dX8_claimOf_0 : decode cX8_claimOf 0 = .ok (.aload_n 0, 1) := DX8_claimOf_0 (0, .aload_n 0, 1) (List.mem_of_getElem? (i := 0) rfl)
theorem dX8_claimOf_1 : decode cX8_claimOf 1 = .ok (.iload_n 1, 1) := DX8_claimOf_0 (1, .iload_n 1, 1) (List.mem_of_getElem? (i := 1) rfl)
theorem dX8_claimOf_2 : decode cX8_claimOf 2 = .ok (.invokevirtual 124, 3) := DX8_claimOf_0 (2, .invokevirtual 124, 3) (List.mem_of_getElem? (i := 2) rfl)
theorem dX8_claimOf_5 : decode cX8_claimOf 5 = .ok (.ifCond .eq 12, 3) := DX8_claimOf_0 (5, .ifCond .eq 12, 3) (List.mem_of_getElem? (i := 3) rfl)
theorem dX8_claimOf_8 : decode cX8_claimOf 8 = .ok (.aload_n 0, 1) := DX8_claimOf_0 (8, .aload_n 0, 1) (List.mem_of_getElem? (i := 4) rfl)
theorem dX8_claimOf_9 : decode cX8_claimOf 9 = .ok (.iload_n 1, 1) := DX8_claimOf_0 (9, .iload_n 1, 1) (List.mem_of_getElem? (i := 5) rfl)
theorem dX8_claimOf_10 : decode cX8_claimOf 10 = .ok (.invokevirtual 83, 3) := DX8_claimOf_0 (10, .invokevirtual 83, 3) (List.mem_of_getElem? (i := 6) rfl)
theorem dX8_claimOf_13 : decode cX8_claimOf 13 = .ok (.iload_n 2, 1) := DX8_claimOf_0 (13, .iload_n 2, 1) (List.mem_of_getElem? (i := 7) rfl)
theorem dX8_claimOf_14 : decode cX8_claimOf 14 = .ok (.if_icmp .le 5, 3) := DX8_claimOf_0 (14, .if_icmp .le 5, 3) (List.mem_of_getElem? (i := 8) rfl)
theorem dX8_claimOf_17 : decode cX8_claimOf 17 = .ok (.iconst 0, 1) := DX8_claimOf_0 (17, .iconst 0, 1) (List.mem_of_getElem? (i := 9) rfl)
theorem dX8_claimOf_18 : decode cX8_claimOf 18 = .ok (.ireturn, 1) := DX8_claimOf_0 (18, .ireturn, 1) (List.mem_of_getElem? (i := 10) rfl)
theorem dX8_claimOf_19 : decode cX8_claimOf 19 = .ok (.aload_n 0, 1) := DX8_claimOf_0 (19, .aload_n 0, 1) (List.mem_of_getElem? (i := 11) rfl)
theorem dX8_claimOf_20 : decode cX8_claimOf 20 = .ok (.getfield 37, 3) := DX8_claimOf_0 (20, .getfield 37, 3) (List.mem_of_getElem? (i := 12) rfl)
theorem dX8_claimOf_23 : decode cX8_claimOf 23 = .ok (.iload_n 1, 1) := DX8_claimOf_0 (23, .iload_n 1, 1) (List.mem_of_getElem? (i := 13) rfl)
theorem dX8_claimOf_24 : decode cX8_claimOf 24 = .ok (.iaload, 1) := DX8_claimOf_0 (24, .iaload, 1) (List.mem_of_getElem? (i := 14) rfl)
theorem dX8_claimOf_25 : decode cX8_claimOf 25 = .ok (.aload_n 0, 1) := DX8_claimOf_0 (25, .aload_n 0, 1) (List.mem_of_getElem? (i := 15) rfl)
theorem dX8_claimOf_26 : decode cX8_claimOf 26 = .ok (.getfield 7, 3) := DX8_claimOf_0 (26, .getfield 7, 3) (List.mem_of_getElem? (i := 16) rfl)
theorem dX8_claimOf_29 : decode cX8_claimOf 29 = .ok (.sipush 953, 3) := DX8_claimOf_0 (29, .sipush 953, 3) (List.mem_of_getElem? (i := 17) rfl)
theorem dX8_claimOf_32 : decode cX8_claimOf 32 = .ok (.iload_n 1, 1) := DX8_claimOf_0 (32, .iload_n 1, 1) (List.mem_of_getElem? (i := 18) rfl)
theorem dX8_claimOf_33 : decode cX8_claimOf 33 = .ok (.iadd, 1) := DX8_claimOf_0 (33, .iadd, 1) (List.mem_of_getElem? (i := 19) rfl)
theorem dX8_claimOf_34 : decode cX8_claimOf 34 = .ok (.iaload, 1) := DX8_claimOf_0 (34, .iaload, 1) (List.mem_of_getElem? (i := 20) rfl)
theorem dX8_claimOf_35 : decode cX8_claimOf 35 = .ok (.isub, 1) := DX8_claimOf_0 (35, .isub, 1) (List.mem_of_getElem? (i := 21) rfl)
theorem dX8_claimOf_36 : decode cX8_claimOf 36 = .ok (.istore_n 3, 1) := DX8_claimOf_0 (36, .istore_n 3, 1) (List.mem_of_getElem? (i := 22) rfl)
theorem dX8_claimOf_37 : decode cX8_claimOf 37 = .ok (.iload_n 3, 1) := DX8_claimOf_0 (37, .iload_n 3, 1) (List.mem_of_getElem? (i := 23) rfl)
theorem dX8_claimOf_38 : decode cX8_claimOf 38 = .ok (.ifCond .le 24, 3) := DX8_claimOf_0 (38, .ifCond .le 24, 3) (List.mem_of_getElem? (i := 24) rfl)
theorem dX8_claimOf_41 : decode cX8_claimOf 41 = .ok (.iload_n 2, 1) := DX8_claimOf_0 (41, .iload_n 2, 1) (List.mem_of_getElem? (i := 25) rfl)
theorem dX8_claimOf_42 : decode cX8_claimOf 42 = .ok (.aload_n 0, 1) := DX8_claimOf_0 (42, .aload_n 0, 1) (List.mem_of_getElem? (i := 26) rfl)
theorem dX8_claimOf_43 : decode cX8_claimOf 43 = .ok (.iload_n 1, 1) := DX8_claimOf_0 (43, .iload_n 1, 1) (List.mem_of_getElem? (i := 27) rfl)
theorem dX8_claimOf_44 : decode cX8_claimOf 44 = .ok (.invokevirtual 83, 3) := DX8_claimOf_0 (44, .invokevirtual 83, 3) (List.mem_of_getElem? (i := 28) rfl)
theorem dX8_claimOf_47 : decode cX8_claimOf 47 = .ok (.isub, 1) := DX8_claimOf_0 (47, .isub, 1) (List.mem_of_getElem? (i := 29) rfl)
theorem dX8_claimOf_48 : decode cX8_claimOf 48 = .ok (.aload_n 0, 1) := DX8_claimOf_0 (48, .aload_n 0, 1) (List.mem_of_getElem? (i := 30) rfl)
theorem dX8_claimOf_49 : decode cX8_claimOf 49 = .ok (.getfield 7, 3) := DX8_claimOf_0 (49, .getfield 7, 3) (List.mem_of_getElem? (i := 31) rfl)
theorem dX8_claimOf_52 : decode cX8_claimOf 52 = .ok (.bipush 6, 2) := DX8_claimOf_0 (52, .bipush 6, 2) (List.mem_of_getElem? (i := 32) rfl)
theorem dX8_claimOf_54 : decode cX8_claimOf 54 = .ok (.iaload, 1) := DX8_claimOf_0 (54, .iaload, 1) (List.mem_of_getElem? (i := 33) rfl)
theorem dX8_claimOf_55 : decode cX8_claimOf 55 = .ok (.if_icmp .le 7, 3) := DX8_claimOf_0 (55, .if_icmp .le 7, 3) (List.mem_of_getElem? (i := 34) rfl)
theorem dX8_claimOf_58 : decode cX8_claimOf 58 = .ok (.iconst 0, 1) := DX8_claimOf_0 (58, .iconst 0, 1) (List.mem_of_getElem? (i := 35) rfl)
theorem dX8_claimOf_59 : decode cX8_claimOf 59 = .ok (.goto 4, 3) := DX8_claimOf_0 (59, .goto 4, 3) (List.mem_of_getElem? (i := 36) rfl)
theorem dX8_claimOf_62 : decode cX8_claimOf 62 = .ok (.iload_n 3, 1) := DX8_claimOf_0 (62, .iload_n 3, 1) (List.mem_of_getElem? (i := 37) rfl)
theorem dX8_claimOf_63 : decode cX8_claimOf 63 = .ok (.ireturn, 1) := DX8_claimOf_0 (63, .ireturn, 1) (List.mem_of_getElem? (i := 38) rfl)
abbrev rmX8_claimOf : Room := { frames := 2, cells := 0, slots := 0, locals := 41 }
set_option maxHeartbeats 400000 in
set_option maxRecDepth 100000 in
theorem met_X8_claimOf (l : Launch) (D : va_G) (kA : Nat → ClassId) (a : Nat → Nat) (V : Sz) (x1 : Int) (x2 : Int) {r : Int} (hf : f_X8_claimOf V x1 x2 = some r) : MP l yX8_claimOf cX8_claimOf 4 (some .int) rmX8_claimOf D kA [.ref (a 0), vI x1, vI x2] (cs_X8 kA a V) (some (vI r)) := by
  refine zPI (own := RX8) rfl rfl (Nat.le_of_ble_eq_true rfl) ?_
  intro p e s m args below meth c ls Q hC hK hP hl hret
  have hl : lv_has ls 4 [(0, .ref (a 0)), (1, vI x1), (2, vI x2)] := hl
  unfold f_X8_claimOf at hf
  refine lv_aload_n hC.1 hC.2.1 dX8_claimOf_0 rfl (lv_at hl 0 rfl) <| ziload_n hC.1 hC.2.1 dX8_claimOf_1 rfl (lv_at hl 1 rfl) <| ?_
  obtain ⟨r_1, hu, hf⟩ := bd_some hf
  refine zcVP (As := [vI x1]) (rest := []) hC hK (met_X8_isPart l D kA a V x1 hu) zwX8_124 hP (q0 := 0) rfl rfl rfl rfl hl.1 rfl (Nat.le_of_ble_eq_true rfl) ⟨Nat.le_of_ble_eq_true rfl, Nat.le_of_ble_eq_true rfl⟩ ⟨rfl, rfl⟩ ⟨Nat.le_refl _, Nat.le_refl _⟩ dX8_claimOf_2 <| zifb_eq (tgt := 17) hC.1 hC.2.1 dX8_claimOf_5 (by decide) (fun hc => ?_) (fun hc => ?_)
  · have hf := it_t hf hc
    exact ziconst hC.1 hC.2.1 dX8_claimOf_17 <| hret (Int32.ofInt 0) _ _ (qI hf) dX8_claimOf_18
  · have hf := it_f hf hc
    refine lv_aload_n hC.1 hC.2.1 dX8_claimOf_8 rfl (lv_at hl 0 rfl) <| ziload_n hC.1 hC.2.1 dX8_claimOf_9 rfl (lv_at hl 1 rfl) <| ?_
    obtain ⟨r_2, hu, hf⟩ := bd_some hf
    refine zcVP (As := [vI x1]) (rest := []) hC hK (met_X8_dayOf l D kA a V x1 hu) zwX8_83 hP (q0 := 0) rfl rfl rfl rfl hl.1 rfl (Nat.le_of_ble_eq_true rfl) ⟨Nat.le_of_ble_eq_true rfl, Nat.le_of_ble_eq_true rfl⟩ ⟨rfl, rfl⟩ ⟨Nat.le_refl _, Nat.le_refl _⟩ dX8_claimOf_10 <| ziload_n hC.1 hC.2.1 dX8_claimOf_13 rfl (lv_at hl 2 rfl) <| ?_
    obtain ⟨hz_3, hf⟩ := ck_some hf
    refine zicmp_le (tgt := 19) hC.1 hC.2.1 ⟨hz_3.1, hz_3.2⟩ dX8_claimOf_14 (by decide) (fun hc => ?_) (fun hc => ?_)
    · have hf := it_t hf hc
      refine lv_aload_n hC.1 hC.2.1 dX8_claimOf_19 rfl (lv_at hl 0 rfl) <| gfX8_37 hC hK hP (q0 := 0) rfl rfl dX8_claimOf_20 <| ziload_n hC.1 hC.2.1 dX8_claimOf_23 rfl (lv_at hl 1 rfl) <| ?_
      obtain ⟨hz_4, hf⟩ := ck_some hf
      refine jal hC hK hP (q0 := 10) rfl (Nat.le_of_ble_eq_true rfl) hz_4 rfl dX8_claimOf_24 <| lv_aload_n hC.1 hC.2.1 dX8_claimOf_25 rfl (lv_at hl 0 rfl) <| gfX8_7 hC hK hP (q0 := 0) rfl rfl dX8_claimOf_26 <| zsipush hC.1 hC.2.1 dX8_claimOf_29 (by decide) <| ziload_n hC.1 hC.2.1 dX8_claimOf_32 rfl (lv_at hl 1 rfl) <| ziadd hC.1 hC.2.1 dX8_claimOf_33 <| ?_
      obtain ⟨hz_5, hf⟩ := ck_some hf
      refine jal hC hK hP (q0 := 1) rfl (Nat.le_of_ble_eq_true rfl) hz_5 rfl dX8_claimOf_34 <| zisub hC.1 hC.2.1 dX8_claimOf_35 <| ?_
      refine ztopi (fun x_6 ex_6 => ?_)
      have hf := nm_at hf ex_6
      refine zistore_n (lv' := [(3, vI x_6), (0, .ref (a 0)), (1, vI x1), (2, vI x2)]) hC.1 hC.2.1 dX8_claimOf_36 rfl hl (by decide) rfl (fun ls hl => ?_)
      refine ziload_n hC.1 hC.2.1 dX8_claimOf_37 rfl (lv_at hl 0 rfl) <| ?_
      obtain ⟨hz_7, hf⟩ := ck_some hf
      refine zif_le (tgt := 62) hC.1 hC.2.1 hz_7 dX8_claimOf_38 (by decide) (fun hc => ?_) (fun hc => ?_)
      · have hf := it_t hf hc
        exact ziload_n hC.1 hC.2.1 dX8_claimOf_62 rfl (lv_at hl 0 rfl) <| hret (Int32.ofInt x_6) _ _ (qI hf) dX8_claimOf_63
      · have hf := it_f hf hc
        refine ziload_n hC.1 hC.2.1 dX8_claimOf_41 rfl (lv_at hl 3 rfl) <| lv_aload_n hC.1 hC.2.1 dX8_claimOf_42 rfl (lv_at hl 1 rfl) <| ziload_n hC.1 hC.2.1 dX8_claimOf_43 rfl (lv_at hl 2 rfl) <| ?_
        obtain ⟨r_8, hu, hf⟩ := bd_some hf
        refine zcVP (As := [vI x1]) (rest := [vI x2]) hC hK (met_X8_dayOf l D kA a V x1 hu) zwX8_83 hP (q0 := 0) rfl rfl rfl rfl hl.1 rfl (Nat.le_of_ble_eq_true rfl) ⟨Nat.le_of_ble_eq_true rfl, Nat.le_of_ble_eq_true rfl⟩ ⟨rfl, rfl⟩ ⟨Nat.le_refl _, Nat.le_refl _⟩ dX8_claimOf_44 <| zisub hC.1 hC.2.1 dX8_claimOf_47 <| lv_aload_n hC.1 hC.2.1 dX8_claimOf_48 rfl (lv_at hl 1 rfl) <| gfX8_7 hC hK hP (q0 := 0) rfl rfl dX8_claimOf_49 <| zbipush hC.1 hC.2.1 dX8_claimOf_52 (by decide) <| jal hC hK hP (q0 := 1) rfl (Nat.le_of_ble_eq_true rfl) (by decide) rfl dX8_claimOf_54 <| ?_
        obtain ⟨hz_9, hf⟩ := ck_some hf
        refine zicmp_le (tgt := 62) hC.1 hC.2.1 ⟨hz_9.1, hz_9.2⟩ dX8_claimOf_55 (by decide) (fun hc => ?_) (fun hc => ?_)
        · have hf := it_t hf hc
          exact ziload_n hC.1 hC.2.1 dX8_claimOf_62 rfl (lv_at hl 0 rfl) <| hret (Int32.ofInt x_6) _ _ (qI hf) dX8_claimOf_63
        · have hf := it_f hf hc
          exact ziconst hC.1 hC.2.1 dX8_claimOf_58 <| lv_goto (tgt := 63) hC.1 hC.2.1 dX8_claimOf_59 (by decide) <| hret (Int32.ofInt 0) _ _ (qI hf) dX8_claimOf_63
    · have hf := it_f hf hc
      exact ziconst hC.1 hC.2.1 dX8_claimOf_17 <| hret (Int32.ofInt 0) _ _ (qI hf) dX8_claimOf_18
theorem DX8_claim_0 : ∀ q ∈ ([(0, .aload_n 0, 1), (1, .iconst 0, 1), (2, .putfield 65, 3), (5, .aload_n 0, 1), (6, .getfield 7, 3), (9, .iconst 4, 1), (10, .iaload, 1), (11, .istore_n 2, 1), (12, .aload_n 0, 1), (13, .iload_n 1, 1), (14, .iconst 0, 1), (15, .sipush 9999, 3), (18, .invokestatic 79, 3), (21, .ifCond .ne 7, 3), (24, .iconst 1, 1), (25, .goto 4, 3), (28, .iconst 0, 1), (29, .iconst 1, 1), (30, .invokevirtual 261, 3), (33, .ifCond .ne 44, 3), (36, .aload_n 0, 1), (37, .iload_n 2, 1), (38, .bipush 20, 2), (40, .if_icmp .eq 25, 3), (43, .iload_n 2, 1), (44, .ifCond .le 25, 3), (47, .aload_n 0, 1), (48, .getfield 7, 3), (51, .sipush 1133, 3), (54, .iconst 5, 1), (55, .iload_n 2, 1), (56, .iconst 1, 1), (57, .isub, 1), (58, .imul, 1), (59, .iadd, 1), (60, .iaload, 1), (61, .iload_n 1, 1), (62, .if_icmp .le 7, 3), (65, .iconst 1, 1), (66, .goto 4, 3)] : List (Nat × Instr × Nat)), decode cX8_claim q.1 = .ok q.2 := by decide +kernel
theorem dX8_claim_0 : decode cX8_claim 0 = .ok (.aload_n 0, 1) := DX8_claim_0 (0, .aload_n 0, 1) (List.mem_of_getElem? (i := 0) rfl)
theorem dX8_claim_1 : decode cX8_claim 1 = .ok (.iconst 0, 1) := DX8_claim_0 (1, .iconst 0, 1) (List.mem_of_getElem? (i := 1) rfl)
theorem dX8_claim_2 : decode cX8_claim 2 = .ok (.putfield 65, 3) := DX8_claim_0 (2, .putfield 65, 3) (List.mem_of_getElem? (i := 2) rfl)
theorem dX8_claim_5 : decode cX8_claim 5 = .ok (.aload_n 0, 1) := DX8_claim_0 (5, .aload_n 0, 1) (List.mem_of_getElem? (i := 3) rfl)
theorem dX8_claim_6 : decode cX8_claim 6 = .ok (.getfield 7, 3) := DX8_claim_0 (6, .getfield 7, 3) (List.mem_of_getElem? (i := 4) rfl)
theorem dX8_claim_9 : decode cX8_claim 9 = .ok (.iconst 4, 1) := DX8_claim_0 (9, .iconst 4, 1) (List.mem_of_getElem? (i := 5) rfl)
theorem dX8_claim_10 : decode cX8_claim 10 = .ok (.iaload, 1) := DX8_claim_0 (10, .iaload, 1) (List.mem_of_getElem? (i := 6) rfl)
theorem dX8_claim_11 : decode cX8_claim 11 = .ok (.istore_n 2, 1) := DX8_claim_0 (11, .istore_n 2, 1) (List.mem_of_getElem? (i := 7) rfl)
theorem dX8_claim_12 : decode cX8_claim 12 = .ok (.aload_n 0, 1) := DX8_claim_0 (12, .aload_n 0, 1) (List.mem_of_getElem? (i := 8) rfl)
theorem dX8_claim_13 : decode cX8_claim 13 = .ok (.iload_n 1, 1) := DX8_claim_0 (13, .iload_n 1, 1) (List.mem_of_getElem? (i := 9) rfl)
theorem dX8_claim_14 : decode cX8_claim 14 = .ok (.iconst 0, 1) := DX8_claim_0 (14, .iconst 0, 1) (List.mem_of_getElem? (i := 10) rfl)
theorem dX8_claim_15 : decode cX8_claim 15 = .ok (.sipush 9999, 3) := DX8_claim_0 (15, .sipush 9999, 3) (List.mem_of_getElem? (i := 11) rfl)
theorem dX8_claim_18 : decode cX8_claim 18 = .ok (.invokestatic 79, 3) := DX8_claim_0 (18, .invokestatic 79, 3) (List.mem_of_getElem? (i := 12) rfl)
theorem dX8_claim_21 : decode cX8_claim 21 = .ok (.ifCond .ne 7, 3) := DX8_claim_0 (21, .ifCond .ne 7, 3) (List.mem_of_getElem? (i := 13) rfl)
theorem dX8_claim_24 : decode cX8_claim 24 = .ok (.iconst 1, 1) := DX8_claim_0 (24, .iconst 1, 1) (List.mem_of_getElem? (i := 14) rfl)
theorem dX8_claim_25 : decode cX8_claim 25 = .ok (.goto 4, 3) := DX8_claim_0 (25, .goto 4, 3) (List.mem_of_getElem? (i := 15) rfl)
theorem dX8_claim_28 : decode cX8_claim 28 = .ok (.iconst 0, 1) := DX8_claim_0 (28, .iconst 0, 1) (List.mem_of_getElem? (i := 16) rfl)
theorem dX8_claim_29 : decode cX8_claim 29 = .ok (.iconst 1, 1) := DX8_claim_0 (29, .iconst 1, 1) (List.mem_of_getElem? (i := 17) rfl)
theorem dX8_claim_30 : decode cX8_claim 30 = .ok (.invokevirtual 261, 3) := DX8_claim_0 (30, .invokevirtual 261, 3) (List.mem_of_getElem? (i := 18) rfl)
theorem dX8_claim_33 : decode cX8_claim 33 = .ok (.ifCond .ne 44, 3) := DX8_claim_0 (33, .ifCond .ne 44, 3) (List.mem_of_getElem? (i := 19) rfl)
theorem dX8_claim_36 : decode cX8_claim 36 = .ok (.aload_n 0, 1) := DX8_claim_0 (36, .aload_n 0, 1) (List.mem_of_getElem? (i := 20) rfl)
theorem dX8_claim_37 : decode cX8_claim 37 = .ok (.iload_n 2, 1) := DX8_claim_0 (37, .iload_n 2, 1) (List.mem_of_getElem? (i := 21) rfl)
theorem dX8_claim_38 : decode cX8_claim 38 = .ok (.bipush 20, 2) := DX8_claim_0 (38, .bipush 20, 2) (List.mem_of_getElem? (i := 22) rfl)
theorem dX8_claim_40 : decode cX8_claim 40 = .ok (.if_icmp .eq 25, 3) := DX8_claim_0 (40, .if_icmp .eq 25, 3) (List.mem_of_getElem? (i := 23) rfl)
theorem dX8_claim_43 : decode cX8_claim 43 = .ok (.iload_n 2, 1) := DX8_claim_0 (43, .iload_n 2, 1) (List.mem_of_getElem? (i := 24) rfl)
theorem dX8_claim_44 : decode cX8_claim 44 = .ok (.ifCond .le 25, 3) := DX8_claim_0 (44, .ifCond .le 25, 3) (List.mem_of_getElem? (i := 25) rfl)
theorem dX8_claim_47 : decode cX8_claim 47 = .ok (.aload_n 0, 1) := DX8_claim_0 (47, .aload_n 0, 1) (List.mem_of_getElem? (i := 26) rfl)
theorem dX8_claim_48 : decode cX8_claim 48 = .ok (.getfield 7, 3) := DX8_claim_0 (48, .getfield 7, 3) (List.mem_of_getElem? (i := 27) rfl)
theorem dX8_claim_51 : decode cX8_claim 51 = .ok (.sipush 1133, 3) := DX8_claim_0 (51, .sipush 1133, 3) (List.mem_of_getElem? (i := 28) rfl)
theorem dX8_claim_54 : decode cX8_claim 54 = .ok (.iconst 5, 1) := DX8_claim_0 (54, .iconst 5, 1) (List.mem_of_getElem? (i := 29) rfl)
theorem dX8_claim_55 : decode cX8_claim 55 = .ok (.iload_n 2, 1) := DX8_claim_0 (55, .iload_n 2, 1) (List.mem_of_getElem? (i := 30) rfl)
theorem dX8_claim_56 : decode cX8_claim 56 = .ok (.iconst 1, 1) := DX8_claim_0 (56, .iconst 1, 1) (List.mem_of_getElem? (i := 31) rfl)
theorem dX8_claim_57 : decode cX8_claim 57 = .ok (.isub, 1) := DX8_claim_0 (57, .isub, 1) (List.mem_of_getElem? (i := 32) rfl)
theorem dX8_claim_58 : decode cX8_claim 58 = .ok (.imul, 1) := DX8_claim_0 (58, .imul, 1) (List.mem_of_getElem? (i := 33) rfl)
theorem dX8_claim_59 : decode cX8_claim 59 = .ok (.iadd, 1) := DX8_claim_0 (59, .iadd, 1) (List.mem_of_getElem? (i := 34) rfl)
theorem dX8_claim_60 : decode cX8_claim 60 = .ok (.iaload, 1) := DX8_claim_0 (60, .iaload, 1) (List.mem_of_getElem? (i := 35) rfl)
theorem dX8_claim_61 : decode cX8_claim 61 = .ok (.iload_n 1, 1) := DX8_claim_0 (61, .iload_n 1, 1) (List.mem_of_getElem? (i := 36) rfl)
theorem dX8_claim_62 : decode cX8_claim 62 = .ok (.if_icmp .le 7, 3) := DX8_claim_0 (62, .if_icmp .le 7, 3) (List.mem_of_getElem? (i := 37) rfl)
theorem dX8_claim_65 : decode cX8_claim 65 = .ok (.iconst 1, 1) := DX8_claim_0 (65, .iconst 1, 1) (List.mem_of_getElem? (i := 38) rfl)
theorem dX8_claim_66 : decode cX8_claim 66 = .ok (.goto 4, 3) := DX8_claim_0 (66, .goto 4, 3) (List.mem_of_getElem? (i := 39) rfl)
theorem DX8_claim_1 : ∀ q ∈ ([(69, .iconst 0, 1), (70, .iconst 2, 1), (71, .invokevirtual 261, 3), (74, .ifCond .eq 5, 3), (77, .iconst 0, 1), (78, .ireturn, 1), (79, .aload_n 0, 1), (80, .invokevirtual 300, 3), (83, .aload_n 0, 1), (84, .invokevirtual 121, 3), (87, .sipush 1133, 3), (90, .iconst 5, 1), (91, .iload_n 2, 1), (92, .imul, 1), (93, .iadd, 1), (94, .istore_n 3, 1), (95, .iconst 0, 1), (96, .istore 4, 2), (98, .iload 4, 2), (100, .iconst 5, 1), (101, .if_icmp .ge 19, 3), (104, .aload_n 0, 1), (105, .getfield 7, 3), (108, .iload_n 3, 1), (109, .iload 4, 2), (111, .iadd, 1), (112, .iconst 0, 1), (113, .iastore, 1), (114, .iinc 4 1, 3), (117, .goto (-19), 3), (120, .aload_n 0, 1), (121, .getfield 7, 3), (124, .iload_n 3, 1), (125, .iload_n 1, 1), (126, .iastore, 1), (127, .iconst 0, 1), (128, .istore 4, 2), (130, .iload 4, 2), (132, .sipush 180, 3), (135, .if_icmp .ge 90, 3)] : List (Nat × Instr × Nat)), decode cX8_claim q.1 = .ok q.2 := by decide +kernel
theorem dX8_claim_69 : decode cX8_claim 69 = .ok (.iconst 0, 1) := DX8_claim_1 (69, .iconst 0, 1) (List.mem_of_getElem? (i := 0) rfl)
theorem dX8_claim_70 : decode cX8_claim 70 = .ok (.iconst 2, 1) := DX8_claim_1 (70, .iconst 2, 1) (List.mem_of_getElem? (i := 1) rfl)
theorem dX8_claim_71 : decode cX8_claim 71 = .ok (.invokevirtual 261, 3) := DX8_claim_1 (71, .invokevirtual 261, 3) (List.mem_of_getElem? (i := 2) rfl)
theorem dX8_claim_74 : decode cX8_claim 74 = .ok (.ifCond .eq 5, 3) := DX8_claim_1 (74, .ifCond .eq 5, 3) (List.mem_of_getElem? (i := 3) rfl)
theorem dX8_claim_77 : decode cX8_claim 77 = .ok (.iconst 0, 1) := DX8_claim_1 (77, .iconst 0, 1) (List.mem_of_getElem? (i := 4) rfl)
theorem dX8_claim_78 : decode cX8_claim 78 = .ok (.ireturn, 1) := DX8_claim_1 (78, .ireturn, 1) (List.mem_of_getElem? (i := 5) rfl)
theorem dX8_claim_79 : decode cX8_claim 79 = .ok (.aload_n 0, 1) := DX8_claim_1 (79, .aload_n 0, 1) (List.mem_of_getElem? (i := 6) rfl)
theorem dX8_claim_80 : decode cX8_claim 80 = .ok (.invokevirtual 300, 3) := DX8_claim_1 (80, .invokevirtual 300, 3) (List.mem_of_getElem? (i := 7) rfl)
theorem dX8_claim_83 : decode cX8_claim 83 = .ok (.aload_n 0, 1) := DX8_claim_1 (83, .aload_n 0, 1) (List.mem_of_getElem? (i := 8) rfl)
theorem dX8_claim_84 : decode cX8_claim 84 = .ok (.invokevirtual 121, 3) := DX8_claim_1 (84, .invokevirtual 121, 3) (List.mem_of_getElem? (i := 9) rfl)
theorem dX8_claim_87 : decode cX8_claim 87 = .ok (.sipush 1133, 3) := DX8_claim_1 (87, .sipush 1133, 3) (List.mem_of_getElem? (i := 10) rfl)
theorem dX8_claim_90 : decode cX8_claim 90 = .ok (.iconst 5, 1) := DX8_claim_1 (90, .iconst 5, 1) (List.mem_of_getElem? (i := 11) rfl)
theorem dX8_claim_91 : decode cX8_claim 91 = .ok (.iload_n 2, 1) := DX8_claim_1 (91, .iload_n 2, 1) (List.mem_of_getElem? (i := 12) rfl)
theorem dX8_claim_92 : decode cX8_claim 92 = .ok (.imul, 1) := DX8_claim_1 (92, .imul, 1) (List.mem_of_getElem? (i := 13) rfl)
theorem dX8_claim_93 : decode cX8_claim 93 = .ok (.iadd, 1) := DX8_claim_1 (93, .iadd, 1) (List.mem_of_getElem? (i := 14) rfl)
theorem dX8_claim_94 : decode cX8_claim 94 = .ok (.istore_n 3, 1) := DX8_claim_1 (94, .istore_n 3, 1) (List.mem_of_getElem? (i := 15) rfl)
theorem dX8_claim_95 : decode cX8_claim 95 = .ok (.iconst 0, 1) := DX8_claim_1 (95, .iconst 0, 1) (List.mem_of_getElem? (i := 16) rfl)
theorem dX8_claim_96 : decode cX8_claim 96 = .ok (.istore 4, 2) := DX8_claim_1 (96, .istore 4, 2) (List.mem_of_getElem? (i := 17) rfl)
theorem dX8_claim_98 : decode cX8_claim 98 = .ok (.iload 4, 2) := DX8_claim_1 (98, .iload 4, 2) (List.mem_of_getElem? (i := 18) rfl)
theorem dX8_claim_100 : decode cX8_claim 100 = .ok (.iconst 5, 1) := DX8_claim_1 (100, .iconst 5, 1) (List.mem_of_getElem? (i := 19) rfl)
theorem dX8_claim_101 : decode cX8_claim 101 = .ok (.if_icmp .ge 19, 3) := DX8_claim_1 (101, .if_icmp .ge 19, 3) (List.mem_of_getElem? (i := 20) rfl)
theorem dX8_claim_104 : decode cX8_claim 104 = .ok (.aload_n 0, 1) := DX8_claim_1 (104, .aload_n 0, 1) (List.mem_of_getElem? (i := 21) rfl)
theorem dX8_claim_105 : decode cX8_claim 105 = .ok (.getfield 7, 3) := DX8_claim_1 (105, .getfield 7, 3) (List.mem_of_getElem? (i := 22) rfl)
theorem dX8_claim_108 : decode cX8_claim 108 = .ok (.iload_n 3, 1) := DX8_claim_1 (108, .iload_n 3, 1) (List.mem_of_getElem? (i := 23) rfl)
theorem dX8_claim_109 : decode cX8_claim 109 = .ok (.iload 4, 2) := DX8_claim_1 (109, .iload 4, 2) (List.mem_of_getElem? (i := 24) rfl)
theorem dX8_claim_111 : decode cX8_claim 111 = .ok (.iadd, 1) := DX8_claim_1 (111, .iadd, 1) (List.mem_of_getElem? (i := 25) rfl)
theorem dX8_claim_112 : decode cX8_claim 112 = .ok (.iconst 0, 1) := DX8_claim_1 (112, .iconst 0, 1) (List.mem_of_getElem? (i := 26) rfl)
theorem dX8_claim_113 : decode cX8_claim 113 = .ok (.iastore, 1) := DX8_claim_1 (113, .iastore, 1) (List.mem_of_getElem? (i := 27) rfl)
theorem dX8_claim_114 : decode cX8_claim 114 = .ok (.iinc 4 1, 3) := DX8_claim_1 (114, .iinc 4 1, 3) (List.mem_of_getElem? (i := 28) rfl)
theorem dX8_claim_117 : decode cX8_claim 117 = .ok (.goto (-19), 3) := DX8_claim_1 (117, .goto (-19), 3) (List.mem_of_getElem? (i := 29) rfl)
theorem dX8_claim_120 : decode cX8_claim 120 = .ok (.aload_n 0, 1) := DX8_claim_1 (120, .aload_n 0, 1) (List.mem_of_getElem? (i := 30) rfl)
theorem dX8_claim_121 : decode cX8_claim 121 = .ok (.getfield 7, 3) := DX8_claim_1 (121, .getfield 7, 3) (List.mem_of_getElem? (i := 31) rfl)
theorem dX8_claim_124 : decode cX8_claim 124 = .ok (.iload_n 3, 1) := DX8_claim_1 (124, .iload_n 3, 1) (List.mem_of_getElem? (i := 32) rfl)
theorem dX8_claim_125 : decode cX8_claim 125 = .ok (.iload_n 1, 1) := DX8_claim_1 (125, .iload_n 1, 1) (List.mem_of_getElem? (i := 33) rfl)
theorem dX8_claim_126 : decode cX8_claim 126 = .ok (.iastore, 1) := DX8_claim_1 (126, .iastore, 1) (List.mem_of_getElem? (i := 34) rfl)
theorem dX8_claim_127 : decode cX8_claim 127 = .ok (.iconst 0, 1) := DX8_claim_1 (127, .iconst 0, 1) (List.mem_of_getElem? (i := 35) rfl)
theorem dX8_claim_128 : decode cX8_claim 128 = .ok (.istore 4, 2) := DX8_claim_1 (128, .istore 4, 2) (List.mem_of_getElem? (i := 36) rfl)
theorem dX8_claim_130 : decode cX8_claim 130 = .ok (.iload 4, 2) := DX8_claim_1 (130, .iload 4, 2) (List.mem_of_getElem? (i := 37) rfl)
theorem dX8_claim_132 : decode cX8_claim 132 = .ok (.sipush 180, 3) := DX8_claim_1 (132, .sipush 180, 3) (List.mem_of_getElem? (i := 38) rfl)
theorem dX8_claim_135 : decode cX8_claim 135 = .ok (.if_icmp .ge 90, 3) := DX8_claim_1 (135, .if_icmp .ge 90, 3) (List.mem_of_getElem? (i := 39) rfl)
theorem DX8_claim_2 : ∀ q ∈ ([(138, .aload_n 0, 1), (139, .iload 4, 2), (141, .iload_n 1, 1), (142, .invokevirtual 317, 3), (145, .istore 5, 2), (147, .iload 5, 2), (149, .ifCond .ne 6, 3), (152, .goto 67, 3), (155, .aload_n 0, 1), (156, .getfield 7, 3), (159, .iload_n 3, 1), (160, .iload 5, 2), (162, .ifCond .le 7, 3), (165, .iconst 1, 1), (166, .goto 4, 3), (169, .iconst 2, 1), (170, .iadd, 1), (171, .dup2, 1), (172, .iaload, 1), (173, .iload 5, 2), (175, .invokestatic 320, 3), (178, .iadd, 1), (179, .iastore, 1), (180, .aload_n 0, 1), (181, .getfield 7, 3), (184, .iload_n 3, 1), (185, .iload 5, 2), (187, .ifCond .le 7, 3), (190, .iconst 3, 1), (191, .goto 4, 3), (194, .iconst 4, 1), (195, .iadd, 1), (196, .dup2, 1), (197, .iaload, 1), (198, .iconst 1, 1), (199, .iadd, 1), (200, .iastore, 1), (201, .aload_n 0, 1), (202, .getfield 7, 3), (205, .sipush 953, 3)] : List (Nat × Instr × Nat)), decode cX8_claim q.1 = .ok q.2 := by decide +kernel
theorem dX8_claim_138 : decode cX8_claim 138 = .ok (.aload_n 0, 1) := DX8_claim_2 (138, .aload_n 0, 1) (List.mem_of_getElem? (i := 0) rfl)
theorem dX8_claim_139 : decode cX8_claim 139 = .ok (.iload 4, 2) := DX8_claim_2 (139, .iload 4, 2) (List.mem_of_getElem? (i := 1) rfl)
theorem dX8_claim_141 : decode cX8_claim 141 = .ok (.iload_n 1, 1) := DX8_claim_2 (141, .iload_n 1, 1) (List.mem_of_getElem? (i := 2) rfl)
theorem dX8_claim_142 : decode cX8_claim 142 = .ok (.invokevirtual 317, 3) := DX8_claim_2 (142, .invokevirtual 317, 3) (List.mem_of_getElem? (i := 3) rfl)
theorem dX8_claim_145 : decode cX8_claim 145 = .ok (.istore 5, 2) := DX8_claim_2 (145, .istore 5, 2) (List.mem_of_getElem? (i := 4) rfl)
theorem dX8_claim_147 : decode cX8_claim 147 = .ok (.iload 5, 2) := DX8_claim_2 (147, .iload 5, 2) (List.mem_of_getElem? (i := 5) rfl)
theorem dX8_claim_149 : decode cX8_claim 149 = .ok (.ifCond .ne 6, 3) := DX8_claim_2 (149, .ifCond .ne 6, 3) (List.mem_of_getElem? (i := 6) rfl)
theorem dX8_claim_152 : decode cX8_claim 152 = .ok (.goto 67, 3) := DX8_claim_2 (152, .goto 67, 3) (List.mem_of_getElem? (i := 7) rfl)
theorem dX8_claim_155 : decode cX8_claim 155 = .ok (.aload_n 0, 1) := DX8_claim_2 (155, .aload_n 0, 1) (List.mem_of_getElem? (i := 8) rfl)
theorem dX8_claim_156 : decode cX8_claim 156 = .ok (.getfield 7, 3) := DX8_claim_2 (156, .getfield 7, 3) (List.mem_of_getElem? (i := 9) rfl)
theorem dX8_claim_159 : decode cX8_claim 159 = .ok (.iload_n 3, 1) := DX8_claim_2 (159, .iload_n 3, 1) (List.mem_of_getElem? (i := 10) rfl)
theorem dX8_claim_160 : decode cX8_claim 160 = .ok (.iload 5, 2) := DX8_claim_2 (160, .iload 5, 2) (List.mem_of_getElem? (i := 11) rfl)
theorem dX8_claim_162 : decode cX8_claim 162 = .ok (.ifCond .le 7, 3) := DX8_claim_2 (162, .ifCond .le 7, 3) (List.mem_of_getElem? (i := 12) rfl)
theorem dX8_claim_165 : decode cX8_claim 165 = .ok (.iconst 1, 1) := DX8_claim_2 (165, .iconst 1, 1) (List.mem_of_getElem? (i := 13) rfl)
theorem dX8_claim_166 : decode cX8_claim 166 = .ok (.goto 4, 3) := DX8_claim_2 (166, .goto 4, 3) (List.mem_of_getElem? (i := 14) rfl)
theorem dX8_claim_169 : decode cX8_claim 169 = .ok (.iconst 2, 1) := DX8_claim_2 (169, .iconst 2, 1) (List.mem_of_getElem? (i := 15) rfl)
theorem dX8_claim_170 : decode cX8_claim 170 = .ok (.iadd, 1) := DX8_claim_2 (170, .iadd, 1) (List.mem_of_getElem? (i := 16) rfl)
theorem dX8_claim_171 : decode cX8_claim 171 = .ok (.dup2, 1) := DX8_claim_2 (171, .dup2, 1) (List.mem_of_getElem? (i := 17) rfl)
theorem dX8_claim_172 : decode cX8_claim 172 = .ok (.iaload, 1) := DX8_claim_2 (172, .iaload, 1) (List.mem_of_getElem? (i := 18) rfl)
theorem dX8_claim_173 : decode cX8_claim 173 = .ok (.iload 5, 2) := DX8_claim_2 (173, .iload 5, 2) (List.mem_of_getElem? (i := 19) rfl)
theorem dX8_claim_175 : decode cX8_claim 175 = .ok (.invokestatic 320, 3) := DX8_claim_2 (175, .invokestatic 320, 3) (List.mem_of_getElem? (i := 20) rfl)
theorem dX8_claim_178 : decode cX8_claim 178 = .ok (.iadd, 1) := DX8_claim_2 (178, .iadd, 1) (List.mem_of_getElem? (i := 21) rfl)
theorem dX8_claim_179 : decode cX8_claim 179 = .ok (.iastore, 1) := DX8_claim_2 (179, .iastore, 1) (List.mem_of_getElem? (i := 22) rfl)
theorem dX8_claim_180 : decode cX8_claim 180 = .ok (.aload_n 0, 1) := DX8_claim_2 (180, .aload_n 0, 1) (List.mem_of_getElem? (i := 23) rfl)
theorem dX8_claim_181 : decode cX8_claim 181 = .ok (.getfield 7, 3) := DX8_claim_2 (181, .getfield 7, 3) (List.mem_of_getElem? (i := 24) rfl)
theorem dX8_claim_184 : decode cX8_claim 184 = .ok (.iload_n 3, 1) := DX8_claim_2 (184, .iload_n 3, 1) (List.mem_of_getElem? (i := 25) rfl)
theorem dX8_claim_185 : decode cX8_claim 185 = .ok (.iload 5, 2) := DX8_claim_2 (185, .iload 5, 2) (List.mem_of_getElem? (i := 26) rfl)
theorem dX8_claim_187 : decode cX8_claim 187 = .ok (.ifCond .le 7, 3) := DX8_claim_2 (187, .ifCond .le 7, 3) (List.mem_of_getElem? (i := 27) rfl)
theorem dX8_claim_190 : decode cX8_claim 190 = .ok (.iconst 3, 1) := DX8_claim_2 (190, .iconst 3, 1) (List.mem_of_getElem? (i := 28) rfl)
theorem dX8_claim_191 : decode cX8_claim 191 = .ok (.goto 4, 3) := DX8_claim_2 (191, .goto 4, 3) (List.mem_of_getElem? (i := 29) rfl)
theorem dX8_claim_194 : decode cX8_claim 194 = .ok (.iconst 4, 1) := DX8_claim_2 (194, .iconst 4, 1) (List.mem_of_getElem? (i := 30) rfl)
theorem dX8_claim_195 : decode cX8_claim 195 = .ok (.iadd, 1) := DX8_claim_2 (195, .iadd, 1) (List.mem_of_getElem? (i := 31) rfl)
theorem dX8_claim_196 : decode cX8_claim 196 = .ok (.dup2, 1) := DX8_claim_2 (196, .dup2, 1) (List.mem_of_getElem? (i := 32) rfl)
theorem dX8_claim_197 : decode cX8_claim 197 = .ok (.iaload, 1) := DX8_claim_2 (197, .iaload, 1) (List.mem_of_getElem? (i := 33) rfl)
theorem dX8_claim_198 : decode cX8_claim 198 = .ok (.iconst 1, 1) := DX8_claim_2 (198, .iconst 1, 1) (List.mem_of_getElem? (i := 34) rfl)
theorem dX8_claim_199 : decode cX8_claim 199 = .ok (.iadd, 1) := DX8_claim_2 (199, .iadd, 1) (List.mem_of_getElem? (i := 35) rfl)
theorem dX8_claim_200 : decode cX8_claim 200 = .ok (.iastore, 1) := DX8_claim_2 (200, .iastore, 1) (List.mem_of_getElem? (i := 36) rfl)
theorem dX8_claim_201 : decode cX8_claim 201 = .ok (.aload_n 0, 1) := DX8_claim_2 (201, .aload_n 0, 1) (List.mem_of_getElem? (i := 37) rfl)
theorem dX8_claim_202 : decode cX8_claim 202 = .ok (.getfield 7, 3) := DX8_claim_2 (202, .getfield 7, 3) (List.mem_of_getElem? (i := 38) rfl)
theorem dX8_claim_205 : decode cX8_claim 205 = .ok (.sipush 953, 3) := DX8_claim_2 (205, .sipush 953, 3) (List.mem_of_getElem? (i := 39) rfl)
theorem DX8_claim_3 : ∀ q ∈ ([(208, .iload 4, 2), (210, .iadd, 1), (211, .aload_n 0, 1), (212, .getfield 37, 3), (215, .iload 4, 2), (217, .iaload, 1), (218, .iastore, 1), (219, .iinc 4 1, 3), (222, .goto (-92), 3), (225, .aload_n 0, 1), (226, .getfield 7, 3), (229, .iconst 4, 1), (230, .dup2, 1), (231, .iaload, 1), (232, .iconst 1, 1), (233, .iadd, 1), (234, .iastore, 1), (235, .aload_n 0, 1), (236, .getfield 7, 3), (239, .iload_n 3, 1), (240, .iconst 1, 1), (241, .iadd, 1), (242, .iaload, 1), (243, .aload_n 0, 1), (244, .getfield 7, 3), (247, .iload_n 3, 1), (248, .iconst 2, 1), (249, .iadd, 1), (250, .iaload, 1), (251, .isub, 1), (252, .ireturn, 1)] : List (Nat × Instr × Nat)), decode cX8_claim q.1 = .ok q.2 := by decide +kernel
theorem dX8_claim_208 : decode cX8_claim 208 = .ok (.iload 4, 2) := DX8_claim_3 (208, .iload 4, 2) (List.mem_of_getElem? (i := 0) rfl)
theorem dX8_claim_210 : decode cX8_claim 210 = .ok (.iadd, 1) := DX8_claim_3 (210, .iadd, 1) (List.mem_of_getElem? (i := 1) rfl)
theorem dX8_claim_211 : decode cX8_claim 211 = .ok (.aload_n 0, 1) := DX8_claim_3 (211, .aload_n 0, 1) (List.mem_of_getElem? (i := 2) rfl)
theorem dX8_claim_212 : decode cX8_claim 212 = .ok (.getfield 37, 3) := DX8_claim_3 (212, .getfield 37, 3) (List.mem_of_getElem? (i := 3) rfl)
theorem dX8_claim_215 : decode cX8_claim 215 = .ok (.iload 4, 2) := DX8_claim_3 (215, .iload 4, 2) (List.mem_of_getElem? (i := 4) rfl)
theorem dX8_claim_217 : decode cX8_claim 217 = .ok (.iaload, 1) := DX8_claim_3 (217, .iaload, 1) (List.mem_of_getElem? (i := 5) rfl)
theorem dX8_claim_218 : decode cX8_claim 218 = .ok (.iastore, 1) := DX8_claim_3 (218, .iastore, 1) (List.mem_of_getElem? (i := 6) rfl)
theorem dX8_claim_219 : decode cX8_claim 219 = .ok (.iinc 4 1, 3) := DX8_claim_3 (219, .iinc 4 1, 3) (List.mem_of_getElem? (i := 7) rfl)
theorem dX8_claim_222 : decode cX8_claim 222 = .ok (.goto (-92), 3) := DX8_claim_3 (222, .goto (-92), 3) (List.mem_of_getElem? (i := 8) rfl)
theorem dX8_claim_225 : decode cX8_claim 225 = .ok (.aload_n 0, 1) := DX8_claim_3 (225, .aload_n 0, 1) (List.mem_of_getElem? (i := 9) rfl)
theorem dX8_claim_226 : decode cX8_claim 226 = .ok (.getfield 7, 3) := DX8_claim_3 (226, .getfield 7, 3) (List.mem_of_getElem? (i := 10) rfl)
theorem dX8_claim_229 : decode cX8_claim 229 = .ok (.iconst 4, 1) := DX8_claim_3 (229, .iconst 4, 1) (List.mem_of_getElem? (i := 11) rfl)
theorem dX8_claim_230 : decode cX8_claim 230 = .ok (.dup2, 1) := DX8_claim_3 (230, .dup2, 1) (List.mem_of_getElem? (i := 12) rfl)
theorem dX8_claim_231 : decode cX8_claim 231 = .ok (.iaload, 1) := DX8_claim_3 (231, .iaload, 1) (List.mem_of_getElem? (i := 13) rfl)
theorem dX8_claim_232 : decode cX8_claim 232 = .ok (.iconst 1, 1) := DX8_claim_3 (232, .iconst 1, 1) (List.mem_of_getElem? (i := 14) rfl)
theorem dX8_claim_233 : decode cX8_claim 233 = .ok (.iadd, 1) := DX8_claim_3 (233, .iadd, 1) (List.mem_of_getElem? (i := 15) rfl)
theorem dX8_claim_234 : decode cX8_claim 234 = .ok (.iastore, 1) := DX8_claim_3 (234, .iastore, 1) (List.mem_of_getElem? (i := 16) rfl)
theorem dX8_claim_235 : decode cX8_claim 235 = .ok (.aload_n 0, 1) := DX8_claim_3 (235, .aload_n 0, 1) (List.mem_of_getElem? (i := 17) rfl)
theorem dX8_claim_236 : decode cX8_claim 236 = .ok (.getfield 7, 3) := DX8_claim_3 (236, .getfield 7, 3) (List.mem_of_getElem? (i := 18) rfl)
theorem dX8_claim_239 : decode cX8_claim 239 = .ok (.iload_n 3, 1) := DX8_claim_3 (239, .iload_n 3, 1) (List.mem_of_getElem? (i := 19) rfl)
theorem dX8_claim_240 : decode cX8_claim 240 = .ok (.iconst 1, 1) := DX8_claim_3 (240, .iconst 1, 1) (List.mem_of_getElem? (i := 20) rfl)
theorem dX8_claim_241 : decode cX8_claim 241 = .ok (.iadd, 1) := DX8_claim_3 (241, .iadd, 1) (List.mem_of_getElem? (i := 21) rfl)
theorem dX8_claim_242 : decode cX8_claim 242 = .ok (.iaload, 1) := DX8_claim_3 (242, .iaload, 1) (List.mem_of_getElem? (i := 22) rfl)
theorem dX8_claim_243 : decode cX8_claim 243 = .ok (.aload_n 0, 1) := DX8_claim_3 (243, .aload_n 0, 1) (List.mem_of_getElem? (i := 23) rfl)
theorem dX8_claim_244 : decode cX8_claim 244 = .ok (.getfield 7, 3) := DX8_claim_3 (244, .getfield 7, 3) (List.mem_of_getElem? (i := 24) rfl)
theorem dX8_claim_247 : decode cX8_claim 247 = .ok (.iload_n 3, 1) := DX8_claim_3 (247, .iload_n 3, 1) (List.mem_of_getElem? (i := 25) rfl)
theorem dX8_claim_248 : decode cX8_claim 248 = .ok (.iconst 2, 1) := DX8_claim_3 (248, .iconst 2, 1) (List.mem_of_getElem? (i := 26) rfl)
theorem dX8_claim_249 : decode cX8_claim 249 = .ok (.iadd, 1) := DX8_claim_3 (249, .iadd, 1) (List.mem_of_getElem? (i := 27) rfl)
theorem dX8_claim_250 : decode cX8_claim 250 = .ok (.iaload, 1) := DX8_claim_3 (250, .iaload, 1) (List.mem_of_getElem? (i := 28) rfl)
theorem dX8_claim_251 : decode cX8_claim 251 = .ok (.isub, 1) := DX8_claim_3 (251, .isub, 1) (List.mem_of_getElem? (i := 29) rfl)
theorem dX8_claim_252 : decode cX8_claim 252 = .ok (.ireturn, 1) := DX8_claim_3 (252, .ireturn, 1) (List.mem_of_getElem? (i := 30) rfl)
abbrev rmX8_claim : Room := { frames := 4, cells := 0, slots := 0, locals := 90 }
set_option maxHeartbeats 400000 in
set_option maxRecDepth 100000 in
theorem met_X8_claim (l : Launch) (D : va_G) (kA : Nat → ClassId) (a : Nat → Nat) (n : Nat) (V0 : Sz) (x1 : Int) (hDt : ∀ w : Sz, va_D (fun _ => True) (cs_X8 kA a w)) {r : Int} {Vr : Sz} (hf : f_X8_claim n V0 x1 = some (r, Vr)) : MZ l yX8_claim cX8_claim 6 (some .int) rmX8_claim D kA [.ref (a 0), vI x1] (cs_X8 kA a V0) (cs_X8 kA a Vr) (some (vI r)) := by
  refine zZI (own := RX8) rfl rfl (Nat.le_of_ble_eq_true rfl) ?_
  intro p e s m args below meth c ls Q hC hK hP hl hret
  have hl : lv_has ls 6 [(0, .ref (a 0)), (1, vI x1)] := hl
  have hS : va_S (zF (cs_X8 kA a V0)) s.heap s.heap [] := va_S.rf
  have hD := zDself (C := fun w : Sz => (cs_X8 kA a w)) hDt V0 (fun _ => rfl)
  try dsimp only at hD
  generalize hAe : zF (cs_X8 kA a V0) = A0 at hS hD hret
  unfold f_X8_claim at hf
  have L130 : ∀ (k130 : Nat) (y3 : Int) (y4 : Int) (V : Sz) (H : Heap) (locs : List Loc) (ls : Array Slot), lpF (bX8_claim_130 n x1) k130 (y3, y4, V) = some (r, Vr) → va_P D vwCl (cs_X8 kA a V) H → va_S A0 s.heap H locs → lv_has ls 6 [(0, .ref (a 0)), (1, vI x1), (3, vI y3), (4, vI y4)] → W p l e rmX8_claim s m args below meth c H locs 0 0 Q (F0 m 130 ls []) := by
    intro k130
    induction k130 with
    | zero => intro y3 y4 V H locs ls hf hP hS hl; exact lp_0 hf
    | succ k130 ih130 =>
      intro y3 y4 V H locs ls hf hP hS hl
      have hf := lp_s hf
      rw [bX8_claim_130_e] at hf
      have J219 : ∀ (y3 : Int) (y4 : Int) (V : Sz) (H : Heap) (locs : List Loc) (ls : Array Slot), jX8_claim_219 n x1 (lpF (bX8_claim_130 n x1) k130) y3 y4 V = some (r, Vr) → va_P D vwCl (cs_X8 kA a V) H → va_S A0 s.heap H locs → lv_has ls 6 [(0, .ref (a 0)), (1, vI x1), (3, vI y3), (4, vI y4)] → W p l e rmX8_claim s m args below meth c H locs 0 0 Q (F0 m 219 ls []) := by
        intro y3 y4 V H locs ls hf hP hS hl
        unfold jX8_claim_219 at hf
        obtain ⟨x_29, ex_29⟩ : ∃ y : Int, y = y4 + 1 := ⟨_, rfl⟩
        have hf := nm_at hf ex_29
        refine ziinc (v := x_29) (lv' := [(4, vI x_29), (0, .ref (a 0)), (1, vI x1), (3, vI y3)]) hC.1 hC.2.1 dX8_claim_219 hl (k := 3) rfl ex_29 (by decide) rfl (fun ls hl => ?_)
        exact lv_goto (tgt := 130) hC.1 hC.2.1 dX8_claim_222 (by decide) <| ih130 _ _ _ _ _ _ hf hP hS (lv_sub hl [1, 2, 3, 0] rfl)
      have J195 : ∀ (y3 : Int) (y4 : Int) (V : Sz) (z0 : Int) (z1 : Int) (H : Heap) (locs : List Loc) (ls : Array Slot), jX8_claim_195 n x1 (lpF (bX8_claim_130 n x1) k130) y3 y4 V z0 z1 = some (r, Vr) → va_P D vwCl (cs_X8 kA a V) H → va_S A0 s.heap H locs → lv_has ls 6 [(0, .ref (a 0)), (1, vI x1), (3, vI y3), (4, vI y4)] → W p l e rmX8_claim s m args below meth c H locs 0 0 Q (F0 m 195 ls [vI z0, vI z1, .ref (a 1)]) := by
        intro y3 y4 V z0 z1 H locs ls hf hP hS hl
        unfold jX8_claim_195 at hf
        refine ziadd hC.1 hC.2.1 dX8_claim_195 <| lv_dup2_11 hC.1 hC.2.1 dX8_claim_196 rfl rfl <| ?_
        obtain ⟨hz_24, hf⟩ := ck_some hf
        refine jal hC hK hP (q0 := 1) rfl (Nat.le_of_ble_eq_true rfl) hz_24 rfl dX8_claim_197 <| ziconst hC.1 hC.2.1 dX8_claim_198 <| ziadd hC.1 hC.2.1 dX8_claim_199 <| ?_
        refine jas hC hK hP (hD V) hS (q0 := 1) rfl (Nat.le_of_ble_eq_true rfl) hz_24 rfl dX8_claim_200 (fun H locs hP hS => ?_)
        obtain ⟨V_25, eV_25⟩ : ∃ y, y = uz V 0 (z1 + z0).toNat ((V 0 (z1 + z0).toNat) + 1) := ⟨_, rfl⟩
        have hf := nm_at hf eV_25
        have hP : va_P D vwCl (cs_X8 kA a V_25) H := by rw [eV_25]; exact hP
        refine lv_aload_n hC.1 hC.2.1 dX8_claim_201 rfl (lv_at hl 0 rfl) <| gfX8_7 hC hK hP (q0 := 0) rfl rfl dX8_claim_202 <| zsipush hC.1 hC.2.1 dX8_claim_205 (by decide) <| ziload hC.1 hC.2.1 dX8_claim_208 (lv_at hl 3 rfl) <| ziadd hC.1 hC.2.1 dX8_claim_210 <| lv_aload_n hC.1 hC.2.1 dX8_claim_211 rfl (lv_at hl 0 rfl) <| gfX8_37 hC hK hP (q0 := 0) rfl rfl dX8_claim_212 <| ziload hC.1 hC.2.1 dX8_claim_215 (lv_at hl 3 rfl) <| ?_
        obtain ⟨hz_26, hf⟩ := ck_some hf
        refine jal hC hK hP (q0 := 10) rfl (Nat.le_of_ble_eq_true rfl) hz_26 rfl dX8_claim_217 <| ?_
        obtain ⟨hz_27, hf⟩ := ck_some hf
        refine jas hC hK hP (hD V_25) hS (q0 := 1) rfl (Nat.le_of_ble_eq_true rfl) hz_27 rfl dX8_claim_218 (fun H locs hP hS => ?_)
        obtain ⟨V_28, eV_28⟩ : ∃ y, y = uz V_25 0 (953 + y4).toNat (V_25 12 y4.toNat) := ⟨_, rfl⟩
        have hf := nm_at hf eV_28
        have hP : va_P D vwCl (cs_X8 kA a V_28) H := by rw [eV_28]; exact hP
        exact J219 _ _ _ _ _ _ hf hP hS (lv_sub hl [0, 1, 2, 3] rfl)
      have J170 : ∀ (y3 : Int) (y4 : Int) (y5 : Int) (V : Sz) (z0 : Int) (z1 : Int) (H : Heap) (locs : List Loc) (ls : Array Slot), jX8_claim_170 n x1 (lpF (bX8_claim_130 n x1) k130) y3 y4 y5 V z0 z1 = some (r, Vr) → va_P D vwCl (cs_X8 kA a V) H → va_S A0 s.heap H locs → lv_has ls 6 [(0, .ref (a 0)), (1, vI x1), (3, vI y3), (4, vI y4), (5, vI y5)] → W p l e rmX8_claim s m args below meth c H locs 0 0 Q (F0 m 170 ls [vI z0, vI z1, .ref (a 1)]) := by
        intro y3 y4 y5 V z0 z1 H locs ls hf hP hS hl
        unfold jX8_claim_170 at hf
        refine ziadd hC.1 hC.2.1 dX8_claim_170 <| lv_dup2_11 hC.1 hC.2.1 dX8_claim_171 rfl rfl <| ?_
        obtain ⟨hz_21, hf⟩ := ck_some hf
        refine jal hC hK hP (q0 := 1) rfl (Nat.le_of_ble_eq_true rfl) hz_21 rfl dX8_claim_172 <| ziload hC.1 hC.2.1 dX8_claim_173 (lv_at hl 4 rfl) <| ?_
        obtain ⟨hz_22, hf⟩ := ck_some hf
        refine jabs hz_22 hC qw_1687 hl.1 (Nat.le_of_ble_eq_true rfl) ⟨Nat.le_of_ble_eq_true rfl, Nat.le_of_ble_eq_true rfl⟩ ⟨Nat.le_refl _, Nat.le_refl _⟩ dX8_claim_175 <| ziadd hC.1 hC.2.1 dX8_claim_178 <| ?_
        refine jas hC hK hP (hD V) hS (q0 := 1) rfl (Nat.le_of_ble_eq_true rfl) hz_21 rfl dX8_claim_179 (fun H locs hP hS => ?_)
        obtain ⟨V_23, eV_23⟩ : ∃ y, y = uz V 0 (z1 + z0).toNat ((V 0 (z1 + z0).toNat) + (abZ y5)) := ⟨_, rfl⟩
        have hf := nm_at hf eV_23
        have hP : va_P D vwCl (cs_X8 kA a V_23) H := by rw [eV_23]; exact hP
        refine lv_aload_n hC.1 hC.2.1 dX8_claim_180 rfl (lv_at hl 0 rfl) <| gfX8_7 hC hK hP (q0 := 0) rfl rfl dX8_claim_181 <| ziload_n hC.1 hC.2.1 dX8_claim_184 rfl (lv_at hl 2 rfl) <| ziload hC.1 hC.2.1 dX8_claim_185 (lv_at hl 4 rfl) <| zif_le (tgt := 194) hC.1 hC.2.1 hz_22 dX8_claim_187 (by decide) (fun hc => ?_) (fun hc => ?_)
        · have hf := it_t hf hc
          exact ziconst hC.1 hC.2.1 dX8_claim_194 <| J195 _ _ _ _ _ _ _ _ hf hP hS (lv_sub hl [0, 1, 2, 3] rfl)
        · have hf := it_f hf hc
          exact ziconst hC.1 hC.2.1 dX8_claim_190 <| lv_goto (tgt := 195) hC.1 hC.2.1 dX8_claim_191 (by decide) <| J195 _ _ _ _ _ _ _ _ hf hP hS (lv_sub hl [0, 1, 2, 3] rfl)
      refine ziload hC.1 hC.2.1 dX8_claim_130 (lv_at hl 3 rfl) <| zsipush hC.1 hC.2.1 dX8_claim_132 (by decide) <| ?_
      obtain ⟨hz_15, hf⟩ := ck_some hf
      refine zicmp_ge (tgt := 225) hC.1 hC.2.1 ⟨hz_15, (by decide)⟩ dX8_claim_135 (by decide) (fun hc => ?_) (fun hc => ?_)
      · have hf := it_t hf hc
        refine lv_aload_n hC.1 hC.2.1 dX8_claim_225 rfl (lv_at hl 0 rfl) <| gfX8_7 hC hK hP (q0 := 0) rfl rfl dX8_claim_226 <| ziconst hC.1 hC.2.1 dX8_claim_229 <| lv_dup2_11 hC.1 hC.2.1 dX8_claim_230 rfl rfl <| jal hC hK hP (q0 := 1) rfl (Nat.le_of_ble_eq_true rfl) (by decide) rfl dX8_claim_231 <| ziconst hC.1 hC.2.1 dX8_claim_232 <| ziadd hC.1 hC.2.1 dX8_claim_233 <| ?_
        refine jas hC hK hP (hD V) hS (q0 := 1) rfl (Nat.le_of_ble_eq_true rfl) (by decide) rfl dX8_claim_234 (fun H locs hP hS => ?_)
        obtain ⟨V_16, eV_16⟩ : ∃ y, y = uz V 0 4 ((V 0 4) + 1) := ⟨_, rfl⟩
        have hf := nm_at hf eV_16
        have hP : va_P D vwCl (cs_X8 kA a V_16) H := by rw [eV_16]; exact hP
        refine lv_aload_n hC.1 hC.2.1 dX8_claim_235 rfl (lv_at hl 0 rfl) <| gfX8_7 hC hK hP (q0 := 0) rfl rfl dX8_claim_236 <| ziload_n hC.1 hC.2.1 dX8_claim_239 rfl (lv_at hl 2 rfl) <| ziconst hC.1 hC.2.1 dX8_claim_240 <| ziadd hC.1 hC.2.1 dX8_claim_241 <| ?_
        obtain ⟨hz_17, hf⟩ := ck_some hf
        refine jal hC hK hP (q0 := 1) rfl (Nat.le_of_ble_eq_true rfl) hz_17 rfl dX8_claim_242 <| lv_aload_n hC.1 hC.2.1 dX8_claim_243 rfl (lv_at hl 0 rfl) <| gfX8_7 hC hK hP (q0 := 0) rfl rfl dX8_claim_244 <| ziload_n hC.1 hC.2.1 dX8_claim_247 rfl (lv_at hl 2 rfl) <| ziconst hC.1 hC.2.1 dX8_claim_248 <| ziadd hC.1 hC.2.1 dX8_claim_249 <| ?_
        obtain ⟨hz_18, hf⟩ := ck_some hf
        refine jal hC hK hP (q0 := 1) rfl (Nat.le_of_ble_eq_true rfl) hz_18 rfl dX8_claim_250 <| zisub hC.1 hC.2.1 dX8_claim_251 <| ?_
        have hf := Option.some.inj hf
        simp only [Prod.mk.injEq] at hf
        exact hret (Int32.ofInt ((V_16 0 (y3 + 1).toNat) - (V_16 0 (y3 + 2).toNat))) _ _ _ _ (congrArg (fun z => some (vI z)) hf.1.symm) (by rw [← hf.2]; exact hP) hS dX8_claim_252
      · have hf := it_f hf hc
        refine lv_aload_n hC.1 hC.2.1 dX8_claim_138 rfl (lv_at hl 0 rfl) <| ziload hC.1 hC.2.1 dX8_claim_139 (lv_at hl 3 rfl) <| ziload_n hC.1 hC.2.1 dX8_claim_141 rfl (lv_at hl 1 rfl) <| ?_
        obtain ⟨r_19, hu, hf⟩ := bd_some hf
        refine zcVP (As := [vI y4, vI x1]) (rest := []) hC hK (met_X8_claimOf l D kA a V y4 x1 hu) zwX8_317 hP (q0 := 0) rfl rfl rfl rfl hl.1 rfl (Nat.le_of_ble_eq_true rfl) ⟨Nat.le_of_ble_eq_true rfl, Nat.le_of_ble_eq_true rfl⟩ ⟨rfl, rfl⟩ ⟨Nat.le_refl _, Nat.le_refl _⟩ dX8_claim_142 <| zistore (lv' := [(5, vI r_19), (0, .ref (a 0)), (1, vI x1), (3, vI y3), (4, vI y4)]) hC.1 hC.2.1 dX8_claim_145 hl (by decide) rfl (fun ls hl => ?_)
        refine ziload hC.1 hC.2.1 dX8_claim_147 (lv_at hl 0 rfl) <| ?_
        obtain ⟨hz_20, hf⟩ := ck_some hf
        refine zif_ne (tgt := 155) hC.1 hC.2.1 hz_20 dX8_claim_149 (by decide) (fun hc => ?_) (fun hc => ?_)
        · have hf := it_f hf hc
          refine lv_aload_n hC.1 hC.2.1 dX8_claim_155 rfl (lv_at hl 1 rfl) <| gfX8_7 hC hK hP (q0 := 0) rfl rfl dX8_claim_156 <| ziload_n hC.1 hC.2.1 dX8_claim_159 rfl (lv_at hl 3 rfl) <| ziload hC.1 hC.2.1 dX8_claim_160 (lv_at hl 0 rfl) <| zif_le (tgt := 169) hC.1 hC.2.1 hz_20 dX8_claim_162 (by decide) (fun hc => ?_) (fun hc => ?_)
          · have hf := it_t hf hc
            exact ziconst hC.1 hC.2.1 dX8_claim_169 <| J170 _ _ _ _ _ _ _ _ _ hf hP hS (lv_sub hl [1, 2, 3, 4, 0] rfl)
          · have hf := it_f hf hc
            exact ziconst hC.1 hC.2.1 dX8_claim_165 <| lv_goto (tgt := 170) hC.1 hC.2.1 dX8_claim_166 (by decide) <| J170 _ _ _ _ _ _ _ _ _ hf hP hS (lv_sub hl [1, 2, 3, 4, 0] rfl)
        · have hf := it_t hf hc
          exact lv_goto (tgt := 219) hC.1 hC.2.1 dX8_claim_152 (by decide) <| J219 _ _ _ _ _ _ hf hP hS (lv_sub hl [1, 2, 3, 4] rfl)
  have L98 : ∀ (k98 : Nat) (y3 : Int) (y4 : Int) (V : Sz) (H : Heap) (locs : List Loc) (ls : Array Slot), lpF (bX8_claim_98 n x1) k98 (y3, y4, V) = some (r, Vr) → va_P D vwCl (cs_X8 kA a V) H → va_S A0 s.heap H locs → lv_has ls 6 [(0, .ref (a 0)), (1, vI x1), (3, vI y3), (4, vI y4)] → W p l e rmX8_claim s m args below meth c H locs 0 0 Q (F0 m 98 ls []) := by
    intro k98
    induction k98 with
    | zero => intro y3 y4 V H locs ls hf hP hS hl; exact lp_0 hf
    | succ k98 ih98 =>
      intro y3 y4 V H locs ls hf hP hS hl
      have hf := lp_s hf
      rw [bX8_claim_98_e] at hf
      refine ziload hC.1 hC.2.1 dX8_claim_98 (lv_at hl 3 rfl) <| ziconst hC.1 hC.2.1 dX8_claim_100 <| ?_
      obtain ⟨hz_12, hf⟩ := ck_some hf
      refine zicmp_ge (tgt := 120) hC.1 hC.2.1 ⟨hz_12, (by decide)⟩ dX8_claim_101 (by decide) (fun hc => ?_) (fun hc => ?_)
      · have hf := it_t hf hc
        refine lv_aload_n hC.1 hC.2.1 dX8_claim_120 rfl (lv_at hl 0 rfl) <| gfX8_7 hC hK hP (q0 := 0) rfl rfl dX8_claim_121 <| ziload_n hC.1 hC.2.1 dX8_claim_124 rfl (lv_at hl 2 rfl) <| ziload_n hC.1 hC.2.1 dX8_claim_125 rfl (lv_at hl 1 rfl) <| ?_
        obtain ⟨hz_13, hf⟩ := ck_some hf
        refine jas hC hK hP (hD V) hS (q0 := 1) rfl (Nat.le_of_ble_eq_true rfl) hz_13 rfl dX8_claim_126 (fun H locs hP hS => ?_)
        obtain ⟨V_14, eV_14⟩ : ∃ y, y = uz V 0 y3.toNat x1 := ⟨_, rfl⟩
        have hf := nm_at hf eV_14
        have hP : va_P D vwCl (cs_X8 kA a V_14) H := by rw [eV_14]; exact hP
        refine ziconst hC.1 hC.2.1 dX8_claim_127 <| zistore (lv' := [(4, vI 0), (0, .ref (a 0)), (1, vI x1), (3, vI y3)]) hC.1 hC.2.1 dX8_claim_128 hl (by decide) rfl (fun ls hl => ?_)
        exact L130 n _ _ _ _ _ _ hf hP hS (lv_sub hl [1, 2, 3, 0] rfl)
      · have hf := it_f hf hc
        refine lv_aload_n hC.1 hC.2.1 dX8_claim_104 rfl (lv_at hl 0 rfl) <| gfX8_7 hC hK hP (q0 := 0) rfl rfl dX8_claim_105 <| ziload_n hC.1 hC.2.1 dX8_claim_108 rfl (lv_at hl 2 rfl) <| ziload hC.1 hC.2.1 dX8_claim_109 (lv_at hl 3 rfl) <| ziadd hC.1 hC.2.1 dX8_claim_111 <| ziconst hC.1 hC.2.1 dX8_claim_112 <| ?_
        obtain ⟨hz_30, hf⟩ := ck_some hf
        refine jas hC hK hP (hD V) hS (q0 := 1) rfl (Nat.le_of_ble_eq_true rfl) hz_30 rfl dX8_claim_113 (fun H locs hP hS => ?_)
        obtain ⟨V_31, eV_31⟩ : ∃ y, y = uz V 0 (y3 + y4).toNat 0 := ⟨_, rfl⟩
        have hf := nm_at hf eV_31
        have hP : va_P D vwCl (cs_X8 kA a V_31) H := by rw [eV_31]; exact hP
        obtain ⟨x_32, ex_32⟩ : ∃ y : Int, y = y4 + 1 := ⟨_, rfl⟩
        have hf := nm_at hf ex_32
        refine ziinc (v := x_32) (lv' := [(4, vI x_32), (0, .ref (a 0)), (1, vI x1), (3, vI y3)]) hC.1 hC.2.1 dX8_claim_114 hl (k := 3) rfl ex_32 (by decide) rfl (fun ls hl => ?_)
        exact lv_goto (tgt := 98) hC.1 hC.2.1 dX8_claim_117 (by decide) <| ih98 _ _ _ _ _ _ hf hP hS (lv_sub hl [1, 2, 3, 0] rfl)
  have J70 : ∀ (y2 : Int) (V : Sz) (z0 : Int) (H : Heap) (locs : List Loc) (ls : Array Slot), jX8_claim_70 n x1 y2 V z0 = some (r, Vr) → va_P D vwCl (cs_X8 kA a V) H → va_S A0 s.heap H locs → lv_has ls 6 [(0, .ref (a 0)), (1, vI x1), (2, vI y2)] → W p l e rmX8_claim s m args below meth c H locs 0 0 Q (F0 m 70 ls [vI z0, .ref (a 0)]) := by
    intro y2 V z0 H locs ls hf hP hS hl
    unfold jX8_claim_70 at hf
    refine ziconst hC.1 hC.2.1 dX8_claim_70 <| ?_
    obtain ⟨⟨r_7, V_8⟩, hu, hf⟩ := bd_some hf
    have hDc := hDt
    refine zcVZ (As := [vI z0, vI 2]) (rest := []) hC hK (met_X8_fails l D kA a V z0 2 hDc hu) zwX8_261 hS (zFsub (hD V) [0, 1, 2, 3, 4, 5, 6, 7, 8, 9, 10, 11, 12, 13, 14, 15, 16] rfl) hP (q0 := 0) rfl rfl rfl rfl hl.1 rfl (Nat.le_of_ble_eq_true rfl) ⟨Nat.le_of_ble_eq_true rfl, Nat.le_of_ble_eq_true rfl⟩ ⟨rfl, rfl⟩ ⟨Nat.le_refl _, Nat.le_refl _⟩ dX8_claim_71 (fun H locs hP1 hk1 hS => ?_)
    have hP : va_P D vwCl (cs_X8 kA a V_8) H := hP1
    refine zifb_eq (tgt := 79) hC.1 hC.2.1 dX8_claim_74 (by decide) (fun hc => ?_) (fun hc => ?_)
    · have hf := it_t hf hc
      refine lv_aload_n hC.1 hC.2.1 dX8_claim_79 rfl (lv_at hl 0 rfl) <| ?_
      obtain ⟨V_9, hu, hf⟩ := bd_some hf
      have hDc := hDt
      refine zcVZ (As := []) (rest := []) hC hK (met_X8_remembers l D kA a n V_8 hDc hu) zwX8_300 hS (zFsub (hD V_8) [0, 1, 2, 3, 4, 5, 6, 7, 8, 9, 10, 11, 12, 13, 14, 15, 16] rfl) hP (q0 := 0) rfl rfl rfl rfl hl.1 rfl (Nat.le_of_ble_eq_true rfl) ⟨Nat.le_of_ble_eq_true rfl, Nat.le_of_ble_eq_true rfl⟩ ⟨rfl, rfl⟩ ⟨Nat.le_refl _, Nat.le_refl _⟩ dX8_claim_80 (fun H locs hP1 hk1 hS => ?_)
      have hP : va_P D vwCl (cs_X8 kA a V_9) H := hP1
      refine lv_aload_n hC.1 hC.2.1 dX8_claim_83 rfl (lv_at hl 0 rfl) <| ?_
      obtain ⟨V_10, hu, hf⟩ := bd_some hf
      have hDc := hDt
      refine zcVZ (As := []) (rest := []) hC hK (met_X8_laysAid l D kA a n V_9 hDc hu) zwX8_121 hS (zFsub (hD V_9) [0, 1, 2, 3, 4, 5, 6, 7, 8, 9, 10, 11, 12, 13, 14, 15, 16] rfl) hP (q0 := 0) rfl rfl rfl rfl hl.1 rfl (Nat.le_of_ble_eq_true rfl) ⟨Nat.le_of_ble_eq_true rfl, Nat.le_of_ble_eq_true rfl⟩ ⟨rfl, rfl⟩ ⟨Nat.le_refl _, Nat.le_refl _⟩ dX8_claim_84 (fun H locs hP1 hk1 hS => ?_)
      have hP : va_P D vwCl (cs_X8 kA a V_10) H := hP1
      refine zsipush hC.1 hC.2.1 dX8_claim_87 (by decide) <| ziconst hC.1 hC.2.1 dX8_claim_90 <| ziload_n hC.1 hC.2.1 dX8_claim_91 rfl (lv_at hl 2 rfl) <| zimul hC.1 hC.2.1 dX8_claim_92 <| ziadd hC.1 hC.2.1 dX8_claim_93 <| ?_
      refine ztopi (fun x_11 ex_11 => ?_)
      have hf := nm_at hf ex_11
      refine zistore_n (lv' := [(3, vI x_11), (0, .ref (a 0)), (1, vI x1), (2, vI y2)]) hC.1 hC.2.1 dX8_claim_94 rfl hl (by decide) rfl (fun ls hl => ?_)
      refine ziconst hC.1 hC.2.1 dX8_claim_95 <| zistore (lv' := [(4, vI 0), (3, vI x_11), (0, .ref (a 0)), (1, vI x1), (2, vI y2)]) hC.1 hC.2.1 dX8_claim_96 hl (by decide) rfl (fun ls hl => ?_)
      exact L98 n _ _ _ _ _ _ hf hP hS (lv_sub hl [2, 3, 1, 0] rfl)
    · have hf := it_f hf hc
      refine ziconst hC.1 hC.2.1 dX8_claim_77 <| ?_
      have hf := Option.some.inj hf
      simp only [Prod.mk.injEq] at hf
      exact hret (Int32.ofInt 0) _ _ _ _ (congrArg (fun z => some (vI z)) hf.1.symm) (by rw [← hf.2]; exact hP) hS dX8_claim_78
  have J65 : ∀ (y2 : Int) (V : Sz) (H : Heap) (locs : List Loc) (ls : Array Slot), jX8_claim_65 n x1 y2 V = some (r, Vr) → va_P D vwCl (cs_X8 kA a V) H → va_S A0 s.heap H locs → lv_has ls 6 [(0, .ref (a 0)), (1, vI x1), (2, vI y2)] → W p l e rmX8_claim s m args below meth c H locs 0 0 Q (F0 m 65 ls [.ref (a 0)]) := by
    intro y2 V H locs ls hf hP hS hl
    unfold jX8_claim_65 at hf
    exact ziconst hC.1 hC.2.1 dX8_claim_65 <| lv_goto (tgt := 70) hC.1 hC.2.1 dX8_claim_66 (by decide) <| J70 _ _ _ _ _ _ hf hP hS (lv_sub hl [0, 1, 2] rfl)
  have J69 : ∀ (y2 : Int) (V : Sz) (H : Heap) (locs : List Loc) (ls : Array Slot), jX8_claim_69 n x1 y2 V = some (r, Vr) → va_P D vwCl (cs_X8 kA a V) H → va_S A0 s.heap H locs → lv_has ls 6 [(0, .ref (a 0)), (1, vI x1), (2, vI y2)] → W p l e rmX8_claim s m args below meth c H locs 0 0 Q (F0 m 69 ls [.ref (a 0)]) := by
    intro y2 V H locs ls hf hP hS hl
    unfold jX8_claim_69 at hf
    exact ziconst hC.1 hC.2.1 dX8_claim_69 <| J70 _ _ _ _ _ _ hf hP hS (lv_sub hl [0, 1, 2] rfl)
  have J29 : ∀ (y2 : Int) (V : Sz) (z0 : Int) (H : Heap) (locs : List Loc) (ls : Array Slot), jX8_claim_29 n x1 y2 V z0 = some (r, Vr) → va_P D vwCl (cs_X8 kA a V) H → va_S A0 s.heap H locs → lv_has ls 6 [(0, .ref (a 0)), (1, vI x1), (2, vI y2)] → W p l e rmX8_claim s m args below meth c H locs 0 0 Q (F0 m 29 ls [vI z0, .ref (a 0)]) := by
    intro y2 V z0 H locs ls hf hP hS hl
    unfold jX8_claim_29 at hf
    refine ziconst hC.1 hC.2.1 dX8_claim_29 <| ?_
    obtain ⟨⟨r_4, V_5⟩, hu, hf⟩ := bd_some hf
    have hDc := hDt
    refine zcVZ (As := [vI z0, vI 1]) (rest := []) hC hK (met_X8_fails l D kA a V z0 1 hDc hu) zwX8_261 hS (zFsub (hD V) [0, 1, 2, 3, 4, 5, 6, 7, 8, 9, 10, 11, 12, 13, 14, 15, 16] rfl) hP (q0 := 0) rfl rfl rfl rfl hl.1 rfl (Nat.le_of_ble_eq_true rfl) ⟨Nat.le_of_ble_eq_true rfl, Nat.le_of_ble_eq_true rfl⟩ ⟨rfl, rfl⟩ ⟨Nat.le_refl _, Nat.le_refl _⟩ dX8_claim_30 (fun H locs hP1 hk1 hS => ?_)
    have hP : va_P D vwCl (cs_X8 kA a V_5) H := hP1
    refine zifb_ne (tgt := 77) hC.1 hC.2.1 dX8_claim_33 (by decide) (fun hc => ?_) (fun hc => ?_)
    · have hf := it_t hf hc
      refine ziconst hC.1 hC.2.1 dX8_claim_77 <| ?_
      have hf := Option.some.inj hf
      simp only [Prod.mk.injEq] at hf
      exact hret (Int32.ofInt 0) _ _ _ _ (congrArg (fun z => some (vI z)) hf.1.symm) (by rw [← hf.2]; exact hP) hS dX8_claim_78
    · have hf := it_f hf hc
      refine lv_aload_n hC.1 hC.2.1 dX8_claim_36 rfl (lv_at hl 0 rfl) <| ziload_n hC.1 hC.2.1 dX8_claim_37 rfl (lv_at hl 2 rfl) <| zbipush hC.1 hC.2.1 dX8_claim_38 (by decide) <| ?_
      obtain ⟨hz_6, hf⟩ := ck_some hf
      refine zicmp_eq (tgt := 65) hC.1 hC.2.1 ⟨hz_6, (by decide)⟩ dX8_claim_40 (by decide) (fun hc => ?_) (fun hc => ?_)
      · have hf := it_t hf hc
        exact J65 _ _ _ _ _ hf hP hS (lv_sub hl [0, 1, 2] rfl)
      · have hf := it_f hf hc
        refine ziload_n hC.1 hC.2.1 dX8_claim_43 rfl (lv_at hl 2 rfl) <| zif_le (tgt := 69) hC.1 hC.2.1 hz_6 dX8_claim_44 (by decide) (fun hc => ?_) (fun hc => ?_)
        · have hf := it_t hf hc
          exact J69 _ _ _ _ _ hf hP hS (lv_sub hl [0, 1, 2] rfl)
        · have hf := it_f hf hc
          refine lv_aload_n hC.1 hC.2.1 dX8_claim_47 rfl (lv_at hl 0 rfl) <| gfX8_7 hC hK hP (q0 := 0) rfl rfl dX8_claim_48 <| zsipush hC.1 hC.2.1 dX8_claim_51 (by decide) <| ziconst hC.1 hC.2.1 dX8_claim_54 <| ziload_n hC.1 hC.2.1 dX8_claim_55 rfl (lv_at hl 2 rfl) <| ziconst hC.1 hC.2.1 dX8_claim_56 <| zisub hC.1 hC.2.1 dX8_claim_57 <| zimul hC.1 hC.2.1 dX8_claim_58 <| ziadd hC.1 hC.2.1 dX8_claim_59 <| ?_
          obtain ⟨hz_33, hf⟩ := ck_some hf
          refine jal hC hK hP (q0 := 1) rfl (Nat.le_of_ble_eq_true rfl) hz_33 rfl dX8_claim_60 <| ziload_n hC.1 hC.2.1 dX8_claim_61 rfl (lv_at hl 1 rfl) <| ?_
          obtain ⟨hz_34, hf⟩ := ck_some hf
          refine zicmp_le (tgt := 69) hC.1 hC.2.1 ⟨hz_34.1, hz_34.2⟩ dX8_claim_62 (by decide) (fun hc => ?_) (fun hc => ?_)
          · have hf := it_t hf hc
            exact J69 _ _ _ _ _ hf hP hS (lv_sub hl [0, 1, 2] rfl)
          · have hf := it_f hf hc
            exact J65 _ _ _ _ _ hf hP hS (lv_sub hl [0, 1, 2] rfl)
  refine lv_aload_n hC.1 hC.2.1 dX8_claim_0 rfl (lv_at hl 0 rfl) <| ziconst hC.1 hC.2.1 dX8_claim_1 <| ?_
  refine pfX8_65 hC hK hP (hD V0) hS (q0 := 0) rfl (Nat.le_of_ble_eq_true rfl) dX8_claim_2 (fun H locs hP hS => ?_)
  obtain ⟨V_1, eV_1⟩ : ∃ y, y = us V0 9 0 := ⟨_, rfl⟩
  have hf := nm_at hf eV_1
  have hP : va_P D vwCl (cs_X8 kA a V_1) H := by rw [eV_1]; exact hP
  refine lv_aload_n hC.1 hC.2.1 dX8_claim_5 rfl (lv_at hl 0 rfl) <| gfX8_7 hC hK hP (q0 := 0) rfl rfl dX8_claim_6 <| ziconst hC.1 hC.2.1 dX8_claim_9 <| jal hC hK hP (q0 := 1) rfl (Nat.le_of_ble_eq_true rfl) (by decide) rfl dX8_claim_10 <| ?_
  refine ztopi (fun x_2 ex_2 => ?_)
  have hf := nm_at hf ex_2
  refine zistore_n (lv' := [(2, vI x_2), (0, .ref (a 0)), (1, vI x1)]) hC.1 hC.2.1 dX8_claim_11 rfl hl (by decide) rfl (fun ls hl => ?_)
  refine lv_aload_n hC.1 hC.2.1 dX8_claim_12 rfl (lv_at hl 1 rfl) <| ziload_n hC.1 hC.2.1 dX8_claim_13 rfl (lv_at hl 2 rfl) <| ziconst hC.1 hC.2.1 dX8_claim_14 <| zsipush hC.1 hC.2.1 dX8_claim_15 (by decide) <| ?_
  obtain ⟨r_3, hu, hf⟩ := bd_some hf
  have hPc : va_P D vwCl ([] : va_W) _ := hP.sub [] rfl
  refine zcSP (As := [vI x1, vI 0, vI 9999]) (rest := [.ref (a 0)]) hC hK (met_X8_inRange l D kA x1 0 9999 hu) zwX8_79 hPc rfl hl.1 rfl (Nat.le_of_ble_eq_true rfl) ⟨Nat.le_of_ble_eq_true rfl, Nat.le_of_ble_eq_true rfl⟩ ⟨rfl, rfl⟩ ⟨Nat.le_refl _, Nat.le_refl _⟩ dX8_claim_18 <| zifb_ne (tgt := 28) hC.1 hC.2.1 dX8_claim_21 (by decide) (fun hc => ?_) (fun hc => ?_)
  · have hf := it_t hf hc
    exact ziconst hC.1 hC.2.1 dX8_claim_28 <| J29 _ _ _ _ _ _ hf hP hS (lv_sub hl [1, 2, 0] rfl)
  · have hf := it_f hf hc
    exact ziconst hC.1 hC.2.1 dX8_claim_24 <| lv_goto (tgt := 29) hC.1 hC.2.1 dX8_claim_25 (by decide) <| J29 _ _ _ _ _ _ hf hP hS (lv_sub hl [1, 2, 0] rfl)
theorem DX8_claimed_0 : ∀ q ∈ ([(0, .aload_n 0, 1), (1, .iconst 0, 1), (2, .putfield 65, 3), (5, .aload_n 0, 1), (6, .iload_n 1, 1), (7, .iconst 0, 1), (8, .aload_n 0, 1), (9, .getfield 7, 3), (12, .iconst 4, 1), (13, .iaload, 1), (14, .iconst 1, 1), (15, .isub, 1), (16, .invokestatic 79, 3), (19, .ifCond .ne 7, 3), (22, .iconst 1, 1), (23, .goto 4, 3), (26, .iconst 0, 1), (27, .iconst 1, 1), (28, .invokevirtual 261, 3), (31, .ifCond .ne 25, 3), (34, .aload_n 0, 1), (35, .iload_n 2, 1), (36, .iconst 0, 1), (37, .iconst 4, 1), (38, .invokestatic 79, 3), (41, .ifCond .ne 7, 3), (44, .iconst 1, 1), (45, .goto 4, 3), (48, .iconst 0, 1), (49, .iconst 2, 1), (50, .invokevirtual 261, 3), (53, .ifCond .eq 5, 3), (56, .iconst 0, 1), (57, .ireturn, 1), (58, .aload_n 0, 1), (59, .getfield 7, 3), (62, .sipush 1133, 3), (65, .iconst 5, 1), (66, .iload_n 1, 1), (67, .imul, 1)] : List (Nat × Instr × Nat)), decode cX8_claimed q.1 = .ok q.2 := by decide +kernel
theorem dX8_claimed_0 : decode cX8_claimed 0 = .ok (.aload_n 0, 1) := DX8_claimed_0 (0, .aload_n 0, 1) (List.mem_of_getElem? (i := 0) rfl)
theorem dX8_claimed_1 : decode cX8_claimed 1 = .ok (.iconst 0, 1) := DX8_claimed_0 (1, .iconst 0, 1) (List.mem_of_getElem? (i := 1) rfl)
theorem dX8_claimed_2 : decode cX8_claimed 2 = .ok (.putfield 65, 3) := DX8_claimed_0 (2, .putfield 65, 3) (List.mem_of_getElem? (i := 2) rfl)
theorem dX8_claimed_5 : decode cX8_claimed 5 = .ok (.aload_n 0, 1) := DX8_claimed_0 (5, .aload_n 0, 1) (List.mem_of_getElem? (i := 3) rfl)
theorem dX8_claimed_6 : decode cX8_claimed 6 = .ok (.iload_n 1, 1) := DX8_claimed_0 (6, .iload_n 1, 1) (List.mem_of_getElem? (i := 4) rfl)
theorem dX8_claimed_7 : decode cX8_claimed 7 = .ok (.iconst 0, 1) := DX8_claimed_0 (7, .iconst 0, 1) (List.mem_of_getElem? (i := 5) rfl)
theorem dX8_claimed_8 : decode cX8_claimed 8 = .ok (.aload_n 0, 1) := DX8_claimed_0 (8, .aload_n 0, 1) (List.mem_of_getElem? (i := 6) rfl)
theorem dX8_claimed_9 : decode cX8_claimed 9 = .ok (.getfield 7, 3) := DX8_claimed_0 (9, .getfield 7, 3) (List.mem_of_getElem? (i := 7) rfl)
theorem dX8_claimed_12 : decode cX8_claimed 12 = .ok (.iconst 4, 1) := DX8_claimed_0 (12, .iconst 4, 1) (List.mem_of_getElem? (i := 8) rfl)
theorem dX8_claimed_13 : decode cX8_claimed 13 = .ok (.iaload, 1) := DX8_claimed_0 (13, .iaload, 1) (List.mem_of_getElem? (i := 9) rfl)
theorem dX8_claimed_14 : decode cX8_claimed 14 = .ok (.iconst 1, 1) := DX8_claimed_0 (14, .iconst 1, 1) (List.mem_of_getElem? (i := 10) rfl)
theorem dX8_claimed_15 : decode cX8_claimed 15 = .ok (.isub, 1) := DX8_claimed_0 (15, .isub, 1) (List.mem_of_getElem? (i := 11) rfl)
theorem dX8_claimed_16 : decode cX8_claimed 16 = .ok (.invokestatic 79, 3) := DX8_claimed_0 (16, .invokestatic 79, 3) (List.mem_of_getElem? (i := 12) rfl)
theorem dX8_claimed_19 : decode cX8_claimed 19 = .ok (.ifCond .ne 7, 3) := DX8_claimed_0 (19, .ifCond .ne 7, 3) (List.mem_of_getElem? (i := 13) rfl)
theorem dX8_claimed_22 : decode cX8_claimed 22 = .ok (.iconst 1, 1) := DX8_claimed_0 (22, .iconst 1, 1) (List.mem_of_getElem? (i := 14) rfl)
theorem dX8_claimed_23 : decode cX8_claimed 23 = .ok (.goto 4, 3) := DX8_claimed_0 (23, .goto 4, 3) (List.mem_of_getElem? (i := 15) rfl)
theorem dX8_claimed_26 : decode cX8_claimed 26 = .ok (.iconst 0, 1) := DX8_claimed_0 (26, .iconst 0, 1) (List.mem_of_getElem? (i := 16) rfl)
theorem dX8_claimed_27 : decode cX8_claimed 27 = .ok (.iconst 1, 1) := DX8_claimed_0 (27, .iconst 1, 1) (List.mem_of_getElem? (i := 17) rfl)
theorem dX8_claimed_28 : decode cX8_claimed 28 = .ok (.invokevirtual 261, 3) := DX8_claimed_0 (28, .invokevirtual 261, 3) (List.mem_of_getElem? (i := 18) rfl)
theorem dX8_claimed_31 : decode cX8_claimed 31 = .ok (.ifCond .ne 25, 3) := DX8_claimed_0 (31, .ifCond .ne 25, 3) (List.mem_of_getElem? (i := 19) rfl)
theorem dX8_claimed_34 : decode cX8_claimed 34 = .ok (.aload_n 0, 1) := DX8_claimed_0 (34, .aload_n 0, 1) (List.mem_of_getElem? (i := 20) rfl)
theorem dX8_claimed_35 : decode cX8_claimed 35 = .ok (.iload_n 2, 1) := DX8_claimed_0 (35, .iload_n 2, 1) (List.mem_of_getElem? (i := 21) rfl)
theorem dX8_claimed_36 : decode cX8_claimed 36 = .ok (.iconst 0, 1) := DX8_claimed_0 (36, .iconst 0, 1) (List.mem_of_getElem? (i := 22) rfl)
theorem dX8_claimed_37 : decode cX8_claimed 37 = .ok (.iconst 4, 1) := DX8_claimed_0 (37, .iconst 4, 1) (List.mem_of_getElem? (i := 23) rfl)
theorem dX8_claimed_38 : decode cX8_claimed 38 = .ok (.invokestatic 79, 3) := DX8_claimed_0 (38, .invokestatic 79, 3) (List.mem_of_getElem? (i := 24) rfl)
theorem dX8_claimed_41 : decode cX8_claimed 41 = .ok (.ifCond .ne 7, 3) := DX8_claimed_0 (41, .ifCond .ne 7, 3) (List.mem_of_getElem? (i := 25) rfl)
theorem dX8_claimed_44 : decode cX8_claimed 44 = .ok (.iconst 1, 1) := DX8_claimed_0 (44, .iconst 1, 1) (List.mem_of_getElem? (i := 26) rfl)
theorem dX8_claimed_45 : decode cX8_claimed 45 = .ok (.goto 4, 3) := DX8_claimed_0 (45, .goto 4, 3) (List.mem_of_getElem? (i := 27) rfl)
theorem dX8_claimed_48 : decode cX8_claimed 48 = .ok (.iconst 0, 1) := DX8_claimed_0 (48, .iconst 0, 1) (List.mem_of_getElem? (i := 28) rfl)
theorem dX8_claimed_49 : decode cX8_claimed 49 = .ok (.iconst 2, 1) := DX8_claimed_0 (49, .iconst 2, 1) (List.mem_of_getElem? (i := 29) rfl)
theorem dX8_claimed_50 : decode cX8_claimed 50 = .ok (.invokevirtual 261, 3) := DX8_claimed_0 (50, .invokevirtual 261, 3) (List.mem_of_getElem? (i := 30) rfl)
theorem dX8_claimed_53 : decode cX8_claimed 53 = .ok (.ifCond .eq 5, 3) := DX8_claimed_0 (53, .ifCond .eq 5, 3) (List.mem_of_getElem? (i := 31) rfl)
theorem dX8_claimed_56 : decode cX8_claimed 56 = .ok (.iconst 0, 1) := DX8_claimed_0 (56, .iconst 0, 1) (List.mem_of_getElem? (i := 32) rfl)
theorem dX8_claimed_57 : decode cX8_claimed 57 = .ok (.ireturn, 1) := DX8_claimed_0 (57, .ireturn, 1) (List.mem_of_getElem? (i := 33) rfl)
theorem dX8_claimed_58 : decode cX8_claimed 58 = .ok (.aload_n 0, 1) := DX8_claimed_0 (58, .aload_n 0, 1) (List.mem_of_getElem? (i := 34) rfl)
theorem dX8_claimed_59 : decode cX8_claimed 59 = .ok (.getfield 7, 3) := DX8_claimed_0 (59, .getfield 7, 3) (List.mem_of_getElem? (i := 35) rfl)
theorem dX8_claimed_62 : decode cX8_claimed 62 = .ok (.sipush 1133, 3) := DX8_claimed_0 (62, .sipush 1133, 3) (List.mem_of_getElem? (i := 36) rfl)
theorem dX8_claimed_65 : decode cX8_claimed 65 = .ok (.iconst 5, 1) := DX8_claimed_0 (65, .iconst 5, 1) (List.mem_of_getElem? (i := 37) rfl)
theorem dX8_claimed_66 : decode cX8_claimed 66 = .ok (.iload_n 1, 1) := DX8_claimed_0 (66, .iload_n 1, 1) (List.mem_of_getElem? (i := 38) rfl)
theorem dX8_claimed_67 : decode cX8_claimed 67 = .ok (.imul, 1) := DX8_claimed_0 (67, .imul, 1) (List.mem_of_getElem? (i := 39) rfl)
theorem DX8_claimed_1 : ∀ q ∈ ([(68, .iadd, 1), (69, .iload_n 2, 1), (70, .iadd, 1), (71, .iaload, 1), (72, .ireturn, 1)] : List (Nat × Instr × Nat)), decode cX8_claimed q.1 = .ok q.2 := by decide +kernel
theorem dX8_claimed_68 : decode cX8_claimed 68 = .ok (.iadd, 1) := DX8_claimed_1 (68, .iadd, 1) (List.mem_of_getElem? (i := 0) rfl)
theorem dX8_claimed_69 : decode cX8_claimed 69 = .ok (.iload_n 2, 1) := DX8_claimed_1 (69, .iload_n 2, 1) (List.mem_of_getElem? (i := 1) rfl)
theorem dX8_claimed_70 : decode cX8_claimed 70 = .ok (.iadd, 1) := DX8_claimed_1 (70, .iadd, 1) (List.mem_of_getElem? (i := 2) rfl)
theorem dX8_claimed_71 : decode cX8_claimed 71 = .ok (.iaload, 1) := DX8_claimed_1 (71, .iaload, 1) (List.mem_of_getElem? (i := 3) rfl)
theorem dX8_claimed_72 : decode cX8_claimed 72 = .ok (.ireturn, 1) := DX8_claimed_1 (72, .ireturn, 1) (List.mem_of_getElem? (i := 4) rfl)
abbrev rmX8_claimed : Room := { frames := 1, cells := 0, slots := 0, locals := 22 }
set_option maxHeartbeats 400000 in
set_option maxRecDepth 100000 in
theorem met_X8_claimed (l : Launch) (D : va_G) (kA : Nat → ClassId) (a : Nat → Nat) (V0 : Sz) (x1 : Int) (x2 : Int) (hDt : ∀ w : Sz, va_D (fun _ => True) (cs_X8 kA a w)) {r : Int} {Vr : Sz} (hf : f_X8_claimed V0 x1 x2 = some (r, Vr)) : MZ l yX8_claimed cX8_claimed 3 (some .int) rmX8_claimed D kA [.ref (a 0), vI x1, vI x2] (cs_X8 kA a V0) (cs_X8 kA a Vr) (some (vI r)) := by
  refine zZI (own := RX8) rfl rfl (Nat.le_of_ble_eq_true rfl) ?_
  intro p e s m args below meth c ls Q hC hK hP hl hret
  have hl : lv_has ls 3 [(0, .ref (a 0)), (1, vI x1), (2, vI x2)] := hl
  have hS : va_S (zF (cs_X8 kA a V0)) s.heap s.heap [] := va_S.rf
  have hD := zDself (C := fun w : Sz => (cs_X8 kA a w)) hDt V0 (fun _ => rfl)
  try dsimp only at hD
  generalize hAe : zF (cs_X8 kA a V0) = A0 at hS hD hret
  unfold f_X8_claimed at hf
  have J49 : ∀ (V : Sz) (z0 : Int) (H : Heap) (locs : List Loc) (ls : Array Slot), jX8_claimed_49 x1 x2 V z0 = some (r, Vr) → va_P D vwCl (cs_X8 kA a V) H → va_S A0 s.heap H locs → lv_has ls 3 [(0, .ref (a 0)), (1, vI x1), (2, vI x2)] → W p l e rmX8_claimed s m args below meth c H locs 0 0 Q (F0 m 49 ls [vI z0, .ref (a 0)]) := by
    intro V z0 H locs ls hf hP hS hl
    unfold jX8_claimed_49 at hf
    refine ziconst hC.1 hC.2.1 dX8_claimed_49 <| ?_
    obtain ⟨⟨r_6, V_7⟩, hu, hf⟩ := bd_some hf
    have hDc := hDt
    refine zcVZ (As := [vI z0, vI 2]) (rest := []) hC hK (met_X8_fails l D kA a V z0 2 hDc hu) zwX8_261 hS (zFsub (hD V) [0, 1, 2, 3, 4, 5, 6, 7, 8, 9, 10, 11, 12, 13, 14, 15, 16] rfl) hP (q0 := 0) rfl rfl rfl rfl hl.1 rfl (Nat.le_of_ble_eq_true rfl) ⟨Nat.le_of_ble_eq_true rfl, Nat.le_of_ble_eq_true rfl⟩ ⟨rfl, rfl⟩ ⟨Nat.le_refl _, Nat.le_refl _⟩ dX8_claimed_50 (fun H locs hP1 hk1 hS => ?_)
    have hP : va_P D vwCl (cs_X8 kA a V_7) H := hP1
    refine zifb_eq (tgt := 58) hC.1 hC.2.1 dX8_claimed_53 (by decide) (fun hc => ?_) (fun hc => ?_)
    · have hf := it_t hf hc
      refine lv_aload_n hC.1 hC.2.1 dX8_claimed_58 rfl (lv_at hl 0 rfl) <| gfX8_7 hC hK hP (q0 := 0) rfl rfl dX8_claimed_59 <| zsipush hC.1 hC.2.1 dX8_claimed_62 (by decide) <| ziconst hC.1 hC.2.1 dX8_claimed_65 <| ziload_n hC.1 hC.2.1 dX8_claimed_66 rfl (lv_at hl 1 rfl) <| zimul hC.1 hC.2.1 dX8_claimed_67 <| ziadd hC.1 hC.2.1 dX8_claimed_68 <| ziload_n hC.1 hC.2.1 dX8_claimed_69 rfl (lv_at hl 2 rfl) <| ziadd hC.1 hC.2.1 dX8_claimed_70 <| ?_
      obtain ⟨hz_8, hf⟩ := ck_some hf
      refine jal hC hK hP (q0 := 1) rfl (Nat.le_of_ble_eq_true rfl) hz_8 rfl dX8_claimed_71 <| ?_
      have hf := Option.some.inj hf
      simp only [Prod.mk.injEq] at hf
      exact hret (Int32.ofInt (V_7 0 ((1133 + (5 * x1)) + x2).toNat)) _ _ _ _ (congrArg (fun z => some (vI z)) hf.1.symm) (by rw [← hf.2]; exact hP) hS dX8_claimed_72
    · have hf := it_f hf hc
      refine ziconst hC.1 hC.2.1 dX8_claimed_56 <| ?_
      have hf := Option.some.inj hf
      simp only [Prod.mk.injEq] at hf
      exact hret (Int32.ofInt 0) _ _ _ _ (congrArg (fun z => some (vI z)) hf.1.symm) (by rw [← hf.2]; exact hP) hS dX8_claimed_57
  have J27 : ∀ (V : Sz) (z0 : Int) (H : Heap) (locs : List Loc) (ls : Array Slot), jX8_claimed_27 x1 x2 V z0 = some (r, Vr) → va_P D vwCl (cs_X8 kA a V) H → va_S A0 s.heap H locs → lv_has ls 3 [(0, .ref (a 0)), (1, vI x1), (2, vI x2)] → W p l e rmX8_claimed s m args below meth c H locs 0 0 Q (F0 m 27 ls [vI z0, .ref (a 0)]) := by
    intro V z0 H locs ls hf hP hS hl
    unfold jX8_claimed_27 at hf
    refine ziconst hC.1 hC.2.1 dX8_claimed_27 <| ?_
    obtain ⟨⟨r_3, V_4⟩, hu, hf⟩ := bd_some hf
    have hDc := hDt
    refine zcVZ (As := [vI z0, vI 1]) (rest := []) hC hK (met_X8_fails l D kA a V z0 1 hDc hu) zwX8_261 hS (zFsub (hD V) [0, 1, 2, 3, 4, 5, 6, 7, 8, 9, 10, 11, 12, 13, 14, 15, 16] rfl) hP (q0 := 0) rfl rfl rfl rfl hl.1 rfl (Nat.le_of_ble_eq_true rfl) ⟨Nat.le_of_ble_eq_true rfl, Nat.le_of_ble_eq_true rfl⟩ ⟨rfl, rfl⟩ ⟨Nat.le_refl _, Nat.le_refl _⟩ dX8_claimed_28 (fun H locs hP1 hk1 hS => ?_)
    have hP : va_P D vwCl (cs_X8 kA a V_4) H := hP1
    refine zifb_ne (tgt := 56) hC.1 hC.2.1 dX8_claimed_31 (by decide) (fun hc => ?_) (fun hc => ?_)
    · have hf := it_t hf hc
      refine ziconst hC.1 hC.2.1 dX8_claimed_56 <| ?_
      have hf := Option.some.inj hf
      simp only [Prod.mk.injEq] at hf
      exact hret (Int32.ofInt 0) _ _ _ _ (congrArg (fun z => some (vI z)) hf.1.symm) (by rw [← hf.2]; exact hP) hS dX8_claimed_57
    · have hf := it_f hf hc
      refine lv_aload_n hC.1 hC.2.1 dX8_claimed_34 rfl (lv_at hl 0 rfl) <| ziload_n hC.1 hC.2.1 dX8_claimed_35 rfl (lv_at hl 2 rfl) <| ziconst hC.1 hC.2.1 dX8_claimed_36 <| ziconst hC.1 hC.2.1 dX8_claimed_37 <| ?_
      obtain ⟨r_5, hu, hf⟩ := bd_some hf
      have hPc : va_P D vwCl ([] : va_W) _ := hP.sub [] rfl
      refine zcSP (As := [vI x2, vI 0, vI 4]) (rest := [.ref (a 0)]) hC hK (met_X8_inRange l D kA x2 0 4 hu) zwX8_79 hPc rfl hl.1 rfl (Nat.le_of_ble_eq_true rfl) ⟨Nat.le_of_ble_eq_true rfl, Nat.le_of_ble_eq_true rfl⟩ ⟨rfl, rfl⟩ ⟨Nat.le_refl _, Nat.le_refl _⟩ dX8_claimed_38 <| zifb_ne (tgt := 48) hC.1 hC.2.1 dX8_claimed_41 (by decide) (fun hc => ?_) (fun hc => ?_)
      · have hf := it_t hf hc
        exact ziconst hC.1 hC.2.1 dX8_claimed_48 <| J49 _ _ _ _ _ hf hP hS (lv_sub hl [0, 1, 2] rfl)
      · have hf := it_f hf hc
        exact ziconst hC.1 hC.2.1 dX8_claimed_44 <| lv_goto (tgt := 49) hC.1 hC.2.1 dX8_claimed_45 (by decide) <| J49 _ _ _ _ _ hf hP hS (lv_sub hl [0, 1, 2] rfl)
  refine lv_aload_n hC.1 hC.2.1 dX8_claimed_0 rfl (lv_at hl 0 rfl) <| ziconst hC.1 hC.2.1 dX8_claimed_1 <| ?_
  refine pfX8_65 hC hK hP (hD V0) hS (q0 := 0) rfl (Nat.le_of_ble_eq_true rfl) dX8_claimed_2 (fun H locs hP hS => ?_)
  obtain ⟨V_1, eV_1⟩ : ∃ y, y = us V0 9 0 := ⟨_, rfl⟩
  have hf := nm_at hf eV_1
  have hP : va_P D vwCl (cs_X8 kA a V_1) H := by rw [eV_1]; exact hP
  refine lv_aload_n hC.1 hC.2.1 dX8_claimed_5 rfl (lv_at hl 0 rfl) <| ziload_n hC.1 hC.2.1 dX8_claimed_6 rfl (lv_at hl 1 rfl) <| ziconst hC.1 hC.2.1 dX8_claimed_7 <| lv_aload_n hC.1 hC.2.1 dX8_claimed_8 rfl (lv_at hl 0 rfl) <| gfX8_7 hC hK hP (q0 := 0) rfl rfl dX8_claimed_9 <| ziconst hC.1 hC.2.1 dX8_claimed_12 <| jal hC hK hP (q0 := 1) rfl (Nat.le_of_ble_eq_true rfl) (by decide) rfl dX8_claimed_13 <| ziconst hC.1 hC.2.1 dX8_claimed_14 <| zisub hC.1 hC.2.1 dX8_claimed_15 <| ?_
  obtain ⟨r_2, hu, hf⟩ := bd_some hf
  have hPc : va_P D vwCl ([] : va_W) _ := hP.sub [] rfl
  refine zcSP (As := [vI x1, vI 0, vI ((V_1 0 4) - 1)]) (rest := [.ref (a 0)]) hC hK (met_X8_inRange l D kA x1 0 ((V_1 0 4) - 1) hu) zwX8_79 hPc rfl hl.1 rfl (Nat.le_of_ble_eq_true rfl) ⟨Nat.le_of_ble_eq_true rfl, Nat.le_of_ble_eq_true rfl⟩ ⟨rfl, rfl⟩ ⟨Nat.le_refl _, Nat.le_refl _⟩ dX8_claimed_16 <| zifb_ne (tgt := 26) hC.1 hC.2.1 dX8_claimed_19 (by decide) (fun hc => ?_) (fun hc => ?_)
  · have hf := it_t hf hc
    exact ziconst hC.1 hC.2.1 dX8_claimed_26 <| J27 _ _ _ _ _ hf hP hS (lv_sub hl [0, 1, 2] rfl)
  · have hf := it_f hf hc
    exact ziconst hC.1 hC.2.1 dX8_claimed_22 <| lv_goto (tgt := 27) hC.1 hC.2.1 dX8_claimed_23 (by decide) <| J27 _ _ _ _ _ hf hP hS (lv_sub hl [0, 1, 2] rfl)
theorem DX8_claimable_0 : ∀ q ∈ ([(0, .aload_n 0, 1), (1, .iconst 0, 1), (2, .putfield 65, 3), (5, .aload_n 0, 1), (6, .iload_n 1, 1), (7, .iconst 0, 1), (8, .sipush 9999, 3), (11, .invokestatic 79, 3), (14, .ifCond .ne 7, 3), (17, .iconst 1, 1), (18, .goto 4, 3), (21, .iconst 0, 1), (22, .iconst 1, 1), (23, .invokevirtual 261, 3), (26, .ifCond .eq 5, 3), (29, .iconst 0, 1), (30, .ireturn, 1), (31, .aload_n 0, 1), (32, .invokevirtual 121, 3), (35, .iconst 0, 1), (36, .istore_n 3, 1), (37, .iconst 0, 1), (38, .istore 4, 2), (40, .iload 4, 2), (42, .sipush 180, 3), (45, .if_icmp .ge 41, 3), (48, .aload_n 0, 1), (49, .iload 4, 2), (51, .iload_n 1, 1), (52, .invokevirtual 317, 3), (55, .istore 5, 2), (57, .iload_n 3, 1), (58, .iload_n 2, 1), (59, .ifCond .eq 13, 3), (62, .iconst 0, 1), (63, .iload 5, 2), (65, .ineg, 1), (66, .invokestatic 118, 3), (69, .goto 9, 3), (72, .iconst 0, 1)] : List (Nat × Instr × Nat)), decode cX8_claimable q.1 = .ok q.2 := by decide +kernel
theorem dX8_claimable_0 : decode cX8_claimable 0 = .ok (.aload_n 0, 1) := DX8_claimable_0 (0, .aload_n 0, 1) (List.mem_of_getElem? (i := 0) rfl)
theorem dX8_claimable_1 : decode cX8_claimable 1 = .ok (.iconst 0, 1) := DX8_claimable_0 (1, .iconst 0, 1) (List.mem_of_getElem? (i := 1) rfl)
theorem dX8_claimable_2 : decode cX8_claimable 2 = .ok (.putfield 65, 3) := DX8_claimable_0 (2, .putfield 65, 3) (List.mem_of_getElem? (i := 2) rfl)
theorem dX8_claimable_5 : decode cX8_claimable 5 = .ok (.aload_n 0, 1) := DX8_claimable_0 (5, .aload_n 0, 1) (List.mem_of_getElem? (i := 3) rfl)
theorem dX8_claimable_6 : decode cX8_claimable 6 = .ok (.iload_n 1, 1) := DX8_claimable_0 (6, .iload_n 1, 1) (List.mem_of_getElem? (i := 4) rfl)
theorem dX8_claimable_7 : decode cX8_claimable 7 = .ok (.iconst 0, 1) := DX8_claimable_0 (7, .iconst 0, 1) (List.mem_of_getElem? (i := 5) rfl)
theorem dX8_claimable_8 : decode cX8_claimable 8 = .ok (.sipush 9999, 3) := DX8_claimable_0 (8, .sipush 9999, 3) (List.mem_of_getElem? (i := 6) rfl)
theorem dX8_claimable_11 : decode cX8_claimable 11 = .ok (.invokestatic 79, 3) := DX8_claimable_0 (11, .invokestatic 79, 3) (List.mem_of_getElem? (i := 7) rfl)
theorem dX8_claimable_14 : decode cX8_claimable 14 = .ok (.ifCond .ne 7, 3) := DX8_claimable_0 (14, .ifCond .ne 7, 3) (List.mem_of_getElem? (i := 8) rfl)
theorem dX8_claimable_17 : decode cX8_claimable 17 = .ok (.iconst 1, 1) := DX8_claimable_0 (17, .iconst 1, 1) (List.mem_of_getElem? (i := 9) rfl)
theorem dX8_claimable_18 : decode cX8_claimable 18 = .ok (.goto 4, 3) := DX8_claimable_0 (18, .goto 4, 3) (List.mem_of_getElem? (i := 10) rfl)
theorem dX8_claimable_21 : decode cX8_claimable 21 = .ok (.iconst 0, 1) := DX8_claimable_0 (21, .iconst 0, 1) (List.mem_of_getElem? (i := 11) rfl)
theorem dX8_claimable_22 : decode cX8_claimable 22 = .ok (.iconst 1, 1) := DX8_claimable_0 (22, .iconst 1, 1) (List.mem_of_getElem? (i := 12) rfl)
theorem dX8_claimable_23 : decode cX8_claimable 23 = .ok (.invokevirtual 261, 3) := DX8_claimable_0 (23, .invokevirtual 261, 3) (List.mem_of_getElem? (i := 13) rfl)
theorem dX8_claimable_26 : decode cX8_claimable 26 = .ok (.ifCond .eq 5, 3) := DX8_claimable_0 (26, .ifCond .eq 5, 3) (List.mem_of_getElem? (i := 14) rfl)
theorem dX8_claimable_29 : decode cX8_claimable 29 = .ok (.iconst 0, 1) := DX8_claimable_0 (29, .iconst 0, 1) (List.mem_of_getElem? (i := 15) rfl)
theorem dX8_claimable_30 : decode cX8_claimable 30 = .ok (.ireturn, 1) := DX8_claimable_0 (30, .ireturn, 1) (List.mem_of_getElem? (i := 16) rfl)
theorem dX8_claimable_31 : decode cX8_claimable 31 = .ok (.aload_n 0, 1) := DX8_claimable_0 (31, .aload_n 0, 1) (List.mem_of_getElem? (i := 17) rfl)
theorem dX8_claimable_32 : decode cX8_claimable 32 = .ok (.invokevirtual 121, 3) := DX8_claimable_0 (32, .invokevirtual 121, 3) (List.mem_of_getElem? (i := 18) rfl)
theorem dX8_claimable_35 : decode cX8_claimable 35 = .ok (.iconst 0, 1) := DX8_claimable_0 (35, .iconst 0, 1) (List.mem_of_getElem? (i := 19) rfl)
theorem dX8_claimable_36 : decode cX8_claimable 36 = .ok (.istore_n 3, 1) := DX8_claimable_0 (36, .istore_n 3, 1) (List.mem_of_getElem? (i := 20) rfl)
theorem dX8_claimable_37 : decode cX8_claimable 37 = .ok (.iconst 0, 1) := DX8_claimable_0 (37, .iconst 0, 1) (List.mem_of_getElem? (i := 21) rfl)
theorem dX8_claimable_38 : decode cX8_claimable 38 = .ok (.istore 4, 2) := DX8_claimable_0 (38, .istore 4, 2) (List.mem_of_getElem? (i := 22) rfl)
theorem dX8_claimable_40 : decode cX8_claimable 40 = .ok (.iload 4, 2) := DX8_claimable_0 (40, .iload 4, 2) (List.mem_of_getElem? (i := 23) rfl)
theorem dX8_claimable_42 : decode cX8_claimable 42 = .ok (.sipush 180, 3) := DX8_claimable_0 (42, .sipush 180, 3) (List.mem_of_getElem? (i := 24) rfl)
theorem dX8_claimable_45 : decode cX8_claimable 45 = .ok (.if_icmp .ge 41, 3) := DX8_claimable_0 (45, .if_icmp .ge 41, 3) (List.mem_of_getElem? (i := 25) rfl)
theorem dX8_claimable_48 : decode cX8_claimable 48 = .ok (.aload_n 0, 1) := DX8_claimable_0 (48, .aload_n 0, 1) (List.mem_of_getElem? (i := 26) rfl)
theorem dX8_claimable_49 : decode cX8_claimable 49 = .ok (.iload 4, 2) := DX8_claimable_0 (49, .iload 4, 2) (List.mem_of_getElem? (i := 27) rfl)
theorem dX8_claimable_51 : decode cX8_claimable 51 = .ok (.iload_n 1, 1) := DX8_claimable_0 (51, .iload_n 1, 1) (List.mem_of_getElem? (i := 28) rfl)
theorem dX8_claimable_52 : decode cX8_claimable 52 = .ok (.invokevirtual 317, 3) := DX8_claimable_0 (52, .invokevirtual 317, 3) (List.mem_of_getElem? (i := 29) rfl)
theorem dX8_claimable_55 : decode cX8_claimable 55 = .ok (.istore 5, 2) := DX8_claimable_0 (55, .istore 5, 2) (List.mem_of_getElem? (i := 30) rfl)
theorem dX8_claimable_57 : decode cX8_claimable 57 = .ok (.iload_n 3, 1) := DX8_claimable_0 (57, .iload_n 3, 1) (List.mem_of_getElem? (i := 31) rfl)
theorem dX8_claimable_58 : decode cX8_claimable 58 = .ok (.iload_n 2, 1) := DX8_claimable_0 (58, .iload_n 2, 1) (List.mem_of_getElem? (i := 32) rfl)
theorem dX8_claimable_59 : decode cX8_claimable 59 = .ok (.ifCond .eq 13, 3) := DX8_claimable_0 (59, .ifCond .eq 13, 3) (List.mem_of_getElem? (i := 33) rfl)
theorem dX8_claimable_62 : decode cX8_claimable 62 = .ok (.iconst 0, 1) := DX8_claimable_0 (62, .iconst 0, 1) (List.mem_of_getElem? (i := 34) rfl)
theorem dX8_claimable_63 : decode cX8_claimable 63 = .ok (.iload 5, 2) := DX8_claimable_0 (63, .iload 5, 2) (List.mem_of_getElem? (i := 35) rfl)
theorem dX8_claimable_65 : decode cX8_claimable 65 = .ok (.ineg, 1) := DX8_claimable_0 (65, .ineg, 1) (List.mem_of_getElem? (i := 36) rfl)
theorem dX8_claimable_66 : decode cX8_claimable 66 = .ok (.invokestatic 118, 3) := DX8_claimable_0 (66, .invokestatic 118, 3) (List.mem_of_getElem? (i := 37) rfl)
theorem dX8_claimable_69 : decode cX8_claimable 69 = .ok (.goto 9, 3) := DX8_claimable_0 (69, .goto 9, 3) (List.mem_of_getElem? (i := 38) rfl)
theorem dX8_claimable_72 : decode cX8_claimable 72 = .ok (.iconst 0, 1) := DX8_claimable_0 (72, .iconst 0, 1) (List.mem_of_getElem? (i := 39) rfl)
theorem DX8_claimable_1 : ∀ q ∈ ([(73, .iload 5, 2), (75, .invokestatic 118, 3), (78, .iadd, 1), (79, .istore_n 3, 1), (80, .iinc 4 1, 3), (83, .goto (-43), 3), (86, .iload_n 3, 1), (87, .ireturn, 1)] : List (Nat × Instr × Nat)), decode cX8_claimable q.1 = .ok q.2 := by decide +kernel
theorem dX8_claimable_73 : decode cX8_claimable 73 = .ok (.iload 5, 2) := DX8_claimable_1 (73, .iload 5, 2) (List.mem_of_getElem? (i := 0) rfl)
theorem dX8_claimable_75 : decode cX8_claimable 75 = .ok (.invokestatic 118, 3) := DX8_claimable_1 (75, .invokestatic 118, 3) (List.mem_of_getElem? (i := 1) rfl)
theorem dX8_claimable_78 : decode cX8_claimable 78 = .ok (.iadd, 1) := DX8_claimable_1 (78, .iadd, 1) (List.mem_of_getElem? (i := 2) rfl)
theorem dX8_claimable_79 : decode cX8_claimable 79 = .ok (.istore_n 3, 1) := DX8_claimable_1 (79, .istore_n 3, 1) (List.mem_of_getElem? (i := 3) rfl)
theorem dX8_claimable_80 : decode cX8_claimable 80 = .ok (.iinc 4 1, 3) := DX8_claimable_1 (80, .iinc 4 1, 3) (List.mem_of_getElem? (i := 4) rfl)
theorem dX8_claimable_83 : decode cX8_claimable 83 = .ok (.goto (-43), 3) := DX8_claimable_1 (83, .goto (-43), 3) (List.mem_of_getElem? (i := 5) rfl)
theorem dX8_claimable_86 : decode cX8_claimable 86 = .ok (.iload_n 3, 1) := DX8_claimable_1 (86, .iload_n 3, 1) (List.mem_of_getElem? (i := 6) rfl)
theorem dX8_claimable_87 : decode cX8_claimable 87 = .ok (.ireturn, 1) := DX8_claimable_1 (87, .ireturn, 1) (List.mem_of_getElem? (i := 7) rfl)
abbrev rmX8_claimable : Room := { frames := 4, cells := 0, slots := 0, locals := 90 }
set_option maxHeartbeats 400000 in
set_option maxRecDepth 100000 in
theorem met_X8_claimable (l : Launch) (D : va_G) (kA : Nat → ClassId) (a : Nat → Nat) (n : Nat) (V0 : Sz) (x1 : Int) (x2 : Int) (hDt : ∀ w : Sz, va_D (fun _ => True) (cs_X8 kA a w)) {r : Int} {Vr : Sz} (hf : f_X8_claimable n V0 x1 x2 = some (r, Vr)) : MZ l yX8_claimable cX8_claimable 6 (some .int) rmX8_claimable D kA [.ref (a 0), vI x1, vI x2] (cs_X8 kA a V0) (cs_X8 kA a Vr) (some (vI r)) := by
  refine zZI (own := RX8) rfl rfl (Nat.le_of_ble_eq_true rfl) ?_
  intro p e s m args below meth c ls Q hC hK hP hl hret
  have hl : lv_has ls 6 [(0, .ref (a 0)), (1, vI x1), (2, vI x2)] := hl
  have hS : va_S (zF (cs_X8 kA a V0)) s.heap s.heap [] := va_S.rf
  have hD := zDself (C := fun w : Sz => (cs_X8 kA a w)) hDt V0 (fun _ => rfl)
  try dsimp only at hD
  generalize hAe : zF (cs_X8 kA a V0) = A0 at hS hD hret
  unfold f_X8_claimable at hf
  have L40 : ∀ (k40 : Nat) (y3 : Int) (y4 : Int) (V : Sz) (H : Heap) (locs : List Loc) (ls : Array Slot), lpF (bX8_claimable_40 n x1 x2) k40 (y3, y4, V) = some (r, Vr) → va_P D vwCl (cs_X8 kA a V) H → va_S A0 s.heap H locs → lv_has ls 6 [(0, .ref (a 0)), (1, vI x1), (2, vI x2), (3, vI y3), (4, vI y4)] → W p l e rmX8_claimable s m args below meth c H locs 0 0 Q (F0 m 40 ls []) := by
    intro k40
    induction k40 with
    | zero => intro y3 y4 V H locs ls hf hP hS hl; exact lp_0 hf
    | succ k40 ih40 =>
      intro y3 y4 V H locs ls hf hP hS hl
      have hf := lp_s hf
      rw [bX8_claimable_40_e] at hf
      have J78 : ∀ (y4 : Int) (V : Sz) (z0 : Int) (z1 : Int) (H : Heap) (locs : List Loc) (ls : Array Slot), jX8_claimable_78 n x1 x2 (lpF (bX8_claimable_40 n x1 x2) k40) y4 V z0 z1 = some (r, Vr) → va_P D vwCl (cs_X8 kA a V) H → va_S A0 s.heap H locs → lv_has ls 6 [(0, .ref (a 0)), (1, vI x1), (2, vI x2), (4, vI y4)] → W p l e rmX8_claimable s m args below meth c H locs 0 0 Q (F0 m 78 ls [vI z0, vI z1]) := by
        intro y4 V z0 z1 H locs ls hf hP hS hl
        unfold jX8_claimable_78 at hf
        refine ziadd hC.1 hC.2.1 dX8_claimable_78 <| ?_
        refine ztopi (fun x_10 ex_10 => ?_)
        have hf := nm_at hf ex_10
        refine zistore_n (lv' := [(3, vI x_10), (0, .ref (a 0)), (1, vI x1), (2, vI x2), (4, vI y4)]) hC.1 hC.2.1 dX8_claimable_79 rfl hl (by decide) rfl (fun ls hl => ?_)
        obtain ⟨x_11, ex_11⟩ : ∃ y : Int, y = y4 + 1 := ⟨_, rfl⟩
        have hf := nm_at hf ex_11
        refine ziinc (v := x_11) (lv' := [(4, vI x_11), (3, vI x_10), (0, .ref (a 0)), (1, vI x1), (2, vI x2)]) hC.1 hC.2.1 dX8_claimable_80 hl (k := 4) rfl ex_11 (by decide) rfl (fun ls hl => ?_)
        exact lv_goto (tgt := 40) hC.1 hC.2.1 dX8_claimable_83 (by decide) <| ih40 _ _ _ _ _ _ hf hP hS (lv_sub hl [2, 3, 4, 1, 0] rfl)
      refine ziload hC.1 hC.2.1 dX8_claimable_40 (lv_at hl 4 rfl) <| zsipush hC.1 hC.2.1 dX8_claimable_42 (by decide) <| ?_
      obtain ⟨hz_6, hf⟩ := ck_some hf
      refine zicmp_ge (tgt := 86) hC.1 hC.2.1 ⟨hz_6, (by decide)⟩ dX8_claimable_45 (by decide) (fun hc => ?_) (fun hc => ?_)
      · have hf := it_t hf hc
        refine ziload_n hC.1 hC.2.1 dX8_claimable_86 rfl (lv_at hl 3 rfl) <| ?_
        have hf := Option.some.inj hf
        simp only [Prod.mk.injEq] at hf
        exact hret (Int32.ofInt y3) _ _ _ _ (congrArg (fun z => some (vI z)) hf.1.symm) (by rw [← hf.2]; exact hP) hS dX8_claimable_87
      · have hf := it_f hf hc
        refine lv_aload_n hC.1 hC.2.1 dX8_claimable_48 rfl (lv_at hl 0 rfl) <| ziload hC.1 hC.2.1 dX8_claimable_49 (lv_at hl 4 rfl) <| ziload_n hC.1 hC.2.1 dX8_claimable_51 rfl (lv_at hl 1 rfl) <| ?_
        obtain ⟨r_7, hu, hf⟩ := bd_some hf
        refine zcVP (As := [vI y4, vI x1]) (rest := []) hC hK (met_X8_claimOf l D kA a V y4 x1 hu) zwX8_317 hP (q0 := 0) rfl rfl rfl rfl hl.1 rfl (Nat.le_of_ble_eq_true rfl) ⟨Nat.le_of_ble_eq_true rfl, Nat.le_of_ble_eq_true rfl⟩ ⟨rfl, rfl⟩ ⟨Nat.le_refl _, Nat.le_refl _⟩ dX8_claimable_52 <| zistore (lv' := [(5, vI r_7), (0, .ref (a 0)), (1, vI x1), (2, vI x2), (3, vI y3), (4, vI y4)]) hC.1 hC.2.1 dX8_claimable_55 hl (by decide) rfl (fun ls hl => ?_)
        refine ziload_n hC.1 hC.2.1 dX8_claimable_57 rfl (lv_at hl 4 rfl) <| ziload_n hC.1 hC.2.1 dX8_claimable_58 rfl (lv_at hl 3 rfl) <| ?_
        obtain ⟨hz_8, hf⟩ := ck_some hf
        refine zif_eq (tgt := 72) hC.1 hC.2.1 hz_8 dX8_claimable_59 (by decide) (fun hc => ?_) (fun hc => ?_)
        · have hf := it_t hf hc
          refine ziconst hC.1 hC.2.1 dX8_claimable_72 <| ziload hC.1 hC.2.1 dX8_claimable_73 (lv_at hl 0 rfl) <| ?_
          obtain ⟨hz_9, hf⟩ := ck_some hf
          exact jmax ⟨(by decide), hz_9⟩ hC qw_1518 hl.1 (Nat.le_of_ble_eq_true rfl) ⟨Nat.le_of_ble_eq_true rfl, Nat.le_of_ble_eq_true rfl⟩ ⟨Nat.le_refl _, Nat.le_refl _⟩ dX8_claimable_75 <| J78 _ _ _ _ _ _ _ hf hP hS (lv_sub hl [1, 2, 3, 5] rfl)
        · have hf := it_f hf hc
          refine ziconst hC.1 hC.2.1 dX8_claimable_62 <| ziload hC.1 hC.2.1 dX8_claimable_63 (lv_at hl 0 rfl) <| zineg hC.1 hC.2.1 dX8_claimable_65 <| ?_
          obtain ⟨hz_12, hf⟩ := ck_some hf
          exact jmax ⟨(by decide), hz_12⟩ hC qw_1518 hl.1 (Nat.le_of_ble_eq_true rfl) ⟨Nat.le_of_ble_eq_true rfl, Nat.le_of_ble_eq_true rfl⟩ ⟨Nat.le_refl _, Nat.le_refl _⟩ dX8_claimable_66 <| lv_goto (tgt := 78) hC.1 hC.2.1 dX8_claimable_69 (by decide) <| J78 _ _ _ _ _ _ _ hf hP hS (lv_sub hl [1, 2, 3, 5] rfl)
  have J22 : ∀ (V : Sz) (z0 : Int) (H : Heap) (locs : List Loc) (ls : Array Slot), jX8_claimable_22 n x1 x2 V z0 = some (r, Vr) → va_P D vwCl (cs_X8 kA a V) H → va_S A0 s.heap H locs → lv_has ls 6 [(0, .ref (a 0)), (1, vI x1), (2, vI x2)] → W p l e rmX8_claimable s m args below meth c H locs 0 0 Q (F0 m 22 ls [vI z0, .ref (a 0)]) := by
    intro V z0 H locs ls hf hP hS hl
    unfold jX8_claimable_22 at hf
    refine ziconst hC.1 hC.2.1 dX8_claimable_22 <| ?_
    obtain ⟨⟨r_3, V_4⟩, hu, hf⟩ := bd_some hf
    have hDc := hDt
    refine zcVZ (As := [vI z0, vI 1]) (rest := []) hC hK (met_X8_fails l D kA a V z0 1 hDc hu) zwX8_261 hS (zFsub (hD V) [0, 1, 2, 3, 4, 5, 6, 7, 8, 9, 10, 11, 12, 13, 14, 15, 16] rfl) hP (q0 := 0) rfl rfl rfl rfl hl.1 rfl (Nat.le_of_ble_eq_true rfl) ⟨Nat.le_of_ble_eq_true rfl, Nat.le_of_ble_eq_true rfl⟩ ⟨rfl, rfl⟩ ⟨Nat.le_refl _, Nat.le_refl _⟩ dX8_claimable_23 (fun H locs hP1 hk1 hS => ?_)
    have hP : va_P D vwCl (cs_X8 kA a V_4) H := hP1
    refine zifb_eq (tgt := 31) hC.1 hC.2.1 dX8_claimable_26 (by decide) (fun hc => ?_) (fun hc => ?_)
    · have hf := it_t hf hc
      refine lv_aload_n hC.1 hC.2.1 dX8_claimable_31 rfl (lv_at hl 0 rfl) <| ?_
      obtain ⟨V_5, hu, hf⟩ := bd_some hf
      have hDc := hDt
      refine zcVZ (As := []) (rest := []) hC hK (met_X8_laysAid l D kA a n V_4 hDc hu) zwX8_121 hS (zFsub (hD V_4) [0, 1, 2, 3, 4, 5, 6, 7, 8, 9, 10, 11, 12, 13, 14, 15, 16] rfl) hP (q0 := 0) rfl rfl rfl rfl hl.1 rfl (Nat.le_of_ble_eq_true rfl) ⟨Nat.le_of_ble_eq_true rfl, Nat.le_of_ble_eq_true rfl⟩ ⟨rfl, rfl⟩ ⟨Nat.le_refl _, Nat.le_refl _⟩ dX8_claimable_32 (fun H locs hP1 hk1 hS => ?_)
      have hP : va_P D vwCl (cs_X8 kA a V_5) H := hP1
      refine ziconst hC.1 hC.2.1 dX8_claimable_35 <| zistore_n (lv' := [(3, vI 0), (0, .ref (a 0)), (1, vI x1), (2, vI x2)]) hC.1 hC.2.1 dX8_claimable_36 rfl hl (by decide) rfl (fun ls hl => ?_)
      refine ziconst hC.1 hC.2.1 dX8_claimable_37 <| zistore (lv' := [(4, vI 0), (3, vI 0), (0, .ref (a 0)), (1, vI x1), (2, vI x2)]) hC.1 hC.2.1 dX8_claimable_38 hl (by decide) rfl (fun ls hl => ?_)
      exact L40 n _ _ _ _ _ _ hf hP hS (lv_sub hl [2, 3, 4, 1, 0] rfl)
    · have hf := it_f hf hc
      refine ziconst hC.1 hC.2.1 dX8_claimable_29 <| ?_
      have hf := Option.some.inj hf
      simp only [Prod.mk.injEq] at hf
      exact hret (Int32.ofInt 0) _ _ _ _ (congrArg (fun z => some (vI z)) hf.1.symm) (by rw [← hf.2]; exact hP) hS dX8_claimable_30
  refine lv_aload_n hC.1 hC.2.1 dX8_claimable_0 rfl (lv_at hl 0 rfl) <| ziconst hC.1 hC.2.1 dX8_claimable_1 <| ?_
  refine pfX8_65 hC hK hP (hD V0) hS (q0 := 0) rfl (Nat.le_of_ble_eq_true rfl) dX8_claimable_2 (fun H locs hP hS => ?_)
  obtain ⟨V_1, eV_1⟩ : ∃ y, y = us V0 9 0 := ⟨_, rfl⟩
  have hf := nm_at hf eV_1
  have hP : va_P D vwCl (cs_X8 kA a V_1) H := by rw [eV_1]; exact hP
  refine lv_aload_n hC.1 hC.2.1 dX8_claimable_5 rfl (lv_at hl 0 rfl) <| ziload_n hC.1 hC.2.1 dX8_claimable_6 rfl (lv_at hl 1 rfl) <| ziconst hC.1 hC.2.1 dX8_claimable_7 <| zsipush hC.1 hC.2.1 dX8_claimable_8 (by decide) <| ?_
  obtain ⟨r_2, hu, hf⟩ := bd_some hf
  have hPc : va_P D vwCl ([] : va_W) _ := hP.sub [] rfl
  refine zcSP (As := [vI x1, vI 0, vI 9999]) (rest := [.ref (a 0)]) hC hK (met_X8_inRange l D kA x1 0 9999 hu) zwX8_79 hPc rfl hl.1 rfl (Nat.le_of_ble_eq_true rfl) ⟨Nat.le_of_ble_eq_true rfl, Nat.le_of_ble_eq_true rfl⟩ ⟨rfl, rfl⟩ ⟨Nat.le_refl _, Nat.le_refl _⟩ dX8_claimable_11 <| zifb_ne (tgt := 21) hC.1 hC.2.1 dX8_claimable_14 (by decide) (fun hc => ?_) (fun hc => ?_)
  · have hf := it_t hf hc
    exact ziconst hC.1 hC.2.1 dX8_claimable_21 <| J22 _ _ _ _ _ hf hP hS (lv_sub hl [0, 1, 2] rfl)
  · have hf := it_f hf hc
    exact ziconst hC.1 hC.2.1 dX8_claimable_17 <| lv_goto (tgt := 22) hC.1 hC.2.1 dX8_claimable_18 (by decide) <| J22 _ _ _ _ _ hf hP hS (lv_sub hl [0, 1, 2] rfl)
theorem DX8_over_0 : ∀ q ∈ ([(0, .iconst 0, 1), (1, .aload_n 0, 1), (2, .getfield 7, 3), (5, .sipush 953, 3), (8, .iload_n 1, 1), (9, .iadd, 1), (10, .iaload, 1), (11, .aload_n 0, 1), (12, .getfield 37, 3), (15, .iload_n 1, 1), (16, .iaload, 1), (17, .isub, 1), (18, .invokestatic 118, 3), (21, .ireturn, 1)] : List (Nat × Instr × Nat)), decode cX8_over q.1 = .ok q.2 := by decide +kernel
theorem dX8_over_0 : decode cX8_over 0 = .ok (.iconst 0, 1) := DX8_over_0 (0, .iconst 0, 1) (List.mem_of_getElem? (i := 0) rfl)
theorem dX8_over_1 : decode cX8_over 1 = .ok (.aload_n 0, 1) := DX8_over_0 (1, .aload_n 0, 1) (List.mem_of_getElem? (i := 1) rfl)
theorem dX8_over_2 : decode cX8_over 2 = .ok (.getfield 7, 3) := DX8_over_0 (2, .getfield 7, 3) (List.mem_of_getElem? (i := 2) rfl)
theorem dX8_over_5 : decode cX8_over 5 = .ok (.sipush 953, 3) := DX8_over_0 (5, .sipush 953, 3) (List.mem_of_getElem? (i := 3) rfl)
theorem dX8_over_8 : decode cX8_over 8 = .ok (.iload_n 1, 1) := DX8_over_0 (8, .iload_n 1, 1) (List.mem_of_getElem? (i := 4) rfl)
theorem dX8_over_9 : decode cX8_over 9 = .ok (.iadd, 1) := DX8_over_0 (9, .iadd, 1) (List.mem_of_getElem? (i := 5) rfl)
theorem dX8_over_10 : decode cX8_over 10 = .ok (.iaload, 1) := DX8_over_0 (10, .iaload, 1) (List.mem_of_getElem? (i := 6) rfl)
theorem dX8_over_11 : decode cX8_over 11 = .ok (.aload_n 0, 1) := DX8_over_0 (11, .aload_n 0, 1) (List.mem_of_getElem? (i := 7) rfl)
theorem dX8_over_12 : decode cX8_over 12 = .ok (.getfield 37, 3) := DX8_over_0 (12, .getfield 37, 3) (List.mem_of_getElem? (i := 8) rfl)
theorem dX8_over_15 : decode cX8_over 15 = .ok (.iload_n 1, 1) := DX8_over_0 (15, .iload_n 1, 1) (List.mem_of_getElem? (i := 9) rfl)
theorem dX8_over_16 : decode cX8_over 16 = .ok (.iaload, 1) := DX8_over_0 (16, .iaload, 1) (List.mem_of_getElem? (i := 10) rfl)
theorem dX8_over_17 : decode cX8_over 17 = .ok (.isub, 1) := DX8_over_0 (17, .isub, 1) (List.mem_of_getElem? (i := 11) rfl)
theorem dX8_over_18 : decode cX8_over 18 = .ok (.invokestatic 118, 3) := DX8_over_0 (18, .invokestatic 118, 3) (List.mem_of_getElem? (i := 12) rfl)
theorem dX8_over_21 : decode cX8_over 21 = .ok (.ireturn, 1) := DX8_over_0 (21, .ireturn, 1) (List.mem_of_getElem? (i := 13) rfl)
abbrev rmX8_over : Room := { frames := 1, cells := 0, slots := 0, locals := 60 }
set_option maxHeartbeats 400000 in
set_option maxRecDepth 100000 in
theorem met_X8_over (l : Launch) (D : va_G) (kA : Nat → ClassId) (a : Nat → Nat) (V : Sz) (x1 : Int) {r : Int} (hf : f_X8_over V x1 = some r) : MP l yX8_over cX8_over 2 (some .int) rmX8_over D kA [.ref (a 0), vI x1] (cs_X8 kA a V) (some (vI r)) := by
  refine zPI (own := RX8) rfl rfl (Nat.le_of_ble_eq_true rfl) ?_
  intro p e s m args below meth c ls Q hC hK hP hl hret
  have hl : lv_has ls 2 [(0, .ref (a 0)), (1, vI x1)] := hl
  unfold f_X8_over at hf
  refine ziconst hC.1 hC.2.1 dX8_over_0 <| lv_aload_n hC.1 hC.2.1 dX8_over_1 rfl (lv_at hl 0 rfl) <| gfX8_7 hC hK hP (q0 := 0) rfl rfl dX8_over_2 <| zsipush hC.1 hC.2.1 dX8_over_5 (by decide) <| ziload_n hC.1 hC.2.1 dX8_over_8 rfl (lv_at hl 1 rfl) <| ziadd hC.1 hC.2.1 dX8_over_9 <| ?_
  obtain ⟨hz_1, hf⟩ := ck_some hf
  refine jal hC hK hP (q0 := 1) rfl (Nat.le_of_ble_eq_true rfl) hz_1 rfl dX8_over_10 <| lv_aload_n hC.1 hC.2.1 dX8_over_11 rfl (lv_at hl 0 rfl) <| gfX8_37 hC hK hP (q0 := 0) rfl rfl dX8_over_12 <| ziload_n hC.1 hC.2.1 dX8_over_15 rfl (lv_at hl 1 rfl) <| ?_
  obtain ⟨hz_2, hf⟩ := ck_some hf
  refine jal hC hK hP (q0 := 10) rfl (Nat.le_of_ble_eq_true rfl) hz_2 rfl dX8_over_16 <| zisub hC.1 hC.2.1 dX8_over_17 <| ?_
  obtain ⟨hz_3, hf⟩ := ck_some hf
  exact jmax ⟨(by decide), hz_3⟩ hC qw_1518 hl.1 (Nat.le_of_ble_eq_true rfl) ⟨Nat.le_of_ble_eq_true rfl, Nat.le_of_ble_eq_true rfl⟩ ⟨Nat.le_refl _, Nat.le_refl _⟩ dX8_over_18 <| hret (Int32.ofInt (max 0 ((V 0 (953 + x1).toNat) - (V 12 x1.toNat)))) _ _ (qI hf) dX8_over_21
theorem DX8_under_0 : ∀ q ∈ ([(0, .iconst 0, 1), (1, .aload_n 0, 1), (2, .getfield 37, 3), (5, .iload_n 1, 1), (6, .iaload, 1), (7, .aload_n 0, 1), (8, .getfield 7, 3), (11, .sipush 953, 3), (14, .iload_n 1, 1), (15, .iadd, 1), (16, .iaload, 1), (17, .isub, 1), (18, .invokestatic 118, 3), (21, .ireturn, 1)] : List (Nat × Instr × Nat)), decode cX8_under q.1 = .ok q.2 := by decide +kernel
theorem dX8_under_0 : decode cX8_under 0 = .ok (.iconst 0, 1) := DX8_under_0 (0, .iconst 0, 1) (List.mem_of_getElem? (i := 0) rfl)
theorem dX8_under_1 : decode cX8_under 1 = .ok (.aload_n 0, 1) := DX8_under_0 (1, .aload_n 0, 1) (List.mem_of_getElem? (i := 1) rfl)
theorem dX8_under_2 : decode cX8_under 2 = .ok (.getfield 37, 3) := DX8_under_0 (2, .getfield 37, 3) (List.mem_of_getElem? (i := 2) rfl)
theorem dX8_under_5 : decode cX8_under 5 = .ok (.iload_n 1, 1) := DX8_under_0 (5, .iload_n 1, 1) (List.mem_of_getElem? (i := 3) rfl)
theorem dX8_under_6 : decode cX8_under 6 = .ok (.iaload, 1) := DX8_under_0 (6, .iaload, 1) (List.mem_of_getElem? (i := 4) rfl)
theorem dX8_under_7 : decode cX8_under 7 = .ok (.aload_n 0, 1) := DX8_under_0 (7, .aload_n 0, 1) (List.mem_of_getElem? (i := 5) rfl)
theorem dX8_under_8 : decode cX8_under 8 = .ok (.getfield 7, 3) := DX8_under_0 (8, .getfield 7, 3) (List.mem_of_getElem? (i := 6) rfl)
theorem dX8_under_11 : decode cX8_under 11 = .ok (.sipush 953, 3) := DX8_under_0 (11, .sipush 953, 3) (List.mem_of_getElem? (i := 7) rfl)
theorem dX8_under_14 : decode cX8_under 14 = .ok (.iload_n 1, 1) := DX8_under_0 (14, .iload_n 1, 1) (List.mem_of_getElem? (i := 8) rfl)
theorem dX8_under_15 : decode cX8_under 15 = .ok (.iadd, 1) := DX8_under_0 (15, .iadd, 1) (List.mem_of_getElem? (i := 9) rfl)
theorem dX8_under_16 : decode cX8_under 16 = .ok (.iaload, 1) := DX8_under_0 (16, .iaload, 1) (List.mem_of_getElem? (i := 10) rfl)
theorem dX8_under_17 : decode cX8_under 17 = .ok (.isub, 1) := DX8_under_0 (17, .isub, 1) (List.mem_of_getElem? (i := 11) rfl)
theorem dX8_under_18 : decode cX8_under 18 = .ok (.invokestatic 118, 3) := DX8_under_0 (18, .invokestatic 118, 3) (List.mem_of_getElem? (i := 12) rfl)
theorem dX8_under_21 : decode cX8_under 21 = .ok (.ireturn, 1) := DX8_under_0 (21, .ireturn, 1) (List.mem_of_getElem? (i := 13) rfl)
abbrev rmX8_under : Room := { frames := 1, cells := 0, slots := 0, locals := 60 }
set_option maxHeartbeats 400000 in
set_option maxRecDepth 100000 in
theorem met_X8_under (l : Launch) (D : va_G) (kA : Nat → ClassId) (a : Nat → Nat) (V : Sz) (x1 : Int) {r : Int} (hf : f_X8_under V x1 = some r) : MP l yX8_under cX8_under 2 (some .int) rmX8_under D kA [.ref (a 0), vI x1] (cs_X8 kA a V) (some (vI r)) := by
  refine zPI (own := RX8) rfl rfl (Nat.le_of_ble_eq_true rfl) ?_
  intro p e s m args below meth c ls Q hC hK hP hl hret
  have hl : lv_has ls 2 [(0, .ref (a 0)), (1, vI x1)] := hl
  unfold f_X8_under at hf
  refine ziconst hC.1 hC.2.1 dX8_under_0 <| lv_aload_n hC.1 hC.2.1 dX8_under_1 rfl (lv_at hl 0 rfl) <| gfX8_37 hC hK hP (q0 := 0) rfl rfl dX8_under_2 <| ziload_n hC.1 hC.2.1 dX8_under_5 rfl (lv_at hl 1 rfl) <| ?_
  obtain ⟨hz_1, hf⟩ := ck_some hf
  refine jal hC hK hP (q0 := 10) rfl (Nat.le_of_ble_eq_true rfl) hz_1 rfl dX8_under_6 <| lv_aload_n hC.1 hC.2.1 dX8_under_7 rfl (lv_at hl 0 rfl) <| gfX8_7 hC hK hP (q0 := 0) rfl rfl dX8_under_8 <| zsipush hC.1 hC.2.1 dX8_under_11 (by decide) <| ziload_n hC.1 hC.2.1 dX8_under_14 rfl (lv_at hl 1 rfl) <| ziadd hC.1 hC.2.1 dX8_under_15 <| ?_
  obtain ⟨hz_2, hf⟩ := ck_some hf
  refine jal hC hK hP (q0 := 1) rfl (Nat.le_of_ble_eq_true rfl) hz_2 rfl dX8_under_16 <| zisub hC.1 hC.2.1 dX8_under_17 <| ?_
  obtain ⟨hz_3, hf⟩ := ck_some hf
  exact jmax ⟨(by decide), hz_3⟩ hC qw_1518 hl.1 (Nat.le_of_ble_eq_true rfl) ⟨Nat.le_of_ble_eq_true rfl, Nat.le_of_ble_eq_true rfl⟩ ⟨Nat.le_refl _, Nat.le_refl _⟩ dX8_under_18 <| hret (Int32.ofInt (max 0 ((V 12 x1.toNat) - (V 0 (953 + x1).toNat)))) _ _ (qI hf) dX8_under_21
theorem DX8_overclaimed_0 : ∀ q ∈ ([(0, .aload_n 0, 1), (1, .iconst 0, 1), (2, .putfield 65, 3), (5, .aload_n 0, 1), (6, .invokevirtual 121, 3), (9, .iconst 0, 1), (10, .istore_n 1, 1), (11, .iconst 0, 1), (12, .istore_n 2, 1), (13, .iload_n 2, 1), (14, .sipush 180, 3), (17, .if_icmp .ge 29, 3), (20, .iload_n 1, 1), (21, .aload_n 0, 1), (22, .iload_n 2, 1), (23, .invokevirtual 124, 3), (26, .ifCond .eq 11, 3), (29, .aload_n 0, 1), (30, .iload_n 2, 1), (31, .invokevirtual 323, 3), (34, .goto 4, 3), (37, .iconst 0, 1), (38, .iadd, 1), (39, .istore_n 1, 1), (40, .iinc 2 1, 3), (43, .goto (-30), 3), (46, .iload_n 1, 1), (47, .ireturn, 1)] : List (Nat × Instr × Nat)), decode cX8_overclaimed q.1 = .ok q.2 := by decide +kernel
theorem dX8_overclaimed_0 : decode cX8_overclaimed 0 = .ok (.aload_n 0, 1) := DX8_overclaimed_0 (0, .aload_n 0, 1) (List.mem_of_getElem? (i := 0) rfl)
theorem dX8_overclaimed_1 : decode cX8_overclaimed 1 = .ok (.iconst 0, 1) := DX8_overclaimed_0 (1, .iconst 0, 1) (List.mem_of_getElem? (i := 1) rfl)
theorem dX8_overclaimed_2 : decode cX8_overclaimed 2 = .ok (.putfield 65, 3) := DX8_overclaimed_0 (2, .putfield 65, 3) (List.mem_of_getElem? (i := 2) rfl)
theorem dX8_overclaimed_5 : decode cX8_overclaimed 5 = .ok (.aload_n 0, 1) := DX8_overclaimed_0 (5, .aload_n 0, 1) (List.mem_of_getElem? (i := 3) rfl)
theorem dX8_overclaimed_6 : decode cX8_overclaimed 6 = .ok (.invokevirtual 121, 3) := DX8_overclaimed_0 (6, .invokevirtual 121, 3) (List.mem_of_getElem? (i := 4) rfl)
theorem dX8_overclaimed_9 : decode cX8_overclaimed 9 = .ok (.iconst 0, 1) := DX8_overclaimed_0 (9, .iconst 0, 1) (List.mem_of_getElem? (i := 5) rfl)
theorem dX8_overclaimed_10 : decode cX8_overclaimed 10 = .ok (.istore_n 1, 1) := DX8_overclaimed_0 (10, .istore_n 1, 1) (List.mem_of_getElem? (i := 6) rfl)
theorem dX8_overclaimed_11 : decode cX8_overclaimed 11 = .ok (.iconst 0, 1) := DX8_overclaimed_0 (11, .iconst 0, 1) (List.mem_of_getElem? (i := 7) rfl)
theorem dX8_overclaimed_12 : decode cX8_overclaimed 12 = .ok (.istore_n 2, 1) := DX8_overclaimed_0 (12, .istore_n 2, 1) (List.mem_of_getElem? (i := 8) rfl)
theorem dX8_overclaimed_13 : decode cX8_overclaimed 13 = .ok (.iload_n 2, 1) := DX8_overclaimed_0 (13, .iload_n 2, 1) (List.mem_of_getElem? (i := 9) rfl)
theorem dX8_overclaimed_14 : decode cX8_overclaimed 14 = .ok (.sipush 180, 3) := DX8_overclaimed_0 (14, .sipush 180, 3) (List.mem_of_getElem? (i := 10) rfl)
theorem dX8_overclaimed_17 : decode cX8_overclaimed 17 = .ok (.if_icmp .ge 29, 3) := DX8_overclaimed_0 (17, .if_icmp .ge 29, 3) (List.mem_of_getElem? (i := 11) rfl)
theorem dX8_overclaimed_20 : decode cX8_overclaimed 20 = .ok (.iload_n 1, 1) := DX8_overclaimed_0 (20, .iload_n 1, 1) (List.mem_of_getElem? (i := 12) rfl)
theorem dX8_overclaimed_21 : decode cX8_overclaimed 21 = .ok (.aload_n 0, 1) := DX8_overclaimed_0 (21, .aload_n 0, 1) (List.mem_of_getElem? (i := 13) rfl)
theorem dX8_overclaimed_22 : decode cX8_overclaimed 22 = .ok (.iload_n 2, 1) := DX8_overclaimed_0 (22, .iload_n 2, 1) (List.mem_of_getElem? (i := 14) rfl)
theorem dX8_overclaimed_23 : decode cX8_overclaimed 23 = .ok (.invokevirtual 124, 3) := DX8_overclaimed_0 (23, .invokevirtual 124, 3) (List.mem_of_getElem? (i := 15) rfl)
theorem dX8_overclaimed_26 : decode cX8_overclaimed 26 = .ok (.ifCond .eq 11, 3) := DX8_overclaimed_0 (26, .ifCond .eq 11, 3) (List.mem_of_getElem? (i := 16) rfl)
theorem dX8_overclaimed_29 : decode cX8_overclaimed 29 = .ok (.aload_n 0, 1) := DX8_overclaimed_0 (29, .aload_n 0, 1) (List.mem_of_getElem? (i := 17) rfl)
theorem dX8_overclaimed_30 : decode cX8_overclaimed 30 = .ok (.iload_n 2, 1) := DX8_overclaimed_0 (30, .iload_n 2, 1) (List.mem_of_getElem? (i := 18) rfl)
theorem dX8_overclaimed_31 : decode cX8_overclaimed 31 = .ok (.invokevirtual 323, 3) := DX8_overclaimed_0 (31, .invokevirtual 323, 3) (List.mem_of_getElem? (i := 19) rfl)
theorem dX8_overclaimed_34 : decode cX8_overclaimed 34 = .ok (.goto 4, 3) := DX8_overclaimed_0 (34, .goto 4, 3) (List.mem_of_getElem? (i := 20) rfl)
theorem dX8_overclaimed_37 : decode cX8_overclaimed 37 = .ok (.iconst 0, 1) := DX8_overclaimed_0 (37, .iconst 0, 1) (List.mem_of_getElem? (i := 21) rfl)
theorem dX8_overclaimed_38 : decode cX8_overclaimed 38 = .ok (.iadd, 1) := DX8_overclaimed_0 (38, .iadd, 1) (List.mem_of_getElem? (i := 22) rfl)
theorem dX8_overclaimed_39 : decode cX8_overclaimed 39 = .ok (.istore_n 1, 1) := DX8_overclaimed_0 (39, .istore_n 1, 1) (List.mem_of_getElem? (i := 23) rfl)
theorem dX8_overclaimed_40 : decode cX8_overclaimed 40 = .ok (.iinc 2 1, 3) := DX8_overclaimed_0 (40, .iinc 2 1, 3) (List.mem_of_getElem? (i := 24) rfl)
theorem dX8_overclaimed_43 : decode cX8_overclaimed 43 = .ok (.goto (-30), 3) := DX8_overclaimed_0 (43, .goto (-30), 3) (List.mem_of_getElem? (i := 25) rfl)
theorem dX8_overclaimed_46 : decode cX8_overclaimed 46 = .ok (.iload_n 1, 1) := DX8_overclaimed_0 (46, .iload_n 1, 1) (List.mem_of_getElem? (i := 26) rfl)
theorem dX8_overclaimed_47 : decode cX8_overclaimed 47 = .ok (.ireturn, 1) := DX8_overclaimed_0 (47, .ireturn, 1) (List.mem_of_getElem? (i := 27) rfl)
abbrev rmX8_overclaimed : Room := { frames := 4, cells := 0, slots := 0, locals := 90 }
set_option maxHeartbeats 400000 in
set_option maxRecDepth 100000 in
theorem met_X8_overclaimed (l : Launch) (D : va_G) (kA : Nat → ClassId) (a : Nat → Nat) (n : Nat) (V0 : Sz) (hDt : ∀ w : Sz, va_D (fun _ => True) (cs_X8 kA a w)) {r : Int} {Vr : Sz} (hf : f_X8_overclaimed n V0 = some (r, Vr)) : MZ l yX8_overclaimed cX8_overclaimed 3 (some .int) rmX8_overclaimed D kA [.ref (a 0)] (cs_X8 kA a V0) (cs_X8 kA a Vr) (some (vI r)) := by
  refine zZI (own := RX8) rfl rfl (Nat.le_of_ble_eq_true rfl) ?_
  intro p e s m args below meth c ls Q hC hK hP hl hret
  have hl : lv_has ls 3 [(0, .ref (a 0))] := hl
  have hS : va_S (zF (cs_X8 kA a V0)) s.heap s.heap [] := va_S.rf
  have hD := zDself (C := fun w : Sz => (cs_X8 kA a w)) hDt V0 (fun _ => rfl)
  try dsimp only at hD
  generalize hAe : zF (cs_X8 kA a V0) = A0 at hS hD hret
  unfold f_X8_overclaimed at hf
  have L13 : ∀ (k13 : Nat) (y1 : Int) (y2 : Int) (V : Sz) (H : Heap) (locs : List Loc) (ls : Array Slot), lpF (bX8_overclaimed_13 n) k13 (y1, y2, V) = some (r, Vr) → va_P D vwCl (cs_X8 kA a V) H → va_S A0 s.heap H locs → lv_has ls 3 [(0, .ref (a 0)), (1, vI y1), (2, vI y2)] → W p l e rmX8_overclaimed s m args below meth c H locs 0 0 Q (F0 m 13 ls []) := by
    intro k13
    induction k13 with
    | zero => intro y1 y2 V H locs ls hf hP hS hl; exact lp_0 hf
    | succ k13 ih13 =>
      intro y1 y2 V H locs ls hf hP hS hl
      have hf := lp_s hf
      rw [bX8_overclaimed_13_e] at hf
      have J38 : ∀ (y2 : Int) (V : Sz) (z0 : Int) (z1 : Int) (H : Heap) (locs : List Loc) (ls : Array Slot), jX8_overclaimed_38 n (lpF (bX8_overclaimed_13 n) k13) y2 V z0 z1 = some (r, Vr) → va_P D vwCl (cs_X8 kA a V) H → va_S A0 s.heap H locs → lv_has ls 3 [(0, .ref (a 0)), (2, vI y2)] → W p l e rmX8_overclaimed s m args below meth c H locs 0 0 Q (F0 m 38 ls [vI z0, vI z1]) := by
        intro y2 V z0 z1 H locs ls hf hP hS hl
        unfold jX8_overclaimed_38 at hf
        refine ziadd hC.1 hC.2.1 dX8_overclaimed_38 <| ?_
        refine ztopi (fun x_5 ex_5 => ?_)
        have hf := nm_at hf ex_5
        refine zistore_n (lv' := [(1, vI x_5), (0, .ref (a 0)), (2, vI y2)]) hC.1 hC.2.1 dX8_overclaimed_39 rfl hl (by decide) rfl (fun ls hl => ?_)
        obtain ⟨x_6, ex_6⟩ : ∃ y : Int, y = y2 + 1 := ⟨_, rfl⟩
        have hf := nm_at hf ex_6
        refine ziinc (v := x_6) (lv' := [(2, vI x_6), (1, vI x_5), (0, .ref (a 0))]) hC.1 hC.2.1 dX8_overclaimed_40 hl (k := 2) rfl ex_6 (by decide) rfl (fun ls hl => ?_)
        exact lv_goto (tgt := 13) hC.1 hC.2.1 dX8_overclaimed_43 (by decide) <| ih13 _ _ _ _ _ _ hf hP hS (lv_sub hl [2, 1, 0] rfl)
      refine ziload_n hC.1 hC.2.1 dX8_overclaimed_13 rfl (lv_at hl 2 rfl) <| zsipush hC.1 hC.2.1 dX8_overclaimed_14 (by decide) <| ?_
      obtain ⟨hz_3, hf⟩ := ck_some hf
      refine zicmp_ge (tgt := 46) hC.1 hC.2.1 ⟨hz_3, (by decide)⟩ dX8_overclaimed_17 (by decide) (fun hc => ?_) (fun hc => ?_)
      · have hf := it_t hf hc
        refine ziload_n hC.1 hC.2.1 dX8_overclaimed_46 rfl (lv_at hl 1 rfl) <| ?_
        have hf := Option.some.inj hf
        simp only [Prod.mk.injEq] at hf
        exact hret (Int32.ofInt y1) _ _ _ _ (congrArg (fun z => some (vI z)) hf.1.symm) (by rw [← hf.2]; exact hP) hS dX8_overclaimed_47
      · have hf := it_f hf hc
        refine ziload_n hC.1 hC.2.1 dX8_overclaimed_20 rfl (lv_at hl 1 rfl) <| lv_aload_n hC.1 hC.2.1 dX8_overclaimed_21 rfl (lv_at hl 0 rfl) <| ziload_n hC.1 hC.2.1 dX8_overclaimed_22 rfl (lv_at hl 2 rfl) <| ?_
        obtain ⟨r_4, hu, hf⟩ := bd_some hf
        refine zcVP (As := [vI y2]) (rest := [vI y1]) hC hK (met_X8_isPart l D kA a V y2 hu) zwX8_124 hP (q0 := 0) rfl rfl rfl rfl hl.1 rfl (Nat.le_of_ble_eq_true rfl) ⟨Nat.le_of_ble_eq_true rfl, Nat.le_of_ble_eq_true rfl⟩ ⟨rfl, rfl⟩ ⟨Nat.le_refl _, Nat.le_refl _⟩ dX8_overclaimed_23 <| zifb_eq (tgt := 37) hC.1 hC.2.1 dX8_overclaimed_26 (by decide) (fun hc => ?_) (fun hc => ?_)
        · have hf := it_t hf hc
          exact ziconst hC.1 hC.2.1 dX8_overclaimed_37 <| J38 _ _ _ _ _ _ _ hf hP hS (lv_sub hl [0, 2] rfl)
        · have hf := it_f hf hc
          refine lv_aload_n hC.1 hC.2.1 dX8_overclaimed_29 rfl (lv_at hl 0 rfl) <| ziload_n hC.1 hC.2.1 dX8_overclaimed_30 rfl (lv_at hl 2 rfl) <| ?_
          obtain ⟨r_7, hu, hf⟩ := bd_some hf
          exact zcVP (As := [vI y2]) (rest := [vI y1]) hC hK (met_X8_over l D kA a V y2 hu) zwX8_323 hP (q0 := 0) rfl rfl rfl rfl hl.1 rfl (Nat.le_of_ble_eq_true rfl) ⟨Nat.le_of_ble_eq_true rfl, Nat.le_of_ble_eq_true rfl⟩ ⟨rfl, rfl⟩ ⟨Nat.le_refl _, Nat.le_refl _⟩ dX8_overclaimed_31 <| lv_goto (tgt := 38) hC.1 hC.2.1 dX8_overclaimed_34 (by decide) <| J38 _ _ _ _ _ _ _ hf hP hS (lv_sub hl [0, 2] rfl)
  refine lv_aload_n hC.1 hC.2.1 dX8_overclaimed_0 rfl (lv_at hl 0 rfl) <| ziconst hC.1 hC.2.1 dX8_overclaimed_1 <| ?_
  refine pfX8_65 hC hK hP (hD V0) hS (q0 := 0) rfl (Nat.le_of_ble_eq_true rfl) dX8_overclaimed_2 (fun H locs hP hS => ?_)
  obtain ⟨V_1, eV_1⟩ : ∃ y, y = us V0 9 0 := ⟨_, rfl⟩
  have hf := nm_at hf eV_1
  have hP : va_P D vwCl (cs_X8 kA a V_1) H := by rw [eV_1]; exact hP
  refine lv_aload_n hC.1 hC.2.1 dX8_overclaimed_5 rfl (lv_at hl 0 rfl) <| ?_
  obtain ⟨V_2, hu, hf⟩ := bd_some hf
  have hDc := hDt
  refine zcVZ (As := []) (rest := []) hC hK (met_X8_laysAid l D kA a n V_1 hDc hu) zwX8_121 hS (zFsub (hD V_1) [0, 1, 2, 3, 4, 5, 6, 7, 8, 9, 10, 11, 12, 13, 14, 15, 16] rfl) hP (q0 := 0) rfl rfl rfl rfl hl.1 rfl (Nat.le_of_ble_eq_true rfl) ⟨Nat.le_of_ble_eq_true rfl, Nat.le_of_ble_eq_true rfl⟩ ⟨rfl, rfl⟩ ⟨Nat.le_refl _, Nat.le_refl _⟩ dX8_overclaimed_6 (fun H locs hP1 hk1 hS => ?_)
  have hP : va_P D vwCl (cs_X8 kA a V_2) H := hP1
  refine ziconst hC.1 hC.2.1 dX8_overclaimed_9 <| zistore_n (lv' := [(1, vI 0), (0, .ref (a 0))]) hC.1 hC.2.1 dX8_overclaimed_10 rfl hl (by decide) rfl (fun ls hl => ?_)
  refine ziconst hC.1 hC.2.1 dX8_overclaimed_11 <| zistore_n (lv' := [(2, vI 0), (1, vI 0), (0, .ref (a 0))]) hC.1 hC.2.1 dX8_overclaimed_12 rfl hl (by decide) rfl (fun ls hl => ?_)
  exact L13 n _ _ _ _ _ _ hf hP hS (lv_sub hl [2, 1, 0] rfl)
theorem DX8_totalAid_0 : ∀ q ∈ ([(0, .aload_n 0, 1), (1, .iconst 0, 1), (2, .putfield 65, 3), (5, .aload_n 0, 1), (6, .invokevirtual 326, 3), (9, .ireturn, 1)] : List (Nat × Instr × Nat)), decode cX8_totalAid q.1 = .ok q.2 := by decide +kernel
theorem dX8_totalAid_0 : decode cX8_totalAid 0 = .ok (.aload_n 0, 1) := DX8_totalAid_0 (0, .aload_n 0, 1) (List.mem_of_getElem? (i := 0) rfl)
theorem dX8_totalAid_1 : decode cX8_totalAid 1 = .ok (.iconst 0, 1) := DX8_totalAid_0 (1, .iconst 0, 1) (List.mem_of_getElem? (i := 1) rfl)
theorem dX8_totalAid_2 : decode cX8_totalAid 2 = .ok (.putfield 65, 3) := DX8_totalAid_0 (2, .putfield 65, 3) (List.mem_of_getElem? (i := 2) rfl)
theorem dX8_totalAid_5 : decode cX8_totalAid 5 = .ok (.aload_n 0, 1) := DX8_totalAid_0 (5, .aload_n 0, 1) (List.mem_of_getElem? (i := 3) rfl)
theorem dX8_totalAid_6 : decode cX8_totalAid 6 = .ok (.invokevirtual 326, 3) := DX8_totalAid_0 (6, .invokevirtual 326, 3) (List.mem_of_getElem? (i := 4) rfl)
theorem dX8_totalAid_9 : decode cX8_totalAid 9 = .ok (.ireturn, 1) := DX8_totalAid_0 (9, .ireturn, 1) (List.mem_of_getElem? (i := 5) rfl)
abbrev rmX8_totalAid : Room := { frames := 5, cells := 0, slots := 0, locals := 112 }
set_option maxHeartbeats 400000 in
set_option maxRecDepth 100000 in
theorem met_X8_totalAid (l : Launch) (D : va_G) (kA : Nat → ClassId) (a : Nat → Nat) (n : Nat) (V0 : Sz) (hDt : ∀ w : Sz, va_D (fun _ => True) (cs_X8 kA a w)) {r : Int} {Vr : Sz} (hf : f_X8_totalAid n V0 = some (r, Vr)) : MZ l yX8_totalAid cX8_totalAid 1 (some .int) rmX8_totalAid D kA [.ref (a 0)] (cs_X8 kA a V0) (cs_X8 kA a Vr) (some (vI r)) := by
  refine zZI (own := RX8) rfl rfl (Nat.le_of_ble_eq_true rfl) ?_
  intro p e s m args below meth c ls Q hC hK hP hl hret
  have hl : lv_has ls 1 [(0, .ref (a 0))] := hl
  have hS : va_S (zF (cs_X8 kA a V0)) s.heap s.heap [] := va_S.rf
  have hD := zDself (C := fun w : Sz => (cs_X8 kA a w)) hDt V0 (fun _ => rfl)
  try dsimp only at hD
  generalize hAe : zF (cs_X8 kA a V0) = A0 at hS hD hret
  unfold f_X8_totalAid at hf
  refine lv_aload_n hC.1 hC.2.1 dX8_totalAid_0 rfl (lv_at hl 0 rfl) <| ziconst hC.1 hC.2.1 dX8_totalAid_1 <| ?_
  refine pfX8_65 hC hK hP (hD V0) hS (q0 := 0) rfl (Nat.le_of_ble_eq_true rfl) dX8_totalAid_2 (fun H locs hP hS => ?_)
  obtain ⟨V_1, eV_1⟩ : ∃ y, y = us V0 9 0 := ⟨_, rfl⟩
  have hf := nm_at hf eV_1
  have hP : va_P D vwCl (cs_X8 kA a V_1) H := by rw [eV_1]; exact hP
  refine lv_aload_n hC.1 hC.2.1 dX8_totalAid_5 rfl (lv_at hl 0 rfl) <| ?_
  obtain ⟨⟨r_2, V_3⟩, hu, hf⟩ := bd_some hf
  have hDc := hDt
  refine zcVZ (As := []) (rest := []) hC hK (met_X8_allAid l D kA a n V_1 hDc hu) zwX8_326 hS (zFsub (hD V_1) [0, 1, 2, 3, 4, 5, 6, 7, 8, 9, 10, 11, 12, 13, 14, 15, 16] rfl) hP (q0 := 0) rfl rfl rfl rfl hl.1 rfl (Nat.le_of_ble_eq_true rfl) ⟨Nat.le_of_ble_eq_true rfl, Nat.le_of_ble_eq_true rfl⟩ ⟨rfl, rfl⟩ ⟨Nat.le_refl _, Nat.le_refl _⟩ dX8_totalAid_6 (fun H locs hP1 hk1 hS => ?_)
  have hP : va_P D vwCl (cs_X8 kA a V_3) H := hP1
  have hf := Option.some.inj hf
  simp only [Prod.mk.injEq] at hf
  exact hret (Int32.ofInt r_2) _ _ _ _ (congrArg (fun z => some (vI z)) hf.1.symm) (by rw [← hf.2]; exact hP) hS dX8_totalAid_9
theorem DX8_lost_0 : ∀ q ∈ ([(0, .aload_n 0, 1), (1, .iconst 0, 1), (2, .putfield 65, 3), (5, .aload_n 0, 1), (6, .iload_n 1, 1), (7, .iconst 1, 1), (8, .iconst 5, 1), (9, .invokestatic 79, 3), (12, .ifCond .ne 7, 3), (15, .iconst 1, 1), (16, .goto 4, 3), (19, .iconst 0, 1), (20, .iconst 1, 1), (21, .invokevirtual 261, 3), (24, .ifCond .eq 5, 3), (27, .iconst 0, 1), (28, .ireturn, 1), (29, .aload_n 0, 1), (30, .invokevirtual 121, 3), (33, .iconst 0, 1), (34, .istore_n 2, 1), (35, .iconst 0, 1), (36, .istore_n 3, 1), (37, .iload_n 3, 1), (38, .sipush 180, 3), (41, .if_icmp .ge 45, 3), (44, .iload_n 2, 1), (45, .aload_n 0, 1), (46, .iload_n 3, 1), (47, .invokevirtual 124, 3), (50, .ifCond .eq 27, 3), (53, .aload_n 0, 1), (54, .iload_n 3, 1), (55, .invokevirtual 284, 3), (58, .iload_n 1, 1), (59, .if_icmp .ne 18, 3), (62, .aload_n 0, 1), (63, .iload_n 3, 1), (64, .invokevirtual 97, 3), (67, .aload_n 0, 1)] : List (Nat × Instr × Nat)), decode cX8_lost q.1 = .ok q.2 := by decide +kernel
theorem dX8_lost_0 : decode cX8_lost 0 = .ok (.aload_n 0, 1) := DX8_lost_0 (0, .aload_n 0, 1) (List.mem_of_getElem? (i := 0) rfl)
theorem dX8_lost_1 : decode cX8_lost 1 = .ok (.iconst 0, 1) := DX8_lost_0 (1, .iconst 0, 1) (List.mem_of_getElem? (i := 1) rfl)
theorem dX8_lost_2 : decode cX8_lost 2 = .ok (.putfield 65, 3) := DX8_lost_0 (2, .putfield 65, 3) (List.mem_of_getElem? (i := 2) rfl)
theorem dX8_lost_5 : decode cX8_lost 5 = .ok (.aload_n 0, 1) := DX8_lost_0 (5, .aload_n 0, 1) (List.mem_of_getElem? (i := 3) rfl)
theorem dX8_lost_6 : decode cX8_lost 6 = .ok (.iload_n 1, 1) := DX8_lost_0 (6, .iload_n 1, 1) (List.mem_of_getElem? (i := 4) rfl)
theorem dX8_lost_7 : decode cX8_lost 7 = .ok (.iconst 1, 1) := DX8_lost_0 (7, .iconst 1, 1) (List.mem_of_getElem? (i := 5) rfl)
theorem dX8_lost_8 : decode cX8_lost 8 = .ok (.iconst 5, 1) := DX8_lost_0 (8, .iconst 5, 1) (List.mem_of_getElem? (i := 6) rfl)
theorem dX8_lost_9 : decode cX8_lost 9 = .ok (.invokestatic 79, 3) := DX8_lost_0 (9, .invokestatic 79, 3) (List.mem_of_getElem? (i := 7) rfl)
theorem dX8_lost_12 : decode cX8_lost 12 = .ok (.ifCond .ne 7, 3) := DX8_lost_0 (12, .ifCond .ne 7, 3) (List.mem_of_getElem? (i := 8) rfl)
theorem dX8_lost_15 : decode cX8_lost 15 = .ok (.iconst 1, 1) := DX8_lost_0 (15, .iconst 1, 1) (List.mem_of_getElem? (i := 9) rfl)
theorem dX8_lost_16 : decode cX8_lost 16 = .ok (.goto 4, 3) := DX8_lost_0 (16, .goto 4, 3) (List.mem_of_getElem? (i := 10) rfl)
theorem dX8_lost_19 : decode cX8_lost 19 = .ok (.iconst 0, 1) := DX8_lost_0 (19, .iconst 0, 1) (List.mem_of_getElem? (i := 11) rfl)
theorem dX8_lost_20 : decode cX8_lost 20 = .ok (.iconst 1, 1) := DX8_lost_0 (20, .iconst 1, 1) (List.mem_of_getElem? (i := 12) rfl)
theorem dX8_lost_21 : decode cX8_lost 21 = .ok (.invokevirtual 261, 3) := DX8_lost_0 (21, .invokevirtual 261, 3) (List.mem_of_getElem? (i := 13) rfl)
theorem dX8_lost_24 : decode cX8_lost 24 = .ok (.ifCond .eq 5, 3) := DX8_lost_0 (24, .ifCond .eq 5, 3) (List.mem_of_getElem? (i := 14) rfl)
theorem dX8_lost_27 : decode cX8_lost 27 = .ok (.iconst 0, 1) := DX8_lost_0 (27, .iconst 0, 1) (List.mem_of_getElem? (i := 15) rfl)
theorem dX8_lost_28 : decode cX8_lost 28 = .ok (.ireturn, 1) := DX8_lost_0 (28, .ireturn, 1) (List.mem_of_getElem? (i := 16) rfl)
theorem dX8_lost_29 : decode cX8_lost 29 = .ok (.aload_n 0, 1) := DX8_lost_0 (29, .aload_n 0, 1) (List.mem_of_getElem? (i := 17) rfl)
theorem dX8_lost_30 : decode cX8_lost 30 = .ok (.invokevirtual 121, 3) := DX8_lost_0 (30, .invokevirtual 121, 3) (List.mem_of_getElem? (i := 18) rfl)
theorem dX8_lost_33 : decode cX8_lost 33 = .ok (.iconst 0, 1) := DX8_lost_0 (33, .iconst 0, 1) (List.mem_of_getElem? (i := 19) rfl)
theorem dX8_lost_34 : decode cX8_lost 34 = .ok (.istore_n 2, 1) := DX8_lost_0 (34, .istore_n 2, 1) (List.mem_of_getElem? (i := 20) rfl)
theorem dX8_lost_35 : decode cX8_lost 35 = .ok (.iconst 0, 1) := DX8_lost_0 (35, .iconst 0, 1) (List.mem_of_getElem? (i := 21) rfl)
theorem dX8_lost_36 : decode cX8_lost 36 = .ok (.istore_n 3, 1) := DX8_lost_0 (36, .istore_n 3, 1) (List.mem_of_getElem? (i := 22) rfl)
theorem dX8_lost_37 : decode cX8_lost 37 = .ok (.iload_n 3, 1) := DX8_lost_0 (37, .iload_n 3, 1) (List.mem_of_getElem? (i := 23) rfl)
theorem dX8_lost_38 : decode cX8_lost 38 = .ok (.sipush 180, 3) := DX8_lost_0 (38, .sipush 180, 3) (List.mem_of_getElem? (i := 24) rfl)
theorem dX8_lost_41 : decode cX8_lost 41 = .ok (.if_icmp .ge 45, 3) := DX8_lost_0 (41, .if_icmp .ge 45, 3) (List.mem_of_getElem? (i := 25) rfl)
theorem dX8_lost_44 : decode cX8_lost 44 = .ok (.iload_n 2, 1) := DX8_lost_0 (44, .iload_n 2, 1) (List.mem_of_getElem? (i := 26) rfl)
theorem dX8_lost_45 : decode cX8_lost 45 = .ok (.aload_n 0, 1) := DX8_lost_0 (45, .aload_n 0, 1) (List.mem_of_getElem? (i := 27) rfl)
theorem dX8_lost_46 : decode cX8_lost 46 = .ok (.iload_n 3, 1) := DX8_lost_0 (46, .iload_n 3, 1) (List.mem_of_getElem? (i := 28) rfl)
theorem dX8_lost_47 : decode cX8_lost 47 = .ok (.invokevirtual 124, 3) := DX8_lost_0 (47, .invokevirtual 124, 3) (List.mem_of_getElem? (i := 29) rfl)
theorem dX8_lost_50 : decode cX8_lost 50 = .ok (.ifCond .eq 27, 3) := DX8_lost_0 (50, .ifCond .eq 27, 3) (List.mem_of_getElem? (i := 30) rfl)
theorem dX8_lost_53 : decode cX8_lost 53 = .ok (.aload_n 0, 1) := DX8_lost_0 (53, .aload_n 0, 1) (List.mem_of_getElem? (i := 31) rfl)
theorem dX8_lost_54 : decode cX8_lost 54 = .ok (.iload_n 3, 1) := DX8_lost_0 (54, .iload_n 3, 1) (List.mem_of_getElem? (i := 32) rfl)
theorem dX8_lost_55 : decode cX8_lost 55 = .ok (.invokevirtual 284, 3) := DX8_lost_0 (55, .invokevirtual 284, 3) (List.mem_of_getElem? (i := 33) rfl)
theorem dX8_lost_58 : decode cX8_lost 58 = .ok (.iload_n 1, 1) := DX8_lost_0 (58, .iload_n 1, 1) (List.mem_of_getElem? (i := 34) rfl)
theorem dX8_lost_59 : decode cX8_lost 59 = .ok (.if_icmp .ne 18, 3) := DX8_lost_0 (59, .if_icmp .ne 18, 3) (List.mem_of_getElem? (i := 35) rfl)
theorem dX8_lost_62 : decode cX8_lost 62 = .ok (.aload_n 0, 1) := DX8_lost_0 (62, .aload_n 0, 1) (List.mem_of_getElem? (i := 36) rfl)
theorem dX8_lost_63 : decode cX8_lost 63 = .ok (.iload_n 3, 1) := DX8_lost_0 (63, .iload_n 3, 1) (List.mem_of_getElem? (i := 37) rfl)
theorem dX8_lost_64 : decode cX8_lost 64 = .ok (.invokevirtual 97, 3) := DX8_lost_0 (64, .invokevirtual 97, 3) (List.mem_of_getElem? (i := 38) rfl)
theorem dX8_lost_67 : decode cX8_lost 67 = .ok (.aload_n 0, 1) := DX8_lost_0 (67, .aload_n 0, 1) (List.mem_of_getElem? (i := 39) rfl)
theorem DX8_lost_1 : ∀ q ∈ ([(68, .getfield 37, 3), (71, .iload_n 3, 1), (72, .iaload, 1), (73, .isub, 1), (74, .goto 4, 3), (77, .iconst 0, 1), (78, .iadd, 1), (79, .istore_n 2, 1), (80, .iinc 3 1, 3), (83, .goto (-46), 3), (86, .iload_n 2, 1), (87, .ireturn, 1)] : List (Nat × Instr × Nat)), decode cX8_lost q.1 = .ok q.2 := by decide +kernel
theorem dX8_lost_68 : decode cX8_lost 68 = .ok (.getfield 37, 3) := DX8_lost_1 (68, .getfield 37, 3) (List.mem_of_getElem? (i := 0) rfl)
theorem dX8_lost_71 : decode cX8_lost 71 = .ok (.iload_n 3, 1) := DX8_lost_1 (71, .iload_n 3, 1) (List.mem_of_getElem? (i := 1) rfl)
theorem dX8_lost_72 : decode cX8_lost 72 = .ok (.iaload, 1) := DX8_lost_1 (72, .iaload, 1) (List.mem_of_getElem? (i := 2) rfl)
theorem dX8_lost_73 : decode cX8_lost 73 = .ok (.isub, 1) := DX8_lost_1 (73, .isub, 1) (List.mem_of_getElem? (i := 3) rfl)
theorem dX8_lost_74 : decode cX8_lost 74 = .ok (.goto 4, 3) := DX8_lost_1 (74, .goto 4, 3) (List.mem_of_getElem? (i := 4) rfl)
theorem dX8_lost_77 : decode cX8_lost 77 = .ok (.iconst 0, 1) := DX8_lost_1 (77, .iconst 0, 1) (List.mem_of_getElem? (i := 5) rfl)
theorem dX8_lost_78 : decode cX8_lost 78 = .ok (.iadd, 1) := DX8_lost_1 (78, .iadd, 1) (List.mem_of_getElem? (i := 6) rfl)
theorem dX8_lost_79 : decode cX8_lost 79 = .ok (.istore_n 2, 1) := DX8_lost_1 (79, .istore_n 2, 1) (List.mem_of_getElem? (i := 7) rfl)
theorem dX8_lost_80 : decode cX8_lost 80 = .ok (.iinc 3 1, 3) := DX8_lost_1 (80, .iinc 3 1, 3) (List.mem_of_getElem? (i := 8) rfl)
theorem dX8_lost_83 : decode cX8_lost 83 = .ok (.goto (-46), 3) := DX8_lost_1 (83, .goto (-46), 3) (List.mem_of_getElem? (i := 9) rfl)
theorem dX8_lost_86 : decode cX8_lost 86 = .ok (.iload_n 2, 1) := DX8_lost_1 (86, .iload_n 2, 1) (List.mem_of_getElem? (i := 10) rfl)
theorem dX8_lost_87 : decode cX8_lost 87 = .ok (.ireturn, 1) := DX8_lost_1 (87, .ireturn, 1) (List.mem_of_getElem? (i := 11) rfl)
abbrev rmX8_lost : Room := { frames := 4, cells := 0, slots := 0, locals := 90 }
set_option maxHeartbeats 400000 in
set_option maxRecDepth 100000 in
theorem met_X8_lost (l : Launch) (D : va_G) (kA : Nat → ClassId) (a : Nat → Nat) (n : Nat) (V0 : Sz) (x1 : Int) (hDt : ∀ w : Sz, va_D (fun _ => True) (cs_X8 kA a w)) {r : Int} {Vr : Sz} (hf : f_X8_lost n V0 x1 = some (r, Vr)) : MZ l yX8_lost cX8_lost 4 (some .int) rmX8_lost D kA [.ref (a 0), vI x1] (cs_X8 kA a V0) (cs_X8 kA a Vr) (some (vI r)) := by
  refine zZI (own := RX8) rfl rfl (Nat.le_of_ble_eq_true rfl) ?_
  intro p e s m args below meth c ls Q hC hK hP hl hret
  have hl : lv_has ls 4 [(0, .ref (a 0)), (1, vI x1)] := hl
  have hS : va_S (zF (cs_X8 kA a V0)) s.heap s.heap [] := va_S.rf
  have hD := zDself (C := fun w : Sz => (cs_X8 kA a w)) hDt V0 (fun _ => rfl)
  try dsimp only at hD
  generalize hAe : zF (cs_X8 kA a V0) = A0 at hS hD hret
  unfold f_X8_lost at hf
  have L37 : ∀ (k37 : Nat) (y2 : Int) (y3 : Int) (V : Sz) (H : Heap) (locs : List Loc) (ls : Array Slot), lpF (bX8_lost_37 n x1) k37 (y2, y3, V) = some (r, Vr) → va_P D vwCl (cs_X8 kA a V) H → va_S A0 s.heap H locs → lv_has ls 4 [(0, .ref (a 0)), (1, vI x1), (2, vI y2), (3, vI y3)] → W p l e rmX8_lost s m args below meth c H locs 0 0 Q (F0 m 37 ls []) := by
    intro k37
    induction k37 with
    | zero => intro y2 y3 V H locs ls hf hP hS hl; exact lp_0 hf
    | succ k37 ih37 =>
      intro y2 y3 V H locs ls hf hP hS hl
      have hf := lp_s hf
      rw [bX8_lost_37_e] at hf
      have J78 : ∀ (y3 : Int) (V : Sz) (z0 : Int) (z1 : Int) (H : Heap) (locs : List Loc) (ls : Array Slot), jX8_lost_78 n x1 (lpF (bX8_lost_37 n x1) k37) y3 V z0 z1 = some (r, Vr) → va_P D vwCl (cs_X8 kA a V) H → va_S A0 s.heap H locs → lv_has ls 4 [(0, .ref (a 0)), (1, vI x1), (3, vI y3)] → W p l e rmX8_lost s m args below meth c H locs 0 0 Q (F0 m 78 ls [vI z0, vI z1]) := by
        intro y3 V z0 z1 H locs ls hf hP hS hl
        unfold jX8_lost_78 at hf
        refine ziadd hC.1 hC.2.1 dX8_lost_78 <| ?_
        refine ztopi (fun x_8 ex_8 => ?_)
        have hf := nm_at hf ex_8
        refine zistore_n (lv' := [(2, vI x_8), (0, .ref (a 0)), (1, vI x1), (3, vI y3)]) hC.1 hC.2.1 dX8_lost_79 rfl hl (by decide) rfl (fun ls hl => ?_)
        obtain ⟨x_9, ex_9⟩ : ∃ y : Int, y = y3 + 1 := ⟨_, rfl⟩
        have hf := nm_at hf ex_9
        refine ziinc (v := x_9) (lv' := [(3, vI x_9), (2, vI x_8), (0, .ref (a 0)), (1, vI x1)]) hC.1 hC.2.1 dX8_lost_80 hl (k := 3) rfl ex_9 (by decide) rfl (fun ls hl => ?_)
        exact lv_goto (tgt := 37) hC.1 hC.2.1 dX8_lost_83 (by decide) <| ih37 _ _ _ _ _ _ hf hP hS (lv_sub hl [2, 3, 1, 0] rfl)
      have J77 : ∀ (y3 : Int) (V : Sz) (z0 : Int) (H : Heap) (locs : List Loc) (ls : Array Slot), jX8_lost_77 n x1 (lpF (bX8_lost_37 n x1) k37) y3 V z0 = some (r, Vr) → va_P D vwCl (cs_X8 kA a V) H → va_S A0 s.heap H locs → lv_has ls 4 [(0, .ref (a 0)), (1, vI x1), (3, vI y3)] → W p l e rmX8_lost s m args below meth c H locs 0 0 Q (F0 m 77 ls [vI z0]) := by
        intro y3 V z0 H locs ls hf hP hS hl
        unfold jX8_lost_77 at hf
        exact ziconst hC.1 hC.2.1 dX8_lost_77 <| J78 _ _ _ _ _ _ _ hf hP hS (lv_sub hl [0, 1, 2] rfl)
      refine ziload_n hC.1 hC.2.1 dX8_lost_37 rfl (lv_at hl 3 rfl) <| zsipush hC.1 hC.2.1 dX8_lost_38 (by decide) <| ?_
      obtain ⟨hz_6, hf⟩ := ck_some hf
      refine zicmp_ge (tgt := 86) hC.1 hC.2.1 ⟨hz_6, (by decide)⟩ dX8_lost_41 (by decide) (fun hc => ?_) (fun hc => ?_)
      · have hf := it_t hf hc
        refine ziload_n hC.1 hC.2.1 dX8_lost_86 rfl (lv_at hl 2 rfl) <| ?_
        have hf := Option.some.inj hf
        simp only [Prod.mk.injEq] at hf
        exact hret (Int32.ofInt y2) _ _ _ _ (congrArg (fun z => some (vI z)) hf.1.symm) (by rw [← hf.2]; exact hP) hS dX8_lost_87
      · have hf := it_f hf hc
        refine ziload_n hC.1 hC.2.1 dX8_lost_44 rfl (lv_at hl 2 rfl) <| lv_aload_n hC.1 hC.2.1 dX8_lost_45 rfl (lv_at hl 0 rfl) <| ziload_n hC.1 hC.2.1 dX8_lost_46 rfl (lv_at hl 3 rfl) <| ?_
        obtain ⟨r_7, hu, hf⟩ := bd_some hf
        refine zcVP (As := [vI y3]) (rest := [vI y2]) hC hK (met_X8_isPart l D kA a V y3 hu) zwX8_124 hP (q0 := 0) rfl rfl rfl rfl hl.1 rfl (Nat.le_of_ble_eq_true rfl) ⟨Nat.le_of_ble_eq_true rfl, Nat.le_of_ble_eq_true rfl⟩ ⟨rfl, rfl⟩ ⟨Nat.le_refl _, Nat.le_refl _⟩ dX8_lost_47 <| zifb_eq (tgt := 77) hC.1 hC.2.1 dX8_lost_50 (by decide) (fun hc => ?_) (fun hc => ?_)
        · have hf := it_t hf hc
          exact J77 _ _ _ _ _ _ hf hP hS (lv_sub hl [0, 1, 3] rfl)
        · have hf := it_f hf hc
          refine lv_aload_n hC.1 hC.2.1 dX8_lost_53 rfl (lv_at hl 0 rfl) <| ziload_n hC.1 hC.2.1 dX8_lost_54 rfl (lv_at hl 3 rfl) <| ?_
          obtain ⟨r_10, hu, hf⟩ := bd_some hf
          refine zcVP (As := [vI y3]) (rest := [vI y2]) hC hK (met_X8_reasonOf l D kA a n V y3 hu) zwX8_284 hP (q0 := 0) rfl rfl rfl rfl hl.1 rfl (Nat.le_of_ble_eq_true rfl) ⟨Nat.le_of_ble_eq_true rfl, Nat.le_of_ble_eq_true rfl⟩ ⟨rfl, rfl⟩ ⟨Nat.le_refl _, Nat.le_refl _⟩ dX8_lost_55 <| ziload_n hC.1 hC.2.1 dX8_lost_58 rfl (lv_at hl 1 rfl) <| ?_
          obtain ⟨hz_11, hf⟩ := ck_some hf
          refine zicmp_ne (tgt := 77) hC.1 hC.2.1 ⟨hz_11.1, hz_11.2⟩ dX8_lost_59 (by decide) (fun hc => ?_) (fun hc => ?_)
          · have hf := it_f hf hc
            exact J77 _ _ _ _ _ _ hf hP hS (lv_sub hl [0, 1, 3] rfl)
          · have hf := it_t hf hc
            refine lv_aload_n hC.1 hC.2.1 dX8_lost_62 rfl (lv_at hl 0 rfl) <| ziload_n hC.1 hC.2.1 dX8_lost_63 rfl (lv_at hl 3 rfl) <| ?_
            obtain ⟨r_12, hu, hf⟩ := bd_some hf
            refine zcVP (As := [vI y3]) (rest := [vI y2]) hC hK (met_X8_full l D kA a V y3 hu) zwX8_97 hP (q0 := 0) rfl rfl rfl rfl hl.1 rfl (Nat.le_of_ble_eq_true rfl) ⟨Nat.le_of_ble_eq_true rfl, Nat.le_of_ble_eq_true rfl⟩ ⟨rfl, rfl⟩ ⟨Nat.le_refl _, Nat.le_refl _⟩ dX8_lost_64 <| lv_aload_n hC.1 hC.2.1 dX8_lost_67 rfl (lv_at hl 0 rfl) <| gfX8_37 hC hK hP (q0 := 0) rfl rfl dX8_lost_68 <| ziload_n hC.1 hC.2.1 dX8_lost_71 rfl (lv_at hl 3 rfl) <| ?_
            obtain ⟨hz_13, hf⟩ := ck_some hf
            exact jal hC hK hP (q0 := 10) rfl (Nat.le_of_ble_eq_true rfl) hz_13 rfl dX8_lost_72 <| zisub hC.1 hC.2.1 dX8_lost_73 <| lv_goto (tgt := 78) hC.1 hC.2.1 dX8_lost_74 (by decide) <| J78 _ _ _ _ _ _ _ hf hP hS (lv_sub hl [0, 1, 3] rfl)
  have J20 : ∀ (V : Sz) (z0 : Int) (H : Heap) (locs : List Loc) (ls : Array Slot), jX8_lost_20 n x1 V z0 = some (r, Vr) → va_P D vwCl (cs_X8 kA a V) H → va_S A0 s.heap H locs → lv_has ls 4 [(0, .ref (a 0)), (1, vI x1)] → W p l e rmX8_lost s m args below meth c H locs 0 0 Q (F0 m 20 ls [vI z0, .ref (a 0)]) := by
    intro V z0 H locs ls hf hP hS hl
    unfold jX8_lost_20 at hf
    refine ziconst hC.1 hC.2.1 dX8_lost_20 <| ?_
    obtain ⟨⟨r_3, V_4⟩, hu, hf⟩ := bd_some hf
    have hDc := hDt
    refine zcVZ (As := [vI z0, vI 1]) (rest := []) hC hK (met_X8_fails l D kA a V z0 1 hDc hu) zwX8_261 hS (zFsub (hD V) [0, 1, 2, 3, 4, 5, 6, 7, 8, 9, 10, 11, 12, 13, 14, 15, 16] rfl) hP (q0 := 0) rfl rfl rfl rfl hl.1 rfl (Nat.le_of_ble_eq_true rfl) ⟨Nat.le_of_ble_eq_true rfl, Nat.le_of_ble_eq_true rfl⟩ ⟨rfl, rfl⟩ ⟨Nat.le_refl _, Nat.le_refl _⟩ dX8_lost_21 (fun H locs hP1 hk1 hS => ?_)
    have hP : va_P D vwCl (cs_X8 kA a V_4) H := hP1
    refine zifb_eq (tgt := 29) hC.1 hC.2.1 dX8_lost_24 (by decide) (fun hc => ?_) (fun hc => ?_)
    · have hf := it_t hf hc
      refine lv_aload_n hC.1 hC.2.1 dX8_lost_29 rfl (lv_at hl 0 rfl) <| ?_
      obtain ⟨V_5, hu, hf⟩ := bd_some hf
      have hDc := hDt
      refine zcVZ (As := []) (rest := []) hC hK (met_X8_laysAid l D kA a n V_4 hDc hu) zwX8_121 hS (zFsub (hD V_4) [0, 1, 2, 3, 4, 5, 6, 7, 8, 9, 10, 11, 12, 13, 14, 15, 16] rfl) hP (q0 := 0) rfl rfl rfl rfl hl.1 rfl (Nat.le_of_ble_eq_true rfl) ⟨Nat.le_of_ble_eq_true rfl, Nat.le_of_ble_eq_true rfl⟩ ⟨rfl, rfl⟩ ⟨Nat.le_refl _, Nat.le_refl _⟩ dX8_lost_30 (fun H locs hP1 hk1 hS => ?_)
      have hP : va_P D vwCl (cs_X8 kA a V_5) H := hP1
      refine ziconst hC.1 hC.2.1 dX8_lost_33 <| zistore_n (lv' := [(2, vI 0), (0, .ref (a 0)), (1, vI x1)]) hC.1 hC.2.1 dX8_lost_34 rfl hl (by decide) rfl (fun ls hl => ?_)
      refine ziconst hC.1 hC.2.1 dX8_lost_35 <| zistore_n (lv' := [(3, vI 0), (2, vI 0), (0, .ref (a 0)), (1, vI x1)]) hC.1 hC.2.1 dX8_lost_36 rfl hl (by decide) rfl (fun ls hl => ?_)
      exact L37 n _ _ _ _ _ _ hf hP hS (lv_sub hl [2, 3, 1, 0] rfl)
    · have hf := it_f hf hc
      refine ziconst hC.1 hC.2.1 dX8_lost_27 <| ?_
      have hf := Option.some.inj hf
      simp only [Prod.mk.injEq] at hf
      exact hret (Int32.ofInt 0) _ _ _ _ (congrArg (fun z => some (vI z)) hf.1.symm) (by rw [← hf.2]; exact hP) hS dX8_lost_28
  refine lv_aload_n hC.1 hC.2.1 dX8_lost_0 rfl (lv_at hl 0 rfl) <| ziconst hC.1 hC.2.1 dX8_lost_1 <| ?_
  refine pfX8_65 hC hK hP (hD V0) hS (q0 := 0) rfl (Nat.le_of_ble_eq_true rfl) dX8_lost_2 (fun H locs hP hS => ?_)
  obtain ⟨V_1, eV_1⟩ : ∃ y, y = us V0 9 0 := ⟨_, rfl⟩
  have hf := nm_at hf eV_1
  have hP : va_P D vwCl (cs_X8 kA a V_1) H := by rw [eV_1]; exact hP
  refine lv_aload_n hC.1 hC.2.1 dX8_lost_5 rfl (lv_at hl 0 rfl) <| ziload_n hC.1 hC.2.1 dX8_lost_6 rfl (lv_at hl 1 rfl) <| ziconst hC.1 hC.2.1 dX8_lost_7 <| ziconst hC.1 hC.2.1 dX8_lost_8 <| ?_
  obtain ⟨r_2, hu, hf⟩ := bd_some hf
  have hPc : va_P D vwCl ([] : va_W) _ := hP.sub [] rfl
  refine zcSP (As := [vI x1, vI 1, vI 5]) (rest := [.ref (a 0)]) hC hK (met_X8_inRange l D kA x1 1 5 hu) zwX8_79 hPc rfl hl.1 rfl (Nat.le_of_ble_eq_true rfl) ⟨Nat.le_of_ble_eq_true rfl, Nat.le_of_ble_eq_true rfl⟩ ⟨rfl, rfl⟩ ⟨Nat.le_refl _, Nat.le_refl _⟩ dX8_lost_9 <| zifb_ne (tgt := 19) hC.1 hC.2.1 dX8_lost_12 (by decide) (fun hc => ?_) (fun hc => ?_)
  · have hf := it_t hf hc
    exact ziconst hC.1 hC.2.1 dX8_lost_19 <| J20 _ _ _ _ _ hf hP hS (lv_sub hl [0, 1] rfl)
  · have hf := it_f hf hc
    exact ziconst hC.1 hC.2.1 dX8_lost_15 <| lv_goto (tgt := 20) hC.1 hC.2.1 dX8_lost_16 (by decide) <| J20 _ _ _ _ _ hf hP hS (lv_sub hl [0, 1] rfl)
theorem DX8_mostUrgent_0 : ∀ q ∈ ([(0, .aload_n 0, 1), (1, .iconst 0, 1), (2, .putfield 65, 3), (5, .aload_n 0, 1), (6, .invokevirtual 121, 3), (9, .iconst (-1), 1), (10, .istore_n 1, 1), (11, .iconst 0, 1), (12, .istore_n 2, 1), (13, .iconst 0, 1), (14, .istore_n 3, 1), (15, .iload_n 3, 1), (16, .sipush 180, 3), (19, .if_icmp .ge 71, 3), (22, .aload_n 0, 1), (23, .iload_n 3, 1), (24, .invokevirtual 124, 3), (27, .ifCond .eq 57, 3), (30, .aload_n 0, 1), (31, .iload_n 3, 1), (32, .invokevirtual 329, 3), (35, .ifCond .ne 6, 3), (38, .goto 46, 3), (41, .sipush 9999, 3), (44, .aload_n 0, 1), (45, .iload_n 3, 1), (46, .invokevirtual 83, 3), (49, .aload_n 0, 1), (50, .getfield 7, 3), (53, .bipush 6, 2), (55, .iaload, 1), (56, .iadd, 1), (57, .invokestatic 113, 3), (60, .istore 4, 2), (62, .iload_n 1, 1), (63, .iconst (-1), 1), (64, .if_icmp .eq 12, 3), (67, .iload 4, 2), (69, .iload_n 2, 1), (70, .if_icmp .lt 6, 3)] : List (Nat × Instr × Nat)), decode cX8_mostUrgent q.1 = .ok q.2 := by decide +kernel
theorem dX8_mostUrgent_0 : decode cX8_mostUrgent 0 = .ok (.aload_n 0, 1) := DX8_mostUrgent_0 (0, .aload_n 0, 1) (List.mem_of_getElem? (i := 0) rfl)
theorem dX8_mostUrgent_1 : decode cX8_mostUrgent 1 = .ok (.iconst 0, 1) := DX8_mostUrgent_0 (1, .iconst 0, 1) (List.mem_of_getElem? (i := 1) rfl)
theorem dX8_mostUrgent_2 : decode cX8_mostUrgent 2 = .ok (.putfield 65, 3) := DX8_mostUrgent_0 (2, .putfield 65, 3) (List.mem_of_getElem? (i := 2) rfl)
theorem dX8_mostUrgent_5 : decode cX8_mostUrgent 5 = .ok (.aload_n 0, 1) := DX8_mostUrgent_0 (5, .aload_n 0, 1) (List.mem_of_getElem? (i := 3) rfl)
theorem dX8_mostUrgent_6 : decode cX8_mostUrgent 6 = .ok (.invokevirtual 121, 3) := DX8_mostUrgent_0 (6, .invokevirtual 121, 3) (List.mem_of_getElem? (i := 4) rfl)
theorem dX8_mostUrgent_9 : decode cX8_mostUrgent 9 = .ok (.iconst (-1), 1) := DX8_mostUrgent_0 (9, .iconst (-1), 1) (List.mem_of_getElem? (i := 5) rfl)
theorem dX8_mostUrgent_10 : decode cX8_mostUrgent 10 = .ok (.istore_n 1, 1) := DX8_mostUrgent_0 (10, .istore_n 1, 1) (List.mem_of_getElem? (i := 6) rfl)
theorem dX8_mostUrgent_11 : decode cX8_mostUrgent 11 = .ok (.iconst 0, 1) := DX8_mostUrgent_0 (11, .iconst 0, 1) (List.mem_of_getElem? (i := 7) rfl)
theorem dX8_mostUrgent_12 : decode cX8_mostUrgent 12 = .ok (.istore_n 2, 1) := DX8_mostUrgent_0 (12, .istore_n 2, 1) (List.mem_of_getElem? (i := 8) rfl)
theorem dX8_mostUrgent_13 : decode cX8_mostUrgent 13 = .ok (.iconst 0, 1) := DX8_mostUrgent_0 (13, .iconst 0, 1) (List.mem_of_getElem? (i := 9) rfl)
theorem dX8_mostUrgent_14 : decode cX8_mostUrgent 14 = .ok (.istore_n 3, 1) := DX8_mostUrgent_0 (14, .istore_n 3, 1) (List.mem_of_getElem? (i := 10) rfl)
theorem dX8_mostUrgent_15 : decode cX8_mostUrgent 15 = .ok (.iload_n 3, 1) := DX8_mostUrgent_0 (15, .iload_n 3, 1) (List.mem_of_getElem? (i := 11) rfl)
theorem dX8_mostUrgent_16 : decode cX8_mostUrgent 16 = .ok (.sipush 180, 3) := DX8_mostUrgent_0 (16, .sipush 180, 3) (List.mem_of_getElem? (i := 12) rfl)
theorem dX8_mostUrgent_19 : decode cX8_mostUrgent 19 = .ok (.if_icmp .ge 71, 3) := DX8_mostUrgent_0 (19, .if_icmp .ge 71, 3) (List.mem_of_getElem? (i := 13) rfl)
theorem dX8_mostUrgent_22 : decode cX8_mostUrgent 22 = .ok (.aload_n 0, 1) := DX8_mostUrgent_0 (22, .aload_n 0, 1) (List.mem_of_getElem? (i := 14) rfl)
theorem dX8_mostUrgent_23 : decode cX8_mostUrgent 23 = .ok (.iload_n 3, 1) := DX8_mostUrgent_0 (23, .iload_n 3, 1) (List.mem_of_getElem? (i := 15) rfl)
theorem dX8_mostUrgent_24 : decode cX8_mostUrgent 24 = .ok (.invokevirtual 124, 3) := DX8_mostUrgent_0 (24, .invokevirtual 124, 3) (List.mem_of_getElem? (i := 16) rfl)
theorem dX8_mostUrgent_27 : decode cX8_mostUrgent 27 = .ok (.ifCond .eq 57, 3) := DX8_mostUrgent_0 (27, .ifCond .eq 57, 3) (List.mem_of_getElem? (i := 17) rfl)
theorem dX8_mostUrgent_30 : decode cX8_mostUrgent 30 = .ok (.aload_n 0, 1) := DX8_mostUrgent_0 (30, .aload_n 0, 1) (List.mem_of_getElem? (i := 18) rfl)
theorem dX8_mostUrgent_31 : decode cX8_mostUrgent 31 = .ok (.iload_n 3, 1) := DX8_mostUrgent_0 (31, .iload_n 3, 1) (List.mem_of_getElem? (i := 19) rfl)
theorem dX8_mostUrgent_32 : decode cX8_mostUrgent 32 = .ok (.invokevirtual 329, 3) := DX8_mostUrgent_0 (32, .invokevirtual 329, 3) (List.mem_of_getElem? (i := 20) rfl)
theorem dX8_mostUrgent_35 : decode cX8_mostUrgent 35 = .ok (.ifCond .ne 6, 3) := DX8_mostUrgent_0 (35, .ifCond .ne 6, 3) (List.mem_of_getElem? (i := 21) rfl)
theorem dX8_mostUrgent_38 : decode cX8_mostUrgent 38 = .ok (.goto 46, 3) := DX8_mostUrgent_0 (38, .goto 46, 3) (List.mem_of_getElem? (i := 22) rfl)
theorem dX8_mostUrgent_41 : decode cX8_mostUrgent 41 = .ok (.sipush 9999, 3) := DX8_mostUrgent_0 (41, .sipush 9999, 3) (List.mem_of_getElem? (i := 23) rfl)
theorem dX8_mostUrgent_44 : decode cX8_mostUrgent 44 = .ok (.aload_n 0, 1) := DX8_mostUrgent_0 (44, .aload_n 0, 1) (List.mem_of_getElem? (i := 24) rfl)
theorem dX8_mostUrgent_45 : decode cX8_mostUrgent 45 = .ok (.iload_n 3, 1) := DX8_mostUrgent_0 (45, .iload_n 3, 1) (List.mem_of_getElem? (i := 25) rfl)
theorem dX8_mostUrgent_46 : decode cX8_mostUrgent 46 = .ok (.invokevirtual 83, 3) := DX8_mostUrgent_0 (46, .invokevirtual 83, 3) (List.mem_of_getElem? (i := 26) rfl)
theorem dX8_mostUrgent_49 : decode cX8_mostUrgent 49 = .ok (.aload_n 0, 1) := DX8_mostUrgent_0 (49, .aload_n 0, 1) (List.mem_of_getElem? (i := 27) rfl)
theorem dX8_mostUrgent_50 : decode cX8_mostUrgent 50 = .ok (.getfield 7, 3) := DX8_mostUrgent_0 (50, .getfield 7, 3) (List.mem_of_getElem? (i := 28) rfl)
theorem dX8_mostUrgent_53 : decode cX8_mostUrgent 53 = .ok (.bipush 6, 2) := DX8_mostUrgent_0 (53, .bipush 6, 2) (List.mem_of_getElem? (i := 29) rfl)
theorem dX8_mostUrgent_55 : decode cX8_mostUrgent 55 = .ok (.iaload, 1) := DX8_mostUrgent_0 (55, .iaload, 1) (List.mem_of_getElem? (i := 30) rfl)
theorem dX8_mostUrgent_56 : decode cX8_mostUrgent 56 = .ok (.iadd, 1) := DX8_mostUrgent_0 (56, .iadd, 1) (List.mem_of_getElem? (i := 31) rfl)
theorem dX8_mostUrgent_57 : decode cX8_mostUrgent 57 = .ok (.invokestatic 113, 3) := DX8_mostUrgent_0 (57, .invokestatic 113, 3) (List.mem_of_getElem? (i := 32) rfl)
theorem dX8_mostUrgent_60 : decode cX8_mostUrgent 60 = .ok (.istore 4, 2) := DX8_mostUrgent_0 (60, .istore 4, 2) (List.mem_of_getElem? (i := 33) rfl)
theorem dX8_mostUrgent_62 : decode cX8_mostUrgent 62 = .ok (.iload_n 1, 1) := DX8_mostUrgent_0 (62, .iload_n 1, 1) (List.mem_of_getElem? (i := 34) rfl)
theorem dX8_mostUrgent_63 : decode cX8_mostUrgent 63 = .ok (.iconst (-1), 1) := DX8_mostUrgent_0 (63, .iconst (-1), 1) (List.mem_of_getElem? (i := 35) rfl)
theorem dX8_mostUrgent_64 : decode cX8_mostUrgent 64 = .ok (.if_icmp .eq 12, 3) := DX8_mostUrgent_0 (64, .if_icmp .eq 12, 3) (List.mem_of_getElem? (i := 36) rfl)
theorem dX8_mostUrgent_67 : decode cX8_mostUrgent 67 = .ok (.iload 4, 2) := DX8_mostUrgent_0 (67, .iload 4, 2) (List.mem_of_getElem? (i := 37) rfl)
theorem dX8_mostUrgent_69 : decode cX8_mostUrgent 69 = .ok (.iload_n 2, 1) := DX8_mostUrgent_0 (69, .iload_n 2, 1) (List.mem_of_getElem? (i := 38) rfl)
theorem dX8_mostUrgent_70 : decode cX8_mostUrgent 70 = .ok (.if_icmp .lt 6, 3) := DX8_mostUrgent_0 (70, .if_icmp .lt 6, 3) (List.mem_of_getElem? (i := 39) rfl)
theorem DX8_mostUrgent_1 : ∀ q ∈ ([(73, .goto 11, 3), (76, .iload_n 3, 1), (77, .invokestatic 75, 3), (80, .istore_n 1, 1), (81, .iload 4, 2), (83, .istore_n 2, 1), (84, .iinc 3 1, 3), (87, .goto (-72), 3), (90, .iload_n 1, 1), (91, .ireturn, 1)] : List (Nat × Instr × Nat)), decode cX8_mostUrgent q.1 = .ok q.2 := by decide +kernel
theorem dX8_mostUrgent_73 : decode cX8_mostUrgent 73 = .ok (.goto 11, 3) := DX8_mostUrgent_1 (73, .goto 11, 3) (List.mem_of_getElem? (i := 0) rfl)
theorem dX8_mostUrgent_76 : decode cX8_mostUrgent 76 = .ok (.iload_n 3, 1) := DX8_mostUrgent_1 (76, .iload_n 3, 1) (List.mem_of_getElem? (i := 1) rfl)
theorem dX8_mostUrgent_77 : decode cX8_mostUrgent 77 = .ok (.invokestatic 75, 3) := DX8_mostUrgent_1 (77, .invokestatic 75, 3) (List.mem_of_getElem? (i := 2) rfl)
theorem dX8_mostUrgent_80 : decode cX8_mostUrgent 80 = .ok (.istore_n 1, 1) := DX8_mostUrgent_1 (80, .istore_n 1, 1) (List.mem_of_getElem? (i := 3) rfl)
theorem dX8_mostUrgent_81 : decode cX8_mostUrgent 81 = .ok (.iload 4, 2) := DX8_mostUrgent_1 (81, .iload 4, 2) (List.mem_of_getElem? (i := 4) rfl)
theorem dX8_mostUrgent_83 : decode cX8_mostUrgent 83 = .ok (.istore_n 2, 1) := DX8_mostUrgent_1 (83, .istore_n 2, 1) (List.mem_of_getElem? (i := 5) rfl)
theorem dX8_mostUrgent_84 : decode cX8_mostUrgent 84 = .ok (.iinc 3 1, 3) := DX8_mostUrgent_1 (84, .iinc 3 1, 3) (List.mem_of_getElem? (i := 6) rfl)
theorem dX8_mostUrgent_87 : decode cX8_mostUrgent 87 = .ok (.goto (-72), 3) := DX8_mostUrgent_1 (87, .goto (-72), 3) (List.mem_of_getElem? (i := 7) rfl)
theorem dX8_mostUrgent_90 : decode cX8_mostUrgent 90 = .ok (.iload_n 1, 1) := DX8_mostUrgent_1 (90, .iload_n 1, 1) (List.mem_of_getElem? (i := 8) rfl)
theorem dX8_mostUrgent_91 : decode cX8_mostUrgent 91 = .ok (.ireturn, 1) := DX8_mostUrgent_1 (91, .ireturn, 1) (List.mem_of_getElem? (i := 9) rfl)
abbrev rmX8_mostUrgent : Room := { frames := 4, cells := 0, slots := 0, locals := 90 }
set_option maxHeartbeats 400000 in
set_option maxRecDepth 100000 in
theorem met_X8_mostUrgent (l : Launch) (D : va_G) (kA : Nat → ClassId) (a : Nat → Nat) (n : Nat) (V0 : Sz) (hDt : ∀ w : Sz, va_D (fun _ => True) (cs_X8 kA a w)) {r : Int} {Vr : Sz} (hf : f_X8_mostUrgent n V0 = some (r, Vr)) : MZ l yX8_mostUrgent cX8_mostUrgent 5 (some .int) rmX8_mostUrgent D kA [.ref (a 0)] (cs_X8 kA a V0) (cs_X8 kA a Vr) (some (vI r)) := by
  refine zZI (own := RX8) rfl rfl (Nat.le_of_ble_eq_true rfl) ?_
  intro p e s m args below meth c ls Q hC hK hP hl hret
  have hl : lv_has ls 5 [(0, .ref (a 0))] := hl
  have hS : va_S (zF (cs_X8 kA a V0)) s.heap s.heap [] := va_S.rf
  have hD := zDself (C := fun w : Sz => (cs_X8 kA a w)) hDt V0 (fun _ => rfl)
  try dsimp only at hD
  generalize hAe : zF (cs_X8 kA a V0) = A0 at hS hD hret
  unfold f_X8_mostUrgent at hf
  have L15 : ∀ (k15 : Nat) (y1 : Int) (y2 : Int) (y3 : Int) (V : Sz) (H : Heap) (locs : List Loc) (ls : Array Slot), lpF (bX8_mostUrgent_15 n) k15 (y1, y2, y3, V) = some (r, Vr) → va_P D vwCl (cs_X8 kA a V) H → va_S A0 s.heap H locs → lv_has ls 5 [(0, .ref (a 0)), (1, vI y1), (2, vI y2), (3, vI y3)] → W p l e rmX8_mostUrgent s m args below meth c H locs 0 0 Q (F0 m 15 ls []) := by
    intro k15
    induction k15 with
    | zero => intro y1 y2 y3 V H locs ls hf hP hS hl; exact lp_0 hf
    | succ k15 ih15 =>
      intro y1 y2 y3 V H locs ls hf hP hS hl
      have hf := lp_s hf
      rw [bX8_mostUrgent_15_e] at hf
      have J84 : ∀ (y1 : Int) (y2 : Int) (y3 : Int) (V : Sz) (H : Heap) (locs : List Loc) (ls : Array Slot), jX8_mostUrgent_84 n (lpF (bX8_mostUrgent_15 n) k15) y1 y2 y3 V = some (r, Vr) → va_P D vwCl (cs_X8 kA a V) H → va_S A0 s.heap H locs → lv_has ls 5 [(0, .ref (a 0)), (1, vI y1), (2, vI y2), (3, vI y3)] → W p l e rmX8_mostUrgent s m args below meth c H locs 0 0 Q (F0 m 84 ls []) := by
        intro y1 y2 y3 V H locs ls hf hP hS hl
        unfold jX8_mostUrgent_84 at hf
        obtain ⟨x_5, ex_5⟩ : ∃ y : Int, y = y3 + 1 := ⟨_, rfl⟩
        have hf := nm_at hf ex_5
        refine ziinc (v := x_5) (lv' := [(3, vI x_5), (0, .ref (a 0)), (1, vI y1), (2, vI y2)]) hC.1 hC.2.1 dX8_mostUrgent_84 hl (k := 3) rfl ex_5 (by decide) rfl (fun ls hl => ?_)
        exact lv_goto (tgt := 15) hC.1 hC.2.1 dX8_mostUrgent_87 (by decide) <| ih15 _ _ _ _ _ _ _ hf hP hS (lv_sub hl [1, 2, 3, 0] rfl)
      have J76 : ∀ (y3 : Int) (y4 : Int) (V : Sz) (H : Heap) (locs : List Loc) (ls : Array Slot), jX8_mostUrgent_76 n (lpF (bX8_mostUrgent_15 n) k15) y3 y4 V = some (r, Vr) → va_P D vwCl (cs_X8 kA a V) H → va_S A0 s.heap H locs → lv_has ls 5 [(0, .ref (a 0)), (3, vI y3), (4, vI y4)] → W p l e rmX8_mostUrgent s m args below meth c H locs 0 0 Q (F0 m 76 ls []) := by
        intro y3 y4 V H locs ls hf hP hS hl
        unfold jX8_mostUrgent_76 at hf
        refine ziload_n hC.1 hC.2.1 dX8_mostUrgent_76 rfl (lv_at hl 1 rfl) <| ?_
        obtain ⟨r_12, hu, hf⟩ := bd_some hf
        have hPc : va_P D vwCl ([] : va_W) _ := hP.sub [] rfl
        refine zcSP (As := [vI y3]) (rest := []) hC hK (met_X8_giftOf l D kA y3 hu) zwX8_75 hPc rfl hl.1 rfl (Nat.le_of_ble_eq_true rfl) ⟨Nat.le_of_ble_eq_true rfl, Nat.le_of_ble_eq_true rfl⟩ ⟨rfl, rfl⟩ ⟨Nat.le_refl _, Nat.le_refl _⟩ dX8_mostUrgent_77 <| zistore_n (lv' := [(1, vI r_12), (0, .ref (a 0)), (3, vI y3), (4, vI y4)]) hC.1 hC.2.1 dX8_mostUrgent_80 rfl hl (by decide) rfl (fun ls hl => ?_)
        refine ziload hC.1 hC.2.1 dX8_mostUrgent_81 (lv_at hl 3 rfl) <| zistore_n (lv' := [(2, vI y4), (1, vI r_12), (0, .ref (a 0)), (3, vI y3), (4, vI y4)]) hC.1 hC.2.1 dX8_mostUrgent_83 rfl hl (by decide) rfl (fun ls hl => ?_)
        exact J84 _ _ _ _ _ _ _ hf hP hS (lv_sub hl [2, 1, 0, 3] rfl)
      refine ziload_n hC.1 hC.2.1 dX8_mostUrgent_15 rfl (lv_at hl 3 rfl) <| zsipush hC.1 hC.2.1 dX8_mostUrgent_16 (by decide) <| ?_
      obtain ⟨hz_3, hf⟩ := ck_some hf
      refine zicmp_ge (tgt := 90) hC.1 hC.2.1 ⟨hz_3, (by decide)⟩ dX8_mostUrgent_19 (by decide) (fun hc => ?_) (fun hc => ?_)
      · have hf := it_t hf hc
        refine ziload_n hC.1 hC.2.1 dX8_mostUrgent_90 rfl (lv_at hl 1 rfl) <| ?_
        have hf := Option.some.inj hf
        simp only [Prod.mk.injEq] at hf
        exact hret (Int32.ofInt y1) _ _ _ _ (congrArg (fun z => some (vI z)) hf.1.symm) (by rw [← hf.2]; exact hP) hS dX8_mostUrgent_91
      · have hf := it_f hf hc
        refine lv_aload_n hC.1 hC.2.1 dX8_mostUrgent_22 rfl (lv_at hl 0 rfl) <| ziload_n hC.1 hC.2.1 dX8_mostUrgent_23 rfl (lv_at hl 3 rfl) <| ?_
        obtain ⟨r_4, hu, hf⟩ := bd_some hf
        refine zcVP (As := [vI y3]) (rest := []) hC hK (met_X8_isPart l D kA a V y3 hu) zwX8_124 hP (q0 := 0) rfl rfl rfl rfl hl.1 rfl (Nat.le_of_ble_eq_true rfl) ⟨Nat.le_of_ble_eq_true rfl, Nat.le_of_ble_eq_true rfl⟩ ⟨rfl, rfl⟩ ⟨Nat.le_refl _, Nat.le_refl _⟩ dX8_mostUrgent_24 <| zifb_eq (tgt := 84) hC.1 hC.2.1 dX8_mostUrgent_27 (by decide) (fun hc => ?_) (fun hc => ?_)
        · have hf := it_t hf hc
          exact J84 _ _ _ _ _ _ _ hf hP hS (lv_sub hl [0, 1, 2, 3] rfl)
        · have hf := it_f hf hc
          refine lv_aload_n hC.1 hC.2.1 dX8_mostUrgent_30 rfl (lv_at hl 0 rfl) <| ziload_n hC.1 hC.2.1 dX8_mostUrgent_31 rfl (lv_at hl 3 rfl) <| ?_
          obtain ⟨r_6, hu, hf⟩ := bd_some hf
          refine zcVP (As := [vI y3]) (rest := []) hC hK (met_X8_under l D kA a V y3 hu) zwX8_329 hP (q0 := 0) rfl rfl rfl rfl hl.1 rfl (Nat.le_of_ble_eq_true rfl) ⟨Nat.le_of_ble_eq_true rfl, Nat.le_of_ble_eq_true rfl⟩ ⟨rfl, rfl⟩ ⟨Nat.le_refl _, Nat.le_refl _⟩ dX8_mostUrgent_32 <| ?_
          obtain ⟨hz_7, hf⟩ := ck_some hf
          refine zif_ne (tgt := 41) hC.1 hC.2.1 hz_7 dX8_mostUrgent_35 (by decide) (fun hc => ?_) (fun hc => ?_)
          · have hf := it_f hf hc
            refine zsipush hC.1 hC.2.1 dX8_mostUrgent_41 (by decide) <| lv_aload_n hC.1 hC.2.1 dX8_mostUrgent_44 rfl (lv_at hl 0 rfl) <| ziload_n hC.1 hC.2.1 dX8_mostUrgent_45 rfl (lv_at hl 3 rfl) <| ?_
            obtain ⟨r_8, hu, hf⟩ := bd_some hf
            refine zcVP (As := [vI y3]) (rest := [vI 9999]) hC hK (met_X8_dayOf l D kA a V y3 hu) zwX8_83 hP (q0 := 0) rfl rfl rfl rfl hl.1 rfl (Nat.le_of_ble_eq_true rfl) ⟨Nat.le_of_ble_eq_true rfl, Nat.le_of_ble_eq_true rfl⟩ ⟨rfl, rfl⟩ ⟨Nat.le_refl _, Nat.le_refl _⟩ dX8_mostUrgent_46 <| lv_aload_n hC.1 hC.2.1 dX8_mostUrgent_49 rfl (lv_at hl 0 rfl) <| gfX8_7 hC hK hP (q0 := 0) rfl rfl dX8_mostUrgent_50 <| zbipush hC.1 hC.2.1 dX8_mostUrgent_53 (by decide) <| jal hC hK hP (q0 := 1) rfl (Nat.le_of_ble_eq_true rfl) (by decide) rfl dX8_mostUrgent_55 <| ziadd hC.1 hC.2.1 dX8_mostUrgent_56 <| ?_
            obtain ⟨hz_9, hf⟩ := ck_some hf
            refine jmin ⟨(by decide), hz_9⟩ hC qw_1562 hl.1 (Nat.le_of_ble_eq_true rfl) ⟨Nat.le_of_ble_eq_true rfl, Nat.le_of_ble_eq_true rfl⟩ ⟨Nat.le_refl _, Nat.le_refl _⟩ dX8_mostUrgent_57 <| ?_
            refine ztopi (fun x_10 ex_10 => ?_)
            have hf := nm_at hf ex_10
            refine zistore (lv' := [(4, vI x_10), (0, .ref (a 0)), (1, vI y1), (2, vI y2), (3, vI y3)]) hC.1 hC.2.1 dX8_mostUrgent_60 hl (by decide) rfl (fun ls hl => ?_)
            refine ziload_n hC.1 hC.2.1 dX8_mostUrgent_62 rfl (lv_at hl 2 rfl) <| ziconst hC.1 hC.2.1 dX8_mostUrgent_63 <| ?_
            obtain ⟨hz_11, hf⟩ := ck_some hf
            refine zicmp_eq (tgt := 76) hC.1 hC.2.1 ⟨hz_11, (by decide)⟩ dX8_mostUrgent_64 (by decide) (fun hc => ?_) (fun hc => ?_)
            · have hf := it_t hf hc
              exact J76 _ _ _ _ _ _ hf hP hS (lv_sub hl [1, 4, 0] rfl)
            · have hf := it_f hf hc
              refine ziload hC.1 hC.2.1 dX8_mostUrgent_67 (lv_at hl 0 rfl) <| ziload_n hC.1 hC.2.1 dX8_mostUrgent_69 rfl (lv_at hl 3 rfl) <| ?_
              obtain ⟨hz_13, hf⟩ := ck_some hf
              refine zicmp_lt (tgt := 76) hC.1 hC.2.1 ⟨hz_13.1, hz_13.2⟩ dX8_mostUrgent_70 (by decide) (fun hc => ?_) (fun hc => ?_)
              · have hf := it_t hf hc
                exact J76 _ _ _ _ _ _ hf hP hS (lv_sub hl [1, 4, 0] rfl)
              · have hf := it_f hf hc
                exact lv_goto (tgt := 84) hC.1 hC.2.1 dX8_mostUrgent_73 (by decide) <| J84 _ _ _ _ _ _ _ hf hP hS (lv_sub hl [1, 2, 3, 4] rfl)
          · have hf := it_t hf hc
            exact lv_goto (tgt := 84) hC.1 hC.2.1 dX8_mostUrgent_38 (by decide) <| J84 _ _ _ _ _ _ _ hf hP hS (lv_sub hl [0, 1, 2, 3] rfl)
  refine lv_aload_n hC.1 hC.2.1 dX8_mostUrgent_0 rfl (lv_at hl 0 rfl) <| ziconst hC.1 hC.2.1 dX8_mostUrgent_1 <| ?_
  refine pfX8_65 hC hK hP (hD V0) hS (q0 := 0) rfl (Nat.le_of_ble_eq_true rfl) dX8_mostUrgent_2 (fun H locs hP hS => ?_)
  obtain ⟨V_1, eV_1⟩ : ∃ y, y = us V0 9 0 := ⟨_, rfl⟩
  have hf := nm_at hf eV_1
  have hP : va_P D vwCl (cs_X8 kA a V_1) H := by rw [eV_1]; exact hP
  refine lv_aload_n hC.1 hC.2.1 dX8_mostUrgent_5 rfl (lv_at hl 0 rfl) <| ?_
  obtain ⟨V_2, hu, hf⟩ := bd_some hf
  have hDc := hDt
  refine zcVZ (As := []) (rest := []) hC hK (met_X8_laysAid l D kA a n V_1 hDc hu) zwX8_121 hS (zFsub (hD V_1) [0, 1, 2, 3, 4, 5, 6, 7, 8, 9, 10, 11, 12, 13, 14, 15, 16] rfl) hP (q0 := 0) rfl rfl rfl rfl hl.1 rfl (Nat.le_of_ble_eq_true rfl) ⟨Nat.le_of_ble_eq_true rfl, Nat.le_of_ble_eq_true rfl⟩ ⟨rfl, rfl⟩ ⟨Nat.le_refl _, Nat.le_refl _⟩ dX8_mostUrgent_6 (fun H locs hP1 hk1 hS => ?_)
  have hP : va_P D vwCl (cs_X8 kA a V_2) H := hP1
  refine ziconst hC.1 hC.2.1 dX8_mostUrgent_9 <| zistore_n (lv' := [(1, vI (-1)), (0, .ref (a 0))]) hC.1 hC.2.1 dX8_mostUrgent_10 rfl hl (by decide) rfl (fun ls hl => ?_)
  refine ziconst hC.1 hC.2.1 dX8_mostUrgent_11 <| zistore_n (lv' := [(2, vI 0), (1, vI (-1)), (0, .ref (a 0))]) hC.1 hC.2.1 dX8_mostUrgent_12 rfl hl (by decide) rfl (fun ls hl => ?_)
  refine ziconst hC.1 hC.2.1 dX8_mostUrgent_13 <| zistore_n (lv' := [(3, vI 0), (2, vI 0), (1, vI (-1)), (0, .ref (a 0))]) hC.1 hC.2.1 dX8_mostUrgent_14 rfl hl (by decide) rfl (fun ls hl => ?_)
  exact L15 n _ _ _ _ _ _ _ hf hP hS (lv_sub hl [3, 2, 1, 0] rfl)
theorem DX8_limitedYears_0 : ∀ q ∈ ([(0, .aload_n 0, 1), (1, .iload_n 1, 1), (2, .invokevirtual 287, 3), (5, .ifCond .eq 5, 3), (8, .iconst 0, 1), (9, .ireturn, 1), (10, .aload_n 0, 1), (11, .invokevirtual 121, 3), (14, .iconst 0, 1), (15, .istore_n 2, 1), (16, .iconst 0, 1), (17, .istore_n 3, 1), (18, .iload_n 3, 1), (19, .bipush 28, 2), (21, .if_icmp .ge 34, 3), (24, .iload_n 2, 1), (25, .aload_n 0, 1), (26, .iload_n 1, 1), (27, .iconst 2, 1), (28, .iload_n 3, 1), (29, .invokevirtual 290, 3), (32, .aload_n 0, 1), (33, .iload_n 1, 1), (34, .iconst 1, 1), (35, .iload_n 3, 1), (36, .invokevirtual 290, 3), (39, .if_icmp .ge 7, 3), (42, .iconst 1, 1), (43, .goto 4, 3), (46, .iconst 0, 1), (47, .iadd, 1), (48, .istore_n 2, 1), (49, .iinc 3 1, 3), (52, .goto (-34), 3), (55, .iload_n 2, 1), (56, .ireturn, 1)] : List (Nat × Instr × Nat)), decode cX8_limitedYears q.1 = .ok q.2 := by decide +kernel
theorem dX8_limitedYears_0 : decode cX8_limitedYears 0 = .ok (.aload_n 0, 1) := DX8_limitedYears_0 (0, .aload_n 0, 1) (List.mem_of_getElem? (i := 0) rfl)
theorem dX8_limitedYears_1 : decode cX8_limitedYears 1 = .ok (.iload_n 1, 1) := DX8_limitedYears_0 (1, .iload_n 1, 1) (List.mem_of_getElem? (i := 1) rfl)
theorem dX8_limitedYears_2 : decode cX8_limitedYears 2 = .ok (.invokevirtual 287, 3) := DX8_limitedYears_0 (2, .invokevirtual 287, 3) (List.mem_of_getElem? (i := 2) rfl)
theorem dX8_limitedYears_5 : decode cX8_limitedYears 5 = .ok (.ifCond .eq 5, 3) := DX8_limitedYears_0 (5, .ifCond .eq 5, 3) (List.mem_of_getElem? (i := 3) rfl)
theorem dX8_limitedYears_8 : decode cX8_limitedYears 8 = .ok (.iconst 0, 1) := DX8_limitedYears_0 (8, .iconst 0, 1) (List.mem_of_getElem? (i := 4) rfl)
theorem dX8_limitedYears_9 : decode cX8_limitedYears 9 = .ok (.ireturn, 1) := DX8_limitedYears_0 (9, .ireturn, 1) (List.mem_of_getElem? (i := 5) rfl)
theorem dX8_limitedYears_10 : decode cX8_limitedYears 10 = .ok (.aload_n 0, 1) := DX8_limitedYears_0 (10, .aload_n 0, 1) (List.mem_of_getElem? (i := 6) rfl)
theorem dX8_limitedYears_11 : decode cX8_limitedYears 11 = .ok (.invokevirtual 121, 3) := DX8_limitedYears_0 (11, .invokevirtual 121, 3) (List.mem_of_getElem? (i := 7) rfl)
theorem dX8_limitedYears_14 : decode cX8_limitedYears 14 = .ok (.iconst 0, 1) := DX8_limitedYears_0 (14, .iconst 0, 1) (List.mem_of_getElem? (i := 8) rfl)
theorem dX8_limitedYears_15 : decode cX8_limitedYears 15 = .ok (.istore_n 2, 1) := DX8_limitedYears_0 (15, .istore_n 2, 1) (List.mem_of_getElem? (i := 9) rfl)
theorem dX8_limitedYears_16 : decode cX8_limitedYears 16 = .ok (.iconst 0, 1) := DX8_limitedYears_0 (16, .iconst 0, 1) (List.mem_of_getElem? (i := 10) rfl)
theorem dX8_limitedYears_17 : decode cX8_limitedYears 17 = .ok (.istore_n 3, 1) := DX8_limitedYears_0 (17, .istore_n 3, 1) (List.mem_of_getElem? (i := 11) rfl)
theorem dX8_limitedYears_18 : decode cX8_limitedYears 18 = .ok (.iload_n 3, 1) := DX8_limitedYears_0 (18, .iload_n 3, 1) (List.mem_of_getElem? (i := 12) rfl)
theorem dX8_limitedYears_19 : decode cX8_limitedYears 19 = .ok (.bipush 28, 2) := DX8_limitedYears_0 (19, .bipush 28, 2) (List.mem_of_getElem? (i := 13) rfl)
theorem dX8_limitedYears_21 : decode cX8_limitedYears 21 = .ok (.if_icmp .ge 34, 3) := DX8_limitedYears_0 (21, .if_icmp .ge 34, 3) (List.mem_of_getElem? (i := 14) rfl)
theorem dX8_limitedYears_24 : decode cX8_limitedYears 24 = .ok (.iload_n 2, 1) := DX8_limitedYears_0 (24, .iload_n 2, 1) (List.mem_of_getElem? (i := 15) rfl)
theorem dX8_limitedYears_25 : decode cX8_limitedYears 25 = .ok (.aload_n 0, 1) := DX8_limitedYears_0 (25, .aload_n 0, 1) (List.mem_of_getElem? (i := 16) rfl)
theorem dX8_limitedYears_26 : decode cX8_limitedYears 26 = .ok (.iload_n 1, 1) := DX8_limitedYears_0 (26, .iload_n 1, 1) (List.mem_of_getElem? (i := 17) rfl)
theorem dX8_limitedYears_27 : decode cX8_limitedYears 27 = .ok (.iconst 2, 1) := DX8_limitedYears_0 (27, .iconst 2, 1) (List.mem_of_getElem? (i := 18) rfl)
theorem dX8_limitedYears_28 : decode cX8_limitedYears 28 = .ok (.iload_n 3, 1) := DX8_limitedYears_0 (28, .iload_n 3, 1) (List.mem_of_getElem? (i := 19) rfl)
theorem dX8_limitedYears_29 : decode cX8_limitedYears 29 = .ok (.invokevirtual 290, 3) := DX8_limitedYears_0 (29, .invokevirtual 290, 3) (List.mem_of_getElem? (i := 20) rfl)
theorem dX8_limitedYears_32 : decode cX8_limitedYears 32 = .ok (.aload_n 0, 1) := DX8_limitedYears_0 (32, .aload_n 0, 1) (List.mem_of_getElem? (i := 21) rfl)
theorem dX8_limitedYears_33 : decode cX8_limitedYears 33 = .ok (.iload_n 1, 1) := DX8_limitedYears_0 (33, .iload_n 1, 1) (List.mem_of_getElem? (i := 22) rfl)
theorem dX8_limitedYears_34 : decode cX8_limitedYears 34 = .ok (.iconst 1, 1) := DX8_limitedYears_0 (34, .iconst 1, 1) (List.mem_of_getElem? (i := 23) rfl)
theorem dX8_limitedYears_35 : decode cX8_limitedYears 35 = .ok (.iload_n 3, 1) := DX8_limitedYears_0 (35, .iload_n 3, 1) (List.mem_of_getElem? (i := 24) rfl)
theorem dX8_limitedYears_36 : decode cX8_limitedYears 36 = .ok (.invokevirtual 290, 3) := DX8_limitedYears_0 (36, .invokevirtual 290, 3) (List.mem_of_getElem? (i := 25) rfl)
theorem dX8_limitedYears_39 : decode cX8_limitedYears 39 = .ok (.if_icmp .ge 7, 3) := DX8_limitedYears_0 (39, .if_icmp .ge 7, 3) (List.mem_of_getElem? (i := 26) rfl)
theorem dX8_limitedYears_42 : decode cX8_limitedYears 42 = .ok (.iconst 1, 1) := DX8_limitedYears_0 (42, .iconst 1, 1) (List.mem_of_getElem? (i := 27) rfl)
theorem dX8_limitedYears_43 : decode cX8_limitedYears 43 = .ok (.goto 4, 3) := DX8_limitedYears_0 (43, .goto 4, 3) (List.mem_of_getElem? (i := 28) rfl)
theorem dX8_limitedYears_46 : decode cX8_limitedYears 46 = .ok (.iconst 0, 1) := DX8_limitedYears_0 (46, .iconst 0, 1) (List.mem_of_getElem? (i := 29) rfl)
theorem dX8_limitedYears_47 : decode cX8_limitedYears 47 = .ok (.iadd, 1) := DX8_limitedYears_0 (47, .iadd, 1) (List.mem_of_getElem? (i := 30) rfl)
theorem dX8_limitedYears_48 : decode cX8_limitedYears 48 = .ok (.istore_n 2, 1) := DX8_limitedYears_0 (48, .istore_n 2, 1) (List.mem_of_getElem? (i := 31) rfl)
theorem dX8_limitedYears_49 : decode cX8_limitedYears 49 = .ok (.iinc 3 1, 3) := DX8_limitedYears_0 (49, .iinc 3 1, 3) (List.mem_of_getElem? (i := 32) rfl)
theorem dX8_limitedYears_52 : decode cX8_limitedYears 52 = .ok (.goto (-34), 3) := DX8_limitedYears_0 (52, .goto (-34), 3) (List.mem_of_getElem? (i := 33) rfl)
theorem dX8_limitedYears_55 : decode cX8_limitedYears 55 = .ok (.iload_n 2, 1) := DX8_limitedYears_0 (55, .iload_n 2, 1) (List.mem_of_getElem? (i := 34) rfl)
theorem dX8_limitedYears_56 : decode cX8_limitedYears 56 = .ok (.ireturn, 1) := DX8_limitedYears_0 (56, .ireturn, 1) (List.mem_of_getElem? (i := 35) rfl)
abbrev rmX8_limitedYears : Room := { frames := 4, cells := 0, slots := 0, locals := 90 }
set_option maxHeartbeats 400000 in
set_option maxRecDepth 100000 in
theorem met_X8_limitedYears (l : Launch) (D : va_G) (kA : Nat → ClassId) (a : Nat → Nat) (n : Nat) (V0 : Sz) (x1 : Int) (hDt : ∀ w : Sz, va_D (fun _ => True) (cs_X8 kA a w)) {r : Int} {Vr : Sz} (hf : f_X8_limitedYears n V0 x1 = some (r, Vr)) : MZ l yX8_limitedYears cX8_limitedYears 4 (some .int) rmX8_limitedYears D kA [.ref (a 0), vI x1] (cs_X8 kA a V0) (cs_X8 kA a Vr) (some (vI r)) := by
  refine zZI (own := RX8) rfl rfl (Nat.le_of_ble_eq_true rfl) ?_
  intro p e s m args below meth c ls Q hC hK hP hl hret
  have hl : lv_has ls 4 [(0, .ref (a 0)), (1, vI x1)] := hl
  have hS : va_S (zF (cs_X8 kA a V0)) s.heap s.heap [] := va_S.rf
  have hD := zDself (C := fun w : Sz => (cs_X8 kA a w)) hDt V0 (fun _ => rfl)
  try dsimp only at hD
  generalize hAe : zF (cs_X8 kA a V0) = A0 at hS hD hret
  unfold f_X8_limitedYears at hf
  have L18 : ∀ (k18 : Nat) (y2 : Int) (y3 : Int) (V : Sz) (H : Heap) (locs : List Loc) (ls : Array Slot), lpF (bX8_limitedYears_18 n x1) k18 (y2, y3, V) = some (r, Vr) → va_P D vwCl (cs_X8 kA a V) H → va_S A0 s.heap H locs → lv_has ls 4 [(0, .ref (a 0)), (1, vI x1), (2, vI y2), (3, vI y3)] → W p l e rmX8_limitedYears s m args below meth c H locs 0 0 Q (F0 m 18 ls []) := by
    intro k18
    induction k18 with
    | zero => intro y2 y3 V H locs ls hf hP hS hl; exact lp_0 hf
    | succ k18 ih18 =>
      intro y2 y3 V H locs ls hf hP hS hl
      have hf := lp_s hf
      rw [bX8_limitedYears_18_e] at hf
      have J47 : ∀ (y3 : Int) (V : Sz) (z0 : Int) (z1 : Int) (H : Heap) (locs : List Loc) (ls : Array Slot), jX8_limitedYears_47 n x1 (lpF (bX8_limitedYears_18 n x1) k18) y3 V z0 z1 = some (r, Vr) → va_P D vwCl (cs_X8 kA a V) H → va_S A0 s.heap H locs → lv_has ls 4 [(0, .ref (a 0)), (1, vI x1), (3, vI y3)] → W p l e rmX8_limitedYears s m args below meth c H locs 0 0 Q (F0 m 47 ls [vI z0, vI z1]) := by
        intro y3 V z0 z1 H locs ls hf hP hS hl
        unfold jX8_limitedYears_47 at hf
        refine ziadd hC.1 hC.2.1 dX8_limitedYears_47 <| ?_
        refine ztopi (fun x_8 ex_8 => ?_)
        have hf := nm_at hf ex_8
        refine zistore_n (lv' := [(2, vI x_8), (0, .ref (a 0)), (1, vI x1), (3, vI y3)]) hC.1 hC.2.1 dX8_limitedYears_48 rfl hl (by decide) rfl (fun ls hl => ?_)
        obtain ⟨x_9, ex_9⟩ : ∃ y : Int, y = y3 + 1 := ⟨_, rfl⟩
        have hf := nm_at hf ex_9
        refine ziinc (v := x_9) (lv' := [(3, vI x_9), (2, vI x_8), (0, .ref (a 0)), (1, vI x1)]) hC.1 hC.2.1 dX8_limitedYears_49 hl (k := 3) rfl ex_9 (by decide) rfl (fun ls hl => ?_)
        exact lv_goto (tgt := 18) hC.1 hC.2.1 dX8_limitedYears_52 (by decide) <| ih18 _ _ _ _ _ _ hf hP hS (lv_sub hl [2, 3, 1, 0] rfl)
      refine ziload_n hC.1 hC.2.1 dX8_limitedYears_18 rfl (lv_at hl 3 rfl) <| zbipush hC.1 hC.2.1 dX8_limitedYears_19 (by decide) <| ?_
      obtain ⟨hz_4, hf⟩ := ck_some hf
      refine zicmp_ge (tgt := 55) hC.1 hC.2.1 ⟨hz_4, (by decide)⟩ dX8_limitedYears_21 (by decide) (fun hc => ?_) (fun hc => ?_)
      · have hf := it_t hf hc
        refine ziload_n hC.1 hC.2.1 dX8_limitedYears_55 rfl (lv_at hl 2 rfl) <| ?_
        have hf := Option.some.inj hf
        simp only [Prod.mk.injEq] at hf
        exact hret (Int32.ofInt y2) _ _ _ _ (congrArg (fun z => some (vI z)) hf.1.symm) (by rw [← hf.2]; exact hP) hS dX8_limitedYears_56
      · have hf := it_f hf hc
        refine ziload_n hC.1 hC.2.1 dX8_limitedYears_24 rfl (lv_at hl 2 rfl) <| lv_aload_n hC.1 hC.2.1 dX8_limitedYears_25 rfl (lv_at hl 0 rfl) <| ziload_n hC.1 hC.2.1 dX8_limitedYears_26 rfl (lv_at hl 1 rfl) <| ziconst hC.1 hC.2.1 dX8_limitedYears_27 <| ziload_n hC.1 hC.2.1 dX8_limitedYears_28 rfl (lv_at hl 3 rfl) <| ?_
        obtain ⟨r_5, hu, hf⟩ := bd_some hf
        refine zcVP (As := [vI x1, vI 2, vI y3]) (rest := [vI y2]) hC hK (met_X8_sumOf l D kA a n V x1 2 y3 hu) zwX8_290 hP (q0 := 0) rfl rfl rfl rfl hl.1 rfl (Nat.le_of_ble_eq_true rfl) ⟨Nat.le_of_ble_eq_true rfl, Nat.le_of_ble_eq_true rfl⟩ ⟨rfl, rfl⟩ ⟨Nat.le_refl _, Nat.le_refl _⟩ dX8_limitedYears_29 <| lv_aload_n hC.1 hC.2.1 dX8_limitedYears_32 rfl (lv_at hl 0 rfl) <| ziload_n hC.1 hC.2.1 dX8_limitedYears_33 rfl (lv_at hl 1 rfl) <| ziconst hC.1 hC.2.1 dX8_limitedYears_34 <| ziload_n hC.1 hC.2.1 dX8_limitedYears_35 rfl (lv_at hl 3 rfl) <| ?_
        obtain ⟨r_6, hu, hf⟩ := bd_some hf
        refine zcVP (As := [vI x1, vI 1, vI y3]) (rest := [vI r_5, vI y2]) hC hK (met_X8_sumOf l D kA a n V x1 1 y3 hu) zwX8_290 hP (q0 := 0) rfl rfl rfl rfl hl.1 rfl (Nat.le_of_ble_eq_true rfl) ⟨Nat.le_of_ble_eq_true rfl, Nat.le_of_ble_eq_true rfl⟩ ⟨rfl, rfl⟩ ⟨Nat.le_refl _, Nat.le_refl _⟩ dX8_limitedYears_36 <| ?_
        obtain ⟨hz_7, hf⟩ := ck_some hf
        refine zicmp_ge (tgt := 46) hC.1 hC.2.1 ⟨hz_7.1, hz_7.2⟩ dX8_limitedYears_39 (by decide) (fun hc => ?_) (fun hc => ?_)
        · have hf := it_t hf hc
          exact ziconst hC.1 hC.2.1 dX8_limitedYears_46 <| J47 _ _ _ _ _ _ _ hf hP hS (lv_sub hl [0, 1, 3] rfl)
        · have hf := it_f hf hc
          exact ziconst hC.1 hC.2.1 dX8_limitedYears_42 <| lv_goto (tgt := 47) hC.1 hC.2.1 dX8_limitedYears_43 (by decide) <| J47 _ _ _ _ _ _ _ hf hP hS (lv_sub hl [0, 1, 3] rfl)
  refine lv_aload_n hC.1 hC.2.1 dX8_limitedYears_0 rfl (lv_at hl 0 rfl) <| ziload_n hC.1 hC.2.1 dX8_limitedYears_1 rfl (lv_at hl 1 rfl) <| ?_
  obtain ⟨⟨r_1, V_2⟩, hu, hf⟩ := bd_some hf
  have hDc := hDt
  refine zcVZ (As := [vI x1]) (rest := []) hC hK (met_X8_noDonor l D kA a V0 x1 hDc hu) zwX8_287 hS (zFsub (hD V0) [0, 1, 2, 3, 4, 5, 6, 7, 8, 9, 10, 11, 12, 13, 14, 15, 16] rfl) hP (q0 := 0) rfl rfl rfl rfl hl.1 rfl (Nat.le_of_ble_eq_true rfl) ⟨Nat.le_of_ble_eq_true rfl, Nat.le_of_ble_eq_true rfl⟩ ⟨rfl, rfl⟩ ⟨Nat.le_refl _, Nat.le_refl _⟩ dX8_limitedYears_2 (fun H locs hP1 hk1 hS => ?_)
  have hP : va_P D vwCl (cs_X8 kA a V_2) H := hP1
  refine zifb_eq (tgt := 10) hC.1 hC.2.1 dX8_limitedYears_5 (by decide) (fun hc => ?_) (fun hc => ?_)
  · have hf := it_t hf hc
    refine lv_aload_n hC.1 hC.2.1 dX8_limitedYears_10 rfl (lv_at hl 0 rfl) <| ?_
    obtain ⟨V_3, hu, hf⟩ := bd_some hf
    have hDc := hDt
    refine zcVZ (As := []) (rest := []) hC hK (met_X8_laysAid l D kA a n V_2 hDc hu) zwX8_121 hS (zFsub (hD V_2) [0, 1, 2, 3, 4, 5, 6, 7, 8, 9, 10, 11, 12, 13, 14, 15, 16] rfl) hP (q0 := 0) rfl rfl rfl rfl hl.1 rfl (Nat.le_of_ble_eq_true rfl) ⟨Nat.le_of_ble_eq_true rfl, Nat.le_of_ble_eq_true rfl⟩ ⟨rfl, rfl⟩ ⟨Nat.le_refl _, Nat.le_refl _⟩ dX8_limitedYears_11 (fun H locs hP1 hk1 hS => ?_)
    have hP : va_P D vwCl (cs_X8 kA a V_3) H := hP1
    refine ziconst hC.1 hC.2.1 dX8_limitedYears_14 <| zistore_n (lv' := [(2, vI 0), (0, .ref (a 0)), (1, vI x1)]) hC.1 hC.2.1 dX8_limitedYears_15 rfl hl (by decide) rfl (fun ls hl => ?_)
    refine ziconst hC.1 hC.2.1 dX8_limitedYears_16 <| zistore_n (lv' := [(3, vI 0), (2, vI 0), (0, .ref (a 0)), (1, vI x1)]) hC.1 hC.2.1 dX8_limitedYears_17 rfl hl (by decide) rfl (fun ls hl => ?_)
    exact L18 n _ _ _ _ _ _ hf hP hS (lv_sub hl [2, 3, 1, 0] rfl)
  · have hf := it_f hf hc
    refine ziconst hC.1 hC.2.1 dX8_limitedYears_8 <| ?_
    have hf := Option.some.inj hf
    simp only [Prod.mk.injEq] at hf
    exact hret (Int32.ofInt 0) _ _ _ _ (congrArg (fun z => some (vI z)) hf.1.symm) (by rw [← hf.2]; exact hP) hS dX8_limitedYears_9
theorem DX8_expiring_0 : ∀ q ∈ ([(0, .aload_n 0, 1), (1, .iconst 0, 1), (2, .putfield 65, 3), (5, .aload_n 0, 1), (6, .iload_n 1, 1), (7, .iconst 0, 1), (8, .sipush 9999, 3), (11, .invokestatic 79, 3), (14, .ifCond .eq 14, 3), (17, .iload_n 2, 1), (18, .iload_n 1, 1), (19, .sipush 9999, 3), (22, .invokestatic 79, 3), (25, .ifCond .ne 7, 3), (28, .iconst 1, 1), (29, .goto 4, 3), (32, .iconst 0, 1), (33, .iconst 1, 1), (34, .invokevirtual 261, 3), (37, .ifCond .eq 5, 3), (40, .iconst 0, 1), (41, .ireturn, 1), (42, .aload_n 0, 1), (43, .invokevirtual 121, 3), (46, .iconst 0, 1), (47, .istore_n 3, 1), (48, .iconst 0, 1), (49, .istore 4, 2), (51, .iload 4, 2), (53, .sipush 180, 3), (56, .if_icmp .ge 53, 3), (59, .iload_n 3, 1), (60, .aload_n 0, 1), (61, .iload 4, 2), (63, .invokevirtual 124, 3), (66, .ifCond .eq 34, 3), (69, .aload_n 0, 1), (70, .iload 4, 2), (72, .invokevirtual 83, 3), (75, .aload_n 0, 1)] : List (Nat × Instr × Nat)), decode cX8_expiring q.1 = .ok q.2 := by decide +kernel
theorem dX8_expiring_0 : decode cX8_expiring 0 = .ok (.aload_n 0, 1) := DX8_expiring_0 (0, .aload_n 0, 1) (List.mem_of_getElem? (i := 0) rfl)
theorem dX8_expiring_1 : decode cX8_expiring 1 = .ok (.iconst 0, 1) := DX8_expiring_0 (1, .iconst 0, 1) (List.mem_of_getElem? (i := 1) rfl)
theorem dX8_expiring_2 : decode cX8_expiring 2 = .ok (.putfield 65, 3) := DX8_expiring_0 (2, .putfield 65, 3) (List.mem_of_getElem? (i := 2) rfl)
theorem dX8_expiring_5 : decode cX8_expiring 5 = .ok (.aload_n 0, 1) := DX8_expiring_0 (5, .aload_n 0, 1) (List.mem_of_getElem? (i := 3) rfl)
theorem dX8_expiring_6 : decode cX8_expiring 6 = .ok (.iload_n 1, 1) := DX8_expiring_0 (6, .iload_n 1, 1) (List.mem_of_getElem? (i := 4) rfl)
theorem dX8_expiring_7 : decode cX8_expiring 7 = .ok (.iconst 0, 1) := DX8_expiring_0 (7, .iconst 0, 1) (List.mem_of_getElem? (i := 5) rfl)
theorem dX8_expiring_8 : decode cX8_expiring 8 = .ok (.sipush 9999, 3) := DX8_expiring_0 (8, .sipush 9999, 3) (List.mem_of_getElem? (i := 6) rfl)
theorem dX8_expiring_11 : decode cX8_expiring 11 = .ok (.invokestatic 79, 3) := DX8_expiring_0 (11, .invokestatic 79, 3) (List.mem_of_getElem? (i := 7) rfl)
theorem dX8_expiring_14 : decode cX8_expiring 14 = .ok (.ifCond .eq 14, 3) := DX8_expiring_0 (14, .ifCond .eq 14, 3) (List.mem_of_getElem? (i := 8) rfl)
theorem dX8_expiring_17 : decode cX8_expiring 17 = .ok (.iload_n 2, 1) := DX8_expiring_0 (17, .iload_n 2, 1) (List.mem_of_getElem? (i := 9) rfl)
theorem dX8_expiring_18 : decode cX8_expiring 18 = .ok (.iload_n 1, 1) := DX8_expiring_0 (18, .iload_n 1, 1) (List.mem_of_getElem? (i := 10) rfl)
theorem dX8_expiring_19 : decode cX8_expiring 19 = .ok (.sipush 9999, 3) := DX8_expiring_0 (19, .sipush 9999, 3) (List.mem_of_getElem? (i := 11) rfl)
theorem dX8_expiring_22 : decode cX8_expiring 22 = .ok (.invokestatic 79, 3) := DX8_expiring_0 (22, .invokestatic 79, 3) (List.mem_of_getElem? (i := 12) rfl)
theorem dX8_expiring_25 : decode cX8_expiring 25 = .ok (.ifCond .ne 7, 3) := DX8_expiring_0 (25, .ifCond .ne 7, 3) (List.mem_of_getElem? (i := 13) rfl)
theorem dX8_expiring_28 : decode cX8_expiring 28 = .ok (.iconst 1, 1) := DX8_expiring_0 (28, .iconst 1, 1) (List.mem_of_getElem? (i := 14) rfl)
theorem dX8_expiring_29 : decode cX8_expiring 29 = .ok (.goto 4, 3) := DX8_expiring_0 (29, .goto 4, 3) (List.mem_of_getElem? (i := 15) rfl)
theorem dX8_expiring_32 : decode cX8_expiring 32 = .ok (.iconst 0, 1) := DX8_expiring_0 (32, .iconst 0, 1) (List.mem_of_getElem? (i := 16) rfl)
theorem dX8_expiring_33 : decode cX8_expiring 33 = .ok (.iconst 1, 1) := DX8_expiring_0 (33, .iconst 1, 1) (List.mem_of_getElem? (i := 17) rfl)
theorem dX8_expiring_34 : decode cX8_expiring 34 = .ok (.invokevirtual 261, 3) := DX8_expiring_0 (34, .invokevirtual 261, 3) (List.mem_of_getElem? (i := 18) rfl)
theorem dX8_expiring_37 : decode cX8_expiring 37 = .ok (.ifCond .eq 5, 3) := DX8_expiring_0 (37, .ifCond .eq 5, 3) (List.mem_of_getElem? (i := 19) rfl)
theorem dX8_expiring_40 : decode cX8_expiring 40 = .ok (.iconst 0, 1) := DX8_expiring_0 (40, .iconst 0, 1) (List.mem_of_getElem? (i := 20) rfl)
theorem dX8_expiring_41 : decode cX8_expiring 41 = .ok (.ireturn, 1) := DX8_expiring_0 (41, .ireturn, 1) (List.mem_of_getElem? (i := 21) rfl)
theorem dX8_expiring_42 : decode cX8_expiring 42 = .ok (.aload_n 0, 1) := DX8_expiring_0 (42, .aload_n 0, 1) (List.mem_of_getElem? (i := 22) rfl)
theorem dX8_expiring_43 : decode cX8_expiring 43 = .ok (.invokevirtual 121, 3) := DX8_expiring_0 (43, .invokevirtual 121, 3) (List.mem_of_getElem? (i := 23) rfl)
theorem dX8_expiring_46 : decode cX8_expiring 46 = .ok (.iconst 0, 1) := DX8_expiring_0 (46, .iconst 0, 1) (List.mem_of_getElem? (i := 24) rfl)
theorem dX8_expiring_47 : decode cX8_expiring 47 = .ok (.istore_n 3, 1) := DX8_expiring_0 (47, .istore_n 3, 1) (List.mem_of_getElem? (i := 25) rfl)
theorem dX8_expiring_48 : decode cX8_expiring 48 = .ok (.iconst 0, 1) := DX8_expiring_0 (48, .iconst 0, 1) (List.mem_of_getElem? (i := 26) rfl)
theorem dX8_expiring_49 : decode cX8_expiring 49 = .ok (.istore 4, 2) := DX8_expiring_0 (49, .istore 4, 2) (List.mem_of_getElem? (i := 27) rfl)
theorem dX8_expiring_51 : decode cX8_expiring 51 = .ok (.iload 4, 2) := DX8_expiring_0 (51, .iload 4, 2) (List.mem_of_getElem? (i := 28) rfl)
theorem dX8_expiring_53 : decode cX8_expiring 53 = .ok (.sipush 180, 3) := DX8_expiring_0 (53, .sipush 180, 3) (List.mem_of_getElem? (i := 29) rfl)
theorem dX8_expiring_56 : decode cX8_expiring 56 = .ok (.if_icmp .ge 53, 3) := DX8_expiring_0 (56, .if_icmp .ge 53, 3) (List.mem_of_getElem? (i := 30) rfl)
theorem dX8_expiring_59 : decode cX8_expiring 59 = .ok (.iload_n 3, 1) := DX8_expiring_0 (59, .iload_n 3, 1) (List.mem_of_getElem? (i := 31) rfl)
theorem dX8_expiring_60 : decode cX8_expiring 60 = .ok (.aload_n 0, 1) := DX8_expiring_0 (60, .aload_n 0, 1) (List.mem_of_getElem? (i := 32) rfl)
theorem dX8_expiring_61 : decode cX8_expiring 61 = .ok (.iload 4, 2) := DX8_expiring_0 (61, .iload 4, 2) (List.mem_of_getElem? (i := 33) rfl)
theorem dX8_expiring_63 : decode cX8_expiring 63 = .ok (.invokevirtual 124, 3) := DX8_expiring_0 (63, .invokevirtual 124, 3) (List.mem_of_getElem? (i := 34) rfl)
theorem dX8_expiring_66 : decode cX8_expiring 66 = .ok (.ifCond .eq 34, 3) := DX8_expiring_0 (66, .ifCond .eq 34, 3) (List.mem_of_getElem? (i := 35) rfl)
theorem dX8_expiring_69 : decode cX8_expiring 69 = .ok (.aload_n 0, 1) := DX8_expiring_0 (69, .aload_n 0, 1) (List.mem_of_getElem? (i := 36) rfl)
theorem dX8_expiring_70 : decode cX8_expiring 70 = .ok (.iload 4, 2) := DX8_expiring_0 (70, .iload 4, 2) (List.mem_of_getElem? (i := 37) rfl)
theorem dX8_expiring_72 : decode cX8_expiring 72 = .ok (.invokevirtual 83, 3) := DX8_expiring_0 (72, .invokevirtual 83, 3) (List.mem_of_getElem? (i := 38) rfl)
theorem dX8_expiring_75 : decode cX8_expiring 75 = .ok (.aload_n 0, 1) := DX8_expiring_0 (75, .aload_n 0, 1) (List.mem_of_getElem? (i := 39) rfl)
theorem DX8_expiring_1 : ∀ q ∈ ([(76, .getfield 7, 3), (79, .bipush 6, 2), (81, .iaload, 1), (82, .iadd, 1), (83, .iload_n 1, 1), (84, .iload_n 2, 1), (85, .invokestatic 79, 3), (88, .ifCond .eq 12, 3), (91, .aload_n 0, 1), (92, .iload 4, 2), (94, .invokevirtual 329, 3), (97, .goto 4, 3), (100, .iconst 0, 1), (101, .iadd, 1), (102, .istore_n 3, 1), (103, .iinc 4 1, 3), (106, .goto (-55), 3), (109, .iload_n 3, 1), (110, .ireturn, 1)] : List (Nat × Instr × Nat)), decode cX8_expiring q.1 = .ok q.2 := by decide +kernel
theorem dX8_expiring_76 : decode cX8_expiring 76 = .ok (.getfield 7, 3) := DX8_expiring_1 (76, .getfield 7, 3) (List.mem_of_getElem? (i := 0) rfl)
theorem dX8_expiring_79 : decode cX8_expiring 79 = .ok (.bipush 6, 2) := DX8_expiring_1 (79, .bipush 6, 2) (List.mem_of_getElem? (i := 1) rfl)
theorem dX8_expiring_81 : decode cX8_expiring 81 = .ok (.iaload, 1) := DX8_expiring_1 (81, .iaload, 1) (List.mem_of_getElem? (i := 2) rfl)
theorem dX8_expiring_82 : decode cX8_expiring 82 = .ok (.iadd, 1) := DX8_expiring_1 (82, .iadd, 1) (List.mem_of_getElem? (i := 3) rfl)
theorem dX8_expiring_83 : decode cX8_expiring 83 = .ok (.iload_n 1, 1) := DX8_expiring_1 (83, .iload_n 1, 1) (List.mem_of_getElem? (i := 4) rfl)
theorem dX8_expiring_84 : decode cX8_expiring 84 = .ok (.iload_n 2, 1) := DX8_expiring_1 (84, .iload_n 2, 1) (List.mem_of_getElem? (i := 5) rfl)
theorem dX8_expiring_85 : decode cX8_expiring 85 = .ok (.invokestatic 79, 3) := DX8_expiring_1 (85, .invokestatic 79, 3) (List.mem_of_getElem? (i := 6) rfl)
theorem dX8_expiring_88 : decode cX8_expiring 88 = .ok (.ifCond .eq 12, 3) := DX8_expiring_1 (88, .ifCond .eq 12, 3) (List.mem_of_getElem? (i := 7) rfl)
theorem dX8_expiring_91 : decode cX8_expiring 91 = .ok (.aload_n 0, 1) := DX8_expiring_1 (91, .aload_n 0, 1) (List.mem_of_getElem? (i := 8) rfl)
theorem dX8_expiring_92 : decode cX8_expiring 92 = .ok (.iload 4, 2) := DX8_expiring_1 (92, .iload 4, 2) (List.mem_of_getElem? (i := 9) rfl)
theorem dX8_expiring_94 : decode cX8_expiring 94 = .ok (.invokevirtual 329, 3) := DX8_expiring_1 (94, .invokevirtual 329, 3) (List.mem_of_getElem? (i := 10) rfl)
theorem dX8_expiring_97 : decode cX8_expiring 97 = .ok (.goto 4, 3) := DX8_expiring_1 (97, .goto 4, 3) (List.mem_of_getElem? (i := 11) rfl)
theorem dX8_expiring_100 : decode cX8_expiring 100 = .ok (.iconst 0, 1) := DX8_expiring_1 (100, .iconst 0, 1) (List.mem_of_getElem? (i := 12) rfl)
theorem dX8_expiring_101 : decode cX8_expiring 101 = .ok (.iadd, 1) := DX8_expiring_1 (101, .iadd, 1) (List.mem_of_getElem? (i := 13) rfl)
theorem dX8_expiring_102 : decode cX8_expiring 102 = .ok (.istore_n 3, 1) := DX8_expiring_1 (102, .istore_n 3, 1) (List.mem_of_getElem? (i := 14) rfl)
theorem dX8_expiring_103 : decode cX8_expiring 103 = .ok (.iinc 4 1, 3) := DX8_expiring_1 (103, .iinc 4 1, 3) (List.mem_of_getElem? (i := 15) rfl)
theorem dX8_expiring_106 : decode cX8_expiring 106 = .ok (.goto (-55), 3) := DX8_expiring_1 (106, .goto (-55), 3) (List.mem_of_getElem? (i := 16) rfl)
theorem dX8_expiring_109 : decode cX8_expiring 109 = .ok (.iload_n 3, 1) := DX8_expiring_1 (109, .iload_n 3, 1) (List.mem_of_getElem? (i := 17) rfl)
theorem dX8_expiring_110 : decode cX8_expiring 110 = .ok (.ireturn, 1) := DX8_expiring_1 (110, .ireturn, 1) (List.mem_of_getElem? (i := 18) rfl)
abbrev rmX8_expiring : Room := { frames := 4, cells := 0, slots := 0, locals := 90 }
set_option maxHeartbeats 400000 in
set_option maxRecDepth 100000 in
theorem met_X8_expiring (l : Launch) (D : va_G) (kA : Nat → ClassId) (a : Nat → Nat) (n : Nat) (V0 : Sz) (x1 : Int) (x2 : Int) (hDt : ∀ w : Sz, va_D (fun _ => True) (cs_X8 kA a w)) {r : Int} {Vr : Sz} (hf : f_X8_expiring n V0 x1 x2 = some (r, Vr)) : MZ l yX8_expiring cX8_expiring 5 (some .int) rmX8_expiring D kA [.ref (a 0), vI x1, vI x2] (cs_X8 kA a V0) (cs_X8 kA a Vr) (some (vI r)) := by
  refine zZI (own := RX8) rfl rfl (Nat.le_of_ble_eq_true rfl) ?_
  intro p e s m args below meth c ls Q hC hK hP hl hret
  have hl : lv_has ls 5 [(0, .ref (a 0)), (1, vI x1), (2, vI x2)] := hl
  have hS : va_S (zF (cs_X8 kA a V0)) s.heap s.heap [] := va_S.rf
  have hD := zDself (C := fun w : Sz => (cs_X8 kA a w)) hDt V0 (fun _ => rfl)
  try dsimp only at hD
  generalize hAe : zF (cs_X8 kA a V0) = A0 at hS hD hret
  unfold f_X8_expiring at hf
  have L51 : ∀ (k51 : Nat) (y3 : Int) (y4 : Int) (V : Sz) (H : Heap) (locs : List Loc) (ls : Array Slot), lpF (bX8_expiring_51 n x1 x2) k51 (y3, y4, V) = some (r, Vr) → va_P D vwCl (cs_X8 kA a V) H → va_S A0 s.heap H locs → lv_has ls 5 [(0, .ref (a 0)), (1, vI x1), (2, vI x2), (3, vI y3), (4, vI y4)] → W p l e rmX8_expiring s m args below meth c H locs 0 0 Q (F0 m 51 ls []) := by
    intro k51
    induction k51 with
    | zero => intro y3 y4 V H locs ls hf hP hS hl; exact lp_0 hf
    | succ k51 ih51 =>
      intro y3 y4 V H locs ls hf hP hS hl
      have hf := lp_s hf
      rw [bX8_expiring_51_e] at hf
      have J101 : ∀ (y4 : Int) (V : Sz) (z0 : Int) (z1 : Int) (H : Heap) (locs : List Loc) (ls : Array Slot), jX8_expiring_101 n x1 x2 (lpF (bX8_expiring_51 n x1 x2) k51) y4 V z0 z1 = some (r, Vr) → va_P D vwCl (cs_X8 kA a V) H → va_S A0 s.heap H locs → lv_has ls 5 [(0, .ref (a 0)), (1, vI x1), (2, vI x2), (4, vI y4)] → W p l e rmX8_expiring s m args below meth c H locs 0 0 Q (F0 m 101 ls [vI z0, vI z1]) := by
        intro y4 V z0 z1 H locs ls hf hP hS hl
        unfold jX8_expiring_101 at hf
        refine ziadd hC.1 hC.2.1 dX8_expiring_101 <| ?_
        refine ztopi (fun x_8 ex_8 => ?_)
        have hf := nm_at hf ex_8
        refine zistore_n (lv' := [(3, vI x_8), (0, .ref (a 0)), (1, vI x1), (2, vI x2), (4, vI y4)]) hC.1 hC.2.1 dX8_expiring_102 rfl hl (by decide) rfl (fun ls hl => ?_)
        obtain ⟨x_9, ex_9⟩ : ∃ y : Int, y = y4 + 1 := ⟨_, rfl⟩
        have hf := nm_at hf ex_9
        refine ziinc (v := x_9) (lv' := [(4, vI x_9), (3, vI x_8), (0, .ref (a 0)), (1, vI x1), (2, vI x2)]) hC.1 hC.2.1 dX8_expiring_103 hl (k := 4) rfl ex_9 (by decide) rfl (fun ls hl => ?_)
        exact lv_goto (tgt := 51) hC.1 hC.2.1 dX8_expiring_106 (by decide) <| ih51 _ _ _ _ _ _ hf hP hS (lv_sub hl [2, 3, 4, 1, 0] rfl)
      have J100 : ∀ (y4 : Int) (V : Sz) (z0 : Int) (H : Heap) (locs : List Loc) (ls : Array Slot), jX8_expiring_100 n x1 x2 (lpF (bX8_expiring_51 n x1 x2) k51) y4 V z0 = some (r, Vr) → va_P D vwCl (cs_X8 kA a V) H → va_S A0 s.heap H locs → lv_has ls 5 [(0, .ref (a 0)), (1, vI x1), (2, vI x2), (4, vI y4)] → W p l e rmX8_expiring s m args below meth c H locs 0 0 Q (F0 m 100 ls [vI z0]) := by
        intro y4 V z0 H locs ls hf hP hS hl
        unfold jX8_expiring_100 at hf
        exact ziconst hC.1 hC.2.1 dX8_expiring_100 <| J101 _ _ _ _ _ _ _ hf hP hS (lv_sub hl [0, 1, 2, 3] rfl)
      refine ziload hC.1 hC.2.1 dX8_expiring_51 (lv_at hl 4 rfl) <| zsipush hC.1 hC.2.1 dX8_expiring_53 (by decide) <| ?_
      obtain ⟨hz_6, hf⟩ := ck_some hf
      refine zicmp_ge (tgt := 109) hC.1 hC.2.1 ⟨hz_6, (by decide)⟩ dX8_expiring_56 (by decide) (fun hc => ?_) (fun hc => ?_)
      · have hf := it_t hf hc
        refine ziload_n hC.1 hC.2.1 dX8_expiring_109 rfl (lv_at hl 3 rfl) <| ?_
        have hf := Option.some.inj hf
        simp only [Prod.mk.injEq] at hf
        exact hret (Int32.ofInt y3) _ _ _ _ (congrArg (fun z => some (vI z)) hf.1.symm) (by rw [← hf.2]; exact hP) hS dX8_expiring_110
      · have hf := it_f hf hc
        refine ziload_n hC.1 hC.2.1 dX8_expiring_59 rfl (lv_at hl 3 rfl) <| lv_aload_n hC.1 hC.2.1 dX8_expiring_60 rfl (lv_at hl 0 rfl) <| ziload hC.1 hC.2.1 dX8_expiring_61 (lv_at hl 4 rfl) <| ?_
        obtain ⟨r_7, hu, hf⟩ := bd_some hf
        refine zcVP (As := [vI y4]) (rest := [vI y3]) hC hK (met_X8_isPart l D kA a V y4 hu) zwX8_124 hP (q0 := 0) rfl rfl rfl rfl hl.1 rfl (Nat.le_of_ble_eq_true rfl) ⟨Nat.le_of_ble_eq_true rfl, Nat.le_of_ble_eq_true rfl⟩ ⟨rfl, rfl⟩ ⟨Nat.le_refl _, Nat.le_refl _⟩ dX8_expiring_63 <| zifb_eq (tgt := 100) hC.1 hC.2.1 dX8_expiring_66 (by decide) (fun hc => ?_) (fun hc => ?_)
        · have hf := it_t hf hc
          exact J100 _ _ _ _ _ _ hf hP hS (lv_sub hl [0, 1, 2, 4] rfl)
        · have hf := it_f hf hc
          refine lv_aload_n hC.1 hC.2.1 dX8_expiring_69 rfl (lv_at hl 0 rfl) <| ziload hC.1 hC.2.1 dX8_expiring_70 (lv_at hl 4 rfl) <| ?_
          obtain ⟨r_10, hu, hf⟩ := bd_some hf
          refine zcVP (As := [vI y4]) (rest := [vI y3]) hC hK (met_X8_dayOf l D kA a V y4 hu) zwX8_83 hP (q0 := 0) rfl rfl rfl rfl hl.1 rfl (Nat.le_of_ble_eq_true rfl) ⟨Nat.le_of_ble_eq_true rfl, Nat.le_of_ble_eq_true rfl⟩ ⟨rfl, rfl⟩ ⟨Nat.le_refl _, Nat.le_refl _⟩ dX8_expiring_72 <| lv_aload_n hC.1 hC.2.1 dX8_expiring_75 rfl (lv_at hl 0 rfl) <| gfX8_7 hC hK hP (q0 := 0) rfl rfl dX8_expiring_76 <| zbipush hC.1 hC.2.1 dX8_expiring_79 (by decide) <| jal hC hK hP (q0 := 1) rfl (Nat.le_of_ble_eq_true rfl) (by decide) rfl dX8_expiring_81 <| ziadd hC.1 hC.2.1 dX8_expiring_82 <| ziload_n hC.1 hC.2.1 dX8_expiring_83 rfl (lv_at hl 1 rfl) <| ziload_n hC.1 hC.2.1 dX8_expiring_84 rfl (lv_at hl 2 rfl) <| ?_
          obtain ⟨r_11, hu, hf⟩ := bd_some hf
          have hPc : va_P D vwCl ([] : va_W) _ := hP.sub [] rfl
          refine zcSP (As := [vI (r_10 + (V 0 6)), vI x1, vI x2]) (rest := [vI y3]) hC hK (met_X8_inRange l D kA (r_10 + (V 0 6)) x1 x2 hu) zwX8_79 hPc rfl hl.1 rfl (Nat.le_of_ble_eq_true rfl) ⟨Nat.le_of_ble_eq_true rfl, Nat.le_of_ble_eq_true rfl⟩ ⟨rfl, rfl⟩ ⟨Nat.le_refl _, Nat.le_refl _⟩ dX8_expiring_85 <| zifb_eq (tgt := 100) hC.1 hC.2.1 dX8_expiring_88 (by decide) (fun hc => ?_) (fun hc => ?_)
          · have hf := it_t hf hc
            exact J100 _ _ _ _ _ _ hf hP hS (lv_sub hl [0, 1, 2, 4] rfl)
          · have hf := it_f hf hc
            refine lv_aload_n hC.1 hC.2.1 dX8_expiring_91 rfl (lv_at hl 0 rfl) <| ziload hC.1 hC.2.1 dX8_expiring_92 (lv_at hl 4 rfl) <| ?_
            obtain ⟨r_12, hu, hf⟩ := bd_some hf
            exact zcVP (As := [vI y4]) (rest := [vI y3]) hC hK (met_X8_under l D kA a V y4 hu) zwX8_329 hP (q0 := 0) rfl rfl rfl rfl hl.1 rfl (Nat.le_of_ble_eq_true rfl) ⟨Nat.le_of_ble_eq_true rfl, Nat.le_of_ble_eq_true rfl⟩ ⟨rfl, rfl⟩ ⟨Nat.le_refl _, Nat.le_refl _⟩ dX8_expiring_94 <| lv_goto (tgt := 101) hC.1 hC.2.1 dX8_expiring_97 (by decide) <| J101 _ _ _ _ _ _ _ hf hP hS (lv_sub hl [0, 1, 2, 4] rfl)
  have J33 : ∀ (V : Sz) (z0 : Int) (H : Heap) (locs : List Loc) (ls : Array Slot), jX8_expiring_33 n x1 x2 V z0 = some (r, Vr) → va_P D vwCl (cs_X8 kA a V) H → va_S A0 s.heap H locs → lv_has ls 5 [(0, .ref (a 0)), (1, vI x1), (2, vI x2)] → W p l e rmX8_expiring s m args below meth c H locs 0 0 Q (F0 m 33 ls [vI z0, .ref (a 0)]) := by
    intro V z0 H locs ls hf hP hS hl
    unfold jX8_expiring_33 at hf
    refine ziconst hC.1 hC.2.1 dX8_expiring_33 <| ?_
    obtain ⟨⟨r_3, V_4⟩, hu, hf⟩ := bd_some hf
    have hDc := hDt
    refine zcVZ (As := [vI z0, vI 1]) (rest := []) hC hK (met_X8_fails l D kA a V z0 1 hDc hu) zwX8_261 hS (zFsub (hD V) [0, 1, 2, 3, 4, 5, 6, 7, 8, 9, 10, 11, 12, 13, 14, 15, 16] rfl) hP (q0 := 0) rfl rfl rfl rfl hl.1 rfl (Nat.le_of_ble_eq_true rfl) ⟨Nat.le_of_ble_eq_true rfl, Nat.le_of_ble_eq_true rfl⟩ ⟨rfl, rfl⟩ ⟨Nat.le_refl _, Nat.le_refl _⟩ dX8_expiring_34 (fun H locs hP1 hk1 hS => ?_)
    have hP : va_P D vwCl (cs_X8 kA a V_4) H := hP1
    refine zifb_eq (tgt := 42) hC.1 hC.2.1 dX8_expiring_37 (by decide) (fun hc => ?_) (fun hc => ?_)
    · have hf := it_t hf hc
      refine lv_aload_n hC.1 hC.2.1 dX8_expiring_42 rfl (lv_at hl 0 rfl) <| ?_
      obtain ⟨V_5, hu, hf⟩ := bd_some hf
      have hDc := hDt
      refine zcVZ (As := []) (rest := []) hC hK (met_X8_laysAid l D kA a n V_4 hDc hu) zwX8_121 hS (zFsub (hD V_4) [0, 1, 2, 3, 4, 5, 6, 7, 8, 9, 10, 11, 12, 13, 14, 15, 16] rfl) hP (q0 := 0) rfl rfl rfl rfl hl.1 rfl (Nat.le_of_ble_eq_true rfl) ⟨Nat.le_of_ble_eq_true rfl, Nat.le_of_ble_eq_true rfl⟩ ⟨rfl, rfl⟩ ⟨Nat.le_refl _, Nat.le_refl _⟩ dX8_expiring_43 (fun H locs hP1 hk1 hS => ?_)
      have hP : va_P D vwCl (cs_X8 kA a V_5) H := hP1
      refine ziconst hC.1 hC.2.1 dX8_expiring_46 <| zistore_n (lv' := [(3, vI 0), (0, .ref (a 0)), (1, vI x1), (2, vI x2)]) hC.1 hC.2.1 dX8_expiring_47 rfl hl (by decide) rfl (fun ls hl => ?_)
      refine ziconst hC.1 hC.2.1 dX8_expiring_48 <| zistore (lv' := [(4, vI 0), (3, vI 0), (0, .ref (a 0)), (1, vI x1), (2, vI x2)]) hC.1 hC.2.1 dX8_expiring_49 hl (by decide) rfl (fun ls hl => ?_)
      exact L51 n _ _ _ _ _ _ hf hP hS (lv_sub hl [2, 3, 4, 1, 0] rfl)
    · have hf := it_f hf hc
      refine ziconst hC.1 hC.2.1 dX8_expiring_40 <| ?_
      have hf := Option.some.inj hf
      simp only [Prod.mk.injEq] at hf
      exact hret (Int32.ofInt 0) _ _ _ _ (congrArg (fun z => some (vI z)) hf.1.symm) (by rw [← hf.2]; exact hP) hS dX8_expiring_41
  have J28 : ∀ (V : Sz) (H : Heap) (locs : List Loc) (ls : Array Slot), jX8_expiring_28 n x1 x2 V = some (r, Vr) → va_P D vwCl (cs_X8 kA a V) H → va_S A0 s.heap H locs → lv_has ls 5 [(0, .ref (a 0)), (1, vI x1), (2, vI x2)] → W p l e rmX8_expiring s m args below meth c H locs 0 0 Q (F0 m 28 ls [.ref (a 0)]) := by
    intro V H locs ls hf hP hS hl
    unfold jX8_expiring_28 at hf
    exact ziconst hC.1 hC.2.1 dX8_expiring_28 <| lv_goto (tgt := 33) hC.1 hC.2.1 dX8_expiring_29 (by decide) <| J33 _ _ _ _ _ hf hP hS (lv_sub hl [0, 1, 2] rfl)
  refine lv_aload_n hC.1 hC.2.1 dX8_expiring_0 rfl (lv_at hl 0 rfl) <| ziconst hC.1 hC.2.1 dX8_expiring_1 <| ?_
  refine pfX8_65 hC hK hP (hD V0) hS (q0 := 0) rfl (Nat.le_of_ble_eq_true rfl) dX8_expiring_2 (fun H locs hP hS => ?_)
  obtain ⟨V_1, eV_1⟩ : ∃ y, y = us V0 9 0 := ⟨_, rfl⟩
  have hf := nm_at hf eV_1
  have hP : va_P D vwCl (cs_X8 kA a V_1) H := by rw [eV_1]; exact hP
  refine lv_aload_n hC.1 hC.2.1 dX8_expiring_5 rfl (lv_at hl 0 rfl) <| ziload_n hC.1 hC.2.1 dX8_expiring_6 rfl (lv_at hl 1 rfl) <| ziconst hC.1 hC.2.1 dX8_expiring_7 <| zsipush hC.1 hC.2.1 dX8_expiring_8 (by decide) <| ?_
  obtain ⟨r_2, hu, hf⟩ := bd_some hf
  have hPc : va_P D vwCl ([] : va_W) _ := hP.sub [] rfl
  refine zcSP (As := [vI x1, vI 0, vI 9999]) (rest := [.ref (a 0)]) hC hK (met_X8_inRange l D kA x1 0 9999 hu) zwX8_79 hPc rfl hl.1 rfl (Nat.le_of_ble_eq_true rfl) ⟨Nat.le_of_ble_eq_true rfl, Nat.le_of_ble_eq_true rfl⟩ ⟨rfl, rfl⟩ ⟨Nat.le_refl _, Nat.le_refl _⟩ dX8_expiring_11 <| zifb_eq (tgt := 28) hC.1 hC.2.1 dX8_expiring_14 (by decide) (fun hc => ?_) (fun hc => ?_)
  · have hf := it_t hf hc
    exact J28 _ _ _ _ hf hP hS (lv_sub hl [0, 1, 2] rfl)
  · have hf := it_f hf hc
    refine ziload_n hC.1 hC.2.1 dX8_expiring_17 rfl (lv_at hl 2 rfl) <| ziload_n hC.1 hC.2.1 dX8_expiring_18 rfl (lv_at hl 1 rfl) <| zsipush hC.1 hC.2.1 dX8_expiring_19 (by decide) <| ?_
    obtain ⟨r_13, hu, hf⟩ := bd_some hf
    have hPc : va_P D vwCl ([] : va_W) _ := hP.sub [] rfl
    refine zcSP (As := [vI x2, vI x1, vI 9999]) (rest := [.ref (a 0)]) hC hK (met_X8_inRange l D kA x2 x1 9999 hu) zwX8_79 hPc rfl hl.1 rfl (Nat.le_of_ble_eq_true rfl) ⟨Nat.le_of_ble_eq_true rfl, Nat.le_of_ble_eq_true rfl⟩ ⟨rfl, rfl⟩ ⟨Nat.le_refl _, Nat.le_refl _⟩ dX8_expiring_22 <| zifb_ne (tgt := 32) hC.1 hC.2.1 dX8_expiring_25 (by decide) (fun hc => ?_) (fun hc => ?_)
    · have hf := it_t hf hc
      exact ziconst hC.1 hC.2.1 dX8_expiring_32 <| J33 _ _ _ _ _ hf hP hS (lv_sub hl [0, 1, 2] rfl)
    · have hf := it_f hf hc
      exact J28 _ _ _ _ hf hP hS (lv_sub hl [0, 1, 2] rfl)
theorem DX8_begins_0 : ∀ q ∈ ([(0, .aload_n 0, 1), (1, .getfield 7, 3), (4, .iconst 0, 1), (5, .aload_n 0, 1), (6, .getfield 19, 3), (9, .iconst 0, 1), (10, .sipush 1233, 3), (13, .invokestatic 71, 3), (16, .return_, 1)] : List (Nat × Instr × Nat)), decode cX8_begins q.1 = .ok q.2 := by decide +kernel
theorem dX8_begins_0 : decode cX8_begins 0 = .ok (.aload_n 0, 1) := DX8_begins_0 (0, .aload_n 0, 1) (List.mem_of_getElem? (i := 0) rfl)
theorem dX8_begins_1 : decode cX8_begins 1 = .ok (.getfield 7, 3) := DX8_begins_0 (1, .getfield 7, 3) (List.mem_of_getElem? (i := 1) rfl)
theorem dX8_begins_4 : decode cX8_begins 4 = .ok (.iconst 0, 1) := DX8_begins_0 (4, .iconst 0, 1) (List.mem_of_getElem? (i := 2) rfl)
theorem dX8_begins_5 : decode cX8_begins 5 = .ok (.aload_n 0, 1) := DX8_begins_0 (5, .aload_n 0, 1) (List.mem_of_getElem? (i := 3) rfl)
theorem dX8_begins_6 : decode cX8_begins 6 = .ok (.getfield 19, 3) := DX8_begins_0 (6, .getfield 19, 3) (List.mem_of_getElem? (i := 4) rfl)
theorem dX8_begins_9 : decode cX8_begins 9 = .ok (.iconst 0, 1) := DX8_begins_0 (9, .iconst 0, 1) (List.mem_of_getElem? (i := 5) rfl)
theorem dX8_begins_10 : decode cX8_begins 10 = .ok (.sipush 1233, 3) := DX8_begins_0 (10, .sipush 1233, 3) (List.mem_of_getElem? (i := 6) rfl)
theorem dX8_begins_13 : decode cX8_begins 13 = .ok (.invokestatic 71, 3) := DX8_begins_0 (13, .invokestatic 71, 3) (List.mem_of_getElem? (i := 7) rfl)
theorem dX8_begins_16 : decode cX8_begins 16 = .ok (.return_, 1) := DX8_begins_0 (16, .return_, 1) (List.mem_of_getElem? (i := 8) rfl)
abbrev rmX8_begins : Room := { frames := 1, cells := 0, slots := 0, locals := 25 }
set_option maxHeartbeats 400000 in
set_option maxRecDepth 100000 in
theorem met_X8_begins (l : Launch) (D : va_G) (kA : Nat → ClassId) (a : Nat → Nat) (n : Nat) (V0 : Sz) (hDt : ∀ w : Sz, va_D (fun _ => True) (cs_X8 kA a w)) {Vr : Sz} (hf : f_X8_begins n V0 = some Vr) : MZ l yX8_begins cX8_begins 1 none rmX8_begins D kA [.ref (a 0)] (cs_X8 kA a V0) (cs_X8 kA a Vr) (none) := by
  refine zZV (own := RX8) rfl rfl (Nat.le_of_ble_eq_true rfl) ?_
  intro p e s m args below meth c ls Q hC hK hP hl hret
  have hl : lv_has ls 1 [(0, .ref (a 0))] := hl
  have hS : va_S (zF (cs_X8 kA a V0)) s.heap s.heap [] := va_S.rf
  have hD := zDself (C := fun w : Sz => (cs_X8 kA a w)) hDt V0 (fun _ => rfl)
  try dsimp only at hD
  generalize hAe : zF (cs_X8 kA a V0) = A0 at hS hD hret
  unfold f_X8_begins at hf
  refine lv_aload_n hC.1 hC.2.1 dX8_begins_0 rfl (lv_at hl 0 rfl) <| gfX8_7 hC hK hP (q0 := 0) rfl rfl dX8_begins_1 <| ziconst hC.1 hC.2.1 dX8_begins_4 <| lv_aload_n hC.1 hC.2.1 dX8_begins_5 rfl (lv_at hl 0 rfl) <| gfX8_19 hC hK hP (q0 := 0) rfl rfl dX8_begins_6 <| ziconst hC.1 hC.2.1 dX8_begins_9 <| zsipush hC.1 hC.2.1 dX8_begins_10 (by decide) <| ?_
  obtain ⟨V_1, hu, hf⟩ := bd_some hf
  have hPc : va_P D vwCl ([((a 1), .inl (kA 0, 1233, .inl (aI (V0 0))))] ++ ([((a 4), .inl (kA 0, 1233, .inl (aI (V0 3))))])) _ := hP.sub [1, 4] rfl
  have hDc : ∀ w : (Nat → Int), va_D (fun _ => True) ([((a 1), .inl (kA 0, 1233, .inl (aI (V0 0))))] ++ ([((a 4), .inl (kA 0, 1233, .inl (aI w)))])) := fun w => (hDt (uy V0 3 w)).sub [1, 4] (by decide) rfl
  refine zcSZ (As := [.ref (a 1), vI 0, .ref (a 4), vI 0, vI 1233]) (rest := []) hC hK (met_X8_copies l D kA (a 1) (a 4) n 1233 1233 (V0 0) (V0 3) 0 0 1233 (Nat.le_of_ble_eq_true rfl) (Nat.le_of_ble_eq_true rfl) hDc hu) zwX8_71 hS (zFsub (hD V0) [1, 4] rfl) hPc rfl hl.1 rfl (Nat.le_of_ble_eq_true rfl) ⟨Nat.le_of_ble_eq_true rfl, Nat.le_of_ble_eq_true rfl⟩ ⟨rfl, rfl⟩ ⟨Nat.le_refl _, Nat.le_refl _⟩ dX8_begins_13 (fun H locs hP1 hk1 hS => ?_)
  obtain ⟨V_2, eV_2⟩ : ∃ y, y = uy V0 3 V_1 := ⟨_, rfl⟩
  have hf := nm_at hf eV_2
  have hP : va_P D vwCl (cs_X8 kA a V_2) H := by rw [eV_2]; exact zjoin hP (hDt V0) [1, 4] (w0 := ([((a 1), .inl (kA 0, 1233, .inl (aI (V0 0))))] ++ ([((a 4), .inl (kA 0, 1233, .inl (aI (V0 3))))]))) rfl (Nat.le_of_ble_eq_true rfl) hk1 hP1
  have hf := Option.some.inj hf
  exact hret _ _ _ _ rfl (by rw [← hf]; exact hP) hS dX8_begins_16
theorem DX8_ends_0 : ∀ q ∈ ([(0, .aload_n 0, 1), (1, .getfield 19, 3), (4, .iconst 0, 1), (5, .aload_n 0, 1), (6, .getfield 7, 3), (9, .iconst 0, 1), (10, .sipush 1233, 3), (13, .invokestatic 71, 3), (16, .return_, 1)] : List (Nat × Instr × Nat)), decode cX8_ends q.1 = .ok q.2 := by decide +kernel
theorem dX8_ends_0 : decode cX8_ends 0 = .ok (.aload_n 0, 1) := DX8_ends_0 (0, .aload_n 0, 1) (List.mem_of_getElem? (i := 0) rfl)
theorem dX8_ends_1 : decode cX8_ends 1 = .ok (.getfield 19, 3) := DX8_ends_0 (1, .getfield 19, 3) (List.mem_of_getElem? (i := 1) rfl)
theorem dX8_ends_4 : decode cX8_ends 4 = .ok (.iconst 0, 1) := DX8_ends_0 (4, .iconst 0, 1) (List.mem_of_getElem? (i := 2) rfl)
theorem dX8_ends_5 : decode cX8_ends 5 = .ok (.aload_n 0, 1) := DX8_ends_0 (5, .aload_n 0, 1) (List.mem_of_getElem? (i := 3) rfl)
theorem dX8_ends_6 : decode cX8_ends 6 = .ok (.getfield 7, 3) := DX8_ends_0 (6, .getfield 7, 3) (List.mem_of_getElem? (i := 4) rfl)
theorem dX8_ends_9 : decode cX8_ends 9 = .ok (.iconst 0, 1) := DX8_ends_0 (9, .iconst 0, 1) (List.mem_of_getElem? (i := 5) rfl)
theorem dX8_ends_10 : decode cX8_ends 10 = .ok (.sipush 1233, 3) := DX8_ends_0 (10, .sipush 1233, 3) (List.mem_of_getElem? (i := 6) rfl)
theorem dX8_ends_13 : decode cX8_ends 13 = .ok (.invokestatic 71, 3) := DX8_ends_0 (13, .invokestatic 71, 3) (List.mem_of_getElem? (i := 7) rfl)
theorem dX8_ends_16 : decode cX8_ends 16 = .ok (.return_, 1) := DX8_ends_0 (16, .return_, 1) (List.mem_of_getElem? (i := 8) rfl)
abbrev rmX8_ends : Room := { frames := 1, cells := 0, slots := 0, locals := 25 }
set_option maxHeartbeats 400000 in
set_option maxRecDepth 100000 in
theorem met_X8_ends (l : Launch) (D : va_G) (kA : Nat → ClassId) (a : Nat → Nat) (n : Nat) (V0 : Sz) (hDt : ∀ w : Sz, va_D (fun _ => True) (cs_X8 kA a w)) {Vr : Sz} (hf : f_X8_ends n V0 = some Vr) : MZ l yX8_ends cX8_ends 1 none rmX8_ends D kA [.ref (a 0)] (cs_X8 kA a V0) (cs_X8 kA a Vr) (none) := by
  refine zZV (own := RX8) rfl rfl (Nat.le_of_ble_eq_true rfl) ?_
  intro p e s m args below meth c ls Q hC hK hP hl hret
  have hl : lv_has ls 1 [(0, .ref (a 0))] := hl
  have hS : va_S (zF (cs_X8 kA a V0)) s.heap s.heap [] := va_S.rf
  have hD := zDself (C := fun w : Sz => (cs_X8 kA a w)) hDt V0 (fun _ => rfl)
  try dsimp only at hD
  generalize hAe : zF (cs_X8 kA a V0) = A0 at hS hD hret
  unfold f_X8_ends at hf
  refine lv_aload_n hC.1 hC.2.1 dX8_ends_0 rfl (lv_at hl 0 rfl) <| gfX8_19 hC hK hP (q0 := 0) rfl rfl dX8_ends_1 <| ziconst hC.1 hC.2.1 dX8_ends_4 <| lv_aload_n hC.1 hC.2.1 dX8_ends_5 rfl (lv_at hl 0 rfl) <| gfX8_7 hC hK hP (q0 := 0) rfl rfl dX8_ends_6 <| ziconst hC.1 hC.2.1 dX8_ends_9 <| zsipush hC.1 hC.2.1 dX8_ends_10 (by decide) <| ?_
  obtain ⟨V_1, hu, hf⟩ := bd_some hf
  have hPc : va_P D vwCl ([((a 4), .inl (kA 0, 1233, .inl (aI (V0 3))))] ++ ([((a 1), .inl (kA 0, 1233, .inl (aI (V0 0))))])) _ := hP.sub [4, 1] rfl
  have hDc : ∀ w : (Nat → Int), va_D (fun _ => True) ([((a 4), .inl (kA 0, 1233, .inl (aI (V0 3))))] ++ ([((a 1), .inl (kA 0, 1233, .inl (aI w)))])) := fun w => (hDt (uy V0 0 w)).sub [4, 1] (by decide) rfl
  refine zcSZ (As := [.ref (a 4), vI 0, .ref (a 1), vI 0, vI 1233]) (rest := []) hC hK (met_X8_copies l D kA (a 4) (a 1) n 1233 1233 (V0 3) (V0 0) 0 0 1233 (Nat.le_of_ble_eq_true rfl) (Nat.le_of_ble_eq_true rfl) hDc hu) zwX8_71 hS (zFsub (hD V0) [4, 1] rfl) hPc rfl hl.1 rfl (Nat.le_of_ble_eq_true rfl) ⟨Nat.le_of_ble_eq_true rfl, Nat.le_of_ble_eq_true rfl⟩ ⟨rfl, rfl⟩ ⟨Nat.le_refl _, Nat.le_refl _⟩ dX8_ends_13 (fun H locs hP1 hk1 hS => ?_)
  obtain ⟨V_2, eV_2⟩ : ∃ y, y = uy V0 0 V_1 := ⟨_, rfl⟩
  have hf := nm_at hf eV_2
  have hP : va_P D vwCl (cs_X8 kA a V_2) H := by rw [eV_2]; exact zjoin hP (hDt V0) [4, 1] (w0 := ([((a 4), .inl (kA 0, 1233, .inl (aI (V0 3))))] ++ ([((a 1), .inl (kA 0, 1233, .inl (aI (V0 0))))]))) rfl (Nat.le_of_ble_eq_true rfl) hk1 hP1
  have hf := Option.some.inj hf
  exact hret _ _ _ _ rfl (by rw [← hf]; exact hP) hS dX8_ends_16
theorem DX8_useOf_0 : ∀ q ∈ ([(0, .aload_n 0, 1), (1, .iload_n 1, 1), (2, .invokevirtual 272, 3), (5, .ifCond .eq 5, 3), (8, .iconst 0, 1), (9, .ireturn, 1), (10, .aload_n 0, 1), (11, .invokevirtual 326, 3), (14, .istore_n 2, 1), (15, .aload_n 0, 1), (16, .getfield 7, 3), (19, .bipush 82, 2), (21, .iload_n 1, 1), (22, .iadd, 1), (23, .iaload, 1), (24, .istore_n 3, 1), (25, .aload_n 0, 1), (26, .getfield 7, 3), (29, .bipush 82, 2), (31, .iload_n 1, 1), (32, .iadd, 1), (33, .aload_n 0, 1), (34, .getfield 7, 3), (37, .bipush 51, 2), (39, .iload_n 1, 1), (40, .iadd, 1), (41, .iaload, 1), (42, .iconst 1, 1), (43, .isub, 1), (44, .iastore, 1), (45, .aload_n 0, 1), (46, .invokevirtual 326, 3), (49, .istore 4, 2), (51, .aload_n 0, 1), (52, .getfield 7, 3), (55, .bipush 82, 2), (57, .iload_n 1, 1), (58, .iadd, 1), (59, .iload_n 3, 1), (60, .iastore, 1)] : List (Nat × Instr × Nat)), decode cX8_useOf q.1 = .ok q.2 := by decide +kernel
theorem dX8_useOf_0 : decode cX8_useOf 0 = .ok (.aload_n 0, 1) := DX8_useOf_0 (0, .aload_n 0, 1) (List.mem_of_getElem? (i := 0) rfl)
theorem dX8_useOf_1 : decode cX8_useOf 1 = .ok (.iload_n 1, 1) := DX8_useOf_0 (1, .iload_n 1, 1) (List.mem_of_getElem? (i := 1) rfl)
theorem dX8_useOf_2 : decode cX8_useOf 2 = .ok (.invokevirtual 272, 3) := DX8_useOf_0 (2, .invokevirtual 272, 3) (List.mem_of_getElem? (i := 2) rfl)
theorem dX8_useOf_5 : decode cX8_useOf 5 = .ok (.ifCond .eq 5, 3) := DX8_useOf_0 (5, .ifCond .eq 5, 3) (List.mem_of_getElem? (i := 3) rfl)
theorem dX8_useOf_8 : decode cX8_useOf 8 = .ok (.iconst 0, 1) := DX8_useOf_0 (8, .iconst 0, 1) (List.mem_of_getElem? (i := 4) rfl)
theorem dX8_useOf_9 : decode cX8_useOf 9 = .ok (.ireturn, 1) := DX8_useOf_0 (9, .ireturn, 1) (List.mem_of_getElem? (i := 5) rfl)
theorem dX8_useOf_10 : decode cX8_useOf 10 = .ok (.aload_n 0, 1) := DX8_useOf_0 (10, .aload_n 0, 1) (List.mem_of_getElem? (i := 6) rfl)
theorem dX8_useOf_11 : decode cX8_useOf 11 = .ok (.invokevirtual 326, 3) := DX8_useOf_0 (11, .invokevirtual 326, 3) (List.mem_of_getElem? (i := 7) rfl)
theorem dX8_useOf_14 : decode cX8_useOf 14 = .ok (.istore_n 2, 1) := DX8_useOf_0 (14, .istore_n 2, 1) (List.mem_of_getElem? (i := 8) rfl)
theorem dX8_useOf_15 : decode cX8_useOf 15 = .ok (.aload_n 0, 1) := DX8_useOf_0 (15, .aload_n 0, 1) (List.mem_of_getElem? (i := 9) rfl)
theorem dX8_useOf_16 : decode cX8_useOf 16 = .ok (.getfield 7, 3) := DX8_useOf_0 (16, .getfield 7, 3) (List.mem_of_getElem? (i := 10) rfl)
theorem dX8_useOf_19 : decode cX8_useOf 19 = .ok (.bipush 82, 2) := DX8_useOf_0 (19, .bipush 82, 2) (List.mem_of_getElem? (i := 11) rfl)
theorem dX8_useOf_21 : decode cX8_useOf 21 = .ok (.iload_n 1, 1) := DX8_useOf_0 (21, .iload_n 1, 1) (List.mem_of_getElem? (i := 12) rfl)
theorem dX8_useOf_22 : decode cX8_useOf 22 = .ok (.iadd, 1) := DX8_useOf_0 (22, .iadd, 1) (List.mem_of_getElem? (i := 13) rfl)
theorem dX8_useOf_23 : decode cX8_useOf 23 = .ok (.iaload, 1) := DX8_useOf_0 (23, .iaload, 1) (List.mem_of_getElem? (i := 14) rfl)
theorem dX8_useOf_24 : decode cX8_useOf 24 = .ok (.istore_n 3, 1) := DX8_useOf_0 (24, .istore_n 3, 1) (List.mem_of_getElem? (i := 15) rfl)
theorem dX8_useOf_25 : decode cX8_useOf 25 = .ok (.aload_n 0, 1) := DX8_useOf_0 (25, .aload_n 0, 1) (List.mem_of_getElem? (i := 16) rfl)
theorem dX8_useOf_26 : decode cX8_useOf 26 = .ok (.getfield 7, 3) := DX8_useOf_0 (26, .getfield 7, 3) (List.mem_of_getElem? (i := 17) rfl)
theorem dX8_useOf_29 : decode cX8_useOf 29 = .ok (.bipush 82, 2) := DX8_useOf_0 (29, .bipush 82, 2) (List.mem_of_getElem? (i := 18) rfl)
theorem dX8_useOf_31 : decode cX8_useOf 31 = .ok (.iload_n 1, 1) := DX8_useOf_0 (31, .iload_n 1, 1) (List.mem_of_getElem? (i := 19) rfl)
theorem dX8_useOf_32 : decode cX8_useOf 32 = .ok (.iadd, 1) := DX8_useOf_0 (32, .iadd, 1) (List.mem_of_getElem? (i := 20) rfl)
theorem dX8_useOf_33 : decode cX8_useOf 33 = .ok (.aload_n 0, 1) := DX8_useOf_0 (33, .aload_n 0, 1) (List.mem_of_getElem? (i := 21) rfl)
theorem dX8_useOf_34 : decode cX8_useOf 34 = .ok (.getfield 7, 3) := DX8_useOf_0 (34, .getfield 7, 3) (List.mem_of_getElem? (i := 22) rfl)
theorem dX8_useOf_37 : decode cX8_useOf 37 = .ok (.bipush 51, 2) := DX8_useOf_0 (37, .bipush 51, 2) (List.mem_of_getElem? (i := 23) rfl)
theorem dX8_useOf_39 : decode cX8_useOf 39 = .ok (.iload_n 1, 1) := DX8_useOf_0 (39, .iload_n 1, 1) (List.mem_of_getElem? (i := 24) rfl)
theorem dX8_useOf_40 : decode cX8_useOf 40 = .ok (.iadd, 1) := DX8_useOf_0 (40, .iadd, 1) (List.mem_of_getElem? (i := 25) rfl)
theorem dX8_useOf_41 : decode cX8_useOf 41 = .ok (.iaload, 1) := DX8_useOf_0 (41, .iaload, 1) (List.mem_of_getElem? (i := 26) rfl)
theorem dX8_useOf_42 : decode cX8_useOf 42 = .ok (.iconst 1, 1) := DX8_useOf_0 (42, .iconst 1, 1) (List.mem_of_getElem? (i := 27) rfl)
theorem dX8_useOf_43 : decode cX8_useOf 43 = .ok (.isub, 1) := DX8_useOf_0 (43, .isub, 1) (List.mem_of_getElem? (i := 28) rfl)
theorem dX8_useOf_44 : decode cX8_useOf 44 = .ok (.iastore, 1) := DX8_useOf_0 (44, .iastore, 1) (List.mem_of_getElem? (i := 29) rfl)
theorem dX8_useOf_45 : decode cX8_useOf 45 = .ok (.aload_n 0, 1) := DX8_useOf_0 (45, .aload_n 0, 1) (List.mem_of_getElem? (i := 30) rfl)
theorem dX8_useOf_46 : decode cX8_useOf 46 = .ok (.invokevirtual 326, 3) := DX8_useOf_0 (46, .invokevirtual 326, 3) (List.mem_of_getElem? (i := 31) rfl)
theorem dX8_useOf_49 : decode cX8_useOf 49 = .ok (.istore 4, 2) := DX8_useOf_0 (49, .istore 4, 2) (List.mem_of_getElem? (i := 32) rfl)
theorem dX8_useOf_51 : decode cX8_useOf 51 = .ok (.aload_n 0, 1) := DX8_useOf_0 (51, .aload_n 0, 1) (List.mem_of_getElem? (i := 33) rfl)
theorem dX8_useOf_52 : decode cX8_useOf 52 = .ok (.getfield 7, 3) := DX8_useOf_0 (52, .getfield 7, 3) (List.mem_of_getElem? (i := 34) rfl)
theorem dX8_useOf_55 : decode cX8_useOf 55 = .ok (.bipush 82, 2) := DX8_useOf_0 (55, .bipush 82, 2) (List.mem_of_getElem? (i := 35) rfl)
theorem dX8_useOf_57 : decode cX8_useOf 57 = .ok (.iload_n 1, 1) := DX8_useOf_0 (57, .iload_n 1, 1) (List.mem_of_getElem? (i := 36) rfl)
theorem dX8_useOf_58 : decode cX8_useOf 58 = .ok (.iadd, 1) := DX8_useOf_0 (58, .iadd, 1) (List.mem_of_getElem? (i := 37) rfl)
theorem dX8_useOf_59 : decode cX8_useOf 59 = .ok (.iload_n 3, 1) := DX8_useOf_0 (59, .iload_n 3, 1) (List.mem_of_getElem? (i := 38) rfl)
theorem dX8_useOf_60 : decode cX8_useOf 60 = .ok (.iastore, 1) := DX8_useOf_0 (60, .iastore, 1) (List.mem_of_getElem? (i := 39) rfl)
theorem DX8_useOf_1 : ∀ q ∈ ([(61, .iload_n 2, 1), (62, .iload 4, 2), (64, .isub, 1), (65, .ireturn, 1)] : List (Nat × Instr × Nat)), decode cX8_useOf q.1 = .ok q.2 := by decide +kernel
theorem dX8_useOf_61 : decode cX8_useOf 61 = .ok (.iload_n 2, 1) := DX8_useOf_1 (61, .iload_n 2, 1) (List.mem_of_getElem? (i := 0) rfl)
theorem dX8_useOf_62 : decode cX8_useOf 62 = .ok (.iload 4, 2) := DX8_useOf_1 (62, .iload 4, 2) (List.mem_of_getElem? (i := 1) rfl)
theorem dX8_useOf_64 : decode cX8_useOf 64 = .ok (.isub, 1) := DX8_useOf_1 (64, .isub, 1) (List.mem_of_getElem? (i := 2) rfl)
theorem dX8_useOf_65 : decode cX8_useOf 65 = .ok (.ireturn, 1) := DX8_useOf_1 (65, .ireturn, 1) (List.mem_of_getElem? (i := 3) rfl)
abbrev rmX8_useOf : Room := { frames := 5, cells := 0, slots := 0, locals := 112 }
set_option maxHeartbeats 400000 in
set_option maxRecDepth 100000 in
theorem met_X8_useOf (l : Launch) (D : va_G) (kA : Nat → ClassId) (a : Nat → Nat) (n : Nat) (V0 : Sz) (x1 : Int) (hDt : ∀ w : Sz, va_D (fun _ => True) (cs_X8 kA a w)) {r : Int} {Vr : Sz} (hf : f_X8_useOf n V0 x1 = some (r, Vr)) : MZ l yX8_useOf cX8_useOf 5 (some .int) rmX8_useOf D kA [.ref (a 0), vI x1] (cs_X8 kA a V0) (cs_X8 kA a Vr) (some (vI r)) := by
  refine zZI (own := RX8) rfl rfl (Nat.le_of_ble_eq_true rfl) ?_
  intro p e s m args below meth c ls Q hC hK hP hl hret
  have hl : lv_has ls 5 [(0, .ref (a 0)), (1, vI x1)] := hl
  have hS : va_S (zF (cs_X8 kA a V0)) s.heap s.heap [] := va_S.rf
  have hD := zDself (C := fun w : Sz => (cs_X8 kA a w)) hDt V0 (fun _ => rfl)
  try dsimp only at hD
  generalize hAe : zF (cs_X8 kA a V0) = A0 at hS hD hret
  unfold f_X8_useOf at hf
  refine lv_aload_n hC.1 hC.2.1 dX8_useOf_0 rfl (lv_at hl 0 rfl) <| ziload_n hC.1 hC.2.1 dX8_useOf_1 rfl (lv_at hl 1 rfl) <| ?_
  obtain ⟨⟨r_1, V_2⟩, hu, hf⟩ := bd_some hf
  have hDc := hDt
  refine zcVZ (As := [vI x1]) (rest := []) hC hK (met_X8_noDeclaration l D kA a V0 x1 hDc hu) zwX8_272 hS (zFsub (hD V0) [0, 1, 2, 3, 4, 5, 6, 7, 8, 9, 10, 11, 12, 13, 14, 15, 16] rfl) hP (q0 := 0) rfl rfl rfl rfl hl.1 rfl (Nat.le_of_ble_eq_true rfl) ⟨Nat.le_of_ble_eq_true rfl, Nat.le_of_ble_eq_true rfl⟩ ⟨rfl, rfl⟩ ⟨Nat.le_refl _, Nat.le_refl _⟩ dX8_useOf_2 (fun H locs hP1 hk1 hS => ?_)
  have hP : va_P D vwCl (cs_X8 kA a V_2) H := hP1
  refine zifb_eq (tgt := 10) hC.1 hC.2.1 dX8_useOf_5 (by decide) (fun hc => ?_) (fun hc => ?_)
  · have hf := it_t hf hc
    refine lv_aload_n hC.1 hC.2.1 dX8_useOf_10 rfl (lv_at hl 0 rfl) <| ?_
    obtain ⟨⟨r_3, V_4⟩, hu, hf⟩ := bd_some hf
    have hDc := hDt
    refine zcVZ (As := []) (rest := []) hC hK (met_X8_allAid l D kA a n V_2 hDc hu) zwX8_326 hS (zFsub (hD V_2) [0, 1, 2, 3, 4, 5, 6, 7, 8, 9, 10, 11, 12, 13, 14, 15, 16] rfl) hP (q0 := 0) rfl rfl rfl rfl hl.1 rfl (Nat.le_of_ble_eq_true rfl) ⟨Nat.le_of_ble_eq_true rfl, Nat.le_of_ble_eq_true rfl⟩ ⟨rfl, rfl⟩ ⟨Nat.le_refl _, Nat.le_refl _⟩ dX8_useOf_11 (fun H locs hP1 hk1 hS => ?_)
    have hP : va_P D vwCl (cs_X8 kA a V_4) H := hP1
    refine zistore_n (lv' := [(2, vI r_3), (0, .ref (a 0)), (1, vI x1)]) hC.1 hC.2.1 dX8_useOf_14 rfl hl (by decide) rfl (fun ls hl => ?_)
    refine lv_aload_n hC.1 hC.2.1 dX8_useOf_15 rfl (lv_at hl 1 rfl) <| gfX8_7 hC hK hP (q0 := 0) rfl rfl dX8_useOf_16 <| zbipush hC.1 hC.2.1 dX8_useOf_19 (by decide) <| ziload_n hC.1 hC.2.1 dX8_useOf_21 rfl (lv_at hl 2 rfl) <| ziadd hC.1 hC.2.1 dX8_useOf_22 <| ?_
    obtain ⟨hz_5, hf⟩ := ck_some hf
    refine jal hC hK hP (q0 := 1) rfl (Nat.le_of_ble_eq_true rfl) hz_5 rfl dX8_useOf_23 <| ?_
    refine ztopi (fun x_6 ex_6 => ?_)
    have hf := nm_at hf ex_6
    refine zistore_n (lv' := [(3, vI x_6), (2, vI r_3), (0, .ref (a 0)), (1, vI x1)]) hC.1 hC.2.1 dX8_useOf_24 rfl hl (by decide) rfl (fun ls hl => ?_)
    refine lv_aload_n hC.1 hC.2.1 dX8_useOf_25 rfl (lv_at hl 2 rfl) <| gfX8_7 hC hK hP (q0 := 0) rfl rfl dX8_useOf_26 <| zbipush hC.1 hC.2.1 dX8_useOf_29 (by decide) <| ziload_n hC.1 hC.2.1 dX8_useOf_31 rfl (lv_at hl 3 rfl) <| ziadd hC.1 hC.2.1 dX8_useOf_32 <| lv_aload_n hC.1 hC.2.1 dX8_useOf_33 rfl (lv_at hl 2 rfl) <| gfX8_7 hC hK hP (q0 := 0) rfl rfl dX8_useOf_34 <| zbipush hC.1 hC.2.1 dX8_useOf_37 (by decide) <| ziload_n hC.1 hC.2.1 dX8_useOf_39 rfl (lv_at hl 3 rfl) <| ziadd hC.1 hC.2.1 dX8_useOf_40 <| ?_
    obtain ⟨hz_7, hf⟩ := ck_some hf
    refine jal hC hK hP (q0 := 1) rfl (Nat.le_of_ble_eq_true rfl) hz_7 rfl dX8_useOf_41 <| ziconst hC.1 hC.2.1 dX8_useOf_42 <| zisub hC.1 hC.2.1 dX8_useOf_43 <| ?_
    refine jas hC hK hP (hD V_4) hS (q0 := 1) rfl (Nat.le_of_ble_eq_true rfl) hz_5 rfl dX8_useOf_44 (fun H locs hP hS => ?_)
    obtain ⟨V_8, eV_8⟩ : ∃ y, y = uz V_4 0 (82 + x1).toNat ((V_4 0 (51 + x1).toNat) - 1) := ⟨_, rfl⟩
    have hf := nm_at hf eV_8
    have hP : va_P D vwCl (cs_X8 kA a V_8) H := by rw [eV_8]; exact hP
    refine lv_aload_n hC.1 hC.2.1 dX8_useOf_45 rfl (lv_at hl 2 rfl) <| ?_
    obtain ⟨⟨r_9, V_10⟩, hu, hf⟩ := bd_some hf
    have hDc := hDt
    refine zcVZ (As := []) (rest := []) hC hK (met_X8_allAid l D kA a n V_8 hDc hu) zwX8_326 hS (zFsub (hD V_8) [0, 1, 2, 3, 4, 5, 6, 7, 8, 9, 10, 11, 12, 13, 14, 15, 16] rfl) hP (q0 := 0) rfl rfl rfl rfl hl.1 rfl (Nat.le_of_ble_eq_true rfl) ⟨Nat.le_of_ble_eq_true rfl, Nat.le_of_ble_eq_true rfl⟩ ⟨rfl, rfl⟩ ⟨Nat.le_refl _, Nat.le_refl _⟩ dX8_useOf_46 (fun H locs hP1 hk1 hS => ?_)
    have hP : va_P D vwCl (cs_X8 kA a V_10) H := hP1
    refine zistore (lv' := [(4, vI r_9), (3, vI x_6), (2, vI r_3), (0, .ref (a 0)), (1, vI x1)]) hC.1 hC.2.1 dX8_useOf_49 hl (by decide) rfl (fun ls hl => ?_)
    refine lv_aload_n hC.1 hC.2.1 dX8_useOf_51 rfl (lv_at hl 3 rfl) <| gfX8_7 hC hK hP (q0 := 0) rfl rfl dX8_useOf_52 <| zbipush hC.1 hC.2.1 dX8_useOf_55 (by decide) <| ziload_n hC.1 hC.2.1 dX8_useOf_57 rfl (lv_at hl 4 rfl) <| ziadd hC.1 hC.2.1 dX8_useOf_58 <| ziload_n hC.1 hC.2.1 dX8_useOf_59 rfl (lv_at hl 1 rfl) <| ?_
    refine jas hC hK hP (hD V_10) hS (q0 := 1) rfl (Nat.le_of_ble_eq_true rfl) hz_5 rfl dX8_useOf_60 (fun H locs hP hS => ?_)
    obtain ⟨V_11, eV_11⟩ : ∃ y, y = uz V_10 0 (82 + x1).toNat x_6 := ⟨_, rfl⟩
    have hf := nm_at hf eV_11
    have hP : va_P D vwCl (cs_X8 kA a V_11) H := by rw [eV_11]; exact hP
    refine ziload_n hC.1 hC.2.1 dX8_useOf_61 rfl (lv_at hl 2 rfl) <| ziload hC.1 hC.2.1 dX8_useOf_62 (lv_at hl 0 rfl) <| zisub hC.1 hC.2.1 dX8_useOf_64 <| ?_
    have hf := Option.some.inj hf
    simp only [Prod.mk.injEq] at hf
    exact hret (Int32.ofInt (r_3 - r_9)) _ _ _ _ (congrArg (fun z => some (vI z)) hf.1.symm) (by rw [← hf.2]; exact hP) hS dX8_useOf_65
  · have hf := it_f hf hc
    refine ziconst hC.1 hC.2.1 dX8_useOf_8 <| ?_
    have hf := Option.some.inj hf
    simp only [Prod.mk.injEq] at hf
    exact hret (Int32.ofInt 0) _ _ _ _ (congrArg (fun z => some (vI z)) hf.1.symm) (by rw [← hf.2]; exact hP) hS dX8_useOf_9
theorem DX8_benefitRoom_0 : ∀ q ∈ ([(0, .aload_n 0, 1), (1, .iload_n 1, 1), (2, .invokevirtual 265, 3), (5, .ifCond .eq 7, 3), (8, .iconst 0, 1), (9, .goto 24, 3), (12, .aload_n 0, 1), (13, .getfield 7, 3), (16, .bipush 7, 2), (18, .iaload, 1), (19, .aload_n 0, 1), (20, .getfield 7, 3), (23, .sipush 173, 3), (26, .iload_n 1, 1), (27, .iadd, 1), (28, .iaload, 1), (29, .imul, 1), (30, .bipush 100, 2), (32, .idiv, 1), (33, .ireturn, 1)] : List (Nat × Instr × Nat)), decode cX8_benefitRoom q.1 = .ok q.2 := by decide +kernel
theorem dX8_benefitRoom_0 : decode cX8_benefitRoom 0 = .ok (.aload_n 0, 1) := DX8_benefitRoom_0 (0, .aload_n 0, 1) (List.mem_of_getElem? (i := 0) rfl)
theorem dX8_benefitRoom_1 : decode cX8_benefitRoom 1 = .ok (.iload_n 1, 1) := DX8_benefitRoom_0 (1, .iload_n 1, 1) (List.mem_of_getElem? (i := 1) rfl)
theorem dX8_benefitRoom_2 : decode cX8_benefitRoom 2 = .ok (.invokevirtual 265, 3) := DX8_benefitRoom_0 (2, .invokevirtual 265, 3) (List.mem_of_getElem? (i := 2) rfl)
theorem dX8_benefitRoom_5 : decode cX8_benefitRoom 5 = .ok (.ifCond .eq 7, 3) := DX8_benefitRoom_0 (5, .ifCond .eq 7, 3) (List.mem_of_getElem? (i := 3) rfl)
theorem dX8_benefitRoom_8 : decode cX8_benefitRoom 8 = .ok (.iconst 0, 1) := DX8_benefitRoom_0 (8, .iconst 0, 1) (List.mem_of_getElem? (i := 4) rfl)
theorem dX8_benefitRoom_9 : decode cX8_benefitRoom 9 = .ok (.goto 24, 3) := DX8_benefitRoom_0 (9, .goto 24, 3) (List.mem_of_getElem? (i := 5) rfl)
theorem dX8_benefitRoom_12 : decode cX8_benefitRoom 12 = .ok (.aload_n 0, 1) := DX8_benefitRoom_0 (12, .aload_n 0, 1) (List.mem_of_getElem? (i := 6) rfl)
theorem dX8_benefitRoom_13 : decode cX8_benefitRoom 13 = .ok (.getfield 7, 3) := DX8_benefitRoom_0 (13, .getfield 7, 3) (List.mem_of_getElem? (i := 7) rfl)
theorem dX8_benefitRoom_16 : decode cX8_benefitRoom 16 = .ok (.bipush 7, 2) := DX8_benefitRoom_0 (16, .bipush 7, 2) (List.mem_of_getElem? (i := 8) rfl)
theorem dX8_benefitRoom_18 : decode cX8_benefitRoom 18 = .ok (.iaload, 1) := DX8_benefitRoom_0 (18, .iaload, 1) (List.mem_of_getElem? (i := 9) rfl)
theorem dX8_benefitRoom_19 : decode cX8_benefitRoom 19 = .ok (.aload_n 0, 1) := DX8_benefitRoom_0 (19, .aload_n 0, 1) (List.mem_of_getElem? (i := 10) rfl)
theorem dX8_benefitRoom_20 : decode cX8_benefitRoom 20 = .ok (.getfield 7, 3) := DX8_benefitRoom_0 (20, .getfield 7, 3) (List.mem_of_getElem? (i := 11) rfl)
theorem dX8_benefitRoom_23 : decode cX8_benefitRoom 23 = .ok (.sipush 173, 3) := DX8_benefitRoom_0 (23, .sipush 173, 3) (List.mem_of_getElem? (i := 12) rfl)
theorem dX8_benefitRoom_26 : decode cX8_benefitRoom 26 = .ok (.iload_n 1, 1) := DX8_benefitRoom_0 (26, .iload_n 1, 1) (List.mem_of_getElem? (i := 13) rfl)
theorem dX8_benefitRoom_27 : decode cX8_benefitRoom 27 = .ok (.iadd, 1) := DX8_benefitRoom_0 (27, .iadd, 1) (List.mem_of_getElem? (i := 14) rfl)
theorem dX8_benefitRoom_28 : decode cX8_benefitRoom 28 = .ok (.iaload, 1) := DX8_benefitRoom_0 (28, .iaload, 1) (List.mem_of_getElem? (i := 15) rfl)
theorem dX8_benefitRoom_29 : decode cX8_benefitRoom 29 = .ok (.imul, 1) := DX8_benefitRoom_0 (29, .imul, 1) (List.mem_of_getElem? (i := 16) rfl)
theorem dX8_benefitRoom_30 : decode cX8_benefitRoom 30 = .ok (.bipush 100, 2) := DX8_benefitRoom_0 (30, .bipush 100, 2) (List.mem_of_getElem? (i := 17) rfl)
theorem dX8_benefitRoom_32 : decode cX8_benefitRoom 32 = .ok (.idiv, 1) := DX8_benefitRoom_0 (32, .idiv, 1) (List.mem_of_getElem? (i := 18) rfl)
theorem dX8_benefitRoom_33 : decode cX8_benefitRoom 33 = .ok (.ireturn, 1) := DX8_benefitRoom_0 (33, .ireturn, 1) (List.mem_of_getElem? (i := 19) rfl)
abbrev rmX8_benefitRoom : Room := { frames := 2, cells := 0, slots := 0, locals := 43 }
set_option maxHeartbeats 400000 in
set_option maxRecDepth 100000 in
theorem met_X8_benefitRoom (l : Launch) (D : va_G) (kA : Nat → ClassId) (a : Nat → Nat) (V0 : Sz) (x1 : Int) (hDt : ∀ w : Sz, va_D (fun _ => True) (cs_X8 kA a w)) {r : Int} {Vr : Sz} (hf : f_X8_benefitRoom V0 x1 = some (r, Vr)) : MZ l yX8_benefitRoom cX8_benefitRoom 2 (some .int) rmX8_benefitRoom D kA [.ref (a 0), vI x1] (cs_X8 kA a V0) (cs_X8 kA a Vr) (some (vI r)) := by
  refine zZI (own := RX8) rfl rfl (Nat.le_of_ble_eq_true rfl) ?_
  intro p e s m args below meth c ls Q hC hK hP hl hret
  have hl : lv_has ls 2 [(0, .ref (a 0)), (1, vI x1)] := hl
  have hS : va_S (zF (cs_X8 kA a V0)) s.heap s.heap [] := va_S.rf
  have hD := zDself (C := fun w : Sz => (cs_X8 kA a w)) hDt V0 (fun _ => rfl)
  try dsimp only at hD
  generalize hAe : zF (cs_X8 kA a V0) = A0 at hS hD hret
  unfold f_X8_benefitRoom at hf
  refine lv_aload_n hC.1 hC.2.1 dX8_benefitRoom_0 rfl (lv_at hl 0 rfl) <| ziload_n hC.1 hC.2.1 dX8_benefitRoom_1 rfl (lv_at hl 1 rfl) <| ?_
  obtain ⟨⟨r_1, V_2⟩, hu, hf⟩ := bd_some hf
  have hDc := hDt
  refine zcVZ (As := [vI x1]) (rest := []) hC hK (met_X8_noGift l D kA a V0 x1 hDc hu) zwX8_265 hS (zFsub (hD V0) [0, 1, 2, 3, 4, 5, 6, 7, 8, 9, 10, 11, 12, 13, 14, 15, 16] rfl) hP (q0 := 0) rfl rfl rfl rfl hl.1 rfl (Nat.le_of_ble_eq_true rfl) ⟨Nat.le_of_ble_eq_true rfl, Nat.le_of_ble_eq_true rfl⟩ ⟨rfl, rfl⟩ ⟨Nat.le_refl _, Nat.le_refl _⟩ dX8_benefitRoom_2 (fun H locs hP1 hk1 hS => ?_)
  have hP : va_P D vwCl (cs_X8 kA a V_2) H := hP1
  refine zifb_eq (tgt := 12) hC.1 hC.2.1 dX8_benefitRoom_5 (by decide) (fun hc => ?_) (fun hc => ?_)
  · have hf := it_t hf hc
    refine lv_aload_n hC.1 hC.2.1 dX8_benefitRoom_12 rfl (lv_at hl 0 rfl) <| gfX8_7 hC hK hP (q0 := 0) rfl rfl dX8_benefitRoom_13 <| zbipush hC.1 hC.2.1 dX8_benefitRoom_16 (by decide) <| jal hC hK hP (q0 := 1) rfl (Nat.le_of_ble_eq_true rfl) (by decide) rfl dX8_benefitRoom_18 <| lv_aload_n hC.1 hC.2.1 dX8_benefitRoom_19 rfl (lv_at hl 0 rfl) <| gfX8_7 hC hK hP (q0 := 0) rfl rfl dX8_benefitRoom_20 <| zsipush hC.1 hC.2.1 dX8_benefitRoom_23 (by decide) <| ziload_n hC.1 hC.2.1 dX8_benefitRoom_26 rfl (lv_at hl 1 rfl) <| ziadd hC.1 hC.2.1 dX8_benefitRoom_27 <| ?_
    obtain ⟨hz_3, hf⟩ := ck_some hf
    refine jal hC hK hP (q0 := 1) rfl (Nat.le_of_ble_eq_true rfl) hz_3 rfl dX8_benefitRoom_28 <| zimul hC.1 hC.2.1 dX8_benefitRoom_29 <| zbipush hC.1 hC.2.1 dX8_benefitRoom_30 (by decide) <| ?_
    obtain ⟨hz_4, hf⟩ := ck_some hf
    refine zidiv hC.1 hC.2.1 ⟨hz_4.1, hz_4.2, by decide, by decide⟩ dX8_benefitRoom_32 <| ?_
    have hf := Option.some.inj hf
    simp only [Prod.mk.injEq] at hf
    exact hret (Int32.ofInt (((V_2 0 7) * (V_2 0 (173 + x1).toNat)) / 100)) _ _ _ _ (congrArg (fun z => some (vI z)) hf.1.symm) (by rw [← hf.2]; exact hP) hS dX8_benefitRoom_33
  · have hf := it_f hf hc
    refine ziconst hC.1 hC.2.1 dX8_benefitRoom_8 <| lv_goto (tgt := 33) hC.1 hC.2.1 dX8_benefitRoom_9 (by decide) <| ?_
    have hf := Option.some.inj hf
    simp only [Prod.mk.injEq] at hf
    exact hret (Int32.ofInt 0) _ _ _ _ (congrArg (fun z => some (vI z)) hf.1.symm) (by rw [← hf.2]; exact hP) hS dX8_benefitRoom_33
theorem DX8_topDonor_0 : ∀ q ∈ ([(0, .aload_n 0, 1), (1, .iconst 0, 1), (2, .putfield 65, 3), (5, .aload_n 0, 1), (6, .iload_n 1, 1), (7, .iconst 0, 1), (8, .iconst 4, 1), (9, .invokestatic 79, 3), (12, .ifCond .ne 7, 3), (15, .iconst 1, 1), (16, .goto 4, 3), (19, .iconst 0, 1), (20, .iconst 1, 1), (21, .invokevirtual 261, 3), (24, .ifCond .eq 5, 3), (27, .iconst 0, 1), (28, .ireturn, 1), (29, .aload_n 0, 1), (30, .invokevirtual 121, 3), (33, .iconst (-1), 1), (34, .istore_n 2, 1), (35, .iconst 0, 1), (36, .istore_n 3, 1), (37, .iload_n 3, 1), (38, .aload_n 0, 1), (39, .getfield 7, 3), (42, .iconst 0, 1), (43, .iaload, 1), (44, .if_icmp .ge 33, 3), (47, .iload_n 2, 1), (48, .iconst (-1), 1), (49, .if_icmp .eq 20, 3), (52, .aload_n 0, 1), (53, .iload_n 3, 1), (54, .iload_n 1, 1), (55, .iconst (-1), 1), (56, .invokevirtual 290, 3), (59, .aload_n 0, 1), (60, .iload_n 2, 1), (61, .iload_n 1, 1)] : List (Nat × Instr × Nat)), decode cX8_topDonor q.1 = .ok q.2 := by decide +kernel
theorem dX8_topDonor_0 : decode cX8_topDonor 0 = .ok (.aload_n 0, 1) := DX8_topDonor_0 (0, .aload_n 0, 1) (List.mem_of_getElem? (i := 0) rfl)
theorem dX8_topDonor_1 : decode cX8_topDonor 1 = .ok (.iconst 0, 1) := DX8_topDonor_0 (1, .iconst 0, 1) (List.mem_of_getElem? (i := 1) rfl)
theorem dX8_topDonor_2 : decode cX8_topDonor 2 = .ok (.putfield 65, 3) := DX8_topDonor_0 (2, .putfield 65, 3) (List.mem_of_getElem? (i := 2) rfl)
theorem dX8_topDonor_5 : decode cX8_topDonor 5 = .ok (.aload_n 0, 1) := DX8_topDonor_0 (5, .aload_n 0, 1) (List.mem_of_getElem? (i := 3) rfl)
theorem dX8_topDonor_6 : decode cX8_topDonor 6 = .ok (.iload_n 1, 1) := DX8_topDonor_0 (6, .iload_n 1, 1) (List.mem_of_getElem? (i := 4) rfl)
theorem dX8_topDonor_7 : decode cX8_topDonor 7 = .ok (.iconst 0, 1) := DX8_topDonor_0 (7, .iconst 0, 1) (List.mem_of_getElem? (i := 5) rfl)
theorem dX8_topDonor_8 : decode cX8_topDonor 8 = .ok (.iconst 4, 1) := DX8_topDonor_0 (8, .iconst 4, 1) (List.mem_of_getElem? (i := 6) rfl)
theorem dX8_topDonor_9 : decode cX8_topDonor 9 = .ok (.invokestatic 79, 3) := DX8_topDonor_0 (9, .invokestatic 79, 3) (List.mem_of_getElem? (i := 7) rfl)
theorem dX8_topDonor_12 : decode cX8_topDonor 12 = .ok (.ifCond .ne 7, 3) := DX8_topDonor_0 (12, .ifCond .ne 7, 3) (List.mem_of_getElem? (i := 8) rfl)
theorem dX8_topDonor_15 : decode cX8_topDonor 15 = .ok (.iconst 1, 1) := DX8_topDonor_0 (15, .iconst 1, 1) (List.mem_of_getElem? (i := 9) rfl)
theorem dX8_topDonor_16 : decode cX8_topDonor 16 = .ok (.goto 4, 3) := DX8_topDonor_0 (16, .goto 4, 3) (List.mem_of_getElem? (i := 10) rfl)
theorem dX8_topDonor_19 : decode cX8_topDonor 19 = .ok (.iconst 0, 1) := DX8_topDonor_0 (19, .iconst 0, 1) (List.mem_of_getElem? (i := 11) rfl)
theorem dX8_topDonor_20 : decode cX8_topDonor 20 = .ok (.iconst 1, 1) := DX8_topDonor_0 (20, .iconst 1, 1) (List.mem_of_getElem? (i := 12) rfl)
theorem dX8_topDonor_21 : decode cX8_topDonor 21 = .ok (.invokevirtual 261, 3) := DX8_topDonor_0 (21, .invokevirtual 261, 3) (List.mem_of_getElem? (i := 13) rfl)
theorem dX8_topDonor_24 : decode cX8_topDonor 24 = .ok (.ifCond .eq 5, 3) := DX8_topDonor_0 (24, .ifCond .eq 5, 3) (List.mem_of_getElem? (i := 14) rfl)
theorem dX8_topDonor_27 : decode cX8_topDonor 27 = .ok (.iconst 0, 1) := DX8_topDonor_0 (27, .iconst 0, 1) (List.mem_of_getElem? (i := 15) rfl)
theorem dX8_topDonor_28 : decode cX8_topDonor 28 = .ok (.ireturn, 1) := DX8_topDonor_0 (28, .ireturn, 1) (List.mem_of_getElem? (i := 16) rfl)
theorem dX8_topDonor_29 : decode cX8_topDonor 29 = .ok (.aload_n 0, 1) := DX8_topDonor_0 (29, .aload_n 0, 1) (List.mem_of_getElem? (i := 17) rfl)
theorem dX8_topDonor_30 : decode cX8_topDonor 30 = .ok (.invokevirtual 121, 3) := DX8_topDonor_0 (30, .invokevirtual 121, 3) (List.mem_of_getElem? (i := 18) rfl)
theorem dX8_topDonor_33 : decode cX8_topDonor 33 = .ok (.iconst (-1), 1) := DX8_topDonor_0 (33, .iconst (-1), 1) (List.mem_of_getElem? (i := 19) rfl)
theorem dX8_topDonor_34 : decode cX8_topDonor 34 = .ok (.istore_n 2, 1) := DX8_topDonor_0 (34, .istore_n 2, 1) (List.mem_of_getElem? (i := 20) rfl)
theorem dX8_topDonor_35 : decode cX8_topDonor 35 = .ok (.iconst 0, 1) := DX8_topDonor_0 (35, .iconst 0, 1) (List.mem_of_getElem? (i := 21) rfl)
theorem dX8_topDonor_36 : decode cX8_topDonor 36 = .ok (.istore_n 3, 1) := DX8_topDonor_0 (36, .istore_n 3, 1) (List.mem_of_getElem? (i := 22) rfl)
theorem dX8_topDonor_37 : decode cX8_topDonor 37 = .ok (.iload_n 3, 1) := DX8_topDonor_0 (37, .iload_n 3, 1) (List.mem_of_getElem? (i := 23) rfl)
theorem dX8_topDonor_38 : decode cX8_topDonor 38 = .ok (.aload_n 0, 1) := DX8_topDonor_0 (38, .aload_n 0, 1) (List.mem_of_getElem? (i := 24) rfl)
theorem dX8_topDonor_39 : decode cX8_topDonor 39 = .ok (.getfield 7, 3) := DX8_topDonor_0 (39, .getfield 7, 3) (List.mem_of_getElem? (i := 25) rfl)
theorem dX8_topDonor_42 : decode cX8_topDonor 42 = .ok (.iconst 0, 1) := DX8_topDonor_0 (42, .iconst 0, 1) (List.mem_of_getElem? (i := 26) rfl)
theorem dX8_topDonor_43 : decode cX8_topDonor 43 = .ok (.iaload, 1) := DX8_topDonor_0 (43, .iaload, 1) (List.mem_of_getElem? (i := 27) rfl)
theorem dX8_topDonor_44 : decode cX8_topDonor 44 = .ok (.if_icmp .ge 33, 3) := DX8_topDonor_0 (44, .if_icmp .ge 33, 3) (List.mem_of_getElem? (i := 28) rfl)
theorem dX8_topDonor_47 : decode cX8_topDonor 47 = .ok (.iload_n 2, 1) := DX8_topDonor_0 (47, .iload_n 2, 1) (List.mem_of_getElem? (i := 29) rfl)
theorem dX8_topDonor_48 : decode cX8_topDonor 48 = .ok (.iconst (-1), 1) := DX8_topDonor_0 (48, .iconst (-1), 1) (List.mem_of_getElem? (i := 30) rfl)
theorem dX8_topDonor_49 : decode cX8_topDonor 49 = .ok (.if_icmp .eq 20, 3) := DX8_topDonor_0 (49, .if_icmp .eq 20, 3) (List.mem_of_getElem? (i := 31) rfl)
theorem dX8_topDonor_52 : decode cX8_topDonor 52 = .ok (.aload_n 0, 1) := DX8_topDonor_0 (52, .aload_n 0, 1) (List.mem_of_getElem? (i := 32) rfl)
theorem dX8_topDonor_53 : decode cX8_topDonor 53 = .ok (.iload_n 3, 1) := DX8_topDonor_0 (53, .iload_n 3, 1) (List.mem_of_getElem? (i := 33) rfl)
theorem dX8_topDonor_54 : decode cX8_topDonor 54 = .ok (.iload_n 1, 1) := DX8_topDonor_0 (54, .iload_n 1, 1) (List.mem_of_getElem? (i := 34) rfl)
theorem dX8_topDonor_55 : decode cX8_topDonor 55 = .ok (.iconst (-1), 1) := DX8_topDonor_0 (55, .iconst (-1), 1) (List.mem_of_getElem? (i := 35) rfl)
theorem dX8_topDonor_56 : decode cX8_topDonor 56 = .ok (.invokevirtual 290, 3) := DX8_topDonor_0 (56, .invokevirtual 290, 3) (List.mem_of_getElem? (i := 36) rfl)
theorem dX8_topDonor_59 : decode cX8_topDonor 59 = .ok (.aload_n 0, 1) := DX8_topDonor_0 (59, .aload_n 0, 1) (List.mem_of_getElem? (i := 37) rfl)
theorem dX8_topDonor_60 : decode cX8_topDonor 60 = .ok (.iload_n 2, 1) := DX8_topDonor_0 (60, .iload_n 2, 1) (List.mem_of_getElem? (i := 38) rfl)
theorem dX8_topDonor_61 : decode cX8_topDonor 61 = .ok (.iload_n 1, 1) := DX8_topDonor_0 (61, .iload_n 1, 1) (List.mem_of_getElem? (i := 39) rfl)
theorem DX8_topDonor_1 : ∀ q ∈ ([(62, .iconst (-1), 1), (63, .invokevirtual 290, 3), (66, .if_icmp .le 5, 3), (69, .iload_n 3, 1), (70, .istore_n 2, 1), (71, .iinc 3 1, 3), (74, .goto (-37), 3), (77, .iload_n 2, 1), (78, .ireturn, 1)] : List (Nat × Instr × Nat)), decode cX8_topDonor q.1 = .ok q.2 := by decide +kernel
theorem dX8_topDonor_62 : decode cX8_topDonor 62 = .ok (.iconst (-1), 1) := DX8_topDonor_1 (62, .iconst (-1), 1) (List.mem_of_getElem? (i := 0) rfl)
theorem dX8_topDonor_63 : decode cX8_topDonor 63 = .ok (.invokevirtual 290, 3) := DX8_topDonor_1 (63, .invokevirtual 290, 3) (List.mem_of_getElem? (i := 1) rfl)
theorem dX8_topDonor_66 : decode cX8_topDonor 66 = .ok (.if_icmp .le 5, 3) := DX8_topDonor_1 (66, .if_icmp .le 5, 3) (List.mem_of_getElem? (i := 2) rfl)
theorem dX8_topDonor_69 : decode cX8_topDonor 69 = .ok (.iload_n 3, 1) := DX8_topDonor_1 (69, .iload_n 3, 1) (List.mem_of_getElem? (i := 3) rfl)
theorem dX8_topDonor_70 : decode cX8_topDonor 70 = .ok (.istore_n 2, 1) := DX8_topDonor_1 (70, .istore_n 2, 1) (List.mem_of_getElem? (i := 4) rfl)
theorem dX8_topDonor_71 : decode cX8_topDonor 71 = .ok (.iinc 3 1, 3) := DX8_topDonor_1 (71, .iinc 3 1, 3) (List.mem_of_getElem? (i := 5) rfl)
theorem dX8_topDonor_74 : decode cX8_topDonor 74 = .ok (.goto (-37), 3) := DX8_topDonor_1 (74, .goto (-37), 3) (List.mem_of_getElem? (i := 6) rfl)
theorem dX8_topDonor_77 : decode cX8_topDonor 77 = .ok (.iload_n 2, 1) := DX8_topDonor_1 (77, .iload_n 2, 1) (List.mem_of_getElem? (i := 7) rfl)
theorem dX8_topDonor_78 : decode cX8_topDonor 78 = .ok (.ireturn, 1) := DX8_topDonor_1 (78, .ireturn, 1) (List.mem_of_getElem? (i := 8) rfl)
abbrev rmX8_topDonor : Room := { frames := 4, cells := 0, slots := 0, locals := 90 }
set_option maxHeartbeats 400000 in
set_option maxRecDepth 100000 in
theorem met_X8_topDonor (l : Launch) (D : va_G) (kA : Nat → ClassId) (a : Nat → Nat) (n : Nat) (V0 : Sz) (x1 : Int) (hDt : ∀ w : Sz, va_D (fun _ => True) (cs_X8 kA a w)) {r : Int} {Vr : Sz} (hf : f_X8_topDonor n V0 x1 = some (r, Vr)) : MZ l yX8_topDonor cX8_topDonor 4 (some .int) rmX8_topDonor D kA [.ref (a 0), vI x1] (cs_X8 kA a V0) (cs_X8 kA a Vr) (some (vI r)) := by
  refine zZI (own := RX8) rfl rfl (Nat.le_of_ble_eq_true rfl) ?_
  intro p e s m args below meth c ls Q hC hK hP hl hret
  have hl : lv_has ls 4 [(0, .ref (a 0)), (1, vI x1)] := hl
  have hS : va_S (zF (cs_X8 kA a V0)) s.heap s.heap [] := va_S.rf
  have hD := zDself (C := fun w : Sz => (cs_X8 kA a w)) hDt V0 (fun _ => rfl)
  try dsimp only at hD
  generalize hAe : zF (cs_X8 kA a V0) = A0 at hS hD hret
  unfold f_X8_topDonor at hf
  have L37 : ∀ (k37 : Nat) (y2 : Int) (y3 : Int) (V : Sz) (H : Heap) (locs : List Loc) (ls : Array Slot), lpF (bX8_topDonor_37 n x1) k37 (y2, y3, V) = some (r, Vr) → va_P D vwCl (cs_X8 kA a V) H → va_S A0 s.heap H locs → lv_has ls 4 [(0, .ref (a 0)), (1, vI x1), (2, vI y2), (3, vI y3)] → W p l e rmX8_topDonor s m args below meth c H locs 0 0 Q (F0 m 37 ls []) := by
    intro k37
    induction k37 with
    | zero => intro y2 y3 V H locs ls hf hP hS hl; exact lp_0 hf
    | succ k37 ih37 =>
      intro y2 y3 V H locs ls hf hP hS hl
      have hf := lp_s hf
      rw [bX8_topDonor_37_e] at hf
      have J71 : ∀ (y2 : Int) (y3 : Int) (V : Sz) (H : Heap) (locs : List Loc) (ls : Array Slot), jX8_topDonor_71 n x1 (lpF (bX8_topDonor_37 n x1) k37) y2 y3 V = some (r, Vr) → va_P D vwCl (cs_X8 kA a V) H → va_S A0 s.heap H locs → lv_has ls 4 [(0, .ref (a 0)), (1, vI x1), (2, vI y2), (3, vI y3)] → W p l e rmX8_topDonor s m args below meth c H locs 0 0 Q (F0 m 71 ls []) := by
        intro y2 y3 V H locs ls hf hP hS hl
        unfold jX8_topDonor_71 at hf
        obtain ⟨x_8, ex_8⟩ : ∃ y : Int, y = y3 + 1 := ⟨_, rfl⟩
        have hf := nm_at hf ex_8
        refine ziinc (v := x_8) (lv' := [(3, vI x_8), (0, .ref (a 0)), (1, vI x1), (2, vI y2)]) hC.1 hC.2.1 dX8_topDonor_71 hl (k := 3) rfl ex_8 (by decide) rfl (fun ls hl => ?_)
        exact lv_goto (tgt := 37) hC.1 hC.2.1 dX8_topDonor_74 (by decide) <| ih37 _ _ _ _ _ _ hf hP hS (lv_sub hl [1, 2, 3, 0] rfl)
      have J69 : ∀ (y3 : Int) (V : Sz) (H : Heap) (locs : List Loc) (ls : Array Slot), jX8_topDonor_69 n x1 (lpF (bX8_topDonor_37 n x1) k37) y3 V = some (r, Vr) → va_P D vwCl (cs_X8 kA a V) H → va_S A0 s.heap H locs → lv_has ls 4 [(0, .ref (a 0)), (1, vI x1), (3, vI y3)] → W p l e rmX8_topDonor s m args below meth c H locs 0 0 Q (F0 m 69 ls []) := by
        intro y3 V H locs ls hf hP hS hl
        unfold jX8_topDonor_69 at hf
        refine ziload_n hC.1 hC.2.1 dX8_topDonor_69 rfl (lv_at hl 2 rfl) <| zistore_n (lv' := [(2, vI y3), (0, .ref (a 0)), (1, vI x1), (3, vI y3)]) hC.1 hC.2.1 dX8_topDonor_70 rfl hl (by decide) rfl (fun ls hl => ?_)
        exact J71 _ _ _ _ _ _ hf hP hS (lv_sub hl [1, 2, 0, 3] rfl)
      refine ziload_n hC.1 hC.2.1 dX8_topDonor_37 rfl (lv_at hl 3 rfl) <| lv_aload_n hC.1 hC.2.1 dX8_topDonor_38 rfl (lv_at hl 0 rfl) <| gfX8_7 hC hK hP (q0 := 0) rfl rfl dX8_topDonor_39 <| ziconst hC.1 hC.2.1 dX8_topDonor_42 <| jal hC hK hP (q0 := 1) rfl (Nat.le_of_ble_eq_true rfl) (by decide) rfl dX8_topDonor_43 <| ?_
      obtain ⟨hz_6, hf⟩ := ck_some hf
      refine zicmp_ge (tgt := 77) hC.1 hC.2.1 ⟨hz_6.1, hz_6.2⟩ dX8_topDonor_44 (by decide) (fun hc => ?_) (fun hc => ?_)
      · have hf := it_t hf hc
        refine ziload_n hC.1 hC.2.1 dX8_topDonor_77 rfl (lv_at hl 2 rfl) <| ?_
        have hf := Option.some.inj hf
        simp only [Prod.mk.injEq] at hf
        exact hret (Int32.ofInt y2) _ _ _ _ (congrArg (fun z => some (vI z)) hf.1.symm) (by rw [← hf.2]; exact hP) hS dX8_topDonor_78
      · have hf := it_f hf hc
        refine ziload_n hC.1 hC.2.1 dX8_topDonor_47 rfl (lv_at hl 2 rfl) <| ziconst hC.1 hC.2.1 dX8_topDonor_48 <| ?_
        obtain ⟨hz_7, hf⟩ := ck_some hf
        refine zicmp_eq (tgt := 69) hC.1 hC.2.1 ⟨hz_7, (by decide)⟩ dX8_topDonor_49 (by decide) (fun hc => ?_) (fun hc => ?_)
        · have hf := it_t hf hc
          exact J69 _ _ _ _ _ hf hP hS (lv_sub hl [0, 1, 3] rfl)
        · have hf := it_f hf hc
          refine lv_aload_n hC.1 hC.2.1 dX8_topDonor_52 rfl (lv_at hl 0 rfl) <| ziload_n hC.1 hC.2.1 dX8_topDonor_53 rfl (lv_at hl 3 rfl) <| ziload_n hC.1 hC.2.1 dX8_topDonor_54 rfl (lv_at hl 1 rfl) <| ziconst hC.1 hC.2.1 dX8_topDonor_55 <| ?_
          obtain ⟨r_9, hu, hf⟩ := bd_some hf
          refine zcVP (As := [vI y3, vI x1, vI (-1)]) (rest := []) hC hK (met_X8_sumOf l D kA a n V y3 x1 (-1) hu) zwX8_290 hP (q0 := 0) rfl rfl rfl rfl hl.1 rfl (Nat.le_of_ble_eq_true rfl) ⟨Nat.le_of_ble_eq_true rfl, Nat.le_of_ble_eq_true rfl⟩ ⟨rfl, rfl⟩ ⟨Nat.le_refl _, Nat.le_refl _⟩ dX8_topDonor_56 <| lv_aload_n hC.1 hC.2.1 dX8_topDonor_59 rfl (lv_at hl 0 rfl) <| ziload_n hC.1 hC.2.1 dX8_topDonor_60 rfl (lv_at hl 2 rfl) <| ziload_n hC.1 hC.2.1 dX8_topDonor_61 rfl (lv_at hl 1 rfl) <| ziconst hC.1 hC.2.1 dX8_topDonor_62 <| ?_
          obtain ⟨r_10, hu, hf⟩ := bd_some hf
          refine zcVP (As := [vI y2, vI x1, vI (-1)]) (rest := [vI r_9]) hC hK (met_X8_sumOf l D kA a n V y2 x1 (-1) hu) zwX8_290 hP (q0 := 0) rfl rfl rfl rfl hl.1 rfl (Nat.le_of_ble_eq_true rfl) ⟨Nat.le_of_ble_eq_true rfl, Nat.le_of_ble_eq_true rfl⟩ ⟨rfl, rfl⟩ ⟨Nat.le_refl _, Nat.le_refl _⟩ dX8_topDonor_63 <| ?_
          obtain ⟨hz_11, hf⟩ := ck_some hf
          refine zicmp_le (tgt := 71) hC.1 hC.2.1 ⟨hz_11.1, hz_11.2⟩ dX8_topDonor_66 (by decide) (fun hc => ?_) (fun hc => ?_)
          · have hf := it_t hf hc
            exact J71 _ _ _ _ _ _ hf hP hS (lv_sub hl [0, 1, 2, 3] rfl)
          · have hf := it_f hf hc
            exact J69 _ _ _ _ _ hf hP hS (lv_sub hl [0, 1, 3] rfl)
  have J20 : ∀ (V : Sz) (z0 : Int) (H : Heap) (locs : List Loc) (ls : Array Slot), jX8_topDonor_20 n x1 V z0 = some (r, Vr) → va_P D vwCl (cs_X8 kA a V) H → va_S A0 s.heap H locs → lv_has ls 4 [(0, .ref (a 0)), (1, vI x1)] → W p l e rmX8_topDonor s m args below meth c H locs 0 0 Q (F0 m 20 ls [vI z0, .ref (a 0)]) := by
    intro V z0 H locs ls hf hP hS hl
    unfold jX8_topDonor_20 at hf
    refine ziconst hC.1 hC.2.1 dX8_topDonor_20 <| ?_
    obtain ⟨⟨r_3, V_4⟩, hu, hf⟩ := bd_some hf
    have hDc := hDt
    refine zcVZ (As := [vI z0, vI 1]) (rest := []) hC hK (met_X8_fails l D kA a V z0 1 hDc hu) zwX8_261 hS (zFsub (hD V) [0, 1, 2, 3, 4, 5, 6, 7, 8, 9, 10, 11, 12, 13, 14, 15, 16] rfl) hP (q0 := 0) rfl rfl rfl rfl hl.1 rfl (Nat.le_of_ble_eq_true rfl) ⟨Nat.le_of_ble_eq_true rfl, Nat.le_of_ble_eq_true rfl⟩ ⟨rfl, rfl⟩ ⟨Nat.le_refl _, Nat.le_refl _⟩ dX8_topDonor_21 (fun H locs hP1 hk1 hS => ?_)
    have hP : va_P D vwCl (cs_X8 kA a V_4) H := hP1
    refine zifb_eq (tgt := 29) hC.1 hC.2.1 dX8_topDonor_24 (by decide) (fun hc => ?_) (fun hc => ?_)
    · have hf := it_t hf hc
      refine lv_aload_n hC.1 hC.2.1 dX8_topDonor_29 rfl (lv_at hl 0 rfl) <| ?_
      obtain ⟨V_5, hu, hf⟩ := bd_some hf
      have hDc := hDt
      refine zcVZ (As := []) (rest := []) hC hK (met_X8_laysAid l D kA a n V_4 hDc hu) zwX8_121 hS (zFsub (hD V_4) [0, 1, 2, 3, 4, 5, 6, 7, 8, 9, 10, 11, 12, 13, 14, 15, 16] rfl) hP (q0 := 0) rfl rfl rfl rfl hl.1 rfl (Nat.le_of_ble_eq_true rfl) ⟨Nat.le_of_ble_eq_true rfl, Nat.le_of_ble_eq_true rfl⟩ ⟨rfl, rfl⟩ ⟨Nat.le_refl _, Nat.le_refl _⟩ dX8_topDonor_30 (fun H locs hP1 hk1 hS => ?_)
      have hP : va_P D vwCl (cs_X8 kA a V_5) H := hP1
      refine ziconst hC.1 hC.2.1 dX8_topDonor_33 <| zistore_n (lv' := [(2, vI (-1)), (0, .ref (a 0)), (1, vI x1)]) hC.1 hC.2.1 dX8_topDonor_34 rfl hl (by decide) rfl (fun ls hl => ?_)
      refine ziconst hC.1 hC.2.1 dX8_topDonor_35 <| zistore_n (lv' := [(3, vI 0), (2, vI (-1)), (0, .ref (a 0)), (1, vI x1)]) hC.1 hC.2.1 dX8_topDonor_36 rfl hl (by decide) rfl (fun ls hl => ?_)
      exact L37 n _ _ _ _ _ _ hf hP hS (lv_sub hl [2, 3, 1, 0] rfl)
    · have hf := it_f hf hc
      refine ziconst hC.1 hC.2.1 dX8_topDonor_27 <| ?_
      have hf := Option.some.inj hf
      simp only [Prod.mk.injEq] at hf
      exact hret (Int32.ofInt 0) _ _ _ _ (congrArg (fun z => some (vI z)) hf.1.symm) (by rw [← hf.2]; exact hP) hS dX8_topDonor_28
  refine lv_aload_n hC.1 hC.2.1 dX8_topDonor_0 rfl (lv_at hl 0 rfl) <| ziconst hC.1 hC.2.1 dX8_topDonor_1 <| ?_
  refine pfX8_65 hC hK hP (hD V0) hS (q0 := 0) rfl (Nat.le_of_ble_eq_true rfl) dX8_topDonor_2 (fun H locs hP hS => ?_)
  obtain ⟨V_1, eV_1⟩ : ∃ y, y = us V0 9 0 := ⟨_, rfl⟩
  have hf := nm_at hf eV_1
  have hP : va_P D vwCl (cs_X8 kA a V_1) H := by rw [eV_1]; exact hP
  refine lv_aload_n hC.1 hC.2.1 dX8_topDonor_5 rfl (lv_at hl 0 rfl) <| ziload_n hC.1 hC.2.1 dX8_topDonor_6 rfl (lv_at hl 1 rfl) <| ziconst hC.1 hC.2.1 dX8_topDonor_7 <| ziconst hC.1 hC.2.1 dX8_topDonor_8 <| ?_
  obtain ⟨r_2, hu, hf⟩ := bd_some hf
  have hPc : va_P D vwCl ([] : va_W) _ := hP.sub [] rfl
  refine zcSP (As := [vI x1, vI 0, vI 4]) (rest := [.ref (a 0)]) hC hK (met_X8_inRange l D kA x1 0 4 hu) zwX8_79 hPc rfl hl.1 rfl (Nat.le_of_ble_eq_true rfl) ⟨Nat.le_of_ble_eq_true rfl, Nat.le_of_ble_eq_true rfl⟩ ⟨rfl, rfl⟩ ⟨Nat.le_refl _, Nat.le_refl _⟩ dX8_topDonor_9 <| zifb_ne (tgt := 19) hC.1 hC.2.1 dX8_topDonor_12 (by decide) (fun hc => ?_) (fun hc => ?_)
  · have hf := it_t hf hc
    exact ziconst hC.1 hC.2.1 dX8_topDonor_19 <| J20 _ _ _ _ _ hf hP hS (lv_sub hl [0, 1] rfl)
  · have hf := it_f hf hc
    exact ziconst hC.1 hC.2.1 dX8_topDonor_15 <| lv_goto (tgt := 20) hC.1 hC.2.1 dX8_topDonor_16 (by decide) <| J20 _ _ _ _ _ hf hP hS (lv_sub hl [0, 1] rfl)
theorem DX8_bestYear_0 : ∀ q ∈ ([(0, .aload_n 0, 1), (1, .iconst 0, 1), (2, .putfield 65, 3), (5, .aload_n 0, 1), (6, .invokevirtual 121, 3), (9, .iconst (-1), 1), (10, .istore_n 1, 1), (11, .iconst 0, 1), (12, .istore_n 2, 1), (13, .iconst 0, 1), (14, .istore_n 3, 1), (15, .iload_n 3, 1), (16, .bipush 28, 2), (18, .if_icmp .ge 59, 3), (21, .iconst 0, 1), (22, .istore 4, 2), (24, .iconst 0, 1), (25, .istore 5, 2), (27, .iload 5, 2), (29, .aload_n 0, 1), (30, .getfield 7, 3), (33, .iconst 0, 1), (34, .iaload, 1), (35, .if_icmp .ge 22, 3), (38, .iload 4, 2), (40, .aload_n 0, 1), (41, .iload 5, 2), (43, .iconst 2, 1), (44, .iload_n 3, 1), (45, .invokevirtual 290, 3), (48, .iadd, 1), (49, .istore 4, 2), (51, .iinc 5 1, 3), (54, .goto (-27), 3), (57, .iload 4, 2), (59, .iload_n 2, 1), (60, .if_icmp .gt 6, 3), (63, .goto 8, 3), (66, .iload_n 3, 1), (67, .istore_n 1, 1)] : List (Nat × Instr × Nat)), decode cX8_bestYear q.1 = .ok q.2 := by decide +kernel
theorem dX8_bestYear_0 : decode cX8_bestYear 0 = .ok (.aload_n 0, 1) := DX8_bestYear_0 (0, .aload_n 0, 1) (List.mem_of_getElem? (i := 0) rfl)
theorem dX8_bestYear_1 : decode cX8_bestYear 1 = .ok (.iconst 0, 1) := DX8_bestYear_0 (1, .iconst 0, 1) (List.mem_of_getElem? (i := 1) rfl)
theorem dX8_bestYear_2 : decode cX8_bestYear 2 = .ok (.putfield 65, 3) := DX8_bestYear_0 (2, .putfield 65, 3) (List.mem_of_getElem? (i := 2) rfl)
theorem dX8_bestYear_5 : decode cX8_bestYear 5 = .ok (.aload_n 0, 1) := DX8_bestYear_0 (5, .aload_n 0, 1) (List.mem_of_getElem? (i := 3) rfl)
theorem dX8_bestYear_6 : decode cX8_bestYear 6 = .ok (.invokevirtual 121, 3) := DX8_bestYear_0 (6, .invokevirtual 121, 3) (List.mem_of_getElem? (i := 4) rfl)
theorem dX8_bestYear_9 : decode cX8_bestYear 9 = .ok (.iconst (-1), 1) := DX8_bestYear_0 (9, .iconst (-1), 1) (List.mem_of_getElem? (i := 5) rfl)
theorem dX8_bestYear_10 : decode cX8_bestYear 10 = .ok (.istore_n 1, 1) := DX8_bestYear_0 (10, .istore_n 1, 1) (List.mem_of_getElem? (i := 6) rfl)
theorem dX8_bestYear_11 : decode cX8_bestYear 11 = .ok (.iconst 0, 1) := DX8_bestYear_0 (11, .iconst 0, 1) (List.mem_of_getElem? (i := 7) rfl)
theorem dX8_bestYear_12 : decode cX8_bestYear 12 = .ok (.istore_n 2, 1) := DX8_bestYear_0 (12, .istore_n 2, 1) (List.mem_of_getElem? (i := 8) rfl)
theorem dX8_bestYear_13 : decode cX8_bestYear 13 = .ok (.iconst 0, 1) := DX8_bestYear_0 (13, .iconst 0, 1) (List.mem_of_getElem? (i := 9) rfl)
theorem dX8_bestYear_14 : decode cX8_bestYear 14 = .ok (.istore_n 3, 1) := DX8_bestYear_0 (14, .istore_n 3, 1) (List.mem_of_getElem? (i := 10) rfl)
theorem dX8_bestYear_15 : decode cX8_bestYear 15 = .ok (.iload_n 3, 1) := DX8_bestYear_0 (15, .iload_n 3, 1) (List.mem_of_getElem? (i := 11) rfl)
theorem dX8_bestYear_16 : decode cX8_bestYear 16 = .ok (.bipush 28, 2) := DX8_bestYear_0 (16, .bipush 28, 2) (List.mem_of_getElem? (i := 12) rfl)
theorem dX8_bestYear_18 : decode cX8_bestYear 18 = .ok (.if_icmp .ge 59, 3) := DX8_bestYear_0 (18, .if_icmp .ge 59, 3) (List.mem_of_getElem? (i := 13) rfl)
theorem dX8_bestYear_21 : decode cX8_bestYear 21 = .ok (.iconst 0, 1) := DX8_bestYear_0 (21, .iconst 0, 1) (List.mem_of_getElem? (i := 14) rfl)
theorem dX8_bestYear_22 : decode cX8_bestYear 22 = .ok (.istore 4, 2) := DX8_bestYear_0 (22, .istore 4, 2) (List.mem_of_getElem? (i := 15) rfl)
theorem dX8_bestYear_24 : decode cX8_bestYear 24 = .ok (.iconst 0, 1) := DX8_bestYear_0 (24, .iconst 0, 1) (List.mem_of_getElem? (i := 16) rfl)
theorem dX8_bestYear_25 : decode cX8_bestYear 25 = .ok (.istore 5, 2) := DX8_bestYear_0 (25, .istore 5, 2) (List.mem_of_getElem? (i := 17) rfl)
theorem dX8_bestYear_27 : decode cX8_bestYear 27 = .ok (.iload 5, 2) := DX8_bestYear_0 (27, .iload 5, 2) (List.mem_of_getElem? (i := 18) rfl)
theorem dX8_bestYear_29 : decode cX8_bestYear 29 = .ok (.aload_n 0, 1) := DX8_bestYear_0 (29, .aload_n 0, 1) (List.mem_of_getElem? (i := 19) rfl)
theorem dX8_bestYear_30 : decode cX8_bestYear 30 = .ok (.getfield 7, 3) := DX8_bestYear_0 (30, .getfield 7, 3) (List.mem_of_getElem? (i := 20) rfl)
theorem dX8_bestYear_33 : decode cX8_bestYear 33 = .ok (.iconst 0, 1) := DX8_bestYear_0 (33, .iconst 0, 1) (List.mem_of_getElem? (i := 21) rfl)
theorem dX8_bestYear_34 : decode cX8_bestYear 34 = .ok (.iaload, 1) := DX8_bestYear_0 (34, .iaload, 1) (List.mem_of_getElem? (i := 22) rfl)
theorem dX8_bestYear_35 : decode cX8_bestYear 35 = .ok (.if_icmp .ge 22, 3) := DX8_bestYear_0 (35, .if_icmp .ge 22, 3) (List.mem_of_getElem? (i := 23) rfl)
theorem dX8_bestYear_38 : decode cX8_bestYear 38 = .ok (.iload 4, 2) := DX8_bestYear_0 (38, .iload 4, 2) (List.mem_of_getElem? (i := 24) rfl)
theorem dX8_bestYear_40 : decode cX8_bestYear 40 = .ok (.aload_n 0, 1) := DX8_bestYear_0 (40, .aload_n 0, 1) (List.mem_of_getElem? (i := 25) rfl)
theorem dX8_bestYear_41 : decode cX8_bestYear 41 = .ok (.iload 5, 2) := DX8_bestYear_0 (41, .iload 5, 2) (List.mem_of_getElem? (i := 26) rfl)
theorem dX8_bestYear_43 : decode cX8_bestYear 43 = .ok (.iconst 2, 1) := DX8_bestYear_0 (43, .iconst 2, 1) (List.mem_of_getElem? (i := 27) rfl)
theorem dX8_bestYear_44 : decode cX8_bestYear 44 = .ok (.iload_n 3, 1) := DX8_bestYear_0 (44, .iload_n 3, 1) (List.mem_of_getElem? (i := 28) rfl)
theorem dX8_bestYear_45 : decode cX8_bestYear 45 = .ok (.invokevirtual 290, 3) := DX8_bestYear_0 (45, .invokevirtual 290, 3) (List.mem_of_getElem? (i := 29) rfl)
theorem dX8_bestYear_48 : decode cX8_bestYear 48 = .ok (.iadd, 1) := DX8_bestYear_0 (48, .iadd, 1) (List.mem_of_getElem? (i := 30) rfl)
theorem dX8_bestYear_49 : decode cX8_bestYear 49 = .ok (.istore 4, 2) := DX8_bestYear_0 (49, .istore 4, 2) (List.mem_of_getElem? (i := 31) rfl)
theorem dX8_bestYear_51 : decode cX8_bestYear 51 = .ok (.iinc 5 1, 3) := DX8_bestYear_0 (51, .iinc 5 1, 3) (List.mem_of_getElem? (i := 32) rfl)
theorem dX8_bestYear_54 : decode cX8_bestYear 54 = .ok (.goto (-27), 3) := DX8_bestYear_0 (54, .goto (-27), 3) (List.mem_of_getElem? (i := 33) rfl)
theorem dX8_bestYear_57 : decode cX8_bestYear 57 = .ok (.iload 4, 2) := DX8_bestYear_0 (57, .iload 4, 2) (List.mem_of_getElem? (i := 34) rfl)
theorem dX8_bestYear_59 : decode cX8_bestYear 59 = .ok (.iload_n 2, 1) := DX8_bestYear_0 (59, .iload_n 2, 1) (List.mem_of_getElem? (i := 35) rfl)
theorem dX8_bestYear_60 : decode cX8_bestYear 60 = .ok (.if_icmp .gt 6, 3) := DX8_bestYear_0 (60, .if_icmp .gt 6, 3) (List.mem_of_getElem? (i := 36) rfl)
theorem dX8_bestYear_63 : decode cX8_bestYear 63 = .ok (.goto 8, 3) := DX8_bestYear_0 (63, .goto 8, 3) (List.mem_of_getElem? (i := 37) rfl)
theorem dX8_bestYear_66 : decode cX8_bestYear 66 = .ok (.iload_n 3, 1) := DX8_bestYear_0 (66, .iload_n 3, 1) (List.mem_of_getElem? (i := 38) rfl)
theorem dX8_bestYear_67 : decode cX8_bestYear 67 = .ok (.istore_n 1, 1) := DX8_bestYear_0 (67, .istore_n 1, 1) (List.mem_of_getElem? (i := 39) rfl)
theorem DX8_bestYear_1 : ∀ q ∈ ([(68, .iload 4, 2), (70, .istore_n 2, 1), (71, .iinc 3 1, 3), (74, .goto (-59), 3), (77, .iload_n 1, 1), (78, .ireturn, 1)] : List (Nat × Instr × Nat)), decode cX8_bestYear q.1 = .ok q.2 := by decide +kernel
theorem dX8_bestYear_68 : decode cX8_bestYear 68 = .ok (.iload 4, 2) := DX8_bestYear_1 (68, .iload 4, 2) (List.mem_of_getElem? (i := 0) rfl)
theorem dX8_bestYear_70 : decode cX8_bestYear 70 = .ok (.istore_n 2, 1) := DX8_bestYear_1 (70, .istore_n 2, 1) (List.mem_of_getElem? (i := 1) rfl)
theorem dX8_bestYear_71 : decode cX8_bestYear 71 = .ok (.iinc 3 1, 3) := DX8_bestYear_1 (71, .iinc 3 1, 3) (List.mem_of_getElem? (i := 2) rfl)
theorem dX8_bestYear_74 : decode cX8_bestYear 74 = .ok (.goto (-59), 3) := DX8_bestYear_1 (74, .goto (-59), 3) (List.mem_of_getElem? (i := 3) rfl)
theorem dX8_bestYear_77 : decode cX8_bestYear 77 = .ok (.iload_n 1, 1) := DX8_bestYear_1 (77, .iload_n 1, 1) (List.mem_of_getElem? (i := 4) rfl)
theorem dX8_bestYear_78 : decode cX8_bestYear 78 = .ok (.ireturn, 1) := DX8_bestYear_1 (78, .ireturn, 1) (List.mem_of_getElem? (i := 5) rfl)
abbrev rmX8_bestYear : Room := { frames := 4, cells := 0, slots := 0, locals := 90 }
set_option maxHeartbeats 400000 in
set_option maxRecDepth 100000 in
theorem met_X8_bestYear (l : Launch) (D : va_G) (kA : Nat → ClassId) (a : Nat → Nat) (n : Nat) (V0 : Sz) (hDt : ∀ w : Sz, va_D (fun _ => True) (cs_X8 kA a w)) {r : Int} {Vr : Sz} (hf : f_X8_bestYear n V0 = some (r, Vr)) : MZ l yX8_bestYear cX8_bestYear 6 (some .int) rmX8_bestYear D kA [.ref (a 0)] (cs_X8 kA a V0) (cs_X8 kA a Vr) (some (vI r)) := by
  refine zZI (own := RX8) rfl rfl (Nat.le_of_ble_eq_true rfl) ?_
  intro p e s m args below meth c ls Q hC hK hP hl hret
  have hl : lv_has ls 6 [(0, .ref (a 0))] := hl
  have hS : va_S (zF (cs_X8 kA a V0)) s.heap s.heap [] := va_S.rf
  have hD := zDself (C := fun w : Sz => (cs_X8 kA a w)) hDt V0 (fun _ => rfl)
  try dsimp only at hD
  generalize hAe : zF (cs_X8 kA a V0) = A0 at hS hD hret
  unfold f_X8_bestYear at hf
  have L15 : ∀ (k15 : Nat) (y1 : Int) (y2 : Int) (y3 : Int) (V : Sz) (H : Heap) (locs : List Loc) (ls : Array Slot), lpF (bX8_bestYear_15 n) k15 (y1, y2, y3, V) = some (r, Vr) → va_P D vwCl (cs_X8 kA a V) H → va_S A0 s.heap H locs → lv_has ls 6 [(0, .ref (a 0)), (1, vI y1), (2, vI y2), (3, vI y3)] → W p l e rmX8_bestYear s m args below meth c H locs 0 0 Q (F0 m 15 ls []) := by
    intro k15
    induction k15 with
    | zero => intro y1 y2 y3 V H locs ls hf hP hS hl; exact lp_0 hf
    | succ k15 ih15 =>
      intro y1 y2 y3 V H locs ls hf hP hS hl
      have hf := lp_s hf
      rw [bX8_bestYear_15_e] at hf
      have J71 : ∀ (y1 : Int) (y2 : Int) (y3 : Int) (V : Sz) (H : Heap) (locs : List Loc) (ls : Array Slot), jX8_bestYear_71 n (lpF (bX8_bestYear_15 n) k15) y1 y2 y3 V = some (r, Vr) → va_P D vwCl (cs_X8 kA a V) H → va_S A0 s.heap H locs → lv_has ls 6 [(0, .ref (a 0)), (1, vI y1), (2, vI y2), (3, vI y3)] → W p l e rmX8_bestYear s m args below meth c H locs 0 0 Q (F0 m 71 ls []) := by
        intro y1 y2 y3 V H locs ls hf hP hS hl
        unfold jX8_bestYear_71 at hf
        obtain ⟨x_6, ex_6⟩ : ∃ y : Int, y = y3 + 1 := ⟨_, rfl⟩
        have hf := nm_at hf ex_6
        refine ziinc (v := x_6) (lv' := [(3, vI x_6), (0, .ref (a 0)), (1, vI y1), (2, vI y2)]) hC.1 hC.2.1 dX8_bestYear_71 hl (k := 3) rfl ex_6 (by decide) rfl (fun ls hl => ?_)
        exact lv_goto (tgt := 15) hC.1 hC.2.1 dX8_bestYear_74 (by decide) <| ih15 _ _ _ _ _ _ _ hf hP hS (lv_sub hl [1, 2, 3, 0] rfl)
      have L27 : ∀ (k27 : Nat) (y1 : Int) (y2 : Int) (y3 : Int) (y4 : Int) (y5 : Int) (V : Sz) (H : Heap) (locs : List Loc) (ls : Array Slot), lpF (bX8_bestYear_27 n (lpF (bX8_bestYear_15 n) k15)) k27 (y1, y2, y3, y4, y5, V) = some (r, Vr) → va_P D vwCl (cs_X8 kA a V) H → va_S A0 s.heap H locs → lv_has ls 6 [(0, .ref (a 0)), (1, vI y1), (2, vI y2), (3, vI y3), (4, vI y4), (5, vI y5)] → W p l e rmX8_bestYear s m args below meth c H locs 0 0 Q (F0 m 27 ls []) := by
        intro k27
        induction k27 with
        | zero => intro y1 y2 y3 y4 y5 V H locs ls hf hP hS hl; exact lp_0 hf
        | succ k27 ih27 =>
          intro y1 y2 y3 y4 y5 V H locs ls hf hP hS hl
          have hf := lp_s hf
          rw [bX8_bestYear_27_e] at hf
          refine ziload hC.1 hC.2.1 dX8_bestYear_27 (lv_at hl 5 rfl) <| lv_aload_n hC.1 hC.2.1 dX8_bestYear_29 rfl (lv_at hl 0 rfl) <| gfX8_7 hC hK hP (q0 := 0) rfl rfl dX8_bestYear_30 <| ziconst hC.1 hC.2.1 dX8_bestYear_33 <| jal hC hK hP (q0 := 1) rfl (Nat.le_of_ble_eq_true rfl) (by decide) rfl dX8_bestYear_34 <| ?_
          obtain ⟨hz_4, hf⟩ := ck_some hf
          refine zicmp_ge (tgt := 57) hC.1 hC.2.1 ⟨hz_4.1, hz_4.2⟩ dX8_bestYear_35 (by decide) (fun hc => ?_) (fun hc => ?_)
          · have hf := it_t hf hc
            refine ziload hC.1 hC.2.1 dX8_bestYear_57 (lv_at hl 4 rfl) <| ziload_n hC.1 hC.2.1 dX8_bestYear_59 rfl (lv_at hl 2 rfl) <| ?_
            obtain ⟨hz_5, hf⟩ := ck_some hf
            refine zicmp_gt (tgt := 66) hC.1 hC.2.1 ⟨hz_5.1, hz_5.2⟩ dX8_bestYear_60 (by decide) (fun hc => ?_) (fun hc => ?_)
            · have hf := it_t hf hc
              refine ziload_n hC.1 hC.2.1 dX8_bestYear_66 rfl (lv_at hl 3 rfl) <| zistore_n (lv' := [(1, vI y3), (0, .ref (a 0)), (2, vI y2), (3, vI y3), (4, vI y4), (5, vI y5)]) hC.1 hC.2.1 dX8_bestYear_67 rfl hl (by decide) rfl (fun ls hl => ?_)
              refine ziload hC.1 hC.2.1 dX8_bestYear_68 (lv_at hl 4 rfl) <| zistore_n (lv' := [(2, vI y4), (1, vI y3), (0, .ref (a 0)), (3, vI y3), (4, vI y4), (5, vI y5)]) hC.1 hC.2.1 dX8_bestYear_70 rfl hl (by decide) rfl (fun ls hl => ?_)
              exact J71 _ _ _ _ _ _ _ hf hP hS (lv_sub hl [2, 1, 0, 3] rfl)
            · have hf := it_f hf hc
              exact lv_goto (tgt := 71) hC.1 hC.2.1 dX8_bestYear_63 (by decide) <| J71 _ _ _ _ _ _ _ hf hP hS (lv_sub hl [0, 1, 2, 3] rfl)
          · have hf := it_f hf hc
            refine ziload hC.1 hC.2.1 dX8_bestYear_38 (lv_at hl 4 rfl) <| lv_aload_n hC.1 hC.2.1 dX8_bestYear_40 rfl (lv_at hl 0 rfl) <| ziload hC.1 hC.2.1 dX8_bestYear_41 (lv_at hl 5 rfl) <| ziconst hC.1 hC.2.1 dX8_bestYear_43 <| ziload_n hC.1 hC.2.1 dX8_bestYear_44 rfl (lv_at hl 3 rfl) <| ?_
            obtain ⟨r_7, hu, hf⟩ := bd_some hf
            refine zcVP (As := [vI y5, vI 2, vI y3]) (rest := [vI y4]) hC hK (met_X8_sumOf l D kA a n V y5 2 y3 hu) zwX8_290 hP (q0 := 0) rfl rfl rfl rfl hl.1 rfl (Nat.le_of_ble_eq_true rfl) ⟨Nat.le_of_ble_eq_true rfl, Nat.le_of_ble_eq_true rfl⟩ ⟨rfl, rfl⟩ ⟨Nat.le_refl _, Nat.le_refl _⟩ dX8_bestYear_45 <| ziadd hC.1 hC.2.1 dX8_bestYear_48 <| ?_
            refine ztopi (fun x_8 ex_8 => ?_)
            have hf := nm_at hf ex_8
            refine zistore (lv' := [(4, vI x_8), (0, .ref (a 0)), (1, vI y1), (2, vI y2), (3, vI y3), (5, vI y5)]) hC.1 hC.2.1 dX8_bestYear_49 hl (by decide) rfl (fun ls hl => ?_)
            obtain ⟨x_9, ex_9⟩ : ∃ y : Int, y = y5 + 1 := ⟨_, rfl⟩
            have hf := nm_at hf ex_9
            refine ziinc (v := x_9) (lv' := [(5, vI x_9), (4, vI x_8), (0, .ref (a 0)), (1, vI y1), (2, vI y2), (3, vI y3)]) hC.1 hC.2.1 dX8_bestYear_51 hl (k := 5) rfl ex_9 (by decide) rfl (fun ls hl => ?_)
            exact lv_goto (tgt := 27) hC.1 hC.2.1 dX8_bestYear_54 (by decide) <| ih27 _ _ _ _ _ _ _ _ _ hf hP hS (lv_sub hl [2, 3, 4, 5, 1, 0] rfl)
      refine ziload_n hC.1 hC.2.1 dX8_bestYear_15 rfl (lv_at hl 3 rfl) <| zbipush hC.1 hC.2.1 dX8_bestYear_16 (by decide) <| ?_
      obtain ⟨hz_3, hf⟩ := ck_some hf
      refine zicmp_ge (tgt := 77) hC.1 hC.2.1 ⟨hz_3, (by decide)⟩ dX8_bestYear_18 (by decide) (fun hc => ?_) (fun hc => ?_)
      · have hf := it_t hf hc
        refine ziload_n hC.1 hC.2.1 dX8_bestYear_77 rfl (lv_at hl 1 rfl) <| ?_
        have hf := Option.some.inj hf
        simp only [Prod.mk.injEq] at hf
        exact hret (Int32.ofInt y1) _ _ _ _ (congrArg (fun z => some (vI z)) hf.1.symm) (by rw [← hf.2]; exact hP) hS dX8_bestYear_78
      · have hf := it_f hf hc
        refine ziconst hC.1 hC.2.1 dX8_bestYear_21 <| zistore (lv' := [(4, vI 0), (0, .ref (a 0)), (1, vI y1), (2, vI y2), (3, vI y3)]) hC.1 hC.2.1 dX8_bestYear_22 hl (by decide) rfl (fun ls hl => ?_)
        refine ziconst hC.1 hC.2.1 dX8_bestYear_24 <| zistore (lv' := [(5, vI 0), (4, vI 0), (0, .ref (a 0)), (1, vI y1), (2, vI y2), (3, vI y3)]) hC.1 hC.2.1 dX8_bestYear_25 hl (by decide) rfl (fun ls hl => ?_)
        exact L27 n _ _ _ _ _ _ _ _ _ hf hP hS (lv_sub hl [2, 3, 4, 5, 1, 0] rfl)
  refine lv_aload_n hC.1 hC.2.1 dX8_bestYear_0 rfl (lv_at hl 0 rfl) <| ziconst hC.1 hC.2.1 dX8_bestYear_1 <| ?_
  refine pfX8_65 hC hK hP (hD V0) hS (q0 := 0) rfl (Nat.le_of_ble_eq_true rfl) dX8_bestYear_2 (fun H locs hP hS => ?_)
  obtain ⟨V_1, eV_1⟩ : ∃ y, y = us V0 9 0 := ⟨_, rfl⟩
  have hf := nm_at hf eV_1
  have hP : va_P D vwCl (cs_X8 kA a V_1) H := by rw [eV_1]; exact hP
  refine lv_aload_n hC.1 hC.2.1 dX8_bestYear_5 rfl (lv_at hl 0 rfl) <| ?_
  obtain ⟨V_2, hu, hf⟩ := bd_some hf
  have hDc := hDt
  refine zcVZ (As := []) (rest := []) hC hK (met_X8_laysAid l D kA a n V_1 hDc hu) zwX8_121 hS (zFsub (hD V_1) [0, 1, 2, 3, 4, 5, 6, 7, 8, 9, 10, 11, 12, 13, 14, 15, 16] rfl) hP (q0 := 0) rfl rfl rfl rfl hl.1 rfl (Nat.le_of_ble_eq_true rfl) ⟨Nat.le_of_ble_eq_true rfl, Nat.le_of_ble_eq_true rfl⟩ ⟨rfl, rfl⟩ ⟨Nat.le_refl _, Nat.le_refl _⟩ dX8_bestYear_6 (fun H locs hP1 hk1 hS => ?_)
  have hP : va_P D vwCl (cs_X8 kA a V_2) H := hP1
  refine ziconst hC.1 hC.2.1 dX8_bestYear_9 <| zistore_n (lv' := [(1, vI (-1)), (0, .ref (a 0))]) hC.1 hC.2.1 dX8_bestYear_10 rfl hl (by decide) rfl (fun ls hl => ?_)
  refine ziconst hC.1 hC.2.1 dX8_bestYear_11 <| zistore_n (lv' := [(2, vI 0), (1, vI (-1)), (0, .ref (a 0))]) hC.1 hC.2.1 dX8_bestYear_12 rfl hl (by decide) rfl (fun ls hl => ?_)
  refine ziconst hC.1 hC.2.1 dX8_bestYear_13 <| zistore_n (lv' := [(3, vI 0), (2, vI 0), (1, vI (-1)), (0, .ref (a 0))]) hC.1 hC.2.1 dX8_bestYear_14 rfl hl (by decide) rfl (fun ls hl => ?_)
  exact L15 n _ _ _ _ _ _ _ hf hP hS (lv_sub hl [3, 2, 1, 0] rfl)
theorem DX8_aidWith_0 : ∀ q ∈ ([(0, .aload_n 0, 1), (1, .iload_n 1, 1), (2, .iload_n 2, 1), (3, .iload_n 3, 1), (4, .invokevirtual 303, 3), (7, .aload_n 0, 1), (8, .invokevirtual 326, 3), (11, .istore 4, 2), (13, .aload_n 0, 1), (14, .getfield 7, 3), (17, .iconst 1, 1), (18, .dup2, 1), (19, .iaload, 1), (20, .iconst 1, 1), (21, .isub, 1), (22, .iastore, 1), (23, .iload 4, 2), (25, .ireturn, 1)] : List (Nat × Instr × Nat)), decode cX8_aidWith q.1 = .ok q.2 := by decide +kernel
theorem dX8_aidWith_0 : decode cX8_aidWith 0 = .ok (.aload_n 0, 1) := DX8_aidWith_0 (0, .aload_n 0, 1) (List.mem_of_getElem? (i := 0) rfl)
theorem dX8_aidWith_1 : decode cX8_aidWith 1 = .ok (.iload_n 1, 1) := DX8_aidWith_0 (1, .iload_n 1, 1) (List.mem_of_getElem? (i := 1) rfl)
theorem dX8_aidWith_2 : decode cX8_aidWith 2 = .ok (.iload_n 2, 1) := DX8_aidWith_0 (2, .iload_n 2, 1) (List.mem_of_getElem? (i := 2) rfl)
theorem dX8_aidWith_3 : decode cX8_aidWith 3 = .ok (.iload_n 3, 1) := DX8_aidWith_0 (3, .iload_n 3, 1) (List.mem_of_getElem? (i := 3) rfl)
theorem dX8_aidWith_4 : decode cX8_aidWith 4 = .ok (.invokevirtual 303, 3) := DX8_aidWith_0 (4, .invokevirtual 303, 3) (List.mem_of_getElem? (i := 4) rfl)
theorem dX8_aidWith_7 : decode cX8_aidWith 7 = .ok (.aload_n 0, 1) := DX8_aidWith_0 (7, .aload_n 0, 1) (List.mem_of_getElem? (i := 5) rfl)
theorem dX8_aidWith_8 : decode cX8_aidWith 8 = .ok (.invokevirtual 326, 3) := DX8_aidWith_0 (8, .invokevirtual 326, 3) (List.mem_of_getElem? (i := 6) rfl)
theorem dX8_aidWith_11 : decode cX8_aidWith 11 = .ok (.istore 4, 2) := DX8_aidWith_0 (11, .istore 4, 2) (List.mem_of_getElem? (i := 7) rfl)
theorem dX8_aidWith_13 : decode cX8_aidWith 13 = .ok (.aload_n 0, 1) := DX8_aidWith_0 (13, .aload_n 0, 1) (List.mem_of_getElem? (i := 8) rfl)
theorem dX8_aidWith_14 : decode cX8_aidWith 14 = .ok (.getfield 7, 3) := DX8_aidWith_0 (14, .getfield 7, 3) (List.mem_of_getElem? (i := 9) rfl)
theorem dX8_aidWith_17 : decode cX8_aidWith 17 = .ok (.iconst 1, 1) := DX8_aidWith_0 (17, .iconst 1, 1) (List.mem_of_getElem? (i := 10) rfl)
theorem dX8_aidWith_18 : decode cX8_aidWith 18 = .ok (.dup2, 1) := DX8_aidWith_0 (18, .dup2, 1) (List.mem_of_getElem? (i := 11) rfl)
theorem dX8_aidWith_19 : decode cX8_aidWith 19 = .ok (.iaload, 1) := DX8_aidWith_0 (19, .iaload, 1) (List.mem_of_getElem? (i := 12) rfl)
theorem dX8_aidWith_20 : decode cX8_aidWith 20 = .ok (.iconst 1, 1) := DX8_aidWith_0 (20, .iconst 1, 1) (List.mem_of_getElem? (i := 13) rfl)
theorem dX8_aidWith_21 : decode cX8_aidWith 21 = .ok (.isub, 1) := DX8_aidWith_0 (21, .isub, 1) (List.mem_of_getElem? (i := 14) rfl)
theorem dX8_aidWith_22 : decode cX8_aidWith 22 = .ok (.iastore, 1) := DX8_aidWith_0 (22, .iastore, 1) (List.mem_of_getElem? (i := 15) rfl)
theorem dX8_aidWith_23 : decode cX8_aidWith 23 = .ok (.iload 4, 2) := DX8_aidWith_0 (23, .iload 4, 2) (List.mem_of_getElem? (i := 16) rfl)
theorem dX8_aidWith_25 : decode cX8_aidWith 25 = .ok (.ireturn, 1) := DX8_aidWith_0 (25, .ireturn, 1) (List.mem_of_getElem? (i := 17) rfl)
abbrev rmX8_aidWith : Room := { frames := 5, cells := 0, slots := 0, locals := 112 }
set_option maxHeartbeats 400000 in
set_option maxRecDepth 100000 in
theorem met_X8_aidWith (l : Launch) (D : va_G) (kA : Nat → ClassId) (a : Nat → Nat) (n : Nat) (V0 : Sz) (x1 : Int) (x2 : Int) (x3 : Int) (hDt : ∀ w : Sz, va_D (fun _ => True) (cs_X8 kA a w)) {r : Int} {Vr : Sz} (hf : f_X8_aidWith n V0 x1 x2 x3 = some (r, Vr)) : MZ l yX8_aidWith cX8_aidWith 5 (some .int) rmX8_aidWith D kA [.ref (a 0), vI x1, vI x2, vI x3] (cs_X8 kA a V0) (cs_X8 kA a Vr) (some (vI r)) := by
  refine zZI (own := RX8) rfl rfl (Nat.le_of_ble_eq_true rfl) ?_
  intro p e s m args below meth c ls Q hC hK hP hl hret
  have hl : lv_has ls 5 [(0, .ref (a 0)), (1, vI x1), (2, vI x2), (3, vI x3)] := hl
  have hS : va_S (zF (cs_X8 kA a V0)) s.heap s.heap [] := va_S.rf
  have hD := zDself (C := fun w : Sz => (cs_X8 kA a w)) hDt V0 (fun _ => rfl)
  try dsimp only at hD
  generalize hAe : zF (cs_X8 kA a V0) = A0 at hS hD hret
  unfold f_X8_aidWith at hf
  refine lv_aload_n hC.1 hC.2.1 dX8_aidWith_0 rfl (lv_at hl 0 rfl) <| ziload_n hC.1 hC.2.1 dX8_aidWith_1 rfl (lv_at hl 1 rfl) <| ziload_n hC.1 hC.2.1 dX8_aidWith_2 rfl (lv_at hl 2 rfl) <| ziload_n hC.1 hC.2.1 dX8_aidWith_3 rfl (lv_at hl 3 rfl) <| ?_
  obtain ⟨V_1, hu, hf⟩ := bd_some hf
  have hDc := hDt
  refine zcVZ (As := [vI x1, vI x2, vI x3]) (rest := []) hC hK (met_X8_declares l D kA a V0 x1 x2 x3 hDc hu) zwX8_303 hS (zFsub (hD V0) [0, 1, 2, 3, 4, 5, 6, 7, 8, 9, 10, 11, 12, 13, 14, 15, 16] rfl) hP (q0 := 0) rfl rfl rfl rfl hl.1 rfl (Nat.le_of_ble_eq_true rfl) ⟨Nat.le_of_ble_eq_true rfl, Nat.le_of_ble_eq_true rfl⟩ ⟨rfl, rfl⟩ ⟨Nat.le_refl _, Nat.le_refl _⟩ dX8_aidWith_4 (fun H locs hP1 hk1 hS => ?_)
  have hP : va_P D vwCl (cs_X8 kA a V_1) H := hP1
  refine lv_aload_n hC.1 hC.2.1 dX8_aidWith_7 rfl (lv_at hl 0 rfl) <| ?_
  obtain ⟨⟨r_2, V_3⟩, hu, hf⟩ := bd_some hf
  have hDc := hDt
  refine zcVZ (As := []) (rest := []) hC hK (met_X8_allAid l D kA a n V_1 hDc hu) zwX8_326 hS (zFsub (hD V_1) [0, 1, 2, 3, 4, 5, 6, 7, 8, 9, 10, 11, 12, 13, 14, 15, 16] rfl) hP (q0 := 0) rfl rfl rfl rfl hl.1 rfl (Nat.le_of_ble_eq_true rfl) ⟨Nat.le_of_ble_eq_true rfl, Nat.le_of_ble_eq_true rfl⟩ ⟨rfl, rfl⟩ ⟨Nat.le_refl _, Nat.le_refl _⟩ dX8_aidWith_8 (fun H locs hP1 hk1 hS => ?_)
  have hP : va_P D vwCl (cs_X8 kA a V_3) H := hP1
  refine zistore (lv' := [(4, vI r_2), (0, .ref (a 0)), (1, vI x1), (2, vI x2), (3, vI x3)]) hC.1 hC.2.1 dX8_aidWith_11 hl (by decide) rfl (fun ls hl => ?_)
  refine lv_aload_n hC.1 hC.2.1 dX8_aidWith_13 rfl (lv_at hl 1 rfl) <| gfX8_7 hC hK hP (q0 := 0) rfl rfl dX8_aidWith_14 <| ziconst hC.1 hC.2.1 dX8_aidWith_17 <| lv_dup2_11 hC.1 hC.2.1 dX8_aidWith_18 rfl rfl <| jal hC hK hP (q0 := 1) rfl (Nat.le_of_ble_eq_true rfl) (by decide) rfl dX8_aidWith_19 <| ziconst hC.1 hC.2.1 dX8_aidWith_20 <| zisub hC.1 hC.2.1 dX8_aidWith_21 <| ?_
  refine jas hC hK hP (hD V_3) hS (q0 := 1) rfl (Nat.le_of_ble_eq_true rfl) (by decide) rfl dX8_aidWith_22 (fun H locs hP hS => ?_)
  obtain ⟨V_4, eV_4⟩ : ∃ y, y = uz V_3 0 1 ((V_3 0 1) - 1) := ⟨_, rfl⟩
  have hf := nm_at hf eV_4
  have hP : va_P D vwCl (cs_X8 kA a V_4) H := by rw [eV_4]; exact hP
  refine ziload hC.1 hC.2.1 dX8_aidWith_23 (lv_at hl 0 rfl) <| ?_
  have hf := Option.some.inj hf
  simp only [Prod.mk.injEq] at hf
  exact hret (Int32.ofInt r_2) _ _ _ _ (congrArg (fun z => some (vI z)) hf.1.symm) (by rw [← hf.2]; exact hP) hS dX8_aidWith_25
theorem DX8_gainOf_0 : ∀ q ∈ ([(0, .aload_n 0, 1), (1, .iload_n 1, 1), (2, .invokevirtual 287, 3), (5, .ifCond .ne 12, 3), (8, .aload_n 0, 1), (9, .iload_n 2, 1), (10, .iload_n 3, 1), (11, .invokevirtual 294, 3), (14, .ifCond .eq 7, 3), (17, .iconst 0, 1), (18, .goto 15, 3), (21, .aload_n 0, 1), (22, .iload_n 1, 1), (23, .iload_n 2, 1), (24, .iload_n 3, 1), (25, .invokevirtual 332, 3), (28, .aload_n 0, 1), (29, .invokevirtual 326, 3), (32, .isub, 1), (33, .ireturn, 1)] : List (Nat × Instr × Nat)), decode cX8_gainOf q.1 = .ok q.2 := by decide +kernel
theorem dX8_gainOf_0 : decode cX8_gainOf 0 = .ok (.aload_n 0, 1) := DX8_gainOf_0 (0, .aload_n 0, 1) (List.mem_of_getElem? (i := 0) rfl)
theorem dX8_gainOf_1 : decode cX8_gainOf 1 = .ok (.iload_n 1, 1) := DX8_gainOf_0 (1, .iload_n 1, 1) (List.mem_of_getElem? (i := 1) rfl)
theorem dX8_gainOf_2 : decode cX8_gainOf 2 = .ok (.invokevirtual 287, 3) := DX8_gainOf_0 (2, .invokevirtual 287, 3) (List.mem_of_getElem? (i := 2) rfl)
theorem dX8_gainOf_5 : decode cX8_gainOf 5 = .ok (.ifCond .ne 12, 3) := DX8_gainOf_0 (5, .ifCond .ne 12, 3) (List.mem_of_getElem? (i := 3) rfl)
theorem dX8_gainOf_8 : decode cX8_gainOf 8 = .ok (.aload_n 0, 1) := DX8_gainOf_0 (8, .aload_n 0, 1) (List.mem_of_getElem? (i := 4) rfl)
theorem dX8_gainOf_9 : decode cX8_gainOf 9 = .ok (.iload_n 2, 1) := DX8_gainOf_0 (9, .iload_n 2, 1) (List.mem_of_getElem? (i := 5) rfl)
theorem dX8_gainOf_10 : decode cX8_gainOf 10 = .ok (.iload_n 3, 1) := DX8_gainOf_0 (10, .iload_n 3, 1) (List.mem_of_getElem? (i := 6) rfl)
theorem dX8_gainOf_11 : decode cX8_gainOf 11 = .ok (.invokevirtual 294, 3) := DX8_gainOf_0 (11, .invokevirtual 294, 3) (List.mem_of_getElem? (i := 7) rfl)
theorem dX8_gainOf_14 : decode cX8_gainOf 14 = .ok (.ifCond .eq 7, 3) := DX8_gainOf_0 (14, .ifCond .eq 7, 3) (List.mem_of_getElem? (i := 8) rfl)
theorem dX8_gainOf_17 : decode cX8_gainOf 17 = .ok (.iconst 0, 1) := DX8_gainOf_0 (17, .iconst 0, 1) (List.mem_of_getElem? (i := 9) rfl)
theorem dX8_gainOf_18 : decode cX8_gainOf 18 = .ok (.goto 15, 3) := DX8_gainOf_0 (18, .goto 15, 3) (List.mem_of_getElem? (i := 10) rfl)
theorem dX8_gainOf_21 : decode cX8_gainOf 21 = .ok (.aload_n 0, 1) := DX8_gainOf_0 (21, .aload_n 0, 1) (List.mem_of_getElem? (i := 11) rfl)
theorem dX8_gainOf_22 : decode cX8_gainOf 22 = .ok (.iload_n 1, 1) := DX8_gainOf_0 (22, .iload_n 1, 1) (List.mem_of_getElem? (i := 12) rfl)
theorem dX8_gainOf_23 : decode cX8_gainOf 23 = .ok (.iload_n 2, 1) := DX8_gainOf_0 (23, .iload_n 2, 1) (List.mem_of_getElem? (i := 13) rfl)
theorem dX8_gainOf_24 : decode cX8_gainOf 24 = .ok (.iload_n 3, 1) := DX8_gainOf_0 (24, .iload_n 3, 1) (List.mem_of_getElem? (i := 14) rfl)
theorem dX8_gainOf_25 : decode cX8_gainOf 25 = .ok (.invokevirtual 332, 3) := DX8_gainOf_0 (25, .invokevirtual 332, 3) (List.mem_of_getElem? (i := 15) rfl)
theorem dX8_gainOf_28 : decode cX8_gainOf 28 = .ok (.aload_n 0, 1) := DX8_gainOf_0 (28, .aload_n 0, 1) (List.mem_of_getElem? (i := 16) rfl)
theorem dX8_gainOf_29 : decode cX8_gainOf 29 = .ok (.invokevirtual 326, 3) := DX8_gainOf_0 (29, .invokevirtual 326, 3) (List.mem_of_getElem? (i := 17) rfl)
theorem dX8_gainOf_32 : decode cX8_gainOf 32 = .ok (.isub, 1) := DX8_gainOf_0 (32, .isub, 1) (List.mem_of_getElem? (i := 18) rfl)
theorem dX8_gainOf_33 : decode cX8_gainOf 33 = .ok (.ireturn, 1) := DX8_gainOf_0 (33, .ireturn, 1) (List.mem_of_getElem? (i := 19) rfl)
abbrev rmX8_gainOf : Room := { frames := 6, cells := 0, slots := 0, locals := 136 }
set_option maxHeartbeats 400000 in
set_option maxRecDepth 100000 in
theorem met_X8_gainOf (l : Launch) (D : va_G) (kA : Nat → ClassId) (a : Nat → Nat) (n : Nat) (V0 : Sz) (x1 : Int) (x2 : Int) (x3 : Int) (hDt : ∀ w : Sz, va_D (fun _ => True) (cs_X8 kA a w)) {r : Int} {Vr : Sz} (hf : f_X8_gainOf n V0 x1 x2 x3 = some (r, Vr)) : MZ l yX8_gainOf cX8_gainOf 4 (some .int) rmX8_gainOf D kA [.ref (a 0), vI x1, vI x2, vI x3] (cs_X8 kA a V0) (cs_X8 kA a Vr) (some (vI r)) := by
  refine zZI (own := RX8) rfl rfl (Nat.le_of_ble_eq_true rfl) ?_
  intro p e s m args below meth c ls Q hC hK hP hl hret
  have hl : lv_has ls 4 [(0, .ref (a 0)), (1, vI x1), (2, vI x2), (3, vI x3)] := hl
  have hS : va_S (zF (cs_X8 kA a V0)) s.heap s.heap [] := va_S.rf
  have hD := zDself (C := fun w : Sz => (cs_X8 kA a w)) hDt V0 (fun _ => rfl)
  try dsimp only at hD
  generalize hAe : zF (cs_X8 kA a V0) = A0 at hS hD hret
  unfold f_X8_gainOf at hf
  refine lv_aload_n hC.1 hC.2.1 dX8_gainOf_0 rfl (lv_at hl 0 rfl) <| ziload_n hC.1 hC.2.1 dX8_gainOf_1 rfl (lv_at hl 1 rfl) <| ?_
  obtain ⟨⟨r_1, V_2⟩, hu, hf⟩ := bd_some hf
  have hDc := hDt
  refine zcVZ (As := [vI x1]) (rest := []) hC hK (met_X8_noDonor l D kA a V0 x1 hDc hu) zwX8_287 hS (zFsub (hD V0) [0, 1, 2, 3, 4, 5, 6, 7, 8, 9, 10, 11, 12, 13, 14, 15, 16] rfl) hP (q0 := 0) rfl rfl rfl rfl hl.1 rfl (Nat.le_of_ble_eq_true rfl) ⟨Nat.le_of_ble_eq_true rfl, Nat.le_of_ble_eq_true rfl⟩ ⟨rfl, rfl⟩ ⟨Nat.le_refl _, Nat.le_refl _⟩ dX8_gainOf_2 (fun H locs hP1 hk1 hS => ?_)
  have hP : va_P D vwCl (cs_X8 kA a V_2) H := hP1
  refine zifb_ne (tgt := 17) hC.1 hC.2.1 dX8_gainOf_5 (by decide) (fun hc => ?_) (fun hc => ?_)
  · have hf := it_t hf hc
    refine ziconst hC.1 hC.2.1 dX8_gainOf_17 <| lv_goto (tgt := 33) hC.1 hC.2.1 dX8_gainOf_18 (by decide) <| ?_
    have hf := Option.some.inj hf
    simp only [Prod.mk.injEq] at hf
    exact hret (Int32.ofInt 0) _ _ _ _ (congrArg (fun z => some (vI z)) hf.1.symm) (by rw [← hf.2]; exact hP) hS dX8_gainOf_33
  · have hf := it_f hf hc
    refine lv_aload_n hC.1 hC.2.1 dX8_gainOf_8 rfl (lv_at hl 0 rfl) <| ziload_n hC.1 hC.2.1 dX8_gainOf_9 rfl (lv_at hl 2 rfl) <| ziload_n hC.1 hC.2.1 dX8_gainOf_10 rfl (lv_at hl 3 rfl) <| ?_
    obtain ⟨⟨r_3, V_4⟩, hu, hf⟩ := bd_some hf
    have hDc := hDt
    refine zcVZ (As := [vI x2, vI x3]) (rest := []) hC hK (met_X8_noSpan l D kA a V_2 x2 x3 hDc hu) zwX8_294 hS (zFsub (hD V_2) [0, 1, 2, 3, 4, 5, 6, 7, 8, 9, 10, 11, 12, 13, 14, 15, 16] rfl) hP (q0 := 0) rfl rfl rfl rfl hl.1 rfl (Nat.le_of_ble_eq_true rfl) ⟨Nat.le_of_ble_eq_true rfl, Nat.le_of_ble_eq_true rfl⟩ ⟨rfl, rfl⟩ ⟨Nat.le_refl _, Nat.le_refl _⟩ dX8_gainOf_11 (fun H locs hP1 hk1 hS => ?_)
    have hP : va_P D vwCl (cs_X8 kA a V_4) H := hP1
    refine zifb_eq (tgt := 21) hC.1 hC.2.1 dX8_gainOf_14 (by decide) (fun hc => ?_) (fun hc => ?_)
    · have hf := it_t hf hc
      refine lv_aload_n hC.1 hC.2.1 dX8_gainOf_21 rfl (lv_at hl 0 rfl) <| ziload_n hC.1 hC.2.1 dX8_gainOf_22 rfl (lv_at hl 1 rfl) <| ziload_n hC.1 hC.2.1 dX8_gainOf_23 rfl (lv_at hl 2 rfl) <| ziload_n hC.1 hC.2.1 dX8_gainOf_24 rfl (lv_at hl 3 rfl) <| ?_
      obtain ⟨⟨r_5, V_6⟩, hu, hf⟩ := bd_some hf
      have hDc := hDt
      refine zcVZ (As := [vI x1, vI x2, vI x3]) (rest := []) hC hK (met_X8_aidWith l D kA a n V_4 x1 x2 x3 hDc hu) zwX8_332 hS (zFsub (hD V_4) [0, 1, 2, 3, 4, 5, 6, 7, 8, 9, 10, 11, 12, 13, 14, 15, 16] rfl) hP (q0 := 0) rfl rfl rfl rfl hl.1 rfl (Nat.le_of_ble_eq_true rfl) ⟨Nat.le_of_ble_eq_true rfl, Nat.le_of_ble_eq_true rfl⟩ ⟨rfl, rfl⟩ ⟨Nat.le_refl _, Nat.le_refl _⟩ dX8_gainOf_25 (fun H locs hP1 hk1 hS => ?_)
      have hP : va_P D vwCl (cs_X8 kA a V_6) H := hP1
      refine lv_aload_n hC.1 hC.2.1 dX8_gainOf_28 rfl (lv_at hl 0 rfl) <| ?_
      obtain ⟨⟨r_7, V_8⟩, hu, hf⟩ := bd_some hf
      have hDc := hDt
      refine zcVZ (As := []) (rest := [vI r_5]) hC hK (met_X8_allAid l D kA a n V_6 hDc hu) zwX8_326 hS (zFsub (hD V_6) [0, 1, 2, 3, 4, 5, 6, 7, 8, 9, 10, 11, 12, 13, 14, 15, 16] rfl) hP (q0 := 0) rfl rfl rfl rfl hl.1 rfl (Nat.le_of_ble_eq_true rfl) ⟨Nat.le_of_ble_eq_true rfl, Nat.le_of_ble_eq_true rfl⟩ ⟨rfl, rfl⟩ ⟨Nat.le_refl _, Nat.le_refl _⟩ dX8_gainOf_29 (fun H locs hP1 hk1 hS => ?_)
      have hP : va_P D vwCl (cs_X8 kA a V_8) H := hP1
      refine zisub hC.1 hC.2.1 dX8_gainOf_32 <| ?_
      have hf := Option.some.inj hf
      simp only [Prod.mk.injEq] at hf
      exact hret (Int32.ofInt (r_5 - r_7)) _ _ _ _ (congrArg (fun z => some (vI z)) hf.1.symm) (by rw [← hf.2]; exact hP) hS dX8_gainOf_33
    · have hf := it_f hf hc
      refine ziconst hC.1 hC.2.1 dX8_gainOf_17 <| lv_goto (tgt := 33) hC.1 hC.2.1 dX8_gainOf_18 (by decide) <| ?_
      have hf := Option.some.inj hf
      simp only [Prod.mk.injEq] at hf
      exact hret (Int32.ofInt 0) _ _ _ _ (congrArg (fun z => some (vI z)) hf.1.symm) (by rw [← hf.2]; exact hP) hS dX8_gainOf_33
theorem DX8_bestAsked_0 : ∀ q ∈ ([(0, .aload_n 0, 1), (1, .iconst 0, 1), (2, .putfield 65, 3), (5, .iconst (-1), 1), (6, .istore_n 1, 1), (7, .aload_n 0, 1), (8, .invokevirtual 326, 3), (11, .istore_n 2, 1), (12, .iconst 0, 1), (13, .istore_n 3, 1), (14, .iload_n 3, 1), (15, .aload_n 0, 1), (16, .getfield 7, 3), (19, .iconst 0, 1), (20, .iaload, 1), (21, .if_icmp .ge 34, 3), (24, .aload_n 0, 1), (25, .iload_n 3, 1), (26, .iconst 0, 1), (27, .sipush 9999, 3), (30, .invokevirtual 332, 3), (33, .istore 4, 2), (35, .iload 4, 2), (37, .iload_n 2, 1), (38, .if_icmp .gt 6, 3), (41, .goto 8, 3), (44, .iload_n 3, 1), (45, .istore_n 1, 1), (46, .iload 4, 2), (48, .istore_n 2, 1), (49, .iinc 3 1, 3), (52, .goto (-38), 3), (55, .iload_n 1, 1), (56, .ireturn, 1)] : List (Nat × Instr × Nat)), decode cX8_bestAsked q.1 = .ok q.2 := by decide +kernel
theorem dX8_bestAsked_0 : decode cX8_bestAsked 0 = .ok (.aload_n 0, 1) := DX8_bestAsked_0 (0, .aload_n 0, 1) (List.mem_of_getElem? (i := 0) rfl)
theorem dX8_bestAsked_1 : decode cX8_bestAsked 1 = .ok (.iconst 0, 1) := DX8_bestAsked_0 (1, .iconst 0, 1) (List.mem_of_getElem? (i := 1) rfl)
theorem dX8_bestAsked_2 : decode cX8_bestAsked 2 = .ok (.putfield 65, 3) := DX8_bestAsked_0 (2, .putfield 65, 3) (List.mem_of_getElem? (i := 2) rfl)
theorem dX8_bestAsked_5 : decode cX8_bestAsked 5 = .ok (.iconst (-1), 1) := DX8_bestAsked_0 (5, .iconst (-1), 1) (List.mem_of_getElem? (i := 3) rfl)
theorem dX8_bestAsked_6 : decode cX8_bestAsked 6 = .ok (.istore_n 1, 1) := DX8_bestAsked_0 (6, .istore_n 1, 1) (List.mem_of_getElem? (i := 4) rfl)
theorem dX8_bestAsked_7 : decode cX8_bestAsked 7 = .ok (.aload_n 0, 1) := DX8_bestAsked_0 (7, .aload_n 0, 1) (List.mem_of_getElem? (i := 5) rfl)
theorem dX8_bestAsked_8 : decode cX8_bestAsked 8 = .ok (.invokevirtual 326, 3) := DX8_bestAsked_0 (8, .invokevirtual 326, 3) (List.mem_of_getElem? (i := 6) rfl)
theorem dX8_bestAsked_11 : decode cX8_bestAsked 11 = .ok (.istore_n 2, 1) := DX8_bestAsked_0 (11, .istore_n 2, 1) (List.mem_of_getElem? (i := 7) rfl)
theorem dX8_bestAsked_12 : decode cX8_bestAsked 12 = .ok (.iconst 0, 1) := DX8_bestAsked_0 (12, .iconst 0, 1) (List.mem_of_getElem? (i := 8) rfl)
theorem dX8_bestAsked_13 : decode cX8_bestAsked 13 = .ok (.istore_n 3, 1) := DX8_bestAsked_0 (13, .istore_n 3, 1) (List.mem_of_getElem? (i := 9) rfl)
theorem dX8_bestAsked_14 : decode cX8_bestAsked 14 = .ok (.iload_n 3, 1) := DX8_bestAsked_0 (14, .iload_n 3, 1) (List.mem_of_getElem? (i := 10) rfl)
theorem dX8_bestAsked_15 : decode cX8_bestAsked 15 = .ok (.aload_n 0, 1) := DX8_bestAsked_0 (15, .aload_n 0, 1) (List.mem_of_getElem? (i := 11) rfl)
theorem dX8_bestAsked_16 : decode cX8_bestAsked 16 = .ok (.getfield 7, 3) := DX8_bestAsked_0 (16, .getfield 7, 3) (List.mem_of_getElem? (i := 12) rfl)
theorem dX8_bestAsked_19 : decode cX8_bestAsked 19 = .ok (.iconst 0, 1) := DX8_bestAsked_0 (19, .iconst 0, 1) (List.mem_of_getElem? (i := 13) rfl)
theorem dX8_bestAsked_20 : decode cX8_bestAsked 20 = .ok (.iaload, 1) := DX8_bestAsked_0 (20, .iaload, 1) (List.mem_of_getElem? (i := 14) rfl)
theorem dX8_bestAsked_21 : decode cX8_bestAsked 21 = .ok (.if_icmp .ge 34, 3) := DX8_bestAsked_0 (21, .if_icmp .ge 34, 3) (List.mem_of_getElem? (i := 15) rfl)
theorem dX8_bestAsked_24 : decode cX8_bestAsked 24 = .ok (.aload_n 0, 1) := DX8_bestAsked_0 (24, .aload_n 0, 1) (List.mem_of_getElem? (i := 16) rfl)
theorem dX8_bestAsked_25 : decode cX8_bestAsked 25 = .ok (.iload_n 3, 1) := DX8_bestAsked_0 (25, .iload_n 3, 1) (List.mem_of_getElem? (i := 17) rfl)
theorem dX8_bestAsked_26 : decode cX8_bestAsked 26 = .ok (.iconst 0, 1) := DX8_bestAsked_0 (26, .iconst 0, 1) (List.mem_of_getElem? (i := 18) rfl)
theorem dX8_bestAsked_27 : decode cX8_bestAsked 27 = .ok (.sipush 9999, 3) := DX8_bestAsked_0 (27, .sipush 9999, 3) (List.mem_of_getElem? (i := 19) rfl)
theorem dX8_bestAsked_30 : decode cX8_bestAsked 30 = .ok (.invokevirtual 332, 3) := DX8_bestAsked_0 (30, .invokevirtual 332, 3) (List.mem_of_getElem? (i := 20) rfl)
theorem dX8_bestAsked_33 : decode cX8_bestAsked 33 = .ok (.istore 4, 2) := DX8_bestAsked_0 (33, .istore 4, 2) (List.mem_of_getElem? (i := 21) rfl)
theorem dX8_bestAsked_35 : decode cX8_bestAsked 35 = .ok (.iload 4, 2) := DX8_bestAsked_0 (35, .iload 4, 2) (List.mem_of_getElem? (i := 22) rfl)
theorem dX8_bestAsked_37 : decode cX8_bestAsked 37 = .ok (.iload_n 2, 1) := DX8_bestAsked_0 (37, .iload_n 2, 1) (List.mem_of_getElem? (i := 23) rfl)
theorem dX8_bestAsked_38 : decode cX8_bestAsked 38 = .ok (.if_icmp .gt 6, 3) := DX8_bestAsked_0 (38, .if_icmp .gt 6, 3) (List.mem_of_getElem? (i := 24) rfl)
theorem dX8_bestAsked_41 : decode cX8_bestAsked 41 = .ok (.goto 8, 3) := DX8_bestAsked_0 (41, .goto 8, 3) (List.mem_of_getElem? (i := 25) rfl)
theorem dX8_bestAsked_44 : decode cX8_bestAsked 44 = .ok (.iload_n 3, 1) := DX8_bestAsked_0 (44, .iload_n 3, 1) (List.mem_of_getElem? (i := 26) rfl)
theorem dX8_bestAsked_45 : decode cX8_bestAsked 45 = .ok (.istore_n 1, 1) := DX8_bestAsked_0 (45, .istore_n 1, 1) (List.mem_of_getElem? (i := 27) rfl)
theorem dX8_bestAsked_46 : decode cX8_bestAsked 46 = .ok (.iload 4, 2) := DX8_bestAsked_0 (46, .iload 4, 2) (List.mem_of_getElem? (i := 28) rfl)
theorem dX8_bestAsked_48 : decode cX8_bestAsked 48 = .ok (.istore_n 2, 1) := DX8_bestAsked_0 (48, .istore_n 2, 1) (List.mem_of_getElem? (i := 29) rfl)
theorem dX8_bestAsked_49 : decode cX8_bestAsked 49 = .ok (.iinc 3 1, 3) := DX8_bestAsked_0 (49, .iinc 3 1, 3) (List.mem_of_getElem? (i := 30) rfl)
theorem dX8_bestAsked_52 : decode cX8_bestAsked 52 = .ok (.goto (-38), 3) := DX8_bestAsked_0 (52, .goto (-38), 3) (List.mem_of_getElem? (i := 31) rfl)
theorem dX8_bestAsked_55 : decode cX8_bestAsked 55 = .ok (.iload_n 1, 1) := DX8_bestAsked_0 (55, .iload_n 1, 1) (List.mem_of_getElem? (i := 32) rfl)
theorem dX8_bestAsked_56 : decode cX8_bestAsked 56 = .ok (.ireturn, 1) := DX8_bestAsked_0 (56, .ireturn, 1) (List.mem_of_getElem? (i := 33) rfl)
abbrev rmX8_bestAsked : Room := { frames := 6, cells := 0, slots := 0, locals := 136 }
set_option maxHeartbeats 400000 in
set_option maxRecDepth 100000 in
theorem met_X8_bestAsked (l : Launch) (D : va_G) (kA : Nat → ClassId) (a : Nat → Nat) (n : Nat) (V0 : Sz) (hDt : ∀ w : Sz, va_D (fun _ => True) (cs_X8 kA a w)) {r : Int} {Vr : Sz} (hf : f_X8_bestAsked n V0 = some (r, Vr)) : MZ l yX8_bestAsked cX8_bestAsked 5 (some .int) rmX8_bestAsked D kA [.ref (a 0)] (cs_X8 kA a V0) (cs_X8 kA a Vr) (some (vI r)) := by
  refine zZI (own := RX8) rfl rfl (Nat.le_of_ble_eq_true rfl) ?_
  intro p e s m args below meth c ls Q hC hK hP hl hret
  have hl : lv_has ls 5 [(0, .ref (a 0))] := hl
  have hS : va_S (zF (cs_X8 kA a V0)) s.heap s.heap [] := va_S.rf
  have hD := zDself (C := fun w : Sz => (cs_X8 kA a w)) hDt V0 (fun _ => rfl)
  try dsimp only at hD
  generalize hAe : zF (cs_X8 kA a V0) = A0 at hS hD hret
  unfold f_X8_bestAsked at hf
  have L14 : ∀ (k14 : Nat) (y1 : Int) (y2 : Int) (y3 : Int) (V : Sz) (H : Heap) (locs : List Loc) (ls : Array Slot), lpF (bX8_bestAsked_14 n) k14 (y1, y2, y3, V) = some (r, Vr) → va_P D vwCl (cs_X8 kA a V) H → va_S A0 s.heap H locs → lv_has ls 5 [(0, .ref (a 0)), (1, vI y1), (2, vI y2), (3, vI y3)] → W p l e rmX8_bestAsked s m args below meth c H locs 0 0 Q (F0 m 14 ls []) := by
    intro k14
    induction k14 with
    | zero => intro y1 y2 y3 V H locs ls hf hP hS hl; exact lp_0 hf
    | succ k14 ih14 =>
      intro y1 y2 y3 V H locs ls hf hP hS hl
      have hf := lp_s hf
      rw [bX8_bestAsked_14_e] at hf
      have J49 : ∀ (y1 : Int) (y2 : Int) (y3 : Int) (V : Sz) (H : Heap) (locs : List Loc) (ls : Array Slot), jX8_bestAsked_49 n (lpF (bX8_bestAsked_14 n) k14) y1 y2 y3 V = some (r, Vr) → va_P D vwCl (cs_X8 kA a V) H → va_S A0 s.heap H locs → lv_has ls 5 [(0, .ref (a 0)), (1, vI y1), (2, vI y2), (3, vI y3)] → W p l e rmX8_bestAsked s m args below meth c H locs 0 0 Q (F0 m 49 ls []) := by
        intro y1 y2 y3 V H locs ls hf hP hS hl
        unfold jX8_bestAsked_49 at hf
        obtain ⟨x_8, ex_8⟩ : ∃ y : Int, y = y3 + 1 := ⟨_, rfl⟩
        have hf := nm_at hf ex_8
        refine ziinc (v := x_8) (lv' := [(3, vI x_8), (0, .ref (a 0)), (1, vI y1), (2, vI y2)]) hC.1 hC.2.1 dX8_bestAsked_49 hl (k := 3) rfl ex_8 (by decide) rfl (fun ls hl => ?_)
        exact lv_goto (tgt := 14) hC.1 hC.2.1 dX8_bestAsked_52 (by decide) <| ih14 _ _ _ _ _ _ _ hf hP hS (lv_sub hl [1, 2, 3, 0] rfl)
      refine ziload_n hC.1 hC.2.1 dX8_bestAsked_14 rfl (lv_at hl 3 rfl) <| lv_aload_n hC.1 hC.2.1 dX8_bestAsked_15 rfl (lv_at hl 0 rfl) <| gfX8_7 hC hK hP (q0 := 0) rfl rfl dX8_bestAsked_16 <| ziconst hC.1 hC.2.1 dX8_bestAsked_19 <| jal hC hK hP (q0 := 1) rfl (Nat.le_of_ble_eq_true rfl) (by decide) rfl dX8_bestAsked_20 <| ?_
      obtain ⟨hz_4, hf⟩ := ck_some hf
      refine zicmp_ge (tgt := 55) hC.1 hC.2.1 ⟨hz_4.1, hz_4.2⟩ dX8_bestAsked_21 (by decide) (fun hc => ?_) (fun hc => ?_)
      · have hf := it_t hf hc
        refine ziload_n hC.1 hC.2.1 dX8_bestAsked_55 rfl (lv_at hl 1 rfl) <| ?_
        have hf := Option.some.inj hf
        simp only [Prod.mk.injEq] at hf
        exact hret (Int32.ofInt y1) _ _ _ _ (congrArg (fun z => some (vI z)) hf.1.symm) (by rw [← hf.2]; exact hP) hS dX8_bestAsked_56
      · have hf := it_f hf hc
        refine lv_aload_n hC.1 hC.2.1 dX8_bestAsked_24 rfl (lv_at hl 0 rfl) <| ziload_n hC.1 hC.2.1 dX8_bestAsked_25 rfl (lv_at hl 3 rfl) <| ziconst hC.1 hC.2.1 dX8_bestAsked_26 <| zsipush hC.1 hC.2.1 dX8_bestAsked_27 (by decide) <| ?_
        obtain ⟨⟨r_5, V_6⟩, hu, hf⟩ := bd_some hf
        have hDc := hDt
        refine zcVZ (As := [vI y3, vI 0, vI 9999]) (rest := []) hC hK (met_X8_aidWith l D kA a n V y3 0 9999 hDc hu) zwX8_332 hS (zFsub (hD V) [0, 1, 2, 3, 4, 5, 6, 7, 8, 9, 10, 11, 12, 13, 14, 15, 16] rfl) hP (q0 := 0) rfl rfl rfl rfl hl.1 rfl (Nat.le_of_ble_eq_true rfl) ⟨Nat.le_of_ble_eq_true rfl, Nat.le_of_ble_eq_true rfl⟩ ⟨rfl, rfl⟩ ⟨Nat.le_refl _, Nat.le_refl _⟩ dX8_bestAsked_30 (fun H locs hP1 hk1 hS => ?_)
        have hP : va_P D vwCl (cs_X8 kA a V_6) H := hP1
        refine zistore (lv' := [(4, vI r_5), (0, .ref (a 0)), (1, vI y1), (2, vI y2), (3, vI y3)]) hC.1 hC.2.1 dX8_bestAsked_33 hl (by decide) rfl (fun ls hl => ?_)
        refine ziload hC.1 hC.2.1 dX8_bestAsked_35 (lv_at hl 0 rfl) <| ziload_n hC.1 hC.2.1 dX8_bestAsked_37 rfl (lv_at hl 3 rfl) <| ?_
        obtain ⟨hz_7, hf⟩ := ck_some hf
        refine zicmp_gt (tgt := 44) hC.1 hC.2.1 ⟨hz_7.1, hz_7.2⟩ dX8_bestAsked_38 (by decide) (fun hc => ?_) (fun hc => ?_)
        · have hf := it_t hf hc
          refine ziload_n hC.1 hC.2.1 dX8_bestAsked_44 rfl (lv_at hl 4 rfl) <| zistore_n (lv' := [(1, vI y3), (4, vI r_5), (0, .ref (a 0)), (2, vI y2), (3, vI y3)]) hC.1 hC.2.1 dX8_bestAsked_45 rfl hl (by decide) rfl (fun ls hl => ?_)
          refine ziload hC.1 hC.2.1 dX8_bestAsked_46 (lv_at hl 1 rfl) <| zistore_n (lv' := [(2, vI r_5), (1, vI y3), (4, vI r_5), (0, .ref (a 0)), (3, vI y3)]) hC.1 hC.2.1 dX8_bestAsked_48 rfl hl (by decide) rfl (fun ls hl => ?_)
          exact J49 _ _ _ _ _ _ _ hf hP hS (lv_sub hl [3, 1, 0, 4] rfl)
        · have hf := it_f hf hc
          exact lv_goto (tgt := 49) hC.1 hC.2.1 dX8_bestAsked_41 (by decide) <| J49 _ _ _ _ _ _ _ hf hP hS (lv_sub hl [1, 2, 3, 4] rfl)
  refine lv_aload_n hC.1 hC.2.1 dX8_bestAsked_0 rfl (lv_at hl 0 rfl) <| ziconst hC.1 hC.2.1 dX8_bestAsked_1 <| ?_
  refine pfX8_65 hC hK hP (hD V0) hS (q0 := 0) rfl (Nat.le_of_ble_eq_true rfl) dX8_bestAsked_2 (fun H locs hP hS => ?_)
  obtain ⟨V_1, eV_1⟩ : ∃ y, y = us V0 9 0 := ⟨_, rfl⟩
  have hf := nm_at hf eV_1
  have hP : va_P D vwCl (cs_X8 kA a V_1) H := by rw [eV_1]; exact hP
  refine ziconst hC.1 hC.2.1 dX8_bestAsked_5 <| zistore_n (lv' := [(1, vI (-1)), (0, .ref (a 0))]) hC.1 hC.2.1 dX8_bestAsked_6 rfl hl (by decide) rfl (fun ls hl => ?_)
  refine lv_aload_n hC.1 hC.2.1 dX8_bestAsked_7 rfl (lv_at hl 1 rfl) <| ?_
  obtain ⟨⟨r_2, V_3⟩, hu, hf⟩ := bd_some hf
  have hDc := hDt
  refine zcVZ (As := []) (rest := []) hC hK (met_X8_allAid l D kA a n V_1 hDc hu) zwX8_326 hS (zFsub (hD V_1) [0, 1, 2, 3, 4, 5, 6, 7, 8, 9, 10, 11, 12, 13, 14, 15, 16] rfl) hP (q0 := 0) rfl rfl rfl rfl hl.1 rfl (Nat.le_of_ble_eq_true rfl) ⟨Nat.le_of_ble_eq_true rfl, Nat.le_of_ble_eq_true rfl⟩ ⟨rfl, rfl⟩ ⟨Nat.le_refl _, Nat.le_refl _⟩ dX8_bestAsked_8 (fun H locs hP1 hk1 hS => ?_)
  have hP : va_P D vwCl (cs_X8 kA a V_3) H := hP1
  refine zistore_n (lv' := [(2, vI r_2), (1, vI (-1)), (0, .ref (a 0))]) hC.1 hC.2.1 dX8_bestAsked_11 rfl hl (by decide) rfl (fun ls hl => ?_)
  refine ziconst hC.1 hC.2.1 dX8_bestAsked_12 <| zistore_n (lv' := [(3, vI 0), (2, vI r_2), (1, vI (-1)), (0, .ref (a 0))]) hC.1 hC.2.1 dX8_bestAsked_13 rfl hl (by decide) rfl (fun ls hl => ?_)
  exact L14 n _ _ _ _ _ _ _ hf hP hS (lv_sub hl [3, 2, 1, 0] rfl)
theorem DX8_isDonorThere_0 : ∀ q ∈ ([(0, .iconst 0, 1), (1, .istore_n 3, 1), (2, .iload_n 3, 1), (3, .aload_n 0, 1), (4, .getfield 7, 3), (7, .sipush 293, 3), (10, .iload_n 2, 1), (11, .iadd, 1), (12, .iaload, 1), (13, .if_icmp .ge 29, 3), (16, .aload_n 0, 1), (17, .getfield 7, 3), (20, .sipush 413, 3), (23, .iload_n 2, 1), (24, .iload_n 3, 1), (25, .invokestatic 103, 3), (28, .iadd, 1), (29, .iaload, 1), (30, .iload_n 1, 1), (31, .if_icmp .ne 5, 3), (34, .iconst 1, 1), (35, .ireturn, 1), (36, .iinc 3 1, 3), (39, .goto (-37), 3), (42, .iconst 0, 1), (43, .ireturn, 1)] : List (Nat × Instr × Nat)), decode cX8_isDonorThere q.1 = .ok q.2 := by decide +kernel
theorem dX8_isDonorThere_0 : decode cX8_isDonorThere 0 = .ok (.iconst 0, 1) := DX8_isDonorThere_0 (0, .iconst 0, 1) (List.mem_of_getElem? (i := 0) rfl)
theorem dX8_isDonorThere_1 : decode cX8_isDonorThere 1 = .ok (.istore_n 3, 1) := DX8_isDonorThere_0 (1, .istore_n 3, 1) (List.mem_of_getElem? (i := 1) rfl)
theorem dX8_isDonorThere_2 : decode cX8_isDonorThere 2 = .ok (.iload_n 3, 1) := DX8_isDonorThere_0 (2, .iload_n 3, 1) (List.mem_of_getElem? (i := 2) rfl)
theorem dX8_isDonorThere_3 : decode cX8_isDonorThere 3 = .ok (.aload_n 0, 1) := DX8_isDonorThere_0 (3, .aload_n 0, 1) (List.mem_of_getElem? (i := 3) rfl)
theorem dX8_isDonorThere_4 : decode cX8_isDonorThere 4 = .ok (.getfield 7, 3) := DX8_isDonorThere_0 (4, .getfield 7, 3) (List.mem_of_getElem? (i := 4) rfl)
theorem dX8_isDonorThere_7 : decode cX8_isDonorThere 7 = .ok (.sipush 293, 3) := DX8_isDonorThere_0 (7, .sipush 293, 3) (List.mem_of_getElem? (i := 5) rfl)
theorem dX8_isDonorThere_10 : decode cX8_isDonorThere 10 = .ok (.iload_n 2, 1) := DX8_isDonorThere_0 (10, .iload_n 2, 1) (List.mem_of_getElem? (i := 6) rfl)
theorem dX8_isDonorThere_11 : decode cX8_isDonorThere 11 = .ok (.iadd, 1) := DX8_isDonorThere_0 (11, .iadd, 1) (List.mem_of_getElem? (i := 7) rfl)
theorem dX8_isDonorThere_12 : decode cX8_isDonorThere 12 = .ok (.iaload, 1) := DX8_isDonorThere_0 (12, .iaload, 1) (List.mem_of_getElem? (i := 8) rfl)
theorem dX8_isDonorThere_13 : decode cX8_isDonorThere 13 = .ok (.if_icmp .ge 29, 3) := DX8_isDonorThere_0 (13, .if_icmp .ge 29, 3) (List.mem_of_getElem? (i := 9) rfl)
theorem dX8_isDonorThere_16 : decode cX8_isDonorThere 16 = .ok (.aload_n 0, 1) := DX8_isDonorThere_0 (16, .aload_n 0, 1) (List.mem_of_getElem? (i := 10) rfl)
theorem dX8_isDonorThere_17 : decode cX8_isDonorThere 17 = .ok (.getfield 7, 3) := DX8_isDonorThere_0 (17, .getfield 7, 3) (List.mem_of_getElem? (i := 11) rfl)
theorem dX8_isDonorThere_20 : decode cX8_isDonorThere 20 = .ok (.sipush 413, 3) := DX8_isDonorThere_0 (20, .sipush 413, 3) (List.mem_of_getElem? (i := 12) rfl)
theorem dX8_isDonorThere_23 : decode cX8_isDonorThere 23 = .ok (.iload_n 2, 1) := DX8_isDonorThere_0 (23, .iload_n 2, 1) (List.mem_of_getElem? (i := 13) rfl)
theorem dX8_isDonorThere_24 : decode cX8_isDonorThere 24 = .ok (.iload_n 3, 1) := DX8_isDonorThere_0 (24, .iload_n 3, 1) (List.mem_of_getElem? (i := 14) rfl)
theorem dX8_isDonorThere_25 : decode cX8_isDonorThere 25 = .ok (.invokestatic 103, 3) := DX8_isDonorThere_0 (25, .invokestatic 103, 3) (List.mem_of_getElem? (i := 15) rfl)
theorem dX8_isDonorThere_28 : decode cX8_isDonorThere 28 = .ok (.iadd, 1) := DX8_isDonorThere_0 (28, .iadd, 1) (List.mem_of_getElem? (i := 16) rfl)
theorem dX8_isDonorThere_29 : decode cX8_isDonorThere 29 = .ok (.iaload, 1) := DX8_isDonorThere_0 (29, .iaload, 1) (List.mem_of_getElem? (i := 17) rfl)
theorem dX8_isDonorThere_30 : decode cX8_isDonorThere 30 = .ok (.iload_n 1, 1) := DX8_isDonorThere_0 (30, .iload_n 1, 1) (List.mem_of_getElem? (i := 18) rfl)
theorem dX8_isDonorThere_31 : decode cX8_isDonorThere 31 = .ok (.if_icmp .ne 5, 3) := DX8_isDonorThere_0 (31, .if_icmp .ne 5, 3) (List.mem_of_getElem? (i := 19) rfl)
theorem dX8_isDonorThere_34 : decode cX8_isDonorThere 34 = .ok (.iconst 1, 1) := DX8_isDonorThere_0 (34, .iconst 1, 1) (List.mem_of_getElem? (i := 20) rfl)
theorem dX8_isDonorThere_35 : decode cX8_isDonorThere 35 = .ok (.ireturn, 1) := DX8_isDonorThere_0 (35, .ireturn, 1) (List.mem_of_getElem? (i := 21) rfl)
theorem dX8_isDonorThere_36 : decode cX8_isDonorThere 36 = .ok (.iinc 3 1, 3) := DX8_isDonorThere_0 (36, .iinc 3 1, 3) (List.mem_of_getElem? (i := 22) rfl)
theorem dX8_isDonorThere_39 : decode cX8_isDonorThere 39 = .ok (.goto (-37), 3) := DX8_isDonorThere_0 (39, .goto (-37), 3) (List.mem_of_getElem? (i := 23) rfl)
theorem dX8_isDonorThere_42 : decode cX8_isDonorThere 42 = .ok (.iconst 0, 1) := DX8_isDonorThere_0 (42, .iconst 0, 1) (List.mem_of_getElem? (i := 24) rfl)
theorem dX8_isDonorThere_43 : decode cX8_isDonorThere 43 = .ok (.ireturn, 1) := DX8_isDonorThere_0 (43, .ireturn, 1) (List.mem_of_getElem? (i := 25) rfl)
abbrev rmX8_isDonorThere : Room := { frames := 1, cells := 0, slots := 0, locals := 21 }
set_option maxHeartbeats 400000 in
set_option maxRecDepth 100000 in
theorem met_X8_isDonorThere (l : Launch) (D : va_G) (kA : Nat → ClassId) (a : Nat → Nat) (n : Nat) (V : Sz) (x1 : Int) (x2 : Int) {r : Bool} (hf : f_X8_isDonorThere n V x1 x2 = some r) : MP l yX8_isDonorThere cX8_isDonorThere 4 (some .boolean) rmX8_isDonorThere D kA [.ref (a 0), vI x1, vI x2] (cs_X8 kA a V) (some (vI (bI r))) := by
  refine zPZ (own := RX8) rfl rfl (Nat.le_of_ble_eq_true rfl) ?_
  intro p e s m args below meth c ls Q hC hK hP hl hret
  have hl : lv_has ls 4 [(0, .ref (a 0)), (1, vI x1), (2, vI x2)] := hl
  unfold f_X8_isDonorThere at hf
  have L2 : ∀ (k2 : Nat) (y3 : Int) (ls : Array Slot), lpF (bX8_isDonorThere_2 n V x1 x2) k2 y3 = some r → lv_has ls 4 [(0, .ref (a 0)), (1, vI x1), (2, vI x2), (3, vI y3)] → W p l e rmX8_isDonorThere s m args below meth c s.heap [] 0 0 Q (F0 m 2 ls []) := by
    intro k2
    induction k2 with
    | zero => intro y3 ls hf hl; exact lp_0 hf
    | succ k2 ih2 =>
      intro y3 ls hf hl
      have hf := lp_s hf
      rw [bX8_isDonorThere_2_e] at hf
      refine ziload_n hC.1 hC.2.1 dX8_isDonorThere_2 rfl (lv_at hl 3 rfl) <| lv_aload_n hC.1 hC.2.1 dX8_isDonorThere_3 rfl (lv_at hl 0 rfl) <| gfX8_7 hC hK hP (q0 := 0) rfl rfl dX8_isDonorThere_4 <| zsipush hC.1 hC.2.1 dX8_isDonorThere_7 (by decide) <| ziload_n hC.1 hC.2.1 dX8_isDonorThere_10 rfl (lv_at hl 2 rfl) <| ziadd hC.1 hC.2.1 dX8_isDonorThere_11 <| ?_
      obtain ⟨hz_1, hf⟩ := ck_some hf
      refine jal hC hK hP (q0 := 1) rfl (Nat.le_of_ble_eq_true rfl) hz_1 rfl dX8_isDonorThere_12 <| ?_
      obtain ⟨hz_2, hf⟩ := ck_some hf
      refine zicmp_ge (tgt := 42) hC.1 hC.2.1 ⟨hz_2.1, hz_2.2⟩ dX8_isDonorThere_13 (by decide) (fun hc => ?_) (fun hc => ?_)
      · have hf := it_t hf hc
        exact ziconst hC.1 hC.2.1 dX8_isDonorThere_42 <| hret (Int32.ofInt (bI false)) _ _ (zb01 _) (qZ hf) dX8_isDonorThere_43
      · have hf := it_f hf hc
        refine lv_aload_n hC.1 hC.2.1 dX8_isDonorThere_16 rfl (lv_at hl 0 rfl) <| gfX8_7 hC hK hP (q0 := 0) rfl rfl dX8_isDonorThere_17 <| zsipush hC.1 hC.2.1 dX8_isDonorThere_20 (by decide) <| ziload_n hC.1 hC.2.1 dX8_isDonorThere_23 rfl (lv_at hl 2 rfl) <| ziload_n hC.1 hC.2.1 dX8_isDonorThere_24 rfl (lv_at hl 3 rfl) <| ?_
        obtain ⟨r_3, hu, hf⟩ := bd_some hf
        have hPc : va_P D vwCl ([] : va_W) _ := hP.sub [] rfl
        refine zcSP (As := [vI x2, vI y3]) (rest := [vI 413, .ref (a 1)]) hC hK (met_X8_partOf l D kA x2 y3 hu) zwX8_103 hPc rfl hl.1 rfl (Nat.le_of_ble_eq_true rfl) ⟨Nat.le_of_ble_eq_true rfl, Nat.le_of_ble_eq_true rfl⟩ ⟨rfl, rfl⟩ ⟨Nat.le_refl _, Nat.le_refl _⟩ dX8_isDonorThere_25 <| ziadd hC.1 hC.2.1 dX8_isDonorThere_28 <| ?_
        obtain ⟨hz_4, hf⟩ := ck_some hf
        refine jal hC hK hP (q0 := 1) rfl (Nat.le_of_ble_eq_true rfl) hz_4 rfl dX8_isDonorThere_29 <| ziload_n hC.1 hC.2.1 dX8_isDonorThere_30 rfl (lv_at hl 1 rfl) <| ?_
        obtain ⟨hz_5, hf⟩ := ck_some hf
        refine zicmp_ne (tgt := 36) hC.1 hC.2.1 ⟨hz_5.1, hz_5.2⟩ dX8_isDonorThere_31 (by decide) (fun hc => ?_) (fun hc => ?_)
        · have hf := it_f hf hc
          obtain ⟨x_6, ex_6⟩ : ∃ y : Int, y = y3 + 1 := ⟨_, rfl⟩
          have hf := nm_at hf ex_6
          refine ziinc (v := x_6) (lv' := [(3, vI x_6), (0, .ref (a 0)), (1, vI x1), (2, vI x2)]) hC.1 hC.2.1 dX8_isDonorThere_36 hl (k := 3) rfl ex_6 (by decide) rfl (fun ls hl => ?_)
          exact lv_goto (tgt := 2) hC.1 hC.2.1 dX8_isDonorThere_39 (by decide) <| ih2 _ _ hf (lv_sub hl [1, 2, 3, 0] rfl)
        · have hf := it_t hf hc
          exact ziconst hC.1 hC.2.1 dX8_isDonorThere_34 <| hret (Int32.ofInt (bI true)) _ _ (zb01 _) (qZ hf) dX8_isDonorThere_35
  refine ziconst hC.1 hC.2.1 dX8_isDonorThere_0 <| zistore_n (lv' := [(3, vI 0), (0, .ref (a 0)), (1, vI x1), (2, vI x2)]) hC.1 hC.2.1 dX8_isDonorThere_1 rfl hl (by decide) rfl (fun ls hl => ?_)
  exact L2 n _ _ hf (lv_sub hl [1, 2, 3, 0] rfl)
