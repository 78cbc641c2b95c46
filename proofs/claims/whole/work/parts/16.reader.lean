def cs_X6 (kA : Nat → ClassId) (a : Nat → Nat) (V : Sz) (X : Sz) (e_text : Nat) (e_target : Nat) : va_W := [(a 0, .inr (6, [vI (V 0 0), vI (V 1 0), .ref e_text, .ref e_target, vI (V 2 0), vI (V 3 0), vI (V 4 0), vI (V 5 0), vL (X 0 0), vI (V 6 0), .ref (a 1)])), (a 1, .inl (kA 2, 10, .inr (.inl (aL (X 1)))))]
def jX6_kindAt_45 (V : Sz) (X : Sz) (T2 : Nat → Int) (G : Sz) (x1 : Int) (y2 : Int) : Option (Int) := ck (rng y2) <| if y2 = 59 then (some 3) else (some 4)
def jX6_kindAt_31 (V : Sz) (X : Sz) (T2 : Nat → Int) (G : Sz) (x1 : Int) (y2 : Int) : Option (Int) := ck (rng y2) <| if y2 < 48 then (jX6_kindAt_45 V X T2 G x1 y2) else (if 57 < y2 then (jX6_kindAt_45 V X T2 G x1 y2) else (some 2))
def f_X6_kindAt (V : Sz) (X : Sz) (T2 : Nat → Int) (G : Sz) (x1 : Int) : Option (Int) := ck (rng x1 ∧ rng (V 2 0)) <| if x1 < V 2 0 then (ck (inZ x1 900) <| nm (T2 x1.toNat) fun (x_3 : Int) => ck (rng x_3) <| if x_3 < 97 then (jX6_kindAt_31 V X T2 G x1 x_3) else (if 122 < x_3 then (jX6_kindAt_31 V X T2 G x1 x_3) else (some 1))) else (some 0)
def bX6_packedWord_31 (n : Nat) (V : Sz) (X : Sz) (T2 : Nat → Int) (G : Sz) (rec31 : Int × Int → Option (Int)) : Int × Int → Option (Int) := fun (y1, y3) => ck (rng y3 ∧ rng (V 4 0)) <| if V 4 0 ≤ y3 then (some y1) else (ck (inZ y3 900) <| ck (rng (T2 y3.toNat)) <| ck (0 ≤ y1 * 256 ∧ y1 * 256 < 9223372036854775808 ∧ (y1 * 256) % 256 = 0 ∧ 0 ≤ T2 y3.toNat ∧ T2 y3.toNat < 256) <| nm ((y1 * 256) + (T2 y3.toNat)) fun (x_8 : Int) => nm (y3 + 1) fun (x_9 : Int) => rec31 (x_8, x_9))
theorem bX6_packedWord_31_e (n : Nat) (V : Sz) (X : Sz) (T2 : Nat → Int) (G : Sz) (rec31 : Int × Int → Option (Int)) (y1 : Int) (y3 : Int) : bX6_packedWord_31 n V X T2 G rec31 (y1, y3) = (ck (rng y3 ∧ rng (V 4 0)) <| if V 4 0 ≤ y3 then (some y1) else (ck (inZ y3 900) <| ck (rng (T2 y3.toNat)) <| ck (0 ≤ y1 * 256 ∧ y1 * 256 < 9223372036854775808 ∧ (y1 * 256) % 256 = 0 ∧ 0 ≤ T2 y3.toNat ∧ T2 y3.toNat < 256) <| nm ((y1 * 256) + (T2 y3.toNat)) fun (x_8 : Int) => nm (y3 + 1) fun (x_9 : Int) => rec31 (x_8, x_9))) := rfl
def f_X6_packedWord (n : Nat) (V : Sz) (X : Sz) (T2 : Nat → Int) (G : Sz) : Option (Int) := ck (rng (V 5 0)) <| if V 5 0 = 1 then (ck (rng ((V 4 0) - (V 3 0))) <| if (V 4 0) - (V 3 0) ≤ 7 then (nm (V 3 0) fun (x_3 : Int) => lpF (bX6_packedWord_31 n V X T2 G) n (0, x_3)) else (some 0)) else (some 0)
def jX6_advance_140 (n : Nat) (T2 : Nat → Int) (G : Sz) (V : Sz) (X : Sz) : Option (Sz × Sz) := bd (f_X6_packedWord n V X T2 G) fun (r_7 : Int) => nm (us X 0 r_7) fun (X_8 : Sz) => some (V, X_8)
def jX6_advance_88 (n : Nat) (T2 : Nat → Int) (G : Sz) (V : Sz) (X : Sz) : Option (Sz × Sz) := nm (us V 4 ((V 4 0) + 1)) fun (V_6 : Sz) => jX6_advance_140 n T2 G V_6 X
def bX6_advance_101 (n : Nat) (T2 : Nat → Int) (G : Sz) (rec101 : Sz × Sz → Option (Sz × Sz)) : Sz × Sz → Option (Sz × Sz) := fun (V, X) => ck (rng (V 4 0) ∧ rng (V 2 0)) <| if V 2 0 ≤ V 4 0 then (jX6_advance_140 n T2 G V X) else (bd (f_X6_kindAt V X T2 G (V 4 0)) fun (r_10 : Int) => ck (rng r_10 ∧ rng (V 5 0)) <| if r_10 = V 5 0 then (nm (us V 4 ((V 4 0) + 1)) fun (V_12 : Sz) => rec101 (V_12, X)) else (jX6_advance_140 n T2 G V X))
theorem bX6_advance_101_e (n : Nat) (T2 : Nat → Int) (G : Sz) (rec101 : Sz × Sz → Option (Sz × Sz)) (V : Sz) (X : Sz) : bX6_advance_101 n T2 G rec101 (V, X) = (ck (rng (V 4 0) ∧ rng (V 2 0)) <| if V 2 0 ≤ V 4 0 then (jX6_advance_140 n T2 G V X) else (bd (f_X6_kindAt V X T2 G (V 4 0)) fun (r_10 : Int) => ck (rng r_10 ∧ rng (V 5 0)) <| if r_10 = V 5 0 then (nm (us V 4 ((V 4 0) + 1)) fun (V_12 : Sz) => rec101 (V_12, X)) else (jX6_advance_140 n T2 G V X))) := rfl
def jX6_advance_52 (n : Nat) (T2 : Nat → Int) (G : Sz) (V : Sz) (X : Sz) : Option (Sz × Sz) := nm (us V 3 (V 4 0)) fun (V_2 : Sz) => bd (f_X6_kindAt V_2 X T2 G (V_2 4 0)) fun (r_3 : Int) => nm (us V_2 5 r_3) fun (V_4 : Sz) => ck (rng (V_4 5 0)) <| if V_4 5 0 = 3 then (jX6_advance_88 n T2 G V_4 X) else (if V_4 5 0 = 4 then (jX6_advance_88 n T2 G V_4 X) else (lpF (bX6_advance_101 n T2 G) n (V_4, X)))
def jX6_advance_39 (n : Nat) (T2 : Nat → Int) (G : Sz) (rec0 : Sz × Sz → Option (Sz × Sz)) (V : Sz) (X : Sz) : Option (Sz × Sz) := nm (us V 4 ((V 4 0) + 1)) fun (V_15 : Sz) => rec0 (V_15, X)
def bX6_advance_0 (n : Nat) (T2 : Nat → Int) (G : Sz) (rec0 : Sz × Sz → Option (Sz × Sz)) : Sz × Sz → Option (Sz × Sz) := fun (V, X) => ck (rng (V 4 0) ∧ rng (V 2 0)) <| if V 2 0 ≤ V 4 0 then (jX6_advance_52 n T2 G V X) else (ck (inZ (V 4 0) 900) <| ck (rng (T2 (V 4 0).toNat)) <| if T2 (V 4 0).toNat = 32 then (jX6_advance_39 n T2 G rec0 V X) else (if T2 (V 4 0).toNat = 10 then (jX6_advance_39 n T2 G rec0 V X) else (jX6_advance_52 n T2 G V X)))
theorem bX6_advance_0_e (n : Nat) (T2 : Nat → Int) (G : Sz) (rec0 : Sz × Sz → Option (Sz × Sz)) (V : Sz) (X : Sz) : bX6_advance_0 n T2 G rec0 (V, X) = (ck (rng (V 4 0) ∧ rng (V 2 0)) <| if V 2 0 ≤ V 4 0 then (jX6_advance_52 n T2 G V X) else (ck (inZ (V 4 0) 900) <| ck (rng (T2 (V 4 0).toNat)) <| if T2 (V 4 0).toNat = 32 then (jX6_advance_39 n T2 G rec0 V X) else (if T2 (V 4 0).toNat = 10 then (jX6_advance_39 n T2 G rec0 V X) else (jX6_advance_52 n T2 G V X)))) := rfl
def f_X6_advance (n : Nat) (V0 : Sz) (X0 : Sz) (T2 : Nat → Int) (G : Sz) : Option (Sz × Sz) := lpF (bX6_advance_0 n T2 G) n (V0, X0)
def f_X6_fail (V0 : Sz) (X : Sz) (T2 : Nat → Int) (G : Sz) (x1 : Int) : Option (Sz) := ck (rng (V0 0 0)) <| if V0 0 0 = 0 then (nm (us V0 0 x1) fun (V_2 : Sz) => nm (us V_2 1 (V_2 3 0)) fun (V_3 : Sz) => some V_3) else (some V0)
def jX6_readNumber_26 (n : Nat) (T2 : Nat → Int) (G : Sz) (x1 : Int) (x2 : Int) (V : Sz) (X : Sz) : Option (Int × Sz × Sz) := bd (f_X6_fail V X T2 G 1) fun (V_4 : Sz) => some (x1, V_4, X)
def jX6_readNumber_82 (n : Nat) (T2 : Nat → Int) (G : Sz) (x1 : Int) (x2 : Int) (y3 : Int) (V : Sz) (X : Sz) : Option (Int × Sz × Sz) := bd (f_X6_fail V X T2 G 2) fun (V_9 : Sz) => some (y3, V_9, X)
def bX6_readNumber_41 (n : Nat) (T2 : Nat → Int) (G : Sz) (x1 : Int) (x2 : Int) (rec41 : Int × Int × Sz × Sz → Option (Int × Sz × Sz)) : Int × Int × Sz × Sz → Option (Int × Sz × Sz) := fun (y3, y4, V, X) => ck (rng y4 ∧ rng (V 4 0)) <| if V 4 0 ≤ y4 then (ck (rng y3 ∧ rng x1) <| if y3 < x1 then (jX6_readNumber_82 n T2 G x1 x2 y3 V X) else (ck (rng x2) <| if y3 ≤ x2 then (some (y3, V, X)) else (jX6_readNumber_82 n T2 G x1 x2 y3 V X))) else (ck (inZ y4 900) <| nm ((y3 * 10) + ((T2 y4.toNat) - 48)) fun (x_12 : Int) => nm (y4 + 1) fun (x_13 : Int) => rec41 (x_12, x_13, V, X))
theorem bX6_readNumber_41_e (n : Nat) (T2 : Nat → Int) (G : Sz) (x1 : Int) (x2 : Int) (rec41 : Int × Int × Sz × Sz → Option (Int × Sz × Sz)) (y3 : Int) (y4 : Int) (V : Sz) (X : Sz) : bX6_readNumber_41 n T2 G x1 x2 rec41 (y3, y4, V, X) = (ck (rng y4 ∧ rng (V 4 0)) <| if V 4 0 ≤ y4 then (ck (rng y3 ∧ rng x1) <| if y3 < x1 then (jX6_readNumber_82 n T2 G x1 x2 y3 V X) else (ck (rng x2) <| if y3 ≤ x2 then (some (y3, V, X)) else (jX6_readNumber_82 n T2 G x1 x2 y3 V X))) else (ck (inZ y4 900) <| nm ((y3 * 10) + ((T2 y4.toNat) - 48)) fun (x_12 : Int) => nm (y4 + 1) fun (x_13 : Int) => rec41 (x_12, x_13, V, X))) := rfl
def f_X6_readNumber (n : Nat) (V0 : Sz) (X0 : Sz) (T2 : Nat → Int) (G : Sz) (x1 : Int) (x2 : Int) : Option (Int × Sz × Sz) := bd (f_X6_advance n V0 X0 T2 G) fun ((V_1, X_2) : Sz × Sz) => ck (rng (V_1 5 0)) <| if V_1 5 0 = 2 then (ck (rng ((V_1 4 0) - (V_1 3 0))) <| if (V_1 4 0) - (V_1 3 0) ≤ 6 then (nm (V_1 3 0) fun (x_6 : Int) => lpF (bX6_readNumber_41 n T2 G x1 x2) n (0, x_6, V_1, X_2)) else (jX6_readNumber_26 n T2 G x1 x2 V_1 X_2)) else (jX6_readNumber_26 n T2 G x1 x2 V_1 X_2)
def f_X6_readSemicolon (n : Nat) (V0 : Sz) (X0 : Sz) (T2 : Nat → Int) (G : Sz) : Option (Sz × Sz) := bd (f_X6_advance n V0 X0 T2 G) fun ((V_1, X_2) : Sz × Sz) => ck (rng (V_1 5 0)) <| if V_1 5 0 = 3 then (some (V_1, X_2)) else (bd (f_X6_fail V_1 X_2 T2 G 1) fun (V_4 : Sz) => some (V_4, X_2))
def jX6_readRules_25 (n : Nat) (T2 : Nat → Int) (V : Sz) (X : Sz) (G : Sz) : Option (Sz × Sz × Sz) := nm (us V 6 1) fun (V_3 : Sz) => bd (f_X6_readNumber n V_3 X T2 G 0 100) fun ((r_4, V_5, X_6) : Int × Sz × Sz) => nm (us G 0 r_4) fun (G_7 : Sz) => bd (f_X6_readNumber n V_5 X_6 T2 G_7 0 9999) fun ((r_8, V_9, X_10) : Int × Sz × Sz) => nm (us G_7 1 r_8) fun (G_11 : Sz) => bd (f_X6_readNumber n V_9 X_10 T2 G_11 0 100) fun ((r_12, V_13, X_14) : Int × Sz × Sz) => nm (us G_11 2 r_12) fun (G_15 : Sz) => bd (f_X6_readSemicolon n V_13 X_14 T2 G_15) fun ((V_16, X_17) : Sz × Sz) => some (V_16, X_17, G_15)
def jX6_readRules_20 (n : Nat) (T2 : Nat → Int) (V : Sz) (X : Sz) (G : Sz) : Option (Sz × Sz × Sz) := bd (f_X6_fail V X T2 G 4) fun (V_2 : Sz) => jX6_readRules_25 n T2 V_2 X G
def f_X6_readRules (n : Nat) (V0 : Sz) (X0 : Sz) (T2 : Nat → Int) (G0 : Sz) : Option (Sz × Sz × Sz) := ck (rng (V0 6 0)) <| if V0 6 0 = 0 then (ck (rng (G0 9 0)) <| if G0 9 0 ≤ 0 then (jX6_readRules_25 n T2 V0 X0 G0) else (jX6_readRules_20 n T2 V0 X0 G0)) else (jX6_readRules_20 n T2 V0 X0 G0)
def jX6_readGiftHead_18 (n : Nat) (T2 : Nat → Int) (V : Sz) (X : Sz) (G : Sz) : Option (Int × Sz × Sz × Sz) := bd (f_X6_readNumber n V X T2 G 0 9999) fun ((r_2, V_3, X_4) : Int × Sz × Sz) => bd (f_X6_readNumber n V_3 X_4 T2 G 1 999999) fun ((r_5, V_6, X_7) : Int × Sz × Sz) => bd (f_X6_readNumber n V_6 X_7 T2 G 0 999999) fun ((r_8, V_9, X_10) : Int × Sz × Sz) => ck (rng (V_9 0 0)) <| if V_9 0 0 = 0 then (bd (f_X3_add n (sv 9 G) r_2 r_5 r_8) fun ((r_12, G_13) : Int × Sz) => nm (sw 9 12 G G_13) fun (G_14 : Sz) => some (r_12, V_9, X_10, G_14)) else (some ((-1), V_9, X_10, G))
def f_X6_readGiftHead (n : Nat) (V0 : Sz) (X0 : Sz) (T2 : Nat → Int) (G0 : Sz) : Option (Int × Sz × Sz × Sz) := bd (f_X3_isFull (sv 9 G0)) fun (r_1 : Bool) => if r_1 = false then (jX6_readGiftHead_18 n T2 V0 X0 G0) else (bd (f_X6_fail V0 X0 T2 G0 4) fun (V_15 : Sz) => jX6_readGiftHead_18 n T2 V_15 X0 G0)
def f_X6_isFirstWord (V : Sz) (X : Sz) (T2 : Nat → Int) (G : Sz) : Option (Bool) := ck (rngL (X 0 0)) <| if X 0 0 = 431366238066 then (some true) else (if X 0 0 = 28258975365558885 then (some true) else (if X 0 0 = 1734960756 then (some true) else (if X 0 0 = 495807392116 then (some true) else (if X 0 0 = 1667330920 then (some true) else (if X 0 0 = 491596309875 then (some true) else (some false))))))
def jX6_namedDonor_29 (n : Nat) (X : Sz) (T2 : Nat → Int) (G : Sz) (V : Sz) : Option (Int × Sz) := bd (f_X6_fail V X T2 G 1) fun (V_2 : Sz) => some ((-1), V_2)
def bX6_namedDonor_38 (n : Nat) (X : Sz) (T2 : Nat → Int) (G : Sz) (rec38 : Int × Sz → Option (Int × Sz)) : Int × Sz → Option (Int × Sz) := fun (y1, V) => ck (rng y1 ∧ rng (G 3 0)) <| if G 3 0 ≤ y1 then (some ((-1), V)) else (ck (inZ y1 10) <| ck (rngL (X 1 y1.toNat) ∧ rngL (X 0 0)) <| if X 1 y1.toNat = X 0 0 then (some (y1, V)) else (nm (y1 + 1) fun (x_8 : Int) => rec38 (x_8, V)))
theorem bX6_namedDonor_38_e (n : Nat) (X : Sz) (T2 : Nat → Int) (G : Sz) (rec38 : Int × Sz → Option (Int × Sz)) (y1 : Int) (V : Sz) : bX6_namedDonor_38 n X T2 G rec38 (y1, V) = (ck (rng y1 ∧ rng (G 3 0)) <| if G 3 0 ≤ y1 then (some ((-1), V)) else (ck (inZ y1 10) <| ck (rngL (X 1 y1.toNat) ∧ rngL (X 0 0)) <| if X 1 y1.toNat = X 0 0 then (some (y1, V)) else (nm (y1 + 1) fun (x_8 : Int) => rec38 (x_8, V)))) := rfl
def f_X6_namedDonor (n : Nat) (V0 : Sz) (X : Sz) (T2 : Nat → Int) (G : Sz) : Option (Int × Sz) := ck (rng (V0 5 0)) <| if V0 5 0 = 1 then (ck (rng ((V0 4 0) - (V0 3 0))) <| if 6 < (V0 4 0) - (V0 3 0) then (jX6_namedDonor_29 n X T2 G V0) else (bd (f_X6_isFirstWord V0 X T2 G) fun (r_4 : Bool) => if r_4 = false then (lpF (bX6_namedDonor_38 n X T2 G) n (0, V0)) else (jX6_namedDonor_29 n X T2 G V0))) else (jX6_namedDonor_29 n X T2 G V0)
def f_X6_knownDonor (n : Nat) (V0 : Sz) (X : Sz) (T2 : Nat → Int) (G : Sz) : Option (Int × Sz) := bd (f_X6_namedDonor n V0 X T2 G) fun ((r_1, V_2) : Int × Sz) => ck (rng r_1) <| if r_1 = (-1) then (bd (f_X6_fail V_2 X T2 G 3) fun (V_4 : Sz) => some (r_1, V_4)) else (some (r_1, V_2))
def jX6_readShare_30 (n : Nat) (T2 : Nat → Int) (x1 : Int) (y2 : Int) (V : Sz) (X : Sz) (G : Sz) : Option (Sz × Sz × Sz) := bd (f_X6_readNumber n V X T2 G 1 9) fun ((r_4, V_5, X_6) : Int × Sz × Sz) => ck (rng (V_5 0 0)) <| if V_5 0 0 = 0 then (bd (f_X3_addPart n (sv 9 G) x1 y2 r_4) fun (G_8 : Sz) => nm (sw 9 12 G G_8) fun (G_9 : Sz) => some (V_5, X_6, G_9)) else (some (V_5, X_6, G))
def f_X6_readShare (n : Nat) (V0 : Sz) (X0 : Sz) (T2 : Nat → Int) (G0 : Sz) (x1 : Int) : Option (Sz × Sz × Sz) := bd (f_X6_knownDonor n V0 X0 T2 G0) fun ((r_1, V_2) : Int × Sz) => ck (rng x1) <| if x1 = (-1) then (jX6_readShare_30 n T2 x1 r_1 V_2 X0 G0) else (bd (f_X3_hasDonor n (sv 9 G0) x1 r_1) fun (r_10 : Bool) => if r_10 = false then (jX6_readShare_30 n T2 x1 r_1 V_2 X0 G0) else (bd (f_X6_fail V_2 X0 T2 G0 3) fun (V_11 : Sz) => jX6_readShare_30 n T2 x1 r_1 V_11 X0 G0))
def f_X6_readSplit (n : Nat) (V0 : Sz) (X0 : Sz) (T2 : Nat → Int) (G0 : Sz) : Option (Sz × Sz × Sz) := bd (f_X6_readGiftHead n V0 X0 T2 G0) fun ((r_1, V_2, X_3, G_4) : Int × Sz × Sz × Sz) => bd (f_X6_advance n V_2 X_3 T2 G_4) fun ((V_5, X_6) : Sz × Sz) => bd (f_X6_readShare n V_5 X_6 T2 G_4 r_1) fun ((V_7, X_8, G_9) : Sz × Sz × Sz) => bd (f_X6_advance n V_7 X_8 T2 G_9) fun ((V_10, X_11) : Sz × Sz) => bd (f_X6_readShare n V_10 X_11 T2 G_9 r_1) fun ((V_12, X_13, G_14) : Sz × Sz × Sz) => bd (f_X6_advance n V_12 X_13 T2 G_14) fun ((V_15, X_16) : Sz × Sz) => ck (rng (V_15 5 0)) <| if V_15 5 0 = 3 then (some (V_15, X_16, G_14)) else (bd (f_X6_readShare n V_15 X_16 T2 G_14 r_1) fun ((V_18, X_19, G_20) : Sz × Sz × Sz) => bd (f_X6_readSemicolon n V_18 X_19 T2 G_20) fun ((V_21, X_22) : Sz × Sz) => some (V_21, X_22, G_20))
def f_X6_readGift (n : Nat) (V0 : Sz) (X0 : Sz) (T2 : Nat → Int) (G0 : Sz) : Option (Sz × Sz × Sz) := bd (f_X6_readGiftHead n V0 X0 T2 G0) fun ((r_1, V_2, X_3, G_4) : Int × Sz × Sz × Sz) => bd (f_X6_advance n V_2 X_3 T2 G_4) fun ((V_5, X_6) : Sz × Sz) => bd (f_X6_knownDonor n V_5 X_6 T2 G_4) fun ((r_7, V_8) : Int × Sz) => bd (f_X6_readSemicolon n V_8 X_6 T2 G_4) fun ((V_9, X_10) : Sz × Sz) => ck (rng (V_9 0 0)) <| if V_9 0 0 = 0 then (bd (f_X3_addPart n (sv 9 G_4) r_1 r_7 1) fun (G_12 : Sz) => nm (sw 9 12 G_4 G_12) fun (G_13 : Sz) => some (V_9, X_10, G_13)) else (some (V_9, X_10, G_4))
def jX6_readDeclaration_18 (n : Nat) (T2 : Nat → Int) (V : Sz) (X : Sz) (G : Sz) : Option (Sz × Sz × Sz) := bd (f_X6_advance n V X T2 G) fun ((V_2, X_3) : Sz × Sz) => bd (f_X6_knownDonor n V_2 X_3 T2 G) fun ((r_4, V_5) : Int × Sz) => bd (f_X6_readNumber n V_5 X_3 T2 G 0 9999) fun ((r_6, V_7, X_8) : Int × Sz × Sz) => bd (f_X6_readNumber n V_7 X_8 T2 G r_6 9999) fun ((r_9, V_10, X_11) : Int × Sz × Sz) => bd (f_X6_readSemicolon n V_10 X_11 T2 G) fun ((V_12, X_13) : Sz × Sz) => ck (rng (V_12 0 0)) <| if V_12 0 0 = 0 then (bd (f_X1_add (sv 5 G) r_4 r_6 r_9) fun ((r_15, G_16) : Int × Sz) => nm (sw 5 4 G G_16) fun (G_17 : Sz) => some (V_12, X_13, G_17)) else (some (V_12, X_13, G))
def f_X6_readDeclaration (n : Nat) (V0 : Sz) (X0 : Sz) (T2 : Nat → Int) (G0 : Sz) : Option (Sz × Sz × Sz) := bd (f_X1_isFull (sv 5 G0)) fun (r_1 : Bool) => if r_1 = false then (jX6_readDeclaration_18 n T2 V0 X0 G0) else (bd (f_X6_fail V0 X0 T2 G0 4) fun (V_18 : Sz) => jX6_readDeclaration_18 n T2 V_18 X0 G0)
def jX6_readDonor_36 (n : Nat) (T2 : Nat → Int) (y1 : Int) (V : Sz) (X : Sz) (G : Sz) : Option (Sz × Sz × Sz) := nm (X 0 0) fun (x_8 : Int) => bd (f_X6_readNumber n V X T2 G 0 999999) fun ((r_9, V_10, X_11) : Int × Sz × Sz) => bd (f_X6_readSemicolon n V_10 X_11 T2 G) fun ((V_12, X_13) : Sz × Sz) => ck (rng (V_12 0 0)) <| if V_12 0 0 = 0 then (ck (rng y1) <| if 10 ≤ y1 then (some (V_12, X_13, G)) else (ck (inZ y1 10) <| nm (uz X_13 1 y1.toNat x_8) fun (X_17 : Sz) => bd (f_X4_addDonor G r_9) fun (G_18 : Sz) => some (V_12, X_17, G_18))) else (some (V_12, X_13, G))
def jX6_readDonor_19 (n : Nat) (T2 : Nat → Int) (y1 : Int) (V : Sz) (X : Sz) (G : Sz) : Option (Sz × Sz × Sz) := bd (f_X6_advance n V X T2 G) fun ((V_3, X_4) : Sz × Sz) => bd (f_X6_namedDonor n V_3 X_4 T2 G) fun ((r_5, V_6) : Int × Sz) => ck (rng r_5) <| if r_5 = (-1) then (jX6_readDonor_36 n T2 y1 V_6 X_4 G) else (bd (f_X6_fail V_6 X_4 T2 G 3) fun (V_19 : Sz) => jX6_readDonor_36 n T2 y1 V_19 X_4 G)
def f_X6_readDonor (n : Nat) (V0 : Sz) (X0 : Sz) (T2 : Nat → Int) (G0 : Sz) : Option (Sz × Sz × Sz) := nm (G0 3 0) fun (x_1 : Int) => ck (rng x_1) <| if x_1 < 10 then (jX6_readDonor_19 n T2 x_1 V0 X0 G0) else (bd (f_X6_fail V0 X0 T2 G0 4) fun (V_20 : Sz) => jX6_readDonor_19 n T2 x_1 V_20 X0 G0)
def jX6_readAll_185 (n : Nat) (T2 : Nat → Int) (x1 : Int) (rec46 : Int × Sz × Sz × Sz → Option (Sz × Sz × Sz)) (y2 : Int) (V : Sz) (X : Sz) (G : Sz) : Option (Sz × Sz × Sz) := bd (f_X6_advance n V X T2 G) fun ((V_15, X_16) : Sz × Sz) => nm (y2 + 1) fun (x_17 : Int) => rec46 (x_17, V_15, X_16, G)
def bX6_readAll_46 (n : Nat) (T2 : Nat → Int) (x1 : Int) (rec46 : Int × Sz × Sz × Sz → Option (Sz × Sz × Sz)) : Int × Sz × Sz × Sz → Option (Sz × Sz × Sz) := fun (y2, V, X, G) => ck (rng y2) <| if 900 ≤ y2 then (some (V, X, G)) else (ck (rng (V 5 0)) <| if V 5 0 = 0 then (some (V, X, G)) else (ck (rng (V 0 0)) <| if V 0 0 = 0 then (ck (rngL (X 0 0)) <| if X 0 0 = 431366238066 then (bd (f_X6_readDonor n V X T2 G) fun ((V_36, X_37, G_38) : Sz × Sz × Sz) => jX6_readAll_185 n T2 x1 rec46 y2 V_36 X_37 G_38) else (if X 0 0 = 28258975365558885 then (bd (f_X6_readDeclaration n V X T2 G) fun ((V_33, X_34, G_35) : Sz × Sz × Sz) => jX6_readAll_185 n T2 x1 rec46 y2 V_33 X_34 G_35) else (if X 0 0 = 1734960756 then (bd (f_X6_readGift n V X T2 G) fun ((V_30, X_31, G_32) : Sz × Sz × Sz) => jX6_readAll_185 n T2 x1 rec46 y2 V_30 X_31 G_32) else (if X 0 0 = 495807392116 then (bd (f_X6_readSplit n V X T2 G) fun ((V_27, X_28, G_29) : Sz × Sz × Sz) => jX6_readAll_185 n T2 x1 rec46 y2 V_27 X_28 G_29) else (if X 0 0 = 1667330920 then (bd (f_X6_readGiftHead n V X T2 G) fun ((r_21, V_22, X_23, G_24) : Int × Sz × Sz × Sz) => bd (f_X6_readSemicolon n V_22 X_23 T2 G_24) fun ((V_25, X_26) : Sz × Sz) => jX6_readAll_185 n T2 x1 rec46 y2 V_25 X_26 G_24) else (if X 0 0 = 491596309875 then (bd (f_X6_readRules n V X T2 G) fun ((V_18, X_19, G_20) : Sz × Sz × Sz) => jX6_readAll_185 n T2 x1 rec46 y2 V_18 X_19 G_20) else (bd (f_X6_fail V X T2 G 1) fun (V_14 : Sz) => jX6_readAll_185 n T2 x1 rec46 y2 V_14 X G))))))) else (some (V, X, G))))
theorem bX6_readAll_46_e (n : Nat) (T2 : Nat → Int) (x1 : Int) (rec46 : Int × Sz × Sz × Sz → Option (Sz × Sz × Sz)) (y2 : Int) (V : Sz) (X : Sz) (G : Sz) : bX6_readAll_46 n T2 x1 rec46 (y2, V, X, G) = (ck (rng y2) <| if 900 ≤ y2 then (some (V, X, G)) else (ck (rng (V 5 0)) <| if V 5 0 = 0 then (some (V, X, G)) else (ck (rng (V 0 0)) <| if V 0 0 = 0 then (ck (rngL (X 0 0)) <| if X 0 0 = 431366238066 then (bd (f_X6_readDonor n V X T2 G) fun ((V_36, X_37, G_38) : Sz × Sz × Sz) => jX6_readAll_185 n T2 x1 rec46 y2 V_36 X_37 G_38) else (if X 0 0 = 28258975365558885 then (bd (f_X6_readDeclaration n V X T2 G) fun ((V_33, X_34, G_35) : Sz × Sz × Sz) => jX6_readAll_185 n T2 x1 rec46 y2 V_33 X_34 G_35) else (if X 0 0 = 1734960756 then (bd (f_X6_readGift n V X T2 G) fun ((V_30, X_31, G_32) : Sz × Sz × Sz) => jX6_readAll_185 n T2 x1 rec46 y2 V_30 X_31 G_32) else (if X 0 0 = 495807392116 then (bd (f_X6_readSplit n V X T2 G) fun ((V_27, X_28, G_29) : Sz × Sz × Sz) => jX6_readAll_185 n T2 x1 rec46 y2 V_27 X_28 G_29) else (if X 0 0 = 1667330920 then (bd (f_X6_readGiftHead n V X T2 G) fun ((r_21, V_22, X_23, G_24) : Int × Sz × Sz × Sz) => bd (f_X6_readSemicolon n V_22 X_23 T2 G_24) fun ((V_25, X_26) : Sz × Sz) => jX6_readAll_185 n T2 x1 rec46 y2 V_25 X_26 G_24) else (if X 0 0 = 491596309875 then (bd (f_X6_readRules n V X T2 G) fun ((V_18, X_19, G_20) : Sz × Sz × Sz) => jX6_readAll_185 n T2 x1 rec46 y2 V_18 X_19 G_20) else (bd (f_X6_fail V X T2 G 1) fun (V_14 : Sz) => jX6_readAll_185 n T2 x1 rec46 y2 V_14 X G))))))) else (some (V, X, G))))) := rfl
def f_X6_readAll (n : Nat) (V0 : Sz) (X0 : Sz) (T2 : Nat → Int) (G0 : Sz) (x1 : Int) : Option (Sz × Sz × Sz) := ck (rng x1) <| nm (us V0 2 (min x1 900)) fun (V_2 : Sz) => nm (us V_2 4 0) fun (V_3 : Sz) => nm (us V_3 0 0) fun (V_4 : Sz) => nm (us V_4 1 (-1)) fun (V_5 : Sz) => nm (us V_5 6 0) fun (V_6 : Sz) => bd (f_X4_clear G0) fun (G_7 : Sz) => bd (f_X6_advance n V_6 X0 T2 G_7) fun ((V_8, X_9) : Sz × Sz) => lpF (bX6_readAll_46 n T2 x1) n (0, V_8, X_9, G_7)
theorem DX6_kindAt_0 : ∀ q ∈ ([(0, .iload_n 1, 1), (1, .aload_n 0, 1), (2, .getfield 29, 3), (5, .if_icmp .lt 5, 3), (8, .iconst 0, 1), (9, .ireturn, 1), (10, .aload_n 0, 1), (11, .getfield 15, 3), (14, .iload_n 1, 1), (15, .baload, 1), (16, .istore_n 2, 1), (17, .iload_n 2, 1), (18, .bipush 97, 2), (20, .if_icmp .lt 11, 3), (23, .iload_n 2, 1), (24, .bipush 122, 2), (26, .if_icmp .gt 5, 3), (29, .iconst 1, 1), (30, .ireturn, 1), (31, .iload_n 2, 1), (32, .bipush 48, 2), (34, .if_icmp .lt 11, 3), (37, .iload_n 2, 1), (38, .bipush 57, 2), (40, .if_icmp .gt 5, 3), (43, .iconst 2, 1), (44, .ireturn, 1), (45, .iload_n 2, 1), (46, .bipush 59, 2), (48, .if_icmp .ne 7, 3), (51, .iconst 3, 1), (52, .goto 4, 3), (55, .iconst 4, 1), (56, .ireturn, 1)] : List (Nat × Instr × Nat)), decode cX6_kindAt q.1 = .ok q.2 := by decide +kernel
theorem dX6_kindAt_0 : decode cX6_kindAt 0 = .ok (.iload_n 1, 1) := DX6_kindAt_0 (0, .iload_n 1, 1) (List.mem_of_getElem? (i := 0) rfl)
theorem dX6_kindAt_1 : decode cX6_kindAt 1 = .ok (.aload_n 0, 1) := DX6_kindAt_0 (1, .aload_n 0, 1) (List.mem_of_getElem? (i := 1) rfl)
theorem dX6_kindAt_2 : decode cX6_kindAt 2 = .ok (.getfield 29, 3) := DX6_kindAt_0 (2, .getfield 29, 3) (List.mem_of_getElem? (i := 2) rfl)
theorem dX6_kindAt_5 : decode cX6_kindAt 5 = .ok (.if_icmp .lt 5, 3) := DX6_kindAt_0 (5, .if_icmp .lt 5, 3) (List.mem_of_getElem? (i := 3) rfl)
theorem dX6_kindAt_8 : decode cX6_kindAt 8 = .ok (.iconst 0, 1) := DX6_kindAt_0 (8, .iconst 0, 1) (List.mem_of_getElem? (i := 4) rfl)
theorem dX6_kindAt_9 : decode cX6_kindAt 9 = .ok (.ireturn, 1) := DX6_kindAt_0 (9, .ireturn, 1) (List.mem_of_getElem? (i := 5) rfl)
theorem dX6_kindAt_10 : decode cX6_kindAt 10 = .ok (.aload_n 0, 1) := DX6_kindAt_0 (10, .aload_n 0, 1) (List.mem_of_getElem? (i := 6) rfl)
theorem dX6_kindAt_11 : decode cX6_kindAt 11 = .ok (.getfield 15, 3) := DX6_kindAt_0 (11, .getfield 15, 3) (List.mem_of_getElem? (i := 7) rfl)
theorem dX6_kindAt_14 : decode cX6_kindAt 14 = .ok (.iload_n 1, 1) := DX6_kindAt_0 (14, .iload_n 1, 1) (List.mem_of_getElem? (i := 8) rfl)
theorem dX6_kindAt_15 : decode cX6_kindAt 15 = .ok (.baload, 1) := DX6_kindAt_0 (15, .baload, 1) (List.mem_of_getElem? (i := 9) rfl)
theorem dX6_kindAt_16 : decode cX6_kindAt 16 = .ok (.istore_n 2, 1) := DX6_kindAt_0 (16, .istore_n 2, 1) (List.mem_of_getElem? (i := 10) rfl)
theorem dX6_kindAt_17 : decode cX6_kindAt 17 = .ok (.iload_n 2, 1) := DX6_kindAt_0 (17, .iload_n 2, 1) (List.mem_of_getElem? (i := 11) rfl)
theorem dX6_kindAt_18 : decode cX6_kindAt 18 = .ok (.bipush 97, 2) := DX6_kindAt_0 (18, .bipush 97, 2) (List.mem_of_getElem? (i := 12) rfl)
theorem dX6_kindAt_20 : decode cX6_kindAt 20 = .ok (.if_icmp .lt 11, 3) := DX6_kindAt_0 (20, .if_icmp .lt 11, 3) (List.mem_of_getElem? (i := 13) rfl)
theorem dX6_kindAt_23 : decode cX6_kindAt 23 = .ok (.iload_n 2, 1) := DX6_kindAt_0 (23, .iload_n 2, 1) (List.mem_of_getElem? (i := 14) rfl)
theorem dX6_kindAt_24 : decode cX6_kindAt 24 = .ok (.bipush 122, 2) := DX6_kindAt_0 (24, .bipush 122, 2) (List.mem_of_getElem? (i := 15) rfl)
theorem dX6_kindAt_26 : decode cX6_kindAt 26 = .ok (.if_icmp .gt 5, 3) := DX6_kindAt_0 (26, .if_icmp .gt 5, 3) (List.mem_of_getElem? (i := 16) rfl)
theorem dX6_kindAt_29 : decode cX6_kindAt 29 = .ok (.iconst 1, 1) := DX6_kindAt_0 (29, .iconst 1, 1) (List.mem_of_getElem? (i := 17) rfl)
theorem dX6_kindAt_30 : decode cX6_kindAt 30 = .ok (.ireturn, 1) := DX6_kindAt_0 (30, .ireturn, 1) (List.mem_of_getElem? (i := 18) rfl)
theorem dX6_kindAt_31 : decode cX6_kindAt 31 = .ok (.iload_n 2, 1) := DX6_kindAt_0 (31, .iload_n 2, 1) (List.mem_of_getElem? (i := 19) rfl)
theorem dX6_kindAt_32 : decode cX6_kindAt 32 = .ok (.bipush 48, 2) := DX6_kindAt_0 (32, .bipush 48, 2) (List.mem_of_getElem? (i := 20) rfl)
theorem dX6_kindAt_34 : decode cX6_kindAt 34 = .ok (.if_icmp .lt 11, 3) := DX6_kindAt_0 (34, .if_icmp .lt 11, 3) (List.mem_of_getElem? (i := 21) rfl)
theorem dX6_kindAt_37 : decode cX6_kindAt 37 = .ok (.iload_n 2, 1) := DX6_kindAt_0 (37, .iload_n 2, 1) (List.mem_of_getElem? (i := 22) rfl)
theorem dX6_kindAt_38 : decode cX6_kindAt 38 = .ok (.bipush 57, 2) := DX6_kindAt_0 (38, .bipush 57, 2) (List.mem_of_getElem? (i := 23) rfl)
theorem dX6_kindAt_40 : decode cX6_kindAt 40 = .ok (.if_icmp .gt 5, 3) := DX6_kindAt_0 (40, .if_icmp .gt 5, 3) (List.mem_of_getElem? (i := 24) rfl)
theorem dX6_kindAt_43 : decode cX6_kindAt 43 = .ok (.iconst 2, 1) := DX6_kindAt_0 (43, .iconst 2, 1) (List.mem_of_getElem? (i := 25) rfl)
theorem dX6_kindAt_44 : decode cX6_kindAt 44 = .ok (.ireturn, 1) := DX6_kindAt_0 (44, .ireturn, 1) (List.mem_of_getElem? (i := 26) rfl)
theorem dX6_kindAt_45 : decode cX6_kindAt 45 = .ok (.iload_n 2, 1) := DX6_kindAt_0 (45, .iload_n 2, 1) (List.mem_of_getElem? (i := 27) rfl)
theorem dX6_kindAt_46 : decode cX6_kindAt 46 = .ok (.bipush 59, 2) := DX6_kindAt_0 (46, .bipush 59, 2) (List.mem_of_getElem? (i := 28) rfl)
theorem dX6_kindAt_48 : decode cX6_kindAt 48 = .ok (.if_icmp .ne 7, 3) := DX6_kindAt_0 (48, .if_icmp .ne 7, 3) (List.mem_of_getElem? (i := 29) rfl)
theorem dX6_kindAt_51 : decode cX6_kindAt 51 = .ok (.iconst 3, 1) := DX6_kindAt_0 (51, .iconst 3, 1) (List.mem_of_getElem? (i := 30) rfl)
theorem dX6_kindAt_52 : decode cX6_kindAt 52 = .ok (.goto 4, 3) := DX6_kindAt_0 (52, .goto 4, 3) (List.mem_of_getElem? (i := 31) rfl)
theorem dX6_kindAt_55 : decode cX6_kindAt 55 = .ok (.iconst 4, 1) := DX6_kindAt_0 (55, .iconst 4, 1) (List.mem_of_getElem? (i := 32) rfl)
theorem dX6_kindAt_56 : decode cX6_kindAt 56 = .ok (.ireturn, 1) := DX6_kindAt_0 (56, .ireturn, 1) (List.mem_of_getElem? (i := 33) rfl)
abbrev rmX6_kindAt : Room := { frames := 0, cells := 0, slots := 0, locals := 0 }
set_option maxHeartbeats 400000 in
set_option maxRecDepth 100000 in
theorem met_X6_kindAt (l : Launch) (D : va_G) (kA : Nat → ClassId) (a : Nat → Nat) (b : Nat) (d : Nat → Nat) (V : Sz) (X : Sz) (T2 : Nat → Int) (G : Sz) (x1 : Int) {r : Int} (hf : f_X6_kindAt V X T2 G x1 = some r) : MP l yX6_kindAt cX6_kindAt 3 (some .int) rmX6_kindAt D kA [.ref (a 0), vI x1] (cs_X6 kA a V X b (d 0) ++ ([(b, .inl (kA 1, 900, .inl (aI T2)))] ++ (cs_X4 kA d G))) (some (vI r)) := by
  refine zPI (own := RX6) rfl rfl (Nat.le_of_ble_eq_true rfl) ?_
  intro p e s m args below meth c ls Q hC hK hP hl hret
  have hl : lv_has ls 3 [(0, .ref (a 0)), (1, vI x1)] := hl
  unfold f_X6_kindAt at hf
  have J45 : ∀ (y2 : Int) (ls : Array Slot), jX6_kindAt_45 V X T2 G x1 y2 = some r → lv_has ls 3 [(2, vI y2)] → W p l e rmX6_kindAt s m args below meth c s.heap [] 0 0 Q (F0 m 45 ls []) := by
    intro y2 ls hf hl
    unfold jX6_kindAt_45 at hf
    refine ziload_n hC.1 hC.2.1 dX6_kindAt_45 rfl (lv_at hl 0 rfl) <| zbipush hC.1 hC.2.1 dX6_kindAt_46 (by decide) <| ?_
    obtain ⟨hz_6, hf⟩ := ck_some hf
    refine zicmp_ne (tgt := 55) hC.1 hC.2.1 ⟨hz_6, (by decide)⟩ dX6_kindAt_48 (by decide) (fun hc => ?_) (fun hc => ?_)
    · have hf := it_f hf hc
      exact ziconst hC.1 hC.2.1 dX6_kindAt_55 <| hret (Int32.ofInt 4) _ _ (qI hf) dX6_kindAt_56
    · have hf := it_t hf hc
      exact ziconst hC.1 hC.2.1 dX6_kindAt_51 <| lv_goto (tgt := 56) hC.1 hC.2.1 dX6_kindAt_52 (by decide) <| hret (Int32.ofInt 3) _ _ (qI hf) dX6_kindAt_56
  have J31 : ∀ (y2 : Int) (ls : Array Slot), jX6_kindAt_31 V X T2 G x1 y2 = some r → lv_has ls 3 [(2, vI y2)] → W p l e rmX6_kindAt s m args below meth c s.heap [] 0 0 Q (F0 m 31 ls []) := by
    intro y2 ls hf hl
    unfold jX6_kindAt_31 at hf
    refine ziload_n hC.1 hC.2.1 dX6_kindAt_31 rfl (lv_at hl 0 rfl) <| zbipush hC.1 hC.2.1 dX6_kindAt_32 (by decide) <| ?_
    obtain ⟨hz_5, hf⟩ := ck_some hf
    refine zicmp_lt (tgt := 45) hC.1 hC.2.1 ⟨hz_5, (by decide)⟩ dX6_kindAt_34 (by decide) (fun hc => ?_) (fun hc => ?_)
    · have hf := it_t hf hc
      exact J45 _ _ hf (lv_sub hl [0] rfl)
    · have hf := it_f hf hc
      refine ziload_n hC.1 hC.2.1 dX6_kindAt_37 rfl (lv_at hl 0 rfl) <| zbipush hC.1 hC.2.1 dX6_kindAt_38 (by decide) <| zicmp_gt (tgt := 45) hC.1 hC.2.1 ⟨hz_5, (by decide)⟩ dX6_kindAt_40 (by decide) (fun hc => ?_) (fun hc => ?_)
      · have hf := it_t hf hc
        exact J45 _ _ hf (lv_sub hl [0] rfl)
      · have hf := it_f hf hc
        exact ziconst hC.1 hC.2.1 dX6_kindAt_43 <| hret (Int32.ofInt 2) _ _ (qI hf) dX6_kindAt_44
  refine ziload_n hC.1 hC.2.1 dX6_kindAt_0 rfl (lv_at hl 1 rfl) <| lv_aload_n hC.1 hC.2.1 dX6_kindAt_1 rfl (lv_at hl 0 rfl) <| gfX6_29 hC hK hP (q0 := 0) rfl rfl dX6_kindAt_2 <| ?_
  obtain ⟨hz_1, hf⟩ := ck_some hf
  refine zicmp_lt (tgt := 10) hC.1 hC.2.1 ⟨hz_1.1, hz_1.2⟩ dX6_kindAt_5 (by decide) (fun hc => ?_) (fun hc => ?_)
  · have hf := it_t hf hc
    refine lv_aload_n hC.1 hC.2.1 dX6_kindAt_10 rfl (lv_at hl 0 rfl) <| gfX6_15 hC hK hP (q0 := 0) rfl rfl dX6_kindAt_11 <| ziload_n hC.1 hC.2.1 dX6_kindAt_14 rfl (lv_at hl 1 rfl) <| ?_
    obtain ⟨hz_2, hf⟩ := ck_some hf
    refine jbal hC hK hP (q0 := 2) rfl (Nat.le_of_ble_eq_true rfl) hz_2 rfl dX6_kindAt_15 <| ?_
    refine ztopi (fun x_3 ex_3 => ?_)
    have hf := nm_at hf ex_3
    refine zistore_n (lv' := [(2, vI x_3), (0, .ref (a 0)), (1, vI x1)]) hC.1 hC.2.1 dX6_kindAt_16 rfl hl (by decide) rfl (fun ls hl => ?_)
    refine ziload_n hC.1 hC.2.1 dX6_kindAt_17 rfl (lv_at hl 0 rfl) <| zbipush hC.1 hC.2.1 dX6_kindAt_18 (by decide) <| ?_
    obtain ⟨hz_4, hf⟩ := ck_some hf
    refine zicmp_lt (tgt := 31) hC.1 hC.2.1 ⟨hz_4, (by decide)⟩ dX6_kindAt_20 (by decide) (fun hc => ?_) (fun hc => ?_)
    · have hf := it_t hf hc
      exact J31 _ _ hf (lv_sub hl [0] rfl)
    · have hf := it_f hf hc
      refine ziload_n hC.1 hC.2.1 dX6_kindAt_23 rfl (lv_at hl 0 rfl) <| zbipush hC.1 hC.2.1 dX6_kindAt_24 (by decide) <| zicmp_gt (tgt := 31) hC.1 hC.2.1 ⟨hz_4, (by decide)⟩ dX6_kindAt_26 (by decide) (fun hc => ?_) (fun hc => ?_)
      · have hf := it_t hf hc
        exact J31 _ _ hf (lv_sub hl [0] rfl)
      · have hf := it_f hf hc
        exact ziconst hC.1 hC.2.1 dX6_kindAt_29 <| hret (Int32.ofInt 1) _ _ (qI hf) dX6_kindAt_30
  · have hf := it_f hf hc
    exact ziconst hC.1 hC.2.1 dX6_kindAt_8 <| hret (Int32.ofInt 0) _ _ (qI hf) dX6_kindAt_9
theorem DX6_packedWord_0 : ∀ q ∈ ([(0, .aload_n 0, 1), (1, .getfield 54, 3), (4, .iconst 1, 1), (5, .if_icmp .ne 17, 3), (8, .aload_n 0, 1), (9, .getfield 33, 3), (12, .aload_n 0, 1), (13, .getfield 160, 3), (16, .isub, 1), (17, .bipush 7, 2), (19, .if_icmp .le 5, 3), (22, .lconst 0, 1), (23, .lreturn, 1), (24, .lconst 0, 1), (25, .lstore_n 1, 1), (26, .aload_n 0, 1), (27, .getfield 160, 3), (30, .istore_n 3, 1), (31, .iload_n 3, 1), (32, .aload_n 0, 1), (33, .getfield 33, 3), (36, .if_icmp .ge 22, 3), (39, .lload_n 1, 1), (40, .bipush 8, 2), (42, .lshl, 1), (43, .aload_n 0, 1), (44, .getfield 15, 3), (47, .iload_n 3, 1), (48, .baload, 1), (49, .i2l, 1), (50, .lor, 1), (51, .lstore_n 1, 1), (52, .iinc 3 1, 3), (55, .goto (-24), 3), (58, .lload_n 1, 1), (59, .lreturn, 1)] : List (Nat × Instr × Nat)), decode cX6_packedWord q.1 = .ok q.2 := by decide +kernel
theorem dX6_packedWord_0 : decode cX6_packedWord 0 = .ok (.aload_n 0, 1) := DX6_packedWord_0 (0, .aload_n 0, 1) (List.mem_of_getElem? (i := 0) rfl)
theorem dX6_packedWord_1 : decode cX6_packedWord 1 = .ok (.getfield 54, 3) := DX6_packedWord_0 (1, .getfield 54, 3) (List.mem_of_getElem? (i := 1) rfl)
theorem dX6_packedWord_4 : decode cX6_packedWord 4 = .ok (.iconst 1, 1) := DX6_packedWord_0 (4, .iconst 1, 1) (List.mem_of_getElem? (i := 2) rfl)
theorem dX6_packedWord_5 : decode cX6_packedWord 5 = .ok (.if_icmp .ne 17, 3) := DX6_packedWord_0 (5, .if_icmp .ne 17, 3) (List.mem_of_getElem? (i := 3) rfl)
theorem dX6_packedWord_8 : decode cX6_packedWord 8 = .ok (.aload_n 0, 1) := DX6_packedWord_0 (8, .aload_n 0, 1) (List.mem_of_getElem? (i := 4) rfl)
theorem dX6_packedWord_9 : decode cX6_packedWord 9 = .ok (.getfield 33, 3) := DX6_packedWord_0 (9, .getfield 33, 3) (List.mem_of_getElem? (i := 5) rfl)
theorem dX6_packedWord_12 : decode cX6_packedWord 12 = .ok (.aload_n 0, 1) := DX6_packedWord_0 (12, .aload_n 0, 1) (List.mem_of_getElem? (i := 6) rfl)
theorem dX6_packedWord_13 : decode cX6_packedWord 13 = .ok (.getfield 160, 3) := DX6_packedWord_0 (13, .getfield 160, 3) (List.mem_of_getElem? (i := 7) rfl)
theorem dX6_packedWord_16 : decode cX6_packedWord 16 = .ok (.isub, 1) := DX6_packedWord_0 (16, .isub, 1) (List.mem_of_getElem? (i := 8) rfl)
theorem dX6_packedWord_17 : decode cX6_packedWord 17 = .ok (.bipush 7, 2) := DX6_packedWord_0 (17, .bipush 7, 2) (List.mem_of_getElem? (i := 9) rfl)
theorem dX6_packedWord_19 : decode cX6_packedWord 19 = .ok (.if_icmp .le 5, 3) := DX6_packedWord_0 (19, .if_icmp .le 5, 3) (List.mem_of_getElem? (i := 10) rfl)
theorem dX6_packedWord_22 : decode cX6_packedWord 22 = .ok (.lconst 0, 1) := DX6_packedWord_0 (22, .lconst 0, 1) (List.mem_of_getElem? (i := 11) rfl)
theorem dX6_packedWord_23 : decode cX6_packedWord 23 = .ok (.lreturn, 1) := DX6_packedWord_0 (23, .lreturn, 1) (List.mem_of_getElem? (i := 12) rfl)
theorem dX6_packedWord_24 : decode cX6_packedWord 24 = .ok (.lconst 0, 1) := DX6_packedWord_0 (24, .lconst 0, 1) (List.mem_of_getElem? (i := 13) rfl)
theorem dX6_packedWord_25 : decode cX6_packedWord 25 = .ok (.lstore_n 1, 1) := DX6_packedWord_0 (25, .lstore_n 1, 1) (List.mem_of_getElem? (i := 14) rfl)
theorem dX6_packedWord_26 : decode cX6_packedWord 26 = .ok (.aload_n 0, 1) := DX6_packedWord_0 (26, .aload_n 0, 1) (List.mem_of_getElem? (i := 15) rfl)
theorem dX6_packedWord_27 : decode cX6_packedWord 27 = .ok (.getfield 160, 3) := DX6_packedWord_0 (27, .getfield 160, 3) (List.mem_of_getElem? (i := 16) rfl)
theorem dX6_packedWord_30 : decode cX6_packedWord 30 = .ok (.istore_n 3, 1) := DX6_packedWord_0 (30, .istore_n 3, 1) (List.mem_of_getElem? (i := 17) rfl)
theorem dX6_packedWord_31 : decode cX6_packedWord 31 = .ok (.iload_n 3, 1) := DX6_packedWord_0 (31, .iload_n 3, 1) (List.mem_of_getElem? (i := 18) rfl)
theorem dX6_packedWord_32 : decode cX6_packedWord 32 = .ok (.aload_n 0, 1) := DX6_packedWord_0 (32, .aload_n 0, 1) (List.mem_of_getElem? (i := 19) rfl)
theorem dX6_packedWord_33 : decode cX6_packedWord 33 = .ok (.getfield 33, 3) := DX6_packedWord_0 (33, .getfield 33, 3) (List.mem_of_getElem? (i := 20) rfl)
theorem dX6_packedWord_36 : decode cX6_packedWord 36 = .ok (.if_icmp .ge 22, 3) := DX6_packedWord_0 (36, .if_icmp .ge 22, 3) (List.mem_of_getElem? (i := 21) rfl)
theorem dX6_packedWord_39 : decode cX6_packedWord 39 = .ok (.lload_n 1, 1) := DX6_packedWord_0 (39, .lload_n 1, 1) (List.mem_of_getElem? (i := 22) rfl)
theorem dX6_packedWord_40 : decode cX6_packedWord 40 = .ok (.bipush 8, 2) := DX6_packedWord_0 (40, .bipush 8, 2) (List.mem_of_getElem? (i := 23) rfl)
theorem dX6_packedWord_42 : decode cX6_packedWord 42 = .ok (.lshl, 1) := DX6_packedWord_0 (42, .lshl, 1) (List.mem_of_getElem? (i := 24) rfl)
theorem dX6_packedWord_43 : decode cX6_packedWord 43 = .ok (.aload_n 0, 1) := DX6_packedWord_0 (43, .aload_n 0, 1) (List.mem_of_getElem? (i := 25) rfl)
theorem dX6_packedWord_44 : decode cX6_packedWord 44 = .ok (.getfield 15, 3) := DX6_packedWord_0 (44, .getfield 15, 3) (List.mem_of_getElem? (i := 26) rfl)
theorem dX6_packedWord_47 : decode cX6_packedWord 47 = .ok (.iload_n 3, 1) := DX6_packedWord_0 (47, .iload_n 3, 1) (List.mem_of_getElem? (i := 27) rfl)
theorem dX6_packedWord_48 : decode cX6_packedWord 48 = .ok (.baload, 1) := DX6_packedWord_0 (48, .baload, 1) (List.mem_of_getElem? (i := 28) rfl)
theorem dX6_packedWord_49 : decode cX6_packedWord 49 = .ok (.i2l, 1) := DX6_packedWord_0 (49, .i2l, 1) (List.mem_of_getElem? (i := 29) rfl)
theorem dX6_packedWord_50 : decode cX6_packedWord 50 = .ok (.lor, 1) := DX6_packedWord_0 (50, .lor, 1) (List.mem_of_getElem? (i := 30) rfl)
theorem dX6_packedWord_51 : decode cX6_packedWord 51 = .ok (.lstore_n 1, 1) := DX6_packedWord_0 (51, .lstore_n 1, 1) (List.mem_of_getElem? (i := 31) rfl)
theorem dX6_packedWord_52 : decode cX6_packedWord 52 = .ok (.iinc 3 1, 3) := DX6_packedWord_0 (52, .iinc 3 1, 3) (List.mem_of_getElem? (i := 32) rfl)
theorem dX6_packedWord_55 : decode cX6_packedWord 55 = .ok (.goto (-24), 3) := DX6_packedWord_0 (55, .goto (-24), 3) (List.mem_of_getElem? (i := 33) rfl)
theorem dX6_packedWord_58 : decode cX6_packedWord 58 = .ok (.lload_n 1, 1) := DX6_packedWord_0 (58, .lload_n 1, 1) (List.mem_of_getElem? (i := 34) rfl)
theorem dX6_packedWord_59 : decode cX6_packedWord 59 = .ok (.lreturn, 1) := DX6_packedWord_0 (59, .lreturn, 1) (List.mem_of_getElem? (i := 35) rfl)
abbrev rmX6_packedWord : Room := { frames := 0, cells := 0, slots := 0, locals := 0 }
set_option maxHeartbeats 400000 in
set_option maxRecDepth 100000 in
theorem met_X6_packedWord (l : Launch) (D : va_G) (kA : Nat → ClassId) (a : Nat → Nat) (b : Nat) (d : Nat → Nat) (n : Nat) (V : Sz) (X : Sz) (T2 : Nat → Int) (G : Sz) {r : Int} (hf : f_X6_packedWord n V X T2 G = some r) : MP l yX6_packedWord cX6_packedWord 4 (some .long) rmX6_packedWord D kA [.ref (a 0)] (cs_X6 kA a V X b (d 0) ++ ([(b, .inl (kA 1, 900, .inl (aI T2)))] ++ (cs_X4 kA d G))) (some (vL r)) := by
  refine zPL (own := RX6) rfl rfl (Nat.le_of_ble_eq_true rfl) ?_
  intro p e s m args below meth c ls Q hC hK hP hl hret
  have hl : lv_has ls 4 [(0, .ref (a 0))] := hl
  unfold f_X6_packedWord at hf
  have L31 : ∀ (k31 : Nat) (y1 : Int) (y3 : Int) (ls : Array Slot), lpF (bX6_packedWord_31 n V X T2 G) k31 (y1, y3) = some r → lv_has ls 4 [(0, .ref (a 0)), (1, vL y1), (3, vI y3)] → W p l e rmX6_packedWord s m args below meth c s.heap [] 0 0 Q (F0 m 31 ls []) := by
    intro k31
    induction k31 with
    | zero => intro y1 y3 ls hf hl; exact lp_0 hf
    | succ k31 ih31 =>
      intro y1 y3 ls hf hl
      have hf := lp_s hf
      rw [bX6_packedWord_31_e] at hf
      refine ziload_n hC.1 hC.2.1 dX6_packedWord_31 rfl (lv_at hl 2 rfl) <| lv_aload_n hC.1 hC.2.1 dX6_packedWord_32 rfl (lv_at hl 0 rfl) <| gfX6_33 hC hK hP (q0 := 0) rfl rfl dX6_packedWord_33 <| ?_
      obtain ⟨hz_4, hf⟩ := ck_some hf
      refine zicmp_ge (tgt := 58) hC.1 hC.2.1 ⟨hz_4.1, hz_4.2⟩ dX6_packedWord_36 (by decide) (fun hc => ?_) (fun hc => ?_)
      · have hf := it_t hf hc
        exact zlload_n hC.1 hC.2.1 dX6_packedWord_58 rfl (lv_at hl 1 rfl) <| hret (Int64.ofInt y1) _ _ (qL hf) dX6_packedWord_59
      · have hf := it_f hf hc
        refine zlload_n hC.1 hC.2.1 dX6_packedWord_39 rfl (lv_at hl 1 rfl) <| zbipush hC.1 hC.2.1 dX6_packedWord_40 (by decide) <| zlshl8 hC.1 hC.2.1 dX6_packedWord_42 <| lv_aload_n hC.1 hC.2.1 dX6_packedWord_43 rfl (lv_at hl 0 rfl) <| gfX6_15 hC hK hP (q0 := 0) rfl rfl dX6_packedWord_44 <| ziload_n hC.1 hC.2.1 dX6_packedWord_47 rfl (lv_at hl 2 rfl) <| ?_
        obtain ⟨hz_5, hf⟩ := ck_some hf
        refine jbal hC hK hP (q0 := 2) rfl (Nat.le_of_ble_eq_true rfl) hz_5 rfl dX6_packedWord_48 <| ?_
        obtain ⟨hz_6, hf⟩ := ck_some hf
        refine zi2l hC.1 hC.2.1 hz_6 dX6_packedWord_49 <| ?_
        obtain ⟨hz_7, hf⟩ := ck_some hf
        refine zlor hC.1 hC.2.1 hz_7 dX6_packedWord_50 <| ?_
        refine ztopl (fun x_8 ex_8 => ?_)
        have hf := nm_at hf ex_8
        refine zlstore_n (lv' := [(1, vL x_8), (0, .ref (a 0)), (3, vI y3)]) hC.1 hC.2.1 dX6_packedWord_51 rfl hl (by decide) rfl (fun ls hl => ?_)
        obtain ⟨x_9, ex_9⟩ : ∃ y : Int, y = y3 + 1 := ⟨_, rfl⟩
        have hf := nm_at hf ex_9
        refine ziinc (v := x_9) (lv' := [(3, vI x_9), (1, vL x_8), (0, .ref (a 0))]) hC.1 hC.2.1 dX6_packedWord_52 hl (k := 2) rfl ex_9 (by decide) rfl (fun ls hl => ?_)
        exact lv_goto (tgt := 31) hC.1 hC.2.1 dX6_packedWord_55 (by decide) <| ih31 _ _ _ hf (lv_sub hl [2, 1, 0] rfl)
  refine lv_aload_n hC.1 hC.2.1 dX6_packedWord_0 rfl (lv_at hl 0 rfl) <| gfX6_54 hC hK hP (q0 := 0) rfl rfl dX6_packedWord_1 <| ziconst hC.1 hC.2.1 dX6_packedWord_4 <| ?_
  obtain ⟨hz_1, hf⟩ := ck_some hf
  refine zicmp_ne (tgt := 22) hC.1 hC.2.1 ⟨hz_1, (by decide)⟩ dX6_packedWord_5 (by decide) (fun hc => ?_) (fun hc => ?_)
  · have hf := it_f hf hc
    exact zlconst (v := 0) hC.1 hC.2.1 dX6_packedWord_22 (by decide) <| hret (Int64.ofInt 0) _ _ (qL hf) dX6_packedWord_23
  · have hf := it_t hf hc
    refine lv_aload_n hC.1 hC.2.1 dX6_packedWord_8 rfl (lv_at hl 0 rfl) <| gfX6_33 hC hK hP (q0 := 0) rfl rfl dX6_packedWord_9 <| lv_aload_n hC.1 hC.2.1 dX6_packedWord_12 rfl (lv_at hl 0 rfl) <| gfX6_160 hC hK hP (q0 := 0) rfl rfl dX6_packedWord_13 <| zisub hC.1 hC.2.1 dX6_packedWord_16 <| zbipush hC.1 hC.2.1 dX6_packedWord_17 (by decide) <| ?_
    obtain ⟨hz_2, hf⟩ := ck_some hf
    refine zicmp_le (tgt := 24) hC.1 hC.2.1 ⟨hz_2, (by decide)⟩ dX6_packedWord_19 (by decide) (fun hc => ?_) (fun hc => ?_)
    · have hf := it_t hf hc
      refine zlconst (v := 0) hC.1 hC.2.1 dX6_packedWord_24 (by decide) <| zlstore_n (lv' := [(1, vL 0), (0, .ref (a 0))]) hC.1 hC.2.1 dX6_packedWord_25 rfl hl (by decide) rfl (fun ls hl => ?_)
      refine lv_aload_n hC.1 hC.2.1 dX6_packedWord_26 rfl (lv_at hl 1 rfl) <| gfX6_160 hC hK hP (q0 := 0) rfl rfl dX6_packedWord_27 <| ?_
      refine ztopi (fun x_3 ex_3 => ?_)
      have hf := nm_at hf ex_3
      refine zistore_n (lv' := [(3, vI x_3), (1, vL 0), (0, .ref (a 0))]) hC.1 hC.2.1 dX6_packedWord_30 rfl hl (by decide) rfl (fun ls hl => ?_)
      exact L31 n _ _ _ hf (lv_sub hl [2, 1, 0] rfl)
    · have hf := it_f hf hc
      exact zlconst (v := 0) hC.1 hC.2.1 dX6_packedWord_22 (by decide) <| hret (Int64.ofInt 0) _ _ (qL hf) dX6_packedWord_23
theorem DX6_advance_0 : ∀ q ∈ ([(0, .aload_n 0, 1), (1, .getfield 33, 3), (4, .aload_n 0, 1), (5, .getfield 29, 3), (8, .if_icmp .ge 44, 3), (11, .aload_n 0, 1), (12, .getfield 15, 3), (15, .aload_n 0, 1), (16, .getfield 33, 3), (19, .baload, 1), (20, .bipush 32, 2), (22, .if_icmp .eq 17, 3), (25, .aload_n 0, 1), (26, .getfield 15, 3), (29, .aload_n 0, 1), (30, .getfield 33, 3), (33, .baload, 1), (34, .bipush 10, 2), (36, .if_icmp .ne 16, 3), (39, .aload_n 0, 1), (40, .dup, 1), (41, .getfield 33, 3), (44, .iconst 1, 1), (45, .iadd, 1), (46, .putfield 33, 3), (49, .goto (-49), 3), (52, .aload_n 0, 1), (53, .aload_n 0, 1), (54, .getfield 33, 3), (57, .putfield 160, 3), (60, .aload_n 0, 1), (61, .aload_n 0, 1), (62, .aload_n 0, 1), (63, .getfield 33, 3), (66, .invokevirtual 166, 3), (69, .putfield 54, 3), (72, .aload_n 0, 1), (73, .getfield 54, 3), (76, .iconst 3, 1), (77, .if_icmp .eq 11, 3)] : List (Nat × Instr × Nat)), decode cX6_advance q.1 = .ok q.2 := by decide +kernel
theorem dX6_advance_0 : decode cX6_advance 0 = .ok (.aload_n 0, 1) := DX6_advance_0 (0, .aload_n 0, 1) (List.mem_of_getElem? (i := 0) rfl)
theorem dX6_advance_1 : decode cX6_advance 1 = .ok (.getfield 33, 3) := DX6_advance_0 (1, .getfield 33, 3) (List.mem_of_getElem? (i := 1) rfl)
theorem dX6_advance_4 : decode cX6_advance 4 = .ok (.aload_n 0, 1) := DX6_advance_0 (4, .aload_n 0, 1) (List.mem_of_getElem? (i := 2) rfl)
theorem dX6_advance_5 : decode cX6_advance 5 = .ok (.getfield 29, 3) := DX6_advance_0 (5, .getfield 29, 3) (List.mem_of_getElem? (i := 3) rfl)
theorem dX6_advance_8 : decode cX6_advance 8 = .ok (.if_icmp .ge 44, 3) := DX6_advance_0 (8, .if_icmp .ge 44, 3) (List.mem_of_getElem? (i := 4) rfl)
theorem dX6_advance_11 : decode cX6_advance 11 = .ok (.aload_n 0, 1) := DX6_advance_0 (11, .aload_n 0, 1) (List.mem_of_getElem? (i := 5) rfl)
theorem dX6_advance_12 : decode cX6_advance 12 = .ok (.getfield 15, 3) := DX6_advance_0 (12, .getfield 15, 3) (List.mem_of_getElem? (i := 6) rfl)
theorem dX6_advance_15 : decode cX6_advance 15 = .ok (.aload_n 0, 1) := DX6_advance_0 (15, .aload_n 0, 1) (List.mem_of_getElem? (i := 7) rfl)
theorem dX6_advance_16 : decode cX6_advance 16 = .ok (.getfield 33, 3) := DX6_advance_0 (16, .getfield 33, 3) (List.mem_of_getElem? (i := 8) rfl)
theorem dX6_advance_19 : decode cX6_advance 19 = .ok (.baload, 1) := DX6_advance_0 (19, .baload, 1) (List.mem_of_getElem? (i := 9) rfl)
theorem dX6_advance_20 : decode cX6_advance 20 = .ok (.bipush 32, 2) := DX6_advance_0 (20, .bipush 32, 2) (List.mem_of_getElem? (i := 10) rfl)
theorem dX6_advance_22 : decode cX6_advance 22 = .ok (.if_icmp .eq 17, 3) := DX6_advance_0 (22, .if_icmp .eq 17, 3) (List.mem_of_getElem? (i := 11) rfl)
theorem dX6_advance_25 : decode cX6_advance 25 = .ok (.aload_n 0, 1) := DX6_advance_0 (25, .aload_n 0, 1) (List.mem_of_getElem? (i := 12) rfl)
theorem dX6_advance_26 : decode cX6_advance 26 = .ok (.getfield 15, 3) := DX6_advance_0 (26, .getfield 15, 3) (List.mem_of_getElem? (i := 13) rfl)
theorem dX6_advance_29 : decode cX6_advance 29 = .ok (.aload_n 0, 1) := DX6_advance_0 (29, .aload_n 0, 1) (List.mem_of_getElem? (i := 14) rfl)
theorem dX6_advance_30 : decode cX6_advance 30 = .ok (.getfield 33, 3) := DX6_advance_0 (30, .getfield 33, 3) (List.mem_of_getElem? (i := 15) rfl)
theorem dX6_advance_33 : decode cX6_advance 33 = .ok (.baload, 1) := DX6_advance_0 (33, .baload, 1) (List.mem_of_getElem? (i := 16) rfl)
theorem dX6_advance_34 : decode cX6_advance 34 = .ok (.bipush 10, 2) := DX6_advance_0 (34, .bipush 10, 2) (List.mem_of_getElem? (i := 17) rfl)
theorem dX6_advance_36 : decode cX6_advance 36 = .ok (.if_icmp .ne 16, 3) := DX6_advance_0 (36, .if_icmp .ne 16, 3) (List.mem_of_getElem? (i := 18) rfl)
theorem dX6_advance_39 : decode cX6_advance 39 = .ok (.aload_n 0, 1) := DX6_advance_0 (39, .aload_n 0, 1) (List.mem_of_getElem? (i := 19) rfl)
theorem dX6_advance_40 : decode cX6_advance 40 = .ok (.dup, 1) := DX6_advance_0 (40, .dup, 1) (List.mem_of_getElem? (i := 20) rfl)
theorem dX6_advance_41 : decode cX6_advance 41 = .ok (.getfield 33, 3) := DX6_advance_0 (41, .getfield 33, 3) (List.mem_of_getElem? (i := 21) rfl)
theorem dX6_advance_44 : decode cX6_advance 44 = .ok (.iconst 1, 1) := DX6_advance_0 (44, .iconst 1, 1) (List.mem_of_getElem? (i := 22) rfl)
theorem dX6_advance_45 : decode cX6_advance 45 = .ok (.iadd, 1) := DX6_advance_0 (45, .iadd, 1) (List.mem_of_getElem? (i := 23) rfl)
theorem dX6_advance_46 : decode cX6_advance 46 = .ok (.putfield 33, 3) := DX6_advance_0 (46, .putfield 33, 3) (List.mem_of_getElem? (i := 24) rfl)
theorem dX6_advance_49 : decode cX6_advance 49 = .ok (.goto (-49), 3) := DX6_advance_0 (49, .goto (-49), 3) (List.mem_of_getElem? (i := 25) rfl)
theorem dX6_advance_52 : decode cX6_advance 52 = .ok (.aload_n 0, 1) := DX6_advance_0 (52, .aload_n 0, 1) (List.mem_of_getElem? (i := 26) rfl)
theorem dX6_advance_53 : decode cX6_advance 53 = .ok (.aload_n 0, 1) := DX6_advance_0 (53, .aload_n 0, 1) (List.mem_of_getElem? (i := 27) rfl)
theorem dX6_advance_54 : decode cX6_advance 54 = .ok (.getfield 33, 3) := DX6_advance_0 (54, .getfield 33, 3) (List.mem_of_getElem? (i := 28) rfl)
theorem dX6_advance_57 : decode cX6_advance 57 = .ok (.putfield 160, 3) := DX6_advance_0 (57, .putfield 160, 3) (List.mem_of_getElem? (i := 29) rfl)
theorem dX6_advance_60 : decode cX6_advance 60 = .ok (.aload_n 0, 1) := DX6_advance_0 (60, .aload_n 0, 1) (List.mem_of_getElem? (i := 30) rfl)
theorem dX6_advance_61 : decode cX6_advance 61 = .ok (.aload_n 0, 1) := DX6_advance_0 (61, .aload_n 0, 1) (List.mem_of_getElem? (i := 31) rfl)
theorem dX6_advance_62 : decode cX6_advance 62 = .ok (.aload_n 0, 1) := DX6_advance_0 (62, .aload_n 0, 1) (List.mem_of_getElem? (i := 32) rfl)
theorem dX6_advance_63 : decode cX6_advance 63 = .ok (.getfield 33, 3) := DX6_advance_0 (63, .getfield 33, 3) (List.mem_of_getElem? (i := 33) rfl)
theorem dX6_advance_66 : decode cX6_advance 66 = .ok (.invokevirtual 166, 3) := DX6_advance_0 (66, .invokevirtual 166, 3) (List.mem_of_getElem? (i := 34) rfl)
theorem dX6_advance_69 : decode cX6_advance 69 = .ok (.putfield 54, 3) := DX6_advance_0 (69, .putfield 54, 3) (List.mem_of_getElem? (i := 35) rfl)
theorem dX6_advance_72 : decode cX6_advance 72 = .ok (.aload_n 0, 1) := DX6_advance_0 (72, .aload_n 0, 1) (List.mem_of_getElem? (i := 36) rfl)
theorem dX6_advance_73 : decode cX6_advance 73 = .ok (.getfield 54, 3) := DX6_advance_0 (73, .getfield 54, 3) (List.mem_of_getElem? (i := 37) rfl)
theorem dX6_advance_76 : decode cX6_advance 76 = .ok (.iconst 3, 1) := DX6_advance_0 (76, .iconst 3, 1) (List.mem_of_getElem? (i := 38) rfl)
theorem dX6_advance_77 : decode cX6_advance 77 = .ok (.if_icmp .eq 11, 3) := DX6_advance_0 (77, .if_icmp .eq 11, 3) (List.mem_of_getElem? (i := 39) rfl)
theorem DX6_advance_1 : ∀ q ∈ ([(80, .aload_n 0, 1), (81, .getfield 54, 3), (84, .iconst 4, 1), (85, .if_icmp .ne 16, 3), (88, .aload_n 0, 1), (89, .dup, 1), (90, .getfield 33, 3), (93, .iconst 1, 1), (94, .iadd, 1), (95, .putfield 33, 3), (98, .goto 42, 3), (101, .aload_n 0, 1), (102, .getfield 33, 3), (105, .aload_n 0, 1), (106, .getfield 29, 3), (109, .if_icmp .ge 31, 3), (112, .aload_n 0, 1), (113, .aload_n 0, 1), (114, .getfield 33, 3), (117, .invokevirtual 166, 3), (120, .aload_n 0, 1), (121, .getfield 54, 3), (124, .if_icmp .ne 16, 3), (127, .aload_n 0, 1), (128, .dup, 1), (129, .getfield 33, 3), (132, .iconst 1, 1), (133, .iadd, 1), (134, .putfield 33, 3), (137, .goto (-36), 3), (140, .aload_n 0, 1), (141, .aload_n 0, 1), (142, .invokevirtual 170, 3), (145, .putfield 57, 3), (148, .return_, 1)] : List (Nat × Instr × Nat)), decode cX6_advance q.1 = .ok q.2 := by decide +kernel
theorem dX6_advance_80 : decode cX6_advance 80 = .ok (.aload_n 0, 1) := DX6_advance_1 (80, .aload_n 0, 1) (List.mem_of_getElem? (i := 0) rfl)
theorem dX6_advance_81 : decode cX6_advance 81 = .ok (.getfield 54, 3) := DX6_advance_1 (81, .getfield 54, 3) (List.mem_of_getElem? (i := 1) rfl)
theorem dX6_advance_84 : decode cX6_advance 84 = .ok (.iconst 4, 1) := DX6_advance_1 (84, .iconst 4, 1) (List.mem_of_getElem? (i := 2) rfl)
theorem dX6_advance_85 : decode cX6_advance 85 = .ok (.if_icmp .ne 16, 3) := DX6_advance_1 (85, .if_icmp .ne 16, 3) (List.mem_of_getElem? (i := 3) rfl)
theorem dX6_advance_88 : decode cX6_advance 88 = .ok (.aload_n 0, 1) := DX6_advance_1 (88, .aload_n 0, 1) (List.mem_of_getElem? (i := 4) rfl)
theorem dX6_advance_89 : decode cX6_advance 89 = .ok (.dup, 1) := DX6_advance_1 (89, .dup, 1) (List.mem_of_getElem? (i := 5) rfl)
theorem dX6_advance_90 : decode cX6_advance 90 = .ok (.getfield 33, 3) := DX6_advance_1 (90, .getfield 33, 3) (List.mem_of_getElem? (i := 6) rfl)
theorem dX6_advance_93 : decode cX6_advance 93 = .ok (.iconst 1, 1) := DX6_advance_1 (93, .iconst 1, 1) (List.mem_of_getElem? (i := 7) rfl)
theorem dX6_advance_94 : decode cX6_advance 94 = .ok (.iadd, 1) := DX6_advance_1 (94, .iadd, 1) (List.mem_of_getElem? (i := 8) rfl)
theorem dX6_advance_95 : decode cX6_advance 95 = .ok (.putfield 33, 3) := DX6_advance_1 (95, .putfield 33, 3) (List.mem_of_getElem? (i := 9) rfl)
theorem dX6_advance_98 : decode cX6_advance 98 = .ok (.goto 42, 3) := DX6_advance_1 (98, .goto 42, 3) (List.mem_of_getElem? (i := 10) rfl)
theorem dX6_advance_101 : decode cX6_advance 101 = .ok (.aload_n 0, 1) := DX6_advance_1 (101, .aload_n 0, 1) (List.mem_of_getElem? (i := 11) rfl)
theorem dX6_advance_102 : decode cX6_advance 102 = .ok (.getfield 33, 3) := DX6_advance_1 (102, .getfield 33, 3) (List.mem_of_getElem? (i := 12) rfl)
theorem dX6_advance_105 : decode cX6_advance 105 = .ok (.aload_n 0, 1) := DX6_advance_1 (105, .aload_n 0, 1) (List.mem_of_getElem? (i := 13) rfl)
theorem dX6_advance_106 : decode cX6_advance 106 = .ok (.getfield 29, 3) := DX6_advance_1 (106, .getfield 29, 3) (List.mem_of_getElem? (i := 14) rfl)
theorem dX6_advance_109 : decode cX6_advance 109 = .ok (.if_icmp .ge 31, 3) := DX6_advance_1 (109, .if_icmp .ge 31, 3) (List.mem_of_getElem? (i := 15) rfl)
theorem dX6_advance_112 : decode cX6_advance 112 = .ok (.aload_n 0, 1) := DX6_advance_1 (112, .aload_n 0, 1) (List.mem_of_getElem? (i := 16) rfl)
theorem dX6_advance_113 : decode cX6_advance 113 = .ok (.aload_n 0, 1) := DX6_advance_1 (113, .aload_n 0, 1) (List.mem_of_getElem? (i := 17) rfl)
theorem dX6_advance_114 : decode cX6_advance 114 = .ok (.getfield 33, 3) := DX6_advance_1 (114, .getfield 33, 3) (List.mem_of_getElem? (i := 18) rfl)
theorem dX6_advance_117 : decode cX6_advance 117 = .ok (.invokevirtual 166, 3) := DX6_advance_1 (117, .invokevirtual 166, 3) (List.mem_of_getElem? (i := 19) rfl)
theorem dX6_advance_120 : decode cX6_advance 120 = .ok (.aload_n 0, 1) := DX6_advance_1 (120, .aload_n 0, 1) (List.mem_of_getElem? (i := 20) rfl)
theorem dX6_advance_121 : decode cX6_advance 121 = .ok (.getfield 54, 3) := DX6_advance_1 (121, .getfield 54, 3) (List.mem_of_getElem? (i := 21) rfl)
theorem dX6_advance_124 : decode cX6_advance 124 = .ok (.if_icmp .ne 16, 3) := DX6_advance_1 (124, .if_icmp .ne 16, 3) (List.mem_of_getElem? (i := 22) rfl)
theorem dX6_advance_127 : decode cX6_advance 127 = .ok (.aload_n 0, 1) := DX6_advance_1 (127, .aload_n 0, 1) (List.mem_of_getElem? (i := 23) rfl)
theorem dX6_advance_128 : decode cX6_advance 128 = .ok (.dup, 1) := DX6_advance_1 (128, .dup, 1) (List.mem_of_getElem? (i := 24) rfl)
theorem dX6_advance_129 : decode cX6_advance 129 = .ok (.getfield 33, 3) := DX6_advance_1 (129, .getfield 33, 3) (List.mem_of_getElem? (i := 25) rfl)
theorem dX6_advance_132 : decode cX6_advance 132 = .ok (.iconst 1, 1) := DX6_advance_1 (132, .iconst 1, 1) (List.mem_of_getElem? (i := 26) rfl)
theorem dX6_advance_133 : decode cX6_advance 133 = .ok (.iadd, 1) := DX6_advance_1 (133, .iadd, 1) (List.mem_of_getElem? (i := 27) rfl)
theorem dX6_advance_134 : decode cX6_advance 134 = .ok (.putfield 33, 3) := DX6_advance_1 (134, .putfield 33, 3) (List.mem_of_getElem? (i := 28) rfl)
theorem dX6_advance_137 : decode cX6_advance 137 = .ok (.goto (-36), 3) := DX6_advance_1 (137, .goto (-36), 3) (List.mem_of_getElem? (i := 29) rfl)
theorem dX6_advance_140 : decode cX6_advance 140 = .ok (.aload_n 0, 1) := DX6_advance_1 (140, .aload_n 0, 1) (List.mem_of_getElem? (i := 30) rfl)
theorem dX6_advance_141 : decode cX6_advance 141 = .ok (.aload_n 0, 1) := DX6_advance_1 (141, .aload_n 0, 1) (List.mem_of_getElem? (i := 31) rfl)
theorem dX6_advance_142 : decode cX6_advance 142 = .ok (.invokevirtual 170, 3) := DX6_advance_1 (142, .invokevirtual 170, 3) (List.mem_of_getElem? (i := 32) rfl)
theorem dX6_advance_145 : decode cX6_advance 145 = .ok (.putfield 57, 3) := DX6_advance_1 (145, .putfield 57, 3) (List.mem_of_getElem? (i := 33) rfl)
theorem dX6_advance_148 : decode cX6_advance 148 = .ok (.return_, 1) := DX6_advance_1 (148, .return_, 1) (List.mem_of_getElem? (i := 34) rfl)
abbrev rmX6_advance : Room := { frames := 1, cells := 0, slots := 0, locals := 23 }
set_option maxHeartbeats 400000 in
set_option maxRecDepth 100000 in
theorem met_X6_advance (l : Launch) (D : va_G) (kA : Nat → ClassId) (a : Nat → Nat) (b : Nat) (d : Nat → Nat) (n : Nat) (V0 : Sz) (X0 : Sz) (T2 : Nat → Int) (G : Sz) (hDt : ∀ w : Sz × Sz, va_D (fun _ => True) (cs_X6 kA a w.1 w.2 b (d 0) ++ ([(b, .inl (kA 1, 900, .inl (aI T2)))] ++ (cs_X4 kA d G)))) {Vr : Sz} {Xr : Sz} (hf : f_X6_advance n V0 X0 T2 G = some (Vr, Xr)) : MZ l yX6_advance cX6_advance 1 none rmX6_advance D kA [.ref (a 0)] (cs_X6 kA a V0 X0 b (d 0) ++ ([(b, .inl (kA 1, 900, .inl (aI T2)))] ++ (cs_X4 kA d G))) (cs_X6 kA a Vr Xr b (d 0) ++ ([(b, .inl (kA 1, 900, .inl (aI T2)))] ++ (cs_X4 kA d G))) (none) := by
  refine zZV (own := RX6) rfl rfl (Nat.le_of_ble_eq_true rfl) ?_
  intro p e s m args below meth c ls Q hC hK hP hl hret
  have hl : lv_has ls 1 [(0, .ref (a 0))] := hl
  have hS : va_S (zF (cs_X6 kA a V0 X0 b (d 0) ++ ([(b, .inl (kA 1, 900, .inl (aI T2)))] ++ (cs_X4 kA d G)))) s.heap s.heap [] := va_S.rf
  have hD := zDself (C := fun w : Sz × Sz => (cs_X6 kA a w.1 w.2 b (d 0) ++ ([(b, .inl (kA 1, 900, .inl (aI T2)))] ++ (cs_X4 kA d G)))) hDt (V0, X0) (fun _ => rfl)
  try dsimp only at hD
  generalize hAe : zF (cs_X6 kA a V0 X0 b (d 0) ++ ([(b, .inl (kA 1, 900, .inl (aI T2)))] ++ (cs_X4 kA d G))) = A0 at hS hD hret
  unfold f_X6_advance at hf
  have J140 : ∀ (V : Sz) (X : Sz) (H : Heap) (locs : List Loc) (ls : Array Slot), jX6_advance_140 n T2 G V X = some (Vr, Xr) → va_P D vwCl (cs_X6 kA a V X b (d 0) ++ ([(b, .inl (kA 1, 900, .inl (aI T2)))] ++ (cs_X4 kA d G))) H → va_S A0 s.heap H locs → lv_has ls 1 [(0, .ref (a 0))] → W p l e rmX6_advance s m args below meth c H locs 0 0 Q (F0 m 140 ls []) := by
    intro V X H locs ls hf hP hS hl
    unfold jX6_advance_140 at hf
    refine lv_aload_n hC.1 hC.2.1 dX6_advance_140 rfl (lv_at hl 0 rfl) <| lv_aload_n hC.1 hC.2.1 dX6_advance_141 rfl (lv_at hl 0 rfl) <| ?_
    obtain ⟨r_7, hu, hf⟩ := bd_some hf
    refine zcVP (As := []) (rest := [.ref (a 0)]) hC hK (met_X6_packedWord l D kA a (b) d n V X T2 G hu) zwX6_170 hP (q0 := 0) rfl rfl rfl rfl hl.1 rfl (Nat.le_of_ble_eq_true rfl) ⟨Nat.le_of_ble_eq_true rfl, Nat.le_of_ble_eq_true rfl⟩ ⟨rfl, rfl⟩ ⟨Nat.le_refl _, Nat.le_refl _⟩ dX6_advance_142 <| ?_
    refine pfX6_57 hC hK hP (hD (V, X)) hS (q0 := 0) rfl (Nat.le_of_ble_eq_true rfl) dX6_advance_145 (fun H locs hP hS => ?_)
    obtain ⟨X_8, eX_8⟩ : ∃ y, y = us X 0 r_7 := ⟨_, rfl⟩
    have hf := nm_at hf eX_8
    have hP : va_P D vwCl (cs_X6 kA a V X_8 b (d 0) ++ ([(b, .inl (kA 1, 900, .inl (aI T2)))] ++ (cs_X4 kA d G))) H := by rw [eX_8]; exact hP
    have hf := Option.some.inj hf
    simp only [Prod.mk.injEq] at hf
    exact hret _ _ _ _ rfl (by rw [← hf.1, ← hf.2]; exact hP) hS dX6_advance_148
  have J88 : ∀ (V : Sz) (X : Sz) (H : Heap) (locs : List Loc) (ls : Array Slot), jX6_advance_88 n T2 G V X = some (Vr, Xr) → va_P D vwCl (cs_X6 kA a V X b (d 0) ++ ([(b, .inl (kA 1, 900, .inl (aI T2)))] ++ (cs_X4 kA d G))) H → va_S A0 s.heap H locs → lv_has ls 1 [(0, .ref (a 0))] → W p l e rmX6_advance s m args below meth c H locs 0 0 Q (F0 m 88 ls []) := by
    intro V X H locs ls hf hP hS hl
    unfold jX6_advance_88 at hf
    refine lv_aload_n hC.1 hC.2.1 dX6_advance_88 rfl (lv_at hl 0 rfl) <| lv_dup hC.1 hC.2.1 dX6_advance_89 rfl <| gfX6_33 hC hK hP (q0 := 0) rfl rfl dX6_advance_90 <| ziconst hC.1 hC.2.1 dX6_advance_93 <| ziadd hC.1 hC.2.1 dX6_advance_94 <| ?_
    refine pfX6_33 hC hK hP (hD (V, X)) hS (q0 := 0) rfl (Nat.le_of_ble_eq_true rfl) dX6_advance_95 (fun H locs hP hS => ?_)
    obtain ⟨V_6, eV_6⟩ : ∃ y, y = us V 4 ((V 4 0) + 1) := ⟨_, rfl⟩
    have hf := nm_at hf eV_6
    have hP : va_P D vwCl (cs_X6 kA a V_6 X b (d 0) ++ ([(b, .inl (kA 1, 900, .inl (aI T2)))] ++ (cs_X4 kA d G))) H := by rw [eV_6]; exact hP
    exact lv_goto (tgt := 140) hC.1 hC.2.1 dX6_advance_98 (by decide) <| J140 _ _ _ _ _ hf hP hS (lv_sub hl [0] rfl)
  have L101 : ∀ (k101 : Nat) (V : Sz) (X : Sz) (H : Heap) (locs : List Loc) (ls : Array Slot), lpF (bX6_advance_101 n T2 G) k101 (V, X) = some (Vr, Xr) → va_P D vwCl (cs_X6 kA a V X b (d 0) ++ ([(b, .inl (kA 1, 900, .inl (aI T2)))] ++ (cs_X4 kA d G))) H → va_S A0 s.heap H locs → lv_has ls 1 [(0, .ref (a 0))] → W p l e rmX6_advance s m args below meth c H locs 0 0 Q (F0 m 101 ls []) := by
    intro k101
    induction k101 with
    | zero => intro V X H locs ls hf hP hS hl; exact lp_0 hf
    | succ k101 ih101 =>
      intro V X H locs ls hf hP hS hl
      have hf := lp_s hf
      rw [bX6_advance_101_e] at hf
      refine lv_aload_n hC.1 hC.2.1 dX6_advance_101 rfl (lv_at hl 0 rfl) <| gfX6_33 hC hK hP (q0 := 0) rfl rfl dX6_advance_102 <| lv_aload_n hC.1 hC.2.1 dX6_advance_105 rfl (lv_at hl 0 rfl) <| gfX6_29 hC hK hP (q0 := 0) rfl rfl dX6_advance_106 <| ?_
      obtain ⟨hz_9, hf⟩ := ck_some hf
      refine zicmp_ge (tgt := 140) hC.1 hC.2.1 ⟨hz_9.1, hz_9.2⟩ dX6_advance_109 (by decide) (fun hc => ?_) (fun hc => ?_)
      · have hf := it_t hf hc
        exact J140 _ _ _ _ _ hf hP hS (lv_sub hl [0] rfl)
      · have hf := it_f hf hc
        refine lv_aload_n hC.1 hC.2.1 dX6_advance_112 rfl (lv_at hl 0 rfl) <| lv_aload_n hC.1 hC.2.1 dX6_advance_113 rfl (lv_at hl 0 rfl) <| gfX6_33 hC hK hP (q0 := 0) rfl rfl dX6_advance_114 <| ?_
        obtain ⟨r_10, hu, hf⟩ := bd_some hf
        refine zcVP (As := [vI (V 4 0)]) (rest := []) hC hK (met_X6_kindAt l D kA a (b) d V X T2 G (V 4 0) hu) zwX6_166 hP (q0 := 0) rfl rfl rfl rfl hl.1 rfl (Nat.le_of_ble_eq_true rfl) ⟨Nat.le_of_ble_eq_true rfl, Nat.le_of_ble_eq_true rfl⟩ ⟨rfl, rfl⟩ ⟨Nat.le_refl _, Nat.le_refl _⟩ dX6_advance_117 <| lv_aload_n hC.1 hC.2.1 dX6_advance_120 rfl (lv_at hl 0 rfl) <| gfX6_54 hC hK hP (q0 := 0) rfl rfl dX6_advance_121 <| ?_
        obtain ⟨hz_11, hf⟩ := ck_some hf
        refine zicmp_ne (tgt := 140) hC.1 hC.2.1 ⟨hz_11.1, hz_11.2⟩ dX6_advance_124 (by decide) (fun hc => ?_) (fun hc => ?_)
        · have hf := it_f hf hc
          exact J140 _ _ _ _ _ hf hP hS (lv_sub hl [0] rfl)
        · have hf := it_t hf hc
          refine lv_aload_n hC.1 hC.2.1 dX6_advance_127 rfl (lv_at hl 0 rfl) <| lv_dup hC.1 hC.2.1 dX6_advance_128 rfl <| gfX6_33 hC hK hP (q0 := 0) rfl rfl dX6_advance_129 <| ziconst hC.1 hC.2.1 dX6_advance_132 <| ziadd hC.1 hC.2.1 dX6_advance_133 <| ?_
          refine pfX6_33 hC hK hP (hD (V, X)) hS (q0 := 0) rfl (Nat.le_of_ble_eq_true rfl) dX6_advance_134 (fun H locs hP hS => ?_)
          obtain ⟨V_12, eV_12⟩ : ∃ y, y = us V 4 ((V 4 0) + 1) := ⟨_, rfl⟩
          have hf := nm_at hf eV_12
          have hP : va_P D vwCl (cs_X6 kA a V_12 X b (d 0) ++ ([(b, .inl (kA 1, 900, .inl (aI T2)))] ++ (cs_X4 kA d G))) H := by rw [eV_12]; exact hP
          exact lv_goto (tgt := 101) hC.1 hC.2.1 dX6_advance_137 (by decide) <| ih101 _ _ _ _ _ hf hP hS (lv_sub hl [0] rfl)
  have J52 : ∀ (V : Sz) (X : Sz) (H : Heap) (locs : List Loc) (ls : Array Slot), jX6_advance_52 n T2 G V X = some (Vr, Xr) → va_P D vwCl (cs_X6 kA a V X b (d 0) ++ ([(b, .inl (kA 1, 900, .inl (aI T2)))] ++ (cs_X4 kA d G))) H → va_S A0 s.heap H locs → lv_has ls 1 [(0, .ref (a 0))] → W p l e rmX6_advance s m args below meth c H locs 0 0 Q (F0 m 52 ls []) := by
    intro V X H locs ls hf hP hS hl
    unfold jX6_advance_52 at hf
    refine lv_aload_n hC.1 hC.2.1 dX6_advance_52 rfl (lv_at hl 0 rfl) <| lv_aload_n hC.1 hC.2.1 dX6_advance_53 rfl (lv_at hl 0 rfl) <| gfX6_33 hC hK hP (q0 := 0) rfl rfl dX6_advance_54 <| ?_
    refine pfX6_160 hC hK hP (hD (V, X)) hS (q0 := 0) rfl (Nat.le_of_ble_eq_true rfl) dX6_advance_57 (fun H locs hP hS => ?_)
    obtain ⟨V_2, eV_2⟩ : ∃ y, y = us V 3 (V 4 0) := ⟨_, rfl⟩
    have hf := nm_at hf eV_2
    have hP : va_P D vwCl (cs_X6 kA a V_2 X b (d 0) ++ ([(b, .inl (kA 1, 900, .inl (aI T2)))] ++ (cs_X4 kA d G))) H := by rw [eV_2]; exact hP
    refine lv_aload_n hC.1 hC.2.1 dX6_advance_60 rfl (lv_at hl 0 rfl) <| lv_aload_n hC.1 hC.2.1 dX6_advance_61 rfl (lv_at hl 0 rfl) <| lv_aload_n hC.1 hC.2.1 dX6_advance_62 rfl (lv_at hl 0 rfl) <| gfX6_33 hC hK hP (q0 := 0) rfl rfl dX6_advance_63 <| ?_
    obtain ⟨r_3, hu, hf⟩ := bd_some hf
    refine zcVP (As := [vI (V_2 4 0)]) (rest := [.ref (a 0)]) hC hK (met_X6_kindAt l D kA a (b) d V_2 X T2 G (V_2 4 0) hu) zwX6_166 hP (q0 := 0) rfl rfl rfl rfl hl.1 rfl (Nat.le_of_ble_eq_true rfl) ⟨Nat.le_of_ble_eq_true rfl, Nat.le_of_ble_eq_true rfl⟩ ⟨rfl, rfl⟩ ⟨Nat.le_refl _, Nat.le_refl _⟩ dX6_advance_66 <| ?_
    refine pfX6_54 hC hK hP (hD (V_2, X)) hS (q0 := 0) rfl (Nat.le_of_ble_eq_true rfl) dX6_advance_69 (fun H locs hP hS => ?_)
    obtain ⟨V_4, eV_4⟩ : ∃ y, y = us V_2 5 r_3 := ⟨_, rfl⟩
    have hf := nm_at hf eV_4
    have hP : va_P D vwCl (cs_X6 kA a V_4 X b (d 0) ++ ([(b, .inl (kA 1, 900, .inl (aI T2)))] ++ (cs_X4 kA d G))) H := by rw [eV_4]; exact hP
    refine lv_aload_n hC.1 hC.2.1 dX6_advance_72 rfl (lv_at hl 0 rfl) <| gfX6_54 hC hK hP (q0 := 0) rfl rfl dX6_advance_73 <| ziconst hC.1 hC.2.1 dX6_advance_76 <| ?_
    obtain ⟨hz_5, hf⟩ := ck_some hf
    refine zicmp_eq (tgt := 88) hC.1 hC.2.1 ⟨hz_5, (by decide)⟩ dX6_advance_77 (by decide) (fun hc => ?_) (fun hc => ?_)
    · have hf := it_t hf hc
      exact J88 _ _ _ _ _ hf hP hS (lv_sub hl [0] rfl)
    · have hf := it_f hf hc
      refine lv_aload_n hC.1 hC.2.1 dX6_advance_80 rfl (lv_at hl 0 rfl) <| gfX6_54 hC hK hP (q0 := 0) rfl rfl dX6_advance_81 <| ziconst hC.1 hC.2.1 dX6_advance_84 <| zicmp_ne (tgt := 101) hC.1 hC.2.1 ⟨hz_5, (by decide)⟩ dX6_advance_85 (by decide) (fun hc => ?_) (fun hc => ?_)
      · have hf := it_f hf hc
        exact L101 n _ _ _ _ _ hf hP hS (lv_sub hl [0] rfl)
      · have hf := it_t hf hc
        exact J88 _ _ _ _ _ hf hP hS (lv_sub hl [0] rfl)
  have L0 : ∀ (k0 : Nat) (V : Sz) (X : Sz) (H : Heap) (locs : List Loc) (ls : Array Slot), lpF (bX6_advance_0 n T2 G) k0 (V, X) = some (Vr, Xr) → va_P D vwCl (cs_X6 kA a V X b (d 0) ++ ([(b, .inl (kA 1, 900, .inl (aI T2)))] ++ (cs_X4 kA d G))) H → va_S A0 s.heap H locs → lv_has ls 1 [(0, .ref (a 0))] → W p l e rmX6_advance s m args below meth c H locs 0 0 Q (F0 m 0 ls []) := by
    intro k0
    induction k0 with
    | zero => intro V X H locs ls hf hP hS hl; exact lp_0 hf
    | succ k0 ih0 =>
      intro V X H locs ls hf hP hS hl
      have hf := lp_s hf
      rw [bX6_advance_0_e] at hf
      have J39 : ∀ (V : Sz) (X : Sz) (H : Heap) (locs : List Loc) (ls : Array Slot), jX6_advance_39 n T2 G (lpF (bX6_advance_0 n T2 G) k0) V X = some (Vr, Xr) → va_P D vwCl (cs_X6 kA a V X b (d 0) ++ ([(b, .inl (kA 1, 900, .inl (aI T2)))] ++ (cs_X4 kA d G))) H → va_S A0 s.heap H locs → lv_has ls 1 [(0, .ref (a 0))] → W p l e rmX6_advance s m args below meth c H locs 0 0 Q (F0 m 39 ls []) := by
        intro V X H locs ls hf hP hS hl
        unfold jX6_advance_39 at hf
        refine lv_aload_n hC.1 hC.2.1 dX6_advance_39 rfl (lv_at hl 0 rfl) <| lv_dup hC.1 hC.2.1 dX6_advance_40 rfl <| gfX6_33 hC hK hP (q0 := 0) rfl rfl dX6_advance_41 <| ziconst hC.1 hC.2.1 dX6_advance_44 <| ziadd hC.1 hC.2.1 dX6_advance_45 <| ?_
        refine pfX6_33 hC hK hP (hD (V, X)) hS (q0 := 0) rfl (Nat.le_of_ble_eq_true rfl) dX6_advance_46 (fun H locs hP hS => ?_)
        obtain ⟨V_15, eV_15⟩ : ∃ y, y = us V 4 ((V 4 0) + 1) := ⟨_, rfl⟩
        have hf := nm_at hf eV_15
        have hP : va_P D vwCl (cs_X6 kA a V_15 X b (d 0) ++ ([(b, .inl (kA 1, 900, .inl (aI T2)))] ++ (cs_X4 kA d G))) H := by rw [eV_15]; exact hP
        exact lv_goto (tgt := 0) hC.1 hC.2.1 dX6_advance_49 (by decide) <| ih0 _ _ _ _ _ hf hP hS (lv_sub hl [0] rfl)
      refine lv_aload_n hC.1 hC.2.1 dX6_advance_0 rfl (lv_at hl 0 rfl) <| gfX6_33 hC hK hP (q0 := 0) rfl rfl dX6_advance_1 <| lv_aload_n hC.1 hC.2.1 dX6_advance_4 rfl (lv_at hl 0 rfl) <| gfX6_29 hC hK hP (q0 := 0) rfl rfl dX6_advance_5 <| ?_
      obtain ⟨hz_1, hf⟩ := ck_some hf
      refine zicmp_ge (tgt := 52) hC.1 hC.2.1 ⟨hz_1.1, hz_1.2⟩ dX6_advance_8 (by decide) (fun hc => ?_) (fun hc => ?_)
      · have hf := it_t hf hc
        exact J52 _ _ _ _ _ hf hP hS (lv_sub hl [0] rfl)
      · have hf := it_f hf hc
        refine lv_aload_n hC.1 hC.2.1 dX6_advance_11 rfl (lv_at hl 0 rfl) <| gfX6_15 hC hK hP (q0 := 0) rfl rfl dX6_advance_12 <| lv_aload_n hC.1 hC.2.1 dX6_advance_15 rfl (lv_at hl 0 rfl) <| gfX6_33 hC hK hP (q0 := 0) rfl rfl dX6_advance_16 <| ?_
        obtain ⟨hz_13, hf⟩ := ck_some hf
        refine jbal hC hK hP (q0 := 2) rfl (Nat.le_of_ble_eq_true rfl) hz_13 rfl dX6_advance_19 <| zbipush hC.1 hC.2.1 dX6_advance_20 (by decide) <| ?_
        obtain ⟨hz_14, hf⟩ := ck_some hf
        refine zicmp_eq (tgt := 39) hC.1 hC.2.1 ⟨hz_14, (by decide)⟩ dX6_advance_22 (by decide) (fun hc => ?_) (fun hc => ?_)
        · have hf := it_t hf hc
          exact J39 _ _ _ _ _ hf hP hS (lv_sub hl [0] rfl)
        · have hf := it_f hf hc
          refine lv_aload_n hC.1 hC.2.1 dX6_advance_25 rfl (lv_at hl 0 rfl) <| gfX6_15 hC hK hP (q0 := 0) rfl rfl dX6_advance_26 <| lv_aload_n hC.1 hC.2.1 dX6_advance_29 rfl (lv_at hl 0 rfl) <| gfX6_33 hC hK hP (q0 := 0) rfl rfl dX6_advance_30 <| jbal hC hK hP (q0 := 2) rfl (Nat.le_of_ble_eq_true rfl) hz_13 rfl dX6_advance_33 <| zbipush hC.1 hC.2.1 dX6_advance_34 (by decide) <| zicmp_ne (tgt := 52) hC.1 hC.2.1 ⟨hz_14, (by decide)⟩ dX6_advance_36 (by decide) (fun hc => ?_) (fun hc => ?_)
          · have hf := it_f hf hc
            exact J52 _ _ _ _ _ hf hP hS (lv_sub hl [0] rfl)
          · have hf := it_t hf hc
            exact J39 _ _ _ _ _ hf hP hS (lv_sub hl [0] rfl)
  exact L0 n _ _ _ _ _ hf hP hS (lv_sub hl [0] rfl)
theorem DX6_fail_0 : ∀ q ∈ ([(0, .aload_n 0, 1), (1, .getfield 36, 3), (4, .ifCond .ne 16, 3), (7, .aload_n 0, 1), (8, .iload_n 1, 1), (9, .putfield 36, 3), (12, .aload_n 0, 1), (13, .aload_n 0, 1), (14, .getfield 160, 3), (17, .putfield 39, 3), (20, .return_, 1)] : List (Nat × Instr × Nat)), decode cX6_fail q.1 = .ok q.2 := by decide +kernel
theorem dX6_fail_0 : decode cX6_fail 0 = .ok (.aload_n 0, 1) := DX6_fail_0 (0, .aload_n 0, 1) (List.mem_of_getElem? (i := 0) rfl)
theorem dX6_fail_1 : decode cX6_fail 1 = .ok (.getfield 36, 3) := DX6_fail_0 (1, .getfield 36, 3) (List.mem_of_getElem? (i := 1) rfl)
theorem dX6_fail_4 : decode cX6_fail 4 = .ok (.ifCond .ne 16, 3) := DX6_fail_0 (4, .ifCond .ne 16, 3) (List.mem_of_getElem? (i := 2) rfl)
theorem dX6_fail_7 : decode cX6_fail 7 = .ok (.aload_n 0, 1) := DX6_fail_0 (7, .aload_n 0, 1) (List.mem_of_getElem? (i := 3) rfl)
theorem dX6_fail_8 : decode cX6_fail 8 = .ok (.iload_n 1, 1) := DX6_fail_0 (8, .iload_n 1, 1) (List.mem_of_getElem? (i := 4) rfl)
theorem dX6_fail_9 : decode cX6_fail 9 = .ok (.putfield 36, 3) := DX6_fail_0 (9, .putfield 36, 3) (List.mem_of_getElem? (i := 5) rfl)
theorem dX6_fail_12 : decode cX6_fail 12 = .ok (.aload_n 0, 1) := DX6_fail_0 (12, .aload_n 0, 1) (List.mem_of_getElem? (i := 6) rfl)
theorem dX6_fail_13 : decode cX6_fail 13 = .ok (.aload_n 0, 1) := DX6_fail_0 (13, .aload_n 0, 1) (List.mem_of_getElem? (i := 7) rfl)
theorem dX6_fail_14 : decode cX6_fail 14 = .ok (.getfield 160, 3) := DX6_fail_0 (14, .getfield 160, 3) (List.mem_of_getElem? (i := 8) rfl)
theorem dX6_fail_17 : decode cX6_fail 17 = .ok (.putfield 39, 3) := DX6_fail_0 (17, .putfield 39, 3) (List.mem_of_getElem? (i := 9) rfl)
theorem dX6_fail_20 : decode cX6_fail 20 = .ok (.return_, 1) := DX6_fail_0 (20, .return_, 1) (List.mem_of_getElem? (i := 10) rfl)
abbrev rmX6_fail : Room := { frames := 0, cells := 0, slots := 0, locals := 0 }
set_option maxHeartbeats 400000 in
set_option maxRecDepth 100000 in
theorem met_X6_fail (l : Launch) (D : va_G) (kA : Nat → ClassId) (a : Nat → Nat) (b : Nat) (d : Nat → Nat) (V0 : Sz) (X : Sz) (T2 : Nat → Int) (G : Sz) (x1 : Int) (hDt : ∀ w : Sz, va_D (fun _ => True) (cs_X6 kA a w X b (d 0) ++ ([(b, .inl (kA 1, 900, .inl (aI T2)))] ++ (cs_X4 kA d G)))) {Vr : Sz} (hf : f_X6_fail V0 X T2 G x1 = some Vr) : MZ l yX6_fail cX6_fail 2 none rmX6_fail D kA [.ref (a 0), vI x1] (cs_X6 kA a V0 X b (d 0) ++ ([(b, .inl (kA 1, 900, .inl (aI T2)))] ++ (cs_X4 kA d G))) (cs_X6 kA a Vr X b (d 0) ++ ([(b, .inl (kA 1, 900, .inl (aI T2)))] ++ (cs_X4 kA d G))) (none) := by
  refine zZV (own := RX6) rfl rfl (Nat.le_of_ble_eq_true rfl) ?_
  intro p e s m args below meth c ls Q hC hK hP hl hret
  have hl : lv_has ls 2 [(0, .ref (a 0)), (1, vI x1)] := hl
  have hS : va_S (zF (cs_X6 kA a V0 X b (d 0) ++ ([(b, .inl (kA 1, 900, .inl (aI T2)))] ++ (cs_X4 kA d G)))) s.heap s.heap [] := va_S.rf
  have hD := zDself (C := fun w : Sz => (cs_X6 kA a w X b (d 0) ++ ([(b, .inl (kA 1, 900, .inl (aI T2)))] ++ (cs_X4 kA d G)))) hDt V0 (fun _ => rfl)
  try dsimp only at hD
  generalize hAe : zF (cs_X6 kA a V0 X b (d 0) ++ ([(b, .inl (kA 1, 900, .inl (aI T2)))] ++ (cs_X4 kA d G))) = A0 at hS hD hret
  unfold f_X6_fail at hf
  refine lv_aload_n hC.1 hC.2.1 dX6_fail_0 rfl (lv_at hl 0 rfl) <| gfX6_36 hC hK hP (q0 := 0) rfl rfl dX6_fail_1 <| ?_
  obtain ⟨hz_1, hf⟩ := ck_some hf
  refine zif_ne (tgt := 20) hC.1 hC.2.1 hz_1 dX6_fail_4 (by decide) (fun hc => ?_) (fun hc => ?_)
  · have hf := it_f hf hc
    have hf := Option.some.inj hf
    exact hret _ _ _ _ rfl (by rw [← hf]; exact hP) hS dX6_fail_20
  · have hf := it_t hf hc
    refine lv_aload_n hC.1 hC.2.1 dX6_fail_7 rfl (lv_at hl 0 rfl) <| ziload_n hC.1 hC.2.1 dX6_fail_8 rfl (lv_at hl 1 rfl) <| ?_
    refine pfX6_36 hC hK hP (hD V0) hS (q0 := 0) rfl (Nat.le_of_ble_eq_true rfl) dX6_fail_9 (fun H locs hP hS => ?_)
    obtain ⟨V_2, eV_2⟩ : ∃ y, y = us V0 0 x1 := ⟨_, rfl⟩
    have hf := nm_at hf eV_2
    have hP : va_P D vwCl (cs_X6 kA a V_2 X b (d 0) ++ ([(b, .inl (kA 1, 900, .inl (aI T2)))] ++ (cs_X4 kA d G))) H := by rw [eV_2]; exact hP
    refine lv_aload_n hC.1 hC.2.1 dX6_fail_12 rfl (lv_at hl 0 rfl) <| lv_aload_n hC.1 hC.2.1 dX6_fail_13 rfl (lv_at hl 0 rfl) <| gfX6_160 hC hK hP (q0 := 0) rfl rfl dX6_fail_14 <| ?_
    refine pfX6_39 hC hK hP (hD V_2) hS (q0 := 0) rfl (Nat.le_of_ble_eq_true rfl) dX6_fail_17 (fun H locs hP hS => ?_)
    obtain ⟨V_3, eV_3⟩ : ∃ y, y = us V_2 1 (V_2 3 0) := ⟨_, rfl⟩
    have hf := nm_at hf eV_3
    have hP : va_P D vwCl (cs_X6 kA a V_3 X b (d 0) ++ ([(b, .inl (kA 1, 900, .inl (aI T2)))] ++ (cs_X4 kA d G))) H := by rw [eV_3]; exact hP
    have hf := Option.some.inj hf
    exact hret _ _ _ _ rfl (by rw [← hf]; exact hP) hS dX6_fail_20
theorem DX6_readNumber_0 : ∀ q ∈ ([(0, .aload_n 0, 1), (1, .invokevirtual 51, 3), (4, .aload_n 0, 1), (5, .getfield 54, 3), (8, .iconst 2, 1), (9, .if_icmp .ne 17, 3), (12, .aload_n 0, 1), (13, .getfield 33, 3), (16, .aload_n 0, 1), (17, .getfield 160, 3), (20, .isub, 1), (21, .bipush 6, 2), (23, .if_icmp .le 10, 3), (26, .aload_n 0, 1), (27, .iconst 1, 1), (28, .invokevirtual 95, 3), (31, .iload_n 1, 1), (32, .ireturn, 1), (33, .iconst 0, 1), (34, .istore_n 3, 1), (35, .aload_n 0, 1), (36, .getfield 160, 3), (39, .istore 4, 2), (41, .iload 4, 2), (43, .aload_n 0, 1), (44, .getfield 33, 3), (47, .if_icmp .ge 25, 3), (50, .iload_n 3, 1), (51, .bipush 10, 2), (53, .imul, 1), (54, .aload_n 0, 1), (55, .getfield 15, 3), (58, .iload 4, 2), (60, .baload, 1), (61, .bipush 48, 2), (63, .isub, 1), (64, .iadd, 1), (65, .istore_n 3, 1), (66, .iinc 4 1, 3), (69, .goto (-28), 3)] : List (Nat × Instr × Nat)), decode cX6_readNumber q.1 = .ok q.2 := by decide +kernel
theorem dX6_readNumber_0 : decode cX6_readNumber 0 = .ok (.aload_n 0, 1) := DX6_readNumber_0 (0, .aload_n 0, 1) (List.mem_of_getElem? (i := 0) rfl)
theorem dX6_readNumber_1 : decode cX6_readNumber 1 = .ok (.invokevirtual 51, 3) := DX6_readNumber_0 (1, .invokevirtual 51, 3) (List.mem_of_getElem? (i := 1) rfl)
theorem dX6_readNumber_4 : decode cX6_readNumber 4 = .ok (.aload_n 0, 1) := DX6_readNumber_0 (4, .aload_n 0, 1) (List.mem_of_getElem? (i := 2) rfl)
theorem dX6_readNumber_5 : decode cX6_readNumber 5 = .ok (.getfield 54, 3) := DX6_readNumber_0 (5, .getfield 54, 3) (List.mem_of_getElem? (i := 3) rfl)
theorem dX6_readNumber_8 : decode cX6_readNumber 8 = .ok (.iconst 2, 1) := DX6_readNumber_0 (8, .iconst 2, 1) (List.mem_of_getElem? (i := 4) rfl)
theorem dX6_readNumber_9 : decode cX6_readNumber 9 = .ok (.if_icmp .ne 17, 3) := DX6_readNumber_0 (9, .if_icmp .ne 17, 3) (List.mem_of_getElem? (i := 5) rfl)
theorem dX6_readNumber_12 : decode cX6_readNumber 12 = .ok (.aload_n 0, 1) := DX6_readNumber_0 (12, .aload_n 0, 1) (List.mem_of_getElem? (i := 6) rfl)
theorem dX6_readNumber_13 : decode cX6_readNumber 13 = .ok (.getfield 33, 3) := DX6_readNumber_0 (13, .getfield 33, 3) (List.mem_of_getElem? (i := 7) rfl)
theorem dX6_readNumber_16 : decode cX6_readNumber 16 = .ok (.aload_n 0, 1) := DX6_readNumber_0 (16, .aload_n 0, 1) (List.mem_of_getElem? (i := 8) rfl)
theorem dX6_readNumber_17 : decode cX6_readNumber 17 = .ok (.getfield 160, 3) := DX6_readNumber_0 (17, .getfield 160, 3) (List.mem_of_getElem? (i := 9) rfl)
theorem dX6_readNumber_20 : decode cX6_readNumber 20 = .ok (.isub, 1) := DX6_readNumber_0 (20, .isub, 1) (List.mem_of_getElem? (i := 10) rfl)
theorem dX6_readNumber_21 : decode cX6_readNumber 21 = .ok (.bipush 6, 2) := DX6_readNumber_0 (21, .bipush 6, 2) (List.mem_of_getElem? (i := 11) rfl)
theorem dX6_readNumber_23 : decode cX6_readNumber 23 = .ok (.if_icmp .le 10, 3) := DX6_readNumber_0 (23, .if_icmp .le 10, 3) (List.mem_of_getElem? (i := 12) rfl)
theorem dX6_readNumber_26 : decode cX6_readNumber 26 = .ok (.aload_n 0, 1) := DX6_readNumber_0 (26, .aload_n 0, 1) (List.mem_of_getElem? (i := 13) rfl)
theorem dX6_readNumber_27 : decode cX6_readNumber 27 = .ok (.iconst 1, 1) := DX6_readNumber_0 (27, .iconst 1, 1) (List.mem_of_getElem? (i := 14) rfl)
theorem dX6_readNumber_28 : decode cX6_readNumber 28 = .ok (.invokevirtual 95, 3) := DX6_readNumber_0 (28, .invokevirtual 95, 3) (List.mem_of_getElem? (i := 15) rfl)
theorem dX6_readNumber_31 : decode cX6_readNumber 31 = .ok (.iload_n 1, 1) := DX6_readNumber_0 (31, .iload_n 1, 1) (List.mem_of_getElem? (i := 16) rfl)
theorem dX6_readNumber_32 : decode cX6_readNumber 32 = .ok (.ireturn, 1) := DX6_readNumber_0 (32, .ireturn, 1) (List.mem_of_getElem? (i := 17) rfl)
theorem dX6_readNumber_33 : decode cX6_readNumber 33 = .ok (.iconst 0, 1) := DX6_readNumber_0 (33, .iconst 0, 1) (List.mem_of_getElem? (i := 18) rfl)
theorem dX6_readNumber_34 : decode cX6_readNumber 34 = .ok (.istore_n 3, 1) := DX6_readNumber_0 (34, .istore_n 3, 1) (List.mem_of_getElem? (i := 19) rfl)
theorem dX6_readNumber_35 : decode cX6_readNumber 35 = .ok (.aload_n 0, 1) := DX6_readNumber_0 (35, .aload_n 0, 1) (List.mem_of_getElem? (i := 20) rfl)
theorem dX6_readNumber_36 : decode cX6_readNumber 36 = .ok (.getfield 160, 3) := DX6_readNumber_0 (36, .getfield 160, 3) (List.mem_of_getElem? (i := 21) rfl)
theorem dX6_readNumber_39 : decode cX6_readNumber 39 = .ok (.istore 4, 2) := DX6_readNumber_0 (39, .istore 4, 2) (List.mem_of_getElem? (i := 22) rfl)
theorem dX6_readNumber_41 : decode cX6_readNumber 41 = .ok (.iload 4, 2) := DX6_readNumber_0 (41, .iload 4, 2) (List.mem_of_getElem? (i := 23) rfl)
theorem dX6_readNumber_43 : decode cX6_readNumber 43 = .ok (.aload_n 0, 1) := DX6_readNumber_0 (43, .aload_n 0, 1) (List.mem_of_getElem? (i := 24) rfl)
theorem dX6_readNumber_44 : decode cX6_readNumber 44 = .ok (.getfield 33, 3) := DX6_readNumber_0 (44, .getfield 33, 3) (List.mem_of_getElem? (i := 25) rfl)
theorem dX6_readNumber_47 : decode cX6_readNumber 47 = .ok (.if_icmp .ge 25, 3) := DX6_readNumber_0 (47, .if_icmp .ge 25, 3) (List.mem_of_getElem? (i := 26) rfl)
theorem dX6_readNumber_50 : decode cX6_readNumber 50 = .ok (.iload_n 3, 1) := DX6_readNumber_0 (50, .iload_n 3, 1) (List.mem_of_getElem? (i := 27) rfl)
theorem dX6_readNumber_51 : decode cX6_readNumber 51 = .ok (.bipush 10, 2) := DX6_readNumber_0 (51, .bipush 10, 2) (List.mem_of_getElem? (i := 28) rfl)
theorem dX6_readNumber_53 : decode cX6_readNumber 53 = .ok (.imul, 1) := DX6_readNumber_0 (53, .imul, 1) (List.mem_of_getElem? (i := 29) rfl)
theorem dX6_readNumber_54 : decode cX6_readNumber 54 = .ok (.aload_n 0, 1) := DX6_readNumber_0 (54, .aload_n 0, 1) (List.mem_of_getElem? (i := 30) rfl)
theorem dX6_readNumber_55 : decode cX6_readNumber 55 = .ok (.getfield 15, 3) := DX6_readNumber_0 (55, .getfield 15, 3) (List.mem_of_getElem? (i := 31) rfl)
theorem dX6_readNumber_58 : decode cX6_readNumber 58 = .ok (.iload 4, 2) := DX6_readNumber_0 (58, .iload 4, 2) (List.mem_of_getElem? (i := 32) rfl)
theorem dX6_readNumber_60 : decode cX6_readNumber 60 = .ok (.baload, 1) := DX6_readNumber_0 (60, .baload, 1) (List.mem_of_getElem? (i := 33) rfl)
theorem dX6_readNumber_61 : decode cX6_readNumber 61 = .ok (.bipush 48, 2) := DX6_readNumber_0 (61, .bipush 48, 2) (List.mem_of_getElem? (i := 34) rfl)
theorem dX6_readNumber_63 : decode cX6_readNumber 63 = .ok (.isub, 1) := DX6_readNumber_0 (63, .isub, 1) (List.mem_of_getElem? (i := 35) rfl)
theorem dX6_readNumber_64 : decode cX6_readNumber 64 = .ok (.iadd, 1) := DX6_readNumber_0 (64, .iadd, 1) (List.mem_of_getElem? (i := 36) rfl)
theorem dX6_readNumber_65 : decode cX6_readNumber 65 = .ok (.istore_n 3, 1) := DX6_readNumber_0 (65, .istore_n 3, 1) (List.mem_of_getElem? (i := 37) rfl)
theorem dX6_readNumber_66 : decode cX6_readNumber 66 = .ok (.iinc 4 1, 3) := DX6_readNumber_0 (66, .iinc 4 1, 3) (List.mem_of_getElem? (i := 38) rfl)
theorem dX6_readNumber_69 : decode cX6_readNumber 69 = .ok (.goto (-28), 3) := DX6_readNumber_0 (69, .goto (-28), 3) (List.mem_of_getElem? (i := 39) rfl)
theorem DX6_readNumber_1 : ∀ q ∈ ([(72, .iload_n 3, 1), (73, .iload_n 1, 1), (74, .if_icmp .lt 8, 3), (77, .iload_n 3, 1), (78, .iload_n 2, 1), (79, .if_icmp .le 8, 3), (82, .aload_n 0, 1), (83, .iconst 2, 1), (84, .invokevirtual 95, 3), (87, .iload_n 3, 1), (88, .ireturn, 1)] : List (Nat × Instr × Nat)), decode cX6_readNumber q.1 = .ok q.2 := by decide +kernel
theorem dX6_readNumber_72 : decode cX6_readNumber 72 = .ok (.iload_n 3, 1) := DX6_readNumber_1 (72, .iload_n 3, 1) (List.mem_of_getElem? (i := 0) rfl)
theorem dX6_readNumber_73 : decode cX6_readNumber 73 = .ok (.iload_n 1, 1) := DX6_readNumber_1 (73, .iload_n 1, 1) (List.mem_of_getElem? (i := 1) rfl)
theorem dX6_readNumber_74 : decode cX6_readNumber 74 = .ok (.if_icmp .lt 8, 3) := DX6_readNumber_1 (74, .if_icmp .lt 8, 3) (List.mem_of_getElem? (i := 2) rfl)
theorem dX6_readNumber_77 : decode cX6_readNumber 77 = .ok (.iload_n 3, 1) := DX6_readNumber_1 (77, .iload_n 3, 1) (List.mem_of_getElem? (i := 3) rfl)
theorem dX6_readNumber_78 : decode cX6_readNumber 78 = .ok (.iload_n 2, 1) := DX6_readNumber_1 (78, .iload_n 2, 1) (List.mem_of_getElem? (i := 4) rfl)
theorem dX6_readNumber_79 : decode cX6_readNumber 79 = .ok (.if_icmp .le 8, 3) := DX6_readNumber_1 (79, .if_icmp .le 8, 3) (List.mem_of_getElem? (i := 5) rfl)
theorem dX6_readNumber_82 : decode cX6_readNumber 82 = .ok (.aload_n 0, 1) := DX6_readNumber_1 (82, .aload_n 0, 1) (List.mem_of_getElem? (i := 6) rfl)
theorem dX6_readNumber_83 : decode cX6_readNumber 83 = .ok (.iconst 2, 1) := DX6_readNumber_1 (83, .iconst 2, 1) (List.mem_of_getElem? (i := 7) rfl)
theorem dX6_readNumber_84 : decode cX6_readNumber 84 = .ok (.invokevirtual 95, 3) := DX6_readNumber_1 (84, .invokevirtual 95, 3) (List.mem_of_getElem? (i := 8) rfl)
theorem dX6_readNumber_87 : decode cX6_readNumber 87 = .ok (.iload_n 3, 1) := DX6_readNumber_1 (87, .iload_n 3, 1) (List.mem_of_getElem? (i := 9) rfl)
theorem dX6_readNumber_88 : decode cX6_readNumber 88 = .ok (.ireturn, 1) := DX6_readNumber_1 (88, .ireturn, 1) (List.mem_of_getElem? (i := 10) rfl)
abbrev rmX6_readNumber : Room := { frames := 2, cells := 0, slots := 0, locals := 43 }
set_option maxHeartbeats 400000 in
set_option maxRecDepth 100000 in
theorem met_X6_readNumber (l : Launch) (D : va_G) (kA : Nat → ClassId) (a : Nat → Nat) (b : Nat) (d : Nat → Nat) (n : Nat) (V0 : Sz) (X0 : Sz) (T2 : Nat → Int) (G : Sz) (x1 : Int) (x2 : Int) (hDt : ∀ w : Sz × Sz, va_D (fun _ => True) (cs_X6 kA a w.1 w.2 b (d 0) ++ ([(b, .inl (kA 1, 900, .inl (aI T2)))] ++ (cs_X4 kA d G)))) {r : Int} {Vr : Sz} {Xr : Sz} (hf : f_X6_readNumber n V0 X0 T2 G x1 x2 = some (r, Vr, Xr)) : MZ l yX6_readNumber cX6_readNumber 5 (some .int) rmX6_readNumber D kA [.ref (a 0), vI x1, vI x2] (cs_X6 kA a V0 X0 b (d 0) ++ ([(b, .inl (kA 1, 900, .inl (aI T2)))] ++ (cs_X4 kA d G))) (cs_X6 kA a Vr Xr b (d 0) ++ ([(b, .inl (kA 1, 900, .inl (aI T2)))] ++ (cs_X4 kA d G))) (some (vI r)) := by
  refine zZI (own := RX6) rfl rfl (Nat.le_of_ble_eq_true rfl) ?_
  intro p e s m args below meth c ls Q hC hK hP hl hret
  have hl : lv_has ls 5 [(0, .ref (a 0)), (1, vI x1), (2, vI x2)] := hl
  have hS : va_S (zF (cs_X6 kA a V0 X0 b (d 0) ++ ([(b, .inl (kA 1, 900, .inl (aI T2)))] ++ (cs_X4 kA d G)))) s.heap s.heap [] := va_S.rf
  have hD := zDself (C := fun w : Sz × Sz => (cs_X6 kA a w.1 w.2 b (d 0) ++ ([(b, .inl (kA 1, 900, .inl (aI T2)))] ++ (cs_X4 kA d G)))) hDt (V0, X0) (fun _ => rfl)
  try dsimp only at hD
  generalize hAe : zF (cs_X6 kA a V0 X0 b (d 0) ++ ([(b, .inl (kA 1, 900, .inl (aI T2)))] ++ (cs_X4 kA d G))) = A0 at hS hD hret
  unfold f_X6_readNumber at hf
  have J26 : ∀ (V : Sz) (X : Sz) (H : Heap) (locs : List Loc) (ls : Array Slot), jX6_readNumber_26 n T2 G x1 x2 V X = some (r, Vr, Xr) → va_P D vwCl (cs_X6 kA a V X b (d 0) ++ ([(b, .inl (kA 1, 900, .inl (aI T2)))] ++ (cs_X4 kA d G))) H → va_S A0 s.heap H locs → lv_has ls 5 [(0, .ref (a 0)), (1, vI x1)] → W p l e rmX6_readNumber s m args below meth c H locs 0 0 Q (F0 m 26 ls []) := by
    intro V X H locs ls hf hP hS hl
    unfold jX6_readNumber_26 at hf
    refine lv_aload_n hC.1 hC.2.1 dX6_readNumber_26 rfl (lv_at hl 0 rfl) <| ziconst hC.1 hC.2.1 dX6_readNumber_27 <| ?_
    obtain ⟨V_4, hu, hf⟩ := bd_some hf
    have hDc : ∀ w : Sz, va_D (fun _ => True) (cs_X6 kA a w X (b) (d 0) ++ ([((b), .inl (kA 1, 900, .inl (aI T2)))] ++ (cs_X4 kA d G))) := fun w => (hDt (w, X)).sub [0, 1, 2, 3, 4, 5, 6, 7, 8, 9, 10, 11, 12, 13, 14, 15, 16, 17, 18, 19, 20, 21, 22, 23, 24, 25, 26] (by decide) rfl
    refine zcVZ (As := [vI 1]) (rest := []) hC hK (met_X6_fail l D kA a (b) d V X T2 G 1 hDc hu) zwX6_95 hS (zFsub (hD (V, X)) [0, 1, 2, 3, 4, 5, 6, 7, 8, 9, 10, 11, 12, 13, 14, 15, 16, 17, 18, 19, 20, 21, 22, 23, 24, 25, 26] rfl) hP (q0 := 0) rfl rfl rfl rfl hl.1 rfl (Nat.le_of_ble_eq_true rfl) ⟨Nat.le_of_ble_eq_true rfl, Nat.le_of_ble_eq_true rfl⟩ ⟨rfl, rfl⟩ ⟨Nat.le_refl _, Nat.le_refl _⟩ dX6_readNumber_28 (fun H locs hP1 hk1 hS => ?_)
    have hP : va_P D vwCl (cs_X6 kA a V_4 X b (d 0) ++ ([(b, .inl (kA 1, 900, .inl (aI T2)))] ++ (cs_X4 kA d G))) H := hP1
    refine ziload_n hC.1 hC.2.1 dX6_readNumber_31 rfl (lv_at hl 1 rfl) <| ?_
    have hf := Option.some.inj hf
    simp only [Prod.mk.injEq] at hf
    exact hret (Int32.ofInt x1) _ _ _ _ (congrArg (fun z => some (vI z)) hf.1.symm) (by rw [← hf.2.1, ← hf.2.2]; exact hP) hS dX6_readNumber_32
  have J82 : ∀ (y3 : Int) (V : Sz) (X : Sz) (H : Heap) (locs : List Loc) (ls : Array Slot), jX6_readNumber_82 n T2 G x1 x2 y3 V X = some (r, Vr, Xr) → va_P D vwCl (cs_X6 kA a V X b (d 0) ++ ([(b, .inl (kA 1, 900, .inl (aI T2)))] ++ (cs_X4 kA d G))) H → va_S A0 s.heap H locs → lv_has ls 5 [(0, .ref (a 0)), (3, vI y3)] → W p l e rmX6_readNumber s m args below meth c H locs 0 0 Q (F0 m 82 ls []) := by
    intro y3 V X H locs ls hf hP hS hl
    unfold jX6_readNumber_82 at hf
    refine lv_aload_n hC.1 hC.2.1 dX6_readNumber_82 rfl (lv_at hl 0 rfl) <| ziconst hC.1 hC.2.1 dX6_readNumber_83 <| ?_
    obtain ⟨V_9, hu, hf⟩ := bd_some hf
    have hDc : ∀ w : Sz, va_D (fun _ => True) (cs_X6 kA a w X (b) (d 0) ++ ([((b), .inl (kA 1, 900, .inl (aI T2)))] ++ (cs_X4 kA d G))) := fun w => (hDt (w, X)).sub [0, 1, 2, 3, 4, 5, 6, 7, 8, 9, 10, 11, 12, 13, 14, 15, 16, 17, 18, 19, 20, 21, 22, 23, 24, 25, 26] (by decide) rfl
    refine zcVZ (As := [vI 2]) (rest := []) hC hK (met_X6_fail l D kA a (b) d V X T2 G 2 hDc hu) zwX6_95 hS (zFsub (hD (V, X)) [0, 1, 2, 3, 4, 5, 6, 7, 8, 9, 10, 11, 12, 13, 14, 15, 16, 17, 18, 19, 20, 21, 22, 23, 24, 25, 26] rfl) hP (q0 := 0) rfl rfl rfl rfl hl.1 rfl (Nat.le_of_ble_eq_true rfl) ⟨Nat.le_of_ble_eq_true rfl, Nat.le_of_ble_eq_true rfl⟩ ⟨rfl, rfl⟩ ⟨Nat.le_refl _, Nat.le_refl _⟩ dX6_readNumber_84 (fun H locs hP1 hk1 hS => ?_)
    have hP : va_P D vwCl (cs_X6 kA a V_9 X b (d 0) ++ ([(b, .inl (kA 1, 900, .inl (aI T2)))] ++ (cs_X4 kA d G))) H := hP1
    refine ziload_n hC.1 hC.2.1 dX6_readNumber_87 rfl (lv_at hl 1 rfl) <| ?_
    have hf := Option.some.inj hf
    simp only [Prod.mk.injEq] at hf
    exact hret (Int32.ofInt y3) _ _ _ _ (congrArg (fun z => some (vI z)) hf.1.symm) (by rw [← hf.2.1, ← hf.2.2]; exact hP) hS dX6_readNumber_88
  have L41 : ∀ (k41 : Nat) (y3 : Int) (y4 : Int) (V : Sz) (X : Sz) (H : Heap) (locs : List Loc) (ls : Array Slot), lpF (bX6_readNumber_41 n T2 G x1 x2) k41 (y3, y4, V, X) = some (r, Vr, Xr) → va_P D vwCl (cs_X6 kA a V X b (d 0) ++ ([(b, .inl (kA 1, 900, .inl (aI T2)))] ++ (cs_X4 kA d G))) H → va_S A0 s.heap H locs → lv_has ls 5 [(0, .ref (a 0)), (1, vI x1), (2, vI x2), (3, vI y3), (4, vI y4)] → W p l e rmX6_readNumber s m args below meth c H locs 0 0 Q (F0 m 41 ls []) := by
    intro k41
    induction k41 with
    | zero => intro y3 y4 V X H locs ls hf hP hS hl; exact lp_0 hf
    | succ k41 ih41 =>
      intro y3 y4 V X H locs ls hf hP hS hl
      have hf := lp_s hf
      rw [bX6_readNumber_41_e] at hf
      refine ziload hC.1 hC.2.1 dX6_readNumber_41 (lv_at hl 4 rfl) <| lv_aload_n hC.1 hC.2.1 dX6_readNumber_43 rfl (lv_at hl 0 rfl) <| gfX6_33 hC hK hP (q0 := 0) rfl rfl dX6_readNumber_44 <| ?_
      obtain ⟨hz_7, hf⟩ := ck_some hf
      refine zicmp_ge (tgt := 72) hC.1 hC.2.1 ⟨hz_7.1, hz_7.2⟩ dX6_readNumber_47 (by decide) (fun hc => ?_) (fun hc => ?_)
      · have hf := it_t hf hc
        refine ziload_n hC.1 hC.2.1 dX6_readNumber_72 rfl (lv_at hl 3 rfl) <| ziload_n hC.1 hC.2.1 dX6_readNumber_73 rfl (lv_at hl 1 rfl) <| ?_
        obtain ⟨hz_8, hf⟩ := ck_some hf
        refine zicmp_lt (tgt := 82) hC.1 hC.2.1 ⟨hz_8.1, hz_8.2⟩ dX6_readNumber_74 (by decide) (fun hc => ?_) (fun hc => ?_)
        · have hf := it_t hf hc
          exact J82 _ _ _ _ _ _ hf hP hS (lv_sub hl [0, 3] rfl)
        · have hf := it_f hf hc
          refine ziload_n hC.1 hC.2.1 dX6_readNumber_77 rfl (lv_at hl 3 rfl) <| ziload_n hC.1 hC.2.1 dX6_readNumber_78 rfl (lv_at hl 2 rfl) <| ?_
          obtain ⟨hz_10, hf⟩ := ck_some hf
          refine zicmp_le (tgt := 87) hC.1 hC.2.1 ⟨hz_8.1, hz_10⟩ dX6_readNumber_79 (by decide) (fun hc => ?_) (fun hc => ?_)
          · have hf := it_t hf hc
            refine ziload_n hC.1 hC.2.1 dX6_readNumber_87 rfl (lv_at hl 3 rfl) <| ?_
            have hf := Option.some.inj hf
            simp only [Prod.mk.injEq] at hf
            exact hret (Int32.ofInt y3) _ _ _ _ (congrArg (fun z => some (vI z)) hf.1.symm) (by rw [← hf.2.1, ← hf.2.2]; exact hP) hS dX6_readNumber_88
          · have hf := it_f hf hc
            exact J82 _ _ _ _ _ _ hf hP hS (lv_sub hl [0, 3] rfl)
      · have hf := it_f hf hc
        refine ziload_n hC.1 hC.2.1 dX6_readNumber_50 rfl (lv_at hl 3 rfl) <| zbipush hC.1 hC.2.1 dX6_readNumber_51 (by decide) <| zimul hC.1 hC.2.1 dX6_readNumber_53 <| lv_aload_n hC.1 hC.2.1 dX6_readNumber_54 rfl (lv_at hl 0 rfl) <| gfX6_15 hC hK hP (q0 := 0) rfl rfl dX6_readNumber_55 <| ziload hC.1 hC.2.1 dX6_readNumber_58 (lv_at hl 4 rfl) <| ?_
        obtain ⟨hz_11, hf⟩ := ck_some hf
        refine jbal hC hK hP (q0 := 2) rfl (Nat.le_of_ble_eq_true rfl) hz_11 rfl dX6_readNumber_60 <| zbipush hC.1 hC.2.1 dX6_readNumber_61 (by decide) <| zisub hC.1 hC.2.1 dX6_readNumber_63 <| ziadd hC.1 hC.2.1 dX6_readNumber_64 <| ?_
        refine ztopi (fun x_12 ex_12 => ?_)
        have hf := nm_at hf ex_12
        refine zistore_n (lv' := [(3, vI x_12), (0, .ref (a 0)), (1, vI x1), (2, vI x2), (4, vI y4)]) hC.1 hC.2.1 dX6_readNumber_65 rfl hl (by decide) rfl (fun ls hl => ?_)
        obtain ⟨x_13, ex_13⟩ : ∃ y : Int, y = y4 + 1 := ⟨_, rfl⟩
        have hf := nm_at hf ex_13
        refine ziinc (v := x_13) (lv' := [(4, vI x_13), (3, vI x_12), (0, .ref (a 0)), (1, vI x1), (2, vI x2)]) hC.1 hC.2.1 dX6_readNumber_66 hl (k := 4) rfl ex_13 (by decide) rfl (fun ls hl => ?_)
        exact lv_goto (tgt := 41) hC.1 hC.2.1 dX6_readNumber_69 (by decide) <| ih41 _ _ _ _ _ _ _ hf hP hS (lv_sub hl [2, 3, 4, 1, 0] rfl)
  refine lv_aload_n hC.1 hC.2.1 dX6_readNumber_0 rfl (lv_at hl 0 rfl) <| ?_
  obtain ⟨⟨V_1, X_2⟩, hu, hf⟩ := bd_some hf
  have hDc := hDt
  refine zcVZ (As := []) (rest := []) hC hK (met_X6_advance l D kA a (b) d n V0 X0 T2 G hDc hu) zwX6_51 hS (zFsub (hD (V0, X0)) [0, 1, 2, 3, 4, 5, 6, 7, 8, 9, 10, 11, 12, 13, 14, 15, 16, 17, 18, 19, 20, 21, 22, 23, 24, 25, 26] rfl) hP (q0 := 0) rfl rfl rfl rfl hl.1 rfl (Nat.le_of_ble_eq_true rfl) ⟨Nat.le_of_ble_eq_true rfl, Nat.le_of_ble_eq_true rfl⟩ ⟨rfl, rfl⟩ ⟨Nat.le_refl _, Nat.le_refl _⟩ dX6_readNumber_1 (fun H locs hP1 hk1 hS => ?_)
  have hP : va_P D vwCl (cs_X6 kA a V_1 X_2 b (d 0) ++ ([(b, .inl (kA 1, 900, .inl (aI T2)))] ++ (cs_X4 kA d G))) H := hP1
  refine lv_aload_n hC.1 hC.2.1 dX6_readNumber_4 rfl (lv_at hl 0 rfl) <| gfX6_54 hC hK hP (q0 := 0) rfl rfl dX6_readNumber_5 <| ziconst hC.1 hC.2.1 dX6_readNumber_8 <| ?_
  obtain ⟨hz_3, hf⟩ := ck_some hf
  refine zicmp_ne (tgt := 26) hC.1 hC.2.1 ⟨hz_3, (by decide)⟩ dX6_readNumber_9 (by decide) (fun hc => ?_) (fun hc => ?_)
  · have hf := it_f hf hc
    exact J26 _ _ _ _ _ hf hP hS (lv_sub hl [0, 1] rfl)
  · have hf := it_t hf hc
    refine lv_aload_n hC.1 hC.2.1 dX6_readNumber_12 rfl (lv_at hl 0 rfl) <| gfX6_33 hC hK hP (q0 := 0) rfl rfl dX6_readNumber_13 <| lv_aload_n hC.1 hC.2.1 dX6_readNumber_16 rfl (lv_at hl 0 rfl) <| gfX6_160 hC hK hP (q0 := 0) rfl rfl dX6_readNumber_17 <| zisub hC.1 hC.2.1 dX6_readNumber_20 <| zbipush hC.1 hC.2.1 dX6_readNumber_21 (by decide) <| ?_
    obtain ⟨hz_5, hf⟩ := ck_some hf
    refine zicmp_le (tgt := 33) hC.1 hC.2.1 ⟨hz_5, (by decide)⟩ dX6_readNumber_23 (by decide) (fun hc => ?_) (fun hc => ?_)
    · have hf := it_t hf hc
      refine ziconst hC.1 hC.2.1 dX6_readNumber_33 <| zistore_n (lv' := [(3, vI 0), (0, .ref (a 0)), (1, vI x1), (2, vI x2)]) hC.1 hC.2.1 dX6_readNumber_34 rfl hl (by decide) rfl (fun ls hl => ?_)
      refine lv_aload_n hC.1 hC.2.1 dX6_readNumber_35 rfl (lv_at hl 1 rfl) <| gfX6_160 hC hK hP (q0 := 0) rfl rfl dX6_readNumber_36 <| ?_
      refine ztopi (fun x_6 ex_6 => ?_)
      have hf := nm_at hf ex_6
      refine zistore (lv' := [(4, vI x_6), (3, vI 0), (0, .ref (a 0)), (1, vI x1), (2, vI x2)]) hC.1 hC.2.1 dX6_readNumber_39 hl (by decide) rfl (fun ls hl => ?_)
      exact L41 n _ _ _ _ _ _ _ hf hP hS (lv_sub hl [2, 3, 4, 1, 0] rfl)
    · have hf := it_f hf hc
      exact J26 _ _ _ _ _ hf hP hS (lv_sub hl [0, 1] rfl)
theorem DX6_readSemicolon_0 : ∀ q ∈ ([(0, .aload_n 0, 1), (1, .invokevirtual 51, 3), (4, .aload_n 0, 1), (5, .getfield 54, 3), (8, .iconst 3, 1), (9, .if_icmp .eq 8, 3), (12, .aload_n 0, 1), (13, .iconst 1, 1), (14, .invokevirtual 95, 3), (17, .return_, 1)] : List (Nat × Instr × Nat)), decode cX6_readSemicolon q.1 = .ok q.2 := by decide +kernel
theorem dX6_readSemicolon_0 : decode cX6_readSemicolon 0 = .ok (.aload_n 0, 1) := DX6_readSemicolon_0 (0, .aload_n 0, 1) (List.mem_of_getElem? (i := 0) rfl)
theorem dX6_readSemicolon_1 : decode cX6_readSemicolon 1 = .ok (.invokevirtual 51, 3) := DX6_readSemicolon_0 (1, .invokevirtual 51, 3) (List.mem_of_getElem? (i := 1) rfl)
theorem dX6_readSemicolon_4 : decode cX6_readSemicolon 4 = .ok (.aload_n 0, 1) := DX6_readSemicolon_0 (4, .aload_n 0, 1) (List.mem_of_getElem? (i := 2) rfl)
theorem dX6_readSemicolon_5 : decode cX6_readSemicolon 5 = .ok (.getfield 54, 3) := DX6_readSemicolon_0 (5, .getfield 54, 3) (List.mem_of_getElem? (i := 3) rfl)
theorem dX6_readSemicolon_8 : decode cX6_readSemicolon 8 = .ok (.iconst 3, 1) := DX6_readSemicolon_0 (8, .iconst 3, 1) (List.mem_of_getElem? (i := 4) rfl)
theorem dX6_readSemicolon_9 : decode cX6_readSemicolon 9 = .ok (.if_icmp .eq 8, 3) := DX6_readSemicolon_0 (9, .if_icmp .eq 8, 3) (List.mem_of_getElem? (i := 5) rfl)
theorem dX6_readSemicolon_12 : decode cX6_readSemicolon 12 = .ok (.aload_n 0, 1) := DX6_readSemicolon_0 (12, .aload_n 0, 1) (List.mem_of_getElem? (i := 6) rfl)
theorem dX6_readSemicolon_13 : decode cX6_readSemicolon 13 = .ok (.iconst 1, 1) := DX6_readSemicolon_0 (13, .iconst 1, 1) (List.mem_of_getElem? (i := 7) rfl)
theorem dX6_readSemicolon_14 : decode cX6_readSemicolon 14 = .ok (.invokevirtual 95, 3) := DX6_readSemicolon_0 (14, .invokevirtual 95, 3) (List.mem_of_getElem? (i := 8) rfl)
theorem dX6_readSemicolon_17 : decode cX6_readSemicolon 17 = .ok (.return_, 1) := DX6_readSemicolon_0 (17, .return_, 1) (List.mem_of_getElem? (i := 9) rfl)
abbrev rmX6_readSemicolon : Room := { frames := 2, cells := 0, slots := 0, locals := 43 }
set_option maxHeartbeats 400000 in
set_option maxRecDepth 100000 in
theorem met_X6_readSemicolon (l : Launch) (D : va_G) (kA : Nat → ClassId) (a : Nat → Nat) (b : Nat) (d : Nat → Nat) (n : Nat) (V0 : Sz) (X0 : Sz) (T2 : Nat → Int) (G : Sz) (hDt : ∀ w : Sz × Sz, va_D (fun _ => True) (cs_X6 kA a w.1 w.2 b (d 0) ++ ([(b, .inl (kA 1, 900, .inl (aI T2)))] ++ (cs_X4 kA d G)))) {Vr : Sz} {Xr : Sz} (hf : f_X6_readSemicolon n V0 X0 T2 G = some (Vr, Xr)) : MZ l yX6_readSemicolon cX6_readSemicolon 1 none rmX6_readSemicolon D kA [.ref (a 0)] (cs_X6 kA a V0 X0 b (d 0) ++ ([(b, .inl (kA 1, 900, .inl (aI T2)))] ++ (cs_X4 kA d G))) (cs_X6 kA a Vr Xr b (d 0) ++ ([(b, .inl (kA 1, 900, .inl (aI T2)))] ++ (cs_X4 kA d G))) (none) := by
  refine zZV (own := RX6) rfl rfl (Nat.le_of_ble_eq_true rfl) ?_
  intro p e s m args below meth c ls Q hC hK hP hl hret
  have hl : lv_has ls 1 [(0, .ref (a 0))] := hl
  have hS : va_S (zF (cs_X6 kA a V0 X0 b (d 0) ++ ([(b, .inl (kA 1, 900, .inl (aI T2)))] ++ (cs_X4 kA d G)))) s.heap s.heap [] := va_S.rf
  have hD := zDself (C := fun w : Sz × Sz => (cs_X6 kA a w.1 w.2 b (d 0) ++ ([(b, .inl (kA 1, 900, .inl (aI T2)))] ++ (cs_X4 kA d G)))) hDt (V0, X0) (fun _ => rfl)
  try dsimp only at hD
  generalize hAe : zF (cs_X6 kA a V0 X0 b (d 0) ++ ([(b, .inl (kA 1, 900, .inl (aI T2)))] ++ (cs_X4 kA d G))) = A0 at hS hD hret
  unfold f_X6_readSemicolon at hf
  refine lv_aload_n hC.1 hC.2.1 dX6_readSemicolon_0 rfl (lv_at hl 0 rfl) <| ?_
  obtain ⟨⟨V_1, X_2⟩, hu, hf⟩ := bd_some hf
  have hDc := hDt
  refine zcVZ (As := []) (rest := []) hC hK (met_X6_advance l D kA a (b) d n V0 X0 T2 G hDc hu) zwX6_51 hS (zFsub (hD (V0, X0)) [0, 1, 2, 3, 4, 5, 6, 7, 8, 9, 10, 11, 12, 13, 14, 15, 16, 17, 18, 19, 20, 21, 22, 23, 24, 25, 26] rfl) hP (q0 := 0) rfl rfl rfl rfl hl.1 rfl (Nat.le_of_ble_eq_true rfl) ⟨Nat.le_of_ble_eq_true rfl, Nat.le_of_ble_eq_true rfl⟩ ⟨rfl, rfl⟩ ⟨Nat.le_refl _, Nat.le_refl _⟩ dX6_readSemicolon_1 (fun H locs hP1 hk1 hS => ?_)
  have hP : va_P D vwCl (cs_X6 kA a V_1 X_2 b (d 0) ++ ([(b, .inl (kA 1, 900, .inl (aI T2)))] ++ (cs_X4 kA d G))) H := hP1
  refine lv_aload_n hC.1 hC.2.1 dX6_readSemicolon_4 rfl (lv_at hl 0 rfl) <| gfX6_54 hC hK hP (q0 := 0) rfl rfl dX6_readSemicolon_5 <| ziconst hC.1 hC.2.1 dX6_readSemicolon_8 <| ?_
  obtain ⟨hz_3, hf⟩ := ck_some hf
  refine zicmp_eq (tgt := 17) hC.1 hC.2.1 ⟨hz_3, (by decide)⟩ dX6_readSemicolon_9 (by decide) (fun hc => ?_) (fun hc => ?_)
  · have hf := it_t hf hc
    have hf := Option.some.inj hf
    simp only [Prod.mk.injEq] at hf
    exact hret _ _ _ _ rfl (by rw [← hf.1, ← hf.2]; exact hP) hS dX6_readSemicolon_17
  · have hf := it_f hf hc
    refine lv_aload_n hC.1 hC.2.1 dX6_readSemicolon_12 rfl (lv_at hl 0 rfl) <| ziconst hC.1 hC.2.1 dX6_readSemicolon_13 <| ?_
    obtain ⟨V_4, hu, hf⟩ := bd_some hf
    have hDc : ∀ w : Sz, va_D (fun _ => True) (cs_X6 kA a w X_2 (b) (d 0) ++ ([((b), .inl (kA 1, 900, .inl (aI T2)))] ++ (cs_X4 kA d G))) := fun w => (hDt (w, X_2)).sub [0, 1, 2, 3, 4, 5, 6, 7, 8, 9, 10, 11, 12, 13, 14, 15, 16, 17, 18, 19, 20, 21, 22, 23, 24, 25, 26] (by decide) rfl
    refine zcVZ (As := [vI 1]) (rest := []) hC hK (met_X6_fail l D kA a (b) d V_1 X_2 T2 G 1 hDc hu) zwX6_95 hS (zFsub (hD (V_1, X_2)) [0, 1, 2, 3, 4, 5, 6, 7, 8, 9, 10, 11, 12, 13, 14, 15, 16, 17, 18, 19, 20, 21, 22, 23, 24, 25, 26] rfl) hP (q0 := 0) rfl rfl rfl rfl hl.1 rfl (Nat.le_of_ble_eq_true rfl) ⟨Nat.le_of_ble_eq_true rfl, Nat.le_of_ble_eq_true rfl⟩ ⟨rfl, rfl⟩ ⟨Nat.le_refl _, Nat.le_refl _⟩ dX6_readSemicolon_14 (fun H locs hP1 hk1 hS => ?_)
    have hP : va_P D vwCl (cs_X6 kA a V_4 X_2 b (d 0) ++ ([(b, .inl (kA 1, 900, .inl (aI T2)))] ++ (cs_X4 kA d G))) H := hP1
    have hf := Option.some.inj hf
    simp only [Prod.mk.injEq] at hf
    exact hret _ _ _ _ rfl (by rw [← hf.1, ← hf.2]; exact hP) hS dX6_readSemicolon_17
theorem DX6_readRules_0 : ∀ q ∈ ([(0, .aload_n 0, 1), (1, .getfield 42, 3), (4, .ifCond .ne 16, 3), (7, .aload_n 0, 1), (8, .getfield 19, 3), (11, .getfield 129, 3), (14, .getfield 148, 3), (17, .ifCond .le 8, 3), (20, .aload_n 0, 1), (21, .iconst 4, 1), (22, .invokevirtual 95, 3), (25, .aload_n 0, 1), (26, .iconst 1, 1), (27, .putfield 42, 3), (30, .aload_n 0, 1), (31, .getfield 19, 3), (34, .aload_n 0, 1), (35, .iconst 0, 1), (36, .bipush 100, 2), (38, .invokevirtual 106, 3), (41, .putfield 151, 3), (44, .aload_n 0, 1), (45, .getfield 19, 3), (48, .aload_n 0, 1), (49, .iconst 0, 1), (50, .sipush 9999, 3), (53, .invokevirtual 106, 3), (56, .putfield 154, 3), (59, .aload_n 0, 1), (60, .getfield 19, 3), (63, .aload_n 0, 1), (64, .iconst 0, 1), (65, .bipush 100, 2), (67, .invokevirtual 106, 3), (70, .putfield 157, 3), (73, .aload_n 0, 1), (74, .invokevirtual 87, 3), (77, .return_, 1)] : List (Nat × Instr × Nat)), decode cX6_readRules q.1 = .ok q.2 := by decide +kernel
theorem dX6_readRules_0 : decode cX6_readRules 0 = .ok (.aload_n 0, 1) := DX6_readRules_0 (0, .aload_n 0, 1) (List.mem_of_getElem? (i := 0) rfl)
theorem dX6_readRules_1 : decode cX6_readRules 1 = .ok (.getfield 42, 3) := DX6_readRules_0 (1, .getfield 42, 3) (List.mem_of_getElem? (i := 1) rfl)
theorem dX6_readRules_4 : decode cX6_readRules 4 = .ok (.ifCond .ne 16, 3) := DX6_readRules_0 (4, .ifCond .ne 16, 3) (List.mem_of_getElem? (i := 2) rfl)
theorem dX6_readRules_7 : decode cX6_readRules 7 = .ok (.aload_n 0, 1) := DX6_readRules_0 (7, .aload_n 0, 1) (List.mem_of_getElem? (i := 3) rfl)
theorem dX6_readRules_8 : decode cX6_readRules 8 = .ok (.getfield 19, 3) := DX6_readRules_0 (8, .getfield 19, 3) (List.mem_of_getElem? (i := 4) rfl)
theorem dX6_readRules_11 : decode cX6_readRules 11 = .ok (.getfield 129, 3) := DX6_readRules_0 (11, .getfield 129, 3) (List.mem_of_getElem? (i := 5) rfl)
theorem dX6_readRules_14 : decode cX6_readRules 14 = .ok (.getfield 148, 3) := DX6_readRules_0 (14, .getfield 148, 3) (List.mem_of_getElem? (i := 6) rfl)
theorem dX6_readRules_17 : decode cX6_readRules 17 = .ok (.ifCond .le 8, 3) := DX6_readRules_0 (17, .ifCond .le 8, 3) (List.mem_of_getElem? (i := 7) rfl)
theorem dX6_readRules_20 : decode cX6_readRules 20 = .ok (.aload_n 0, 1) := DX6_readRules_0 (20, .aload_n 0, 1) (List.mem_of_getElem? (i := 8) rfl)
theorem dX6_readRules_21 : decode cX6_readRules 21 = .ok (.iconst 4, 1) := DX6_readRules_0 (21, .iconst 4, 1) (List.mem_of_getElem? (i := 9) rfl)
theorem dX6_readRules_22 : decode cX6_readRules 22 = .ok (.invokevirtual 95, 3) := DX6_readRules_0 (22, .invokevirtual 95, 3) (List.mem_of_getElem? (i := 10) rfl)
theorem dX6_readRules_25 : decode cX6_readRules 25 = .ok (.aload_n 0, 1) := DX6_readRules_0 (25, .aload_n 0, 1) (List.mem_of_getElem? (i := 11) rfl)
theorem dX6_readRules_26 : decode cX6_readRules 26 = .ok (.iconst 1, 1) := DX6_readRules_0 (26, .iconst 1, 1) (List.mem_of_getElem? (i := 12) rfl)
theorem dX6_readRules_27 : decode cX6_readRules 27 = .ok (.putfield 42, 3) := DX6_readRules_0 (27, .putfield 42, 3) (List.mem_of_getElem? (i := 13) rfl)
theorem dX6_readRules_30 : decode cX6_readRules 30 = .ok (.aload_n 0, 1) := DX6_readRules_0 (30, .aload_n 0, 1) (List.mem_of_getElem? (i := 14) rfl)
theorem dX6_readRules_31 : decode cX6_readRules 31 = .ok (.getfield 19, 3) := DX6_readRules_0 (31, .getfield 19, 3) (List.mem_of_getElem? (i := 15) rfl)
theorem dX6_readRules_34 : decode cX6_readRules 34 = .ok (.aload_n 0, 1) := DX6_readRules_0 (34, .aload_n 0, 1) (List.mem_of_getElem? (i := 16) rfl)
theorem dX6_readRules_35 : decode cX6_readRules 35 = .ok (.iconst 0, 1) := DX6_readRules_0 (35, .iconst 0, 1) (List.mem_of_getElem? (i := 17) rfl)
theorem dX6_readRules_36 : decode cX6_readRules 36 = .ok (.bipush 100, 2) := DX6_readRules_0 (36, .bipush 100, 2) (List.mem_of_getElem? (i := 18) rfl)
theorem dX6_readRules_38 : decode cX6_readRules 38 = .ok (.invokevirtual 106, 3) := DX6_readRules_0 (38, .invokevirtual 106, 3) (List.mem_of_getElem? (i := 19) rfl)
theorem dX6_readRules_41 : decode cX6_readRules 41 = .ok (.putfield 151, 3) := DX6_readRules_0 (41, .putfield 151, 3) (List.mem_of_getElem? (i := 20) rfl)
theorem dX6_readRules_44 : decode cX6_readRules 44 = .ok (.aload_n 0, 1) := DX6_readRules_0 (44, .aload_n 0, 1) (List.mem_of_getElem? (i := 21) rfl)
theorem dX6_readRules_45 : decode cX6_readRules 45 = .ok (.getfield 19, 3) := DX6_readRules_0 (45, .getfield 19, 3) (List.mem_of_getElem? (i := 22) rfl)
theorem dX6_readRules_48 : decode cX6_readRules 48 = .ok (.aload_n 0, 1) := DX6_readRules_0 (48, .aload_n 0, 1) (List.mem_of_getElem? (i := 23) rfl)
theorem dX6_readRules_49 : decode cX6_readRules 49 = .ok (.iconst 0, 1) := DX6_readRules_0 (49, .iconst 0, 1) (List.mem_of_getElem? (i := 24) rfl)
theorem dX6_readRules_50 : decode cX6_readRules 50 = .ok (.sipush 9999, 3) := DX6_readRules_0 (50, .sipush 9999, 3) (List.mem_of_getElem? (i := 25) rfl)
theorem dX6_readRules_53 : decode cX6_readRules 53 = .ok (.invokevirtual 106, 3) := DX6_readRules_0 (53, .invokevirtual 106, 3) (List.mem_of_getElem? (i := 26) rfl)
theorem dX6_readRules_56 : decode cX6_readRules 56 = .ok (.putfield 154, 3) := DX6_readRules_0 (56, .putfield 154, 3) (List.mem_of_getElem? (i := 27) rfl)
theorem dX6_readRules_59 : decode cX6_readRules 59 = .ok (.aload_n 0, 1) := DX6_readRules_0 (59, .aload_n 0, 1) (List.mem_of_getElem? (i := 28) rfl)
theorem dX6_readRules_60 : decode cX6_readRules 60 = .ok (.getfield 19, 3) := DX6_readRules_0 (60, .getfield 19, 3) (List.mem_of_getElem? (i := 29) rfl)
theorem dX6_readRules_63 : decode cX6_readRules 63 = .ok (.aload_n 0, 1) := DX6_readRules_0 (63, .aload_n 0, 1) (List.mem_of_getElem? (i := 30) rfl)
theorem dX6_readRules_64 : decode cX6_readRules 64 = .ok (.iconst 0, 1) := DX6_readRules_0 (64, .iconst 0, 1) (List.mem_of_getElem? (i := 31) rfl)
theorem dX6_readRules_65 : decode cX6_readRules 65 = .ok (.bipush 100, 2) := DX6_readRules_0 (65, .bipush 100, 2) (List.mem_of_getElem? (i := 32) rfl)
theorem dX6_readRules_67 : decode cX6_readRules 67 = .ok (.invokevirtual 106, 3) := DX6_readRules_0 (67, .invokevirtual 106, 3) (List.mem_of_getElem? (i := 33) rfl)
theorem dX6_readRules_70 : decode cX6_readRules 70 = .ok (.putfield 157, 3) := DX6_readRules_0 (70, .putfield 157, 3) (List.mem_of_getElem? (i := 34) rfl)
theorem dX6_readRules_73 : decode cX6_readRules 73 = .ok (.aload_n 0, 1) := DX6_readRules_0 (73, .aload_n 0, 1) (List.mem_of_getElem? (i := 35) rfl)
theorem dX6_readRules_74 : decode cX6_readRules 74 = .ok (.invokevirtual 87, 3) := DX6_readRules_0 (74, .invokevirtual 87, 3) (List.mem_of_getElem? (i := 36) rfl)
theorem dX6_readRules_77 : decode cX6_readRules 77 = .ok (.return_, 1) := DX6_readRules_0 (77, .return_, 1) (List.mem_of_getElem? (i := 37) rfl)
abbrev rmX6_readRules : Room := { frames := 3, cells := 0, slots := 0, locals := 67 }
set_option maxHeartbeats 400000 in
set_option maxRecDepth 100000 in
theorem met_X6_readRules (l : Launch) (D : va_G) (kA : Nat → ClassId) (a : Nat → Nat) (b : Nat) (d : Nat → Nat) (n : Nat) (V0 : Sz) (X0 : Sz) (T2 : Nat → Int) (G0 : Sz) (hDt : ∀ w : Sz × Sz × Sz, va_D (fun _ => True) (cs_X6 kA a w.1 w.2.1 b (d 0) ++ ([(b, .inl (kA 1, 900, .inl (aI T2)))] ++ (cs_X4 kA d w.2.2)))) {Vr : Sz} {Xr : Sz} {Gr : Sz} (hf : f_X6_readRules n V0 X0 T2 G0 = some (Vr, Xr, Gr)) : MZ l yX6_readRules cX6_readRules 1 none rmX6_readRules D kA [.ref (a 0)] (cs_X6 kA a V0 X0 b (d 0) ++ ([(b, .inl (kA 1, 900, .inl (aI T2)))] ++ (cs_X4 kA d G0))) (cs_X6 kA a Vr Xr b (d 0) ++ ([(b, .inl (kA 1, 900, .inl (aI T2)))] ++ (cs_X4 kA d Gr))) (none) := by
  refine zZV (own := RX6) rfl rfl (Nat.le_of_ble_eq_true rfl) ?_
  intro p e s m args below meth c ls Q hC hK hP hl hret
  have hl : lv_has ls 1 [(0, .ref (a 0))] := hl
  have hS : va_S (zF (cs_X6 kA a V0 X0 b (d 0) ++ ([(b, .inl (kA 1, 900, .inl (aI T2)))] ++ (cs_X4 kA d G0)))) s.heap s.heap [] := va_S.rf
  have hD := zDself (C := fun w : Sz × Sz × Sz => (cs_X6 kA a w.1 w.2.1 b (d 0) ++ ([(b, .inl (kA 1, 900, .inl (aI T2)))] ++ (cs_X4 kA d w.2.2)))) hDt (V0, X0, G0) (fun _ => rfl)
  try dsimp only at hD
  generalize hAe : zF (cs_X6 kA a V0 X0 b (d 0) ++ ([(b, .inl (kA 1, 900, .inl (aI T2)))] ++ (cs_X4 kA d G0))) = A0 at hS hD hret
  unfold f_X6_readRules at hf
  have J25 : ∀ (V : Sz) (X : Sz) (G : Sz) (H : Heap) (locs : List Loc) (ls : Array Slot), jX6_readRules_25 n T2 V X G = some (Vr, Xr, Gr) → va_P D vwCl (cs_X6 kA a V X b (d 0) ++ ([(b, .inl (kA 1, 900, .inl (aI T2)))] ++ (cs_X4 kA d G))) H → va_S A0 s.heap H locs → lv_has ls 1 [(0, .ref (a 0))] → W p l e rmX6_readRules s m args below meth c H locs 0 0 Q (F0 m 25 ls []) := by
    intro V X G H locs ls hf hP hS hl
    unfold jX6_readRules_25 at hf
    refine lv_aload_n hC.1 hC.2.1 dX6_readRules_25 rfl (lv_at hl 0 rfl) <| ziconst hC.1 hC.2.1 dX6_readRules_26 <| ?_
    refine pfX6_42 hC hK hP (hD (V, X, G)) hS (q0 := 0) rfl (Nat.le_of_ble_eq_true rfl) (Or.inr rfl) dX6_readRules_27 (fun H locs hP hS => ?_)
    obtain ⟨V_3, eV_3⟩ : ∃ y, y = us V 6 1 := ⟨_, rfl⟩
    have hf := nm_at hf eV_3
    have hP : va_P D vwCl (cs_X6 kA a V_3 X b (d 0) ++ ([(b, .inl (kA 1, 900, .inl (aI T2)))] ++ (cs_X4 kA d G))) H := by rw [eV_3]; exact hP
    refine lv_aload_n hC.1 hC.2.1 dX6_readRules_30 rfl (lv_at hl 0 rfl) <| gfX6_19 hC hK hP (q0 := 0) rfl rfl dX6_readRules_31 <| lv_aload_n hC.1 hC.2.1 dX6_readRules_34 rfl (lv_at hl 0 rfl) <| ziconst hC.1 hC.2.1 dX6_readRules_35 <| zbipush hC.1 hC.2.1 dX6_readRules_36 (by decide) <| ?_
    obtain ⟨⟨r_4, V_5, X_6⟩, hu, hf⟩ := bd_some hf
    have hDc : ∀ w : Sz × Sz, va_D (fun _ => True) (cs_X6 kA a w.1 w.2 (b) (d 0) ++ ([((b), .inl (kA 1, 900, .inl (aI T2)))] ++ (cs_X4 kA d G))) := fun w => (hDt (w.1, w.2, G)).sub [0, 1, 2, 3, 4, 5, 6, 7, 8, 9, 10, 11, 12, 13, 14, 15, 16, 17, 18, 19, 20, 21, 22, 23, 24, 25, 26] (by decide) rfl
    refine zcVZ (As := [vI 0, vI 100]) (rest := [.ref (d 0)]) hC hK (met_X6_readNumber l D kA a (b) d n V_3 X T2 G 0 100 hDc hu) zwX6_106 hS (zFsub (hD (V_3, X, G)) [0, 1, 2, 3, 4, 5, 6, 7, 8, 9, 10, 11, 12, 13, 14, 15, 16, 17, 18, 19, 20, 21, 22, 23, 24, 25, 26] rfl) hP (q0 := 0) rfl rfl rfl rfl hl.1 rfl (Nat.le_of_ble_eq_true rfl) ⟨Nat.le_of_ble_eq_true rfl, Nat.le_of_ble_eq_true rfl⟩ ⟨rfl, rfl⟩ ⟨Nat.le_refl _, Nat.le_refl _⟩ dX6_readRules_38 (fun H locs hP1 hk1 hS => ?_)
    have hP : va_P D vwCl (cs_X6 kA a V_5 X_6 b (d 0) ++ ([(b, .inl (kA 1, 900, .inl (aI T2)))] ++ (cs_X4 kA d G))) H := hP1
    refine pfX6_151 hC hK hP (hD (V_5, X_6, G)) hS (q0 := 3) rfl (Nat.le_of_ble_eq_true rfl) dX6_readRules_41 (fun H locs hP hS => ?_)
    obtain ⟨G_7, eG_7⟩ : ∃ y, y = us G 0 r_4 := ⟨_, rfl⟩
    have hf := nm_at hf eG_7
    have hP : va_P D vwCl (cs_X6 kA a V_5 X_6 b (d 0) ++ ([(b, .inl (kA 1, 900, .inl (aI T2)))] ++ (cs_X4 kA d G_7))) H := by rw [eG_7]; exact hP
    refine lv_aload_n hC.1 hC.2.1 dX6_readRules_44 rfl (lv_at hl 0 rfl) <| gfX6_19 hC hK hP (q0 := 0) rfl rfl dX6_readRules_45 <| lv_aload_n hC.1 hC.2.1 dX6_readRules_48 rfl (lv_at hl 0 rfl) <| ziconst hC.1 hC.2.1 dX6_readRules_49 <| zsipush hC.1 hC.2.1 dX6_readRules_50 (by decide) <| ?_
    obtain ⟨⟨r_8, V_9, X_10⟩, hu, hf⟩ := bd_some hf
    have hDc : ∀ w : Sz × Sz, va_D (fun _ => True) (cs_X6 kA a w.1 w.2 (b) (d 0) ++ ([((b), .inl (kA 1, 900, .inl (aI T2)))] ++ (cs_X4 kA d G_7))) := fun w => (hDt (w.1, w.2, G_7)).sub [0, 1, 2, 3, 4, 5, 6, 7, 8, 9, 10, 11, 12, 13, 14, 15, 16, 17, 18, 19, 20, 21, 22, 23, 24, 25, 26] (by decide) rfl
    refine zcVZ (As := [vI 0, vI 9999]) (rest := [.ref (d 0)]) hC hK (met_X6_readNumber l D kA a (b) d n V_5 X_6 T2 G_7 0 9999 hDc hu) zwX6_106 hS (zFsub (hD (V_5, X_6, G_7)) [0, 1, 2, 3, 4, 5, 6, 7, 8, 9, 10, 11, 12, 13, 14, 15, 16, 17, 18, 19, 20, 21, 22, 23, 24, 25, 26] rfl) hP (q0 := 0) rfl rfl rfl rfl hl.1 rfl (Nat.le_of_ble_eq_true rfl) ⟨Nat.le_of_ble_eq_true rfl, Nat.le_of_ble_eq_true rfl⟩ ⟨rfl, rfl⟩ ⟨Nat.le_refl _, Nat.le_refl _⟩ dX6_readRules_53 (fun H locs hP1 hk1 hS => ?_)
    have hP : va_P D vwCl (cs_X6 kA a V_9 X_10 b (d 0) ++ ([(b, .inl (kA 1, 900, .inl (aI T2)))] ++ (cs_X4 kA d G_7))) H := hP1
    refine pfX6_154 hC hK hP (hD (V_9, X_10, G_7)) hS (q0 := 3) rfl (Nat.le_of_ble_eq_true rfl) dX6_readRules_56 (fun H locs hP hS => ?_)
    obtain ⟨G_11, eG_11⟩ : ∃ y, y = us G_7 1 r_8 := ⟨_, rfl⟩
    have hf := nm_at hf eG_11
    have hP : va_P D vwCl (cs_X6 kA a V_9 X_10 b (d 0) ++ ([(b, .inl (kA 1, 900, .inl (aI T2)))] ++ (cs_X4 kA d G_11))) H := by rw [eG_11]; exact hP
    refine lv_aload_n hC.1 hC.2.1 dX6_readRules_59 rfl (lv_at hl 0 rfl) <| gfX6_19 hC hK hP (q0 := 0) rfl rfl dX6_readRules_60 <| lv_aload_n hC.1 hC.2.1 dX6_readRules_63 rfl (lv_at hl 0 rfl) <| ziconst hC.1 hC.2.1 dX6_readRules_64 <| zbipush hC.1 hC.2.1 dX6_readRules_65 (by decide) <| ?_
    obtain ⟨⟨r_12, V_13, X_14⟩, hu, hf⟩ := bd_some hf
    have hDc : ∀ w : Sz × Sz, va_D (fun _ => True) (cs_X6 kA a w.1 w.2 (b) (d 0) ++ ([((b), .inl (kA 1, 900, .inl (aI T2)))] ++ (cs_X4 kA d G_11))) := fun w => (hDt (w.1, w.2, G_11)).sub [0, 1, 2, 3, 4, 5, 6, 7, 8, 9, 10, 11, 12, 13, 14, 15, 16, 17, 18, 19, 20, 21, 22, 23, 24, 25, 26] (by decide) rfl
    refine zcVZ (As := [vI 0, vI 100]) (rest := [.ref (d 0)]) hC hK (met_X6_readNumber l D kA a (b) d n V_9 X_10 T2 G_11 0 100 hDc hu) zwX6_106 hS (zFsub (hD (V_9, X_10, G_11)) [0, 1, 2, 3, 4, 5, 6, 7, 8, 9, 10, 11, 12, 13, 14, 15, 16, 17, 18, 19, 20, 21, 22, 23, 24, 25, 26] rfl) hP (q0 := 0) rfl rfl rfl rfl hl.1 rfl (Nat.le_of_ble_eq_true rfl) ⟨Nat.le_of_ble_eq_true rfl, Nat.le_of_ble_eq_true rfl⟩ ⟨rfl, rfl⟩ ⟨Nat.le_refl _, Nat.le_refl _⟩ dX6_readRules_67 (fun H locs hP1 hk1 hS => ?_)
    have hP : va_P D vwCl (cs_X6 kA a V_13 X_14 b (d 0) ++ ([(b, .inl (kA 1, 900, .inl (aI T2)))] ++ (cs_X4 kA d G_11))) H := hP1
    refine pfX6_157 hC hK hP (hD (V_13, X_14, G_11)) hS (q0 := 3) rfl (Nat.le_of_ble_eq_true rfl) dX6_readRules_70 (fun H locs hP hS => ?_)
    obtain ⟨G_15, eG_15⟩ : ∃ y, y = us G_11 2 r_12 := ⟨_, rfl⟩
    have hf := nm_at hf eG_15
    have hP : va_P D vwCl (cs_X6 kA a V_13 X_14 b (d 0) ++ ([(b, .inl (kA 1, 900, .inl (aI T2)))] ++ (cs_X4 kA d G_15))) H := by rw [eG_15]; exact hP
    refine lv_aload_n hC.1 hC.2.1 dX6_readRules_73 rfl (lv_at hl 0 rfl) <| ?_
    obtain ⟨⟨V_16, X_17⟩, hu, hf⟩ := bd_some hf
    have hDc : ∀ w : Sz × Sz, va_D (fun _ => True) (cs_X6 kA a w.1 w.2 (b) (d 0) ++ ([((b), .inl (kA 1, 900, .inl (aI T2)))] ++ (cs_X4 kA d G_15))) := fun w => (hDt (w.1, w.2, G_15)).sub [0, 1, 2, 3, 4, 5, 6, 7, 8, 9, 10, 11, 12, 13, 14, 15, 16, 17, 18, 19, 20, 21, 22, 23, 24, 25, 26] (by decide) rfl
    refine zcVZ (As := []) (rest := []) hC hK (met_X6_readSemicolon l D kA a (b) d n V_13 X_14 T2 G_15 hDc hu) zwX6_87 hS (zFsub (hD (V_13, X_14, G_15)) [0, 1, 2, 3, 4, 5, 6, 7, 8, 9, 10, 11, 12, 13, 14, 15, 16, 17, 18, 19, 20, 21, 22, 23, 24, 25, 26] rfl) hP (q0 := 0) rfl rfl rfl rfl hl.1 rfl (Nat.le_of_ble_eq_true rfl) ⟨Nat.le_of_ble_eq_true rfl, Nat.le_of_ble_eq_true rfl⟩ ⟨rfl, rfl⟩ ⟨Nat.le_refl _, Nat.le_refl _⟩ dX6_readRules_74 (fun H locs hP1 hk1 hS => ?_)
    have hP : va_P D vwCl (cs_X6 kA a V_16 X_17 b (d 0) ++ ([(b, .inl (kA 1, 900, .inl (aI T2)))] ++ (cs_X4 kA d G_15))) H := hP1
    have hf := Option.some.inj hf
    simp only [Prod.mk.injEq] at hf
    exact hret _ _ _ _ rfl (by rw [← hf.1, ← hf.2.1, ← hf.2.2]; exact hP) hS dX6_readRules_77
  have J20 : ∀ (V : Sz) (X : Sz) (G : Sz) (H : Heap) (locs : List Loc) (ls : Array Slot), jX6_readRules_20 n T2 V X G = some (Vr, Xr, Gr) → va_P D vwCl (cs_X6 kA a V X b (d 0) ++ ([(b, .inl (kA 1, 900, .inl (aI T2)))] ++ (cs_X4 kA d G))) H → va_S A0 s.heap H locs → lv_has ls 1 [(0, .ref (a 0))] → W p l e rmX6_readRules s m args below meth c H locs 0 0 Q (F0 m 20 ls []) := by
    intro V X G H locs ls hf hP hS hl
    unfold jX6_readRules_20 at hf
    refine lv_aload_n hC.1 hC.2.1 dX6_readRules_20 rfl (lv_at hl 0 rfl) <| ziconst hC.1 hC.2.1 dX6_readRules_21 <| ?_
    obtain ⟨V_2, hu, hf⟩ := bd_some hf
    have hDc : ∀ w : Sz, va_D (fun _ => True) (cs_X6 kA a w X (b) (d 0) ++ ([((b), .inl (kA 1, 900, .inl (aI T2)))] ++ (cs_X4 kA d G))) := fun w => (hDt (w, X, G)).sub [0, 1, 2, 3, 4, 5, 6, 7, 8, 9, 10, 11, 12, 13, 14, 15, 16, 17, 18, 19, 20, 21, 22, 23, 24, 25, 26] (by decide) rfl
    refine zcVZ (As := [vI 4]) (rest := []) hC hK (met_X6_fail l D kA a (b) d V X T2 G 4 hDc hu) zwX6_95 hS (zFsub (hD (V, X, G)) [0, 1, 2, 3, 4, 5, 6, 7, 8, 9, 10, 11, 12, 13, 14, 15, 16, 17, 18, 19, 20, 21, 22, 23, 24, 25, 26] rfl) hP (q0 := 0) rfl rfl rfl rfl hl.1 rfl (Nat.le_of_ble_eq_true rfl) ⟨Nat.le_of_ble_eq_true rfl, Nat.le_of_ble_eq_true rfl⟩ ⟨rfl, rfl⟩ ⟨Nat.le_refl _, Nat.le_refl _⟩ dX6_readRules_22 (fun H locs hP1 hk1 hS => ?_)
    have hP : va_P D vwCl (cs_X6 kA a V_2 X b (d 0) ++ ([(b, .inl (kA 1, 900, .inl (aI T2)))] ++ (cs_X4 kA d G))) H := hP1
    exact J25 _ _ _ _ _ _ hf hP hS (lv_sub hl [0] rfl)
  refine lv_aload_n hC.1 hC.2.1 dX6_readRules_0 rfl (lv_at hl 0 rfl) <| gfX6_42 hC hK hP (q0 := 0) rfl rfl dX6_readRules_1 <| ?_
  obtain ⟨hz_1, hf⟩ := ck_some hf
  refine zif_ne (tgt := 20) hC.1 hC.2.1 hz_1 dX6_readRules_4 (by decide) (fun hc => ?_) (fun hc => ?_)
  · have hf := it_f hf hc
    exact J20 _ _ _ _ _ _ hf hP hS (lv_sub hl [0] rfl)
  · have hf := it_t hf hc
    refine lv_aload_n hC.1 hC.2.1 dX6_readRules_7 rfl (lv_at hl 0 rfl) <| gfX6_19 hC hK hP (q0 := 0) rfl rfl dX6_readRules_8 <| gfX6_129 hC hK hP (q0 := 3) rfl rfl dX6_readRules_11 <| gfX6_148 hC hK hP (q0 := 9) rfl rfl dX6_readRules_14 <| ?_
    obtain ⟨hz_18, hf⟩ := ck_some hf
    refine zif_le (tgt := 25) hC.1 hC.2.1 hz_18 dX6_readRules_17 (by decide) (fun hc => ?_) (fun hc => ?_)
    · have hf := it_t hf hc
      exact J25 _ _ _ _ _ _ hf hP hS (lv_sub hl [0] rfl)
    · have hf := it_f hf hc
      exact J20 _ _ _ _ _ _ hf hP hS (lv_sub hl [0] rfl)
theorem DX6_readGiftHead_0 : ∀ q ∈ ([(0, .aload_n 0, 1), (1, .getfield 19, 3), (4, .getfield 129, 3), (7, .invokevirtual 142, 3), (10, .ifCond .eq 8, 3), (13, .aload_n 0, 1), (14, .iconst 4, 1), (15, .invokevirtual 95, 3), (18, .aload_n 0, 1), (19, .iconst 0, 1), (20, .sipush 9999, 3), (23, .invokevirtual 106, 3), (26, .istore_n 1, 1), (27, .aload_n 0, 1), (28, .iconst 1, 1), (29, .ldc 105, 2), (31, .invokevirtual 106, 3), (34, .istore_n 2, 1), (35, .aload_n 0, 1), (36, .iconst 0, 1), (37, .ldc 105, 2), (39, .invokevirtual 106, 3), (42, .istore_n 3, 1), (43, .aload_n 0, 1), (44, .getfield 36, 3), (47, .ifCond .ne 19, 3), (50, .aload_n 0, 1), (51, .getfield 19, 3), (54, .getfield 129, 3), (57, .iload_n 1, 1), (58, .iload_n 2, 1), (59, .iload_n 3, 1), (60, .invokevirtual 143, 3), (63, .goto 4, 3), (66, .iconst (-1), 1), (67, .ireturn, 1)] : List (Nat × Instr × Nat)), decode cX6_readGiftHead q.1 = .ok q.2 := by decide +kernel
theorem dX6_readGiftHead_0 : decode cX6_readGiftHead 0 = .ok (.aload_n 0, 1) := DX6_readGiftHead_0 (0, .aload_n 0, 1) (List.mem_of_getElem? (i := 0) rfl)
theorem dX6_readGiftHead_1 : decode cX6_readGiftHead 1 = .ok (.getfield 19, 3) := DX6_readGiftHead_0 (1, .getfield 19, 3) (List.mem_of_getElem? (i := 1) rfl)
theorem dX6_readGiftHead_4 : decode cX6_readGiftHead 4 = .ok (.getfield 129, 3) := DX6_readGiftHead_0 (4, .getfield 129, 3) (List.mem_of_getElem? (i := 2) rfl)
theorem dX6_readGiftHead_7 : decode cX6_readGiftHead 7 = .ok (.invokevirtual 142, 3) := DX6_readGiftHead_0 (7, .invokevirtual 142, 3) (List.mem_of_getElem? (i := 3) rfl)
theorem dX6_readGiftHead_10 : decode cX6_readGiftHead 10 = .ok (.ifCond .eq 8, 3) := DX6_readGiftHead_0 (10, .ifCond .eq 8, 3) (List.mem_of_getElem? (i := 4) rfl)
theorem dX6_readGiftHead_13 : decode cX6_readGiftHead 13 = .ok (.aload_n 0, 1) := DX6_readGiftHead_0 (13, .aload_n 0, 1) (List.mem_of_getElem? (i := 5) rfl)
theorem dX6_readGiftHead_14 : decode cX6_readGiftHead 14 = .ok (.iconst 4, 1) := DX6_readGiftHead_0 (14, .iconst 4, 1) (List.mem_of_getElem? (i := 6) rfl)
theorem dX6_readGiftHead_15 : decode cX6_readGiftHead 15 = .ok (.invokevirtual 95, 3) := DX6_readGiftHead_0 (15, .invokevirtual 95, 3) (List.mem_of_getElem? (i := 7) rfl)
theorem dX6_readGiftHead_18 : decode cX6_readGiftHead 18 = .ok (.aload_n 0, 1) := DX6_readGiftHead_0 (18, .aload_n 0, 1) (List.mem_of_getElem? (i := 8) rfl)
theorem dX6_readGiftHead_19 : decode cX6_readGiftHead 19 = .ok (.iconst 0, 1) := DX6_readGiftHead_0 (19, .iconst 0, 1) (List.mem_of_getElem? (i := 9) rfl)
theorem dX6_readGiftHead_20 : decode cX6_readGiftHead 20 = .ok (.sipush 9999, 3) := DX6_readGiftHead_0 (20, .sipush 9999, 3) (List.mem_of_getElem? (i := 10) rfl)
theorem dX6_readGiftHead_23 : decode cX6_readGiftHead 23 = .ok (.invokevirtual 106, 3) := DX6_readGiftHead_0 (23, .invokevirtual 106, 3) (List.mem_of_getElem? (i := 11) rfl)
theorem dX6_readGiftHead_26 : decode cX6_readGiftHead 26 = .ok (.istore_n 1, 1) := DX6_readGiftHead_0 (26, .istore_n 1, 1) (List.mem_of_getElem? (i := 12) rfl)
theorem dX6_readGiftHead_27 : decode cX6_readGiftHead 27 = .ok (.aload_n 0, 1) := DX6_readGiftHead_0 (27, .aload_n 0, 1) (List.mem_of_getElem? (i := 13) rfl)
theorem dX6_readGiftHead_28 : decode cX6_readGiftHead 28 = .ok (.iconst 1, 1) := DX6_readGiftHead_0 (28, .iconst 1, 1) (List.mem_of_getElem? (i := 14) rfl)
theorem dX6_readGiftHead_29 : decode cX6_readGiftHead 29 = .ok (.ldc 105, 2) := DX6_readGiftHead_0 (29, .ldc 105, 2) (List.mem_of_getElem? (i := 15) rfl)
theorem dX6_readGiftHead_31 : decode cX6_readGiftHead 31 = .ok (.invokevirtual 106, 3) := DX6_readGiftHead_0 (31, .invokevirtual 106, 3) (List.mem_of_getElem? (i := 16) rfl)
theorem dX6_readGiftHead_34 : decode cX6_readGiftHead 34 = .ok (.istore_n 2, 1) := DX6_readGiftHead_0 (34, .istore_n 2, 1) (List.mem_of_getElem? (i := 17) rfl)
theorem dX6_readGiftHead_35 : decode cX6_readGiftHead 35 = .ok (.aload_n 0, 1) := DX6_readGiftHead_0 (35, .aload_n 0, 1) (List.mem_of_getElem? (i := 18) rfl)
theorem dX6_readGiftHead_36 : decode cX6_readGiftHead 36 = .ok (.iconst 0, 1) := DX6_readGiftHead_0 (36, .iconst 0, 1) (List.mem_of_getElem? (i := 19) rfl)
theorem dX6_readGiftHead_37 : decode cX6_readGiftHead 37 = .ok (.ldc 105, 2) := DX6_readGiftHead_0 (37, .ldc 105, 2) (List.mem_of_getElem? (i := 20) rfl)
theorem dX6_readGiftHead_39 : decode cX6_readGiftHead 39 = .ok (.invokevirtual 106, 3) := DX6_readGiftHead_0 (39, .invokevirtual 106, 3) (List.mem_of_getElem? (i := 21) rfl)
theorem dX6_readGiftHead_42 : decode cX6_readGiftHead 42 = .ok (.istore_n 3, 1) := DX6_readGiftHead_0 (42, .istore_n 3, 1) (List.mem_of_getElem? (i := 22) rfl)
theorem dX6_readGiftHead_43 : decode cX6_readGiftHead 43 = .ok (.aload_n 0, 1) := DX6_readGiftHead_0 (43, .aload_n 0, 1) (List.mem_of_getElem? (i := 23) rfl)
theorem dX6_readGiftHead_44 : decode cX6_readGiftHead 44 = .ok (.getfield 36, 3) := DX6_readGiftHead_0 (44, .getfield 36, 3) (List.mem_of_getElem? (i := 24) rfl)
theorem dX6_readGiftHead_47 : decode cX6_readGiftHead 47 = .ok (.ifCond .ne 19, 3) := DX6_readGiftHead_0 (47, .ifCond .ne 19, 3) (List.mem_of_getElem? (i := 25) rfl)
theorem dX6_readGiftHead_50 : decode cX6_readGiftHead 50 = .ok (.aload_n 0, 1) := DX6_readGiftHead_0 (50, .aload_n 0, 1) (List.mem_of_getElem? (i := 26) rfl)
theorem dX6_readGiftHead_51 : decode cX6_readGiftHead 51 = .ok (.getfield 19, 3) := DX6_readGiftHead_0 (51, .getfield 19, 3) (List.mem_of_getElem? (i := 27) rfl)
theorem dX6_readGiftHead_54 : decode cX6_readGiftHead 54 = .ok (.getfield 129, 3) := DX6_readGiftHead_0 (54, .getfield 129, 3) (List.mem_of_getElem? (i := 28) rfl)
theorem dX6_readGiftHead_57 : decode cX6_readGiftHead 57 = .ok (.iload_n 1, 1) := DX6_readGiftHead_0 (57, .iload_n 1, 1) (List.mem_of_getElem? (i := 29) rfl)
theorem dX6_readGiftHead_58 : decode cX6_readGiftHead 58 = .ok (.iload_n 2, 1) := DX6_readGiftHead_0 (58, .iload_n 2, 1) (List.mem_of_getElem? (i := 30) rfl)
theorem dX6_readGiftHead_59 : decode cX6_readGiftHead 59 = .ok (.iload_n 3, 1) := DX6_readGiftHead_0 (59, .iload_n 3, 1) (List.mem_of_getElem? (i := 31) rfl)
theorem dX6_readGiftHead_60 : decode cX6_readGiftHead 60 = .ok (.invokevirtual 143, 3) := DX6_readGiftHead_0 (60, .invokevirtual 143, 3) (List.mem_of_getElem? (i := 32) rfl)
theorem dX6_readGiftHead_63 : decode cX6_readGiftHead 63 = .ok (.goto 4, 3) := DX6_readGiftHead_0 (63, .goto 4, 3) (List.mem_of_getElem? (i := 33) rfl)
theorem dX6_readGiftHead_66 : decode cX6_readGiftHead 66 = .ok (.iconst (-1), 1) := DX6_readGiftHead_0 (66, .iconst (-1), 1) (List.mem_of_getElem? (i := 34) rfl)
theorem dX6_readGiftHead_67 : decode cX6_readGiftHead 67 = .ok (.ireturn, 1) := DX6_readGiftHead_0 (67, .ireturn, 1) (List.mem_of_getElem? (i := 35) rfl)
abbrev rmX6_readGiftHead : Room := { frames := 3, cells := 0, slots := 0, locals := 67 }
set_option maxHeartbeats 400000 in
set_option maxRecDepth 100000 in
theorem met_X6_readGiftHead (l : Launch) (D : va_G) (kA : Nat → ClassId) (a : Nat → Nat) (b : Nat) (d : Nat → Nat) (n : Nat) (V0 : Sz) (X0 : Sz) (T2 : Nat → Int) (G0 : Sz) (hDt : ∀ w : Sz × Sz × Sz, va_D (fun _ => True) (cs_X6 kA a w.1 w.2.1 b (d 0) ++ ([(b, .inl (kA 1, 900, .inl (aI T2)))] ++ (cs_X4 kA d w.2.2)))) {r : Int} {Vr : Sz} {Xr : Sz} {Gr : Sz} (hf : f_X6_readGiftHead n V0 X0 T2 G0 = some (r, Vr, Xr, Gr)) : MZ l yX6_readGiftHead cX6_readGiftHead 4 (some .int) rmX6_readGiftHead D kA [.ref (a 0)] (cs_X6 kA a V0 X0 b (d 0) ++ ([(b, .inl (kA 1, 900, .inl (aI T2)))] ++ (cs_X4 kA d G0))) (cs_X6 kA a Vr Xr b (d 0) ++ ([(b, .inl (kA 1, 900, .inl (aI T2)))] ++ (cs_X4 kA d Gr))) (some (vI r)) := by
  refine zZI (own := RX6) rfl rfl (Nat.le_of_ble_eq_true rfl) ?_
  intro p e s m args below meth c ls Q hC hK hP hl hret
  have hl : lv_has ls 4 [(0, .ref (a 0))] := hl
  have hS : va_S (zF (cs_X6 kA a V0 X0 b (d 0) ++ ([(b, .inl (kA 1, 900, .inl (aI T2)))] ++ (cs_X4 kA d G0)))) s.heap s.heap [] := va_S.rf
  have hD := zDself (C := fun w : Sz × Sz × Sz => (cs_X6 kA a w.1 w.2.1 b (d 0) ++ ([(b, .inl (kA 1, 900, .inl (aI T2)))] ++ (cs_X4 kA d w.2.2)))) hDt (V0, X0, G0) (fun _ => rfl)
  try dsimp only at hD
  generalize hAe : zF (cs_X6 kA a V0 X0 b (d 0) ++ ([(b, .inl (kA 1, 900, .inl (aI T2)))] ++ (cs_X4 kA d G0))) = A0 at hS hD hret
  unfold f_X6_readGiftHead at hf
  have J18 : ∀ (V : Sz) (X : Sz) (G : Sz) (H : Heap) (locs : List Loc) (ls : Array Slot), jX6_readGiftHead_18 n T2 V X G = some (r, Vr, Xr, Gr) → va_P D vwCl (cs_X6 kA a V X b (d 0) ++ ([(b, .inl (kA 1, 900, .inl (aI T2)))] ++ (cs_X4 kA d G))) H → va_S A0 s.heap H locs → lv_has ls 4 [(0, .ref (a 0))] → W p l e rmX6_readGiftHead s m args below meth c H locs 0 0 Q (F0 m 18 ls []) := by
    intro V X G H locs ls hf hP hS hl
    unfold jX6_readGiftHead_18 at hf
    refine lv_aload_n hC.1 hC.2.1 dX6_readGiftHead_18 rfl (lv_at hl 0 rfl) <| ziconst hC.1 hC.2.1 dX6_readGiftHead_19 <| zsipush hC.1 hC.2.1 dX6_readGiftHead_20 (by decide) <| ?_
    obtain ⟨⟨r_2, V_3, X_4⟩, hu, hf⟩ := bd_some hf
    have hDc : ∀ w : Sz × Sz, va_D (fun _ => True) (cs_X6 kA a w.1 w.2 (b) (d 0) ++ ([((b), .inl (kA 1, 900, .inl (aI T2)))] ++ (cs_X4 kA d G))) := fun w => (hDt (w.1, w.2, G)).sub [0, 1, 2, 3, 4, 5, 6, 7, 8, 9, 10, 11, 12, 13, 14, 15, 16, 17, 18, 19, 20, 21, 22, 23, 24, 25, 26] (by decide) rfl
    refine zcVZ (As := [vI 0, vI 9999]) (rest := []) hC hK (met_X6_readNumber l D kA a (b) d n V X T2 G 0 9999 hDc hu) zwX6_106 hS (zFsub (hD (V, X, G)) [0, 1, 2, 3, 4, 5, 6, 7, 8, 9, 10, 11, 12, 13, 14, 15, 16, 17, 18, 19, 20, 21, 22, 23, 24, 25, 26] rfl) hP (q0 := 0) rfl rfl rfl rfl hl.1 rfl (Nat.le_of_ble_eq_true rfl) ⟨Nat.le_of_ble_eq_true rfl, Nat.le_of_ble_eq_true rfl⟩ ⟨rfl, rfl⟩ ⟨Nat.le_refl _, Nat.le_refl _⟩ dX6_readGiftHead_23 (fun H locs hP1 hk1 hS => ?_)
    have hP : va_P D vwCl (cs_X6 kA a V_3 X_4 b (d 0) ++ ([(b, .inl (kA 1, 900, .inl (aI T2)))] ++ (cs_X4 kA d G))) H := hP1
    refine zistore_n (lv' := [(1, vI r_2), (0, .ref (a 0))]) hC.1 hC.2.1 dX6_readGiftHead_26 rfl hl (by decide) rfl (fun ls hl => ?_)
    refine lv_aload_n hC.1 hC.2.1 dX6_readGiftHead_27 rfl (lv_at hl 1 rfl) <| ziconst hC.1 hC.2.1 dX6_readGiftHead_28 <| zldc (n := 999999) hC qw_378 (by decide) dX6_readGiftHead_29 <| ?_
    obtain ⟨⟨r_5, V_6, X_7⟩, hu, hf⟩ := bd_some hf
    have hDc : ∀ w : Sz × Sz, va_D (fun _ => True) (cs_X6 kA a w.1 w.2 (b) (d 0) ++ ([((b), .inl (kA 1, 900, .inl (aI T2)))] ++ (cs_X4 kA d G))) := fun w => (hDt (w.1, w.2, G)).sub [0, 1, 2, 3, 4, 5, 6, 7, 8, 9, 10, 11, 12, 13, 14, 15, 16, 17, 18, 19, 20, 21, 22, 23, 24, 25, 26] (by decide) rfl
    refine zcVZ (As := [vI 1, vI 999999]) (rest := []) hC hK (met_X6_readNumber l D kA a (b) d n V_3 X_4 T2 G 1 999999 hDc hu) zwX6_106 hS (zFsub (hD (V_3, X_4, G)) [0, 1, 2, 3, 4, 5, 6, 7, 8, 9, 10, 11, 12, 13, 14, 15, 16, 17, 18, 19, 20, 21, 22, 23, 24, 25, 26] rfl) hP (q0 := 0) rfl rfl rfl rfl hl.1 rfl (Nat.le_of_ble_eq_true rfl) ⟨Nat.le_of_ble_eq_true rfl, Nat.le_of_ble_eq_true rfl⟩ ⟨rfl, rfl⟩ ⟨Nat.le_refl _, Nat.le_refl _⟩ dX6_readGiftHead_31 (fun H locs hP1 hk1 hS => ?_)
    have hP : va_P D vwCl (cs_X6 kA a V_6 X_7 b (d 0) ++ ([(b, .inl (kA 1, 900, .inl (aI T2)))] ++ (cs_X4 kA d G))) H := hP1
    refine zistore_n (lv' := [(2, vI r_5), (1, vI r_2), (0, .ref (a 0))]) hC.1 hC.2.1 dX6_readGiftHead_34 rfl hl (by decide) rfl (fun ls hl => ?_)
    refine lv_aload_n hC.1 hC.2.1 dX6_readGiftHead_35 rfl (lv_at hl 2 rfl) <| ziconst hC.1 hC.2.1 dX6_readGiftHead_36 <| zldc (n := 999999) hC qw_378 (by decide) dX6_readGiftHead_37 <| ?_
    obtain ⟨⟨r_8, V_9, X_10⟩, hu, hf⟩ := bd_some hf
    have hDc : ∀ w : Sz × Sz, va_D (fun _ => True) (cs_X6 kA a w.1 w.2 (b) (d 0) ++ ([((b), .inl (kA 1, 900, .inl (aI T2)))] ++ (cs_X4 kA d G))) := fun w => (hDt (w.1, w.2, G)).sub [0, 1, 2, 3, 4, 5, 6, 7, 8, 9, 10, 11, 12, 13, 14, 15, 16, 17, 18, 19, 20, 21, 22, 23, 24, 25, 26] (by decide) rfl
    refine zcVZ (As := [vI 0, vI 999999]) (rest := []) hC hK (met_X6_readNumber l D kA a (b) d n V_6 X_7 T2 G 0 999999 hDc hu) zwX6_106 hS (zFsub (hD (V_6, X_7, G)) [0, 1, 2, 3, 4, 5, 6, 7, 8, 9, 10, 11, 12, 13, 14, 15, 16, 17, 18, 19, 20, 21, 22, 23, 24, 25, 26] rfl) hP (q0 := 0) rfl rfl rfl rfl hl.1 rfl (Nat.le_of_ble_eq_true rfl) ⟨Nat.le_of_ble_eq_true rfl, Nat.le_of_ble_eq_true rfl⟩ ⟨rfl, rfl⟩ ⟨Nat.le_refl _, Nat.le_refl _⟩ dX6_readGiftHead_39 (fun H locs hP1 hk1 hS => ?_)
    have hP : va_P D vwCl (cs_X6 kA a V_9 X_10 b (d 0) ++ ([(b, .inl (kA 1, 900, .inl (aI T2)))] ++ (cs_X4 kA d G))) H := hP1
    refine zistore_n (lv' := [(3, vI r_8), (2, vI r_5), (1, vI r_2), (0, .ref (a 0))]) hC.1 hC.2.1 dX6_readGiftHead_42 rfl hl (by decide) rfl (fun ls hl => ?_)
    refine lv_aload_n hC.1 hC.2.1 dX6_readGiftHead_43 rfl (lv_at hl 3 rfl) <| gfX6_36 hC hK hP (q0 := 0) rfl rfl dX6_readGiftHead_44 <| ?_
    obtain ⟨hz_11, hf⟩ := ck_some hf
    refine zif_ne (tgt := 66) hC.1 hC.2.1 hz_11 dX6_readGiftHead_47 (by decide) (fun hc => ?_) (fun hc => ?_)
    · have hf := it_f hf hc
      refine ziconst hC.1 hC.2.1 dX6_readGiftHead_66 <| ?_
      have hf := Option.some.inj hf
      simp only [Prod.mk.injEq] at hf
      exact hret (Int32.ofInt (-1)) _ _ _ _ (congrArg (fun z => some (vI z)) hf.1.symm) (by rw [← hf.2.1, ← hf.2.2.1, ← hf.2.2.2]; exact hP) hS dX6_readGiftHead_67
    · have hf := it_t hf hc
      refine lv_aload_n hC.1 hC.2.1 dX6_readGiftHead_50 rfl (lv_at hl 3 rfl) <| gfX6_19 hC hK hP (q0 := 0) rfl rfl dX6_readGiftHead_51 <| gfX6_129 hC hK hP (q0 := 3) rfl rfl dX6_readGiftHead_54 <| ziload_n hC.1 hC.2.1 dX6_readGiftHead_57 rfl (lv_at hl 2 rfl) <| ziload_n hC.1 hC.2.1 dX6_readGiftHead_58 rfl (lv_at hl 1 rfl) <| ziload_n hC.1 hC.2.1 dX6_readGiftHead_59 rfl (lv_at hl 0 rfl) <| ?_
      obtain ⟨⟨r_12, G_13⟩, hu, hf⟩ := bd_some hf
      have hPc : va_P D vwCl (cs_X3 kA (sv 6 d) (sv 9 G)) _ := hP.sub [9, 10, 11, 12, 13, 14, 15, 16, 17, 18, 19, 20] rfl
      have hDc : ∀ w : Sz, va_D (fun _ => True) (cs_X3 kA (sv 6 d) w) := fun w => (hDt (V_9, X_10, sw 9 12 G w)).sub [9, 10, 11, 12, 13, 14, 15, 16, 17, 18, 19, 20] (by decide) rfl
      refine zcVZ (As := [vI r_2, vI r_5, vI r_8]) (rest := []) hC hK (met_X3_add l D kA (sv 6 d) n (sv 9 G) r_2 r_5 r_8 hDc hu) zwX6_143 hS (zFsub (hD (V_9, X_10, G)) [9, 10, 11, 12, 13, 14, 15, 16, 17, 18, 19, 20] rfl) hPc (q0 := 0) rfl rfl rfl rfl hl.1 rfl (Nat.le_of_ble_eq_true rfl) ⟨Nat.le_of_ble_eq_true rfl, Nat.le_of_ble_eq_true rfl⟩ ⟨rfl, rfl⟩ ⟨Nat.le_refl _, Nat.le_refl _⟩ dX6_readGiftHead_60 (fun H locs hP1 hk1 hS => ?_)
      obtain ⟨G_14, eG_14⟩ : ∃ y, y = sw 9 12 G G_13 := ⟨_, rfl⟩
      have hf := nm_at hf eG_14
      have hP : va_P D vwCl (cs_X6 kA a V_9 X_10 b (d 0) ++ ([(b, .inl (kA 1, 900, .inl (aI T2)))] ++ (cs_X4 kA d G_14))) H := by rw [eG_14]; exact zjoinC (wb0 := (cs_X3 kA (sv 6 d) (sv 9 G))) (wb1 := (cs_X3 kA (sv 6 d) G_13)) hP (hDt (V_9, X_10, G)) 9 12 [9, 10, 11, 12, 13, 14, 15, 16, 17, 18, 19, 20] rfl rfl rfl rfl hk1 hP1
      refine lv_goto (tgt := 67) hC.1 hC.2.1 dX6_readGiftHead_63 (by decide) <| ?_
      have hf := Option.some.inj hf
      simp only [Prod.mk.injEq] at hf
      exact hret (Int32.ofInt r_12) _ _ _ _ (congrArg (fun z => some (vI z)) hf.1.symm) (by rw [← hf.2.1, ← hf.2.2.1, ← hf.2.2.2]; exact hP) hS dX6_readGiftHead_67
  refine lv_aload_n hC.1 hC.2.1 dX6_readGiftHead_0 rfl (lv_at hl 0 rfl) <| gfX6_19 hC hK hP (q0 := 0) rfl rfl dX6_readGiftHead_1 <| gfX6_129 hC hK hP (q0 := 3) rfl rfl dX6_readGiftHead_4 <| ?_
  obtain ⟨r_1, hu, hf⟩ := bd_some hf
  have hPc : va_P D vwCl (cs_X3 kA (sv 6 d) (sv 9 G0)) _ := hP.sub [9, 10, 11, 12, 13, 14, 15, 16, 17, 18, 19, 20] rfl
  refine zcVP (As := []) (rest := []) hC hK (met_X3_isFull l D kA (sv 6 d) (sv 9 G0) hu) zwX6_142 hPc (q0 := 0) rfl rfl rfl rfl hl.1 rfl (Nat.le_of_ble_eq_true rfl) ⟨Nat.le_of_ble_eq_true rfl, Nat.le_of_ble_eq_true rfl⟩ ⟨rfl, rfl⟩ ⟨Nat.le_refl _, Nat.le_refl _⟩ dX6_readGiftHead_7 <| zifb_eq (tgt := 18) hC.1 hC.2.1 dX6_readGiftHead_10 (by decide) (fun hc => ?_) (fun hc => ?_)
  · have hf := it_t hf hc
    exact J18 _ _ _ _ _ _ hf hP hS (lv_sub hl [0] rfl)
  · have hf := it_f hf hc
    refine lv_aload_n hC.1 hC.2.1 dX6_readGiftHead_13 rfl (lv_at hl 0 rfl) <| ziconst hC.1 hC.2.1 dX6_readGiftHead_14 <| ?_
    obtain ⟨V_15, hu, hf⟩ := bd_some hf
    have hDc : ∀ w : Sz, va_D (fun _ => True) (cs_X6 kA a w X0 (b) (d 0) ++ ([((b), .inl (kA 1, 900, .inl (aI T2)))] ++ (cs_X4 kA d G0))) := fun w => (hDt (w, X0, G0)).sub [0, 1, 2, 3, 4, 5, 6, 7, 8, 9, 10, 11, 12, 13, 14, 15, 16, 17, 18, 19, 20, 21, 22, 23, 24, 25, 26] (by decide) rfl
    refine zcVZ (As := [vI 4]) (rest := []) hC hK (met_X6_fail l D kA a (b) d V0 X0 T2 G0 4 hDc hu) zwX6_95 hS (zFsub (hD (V0, X0, G0)) [0, 1, 2, 3, 4, 5, 6, 7, 8, 9, 10, 11, 12, 13, 14, 15, 16, 17, 18, 19, 20, 21, 22, 23, 24, 25, 26] rfl) hP (q0 := 0) rfl rfl rfl rfl hl.1 rfl (Nat.le_of_ble_eq_true rfl) ⟨Nat.le_of_ble_eq_true rfl, Nat.le_of_ble_eq_true rfl⟩ ⟨rfl, rfl⟩ ⟨Nat.le_refl _, Nat.le_refl _⟩ dX6_readGiftHead_15 (fun H locs hP1 hk1 hS => ?_)
    have hP : va_P D vwCl (cs_X6 kA a V_15 X0 b (d 0) ++ ([(b, .inl (kA 1, 900, .inl (aI T2)))] ++ (cs_X4 kA d G0))) H := hP1
    exact J18 _ _ _ _ _ _ hf hP hS (lv_sub hl [0] rfl)
theorem DX6_isFirstWord_0 : ∀ q ∈ ([(0, .aload_n 0, 1), (1, .getfield 57, 3), (4, .ldc2_w 61, 3), (7, .lcmp, 1), (8, .ifCond .eq 58, 3), (11, .aload_n 0, 1), (12, .getfield 57, 3), (15, .ldc2_w 66, 3), (18, .lcmp, 1), (19, .ifCond .eq 47, 3), (22, .aload_n 0, 1), (23, .getfield 57, 3), (26, .ldc2_w 71, 3), (29, .lcmp, 1), (30, .ifCond .eq 36, 3), (33, .aload_n 0, 1), (34, .getfield 57, 3), (37, .ldc2_w 76, 3), (40, .lcmp, 1), (41, .ifCond .eq 25, 3), (44, .aload_n 0, 1), (45, .getfield 57, 3), (48, .ldc2_w 81, 3), (51, .lcmp, 1), (52, .ifCond .eq 14, 3), (55, .aload_n 0, 1), (56, .getfield 57, 3), (59, .ldc2_w 90, 3), (62, .lcmp, 1), (63, .ifCond .ne 7, 3), (66, .iconst 1, 1), (67, .goto 4, 3), (70, .iconst 0, 1), (71, .ireturn, 1)] : List (Nat × Instr × Nat)), decode cX6_isFirstWord q.1 = .ok q.2 := by decide +kernel
theorem dX6_isFirstWord_0 : decode cX6_isFirstWord 0 = .ok (.aload_n 0, 1) := DX6_isFirstWord_0 (0, .aload_n 0, 1) (List.mem_of_getElem? (i := 0) rfl)
theorem dX6_isFirstWord_1 : decode cX6_isFirstWord 1 = .ok (.getfield 57, 3) := DX6_isFirstWord_0 (1, .getfield 57, 3) (List.mem_of_getElem? (i := 1) rfl)
theorem dX6_isFirstWord_4 : decode cX6_isFirstWord 4 = .ok (.ldc2_w 61, 3) := DX6_isFirstWord_0 (4, .ldc2_w 61, 3) (List.mem_of_getElem? (i := 2) rfl)
theorem dX6_isFirstWord_7 : decode cX6_isFirstWord 7 = .ok (.lcmp, 1) := DX6_isFirstWord_0 (7, .lcmp, 1) (List.mem_of_getElem? (i := 3) rfl)
theorem dX6_isFirstWord_8 : decode cX6_isFirstWord 8 = .ok (.ifCond .eq 58, 3) := DX6_isFirstWord_0 (8, .ifCond .eq 58, 3) (List.mem_of_getElem? (i := 4) rfl)
theorem dX6_isFirstWord_11 : decode cX6_isFirstWord 11 = .ok (.aload_n 0, 1) := DX6_isFirstWord_0 (11, .aload_n 0, 1) (List.mem_of_getElem? (i := 5) rfl)
theorem dX6_isFirstWord_12 : decode cX6_isFirstWord 12 = .ok (.getfield 57, 3) := DX6_isFirstWord_0 (12, .getfield 57, 3) (List.mem_of_getElem? (i := 6) rfl)
theorem dX6_isFirstWord_15 : decode cX6_isFirstWord 15 = .ok (.ldc2_w 66, 3) := DX6_isFirstWord_0 (15, .ldc2_w 66, 3) (List.mem_of_getElem? (i := 7) rfl)
theorem dX6_isFirstWord_18 : decode cX6_isFirstWord 18 = .ok (.lcmp, 1) := DX6_isFirstWord_0 (18, .lcmp, 1) (List.mem_of_getElem? (i := 8) rfl)
theorem dX6_isFirstWord_19 : decode cX6_isFirstWord 19 = .ok (.ifCond .eq 47, 3) := DX6_isFirstWord_0 (19, .ifCond .eq 47, 3) (List.mem_of_getElem? (i := 9) rfl)
theorem dX6_isFirstWord_22 : decode cX6_isFirstWord 22 = .ok (.aload_n 0, 1) := DX6_isFirstWord_0 (22, .aload_n 0, 1) (List.mem_of_getElem? (i := 10) rfl)
theorem dX6_isFirstWord_23 : decode cX6_isFirstWord 23 = .ok (.getfield 57, 3) := DX6_isFirstWord_0 (23, .getfield 57, 3) (List.mem_of_getElem? (i := 11) rfl)
theorem dX6_isFirstWord_26 : decode cX6_isFirstWord 26 = .ok (.ldc2_w 71, 3) := DX6_isFirstWord_0 (26, .ldc2_w 71, 3) (List.mem_of_getElem? (i := 12) rfl)
theorem dX6_isFirstWord_29 : decode cX6_isFirstWord 29 = .ok (.lcmp, 1) := DX6_isFirstWord_0 (29, .lcmp, 1) (List.mem_of_getElem? (i := 13) rfl)
theorem dX6_isFirstWord_30 : decode cX6_isFirstWord 30 = .ok (.ifCond .eq 36, 3) := DX6_isFirstWord_0 (30, .ifCond .eq 36, 3) (List.mem_of_getElem? (i := 14) rfl)
theorem dX6_isFirstWord_33 : decode cX6_isFirstWord 33 = .ok (.aload_n 0, 1) := DX6_isFirstWord_0 (33, .aload_n 0, 1) (List.mem_of_getElem? (i := 15) rfl)
theorem dX6_isFirstWord_34 : decode cX6_isFirstWord 34 = .ok (.getfield 57, 3) := DX6_isFirstWord_0 (34, .getfield 57, 3) (List.mem_of_getElem? (i := 16) rfl)
theorem dX6_isFirstWord_37 : decode cX6_isFirstWord 37 = .ok (.ldc2_w 76, 3) := DX6_isFirstWord_0 (37, .ldc2_w 76, 3) (List.mem_of_getElem? (i := 17) rfl)
theorem dX6_isFirstWord_40 : decode cX6_isFirstWord 40 = .ok (.lcmp, 1) := DX6_isFirstWord_0 (40, .lcmp, 1) (List.mem_of_getElem? (i := 18) rfl)
theorem dX6_isFirstWord_41 : decode cX6_isFirstWord 41 = .ok (.ifCond .eq 25, 3) := DX6_isFirstWord_0 (41, .ifCond .eq 25, 3) (List.mem_of_getElem? (i := 19) rfl)
theorem dX6_isFirstWord_44 : decode cX6_isFirstWord 44 = .ok (.aload_n 0, 1) := DX6_isFirstWord_0 (44, .aload_n 0, 1) (List.mem_of_getElem? (i := 20) rfl)
theorem dX6_isFirstWord_45 : decode cX6_isFirstWord 45 = .ok (.getfield 57, 3) := DX6_isFirstWord_0 (45, .getfield 57, 3) (List.mem_of_getElem? (i := 21) rfl)
theorem dX6_isFirstWord_48 : decode cX6_isFirstWord 48 = .ok (.ldc2_w 81, 3) := DX6_isFirstWord_0 (48, .ldc2_w 81, 3) (List.mem_of_getElem? (i := 22) rfl)
theorem dX6_isFirstWord_51 : decode cX6_isFirstWord 51 = .ok (.lcmp, 1) := DX6_isFirstWord_0 (51, .lcmp, 1) (List.mem_of_getElem? (i := 23) rfl)
theorem dX6_isFirstWord_52 : decode cX6_isFirstWord 52 = .ok (.ifCond .eq 14, 3) := DX6_isFirstWord_0 (52, .ifCond .eq 14, 3) (List.mem_of_getElem? (i := 24) rfl)
theorem dX6_isFirstWord_55 : decode cX6_isFirstWord 55 = .ok (.aload_n 0, 1) := DX6_isFirstWord_0 (55, .aload_n 0, 1) (List.mem_of_getElem? (i := 25) rfl)
theorem dX6_isFirstWord_56 : decode cX6_isFirstWord 56 = .ok (.getfield 57, 3) := DX6_isFirstWord_0 (56, .getfield 57, 3) (List.mem_of_getElem? (i := 26) rfl)
theorem dX6_isFirstWord_59 : decode cX6_isFirstWord 59 = .ok (.ldc2_w 90, 3) := DX6_isFirstWord_0 (59, .ldc2_w 90, 3) (List.mem_of_getElem? (i := 27) rfl)
theorem dX6_isFirstWord_62 : decode cX6_isFirstWord 62 = .ok (.lcmp, 1) := DX6_isFirstWord_0 (62, .lcmp, 1) (List.mem_of_getElem? (i := 28) rfl)
theorem dX6_isFirstWord_63 : decode cX6_isFirstWord 63 = .ok (.ifCond .ne 7, 3) := DX6_isFirstWord_0 (63, .ifCond .ne 7, 3) (List.mem_of_getElem? (i := 29) rfl)
theorem dX6_isFirstWord_66 : decode cX6_isFirstWord 66 = .ok (.iconst 1, 1) := DX6_isFirstWord_0 (66, .iconst 1, 1) (List.mem_of_getElem? (i := 30) rfl)
theorem dX6_isFirstWord_67 : decode cX6_isFirstWord 67 = .ok (.goto 4, 3) := DX6_isFirstWord_0 (67, .goto 4, 3) (List.mem_of_getElem? (i := 31) rfl)
theorem dX6_isFirstWord_70 : decode cX6_isFirstWord 70 = .ok (.iconst 0, 1) := DX6_isFirstWord_0 (70, .iconst 0, 1) (List.mem_of_getElem? (i := 32) rfl)
theorem dX6_isFirstWord_71 : decode cX6_isFirstWord 71 = .ok (.ireturn, 1) := DX6_isFirstWord_0 (71, .ireturn, 1) (List.mem_of_getElem? (i := 33) rfl)
abbrev rmX6_isFirstWord : Room := { frames := 0, cells := 0, slots := 0, locals := 0 }
set_option maxHeartbeats 400000 in
set_option maxRecDepth 100000 in
theorem met_X6_isFirstWord (l : Launch) (D : va_G) (kA : Nat → ClassId) (a : Nat → Nat) (b : Nat) (d : Nat → Nat) (V : Sz) (X : Sz) (T2 : Nat → Int) (G : Sz) {r : Bool} (hf : f_X6_isFirstWord V X T2 G = some r) : MP l yX6_isFirstWord cX6_isFirstWord 1 (some .boolean) rmX6_isFirstWord D kA [.ref (a 0)] (cs_X6 kA a V X b (d 0) ++ ([(b, .inl (kA 1, 900, .inl (aI T2)))] ++ (cs_X4 kA d G))) (some (vI (bI r))) := by
  refine zPZ (own := RX6) rfl rfl (Nat.le_of_ble_eq_true rfl) ?_
  intro p e s m args below meth c ls Q hC hK hP hl hret
  have hl : lv_has ls 1 [(0, .ref (a 0))] := hl
  unfold f_X6_isFirstWord at hf
  refine lv_aload_n hC.1 hC.2.1 dX6_isFirstWord_0 rfl (lv_at hl 0 rfl) <| gfX6_57 hC hK hP (q0 := 0) rfl rfl dX6_isFirstWord_1 <| zldc2 (n := 431366238066) hC qw_356 (by decide) dX6_isFirstWord_4 <| ?_
  obtain ⟨hz_1, hf⟩ := ck_some hf
  refine zlcmp_eq (tgt := 66) hC.1 hC.2.1 ⟨hz_1, (by decide)⟩ dX6_isFirstWord_7 dX6_isFirstWord_8 (by decide) (fun hc => ?_) (fun hc => ?_)
  · have hf := it_t hf hc
    exact ziconst hC.1 hC.2.1 dX6_isFirstWord_66 <| lv_goto (tgt := 71) hC.1 hC.2.1 dX6_isFirstWord_67 (by decide) <| hret (Int32.ofInt (bI true)) _ _ (zb01 _) (qZ hf) dX6_isFirstWord_71
  · have hf := it_f hf hc
    refine lv_aload_n hC.1 hC.2.1 dX6_isFirstWord_11 rfl (lv_at hl 0 rfl) <| gfX6_57 hC hK hP (q0 := 0) rfl rfl dX6_isFirstWord_12 <| zldc2 (n := 28258975365558885) hC qw_373 (by decide) dX6_isFirstWord_15 <| ?_
    refine zlcmp_eq (tgt := 66) hC.1 hC.2.1 ⟨hz_1, (by decide)⟩ dX6_isFirstWord_18 dX6_isFirstWord_19 (by decide) (fun hc => ?_) (fun hc => ?_)
    · have hf := it_t hf hc
      exact ziconst hC.1 hC.2.1 dX6_isFirstWord_66 <| lv_goto (tgt := 71) hC.1 hC.2.1 dX6_isFirstWord_67 (by decide) <| hret (Int32.ofInt (bI true)) _ _ (zb01 _) (qZ hf) dX6_isFirstWord_71
    · have hf := it_f hf hc
      refine lv_aload_n hC.1 hC.2.1 dX6_isFirstWord_22 rfl (lv_at hl 0 rfl) <| gfX6_57 hC hK hP (q0 := 0) rfl rfl dX6_isFirstWord_23 <| zldc2 (n := 1734960756) hC qw_374 (by decide) dX6_isFirstWord_26 <| ?_
      refine zlcmp_eq (tgt := 66) hC.1 hC.2.1 ⟨hz_1, (by decide)⟩ dX6_isFirstWord_29 dX6_isFirstWord_30 (by decide) (fun hc => ?_) (fun hc => ?_)
      · have hf := it_t hf hc
        exact ziconst hC.1 hC.2.1 dX6_isFirstWord_66 <| lv_goto (tgt := 71) hC.1 hC.2.1 dX6_isFirstWord_67 (by decide) <| hret (Int32.ofInt (bI true)) _ _ (zb01 _) (qZ hf) dX6_isFirstWord_71
      · have hf := it_f hf hc
        refine lv_aload_n hC.1 hC.2.1 dX6_isFirstWord_33 rfl (lv_at hl 0 rfl) <| gfX6_57 hC hK hP (q0 := 0) rfl rfl dX6_isFirstWord_34 <| zldc2 (n := 495807392116) hC qw_375 (by decide) dX6_isFirstWord_37 <| ?_
        refine zlcmp_eq (tgt := 66) hC.1 hC.2.1 ⟨hz_1, (by decide)⟩ dX6_isFirstWord_40 dX6_isFirstWord_41 (by decide) (fun hc => ?_) (fun hc => ?_)
        · have hf := it_t hf hc
          exact ziconst hC.1 hC.2.1 dX6_isFirstWord_66 <| lv_goto (tgt := 71) hC.1 hC.2.1 dX6_isFirstWord_67 (by decide) <| hret (Int32.ofInt (bI true)) _ _ (zb01 _) (qZ hf) dX6_isFirstWord_71
        · have hf := it_f hf hc
          refine lv_aload_n hC.1 hC.2.1 dX6_isFirstWord_44 rfl (lv_at hl 0 rfl) <| gfX6_57 hC hK hP (q0 := 0) rfl rfl dX6_isFirstWord_45 <| zldc2 (n := 1667330920) hC qw_376 (by decide) dX6_isFirstWord_48 <| ?_
          refine zlcmp_eq (tgt := 66) hC.1 hC.2.1 ⟨hz_1, (by decide)⟩ dX6_isFirstWord_51 dX6_isFirstWord_52 (by decide) (fun hc => ?_) (fun hc => ?_)
          · have hf := it_t hf hc
            exact ziconst hC.1 hC.2.1 dX6_isFirstWord_66 <| lv_goto (tgt := 71) hC.1 hC.2.1 dX6_isFirstWord_67 (by decide) <| hret (Int32.ofInt (bI true)) _ _ (zb01 _) (qZ hf) dX6_isFirstWord_71
          · have hf := it_f hf hc
            refine lv_aload_n hC.1 hC.2.1 dX6_isFirstWord_55 rfl (lv_at hl 0 rfl) <| gfX6_57 hC hK hP (q0 := 0) rfl rfl dX6_isFirstWord_56 <| zldc2 (n := 491596309875) hC qw_377 (by decide) dX6_isFirstWord_59 <| ?_
            refine zlcmp_ne (tgt := 70) hC.1 hC.2.1 ⟨hz_1, (by decide)⟩ dX6_isFirstWord_62 dX6_isFirstWord_63 (by decide) (fun hc => ?_) (fun hc => ?_)
            · have hf := it_f hf hc
              exact ziconst hC.1 hC.2.1 dX6_isFirstWord_70 <| hret (Int32.ofInt (bI false)) _ _ (zb01 _) (qZ hf) dX6_isFirstWord_71
            · have hf := it_t hf hc
              exact ziconst hC.1 hC.2.1 dX6_isFirstWord_66 <| lv_goto (tgt := 71) hC.1 hC.2.1 dX6_isFirstWord_67 (by decide) <| hret (Int32.ofInt (bI true)) _ _ (zb01 _) (qZ hf) dX6_isFirstWord_71
theorem DX6_namedDonor_0 : ∀ q ∈ ([(0, .aload_n 0, 1), (1, .getfield 54, 3), (4, .iconst 1, 1), (5, .if_icmp .ne 24, 3), (8, .aload_n 0, 1), (9, .getfield 33, 3), (12, .aload_n 0, 1), (13, .getfield 160, 3), (16, .isub, 1), (17, .bipush 6, 2), (19, .if_icmp .gt 10, 3), (22, .aload_n 0, 1), (23, .invokevirtual 163, 3), (26, .ifCond .eq 10, 3), (29, .aload_n 0, 1), (30, .iconst 1, 1), (31, .invokevirtual 95, 3), (34, .iconst (-1), 1), (35, .ireturn, 1), (36, .iconst 0, 1), (37, .istore_n 1, 1), (38, .iload_n 1, 1), (39, .aload_n 0, 1), (40, .getfield 19, 3), (43, .getfield 99, 3), (46, .if_icmp .ge 25, 3), (49, .aload_n 0, 1), (50, .getfield 9, 3), (53, .iload_n 1, 1), (54, .laload, 1), (55, .aload_n 0, 1), (56, .getfield 57, 3), (59, .lcmp, 1), (60, .ifCond .ne 5, 3), (63, .iload_n 1, 1), (64, .ireturn, 1), (65, .iinc 1 1, 3), (68, .goto (-30), 3), (71, .iconst (-1), 1), (72, .ireturn, 1)] : List (Nat × Instr × Nat)), decode cX6_namedDonor q.1 = .ok q.2 := by decide +kernel
theorem dX6_namedDonor_0 : decode cX6_namedDonor 0 = .ok (.aload_n 0, 1) := DX6_namedDonor_0 (0, .aload_n 0, 1) (List.mem_of_getElem? (i := 0) rfl)
theorem dX6_namedDonor_1 : decode cX6_namedDonor 1 = .ok (.getfield 54, 3) := DX6_namedDonor_0 (1, .getfield 54, 3) (List.mem_of_getElem? (i := 1) rfl)
theorem dX6_namedDonor_4 : decode cX6_namedDonor 4 = .ok (.iconst 1, 1) := DX6_namedDonor_0 (4, .iconst 1, 1) (List.mem_of_getElem? (i := 2) rfl)
theorem dX6_namedDonor_5 : decode cX6_namedDonor 5 = .ok (.if_icmp .ne 24, 3) := DX6_namedDonor_0 (5, .if_icmp .ne 24, 3) (List.mem_of_getElem? (i := 3) rfl)
theorem dX6_namedDonor_8 : decode cX6_namedDonor 8 = .ok (.aload_n 0, 1) := DX6_namedDonor_0 (8, .aload_n 0, 1) (List.mem_of_getElem? (i := 4) rfl)
theorem dX6_namedDonor_9 : decode cX6_namedDonor 9 = .ok (.getfield 33, 3) := DX6_namedDonor_0 (9, .getfield 33, 3) (List.mem_of_getElem? (i := 5) rfl)
theorem dX6_namedDonor_12 : decode cX6_namedDonor 12 = .ok (.aload_n 0, 1) := DX6_namedDonor_0 (12, .aload_n 0, 1) (List.mem_of_getElem? (i := 6) rfl)
theorem dX6_namedDonor_13 : decode cX6_namedDonor 13 = .ok (.getfield 160, 3) := DX6_namedDonor_0 (13, .getfield 160, 3) (List.mem_of_getElem? (i := 7) rfl)
theorem dX6_namedDonor_16 : decode cX6_namedDonor 16 = .ok (.isub, 1) := DX6_namedDonor_0 (16, .isub, 1) (List.mem_of_getElem? (i := 8) rfl)
theorem dX6_namedDonor_17 : decode cX6_namedDonor 17 = .ok (.bipush 6, 2) := DX6_namedDonor_0 (17, .bipush 6, 2) (List.mem_of_getElem? (i := 9) rfl)
theorem dX6_namedDonor_19 : decode cX6_namedDonor 19 = .ok (.if_icmp .gt 10, 3) := DX6_namedDonor_0 (19, .if_icmp .gt 10, 3) (List.mem_of_getElem? (i := 10) rfl)
theorem dX6_namedDonor_22 : decode cX6_namedDonor 22 = .ok (.aload_n 0, 1) := DX6_namedDonor_0 (22, .aload_n 0, 1) (List.mem_of_getElem? (i := 11) rfl)
theorem dX6_namedDonor_23 : decode cX6_namedDonor 23 = .ok (.invokevirtual 163, 3) := DX6_namedDonor_0 (23, .invokevirtual 163, 3) (List.mem_of_getElem? (i := 12) rfl)
theorem dX6_namedDonor_26 : decode cX6_namedDonor 26 = .ok (.ifCond .eq 10, 3) := DX6_namedDonor_0 (26, .ifCond .eq 10, 3) (List.mem_of_getElem? (i := 13) rfl)
theorem dX6_namedDonor_29 : decode cX6_namedDonor 29 = .ok (.aload_n 0, 1) := DX6_namedDonor_0 (29, .aload_n 0, 1) (List.mem_of_getElem? (i := 14) rfl)
theorem dX6_namedDonor_30 : decode cX6_namedDonor 30 = .ok (.iconst 1, 1) := DX6_namedDonor_0 (30, .iconst 1, 1) (List.mem_of_getElem? (i := 15) rfl)
theorem dX6_namedDonor_31 : decode cX6_namedDonor 31 = .ok (.invokevirtual 95, 3) := DX6_namedDonor_0 (31, .invokevirtual 95, 3) (List.mem_of_getElem? (i := 16) rfl)
theorem dX6_namedDonor_34 : decode cX6_namedDonor 34 = .ok (.iconst (-1), 1) := DX6_namedDonor_0 (34, .iconst (-1), 1) (List.mem_of_getElem? (i := 17) rfl)
theorem dX6_namedDonor_35 : decode cX6_namedDonor 35 = .ok (.ireturn, 1) := DX6_namedDonor_0 (35, .ireturn, 1) (List.mem_of_getElem? (i := 18) rfl)
theorem dX6_namedDonor_36 : decode cX6_namedDonor 36 = .ok (.iconst 0, 1) := DX6_namedDonor_0 (36, .iconst 0, 1) (List.mem_of_getElem? (i := 19) rfl)
theorem dX6_namedDonor_37 : decode cX6_namedDonor 37 = .ok (.istore_n 1, 1) := DX6_namedDonor_0 (37, .istore_n 1, 1) (List.mem_of_getElem? (i := 20) rfl)
theorem dX6_namedDonor_38 : decode cX6_namedDonor 38 = .ok (.iload_n 1, 1) := DX6_namedDonor_0 (38, .iload_n 1, 1) (List.mem_of_getElem? (i := 21) rfl)
theorem dX6_namedDonor_39 : decode cX6_namedDonor 39 = .ok (.aload_n 0, 1) := DX6_namedDonor_0 (39, .aload_n 0, 1) (List.mem_of_getElem? (i := 22) rfl)
theorem dX6_namedDonor_40 : decode cX6_namedDonor 40 = .ok (.getfield 19, 3) := DX6_namedDonor_0 (40, .getfield 19, 3) (List.mem_of_getElem? (i := 23) rfl)
theorem dX6_namedDonor_43 : decode cX6_namedDonor 43 = .ok (.getfield 99, 3) := DX6_namedDonor_0 (43, .getfield 99, 3) (List.mem_of_getElem? (i := 24) rfl)
theorem dX6_namedDonor_46 : decode cX6_namedDonor 46 = .ok (.if_icmp .ge 25, 3) := DX6_namedDonor_0 (46, .if_icmp .ge 25, 3) (List.mem_of_getElem? (i := 25) rfl)
theorem dX6_namedDonor_49 : decode cX6_namedDonor 49 = .ok (.aload_n 0, 1) := DX6_namedDonor_0 (49, .aload_n 0, 1) (List.mem_of_getElem? (i := 26) rfl)
theorem dX6_namedDonor_50 : decode cX6_namedDonor 50 = .ok (.getfield 9, 3) := DX6_namedDonor_0 (50, .getfield 9, 3) (List.mem_of_getElem? (i := 27) rfl)
theorem dX6_namedDonor_53 : decode cX6_namedDonor 53 = .ok (.iload_n 1, 1) := DX6_namedDonor_0 (53, .iload_n 1, 1) (List.mem_of_getElem? (i := 28) rfl)
theorem dX6_namedDonor_54 : decode cX6_namedDonor 54 = .ok (.laload, 1) := DX6_namedDonor_0 (54, .laload, 1) (List.mem_of_getElem? (i := 29) rfl)
theorem dX6_namedDonor_55 : decode cX6_namedDonor 55 = .ok (.aload_n 0, 1) := DX6_namedDonor_0 (55, .aload_n 0, 1) (List.mem_of_getElem? (i := 30) rfl)
theorem dX6_namedDonor_56 : decode cX6_namedDonor 56 = .ok (.getfield 57, 3) := DX6_namedDonor_0 (56, .getfield 57, 3) (List.mem_of_getElem? (i := 31) rfl)
theorem dX6_namedDonor_59 : decode cX6_namedDonor 59 = .ok (.lcmp, 1) := DX6_namedDonor_0 (59, .lcmp, 1) (List.mem_of_getElem? (i := 32) rfl)
theorem dX6_namedDonor_60 : decode cX6_namedDonor 60 = .ok (.ifCond .ne 5, 3) := DX6_namedDonor_0 (60, .ifCond .ne 5, 3) (List.mem_of_getElem? (i := 33) rfl)
theorem dX6_namedDonor_63 : decode cX6_namedDonor 63 = .ok (.iload_n 1, 1) := DX6_namedDonor_0 (63, .iload_n 1, 1) (List.mem_of_getElem? (i := 34) rfl)
theorem dX6_namedDonor_64 : decode cX6_namedDonor 64 = .ok (.ireturn, 1) := DX6_namedDonor_0 (64, .ireturn, 1) (List.mem_of_getElem? (i := 35) rfl)
theorem dX6_namedDonor_65 : decode cX6_namedDonor 65 = .ok (.iinc 1 1, 3) := DX6_namedDonor_0 (65, .iinc 1 1, 3) (List.mem_of_getElem? (i := 36) rfl)
theorem dX6_namedDonor_68 : decode cX6_namedDonor 68 = .ok (.goto (-30), 3) := DX6_namedDonor_0 (68, .goto (-30), 3) (List.mem_of_getElem? (i := 37) rfl)
theorem dX6_namedDonor_71 : decode cX6_namedDonor 71 = .ok (.iconst (-1), 1) := DX6_namedDonor_0 (71, .iconst (-1), 1) (List.mem_of_getElem? (i := 38) rfl)
theorem dX6_namedDonor_72 : decode cX6_namedDonor 72 = .ok (.ireturn, 1) := DX6_namedDonor_0 (72, .ireturn, 1) (List.mem_of_getElem? (i := 39) rfl)
abbrev rmX6_namedDonor : Room := { frames := 1, cells := 0, slots := 0, locals := 21 }
set_option maxHeartbeats 400000 in
set_option maxRecDepth 100000 in
theorem met_X6_namedDonor (l : Launch) (D : va_G) (kA : Nat → ClassId) (a : Nat → Nat) (b : Nat) (d : Nat → Nat) (n : Nat) (V0 : Sz) (X : Sz) (T2 : Nat → Int) (G : Sz) (hDt : ∀ w : Sz, va_D (fun _ => True) (cs_X6 kA a w X b (d 0) ++ ([(b, .inl (kA 1, 900, .inl (aI T2)))] ++ (cs_X4 kA d G)))) {r : Int} {Vr : Sz} (hf : f_X6_namedDonor n V0 X T2 G = some (r, Vr)) : MZ l yX6_namedDonor cX6_namedDonor 2 (some .int) rmX6_namedDonor D kA [.ref (a 0)] (cs_X6 kA a V0 X b (d 0) ++ ([(b, .inl (kA 1, 900, .inl (aI T2)))] ++ (cs_X4 kA d G))) (cs_X6 kA a Vr X b (d 0) ++ ([(b, .inl (kA 1, 900, .inl (aI T2)))] ++ (cs_X4 kA d G))) (some (vI r)) := by
  refine zZI (own := RX6) rfl rfl (Nat.le_of_ble_eq_true rfl) ?_
  intro p e s m args below meth c ls Q hC hK hP hl hret
  have hl : lv_has ls 2 [(0, .ref (a 0))] := hl
  have hS : va_S (zF (cs_X6 kA a V0 X b (d 0) ++ ([(b, .inl (kA 1, 900, .inl (aI T2)))] ++ (cs_X4 kA d G)))) s.heap s.heap [] := va_S.rf
  have hD := zDself (C := fun w : Sz => (cs_X6 kA a w X b (d 0) ++ ([(b, .inl (kA 1, 900, .inl (aI T2)))] ++ (cs_X4 kA d G)))) hDt V0 (fun _ => rfl)
  try dsimp only at hD
  generalize hAe : zF (cs_X6 kA a V0 X b (d 0) ++ ([(b, .inl (kA 1, 900, .inl (aI T2)))] ++ (cs_X4 kA d G))) = A0 at hS hD hret
  unfold f_X6_namedDonor at hf
  have J29 : ∀ (V : Sz) (H : Heap) (locs : List Loc) (ls : Array Slot), jX6_namedDonor_29 n X T2 G V = some (r, Vr) → va_P D vwCl (cs_X6 kA a V X b (d 0) ++ ([(b, .inl (kA 1, 900, .inl (aI T2)))] ++ (cs_X4 kA d G))) H → va_S A0 s.heap H locs → lv_has ls 2 [(0, .ref (a 0))] → W p l e rmX6_namedDonor s m args below meth c H locs 0 0 Q (F0 m 29 ls []) := by
    intro V H locs ls hf hP hS hl
    unfold jX6_namedDonor_29 at hf
    refine lv_aload_n hC.1 hC.2.1 dX6_namedDonor_29 rfl (lv_at hl 0 rfl) <| ziconst hC.1 hC.2.1 dX6_namedDonor_30 <| ?_
    obtain ⟨V_2, hu, hf⟩ := bd_some hf
    have hDc := hDt
    refine zcVZ (As := [vI 1]) (rest := []) hC hK (met_X6_fail l D kA a (b) d V X T2 G 1 hDc hu) zwX6_95 hS (zFsub (hD V) [0, 1, 2, 3, 4, 5, 6, 7, 8, 9, 10, 11, 12, 13, 14, 15, 16, 17, 18, 19, 20, 21, 22, 23, 24, 25, 26] rfl) hP (q0 := 0) rfl rfl rfl rfl hl.1 rfl (Nat.le_of_ble_eq_true rfl) ⟨Nat.le_of_ble_eq_true rfl, Nat.le_of_ble_eq_true rfl⟩ ⟨rfl, rfl⟩ ⟨Nat.le_refl _, Nat.le_refl _⟩ dX6_namedDonor_31 (fun H locs hP1 hk1 hS => ?_)
    have hP : va_P D vwCl (cs_X6 kA a V_2 X b (d 0) ++ ([(b, .inl (kA 1, 900, .inl (aI T2)))] ++ (cs_X4 kA d G))) H := hP1
    refine ziconst hC.1 hC.2.1 dX6_namedDonor_34 <| ?_
    have hf := Option.some.inj hf
    simp only [Prod.mk.injEq] at hf
    exact hret (Int32.ofInt (-1)) _ _ _ _ (congrArg (fun z => some (vI z)) hf.1.symm) (by rw [← hf.2]; exact hP) hS dX6_namedDonor_35
  have L38 : ∀ (k38 : Nat) (y1 : Int) (V : Sz) (H : Heap) (locs : List Loc) (ls : Array Slot), lpF (bX6_namedDonor_38 n X T2 G) k38 (y1, V) = some (r, Vr) → va_P D vwCl (cs_X6 kA a V X b (d 0) ++ ([(b, .inl (kA 1, 900, .inl (aI T2)))] ++ (cs_X4 kA d G))) H → va_S A0 s.heap H locs → lv_has ls 2 [(0, .ref (a 0)), (1, vI y1)] → W p l e rmX6_namedDonor s m args below meth c H locs 0 0 Q (F0 m 38 ls []) := by
    intro k38
    induction k38 with
    | zero => intro y1 V H locs ls hf hP hS hl; exact lp_0 hf
    | succ k38 ih38 =>
      intro y1 V H locs ls hf hP hS hl
      have hf := lp_s hf
      rw [bX6_namedDonor_38_e] at hf
      refine ziload_n hC.1 hC.2.1 dX6_namedDonor_38 rfl (lv_at hl 1 rfl) <| lv_aload_n hC.1 hC.2.1 dX6_namedDonor_39 rfl (lv_at hl 0 rfl) <| gfX6_19 hC hK hP (q0 := 0) rfl rfl dX6_namedDonor_40 <| gfX6_99 hC hK hP (q0 := 3) rfl rfl dX6_namedDonor_43 <| ?_
      obtain ⟨hz_5, hf⟩ := ck_some hf
      refine zicmp_ge (tgt := 71) hC.1 hC.2.1 ⟨hz_5.1, hz_5.2⟩ dX6_namedDonor_46 (by decide) (fun hc => ?_) (fun hc => ?_)
      · have hf := it_t hf hc
        refine ziconst hC.1 hC.2.1 dX6_namedDonor_71 <| ?_
        have hf := Option.some.inj hf
        simp only [Prod.mk.injEq] at hf
        exact hret (Int32.ofInt (-1)) _ _ _ _ (congrArg (fun z => some (vI z)) hf.1.symm) (by rw [← hf.2]; exact hP) hS dX6_namedDonor_72
      · have hf := it_f hf hc
        refine lv_aload_n hC.1 hC.2.1 dX6_namedDonor_49 rfl (lv_at hl 0 rfl) <| gfX6_9 hC hK hP (q0 := 0) rfl rfl dX6_namedDonor_50 <| ziload_n hC.1 hC.2.1 dX6_namedDonor_53 rfl (lv_at hl 1 rfl) <| ?_
        obtain ⟨hz_6, hf⟩ := ck_some hf
        refine jlal hC hK hP (q0 := 1) rfl (Nat.le_of_ble_eq_true rfl) hz_6 rfl dX6_namedDonor_54 <| lv_aload_n hC.1 hC.2.1 dX6_namedDonor_55 rfl (lv_at hl 0 rfl) <| gfX6_57 hC hK hP (q0 := 0) rfl rfl dX6_namedDonor_56 <| ?_
        obtain ⟨hz_7, hf⟩ := ck_some hf
        refine zlcmp_ne (tgt := 65) hC.1 hC.2.1 ⟨hz_7.1, hz_7.2⟩ dX6_namedDonor_59 dX6_namedDonor_60 (by decide) (fun hc => ?_) (fun hc => ?_)
        · have hf := it_f hf hc
          obtain ⟨x_8, ex_8⟩ : ∃ y : Int, y = y1 + 1 := ⟨_, rfl⟩
          have hf := nm_at hf ex_8
          refine ziinc (v := x_8) (lv' := [(1, vI x_8), (0, .ref (a 0))]) hC.1 hC.2.1 dX6_namedDonor_65 hl (k := 1) rfl ex_8 (by decide) rfl (fun ls hl => ?_)
          exact lv_goto (tgt := 38) hC.1 hC.2.1 dX6_namedDonor_68 (by decide) <| ih38 _ _ _ _ _ hf hP hS (lv_sub hl [1, 0] rfl)
        · have hf := it_t hf hc
          refine ziload_n hC.1 hC.2.1 dX6_namedDonor_63 rfl (lv_at hl 1 rfl) <| ?_
          have hf := Option.some.inj hf
          simp only [Prod.mk.injEq] at hf
          exact hret (Int32.ofInt y1) _ _ _ _ (congrArg (fun z => some (vI z)) hf.1.symm) (by rw [← hf.2]; exact hP) hS dX6_namedDonor_64
  refine lv_aload_n hC.1 hC.2.1 dX6_namedDonor_0 rfl (lv_at hl 0 rfl) <| gfX6_54 hC hK hP (q0 := 0) rfl rfl dX6_namedDonor_1 <| ziconst hC.1 hC.2.1 dX6_namedDonor_4 <| ?_
  obtain ⟨hz_1, hf⟩ := ck_some hf
  refine zicmp_ne (tgt := 29) hC.1 hC.2.1 ⟨hz_1, (by decide)⟩ dX6_namedDonor_5 (by decide) (fun hc => ?_) (fun hc => ?_)
  · have hf := it_f hf hc
    exact J29 _ _ _ _ hf hP hS (lv_sub hl [0] rfl)
  · have hf := it_t hf hc
    refine lv_aload_n hC.1 hC.2.1 dX6_namedDonor_8 rfl (lv_at hl 0 rfl) <| gfX6_33 hC hK hP (q0 := 0) rfl rfl dX6_namedDonor_9 <| lv_aload_n hC.1 hC.2.1 dX6_namedDonor_12 rfl (lv_at hl 0 rfl) <| gfX6_160 hC hK hP (q0 := 0) rfl rfl dX6_namedDonor_13 <| zisub hC.1 hC.2.1 dX6_namedDonor_16 <| zbipush hC.1 hC.2.1 dX6_namedDonor_17 (by decide) <| ?_
    obtain ⟨hz_3, hf⟩ := ck_some hf
    refine zicmp_gt (tgt := 29) hC.1 hC.2.1 ⟨hz_3, (by decide)⟩ dX6_namedDonor_19 (by decide) (fun hc => ?_) (fun hc => ?_)
    · have hf := it_t hf hc
      exact J29 _ _ _ _ hf hP hS (lv_sub hl [0] rfl)
    · have hf := it_f hf hc
      refine lv_aload_n hC.1 hC.2.1 dX6_namedDonor_22 rfl (lv_at hl 0 rfl) <| ?_
      obtain ⟨r_4, hu, hf⟩ := bd_some hf
      refine zcVP (As := []) (rest := []) hC hK (met_X6_isFirstWord l D kA a (b) d V0 X T2 G hu) zwX6_163 hP (q0 := 0) rfl rfl rfl rfl hl.1 rfl (Nat.le_of_ble_eq_true rfl) ⟨Nat.le_of_ble_eq_true rfl, Nat.le_of_ble_eq_true rfl⟩ ⟨rfl, rfl⟩ ⟨Nat.le_refl _, Nat.le_refl _⟩ dX6_namedDonor_23 <| zifb_eq (tgt := 36) hC.1 hC.2.1 dX6_namedDonor_26 (by decide) (fun hc => ?_) (fun hc => ?_)
      · have hf := it_t hf hc
        refine ziconst hC.1 hC.2.1 dX6_namedDonor_36 <| zistore_n (lv' := [(1, vI 0), (0, .ref (a 0))]) hC.1 hC.2.1 dX6_namedDonor_37 rfl hl (by decide) rfl (fun ls hl => ?_)
        exact L38 n _ _ _ _ _ hf hP hS (lv_sub hl [1, 0] rfl)
      · have hf := it_f hf hc
        exact J29 _ _ _ _ hf hP hS (lv_sub hl [0] rfl)
theorem DX6_knownDonor_0 : ∀ q ∈ ([(0, .aload_n 0, 1), (1, .invokevirtual 102, 3), (4, .istore_n 1, 1), (5, .iload_n 1, 1), (6, .iconst (-1), 1), (7, .if_icmp .ne 8, 3), (10, .aload_n 0, 1), (11, .iconst 3, 1), (12, .invokevirtual 95, 3), (15, .iload_n 1, 1), (16, .ireturn, 1)] : List (Nat × Instr × Nat)), decode cX6_knownDonor q.1 = .ok q.2 := by decide +kernel
theorem dX6_knownDonor_0 : decode cX6_knownDonor 0 = .ok (.aload_n 0, 1) := DX6_knownDonor_0 (0, .aload_n 0, 1) (List.mem_of_getElem? (i := 0) rfl)
theorem dX6_knownDonor_1 : decode cX6_knownDonor 1 = .ok (.invokevirtual 102, 3) := DX6_knownDonor_0 (1, .invokevirtual 102, 3) (List.mem_of_getElem? (i := 1) rfl)
theorem dX6_knownDonor_4 : decode cX6_knownDonor 4 = .ok (.istore_n 1, 1) := DX6_knownDonor_0 (4, .istore_n 1, 1) (List.mem_of_getElem? (i := 2) rfl)
theorem dX6_knownDonor_5 : decode cX6_knownDonor 5 = .ok (.iload_n 1, 1) := DX6_knownDonor_0 (5, .iload_n 1, 1) (List.mem_of_getElem? (i := 3) rfl)
theorem dX6_knownDonor_6 : decode cX6_knownDonor 6 = .ok (.iconst (-1), 1) := DX6_knownDonor_0 (6, .iconst (-1), 1) (List.mem_of_getElem? (i := 4) rfl)
theorem dX6_knownDonor_7 : decode cX6_knownDonor 7 = .ok (.if_icmp .ne 8, 3) := DX6_knownDonor_0 (7, .if_icmp .ne 8, 3) (List.mem_of_getElem? (i := 5) rfl)
theorem dX6_knownDonor_10 : decode cX6_knownDonor 10 = .ok (.aload_n 0, 1) := DX6_knownDonor_0 (10, .aload_n 0, 1) (List.mem_of_getElem? (i := 6) rfl)
theorem dX6_knownDonor_11 : decode cX6_knownDonor 11 = .ok (.iconst 3, 1) := DX6_knownDonor_0 (11, .iconst 3, 1) (List.mem_of_getElem? (i := 7) rfl)
theorem dX6_knownDonor_12 : decode cX6_knownDonor 12 = .ok (.invokevirtual 95, 3) := DX6_knownDonor_0 (12, .invokevirtual 95, 3) (List.mem_of_getElem? (i := 8) rfl)
theorem dX6_knownDonor_15 : decode cX6_knownDonor 15 = .ok (.iload_n 1, 1) := DX6_knownDonor_0 (15, .iload_n 1, 1) (List.mem_of_getElem? (i := 9) rfl)
theorem dX6_knownDonor_16 : decode cX6_knownDonor 16 = .ok (.ireturn, 1) := DX6_knownDonor_0 (16, .ireturn, 1) (List.mem_of_getElem? (i := 10) rfl)
abbrev rmX6_knownDonor : Room := { frames := 2, cells := 0, slots := 0, locals := 42 }
set_option maxHeartbeats 400000 in
set_option maxRecDepth 100000 in
theorem met_X6_knownDonor (l : Launch) (D : va_G) (kA : Nat → ClassId) (a : Nat → Nat) (b : Nat) (d : Nat → Nat) (n : Nat) (V0 : Sz) (X : Sz) (T2 : Nat → Int) (G : Sz) (hDt : ∀ w : Sz, va_D (fun _ => True) (cs_X6 kA a w X b (d 0) ++ ([(b, .inl (kA 1, 900, .inl (aI T2)))] ++ (cs_X4 kA d G)))) {r : Int} {Vr : Sz} (hf : f_X6_knownDonor n V0 X T2 G = some (r, Vr)) : MZ l yX6_knownDonor cX6_knownDonor 2 (some .int) rmX6_knownDonor D kA [.ref (a 0)] (cs_X6 kA a V0 X b (d 0) ++ ([(b, .inl (kA 1, 900, .inl (aI T2)))] ++ (cs_X4 kA d G))) (cs_X6 kA a Vr X b (d 0) ++ ([(b, .inl (kA 1, 900, .inl (aI T2)))] ++ (cs_X4 kA d G))) (some (vI r)) := by
  refine zZI (own := RX6) rfl rfl (Nat.le_of_ble_eq_true rfl) ?_
  intro p e s m args below meth c ls Q hC hK hP hl hret
  have hl : lv_has ls 2 [(0, .ref (a 0))] := hl
  have hS : va_S (zF (cs_X6 kA a V0 X b (d 0) ++ ([(b, .inl (kA 1, 900, .inl (aI T2)))] ++ (cs_X4 kA d G)))) s.heap s.heap [] := va_S.rf
  have hD := zDself (C := fun w : Sz => (cs_X6 kA a w X b (d 0) ++ ([(b, .inl (kA 1, 900, .inl (aI T2)))] ++ (cs_X4 kA d G)))) hDt V0 (fun _ => rfl)
  try dsimp only at hD
  generalize hAe : zF (cs_X6 kA a V0 X b (d 0) ++ ([(b, .inl (kA 1, 900, .inl (aI T2)))] ++ (cs_X4 kA d G))) = A0 at hS hD hret
  unfold f_X6_knownDonor at hf
  refine lv_aload_n hC.1 hC.2.1 dX6_knownDonor_0 rfl (lv_at hl 0 rfl) <| ?_
  obtain ⟨⟨r_1, V_2⟩, hu, hf⟩ := bd_some hf
  have hDc := hDt
  refine zcVZ (As := []) (rest := []) hC hK (met_X6_namedDonor l D kA a (b) d n V0 X T2 G hDc hu) zwX6_102 hS (zFsub (hD V0) [0, 1, 2, 3, 4, 5, 6, 7, 8, 9, 10, 11, 12, 13, 14, 15, 16, 17, 18, 19, 20, 21, 22, 23, 24, 25, 26] rfl) hP (q0 := 0) rfl rfl rfl rfl hl.1 rfl (Nat.le_of_ble_eq_true rfl) ⟨Nat.le_of_ble_eq_true rfl, Nat.le_of_ble_eq_true rfl⟩ ⟨rfl, rfl⟩ ⟨Nat.le_refl _, Nat.le_refl _⟩ dX6_knownDonor_1 (fun H locs hP1 hk1 hS => ?_)
  have hP : va_P D vwCl (cs_X6 kA a V_2 X b (d 0) ++ ([(b, .inl (kA 1, 900, .inl (aI T2)))] ++ (cs_X4 kA d G))) H := hP1
  refine zistore_n (lv' := [(1, vI r_1), (0, .ref (a 0))]) hC.1 hC.2.1 dX6_knownDonor_4 rfl hl (by decide) rfl (fun ls hl => ?_)
  refine ziload_n hC.1 hC.2.1 dX6_knownDonor_5 rfl (lv_at hl 0 rfl) <| ziconst hC.1 hC.2.1 dX6_knownDonor_6 <| ?_
  obtain ⟨hz_3, hf⟩ := ck_some hf
  refine zicmp_ne (tgt := 15) hC.1 hC.2.1 ⟨hz_3, (by decide)⟩ dX6_knownDonor_7 (by decide) (fun hc => ?_) (fun hc => ?_)
  · have hf := it_f hf hc
    refine ziload_n hC.1 hC.2.1 dX6_knownDonor_15 rfl (lv_at hl 0 rfl) <| ?_
    have hf := Option.some.inj hf
    simp only [Prod.mk.injEq] at hf
    exact hret (Int32.ofInt r_1) _ _ _ _ (congrArg (fun z => some (vI z)) hf.1.symm) (by rw [← hf.2]; exact hP) hS dX6_knownDonor_16
  · have hf := it_t hf hc
    refine lv_aload_n hC.1 hC.2.1 dX6_knownDonor_10 rfl (lv_at hl 1 rfl) <| ziconst hC.1 hC.2.1 dX6_knownDonor_11 <| ?_
    obtain ⟨V_4, hu, hf⟩ := bd_some hf
    have hDc := hDt
    refine zcVZ (As := [vI 3]) (rest := []) hC hK (met_X6_fail l D kA a (b) d V_2 X T2 G 3 hDc hu) zwX6_95 hS (zFsub (hD V_2) [0, 1, 2, 3, 4, 5, 6, 7, 8, 9, 10, 11, 12, 13, 14, 15, 16, 17, 18, 19, 20, 21, 22, 23, 24, 25, 26] rfl) hP (q0 := 0) rfl rfl rfl rfl hl.1 rfl (Nat.le_of_ble_eq_true rfl) ⟨Nat.le_of_ble_eq_true rfl, Nat.le_of_ble_eq_true rfl⟩ ⟨rfl, rfl⟩ ⟨Nat.le_refl _, Nat.le_refl _⟩ dX6_knownDonor_12 (fun H locs hP1 hk1 hS => ?_)
    have hP : va_P D vwCl (cs_X6 kA a V_4 X b (d 0) ++ ([(b, .inl (kA 1, 900, .inl (aI T2)))] ++ (cs_X4 kA d G))) H := hP1
    refine ziload_n hC.1 hC.2.1 dX6_knownDonor_15 rfl (lv_at hl 0 rfl) <| ?_
    have hf := Option.some.inj hf
    simp only [Prod.mk.injEq] at hf
    exact hret (Int32.ofInt r_1) _ _ _ _ (congrArg (fun z => some (vI z)) hf.1.symm) (by rw [← hf.2]; exact hP) hS dX6_knownDonor_16
theorem DX6_readShare_0 : ∀ q ∈ ([(0, .aload_n 0, 1), (1, .invokevirtual 122, 3), (4, .istore_n 2, 1), (5, .iload_n 1, 1), (6, .iconst (-1), 1), (7, .if_icmp .eq 23, 3), (10, .aload_n 0, 1), (11, .getfield 19, 3), (14, .getfield 129, 3), (17, .iload_n 1, 1), (18, .iload_n 2, 1), (19, .invokevirtual 144, 3), (22, .ifCond .eq 8, 3), (25, .aload_n 0, 1), (26, .iconst 3, 1), (27, .invokevirtual 95, 3), (30, .aload_n 0, 1), (31, .iconst 1, 1), (32, .bipush 9, 2), (34, .invokevirtual 106, 3), (37, .istore_n 3, 1), (38, .aload_n 0, 1), (39, .getfield 36, 3), (42, .ifCond .ne 16, 3), (45, .aload_n 0, 1), (46, .getfield 19, 3), (49, .getfield 129, 3), (52, .iload_n 1, 1), (53, .iload_n 2, 1), (54, .iload_n 3, 1), (55, .invokevirtual 133, 3), (58, .return_, 1)] : List (Nat × Instr × Nat)), decode cX6_readShare q.1 = .ok q.2 := by decide +kernel
theorem dX6_readShare_0 : decode cX6_readShare 0 = .ok (.aload_n 0, 1) := DX6_readShare_0 (0, .aload_n 0, 1) (List.mem_of_getElem? (i := 0) rfl)
theorem dX6_readShare_1 : decode cX6_readShare 1 = .ok (.invokevirtual 122, 3) := DX6_readShare_0 (1, .invokevirtual 122, 3) (List.mem_of_getElem? (i := 1) rfl)
theorem dX6_readShare_4 : decode cX6_readShare 4 = .ok (.istore_n 2, 1) := DX6_readShare_0 (4, .istore_n 2, 1) (List.mem_of_getElem? (i := 2) rfl)
theorem dX6_readShare_5 : decode cX6_readShare 5 = .ok (.iload_n 1, 1) := DX6_readShare_0 (5, .iload_n 1, 1) (List.mem_of_getElem? (i := 3) rfl)
theorem dX6_readShare_6 : decode cX6_readShare 6 = .ok (.iconst (-1), 1) := DX6_readShare_0 (6, .iconst (-1), 1) (List.mem_of_getElem? (i := 4) rfl)
theorem dX6_readShare_7 : decode cX6_readShare 7 = .ok (.if_icmp .eq 23, 3) := DX6_readShare_0 (7, .if_icmp .eq 23, 3) (List.mem_of_getElem? (i := 5) rfl)
theorem dX6_readShare_10 : decode cX6_readShare 10 = .ok (.aload_n 0, 1) := DX6_readShare_0 (10, .aload_n 0, 1) (List.mem_of_getElem? (i := 6) rfl)
theorem dX6_readShare_11 : decode cX6_readShare 11 = .ok (.getfield 19, 3) := DX6_readShare_0 (11, .getfield 19, 3) (List.mem_of_getElem? (i := 7) rfl)
theorem dX6_readShare_14 : decode cX6_readShare 14 = .ok (.getfield 129, 3) := DX6_readShare_0 (14, .getfield 129, 3) (List.mem_of_getElem? (i := 8) rfl)
theorem dX6_readShare_17 : decode cX6_readShare 17 = .ok (.iload_n 1, 1) := DX6_readShare_0 (17, .iload_n 1, 1) (List.mem_of_getElem? (i := 9) rfl)
theorem dX6_readShare_18 : decode cX6_readShare 18 = .ok (.iload_n 2, 1) := DX6_readShare_0 (18, .iload_n 2, 1) (List.mem_of_getElem? (i := 10) rfl)
theorem dX6_readShare_19 : decode cX6_readShare 19 = .ok (.invokevirtual 144, 3) := DX6_readShare_0 (19, .invokevirtual 144, 3) (List.mem_of_getElem? (i := 11) rfl)
theorem dX6_readShare_22 : decode cX6_readShare 22 = .ok (.ifCond .eq 8, 3) := DX6_readShare_0 (22, .ifCond .eq 8, 3) (List.mem_of_getElem? (i := 12) rfl)
theorem dX6_readShare_25 : decode cX6_readShare 25 = .ok (.aload_n 0, 1) := DX6_readShare_0 (25, .aload_n 0, 1) (List.mem_of_getElem? (i := 13) rfl)
theorem dX6_readShare_26 : decode cX6_readShare 26 = .ok (.iconst 3, 1) := DX6_readShare_0 (26, .iconst 3, 1) (List.mem_of_getElem? (i := 14) rfl)
theorem dX6_readShare_27 : decode cX6_readShare 27 = .ok (.invokevirtual 95, 3) := DX6_readShare_0 (27, .invokevirtual 95, 3) (List.mem_of_getElem? (i := 15) rfl)
theorem dX6_readShare_30 : decode cX6_readShare 30 = .ok (.aload_n 0, 1) := DX6_readShare_0 (30, .aload_n 0, 1) (List.mem_of_getElem? (i := 16) rfl)
theorem dX6_readShare_31 : decode cX6_readShare 31 = .ok (.iconst 1, 1) := DX6_readShare_0 (31, .iconst 1, 1) (List.mem_of_getElem? (i := 17) rfl)
theorem dX6_readShare_32 : decode cX6_readShare 32 = .ok (.bipush 9, 2) := DX6_readShare_0 (32, .bipush 9, 2) (List.mem_of_getElem? (i := 18) rfl)
theorem dX6_readShare_34 : decode cX6_readShare 34 = .ok (.invokevirtual 106, 3) := DX6_readShare_0 (34, .invokevirtual 106, 3) (List.mem_of_getElem? (i := 19) rfl)
theorem dX6_readShare_37 : decode cX6_readShare 37 = .ok (.istore_n 3, 1) := DX6_readShare_0 (37, .istore_n 3, 1) (List.mem_of_getElem? (i := 20) rfl)
theorem dX6_readShare_38 : decode cX6_readShare 38 = .ok (.aload_n 0, 1) := DX6_readShare_0 (38, .aload_n 0, 1) (List.mem_of_getElem? (i := 21) rfl)
theorem dX6_readShare_39 : decode cX6_readShare 39 = .ok (.getfield 36, 3) := DX6_readShare_0 (39, .getfield 36, 3) (List.mem_of_getElem? (i := 22) rfl)
theorem dX6_readShare_42 : decode cX6_readShare 42 = .ok (.ifCond .ne 16, 3) := DX6_readShare_0 (42, .ifCond .ne 16, 3) (List.mem_of_getElem? (i := 23) rfl)
theorem dX6_readShare_45 : decode cX6_readShare 45 = .ok (.aload_n 0, 1) := DX6_readShare_0 (45, .aload_n 0, 1) (List.mem_of_getElem? (i := 24) rfl)
theorem dX6_readShare_46 : decode cX6_readShare 46 = .ok (.getfield 19, 3) := DX6_readShare_0 (46, .getfield 19, 3) (List.mem_of_getElem? (i := 25) rfl)
theorem dX6_readShare_49 : decode cX6_readShare 49 = .ok (.getfield 129, 3) := DX6_readShare_0 (49, .getfield 129, 3) (List.mem_of_getElem? (i := 26) rfl)
theorem dX6_readShare_52 : decode cX6_readShare 52 = .ok (.iload_n 1, 1) := DX6_readShare_0 (52, .iload_n 1, 1) (List.mem_of_getElem? (i := 27) rfl)
theorem dX6_readShare_53 : decode cX6_readShare 53 = .ok (.iload_n 2, 1) := DX6_readShare_0 (53, .iload_n 2, 1) (List.mem_of_getElem? (i := 28) rfl)
theorem dX6_readShare_54 : decode cX6_readShare 54 = .ok (.iload_n 3, 1) := DX6_readShare_0 (54, .iload_n 3, 1) (List.mem_of_getElem? (i := 29) rfl)
theorem dX6_readShare_55 : decode cX6_readShare 55 = .ok (.invokevirtual 133, 3) := DX6_readShare_0 (55, .invokevirtual 133, 3) (List.mem_of_getElem? (i := 30) rfl)
theorem dX6_readShare_58 : decode cX6_readShare 58 = .ok (.return_, 1) := DX6_readShare_0 (58, .return_, 1) (List.mem_of_getElem? (i := 31) rfl)
abbrev rmX6_readShare : Room := { frames := 3, cells := 0, slots := 0, locals := 67 }
set_option maxHeartbeats 400000 in
set_option maxRecDepth 100000 in
theorem met_X6_readShare (l : Launch) (D : va_G) (kA : Nat → ClassId) (a : Nat → Nat) (b : Nat) (d : Nat → Nat) (n : Nat) (V0 : Sz) (X0 : Sz) (T2 : Nat → Int) (G0 : Sz) (x1 : Int) (hDt : ∀ w : Sz × Sz × Sz, va_D (fun _ => True) (cs_X6 kA a w.1 w.2.1 b (d 0) ++ ([(b, .inl (kA 1, 900, .inl (aI T2)))] ++ (cs_X4 kA d w.2.2)))) {Vr : Sz} {Xr : Sz} {Gr : Sz} (hf : f_X6_readShare n V0 X0 T2 G0 x1 = some (Vr, Xr, Gr)) : MZ l yX6_readShare cX6_readShare 4 none rmX6_readShare D kA [.ref (a 0), vI x1] (cs_X6 kA a V0 X0 b (d 0) ++ ([(b, .inl (kA 1, 900, .inl (aI T2)))] ++ (cs_X4 kA d G0))) (cs_X6 kA a Vr Xr b (d 0) ++ ([(b, .inl (kA 1, 900, .inl (aI T2)))] ++ (cs_X4 kA d Gr))) (none) := by
  refine zZV (own := RX6) rfl rfl (Nat.le_of_ble_eq_true rfl) ?_
  intro p e s m args below meth c ls Q hC hK hP hl hret
  have hl : lv_has ls 4 [(0, .ref (a 0)), (1, vI x1)] := hl
  have hS : va_S (zF (cs_X6 kA a V0 X0 b (d 0) ++ ([(b, .inl (kA 1, 900, .inl (aI T2)))] ++ (cs_X4 kA d G0)))) s.heap s.heap [] := va_S.rf
  have hD := zDself (C := fun w : Sz × Sz × Sz => (cs_X6 kA a w.1 w.2.1 b (d 0) ++ ([(b, .inl (kA 1, 900, .inl (aI T2)))] ++ (cs_X4 kA d w.2.2)))) hDt (V0, X0, G0) (fun _ => rfl)
  try dsimp only at hD
  generalize hAe : zF (cs_X6 kA a V0 X0 b (d 0) ++ ([(b, .inl (kA 1, 900, .inl (aI T2)))] ++ (cs_X4 kA d G0))) = A0 at hS hD hret
  unfold f_X6_readShare at hf
  have J30 : ∀ (y2 : Int) (V : Sz) (X : Sz) (G : Sz) (H : Heap) (locs : List Loc) (ls : Array Slot), jX6_readShare_30 n T2 x1 y2 V X G = some (Vr, Xr, Gr) → va_P D vwCl (cs_X6 kA a V X b (d 0) ++ ([(b, .inl (kA 1, 900, .inl (aI T2)))] ++ (cs_X4 kA d G))) H → va_S A0 s.heap H locs → lv_has ls 4 [(0, .ref (a 0)), (1, vI x1), (2, vI y2)] → W p l e rmX6_readShare s m args below meth c H locs 0 0 Q (F0 m 30 ls []) := by
    intro y2 V X G H locs ls hf hP hS hl
    unfold jX6_readShare_30 at hf
    refine lv_aload_n hC.1 hC.2.1 dX6_readShare_30 rfl (lv_at hl 0 rfl) <| ziconst hC.1 hC.2.1 dX6_readShare_31 <| zbipush hC.1 hC.2.1 dX6_readShare_32 (by decide) <| ?_
    obtain ⟨⟨r_4, V_5, X_6⟩, hu, hf⟩ := bd_some hf
    have hDc : ∀ w : Sz × Sz, va_D (fun _ => True) (cs_X6 kA a w.1 w.2 (b) (d 0) ++ ([((b), .inl (kA 1, 900, .inl (aI T2)))] ++ (cs_X4 kA d G))) := fun w => (hDt (w.1, w.2, G)).sub [0, 1, 2, 3, 4, 5, 6, 7, 8, 9, 10, 11, 12, 13, 14, 15, 16, 17, 18, 19, 20, 21, 22, 23, 24, 25, 26] (by decide) rfl
    refine zcVZ (As := [vI 1, vI 9]) (rest := []) hC hK (met_X6_readNumber l D kA a (b) d n V X T2 G 1 9 hDc hu) zwX6_106 hS (zFsub (hD (V, X, G)) [0, 1, 2, 3, 4, 5, 6, 7, 8, 9, 10, 11, 12, 13, 14, 15, 16, 17, 18, 19, 20, 21, 22, 23, 24, 25, 26] rfl) hP (q0 := 0) rfl rfl rfl rfl hl.1 rfl (Nat.le_of_ble_eq_true rfl) ⟨Nat.le_of_ble_eq_true rfl, Nat.le_of_ble_eq_true rfl⟩ ⟨rfl, rfl⟩ ⟨Nat.le_refl _, Nat.le_refl _⟩ dX6_readShare_34 (fun H locs hP1 hk1 hS => ?_)
    have hP : va_P D vwCl (cs_X6 kA a V_5 X_6 b (d 0) ++ ([(b, .inl (kA 1, 900, .inl (aI T2)))] ++ (cs_X4 kA d G))) H := hP1
    refine zistore_n (lv' := [(3, vI r_4), (0, .ref (a 0)), (1, vI x1), (2, vI y2)]) hC.1 hC.2.1 dX6_readShare_37 rfl hl (by decide) rfl (fun ls hl => ?_)
    refine lv_aload_n hC.1 hC.2.1 dX6_readShare_38 rfl (lv_at hl 1 rfl) <| gfX6_36 hC hK hP (q0 := 0) rfl rfl dX6_readShare_39 <| ?_
    obtain ⟨hz_7, hf⟩ := ck_some hf
    refine zif_ne (tgt := 58) hC.1 hC.2.1 hz_7 dX6_readShare_42 (by decide) (fun hc => ?_) (fun hc => ?_)
    · have hf := it_f hf hc
      have hf := Option.some.inj hf
      simp only [Prod.mk.injEq] at hf
      exact hret _ _ _ _ rfl (by rw [← hf.1, ← hf.2.1, ← hf.2.2]; exact hP) hS dX6_readShare_58
    · have hf := it_t hf hc
      refine lv_aload_n hC.1 hC.2.1 dX6_readShare_45 rfl (lv_at hl 1 rfl) <| gfX6_19 hC hK hP (q0 := 0) rfl rfl dX6_readShare_46 <| gfX6_129 hC hK hP (q0 := 3) rfl rfl dX6_readShare_49 <| ziload_n hC.1 hC.2.1 dX6_readShare_52 rfl (lv_at hl 2 rfl) <| ziload_n hC.1 hC.2.1 dX6_readShare_53 rfl (lv_at hl 3 rfl) <| ziload_n hC.1 hC.2.1 dX6_readShare_54 rfl (lv_at hl 0 rfl) <| ?_
      obtain ⟨G_8, hu, hf⟩ := bd_some hf
      have hPc : va_P D vwCl (cs_X3 kA (sv 6 d) (sv 9 G)) _ := hP.sub [9, 10, 11, 12, 13, 14, 15, 16, 17, 18, 19, 20] rfl
      have hDc : ∀ w : Sz, va_D (fun _ => True) (cs_X3 kA (sv 6 d) w) := fun w => (hDt (V_5, X_6, sw 9 12 G w)).sub [9, 10, 11, 12, 13, 14, 15, 16, 17, 18, 19, 20] (by decide) rfl
      refine zcVZ (As := [vI x1, vI y2, vI r_4]) (rest := []) hC hK (met_X3_addPart l D kA (sv 6 d) n (sv 9 G) x1 y2 r_4 hDc hu) zwX6_133 hS (zFsub (hD (V_5, X_6, G)) [9, 10, 11, 12, 13, 14, 15, 16, 17, 18, 19, 20] rfl) hPc (q0 := 0) rfl rfl rfl rfl hl.1 rfl (Nat.le_of_ble_eq_true rfl) ⟨Nat.le_of_ble_eq_true rfl, Nat.le_of_ble_eq_true rfl⟩ ⟨rfl, rfl⟩ ⟨Nat.le_refl _, Nat.le_refl _⟩ dX6_readShare_55 (fun H locs hP1 hk1 hS => ?_)
      obtain ⟨G_9, eG_9⟩ : ∃ y, y = sw 9 12 G G_8 := ⟨_, rfl⟩
      have hf := nm_at hf eG_9
      have hP : va_P D vwCl (cs_X6 kA a V_5 X_6 b (d 0) ++ ([(b, .inl (kA 1, 900, .inl (aI T2)))] ++ (cs_X4 kA d G_9))) H := by rw [eG_9]; exact zjoinC (wb0 := (cs_X3 kA (sv 6 d) (sv 9 G))) (wb1 := (cs_X3 kA (sv 6 d) G_8)) hP (hDt (V_5, X_6, G)) 9 12 [9, 10, 11, 12, 13, 14, 15, 16, 17, 18, 19, 20] rfl rfl rfl rfl hk1 hP1
      have hf := Option.some.inj hf
      simp only [Prod.mk.injEq] at hf
      exact hret _ _ _ _ rfl (by rw [← hf.1, ← hf.2.1, ← hf.2.2]; exact hP) hS dX6_readShare_58
  refine lv_aload_n hC.1 hC.2.1 dX6_readShare_0 rfl (lv_at hl 0 rfl) <| ?_
  obtain ⟨⟨r_1, V_2⟩, hu, hf⟩ := bd_some hf
  have hDc : ∀ w : Sz, va_D (fun _ => True) (cs_X6 kA a w X0 (b) (d 0) ++ ([((b), .inl (kA 1, 900, .inl (aI T2)))] ++ (cs_X4 kA d G0))) := fun w => (hDt (w, X0, G0)).sub [0, 1, 2, 3, 4, 5, 6, 7, 8, 9, 10, 11, 12, 13, 14, 15, 16, 17, 18, 19, 20, 21, 22, 23, 24, 25, 26] (by decide) rfl
  refine zcVZ (As := []) (rest := []) hC hK (met_X6_knownDonor l D kA a (b) d n V0 X0 T2 G0 hDc hu) zwX6_122 hS (zFsub (hD (V0, X0, G0)) [0, 1, 2, 3, 4, 5, 6, 7, 8, 9, 10, 11, 12, 13, 14, 15, 16, 17, 18, 19, 20, 21, 22, 23, 24, 25, 26] rfl) hP (q0 := 0) rfl rfl rfl rfl hl.1 rfl (Nat.le_of_ble_eq_true rfl) ⟨Nat.le_of_ble_eq_true rfl, Nat.le_of_ble_eq_true rfl⟩ ⟨rfl, rfl⟩ ⟨Nat.le_refl _, Nat.le_refl _⟩ dX6_readShare_1 (fun H locs hP1 hk1 hS => ?_)
  have hP : va_P D vwCl (cs_X6 kA a V_2 X0 b (d 0) ++ ([(b, .inl (kA 1, 900, .inl (aI T2)))] ++ (cs_X4 kA d G0))) H := hP1
  refine zistore_n (lv' := [(2, vI r_1), (0, .ref (a 0)), (1, vI x1)]) hC.1 hC.2.1 dX6_readShare_4 rfl hl (by decide) rfl (fun ls hl => ?_)
  refine ziload_n hC.1 hC.2.1 dX6_readShare_5 rfl (lv_at hl 2 rfl) <| ziconst hC.1 hC.2.1 dX6_readShare_6 <| ?_
  obtain ⟨hz_3, hf⟩ := ck_some hf
  refine zicmp_eq (tgt := 30) hC.1 hC.2.1 ⟨hz_3, (by decide)⟩ dX6_readShare_7 (by decide) (fun hc => ?_) (fun hc => ?_)
  · have hf := it_t hf hc
    exact J30 _ _ _ _ _ _ _ hf hP hS (lv_sub hl [1, 2, 0] rfl)
  · have hf := it_f hf hc
    refine lv_aload_n hC.1 hC.2.1 dX6_readShare_10 rfl (lv_at hl 1 rfl) <| gfX6_19 hC hK hP (q0 := 0) rfl rfl dX6_readShare_11 <| gfX6_129 hC hK hP (q0 := 3) rfl rfl dX6_readShare_14 <| ziload_n hC.1 hC.2.1 dX6_readShare_17 rfl (lv_at hl 2 rfl) <| ziload_n hC.1 hC.2.1 dX6_readShare_18 rfl (lv_at hl 0 rfl) <| ?_
    obtain ⟨r_10, hu, hf⟩ := bd_some hf
    have hPc : va_P D vwCl (cs_X3 kA (sv 6 d) (sv 9 G0)) _ := hP.sub [9, 10, 11, 12, 13, 14, 15, 16, 17, 18, 19, 20] rfl
    refine zcVP (As := [vI x1, vI r_1]) (rest := []) hC hK (met_X3_hasDonor l D kA (sv 6 d) n (sv 9 G0) x1 r_1 hu) zwX6_144 hPc (q0 := 0) rfl rfl rfl rfl hl.1 rfl (Nat.le_of_ble_eq_true rfl) ⟨Nat.le_of_ble_eq_true rfl, Nat.le_of_ble_eq_true rfl⟩ ⟨rfl, rfl⟩ ⟨Nat.le_refl _, Nat.le_refl _⟩ dX6_readShare_19 <| zifb_eq (tgt := 30) hC.1 hC.2.1 dX6_readShare_22 (by decide) (fun hc => ?_) (fun hc => ?_)
    · have hf := it_t hf hc
      exact J30 _ _ _ _ _ _ _ hf hP hS (lv_sub hl [1, 2, 0] rfl)
    · have hf := it_f hf hc
      refine lv_aload_n hC.1 hC.2.1 dX6_readShare_25 rfl (lv_at hl 1 rfl) <| ziconst hC.1 hC.2.1 dX6_readShare_26 <| ?_
      obtain ⟨V_11, hu, hf⟩ := bd_some hf
      have hDc : ∀ w : Sz, va_D (fun _ => True) (cs_X6 kA a w X0 (b) (d 0) ++ ([((b), .inl (kA 1, 900, .inl (aI T2)))] ++ (cs_X4 kA d G0))) := fun w => (hDt (w, X0, G0)).sub [0, 1, 2, 3, 4, 5, 6, 7, 8, 9, 10, 11, 12, 13, 14, 15, 16, 17, 18, 19, 20, 21, 22, 23, 24, 25, 26] (by decide) rfl
      refine zcVZ (As := [vI 3]) (rest := []) hC hK (met_X6_fail l D kA a (b) d V_2 X0 T2 G0 3 hDc hu) zwX6_95 hS (zFsub (hD (V_2, X0, G0)) [0, 1, 2, 3, 4, 5, 6, 7, 8, 9, 10, 11, 12, 13, 14, 15, 16, 17, 18, 19, 20, 21, 22, 23, 24, 25, 26] rfl) hP (q0 := 0) rfl rfl rfl rfl hl.1 rfl (Nat.le_of_ble_eq_true rfl) ⟨Nat.le_of_ble_eq_true rfl, Nat.le_of_ble_eq_true rfl⟩ ⟨rfl, rfl⟩ ⟨Nat.le_refl _, Nat.le_refl _⟩ dX6_readShare_27 (fun H locs hP1 hk1 hS => ?_)
      have hP : va_P D vwCl (cs_X6 kA a V_11 X0 b (d 0) ++ ([(b, .inl (kA 1, 900, .inl (aI T2)))] ++ (cs_X4 kA d G0))) H := hP1
      exact J30 _ _ _ _ _ _ _ hf hP hS (lv_sub hl [1, 2, 0] rfl)
theorem DX6_readSplit_0 : ∀ q ∈ ([(0, .aload_n 0, 1), (1, .invokevirtual 83, 3), (4, .istore_n 1, 1), (5, .aload_n 0, 1), (6, .invokevirtual 51, 3), (9, .aload_n 0, 1), (10, .iload_n 1, 1), (11, .invokevirtual 139, 3), (14, .aload_n 0, 1), (15, .invokevirtual 51, 3), (18, .aload_n 0, 1), (19, .iload_n 1, 1), (20, .invokevirtual 139, 3), (23, .aload_n 0, 1), (24, .invokevirtual 51, 3), (27, .aload_n 0, 1), (28, .getfield 54, 3), (31, .iconst 3, 1), (32, .if_icmp .eq 12, 3), (35, .aload_n 0, 1), (36, .iload_n 1, 1), (37, .invokevirtual 139, 3), (40, .aload_n 0, 1), (41, .invokevirtual 87, 3), (44, .return_, 1)] : List (Nat × Instr × Nat)), decode cX6_readSplit q.1 = .ok q.2 := by decide +kernel
theorem dX6_readSplit_0 : decode cX6_readSplit 0 = .ok (.aload_n 0, 1) := DX6_readSplit_0 (0, .aload_n 0, 1) (List.mem_of_getElem? (i := 0) rfl)
theorem dX6_readSplit_1 : decode cX6_readSplit 1 = .ok (.invokevirtual 83, 3) := DX6_readSplit_0 (1, .invokevirtual 83, 3) (List.mem_of_getElem? (i := 1) rfl)
theorem dX6_readSplit_4 : decode cX6_readSplit 4 = .ok (.istore_n 1, 1) := DX6_readSplit_0 (4, .istore_n 1, 1) (List.mem_of_getElem? (i := 2) rfl)
theorem dX6_readSplit_5 : decode cX6_readSplit 5 = .ok (.aload_n 0, 1) := DX6_readSplit_0 (5, .aload_n 0, 1) (List.mem_of_getElem? (i := 3) rfl)
theorem dX6_readSplit_6 : decode cX6_readSplit 6 = .ok (.invokevirtual 51, 3) := DX6_readSplit_0 (6, .invokevirtual 51, 3) (List.mem_of_getElem? (i := 4) rfl)
theorem dX6_readSplit_9 : decode cX6_readSplit 9 = .ok (.aload_n 0, 1) := DX6_readSplit_0 (9, .aload_n 0, 1) (List.mem_of_getElem? (i := 5) rfl)
theorem dX6_readSplit_10 : decode cX6_readSplit 10 = .ok (.iload_n 1, 1) := DX6_readSplit_0 (10, .iload_n 1, 1) (List.mem_of_getElem? (i := 6) rfl)
theorem dX6_readSplit_11 : decode cX6_readSplit 11 = .ok (.invokevirtual 139, 3) := DX6_readSplit_0 (11, .invokevirtual 139, 3) (List.mem_of_getElem? (i := 7) rfl)
theorem dX6_readSplit_14 : decode cX6_readSplit 14 = .ok (.aload_n 0, 1) := DX6_readSplit_0 (14, .aload_n 0, 1) (List.mem_of_getElem? (i := 8) rfl)
theorem dX6_readSplit_15 : decode cX6_readSplit 15 = .ok (.invokevirtual 51, 3) := DX6_readSplit_0 (15, .invokevirtual 51, 3) (List.mem_of_getElem? (i := 9) rfl)
theorem dX6_readSplit_18 : decode cX6_readSplit 18 = .ok (.aload_n 0, 1) := DX6_readSplit_0 (18, .aload_n 0, 1) (List.mem_of_getElem? (i := 10) rfl)
theorem dX6_readSplit_19 : decode cX6_readSplit 19 = .ok (.iload_n 1, 1) := DX6_readSplit_0 (19, .iload_n 1, 1) (List.mem_of_getElem? (i := 11) rfl)
theorem dX6_readSplit_20 : decode cX6_readSplit 20 = .ok (.invokevirtual 139, 3) := DX6_readSplit_0 (20, .invokevirtual 139, 3) (List.mem_of_getElem? (i := 12) rfl)
theorem dX6_readSplit_23 : decode cX6_readSplit 23 = .ok (.aload_n 0, 1) := DX6_readSplit_0 (23, .aload_n 0, 1) (List.mem_of_getElem? (i := 13) rfl)
theorem dX6_readSplit_24 : decode cX6_readSplit 24 = .ok (.invokevirtual 51, 3) := DX6_readSplit_0 (24, .invokevirtual 51, 3) (List.mem_of_getElem? (i := 14) rfl)
theorem dX6_readSplit_27 : decode cX6_readSplit 27 = .ok (.aload_n 0, 1) := DX6_readSplit_0 (27, .aload_n 0, 1) (List.mem_of_getElem? (i := 15) rfl)
theorem dX6_readSplit_28 : decode cX6_readSplit 28 = .ok (.getfield 54, 3) := DX6_readSplit_0 (28, .getfield 54, 3) (List.mem_of_getElem? (i := 16) rfl)
theorem dX6_readSplit_31 : decode cX6_readSplit 31 = .ok (.iconst 3, 1) := DX6_readSplit_0 (31, .iconst 3, 1) (List.mem_of_getElem? (i := 17) rfl)
theorem dX6_readSplit_32 : decode cX6_readSplit 32 = .ok (.if_icmp .eq 12, 3) := DX6_readSplit_0 (32, .if_icmp .eq 12, 3) (List.mem_of_getElem? (i := 18) rfl)
theorem dX6_readSplit_35 : decode cX6_readSplit 35 = .ok (.aload_n 0, 1) := DX6_readSplit_0 (35, .aload_n 0, 1) (List.mem_of_getElem? (i := 19) rfl)
theorem dX6_readSplit_36 : decode cX6_readSplit 36 = .ok (.iload_n 1, 1) := DX6_readSplit_0 (36, .iload_n 1, 1) (List.mem_of_getElem? (i := 20) rfl)
theorem dX6_readSplit_37 : decode cX6_readSplit 37 = .ok (.invokevirtual 139, 3) := DX6_readSplit_0 (37, .invokevirtual 139, 3) (List.mem_of_getElem? (i := 21) rfl)
theorem dX6_readSplit_40 : decode cX6_readSplit 40 = .ok (.aload_n 0, 1) := DX6_readSplit_0 (40, .aload_n 0, 1) (List.mem_of_getElem? (i := 22) rfl)
theorem dX6_readSplit_41 : decode cX6_readSplit 41 = .ok (.invokevirtual 87, 3) := DX6_readSplit_0 (41, .invokevirtual 87, 3) (List.mem_of_getElem? (i := 23) rfl)
theorem dX6_readSplit_44 : decode cX6_readSplit 44 = .ok (.return_, 1) := DX6_readSplit_0 (44, .return_, 1) (List.mem_of_getElem? (i := 24) rfl)
abbrev rmX6_readSplit : Room := { frames := 4, cells := 0, slots := 0, locals := 90 }
set_option maxHeartbeats 400000 in
set_option maxRecDepth 100000 in
theorem met_X6_readSplit (l : Launch) (D : va_G) (kA : Nat → ClassId) (a : Nat → Nat) (b : Nat) (d : Nat → Nat) (n : Nat) (V0 : Sz) (X0 : Sz) (T2 : Nat → Int) (G0 : Sz) (hDt : ∀ w : Sz × Sz × Sz, va_D (fun _ => True) (cs_X6 kA a w.1 w.2.1 b (d 0) ++ ([(b, .inl (kA 1, 900, .inl (aI T2)))] ++ (cs_X4 kA d w.2.2)))) {Vr : Sz} {Xr : Sz} {Gr : Sz} (hf : f_X6_readSplit n V0 X0 T2 G0 = some (Vr, Xr, Gr)) : MZ l yX6_readSplit cX6_readSplit 2 none rmX6_readSplit D kA [.ref (a 0)] (cs_X6 kA a V0 X0 b (d 0) ++ ([(b, .inl (kA 1, 900, .inl (aI T2)))] ++ (cs_X4 kA d G0))) (cs_X6 kA a Vr Xr b (d 0) ++ ([(b, .inl (kA 1, 900, .inl (aI T2)))] ++ (cs_X4 kA d Gr))) (none) := by
  refine zZV (own := RX6) rfl rfl (Nat.le_of_ble_eq_true rfl) ?_
  intro p e s m args below meth c ls Q hC hK hP hl hret
  have hl : lv_has ls 2 [(0, .ref (a 0))] := hl
  have hS : va_S (zF (cs_X6 kA a V0 X0 b (d 0) ++ ([(b, .inl (kA 1, 900, .inl (aI T2)))] ++ (cs_X4 kA d G0)))) s.heap s.heap [] := va_S.rf
  have hD := zDself (C := fun w : Sz × Sz × Sz => (cs_X6 kA a w.1 w.2.1 b (d 0) ++ ([(b, .inl (kA 1, 900, .inl (aI T2)))] ++ (cs_X4 kA d w.2.2)))) hDt (V0, X0, G0) (fun _ => rfl)
  try dsimp only at hD
  generalize hAe : zF (cs_X6 kA a V0 X0 b (d 0) ++ ([(b, .inl (kA 1, 900, .inl (aI T2)))] ++ (cs_X4 kA d G0))) = A0 at hS hD hret
  unfold f_X6_readSplit at hf
  refine lv_aload_n hC.1 hC.2.1 dX6_readSplit_0 rfl (lv_at hl 0 rfl) <| ?_
  obtain ⟨⟨r_1, V_2, X_3, G_4⟩, hu, hf⟩ := bd_some hf
  have hDc := hDt
  refine zcVZ (As := []) (rest := []) hC hK (met_X6_readGiftHead l D kA a (b) d n V0 X0 T2 G0 hDc hu) zwX6_83 hS (zFsub (hD (V0, X0, G0)) [0, 1, 2, 3, 4, 5, 6, 7, 8, 9, 10, 11, 12, 13, 14, 15, 16, 17, 18, 19, 20, 21, 22, 23, 24, 25, 26] rfl) hP (q0 := 0) rfl rfl rfl rfl hl.1 rfl (Nat.le_of_ble_eq_true rfl) ⟨Nat.le_of_ble_eq_true rfl, Nat.le_of_ble_eq_true rfl⟩ ⟨rfl, rfl⟩ ⟨Nat.le_refl _, Nat.le_refl _⟩ dX6_readSplit_1 (fun H locs hP1 hk1 hS => ?_)
  have hP : va_P D vwCl (cs_X6 kA a V_2 X_3 b (d 0) ++ ([(b, .inl (kA 1, 900, .inl (aI T2)))] ++ (cs_X4 kA d G_4))) H := hP1
  refine zistore_n (lv' := [(1, vI r_1), (0, .ref (a 0))]) hC.1 hC.2.1 dX6_readSplit_4 rfl hl (by decide) rfl (fun ls hl => ?_)
  refine lv_aload_n hC.1 hC.2.1 dX6_readSplit_5 rfl (lv_at hl 1 rfl) <| ?_
  obtain ⟨⟨V_5, X_6⟩, hu, hf⟩ := bd_some hf
  have hDc : ∀ w : Sz × Sz, va_D (fun _ => True) (cs_X6 kA a w.1 w.2 (b) (d 0) ++ ([((b), .inl (kA 1, 900, .inl (aI T2)))] ++ (cs_X4 kA d G_4))) := fun w => (hDt (w.1, w.2, G_4)).sub [0, 1, 2, 3, 4, 5, 6, 7, 8, 9, 10, 11, 12, 13, 14, 15, 16, 17, 18, 19, 20, 21, 22, 23, 24, 25, 26] (by decide) rfl
  refine zcVZ (As := []) (rest := []) hC hK (met_X6_advance l D kA a (b) d n V_2 X_3 T2 G_4 hDc hu) zwX6_51 hS (zFsub (hD (V_2, X_3, G_4)) [0, 1, 2, 3, 4, 5, 6, 7, 8, 9, 10, 11, 12, 13, 14, 15, 16, 17, 18, 19, 20, 21, 22, 23, 24, 25, 26] rfl) hP (q0 := 0) rfl rfl rfl rfl hl.1 rfl (Nat.le_of_ble_eq_true rfl) ⟨Nat.le_of_ble_eq_true rfl, Nat.le_of_ble_eq_true rfl⟩ ⟨rfl, rfl⟩ ⟨Nat.le_refl _, Nat.le_refl _⟩ dX6_readSplit_6 (fun H locs hP1 hk1 hS => ?_)
  have hP : va_P D vwCl (cs_X6 kA a V_5 X_6 b (d 0) ++ ([(b, .inl (kA 1, 900, .inl (aI T2)))] ++ (cs_X4 kA d G_4))) H := hP1
  refine lv_aload_n hC.1 hC.2.1 dX6_readSplit_9 rfl (lv_at hl 1 rfl) <| ziload_n hC.1 hC.2.1 dX6_readSplit_10 rfl (lv_at hl 0 rfl) <| ?_
  obtain ⟨⟨V_7, X_8, G_9⟩, hu, hf⟩ := bd_some hf
  have hDc := hDt
  refine zcVZ (As := [vI r_1]) (rest := []) hC hK (met_X6_readShare l D kA a (b) d n V_5 X_6 T2 G_4 r_1 hDc hu) zwX6_139 hS (zFsub (hD (V_5, X_6, G_4)) [0, 1, 2, 3, 4, 5, 6, 7, 8, 9, 10, 11, 12, 13, 14, 15, 16, 17, 18, 19, 20, 21, 22, 23, 24, 25, 26] rfl) hP (q0 := 0) rfl rfl rfl rfl hl.1 rfl (Nat.le_of_ble_eq_true rfl) ⟨Nat.le_of_ble_eq_true rfl, Nat.le_of_ble_eq_true rfl⟩ ⟨rfl, rfl⟩ ⟨Nat.le_refl _, Nat.le_refl _⟩ dX6_readSplit_11 (fun H locs hP1 hk1 hS => ?_)
  have hP : va_P D vwCl (cs_X6 kA a V_7 X_8 b (d 0) ++ ([(b, .inl (kA 1, 900, .inl (aI T2)))] ++ (cs_X4 kA d G_9))) H := hP1
  refine lv_aload_n hC.1 hC.2.1 dX6_readSplit_14 rfl (lv_at hl 1 rfl) <| ?_
  obtain ⟨⟨V_10, X_11⟩, hu, hf⟩ := bd_some hf
  have hDc : ∀ w : Sz × Sz, va_D (fun _ => True) (cs_X6 kA a w.1 w.2 (b) (d 0) ++ ([((b), .inl (kA 1, 900, .inl (aI T2)))] ++ (cs_X4 kA d G_9))) := fun w => (hDt (w.1, w.2, G_9)).sub [0, 1, 2, 3, 4, 5, 6, 7, 8, 9, 10, 11, 12, 13, 14, 15, 16, 17, 18, 19, 20, 21, 22, 23, 24, 25, 26] (by decide) rfl
  refine zcVZ (As := []) (rest := []) hC hK (met_X6_advance l D kA a (b) d n V_7 X_8 T2 G_9 hDc hu) zwX6_51 hS (zFsub (hD (V_7, X_8, G_9)) [0, 1, 2, 3, 4, 5, 6, 7, 8, 9, 10, 11, 12, 13, 14, 15, 16, 17, 18, 19, 20, 21, 22, 23, 24, 25, 26] rfl) hP (q0 := 0) rfl rfl rfl rfl hl.1 rfl (Nat.le_of_ble_eq_true rfl) ⟨Nat.le_of_ble_eq_true rfl, Nat.le_of_ble_eq_true rfl⟩ ⟨rfl, rfl⟩ ⟨Nat.le_refl _, Nat.le_refl _⟩ dX6_readSplit_15 (fun H locs hP1 hk1 hS => ?_)
  have hP : va_P D vwCl (cs_X6 kA a V_10 X_11 b (d 0) ++ ([(b, .inl (kA 1, 900, .inl (aI T2)))] ++ (cs_X4 kA d G_9))) H := hP1
  refine lv_aload_n hC.1 hC.2.1 dX6_readSplit_18 rfl (lv_at hl 1 rfl) <| ziload_n hC.1 hC.2.1 dX6_readSplit_19 rfl (lv_at hl 0 rfl) <| ?_
  obtain ⟨⟨V_12, X_13, G_14⟩, hu, hf⟩ := bd_some hf
  have hDc := hDt
  refine zcVZ (As := [vI r_1]) (rest := []) hC hK (met_X6_readShare l D kA a (b) d n V_10 X_11 T2 G_9 r_1 hDc hu) zwX6_139 hS (zFsub (hD (V_10, X_11, G_9)) [0, 1, 2, 3, 4, 5, 6, 7, 8, 9, 10, 11, 12, 13, 14, 15, 16, 17, 18, 19, 20, 21, 22, 23, 24, 25, 26] rfl) hP (q0 := 0) rfl rfl rfl rfl hl.1 rfl (Nat.le_of_ble_eq_true rfl) ⟨Nat.le_of_ble_eq_true rfl, Nat.le_of_ble_eq_true rfl⟩ ⟨rfl, rfl⟩ ⟨Nat.le_refl _, Nat.le_refl _⟩ dX6_readSplit_20 (fun H locs hP1 hk1 hS => ?_)
  have hP : va_P D vwCl (cs_X6 kA a V_12 X_13 b (d 0) ++ ([(b, .inl (kA 1, 900, .inl (aI T2)))] ++ (cs_X4 kA d G_14))) H := hP1
  refine lv_aload_n hC.1 hC.2.1 dX6_readSplit_23 rfl (lv_at hl 1 rfl) <| ?_
  obtain ⟨⟨V_15, X_16⟩, hu, hf⟩ := bd_some hf
  have hDc : ∀ w : Sz × Sz, va_D (fun _ => True) (cs_X6 kA a w.1 w.2 (b) (d 0) ++ ([((b), .inl (kA 1, 900, .inl (aI T2)))] ++ (cs_X4 kA d G_14))) := fun w => (hDt (w.1, w.2, G_14)).sub [0, 1, 2, 3, 4, 5, 6, 7, 8, 9, 10, 11, 12, 13, 14, 15, 16, 17, 18, 19, 20, 21, 22, 23, 24, 25, 26] (by decide) rfl
  refine zcVZ (As := []) (rest := []) hC hK (met_X6_advance l D kA a (b) d n V_12 X_13 T2 G_14 hDc hu) zwX6_51 hS (zFsub (hD (V_12, X_13, G_14)) [0, 1, 2, 3, 4, 5, 6, 7, 8, 9, 10, 11, 12, 13, 14, 15, 16, 17, 18, 19, 20, 21, 22, 23, 24, 25, 26] rfl) hP (q0 := 0) rfl rfl rfl rfl hl.1 rfl (Nat.le_of_ble_eq_true rfl) ⟨Nat.le_of_ble_eq_true rfl, Nat.le_of_ble_eq_true rfl⟩ ⟨rfl, rfl⟩ ⟨Nat.le_refl _, Nat.le_refl _⟩ dX6_readSplit_24 (fun H locs hP1 hk1 hS => ?_)
  have hP : va_P D vwCl (cs_X6 kA a V_15 X_16 b (d 0) ++ ([(b, .inl (kA 1, 900, .inl (aI T2)))] ++ (cs_X4 kA d G_14))) H := hP1
  refine lv_aload_n hC.1 hC.2.1 dX6_readSplit_27 rfl (lv_at hl 1 rfl) <| gfX6_54 hC hK hP (q0 := 0) rfl rfl dX6_readSplit_28 <| ziconst hC.1 hC.2.1 dX6_readSplit_31 <| ?_
  obtain ⟨hz_17, hf⟩ := ck_some hf
  refine zicmp_eq (tgt := 44) hC.1 hC.2.1 ⟨hz_17, (by decide)⟩ dX6_readSplit_32 (by decide) (fun hc => ?_) (fun hc => ?_)
  · have hf := it_t hf hc
    have hf := Option.some.inj hf
    simp only [Prod.mk.injEq] at hf
    exact hret _ _ _ _ rfl (by rw [← hf.1, ← hf.2.1, ← hf.2.2]; exact hP) hS dX6_readSplit_44
  · have hf := it_f hf hc
    refine lv_aload_n hC.1 hC.2.1 dX6_readSplit_35 rfl (lv_at hl 1 rfl) <| ziload_n hC.1 hC.2.1 dX6_readSplit_36 rfl (lv_at hl 0 rfl) <| ?_
    obtain ⟨⟨V_18, X_19, G_20⟩, hu, hf⟩ := bd_some hf
    have hDc := hDt
    refine zcVZ (As := [vI r_1]) (rest := []) hC hK (met_X6_readShare l D kA a (b) d n V_15 X_16 T2 G_14 r_1 hDc hu) zwX6_139 hS (zFsub (hD (V_15, X_16, G_14)) [0, 1, 2, 3, 4, 5, 6, 7, 8, 9, 10, 11, 12, 13, 14, 15, 16, 17, 18, 19, 20, 21, 22, 23, 24, 25, 26] rfl) hP (q0 := 0) rfl rfl rfl rfl hl.1 rfl (Nat.le_of_ble_eq_true rfl) ⟨Nat.le_of_ble_eq_true rfl, Nat.le_of_ble_eq_true rfl⟩ ⟨rfl, rfl⟩ ⟨Nat.le_refl _, Nat.le_refl _⟩ dX6_readSplit_37 (fun H locs hP1 hk1 hS => ?_)
    have hP : va_P D vwCl (cs_X6 kA a V_18 X_19 b (d 0) ++ ([(b, .inl (kA 1, 900, .inl (aI T2)))] ++ (cs_X4 kA d G_20))) H := hP1
    refine lv_aload_n hC.1 hC.2.1 dX6_readSplit_40 rfl (lv_at hl 1 rfl) <| ?_
    obtain ⟨⟨V_21, X_22⟩, hu, hf⟩ := bd_some hf
    have hDc : ∀ w : Sz × Sz, va_D (fun _ => True) (cs_X6 kA a w.1 w.2 (b) (d 0) ++ ([((b), .inl (kA 1, 900, .inl (aI T2)))] ++ (cs_X4 kA d G_20))) := fun w => (hDt (w.1, w.2, G_20)).sub [0, 1, 2, 3, 4, 5, 6, 7, 8, 9, 10, 11, 12, 13, 14, 15, 16, 17, 18, 19, 20, 21, 22, 23, 24, 25, 26] (by decide) rfl
    refine zcVZ (As := []) (rest := []) hC hK (met_X6_readSemicolon l D kA a (b) d n V_18 X_19 T2 G_20 hDc hu) zwX6_87 hS (zFsub (hD (V_18, X_19, G_20)) [0, 1, 2, 3, 4, 5, 6, 7, 8, 9, 10, 11, 12, 13, 14, 15, 16, 17, 18, 19, 20, 21, 22, 23, 24, 25, 26] rfl) hP (q0 := 0) rfl rfl rfl rfl hl.1 rfl (Nat.le_of_ble_eq_true rfl) ⟨Nat.le_of_ble_eq_true rfl, Nat.le_of_ble_eq_true rfl⟩ ⟨rfl, rfl⟩ ⟨Nat.le_refl _, Nat.le_refl _⟩ dX6_readSplit_41 (fun H locs hP1 hk1 hS => ?_)
    have hP : va_P D vwCl (cs_X6 kA a V_21 X_22 b (d 0) ++ ([(b, .inl (kA 1, 900, .inl (aI T2)))] ++ (cs_X4 kA d G_20))) H := hP1
    have hf := Option.some.inj hf
    simp only [Prod.mk.injEq] at hf
    exact hret _ _ _ _ rfl (by rw [← hf.1, ← hf.2.1, ← hf.2.2]; exact hP) hS dX6_readSplit_44
theorem DX6_readGift_0 : ∀ q ∈ ([(0, .aload_n 0, 1), (1, .invokevirtual 83, 3), (4, .istore_n 1, 1), (5, .aload_n 0, 1), (6, .invokevirtual 51, 3), (9, .aload_n 0, 1), (10, .invokevirtual 122, 3), (13, .istore_n 2, 1), (14, .aload_n 0, 1), (15, .invokevirtual 87, 3), (18, .aload_n 0, 1), (19, .getfield 36, 3), (22, .ifCond .ne 16, 3), (25, .aload_n 0, 1), (26, .getfield 19, 3), (29, .getfield 129, 3), (32, .iload_n 1, 1), (33, .iload_n 2, 1), (34, .iconst 1, 1), (35, .invokevirtual 133, 3), (38, .return_, 1)] : List (Nat × Instr × Nat)), decode cX6_readGift q.1 = .ok q.2 := by decide +kernel
theorem dX6_readGift_0 : decode cX6_readGift 0 = .ok (.aload_n 0, 1) := DX6_readGift_0 (0, .aload_n 0, 1) (List.mem_of_getElem? (i := 0) rfl)
theorem dX6_readGift_1 : decode cX6_readGift 1 = .ok (.invokevirtual 83, 3) := DX6_readGift_0 (1, .invokevirtual 83, 3) (List.mem_of_getElem? (i := 1) rfl)
theorem dX6_readGift_4 : decode cX6_readGift 4 = .ok (.istore_n 1, 1) := DX6_readGift_0 (4, .istore_n 1, 1) (List.mem_of_getElem? (i := 2) rfl)
theorem dX6_readGift_5 : decode cX6_readGift 5 = .ok (.aload_n 0, 1) := DX6_readGift_0 (5, .aload_n 0, 1) (List.mem_of_getElem? (i := 3) rfl)
theorem dX6_readGift_6 : decode cX6_readGift 6 = .ok (.invokevirtual 51, 3) := DX6_readGift_0 (6, .invokevirtual 51, 3) (List.mem_of_getElem? (i := 4) rfl)
theorem dX6_readGift_9 : decode cX6_readGift 9 = .ok (.aload_n 0, 1) := DX6_readGift_0 (9, .aload_n 0, 1) (List.mem_of_getElem? (i := 5) rfl)
theorem dX6_readGift_10 : decode cX6_readGift 10 = .ok (.invokevirtual 122, 3) := DX6_readGift_0 (10, .invokevirtual 122, 3) (List.mem_of_getElem? (i := 6) rfl)
theorem dX6_readGift_13 : decode cX6_readGift 13 = .ok (.istore_n 2, 1) := DX6_readGift_0 (13, .istore_n 2, 1) (List.mem_of_getElem? (i := 7) rfl)
theorem dX6_readGift_14 : decode cX6_readGift 14 = .ok (.aload_n 0, 1) := DX6_readGift_0 (14, .aload_n 0, 1) (List.mem_of_getElem? (i := 8) rfl)
theorem dX6_readGift_15 : decode cX6_readGift 15 = .ok (.invokevirtual 87, 3) := DX6_readGift_0 (15, .invokevirtual 87, 3) (List.mem_of_getElem? (i := 9) rfl)
theorem dX6_readGift_18 : decode cX6_readGift 18 = .ok (.aload_n 0, 1) := DX6_readGift_0 (18, .aload_n 0, 1) (List.mem_of_getElem? (i := 10) rfl)
theorem dX6_readGift_19 : decode cX6_readGift 19 = .ok (.getfield 36, 3) := DX6_readGift_0 (19, .getfield 36, 3) (List.mem_of_getElem? (i := 11) rfl)
theorem dX6_readGift_22 : decode cX6_readGift 22 = .ok (.ifCond .ne 16, 3) := DX6_readGift_0 (22, .ifCond .ne 16, 3) (List.mem_of_getElem? (i := 12) rfl)
theorem dX6_readGift_25 : decode cX6_readGift 25 = .ok (.aload_n 0, 1) := DX6_readGift_0 (25, .aload_n 0, 1) (List.mem_of_getElem? (i := 13) rfl)
theorem dX6_readGift_26 : decode cX6_readGift 26 = .ok (.getfield 19, 3) := DX6_readGift_0 (26, .getfield 19, 3) (List.mem_of_getElem? (i := 14) rfl)
theorem dX6_readGift_29 : decode cX6_readGift 29 = .ok (.getfield 129, 3) := DX6_readGift_0 (29, .getfield 129, 3) (List.mem_of_getElem? (i := 15) rfl)
theorem dX6_readGift_32 : decode cX6_readGift 32 = .ok (.iload_n 1, 1) := DX6_readGift_0 (32, .iload_n 1, 1) (List.mem_of_getElem? (i := 16) rfl)
theorem dX6_readGift_33 : decode cX6_readGift 33 = .ok (.iload_n 2, 1) := DX6_readGift_0 (33, .iload_n 2, 1) (List.mem_of_getElem? (i := 17) rfl)
theorem dX6_readGift_34 : decode cX6_readGift 34 = .ok (.iconst 1, 1) := DX6_readGift_0 (34, .iconst 1, 1) (List.mem_of_getElem? (i := 18) rfl)
theorem dX6_readGift_35 : decode cX6_readGift 35 = .ok (.invokevirtual 133, 3) := DX6_readGift_0 (35, .invokevirtual 133, 3) (List.mem_of_getElem? (i := 19) rfl)
theorem dX6_readGift_38 : decode cX6_readGift 38 = .ok (.return_, 1) := DX6_readGift_0 (38, .return_, 1) (List.mem_of_getElem? (i := 20) rfl)
abbrev rmX6_readGift : Room := { frames := 4, cells := 0, slots := 0, locals := 90 }
set_option maxHeartbeats 400000 in
set_option maxRecDepth 100000 in
theorem met_X6_readGift (l : Launch) (D : va_G) (kA : Nat → ClassId) (a : Nat → Nat) (b : Nat) (d : Nat → Nat) (n : Nat) (V0 : Sz) (X0 : Sz) (T2 : Nat → Int) (G0 : Sz) (hDt : ∀ w : Sz × Sz × Sz, va_D (fun _ => True) (cs_X6 kA a w.1 w.2.1 b (d 0) ++ ([(b, .inl (kA 1, 900, .inl (aI T2)))] ++ (cs_X4 kA d w.2.2)))) {Vr : Sz} {Xr : Sz} {Gr : Sz} (hf : f_X6_readGift n V0 X0 T2 G0 = some (Vr, Xr, Gr)) : MZ l yX6_readGift cX6_readGift 3 none rmX6_readGift D kA [.ref (a 0)] (cs_X6 kA a V0 X0 b (d 0) ++ ([(b, .inl (kA 1, 900, .inl (aI T2)))] ++ (cs_X4 kA d G0))) (cs_X6 kA a Vr Xr b (d 0) ++ ([(b, .inl (kA 1, 900, .inl (aI T2)))] ++ (cs_X4 kA d Gr))) (none) := by
  refine zZV (own := RX6) rfl rfl (Nat.le_of_ble_eq_true rfl) ?_
  intro p e s m args below meth c ls Q hC hK hP hl hret
  have hl : lv_has ls 3 [(0, .ref (a 0))] := hl
  have hS : va_S (zF (cs_X6 kA a V0 X0 b (d 0) ++ ([(b, .inl (kA 1, 900, .inl (aI T2)))] ++ (cs_X4 kA d G0)))) s.heap s.heap [] := va_S.rf
  have hD := zDself (C := fun w : Sz × Sz × Sz => (cs_X6 kA a w.1 w.2.1 b (d 0) ++ ([(b, .inl (kA 1, 900, .inl (aI T2)))] ++ (cs_X4 kA d w.2.2)))) hDt (V0, X0, G0) (fun _ => rfl)
  try dsimp only at hD
  generalize hAe : zF (cs_X6 kA a V0 X0 b (d 0) ++ ([(b, .inl (kA 1, 900, .inl (aI T2)))] ++ (cs_X4 kA d G0))) = A0 at hS hD hret
  unfold f_X6_readGift at hf
  refine lv_aload_n hC.1 hC.2.1 dX6_readGift_0 rfl (lv_at hl 0 rfl) <| ?_
  obtain ⟨⟨r_1, V_2, X_3, G_4⟩, hu, hf⟩ := bd_some hf
  have hDc := hDt
  refine zcVZ (As := []) (rest := []) hC hK (met_X6_readGiftHead l D kA a (b) d n V0 X0 T2 G0 hDc hu) zwX6_83 hS (zFsub (hD (V0, X0, G0)) [0, 1, 2, 3, 4, 5, 6, 7, 8, 9, 10, 11, 12, 13, 14, 15, 16, 17, 18, 19, 20, 21, 22, 23, 24, 25, 26] rfl) hP (q0 := 0) rfl rfl rfl rfl hl.1 rfl (Nat.le_of_ble_eq_true rfl) ⟨Nat.le_of_ble_eq_true rfl, Nat.le_of_ble_eq_true rfl⟩ ⟨rfl, rfl⟩ ⟨Nat.le_refl _, Nat.le_refl _⟩ dX6_readGift_1 (fun H locs hP1 hk1 hS => ?_)
  have hP : va_P D vwCl (cs_X6 kA a V_2 X_3 b (d 0) ++ ([(b, .inl (kA 1, 900, .inl (aI T2)))] ++ (cs_X4 kA d G_4))) H := hP1
  refine zistore_n (lv' := [(1, vI r_1), (0, .ref (a 0))]) hC.1 hC.2.1 dX6_readGift_4 rfl hl (by decide) rfl (fun ls hl => ?_)
  refine lv_aload_n hC.1 hC.2.1 dX6_readGift_5 rfl (lv_at hl 1 rfl) <| ?_
  obtain ⟨⟨V_5, X_6⟩, hu, hf⟩ := bd_some hf
  have hDc : ∀ w : Sz × Sz, va_D (fun _ => True) (cs_X6 kA a w.1 w.2 (b) (d 0) ++ ([((b), .inl (kA 1, 900, .inl (aI T2)))] ++ (cs_X4 kA d G_4))) := fun w => (hDt (w.1, w.2, G_4)).sub [0, 1, 2, 3, 4, 5, 6, 7, 8, 9, 10, 11, 12, 13, 14, 15, 16, 17, 18, 19, 20, 21, 22, 23, 24, 25, 26] (by decide) rfl
  refine zcVZ (As := []) (rest := []) hC hK (met_X6_advance l D kA a (b) d n V_2 X_3 T2 G_4 hDc hu) zwX6_51 hS (zFsub (hD (V_2, X_3, G_4)) [0, 1, 2, 3, 4, 5, 6, 7, 8, 9, 10, 11, 12, 13, 14, 15, 16, 17, 18, 19, 20, 21, 22, 23, 24, 25, 26] rfl) hP (q0 := 0) rfl rfl rfl rfl hl.1 rfl (Nat.le_of_ble_eq_true rfl) ⟨Nat.le_of_ble_eq_true rfl, Nat.le_of_ble_eq_true rfl⟩ ⟨rfl, rfl⟩ ⟨Nat.le_refl _, Nat.le_refl _⟩ dX6_readGift_6 (fun H locs hP1 hk1 hS => ?_)
  have hP : va_P D vwCl (cs_X6 kA a V_5 X_6 b (d 0) ++ ([(b, .inl (kA 1, 900, .inl (aI T2)))] ++ (cs_X4 kA d G_4))) H := hP1
  refine lv_aload_n hC.1 hC.2.1 dX6_readGift_9 rfl (lv_at hl 1 rfl) <| ?_
  obtain ⟨⟨r_7, V_8⟩, hu, hf⟩ := bd_some hf
  have hDc : ∀ w : Sz, va_D (fun _ => True) (cs_X6 kA a w X_6 (b) (d 0) ++ ([((b), .inl (kA 1, 900, .inl (aI T2)))] ++ (cs_X4 kA d G_4))) := fun w => (hDt (w, X_6, G_4)).sub [0, 1, 2, 3, 4, 5, 6, 7, 8, 9, 10, 11, 12, 13, 14, 15, 16, 17, 18, 19, 20, 21, 22, 23, 24, 25, 26] (by decide) rfl
  refine zcVZ (As := []) (rest := []) hC hK (met_X6_knownDonor l D kA a (b) d n V_5 X_6 T2 G_4 hDc hu) zwX6_122 hS (zFsub (hD (V_5, X_6, G_4)) [0, 1, 2, 3, 4, 5, 6, 7, 8, 9, 10, 11, 12, 13, 14, 15, 16, 17, 18, 19, 20, 21, 22, 23, 24, 25, 26] rfl) hP (q0 := 0) rfl rfl rfl rfl hl.1 rfl (Nat.le_of_ble_eq_true rfl) ⟨Nat.le_of_ble_eq_true rfl, Nat.le_of_ble_eq_true rfl⟩ ⟨rfl, rfl⟩ ⟨Nat.le_refl _, Nat.le_refl _⟩ dX6_readGift_10 (fun H locs hP1 hk1 hS => ?_)
  have hP : va_P D vwCl (cs_X6 kA a V_8 X_6 b (d 0) ++ ([(b, .inl (kA 1, 900, .inl (aI T2)))] ++ (cs_X4 kA d G_4))) H := hP1
  refine zistore_n (lv' := [(2, vI r_7), (1, vI r_1), (0, .ref (a 0))]) hC.1 hC.2.1 dX6_readGift_13 rfl hl (by decide) rfl (fun ls hl => ?_)
  refine lv_aload_n hC.1 hC.2.1 dX6_readGift_14 rfl (lv_at hl 2 rfl) <| ?_
  obtain ⟨⟨V_9, X_10⟩, hu, hf⟩ := bd_some hf
  have hDc : ∀ w : Sz × Sz, va_D (fun _ => True) (cs_X6 kA a w.1 w.2 (b) (d 0) ++ ([((b), .inl (kA 1, 900, .inl (aI T2)))] ++ (cs_X4 kA d G_4))) := fun w => (hDt (w.1, w.2, G_4)).sub [0, 1, 2, 3, 4, 5, 6, 7, 8, 9, 10, 11, 12, 13, 14, 15, 16, 17, 18, 19, 20, 21, 22, 23, 24, 25, 26] (by decide) rfl
  refine zcVZ (As := []) (rest := []) hC hK (met_X6_readSemicolon l D kA a (b) d n V_8 X_6 T2 G_4 hDc hu) zwX6_87 hS (zFsub (hD (V_8, X_6, G_4)) [0, 1, 2, 3, 4, 5, 6, 7, 8, 9, 10, 11, 12, 13, 14, 15, 16, 17, 18, 19, 20, 21, 22, 23, 24, 25, 26] rfl) hP (q0 := 0) rfl rfl rfl rfl hl.1 rfl (Nat.le_of_ble_eq_true rfl) ⟨Nat.le_of_ble_eq_true rfl, Nat.le_of_ble_eq_true rfl⟩ ⟨rfl, rfl⟩ ⟨Nat.le_refl _, Nat.le_refl _⟩ dX6_readGift_15 (fun H locs hP1 hk1 hS => ?_)
  have hP : va_P D vwCl (cs_X6 kA a V_9 X_10 b (d 0) ++ ([(b, .inl (kA 1, 900, .inl (aI T2)))] ++ (cs_X4 kA d G_4))) H := hP1
  refine lv_aload_n hC.1 hC.2.1 dX6_readGift_18 rfl (lv_at hl 2 rfl) <| gfX6_36 hC hK hP (q0 := 0) rfl rfl dX6_readGift_19 <| ?_
  obtain ⟨hz_11, hf⟩ := ck_some hf
  refine zif_ne (tgt := 38) hC.1 hC.2.1 hz_11 dX6_readGift_22 (by decide) (fun hc => ?_) (fun hc => ?_)
  · have hf := it_f hf hc
    have hf := Option.some.inj hf
    simp only [Prod.mk.injEq] at hf
    exact hret _ _ _ _ rfl (by rw [← hf.1, ← hf.2.1, ← hf.2.2]; exact hP) hS dX6_readGift_38
  · have hf := it_t hf hc
    refine lv_aload_n hC.1 hC.2.1 dX6_readGift_25 rfl (lv_at hl 2 rfl) <| gfX6_19 hC hK hP (q0 := 0) rfl rfl dX6_readGift_26 <| gfX6_129 hC hK hP (q0 := 3) rfl rfl dX6_readGift_29 <| ziload_n hC.1 hC.2.1 dX6_readGift_32 rfl (lv_at hl 1 rfl) <| ziload_n hC.1 hC.2.1 dX6_readGift_33 rfl (lv_at hl 0 rfl) <| ziconst hC.1 hC.2.1 dX6_readGift_34 <| ?_
    obtain ⟨G_12, hu, hf⟩ := bd_some hf
    have hPc : va_P D vwCl (cs_X3 kA (sv 6 d) (sv 9 G_4)) _ := hP.sub [9, 10, 11, 12, 13, 14, 15, 16, 17, 18, 19, 20] rfl
    have hDc : ∀ w : Sz, va_D (fun _ => True) (cs_X3 kA (sv 6 d) w) := fun w => (hDt (V_9, X_10, sw 9 12 G_4 w)).sub [9, 10, 11, 12, 13, 14, 15, 16, 17, 18, 19, 20] (by decide) rfl
    refine zcVZ (As := [vI r_1, vI r_7, vI 1]) (rest := []) hC hK (met_X3_addPart l D kA (sv 6 d) n (sv 9 G_4) r_1 r_7 1 hDc hu) zwX6_133 hS (zFsub (hD (V_9, X_10, G_4)) [9, 10, 11, 12, 13, 14, 15, 16, 17, 18, 19, 20] rfl) hPc (q0 := 0) rfl rfl rfl rfl hl.1 rfl (Nat.le_of_ble_eq_true rfl) ⟨Nat.le_of_ble_eq_true rfl, Nat.le_of_ble_eq_true rfl⟩ ⟨rfl, rfl⟩ ⟨Nat.le_refl _, Nat.le_refl _⟩ dX6_readGift_35 (fun H locs hP1 hk1 hS => ?_)
    obtain ⟨G_13, eG_13⟩ : ∃ y, y = sw 9 12 G_4 G_12 := ⟨_, rfl⟩
    have hf := nm_at hf eG_13
    have hP : va_P D vwCl (cs_X6 kA a V_9 X_10 b (d 0) ++ ([(b, .inl (kA 1, 900, .inl (aI T2)))] ++ (cs_X4 kA d G_13))) H := by rw [eG_13]; exact zjoinC (wb0 := (cs_X3 kA (sv 6 d) (sv 9 G_4))) (wb1 := (cs_X3 kA (sv 6 d) G_12)) hP (hDt (V_9, X_10, G_4)) 9 12 [9, 10, 11, 12, 13, 14, 15, 16, 17, 18, 19, 20] rfl rfl rfl rfl hk1 hP1
    have hf := Option.some.inj hf
    simp only [Prod.mk.injEq] at hf
    exact hret _ _ _ _ rfl (by rw [← hf.1, ← hf.2.1, ← hf.2.2]; exact hP) hS dX6_readGift_38
theorem DX6_readDeclaration_0 : ∀ q ∈ ([(0, .aload_n 0, 1), (1, .getfield 19, 3), (4, .getfield 112, 3), (7, .invokevirtual 116, 3), (10, .ifCond .eq 8, 3), (13, .aload_n 0, 1), (14, .iconst 4, 1), (15, .invokevirtual 95, 3), (18, .aload_n 0, 1), (19, .invokevirtual 51, 3), (22, .aload_n 0, 1), (23, .invokevirtual 122, 3), (26, .istore_n 1, 1), (27, .aload_n 0, 1), (28, .iconst 0, 1), (29, .sipush 9999, 3), (32, .invokevirtual 106, 3), (35, .istore_n 2, 1), (36, .aload_n 0, 1), (37, .iload_n 2, 1), (38, .sipush 9999, 3), (41, .invokevirtual 106, 3), (44, .istore_n 3, 1), (45, .aload_n 0, 1), (46, .invokevirtual 87, 3), (49, .aload_n 0, 1), (50, .getfield 36, 3), (53, .ifCond .ne 17, 3), (56, .aload_n 0, 1), (57, .getfield 19, 3), (60, .getfield 112, 3), (63, .iload_n 1, 1), (64, .iload_n 2, 1), (65, .iload_n 3, 1), (66, .invokevirtual 125, 3), (69, .pop, 1), (70, .return_, 1)] : List (Nat × Instr × Nat)), decode cX6_readDeclaration q.1 = .ok q.2 := by decide +kernel
theorem dX6_readDeclaration_0 : decode cX6_readDeclaration 0 = .ok (.aload_n 0, 1) := DX6_readDeclaration_0 (0, .aload_n 0, 1) (List.mem_of_getElem? (i := 0) rfl)
theorem dX6_readDeclaration_1 : decode cX6_readDeclaration 1 = .ok (.getfield 19, 3) := DX6_readDeclaration_0 (1, .getfield 19, 3) (List.mem_of_getElem? (i := 1) rfl)
theorem dX6_readDeclaration_4 : decode cX6_readDeclaration 4 = .ok (.getfield 112, 3) := DX6_readDeclaration_0 (4, .getfield 112, 3) (List.mem_of_getElem? (i := 2) rfl)
theorem dX6_readDeclaration_7 : decode cX6_readDeclaration 7 = .ok (.invokevirtual 116, 3) := DX6_readDeclaration_0 (7, .invokevirtual 116, 3) (List.mem_of_getElem? (i := 3) rfl)
theorem dX6_readDeclaration_10 : decode cX6_readDeclaration 10 = .ok (.ifCond .eq 8, 3) := DX6_readDeclaration_0 (10, .ifCond .eq 8, 3) (List.mem_of_getElem? (i := 4) rfl)
theorem dX6_readDeclaration_13 : decode cX6_readDeclaration 13 = .ok (.aload_n 0, 1) := DX6_readDeclaration_0 (13, .aload_n 0, 1) (List.mem_of_getElem? (i := 5) rfl)
theorem dX6_readDeclaration_14 : decode cX6_readDeclaration 14 = .ok (.iconst 4, 1) := DX6_readDeclaration_0 (14, .iconst 4, 1) (List.mem_of_getElem? (i := 6) rfl)
theorem dX6_readDeclaration_15 : decode cX6_readDeclaration 15 = .ok (.invokevirtual 95, 3) := DX6_readDeclaration_0 (15, .invokevirtual 95, 3) (List.mem_of_getElem? (i := 7) rfl)
theorem dX6_readDeclaration_18 : decode cX6_readDeclaration 18 = .ok (.aload_n 0, 1) := DX6_readDeclaration_0 (18, .aload_n 0, 1) (List.mem_of_getElem? (i := 8) rfl)
theorem dX6_readDeclaration_19 : decode cX6_readDeclaration 19 = .ok (.invokevirtual 51, 3) := DX6_readDeclaration_0 (19, .invokevirtual 51, 3) (List.mem_of_getElem? (i := 9) rfl)
theorem dX6_readDeclaration_22 : decode cX6_readDeclaration 22 = .ok (.aload_n 0, 1) := DX6_readDeclaration_0 (22, .aload_n 0, 1) (List.mem_of_getElem? (i := 10) rfl)
theorem dX6_readDeclaration_23 : decode cX6_readDeclaration 23 = .ok (.invokevirtual 122, 3) := DX6_readDeclaration_0 (23, .invokevirtual 122, 3) (List.mem_of_getElem? (i := 11) rfl)
theorem dX6_readDeclaration_26 : decode cX6_readDeclaration 26 = .ok (.istore_n 1, 1) := DX6_readDeclaration_0 (26, .istore_n 1, 1) (List.mem_of_getElem? (i := 12) rfl)
theorem dX6_readDeclaration_27 : decode cX6_readDeclaration 27 = .ok (.aload_n 0, 1) := DX6_readDeclaration_0 (27, .aload_n 0, 1) (List.mem_of_getElem? (i := 13) rfl)
theorem dX6_readDeclaration_28 : decode cX6_readDeclaration 28 = .ok (.iconst 0, 1) := DX6_readDeclaration_0 (28, .iconst 0, 1) (List.mem_of_getElem? (i := 14) rfl)
theorem dX6_readDeclaration_29 : decode cX6_readDeclaration 29 = .ok (.sipush 9999, 3) := DX6_readDeclaration_0 (29, .sipush 9999, 3) (List.mem_of_getElem? (i := 15) rfl)
theorem dX6_readDeclaration_32 : decode cX6_readDeclaration 32 = .ok (.invokevirtual 106, 3) := DX6_readDeclaration_0 (32, .invokevirtual 106, 3) (List.mem_of_getElem? (i := 16) rfl)
theorem dX6_readDeclaration_35 : decode cX6_readDeclaration 35 = .ok (.istore_n 2, 1) := DX6_readDeclaration_0 (35, .istore_n 2, 1) (List.mem_of_getElem? (i := 17) rfl)
theorem dX6_readDeclaration_36 : decode cX6_readDeclaration 36 = .ok (.aload_n 0, 1) := DX6_readDeclaration_0 (36, .aload_n 0, 1) (List.mem_of_getElem? (i := 18) rfl)
theorem dX6_readDeclaration_37 : decode cX6_readDeclaration 37 = .ok (.iload_n 2, 1) := DX6_readDeclaration_0 (37, .iload_n 2, 1) (List.mem_of_getElem? (i := 19) rfl)
theorem dX6_readDeclaration_38 : decode cX6_readDeclaration 38 = .ok (.sipush 9999, 3) := DX6_readDeclaration_0 (38, .sipush 9999, 3) (List.mem_of_getElem? (i := 20) rfl)
theorem dX6_readDeclaration_41 : decode cX6_readDeclaration 41 = .ok (.invokevirtual 106, 3) := DX6_readDeclaration_0 (41, .invokevirtual 106, 3) (List.mem_of_getElem? (i := 21) rfl)
theorem dX6_readDeclaration_44 : decode cX6_readDeclaration 44 = .ok (.istore_n 3, 1) := DX6_readDeclaration_0 (44, .istore_n 3, 1) (List.mem_of_getElem? (i := 22) rfl)
theorem dX6_readDeclaration_45 : decode cX6_readDeclaration 45 = .ok (.aload_n 0, 1) := DX6_readDeclaration_0 (45, .aload_n 0, 1) (List.mem_of_getElem? (i := 23) rfl)
theorem dX6_readDeclaration_46 : decode cX6_readDeclaration 46 = .ok (.invokevirtual 87, 3) := DX6_readDeclaration_0 (46, .invokevirtual 87, 3) (List.mem_of_getElem? (i := 24) rfl)
theorem dX6_readDeclaration_49 : decode cX6_readDeclaration 49 = .ok (.aload_n 0, 1) := DX6_readDeclaration_0 (49, .aload_n 0, 1) (List.mem_of_getElem? (i := 25) rfl)
theorem dX6_readDeclaration_50 : decode cX6_readDeclaration 50 = .ok (.getfield 36, 3) := DX6_readDeclaration_0 (50, .getfield 36, 3) (List.mem_of_getElem? (i := 26) rfl)
theorem dX6_readDeclaration_53 : decode cX6_readDeclaration 53 = .ok (.ifCond .ne 17, 3) := DX6_readDeclaration_0 (53, .ifCond .ne 17, 3) (List.mem_of_getElem? (i := 27) rfl)
theorem dX6_readDeclaration_56 : decode cX6_readDeclaration 56 = .ok (.aload_n 0, 1) := DX6_readDeclaration_0 (56, .aload_n 0, 1) (List.mem_of_getElem? (i := 28) rfl)
theorem dX6_readDeclaration_57 : decode cX6_readDeclaration 57 = .ok (.getfield 19, 3) := DX6_readDeclaration_0 (57, .getfield 19, 3) (List.mem_of_getElem? (i := 29) rfl)
theorem dX6_readDeclaration_60 : decode cX6_readDeclaration 60 = .ok (.getfield 112, 3) := DX6_readDeclaration_0 (60, .getfield 112, 3) (List.mem_of_getElem? (i := 30) rfl)
theorem dX6_readDeclaration_63 : decode cX6_readDeclaration 63 = .ok (.iload_n 1, 1) := DX6_readDeclaration_0 (63, .iload_n 1, 1) (List.mem_of_getElem? (i := 31) rfl)
theorem dX6_readDeclaration_64 : decode cX6_readDeclaration 64 = .ok (.iload_n 2, 1) := DX6_readDeclaration_0 (64, .iload_n 2, 1) (List.mem_of_getElem? (i := 32) rfl)
theorem dX6_readDeclaration_65 : decode cX6_readDeclaration 65 = .ok (.iload_n 3, 1) := DX6_readDeclaration_0 (65, .iload_n 3, 1) (List.mem_of_getElem? (i := 33) rfl)
theorem dX6_readDeclaration_66 : decode cX6_readDeclaration 66 = .ok (.invokevirtual 125, 3) := DX6_readDeclaration_0 (66, .invokevirtual 125, 3) (List.mem_of_getElem? (i := 34) rfl)
theorem dX6_readDeclaration_69 : decode cX6_readDeclaration 69 = .ok (.pop, 1) := DX6_readDeclaration_0 (69, .pop, 1) (List.mem_of_getElem? (i := 35) rfl)
theorem dX6_readDeclaration_70 : decode cX6_readDeclaration 70 = .ok (.return_, 1) := DX6_readDeclaration_0 (70, .return_, 1) (List.mem_of_getElem? (i := 36) rfl)
abbrev rmX6_readDeclaration : Room := { frames := 3, cells := 0, slots := 0, locals := 67 }
set_option maxHeartbeats 400000 in
set_option maxRecDepth 100000 in
theorem met_X6_readDeclaration (l : Launch) (D : va_G) (kA : Nat → ClassId) (a : Nat → Nat) (b : Nat) (d : Nat → Nat) (n : Nat) (V0 : Sz) (X0 : Sz) (T2 : Nat → Int) (G0 : Sz) (hDt : ∀ w : Sz × Sz × Sz, va_D (fun _ => True) (cs_X6 kA a w.1 w.2.1 b (d 0) ++ ([(b, .inl (kA 1, 900, .inl (aI T2)))] ++ (cs_X4 kA d w.2.2)))) {Vr : Sz} {Xr : Sz} {Gr : Sz} (hf : f_X6_readDeclaration n V0 X0 T2 G0 = some (Vr, Xr, Gr)) : MZ l yX6_readDeclaration cX6_readDeclaration 4 none rmX6_readDeclaration D kA [.ref (a 0)] (cs_X6 kA a V0 X0 b (d 0) ++ ([(b, .inl (kA 1, 900, .inl (aI T2)))] ++ (cs_X4 kA d G0))) (cs_X6 kA a Vr Xr b (d 0) ++ ([(b, .inl (kA 1, 900, .inl (aI T2)))] ++ (cs_X4 kA d Gr))) (none) := by
  refine zZV (own := RX6) rfl rfl (Nat.le_of_ble_eq_true rfl) ?_
  intro p e s m args below meth c ls Q hC hK hP hl hret
  have hl : lv_has ls 4 [(0, .ref (a 0))] := hl
  have hS : va_S (zF (cs_X6 kA a V0 X0 b (d 0) ++ ([(b, .inl (kA 1, 900, .inl (aI T2)))] ++ (cs_X4 kA d G0)))) s.heap s.heap [] := va_S.rf
  have hD := zDself (C := fun w : Sz × Sz × Sz => (cs_X6 kA a w.1 w.2.1 b (d 0) ++ ([(b, .inl (kA 1, 900, .inl (aI T2)))] ++ (cs_X4 kA d w.2.2)))) hDt (V0, X0, G0) (fun _ => rfl)
  try dsimp only at hD
  generalize hAe : zF (cs_X6 kA a V0 X0 b (d 0) ++ ([(b, .inl (kA 1, 900, .inl (aI T2)))] ++ (cs_X4 kA d G0))) = A0 at hS hD hret
  unfold f_X6_readDeclaration at hf
  have J18 : ∀ (V : Sz) (X : Sz) (G : Sz) (H : Heap) (locs : List Loc) (ls : Array Slot), jX6_readDeclaration_18 n T2 V X G = some (Vr, Xr, Gr) → va_P D vwCl (cs_X6 kA a V X b (d 0) ++ ([(b, .inl (kA 1, 900, .inl (aI T2)))] ++ (cs_X4 kA d G))) H → va_S A0 s.heap H locs → lv_has ls 4 [(0, .ref (a 0))] → W p l e rmX6_readDeclaration s m args below meth c H locs 0 0 Q (F0 m 18 ls []) := by
    intro V X G H locs ls hf hP hS hl
    unfold jX6_readDeclaration_18 at hf
    refine lv_aload_n hC.1 hC.2.1 dX6_readDeclaration_18 rfl (lv_at hl 0 rfl) <| ?_
    obtain ⟨⟨V_2, X_3⟩, hu, hf⟩ := bd_some hf
    have hDc : ∀ w : Sz × Sz, va_D (fun _ => True) (cs_X6 kA a w.1 w.2 (b) (d 0) ++ ([((b), .inl (kA 1, 900, .inl (aI T2)))] ++ (cs_X4 kA d G))) := fun w => (hDt (w.1, w.2, G)).sub [0, 1, 2, 3, 4, 5, 6, 7, 8, 9, 10, 11, 12, 13, 14, 15, 16, 17, 18, 19, 20, 21, 22, 23, 24, 25, 26] (by decide) rfl
    refine zcVZ (As := []) (rest := []) hC hK (met_X6_advance l D kA a (b) d n V X T2 G hDc hu) zwX6_51 hS (zFsub (hD (V, X, G)) [0, 1, 2, 3, 4, 5, 6, 7, 8, 9, 10, 11, 12, 13, 14, 15, 16, 17, 18, 19, 20, 21, 22, 23, 24, 25, 26] rfl) hP (q0 := 0) rfl rfl rfl rfl hl.1 rfl (Nat.le_of_ble_eq_true rfl) ⟨Nat.le_of_ble_eq_true rfl, Nat.le_of_ble_eq_true rfl⟩ ⟨rfl, rfl⟩ ⟨Nat.le_refl _, Nat.le_refl _⟩ dX6_readDeclaration_19 (fun H locs hP1 hk1 hS => ?_)
    have hP : va_P D vwCl (cs_X6 kA a V_2 X_3 b (d 0) ++ ([(b, .inl (kA 1, 900, .inl (aI T2)))] ++ (cs_X4 kA d G))) H := hP1
    refine lv_aload_n hC.1 hC.2.1 dX6_readDeclaration_22 rfl (lv_at hl 0 rfl) <| ?_
    obtain ⟨⟨r_4, V_5⟩, hu, hf⟩ := bd_some hf
    have hDc : ∀ w : Sz, va_D (fun _ => True) (cs_X6 kA a w X_3 (b) (d 0) ++ ([((b), .inl (kA 1, 900, .inl (aI T2)))] ++ (cs_X4 kA d G))) := fun w => (hDt (w, X_3, G)).sub [0, 1, 2, 3, 4, 5, 6, 7, 8, 9, 10, 11, 12, 13, 14, 15, 16, 17, 18, 19, 20, 21, 22, 23, 24, 25, 26] (by decide) rfl
    refine zcVZ (As := []) (rest := []) hC hK (met_X6_knownDonor l D kA a (b) d n V_2 X_3 T2 G hDc hu) zwX6_122 hS (zFsub (hD (V_2, X_3, G)) [0, 1, 2, 3, 4, 5, 6, 7, 8, 9, 10, 11, 12, 13, 14, 15, 16, 17, 18, 19, 20, 21, 22, 23, 24, 25, 26] rfl) hP (q0 := 0) rfl rfl rfl rfl hl.1 rfl (Nat.le_of_ble_eq_true rfl) ⟨Nat.le_of_ble_eq_true rfl, Nat.le_of_ble_eq_true rfl⟩ ⟨rfl, rfl⟩ ⟨Nat.le_refl _, Nat.le_refl _⟩ dX6_readDeclaration_23 (fun H locs hP1 hk1 hS => ?_)
    have hP : va_P D vwCl (cs_X6 kA a V_5 X_3 b (d 0) ++ ([(b, .inl (kA 1, 900, .inl (aI T2)))] ++ (cs_X4 kA d G))) H := hP1
    refine zistore_n (lv' := [(1, vI r_4), (0, .ref (a 0))]) hC.1 hC.2.1 dX6_readDeclaration_26 rfl hl (by decide) rfl (fun ls hl => ?_)
    refine lv_aload_n hC.1 hC.2.1 dX6_readDeclaration_27 rfl (lv_at hl 1 rfl) <| ziconst hC.1 hC.2.1 dX6_readDeclaration_28 <| zsipush hC.1 hC.2.1 dX6_readDeclaration_29 (by decide) <| ?_
    obtain ⟨⟨r_6, V_7, X_8⟩, hu, hf⟩ := bd_some hf
    have hDc : ∀ w : Sz × Sz, va_D (fun _ => True) (cs_X6 kA a w.1 w.2 (b) (d 0) ++ ([((b), .inl (kA 1, 900, .inl (aI T2)))] ++ (cs_X4 kA d G))) := fun w => (hDt (w.1, w.2, G)).sub [0, 1, 2, 3, 4, 5, 6, 7, 8, 9, 10, 11, 12, 13, 14, 15, 16, 17, 18, 19, 20, 21, 22, 23, 24, 25, 26] (by decide) rfl
    refine zcVZ (As := [vI 0, vI 9999]) (rest := []) hC hK (met_X6_readNumber l D kA a (b) d n V_5 X_3 T2 G 0 9999 hDc hu) zwX6_106 hS (zFsub (hD (V_5, X_3, G)) [0, 1, 2, 3, 4, 5, 6, 7, 8, 9, 10, 11, 12, 13, 14, 15, 16, 17, 18, 19, 20, 21, 22, 23, 24, 25, 26] rfl) hP (q0 := 0) rfl rfl rfl rfl hl.1 rfl (Nat.le_of_ble_eq_true rfl) ⟨Nat.le_of_ble_eq_true rfl, Nat.le_of_ble_eq_true rfl⟩ ⟨rfl, rfl⟩ ⟨Nat.le_refl _, Nat.le_refl _⟩ dX6_readDeclaration_32 (fun H locs hP1 hk1 hS => ?_)
    have hP : va_P D vwCl (cs_X6 kA a V_7 X_8 b (d 0) ++ ([(b, .inl (kA 1, 900, .inl (aI T2)))] ++ (cs_X4 kA d G))) H := hP1
    refine zistore_n (lv' := [(2, vI r_6), (1, vI r_4), (0, .ref (a 0))]) hC.1 hC.2.1 dX6_readDeclaration_35 rfl hl (by decide) rfl (fun ls hl => ?_)
    refine lv_aload_n hC.1 hC.2.1 dX6_readDeclaration_36 rfl (lv_at hl 2 rfl) <| ziload_n hC.1 hC.2.1 dX6_readDeclaration_37 rfl (lv_at hl 0 rfl) <| zsipush hC.1 hC.2.1 dX6_readDeclaration_38 (by decide) <| ?_
    obtain ⟨⟨r_9, V_10, X_11⟩, hu, hf⟩ := bd_some hf
    have hDc : ∀ w : Sz × Sz, va_D (fun _ => True) (cs_X6 kA a w.1 w.2 (b) (d 0) ++ ([((b), .inl (kA 1, 900, .inl (aI T2)))] ++ (cs_X4 kA d G))) := fun w => (hDt (w.1, w.2, G)).sub [0, 1, 2, 3, 4, 5, 6, 7, 8, 9, 10, 11, 12, 13, 14, 15, 16, 17, 18, 19, 20, 21, 22, 23, 24, 25, 26] (by decide) rfl
    refine zcVZ (As := [vI r_6, vI 9999]) (rest := []) hC hK (met_X6_readNumber l D kA a (b) d n V_7 X_8 T2 G r_6 9999 hDc hu) zwX6_106 hS (zFsub (hD (V_7, X_8, G)) [0, 1, 2, 3, 4, 5, 6, 7, 8, 9, 10, 11, 12, 13, 14, 15, 16, 17, 18, 19, 20, 21, 22, 23, 24, 25, 26] rfl) hP (q0 := 0) rfl rfl rfl rfl hl.1 rfl (Nat.le_of_ble_eq_true rfl) ⟨Nat.le_of_ble_eq_true rfl, Nat.le_of_ble_eq_true rfl⟩ ⟨rfl, rfl⟩ ⟨Nat.le_refl _, Nat.le_refl _⟩ dX6_readDeclaration_41 (fun H locs hP1 hk1 hS => ?_)
    have hP : va_P D vwCl (cs_X6 kA a V_10 X_11 b (d 0) ++ ([(b, .inl (kA 1, 900, .inl (aI T2)))] ++ (cs_X4 kA d G))) H := hP1
    refine zistore_n (lv' := [(3, vI r_9), (2, vI r_6), (1, vI r_4), (0, .ref (a 0))]) hC.1 hC.2.1 dX6_readDeclaration_44 rfl hl (by decide) rfl (fun ls hl => ?_)
    refine lv_aload_n hC.1 hC.2.1 dX6_readDeclaration_45 rfl (lv_at hl 3 rfl) <| ?_
    obtain ⟨⟨V_12, X_13⟩, hu, hf⟩ := bd_some hf
    have hDc : ∀ w : Sz × Sz, va_D (fun _ => True) (cs_X6 kA a w.1 w.2 (b) (d 0) ++ ([((b), .inl (kA 1, 900, .inl (aI T2)))] ++ (cs_X4 kA d G))) := fun w => (hDt (w.1, w.2, G)).sub [0, 1, 2, 3, 4, 5, 6, 7, 8, 9, 10, 11, 12, 13, 14, 15, 16, 17, 18, 19, 20, 21, 22, 23, 24, 25, 26] (by decide) rfl
    refine zcVZ (As := []) (rest := []) hC hK (met_X6_readSemicolon l D kA a (b) d n V_10 X_11 T2 G hDc hu) zwX6_87 hS (zFsub (hD (V_10, X_11, G)) [0, 1, 2, 3, 4, 5, 6, 7, 8, 9, 10, 11, 12, 13, 14, 15, 16, 17, 18, 19, 20, 21, 22, 23, 24, 25, 26] rfl) hP (q0 := 0) rfl rfl rfl rfl hl.1 rfl (Nat.le_of_ble_eq_true rfl) ⟨Nat.le_of_ble_eq_true rfl, Nat.le_of_ble_eq_true rfl⟩ ⟨rfl, rfl⟩ ⟨Nat.le_refl _, Nat.le_refl _⟩ dX6_readDeclaration_46 (fun H locs hP1 hk1 hS => ?_)
    have hP : va_P D vwCl (cs_X6 kA a V_12 X_13 b (d 0) ++ ([(b, .inl (kA 1, 900, .inl (aI T2)))] ++ (cs_X4 kA d G))) H := hP1
    refine lv_aload_n hC.1 hC.2.1 dX6_readDeclaration_49 rfl (lv_at hl 3 rfl) <| gfX6_36 hC hK hP (q0 := 0) rfl rfl dX6_readDeclaration_50 <| ?_
    obtain ⟨hz_14, hf⟩ := ck_some hf
    refine zif_ne (tgt := 70) hC.1 hC.2.1 hz_14 dX6_readDeclaration_53 (by decide) (fun hc => ?_) (fun hc => ?_)
    · have hf := it_f hf hc
      have hf := Option.some.inj hf
      simp only [Prod.mk.injEq] at hf
      exact hret _ _ _ _ rfl (by rw [← hf.1, ← hf.2.1, ← hf.2.2]; exact hP) hS dX6_readDeclaration_70
    · have hf := it_t hf hc
      refine lv_aload_n hC.1 hC.2.1 dX6_readDeclaration_56 rfl (lv_at hl 3 rfl) <| gfX6_19 hC hK hP (q0 := 0) rfl rfl dX6_readDeclaration_57 <| gfX6_112 hC hK hP (q0 := 3) rfl rfl dX6_readDeclaration_60 <| ziload_n hC.1 hC.2.1 dX6_readDeclaration_63 rfl (lv_at hl 2 rfl) <| ziload_n hC.1 hC.2.1 dX6_readDeclaration_64 rfl (lv_at hl 1 rfl) <| ziload_n hC.1 hC.2.1 dX6_readDeclaration_65 rfl (lv_at hl 0 rfl) <| ?_
      obtain ⟨⟨r_15, G_16⟩, hu, hf⟩ := bd_some hf
      have hPc : va_P D vwCl (cs_X1 kA (sv 2 d) (sv 5 G)) _ := hP.sub [5, 6, 7, 8] rfl
      have hDc : ∀ w : Sz, va_D (fun _ => True) (cs_X1 kA (sv 2 d) w) := fun w => (hDt (V_12, X_13, sw 5 4 G w)).sub [5, 6, 7, 8] (by decide) rfl
      refine zcVZ (As := [vI r_4, vI r_6, vI r_9]) (rest := []) hC hK (met_X1_add l D kA (sv 2 d) (sv 5 G) r_4 r_6 r_9 hDc hu) zwX6_125 hS (zFsub (hD (V_12, X_13, G)) [5, 6, 7, 8] rfl) hPc (q0 := 0) rfl rfl rfl rfl hl.1 rfl (Nat.le_of_ble_eq_true rfl) ⟨Nat.le_of_ble_eq_true rfl, Nat.le_of_ble_eq_true rfl⟩ ⟨rfl, rfl⟩ ⟨Nat.le_refl _, Nat.le_refl _⟩ dX6_readDeclaration_66 (fun H locs hP1 hk1 hS => ?_)
      obtain ⟨G_17, eG_17⟩ : ∃ y, y = sw 5 4 G G_16 := ⟨_, rfl⟩
      have hf := nm_at hf eG_17
      have hP : va_P D vwCl (cs_X6 kA a V_12 X_13 b (d 0) ++ ([(b, .inl (kA 1, 900, .inl (aI T2)))] ++ (cs_X4 kA d G_17))) H := by rw [eG_17]; exact zjoin hP (hDt (V_12, X_13, G)) [5, 6, 7, 8] (w0 := (cs_X1 kA (sv 2 d) (sv 5 G))) rfl (Nat.le_of_ble_eq_true rfl) hk1 hP1
      refine lv_pop hC.1 hC.2.1 dX6_readDeclaration_69 rfl <| ?_
      have hf := Option.some.inj hf
      simp only [Prod.mk.injEq] at hf
      exact hret _ _ _ _ rfl (by rw [← hf.1, ← hf.2.1, ← hf.2.2]; exact hP) hS dX6_readDeclaration_70
  refine lv_aload_n hC.1 hC.2.1 dX6_readDeclaration_0 rfl (lv_at hl 0 rfl) <| gfX6_19 hC hK hP (q0 := 0) rfl rfl dX6_readDeclaration_1 <| gfX6_112 hC hK hP (q0 := 3) rfl rfl dX6_readDeclaration_4 <| ?_
  obtain ⟨r_1, hu, hf⟩ := bd_some hf
  have hPc : va_P D vwCl (cs_X1 kA (sv 2 d) (sv 5 G0)) _ := hP.sub [5, 6, 7, 8] rfl
  refine zcVP (As := []) (rest := []) hC hK (met_X1_isFull l D kA (sv 2 d) (sv 5 G0) hu) zwX6_116 hPc (q0 := 0) rfl rfl rfl rfl hl.1 rfl (Nat.le_of_ble_eq_true rfl) ⟨Nat.le_of_ble_eq_true rfl, Nat.le_of_ble_eq_true rfl⟩ ⟨rfl, rfl⟩ ⟨Nat.le_refl _, Nat.le_refl _⟩ dX6_readDeclaration_7 <| zifb_eq (tgt := 18) hC.1 hC.2.1 dX6_readDeclaration_10 (by decide) (fun hc => ?_) (fun hc => ?_)
  · have hf := it_t hf hc
    exact J18 _ _ _ _ _ _ hf hP hS (lv_sub hl [0] rfl)
  · have hf := it_f hf hc
    refine lv_aload_n hC.1 hC.2.1 dX6_readDeclaration_13 rfl (lv_at hl 0 rfl) <| ziconst hC.1 hC.2.1 dX6_readDeclaration_14 <| ?_
    obtain ⟨V_18, hu, hf⟩ := bd_some hf
    have hDc : ∀ w : Sz, va_D (fun _ => True) (cs_X6 kA a w X0 (b) (d 0) ++ ([((b), .inl (kA 1, 900, .inl (aI T2)))] ++ (cs_X4 kA d G0))) := fun w => (hDt (w, X0, G0)).sub [0, 1, 2, 3, 4, 5, 6, 7, 8, 9, 10, 11, 12, 13, 14, 15, 16, 17, 18, 19, 20, 21, 22, 23, 24, 25, 26] (by decide) rfl
    refine zcVZ (As := [vI 4]) (rest := []) hC hK (met_X6_fail l D kA a (b) d V0 X0 T2 G0 4 hDc hu) zwX6_95 hS (zFsub (hD (V0, X0, G0)) [0, 1, 2, 3, 4, 5, 6, 7, 8, 9, 10, 11, 12, 13, 14, 15, 16, 17, 18, 19, 20, 21, 22, 23, 24, 25, 26] rfl) hP (q0 := 0) rfl rfl rfl rfl hl.1 rfl (Nat.le_of_ble_eq_true rfl) ⟨Nat.le_of_ble_eq_true rfl, Nat.le_of_ble_eq_true rfl⟩ ⟨rfl, rfl⟩ ⟨Nat.le_refl _, Nat.le_refl _⟩ dX6_readDeclaration_15 (fun H locs hP1 hk1 hS => ?_)
    have hP : va_P D vwCl (cs_X6 kA a V_18 X0 b (d 0) ++ ([(b, .inl (kA 1, 900, .inl (aI T2)))] ++ (cs_X4 kA d G0))) H := hP1
    exact J18 _ _ _ _ _ _ hf hP hS (lv_sub hl [0] rfl)
theorem DX6_readDonor_0 : ∀ q ∈ ([(0, .aload_n 0, 1), (1, .getfield 19, 3), (4, .getfield 99, 3), (7, .istore_n 1, 1), (8, .iload_n 1, 1), (9, .bipush 10, 2), (11, .if_icmp .lt 8, 3), (14, .aload_n 0, 1), (15, .iconst 4, 1), (16, .invokevirtual 95, 3), (19, .aload_n 0, 1), (20, .invokevirtual 51, 3), (23, .aload_n 0, 1), (24, .invokevirtual 102, 3), (27, .iconst (-1), 1), (28, .if_icmp .eq 8, 3), (31, .aload_n 0, 1), (32, .iconst 3, 1), (33, .invokevirtual 95, 3), (36, .aload_n 0, 1), (37, .getfield 57, 3), (40, .lstore_n 2, 1), (41, .aload_n 0, 1), (42, .iconst 0, 1), (43, .ldc 105, 2), (45, .invokevirtual 106, 3), (48, .istore 4, 2), (50, .aload_n 0, 1), (51, .invokevirtual 87, 3), (54, .aload_n 0, 1), (55, .getfield 36, 3), (58, .ifCond .ne 25, 3), (61, .iload_n 1, 1), (62, .bipush 10, 2), (64, .if_icmp .ge 19, 3), (67, .aload_n 0, 1), (68, .getfield 9, 3), (71, .iload_n 1, 1), (72, .lload_n 2, 1), (73, .lastore, 1)] : List (Nat × Instr × Nat)), decode cX6_readDonor q.1 = .ok q.2 := by decide +kernel
theorem dX6_readDonor_0 : decode cX6_readDonor 0 = .ok (.aload_n 0, 1) := DX6_readDonor_0 (0, .aload_n 0, 1) (List.mem_of_getElem? (i := 0) rfl)
theorem dX6_readDonor_1 : decode cX6_readDonor 1 = .ok (.getfield 19, 3) := DX6_readDonor_0 (1, .getfield 19, 3) (List.mem_of_getElem? (i := 1) rfl)
theorem dX6_readDonor_4 : decode cX6_readDonor 4 = .ok (.getfield 99, 3) := DX6_readDonor_0 (4, .getfield 99, 3) (List.mem_of_getElem? (i := 2) rfl)
theorem dX6_readDonor_7 : decode cX6_readDonor 7 = .ok (.istore_n 1, 1) := DX6_readDonor_0 (7, .istore_n 1, 1) (List.mem_of_getElem? (i := 3) rfl)
theorem dX6_readDonor_8 : decode cX6_readDonor 8 = .ok (.iload_n 1, 1) := DX6_readDonor_0 (8, .iload_n 1, 1) (List.mem_of_getElem? (i := 4) rfl)
theorem dX6_readDonor_9 : decode cX6_readDonor 9 = .ok (.bipush 10, 2) := DX6_readDonor_0 (9, .bipush 10, 2) (List.mem_of_getElem? (i := 5) rfl)
theorem dX6_readDonor_11 : decode cX6_readDonor 11 = .ok (.if_icmp .lt 8, 3) := DX6_readDonor_0 (11, .if_icmp .lt 8, 3) (List.mem_of_getElem? (i := 6) rfl)
theorem dX6_readDonor_14 : decode cX6_readDonor 14 = .ok (.aload_n 0, 1) := DX6_readDonor_0 (14, .aload_n 0, 1) (List.mem_of_getElem? (i := 7) rfl)
theorem dX6_readDonor_15 : decode cX6_readDonor 15 = .ok (.iconst 4, 1) := DX6_readDonor_0 (15, .iconst 4, 1) (List.mem_of_getElem? (i := 8) rfl)
theorem dX6_readDonor_16 : decode cX6_readDonor 16 = .ok (.invokevirtual 95, 3) := DX6_readDonor_0 (16, .invokevirtual 95, 3) (List.mem_of_getElem? (i := 9) rfl)
theorem dX6_readDonor_19 : decode cX6_readDonor 19 = .ok (.aload_n 0, 1) := DX6_readDonor_0 (19, .aload_n 0, 1) (List.mem_of_getElem? (i := 10) rfl)
theorem dX6_readDonor_20 : decode cX6_readDonor 20 = .ok (.invokevirtual 51, 3) := DX6_readDonor_0 (20, .invokevirtual 51, 3) (List.mem_of_getElem? (i := 11) rfl)
theorem dX6_readDonor_23 : decode cX6_readDonor 23 = .ok (.aload_n 0, 1) := DX6_readDonor_0 (23, .aload_n 0, 1) (List.mem_of_getElem? (i := 12) rfl)
theorem dX6_readDonor_24 : decode cX6_readDonor 24 = .ok (.invokevirtual 102, 3) := DX6_readDonor_0 (24, .invokevirtual 102, 3) (List.mem_of_getElem? (i := 13) rfl)
theorem dX6_readDonor_27 : decode cX6_readDonor 27 = .ok (.iconst (-1), 1) := DX6_readDonor_0 (27, .iconst (-1), 1) (List.mem_of_getElem? (i := 14) rfl)
theorem dX6_readDonor_28 : decode cX6_readDonor 28 = .ok (.if_icmp .eq 8, 3) := DX6_readDonor_0 (28, .if_icmp .eq 8, 3) (List.mem_of_getElem? (i := 15) rfl)
theorem dX6_readDonor_31 : decode cX6_readDonor 31 = .ok (.aload_n 0, 1) := DX6_readDonor_0 (31, .aload_n 0, 1) (List.mem_of_getElem? (i := 16) rfl)
theorem dX6_readDonor_32 : decode cX6_readDonor 32 = .ok (.iconst 3, 1) := DX6_readDonor_0 (32, .iconst 3, 1) (List.mem_of_getElem? (i := 17) rfl)
theorem dX6_readDonor_33 : decode cX6_readDonor 33 = .ok (.invokevirtual 95, 3) := DX6_readDonor_0 (33, .invokevirtual 95, 3) (List.mem_of_getElem? (i := 18) rfl)
theorem dX6_readDonor_36 : decode cX6_readDonor 36 = .ok (.aload_n 0, 1) := DX6_readDonor_0 (36, .aload_n 0, 1) (List.mem_of_getElem? (i := 19) rfl)
theorem dX6_readDonor_37 : decode cX6_readDonor 37 = .ok (.getfield 57, 3) := DX6_readDonor_0 (37, .getfield 57, 3) (List.mem_of_getElem? (i := 20) rfl)
theorem dX6_readDonor_40 : decode cX6_readDonor 40 = .ok (.lstore_n 2, 1) := DX6_readDonor_0 (40, .lstore_n 2, 1) (List.mem_of_getElem? (i := 21) rfl)
theorem dX6_readDonor_41 : decode cX6_readDonor 41 = .ok (.aload_n 0, 1) := DX6_readDonor_0 (41, .aload_n 0, 1) (List.mem_of_getElem? (i := 22) rfl)
theorem dX6_readDonor_42 : decode cX6_readDonor 42 = .ok (.iconst 0, 1) := DX6_readDonor_0 (42, .iconst 0, 1) (List.mem_of_getElem? (i := 23) rfl)
theorem dX6_readDonor_43 : decode cX6_readDonor 43 = .ok (.ldc 105, 2) := DX6_readDonor_0 (43, .ldc 105, 2) (List.mem_of_getElem? (i := 24) rfl)
theorem dX6_readDonor_45 : decode cX6_readDonor 45 = .ok (.invokevirtual 106, 3) := DX6_readDonor_0 (45, .invokevirtual 106, 3) (List.mem_of_getElem? (i := 25) rfl)
theorem dX6_readDonor_48 : decode cX6_readDonor 48 = .ok (.istore 4, 2) := DX6_readDonor_0 (48, .istore 4, 2) (List.mem_of_getElem? (i := 26) rfl)
theorem dX6_readDonor_50 : decode cX6_readDonor 50 = .ok (.aload_n 0, 1) := DX6_readDonor_0 (50, .aload_n 0, 1) (List.mem_of_getElem? (i := 27) rfl)
theorem dX6_readDonor_51 : decode cX6_readDonor 51 = .ok (.invokevirtual 87, 3) := DX6_readDonor_0 (51, .invokevirtual 87, 3) (List.mem_of_getElem? (i := 28) rfl)
theorem dX6_readDonor_54 : decode cX6_readDonor 54 = .ok (.aload_n 0, 1) := DX6_readDonor_0 (54, .aload_n 0, 1) (List.mem_of_getElem? (i := 29) rfl)
theorem dX6_readDonor_55 : decode cX6_readDonor 55 = .ok (.getfield 36, 3) := DX6_readDonor_0 (55, .getfield 36, 3) (List.mem_of_getElem? (i := 30) rfl)
theorem dX6_readDonor_58 : decode cX6_readDonor 58 = .ok (.ifCond .ne 25, 3) := DX6_readDonor_0 (58, .ifCond .ne 25, 3) (List.mem_of_getElem? (i := 31) rfl)
theorem dX6_readDonor_61 : decode cX6_readDonor 61 = .ok (.iload_n 1, 1) := DX6_readDonor_0 (61, .iload_n 1, 1) (List.mem_of_getElem? (i := 32) rfl)
theorem dX6_readDonor_62 : decode cX6_readDonor 62 = .ok (.bipush 10, 2) := DX6_readDonor_0 (62, .bipush 10, 2) (List.mem_of_getElem? (i := 33) rfl)
theorem dX6_readDonor_64 : decode cX6_readDonor 64 = .ok (.if_icmp .ge 19, 3) := DX6_readDonor_0 (64, .if_icmp .ge 19, 3) (List.mem_of_getElem? (i := 34) rfl)
theorem dX6_readDonor_67 : decode cX6_readDonor 67 = .ok (.aload_n 0, 1) := DX6_readDonor_0 (67, .aload_n 0, 1) (List.mem_of_getElem? (i := 35) rfl)
theorem dX6_readDonor_68 : decode cX6_readDonor 68 = .ok (.getfield 9, 3) := DX6_readDonor_0 (68, .getfield 9, 3) (List.mem_of_getElem? (i := 36) rfl)
theorem dX6_readDonor_71 : decode cX6_readDonor 71 = .ok (.iload_n 1, 1) := DX6_readDonor_0 (71, .iload_n 1, 1) (List.mem_of_getElem? (i := 37) rfl)
theorem dX6_readDonor_72 : decode cX6_readDonor 72 = .ok (.lload_n 2, 1) := DX6_readDonor_0 (72, .lload_n 2, 1) (List.mem_of_getElem? (i := 38) rfl)
theorem dX6_readDonor_73 : decode cX6_readDonor 73 = .ok (.lastore, 1) := DX6_readDonor_0 (73, .lastore, 1) (List.mem_of_getElem? (i := 39) rfl)
theorem DX6_readDonor_1 : ∀ q ∈ ([(74, .aload_n 0, 1), (75, .getfield 19, 3), (78, .iload 4, 2), (80, .invokevirtual 109, 3), (83, .return_, 1)] : List (Nat × Instr × Nat)), decode cX6_readDonor q.1 = .ok q.2 := by decide +kernel
theorem dX6_readDonor_74 : decode cX6_readDonor 74 = .ok (.aload_n 0, 1) := DX6_readDonor_1 (74, .aload_n 0, 1) (List.mem_of_getElem? (i := 0) rfl)
theorem dX6_readDonor_75 : decode cX6_readDonor 75 = .ok (.getfield 19, 3) := DX6_readDonor_1 (75, .getfield 19, 3) (List.mem_of_getElem? (i := 1) rfl)
theorem dX6_readDonor_78 : decode cX6_readDonor 78 = .ok (.iload 4, 2) := DX6_readDonor_1 (78, .iload 4, 2) (List.mem_of_getElem? (i := 2) rfl)
theorem dX6_readDonor_80 : decode cX6_readDonor 80 = .ok (.invokevirtual 109, 3) := DX6_readDonor_1 (80, .invokevirtual 109, 3) (List.mem_of_getElem? (i := 3) rfl)
theorem dX6_readDonor_83 : decode cX6_readDonor 83 = .ok (.return_, 1) := DX6_readDonor_1 (83, .return_, 1) (List.mem_of_getElem? (i := 4) rfl)
abbrev rmX6_readDonor : Room := { frames := 3, cells := 0, slots := 0, locals := 67 }
set_option maxHeartbeats 400000 in
set_option maxRecDepth 100000 in
theorem met_X6_readDonor (l : Launch) (D : va_G) (kA : Nat → ClassId) (a : Nat → Nat) (b : Nat) (d : Nat → Nat) (n : Nat) (V0 : Sz) (X0 : Sz) (T2 : Nat → Int) (G0 : Sz) (hDt : ∀ w : Sz × Sz × Sz, va_D (fun _ => True) (cs_X6 kA a w.1 w.2.1 b (d 0) ++ ([(b, .inl (kA 1, 900, .inl (aI T2)))] ++ (cs_X4 kA d w.2.2)))) {Vr : Sz} {Xr : Sz} {Gr : Sz} (hf : f_X6_readDonor n V0 X0 T2 G0 = some (Vr, Xr, Gr)) : MZ l yX6_readDonor cX6_readDonor 5 none rmX6_readDonor D kA [.ref (a 0)] (cs_X6 kA a V0 X0 b (d 0) ++ ([(b, .inl (kA 1, 900, .inl (aI T2)))] ++ (cs_X4 kA d G0))) (cs_X6 kA a Vr Xr b (d 0) ++ ([(b, .inl (kA 1, 900, .inl (aI T2)))] ++ (cs_X4 kA d Gr))) (none) := by
  refine zZV (own := RX6) rfl rfl (Nat.le_of_ble_eq_true rfl) ?_
  intro p e s m args below meth c ls Q hC hK hP hl hret
  have hl : lv_has ls 5 [(0, .ref (a 0))] := hl
  have hS : va_S (zF (cs_X6 kA a V0 X0 b (d 0) ++ ([(b, .inl (kA 1, 900, .inl (aI T2)))] ++ (cs_X4 kA d G0)))) s.heap s.heap [] := va_S.rf
  have hD := zDself (C := fun w : Sz × Sz × Sz => (cs_X6 kA a w.1 w.2.1 b (d 0) ++ ([(b, .inl (kA 1, 900, .inl (aI T2)))] ++ (cs_X4 kA d w.2.2)))) hDt (V0, X0, G0) (fun _ => rfl)
  try dsimp only at hD
  generalize hAe : zF (cs_X6 kA a V0 X0 b (d 0) ++ ([(b, .inl (kA 1, 900, .inl (aI T2)))] ++ (cs_X4 kA d G0))) = A0 at hS hD hret
  unfold f_X6_readDonor at hf
  have J36 : ∀ (y1 : Int) (V : Sz) (X : Sz) (G : Sz) (H : Heap) (locs : List Loc) (ls : Array Slot), jX6_readDonor_36 n T2 y1 V X G = some (Vr, Xr, Gr) → va_P D vwCl (cs_X6 kA a V X b (d 0) ++ ([(b, .inl (kA 1, 900, .inl (aI T2)))] ++ (cs_X4 kA d G))) H → va_S A0 s.heap H locs → lv_has ls 5 [(0, .ref (a 0)), (1, vI y1)] → W p l e rmX6_readDonor s m args below meth c H locs 0 0 Q (F0 m 36 ls []) := by
    intro y1 V X G H locs ls hf hP hS hl
    unfold jX6_readDonor_36 at hf
    refine lv_aload_n hC.1 hC.2.1 dX6_readDonor_36 rfl (lv_at hl 0 rfl) <| gfX6_57 hC hK hP (q0 := 0) rfl rfl dX6_readDonor_37 <| ?_
    refine ztopl (fun x_8 ex_8 => ?_)
    have hf := nm_at hf ex_8
    refine zlstore_n (lv' := [(2, vL x_8), (0, .ref (a 0)), (1, vI y1)]) hC.1 hC.2.1 dX6_readDonor_40 rfl hl (by decide) rfl (fun ls hl => ?_)
    refine lv_aload_n hC.1 hC.2.1 dX6_readDonor_41 rfl (lv_at hl 1 rfl) <| ziconst hC.1 hC.2.1 dX6_readDonor_42 <| zldc (n := 999999) hC qw_378 (by decide) dX6_readDonor_43 <| ?_
    obtain ⟨⟨r_9, V_10, X_11⟩, hu, hf⟩ := bd_some hf
    have hDc : ∀ w : Sz × Sz, va_D (fun _ => True) (cs_X6 kA a w.1 w.2 (b) (d 0) ++ ([((b), .inl (kA 1, 900, .inl (aI T2)))] ++ (cs_X4 kA d G))) := fun w => (hDt (w.1, w.2, G)).sub [0, 1, 2, 3, 4, 5, 6, 7, 8, 9, 10, 11, 12, 13, 14, 15, 16, 17, 18, 19, 20, 21, 22, 23, 24, 25, 26] (by decide) rfl
    refine zcVZ (As := [vI 0, vI 999999]) (rest := []) hC hK (met_X6_readNumber l D kA a (b) d n V X T2 G 0 999999 hDc hu) zwX6_106 hS (zFsub (hD (V, X, G)) [0, 1, 2, 3, 4, 5, 6, 7, 8, 9, 10, 11, 12, 13, 14, 15, 16, 17, 18, 19, 20, 21, 22, 23, 24, 25, 26] rfl) hP (q0 := 0) rfl rfl rfl rfl hl.1 rfl (Nat.le_of_ble_eq_true rfl) ⟨Nat.le_of_ble_eq_true rfl, Nat.le_of_ble_eq_true rfl⟩ ⟨rfl, rfl⟩ ⟨Nat.le_refl _, Nat.le_refl _⟩ dX6_readDonor_45 (fun H locs hP1 hk1 hS => ?_)
    have hP : va_P D vwCl (cs_X6 kA a V_10 X_11 b (d 0) ++ ([(b, .inl (kA 1, 900, .inl (aI T2)))] ++ (cs_X4 kA d G))) H := hP1
    refine zistore (lv' := [(4, vI r_9), (2, vL x_8), (0, .ref (a 0)), (1, vI y1)]) hC.1 hC.2.1 dX6_readDonor_48 hl (by decide) rfl (fun ls hl => ?_)
    refine lv_aload_n hC.1 hC.2.1 dX6_readDonor_50 rfl (lv_at hl 2 rfl) <| ?_
    obtain ⟨⟨V_12, X_13⟩, hu, hf⟩ := bd_some hf
    have hDc : ∀ w : Sz × Sz, va_D (fun _ => True) (cs_X6 kA a w.1 w.2 (b) (d 0) ++ ([((b), .inl (kA 1, 900, .inl (aI T2)))] ++ (cs_X4 kA d G))) := fun w => (hDt (w.1, w.2, G)).sub [0, 1, 2, 3, 4, 5, 6, 7, 8, 9, 10, 11, 12, 13, 14, 15, 16, 17, 18, 19, 20, 21, 22, 23, 24, 25, 26] (by decide) rfl
    refine zcVZ (As := []) (rest := []) hC hK (met_X6_readSemicolon l D kA a (b) d n V_10 X_11 T2 G hDc hu) zwX6_87 hS (zFsub (hD (V_10, X_11, G)) [0, 1, 2, 3, 4, 5, 6, 7, 8, 9, 10, 11, 12, 13, 14, 15, 16, 17, 18, 19, 20, 21, 22, 23, 24, 25, 26] rfl) hP (q0 := 0) rfl rfl rfl rfl hl.1 rfl (Nat.le_of_ble_eq_true rfl) ⟨Nat.le_of_ble_eq_true rfl, Nat.le_of_ble_eq_true rfl⟩ ⟨rfl, rfl⟩ ⟨Nat.le_refl _, Nat.le_refl _⟩ dX6_readDonor_51 (fun H locs hP1 hk1 hS => ?_)
    have hP : va_P D vwCl (cs_X6 kA a V_12 X_13 b (d 0) ++ ([(b, .inl (kA 1, 900, .inl (aI T2)))] ++ (cs_X4 kA d G))) H := hP1
    refine lv_aload_n hC.1 hC.2.1 dX6_readDonor_54 rfl (lv_at hl 2 rfl) <| gfX6_36 hC hK hP (q0 := 0) rfl rfl dX6_readDonor_55 <| ?_
    obtain ⟨hz_14, hf⟩ := ck_some hf
    refine zif_ne (tgt := 83) hC.1 hC.2.1 hz_14 dX6_readDonor_58 (by decide) (fun hc => ?_) (fun hc => ?_)
    · have hf := it_f hf hc
      have hf := Option.some.inj hf
      simp only [Prod.mk.injEq] at hf
      exact hret _ _ _ _ rfl (by rw [← hf.1, ← hf.2.1, ← hf.2.2]; exact hP) hS dX6_readDonor_83
    · have hf := it_t hf hc
      refine ziload_n hC.1 hC.2.1 dX6_readDonor_61 rfl (lv_at hl 3 rfl) <| zbipush hC.1 hC.2.1 dX6_readDonor_62 (by decide) <| ?_
      obtain ⟨hz_15, hf⟩ := ck_some hf
      refine zicmp_ge (tgt := 83) hC.1 hC.2.1 ⟨hz_15, (by decide)⟩ dX6_readDonor_64 (by decide) (fun hc => ?_) (fun hc => ?_)
      · have hf := it_t hf hc
        have hf := Option.some.inj hf
        simp only [Prod.mk.injEq] at hf
        exact hret _ _ _ _ rfl (by rw [← hf.1, ← hf.2.1, ← hf.2.2]; exact hP) hS dX6_readDonor_83
      · have hf := it_f hf hc
        refine lv_aload_n hC.1 hC.2.1 dX6_readDonor_67 rfl (lv_at hl 2 rfl) <| gfX6_9 hC hK hP (q0 := 0) rfl rfl dX6_readDonor_68 <| ziload_n hC.1 hC.2.1 dX6_readDonor_71 rfl (lv_at hl 3 rfl) <| zlload_n hC.1 hC.2.1 dX6_readDonor_72 rfl (lv_at hl 1 rfl) <| ?_
        obtain ⟨hz_16, hf⟩ := ck_some hf
        refine jlas hC hK hP (hD (V_12, X_13, G)) hS (q0 := 1) rfl (Nat.le_of_ble_eq_true rfl) hz_16 rfl dX6_readDonor_73 (fun H locs hP hS => ?_)
        obtain ⟨X_17, eX_17⟩ : ∃ y, y = uz X_13 1 y1.toNat x_8 := ⟨_, rfl⟩
        have hf := nm_at hf eX_17
        have hP : va_P D vwCl (cs_X6 kA a V_12 X_17 b (d 0) ++ ([(b, .inl (kA 1, 900, .inl (aI T2)))] ++ (cs_X4 kA d G))) H := by rw [eX_17]; exact hP
        refine lv_aload_n hC.1 hC.2.1 dX6_readDonor_74 rfl (lv_at hl 2 rfl) <| gfX6_19 hC hK hP (q0 := 0) rfl rfl dX6_readDonor_75 <| ziload hC.1 hC.2.1 dX6_readDonor_78 (lv_at hl 0 rfl) <| ?_
        obtain ⟨G_18, hu, hf⟩ := bd_some hf
        have hPc : va_P D vwCl (cs_X4 kA d G) _ := hP.sub [3, 4, 5, 6, 7, 8, 9, 10, 11, 12, 13, 14, 15, 16, 17, 18, 19, 20, 21, 22, 23, 24, 25, 26] rfl
        have hDc : ∀ w : Sz, va_D (fun _ => True) (cs_X4 kA d w) := fun w => (hDt (V_12, X_17, w)).sub [3, 4, 5, 6, 7, 8, 9, 10, 11, 12, 13, 14, 15, 16, 17, 18, 19, 20, 21, 22, 23, 24, 25, 26] (by decide) rfl
        refine zcVZ (As := [vI r_9]) (rest := []) hC hK (met_X4_addDonor l D kA d G r_9 hDc hu) zwX6_109 hS (zFsub (hD (V_12, X_17, G)) [3, 4, 5, 6, 7, 8, 9, 10, 11, 12, 13, 14, 15, 16, 17, 18, 19, 20, 21, 22, 23, 24, 25, 26] rfl) hPc (q0 := 0) rfl rfl rfl rfl hl.1 rfl (Nat.le_of_ble_eq_true rfl) ⟨Nat.le_of_ble_eq_true rfl, Nat.le_of_ble_eq_true rfl⟩ ⟨rfl, rfl⟩ ⟨Nat.le_refl _, Nat.le_refl _⟩ dX6_readDonor_80 (fun H locs hP1 hk1 hS => ?_)
        have hP : va_P D vwCl (cs_X6 kA a V_12 X_17 b (d 0) ++ ([(b, .inl (kA 1, 900, .inl (aI T2)))] ++ (cs_X4 kA d G_18))) H := zjoinA (A := cs_X6 kA a V_12 X_17 b (d 0) ++ [(b, .inl (kA 1, 900, .inl (aI T2)))]) (w0 := (cs_X4 kA d G)) hP (hDt (V_12, X_17, G)) hk1 hP1
        have hf := Option.some.inj hf
        simp only [Prod.mk.injEq] at hf
        exact hret _ _ _ _ rfl (by rw [← hf.1, ← hf.2.1, ← hf.2.2]; exact hP) hS dX6_readDonor_83
  have J19 : ∀ (y1 : Int) (V : Sz) (X : Sz) (G : Sz) (H : Heap) (locs : List Loc) (ls : Array Slot), jX6_readDonor_19 n T2 y1 V X G = some (Vr, Xr, Gr) → va_P D vwCl (cs_X6 kA a V X b (d 0) ++ ([(b, .inl (kA 1, 900, .inl (aI T2)))] ++ (cs_X4 kA d G))) H → va_S A0 s.heap H locs → lv_has ls 5 [(0, .ref (a 0)), (1, vI y1)] → W p l e rmX6_readDonor s m args below meth c H locs 0 0 Q (F0 m 19 ls []) := by
    intro y1 V X G H locs ls hf hP hS hl
    unfold jX6_readDonor_19 at hf
    refine lv_aload_n hC.1 hC.2.1 dX6_readDonor_19 rfl (lv_at hl 0 rfl) <| ?_
    obtain ⟨⟨V_3, X_4⟩, hu, hf⟩ := bd_some hf
    have hDc : ∀ w : Sz × Sz, va_D (fun _ => True) (cs_X6 kA a w.1 w.2 (b) (d 0) ++ ([((b), .inl (kA 1, 900, .inl (aI T2)))] ++ (cs_X4 kA d G))) := fun w => (hDt (w.1, w.2, G)).sub [0, 1, 2, 3, 4, 5, 6, 7, 8, 9, 10, 11, 12, 13, 14, 15, 16, 17, 18, 19, 20, 21, 22, 23, 24, 25, 26] (by decide) rfl
    refine zcVZ (As := []) (rest := []) hC hK (met_X6_advance l D kA a (b) d n V X T2 G hDc hu) zwX6_51 hS (zFsub (hD (V, X, G)) [0, 1, 2, 3, 4, 5, 6, 7, 8, 9, 10, 11, 12, 13, 14, 15, 16, 17, 18, 19, 20, 21, 22, 23, 24, 25, 26] rfl) hP (q0 := 0) rfl rfl rfl rfl hl.1 rfl (Nat.le_of_ble_eq_true rfl) ⟨Nat.le_of_ble_eq_true rfl, Nat.le_of_ble_eq_true rfl⟩ ⟨rfl, rfl⟩ ⟨Nat.le_refl _, Nat.le_refl _⟩ dX6_readDonor_20 (fun H locs hP1 hk1 hS => ?_)
    have hP : va_P D vwCl (cs_X6 kA a V_3 X_4 b (d 0) ++ ([(b, .inl (kA 1, 900, .inl (aI T2)))] ++ (cs_X4 kA d G))) H := hP1
    refine lv_aload_n hC.1 hC.2.1 dX6_readDonor_23 rfl (lv_at hl 0 rfl) <| ?_
    obtain ⟨⟨r_5, V_6⟩, hu, hf⟩ := bd_some hf
    have hDc : ∀ w : Sz, va_D (fun _ => True) (cs_X6 kA a w X_4 (b) (d 0) ++ ([((b), .inl (kA 1, 900, .inl (aI T2)))] ++ (cs_X4 kA d G))) := fun w => (hDt (w, X_4, G)).sub [0, 1, 2, 3, 4, 5, 6, 7, 8, 9, 10, 11, 12, 13, 14, 15, 16, 17, 18, 19, 20, 21, 22, 23, 24, 25, 26] (by decide) rfl
    refine zcVZ (As := []) (rest := []) hC hK (met_X6_namedDonor l D kA a (b) d n V_3 X_4 T2 G hDc hu) zwX6_102 hS (zFsub (hD (V_3, X_4, G)) [0, 1, 2, 3, 4, 5, 6, 7, 8, 9, 10, 11, 12, 13, 14, 15, 16, 17, 18, 19, 20, 21, 22, 23, 24, 25, 26] rfl) hP (q0 := 0) rfl rfl rfl rfl hl.1 rfl (Nat.le_of_ble_eq_true rfl) ⟨Nat.le_of_ble_eq_true rfl, Nat.le_of_ble_eq_true rfl⟩ ⟨rfl, rfl⟩ ⟨Nat.le_refl _, Nat.le_refl _⟩ dX6_readDonor_24 (fun H locs hP1 hk1 hS => ?_)
    have hP : va_P D vwCl (cs_X6 kA a V_6 X_4 b (d 0) ++ ([(b, .inl (kA 1, 900, .inl (aI T2)))] ++ (cs_X4 kA d G))) H := hP1
    refine ziconst hC.1 hC.2.1 dX6_readDonor_27 <| ?_
    obtain ⟨hz_7, hf⟩ := ck_some hf
    refine zicmp_eq (tgt := 36) hC.1 hC.2.1 ⟨hz_7, (by decide)⟩ dX6_readDonor_28 (by decide) (fun hc => ?_) (fun hc => ?_)
    · have hf := it_t hf hc
      exact J36 _ _ _ _ _ _ _ hf hP hS (lv_sub hl [0, 1] rfl)
    · have hf := it_f hf hc
      refine lv_aload_n hC.1 hC.2.1 dX6_readDonor_31 rfl (lv_at hl 0 rfl) <| ziconst hC.1 hC.2.1 dX6_readDonor_32 <| ?_
      obtain ⟨V_19, hu, hf⟩ := bd_some hf
      have hDc : ∀ w : Sz, va_D (fun _ => True) (cs_X6 kA a w X_4 (b) (d 0) ++ ([((b), .inl (kA 1, 900, .inl (aI T2)))] ++ (cs_X4 kA d G))) := fun w => (hDt (w, X_4, G)).sub [0, 1, 2, 3, 4, 5, 6, 7, 8, 9, 10, 11, 12, 13, 14, 15, 16, 17, 18, 19, 20, 21, 22, 23, 24, 25, 26] (by decide) rfl
      refine zcVZ (As := [vI 3]) (rest := []) hC hK (met_X6_fail l D kA a (b) d V_6 X_4 T2 G 3 hDc hu) zwX6_95 hS (zFsub (hD (V_6, X_4, G)) [0, 1, 2, 3, 4, 5, 6, 7, 8, 9, 10, 11, 12, 13, 14, 15, 16, 17, 18, 19, 20, 21, 22, 23, 24, 25, 26] rfl) hP (q0 := 0) rfl rfl rfl rfl hl.1 rfl (Nat.le_of_ble_eq_true rfl) ⟨Nat.le_of_ble_eq_true rfl, Nat.le_of_ble_eq_true rfl⟩ ⟨rfl, rfl⟩ ⟨Nat.le_refl _, Nat.le_refl _⟩ dX6_readDonor_33 (fun H locs hP1 hk1 hS => ?_)
      have hP : va_P D vwCl (cs_X6 kA a V_19 X_4 b (d 0) ++ ([(b, .inl (kA 1, 900, .inl (aI T2)))] ++ (cs_X4 kA d G))) H := hP1
      exact J36 _ _ _ _ _ _ _ hf hP hS (lv_sub hl [0, 1] rfl)
  refine lv_aload_n hC.1 hC.2.1 dX6_readDonor_0 rfl (lv_at hl 0 rfl) <| gfX6_19 hC hK hP (q0 := 0) rfl rfl dX6_readDonor_1 <| gfX6_99 hC hK hP (q0 := 3) rfl rfl dX6_readDonor_4 <| ?_
  refine ztopi (fun x_1 ex_1 => ?_)
  have hf := nm_at hf ex_1
  refine zistore_n (lv' := [(1, vI x_1), (0, .ref (a 0))]) hC.1 hC.2.1 dX6_readDonor_7 rfl hl (by decide) rfl (fun ls hl => ?_)
  refine ziload_n hC.1 hC.2.1 dX6_readDonor_8 rfl (lv_at hl 0 rfl) <| zbipush hC.1 hC.2.1 dX6_readDonor_9 (by decide) <| ?_
  obtain ⟨hz_2, hf⟩ := ck_some hf
  refine zicmp_lt (tgt := 19) hC.1 hC.2.1 ⟨hz_2, (by decide)⟩ dX6_readDonor_11 (by decide) (fun hc => ?_) (fun hc => ?_)
  · have hf := it_t hf hc
    exact J19 _ _ _ _ _ _ _ hf hP hS (lv_sub hl [1, 0] rfl)
  · have hf := it_f hf hc
    refine lv_aload_n hC.1 hC.2.1 dX6_readDonor_14 rfl (lv_at hl 1 rfl) <| ziconst hC.1 hC.2.1 dX6_readDonor_15 <| ?_
    obtain ⟨V_20, hu, hf⟩ := bd_some hf
    have hDc : ∀ w : Sz, va_D (fun _ => True) (cs_X6 kA a w X0 (b) (d 0) ++ ([((b), .inl (kA 1, 900, .inl (aI T2)))] ++ (cs_X4 kA d G0))) := fun w => (hDt (w, X0, G0)).sub [0, 1, 2, 3, 4, 5, 6, 7, 8, 9, 10, 11, 12, 13, 14, 15, 16, 17, 18, 19, 20, 21, 22, 23, 24, 25, 26] (by decide) rfl
    refine zcVZ (As := [vI 4]) (rest := []) hC hK (met_X6_fail l D kA a (b) d V0 X0 T2 G0 4 hDc hu) zwX6_95 hS (zFsub (hD (V0, X0, G0)) [0, 1, 2, 3, 4, 5, 6, 7, 8, 9, 10, 11, 12, 13, 14, 15, 16, 17, 18, 19, 20, 21, 22, 23, 24, 25, 26] rfl) hP (q0 := 0) rfl rfl rfl rfl hl.1 rfl (Nat.le_of_ble_eq_true rfl) ⟨Nat.le_of_ble_eq_true rfl, Nat.le_of_ble_eq_true rfl⟩ ⟨rfl, rfl⟩ ⟨Nat.le_refl _, Nat.le_refl _⟩ dX6_readDonor_16 (fun H locs hP1 hk1 hS => ?_)
    have hP : va_P D vwCl (cs_X6 kA a V_20 X0 b (d 0) ++ ([(b, .inl (kA 1, 900, .inl (aI T2)))] ++ (cs_X4 kA d G0))) H := hP1
    exact J19 _ _ _ _ _ _ _ hf hP hS (lv_sub hl [1, 0] rfl)
theorem DX6_readAll_0 : ∀ q ∈ ([(0, .aload_n 0, 1), (1, .iload_n 1, 1), (2, .aload_n 0, 1), (3, .getfield 15, 3), (6, .arraylength, 1), (7, .invokestatic 23, 3), (10, .putfield 29, 3), (13, .aload_n 0, 1), (14, .iconst 0, 1), (15, .putfield 33, 3), (18, .aload_n 0, 1), (19, .iconst 0, 1), (20, .putfield 36, 3), (23, .aload_n 0, 1), (24, .iconst (-1), 1), (25, .putfield 39, 3), (28, .aload_n 0, 1), (29, .iconst 0, 1), (30, .putfield 42, 3), (33, .aload_n 0, 1), (34, .getfield 19, 3), (37, .invokevirtual 46, 3), (40, .aload_n 0, 1), (41, .invokevirtual 51, 3), (44, .iconst 0, 1), (45, .istore_n 2, 1), (46, .iload_n 2, 1), (47, .sipush 900, 3), (50, .if_icmp .ge 145, 3), (53, .aload_n 0, 1), (54, .getfield 54, 3), (57, .ifCond .eq 138, 3), (60, .aload_n 0, 1), (61, .getfield 36, 3), (64, .ifCond .ne 131, 3), (67, .aload_n 0, 1), (68, .getfield 57, 3), (71, .ldc2_w 61, 3), (74, .lcmp, 1), (75, .ifCond .ne 10, 3)] : List (Nat × Instr × Nat)), decode cX6_readAll q.1 = .ok q.2 := by decide +kernel
theorem dX6_readAll_0 : decode cX6_readAll 0 = .ok (.aload_n 0, 1) := DX6_readAll_0 (0, .aload_n 0, 1) (List.mem_of_getElem? (i := 0) rfl)
theorem dX6_readAll_1 : decode cX6_readAll 1 = .ok (.iload_n 1, 1) := DX6_readAll_0 (1, .iload_n 1, 1) (List.mem_of_getElem? (i := 1) rfl)
theorem dX6_readAll_2 : decode cX6_readAll 2 = .ok (.aload_n 0, 1) := DX6_readAll_0 (2, .aload_n 0, 1) (List.mem_of_getElem? (i := 2) rfl)
theorem dX6_readAll_3 : decode cX6_readAll 3 = .ok (.getfield 15, 3) := DX6_readAll_0 (3, .getfield 15, 3) (List.mem_of_getElem? (i := 3) rfl)
theorem dX6_readAll_6 : decode cX6_readAll 6 = .ok (.arraylength, 1) := DX6_readAll_0 (6, .arraylength, 1) (List.mem_of_getElem? (i := 4) rfl)
theorem dX6_readAll_7 : decode cX6_readAll 7 = .ok (.invokestatic 23, 3) := DX6_readAll_0 (7, .invokestatic 23, 3) (List.mem_of_getElem? (i := 5) rfl)
theorem dX6_readAll_10 : decode cX6_readAll 10 = .ok (.putfield 29, 3) := DX6_readAll_0 (10, .putfield 29, 3) (List.mem_of_getElem? (i := 6) rfl)
theorem dX6_readAll_13 : decode cX6_readAll 13 = .ok (.aload_n 0, 1) := DX6_readAll_0 (13, .aload_n 0, 1) (List.mem_of_getElem? (i := 7) rfl)
theorem dX6_readAll_14 : decode cX6_readAll 14 = .ok (.iconst 0, 1) := DX6_readAll_0 (14, .iconst 0, 1) (List.mem_of_getElem? (i := 8) rfl)
theorem dX6_readAll_15 : decode cX6_readAll 15 = .ok (.putfield 33, 3) := DX6_readAll_0 (15, .putfield 33, 3) (List.mem_of_getElem? (i := 9) rfl)
theorem dX6_readAll_18 : decode cX6_readAll 18 = .ok (.aload_n 0, 1) := DX6_readAll_0 (18, .aload_n 0, 1) (List.mem_of_getElem? (i := 10) rfl)
theorem dX6_readAll_19 : decode cX6_readAll 19 = .ok (.iconst 0, 1) := DX6_readAll_0 (19, .iconst 0, 1) (List.mem_of_getElem? (i := 11) rfl)
theorem dX6_readAll_20 : decode cX6_readAll 20 = .ok (.putfield 36, 3) := DX6_readAll_0 (20, .putfield 36, 3) (List.mem_of_getElem? (i := 12) rfl)
theorem dX6_readAll_23 : decode cX6_readAll 23 = .ok (.aload_n 0, 1) := DX6_readAll_0 (23, .aload_n 0, 1) (List.mem_of_getElem? (i := 13) rfl)
theorem dX6_readAll_24 : decode cX6_readAll 24 = .ok (.iconst (-1), 1) := DX6_readAll_0 (24, .iconst (-1), 1) (List.mem_of_getElem? (i := 14) rfl)
theorem dX6_readAll_25 : decode cX6_readAll 25 = .ok (.putfield 39, 3) := DX6_readAll_0 (25, .putfield 39, 3) (List.mem_of_getElem? (i := 15) rfl)
theorem dX6_readAll_28 : decode cX6_readAll 28 = .ok (.aload_n 0, 1) := DX6_readAll_0 (28, .aload_n 0, 1) (List.mem_of_getElem? (i := 16) rfl)
theorem dX6_readAll_29 : decode cX6_readAll 29 = .ok (.iconst 0, 1) := DX6_readAll_0 (29, .iconst 0, 1) (List.mem_of_getElem? (i := 17) rfl)
theorem dX6_readAll_30 : decode cX6_readAll 30 = .ok (.putfield 42, 3) := DX6_readAll_0 (30, .putfield 42, 3) (List.mem_of_getElem? (i := 18) rfl)
theorem dX6_readAll_33 : decode cX6_readAll 33 = .ok (.aload_n 0, 1) := DX6_readAll_0 (33, .aload_n 0, 1) (List.mem_of_getElem? (i := 19) rfl)
theorem dX6_readAll_34 : decode cX6_readAll 34 = .ok (.getfield 19, 3) := DX6_readAll_0 (34, .getfield 19, 3) (List.mem_of_getElem? (i := 20) rfl)
theorem dX6_readAll_37 : decode cX6_readAll 37 = .ok (.invokevirtual 46, 3) := DX6_readAll_0 (37, .invokevirtual 46, 3) (List.mem_of_getElem? (i := 21) rfl)
theorem dX6_readAll_40 : decode cX6_readAll 40 = .ok (.aload_n 0, 1) := DX6_readAll_0 (40, .aload_n 0, 1) (List.mem_of_getElem? (i := 22) rfl)
theorem dX6_readAll_41 : decode cX6_readAll 41 = .ok (.invokevirtual 51, 3) := DX6_readAll_0 (41, .invokevirtual 51, 3) (List.mem_of_getElem? (i := 23) rfl)
theorem dX6_readAll_44 : decode cX6_readAll 44 = .ok (.iconst 0, 1) := DX6_readAll_0 (44, .iconst 0, 1) (List.mem_of_getElem? (i := 24) rfl)
theorem dX6_readAll_45 : decode cX6_readAll 45 = .ok (.istore_n 2, 1) := DX6_readAll_0 (45, .istore_n 2, 1) (List.mem_of_getElem? (i := 25) rfl)
theorem dX6_readAll_46 : decode cX6_readAll 46 = .ok (.iload_n 2, 1) := DX6_readAll_0 (46, .iload_n 2, 1) (List.mem_of_getElem? (i := 26) rfl)
theorem dX6_readAll_47 : decode cX6_readAll 47 = .ok (.sipush 900, 3) := DX6_readAll_0 (47, .sipush 900, 3) (List.mem_of_getElem? (i := 27) rfl)
theorem dX6_readAll_50 : decode cX6_readAll 50 = .ok (.if_icmp .ge 145, 3) := DX6_readAll_0 (50, .if_icmp .ge 145, 3) (List.mem_of_getElem? (i := 28) rfl)
theorem dX6_readAll_53 : decode cX6_readAll 53 = .ok (.aload_n 0, 1) := DX6_readAll_0 (53, .aload_n 0, 1) (List.mem_of_getElem? (i := 29) rfl)
theorem dX6_readAll_54 : decode cX6_readAll 54 = .ok (.getfield 54, 3) := DX6_readAll_0 (54, .getfield 54, 3) (List.mem_of_getElem? (i := 30) rfl)
theorem dX6_readAll_57 : decode cX6_readAll 57 = .ok (.ifCond .eq 138, 3) := DX6_readAll_0 (57, .ifCond .eq 138, 3) (List.mem_of_getElem? (i := 31) rfl)
theorem dX6_readAll_60 : decode cX6_readAll 60 = .ok (.aload_n 0, 1) := DX6_readAll_0 (60, .aload_n 0, 1) (List.mem_of_getElem? (i := 32) rfl)
theorem dX6_readAll_61 : decode cX6_readAll 61 = .ok (.getfield 36, 3) := DX6_readAll_0 (61, .getfield 36, 3) (List.mem_of_getElem? (i := 33) rfl)
theorem dX6_readAll_64 : decode cX6_readAll 64 = .ok (.ifCond .ne 131, 3) := DX6_readAll_0 (64, .ifCond .ne 131, 3) (List.mem_of_getElem? (i := 34) rfl)
theorem dX6_readAll_67 : decode cX6_readAll 67 = .ok (.aload_n 0, 1) := DX6_readAll_0 (67, .aload_n 0, 1) (List.mem_of_getElem? (i := 35) rfl)
theorem dX6_readAll_68 : decode cX6_readAll 68 = .ok (.getfield 57, 3) := DX6_readAll_0 (68, .getfield 57, 3) (List.mem_of_getElem? (i := 36) rfl)
theorem dX6_readAll_71 : decode cX6_readAll 71 = .ok (.ldc2_w 61, 3) := DX6_readAll_0 (71, .ldc2_w 61, 3) (List.mem_of_getElem? (i := 37) rfl)
theorem dX6_readAll_74 : decode cX6_readAll 74 = .ok (.lcmp, 1) := DX6_readAll_0 (74, .lcmp, 1) (List.mem_of_getElem? (i := 38) rfl)
theorem dX6_readAll_75 : decode cX6_readAll 75 = .ok (.ifCond .ne 10, 3) := DX6_readAll_0 (75, .ifCond .ne 10, 3) (List.mem_of_getElem? (i := 39) rfl)
theorem DX6_readAll_1 : ∀ q ∈ ([(78, .aload_n 0, 1), (79, .invokevirtual 63, 3), (82, .goto 103, 3), (85, .aload_n 0, 1), (86, .getfield 57, 3), (89, .ldc2_w 66, 3), (92, .lcmp, 1), (93, .ifCond .ne 10, 3), (96, .aload_n 0, 1), (97, .invokevirtual 68, 3), (100, .goto 85, 3), (103, .aload_n 0, 1), (104, .getfield 57, 3), (107, .ldc2_w 71, 3), (110, .lcmp, 1), (111, .ifCond .ne 10, 3), (114, .aload_n 0, 1), (115, .invokevirtual 73, 3), (118, .goto 67, 3), (121, .aload_n 0, 1), (122, .getfield 57, 3), (125, .ldc2_w 76, 3), (128, .lcmp, 1), (129, .ifCond .ne 10, 3), (132, .aload_n 0, 1), (133, .invokevirtual 78, 3), (136, .goto 49, 3), (139, .aload_n 0, 1), (140, .getfield 57, 3), (143, .ldc2_w 81, 3), (146, .lcmp, 1), (147, .ifCond .ne 15, 3), (150, .aload_n 0, 1), (151, .invokevirtual 83, 3), (154, .pop, 1), (155, .aload_n 0, 1), (156, .invokevirtual 87, 3), (159, .goto 26, 3), (162, .aload_n 0, 1), (163, .getfield 57, 3)] : List (Nat × Instr × Nat)), decode cX6_readAll q.1 = .ok q.2 := by decide +kernel
theorem dX6_readAll_78 : decode cX6_readAll 78 = .ok (.aload_n 0, 1) := DX6_readAll_1 (78, .aload_n 0, 1) (List.mem_of_getElem? (i := 0) rfl)
theorem dX6_readAll_79 : decode cX6_readAll 79 = .ok (.invokevirtual 63, 3) := DX6_readAll_1 (79, .invokevirtual 63, 3) (List.mem_of_getElem? (i := 1) rfl)
theorem dX6_readAll_82 : decode cX6_readAll 82 = .ok (.goto 103, 3) := DX6_readAll_1 (82, .goto 103, 3) (List.mem_of_getElem? (i := 2) rfl)
theorem dX6_readAll_85 : decode cX6_readAll 85 = .ok (.aload_n 0, 1) := DX6_readAll_1 (85, .aload_n 0, 1) (List.mem_of_getElem? (i := 3) rfl)
theorem dX6_readAll_86 : decode cX6_readAll 86 = .ok (.getfield 57, 3) := DX6_readAll_1 (86, .getfield 57, 3) (List.mem_of_getElem? (i := 4) rfl)
theorem dX6_readAll_89 : decode cX6_readAll 89 = .ok (.ldc2_w 66, 3) := DX6_readAll_1 (89, .ldc2_w 66, 3) (List.mem_of_getElem? (i := 5) rfl)
theorem dX6_readAll_92 : decode cX6_readAll 92 = .ok (.lcmp, 1) := DX6_readAll_1 (92, .lcmp, 1) (List.mem_of_getElem? (i := 6) rfl)
theorem dX6_readAll_93 : decode cX6_readAll 93 = .ok (.ifCond .ne 10, 3) := DX6_readAll_1 (93, .ifCond .ne 10, 3) (List.mem_of_getElem? (i := 7) rfl)
theorem dX6_readAll_96 : decode cX6_readAll 96 = .ok (.aload_n 0, 1) := DX6_readAll_1 (96, .aload_n 0, 1) (List.mem_of_getElem? (i := 8) rfl)
theorem dX6_readAll_97 : decode cX6_readAll 97 = .ok (.invokevirtual 68, 3) := DX6_readAll_1 (97, .invokevirtual 68, 3) (List.mem_of_getElem? (i := 9) rfl)
theorem dX6_readAll_100 : decode cX6_readAll 100 = .ok (.goto 85, 3) := DX6_readAll_1 (100, .goto 85, 3) (List.mem_of_getElem? (i := 10) rfl)
theorem dX6_readAll_103 : decode cX6_readAll 103 = .ok (.aload_n 0, 1) := DX6_readAll_1 (103, .aload_n 0, 1) (List.mem_of_getElem? (i := 11) rfl)
theorem dX6_readAll_104 : decode cX6_readAll 104 = .ok (.getfield 57, 3) := DX6_readAll_1 (104, .getfield 57, 3) (List.mem_of_getElem? (i := 12) rfl)
theorem dX6_readAll_107 : decode cX6_readAll 107 = .ok (.ldc2_w 71, 3) := DX6_readAll_1 (107, .ldc2_w 71, 3) (List.mem_of_getElem? (i := 13) rfl)
theorem dX6_readAll_110 : decode cX6_readAll 110 = .ok (.lcmp, 1) := DX6_readAll_1 (110, .lcmp, 1) (List.mem_of_getElem? (i := 14) rfl)
theorem dX6_readAll_111 : decode cX6_readAll 111 = .ok (.ifCond .ne 10, 3) := DX6_readAll_1 (111, .ifCond .ne 10, 3) (List.mem_of_getElem? (i := 15) rfl)
theorem dX6_readAll_114 : decode cX6_readAll 114 = .ok (.aload_n 0, 1) := DX6_readAll_1 (114, .aload_n 0, 1) (List.mem_of_getElem? (i := 16) rfl)
theorem dX6_readAll_115 : decode cX6_readAll 115 = .ok (.invokevirtual 73, 3) := DX6_readAll_1 (115, .invokevirtual 73, 3) (List.mem_of_getElem? (i := 17) rfl)
theorem dX6_readAll_118 : decode cX6_readAll 118 = .ok (.goto 67, 3) := DX6_readAll_1 (118, .goto 67, 3) (List.mem_of_getElem? (i := 18) rfl)
theorem dX6_readAll_121 : decode cX6_readAll 121 = .ok (.aload_n 0, 1) := DX6_readAll_1 (121, .aload_n 0, 1) (List.mem_of_getElem? (i := 19) rfl)
theorem dX6_readAll_122 : decode cX6_readAll 122 = .ok (.getfield 57, 3) := DX6_readAll_1 (122, .getfield 57, 3) (List.mem_of_getElem? (i := 20) rfl)
theorem dX6_readAll_125 : decode cX6_readAll 125 = .ok (.ldc2_w 76, 3) := DX6_readAll_1 (125, .ldc2_w 76, 3) (List.mem_of_getElem? (i := 21) rfl)
theorem dX6_readAll_128 : decode cX6_readAll 128 = .ok (.lcmp, 1) := DX6_readAll_1 (128, .lcmp, 1) (List.mem_of_getElem? (i := 22) rfl)
theorem dX6_readAll_129 : decode cX6_readAll 129 = .ok (.ifCond .ne 10, 3) := DX6_readAll_1 (129, .ifCond .ne 10, 3) (List.mem_of_getElem? (i := 23) rfl)
theorem dX6_readAll_132 : decode cX6_readAll 132 = .ok (.aload_n 0, 1) := DX6_readAll_1 (132, .aload_n 0, 1) (List.mem_of_getElem? (i := 24) rfl)
theorem dX6_readAll_133 : decode cX6_readAll 133 = .ok (.invokevirtual 78, 3) := DX6_readAll_1 (133, .invokevirtual 78, 3) (List.mem_of_getElem? (i := 25) rfl)
theorem dX6_readAll_136 : decode cX6_readAll 136 = .ok (.goto 49, 3) := DX6_readAll_1 (136, .goto 49, 3) (List.mem_of_getElem? (i := 26) rfl)
theorem dX6_readAll_139 : decode cX6_readAll 139 = .ok (.aload_n 0, 1) := DX6_readAll_1 (139, .aload_n 0, 1) (List.mem_of_getElem? (i := 27) rfl)
theorem dX6_readAll_140 : decode cX6_readAll 140 = .ok (.getfield 57, 3) := DX6_readAll_1 (140, .getfield 57, 3) (List.mem_of_getElem? (i := 28) rfl)
theorem dX6_readAll_143 : decode cX6_readAll 143 = .ok (.ldc2_w 81, 3) := DX6_readAll_1 (143, .ldc2_w 81, 3) (List.mem_of_getElem? (i := 29) rfl)
theorem dX6_readAll_146 : decode cX6_readAll 146 = .ok (.lcmp, 1) := DX6_readAll_1 (146, .lcmp, 1) (List.mem_of_getElem? (i := 30) rfl)
theorem dX6_readAll_147 : decode cX6_readAll 147 = .ok (.ifCond .ne 15, 3) := DX6_readAll_1 (147, .ifCond .ne 15, 3) (List.mem_of_getElem? (i := 31) rfl)
theorem dX6_readAll_150 : decode cX6_readAll 150 = .ok (.aload_n 0, 1) := DX6_readAll_1 (150, .aload_n 0, 1) (List.mem_of_getElem? (i := 32) rfl)
theorem dX6_readAll_151 : decode cX6_readAll 151 = .ok (.invokevirtual 83, 3) := DX6_readAll_1 (151, .invokevirtual 83, 3) (List.mem_of_getElem? (i := 33) rfl)
theorem dX6_readAll_154 : decode cX6_readAll 154 = .ok (.pop, 1) := DX6_readAll_1 (154, .pop, 1) (List.mem_of_getElem? (i := 34) rfl)
theorem dX6_readAll_155 : decode cX6_readAll 155 = .ok (.aload_n 0, 1) := DX6_readAll_1 (155, .aload_n 0, 1) (List.mem_of_getElem? (i := 35) rfl)
theorem dX6_readAll_156 : decode cX6_readAll 156 = .ok (.invokevirtual 87, 3) := DX6_readAll_1 (156, .invokevirtual 87, 3) (List.mem_of_getElem? (i := 36) rfl)
theorem dX6_readAll_159 : decode cX6_readAll 159 = .ok (.goto 26, 3) := DX6_readAll_1 (159, .goto 26, 3) (List.mem_of_getElem? (i := 37) rfl)
theorem dX6_readAll_162 : decode cX6_readAll 162 = .ok (.aload_n 0, 1) := DX6_readAll_1 (162, .aload_n 0, 1) (List.mem_of_getElem? (i := 38) rfl)
theorem dX6_readAll_163 : decode cX6_readAll 163 = .ok (.getfield 57, 3) := DX6_readAll_1 (163, .getfield 57, 3) (List.mem_of_getElem? (i := 39) rfl)
theorem DX6_readAll_2 : ∀ q ∈ ([(166, .ldc2_w 90, 3), (169, .lcmp, 1), (170, .ifCond .ne 10, 3), (173, .aload_n 0, 1), (174, .invokevirtual 92, 3), (177, .goto 8, 3), (180, .aload_n 0, 1), (181, .iconst 1, 1), (182, .invokevirtual 95, 3), (185, .aload_n 0, 1), (186, .invokevirtual 51, 3), (189, .iinc 2 1, 3), (192, .goto (-146), 3), (195, .return_, 1)] : List (Nat × Instr × Nat)), decode cX6_readAll q.1 = .ok q.2 := by decide +kernel
theorem dX6_readAll_166 : decode cX6_readAll 166 = .ok (.ldc2_w 90, 3) := DX6_readAll_2 (166, .ldc2_w 90, 3) (List.mem_of_getElem? (i := 0) rfl)
theorem dX6_readAll_169 : decode cX6_readAll 169 = .ok (.lcmp, 1) := DX6_readAll_2 (169, .lcmp, 1) (List.mem_of_getElem? (i := 1) rfl)
theorem dX6_readAll_170 : decode cX6_readAll 170 = .ok (.ifCond .ne 10, 3) := DX6_readAll_2 (170, .ifCond .ne 10, 3) (List.mem_of_getElem? (i := 2) rfl)
theorem dX6_readAll_173 : decode cX6_readAll 173 = .ok (.aload_n 0, 1) := DX6_readAll_2 (173, .aload_n 0, 1) (List.mem_of_getElem? (i := 3) rfl)
theorem dX6_readAll_174 : decode cX6_readAll 174 = .ok (.invokevirtual 92, 3) := DX6_readAll_2 (174, .invokevirtual 92, 3) (List.mem_of_getElem? (i := 4) rfl)
theorem dX6_readAll_177 : decode cX6_readAll 177 = .ok (.goto 8, 3) := DX6_readAll_2 (177, .goto 8, 3) (List.mem_of_getElem? (i := 5) rfl)
theorem dX6_readAll_180 : decode cX6_readAll 180 = .ok (.aload_n 0, 1) := DX6_readAll_2 (180, .aload_n 0, 1) (List.mem_of_getElem? (i := 6) rfl)
theorem dX6_readAll_181 : decode cX6_readAll 181 = .ok (.iconst 1, 1) := DX6_readAll_2 (181, .iconst 1, 1) (List.mem_of_getElem? (i := 7) rfl)
theorem dX6_readAll_182 : decode cX6_readAll 182 = .ok (.invokevirtual 95, 3) := DX6_readAll_2 (182, .invokevirtual 95, 3) (List.mem_of_getElem? (i := 8) rfl)
theorem dX6_readAll_185 : decode cX6_readAll 185 = .ok (.aload_n 0, 1) := DX6_readAll_2 (185, .aload_n 0, 1) (List.mem_of_getElem? (i := 9) rfl)
theorem dX6_readAll_186 : decode cX6_readAll 186 = .ok (.invokevirtual 51, 3) := DX6_readAll_2 (186, .invokevirtual 51, 3) (List.mem_of_getElem? (i := 10) rfl)
theorem dX6_readAll_189 : decode cX6_readAll 189 = .ok (.iinc 2 1, 3) := DX6_readAll_2 (189, .iinc 2 1, 3) (List.mem_of_getElem? (i := 11) rfl)
theorem dX6_readAll_192 : decode cX6_readAll 192 = .ok (.goto (-146), 3) := DX6_readAll_2 (192, .goto (-146), 3) (List.mem_of_getElem? (i := 12) rfl)
theorem dX6_readAll_195 : decode cX6_readAll 195 = .ok (.return_, 1) := DX6_readAll_2 (195, .return_, 1) (List.mem_of_getElem? (i := 13) rfl)
abbrev rmX6_readAll : Room := { frames := 5, cells := 0, slots := 0, locals := 112 }
set_option maxHeartbeats 400000 in
set_option maxRecDepth 100000 in
theorem met_X6_readAll (l : Launch) (D : va_G) (kA : Nat → ClassId) (a : Nat → Nat) (b : Nat) (d : Nat → Nat) (n : Nat) (V0 : Sz) (X0 : Sz) (T2 : Nat → Int) (G0 : Sz) (x1 : Int) (hDt : ∀ w : Sz × Sz × Sz, va_D (fun _ => True) (cs_X6 kA a w.1 w.2.1 b (d 0) ++ ([(b, .inl (kA 1, 900, .inl (aI T2)))] ++ (cs_X4 kA d w.2.2)))) {Vr : Sz} {Xr : Sz} {Gr : Sz} (hf : f_X6_readAll n V0 X0 T2 G0 x1 = some (Vr, Xr, Gr)) : MZ l yX6_readAll cX6_readAll 3 none rmX6_readAll D kA [.ref (a 0), vI x1] (cs_X6 kA a V0 X0 b (d 0) ++ ([(b, .inl (kA 1, 900, .inl (aI T2)))] ++ (cs_X4 kA d G0))) (cs_X6 kA a Vr Xr b (d 0) ++ ([(b, .inl (kA 1, 900, .inl (aI T2)))] ++ (cs_X4 kA d Gr))) (none) := by
  refine zZV (own := RX6) rfl rfl (Nat.le_of_ble_eq_true rfl) ?_
  intro p e s m args below meth c ls Q hC hK hP hl hret
  have hl : lv_has ls 3 [(0, .ref (a 0)), (1, vI x1)] := hl
  have hS : va_S (zF (cs_X6 kA a V0 X0 b (d 0) ++ ([(b, .inl (kA 1, 900, .inl (aI T2)))] ++ (cs_X4 kA d G0)))) s.heap s.heap [] := va_S.rf
  have hD := zDself (C := fun w : Sz × Sz × Sz => (cs_X6 kA a w.1 w.2.1 b (d 0) ++ ([(b, .inl (kA 1, 900, .inl (aI T2)))] ++ (cs_X4 kA d w.2.2)))) hDt (V0, X0, G0) (fun _ => rfl)
  try dsimp only at hD
  generalize hAe : zF (cs_X6 kA a V0 X0 b (d 0) ++ ([(b, .inl (kA 1, 900, .inl (aI T2)))] ++ (cs_X4 kA d G0))) = A0 at hS hD hret
  unfold f_X6_readAll at hf
  have L46 : ∀ (k46 : Nat) (y2 : Int) (V : Sz) (X : Sz) (G : Sz) (H : Heap) (locs : List Loc) (ls : Array Slot), lpF (bX6_readAll_46 n T2 x1) k46 (y2, V, X, G) = some (Vr, Xr, Gr) → va_P D vwCl (cs_X6 kA a V X b (d 0) ++ ([(b, .inl (kA 1, 900, .inl (aI T2)))] ++ (cs_X4 kA d G))) H → va_S A0 s.heap H locs → lv_has ls 3 [(0, .ref (a 0)), (2, vI y2)] → W p l e rmX6_readAll s m args below meth c H locs 0 0 Q (F0 m 46 ls []) := by
    intro k46
    induction k46 with
    | zero => intro y2 V X G H locs ls hf hP hS hl; exact lp_0 hf
    | succ k46 ih46 =>
      intro y2 V X G H locs ls hf hP hS hl
      have hf := lp_s hf
      rw [bX6_readAll_46_e] at hf
      have J185 : ∀ (y2 : Int) (V : Sz) (X : Sz) (G : Sz) (H : Heap) (locs : List Loc) (ls : Array Slot), jX6_readAll_185 n T2 x1 (lpF (bX6_readAll_46 n T2 x1) k46) y2 V X G = some (Vr, Xr, Gr) → va_P D vwCl (cs_X6 kA a V X b (d 0) ++ ([(b, .inl (kA 1, 900, .inl (aI T2)))] ++ (cs_X4 kA d G))) H → va_S A0 s.heap H locs → lv_has ls 3 [(0, .ref (a 0)), (2, vI y2)] → W p l e rmX6_readAll s m args below meth c H locs 0 0 Q (F0 m 185 ls []) := by
        intro y2 V X G H locs ls hf hP hS hl
        unfold jX6_readAll_185 at hf
        refine lv_aload_n hC.1 hC.2.1 dX6_readAll_185 rfl (lv_at hl 0 rfl) <| ?_
        obtain ⟨⟨V_15, X_16⟩, hu, hf⟩ := bd_some hf
        have hDc : ∀ w : Sz × Sz, va_D (fun _ => True) (cs_X6 kA a w.1 w.2 (b) (d 0) ++ ([((b), .inl (kA 1, 900, .inl (aI T2)))] ++ (cs_X4 kA d G))) := fun w => (hDt (w.1, w.2, G)).sub [0, 1, 2, 3, 4, 5, 6, 7, 8, 9, 10, 11, 12, 13, 14, 15, 16, 17, 18, 19, 20, 21, 22, 23, 24, 25, 26] (by decide) rfl
        refine zcVZ (As := []) (rest := []) hC hK (met_X6_advance l D kA a (b) d n V X T2 G hDc hu) zwX6_51 hS (zFsub (hD (V, X, G)) [0, 1, 2, 3, 4, 5, 6, 7, 8, 9, 10, 11, 12, 13, 14, 15, 16, 17, 18, 19, 20, 21, 22, 23, 24, 25, 26] rfl) hP (q0 := 0) rfl rfl rfl rfl hl.1 rfl (Nat.le_of_ble_eq_true rfl) ⟨Nat.le_of_ble_eq_true rfl, Nat.le_of_ble_eq_true rfl⟩ ⟨rfl, rfl⟩ ⟨Nat.le_refl _, Nat.le_refl _⟩ dX6_readAll_186 (fun H locs hP1 hk1 hS => ?_)
        have hP : va_P D vwCl (cs_X6 kA a V_15 X_16 b (d 0) ++ ([(b, .inl (kA 1, 900, .inl (aI T2)))] ++ (cs_X4 kA d G))) H := hP1
        obtain ⟨x_17, ex_17⟩ : ∃ y : Int, y = y2 + 1 := ⟨_, rfl⟩
        have hf := nm_at hf ex_17
        refine ziinc (v := x_17) (lv' := [(2, vI x_17), (0, .ref (a 0))]) hC.1 hC.2.1 dX6_readAll_189 hl (k := 1) rfl ex_17 (by decide) rfl (fun ls hl => ?_)
        exact lv_goto (tgt := 46) hC.1 hC.2.1 dX6_readAll_192 (by decide) <| ih46 _ _ _ _ _ _ _ hf hP hS (lv_sub hl [1, 0] rfl)
      refine ziload_n hC.1 hC.2.1 dX6_readAll_46 rfl (lv_at hl 1 rfl) <| zsipush hC.1 hC.2.1 dX6_readAll_47 (by decide) <| ?_
      obtain ⟨hz_10, hf⟩ := ck_some hf
      refine zicmp_ge (tgt := 195) hC.1 hC.2.1 ⟨hz_10, (by decide)⟩ dX6_readAll_50 (by decide) (fun hc => ?_) (fun hc => ?_)
      · have hf := it_t hf hc
        have hf := Option.some.inj hf
        simp only [Prod.mk.injEq] at hf
        exact hret _ _ _ _ rfl (by rw [← hf.1, ← hf.2.1, ← hf.2.2]; exact hP) hS dX6_readAll_195
      · have hf := it_f hf hc
        refine lv_aload_n hC.1 hC.2.1 dX6_readAll_53 rfl (lv_at hl 0 rfl) <| gfX6_54 hC hK hP (q0 := 0) rfl rfl dX6_readAll_54 <| ?_
        obtain ⟨hz_11, hf⟩ := ck_some hf
        refine zif_eq (tgt := 195) hC.1 hC.2.1 hz_11 dX6_readAll_57 (by decide) (fun hc => ?_) (fun hc => ?_)
        · have hf := it_t hf hc
          have hf := Option.some.inj hf
          simp only [Prod.mk.injEq] at hf
          exact hret _ _ _ _ rfl (by rw [← hf.1, ← hf.2.1, ← hf.2.2]; exact hP) hS dX6_readAll_195
        · have hf := it_f hf hc
          refine lv_aload_n hC.1 hC.2.1 dX6_readAll_60 rfl (lv_at hl 0 rfl) <| gfX6_36 hC hK hP (q0 := 0) rfl rfl dX6_readAll_61 <| ?_
          obtain ⟨hz_12, hf⟩ := ck_some hf
          refine zif_ne (tgt := 195) hC.1 hC.2.1 hz_12 dX6_readAll_64 (by decide) (fun hc => ?_) (fun hc => ?_)
          · have hf := it_f hf hc
            have hf := Option.some.inj hf
            simp only [Prod.mk.injEq] at hf
            exact hret _ _ _ _ rfl (by rw [← hf.1, ← hf.2.1, ← hf.2.2]; exact hP) hS dX6_readAll_195
          · have hf := it_t hf hc
            refine lv_aload_n hC.1 hC.2.1 dX6_readAll_67 rfl (lv_at hl 0 rfl) <| gfX6_57 hC hK hP (q0 := 0) rfl rfl dX6_readAll_68 <| zldc2 (n := 431366238066) hC qw_356 (by decide) dX6_readAll_71 <| ?_
            obtain ⟨hz_13, hf⟩ := ck_some hf
            refine zlcmp_ne (tgt := 85) hC.1 hC.2.1 ⟨hz_13, (by decide)⟩ dX6_readAll_74 dX6_readAll_75 (by decide) (fun hc => ?_) (fun hc => ?_)
            · have hf := it_f hf hc
              refine lv_aload_n hC.1 hC.2.1 dX6_readAll_85 rfl (lv_at hl 0 rfl) <| gfX6_57 hC hK hP (q0 := 0) rfl rfl dX6_readAll_86 <| zldc2 (n := 28258975365558885) hC qw_373 (by decide) dX6_readAll_89 <| ?_
              refine zlcmp_ne (tgt := 103) hC.1 hC.2.1 ⟨hz_13, (by decide)⟩ dX6_readAll_92 dX6_readAll_93 (by decide) (fun hc => ?_) (fun hc => ?_)
              · have hf := it_f hf hc
                refine lv_aload_n hC.1 hC.2.1 dX6_readAll_103 rfl (lv_at hl 0 rfl) <| gfX6_57 hC hK hP (q0 := 0) rfl rfl dX6_readAll_104 <| zldc2 (n := 1734960756) hC qw_374 (by decide) dX6_readAll_107 <| ?_
                refine zlcmp_ne (tgt := 121) hC.1 hC.2.1 ⟨hz_13, (by decide)⟩ dX6_readAll_110 dX6_readAll_111 (by decide) (fun hc => ?_) (fun hc => ?_)
                · have hf := it_f hf hc
                  refine lv_aload_n hC.1 hC.2.1 dX6_readAll_121 rfl (lv_at hl 0 rfl) <| gfX6_57 hC hK hP (q0 := 0) rfl rfl dX6_readAll_122 <| zldc2 (n := 495807392116) hC qw_375 (by decide) dX6_readAll_125 <| ?_
                  refine zlcmp_ne (tgt := 139) hC.1 hC.2.1 ⟨hz_13, (by decide)⟩ dX6_readAll_128 dX6_readAll_129 (by decide) (fun hc => ?_) (fun hc => ?_)
                  · have hf := it_f hf hc
                    refine lv_aload_n hC.1 hC.2.1 dX6_readAll_139 rfl (lv_at hl 0 rfl) <| gfX6_57 hC hK hP (q0 := 0) rfl rfl dX6_readAll_140 <| zldc2 (n := 1667330920) hC qw_376 (by decide) dX6_readAll_143 <| ?_
                    refine zlcmp_ne (tgt := 162) hC.1 hC.2.1 ⟨hz_13, (by decide)⟩ dX6_readAll_146 dX6_readAll_147 (by decide) (fun hc => ?_) (fun hc => ?_)
                    · have hf := it_f hf hc
                      refine lv_aload_n hC.1 hC.2.1 dX6_readAll_162 rfl (lv_at hl 0 rfl) <| gfX6_57 hC hK hP (q0 := 0) rfl rfl dX6_readAll_163 <| zldc2 (n := 491596309875) hC qw_377 (by decide) dX6_readAll_166 <| ?_
                      refine zlcmp_ne (tgt := 180) hC.1 hC.2.1 ⟨hz_13, (by decide)⟩ dX6_readAll_169 dX6_readAll_170 (by decide) (fun hc => ?_) (fun hc => ?_)
                      · have hf := it_f hf hc
                        refine lv_aload_n hC.1 hC.2.1 dX6_readAll_180 rfl (lv_at hl 0 rfl) <| ziconst hC.1 hC.2.1 dX6_readAll_181 <| ?_
                        obtain ⟨V_14, hu, hf⟩ := bd_some hf
                        have hDc : ∀ w : Sz, va_D (fun _ => True) (cs_X6 kA a w X (b) (d 0) ++ ([((b), .inl (kA 1, 900, .inl (aI T2)))] ++ (cs_X4 kA d G))) := fun w => (hDt (w, X, G)).sub [0, 1, 2, 3, 4, 5, 6, 7, 8, 9, 10, 11, 12, 13, 14, 15, 16, 17, 18, 19, 20, 21, 22, 23, 24, 25, 26] (by decide) rfl
                        refine zcVZ (As := [vI 1]) (rest := []) hC hK (met_X6_fail l D kA a (b) d V X T2 G 1 hDc hu) zwX6_95 hS (zFsub (hD (V, X, G)) [0, 1, 2, 3, 4, 5, 6, 7, 8, 9, 10, 11, 12, 13, 14, 15, 16, 17, 18, 19, 20, 21, 22, 23, 24, 25, 26] rfl) hP (q0 := 0) rfl rfl rfl rfl hl.1 rfl (Nat.le_of_ble_eq_true rfl) ⟨Nat.le_of_ble_eq_true rfl, Nat.le_of_ble_eq_true rfl⟩ ⟨rfl, rfl⟩ ⟨Nat.le_refl _, Nat.le_refl _⟩ dX6_readAll_182 (fun H locs hP1 hk1 hS => ?_)
                        have hP : va_P D vwCl (cs_X6 kA a V_14 X b (d 0) ++ ([(b, .inl (kA 1, 900, .inl (aI T2)))] ++ (cs_X4 kA d G))) H := hP1
                        exact J185 _ _ _ _ _ _ _ hf hP hS (lv_sub hl [0, 1] rfl)
                      · have hf := it_t hf hc
                        refine lv_aload_n hC.1 hC.2.1 dX6_readAll_173 rfl (lv_at hl 0 rfl) <| ?_
                        obtain ⟨⟨V_18, X_19, G_20⟩, hu, hf⟩ := bd_some hf
                        have hDc := hDt
                        refine zcVZ (As := []) (rest := []) hC hK (met_X6_readRules l D kA a (b) d n V X T2 G hDc hu) zwX6_92 hS (zFsub (hD (V, X, G)) [0, 1, 2, 3, 4, 5, 6, 7, 8, 9, 10, 11, 12, 13, 14, 15, 16, 17, 18, 19, 20, 21, 22, 23, 24, 25, 26] rfl) hP (q0 := 0) rfl rfl rfl rfl hl.1 rfl (Nat.le_of_ble_eq_true rfl) ⟨Nat.le_of_ble_eq_true rfl, Nat.le_of_ble_eq_true rfl⟩ ⟨rfl, rfl⟩ ⟨Nat.le_refl _, Nat.le_refl _⟩ dX6_readAll_174 (fun H locs hP1 hk1 hS => ?_)
                        have hP : va_P D vwCl (cs_X6 kA a V_18 X_19 b (d 0) ++ ([(b, .inl (kA 1, 900, .inl (aI T2)))] ++ (cs_X4 kA d G_20))) H := hP1
                        exact lv_goto (tgt := 185) hC.1 hC.2.1 dX6_readAll_177 (by decide) <| J185 _ _ _ _ _ _ _ hf hP hS (lv_sub hl [0, 1] rfl)
                    · have hf := it_t hf hc
                      refine lv_aload_n hC.1 hC.2.1 dX6_readAll_150 rfl (lv_at hl 0 rfl) <| ?_
                      obtain ⟨⟨r_21, V_22, X_23, G_24⟩, hu, hf⟩ := bd_some hf
                      have hDc := hDt
                      refine zcVZ (As := []) (rest := []) hC hK (met_X6_readGiftHead l D kA a (b) d n V X T2 G hDc hu) zwX6_83 hS (zFsub (hD (V, X, G)) [0, 1, 2, 3, 4, 5, 6, 7, 8, 9, 10, 11, 12, 13, 14, 15, 16, 17, 18, 19, 20, 21, 22, 23, 24, 25, 26] rfl) hP (q0 := 0) rfl rfl rfl rfl hl.1 rfl (Nat.le_of_ble_eq_true rfl) ⟨Nat.le_of_ble_eq_true rfl, Nat.le_of_ble_eq_true rfl⟩ ⟨rfl, rfl⟩ ⟨Nat.le_refl _, Nat.le_refl _⟩ dX6_readAll_151 (fun H locs hP1 hk1 hS => ?_)
                      have hP : va_P D vwCl (cs_X6 kA a V_22 X_23 b (d 0) ++ ([(b, .inl (kA 1, 900, .inl (aI T2)))] ++ (cs_X4 kA d G_24))) H := hP1
                      refine lv_pop hC.1 hC.2.1 dX6_readAll_154 rfl <| lv_aload_n hC.1 hC.2.1 dX6_readAll_155 rfl (lv_at hl 0 rfl) <| ?_
                      obtain ⟨⟨V_25, X_26⟩, hu, hf⟩ := bd_some hf
                      have hDc : ∀ w : Sz × Sz, va_D (fun _ => True) (cs_X6 kA a w.1 w.2 (b) (d 0) ++ ([((b), .inl (kA 1, 900, .inl (aI T2)))] ++ (cs_X4 kA d G_24))) := fun w => (hDt (w.1, w.2, G_24)).sub [0, 1, 2, 3, 4, 5, 6, 7, 8, 9, 10, 11, 12, 13, 14, 15, 16, 17, 18, 19, 20, 21, 22, 23, 24, 25, 26] (by decide) rfl
                      refine zcVZ (As := []) (rest := []) hC hK (met_X6_readSemicolon l D kA a (b) d n V_22 X_23 T2 G_24 hDc hu) zwX6_87 hS (zFsub (hD (V_22, X_23, G_24)) [0, 1, 2, 3, 4, 5, 6, 7, 8, 9, 10, 11, 12, 13, 14, 15, 16, 17, 18, 19, 20, 21, 22, 23, 24, 25, 26] rfl) hP (q0 := 0) rfl rfl rfl rfl hl.1 rfl (Nat.le_of_ble_eq_true rfl) ⟨Nat.le_of_ble_eq_true rfl, Nat.le_of_ble_eq_true rfl⟩ ⟨rfl, rfl⟩ ⟨Nat.le_refl _, Nat.le_refl _⟩ dX6_readAll_156 (fun H locs hP1 hk1 hS => ?_)
                      have hP : va_P D vwCl (cs_X6 kA a V_25 X_26 b (d 0) ++ ([(b, .inl (kA 1, 900, .inl (aI T2)))] ++ (cs_X4 kA d G_24))) H := hP1
                      exact lv_goto (tgt := 185) hC.1 hC.2.1 dX6_readAll_159 (by decide) <| J185 _ _ _ _ _ _ _ hf hP hS (lv_sub hl [0, 1] rfl)
                  · have hf := it_t hf hc
                    refine lv_aload_n hC.1 hC.2.1 dX6_readAll_132 rfl (lv_at hl 0 rfl) <| ?_
                    obtain ⟨⟨V_27, X_28, G_29⟩, hu, hf⟩ := bd_some hf
                    have hDc := hDt
                    refine zcVZ (As := []) (rest := []) hC hK (met_X6_readSplit l D kA a (b) d n V X T2 G hDc hu) zwX6_78 hS (zFsub (hD (V, X, G)) [0, 1, 2, 3, 4, 5, 6, 7, 8, 9, 10, 11, 12, 13, 14, 15, 16, 17, 18, 19, 20, 21, 22, 23, 24, 25, 26] rfl) hP (q0 := 0) rfl rfl rfl rfl hl.1 rfl (Nat.le_of_ble_eq_true rfl) ⟨Nat.le_of_ble_eq_true rfl, Nat.le_of_ble_eq_true rfl⟩ ⟨rfl, rfl⟩ ⟨Nat.le_refl _, Nat.le_refl _⟩ dX6_readAll_133 (fun H locs hP1 hk1 hS => ?_)
                    have hP : va_P D vwCl (cs_X6 kA a V_27 X_28 b (d 0) ++ ([(b, .inl (kA 1, 900, .inl (aI T2)))] ++ (cs_X4 kA d G_29))) H := hP1
                    exact lv_goto (tgt := 185) hC.1 hC.2.1 dX6_readAll_136 (by decide) <| J185 _ _ _ _ _ _ _ hf hP hS (lv_sub hl [0, 1] rfl)
                · have hf := it_t hf hc
                  refine lv_aload_n hC.1 hC.2.1 dX6_readAll_114 rfl (lv_at hl 0 rfl) <| ?_
                  obtain ⟨⟨V_30, X_31, G_32⟩, hu, hf⟩ := bd_some hf
                  have hDc := hDt
                  refine zcVZ (As := []) (rest := []) hC hK (met_X6_readGift l D kA a (b) d n V X T2 G hDc hu) zwX6_73 hS (zFsub (hD (V, X, G)) [0, 1, 2, 3, 4, 5, 6, 7, 8, 9, 10, 11, 12, 13, 14, 15, 16, 17, 18, 19, 20, 21, 22, 23, 24, 25, 26] rfl) hP (q0 := 0) rfl rfl rfl rfl hl.1 rfl (Nat.le_of_ble_eq_true rfl) ⟨Nat.le_of_ble_eq_true rfl, Nat.le_of_ble_eq_true rfl⟩ ⟨rfl, rfl⟩ ⟨Nat.le_refl _, Nat.le_refl _⟩ dX6_readAll_115 (fun H locs hP1 hk1 hS => ?_)
                  have hP : va_P D vwCl (cs_X6 kA a V_30 X_31 b (d 0) ++ ([(b, .inl (kA 1, 900, .inl (aI T2)))] ++ (cs_X4 kA d G_32))) H := hP1
                  exact lv_goto (tgt := 185) hC.1 hC.2.1 dX6_readAll_118 (by decide) <| J185 _ _ _ _ _ _ _ hf hP hS (lv_sub hl [0, 1] rfl)
              · have hf := it_t hf hc
                refine lv_aload_n hC.1 hC.2.1 dX6_readAll_96 rfl (lv_at hl 0 rfl) <| ?_
                obtain ⟨⟨V_33, X_34, G_35⟩, hu, hf⟩ := bd_some hf
                have hDc := hDt
                refine zcVZ (As := []) (rest := []) hC hK (met_X6_readDeclaration l D kA a (b) d n V X T2 G hDc hu) zwX6_68 hS (zFsub (hD (V, X, G)) [0, 1, 2, 3, 4, 5, 6, 7, 8, 9, 10, 11, 12, 13, 14, 15, 16, 17, 18, 19, 20, 21, 22, 23, 24, 25, 26] rfl) hP (q0 := 0) rfl rfl rfl rfl hl.1 rfl (Nat.le_of_ble_eq_true rfl) ⟨Nat.le_of_ble_eq_true rfl, Nat.le_of_ble_eq_true rfl⟩ ⟨rfl, rfl⟩ ⟨Nat.le_refl _, Nat.le_refl _⟩ dX6_readAll_97 (fun H locs hP1 hk1 hS => ?_)
                have hP : va_P D vwCl (cs_X6 kA a V_33 X_34 b (d 0) ++ ([(b, .inl (kA 1, 900, .inl (aI T2)))] ++ (cs_X4 kA d G_35))) H := hP1
                exact lv_goto (tgt := 185) hC.1 hC.2.1 dX6_readAll_100 (by decide) <| J185 _ _ _ _ _ _ _ hf hP hS (lv_sub hl [0, 1] rfl)
            · have hf := it_t hf hc
              refine lv_aload_n hC.1 hC.2.1 dX6_readAll_78 rfl (lv_at hl 0 rfl) <| ?_
              obtain ⟨⟨V_36, X_37, G_38⟩, hu, hf⟩ := bd_some hf
              have hDc := hDt
              refine zcVZ (As := []) (rest := []) hC hK (met_X6_readDonor l D kA a (b) d n V X T2 G hDc hu) zwX6_63 hS (zFsub (hD (V, X, G)) [0, 1, 2, 3, 4, 5, 6, 7, 8, 9, 10, 11, 12, 13, 14, 15, 16, 17, 18, 19, 20, 21, 22, 23, 24, 25, 26] rfl) hP (q0 := 0) rfl rfl rfl rfl hl.1 rfl (Nat.le_of_ble_eq_true rfl) ⟨Nat.le_of_ble_eq_true rfl, Nat.le_of_ble_eq_true rfl⟩ ⟨rfl, rfl⟩ ⟨Nat.le_refl _, Nat.le_refl _⟩ dX6_readAll_79 (fun H locs hP1 hk1 hS => ?_)
              have hP : va_P D vwCl (cs_X6 kA a V_36 X_37 b (d 0) ++ ([(b, .inl (kA 1, 900, .inl (aI T2)))] ++ (cs_X4 kA d G_38))) H := hP1
              exact lv_goto (tgt := 185) hC.1 hC.2.1 dX6_readAll_82 (by decide) <| J185 _ _ _ _ _ _ _ hf hP hS (lv_sub hl [0, 1] rfl)
  refine lv_aload_n hC.1 hC.2.1 dX6_readAll_0 rfl (lv_at hl 0 rfl) <| ziload_n hC.1 hC.2.1 dX6_readAll_1 rfl (lv_at hl 1 rfl) <| lv_aload_n hC.1 hC.2.1 dX6_readAll_2 rfl (lv_at hl 0 rfl) <| gfX6_15 hC hK hP (q0 := 0) rfl rfl dX6_readAll_3 <| jlen_byte (v := 900) hC hK hP (q0 := 2) rfl rfl dX6_readAll_6 <| ?_
  obtain ⟨hz_1, hf⟩ := ck_some hf
  refine jmin ⟨hz_1, (by decide)⟩ hC qw_340 hl.1 (Nat.le_of_ble_eq_true rfl) ⟨Nat.le_of_ble_eq_true rfl, Nat.le_of_ble_eq_true rfl⟩ ⟨Nat.le_refl _, Nat.le_refl _⟩ dX6_readAll_7 <| ?_
  refine pfX6_29 hC hK hP (hD (V0, X0, G0)) hS (q0 := 0) rfl (Nat.le_of_ble_eq_true rfl) dX6_readAll_10 (fun H locs hP hS => ?_)
  obtain ⟨V_2, eV_2⟩ : ∃ y, y = us V0 2 (min x1 900) := ⟨_, rfl⟩
  have hf := nm_at hf eV_2
  have hP : va_P D vwCl (cs_X6 kA a V_2 X0 b (d 0) ++ ([(b, .inl (kA 1, 900, .inl (aI T2)))] ++ (cs_X4 kA d G0))) H := by rw [eV_2]; exact hP
  refine lv_aload_n hC.1 hC.2.1 dX6_readAll_13 rfl (lv_at hl 0 rfl) <| ziconst hC.1 hC.2.1 dX6_readAll_14 <| ?_
  refine pfX6_33 hC hK hP (hD (V_2, X0, G0)) hS (q0 := 0) rfl (Nat.le_of_ble_eq_true rfl) dX6_readAll_15 (fun H locs hP hS => ?_)
  obtain ⟨V_3, eV_3⟩ : ∃ y, y = us V_2 4 0 := ⟨_, rfl⟩
  have hf := nm_at hf eV_3
  have hP : va_P D vwCl (cs_X6 kA a V_3 X0 b (d 0) ++ ([(b, .inl (kA 1, 900, .inl (aI T2)))] ++ (cs_X4 kA d G0))) H := by rw [eV_3]; exact hP
  refine lv_aload_n hC.1 hC.2.1 dX6_readAll_18 rfl (lv_at hl 0 rfl) <| ziconst hC.1 hC.2.1 dX6_readAll_19 <| ?_
  refine pfX6_36 hC hK hP (hD (V_3, X0, G0)) hS (q0 := 0) rfl (Nat.le_of_ble_eq_true rfl) dX6_readAll_20 (fun H locs hP hS => ?_)
  obtain ⟨V_4, eV_4⟩ : ∃ y, y = us V_3 0 0 := ⟨_, rfl⟩
  have hf := nm_at hf eV_4
  have hP : va_P D vwCl (cs_X6 kA a V_4 X0 b (d 0) ++ ([(b, .inl (kA 1, 900, .inl (aI T2)))] ++ (cs_X4 kA d G0))) H := by rw [eV_4]; exact hP
  refine lv_aload_n hC.1 hC.2.1 dX6_readAll_23 rfl (lv_at hl 0 rfl) <| ziconst hC.1 hC.2.1 dX6_readAll_24 <| ?_
  refine pfX6_39 hC hK hP (hD (V_4, X0, G0)) hS (q0 := 0) rfl (Nat.le_of_ble_eq_true rfl) dX6_readAll_25 (fun H locs hP hS => ?_)
  obtain ⟨V_5, eV_5⟩ : ∃ y, y = us V_4 1 (-1) := ⟨_, rfl⟩
  have hf := nm_at hf eV_5
  have hP : va_P D vwCl (cs_X6 kA a V_5 X0 b (d 0) ++ ([(b, .inl (kA 1, 900, .inl (aI T2)))] ++ (cs_X4 kA d G0))) H := by rw [eV_5]; exact hP
  refine lv_aload_n hC.1 hC.2.1 dX6_readAll_28 rfl (lv_at hl 0 rfl) <| ziconst hC.1 hC.2.1 dX6_readAll_29 <| ?_
  refine pfX6_42 hC hK hP (hD (V_5, X0, G0)) hS (q0 := 0) rfl (Nat.le_of_ble_eq_true rfl) (Or.inl rfl) dX6_readAll_30 (fun H locs hP hS => ?_)
  obtain ⟨V_6, eV_6⟩ : ∃ y, y = us V_5 6 0 := ⟨_, rfl⟩
  have hf := nm_at hf eV_6
  have hP : va_P D vwCl (cs_X6 kA a V_6 X0 b (d 0) ++ ([(b, .inl (kA 1, 900, .inl (aI T2)))] ++ (cs_X4 kA d G0))) H := by rw [eV_6]; exact hP
  refine lv_aload_n hC.1 hC.2.1 dX6_readAll_33 rfl (lv_at hl 0 rfl) <| gfX6_19 hC hK hP (q0 := 0) rfl rfl dX6_readAll_34 <| ?_
  obtain ⟨G_7, hu, hf⟩ := bd_some hf
  have hPc : va_P D vwCl (cs_X4 kA d G0) _ := hP.sub [3, 4, 5, 6, 7, 8, 9, 10, 11, 12, 13, 14, 15, 16, 17, 18, 19, 20, 21, 22, 23, 24, 25, 26] rfl
  have hDc : ∀ w : Sz, va_D (fun _ => True) (cs_X4 kA d w) := fun w => (hDt (V_6, X0, w)).sub [3, 4, 5, 6, 7, 8, 9, 10, 11, 12, 13, 14, 15, 16, 17, 18, 19, 20, 21, 22, 23, 24, 25, 26] (by decide) rfl
  refine zcVZ (As := []) (rest := []) hC hK (met_X4_clear l D kA d G0 hDc hu) zwX6_46 hS (zFsub (hD (V_6, X0, G0)) [3, 4, 5, 6, 7, 8, 9, 10, 11, 12, 13, 14, 15, 16, 17, 18, 19, 20, 21, 22, 23, 24, 25, 26] rfl) hPc (q0 := 0) rfl rfl rfl rfl hl.1 rfl (Nat.le_of_ble_eq_true rfl) ⟨Nat.le_of_ble_eq_true rfl, Nat.le_of_ble_eq_true rfl⟩ ⟨rfl, rfl⟩ ⟨Nat.le_refl _, Nat.le_refl _⟩ dX6_readAll_37 (fun H locs hP1 hk1 hS => ?_)
  have hP : va_P D vwCl (cs_X6 kA a V_6 X0 b (d 0) ++ ([(b, .inl (kA 1, 900, .inl (aI T2)))] ++ (cs_X4 kA d G_7))) H := zjoinA (A := cs_X6 kA a V_6 X0 b (d 0) ++ [(b, .inl (kA 1, 900, .inl (aI T2)))]) (w0 := (cs_X4 kA d G0)) hP (hDt (V_6, X0, G0)) hk1 hP1
  refine lv_aload_n hC.1 hC.2.1 dX6_readAll_40 rfl (lv_at hl 0 rfl) <| ?_
  obtain ⟨⟨V_8, X_9⟩, hu, hf⟩ := bd_some hf
  have hDc : ∀ w : Sz × Sz, va_D (fun _ => True) (cs_X6 kA a w.1 w.2 (b) (d 0) ++ ([((b), .inl (kA 1, 900, .inl (aI T2)))] ++ (cs_X4 kA d G_7))) := fun w => (hDt (w.1, w.2, G_7)).sub [0, 1, 2, 3, 4, 5, 6, 7, 8, 9, 10, 11, 12, 13, 14, 15, 16, 17, 18, 19, 20, 21, 22, 23, 24, 25, 26] (by decide) rfl
  refine zcVZ (As := []) (rest := []) hC hK (met_X6_advance l D kA a (b) d n V_6 X0 T2 G_7 hDc hu) zwX6_51 hS (zFsub (hD (V_6, X0, G_7)) [0, 1, 2, 3, 4, 5, 6, 7, 8, 9, 10, 11, 12, 13, 14, 15, 16, 17, 18, 19, 20, 21, 22, 23, 24, 25, 26] rfl) hP (q0 := 0) rfl rfl rfl rfl hl.1 rfl (Nat.le_of_ble_eq_true rfl) ⟨Nat.le_of_ble_eq_true rfl, Nat.le_of_ble_eq_true rfl⟩ ⟨rfl, rfl⟩ ⟨Nat.le_refl _, Nat.le_refl _⟩ dX6_readAll_41 (fun H locs hP1 hk1 hS => ?_)
  have hP : va_P D vwCl (cs_X6 kA a V_8 X_9 b (d 0) ++ ([(b, .inl (kA 1, 900, .inl (aI T2)))] ++ (cs_X4 kA d G_7))) H := hP1
  refine ziconst hC.1 hC.2.1 dX6_readAll_44 <| zistore_n (lv' := [(2, vI 0), (0, .ref (a 0)), (1, vI x1)]) hC.1 hC.2.1 dX6_readAll_45 rfl hl (by decide) rfl (fun ls hl => ?_)
  exact L46 n _ _ _ _ _ _ _ hf hP hS (lv_sub hl [1, 0] rfl)
