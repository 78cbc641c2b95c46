def cs_X1 (kA : Nat → ClassId) (a : Nat → Nat) (V : Sz) : va_W := [(a 0, .inr (1, [vI (V 0 0), .ref (a 1), .ref (a 2), .ref (a 3)])), (a 1, .inl (kA 0, 30, .inl (aI (V 1)))), (a 2, .inl (kA 0, 30, .inl (aI (V 2)))), (a 3, .inl (kA 0, 30, .inl (aI (V 3))))]
def f_X1_become (V0 : Sz) (G : Sz) : Option (Sz) := nm (us V0 0 (G 0 0)) fun (V_1 : Sz) => bd (f_X7_copyRow 30 30 (G 1) (V_1 1)) fun (V_2 : (Nat → Int)) => nm (uy V_1 1 V_2) fun (V_3 : Sz) => bd (f_X7_copyRow 30 30 (G 2) (V_3 2)) fun (V_4 : (Nat → Int)) => nm (uy V_3 2 V_4) fun (V_5 : Sz) => bd (f_X7_copyRow 30 30 (G 3) (V_5 3)) fun (V_6 : (Nat → Int)) => nm (uy V_5 3 V_6) fun (V_7 : Sz) => some V_7
def f_X1_isFull (V : Sz) : Option (Bool) := ck (rng (V 0 0)) <| if V 0 0 < 30 then (some false) else (some true)
def f_X1_add (V0 : Sz) (x1 : Int) (x2 : Int) (x3 : Int) : Option (Int × Sz) := bd (f_X1_isFull V0) fun (r_1 : Bool) => if r_1 = false then (ck (inZ (V0 0 0) 30) <| nm (uz V0 1 (V0 0 0).toNat x1) fun (V_3 : Sz) => ck (inZ (V_3 0 0) 30) <| nm (uz V_3 2 (V_3 0 0).toNat x2) fun (V_5 : Sz) => ck (inZ (V_5 0 0) 30) <| nm (uz V_5 3 (V_5 0 0).toNat x3) fun (V_7 : Sz) => nm (us V_7 0 ((V_7 0 0) + 1)) fun (V_8 : Sz) => some ((V_8 0 0) - 1, V_8)) else (some ((-1), V0))
def f_X1_cutFrom (V0 : Sz) (x1 : Int) (x2 : Int) : Option (Sz) := ck (inZ x1 30) <| ck (rng (V0 3 x1.toNat) ∧ rng (x2 - 1)) <| nm (uz V0 3 x1.toNat (min (V0 3 x1.toNat) (x2 - 1))) fun (V_3 : Sz) => some V_3
def f_X1_daysOf (V : Sz) (x1 : Int) : Option (Int) := ck (inZ x1 30) <| ck (rng (((V 3 x1.toNat) - (V 2 x1.toNat)) + 1)) <| some (max 0 (((V 3 x1.toNat) - (V 2 x1.toNat)) + 1))
def f_X1_isOn (V : Sz) (x1 : Int) (x2 : Int) (x3 : Int) : Option (Bool) := ck (inZ x1 30) <| ck (rng (V 1 x1.toNat) ∧ rng x2) <| if V 1 x1.toNat = x2 then (ck (rng (V 2 x1.toNat) ∧ rng x3) <| if x3 < V 2 x1.toNat then (some false) else (ck (rng (V 3 x1.toNat)) <| if V 3 x1.toNat < x3 then (some false) else (some true))) else (some false)
def bX1_covers_2 (n : Nat) (V : Sz) (x1 : Int) (x2 : Int) (rec2 : Int → Option (Bool)) : Int → Option (Bool) := fun y3 => ck (rng y3 ∧ rng (V 0 0)) <| if V 0 0 ≤ y3 then (some false) else (bd (f_X1_isOn V y3 x1 x2) fun (r_2 : Bool) => if r_2 = false then (nm (y3 + 1) fun (x_3 : Int) => rec2 x_3) else (some true))
theorem bX1_covers_2_e (n : Nat) (V : Sz) (x1 : Int) (x2 : Int) (rec2 : Int → Option (Bool)) (y3 : Int) : bX1_covers_2 n V x1 x2 rec2 y3 = (ck (rng y3 ∧ rng (V 0 0)) <| if V 0 0 ≤ y3 then (some false) else (bd (f_X1_isOn V y3 x1 x2) fun (r_2 : Bool) => if r_2 = false then (nm (y3 + 1) fun (x_3 : Int) => rec2 x_3) else (some true))) := rfl
def f_X1_covers (n : Nat) (V : Sz) (x1 : Int) (x2 : Int) : Option (Bool) := lpF (bX1_covers_2 n V x1 x2) n 0
def jX1_openFrom_70 (n : Nat) (V : Sz) (x1 : Int) (x2 : Int) (x3 : Int) (rec9 : Int × Int × Int → Option (Int)) (rec29 : Int × Int × Int × Int → Option (Int)) (y4 : Int) (y5 : Int) (y6 : Int) (y7 : Int) : Option (Int) := nm (y7 + 1) fun (x_6 : Int) => rec29 (y4, y5, y6, x_6)
def bX1_openFrom_29 (n : Nat) (V : Sz) (x1 : Int) (x2 : Int) (x3 : Int) (rec9 : Int × Int × Int → Option (Int)) (rec29 : Int × Int × Int × Int → Option (Int)) : Int × Int × Int × Int → Option (Int) := fun (y4, y5, y6, y7) => ck (rng y7 ∧ rng (V 0 0)) <| if V 0 0 ≤ y7 then (nm (y6 + 1) fun (x_4 : Int) => rec9 (y4, y5, x_4)) else (ck (rng x3) <| if y7 = x3 then (jX1_openFrom_70 n V x1 x2 x3 rec9 rec29 y4 y5 y6 y7) else (bd (f_X1_isOn V y7 x1 y4) fun (r_7 : Bool) => if r_7 = false then (jX1_openFrom_70 n V x1 x2 x3 rec9 rec29 y4 y5 y6 y7) else (ck (inZ y7 30) <| nm ((V 3 y7.toNat) + 1) fun (x_9 : Int) => jX1_openFrom_70 n V x1 x2 x3 rec9 rec29 x_9 1 y6 y7)))
theorem bX1_openFrom_29_e (n : Nat) (V : Sz) (x1 : Int) (x2 : Int) (x3 : Int) (rec9 : Int × Int × Int → Option (Int)) (rec29 : Int × Int × Int × Int → Option (Int)) (y4 : Int) (y5 : Int) (y6 : Int) (y7 : Int) : bX1_openFrom_29 n V x1 x2 x3 rec9 rec29 (y4, y5, y6, y7) = (ck (rng y7 ∧ rng (V 0 0)) <| if V 0 0 ≤ y7 then (nm (y6 + 1) fun (x_4 : Int) => rec9 (y4, y5, x_4)) else (ck (rng x3) <| if y7 = x3 then (jX1_openFrom_70 n V x1 x2 x3 rec9 rec29 y4 y5 y6 y7) else (bd (f_X1_isOn V y7 x1 y4) fun (r_7 : Bool) => if r_7 = false then (jX1_openFrom_70 n V x1 x2 x3 rec9 rec29 y4 y5 y6 y7) else (ck (inZ y7 30) <| nm ((V 3 y7.toNat) + 1) fun (x_9 : Int) => jX1_openFrom_70 n V x1 x2 x3 rec9 rec29 x_9 1 y6 y7)))) := rfl
def bX1_openFrom_9 (n : Nat) (V : Sz) (x1 : Int) (x2 : Int) (x3 : Int) (rec9 : Int × Int × Int → Option (Int)) : Int × Int × Int → Option (Int) := fun (y4, y5, y6) => ck (rng y6 ∧ rng (V 0 0)) <| if V 0 0 ≤ y6 then (some y4) else (ck (rng y5) <| if y5 = 0 then (some y4) else (lpF (bX1_openFrom_29 n V x1 x2 x3 rec9) n (y4, 0, y6, 0)))
theorem bX1_openFrom_9_e (n : Nat) (V : Sz) (x1 : Int) (x2 : Int) (x3 : Int) (rec9 : Int × Int × Int → Option (Int)) (y4 : Int) (y5 : Int) (y6 : Int) : bX1_openFrom_9 n V x1 x2 x3 rec9 (y4, y5, y6) = (ck (rng y6 ∧ rng (V 0 0)) <| if V 0 0 ≤ y6 then (some y4) else (ck (rng y5) <| if y5 = 0 then (some y4) else (lpF (bX1_openFrom_29 n V x1 x2 x3 rec9) n (y4, 0, y6, 0)))) := rfl
def f_X1_openFrom (n : Nat) (V : Sz) (x1 : Int) (x2 : Int) (x3 : Int) : Option (Int) := lpF (bX1_openFrom_9 n V x1 x2 x3) n (x2, 1, 0)
def jX1_coveredFrom_48 (n : Nat) (V : Sz) (x1 : Int) (x2 : Int) (rec7 : Int × Int → Option (Int)) (y3 : Int) (y4 : Int) : Option (Int) := nm (y4 + 1) fun (x_6 : Int) => rec7 (y3, x_6)
def bX1_coveredFrom_7 (n : Nat) (V : Sz) (x1 : Int) (x2 : Int) (rec7 : Int × Int → Option (Int)) : Int × Int → Option (Int) := fun (y3, y4) => ck (rng y4 ∧ rng (V 0 0)) <| if V 0 0 ≤ y4 then (some y3) else (ck (inZ y4 30) <| ck (rng x2 ∧ rng (V 2 y4.toNat)) <| nm (max x2 (V 2 y4.toNat)) fun (x_4 : Int) => bd (f_X1_isOn V y4 x1 x_4) fun (r_5 : Bool) => if r_5 = false then (jX1_coveredFrom_48 n V x1 x2 rec7 y3 y4) else (ck (rng y3 ∧ rng x_4) <| nm (min y3 x_4) fun (x_8 : Int) => jX1_coveredFrom_48 n V x1 x2 rec7 x_8 y4))
theorem bX1_coveredFrom_7_e (n : Nat) (V : Sz) (x1 : Int) (x2 : Int) (rec7 : Int × Int → Option (Int)) (y3 : Int) (y4 : Int) : bX1_coveredFrom_7 n V x1 x2 rec7 (y3, y4) = (ck (rng y4 ∧ rng (V 0 0)) <| if V 0 0 ≤ y4 then (some y3) else (ck (inZ y4 30) <| ck (rng x2 ∧ rng (V 2 y4.toNat)) <| nm (max x2 (V 2 y4.toNat)) fun (x_4 : Int) => bd (f_X1_isOn V y4 x1 x_4) fun (r_5 : Bool) => if r_5 = false then (jX1_coveredFrom_48 n V x1 x2 rec7 y3 y4) else (ck (rng y3 ∧ rng x_4) <| nm (min y3 x_4) fun (x_8 : Int) => jX1_coveredFrom_48 n V x1 x2 rec7 x_8 y4))) := rfl
def f_X1_coveredFrom (n : Nat) (V : Sz) (x1 : Int) (x2 : Int) : Option (Int) := lpF (bX1_coveredFrom_7 n V x1 x2) n (10000, 0)
def bX1_coveredWithin_14 (n : Nat) (V : Sz) (x1 : Int) (x2 : Int) (x3 : Int) (rec14 : Int × Int × Int → Option (Int)) : Int × Int × Int → Option (Int) := fun (y4, y5, y6) => ck (rng y6 ∧ rng (V 0 0)) <| if V 0 0 ≤ y6 then (some y4) else (ck (rng y5 ∧ rng x3) <| if x3 < y5 then (some y4) else (bd (f_X1_openFrom n V x1 y5 (-1)) fun (r_4 : Int) => ck (rng r_4 ∧ rng (x3 + 1)) <| nm (y4 + ((min r_4 (x3 + 1)) - y5)) fun (x_6 : Int) => bd (f_X1_coveredFrom n V x1 r_4) fun (r_7 : Int) => nm (y6 + 1) fun (x_8 : Int) => rec14 (x_6, r_7, x_8)))
theorem bX1_coveredWithin_14_e (n : Nat) (V : Sz) (x1 : Int) (x2 : Int) (x3 : Int) (rec14 : Int × Int × Int → Option (Int)) (y4 : Int) (y5 : Int) (y6 : Int) : bX1_coveredWithin_14 n V x1 x2 x3 rec14 (y4, y5, y6) = (ck (rng y6 ∧ rng (V 0 0)) <| if V 0 0 ≤ y6 then (some y4) else (ck (rng y5 ∧ rng x3) <| if x3 < y5 then (some y4) else (bd (f_X1_openFrom n V x1 y5 (-1)) fun (r_4 : Int) => ck (rng r_4 ∧ rng (x3 + 1)) <| nm (y4 + ((min r_4 (x3 + 1)) - y5)) fun (x_6 : Int) => bd (f_X1_coveredFrom n V x1 r_4) fun (r_7 : Int) => nm (y6 + 1) fun (x_8 : Int) => rec14 (x_6, r_7, x_8)))) := rfl
def f_X1_coveredWithin (n : Nat) (V : Sz) (x1 : Int) (x2 : Int) (x3 : Int) : Option (Int) := bd (f_X1_coveredFrom n V x1 x2) fun (r_1 : Int) => lpF (bX1_coveredWithin_14 n V x1 x2 x3) n (0, r_1, 0)
def bX1_endOfGap_12 (n : Nat) (V : Sz) (x1 : Int) (x2 : Int) (x3 : Int) (rec12 : Int × Int → Option (Int)) : Int × Int → Option (Int) := fun (y4, y5) => ck (rng y5 ∧ rng (V 0 0)) <| if V 0 0 < y5 then (some (-1)) else (ck (rng y4) <| if 9999 < y4 then (some (-1)) else (bd (f_X1_coveredFrom n V x1 y4) fun (r_4 : Int) => ck (rng x2) <| if y5 = x2 then (ck (rng x3) <| if x3 = 0 then (some y4) else (some (r_4 - 1))) else (bd (f_X1_openFrom n V x1 r_4 (-1)) fun (r_6 : Int) => nm (y5 + 1) fun (x_7 : Int) => rec12 (r_6, x_7))))
theorem bX1_endOfGap_12_e (n : Nat) (V : Sz) (x1 : Int) (x2 : Int) (x3 : Int) (rec12 : Int × Int → Option (Int)) (y4 : Int) (y5 : Int) : bX1_endOfGap_12 n V x1 x2 x3 rec12 (y4, y5) = (ck (rng y5 ∧ rng (V 0 0)) <| if V 0 0 < y5 then (some (-1)) else (ck (rng y4) <| if 9999 < y4 then (some (-1)) else (bd (f_X1_coveredFrom n V x1 y4) fun (r_4 : Int) => ck (rng x2) <| if y5 = x2 then (ck (rng x3) <| if x3 = 0 then (some y4) else (some (r_4 - 1))) else (bd (f_X1_openFrom n V x1 r_4 (-1)) fun (r_6 : Int) => nm (y5 + 1) fun (x_7 : Int) => rec12 (r_6, x_7))))) := rfl
def f_X1_endOfGap (n : Nat) (V : Sz) (x1 : Int) (x2 : Int) (x3 : Int) : Option (Int) := bd (f_X1_openFrom n V x1 0 (-1)) fun (r_1 : Int) => lpF (bX1_endOfGap_12 n V x1 x2 x3) n (r_1, 0)
def bX1_longestRun_12 (n : Nat) (V : Sz) (x1 : Int) (rec12 : Int × Int × Int → Option (Int)) : Int × Int × Int → Option (Int) := fun (y2, y3, y4) => ck (rng y4 ∧ rng (V 0 0)) <| if V 0 0 ≤ y4 then (some y2) else (ck (rng y3) <| if 9999 < y3 then (some y2) else (bd (f_X1_openFrom n V x1 y3 (-1)) fun (r_4 : Int) => ck (rng y2 ∧ rng (r_4 - y3)) <| nm (max y2 (r_4 - y3)) fun (x_6 : Int) => bd (f_X1_coveredFrom n V x1 r_4) fun (r_7 : Int) => nm (y4 + 1) fun (x_8 : Int) => rec12 (x_6, r_7, x_8)))
theorem bX1_longestRun_12_e (n : Nat) (V : Sz) (x1 : Int) (rec12 : Int × Int × Int → Option (Int)) (y2 : Int) (y3 : Int) (y4 : Int) : bX1_longestRun_12 n V x1 rec12 (y2, y3, y4) = (ck (rng y4 ∧ rng (V 0 0)) <| if V 0 0 ≤ y4 then (some y2) else (ck (rng y3) <| if 9999 < y3 then (some y2) else (bd (f_X1_openFrom n V x1 y3 (-1)) fun (r_4 : Int) => ck (rng y2 ∧ rng (r_4 - y3)) <| nm (max y2 (r_4 - y3)) fun (x_6 : Int) => bd (f_X1_coveredFrom n V x1 r_4) fun (r_7 : Int) => nm (y4 + 1) fun (x_8 : Int) => rec12 (x_6, r_7, x_8)))) := rfl
def f_X1_longestRun (n : Nat) (V : Sz) (x1 : Int) : Option (Int) := bd (f_X1_coveredFrom n V x1 0) fun (r_1 : Int) => lpF (bX1_longestRun_12 n V x1) n (0, r_1, 0)
def jX1_countNeedless_46 (n : Nat) (V : Sz) (x1 : Int) (rec4 : Int × Int → Option (Int)) (y2 : Int) (y3 : Int) : Option (Int) := nm (y3 + 1) fun (x_4 : Int) => rec4 (y2, x_4)
def bX1_countNeedless_4 (n : Nat) (V : Sz) (x1 : Int) (rec4 : Int × Int → Option (Int)) : Int × Int → Option (Int) := fun (y2, y3) => ck (rng y3 ∧ rng (V 0 0)) <| if V 0 0 ≤ y3 then (some y2) else (ck (inZ y3 30) <| ck (rng (V 1 y3.toNat) ∧ rng x1) <| if V 1 y3.toNat = x1 then (bd (f_X1_openFrom n V x1 (V 2 y3.toNat) y3) fun (r_5 : Int) => ck (rng r_5 ∧ rng (V 3 y3.toNat)) <| if r_5 ≤ V 3 y3.toNat then (jX1_countNeedless_46 n V x1 rec4 y2 y3) else (nm (y2 + 1) fun (x_7 : Int) => jX1_countNeedless_46 n V x1 rec4 x_7 y3)) else (jX1_countNeedless_46 n V x1 rec4 y2 y3))
theorem bX1_countNeedless_4_e (n : Nat) (V : Sz) (x1 : Int) (rec4 : Int × Int → Option (Int)) (y2 : Int) (y3 : Int) : bX1_countNeedless_4 n V x1 rec4 (y2, y3) = (ck (rng y3 ∧ rng (V 0 0)) <| if V 0 0 ≤ y3 then (some y2) else (ck (inZ y3 30) <| ck (rng (V 1 y3.toNat) ∧ rng x1) <| if V 1 y3.toNat = x1 then (bd (f_X1_openFrom n V x1 (V 2 y3.toNat) y3) fun (r_5 : Int) => ck (rng r_5 ∧ rng (V 3 y3.toNat)) <| if r_5 ≤ V 3 y3.toNat then (jX1_countNeedless_46 n V x1 rec4 y2 y3) else (nm (y2 + 1) fun (x_7 : Int) => jX1_countNeedless_46 n V x1 rec4 x_7 y3)) else (jX1_countNeedless_46 n V x1 rec4 y2 y3))) := rfl
def f_X1_countNeedless (n : Nat) (V : Sz) (x1 : Int) : Option (Int) := lpF (bX1_countNeedless_4 n V x1) n (0, 0)
theorem DX1_become_0 : ∀ q ∈ ([(0, .aload_n 0, 1), (1, .aload_n 1, 1), (2, .getfield 21, 3), (5, .putfield 21, 3), (8, .aload_n 1, 1), (9, .getfield 9, 3), (12, .aload_n 0, 1), (13, .getfield 9, 3), (16, .invokestatic 25, 3), (19, .aload_n 1, 1), (20, .getfield 15, 3), (23, .aload_n 0, 1), (24, .getfield 15, 3), (27, .invokestatic 25, 3), (30, .aload_n 1, 1), (31, .getfield 18, 3), (34, .aload_n 0, 1), (35, .getfield 18, 3), (38, .invokestatic 25, 3), (41, .return_, 1)] : List (Nat × Instr × Nat)), decode cX1_become q.1 = .ok q.2 := by decide +kernel
theorem dX1_become_0 : decode cX1_become 0 = .ok (.aload_n 0, 1) := DX1_become_0 (0, .aload_n 0, 1) (List.mem_of_getElem? (i := 0) rfl)
theorem dX1_become_1 : decode cX1_become 1 = .ok (.aload_n 1, 1) := DX1_become_0 (1, .aload_n 1, 1) (List.mem_of_getElem? (i := 1) rfl)
theorem dX1_become_2 : decode cX1_become 2 = .ok (.getfield 21, 3) := DX1_become_0 (2, .getfield 21, 3) (List.mem_of_getElem? (i := 2) rfl)
theorem dX1_become_5 : decode cX1_become 5 = .ok (.putfield 21, 3) := DX1_become_0 (5, .putfield 21, 3) (List.mem_of_getElem? (i := 3) rfl)
theorem dX1_become_8 : decode cX1_become 8 = .ok (.aload_n 1, 1) := DX1_become_0 (8, .aload_n 1, 1) (List.mem_of_getElem? (i := 4) rfl)
theorem dX1_become_9 : decode cX1_become 9 = .ok (.getfield 9, 3) := DX1_become_0 (9, .getfield 9, 3) (List.mem_of_getElem? (i := 5) rfl)
theorem dX1_become_12 : decode cX1_become 12 = .ok (.aload_n 0, 1) := DX1_become_0 (12, .aload_n 0, 1) (List.mem_of_getElem? (i := 6) rfl)
theorem dX1_become_13 : decode cX1_become 13 = .ok (.getfield 9, 3) := DX1_become_0 (13, .getfield 9, 3) (List.mem_of_getElem? (i := 7) rfl)
theorem dX1_become_16 : decode cX1_become 16 = .ok (.invokestatic 25, 3) := DX1_become_0 (16, .invokestatic 25, 3) (List.mem_of_getElem? (i := 8) rfl)
theorem dX1_become_19 : decode cX1_become 19 = .ok (.aload_n 1, 1) := DX1_become_0 (19, .aload_n 1, 1) (List.mem_of_getElem? (i := 9) rfl)
theorem dX1_become_20 : decode cX1_become 20 = .ok (.getfield 15, 3) := DX1_become_0 (20, .getfield 15, 3) (List.mem_of_getElem? (i := 10) rfl)
theorem dX1_become_23 : decode cX1_become 23 = .ok (.aload_n 0, 1) := DX1_become_0 (23, .aload_n 0, 1) (List.mem_of_getElem? (i := 11) rfl)
theorem dX1_become_24 : decode cX1_become 24 = .ok (.getfield 15, 3) := DX1_become_0 (24, .getfield 15, 3) (List.mem_of_getElem? (i := 12) rfl)
theorem dX1_become_27 : decode cX1_become 27 = .ok (.invokestatic 25, 3) := DX1_become_0 (27, .invokestatic 25, 3) (List.mem_of_getElem? (i := 13) rfl)
theorem dX1_become_30 : decode cX1_become 30 = .ok (.aload_n 1, 1) := DX1_become_0 (30, .aload_n 1, 1) (List.mem_of_getElem? (i := 14) rfl)
theorem dX1_become_31 : decode cX1_become 31 = .ok (.getfield 18, 3) := DX1_become_0 (31, .getfield 18, 3) (List.mem_of_getElem? (i := 15) rfl)
theorem dX1_become_34 : decode cX1_become 34 = .ok (.aload_n 0, 1) := DX1_become_0 (34, .aload_n 0, 1) (List.mem_of_getElem? (i := 16) rfl)
theorem dX1_become_35 : decode cX1_become 35 = .ok (.getfield 18, 3) := DX1_become_0 (35, .getfield 18, 3) (List.mem_of_getElem? (i := 17) rfl)
theorem dX1_become_38 : decode cX1_become 38 = .ok (.invokestatic 25, 3) := DX1_become_0 (38, .invokestatic 25, 3) (List.mem_of_getElem? (i := 18) rfl)
theorem dX1_become_41 : decode cX1_become 41 = .ok (.return_, 1) := DX1_become_0 (41, .return_, 1) (List.mem_of_getElem? (i := 19) rfl)
abbrev rmX1_become : Room := { frames := 2, cells := 0, slots := 0, locals := 81 }
set_option maxHeartbeats 400000 in
set_option maxRecDepth 100000 in
theorem met_X1_become (l : Launch) (D : va_G) (kA : Nat → ClassId) (a : Nat → Nat) (b : Nat → Nat) (V0 : Sz) (G : Sz) (hDt : ∀ w : Sz, va_D (fun _ => True) (cs_X1 kA a w ++ (cs_X1 kA b G))) {Vr : Sz} (hf : f_X1_become V0 G = some Vr) : MZ l yX1_become cX1_become 2 none rmX1_become D kA [.ref (a 0), .ref (b 0)] (cs_X1 kA a V0 ++ (cs_X1 kA b G)) (cs_X1 kA a Vr ++ (cs_X1 kA b G)) (none) := by
  refine zZV (own := RX1) rfl rfl (Nat.le_of_ble_eq_true rfl) ?_
  intro p e s m args below meth c ls Q hC hK hP hl hret
  have hl : lv_has ls 2 [(0, .ref (a 0)), (1, .ref (b 0))] := hl
  have hS : va_S (zF (cs_X1 kA a V0 ++ (cs_X1 kA b G))) s.heap s.heap [] := va_S.rf
  have hD := zDself (C := fun w : Sz => (cs_X1 kA a w ++ (cs_X1 kA b G))) hDt V0 (fun _ => rfl)
  try dsimp only at hD
  generalize hAe : zF (cs_X1 kA a V0 ++ (cs_X1 kA b G)) = A0 at hS hD hret
  unfold f_X1_become at hf
  refine lv_aload_n hC.1 hC.2.1 dX1_become_0 rfl (lv_at hl 0 rfl) <| lv_aload_n hC.1 hC.2.1 dX1_become_1 rfl (lv_at hl 1 rfl) <| gfX1_21 hC hK hP (q0 := 4) rfl rfl dX1_become_2 <| ?_
  refine pfX1_21 hC hK hP (hD V0) hS (q0 := 0) rfl (Nat.le_of_ble_eq_true rfl) dX1_become_5 (fun H locs hP hS => ?_)
  obtain ⟨V_1, eV_1⟩ : ∃ y, y = us V0 0 (G 0 0) := ⟨_, rfl⟩
  have hf := nm_at hf eV_1
  have hP : va_P D vwCl (cs_X1 kA a V_1 ++ (cs_X1 kA b G)) H := by rw [eV_1]; exact hP
  refine lv_aload_n hC.1 hC.2.1 dX1_become_8 rfl (lv_at hl 1 rfl) <| gfX1_9 hC hK hP (q0 := 4) rfl rfl dX1_become_9 <| lv_aload_n hC.1 hC.2.1 dX1_become_12 rfl (lv_at hl 0 rfl) <| gfX1_9 hC hK hP (q0 := 0) rfl rfl dX1_become_13 <| ?_
  obtain ⟨V_2, hu, hf⟩ := bd_some hf
  have hPc : va_P D vwCl ([((b 1), .inl (kA 0, 30, .inl (aI (G 1))))] ++ ([((a 1), .inl (kA 0, 30, .inl (aI (V_1 1))))])) _ := hP.sub [5, 1] rfl
  have hDc : ∀ w : (Nat → Int), va_D (fun _ => True) ([((b 1), .inl (kA 0, 30, .inl (aI (G 1))))] ++ ([((a 1), .inl (kA 0, 30, .inl (aI w)))])) := fun w => (hDt (uy V_1 1 w)).sub [5, 1] (by decide) rfl
  refine zcNZ (As := [.ref (b 1), .ref (a 1)]) (rest := []) hC hK (met_X7_copyRow l D kA (b 1) (a 1) 30 30 (G 1) (V_1 1) (Nat.le_of_ble_eq_true rfl) (Nat.le_of_ble_eq_true rfl) hDc hu) zwNcopy znX1_25 hS (zFsub (hD V_1) [5, 1] rfl) hPc rfl hl.1 rfl (Nat.le_of_ble_eq_true rfl) ⟨Nat.le_of_ble_eq_true rfl, Nat.le_of_ble_eq_true rfl⟩ ⟨rfl, rfl⟩ ⟨Nat.le_refl _, Nat.le_refl _⟩ dX1_become_16 (fun H locs hP1 hk1 hS => ?_)
  obtain ⟨V_3, eV_3⟩ : ∃ y, y = uy V_1 1 V_2 := ⟨_, rfl⟩
  have hf := nm_at hf eV_3
  have hP : va_P D vwCl (cs_X1 kA a V_3 ++ (cs_X1 kA b G)) H := by rw [eV_3]; exact zjoin hP (hDt V_1) [5, 1] (w0 := ([((b 1), .inl (kA 0, 30, .inl (aI (G 1))))] ++ ([((a 1), .inl (kA 0, 30, .inl (aI (V_1 1))))]))) rfl (Nat.le_of_ble_eq_true rfl) hk1 hP1
  refine lv_aload_n hC.1 hC.2.1 dX1_become_19 rfl (lv_at hl 1 rfl) <| gfX1_15 hC hK hP (q0 := 4) rfl rfl dX1_become_20 <| lv_aload_n hC.1 hC.2.1 dX1_become_23 rfl (lv_at hl 0 rfl) <| gfX1_15 hC hK hP (q0 := 0) rfl rfl dX1_become_24 <| ?_
  obtain ⟨V_4, hu, hf⟩ := bd_some hf
  have hPc : va_P D vwCl ([((b 2), .inl (kA 0, 30, .inl (aI (G 2))))] ++ ([((a 2), .inl (kA 0, 30, .inl (aI (V_3 2))))])) _ := hP.sub [6, 2] rfl
  have hDc : ∀ w : (Nat → Int), va_D (fun _ => True) ([((b 2), .inl (kA 0, 30, .inl (aI (G 2))))] ++ ([((a 2), .inl (kA 0, 30, .inl (aI w)))])) := fun w => (hDt (uy V_3 2 w)).sub [6, 2] (by decide) rfl
  refine zcNZ (As := [.ref (b 2), .ref (a 2)]) (rest := []) hC hK (met_X7_copyRow l D kA (b 2) (a 2) 30 30 (G 2) (V_3 2) (Nat.le_of_ble_eq_true rfl) (Nat.le_of_ble_eq_true rfl) hDc hu) zwNcopy znX1_25 hS (zFsub (hD V_3) [6, 2] rfl) hPc rfl hl.1 rfl (Nat.le_of_ble_eq_true rfl) ⟨Nat.le_of_ble_eq_true rfl, Nat.le_of_ble_eq_true rfl⟩ ⟨rfl, rfl⟩ ⟨Nat.le_refl _, Nat.le_refl _⟩ dX1_become_27 (fun H locs hP1 hk1 hS => ?_)
  obtain ⟨V_5, eV_5⟩ : ∃ y, y = uy V_3 2 V_4 := ⟨_, rfl⟩
  have hf := nm_at hf eV_5
  have hP : va_P D vwCl (cs_X1 kA a V_5 ++ (cs_X1 kA b G)) H := by rw [eV_5]; exact zjoin hP (hDt V_3) [6, 2] (w0 := ([((b 2), .inl (kA 0, 30, .inl (aI (G 2))))] ++ ([((a 2), .inl (kA 0, 30, .inl (aI (V_3 2))))]))) rfl (Nat.le_of_ble_eq_true rfl) hk1 hP1
  refine lv_aload_n hC.1 hC.2.1 dX1_become_30 rfl (lv_at hl 1 rfl) <| gfX1_18 hC hK hP (q0 := 4) rfl rfl dX1_become_31 <| lv_aload_n hC.1 hC.2.1 dX1_become_34 rfl (lv_at hl 0 rfl) <| gfX1_18 hC hK hP (q0 := 0) rfl rfl dX1_become_35 <| ?_
  obtain ⟨V_6, hu, hf⟩ := bd_some hf
  have hPc : va_P D vwCl ([((b 3), .inl (kA 0, 30, .inl (aI (G 3))))] ++ ([((a 3), .inl (kA 0, 30, .inl (aI (V_5 3))))])) _ := hP.sub [7, 3] rfl
  have hDc : ∀ w : (Nat → Int), va_D (fun _ => True) ([((b 3), .inl (kA 0, 30, .inl (aI (G 3))))] ++ ([((a 3), .inl (kA 0, 30, .inl (aI w)))])) := fun w => (hDt (uy V_5 3 w)).sub [7, 3] (by decide) rfl
  refine zcNZ (As := [.ref (b 3), .ref (a 3)]) (rest := []) hC hK (met_X7_copyRow l D kA (b 3) (a 3) 30 30 (G 3) (V_5 3) (Nat.le_of_ble_eq_true rfl) (Nat.le_of_ble_eq_true rfl) hDc hu) zwNcopy znX1_25 hS (zFsub (hD V_5) [7, 3] rfl) hPc rfl hl.1 rfl (Nat.le_of_ble_eq_true rfl) ⟨Nat.le_of_ble_eq_true rfl, Nat.le_of_ble_eq_true rfl⟩ ⟨rfl, rfl⟩ ⟨Nat.le_refl _, Nat.le_refl _⟩ dX1_become_38 (fun H locs hP1 hk1 hS => ?_)
  obtain ⟨V_7, eV_7⟩ : ∃ y, y = uy V_5 3 V_6 := ⟨_, rfl⟩
  have hf := nm_at hf eV_7
  have hP : va_P D vwCl (cs_X1 kA a V_7 ++ (cs_X1 kA b G)) H := by rw [eV_7]; exact zjoin hP (hDt V_5) [7, 3] (w0 := ([((b 3), .inl (kA 0, 30, .inl (aI (G 3))))] ++ ([((a 3), .inl (kA 0, 30, .inl (aI (V_5 3))))]))) rfl (Nat.le_of_ble_eq_true rfl) hk1 hP1
  have hf := Option.some.inj hf
  exact hret _ _ _ _ rfl (by rw [← hf]; exact hP) hS dX1_become_41
theorem DX1_isFull_0 : ∀ q ∈ ([(0, .aload_n 0, 1), (1, .getfield 21, 3), (4, .bipush 30, 2), (6, .if_icmp .lt 7, 3), (9, .iconst 1, 1), (10, .goto 4, 3), (13, .iconst 0, 1), (14, .ireturn, 1)] : List (Nat × Instr × Nat)), decode cX1_isFull q.1 = .ok q.2 := by decide +kernel
theorem dX1_isFull_0 : decode cX1_isFull 0 = .ok (.aload_n 0, 1) := DX1_isFull_0 (0, .aload_n 0, 1) (List.mem_of_getElem? (i := 0) rfl)
theorem dX1_isFull_1 : decode cX1_isFull 1 = .ok (.getfield 21, 3) := DX1_isFull_0 (1, .getfield 21, 3) (List.mem_of_getElem? (i := 1) rfl)
theorem dX1_isFull_4 : decode cX1_isFull 4 = .ok (.bipush 30, 2) := DX1_isFull_0 (4, .bipush 30, 2) (List.mem_of_getElem? (i := 2) rfl)
theorem dX1_isFull_6 : decode cX1_isFull 6 = .ok (.if_icmp .lt 7, 3) := DX1_isFull_0 (6, .if_icmp .lt 7, 3) (List.mem_of_getElem? (i := 3) rfl)
theorem dX1_isFull_9 : decode cX1_isFull 9 = .ok (.iconst 1, 1) := DX1_isFull_0 (9, .iconst 1, 1) (List.mem_of_getElem? (i := 4) rfl)
theorem dX1_isFull_10 : decode cX1_isFull 10 = .ok (.goto 4, 3) := DX1_isFull_0 (10, .goto 4, 3) (List.mem_of_getElem? (i := 5) rfl)
theorem dX1_isFull_13 : decode cX1_isFull 13 = .ok (.iconst 0, 1) := DX1_isFull_0 (13, .iconst 0, 1) (List.mem_of_getElem? (i := 6) rfl)
theorem dX1_isFull_14 : decode cX1_isFull 14 = .ok (.ireturn, 1) := DX1_isFull_0 (14, .ireturn, 1) (List.mem_of_getElem? (i := 7) rfl)
abbrev rmX1_isFull : Room := { frames := 0, cells := 0, slots := 0, locals := 0 }
set_option maxHeartbeats 400000 in
set_option maxRecDepth 100000 in
theorem met_X1_isFull (l : Launch) (D : va_G) (kA : Nat → ClassId) (a : Nat → Nat) (V : Sz) {r : Bool} (hf : f_X1_isFull V = some r) : MP l yX1_isFull cX1_isFull 1 (some .boolean) rmX1_isFull D kA [.ref (a 0)] (cs_X1 kA a V) (some (vI (bI r))) := by
  refine zPZ (own := RX1) rfl rfl (Nat.le_of_ble_eq_true rfl) ?_
  intro p e s m args below meth c ls Q hC hK hP hl hret
  have hl : lv_has ls 1 [(0, .ref (a 0))] := hl
  unfold f_X1_isFull at hf
  refine lv_aload_n hC.1 hC.2.1 dX1_isFull_0 rfl (lv_at hl 0 rfl) <| gfX1_21 hC hK hP (q0 := 0) rfl rfl dX1_isFull_1 <| zbipush hC.1 hC.2.1 dX1_isFull_4 (by decide) <| ?_
  obtain ⟨hz_1, hf⟩ := ck_some hf
  refine zicmp_lt (tgt := 13) hC.1 hC.2.1 ⟨hz_1, (by decide)⟩ dX1_isFull_6 (by decide) (fun hc => ?_) (fun hc => ?_)
  · have hf := it_t hf hc
    exact ziconst hC.1 hC.2.1 dX1_isFull_13 <| hret (Int32.ofInt (bI false)) _ _ (zb01 _) (qZ hf) dX1_isFull_14
  · have hf := it_f hf hc
    exact ziconst hC.1 hC.2.1 dX1_isFull_9 <| lv_goto (tgt := 14) hC.1 hC.2.1 dX1_isFull_10 (by decide) <| hret (Int32.ofInt (bI true)) _ _ (zb01 _) (qZ hf) dX1_isFull_14
theorem DX1_add_0 : ∀ q ∈ ([(0, .aload_n 0, 1), (1, .invokevirtual 29, 3), (4, .ifCond .eq 5, 3), (7, .iconst (-1), 1), (8, .ireturn, 1), (9, .aload_n 0, 1), (10, .getfield 9, 3), (13, .aload_n 0, 1), (14, .getfield 21, 3), (17, .iload_n 1, 1), (18, .iastore, 1), (19, .aload_n 0, 1), (20, .getfield 15, 3), (23, .aload_n 0, 1), (24, .getfield 21, 3), (27, .iload_n 2, 1), (28, .iastore, 1), (29, .aload_n 0, 1), (30, .getfield 18, 3), (33, .aload_n 0, 1), (34, .getfield 21, 3), (37, .iload_n 3, 1), (38, .iastore, 1), (39, .aload_n 0, 1), (40, .dup, 1), (41, .getfield 21, 3), (44, .iconst 1, 1), (45, .iadd, 1), (46, .putfield 21, 3), (49, .aload_n 0, 1), (50, .getfield 21, 3), (53, .iconst 1, 1), (54, .isub, 1), (55, .ireturn, 1)] : List (Nat × Instr × Nat)), decode cX1_add q.1 = .ok q.2 := by decide +kernel
theorem dX1_add_0 : decode cX1_add 0 = .ok (.aload_n 0, 1) := DX1_add_0 (0, .aload_n 0, 1) (List.mem_of_getElem? (i := 0) rfl)
theorem dX1_add_1 : decode cX1_add 1 = .ok (.invokevirtual 29, 3) := DX1_add_0 (1, .invokevirtual 29, 3) (List.mem_of_getElem? (i := 1) rfl)
theorem dX1_add_4 : decode cX1_add 4 = .ok (.ifCond .eq 5, 3) := DX1_add_0 (4, .ifCond .eq 5, 3) (List.mem_of_getElem? (i := 2) rfl)
theorem dX1_add_7 : decode cX1_add 7 = .ok (.iconst (-1), 1) := DX1_add_0 (7, .iconst (-1), 1) (List.mem_of_getElem? (i := 3) rfl)
theorem dX1_add_8 : decode cX1_add 8 = .ok (.ireturn, 1) := DX1_add_0 (8, .ireturn, 1) (List.mem_of_getElem? (i := 4) rfl)
theorem dX1_add_9 : decode cX1_add 9 = .ok (.aload_n 0, 1) := DX1_add_0 (9, .aload_n 0, 1) (List.mem_of_getElem? (i := 5) rfl)
theorem dX1_add_10 : decode cX1_add 10 = .ok (.getfield 9, 3) := DX1_add_0 (10, .getfield 9, 3) (List.mem_of_getElem? (i := 6) rfl)
theorem dX1_add_13 : decode cX1_add 13 = .ok (.aload_n 0, 1) := DX1_add_0 (13, .aload_n 0, 1) (List.mem_of_getElem? (i := 7) rfl)
theorem dX1_add_14 : decode cX1_add 14 = .ok (.getfield 21, 3) := DX1_add_0 (14, .getfield 21, 3) (List.mem_of_getElem? (i := 8) rfl)
theorem dX1_add_17 : decode cX1_add 17 = .ok (.iload_n 1, 1) := DX1_add_0 (17, .iload_n 1, 1) (List.mem_of_getElem? (i := 9) rfl)
theorem dX1_add_18 : decode cX1_add 18 = .ok (.iastore, 1) := DX1_add_0 (18, .iastore, 1) (List.mem_of_getElem? (i := 10) rfl)
theorem dX1_add_19 : decode cX1_add 19 = .ok (.aload_n 0, 1) := DX1_add_0 (19, .aload_n 0, 1) (List.mem_of_getElem? (i := 11) rfl)
theorem dX1_add_20 : decode cX1_add 20 = .ok (.getfield 15, 3) := DX1_add_0 (20, .getfield 15, 3) (List.mem_of_getElem? (i := 12) rfl)
theorem dX1_add_23 : decode cX1_add 23 = .ok (.aload_n 0, 1) := DX1_add_0 (23, .aload_n 0, 1) (List.mem_of_getElem? (i := 13) rfl)
theorem dX1_add_24 : decode cX1_add 24 = .ok (.getfield 21, 3) := DX1_add_0 (24, .getfield 21, 3) (List.mem_of_getElem? (i := 14) rfl)
theorem dX1_add_27 : decode cX1_add 27 = .ok (.iload_n 2, 1) := DX1_add_0 (27, .iload_n 2, 1) (List.mem_of_getElem? (i := 15) rfl)
theorem dX1_add_28 : decode cX1_add 28 = .ok (.iastore, 1) := DX1_add_0 (28, .iastore, 1) (List.mem_of_getElem? (i := 16) rfl)
theorem dX1_add_29 : decode cX1_add 29 = .ok (.aload_n 0, 1) := DX1_add_0 (29, .aload_n 0, 1) (List.mem_of_getElem? (i := 17) rfl)
theorem dX1_add_30 : decode cX1_add 30 = .ok (.getfield 18, 3) := DX1_add_0 (30, .getfield 18, 3) (List.mem_of_getElem? (i := 18) rfl)
theorem dX1_add_33 : decode cX1_add 33 = .ok (.aload_n 0, 1) := DX1_add_0 (33, .aload_n 0, 1) (List.mem_of_getElem? (i := 19) rfl)
theorem dX1_add_34 : decode cX1_add 34 = .ok (.getfield 21, 3) := DX1_add_0 (34, .getfield 21, 3) (List.mem_of_getElem? (i := 20) rfl)
theorem dX1_add_37 : decode cX1_add 37 = .ok (.iload_n 3, 1) := DX1_add_0 (37, .iload_n 3, 1) (List.mem_of_getElem? (i := 21) rfl)
theorem dX1_add_38 : decode cX1_add 38 = .ok (.iastore, 1) := DX1_add_0 (38, .iastore, 1) (List.mem_of_getElem? (i := 22) rfl)
theorem dX1_add_39 : decode cX1_add 39 = .ok (.aload_n 0, 1) := DX1_add_0 (39, .aload_n 0, 1) (List.mem_of_getElem? (i := 23) rfl)
theorem dX1_add_40 : decode cX1_add 40 = .ok (.dup, 1) := DX1_add_0 (40, .dup, 1) (List.mem_of_getElem? (i := 24) rfl)
theorem dX1_add_41 : decode cX1_add 41 = .ok (.getfield 21, 3) := DX1_add_0 (41, .getfield 21, 3) (List.mem_of_getElem? (i := 25) rfl)
theorem dX1_add_44 : decode cX1_add 44 = .ok (.iconst 1, 1) := DX1_add_0 (44, .iconst 1, 1) (List.mem_of_getElem? (i := 26) rfl)
theorem dX1_add_45 : decode cX1_add 45 = .ok (.iadd, 1) := DX1_add_0 (45, .iadd, 1) (List.mem_of_getElem? (i := 27) rfl)
theorem dX1_add_46 : decode cX1_add 46 = .ok (.putfield 21, 3) := DX1_add_0 (46, .putfield 21, 3) (List.mem_of_getElem? (i := 28) rfl)
theorem dX1_add_49 : decode cX1_add 49 = .ok (.aload_n 0, 1) := DX1_add_0 (49, .aload_n 0, 1) (List.mem_of_getElem? (i := 29) rfl)
theorem dX1_add_50 : decode cX1_add 50 = .ok (.getfield 21, 3) := DX1_add_0 (50, .getfield 21, 3) (List.mem_of_getElem? (i := 30) rfl)
theorem dX1_add_53 : decode cX1_add 53 = .ok (.iconst 1, 1) := DX1_add_0 (53, .iconst 1, 1) (List.mem_of_getElem? (i := 31) rfl)
theorem dX1_add_54 : decode cX1_add 54 = .ok (.isub, 1) := DX1_add_0 (54, .isub, 1) (List.mem_of_getElem? (i := 32) rfl)
theorem dX1_add_55 : decode cX1_add 55 = .ok (.ireturn, 1) := DX1_add_0 (55, .ireturn, 1) (List.mem_of_getElem? (i := 33) rfl)
abbrev rmX1_add : Room := { frames := 1, cells := 0, slots := 0, locals := 20 }
set_option maxHeartbeats 400000 in
set_option maxRecDepth 100000 in
theorem met_X1_add (l : Launch) (D : va_G) (kA : Nat → ClassId) (a : Nat → Nat) (V0 : Sz) (x1 : Int) (x2 : Int) (x3 : Int) (hDt : ∀ w : Sz, va_D (fun _ => True) (cs_X1 kA a w)) {r : Int} {Vr : Sz} (hf : f_X1_add V0 x1 x2 x3 = some (r, Vr)) : MZ l yX1_add cX1_add 4 (some .int) rmX1_add D kA [.ref (a 0), vI x1, vI x2, vI x3] (cs_X1 kA a V0) (cs_X1 kA a Vr) (some (vI r)) := by
  refine zZI (own := RX1) rfl rfl (Nat.le_of_ble_eq_true rfl) ?_
  intro p e s m args below meth c ls Q hC hK hP hl hret
  have hl : lv_has ls 4 [(0, .ref (a 0)), (1, vI x1), (2, vI x2), (3, vI x3)] := hl
  have hS : va_S (zF (cs_X1 kA a V0)) s.heap s.heap [] := va_S.rf
  have hD := zDself (C := fun w : Sz => (cs_X1 kA a w)) hDt V0 (fun _ => rfl)
  try dsimp only at hD
  generalize hAe : zF (cs_X1 kA a V0) = A0 at hS hD hret
  unfold f_X1_add at hf
  refine lv_aload_n hC.1 hC.2.1 dX1_add_0 rfl (lv_at hl 0 rfl) <| ?_
  obtain ⟨r_1, hu, hf⟩ := bd_some hf
  refine zcVP (As := []) (rest := []) hC hK (met_X1_isFull l D kA a V0 hu) zwX1_29 hP (q0 := 0) rfl rfl rfl rfl hl.1 rfl (Nat.le_of_ble_eq_true rfl) ⟨Nat.le_of_ble_eq_true rfl, Nat.le_of_ble_eq_true rfl⟩ ⟨rfl, rfl⟩ ⟨Nat.le_refl _, Nat.le_refl _⟩ dX1_add_1 <| zifb_eq (tgt := 9) hC.1 hC.2.1 dX1_add_4 (by decide) (fun hc => ?_) (fun hc => ?_)
  · have hf := it_t hf hc
    refine lv_aload_n hC.1 hC.2.1 dX1_add_9 rfl (lv_at hl 0 rfl) <| gfX1_9 hC hK hP (q0 := 0) rfl rfl dX1_add_10 <| lv_aload_n hC.1 hC.2.1 dX1_add_13 rfl (lv_at hl 0 rfl) <| gfX1_21 hC hK hP (q0 := 0) rfl rfl dX1_add_14 <| ziload_n hC.1 hC.2.1 dX1_add_17 rfl (lv_at hl 1 rfl) <| ?_
    obtain ⟨hz_2, hf⟩ := ck_some hf
    refine jas hC hK hP (hD V0) hS (q0 := 1) rfl (Nat.le_of_ble_eq_true rfl) hz_2 rfl dX1_add_18 (fun H locs hP hS => ?_)
    obtain ⟨V_3, eV_3⟩ : ∃ y, y = uz V0 1 (V0 0 0).toNat x1 := ⟨_, rfl⟩
    have hf := nm_at hf eV_3
    have hP : va_P D vwCl (cs_X1 kA a V_3) H := by rw [eV_3]; exact hP
    refine lv_aload_n hC.1 hC.2.1 dX1_add_19 rfl (lv_at hl 0 rfl) <| gfX1_15 hC hK hP (q0 := 0) rfl rfl dX1_add_20 <| lv_aload_n hC.1 hC.2.1 dX1_add_23 rfl (lv_at hl 0 rfl) <| gfX1_21 hC hK hP (q0 := 0) rfl rfl dX1_add_24 <| ziload_n hC.1 hC.2.1 dX1_add_27 rfl (lv_at hl 2 rfl) <| ?_
    obtain ⟨hz_4, hf⟩ := ck_some hf
    refine jas hC hK hP (hD V_3) hS (q0 := 2) rfl (Nat.le_of_ble_eq_true rfl) hz_4 rfl dX1_add_28 (fun H locs hP hS => ?_)
    obtain ⟨V_5, eV_5⟩ : ∃ y, y = uz V_3 2 (V_3 0 0).toNat x2 := ⟨_, rfl⟩
    have hf := nm_at hf eV_5
    have hP : va_P D vwCl (cs_X1 kA a V_5) H := by rw [eV_5]; exact hP
    refine lv_aload_n hC.1 hC.2.1 dX1_add_29 rfl (lv_at hl 0 rfl) <| gfX1_18 hC hK hP (q0 := 0) rfl rfl dX1_add_30 <| lv_aload_n hC.1 hC.2.1 dX1_add_33 rfl (lv_at hl 0 rfl) <| gfX1_21 hC hK hP (q0 := 0) rfl rfl dX1_add_34 <| ziload_n hC.1 hC.2.1 dX1_add_37 rfl (lv_at hl 3 rfl) <| ?_
    obtain ⟨hz_6, hf⟩ := ck_some hf
    refine jas hC hK hP (hD V_5) hS (q0 := 3) rfl (Nat.le_of_ble_eq_true rfl) hz_6 rfl dX1_add_38 (fun H locs hP hS => ?_)
    obtain ⟨V_7, eV_7⟩ : ∃ y, y = uz V_5 3 (V_5 0 0).toNat x3 := ⟨_, rfl⟩
    have hf := nm_at hf eV_7
    have hP : va_P D vwCl (cs_X1 kA a V_7) H := by rw [eV_7]; exact hP
    refine lv_aload_n hC.1 hC.2.1 dX1_add_39 rfl (lv_at hl 0 rfl) <| lv_dup hC.1 hC.2.1 dX1_add_40 rfl <| gfX1_21 hC hK hP (q0 := 0) rfl rfl dX1_add_41 <| ziconst hC.1 hC.2.1 dX1_add_44 <| ziadd hC.1 hC.2.1 dX1_add_45 <| ?_
    refine pfX1_21 hC hK hP (hD V_7) hS (q0 := 0) rfl (Nat.le_of_ble_eq_true rfl) dX1_add_46 (fun H locs hP hS => ?_)
    obtain ⟨V_8, eV_8⟩ : ∃ y, y = us V_7 0 ((V_7 0 0) + 1) := ⟨_, rfl⟩
    have hf := nm_at hf eV_8
    have hP : va_P D vwCl (cs_X1 kA a V_8) H := by rw [eV_8]; exact hP
    refine lv_aload_n hC.1 hC.2.1 dX1_add_49 rfl (lv_at hl 0 rfl) <| gfX1_21 hC hK hP (q0 := 0) rfl rfl dX1_add_50 <| ziconst hC.1 hC.2.1 dX1_add_53 <| zisub hC.1 hC.2.1 dX1_add_54 <| ?_
    have hf := Option.some.inj hf
    simp only [Prod.mk.injEq] at hf
    exact hret (Int32.ofInt ((V_8 0 0) - 1)) _ _ _ _ (congrArg (fun z => some (vI z)) hf.1.symm) (by rw [← hf.2]; exact hP) hS dX1_add_55
  · have hf := it_f hf hc
    refine ziconst hC.1 hC.2.1 dX1_add_7 <| ?_
    have hf := Option.some.inj hf
    simp only [Prod.mk.injEq] at hf
    exact hret (Int32.ofInt (-1)) _ _ _ _ (congrArg (fun z => some (vI z)) hf.1.symm) (by rw [← hf.2]; exact hP) hS dX1_add_8
theorem DX1_cutFrom_0 : ∀ q ∈ ([(0, .aload_n 0, 1), (1, .getfield 18, 3), (4, .iload_n 1, 1), (5, .aload_n 0, 1), (6, .getfield 18, 3), (9, .iload_n 1, 1), (10, .iaload, 1), (11, .iload_n 2, 1), (12, .iconst 1, 1), (13, .isub, 1), (14, .invokestatic 33, 3), (17, .iastore, 1), (18, .return_, 1)] : List (Nat × Instr × Nat)), decode cX1_cutFrom q.1 = .ok q.2 := by decide +kernel
theorem dX1_cutFrom_0 : decode cX1_cutFrom 0 = .ok (.aload_n 0, 1) := DX1_cutFrom_0 (0, .aload_n 0, 1) (List.mem_of_getElem? (i := 0) rfl)
theorem dX1_cutFrom_1 : decode cX1_cutFrom 1 = .ok (.getfield 18, 3) := DX1_cutFrom_0 (1, .getfield 18, 3) (List.mem_of_getElem? (i := 1) rfl)
theorem dX1_cutFrom_4 : decode cX1_cutFrom 4 = .ok (.iload_n 1, 1) := DX1_cutFrom_0 (4, .iload_n 1, 1) (List.mem_of_getElem? (i := 2) rfl)
theorem dX1_cutFrom_5 : decode cX1_cutFrom 5 = .ok (.aload_n 0, 1) := DX1_cutFrom_0 (5, .aload_n 0, 1) (List.mem_of_getElem? (i := 3) rfl)
theorem dX1_cutFrom_6 : decode cX1_cutFrom 6 = .ok (.getfield 18, 3) := DX1_cutFrom_0 (6, .getfield 18, 3) (List.mem_of_getElem? (i := 4) rfl)
theorem dX1_cutFrom_9 : decode cX1_cutFrom 9 = .ok (.iload_n 1, 1) := DX1_cutFrom_0 (9, .iload_n 1, 1) (List.mem_of_getElem? (i := 5) rfl)
theorem dX1_cutFrom_10 : decode cX1_cutFrom 10 = .ok (.iaload, 1) := DX1_cutFrom_0 (10, .iaload, 1) (List.mem_of_getElem? (i := 6) rfl)
theorem dX1_cutFrom_11 : decode cX1_cutFrom 11 = .ok (.iload_n 2, 1) := DX1_cutFrom_0 (11, .iload_n 2, 1) (List.mem_of_getElem? (i := 7) rfl)
theorem dX1_cutFrom_12 : decode cX1_cutFrom 12 = .ok (.iconst 1, 1) := DX1_cutFrom_0 (12, .iconst 1, 1) (List.mem_of_getElem? (i := 8) rfl)
theorem dX1_cutFrom_13 : decode cX1_cutFrom 13 = .ok (.isub, 1) := DX1_cutFrom_0 (13, .isub, 1) (List.mem_of_getElem? (i := 9) rfl)
theorem dX1_cutFrom_14 : decode cX1_cutFrom 14 = .ok (.invokestatic 33, 3) := DX1_cutFrom_0 (14, .invokestatic 33, 3) (List.mem_of_getElem? (i := 10) rfl)
theorem dX1_cutFrom_17 : decode cX1_cutFrom 17 = .ok (.iastore, 1) := DX1_cutFrom_0 (17, .iastore, 1) (List.mem_of_getElem? (i := 11) rfl)
theorem dX1_cutFrom_18 : decode cX1_cutFrom 18 = .ok (.return_, 1) := DX1_cutFrom_0 (18, .return_, 1) (List.mem_of_getElem? (i := 12) rfl)
abbrev rmX1_cutFrom : Room := { frames := 1, cells := 0, slots := 0, locals := 60 }
set_option maxHeartbeats 400000 in
set_option maxRecDepth 100000 in
theorem met_X1_cutFrom (l : Launch) (D : va_G) (kA : Nat → ClassId) (a : Nat → Nat) (V0 : Sz) (x1 : Int) (x2 : Int) (hDt : ∀ w : Sz, va_D (fun _ => True) (cs_X1 kA a w)) {Vr : Sz} (hf : f_X1_cutFrom V0 x1 x2 = some Vr) : MZ l yX1_cutFrom cX1_cutFrom 3 none rmX1_cutFrom D kA [.ref (a 0), vI x1, vI x2] (cs_X1 kA a V0) (cs_X1 kA a Vr) (none) := by
  refine zZV (own := RX1) rfl rfl (Nat.le_of_ble_eq_true rfl) ?_
  intro p e s m args below meth c ls Q hC hK hP hl hret
  have hl : lv_has ls 3 [(0, .ref (a 0)), (1, vI x1), (2, vI x2)] := hl
  have hS : va_S (zF (cs_X1 kA a V0)) s.heap s.heap [] := va_S.rf
  have hD := zDself (C := fun w : Sz => (cs_X1 kA a w)) hDt V0 (fun _ => rfl)
  try dsimp only at hD
  generalize hAe : zF (cs_X1 kA a V0) = A0 at hS hD hret
  unfold f_X1_cutFrom at hf
  refine lv_aload_n hC.1 hC.2.1 dX1_cutFrom_0 rfl (lv_at hl 0 rfl) <| gfX1_18 hC hK hP (q0 := 0) rfl rfl dX1_cutFrom_1 <| ziload_n hC.1 hC.2.1 dX1_cutFrom_4 rfl (lv_at hl 1 rfl) <| lv_aload_n hC.1 hC.2.1 dX1_cutFrom_5 rfl (lv_at hl 0 rfl) <| gfX1_18 hC hK hP (q0 := 0) rfl rfl dX1_cutFrom_6 <| ziload_n hC.1 hC.2.1 dX1_cutFrom_9 rfl (lv_at hl 1 rfl) <| ?_
  obtain ⟨hz_1, hf⟩ := ck_some hf
  refine jal hC hK hP (q0 := 3) rfl (Nat.le_of_ble_eq_true rfl) hz_1 rfl dX1_cutFrom_10 <| ziload_n hC.1 hC.2.1 dX1_cutFrom_11 rfl (lv_at hl 2 rfl) <| ziconst hC.1 hC.2.1 dX1_cutFrom_12 <| zisub hC.1 hC.2.1 dX1_cutFrom_13 <| ?_
  obtain ⟨hz_2, hf⟩ := ck_some hf
  refine jmin ⟨hz_2.1, hz_2.2⟩ hC qw_845 hl.1 (Nat.le_of_ble_eq_true rfl) ⟨Nat.le_of_ble_eq_true rfl, Nat.le_of_ble_eq_true rfl⟩ ⟨Nat.le_refl _, Nat.le_refl _⟩ dX1_cutFrom_14 <| ?_
  refine jas hC hK hP (hD V0) hS (q0 := 3) rfl (Nat.le_of_ble_eq_true rfl) hz_1 rfl dX1_cutFrom_17 (fun H locs hP hS => ?_)
  obtain ⟨V_3, eV_3⟩ : ∃ y, y = uz V0 3 x1.toNat (min (V0 3 x1.toNat) (x2 - 1)) := ⟨_, rfl⟩
  have hf := nm_at hf eV_3
  have hP : va_P D vwCl (cs_X1 kA a V_3) H := by rw [eV_3]; exact hP
  have hf := Option.some.inj hf
  exact hret _ _ _ _ rfl (by rw [← hf]; exact hP) hS dX1_cutFrom_18
theorem DX1_daysOf_0 : ∀ q ∈ ([(0, .iconst 0, 1), (1, .aload_n 0, 1), (2, .getfield 18, 3), (5, .iload_n 1, 1), (6, .iaload, 1), (7, .aload_n 0, 1), (8, .getfield 15, 3), (11, .iload_n 1, 1), (12, .iaload, 1), (13, .isub, 1), (14, .iconst 1, 1), (15, .iadd, 1), (16, .invokestatic 39, 3), (19, .ireturn, 1)] : List (Nat × Instr × Nat)), decode cX1_daysOf q.1 = .ok q.2 := by decide +kernel
theorem dX1_daysOf_0 : decode cX1_daysOf 0 = .ok (.iconst 0, 1) := DX1_daysOf_0 (0, .iconst 0, 1) (List.mem_of_getElem? (i := 0) rfl)
theorem dX1_daysOf_1 : decode cX1_daysOf 1 = .ok (.aload_n 0, 1) := DX1_daysOf_0 (1, .aload_n 0, 1) (List.mem_of_getElem? (i := 1) rfl)
theorem dX1_daysOf_2 : decode cX1_daysOf 2 = .ok (.getfield 18, 3) := DX1_daysOf_0 (2, .getfield 18, 3) (List.mem_of_getElem? (i := 2) rfl)
theorem dX1_daysOf_5 : decode cX1_daysOf 5 = .ok (.iload_n 1, 1) := DX1_daysOf_0 (5, .iload_n 1, 1) (List.mem_of_getElem? (i := 3) rfl)
theorem dX1_daysOf_6 : decode cX1_daysOf 6 = .ok (.iaload, 1) := DX1_daysOf_0 (6, .iaload, 1) (List.mem_of_getElem? (i := 4) rfl)
theorem dX1_daysOf_7 : decode cX1_daysOf 7 = .ok (.aload_n 0, 1) := DX1_daysOf_0 (7, .aload_n 0, 1) (List.mem_of_getElem? (i := 5) rfl)
theorem dX1_daysOf_8 : decode cX1_daysOf 8 = .ok (.getfield 15, 3) := DX1_daysOf_0 (8, .getfield 15, 3) (List.mem_of_getElem? (i := 6) rfl)
theorem dX1_daysOf_11 : decode cX1_daysOf 11 = .ok (.iload_n 1, 1) := DX1_daysOf_0 (11, .iload_n 1, 1) (List.mem_of_getElem? (i := 7) rfl)
theorem dX1_daysOf_12 : decode cX1_daysOf 12 = .ok (.iaload, 1) := DX1_daysOf_0 (12, .iaload, 1) (List.mem_of_getElem? (i := 8) rfl)
theorem dX1_daysOf_13 : decode cX1_daysOf 13 = .ok (.isub, 1) := DX1_daysOf_0 (13, .isub, 1) (List.mem_of_getElem? (i := 9) rfl)
theorem dX1_daysOf_14 : decode cX1_daysOf 14 = .ok (.iconst 1, 1) := DX1_daysOf_0 (14, .iconst 1, 1) (List.mem_of_getElem? (i := 10) rfl)
theorem dX1_daysOf_15 : decode cX1_daysOf 15 = .ok (.iadd, 1) := DX1_daysOf_0 (15, .iadd, 1) (List.mem_of_getElem? (i := 11) rfl)
theorem dX1_daysOf_16 : decode cX1_daysOf 16 = .ok (.invokestatic 39, 3) := DX1_daysOf_0 (16, .invokestatic 39, 3) (List.mem_of_getElem? (i := 12) rfl)
theorem dX1_daysOf_19 : decode cX1_daysOf 19 = .ok (.ireturn, 1) := DX1_daysOf_0 (19, .ireturn, 1) (List.mem_of_getElem? (i := 13) rfl)
abbrev rmX1_daysOf : Room := { frames := 1, cells := 0, slots := 0, locals := 60 }
set_option maxHeartbeats 400000 in
set_option maxRecDepth 100000 in
theorem met_X1_daysOf (l : Launch) (D : va_G) (kA : Nat → ClassId) (a : Nat → Nat) (V : Sz) (x1 : Int) {r : Int} (hf : f_X1_daysOf V x1 = some r) : MP l yX1_daysOf cX1_daysOf 2 (some .int) rmX1_daysOf D kA [.ref (a 0), vI x1] (cs_X1 kA a V) (some (vI r)) := by
  refine zPI (own := RX1) rfl rfl (Nat.le_of_ble_eq_true rfl) ?_
  intro p e s m args below meth c ls Q hC hK hP hl hret
  have hl : lv_has ls 2 [(0, .ref (a 0)), (1, vI x1)] := hl
  unfold f_X1_daysOf at hf
  refine ziconst hC.1 hC.2.1 dX1_daysOf_0 <| lv_aload_n hC.1 hC.2.1 dX1_daysOf_1 rfl (lv_at hl 0 rfl) <| gfX1_18 hC hK hP (q0 := 0) rfl rfl dX1_daysOf_2 <| ziload_n hC.1 hC.2.1 dX1_daysOf_5 rfl (lv_at hl 1 rfl) <| ?_
  obtain ⟨hz_1, hf⟩ := ck_some hf
  refine jal hC hK hP (q0 := 3) rfl (Nat.le_of_ble_eq_true rfl) hz_1 rfl dX1_daysOf_6 <| lv_aload_n hC.1 hC.2.1 dX1_daysOf_7 rfl (lv_at hl 0 rfl) <| gfX1_15 hC hK hP (q0 := 0) rfl rfl dX1_daysOf_8 <| ziload_n hC.1 hC.2.1 dX1_daysOf_11 rfl (lv_at hl 1 rfl) <| jal hC hK hP (q0 := 2) rfl (Nat.le_of_ble_eq_true rfl) hz_1 rfl dX1_daysOf_12 <| zisub hC.1 hC.2.1 dX1_daysOf_13 <| ziconst hC.1 hC.2.1 dX1_daysOf_14 <| ziadd hC.1 hC.2.1 dX1_daysOf_15 <| ?_
  obtain ⟨hz_2, hf⟩ := ck_some hf
  exact jmax ⟨(by decide), hz_2⟩ hC qw_751 hl.1 (Nat.le_of_ble_eq_true rfl) ⟨Nat.le_of_ble_eq_true rfl, Nat.le_of_ble_eq_true rfl⟩ ⟨Nat.le_refl _, Nat.le_refl _⟩ dX1_daysOf_16 <| hret (Int32.ofInt (max 0 (((V 3 x1.toNat) - (V 2 x1.toNat)) + 1))) _ _ (qI hf) dX1_daysOf_19
theorem DX1_isOn_0 : ∀ q ∈ ([(0, .aload_n 0, 1), (1, .getfield 9, 3), (4, .iload_n 1, 1), (5, .iaload, 1), (6, .iload_n 2, 1), (7, .if_icmp .ne 27, 3), (10, .aload_n 0, 1), (11, .getfield 15, 3), (14, .iload_n 1, 1), (15, .iaload, 1), (16, .iload_n 3, 1), (17, .if_icmp .gt 17, 3), (20, .iload_n 3, 1), (21, .aload_n 0, 1), (22, .getfield 18, 3), (25, .iload_n 1, 1), (26, .iaload, 1), (27, .if_icmp .gt 7, 3), (30, .iconst 1, 1), (31, .goto 4, 3), (34, .iconst 0, 1), (35, .ireturn, 1)] : List (Nat × Instr × Nat)), decode cX1_isOn q.1 = .ok q.2 := by decide +kernel
theorem dX1_isOn_0 : decode cX1_isOn 0 = .ok (.aload_n 0, 1) := DX1_isOn_0 (0, .aload_n 0, 1) (List.mem_of_getElem? (i := 0) rfl)
theorem dX1_isOn_1 : decode cX1_isOn 1 = .ok (.getfield 9, 3) := DX1_isOn_0 (1, .getfield 9, 3) (List.mem_of_getElem? (i := 1) rfl)
theorem dX1_isOn_4 : decode cX1_isOn 4 = .ok (.iload_n 1, 1) := DX1_isOn_0 (4, .iload_n 1, 1) (List.mem_of_getElem? (i := 2) rfl)
theorem dX1_isOn_5 : decode cX1_isOn 5 = .ok (.iaload, 1) := DX1_isOn_0 (5, .iaload, 1) (List.mem_of_getElem? (i := 3) rfl)
theorem dX1_isOn_6 : decode cX1_isOn 6 = .ok (.iload_n 2, 1) := DX1_isOn_0 (6, .iload_n 2, 1) (List.mem_of_getElem? (i := 4) rfl)
theorem dX1_isOn_7 : decode cX1_isOn 7 = .ok (.if_icmp .ne 27, 3) := DX1_isOn_0 (7, .if_icmp .ne 27, 3) (List.mem_of_getElem? (i := 5) rfl)
theorem dX1_isOn_10 : decode cX1_isOn 10 = .ok (.aload_n 0, 1) := DX1_isOn_0 (10, .aload_n 0, 1) (List.mem_of_getElem? (i := 6) rfl)
theorem dX1_isOn_11 : decode cX1_isOn 11 = .ok (.getfield 15, 3) := DX1_isOn_0 (11, .getfield 15, 3) (List.mem_of_getElem? (i := 7) rfl)
theorem dX1_isOn_14 : decode cX1_isOn 14 = .ok (.iload_n 1, 1) := DX1_isOn_0 (14, .iload_n 1, 1) (List.mem_of_getElem? (i := 8) rfl)
theorem dX1_isOn_15 : decode cX1_isOn 15 = .ok (.iaload, 1) := DX1_isOn_0 (15, .iaload, 1) (List.mem_of_getElem? (i := 9) rfl)
theorem dX1_isOn_16 : decode cX1_isOn 16 = .ok (.iload_n 3, 1) := DX1_isOn_0 (16, .iload_n 3, 1) (List.mem_of_getElem? (i := 10) rfl)
theorem dX1_isOn_17 : decode cX1_isOn 17 = .ok (.if_icmp .gt 17, 3) := DX1_isOn_0 (17, .if_icmp .gt 17, 3) (List.mem_of_getElem? (i := 11) rfl)
theorem dX1_isOn_20 : decode cX1_isOn 20 = .ok (.iload_n 3, 1) := DX1_isOn_0 (20, .iload_n 3, 1) (List.mem_of_getElem? (i := 12) rfl)
theorem dX1_isOn_21 : decode cX1_isOn 21 = .ok (.aload_n 0, 1) := DX1_isOn_0 (21, .aload_n 0, 1) (List.mem_of_getElem? (i := 13) rfl)
theorem dX1_isOn_22 : decode cX1_isOn 22 = .ok (.getfield 18, 3) := DX1_isOn_0 (22, .getfield 18, 3) (List.mem_of_getElem? (i := 14) rfl)
theorem dX1_isOn_25 : decode cX1_isOn 25 = .ok (.iload_n 1, 1) := DX1_isOn_0 (25, .iload_n 1, 1) (List.mem_of_getElem? (i := 15) rfl)
theorem dX1_isOn_26 : decode cX1_isOn 26 = .ok (.iaload, 1) := DX1_isOn_0 (26, .iaload, 1) (List.mem_of_getElem? (i := 16) rfl)
theorem dX1_isOn_27 : decode cX1_isOn 27 = .ok (.if_icmp .gt 7, 3) := DX1_isOn_0 (27, .if_icmp .gt 7, 3) (List.mem_of_getElem? (i := 17) rfl)
theorem dX1_isOn_30 : decode cX1_isOn 30 = .ok (.iconst 1, 1) := DX1_isOn_0 (30, .iconst 1, 1) (List.mem_of_getElem? (i := 18) rfl)
theorem dX1_isOn_31 : decode cX1_isOn 31 = .ok (.goto 4, 3) := DX1_isOn_0 (31, .goto 4, 3) (List.mem_of_getElem? (i := 19) rfl)
theorem dX1_isOn_34 : decode cX1_isOn 34 = .ok (.iconst 0, 1) := DX1_isOn_0 (34, .iconst 0, 1) (List.mem_of_getElem? (i := 20) rfl)
theorem dX1_isOn_35 : decode cX1_isOn 35 = .ok (.ireturn, 1) := DX1_isOn_0 (35, .ireturn, 1) (List.mem_of_getElem? (i := 21) rfl)
abbrev rmX1_isOn : Room := { frames := 0, cells := 0, slots := 0, locals := 0 }
set_option maxHeartbeats 400000 in
set_option maxRecDepth 100000 in
theorem met_X1_isOn (l : Launch) (D : va_G) (kA : Nat → ClassId) (a : Nat → Nat) (V : Sz) (x1 : Int) (x2 : Int) (x3 : Int) {r : Bool} (hf : f_X1_isOn V x1 x2 x3 = some r) : MP l yX1_isOn cX1_isOn 4 (some .boolean) rmX1_isOn D kA [.ref (a 0), vI x1, vI x2, vI x3] (cs_X1 kA a V) (some (vI (bI r))) := by
  refine zPZ (own := RX1) rfl rfl (Nat.le_of_ble_eq_true rfl) ?_
  intro p e s m args below meth c ls Q hC hK hP hl hret
  have hl : lv_has ls 4 [(0, .ref (a 0)), (1, vI x1), (2, vI x2), (3, vI x3)] := hl
  unfold f_X1_isOn at hf
  refine lv_aload_n hC.1 hC.2.1 dX1_isOn_0 rfl (lv_at hl 0 rfl) <| gfX1_9 hC hK hP (q0 := 0) rfl rfl dX1_isOn_1 <| ziload_n hC.1 hC.2.1 dX1_isOn_4 rfl (lv_at hl 1 rfl) <| ?_
  obtain ⟨hz_1, hf⟩ := ck_some hf
  refine jal hC hK hP (q0 := 1) rfl (Nat.le_of_ble_eq_true rfl) hz_1 rfl dX1_isOn_5 <| ziload_n hC.1 hC.2.1 dX1_isOn_6 rfl (lv_at hl 2 rfl) <| ?_
  obtain ⟨hz_2, hf⟩ := ck_some hf
  refine zicmp_ne (tgt := 34) hC.1 hC.2.1 ⟨hz_2.1, hz_2.2⟩ dX1_isOn_7 (by decide) (fun hc => ?_) (fun hc => ?_)
  · have hf := it_f hf hc
    exact ziconst hC.1 hC.2.1 dX1_isOn_34 <| hret (Int32.ofInt (bI false)) _ _ (zb01 _) (qZ hf) dX1_isOn_35
  · have hf := it_t hf hc
    refine lv_aload_n hC.1 hC.2.1 dX1_isOn_10 rfl (lv_at hl 0 rfl) <| gfX1_15 hC hK hP (q0 := 0) rfl rfl dX1_isOn_11 <| ziload_n hC.1 hC.2.1 dX1_isOn_14 rfl (lv_at hl 1 rfl) <| jal hC hK hP (q0 := 2) rfl (Nat.le_of_ble_eq_true rfl) hz_1 rfl dX1_isOn_15 <| ziload_n hC.1 hC.2.1 dX1_isOn_16 rfl (lv_at hl 3 rfl) <| ?_
    obtain ⟨hz_3, hf⟩ := ck_some hf
    refine zicmp_gt (tgt := 34) hC.1 hC.2.1 ⟨hz_3.1, hz_3.2⟩ dX1_isOn_17 (by decide) (fun hc => ?_) (fun hc => ?_)
    · have hf := it_t hf hc
      exact ziconst hC.1 hC.2.1 dX1_isOn_34 <| hret (Int32.ofInt (bI false)) _ _ (zb01 _) (qZ hf) dX1_isOn_35
    · have hf := it_f hf hc
      refine ziload_n hC.1 hC.2.1 dX1_isOn_20 rfl (lv_at hl 3 rfl) <| lv_aload_n hC.1 hC.2.1 dX1_isOn_21 rfl (lv_at hl 0 rfl) <| gfX1_18 hC hK hP (q0 := 0) rfl rfl dX1_isOn_22 <| ziload_n hC.1 hC.2.1 dX1_isOn_25 rfl (lv_at hl 1 rfl) <| jal hC hK hP (q0 := 3) rfl (Nat.le_of_ble_eq_true rfl) hz_1 rfl dX1_isOn_26 <| ?_
      obtain ⟨hz_4, hf⟩ := ck_some hf
      refine zicmp_gt (tgt := 34) hC.1 hC.2.1 ⟨hz_3.2, hz_4⟩ dX1_isOn_27 (by decide) (fun hc => ?_) (fun hc => ?_)
      · have hf := it_t hf hc
        exact ziconst hC.1 hC.2.1 dX1_isOn_34 <| hret (Int32.ofInt (bI false)) _ _ (zb01 _) (qZ hf) dX1_isOn_35
      · have hf := it_f hf hc
        exact ziconst hC.1 hC.2.1 dX1_isOn_30 <| lv_goto (tgt := 35) hC.1 hC.2.1 dX1_isOn_31 (by decide) <| hret (Int32.ofInt (bI true)) _ _ (zb01 _) (qZ hf) dX1_isOn_35
theorem DX1_covers_0 : ∀ q ∈ ([(0, .iconst 0, 1), (1, .istore_n 3, 1), (2, .iload_n 3, 1), (3, .aload_n 0, 1), (4, .getfield 21, 3), (7, .if_icmp .ge 21, 3), (10, .aload_n 0, 1), (11, .iload_n 3, 1), (12, .iload_n 1, 1), (13, .iload_n 2, 1), (14, .invokevirtual 42, 3), (17, .ifCond .eq 5, 3), (20, .iconst 1, 1), (21, .ireturn, 1), (22, .iinc 3 1, 3), (25, .goto (-23), 3), (28, .iconst 0, 1), (29, .ireturn, 1)] : List (Nat × Instr × Nat)), decode cX1_covers q.1 = .ok q.2 := by decide +kernel
theorem dX1_covers_0 : decode cX1_covers 0 = .ok (.iconst 0, 1) := DX1_covers_0 (0, .iconst 0, 1) (List.mem_of_getElem? (i := 0) rfl)
theorem dX1_covers_1 : decode cX1_covers 1 = .ok (.istore_n 3, 1) := DX1_covers_0 (1, .istore_n 3, 1) (List.mem_of_getElem? (i := 1) rfl)
theorem dX1_covers_2 : decode cX1_covers 2 = .ok (.iload_n 3, 1) := DX1_covers_0 (2, .iload_n 3, 1) (List.mem_of_getElem? (i := 2) rfl)
theorem dX1_covers_3 : decode cX1_covers 3 = .ok (.aload_n 0, 1) := DX1_covers_0 (3, .aload_n 0, 1) (List.mem_of_getElem? (i := 3) rfl)
theorem dX1_covers_4 : decode cX1_covers 4 = .ok (.getfield 21, 3) := DX1_covers_0 (4, .getfield 21, 3) (List.mem_of_getElem? (i := 4) rfl)
theorem dX1_covers_7 : decode cX1_covers 7 = .ok (.if_icmp .ge 21, 3) := DX1_covers_0 (7, .if_icmp .ge 21, 3) (List.mem_of_getElem? (i := 5) rfl)
theorem dX1_covers_10 : decode cX1_covers 10 = .ok (.aload_n 0, 1) := DX1_covers_0 (10, .aload_n 0, 1) (List.mem_of_getElem? (i := 6) rfl)
theorem dX1_covers_11 : decode cX1_covers 11 = .ok (.iload_n 3, 1) := DX1_covers_0 (11, .iload_n 3, 1) (List.mem_of_getElem? (i := 7) rfl)
theorem dX1_covers_12 : decode cX1_covers 12 = .ok (.iload_n 1, 1) := DX1_covers_0 (12, .iload_n 1, 1) (List.mem_of_getElem? (i := 8) rfl)
theorem dX1_covers_13 : decode cX1_covers 13 = .ok (.iload_n 2, 1) := DX1_covers_0 (13, .iload_n 2, 1) (List.mem_of_getElem? (i := 9) rfl)
theorem dX1_covers_14 : decode cX1_covers 14 = .ok (.invokevirtual 42, 3) := DX1_covers_0 (14, .invokevirtual 42, 3) (List.mem_of_getElem? (i := 10) rfl)
theorem dX1_covers_17 : decode cX1_covers 17 = .ok (.ifCond .eq 5, 3) := DX1_covers_0 (17, .ifCond .eq 5, 3) (List.mem_of_getElem? (i := 11) rfl)
theorem dX1_covers_20 : decode cX1_covers 20 = .ok (.iconst 1, 1) := DX1_covers_0 (20, .iconst 1, 1) (List.mem_of_getElem? (i := 12) rfl)
theorem dX1_covers_21 : decode cX1_covers 21 = .ok (.ireturn, 1) := DX1_covers_0 (21, .ireturn, 1) (List.mem_of_getElem? (i := 13) rfl)
theorem dX1_covers_22 : decode cX1_covers 22 = .ok (.iinc 3 1, 3) := DX1_covers_0 (22, .iinc 3 1, 3) (List.mem_of_getElem? (i := 14) rfl)
theorem dX1_covers_25 : decode cX1_covers 25 = .ok (.goto (-23), 3) := DX1_covers_0 (25, .goto (-23), 3) (List.mem_of_getElem? (i := 15) rfl)
theorem dX1_covers_28 : decode cX1_covers 28 = .ok (.iconst 0, 1) := DX1_covers_0 (28, .iconst 0, 1) (List.mem_of_getElem? (i := 16) rfl)
theorem dX1_covers_29 : decode cX1_covers 29 = .ok (.ireturn, 1) := DX1_covers_0 (29, .ireturn, 1) (List.mem_of_getElem? (i := 17) rfl)
abbrev rmX1_covers : Room := { frames := 1, cells := 0, slots := 0, locals := 23 }
set_option maxHeartbeats 400000 in
set_option maxRecDepth 100000 in
theorem met_X1_covers (l : Launch) (D : va_G) (kA : Nat → ClassId) (a : Nat → Nat) (n : Nat) (V : Sz) (x1 : Int) (x2 : Int) {r : Bool} (hf : f_X1_covers n V x1 x2 = some r) : MP l yX1_covers cX1_covers 4 (some .boolean) rmX1_covers D kA [.ref (a 0), vI x1, vI x2] (cs_X1 kA a V) (some (vI (bI r))) := by
  refine zPZ (own := RX1) rfl rfl (Nat.le_of_ble_eq_true rfl) ?_
  intro p e s m args below meth c ls Q hC hK hP hl hret
  have hl : lv_has ls 4 [(0, .ref (a 0)), (1, vI x1), (2, vI x2)] := hl
  unfold f_X1_covers at hf
  have L2 : ∀ (k2 : Nat) (y3 : Int) (ls : Array Slot), lpF (bX1_covers_2 n V x1 x2) k2 y3 = some r → lv_has ls 4 [(0, .ref (a 0)), (1, vI x1), (2, vI x2), (3, vI y3)] → W p l e rmX1_covers s m args below meth c s.heap [] 0 0 Q (F0 m 2 ls []) := by
    intro k2
    induction k2 with
    | zero => intro y3 ls hf hl; exact lp_0 hf
    | succ k2 ih2 =>
      intro y3 ls hf hl
      have hf := lp_s hf
      rw [bX1_covers_2_e] at hf
      refine ziload_n hC.1 hC.2.1 dX1_covers_2 rfl (lv_at hl 3 rfl) <| lv_aload_n hC.1 hC.2.1 dX1_covers_3 rfl (lv_at hl 0 rfl) <| gfX1_21 hC hK hP (q0 := 0) rfl rfl dX1_covers_4 <| ?_
      obtain ⟨hz_1, hf⟩ := ck_some hf
      refine zicmp_ge (tgt := 28) hC.1 hC.2.1 ⟨hz_1.1, hz_1.2⟩ dX1_covers_7 (by decide) (fun hc => ?_) (fun hc => ?_)
      · have hf := it_t hf hc
        exact ziconst hC.1 hC.2.1 dX1_covers_28 <| hret (Int32.ofInt (bI false)) _ _ (zb01 _) (qZ hf) dX1_covers_29
      · have hf := it_f hf hc
        refine lv_aload_n hC.1 hC.2.1 dX1_covers_10 rfl (lv_at hl 0 rfl) <| ziload_n hC.1 hC.2.1 dX1_covers_11 rfl (lv_at hl 3 rfl) <| ziload_n hC.1 hC.2.1 dX1_covers_12 rfl (lv_at hl 1 rfl) <| ziload_n hC.1 hC.2.1 dX1_covers_13 rfl (lv_at hl 2 rfl) <| ?_
        obtain ⟨r_2, hu, hf⟩ := bd_some hf
        refine zcVP (As := [vI y3, vI x1, vI x2]) (rest := []) hC hK (met_X1_isOn l D kA a V y3 x1 x2 hu) zwX1_42 hP (q0 := 0) rfl rfl rfl rfl hl.1 rfl (Nat.le_of_ble_eq_true rfl) ⟨Nat.le_of_ble_eq_true rfl, Nat.le_of_ble_eq_true rfl⟩ ⟨rfl, rfl⟩ ⟨Nat.le_refl _, Nat.le_refl _⟩ dX1_covers_14 <| zifb_eq (tgt := 22) hC.1 hC.2.1 dX1_covers_17 (by decide) (fun hc => ?_) (fun hc => ?_)
        · have hf := it_t hf hc
          obtain ⟨x_3, ex_3⟩ : ∃ y : Int, y = y3 + 1 := ⟨_, rfl⟩
          have hf := nm_at hf ex_3
          refine ziinc (v := x_3) (lv' := [(3, vI x_3), (0, .ref (a 0)), (1, vI x1), (2, vI x2)]) hC.1 hC.2.1 dX1_covers_22 hl (k := 3) rfl ex_3 (by decide) rfl (fun ls hl => ?_)
          exact lv_goto (tgt := 2) hC.1 hC.2.1 dX1_covers_25 (by decide) <| ih2 _ _ hf (lv_sub hl [1, 2, 3, 0] rfl)
        · have hf := it_f hf hc
          exact ziconst hC.1 hC.2.1 dX1_covers_20 <| hret (Int32.ofInt (bI true)) _ _ (zb01 _) (qZ hf) dX1_covers_21
  refine ziconst hC.1 hC.2.1 dX1_covers_0 <| zistore_n (lv' := [(3, vI 0), (0, .ref (a 0)), (1, vI x1), (2, vI x2)]) hC.1 hC.2.1 dX1_covers_1 rfl hl (by decide) rfl (fun ls hl => ?_)
  exact L2 n _ _ hf (lv_sub hl [1, 2, 3, 0] rfl)
theorem DX1_openFrom_0 : ∀ q ∈ ([(0, .iload_n 2, 1), (1, .istore 4, 2), (3, .iconst 1, 1), (4, .istore 5, 2), (6, .iconst 0, 1), (7, .istore 6, 2), (9, .iload 6, 2), (11, .aload_n 0, 1), (12, .getfield 21, 3), (15, .if_icmp .ge 67, 3), (18, .iload 5, 2), (20, .ifCond .eq 62, 3), (23, .iconst 0, 1), (24, .istore 5, 2), (26, .iconst 0, 1), (27, .istore 7, 2), (29, .iload 7, 2), (31, .aload_n 0, 1), (32, .getfield 21, 3), (35, .if_icmp .ge 41, 3), (38, .iload 7, 2), (40, .iload_n 3, 1), (41, .if_icmp .eq 29, 3), (44, .aload_n 0, 1), (45, .iload 7, 2), (47, .iload_n 1, 1), (48, .iload 4, 2), (50, .invokevirtual 42, 3), (53, .ifCond .eq 17, 3), (56, .aload_n 0, 1), (57, .getfield 18, 3), (60, .iload 7, 2), (62, .iaload, 1), (63, .iconst 1, 1), (64, .iadd, 1), (65, .istore 4, 2), (67, .iconst 1, 1), (68, .istore 5, 2), (70, .iinc 7 1, 3), (73, .goto (-44), 3)] : List (Nat × Instr × Nat)), decode cX1_openFrom q.1 = .ok q.2 := by decide +kernel
theorem dX1_openFrom_0 : decode cX1_openFrom 0 = .ok (.iload_n 2, 1) := DX1_openFrom_0 (0, .iload_n 2, 1) (List.mem_of_getElem? (i := 0) rfl)
theorem dX1_openFrom_1 : decode cX1_openFrom 1 = .ok (.istore 4, 2) := DX1_openFrom_0 (1, .istore 4, 2) (List.mem_of_getElem? (i := 1) rfl)
theorem dX1_openFrom_3 : decode cX1_openFrom 3 = .ok (.iconst 1, 1) := DX1_openFrom_0 (3, .iconst 1, 1) (List.mem_of_getElem? (i := 2) rfl)
theorem dX1_openFrom_4 : decode cX1_openFrom 4 = .ok (.istore 5, 2) := DX1_openFrom_0 (4, .istore 5, 2) (List.mem_of_getElem? (i := 3) rfl)
theorem dX1_openFrom_6 : decode cX1_openFrom 6 = .ok (.iconst 0, 1) := DX1_openFrom_0 (6, .iconst 0, 1) (List.mem_of_getElem? (i := 4) rfl)
theorem dX1_openFrom_7 : decode cX1_openFrom 7 = .ok (.istore 6, 2) := DX1_openFrom_0 (7, .istore 6, 2) (List.mem_of_getElem? (i := 5) rfl)
theorem dX1_openFrom_9 : decode cX1_openFrom 9 = .ok (.iload 6, 2) := DX1_openFrom_0 (9, .iload 6, 2) (List.mem_of_getElem? (i := 6) rfl)
theorem dX1_openFrom_11 : decode cX1_openFrom 11 = .ok (.aload_n 0, 1) := DX1_openFrom_0 (11, .aload_n 0, 1) (List.mem_of_getElem? (i := 7) rfl)
theorem dX1_openFrom_12 : decode cX1_openFrom 12 = .ok (.getfield 21, 3) := DX1_openFrom_0 (12, .getfield 21, 3) (List.mem_of_getElem? (i := 8) rfl)
theorem dX1_openFrom_15 : decode cX1_openFrom 15 = .ok (.if_icmp .ge 67, 3) := DX1_openFrom_0 (15, .if_icmp .ge 67, 3) (List.mem_of_getElem? (i := 9) rfl)
theorem dX1_openFrom_18 : decode cX1_openFrom 18 = .ok (.iload 5, 2) := DX1_openFrom_0 (18, .iload 5, 2) (List.mem_of_getElem? (i := 10) rfl)
theorem dX1_openFrom_20 : decode cX1_openFrom 20 = .ok (.ifCond .eq 62, 3) := DX1_openFrom_0 (20, .ifCond .eq 62, 3) (List.mem_of_getElem? (i := 11) rfl)
theorem dX1_openFrom_23 : decode cX1_openFrom 23 = .ok (.iconst 0, 1) := DX1_openFrom_0 (23, .iconst 0, 1) (List.mem_of_getElem? (i := 12) rfl)
theorem dX1_openFrom_24 : decode cX1_openFrom 24 = .ok (.istore 5, 2) := DX1_openFrom_0 (24, .istore 5, 2) (List.mem_of_getElem? (i := 13) rfl)
theorem dX1_openFrom_26 : decode cX1_openFrom 26 = .ok (.iconst 0, 1) := DX1_openFrom_0 (26, .iconst 0, 1) (List.mem_of_getElem? (i := 14) rfl)
theorem dX1_openFrom_27 : decode cX1_openFrom 27 = .ok (.istore 7, 2) := DX1_openFrom_0 (27, .istore 7, 2) (List.mem_of_getElem? (i := 15) rfl)
theorem dX1_openFrom_29 : decode cX1_openFrom 29 = .ok (.iload 7, 2) := DX1_openFrom_0 (29, .iload 7, 2) (List.mem_of_getElem? (i := 16) rfl)
theorem dX1_openFrom_31 : decode cX1_openFrom 31 = .ok (.aload_n 0, 1) := DX1_openFrom_0 (31, .aload_n 0, 1) (List.mem_of_getElem? (i := 17) rfl)
theorem dX1_openFrom_32 : decode cX1_openFrom 32 = .ok (.getfield 21, 3) := DX1_openFrom_0 (32, .getfield 21, 3) (List.mem_of_getElem? (i := 18) rfl)
theorem dX1_openFrom_35 : decode cX1_openFrom 35 = .ok (.if_icmp .ge 41, 3) := DX1_openFrom_0 (35, .if_icmp .ge 41, 3) (List.mem_of_getElem? (i := 19) rfl)
theorem dX1_openFrom_38 : decode cX1_openFrom 38 = .ok (.iload 7, 2) := DX1_openFrom_0 (38, .iload 7, 2) (List.mem_of_getElem? (i := 20) rfl)
theorem dX1_openFrom_40 : decode cX1_openFrom 40 = .ok (.iload_n 3, 1) := DX1_openFrom_0 (40, .iload_n 3, 1) (List.mem_of_getElem? (i := 21) rfl)
theorem dX1_openFrom_41 : decode cX1_openFrom 41 = .ok (.if_icmp .eq 29, 3) := DX1_openFrom_0 (41, .if_icmp .eq 29, 3) (List.mem_of_getElem? (i := 22) rfl)
theorem dX1_openFrom_44 : decode cX1_openFrom 44 = .ok (.aload_n 0, 1) := DX1_openFrom_0 (44, .aload_n 0, 1) (List.mem_of_getElem? (i := 23) rfl)
theorem dX1_openFrom_45 : decode cX1_openFrom 45 = .ok (.iload 7, 2) := DX1_openFrom_0 (45, .iload 7, 2) (List.mem_of_getElem? (i := 24) rfl)
theorem dX1_openFrom_47 : decode cX1_openFrom 47 = .ok (.iload_n 1, 1) := DX1_openFrom_0 (47, .iload_n 1, 1) (List.mem_of_getElem? (i := 25) rfl)
theorem dX1_openFrom_48 : decode cX1_openFrom 48 = .ok (.iload 4, 2) := DX1_openFrom_0 (48, .iload 4, 2) (List.mem_of_getElem? (i := 26) rfl)
theorem dX1_openFrom_50 : decode cX1_openFrom 50 = .ok (.invokevirtual 42, 3) := DX1_openFrom_0 (50, .invokevirtual 42, 3) (List.mem_of_getElem? (i := 27) rfl)
theorem dX1_openFrom_53 : decode cX1_openFrom 53 = .ok (.ifCond .eq 17, 3) := DX1_openFrom_0 (53, .ifCond .eq 17, 3) (List.mem_of_getElem? (i := 28) rfl)
theorem dX1_openFrom_56 : decode cX1_openFrom 56 = .ok (.aload_n 0, 1) := DX1_openFrom_0 (56, .aload_n 0, 1) (List.mem_of_getElem? (i := 29) rfl)
theorem dX1_openFrom_57 : decode cX1_openFrom 57 = .ok (.getfield 18, 3) := DX1_openFrom_0 (57, .getfield 18, 3) (List.mem_of_getElem? (i := 30) rfl)
theorem dX1_openFrom_60 : decode cX1_openFrom 60 = .ok (.iload 7, 2) := DX1_openFrom_0 (60, .iload 7, 2) (List.mem_of_getElem? (i := 31) rfl)
theorem dX1_openFrom_62 : decode cX1_openFrom 62 = .ok (.iaload, 1) := DX1_openFrom_0 (62, .iaload, 1) (List.mem_of_getElem? (i := 32) rfl)
theorem dX1_openFrom_63 : decode cX1_openFrom 63 = .ok (.iconst 1, 1) := DX1_openFrom_0 (63, .iconst 1, 1) (List.mem_of_getElem? (i := 33) rfl)
theorem dX1_openFrom_64 : decode cX1_openFrom 64 = .ok (.iadd, 1) := DX1_openFrom_0 (64, .iadd, 1) (List.mem_of_getElem? (i := 34) rfl)
theorem dX1_openFrom_65 : decode cX1_openFrom 65 = .ok (.istore 4, 2) := DX1_openFrom_0 (65, .istore 4, 2) (List.mem_of_getElem? (i := 35) rfl)
theorem dX1_openFrom_67 : decode cX1_openFrom 67 = .ok (.iconst 1, 1) := DX1_openFrom_0 (67, .iconst 1, 1) (List.mem_of_getElem? (i := 36) rfl)
theorem dX1_openFrom_68 : decode cX1_openFrom 68 = .ok (.istore 5, 2) := DX1_openFrom_0 (68, .istore 5, 2) (List.mem_of_getElem? (i := 37) rfl)
theorem dX1_openFrom_70 : decode cX1_openFrom 70 = .ok (.iinc 7 1, 3) := DX1_openFrom_0 (70, .iinc 7 1, 3) (List.mem_of_getElem? (i := 38) rfl)
theorem dX1_openFrom_73 : decode cX1_openFrom 73 = .ok (.goto (-44), 3) := DX1_openFrom_0 (73, .goto (-44), 3) (List.mem_of_getElem? (i := 39) rfl)
theorem DX1_openFrom_1 : ∀ q ∈ ([(76, .iinc 6 1, 3), (79, .goto (-70), 3), (82, .iload 4, 2), (84, .ireturn, 1)] : List (Nat × Instr × Nat)), decode cX1_openFrom q.1 = .ok q.2 := by decide +kernel
theorem dX1_openFrom_76 : decode cX1_openFrom 76 = .ok (.iinc 6 1, 3) := DX1_openFrom_1 (76, .iinc 6 1, 3) (List.mem_of_getElem? (i := 0) rfl)
theorem dX1_openFrom_79 : decode cX1_openFrom 79 = .ok (.goto (-70), 3) := DX1_openFrom_1 (79, .goto (-70), 3) (List.mem_of_getElem? (i := 1) rfl)
theorem dX1_openFrom_82 : decode cX1_openFrom 82 = .ok (.iload 4, 2) := DX1_openFrom_1 (82, .iload 4, 2) (List.mem_of_getElem? (i := 2) rfl)
theorem dX1_openFrom_84 : decode cX1_openFrom 84 = .ok (.ireturn, 1) := DX1_openFrom_1 (84, .ireturn, 1) (List.mem_of_getElem? (i := 3) rfl)
abbrev rmX1_openFrom : Room := { frames := 1, cells := 0, slots := 0, locals := 23 }
set_option maxHeartbeats 400000 in
set_option maxRecDepth 100000 in
theorem met_X1_openFrom (l : Launch) (D : va_G) (kA : Nat → ClassId) (a : Nat → Nat) (n : Nat) (V : Sz) (x1 : Int) (x2 : Int) (x3 : Int) {r : Int} (hf : f_X1_openFrom n V x1 x2 x3 = some r) : MP l yX1_openFrom cX1_openFrom 8 (some .int) rmX1_openFrom D kA [.ref (a 0), vI x1, vI x2, vI x3] (cs_X1 kA a V) (some (vI r)) := by
  refine zPI (own := RX1) rfl rfl (Nat.le_of_ble_eq_true rfl) ?_
  intro p e s m args below meth c ls Q hC hK hP hl hret
  have hl : lv_has ls 8 [(0, .ref (a 0)), (1, vI x1), (2, vI x2), (3, vI x3)] := hl
  unfold f_X1_openFrom at hf
  have L9 : ∀ (k9 : Nat) (y4 : Int) (y5 : Int) (y6 : Int) (ls : Array Slot), lpF (bX1_openFrom_9 n V x1 x2 x3) k9 (y4, y5, y6) = some r → lv_has ls 8 [(0, .ref (a 0)), (1, vI x1), (3, vI x3), (4, vI y4), (5, vI y5), (6, vI y6)] → W p l e rmX1_openFrom s m args below meth c s.heap [] 0 0 Q (F0 m 9 ls []) := by
    intro k9
    induction k9 with
    | zero => intro y4 y5 y6 ls hf hl; exact lp_0 hf
    | succ k9 ih9 =>
      intro y4 y5 y6 ls hf hl
      have hf := lp_s hf
      rw [bX1_openFrom_9_e] at hf
      have L29 : ∀ (k29 : Nat) (y4 : Int) (y5 : Int) (y6 : Int) (y7 : Int) (ls : Array Slot), lpF (bX1_openFrom_29 n V x1 x2 x3 (lpF (bX1_openFrom_9 n V x1 x2 x3) k9)) k29 (y4, y5, y6, y7) = some r → lv_has ls 8 [(0, .ref (a 0)), (1, vI x1), (3, vI x3), (4, vI y4), (5, vI y5), (6, vI y6), (7, vI y7)] → W p l e rmX1_openFrom s m args below meth c s.heap [] 0 0 Q (F0 m 29 ls []) := by
        intro k29
        induction k29 with
        | zero => intro y4 y5 y6 y7 ls hf hl; exact lp_0 hf
        | succ k29 ih29 =>
          intro y4 y5 y6 y7 ls hf hl
          have hf := lp_s hf
          rw [bX1_openFrom_29_e] at hf
          have J70 : ∀ (y4 : Int) (y5 : Int) (y6 : Int) (y7 : Int) (ls : Array Slot), jX1_openFrom_70 n V x1 x2 x3 (lpF (bX1_openFrom_9 n V x1 x2 x3) k9) (lpF (bX1_openFrom_29 n V x1 x2 x3 (lpF (bX1_openFrom_9 n V x1 x2 x3) k9)) k29) y4 y5 y6 y7 = some r → lv_has ls 8 [(0, .ref (a 0)), (1, vI x1), (3, vI x3), (4, vI y4), (5, vI y5), (6, vI y6), (7, vI y7)] → W p l e rmX1_openFrom s m args below meth c s.heap [] 0 0 Q (F0 m 70 ls []) := by
            intro y4 y5 y6 y7 ls hf hl
            unfold jX1_openFrom_70 at hf
            obtain ⟨x_6, ex_6⟩ : ∃ y : Int, y = y7 + 1 := ⟨_, rfl⟩
            have hf := nm_at hf ex_6
            refine ziinc (v := x_6) (lv' := [(7, vI x_6), (0, .ref (a 0)), (1, vI x1), (3, vI x3), (4, vI y4), (5, vI y5), (6, vI y6)]) hC.1 hC.2.1 dX1_openFrom_70 hl (k := 6) rfl ex_6 (by decide) rfl (fun ls hl => ?_)
            exact lv_goto (tgt := 29) hC.1 hC.2.1 dX1_openFrom_73 (by decide) <| ih29 _ _ _ _ _ hf (lv_sub hl [1, 2, 3, 4, 5, 6, 0] rfl)
          refine ziload hC.1 hC.2.1 dX1_openFrom_29 (lv_at hl 6 rfl) <| lv_aload_n hC.1 hC.2.1 dX1_openFrom_31 rfl (lv_at hl 0 rfl) <| gfX1_21 hC hK hP (q0 := 0) rfl rfl dX1_openFrom_32 <| ?_
          obtain ⟨hz_3, hf⟩ := ck_some hf
          refine zicmp_ge (tgt := 76) hC.1 hC.2.1 ⟨hz_3.1, hz_3.2⟩ dX1_openFrom_35 (by decide) (fun hc => ?_) (fun hc => ?_)
          · have hf := it_t hf hc
            obtain ⟨x_4, ex_4⟩ : ∃ y : Int, y = y6 + 1 := ⟨_, rfl⟩
            have hf := nm_at hf ex_4
            refine ziinc (v := x_4) (lv' := [(6, vI x_4), (0, .ref (a 0)), (1, vI x1), (3, vI x3), (4, vI y4), (5, vI y5), (7, vI y7)]) hC.1 hC.2.1 dX1_openFrom_76 hl (k := 5) rfl ex_4 (by decide) rfl (fun ls hl => ?_)
            exact lv_goto (tgt := 9) hC.1 hC.2.1 dX1_openFrom_79 (by decide) <| ih9 _ _ _ _ hf (lv_sub hl [1, 2, 3, 4, 5, 0] rfl)
          · have hf := it_f hf hc
            refine ziload hC.1 hC.2.1 dX1_openFrom_38 (lv_at hl 6 rfl) <| ziload_n hC.1 hC.2.1 dX1_openFrom_40 rfl (lv_at hl 2 rfl) <| ?_
            obtain ⟨hz_5, hf⟩ := ck_some hf
            refine zicmp_eq (tgt := 70) hC.1 hC.2.1 ⟨hz_3.1, hz_5⟩ dX1_openFrom_41 (by decide) (fun hc => ?_) (fun hc => ?_)
            · have hf := it_t hf hc
              exact J70 _ _ _ _ _ hf (lv_sub hl [0, 1, 2, 3, 4, 5, 6] rfl)
            · have hf := it_f hf hc
              refine lv_aload_n hC.1 hC.2.1 dX1_openFrom_44 rfl (lv_at hl 0 rfl) <| ziload hC.1 hC.2.1 dX1_openFrom_45 (lv_at hl 6 rfl) <| ziload_n hC.1 hC.2.1 dX1_openFrom_47 rfl (lv_at hl 1 rfl) <| ziload hC.1 hC.2.1 dX1_openFrom_48 (lv_at hl 3 rfl) <| ?_
              obtain ⟨r_7, hu, hf⟩ := bd_some hf
              refine zcVP (As := [vI y7, vI x1, vI y4]) (rest := []) hC hK (met_X1_isOn l D kA a V y7 x1 y4 hu) zwX1_42 hP (q0 := 0) rfl rfl rfl rfl hl.1 rfl (Nat.le_of_ble_eq_true rfl) ⟨Nat.le_of_ble_eq_true rfl, Nat.le_of_ble_eq_true rfl⟩ ⟨rfl, rfl⟩ ⟨Nat.le_refl _, Nat.le_refl _⟩ dX1_openFrom_50 <| zifb_eq (tgt := 70) hC.1 hC.2.1 dX1_openFrom_53 (by decide) (fun hc => ?_) (fun hc => ?_)
              · have hf := it_t hf hc
                exact J70 _ _ _ _ _ hf (lv_sub hl [0, 1, 2, 3, 4, 5, 6] rfl)
              · have hf := it_f hf hc
                refine lv_aload_n hC.1 hC.2.1 dX1_openFrom_56 rfl (lv_at hl 0 rfl) <| gfX1_18 hC hK hP (q0 := 0) rfl rfl dX1_openFrom_57 <| ziload hC.1 hC.2.1 dX1_openFrom_60 (lv_at hl 6 rfl) <| ?_
                obtain ⟨hz_8, hf⟩ := ck_some hf
                refine jal hC hK hP (q0 := 3) rfl (Nat.le_of_ble_eq_true rfl) hz_8 rfl dX1_openFrom_62 <| ziconst hC.1 hC.2.1 dX1_openFrom_63 <| ziadd hC.1 hC.2.1 dX1_openFrom_64 <| ?_
                refine ztopi (fun x_9 ex_9 => ?_)
                have hf := nm_at hf ex_9
                refine zistore (lv' := [(4, vI x_9), (0, .ref (a 0)), (1, vI x1), (3, vI x3), (5, vI y5), (6, vI y6), (7, vI y7)]) hC.1 hC.2.1 dX1_openFrom_65 hl (by decide) rfl (fun ls hl => ?_)
                refine ziconst hC.1 hC.2.1 dX1_openFrom_67 <| zistore (lv' := [(5, vI 1), (4, vI x_9), (0, .ref (a 0)), (1, vI x1), (3, vI x3), (6, vI y6), (7, vI y7)]) hC.1 hC.2.1 dX1_openFrom_68 hl (by decide) rfl (fun ls hl => ?_)
                exact J70 _ _ _ _ _ hf (lv_sub hl [2, 3, 4, 1, 0, 5, 6] rfl)
      refine ziload hC.1 hC.2.1 dX1_openFrom_9 (lv_at hl 5 rfl) <| lv_aload_n hC.1 hC.2.1 dX1_openFrom_11 rfl (lv_at hl 0 rfl) <| gfX1_21 hC hK hP (q0 := 0) rfl rfl dX1_openFrom_12 <| ?_
      obtain ⟨hz_1, hf⟩ := ck_some hf
      refine zicmp_ge (tgt := 82) hC.1 hC.2.1 ⟨hz_1.1, hz_1.2⟩ dX1_openFrom_15 (by decide) (fun hc => ?_) (fun hc => ?_)
      · have hf := it_t hf hc
        exact ziload hC.1 hC.2.1 dX1_openFrom_82 (lv_at hl 3 rfl) <| hret (Int32.ofInt y4) _ _ (qI hf) dX1_openFrom_84
      · have hf := it_f hf hc
        refine ziload hC.1 hC.2.1 dX1_openFrom_18 (lv_at hl 4 rfl) <| ?_
        obtain ⟨hz_2, hf⟩ := ck_some hf
        refine zif_eq (tgt := 82) hC.1 hC.2.1 hz_2 dX1_openFrom_20 (by decide) (fun hc => ?_) (fun hc => ?_)
        · have hf := it_t hf hc
          exact ziload hC.1 hC.2.1 dX1_openFrom_82 (lv_at hl 3 rfl) <| hret (Int32.ofInt y4) _ _ (qI hf) dX1_openFrom_84
        · have hf := it_f hf hc
          refine ziconst hC.1 hC.2.1 dX1_openFrom_23 <| zistore (lv' := [(5, vI 0), (0, .ref (a 0)), (1, vI x1), (3, vI x3), (4, vI y4), (6, vI y6)]) hC.1 hC.2.1 dX1_openFrom_24 hl (by decide) rfl (fun ls hl => ?_)
          refine ziconst hC.1 hC.2.1 dX1_openFrom_26 <| zistore (lv' := [(7, vI 0), (5, vI 0), (0, .ref (a 0)), (1, vI x1), (3, vI x3), (4, vI y4), (6, vI y6)]) hC.1 hC.2.1 dX1_openFrom_27 hl (by decide) rfl (fun ls hl => ?_)
          exact L29 n _ _ _ _ _ hf (lv_sub hl [2, 3, 4, 5, 1, 6, 0] rfl)
  refine ziload_n hC.1 hC.2.1 dX1_openFrom_0 rfl (lv_at hl 2 rfl) <| zistore (lv' := [(4, vI x2), (0, .ref (a 0)), (1, vI x1), (2, vI x2), (3, vI x3)]) hC.1 hC.2.1 dX1_openFrom_1 hl (by decide) rfl (fun ls hl => ?_)
  refine ziconst hC.1 hC.2.1 dX1_openFrom_3 <| zistore (lv' := [(5, vI 1), (4, vI x2), (0, .ref (a 0)), (1, vI x1), (2, vI x2), (3, vI x3)]) hC.1 hC.2.1 dX1_openFrom_4 hl (by decide) rfl (fun ls hl => ?_)
  refine ziconst hC.1 hC.2.1 dX1_openFrom_6 <| zistore (lv' := [(6, vI 0), (5, vI 1), (4, vI x2), (0, .ref (a 0)), (1, vI x1), (2, vI x2), (3, vI x3)]) hC.1 hC.2.1 dX1_openFrom_7 hl (by decide) rfl (fun ls hl => ?_)
  exact L9 n _ _ _ _ hf (lv_sub hl [3, 4, 6, 2, 1, 0] rfl)
theorem DX1_coveredFrom_0 : ∀ q ∈ ([(0, .sipush 10000, 3), (3, .istore_n 3, 1), (4, .iconst 0, 1), (5, .istore 4, 2), (7, .iload 4, 2), (9, .aload_n 0, 1), (10, .getfield 21, 3), (13, .if_icmp .ge 41, 3), (16, .iload_n 2, 1), (17, .aload_n 0, 1), (18, .getfield 15, 3), (21, .iload 4, 2), (23, .iaload, 1), (24, .invokestatic 39, 3), (27, .istore 5, 2), (29, .aload_n 0, 1), (30, .iload 4, 2), (32, .iload_n 1, 1), (33, .iload 5, 2), (35, .invokevirtual 42, 3), (38, .ifCond .eq 10, 3), (41, .iload_n 3, 1), (42, .iload 5, 2), (44, .invokestatic 33, 3), (47, .istore_n 3, 1), (48, .iinc 4 1, 3), (51, .goto (-44), 3), (54, .iload_n 3, 1), (55, .ireturn, 1)] : List (Nat × Instr × Nat)), decode cX1_coveredFrom q.1 = .ok q.2 := by decide +kernel
theorem dX1_coveredFrom_0 : decode cX1_coveredFrom 0 = .ok (.sipush 10000, 3) := DX1_coveredFrom_0 (0, .sipush 10000, 3) (List.mem_of_getElem? (i := 0) rfl)
theorem dX1_coveredFrom_3 : decode cX1_coveredFrom 3 = .ok (.istore_n 3, 1) := DX1_coveredFrom_0 (3, .istore_n 3, 1) (List.mem_of_getElem? (i := 1) rfl)
theorem dX1_coveredFrom_4 : decode cX1_coveredFrom 4 = .ok (.iconst 0, 1) := DX1_coveredFrom_0 (4, .iconst 0, 1) (List.mem_of_getElem? (i := 2) rfl)
theorem dX1_coveredFrom_5 : decode cX1_coveredFrom 5 = .ok (.istore 4, 2) := DX1_coveredFrom_0 (5, .istore 4, 2) (List.mem_of_getElem? (i := 3) rfl)
theorem dX1_coveredFrom_7 : decode cX1_coveredFrom 7 = .ok (.iload 4, 2) := DX1_coveredFrom_0 (7, .iload 4, 2) (List.mem_of_getElem? (i := 4) rfl)
theorem dX1_coveredFrom_9 : decode cX1_coveredFrom 9 = .ok (.aload_n 0, 1) := DX1_coveredFrom_0 (9, .aload_n 0, 1) (List.mem_of_getElem? (i := 5) rfl)
theorem dX1_coveredFrom_10 : decode cX1_coveredFrom 10 = .ok (.getfield 21, 3) := DX1_coveredFrom_0 (10, .getfield 21, 3) (List.mem_of_getElem? (i := 6) rfl)
theorem dX1_coveredFrom_13 : decode cX1_coveredFrom 13 = .ok (.if_icmp .ge 41, 3) := DX1_coveredFrom_0 (13, .if_icmp .ge 41, 3) (List.mem_of_getElem? (i := 7) rfl)
theorem dX1_coveredFrom_16 : decode cX1_coveredFrom 16 = .ok (.iload_n 2, 1) := DX1_coveredFrom_0 (16, .iload_n 2, 1) (List.mem_of_getElem? (i := 8) rfl)
theorem dX1_coveredFrom_17 : decode cX1_coveredFrom 17 = .ok (.aload_n 0, 1) := DX1_coveredFrom_0 (17, .aload_n 0, 1) (List.mem_of_getElem? (i := 9) rfl)
theorem dX1_coveredFrom_18 : decode cX1_coveredFrom 18 = .ok (.getfield 15, 3) := DX1_coveredFrom_0 (18, .getfield 15, 3) (List.mem_of_getElem? (i := 10) rfl)
theorem dX1_coveredFrom_21 : decode cX1_coveredFrom 21 = .ok (.iload 4, 2) := DX1_coveredFrom_0 (21, .iload 4, 2) (List.mem_of_getElem? (i := 11) rfl)
theorem dX1_coveredFrom_23 : decode cX1_coveredFrom 23 = .ok (.iaload, 1) := DX1_coveredFrom_0 (23, .iaload, 1) (List.mem_of_getElem? (i := 12) rfl)
theorem dX1_coveredFrom_24 : decode cX1_coveredFrom 24 = .ok (.invokestatic 39, 3) := DX1_coveredFrom_0 (24, .invokestatic 39, 3) (List.mem_of_getElem? (i := 13) rfl)
theorem dX1_coveredFrom_27 : decode cX1_coveredFrom 27 = .ok (.istore 5, 2) := DX1_coveredFrom_0 (27, .istore 5, 2) (List.mem_of_getElem? (i := 14) rfl)
theorem dX1_coveredFrom_29 : decode cX1_coveredFrom 29 = .ok (.aload_n 0, 1) := DX1_coveredFrom_0 (29, .aload_n 0, 1) (List.mem_of_getElem? (i := 15) rfl)
theorem dX1_coveredFrom_30 : decode cX1_coveredFrom 30 = .ok (.iload 4, 2) := DX1_coveredFrom_0 (30, .iload 4, 2) (List.mem_of_getElem? (i := 16) rfl)
theorem dX1_coveredFrom_32 : decode cX1_coveredFrom 32 = .ok (.iload_n 1, 1) := DX1_coveredFrom_0 (32, .iload_n 1, 1) (List.mem_of_getElem? (i := 17) rfl)
theorem dX1_coveredFrom_33 : decode cX1_coveredFrom 33 = .ok (.iload 5, 2) := DX1_coveredFrom_0 (33, .iload 5, 2) (List.mem_of_getElem? (i := 18) rfl)
theorem dX1_coveredFrom_35 : decode cX1_coveredFrom 35 = .ok (.invokevirtual 42, 3) := DX1_coveredFrom_0 (35, .invokevirtual 42, 3) (List.mem_of_getElem? (i := 19) rfl)
theorem dX1_coveredFrom_38 : decode cX1_coveredFrom 38 = .ok (.ifCond .eq 10, 3) := DX1_coveredFrom_0 (38, .ifCond .eq 10, 3) (List.mem_of_getElem? (i := 20) rfl)
theorem dX1_coveredFrom_41 : decode cX1_coveredFrom 41 = .ok (.iload_n 3, 1) := DX1_coveredFrom_0 (41, .iload_n 3, 1) (List.mem_of_getElem? (i := 21) rfl)
theorem dX1_coveredFrom_42 : decode cX1_coveredFrom 42 = .ok (.iload 5, 2) := DX1_coveredFrom_0 (42, .iload 5, 2) (List.mem_of_getElem? (i := 22) rfl)
theorem dX1_coveredFrom_44 : decode cX1_coveredFrom 44 = .ok (.invokestatic 33, 3) := DX1_coveredFrom_0 (44, .invokestatic 33, 3) (List.mem_of_getElem? (i := 23) rfl)
theorem dX1_coveredFrom_47 : decode cX1_coveredFrom 47 = .ok (.istore_n 3, 1) := DX1_coveredFrom_0 (47, .istore_n 3, 1) (List.mem_of_getElem? (i := 24) rfl)
theorem dX1_coveredFrom_48 : decode cX1_coveredFrom 48 = .ok (.iinc 4 1, 3) := DX1_coveredFrom_0 (48, .iinc 4 1, 3) (List.mem_of_getElem? (i := 25) rfl)
theorem dX1_coveredFrom_51 : decode cX1_coveredFrom 51 = .ok (.goto (-44), 3) := DX1_coveredFrom_0 (51, .goto (-44), 3) (List.mem_of_getElem? (i := 26) rfl)
theorem dX1_coveredFrom_54 : decode cX1_coveredFrom 54 = .ok (.iload_n 3, 1) := DX1_coveredFrom_0 (54, .iload_n 3, 1) (List.mem_of_getElem? (i := 27) rfl)
theorem dX1_coveredFrom_55 : decode cX1_coveredFrom 55 = .ok (.ireturn, 1) := DX1_coveredFrom_0 (55, .ireturn, 1) (List.mem_of_getElem? (i := 28) rfl)
abbrev rmX1_coveredFrom : Room := { frames := 1, cells := 0, slots := 0, locals := 60 }
set_option maxHeartbeats 400000 in
set_option maxRecDepth 100000 in
theorem met_X1_coveredFrom (l : Launch) (D : va_G) (kA : Nat → ClassId) (a : Nat → Nat) (n : Nat) (V : Sz) (x1 : Int) (x2 : Int) {r : Int} (hf : f_X1_coveredFrom n V x1 x2 = some r) : MP l yX1_coveredFrom cX1_coveredFrom 6 (some .int) rmX1_coveredFrom D kA [.ref (a 0), vI x1, vI x2] (cs_X1 kA a V) (some (vI r)) := by
  refine zPI (own := RX1) rfl rfl (Nat.le_of_ble_eq_true rfl) ?_
  intro p e s m args below meth c ls Q hC hK hP hl hret
  have hl : lv_has ls 6 [(0, .ref (a 0)), (1, vI x1), (2, vI x2)] := hl
  unfold f_X1_coveredFrom at hf
  have L7 : ∀ (k7 : Nat) (y3 : Int) (y4 : Int) (ls : Array Slot), lpF (bX1_coveredFrom_7 n V x1 x2) k7 (y3, y4) = some r → lv_has ls 6 [(0, .ref (a 0)), (1, vI x1), (2, vI x2), (3, vI y3), (4, vI y4)] → W p l e rmX1_coveredFrom s m args below meth c s.heap [] 0 0 Q (F0 m 7 ls []) := by
    intro k7
    induction k7 with
    | zero => intro y3 y4 ls hf hl; exact lp_0 hf
    | succ k7 ih7 =>
      intro y3 y4 ls hf hl
      have hf := lp_s hf
      rw [bX1_coveredFrom_7_e] at hf
      have J48 : ∀ (y3 : Int) (y4 : Int) (ls : Array Slot), jX1_coveredFrom_48 n V x1 x2 (lpF (bX1_coveredFrom_7 n V x1 x2) k7) y3 y4 = some r → lv_has ls 6 [(0, .ref (a 0)), (1, vI x1), (2, vI x2), (3, vI y3), (4, vI y4)] → W p l e rmX1_coveredFrom s m args below meth c s.heap [] 0 0 Q (F0 m 48 ls []) := by
        intro y3 y4 ls hf hl
        unfold jX1_coveredFrom_48 at hf
        obtain ⟨x_6, ex_6⟩ : ∃ y : Int, y = y4 + 1 := ⟨_, rfl⟩
        have hf := nm_at hf ex_6
        refine ziinc (v := x_6) (lv' := [(4, vI x_6), (0, .ref (a 0)), (1, vI x1), (2, vI x2), (3, vI y3)]) hC.1 hC.2.1 dX1_coveredFrom_48 hl (k := 4) rfl ex_6 (by decide) rfl (fun ls hl => ?_)
        exact lv_goto (tgt := 7) hC.1 hC.2.1 dX1_coveredFrom_51 (by decide) <| ih7 _ _ _ hf (lv_sub hl [1, 2, 3, 4, 0] rfl)
      refine ziload hC.1 hC.2.1 dX1_coveredFrom_7 (lv_at hl 4 rfl) <| lv_aload_n hC.1 hC.2.1 dX1_coveredFrom_9 rfl (lv_at hl 0 rfl) <| gfX1_21 hC hK hP (q0 := 0) rfl rfl dX1_coveredFrom_10 <| ?_
      obtain ⟨hz_1, hf⟩ := ck_some hf
      refine zicmp_ge (tgt := 54) hC.1 hC.2.1 ⟨hz_1.1, hz_1.2⟩ dX1_coveredFrom_13 (by decide) (fun hc => ?_) (fun hc => ?_)
      · have hf := it_t hf hc
        exact ziload_n hC.1 hC.2.1 dX1_coveredFrom_54 rfl (lv_at hl 3 rfl) <| hret (Int32.ofInt y3) _ _ (qI hf) dX1_coveredFrom_55
      · have hf := it_f hf hc
        refine ziload_n hC.1 hC.2.1 dX1_coveredFrom_16 rfl (lv_at hl 2 rfl) <| lv_aload_n hC.1 hC.2.1 dX1_coveredFrom_17 rfl (lv_at hl 0 rfl) <| gfX1_15 hC hK hP (q0 := 0) rfl rfl dX1_coveredFrom_18 <| ziload hC.1 hC.2.1 dX1_coveredFrom_21 (lv_at hl 4 rfl) <| ?_
        obtain ⟨hz_2, hf⟩ := ck_some hf
        refine jal hC hK hP (q0 := 2) rfl (Nat.le_of_ble_eq_true rfl) hz_2 rfl dX1_coveredFrom_23 <| ?_
        obtain ⟨hz_3, hf⟩ := ck_some hf
        refine jmax ⟨hz_3.1, hz_3.2⟩ hC qw_751 hl.1 (Nat.le_of_ble_eq_true rfl) ⟨Nat.le_of_ble_eq_true rfl, Nat.le_of_ble_eq_true rfl⟩ ⟨Nat.le_refl _, Nat.le_refl _⟩ dX1_coveredFrom_24 <| ?_
        refine ztopi (fun x_4 ex_4 => ?_)
        have hf := nm_at hf ex_4
        refine zistore (lv' := [(5, vI x_4), (0, .ref (a 0)), (1, vI x1), (2, vI x2), (3, vI y3), (4, vI y4)]) hC.1 hC.2.1 dX1_coveredFrom_27 hl (by decide) rfl (fun ls hl => ?_)
        refine lv_aload_n hC.1 hC.2.1 dX1_coveredFrom_29 rfl (lv_at hl 1 rfl) <| ziload hC.1 hC.2.1 dX1_coveredFrom_30 (lv_at hl 5 rfl) <| ziload_n hC.1 hC.2.1 dX1_coveredFrom_32 rfl (lv_at hl 2 rfl) <| ziload hC.1 hC.2.1 dX1_coveredFrom_33 (lv_at hl 0 rfl) <| ?_
        obtain ⟨r_5, hu, hf⟩ := bd_some hf
        refine zcVP (As := [vI y4, vI x1, vI x_4]) (rest := []) hC hK (met_X1_isOn l D kA a V y4 x1 x_4 hu) zwX1_42 hP (q0 := 0) rfl rfl rfl rfl hl.1 rfl (Nat.le_of_ble_eq_true rfl) ⟨Nat.le_of_ble_eq_true rfl, Nat.le_of_ble_eq_true rfl⟩ ⟨rfl, rfl⟩ ⟨Nat.le_refl _, Nat.le_refl _⟩ dX1_coveredFrom_35 <| zifb_eq (tgt := 48) hC.1 hC.2.1 dX1_coveredFrom_38 (by decide) (fun hc => ?_) (fun hc => ?_)
        · have hf := it_t hf hc
          exact J48 _ _ _ hf (lv_sub hl [1, 2, 3, 4, 5] rfl)
        · have hf := it_f hf hc
          refine ziload_n hC.1 hC.2.1 dX1_coveredFrom_41 rfl (lv_at hl 4 rfl) <| ziload hC.1 hC.2.1 dX1_coveredFrom_42 (lv_at hl 0 rfl) <| ?_
          obtain ⟨hz_7, hf⟩ := ck_some hf
          refine jmin ⟨hz_7.1, hz_7.2⟩ hC qw_845 hl.1 (Nat.le_of_ble_eq_true rfl) ⟨Nat.le_of_ble_eq_true rfl, Nat.le_of_ble_eq_true rfl⟩ ⟨Nat.le_refl _, Nat.le_refl _⟩ dX1_coveredFrom_44 <| ?_
          refine ztopi (fun x_8 ex_8 => ?_)
          have hf := nm_at hf ex_8
          refine zistore_n (lv' := [(3, vI x_8), (5, vI x_4), (0, .ref (a 0)), (1, vI x1), (2, vI x2), (4, vI y4)]) hC.1 hC.2.1 dX1_coveredFrom_47 rfl hl (by decide) rfl (fun ls hl => ?_)
          exact J48 _ _ _ hf (lv_sub hl [2, 3, 4, 0, 5] rfl)
  refine zsipush hC.1 hC.2.1 dX1_coveredFrom_0 (by decide) <| zistore_n (lv' := [(3, vI 10000), (0, .ref (a 0)), (1, vI x1), (2, vI x2)]) hC.1 hC.2.1 dX1_coveredFrom_3 rfl hl (by decide) rfl (fun ls hl => ?_)
  refine ziconst hC.1 hC.2.1 dX1_coveredFrom_4 <| zistore (lv' := [(4, vI 0), (3, vI 10000), (0, .ref (a 0)), (1, vI x1), (2, vI x2)]) hC.1 hC.2.1 dX1_coveredFrom_5 hl (by decide) rfl (fun ls hl => ?_)
  exact L7 n _ _ _ hf (lv_sub hl [2, 3, 4, 1, 0] rfl)
theorem DX1_coveredWithin_0 : ∀ q ∈ ([(0, .iconst 0, 1), (1, .istore 4, 2), (3, .aload_n 0, 1), (4, .iload_n 1, 1), (5, .iload_n 2, 1), (6, .invokevirtual 46, 3), (9, .istore 5, 2), (11, .iconst 0, 1), (12, .istore 6, 2), (14, .iload 6, 2), (16, .aload_n 0, 1), (17, .getfield 21, 3), (20, .if_icmp .ge 50, 3), (23, .iload 5, 2), (25, .iload_n 3, 1), (26, .if_icmp .gt 44, 3), (29, .aload_n 0, 1), (30, .iload_n 1, 1), (31, .iload 5, 2), (33, .iconst (-1), 1), (34, .invokevirtual 49, 3), (37, .istore 7, 2), (39, .iload 4, 2), (41, .iload 7, 2), (43, .iload_n 3, 1), (44, .iconst 1, 1), (45, .iadd, 1), (46, .invokestatic 33, 3), (49, .iload 5, 2), (51, .isub, 1), (52, .iadd, 1), (53, .istore 4, 2), (55, .aload_n 0, 1), (56, .iload_n 1, 1), (57, .iload 7, 2), (59, .invokevirtual 46, 3), (62, .istore 5, 2), (64, .iinc 6 1, 3), (67, .goto (-53), 3), (70, .iload 4, 2)] : List (Nat × Instr × Nat)), decode cX1_coveredWithin q.1 = .ok q.2 := by decide +kernel
theorem dX1_coveredWithin_0 : decode cX1_coveredWithin 0 = .ok (.iconst 0, 1) := DX1_coveredWithin_0 (0, .iconst 0, 1) (List.mem_of_getElem? (i := 0) rfl)
theorem dX1_coveredWithin_1 : decode cX1_coveredWithin 1 = .ok (.istore 4, 2) := DX1_coveredWithin_0 (1, .istore 4, 2) (List.mem_of_getElem? (i := 1) rfl)
theorem dX1_coveredWithin_3 : decode cX1_coveredWithin 3 = .ok (.aload_n 0, 1) := DX1_coveredWithin_0 (3, .aload_n 0, 1) (List.mem_of_getElem? (i := 2) rfl)
theorem dX1_coveredWithin_4 : decode cX1_coveredWithin 4 = .ok (.iload_n 1, 1) := DX1_coveredWithin_0 (4, .iload_n 1, 1) (List.mem_of_getElem? (i := 3) rfl)
theorem dX1_coveredWithin_5 : decode cX1_coveredWithin 5 = .ok (.iload_n 2, 1) := DX1_coveredWithin_0 (5, .iload_n 2, 1) (List.mem_of_getElem? (i := 4) rfl)
theorem dX1_coveredWithin_6 : decode cX1_coveredWithin 6 = .ok (.invokevirtual 46, 3) := DX1_coveredWithin_0 (6, .invokevirtual 46, 3) (List.mem_of_getElem? (i := 5) rfl)
theorem dX1_coveredWithin_9 : decode cX1_coveredWithin 9 = .ok (.istore 5, 2) := DX1_coveredWithin_0 (9, .istore 5, 2) (List.mem_of_getElem? (i := 6) rfl)
theorem dX1_coveredWithin_11 : decode cX1_coveredWithin 11 = .ok (.iconst 0, 1) := DX1_coveredWithin_0 (11, .iconst 0, 1) (List.mem_of_getElem? (i := 7) rfl)
theorem dX1_coveredWithin_12 : decode cX1_coveredWithin 12 = .ok (.istore 6, 2) := DX1_coveredWithin_0 (12, .istore 6, 2) (List.mem_of_getElem? (i := 8) rfl)
theorem dX1_coveredWithin_14 : decode cX1_coveredWithin 14 = .ok (.iload 6, 2) := DX1_coveredWithin_0 (14, .iload 6, 2) (List.mem_of_getElem? (i := 9) rfl)
theorem dX1_coveredWithin_16 : decode cX1_coveredWithin 16 = .ok (.aload_n 0, 1) := DX1_coveredWithin_0 (16, .aload_n 0, 1) (List.mem_of_getElem? (i := 10) rfl)
theorem dX1_coveredWithin_17 : decode cX1_coveredWithin 17 = .ok (.getfield 21, 3) := DX1_coveredWithin_0 (17, .getfield 21, 3) (List.mem_of_getElem? (i := 11) rfl)
theorem dX1_coveredWithin_20 : decode cX1_coveredWithin 20 = .ok (.if_icmp .ge 50, 3) := DX1_coveredWithin_0 (20, .if_icmp .ge 50, 3) (List.mem_of_getElem? (i := 12) rfl)
theorem dX1_coveredWithin_23 : decode cX1_coveredWithin 23 = .ok (.iload 5, 2) := DX1_coveredWithin_0 (23, .iload 5, 2) (List.mem_of_getElem? (i := 13) rfl)
theorem dX1_coveredWithin_25 : decode cX1_coveredWithin 25 = .ok (.iload_n 3, 1) := DX1_coveredWithin_0 (25, .iload_n 3, 1) (List.mem_of_getElem? (i := 14) rfl)
theorem dX1_coveredWithin_26 : decode cX1_coveredWithin 26 = .ok (.if_icmp .gt 44, 3) := DX1_coveredWithin_0 (26, .if_icmp .gt 44, 3) (List.mem_of_getElem? (i := 15) rfl)
theorem dX1_coveredWithin_29 : decode cX1_coveredWithin 29 = .ok (.aload_n 0, 1) := DX1_coveredWithin_0 (29, .aload_n 0, 1) (List.mem_of_getElem? (i := 16) rfl)
theorem dX1_coveredWithin_30 : decode cX1_coveredWithin 30 = .ok (.iload_n 1, 1) := DX1_coveredWithin_0 (30, .iload_n 1, 1) (List.mem_of_getElem? (i := 17) rfl)
theorem dX1_coveredWithin_31 : decode cX1_coveredWithin 31 = .ok (.iload 5, 2) := DX1_coveredWithin_0 (31, .iload 5, 2) (List.mem_of_getElem? (i := 18) rfl)
theorem dX1_coveredWithin_33 : decode cX1_coveredWithin 33 = .ok (.iconst (-1), 1) := DX1_coveredWithin_0 (33, .iconst (-1), 1) (List.mem_of_getElem? (i := 19) rfl)
theorem dX1_coveredWithin_34 : decode cX1_coveredWithin 34 = .ok (.invokevirtual 49, 3) := DX1_coveredWithin_0 (34, .invokevirtual 49, 3) (List.mem_of_getElem? (i := 20) rfl)
theorem dX1_coveredWithin_37 : decode cX1_coveredWithin 37 = .ok (.istore 7, 2) := DX1_coveredWithin_0 (37, .istore 7, 2) (List.mem_of_getElem? (i := 21) rfl)
theorem dX1_coveredWithin_39 : decode cX1_coveredWithin 39 = .ok (.iload 4, 2) := DX1_coveredWithin_0 (39, .iload 4, 2) (List.mem_of_getElem? (i := 22) rfl)
theorem dX1_coveredWithin_41 : decode cX1_coveredWithin 41 = .ok (.iload 7, 2) := DX1_coveredWithin_0 (41, .iload 7, 2) (List.mem_of_getElem? (i := 23) rfl)
theorem dX1_coveredWithin_43 : decode cX1_coveredWithin 43 = .ok (.iload_n 3, 1) := DX1_coveredWithin_0 (43, .iload_n 3, 1) (List.mem_of_getElem? (i := 24) rfl)
theorem dX1_coveredWithin_44 : decode cX1_coveredWithin 44 = .ok (.iconst 1, 1) := DX1_coveredWithin_0 (44, .iconst 1, 1) (List.mem_of_getElem? (i := 25) rfl)
theorem dX1_coveredWithin_45 : decode cX1_coveredWithin 45 = .ok (.iadd, 1) := DX1_coveredWithin_0 (45, .iadd, 1) (List.mem_of_getElem? (i := 26) rfl)
theorem dX1_coveredWithin_46 : decode cX1_coveredWithin 46 = .ok (.invokestatic 33, 3) := DX1_coveredWithin_0 (46, .invokestatic 33, 3) (List.mem_of_getElem? (i := 27) rfl)
theorem dX1_coveredWithin_49 : decode cX1_coveredWithin 49 = .ok (.iload 5, 2) := DX1_coveredWithin_0 (49, .iload 5, 2) (List.mem_of_getElem? (i := 28) rfl)
theorem dX1_coveredWithin_51 : decode cX1_coveredWithin 51 = .ok (.isub, 1) := DX1_coveredWithin_0 (51, .isub, 1) (List.mem_of_getElem? (i := 29) rfl)
theorem dX1_coveredWithin_52 : decode cX1_coveredWithin 52 = .ok (.iadd, 1) := DX1_coveredWithin_0 (52, .iadd, 1) (List.mem_of_getElem? (i := 30) rfl)
theorem dX1_coveredWithin_53 : decode cX1_coveredWithin 53 = .ok (.istore 4, 2) := DX1_coveredWithin_0 (53, .istore 4, 2) (List.mem_of_getElem? (i := 31) rfl)
theorem dX1_coveredWithin_55 : decode cX1_coveredWithin 55 = .ok (.aload_n 0, 1) := DX1_coveredWithin_0 (55, .aload_n 0, 1) (List.mem_of_getElem? (i := 32) rfl)
theorem dX1_coveredWithin_56 : decode cX1_coveredWithin 56 = .ok (.iload_n 1, 1) := DX1_coveredWithin_0 (56, .iload_n 1, 1) (List.mem_of_getElem? (i := 33) rfl)
theorem dX1_coveredWithin_57 : decode cX1_coveredWithin 57 = .ok (.iload 7, 2) := DX1_coveredWithin_0 (57, .iload 7, 2) (List.mem_of_getElem? (i := 34) rfl)
theorem dX1_coveredWithin_59 : decode cX1_coveredWithin 59 = .ok (.invokevirtual 46, 3) := DX1_coveredWithin_0 (59, .invokevirtual 46, 3) (List.mem_of_getElem? (i := 35) rfl)
theorem dX1_coveredWithin_62 : decode cX1_coveredWithin 62 = .ok (.istore 5, 2) := DX1_coveredWithin_0 (62, .istore 5, 2) (List.mem_of_getElem? (i := 36) rfl)
theorem dX1_coveredWithin_64 : decode cX1_coveredWithin 64 = .ok (.iinc 6 1, 3) := DX1_coveredWithin_0 (64, .iinc 6 1, 3) (List.mem_of_getElem? (i := 37) rfl)
theorem dX1_coveredWithin_67 : decode cX1_coveredWithin 67 = .ok (.goto (-53), 3) := DX1_coveredWithin_0 (67, .goto (-53), 3) (List.mem_of_getElem? (i := 38) rfl)
theorem dX1_coveredWithin_70 : decode cX1_coveredWithin 70 = .ok (.iload 4, 2) := DX1_coveredWithin_0 (70, .iload 4, 2) (List.mem_of_getElem? (i := 39) rfl)
theorem DX1_coveredWithin_1 : ∀ q ∈ ([(72, .ireturn, 1)] : List (Nat × Instr × Nat)), decode cX1_coveredWithin q.1 = .ok q.2 := by decide +kernel
theorem dX1_coveredWithin_72 : decode cX1_coveredWithin 72 = .ok (.ireturn, 1) := DX1_coveredWithin_1 (72, .ireturn, 1) (List.mem_of_getElem? (i := 0) rfl)
abbrev rmX1_coveredWithin : Room := { frames := 2, cells := 0, slots := 0, locals := 85 }
set_option maxHeartbeats 400000 in
set_option maxRecDepth 100000 in
theorem met_X1_coveredWithin (l : Launch) (D : va_G) (kA : Nat → ClassId) (a : Nat → Nat) (n : Nat) (V : Sz) (x1 : Int) (x2 : Int) (x3 : Int) {r : Int} (hf : f_X1_coveredWithin n V x1 x2 x3 = some r) : MP l yX1_coveredWithin cX1_coveredWithin 8 (some .int) rmX1_coveredWithin D kA [.ref (a 0), vI x1, vI x2, vI x3] (cs_X1 kA a V) (some (vI r)) := by
  refine zPI (own := RX1) rfl rfl (Nat.le_of_ble_eq_true rfl) ?_
  intro p e s m args below meth c ls Q hC hK hP hl hret
  have hl : lv_has ls 8 [(0, .ref (a 0)), (1, vI x1), (2, vI x2), (3, vI x3)] := hl
  unfold f_X1_coveredWithin at hf
  have L14 : ∀ (k14 : Nat) (y4 : Int) (y5 : Int) (y6 : Int) (ls : Array Slot), lpF (bX1_coveredWithin_14 n V x1 x2 x3) k14 (y4, y5, y6) = some r → lv_has ls 8 [(0, .ref (a 0)), (1, vI x1), (3, vI x3), (4, vI y4), (5, vI y5), (6, vI y6)] → W p l e rmX1_coveredWithin s m args below meth c s.heap [] 0 0 Q (F0 m 14 ls []) := by
    intro k14
    induction k14 with
    | zero => intro y4 y5 y6 ls hf hl; exact lp_0 hf
    | succ k14 ih14 =>
      intro y4 y5 y6 ls hf hl
      have hf := lp_s hf
      rw [bX1_coveredWithin_14_e] at hf
      refine ziload hC.1 hC.2.1 dX1_coveredWithin_14 (lv_at hl 5 rfl) <| lv_aload_n hC.1 hC.2.1 dX1_coveredWithin_16 rfl (lv_at hl 0 rfl) <| gfX1_21 hC hK hP (q0 := 0) rfl rfl dX1_coveredWithin_17 <| ?_
      obtain ⟨hz_2, hf⟩ := ck_some hf
      refine zicmp_ge (tgt := 70) hC.1 hC.2.1 ⟨hz_2.1, hz_2.2⟩ dX1_coveredWithin_20 (by decide) (fun hc => ?_) (fun hc => ?_)
      · have hf := it_t hf hc
        exact ziload hC.1 hC.2.1 dX1_coveredWithin_70 (lv_at hl 3 rfl) <| hret (Int32.ofInt y4) _ _ (qI hf) dX1_coveredWithin_72
      · have hf := it_f hf hc
        refine ziload hC.1 hC.2.1 dX1_coveredWithin_23 (lv_at hl 4 rfl) <| ziload_n hC.1 hC.2.1 dX1_coveredWithin_25 rfl (lv_at hl 2 rfl) <| ?_
        obtain ⟨hz_3, hf⟩ := ck_some hf
        refine zicmp_gt (tgt := 70) hC.1 hC.2.1 ⟨hz_3.1, hz_3.2⟩ dX1_coveredWithin_26 (by decide) (fun hc => ?_) (fun hc => ?_)
        · have hf := it_t hf hc
          exact ziload hC.1 hC.2.1 dX1_coveredWithin_70 (lv_at hl 3 rfl) <| hret (Int32.ofInt y4) _ _ (qI hf) dX1_coveredWithin_72
        · have hf := it_f hf hc
          refine lv_aload_n hC.1 hC.2.1 dX1_coveredWithin_29 rfl (lv_at hl 0 rfl) <| ziload_n hC.1 hC.2.1 dX1_coveredWithin_30 rfl (lv_at hl 1 rfl) <| ziload hC.1 hC.2.1 dX1_coveredWithin_31 (lv_at hl 4 rfl) <| ziconst hC.1 hC.2.1 dX1_coveredWithin_33 <| ?_
          obtain ⟨r_4, hu, hf⟩ := bd_some hf
          refine zcVP (As := [vI x1, vI y5, vI (-1)]) (rest := []) hC hK (met_X1_openFrom l D kA a n V x1 y5 (-1) hu) zwX1_49 hP (q0 := 0) rfl rfl rfl rfl hl.1 rfl (Nat.le_of_ble_eq_true rfl) ⟨Nat.le_of_ble_eq_true rfl, Nat.le_of_ble_eq_true rfl⟩ ⟨rfl, rfl⟩ ⟨Nat.le_refl _, Nat.le_refl _⟩ dX1_coveredWithin_34 <| zistore (lv' := [(7, vI r_4), (0, .ref (a 0)), (1, vI x1), (3, vI x3), (4, vI y4), (5, vI y5), (6, vI y6)]) hC.1 hC.2.1 dX1_coveredWithin_37 hl (by decide) rfl (fun ls hl => ?_)
          refine ziload hC.1 hC.2.1 dX1_coveredWithin_39 (lv_at hl 4 rfl) <| ziload hC.1 hC.2.1 dX1_coveredWithin_41 (lv_at hl 0 rfl) <| ziload_n hC.1 hC.2.1 dX1_coveredWithin_43 rfl (lv_at hl 3 rfl) <| ziconst hC.1 hC.2.1 dX1_coveredWithin_44 <| ziadd hC.1 hC.2.1 dX1_coveredWithin_45 <| ?_
          obtain ⟨hz_5, hf⟩ := ck_some hf
          refine jmin ⟨hz_5.1, hz_5.2⟩ hC qw_845 hl.1 (Nat.le_of_ble_eq_true rfl) ⟨Nat.le_of_ble_eq_true rfl, Nat.le_of_ble_eq_true rfl⟩ ⟨Nat.le_refl _, Nat.le_refl _⟩ dX1_coveredWithin_46 <| ziload hC.1 hC.2.1 dX1_coveredWithin_49 (lv_at hl 5 rfl) <| zisub hC.1 hC.2.1 dX1_coveredWithin_51 <| ziadd hC.1 hC.2.1 dX1_coveredWithin_52 <| ?_
          refine ztopi (fun x_6 ex_6 => ?_)
          have hf := nm_at hf ex_6
          refine zistore (lv' := [(4, vI x_6), (7, vI r_4), (0, .ref (a 0)), (1, vI x1), (3, vI x3), (5, vI y5), (6, vI y6)]) hC.1 hC.2.1 dX1_coveredWithin_53 hl (by decide) rfl (fun ls hl => ?_)
          refine lv_aload_n hC.1 hC.2.1 dX1_coveredWithin_55 rfl (lv_at hl 2 rfl) <| ziload_n hC.1 hC.2.1 dX1_coveredWithin_56 rfl (lv_at hl 3 rfl) <| ziload hC.1 hC.2.1 dX1_coveredWithin_57 (lv_at hl 1 rfl) <| ?_
          obtain ⟨r_7, hu, hf⟩ := bd_some hf
          refine zcVP (As := [vI x1, vI r_4]) (rest := []) hC hK (met_X1_coveredFrom l D kA a n V x1 r_4 hu) zwX1_46 hP (q0 := 0) rfl rfl rfl rfl hl.1 rfl (Nat.le_of_ble_eq_true rfl) ⟨Nat.le_of_ble_eq_true rfl, Nat.le_of_ble_eq_true rfl⟩ ⟨rfl, rfl⟩ ⟨Nat.le_refl _, Nat.le_refl _⟩ dX1_coveredWithin_59 <| zistore (lv' := [(5, vI r_7), (4, vI x_6), (7, vI r_4), (0, .ref (a 0)), (1, vI x1), (3, vI x3), (6, vI y6)]) hC.1 hC.2.1 dX1_coveredWithin_62 hl (by decide) rfl (fun ls hl => ?_)
          obtain ⟨x_8, ex_8⟩ : ∃ y : Int, y = y6 + 1 := ⟨_, rfl⟩
          have hf := nm_at hf ex_8
          refine ziinc (v := x_8) (lv' := [(6, vI x_8), (5, vI r_7), (4, vI x_6), (7, vI r_4), (0, .ref (a 0)), (1, vI x1), (3, vI x3)]) hC.1 hC.2.1 dX1_coveredWithin_64 hl (k := 6) rfl ex_8 (by decide) rfl (fun ls hl => ?_)
          exact lv_goto (tgt := 14) hC.1 hC.2.1 dX1_coveredWithin_67 (by decide) <| ih14 _ _ _ _ hf (lv_sub hl [4, 5, 6, 2, 1, 0] rfl)
  refine ziconst hC.1 hC.2.1 dX1_coveredWithin_0 <| zistore (lv' := [(4, vI 0), (0, .ref (a 0)), (1, vI x1), (2, vI x2), (3, vI x3)]) hC.1 hC.2.1 dX1_coveredWithin_1 hl (by decide) rfl (fun ls hl => ?_)
  refine lv_aload_n hC.1 hC.2.1 dX1_coveredWithin_3 rfl (lv_at hl 1 rfl) <| ziload_n hC.1 hC.2.1 dX1_coveredWithin_4 rfl (lv_at hl 2 rfl) <| ziload_n hC.1 hC.2.1 dX1_coveredWithin_5 rfl (lv_at hl 3 rfl) <| ?_
  obtain ⟨r_1, hu, hf⟩ := bd_some hf
  refine zcVP (As := [vI x1, vI x2]) (rest := []) hC hK (met_X1_coveredFrom l D kA a n V x1 x2 hu) zwX1_46 hP (q0 := 0) rfl rfl rfl rfl hl.1 rfl (Nat.le_of_ble_eq_true rfl) ⟨Nat.le_of_ble_eq_true rfl, Nat.le_of_ble_eq_true rfl⟩ ⟨rfl, rfl⟩ ⟨Nat.le_refl _, Nat.le_refl _⟩ dX1_coveredWithin_6 <| zistore (lv' := [(5, vI r_1), (4, vI 0), (0, .ref (a 0)), (1, vI x1), (2, vI x2), (3, vI x3)]) hC.1 hC.2.1 dX1_coveredWithin_9 hl (by decide) rfl (fun ls hl => ?_)
  refine ziconst hC.1 hC.2.1 dX1_coveredWithin_11 <| zistore (lv' := [(6, vI 0), (5, vI r_1), (4, vI 0), (0, .ref (a 0)), (1, vI x1), (2, vI x2), (3, vI x3)]) hC.1 hC.2.1 dX1_coveredWithin_12 hl (by decide) rfl (fun ls hl => ?_)
  exact L14 n _ _ _ _ hf (lv_sub hl [3, 4, 6, 2, 1, 0] rfl)
theorem DX1_endOfGap_0 : ∀ q ∈ ([(0, .aload_n 0, 1), (1, .iload_n 1, 1), (2, .iconst 0, 1), (3, .iconst (-1), 1), (4, .invokevirtual 49, 3), (7, .istore 4, 2), (9, .iconst 0, 1), (10, .istore 5, 2), (12, .iload 5, 2), (14, .aload_n 0, 1), (15, .getfield 21, 3), (18, .if_icmp .gt 56, 3), (21, .iload 4, 2), (23, .sipush 9999, 3), (26, .if_icmp .gt 48, 3), (29, .aload_n 0, 1), (30, .iload_n 1, 1), (31, .iload 4, 2), (33, .invokevirtual 46, 3), (36, .istore 6, 2), (38, .iload 5, 2), (40, .iload_n 2, 1), (41, .if_icmp .ne 17, 3), (44, .iload_n 3, 1), (45, .ifCond .eq 10, 3), (48, .iload 6, 2), (50, .iconst 1, 1), (51, .isub, 1), (52, .goto 5, 3), (55, .iload 4, 2), (57, .ireturn, 1), (58, .aload_n 0, 1), (59, .iload_n 1, 1), (60, .iload 6, 2), (62, .iconst (-1), 1), (63, .invokevirtual 49, 3), (66, .istore 4, 2), (68, .iinc 5 1, 3), (71, .goto (-59), 3), (74, .iconst (-1), 1)] : List (Nat × Instr × Nat)), decode cX1_endOfGap q.1 = .ok q.2 := by decide +kernel
theorem dX1_endOfGap_0 : decode cX1_endOfGap 0 = .ok (.aload_n 0, 1) := DX1_endOfGap_0 (0, .aload_n 0, 1) (List.mem_of_getElem? (i := 0) rfl)
theorem dX1_endOfGap_1 : decode cX1_endOfGap 1 = .ok (.iload_n 1, 1) := DX1_endOfGap_0 (1, .iload_n 1, 1) (List.mem_of_getElem? (i := 1) rfl)
theorem dX1_endOfGap_2 : decode cX1_endOfGap 2 = .ok (.iconst 0, 1) := DX1_endOfGap_0 (2, .iconst 0, 1) (List.mem_of_getElem? (i := 2) rfl)
theorem dX1_endOfGap_3 : decode cX1_endOfGap 3 = .ok (.iconst (-1), 1) := DX1_endOfGap_0 (3, .iconst (-1), 1) (List.mem_of_getElem? (i := 3) rfl)
theorem dX1_endOfGap_4 : decode cX1_endOfGap 4 = .ok (.invokevirtual 49, 3) := DX1_endOfGap_0 (4, .invokevirtual 49, 3) (List.mem_of_getElem? (i := 4) rfl)
theorem dX1_endOfGap_7 : decode cX1_endOfGap 7 = .ok (.istore 4, 2) := DX1_endOfGap_0 (7, .istore 4, 2) (List.mem_of_getElem? (i := 5) rfl)
theorem dX1_endOfGap_9 : decode cX1_endOfGap 9 = .ok (.iconst 0, 1) := DX1_endOfGap_0 (9, .iconst 0, 1) (List.mem_of_getElem? (i := 6) rfl)
theorem dX1_endOfGap_10 : decode cX1_endOfGap 10 = .ok (.istore 5, 2) := DX1_endOfGap_0 (10, .istore 5, 2) (List.mem_of_getElem? (i := 7) rfl)
theorem dX1_endOfGap_12 : decode cX1_endOfGap 12 = .ok (.iload 5, 2) := DX1_endOfGap_0 (12, .iload 5, 2) (List.mem_of_getElem? (i := 8) rfl)
theorem dX1_endOfGap_14 : decode cX1_endOfGap 14 = .ok (.aload_n 0, 1) := DX1_endOfGap_0 (14, .aload_n 0, 1) (List.mem_of_getElem? (i := 9) rfl)
theorem dX1_endOfGap_15 : decode cX1_endOfGap 15 = .ok (.getfield 21, 3) := DX1_endOfGap_0 (15, .getfield 21, 3) (List.mem_of_getElem? (i := 10) rfl)
theorem dX1_endOfGap_18 : decode cX1_endOfGap 18 = .ok (.if_icmp .gt 56, 3) := DX1_endOfGap_0 (18, .if_icmp .gt 56, 3) (List.mem_of_getElem? (i := 11) rfl)
theorem dX1_endOfGap_21 : decode cX1_endOfGap 21 = .ok (.iload 4, 2) := DX1_endOfGap_0 (21, .iload 4, 2) (List.mem_of_getElem? (i := 12) rfl)
theorem dX1_endOfGap_23 : decode cX1_endOfGap 23 = .ok (.sipush 9999, 3) := DX1_endOfGap_0 (23, .sipush 9999, 3) (List.mem_of_getElem? (i := 13) rfl)
theorem dX1_endOfGap_26 : decode cX1_endOfGap 26 = .ok (.if_icmp .gt 48, 3) := DX1_endOfGap_0 (26, .if_icmp .gt 48, 3) (List.mem_of_getElem? (i := 14) rfl)
theorem dX1_endOfGap_29 : decode cX1_endOfGap 29 = .ok (.aload_n 0, 1) := DX1_endOfGap_0 (29, .aload_n 0, 1) (List.mem_of_getElem? (i := 15) rfl)
theorem dX1_endOfGap_30 : decode cX1_endOfGap 30 = .ok (.iload_n 1, 1) := DX1_endOfGap_0 (30, .iload_n 1, 1) (List.mem_of_getElem? (i := 16) rfl)
theorem dX1_endOfGap_31 : decode cX1_endOfGap 31 = .ok (.iload 4, 2) := DX1_endOfGap_0 (31, .iload 4, 2) (List.mem_of_getElem? (i := 17) rfl)
theorem dX1_endOfGap_33 : decode cX1_endOfGap 33 = .ok (.invokevirtual 46, 3) := DX1_endOfGap_0 (33, .invokevirtual 46, 3) (List.mem_of_getElem? (i := 18) rfl)
theorem dX1_endOfGap_36 : decode cX1_endOfGap 36 = .ok (.istore 6, 2) := DX1_endOfGap_0 (36, .istore 6, 2) (List.mem_of_getElem? (i := 19) rfl)
theorem dX1_endOfGap_38 : decode cX1_endOfGap 38 = .ok (.iload 5, 2) := DX1_endOfGap_0 (38, .iload 5, 2) (List.mem_of_getElem? (i := 20) rfl)
theorem dX1_endOfGap_40 : decode cX1_endOfGap 40 = .ok (.iload_n 2, 1) := DX1_endOfGap_0 (40, .iload_n 2, 1) (List.mem_of_getElem? (i := 21) rfl)
theorem dX1_endOfGap_41 : decode cX1_endOfGap 41 = .ok (.if_icmp .ne 17, 3) := DX1_endOfGap_0 (41, .if_icmp .ne 17, 3) (List.mem_of_getElem? (i := 22) rfl)
theorem dX1_endOfGap_44 : decode cX1_endOfGap 44 = .ok (.iload_n 3, 1) := DX1_endOfGap_0 (44, .iload_n 3, 1) (List.mem_of_getElem? (i := 23) rfl)
theorem dX1_endOfGap_45 : decode cX1_endOfGap 45 = .ok (.ifCond .eq 10, 3) := DX1_endOfGap_0 (45, .ifCond .eq 10, 3) (List.mem_of_getElem? (i := 24) rfl)
theorem dX1_endOfGap_48 : decode cX1_endOfGap 48 = .ok (.iload 6, 2) := DX1_endOfGap_0 (48, .iload 6, 2) (List.mem_of_getElem? (i := 25) rfl)
theorem dX1_endOfGap_50 : decode cX1_endOfGap 50 = .ok (.iconst 1, 1) := DX1_endOfGap_0 (50, .iconst 1, 1) (List.mem_of_getElem? (i := 26) rfl)
theorem dX1_endOfGap_51 : decode cX1_endOfGap 51 = .ok (.isub, 1) := DX1_endOfGap_0 (51, .isub, 1) (List.mem_of_getElem? (i := 27) rfl)
theorem dX1_endOfGap_52 : decode cX1_endOfGap 52 = .ok (.goto 5, 3) := DX1_endOfGap_0 (52, .goto 5, 3) (List.mem_of_getElem? (i := 28) rfl)
theorem dX1_endOfGap_55 : decode cX1_endOfGap 55 = .ok (.iload 4, 2) := DX1_endOfGap_0 (55, .iload 4, 2) (List.mem_of_getElem? (i := 29) rfl)
theorem dX1_endOfGap_57 : decode cX1_endOfGap 57 = .ok (.ireturn, 1) := DX1_endOfGap_0 (57, .ireturn, 1) (List.mem_of_getElem? (i := 30) rfl)
theorem dX1_endOfGap_58 : decode cX1_endOfGap 58 = .ok (.aload_n 0, 1) := DX1_endOfGap_0 (58, .aload_n 0, 1) (List.mem_of_getElem? (i := 31) rfl)
theorem dX1_endOfGap_59 : decode cX1_endOfGap 59 = .ok (.iload_n 1, 1) := DX1_endOfGap_0 (59, .iload_n 1, 1) (List.mem_of_getElem? (i := 32) rfl)
theorem dX1_endOfGap_60 : decode cX1_endOfGap 60 = .ok (.iload 6, 2) := DX1_endOfGap_0 (60, .iload 6, 2) (List.mem_of_getElem? (i := 33) rfl)
theorem dX1_endOfGap_62 : decode cX1_endOfGap 62 = .ok (.iconst (-1), 1) := DX1_endOfGap_0 (62, .iconst (-1), 1) (List.mem_of_getElem? (i := 34) rfl)
theorem dX1_endOfGap_63 : decode cX1_endOfGap 63 = .ok (.invokevirtual 49, 3) := DX1_endOfGap_0 (63, .invokevirtual 49, 3) (List.mem_of_getElem? (i := 35) rfl)
theorem dX1_endOfGap_66 : decode cX1_endOfGap 66 = .ok (.istore 4, 2) := DX1_endOfGap_0 (66, .istore 4, 2) (List.mem_of_getElem? (i := 36) rfl)
theorem dX1_endOfGap_68 : decode cX1_endOfGap 68 = .ok (.iinc 5 1, 3) := DX1_endOfGap_0 (68, .iinc 5 1, 3) (List.mem_of_getElem? (i := 37) rfl)
theorem dX1_endOfGap_71 : decode cX1_endOfGap 71 = .ok (.goto (-59), 3) := DX1_endOfGap_0 (71, .goto (-59), 3) (List.mem_of_getElem? (i := 38) rfl)
theorem dX1_endOfGap_74 : decode cX1_endOfGap 74 = .ok (.iconst (-1), 1) := DX1_endOfGap_0 (74, .iconst (-1), 1) (List.mem_of_getElem? (i := 39) rfl)
theorem DX1_endOfGap_1 : ∀ q ∈ ([(75, .ireturn, 1)] : List (Nat × Instr × Nat)), decode cX1_endOfGap q.1 = .ok q.2 := by decide +kernel
theorem dX1_endOfGap_75 : decode cX1_endOfGap 75 = .ok (.ireturn, 1) := DX1_endOfGap_1 (75, .ireturn, 1) (List.mem_of_getElem? (i := 0) rfl)
abbrev rmX1_endOfGap : Room := { frames := 2, cells := 0, slots := 0, locals := 85 }
set_option maxHeartbeats 400000 in
set_option maxRecDepth 100000 in
theorem met_X1_endOfGap (l : Launch) (D : va_G) (kA : Nat → ClassId) (a : Nat → Nat) (n : Nat) (V : Sz) (x1 : Int) (x2 : Int) (x3 : Int) {r : Int} (hf : f_X1_endOfGap n V x1 x2 x3 = some r) : MP l yX1_endOfGap cX1_endOfGap 7 (some .int) rmX1_endOfGap D kA [.ref (a 0), vI x1, vI x2, vI x3] (cs_X1 kA a V) (some (vI r)) := by
  refine zPI (own := RX1) rfl rfl (Nat.le_of_ble_eq_true rfl) ?_
  intro p e s m args below meth c ls Q hC hK hP hl hret
  have hl : lv_has ls 7 [(0, .ref (a 0)), (1, vI x1), (2, vI x2), (3, vI x3)] := hl
  unfold f_X1_endOfGap at hf
  have L12 : ∀ (k12 : Nat) (y4 : Int) (y5 : Int) (ls : Array Slot), lpF (bX1_endOfGap_12 n V x1 x2 x3) k12 (y4, y5) = some r → lv_has ls 7 [(0, .ref (a 0)), (1, vI x1), (2, vI x2), (3, vI x3), (4, vI y4), (5, vI y5)] → W p l e rmX1_endOfGap s m args below meth c s.heap [] 0 0 Q (F0 m 12 ls []) := by
    intro k12
    induction k12 with
    | zero => intro y4 y5 ls hf hl; exact lp_0 hf
    | succ k12 ih12 =>
      intro y4 y5 ls hf hl
      have hf := lp_s hf
      rw [bX1_endOfGap_12_e] at hf
      refine ziload hC.1 hC.2.1 dX1_endOfGap_12 (lv_at hl 5 rfl) <| lv_aload_n hC.1 hC.2.1 dX1_endOfGap_14 rfl (lv_at hl 0 rfl) <| gfX1_21 hC hK hP (q0 := 0) rfl rfl dX1_endOfGap_15 <| ?_
      obtain ⟨hz_2, hf⟩ := ck_some hf
      refine zicmp_gt (tgt := 74) hC.1 hC.2.1 ⟨hz_2.1, hz_2.2⟩ dX1_endOfGap_18 (by decide) (fun hc => ?_) (fun hc => ?_)
      · have hf := it_t hf hc
        exact ziconst hC.1 hC.2.1 dX1_endOfGap_74 <| hret (Int32.ofInt (-1)) _ _ (qI hf) dX1_endOfGap_75
      · have hf := it_f hf hc
        refine ziload hC.1 hC.2.1 dX1_endOfGap_21 (lv_at hl 4 rfl) <| zsipush hC.1 hC.2.1 dX1_endOfGap_23 (by decide) <| ?_
        obtain ⟨hz_3, hf⟩ := ck_some hf
        refine zicmp_gt (tgt := 74) hC.1 hC.2.1 ⟨hz_3, (by decide)⟩ dX1_endOfGap_26 (by decide) (fun hc => ?_) (fun hc => ?_)
        · have hf := it_t hf hc
          exact ziconst hC.1 hC.2.1 dX1_endOfGap_74 <| hret (Int32.ofInt (-1)) _ _ (qI hf) dX1_endOfGap_75
        · have hf := it_f hf hc
          refine lv_aload_n hC.1 hC.2.1 dX1_endOfGap_29 rfl (lv_at hl 0 rfl) <| ziload_n hC.1 hC.2.1 dX1_endOfGap_30 rfl (lv_at hl 1 rfl) <| ziload hC.1 hC.2.1 dX1_endOfGap_31 (lv_at hl 4 rfl) <| ?_
          obtain ⟨r_4, hu, hf⟩ := bd_some hf
          refine zcVP (As := [vI x1, vI y4]) (rest := []) hC hK (met_X1_coveredFrom l D kA a n V x1 y4 hu) zwX1_46 hP (q0 := 0) rfl rfl rfl rfl hl.1 rfl (Nat.le_of_ble_eq_true rfl) ⟨Nat.le_of_ble_eq_true rfl, Nat.le_of_ble_eq_true rfl⟩ ⟨rfl, rfl⟩ ⟨Nat.le_refl _, Nat.le_refl _⟩ dX1_endOfGap_33 <| zistore (lv' := [(6, vI r_4), (0, .ref (a 0)), (1, vI x1), (2, vI x2), (3, vI x3), (4, vI y4), (5, vI y5)]) hC.1 hC.2.1 dX1_endOfGap_36 hl (by decide) rfl (fun ls hl => ?_)
          refine ziload hC.1 hC.2.1 dX1_endOfGap_38 (lv_at hl 6 rfl) <| ziload_n hC.1 hC.2.1 dX1_endOfGap_40 rfl (lv_at hl 3 rfl) <| ?_
          obtain ⟨hz_5, hf⟩ := ck_some hf
          refine zicmp_ne (tgt := 58) hC.1 hC.2.1 ⟨hz_2.1, hz_5⟩ dX1_endOfGap_41 (by decide) (fun hc => ?_) (fun hc => ?_)
          · have hf := it_f hf hc
            refine lv_aload_n hC.1 hC.2.1 dX1_endOfGap_58 rfl (lv_at hl 1 rfl) <| ziload_n hC.1 hC.2.1 dX1_endOfGap_59 rfl (lv_at hl 2 rfl) <| ziload hC.1 hC.2.1 dX1_endOfGap_60 (lv_at hl 0 rfl) <| ziconst hC.1 hC.2.1 dX1_endOfGap_62 <| ?_
            obtain ⟨r_6, hu, hf⟩ := bd_some hf
            refine zcVP (As := [vI x1, vI r_4, vI (-1)]) (rest := []) hC hK (met_X1_openFrom l D kA a n V x1 r_4 (-1) hu) zwX1_49 hP (q0 := 0) rfl rfl rfl rfl hl.1 rfl (Nat.le_of_ble_eq_true rfl) ⟨Nat.le_of_ble_eq_true rfl, Nat.le_of_ble_eq_true rfl⟩ ⟨rfl, rfl⟩ ⟨Nat.le_refl _, Nat.le_refl _⟩ dX1_endOfGap_63 <| zistore (lv' := [(4, vI r_6), (6, vI r_4), (0, .ref (a 0)), (1, vI x1), (2, vI x2), (3, vI x3), (5, vI y5)]) hC.1 hC.2.1 dX1_endOfGap_66 hl (by decide) rfl (fun ls hl => ?_)
            obtain ⟨x_7, ex_7⟩ : ∃ y : Int, y = y5 + 1 := ⟨_, rfl⟩
            have hf := nm_at hf ex_7
            refine ziinc (v := x_7) (lv' := [(5, vI x_7), (4, vI r_6), (6, vI r_4), (0, .ref (a 0)), (1, vI x1), (2, vI x2), (3, vI x3)]) hC.1 hC.2.1 dX1_endOfGap_68 hl (k := 6) rfl ex_7 (by decide) rfl (fun ls hl => ?_)
            exact lv_goto (tgt := 12) hC.1 hC.2.1 dX1_endOfGap_71 (by decide) <| ih12 _ _ _ hf (lv_sub hl [3, 4, 5, 6, 1, 0] rfl)
          · have hf := it_t hf hc
            refine ziload_n hC.1 hC.2.1 dX1_endOfGap_44 rfl (lv_at hl 4 rfl) <| ?_
            obtain ⟨hz_8, hf⟩ := ck_some hf
            refine zif_eq (tgt := 55) hC.1 hC.2.1 hz_8 dX1_endOfGap_45 (by decide) (fun hc => ?_) (fun hc => ?_)
            · have hf := it_t hf hc
              exact ziload hC.1 hC.2.1 dX1_endOfGap_55 (lv_at hl 5 rfl) <| hret (Int32.ofInt y4) _ _ (qI hf) dX1_endOfGap_57
            · have hf := it_f hf hc
              exact ziload hC.1 hC.2.1 dX1_endOfGap_48 (lv_at hl 0 rfl) <| ziconst hC.1 hC.2.1 dX1_endOfGap_50 <| zisub hC.1 hC.2.1 dX1_endOfGap_51 <| lv_goto (tgt := 57) hC.1 hC.2.1 dX1_endOfGap_52 (by decide) <| hret (Int32.ofInt (r_4 - 1)) _ _ (qI hf) dX1_endOfGap_57
  refine lv_aload_n hC.1 hC.2.1 dX1_endOfGap_0 rfl (lv_at hl 0 rfl) <| ziload_n hC.1 hC.2.1 dX1_endOfGap_1 rfl (lv_at hl 1 rfl) <| ziconst hC.1 hC.2.1 dX1_endOfGap_2 <| ziconst hC.1 hC.2.1 dX1_endOfGap_3 <| ?_
  obtain ⟨r_1, hu, hf⟩ := bd_some hf
  refine zcVP (As := [vI x1, vI 0, vI (-1)]) (rest := []) hC hK (met_X1_openFrom l D kA a n V x1 0 (-1) hu) zwX1_49 hP (q0 := 0) rfl rfl rfl rfl hl.1 rfl (Nat.le_of_ble_eq_true rfl) ⟨Nat.le_of_ble_eq_true rfl, Nat.le_of_ble_eq_true rfl⟩ ⟨rfl, rfl⟩ ⟨Nat.le_refl _, Nat.le_refl _⟩ dX1_endOfGap_4 <| zistore (lv' := [(4, vI r_1), (0, .ref (a 0)), (1, vI x1), (2, vI x2), (3, vI x3)]) hC.1 hC.2.1 dX1_endOfGap_7 hl (by decide) rfl (fun ls hl => ?_)
  refine ziconst hC.1 hC.2.1 dX1_endOfGap_9 <| zistore (lv' := [(5, vI 0), (4, vI r_1), (0, .ref (a 0)), (1, vI x1), (2, vI x2), (3, vI x3)]) hC.1 hC.2.1 dX1_endOfGap_10 hl (by decide) rfl (fun ls hl => ?_)
  exact L12 n _ _ _ hf (lv_sub hl [2, 3, 4, 5, 1, 0] rfl)
theorem DX1_longestRun_0 : ∀ q ∈ ([(0, .iconst 0, 1), (1, .istore_n 2, 1), (2, .aload_n 0, 1), (3, .iload_n 1, 1), (4, .iconst 0, 1), (5, .invokevirtual 46, 3), (8, .istore_n 3, 1), (9, .iconst 0, 1), (10, .istore 4, 2), (12, .iload 4, 2), (14, .aload_n 0, 1), (15, .getfield 21, 3), (18, .if_icmp .ge 42, 3), (21, .iload_n 3, 1), (22, .sipush 9999, 3), (25, .if_icmp .gt 35, 3), (28, .aload_n 0, 1), (29, .iload_n 1, 1), (30, .iload_n 3, 1), (31, .iconst (-1), 1), (32, .invokevirtual 49, 3), (35, .istore 5, 2), (37, .iload_n 2, 1), (38, .iload 5, 2), (40, .iload_n 3, 1), (41, .isub, 1), (42, .invokestatic 39, 3), (45, .istore_n 2, 1), (46, .aload_n 0, 1), (47, .iload_n 1, 1), (48, .iload 5, 2), (50, .invokevirtual 46, 3), (53, .istore_n 3, 1), (54, .iinc 4 1, 3), (57, .goto (-45), 3), (60, .iload_n 2, 1), (61, .ireturn, 1)] : List (Nat × Instr × Nat)), decode cX1_longestRun q.1 = .ok q.2 := by decide +kernel
theorem dX1_longestRun_0 : decode cX1_longestRun 0 = .ok (.iconst 0, 1) := DX1_longestRun_0 (0, .iconst 0, 1) (List.mem_of_getElem? (i := 0) rfl)
theorem dX1_longestRun_1 : decode cX1_longestRun 1 = .ok (.istore_n 2, 1) := DX1_longestRun_0 (1, .istore_n 2, 1) (List.mem_of_getElem? (i := 1) rfl)
theorem dX1_longestRun_2 : decode cX1_longestRun 2 = .ok (.aload_n 0, 1) := DX1_longestRun_0 (2, .aload_n 0, 1) (List.mem_of_getElem? (i := 2) rfl)
theorem dX1_longestRun_3 : decode cX1_longestRun 3 = .ok (.iload_n 1, 1) := DX1_longestRun_0 (3, .iload_n 1, 1) (List.mem_of_getElem? (i := 3) rfl)
theorem dX1_longestRun_4 : decode cX1_longestRun 4 = .ok (.iconst 0, 1) := DX1_longestRun_0 (4, .iconst 0, 1) (List.mem_of_getElem? (i := 4) rfl)
theorem dX1_longestRun_5 : decode cX1_longestRun 5 = .ok (.invokevirtual 46, 3) := DX1_longestRun_0 (5, .invokevirtual 46, 3) (List.mem_of_getElem? (i := 5) rfl)
theorem dX1_longestRun_8 : decode cX1_longestRun 8 = .ok (.istore_n 3, 1) := DX1_longestRun_0 (8, .istore_n 3, 1) (List.mem_of_getElem? (i := 6) rfl)
theorem dX1_longestRun_9 : decode cX1_longestRun 9 = .ok (.iconst 0, 1) := DX1_longestRun_0 (9, .iconst 0, 1) (List.mem_of_getElem? (i := 7) rfl)
theorem dX1_longestRun_10 : decode cX1_longestRun 10 = .ok (.istore 4, 2) := DX1_longestRun_0 (10, .istore 4, 2) (List.mem_of_getElem? (i := 8) rfl)
theorem dX1_longestRun_12 : decode cX1_longestRun 12 = .ok (.iload 4, 2) := DX1_longestRun_0 (12, .iload 4, 2) (List.mem_of_getElem? (i := 9) rfl)
theorem dX1_longestRun_14 : decode cX1_longestRun 14 = .ok (.aload_n 0, 1) := DX1_longestRun_0 (14, .aload_n 0, 1) (List.mem_of_getElem? (i := 10) rfl)
theorem dX1_longestRun_15 : decode cX1_longestRun 15 = .ok (.getfield 21, 3) := DX1_longestRun_0 (15, .getfield 21, 3) (List.mem_of_getElem? (i := 11) rfl)
theorem dX1_longestRun_18 : decode cX1_longestRun 18 = .ok (.if_icmp .ge 42, 3) := DX1_longestRun_0 (18, .if_icmp .ge 42, 3) (List.mem_of_getElem? (i := 12) rfl)
theorem dX1_longestRun_21 : decode cX1_longestRun 21 = .ok (.iload_n 3, 1) := DX1_longestRun_0 (21, .iload_n 3, 1) (List.mem_of_getElem? (i := 13) rfl)
theorem dX1_longestRun_22 : decode cX1_longestRun 22 = .ok (.sipush 9999, 3) := DX1_longestRun_0 (22, .sipush 9999, 3) (List.mem_of_getElem? (i := 14) rfl)
theorem dX1_longestRun_25 : decode cX1_longestRun 25 = .ok (.if_icmp .gt 35, 3) := DX1_longestRun_0 (25, .if_icmp .gt 35, 3) (List.mem_of_getElem? (i := 15) rfl)
theorem dX1_longestRun_28 : decode cX1_longestRun 28 = .ok (.aload_n 0, 1) := DX1_longestRun_0 (28, .aload_n 0, 1) (List.mem_of_getElem? (i := 16) rfl)
theorem dX1_longestRun_29 : decode cX1_longestRun 29 = .ok (.iload_n 1, 1) := DX1_longestRun_0 (29, .iload_n 1, 1) (List.mem_of_getElem? (i := 17) rfl)
theorem dX1_longestRun_30 : decode cX1_longestRun 30 = .ok (.iload_n 3, 1) := DX1_longestRun_0 (30, .iload_n 3, 1) (List.mem_of_getElem? (i := 18) rfl)
theorem dX1_longestRun_31 : decode cX1_longestRun 31 = .ok (.iconst (-1), 1) := DX1_longestRun_0 (31, .iconst (-1), 1) (List.mem_of_getElem? (i := 19) rfl)
theorem dX1_longestRun_32 : decode cX1_longestRun 32 = .ok (.invokevirtual 49, 3) := DX1_longestRun_0 (32, .invokevirtual 49, 3) (List.mem_of_getElem? (i := 20) rfl)
theorem dX1_longestRun_35 : decode cX1_longestRun 35 = .ok (.istore 5, 2) := DX1_longestRun_0 (35, .istore 5, 2) (List.mem_of_getElem? (i := 21) rfl)
theorem dX1_longestRun_37 : decode cX1_longestRun 37 = .ok (.iload_n 2, 1) := DX1_longestRun_0 (37, .iload_n 2, 1) (List.mem_of_getElem? (i := 22) rfl)
theorem dX1_longestRun_38 : decode cX1_longestRun 38 = .ok (.iload 5, 2) := DX1_longestRun_0 (38, .iload 5, 2) (List.mem_of_getElem? (i := 23) rfl)
theorem dX1_longestRun_40 : decode cX1_longestRun 40 = .ok (.iload_n 3, 1) := DX1_longestRun_0 (40, .iload_n 3, 1) (List.mem_of_getElem? (i := 24) rfl)
theorem dX1_longestRun_41 : decode cX1_longestRun 41 = .ok (.isub, 1) := DX1_longestRun_0 (41, .isub, 1) (List.mem_of_getElem? (i := 25) rfl)
theorem dX1_longestRun_42 : decode cX1_longestRun 42 = .ok (.invokestatic 39, 3) := DX1_longestRun_0 (42, .invokestatic 39, 3) (List.mem_of_getElem? (i := 26) rfl)
theorem dX1_longestRun_45 : decode cX1_longestRun 45 = .ok (.istore_n 2, 1) := DX1_longestRun_0 (45, .istore_n 2, 1) (List.mem_of_getElem? (i := 27) rfl)
theorem dX1_longestRun_46 : decode cX1_longestRun 46 = .ok (.aload_n 0, 1) := DX1_longestRun_0 (46, .aload_n 0, 1) (List.mem_of_getElem? (i := 28) rfl)
theorem dX1_longestRun_47 : decode cX1_longestRun 47 = .ok (.iload_n 1, 1) := DX1_longestRun_0 (47, .iload_n 1, 1) (List.mem_of_getElem? (i := 29) rfl)
theorem dX1_longestRun_48 : decode cX1_longestRun 48 = .ok (.iload 5, 2) := DX1_longestRun_0 (48, .iload 5, 2) (List.mem_of_getElem? (i := 30) rfl)
theorem dX1_longestRun_50 : decode cX1_longestRun 50 = .ok (.invokevirtual 46, 3) := DX1_longestRun_0 (50, .invokevirtual 46, 3) (List.mem_of_getElem? (i := 31) rfl)
theorem dX1_longestRun_53 : decode cX1_longestRun 53 = .ok (.istore_n 3, 1) := DX1_longestRun_0 (53, .istore_n 3, 1) (List.mem_of_getElem? (i := 32) rfl)
theorem dX1_longestRun_54 : decode cX1_longestRun 54 = .ok (.iinc 4 1, 3) := DX1_longestRun_0 (54, .iinc 4 1, 3) (List.mem_of_getElem? (i := 33) rfl)
theorem dX1_longestRun_57 : decode cX1_longestRun 57 = .ok (.goto (-45), 3) := DX1_longestRun_0 (57, .goto (-45), 3) (List.mem_of_getElem? (i := 34) rfl)
theorem dX1_longestRun_60 : decode cX1_longestRun 60 = .ok (.iload_n 2, 1) := DX1_longestRun_0 (60, .iload_n 2, 1) (List.mem_of_getElem? (i := 35) rfl)
theorem dX1_longestRun_61 : decode cX1_longestRun 61 = .ok (.ireturn, 1) := DX1_longestRun_0 (61, .ireturn, 1) (List.mem_of_getElem? (i := 36) rfl)
abbrev rmX1_longestRun : Room := { frames := 2, cells := 0, slots := 0, locals := 85 }
set_option maxHeartbeats 400000 in
set_option maxRecDepth 100000 in
theorem met_X1_longestRun (l : Launch) (D : va_G) (kA : Nat → ClassId) (a : Nat → Nat) (n : Nat) (V : Sz) (x1 : Int) {r : Int} (hf : f_X1_longestRun n V x1 = some r) : MP l yX1_longestRun cX1_longestRun 6 (some .int) rmX1_longestRun D kA [.ref (a 0), vI x1] (cs_X1 kA a V) (some (vI r)) := by
  refine zPI (own := RX1) rfl rfl (Nat.le_of_ble_eq_true rfl) ?_
  intro p e s m args below meth c ls Q hC hK hP hl hret
  have hl : lv_has ls 6 [(0, .ref (a 0)), (1, vI x1)] := hl
  unfold f_X1_longestRun at hf
  have L12 : ∀ (k12 : Nat) (y2 : Int) (y3 : Int) (y4 : Int) (ls : Array Slot), lpF (bX1_longestRun_12 n V x1) k12 (y2, y3, y4) = some r → lv_has ls 6 [(0, .ref (a 0)), (1, vI x1), (2, vI y2), (3, vI y3), (4, vI y4)] → W p l e rmX1_longestRun s m args below meth c s.heap [] 0 0 Q (F0 m 12 ls []) := by
    intro k12
    induction k12 with
    | zero => intro y2 y3 y4 ls hf hl; exact lp_0 hf
    | succ k12 ih12 =>
      intro y2 y3 y4 ls hf hl
      have hf := lp_s hf
      rw [bX1_longestRun_12_e] at hf
      refine ziload hC.1 hC.2.1 dX1_longestRun_12 (lv_at hl 4 rfl) <| lv_aload_n hC.1 hC.2.1 dX1_longestRun_14 rfl (lv_at hl 0 rfl) <| gfX1_21 hC hK hP (q0 := 0) rfl rfl dX1_longestRun_15 <| ?_
      obtain ⟨hz_2, hf⟩ := ck_some hf
      refine zicmp_ge (tgt := 60) hC.1 hC.2.1 ⟨hz_2.1, hz_2.2⟩ dX1_longestRun_18 (by decide) (fun hc => ?_) (fun hc => ?_)
      · have hf := it_t hf hc
        exact ziload_n hC.1 hC.2.1 dX1_longestRun_60 rfl (lv_at hl 2 rfl) <| hret (Int32.ofInt y2) _ _ (qI hf) dX1_longestRun_61
      · have hf := it_f hf hc
        refine ziload_n hC.1 hC.2.1 dX1_longestRun_21 rfl (lv_at hl 3 rfl) <| zsipush hC.1 hC.2.1 dX1_longestRun_22 (by decide) <| ?_
        obtain ⟨hz_3, hf⟩ := ck_some hf
        refine zicmp_gt (tgt := 60) hC.1 hC.2.1 ⟨hz_3, (by decide)⟩ dX1_longestRun_25 (by decide) (fun hc => ?_) (fun hc => ?_)
        · have hf := it_t hf hc
          exact ziload_n hC.1 hC.2.1 dX1_longestRun_60 rfl (lv_at hl 2 rfl) <| hret (Int32.ofInt y2) _ _ (qI hf) dX1_longestRun_61
        · have hf := it_f hf hc
          refine lv_aload_n hC.1 hC.2.1 dX1_longestRun_28 rfl (lv_at hl 0 rfl) <| ziload_n hC.1 hC.2.1 dX1_longestRun_29 rfl (lv_at hl 1 rfl) <| ziload_n hC.1 hC.2.1 dX1_longestRun_30 rfl (lv_at hl 3 rfl) <| ziconst hC.1 hC.2.1 dX1_longestRun_31 <| ?_
          obtain ⟨r_4, hu, hf⟩ := bd_some hf
          refine zcVP (As := [vI x1, vI y3, vI (-1)]) (rest := []) hC hK (met_X1_openFrom l D kA a n V x1 y3 (-1) hu) zwX1_49 hP (q0 := 0) rfl rfl rfl rfl hl.1 rfl (Nat.le_of_ble_eq_true rfl) ⟨Nat.le_of_ble_eq_true rfl, Nat.le_of_ble_eq_true rfl⟩ ⟨rfl, rfl⟩ ⟨Nat.le_refl _, Nat.le_refl _⟩ dX1_longestRun_32 <| zistore (lv' := [(5, vI r_4), (0, .ref (a 0)), (1, vI x1), (2, vI y2), (3, vI y3), (4, vI y4)]) hC.1 hC.2.1 dX1_longestRun_35 hl (by decide) rfl (fun ls hl => ?_)
          refine ziload_n hC.1 hC.2.1 dX1_longestRun_37 rfl (lv_at hl 3 rfl) <| ziload hC.1 hC.2.1 dX1_longestRun_38 (lv_at hl 0 rfl) <| ziload_n hC.1 hC.2.1 dX1_longestRun_40 rfl (lv_at hl 4 rfl) <| zisub hC.1 hC.2.1 dX1_longestRun_41 <| ?_
          obtain ⟨hz_5, hf⟩ := ck_some hf
          refine jmax ⟨hz_5.1, hz_5.2⟩ hC qw_751 hl.1 (Nat.le_of_ble_eq_true rfl) ⟨Nat.le_of_ble_eq_true rfl, Nat.le_of_ble_eq_true rfl⟩ ⟨Nat.le_refl _, Nat.le_refl _⟩ dX1_longestRun_42 <| ?_
          refine ztopi (fun x_6 ex_6 => ?_)
          have hf := nm_at hf ex_6
          refine zistore_n (lv' := [(2, vI x_6), (5, vI r_4), (0, .ref (a 0)), (1, vI x1), (3, vI y3), (4, vI y4)]) hC.1 hC.2.1 dX1_longestRun_45 rfl hl (by decide) rfl (fun ls hl => ?_)
          refine lv_aload_n hC.1 hC.2.1 dX1_longestRun_46 rfl (lv_at hl 2 rfl) <| ziload_n hC.1 hC.2.1 dX1_longestRun_47 rfl (lv_at hl 3 rfl) <| ziload hC.1 hC.2.1 dX1_longestRun_48 (lv_at hl 1 rfl) <| ?_
          obtain ⟨r_7, hu, hf⟩ := bd_some hf
          refine zcVP (As := [vI x1, vI r_4]) (rest := []) hC hK (met_X1_coveredFrom l D kA a n V x1 r_4 hu) zwX1_46 hP (q0 := 0) rfl rfl rfl rfl hl.1 rfl (Nat.le_of_ble_eq_true rfl) ⟨Nat.le_of_ble_eq_true rfl, Nat.le_of_ble_eq_true rfl⟩ ⟨rfl, rfl⟩ ⟨Nat.le_refl _, Nat.le_refl _⟩ dX1_longestRun_50 <| zistore_n (lv' := [(3, vI r_7), (2, vI x_6), (5, vI r_4), (0, .ref (a 0)), (1, vI x1), (4, vI y4)]) hC.1 hC.2.1 dX1_longestRun_53 rfl hl (by decide) rfl (fun ls hl => ?_)
          obtain ⟨x_8, ex_8⟩ : ∃ y : Int, y = y4 + 1 := ⟨_, rfl⟩
          have hf := nm_at hf ex_8
          refine ziinc (v := x_8) (lv' := [(4, vI x_8), (3, vI r_7), (2, vI x_6), (5, vI r_4), (0, .ref (a 0)), (1, vI x1)]) hC.1 hC.2.1 dX1_longestRun_54 hl (k := 5) rfl ex_8 (by decide) rfl (fun ls hl => ?_)
          exact lv_goto (tgt := 12) hC.1 hC.2.1 dX1_longestRun_57 (by decide) <| ih12 _ _ _ _ hf (lv_sub hl [4, 5, 2, 1, 0] rfl)
  refine ziconst hC.1 hC.2.1 dX1_longestRun_0 <| zistore_n (lv' := [(2, vI 0), (0, .ref (a 0)), (1, vI x1)]) hC.1 hC.2.1 dX1_longestRun_1 rfl hl (by decide) rfl (fun ls hl => ?_)
  refine lv_aload_n hC.1 hC.2.1 dX1_longestRun_2 rfl (lv_at hl 1 rfl) <| ziload_n hC.1 hC.2.1 dX1_longestRun_3 rfl (lv_at hl 2 rfl) <| ziconst hC.1 hC.2.1 dX1_longestRun_4 <| ?_
  obtain ⟨r_1, hu, hf⟩ := bd_some hf
  refine zcVP (As := [vI x1, vI 0]) (rest := []) hC hK (met_X1_coveredFrom l D kA a n V x1 0 hu) zwX1_46 hP (q0 := 0) rfl rfl rfl rfl hl.1 rfl (Nat.le_of_ble_eq_true rfl) ⟨Nat.le_of_ble_eq_true rfl, Nat.le_of_ble_eq_true rfl⟩ ⟨rfl, rfl⟩ ⟨Nat.le_refl _, Nat.le_refl _⟩ dX1_longestRun_5 <| zistore_n (lv' := [(3, vI r_1), (2, vI 0), (0, .ref (a 0)), (1, vI x1)]) hC.1 hC.2.1 dX1_longestRun_8 rfl hl (by decide) rfl (fun ls hl => ?_)
  refine ziconst hC.1 hC.2.1 dX1_longestRun_9 <| zistore (lv' := [(4, vI 0), (3, vI r_1), (2, vI 0), (0, .ref (a 0)), (1, vI x1)]) hC.1 hC.2.1 dX1_longestRun_10 hl (by decide) rfl (fun ls hl => ?_)
  exact L12 n _ _ _ _ hf (lv_sub hl [3, 4, 2, 1, 0] rfl)
theorem DX1_countNeedless_0 : ∀ q ∈ ([(0, .iconst 0, 1), (1, .istore_n 2, 1), (2, .iconst 0, 1), (3, .istore_n 3, 1), (4, .iload_n 3, 1), (5, .aload_n 0, 1), (6, .getfield 21, 3), (9, .if_icmp .ge 43, 3), (12, .aload_n 0, 1), (13, .getfield 9, 3), (16, .iload_n 3, 1), (17, .iaload, 1), (18, .iload_n 1, 1), (19, .if_icmp .ne 27, 3), (22, .aload_n 0, 1), (23, .iload_n 1, 1), (24, .aload_n 0, 1), (25, .getfield 15, 3), (28, .iload_n 3, 1), (29, .iaload, 1), (30, .iload_n 3, 1), (31, .invokevirtual 49, 3), (34, .aload_n 0, 1), (35, .getfield 18, 3), (38, .iload_n 3, 1), (39, .iaload, 1), (40, .if_icmp .le 6, 3), (43, .iinc 2 1, 3), (46, .iinc 3 1, 3), (49, .goto (-45), 3), (52, .iload_n 2, 1), (53, .ireturn, 1)] : List (Nat × Instr × Nat)), decode cX1_countNeedless q.1 = .ok q.2 := by decide +kernel
theorem dX1_countNeedless_0 : decode cX1_countNeedless 0 = .ok (.iconst 0, 1) := DX1_countNeedless_0 (0, .iconst 0, 1) (List.mem_of_getElem? (i := 0) rfl)
theorem dX1_countNeedless_1 : decode cX1_countNeedless 1 = .ok (.istore_n 2, 1) := DX1_countNeedless_0 (1, .istore_n 2, 1) (List.mem_of_getElem? (i := 1) rfl)
theorem dX1_countNeedless_2 : decode cX1_countNeedless 2 = .ok (.iconst 0, 1) := DX1_countNeedless_0 (2, .iconst 0, 1) (List.mem_of_getElem? (i := 2) rfl)
theorem dX1_countNeedless_3 : decode cX1_countNeedless 3 = .ok (.istore_n 3, 1) := DX1_countNeedless_0 (3, .istore_n 3, 1) (List.mem_of_getElem? (i := 3) rfl)
theorem dX1_countNeedless_4 : decode cX1_countNeedless 4 = .ok (.iload_n 3, 1) := DX1_countNeedless_0 (4, .iload_n 3, 1) (List.mem_of_getElem? (i := 4) rfl)
theorem dX1_countNeedless_5 : decode cX1_countNeedless 5 = .ok (.aload_n 0, 1) := DX1_countNeedless_0 (5, .aload_n 0, 1) (List.mem_of_getElem? (i := 5) rfl)
theorem dX1_countNeedless_6 : decode cX1_countNeedless 6 = .ok (.getfield 21, 3) := DX1_countNeedless_0 (6, .getfield 21, 3) (List.mem_of_getElem? (i := 6) rfl)
theorem dX1_countNeedless_9 : decode cX1_countNeedless 9 = .ok (.if_icmp .ge 43, 3) := DX1_countNeedless_0 (9, .if_icmp .ge 43, 3) (List.mem_of_getElem? (i := 7) rfl)
theorem dX1_countNeedless_12 : decode cX1_countNeedless 12 = .ok (.aload_n 0, 1) := DX1_countNeedless_0 (12, .aload_n 0, 1) (List.mem_of_getElem? (i := 8) rfl)
theorem dX1_countNeedless_13 : decode cX1_countNeedless 13 = .ok (.getfield 9, 3) := DX1_countNeedless_0 (13, .getfield 9, 3) (List.mem_of_getElem? (i := 9) rfl)
theorem dX1_countNeedless_16 : decode cX1_countNeedless 16 = .ok (.iload_n 3, 1) := DX1_countNeedless_0 (16, .iload_n 3, 1) (List.mem_of_getElem? (i := 10) rfl)
theorem dX1_countNeedless_17 : decode cX1_countNeedless 17 = .ok (.iaload, 1) := DX1_countNeedless_0 (17, .iaload, 1) (List.mem_of_getElem? (i := 11) rfl)
theorem dX1_countNeedless_18 : decode cX1_countNeedless 18 = .ok (.iload_n 1, 1) := DX1_countNeedless_0 (18, .iload_n 1, 1) (List.mem_of_getElem? (i := 12) rfl)
theorem dX1_countNeedless_19 : decode cX1_countNeedless 19 = .ok (.if_icmp .ne 27, 3) := DX1_countNeedless_0 (19, .if_icmp .ne 27, 3) (List.mem_of_getElem? (i := 13) rfl)
theorem dX1_countNeedless_22 : decode cX1_countNeedless 22 = .ok (.aload_n 0, 1) := DX1_countNeedless_0 (22, .aload_n 0, 1) (List.mem_of_getElem? (i := 14) rfl)
theorem dX1_countNeedless_23 : decode cX1_countNeedless 23 = .ok (.iload_n 1, 1) := DX1_countNeedless_0 (23, .iload_n 1, 1) (List.mem_of_getElem? (i := 15) rfl)
theorem dX1_countNeedless_24 : decode cX1_countNeedless 24 = .ok (.aload_n 0, 1) := DX1_countNeedless_0 (24, .aload_n 0, 1) (List.mem_of_getElem? (i := 16) rfl)
theorem dX1_countNeedless_25 : decode cX1_countNeedless 25 = .ok (.getfield 15, 3) := DX1_countNeedless_0 (25, .getfield 15, 3) (List.mem_of_getElem? (i := 17) rfl)
theorem dX1_countNeedless_28 : decode cX1_countNeedless 28 = .ok (.iload_n 3, 1) := DX1_countNeedless_0 (28, .iload_n 3, 1) (List.mem_of_getElem? (i := 18) rfl)
theorem dX1_countNeedless_29 : decode cX1_countNeedless 29 = .ok (.iaload, 1) := DX1_countNeedless_0 (29, .iaload, 1) (List.mem_of_getElem? (i := 19) rfl)
theorem dX1_countNeedless_30 : decode cX1_countNeedless 30 = .ok (.iload_n 3, 1) := DX1_countNeedless_0 (30, .iload_n 3, 1) (List.mem_of_getElem? (i := 20) rfl)
theorem dX1_countNeedless_31 : decode cX1_countNeedless 31 = .ok (.invokevirtual 49, 3) := DX1_countNeedless_0 (31, .invokevirtual 49, 3) (List.mem_of_getElem? (i := 21) rfl)
theorem dX1_countNeedless_34 : decode cX1_countNeedless 34 = .ok (.aload_n 0, 1) := DX1_countNeedless_0 (34, .aload_n 0, 1) (List.mem_of_getElem? (i := 22) rfl)
theorem dX1_countNeedless_35 : decode cX1_countNeedless 35 = .ok (.getfield 18, 3) := DX1_countNeedless_0 (35, .getfield 18, 3) (List.mem_of_getElem? (i := 23) rfl)
theorem dX1_countNeedless_38 : decode cX1_countNeedless 38 = .ok (.iload_n 3, 1) := DX1_countNeedless_0 (38, .iload_n 3, 1) (List.mem_of_getElem? (i := 24) rfl)
theorem dX1_countNeedless_39 : decode cX1_countNeedless 39 = .ok (.iaload, 1) := DX1_countNeedless_0 (39, .iaload, 1) (List.mem_of_getElem? (i := 25) rfl)
theorem dX1_countNeedless_40 : decode cX1_countNeedless 40 = .ok (.if_icmp .le 6, 3) := DX1_countNeedless_0 (40, .if_icmp .le 6, 3) (List.mem_of_getElem? (i := 26) rfl)
theorem dX1_countNeedless_43 : decode cX1_countNeedless 43 = .ok (.iinc 2 1, 3) := DX1_countNeedless_0 (43, .iinc 2 1, 3) (List.mem_of_getElem? (i := 27) rfl)
theorem dX1_countNeedless_46 : decode cX1_countNeedless 46 = .ok (.iinc 3 1, 3) := DX1_countNeedless_0 (46, .iinc 3 1, 3) (List.mem_of_getElem? (i := 28) rfl)
theorem dX1_countNeedless_49 : decode cX1_countNeedless 49 = .ok (.goto (-45), 3) := DX1_countNeedless_0 (49, .goto (-45), 3) (List.mem_of_getElem? (i := 29) rfl)
theorem dX1_countNeedless_52 : decode cX1_countNeedless 52 = .ok (.iload_n 2, 1) := DX1_countNeedless_0 (52, .iload_n 2, 1) (List.mem_of_getElem? (i := 30) rfl)
theorem dX1_countNeedless_53 : decode cX1_countNeedless 53 = .ok (.ireturn, 1) := DX1_countNeedless_0 (53, .ireturn, 1) (List.mem_of_getElem? (i := 31) rfl)
abbrev rmX1_countNeedless : Room := { frames := 2, cells := 0, slots := 0, locals := 50 }
set_option maxHeartbeats 400000 in
set_option maxRecDepth 100000 in
theorem met_X1_countNeedless (l : Launch) (D : va_G) (kA : Nat → ClassId) (a : Nat → Nat) (n : Nat) (V : Sz) (x1 : Int) {r : Int} (hf : f_X1_countNeedless n V x1 = some r) : MP l yX1_countNeedless cX1_countNeedless 4 (some .int) rmX1_countNeedless D kA [.ref (a 0), vI x1] (cs_X1 kA a V) (some (vI r)) := by
  refine zPI (own := RX1) rfl rfl (Nat.le_of_ble_eq_true rfl) ?_
  intro p e s m args below meth c ls Q hC hK hP hl hret
  have hl : lv_has ls 4 [(0, .ref (a 0)), (1, vI x1)] := hl
  unfold f_X1_countNeedless at hf
  have L4 : ∀ (k4 : Nat) (y2 : Int) (y3 : Int) (ls : Array Slot), lpF (bX1_countNeedless_4 n V x1) k4 (y2, y3) = some r → lv_has ls 4 [(0, .ref (a 0)), (1, vI x1), (2, vI y2), (3, vI y3)] → W p l e rmX1_countNeedless s m args below meth c s.heap [] 0 0 Q (F0 m 4 ls []) := by
    intro k4
    induction k4 with
    | zero => intro y2 y3 ls hf hl; exact lp_0 hf
    | succ k4 ih4 =>
      intro y2 y3 ls hf hl
      have hf := lp_s hf
      rw [bX1_countNeedless_4_e] at hf
      have J46 : ∀ (y2 : Int) (y3 : Int) (ls : Array Slot), jX1_countNeedless_46 n V x1 (lpF (bX1_countNeedless_4 n V x1) k4) y2 y3 = some r → lv_has ls 4 [(0, .ref (a 0)), (1, vI x1), (2, vI y2), (3, vI y3)] → W p l e rmX1_countNeedless s m args below meth c s.heap [] 0 0 Q (F0 m 46 ls []) := by
        intro y2 y3 ls hf hl
        unfold jX1_countNeedless_46 at hf
        obtain ⟨x_4, ex_4⟩ : ∃ y : Int, y = y3 + 1 := ⟨_, rfl⟩
        have hf := nm_at hf ex_4
        refine ziinc (v := x_4) (lv' := [(3, vI x_4), (0, .ref (a 0)), (1, vI x1), (2, vI y2)]) hC.1 hC.2.1 dX1_countNeedless_46 hl (k := 3) rfl ex_4 (by decide) rfl (fun ls hl => ?_)
        exact lv_goto (tgt := 4) hC.1 hC.2.1 dX1_countNeedless_49 (by decide) <| ih4 _ _ _ hf (lv_sub hl [1, 2, 3, 0] rfl)
      refine ziload_n hC.1 hC.2.1 dX1_countNeedless_4 rfl (lv_at hl 3 rfl) <| lv_aload_n hC.1 hC.2.1 dX1_countNeedless_5 rfl (lv_at hl 0 rfl) <| gfX1_21 hC hK hP (q0 := 0) rfl rfl dX1_countNeedless_6 <| ?_
      obtain ⟨hz_1, hf⟩ := ck_some hf
      refine zicmp_ge (tgt := 52) hC.1 hC.2.1 ⟨hz_1.1, hz_1.2⟩ dX1_countNeedless_9 (by decide) (fun hc => ?_) (fun hc => ?_)
      · have hf := it_t hf hc
        exact ziload_n hC.1 hC.2.1 dX1_countNeedless_52 rfl (lv_at hl 2 rfl) <| hret (Int32.ofInt y2) _ _ (qI hf) dX1_countNeedless_53
      · have hf := it_f hf hc
        refine lv_aload_n hC.1 hC.2.1 dX1_countNeedless_12 rfl (lv_at hl 0 rfl) <| gfX1_9 hC hK hP (q0 := 0) rfl rfl dX1_countNeedless_13 <| ziload_n hC.1 hC.2.1 dX1_countNeedless_16 rfl (lv_at hl 3 rfl) <| ?_
        obtain ⟨hz_2, hf⟩ := ck_some hf
        refine jal hC hK hP (q0 := 1) rfl (Nat.le_of_ble_eq_true rfl) hz_2 rfl dX1_countNeedless_17 <| ziload_n hC.1 hC.2.1 dX1_countNeedless_18 rfl (lv_at hl 1 rfl) <| ?_
        obtain ⟨hz_3, hf⟩ := ck_some hf
        refine zicmp_ne (tgt := 46) hC.1 hC.2.1 ⟨hz_3.1, hz_3.2⟩ dX1_countNeedless_19 (by decide) (fun hc => ?_) (fun hc => ?_)
        · have hf := it_f hf hc
          exact J46 _ _ _ hf (lv_sub hl [0, 1, 2, 3] rfl)
        · have hf := it_t hf hc
          refine lv_aload_n hC.1 hC.2.1 dX1_countNeedless_22 rfl (lv_at hl 0 rfl) <| ziload_n hC.1 hC.2.1 dX1_countNeedless_23 rfl (lv_at hl 1 rfl) <| lv_aload_n hC.1 hC.2.1 dX1_countNeedless_24 rfl (lv_at hl 0 rfl) <| gfX1_15 hC hK hP (q0 := 0) rfl rfl dX1_countNeedless_25 <| ziload_n hC.1 hC.2.1 dX1_countNeedless_28 rfl (lv_at hl 3 rfl) <| jal hC hK hP (q0 := 2) rfl (Nat.le_of_ble_eq_true rfl) hz_2 rfl dX1_countNeedless_29 <| ziload_n hC.1 hC.2.1 dX1_countNeedless_30 rfl (lv_at hl 3 rfl) <| ?_
          obtain ⟨r_5, hu, hf⟩ := bd_some hf
          refine zcVP (As := [vI x1, vI (V 2 y3.toNat), vI y3]) (rest := []) hC hK (met_X1_openFrom l D kA a n V x1 (V 2 y3.toNat) y3 hu) zwX1_49 hP (q0 := 0) rfl rfl rfl rfl hl.1 rfl (Nat.le_of_ble_eq_true rfl) ⟨Nat.le_of_ble_eq_true rfl, Nat.le_of_ble_eq_true rfl⟩ ⟨rfl, rfl⟩ ⟨Nat.le_refl _, Nat.le_refl _⟩ dX1_countNeedless_31 <| lv_aload_n hC.1 hC.2.1 dX1_countNeedless_34 rfl (lv_at hl 0 rfl) <| gfX1_18 hC hK hP (q0 := 0) rfl rfl dX1_countNeedless_35 <| ziload_n hC.1 hC.2.1 dX1_countNeedless_38 rfl (lv_at hl 3 rfl) <| jal hC hK hP (q0 := 3) rfl (Nat.le_of_ble_eq_true rfl) hz_2 rfl dX1_countNeedless_39 <| ?_
          obtain ⟨hz_6, hf⟩ := ck_some hf
          refine zicmp_le (tgt := 46) hC.1 hC.2.1 ⟨hz_6.1, hz_6.2⟩ dX1_countNeedless_40 (by decide) (fun hc => ?_) (fun hc => ?_)
          · have hf := it_t hf hc
            exact J46 _ _ _ hf (lv_sub hl [0, 1, 2, 3] rfl)
          · have hf := it_f hf hc
            obtain ⟨x_7, ex_7⟩ : ∃ y : Int, y = y2 + 1 := ⟨_, rfl⟩
            have hf := nm_at hf ex_7
            refine ziinc (v := x_7) (lv' := [(2, vI x_7), (0, .ref (a 0)), (1, vI x1), (3, vI y3)]) hC.1 hC.2.1 dX1_countNeedless_43 hl (k := 2) rfl ex_7 (by decide) rfl (fun ls hl => ?_)
            exact J46 _ _ _ hf (lv_sub hl [1, 2, 0, 3] rfl)
  refine ziconst hC.1 hC.2.1 dX1_countNeedless_0 <| zistore_n (lv' := [(2, vI 0), (0, .ref (a 0)), (1, vI x1)]) hC.1 hC.2.1 dX1_countNeedless_1 rfl hl (by decide) rfl (fun ls hl => ?_)
  refine ziconst hC.1 hC.2.1 dX1_countNeedless_2 <| zistore_n (lv' := [(3, vI 0), (2, vI 0), (0, .ref (a 0)), (1, vI x1)]) hC.1 hC.2.1 dX1_countNeedless_3 rfl hl (by decide) rfl (fun ls hl => ?_)
  exact L4 n _ _ _ hf (lv_sub hl [2, 3, 1, 0] rfl)
