section ZG
variable {p : Program} {l : Launch} {e : Env} {R : Room} {s : State} {m : MethodId} {args : Array Value} {below : List Frame} {meth : Method} {c : Code} {H H0 : Heap} {locs : List Loc} {cells slots : Nat} {Q : State → Prop}
variable {pc nL : Nat} {ls : Array Slot} {rest : List Value} {A0 : Nat → Prop} {D : va_G} {kA : Nat → ClassId} {cc : ByteArray}
theorem gfX7_293 {ws : va_W} {q0 b : Nat} {fs : List Value} {v : Value} (hC : CallFix p m c cc nL s args lw_all RX7) (hK : zK D kA s) (hP : va_P D vwCl ws H) (he : ws[q0]? = some (b, .inr (0, fs))) (hv : fs[1]? = some v) (hdg : decode cc pc = .ok (.getfield 293, 3)) (kk : W p l e R s m args below meth c H locs cells slots Q (F0 m (pc + 3) ls (v :: rest))) : W p l e R s m args below meth c H locs cells slots Q (F0 m pc ls (.ref b :: rest)) := va_get hC.1 hC.2.1 hC.2.2.2.2 uin_X0 hC.2.2.2.1 hK.1 hP q0 he rfl 1 (by decide) (hC.2.2.2.2 _ qw_134) (fun _ h => h) hv hdg kk
theorem gfX7_337 {ws : va_W} {q0 b : Nat} {fs : List Value} {v : Value} (hC : CallFix p m c cc nL s args lw_all RX7) (hK : zK D kA s) (hP : va_P D vwCl ws H) (he : ws[q0]? = some (b, .inr (2, fs))) (hv : fs[1]? = some v) (hdg : decode cc pc = .ok (.getfield 337, 3)) (kk : W p l e R s m args below meth c H locs cells slots Q (F0 m (pc + 3) ls (v :: rest))) : W p l e R s m args below meth c H locs cells slots Q (F0 m pc ls (.ref b :: rest)) := va_get hC.1 hC.2.1 hC.2.2.2.2 uin_X2 hC.2.2.2.1 hK.1 hP q0 he rfl 1 (by decide) (hC.2.2.2.2 _ qw_250) (fun _ h => h) hv hdg kk
theorem gfX7_340 {ws : va_W} {q0 b : Nat} {fs : List Value} {v : Value} (hC : CallFix p m c cc nL s args lw_all RX7) (hK : zK D kA s) (hP : va_P D vwCl ws H) (he : ws[q0]? = some (b, .inr (2, fs))) (hv : fs[0]? = some v) (hdg : decode cc pc = .ok (.getfield 340, 3)) (kk : W p l e R s m args below meth c H locs cells slots Q (F0 m (pc + 3) ls (v :: rest))) : W p l e R s m args below meth c H locs cells slots Q (F0 m pc ls (.ref b :: rest)) := va_get hC.1 hC.2.1 hC.2.2.2.2 uin_X2 hC.2.2.2.1 hK.1 hP q0 he rfl 0 (by decide) (hC.2.2.2.2 _ qw_248) (fun _ h => h) hv hdg kk
theorem gfX7_49 {ws : va_W} {q0 b : Nat} {fs : List Value} {v : Value} (hC : CallFix p m c cc nL s args lw_all RX7) (hK : zK D kA s) (hP : va_P D vwCl ws H) (he : ws[q0]? = some (b, .inr (7, fs))) (hv : fs[12]? = some v) (hdg : decode cc pc = .ok (.getfield 49, 3)) (kk : W p l e R s m args below meth c H locs cells slots Q (F0 m (pc + 3) ls (v :: rest))) : W p l e R s m args below meth c H locs cells slots Q (F0 m pc ls (.ref b :: rest)) := va_get hC.1 hC.2.1 hC.2.2.2.2 uin_X7 hC.2.2.2.1 hK.1 hP q0 he rfl 12 (by decide) (hC.2.2.2.2 _ qw_289) (fun _ h => h) hv hdg kk
theorem zwX7_296 : zwV RX7 296 RX4 yX4_forecast cX4_forecast 6 (some .int) 2 := ⟨⟨qw_1027, qw_1028, qw_1029, qw_2, qw_1030⟩, rfl, by decide +kernel, by decide +kernel, by decide +kernel⟩
theorem zwX7_300 : zwV RX7 300 RX3 yX3_slotCount cX3_slotCount 1 (some .int) 0 := ⟨⟨qw_523, qw_524, qw_525, qw_4, qw_526⟩, rfl, by decide +kernel, by decide +kernel, by decide +kernel⟩
theorem zwX7_303 : zwV RX7 303 RX4 yX4_tooMuch cX4_tooMuch 2 (some .int) 1 := ⟨⟨qw_527, qw_528, qw_529, qw_2, qw_530⟩, rfl, by decide +kernel, by decide +kernel, by decide +kernel⟩
theorem zwX7_306 : zwV RX7 306 RX4 yX4_sumOfAll cX4_sumOfAll 4 (some .int) 1 := ⟨⟨qw_542, qw_543, qw_544, qw_2, qw_545⟩, rfl, by decide +kernel, by decide +kernel, by decide +kernel⟩
theorem zwX7_309 : zwV RX7 309 RX4 yX4_lostBy cX4_lostBy 4 (some .int) 1 := ⟨⟨qw_1038, qw_1039, qw_1040, qw_2, qw_1041⟩, rfl, by decide +kernel, by decide +kernel, by decide +kernel⟩
theorem zwX7_312 : zwV RX7 312 RX4 yX4_urgentGift cX4_urgentGift 5 (some .int) 0 := ⟨⟨qw_558, qw_559, qw_560, qw_2, qw_561⟩, rfl, by decide +kernel, by decide +kernel, by decide +kernel⟩
theorem zwX7_315 : zwV RX7 315 RX4 yX4_countLimitedYears cX4_countLimitedYears 6 (some .int) 1 := ⟨⟨qw_1050, qw_1051, qw_1052, qw_2, qw_1053⟩, rfl, by decide +kernel, by decide +kernel, by decide +kernel⟩
theorem zwX7_318 : zwV RX7 318 RX4 yX4_openUntil cX4_openUntil 6 (some .int) 2 := ⟨⟨qw_1065, qw_1066, qw_1067, qw_2, qw_1068⟩, rfl, by decide +kernel, by decide +kernel, by decide +kernel⟩
theorem zwX7_321 : zwV RX7 321 RX4 yX4_yearOfMostAid cX4_yearOfMostAid 7 (some .int) 0 := ⟨⟨qw_574, qw_575, qw_576, qw_2, qw_577⟩, rfl, by decide +kernel, by decide +kernel, by decide +kernel⟩
theorem zwX7_324 : zwV RX7 324 RX1 yX1_longestRun cX1_longestRun 6 (some .int) 1 := ⟨⟨qw_1097, qw_1098, qw_1099, qw_3, qw_1100⟩, rfl, by decide +kernel, by decide +kernel, by decide +kernel⟩
theorem zwX7_327 : zwV RX7 327 RX4 yX4_growthWith cX4_growthWith 4 (some .int) 3 := ⟨⟨qw_582, qw_583, qw_584, qw_2, qw_585⟩, rfl, by decide +kernel, by decide +kernel, by decide +kernel⟩
theorem zwX7_330 : zwV RX7 330 RX4 yX4_endOfNeed cX4_endOfNeed 9 (some .int) 2 := ⟨⟨qw_1115, qw_1116, qw_1117, qw_2, qw_1118⟩, rfl, by decide +kernel, by decide +kernel, by decide +kernel⟩
theorem zwX7_333 : zwV RX7 333 RX2 yX2_draw cX2_draw 6 none 3 := ⟨⟨qw_1133, qw_1134, qw_1135, qw_7, qw_1136⟩, rfl, by decide +kernel, by decide +kernel, by decide +kernel⟩
end ZG
def jX7_claimed_18 (V : Sz) (X : Sz) (x1 : Int) (x2 : Int) : Option ((Int) ⊕ Nat) := some (.inr 0)
def f_X7_claimed (V : Sz) (X : Sz) (x1 : Int) (x2 : Int) : Option ((Int) ⊕ Nat) := ck (rng x1) <| if x1 < 0 then (jX7_claimed_18 V X x1 x2) else (ck (rng (V 25 0)) <| if x1 < V 25 0 then (bx (f_X7_needRange x2 0 4) fun (_ : Unit) => bl (ck (inZ ((x1 * 5) + x2) 100) <| some (V 26 ((x1 * 5) + x2).toNat))) else (jX7_claimed_18 V X x1 x2))
def f_X7_claimable (n : Nat) (V : Sz) (X : Sz) (x1 : Int) (x2 : Int) : Option ((Int) ⊕ Nat) := bx (f_X7_needRange x1 0 9999) fun (_ : Unit) => bl (bd (f_X4_forecast n (sv 4 V) x1 x2) fun (r_1 : Int) => some r_1)
def bX7_overclaimed_4 (n : Nat) (V : Sz) (X : Sz) (rec4 : Int × Int → Option (Int)) : Int × Int → Option (Int) := fun (y1, y2) => bd (f_X3_slotCount (sv 13 V)) fun (r_1 : Int) => ck (rng y2 ∧ rng r_1) <| if r_1 ≤ y2 then (some y1) else (bd (f_X4_tooMuch (sv 4 V) y2) fun (r_3 : Int) => nm (y1 + r_3) fun (x_4 : Int) => nm (y2 + 1) fun (x_5 : Int) => rec4 (x_4, x_5))
theorem bX7_overclaimed_4_e (n : Nat) (V : Sz) (X : Sz) (rec4 : Int × Int → Option (Int)) (y1 : Int) (y2 : Int) : bX7_overclaimed_4 n V X rec4 (y1, y2) = (bd (f_X3_slotCount (sv 13 V)) fun (r_1 : Int) => ck (rng y2 ∧ rng r_1) <| if r_1 ≤ y2 then (some y1) else (bd (f_X4_tooMuch (sv 4 V) y2) fun (r_3 : Int) => nm (y1 + r_3) fun (x_4 : Int) => nm (y2 + 1) fun (x_5 : Int) => rec4 (x_4, x_5))) := rfl
def f_X7_overclaimed (n : Nat) (V : Sz) (X : Sz) : Option (Int) := lpF (bX7_overclaimed_4 n V X) n (0, 0)
def f_X7_totalAid (n : Nat) (V : Sz) (X : Sz) : Option (Int) := bd (f_X4_sumOfAll n (sv 4 V) 2) fun (r_1 : Int) => some r_1
def f_X7_lost (n : Nat) (V : Sz) (X : Sz) (x1 : Int) : Option ((Int) ⊕ Nat) := bx (f_X7_needRange x1 1 5) fun (_ : Unit) => bl (bd (f_X4_lostBy n (sv 4 V) x1) fun (r_1 : Int) => some r_1)
def f_X7_mostUrgent (n : Nat) (V : Sz) (X : Sz) : Option (Int) := bd (f_X4_urgentGift n (sv 4 V)) fun (r_1 : Int) => some r_1
def f_X7_limitedYears (n : Nat) (V : Sz) (X : Sz) (x1 : Int) : Option ((Int) ⊕ Nat) := bx (f_X7_needDonor V X x1) fun (_ : Unit) => bl (bd (f_X4_countLimitedYears n (sv 4 V) x1) fun (r_1 : Int) => some r_1)
def f_X7_expiring (n : Nat) (V : Sz) (X : Sz) (x1 : Int) (x2 : Int) : Option ((Int) ⊕ Nat) := bx (f_X7_needSpan x1 x2) fun (_ : Unit) => bl (bd (f_X4_openUntil n (sv 4 V) x1 x2) fun (r_1 : Int) => some r_1)
def f_X7_useOf (n : Nat) (V0 : Sz) (X : Sz) (x1 : Int) : Option ((Int × Sz) ⊕ Nat) := bx (f_X7_needDeclaration V0 X x1) fun (_ : Unit) => bl (bd (f_X4_become (sv 31 V0) (sv 4 V0)) fun (V_1 : Sz) => nm (sw 31 27 V0 V_1) fun (V_2 : Sz) => bd (f_X1_cutFrom (sv 36 V_2) x1 0) fun (V_3 : Sz) => nm (sw 36 4 V_2 V_3) fun (V_4 : Sz) => bd (f_X4_settle n (sv 31 V_4)) fun (V_5 : Sz) => nm (sw 31 27 V_4 V_5) fun (V_6 : Sz) => bd (f_X4_sumOfAll n (sv 4 V_6) 2) fun (r_7 : Int) => bd (f_X4_sumOfAll n (sv 31 V_6) 2) fun (r_8 : Int) => some (r_7 - r_8, V_6))
def f_X7_benefitRoom (V : Sz) (X : Sz) (x1 : Int) : Option ((Int) ⊕ Nat) := bx (f_X7_needGift V X x1) fun (_ : Unit) => bl (ck (inZ x1 60) <| ck (0 ≤ (V 6 0) * (V 15 x1.toNat) ∧ (V 6 0) * (V 15 x1.toNat) < 2147483648) <| some (((V 6 0) * (V 15 x1.toNat)) / 100))
def jX7_topDonor_50 (n : Nat) (V : Sz) (X : Sz) (x1 : Int) (rec13 : Int × Int × Int → Option (Int)) (y2 : Int) (y3 : Int) (y4 : Int) : Option (Int) := nm (y4 + 1) fun (x_4 : Int) => rec13 (y2, y3, x_4)
def bX7_topDonor_13 (n : Nat) (V : Sz) (X : Sz) (x1 : Int) (rec13 : Int × Int × Int → Option (Int)) : Int × Int × Int → Option (Int) := fun (y2, y3, y4) => ck (rng y4 ∧ rng (V 7 0)) <| if V 7 0 ≤ y4 then (some y2) else (bd (f_X4_sumOfDonor n (sv 4 V) y4 x1 (-1)) fun (r_2 : Int) => ck (rng r_2 ∧ rng y3) <| if r_2 ≤ y3 then (jX7_topDonor_50 n V X x1 rec13 y2 y3 y4) else (jX7_topDonor_50 n V X x1 rec13 y4 r_2 y4))
theorem bX7_topDonor_13_e (n : Nat) (V : Sz) (X : Sz) (x1 : Int) (rec13 : Int × Int × Int → Option (Int)) (y2 : Int) (y3 : Int) (y4 : Int) : bX7_topDonor_13 n V X x1 rec13 (y2, y3, y4) = (ck (rng y4 ∧ rng (V 7 0)) <| if V 7 0 ≤ y4 then (some y2) else (bd (f_X4_sumOfDonor n (sv 4 V) y4 x1 (-1)) fun (r_2 : Int) => ck (rng r_2 ∧ rng y3) <| if r_2 ≤ y3 then (jX7_topDonor_50 n V X x1 rec13 y2 y3 y4) else (jX7_topDonor_50 n V X x1 rec13 y4 r_2 y4))) := rfl
def f_X7_topDonor (n : Nat) (V : Sz) (X : Sz) (x1 : Int) : Option ((Int) ⊕ Nat) := bx (f_X7_needRange x1 0 4) fun (_ : Unit) => bl (lpF (bX7_topDonor_13 n V X x1) n ((-1), (-1), 0))
def f_X7_bestYear (n : Nat) (V : Sz) (X : Sz) : Option (Int) := bd (f_X4_yearOfMostAid n (sv 4 V)) fun (r_1 : Int) => some r_1
def f_X7_longestSpan (n : Nat) (V : Sz) (X : Sz) (x1 : Int) : Option ((Int) ⊕ Nat) := bx (f_X7_needDonor V X x1) fun (_ : Unit) => bl (bd (f_X1_longestRun n (sv 9 V) x1) fun (r_1 : Int) => some r_1)
def f_X7_gainOf (n : Nat) (V : Sz) (X : Sz) (x1 : Int) (x2 : Int) (x3 : Int) : Option ((Int) ⊕ Nat) := bx (f_X7_needDonor V X x1) fun (_ : Unit) => bx (f_X7_needSpan x2 x3) fun (_ : Unit) => bl (bd (f_X4_growthWith n (sv 4 V) x1 x2 x3) fun (r_1 : Int) => some r_1)
def jX7_bestAsked_42 (n : Nat) (V : Sz) (X : Sz) (rec6 : Int × Int × Int → Option (Int)) (y1 : Int) (y2 : Int) (y3 : Int) : Option (Int) := nm (y3 + 1) fun (x_4 : Int) => rec6 (y1, y2, x_4)
def bX7_bestAsked_6 (n : Nat) (V : Sz) (X : Sz) (rec6 : Int × Int × Int → Option (Int)) : Int × Int × Int → Option (Int) := fun (y1, y2, y3) => ck (rng y3 ∧ rng (V 7 0)) <| if V 7 0 ≤ y3 then (some y1) else (bd (f_X4_growthWith n (sv 4 V) y3 0 9999) fun (r_2 : Int) => ck (rng r_2 ∧ rng y2) <| if r_2 ≤ y2 then (jX7_bestAsked_42 n V X rec6 y1 y2 y3) else (jX7_bestAsked_42 n V X rec6 y3 r_2 y3))
theorem bX7_bestAsked_6_e (n : Nat) (V : Sz) (X : Sz) (rec6 : Int × Int × Int → Option (Int)) (y1 : Int) (y2 : Int) (y3 : Int) : bX7_bestAsked_6 n V X rec6 (y1, y2, y3) = (ck (rng y3 ∧ rng (V 7 0)) <| if V 7 0 ≤ y3 then (some y1) else (bd (f_X4_growthWith n (sv 4 V) y3 0 9999) fun (r_2 : Int) => ck (rng r_2 ∧ rng y2) <| if r_2 ≤ y2 then (jX7_bestAsked_42 n V X rec6 y1 y2 y3) else (jX7_bestAsked_42 n V X rec6 y3 r_2 y3))) := rfl
def f_X7_bestAsked (n : Nat) (V : Sz) (X : Sz) : Option (Int) := lpF (bX7_bestAsked_6 n V X) n ((-1), 0, 0)
def f_X7_neededSpan (n : Nat) (V : Sz) (X : Sz) (x1 : Int) (x2 : Int) : Option ((Int) ⊕ Nat) := bx (f_X7_needDonor V X x1) fun (_ : Unit) => bl (bd (f_X4_endOfNeed n (sv 4 V) x1 x2) fun (r_1 : Int) => some r_1)
def f_X7_gainOfSplit (n : Nat) (V0 : Sz) (X : Sz) (x1 : Int) (x2 : Int) : Option ((Int × Sz) ⊕ Nat) := bx (f_X7_needGift V0 X x1) fun (_ : Unit) => bx (f_X7_needDonor V0 X x2) fun (_ : Unit) => bl (bd (f_X3_isAllOf (sv 13 V0) x1 x2) fun (r_1 : Bool) => if r_1 = true then (some (0, V0)) else (bd (f_X3_isWhole (sv 13 V0) x1) fun (r_2 : Bool) => if r_2 = true then (bd (f_X4_become (sv 31 V0) (sv 4 V0)) fun (V_3 : Sz) => nm (sw 31 27 V0 V_3) fun (V_4 : Sz) => bd (f_X3_divide n (sv 40 V_4) x1 1 x2 1) fun (V_5 : Sz) => nm (sw 40 12 V_4 V_5) fun (V_6 : Sz) => bd (f_X4_settle n (sv 31 V_6)) fun (V_7 : Sz) => nm (sw 31 27 V_6 V_7) fun (V_8 : Sz) => bd (f_X4_sumOfAll n (sv 31 V_8) 2) fun (r_9 : Int) => bd (f_X4_sumOfAll n (sv 4 V_8) 2) fun (r_10 : Int) => some (r_9 - r_10, V_8)) else (some (0, V0))))
def f_X7_sample (n : Nat) (V0 : Sz) (X : Sz) (x1 : Int) (x2 : Int) (x3 : Int) : Option ((Int × Sz) ⊕ Nat) := bx (f_X7_needRange x1 1 60) fun (_ : Unit) => bl (bd (f_X2_draw n (sv 95 V0) (sv 13 V0) x1 x2) fun (V_1 : Sz) => nm (sw 95 4 V0 V_1) fun (V_2 : Sz) => ck (rng x3) <| if x3 < 0 then (some ((-1), V_2)) else (ck (rng (V_2 96 0)) <| if x3 < V_2 96 0 then (ck (inZ x3 60) <| some (V_2 95 x3.toNat, V_2)) else (some ((-1), V_2))))
def jX7_wrongIn_63 (n : Nat) (X : Sz) (x1 : Int) (x2 : Int) (rec28 : Int × Int × Sz → Option (Int × Sz)) (y3 : Int) (y4 : Int) (V : Sz) : Option (Int × Sz) := nm (y4 + 1) fun (x_7 : Int) => rec28 (y3, x_7, V)
def bX7_wrongIn_28 (n : Nat) (X : Sz) (x1 : Int) (x2 : Int) (rec28 : Int × Int × Sz → Option (Int × Sz)) : Int × Int × Sz → Option (Int × Sz) := fun (y3, y4, V) => ck (rng y4 ∧ rng (V 96 0)) <| if V 96 0 ≤ y4 then (some (y3, V)) else (ck (inZ y4 60) <| bd (f_X4_tooMuch (sv 4 V) (V 95 y4.toNat)) fun (r_5 : Int) => ck (rng r_5) <| if r_5 ≤ 0 then (jX7_wrongIn_63 n X x1 x2 rec28 y3 y4 V) else (nm (y3 + 1) fun (x_8 : Int) => jX7_wrongIn_63 n X x1 x2 rec28 x_8 y4 V))
theorem bX7_wrongIn_28_e (n : Nat) (X : Sz) (x1 : Int) (x2 : Int) (rec28 : Int × Int × Sz → Option (Int × Sz)) (y3 : Int) (y4 : Int) (V : Sz) : bX7_wrongIn_28 n X x1 x2 rec28 (y3, y4, V) = (ck (rng y4 ∧ rng (V 96 0)) <| if V 96 0 ≤ y4 then (some (y3, V)) else (ck (inZ y4 60) <| bd (f_X4_tooMuch (sv 4 V) (V 95 y4.toNat)) fun (r_5 : Int) => ck (rng r_5) <| if r_5 ≤ 0 then (jX7_wrongIn_63 n X x1 x2 rec28 y3 y4 V) else (nm (y3 + 1) fun (x_8 : Int) => jX7_wrongIn_63 n X x1 x2 rec28 x_8 y4 V))) := rfl
def f_X7_wrongIn (n : Nat) (V0 : Sz) (X : Sz) (x1 : Int) (x2 : Int) : Option ((Int × Sz) ⊕ Nat) := bx (f_X7_needRange x1 1 60) fun (_ : Unit) => bl (bd (f_X2_draw n (sv 95 V0) (sv 13 V0) x1 x2) fun (V_1 : Sz) => nm (sw 95 4 V0 V_1) fun (V_2 : Sz) => lpF (bX7_wrongIn_28 n X x1 x2) n (0, 0, V_2))
theorem DX7_claimed_0 : ∀ q ∈ ([(0, .iload_n 1, 1), (1, .ifCond .lt 17, 3), (4, .iload_n 1, 1), (5, .aload_n 0, 1), (6, .getfield 23, 3), (9, .getfield 109, 3), (12, .getfield 113, 3), (15, .if_icmp .lt 14, 3), (18, .new 288, 3), (21, .dup, 1), (22, .ldc_w 290, 3), (25, .invokespecial 292, 3), (28, .athrow, 1), (29, .iload_n 2, 1), (30, .iconst 0, 1), (31, .iconst 4, 1), (32, .invokestatic 206, 3), (35, .aload_n 0, 1), (36, .getfield 23, 3), (39, .getfield 109, 3), (42, .getfield 293, 3), (45, .iload_n 1, 1), (46, .iconst 5, 1), (47, .imul, 1), (48, .iload_n 2, 1), (49, .iadd, 1), (50, .iaload, 1), (51, .ireturn, 1)] : List (Nat × Instr × Nat)), decode cX7_claimed q.1 = .ok q.2 := by decide +kernel
theorem dX7_claimed_0 : decode cX7_claimed 0 = .ok (.iload_n 1, 1) := DX7_claimed_0 (0, .iload_n 1, 1) (List.mem_of_getElem? (i := 0) rfl)
theorem dX7_claimed_1 : decode cX7_claimed 1 = .ok (.ifCond .lt 17, 3) := DX7_claimed_0 (1, .ifCond .lt 17, 3) (List.mem_of_getElem? (i := 1) rfl)
theorem dX7_claimed_4 : decode cX7_claimed 4 = .ok (.iload_n 1, 1) := DX7_claimed_0 (4, .iload_n 1, 1) (List.mem_of_getElem? (i := 2) rfl)
theorem dX7_claimed_5 : decode cX7_claimed 5 = .ok (.aload_n 0, 1) := DX7_claimed_0 (5, .aload_n 0, 1) (List.mem_of_getElem? (i := 3) rfl)
theorem dX7_claimed_6 : decode cX7_claimed 6 = .ok (.getfield 23, 3) := DX7_claimed_0 (6, .getfield 23, 3) (List.mem_of_getElem? (i := 4) rfl)
theorem dX7_claimed_9 : decode cX7_claimed 9 = .ok (.getfield 109, 3) := DX7_claimed_0 (9, .getfield 109, 3) (List.mem_of_getElem? (i := 5) rfl)
theorem dX7_claimed_12 : decode cX7_claimed 12 = .ok (.getfield 113, 3) := DX7_claimed_0 (12, .getfield 113, 3) (List.mem_of_getElem? (i := 6) rfl)
theorem dX7_claimed_15 : decode cX7_claimed 15 = .ok (.if_icmp .lt 14, 3) := DX7_claimed_0 (15, .if_icmp .lt 14, 3) (List.mem_of_getElem? (i := 7) rfl)
theorem dX7_claimed_18 : decode cX7_claimed 18 = .ok (.new 288, 3) := DX7_claimed_0 (18, .new 288, 3) (List.mem_of_getElem? (i := 8) rfl)
theorem dX7_claimed_21 : decode cX7_claimed 21 = .ok (.dup, 1) := DX7_claimed_0 (21, .dup, 1) (List.mem_of_getElem? (i := 9) rfl)
theorem dX7_claimed_22 : decode cX7_claimed 22 = .ok (.ldc_w 290, 3) := DX7_claimed_0 (22, .ldc_w 290, 3) (List.mem_of_getElem? (i := 10) rfl)
theorem dX7_claimed_25 : decode cX7_claimed 25 = .ok (.invokespecial 292, 3) := DX7_claimed_0 (25, .invokespecial 292, 3) (List.mem_of_getElem? (i := 11) rfl)
theorem dX7_claimed_28 : decode cX7_claimed 28 = .ok (.athrow, 1) := DX7_claimed_0 (28, .athrow, 1) (List.mem_of_getElem? (i := 12) rfl)
theorem dX7_claimed_29 : decode cX7_claimed 29 = .ok (.iload_n 2, 1) := DX7_claimed_0 (29, .iload_n 2, 1) (List.mem_of_getElem? (i := 13) rfl)
theorem dX7_claimed_30 : decode cX7_claimed 30 = .ok (.iconst 0, 1) := DX7_claimed_0 (30, .iconst 0, 1) (List.mem_of_getElem? (i := 14) rfl)
theorem dX7_claimed_31 : decode cX7_claimed 31 = .ok (.iconst 4, 1) := DX7_claimed_0 (31, .iconst 4, 1) (List.mem_of_getElem? (i := 15) rfl)
theorem dX7_claimed_32 : decode cX7_claimed 32 = .ok (.invokestatic 206, 3) := DX7_claimed_0 (32, .invokestatic 206, 3) (List.mem_of_getElem? (i := 16) rfl)
theorem dX7_claimed_35 : decode cX7_claimed 35 = .ok (.aload_n 0, 1) := DX7_claimed_0 (35, .aload_n 0, 1) (List.mem_of_getElem? (i := 17) rfl)
theorem dX7_claimed_36 : decode cX7_claimed 36 = .ok (.getfield 23, 3) := DX7_claimed_0 (36, .getfield 23, 3) (List.mem_of_getElem? (i := 18) rfl)
theorem dX7_claimed_39 : decode cX7_claimed 39 = .ok (.getfield 109, 3) := DX7_claimed_0 (39, .getfield 109, 3) (List.mem_of_getElem? (i := 19) rfl)
theorem dX7_claimed_42 : decode cX7_claimed 42 = .ok (.getfield 293, 3) := DX7_claimed_0 (42, .getfield 293, 3) (List.mem_of_getElem? (i := 20) rfl)
theorem dX7_claimed_45 : decode cX7_claimed 45 = .ok (.iload_n 1, 1) := DX7_claimed_0 (45, .iload_n 1, 1) (List.mem_of_getElem? (i := 21) rfl)
theorem dX7_claimed_46 : decode cX7_claimed 46 = .ok (.iconst 5, 1) := DX7_claimed_0 (46, .iconst 5, 1) (List.mem_of_getElem? (i := 22) rfl)
theorem dX7_claimed_47 : decode cX7_claimed 47 = .ok (.imul, 1) := DX7_claimed_0 (47, .imul, 1) (List.mem_of_getElem? (i := 23) rfl)
theorem dX7_claimed_48 : decode cX7_claimed 48 = .ok (.iload_n 2, 1) := DX7_claimed_0 (48, .iload_n 2, 1) (List.mem_of_getElem? (i := 24) rfl)
theorem dX7_claimed_49 : decode cX7_claimed 49 = .ok (.iadd, 1) := DX7_claimed_0 (49, .iadd, 1) (List.mem_of_getElem? (i := 25) rfl)
theorem dX7_claimed_50 : decode cX7_claimed 50 = .ok (.iaload, 1) := DX7_claimed_0 (50, .iaload, 1) (List.mem_of_getElem? (i := 26) rfl)
theorem dX7_claimed_51 : decode cX7_claimed 51 = .ok (.ireturn, 1) := DX7_claimed_0 (51, .ireturn, 1) (List.mem_of_getElem? (i := 27) rfl)
abbrev rmX7_claimed : Room := { frames := 1, cells := 0, slots := 0, locals := 22 }
set_option maxHeartbeats 1000000 in
set_option maxRecDepth 100000 in
theorem met_X7_claimed (l : Launch) (D : va_G) (kA : Nat → ClassId) (a : Nat → Nat) (pf : Nat → Option Nat) (V : Sz) (X : Sz) (x1 : Int) (x2 : Int) {r : Int} (hf : f_X7_claimed V X x1 x2 = some (.inl r)) : MP l yX7_claimed cX7_claimed 3 (some .int) rmX7_claimed D kA [.ref (a 0), vI x1, vI x2] (cs_X7 kA a V X pf) (some (vI r)) := by
  refine zPI (own := RX7) rfl rfl (Nat.le_of_ble_eq_true rfl) ?_
  intro p e s m args below meth c ls Q hC hK hP hl hret
  have hl : lv_has ls 3 [(0, .ref (a 0)), (1, vI x1), (2, vI x2)] := hl
  unfold f_X7_claimed at hf
  have J18 : ∀ (ls : Array Slot), jX7_claimed_18 V X x1 x2 = some (.inl r) → lv_has ls 3 [] → W p l e rmX7_claimed s m args below meth c s.heap [] 0 0 Q (F0 m 18 ls []) := by
    intro  ls hf hl
    unfold jX7_claimed_18 at hf
    cases hf
  refine ziload_n hC.1 hC.2.1 dX7_claimed_0 rfl (lv_at hl 1 rfl) <| ?_
  obtain ⟨hz_1, hf⟩ := ck_some hf
  refine zif_lt (tgt := 18) hC.1 hC.2.1 hz_1 dX7_claimed_1 (by decide) (fun hc => ?_) (fun hc => ?_)
  · have hf := it_t hf hc
    exact J18 _ hf (lv_sub hl [] rfl)
  · have hf := it_f hf hc
    refine ziload_n hC.1 hC.2.1 dX7_claimed_4 rfl (lv_at hl 1 rfl) <| lv_aload_n hC.1 hC.2.1 dX7_claimed_5 rfl (lv_at hl 0 rfl) <| gfX7_23 hC hK hP (q0 := 0) rfl rfl dX7_claimed_6 <| gfX7_109 hC hK hP (q0 := 2) rfl rfl dX7_claimed_9 <| gfX7_113 hC hK hP (q0 := 20) rfl rfl dX7_claimed_12 <| ?_
    obtain ⟨hz_2, hf⟩ := ck_some hf
    refine zicmp_lt (tgt := 29) hC.1 hC.2.1 ⟨hz_1, hz_2⟩ dX7_claimed_15 (by decide) (fun hc => ?_) (fun hc => ?_)
    · have hf := it_t hf hc
      refine ziload_n hC.1 hC.2.1 dX7_claimed_29 rfl (lv_at hl 2 rfl) <| ziconst hC.1 hC.2.1 dX7_claimed_30 <| ziconst hC.1 hC.2.1 dX7_claimed_31 <| ?_
      obtain ⟨u, hu, hf⟩ := bx_inl hf
      have hPc : va_P D vwCl ([] : va_W) _ := hP.sub [] rfl
      have hf := bl_inl hf
      refine zcSP (As := [vI x2, vI 0, vI 4]) (rest := []) hC hK (met_X7_needRange l D kA x2 0 4 hu) zwX7_206 hPc rfl hl.1 rfl (Nat.le_of_ble_eq_true rfl) ⟨Nat.le_of_ble_eq_true rfl, Nat.le_of_ble_eq_true rfl⟩ ⟨rfl, rfl⟩ ⟨Nat.le_refl _, Nat.le_refl _⟩ dX7_claimed_32 <| lv_aload_n hC.1 hC.2.1 dX7_claimed_35 rfl (lv_at hl 0 rfl) <| gfX7_23 hC hK hP (q0 := 0) rfl rfl dX7_claimed_36 <| gfX7_109 hC hK hP (q0 := 2) rfl rfl dX7_claimed_39 <| gfX7_293 hC hK hP (q0 := 20) rfl rfl dX7_claimed_42 <| ziload_n hC.1 hC.2.1 dX7_claimed_45 rfl (lv_at hl 1 rfl) <| ziconst hC.1 hC.2.1 dX7_claimed_46 <| zimul hC.1 hC.2.1 dX7_claimed_47 <| ziload_n hC.1 hC.2.1 dX7_claimed_48 rfl (lv_at hl 2 rfl) <| ziadd hC.1 hC.2.1 dX7_claimed_49 <| ?_
      obtain ⟨hz_3, hf⟩ := ck_some hf
      exact jal hC hK hP (q0 := 21) rfl (Nat.le_of_ble_eq_true rfl) hz_3 rfl dX7_claimed_50 <| hret (Int32.ofInt (V 26 ((x1 * 5) + x2).toNat)) _ _ (qI hf) dX7_claimed_51
    · have hf := it_f hf hc
      exact J18 _ hf (lv_sub hl [] rfl)
abbrev rxX7_claimed : Room := { frames := 7, cells := 1, slots := 6, locals := 112 }
set_option maxHeartbeats 1000000 in
set_option maxRecDepth 100000 in
theorem thr_X7_claimed (l : Launch) (D : va_G) (kA : Nat → ClassId) (a : Nat → Nat) (pf : Nat → Option Nat) (V : Sz) (X : Sz) (x1 : Int) (x2 : Int) {er : Nat} (hf : f_X7_claimed V X x1 x2 = some (.inr er)) : MX l yX7_claimed cX7_claimed 3 (some .int) rxX7_claimed D kA [.ref (a 0), vI x1, vI x2] (cs_X7 kA a V X pf) (zEx er) := by
  refine zXstart (own := RX7) rfl rfl (Nat.le_of_ble_eq_true rfl) ?_
  intro p e s m args below meth c ls hC hK hP hX hl hx hlocks
  have hl : lv_has ls 3 [(0, .ref (a 0)), (1, vI x1), (2, vI x2)] := hl
  unfold f_X7_claimed at hf
  have J18 : ∀ (ls : Array Slot), jX7_claimed_18 V X x1 x2 = some (.inr er) → lv_has ls 3 [] → W p l e rxX7_claimed s m args below meth c s.heap [] 0 0 (QX below (zEx er) args s) (F0 m 18 ls []) := by
    intro  ls hf hl
    unfold jX7_claimed_18 at hf
    cases hf
    exact zth0W (is := 290) (tx := "there is no such claim") hC hX hx hlocks (by decide +kernel) hl.1 dX7_claimed_18 dX7_claimed_21 dX7_claimed_22 dX7_claimed_25 dX7_claimed_28 (Nat.le_of_ble_eq_true rfl) (Nat.le_of_ble_eq_true rfl) (Nat.le_of_ble_eq_true rfl) (Nat.le_of_ble_eq_true rfl)
  refine ziload_n hC.1 hC.2.1 dX7_claimed_0 rfl (lv_at hl 1 rfl) <| ?_
  obtain ⟨hz_1, hf⟩ := ck_some hf
  refine zif_lt (tgt := 18) hC.1 hC.2.1 hz_1 dX7_claimed_1 (by decide) (fun hc => ?_) (fun hc => ?_)
  · have hf := it_t hf hc
    exact J18 _ hf (lv_sub hl [] rfl)
  · have hf := it_f hf hc
    refine ziload_n hC.1 hC.2.1 dX7_claimed_4 rfl (lv_at hl 1 rfl) <| lv_aload_n hC.1 hC.2.1 dX7_claimed_5 rfl (lv_at hl 0 rfl) <| gfX7_23 hC hK hP (q0 := 0) rfl rfl dX7_claimed_6 <| gfX7_109 hC hK hP (q0 := 2) rfl rfl dX7_claimed_9 <| gfX7_113 hC hK hP (q0 := 20) rfl rfl dX7_claimed_12 <| ?_
    obtain ⟨hz_2, hf⟩ := ck_some hf
    refine zicmp_lt (tgt := 29) hC.1 hC.2.1 ⟨hz_1, hz_2⟩ dX7_claimed_15 (by decide) (fun hc => ?_) (fun hc => ?_)
    · have hf := it_t hf hc
      refine ziload_n hC.1 hC.2.1 dX7_claimed_29 rfl (lv_at hl 2 rfl) <| ziconst hC.1 hC.2.1 dX7_claimed_30 <| ziconst hC.1 hC.2.1 dX7_claimed_31 <| ?_
      rcases bx_inr hf with hu | ⟨u, hu, hf⟩
      · have hPc : va_P D vwCl ([] : va_W) _ := hP.sub [] rfl; exact zcSX (As := [vI x2, vI 0, vI 4]) (rest := []) hC hK hX hx hlocks (thr_X7_needRange l D kA x2 0 4 hu) zwX7_206 hPc rfl hl.1 rfl (Nat.le_of_ble_eq_true rfl) ⟨Nat.le_of_ble_eq_true rfl, Nat.le_of_ble_eq_true rfl⟩ ⟨rfl, rfl⟩ ⟨Nat.le_of_ble_eq_true rfl, Nat.le_of_ble_eq_true rfl⟩ dX7_claimed_32
      have hPc : va_P D vwCl ([] : va_W) _ := hP.sub [] rfl
      exact (bl_inr hf).elim
    · have hf := it_f hf hc
      exact J18 _ hf (lv_sub hl [] rfl)
theorem DX7_claimable_0 : ∀ q ∈ ([(0, .iload_n 1, 1), (1, .iconst 0, 1), (2, .sipush 9999, 3), (5, .invokestatic 206, 3), (8, .aload_n 0, 1), (9, .getfield 23, 3), (12, .iload_n 1, 1), (13, .iload_n 2, 1), (14, .invokevirtual 296, 3), (17, .ireturn, 1)] : List (Nat × Instr × Nat)), decode cX7_claimable q.1 = .ok q.2 := by decide +kernel
theorem dX7_claimable_0 : decode cX7_claimable 0 = .ok (.iload_n 1, 1) := DX7_claimable_0 (0, .iload_n 1, 1) (List.mem_of_getElem? (i := 0) rfl)
theorem dX7_claimable_1 : decode cX7_claimable 1 = .ok (.iconst 0, 1) := DX7_claimable_0 (1, .iconst 0, 1) (List.mem_of_getElem? (i := 1) rfl)
theorem dX7_claimable_2 : decode cX7_claimable 2 = .ok (.sipush 9999, 3) := DX7_claimable_0 (2, .sipush 9999, 3) (List.mem_of_getElem? (i := 2) rfl)
theorem dX7_claimable_5 : decode cX7_claimable 5 = .ok (.invokestatic 206, 3) := DX7_claimable_0 (5, .invokestatic 206, 3) (List.mem_of_getElem? (i := 3) rfl)
theorem dX7_claimable_8 : decode cX7_claimable 8 = .ok (.aload_n 0, 1) := DX7_claimable_0 (8, .aload_n 0, 1) (List.mem_of_getElem? (i := 4) rfl)
theorem dX7_claimable_9 : decode cX7_claimable 9 = .ok (.getfield 23, 3) := DX7_claimable_0 (9, .getfield 23, 3) (List.mem_of_getElem? (i := 5) rfl)
theorem dX7_claimable_12 : decode cX7_claimable 12 = .ok (.iload_n 1, 1) := DX7_claimable_0 (12, .iload_n 1, 1) (List.mem_of_getElem? (i := 6) rfl)
theorem dX7_claimable_13 : decode cX7_claimable 13 = .ok (.iload_n 2, 1) := DX7_claimable_0 (13, .iload_n 2, 1) (List.mem_of_getElem? (i := 7) rfl)
theorem dX7_claimable_14 : decode cX7_claimable 14 = .ok (.invokevirtual 296, 3) := DX7_claimable_0 (14, .invokevirtual 296, 3) (List.mem_of_getElem? (i := 8) rfl)
theorem dX7_claimable_17 : decode cX7_claimable 17 = .ok (.ireturn, 1) := DX7_claimable_0 (17, .ireturn, 1) (List.mem_of_getElem? (i := 9) rfl)
abbrev rmX7_claimable : Room := { frames := 3, cells := 0, slots := 0, locals := 85 }
set_option maxHeartbeats 1000000 in
set_option maxRecDepth 100000 in
theorem met_X7_claimable (l : Launch) (D : va_G) (kA : Nat → ClassId) (a : Nat → Nat) (pf : Nat → Option Nat) (n : Nat) (V : Sz) (X : Sz) (x1 : Int) (x2 : Int) {r : Int} (hf : f_X7_claimable n V X x1 x2 = some (.inl r)) : MP l yX7_claimable cX7_claimable 3 (some .int) rmX7_claimable D kA [.ref (a 0), vI x1, vI x2] (cs_X7 kA a V X pf) (some (vI r)) := by
  refine zPI (own := RX7) rfl rfl (Nat.le_of_ble_eq_true rfl) ?_
  intro p e s m args below meth c ls Q hC hK hP hl hret
  have hl : lv_has ls 3 [(0, .ref (a 0)), (1, vI x1), (2, vI x2)] := hl
  unfold f_X7_claimable at hf
  refine ziload_n hC.1 hC.2.1 dX7_claimable_0 rfl (lv_at hl 1 rfl) <| ziconst hC.1 hC.2.1 dX7_claimable_1 <| zsipush hC.1 hC.2.1 dX7_claimable_2 (by decide) <| ?_
  obtain ⟨u, hu, hf⟩ := bx_inl hf
  have hPc : va_P D vwCl ([] : va_W) _ := hP.sub [] rfl
  have hf := bl_inl hf
  refine zcSP (As := [vI x1, vI 0, vI 9999]) (rest := []) hC hK (met_X7_needRange l D kA x1 0 9999 hu) zwX7_206 hPc rfl hl.1 rfl (Nat.le_of_ble_eq_true rfl) ⟨Nat.le_of_ble_eq_true rfl, Nat.le_of_ble_eq_true rfl⟩ ⟨rfl, rfl⟩ ⟨Nat.le_refl _, Nat.le_refl _⟩ dX7_claimable_5 <| lv_aload_n hC.1 hC.2.1 dX7_claimable_8 rfl (lv_at hl 0 rfl) <| gfX7_23 hC hK hP (q0 := 0) rfl rfl dX7_claimable_9 <| ziload_n hC.1 hC.2.1 dX7_claimable_12 rfl (lv_at hl 1 rfl) <| ziload_n hC.1 hC.2.1 dX7_claimable_13 rfl (lv_at hl 2 rfl) <| ?_
  obtain ⟨r_1, hu, hf⟩ := bd_some hf
  have hPc : va_P D vwCl (cs_X4 kA (sv 2 a) (sv 4 V)) _ := hP.sub [2, 3, 4, 5, 6, 7, 8, 9, 10, 11, 12, 13, 14, 15, 16, 17, 18, 19, 20, 21, 22, 23, 24, 25] rfl
  exact zcVP (As := [vI x1, vI x2]) (rest := []) hC hK (met_X4_forecast l D kA (sv 2 a) n (sv 4 V) x1 x2 hu) zwX7_296 hPc (q0 := 0) rfl rfl rfl rfl hl.1 rfl (Nat.le_of_ble_eq_true rfl) ⟨Nat.le_of_ble_eq_true rfl, Nat.le_of_ble_eq_true rfl⟩ ⟨rfl, rfl⟩ ⟨Nat.le_refl _, Nat.le_refl _⟩ dX7_claimable_14 <| hret (Int32.ofInt r_1) _ _ (qI hf) dX7_claimable_17
abbrev rxX7_claimable : Room := { frames := 7, cells := 1, slots := 6, locals := 112 }
set_option maxHeartbeats 1000000 in
set_option maxRecDepth 100000 in
theorem thr_X7_claimable (l : Launch) (D : va_G) (kA : Nat → ClassId) (a : Nat → Nat) (pf : Nat → Option Nat) (n : Nat) (V : Sz) (X : Sz) (x1 : Int) (x2 : Int) {er : Nat} (hf : f_X7_claimable n V X x1 x2 = some (.inr er)) : MX l yX7_claimable cX7_claimable 3 (some .int) rxX7_claimable D kA [.ref (a 0), vI x1, vI x2] (cs_X7 kA a V X pf) (zEx er) := by
  refine zXstart (own := RX7) rfl rfl (Nat.le_of_ble_eq_true rfl) ?_
  intro p e s m args below meth c ls hC hK hP hX hl hx hlocks
  have hl : lv_has ls 3 [(0, .ref (a 0)), (1, vI x1), (2, vI x2)] := hl
  unfold f_X7_claimable at hf
  refine ziload_n hC.1 hC.2.1 dX7_claimable_0 rfl (lv_at hl 1 rfl) <| ziconst hC.1 hC.2.1 dX7_claimable_1 <| zsipush hC.1 hC.2.1 dX7_claimable_2 (by decide) <| ?_
  rcases bx_inr hf with hu | ⟨u, hu, hf⟩
  · have hPc : va_P D vwCl ([] : va_W) _ := hP.sub [] rfl; exact zcSX (As := [vI x1, vI 0, vI 9999]) (rest := []) hC hK hX hx hlocks (thr_X7_needRange l D kA x1 0 9999 hu) zwX7_206 hPc rfl hl.1 rfl (Nat.le_of_ble_eq_true rfl) ⟨Nat.le_of_ble_eq_true rfl, Nat.le_of_ble_eq_true rfl⟩ ⟨rfl, rfl⟩ ⟨Nat.le_of_ble_eq_true rfl, Nat.le_of_ble_eq_true rfl⟩ dX7_claimable_5
  have hPc : va_P D vwCl ([] : va_W) _ := hP.sub [] rfl
  exact (bl_inr hf).elim
theorem DX7_overclaimed_0 : ∀ q ∈ ([(0, .iconst 0, 1), (1, .istore_n 1, 1), (2, .iconst 0, 1), (3, .istore_n 2, 1), (4, .iload_n 2, 1), (5, .aload_n 0, 1), (6, .getfield 23, 3), (9, .getfield 86, 3), (12, .invokevirtual 300, 3), (15, .if_icmp .ge 20, 3), (18, .iload_n 1, 1), (19, .aload_n 0, 1), (20, .getfield 23, 3), (23, .iload_n 2, 1), (24, .invokevirtual 303, 3), (27, .iadd, 1), (28, .istore_n 1, 1), (29, .iinc 2 1, 3), (32, .goto (-28), 3), (35, .iload_n 1, 1), (36, .ireturn, 1)] : List (Nat × Instr × Nat)), decode cX7_overclaimed q.1 = .ok q.2 := by decide +kernel
theorem dX7_overclaimed_0 : decode cX7_overclaimed 0 = .ok (.iconst 0, 1) := DX7_overclaimed_0 (0, .iconst 0, 1) (List.mem_of_getElem? (i := 0) rfl)
theorem dX7_overclaimed_1 : decode cX7_overclaimed 1 = .ok (.istore_n 1, 1) := DX7_overclaimed_0 (1, .istore_n 1, 1) (List.mem_of_getElem? (i := 1) rfl)
theorem dX7_overclaimed_2 : decode cX7_overclaimed 2 = .ok (.iconst 0, 1) := DX7_overclaimed_0 (2, .iconst 0, 1) (List.mem_of_getElem? (i := 2) rfl)
theorem dX7_overclaimed_3 : decode cX7_overclaimed 3 = .ok (.istore_n 2, 1) := DX7_overclaimed_0 (3, .istore_n 2, 1) (List.mem_of_getElem? (i := 3) rfl)
theorem dX7_overclaimed_4 : decode cX7_overclaimed 4 = .ok (.iload_n 2, 1) := DX7_overclaimed_0 (4, .iload_n 2, 1) (List.mem_of_getElem? (i := 4) rfl)
theorem dX7_overclaimed_5 : decode cX7_overclaimed 5 = .ok (.aload_n 0, 1) := DX7_overclaimed_0 (5, .aload_n 0, 1) (List.mem_of_getElem? (i := 5) rfl)
theorem dX7_overclaimed_6 : decode cX7_overclaimed 6 = .ok (.getfield 23, 3) := DX7_overclaimed_0 (6, .getfield 23, 3) (List.mem_of_getElem? (i := 6) rfl)
theorem dX7_overclaimed_9 : decode cX7_overclaimed 9 = .ok (.getfield 86, 3) := DX7_overclaimed_0 (9, .getfield 86, 3) (List.mem_of_getElem? (i := 7) rfl)
theorem dX7_overclaimed_12 : decode cX7_overclaimed 12 = .ok (.invokevirtual 300, 3) := DX7_overclaimed_0 (12, .invokevirtual 300, 3) (List.mem_of_getElem? (i := 8) rfl)
theorem dX7_overclaimed_15 : decode cX7_overclaimed 15 = .ok (.if_icmp .ge 20, 3) := DX7_overclaimed_0 (15, .if_icmp .ge 20, 3) (List.mem_of_getElem? (i := 9) rfl)
theorem dX7_overclaimed_18 : decode cX7_overclaimed 18 = .ok (.iload_n 1, 1) := DX7_overclaimed_0 (18, .iload_n 1, 1) (List.mem_of_getElem? (i := 10) rfl)
theorem dX7_overclaimed_19 : decode cX7_overclaimed 19 = .ok (.aload_n 0, 1) := DX7_overclaimed_0 (19, .aload_n 0, 1) (List.mem_of_getElem? (i := 11) rfl)
theorem dX7_overclaimed_20 : decode cX7_overclaimed 20 = .ok (.getfield 23, 3) := DX7_overclaimed_0 (20, .getfield 23, 3) (List.mem_of_getElem? (i := 12) rfl)
theorem dX7_overclaimed_23 : decode cX7_overclaimed 23 = .ok (.iload_n 2, 1) := DX7_overclaimed_0 (23, .iload_n 2, 1) (List.mem_of_getElem? (i := 13) rfl)
theorem dX7_overclaimed_24 : decode cX7_overclaimed 24 = .ok (.invokevirtual 303, 3) := DX7_overclaimed_0 (24, .invokevirtual 303, 3) (List.mem_of_getElem? (i := 14) rfl)
theorem dX7_overclaimed_27 : decode cX7_overclaimed 27 = .ok (.iadd, 1) := DX7_overclaimed_0 (27, .iadd, 1) (List.mem_of_getElem? (i := 15) rfl)
theorem dX7_overclaimed_28 : decode cX7_overclaimed 28 = .ok (.istore_n 1, 1) := DX7_overclaimed_0 (28, .istore_n 1, 1) (List.mem_of_getElem? (i := 16) rfl)
theorem dX7_overclaimed_29 : decode cX7_overclaimed 29 = .ok (.iinc 2 1, 3) := DX7_overclaimed_0 (29, .iinc 2 1, 3) (List.mem_of_getElem? (i := 17) rfl)
theorem dX7_overclaimed_32 : decode cX7_overclaimed 32 = .ok (.goto (-28), 3) := DX7_overclaimed_0 (32, .goto (-28), 3) (List.mem_of_getElem? (i := 18) rfl)
theorem dX7_overclaimed_35 : decode cX7_overclaimed 35 = .ok (.iload_n 1, 1) := DX7_overclaimed_0 (35, .iload_n 1, 1) (List.mem_of_getElem? (i := 19) rfl)
theorem dX7_overclaimed_36 : decode cX7_overclaimed 36 = .ok (.ireturn, 1) := DX7_overclaimed_0 (36, .ireturn, 1) (List.mem_of_getElem? (i := 20) rfl)
abbrev rmX7_overclaimed : Room := { frames := 2, cells := 0, slots := 0, locals := 81 }
set_option maxHeartbeats 1000000 in
set_option maxRecDepth 100000 in
theorem met_X7_overclaimed (l : Launch) (D : va_G) (kA : Nat → ClassId) (a : Nat → Nat) (pf : Nat → Option Nat) (n : Nat) (V : Sz) (X : Sz) {r : Int} (hf : f_X7_overclaimed n V X = some r) : MP l yX7_overclaimed cX7_overclaimed 3 (some .int) rmX7_overclaimed D kA [.ref (a 0)] (cs_X7 kA a V X pf) (some (vI r)) := by
  refine zPI (own := RX7) rfl rfl (Nat.le_of_ble_eq_true rfl) ?_
  intro p e s m args below meth c ls Q hC hK hP hl hret
  have hl : lv_has ls 3 [(0, .ref (a 0))] := hl
  unfold f_X7_overclaimed at hf
  have L4 : ∀ (k4 : Nat) (y1 : Int) (y2 : Int) (ls : Array Slot), lpF (bX7_overclaimed_4 n V X) k4 (y1, y2) = some r → lv_has ls 3 [(0, .ref (a 0)), (1, vI y1), (2, vI y2)] → W p l e rmX7_overclaimed s m args below meth c s.heap [] 0 0 Q (F0 m 4 ls []) := by
    intro k4
    induction k4 with
    | zero => intro y1 y2 ls hf hl; exact lp_0 hf
    | succ k4 ih4 =>
      intro y1 y2 ls hf hl
      have hf := lp_s hf
      rw [bX7_overclaimed_4_e] at hf
      refine ziload_n hC.1 hC.2.1 dX7_overclaimed_4 rfl (lv_at hl 2 rfl) <| lv_aload_n hC.1 hC.2.1 dX7_overclaimed_5 rfl (lv_at hl 0 rfl) <| gfX7_23 hC hK hP (q0 := 0) rfl rfl dX7_overclaimed_6 <| gfX7_86 hC hK hP (q0 := 2) rfl rfl dX7_overclaimed_9 <| ?_
      obtain ⟨r_1, hu, hf⟩ := bd_some hf
      have hPc : va_P D vwCl (cs_X3 kA (sv 8 a) (sv 13 V)) _ := hP.sub [8, 9, 10, 11, 12, 13, 14, 15, 16, 17, 18, 19] rfl
      refine zcVP (As := []) (rest := [vI y2]) hC hK (met_X3_slotCount l D kA (sv 8 a) (sv 13 V) hu) zwX7_300 hPc (q0 := 0) rfl rfl rfl rfl hl.1 rfl (Nat.le_of_ble_eq_true rfl) ⟨Nat.le_of_ble_eq_true rfl, Nat.le_of_ble_eq_true rfl⟩ ⟨rfl, rfl⟩ ⟨Nat.le_refl _, Nat.le_refl _⟩ dX7_overclaimed_12 <| ?_
      obtain ⟨hz_2, hf⟩ := ck_some hf
      refine zicmp_ge (tgt := 35) hC.1 hC.2.1 ⟨hz_2.1, hz_2.2⟩ dX7_overclaimed_15 (by decide) (fun hc => ?_) (fun hc => ?_)
      · have hf := it_t hf hc
        exact ziload_n hC.1 hC.2.1 dX7_overclaimed_35 rfl (lv_at hl 1 rfl) <| hret (Int32.ofInt y1) _ _ (qI hf) dX7_overclaimed_36
      · have hf := it_f hf hc
        refine ziload_n hC.1 hC.2.1 dX7_overclaimed_18 rfl (lv_at hl 1 rfl) <| lv_aload_n hC.1 hC.2.1 dX7_overclaimed_19 rfl (lv_at hl 0 rfl) <| gfX7_23 hC hK hP (q0 := 0) rfl rfl dX7_overclaimed_20 <| ziload_n hC.1 hC.2.1 dX7_overclaimed_23 rfl (lv_at hl 2 rfl) <| ?_
        obtain ⟨r_3, hu, hf⟩ := bd_some hf
        have hPc : va_P D vwCl (cs_X4 kA (sv 2 a) (sv 4 V)) _ := hP.sub [2, 3, 4, 5, 6, 7, 8, 9, 10, 11, 12, 13, 14, 15, 16, 17, 18, 19, 20, 21, 22, 23, 24, 25] rfl
        refine zcVP (As := [vI y2]) (rest := [vI y1]) hC hK (met_X4_tooMuch l D kA (sv 2 a) (sv 4 V) y2 hu) zwX7_303 hPc (q0 := 0) rfl rfl rfl rfl hl.1 rfl (Nat.le_of_ble_eq_true rfl) ⟨Nat.le_of_ble_eq_true rfl, Nat.le_of_ble_eq_true rfl⟩ ⟨rfl, rfl⟩ ⟨Nat.le_refl _, Nat.le_refl _⟩ dX7_overclaimed_24 <| ziadd hC.1 hC.2.1 dX7_overclaimed_27 <| ?_
        refine ztopi (fun x_4 ex_4 => ?_)
        have hf := nm_at hf ex_4
        refine zistore_n (lv' := [(1, vI x_4), (0, .ref (a 0)), (2, vI y2)]) hC.1 hC.2.1 dX7_overclaimed_28 rfl hl (by decide) rfl (fun ls hl => ?_)
        obtain ⟨x_5, ex_5⟩ : ∃ y : Int, y = y2 + 1 := ⟨_, rfl⟩
        have hf := nm_at hf ex_5
        refine ziinc (v := x_5) (lv' := [(2, vI x_5), (1, vI x_4), (0, .ref (a 0))]) hC.1 hC.2.1 dX7_overclaimed_29 hl (k := 2) rfl ex_5 (by decide) rfl (fun ls hl => ?_)
        exact lv_goto (tgt := 4) hC.1 hC.2.1 dX7_overclaimed_32 (by decide) <| ih4 _ _ _ hf (lv_sub hl [2, 1, 0] rfl)
  refine ziconst hC.1 hC.2.1 dX7_overclaimed_0 <| zistore_n (lv' := [(1, vI 0), (0, .ref (a 0))]) hC.1 hC.2.1 dX7_overclaimed_1 rfl hl (by decide) rfl (fun ls hl => ?_)
  refine ziconst hC.1 hC.2.1 dX7_overclaimed_2 <| zistore_n (lv' := [(2, vI 0), (1, vI 0), (0, .ref (a 0))]) hC.1 hC.2.1 dX7_overclaimed_3 rfl hl (by decide) rfl (fun ls hl => ?_)
  exact L4 n _ _ _ hf (lv_sub hl [2, 1, 0] rfl)
theorem DX7_totalAid_0 : ∀ q ∈ ([(0, .aload_n 0, 1), (1, .getfield 23, 3), (4, .iconst 2, 1), (5, .invokevirtual 306, 3), (8, .ireturn, 1)] : List (Nat × Instr × Nat)), decode cX7_totalAid q.1 = .ok q.2 := by decide +kernel
theorem dX7_totalAid_0 : decode cX7_totalAid 0 = .ok (.aload_n 0, 1) := DX7_totalAid_0 (0, .aload_n 0, 1) (List.mem_of_getElem? (i := 0) rfl)
theorem dX7_totalAid_1 : decode cX7_totalAid 1 = .ok (.getfield 23, 3) := DX7_totalAid_0 (1, .getfield 23, 3) (List.mem_of_getElem? (i := 1) rfl)
theorem dX7_totalAid_4 : decode cX7_totalAid 4 = .ok (.iconst 2, 1) := DX7_totalAid_0 (4, .iconst 2, 1) (List.mem_of_getElem? (i := 2) rfl)
theorem dX7_totalAid_5 : decode cX7_totalAid 5 = .ok (.invokevirtual 306, 3) := DX7_totalAid_0 (5, .invokevirtual 306, 3) (List.mem_of_getElem? (i := 3) rfl)
theorem dX7_totalAid_8 : decode cX7_totalAid 8 = .ok (.ireturn, 1) := DX7_totalAid_0 (8, .ireturn, 1) (List.mem_of_getElem? (i := 4) rfl)
abbrev rmX7_totalAid : Room := { frames := 4, cells := 0, slots := 0, locals := 90 }
set_option maxHeartbeats 1000000 in
set_option maxRecDepth 100000 in
theorem met_X7_totalAid (l : Launch) (D : va_G) (kA : Nat → ClassId) (a : Nat → Nat) (pf : Nat → Option Nat) (n : Nat) (V : Sz) (X : Sz) {r : Int} (hf : f_X7_totalAid n V X = some r) : MP l yX7_totalAid cX7_totalAid 1 (some .int) rmX7_totalAid D kA [.ref (a 0)] (cs_X7 kA a V X pf) (some (vI r)) := by
  refine zPI (own := RX7) rfl rfl (Nat.le_of_ble_eq_true rfl) ?_
  intro p e s m args below meth c ls Q hC hK hP hl hret
  have hl : lv_has ls 1 [(0, .ref (a 0))] := hl
  unfold f_X7_totalAid at hf
  refine lv_aload_n hC.1 hC.2.1 dX7_totalAid_0 rfl (lv_at hl 0 rfl) <| gfX7_23 hC hK hP (q0 := 0) rfl rfl dX7_totalAid_1 <| ziconst hC.1 hC.2.1 dX7_totalAid_4 <| ?_
  obtain ⟨r_1, hu, hf⟩ := bd_some hf
  have hPc : va_P D vwCl (cs_X4 kA (sv 2 a) (sv 4 V)) _ := hP.sub [2, 3, 4, 5, 6, 7, 8, 9, 10, 11, 12, 13, 14, 15, 16, 17, 18, 19, 20, 21, 22, 23, 24, 25] rfl
  exact zcVP (As := [vI 2]) (rest := []) hC hK (met_X4_sumOfAll l D kA (sv 2 a) n (sv 4 V) 2 hu) zwX7_306 hPc (q0 := 0) rfl rfl rfl rfl hl.1 rfl (Nat.le_of_ble_eq_true rfl) ⟨Nat.le_of_ble_eq_true rfl, Nat.le_of_ble_eq_true rfl⟩ ⟨rfl, rfl⟩ ⟨Nat.le_refl _, Nat.le_refl _⟩ dX7_totalAid_5 <| hret (Int32.ofInt r_1) _ _ (qI hf) dX7_totalAid_8
theorem DX7_lost_0 : ∀ q ∈ ([(0, .iload_n 1, 1), (1, .iconst 1, 1), (2, .iconst 5, 1), (3, .invokestatic 206, 3), (6, .aload_n 0, 1), (7, .getfield 23, 3), (10, .iload_n 1, 1), (11, .invokevirtual 309, 3), (14, .ireturn, 1)] : List (Nat × Instr × Nat)), decode cX7_lost q.1 = .ok q.2 := by decide +kernel
theorem dX7_lost_0 : decode cX7_lost 0 = .ok (.iload_n 1, 1) := DX7_lost_0 (0, .iload_n 1, 1) (List.mem_of_getElem? (i := 0) rfl)
theorem dX7_lost_1 : decode cX7_lost 1 = .ok (.iconst 1, 1) := DX7_lost_0 (1, .iconst 1, 1) (List.mem_of_getElem? (i := 1) rfl)
theorem dX7_lost_2 : decode cX7_lost 2 = .ok (.iconst 5, 1) := DX7_lost_0 (2, .iconst 5, 1) (List.mem_of_getElem? (i := 2) rfl)
theorem dX7_lost_3 : decode cX7_lost 3 = .ok (.invokestatic 206, 3) := DX7_lost_0 (3, .invokestatic 206, 3) (List.mem_of_getElem? (i := 3) rfl)
theorem dX7_lost_6 : decode cX7_lost 6 = .ok (.aload_n 0, 1) := DX7_lost_0 (6, .aload_n 0, 1) (List.mem_of_getElem? (i := 4) rfl)
theorem dX7_lost_7 : decode cX7_lost 7 = .ok (.getfield 23, 3) := DX7_lost_0 (7, .getfield 23, 3) (List.mem_of_getElem? (i := 5) rfl)
theorem dX7_lost_10 : decode cX7_lost 10 = .ok (.iload_n 1, 1) := DX7_lost_0 (10, .iload_n 1, 1) (List.mem_of_getElem? (i := 6) rfl)
theorem dX7_lost_11 : decode cX7_lost 11 = .ok (.invokevirtual 309, 3) := DX7_lost_0 (11, .invokevirtual 309, 3) (List.mem_of_getElem? (i := 7) rfl)
theorem dX7_lost_14 : decode cX7_lost 14 = .ok (.ireturn, 1) := DX7_lost_0 (14, .ireturn, 1) (List.mem_of_getElem? (i := 8) rfl)
abbrev rmX7_lost : Room := { frames := 4, cells := 0, slots := 0, locals := 91 }
set_option maxHeartbeats 1000000 in
set_option maxRecDepth 100000 in
theorem met_X7_lost (l : Launch) (D : va_G) (kA : Nat → ClassId) (a : Nat → Nat) (pf : Nat → Option Nat) (n : Nat) (V : Sz) (X : Sz) (x1 : Int) {r : Int} (hf : f_X7_lost n V X x1 = some (.inl r)) : MP l yX7_lost cX7_lost 2 (some .int) rmX7_lost D kA [.ref (a 0), vI x1] (cs_X7 kA a V X pf) (some (vI r)) := by
  refine zPI (own := RX7) rfl rfl (Nat.le_of_ble_eq_true rfl) ?_
  intro p e s m args below meth c ls Q hC hK hP hl hret
  have hl : lv_has ls 2 [(0, .ref (a 0)), (1, vI x1)] := hl
  unfold f_X7_lost at hf
  refine ziload_n hC.1 hC.2.1 dX7_lost_0 rfl (lv_at hl 1 rfl) <| ziconst hC.1 hC.2.1 dX7_lost_1 <| ziconst hC.1 hC.2.1 dX7_lost_2 <| ?_
  obtain ⟨u, hu, hf⟩ := bx_inl hf
  have hPc : va_P D vwCl ([] : va_W) _ := hP.sub [] rfl
  have hf := bl_inl hf
  refine zcSP (As := [vI x1, vI 1, vI 5]) (rest := []) hC hK (met_X7_needRange l D kA x1 1 5 hu) zwX7_206 hPc rfl hl.1 rfl (Nat.le_of_ble_eq_true rfl) ⟨Nat.le_of_ble_eq_true rfl, Nat.le_of_ble_eq_true rfl⟩ ⟨rfl, rfl⟩ ⟨Nat.le_refl _, Nat.le_refl _⟩ dX7_lost_3 <| lv_aload_n hC.1 hC.2.1 dX7_lost_6 rfl (lv_at hl 0 rfl) <| gfX7_23 hC hK hP (q0 := 0) rfl rfl dX7_lost_7 <| ziload_n hC.1 hC.2.1 dX7_lost_10 rfl (lv_at hl 1 rfl) <| ?_
  obtain ⟨r_1, hu, hf⟩ := bd_some hf
  have hPc : va_P D vwCl (cs_X4 kA (sv 2 a) (sv 4 V)) _ := hP.sub [2, 3, 4, 5, 6, 7, 8, 9, 10, 11, 12, 13, 14, 15, 16, 17, 18, 19, 20, 21, 22, 23, 24, 25] rfl
  exact zcVP (As := [vI x1]) (rest := []) hC hK (met_X4_lostBy l D kA (sv 2 a) n (sv 4 V) x1 hu) zwX7_309 hPc (q0 := 0) rfl rfl rfl rfl hl.1 rfl (Nat.le_of_ble_eq_true rfl) ⟨Nat.le_of_ble_eq_true rfl, Nat.le_of_ble_eq_true rfl⟩ ⟨rfl, rfl⟩ ⟨Nat.le_refl _, Nat.le_refl _⟩ dX7_lost_11 <| hret (Int32.ofInt r_1) _ _ (qI hf) dX7_lost_14
abbrev rxX7_lost : Room := { frames := 7, cells := 1, slots := 6, locals := 112 }
set_option maxHeartbeats 1000000 in
set_option maxRecDepth 100000 in
theorem thr_X7_lost (l : Launch) (D : va_G) (kA : Nat → ClassId) (a : Nat → Nat) (pf : Nat → Option Nat) (n : Nat) (V : Sz) (X : Sz) (x1 : Int) {er : Nat} (hf : f_X7_lost n V X x1 = some (.inr er)) : MX l yX7_lost cX7_lost 2 (some .int) rxX7_lost D kA [.ref (a 0), vI x1] (cs_X7 kA a V X pf) (zEx er) := by
  refine zXstart (own := RX7) rfl rfl (Nat.le_of_ble_eq_true rfl) ?_
  intro p e s m args below meth c ls hC hK hP hX hl hx hlocks
  have hl : lv_has ls 2 [(0, .ref (a 0)), (1, vI x1)] := hl
  unfold f_X7_lost at hf
  refine ziload_n hC.1 hC.2.1 dX7_lost_0 rfl (lv_at hl 1 rfl) <| ziconst hC.1 hC.2.1 dX7_lost_1 <| ziconst hC.1 hC.2.1 dX7_lost_2 <| ?_
  rcases bx_inr hf with hu | ⟨u, hu, hf⟩
  · have hPc : va_P D vwCl ([] : va_W) _ := hP.sub [] rfl; exact zcSX (As := [vI x1, vI 1, vI 5]) (rest := []) hC hK hX hx hlocks (thr_X7_needRange l D kA x1 1 5 hu) zwX7_206 hPc rfl hl.1 rfl (Nat.le_of_ble_eq_true rfl) ⟨Nat.le_of_ble_eq_true rfl, Nat.le_of_ble_eq_true rfl⟩ ⟨rfl, rfl⟩ ⟨Nat.le_of_ble_eq_true rfl, Nat.le_of_ble_eq_true rfl⟩ dX7_lost_3
  have hPc : va_P D vwCl ([] : va_W) _ := hP.sub [] rfl
  exact (bl_inr hf).elim
theorem DX7_mostUrgent_0 : ∀ q ∈ ([(0, .aload_n 0, 1), (1, .getfield 23, 3), (4, .invokevirtual 312, 3), (7, .ireturn, 1)] : List (Nat × Instr × Nat)), decode cX7_mostUrgent q.1 = .ok q.2 := by decide +kernel
theorem dX7_mostUrgent_0 : decode cX7_mostUrgent 0 = .ok (.aload_n 0, 1) := DX7_mostUrgent_0 (0, .aload_n 0, 1) (List.mem_of_getElem? (i := 0) rfl)
theorem dX7_mostUrgent_1 : decode cX7_mostUrgent 1 = .ok (.getfield 23, 3) := DX7_mostUrgent_0 (1, .getfield 23, 3) (List.mem_of_getElem? (i := 1) rfl)
theorem dX7_mostUrgent_4 : decode cX7_mostUrgent 4 = .ok (.invokevirtual 312, 3) := DX7_mostUrgent_0 (4, .invokevirtual 312, 3) (List.mem_of_getElem? (i := 2) rfl)
theorem dX7_mostUrgent_7 : decode cX7_mostUrgent 7 = .ok (.ireturn, 1) := DX7_mostUrgent_0 (7, .ireturn, 1) (List.mem_of_getElem? (i := 3) rfl)
abbrev rmX7_mostUrgent : Room := { frames := 4, cells := 0, slots := 0, locals := 128 }
set_option maxHeartbeats 1000000 in
set_option maxRecDepth 100000 in
theorem met_X7_mostUrgent (l : Launch) (D : va_G) (kA : Nat → ClassId) (a : Nat → Nat) (pf : Nat → Option Nat) (n : Nat) (V : Sz) (X : Sz) {r : Int} (hf : f_X7_mostUrgent n V X = some r) : MP l yX7_mostUrgent cX7_mostUrgent 1 (some .int) rmX7_mostUrgent D kA [.ref (a 0)] (cs_X7 kA a V X pf) (some (vI r)) := by
  refine zPI (own := RX7) rfl rfl (Nat.le_of_ble_eq_true rfl) ?_
  intro p e s m args below meth c ls Q hC hK hP hl hret
  have hl : lv_has ls 1 [(0, .ref (a 0))] := hl
  unfold f_X7_mostUrgent at hf
  refine lv_aload_n hC.1 hC.2.1 dX7_mostUrgent_0 rfl (lv_at hl 0 rfl) <| gfX7_23 hC hK hP (q0 := 0) rfl rfl dX7_mostUrgent_1 <| ?_
  obtain ⟨r_1, hu, hf⟩ := bd_some hf
  have hPc : va_P D vwCl (cs_X4 kA (sv 2 a) (sv 4 V)) _ := hP.sub [2, 3, 4, 5, 6, 7, 8, 9, 10, 11, 12, 13, 14, 15, 16, 17, 18, 19, 20, 21, 22, 23, 24, 25] rfl
  exact zcVP (As := []) (rest := []) hC hK (met_X4_urgentGift l D kA (sv 2 a) n (sv 4 V) hu) zwX7_312 hPc (q0 := 0) rfl rfl rfl rfl hl.1 rfl (Nat.le_of_ble_eq_true rfl) ⟨Nat.le_of_ble_eq_true rfl, Nat.le_of_ble_eq_true rfl⟩ ⟨rfl, rfl⟩ ⟨Nat.le_refl _, Nat.le_refl _⟩ dX7_mostUrgent_4 <| hret (Int32.ofInt r_1) _ _ (qI hf) dX7_mostUrgent_7
theorem DX7_limitedYears_0 : ∀ q ∈ ([(0, .aload_n 0, 1), (1, .iload_n 1, 1), (2, .invokevirtual 203, 3), (5, .aload_n 0, 1), (6, .getfield 23, 3), (9, .iload_n 1, 1), (10, .invokevirtual 315, 3), (13, .ireturn, 1)] : List (Nat × Instr × Nat)), decode cX7_limitedYears q.1 = .ok q.2 := by decide +kernel
theorem dX7_limitedYears_0 : decode cX7_limitedYears 0 = .ok (.aload_n 0, 1) := DX7_limitedYears_0 (0, .aload_n 0, 1) (List.mem_of_getElem? (i := 0) rfl)
theorem dX7_limitedYears_1 : decode cX7_limitedYears 1 = .ok (.iload_n 1, 1) := DX7_limitedYears_0 (1, .iload_n 1, 1) (List.mem_of_getElem? (i := 1) rfl)
theorem dX7_limitedYears_2 : decode cX7_limitedYears 2 = .ok (.invokevirtual 203, 3) := DX7_limitedYears_0 (2, .invokevirtual 203, 3) (List.mem_of_getElem? (i := 2) rfl)
theorem dX7_limitedYears_5 : decode cX7_limitedYears 5 = .ok (.aload_n 0, 1) := DX7_limitedYears_0 (5, .aload_n 0, 1) (List.mem_of_getElem? (i := 3) rfl)
theorem dX7_limitedYears_6 : decode cX7_limitedYears 6 = .ok (.getfield 23, 3) := DX7_limitedYears_0 (6, .getfield 23, 3) (List.mem_of_getElem? (i := 4) rfl)
theorem dX7_limitedYears_9 : decode cX7_limitedYears 9 = .ok (.iload_n 1, 1) := DX7_limitedYears_0 (9, .iload_n 1, 1) (List.mem_of_getElem? (i := 5) rfl)
theorem dX7_limitedYears_10 : decode cX7_limitedYears 10 = .ok (.invokevirtual 315, 3) := DX7_limitedYears_0 (10, .invokevirtual 315, 3) (List.mem_of_getElem? (i := 6) rfl)
theorem dX7_limitedYears_13 : decode cX7_limitedYears 13 = .ok (.ireturn, 1) := DX7_limitedYears_0 (13, .ireturn, 1) (List.mem_of_getElem? (i := 7) rfl)
abbrev rmX7_limitedYears : Room := { frames := 2, cells := 0, slots := 0, locals := 49 }
set_option maxHeartbeats 1000000 in
set_option maxRecDepth 100000 in
theorem met_X7_limitedYears (l : Launch) (D : va_G) (kA : Nat → ClassId) (a : Nat → Nat) (pf : Nat → Option Nat) (n : Nat) (V : Sz) (X : Sz) (x1 : Int) {r : Int} (hf : f_X7_limitedYears n V X x1 = some (.inl r)) : MP l yX7_limitedYears cX7_limitedYears 2 (some .int) rmX7_limitedYears D kA [.ref (a 0), vI x1] (cs_X7 kA a V X pf) (some (vI r)) := by
  refine zPI (own := RX7) rfl rfl (Nat.le_of_ble_eq_true rfl) ?_
  intro p e s m args below meth c ls Q hC hK hP hl hret
  have hl : lv_has ls 2 [(0, .ref (a 0)), (1, vI x1)] := hl
  unfold f_X7_limitedYears at hf
  refine lv_aload_n hC.1 hC.2.1 dX7_limitedYears_0 rfl (lv_at hl 0 rfl) <| ziload_n hC.1 hC.2.1 dX7_limitedYears_1 rfl (lv_at hl 1 rfl) <| ?_
  obtain ⟨u, hu, hf⟩ := bx_inl hf
  have hf := bl_inl hf
  refine zcVP (As := [vI x1]) (rest := []) hC hK (met_X7_needDonor l D kA a pf V X x1 hu) zwX7_203 hP (q0 := 0) rfl rfl rfl rfl hl.1 rfl (Nat.le_of_ble_eq_true rfl) ⟨Nat.le_of_ble_eq_true rfl, Nat.le_of_ble_eq_true rfl⟩ ⟨rfl, rfl⟩ ⟨Nat.le_refl _, Nat.le_refl _⟩ dX7_limitedYears_2 <| lv_aload_n hC.1 hC.2.1 dX7_limitedYears_5 rfl (lv_at hl 0 rfl) <| gfX7_23 hC hK hP (q0 := 0) rfl rfl dX7_limitedYears_6 <| ziload_n hC.1 hC.2.1 dX7_limitedYears_9 rfl (lv_at hl 1 rfl) <| ?_
  obtain ⟨r_1, hu, hf⟩ := bd_some hf
  have hPc : va_P D vwCl (cs_X4 kA (sv 2 a) (sv 4 V)) _ := hP.sub [2, 3, 4, 5, 6, 7, 8, 9, 10, 11, 12, 13, 14, 15, 16, 17, 18, 19, 20, 21, 22, 23, 24, 25] rfl
  exact zcVP (As := [vI x1]) (rest := []) hC hK (met_X4_countLimitedYears l D kA (sv 2 a) n (sv 4 V) x1 hu) zwX7_315 hPc (q0 := 0) rfl rfl rfl rfl hl.1 rfl (Nat.le_of_ble_eq_true rfl) ⟨Nat.le_of_ble_eq_true rfl, Nat.le_of_ble_eq_true rfl⟩ ⟨rfl, rfl⟩ ⟨Nat.le_refl _, Nat.le_refl _⟩ dX7_limitedYears_10 <| hret (Int32.ofInt r_1) _ _ (qI hf) dX7_limitedYears_13
abbrev rxX7_limitedYears : Room := { frames := 7, cells := 1, slots := 6, locals := 111 }
set_option maxHeartbeats 1000000 in
set_option maxRecDepth 100000 in
theorem thr_X7_limitedYears (l : Launch) (D : va_G) (kA : Nat → ClassId) (a : Nat → Nat) (pf : Nat → Option Nat) (n : Nat) (V : Sz) (X : Sz) (x1 : Int) {er : Nat} (hf : f_X7_limitedYears n V X x1 = some (.inr er)) : MX l yX7_limitedYears cX7_limitedYears 2 (some .int) rxX7_limitedYears D kA [.ref (a 0), vI x1] (cs_X7 kA a V X pf) (zEx er) := by
  refine zXstart (own := RX7) rfl rfl (Nat.le_of_ble_eq_true rfl) ?_
  intro p e s m args below meth c ls hC hK hP hX hl hx hlocks
  have hl : lv_has ls 2 [(0, .ref (a 0)), (1, vI x1)] := hl
  unfold f_X7_limitedYears at hf
  refine lv_aload_n hC.1 hC.2.1 dX7_limitedYears_0 rfl (lv_at hl 0 rfl) <| ziload_n hC.1 hC.2.1 dX7_limitedYears_1 rfl (lv_at hl 1 rfl) <| ?_
  rcases bx_inr hf with hu | ⟨u, hu, hf⟩
  · exact zcVX (As := [vI x1]) (rest := []) hC hK hX hx hlocks (thr_X7_needDonor l D kA a pf V X x1 hu) zwX7_203 hP (q0 := 0) rfl rfl rfl rfl hl.1 rfl (Nat.le_of_ble_eq_true rfl) ⟨Nat.le_of_ble_eq_true rfl, Nat.le_of_ble_eq_true rfl⟩ ⟨rfl, rfl⟩ ⟨Nat.le_of_ble_eq_true rfl, Nat.le_of_ble_eq_true rfl⟩ dX7_limitedYears_2
  exact (bl_inr hf).elim
theorem DX7_expiring_0 : ∀ q ∈ ([(0, .iload_n 1, 1), (1, .iload_n 2, 1), (2, .invokestatic 221, 3), (5, .aload_n 0, 1), (6, .getfield 23, 3), (9, .iload_n 1, 1), (10, .iload_n 2, 1), (11, .invokevirtual 318, 3), (14, .ireturn, 1)] : List (Nat × Instr × Nat)), decode cX7_expiring q.1 = .ok q.2 := by decide +kernel
theorem dX7_expiring_0 : decode cX7_expiring 0 = .ok (.iload_n 1, 1) := DX7_expiring_0 (0, .iload_n 1, 1) (List.mem_of_getElem? (i := 0) rfl)
theorem dX7_expiring_1 : decode cX7_expiring 1 = .ok (.iload_n 2, 1) := DX7_expiring_0 (1, .iload_n 2, 1) (List.mem_of_getElem? (i := 1) rfl)
theorem dX7_expiring_2 : decode cX7_expiring 2 = .ok (.invokestatic 221, 3) := DX7_expiring_0 (2, .invokestatic 221, 3) (List.mem_of_getElem? (i := 2) rfl)
theorem dX7_expiring_5 : decode cX7_expiring 5 = .ok (.aload_n 0, 1) := DX7_expiring_0 (5, .aload_n 0, 1) (List.mem_of_getElem? (i := 3) rfl)
theorem dX7_expiring_6 : decode cX7_expiring 6 = .ok (.getfield 23, 3) := DX7_expiring_0 (6, .getfield 23, 3) (List.mem_of_getElem? (i := 4) rfl)
theorem dX7_expiring_9 : decode cX7_expiring 9 = .ok (.iload_n 1, 1) := DX7_expiring_0 (9, .iload_n 1, 1) (List.mem_of_getElem? (i := 5) rfl)
theorem dX7_expiring_10 : decode cX7_expiring 10 = .ok (.iload_n 2, 1) := DX7_expiring_0 (10, .iload_n 2, 1) (List.mem_of_getElem? (i := 6) rfl)
theorem dX7_expiring_11 : decode cX7_expiring 11 = .ok (.invokevirtual 318, 3) := DX7_expiring_0 (11, .invokevirtual 318, 3) (List.mem_of_getElem? (i := 7) rfl)
theorem dX7_expiring_14 : decode cX7_expiring 14 = .ok (.ireturn, 1) := DX7_expiring_0 (14, .ireturn, 1) (List.mem_of_getElem? (i := 8) rfl)
abbrev rmX7_expiring : Room := { frames := 4, cells := 0, slots := 0, locals := 129 }
set_option maxHeartbeats 1000000 in
set_option maxRecDepth 100000 in
theorem met_X7_expiring (l : Launch) (D : va_G) (kA : Nat → ClassId) (a : Nat → Nat) (pf : Nat → Option Nat) (n : Nat) (V : Sz) (X : Sz) (x1 : Int) (x2 : Int) {r : Int} (hf : f_X7_expiring n V X x1 x2 = some (.inl r)) : MP l yX7_expiring cX7_expiring 3 (some .int) rmX7_expiring D kA [.ref (a 0), vI x1, vI x2] (cs_X7 kA a V X pf) (some (vI r)) := by
  refine zPI (own := RX7) rfl rfl (Nat.le_of_ble_eq_true rfl) ?_
  intro p e s m args below meth c ls Q hC hK hP hl hret
  have hl : lv_has ls 3 [(0, .ref (a 0)), (1, vI x1), (2, vI x2)] := hl
  unfold f_X7_expiring at hf
  refine ziload_n hC.1 hC.2.1 dX7_expiring_0 rfl (lv_at hl 1 rfl) <| ziload_n hC.1 hC.2.1 dX7_expiring_1 rfl (lv_at hl 2 rfl) <| ?_
  obtain ⟨u, hu, hf⟩ := bx_inl hf
  have hPc : va_P D vwCl ([] : va_W) _ := hP.sub [] rfl
  have hf := bl_inl hf
  refine zcSP (As := [vI x1, vI x2]) (rest := []) hC hK (met_X7_needSpan l D kA x1 x2 hu) zwX7_221 hPc rfl hl.1 rfl (Nat.le_of_ble_eq_true rfl) ⟨Nat.le_of_ble_eq_true rfl, Nat.le_of_ble_eq_true rfl⟩ ⟨rfl, rfl⟩ ⟨Nat.le_refl _, Nat.le_refl _⟩ dX7_expiring_2 <| lv_aload_n hC.1 hC.2.1 dX7_expiring_5 rfl (lv_at hl 0 rfl) <| gfX7_23 hC hK hP (q0 := 0) rfl rfl dX7_expiring_6 <| ziload_n hC.1 hC.2.1 dX7_expiring_9 rfl (lv_at hl 1 rfl) <| ziload_n hC.1 hC.2.1 dX7_expiring_10 rfl (lv_at hl 2 rfl) <| ?_
  obtain ⟨r_1, hu, hf⟩ := bd_some hf
  have hPc : va_P D vwCl (cs_X4 kA (sv 2 a) (sv 4 V)) _ := hP.sub [2, 3, 4, 5, 6, 7, 8, 9, 10, 11, 12, 13, 14, 15, 16, 17, 18, 19, 20, 21, 22, 23, 24, 25] rfl
  exact zcVP (As := [vI x1, vI x2]) (rest := []) hC hK (met_X4_openUntil l D kA (sv 2 a) n (sv 4 V) x1 x2 hu) zwX7_318 hPc (q0 := 0) rfl rfl rfl rfl hl.1 rfl (Nat.le_of_ble_eq_true rfl) ⟨Nat.le_of_ble_eq_true rfl, Nat.le_of_ble_eq_true rfl⟩ ⟨rfl, rfl⟩ ⟨Nat.le_refl _, Nat.le_refl _⟩ dX7_expiring_11 <| hret (Int32.ofInt r_1) _ _ (qI hf) dX7_expiring_14
abbrev rxX7_expiring : Room := { frames := 8, cells := 1, slots := 6, locals := 133 }
set_option maxHeartbeats 1000000 in
set_option maxRecDepth 100000 in
theorem thr_X7_expiring (l : Launch) (D : va_G) (kA : Nat → ClassId) (a : Nat → Nat) (pf : Nat → Option Nat) (n : Nat) (V : Sz) (X : Sz) (x1 : Int) (x2 : Int) {er : Nat} (hf : f_X7_expiring n V X x1 x2 = some (.inr er)) : MX l yX7_expiring cX7_expiring 3 (some .int) rxX7_expiring D kA [.ref (a 0), vI x1, vI x2] (cs_X7 kA a V X pf) (zEx er) := by
  refine zXstart (own := RX7) rfl rfl (Nat.le_of_ble_eq_true rfl) ?_
  intro p e s m args below meth c ls hC hK hP hX hl hx hlocks
  have hl : lv_has ls 3 [(0, .ref (a 0)), (1, vI x1), (2, vI x2)] := hl
  unfold f_X7_expiring at hf
  refine ziload_n hC.1 hC.2.1 dX7_expiring_0 rfl (lv_at hl 1 rfl) <| ziload_n hC.1 hC.2.1 dX7_expiring_1 rfl (lv_at hl 2 rfl) <| ?_
  rcases bx_inr hf with hu | ⟨u, hu, hf⟩
  · have hPc : va_P D vwCl ([] : va_W) _ := hP.sub [] rfl; exact zcSX (As := [vI x1, vI x2]) (rest := []) hC hK hX hx hlocks (thr_X7_needSpan l D kA x1 x2 hu) zwX7_221 hPc rfl hl.1 rfl (Nat.le_of_ble_eq_true rfl) ⟨Nat.le_of_ble_eq_true rfl, Nat.le_of_ble_eq_true rfl⟩ ⟨rfl, rfl⟩ ⟨Nat.le_of_ble_eq_true rfl, Nat.le_of_ble_eq_true rfl⟩ dX7_expiring_2
  have hPc : va_P D vwCl ([] : va_W) _ := hP.sub [] rfl
  exact (bl_inr hf).elim
theorem DX7_useOf_0 : ∀ q ∈ ([(0, .aload_n 0, 1), (1, .iload_n 1, 1), (2, .invokevirtual 135, 3), (5, .aload_n 0, 1), (6, .getfield 27, 3), (9, .aload_n 0, 1), (10, .getfield 23, 3), (13, .invokevirtual 75, 3), (16, .aload_n 0, 1), (17, .getfield 27, 3), (20, .getfield 98, 3), (23, .iload_n 1, 1), (24, .iconst 0, 1), (25, .invokevirtual 249, 3), (28, .aload_n 0, 1), (29, .getfield 27, 3), (32, .invokevirtual 72, 3), (35, .aload_n 0, 1), (36, .getfield 23, 3), (39, .iconst 2, 1), (40, .invokevirtual 306, 3), (43, .aload_n 0, 1), (44, .getfield 27, 3), (47, .iconst 2, 1), (48, .invokevirtual 306, 3), (51, .isub, 1), (52, .ireturn, 1)] : List (Nat × Instr × Nat)), decode cX7_useOf q.1 = .ok q.2 := by decide +kernel
theorem dX7_useOf_0 : decode cX7_useOf 0 = .ok (.aload_n 0, 1) := DX7_useOf_0 (0, .aload_n 0, 1) (List.mem_of_getElem? (i := 0) rfl)
theorem dX7_useOf_1 : decode cX7_useOf 1 = .ok (.iload_n 1, 1) := DX7_useOf_0 (1, .iload_n 1, 1) (List.mem_of_getElem? (i := 1) rfl)
theorem dX7_useOf_2 : decode cX7_useOf 2 = .ok (.invokevirtual 135, 3) := DX7_useOf_0 (2, .invokevirtual 135, 3) (List.mem_of_getElem? (i := 2) rfl)
theorem dX7_useOf_5 : decode cX7_useOf 5 = .ok (.aload_n 0, 1) := DX7_useOf_0 (5, .aload_n 0, 1) (List.mem_of_getElem? (i := 3) rfl)
theorem dX7_useOf_6 : decode cX7_useOf 6 = .ok (.getfield 27, 3) := DX7_useOf_0 (6, .getfield 27, 3) (List.mem_of_getElem? (i := 4) rfl)
theorem dX7_useOf_9 : decode cX7_useOf 9 = .ok (.aload_n 0, 1) := DX7_useOf_0 (9, .aload_n 0, 1) (List.mem_of_getElem? (i := 5) rfl)
theorem dX7_useOf_10 : decode cX7_useOf 10 = .ok (.getfield 23, 3) := DX7_useOf_0 (10, .getfield 23, 3) (List.mem_of_getElem? (i := 6) rfl)
theorem dX7_useOf_13 : decode cX7_useOf 13 = .ok (.invokevirtual 75, 3) := DX7_useOf_0 (13, .invokevirtual 75, 3) (List.mem_of_getElem? (i := 7) rfl)
theorem dX7_useOf_16 : decode cX7_useOf 16 = .ok (.aload_n 0, 1) := DX7_useOf_0 (16, .aload_n 0, 1) (List.mem_of_getElem? (i := 8) rfl)
theorem dX7_useOf_17 : decode cX7_useOf 17 = .ok (.getfield 27, 3) := DX7_useOf_0 (17, .getfield 27, 3) (List.mem_of_getElem? (i := 9) rfl)
theorem dX7_useOf_20 : decode cX7_useOf 20 = .ok (.getfield 98, 3) := DX7_useOf_0 (20, .getfield 98, 3) (List.mem_of_getElem? (i := 10) rfl)
theorem dX7_useOf_23 : decode cX7_useOf 23 = .ok (.iload_n 1, 1) := DX7_useOf_0 (23, .iload_n 1, 1) (List.mem_of_getElem? (i := 11) rfl)
theorem dX7_useOf_24 : decode cX7_useOf 24 = .ok (.iconst 0, 1) := DX7_useOf_0 (24, .iconst 0, 1) (List.mem_of_getElem? (i := 12) rfl)
theorem dX7_useOf_25 : decode cX7_useOf 25 = .ok (.invokevirtual 249, 3) := DX7_useOf_0 (25, .invokevirtual 249, 3) (List.mem_of_getElem? (i := 13) rfl)
theorem dX7_useOf_28 : decode cX7_useOf 28 = .ok (.aload_n 0, 1) := DX7_useOf_0 (28, .aload_n 0, 1) (List.mem_of_getElem? (i := 14) rfl)
theorem dX7_useOf_29 : decode cX7_useOf 29 = .ok (.getfield 27, 3) := DX7_useOf_0 (29, .getfield 27, 3) (List.mem_of_getElem? (i := 15) rfl)
theorem dX7_useOf_32 : decode cX7_useOf 32 = .ok (.invokevirtual 72, 3) := DX7_useOf_0 (32, .invokevirtual 72, 3) (List.mem_of_getElem? (i := 16) rfl)
theorem dX7_useOf_35 : decode cX7_useOf 35 = .ok (.aload_n 0, 1) := DX7_useOf_0 (35, .aload_n 0, 1) (List.mem_of_getElem? (i := 17) rfl)
theorem dX7_useOf_36 : decode cX7_useOf 36 = .ok (.getfield 23, 3) := DX7_useOf_0 (36, .getfield 23, 3) (List.mem_of_getElem? (i := 18) rfl)
theorem dX7_useOf_39 : decode cX7_useOf 39 = .ok (.iconst 2, 1) := DX7_useOf_0 (39, .iconst 2, 1) (List.mem_of_getElem? (i := 19) rfl)
theorem dX7_useOf_40 : decode cX7_useOf 40 = .ok (.invokevirtual 306, 3) := DX7_useOf_0 (40, .invokevirtual 306, 3) (List.mem_of_getElem? (i := 20) rfl)
theorem dX7_useOf_43 : decode cX7_useOf 43 = .ok (.aload_n 0, 1) := DX7_useOf_0 (43, .aload_n 0, 1) (List.mem_of_getElem? (i := 21) rfl)
theorem dX7_useOf_44 : decode cX7_useOf 44 = .ok (.getfield 27, 3) := DX7_useOf_0 (44, .getfield 27, 3) (List.mem_of_getElem? (i := 22) rfl)
theorem dX7_useOf_47 : decode cX7_useOf 47 = .ok (.iconst 2, 1) := DX7_useOf_0 (47, .iconst 2, 1) (List.mem_of_getElem? (i := 23) rfl)
theorem dX7_useOf_48 : decode cX7_useOf 48 = .ok (.invokevirtual 306, 3) := DX7_useOf_0 (48, .invokevirtual 306, 3) (List.mem_of_getElem? (i := 24) rfl)
theorem dX7_useOf_51 : decode cX7_useOf 51 = .ok (.isub, 1) := DX7_useOf_0 (51, .isub, 1) (List.mem_of_getElem? (i := 25) rfl)
theorem dX7_useOf_52 : decode cX7_useOf 52 = .ok (.ireturn, 1) := DX7_useOf_0 (52, .ireturn, 1) (List.mem_of_getElem? (i := 26) rfl)
abbrev rmX7_useOf : Room := { frames := 4, cells := 0, slots := 0, locals := 123 }
set_option maxHeartbeats 1000000 in
set_option maxRecDepth 100000 in
theorem met_X7_useOf (l : Launch) (D : va_G) (kA : Nat → ClassId) (a : Nat → Nat) (pf : Nat → Option Nat) (n : Nat) (V0 : Sz) (X : Sz) (x1 : Int) (hDt : ∀ w : Sz, va_D (fun _ => True) (cs_X7 kA a w X pf)) {r : Int} {Vr : Sz} (hf : f_X7_useOf n V0 X x1 = some (.inl (r, Vr))) : MZ l yX7_useOf cX7_useOf 2 (some .int) rmX7_useOf D kA [.ref (a 0), vI x1] (cs_X7 kA a V0 X pf) (cs_X7 kA a Vr X pf) (some (vI r)) := by
  refine zZI (own := RX7) rfl rfl (Nat.le_of_ble_eq_true rfl) ?_
  intro p e s m args below meth c ls Q hC hK hP hl hret
  have hl : lv_has ls 2 [(0, .ref (a 0)), (1, vI x1)] := hl
  have hS : va_S (zF (cs_X7 kA a V0 X pf)) s.heap s.heap [] := va_S.rf
  have hD := zDself (C := fun w : Sz => (cs_X7 kA a w X pf)) hDt V0 (fun _ => rfl)
  try dsimp only at hD
  generalize hAe : zF (cs_X7 kA a V0 X pf) = A0 at hS hD hret
  unfold f_X7_useOf at hf
  refine lv_aload_n hC.1 hC.2.1 dX7_useOf_0 rfl (lv_at hl 0 rfl) <| ziload_n hC.1 hC.2.1 dX7_useOf_1 rfl (lv_at hl 1 rfl) <| ?_
  obtain ⟨u, hu, hf⟩ := bx_inl hf
  have hf := bl_inl hf
  refine zcVP (As := [vI x1]) (rest := []) hC hK (met_X7_needDeclaration l D kA a pf V0 X x1 hu) zwX7_135 hP (q0 := 0) rfl rfl rfl rfl hl.1 rfl (Nat.le_of_ble_eq_true rfl) ⟨Nat.le_of_ble_eq_true rfl, Nat.le_of_ble_eq_true rfl⟩ ⟨rfl, rfl⟩ ⟨Nat.le_refl _, Nat.le_refl _⟩ dX7_useOf_2 <| lv_aload_n hC.1 hC.2.1 dX7_useOf_5 rfl (lv_at hl 0 rfl) <| gfX7_27 hC hK hP (q0 := 0) rfl rfl dX7_useOf_6 <| lv_aload_n hC.1 hC.2.1 dX7_useOf_9 rfl (lv_at hl 0 rfl) <| gfX7_23 hC hK hP (q0 := 0) rfl rfl dX7_useOf_10 <| ?_
  obtain ⟨V_1, hu, hf⟩ := bd_some hf
  have hPc : va_P D vwCl (cs_X4 kA (sv 26 a) (sv 31 V0) ++ (cs_X4 kA (sv 2 a) (sv 4 V0))) _ := hP.sub [26, 27, 28, 29, 30, 31, 32, 33, 34, 35, 36, 37, 38, 39, 40, 41, 42, 43, 44, 45, 46, 47, 48, 49, 2, 3, 4, 5, 6, 7, 8, 9, 10, 11, 12, 13, 14, 15, 16, 17, 18, 19, 20, 21, 22, 23, 24, 25] rfl
  have hDc : ∀ w : Sz, va_D (fun _ => True) (cs_X4 kA (sv 26 a) w ++ (cs_X4 kA (sv 2 a) (sv 4 V0))) := fun w => (hDt (sw 31 27 V0 w)).sub [26, 27, 28, 29, 30, 31, 32, 33, 34, 35, 36, 37, 38, 39, 40, 41, 42, 43, 44, 45, 46, 47, 48, 49, 2, 3, 4, 5, 6, 7, 8, 9, 10, 11, 12, 13, 14, 15, 16, 17, 18, 19, 20, 21, 22, 23, 24, 25] (by decide) rfl
  refine zcVZ (As := [.ref (a 2)]) (rest := []) hC hK (met_X4_become l D kA (sv 26 a) (sv 2 a) (sv 31 V0) (sv 4 V0) hDc hu) zwX7_75 hS (zFsub (hD V0) [26, 27, 28, 29, 30, 31, 32, 33, 34, 35, 36, 37, 38, 39, 40, 41, 42, 43, 44, 45, 46, 47, 48, 49, 2, 3, 4, 5, 6, 7, 8, 9, 10, 11, 12, 13, 14, 15, 16, 17, 18, 19, 20, 21, 22, 23, 24, 25] rfl) hPc (q0 := 0) rfl rfl rfl rfl hl.1 rfl (Nat.le_of_ble_eq_true rfl) ⟨Nat.le_of_ble_eq_true rfl, Nat.le_of_ble_eq_true rfl⟩ ⟨rfl, rfl⟩ ⟨Nat.le_refl _, Nat.le_refl _⟩ dX7_useOf_13 (fun H locs hP1 hk1 hS => ?_)
  obtain ⟨V_2, eV_2⟩ : ∃ y, y = sw 31 27 V0 V_1 := ⟨_, rfl⟩
  have hf := nm_at hf eV_2
  have hP : va_P D vwCl (cs_X7 kA a V_2 X pf) H := by rw [eV_2]; exact zjoinB (wb0 := (cs_X4 kA (sv 26 a) (sv 31 V0))) (wb1 := (cs_X4 kA (sv 26 a) V_1)) (wo := (cs_X4 kA (sv 2 a) (sv 4 V0))) hP (hDt V0) 26 24 [26, 27, 28, 29, 30, 31, 32, 33, 34, 35, 36, 37, 38, 39, 40, 41, 42, 43, 44, 45, 46, 47, 48, 49, 2, 3, 4, 5, 6, 7, 8, 9, 10, 11, 12, 13, 14, 15, 16, 17, 18, 19, 20, 21, 22, 23, 24, 25] rfl rfl rfl rfl hk1 hP1
  refine lv_aload_n hC.1 hC.2.1 dX7_useOf_16 rfl (lv_at hl 0 rfl) <| gfX7_27 hC hK hP (q0 := 0) rfl rfl dX7_useOf_17 <| gfX7_98 hC hK hP (q0 := 26) rfl rfl dX7_useOf_20 <| ziload_n hC.1 hC.2.1 dX7_useOf_23 rfl (lv_at hl 1 rfl) <| ziconst hC.1 hC.2.1 dX7_useOf_24 <| ?_
  obtain ⟨V_3, hu, hf⟩ := bd_some hf
  have hPc : va_P D vwCl (cs_X1 kA (sv 28 a) (sv 36 V_2)) _ := hP.sub [28, 29, 30, 31] rfl
  have hDc : ∀ w : Sz, va_D (fun _ => True) (cs_X1 kA (sv 28 a) w) := fun w => (hDt (sw 36 4 V_2 w)).sub [28, 29, 30, 31] (by decide) rfl
  refine zcVZ (As := [vI x1, vI 0]) (rest := []) hC hK (met_X1_cutFrom l D kA (sv 28 a) (sv 36 V_2) x1 0 hDc hu) zwX7_249 hS (zFsub (hD V_2) [28, 29, 30, 31] rfl) hPc (q0 := 0) rfl rfl rfl rfl hl.1 rfl (Nat.le_of_ble_eq_true rfl) ⟨Nat.le_of_ble_eq_true rfl, Nat.le_of_ble_eq_true rfl⟩ ⟨rfl, rfl⟩ ⟨Nat.le_refl _, Nat.le_refl _⟩ dX7_useOf_25 (fun H locs hP1 hk1 hS => ?_)
  obtain ⟨V_4, eV_4⟩ : ∃ y, y = sw 36 4 V_2 V_3 := ⟨_, rfl⟩
  have hf := nm_at hf eV_4
  have hP : va_P D vwCl (cs_X7 kA a V_4 X pf) H := by rw [eV_4]; exact zjoin hP (hDt V_2) [28, 29, 30, 31] (w0 := (cs_X1 kA (sv 28 a) (sv 36 V_2))) rfl (Nat.le_of_ble_eq_true rfl) hk1 hP1
  refine lv_aload_n hC.1 hC.2.1 dX7_useOf_28 rfl (lv_at hl 0 rfl) <| gfX7_27 hC hK hP (q0 := 0) rfl rfl dX7_useOf_29 <| ?_
  obtain ⟨V_5, hu, hf⟩ := bd_some hf
  have hPc : va_P D vwCl (cs_X4 kA (sv 26 a) (sv 31 V_4)) _ := hP.sub [26, 27, 28, 29, 30, 31, 32, 33, 34, 35, 36, 37, 38, 39, 40, 41, 42, 43, 44, 45, 46, 47, 48, 49] rfl
  have hDc : ∀ w : Sz, va_D (fun _ => True) (cs_X4 kA (sv 26 a) w) := fun w => (hDt (sw 31 27 V_4 w)).sub [26, 27, 28, 29, 30, 31, 32, 33, 34, 35, 36, 37, 38, 39, 40, 41, 42, 43, 44, 45, 46, 47, 48, 49] (by decide) rfl
  refine zcVZ (As := []) (rest := []) hC hK (met_X4_settle l D kA (sv 26 a) n (sv 31 V_4) hDc hu) zwX7_72 hS (zFsub (hD V_4) [26, 27, 28, 29, 30, 31, 32, 33, 34, 35, 36, 37, 38, 39, 40, 41, 42, 43, 44, 45, 46, 47, 48, 49] rfl) hPc (q0 := 0) rfl rfl rfl rfl hl.1 rfl (Nat.le_of_ble_eq_true rfl) ⟨Nat.le_of_ble_eq_true rfl, Nat.le_of_ble_eq_true rfl⟩ ⟨rfl, rfl⟩ ⟨Nat.le_refl _, Nat.le_refl _⟩ dX7_useOf_32 (fun H locs hP1 hk1 hS => ?_)
  obtain ⟨V_6, eV_6⟩ : ∃ y, y = sw 31 27 V_4 V_5 := ⟨_, rfl⟩
  have hf := nm_at hf eV_6
  have hP : va_P D vwCl (cs_X7 kA a V_6 X pf) H := by rw [eV_6]; exact zjoinC (wb0 := (cs_X4 kA (sv 26 a) (sv 31 V_4))) (wb1 := (cs_X4 kA (sv 26 a) V_5)) hP (hDt V_4) 26 24 [26, 27, 28, 29, 30, 31, 32, 33, 34, 35, 36, 37, 38, 39, 40, 41, 42, 43, 44, 45, 46, 47, 48, 49] rfl rfl rfl rfl hk1 hP1
  refine lv_aload_n hC.1 hC.2.1 dX7_useOf_35 rfl (lv_at hl 0 rfl) <| gfX7_23 hC hK hP (q0 := 0) rfl rfl dX7_useOf_36 <| ziconst hC.1 hC.2.1 dX7_useOf_39 <| ?_
  obtain ⟨r_7, hu, hf⟩ := bd_some hf
  have hPc : va_P D vwCl (cs_X4 kA (sv 2 a) (sv 4 V_6)) _ := hP.sub [2, 3, 4, 5, 6, 7, 8, 9, 10, 11, 12, 13, 14, 15, 16, 17, 18, 19, 20, 21, 22, 23, 24, 25] rfl
  refine zcVP (As := [vI 2]) (rest := []) hC hK (met_X4_sumOfAll l D kA (sv 2 a) n (sv 4 V_6) 2 hu) zwX7_306 hPc (q0 := 0) rfl rfl rfl rfl hl.1 rfl (Nat.le_of_ble_eq_true rfl) ⟨Nat.le_of_ble_eq_true rfl, Nat.le_of_ble_eq_true rfl⟩ ⟨rfl, rfl⟩ ⟨Nat.le_refl _, Nat.le_refl _⟩ dX7_useOf_40 <| lv_aload_n hC.1 hC.2.1 dX7_useOf_43 rfl (lv_at hl 0 rfl) <| gfX7_27 hC hK hP (q0 := 0) rfl rfl dX7_useOf_44 <| ziconst hC.1 hC.2.1 dX7_useOf_47 <| ?_
  obtain ⟨r_8, hu, hf⟩ := bd_some hf
  have hPc : va_P D vwCl (cs_X4 kA (sv 26 a) (sv 31 V_6)) _ := hP.sub [26, 27, 28, 29, 30, 31, 32, 33, 34, 35, 36, 37, 38, 39, 40, 41, 42, 43, 44, 45, 46, 47, 48, 49] rfl
  refine zcVP (As := [vI 2]) (rest := [vI r_7]) hC hK (met_X4_sumOfAll l D kA (sv 26 a) n (sv 31 V_6) 2 hu) zwX7_306 hPc (q0 := 0) rfl rfl rfl rfl hl.1 rfl (Nat.le_of_ble_eq_true rfl) ⟨Nat.le_of_ble_eq_true rfl, Nat.le_of_ble_eq_true rfl⟩ ⟨rfl, rfl⟩ ⟨Nat.le_refl _, Nat.le_refl _⟩ dX7_useOf_48 <| zisub hC.1 hC.2.1 dX7_useOf_51 <| ?_
  have hf := Option.some.inj hf
  simp only [Prod.mk.injEq] at hf
  exact hret (Int32.ofInt (r_7 - r_8)) _ _ _ _ (congrArg (fun z => some (vI z)) hf.1.symm) (by rw [← hf.2]; exact hP) hS dX7_useOf_52
abbrev rxX7_useOf : Room := { frames := 7, cells := 1, slots := 6, locals := 123 }
set_option maxHeartbeats 1000000 in
set_option maxRecDepth 100000 in
theorem thr_X7_useOf (l : Launch) (D : va_G) (kA : Nat → ClassId) (a : Nat → Nat) (pf : Nat → Option Nat) (n : Nat) (V0 : Sz) (X : Sz) (x1 : Int) {er : Nat} (hf : f_X7_useOf n V0 X x1 = some (.inr er)) : MX l yX7_useOf cX7_useOf 2 (some .int) rxX7_useOf D kA [.ref (a 0), vI x1] (cs_X7 kA a V0 X pf) (zEx er) := by
  refine zXstart (own := RX7) rfl rfl (Nat.le_of_ble_eq_true rfl) ?_
  intro p e s m args below meth c ls hC hK hP hX hl hx hlocks
  have hl : lv_has ls 2 [(0, .ref (a 0)), (1, vI x1)] := hl
  unfold f_X7_useOf at hf
  refine lv_aload_n hC.1 hC.2.1 dX7_useOf_0 rfl (lv_at hl 0 rfl) <| ziload_n hC.1 hC.2.1 dX7_useOf_1 rfl (lv_at hl 1 rfl) <| ?_
  rcases bx_inr hf with hu | ⟨u, hu, hf⟩
  · exact zcVX (As := [vI x1]) (rest := []) hC hK hX hx hlocks (thr_X7_needDeclaration l D kA a pf V0 X x1 hu) zwX7_135 hP (q0 := 0) rfl rfl rfl rfl hl.1 rfl (Nat.le_of_ble_eq_true rfl) ⟨Nat.le_of_ble_eq_true rfl, Nat.le_of_ble_eq_true rfl⟩ ⟨rfl, rfl⟩ ⟨Nat.le_of_ble_eq_true rfl, Nat.le_of_ble_eq_true rfl⟩ dX7_useOf_2
  exact (bl_inr hf).elim
theorem DX7_benefitRoom_0 : ∀ q ∈ ([(0, .aload_n 0, 1), (1, .iload_n 1, 1), (2, .invokevirtual 152, 3), (5, .aload_n 0, 1), (6, .getfield 23, 3), (9, .getfield 122, 3), (12, .aload_n 0, 1), (13, .getfield 23, 3), (16, .getfield 86, 3), (19, .getfield 158, 3), (22, .iload_n 1, 1), (23, .iaload, 1), (24, .imul, 1), (25, .bipush 100, 2), (27, .idiv, 1), (28, .ireturn, 1)] : List (Nat × Instr × Nat)), decode cX7_benefitRoom q.1 = .ok q.2 := by decide +kernel
theorem dX7_benefitRoom_0 : decode cX7_benefitRoom 0 = .ok (.aload_n 0, 1) := DX7_benefitRoom_0 (0, .aload_n 0, 1) (List.mem_of_getElem? (i := 0) rfl)
theorem dX7_benefitRoom_1 : decode cX7_benefitRoom 1 = .ok (.iload_n 1, 1) := DX7_benefitRoom_0 (1, .iload_n 1, 1) (List.mem_of_getElem? (i := 1) rfl)
theorem dX7_benefitRoom_2 : decode cX7_benefitRoom 2 = .ok (.invokevirtual 152, 3) := DX7_benefitRoom_0 (2, .invokevirtual 152, 3) (List.mem_of_getElem? (i := 2) rfl)
theorem dX7_benefitRoom_5 : decode cX7_benefitRoom 5 = .ok (.aload_n 0, 1) := DX7_benefitRoom_0 (5, .aload_n 0, 1) (List.mem_of_getElem? (i := 3) rfl)
theorem dX7_benefitRoom_6 : decode cX7_benefitRoom 6 = .ok (.getfield 23, 3) := DX7_benefitRoom_0 (6, .getfield 23, 3) (List.mem_of_getElem? (i := 4) rfl)
theorem dX7_benefitRoom_9 : decode cX7_benefitRoom 9 = .ok (.getfield 122, 3) := DX7_benefitRoom_0 (9, .getfield 122, 3) (List.mem_of_getElem? (i := 5) rfl)
theorem dX7_benefitRoom_12 : decode cX7_benefitRoom 12 = .ok (.aload_n 0, 1) := DX7_benefitRoom_0 (12, .aload_n 0, 1) (List.mem_of_getElem? (i := 6) rfl)
theorem dX7_benefitRoom_13 : decode cX7_benefitRoom 13 = .ok (.getfield 23, 3) := DX7_benefitRoom_0 (13, .getfield 23, 3) (List.mem_of_getElem? (i := 7) rfl)
theorem dX7_benefitRoom_16 : decode cX7_benefitRoom 16 = .ok (.getfield 86, 3) := DX7_benefitRoom_0 (16, .getfield 86, 3) (List.mem_of_getElem? (i := 8) rfl)
theorem dX7_benefitRoom_19 : decode cX7_benefitRoom 19 = .ok (.getfield 158, 3) := DX7_benefitRoom_0 (19, .getfield 158, 3) (List.mem_of_getElem? (i := 9) rfl)
theorem dX7_benefitRoom_22 : decode cX7_benefitRoom 22 = .ok (.iload_n 1, 1) := DX7_benefitRoom_0 (22, .iload_n 1, 1) (List.mem_of_getElem? (i := 10) rfl)
theorem dX7_benefitRoom_23 : decode cX7_benefitRoom 23 = .ok (.iaload, 1) := DX7_benefitRoom_0 (23, .iaload, 1) (List.mem_of_getElem? (i := 11) rfl)
theorem dX7_benefitRoom_24 : decode cX7_benefitRoom 24 = .ok (.imul, 1) := DX7_benefitRoom_0 (24, .imul, 1) (List.mem_of_getElem? (i := 12) rfl)
theorem dX7_benefitRoom_25 : decode cX7_benefitRoom 25 = .ok (.bipush 100, 2) := DX7_benefitRoom_0 (25, .bipush 100, 2) (List.mem_of_getElem? (i := 13) rfl)
theorem dX7_benefitRoom_27 : decode cX7_benefitRoom 27 = .ok (.idiv, 1) := DX7_benefitRoom_0 (27, .idiv, 1) (List.mem_of_getElem? (i := 14) rfl)
theorem dX7_benefitRoom_28 : decode cX7_benefitRoom 28 = .ok (.ireturn, 1) := DX7_benefitRoom_0 (28, .ireturn, 1) (List.mem_of_getElem? (i := 15) rfl)
abbrev rmX7_benefitRoom : Room := { frames := 1, cells := 0, slots := 0, locals := 21 }
set_option maxHeartbeats 1000000 in
set_option maxRecDepth 100000 in
theorem met_X7_benefitRoom (l : Launch) (D : va_G) (kA : Nat → ClassId) (a : Nat → Nat) (pf : Nat → Option Nat) (V : Sz) (X : Sz) (x1 : Int) {r : Int} (hf : f_X7_benefitRoom V X x1 = some (.inl r)) : MP l yX7_benefitRoom cX7_benefitRoom 2 (some .int) rmX7_benefitRoom D kA [.ref (a 0), vI x1] (cs_X7 kA a V X pf) (some (vI r)) := by
  refine zPI (own := RX7) rfl rfl (Nat.le_of_ble_eq_true rfl) ?_
  intro p e s m args below meth c ls Q hC hK hP hl hret
  have hl : lv_has ls 2 [(0, .ref (a 0)), (1, vI x1)] := hl
  unfold f_X7_benefitRoom at hf
  refine lv_aload_n hC.1 hC.2.1 dX7_benefitRoom_0 rfl (lv_at hl 0 rfl) <| ziload_n hC.1 hC.2.1 dX7_benefitRoom_1 rfl (lv_at hl 1 rfl) <| ?_
  obtain ⟨u, hu, hf⟩ := bx_inl hf
  have hf := bl_inl hf
  refine zcVP (As := [vI x1]) (rest := []) hC hK (met_X7_needGift l D kA a pf V X x1 hu) zwX7_152 hP (q0 := 0) rfl rfl rfl rfl hl.1 rfl (Nat.le_of_ble_eq_true rfl) ⟨Nat.le_of_ble_eq_true rfl, Nat.le_of_ble_eq_true rfl⟩ ⟨rfl, rfl⟩ ⟨Nat.le_refl _, Nat.le_refl _⟩ dX7_benefitRoom_2 <| lv_aload_n hC.1 hC.2.1 dX7_benefitRoom_5 rfl (lv_at hl 0 rfl) <| gfX7_23 hC hK hP (q0 := 0) rfl rfl dX7_benefitRoom_6 <| gfX7_122 hC hK hP (q0 := 2) rfl rfl dX7_benefitRoom_9 <| lv_aload_n hC.1 hC.2.1 dX7_benefitRoom_12 rfl (lv_at hl 0 rfl) <| gfX7_23 hC hK hP (q0 := 0) rfl rfl dX7_benefitRoom_13 <| gfX7_86 hC hK hP (q0 := 2) rfl rfl dX7_benefitRoom_16 <| gfX7_158 hC hK hP (q0 := 8) rfl rfl dX7_benefitRoom_19 <| ziload_n hC.1 hC.2.1 dX7_benefitRoom_22 rfl (lv_at hl 1 rfl) <| ?_
  obtain ⟨hz_1, hf⟩ := ck_some hf
  refine jal hC hK hP (q0 := 10) rfl (Nat.le_of_ble_eq_true rfl) hz_1 rfl dX7_benefitRoom_23 <| zimul hC.1 hC.2.1 dX7_benefitRoom_24 <| zbipush hC.1 hC.2.1 dX7_benefitRoom_25 (by decide) <| ?_
  obtain ⟨hz_2, hf⟩ := ck_some hf
  exact zidiv hC.1 hC.2.1 ⟨hz_2.1, hz_2.2, by decide, by decide⟩ dX7_benefitRoom_27 <| hret (Int32.ofInt (((V 6 0) * (V 15 x1.toNat)) / 100)) _ _ (qI hf) dX7_benefitRoom_28
abbrev rxX7_benefitRoom : Room := { frames := 7, cells := 1, slots := 6, locals := 111 }
set_option maxHeartbeats 1000000 in
set_option maxRecDepth 100000 in
theorem thr_X7_benefitRoom (l : Launch) (D : va_G) (kA : Nat → ClassId) (a : Nat → Nat) (pf : Nat → Option Nat) (V : Sz) (X : Sz) (x1 : Int) {er : Nat} (hf : f_X7_benefitRoom V X x1 = some (.inr er)) : MX l yX7_benefitRoom cX7_benefitRoom 2 (some .int) rxX7_benefitRoom D kA [.ref (a 0), vI x1] (cs_X7 kA a V X pf) (zEx er) := by
  refine zXstart (own := RX7) rfl rfl (Nat.le_of_ble_eq_true rfl) ?_
  intro p e s m args below meth c ls hC hK hP hX hl hx hlocks
  have hl : lv_has ls 2 [(0, .ref (a 0)), (1, vI x1)] := hl
  unfold f_X7_benefitRoom at hf
  refine lv_aload_n hC.1 hC.2.1 dX7_benefitRoom_0 rfl (lv_at hl 0 rfl) <| ziload_n hC.1 hC.2.1 dX7_benefitRoom_1 rfl (lv_at hl 1 rfl) <| ?_
  rcases bx_inr hf with hu | ⟨u, hu, hf⟩
  · exact zcVX (As := [vI x1]) (rest := []) hC hK hX hx hlocks (thr_X7_needGift l D kA a pf V X x1 hu) zwX7_152 hP (q0 := 0) rfl rfl rfl rfl hl.1 rfl (Nat.le_of_ble_eq_true rfl) ⟨Nat.le_of_ble_eq_true rfl, Nat.le_of_ble_eq_true rfl⟩ ⟨rfl, rfl⟩ ⟨Nat.le_of_ble_eq_true rfl, Nat.le_of_ble_eq_true rfl⟩ dX7_benefitRoom_2
  exact (bl_inr hf).elim
theorem DX7_topDonor_0 : ∀ q ∈ ([(0, .iload_n 1, 1), (1, .iconst 0, 1), (2, .iconst 4, 1), (3, .invokestatic 206, 3), (6, .iconst (-1), 1), (7, .istore_n 2, 1), (8, .iconst (-1), 1), (9, .istore_n 3, 1), (10, .iconst 0, 1), (11, .istore 4, 2), (13, .iload 4, 2), (15, .aload_n 0, 1), (16, .getfield 23, 3), (19, .getfield 95, 3), (22, .if_icmp .ge 34, 3), (25, .aload_n 0, 1), (26, .getfield 23, 3), (29, .iload 4, 2), (31, .iload_n 1, 1), (32, .iconst (-1), 1), (33, .invokevirtual 210, 3), (36, .istore 5, 2), (38, .iload 5, 2), (40, .iload_n 3, 1), (41, .if_icmp .le 9, 3), (44, .iload 5, 2), (46, .istore_n 3, 1), (47, .iload 4, 2), (49, .istore_n 2, 1), (50, .iinc 4 1, 3), (53, .goto (-40), 3), (56, .iload_n 2, 1), (57, .ireturn, 1)] : List (Nat × Instr × Nat)), decode cX7_topDonor q.1 = .ok q.2 := by decide +kernel
theorem dX7_topDonor_0 : decode cX7_topDonor 0 = .ok (.iload_n 1, 1) := DX7_topDonor_0 (0, .iload_n 1, 1) (List.mem_of_getElem? (i := 0) rfl)
theorem dX7_topDonor_1 : decode cX7_topDonor 1 = .ok (.iconst 0, 1) := DX7_topDonor_0 (1, .iconst 0, 1) (List.mem_of_getElem? (i := 1) rfl)
theorem dX7_topDonor_2 : decode cX7_topDonor 2 = .ok (.iconst 4, 1) := DX7_topDonor_0 (2, .iconst 4, 1) (List.mem_of_getElem? (i := 2) rfl)
theorem dX7_topDonor_3 : decode cX7_topDonor 3 = .ok (.invokestatic 206, 3) := DX7_topDonor_0 (3, .invokestatic 206, 3) (List.mem_of_getElem? (i := 3) rfl)
theorem dX7_topDonor_6 : decode cX7_topDonor 6 = .ok (.iconst (-1), 1) := DX7_topDonor_0 (6, .iconst (-1), 1) (List.mem_of_getElem? (i := 4) rfl)
theorem dX7_topDonor_7 : decode cX7_topDonor 7 = .ok (.istore_n 2, 1) := DX7_topDonor_0 (7, .istore_n 2, 1) (List.mem_of_getElem? (i := 5) rfl)
theorem dX7_topDonor_8 : decode cX7_topDonor 8 = .ok (.iconst (-1), 1) := DX7_topDonor_0 (8, .iconst (-1), 1) (List.mem_of_getElem? (i := 6) rfl)
theorem dX7_topDonor_9 : decode cX7_topDonor 9 = .ok (.istore_n 3, 1) := DX7_topDonor_0 (9, .istore_n 3, 1) (List.mem_of_getElem? (i := 7) rfl)
theorem dX7_topDonor_10 : decode cX7_topDonor 10 = .ok (.iconst 0, 1) := DX7_topDonor_0 (10, .iconst 0, 1) (List.mem_of_getElem? (i := 8) rfl)
theorem dX7_topDonor_11 : decode cX7_topDonor 11 = .ok (.istore 4, 2) := DX7_topDonor_0 (11, .istore 4, 2) (List.mem_of_getElem? (i := 9) rfl)
theorem dX7_topDonor_13 : decode cX7_topDonor 13 = .ok (.iload 4, 2) := DX7_topDonor_0 (13, .iload 4, 2) (List.mem_of_getElem? (i := 10) rfl)
theorem dX7_topDonor_15 : decode cX7_topDonor 15 = .ok (.aload_n 0, 1) := DX7_topDonor_0 (15, .aload_n 0, 1) (List.mem_of_getElem? (i := 11) rfl)
theorem dX7_topDonor_16 : decode cX7_topDonor 16 = .ok (.getfield 23, 3) := DX7_topDonor_0 (16, .getfield 23, 3) (List.mem_of_getElem? (i := 12) rfl)
theorem dX7_topDonor_19 : decode cX7_topDonor 19 = .ok (.getfield 95, 3) := DX7_topDonor_0 (19, .getfield 95, 3) (List.mem_of_getElem? (i := 13) rfl)
theorem dX7_topDonor_22 : decode cX7_topDonor 22 = .ok (.if_icmp .ge 34, 3) := DX7_topDonor_0 (22, .if_icmp .ge 34, 3) (List.mem_of_getElem? (i := 14) rfl)
theorem dX7_topDonor_25 : decode cX7_topDonor 25 = .ok (.aload_n 0, 1) := DX7_topDonor_0 (25, .aload_n 0, 1) (List.mem_of_getElem? (i := 15) rfl)
theorem dX7_topDonor_26 : decode cX7_topDonor 26 = .ok (.getfield 23, 3) := DX7_topDonor_0 (26, .getfield 23, 3) (List.mem_of_getElem? (i := 16) rfl)
theorem dX7_topDonor_29 : decode cX7_topDonor 29 = .ok (.iload 4, 2) := DX7_topDonor_0 (29, .iload 4, 2) (List.mem_of_getElem? (i := 17) rfl)
theorem dX7_topDonor_31 : decode cX7_topDonor 31 = .ok (.iload_n 1, 1) := DX7_topDonor_0 (31, .iload_n 1, 1) (List.mem_of_getElem? (i := 18) rfl)
theorem dX7_topDonor_32 : decode cX7_topDonor 32 = .ok (.iconst (-1), 1) := DX7_topDonor_0 (32, .iconst (-1), 1) (List.mem_of_getElem? (i := 19) rfl)
theorem dX7_topDonor_33 : decode cX7_topDonor 33 = .ok (.invokevirtual 210, 3) := DX7_topDonor_0 (33, .invokevirtual 210, 3) (List.mem_of_getElem? (i := 20) rfl)
theorem dX7_topDonor_36 : decode cX7_topDonor 36 = .ok (.istore 5, 2) := DX7_topDonor_0 (36, .istore 5, 2) (List.mem_of_getElem? (i := 21) rfl)
theorem dX7_topDonor_38 : decode cX7_topDonor 38 = .ok (.iload 5, 2) := DX7_topDonor_0 (38, .iload 5, 2) (List.mem_of_getElem? (i := 22) rfl)
theorem dX7_topDonor_40 : decode cX7_topDonor 40 = .ok (.iload_n 3, 1) := DX7_topDonor_0 (40, .iload_n 3, 1) (List.mem_of_getElem? (i := 23) rfl)
theorem dX7_topDonor_41 : decode cX7_topDonor 41 = .ok (.if_icmp .le 9, 3) := DX7_topDonor_0 (41, .if_icmp .le 9, 3) (List.mem_of_getElem? (i := 24) rfl)
theorem dX7_topDonor_44 : decode cX7_topDonor 44 = .ok (.iload 5, 2) := DX7_topDonor_0 (44, .iload 5, 2) (List.mem_of_getElem? (i := 25) rfl)
theorem dX7_topDonor_46 : decode cX7_topDonor 46 = .ok (.istore_n 3, 1) := DX7_topDonor_0 (46, .istore_n 3, 1) (List.mem_of_getElem? (i := 26) rfl)
theorem dX7_topDonor_47 : decode cX7_topDonor 47 = .ok (.iload 4, 2) := DX7_topDonor_0 (47, .iload 4, 2) (List.mem_of_getElem? (i := 27) rfl)
theorem dX7_topDonor_49 : decode cX7_topDonor 49 = .ok (.istore_n 2, 1) := DX7_topDonor_0 (49, .istore_n 2, 1) (List.mem_of_getElem? (i := 28) rfl)
theorem dX7_topDonor_50 : decode cX7_topDonor 50 = .ok (.iinc 4 1, 3) := DX7_topDonor_0 (50, .iinc 4 1, 3) (List.mem_of_getElem? (i := 29) rfl)
theorem dX7_topDonor_53 : decode cX7_topDonor 53 = .ok (.goto (-40), 3) := DX7_topDonor_0 (53, .goto (-40), 3) (List.mem_of_getElem? (i := 30) rfl)
theorem dX7_topDonor_56 : decode cX7_topDonor 56 = .ok (.iload_n 2, 1) := DX7_topDonor_0 (56, .iload_n 2, 1) (List.mem_of_getElem? (i := 31) rfl)
theorem dX7_topDonor_57 : decode cX7_topDonor 57 = .ok (.ireturn, 1) := DX7_topDonor_0 (57, .ireturn, 1) (List.mem_of_getElem? (i := 32) rfl)
abbrev rmX7_topDonor : Room := { frames := 3, cells := 0, slots := 0, locals := 69 }
set_option maxHeartbeats 1000000 in
set_option maxRecDepth 100000 in
theorem met_X7_topDonor (l : Launch) (D : va_G) (kA : Nat → ClassId) (a : Nat → Nat) (pf : Nat → Option Nat) (n : Nat) (V : Sz) (X : Sz) (x1 : Int) {r : Int} (hf : f_X7_topDonor n V X x1 = some (.inl r)) : MP l yX7_topDonor cX7_topDonor 6 (some .int) rmX7_topDonor D kA [.ref (a 0), vI x1] (cs_X7 kA a V X pf) (some (vI r)) := by
  refine zPI (own := RX7) rfl rfl (Nat.le_of_ble_eq_true rfl) ?_
  intro p e s m args below meth c ls Q hC hK hP hl hret
  have hl : lv_has ls 6 [(0, .ref (a 0)), (1, vI x1)] := hl
  unfold f_X7_topDonor at hf
  have L13 : ∀ (k13 : Nat) (y2 : Int) (y3 : Int) (y4 : Int) (ls : Array Slot), lpF (bX7_topDonor_13 n V X x1) k13 (y2, y3, y4) = some r → lv_has ls 6 [(0, .ref (a 0)), (1, vI x1), (2, vI y2), (3, vI y3), (4, vI y4)] → W p l e rmX7_topDonor s m args below meth c s.heap [] 0 0 Q (F0 m 13 ls []) := by
    intro k13
    induction k13 with
    | zero => intro y2 y3 y4 ls hf hl; exact lp_0 hf
    | succ k13 ih13 =>
      intro y2 y3 y4 ls hf hl
      have hf := lp_s hf
      rw [bX7_topDonor_13_e] at hf
      have J50 : ∀ (y2 : Int) (y3 : Int) (y4 : Int) (ls : Array Slot), jX7_topDonor_50 n V X x1 (lpF (bX7_topDonor_13 n V X x1) k13) y2 y3 y4 = some r → lv_has ls 6 [(0, .ref (a 0)), (1, vI x1), (2, vI y2), (3, vI y3), (4, vI y4)] → W p l e rmX7_topDonor s m args below meth c s.heap [] 0 0 Q (F0 m 50 ls []) := by
        intro y2 y3 y4 ls hf hl
        unfold jX7_topDonor_50 at hf
        obtain ⟨x_4, ex_4⟩ : ∃ y : Int, y = y4 + 1 := ⟨_, rfl⟩
        have hf := nm_at hf ex_4
        refine ziinc (v := x_4) (lv' := [(4, vI x_4), (0, .ref (a 0)), (1, vI x1), (2, vI y2), (3, vI y3)]) hC.1 hC.2.1 dX7_topDonor_50 hl (k := 4) rfl ex_4 (by decide) rfl (fun ls hl => ?_)
        exact lv_goto (tgt := 13) hC.1 hC.2.1 dX7_topDonor_53 (by decide) <| ih13 _ _ _ _ hf (lv_sub hl [1, 2, 3, 4, 0] rfl)
      refine ziload hC.1 hC.2.1 dX7_topDonor_13 (lv_at hl 4 rfl) <| lv_aload_n hC.1 hC.2.1 dX7_topDonor_15 rfl (lv_at hl 0 rfl) <| gfX7_23 hC hK hP (q0 := 0) rfl rfl dX7_topDonor_16 <| gfX7_95 hC hK hP (q0 := 2) rfl rfl dX7_topDonor_19 <| ?_
      obtain ⟨hz_1, hf⟩ := ck_some hf
      refine zicmp_ge (tgt := 56) hC.1 hC.2.1 ⟨hz_1.1, hz_1.2⟩ dX7_topDonor_22 (by decide) (fun hc => ?_) (fun hc => ?_)
      · have hf := it_t hf hc
        exact ziload_n hC.1 hC.2.1 dX7_topDonor_56 rfl (lv_at hl 2 rfl) <| hret (Int32.ofInt y2) _ _ (qI hf) dX7_topDonor_57
      · have hf := it_f hf hc
        refine lv_aload_n hC.1 hC.2.1 dX7_topDonor_25 rfl (lv_at hl 0 rfl) <| gfX7_23 hC hK hP (q0 := 0) rfl rfl dX7_topDonor_26 <| ziload hC.1 hC.2.1 dX7_topDonor_29 (lv_at hl 4 rfl) <| ziload_n hC.1 hC.2.1 dX7_topDonor_31 rfl (lv_at hl 1 rfl) <| ziconst hC.1 hC.2.1 dX7_topDonor_32 <| ?_
        obtain ⟨r_2, hu, hf⟩ := bd_some hf
        have hPc : va_P D vwCl (cs_X4 kA (sv 2 a) (sv 4 V)) _ := hP.sub [2, 3, 4, 5, 6, 7, 8, 9, 10, 11, 12, 13, 14, 15, 16, 17, 18, 19, 20, 21, 22, 23, 24, 25] rfl
        refine zcVP (As := [vI y4, vI x1, vI (-1)]) (rest := []) hC hK (met_X4_sumOfDonor l D kA (sv 2 a) n (sv 4 V) y4 x1 (-1) hu) zwX7_210 hPc (q0 := 0) rfl rfl rfl rfl hl.1 rfl (Nat.le_of_ble_eq_true rfl) ⟨Nat.le_of_ble_eq_true rfl, Nat.le_of_ble_eq_true rfl⟩ ⟨rfl, rfl⟩ ⟨Nat.le_refl _, Nat.le_refl _⟩ dX7_topDonor_33 <| zistore (lv' := [(5, vI r_2), (0, .ref (a 0)), (1, vI x1), (2, vI y2), (3, vI y3), (4, vI y4)]) hC.1 hC.2.1 dX7_topDonor_36 hl (by decide) rfl (fun ls hl => ?_)
        refine ziload hC.1 hC.2.1 dX7_topDonor_38 (lv_at hl 0 rfl) <| ziload_n hC.1 hC.2.1 dX7_topDonor_40 rfl (lv_at hl 4 rfl) <| ?_
        obtain ⟨hz_3, hf⟩ := ck_some hf
        refine zicmp_le (tgt := 50) hC.1 hC.2.1 ⟨hz_3.1, hz_3.2⟩ dX7_topDonor_41 (by decide) (fun hc => ?_) (fun hc => ?_)
        · have hf := it_t hf hc
          exact J50 _ _ _ _ hf (lv_sub hl [1, 2, 3, 4, 5] rfl)
        · have hf := it_f hf hc
          refine ziload hC.1 hC.2.1 dX7_topDonor_44 (lv_at hl 0 rfl) <| zistore_n (lv' := [(3, vI r_2), (5, vI r_2), (0, .ref (a 0)), (1, vI x1), (2, vI y2), (4, vI y4)]) hC.1 hC.2.1 dX7_topDonor_46 rfl hl (by decide) rfl (fun ls hl => ?_)
          refine ziload hC.1 hC.2.1 dX7_topDonor_47 (lv_at hl 5 rfl) <| zistore_n (lv' := [(2, vI y4), (3, vI r_2), (5, vI r_2), (0, .ref (a 0)), (1, vI x1), (4, vI y4)]) hC.1 hC.2.1 dX7_topDonor_49 rfl hl (by decide) rfl (fun ls hl => ?_)
          exact J50 _ _ _ _ hf (lv_sub hl [3, 4, 0, 1, 5] rfl)
  refine ziload_n hC.1 hC.2.1 dX7_topDonor_0 rfl (lv_at hl 1 rfl) <| ziconst hC.1 hC.2.1 dX7_topDonor_1 <| ziconst hC.1 hC.2.1 dX7_topDonor_2 <| ?_
  obtain ⟨u, hu, hf⟩ := bx_inl hf
  have hPc : va_P D vwCl ([] : va_W) _ := hP.sub [] rfl
  have hf := bl_inl hf
  refine zcSP (As := [vI x1, vI 0, vI 4]) (rest := []) hC hK (met_X7_needRange l D kA x1 0 4 hu) zwX7_206 hPc rfl hl.1 rfl (Nat.le_of_ble_eq_true rfl) ⟨Nat.le_of_ble_eq_true rfl, Nat.le_of_ble_eq_true rfl⟩ ⟨rfl, rfl⟩ ⟨Nat.le_refl _, Nat.le_refl _⟩ dX7_topDonor_3 <| ziconst hC.1 hC.2.1 dX7_topDonor_6 <| zistore_n (lv' := [(2, vI (-1)), (0, .ref (a 0)), (1, vI x1)]) hC.1 hC.2.1 dX7_topDonor_7 rfl hl (by decide) rfl (fun ls hl => ?_)
  refine ziconst hC.1 hC.2.1 dX7_topDonor_8 <| zistore_n (lv' := [(3, vI (-1)), (2, vI (-1)), (0, .ref (a 0)), (1, vI x1)]) hC.1 hC.2.1 dX7_topDonor_9 rfl hl (by decide) rfl (fun ls hl => ?_)
  refine ziconst hC.1 hC.2.1 dX7_topDonor_10 <| zistore (lv' := [(4, vI 0), (3, vI (-1)), (2, vI (-1)), (0, .ref (a 0)), (1, vI x1)]) hC.1 hC.2.1 dX7_topDonor_11 hl (by decide) rfl (fun ls hl => ?_)
  exact L13 n _ _ _ _ hf (lv_sub hl [3, 4, 2, 1, 0] rfl)
abbrev rxX7_topDonor : Room := { frames := 7, cells := 1, slots := 6, locals := 112 }
set_option maxHeartbeats 1000000 in
set_option maxRecDepth 100000 in
theorem thr_X7_topDonor (l : Launch) (D : va_G) (kA : Nat → ClassId) (a : Nat → Nat) (pf : Nat → Option Nat) (n : Nat) (V : Sz) (X : Sz) (x1 : Int) {er : Nat} (hf : f_X7_topDonor n V X x1 = some (.inr er)) : MX l yX7_topDonor cX7_topDonor 6 (some .int) rxX7_topDonor D kA [.ref (a 0), vI x1] (cs_X7 kA a V X pf) (zEx er) := by
  refine zXstart (own := RX7) rfl rfl (Nat.le_of_ble_eq_true rfl) ?_
  intro p e s m args below meth c ls hC hK hP hX hl hx hlocks
  have hl : lv_has ls 6 [(0, .ref (a 0)), (1, vI x1)] := hl
  unfold f_X7_topDonor at hf
  refine ziload_n hC.1 hC.2.1 dX7_topDonor_0 rfl (lv_at hl 1 rfl) <| ziconst hC.1 hC.2.1 dX7_topDonor_1 <| ziconst hC.1 hC.2.1 dX7_topDonor_2 <| ?_
  rcases bx_inr hf with hu | ⟨u, hu, hf⟩
  · have hPc : va_P D vwCl ([] : va_W) _ := hP.sub [] rfl; exact zcSX (As := [vI x1, vI 0, vI 4]) (rest := []) hC hK hX hx hlocks (thr_X7_needRange l D kA x1 0 4 hu) zwX7_206 hPc rfl hl.1 rfl (Nat.le_of_ble_eq_true rfl) ⟨Nat.le_of_ble_eq_true rfl, Nat.le_of_ble_eq_true rfl⟩ ⟨rfl, rfl⟩ ⟨Nat.le_of_ble_eq_true rfl, Nat.le_of_ble_eq_true rfl⟩ dX7_topDonor_3
  have hPc : va_P D vwCl ([] : va_W) _ := hP.sub [] rfl
  exact (bl_inr hf).elim
theorem DX7_bestYear_0 : ∀ q ∈ ([(0, .aload_n 0, 1), (1, .getfield 23, 3), (4, .invokevirtual 321, 3), (7, .ireturn, 1)] : List (Nat × Instr × Nat)), decode cX7_bestYear q.1 = .ok q.2 := by decide +kernel
theorem dX7_bestYear_0 : decode cX7_bestYear 0 = .ok (.aload_n 0, 1) := DX7_bestYear_0 (0, .aload_n 0, 1) (List.mem_of_getElem? (i := 0) rfl)
theorem dX7_bestYear_1 : decode cX7_bestYear 1 = .ok (.getfield 23, 3) := DX7_bestYear_0 (1, .getfield 23, 3) (List.mem_of_getElem? (i := 1) rfl)
theorem dX7_bestYear_4 : decode cX7_bestYear 4 = .ok (.invokevirtual 321, 3) := DX7_bestYear_0 (4, .invokevirtual 321, 3) (List.mem_of_getElem? (i := 2) rfl)
theorem dX7_bestYear_7 : decode cX7_bestYear 7 = .ok (.ireturn, 1) := DX7_bestYear_0 (7, .ireturn, 1) (List.mem_of_getElem? (i := 3) rfl)
abbrev rmX7_bestYear : Room := { frames := 4, cells := 0, slots := 0, locals := 93 }
set_option maxHeartbeats 1000000 in
set_option maxRecDepth 100000 in
theorem met_X7_bestYear (l : Launch) (D : va_G) (kA : Nat → ClassId) (a : Nat → Nat) (pf : Nat → Option Nat) (n : Nat) (V : Sz) (X : Sz) {r : Int} (hf : f_X7_bestYear n V X = some r) : MP l yX7_bestYear cX7_bestYear 1 (some .int) rmX7_bestYear D kA [.ref (a 0)] (cs_X7 kA a V X pf) (some (vI r)) := by
  refine zPI (own := RX7) rfl rfl (Nat.le_of_ble_eq_true rfl) ?_
  intro p e s m args below meth c ls Q hC hK hP hl hret
  have hl : lv_has ls 1 [(0, .ref (a 0))] := hl
  unfold f_X7_bestYear at hf
  refine lv_aload_n hC.1 hC.2.1 dX7_bestYear_0 rfl (lv_at hl 0 rfl) <| gfX7_23 hC hK hP (q0 := 0) rfl rfl dX7_bestYear_1 <| ?_
  obtain ⟨r_1, hu, hf⟩ := bd_some hf
  have hPc : va_P D vwCl (cs_X4 kA (sv 2 a) (sv 4 V)) _ := hP.sub [2, 3, 4, 5, 6, 7, 8, 9, 10, 11, 12, 13, 14, 15, 16, 17, 18, 19, 20, 21, 22, 23, 24, 25] rfl
  exact zcVP (As := []) (rest := []) hC hK (met_X4_yearOfMostAid l D kA (sv 2 a) n (sv 4 V) hu) zwX7_321 hPc (q0 := 0) rfl rfl rfl rfl hl.1 rfl (Nat.le_of_ble_eq_true rfl) ⟨Nat.le_of_ble_eq_true rfl, Nat.le_of_ble_eq_true rfl⟩ ⟨rfl, rfl⟩ ⟨Nat.le_refl _, Nat.le_refl _⟩ dX7_bestYear_4 <| hret (Int32.ofInt r_1) _ _ (qI hf) dX7_bestYear_7
theorem DX7_longestSpan_0 : ∀ q ∈ ([(0, .aload_n 0, 1), (1, .iload_n 1, 1), (2, .invokevirtual 203, 3), (5, .aload_n 0, 1), (6, .getfield 23, 3), (9, .getfield 98, 3), (12, .iload_n 1, 1), (13, .invokevirtual 324, 3), (16, .ireturn, 1)] : List (Nat × Instr × Nat)), decode cX7_longestSpan q.1 = .ok q.2 := by decide +kernel
theorem dX7_longestSpan_0 : decode cX7_longestSpan 0 = .ok (.aload_n 0, 1) := DX7_longestSpan_0 (0, .aload_n 0, 1) (List.mem_of_getElem? (i := 0) rfl)
theorem dX7_longestSpan_1 : decode cX7_longestSpan 1 = .ok (.iload_n 1, 1) := DX7_longestSpan_0 (1, .iload_n 1, 1) (List.mem_of_getElem? (i := 1) rfl)
theorem dX7_longestSpan_2 : decode cX7_longestSpan 2 = .ok (.invokevirtual 203, 3) := DX7_longestSpan_0 (2, .invokevirtual 203, 3) (List.mem_of_getElem? (i := 2) rfl)
theorem dX7_longestSpan_5 : decode cX7_longestSpan 5 = .ok (.aload_n 0, 1) := DX7_longestSpan_0 (5, .aload_n 0, 1) (List.mem_of_getElem? (i := 3) rfl)
theorem dX7_longestSpan_6 : decode cX7_longestSpan 6 = .ok (.getfield 23, 3) := DX7_longestSpan_0 (6, .getfield 23, 3) (List.mem_of_getElem? (i := 4) rfl)
theorem dX7_longestSpan_9 : decode cX7_longestSpan 9 = .ok (.getfield 98, 3) := DX7_longestSpan_0 (9, .getfield 98, 3) (List.mem_of_getElem? (i := 5) rfl)
theorem dX7_longestSpan_12 : decode cX7_longestSpan 12 = .ok (.iload_n 1, 1) := DX7_longestSpan_0 (12, .iload_n 1, 1) (List.mem_of_getElem? (i := 6) rfl)
theorem dX7_longestSpan_13 : decode cX7_longestSpan 13 = .ok (.invokevirtual 324, 3) := DX7_longestSpan_0 (13, .invokevirtual 324, 3) (List.mem_of_getElem? (i := 7) rfl)
theorem dX7_longestSpan_16 : decode cX7_longestSpan 16 = .ok (.ireturn, 1) := DX7_longestSpan_0 (16, .ireturn, 1) (List.mem_of_getElem? (i := 8) rfl)
abbrev rmX7_longestSpan : Room := { frames := 3, cells := 0, slots := 0, locals := 110 }
set_option maxHeartbeats 1000000 in
set_option maxRecDepth 100000 in
theorem met_X7_longestSpan (l : Launch) (D : va_G) (kA : Nat → ClassId) (a : Nat → Nat) (pf : Nat → Option Nat) (n : Nat) (V : Sz) (X : Sz) (x1 : Int) {r : Int} (hf : f_X7_longestSpan n V X x1 = some (.inl r)) : MP l yX7_longestSpan cX7_longestSpan 2 (some .int) rmX7_longestSpan D kA [.ref (a 0), vI x1] (cs_X7 kA a V X pf) (some (vI r)) := by
  refine zPI (own := RX7) rfl rfl (Nat.le_of_ble_eq_true rfl) ?_
  intro p e s m args below meth c ls Q hC hK hP hl hret
  have hl : lv_has ls 2 [(0, .ref (a 0)), (1, vI x1)] := hl
  unfold f_X7_longestSpan at hf
  refine lv_aload_n hC.1 hC.2.1 dX7_longestSpan_0 rfl (lv_at hl 0 rfl) <| ziload_n hC.1 hC.2.1 dX7_longestSpan_1 rfl (lv_at hl 1 rfl) <| ?_
  obtain ⟨u, hu, hf⟩ := bx_inl hf
  have hf := bl_inl hf
  refine zcVP (As := [vI x1]) (rest := []) hC hK (met_X7_needDonor l D kA a pf V X x1 hu) zwX7_203 hP (q0 := 0) rfl rfl rfl rfl hl.1 rfl (Nat.le_of_ble_eq_true rfl) ⟨Nat.le_of_ble_eq_true rfl, Nat.le_of_ble_eq_true rfl⟩ ⟨rfl, rfl⟩ ⟨Nat.le_refl _, Nat.le_refl _⟩ dX7_longestSpan_2 <| lv_aload_n hC.1 hC.2.1 dX7_longestSpan_5 rfl (lv_at hl 0 rfl) <| gfX7_23 hC hK hP (q0 := 0) rfl rfl dX7_longestSpan_6 <| gfX7_98 hC hK hP (q0 := 2) rfl rfl dX7_longestSpan_9 <| ziload_n hC.1 hC.2.1 dX7_longestSpan_12 rfl (lv_at hl 1 rfl) <| ?_
  obtain ⟨r_1, hu, hf⟩ := bd_some hf
  have hPc : va_P D vwCl (cs_X1 kA (sv 4 a) (sv 9 V)) _ := hP.sub [4, 5, 6, 7] rfl
  exact zcVP (As := [vI x1]) (rest := []) hC hK (met_X1_longestRun l D kA (sv 4 a) n (sv 9 V) x1 hu) zwX7_324 hPc (q0 := 0) rfl rfl rfl rfl hl.1 rfl (Nat.le_of_ble_eq_true rfl) ⟨Nat.le_of_ble_eq_true rfl, Nat.le_of_ble_eq_true rfl⟩ ⟨rfl, rfl⟩ ⟨Nat.le_refl _, Nat.le_refl _⟩ dX7_longestSpan_13 <| hret (Int32.ofInt r_1) _ _ (qI hf) dX7_longestSpan_16
abbrev rxX7_longestSpan : Room := { frames := 7, cells := 1, slots := 6, locals := 111 }
set_option maxHeartbeats 1000000 in
set_option maxRecDepth 100000 in
theorem thr_X7_longestSpan (l : Launch) (D : va_G) (kA : Nat → ClassId) (a : Nat → Nat) (pf : Nat → Option Nat) (n : Nat) (V : Sz) (X : Sz) (x1 : Int) {er : Nat} (hf : f_X7_longestSpan n V X x1 = some (.inr er)) : MX l yX7_longestSpan cX7_longestSpan 2 (some .int) rxX7_longestSpan D kA [.ref (a 0), vI x1] (cs_X7 kA a V X pf) (zEx er) := by
  refine zXstart (own := RX7) rfl rfl (Nat.le_of_ble_eq_true rfl) ?_
  intro p e s m args below meth c ls hC hK hP hX hl hx hlocks
  have hl : lv_has ls 2 [(0, .ref (a 0)), (1, vI x1)] := hl
  unfold f_X7_longestSpan at hf
  refine lv_aload_n hC.1 hC.2.1 dX7_longestSpan_0 rfl (lv_at hl 0 rfl) <| ziload_n hC.1 hC.2.1 dX7_longestSpan_1 rfl (lv_at hl 1 rfl) <| ?_
  rcases bx_inr hf with hu | ⟨u, hu, hf⟩
  · exact zcVX (As := [vI x1]) (rest := []) hC hK hX hx hlocks (thr_X7_needDonor l D kA a pf V X x1 hu) zwX7_203 hP (q0 := 0) rfl rfl rfl rfl hl.1 rfl (Nat.le_of_ble_eq_true rfl) ⟨Nat.le_of_ble_eq_true rfl, Nat.le_of_ble_eq_true rfl⟩ ⟨rfl, rfl⟩ ⟨Nat.le_of_ble_eq_true rfl, Nat.le_of_ble_eq_true rfl⟩ dX7_longestSpan_2
  exact (bl_inr hf).elim
theorem DX7_gainOf_0 : ∀ q ∈ ([(0, .aload_n 0, 1), (1, .iload_n 1, 1), (2, .invokevirtual 203, 3), (5, .iload_n 2, 1), (6, .iload_n 3, 1), (7, .invokestatic 221, 3), (10, .aload_n 0, 1), (11, .getfield 23, 3), (14, .iload_n 1, 1), (15, .iload_n 2, 1), (16, .iload_n 3, 1), (17, .invokevirtual 327, 3), (20, .ireturn, 1)] : List (Nat × Instr × Nat)), decode cX7_gainOf q.1 = .ok q.2 := by decide +kernel
theorem dX7_gainOf_0 : decode cX7_gainOf 0 = .ok (.aload_n 0, 1) := DX7_gainOf_0 (0, .aload_n 0, 1) (List.mem_of_getElem? (i := 0) rfl)
theorem dX7_gainOf_1 : decode cX7_gainOf 1 = .ok (.iload_n 1, 1) := DX7_gainOf_0 (1, .iload_n 1, 1) (List.mem_of_getElem? (i := 1) rfl)
theorem dX7_gainOf_2 : decode cX7_gainOf 2 = .ok (.invokevirtual 203, 3) := DX7_gainOf_0 (2, .invokevirtual 203, 3) (List.mem_of_getElem? (i := 2) rfl)
theorem dX7_gainOf_5 : decode cX7_gainOf 5 = .ok (.iload_n 2, 1) := DX7_gainOf_0 (5, .iload_n 2, 1) (List.mem_of_getElem? (i := 3) rfl)
theorem dX7_gainOf_6 : decode cX7_gainOf 6 = .ok (.iload_n 3, 1) := DX7_gainOf_0 (6, .iload_n 3, 1) (List.mem_of_getElem? (i := 4) rfl)
theorem dX7_gainOf_7 : decode cX7_gainOf 7 = .ok (.invokestatic 221, 3) := DX7_gainOf_0 (7, .invokestatic 221, 3) (List.mem_of_getElem? (i := 5) rfl)
theorem dX7_gainOf_10 : decode cX7_gainOf 10 = .ok (.aload_n 0, 1) := DX7_gainOf_0 (10, .aload_n 0, 1) (List.mem_of_getElem? (i := 6) rfl)
theorem dX7_gainOf_11 : decode cX7_gainOf 11 = .ok (.getfield 23, 3) := DX7_gainOf_0 (11, .getfield 23, 3) (List.mem_of_getElem? (i := 7) rfl)
theorem dX7_gainOf_14 : decode cX7_gainOf 14 = .ok (.iload_n 1, 1) := DX7_gainOf_0 (14, .iload_n 1, 1) (List.mem_of_getElem? (i := 8) rfl)
theorem dX7_gainOf_15 : decode cX7_gainOf 15 = .ok (.iload_n 2, 1) := DX7_gainOf_0 (15, .iload_n 2, 1) (List.mem_of_getElem? (i := 9) rfl)
theorem dX7_gainOf_16 : decode cX7_gainOf 16 = .ok (.iload_n 3, 1) := DX7_gainOf_0 (16, .iload_n 3, 1) (List.mem_of_getElem? (i := 10) rfl)
theorem dX7_gainOf_17 : decode cX7_gainOf 17 = .ok (.invokevirtual 327, 3) := DX7_gainOf_0 (17, .invokevirtual 327, 3) (List.mem_of_getElem? (i := 11) rfl)
theorem dX7_gainOf_20 : decode cX7_gainOf 20 = .ok (.ireturn, 1) := DX7_gainOf_0 (20, .ireturn, 1) (List.mem_of_getElem? (i := 12) rfl)
abbrev rmX7_gainOf : Room := { frames := 4, cells := 0, slots := 0, locals := 112 }
set_option maxHeartbeats 1000000 in
set_option maxRecDepth 100000 in
theorem met_X7_gainOf (l : Launch) (D : va_G) (kA : Nat → ClassId) (a : Nat → Nat) (pf : Nat → Option Nat) (n : Nat) (V : Sz) (X : Sz) (x1 : Int) (x2 : Int) (x3 : Int) {r : Int} (hf : f_X7_gainOf n V X x1 x2 x3 = some (.inl r)) : MP l yX7_gainOf cX7_gainOf 4 (some .int) rmX7_gainOf D kA [.ref (a 0), vI x1, vI x2, vI x3] (cs_X7 kA a V X pf) (some (vI r)) := by
  refine zPI (own := RX7) rfl rfl (Nat.le_of_ble_eq_true rfl) ?_
  intro p e s m args below meth c ls Q hC hK hP hl hret
  have hl : lv_has ls 4 [(0, .ref (a 0)), (1, vI x1), (2, vI x2), (3, vI x3)] := hl
  unfold f_X7_gainOf at hf
  refine lv_aload_n hC.1 hC.2.1 dX7_gainOf_0 rfl (lv_at hl 0 rfl) <| ziload_n hC.1 hC.2.1 dX7_gainOf_1 rfl (lv_at hl 1 rfl) <| ?_
  obtain ⟨u, hu, hf⟩ := bx_inl hf
  refine zcVP (As := [vI x1]) (rest := []) hC hK (met_X7_needDonor l D kA a pf V X x1 hu) zwX7_203 hP (q0 := 0) rfl rfl rfl rfl hl.1 rfl (Nat.le_of_ble_eq_true rfl) ⟨Nat.le_of_ble_eq_true rfl, Nat.le_of_ble_eq_true rfl⟩ ⟨rfl, rfl⟩ ⟨Nat.le_refl _, Nat.le_refl _⟩ dX7_gainOf_2 <| ziload_n hC.1 hC.2.1 dX7_gainOf_5 rfl (lv_at hl 2 rfl) <| ziload_n hC.1 hC.2.1 dX7_gainOf_6 rfl (lv_at hl 3 rfl) <| ?_
  obtain ⟨u, hu, hf⟩ := bx_inl hf
  have hPc : va_P D vwCl ([] : va_W) _ := hP.sub [] rfl
  have hf := bl_inl hf
  refine zcSP (As := [vI x2, vI x3]) (rest := []) hC hK (met_X7_needSpan l D kA x2 x3 hu) zwX7_221 hPc rfl hl.1 rfl (Nat.le_of_ble_eq_true rfl) ⟨Nat.le_of_ble_eq_true rfl, Nat.le_of_ble_eq_true rfl⟩ ⟨rfl, rfl⟩ ⟨Nat.le_refl _, Nat.le_refl _⟩ dX7_gainOf_7 <| lv_aload_n hC.1 hC.2.1 dX7_gainOf_10 rfl (lv_at hl 0 rfl) <| gfX7_23 hC hK hP (q0 := 0) rfl rfl dX7_gainOf_11 <| ziload_n hC.1 hC.2.1 dX7_gainOf_14 rfl (lv_at hl 1 rfl) <| ziload_n hC.1 hC.2.1 dX7_gainOf_15 rfl (lv_at hl 2 rfl) <| ziload_n hC.1 hC.2.1 dX7_gainOf_16 rfl (lv_at hl 3 rfl) <| ?_
  obtain ⟨r_1, hu, hf⟩ := bd_some hf
  have hPc : va_P D vwCl (cs_X4 kA (sv 2 a) (sv 4 V)) _ := hP.sub [2, 3, 4, 5, 6, 7, 8, 9, 10, 11, 12, 13, 14, 15, 16, 17, 18, 19, 20, 21, 22, 23, 24, 25] rfl
  exact zcVP (As := [vI x1, vI x2, vI x3]) (rest := []) hC hK (met_X4_growthWith l D kA (sv 2 a) n (sv 4 V) x1 x2 x3 hu) zwX7_327 hPc (q0 := 0) rfl rfl rfl rfl hl.1 rfl (Nat.le_of_ble_eq_true rfl) ⟨Nat.le_of_ble_eq_true rfl, Nat.le_of_ble_eq_true rfl⟩ ⟨rfl, rfl⟩ ⟨Nat.le_refl _, Nat.le_refl _⟩ dX7_gainOf_17 <| hret (Int32.ofInt r_1) _ _ (qI hf) dX7_gainOf_20
abbrev rxX7_gainOf : Room := { frames := 8, cells := 1, slots := 6, locals := 133 }
set_option maxHeartbeats 1000000 in
set_option maxRecDepth 100000 in
theorem thr_X7_gainOf (l : Launch) (D : va_G) (kA : Nat → ClassId) (a : Nat → Nat) (pf : Nat → Option Nat) (n : Nat) (V : Sz) (X : Sz) (x1 : Int) (x2 : Int) (x3 : Int) {er : Nat} (hf : f_X7_gainOf n V X x1 x2 x3 = some (.inr er)) : MX l yX7_gainOf cX7_gainOf 4 (some .int) rxX7_gainOf D kA [.ref (a 0), vI x1, vI x2, vI x3] (cs_X7 kA a V X pf) (zEx er) := by
  refine zXstart (own := RX7) rfl rfl (Nat.le_of_ble_eq_true rfl) ?_
  intro p e s m args below meth c ls hC hK hP hX hl hx hlocks
  have hl : lv_has ls 4 [(0, .ref (a 0)), (1, vI x1), (2, vI x2), (3, vI x3)] := hl
  unfold f_X7_gainOf at hf
  refine lv_aload_n hC.1 hC.2.1 dX7_gainOf_0 rfl (lv_at hl 0 rfl) <| ziload_n hC.1 hC.2.1 dX7_gainOf_1 rfl (lv_at hl 1 rfl) <| ?_
  rcases bx_inr hf with hu | ⟨u, hu, hf⟩
  · exact zcVX (As := [vI x1]) (rest := []) hC hK hX hx hlocks (thr_X7_needDonor l D kA a pf V X x1 hu) zwX7_203 hP (q0 := 0) rfl rfl rfl rfl hl.1 rfl (Nat.le_of_ble_eq_true rfl) ⟨Nat.le_of_ble_eq_true rfl, Nat.le_of_ble_eq_true rfl⟩ ⟨rfl, rfl⟩ ⟨Nat.le_of_ble_eq_true rfl, Nat.le_of_ble_eq_true rfl⟩ dX7_gainOf_2
  refine zcVP (As := [vI x1]) (rest := []) hC hK (met_X7_needDonor l D kA a pf V X x1 hu) zwX7_203 hP (q0 := 0) rfl rfl rfl rfl hl.1 rfl (Nat.le_of_ble_eq_true rfl) ⟨Nat.le_of_ble_eq_true rfl, Nat.le_of_ble_eq_true rfl⟩ ⟨rfl, rfl⟩ ⟨Nat.le_refl _, Nat.le_refl _⟩ dX7_gainOf_2 <| ziload_n hC.1 hC.2.1 dX7_gainOf_5 rfl (lv_at hl 2 rfl) <| ziload_n hC.1 hC.2.1 dX7_gainOf_6 rfl (lv_at hl 3 rfl) <| ?_
  rcases bx_inr hf with hu | ⟨u, hu, hf⟩
  · have hPc : va_P D vwCl ([] : va_W) _ := hP.sub [] rfl; exact zcSX (As := [vI x2, vI x3]) (rest := []) hC hK hX hx hlocks (thr_X7_needSpan l D kA x2 x3 hu) zwX7_221 hPc rfl hl.1 rfl (Nat.le_of_ble_eq_true rfl) ⟨Nat.le_of_ble_eq_true rfl, Nat.le_of_ble_eq_true rfl⟩ ⟨rfl, rfl⟩ ⟨Nat.le_of_ble_eq_true rfl, Nat.le_of_ble_eq_true rfl⟩ dX7_gainOf_7
  have hPc : va_P D vwCl ([] : va_W) _ := hP.sub [] rfl
  exact (bl_inr hf).elim
theorem DX7_bestAsked_0 : ∀ q ∈ ([(0, .iconst (-1), 1), (1, .istore_n 1, 1), (2, .iconst 0, 1), (3, .istore_n 2, 1), (4, .iconst 0, 1), (5, .istore_n 3, 1), (6, .iload_n 3, 1), (7, .aload_n 0, 1), (8, .getfield 23, 3), (11, .getfield 95, 3), (14, .if_icmp .ge 34, 3), (17, .aload_n 0, 1), (18, .getfield 23, 3), (21, .iload_n 3, 1), (22, .iconst 0, 1), (23, .sipush 9999, 3), (26, .invokevirtual 327, 3), (29, .istore 4, 2), (31, .iload 4, 2), (33, .iload_n 2, 1), (34, .if_icmp .le 8, 3), (37, .iload 4, 2), (39, .istore_n 2, 1), (40, .iload_n 3, 1), (41, .istore_n 1, 1), (42, .iinc 3 1, 3), (45, .goto (-39), 3), (48, .iload_n 1, 1), (49, .ireturn, 1)] : List (Nat × Instr × Nat)), decode cX7_bestAsked q.1 = .ok q.2 := by decide +kernel
theorem dX7_bestAsked_0 : decode cX7_bestAsked 0 = .ok (.iconst (-1), 1) := DX7_bestAsked_0 (0, .iconst (-1), 1) (List.mem_of_getElem? (i := 0) rfl)
theorem dX7_bestAsked_1 : decode cX7_bestAsked 1 = .ok (.istore_n 1, 1) := DX7_bestAsked_0 (1, .istore_n 1, 1) (List.mem_of_getElem? (i := 1) rfl)
theorem dX7_bestAsked_2 : decode cX7_bestAsked 2 = .ok (.iconst 0, 1) := DX7_bestAsked_0 (2, .iconst 0, 1) (List.mem_of_getElem? (i := 2) rfl)
theorem dX7_bestAsked_3 : decode cX7_bestAsked 3 = .ok (.istore_n 2, 1) := DX7_bestAsked_0 (3, .istore_n 2, 1) (List.mem_of_getElem? (i := 3) rfl)
theorem dX7_bestAsked_4 : decode cX7_bestAsked 4 = .ok (.iconst 0, 1) := DX7_bestAsked_0 (4, .iconst 0, 1) (List.mem_of_getElem? (i := 4) rfl)
theorem dX7_bestAsked_5 : decode cX7_bestAsked 5 = .ok (.istore_n 3, 1) := DX7_bestAsked_0 (5, .istore_n 3, 1) (List.mem_of_getElem? (i := 5) rfl)
theorem dX7_bestAsked_6 : decode cX7_bestAsked 6 = .ok (.iload_n 3, 1) := DX7_bestAsked_0 (6, .iload_n 3, 1) (List.mem_of_getElem? (i := 6) rfl)
theorem dX7_bestAsked_7 : decode cX7_bestAsked 7 = .ok (.aload_n 0, 1) := DX7_bestAsked_0 (7, .aload_n 0, 1) (List.mem_of_getElem? (i := 7) rfl)
theorem dX7_bestAsked_8 : decode cX7_bestAsked 8 = .ok (.getfield 23, 3) := DX7_bestAsked_0 (8, .getfield 23, 3) (List.mem_of_getElem? (i := 8) rfl)
theorem dX7_bestAsked_11 : decode cX7_bestAsked 11 = .ok (.getfield 95, 3) := DX7_bestAsked_0 (11, .getfield 95, 3) (List.mem_of_getElem? (i := 9) rfl)
theorem dX7_bestAsked_14 : decode cX7_bestAsked 14 = .ok (.if_icmp .ge 34, 3) := DX7_bestAsked_0 (14, .if_icmp .ge 34, 3) (List.mem_of_getElem? (i := 10) rfl)
theorem dX7_bestAsked_17 : decode cX7_bestAsked 17 = .ok (.aload_n 0, 1) := DX7_bestAsked_0 (17, .aload_n 0, 1) (List.mem_of_getElem? (i := 11) rfl)
theorem dX7_bestAsked_18 : decode cX7_bestAsked 18 = .ok (.getfield 23, 3) := DX7_bestAsked_0 (18, .getfield 23, 3) (List.mem_of_getElem? (i := 12) rfl)
theorem dX7_bestAsked_21 : decode cX7_bestAsked 21 = .ok (.iload_n 3, 1) := DX7_bestAsked_0 (21, .iload_n 3, 1) (List.mem_of_getElem? (i := 13) rfl)
theorem dX7_bestAsked_22 : decode cX7_bestAsked 22 = .ok (.iconst 0, 1) := DX7_bestAsked_0 (22, .iconst 0, 1) (List.mem_of_getElem? (i := 14) rfl)
theorem dX7_bestAsked_23 : decode cX7_bestAsked 23 = .ok (.sipush 9999, 3) := DX7_bestAsked_0 (23, .sipush 9999, 3) (List.mem_of_getElem? (i := 15) rfl)
theorem dX7_bestAsked_26 : decode cX7_bestAsked 26 = .ok (.invokevirtual 327, 3) := DX7_bestAsked_0 (26, .invokevirtual 327, 3) (List.mem_of_getElem? (i := 16) rfl)
theorem dX7_bestAsked_29 : decode cX7_bestAsked 29 = .ok (.istore 4, 2) := DX7_bestAsked_0 (29, .istore 4, 2) (List.mem_of_getElem? (i := 17) rfl)
theorem dX7_bestAsked_31 : decode cX7_bestAsked 31 = .ok (.iload 4, 2) := DX7_bestAsked_0 (31, .iload 4, 2) (List.mem_of_getElem? (i := 18) rfl)
theorem dX7_bestAsked_33 : decode cX7_bestAsked 33 = .ok (.iload_n 2, 1) := DX7_bestAsked_0 (33, .iload_n 2, 1) (List.mem_of_getElem? (i := 19) rfl)
theorem dX7_bestAsked_34 : decode cX7_bestAsked 34 = .ok (.if_icmp .le 8, 3) := DX7_bestAsked_0 (34, .if_icmp .le 8, 3) (List.mem_of_getElem? (i := 20) rfl)
theorem dX7_bestAsked_37 : decode cX7_bestAsked 37 = .ok (.iload 4, 2) := DX7_bestAsked_0 (37, .iload 4, 2) (List.mem_of_getElem? (i := 21) rfl)
theorem dX7_bestAsked_39 : decode cX7_bestAsked 39 = .ok (.istore_n 2, 1) := DX7_bestAsked_0 (39, .istore_n 2, 1) (List.mem_of_getElem? (i := 22) rfl)
theorem dX7_bestAsked_40 : decode cX7_bestAsked 40 = .ok (.iload_n 3, 1) := DX7_bestAsked_0 (40, .iload_n 3, 1) (List.mem_of_getElem? (i := 23) rfl)
theorem dX7_bestAsked_41 : decode cX7_bestAsked 41 = .ok (.istore_n 1, 1) := DX7_bestAsked_0 (41, .istore_n 1, 1) (List.mem_of_getElem? (i := 24) rfl)
theorem dX7_bestAsked_42 : decode cX7_bestAsked 42 = .ok (.iinc 3 1, 3) := DX7_bestAsked_0 (42, .iinc 3 1, 3) (List.mem_of_getElem? (i := 25) rfl)
theorem dX7_bestAsked_45 : decode cX7_bestAsked 45 = .ok (.goto (-39), 3) := DX7_bestAsked_0 (45, .goto (-39), 3) (List.mem_of_getElem? (i := 26) rfl)
theorem dX7_bestAsked_48 : decode cX7_bestAsked 48 = .ok (.iload_n 1, 1) := DX7_bestAsked_0 (48, .iload_n 1, 1) (List.mem_of_getElem? (i := 27) rfl)
theorem dX7_bestAsked_49 : decode cX7_bestAsked 49 = .ok (.ireturn, 1) := DX7_bestAsked_0 (49, .ireturn, 1) (List.mem_of_getElem? (i := 28) rfl)
abbrev rmX7_bestAsked : Room := { frames := 4, cells := 0, slots := 0, locals := 112 }
set_option maxHeartbeats 1000000 in
set_option maxRecDepth 100000 in
theorem met_X7_bestAsked (l : Launch) (D : va_G) (kA : Nat → ClassId) (a : Nat → Nat) (pf : Nat → Option Nat) (n : Nat) (V : Sz) (X : Sz) {r : Int} (hf : f_X7_bestAsked n V X = some r) : MP l yX7_bestAsked cX7_bestAsked 5 (some .int) rmX7_bestAsked D kA [.ref (a 0)] (cs_X7 kA a V X pf) (some (vI r)) := by
  refine zPI (own := RX7) rfl rfl (Nat.le_of_ble_eq_true rfl) ?_
  intro p e s m args below meth c ls Q hC hK hP hl hret
  have hl : lv_has ls 5 [(0, .ref (a 0))] := hl
  unfold f_X7_bestAsked at hf
  have L6 : ∀ (k6 : Nat) (y1 : Int) (y2 : Int) (y3 : Int) (ls : Array Slot), lpF (bX7_bestAsked_6 n V X) k6 (y1, y2, y3) = some r → lv_has ls 5 [(0, .ref (a 0)), (1, vI y1), (2, vI y2), (3, vI y3)] → W p l e rmX7_bestAsked s m args below meth c s.heap [] 0 0 Q (F0 m 6 ls []) := by
    intro k6
    induction k6 with
    | zero => intro y1 y2 y3 ls hf hl; exact lp_0 hf
    | succ k6 ih6 =>
      intro y1 y2 y3 ls hf hl
      have hf := lp_s hf
      rw [bX7_bestAsked_6_e] at hf
      have J42 : ∀ (y1 : Int) (y2 : Int) (y3 : Int) (ls : Array Slot), jX7_bestAsked_42 n V X (lpF (bX7_bestAsked_6 n V X) k6) y1 y2 y3 = some r → lv_has ls 5 [(0, .ref (a 0)), (1, vI y1), (2, vI y2), (3, vI y3)] → W p l e rmX7_bestAsked s m args below meth c s.heap [] 0 0 Q (F0 m 42 ls []) := by
        intro y1 y2 y3 ls hf hl
        unfold jX7_bestAsked_42 at hf
        obtain ⟨x_4, ex_4⟩ : ∃ y : Int, y = y3 + 1 := ⟨_, rfl⟩
        have hf := nm_at hf ex_4
        refine ziinc (v := x_4) (lv' := [(3, vI x_4), (0, .ref (a 0)), (1, vI y1), (2, vI y2)]) hC.1 hC.2.1 dX7_bestAsked_42 hl (k := 3) rfl ex_4 (by decide) rfl (fun ls hl => ?_)
        exact lv_goto (tgt := 6) hC.1 hC.2.1 dX7_bestAsked_45 (by decide) <| ih6 _ _ _ _ hf (lv_sub hl [1, 2, 3, 0] rfl)
      refine ziload_n hC.1 hC.2.1 dX7_bestAsked_6 rfl (lv_at hl 3 rfl) <| lv_aload_n hC.1 hC.2.1 dX7_bestAsked_7 rfl (lv_at hl 0 rfl) <| gfX7_23 hC hK hP (q0 := 0) rfl rfl dX7_bestAsked_8 <| gfX7_95 hC hK hP (q0 := 2) rfl rfl dX7_bestAsked_11 <| ?_
      obtain ⟨hz_1, hf⟩ := ck_some hf
      refine zicmp_ge (tgt := 48) hC.1 hC.2.1 ⟨hz_1.1, hz_1.2⟩ dX7_bestAsked_14 (by decide) (fun hc => ?_) (fun hc => ?_)
      · have hf := it_t hf hc
        exact ziload_n hC.1 hC.2.1 dX7_bestAsked_48 rfl (lv_at hl 1 rfl) <| hret (Int32.ofInt y1) _ _ (qI hf) dX7_bestAsked_49
      · have hf := it_f hf hc
        refine lv_aload_n hC.1 hC.2.1 dX7_bestAsked_17 rfl (lv_at hl 0 rfl) <| gfX7_23 hC hK hP (q0 := 0) rfl rfl dX7_bestAsked_18 <| ziload_n hC.1 hC.2.1 dX7_bestAsked_21 rfl (lv_at hl 3 rfl) <| ziconst hC.1 hC.2.1 dX7_bestAsked_22 <| zsipush hC.1 hC.2.1 dX7_bestAsked_23 (by decide) <| ?_
        obtain ⟨r_2, hu, hf⟩ := bd_some hf
        have hPc : va_P D vwCl (cs_X4 kA (sv 2 a) (sv 4 V)) _ := hP.sub [2, 3, 4, 5, 6, 7, 8, 9, 10, 11, 12, 13, 14, 15, 16, 17, 18, 19, 20, 21, 22, 23, 24, 25] rfl
        refine zcVP (As := [vI y3, vI 0, vI 9999]) (rest := []) hC hK (met_X4_growthWith l D kA (sv 2 a) n (sv 4 V) y3 0 9999 hu) zwX7_327 hPc (q0 := 0) rfl rfl rfl rfl hl.1 rfl (Nat.le_of_ble_eq_true rfl) ⟨Nat.le_of_ble_eq_true rfl, Nat.le_of_ble_eq_true rfl⟩ ⟨rfl, rfl⟩ ⟨Nat.le_refl _, Nat.le_refl _⟩ dX7_bestAsked_26 <| zistore (lv' := [(4, vI r_2), (0, .ref (a 0)), (1, vI y1), (2, vI y2), (3, vI y3)]) hC.1 hC.2.1 dX7_bestAsked_29 hl (by decide) rfl (fun ls hl => ?_)
        refine ziload hC.1 hC.2.1 dX7_bestAsked_31 (lv_at hl 0 rfl) <| ziload_n hC.1 hC.2.1 dX7_bestAsked_33 rfl (lv_at hl 3 rfl) <| ?_
        obtain ⟨hz_3, hf⟩ := ck_some hf
        refine zicmp_le (tgt := 42) hC.1 hC.2.1 ⟨hz_3.1, hz_3.2⟩ dX7_bestAsked_34 (by decide) (fun hc => ?_) (fun hc => ?_)
        · have hf := it_t hf hc
          exact J42 _ _ _ _ hf (lv_sub hl [1, 2, 3, 4] rfl)
        · have hf := it_f hf hc
          refine ziload hC.1 hC.2.1 dX7_bestAsked_37 (lv_at hl 0 rfl) <| zistore_n (lv' := [(2, vI r_2), (4, vI r_2), (0, .ref (a 0)), (1, vI y1), (3, vI y3)]) hC.1 hC.2.1 dX7_bestAsked_39 rfl hl (by decide) rfl (fun ls hl => ?_)
          refine ziload_n hC.1 hC.2.1 dX7_bestAsked_40 rfl (lv_at hl 4 rfl) <| zistore_n (lv' := [(1, vI y3), (2, vI r_2), (4, vI r_2), (0, .ref (a 0)), (3, vI y3)]) hC.1 hC.2.1 dX7_bestAsked_41 rfl hl (by decide) rfl (fun ls hl => ?_)
          exact J42 _ _ _ _ hf (lv_sub hl [3, 0, 1, 4] rfl)
  refine ziconst hC.1 hC.2.1 dX7_bestAsked_0 <| zistore_n (lv' := [(1, vI (-1)), (0, .ref (a 0))]) hC.1 hC.2.1 dX7_bestAsked_1 rfl hl (by decide) rfl (fun ls hl => ?_)
  refine ziconst hC.1 hC.2.1 dX7_bestAsked_2 <| zistore_n (lv' := [(2, vI 0), (1, vI (-1)), (0, .ref (a 0))]) hC.1 hC.2.1 dX7_bestAsked_3 rfl hl (by decide) rfl (fun ls hl => ?_)
  refine ziconst hC.1 hC.2.1 dX7_bestAsked_4 <| zistore_n (lv' := [(3, vI 0), (2, vI 0), (1, vI (-1)), (0, .ref (a 0))]) hC.1 hC.2.1 dX7_bestAsked_5 rfl hl (by decide) rfl (fun ls hl => ?_)
  exact L6 n _ _ _ _ hf (lv_sub hl [3, 2, 1, 0] rfl)
theorem DX7_neededSpan_0 : ∀ q ∈ ([(0, .aload_n 0, 1), (1, .iload_n 1, 1), (2, .invokevirtual 203, 3), (5, .aload_n 0, 1), (6, .getfield 23, 3), (9, .iload_n 1, 1), (10, .iload_n 2, 1), (11, .invokevirtual 330, 3), (14, .ireturn, 1)] : List (Nat × Instr × Nat)), decode cX7_neededSpan q.1 = .ok q.2 := by decide +kernel
theorem dX7_neededSpan_0 : decode cX7_neededSpan 0 = .ok (.aload_n 0, 1) := DX7_neededSpan_0 (0, .aload_n 0, 1) (List.mem_of_getElem? (i := 0) rfl)
theorem dX7_neededSpan_1 : decode cX7_neededSpan 1 = .ok (.iload_n 1, 1) := DX7_neededSpan_0 (1, .iload_n 1, 1) (List.mem_of_getElem? (i := 1) rfl)
theorem dX7_neededSpan_2 : decode cX7_neededSpan 2 = .ok (.invokevirtual 203, 3) := DX7_neededSpan_0 (2, .invokevirtual 203, 3) (List.mem_of_getElem? (i := 2) rfl)
theorem dX7_neededSpan_5 : decode cX7_neededSpan 5 = .ok (.aload_n 0, 1) := DX7_neededSpan_0 (5, .aload_n 0, 1) (List.mem_of_getElem? (i := 3) rfl)
theorem dX7_neededSpan_6 : decode cX7_neededSpan 6 = .ok (.getfield 23, 3) := DX7_neededSpan_0 (6, .getfield 23, 3) (List.mem_of_getElem? (i := 4) rfl)
theorem dX7_neededSpan_9 : decode cX7_neededSpan 9 = .ok (.iload_n 1, 1) := DX7_neededSpan_0 (9, .iload_n 1, 1) (List.mem_of_getElem? (i := 5) rfl)
theorem dX7_neededSpan_10 : decode cX7_neededSpan 10 = .ok (.iload_n 2, 1) := DX7_neededSpan_0 (10, .iload_n 2, 1) (List.mem_of_getElem? (i := 6) rfl)
theorem dX7_neededSpan_11 : decode cX7_neededSpan 11 = .ok (.invokevirtual 330, 3) := DX7_neededSpan_0 (11, .invokevirtual 330, 3) (List.mem_of_getElem? (i := 7) rfl)
theorem dX7_neededSpan_14 : decode cX7_neededSpan 14 = .ok (.ireturn, 1) := DX7_neededSpan_0 (14, .ireturn, 1) (List.mem_of_getElem? (i := 8) rfl)
abbrev rmX7_neededSpan : Room := { frames := 4, cells := 0, slots := 0, locals := 117 }
set_option maxHeartbeats 1000000 in
set_option maxRecDepth 100000 in
theorem met_X7_neededSpan (l : Launch) (D : va_G) (kA : Nat → ClassId) (a : Nat → Nat) (pf : Nat → Option Nat) (n : Nat) (V : Sz) (X : Sz) (x1 : Int) (x2 : Int) {r : Int} (hf : f_X7_neededSpan n V X x1 x2 = some (.inl r)) : MP l yX7_neededSpan cX7_neededSpan 3 (some .int) rmX7_neededSpan D kA [.ref (a 0), vI x1, vI x2] (cs_X7 kA a V X pf) (some (vI r)) := by
  refine zPI (own := RX7) rfl rfl (Nat.le_of_ble_eq_true rfl) ?_
  intro p e s m args below meth c ls Q hC hK hP hl hret
  have hl : lv_has ls 3 [(0, .ref (a 0)), (1, vI x1), (2, vI x2)] := hl
  unfold f_X7_neededSpan at hf
  refine lv_aload_n hC.1 hC.2.1 dX7_neededSpan_0 rfl (lv_at hl 0 rfl) <| ziload_n hC.1 hC.2.1 dX7_neededSpan_1 rfl (lv_at hl 1 rfl) <| ?_
  obtain ⟨u, hu, hf⟩ := bx_inl hf
  have hf := bl_inl hf
  refine zcVP (As := [vI x1]) (rest := []) hC hK (met_X7_needDonor l D kA a pf V X x1 hu) zwX7_203 hP (q0 := 0) rfl rfl rfl rfl hl.1 rfl (Nat.le_of_ble_eq_true rfl) ⟨Nat.le_of_ble_eq_true rfl, Nat.le_of_ble_eq_true rfl⟩ ⟨rfl, rfl⟩ ⟨Nat.le_refl _, Nat.le_refl _⟩ dX7_neededSpan_2 <| lv_aload_n hC.1 hC.2.1 dX7_neededSpan_5 rfl (lv_at hl 0 rfl) <| gfX7_23 hC hK hP (q0 := 0) rfl rfl dX7_neededSpan_6 <| ziload_n hC.1 hC.2.1 dX7_neededSpan_9 rfl (lv_at hl 1 rfl) <| ziload_n hC.1 hC.2.1 dX7_neededSpan_10 rfl (lv_at hl 2 rfl) <| ?_
  obtain ⟨r_1, hu, hf⟩ := bd_some hf
  have hPc : va_P D vwCl (cs_X4 kA (sv 2 a) (sv 4 V)) _ := hP.sub [2, 3, 4, 5, 6, 7, 8, 9, 10, 11, 12, 13, 14, 15, 16, 17, 18, 19, 20, 21, 22, 23, 24, 25] rfl
  exact zcVP (As := [vI x1, vI x2]) (rest := []) hC hK (met_X4_endOfNeed l D kA (sv 2 a) n (sv 4 V) x1 x2 hu) zwX7_330 hPc (q0 := 0) rfl rfl rfl rfl hl.1 rfl (Nat.le_of_ble_eq_true rfl) ⟨Nat.le_of_ble_eq_true rfl, Nat.le_of_ble_eq_true rfl⟩ ⟨rfl, rfl⟩ ⟨Nat.le_refl _, Nat.le_refl _⟩ dX7_neededSpan_11 <| hret (Int32.ofInt r_1) _ _ (qI hf) dX7_neededSpan_14
abbrev rxX7_neededSpan : Room := { frames := 7, cells := 1, slots := 6, locals := 117 }
set_option maxHeartbeats 1000000 in
set_option maxRecDepth 100000 in
theorem thr_X7_neededSpan (l : Launch) (D : va_G) (kA : Nat → ClassId) (a : Nat → Nat) (pf : Nat → Option Nat) (n : Nat) (V : Sz) (X : Sz) (x1 : Int) (x2 : Int) {er : Nat} (hf : f_X7_neededSpan n V X x1 x2 = some (.inr er)) : MX l yX7_neededSpan cX7_neededSpan 3 (some .int) rxX7_neededSpan D kA [.ref (a 0), vI x1, vI x2] (cs_X7 kA a V X pf) (zEx er) := by
  refine zXstart (own := RX7) rfl rfl (Nat.le_of_ble_eq_true rfl) ?_
  intro p e s m args below meth c ls hC hK hP hX hl hx hlocks
  have hl : lv_has ls 3 [(0, .ref (a 0)), (1, vI x1), (2, vI x2)] := hl
  unfold f_X7_neededSpan at hf
  refine lv_aload_n hC.1 hC.2.1 dX7_neededSpan_0 rfl (lv_at hl 0 rfl) <| ziload_n hC.1 hC.2.1 dX7_neededSpan_1 rfl (lv_at hl 1 rfl) <| ?_
  rcases bx_inr hf with hu | ⟨u, hu, hf⟩
  · exact zcVX (As := [vI x1]) (rest := []) hC hK hX hx hlocks (thr_X7_needDonor l D kA a pf V X x1 hu) zwX7_203 hP (q0 := 0) rfl rfl rfl rfl hl.1 rfl (Nat.le_of_ble_eq_true rfl) ⟨Nat.le_of_ble_eq_true rfl, Nat.le_of_ble_eq_true rfl⟩ ⟨rfl, rfl⟩ ⟨Nat.le_of_ble_eq_true rfl, Nat.le_of_ble_eq_true rfl⟩ dX7_neededSpan_2
  exact (bl_inr hf).elim
theorem DX7_gainOfSplit_0 : ∀ q ∈ ([(0, .aload_n 0, 1), (1, .iload_n 1, 1), (2, .invokevirtual 152, 3), (5, .aload_n 0, 1), (6, .iload_n 2, 1), (7, .invokevirtual 203, 3), (10, .aload_n 0, 1), (11, .getfield 23, 3), (14, .getfield 86, 3), (17, .iload_n 1, 1), (18, .iload_n 2, 1), (19, .invokevirtual 260, 3), (22, .ifCond .ne 17, 3), (25, .aload_n 0, 1), (26, .getfield 23, 3), (29, .getfield 86, 3), (32, .iload_n 1, 1), (33, .invokevirtual 265, 3), (36, .ifCond .ne 5, 3), (39, .iconst 0, 1), (40, .ireturn, 1), (41, .aload_n 0, 1), (42, .getfield 27, 3), (45, .aload_n 0, 1), (46, .getfield 23, 3), (49, .invokevirtual 75, 3), (52, .aload_n 0, 1), (53, .getfield 27, 3), (56, .getfield 86, 3), (59, .iload_n 1, 1), (60, .iconst 1, 1), (61, .iload_n 2, 1), (62, .iconst 1, 1), (63, .invokevirtual 270, 3), (66, .aload_n 0, 1), (67, .getfield 27, 3), (70, .invokevirtual 72, 3), (73, .aload_n 0, 1), (74, .getfield 27, 3), (77, .iconst 2, 1)] : List (Nat × Instr × Nat)), decode cX7_gainOfSplit q.1 = .ok q.2 := by decide +kernel
theorem dX7_gainOfSplit_0 : decode cX7_gainOfSplit 0 = .ok (.aload_n 0, 1) := DX7_gainOfSplit_0 (0, .aload_n 0, 1) (List.mem_of_getElem? (i := 0) rfl)
theorem dX7_gainOfSplit_1 : decode cX7_gainOfSplit 1 = .ok (.iload_n 1, 1) := DX7_gainOfSplit_0 (1, .iload_n 1, 1) (List.mem_of_getElem? (i := 1) rfl)
theorem dX7_gainOfSplit_2 : decode cX7_gainOfSplit 2 = .ok (.invokevirtual 152, 3) := DX7_gainOfSplit_0 (2, .invokevirtual 152, 3) (List.mem_of_getElem? (i := 2) rfl)
theorem dX7_gainOfSplit_5 : decode cX7_gainOfSplit 5 = .ok (.aload_n 0, 1) := DX7_gainOfSplit_0 (5, .aload_n 0, 1) (List.mem_of_getElem? (i := 3) rfl)
theorem dX7_gainOfSplit_6 : decode cX7_gainOfSplit 6 = .ok (.iload_n 2, 1) := DX7_gainOfSplit_0 (6, .iload_n 2, 1) (List.mem_of_getElem? (i := 4) rfl)
theorem dX7_gainOfSplit_7 : decode cX7_gainOfSplit 7 = .ok (.invokevirtual 203, 3) := DX7_gainOfSplit_0 (7, .invokevirtual 203, 3) (List.mem_of_getElem? (i := 5) rfl)
theorem dX7_gainOfSplit_10 : decode cX7_gainOfSplit 10 = .ok (.aload_n 0, 1) := DX7_gainOfSplit_0 (10, .aload_n 0, 1) (List.mem_of_getElem? (i := 6) rfl)
theorem dX7_gainOfSplit_11 : decode cX7_gainOfSplit 11 = .ok (.getfield 23, 3) := DX7_gainOfSplit_0 (11, .getfield 23, 3) (List.mem_of_getElem? (i := 7) rfl)
theorem dX7_gainOfSplit_14 : decode cX7_gainOfSplit 14 = .ok (.getfield 86, 3) := DX7_gainOfSplit_0 (14, .getfield 86, 3) (List.mem_of_getElem? (i := 8) rfl)
theorem dX7_gainOfSplit_17 : decode cX7_gainOfSplit 17 = .ok (.iload_n 1, 1) := DX7_gainOfSplit_0 (17, .iload_n 1, 1) (List.mem_of_getElem? (i := 9) rfl)
theorem dX7_gainOfSplit_18 : decode cX7_gainOfSplit 18 = .ok (.iload_n 2, 1) := DX7_gainOfSplit_0 (18, .iload_n 2, 1) (List.mem_of_getElem? (i := 10) rfl)
theorem dX7_gainOfSplit_19 : decode cX7_gainOfSplit 19 = .ok (.invokevirtual 260, 3) := DX7_gainOfSplit_0 (19, .invokevirtual 260, 3) (List.mem_of_getElem? (i := 11) rfl)
theorem dX7_gainOfSplit_22 : decode cX7_gainOfSplit 22 = .ok (.ifCond .ne 17, 3) := DX7_gainOfSplit_0 (22, .ifCond .ne 17, 3) (List.mem_of_getElem? (i := 12) rfl)
theorem dX7_gainOfSplit_25 : decode cX7_gainOfSplit 25 = .ok (.aload_n 0, 1) := DX7_gainOfSplit_0 (25, .aload_n 0, 1) (List.mem_of_getElem? (i := 13) rfl)
theorem dX7_gainOfSplit_26 : decode cX7_gainOfSplit 26 = .ok (.getfield 23, 3) := DX7_gainOfSplit_0 (26, .getfield 23, 3) (List.mem_of_getElem? (i := 14) rfl)
theorem dX7_gainOfSplit_29 : decode cX7_gainOfSplit 29 = .ok (.getfield 86, 3) := DX7_gainOfSplit_0 (29, .getfield 86, 3) (List.mem_of_getElem? (i := 15) rfl)
theorem dX7_gainOfSplit_32 : decode cX7_gainOfSplit 32 = .ok (.iload_n 1, 1) := DX7_gainOfSplit_0 (32, .iload_n 1, 1) (List.mem_of_getElem? (i := 16) rfl)
theorem dX7_gainOfSplit_33 : decode cX7_gainOfSplit 33 = .ok (.invokevirtual 265, 3) := DX7_gainOfSplit_0 (33, .invokevirtual 265, 3) (List.mem_of_getElem? (i := 17) rfl)
theorem dX7_gainOfSplit_36 : decode cX7_gainOfSplit 36 = .ok (.ifCond .ne 5, 3) := DX7_gainOfSplit_0 (36, .ifCond .ne 5, 3) (List.mem_of_getElem? (i := 18) rfl)
theorem dX7_gainOfSplit_39 : decode cX7_gainOfSplit 39 = .ok (.iconst 0, 1) := DX7_gainOfSplit_0 (39, .iconst 0, 1) (List.mem_of_getElem? (i := 19) rfl)
theorem dX7_gainOfSplit_40 : decode cX7_gainOfSplit 40 = .ok (.ireturn, 1) := DX7_gainOfSplit_0 (40, .ireturn, 1) (List.mem_of_getElem? (i := 20) rfl)
theorem dX7_gainOfSplit_41 : decode cX7_gainOfSplit 41 = .ok (.aload_n 0, 1) := DX7_gainOfSplit_0 (41, .aload_n 0, 1) (List.mem_of_getElem? (i := 21) rfl)
theorem dX7_gainOfSplit_42 : decode cX7_gainOfSplit 42 = .ok (.getfield 27, 3) := DX7_gainOfSplit_0 (42, .getfield 27, 3) (List.mem_of_getElem? (i := 22) rfl)
theorem dX7_gainOfSplit_45 : decode cX7_gainOfSplit 45 = .ok (.aload_n 0, 1) := DX7_gainOfSplit_0 (45, .aload_n 0, 1) (List.mem_of_getElem? (i := 23) rfl)
theorem dX7_gainOfSplit_46 : decode cX7_gainOfSplit 46 = .ok (.getfield 23, 3) := DX7_gainOfSplit_0 (46, .getfield 23, 3) (List.mem_of_getElem? (i := 24) rfl)
theorem dX7_gainOfSplit_49 : decode cX7_gainOfSplit 49 = .ok (.invokevirtual 75, 3) := DX7_gainOfSplit_0 (49, .invokevirtual 75, 3) (List.mem_of_getElem? (i := 25) rfl)
theorem dX7_gainOfSplit_52 : decode cX7_gainOfSplit 52 = .ok (.aload_n 0, 1) := DX7_gainOfSplit_0 (52, .aload_n 0, 1) (List.mem_of_getElem? (i := 26) rfl)
theorem dX7_gainOfSplit_53 : decode cX7_gainOfSplit 53 = .ok (.getfield 27, 3) := DX7_gainOfSplit_0 (53, .getfield 27, 3) (List.mem_of_getElem? (i := 27) rfl)
theorem dX7_gainOfSplit_56 : decode cX7_gainOfSplit 56 = .ok (.getfield 86, 3) := DX7_gainOfSplit_0 (56, .getfield 86, 3) (List.mem_of_getElem? (i := 28) rfl)
theorem dX7_gainOfSplit_59 : decode cX7_gainOfSplit 59 = .ok (.iload_n 1, 1) := DX7_gainOfSplit_0 (59, .iload_n 1, 1) (List.mem_of_getElem? (i := 29) rfl)
theorem dX7_gainOfSplit_60 : decode cX7_gainOfSplit 60 = .ok (.iconst 1, 1) := DX7_gainOfSplit_0 (60, .iconst 1, 1) (List.mem_of_getElem? (i := 30) rfl)
theorem dX7_gainOfSplit_61 : decode cX7_gainOfSplit 61 = .ok (.iload_n 2, 1) := DX7_gainOfSplit_0 (61, .iload_n 2, 1) (List.mem_of_getElem? (i := 31) rfl)
theorem dX7_gainOfSplit_62 : decode cX7_gainOfSplit 62 = .ok (.iconst 1, 1) := DX7_gainOfSplit_0 (62, .iconst 1, 1) (List.mem_of_getElem? (i := 32) rfl)
theorem dX7_gainOfSplit_63 : decode cX7_gainOfSplit 63 = .ok (.invokevirtual 270, 3) := DX7_gainOfSplit_0 (63, .invokevirtual 270, 3) (List.mem_of_getElem? (i := 33) rfl)
theorem dX7_gainOfSplit_66 : decode cX7_gainOfSplit 66 = .ok (.aload_n 0, 1) := DX7_gainOfSplit_0 (66, .aload_n 0, 1) (List.mem_of_getElem? (i := 34) rfl)
theorem dX7_gainOfSplit_67 : decode cX7_gainOfSplit 67 = .ok (.getfield 27, 3) := DX7_gainOfSplit_0 (67, .getfield 27, 3) (List.mem_of_getElem? (i := 35) rfl)
theorem dX7_gainOfSplit_70 : decode cX7_gainOfSplit 70 = .ok (.invokevirtual 72, 3) := DX7_gainOfSplit_0 (70, .invokevirtual 72, 3) (List.mem_of_getElem? (i := 36) rfl)
theorem dX7_gainOfSplit_73 : decode cX7_gainOfSplit 73 = .ok (.aload_n 0, 1) := DX7_gainOfSplit_0 (73, .aload_n 0, 1) (List.mem_of_getElem? (i := 37) rfl)
theorem dX7_gainOfSplit_74 : decode cX7_gainOfSplit 74 = .ok (.getfield 27, 3) := DX7_gainOfSplit_0 (74, .getfield 27, 3) (List.mem_of_getElem? (i := 38) rfl)
theorem dX7_gainOfSplit_77 : decode cX7_gainOfSplit 77 = .ok (.iconst 2, 1) := DX7_gainOfSplit_0 (77, .iconst 2, 1) (List.mem_of_getElem? (i := 39) rfl)
theorem DX7_gainOfSplit_1 : ∀ q ∈ ([(78, .invokevirtual 306, 3), (81, .aload_n 0, 1), (82, .getfield 23, 3), (85, .iconst 2, 1), (86, .invokevirtual 306, 3), (89, .isub, 1), (90, .ireturn, 1)] : List (Nat × Instr × Nat)), decode cX7_gainOfSplit q.1 = .ok q.2 := by decide +kernel
theorem dX7_gainOfSplit_78 : decode cX7_gainOfSplit 78 = .ok (.invokevirtual 306, 3) := DX7_gainOfSplit_1 (78, .invokevirtual 306, 3) (List.mem_of_getElem? (i := 0) rfl)
theorem dX7_gainOfSplit_81 : decode cX7_gainOfSplit 81 = .ok (.aload_n 0, 1) := DX7_gainOfSplit_1 (81, .aload_n 0, 1) (List.mem_of_getElem? (i := 1) rfl)
theorem dX7_gainOfSplit_82 : decode cX7_gainOfSplit 82 = .ok (.getfield 23, 3) := DX7_gainOfSplit_1 (82, .getfield 23, 3) (List.mem_of_getElem? (i := 2) rfl)
theorem dX7_gainOfSplit_85 : decode cX7_gainOfSplit 85 = .ok (.iconst 2, 1) := DX7_gainOfSplit_1 (85, .iconst 2, 1) (List.mem_of_getElem? (i := 3) rfl)
theorem dX7_gainOfSplit_86 : decode cX7_gainOfSplit 86 = .ok (.invokevirtual 306, 3) := DX7_gainOfSplit_1 (86, .invokevirtual 306, 3) (List.mem_of_getElem? (i := 4) rfl)
theorem dX7_gainOfSplit_89 : decode cX7_gainOfSplit 89 = .ok (.isub, 1) := DX7_gainOfSplit_1 (89, .isub, 1) (List.mem_of_getElem? (i := 5) rfl)
theorem dX7_gainOfSplit_90 : decode cX7_gainOfSplit 90 = .ok (.ireturn, 1) := DX7_gainOfSplit_1 (90, .ireturn, 1) (List.mem_of_getElem? (i := 6) rfl)
abbrev rmX7_gainOfSplit : Room := { frames := 4, cells := 0, slots := 0, locals := 123 }
set_option maxHeartbeats 1000000 in
set_option maxRecDepth 100000 in
theorem met_X7_gainOfSplit (l : Launch) (D : va_G) (kA : Nat → ClassId) (a : Nat → Nat) (pf : Nat → Option Nat) (n : Nat) (V0 : Sz) (X : Sz) (x1 : Int) (x2 : Int) (hDt : ∀ w : Sz, va_D (fun _ => True) (cs_X7 kA a w X pf)) {r : Int} {Vr : Sz} (hf : f_X7_gainOfSplit n V0 X x1 x2 = some (.inl (r, Vr))) : MZ l yX7_gainOfSplit cX7_gainOfSplit 3 (some .int) rmX7_gainOfSplit D kA [.ref (a 0), vI x1, vI x2] (cs_X7 kA a V0 X pf) (cs_X7 kA a Vr X pf) (some (vI r)) := by
  refine zZI (own := RX7) rfl rfl (Nat.le_of_ble_eq_true rfl) ?_
  intro p e s m args below meth c ls Q hC hK hP hl hret
  have hl : lv_has ls 3 [(0, .ref (a 0)), (1, vI x1), (2, vI x2)] := hl
  have hS : va_S (zF (cs_X7 kA a V0 X pf)) s.heap s.heap [] := va_S.rf
  have hD := zDself (C := fun w : Sz => (cs_X7 kA a w X pf)) hDt V0 (fun _ => rfl)
  try dsimp only at hD
  generalize hAe : zF (cs_X7 kA a V0 X pf) = A0 at hS hD hret
  unfold f_X7_gainOfSplit at hf
  refine lv_aload_n hC.1 hC.2.1 dX7_gainOfSplit_0 rfl (lv_at hl 0 rfl) <| ziload_n hC.1 hC.2.1 dX7_gainOfSplit_1 rfl (lv_at hl 1 rfl) <| ?_
  obtain ⟨u, hu, hf⟩ := bx_inl hf
  refine zcVP (As := [vI x1]) (rest := []) hC hK (met_X7_needGift l D kA a pf V0 X x1 hu) zwX7_152 hP (q0 := 0) rfl rfl rfl rfl hl.1 rfl (Nat.le_of_ble_eq_true rfl) ⟨Nat.le_of_ble_eq_true rfl, Nat.le_of_ble_eq_true rfl⟩ ⟨rfl, rfl⟩ ⟨Nat.le_refl _, Nat.le_refl _⟩ dX7_gainOfSplit_2 <| lv_aload_n hC.1 hC.2.1 dX7_gainOfSplit_5 rfl (lv_at hl 0 rfl) <| ziload_n hC.1 hC.2.1 dX7_gainOfSplit_6 rfl (lv_at hl 2 rfl) <| ?_
  obtain ⟨u, hu, hf⟩ := bx_inl hf
  have hf := bl_inl hf
  refine zcVP (As := [vI x2]) (rest := []) hC hK (met_X7_needDonor l D kA a pf V0 X x2 hu) zwX7_203 hP (q0 := 0) rfl rfl rfl rfl hl.1 rfl (Nat.le_of_ble_eq_true rfl) ⟨Nat.le_of_ble_eq_true rfl, Nat.le_of_ble_eq_true rfl⟩ ⟨rfl, rfl⟩ ⟨Nat.le_refl _, Nat.le_refl _⟩ dX7_gainOfSplit_7 <| lv_aload_n hC.1 hC.2.1 dX7_gainOfSplit_10 rfl (lv_at hl 0 rfl) <| gfX7_23 hC hK hP (q0 := 0) rfl rfl dX7_gainOfSplit_11 <| gfX7_86 hC hK hP (q0 := 2) rfl rfl dX7_gainOfSplit_14 <| ziload_n hC.1 hC.2.1 dX7_gainOfSplit_17 rfl (lv_at hl 1 rfl) <| ziload_n hC.1 hC.2.1 dX7_gainOfSplit_18 rfl (lv_at hl 2 rfl) <| ?_
  obtain ⟨r_1, hu, hf⟩ := bd_some hf
  have hPc : va_P D vwCl (cs_X3 kA (sv 8 a) (sv 13 V0)) _ := hP.sub [8, 9, 10, 11, 12, 13, 14, 15, 16, 17, 18, 19] rfl
  refine zcVP (As := [vI x1, vI x2]) (rest := []) hC hK (met_X3_isAllOf l D kA (sv 8 a) (sv 13 V0) x1 x2 hu) zwX7_260 hPc (q0 := 0) rfl rfl rfl rfl hl.1 rfl (Nat.le_of_ble_eq_true rfl) ⟨Nat.le_of_ble_eq_true rfl, Nat.le_of_ble_eq_true rfl⟩ ⟨rfl, rfl⟩ ⟨Nat.le_refl _, Nat.le_refl _⟩ dX7_gainOfSplit_19 <| zifb_ne (tgt := 39) hC.1 hC.2.1 dX7_gainOfSplit_22 (by decide) (fun hc => ?_) (fun hc => ?_)
  · have hf := it_t hf hc
    refine ziconst hC.1 hC.2.1 dX7_gainOfSplit_39 <| ?_
    have hf := Option.some.inj hf
    simp only [Prod.mk.injEq] at hf
    exact hret (Int32.ofInt 0) _ _ _ _ (congrArg (fun z => some (vI z)) hf.1.symm) (by rw [← hf.2]; exact hP) hS dX7_gainOfSplit_40
  · have hf := it_f hf hc
    refine lv_aload_n hC.1 hC.2.1 dX7_gainOfSplit_25 rfl (lv_at hl 0 rfl) <| gfX7_23 hC hK hP (q0 := 0) rfl rfl dX7_gainOfSplit_26 <| gfX7_86 hC hK hP (q0 := 2) rfl rfl dX7_gainOfSplit_29 <| ziload_n hC.1 hC.2.1 dX7_gainOfSplit_32 rfl (lv_at hl 1 rfl) <| ?_
    obtain ⟨r_2, hu, hf⟩ := bd_some hf
    have hPc : va_P D vwCl (cs_X3 kA (sv 8 a) (sv 13 V0)) _ := hP.sub [8, 9, 10, 11, 12, 13, 14, 15, 16, 17, 18, 19] rfl
    refine zcVP (As := [vI x1]) (rest := []) hC hK (met_X3_isWhole l D kA (sv 8 a) (sv 13 V0) x1 hu) zwX7_265 hPc (q0 := 0) rfl rfl rfl rfl hl.1 rfl (Nat.le_of_ble_eq_true rfl) ⟨Nat.le_of_ble_eq_true rfl, Nat.le_of_ble_eq_true rfl⟩ ⟨rfl, rfl⟩ ⟨Nat.le_refl _, Nat.le_refl _⟩ dX7_gainOfSplit_33 <| zifb_ne (tgt := 41) hC.1 hC.2.1 dX7_gainOfSplit_36 (by decide) (fun hc => ?_) (fun hc => ?_)
    · have hf := it_t hf hc
      refine lv_aload_n hC.1 hC.2.1 dX7_gainOfSplit_41 rfl (lv_at hl 0 rfl) <| gfX7_27 hC hK hP (q0 := 0) rfl rfl dX7_gainOfSplit_42 <| lv_aload_n hC.1 hC.2.1 dX7_gainOfSplit_45 rfl (lv_at hl 0 rfl) <| gfX7_23 hC hK hP (q0 := 0) rfl rfl dX7_gainOfSplit_46 <| ?_
      obtain ⟨V_3, hu, hf⟩ := bd_some hf
      have hPc : va_P D vwCl (cs_X4 kA (sv 26 a) (sv 31 V0) ++ (cs_X4 kA (sv 2 a) (sv 4 V0))) _ := hP.sub [26, 27, 28, 29, 30, 31, 32, 33, 34, 35, 36, 37, 38, 39, 40, 41, 42, 43, 44, 45, 46, 47, 48, 49, 2, 3, 4, 5, 6, 7, 8, 9, 10, 11, 12, 13, 14, 15, 16, 17, 18, 19, 20, 21, 22, 23, 24, 25] rfl
      have hDc : ∀ w : Sz, va_D (fun _ => True) (cs_X4 kA (sv 26 a) w ++ (cs_X4 kA (sv 2 a) (sv 4 V0))) := fun w => (hDt (sw 31 27 V0 w)).sub [26, 27, 28, 29, 30, 31, 32, 33, 34, 35, 36, 37, 38, 39, 40, 41, 42, 43, 44, 45, 46, 47, 48, 49, 2, 3, 4, 5, 6, 7, 8, 9, 10, 11, 12, 13, 14, 15, 16, 17, 18, 19, 20, 21, 22, 23, 24, 25] (by decide) rfl
      refine zcVZ (As := [.ref (a 2)]) (rest := []) hC hK (met_X4_become l D kA (sv 26 a) (sv 2 a) (sv 31 V0) (sv 4 V0) hDc hu) zwX7_75 hS (zFsub (hD V0) [26, 27, 28, 29, 30, 31, 32, 33, 34, 35, 36, 37, 38, 39, 40, 41, 42, 43, 44, 45, 46, 47, 48, 49, 2, 3, 4, 5, 6, 7, 8, 9, 10, 11, 12, 13, 14, 15, 16, 17, 18, 19, 20, 21, 22, 23, 24, 25] rfl) hPc (q0 := 0) rfl rfl rfl rfl hl.1 rfl (Nat.le_of_ble_eq_true rfl) ⟨Nat.le_of_ble_eq_true rfl, Nat.le_of_ble_eq_true rfl⟩ ⟨rfl, rfl⟩ ⟨Nat.le_refl _, Nat.le_refl _⟩ dX7_gainOfSplit_49 (fun H locs hP1 hk1 hS => ?_)
      obtain ⟨V_4, eV_4⟩ : ∃ y, y = sw 31 27 V0 V_3 := ⟨_, rfl⟩
      have hf := nm_at hf eV_4
      have hP : va_P D vwCl (cs_X7 kA a V_4 X pf) H := by rw [eV_4]; exact zjoinB (wb0 := (cs_X4 kA (sv 26 a) (sv 31 V0))) (wb1 := (cs_X4 kA (sv 26 a) V_3)) (wo := (cs_X4 kA (sv 2 a) (sv 4 V0))) hP (hDt V0) 26 24 [26, 27, 28, 29, 30, 31, 32, 33, 34, 35, 36, 37, 38, 39, 40, 41, 42, 43, 44, 45, 46, 47, 48, 49, 2, 3, 4, 5, 6, 7, 8, 9, 10, 11, 12, 13, 14, 15, 16, 17, 18, 19, 20, 21, 22, 23, 24, 25] rfl rfl rfl rfl hk1 hP1
      refine lv_aload_n hC.1 hC.2.1 dX7_gainOfSplit_52 rfl (lv_at hl 0 rfl) <| gfX7_27 hC hK hP (q0 := 0) rfl rfl dX7_gainOfSplit_53 <| gfX7_86 hC hK hP (q0 := 26) rfl rfl dX7_gainOfSplit_56 <| ziload_n hC.1 hC.2.1 dX7_gainOfSplit_59 rfl (lv_at hl 1 rfl) <| ziconst hC.1 hC.2.1 dX7_gainOfSplit_60 <| ziload_n hC.1 hC.2.1 dX7_gainOfSplit_61 rfl (lv_at hl 2 rfl) <| ziconst hC.1 hC.2.1 dX7_gainOfSplit_62 <| ?_
      obtain ⟨V_5, hu, hf⟩ := bd_some hf
      have hPc : va_P D vwCl (cs_X3 kA (sv 32 a) (sv 40 V_4)) _ := hP.sub [32, 33, 34, 35, 36, 37, 38, 39, 40, 41, 42, 43] rfl
      have hDc : ∀ w : Sz, va_D (fun _ => True) (cs_X3 kA (sv 32 a) w) := fun w => (hDt (sw 40 12 V_4 w)).sub [32, 33, 34, 35, 36, 37, 38, 39, 40, 41, 42, 43] (by decide) rfl
      refine zcVZ (As := [vI x1, vI 1, vI x2, vI 1]) (rest := []) hC hK (met_X3_divide l D kA (sv 32 a) n (sv 40 V_4) x1 1 x2 1 hDc hu) zwX7_270 hS (zFsub (hD V_4) [32, 33, 34, 35, 36, 37, 38, 39, 40, 41, 42, 43] rfl) hPc (q0 := 0) rfl rfl rfl rfl hl.1 rfl (Nat.le_of_ble_eq_true rfl) ⟨Nat.le_of_ble_eq_true rfl, Nat.le_of_ble_eq_true rfl⟩ ⟨rfl, rfl⟩ ⟨Nat.le_refl _, Nat.le_refl _⟩ dX7_gainOfSplit_63 (fun H locs hP1 hk1 hS => ?_)
      obtain ⟨V_6, eV_6⟩ : ∃ y, y = sw 40 12 V_4 V_5 := ⟨_, rfl⟩
      have hf := nm_at hf eV_6
      have hP : va_P D vwCl (cs_X7 kA a V_6 X pf) H := by rw [eV_6]; exact zjoinC (wb0 := (cs_X3 kA (sv 32 a) (sv 40 V_4))) (wb1 := (cs_X3 kA (sv 32 a) V_5)) hP (hDt V_4) 32 12 [32, 33, 34, 35, 36, 37, 38, 39, 40, 41, 42, 43] rfl rfl rfl rfl hk1 hP1
      refine lv_aload_n hC.1 hC.2.1 dX7_gainOfSplit_66 rfl (lv_at hl 0 rfl) <| gfX7_27 hC hK hP (q0 := 0) rfl rfl dX7_gainOfSplit_67 <| ?_
      obtain ⟨V_7, hu, hf⟩ := bd_some hf
      have hPc : va_P D vwCl (cs_X4 kA (sv 26 a) (sv 31 V_6)) _ := hP.sub [26, 27, 28, 29, 30, 31, 32, 33, 34, 35, 36, 37, 38, 39, 40, 41, 42, 43, 44, 45, 46, 47, 48, 49] rfl
      have hDc : ∀ w : Sz, va_D (fun _ => True) (cs_X4 kA (sv 26 a) w) := fun w => (hDt (sw 31 27 V_6 w)).sub [26, 27, 28, 29, 30, 31, 32, 33, 34, 35, 36, 37, 38, 39, 40, 41, 42, 43, 44, 45, 46, 47, 48, 49] (by decide) rfl
      refine zcVZ (As := []) (rest := []) hC hK (met_X4_settle l D kA (sv 26 a) n (sv 31 V_6) hDc hu) zwX7_72 hS (zFsub (hD V_6) [26, 27, 28, 29, 30, 31, 32, 33, 34, 35, 36, 37, 38, 39, 40, 41, 42, 43, 44, 45, 46, 47, 48, 49] rfl) hPc (q0 := 0) rfl rfl rfl rfl hl.1 rfl (Nat.le_of_ble_eq_true rfl) ⟨Nat.le_of_ble_eq_true rfl, Nat.le_of_ble_eq_true rfl⟩ ⟨rfl, rfl⟩ ⟨Nat.le_refl _, Nat.le_refl _⟩ dX7_gainOfSplit_70 (fun H locs hP1 hk1 hS => ?_)
      obtain ⟨V_8, eV_8⟩ : ∃ y, y = sw 31 27 V_6 V_7 := ⟨_, rfl⟩
      have hf := nm_at hf eV_8
      have hP : va_P D vwCl (cs_X7 kA a V_8 X pf) H := by rw [eV_8]; exact zjoinC (wb0 := (cs_X4 kA (sv 26 a) (sv 31 V_6))) (wb1 := (cs_X4 kA (sv 26 a) V_7)) hP (hDt V_6) 26 24 [26, 27, 28, 29, 30, 31, 32, 33, 34, 35, 36, 37, 38, 39, 40, 41, 42, 43, 44, 45, 46, 47, 48, 49] rfl rfl rfl rfl hk1 hP1
      refine lv_aload_n hC.1 hC.2.1 dX7_gainOfSplit_73 rfl (lv_at hl 0 rfl) <| gfX7_27 hC hK hP (q0 := 0) rfl rfl dX7_gainOfSplit_74 <| ziconst hC.1 hC.2.1 dX7_gainOfSplit_77 <| ?_
      obtain ⟨r_9, hu, hf⟩ := bd_some hf
      have hPc : va_P D vwCl (cs_X4 kA (sv 26 a) (sv 31 V_8)) _ := hP.sub [26, 27, 28, 29, 30, 31, 32, 33, 34, 35, 36, 37, 38, 39, 40, 41, 42, 43, 44, 45, 46, 47, 48, 49] rfl
      refine zcVP (As := [vI 2]) (rest := []) hC hK (met_X4_sumOfAll l D kA (sv 26 a) n (sv 31 V_8) 2 hu) zwX7_306 hPc (q0 := 0) rfl rfl rfl rfl hl.1 rfl (Nat.le_of_ble_eq_true rfl) ⟨Nat.le_of_ble_eq_true rfl, Nat.le_of_ble_eq_true rfl⟩ ⟨rfl, rfl⟩ ⟨Nat.le_refl _, Nat.le_refl _⟩ dX7_gainOfSplit_78 <| lv_aload_n hC.1 hC.2.1 dX7_gainOfSplit_81 rfl (lv_at hl 0 rfl) <| gfX7_23 hC hK hP (q0 := 0) rfl rfl dX7_gainOfSplit_82 <| ziconst hC.1 hC.2.1 dX7_gainOfSplit_85 <| ?_
      obtain ⟨r_10, hu, hf⟩ := bd_some hf
      have hPc : va_P D vwCl (cs_X4 kA (sv 2 a) (sv 4 V_8)) _ := hP.sub [2, 3, 4, 5, 6, 7, 8, 9, 10, 11, 12, 13, 14, 15, 16, 17, 18, 19, 20, 21, 22, 23, 24, 25] rfl
      refine zcVP (As := [vI 2]) (rest := [vI r_9]) hC hK (met_X4_sumOfAll l D kA (sv 2 a) n (sv 4 V_8) 2 hu) zwX7_306 hPc (q0 := 0) rfl rfl rfl rfl hl.1 rfl (Nat.le_of_ble_eq_true rfl) ⟨Nat.le_of_ble_eq_true rfl, Nat.le_of_ble_eq_true rfl⟩ ⟨rfl, rfl⟩ ⟨Nat.le_refl _, Nat.le_refl _⟩ dX7_gainOfSplit_86 <| zisub hC.1 hC.2.1 dX7_gainOfSplit_89 <| ?_
      have hf := Option.some.inj hf
      simp only [Prod.mk.injEq] at hf
      exact hret (Int32.ofInt (r_9 - r_10)) _ _ _ _ (congrArg (fun z => some (vI z)) hf.1.symm) (by rw [← hf.2]; exact hP) hS dX7_gainOfSplit_90
    · have hf := it_f hf hc
      refine ziconst hC.1 hC.2.1 dX7_gainOfSplit_39 <| ?_
      have hf := Option.some.inj hf
      simp only [Prod.mk.injEq] at hf
      exact hret (Int32.ofInt 0) _ _ _ _ (congrArg (fun z => some (vI z)) hf.1.symm) (by rw [← hf.2]; exact hP) hS dX7_gainOfSplit_40
abbrev rxX7_gainOfSplit : Room := { frames := 7, cells := 1, slots := 6, locals := 123 }
set_option maxHeartbeats 1000000 in
set_option maxRecDepth 100000 in
theorem thr_X7_gainOfSplit (l : Launch) (D : va_G) (kA : Nat → ClassId) (a : Nat → Nat) (pf : Nat → Option Nat) (n : Nat) (V0 : Sz) (X : Sz) (x1 : Int) (x2 : Int) {er : Nat} (hf : f_X7_gainOfSplit n V0 X x1 x2 = some (.inr er)) : MX l yX7_gainOfSplit cX7_gainOfSplit 3 (some .int) rxX7_gainOfSplit D kA [.ref (a 0), vI x1, vI x2] (cs_X7 kA a V0 X pf) (zEx er) := by
  refine zXstart (own := RX7) rfl rfl (Nat.le_of_ble_eq_true rfl) ?_
  intro p e s m args below meth c ls hC hK hP hX hl hx hlocks
  have hl : lv_has ls 3 [(0, .ref (a 0)), (1, vI x1), (2, vI x2)] := hl
  unfold f_X7_gainOfSplit at hf
  refine lv_aload_n hC.1 hC.2.1 dX7_gainOfSplit_0 rfl (lv_at hl 0 rfl) <| ziload_n hC.1 hC.2.1 dX7_gainOfSplit_1 rfl (lv_at hl 1 rfl) <| ?_
  rcases bx_inr hf with hu | ⟨u, hu, hf⟩
  · exact zcVX (As := [vI x1]) (rest := []) hC hK hX hx hlocks (thr_X7_needGift l D kA a pf V0 X x1 hu) zwX7_152 hP (q0 := 0) rfl rfl rfl rfl hl.1 rfl (Nat.le_of_ble_eq_true rfl) ⟨Nat.le_of_ble_eq_true rfl, Nat.le_of_ble_eq_true rfl⟩ ⟨rfl, rfl⟩ ⟨Nat.le_of_ble_eq_true rfl, Nat.le_of_ble_eq_true rfl⟩ dX7_gainOfSplit_2
  refine zcVP (As := [vI x1]) (rest := []) hC hK (met_X7_needGift l D kA a pf V0 X x1 hu) zwX7_152 hP (q0 := 0) rfl rfl rfl rfl hl.1 rfl (Nat.le_of_ble_eq_true rfl) ⟨Nat.le_of_ble_eq_true rfl, Nat.le_of_ble_eq_true rfl⟩ ⟨rfl, rfl⟩ ⟨Nat.le_refl _, Nat.le_refl _⟩ dX7_gainOfSplit_2 <| lv_aload_n hC.1 hC.2.1 dX7_gainOfSplit_5 rfl (lv_at hl 0 rfl) <| ziload_n hC.1 hC.2.1 dX7_gainOfSplit_6 rfl (lv_at hl 2 rfl) <| ?_
  rcases bx_inr hf with hu | ⟨u, hu, hf⟩
  · exact zcVX (As := [vI x2]) (rest := []) hC hK hX hx hlocks (thr_X7_needDonor l D kA a pf V0 X x2 hu) zwX7_203 hP (q0 := 0) rfl rfl rfl rfl hl.1 rfl (Nat.le_of_ble_eq_true rfl) ⟨Nat.le_of_ble_eq_true rfl, Nat.le_of_ble_eq_true rfl⟩ ⟨rfl, rfl⟩ ⟨Nat.le_of_ble_eq_true rfl, Nat.le_of_ble_eq_true rfl⟩ dX7_gainOfSplit_7
  exact (bl_inr hf).elim
theorem DX7_sample_0 : ∀ q ∈ ([(0, .iload_n 1, 1), (1, .iconst 1, 1), (2, .bipush 60, 2), (4, .invokestatic 206, 3), (7, .aload_n 0, 1), (8, .getfield 49, 3), (11, .aload_n 0, 1), (12, .getfield 23, 3), (15, .getfield 86, 3), (18, .iload_n 1, 1), (19, .iload_n 2, 1), (20, .invokevirtual 333, 3), (23, .iload_n 3, 1), (24, .ifCond .lt 14, 3), (27, .iload_n 3, 1), (28, .aload_n 0, 1), (29, .getfield 49, 3), (32, .getfield 337, 3), (35, .if_icmp .lt 5, 3), (38, .iconst (-1), 1), (39, .ireturn, 1), (40, .aload_n 0, 1), (41, .getfield 49, 3), (44, .getfield 340, 3), (47, .iload_n 3, 1), (48, .iaload, 1), (49, .ireturn, 1)] : List (Nat × Instr × Nat)), decode cX7_sample q.1 = .ok q.2 := by decide +kernel
theorem dX7_sample_0 : decode cX7_sample 0 = .ok (.iload_n 1, 1) := DX7_sample_0 (0, .iload_n 1, 1) (List.mem_of_getElem? (i := 0) rfl)
theorem dX7_sample_1 : decode cX7_sample 1 = .ok (.iconst 1, 1) := DX7_sample_0 (1, .iconst 1, 1) (List.mem_of_getElem? (i := 1) rfl)
theorem dX7_sample_2 : decode cX7_sample 2 = .ok (.bipush 60, 2) := DX7_sample_0 (2, .bipush 60, 2) (List.mem_of_getElem? (i := 2) rfl)
theorem dX7_sample_4 : decode cX7_sample 4 = .ok (.invokestatic 206, 3) := DX7_sample_0 (4, .invokestatic 206, 3) (List.mem_of_getElem? (i := 3) rfl)
theorem dX7_sample_7 : decode cX7_sample 7 = .ok (.aload_n 0, 1) := DX7_sample_0 (7, .aload_n 0, 1) (List.mem_of_getElem? (i := 4) rfl)
theorem dX7_sample_8 : decode cX7_sample 8 = .ok (.getfield 49, 3) := DX7_sample_0 (8, .getfield 49, 3) (List.mem_of_getElem? (i := 5) rfl)
theorem dX7_sample_11 : decode cX7_sample 11 = .ok (.aload_n 0, 1) := DX7_sample_0 (11, .aload_n 0, 1) (List.mem_of_getElem? (i := 6) rfl)
theorem dX7_sample_12 : decode cX7_sample 12 = .ok (.getfield 23, 3) := DX7_sample_0 (12, .getfield 23, 3) (List.mem_of_getElem? (i := 7) rfl)
theorem dX7_sample_15 : decode cX7_sample 15 = .ok (.getfield 86, 3) := DX7_sample_0 (15, .getfield 86, 3) (List.mem_of_getElem? (i := 8) rfl)
theorem dX7_sample_18 : decode cX7_sample 18 = .ok (.iload_n 1, 1) := DX7_sample_0 (18, .iload_n 1, 1) (List.mem_of_getElem? (i := 9) rfl)
theorem dX7_sample_19 : decode cX7_sample 19 = .ok (.iload_n 2, 1) := DX7_sample_0 (19, .iload_n 2, 1) (List.mem_of_getElem? (i := 10) rfl)
theorem dX7_sample_20 : decode cX7_sample 20 = .ok (.invokevirtual 333, 3) := DX7_sample_0 (20, .invokevirtual 333, 3) (List.mem_of_getElem? (i := 11) rfl)
theorem dX7_sample_23 : decode cX7_sample 23 = .ok (.iload_n 3, 1) := DX7_sample_0 (23, .iload_n 3, 1) (List.mem_of_getElem? (i := 12) rfl)
theorem dX7_sample_24 : decode cX7_sample 24 = .ok (.ifCond .lt 14, 3) := DX7_sample_0 (24, .ifCond .lt 14, 3) (List.mem_of_getElem? (i := 13) rfl)
theorem dX7_sample_27 : decode cX7_sample 27 = .ok (.iload_n 3, 1) := DX7_sample_0 (27, .iload_n 3, 1) (List.mem_of_getElem? (i := 14) rfl)
theorem dX7_sample_28 : decode cX7_sample 28 = .ok (.aload_n 0, 1) := DX7_sample_0 (28, .aload_n 0, 1) (List.mem_of_getElem? (i := 15) rfl)
theorem dX7_sample_29 : decode cX7_sample 29 = .ok (.getfield 49, 3) := DX7_sample_0 (29, .getfield 49, 3) (List.mem_of_getElem? (i := 16) rfl)
theorem dX7_sample_32 : decode cX7_sample 32 = .ok (.getfield 337, 3) := DX7_sample_0 (32, .getfield 337, 3) (List.mem_of_getElem? (i := 17) rfl)
theorem dX7_sample_35 : decode cX7_sample 35 = .ok (.if_icmp .lt 5, 3) := DX7_sample_0 (35, .if_icmp .lt 5, 3) (List.mem_of_getElem? (i := 18) rfl)
theorem dX7_sample_38 : decode cX7_sample 38 = .ok (.iconst (-1), 1) := DX7_sample_0 (38, .iconst (-1), 1) (List.mem_of_getElem? (i := 19) rfl)
theorem dX7_sample_39 : decode cX7_sample 39 = .ok (.ireturn, 1) := DX7_sample_0 (39, .ireturn, 1) (List.mem_of_getElem? (i := 20) rfl)
theorem dX7_sample_40 : decode cX7_sample 40 = .ok (.aload_n 0, 1) := DX7_sample_0 (40, .aload_n 0, 1) (List.mem_of_getElem? (i := 21) rfl)
theorem dX7_sample_41 : decode cX7_sample 41 = .ok (.getfield 49, 3) := DX7_sample_0 (41, .getfield 49, 3) (List.mem_of_getElem? (i := 22) rfl)
theorem dX7_sample_44 : decode cX7_sample 44 = .ok (.getfield 340, 3) := DX7_sample_0 (44, .getfield 340, 3) (List.mem_of_getElem? (i := 23) rfl)
theorem dX7_sample_47 : decode cX7_sample 47 = .ok (.iload_n 3, 1) := DX7_sample_0 (47, .iload_n 3, 1) (List.mem_of_getElem? (i := 24) rfl)
theorem dX7_sample_48 : decode cX7_sample 48 = .ok (.iaload, 1) := DX7_sample_0 (48, .iaload, 1) (List.mem_of_getElem? (i := 25) rfl)
theorem dX7_sample_49 : decode cX7_sample 49 = .ok (.ireturn, 1) := DX7_sample_0 (49, .ireturn, 1) (List.mem_of_getElem? (i := 26) rfl)
abbrev rmX7_sample : Room := { frames := 3, cells := 0, slots := 0, locals := 68 }
set_option maxHeartbeats 1000000 in
set_option maxRecDepth 100000 in
theorem met_X7_sample (l : Launch) (D : va_G) (kA : Nat → ClassId) (a : Nat → Nat) (pf : Nat → Option Nat) (n : Nat) (V0 : Sz) (X : Sz) (x1 : Int) (x2 : Int) (x3 : Int) (hDt : ∀ w : Sz, va_D (fun _ => True) (cs_X7 kA a w X pf)) {r : Int} {Vr : Sz} (hf : f_X7_sample n V0 X x1 x2 x3 = some (.inl (r, Vr))) : MZ l yX7_sample cX7_sample 4 (some .int) rmX7_sample D kA [.ref (a 0), vI x1, vI x2, vI x3] (cs_X7 kA a V0 X pf) (cs_X7 kA a Vr X pf) (some (vI r)) := by
  refine zZI (own := RX7) rfl rfl (Nat.le_of_ble_eq_true rfl) ?_
  intro p e s m args below meth c ls Q hC hK hP hl hret
  have hl : lv_has ls 4 [(0, .ref (a 0)), (1, vI x1), (2, vI x2), (3, vI x3)] := hl
  have hS : va_S (zF (cs_X7 kA a V0 X pf)) s.heap s.heap [] := va_S.rf
  have hD := zDself (C := fun w : Sz => (cs_X7 kA a w X pf)) hDt V0 (fun _ => rfl)
  try dsimp only at hD
  generalize hAe : zF (cs_X7 kA a V0 X pf) = A0 at hS hD hret
  unfold f_X7_sample at hf
  refine ziload_n hC.1 hC.2.1 dX7_sample_0 rfl (lv_at hl 1 rfl) <| ziconst hC.1 hC.2.1 dX7_sample_1 <| zbipush hC.1 hC.2.1 dX7_sample_2 (by decide) <| ?_
  obtain ⟨u, hu, hf⟩ := bx_inl hf
  have hPc : va_P D vwCl ([] : va_W) _ := hP.sub [] rfl
  have hf := bl_inl hf
  refine zcSP (As := [vI x1, vI 1, vI 60]) (rest := []) hC hK (met_X7_needRange l D kA x1 1 60 hu) zwX7_206 hPc rfl hl.1 rfl (Nat.le_of_ble_eq_true rfl) ⟨Nat.le_of_ble_eq_true rfl, Nat.le_of_ble_eq_true rfl⟩ ⟨rfl, rfl⟩ ⟨Nat.le_refl _, Nat.le_refl _⟩ dX7_sample_4 <| lv_aload_n hC.1 hC.2.1 dX7_sample_7 rfl (lv_at hl 0 rfl) <| gfX7_49 hC hK hP (q0 := 0) rfl rfl dX7_sample_8 <| lv_aload_n hC.1 hC.2.1 dX7_sample_11 rfl (lv_at hl 0 rfl) <| gfX7_23 hC hK hP (q0 := 0) rfl rfl dX7_sample_12 <| gfX7_86 hC hK hP (q0 := 2) rfl rfl dX7_sample_15 <| ziload_n hC.1 hC.2.1 dX7_sample_18 rfl (lv_at hl 1 rfl) <| ziload_n hC.1 hC.2.1 dX7_sample_19 rfl (lv_at hl 2 rfl) <| ?_
  obtain ⟨V_1, hu, hf⟩ := bd_some hf
  have hPc : va_P D vwCl (cs_X2 kA (sv 77 a) (sv 95 V0) ++ (cs_X3 kA (sv 8 a) (sv 13 V0))) _ := hP.sub [77, 78, 79, 8, 9, 10, 11, 12, 13, 14, 15, 16, 17, 18, 19] rfl
  have hDc : ∀ w : Sz, va_D (fun _ => True) (cs_X2 kA (sv 77 a) w ++ (cs_X3 kA (sv 8 a) (sv 13 V0))) := fun w => (hDt (sw 95 4 V0 w)).sub [77, 78, 79, 8, 9, 10, 11, 12, 13, 14, 15, 16, 17, 18, 19] (by decide) rfl
  refine zcVZ (As := [.ref (a 8), vI x1, vI x2]) (rest := []) hC hK (met_X2_draw l D kA (sv 77 a) (sv 8 a) n (sv 95 V0) (sv 13 V0) x1 x2 hDc hu) zwX7_333 hS (zFsub (hD V0) [77, 78, 79, 8, 9, 10, 11, 12, 13, 14, 15, 16, 17, 18, 19] rfl) hPc (q0 := 0) rfl rfl rfl rfl hl.1 rfl (Nat.le_of_ble_eq_true rfl) ⟨Nat.le_of_ble_eq_true rfl, Nat.le_of_ble_eq_true rfl⟩ ⟨rfl, rfl⟩ ⟨Nat.le_refl _, Nat.le_refl _⟩ dX7_sample_20 (fun H locs hP1 hk1 hS => ?_)
  obtain ⟨V_2, eV_2⟩ : ∃ y, y = sw 95 4 V0 V_1 := ⟨_, rfl⟩
  have hf := nm_at hf eV_2
  have hP : va_P D vwCl (cs_X7 kA a V_2 X pf) H := by rw [eV_2]; exact zjoin hP (hDt V0) [77, 78, 79, 8, 9, 10, 11, 12, 13, 14, 15, 16, 17, 18, 19] (w0 := (cs_X2 kA (sv 77 a) (sv 95 V0) ++ (cs_X3 kA (sv 8 a) (sv 13 V0)))) rfl (Nat.le_of_ble_eq_true rfl) hk1 hP1
  refine ziload_n hC.1 hC.2.1 dX7_sample_23 rfl (lv_at hl 3 rfl) <| ?_
  obtain ⟨hz_3, hf⟩ := ck_some hf
  refine zif_lt (tgt := 38) hC.1 hC.2.1 hz_3 dX7_sample_24 (by decide) (fun hc => ?_) (fun hc => ?_)
  · have hf := it_t hf hc
    refine ziconst hC.1 hC.2.1 dX7_sample_38 <| ?_
    have hf := Option.some.inj hf
    simp only [Prod.mk.injEq] at hf
    exact hret (Int32.ofInt (-1)) _ _ _ _ (congrArg (fun z => some (vI z)) hf.1.symm) (by rw [← hf.2]; exact hP) hS dX7_sample_39
  · have hf := it_f hf hc
    refine ziload_n hC.1 hC.2.1 dX7_sample_27 rfl (lv_at hl 3 rfl) <| lv_aload_n hC.1 hC.2.1 dX7_sample_28 rfl (lv_at hl 0 rfl) <| gfX7_49 hC hK hP (q0 := 0) rfl rfl dX7_sample_29 <| gfX7_337 hC hK hP (q0 := 77) rfl rfl dX7_sample_32 <| ?_
    obtain ⟨hz_4, hf⟩ := ck_some hf
    refine zicmp_lt (tgt := 40) hC.1 hC.2.1 ⟨hz_3, hz_4⟩ dX7_sample_35 (by decide) (fun hc => ?_) (fun hc => ?_)
    · have hf := it_t hf hc
      refine lv_aload_n hC.1 hC.2.1 dX7_sample_40 rfl (lv_at hl 0 rfl) <| gfX7_49 hC hK hP (q0 := 0) rfl rfl dX7_sample_41 <| gfX7_340 hC hK hP (q0 := 77) rfl rfl dX7_sample_44 <| ziload_n hC.1 hC.2.1 dX7_sample_47 rfl (lv_at hl 3 rfl) <| ?_
      obtain ⟨hz_5, hf⟩ := ck_some hf
      refine jal hC hK hP (q0 := 78) rfl (Nat.le_of_ble_eq_true rfl) hz_5 rfl dX7_sample_48 <| ?_
      have hf := Option.some.inj hf
      simp only [Prod.mk.injEq] at hf
      exact hret (Int32.ofInt (V_2 95 x3.toNat)) _ _ _ _ (congrArg (fun z => some (vI z)) hf.1.symm) (by rw [← hf.2]; exact hP) hS dX7_sample_49
    · have hf := it_f hf hc
      refine ziconst hC.1 hC.2.1 dX7_sample_38 <| ?_
      have hf := Option.some.inj hf
      simp only [Prod.mk.injEq] at hf
      exact hret (Int32.ofInt (-1)) _ _ _ _ (congrArg (fun z => some (vI z)) hf.1.symm) (by rw [← hf.2]; exact hP) hS dX7_sample_39
abbrev rxX7_sample : Room := { frames := 7, cells := 1, slots := 6, locals := 112 }
set_option maxHeartbeats 1000000 in
set_option maxRecDepth 100000 in
theorem thr_X7_sample (l : Launch) (D : va_G) (kA : Nat → ClassId) (a : Nat → Nat) (pf : Nat → Option Nat) (n : Nat) (V0 : Sz) (X : Sz) (x1 : Int) (x2 : Int) (x3 : Int) {er : Nat} (hf : f_X7_sample n V0 X x1 x2 x3 = some (.inr er)) : MX l yX7_sample cX7_sample 4 (some .int) rxX7_sample D kA [.ref (a 0), vI x1, vI x2, vI x3] (cs_X7 kA a V0 X pf) (zEx er) := by
  refine zXstart (own := RX7) rfl rfl (Nat.le_of_ble_eq_true rfl) ?_
  intro p e s m args below meth c ls hC hK hP hX hl hx hlocks
  have hl : lv_has ls 4 [(0, .ref (a 0)), (1, vI x1), (2, vI x2), (3, vI x3)] := hl
  unfold f_X7_sample at hf
  refine ziload_n hC.1 hC.2.1 dX7_sample_0 rfl (lv_at hl 1 rfl) <| ziconst hC.1 hC.2.1 dX7_sample_1 <| zbipush hC.1 hC.2.1 dX7_sample_2 (by decide) <| ?_
  rcases bx_inr hf with hu | ⟨u, hu, hf⟩
  · have hPc : va_P D vwCl ([] : va_W) _ := hP.sub [] rfl; exact zcSX (As := [vI x1, vI 1, vI 60]) (rest := []) hC hK hX hx hlocks (thr_X7_needRange l D kA x1 1 60 hu) zwX7_206 hPc rfl hl.1 rfl (Nat.le_of_ble_eq_true rfl) ⟨Nat.le_of_ble_eq_true rfl, Nat.le_of_ble_eq_true rfl⟩ ⟨rfl, rfl⟩ ⟨Nat.le_of_ble_eq_true rfl, Nat.le_of_ble_eq_true rfl⟩ dX7_sample_4
  have hPc : va_P D vwCl ([] : va_W) _ := hP.sub [] rfl
  exact (bl_inr hf).elim
theorem DX7_wrongIn_0 : ∀ q ∈ ([(0, .iload_n 1, 1), (1, .iconst 1, 1), (2, .bipush 60, 2), (4, .invokestatic 206, 3), (7, .aload_n 0, 1), (8, .getfield 49, 3), (11, .aload_n 0, 1), (12, .getfield 23, 3), (15, .getfield 86, 3), (18, .iload_n 1, 1), (19, .iload_n 2, 1), (20, .invokevirtual 333, 3), (23, .iconst 0, 1), (24, .istore_n 3, 1), (25, .iconst 0, 1), (26, .istore 4, 2), (28, .iload 4, 2), (30, .aload_n 0, 1), (31, .getfield 49, 3), (34, .getfield 337, 3), (37, .if_icmp .ge 32, 3), (40, .aload_n 0, 1), (41, .getfield 23, 3), (44, .aload_n 0, 1), (45, .getfield 49, 3), (48, .getfield 340, 3), (51, .iload 4, 2), (53, .iaload, 1), (54, .invokevirtual 303, 3), (57, .ifCond .le 6, 3), (60, .iinc 3 1, 3), (63, .iinc 4 1, 3), (66, .goto (-38), 3), (69, .iload_n 3, 1), (70, .ireturn, 1)] : List (Nat × Instr × Nat)), decode cX7_wrongIn q.1 = .ok q.2 := by decide +kernel
theorem dX7_wrongIn_0 : decode cX7_wrongIn 0 = .ok (.iload_n 1, 1) := DX7_wrongIn_0 (0, .iload_n 1, 1) (List.mem_of_getElem? (i := 0) rfl)
theorem dX7_wrongIn_1 : decode cX7_wrongIn 1 = .ok (.iconst 1, 1) := DX7_wrongIn_0 (1, .iconst 1, 1) (List.mem_of_getElem? (i := 1) rfl)
theorem dX7_wrongIn_2 : decode cX7_wrongIn 2 = .ok (.bipush 60, 2) := DX7_wrongIn_0 (2, .bipush 60, 2) (List.mem_of_getElem? (i := 2) rfl)
theorem dX7_wrongIn_4 : decode cX7_wrongIn 4 = .ok (.invokestatic 206, 3) := DX7_wrongIn_0 (4, .invokestatic 206, 3) (List.mem_of_getElem? (i := 3) rfl)
theorem dX7_wrongIn_7 : decode cX7_wrongIn 7 = .ok (.aload_n 0, 1) := DX7_wrongIn_0 (7, .aload_n 0, 1) (List.mem_of_getElem? (i := 4) rfl)
theorem dX7_wrongIn_8 : decode cX7_wrongIn 8 = .ok (.getfield 49, 3) := DX7_wrongIn_0 (8, .getfield 49, 3) (List.mem_of_getElem? (i := 5) rfl)
theorem dX7_wrongIn_11 : decode cX7_wrongIn 11 = .ok (.aload_n 0, 1) := DX7_wrongIn_0 (11, .aload_n 0, 1) (List.mem_of_getElem? (i := 6) rfl)
theorem dX7_wrongIn_12 : decode cX7_wrongIn 12 = .ok (.getfield 23, 3) := DX7_wrongIn_0 (12, .getfield 23, 3) (List.mem_of_getElem? (i := 7) rfl)
theorem dX7_wrongIn_15 : decode cX7_wrongIn 15 = .ok (.getfield 86, 3) := DX7_wrongIn_0 (15, .getfield 86, 3) (List.mem_of_getElem? (i := 8) rfl)
theorem dX7_wrongIn_18 : decode cX7_wrongIn 18 = .ok (.iload_n 1, 1) := DX7_wrongIn_0 (18, .iload_n 1, 1) (List.mem_of_getElem? (i := 9) rfl)
theorem dX7_wrongIn_19 : decode cX7_wrongIn 19 = .ok (.iload_n 2, 1) := DX7_wrongIn_0 (19, .iload_n 2, 1) (List.mem_of_getElem? (i := 10) rfl)
theorem dX7_wrongIn_20 : decode cX7_wrongIn 20 = .ok (.invokevirtual 333, 3) := DX7_wrongIn_0 (20, .invokevirtual 333, 3) (List.mem_of_getElem? (i := 11) rfl)
theorem dX7_wrongIn_23 : decode cX7_wrongIn 23 = .ok (.iconst 0, 1) := DX7_wrongIn_0 (23, .iconst 0, 1) (List.mem_of_getElem? (i := 12) rfl)
theorem dX7_wrongIn_24 : decode cX7_wrongIn 24 = .ok (.istore_n 3, 1) := DX7_wrongIn_0 (24, .istore_n 3, 1) (List.mem_of_getElem? (i := 13) rfl)
theorem dX7_wrongIn_25 : decode cX7_wrongIn 25 = .ok (.iconst 0, 1) := DX7_wrongIn_0 (25, .iconst 0, 1) (List.mem_of_getElem? (i := 14) rfl)
theorem dX7_wrongIn_26 : decode cX7_wrongIn 26 = .ok (.istore 4, 2) := DX7_wrongIn_0 (26, .istore 4, 2) (List.mem_of_getElem? (i := 15) rfl)
theorem dX7_wrongIn_28 : decode cX7_wrongIn 28 = .ok (.iload 4, 2) := DX7_wrongIn_0 (28, .iload 4, 2) (List.mem_of_getElem? (i := 16) rfl)
theorem dX7_wrongIn_30 : decode cX7_wrongIn 30 = .ok (.aload_n 0, 1) := DX7_wrongIn_0 (30, .aload_n 0, 1) (List.mem_of_getElem? (i := 17) rfl)
theorem dX7_wrongIn_31 : decode cX7_wrongIn 31 = .ok (.getfield 49, 3) := DX7_wrongIn_0 (31, .getfield 49, 3) (List.mem_of_getElem? (i := 18) rfl)
theorem dX7_wrongIn_34 : decode cX7_wrongIn 34 = .ok (.getfield 337, 3) := DX7_wrongIn_0 (34, .getfield 337, 3) (List.mem_of_getElem? (i := 19) rfl)
theorem dX7_wrongIn_37 : decode cX7_wrongIn 37 = .ok (.if_icmp .ge 32, 3) := DX7_wrongIn_0 (37, .if_icmp .ge 32, 3) (List.mem_of_getElem? (i := 20) rfl)
theorem dX7_wrongIn_40 : decode cX7_wrongIn 40 = .ok (.aload_n 0, 1) := DX7_wrongIn_0 (40, .aload_n 0, 1) (List.mem_of_getElem? (i := 21) rfl)
theorem dX7_wrongIn_41 : decode cX7_wrongIn 41 = .ok (.getfield 23, 3) := DX7_wrongIn_0 (41, .getfield 23, 3) (List.mem_of_getElem? (i := 22) rfl)
theorem dX7_wrongIn_44 : decode cX7_wrongIn 44 = .ok (.aload_n 0, 1) := DX7_wrongIn_0 (44, .aload_n 0, 1) (List.mem_of_getElem? (i := 23) rfl)
theorem dX7_wrongIn_45 : decode cX7_wrongIn 45 = .ok (.getfield 49, 3) := DX7_wrongIn_0 (45, .getfield 49, 3) (List.mem_of_getElem? (i := 24) rfl)
theorem dX7_wrongIn_48 : decode cX7_wrongIn 48 = .ok (.getfield 340, 3) := DX7_wrongIn_0 (48, .getfield 340, 3) (List.mem_of_getElem? (i := 25) rfl)
theorem dX7_wrongIn_51 : decode cX7_wrongIn 51 = .ok (.iload 4, 2) := DX7_wrongIn_0 (51, .iload 4, 2) (List.mem_of_getElem? (i := 26) rfl)
theorem dX7_wrongIn_53 : decode cX7_wrongIn 53 = .ok (.iaload, 1) := DX7_wrongIn_0 (53, .iaload, 1) (List.mem_of_getElem? (i := 27) rfl)
theorem dX7_wrongIn_54 : decode cX7_wrongIn 54 = .ok (.invokevirtual 303, 3) := DX7_wrongIn_0 (54, .invokevirtual 303, 3) (List.mem_of_getElem? (i := 28) rfl)
theorem dX7_wrongIn_57 : decode cX7_wrongIn 57 = .ok (.ifCond .le 6, 3) := DX7_wrongIn_0 (57, .ifCond .le 6, 3) (List.mem_of_getElem? (i := 29) rfl)
theorem dX7_wrongIn_60 : decode cX7_wrongIn 60 = .ok (.iinc 3 1, 3) := DX7_wrongIn_0 (60, .iinc 3 1, 3) (List.mem_of_getElem? (i := 30) rfl)
theorem dX7_wrongIn_63 : decode cX7_wrongIn 63 = .ok (.iinc 4 1, 3) := DX7_wrongIn_0 (63, .iinc 4 1, 3) (List.mem_of_getElem? (i := 31) rfl)
theorem dX7_wrongIn_66 : decode cX7_wrongIn 66 = .ok (.goto (-38), 3) := DX7_wrongIn_0 (66, .goto (-38), 3) (List.mem_of_getElem? (i := 32) rfl)
theorem dX7_wrongIn_69 : decode cX7_wrongIn 69 = .ok (.iload_n 3, 1) := DX7_wrongIn_0 (69, .iload_n 3, 1) (List.mem_of_getElem? (i := 33) rfl)
theorem dX7_wrongIn_70 : decode cX7_wrongIn 70 = .ok (.ireturn, 1) := DX7_wrongIn_0 (70, .ireturn, 1) (List.mem_of_getElem? (i := 34) rfl)
abbrev rmX7_wrongIn : Room := { frames := 3, cells := 0, slots := 0, locals := 81 }
set_option maxHeartbeats 1000000 in
set_option maxRecDepth 100000 in
theorem met_X7_wrongIn (l : Launch) (D : va_G) (kA : Nat → ClassId) (a : Nat → Nat) (pf : Nat → Option Nat) (n : Nat) (V0 : Sz) (X : Sz) (x1 : Int) (x2 : Int) (hDt : ∀ w : Sz, va_D (fun _ => True) (cs_X7 kA a w X pf)) {r : Int} {Vr : Sz} (hf : f_X7_wrongIn n V0 X x1 x2 = some (.inl (r, Vr))) : MZ l yX7_wrongIn cX7_wrongIn 5 (some .int) rmX7_wrongIn D kA [.ref (a 0), vI x1, vI x2] (cs_X7 kA a V0 X pf) (cs_X7 kA a Vr X pf) (some (vI r)) := by
  refine zZI (own := RX7) rfl rfl (Nat.le_of_ble_eq_true rfl) ?_
  intro p e s m args below meth c ls Q hC hK hP hl hret
  have hl : lv_has ls 5 [(0, .ref (a 0)), (1, vI x1), (2, vI x2)] := hl
  have hS : va_S (zF (cs_X7 kA a V0 X pf)) s.heap s.heap [] := va_S.rf
  have hD := zDself (C := fun w : Sz => (cs_X7 kA a w X pf)) hDt V0 (fun _ => rfl)
  try dsimp only at hD
  generalize hAe : zF (cs_X7 kA a V0 X pf) = A0 at hS hD hret
  unfold f_X7_wrongIn at hf
  have L28 : ∀ (k28 : Nat) (y3 : Int) (y4 : Int) (V : Sz) (H : Heap) (locs : List Loc) (ls : Array Slot), lpF (bX7_wrongIn_28 n X x1 x2) k28 (y3, y4, V) = some (r, Vr) → va_P D vwCl (cs_X7 kA a V X pf) H → va_S A0 s.heap H locs → lv_has ls 5 [(0, .ref (a 0)), (3, vI y3), (4, vI y4)] → W p l e rmX7_wrongIn s m args below meth c H locs 0 0 Q (F0 m 28 ls []) := by
    intro k28
    induction k28 with
    | zero => intro y3 y4 V H locs ls hf hP hS hl; exact lp_0 hf
    | succ k28 ih28 =>
      intro y3 y4 V H locs ls hf hP hS hl
      have hf := lp_s hf
      rw [bX7_wrongIn_28_e] at hf
      have J63 : ∀ (y3 : Int) (y4 : Int) (V : Sz) (H : Heap) (locs : List Loc) (ls : Array Slot), jX7_wrongIn_63 n X x1 x2 (lpF (bX7_wrongIn_28 n X x1 x2) k28) y3 y4 V = some (r, Vr) → va_P D vwCl (cs_X7 kA a V X pf) H → va_S A0 s.heap H locs → lv_has ls 5 [(0, .ref (a 0)), (3, vI y3), (4, vI y4)] → W p l e rmX7_wrongIn s m args below meth c H locs 0 0 Q (F0 m 63 ls []) := by
        intro y3 y4 V H locs ls hf hP hS hl
        unfold jX7_wrongIn_63 at hf
        obtain ⟨x_7, ex_7⟩ : ∃ y : Int, y = y4 + 1 := ⟨_, rfl⟩
        have hf := nm_at hf ex_7
        refine ziinc (v := x_7) (lv' := [(4, vI x_7), (0, .ref (a 0)), (3, vI y3)]) hC.1 hC.2.1 dX7_wrongIn_63 hl (k := 2) rfl ex_7 (by decide) rfl (fun ls hl => ?_)
        exact lv_goto (tgt := 28) hC.1 hC.2.1 dX7_wrongIn_66 (by decide) <| ih28 _ _ _ _ _ _ hf hP hS (lv_sub hl [1, 2, 0] rfl)
      refine ziload hC.1 hC.2.1 dX7_wrongIn_28 (lv_at hl 2 rfl) <| lv_aload_n hC.1 hC.2.1 dX7_wrongIn_30 rfl (lv_at hl 0 rfl) <| gfX7_49 hC hK hP (q0 := 0) rfl rfl dX7_wrongIn_31 <| gfX7_337 hC hK hP (q0 := 77) rfl rfl dX7_wrongIn_34 <| ?_
      obtain ⟨hz_3, hf⟩ := ck_some hf
      refine zicmp_ge (tgt := 69) hC.1 hC.2.1 ⟨hz_3.1, hz_3.2⟩ dX7_wrongIn_37 (by decide) (fun hc => ?_) (fun hc => ?_)
      · have hf := it_t hf hc
        refine ziload_n hC.1 hC.2.1 dX7_wrongIn_69 rfl (lv_at hl 1 rfl) <| ?_
        have hf := Option.some.inj hf
        simp only [Prod.mk.injEq] at hf
        exact hret (Int32.ofInt y3) _ _ _ _ (congrArg (fun z => some (vI z)) hf.1.symm) (by rw [← hf.2]; exact hP) hS dX7_wrongIn_70
      · have hf := it_f hf hc
        refine lv_aload_n hC.1 hC.2.1 dX7_wrongIn_40 rfl (lv_at hl 0 rfl) <| gfX7_23 hC hK hP (q0 := 0) rfl rfl dX7_wrongIn_41 <| lv_aload_n hC.1 hC.2.1 dX7_wrongIn_44 rfl (lv_at hl 0 rfl) <| gfX7_49 hC hK hP (q0 := 0) rfl rfl dX7_wrongIn_45 <| gfX7_340 hC hK hP (q0 := 77) rfl rfl dX7_wrongIn_48 <| ziload hC.1 hC.2.1 dX7_wrongIn_51 (lv_at hl 2 rfl) <| ?_
        obtain ⟨hz_4, hf⟩ := ck_some hf
        refine jal hC hK hP (q0 := 78) rfl (Nat.le_of_ble_eq_true rfl) hz_4 rfl dX7_wrongIn_53 <| ?_
        obtain ⟨r_5, hu, hf⟩ := bd_some hf
        have hPc : va_P D vwCl (cs_X4 kA (sv 2 a) (sv 4 V)) _ := hP.sub [2, 3, 4, 5, 6, 7, 8, 9, 10, 11, 12, 13, 14, 15, 16, 17, 18, 19, 20, 21, 22, 23, 24, 25] rfl
        refine zcVP (As := [vI (V 95 y4.toNat)]) (rest := []) hC hK (met_X4_tooMuch l D kA (sv 2 a) (sv 4 V) (V 95 y4.toNat) hu) zwX7_303 hPc (q0 := 0) rfl rfl rfl rfl hl.1 rfl (Nat.le_of_ble_eq_true rfl) ⟨Nat.le_of_ble_eq_true rfl, Nat.le_of_ble_eq_true rfl⟩ ⟨rfl, rfl⟩ ⟨Nat.le_refl _, Nat.le_refl _⟩ dX7_wrongIn_54 <| ?_
        obtain ⟨hz_6, hf⟩ := ck_some hf
        refine zif_le (tgt := 63) hC.1 hC.2.1 hz_6 dX7_wrongIn_57 (by decide) (fun hc => ?_) (fun hc => ?_)
        · have hf := it_t hf hc
          exact J63 _ _ _ _ _ _ hf hP hS (lv_sub hl [0, 1, 2] rfl)
        · have hf := it_f hf hc
          obtain ⟨x_8, ex_8⟩ : ∃ y : Int, y = y3 + 1 := ⟨_, rfl⟩
          have hf := nm_at hf ex_8
          refine ziinc (v := x_8) (lv' := [(3, vI x_8), (0, .ref (a 0)), (4, vI y4)]) hC.1 hC.2.1 dX7_wrongIn_60 hl (k := 1) rfl ex_8 (by decide) rfl (fun ls hl => ?_)
          exact J63 _ _ _ _ _ _ hf hP hS (lv_sub hl [1, 0, 2] rfl)
  refine ziload_n hC.1 hC.2.1 dX7_wrongIn_0 rfl (lv_at hl 1 rfl) <| ziconst hC.1 hC.2.1 dX7_wrongIn_1 <| zbipush hC.1 hC.2.1 dX7_wrongIn_2 (by decide) <| ?_
  obtain ⟨u, hu, hf⟩ := bx_inl hf
  have hPc : va_P D vwCl ([] : va_W) _ := hP.sub [] rfl
  have hf := bl_inl hf
  refine zcSP (As := [vI x1, vI 1, vI 60]) (rest := []) hC hK (met_X7_needRange l D kA x1 1 60 hu) zwX7_206 hPc rfl hl.1 rfl (Nat.le_of_ble_eq_true rfl) ⟨Nat.le_of_ble_eq_true rfl, Nat.le_of_ble_eq_true rfl⟩ ⟨rfl, rfl⟩ ⟨Nat.le_refl _, Nat.le_refl _⟩ dX7_wrongIn_4 <| lv_aload_n hC.1 hC.2.1 dX7_wrongIn_7 rfl (lv_at hl 0 rfl) <| gfX7_49 hC hK hP (q0 := 0) rfl rfl dX7_wrongIn_8 <| lv_aload_n hC.1 hC.2.1 dX7_wrongIn_11 rfl (lv_at hl 0 rfl) <| gfX7_23 hC hK hP (q0 := 0) rfl rfl dX7_wrongIn_12 <| gfX7_86 hC hK hP (q0 := 2) rfl rfl dX7_wrongIn_15 <| ziload_n hC.1 hC.2.1 dX7_wrongIn_18 rfl (lv_at hl 1 rfl) <| ziload_n hC.1 hC.2.1 dX7_wrongIn_19 rfl (lv_at hl 2 rfl) <| ?_
  obtain ⟨V_1, hu, hf⟩ := bd_some hf
  have hPc : va_P D vwCl (cs_X2 kA (sv 77 a) (sv 95 V0) ++ (cs_X3 kA (sv 8 a) (sv 13 V0))) _ := hP.sub [77, 78, 79, 8, 9, 10, 11, 12, 13, 14, 15, 16, 17, 18, 19] rfl
  have hDc : ∀ w : Sz, va_D (fun _ => True) (cs_X2 kA (sv 77 a) w ++ (cs_X3 kA (sv 8 a) (sv 13 V0))) := fun w => (hDt (sw 95 4 V0 w)).sub [77, 78, 79, 8, 9, 10, 11, 12, 13, 14, 15, 16, 17, 18, 19] (by decide) rfl
  refine zcVZ (As := [.ref (a 8), vI x1, vI x2]) (rest := []) hC hK (met_X2_draw l D kA (sv 77 a) (sv 8 a) n (sv 95 V0) (sv 13 V0) x1 x2 hDc hu) zwX7_333 hS (zFsub (hD V0) [77, 78, 79, 8, 9, 10, 11, 12, 13, 14, 15, 16, 17, 18, 19] rfl) hPc (q0 := 0) rfl rfl rfl rfl hl.1 rfl (Nat.le_of_ble_eq_true rfl) ⟨Nat.le_of_ble_eq_true rfl, Nat.le_of_ble_eq_true rfl⟩ ⟨rfl, rfl⟩ ⟨Nat.le_refl _, Nat.le_refl _⟩ dX7_wrongIn_20 (fun H locs hP1 hk1 hS => ?_)
  obtain ⟨V_2, eV_2⟩ : ∃ y, y = sw 95 4 V0 V_1 := ⟨_, rfl⟩
  have hf := nm_at hf eV_2
  have hP : va_P D vwCl (cs_X7 kA a V_2 X pf) H := by rw [eV_2]; exact zjoin hP (hDt V0) [77, 78, 79, 8, 9, 10, 11, 12, 13, 14, 15, 16, 17, 18, 19] (w0 := (cs_X2 kA (sv 77 a) (sv 95 V0) ++ (cs_X3 kA (sv 8 a) (sv 13 V0)))) rfl (Nat.le_of_ble_eq_true rfl) hk1 hP1
  refine ziconst hC.1 hC.2.1 dX7_wrongIn_23 <| zistore_n (lv' := [(3, vI 0), (0, .ref (a 0)), (1, vI x1), (2, vI x2)]) hC.1 hC.2.1 dX7_wrongIn_24 rfl hl (by decide) rfl (fun ls hl => ?_)
  refine ziconst hC.1 hC.2.1 dX7_wrongIn_25 <| zistore (lv' := [(4, vI 0), (3, vI 0), (0, .ref (a 0)), (1, vI x1), (2, vI x2)]) hC.1 hC.2.1 dX7_wrongIn_26 hl (by decide) rfl (fun ls hl => ?_)
  exact L28 n _ _ _ _ _ _ hf hP hS (lv_sub hl [2, 1, 0] rfl)
abbrev rxX7_wrongIn : Room := { frames := 7, cells := 1, slots := 6, locals := 112 }
set_option maxHeartbeats 1000000 in
set_option maxRecDepth 100000 in
theorem thr_X7_wrongIn (l : Launch) (D : va_G) (kA : Nat → ClassId) (a : Nat → Nat) (pf : Nat → Option Nat) (n : Nat) (V0 : Sz) (X : Sz) (x1 : Int) (x2 : Int) {er : Nat} (hf : f_X7_wrongIn n V0 X x1 x2 = some (.inr er)) : MX l yX7_wrongIn cX7_wrongIn 5 (some .int) rxX7_wrongIn D kA [.ref (a 0), vI x1, vI x2] (cs_X7 kA a V0 X pf) (zEx er) := by
  refine zXstart (own := RX7) rfl rfl (Nat.le_of_ble_eq_true rfl) ?_
  intro p e s m args below meth c ls hC hK hP hX hl hx hlocks
  have hl : lv_has ls 5 [(0, .ref (a 0)), (1, vI x1), (2, vI x2)] := hl
  unfold f_X7_wrongIn at hf
  refine ziload_n hC.1 hC.2.1 dX7_wrongIn_0 rfl (lv_at hl 1 rfl) <| ziconst hC.1 hC.2.1 dX7_wrongIn_1 <| zbipush hC.1 hC.2.1 dX7_wrongIn_2 (by decide) <| ?_
  rcases bx_inr hf with hu | ⟨u, hu, hf⟩
  · have hPc : va_P D vwCl ([] : va_W) _ := hP.sub [] rfl; exact zcSX (As := [vI x1, vI 1, vI 60]) (rest := []) hC hK hX hx hlocks (thr_X7_needRange l D kA x1 1 60 hu) zwX7_206 hPc rfl hl.1 rfl (Nat.le_of_ble_eq_true rfl) ⟨Nat.le_of_ble_eq_true rfl, Nat.le_of_ble_eq_true rfl⟩ ⟨rfl, rfl⟩ ⟨Nat.le_of_ble_eq_true rfl, Nat.le_of_ble_eq_true rfl⟩ dX7_wrongIn_4
  have hPc : va_P D vwCl ([] : va_W) _ := hP.sub [] rfl
  exact (bl_inr hf).elim
