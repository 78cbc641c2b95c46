/-! what is known at the entry of the law -/
theorem arr_of {args : Array Value} {s : State} {ty : FieldType} (h : (Cond.arrayClass ty).before args s = true) : ∃ cA : ClassId, ArrOfT s cA ty ∧ s.vm.findClass ("[" ++ ty.toString) = some cA := by
  obtain ⟨cA, kA, comp, h1, h2, h3⟩ := Cond.arrayClass_spec h
  exact ⟨cA, fun n z => ⟨fun k h => (by cases h), kA, h2, comp, h3⟩, h1⟩
theorem arr_ofq {args : Array Value} {s : State} {C : String} (h : (Cond.arrayOver (.object C)).before args s = true) : ∃ cA : ClassId, ArrOfT s cA (.object C) ∧ va_RA s cA (.object C) := by
  obtain ⟨comp, cA, kA, h1, h2, h3, h4, h5⟩ := Cond.arrayOver_spec h
  exact ⟨cA, fun n z => ⟨fun k h => (by cases h), kA, h3, comp, h4⟩, kA, comp, h3, h4, h1, h5⟩
theorem kn_N0 : Cond.methodLinkNest "AidRegister$Ledger" 17 yX1_init "AidRegister" ∈ lw_tbl := List.mem_append_right _ (List.mem_of_getElem? (i := 39) (by decide +kernel))
theorem kn_N1 : Cond.methodLinkNest "AidRegister$Ledger" 24 yX3_init "AidRegister" ∈ lw_tbl := List.mem_append_right _ (List.mem_of_getElem? (i := 65) (by decide +kernel))
theorem kn_N2 : Cond.methodLinkNest "AidRegister$Ledger" 31 yX0_init "AidRegister" ∈ lw_tbl := List.mem_append_right _ (List.mem_of_getElem? (i := 126) (by decide +kernel))
theorem kn_N3 : Cond.methodLinkNest "AidRegister" 48 yX2_init "AidRegister" ∈ lw_tbl := List.mem_append_right _ (List.mem_of_getElem? (i := 243) (by decide +kernel))
theorem kn_N4 : Cond.methodLinkNest "AidRegister" 55 yX5_init "AidRegister" ∈ lw_tbl := List.mem_append_right _ (List.mem_of_getElem? (i := 264) (by decide +kernel))
theorem kn_N5 : Cond.methodLinkNest "AidRegister$Ledger" 64 yX7_copyRow "AidRegister" ∈ lw_tbl := List.mem_append_right _ (List.mem_of_getElem? (i := 489) (by decide +kernel))
theorem kn_N6 : Cond.methodLinkNest "AidRegister$Declarations" 25 yX7_copyRow "AidRegister" ∈ lw_tbl := List.mem_append_right _ (List.mem_of_getElem? (i := 500) (by decide +kernel))
theorem kn_N7 : Cond.methodLinkNest "AidRegister$Gifts" 49 yX7_copyRow "AidRegister" ∈ lw_tbl := List.mem_append_right _ (List.mem_of_getElem? (i := 505) (by decide +kernel))
theorem kn_N8 : Cond.methodLinkNest "AidRegister$Claims" 19 yX7_copyRow "AidRegister" ∈ lw_tbl := List.mem_append_right _ (List.mem_of_getElem? (i := 510) (by decide +kernel))
theorem known_N {args : Array Value} {s : State} (hts : ∀ w ∈ lw_tbl, w.before args s = true) : zN s := by
  intro q hq
  rcases List.mem_cons.mp hq with rfl | hq
  · exact va_tabs rfl (rfl : s.vm = s.vm) (hts _ kn_N0)
  rcases List.mem_cons.mp hq with rfl | hq
  · exact va_tabs rfl (rfl : s.vm = s.vm) (hts _ kn_N1)
  rcases List.mem_cons.mp hq with rfl | hq
  · exact va_tabs rfl (rfl : s.vm = s.vm) (hts _ kn_N2)
  rcases List.mem_cons.mp hq with rfl | hq
  · exact va_tabs rfl (rfl : s.vm = s.vm) (hts _ kn_N3)
  rcases List.mem_cons.mp hq with rfl | hq
  · exact va_tabs rfl (rfl : s.vm = s.vm) (hts _ kn_N4)
  rcases List.mem_cons.mp hq with rfl | hq
  · exact va_tabs rfl (rfl : s.vm = s.vm) (hts _ kn_N5)
  rcases List.mem_cons.mp hq with rfl | hq
  · exact va_tabs rfl (rfl : s.vm = s.vm) (hts _ kn_N6)
  rcases List.mem_cons.mp hq with rfl | hq
  · exact va_tabs rfl (rfl : s.vm = s.vm) (hts _ kn_N7)
  rcases List.mem_cons.mp hq with rfl | hq
  · exact va_tabs rfl (rfl : s.vm = s.vm) (hts _ kn_N8)
  cases hq
theorem kn_AO : Cond.arrayOver (.object "AidRegister$Ledger") ∈ lw_tbl := List.mem_append_right _ (List.mem_of_getElem? (i := 197) (by decide +kernel))
theorem known_K {args : Array Value} {s : State} (hts0 : ∀ w ∈ lw_tbl, w.before args s = true) : ∃ (D : va_G) (kA : Nat → ClassId), zK D kA s := by
  have hts : ∀ w ∈ lw_all, w.before args s = true := fun w h => hts0 w (lw_all_tbl h)
  obtain ⟨c0, iS0, k0⟩ := u_known (C := RX0) (T := TX0) (N := 2) hts uin_X0 (hts _ qw_125)
  obtain ⟨c1, iS1, k1⟩ := u_known (C := RX1) (T := TX1) (N := 4) hts uin_X1 (hts _ qw_38)
  obtain ⟨c2, iS2, k2⟩ := u_known (C := RX2) (T := TX2) (N := 4) hts uin_X2 (hts _ qw_242)
  obtain ⟨c3, iS3, k3⟩ := u_known (C := RX3) (T := TX3) (N := 12) hts uin_X3 (hts _ qw_64)
  obtain ⟨c4, iS4, k4⟩ := u_known (C := RX4) (T := TX4) (N := 12) hts uin_X4 (hts _ qw_32)
  obtain ⟨c5, iS5, k5⟩ := u_known (C := RX5) (T := TX5) (N := 2) hts uin_X5 (hts _ qw_263)
  obtain ⟨c6, iS6, k6⟩ := u_known (C := RX6) (T := TX6) (N := 11) hts uin_X6 (hts _ qw_199)
  obtain ⟨c7, iS7, k7⟩ := u_known (C := RX7) (T := TX7) (N := 14) hts uin_X7 (hts _ qw_24)
  obtain ⟨c8, iS8, k8⟩ := u_known (C := RX8) (T := TX8) (N := 32) hts uin_X8 (hts _ qw_1196)
  obtain ⟨a0, x0, y0⟩ := arr_of (hts _ qw_62)
  obtain ⟨a1, x1, y1⟩ := arr_of (hts _ qw_61)
  obtain ⟨a2, x2, y2⟩ := arr_of (hts _ qw_240)
  obtain ⟨a4, x4, y4⟩ := arr_of (hts _ qw_1841)
  obtain ⟨a3, x3, y3⟩ := arr_ofq (hts0 _ kn_AO)
  refine ⟨(fun k => match k with | 0 => c0 | 1 => c1 | 2 => c2 | 3 => c3 | 4 => c4 | 5 => c5 | 6 => c6 | 7 => c7 | _ => c8, fun k => match k with | 0 => iS0 | 1 => iS1 | 2 => iS2 | 3 => iS3 | 4 => iS4 | 5 => iS5 | 6 => iS6 | 7 => iS7 | _ => iS8), fun k => match k with | 0 => a0 | 1 => a1 | 2 => a2 | 3 => a3 | _ => a4, ⟨fun k q hq => ?_, fun k q hq => ?_⟩, known_N hts0⟩
  · match k, hq with
    | 0, hq => cases hq; exact k0
    | 1, hq => cases hq; exact k1
    | 2, hq => cases hq; exact k2
    | 3, hq => cases hq; exact k3
    | 4, hq => cases hq; exact k4
    | 5, hq => cases hq; exact k5
    | 6, hq => cases hq; exact k6
    | 7, hq => cases hq; exact k7
    | 8, hq => cases hq; exact k8
    | k + 9, hq => simp [vwCl] at hq
  · match k, hq with
    | 0, hq => cases hq; exact ⟨x0, y0⟩
    | 1, hq => cases hq; exact ⟨x1, y1⟩
    | 2, hq => cases hq; exact ⟨x2, y2⟩
    | 3, hq => cases hq; exact ⟨x3, y3⟩
    | 4, hq => cases hq; exact ⟨x4, y4⟩
    | k + 5, hq => simp [zT] at hq
abbrev nwF : List Cond := flatC (Jvm.Cond.and given_1 narrow_1)
theorem kn_B0 : Cond.castable (zEx 0) (zEx 0) ∈ lw_tbl := List.mem_append_right _ (List.mem_of_getElem? (i := 733) (by decide +kernel))
theorem kn_B1 : Cond.castable (zEx 1) (zEx 1) ∈ lw_tbl := List.mem_append_right _ (List.mem_of_getElem? (i := 654) (by decide +kernel))
theorem kn_B2 : Cond.castable (zEx 2) (zEx 2) ∈ lw_tbl := List.mem_append_right _ (List.mem_of_getElem? (i := 883) (by decide +kernel))
theorem kn_B3 : Cond.declares (Bundle.initS "java/lang/RuntimeException") ∈ lw_tbl := List.mem_append_right _ (List.mem_of_getElem? (i := 656) (by decide +kernel))
theorem kn_B4 : Cond.declares (Bundle.initS "java/lang/Exception") ∈ lw_tbl := List.mem_append_right _ (List.mem_of_getElem? (i := 658) (by decide +kernel))
theorem kn_B5 : Cond.declares (Bundle.initS Bundle.tN) ∈ lw_tbl := List.mem_append_right _ (List.mem_of_getElem? (i := 660) (by decide +kernel))
theorem kn_T0 : Cond.stringRef "AidRegister" 130 "what is out of range" ∈ lw_tbl := List.mem_append_right _ (List.mem_of_getElem? (i := 693) (by decide +kernel))
theorem kn_T1 : Cond.stringRef "AidRegister" 240 "there are 30 declarations" ∈ lw_tbl := List.mem_append_right _ (List.mem_of_getElem? (i := 890) (by decide +kernel))
theorem kn_T2 : Cond.stringRef "AidRegister" 254 "there are 60 gifts" ∈ lw_tbl := List.mem_append_right _ (List.mem_of_getElem? (i := 922) (by decide +kernel))
theorem kn_T3 : Cond.stringRef "AidRegister" 263 "the other donor is the donor of the gift" ∈ lw_tbl := List.mem_append_right _ (List.mem_of_getElem? (i := 936) (by decide +kernel))
theorem kn_T4 : Cond.stringRef "AidRegister" 268 "the gift cannot be split" ∈ lw_tbl := List.mem_append_right _ (List.mem_of_getElem? (i := 941) (by decide +kernel))
theorem kn_T5 : Cond.stringRef "AidRegister" 274 "less is left of the gift" ∈ lw_tbl := List.mem_append_right _ (List.mem_of_getElem? (i := 954) (by decide +kernel))
theorem kn_T6 : Cond.stringRef "AidRegister" 283 "no claim can be made on the day" ∈ lw_tbl := List.mem_append_right _ (List.mem_of_getElem? (i := 990) (by decide +kernel))
theorem kn_T7 : Cond.stringRef "AidRegister" 290 "there is no such claim" ∈ lw_tbl := List.mem_append_right _ (List.mem_of_getElem? (i := 1019) (by decide +kernel))
theorem kn_T8 : Cond.stringRef "AidRegister" 373 "no state is saved" ∈ lw_tbl := List.mem_append_right _ (List.mem_of_getElem? (i := 1194) (by decide +kernel))
theorem kn_T9 : Cond.stringRef "AidRegister" 380 "there is no such donor" ∈ lw_tbl := List.mem_append_right _ (List.mem_of_getElem? (i := 806) (by decide +kernel))
theorem kn_T10 : Cond.stringRef "AidRegister" 382 "there is no such declaration" ∈ lw_tbl := List.mem_append_right _ (List.mem_of_getElem? (i := 740) (by decide +kernel))
theorem kn_T11 : Cond.stringRef "AidRegister" 384 "there is no such gift" ∈ lw_tbl := List.mem_append_right _ (List.mem_of_getElem? (i := 763) (by decide +kernel))
theorem kn_T12 : Cond.stringRef "AidRegister" 386 "there is no such part" ∈ lw_tbl := List.mem_append_right _ (List.mem_of_getElem? (i := 778) (by decide +kernel))
theorem kn_T13 : Cond.stringRef "AidRegister" 388 "a value is out of range" ∈ lw_tbl := List.mem_append_right _ (List.mem_of_getElem? (i := 810) (by decide +kernel))
theorem kn_E : ∀ k ∈ ([130, 240, 254, 263, 268, 274, 283, 290, 373, 380, 382, 384, 386, 388] : List Nat), Cond.exactly (Term.string "AidRegister" k) "java/lang/String" ∈ nwF := by decide +kernel
theorem kn_S1 : Cond.isRef (.static Bundle.tN "UNASSIGNED_STACK" Bundle.steD) ∈ nwF := by decide +kernel
theorem kn_S2 : Cond.isRef (.static Bundle.tN "SUPPRESSED_SENTINEL" Bundle.listD) ∈ nwF := by decide +kernel
theorem kn_L1 : Cond.laysStatic Bundle.tN "UNASSIGNED_STACK" Bundle.steD ∈ lw_tbl := List.mem_append_right _ (List.mem_of_getElem? (i := 679) (by decide +kernel))
theorem kn_L2 : Cond.laysStatic Bundle.tN "SUPPRESSED_SENTINEL" Bundle.listD ∈ lw_tbl := List.mem_append_right _ (List.mem_of_getElem? (i := 681) (by decide +kernel))
theorem kn_I1 : Cond.initialized "java/lang/Throwable" ∈ lw_tbl := List.mem_append_right _ (List.mem_of_getElem? (i := 17) (by decide +kernel))
theorem kn_I2 : Cond.initialized "java/lang/String" ∈ lw_tbl := List.mem_append_right _ (List.mem_of_getElem? (i := 13) (by decide +kernel))
theorem kn_I3 : Cond.initialized "jdk/internal/util/Preconditions" ∈ lw_tbl := List.mem_append_right _ (List.mem_of_getElem? (i := 15) (by decide +kernel))
theorem known_T {args : Array Value} {s : State} (hts : ∀ w ∈ lw_tbl, w.before args s = true) (hnw : ∀ w ∈ nwF, w.before args s = true) : zTxs s := by
  have ex : ∀ k ∈ ([130, 240, 254, 263, 268, 274, 283, 290, 373, 380, 382, 384, 386, 388] : List Nat), ∃ a : Nat, (Term.string "AidRegister" k).eval args s none [] s = some (.ref a) := fun k hk => by
    obtain ⟨a, c, cA, kA, q1, -⟩ := Cond.exactly_spec (hnw _ (kn_E k hk))
    exact ⟨a, q1⟩
  refine ⟨fun q hq => ?_, fun w hw => ?_⟩
  · rcases List.mem_cons.mp hq with rfl | hq
    · exact (ex 130 (List.mem_of_getElem? (i := 0) rfl)).elim fun a ha => ⟨a, vk_R.of (hts _ kn_T0) ha⟩
    rcases List.mem_cons.mp hq with rfl | hq
    · exact (ex 240 (List.mem_of_getElem? (i := 1) rfl)).elim fun a ha => ⟨a, vk_R.of (hts _ kn_T1) ha⟩
    rcases List.mem_cons.mp hq with rfl | hq
    · exact (ex 254 (List.mem_of_getElem? (i := 2) rfl)).elim fun a ha => ⟨a, vk_R.of (hts _ kn_T2) ha⟩
    rcases List.mem_cons.mp hq with rfl | hq
    · exact (ex 263 (List.mem_of_getElem? (i := 3) rfl)).elim fun a ha => ⟨a, vk_R.of (hts _ kn_T3) ha⟩
    rcases List.mem_cons.mp hq with rfl | hq
    · exact (ex 268 (List.mem_of_getElem? (i := 4) rfl)).elim fun a ha => ⟨a, vk_R.of (hts _ kn_T4) ha⟩
    rcases List.mem_cons.mp hq with rfl | hq
    · exact (ex 274 (List.mem_of_getElem? (i := 5) rfl)).elim fun a ha => ⟨a, vk_R.of (hts _ kn_T5) ha⟩
    rcases List.mem_cons.mp hq with rfl | hq
    · exact (ex 283 (List.mem_of_getElem? (i := 6) rfl)).elim fun a ha => ⟨a, vk_R.of (hts _ kn_T6) ha⟩
    rcases List.mem_cons.mp hq with rfl | hq
    · exact (ex 290 (List.mem_of_getElem? (i := 7) rfl)).elim fun a ha => ⟨a, vk_R.of (hts _ kn_T7) ha⟩
    rcases List.mem_cons.mp hq with rfl | hq
    · exact (ex 373 (List.mem_of_getElem? (i := 8) rfl)).elim fun a ha => ⟨a, vk_R.of (hts _ kn_T8) ha⟩
    rcases List.mem_cons.mp hq with rfl | hq
    · exact (ex 380 (List.mem_of_getElem? (i := 9) rfl)).elim fun a ha => ⟨a, vk_R.of (hts _ kn_T9) ha⟩
    rcases List.mem_cons.mp hq with rfl | hq
    · exact (ex 382 (List.mem_of_getElem? (i := 10) rfl)).elim fun a ha => ⟨a, vk_R.of (hts _ kn_T10) ha⟩
    rcases List.mem_cons.mp hq with rfl | hq
    · exact (ex 384 (List.mem_of_getElem? (i := 11) rfl)).elim fun a ha => ⟨a, vk_R.of (hts _ kn_T11) ha⟩
    rcases List.mem_cons.mp hq with rfl | hq
    · exact (ex 386 (List.mem_of_getElem? (i := 12) rfl)).elim fun a ha => ⟨a, vk_R.of (hts _ kn_T12) ha⟩
    rcases List.mem_cons.mp hq with rfl | hq
    · exact (ex 388 (List.mem_of_getElem? (i := 13) rfl)).elim fun a ha => ⟨a, vk_R.of (hts _ kn_T13) ha⟩
    cases hq
  · rcases List.mem_cons.mp hw with rfl | hw
    · exact va_tabs rfl (rfl : s.vm = s.vm) (hts _ kn_B0)
    rcases List.mem_cons.mp hw with rfl | hw
    · exact va_tabs rfl (rfl : s.vm = s.vm) (hts _ kn_B1)
    rcases List.mem_cons.mp hw with rfl | hw
    · exact va_tabs rfl (rfl : s.vm = s.vm) (hts _ kn_B2)
    rcases List.mem_cons.mp hw with rfl | hw
    · exact va_tabs rfl (rfl : s.vm = s.vm) (hts _ kn_B3)
    rcases List.mem_cons.mp hw with rfl | hw
    · exact va_tabs rfl (rfl : s.vm = s.vm) (hts _ kn_B4)
    rcases List.mem_cons.mp hw with rfl | hw
    · exact va_tabs rfl (rfl : s.vm = s.vm) (hts _ kn_B5)
    cases hw
theorem known_X {l : Launch} (hflags : l.flags = flags0) {args : Array Value} {s : State} (hts : ∀ w ∈ lw_tbl, w.before args s = true) (hnw : ∀ w ∈ nwF, w.before args s = true) : zX l s := by
  refine ⟨?_, ⟨vx_Zqof (hts _ kn_L1) (hts _ kn_I1) (hnw _ kn_S1) (fun a h => Nat.not_le.mpr h), vx_Zqof (hts _ kn_L2) (hts _ kn_I1) (hnw _ kn_S2) (fun a h => Nat.not_le.mpr h)⟩, known_T hts hnw⟩
  unfold Launch.stackTraces
  rw [hflags]
  decide +kernel
theorem kn_C : ∀ q ∈ zNp, Cond.not (Cond.castable q.1 q.2) ∈ nwF := by decide +kernel
theorem known_Nc {args : Array Value} {s : State} (hnw : ∀ w ∈ nwF, w.before args s = true) : zNcs s := fun q hq => va_Nc.of (hnw _ (kn_C q hq))
def zTm (i : Nat) : Term := Term.string "AidRegisterModel" (zIx.getD i 0)
theorem kn_Z1 : ∀ i : Nat, i < 6 → zLn.getD i 0 < 2 ^ 31 := by decide
theorem kn_Z2 : ∀ i : Nat, i < 6 → Cond.exactly (zTm i) "java/lang/String" ∈ nwF := by decide +kernel
theorem kn_Z3 : ∀ i : Nat, i < 6 → Cond.eq (.field (zTm i) "java/lang/String" "coder" "B") (.int 0) ∈ nwF := by decide +kernel
theorem kn_Z4 : ∀ i : Nat, i < 6 → Cond.arrayOf (.field (zTm i) "java/lang/String" "value" "[B") .byte ∈ nwF := by decide +kernel
theorem kn_Z5 : ∀ i : Nat, i < 6 → Cond.eq (.length (.field (zTm i) "java/lang/String" "value" "[B")) (.int (Int32.ofNat (zLn.getD i 0))) ∈ nwF := by decide +kernel
theorem kn_Z6 : ∀ i : Nat, i < 6 → ∀ j : Nat, j < zLn.getD i 0 → Cond.eq (.elem (.field (zTm i) "java/lang/String" "value" "[B") (.int (Int32.ofNat j))) (.int ((zBy.getD i []).getD j 0)) ∈ nwF := by decide +kernel
theorem kn_Z7 : ∀ i : Nat, i < 6 → ∀ j : Nat, j < 6 → i ≠ j → Cond.not (Cond.eq (zTm i) (zTm j)) ∈ nwF ∨ Cond.not (Cond.eq (zTm j) (zTm i)) ∈ nwF := by decide +kernel
theorem kn_Z8 : Cond.eq (.static "java/lang/String" "COMPACT_STRINGS" "Z") (.int 1) ∈ nwF := by decide +kernel
theorem kn_Z9 : Cond.isRef (.static "jdk/internal/util/Preconditions" "SIOOBE_FORMATTER" "Ljava/util/function/BiFunction;") ∈ nwF := by decide +kernel
theorem kn_L3 : Cond.laysStatic "java/lang/String" "COMPACT_STRINGS" "Z" ∈ lw_tbl := List.mem_append_right _ (List.mem_of_getElem? (i := 1362) (by decide +kernel))
theorem kn_L4 : Cond.laysStatic "jdk/internal/util/Preconditions" "SIOOBE_FORMATTER" "Ljava/util/function/BiFunction;" ∈ lw_tbl := List.mem_append_right _ (List.mem_of_getElem? (i := 1378) (by decide +kernel))
theorem kn_M0 : Cond.stringRef "AidRegisterModel" (zIx.getD 0 0) (zTw.getD 0 "") ∈ lw_tbl := List.mem_append_right _ (List.mem_of_getElem? (i := 1344) (by decide +kernel))
theorem kn_M1 : Cond.stringRef "AidRegisterModel" (zIx.getD 1 0) (zTw.getD 1 "") ∈ lw_tbl := List.mem_append_right _ (List.mem_of_getElem? (i := 1421) (by decide +kernel))
theorem kn_M2 : Cond.stringRef "AidRegisterModel" (zIx.getD 2 0) (zTw.getD 2 "") ∈ lw_tbl := List.mem_append_right _ (List.mem_of_getElem? (i := 1422) (by decide +kernel))
theorem kn_M3 : Cond.stringRef "AidRegisterModel" (zIx.getD 3 0) (zTw.getD 3 "") ∈ lw_tbl := List.mem_append_right _ (List.mem_of_getElem? (i := 1423) (by decide +kernel))
theorem kn_M4 : Cond.stringRef "AidRegisterModel" (zIx.getD 4 0) (zTw.getD 4 "") ∈ lw_tbl := List.mem_append_right _ (List.mem_of_getElem? (i := 1424) (by decide +kernel))
theorem kn_M5 : Cond.stringRef "AidRegisterModel" (zIx.getD 5 0) (zTw.getD 5 "") ∈ lw_tbl := List.mem_append_right _ (List.mem_of_getElem? (i := 1425) (by decide +kernel))
theorem known_S {args : Array Value} {s : State} (hts : ∀ w ∈ lw_tbl, w.before args s = true) (hnw : ∀ w ∈ nwF, w.before args s = true) : ∃ adK adV : Nat → Nat, zS adK adV (zA s) s s.heap := by
  have hA : ∀ a : Nat, a < s.heap.size → ¬ zA s a := fun a h => Nat.not_le.mpr h
  obtain ⟨adK, adV, h1, h2⟩ := vk_Sof (tm := zTm) (len := zLn) (byt := zBy) kn_Z1 (fun i hi => hnw _ (kn_Z2 i hi)) (fun i hi => hnw _ (kn_Z3 i hi)) (fun i hi => hnw _ (kn_Z4 i hi)) (fun i hi => hnw _ (kn_Z5 i hi)) (fun i hi j hj => hnw _ (kn_Z6 i hi j hj)) (fun i j hi hj hij => (kn_Z7 i hi j hj hij).elim (fun h => Or.inl (hnw _ h)) (fun h => Or.inr (hnw _ h))) hA
  refine ⟨adK, adV, h1, va_Zof (hts _ kn_L3) (hts _ kn_I2) (va_eqt (hnw _ kn_Z8)) hA, va_Zqof (hts _ kn_L4) (hts _ kn_I3) (hnw _ kn_Z9) hA, fun i hi => ?_⟩
  match i, hi with
  | 0, hi => exact vk_R.of (hts _ kn_M0) (h2 0 hi)
  | 1, hi => exact vk_R.of (hts _ kn_M1) (h2 1 hi)
  | 2, hi => exact vk_R.of (hts _ kn_M2) (h2 2 hi)
  | 3, hi => exact vk_R.of (hts _ kn_M3) (h2 3 hi)
  | 4, hi => exact vk_R.of (hts _ kn_M4) (h2 4 hi)
  | 5, hi => exact vk_R.of (hts _ kn_M5) (h2 5 hi)
