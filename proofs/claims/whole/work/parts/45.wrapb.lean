theorem zwL_75 : zwV RL 75 RX7 yX7_claim cX7_claim 2 (some .int) 1 := ⟨⟨qw_978, qw_979, qw_980, qw_1, qw_981⟩, rfl, by decide +kernel, by decide +kernel, by decide +kernel⟩
theorem zwL_78 : zwV RL 78 RX7 yX7_claimed cX7_claimed 3 (some .int) 2 := ⟨⟨qw_1015, qw_1016, qw_1017, qw_1, qw_1018⟩, rfl, by decide +kernel, by decide +kernel, by decide +kernel⟩
theorem zwL_81 : zwV RL 81 RX7 yX7_claimable cX7_claimable 3 (some .int) 2 := ⟨⟨qw_1023, qw_1024, qw_1025, qw_1, qw_1026⟩, rfl, by decide +kernel, by decide +kernel, by decide +kernel⟩
theorem zwL_85 : zwV RL 85 RX7 yX7_lost cX7_lost 2 (some .int) 1 := ⟨⟨qw_1034, qw_1035, qw_1036, qw_1, qw_1037⟩, rfl, by decide +kernel, by decide +kernel, by decide +kernel⟩
theorem zwL_88 : zwV RL 88 RX7 yX7_limitedYears cX7_limitedYears 2 (some .int) 1 := ⟨⟨qw_1046, qw_1047, qw_1048, qw_1, qw_1049⟩, rfl, by decide +kernel, by decide +kernel, by decide +kernel⟩
theorem zwL_91 : zwV RL 91 RX7 yX7_expiring cX7_expiring 3 (some .int) 2 := ⟨⟨qw_1061, qw_1062, qw_1063, qw_1, qw_1064⟩, rfl, by decide +kernel, by decide +kernel, by decide +kernel⟩
theorem zwL_94 : zwV RL 94 RX7 yX7_useOf cX7_useOf 2 (some .int) 1 := ⟨⟨qw_1072, qw_1073, qw_1074, qw_1, qw_1075⟩, rfl, by decide +kernel, by decide +kernel, by decide +kernel⟩
theorem zwL_97 : zwV RL 97 RX7 yX7_benefitRoom cX7_benefitRoom 2 (some .int) 1 := ⟨⟨qw_1079, qw_1080, qw_1081, qw_1, qw_1082⟩, rfl, by decide +kernel, by decide +kernel, by decide +kernel⟩
theorem zwL_100 : zwV RL 100 RX7 yX7_topDonor cX7_topDonor 6 (some .int) 1 := ⟨⟨qw_1086, qw_1087, qw_1088, qw_1, qw_1089⟩, rfl, by decide +kernel, by decide +kernel, by decide +kernel⟩
theorem zwL_103 : zwV RL 103 RX7 yX7_longestSpan cX7_longestSpan 2 (some .int) 1 := ⟨⟨qw_1093, qw_1094, qw_1095, qw_1, qw_1096⟩, rfl, by decide +kernel, by decide +kernel, by decide +kernel⟩
theorem zwL_106 : zwV RL 106 RX7 yX7_gainOf cX7_gainOf 4 (some .int) 3 := ⟨⟨qw_1104, qw_1105, qw_1106, qw_1, qw_1107⟩, rfl, by decide +kernel, by decide +kernel, by decide +kernel⟩
theorem zwL_109 : zwV RL 109 RX7 yX7_neededSpan cX7_neededSpan 3 (some .int) 2 := ⟨⟨qw_1111, qw_1112, qw_1113, qw_1, qw_1114⟩, rfl, by decide +kernel, by decide +kernel, by decide +kernel⟩
theorem zwL_112 : zwV RL 112 RX7 yX7_gainOfSplit cX7_gainOfSplit 3 (some .int) 2 := ⟨⟨qw_1122, qw_1123, qw_1124, qw_1, qw_1125⟩, rfl, by decide +kernel, by decide +kernel, by decide +kernel⟩
theorem zwL_115 : zwV RL 115 RX7 yX7_sample cX7_sample 4 (some .int) 3 := ⟨⟨qw_1129, qw_1130, qw_1131, qw_1, qw_1132⟩, rfl, by decide +kernel, by decide +kernel, by decide +kernel⟩
theorem zwL_118 : zwV RL 118 RX7 yX7_wrongIn cX7_wrongIn 5 (some .int) 2 := ⟨⟨qw_1153, qw_1154, qw_1155, qw_1, qw_1156⟩, rfl, by decide +kernel, by decide +kernel, by decide +kernel⟩
theorem zwL_125 : zwV RL 125 RX7 yX7_printStatement cX7_printStatement 3 (some .int) 1 := ⟨⟨qw_1167, qw_1168, qw_1169, qw_1, qw_1170⟩, rfl, by decide +kernel, by decide +kernel, by decide +kernel⟩
theorem zwL_128 : zwV RL 128 RX7 yX7_restoreState cX7_restoreState 1 (some .int) 0 := ⟨⟨qw_1190, qw_1191, qw_1192, qw_1, qw_1193⟩, rfl, by decide +kernel, by decide +kernel, by decide +kernel⟩
theorem DL_claim_0 : ∀ q ∈ ([(0, .aload_n 2, 1), (1, .iconst 0, 1), (2, .aload_n 0, 1), (3, .iload_n 1, 1), (4, .invokevirtual 75, 3), (7, .i2l, 1), (8, .lastore, 1), (9, .goto 9, 3), (12, .astore_n 3, 1), (13, .iconst 1, 1), (14, .ireturn, 1), (15, .astore_n 3, 1), (16, .iconst 2, 1), (17, .ireturn, 1), (18, .iconst 0, 1), (19, .ireturn, 1)] : List (Nat × Instr × Nat)), decode cL_claim q.1 = .ok q.2 := by decide +kernel
theorem dL_claim_0 : decode cL_claim 0 = .ok (.aload_n 2, 1) := DL_claim_0 (0, .aload_n 2, 1) (List.mem_of_getElem? (i := 0) rfl)
theorem dL_claim_1 : decode cL_claim 1 = .ok (.iconst 0, 1) := DL_claim_0 (1, .iconst 0, 1) (List.mem_of_getElem? (i := 1) rfl)
theorem dL_claim_2 : decode cL_claim 2 = .ok (.aload_n 0, 1) := DL_claim_0 (2, .aload_n 0, 1) (List.mem_of_getElem? (i := 2) rfl)
theorem dL_claim_3 : decode cL_claim 3 = .ok (.iload_n 1, 1) := DL_claim_0 (3, .iload_n 1, 1) (List.mem_of_getElem? (i := 3) rfl)
theorem dL_claim_4 : decode cL_claim 4 = .ok (.invokevirtual 75, 3) := DL_claim_0 (4, .invokevirtual 75, 3) (List.mem_of_getElem? (i := 4) rfl)
theorem dL_claim_7 : decode cL_claim 7 = .ok (.i2l, 1) := DL_claim_0 (7, .i2l, 1) (List.mem_of_getElem? (i := 5) rfl)
theorem dL_claim_8 : decode cL_claim 8 = .ok (.lastore, 1) := DL_claim_0 (8, .lastore, 1) (List.mem_of_getElem? (i := 6) rfl)
theorem dL_claim_9 : decode cL_claim 9 = .ok (.goto 9, 3) := DL_claim_0 (9, .goto 9, 3) (List.mem_of_getElem? (i := 7) rfl)
theorem dL_claim_12 : decode cL_claim 12 = .ok (.astore_n 3, 1) := DL_claim_0 (12, .astore_n 3, 1) (List.mem_of_getElem? (i := 8) rfl)
theorem dL_claim_13 : decode cL_claim 13 = .ok (.iconst 1, 1) := DL_claim_0 (13, .iconst 1, 1) (List.mem_of_getElem? (i := 9) rfl)
theorem dL_claim_14 : decode cL_claim 14 = .ok (.ireturn, 1) := DL_claim_0 (14, .ireturn, 1) (List.mem_of_getElem? (i := 10) rfl)
theorem dL_claim_15 : decode cL_claim 15 = .ok (.astore_n 3, 1) := DL_claim_0 (15, .astore_n 3, 1) (List.mem_of_getElem? (i := 11) rfl)
theorem dL_claim_16 : decode cL_claim 16 = .ok (.iconst 2, 1) := DL_claim_0 (16, .iconst 2, 1) (List.mem_of_getElem? (i := 12) rfl)
theorem dL_claim_17 : decode cL_claim 17 = .ok (.ireturn, 1) := DL_claim_0 (17, .ireturn, 1) (List.mem_of_getElem? (i := 13) rfl)
theorem dL_claim_18 : decode cL_claim 18 = .ok (.iconst 0, 1) := DL_claim_0 (18, .iconst 0, 1) (List.mem_of_getElem? (i := 14) rfl)
theorem dL_claim_19 : decode cL_claim 19 = .ok (.ireturn, 1) := DL_claim_0 (19, .ireturn, 1) (List.mem_of_getElem? (i := 15) rfl)
abbrev rmL_claim : Room := { frames := 6, cells := 24, slots := 2040, locals := 165 }
set_option maxHeartbeats 1000000 in
set_option maxRecDepth 100000 in
theorem wok_claim (l : Launch) (D : va_G) (kA : Nat → ClassId) (a : Nat → Nat) (pa : Nat → Nat → Nat) (b : Nat) (n : Nat) (V X : Sz) (PV : Nat → Sz) (K : Nat) (T : Nat → Int) (x1 : Int) (sz : Nat) (hD0 : va_D (fun _ => True) (zO kA b T :: (cs_X7 kA a V X (zpf pa K) ++ cs_P kA pa PV K))) {r : Int} {Vr : Sz} {PVr : Nat → Sz} {Kr : Nat} (hf : f_X7_claim n V X PV K x1 = some (.inl (r, Vr, PVr, Kr))) (hr : rng r) : MWH l yL_claim cL_claim 4 (some .int) [(0, 9, 12, 13), (0, 9, 15, 54)] rmL_claim D kA sz [.ref (a 0), vI x1, .ref b] (zO kA b T :: (cs_X7 kA a V X (zpf pa K) ++ cs_P kA pa PV K)) (some (vI 0)) 24 2040 (fun w => ∃ pa1 : Nat → Nat → Nat, w = (zO kA b (up T 0 r) :: (cs_X7 kA a Vr X (zpf pa1 Kr) ++ cs_P kA pa1 PVr Kr))) := by
  refine zHW (own := RL) rfl rfl (Nat.le_of_ble_eq_true rfl) ?_
  intro p e s m args below meth c ls Q hC hK hP hsz hl hret
  have hl : lv_has ls 4 [(0, .ref (a 0)), (1, vI x1), (2, .ref b)] := hl
  have hS : va_S (zG (zO kA b T :: (cs_X7 kA a V X (zpf pa K) ++ cs_P kA pa PV K)) s.heap.size) s.heap s.heap [] := va_S.rf
  have hA : ∀ q, s.heap.size ≤ q → zG (zO kA b T :: (cs_X7 kA a V X (zpf pa K) ++ cs_P kA pa PV K)) s.heap.size q := fun q h => Or.inr h
  have hF0 : ∀ q, zF (cs_X7 kA a V X (zpf pa K) ++ cs_P kA pa PV K) q → zG (zO kA b T :: (cs_X7 kA a V X (zpf pa K) ++ cs_P kA pa PV K)) s.heap.size q := fun q h => h.elim fun k h => h.elim fun e h => Or.inl ⟨k + 1, e, h⟩
  have hD : va_D (zG (zO kA b T :: (cs_X7 kA a V X (zpf pa K) ++ cs_P kA pa PV K)) s.heap.size) (zO kA b T :: (cs_X7 kA a V X (zpf pa K) ++ cs_P kA pa PV K)) := ⟨hD0.1, fun k q hk => Or.inl ⟨k, q.2, hk⟩⟩
  generalize hAe : zG (zO kA b T :: (cs_X7 kA a V X (zpf pa K) ++ cs_P kA pa PV K)) s.heap.size = A0 at hS hA hF0 hD hret
  refine lv_aload_n hC.1 hC.2.1 dL_claim_0 rfl (lv_at hl 2 rfl) <| ziconst hC.1 hC.2.1 dL_claim_1 <| lv_aload_n hC.1 hC.2.1 dL_claim_2 rfl (lv_at hl 0 rfl) <| ziload_n hC.1 hC.2.1 dL_claim_3 rfl (lv_at hl 1 rfl) ?_
  refine zcVW (As := [vI x1]) (rest := [vI 0, .ref b]) hC hK (met_X7_claim l D kA a pa n V X PV K x1 s.heap.size (zDtail hD0) hf) zwL_75 hS hF0 hA (zPtail hP) (q0 := 0) rfl rfl rfl rfl hl.1 rfl (Nat.le_of_ble_eq_true rfl) ⟨(Nat.le_of_ble_eq_true rfl), (Nat.le_of_ble_eq_true rfl)⟩ ⟨rfl, rfl⟩ ⟨(Nat.le_of_ble_eq_true rfl), (Nat.le_of_ble_eq_true rfl)⟩ dL_claim_4 (fun w H locs hw hPw hDw _ hk1 hS => ?_)
  obtain ⟨hP, hD⟩ := zconsW hP hD hPw hDw hk1 (fun q h => h.elim (hF0 q) (hA q))
  obtain ⟨pa1, rfl⟩ := hw
  refine zi2l hC.1 hC.2.1 hr dL_claim_7 ?_
  refine jlas hC hK hP hD hS (q0 := 0) rfl (Nat.le_of_ble_eq_true rfl) (by decide) rfl dL_claim_8 (fun H locs hP hS => ?_)
  refine lv_goto (tgt := 18) hC.1 hC.2.1 dL_claim_9 (by decide) ?_
  refine ziconst hC.1 hC.2.1 dL_claim_18 ?_
  have hP : va_P D vwCl (zO kA b (up T 0 r) :: (cs_X7 kA a Vr X (zpf pa1 Kr) ++ cs_P kA pa1 PVr Kr)) H := hP
  have hD : va_D A0 (zO kA b (up T 0 r) :: (cs_X7 kA a Vr X (zpf pa1 Kr) ++ cs_P kA pa1 PVr Kr)) := zDany (C := fun t => (zO kA b t :: (cs_X7 kA a Vr X (zpf pa1 Kr) ++ cs_P kA pa1 PVr Kr))) T (fun _ => rfl) hD (up T 0 r)
  exact hret (Int32.ofInt 0) _ _ _ _ _ _ _ (Nat.le_of_ble_eq_true rfl) (Nat.le_of_ble_eq_true rfl) rfl ⟨pa1, rfl⟩ hP hD hS dL_claim_19
abbrev rxL_claim : Room := { frames := 8, cells := 1, slots := 6, locals := 165 }
set_option maxHeartbeats 1000000 in
set_option maxRecDepth 100000 in
theorem wth1_claim (l : Launch) (D : va_G) (kA : Nat → ClassId) (a : Nat → Nat) (pa : Nat → Nat → Nat) (b : Nat) (n : Nat) (V X : Sz) (PV : Nat → Sz) (K : Nat) (T : Nat → Int) (x1 : Int) (hf : f_X7_claim n V X PV K x1 = some (.inr 1)) : MTH l yL_claim cL_claim 4 (some .int) [(0, 9, 12, 13), (0, 9, 15, 54)] rxL_claim D kA [.ref (a 0), vI x1, .ref b] (zO kA b T :: (cs_X7 kA a V X (zpf pa K) ++ cs_P kA pa PV K)) (some (vI 1)) := by
  refine zHT (own := RL) rfl rfl (Nat.le_of_ble_eq_true rfl) ?_
  intro p e s m args below meth c ls Q hC hK hP hX hN hT hl hret
  have hl : lv_has ls 4 [(0, .ref (a 0)), (1, vI x1), (2, .ref b)] := hl
  refine lv_aload_n hC.1 hC.2.1 dL_claim_0 rfl (lv_at hl 2 rfl) <| ziconst hC.1 hC.2.1 dL_claim_1 <| lv_aload_n hC.1 hC.2.1 dL_claim_2 rfl (lv_at hl 0 rfl) <| ziload_n hC.1 hC.2.1 dL_claim_3 rfl (lv_at hl 1 rfl) ?_
  refine zcVT (As := [vI x1]) (rest := [vI 0, .ref b]) hC hK hX (thr_X7_claim l D kA a pa n V X PV K x1 hf) zwL_75 (zPtail hP) (q0 := 0) rfl rfl rfl rfl hl.1 rfl (Nat.le_of_ble_eq_true rfl) ⟨(Nat.le_of_ble_eq_true rfl), (Nat.le_of_ble_eq_true rfl)⟩ ⟨rfl, rfl⟩ ⟨(Nat.le_of_ble_eq_true rfl), (Nat.le_of_ble_eq_true rfl)⟩ dL_claim_4 (fun ce q9 H h1 h2 h3 h4 h5 => ?_)
  refine vx_catch (own := RL) (name := zEx 1) (E := zEx 1) (pc := 4) hC.2.2.2.1 [] ⟨0, 9, 12, 13⟩ [⟨0, 9, 15, 54⟩] hT (fun z hz => absurd hz List.not_mem_nil) (by decide) (by decide) (hC.2.2.2.2 _ (qin_3 (i := 159) rfl rfl)) (va_tabs (zBd_tabs (List.mem_of_getElem? (i := 1) rfl)) rfl (hX.2.2.2 _ (List.mem_of_getElem? (i := 1) rfl))) h3 h4 h5 ?_
  refine lv_astore_n (lv' := [(3, .ref q9), (0, .ref (a 0)), (1, vI x1), (2, .ref b)]) (x := q9) hC.1 hC.2.1 dL_claim_12 rfl hl (by decide) rfl (fun ls hl => ?_)
  refine ziconst hC.1 hC.2.1 dL_claim_13 ?_
  exact hret (Int32.ofInt 1) _ _ _ rfl h1 h2 dL_claim_14
set_option maxHeartbeats 1000000 in
set_option maxRecDepth 100000 in
theorem wth2_claim (l : Launch) (D : va_G) (kA : Nat → ClassId) (a : Nat → Nat) (pa : Nat → Nat → Nat) (b : Nat) (n : Nat) (V X : Sz) (PV : Nat → Sz) (K : Nat) (T : Nat → Int) (x1 : Int) (hf : f_X7_claim n V X PV K x1 = some (.inr 2)) : MTH l yL_claim cL_claim 4 (some .int) [(0, 9, 12, 13), (0, 9, 15, 54)] rxL_claim D kA [.ref (a 0), vI x1, .ref b] (zO kA b T :: (cs_X7 kA a V X (zpf pa K) ++ cs_P kA pa PV K)) (some (vI 2)) := by
  refine zHT (own := RL) rfl rfl (Nat.le_of_ble_eq_true rfl) ?_
  intro p e s m args below meth c ls Q hC hK hP hX hN hT hl hret
  have hl : lv_has ls 4 [(0, .ref (a 0)), (1, vI x1), (2, .ref b)] := hl
  refine lv_aload_n hC.1 hC.2.1 dL_claim_0 rfl (lv_at hl 2 rfl) <| ziconst hC.1 hC.2.1 dL_claim_1 <| lv_aload_n hC.1 hC.2.1 dL_claim_2 rfl (lv_at hl 0 rfl) <| ziload_n hC.1 hC.2.1 dL_claim_3 rfl (lv_at hl 1 rfl) ?_
  refine zcVT (As := [vI x1]) (rest := [vI 0, .ref b]) hC hK hX (thr_X7_claim l D kA a pa n V X PV K x1 hf) zwL_75 (zPtail hP) (q0 := 0) rfl rfl rfl rfl hl.1 rfl (Nat.le_of_ble_eq_true rfl) ⟨(Nat.le_of_ble_eq_true rfl), (Nat.le_of_ble_eq_true rfl)⟩ ⟨rfl, rfl⟩ ⟨(Nat.le_of_ble_eq_true rfl), (Nat.le_of_ble_eq_true rfl)⟩ dL_claim_4 (fun ce q9 H h1 h2 h3 h4 h5 => ?_)
  refine vx_catch (own := RL) (name := zEx 2) (E := zEx 2) (pc := 4) hC.2.2.2.1 [⟨0, 9, 12, 13⟩] ⟨0, 9, 15, 54⟩ [] hT (List.forall_mem_cons.mpr ⟨Or.inr ⟨by decide, zEx 1, hC.2.2.2.2 _ (qin_3 (i := 159) rfl rfl), hN _ (List.mem_of_getElem? (i := 2) rfl)⟩, fun z hz => absurd hz List.not_mem_nil⟩) (by decide) (by decide) (hC.2.2.2.2 _ (qin_4 (i := 155) rfl rfl)) (va_tabs (zBd_tabs (List.mem_of_getElem? (i := 2) rfl)) rfl (hX.2.2.2 _ (List.mem_of_getElem? (i := 2) rfl))) h3 h4 h5 ?_
  refine lv_astore_n (lv' := [(3, .ref q9), (0, .ref (a 0)), (1, vI x1), (2, .ref b)]) (x := q9) hC.1 hC.2.1 dL_claim_15 rfl hl (by decide) rfl (fun ls hl => ?_)
  refine ziconst hC.1 hC.2.1 dL_claim_16 ?_
  exact hret (Int32.ofInt 2) _ _ _ rfl h1 h2 dL_claim_17
theorem DL_claimed_0 : ∀ q ∈ ([(0, .aload_n 3, 1), (1, .iconst 0, 1), (2, .aload_n 0, 1), (3, .iload_n 1, 1), (4, .iload_n 2, 1), (5, .invokevirtual 78, 3), (8, .i2l, 1), (9, .lastore, 1), (10, .goto 11, 3), (13, .astore 4, 2), (15, .iconst 1, 1), (16, .ireturn, 1), (17, .astore 4, 2), (19, .iconst 2, 1), (20, .ireturn, 1), (21, .iconst 0, 1), (22, .ireturn, 1)] : List (Nat × Instr × Nat)), decode cL_claimed q.1 = .ok q.2 := by decide +kernel
theorem dL_claimed_0 : decode cL_claimed 0 = .ok (.aload_n 3, 1) := DL_claimed_0 (0, .aload_n 3, 1) (List.mem_of_getElem? (i := 0) rfl)
theorem dL_claimed_1 : decode cL_claimed 1 = .ok (.iconst 0, 1) := DL_claimed_0 (1, .iconst 0, 1) (List.mem_of_getElem? (i := 1) rfl)
theorem dL_claimed_2 : decode cL_claimed 2 = .ok (.aload_n 0, 1) := DL_claimed_0 (2, .aload_n 0, 1) (List.mem_of_getElem? (i := 2) rfl)
theorem dL_claimed_3 : decode cL_claimed 3 = .ok (.iload_n 1, 1) := DL_claimed_0 (3, .iload_n 1, 1) (List.mem_of_getElem? (i := 3) rfl)
theorem dL_claimed_4 : decode cL_claimed 4 = .ok (.iload_n 2, 1) := DL_claimed_0 (4, .iload_n 2, 1) (List.mem_of_getElem? (i := 4) rfl)
theorem dL_claimed_5 : decode cL_claimed 5 = .ok (.invokevirtual 78, 3) := DL_claimed_0 (5, .invokevirtual 78, 3) (List.mem_of_getElem? (i := 5) rfl)
theorem dL_claimed_8 : decode cL_claimed 8 = .ok (.i2l, 1) := DL_claimed_0 (8, .i2l, 1) (List.mem_of_getElem? (i := 6) rfl)
theorem dL_claimed_9 : decode cL_claimed 9 = .ok (.lastore, 1) := DL_claimed_0 (9, .lastore, 1) (List.mem_of_getElem? (i := 7) rfl)
theorem dL_claimed_10 : decode cL_claimed 10 = .ok (.goto 11, 3) := DL_claimed_0 (10, .goto 11, 3) (List.mem_of_getElem? (i := 8) rfl)
theorem dL_claimed_13 : decode cL_claimed 13 = .ok (.astore 4, 2) := DL_claimed_0 (13, .astore 4, 2) (List.mem_of_getElem? (i := 9) rfl)
theorem dL_claimed_15 : decode cL_claimed 15 = .ok (.iconst 1, 1) := DL_claimed_0 (15, .iconst 1, 1) (List.mem_of_getElem? (i := 10) rfl)
theorem dL_claimed_16 : decode cL_claimed 16 = .ok (.ireturn, 1) := DL_claimed_0 (16, .ireturn, 1) (List.mem_of_getElem? (i := 11) rfl)
theorem dL_claimed_17 : decode cL_claimed 17 = .ok (.astore 4, 2) := DL_claimed_0 (17, .astore 4, 2) (List.mem_of_getElem? (i := 12) rfl)
theorem dL_claimed_19 : decode cL_claimed 19 = .ok (.iconst 2, 1) := DL_claimed_0 (19, .iconst 2, 1) (List.mem_of_getElem? (i := 13) rfl)
theorem dL_claimed_20 : decode cL_claimed 20 = .ok (.ireturn, 1) := DL_claimed_0 (20, .ireturn, 1) (List.mem_of_getElem? (i := 14) rfl)
theorem dL_claimed_21 : decode cL_claimed 21 = .ok (.iconst 0, 1) := DL_claimed_0 (21, .iconst 0, 1) (List.mem_of_getElem? (i := 15) rfl)
theorem dL_claimed_22 : decode cL_claimed 22 = .ok (.ireturn, 1) := DL_claimed_0 (22, .ireturn, 1) (List.mem_of_getElem? (i := 16) rfl)
abbrev rmL_claimed : Room := { frames := 2, cells := 0, slots := 0, locals := 44 }
set_option maxHeartbeats 1000000 in
set_option maxRecDepth 100000 in
theorem wok_claimed (l : Launch) (D : va_G) (kA : Nat → ClassId) (a : Nat → Nat) (pf : Nat → Option Nat) (b : Nat) (V X : Sz) (T : Nat → Int) (x1 : Int) (x2 : Int) (hD0 : va_D (fun _ => True) (zO kA b T :: cs_X7 kA a V X pf)) {r : Int} (hf : f_X7_claimed V X x1 x2 = some (.inl r)) (hr : rng r) : MZH l yL_claimed cL_claimed 5 (some .int) [(0, 10, 13, 19), (0, 10, 17, 13)] rmL_claimed D kA [.ref (a 0), vI x1, vI x2, .ref b] (zO kA b T :: cs_X7 kA a V X pf) (zO kA b (up T 0 r) :: cs_X7 kA a V X pf) (some (vI 0)) := by
  refine zHI (own := RL) rfl rfl (Nat.le_of_ble_eq_true rfl) ?_
  intro p e s m args below meth c ls Q hC hK hP hl hret
  have hl : lv_has ls 5 [(0, .ref (a 0)), (1, vI x1), (2, vI x2), (3, .ref b)] := hl
  have hS : va_S (zF (zO kA b T :: cs_X7 kA a V X pf)) s.heap s.heap [] := va_S.rf
  have hD0 : va_D (zF (zO kA b T :: cs_X7 kA a V X pf)) (zO kA b T :: cs_X7 kA a V X pf) := ⟨hD0.1, fun k q hk => ⟨k, q.2, hk⟩⟩
  generalize hAe : zF (zO kA b T :: cs_X7 kA a V X pf) = A0 at hS hD0 hret
  have hD : ∀ w : Sz × Sz, va_D A0 (zO kA b T :: cs_X7 kA a w.1 w.2 pf) := zDany (C := fun w : Sz × Sz => (zO kA b T :: cs_X7 kA a w.1 w.2 pf)) (V, X) (fun _ => rfl) hD0
  refine lv_aload_n hC.1 hC.2.1 dL_claimed_0 rfl (lv_at hl 3 rfl) <| ziconst hC.1 hC.2.1 dL_claimed_1 <| lv_aload_n hC.1 hC.2.1 dL_claimed_2 rfl (lv_at hl 0 rfl) <| ziload_n hC.1 hC.2.1 dL_claimed_3 rfl (lv_at hl 1 rfl) <| ziload_n hC.1 hC.2.1 dL_claimed_4 rfl (lv_at hl 2 rfl) ?_
  refine zcVP (As := [vI x1, vI x2]) (rest := [vI 0, .ref b]) hC hK (met_X7_claimed l D kA a pf V X x1 x2 hf) zwL_78 (zPtail hP) (q0 := 0) rfl rfl rfl rfl hl.1 rfl (Nat.le_of_ble_eq_true rfl) ⟨(Nat.le_of_ble_eq_true rfl), (Nat.le_of_ble_eq_true rfl)⟩ ⟨rfl, rfl⟩ ⟨Nat.le_refl _, Nat.le_refl _⟩ dL_claimed_5 ?_
  have hD := hD (V, X)
  refine zi2l hC.1 hC.2.1 hr dL_claimed_8 ?_
  refine jlas hC hK hP hD hS (q0 := 0) rfl (Nat.le_of_ble_eq_true rfl) (by decide) rfl dL_claimed_9 (fun H locs hP hS => ?_)
  refine lv_goto (tgt := 21) hC.1 hC.2.1 dL_claimed_10 (by decide) ?_
  refine ziconst hC.1 hC.2.1 dL_claimed_21 ?_
  exact hret (Int32.ofInt 0) _ _ _ _ rfl hP hS dL_claimed_22
abbrev rxL_claimed : Room := { frames := 8, cells := 1, slots := 6, locals := 134 }
set_option maxHeartbeats 1000000 in
set_option maxRecDepth 100000 in
theorem wth0_claimed (l : Launch) (D : va_G) (kA : Nat → ClassId) (a : Nat → Nat) (pf : Nat → Option Nat) (b : Nat) (V X : Sz) (T : Nat → Int) (x1 : Int) (x2 : Int) (hf : f_X7_claimed V X x1 x2 = some (.inr 0)) : MTH l yL_claimed cL_claimed 5 (some .int) [(0, 10, 13, 19), (0, 10, 17, 13)] rxL_claimed D kA [.ref (a 0), vI x1, vI x2, .ref b] (zO kA b T :: cs_X7 kA a V X pf) (some (vI 1)) := by
  refine zHT (own := RL) rfl rfl (Nat.le_of_ble_eq_true rfl) ?_
  intro p e s m args below meth c ls Q hC hK hP hX hN hT hl hret
  have hl : lv_has ls 5 [(0, .ref (a 0)), (1, vI x1), (2, vI x2), (3, .ref b)] := hl
  refine lv_aload_n hC.1 hC.2.1 dL_claimed_0 rfl (lv_at hl 3 rfl) <| ziconst hC.1 hC.2.1 dL_claimed_1 <| lv_aload_n hC.1 hC.2.1 dL_claimed_2 rfl (lv_at hl 0 rfl) <| ziload_n hC.1 hC.2.1 dL_claimed_3 rfl (lv_at hl 1 rfl) <| ziload_n hC.1 hC.2.1 dL_claimed_4 rfl (lv_at hl 2 rfl) ?_
  refine zcVT (As := [vI x1, vI x2]) (rest := [vI 0, .ref b]) hC hK hX (thr_X7_claimed l D kA a pf V X x1 x2 hf) zwL_78 (zPtail hP) (q0 := 0) rfl rfl rfl rfl hl.1 rfl (Nat.le_of_ble_eq_true rfl) ⟨(Nat.le_of_ble_eq_true rfl), (Nat.le_of_ble_eq_true rfl)⟩ ⟨rfl, rfl⟩ ⟨(Nat.le_of_ble_eq_true rfl), (Nat.le_of_ble_eq_true rfl)⟩ dL_claimed_5 (fun ce q9 H h1 h2 h3 h4 h5 => ?_)
  refine vx_catch (own := RL) (name := zEx 0) (E := zEx 0) (pc := 5) hC.2.2.2.1 [] ⟨0, 10, 13, 19⟩ [⟨0, 10, 17, 13⟩] hT (fun z hz => absurd hz List.not_mem_nil) (by decide) (by decide) (hC.2.2.2.2 _ (qin_4 (i := 2) rfl rfl)) (va_tabs (zBd_tabs (List.mem_of_getElem? (i := 0) rfl)) rfl (hX.2.2.2 _ (List.mem_of_getElem? (i := 0) rfl))) h3 h4 h5 ?_
  refine lv_astore (lv' := [(4, .ref q9), (0, .ref (a 0)), (1, vI x1), (2, vI x2), (3, .ref b)]) (x := q9) hC.1 hC.2.1 dL_claimed_13 hl (by decide) rfl (fun ls hl => ?_)
  refine ziconst hC.1 hC.2.1 dL_claimed_15 ?_
  exact hret (Int32.ofInt 1) _ _ _ rfl h1 h2 dL_claimed_16
set_option maxHeartbeats 1000000 in
set_option maxRecDepth 100000 in
theorem wth1_claimed (l : Launch) (D : va_G) (kA : Nat → ClassId) (a : Nat → Nat) (pf : Nat → Option Nat) (b : Nat) (V X : Sz) (T : Nat → Int) (x1 : Int) (x2 : Int) (hf : f_X7_claimed V X x1 x2 = some (.inr 1)) : MTH l yL_claimed cL_claimed 5 (some .int) [(0, 10, 13, 19), (0, 10, 17, 13)] rxL_claimed D kA [.ref (a 0), vI x1, vI x2, .ref b] (zO kA b T :: cs_X7 kA a V X pf) (some (vI 2)) := by
  refine zHT (own := RL) rfl rfl (Nat.le_of_ble_eq_true rfl) ?_
  intro p e s m args below meth c ls Q hC hK hP hX hN hT hl hret
  have hl : lv_has ls 5 [(0, .ref (a 0)), (1, vI x1), (2, vI x2), (3, .ref b)] := hl
  refine lv_aload_n hC.1 hC.2.1 dL_claimed_0 rfl (lv_at hl 3 rfl) <| ziconst hC.1 hC.2.1 dL_claimed_1 <| lv_aload_n hC.1 hC.2.1 dL_claimed_2 rfl (lv_at hl 0 rfl) <| ziload_n hC.1 hC.2.1 dL_claimed_3 rfl (lv_at hl 1 rfl) <| ziload_n hC.1 hC.2.1 dL_claimed_4 rfl (lv_at hl 2 rfl) ?_
  refine zcVT (As := [vI x1, vI x2]) (rest := [vI 0, .ref b]) hC hK hX (thr_X7_claimed l D kA a pf V X x1 x2 hf) zwL_78 (zPtail hP) (q0 := 0) rfl rfl rfl rfl hl.1 rfl (Nat.le_of_ble_eq_true rfl) ⟨(Nat.le_of_ble_eq_true rfl), (Nat.le_of_ble_eq_true rfl)⟩ ⟨rfl, rfl⟩ ⟨(Nat.le_of_ble_eq_true rfl), (Nat.le_of_ble_eq_true rfl)⟩ dL_claimed_5 (fun ce q9 H h1 h2 h3 h4 h5 => ?_)
  refine vx_catch (own := RL) (name := zEx 1) (E := zEx 1) (pc := 5) hC.2.2.2.1 [⟨0, 10, 13, 19⟩] ⟨0, 10, 17, 13⟩ [] hT (List.forall_mem_cons.mpr ⟨Or.inr ⟨by decide, zEx 0, hC.2.2.2.2 _ (qin_4 (i := 2) rfl rfl), hN _ (List.mem_of_getElem? (i := 0) rfl)⟩, fun z hz => absurd hz List.not_mem_nil⟩) (by decide) (by decide) (hC.2.2.2.2 _ (qin_3 (i := 159) rfl rfl)) (va_tabs (zBd_tabs (List.mem_of_getElem? (i := 1) rfl)) rfl (hX.2.2.2 _ (List.mem_of_getElem? (i := 1) rfl))) h3 h4 h5 ?_
  refine lv_astore (lv' := [(4, .ref q9), (0, .ref (a 0)), (1, vI x1), (2, vI x2), (3, .ref b)]) (x := q9) hC.1 hC.2.1 dL_claimed_17 hl (by decide) rfl (fun ls hl => ?_)
  refine ziconst hC.1 hC.2.1 dL_claimed_19 ?_
  exact hret (Int32.ofInt 2) _ _ _ rfl h1 h2 dL_claimed_20
theorem DL_claimable_0 : ∀ q ∈ ([(0, .aload_n 3, 1), (1, .iconst 0, 1), (2, .aload_n 0, 1), (3, .iload_n 1, 1), (4, .iload_n 2, 1), (5, .invokevirtual 81, 3), (8, .i2l, 1), (9, .lastore, 1), (10, .goto 7, 3), (13, .astore 4, 2), (15, .iconst 1, 1), (16, .ireturn, 1), (17, .iconst 0, 1), (18, .ireturn, 1)] : List (Nat × Instr × Nat)), decode cL_claimable q.1 = .ok q.2 := by decide +kernel
theorem dL_claimable_0 : decode cL_claimable 0 = .ok (.aload_n 3, 1) := DL_claimable_0 (0, .aload_n 3, 1) (List.mem_of_getElem? (i := 0) rfl)
theorem dL_claimable_1 : decode cL_claimable 1 = .ok (.iconst 0, 1) := DL_claimable_0 (1, .iconst 0, 1) (List.mem_of_getElem? (i := 1) rfl)
theorem dL_claimable_2 : decode cL_claimable 2 = .ok (.aload_n 0, 1) := DL_claimable_0 (2, .aload_n 0, 1) (List.mem_of_getElem? (i := 2) rfl)
theorem dL_claimable_3 : decode cL_claimable 3 = .ok (.iload_n 1, 1) := DL_claimable_0 (3, .iload_n 1, 1) (List.mem_of_getElem? (i := 3) rfl)
theorem dL_claimable_4 : decode cL_claimable 4 = .ok (.iload_n 2, 1) := DL_claimable_0 (4, .iload_n 2, 1) (List.mem_of_getElem? (i := 4) rfl)
theorem dL_claimable_5 : decode cL_claimable 5 = .ok (.invokevirtual 81, 3) := DL_claimable_0 (5, .invokevirtual 81, 3) (List.mem_of_getElem? (i := 5) rfl)
theorem dL_claimable_8 : decode cL_claimable 8 = .ok (.i2l, 1) := DL_claimable_0 (8, .i2l, 1) (List.mem_of_getElem? (i := 6) rfl)
theorem dL_claimable_9 : decode cL_claimable 9 = .ok (.lastore, 1) := DL_claimable_0 (9, .lastore, 1) (List.mem_of_getElem? (i := 7) rfl)
theorem dL_claimable_10 : decode cL_claimable 10 = .ok (.goto 7, 3) := DL_claimable_0 (10, .goto 7, 3) (List.mem_of_getElem? (i := 8) rfl)
theorem dL_claimable_13 : decode cL_claimable 13 = .ok (.astore 4, 2) := DL_claimable_0 (13, .astore 4, 2) (List.mem_of_getElem? (i := 9) rfl)
theorem dL_claimable_15 : decode cL_claimable 15 = .ok (.iconst 1, 1) := DL_claimable_0 (15, .iconst 1, 1) (List.mem_of_getElem? (i := 10) rfl)
theorem dL_claimable_16 : decode cL_claimable 16 = .ok (.ireturn, 1) := DL_claimable_0 (16, .ireturn, 1) (List.mem_of_getElem? (i := 11) rfl)
theorem dL_claimable_17 : decode cL_claimable 17 = .ok (.iconst 0, 1) := DL_claimable_0 (17, .iconst 0, 1) (List.mem_of_getElem? (i := 12) rfl)
theorem dL_claimable_18 : decode cL_claimable 18 = .ok (.ireturn, 1) := DL_claimable_0 (18, .ireturn, 1) (List.mem_of_getElem? (i := 13) rfl)
abbrev rmL_claimable : Room := { frames := 4, cells := 0, slots := 0, locals := 107 }
set_option maxHeartbeats 1000000 in
set_option maxRecDepth 100000 in
theorem wok_claimable (l : Launch) (D : va_G) (kA : Nat → ClassId) (a : Nat → Nat) (pf : Nat → Option Nat) (b : Nat) (n : Nat) (V X : Sz) (T : Nat → Int) (x1 : Int) (x2 : Int) (hD0 : va_D (fun _ => True) (zO kA b T :: cs_X7 kA a V X pf)) {r : Int} (hf : f_X7_claimable n V X x1 x2 = some (.inl r)) (hr : rng r) : MZH l yL_claimable cL_claimable 5 (some .int) [(0, 10, 13, 13)] rmL_claimable D kA [.ref (a 0), vI x1, vI x2, .ref b] (zO kA b T :: cs_X7 kA a V X pf) (zO kA b (up T 0 r) :: cs_X7 kA a V X pf) (some (vI 0)) := by
  refine zHI (own := RL) rfl rfl (Nat.le_of_ble_eq_true rfl) ?_
  intro p e s m args below meth c ls Q hC hK hP hl hret
  have hl : lv_has ls 5 [(0, .ref (a 0)), (1, vI x1), (2, vI x2), (3, .ref b)] := hl
  have hS : va_S (zF (zO kA b T :: cs_X7 kA a V X pf)) s.heap s.heap [] := va_S.rf
  have hD0 : va_D (zF (zO kA b T :: cs_X7 kA a V X pf)) (zO kA b T :: cs_X7 kA a V X pf) := ⟨hD0.1, fun k q hk => ⟨k, q.2, hk⟩⟩
  generalize hAe : zF (zO kA b T :: cs_X7 kA a V X pf) = A0 at hS hD0 hret
  have hD : ∀ w : Sz × Sz, va_D A0 (zO kA b T :: cs_X7 kA a w.1 w.2 pf) := zDany (C := fun w : Sz × Sz => (zO kA b T :: cs_X7 kA a w.1 w.2 pf)) (V, X) (fun _ => rfl) hD0
  refine lv_aload_n hC.1 hC.2.1 dL_claimable_0 rfl (lv_at hl 3 rfl) <| ziconst hC.1 hC.2.1 dL_claimable_1 <| lv_aload_n hC.1 hC.2.1 dL_claimable_2 rfl (lv_at hl 0 rfl) <| ziload_n hC.1 hC.2.1 dL_claimable_3 rfl (lv_at hl 1 rfl) <| ziload_n hC.1 hC.2.1 dL_claimable_4 rfl (lv_at hl 2 rfl) ?_
  refine zcVP (As := [vI x1, vI x2]) (rest := [vI 0, .ref b]) hC hK (met_X7_claimable l D kA a pf n V X x1 x2 hf) zwL_81 (zPtail hP) (q0 := 0) rfl rfl rfl rfl hl.1 rfl (Nat.le_of_ble_eq_true rfl) ⟨(Nat.le_of_ble_eq_true rfl), (Nat.le_of_ble_eq_true rfl)⟩ ⟨rfl, rfl⟩ ⟨Nat.le_refl _, Nat.le_refl _⟩ dL_claimable_5 ?_
  have hD := hD (V, X)
  refine zi2l hC.1 hC.2.1 hr dL_claimable_8 ?_
  refine jlas hC hK hP hD hS (q0 := 0) rfl (Nat.le_of_ble_eq_true rfl) (by decide) rfl dL_claimable_9 (fun H locs hP hS => ?_)
  refine lv_goto (tgt := 17) hC.1 hC.2.1 dL_claimable_10 (by decide) ?_
  refine ziconst hC.1 hC.2.1 dL_claimable_17 ?_
  exact hret (Int32.ofInt 0) _ _ _ _ rfl hP hS dL_claimable_18
abbrev rxL_claimable : Room := { frames := 8, cells := 1, slots := 6, locals := 134 }
set_option maxHeartbeats 1000000 in
set_option maxRecDepth 100000 in
theorem wth1_claimable (l : Launch) (D : va_G) (kA : Nat → ClassId) (a : Nat → Nat) (pf : Nat → Option Nat) (b : Nat) (n : Nat) (V X : Sz) (T : Nat → Int) (x1 : Int) (x2 : Int) (hf : f_X7_claimable n V X x1 x2 = some (.inr 1)) : MTH l yL_claimable cL_claimable 5 (some .int) [(0, 10, 13, 13)] rxL_claimable D kA [.ref (a 0), vI x1, vI x2, .ref b] (zO kA b T :: cs_X7 kA a V X pf) (some (vI 1)) := by
  refine zHT (own := RL) rfl rfl (Nat.le_of_ble_eq_true rfl) ?_
  intro p e s m args below meth c ls Q hC hK hP hX hN hT hl hret
  have hl : lv_has ls 5 [(0, .ref (a 0)), (1, vI x1), (2, vI x2), (3, .ref b)] := hl
  refine lv_aload_n hC.1 hC.2.1 dL_claimable_0 rfl (lv_at hl 3 rfl) <| ziconst hC.1 hC.2.1 dL_claimable_1 <| lv_aload_n hC.1 hC.2.1 dL_claimable_2 rfl (lv_at hl 0 rfl) <| ziload_n hC.1 hC.2.1 dL_claimable_3 rfl (lv_at hl 1 rfl) <| ziload_n hC.1 hC.2.1 dL_claimable_4 rfl (lv_at hl 2 rfl) ?_
  refine zcVT (As := [vI x1, vI x2]) (rest := [vI 0, .ref b]) hC hK hX (thr_X7_claimable l D kA a pf n V X x1 x2 hf) zwL_81 (zPtail hP) (q0 := 0) rfl rfl rfl rfl hl.1 rfl (Nat.le_of_ble_eq_true rfl) ⟨(Nat.le_of_ble_eq_true rfl), (Nat.le_of_ble_eq_true rfl)⟩ ⟨rfl, rfl⟩ ⟨(Nat.le_of_ble_eq_true rfl), (Nat.le_of_ble_eq_true rfl)⟩ dL_claimable_5 (fun ce q9 H h1 h2 h3 h4 h5 => ?_)
  refine vx_catch (own := RL) (name := zEx 1) (E := zEx 1) (pc := 5) hC.2.2.2.1 [] ⟨0, 10, 13, 13⟩ [] hT (fun z hz => absurd hz List.not_mem_nil) (by decide) (by decide) (hC.2.2.2.2 _ (qin_3 (i := 159) rfl rfl)) (va_tabs (zBd_tabs (List.mem_of_getElem? (i := 1) rfl)) rfl (hX.2.2.2 _ (List.mem_of_getElem? (i := 1) rfl))) h3 h4 h5 ?_
  refine lv_astore (lv' := [(4, .ref q9), (0, .ref (a 0)), (1, vI x1), (2, vI x2), (3, .ref b)]) (x := q9) hC.1 hC.2.1 dL_claimable_13 hl (by decide) rfl (fun ls hl => ?_)
  refine ziconst hC.1 hC.2.1 dL_claimable_15 ?_
  exact hret (Int32.ofInt 1) _ _ _ rfl h1 h2 dL_claimable_16
theorem DL_lost_0 : ∀ q ∈ ([(0, .aload_n 2, 1), (1, .iconst 0, 1), (2, .aload_n 0, 1), (3, .iload_n 1, 1), (4, .invokevirtual 85, 3), (7, .i2l, 1), (8, .lastore, 1), (9, .goto 6, 3), (12, .astore_n 3, 1), (13, .iconst 1, 1), (14, .ireturn, 1), (15, .iconst 0, 1), (16, .ireturn, 1)] : List (Nat × Instr × Nat)), decode cL_lost q.1 = .ok q.2 := by decide +kernel
theorem dL_lost_0 : decode cL_lost 0 = .ok (.aload_n 2, 1) := DL_lost_0 (0, .aload_n 2, 1) (List.mem_of_getElem? (i := 0) rfl)
theorem dL_lost_1 : decode cL_lost 1 = .ok (.iconst 0, 1) := DL_lost_0 (1, .iconst 0, 1) (List.mem_of_getElem? (i := 1) rfl)
theorem dL_lost_2 : decode cL_lost 2 = .ok (.aload_n 0, 1) := DL_lost_0 (2, .aload_n 0, 1) (List.mem_of_getElem? (i := 2) rfl)
theorem dL_lost_3 : decode cL_lost 3 = .ok (.iload_n 1, 1) := DL_lost_0 (3, .iload_n 1, 1) (List.mem_of_getElem? (i := 3) rfl)
theorem dL_lost_4 : decode cL_lost 4 = .ok (.invokevirtual 85, 3) := DL_lost_0 (4, .invokevirtual 85, 3) (List.mem_of_getElem? (i := 4) rfl)
theorem dL_lost_7 : decode cL_lost 7 = .ok (.i2l, 1) := DL_lost_0 (7, .i2l, 1) (List.mem_of_getElem? (i := 5) rfl)
theorem dL_lost_8 : decode cL_lost 8 = .ok (.lastore, 1) := DL_lost_0 (8, .lastore, 1) (List.mem_of_getElem? (i := 6) rfl)
theorem dL_lost_9 : decode cL_lost 9 = .ok (.goto 6, 3) := DL_lost_0 (9, .goto 6, 3) (List.mem_of_getElem? (i := 7) rfl)
theorem dL_lost_12 : decode cL_lost 12 = .ok (.astore_n 3, 1) := DL_lost_0 (12, .astore_n 3, 1) (List.mem_of_getElem? (i := 8) rfl)
theorem dL_lost_13 : decode cL_lost 13 = .ok (.iconst 1, 1) := DL_lost_0 (13, .iconst 1, 1) (List.mem_of_getElem? (i := 9) rfl)
theorem dL_lost_14 : decode cL_lost 14 = .ok (.ireturn, 1) := DL_lost_0 (14, .ireturn, 1) (List.mem_of_getElem? (i := 10) rfl)
theorem dL_lost_15 : decode cL_lost 15 = .ok (.iconst 0, 1) := DL_lost_0 (15, .iconst 0, 1) (List.mem_of_getElem? (i := 11) rfl)
theorem dL_lost_16 : decode cL_lost 16 = .ok (.ireturn, 1) := DL_lost_0 (16, .ireturn, 1) (List.mem_of_getElem? (i := 12) rfl)
abbrev rmL_lost : Room := { frames := 5, cells := 0, slots := 0, locals := 112 }
set_option maxHeartbeats 1000000 in
set_option maxRecDepth 100000 in
theorem wok_lost (l : Launch) (D : va_G) (kA : Nat → ClassId) (a : Nat → Nat) (pf : Nat → Option Nat) (b : Nat) (n : Nat) (V X : Sz) (T : Nat → Int) (x1 : Int) (hD0 : va_D (fun _ => True) (zO kA b T :: cs_X7 kA a V X pf)) {r : Int} (hf : f_X7_lost n V X x1 = some (.inl r)) (hr : rng r) : MZH l yL_lost cL_lost 4 (some .int) [(0, 9, 12, 13)] rmL_lost D kA [.ref (a 0), vI x1, .ref b] (zO kA b T :: cs_X7 kA a V X pf) (zO kA b (up T 0 r) :: cs_X7 kA a V X pf) (some (vI 0)) := by
  refine zHI (own := RL) rfl rfl (Nat.le_of_ble_eq_true rfl) ?_
  intro p e s m args below meth c ls Q hC hK hP hl hret
  have hl : lv_has ls 4 [(0, .ref (a 0)), (1, vI x1), (2, .ref b)] := hl
  have hS : va_S (zF (zO kA b T :: cs_X7 kA a V X pf)) s.heap s.heap [] := va_S.rf
  have hD0 : va_D (zF (zO kA b T :: cs_X7 kA a V X pf)) (zO kA b T :: cs_X7 kA a V X pf) := ⟨hD0.1, fun k q hk => ⟨k, q.2, hk⟩⟩
  generalize hAe : zF (zO kA b T :: cs_X7 kA a V X pf) = A0 at hS hD0 hret
  have hD : ∀ w : Sz × Sz, va_D A0 (zO kA b T :: cs_X7 kA a w.1 w.2 pf) := zDany (C := fun w : Sz × Sz => (zO kA b T :: cs_X7 kA a w.1 w.2 pf)) (V, X) (fun _ => rfl) hD0
  refine lv_aload_n hC.1 hC.2.1 dL_lost_0 rfl (lv_at hl 2 rfl) <| ziconst hC.1 hC.2.1 dL_lost_1 <| lv_aload_n hC.1 hC.2.1 dL_lost_2 rfl (lv_at hl 0 rfl) <| ziload_n hC.1 hC.2.1 dL_lost_3 rfl (lv_at hl 1 rfl) ?_
  refine zcVP (As := [vI x1]) (rest := [vI 0, .ref b]) hC hK (met_X7_lost l D kA a pf n V X x1 hf) zwL_85 (zPtail hP) (q0 := 0) rfl rfl rfl rfl hl.1 rfl (Nat.le_of_ble_eq_true rfl) ⟨(Nat.le_of_ble_eq_true rfl), (Nat.le_of_ble_eq_true rfl)⟩ ⟨rfl, rfl⟩ ⟨Nat.le_refl _, Nat.le_refl _⟩ dL_lost_4 ?_
  have hD := hD (V, X)
  refine zi2l hC.1 hC.2.1 hr dL_lost_7 ?_
  refine jlas hC hK hP hD hS (q0 := 0) rfl (Nat.le_of_ble_eq_true rfl) (by decide) rfl dL_lost_8 (fun H locs hP hS => ?_)
  refine lv_goto (tgt := 15) hC.1 hC.2.1 dL_lost_9 (by decide) ?_
  refine ziconst hC.1 hC.2.1 dL_lost_15 ?_
  exact hret (Int32.ofInt 0) _ _ _ _ rfl hP hS dL_lost_16
abbrev rxL_lost : Room := { frames := 8, cells := 1, slots := 6, locals := 133 }
set_option maxHeartbeats 1000000 in
set_option maxRecDepth 100000 in
theorem wth1_lost (l : Launch) (D : va_G) (kA : Nat → ClassId) (a : Nat → Nat) (pf : Nat → Option Nat) (b : Nat) (n : Nat) (V X : Sz) (T : Nat → Int) (x1 : Int) (hf : f_X7_lost n V X x1 = some (.inr 1)) : MTH l yL_lost cL_lost 4 (some .int) [(0, 9, 12, 13)] rxL_lost D kA [.ref (a 0), vI x1, .ref b] (zO kA b T :: cs_X7 kA a V X pf) (some (vI 1)) := by
  refine zHT (own := RL) rfl rfl (Nat.le_of_ble_eq_true rfl) ?_
  intro p e s m args below meth c ls Q hC hK hP hX hN hT hl hret
  have hl : lv_has ls 4 [(0, .ref (a 0)), (1, vI x1), (2, .ref b)] := hl
  refine lv_aload_n hC.1 hC.2.1 dL_lost_0 rfl (lv_at hl 2 rfl) <| ziconst hC.1 hC.2.1 dL_lost_1 <| lv_aload_n hC.1 hC.2.1 dL_lost_2 rfl (lv_at hl 0 rfl) <| ziload_n hC.1 hC.2.1 dL_lost_3 rfl (lv_at hl 1 rfl) ?_
  refine zcVT (As := [vI x1]) (rest := [vI 0, .ref b]) hC hK hX (thr_X7_lost l D kA a pf n V X x1 hf) zwL_85 (zPtail hP) (q0 := 0) rfl rfl rfl rfl hl.1 rfl (Nat.le_of_ble_eq_true rfl) ⟨(Nat.le_of_ble_eq_true rfl), (Nat.le_of_ble_eq_true rfl)⟩ ⟨rfl, rfl⟩ ⟨(Nat.le_of_ble_eq_true rfl), (Nat.le_of_ble_eq_true rfl)⟩ dL_lost_4 (fun ce q9 H h1 h2 h3 h4 h5 => ?_)
  refine vx_catch (own := RL) (name := zEx 1) (E := zEx 1) (pc := 4) hC.2.2.2.1 [] ⟨0, 9, 12, 13⟩ [] hT (fun z hz => absurd hz List.not_mem_nil) (by decide) (by decide) (hC.2.2.2.2 _ (qin_3 (i := 159) rfl rfl)) (va_tabs (zBd_tabs (List.mem_of_getElem? (i := 1) rfl)) rfl (hX.2.2.2 _ (List.mem_of_getElem? (i := 1) rfl))) h3 h4 h5 ?_
  refine lv_astore_n (lv' := [(3, .ref q9), (0, .ref (a 0)), (1, vI x1), (2, .ref b)]) (x := q9) hC.1 hC.2.1 dL_lost_12 rfl hl (by decide) rfl (fun ls hl => ?_)
  refine ziconst hC.1 hC.2.1 dL_lost_13 ?_
  exact hret (Int32.ofInt 1) _ _ _ rfl h1 h2 dL_lost_14
theorem DL_limitedYears_0 : ∀ q ∈ ([(0, .aload_n 2, 1), (1, .iconst 0, 1), (2, .aload_n 0, 1), (3, .iload_n 1, 1), (4, .invokevirtual 88, 3), (7, .i2l, 1), (8, .lastore, 1), (9, .goto 6, 3), (12, .astore_n 3, 1), (13, .iconst 1, 1), (14, .ireturn, 1), (15, .iconst 0, 1), (16, .ireturn, 1)] : List (Nat × Instr × Nat)), decode cL_limitedYears q.1 = .ok q.2 := by decide +kernel
theorem dL_limitedYears_0 : decode cL_limitedYears 0 = .ok (.aload_n 2, 1) := DL_limitedYears_0 (0, .aload_n 2, 1) (List.mem_of_getElem? (i := 0) rfl)
theorem dL_limitedYears_1 : decode cL_limitedYears 1 = .ok (.iconst 0, 1) := DL_limitedYears_0 (1, .iconst 0, 1) (List.mem_of_getElem? (i := 1) rfl)
theorem dL_limitedYears_2 : decode cL_limitedYears 2 = .ok (.aload_n 0, 1) := DL_limitedYears_0 (2, .aload_n 0, 1) (List.mem_of_getElem? (i := 2) rfl)
theorem dL_limitedYears_3 : decode cL_limitedYears 3 = .ok (.iload_n 1, 1) := DL_limitedYears_0 (3, .iload_n 1, 1) (List.mem_of_getElem? (i := 3) rfl)
theorem dL_limitedYears_4 : decode cL_limitedYears 4 = .ok (.invokevirtual 88, 3) := DL_limitedYears_0 (4, .invokevirtual 88, 3) (List.mem_of_getElem? (i := 4) rfl)
theorem dL_limitedYears_7 : decode cL_limitedYears 7 = .ok (.i2l, 1) := DL_limitedYears_0 (7, .i2l, 1) (List.mem_of_getElem? (i := 5) rfl)
theorem dL_limitedYears_8 : decode cL_limitedYears 8 = .ok (.lastore, 1) := DL_limitedYears_0 (8, .lastore, 1) (List.mem_of_getElem? (i := 6) rfl)
theorem dL_limitedYears_9 : decode cL_limitedYears 9 = .ok (.goto 6, 3) := DL_limitedYears_0 (9, .goto 6, 3) (List.mem_of_getElem? (i := 7) rfl)
theorem dL_limitedYears_12 : decode cL_limitedYears 12 = .ok (.astore_n 3, 1) := DL_limitedYears_0 (12, .astore_n 3, 1) (List.mem_of_getElem? (i := 8) rfl)
theorem dL_limitedYears_13 : decode cL_limitedYears 13 = .ok (.iconst 1, 1) := DL_limitedYears_0 (13, .iconst 1, 1) (List.mem_of_getElem? (i := 9) rfl)
theorem dL_limitedYears_14 : decode cL_limitedYears 14 = .ok (.ireturn, 1) := DL_limitedYears_0 (14, .ireturn, 1) (List.mem_of_getElem? (i := 10) rfl)
theorem dL_limitedYears_15 : decode cL_limitedYears 15 = .ok (.iconst 0, 1) := DL_limitedYears_0 (15, .iconst 0, 1) (List.mem_of_getElem? (i := 11) rfl)
theorem dL_limitedYears_16 : decode cL_limitedYears 16 = .ok (.ireturn, 1) := DL_limitedYears_0 (16, .ireturn, 1) (List.mem_of_getElem? (i := 12) rfl)
abbrev rmL_limitedYears : Room := { frames := 3, cells := 0, slots := 0, locals := 70 }
set_option maxHeartbeats 1000000 in
set_option maxRecDepth 100000 in
theorem wok_limitedYears (l : Launch) (D : va_G) (kA : Nat → ClassId) (a : Nat → Nat) (pf : Nat → Option Nat) (b : Nat) (n : Nat) (V X : Sz) (T : Nat → Int) (x1 : Int) (hD0 : va_D (fun _ => True) (zO kA b T :: cs_X7 kA a V X pf)) {r : Int} (hf : f_X7_limitedYears n V X x1 = some (.inl r)) (hr : rng r) : MZH l yL_limitedYears cL_limitedYears 4 (some .int) [(0, 9, 12, 19)] rmL_limitedYears D kA [.ref (a 0), vI x1, .ref b] (zO kA b T :: cs_X7 kA a V X pf) (zO kA b (up T 0 r) :: cs_X7 kA a V X pf) (some (vI 0)) := by
  refine zHI (own := RL) rfl rfl (Nat.le_of_ble_eq_true rfl) ?_
  intro p e s m args below meth c ls Q hC hK hP hl hret
  have hl : lv_has ls 4 [(0, .ref (a 0)), (1, vI x1), (2, .ref b)] := hl
  have hS : va_S (zF (zO kA b T :: cs_X7 kA a V X pf)) s.heap s.heap [] := va_S.rf
  have hD0 : va_D (zF (zO kA b T :: cs_X7 kA a V X pf)) (zO kA b T :: cs_X7 kA a V X pf) := ⟨hD0.1, fun k q hk => ⟨k, q.2, hk⟩⟩
  generalize hAe : zF (zO kA b T :: cs_X7 kA a V X pf) = A0 at hS hD0 hret
  have hD : ∀ w : Sz × Sz, va_D A0 (zO kA b T :: cs_X7 kA a w.1 w.2 pf) := zDany (C := fun w : Sz × Sz => (zO kA b T :: cs_X7 kA a w.1 w.2 pf)) (V, X) (fun _ => rfl) hD0
  refine lv_aload_n hC.1 hC.2.1 dL_limitedYears_0 rfl (lv_at hl 2 rfl) <| ziconst hC.1 hC.2.1 dL_limitedYears_1 <| lv_aload_n hC.1 hC.2.1 dL_limitedYears_2 rfl (lv_at hl 0 rfl) <| ziload_n hC.1 hC.2.1 dL_limitedYears_3 rfl (lv_at hl 1 rfl) ?_
  refine zcVP (As := [vI x1]) (rest := [vI 0, .ref b]) hC hK (met_X7_limitedYears l D kA a pf n V X x1 hf) zwL_88 (zPtail hP) (q0 := 0) rfl rfl rfl rfl hl.1 rfl (Nat.le_of_ble_eq_true rfl) ⟨(Nat.le_of_ble_eq_true rfl), (Nat.le_of_ble_eq_true rfl)⟩ ⟨rfl, rfl⟩ ⟨Nat.le_refl _, Nat.le_refl _⟩ dL_limitedYears_4 ?_
  have hD := hD (V, X)
  refine zi2l hC.1 hC.2.1 hr dL_limitedYears_7 ?_
  refine jlas hC hK hP hD hS (q0 := 0) rfl (Nat.le_of_ble_eq_true rfl) (by decide) rfl dL_limitedYears_8 (fun H locs hP hS => ?_)
  refine lv_goto (tgt := 15) hC.1 hC.2.1 dL_limitedYears_9 (by decide) ?_
  refine ziconst hC.1 hC.2.1 dL_limitedYears_15 ?_
  exact hret (Int32.ofInt 0) _ _ _ _ rfl hP hS dL_limitedYears_16
abbrev rxL_limitedYears : Room := { frames := 8, cells := 1, slots := 6, locals := 132 }
set_option maxHeartbeats 1000000 in
set_option maxRecDepth 100000 in
theorem wth0_limitedYears (l : Launch) (D : va_G) (kA : Nat → ClassId) (a : Nat → Nat) (pf : Nat → Option Nat) (b : Nat) (n : Nat) (V X : Sz) (T : Nat → Int) (x1 : Int) (hf : f_X7_limitedYears n V X x1 = some (.inr 0)) : MTH l yL_limitedYears cL_limitedYears 4 (some .int) [(0, 9, 12, 19)] rxL_limitedYears D kA [.ref (a 0), vI x1, .ref b] (zO kA b T :: cs_X7 kA a V X pf) (some (vI 1)) := by
  refine zHT (own := RL) rfl rfl (Nat.le_of_ble_eq_true rfl) ?_
  intro p e s m args below meth c ls Q hC hK hP hX hN hT hl hret
  have hl : lv_has ls 4 [(0, .ref (a 0)), (1, vI x1), (2, .ref b)] := hl
  refine lv_aload_n hC.1 hC.2.1 dL_limitedYears_0 rfl (lv_at hl 2 rfl) <| ziconst hC.1 hC.2.1 dL_limitedYears_1 <| lv_aload_n hC.1 hC.2.1 dL_limitedYears_2 rfl (lv_at hl 0 rfl) <| ziload_n hC.1 hC.2.1 dL_limitedYears_3 rfl (lv_at hl 1 rfl) ?_
  refine zcVT (As := [vI x1]) (rest := [vI 0, .ref b]) hC hK hX (thr_X7_limitedYears l D kA a pf n V X x1 hf) zwL_88 (zPtail hP) (q0 := 0) rfl rfl rfl rfl hl.1 rfl (Nat.le_of_ble_eq_true rfl) ⟨(Nat.le_of_ble_eq_true rfl), (Nat.le_of_ble_eq_true rfl)⟩ ⟨rfl, rfl⟩ ⟨(Nat.le_of_ble_eq_true rfl), (Nat.le_of_ble_eq_true rfl)⟩ dL_limitedYears_4 (fun ce q9 H h1 h2 h3 h4 h5 => ?_)
  refine vx_catch (own := RL) (name := zEx 0) (E := zEx 0) (pc := 4) hC.2.2.2.1 [] ⟨0, 9, 12, 19⟩ [] hT (fun z hz => absurd hz List.not_mem_nil) (by decide) (by decide) (hC.2.2.2.2 _ (qin_4 (i := 2) rfl rfl)) (va_tabs (zBd_tabs (List.mem_of_getElem? (i := 0) rfl)) rfl (hX.2.2.2 _ (List.mem_of_getElem? (i := 0) rfl))) h3 h4 h5 ?_
  refine lv_astore_n (lv' := [(3, .ref q9), (0, .ref (a 0)), (1, vI x1), (2, .ref b)]) (x := q9) hC.1 hC.2.1 dL_limitedYears_12 rfl hl (by decide) rfl (fun ls hl => ?_)
  refine ziconst hC.1 hC.2.1 dL_limitedYears_13 ?_
  exact hret (Int32.ofInt 1) _ _ _ rfl h1 h2 dL_limitedYears_14
theorem DL_expiring_0 : ∀ q ∈ ([(0, .aload_n 3, 1), (1, .iconst 0, 1), (2, .aload_n 0, 1), (3, .iload_n 1, 1), (4, .iload_n 2, 1), (5, .invokevirtual 91, 3), (8, .i2l, 1), (9, .lastore, 1), (10, .goto 7, 3), (13, .astore 4, 2), (15, .iconst 1, 1), (16, .ireturn, 1), (17, .iconst 0, 1), (18, .ireturn, 1)] : List (Nat × Instr × Nat)), decode cL_expiring q.1 = .ok q.2 := by decide +kernel
theorem dL_expiring_0 : decode cL_expiring 0 = .ok (.aload_n 3, 1) := DL_expiring_0 (0, .aload_n 3, 1) (List.mem_of_getElem? (i := 0) rfl)
theorem dL_expiring_1 : decode cL_expiring 1 = .ok (.iconst 0, 1) := DL_expiring_0 (1, .iconst 0, 1) (List.mem_of_getElem? (i := 1) rfl)
theorem dL_expiring_2 : decode cL_expiring 2 = .ok (.aload_n 0, 1) := DL_expiring_0 (2, .aload_n 0, 1) (List.mem_of_getElem? (i := 2) rfl)
theorem dL_expiring_3 : decode cL_expiring 3 = .ok (.iload_n 1, 1) := DL_expiring_0 (3, .iload_n 1, 1) (List.mem_of_getElem? (i := 3) rfl)
theorem dL_expiring_4 : decode cL_expiring 4 = .ok (.iload_n 2, 1) := DL_expiring_0 (4, .iload_n 2, 1) (List.mem_of_getElem? (i := 4) rfl)
theorem dL_expiring_5 : decode cL_expiring 5 = .ok (.invokevirtual 91, 3) := DL_expiring_0 (5, .invokevirtual 91, 3) (List.mem_of_getElem? (i := 5) rfl)
theorem dL_expiring_8 : decode cL_expiring 8 = .ok (.i2l, 1) := DL_expiring_0 (8, .i2l, 1) (List.mem_of_getElem? (i := 6) rfl)
theorem dL_expiring_9 : decode cL_expiring 9 = .ok (.lastore, 1) := DL_expiring_0 (9, .lastore, 1) (List.mem_of_getElem? (i := 7) rfl)
theorem dL_expiring_10 : decode cL_expiring 10 = .ok (.goto 7, 3) := DL_expiring_0 (10, .goto 7, 3) (List.mem_of_getElem? (i := 8) rfl)
theorem dL_expiring_13 : decode cL_expiring 13 = .ok (.astore 4, 2) := DL_expiring_0 (13, .astore 4, 2) (List.mem_of_getElem? (i := 9) rfl)
theorem dL_expiring_15 : decode cL_expiring 15 = .ok (.iconst 1, 1) := DL_expiring_0 (15, .iconst 1, 1) (List.mem_of_getElem? (i := 10) rfl)
theorem dL_expiring_16 : decode cL_expiring 16 = .ok (.ireturn, 1) := DL_expiring_0 (16, .ireturn, 1) (List.mem_of_getElem? (i := 11) rfl)
theorem dL_expiring_17 : decode cL_expiring 17 = .ok (.iconst 0, 1) := DL_expiring_0 (17, .iconst 0, 1) (List.mem_of_getElem? (i := 12) rfl)
theorem dL_expiring_18 : decode cL_expiring 18 = .ok (.ireturn, 1) := DL_expiring_0 (18, .ireturn, 1) (List.mem_of_getElem? (i := 13) rfl)
abbrev rmL_expiring : Room := { frames := 5, cells := 0, slots := 0, locals := 151 }
set_option maxHeartbeats 1000000 in
set_option maxRecDepth 100000 in
theorem wok_expiring (l : Launch) (D : va_G) (kA : Nat → ClassId) (a : Nat → Nat) (pf : Nat → Option Nat) (b : Nat) (n : Nat) (V X : Sz) (T : Nat → Int) (x1 : Int) (x2 : Int) (hD0 : va_D (fun _ => True) (zO kA b T :: cs_X7 kA a V X pf)) {r : Int} (hf : f_X7_expiring n V X x1 x2 = some (.inl r)) (hr : rng r) : MZH l yL_expiring cL_expiring 5 (some .int) [(0, 10, 13, 13)] rmL_expiring D kA [.ref (a 0), vI x1, vI x2, .ref b] (zO kA b T :: cs_X7 kA a V X pf) (zO kA b (up T 0 r) :: cs_X7 kA a V X pf) (some (vI 0)) := by
  refine zHI (own := RL) rfl rfl (Nat.le_of_ble_eq_true rfl) ?_
  intro p e s m args below meth c ls Q hC hK hP hl hret
  have hl : lv_has ls 5 [(0, .ref (a 0)), (1, vI x1), (2, vI x2), (3, .ref b)] := hl
  have hS : va_S (zF (zO kA b T :: cs_X7 kA a V X pf)) s.heap s.heap [] := va_S.rf
  have hD0 : va_D (zF (zO kA b T :: cs_X7 kA a V X pf)) (zO kA b T :: cs_X7 kA a V X pf) := ⟨hD0.1, fun k q hk => ⟨k, q.2, hk⟩⟩
  generalize hAe : zF (zO kA b T :: cs_X7 kA a V X pf) = A0 at hS hD0 hret
  have hD : ∀ w : Sz × Sz, va_D A0 (zO kA b T :: cs_X7 kA a w.1 w.2 pf) := zDany (C := fun w : Sz × Sz => (zO kA b T :: cs_X7 kA a w.1 w.2 pf)) (V, X) (fun _ => rfl) hD0
  refine lv_aload_n hC.1 hC.2.1 dL_expiring_0 rfl (lv_at hl 3 rfl) <| ziconst hC.1 hC.2.1 dL_expiring_1 <| lv_aload_n hC.1 hC.2.1 dL_expiring_2 rfl (lv_at hl 0 rfl) <| ziload_n hC.1 hC.2.1 dL_expiring_3 rfl (lv_at hl 1 rfl) <| ziload_n hC.1 hC.2.1 dL_expiring_4 rfl (lv_at hl 2 rfl) ?_
  refine zcVP (As := [vI x1, vI x2]) (rest := [vI 0, .ref b]) hC hK (met_X7_expiring l D kA a pf n V X x1 x2 hf) zwL_91 (zPtail hP) (q0 := 0) rfl rfl rfl rfl hl.1 rfl (Nat.le_of_ble_eq_true rfl) ⟨(Nat.le_of_ble_eq_true rfl), (Nat.le_of_ble_eq_true rfl)⟩ ⟨rfl, rfl⟩ ⟨Nat.le_refl _, Nat.le_refl _⟩ dL_expiring_5 ?_
  have hD := hD (V, X)
  refine zi2l hC.1 hC.2.1 hr dL_expiring_8 ?_
  refine jlas hC hK hP hD hS (q0 := 0) rfl (Nat.le_of_ble_eq_true rfl) (by decide) rfl dL_expiring_9 (fun H locs hP hS => ?_)
  refine lv_goto (tgt := 17) hC.1 hC.2.1 dL_expiring_10 (by decide) ?_
  refine ziconst hC.1 hC.2.1 dL_expiring_17 ?_
  exact hret (Int32.ofInt 0) _ _ _ _ rfl hP hS dL_expiring_18
abbrev rxL_expiring : Room := { frames := 9, cells := 1, slots := 6, locals := 155 }
set_option maxHeartbeats 1000000 in
set_option maxRecDepth 100000 in
theorem wth1_expiring (l : Launch) (D : va_G) (kA : Nat → ClassId) (a : Nat → Nat) (pf : Nat → Option Nat) (b : Nat) (n : Nat) (V X : Sz) (T : Nat → Int) (x1 : Int) (x2 : Int) (hf : f_X7_expiring n V X x1 x2 = some (.inr 1)) : MTH l yL_expiring cL_expiring 5 (some .int) [(0, 10, 13, 13)] rxL_expiring D kA [.ref (a 0), vI x1, vI x2, .ref b] (zO kA b T :: cs_X7 kA a V X pf) (some (vI 1)) := by
  refine zHT (own := RL) rfl rfl (Nat.le_of_ble_eq_true rfl) ?_
  intro p e s m args below meth c ls Q hC hK hP hX hN hT hl hret
  have hl : lv_has ls 5 [(0, .ref (a 0)), (1, vI x1), (2, vI x2), (3, .ref b)] := hl
  refine lv_aload_n hC.1 hC.2.1 dL_expiring_0 rfl (lv_at hl 3 rfl) <| ziconst hC.1 hC.2.1 dL_expiring_1 <| lv_aload_n hC.1 hC.2.1 dL_expiring_2 rfl (lv_at hl 0 rfl) <| ziload_n hC.1 hC.2.1 dL_expiring_3 rfl (lv_at hl 1 rfl) <| ziload_n hC.1 hC.2.1 dL_expiring_4 rfl (lv_at hl 2 rfl) ?_
  refine zcVT (As := [vI x1, vI x2]) (rest := [vI 0, .ref b]) hC hK hX (thr_X7_expiring l D kA a pf n V X x1 x2 hf) zwL_91 (zPtail hP) (q0 := 0) rfl rfl rfl rfl hl.1 rfl (Nat.le_of_ble_eq_true rfl) ⟨(Nat.le_of_ble_eq_true rfl), (Nat.le_of_ble_eq_true rfl)⟩ ⟨rfl, rfl⟩ ⟨(Nat.le_of_ble_eq_true rfl), (Nat.le_of_ble_eq_true rfl)⟩ dL_expiring_5 (fun ce q9 H h1 h2 h3 h4 h5 => ?_)
  refine vx_catch (own := RL) (name := zEx 1) (E := zEx 1) (pc := 5) hC.2.2.2.1 [] ⟨0, 10, 13, 13⟩ [] hT (fun z hz => absurd hz List.not_mem_nil) (by decide) (by decide) (hC.2.2.2.2 _ (qin_3 (i := 159) rfl rfl)) (va_tabs (zBd_tabs (List.mem_of_getElem? (i := 1) rfl)) rfl (hX.2.2.2 _ (List.mem_of_getElem? (i := 1) rfl))) h3 h4 h5 ?_
  refine lv_astore (lv' := [(4, .ref q9), (0, .ref (a 0)), (1, vI x1), (2, vI x2), (3, .ref b)]) (x := q9) hC.1 hC.2.1 dL_expiring_13 hl (by decide) rfl (fun ls hl => ?_)
  refine ziconst hC.1 hC.2.1 dL_expiring_15 ?_
  exact hret (Int32.ofInt 1) _ _ _ rfl h1 h2 dL_expiring_16
theorem DL_useOf_0 : ∀ q ∈ ([(0, .aload_n 2, 1), (1, .iconst 0, 1), (2, .aload_n 0, 1), (3, .iload_n 1, 1), (4, .invokevirtual 94, 3), (7, .i2l, 1), (8, .lastore, 1), (9, .goto 6, 3), (12, .astore_n 3, 1), (13, .iconst 1, 1), (14, .ireturn, 1), (15, .iconst 0, 1), (16, .ireturn, 1)] : List (Nat × Instr × Nat)), decode cL_useOf q.1 = .ok q.2 := by decide +kernel
theorem dL_useOf_0 : decode cL_useOf 0 = .ok (.aload_n 2, 1) := DL_useOf_0 (0, .aload_n 2, 1) (List.mem_of_getElem? (i := 0) rfl)
theorem dL_useOf_1 : decode cL_useOf 1 = .ok (.iconst 0, 1) := DL_useOf_0 (1, .iconst 0, 1) (List.mem_of_getElem? (i := 1) rfl)
theorem dL_useOf_2 : decode cL_useOf 2 = .ok (.aload_n 0, 1) := DL_useOf_0 (2, .aload_n 0, 1) (List.mem_of_getElem? (i := 2) rfl)
theorem dL_useOf_3 : decode cL_useOf 3 = .ok (.iload_n 1, 1) := DL_useOf_0 (3, .iload_n 1, 1) (List.mem_of_getElem? (i := 3) rfl)
theorem dL_useOf_4 : decode cL_useOf 4 = .ok (.invokevirtual 94, 3) := DL_useOf_0 (4, .invokevirtual 94, 3) (List.mem_of_getElem? (i := 4) rfl)
theorem dL_useOf_7 : decode cL_useOf 7 = .ok (.i2l, 1) := DL_useOf_0 (7, .i2l, 1) (List.mem_of_getElem? (i := 5) rfl)
theorem dL_useOf_8 : decode cL_useOf 8 = .ok (.lastore, 1) := DL_useOf_0 (8, .lastore, 1) (List.mem_of_getElem? (i := 6) rfl)
theorem dL_useOf_9 : decode cL_useOf 9 = .ok (.goto 6, 3) := DL_useOf_0 (9, .goto 6, 3) (List.mem_of_getElem? (i := 7) rfl)
theorem dL_useOf_12 : decode cL_useOf 12 = .ok (.astore_n 3, 1) := DL_useOf_0 (12, .astore_n 3, 1) (List.mem_of_getElem? (i := 8) rfl)
theorem dL_useOf_13 : decode cL_useOf 13 = .ok (.iconst 1, 1) := DL_useOf_0 (13, .iconst 1, 1) (List.mem_of_getElem? (i := 9) rfl)
theorem dL_useOf_14 : decode cL_useOf 14 = .ok (.ireturn, 1) := DL_useOf_0 (14, .ireturn, 1) (List.mem_of_getElem? (i := 10) rfl)
theorem dL_useOf_15 : decode cL_useOf 15 = .ok (.iconst 0, 1) := DL_useOf_0 (15, .iconst 0, 1) (List.mem_of_getElem? (i := 11) rfl)
theorem dL_useOf_16 : decode cL_useOf 16 = .ok (.ireturn, 1) := DL_useOf_0 (16, .ireturn, 1) (List.mem_of_getElem? (i := 12) rfl)
abbrev rmL_useOf : Room := { frames := 5, cells := 0, slots := 0, locals := 144 }
set_option maxHeartbeats 1000000 in
set_option maxRecDepth 100000 in
theorem wok_useOf (l : Launch) (D : va_G) (kA : Nat → ClassId) (a : Nat → Nat) (pf : Nat → Option Nat) (b : Nat) (n : Nat) (V X : Sz) (T : Nat → Int) (x1 : Int) (hD0 : va_D (fun _ => True) (zO kA b T :: cs_X7 kA a V X pf)) {r : Int} {Vr : Sz} (hf : f_X7_useOf n V X x1 = some (.inl (r, Vr))) (hr : rng r) : MZH l yL_useOf cL_useOf 4 (some .int) [(0, 9, 12, 19)] rmL_useOf D kA [.ref (a 0), vI x1, .ref b] (zO kA b T :: cs_X7 kA a V X pf) (zO kA b (up T 0 r) :: cs_X7 kA a Vr X pf) (some (vI 0)) := by
  refine zHI (own := RL) rfl rfl (Nat.le_of_ble_eq_true rfl) ?_
  intro p e s m args below meth c ls Q hC hK hP hl hret
  have hl : lv_has ls 4 [(0, .ref (a 0)), (1, vI x1), (2, .ref b)] := hl
  have hS : va_S (zF (zO kA b T :: cs_X7 kA a V X pf)) s.heap s.heap [] := va_S.rf
  have hD0 : va_D (zF (zO kA b T :: cs_X7 kA a V X pf)) (zO kA b T :: cs_X7 kA a V X pf) := ⟨hD0.1, fun k q hk => ⟨k, q.2, hk⟩⟩
  generalize hAe : zF (zO kA b T :: cs_X7 kA a V X pf) = A0 at hS hD0 hret
  have hD : ∀ w : Sz × Sz, va_D A0 (zO kA b T :: cs_X7 kA a w.1 w.2 pf) := zDany (C := fun w : Sz × Sz => (zO kA b T :: cs_X7 kA a w.1 w.2 pf)) (V, X) (fun _ => rfl) hD0
  refine lv_aload_n hC.1 hC.2.1 dL_useOf_0 rfl (lv_at hl 2 rfl) <| ziconst hC.1 hC.2.1 dL_useOf_1 <| lv_aload_n hC.1 hC.2.1 dL_useOf_2 rfl (lv_at hl 0 rfl) <| ziload_n hC.1 hC.2.1 dL_useOf_3 rfl (lv_at hl 1 rfl) ?_
  have hDc : ∀ w : Sz, va_D (fun _ => True) (cs_X7 kA a w X pf) := fun w => (zDtail (hD (w, X))).weaken (fun _ _ _ _ => trivial)
  refine zcVZ (As := [vI x1]) (rest := [vI 0, .ref b]) hC hK (met_X7_useOf l D kA a pf n V X x1 hDc hf) zwL_94 hS (fun q h => h.elim fun k h => h.elim fun e h => (hD (V, X)).2 (k + 1) (q, e) h) (zPtail hP) (q0 := 0) rfl rfl rfl rfl hl.1 rfl (Nat.le_of_ble_eq_true rfl) ⟨(Nat.le_of_ble_eq_true rfl), (Nat.le_of_ble_eq_true rfl)⟩ ⟨rfl, rfl⟩ ⟨Nat.le_refl _, Nat.le_refl _⟩ dL_useOf_4 (fun H locs hP1 hk1 hS => ?_)
  have hP : va_P D vwCl (zO kA b T :: cs_X7 kA a Vr X pf) H := zjoinA (A := [zO kA b T]) hP ((hD (V, X)).weaken (fun _ _ _ _ => trivial)) hk1 hP1
  have hD := hD (Vr, X)
  refine zi2l hC.1 hC.2.1 hr dL_useOf_7 ?_
  refine jlas hC hK hP hD hS (q0 := 0) rfl (Nat.le_of_ble_eq_true rfl) (by decide) rfl dL_useOf_8 (fun H locs hP hS => ?_)
  refine lv_goto (tgt := 15) hC.1 hC.2.1 dL_useOf_9 (by decide) ?_
  refine ziconst hC.1 hC.2.1 dL_useOf_15 ?_
  exact hret (Int32.ofInt 0) _ _ _ _ rfl hP hS dL_useOf_16
abbrev rxL_useOf : Room := { frames := 8, cells := 1, slots := 6, locals := 144 }
set_option maxHeartbeats 1000000 in
set_option maxRecDepth 100000 in
theorem wth0_useOf (l : Launch) (D : va_G) (kA : Nat → ClassId) (a : Nat → Nat) (pf : Nat → Option Nat) (b : Nat) (n : Nat) (V X : Sz) (T : Nat → Int) (x1 : Int) (hf : f_X7_useOf n V X x1 = some (.inr 0)) : MTH l yL_useOf cL_useOf 4 (some .int) [(0, 9, 12, 19)] rxL_useOf D kA [.ref (a 0), vI x1, .ref b] (zO kA b T :: cs_X7 kA a V X pf) (some (vI 1)) := by
  refine zHT (own := RL) rfl rfl (Nat.le_of_ble_eq_true rfl) ?_
  intro p e s m args below meth c ls Q hC hK hP hX hN hT hl hret
  have hl : lv_has ls 4 [(0, .ref (a 0)), (1, vI x1), (2, .ref b)] := hl
  refine lv_aload_n hC.1 hC.2.1 dL_useOf_0 rfl (lv_at hl 2 rfl) <| ziconst hC.1 hC.2.1 dL_useOf_1 <| lv_aload_n hC.1 hC.2.1 dL_useOf_2 rfl (lv_at hl 0 rfl) <| ziload_n hC.1 hC.2.1 dL_useOf_3 rfl (lv_at hl 1 rfl) ?_
  refine zcVT (As := [vI x1]) (rest := [vI 0, .ref b]) hC hK hX (thr_X7_useOf l D kA a pf n V X x1 hf) zwL_94 (zPtail hP) (q0 := 0) rfl rfl rfl rfl hl.1 rfl (Nat.le_of_ble_eq_true rfl) ⟨(Nat.le_of_ble_eq_true rfl), (Nat.le_of_ble_eq_true rfl)⟩ ⟨rfl, rfl⟩ ⟨(Nat.le_of_ble_eq_true rfl), (Nat.le_of_ble_eq_true rfl)⟩ dL_useOf_4 (fun ce q9 H h1 h2 h3 h4 h5 => ?_)
  refine vx_catch (own := RL) (name := zEx 0) (E := zEx 0) (pc := 4) hC.2.2.2.1 [] ⟨0, 9, 12, 19⟩ [] hT (fun z hz => absurd hz List.not_mem_nil) (by decide) (by decide) (hC.2.2.2.2 _ (qin_4 (i := 2) rfl rfl)) (va_tabs (zBd_tabs (List.mem_of_getElem? (i := 0) rfl)) rfl (hX.2.2.2 _ (List.mem_of_getElem? (i := 0) rfl))) h3 h4 h5 ?_
  refine lv_astore_n (lv' := [(3, .ref q9), (0, .ref (a 0)), (1, vI x1), (2, .ref b)]) (x := q9) hC.1 hC.2.1 dL_useOf_12 rfl hl (by decide) rfl (fun ls hl => ?_)
  refine ziconst hC.1 hC.2.1 dL_useOf_13 ?_
  exact hret (Int32.ofInt 1) _ _ _ rfl h1 h2 dL_useOf_14
theorem DL_benefitRoom_0 : ∀ q ∈ ([(0, .aload_n 2, 1), (1, .iconst 0, 1), (2, .aload_n 0, 1), (3, .iload_n 1, 1), (4, .invokevirtual 97, 3), (7, .i2l, 1), (8, .lastore, 1), (9, .goto 6, 3), (12, .astore_n 3, 1), (13, .iconst 1, 1), (14, .ireturn, 1), (15, .iconst 0, 1), (16, .ireturn, 1)] : List (Nat × Instr × Nat)), decode cL_benefitRoom q.1 = .ok q.2 := by decide +kernel
theorem dL_benefitRoom_0 : decode cL_benefitRoom 0 = .ok (.aload_n 2, 1) := DL_benefitRoom_0 (0, .aload_n 2, 1) (List.mem_of_getElem? (i := 0) rfl)
theorem dL_benefitRoom_1 : decode cL_benefitRoom 1 = .ok (.iconst 0, 1) := DL_benefitRoom_0 (1, .iconst 0, 1) (List.mem_of_getElem? (i := 1) rfl)
theorem dL_benefitRoom_2 : decode cL_benefitRoom 2 = .ok (.aload_n 0, 1) := DL_benefitRoom_0 (2, .aload_n 0, 1) (List.mem_of_getElem? (i := 2) rfl)
theorem dL_benefitRoom_3 : decode cL_benefitRoom 3 = .ok (.iload_n 1, 1) := DL_benefitRoom_0 (3, .iload_n 1, 1) (List.mem_of_getElem? (i := 3) rfl)
theorem dL_benefitRoom_4 : decode cL_benefitRoom 4 = .ok (.invokevirtual 97, 3) := DL_benefitRoom_0 (4, .invokevirtual 97, 3) (List.mem_of_getElem? (i := 4) rfl)
theorem dL_benefitRoom_7 : decode cL_benefitRoom 7 = .ok (.i2l, 1) := DL_benefitRoom_0 (7, .i2l, 1) (List.mem_of_getElem? (i := 5) rfl)
theorem dL_benefitRoom_8 : decode cL_benefitRoom 8 = .ok (.lastore, 1) := DL_benefitRoom_0 (8, .lastore, 1) (List.mem_of_getElem? (i := 6) rfl)
theorem dL_benefitRoom_9 : decode cL_benefitRoom 9 = .ok (.goto 6, 3) := DL_benefitRoom_0 (9, .goto 6, 3) (List.mem_of_getElem? (i := 7) rfl)
theorem dL_benefitRoom_12 : decode cL_benefitRoom 12 = .ok (.astore_n 3, 1) := DL_benefitRoom_0 (12, .astore_n 3, 1) (List.mem_of_getElem? (i := 8) rfl)
theorem dL_benefitRoom_13 : decode cL_benefitRoom 13 = .ok (.iconst 1, 1) := DL_benefitRoom_0 (13, .iconst 1, 1) (List.mem_of_getElem? (i := 9) rfl)
theorem dL_benefitRoom_14 : decode cL_benefitRoom 14 = .ok (.ireturn, 1) := DL_benefitRoom_0 (14, .ireturn, 1) (List.mem_of_getElem? (i := 10) rfl)
theorem dL_benefitRoom_15 : decode cL_benefitRoom 15 = .ok (.iconst 0, 1) := DL_benefitRoom_0 (15, .iconst 0, 1) (List.mem_of_getElem? (i := 11) rfl)
theorem dL_benefitRoom_16 : decode cL_benefitRoom 16 = .ok (.ireturn, 1) := DL_benefitRoom_0 (16, .ireturn, 1) (List.mem_of_getElem? (i := 12) rfl)
abbrev rmL_benefitRoom : Room := { frames := 2, cells := 0, slots := 0, locals := 42 }
set_option maxHeartbeats 1000000 in
set_option maxRecDepth 100000 in
theorem wok_benefitRoom (l : Launch) (D : va_G) (kA : Nat → ClassId) (a : Nat → Nat) (pf : Nat → Option Nat) (b : Nat) (V X : Sz) (T : Nat → Int) (x1 : Int) (hD0 : va_D (fun _ => True) (zO kA b T :: cs_X7 kA a V X pf)) {r : Int} (hf : f_X7_benefitRoom V X x1 = some (.inl r)) (hr : rng r) : MZH l yL_benefitRoom cL_benefitRoom 4 (some .int) [(0, 9, 12, 19)] rmL_benefitRoom D kA [.ref (a 0), vI x1, .ref b] (zO kA b T :: cs_X7 kA a V X pf) (zO kA b (up T 0 r) :: cs_X7 kA a V X pf) (some (vI 0)) := by
  refine zHI (own := RL) rfl rfl (Nat.le_of_ble_eq_true rfl) ?_
  intro p e s m args below meth c ls Q hC hK hP hl hret
  have hl : lv_has ls 4 [(0, .ref (a 0)), (1, vI x1), (2, .ref b)] := hl
  have hS : va_S (zF (zO kA b T :: cs_X7 kA a V X pf)) s.heap s.heap [] := va_S.rf
  have hD0 : va_D (zF (zO kA b T :: cs_X7 kA a V X pf)) (zO kA b T :: cs_X7 kA a V X pf) := ⟨hD0.1, fun k q hk => ⟨k, q.2, hk⟩⟩
  generalize hAe : zF (zO kA b T :: cs_X7 kA a V X pf) = A0 at hS hD0 hret
  have hD : ∀ w : Sz × Sz, va_D A0 (zO kA b T :: cs_X7 kA a w.1 w.2 pf) := zDany (C := fun w : Sz × Sz => (zO kA b T :: cs_X7 kA a w.1 w.2 pf)) (V, X) (fun _ => rfl) hD0
  refine lv_aload_n hC.1 hC.2.1 dL_benefitRoom_0 rfl (lv_at hl 2 rfl) <| ziconst hC.1 hC.2.1 dL_benefitRoom_1 <| lv_aload_n hC.1 hC.2.1 dL_benefitRoom_2 rfl (lv_at hl 0 rfl) <| ziload_n hC.1 hC.2.1 dL_benefitRoom_3 rfl (lv_at hl 1 rfl) ?_
  refine zcVP (As := [vI x1]) (rest := [vI 0, .ref b]) hC hK (met_X7_benefitRoom l D kA a pf V X x1 hf) zwL_97 (zPtail hP) (q0 := 0) rfl rfl rfl rfl hl.1 rfl (Nat.le_of_ble_eq_true rfl) ⟨(Nat.le_of_ble_eq_true rfl), (Nat.le_of_ble_eq_true rfl)⟩ ⟨rfl, rfl⟩ ⟨Nat.le_refl _, Nat.le_refl _⟩ dL_benefitRoom_4 ?_
  have hD := hD (V, X)
  refine zi2l hC.1 hC.2.1 hr dL_benefitRoom_7 ?_
  refine jlas hC hK hP hD hS (q0 := 0) rfl (Nat.le_of_ble_eq_true rfl) (by decide) rfl dL_benefitRoom_8 (fun H locs hP hS => ?_)
  refine lv_goto (tgt := 15) hC.1 hC.2.1 dL_benefitRoom_9 (by decide) ?_
  refine ziconst hC.1 hC.2.1 dL_benefitRoom_15 ?_
  exact hret (Int32.ofInt 0) _ _ _ _ rfl hP hS dL_benefitRoom_16
abbrev rxL_benefitRoom : Room := { frames := 8, cells := 1, slots := 6, locals := 132 }
set_option maxHeartbeats 1000000 in
set_option maxRecDepth 100000 in
theorem wth0_benefitRoom (l : Launch) (D : va_G) (kA : Nat → ClassId) (a : Nat → Nat) (pf : Nat → Option Nat) (b : Nat) (V X : Sz) (T : Nat → Int) (x1 : Int) (hf : f_X7_benefitRoom V X x1 = some (.inr 0)) : MTH l yL_benefitRoom cL_benefitRoom 4 (some .int) [(0, 9, 12, 19)] rxL_benefitRoom D kA [.ref (a 0), vI x1, .ref b] (zO kA b T :: cs_X7 kA a V X pf) (some (vI 1)) := by
  refine zHT (own := RL) rfl rfl (Nat.le_of_ble_eq_true rfl) ?_
  intro p e s m args below meth c ls Q hC hK hP hX hN hT hl hret
  have hl : lv_has ls 4 [(0, .ref (a 0)), (1, vI x1), (2, .ref b)] := hl
  refine lv_aload_n hC.1 hC.2.1 dL_benefitRoom_0 rfl (lv_at hl 2 rfl) <| ziconst hC.1 hC.2.1 dL_benefitRoom_1 <| lv_aload_n hC.1 hC.2.1 dL_benefitRoom_2 rfl (lv_at hl 0 rfl) <| ziload_n hC.1 hC.2.1 dL_benefitRoom_3 rfl (lv_at hl 1 rfl) ?_
  refine zcVT (As := [vI x1]) (rest := [vI 0, .ref b]) hC hK hX (thr_X7_benefitRoom l D kA a pf V X x1 hf) zwL_97 (zPtail hP) (q0 := 0) rfl rfl rfl rfl hl.1 rfl (Nat.le_of_ble_eq_true rfl) ⟨(Nat.le_of_ble_eq_true rfl), (Nat.le_of_ble_eq_true rfl)⟩ ⟨rfl, rfl⟩ ⟨(Nat.le_of_ble_eq_true rfl), (Nat.le_of_ble_eq_true rfl)⟩ dL_benefitRoom_4 (fun ce q9 H h1 h2 h3 h4 h5 => ?_)
  refine vx_catch (own := RL) (name := zEx 0) (E := zEx 0) (pc := 4) hC.2.2.2.1 [] ⟨0, 9, 12, 19⟩ [] hT (fun z hz => absurd hz List.not_mem_nil) (by decide) (by decide) (hC.2.2.2.2 _ (qin_4 (i := 2) rfl rfl)) (va_tabs (zBd_tabs (List.mem_of_getElem? (i := 0) rfl)) rfl (hX.2.2.2 _ (List.mem_of_getElem? (i := 0) rfl))) h3 h4 h5 ?_
  refine lv_astore_n (lv' := [(3, .ref q9), (0, .ref (a 0)), (1, vI x1), (2, .ref b)]) (x := q9) hC.1 hC.2.1 dL_benefitRoom_12 rfl hl (by decide) rfl (fun ls hl => ?_)
  refine ziconst hC.1 hC.2.1 dL_benefitRoom_13 ?_
  exact hret (Int32.ofInt 1) _ _ _ rfl h1 h2 dL_benefitRoom_14
theorem DL_topDonor_0 : ∀ q ∈ ([(0, .aload_n 2, 1), (1, .iconst 0, 1), (2, .aload_n 0, 1), (3, .iload_n 1, 1), (4, .invokevirtual 100, 3), (7, .i2l, 1), (8, .lastore, 1), (9, .goto 6, 3), (12, .astore_n 3, 1), (13, .iconst 1, 1), (14, .ireturn, 1), (15, .iconst 0, 1), (16, .ireturn, 1)] : List (Nat × Instr × Nat)), decode cL_topDonor q.1 = .ok q.2 := by decide +kernel
theorem dL_topDonor_0 : decode cL_topDonor 0 = .ok (.aload_n 2, 1) := DL_topDonor_0 (0, .aload_n 2, 1) (List.mem_of_getElem? (i := 0) rfl)
theorem dL_topDonor_1 : decode cL_topDonor 1 = .ok (.iconst 0, 1) := DL_topDonor_0 (1, .iconst 0, 1) (List.mem_of_getElem? (i := 1) rfl)
theorem dL_topDonor_2 : decode cL_topDonor 2 = .ok (.aload_n 0, 1) := DL_topDonor_0 (2, .aload_n 0, 1) (List.mem_of_getElem? (i := 2) rfl)
theorem dL_topDonor_3 : decode cL_topDonor 3 = .ok (.iload_n 1, 1) := DL_topDonor_0 (3, .iload_n 1, 1) (List.mem_of_getElem? (i := 3) rfl)
theorem dL_topDonor_4 : decode cL_topDonor 4 = .ok (.invokevirtual 100, 3) := DL_topDonor_0 (4, .invokevirtual 100, 3) (List.mem_of_getElem? (i := 4) rfl)
theorem dL_topDonor_7 : decode cL_topDonor 7 = .ok (.i2l, 1) := DL_topDonor_0 (7, .i2l, 1) (List.mem_of_getElem? (i := 5) rfl)
theorem dL_topDonor_8 : decode cL_topDonor 8 = .ok (.lastore, 1) := DL_topDonor_0 (8, .lastore, 1) (List.mem_of_getElem? (i := 6) rfl)
theorem dL_topDonor_9 : decode cL_topDonor 9 = .ok (.goto 6, 3) := DL_topDonor_0 (9, .goto 6, 3) (List.mem_of_getElem? (i := 7) rfl)
theorem dL_topDonor_12 : decode cL_topDonor 12 = .ok (.astore_n 3, 1) := DL_topDonor_0 (12, .astore_n 3, 1) (List.mem_of_getElem? (i := 8) rfl)
theorem dL_topDonor_13 : decode cL_topDonor 13 = .ok (.iconst 1, 1) := DL_topDonor_0 (13, .iconst 1, 1) (List.mem_of_getElem? (i := 9) rfl)
theorem dL_topDonor_14 : decode cL_topDonor 14 = .ok (.ireturn, 1) := DL_topDonor_0 (14, .ireturn, 1) (List.mem_of_getElem? (i := 10) rfl)
theorem dL_topDonor_15 : decode cL_topDonor 15 = .ok (.iconst 0, 1) := DL_topDonor_0 (15, .iconst 0, 1) (List.mem_of_getElem? (i := 11) rfl)
theorem dL_topDonor_16 : decode cL_topDonor 16 = .ok (.ireturn, 1) := DL_topDonor_0 (16, .ireturn, 1) (List.mem_of_getElem? (i := 12) rfl)
abbrev rmL_topDonor : Room := { frames := 4, cells := 0, slots := 0, locals := 94 }
set_option maxHeartbeats 1000000 in
set_option maxRecDepth 100000 in
theorem wok_topDonor (l : Launch) (D : va_G) (kA : Nat → ClassId) (a : Nat → Nat) (pf : Nat → Option Nat) (b : Nat) (n : Nat) (V X : Sz) (T : Nat → Int) (x1 : Int) (hD0 : va_D (fun _ => True) (zO kA b T :: cs_X7 kA a V X pf)) {r : Int} (hf : f_X7_topDonor n V X x1 = some (.inl r)) (hr : rng r) : MZH l yL_topDonor cL_topDonor 4 (some .int) [(0, 9, 12, 13)] rmL_topDonor D kA [.ref (a 0), vI x1, .ref b] (zO kA b T :: cs_X7 kA a V X pf) (zO kA b (up T 0 r) :: cs_X7 kA a V X pf) (some (vI 0)) := by
  refine zHI (own := RL) rfl rfl (Nat.le_of_ble_eq_true rfl) ?_
  intro p e s m args below meth c ls Q hC hK hP hl hret
  have hl : lv_has ls 4 [(0, .ref (a 0)), (1, vI x1), (2, .ref b)] := hl
  have hS : va_S (zF (zO kA b T :: cs_X7 kA a V X pf)) s.heap s.heap [] := va_S.rf
  have hD0 : va_D (zF (zO kA b T :: cs_X7 kA a V X pf)) (zO kA b T :: cs_X7 kA a V X pf) := ⟨hD0.1, fun k q hk => ⟨k, q.2, hk⟩⟩
  generalize hAe : zF (zO kA b T :: cs_X7 kA a V X pf) = A0 at hS hD0 hret
  have hD : ∀ w : Sz × Sz, va_D A0 (zO kA b T :: cs_X7 kA a w.1 w.2 pf) := zDany (C := fun w : Sz × Sz => (zO kA b T :: cs_X7 kA a w.1 w.2 pf)) (V, X) (fun _ => rfl) hD0
  refine lv_aload_n hC.1 hC.2.1 dL_topDonor_0 rfl (lv_at hl 2 rfl) <| ziconst hC.1 hC.2.1 dL_topDonor_1 <| lv_aload_n hC.1 hC.2.1 dL_topDonor_2 rfl (lv_at hl 0 rfl) <| ziload_n hC.1 hC.2.1 dL_topDonor_3 rfl (lv_at hl 1 rfl) ?_
  refine zcVP (As := [vI x1]) (rest := [vI 0, .ref b]) hC hK (met_X7_topDonor l D kA a pf n V X x1 hf) zwL_100 (zPtail hP) (q0 := 0) rfl rfl rfl rfl hl.1 rfl (Nat.le_of_ble_eq_true rfl) ⟨(Nat.le_of_ble_eq_true rfl), (Nat.le_of_ble_eq_true rfl)⟩ ⟨rfl, rfl⟩ ⟨Nat.le_refl _, Nat.le_refl _⟩ dL_topDonor_4 ?_
  have hD := hD (V, X)
  refine zi2l hC.1 hC.2.1 hr dL_topDonor_7 ?_
  refine jlas hC hK hP hD hS (q0 := 0) rfl (Nat.le_of_ble_eq_true rfl) (by decide) rfl dL_topDonor_8 (fun H locs hP hS => ?_)
  refine lv_goto (tgt := 15) hC.1 hC.2.1 dL_topDonor_9 (by decide) ?_
  refine ziconst hC.1 hC.2.1 dL_topDonor_15 ?_
  exact hret (Int32.ofInt 0) _ _ _ _ rfl hP hS dL_topDonor_16
abbrev rxL_topDonor : Room := { frames := 8, cells := 1, slots := 6, locals := 137 }
set_option maxHeartbeats 1000000 in
set_option maxRecDepth 100000 in
theorem wth1_topDonor (l : Launch) (D : va_G) (kA : Nat → ClassId) (a : Nat → Nat) (pf : Nat → Option Nat) (b : Nat) (n : Nat) (V X : Sz) (T : Nat → Int) (x1 : Int) (hf : f_X7_topDonor n V X x1 = some (.inr 1)) : MTH l yL_topDonor cL_topDonor 4 (some .int) [(0, 9, 12, 13)] rxL_topDonor D kA [.ref (a 0), vI x1, .ref b] (zO kA b T :: cs_X7 kA a V X pf) (some (vI 1)) := by
  refine zHT (own := RL) rfl rfl (Nat.le_of_ble_eq_true rfl) ?_
  intro p e s m args below meth c ls Q hC hK hP hX hN hT hl hret
  have hl : lv_has ls 4 [(0, .ref (a 0)), (1, vI x1), (2, .ref b)] := hl
  refine lv_aload_n hC.1 hC.2.1 dL_topDonor_0 rfl (lv_at hl 2 rfl) <| ziconst hC.1 hC.2.1 dL_topDonor_1 <| lv_aload_n hC.1 hC.2.1 dL_topDonor_2 rfl (lv_at hl 0 rfl) <| ziload_n hC.1 hC.2.1 dL_topDonor_3 rfl (lv_at hl 1 rfl) ?_
  refine zcVT (As := [vI x1]) (rest := [vI 0, .ref b]) hC hK hX (thr_X7_topDonor l D kA a pf n V X x1 hf) zwL_100 (zPtail hP) (q0 := 0) rfl rfl rfl rfl hl.1 rfl (Nat.le_of_ble_eq_true rfl) ⟨(Nat.le_of_ble_eq_true rfl), (Nat.le_of_ble_eq_true rfl)⟩ ⟨rfl, rfl⟩ ⟨(Nat.le_of_ble_eq_true rfl), (Nat.le_of_ble_eq_true rfl)⟩ dL_topDonor_4 (fun ce q9 H h1 h2 h3 h4 h5 => ?_)
  refine vx_catch (own := RL) (name := zEx 1) (E := zEx 1) (pc := 4) hC.2.2.2.1 [] ⟨0, 9, 12, 13⟩ [] hT (fun z hz => absurd hz List.not_mem_nil) (by decide) (by decide) (hC.2.2.2.2 _ (qin_3 (i := 159) rfl rfl)) (va_tabs (zBd_tabs (List.mem_of_getElem? (i := 1) rfl)) rfl (hX.2.2.2 _ (List.mem_of_getElem? (i := 1) rfl))) h3 h4 h5 ?_
  refine lv_astore_n (lv' := [(3, .ref q9), (0, .ref (a 0)), (1, vI x1), (2, .ref b)]) (x := q9) hC.1 hC.2.1 dL_topDonor_12 rfl hl (by decide) rfl (fun ls hl => ?_)
  refine ziconst hC.1 hC.2.1 dL_topDonor_13 ?_
  exact hret (Int32.ofInt 1) _ _ _ rfl h1 h2 dL_topDonor_14
theorem DL_longestSpan_0 : ∀ q ∈ ([(0, .aload_n 2, 1), (1, .iconst 0, 1), (2, .aload_n 0, 1), (3, .iload_n 1, 1), (4, .invokevirtual 103, 3), (7, .i2l, 1), (8, .lastore, 1), (9, .goto 6, 3), (12, .astore_n 3, 1), (13, .iconst 1, 1), (14, .ireturn, 1), (15, .iconst 0, 1), (16, .ireturn, 1)] : List (Nat × Instr × Nat)), decode cL_longestSpan q.1 = .ok q.2 := by decide +kernel
theorem dL_longestSpan_0 : decode cL_longestSpan 0 = .ok (.aload_n 2, 1) := DL_longestSpan_0 (0, .aload_n 2, 1) (List.mem_of_getElem? (i := 0) rfl)
theorem dL_longestSpan_1 : decode cL_longestSpan 1 = .ok (.iconst 0, 1) := DL_longestSpan_0 (1, .iconst 0, 1) (List.mem_of_getElem? (i := 1) rfl)
theorem dL_longestSpan_2 : decode cL_longestSpan 2 = .ok (.aload_n 0, 1) := DL_longestSpan_0 (2, .aload_n 0, 1) (List.mem_of_getElem? (i := 2) rfl)
theorem dL_longestSpan_3 : decode cL_longestSpan 3 = .ok (.iload_n 1, 1) := DL_longestSpan_0 (3, .iload_n 1, 1) (List.mem_of_getElem? (i := 3) rfl)
theorem dL_longestSpan_4 : decode cL_longestSpan 4 = .ok (.invokevirtual 103, 3) := DL_longestSpan_0 (4, .invokevirtual 103, 3) (List.mem_of_getElem? (i := 4) rfl)
theorem dL_longestSpan_7 : decode cL_longestSpan 7 = .ok (.i2l, 1) := DL_longestSpan_0 (7, .i2l, 1) (List.mem_of_getElem? (i := 5) rfl)
theorem dL_longestSpan_8 : decode cL_longestSpan 8 = .ok (.lastore, 1) := DL_longestSpan_0 (8, .lastore, 1) (List.mem_of_getElem? (i := 6) rfl)
theorem dL_longestSpan_9 : decode cL_longestSpan 9 = .ok (.goto 6, 3) := DL_longestSpan_0 (9, .goto 6, 3) (List.mem_of_getElem? (i := 7) rfl)
theorem dL_longestSpan_12 : decode cL_longestSpan 12 = .ok (.astore_n 3, 1) := DL_longestSpan_0 (12, .astore_n 3, 1) (List.mem_of_getElem? (i := 8) rfl)
theorem dL_longestSpan_13 : decode cL_longestSpan 13 = .ok (.iconst 1, 1) := DL_longestSpan_0 (13, .iconst 1, 1) (List.mem_of_getElem? (i := 9) rfl)
theorem dL_longestSpan_14 : decode cL_longestSpan 14 = .ok (.ireturn, 1) := DL_longestSpan_0 (14, .ireturn, 1) (List.mem_of_getElem? (i := 10) rfl)
theorem dL_longestSpan_15 : decode cL_longestSpan 15 = .ok (.iconst 0, 1) := DL_longestSpan_0 (15, .iconst 0, 1) (List.mem_of_getElem? (i := 11) rfl)
theorem dL_longestSpan_16 : decode cL_longestSpan 16 = .ok (.ireturn, 1) := DL_longestSpan_0 (16, .ireturn, 1) (List.mem_of_getElem? (i := 12) rfl)
abbrev rmL_longestSpan : Room := { frames := 4, cells := 0, slots := 0, locals := 131 }
set_option maxHeartbeats 1000000 in
set_option maxRecDepth 100000 in
theorem wok_longestSpan (l : Launch) (D : va_G) (kA : Nat → ClassId) (a : Nat → Nat) (pf : Nat → Option Nat) (b : Nat) (n : Nat) (V X : Sz) (T : Nat → Int) (x1 : Int) (hD0 : va_D (fun _ => True) (zO kA b T :: cs_X7 kA a V X pf)) {r : Int} (hf : f_X7_longestSpan n V X x1 = some (.inl r)) (hr : rng r) : MZH l yL_longestSpan cL_longestSpan 4 (some .int) [(0, 9, 12, 19)] rmL_longestSpan D kA [.ref (a 0), vI x1, .ref b] (zO kA b T :: cs_X7 kA a V X pf) (zO kA b (up T 0 r) :: cs_X7 kA a V X pf) (some (vI 0)) := by
  refine zHI (own := RL) rfl rfl (Nat.le_of_ble_eq_true rfl) ?_
  intro p e s m args below meth c ls Q hC hK hP hl hret
  have hl : lv_has ls 4 [(0, .ref (a 0)), (1, vI x1), (2, .ref b)] := hl
  have hS : va_S (zF (zO kA b T :: cs_X7 kA a V X pf)) s.heap s.heap [] := va_S.rf
  have hD0 : va_D (zF (zO kA b T :: cs_X7 kA a V X pf)) (zO kA b T :: cs_X7 kA a V X pf) := ⟨hD0.1, fun k q hk => ⟨k, q.2, hk⟩⟩
  generalize hAe : zF (zO kA b T :: cs_X7 kA a V X pf) = A0 at hS hD0 hret
  have hD : ∀ w : Sz × Sz, va_D A0 (zO kA b T :: cs_X7 kA a w.1 w.2 pf) := zDany (C := fun w : Sz × Sz => (zO kA b T :: cs_X7 kA a w.1 w.2 pf)) (V, X) (fun _ => rfl) hD0
  refine lv_aload_n hC.1 hC.2.1 dL_longestSpan_0 rfl (lv_at hl 2 rfl) <| ziconst hC.1 hC.2.1 dL_longestSpan_1 <| lv_aload_n hC.1 hC.2.1 dL_longestSpan_2 rfl (lv_at hl 0 rfl) <| ziload_n hC.1 hC.2.1 dL_longestSpan_3 rfl (lv_at hl 1 rfl) ?_
  refine zcVP (As := [vI x1]) (rest := [vI 0, .ref b]) hC hK (met_X7_longestSpan l D kA a pf n V X x1 hf) zwL_103 (zPtail hP) (q0 := 0) rfl rfl rfl rfl hl.1 rfl (Nat.le_of_ble_eq_true rfl) ⟨(Nat.le_of_ble_eq_true rfl), (Nat.le_of_ble_eq_true rfl)⟩ ⟨rfl, rfl⟩ ⟨Nat.le_refl _, Nat.le_refl _⟩ dL_longestSpan_4 ?_
  have hD := hD (V, X)
  refine zi2l hC.1 hC.2.1 hr dL_longestSpan_7 ?_
  refine jlas hC hK hP hD hS (q0 := 0) rfl (Nat.le_of_ble_eq_true rfl) (by decide) rfl dL_longestSpan_8 (fun H locs hP hS => ?_)
  refine lv_goto (tgt := 15) hC.1 hC.2.1 dL_longestSpan_9 (by decide) ?_
  refine ziconst hC.1 hC.2.1 dL_longestSpan_15 ?_
  exact hret (Int32.ofInt 0) _ _ _ _ rfl hP hS dL_longestSpan_16
abbrev rxL_longestSpan : Room := { frames := 8, cells := 1, slots := 6, locals := 132 }
set_option maxHeartbeats 1000000 in
set_option maxRecDepth 100000 in
theorem wth0_longestSpan (l : Launch) (D : va_G) (kA : Nat → ClassId) (a : Nat → Nat) (pf : Nat → Option Nat) (b : Nat) (n : Nat) (V X : Sz) (T : Nat → Int) (x1 : Int) (hf : f_X7_longestSpan n V X x1 = some (.inr 0)) : MTH l yL_longestSpan cL_longestSpan 4 (some .int) [(0, 9, 12, 19)] rxL_longestSpan D kA [.ref (a 0), vI x1, .ref b] (zO kA b T :: cs_X7 kA a V X pf) (some (vI 1)) := by
  refine zHT (own := RL) rfl rfl (Nat.le_of_ble_eq_true rfl) ?_
  intro p e s m args below meth c ls Q hC hK hP hX hN hT hl hret
  have hl : lv_has ls 4 [(0, .ref (a 0)), (1, vI x1), (2, .ref b)] := hl
  refine lv_aload_n hC.1 hC.2.1 dL_longestSpan_0 rfl (lv_at hl 2 rfl) <| ziconst hC.1 hC.2.1 dL_longestSpan_1 <| lv_aload_n hC.1 hC.2.1 dL_longestSpan_2 rfl (lv_at hl 0 rfl) <| ziload_n hC.1 hC.2.1 dL_longestSpan_3 rfl (lv_at hl 1 rfl) ?_
  refine zcVT (As := [vI x1]) (rest := [vI 0, .ref b]) hC hK hX (thr_X7_longestSpan l D kA a pf n V X x1 hf) zwL_103 (zPtail hP) (q0 := 0) rfl rfl rfl rfl hl.1 rfl (Nat.le_of_ble_eq_true rfl) ⟨(Nat.le_of_ble_eq_true rfl), (Nat.le_of_ble_eq_true rfl)⟩ ⟨rfl, rfl⟩ ⟨(Nat.le_of_ble_eq_true rfl), (Nat.le_of_ble_eq_true rfl)⟩ dL_longestSpan_4 (fun ce q9 H h1 h2 h3 h4 h5 => ?_)
  refine vx_catch (own := RL) (name := zEx 0) (E := zEx 0) (pc := 4) hC.2.2.2.1 [] ⟨0, 9, 12, 19⟩ [] hT (fun z hz => absurd hz List.not_mem_nil) (by decide) (by decide) (hC.2.2.2.2 _ (qin_4 (i := 2) rfl rfl)) (va_tabs (zBd_tabs (List.mem_of_getElem? (i := 0) rfl)) rfl (hX.2.2.2 _ (List.mem_of_getElem? (i := 0) rfl))) h3 h4 h5 ?_
  refine lv_astore_n (lv' := [(3, .ref q9), (0, .ref (a 0)), (1, vI x1), (2, .ref b)]) (x := q9) hC.1 hC.2.1 dL_longestSpan_12 rfl hl (by decide) rfl (fun ls hl => ?_)
  refine ziconst hC.1 hC.2.1 dL_longestSpan_13 ?_
  exact hret (Int32.ofInt 1) _ _ _ rfl h1 h2 dL_longestSpan_14
theorem DL_gainOf_0 : ∀ q ∈ ([(0, .aload 4, 2), (2, .iconst 0, 1), (3, .aload_n 0, 1), (4, .iload_n 1, 1), (5, .iload_n 2, 1), (6, .iload_n 3, 1), (7, .invokevirtual 106, 3), (10, .i2l, 1), (11, .lastore, 1), (12, .goto 11, 3), (15, .astore 5, 2), (17, .iconst 1, 1), (18, .ireturn, 1), (19, .astore 5, 2), (21, .iconst 2, 1), (22, .ireturn, 1), (23, .iconst 0, 1), (24, .ireturn, 1)] : List (Nat × Instr × Nat)), decode cL_gainOf q.1 = .ok q.2 := by decide +kernel
theorem dL_gainOf_0 : decode cL_gainOf 0 = .ok (.aload 4, 2) := DL_gainOf_0 (0, .aload 4, 2) (List.mem_of_getElem? (i := 0) rfl)
theorem dL_gainOf_2 : decode cL_gainOf 2 = .ok (.iconst 0, 1) := DL_gainOf_0 (2, .iconst 0, 1) (List.mem_of_getElem? (i := 1) rfl)
theorem dL_gainOf_3 : decode cL_gainOf 3 = .ok (.aload_n 0, 1) := DL_gainOf_0 (3, .aload_n 0, 1) (List.mem_of_getElem? (i := 2) rfl)
theorem dL_gainOf_4 : decode cL_gainOf 4 = .ok (.iload_n 1, 1) := DL_gainOf_0 (4, .iload_n 1, 1) (List.mem_of_getElem? (i := 3) rfl)
theorem dL_gainOf_5 : decode cL_gainOf 5 = .ok (.iload_n 2, 1) := DL_gainOf_0 (5, .iload_n 2, 1) (List.mem_of_getElem? (i := 4) rfl)
theorem dL_gainOf_6 : decode cL_gainOf 6 = .ok (.iload_n 3, 1) := DL_gainOf_0 (6, .iload_n 3, 1) (List.mem_of_getElem? (i := 5) rfl)
theorem dL_gainOf_7 : decode cL_gainOf 7 = .ok (.invokevirtual 106, 3) := DL_gainOf_0 (7, .invokevirtual 106, 3) (List.mem_of_getElem? (i := 6) rfl)
theorem dL_gainOf_10 : decode cL_gainOf 10 = .ok (.i2l, 1) := DL_gainOf_0 (10, .i2l, 1) (List.mem_of_getElem? (i := 7) rfl)
theorem dL_gainOf_11 : decode cL_gainOf 11 = .ok (.lastore, 1) := DL_gainOf_0 (11, .lastore, 1) (List.mem_of_getElem? (i := 8) rfl)
theorem dL_gainOf_12 : decode cL_gainOf 12 = .ok (.goto 11, 3) := DL_gainOf_0 (12, .goto 11, 3) (List.mem_of_getElem? (i := 9) rfl)
theorem dL_gainOf_15 : decode cL_gainOf 15 = .ok (.astore 5, 2) := DL_gainOf_0 (15, .astore 5, 2) (List.mem_of_getElem? (i := 10) rfl)
theorem dL_gainOf_17 : decode cL_gainOf 17 = .ok (.iconst 1, 1) := DL_gainOf_0 (17, .iconst 1, 1) (List.mem_of_getElem? (i := 11) rfl)
theorem dL_gainOf_18 : decode cL_gainOf 18 = .ok (.ireturn, 1) := DL_gainOf_0 (18, .ireturn, 1) (List.mem_of_getElem? (i := 12) rfl)
theorem dL_gainOf_19 : decode cL_gainOf 19 = .ok (.astore 5, 2) := DL_gainOf_0 (19, .astore 5, 2) (List.mem_of_getElem? (i := 13) rfl)
theorem dL_gainOf_21 : decode cL_gainOf 21 = .ok (.iconst 2, 1) := DL_gainOf_0 (21, .iconst 2, 1) (List.mem_of_getElem? (i := 14) rfl)
theorem dL_gainOf_22 : decode cL_gainOf 22 = .ok (.ireturn, 1) := DL_gainOf_0 (22, .ireturn, 1) (List.mem_of_getElem? (i := 15) rfl)
theorem dL_gainOf_23 : decode cL_gainOf 23 = .ok (.iconst 0, 1) := DL_gainOf_0 (23, .iconst 0, 1) (List.mem_of_getElem? (i := 16) rfl)
theorem dL_gainOf_24 : decode cL_gainOf 24 = .ok (.ireturn, 1) := DL_gainOf_0 (24, .ireturn, 1) (List.mem_of_getElem? (i := 17) rfl)
abbrev rmL_gainOf : Room := { frames := 5, cells := 0, slots := 0, locals := 135 }
set_option maxHeartbeats 1000000 in
set_option maxRecDepth 100000 in
theorem wok_gainOf (l : Launch) (D : va_G) (kA : Nat → ClassId) (a : Nat → Nat) (pf : Nat → Option Nat) (b : Nat) (n : Nat) (V X : Sz) (T : Nat → Int) (x1 : Int) (x2 : Int) (x3 : Int) (hD0 : va_D (fun _ => True) (zO kA b T :: cs_X7 kA a V X pf)) {r : Int} (hf : f_X7_gainOf n V X x1 x2 x3 = some (.inl r)) (hr : rng r) : MZH l yL_gainOf cL_gainOf 6 (some .int) [(0, 12, 15, 19), (0, 12, 19, 13)] rmL_gainOf D kA [.ref (a 0), vI x1, vI x2, vI x3, .ref b] (zO kA b T :: cs_X7 kA a V X pf) (zO kA b (up T 0 r) :: cs_X7 kA a V X pf) (some (vI 0)) := by
  refine zHI (own := RL) rfl rfl (Nat.le_of_ble_eq_true rfl) ?_
  intro p e s m args below meth c ls Q hC hK hP hl hret
  have hl : lv_has ls 6 [(0, .ref (a 0)), (1, vI x1), (2, vI x2), (3, vI x3), (4, .ref b)] := hl
  have hS : va_S (zF (zO kA b T :: cs_X7 kA a V X pf)) s.heap s.heap [] := va_S.rf
  have hD0 : va_D (zF (zO kA b T :: cs_X7 kA a V X pf)) (zO kA b T :: cs_X7 kA a V X pf) := ⟨hD0.1, fun k q hk => ⟨k, q.2, hk⟩⟩
  generalize hAe : zF (zO kA b T :: cs_X7 kA a V X pf) = A0 at hS hD0 hret
  have hD : ∀ w : Sz × Sz, va_D A0 (zO kA b T :: cs_X7 kA a w.1 w.2 pf) := zDany (C := fun w : Sz × Sz => (zO kA b T :: cs_X7 kA a w.1 w.2 pf)) (V, X) (fun _ => rfl) hD0
  refine lv_aload hC.1 hC.2.1 dL_gainOf_0 (lv_at hl 4 rfl) <| ziconst hC.1 hC.2.1 dL_gainOf_2 <| lv_aload_n hC.1 hC.2.1 dL_gainOf_3 rfl (lv_at hl 0 rfl) <| ziload_n hC.1 hC.2.1 dL_gainOf_4 rfl (lv_at hl 1 rfl) <| ziload_n hC.1 hC.2.1 dL_gainOf_5 rfl (lv_at hl 2 rfl) <| ziload_n hC.1 hC.2.1 dL_gainOf_6 rfl (lv_at hl 3 rfl) ?_
  refine zcVP (As := [vI x1, vI x2, vI x3]) (rest := [vI 0, .ref b]) hC hK (met_X7_gainOf l D kA a pf n V X x1 x2 x3 hf) zwL_106 (zPtail hP) (q0 := 0) rfl rfl rfl rfl hl.1 rfl (Nat.le_of_ble_eq_true rfl) ⟨(Nat.le_of_ble_eq_true rfl), (Nat.le_of_ble_eq_true rfl)⟩ ⟨rfl, rfl⟩ ⟨Nat.le_refl _, Nat.le_refl _⟩ dL_gainOf_7 ?_
  have hD := hD (V, X)
  refine zi2l hC.1 hC.2.1 hr dL_gainOf_10 ?_
  refine jlas hC hK hP hD hS (q0 := 0) rfl (Nat.le_of_ble_eq_true rfl) (by decide) rfl dL_gainOf_11 (fun H locs hP hS => ?_)
  refine lv_goto (tgt := 23) hC.1 hC.2.1 dL_gainOf_12 (by decide) ?_
  refine ziconst hC.1 hC.2.1 dL_gainOf_23 ?_
  exact hret (Int32.ofInt 0) _ _ _ _ rfl hP hS dL_gainOf_24
abbrev rxL_gainOf : Room := { frames := 9, cells := 1, slots := 6, locals := 156 }
set_option maxHeartbeats 1000000 in
set_option maxRecDepth 100000 in
theorem wth0_gainOf (l : Launch) (D : va_G) (kA : Nat → ClassId) (a : Nat → Nat) (pf : Nat → Option Nat) (b : Nat) (n : Nat) (V X : Sz) (T : Nat → Int) (x1 : Int) (x2 : Int) (x3 : Int) (hf : f_X7_gainOf n V X x1 x2 x3 = some (.inr 0)) : MTH l yL_gainOf cL_gainOf 6 (some .int) [(0, 12, 15, 19), (0, 12, 19, 13)] rxL_gainOf D kA [.ref (a 0), vI x1, vI x2, vI x3, .ref b] (zO kA b T :: cs_X7 kA a V X pf) (some (vI 1)) := by
  refine zHT (own := RL) rfl rfl (Nat.le_of_ble_eq_true rfl) ?_
  intro p e s m args below meth c ls Q hC hK hP hX hN hT hl hret
  have hl : lv_has ls 6 [(0, .ref (a 0)), (1, vI x1), (2, vI x2), (3, vI x3), (4, .ref b)] := hl
  refine lv_aload hC.1 hC.2.1 dL_gainOf_0 (lv_at hl 4 rfl) <| ziconst hC.1 hC.2.1 dL_gainOf_2 <| lv_aload_n hC.1 hC.2.1 dL_gainOf_3 rfl (lv_at hl 0 rfl) <| ziload_n hC.1 hC.2.1 dL_gainOf_4 rfl (lv_at hl 1 rfl) <| ziload_n hC.1 hC.2.1 dL_gainOf_5 rfl (lv_at hl 2 rfl) <| ziload_n hC.1 hC.2.1 dL_gainOf_6 rfl (lv_at hl 3 rfl) ?_
  refine zcVT (As := [vI x1, vI x2, vI x3]) (rest := [vI 0, .ref b]) hC hK hX (thr_X7_gainOf l D kA a pf n V X x1 x2 x3 hf) zwL_106 (zPtail hP) (q0 := 0) rfl rfl rfl rfl hl.1 rfl (Nat.le_of_ble_eq_true rfl) ⟨(Nat.le_of_ble_eq_true rfl), (Nat.le_of_ble_eq_true rfl)⟩ ⟨rfl, rfl⟩ ⟨(Nat.le_of_ble_eq_true rfl), (Nat.le_of_ble_eq_true rfl)⟩ dL_gainOf_7 (fun ce q9 H h1 h2 h3 h4 h5 => ?_)
  refine vx_catch (own := RL) (name := zEx 0) (E := zEx 0) (pc := 7) hC.2.2.2.1 [] ⟨0, 12, 15, 19⟩ [⟨0, 12, 19, 13⟩] hT (fun z hz => absurd hz List.not_mem_nil) (by decide) (by decide) (hC.2.2.2.2 _ (qin_4 (i := 2) rfl rfl)) (va_tabs (zBd_tabs (List.mem_of_getElem? (i := 0) rfl)) rfl (hX.2.2.2 _ (List.mem_of_getElem? (i := 0) rfl))) h3 h4 h5 ?_
  refine lv_astore (lv' := [(5, .ref q9), (0, .ref (a 0)), (1, vI x1), (2, vI x2), (3, vI x3), (4, .ref b)]) (x := q9) hC.1 hC.2.1 dL_gainOf_15 hl (by decide) rfl (fun ls hl => ?_)
  refine ziconst hC.1 hC.2.1 dL_gainOf_17 ?_
  exact hret (Int32.ofInt 1) _ _ _ rfl h1 h2 dL_gainOf_18
set_option maxHeartbeats 1000000 in
set_option maxRecDepth 100000 in
theorem wth1_gainOf (l : Launch) (D : va_G) (kA : Nat → ClassId) (a : Nat → Nat) (pf : Nat → Option Nat) (b : Nat) (n : Nat) (V X : Sz) (T : Nat → Int) (x1 : Int) (x2 : Int) (x3 : Int) (hf : f_X7_gainOf n V X x1 x2 x3 = some (.inr 1)) : MTH l yL_gainOf cL_gainOf 6 (some .int) [(0, 12, 15, 19), (0, 12, 19, 13)] rxL_gainOf D kA [.ref (a 0), vI x1, vI x2, vI x3, .ref b] (zO kA b T :: cs_X7 kA a V X pf) (some (vI 2)) := by
  refine zHT (own := RL) rfl rfl (Nat.le_of_ble_eq_true rfl) ?_
  intro p e s m args below meth c ls Q hC hK hP hX hN hT hl hret
  have hl : lv_has ls 6 [(0, .ref (a 0)), (1, vI x1), (2, vI x2), (3, vI x3), (4, .ref b)] := hl
  refine lv_aload hC.1 hC.2.1 dL_gainOf_0 (lv_at hl 4 rfl) <| ziconst hC.1 hC.2.1 dL_gainOf_2 <| lv_aload_n hC.1 hC.2.1 dL_gainOf_3 rfl (lv_at hl 0 rfl) <| ziload_n hC.1 hC.2.1 dL_gainOf_4 rfl (lv_at hl 1 rfl) <| ziload_n hC.1 hC.2.1 dL_gainOf_5 rfl (lv_at hl 2 rfl) <| ziload_n hC.1 hC.2.1 dL_gainOf_6 rfl (lv_at hl 3 rfl) ?_
  refine zcVT (As := [vI x1, vI x2, vI x3]) (rest := [vI 0, .ref b]) hC hK hX (thr_X7_gainOf l D kA a pf n V X x1 x2 x3 hf) zwL_106 (zPtail hP) (q0 := 0) rfl rfl rfl rfl hl.1 rfl (Nat.le_of_ble_eq_true rfl) ⟨(Nat.le_of_ble_eq_true rfl), (Nat.le_of_ble_eq_true rfl)⟩ ⟨rfl, rfl⟩ ⟨(Nat.le_of_ble_eq_true rfl), (Nat.le_of_ble_eq_true rfl)⟩ dL_gainOf_7 (fun ce q9 H h1 h2 h3 h4 h5 => ?_)
  refine vx_catch (own := RL) (name := zEx 1) (E := zEx 1) (pc := 7) hC.2.2.2.1 [⟨0, 12, 15, 19⟩] ⟨0, 12, 19, 13⟩ [] hT (List.forall_mem_cons.mpr ⟨Or.inr ⟨by decide, zEx 0, hC.2.2.2.2 _ (qin_4 (i := 2) rfl rfl), hN _ (List.mem_of_getElem? (i := 0) rfl)⟩, fun z hz => absurd hz List.not_mem_nil⟩) (by decide) (by decide) (hC.2.2.2.2 _ (qin_3 (i := 159) rfl rfl)) (va_tabs (zBd_tabs (List.mem_of_getElem? (i := 1) rfl)) rfl (hX.2.2.2 _ (List.mem_of_getElem? (i := 1) rfl))) h3 h4 h5 ?_
  refine lv_astore (lv' := [(5, .ref q9), (0, .ref (a 0)), (1, vI x1), (2, vI x2), (3, vI x3), (4, .ref b)]) (x := q9) hC.1 hC.2.1 dL_gainOf_19 hl (by decide) rfl (fun ls hl => ?_)
  refine ziconst hC.1 hC.2.1 dL_gainOf_21 ?_
  exact hret (Int32.ofInt 2) _ _ _ rfl h1 h2 dL_gainOf_22
theorem DL_neededSpan_0 : ∀ q ∈ ([(0, .aload_n 3, 1), (1, .iconst 0, 1), (2, .aload_n 0, 1), (3, .iload_n 1, 1), (4, .iload_n 2, 1), (5, .invokevirtual 109, 3), (8, .i2l, 1), (9, .lastore, 1), (10, .goto 7, 3), (13, .astore 4, 2), (15, .iconst 1, 1), (16, .ireturn, 1), (17, .iconst 0, 1), (18, .ireturn, 1)] : List (Nat × Instr × Nat)), decode cL_neededSpan q.1 = .ok q.2 := by decide +kernel
theorem dL_neededSpan_0 : decode cL_neededSpan 0 = .ok (.aload_n 3, 1) := DL_neededSpan_0 (0, .aload_n 3, 1) (List.mem_of_getElem? (i := 0) rfl)
theorem dL_neededSpan_1 : decode cL_neededSpan 1 = .ok (.iconst 0, 1) := DL_neededSpan_0 (1, .iconst 0, 1) (List.mem_of_getElem? (i := 1) rfl)
theorem dL_neededSpan_2 : decode cL_neededSpan 2 = .ok (.aload_n 0, 1) := DL_neededSpan_0 (2, .aload_n 0, 1) (List.mem_of_getElem? (i := 2) rfl)
theorem dL_neededSpan_3 : decode cL_neededSpan 3 = .ok (.iload_n 1, 1) := DL_neededSpan_0 (3, .iload_n 1, 1) (List.mem_of_getElem? (i := 3) rfl)
theorem dL_neededSpan_4 : decode cL_neededSpan 4 = .ok (.iload_n 2, 1) := DL_neededSpan_0 (4, .iload_n 2, 1) (List.mem_of_getElem? (i := 4) rfl)
theorem dL_neededSpan_5 : decode cL_neededSpan 5 = .ok (.invokevirtual 109, 3) := DL_neededSpan_0 (5, .invokevirtual 109, 3) (List.mem_of_getElem? (i := 5) rfl)
theorem dL_neededSpan_8 : decode cL_neededSpan 8 = .ok (.i2l, 1) := DL_neededSpan_0 (8, .i2l, 1) (List.mem_of_getElem? (i := 6) rfl)
theorem dL_neededSpan_9 : decode cL_neededSpan 9 = .ok (.lastore, 1) := DL_neededSpan_0 (9, .lastore, 1) (List.mem_of_getElem? (i := 7) rfl)
theorem dL_neededSpan_10 : decode cL_neededSpan 10 = .ok (.goto 7, 3) := DL_neededSpan_0 (10, .goto 7, 3) (List.mem_of_getElem? (i := 8) rfl)
theorem dL_neededSpan_13 : decode cL_neededSpan 13 = .ok (.astore 4, 2) := DL_neededSpan_0 (13, .astore 4, 2) (List.mem_of_getElem? (i := 9) rfl)
theorem dL_neededSpan_15 : decode cL_neededSpan 15 = .ok (.iconst 1, 1) := DL_neededSpan_0 (15, .iconst 1, 1) (List.mem_of_getElem? (i := 10) rfl)
theorem dL_neededSpan_16 : decode cL_neededSpan 16 = .ok (.ireturn, 1) := DL_neededSpan_0 (16, .ireturn, 1) (List.mem_of_getElem? (i := 11) rfl)
theorem dL_neededSpan_17 : decode cL_neededSpan 17 = .ok (.iconst 0, 1) := DL_neededSpan_0 (17, .iconst 0, 1) (List.mem_of_getElem? (i := 12) rfl)
theorem dL_neededSpan_18 : decode cL_neededSpan 18 = .ok (.ireturn, 1) := DL_neededSpan_0 (18, .ireturn, 1) (List.mem_of_getElem? (i := 13) rfl)
abbrev rmL_neededSpan : Room := { frames := 5, cells := 0, slots := 0, locals := 139 }
set_option maxHeartbeats 1000000 in
set_option maxRecDepth 100000 in
theorem wok_neededSpan (l : Launch) (D : va_G) (kA : Nat → ClassId) (a : Nat → Nat) (pf : Nat → Option Nat) (b : Nat) (n : Nat) (V X : Sz) (T : Nat → Int) (x1 : Int) (x2 : Int) (hD0 : va_D (fun _ => True) (zO kA b T :: cs_X7 kA a V X pf)) {r : Int} (hf : f_X7_neededSpan n V X x1 x2 = some (.inl r)) (hr : rng r) : MZH l yL_neededSpan cL_neededSpan 5 (some .int) [(0, 10, 13, 19)] rmL_neededSpan D kA [.ref (a 0), vI x1, vI x2, .ref b] (zO kA b T :: cs_X7 kA a V X pf) (zO kA b (up T 0 r) :: cs_X7 kA a V X pf) (some (vI 0)) := by
  refine zHI (own := RL) rfl rfl (Nat.le_of_ble_eq_true rfl) ?_
  intro p e s m args below meth c ls Q hC hK hP hl hret
  have hl : lv_has ls 5 [(0, .ref (a 0)), (1, vI x1), (2, vI x2), (3, .ref b)] := hl
  have hS : va_S (zF (zO kA b T :: cs_X7 kA a V X pf)) s.heap s.heap [] := va_S.rf
  have hD0 : va_D (zF (zO kA b T :: cs_X7 kA a V X pf)) (zO kA b T :: cs_X7 kA a V X pf) := ⟨hD0.1, fun k q hk => ⟨k, q.2, hk⟩⟩
  generalize hAe : zF (zO kA b T :: cs_X7 kA a V X pf) = A0 at hS hD0 hret
  have hD : ∀ w : Sz × Sz, va_D A0 (zO kA b T :: cs_X7 kA a w.1 w.2 pf) := zDany (C := fun w : Sz × Sz => (zO kA b T :: cs_X7 kA a w.1 w.2 pf)) (V, X) (fun _ => rfl) hD0
  refine lv_aload_n hC.1 hC.2.1 dL_neededSpan_0 rfl (lv_at hl 3 rfl) <| ziconst hC.1 hC.2.1 dL_neededSpan_1 <| lv_aload_n hC.1 hC.2.1 dL_neededSpan_2 rfl (lv_at hl 0 rfl) <| ziload_n hC.1 hC.2.1 dL_neededSpan_3 rfl (lv_at hl 1 rfl) <| ziload_n hC.1 hC.2.1 dL_neededSpan_4 rfl (lv_at hl 2 rfl) ?_
  refine zcVP (As := [vI x1, vI x2]) (rest := [vI 0, .ref b]) hC hK (met_X7_neededSpan l D kA a pf n V X x1 x2 hf) zwL_109 (zPtail hP) (q0 := 0) rfl rfl rfl rfl hl.1 rfl (Nat.le_of_ble_eq_true rfl) ⟨(Nat.le_of_ble_eq_true rfl), (Nat.le_of_ble_eq_true rfl)⟩ ⟨rfl, rfl⟩ ⟨Nat.le_refl _, Nat.le_refl _⟩ dL_neededSpan_5 ?_
  have hD := hD (V, X)
  refine zi2l hC.1 hC.2.1 hr dL_neededSpan_8 ?_
  refine jlas hC hK hP hD hS (q0 := 0) rfl (Nat.le_of_ble_eq_true rfl) (by decide) rfl dL_neededSpan_9 (fun H locs hP hS => ?_)
  refine lv_goto (tgt := 17) hC.1 hC.2.1 dL_neededSpan_10 (by decide) ?_
  refine ziconst hC.1 hC.2.1 dL_neededSpan_17 ?_
  exact hret (Int32.ofInt 0) _ _ _ _ rfl hP hS dL_neededSpan_18
abbrev rxL_neededSpan : Room := { frames := 8, cells := 1, slots := 6, locals := 139 }
set_option maxHeartbeats 1000000 in
set_option maxRecDepth 100000 in
theorem wth0_neededSpan (l : Launch) (D : va_G) (kA : Nat → ClassId) (a : Nat → Nat) (pf : Nat → Option Nat) (b : Nat) (n : Nat) (V X : Sz) (T : Nat → Int) (x1 : Int) (x2 : Int) (hf : f_X7_neededSpan n V X x1 x2 = some (.inr 0)) : MTH l yL_neededSpan cL_neededSpan 5 (some .int) [(0, 10, 13, 19)] rxL_neededSpan D kA [.ref (a 0), vI x1, vI x2, .ref b] (zO kA b T :: cs_X7 kA a V X pf) (some (vI 1)) := by
  refine zHT (own := RL) rfl rfl (Nat.le_of_ble_eq_true rfl) ?_
  intro p e s m args below meth c ls Q hC hK hP hX hN hT hl hret
  have hl : lv_has ls 5 [(0, .ref (a 0)), (1, vI x1), (2, vI x2), (3, .ref b)] := hl
  refine lv_aload_n hC.1 hC.2.1 dL_neededSpan_0 rfl (lv_at hl 3 rfl) <| ziconst hC.1 hC.2.1 dL_neededSpan_1 <| lv_aload_n hC.1 hC.2.1 dL_neededSpan_2 rfl (lv_at hl 0 rfl) <| ziload_n hC.1 hC.2.1 dL_neededSpan_3 rfl (lv_at hl 1 rfl) <| ziload_n hC.1 hC.2.1 dL_neededSpan_4 rfl (lv_at hl 2 rfl) ?_
  refine zcVT (As := [vI x1, vI x2]) (rest := [vI 0, .ref b]) hC hK hX (thr_X7_neededSpan l D kA a pf n V X x1 x2 hf) zwL_109 (zPtail hP) (q0 := 0) rfl rfl rfl rfl hl.1 rfl (Nat.le_of_ble_eq_true rfl) ⟨(Nat.le_of_ble_eq_true rfl), (Nat.le_of_ble_eq_true rfl)⟩ ⟨rfl, rfl⟩ ⟨(Nat.le_of_ble_eq_true rfl), (Nat.le_of_ble_eq_true rfl)⟩ dL_neededSpan_5 (fun ce q9 H h1 h2 h3 h4 h5 => ?_)
  refine vx_catch (own := RL) (name := zEx 0) (E := zEx 0) (pc := 5) hC.2.2.2.1 [] ⟨0, 10, 13, 19⟩ [] hT (fun z hz => absurd hz List.not_mem_nil) (by decide) (by decide) (hC.2.2.2.2 _ (qin_4 (i := 2) rfl rfl)) (va_tabs (zBd_tabs (List.mem_of_getElem? (i := 0) rfl)) rfl (hX.2.2.2 _ (List.mem_of_getElem? (i := 0) rfl))) h3 h4 h5 ?_
  refine lv_astore (lv' := [(4, .ref q9), (0, .ref (a 0)), (1, vI x1), (2, vI x2), (3, .ref b)]) (x := q9) hC.1 hC.2.1 dL_neededSpan_13 hl (by decide) rfl (fun ls hl => ?_)
  refine ziconst hC.1 hC.2.1 dL_neededSpan_15 ?_
  exact hret (Int32.ofInt 1) _ _ _ rfl h1 h2 dL_neededSpan_16
theorem DL_gainOfSplit_0 : ∀ q ∈ ([(0, .aload_n 3, 1), (1, .iconst 0, 1), (2, .aload_n 0, 1), (3, .iload_n 1, 1), (4, .iload_n 2, 1), (5, .invokevirtual 112, 3), (8, .i2l, 1), (9, .lastore, 1), (10, .goto 7, 3), (13, .astore 4, 2), (15, .iconst 1, 1), (16, .ireturn, 1), (17, .iconst 0, 1), (18, .ireturn, 1)] : List (Nat × Instr × Nat)), decode cL_gainOfSplit q.1 = .ok q.2 := by decide +kernel
theorem dL_gainOfSplit_0 : decode cL_gainOfSplit 0 = .ok (.aload_n 3, 1) := DL_gainOfSplit_0 (0, .aload_n 3, 1) (List.mem_of_getElem? (i := 0) rfl)
theorem dL_gainOfSplit_1 : decode cL_gainOfSplit 1 = .ok (.iconst 0, 1) := DL_gainOfSplit_0 (1, .iconst 0, 1) (List.mem_of_getElem? (i := 1) rfl)
theorem dL_gainOfSplit_2 : decode cL_gainOfSplit 2 = .ok (.aload_n 0, 1) := DL_gainOfSplit_0 (2, .aload_n 0, 1) (List.mem_of_getElem? (i := 2) rfl)
theorem dL_gainOfSplit_3 : decode cL_gainOfSplit 3 = .ok (.iload_n 1, 1) := DL_gainOfSplit_0 (3, .iload_n 1, 1) (List.mem_of_getElem? (i := 3) rfl)
theorem dL_gainOfSplit_4 : decode cL_gainOfSplit 4 = .ok (.iload_n 2, 1) := DL_gainOfSplit_0 (4, .iload_n 2, 1) (List.mem_of_getElem? (i := 4) rfl)
theorem dL_gainOfSplit_5 : decode cL_gainOfSplit 5 = .ok (.invokevirtual 112, 3) := DL_gainOfSplit_0 (5, .invokevirtual 112, 3) (List.mem_of_getElem? (i := 5) rfl)
theorem dL_gainOfSplit_8 : decode cL_gainOfSplit 8 = .ok (.i2l, 1) := DL_gainOfSplit_0 (8, .i2l, 1) (List.mem_of_getElem? (i := 6) rfl)
theorem dL_gainOfSplit_9 : decode cL_gainOfSplit 9 = .ok (.lastore, 1) := DL_gainOfSplit_0 (9, .lastore, 1) (List.mem_of_getElem? (i := 7) rfl)
theorem dL_gainOfSplit_10 : decode cL_gainOfSplit 10 = .ok (.goto 7, 3) := DL_gainOfSplit_0 (10, .goto 7, 3) (List.mem_of_getElem? (i := 8) rfl)
theorem dL_gainOfSplit_13 : decode cL_gainOfSplit 13 = .ok (.astore 4, 2) := DL_gainOfSplit_0 (13, .astore 4, 2) (List.mem_of_getElem? (i := 9) rfl)
theorem dL_gainOfSplit_15 : decode cL_gainOfSplit 15 = .ok (.iconst 1, 1) := DL_gainOfSplit_0 (15, .iconst 1, 1) (List.mem_of_getElem? (i := 10) rfl)
theorem dL_gainOfSplit_16 : decode cL_gainOfSplit 16 = .ok (.ireturn, 1) := DL_gainOfSplit_0 (16, .ireturn, 1) (List.mem_of_getElem? (i := 11) rfl)
theorem dL_gainOfSplit_17 : decode cL_gainOfSplit 17 = .ok (.iconst 0, 1) := DL_gainOfSplit_0 (17, .iconst 0, 1) (List.mem_of_getElem? (i := 12) rfl)
theorem dL_gainOfSplit_18 : decode cL_gainOfSplit 18 = .ok (.ireturn, 1) := DL_gainOfSplit_0 (18, .ireturn, 1) (List.mem_of_getElem? (i := 13) rfl)
abbrev rmL_gainOfSplit : Room := { frames := 5, cells := 0, slots := 0, locals := 145 }
set_option maxHeartbeats 1000000 in
set_option maxRecDepth 100000 in
theorem wok_gainOfSplit (l : Launch) (D : va_G) (kA : Nat → ClassId) (a : Nat → Nat) (pf : Nat → Option Nat) (b : Nat) (n : Nat) (V X : Sz) (T : Nat → Int) (x1 : Int) (x2 : Int) (hD0 : va_D (fun _ => True) (zO kA b T :: cs_X7 kA a V X pf)) {r : Int} {Vr : Sz} (hf : f_X7_gainOfSplit n V X x1 x2 = some (.inl (r, Vr))) (hr : rng r) : MZH l yL_gainOfSplit cL_gainOfSplit 5 (some .int) [(0, 10, 13, 19)] rmL_gainOfSplit D kA [.ref (a 0), vI x1, vI x2, .ref b] (zO kA b T :: cs_X7 kA a V X pf) (zO kA b (up T 0 r) :: cs_X7 kA a Vr X pf) (some (vI 0)) := by
  refine zHI (own := RL) rfl rfl (Nat.le_of_ble_eq_true rfl) ?_
  intro p e s m args below meth c ls Q hC hK hP hl hret
  have hl : lv_has ls 5 [(0, .ref (a 0)), (1, vI x1), (2, vI x2), (3, .ref b)] := hl
  have hS : va_S (zF (zO kA b T :: cs_X7 kA a V X pf)) s.heap s.heap [] := va_S.rf
  have hD0 : va_D (zF (zO kA b T :: cs_X7 kA a V X pf)) (zO kA b T :: cs_X7 kA a V X pf) := ⟨hD0.1, fun k q hk => ⟨k, q.2, hk⟩⟩
  generalize hAe : zF (zO kA b T :: cs_X7 kA a V X pf) = A0 at hS hD0 hret
  have hD : ∀ w : Sz × Sz, va_D A0 (zO kA b T :: cs_X7 kA a w.1 w.2 pf) := zDany (C := fun w : Sz × Sz => (zO kA b T :: cs_X7 kA a w.1 w.2 pf)) (V, X) (fun _ => rfl) hD0
  refine lv_aload_n hC.1 hC.2.1 dL_gainOfSplit_0 rfl (lv_at hl 3 rfl) <| ziconst hC.1 hC.2.1 dL_gainOfSplit_1 <| lv_aload_n hC.1 hC.2.1 dL_gainOfSplit_2 rfl (lv_at hl 0 rfl) <| ziload_n hC.1 hC.2.1 dL_gainOfSplit_3 rfl (lv_at hl 1 rfl) <| ziload_n hC.1 hC.2.1 dL_gainOfSplit_4 rfl (lv_at hl 2 rfl) ?_
  have hDc : ∀ w : Sz, va_D (fun _ => True) (cs_X7 kA a w X pf) := fun w => (zDtail (hD (w, X))).weaken (fun _ _ _ _ => trivial)
  refine zcVZ (As := [vI x1, vI x2]) (rest := [vI 0, .ref b]) hC hK (met_X7_gainOfSplit l D kA a pf n V X x1 x2 hDc hf) zwL_112 hS (fun q h => h.elim fun k h => h.elim fun e h => (hD (V, X)).2 (k + 1) (q, e) h) (zPtail hP) (q0 := 0) rfl rfl rfl rfl hl.1 rfl (Nat.le_of_ble_eq_true rfl) ⟨(Nat.le_of_ble_eq_true rfl), (Nat.le_of_ble_eq_true rfl)⟩ ⟨rfl, rfl⟩ ⟨Nat.le_refl _, Nat.le_refl _⟩ dL_gainOfSplit_5 (fun H locs hP1 hk1 hS => ?_)
  have hP : va_P D vwCl (zO kA b T :: cs_X7 kA a Vr X pf) H := zjoinA (A := [zO kA b T]) hP ((hD (V, X)).weaken (fun _ _ _ _ => trivial)) hk1 hP1
  have hD := hD (Vr, X)
  refine zi2l hC.1 hC.2.1 hr dL_gainOfSplit_8 ?_
  refine jlas hC hK hP hD hS (q0 := 0) rfl (Nat.le_of_ble_eq_true rfl) (by decide) rfl dL_gainOfSplit_9 (fun H locs hP hS => ?_)
  refine lv_goto (tgt := 17) hC.1 hC.2.1 dL_gainOfSplit_10 (by decide) ?_
  refine ziconst hC.1 hC.2.1 dL_gainOfSplit_17 ?_
  exact hret (Int32.ofInt 0) _ _ _ _ rfl hP hS dL_gainOfSplit_18
abbrev rxL_gainOfSplit : Room := { frames := 8, cells := 1, slots := 6, locals := 145 }
set_option maxHeartbeats 1000000 in
set_option maxRecDepth 100000 in
theorem wth0_gainOfSplit (l : Launch) (D : va_G) (kA : Nat → ClassId) (a : Nat → Nat) (pf : Nat → Option Nat) (b : Nat) (n : Nat) (V X : Sz) (T : Nat → Int) (x1 : Int) (x2 : Int) (hf : f_X7_gainOfSplit n V X x1 x2 = some (.inr 0)) : MTH l yL_gainOfSplit cL_gainOfSplit 5 (some .int) [(0, 10, 13, 19)] rxL_gainOfSplit D kA [.ref (a 0), vI x1, vI x2, .ref b] (zO kA b T :: cs_X7 kA a V X pf) (some (vI 1)) := by
  refine zHT (own := RL) rfl rfl (Nat.le_of_ble_eq_true rfl) ?_
  intro p e s m args below meth c ls Q hC hK hP hX hN hT hl hret
  have hl : lv_has ls 5 [(0, .ref (a 0)), (1, vI x1), (2, vI x2), (3, .ref b)] := hl
  refine lv_aload_n hC.1 hC.2.1 dL_gainOfSplit_0 rfl (lv_at hl 3 rfl) <| ziconst hC.1 hC.2.1 dL_gainOfSplit_1 <| lv_aload_n hC.1 hC.2.1 dL_gainOfSplit_2 rfl (lv_at hl 0 rfl) <| ziload_n hC.1 hC.2.1 dL_gainOfSplit_3 rfl (lv_at hl 1 rfl) <| ziload_n hC.1 hC.2.1 dL_gainOfSplit_4 rfl (lv_at hl 2 rfl) ?_
  refine zcVT (As := [vI x1, vI x2]) (rest := [vI 0, .ref b]) hC hK hX (thr_X7_gainOfSplit l D kA a pf n V X x1 x2 hf) zwL_112 (zPtail hP) (q0 := 0) rfl rfl rfl rfl hl.1 rfl (Nat.le_of_ble_eq_true rfl) ⟨(Nat.le_of_ble_eq_true rfl), (Nat.le_of_ble_eq_true rfl)⟩ ⟨rfl, rfl⟩ ⟨(Nat.le_of_ble_eq_true rfl), (Nat.le_of_ble_eq_true rfl)⟩ dL_gainOfSplit_5 (fun ce q9 H h1 h2 h3 h4 h5 => ?_)
  refine vx_catch (own := RL) (name := zEx 0) (E := zEx 0) (pc := 5) hC.2.2.2.1 [] ⟨0, 10, 13, 19⟩ [] hT (fun z hz => absurd hz List.not_mem_nil) (by decide) (by decide) (hC.2.2.2.2 _ (qin_4 (i := 2) rfl rfl)) (va_tabs (zBd_tabs (List.mem_of_getElem? (i := 0) rfl)) rfl (hX.2.2.2 _ (List.mem_of_getElem? (i := 0) rfl))) h3 h4 h5 ?_
  refine lv_astore (lv' := [(4, .ref q9), (0, .ref (a 0)), (1, vI x1), (2, vI x2), (3, .ref b)]) (x := q9) hC.1 hC.2.1 dL_gainOfSplit_13 hl (by decide) rfl (fun ls hl => ?_)
  refine ziconst hC.1 hC.2.1 dL_gainOfSplit_15 ?_
  exact hret (Int32.ofInt 1) _ _ _ rfl h1 h2 dL_gainOfSplit_16
theorem DL_sample_0 : ∀ q ∈ ([(0, .aload 4, 2), (2, .iconst 0, 1), (3, .aload_n 0, 1), (4, .iload_n 1, 1), (5, .iload_n 2, 1), (6, .iload_n 3, 1), (7, .invokevirtual 115, 3), (10, .i2l, 1), (11, .lastore, 1), (12, .goto 7, 3), (15, .astore 5, 2), (17, .iconst 1, 1), (18, .ireturn, 1), (19, .iconst 0, 1), (20, .ireturn, 1)] : List (Nat × Instr × Nat)), decode cL_sample q.1 = .ok q.2 := by decide +kernel
theorem dL_sample_0 : decode cL_sample 0 = .ok (.aload 4, 2) := DL_sample_0 (0, .aload 4, 2) (List.mem_of_getElem? (i := 0) rfl)
theorem dL_sample_2 : decode cL_sample 2 = .ok (.iconst 0, 1) := DL_sample_0 (2, .iconst 0, 1) (List.mem_of_getElem? (i := 1) rfl)
theorem dL_sample_3 : decode cL_sample 3 = .ok (.aload_n 0, 1) := DL_sample_0 (3, .aload_n 0, 1) (List.mem_of_getElem? (i := 2) rfl)
theorem dL_sample_4 : decode cL_sample 4 = .ok (.iload_n 1, 1) := DL_sample_0 (4, .iload_n 1, 1) (List.mem_of_getElem? (i := 3) rfl)
theorem dL_sample_5 : decode cL_sample 5 = .ok (.iload_n 2, 1) := DL_sample_0 (5, .iload_n 2, 1) (List.mem_of_getElem? (i := 4) rfl)
theorem dL_sample_6 : decode cL_sample 6 = .ok (.iload_n 3, 1) := DL_sample_0 (6, .iload_n 3, 1) (List.mem_of_getElem? (i := 5) rfl)
theorem dL_sample_7 : decode cL_sample 7 = .ok (.invokevirtual 115, 3) := DL_sample_0 (7, .invokevirtual 115, 3) (List.mem_of_getElem? (i := 6) rfl)
theorem dL_sample_10 : decode cL_sample 10 = .ok (.i2l, 1) := DL_sample_0 (10, .i2l, 1) (List.mem_of_getElem? (i := 7) rfl)
theorem dL_sample_11 : decode cL_sample 11 = .ok (.lastore, 1) := DL_sample_0 (11, .lastore, 1) (List.mem_of_getElem? (i := 8) rfl)
theorem dL_sample_12 : decode cL_sample 12 = .ok (.goto 7, 3) := DL_sample_0 (12, .goto 7, 3) (List.mem_of_getElem? (i := 9) rfl)
theorem dL_sample_15 : decode cL_sample 15 = .ok (.astore 5, 2) := DL_sample_0 (15, .astore 5, 2) (List.mem_of_getElem? (i := 10) rfl)
theorem dL_sample_17 : decode cL_sample 17 = .ok (.iconst 1, 1) := DL_sample_0 (17, .iconst 1, 1) (List.mem_of_getElem? (i := 11) rfl)
theorem dL_sample_18 : decode cL_sample 18 = .ok (.ireturn, 1) := DL_sample_0 (18, .ireturn, 1) (List.mem_of_getElem? (i := 12) rfl)
theorem dL_sample_19 : decode cL_sample 19 = .ok (.iconst 0, 1) := DL_sample_0 (19, .iconst 0, 1) (List.mem_of_getElem? (i := 13) rfl)
theorem dL_sample_20 : decode cL_sample 20 = .ok (.ireturn, 1) := DL_sample_0 (20, .ireturn, 1) (List.mem_of_getElem? (i := 14) rfl)
abbrev rmL_sample : Room := { frames := 4, cells := 0, slots := 0, locals := 91 }
set_option maxHeartbeats 1000000 in
set_option maxRecDepth 100000 in
theorem wok_sample (l : Launch) (D : va_G) (kA : Nat → ClassId) (a : Nat → Nat) (pf : Nat → Option Nat) (b : Nat) (n : Nat) (V X : Sz) (T : Nat → Int) (x1 : Int) (x2 : Int) (x3 : Int) (hD0 : va_D (fun _ => True) (zO kA b T :: cs_X7 kA a V X pf)) {r : Int} {Vr : Sz} (hf : f_X7_sample n V X x1 x2 x3 = some (.inl (r, Vr))) (hr : rng r) : MZH l yL_sample cL_sample 6 (some .int) [(0, 12, 15, 13)] rmL_sample D kA [.ref (a 0), vI x1, vI x2, vI x3, .ref b] (zO kA b T :: cs_X7 kA a V X pf) (zO kA b (up T 0 r) :: cs_X7 kA a Vr X pf) (some (vI 0)) := by
  refine zHI (own := RL) rfl rfl (Nat.le_of_ble_eq_true rfl) ?_
  intro p e s m args below meth c ls Q hC hK hP hl hret
  have hl : lv_has ls 6 [(0, .ref (a 0)), (1, vI x1), (2, vI x2), (3, vI x3), (4, .ref b)] := hl
  have hS : va_S (zF (zO kA b T :: cs_X7 kA a V X pf)) s.heap s.heap [] := va_S.rf
  have hD0 : va_D (zF (zO kA b T :: cs_X7 kA a V X pf)) (zO kA b T :: cs_X7 kA a V X pf) := ⟨hD0.1, fun k q hk => ⟨k, q.2, hk⟩⟩
  generalize hAe : zF (zO kA b T :: cs_X7 kA a V X pf) = A0 at hS hD0 hret
  have hD : ∀ w : Sz × Sz, va_D A0 (zO kA b T :: cs_X7 kA a w.1 w.2 pf) := zDany (C := fun w : Sz × Sz => (zO kA b T :: cs_X7 kA a w.1 w.2 pf)) (V, X) (fun _ => rfl) hD0
  refine lv_aload hC.1 hC.2.1 dL_sample_0 (lv_at hl 4 rfl) <| ziconst hC.1 hC.2.1 dL_sample_2 <| lv_aload_n hC.1 hC.2.1 dL_sample_3 rfl (lv_at hl 0 rfl) <| ziload_n hC.1 hC.2.1 dL_sample_4 rfl (lv_at hl 1 rfl) <| ziload_n hC.1 hC.2.1 dL_sample_5 rfl (lv_at hl 2 rfl) <| ziload_n hC.1 hC.2.1 dL_sample_6 rfl (lv_at hl 3 rfl) ?_
  have hDc : ∀ w : Sz, va_D (fun _ => True) (cs_X7 kA a w X pf) := fun w => (zDtail (hD (w, X))).weaken (fun _ _ _ _ => trivial)
  refine zcVZ (As := [vI x1, vI x2, vI x3]) (rest := [vI 0, .ref b]) hC hK (met_X7_sample l D kA a pf n V X x1 x2 x3 hDc hf) zwL_115 hS (fun q h => h.elim fun k h => h.elim fun e h => (hD (V, X)).2 (k + 1) (q, e) h) (zPtail hP) (q0 := 0) rfl rfl rfl rfl hl.1 rfl (Nat.le_of_ble_eq_true rfl) ⟨(Nat.le_of_ble_eq_true rfl), (Nat.le_of_ble_eq_true rfl)⟩ ⟨rfl, rfl⟩ ⟨Nat.le_refl _, Nat.le_refl _⟩ dL_sample_7 (fun H locs hP1 hk1 hS => ?_)
  have hP : va_P D vwCl (zO kA b T :: cs_X7 kA a Vr X pf) H := zjoinA (A := [zO kA b T]) hP ((hD (V, X)).weaken (fun _ _ _ _ => trivial)) hk1 hP1
  have hD := hD (Vr, X)
  refine zi2l hC.1 hC.2.1 hr dL_sample_10 ?_
  refine jlas hC hK hP hD hS (q0 := 0) rfl (Nat.le_of_ble_eq_true rfl) (by decide) rfl dL_sample_11 (fun H locs hP hS => ?_)
  refine lv_goto (tgt := 19) hC.1 hC.2.1 dL_sample_12 (by decide) ?_
  refine ziconst hC.1 hC.2.1 dL_sample_19 ?_
  exact hret (Int32.ofInt 0) _ _ _ _ rfl hP hS dL_sample_20
abbrev rxL_sample : Room := { frames := 8, cells := 1, slots := 6, locals := 135 }
set_option maxHeartbeats 1000000 in
set_option maxRecDepth 100000 in
theorem wth1_sample (l : Launch) (D : va_G) (kA : Nat → ClassId) (a : Nat → Nat) (pf : Nat → Option Nat) (b : Nat) (n : Nat) (V X : Sz) (T : Nat → Int) (x1 : Int) (x2 : Int) (x3 : Int) (hf : f_X7_sample n V X x1 x2 x3 = some (.inr 1)) : MTH l yL_sample cL_sample 6 (some .int) [(0, 12, 15, 13)] rxL_sample D kA [.ref (a 0), vI x1, vI x2, vI x3, .ref b] (zO kA b T :: cs_X7 kA a V X pf) (some (vI 1)) := by
  refine zHT (own := RL) rfl rfl (Nat.le_of_ble_eq_true rfl) ?_
  intro p e s m args below meth c ls Q hC hK hP hX hN hT hl hret
  have hl : lv_has ls 6 [(0, .ref (a 0)), (1, vI x1), (2, vI x2), (3, vI x3), (4, .ref b)] := hl
  refine lv_aload hC.1 hC.2.1 dL_sample_0 (lv_at hl 4 rfl) <| ziconst hC.1 hC.2.1 dL_sample_2 <| lv_aload_n hC.1 hC.2.1 dL_sample_3 rfl (lv_at hl 0 rfl) <| ziload_n hC.1 hC.2.1 dL_sample_4 rfl (lv_at hl 1 rfl) <| ziload_n hC.1 hC.2.1 dL_sample_5 rfl (lv_at hl 2 rfl) <| ziload_n hC.1 hC.2.1 dL_sample_6 rfl (lv_at hl 3 rfl) ?_
  refine zcVT (As := [vI x1, vI x2, vI x3]) (rest := [vI 0, .ref b]) hC hK hX (thr_X7_sample l D kA a pf n V X x1 x2 x3 hf) zwL_115 (zPtail hP) (q0 := 0) rfl rfl rfl rfl hl.1 rfl (Nat.le_of_ble_eq_true rfl) ⟨(Nat.le_of_ble_eq_true rfl), (Nat.le_of_ble_eq_true rfl)⟩ ⟨rfl, rfl⟩ ⟨(Nat.le_of_ble_eq_true rfl), (Nat.le_of_ble_eq_true rfl)⟩ dL_sample_7 (fun ce q9 H h1 h2 h3 h4 h5 => ?_)
  refine vx_catch (own := RL) (name := zEx 1) (E := zEx 1) (pc := 7) hC.2.2.2.1 [] ⟨0, 12, 15, 13⟩ [] hT (fun z hz => absurd hz List.not_mem_nil) (by decide) (by decide) (hC.2.2.2.2 _ (qin_3 (i := 159) rfl rfl)) (va_tabs (zBd_tabs (List.mem_of_getElem? (i := 1) rfl)) rfl (hX.2.2.2 _ (List.mem_of_getElem? (i := 1) rfl))) h3 h4 h5 ?_
  refine lv_astore (lv' := [(5, .ref q9), (0, .ref (a 0)), (1, vI x1), (2, vI x2), (3, vI x3), (4, .ref b)]) (x := q9) hC.1 hC.2.1 dL_sample_15 hl (by decide) rfl (fun ls hl => ?_)
  refine ziconst hC.1 hC.2.1 dL_sample_17 ?_
  exact hret (Int32.ofInt 1) _ _ _ rfl h1 h2 dL_sample_18
theorem DL_wrongIn_0 : ∀ q ∈ ([(0, .aload_n 3, 1), (1, .iconst 0, 1), (2, .aload_n 0, 1), (3, .iload_n 1, 1), (4, .iload_n 2, 1), (5, .invokevirtual 118, 3), (8, .i2l, 1), (9, .lastore, 1), (10, .goto 7, 3), (13, .astore 4, 2), (15, .iconst 1, 1), (16, .ireturn, 1), (17, .iconst 0, 1), (18, .ireturn, 1)] : List (Nat × Instr × Nat)), decode cL_wrongIn q.1 = .ok q.2 := by decide +kernel
theorem dL_wrongIn_0 : decode cL_wrongIn 0 = .ok (.aload_n 3, 1) := DL_wrongIn_0 (0, .aload_n 3, 1) (List.mem_of_getElem? (i := 0) rfl)
theorem dL_wrongIn_1 : decode cL_wrongIn 1 = .ok (.iconst 0, 1) := DL_wrongIn_0 (1, .iconst 0, 1) (List.mem_of_getElem? (i := 1) rfl)
theorem dL_wrongIn_2 : decode cL_wrongIn 2 = .ok (.aload_n 0, 1) := DL_wrongIn_0 (2, .aload_n 0, 1) (List.mem_of_getElem? (i := 2) rfl)
theorem dL_wrongIn_3 : decode cL_wrongIn 3 = .ok (.iload_n 1, 1) := DL_wrongIn_0 (3, .iload_n 1, 1) (List.mem_of_getElem? (i := 3) rfl)
theorem dL_wrongIn_4 : decode cL_wrongIn 4 = .ok (.iload_n 2, 1) := DL_wrongIn_0 (4, .iload_n 2, 1) (List.mem_of_getElem? (i := 4) rfl)
theorem dL_wrongIn_5 : decode cL_wrongIn 5 = .ok (.invokevirtual 118, 3) := DL_wrongIn_0 (5, .invokevirtual 118, 3) (List.mem_of_getElem? (i := 5) rfl)
theorem dL_wrongIn_8 : decode cL_wrongIn 8 = .ok (.i2l, 1) := DL_wrongIn_0 (8, .i2l, 1) (List.mem_of_getElem? (i := 6) rfl)
theorem dL_wrongIn_9 : decode cL_wrongIn 9 = .ok (.lastore, 1) := DL_wrongIn_0 (9, .lastore, 1) (List.mem_of_getElem? (i := 7) rfl)
theorem dL_wrongIn_10 : decode cL_wrongIn 10 = .ok (.goto 7, 3) := DL_wrongIn_0 (10, .goto 7, 3) (List.mem_of_getElem? (i := 8) rfl)
theorem dL_wrongIn_13 : decode cL_wrongIn 13 = .ok (.astore 4, 2) := DL_wrongIn_0 (13, .astore 4, 2) (List.mem_of_getElem? (i := 9) rfl)
theorem dL_wrongIn_15 : decode cL_wrongIn 15 = .ok (.iconst 1, 1) := DL_wrongIn_0 (15, .iconst 1, 1) (List.mem_of_getElem? (i := 10) rfl)
theorem dL_wrongIn_16 : decode cL_wrongIn 16 = .ok (.ireturn, 1) := DL_wrongIn_0 (16, .ireturn, 1) (List.mem_of_getElem? (i := 11) rfl)
theorem dL_wrongIn_17 : decode cL_wrongIn 17 = .ok (.iconst 0, 1) := DL_wrongIn_0 (17, .iconst 0, 1) (List.mem_of_getElem? (i := 12) rfl)
theorem dL_wrongIn_18 : decode cL_wrongIn 18 = .ok (.ireturn, 1) := DL_wrongIn_0 (18, .ireturn, 1) (List.mem_of_getElem? (i := 13) rfl)
abbrev rmL_wrongIn : Room := { frames := 4, cells := 0, slots := 0, locals := 105 }
set_option maxHeartbeats 1000000 in
set_option maxRecDepth 100000 in
theorem wok_wrongIn (l : Launch) (D : va_G) (kA : Nat → ClassId) (a : Nat → Nat) (pf : Nat → Option Nat) (b : Nat) (n : Nat) (V X : Sz) (T : Nat → Int) (x1 : Int) (x2 : Int) (hD0 : va_D (fun _ => True) (zO kA b T :: cs_X7 kA a V X pf)) {r : Int} {Vr : Sz} (hf : f_X7_wrongIn n V X x1 x2 = some (.inl (r, Vr))) (hr : rng r) : MZH l yL_wrongIn cL_wrongIn 5 (some .int) [(0, 10, 13, 13)] rmL_wrongIn D kA [.ref (a 0), vI x1, vI x2, .ref b] (zO kA b T :: cs_X7 kA a V X pf) (zO kA b (up T 0 r) :: cs_X7 kA a Vr X pf) (some (vI 0)) := by
  refine zHI (own := RL) rfl rfl (Nat.le_of_ble_eq_true rfl) ?_
  intro p e s m args below meth c ls Q hC hK hP hl hret
  have hl : lv_has ls 5 [(0, .ref (a 0)), (1, vI x1), (2, vI x2), (3, .ref b)] := hl
  have hS : va_S (zF (zO kA b T :: cs_X7 kA a V X pf)) s.heap s.heap [] := va_S.rf
  have hD0 : va_D (zF (zO kA b T :: cs_X7 kA a V X pf)) (zO kA b T :: cs_X7 kA a V X pf) := ⟨hD0.1, fun k q hk => ⟨k, q.2, hk⟩⟩
  generalize hAe : zF (zO kA b T :: cs_X7 kA a V X pf) = A0 at hS hD0 hret
  have hD : ∀ w : Sz × Sz, va_D A0 (zO kA b T :: cs_X7 kA a w.1 w.2 pf) := zDany (C := fun w : Sz × Sz => (zO kA b T :: cs_X7 kA a w.1 w.2 pf)) (V, X) (fun _ => rfl) hD0
  refine lv_aload_n hC.1 hC.2.1 dL_wrongIn_0 rfl (lv_at hl 3 rfl) <| ziconst hC.1 hC.2.1 dL_wrongIn_1 <| lv_aload_n hC.1 hC.2.1 dL_wrongIn_2 rfl (lv_at hl 0 rfl) <| ziload_n hC.1 hC.2.1 dL_wrongIn_3 rfl (lv_at hl 1 rfl) <| ziload_n hC.1 hC.2.1 dL_wrongIn_4 rfl (lv_at hl 2 rfl) ?_
  have hDc : ∀ w : Sz, va_D (fun _ => True) (cs_X7 kA a w X pf) := fun w => (zDtail (hD (w, X))).weaken (fun _ _ _ _ => trivial)
  refine zcVZ (As := [vI x1, vI x2]) (rest := [vI 0, .ref b]) hC hK (met_X7_wrongIn l D kA a pf n V X x1 x2 hDc hf) zwL_118 hS (fun q h => h.elim fun k h => h.elim fun e h => (hD (V, X)).2 (k + 1) (q, e) h) (zPtail hP) (q0 := 0) rfl rfl rfl rfl hl.1 rfl (Nat.le_of_ble_eq_true rfl) ⟨(Nat.le_of_ble_eq_true rfl), (Nat.le_of_ble_eq_true rfl)⟩ ⟨rfl, rfl⟩ ⟨Nat.le_refl _, Nat.le_refl _⟩ dL_wrongIn_5 (fun H locs hP1 hk1 hS => ?_)
  have hP : va_P D vwCl (zO kA b T :: cs_X7 kA a Vr X pf) H := zjoinA (A := [zO kA b T]) hP ((hD (V, X)).weaken (fun _ _ _ _ => trivial)) hk1 hP1
  have hD := hD (Vr, X)
  refine zi2l hC.1 hC.2.1 hr dL_wrongIn_8 ?_
  refine jlas hC hK hP hD hS (q0 := 0) rfl (Nat.le_of_ble_eq_true rfl) (by decide) rfl dL_wrongIn_9 (fun H locs hP hS => ?_)
  refine lv_goto (tgt := 17) hC.1 hC.2.1 dL_wrongIn_10 (by decide) ?_
  refine ziconst hC.1 hC.2.1 dL_wrongIn_17 ?_
  exact hret (Int32.ofInt 0) _ _ _ _ rfl hP hS dL_wrongIn_18
abbrev rxL_wrongIn : Room := { frames := 8, cells := 1, slots := 6, locals := 136 }
set_option maxHeartbeats 1000000 in
set_option maxRecDepth 100000 in
theorem wth1_wrongIn (l : Launch) (D : va_G) (kA : Nat → ClassId) (a : Nat → Nat) (pf : Nat → Option Nat) (b : Nat) (n : Nat) (V X : Sz) (T : Nat → Int) (x1 : Int) (x2 : Int) (hf : f_X7_wrongIn n V X x1 x2 = some (.inr 1)) : MTH l yL_wrongIn cL_wrongIn 5 (some .int) [(0, 10, 13, 13)] rxL_wrongIn D kA [.ref (a 0), vI x1, vI x2, .ref b] (zO kA b T :: cs_X7 kA a V X pf) (some (vI 1)) := by
  refine zHT (own := RL) rfl rfl (Nat.le_of_ble_eq_true rfl) ?_
  intro p e s m args below meth c ls Q hC hK hP hX hN hT hl hret
  have hl : lv_has ls 5 [(0, .ref (a 0)), (1, vI x1), (2, vI x2), (3, .ref b)] := hl
  refine lv_aload_n hC.1 hC.2.1 dL_wrongIn_0 rfl (lv_at hl 3 rfl) <| ziconst hC.1 hC.2.1 dL_wrongIn_1 <| lv_aload_n hC.1 hC.2.1 dL_wrongIn_2 rfl (lv_at hl 0 rfl) <| ziload_n hC.1 hC.2.1 dL_wrongIn_3 rfl (lv_at hl 1 rfl) <| ziload_n hC.1 hC.2.1 dL_wrongIn_4 rfl (lv_at hl 2 rfl) ?_
  refine zcVT (As := [vI x1, vI x2]) (rest := [vI 0, .ref b]) hC hK hX (thr_X7_wrongIn l D kA a pf n V X x1 x2 hf) zwL_118 (zPtail hP) (q0 := 0) rfl rfl rfl rfl hl.1 rfl (Nat.le_of_ble_eq_true rfl) ⟨(Nat.le_of_ble_eq_true rfl), (Nat.le_of_ble_eq_true rfl)⟩ ⟨rfl, rfl⟩ ⟨(Nat.le_of_ble_eq_true rfl), (Nat.le_of_ble_eq_true rfl)⟩ dL_wrongIn_5 (fun ce q9 H h1 h2 h3 h4 h5 => ?_)
  refine vx_catch (own := RL) (name := zEx 1) (E := zEx 1) (pc := 5) hC.2.2.2.1 [] ⟨0, 10, 13, 13⟩ [] hT (fun z hz => absurd hz List.not_mem_nil) (by decide) (by decide) (hC.2.2.2.2 _ (qin_3 (i := 159) rfl rfl)) (va_tabs (zBd_tabs (List.mem_of_getElem? (i := 1) rfl)) rfl (hX.2.2.2 _ (List.mem_of_getElem? (i := 1) rfl))) h3 h4 h5 ?_
  refine lv_astore (lv' := [(4, .ref q9), (0, .ref (a 0)), (1, vI x1), (2, vI x2), (3, .ref b)]) (x := q9) hC.1 hC.2.1 dL_wrongIn_13 hl (by decide) rfl (fun ls hl => ?_)
  refine ziconst hC.1 hC.2.1 dL_wrongIn_15 ?_
  exact hret (Int32.ofInt 1) _ _ _ rfl h1 h2 dL_wrongIn_16
theorem DL_printStatement_0 : ∀ q ∈ ([(0, .aload_n 2, 1), (1, .iconst 0, 1), (2, .aload_n 0, 1), (3, .iload_n 1, 1), (4, .invokevirtual 125, 3), (7, .i2l, 1), (8, .lastore, 1), (9, .goto 6, 3), (12, .astore_n 3, 1), (13, .iconst 1, 1), (14, .ireturn, 1), (15, .iconst 0, 1), (16, .ireturn, 1)] : List (Nat × Instr × Nat)), decode cL_printStatement q.1 = .ok q.2 := by decide +kernel
theorem dL_printStatement_0 : decode cL_printStatement 0 = .ok (.aload_n 2, 1) := DL_printStatement_0 (0, .aload_n 2, 1) (List.mem_of_getElem? (i := 0) rfl)
theorem dL_printStatement_1 : decode cL_printStatement 1 = .ok (.iconst 0, 1) := DL_printStatement_0 (1, .iconst 0, 1) (List.mem_of_getElem? (i := 1) rfl)
theorem dL_printStatement_2 : decode cL_printStatement 2 = .ok (.aload_n 0, 1) := DL_printStatement_0 (2, .aload_n 0, 1) (List.mem_of_getElem? (i := 2) rfl)
theorem dL_printStatement_3 : decode cL_printStatement 3 = .ok (.iload_n 1, 1) := DL_printStatement_0 (3, .iload_n 1, 1) (List.mem_of_getElem? (i := 3) rfl)
theorem dL_printStatement_4 : decode cL_printStatement 4 = .ok (.invokevirtual 125, 3) := DL_printStatement_0 (4, .invokevirtual 125, 3) (List.mem_of_getElem? (i := 4) rfl)
theorem dL_printStatement_7 : decode cL_printStatement 7 = .ok (.i2l, 1) := DL_printStatement_0 (7, .i2l, 1) (List.mem_of_getElem? (i := 5) rfl)
theorem dL_printStatement_8 : decode cL_printStatement 8 = .ok (.lastore, 1) := DL_printStatement_0 (8, .lastore, 1) (List.mem_of_getElem? (i := 6) rfl)
theorem dL_printStatement_9 : decode cL_printStatement 9 = .ok (.goto 6, 3) := DL_printStatement_0 (9, .goto 6, 3) (List.mem_of_getElem? (i := 7) rfl)
theorem dL_printStatement_12 : decode cL_printStatement 12 = .ok (.astore_n 3, 1) := DL_printStatement_0 (12, .astore_n 3, 1) (List.mem_of_getElem? (i := 8) rfl)
theorem dL_printStatement_13 : decode cL_printStatement 13 = .ok (.iconst 1, 1) := DL_printStatement_0 (13, .iconst 1, 1) (List.mem_of_getElem? (i := 9) rfl)
theorem dL_printStatement_14 : decode cL_printStatement 14 = .ok (.ireturn, 1) := DL_printStatement_0 (14, .ireturn, 1) (List.mem_of_getElem? (i := 10) rfl)
theorem dL_printStatement_15 : decode cL_printStatement 15 = .ok (.iconst 0, 1) := DL_printStatement_0 (15, .iconst 0, 1) (List.mem_of_getElem? (i := 11) rfl)
theorem dL_printStatement_16 : decode cL_printStatement 16 = .ok (.ireturn, 1) := DL_printStatement_0 (16, .ireturn, 1) (List.mem_of_getElem? (i := 12) rfl)
abbrev rmL_printStatement : Room := { frames := 3, cells := 0, slots := 0, locals := 65 }
set_option maxHeartbeats 1000000 in
set_option maxRecDepth 100000 in
theorem wok_printStatement (l : Launch) (D : va_G) (kA : Nat → ClassId) (a : Nat → Nat) (pf : Nat → Option Nat) (b : Nat) (n : Nat) (V X : Sz) (T : Nat → Int) (x1 : Int) (hD0 : va_D (fun _ => True) (zO kA b T :: cs_X7 kA a V X pf)) {r : Int} {Vr : Sz} (hf : f_X7_printStatement n V X x1 = some (.inl (r, Vr))) (hr : rng r) : MZH l yL_printStatement cL_printStatement 4 (some .int) [(0, 9, 12, 19)] rmL_printStatement D kA [.ref (a 0), vI x1, .ref b] (zO kA b T :: cs_X7 kA a V X pf) (zO kA b (up T 0 r) :: cs_X7 kA a Vr X pf) (some (vI 0)) := by
  refine zHI (own := RL) rfl rfl (Nat.le_of_ble_eq_true rfl) ?_
  intro p e s m args below meth c ls Q hC hK hP hl hret
  have hl : lv_has ls 4 [(0, .ref (a 0)), (1, vI x1), (2, .ref b)] := hl
  have hS : va_S (zF (zO kA b T :: cs_X7 kA a V X pf)) s.heap s.heap [] := va_S.rf
  have hD0 : va_D (zF (zO kA b T :: cs_X7 kA a V X pf)) (zO kA b T :: cs_X7 kA a V X pf) := ⟨hD0.1, fun k q hk => ⟨k, q.2, hk⟩⟩
  generalize hAe : zF (zO kA b T :: cs_X7 kA a V X pf) = A0 at hS hD0 hret
  have hD : ∀ w : Sz × Sz, va_D A0 (zO kA b T :: cs_X7 kA a w.1 w.2 pf) := zDany (C := fun w : Sz × Sz => (zO kA b T :: cs_X7 kA a w.1 w.2 pf)) (V, X) (fun _ => rfl) hD0
  refine lv_aload_n hC.1 hC.2.1 dL_printStatement_0 rfl (lv_at hl 2 rfl) <| ziconst hC.1 hC.2.1 dL_printStatement_1 <| lv_aload_n hC.1 hC.2.1 dL_printStatement_2 rfl (lv_at hl 0 rfl) <| ziload_n hC.1 hC.2.1 dL_printStatement_3 rfl (lv_at hl 1 rfl) ?_
  have hDc : ∀ w : Sz, va_D (fun _ => True) (cs_X7 kA a w X pf) := fun w => (zDtail (hD (w, X))).weaken (fun _ _ _ _ => trivial)
  refine zcVZ (As := [vI x1]) (rest := [vI 0, .ref b]) hC hK (met_X7_printStatement l D kA a pf n V X x1 hDc hf) zwL_125 hS (fun q h => h.elim fun k h => h.elim fun e h => (hD (V, X)).2 (k + 1) (q, e) h) (zPtail hP) (q0 := 0) rfl rfl rfl rfl hl.1 rfl (Nat.le_of_ble_eq_true rfl) ⟨(Nat.le_of_ble_eq_true rfl), (Nat.le_of_ble_eq_true rfl)⟩ ⟨rfl, rfl⟩ ⟨Nat.le_refl _, Nat.le_refl _⟩ dL_printStatement_4 (fun H locs hP1 hk1 hS => ?_)
  have hP : va_P D vwCl (zO kA b T :: cs_X7 kA a Vr X pf) H := zjoinA (A := [zO kA b T]) hP ((hD (V, X)).weaken (fun _ _ _ _ => trivial)) hk1 hP1
  have hD := hD (Vr, X)
  refine zi2l hC.1 hC.2.1 hr dL_printStatement_7 ?_
  refine jlas hC hK hP hD hS (q0 := 0) rfl (Nat.le_of_ble_eq_true rfl) (by decide) rfl dL_printStatement_8 (fun H locs hP hS => ?_)
  refine lv_goto (tgt := 15) hC.1 hC.2.1 dL_printStatement_9 (by decide) ?_
  refine ziconst hC.1 hC.2.1 dL_printStatement_15 ?_
  exact hret (Int32.ofInt 0) _ _ _ _ rfl hP hS dL_printStatement_16
abbrev rxL_printStatement : Room := { frames := 8, cells := 1, slots := 6, locals := 133 }
set_option maxHeartbeats 1000000 in
set_option maxRecDepth 100000 in
theorem wth0_printStatement (l : Launch) (D : va_G) (kA : Nat → ClassId) (a : Nat → Nat) (pf : Nat → Option Nat) (b : Nat) (n : Nat) (V X : Sz) (T : Nat → Int) (x1 : Int) (hf : f_X7_printStatement n V X x1 = some (.inr 0)) : MTH l yL_printStatement cL_printStatement 4 (some .int) [(0, 9, 12, 19)] rxL_printStatement D kA [.ref (a 0), vI x1, .ref b] (zO kA b T :: cs_X7 kA a V X pf) (some (vI 1)) := by
  refine zHT (own := RL) rfl rfl (Nat.le_of_ble_eq_true rfl) ?_
  intro p e s m args below meth c ls Q hC hK hP hX hN hT hl hret
  have hl : lv_has ls 4 [(0, .ref (a 0)), (1, vI x1), (2, .ref b)] := hl
  refine lv_aload_n hC.1 hC.2.1 dL_printStatement_0 rfl (lv_at hl 2 rfl) <| ziconst hC.1 hC.2.1 dL_printStatement_1 <| lv_aload_n hC.1 hC.2.1 dL_printStatement_2 rfl (lv_at hl 0 rfl) <| ziload_n hC.1 hC.2.1 dL_printStatement_3 rfl (lv_at hl 1 rfl) ?_
  refine zcVT (As := [vI x1]) (rest := [vI 0, .ref b]) hC hK hX (thr_X7_printStatement l D kA a pf n V X x1 hf) zwL_125 (zPtail hP) (q0 := 0) rfl rfl rfl rfl hl.1 rfl (Nat.le_of_ble_eq_true rfl) ⟨(Nat.le_of_ble_eq_true rfl), (Nat.le_of_ble_eq_true rfl)⟩ ⟨rfl, rfl⟩ ⟨(Nat.le_of_ble_eq_true rfl), (Nat.le_of_ble_eq_true rfl)⟩ dL_printStatement_4 (fun ce q9 H h1 h2 h3 h4 h5 => ?_)
  refine vx_catch (own := RL) (name := zEx 0) (E := zEx 0) (pc := 4) hC.2.2.2.1 [] ⟨0, 9, 12, 19⟩ [] hT (fun z hz => absurd hz List.not_mem_nil) (by decide) (by decide) (hC.2.2.2.2 _ (qin_4 (i := 2) rfl rfl)) (va_tabs (zBd_tabs (List.mem_of_getElem? (i := 0) rfl)) rfl (hX.2.2.2 _ (List.mem_of_getElem? (i := 0) rfl))) h3 h4 h5 ?_
  refine lv_astore_n (lv' := [(3, .ref q9), (0, .ref (a 0)), (1, vI x1), (2, .ref b)]) (x := q9) hC.1 hC.2.1 dL_printStatement_12 rfl hl (by decide) rfl (fun ls hl => ?_)
  refine ziconst hC.1 hC.2.1 dL_printStatement_13 ?_
  exact hret (Int32.ofInt 1) _ _ _ rfl h1 h2 dL_printStatement_14
theorem DL_restoreState_0 : ∀ q ∈ ([(0, .aload_n 1, 1), (1, .iconst 0, 1), (2, .aload_n 0, 1), (3, .invokevirtual 128, 3), (6, .i2l, 1), (7, .lastore, 1), (8, .goto 6, 3), (11, .astore_n 2, 1), (12, .iconst 1, 1), (13, .ireturn, 1), (14, .iconst 0, 1), (15, .ireturn, 1)] : List (Nat × Instr × Nat)), decode cL_restoreState q.1 = .ok q.2 := by decide +kernel
theorem dL_restoreState_0 : decode cL_restoreState 0 = .ok (.aload_n 1, 1) := DL_restoreState_0 (0, .aload_n 1, 1) (List.mem_of_getElem? (i := 0) rfl)
theorem dL_restoreState_1 : decode cL_restoreState 1 = .ok (.iconst 0, 1) := DL_restoreState_0 (1, .iconst 0, 1) (List.mem_of_getElem? (i := 1) rfl)
theorem dL_restoreState_2 : decode cL_restoreState 2 = .ok (.aload_n 0, 1) := DL_restoreState_0 (2, .aload_n 0, 1) (List.mem_of_getElem? (i := 2) rfl)
theorem dL_restoreState_3 : decode cL_restoreState 3 = .ok (.invokevirtual 128, 3) := DL_restoreState_0 (3, .invokevirtual 128, 3) (List.mem_of_getElem? (i := 3) rfl)
theorem dL_restoreState_6 : decode cL_restoreState 6 = .ok (.i2l, 1) := DL_restoreState_0 (6, .i2l, 1) (List.mem_of_getElem? (i := 4) rfl)
theorem dL_restoreState_7 : decode cL_restoreState 7 = .ok (.lastore, 1) := DL_restoreState_0 (7, .lastore, 1) (List.mem_of_getElem? (i := 5) rfl)
theorem dL_restoreState_8 : decode cL_restoreState 8 = .ok (.goto 6, 3) := DL_restoreState_0 (8, .goto 6, 3) (List.mem_of_getElem? (i := 6) rfl)
theorem dL_restoreState_11 : decode cL_restoreState 11 = .ok (.astore_n 2, 1) := DL_restoreState_0 (11, .astore_n 2, 1) (List.mem_of_getElem? (i := 7) rfl)
theorem dL_restoreState_12 : decode cL_restoreState 12 = .ok (.iconst 1, 1) := DL_restoreState_0 (12, .iconst 1, 1) (List.mem_of_getElem? (i := 8) rfl)
theorem dL_restoreState_13 : decode cL_restoreState 13 = .ok (.ireturn, 1) := DL_restoreState_0 (13, .ireturn, 1) (List.mem_of_getElem? (i := 9) rfl)
theorem dL_restoreState_14 : decode cL_restoreState 14 = .ok (.iconst 0, 1) := DL_restoreState_0 (14, .iconst 0, 1) (List.mem_of_getElem? (i := 10) rfl)
theorem dL_restoreState_15 : decode cL_restoreState 15 = .ok (.ireturn, 1) := DL_restoreState_0 (15, .ireturn, 1) (List.mem_of_getElem? (i := 11) rfl)
abbrev rmL_restoreState : Room := { frames := 5, cells := 0, slots := 0, locals := 143 }
set_option maxHeartbeats 1000000 in
set_option maxRecDepth 100000 in
theorem wok_restoreState (l : Launch) (D : va_G) (kA : Nat → ClassId) (a : Nat → Nat) (pf : Nat → Option Nat) (b : Nat) (V X : Sz) (T : Nat → Int) (hD0 : va_D (fun _ => True) (zO kA b T :: cs_X7 kA a V X pf)) {r : Int} {Vr : Sz} (hf : f_X7_restoreState V X = some (.inl (r, Vr))) (hr : rng r) : MZH l yL_restoreState cL_restoreState 3 (some .int) [(0, 8, 11, 54)] rmL_restoreState D kA [.ref (a 0), .ref b] (zO kA b T :: cs_X7 kA a V X pf) (zO kA b (up T 0 r) :: cs_X7 kA a Vr X pf) (some (vI 0)) := by
  refine zHI (own := RL) rfl rfl (Nat.le_of_ble_eq_true rfl) ?_
  intro p e s m args below meth c ls Q hC hK hP hl hret
  have hl : lv_has ls 3 [(0, .ref (a 0)), (1, .ref b)] := hl
  have hS : va_S (zF (zO kA b T :: cs_X7 kA a V X pf)) s.heap s.heap [] := va_S.rf
  have hD0 : va_D (zF (zO kA b T :: cs_X7 kA a V X pf)) (zO kA b T :: cs_X7 kA a V X pf) := ⟨hD0.1, fun k q hk => ⟨k, q.2, hk⟩⟩
  generalize hAe : zF (zO kA b T :: cs_X7 kA a V X pf) = A0 at hS hD0 hret
  have hD : ∀ w : Sz × Sz, va_D A0 (zO kA b T :: cs_X7 kA a w.1 w.2 pf) := zDany (C := fun w : Sz × Sz => (zO kA b T :: cs_X7 kA a w.1 w.2 pf)) (V, X) (fun _ => rfl) hD0
  refine lv_aload_n hC.1 hC.2.1 dL_restoreState_0 rfl (lv_at hl 1 rfl) <| ziconst hC.1 hC.2.1 dL_restoreState_1 <| lv_aload_n hC.1 hC.2.1 dL_restoreState_2 rfl (lv_at hl 0 rfl) ?_
  have hDc : ∀ w : Sz, va_D (fun _ => True) (cs_X7 kA a w X pf) := fun w => (zDtail (hD (w, X))).weaken (fun _ _ _ _ => trivial)
  refine zcVZ (As := []) (rest := [vI 0, .ref b]) hC hK (met_X7_restoreState l D kA a pf V X hDc hf) zwL_128 hS (fun q h => h.elim fun k h => h.elim fun e h => (hD (V, X)).2 (k + 1) (q, e) h) (zPtail hP) (q0 := 0) rfl rfl rfl rfl hl.1 rfl (Nat.le_of_ble_eq_true rfl) ⟨(Nat.le_of_ble_eq_true rfl), (Nat.le_of_ble_eq_true rfl)⟩ ⟨rfl, rfl⟩ ⟨Nat.le_refl _, Nat.le_refl _⟩ dL_restoreState_3 (fun H locs hP1 hk1 hS => ?_)
  have hP : va_P D vwCl (zO kA b T :: cs_X7 kA a Vr X pf) H := zjoinA (A := [zO kA b T]) hP ((hD (V, X)).weaken (fun _ _ _ _ => trivial)) hk1 hP1
  have hD := hD (Vr, X)
  refine zi2l hC.1 hC.2.1 hr dL_restoreState_6 ?_
  refine jlas hC hK hP hD hS (q0 := 0) rfl (Nat.le_of_ble_eq_true rfl) (by decide) rfl dL_restoreState_7 (fun H locs hP hS => ?_)
  refine lv_goto (tgt := 14) hC.1 hC.2.1 dL_restoreState_8 (by decide) ?_
  refine ziconst hC.1 hC.2.1 dL_restoreState_14 ?_
  exact hret (Int32.ofInt 0) _ _ _ _ rfl hP hS dL_restoreState_15
abbrev rxL_restoreState : Room := { frames := 7, cells := 1, slots := 6, locals := 143 }
set_option maxHeartbeats 1000000 in
set_option maxRecDepth 100000 in
theorem wth2_restoreState (l : Launch) (D : va_G) (kA : Nat → ClassId) (a : Nat → Nat) (pf : Nat → Option Nat) (b : Nat) (V X : Sz) (T : Nat → Int) (hf : f_X7_restoreState V X = some (.inr 2)) : MTH l yL_restoreState cL_restoreState 3 (some .int) [(0, 8, 11, 54)] rxL_restoreState D kA [.ref (a 0), .ref b] (zO kA b T :: cs_X7 kA a V X pf) (some (vI 1)) := by
  refine zHT (own := RL) rfl rfl (Nat.le_of_ble_eq_true rfl) ?_
  intro p e s m args below meth c ls Q hC hK hP hX hN hT hl hret
  have hl : lv_has ls 3 [(0, .ref (a 0)), (1, .ref b)] := hl
  refine lv_aload_n hC.1 hC.2.1 dL_restoreState_0 rfl (lv_at hl 1 rfl) <| ziconst hC.1 hC.2.1 dL_restoreState_1 <| lv_aload_n hC.1 hC.2.1 dL_restoreState_2 rfl (lv_at hl 0 rfl) ?_
  refine zcVT (As := []) (rest := [vI 0, .ref b]) hC hK hX (thr_X7_restoreState l D kA a pf V X hf) zwL_128 (zPtail hP) (q0 := 0) rfl rfl rfl rfl hl.1 rfl (Nat.le_of_ble_eq_true rfl) ⟨(Nat.le_of_ble_eq_true rfl), (Nat.le_of_ble_eq_true rfl)⟩ ⟨rfl, rfl⟩ ⟨(Nat.le_of_ble_eq_true rfl), (Nat.le_of_ble_eq_true rfl)⟩ dL_restoreState_3 (fun ce q9 H h1 h2 h3 h4 h5 => ?_)
  refine vx_catch (own := RL) (name := zEx 2) (E := zEx 2) (pc := 3) hC.2.2.2.1 [] ⟨0, 8, 11, 54⟩ [] hT (fun z hz => absurd hz List.not_mem_nil) (by decide) (by decide) (hC.2.2.2.2 _ (qin_4 (i := 155) rfl rfl)) (va_tabs (zBd_tabs (List.mem_of_getElem? (i := 2) rfl)) rfl (hX.2.2.2 _ (List.mem_of_getElem? (i := 2) rfl))) h3 h4 h5 ?_
  refine lv_astore_n (lv' := [(2, .ref q9), (0, .ref (a 0)), (1, .ref b)]) (x := q9) hC.1 hC.2.1 dL_restoreState_11 rfl hl (by decide) rfl (fun ls hl => ?_)
  refine ziconst hC.1 hC.2.1 dL_restoreState_12 ?_
  exact hret (Int32.ofInt 1) _ _ _ rfl h1 h2 dL_restoreState_13
