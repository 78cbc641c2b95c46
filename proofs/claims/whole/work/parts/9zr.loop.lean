/-! the law: its loop -/
def ro_h : List (Nat × Instr × Nat) := [(28, .iload 5, 2), (30, .aload_n 0, 1), (31, .arraylength, 1), (32, .bipush 6, 2), (34, .isub, 1), (35, .if_icmp .gt 3060, 3), (38, .aload_n 0, 1), (39, .iload 5, 2), (41, .iaload, 1), (42, .bipush 63, 2), (44, .iand, 1), (3089, .iinc 5 6, 3), (3092, .goto (-3064), 3), (3095, .iconst 1, 1), (3096, .ireturn, 1)]
theorem dr_h : ∀ q ∈ ro_h, decode code q.1 = .ok q.2 := by decide +kernel
theorem dl_28 : decode code 28 = .ok (.iload 5, 2) := dr_h (28, .iload 5, 2) (List.mem_of_getElem? (i := 0) rfl)
theorem dl_30 : decode code 30 = .ok (.aload_n 0, 1) := dr_h (30, .aload_n 0, 1) (List.mem_of_getElem? (i := 1) rfl)
theorem dl_31 : decode code 31 = .ok (.arraylength, 1) := dr_h (31, .arraylength, 1) (List.mem_of_getElem? (i := 2) rfl)
theorem dl_32 : decode code 32 = .ok (.bipush 6, 2) := dr_h (32, .bipush 6, 2) (List.mem_of_getElem? (i := 3) rfl)
theorem dl_34 : decode code 34 = .ok (.isub, 1) := dr_h (34, .isub, 1) (List.mem_of_getElem? (i := 4) rfl)
theorem dl_35 : decode code 35 = .ok (.if_icmp .gt 3060, 3) := dr_h (35, .if_icmp .gt 3060, 3) (List.mem_of_getElem? (i := 5) rfl)
theorem dl_38 : decode code 38 = .ok (.aload_n 0, 1) := dr_h (38, .aload_n 0, 1) (List.mem_of_getElem? (i := 6) rfl)
theorem dl_39 : decode code 39 = .ok (.iload 5, 2) := dr_h (39, .iload 5, 2) (List.mem_of_getElem? (i := 7) rfl)
theorem dl_41 : decode code 41 = .ok (.iaload, 1) := dr_h (41, .iaload, 1) (List.mem_of_getElem? (i := 8) rfl)
theorem dl_42 : decode code 42 = .ok (.bipush 63, 2) := dr_h (42, .bipush 63, 2) (List.mem_of_getElem? (i := 9) rfl)
theorem dl_44 : decode code 44 = .ok (.iand, 1) := dr_h (44, .iand, 1) (List.mem_of_getElem? (i := 10) rfl)
theorem dl_3089 : decode code 3089 = .ok (.iinc 5 6, 3) := dr_h (3089, .iinc 5 6, 3) (List.mem_of_getElem? (i := 11) rfl)
theorem dl_3092 : decode code 3092 = .ok (.goto (-3064), 3) := dr_h (3092, .goto (-3064), 3) (List.mem_of_getElem? (i := 12) rfl)
theorem dl_3095 : decode code 3095 = .ok (.iconst 1, 1) := dr_h (3095, .iconst 1, 1) (List.mem_of_getElem? (i := 13) rfl)
theorem dl_3096 : decode code 3096 = .ok (.ireturn, 1) := dr_h (3096, .ireturn, 1) (List.mem_of_getElem? (i := 14) rfl)
theorem dl_45 : decode code 45 = .ok (.tableswitch 3044 0 50 #[219, 292, 317, 330, 343, 356, 412, 480, 548, 628, 696, 776, 832, 907, 987, 1083, 1139, 1219, 1287, 1379, 1471, 1539, 1607, 1663, 1719, 1787, 1871, 1884, 1897, 1953, 1966, 2022, 2090, 2146, 2202, 2258, 2271, 2327, 2407, 2420, 2504, 2572, 2652, 2720, 2809, 2852, 2893, 2949, 2974, 2987, 3000], 219) := by decide +kernel
section LCS
variable {p : Program} {l : Launch} {e : Env} {s : State} {m : MethodId} {below : List Frame} {meth : Method} {c : Code} {H : Heap} {locs : List Loc} {cells slots : Nat} {Q : State → Prop}
variable {ls : Array Slot} {rest : List Value} {D : va_G} {kA : Nat → ClassId} {b L n : Nat} {xs : Nat → Int32} {adK adV : Nat → Nat} {a a8 : Nat → Nat} {bO bD : Nat}
set_option maxHeartbeats 2000000 in
set_option maxRecDepth 100000 in
/-- the switch: one of 51 calls, or none -/
theorem law_switch (hNN : NNaN) (hL : LC p l s m c b L xs D kA adK adV) (hI : LI D kA a a8 bO bD s H locs) (hl : lv_has ls 10 (lb a a8 bO bD b n)) (hn : n + 6 ≤ L) (hf : cells + 25 ≤ room_1.cells ∧ slots + 2046 ≤ room_1.slots) {v : Int} (hv : 0 ≤ v ∧ v < 64)
    (kk : ∀ (H1 : Heap) (locs1 : List Loc) (ls1 : Array Slot), LI D kA a a8 bO bD s H1 locs1 → lv_has ls1 10 (lb a a8 bO bD b n) → W p l e room_1 s m #[Value.ref b] below meth c H1 locs1 (cells + 25) (slots + 2046) Q (F0 m 3089 ls1 [])) : W p l e room_1 s m #[Value.ref b] below meth c H locs cells slots Q (F0 m 45 ls [vI v]) := by
  have hC := hL.1
  by_cases h0 : v = 0
  · exact ztsIn (k := 0) (tgt := 264) hC.1 hC.2.1 dl_45 h0 ⟨⟨by decide, by decide⟩, by decide, by decide, by decide⟩ rfl (by decide) (ca_0 hL hI hl hn hf kk)
  by_cases h1 : v = 1
  · exact ztsIn (k := 1) (tgt := 337) hC.1 hC.2.1 dl_45 h1 ⟨⟨by decide, by decide⟩, by decide, by decide, by decide⟩ rfl (by decide) (ca_1 hL hI hl hn hf kk)
  by_cases h2 : v = 2
  · exact ztsIn (k := 2) (tgt := 362) hC.1 hC.2.1 dl_45 h2 ⟨⟨by decide, by decide⟩, by decide, by decide, by decide⟩ rfl (by decide) (ca_2 hL hI hl hn hf kk)
  by_cases h3 : v = 3
  · exact ztsIn (k := 3) (tgt := 375) hC.1 hC.2.1 dl_45 h3 ⟨⟨by decide, by decide⟩, by decide, by decide, by decide⟩ rfl (by decide) (ca_3 hL hI hl hn hf kk)
  by_cases h4 : v = 4
  · exact ztsIn (k := 4) (tgt := 388) hC.1 hC.2.1 dl_45 h4 ⟨⟨by decide, by decide⟩, by decide, by decide, by decide⟩ rfl (by decide) (ca_4 hL hI hl hn hf kk)
  by_cases h5 : v = 5
  · exact ztsIn (k := 5) (tgt := 401) hC.1 hC.2.1 dl_45 h5 ⟨⟨by decide, by decide⟩, by decide, by decide, by decide⟩ rfl (by decide) (ca_5 hL hI hl hn hf kk)
  by_cases h6 : v = 6
  · exact ztsIn (k := 6) (tgt := 457) hC.1 hC.2.1 dl_45 h6 ⟨⟨by decide, by decide⟩, by decide, by decide, by decide⟩ rfl (by decide) (ca_6 hL hI hl hn hf kk)
  by_cases h7 : v = 7
  · exact ztsIn (k := 7) (tgt := 525) hC.1 hC.2.1 dl_45 h7 ⟨⟨by decide, by decide⟩, by decide, by decide, by decide⟩ rfl (by decide) (ca_7 hL hI hl hn hf kk)
  by_cases h8 : v = 8
  · exact ztsIn (k := 8) (tgt := 593) hC.1 hC.2.1 dl_45 h8 ⟨⟨by decide, by decide⟩, by decide, by decide, by decide⟩ rfl (by decide) (ca_8 hL hI hl hn hf kk)
  by_cases h9 : v = 9
  · exact ztsIn (k := 9) (tgt := 673) hC.1 hC.2.1 dl_45 h9 ⟨⟨by decide, by decide⟩, by decide, by decide, by decide⟩ rfl (by decide) (ca_9 hL hI hl hn hf kk)
  by_cases h10 : v = 10
  · exact ztsIn (k := 10) (tgt := 741) hC.1 hC.2.1 dl_45 h10 ⟨⟨by decide, by decide⟩, by decide, by decide, by decide⟩ rfl (by decide) (ca_10 hL hI hl hn hf kk)
  by_cases h11 : v = 11
  · exact ztsIn (k := 11) (tgt := 821) hC.1 hC.2.1 dl_45 h11 ⟨⟨by decide, by decide⟩, by decide, by decide, by decide⟩ rfl (by decide) (ca_11 hL hI hl hn hf kk)
  by_cases h12 : v = 12
  · exact ztsIn (k := 12) (tgt := 877) hC.1 hC.2.1 dl_45 h12 ⟨⟨by decide, by decide⟩, by decide, by decide, by decide⟩ rfl (by decide) (ca_12 hL hI hl hn hf kk)
  by_cases h13 : v = 13
  · exact ztsIn (k := 13) (tgt := 952) hC.1 hC.2.1 dl_45 h13 ⟨⟨by decide, by decide⟩, by decide, by decide, by decide⟩ rfl (by decide) (ca_13 hL hI hl hn hf kk)
  by_cases h14 : v = 14
  · exact ztsIn (k := 14) (tgt := 1032) hC.1 hC.2.1 dl_45 h14 ⟨⟨by decide, by decide⟩, by decide, by decide, by decide⟩ rfl (by decide) (ca_14 hL hI hl hn hf kk)
  by_cases h15 : v = 15
  · exact ztsIn (k := 15) (tgt := 1128) hC.1 hC.2.1 dl_45 h15 ⟨⟨by decide, by decide⟩, by decide, by decide, by decide⟩ rfl (by decide) (ca_15 hL hI hl hn hf kk)
  by_cases h16 : v = 16
  · exact ztsIn (k := 16) (tgt := 1184) hC.1 hC.2.1 dl_45 h16 ⟨⟨by decide, by decide⟩, by decide, by decide, by decide⟩ rfl (by decide) (ca_16 hL hI hl hn hf kk)
  by_cases h17 : v = 17
  · exact ztsIn (k := 17) (tgt := 1264) hC.1 hC.2.1 dl_45 h17 ⟨⟨by decide, by decide⟩, by decide, by decide, by decide⟩ rfl (by decide) (ca_17 hL hI hl hn hf kk)
  by_cases h18 : v = 18
  · exact ztsIn (k := 18) (tgt := 1332) hC.1 hC.2.1 dl_45 h18 ⟨⟨by decide, by decide⟩, by decide, by decide, by decide⟩ rfl (by decide) (ca_18 hL hI hl hn hf kk)
  by_cases h19 : v = 19
  · exact ztsIn (k := 19) (tgt := 1424) hC.1 hC.2.1 dl_45 h19 ⟨⟨by decide, by decide⟩, by decide, by decide, by decide⟩ rfl (by decide) (ca_19 hL hI hl hn hf kk)
  by_cases h20 : v = 20
  · exact ztsIn (k := 20) (tgt := 1516) hC.1 hC.2.1 dl_45 h20 ⟨⟨by decide, by decide⟩, by decide, by decide, by decide⟩ rfl (by decide) (ca_20 hL hI hl hn hf kk)
  by_cases h21 : v = 21
  · exact ztsIn (k := 21) (tgt := 1584) hC.1 hC.2.1 dl_45 h21 ⟨⟨by decide, by decide⟩, by decide, by decide, by decide⟩ rfl (by decide) (ca_21 hL hI hl hn hf kk)
  by_cases h22 : v = 22
  · exact ztsIn (k := 22) (tgt := 1652) hC.1 hC.2.1 dl_45 h22 ⟨⟨by decide, by decide⟩, by decide, by decide, by decide⟩ rfl (by decide) (ca_22 hL hI hl hn hf kk)
  by_cases h23 : v = 23
  · exact ztsIn (k := 23) (tgt := 1708) hC.1 hC.2.1 dl_45 h23 ⟨⟨by decide, by decide⟩, by decide, by decide, by decide⟩ rfl (by decide) (ca_23 hL hI hl hn hf kk)
  by_cases h24 : v = 24
  · exact ztsIn (k := 24) (tgt := 1764) hC.1 hC.2.1 dl_45 h24 ⟨⟨by decide, by decide⟩, by decide, by decide, by decide⟩ rfl (by decide) (ca_24 hL hI hl hn hf kk)
  by_cases h25 : v = 25
  · exact ztsIn (k := 25) (tgt := 1832) hC.1 hC.2.1 dl_45 h25 ⟨⟨by decide, by decide⟩, by decide, by decide, by decide⟩ rfl (by decide) (ca_25 hL hI hl hn hf kk)
  by_cases h26 : v = 26
  · exact ztsIn (k := 26) (tgt := 1916) hC.1 hC.2.1 dl_45 h26 ⟨⟨by decide, by decide⟩, by decide, by decide, by decide⟩ rfl (by decide) (ca_26 hL hI hl hn hf kk)
  by_cases h27 : v = 27
  · exact ztsIn (k := 27) (tgt := 1929) hC.1 hC.2.1 dl_45 h27 ⟨⟨by decide, by decide⟩, by decide, by decide, by decide⟩ rfl (by decide) (ca_27 hL hI hl hn hf kk)
  by_cases h28 : v = 28
  · exact ztsIn (k := 28) (tgt := 1942) hC.1 hC.2.1 dl_45 h28 ⟨⟨by decide, by decide⟩, by decide, by decide, by decide⟩ rfl (by decide) (ca_28 hL hI hl hn hf kk)
  by_cases h29 : v = 29
  · exact ztsIn (k := 29) (tgt := 1998) hC.1 hC.2.1 dl_45 h29 ⟨⟨by decide, by decide⟩, by decide, by decide, by decide⟩ rfl (by decide) (ca_29 hL hI hl hn hf kk)
  by_cases h30 : v = 30
  · exact ztsIn (k := 30) (tgt := 2011) hC.1 hC.2.1 dl_45 h30 ⟨⟨by decide, by decide⟩, by decide, by decide, by decide⟩ rfl (by decide) (ca_30 hL hI hl hn hf kk)
  by_cases h31 : v = 31
  · exact ztsIn (k := 31) (tgt := 2067) hC.1 hC.2.1 dl_45 h31 ⟨⟨by decide, by decide⟩, by decide, by decide, by decide⟩ rfl (by decide) (ca_31 hL hI hl hn hf kk)
  by_cases h32 : v = 32
  · exact ztsIn (k := 32) (tgt := 2135) hC.1 hC.2.1 dl_45 h32 ⟨⟨by decide, by decide⟩, by decide, by decide, by decide⟩ rfl (by decide) (ca_32 hL hI hl hn hf kk)
  by_cases h33 : v = 33
  · exact ztsIn (k := 33) (tgt := 2191) hC.1 hC.2.1 dl_45 h33 ⟨⟨by decide, by decide⟩, by decide, by decide, by decide⟩ rfl (by decide) (ca_33 hL hI hl hn hf kk)
  by_cases h34 : v = 34
  · exact ztsIn (k := 34) (tgt := 2247) hC.1 hC.2.1 dl_45 h34 ⟨⟨by decide, by decide⟩, by decide, by decide, by decide⟩ rfl (by decide) (ca_34 hL hI hl hn hf kk)
  by_cases h35 : v = 35
  · exact ztsIn (k := 35) (tgt := 2303) hC.1 hC.2.1 dl_45 h35 ⟨⟨by decide, by decide⟩, by decide, by decide, by decide⟩ rfl (by decide) (ca_35 hL hI hl hn hf kk)
  by_cases h36 : v = 36
  · exact ztsIn (k := 36) (tgt := 2316) hC.1 hC.2.1 dl_45 h36 ⟨⟨by decide, by decide⟩, by decide, by decide, by decide⟩ rfl (by decide) (ca_36 hL hI hl hn hf kk)
  by_cases h37 : v = 37
  · exact ztsIn (k := 37) (tgt := 2372) hC.1 hC.2.1 dl_45 h37 ⟨⟨by decide, by decide⟩, by decide, by decide, by decide⟩ rfl (by decide) (ca_37 hL hI hl hn hf kk)
  by_cases h38 : v = 38
  · exact ztsIn (k := 38) (tgt := 2452) hC.1 hC.2.1 dl_45 h38 ⟨⟨by decide, by decide⟩, by decide, by decide, by decide⟩ rfl (by decide) (ca_38 hL hI hl hn hf kk)
  by_cases h39 : v = 39
  · exact ztsIn (k := 39) (tgt := 2465) hC.1 hC.2.1 dl_45 h39 ⟨⟨by decide, by decide⟩, by decide, by decide, by decide⟩ rfl (by decide) (ca_39 hL hI hl hn hf kk)
  by_cases h40 : v = 40
  · exact ztsIn (k := 40) (tgt := 2549) hC.1 hC.2.1 dl_45 h40 ⟨⟨by decide, by decide⟩, by decide, by decide, by decide⟩ rfl (by decide) (ca_40 hL hI hl hn hf kk)
  by_cases h41 : v = 41
  · exact ztsIn (k := 41) (tgt := 2617) hC.1 hC.2.1 dl_45 h41 ⟨⟨by decide, by decide⟩, by decide, by decide, by decide⟩ rfl (by decide) (ca_41 hL hI hl hn hf kk)
  by_cases h42 : v = 42
  · exact ztsIn (k := 42) (tgt := 2697) hC.1 hC.2.1 dl_45 h42 ⟨⟨by decide, by decide⟩, by decide, by decide, by decide⟩ rfl (by decide) (ca_42 hL hI hl hn hf kk)
  by_cases h43 : v = 43
  · exact ztsIn (k := 43) (tgt := 2765) hC.1 hC.2.1 dl_45 h43 ⟨⟨by decide, by decide⟩, by decide, by decide, by decide⟩ rfl (by decide) (ca_43 hNN hL hI hl hn hf kk)
  by_cases h44 : v = 44
  · exact ztsIn (k := 44) (tgt := 2854) hC.1 hC.2.1 dl_45 h44 ⟨⟨by decide, by decide⟩, by decide, by decide, by decide⟩ rfl (by decide) (ca_44 hNN hL hI hl hn hf kk)
  by_cases h45 : v = 45
  · exact ztsIn (k := 45) (tgt := 2897) hC.1 hC.2.1 dl_45 h45 ⟨⟨by decide, by decide⟩, by decide, by decide, by decide⟩ rfl (by decide) (ca_45 hNN hL hI hl hn hf kk)
  by_cases h46 : v = 46
  · exact ztsIn (k := 46) (tgt := 2938) hC.1 hC.2.1 dl_45 h46 ⟨⟨by decide, by decide⟩, by decide, by decide, by decide⟩ rfl (by decide) (ca_46 hL hI hl hn hf kk)
  by_cases h47 : v = 47
  · exact ztsIn (k := 47) (tgt := 2994) hC.1 hC.2.1 dl_45 h47 ⟨⟨by decide, by decide⟩, by decide, by decide, by decide⟩ rfl (by decide) (ca_47 hL hI hl hn hf kk)
  by_cases h48 : v = 48
  · exact ztsIn (k := 48) (tgt := 3019) hC.1 hC.2.1 dl_45 h48 ⟨⟨by decide, by decide⟩, by decide, by decide, by decide⟩ rfl (by decide) (ca_48 hL hI hl hn hf kk)
  by_cases h49 : v = 49
  · exact ztsIn (k := 49) (tgt := 3032) hC.1 hC.2.1 dl_45 h49 ⟨⟨by decide, by decide⟩, by decide, by decide, by decide⟩ rfl (by decide) (ca_49 hL hI hl hn hf kk)
  by_cases h50 : v = 50
  · exact ztsIn (k := 50) (tgt := 3045) hC.1 hC.2.1 dl_45 h50 ⟨⟨by decide, by decide⟩, by decide, by decide, by decide⟩ rfl (by decide) (ca_50 hL hI hl hn hf kk)
  exact ztsOut (tgt := 3089) hC.1 hC.2.1 ⟨by omega, by omega⟩ dl_45 (by decide) (by omega) (W.widen (k := cells + 25) (n := slots + 2046) (by omega) (by omega) (kk H locs ls hI hl))
theorem oI_and63 (x : Int) : Int32.ofInt x &&& Int32.ofInt 63 = Int32.ofInt (x % 64) := oI_and_pow x 6 (by omega)
theorem LI.frame (h : LI D kA a a8 bO bD s H locs) : va_S (zA s) s.heap H locs := by
  obtain ⟨pa, V, X, PV, K, V8, T, TD, hP, hD, hS, hrel⟩ := h
  exact hS
set_option maxHeartbeats 1000000 in
set_option maxRecDepth 100000 in
/-- the loop, from its head in turn j, k turns at most ahead -/
theorem law_loop {c0 s0 : Nat} (hNN : NNaN) (hL : LC p l s m c b L xs D kA adK adV) (hc0 : c0 + 25 * 513 ≤ room_1.cells) (hs0 : s0 + 2046 * 513 ≤ room_1.slots)
    (hX : ∀ (H : Heap) (locs : List Loc) (ls : Array Slot) (cells slots : Nat), va_S (zA s) s.heap H locs → cells ≤ c0 + 25 * 513 → slots ≤ s0 + 2046 * 513 → W p l e room_1 s m #[Value.ref b] below meth c H locs cells slots Q (F0 m 3095 ls [])) :
    ∀ (k j : Nat) (H : Heap) (locs : List Loc) (ls : Array Slot), L ≤ 6 * j + 6 * k → j ≤ 513 → LI D kA a a8 bO bD s H locs → lv_has ls 10 (lb a a8 bO bD b (6 * j)) → W p l e room_1 s m #[Value.ref b] below meth c H locs (c0 + 25 * j) (s0 + 2046 * j) Q (F0 m 28 ls []) := by
  have hC := hL.1
  have hL0 := hL
  obtain ⟨-, -, -, -, -, hx, hb, hL2⟩ := hL
  intro k
  induction k with
  | zero =>
    intro j H locs ls hk hj hI hl
    refine ziload hC.1 hC.2.1 dl_28 (lv_at hl 0 rfl) <| lv_aload_n hC.1 hC.2.1 dl_30 rfl (lv_at hl 5 rfl) <| va_slen hC.1 hC.2.1 hx hb (Nat.not_le.mpr hb) hI.frame dl_31 ?_
    rw [show (Value.int (Int32.ofNat L)) = vI (L : Int) from rfl]
    refine zbipush hC.1 hC.2.1 dl_32 (by decide) <| zisub hC.1 hC.2.1 dl_34 ?_
    refine zicmp_gt (tgt := 3095) hC.1 hC.2.1 ⟨⟨by omega, by omega⟩, ⟨by omega, by omega⟩⟩ dl_35 (by decide) (fun _ => hX H locs ls _ _ hI.frame (by omega) (by omega)) (fun h => absurd (by omega) h)
  | succ k ih =>
    intro j H locs ls hk hj hI hl
    refine ziload hC.1 hC.2.1 dl_28 (lv_at hl 0 rfl) <| lv_aload_n hC.1 hC.2.1 dl_30 rfl (lv_at hl 5 rfl) <| va_slen hC.1 hC.2.1 hx hb (Nat.not_le.mpr hb) hI.frame dl_31 ?_
    rw [show (Value.int (Int32.ofNat L)) = vI (L : Int) from rfl]
    refine zbipush hC.1 hC.2.1 dl_32 (by decide) <| zisub hC.1 hC.2.1 dl_34 ?_
    refine zicmp_gt (tgt := 3095) hC.1 hC.2.1 ⟨⟨by omega, by omega⟩, ⟨by omega, by omega⟩⟩ dl_35 (by decide) (fun _ => hX H locs ls _ _ hI.frame (by omega) (by omega)) (fun hle => ?_)
    refine lv_aload_n hC.1 hC.2.1 dl_38 rfl (lv_at hl 5 rfl) <| ziload hC.1 hC.2.1 dl_39 (lv_at hl 0 rfl) ?_
    have hi := oI_idx (x := ((6 * j : Nat) : Int)) (n := L) ⟨by omega, by omega⟩ (by omega)
    refine va_sld hC.1 hC.2.1 hx hb (Nat.not_le.mpr hb) hI.frame (inb_in hi.1) dl_41 ?_
    rw [hi.2, show ((6 * j : Nat) : Int).toNat = 6 * j from rfl]
    have ex : (Value.int (xs (6 * j))) = vI (ev xs (6 * j) 0) := by
      unfold vI ev
      rw [Int32.ofInt_toInt]; rfl
    rw [ex]
    refine zbipush hC.1 hC.2.1 dl_42 (by decide) ?_
    refine lv_iand hC.1 hC.2.1 dl_44 ?_
    rw [oI_and63]
    refine law_switch hNN hL0 hI hl (by omega) ⟨by omega, by omega⟩ (v := ev xs (6 * j) 0 % 64) ⟨by omega, by omega⟩ (fun H1 locs1 ls1 hI1 hl1 => ?_)
    refine ziinc (v := ((6 * (j + 1) : Nat) : Int)) (lv' := lb a a8 bO bD b (6 * (j + 1))) hC.1 hC.2.1 dl_3089 hl1 (k := 0) rfl (by omega) (by decide) rfl (fun ls2 hl2 => ?_)
    refine lv_goto (tgt := 28) hC.1 hC.2.1 dl_3092 (by decide) ?_
    have h9 := ih (j + 1) H1 locs1 ls2 (by omega) (by omega) hI1 hl2
    rw [show c0 + 25 * (j + 1) = c0 + 25 * j + 25 by omega, show s0 + 2046 * (j + 1) = s0 + 2046 * j + 2046 by omega] at h9
    exact h9
end LCS
