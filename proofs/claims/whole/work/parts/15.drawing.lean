def cs_X2 (kA : Nat → ClassId) (a : Nat → Nat) (V : Sz) : va_W := [(a 0, .inr (2, [.ref (a 1), vI (V 1 0), .ref (a 2), vI (V 3 0)])), (a 1, .inl (kA 0, 60, .inl (aI (V 0)))), (a 2, .inl (kA 0, 180, .inl (aI (V 2))))]
def jX2_fillPool_52 (n : Nat) (G : Sz) (rec7 : Int × Sz → Option (Sz)) (y2 : Int) (V : Sz) : Option (Sz) := nm (y2 + 1) fun (x_5 : Int) => rec7 (x_5, V)
def bX2_fillPool_7 (n : Nat) (G : Sz) (rec7 : Int × Sz → Option (Sz)) : Int × Sz → Option (Sz) := fun (y2, V) => bd (f_X3_slotCount G) fun (r_2 : Int) => ck (rng y2 ∧ rng r_2) <| if r_2 ≤ y2 then (some V) else (bd (f_X3_isPart G y2) fun (r_4 : Bool) => if r_4 = false then (jX2_fillPool_52 n G rec7 y2 V) else (ck (inZ y2 180) <| ck (rng (G 11 y2.toNat)) <| if G 11 y2.toNat ≤ 0 then (jX2_fillPool_52 n G rec7 y2 V) else (ck (inZ (V 3 0) 180) <| nm (uz V 2 (V 3 0).toNat y2) fun (V_9 : Sz) => nm (us V_9 3 ((V_9 3 0) + 1)) fun (V_10 : Sz) => jX2_fillPool_52 n G rec7 y2 V_10)))
theorem bX2_fillPool_7_e (n : Nat) (G : Sz) (rec7 : Int × Sz → Option (Sz)) (y2 : Int) (V : Sz) : bX2_fillPool_7 n G rec7 (y2, V) = (bd (f_X3_slotCount G) fun (r_2 : Int) => ck (rng y2 ∧ rng r_2) <| if r_2 ≤ y2 then (some V) else (bd (f_X3_isPart G y2) fun (r_4 : Bool) => if r_4 = false then (jX2_fillPool_52 n G rec7 y2 V) else (ck (inZ y2 180) <| ck (rng (G 11 y2.toNat)) <| if G 11 y2.toNat ≤ 0 then (jX2_fillPool_52 n G rec7 y2 V) else (ck (inZ (V 3 0) 180) <| nm (uz V 2 (V 3 0).toNat y2) fun (V_9 : Sz) => nm (us V_9 3 ((V_9 3 0) + 1)) fun (V_10 : Sz) => jX2_fillPool_52 n G rec7 y2 V_10)))) := rfl
def f_X2_fillPool (n : Nat) (V0 : Sz) (G : Sz) : Option (Sz) := nm (us V0 3 0) fun (V_1 : Sz) => lpF (bX2_fillPool_7 n G) n (0, V_1)
def bX2_dropFromPool_12 (n : Nat) (x1 : Int) (rec12 : Int × Sz → Option (Sz)) : Int × Sz → Option (Sz) := fun (y2, V) => ck (rng y2 ∧ rng (V 3 0)) <| if V 3 0 ≤ y2 then (some V) else (ck (inZ (y2 + 1) 180) <| ck (inZ y2 180) <| nm (uz V 2 y2.toNat (V 2 (y2 + 1).toNat)) fun (V_5 : Sz) => nm (y2 + 1) fun (x_6 : Int) => rec12 (x_6, V_5))
theorem bX2_dropFromPool_12_e (n : Nat) (x1 : Int) (rec12 : Int × Sz → Option (Sz)) (y2 : Int) (V : Sz) : bX2_dropFromPool_12 n x1 rec12 (y2, V) = (ck (rng y2 ∧ rng (V 3 0)) <| if V 3 0 ≤ y2 then (some V) else (ck (inZ (y2 + 1) 180) <| ck (inZ y2 180) <| nm (uz V 2 y2.toNat (V 2 (y2 + 1).toNat)) fun (V_5 : Sz) => nm (y2 + 1) fun (x_6 : Int) => rec12 (x_6, V_5))) := rfl
def f_X2_dropFromPool (n : Nat) (V0 : Sz) (x1 : Int) : Option (Sz) := nm (us V0 3 ((V0 3 0) - 1)) fun (V_1 : Sz) => lpF (bX2_dropFromPool_12 n x1) n (x1, V_1)
def bX2_draw_13 (n : Nat) (G : Sz) (x2 : Int) (x3 : Int) (rec13 : Int × Sz → Option (Sz)) : Int × Sz → Option (Sz) := fun (y4, V) => ck (rng (V 1 0) ∧ rng x2) <| if x2 ≤ V 1 0 then (some V) else (if 60 ≤ V 1 0 then (some V) else (ck (rng (V 3 0)) <| if V 3 0 ≤ 0 then (some V) else (nm (((y4 * 1103515245) + 12345) % 2147483648) fun (x_5 : Int) => ck (0 ≤ x_5 ∧ x_5 < 2147483648) <| ck (dvI (x_5 / 65536) (V 3 0)) <| nm ((x_5 / 65536) % (V 3 0)) fun (x_8 : Int) => ck (inZ x_8 180) <| ck (inZ (V 1 0) 60) <| nm (uz V 0 (V 1 0).toNat (V 2 x_8.toNat)) fun (V_11 : Sz) => nm (us V_11 1 ((V_11 1 0) + 1)) fun (V_12 : Sz) => bd (f_X2_dropFromPool n V_12 x_8) fun (V_13 : Sz) => rec13 (x_5, V_13))))
theorem bX2_draw_13_e (n : Nat) (G : Sz) (x2 : Int) (x3 : Int) (rec13 : Int × Sz → Option (Sz)) (y4 : Int) (V : Sz) : bX2_draw_13 n G x2 x3 rec13 (y4, V) = (ck (rng (V 1 0) ∧ rng x2) <| if x2 ≤ V 1 0 then (some V) else (if 60 ≤ V 1 0 then (some V) else (ck (rng (V 3 0)) <| if V 3 0 ≤ 0 then (some V) else (nm (((y4 * 1103515245) + 12345) % 2147483648) fun (x_5 : Int) => ck (0 ≤ x_5 ∧ x_5 < 2147483648) <| ck (dvI (x_5 / 65536) (V 3 0)) <| nm ((x_5 / 65536) % (V 3 0)) fun (x_8 : Int) => ck (inZ x_8 180) <| ck (inZ (V 1 0) 60) <| nm (uz V 0 (V 1 0).toNat (V 2 x_8.toNat)) fun (V_11 : Sz) => nm (us V_11 1 ((V_11 1 0) + 1)) fun (V_12 : Sz) => bd (f_X2_dropFromPool n V_12 x_8) fun (V_13 : Sz) => rec13 (x_5, V_13))))) := rfl
def f_X2_draw (n : Nat) (V0 : Sz) (G : Sz) (x2 : Int) (x3 : Int) : Option (Sz) := bd (f_X2_fillPool n V0 G) fun (V_1 : Sz) => nm (us V_1 1 0) fun (V_2 : Sz) => lpF (bX2_draw_13 n G x2 x3) n (x3, V_2)
theorem DX2_fillPool_0 : ∀ q ∈ ([(0, .aload_n 0, 1), (1, .iconst 0, 1), (2, .putfield 26, 3), (5, .iconst 0, 1), (6, .istore_n 2, 1), (7, .iload_n 2, 1), (8, .aload_n 1, 1), (9, .invokevirtual 36, 3), (12, .if_icmp .ge 46, 3), (15, .aload_n 1, 1), (16, .iload_n 2, 1), (17, .invokevirtual 42, 3), (20, .ifCond .eq 32, 3), (23, .aload_n 1, 1), (24, .getfield 46, 3), (27, .iload_n 2, 1), (28, .iaload, 1), (29, .ifCond .le 23, 3), (32, .aload_n 0, 1), (33, .getfield 15, 3), (36, .aload_n 0, 1), (37, .getfield 26, 3), (40, .iload_n 2, 1), (41, .iastore, 1), (42, .aload_n 0, 1), (43, .dup, 1), (44, .getfield 26, 3), (47, .iconst 1, 1), (48, .iadd, 1), (49, .putfield 26, 3), (52, .iinc 2 1, 3), (55, .goto (-48), 3), (58, .return_, 1)] : List (Nat × Instr × Nat)), decode cX2_fillPool q.1 = .ok q.2 := by decide +kernel
theorem dX2_fillPool_0 : decode cX2_fillPool 0 = .ok (.aload_n 0, 1) := DX2_fillPool_0 (0, .aload_n 0, 1) (List.mem_of_getElem? (i := 0) rfl)
theorem dX2_fillPool_1 : decode cX2_fillPool 1 = .ok (.iconst 0, 1) := DX2_fillPool_0 (1, .iconst 0, 1) (List.mem_of_getElem? (i := 1) rfl)
theorem dX2_fillPool_2 : decode cX2_fillPool 2 = .ok (.putfield 26, 3) := DX2_fillPool_0 (2, .putfield 26, 3) (List.mem_of_getElem? (i := 2) rfl)
theorem dX2_fillPool_5 : decode cX2_fillPool 5 = .ok (.iconst 0, 1) := DX2_fillPool_0 (5, .iconst 0, 1) (List.mem_of_getElem? (i := 3) rfl)
theorem dX2_fillPool_6 : decode cX2_fillPool 6 = .ok (.istore_n 2, 1) := DX2_fillPool_0 (6, .istore_n 2, 1) (List.mem_of_getElem? (i := 4) rfl)
theorem dX2_fillPool_7 : decode cX2_fillPool 7 = .ok (.iload_n 2, 1) := DX2_fillPool_0 (7, .iload_n 2, 1) (List.mem_of_getElem? (i := 5) rfl)
theorem dX2_fillPool_8 : decode cX2_fillPool 8 = .ok (.aload_n 1, 1) := DX2_fillPool_0 (8, .aload_n 1, 1) (List.mem_of_getElem? (i := 6) rfl)
theorem dX2_fillPool_9 : decode cX2_fillPool 9 = .ok (.invokevirtual 36, 3) := DX2_fillPool_0 (9, .invokevirtual 36, 3) (List.mem_of_getElem? (i := 7) rfl)
theorem dX2_fillPool_12 : decode cX2_fillPool 12 = .ok (.if_icmp .ge 46, 3) := DX2_fillPool_0 (12, .if_icmp .ge 46, 3) (List.mem_of_getElem? (i := 8) rfl)
theorem dX2_fillPool_15 : decode cX2_fillPool 15 = .ok (.aload_n 1, 1) := DX2_fillPool_0 (15, .aload_n 1, 1) (List.mem_of_getElem? (i := 9) rfl)
theorem dX2_fillPool_16 : decode cX2_fillPool 16 = .ok (.iload_n 2, 1) := DX2_fillPool_0 (16, .iload_n 2, 1) (List.mem_of_getElem? (i := 10) rfl)
theorem dX2_fillPool_17 : decode cX2_fillPool 17 = .ok (.invokevirtual 42, 3) := DX2_fillPool_0 (17, .invokevirtual 42, 3) (List.mem_of_getElem? (i := 11) rfl)
theorem dX2_fillPool_20 : decode cX2_fillPool 20 = .ok (.ifCond .eq 32, 3) := DX2_fillPool_0 (20, .ifCond .eq 32, 3) (List.mem_of_getElem? (i := 12) rfl)
theorem dX2_fillPool_23 : decode cX2_fillPool 23 = .ok (.aload_n 1, 1) := DX2_fillPool_0 (23, .aload_n 1, 1) (List.mem_of_getElem? (i := 13) rfl)
theorem dX2_fillPool_24 : decode cX2_fillPool 24 = .ok (.getfield 46, 3) := DX2_fillPool_0 (24, .getfield 46, 3) (List.mem_of_getElem? (i := 14) rfl)
theorem dX2_fillPool_27 : decode cX2_fillPool 27 = .ok (.iload_n 2, 1) := DX2_fillPool_0 (27, .iload_n 2, 1) (List.mem_of_getElem? (i := 15) rfl)
theorem dX2_fillPool_28 : decode cX2_fillPool 28 = .ok (.iaload, 1) := DX2_fillPool_0 (28, .iaload, 1) (List.mem_of_getElem? (i := 16) rfl)
theorem dX2_fillPool_29 : decode cX2_fillPool 29 = .ok (.ifCond .le 23, 3) := DX2_fillPool_0 (29, .ifCond .le 23, 3) (List.mem_of_getElem? (i := 17) rfl)
theorem dX2_fillPool_32 : decode cX2_fillPool 32 = .ok (.aload_n 0, 1) := DX2_fillPool_0 (32, .aload_n 0, 1) (List.mem_of_getElem? (i := 18) rfl)
theorem dX2_fillPool_33 : decode cX2_fillPool 33 = .ok (.getfield 15, 3) := DX2_fillPool_0 (33, .getfield 15, 3) (List.mem_of_getElem? (i := 19) rfl)
theorem dX2_fillPool_36 : decode cX2_fillPool 36 = .ok (.aload_n 0, 1) := DX2_fillPool_0 (36, .aload_n 0, 1) (List.mem_of_getElem? (i := 20) rfl)
theorem dX2_fillPool_37 : decode cX2_fillPool 37 = .ok (.getfield 26, 3) := DX2_fillPool_0 (37, .getfield 26, 3) (List.mem_of_getElem? (i := 21) rfl)
theorem dX2_fillPool_40 : decode cX2_fillPool 40 = .ok (.iload_n 2, 1) := DX2_fillPool_0 (40, .iload_n 2, 1) (List.mem_of_getElem? (i := 22) rfl)
theorem dX2_fillPool_41 : decode cX2_fillPool 41 = .ok (.iastore, 1) := DX2_fillPool_0 (41, .iastore, 1) (List.mem_of_getElem? (i := 23) rfl)
theorem dX2_fillPool_42 : decode cX2_fillPool 42 = .ok (.aload_n 0, 1) := DX2_fillPool_0 (42, .aload_n 0, 1) (List.mem_of_getElem? (i := 24) rfl)
theorem dX2_fillPool_43 : decode cX2_fillPool 43 = .ok (.dup, 1) := DX2_fillPool_0 (43, .dup, 1) (List.mem_of_getElem? (i := 25) rfl)
theorem dX2_fillPool_44 : decode cX2_fillPool 44 = .ok (.getfield 26, 3) := DX2_fillPool_0 (44, .getfield 26, 3) (List.mem_of_getElem? (i := 26) rfl)
theorem dX2_fillPool_47 : decode cX2_fillPool 47 = .ok (.iconst 1, 1) := DX2_fillPool_0 (47, .iconst 1, 1) (List.mem_of_getElem? (i := 27) rfl)
theorem dX2_fillPool_48 : decode cX2_fillPool 48 = .ok (.iadd, 1) := DX2_fillPool_0 (48, .iadd, 1) (List.mem_of_getElem? (i := 28) rfl)
theorem dX2_fillPool_49 : decode cX2_fillPool 49 = .ok (.putfield 26, 3) := DX2_fillPool_0 (49, .putfield 26, 3) (List.mem_of_getElem? (i := 29) rfl)
theorem dX2_fillPool_52 : decode cX2_fillPool 52 = .ok (.iinc 2 1, 3) := DX2_fillPool_0 (52, .iinc 2 1, 3) (List.mem_of_getElem? (i := 30) rfl)
theorem dX2_fillPool_55 : decode cX2_fillPool 55 = .ok (.goto (-48), 3) := DX2_fillPool_0 (55, .goto (-48), 3) (List.mem_of_getElem? (i := 31) rfl)
theorem dX2_fillPool_58 : decode cX2_fillPool 58 = .ok (.return_, 1) := DX2_fillPool_0 (58, .return_, 1) (List.mem_of_getElem? (i := 32) rfl)
abbrev rmX2_fillPool : Room := { frames := 1, cells := 0, slots := 0, locals := 21 }
set_option maxHeartbeats 400000 in
set_option maxRecDepth 100000 in
theorem met_X2_fillPool (l : Launch) (D : va_G) (kA : Nat → ClassId) (a : Nat → Nat) (b : Nat → Nat) (n : Nat) (V0 : Sz) (G : Sz) (hDt : ∀ w : Sz, va_D (fun _ => True) (cs_X2 kA a w ++ (cs_X3 kA b G))) {Vr : Sz} (hf : f_X2_fillPool n V0 G = some Vr) : MZ l yX2_fillPool cX2_fillPool 3 none rmX2_fillPool D kA [.ref (a 0), .ref (b 0)] (cs_X2 kA a V0 ++ (cs_X3 kA b G)) (cs_X2 kA a Vr ++ (cs_X3 kA b G)) (none) := by
  refine zZV (own := RX2) rfl rfl (Nat.le_of_ble_eq_true rfl) ?_
  intro p e s m args below meth c ls Q hC hK hP hl hret
  have hl : lv_has ls 3 [(0, .ref (a 0)), (1, .ref (b 0))] := hl
  have hS : va_S (zF (cs_X2 kA a V0 ++ (cs_X3 kA b G))) s.heap s.heap [] := va_S.rf
  have hD := zDself (C := fun w : Sz => (cs_X2 kA a w ++ (cs_X3 kA b G))) hDt V0 (fun _ => rfl)
  try dsimp only at hD
  generalize hAe : zF (cs_X2 kA a V0 ++ (cs_X3 kA b G)) = A0 at hS hD hret
  unfold f_X2_fillPool at hf
  have L7 : ∀ (k7 : Nat) (y2 : Int) (V : Sz) (H : Heap) (locs : List Loc) (ls : Array Slot), lpF (bX2_fillPool_7 n G) k7 (y2, V) = some Vr → va_P D vwCl (cs_X2 kA a V ++ (cs_X3 kA b G)) H → va_S A0 s.heap H locs → lv_has ls 3 [(0, .ref (a 0)), (1, .ref (b 0)), (2, vI y2)] → W p l e rmX2_fillPool s m args below meth c H locs 0 0 Q (F0 m 7 ls []) := by
    intro k7
    induction k7 with
    | zero => intro y2 V H locs ls hf hP hS hl; exact lp_0 hf
    | succ k7 ih7 =>
      intro y2 V H locs ls hf hP hS hl
      have hf := lp_s hf
      rw [bX2_fillPool_7_e] at hf
      have J52 : ∀ (y2 : Int) (V : Sz) (H : Heap) (locs : List Loc) (ls : Array Slot), jX2_fillPool_52 n G (lpF (bX2_fillPool_7 n G) k7) y2 V = some Vr → va_P D vwCl (cs_X2 kA a V ++ (cs_X3 kA b G)) H → va_S A0 s.heap H locs → lv_has ls 3 [(0, .ref (a 0)), (1, .ref (b 0)), (2, vI y2)] → W p l e rmX2_fillPool s m args below meth c H locs 0 0 Q (F0 m 52 ls []) := by
        intro y2 V H locs ls hf hP hS hl
        unfold jX2_fillPool_52 at hf
        obtain ⟨x_5, ex_5⟩ : ∃ y : Int, y = y2 + 1 := ⟨_, rfl⟩
        have hf := nm_at hf ex_5
        refine ziinc (v := x_5) (lv' := [(2, vI x_5), (0, .ref (a 0)), (1, .ref (b 0))]) hC.1 hC.2.1 dX2_fillPool_52 hl (k := 2) rfl ex_5 (by decide) rfl (fun ls hl => ?_)
        exact lv_goto (tgt := 7) hC.1 hC.2.1 dX2_fillPool_55 (by decide) <| ih7 _ _ _ _ _ hf hP hS (lv_sub hl [1, 2, 0] rfl)
      refine ziload_n hC.1 hC.2.1 dX2_fillPool_7 rfl (lv_at hl 2 rfl) <| lv_aload_n hC.1 hC.2.1 dX2_fillPool_8 rfl (lv_at hl 1 rfl) <| ?_
      obtain ⟨r_2, hu, hf⟩ := bd_some hf
      have hPc : va_P D vwCl (cs_X3 kA b G) _ := hP.sub [3, 4, 5, 6, 7, 8, 9, 10, 11, 12, 13, 14] rfl
      refine zcVP (As := []) (rest := [vI y2]) hC hK (met_X3_slotCount l D kA b G hu) zwX2_36 hPc (q0 := 0) rfl rfl rfl rfl hl.1 rfl (Nat.le_of_ble_eq_true rfl) ⟨Nat.le_of_ble_eq_true rfl, Nat.le_of_ble_eq_true rfl⟩ ⟨rfl, rfl⟩ ⟨Nat.le_refl _, Nat.le_refl _⟩ dX2_fillPool_9 <| ?_
      obtain ⟨hz_3, hf⟩ := ck_some hf
      refine zicmp_ge (tgt := 58) hC.1 hC.2.1 ⟨hz_3.1, hz_3.2⟩ dX2_fillPool_12 (by decide) (fun hc => ?_) (fun hc => ?_)
      · have hf := it_t hf hc
        have hf := Option.some.inj hf
        exact hret _ _ _ _ rfl (by rw [← hf]; exact hP) hS dX2_fillPool_58
      · have hf := it_f hf hc
        refine lv_aload_n hC.1 hC.2.1 dX2_fillPool_15 rfl (lv_at hl 1 rfl) <| ziload_n hC.1 hC.2.1 dX2_fillPool_16 rfl (lv_at hl 2 rfl) <| ?_
        obtain ⟨r_4, hu, hf⟩ := bd_some hf
        have hPc : va_P D vwCl (cs_X3 kA b G) _ := hP.sub [3, 4, 5, 6, 7, 8, 9, 10, 11, 12, 13, 14] rfl
        refine zcVP (As := [vI y2]) (rest := []) hC hK (met_X3_isPart l D kA b G y2 hu) zwX2_42 hPc (q0 := 0) rfl rfl rfl rfl hl.1 rfl (Nat.le_of_ble_eq_true rfl) ⟨Nat.le_of_ble_eq_true rfl, Nat.le_of_ble_eq_true rfl⟩ ⟨rfl, rfl⟩ ⟨Nat.le_refl _, Nat.le_refl _⟩ dX2_fillPool_17 <| zifb_eq (tgt := 52) hC.1 hC.2.1 dX2_fillPool_20 (by decide) (fun hc => ?_) (fun hc => ?_)
        · have hf := it_t hf hc
          exact J52 _ _ _ _ _ hf hP hS (lv_sub hl [0, 1, 2] rfl)
        · have hf := it_f hf hc
          refine lv_aload_n hC.1 hC.2.1 dX2_fillPool_23 rfl (lv_at hl 1 rfl) <| gfX2_46 hC hK hP (q0 := 3) rfl rfl dX2_fillPool_24 <| ziload_n hC.1 hC.2.1 dX2_fillPool_27 rfl (lv_at hl 2 rfl) <| ?_
          obtain ⟨hz_6, hf⟩ := ck_some hf
          refine jal hC hK hP (q0 := 14) rfl (Nat.le_of_ble_eq_true rfl) hz_6 rfl dX2_fillPool_28 <| ?_
          obtain ⟨hz_7, hf⟩ := ck_some hf
          refine zif_le (tgt := 52) hC.1 hC.2.1 hz_7 dX2_fillPool_29 (by decide) (fun hc => ?_) (fun hc => ?_)
          · have hf := it_t hf hc
            exact J52 _ _ _ _ _ hf hP hS (lv_sub hl [0, 1, 2] rfl)
          · have hf := it_f hf hc
            refine lv_aload_n hC.1 hC.2.1 dX2_fillPool_32 rfl (lv_at hl 0 rfl) <| gfX2_15 hC hK hP (q0 := 0) rfl rfl dX2_fillPool_33 <| lv_aload_n hC.1 hC.2.1 dX2_fillPool_36 rfl (lv_at hl 0 rfl) <| gfX2_26 hC hK hP (q0 := 0) rfl rfl dX2_fillPool_37 <| ziload_n hC.1 hC.2.1 dX2_fillPool_40 rfl (lv_at hl 2 rfl) <| ?_
            obtain ⟨hz_8, hf⟩ := ck_some hf
            refine jas hC hK hP (hD V) hS (q0 := 2) rfl (Nat.le_of_ble_eq_true rfl) hz_8 rfl dX2_fillPool_41 (fun H locs hP hS => ?_)
            obtain ⟨V_9, eV_9⟩ : ∃ y, y = uz V 2 (V 3 0).toNat y2 := ⟨_, rfl⟩
            have hf := nm_at hf eV_9
            have hP : va_P D vwCl (cs_X2 kA a V_9 ++ (cs_X3 kA b G)) H := by rw [eV_9]; exact hP
            refine lv_aload_n hC.1 hC.2.1 dX2_fillPool_42 rfl (lv_at hl 0 rfl) <| lv_dup hC.1 hC.2.1 dX2_fillPool_43 rfl <| gfX2_26 hC hK hP (q0 := 0) rfl rfl dX2_fillPool_44 <| ziconst hC.1 hC.2.1 dX2_fillPool_47 <| ziadd hC.1 hC.2.1 dX2_fillPool_48 <| ?_
            refine pfX2_26 hC hK hP (hD V_9) hS (q0 := 0) rfl (Nat.le_of_ble_eq_true rfl) dX2_fillPool_49 (fun H locs hP hS => ?_)
            obtain ⟨V_10, eV_10⟩ : ∃ y, y = us V_9 3 ((V_9 3 0) + 1) := ⟨_, rfl⟩
            have hf := nm_at hf eV_10
            have hP : va_P D vwCl (cs_X2 kA a V_10 ++ (cs_X3 kA b G)) H := by rw [eV_10]; exact hP
            exact J52 _ _ _ _ _ hf hP hS (lv_sub hl [0, 1, 2] rfl)
  refine lv_aload_n hC.1 hC.2.1 dX2_fillPool_0 rfl (lv_at hl 0 rfl) <| ziconst hC.1 hC.2.1 dX2_fillPool_1 <| ?_
  refine pfX2_26 hC hK hP (hD V0) hS (q0 := 0) rfl (Nat.le_of_ble_eq_true rfl) dX2_fillPool_2 (fun H locs hP hS => ?_)
  obtain ⟨V_1, eV_1⟩ : ∃ y, y = us V0 3 0 := ⟨_, rfl⟩
  have hf := nm_at hf eV_1
  have hP : va_P D vwCl (cs_X2 kA a V_1 ++ (cs_X3 kA b G)) H := by rw [eV_1]; exact hP
  refine ziconst hC.1 hC.2.1 dX2_fillPool_5 <| zistore_n (lv' := [(2, vI 0), (0, .ref (a 0)), (1, .ref (b 0))]) hC.1 hC.2.1 dX2_fillPool_6 rfl hl (by decide) rfl (fun ls hl => ?_)
  exact L7 n _ _ _ _ _ hf hP hS (lv_sub hl [1, 2, 0] rfl)
theorem DX2_dropFromPool_0 : ∀ q ∈ ([(0, .aload_n 0, 1), (1, .dup, 1), (2, .getfield 26, 3), (5, .iconst 1, 1), (6, .isub, 1), (7, .putfield 26, 3), (10, .iload_n 1, 1), (11, .istore_n 2, 1), (12, .iload_n 2, 1), (13, .aload_n 0, 1), (14, .getfield 26, 3), (17, .if_icmp .ge 23, 3), (20, .aload_n 0, 1), (21, .getfield 15, 3), (24, .iload_n 2, 1), (25, .aload_n 0, 1), (26, .getfield 15, 3), (29, .iload_n 2, 1), (30, .iconst 1, 1), (31, .iadd, 1), (32, .iaload, 1), (33, .iastore, 1), (34, .iinc 2 1, 3), (37, .goto (-25), 3), (40, .return_, 1)] : List (Nat × Instr × Nat)), decode cX2_dropFromPool q.1 = .ok q.2 := by decide +kernel
theorem dX2_dropFromPool_0 : decode cX2_dropFromPool 0 = .ok (.aload_n 0, 1) := DX2_dropFromPool_0 (0, .aload_n 0, 1) (List.mem_of_getElem? (i := 0) rfl)
theorem dX2_dropFromPool_1 : decode cX2_dropFromPool 1 = .ok (.dup, 1) := DX2_dropFromPool_0 (1, .dup, 1) (List.mem_of_getElem? (i := 1) rfl)
theorem dX2_dropFromPool_2 : decode cX2_dropFromPool 2 = .ok (.getfield 26, 3) := DX2_dropFromPool_0 (2, .getfield 26, 3) (List.mem_of_getElem? (i := 2) rfl)
theorem dX2_dropFromPool_5 : decode cX2_dropFromPool 5 = .ok (.iconst 1, 1) := DX2_dropFromPool_0 (5, .iconst 1, 1) (List.mem_of_getElem? (i := 3) rfl)
theorem dX2_dropFromPool_6 : decode cX2_dropFromPool 6 = .ok (.isub, 1) := DX2_dropFromPool_0 (6, .isub, 1) (List.mem_of_getElem? (i := 4) rfl)
theorem dX2_dropFromPool_7 : decode cX2_dropFromPool 7 = .ok (.putfield 26, 3) := DX2_dropFromPool_0 (7, .putfield 26, 3) (List.mem_of_getElem? (i := 5) rfl)
theorem dX2_dropFromPool_10 : decode cX2_dropFromPool 10 = .ok (.iload_n 1, 1) := DX2_dropFromPool_0 (10, .iload_n 1, 1) (List.mem_of_getElem? (i := 6) rfl)
theorem dX2_dropFromPool_11 : decode cX2_dropFromPool 11 = .ok (.istore_n 2, 1) := DX2_dropFromPool_0 (11, .istore_n 2, 1) (List.mem_of_getElem? (i := 7) rfl)
theorem dX2_dropFromPool_12 : decode cX2_dropFromPool 12 = .ok (.iload_n 2, 1) := DX2_dropFromPool_0 (12, .iload_n 2, 1) (List.mem_of_getElem? (i := 8) rfl)
theorem dX2_dropFromPool_13 : decode cX2_dropFromPool 13 = .ok (.aload_n 0, 1) := DX2_dropFromPool_0 (13, .aload_n 0, 1) (List.mem_of_getElem? (i := 9) rfl)
theorem dX2_dropFromPool_14 : decode cX2_dropFromPool 14 = .ok (.getfield 26, 3) := DX2_dropFromPool_0 (14, .getfield 26, 3) (List.mem_of_getElem? (i := 10) rfl)
theorem dX2_dropFromPool_17 : decode cX2_dropFromPool 17 = .ok (.if_icmp .ge 23, 3) := DX2_dropFromPool_0 (17, .if_icmp .ge 23, 3) (List.mem_of_getElem? (i := 11) rfl)
theorem dX2_dropFromPool_20 : decode cX2_dropFromPool 20 = .ok (.aload_n 0, 1) := DX2_dropFromPool_0 (20, .aload_n 0, 1) (List.mem_of_getElem? (i := 12) rfl)
theorem dX2_dropFromPool_21 : decode cX2_dropFromPool 21 = .ok (.getfield 15, 3) := DX2_dropFromPool_0 (21, .getfield 15, 3) (List.mem_of_getElem? (i := 13) rfl)
theorem dX2_dropFromPool_24 : decode cX2_dropFromPool 24 = .ok (.iload_n 2, 1) := DX2_dropFromPool_0 (24, .iload_n 2, 1) (List.mem_of_getElem? (i := 14) rfl)
theorem dX2_dropFromPool_25 : decode cX2_dropFromPool 25 = .ok (.aload_n 0, 1) := DX2_dropFromPool_0 (25, .aload_n 0, 1) (List.mem_of_getElem? (i := 15) rfl)
theorem dX2_dropFromPool_26 : decode cX2_dropFromPool 26 = .ok (.getfield 15, 3) := DX2_dropFromPool_0 (26, .getfield 15, 3) (List.mem_of_getElem? (i := 16) rfl)
theorem dX2_dropFromPool_29 : decode cX2_dropFromPool 29 = .ok (.iload_n 2, 1) := DX2_dropFromPool_0 (29, .iload_n 2, 1) (List.mem_of_getElem? (i := 17) rfl)
theorem dX2_dropFromPool_30 : decode cX2_dropFromPool 30 = .ok (.iconst 1, 1) := DX2_dropFromPool_0 (30, .iconst 1, 1) (List.mem_of_getElem? (i := 18) rfl)
theorem dX2_dropFromPool_31 : decode cX2_dropFromPool 31 = .ok (.iadd, 1) := DX2_dropFromPool_0 (31, .iadd, 1) (List.mem_of_getElem? (i := 19) rfl)
theorem dX2_dropFromPool_32 : decode cX2_dropFromPool 32 = .ok (.iaload, 1) := DX2_dropFromPool_0 (32, .iaload, 1) (List.mem_of_getElem? (i := 20) rfl)
theorem dX2_dropFromPool_33 : decode cX2_dropFromPool 33 = .ok (.iastore, 1) := DX2_dropFromPool_0 (33, .iastore, 1) (List.mem_of_getElem? (i := 21) rfl)
theorem dX2_dropFromPool_34 : decode cX2_dropFromPool 34 = .ok (.iinc 2 1, 3) := DX2_dropFromPool_0 (34, .iinc 2 1, 3) (List.mem_of_getElem? (i := 22) rfl)
theorem dX2_dropFromPool_37 : decode cX2_dropFromPool 37 = .ok (.goto (-25), 3) := DX2_dropFromPool_0 (37, .goto (-25), 3) (List.mem_of_getElem? (i := 23) rfl)
theorem dX2_dropFromPool_40 : decode cX2_dropFromPool 40 = .ok (.return_, 1) := DX2_dropFromPool_0 (40, .return_, 1) (List.mem_of_getElem? (i := 24) rfl)
abbrev rmX2_dropFromPool : Room := { frames := 0, cells := 0, slots := 0, locals := 0 }
set_option maxHeartbeats 400000 in
set_option maxRecDepth 100000 in
theorem met_X2_dropFromPool (l : Launch) (D : va_G) (kA : Nat → ClassId) (a : Nat → Nat) (n : Nat) (V0 : Sz) (x1 : Int) (hDt : ∀ w : Sz, va_D (fun _ => True) (cs_X2 kA a w)) {Vr : Sz} (hf : f_X2_dropFromPool n V0 x1 = some Vr) : MZ l yX2_dropFromPool cX2_dropFromPool 3 none rmX2_dropFromPool D kA [.ref (a 0), vI x1] (cs_X2 kA a V0) (cs_X2 kA a Vr) (none) := by
  refine zZV (own := RX2) rfl rfl (Nat.le_of_ble_eq_true rfl) ?_
  intro p e s m args below meth c ls Q hC hK hP hl hret
  have hl : lv_has ls 3 [(0, .ref (a 0)), (1, vI x1)] := hl
  have hS : va_S (zF (cs_X2 kA a V0)) s.heap s.heap [] := va_S.rf
  have hD := zDself (C := fun w : Sz => (cs_X2 kA a w)) hDt V0 (fun _ => rfl)
  try dsimp only at hD
  generalize hAe : zF (cs_X2 kA a V0) = A0 at hS hD hret
  unfold f_X2_dropFromPool at hf
  have L12 : ∀ (k12 : Nat) (y2 : Int) (V : Sz) (H : Heap) (locs : List Loc) (ls : Array Slot), lpF (bX2_dropFromPool_12 n x1) k12 (y2, V) = some Vr → va_P D vwCl (cs_X2 kA a V) H → va_S A0 s.heap H locs → lv_has ls 3 [(0, .ref (a 0)), (2, vI y2)] → W p l e rmX2_dropFromPool s m args below meth c H locs 0 0 Q (F0 m 12 ls []) := by
    intro k12
    induction k12 with
    | zero => intro y2 V H locs ls hf hP hS hl; exact lp_0 hf
    | succ k12 ih12 =>
      intro y2 V H locs ls hf hP hS hl
      have hf := lp_s hf
      rw [bX2_dropFromPool_12_e] at hf
      refine ziload_n hC.1 hC.2.1 dX2_dropFromPool_12 rfl (lv_at hl 1 rfl) <| lv_aload_n hC.1 hC.2.1 dX2_dropFromPool_13 rfl (lv_at hl 0 rfl) <| gfX2_26 hC hK hP (q0 := 0) rfl rfl dX2_dropFromPool_14 <| ?_
      obtain ⟨hz_2, hf⟩ := ck_some hf
      refine zicmp_ge (tgt := 40) hC.1 hC.2.1 ⟨hz_2.1, hz_2.2⟩ dX2_dropFromPool_17 (by decide) (fun hc => ?_) (fun hc => ?_)
      · have hf := it_t hf hc
        have hf := Option.some.inj hf
        exact hret _ _ _ _ rfl (by rw [← hf]; exact hP) hS dX2_dropFromPool_40
      · have hf := it_f hf hc
        refine lv_aload_n hC.1 hC.2.1 dX2_dropFromPool_20 rfl (lv_at hl 0 rfl) <| gfX2_15 hC hK hP (q0 := 0) rfl rfl dX2_dropFromPool_21 <| ziload_n hC.1 hC.2.1 dX2_dropFromPool_24 rfl (lv_at hl 1 rfl) <| lv_aload_n hC.1 hC.2.1 dX2_dropFromPool_25 rfl (lv_at hl 0 rfl) <| gfX2_15 hC hK hP (q0 := 0) rfl rfl dX2_dropFromPool_26 <| ziload_n hC.1 hC.2.1 dX2_dropFromPool_29 rfl (lv_at hl 1 rfl) <| ziconst hC.1 hC.2.1 dX2_dropFromPool_30 <| ziadd hC.1 hC.2.1 dX2_dropFromPool_31 <| ?_
        obtain ⟨hz_3, hf⟩ := ck_some hf
        refine jal hC hK hP (q0 := 2) rfl (Nat.le_of_ble_eq_true rfl) hz_3 rfl dX2_dropFromPool_32 <| ?_
        obtain ⟨hz_4, hf⟩ := ck_some hf
        refine jas hC hK hP (hD V) hS (q0 := 2) rfl (Nat.le_of_ble_eq_true rfl) hz_4 rfl dX2_dropFromPool_33 (fun H locs hP hS => ?_)
        obtain ⟨V_5, eV_5⟩ : ∃ y, y = uz V 2 y2.toNat (V 2 (y2 + 1).toNat) := ⟨_, rfl⟩
        have hf := nm_at hf eV_5
        have hP : va_P D vwCl (cs_X2 kA a V_5) H := by rw [eV_5]; exact hP
        obtain ⟨x_6, ex_6⟩ : ∃ y : Int, y = y2 + 1 := ⟨_, rfl⟩
        have hf := nm_at hf ex_6
        refine ziinc (v := x_6) (lv' := [(2, vI x_6), (0, .ref (a 0))]) hC.1 hC.2.1 dX2_dropFromPool_34 hl (k := 1) rfl ex_6 (by decide) rfl (fun ls hl => ?_)
        exact lv_goto (tgt := 12) hC.1 hC.2.1 dX2_dropFromPool_37 (by decide) <| ih12 _ _ _ _ _ hf hP hS (lv_sub hl [1, 0] rfl)
  refine lv_aload_n hC.1 hC.2.1 dX2_dropFromPool_0 rfl (lv_at hl 0 rfl) <| lv_dup hC.1 hC.2.1 dX2_dropFromPool_1 rfl <| gfX2_26 hC hK hP (q0 := 0) rfl rfl dX2_dropFromPool_2 <| ziconst hC.1 hC.2.1 dX2_dropFromPool_5 <| zisub hC.1 hC.2.1 dX2_dropFromPool_6 <| ?_
  refine pfX2_26 hC hK hP (hD V0) hS (q0 := 0) rfl (Nat.le_of_ble_eq_true rfl) dX2_dropFromPool_7 (fun H locs hP hS => ?_)
  obtain ⟨V_1, eV_1⟩ : ∃ y, y = us V0 3 ((V0 3 0) - 1) := ⟨_, rfl⟩
  have hf := nm_at hf eV_1
  have hP : va_P D vwCl (cs_X2 kA a V_1) H := by rw [eV_1]; exact hP
  refine ziload_n hC.1 hC.2.1 dX2_dropFromPool_10 rfl (lv_at hl 1 rfl) <| zistore_n (lv' := [(2, vI x1), (0, .ref (a 0)), (1, vI x1)]) hC.1 hC.2.1 dX2_dropFromPool_11 rfl hl (by decide) rfl (fun ls hl => ?_)
  exact L12 n _ _ _ _ _ hf hP hS (lv_sub hl [1, 0] rfl)
theorem DX2_draw_0 : ∀ q ∈ ([(0, .aload_n 0, 1), (1, .aload_n 1, 1), (2, .invokevirtual 18, 3), (5, .aload_n 0, 1), (6, .iconst 0, 1), (7, .putfield 22, 3), (10, .iload_n 3, 1), (11, .istore 4, 2), (13, .aload_n 0, 1), (14, .getfield 22, 3), (17, .iload_n 2, 1), (18, .if_icmp .ge 80, 3), (21, .aload_n 0, 1), (22, .getfield 22, 3), (25, .bipush 60, 2), (27, .if_icmp .ge 71, 3), (30, .aload_n 0, 1), (31, .getfield 26, 3), (34, .ifCond .le 64, 3), (37, .iload 4, 2), (39, .ldc 29, 2), (41, .imul, 1), (42, .sipush 12345, 3), (45, .iadd, 1), (46, .ldc 30, 2), (48, .iand, 1), (49, .istore 4, 2), (51, .iload 4, 2), (53, .ldc 31, 2), (55, .idiv, 1), (56, .aload_n 0, 1), (57, .getfield 26, 3), (60, .irem, 1), (61, .istore 5, 2), (63, .aload_n 0, 1), (64, .getfield 9, 3), (67, .aload_n 0, 1), (68, .getfield 22, 3), (71, .aload_n 0, 1), (72, .getfield 15, 3)] : List (Nat × Instr × Nat)), decode cX2_draw q.1 = .ok q.2 := by decide +kernel
theorem dX2_draw_0 : decode cX2_draw 0 = .ok (.aload_n 0, 1) := DX2_draw_0 (0, .aload_n 0, 1) (List.mem_of_getElem? (i := 0) rfl)
theorem dX2_draw_1 : decode cX2_draw 1 = .ok (.aload_n 1, 1) := DX2_draw_0 (1, .aload_n 1, 1) (List.mem_of_getElem? (i := 1) rfl)
theorem dX2_draw_2 : decode cX2_draw 2 = .ok (.invokevirtual 18, 3) := DX2_draw_0 (2, .invokevirtual 18, 3) (List.mem_of_getElem? (i := 2) rfl)
theorem dX2_draw_5 : decode cX2_draw 5 = .ok (.aload_n 0, 1) := DX2_draw_0 (5, .aload_n 0, 1) (List.mem_of_getElem? (i := 3) rfl)
theorem dX2_draw_6 : decode cX2_draw 6 = .ok (.iconst 0, 1) := DX2_draw_0 (6, .iconst 0, 1) (List.mem_of_getElem? (i := 4) rfl)
theorem dX2_draw_7 : decode cX2_draw 7 = .ok (.putfield 22, 3) := DX2_draw_0 (7, .putfield 22, 3) (List.mem_of_getElem? (i := 5) rfl)
theorem dX2_draw_10 : decode cX2_draw 10 = .ok (.iload_n 3, 1) := DX2_draw_0 (10, .iload_n 3, 1) (List.mem_of_getElem? (i := 6) rfl)
theorem dX2_draw_11 : decode cX2_draw 11 = .ok (.istore 4, 2) := DX2_draw_0 (11, .istore 4, 2) (List.mem_of_getElem? (i := 7) rfl)
theorem dX2_draw_13 : decode cX2_draw 13 = .ok (.aload_n 0, 1) := DX2_draw_0 (13, .aload_n 0, 1) (List.mem_of_getElem? (i := 8) rfl)
theorem dX2_draw_14 : decode cX2_draw 14 = .ok (.getfield 22, 3) := DX2_draw_0 (14, .getfield 22, 3) (List.mem_of_getElem? (i := 9) rfl)
theorem dX2_draw_17 : decode cX2_draw 17 = .ok (.iload_n 2, 1) := DX2_draw_0 (17, .iload_n 2, 1) (List.mem_of_getElem? (i := 10) rfl)
theorem dX2_draw_18 : decode cX2_draw 18 = .ok (.if_icmp .ge 80, 3) := DX2_draw_0 (18, .if_icmp .ge 80, 3) (List.mem_of_getElem? (i := 11) rfl)
theorem dX2_draw_21 : decode cX2_draw 21 = .ok (.aload_n 0, 1) := DX2_draw_0 (21, .aload_n 0, 1) (List.mem_of_getElem? (i := 12) rfl)
theorem dX2_draw_22 : decode cX2_draw 22 = .ok (.getfield 22, 3) := DX2_draw_0 (22, .getfield 22, 3) (List.mem_of_getElem? (i := 13) rfl)
theorem dX2_draw_25 : decode cX2_draw 25 = .ok (.bipush 60, 2) := DX2_draw_0 (25, .bipush 60, 2) (List.mem_of_getElem? (i := 14) rfl)
theorem dX2_draw_27 : decode cX2_draw 27 = .ok (.if_icmp .ge 71, 3) := DX2_draw_0 (27, .if_icmp .ge 71, 3) (List.mem_of_getElem? (i := 15) rfl)
theorem dX2_draw_30 : decode cX2_draw 30 = .ok (.aload_n 0, 1) := DX2_draw_0 (30, .aload_n 0, 1) (List.mem_of_getElem? (i := 16) rfl)
theorem dX2_draw_31 : decode cX2_draw 31 = .ok (.getfield 26, 3) := DX2_draw_0 (31, .getfield 26, 3) (List.mem_of_getElem? (i := 17) rfl)
theorem dX2_draw_34 : decode cX2_draw 34 = .ok (.ifCond .le 64, 3) := DX2_draw_0 (34, .ifCond .le 64, 3) (List.mem_of_getElem? (i := 18) rfl)
theorem dX2_draw_37 : decode cX2_draw 37 = .ok (.iload 4, 2) := DX2_draw_0 (37, .iload 4, 2) (List.mem_of_getElem? (i := 19) rfl)
theorem dX2_draw_39 : decode cX2_draw 39 = .ok (.ldc 29, 2) := DX2_draw_0 (39, .ldc 29, 2) (List.mem_of_getElem? (i := 20) rfl)
theorem dX2_draw_41 : decode cX2_draw 41 = .ok (.imul, 1) := DX2_draw_0 (41, .imul, 1) (List.mem_of_getElem? (i := 21) rfl)
theorem dX2_draw_42 : decode cX2_draw 42 = .ok (.sipush 12345, 3) := DX2_draw_0 (42, .sipush 12345, 3) (List.mem_of_getElem? (i := 22) rfl)
theorem dX2_draw_45 : decode cX2_draw 45 = .ok (.iadd, 1) := DX2_draw_0 (45, .iadd, 1) (List.mem_of_getElem? (i := 23) rfl)
theorem dX2_draw_46 : decode cX2_draw 46 = .ok (.ldc 30, 2) := DX2_draw_0 (46, .ldc 30, 2) (List.mem_of_getElem? (i := 24) rfl)
theorem dX2_draw_48 : decode cX2_draw 48 = .ok (.iand, 1) := DX2_draw_0 (48, .iand, 1) (List.mem_of_getElem? (i := 25) rfl)
theorem dX2_draw_49 : decode cX2_draw 49 = .ok (.istore 4, 2) := DX2_draw_0 (49, .istore 4, 2) (List.mem_of_getElem? (i := 26) rfl)
theorem dX2_draw_51 : decode cX2_draw 51 = .ok (.iload 4, 2) := DX2_draw_0 (51, .iload 4, 2) (List.mem_of_getElem? (i := 27) rfl)
theorem dX2_draw_53 : decode cX2_draw 53 = .ok (.ldc 31, 2) := DX2_draw_0 (53, .ldc 31, 2) (List.mem_of_getElem? (i := 28) rfl)
theorem dX2_draw_55 : decode cX2_draw 55 = .ok (.idiv, 1) := DX2_draw_0 (55, .idiv, 1) (List.mem_of_getElem? (i := 29) rfl)
theorem dX2_draw_56 : decode cX2_draw 56 = .ok (.aload_n 0, 1) := DX2_draw_0 (56, .aload_n 0, 1) (List.mem_of_getElem? (i := 30) rfl)
theorem dX2_draw_57 : decode cX2_draw 57 = .ok (.getfield 26, 3) := DX2_draw_0 (57, .getfield 26, 3) (List.mem_of_getElem? (i := 31) rfl)
theorem dX2_draw_60 : decode cX2_draw 60 = .ok (.irem, 1) := DX2_draw_0 (60, .irem, 1) (List.mem_of_getElem? (i := 32) rfl)
theorem dX2_draw_61 : decode cX2_draw 61 = .ok (.istore 5, 2) := DX2_draw_0 (61, .istore 5, 2) (List.mem_of_getElem? (i := 33) rfl)
theorem dX2_draw_63 : decode cX2_draw 63 = .ok (.aload_n 0, 1) := DX2_draw_0 (63, .aload_n 0, 1) (List.mem_of_getElem? (i := 34) rfl)
theorem dX2_draw_64 : decode cX2_draw 64 = .ok (.getfield 9, 3) := DX2_draw_0 (64, .getfield 9, 3) (List.mem_of_getElem? (i := 35) rfl)
theorem dX2_draw_67 : decode cX2_draw 67 = .ok (.aload_n 0, 1) := DX2_draw_0 (67, .aload_n 0, 1) (List.mem_of_getElem? (i := 36) rfl)
theorem dX2_draw_68 : decode cX2_draw 68 = .ok (.getfield 22, 3) := DX2_draw_0 (68, .getfield 22, 3) (List.mem_of_getElem? (i := 37) rfl)
theorem dX2_draw_71 : decode cX2_draw 71 = .ok (.aload_n 0, 1) := DX2_draw_0 (71, .aload_n 0, 1) (List.mem_of_getElem? (i := 38) rfl)
theorem dX2_draw_72 : decode cX2_draw 72 = .ok (.getfield 15, 3) := DX2_draw_0 (72, .getfield 15, 3) (List.mem_of_getElem? (i := 39) rfl)
theorem DX2_draw_1 : ∀ q ∈ ([(75, .iload 5, 2), (77, .iaload, 1), (78, .iastore, 1), (79, .aload_n 0, 1), (80, .dup, 1), (81, .getfield 22, 3), (84, .iconst 1, 1), (85, .iadd, 1), (86, .putfield 22, 3), (89, .aload_n 0, 1), (90, .iload 5, 2), (92, .invokevirtual 32, 3), (95, .goto (-82), 3), (98, .return_, 1)] : List (Nat × Instr × Nat)), decode cX2_draw q.1 = .ok q.2 := by decide +kernel
theorem dX2_draw_75 : decode cX2_draw 75 = .ok (.iload 5, 2) := DX2_draw_1 (75, .iload 5, 2) (List.mem_of_getElem? (i := 0) rfl)
theorem dX2_draw_77 : decode cX2_draw 77 = .ok (.iaload, 1) := DX2_draw_1 (77, .iaload, 1) (List.mem_of_getElem? (i := 1) rfl)
theorem dX2_draw_78 : decode cX2_draw 78 = .ok (.iastore, 1) := DX2_draw_1 (78, .iastore, 1) (List.mem_of_getElem? (i := 2) rfl)
theorem dX2_draw_79 : decode cX2_draw 79 = .ok (.aload_n 0, 1) := DX2_draw_1 (79, .aload_n 0, 1) (List.mem_of_getElem? (i := 3) rfl)
theorem dX2_draw_80 : decode cX2_draw 80 = .ok (.dup, 1) := DX2_draw_1 (80, .dup, 1) (List.mem_of_getElem? (i := 4) rfl)
theorem dX2_draw_81 : decode cX2_draw 81 = .ok (.getfield 22, 3) := DX2_draw_1 (81, .getfield 22, 3) (List.mem_of_getElem? (i := 5) rfl)
theorem dX2_draw_84 : decode cX2_draw 84 = .ok (.iconst 1, 1) := DX2_draw_1 (84, .iconst 1, 1) (List.mem_of_getElem? (i := 6) rfl)
theorem dX2_draw_85 : decode cX2_draw 85 = .ok (.iadd, 1) := DX2_draw_1 (85, .iadd, 1) (List.mem_of_getElem? (i := 7) rfl)
theorem dX2_draw_86 : decode cX2_draw 86 = .ok (.putfield 22, 3) := DX2_draw_1 (86, .putfield 22, 3) (List.mem_of_getElem? (i := 8) rfl)
theorem dX2_draw_89 : decode cX2_draw 89 = .ok (.aload_n 0, 1) := DX2_draw_1 (89, .aload_n 0, 1) (List.mem_of_getElem? (i := 9) rfl)
theorem dX2_draw_90 : decode cX2_draw 90 = .ok (.iload 5, 2) := DX2_draw_1 (90, .iload 5, 2) (List.mem_of_getElem? (i := 10) rfl)
theorem dX2_draw_92 : decode cX2_draw 92 = .ok (.invokevirtual 32, 3) := DX2_draw_1 (92, .invokevirtual 32, 3) (List.mem_of_getElem? (i := 11) rfl)
theorem dX2_draw_95 : decode cX2_draw 95 = .ok (.goto (-82), 3) := DX2_draw_1 (95, .goto (-82), 3) (List.mem_of_getElem? (i := 12) rfl)
theorem dX2_draw_98 : decode cX2_draw 98 = .ok (.return_, 1) := DX2_draw_1 (98, .return_, 1) (List.mem_of_getElem? (i := 13) rfl)
abbrev rmX2_draw : Room := { frames := 2, cells := 0, slots := 0, locals := 43 }
set_option maxHeartbeats 400000 in
set_option maxRecDepth 100000 in
theorem met_X2_draw (l : Launch) (D : va_G) (kA : Nat → ClassId) (a : Nat → Nat) (b : Nat → Nat) (n : Nat) (V0 : Sz) (G : Sz) (x2 : Int) (x3 : Int) (hDt : ∀ w : Sz, va_D (fun _ => True) (cs_X2 kA a w ++ (cs_X3 kA b G))) {Vr : Sz} (hf : f_X2_draw n V0 G x2 x3 = some Vr) : MZ l yX2_draw cX2_draw 6 none rmX2_draw D kA [.ref (a 0), .ref (b 0), vI x2, vI x3] (cs_X2 kA a V0 ++ (cs_X3 kA b G)) (cs_X2 kA a Vr ++ (cs_X3 kA b G)) (none) := by
  refine zZV (own := RX2) rfl rfl (Nat.le_of_ble_eq_true rfl) ?_
  intro p e s m args below meth c ls Q hC hK hP hl hret
  have hl : lv_has ls 6 [(0, .ref (a 0)), (1, .ref (b 0)), (2, vI x2), (3, vI x3)] := hl
  have hS : va_S (zF (cs_X2 kA a V0 ++ (cs_X3 kA b G))) s.heap s.heap [] := va_S.rf
  have hD := zDself (C := fun w : Sz => (cs_X2 kA a w ++ (cs_X3 kA b G))) hDt V0 (fun _ => rfl)
  try dsimp only at hD
  generalize hAe : zF (cs_X2 kA a V0 ++ (cs_X3 kA b G)) = A0 at hS hD hret
  unfold f_X2_draw at hf
  have L13 : ∀ (k13 : Nat) (y4 : Int) (V : Sz) (H : Heap) (locs : List Loc) (ls : Array Slot), lpF (bX2_draw_13 n G x2 x3) k13 (y4, V) = some Vr → va_P D vwCl (cs_X2 kA a V ++ (cs_X3 kA b G)) H → va_S A0 s.heap H locs → lv_has ls 6 [(0, .ref (a 0)), (2, vI x2), (4, vI y4)] → W p l e rmX2_draw s m args below meth c H locs 0 0 Q (F0 m 13 ls []) := by
    intro k13
    induction k13 with
    | zero => intro y4 V H locs ls hf hP hS hl; exact lp_0 hf
    | succ k13 ih13 =>
      intro y4 V H locs ls hf hP hS hl
      have hf := lp_s hf
      rw [bX2_draw_13_e] at hf
      refine lv_aload_n hC.1 hC.2.1 dX2_draw_13 rfl (lv_at hl 0 rfl) <| gfX2_22 hC hK hP (q0 := 0) rfl rfl dX2_draw_14 <| ziload_n hC.1 hC.2.1 dX2_draw_17 rfl (lv_at hl 1 rfl) <| ?_
      obtain ⟨hz_3, hf⟩ := ck_some hf
      refine zicmp_ge (tgt := 98) hC.1 hC.2.1 ⟨hz_3.1, hz_3.2⟩ dX2_draw_18 (by decide) (fun hc => ?_) (fun hc => ?_)
      · have hf := it_t hf hc
        have hf := Option.some.inj hf
        exact hret _ _ _ _ rfl (by rw [← hf]; exact hP) hS dX2_draw_98
      · have hf := it_f hf hc
        refine lv_aload_n hC.1 hC.2.1 dX2_draw_21 rfl (lv_at hl 0 rfl) <| gfX2_22 hC hK hP (q0 := 0) rfl rfl dX2_draw_22 <| zbipush hC.1 hC.2.1 dX2_draw_25 (by decide) <| zicmp_ge (tgt := 98) hC.1 hC.2.1 ⟨hz_3.1, (by decide)⟩ dX2_draw_27 (by decide) (fun hc => ?_) (fun hc => ?_)
        · have hf := it_t hf hc
          have hf := Option.some.inj hf
          exact hret _ _ _ _ rfl (by rw [← hf]; exact hP) hS dX2_draw_98
        · have hf := it_f hf hc
          refine lv_aload_n hC.1 hC.2.1 dX2_draw_30 rfl (lv_at hl 0 rfl) <| gfX2_26 hC hK hP (q0 := 0) rfl rfl dX2_draw_31 <| ?_
          obtain ⟨hz_4, hf⟩ := ck_some hf
          refine zif_le (tgt := 98) hC.1 hC.2.1 hz_4 dX2_draw_34 (by decide) (fun hc => ?_) (fun hc => ?_)
          · have hf := it_t hf hc
            have hf := Option.some.inj hf
            exact hret _ _ _ _ rfl (by rw [← hf]; exact hP) hS dX2_draw_98
          · have hf := it_f hf hc
            refine ziload hC.1 hC.2.1 dX2_draw_37 (lv_at hl 2 rfl) <| zldc (n := 1103515245) hC qw_1143 (by decide) dX2_draw_39 <| zimul hC.1 hC.2.1 dX2_draw_41 <| zsipush hC.1 hC.2.1 dX2_draw_42 (by decide) <| ziadd hC.1 hC.2.1 dX2_draw_45 <| zldc (n := 2147483647) hC qw_1144 (by decide) dX2_draw_46 <| ziand2147483647 hC.1 hC.2.1 dX2_draw_48 <| ?_
            refine ztopi (fun x_5 ex_5 => ?_)
            have hf := nm_at hf ex_5
            refine zistore (lv' := [(4, vI x_5), (0, .ref (a 0)), (2, vI x2)]) hC.1 hC.2.1 dX2_draw_49 hl (by decide) rfl (fun ls hl => ?_)
            refine ziload hC.1 hC.2.1 dX2_draw_51 (lv_at hl 0 rfl) <| zldc (n := 65536) hC qw_1145 (by decide) dX2_draw_53 <| ?_
            obtain ⟨hz_6, hf⟩ := ck_some hf
            refine zidiv hC.1 hC.2.1 ⟨hz_6.1, hz_6.2, by decide, by decide⟩ dX2_draw_55 <| lv_aload_n hC.1 hC.2.1 dX2_draw_56 rfl (lv_at hl 1 rfl) <| gfX2_26 hC hK hP (q0 := 0) rfl rfl dX2_draw_57 <| ?_
            obtain ⟨hz_7, hf⟩ := ck_some hf
            refine zirem hC.1 hC.2.1 hz_7 dX2_draw_60 <| ?_
            refine ztopi (fun x_8 ex_8 => ?_)
            have hf := nm_at hf ex_8
            refine zistore (lv' := [(5, vI x_8), (4, vI x_5), (0, .ref (a 0)), (2, vI x2)]) hC.1 hC.2.1 dX2_draw_61 hl (by decide) rfl (fun ls hl => ?_)
            refine lv_aload_n hC.1 hC.2.1 dX2_draw_63 rfl (lv_at hl 2 rfl) <| gfX2_9 hC hK hP (q0 := 0) rfl rfl dX2_draw_64 <| lv_aload_n hC.1 hC.2.1 dX2_draw_67 rfl (lv_at hl 2 rfl) <| gfX2_22 hC hK hP (q0 := 0) rfl rfl dX2_draw_68 <| lv_aload_n hC.1 hC.2.1 dX2_draw_71 rfl (lv_at hl 2 rfl) <| gfX2_15 hC hK hP (q0 := 0) rfl rfl dX2_draw_72 <| ziload hC.1 hC.2.1 dX2_draw_75 (lv_at hl 0 rfl) <| ?_
            obtain ⟨hz_9, hf⟩ := ck_some hf
            refine jal hC hK hP (q0 := 2) rfl (Nat.le_of_ble_eq_true rfl) hz_9 rfl dX2_draw_77 <| ?_
            obtain ⟨hz_10, hf⟩ := ck_some hf
            refine jas hC hK hP (hD V) hS (q0 := 1) rfl (Nat.le_of_ble_eq_true rfl) hz_10 rfl dX2_draw_78 (fun H locs hP hS => ?_)
            obtain ⟨V_11, eV_11⟩ : ∃ y, y = uz V 0 (V 1 0).toNat (V 2 x_8.toNat) := ⟨_, rfl⟩
            have hf := nm_at hf eV_11
            have hP : va_P D vwCl (cs_X2 kA a V_11 ++ (cs_X3 kA b G)) H := by rw [eV_11]; exact hP
            refine lv_aload_n hC.1 hC.2.1 dX2_draw_79 rfl (lv_at hl 2 rfl) <| lv_dup hC.1 hC.2.1 dX2_draw_80 rfl <| gfX2_22 hC hK hP (q0 := 0) rfl rfl dX2_draw_81 <| ziconst hC.1 hC.2.1 dX2_draw_84 <| ziadd hC.1 hC.2.1 dX2_draw_85 <| ?_
            refine pfX2_22 hC hK hP (hD V_11) hS (q0 := 0) rfl (Nat.le_of_ble_eq_true rfl) dX2_draw_86 (fun H locs hP hS => ?_)
            obtain ⟨V_12, eV_12⟩ : ∃ y, y = us V_11 1 ((V_11 1 0) + 1) := ⟨_, rfl⟩
            have hf := nm_at hf eV_12
            have hP : va_P D vwCl (cs_X2 kA a V_12 ++ (cs_X3 kA b G)) H := by rw [eV_12]; exact hP
            refine lv_aload_n hC.1 hC.2.1 dX2_draw_89 rfl (lv_at hl 2 rfl) <| ziload hC.1 hC.2.1 dX2_draw_90 (lv_at hl 0 rfl) <| ?_
            obtain ⟨V_13, hu, hf⟩ := bd_some hf
            have hPc : va_P D vwCl (cs_X2 kA a V_12) _ := hP.sub [0, 1, 2] rfl
            have hDc : ∀ w : Sz, va_D (fun _ => True) (cs_X2 kA a w) := fun w => (hDt w).sub [0, 1, 2] (by decide) rfl
            refine zcVZ (As := [vI x_8]) (rest := []) hC hK (met_X2_dropFromPool l D kA a n V_12 x_8 hDc hu) zwX2_32 hS (zFsub (hD V_12) [0, 1, 2] rfl) hPc (q0 := 0) rfl rfl rfl rfl hl.1 rfl (Nat.le_of_ble_eq_true rfl) ⟨Nat.le_of_ble_eq_true rfl, Nat.le_of_ble_eq_true rfl⟩ ⟨rfl, rfl⟩ ⟨Nat.le_refl _, Nat.le_refl _⟩ dX2_draw_92 (fun H locs hP1 hk1 hS => ?_)
            have hP : va_P D vwCl (cs_X2 kA a V_13 ++ (cs_X3 kA b G)) H := by exact zjoin hP (hDt V_12) [0, 1, 2] (w0 := (cs_X2 kA a V_12)) rfl (Nat.le_of_ble_eq_true rfl) hk1 hP1
            exact lv_goto (tgt := 13) hC.1 hC.2.1 dX2_draw_95 (by decide) <| ih13 _ _ _ _ _ hf hP hS (lv_sub hl [2, 3, 1] rfl)
  refine lv_aload_n hC.1 hC.2.1 dX2_draw_0 rfl (lv_at hl 0 rfl) <| lv_aload_n hC.1 hC.2.1 dX2_draw_1 rfl (lv_at hl 1 rfl) <| ?_
  obtain ⟨V_1, hu, hf⟩ := bd_some hf
  have hDc := hDt
  refine zcVZ (As := [.ref (b 0)]) (rest := []) hC hK (met_X2_fillPool l D kA a b n V0 G hDc hu) zwX2_18 hS (zFsub (hD V0) [0, 1, 2, 3, 4, 5, 6, 7, 8, 9, 10, 11, 12, 13, 14] rfl) hP (q0 := 0) rfl rfl rfl rfl hl.1 rfl (Nat.le_of_ble_eq_true rfl) ⟨Nat.le_of_ble_eq_true rfl, Nat.le_of_ble_eq_true rfl⟩ ⟨rfl, rfl⟩ ⟨Nat.le_refl _, Nat.le_refl _⟩ dX2_draw_2 (fun H locs hP1 hk1 hS => ?_)
  have hP : va_P D vwCl (cs_X2 kA a V_1 ++ (cs_X3 kA b G)) H := hP1
  refine lv_aload_n hC.1 hC.2.1 dX2_draw_5 rfl (lv_at hl 0 rfl) <| ziconst hC.1 hC.2.1 dX2_draw_6 <| ?_
  refine pfX2_22 hC hK hP (hD V_1) hS (q0 := 0) rfl (Nat.le_of_ble_eq_true rfl) dX2_draw_7 (fun H locs hP hS => ?_)
  obtain ⟨V_2, eV_2⟩ : ∃ y, y = us V_1 1 0 := ⟨_, rfl⟩
  have hf := nm_at hf eV_2
  have hP : va_P D vwCl (cs_X2 kA a V_2 ++ (cs_X3 kA b G)) H := by rw [eV_2]; exact hP
  refine ziload_n hC.1 hC.2.1 dX2_draw_10 rfl (lv_at hl 3 rfl) <| zistore (lv' := [(4, vI x3), (0, .ref (a 0)), (1, .ref (b 0)), (2, vI x2), (3, vI x3)]) hC.1 hC.2.1 dX2_draw_11 hl (by decide) rfl (fun ls hl => ?_)
  exact L13 n _ _ _ _ _ hf hP hS (lv_sub hl [1, 3, 0] rfl)
