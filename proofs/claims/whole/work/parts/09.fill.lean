def bJ7_fill_53178_5 (n : Nat) (n0 : Nat) (x1 : Int) (rec5 : Int × Int × (Nat → Int) → Option ((Nat → Int))) : Int × Int × (Nat → Int) → Option ((Nat → Int)) := fun (y2, y3, T0) => ck (rng y2 ∧ rng y3) <| if y3 ≤ y2 then (some T0) else (ck (inZ y2 n0) <| nm (up T0 y2.toNat x1) fun (T0_4 : Nat → Int) => nm (y2 + 1) fun (x_5 : Int) => rec5 (x_5, y3, T0_4))
theorem bJ7_fill_53178_5_e (n : Nat) (n0 : Nat) (x1 : Int) (rec5 : Int × Int × (Nat → Int) → Option ((Nat → Int))) (y2 : Int) (y3 : Int) (T0 : Nat → Int) : bJ7_fill_53178_5 n n0 x1 rec5 (y2, y3, T0) = (ck (rng y2 ∧ rng y3) <| if y3 ≤ y2 then (some T0) else (ck (inZ y2 n0) <| nm (up T0 y2.toNat x1) fun (T0_4 : Nat → Int) => nm (y2 + 1) fun (x_5 : Int) => rec5 (x_5, y3, T0_4))) := rfl
def f_J7_fill_53178 (n : Nat) (n0 : Nat) (T00 : Nat → Int) (x1 : Int) : Option ((Nat → Int)) := nm ((n0 : Int)) fun (x_1 : Int) => lpF (bJ7_fill_53178_5 n n0 x1) n (0, x_1, T00)
def f_X7_copyRow (n0 : Nat) (n1 : Nat) (T0 : Nat → Int) (T10 : Nat → Int) : Option ((Nat → Int)) := ck (rng (n0 : Int) ∧ rng (n1 : Int)) <| ck (cpOk n0 n1 0 0 (min (n0 : Int) (n1 : Int)) ∧ n0 < 2147483648 ∧ n1 < 2147483648) <| nm (cpZ T0 T10 0 0 (min (n0 : Int) (n1 : Int)).toNat) fun (T1_3 : Nat → Int) => some T1_3
theorem DJ7_fill_53178_0 : ∀ q ∈ ([(0, .iconst 0, 1), (1, .istore_n 2, 1), (2, .aload_n 0, 1), (3, .arraylength, 1), (4, .istore_n 3, 1), (5, .iload_n 2, 1), (6, .iload_n 3, 1), (7, .if_icmp .ge 13, 3), (10, .aload_n 0, 1), (11, .iload_n 2, 1), (12, .iload_n 1, 1), (13, .iastore, 1), (14, .iinc 2 1, 3), (17, .goto (-12), 3), (20, .return_, 1)] : List (Nat × Instr × Nat)), decode cJ7_fill_53178 q.1 = .ok q.2 := by decide +kernel
theorem dJ7_fill_53178_0 : decode cJ7_fill_53178 0 = .ok (.iconst 0, 1) := DJ7_fill_53178_0 (0, .iconst 0, 1) (List.mem_of_getElem? (i := 0) rfl)
theorem dJ7_fill_53178_1 : decode cJ7_fill_53178 1 = .ok (.istore_n 2, 1) := DJ7_fill_53178_0 (1, .istore_n 2, 1) (List.mem_of_getElem? (i := 1) rfl)
theorem dJ7_fill_53178_2 : decode cJ7_fill_53178 2 = .ok (.aload_n 0, 1) := DJ7_fill_53178_0 (2, .aload_n 0, 1) (List.mem_of_getElem? (i := 2) rfl)
theorem dJ7_fill_53178_3 : decode cJ7_fill_53178 3 = .ok (.arraylength, 1) := DJ7_fill_53178_0 (3, .arraylength, 1) (List.mem_of_getElem? (i := 3) rfl)
theorem dJ7_fill_53178_4 : decode cJ7_fill_53178 4 = .ok (.istore_n 3, 1) := DJ7_fill_53178_0 (4, .istore_n 3, 1) (List.mem_of_getElem? (i := 4) rfl)
theorem dJ7_fill_53178_5 : decode cJ7_fill_53178 5 = .ok (.iload_n 2, 1) := DJ7_fill_53178_0 (5, .iload_n 2, 1) (List.mem_of_getElem? (i := 5) rfl)
theorem dJ7_fill_53178_6 : decode cJ7_fill_53178 6 = .ok (.iload_n 3, 1) := DJ7_fill_53178_0 (6, .iload_n 3, 1) (List.mem_of_getElem? (i := 6) rfl)
theorem dJ7_fill_53178_7 : decode cJ7_fill_53178 7 = .ok (.if_icmp .ge 13, 3) := DJ7_fill_53178_0 (7, .if_icmp .ge 13, 3) (List.mem_of_getElem? (i := 7) rfl)
theorem dJ7_fill_53178_10 : decode cJ7_fill_53178 10 = .ok (.aload_n 0, 1) := DJ7_fill_53178_0 (10, .aload_n 0, 1) (List.mem_of_getElem? (i := 8) rfl)
theorem dJ7_fill_53178_11 : decode cJ7_fill_53178 11 = .ok (.iload_n 2, 1) := DJ7_fill_53178_0 (11, .iload_n 2, 1) (List.mem_of_getElem? (i := 9) rfl)
theorem dJ7_fill_53178_12 : decode cJ7_fill_53178 12 = .ok (.iload_n 1, 1) := DJ7_fill_53178_0 (12, .iload_n 1, 1) (List.mem_of_getElem? (i := 10) rfl)
theorem dJ7_fill_53178_13 : decode cJ7_fill_53178 13 = .ok (.iastore, 1) := DJ7_fill_53178_0 (13, .iastore, 1) (List.mem_of_getElem? (i := 11) rfl)
theorem dJ7_fill_53178_14 : decode cJ7_fill_53178 14 = .ok (.iinc 2 1, 3) := DJ7_fill_53178_0 (14, .iinc 2 1, 3) (List.mem_of_getElem? (i := 12) rfl)
theorem dJ7_fill_53178_17 : decode cJ7_fill_53178 17 = .ok (.goto (-12), 3) := DJ7_fill_53178_0 (17, .goto (-12), 3) (List.mem_of_getElem? (i := 13) rfl)
theorem dJ7_fill_53178_20 : decode cJ7_fill_53178 20 = .ok (.return_, 1) := DJ7_fill_53178_0 (20, .return_, 1) (List.mem_of_getElem? (i := 14) rfl)
abbrev rmJ7_fill_53178 : Room := { frames := 0, cells := 0, slots := 0, locals := 0 }
set_option maxHeartbeats 400000 in
set_option maxRecDepth 100000 in
theorem met_J7_fill_53178 (l : Launch) (D : va_G) (kA : Nat → ClassId) (a : Nat) (n : Nat) (n0 : Nat) (T00 : Nat → Int) (x1 : Int) (hn0 : n0 ≤ 2147483648) (hDt : ∀ w : (Nat → Int), va_D (fun _ => True) ([(a, .inl (kA 0, n0, .inl (aI w)))])) {T0r : (Nat → Int)} (hf : f_J7_fill_53178 n n0 T00 x1 = some T0r) : MZ l yJ7_fill_53178 cJ7_fill_53178 4 none rmJ7_fill_53178 D kA [.ref (a), vI x1] ([(a, .inl (kA 0, n0, .inl (aI T00)))]) ([(a, .inl (kA 0, n0, .inl (aI T0r)))]) (none) := by
  refine zZV (own := RJ7) rfl rfl (Nat.le_of_ble_eq_true rfl) ?_
  intro p e s m args below meth c ls Q hC hK hP hl hret
  have hl : lv_has ls 4 [(0, .ref (a)), (1, vI x1)] := hl
  have hS : va_S (zF ([(a, .inl (kA 0, n0, .inl (aI T00)))])) s.heap s.heap [] := va_S.rf
  have hD := zDself (C := fun w : (Nat → Int) => ([(a, .inl (kA 0, n0, .inl (aI w)))])) hDt T00 (fun _ => rfl)
  try dsimp only at hD
  generalize hAe : zF ([(a, .inl (kA 0, n0, .inl (aI T00)))]) = A0 at hS hD hret
  unfold f_J7_fill_53178 at hf
  have L5 : ∀ (k5 : Nat) (y2 : Int) (y3 : Int) (T0 : Nat → Int) (H : Heap) (locs : List Loc) (ls : Array Slot), lpF (bJ7_fill_53178_5 n n0 x1) k5 (y2, y3, T0) = some T0r → va_P D vwCl ([(a, .inl (kA 0, n0, .inl (aI T0)))]) H → va_S A0 s.heap H locs → lv_has ls 4 [(0, .ref (a)), (1, vI x1), (2, vI y2), (3, vI y3)] → W p l e rmJ7_fill_53178 s m args below meth c H locs 0 0 Q (F0 m 5 ls []) := by
    intro k5
    induction k5 with
    | zero => intro y2 y3 T0 H locs ls hf hP hS hl; exact lp_0 hf
    | succ k5 ih5 =>
      intro y2 y3 T0 H locs ls hf hP hS hl
      have hf := lp_s hf
      rw [bJ7_fill_53178_5_e] at hf
      refine ziload_n hC.1 hC.2.1 dJ7_fill_53178_5 rfl (lv_at hl 2 rfl) <| ziload_n hC.1 hC.2.1 dJ7_fill_53178_6 rfl (lv_at hl 3 rfl) <| ?_
      obtain ⟨hz_2, hf⟩ := ck_some hf
      refine zicmp_ge (tgt := 20) hC.1 hC.2.1 ⟨hz_2.1, hz_2.2⟩ dJ7_fill_53178_7 (by decide) (fun hc => ?_) (fun hc => ?_)
      · have hf := it_t hf hc
        have hf := Option.some.inj hf
        exact hret _ _ _ _ rfl (by rw [← hf]; exact hP) hS dJ7_fill_53178_20
      · have hf := it_f hf hc
        refine lv_aload_n hC.1 hC.2.1 dJ7_fill_53178_10 rfl (lv_at hl 0 rfl) <| ziload_n hC.1 hC.2.1 dJ7_fill_53178_11 rfl (lv_at hl 2 rfl) <| ziload_n hC.1 hC.2.1 dJ7_fill_53178_12 rfl (lv_at hl 1 rfl) <| ?_
        obtain ⟨hz_3, hf⟩ := ck_some hf
        refine jas hC hK hP (hD T0) hS (q0 := 0) rfl hn0 hz_3 rfl dJ7_fill_53178_13 (fun H locs hP hS => ?_)
        obtain ⟨T0_4, eT0_4⟩ : ∃ y, y = up T0 y2.toNat x1 := ⟨_, rfl⟩
        have hf := nm_at hf eT0_4
        have hP : va_P D vwCl ([(a, .inl (kA 0, n0, .inl (aI T0_4)))]) H := by rw [eT0_4]; exact hP
        obtain ⟨x_5, ex_5⟩ : ∃ y : Int, y = y2 + 1 := ⟨_, rfl⟩
        have hf := nm_at hf ex_5
        refine ziinc (v := x_5) (lv' := [(2, vI x_5), (0, .ref (a)), (1, vI x1), (3, vI y3)]) hC.1 hC.2.1 dJ7_fill_53178_14 hl (k := 2) rfl ex_5 (by decide) rfl (fun ls hl => ?_)
        exact lv_goto (tgt := 5) hC.1 hC.2.1 dJ7_fill_53178_17 (by decide) <| ih5 _ _ _ _ _ _ hf hP hS (lv_sub hl [1, 2, 0, 3] rfl)
  refine ziconst hC.1 hC.2.1 dJ7_fill_53178_0 <| zistore_n (lv' := [(2, vI 0), (0, .ref (a)), (1, vI x1)]) hC.1 hC.2.1 dJ7_fill_53178_1 rfl hl (by decide) rfl (fun ls hl => ?_)
  refine lv_aload_n hC.1 hC.2.1 dJ7_fill_53178_2 rfl (lv_at hl 1 rfl) <| jlen_int (v := (n0 : Int)) hC hK hP (q0 := 0) rfl rfl dJ7_fill_53178_3 <| ?_
  refine ztopi (fun x_1 ex_1 => ?_)
  have hf := nm_at hf ex_1
  refine zistore_n (lv' := [(3, vI x_1), (2, vI 0), (0, .ref (a)), (1, vI x1)]) hC.1 hC.2.1 dJ7_fill_53178_4 rfl hl (by decide) rfl (fun ls hl => ?_)
  exact L5 n _ _ _ _ _ _ hf hP hS (lv_sub hl [2, 3, 1, 0] rfl)
theorem DX7_copyRow_0 : ∀ q ∈ ([(0, .aload_n 0, 1), (1, .iconst 0, 1), (2, .aload_n 1, 1), (3, .iconst 0, 1), (4, .aload_n 0, 1), (5, .arraylength, 1), (6, .aload_n 1, 1), (7, .arraylength, 1), (8, .invokestatic 375, 3), (11, .invokestatic 390, 3), (14, .return_, 1)] : List (Nat × Instr × Nat)), decode cX7_copyRow q.1 = .ok q.2 := by decide +kernel
theorem dX7_copyRow_0 : decode cX7_copyRow 0 = .ok (.aload_n 0, 1) := DX7_copyRow_0 (0, .aload_n 0, 1) (List.mem_of_getElem? (i := 0) rfl)
theorem dX7_copyRow_1 : decode cX7_copyRow 1 = .ok (.iconst 0, 1) := DX7_copyRow_0 (1, .iconst 0, 1) (List.mem_of_getElem? (i := 1) rfl)
theorem dX7_copyRow_2 : decode cX7_copyRow 2 = .ok (.aload_n 1, 1) := DX7_copyRow_0 (2, .aload_n 1, 1) (List.mem_of_getElem? (i := 2) rfl)
theorem dX7_copyRow_3 : decode cX7_copyRow 3 = .ok (.iconst 0, 1) := DX7_copyRow_0 (3, .iconst 0, 1) (List.mem_of_getElem? (i := 3) rfl)
theorem dX7_copyRow_4 : decode cX7_copyRow 4 = .ok (.aload_n 0, 1) := DX7_copyRow_0 (4, .aload_n 0, 1) (List.mem_of_getElem? (i := 4) rfl)
theorem dX7_copyRow_5 : decode cX7_copyRow 5 = .ok (.arraylength, 1) := DX7_copyRow_0 (5, .arraylength, 1) (List.mem_of_getElem? (i := 5) rfl)
theorem dX7_copyRow_6 : decode cX7_copyRow 6 = .ok (.aload_n 1, 1) := DX7_copyRow_0 (6, .aload_n 1, 1) (List.mem_of_getElem? (i := 6) rfl)
theorem dX7_copyRow_7 : decode cX7_copyRow 7 = .ok (.arraylength, 1) := DX7_copyRow_0 (7, .arraylength, 1) (List.mem_of_getElem? (i := 7) rfl)
theorem dX7_copyRow_8 : decode cX7_copyRow 8 = .ok (.invokestatic 375, 3) := DX7_copyRow_0 (8, .invokestatic 375, 3) (List.mem_of_getElem? (i := 8) rfl)
theorem dX7_copyRow_11 : decode cX7_copyRow 11 = .ok (.invokestatic 390, 3) := DX7_copyRow_0 (11, .invokestatic 390, 3) (List.mem_of_getElem? (i := 9) rfl)
theorem dX7_copyRow_14 : decode cX7_copyRow 14 = .ok (.return_, 1) := DX7_copyRow_0 (14, .return_, 1) (List.mem_of_getElem? (i := 10) rfl)
abbrev rmX7_copyRow : Room := { frames := 1, cells := 0, slots := 0, locals := 60 }
set_option maxHeartbeats 400000 in
set_option maxRecDepth 100000 in
theorem met_X7_copyRow (l : Launch) (D : va_G) (kA : Nat → ClassId) (a : Nat) (b : Nat) (n0 : Nat) (n1 : Nat) (T0 : Nat → Int) (T10 : Nat → Int) (hn0 : n0 ≤ 2147483648) (hn1 : n1 ≤ 2147483648) (hDt : ∀ w : (Nat → Int), va_D (fun _ => True) ([(a, .inl (kA 0, n0, .inl (aI T0)))] ++ ([(b, .inl (kA 0, n1, .inl (aI w)))]))) {T1r : (Nat → Int)} (hf : f_X7_copyRow n0 n1 T0 T10 = some T1r) : MZ l yX7_copyRow cX7_copyRow 2 none rmX7_copyRow D kA [.ref (a), .ref (b)] ([(a, .inl (kA 0, n0, .inl (aI T0)))] ++ ([(b, .inl (kA 0, n1, .inl (aI T10)))])) ([(a, .inl (kA 0, n0, .inl (aI T0)))] ++ ([(b, .inl (kA 0, n1, .inl (aI T1r)))])) (none) := by
  refine zZV (own := RX7) rfl rfl (Nat.le_of_ble_eq_true rfl) ?_
  intro p e s m args below meth c ls Q hC hK hP hl hret
  have hl : lv_has ls 2 [(0, .ref (a)), (1, .ref (b))] := hl
  have hS : va_S (zF ([(a, .inl (kA 0, n0, .inl (aI T0)))] ++ ([(b, .inl (kA 0, n1, .inl (aI T10)))]))) s.heap s.heap [] := va_S.rf
  have hD := zDself (C := fun w : (Nat → Int) => ([(a, .inl (kA 0, n0, .inl (aI T0)))] ++ ([(b, .inl (kA 0, n1, .inl (aI w)))]))) hDt T10 (fun _ => rfl)
  try dsimp only at hD
  generalize hAe : zF ([(a, .inl (kA 0, n0, .inl (aI T0)))] ++ ([(b, .inl (kA 0, n1, .inl (aI T10)))])) = A0 at hS hD hret
  unfold f_X7_copyRow at hf
  refine lv_aload_n hC.1 hC.2.1 dX7_copyRow_0 rfl (lv_at hl 0 rfl) <| ziconst hC.1 hC.2.1 dX7_copyRow_1 <| lv_aload_n hC.1 hC.2.1 dX7_copyRow_2 rfl (lv_at hl 1 rfl) <| ziconst hC.1 hC.2.1 dX7_copyRow_3 <| lv_aload_n hC.1 hC.2.1 dX7_copyRow_4 rfl (lv_at hl 0 rfl) <| jlen_int (v := (n0 : Int)) hC hK hP (q0 := 0) rfl rfl dX7_copyRow_5 <| lv_aload_n hC.1 hC.2.1 dX7_copyRow_6 rfl (lv_at hl 1 rfl) <| jlen_int (v := (n1 : Int)) hC hK hP (q0 := 1) rfl rfl dX7_copyRow_7 <| ?_
  obtain ⟨hz_1, hf⟩ := ck_some hf
  refine jmin ⟨hz_1.1, hz_1.2⟩ hC qw_492 hl.1 (Nat.le_of_ble_eq_true rfl) ⟨Nat.le_of_ble_eq_true rfl, Nat.le_of_ble_eq_true rfl⟩ ⟨Nat.le_refl _, Nat.le_refl _⟩ dX7_copyRow_8 <| ?_
  obtain ⟨hz_2, hf⟩ := ck_some hf
  refine jcopy hC hK hP (hD T10) hS (q0 := 0) (q1 := 1) qw_493 rfl rfl hl.1 hz_2.2.1 hz_2.2.2 hz_2.1 (Nat.le_of_ble_eq_true rfl) (Nat.le_of_ble_eq_true rfl) dX7_copyRow_11 (fun H locs hP hS => ?_)
  obtain ⟨T1_3, eT1_3⟩ : ∃ y, y = cpZ T0 T10 0 0 (min (n0 : Int) (n1 : Int)).toNat := ⟨_, rfl⟩
  have hf := nm_at hf eT1_3
  have hP : va_P D vwCl ([(a, .inl (kA 0, n0, .inl (aI T0)))] ++ ([(b, .inl (kA 0, n1, .inl (aI T1_3)))])) H := by rw [eT1_3]; exact hP
  have hf := Option.some.inj hf
  exact hret _ _ _ _ rfl (by rw [← hf]; exact hP) hS dX7_copyRow_14
