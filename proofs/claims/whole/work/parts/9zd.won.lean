/-! the wrappers, without a premise on the range of the answer -/
def nrm (x : Int) : Int := Int.bmod x 4294967296
theorem nrm_rng (x : Int) : rng (nrm x) := by
  have h1 := Int.le_bmod (x := x) (m := 4294967296) (by decide)
  have h2 := Int.bmod_lt (x := x) (m := 4294967296) (by decide)
  unfold nrm
  constructor <;> omega
theorem vI_nrm (x : Int) : vI (nrm x) = vI x := by
  unfold vI nrm
  congr 1
  rw [← Int32.toInt_inj, Int32.toInt_ofInt, Int32.toInt_ofInt]
  exact Int.bmod_bmod
section
variable {p : Program} {l : Launch} {e : Env} {R : Room} {s : State} {m : MethodId} {args : Array Value} {below : List Frame} {meth : Method} {c : Code} {H H0 : Heap} {locs : List Loc} {cells slots : Nat} {Q : State → Prop}
variable {pc nL : Nat} {ls : Array Slot} {rest st0 : List Value} {A0 : Nat → Prop} {D : va_G} {kA : Nat → ClassId} {cc : ByteArray} {own : String} {a : Array Value} {W0 W1 : va_W}
theorem zi2n (hexec : p.tables.exec = Jvm.exec) (hb : c.code = cc) {x : Int} (hdg : decode cc pc = .ok (.i2l, 1)) (k : W p l e R s m args below meth c H locs cells slots Q (F0 m (pc + 1) ls (vL (nrm x) :: rest))) : W p l e R s m args below meth c H locs cells slots Q (F0 m pc ls (vI x :: rest)) := by
  rw [← vI_nrm x]
  exact zi2l hexec hb (nrm_rng x) hdg k
end
set_option maxHeartbeats 1000000 in
set_option maxRecDepth 100000 in
theorem won_count (l : Launch) (D : va_G) (kA : Nat → ClassId) (a : Nat → Nat) (pf : Nat → Option Nat) (b : Nat) (n : Nat) (V X : Sz) (T : Nat → Int) (x1 : Int) (hD0 : va_D (fun _ => True) (zO kA b T :: cs_X7 kA a V X pf)) {r : Int} (hf : f_X7_count n V X x1 = some (.inl r)) : MZH l yL_count cL_count 4 (some .int) [(0, 9, 12, 13)] rmL_count D kA [.ref (a 0), vI x1, .ref b] (zO kA b T :: cs_X7 kA a V X pf) (zO kA b (up T 0 (nrm r)) :: cs_X7 kA a V X pf) (some (vI 0)) := by
  refine zHI (own := RL) rfl rfl (Nat.le_of_ble_eq_true rfl) ?_
  intro p e s m args below meth c ls Q hC hK hP hl hret
  have hl : lv_has ls 4 [(0, .ref (a 0)), (1, vI x1), (2, .ref b)] := hl
  have hS : va_S (zF (zO kA b T :: cs_X7 kA a V X pf)) s.heap s.heap [] := va_S.rf
  have hD0 : va_D (zF (zO kA b T :: cs_X7 kA a V X pf)) (zO kA b T :: cs_X7 kA a V X pf) := ⟨hD0.1, fun k q hk => ⟨k, q.2, hk⟩⟩
  generalize hAe : zF (zO kA b T :: cs_X7 kA a V X pf) = A0 at hS hD0 hret
  have hD : ∀ w : Sz × Sz, va_D A0 (zO kA b T :: cs_X7 kA a w.1 w.2 pf) := zDany (C := fun w : Sz × Sz => (zO kA b T :: cs_X7 kA a w.1 w.2 pf)) (V, X) (fun _ => rfl) hD0
  refine lv_aload_n hC.1 hC.2.1 dL_count_0 rfl (lv_at hl 2 rfl) <| ziconst hC.1 hC.2.1 dL_count_1 <| lv_aload_n hC.1 hC.2.1 dL_count_2 rfl (lv_at hl 0 rfl) <| ziload_n hC.1 hC.2.1 dL_count_3 rfl (lv_at hl 1 rfl) ?_
  refine zcVP (As := [vI x1]) (rest := [vI 0, .ref b]) hC hK (met_X7_count l D kA a pf n V X x1 hf) zwL_7 (zPtail hP) (q0 := 0) rfl rfl rfl rfl hl.1 rfl (Nat.le_of_ble_eq_true rfl) ⟨(Nat.le_of_ble_eq_true rfl), (Nat.le_of_ble_eq_true rfl)⟩ ⟨rfl, rfl⟩ ⟨Nat.le_refl _, Nat.le_refl _⟩ dL_count_4 ?_
  have hD := hD (V, X)
  refine zi2n hC.1 hC.2.1 dL_count_7 ?_
  refine jlas hC hK hP hD hS (q0 := 0) rfl (Nat.le_of_ble_eq_true rfl) (by decide) rfl dL_count_8 (fun H locs hP hS => ?_)
  refine lv_goto (tgt := 15) hC.1 hC.2.1 dL_count_9 (by decide) ?_
  refine ziconst hC.1 hC.2.1 dL_count_15 ?_
  exact hret (Int32.ofInt 0) _ _ _ _ rfl hP hS dL_count_16
set_option maxHeartbeats 1000000 in
set_option maxRecDepth 100000 in
theorem won_declaration (l : Launch) (D : va_G) (kA : Nat → ClassId) (a : Nat → Nat) (pf : Nat → Option Nat) (b : Nat) (V X : Sz) (T : Nat → Int) (x1 : Int) (x2 : Int) (hD0 : va_D (fun _ => True) (zO kA b T :: cs_X7 kA a V X pf)) {r : Int} (hf : f_X7_declaration V X x1 x2 = some (.inl r)) : MZH l yL_declaration cL_declaration 5 (some .int) [(0, 10, 13, 19), (0, 10, 17, 13)] rmL_declaration D kA [.ref (a 0), vI x1, vI x2, .ref b] (zO kA b T :: cs_X7 kA a V X pf) (zO kA b (up T 0 (nrm r)) :: cs_X7 kA a V X pf) (some (vI 0)) := by
  refine zHI (own := RL) rfl rfl (Nat.le_of_ble_eq_true rfl) ?_
  intro p e s m args below meth c ls Q hC hK hP hl hret
  have hl : lv_has ls 5 [(0, .ref (a 0)), (1, vI x1), (2, vI x2), (3, .ref b)] := hl
  have hS : va_S (zF (zO kA b T :: cs_X7 kA a V X pf)) s.heap s.heap [] := va_S.rf
  have hD0 : va_D (zF (zO kA b T :: cs_X7 kA a V X pf)) (zO kA b T :: cs_X7 kA a V X pf) := ⟨hD0.1, fun k q hk => ⟨k, q.2, hk⟩⟩
  generalize hAe : zF (zO kA b T :: cs_X7 kA a V X pf) = A0 at hS hD0 hret
  have hD : ∀ w : Sz × Sz, va_D A0 (zO kA b T :: cs_X7 kA a w.1 w.2 pf) := zDany (C := fun w : Sz × Sz => (zO kA b T :: cs_X7 kA a w.1 w.2 pf)) (V, X) (fun _ => rfl) hD0
  refine lv_aload_n hC.1 hC.2.1 dL_declaration_0 rfl (lv_at hl 3 rfl) <| ziconst hC.1 hC.2.1 dL_declaration_1 <| lv_aload_n hC.1 hC.2.1 dL_declaration_2 rfl (lv_at hl 0 rfl) <| ziload_n hC.1 hC.2.1 dL_declaration_3 rfl (lv_at hl 1 rfl) <| ziload_n hC.1 hC.2.1 dL_declaration_4 rfl (lv_at hl 2 rfl) ?_
  refine zcVP (As := [vI x1, vI x2]) (rest := [vI 0, .ref b]) hC hK (met_X7_declaration l D kA a pf V X x1 x2 hf) zwL_15 (zPtail hP) (q0 := 0) rfl rfl rfl rfl hl.1 rfl (Nat.le_of_ble_eq_true rfl) ⟨(Nat.le_of_ble_eq_true rfl), (Nat.le_of_ble_eq_true rfl)⟩ ⟨rfl, rfl⟩ ⟨Nat.le_refl _, Nat.le_refl _⟩ dL_declaration_5 ?_
  have hD := hD (V, X)
  refine zi2n hC.1 hC.2.1 dL_declaration_8 ?_
  refine jlas hC hK hP hD hS (q0 := 0) rfl (Nat.le_of_ble_eq_true rfl) (by decide) rfl dL_declaration_9 (fun H locs hP hS => ?_)
  refine lv_goto (tgt := 21) hC.1 hC.2.1 dL_declaration_10 (by decide) ?_
  refine ziconst hC.1 hC.2.1 dL_declaration_21 ?_
  exact hret (Int32.ofInt 0) _ _ _ _ rfl hP hS dL_declaration_22
set_option maxHeartbeats 1000000 in
set_option maxRecDepth 100000 in
theorem won_gift (l : Launch) (D : va_G) (kA : Nat → ClassId) (a : Nat → Nat) (pf : Nat → Option Nat) (b : Nat) (n : Nat) (V X : Sz) (T : Nat → Int) (x1 : Int) (x2 : Int) (hD0 : va_D (fun _ => True) (zO kA b T :: cs_X7 kA a V X pf)) {r : Int} (hf : f_X7_gift n V X x1 x2 = some (.inl r)) : MZH l yL_gift cL_gift 5 (some .int) [(0, 10, 13, 19), (0, 10, 17, 13)] rmL_gift D kA [.ref (a 0), vI x1, vI x2, .ref b] (zO kA b T :: cs_X7 kA a V X pf) (zO kA b (up T 0 (nrm r)) :: cs_X7 kA a V X pf) (some (vI 0)) := by
  refine zHI (own := RL) rfl rfl (Nat.le_of_ble_eq_true rfl) ?_
  intro p e s m args below meth c ls Q hC hK hP hl hret
  have hl : lv_has ls 5 [(0, .ref (a 0)), (1, vI x1), (2, vI x2), (3, .ref b)] := hl
  have hS : va_S (zF (zO kA b T :: cs_X7 kA a V X pf)) s.heap s.heap [] := va_S.rf
  have hD0 : va_D (zF (zO kA b T :: cs_X7 kA a V X pf)) (zO kA b T :: cs_X7 kA a V X pf) := ⟨hD0.1, fun k q hk => ⟨k, q.2, hk⟩⟩
  generalize hAe : zF (zO kA b T :: cs_X7 kA a V X pf) = A0 at hS hD0 hret
  have hD : ∀ w : Sz × Sz, va_D A0 (zO kA b T :: cs_X7 kA a w.1 w.2 pf) := zDany (C := fun w : Sz × Sz => (zO kA b T :: cs_X7 kA a w.1 w.2 pf)) (V, X) (fun _ => rfl) hD0
  refine lv_aload_n hC.1 hC.2.1 dL_gift_0 rfl (lv_at hl 3 rfl) <| ziconst hC.1 hC.2.1 dL_gift_1 <| lv_aload_n hC.1 hC.2.1 dL_gift_2 rfl (lv_at hl 0 rfl) <| ziload_n hC.1 hC.2.1 dL_gift_3 rfl (lv_at hl 1 rfl) <| ziload_n hC.1 hC.2.1 dL_gift_4 rfl (lv_at hl 2 rfl) ?_
  refine zcVP (As := [vI x1, vI x2]) (rest := [vI 0, .ref b]) hC hK (met_X7_gift l D kA a pf n V X x1 x2 hf) zwL_21 (zPtail hP) (q0 := 0) rfl rfl rfl rfl hl.1 rfl (Nat.le_of_ble_eq_true rfl) ⟨(Nat.le_of_ble_eq_true rfl), (Nat.le_of_ble_eq_true rfl)⟩ ⟨rfl, rfl⟩ ⟨Nat.le_refl _, Nat.le_refl _⟩ dL_gift_5 ?_
  have hD := hD (V, X)
  refine zi2n hC.1 hC.2.1 dL_gift_8 ?_
  refine jlas hC hK hP hD hS (q0 := 0) rfl (Nat.le_of_ble_eq_true rfl) (by decide) rfl dL_gift_9 (fun H locs hP hS => ?_)
  refine lv_goto (tgt := 21) hC.1 hC.2.1 dL_gift_10 (by decide) ?_
  refine ziconst hC.1 hC.2.1 dL_gift_21 ?_
  exact hret (Int32.ofInt 0) _ _ _ _ rfl hP hS dL_gift_22
set_option maxHeartbeats 1000000 in
set_option maxRecDepth 100000 in
theorem won_part (l : Launch) (D : va_G) (kA : Nat → ClassId) (a : Nat → Nat) (pf : Nat → Option Nat) (b : Nat) (V X : Sz) (T : Nat → Int) (x1 : Int) (x2 : Int) (x3 : Int) (hD0 : va_D (fun _ => True) (zO kA b T :: cs_X7 kA a V X pf)) {r : Int} (hf : f_X7_part V X x1 x2 x3 = some (.inl r)) : MZH l yL_part cL_part 6 (some .int) [(0, 12, 15, 19), (0, 12, 19, 13)] rmL_part D kA [.ref (a 0), vI x1, vI x2, vI x3, .ref b] (zO kA b T :: cs_X7 kA a V X pf) (zO kA b (up T 0 (nrm r)) :: cs_X7 kA a V X pf) (some (vI 0)) := by
  refine zHI (own := RL) rfl rfl (Nat.le_of_ble_eq_true rfl) ?_
  intro p e s m args below meth c ls Q hC hK hP hl hret
  have hl : lv_has ls 6 [(0, .ref (a 0)), (1, vI x1), (2, vI x2), (3, vI x3), (4, .ref b)] := hl
  have hS : va_S (zF (zO kA b T :: cs_X7 kA a V X pf)) s.heap s.heap [] := va_S.rf
  have hD0 : va_D (zF (zO kA b T :: cs_X7 kA a V X pf)) (zO kA b T :: cs_X7 kA a V X pf) := ⟨hD0.1, fun k q hk => ⟨k, q.2, hk⟩⟩
  generalize hAe : zF (zO kA b T :: cs_X7 kA a V X pf) = A0 at hS hD0 hret
  have hD : ∀ w : Sz × Sz, va_D A0 (zO kA b T :: cs_X7 kA a w.1 w.2 pf) := zDany (C := fun w : Sz × Sz => (zO kA b T :: cs_X7 kA a w.1 w.2 pf)) (V, X) (fun _ => rfl) hD0
  refine lv_aload hC.1 hC.2.1 dL_part_0 (lv_at hl 4 rfl) <| ziconst hC.1 hC.2.1 dL_part_2 <| lv_aload_n hC.1 hC.2.1 dL_part_3 rfl (lv_at hl 0 rfl) <| ziload_n hC.1 hC.2.1 dL_part_4 rfl (lv_at hl 1 rfl) <| ziload_n hC.1 hC.2.1 dL_part_5 rfl (lv_at hl 2 rfl) <| ziload_n hC.1 hC.2.1 dL_part_6 rfl (lv_at hl 3 rfl) ?_
  refine zcVP (As := [vI x1, vI x2, vI x3]) (rest := [vI 0, .ref b]) hC hK (met_X7_part l D kA a pf V X x1 x2 x3 hf) zwL_24 (zPtail hP) (q0 := 0) rfl rfl rfl rfl hl.1 rfl (Nat.le_of_ble_eq_true rfl) ⟨(Nat.le_of_ble_eq_true rfl), (Nat.le_of_ble_eq_true rfl)⟩ ⟨rfl, rfl⟩ ⟨Nat.le_refl _, Nat.le_refl _⟩ dL_part_7 ?_
  have hD := hD (V, X)
  refine zi2n hC.1 hC.2.1 dL_part_10 ?_
  refine jlas hC hK hP hD hS (q0 := 0) rfl (Nat.le_of_ble_eq_true rfl) (by decide) rfl dL_part_11 (fun H locs hP hS => ?_)
  refine lv_goto (tgt := 23) hC.1 hC.2.1 dL_part_12 (by decide) ?_
  refine ziconst hC.1 hC.2.1 dL_part_23 ?_
  exact hret (Int32.ofInt 0) _ _ _ _ rfl hP hS dL_part_24
set_option maxHeartbeats 1000000 in
set_option maxRecDepth 100000 in
theorem won_reason (l : Launch) (D : va_G) (kA : Nat → ClassId) (a : Nat → Nat) (pf : Nat → Option Nat) (b : Nat) (n : Nat) (V X : Sz) (T : Nat → Int) (x1 : Int) (x2 : Int) (hD0 : va_D (fun _ => True) (zO kA b T :: cs_X7 kA a V X pf)) {r : Int} (hf : f_X7_reason n V X x1 x2 = some (.inl r)) : MZH l yL_reason cL_reason 5 (some .int) [(0, 10, 13, 19)] rmL_reason D kA [.ref (a 0), vI x1, vI x2, .ref b] (zO kA b T :: cs_X7 kA a V X pf) (zO kA b (up T 0 (nrm r)) :: cs_X7 kA a V X pf) (some (vI 0)) := by
  refine zHI (own := RL) rfl rfl (Nat.le_of_ble_eq_true rfl) ?_
  intro p e s m args below meth c ls Q hC hK hP hl hret
  have hl : lv_has ls 5 [(0, .ref (a 0)), (1, vI x1), (2, vI x2), (3, .ref b)] := hl
  have hS : va_S (zF (zO kA b T :: cs_X7 kA a V X pf)) s.heap s.heap [] := va_S.rf
  have hD0 : va_D (zF (zO kA b T :: cs_X7 kA a V X pf)) (zO kA b T :: cs_X7 kA a V X pf) := ⟨hD0.1, fun k q hk => ⟨k, q.2, hk⟩⟩
  generalize hAe : zF (zO kA b T :: cs_X7 kA a V X pf) = A0 at hS hD0 hret
  have hD : ∀ w : Sz × Sz, va_D A0 (zO kA b T :: cs_X7 kA a w.1 w.2 pf) := zDany (C := fun w : Sz × Sz => (zO kA b T :: cs_X7 kA a w.1 w.2 pf)) (V, X) (fun _ => rfl) hD0
  refine lv_aload_n hC.1 hC.2.1 dL_reason_0 rfl (lv_at hl 3 rfl) <| ziconst hC.1 hC.2.1 dL_reason_1 <| lv_aload_n hC.1 hC.2.1 dL_reason_2 rfl (lv_at hl 0 rfl) <| ziload_n hC.1 hC.2.1 dL_reason_3 rfl (lv_at hl 1 rfl) <| ziload_n hC.1 hC.2.1 dL_reason_4 rfl (lv_at hl 2 rfl) ?_
  refine zcVP (As := [vI x1, vI x2]) (rest := [vI 0, .ref b]) hC hK (met_X7_reason l D kA a pf n V X x1 x2 hf) zwL_28 (zPtail hP) (q0 := 0) rfl rfl rfl rfl hl.1 rfl (Nat.le_of_ble_eq_true rfl) ⟨(Nat.le_of_ble_eq_true rfl), (Nat.le_of_ble_eq_true rfl)⟩ ⟨rfl, rfl⟩ ⟨Nat.le_refl _, Nat.le_refl _⟩ dL_reason_5 ?_
  have hD := hD (V, X)
  refine zi2n hC.1 hC.2.1 dL_reason_8 ?_
  refine jlas hC hK hP hD hS (q0 := 0) rfl (Nat.le_of_ble_eq_true rfl) (by decide) rfl dL_reason_9 (fun H locs hP hS => ?_)
  refine lv_goto (tgt := 17) hC.1 hC.2.1 dL_reason_10 (by decide) ?_
  refine ziconst hC.1 hC.2.1 dL_reason_17 ?_
  exact hret (Int32.ofInt 0) _ _ _ _ rfl hP hS dL_reason_18
set_option maxHeartbeats 1000000 in
set_option maxRecDepth 100000 in
theorem won_donor (l : Launch) (D : va_G) (kA : Nat → ClassId) (a : Nat → Nat) (pf : Nat → Option Nat) (b : Nat) (n : Nat) (V X : Sz) (T : Nat → Int) (x1 : Int) (x2 : Int) (x3 : Int) (hD0 : va_D (fun _ => True) (zO kA b T :: cs_X7 kA a V X pf)) {r : Int} (hf : f_X7_donor n V X x1 x2 x3 = some (.inl r)) : MZH l yL_donor cL_donor 6 (some .int) [(0, 12, 15, 19), (0, 12, 19, 13)] rmL_donor D kA [.ref (a 0), vI x1, vI x2, vI x3, .ref b] (zO kA b T :: cs_X7 kA a V X pf) (zO kA b (up T 0 (nrm r)) :: cs_X7 kA a V X pf) (some (vI 0)) := by
  refine zHI (own := RL) rfl rfl (Nat.le_of_ble_eq_true rfl) ?_
  intro p e s m args below meth c ls Q hC hK hP hl hret
  have hl : lv_has ls 6 [(0, .ref (a 0)), (1, vI x1), (2, vI x2), (3, vI x3), (4, .ref b)] := hl
  have hS : va_S (zF (zO kA b T :: cs_X7 kA a V X pf)) s.heap s.heap [] := va_S.rf
  have hD0 : va_D (zF (zO kA b T :: cs_X7 kA a V X pf)) (zO kA b T :: cs_X7 kA a V X pf) := ⟨hD0.1, fun k q hk => ⟨k, q.2, hk⟩⟩
  generalize hAe : zF (zO kA b T :: cs_X7 kA a V X pf) = A0 at hS hD0 hret
  have hD : ∀ w : Sz × Sz, va_D A0 (zO kA b T :: cs_X7 kA a w.1 w.2 pf) := zDany (C := fun w : Sz × Sz => (zO kA b T :: cs_X7 kA a w.1 w.2 pf)) (V, X) (fun _ => rfl) hD0
  refine lv_aload hC.1 hC.2.1 dL_donor_0 (lv_at hl 4 rfl) <| ziconst hC.1 hC.2.1 dL_donor_2 <| lv_aload_n hC.1 hC.2.1 dL_donor_3 rfl (lv_at hl 0 rfl) <| ziload_n hC.1 hC.2.1 dL_donor_4 rfl (lv_at hl 1 rfl) <| ziload_n hC.1 hC.2.1 dL_donor_5 rfl (lv_at hl 2 rfl) <| ziload_n hC.1 hC.2.1 dL_donor_6 rfl (lv_at hl 3 rfl) ?_
  refine zcVP (As := [vI x1, vI x2, vI x3]) (rest := [vI 0, .ref b]) hC hK (met_X7_donor l D kA a pf n V X x1 x2 x3 hf) zwL_31 (zPtail hP) (q0 := 0) rfl rfl rfl rfl hl.1 rfl (Nat.le_of_ble_eq_true rfl) ⟨(Nat.le_of_ble_eq_true rfl), (Nat.le_of_ble_eq_true rfl)⟩ ⟨rfl, rfl⟩ ⟨Nat.le_refl _, Nat.le_refl _⟩ dL_donor_7 ?_
  have hD := hD (V, X)
  refine zi2n hC.1 hC.2.1 dL_donor_10 ?_
  refine jlas hC hK hP hD hS (q0 := 0) rfl (Nat.le_of_ble_eq_true rfl) (by decide) rfl dL_donor_11 (fun H locs hP hS => ?_)
  refine lv_goto (tgt := 23) hC.1 hC.2.1 dL_donor_12 (by decide) ?_
  refine ziconst hC.1 hC.2.1 dL_donor_23 ?_
  exact hret (Int32.ofInt 0) _ _ _ _ rfl hP hS dL_donor_24
set_option maxHeartbeats 1000000 in
set_option maxRecDepth 100000 in
theorem won_taxLimit (l : Launch) (D : va_G) (kA : Nat → ClassId) (a : Nat → Nat) (pf : Nat → Option Nat) (b : Nat) (V X : Sz) (T : Nat → Int) (x1 : Int) (hD0 : va_D (fun _ => True) (zO kA b T :: cs_X7 kA a V X pf)) {r : Int} (hf : f_X7_taxLimit V X x1 = some (.inl r)) : MZH l yL_taxLimit cL_taxLimit 4 (some .int) [(0, 9, 12, 19)] rmL_taxLimit D kA [.ref (a 0), vI x1, .ref b] (zO kA b T :: cs_X7 kA a V X pf) (zO kA b (up T 0 (nrm r)) :: cs_X7 kA a V X pf) (some (vI 0)) := by
  refine zHI (own := RL) rfl rfl (Nat.le_of_ble_eq_true rfl) ?_
  intro p e s m args below meth c ls Q hC hK hP hl hret
  have hl : lv_has ls 4 [(0, .ref (a 0)), (1, vI x1), (2, .ref b)] := hl
  have hS : va_S (zF (zO kA b T :: cs_X7 kA a V X pf)) s.heap s.heap [] := va_S.rf
  have hD0 : va_D (zF (zO kA b T :: cs_X7 kA a V X pf)) (zO kA b T :: cs_X7 kA a V X pf) := ⟨hD0.1, fun k q hk => ⟨k, q.2, hk⟩⟩
  generalize hAe : zF (zO kA b T :: cs_X7 kA a V X pf) = A0 at hS hD0 hret
  have hD : ∀ w : Sz × Sz, va_D A0 (zO kA b T :: cs_X7 kA a w.1 w.2 pf) := zDany (C := fun w : Sz × Sz => (zO kA b T :: cs_X7 kA a w.1 w.2 pf)) (V, X) (fun _ => rfl) hD0
  refine lv_aload_n hC.1 hC.2.1 dL_taxLimit_0 rfl (lv_at hl 2 rfl) <| ziconst hC.1 hC.2.1 dL_taxLimit_1 <| lv_aload_n hC.1 hC.2.1 dL_taxLimit_2 rfl (lv_at hl 0 rfl) <| ziload_n hC.1 hC.2.1 dL_taxLimit_3 rfl (lv_at hl 1 rfl) ?_
  refine zcVP (As := [vI x1]) (rest := [vI 0, .ref b]) hC hK (met_X7_taxLimit l D kA a pf V X x1 hf) zwL_34 (zPtail hP) (q0 := 0) rfl rfl rfl rfl hl.1 rfl (Nat.le_of_ble_eq_true rfl) ⟨(Nat.le_of_ble_eq_true rfl), (Nat.le_of_ble_eq_true rfl)⟩ ⟨rfl, rfl⟩ ⟨Nat.le_refl _, Nat.le_refl _⟩ dL_taxLimit_4 ?_
  have hD := hD (V, X)
  refine zi2n hC.1 hC.2.1 dL_taxLimit_7 ?_
  refine jlas hC hK hP hD hS (q0 := 0) rfl (Nat.le_of_ble_eq_true rfl) (by decide) rfl dL_taxLimit_8 (fun H locs hP hS => ?_)
  refine lv_goto (tgt := 15) hC.1 hC.2.1 dL_taxLimit_9 (by decide) ?_
  refine ziconst hC.1 hC.2.1 dL_taxLimit_15 ?_
  exact hret (Int32.ofInt 0) _ _ _ _ rfl hP hS dL_taxLimit_16
set_option maxHeartbeats 1000000 in
set_option maxRecDepth 100000 in
theorem won_coverage (l : Launch) (D : va_G) (kA : Nat → ClassId) (a : Nat → Nat) (pf : Nat → Option Nat) (b : Nat) (n : Nat) (V X : Sz) (T : Nat → Int) (x1 : Int) (x2 : Int) (x3 : Int) (hD0 : va_D (fun _ => True) (zO kA b T :: cs_X7 kA a V X pf)) {r : Int} (hf : f_X7_coverage n V X x1 x2 x3 = some (.inl r)) : MZH l yL_coverage cL_coverage 6 (some .int) [(0, 12, 15, 19), (0, 12, 19, 13)] rmL_coverage D kA [.ref (a 0), vI x1, vI x2, vI x3, .ref b] (zO kA b T :: cs_X7 kA a V X pf) (zO kA b (up T 0 (nrm r)) :: cs_X7 kA a V X pf) (some (vI 0)) := by
  refine zHI (own := RL) rfl rfl (Nat.le_of_ble_eq_true rfl) ?_
  intro p e s m args below meth c ls Q hC hK hP hl hret
  have hl : lv_has ls 6 [(0, .ref (a 0)), (1, vI x1), (2, vI x2), (3, vI x3), (4, .ref b)] := hl
  have hS : va_S (zF (zO kA b T :: cs_X7 kA a V X pf)) s.heap s.heap [] := va_S.rf
  have hD0 : va_D (zF (zO kA b T :: cs_X7 kA a V X pf)) (zO kA b T :: cs_X7 kA a V X pf) := ⟨hD0.1, fun k q hk => ⟨k, q.2, hk⟩⟩
  generalize hAe : zF (zO kA b T :: cs_X7 kA a V X pf) = A0 at hS hD0 hret
  have hD : ∀ w : Sz × Sz, va_D A0 (zO kA b T :: cs_X7 kA a w.1 w.2 pf) := zDany (C := fun w : Sz × Sz => (zO kA b T :: cs_X7 kA a w.1 w.2 pf)) (V, X) (fun _ => rfl) hD0
  refine lv_aload hC.1 hC.2.1 dL_coverage_0 (lv_at hl 4 rfl) <| ziconst hC.1 hC.2.1 dL_coverage_2 <| lv_aload_n hC.1 hC.2.1 dL_coverage_3 rfl (lv_at hl 0 rfl) <| ziload_n hC.1 hC.2.1 dL_coverage_4 rfl (lv_at hl 1 rfl) <| ziload_n hC.1 hC.2.1 dL_coverage_5 rfl (lv_at hl 2 rfl) <| ziload_n hC.1 hC.2.1 dL_coverage_6 rfl (lv_at hl 3 rfl) ?_
  refine zcVP (As := [vI x1, vI x2, vI x3]) (rest := [vI 0, .ref b]) hC hK (met_X7_coverage l D kA a pf n V X x1 x2 x3 hf) zwL_41 (zPtail hP) (q0 := 0) rfl rfl rfl rfl hl.1 rfl (Nat.le_of_ble_eq_true rfl) ⟨(Nat.le_of_ble_eq_true rfl), (Nat.le_of_ble_eq_true rfl)⟩ ⟨rfl, rfl⟩ ⟨Nat.le_refl _, Nat.le_refl _⟩ dL_coverage_7 ?_
  have hD := hD (V, X)
  refine zi2n hC.1 hC.2.1 dL_coverage_10 ?_
  refine jlas hC hK hP hD hS (q0 := 0) rfl (Nat.le_of_ble_eq_true rfl) (by decide) rfl dL_coverage_11 (fun H locs hP hS => ?_)
  refine lv_goto (tgt := 23) hC.1 hC.2.1 dL_coverage_12 (by decide) ?_
  refine ziconst hC.1 hC.2.1 dL_coverage_23 ?_
  exact hret (Int32.ofInt 0) _ _ _ _ rfl hP hS dL_coverage_24
set_option maxHeartbeats 1000000 in
set_option maxRecDepth 100000 in
theorem won_gap (l : Launch) (D : va_G) (kA : Nat → ClassId) (a : Nat → Nat) (pf : Nat → Option Nat) (b : Nat) (n : Nat) (V X : Sz) (T : Nat → Int) (x1 : Int) (x2 : Int) (x3 : Int) (hD0 : va_D (fun _ => True) (zO kA b T :: cs_X7 kA a V X pf)) {r : Int} (hf : f_X7_gap n V X x1 x2 x3 = some (.inl r)) : MZH l yL_gap cL_gap 6 (some .int) [(0, 12, 15, 19)] rmL_gap D kA [.ref (a 0), vI x1, vI x2, vI x3, .ref b] (zO kA b T :: cs_X7 kA a V X pf) (zO kA b (up T 0 (nrm r)) :: cs_X7 kA a V X pf) (some (vI 0)) := by
  refine zHI (own := RL) rfl rfl (Nat.le_of_ble_eq_true rfl) ?_
  intro p e s m args below meth c ls Q hC hK hP hl hret
  have hl : lv_has ls 6 [(0, .ref (a 0)), (1, vI x1), (2, vI x2), (3, vI x3), (4, .ref b)] := hl
  have hS : va_S (zF (zO kA b T :: cs_X7 kA a V X pf)) s.heap s.heap [] := va_S.rf
  have hD0 : va_D (zF (zO kA b T :: cs_X7 kA a V X pf)) (zO kA b T :: cs_X7 kA a V X pf) := ⟨hD0.1, fun k q hk => ⟨k, q.2, hk⟩⟩
  generalize hAe : zF (zO kA b T :: cs_X7 kA a V X pf) = A0 at hS hD0 hret
  have hD : ∀ w : Sz × Sz, va_D A0 (zO kA b T :: cs_X7 kA a w.1 w.2 pf) := zDany (C := fun w : Sz × Sz => (zO kA b T :: cs_X7 kA a w.1 w.2 pf)) (V, X) (fun _ => rfl) hD0
  refine lv_aload hC.1 hC.2.1 dL_gap_0 (lv_at hl 4 rfl) <| ziconst hC.1 hC.2.1 dL_gap_2 <| lv_aload_n hC.1 hC.2.1 dL_gap_3 rfl (lv_at hl 0 rfl) <| ziload_n hC.1 hC.2.1 dL_gap_4 rfl (lv_at hl 1 rfl) <| ziload_n hC.1 hC.2.1 dL_gap_5 rfl (lv_at hl 2 rfl) <| ziload_n hC.1 hC.2.1 dL_gap_6 rfl (lv_at hl 3 rfl) ?_
  refine zcVP (As := [vI x1, vI x2, vI x3]) (rest := [vI 0, .ref b]) hC hK (met_X7_gap l D kA a pf n V X x1 x2 x3 hf) zwL_44 (zPtail hP) (q0 := 0) rfl rfl rfl rfl hl.1 rfl (Nat.le_of_ble_eq_true rfl) ⟨(Nat.le_of_ble_eq_true rfl), (Nat.le_of_ble_eq_true rfl)⟩ ⟨rfl, rfl⟩ ⟨Nat.le_refl _, Nat.le_refl _⟩ dL_gap_7 ?_
  have hD := hD (V, X)
  refine zi2n hC.1 hC.2.1 dL_gap_10 ?_
  refine jlas hC hK hP hD hS (q0 := 0) rfl (Nat.le_of_ble_eq_true rfl) (by decide) rfl dL_gap_11 (fun H locs hP hS => ?_)
  refine lv_goto (tgt := 19) hC.1 hC.2.1 dL_gap_12 (by decide) ?_
  refine ziconst hC.1 hC.2.1 dL_gap_19 ?_
  exact hret (Int32.ofInt 0) _ _ _ _ rfl hP hS dL_gap_20
set_option maxHeartbeats 1000000 in
set_option maxRecDepth 100000 in
theorem won_needless (l : Launch) (D : va_G) (kA : Nat → ClassId) (a : Nat → Nat) (pf : Nat → Option Nat) (b : Nat) (n : Nat) (V X : Sz) (T : Nat → Int) (x1 : Int) (hD0 : va_D (fun _ => True) (zO kA b T :: cs_X7 kA a V X pf)) {r : Int} (hf : f_X7_needless n V X x1 = some (.inl r)) : MZH l yL_needless cL_needless 4 (some .int) [(0, 9, 12, 19)] rmL_needless D kA [.ref (a 0), vI x1, .ref b] (zO kA b T :: cs_X7 kA a V X pf) (zO kA b (up T 0 (nrm r)) :: cs_X7 kA a V X pf) (some (vI 0)) := by
  refine zHI (own := RL) rfl rfl (Nat.le_of_ble_eq_true rfl) ?_
  intro p e s m args below meth c ls Q hC hK hP hl hret
  have hl : lv_has ls 4 [(0, .ref (a 0)), (1, vI x1), (2, .ref b)] := hl
  have hS : va_S (zF (zO kA b T :: cs_X7 kA a V X pf)) s.heap s.heap [] := va_S.rf
  have hD0 : va_D (zF (zO kA b T :: cs_X7 kA a V X pf)) (zO kA b T :: cs_X7 kA a V X pf) := ⟨hD0.1, fun k q hk => ⟨k, q.2, hk⟩⟩
  generalize hAe : zF (zO kA b T :: cs_X7 kA a V X pf) = A0 at hS hD0 hret
  have hD : ∀ w : Sz × Sz, va_D A0 (zO kA b T :: cs_X7 kA a w.1 w.2 pf) := zDany (C := fun w : Sz × Sz => (zO kA b T :: cs_X7 kA a w.1 w.2 pf)) (V, X) (fun _ => rfl) hD0
  refine lv_aload_n hC.1 hC.2.1 dL_needless_0 rfl (lv_at hl 2 rfl) <| ziconst hC.1 hC.2.1 dL_needless_1 <| lv_aload_n hC.1 hC.2.1 dL_needless_2 rfl (lv_at hl 0 rfl) <| ziload_n hC.1 hC.2.1 dL_needless_3 rfl (lv_at hl 1 rfl) ?_
  refine zcVP (As := [vI x1]) (rest := [vI 0, .ref b]) hC hK (met_X7_needless l D kA a pf n V X x1 hf) zwL_48 (zPtail hP) (q0 := 0) rfl rfl rfl rfl hl.1 rfl (Nat.le_of_ble_eq_true rfl) ⟨(Nat.le_of_ble_eq_true rfl), (Nat.le_of_ble_eq_true rfl)⟩ ⟨rfl, rfl⟩ ⟨Nat.le_refl _, Nat.le_refl _⟩ dL_needless_4 ?_
  have hD := hD (V, X)
  refine zi2n hC.1 hC.2.1 dL_needless_7 ?_
  refine jlas hC hK hP hD hS (q0 := 0) rfl (Nat.le_of_ble_eq_true rfl) (by decide) rfl dL_needless_8 (fun H locs hP hS => ?_)
  refine lv_goto (tgt := 15) hC.1 hC.2.1 dL_needless_9 (by decide) ?_
  refine ziconst hC.1 hC.2.1 dL_needless_15 ?_
  exact hret (Int32.ofInt 0) _ _ _ _ rfl hP hS dL_needless_16
set_option maxHeartbeats 1000000 in
set_option maxRecDepth 100000 in
theorem won_declare (l : Launch) (D : va_G) (kA : Nat → ClassId) (a : Nat → Nat) (pa : Nat → Nat → Nat) (b : Nat) (n : Nat) (V X : Sz) (PV : Nat → Sz) (K : Nat) (T : Nat → Int) (x1 : Int) (x2 : Int) (x3 : Int) (sz : Nat) (hD0 : va_D (fun _ => True) (zO kA b T :: (cs_X7 kA a V X (zpf pa K) ++ cs_P kA pa PV K))) {r : Int} {Vr : Sz} {PVr : Nat → Sz} {Kr : Nat} (hf : f_X7_declare n V X PV K x1 x2 x3 = some (.inl (r, Vr, PVr, Kr))) : MWH l yL_declare cL_declare 6 (some .int) [(0, 12, 15, 19), (0, 12, 19, 13), (0, 12, 23, 54)] rmL_declare D kA sz [.ref (a 0), vI x1, vI x2, vI x3, .ref b] (zO kA b T :: (cs_X7 kA a V X (zpf pa K) ++ cs_P kA pa PV K)) (some (vI 0)) 24 2040 (fun w => ∃ pa1 : Nat → Nat → Nat, w = (zO kA b (up T 0 (nrm r)) :: (cs_X7 kA a Vr X (zpf pa1 Kr) ++ cs_P kA pa1 PVr Kr))) := by
  refine zHW (own := RL) rfl rfl (Nat.le_of_ble_eq_true rfl) ?_
  intro p e s m args below meth c ls Q hC hK hP hsz hl hret
  have hl : lv_has ls 6 [(0, .ref (a 0)), (1, vI x1), (2, vI x2), (3, vI x3), (4, .ref b)] := hl
  have hS : va_S (zG (zO kA b T :: (cs_X7 kA a V X (zpf pa K) ++ cs_P kA pa PV K)) s.heap.size) s.heap s.heap [] := va_S.rf
  have hA : ∀ q, s.heap.size ≤ q → zG (zO kA b T :: (cs_X7 kA a V X (zpf pa K) ++ cs_P kA pa PV K)) s.heap.size q := fun q h => Or.inr h
  have hF0 : ∀ q, zF (cs_X7 kA a V X (zpf pa K) ++ cs_P kA pa PV K) q → zG (zO kA b T :: (cs_X7 kA a V X (zpf pa K) ++ cs_P kA pa PV K)) s.heap.size q := fun q h => h.elim fun k h => h.elim fun e h => Or.inl ⟨k + 1, e, h⟩
  have hD : va_D (zG (zO kA b T :: (cs_X7 kA a V X (zpf pa K) ++ cs_P kA pa PV K)) s.heap.size) (zO kA b T :: (cs_X7 kA a V X (zpf pa K) ++ cs_P kA pa PV K)) := ⟨hD0.1, fun k q hk => Or.inl ⟨k, q.2, hk⟩⟩
  generalize hAe : zG (zO kA b T :: (cs_X7 kA a V X (zpf pa K) ++ cs_P kA pa PV K)) s.heap.size = A0 at hS hA hF0 hD hret
  refine lv_aload hC.1 hC.2.1 dL_declare_0 (lv_at hl 4 rfl) <| ziconst hC.1 hC.2.1 dL_declare_2 <| lv_aload_n hC.1 hC.2.1 dL_declare_3 rfl (lv_at hl 0 rfl) <| ziload_n hC.1 hC.2.1 dL_declare_4 rfl (lv_at hl 1 rfl) <| ziload_n hC.1 hC.2.1 dL_declare_5 rfl (lv_at hl 2 rfl) <| ziload_n hC.1 hC.2.1 dL_declare_6 rfl (lv_at hl 3 rfl) ?_
  refine zcVW (As := [vI x1, vI x2, vI x3]) (rest := [vI 0, .ref b]) hC hK (met_X7_declare l D kA a pa n V X PV K x1 x2 x3 s.heap.size (zDtail hD0) hf) zwL_51 hS hF0 hA (zPtail hP) (q0 := 0) rfl rfl rfl rfl hl.1 rfl (Nat.le_of_ble_eq_true rfl) ⟨(Nat.le_of_ble_eq_true rfl), (Nat.le_of_ble_eq_true rfl)⟩ ⟨rfl, rfl⟩ ⟨(Nat.le_of_ble_eq_true rfl), (Nat.le_of_ble_eq_true rfl)⟩ dL_declare_7 (fun w H locs hw hPw hDw _ hk1 hS => ?_)
  obtain ⟨hP, hD⟩ := zconsW hP hD hPw hDw hk1 (fun q h => h.elim (hF0 q) (hA q))
  obtain ⟨pa1, rfl⟩ := hw
  refine zi2n hC.1 hC.2.1 dL_declare_10 ?_
  refine jlas hC hK hP hD hS (q0 := 0) rfl (Nat.le_of_ble_eq_true rfl) (by decide) rfl dL_declare_11 (fun H locs hP hS => ?_)
  refine lv_goto (tgt := 27) hC.1 hC.2.1 dL_declare_12 (by decide) ?_
  refine ziconst hC.1 hC.2.1 dL_declare_27 ?_
  have hP : va_P D vwCl (zO kA b (up T 0 (nrm r)) :: (cs_X7 kA a Vr X (zpf pa1 Kr) ++ cs_P kA pa1 PVr Kr)) H := hP
  have hD : va_D A0 (zO kA b (up T 0 (nrm r)) :: (cs_X7 kA a Vr X (zpf pa1 Kr) ++ cs_P kA pa1 PVr Kr)) := zDany (C := fun t => (zO kA b t :: (cs_X7 kA a Vr X (zpf pa1 Kr) ++ cs_P kA pa1 PVr Kr))) T (fun _ => rfl) hD (up T 0 (nrm r))
  exact hret (Int32.ofInt 0) _ _ _ _ _ _ _ (Nat.le_of_ble_eq_true rfl) (Nat.le_of_ble_eq_true rfl) rfl ⟨pa1, rfl⟩ hP hD hS dL_declare_28
set_option maxHeartbeats 1000000 in
set_option maxRecDepth 100000 in
theorem won_revoke (l : Launch) (D : va_G) (kA : Nat → ClassId) (a : Nat → Nat) (pa : Nat → Nat → Nat) (b : Nat) (n : Nat) (V X : Sz) (PV : Nat → Sz) (K : Nat) (T : Nat → Int) (x1 : Int) (x2 : Int) (sz : Nat) (hD0 : va_D (fun _ => True) (zO kA b T :: (cs_X7 kA a V X (zpf pa K) ++ cs_P kA pa PV K))) {r : Int} {Vr : Sz} {PVr : Nat → Sz} {Kr : Nat} (hf : f_X7_revoke n V X PV K x1 x2 = some (.inl (r, Vr, PVr, Kr))) : MWH l yL_revoke cL_revoke 5 (some .int) [(0, 10, 13, 19), (0, 10, 17, 13)] rmL_revoke D kA sz [.ref (a 0), vI x1, vI x2, .ref b] (zO kA b T :: (cs_X7 kA a V X (zpf pa K) ++ cs_P kA pa PV K)) (some (vI 0)) 24 2040 (fun w => ∃ pa1 : Nat → Nat → Nat, w = (zO kA b (up T 0 (nrm r)) :: (cs_X7 kA a Vr X (zpf pa1 Kr) ++ cs_P kA pa1 PVr Kr))) := by
  refine zHW (own := RL) rfl rfl (Nat.le_of_ble_eq_true rfl) ?_
  intro p e s m args below meth c ls Q hC hK hP hsz hl hret
  have hl : lv_has ls 5 [(0, .ref (a 0)), (1, vI x1), (2, vI x2), (3, .ref b)] := hl
  have hS : va_S (zG (zO kA b T :: (cs_X7 kA a V X (zpf pa K) ++ cs_P kA pa PV K)) s.heap.size) s.heap s.heap [] := va_S.rf
  have hA : ∀ q, s.heap.size ≤ q → zG (zO kA b T :: (cs_X7 kA a V X (zpf pa K) ++ cs_P kA pa PV K)) s.heap.size q := fun q h => Or.inr h
  have hF0 : ∀ q, zF (cs_X7 kA a V X (zpf pa K) ++ cs_P kA pa PV K) q → zG (zO kA b T :: (cs_X7 kA a V X (zpf pa K) ++ cs_P kA pa PV K)) s.heap.size q := fun q h => h.elim fun k h => h.elim fun e h => Or.inl ⟨k + 1, e, h⟩
  have hD : va_D (zG (zO kA b T :: (cs_X7 kA a V X (zpf pa K) ++ cs_P kA pa PV K)) s.heap.size) (zO kA b T :: (cs_X7 kA a V X (zpf pa K) ++ cs_P kA pa PV K)) := ⟨hD0.1, fun k q hk => Or.inl ⟨k, q.2, hk⟩⟩
  generalize hAe : zG (zO kA b T :: (cs_X7 kA a V X (zpf pa K) ++ cs_P kA pa PV K)) s.heap.size = A0 at hS hA hF0 hD hret
  refine lv_aload_n hC.1 hC.2.1 dL_revoke_0 rfl (lv_at hl 3 rfl) <| ziconst hC.1 hC.2.1 dL_revoke_1 <| lv_aload_n hC.1 hC.2.1 dL_revoke_2 rfl (lv_at hl 0 rfl) <| ziload_n hC.1 hC.2.1 dL_revoke_3 rfl (lv_at hl 1 rfl) <| ziload_n hC.1 hC.2.1 dL_revoke_4 rfl (lv_at hl 2 rfl) ?_
  refine zcVW (As := [vI x1, vI x2]) (rest := [vI 0, .ref b]) hC hK (met_X7_revoke l D kA a pa n V X PV K x1 x2 s.heap.size (zDtail hD0) hf) zwL_56 hS hF0 hA (zPtail hP) (q0 := 0) rfl rfl rfl rfl hl.1 rfl (Nat.le_of_ble_eq_true rfl) ⟨(Nat.le_of_ble_eq_true rfl), (Nat.le_of_ble_eq_true rfl)⟩ ⟨rfl, rfl⟩ ⟨(Nat.le_of_ble_eq_true rfl), (Nat.le_of_ble_eq_true rfl)⟩ dL_revoke_5 (fun w H locs hw hPw hDw _ hk1 hS => ?_)
  obtain ⟨hP, hD⟩ := zconsW hP hD hPw hDw hk1 (fun q h => h.elim (hF0 q) (hA q))
  obtain ⟨pa1, rfl⟩ := hw
  refine zi2n hC.1 hC.2.1 dL_revoke_8 ?_
  refine jlas hC hK hP hD hS (q0 := 0) rfl (Nat.le_of_ble_eq_true rfl) (by decide) rfl dL_revoke_9 (fun H locs hP hS => ?_)
  refine lv_goto (tgt := 21) hC.1 hC.2.1 dL_revoke_10 (by decide) ?_
  refine ziconst hC.1 hC.2.1 dL_revoke_21 ?_
  have hP : va_P D vwCl (zO kA b (up T 0 (nrm r)) :: (cs_X7 kA a Vr X (zpf pa1 Kr) ++ cs_P kA pa1 PVr Kr)) H := hP
  have hD : va_D A0 (zO kA b (up T 0 (nrm r)) :: (cs_X7 kA a Vr X (zpf pa1 Kr) ++ cs_P kA pa1 PVr Kr)) := zDany (C := fun t => (zO kA b t :: (cs_X7 kA a Vr X (zpf pa1 Kr) ++ cs_P kA pa1 PVr Kr))) T (fun _ => rfl) hD (up T 0 (nrm r))
  exact hret (Int32.ofInt 0) _ _ _ _ _ _ _ (Nat.le_of_ble_eq_true rfl) (Nat.le_of_ble_eq_true rfl) rfl ⟨pa1, rfl⟩ hP hD hS dL_revoke_22
set_option maxHeartbeats 1000000 in
set_option maxRecDepth 100000 in
theorem won_addGift (l : Launch) (D : va_G) (kA : Nat → ClassId) (a : Nat → Nat) (pa : Nat → Nat → Nat) (b : Nat) (n : Nat) (V X : Sz) (PV : Nat → Sz) (K : Nat) (T : Nat → Int) (x1 : Int) (x2 : Int) (x3 : Int) (x4 : Int) (sz : Nat) (hD0 : va_D (fun _ => True) (zO kA b T :: (cs_X7 kA a V X (zpf pa K) ++ cs_P kA pa PV K))) {r : Int} {Vr : Sz} {PVr : Nat → Sz} {Kr : Nat} (hf : f_X7_addGift n V X PV K x1 x2 x3 x4 = some (.inl (r, Vr, PVr, Kr))) : MWH l yL_addGift cL_addGift 7 (some .int) [(0, 14, 17, 19), (0, 14, 21, 13), (0, 14, 25, 54)] rmL_addGift D kA sz [.ref (a 0), vI x1, vI x2, vI x3, vI x4, .ref b] (zO kA b T :: (cs_X7 kA a V X (zpf pa K) ++ cs_P kA pa PV K)) (some (vI 0)) 24 2040 (fun w => ∃ pa1 : Nat → Nat → Nat, w = (zO kA b (up T 0 (nrm r)) :: (cs_X7 kA a Vr X (zpf pa1 Kr) ++ cs_P kA pa1 PVr Kr))) := by
  refine zHW (own := RL) rfl rfl (Nat.le_of_ble_eq_true rfl) ?_
  intro p e s m args below meth c ls Q hC hK hP hsz hl hret
  have hl : lv_has ls 7 [(0, .ref (a 0)), (1, vI x1), (2, vI x2), (3, vI x3), (4, vI x4), (5, .ref b)] := hl
  have hS : va_S (zG (zO kA b T :: (cs_X7 kA a V X (zpf pa K) ++ cs_P kA pa PV K)) s.heap.size) s.heap s.heap [] := va_S.rf
  have hA : ∀ q, s.heap.size ≤ q → zG (zO kA b T :: (cs_X7 kA a V X (zpf pa K) ++ cs_P kA pa PV K)) s.heap.size q := fun q h => Or.inr h
  have hF0 : ∀ q, zF (cs_X7 kA a V X (zpf pa K) ++ cs_P kA pa PV K) q → zG (zO kA b T :: (cs_X7 kA a V X (zpf pa K) ++ cs_P kA pa PV K)) s.heap.size q := fun q h => h.elim fun k h => h.elim fun e h => Or.inl ⟨k + 1, e, h⟩
  have hD : va_D (zG (zO kA b T :: (cs_X7 kA a V X (zpf pa K) ++ cs_P kA pa PV K)) s.heap.size) (zO kA b T :: (cs_X7 kA a V X (zpf pa K) ++ cs_P kA pa PV K)) := ⟨hD0.1, fun k q hk => Or.inl ⟨k, q.2, hk⟩⟩
  generalize hAe : zG (zO kA b T :: (cs_X7 kA a V X (zpf pa K) ++ cs_P kA pa PV K)) s.heap.size = A0 at hS hA hF0 hD hret
  refine lv_aload hC.1 hC.2.1 dL_addGift_0 (lv_at hl 5 rfl) <| ziconst hC.1 hC.2.1 dL_addGift_2 <| lv_aload_n hC.1 hC.2.1 dL_addGift_3 rfl (lv_at hl 0 rfl) <| ziload_n hC.1 hC.2.1 dL_addGift_4 rfl (lv_at hl 1 rfl) <| ziload_n hC.1 hC.2.1 dL_addGift_5 rfl (lv_at hl 2 rfl) <| ziload_n hC.1 hC.2.1 dL_addGift_6 rfl (lv_at hl 3 rfl) <| ziload hC.1 hC.2.1 dL_addGift_7 (lv_at hl 4 rfl) ?_
  refine zcVW (As := [vI x1, vI x2, vI x3, vI x4]) (rest := [vI 0, .ref b]) hC hK (met_X7_addGift l D kA a pa n V X PV K x1 x2 x3 x4 s.heap.size (zDtail hD0) hf) zwL_59 hS hF0 hA (zPtail hP) (q0 := 0) rfl rfl rfl rfl hl.1 rfl (Nat.le_of_ble_eq_true rfl) ⟨(Nat.le_of_ble_eq_true rfl), (Nat.le_of_ble_eq_true rfl)⟩ ⟨rfl, rfl⟩ ⟨(Nat.le_of_ble_eq_true rfl), (Nat.le_of_ble_eq_true rfl)⟩ dL_addGift_9 (fun w H locs hw hPw hDw _ hk1 hS => ?_)
  obtain ⟨hP, hD⟩ := zconsW hP hD hPw hDw hk1 (fun q h => h.elim (hF0 q) (hA q))
  obtain ⟨pa1, rfl⟩ := hw
  refine zi2n hC.1 hC.2.1 dL_addGift_12 ?_
  refine jlas hC hK hP hD hS (q0 := 0) rfl (Nat.le_of_ble_eq_true rfl) (by decide) rfl dL_addGift_13 (fun H locs hP hS => ?_)
  refine lv_goto (tgt := 29) hC.1 hC.2.1 dL_addGift_14 (by decide) ?_
  refine ziconst hC.1 hC.2.1 dL_addGift_29 ?_
  have hP : va_P D vwCl (zO kA b (up T 0 (nrm r)) :: (cs_X7 kA a Vr X (zpf pa1 Kr) ++ cs_P kA pa1 PVr Kr)) H := hP
  have hD : va_D A0 (zO kA b (up T 0 (nrm r)) :: (cs_X7 kA a Vr X (zpf pa1 Kr) ++ cs_P kA pa1 PVr Kr)) := zDany (C := fun t => (zO kA b t :: (cs_X7 kA a Vr X (zpf pa1 Kr) ++ cs_P kA pa1 PVr Kr))) T (fun _ => rfl) hD (up T 0 (nrm r))
  exact hret (Int32.ofInt 0) _ _ _ _ _ _ _ (Nat.le_of_ble_eq_true rfl) (Nat.le_of_ble_eq_true rfl) rfl ⟨pa1, rfl⟩ hP hD hS dL_addGift_30
set_option maxHeartbeats 1000000 in
set_option maxRecDepth 100000 in
theorem won_split (l : Launch) (D : va_G) (kA : Nat → ClassId) (a : Nat → Nat) (pa : Nat → Nat → Nat) (b : Nat) (n : Nat) (V X : Sz) (PV : Nat → Sz) (K : Nat) (T : Nat → Int) (x1 : Int) (x2 : Int) (x3 : Int) (x4 : Int) (sz : Nat) (hD0 : va_D (fun _ => True) (zO kA b T :: (cs_X7 kA a V X (zpf pa K) ++ cs_P kA pa PV K))) {r : Int} {Vr : Sz} {PVr : Nat → Sz} {Kr : Nat} (hf : f_X7_split n V X PV K x1 x2 x3 x4 = some (.inl (r, Vr, PVr, Kr))) : MWH l yL_split cL_split 7 (some .int) [(0, 14, 17, 19), (0, 14, 21, 13), (0, 14, 25, 54)] rmL_split D kA sz [.ref (a 0), vI x1, vI x2, vI x3, vI x4, .ref b] (zO kA b T :: (cs_X7 kA a V X (zpf pa K) ++ cs_P kA pa PV K)) (some (vI 0)) 24 2040 (fun w => ∃ pa1 : Nat → Nat → Nat, w = (zO kA b (up T 0 (nrm r)) :: (cs_X7 kA a Vr X (zpf pa1 Kr) ++ cs_P kA pa1 PVr Kr))) := by
  refine zHW (own := RL) rfl rfl (Nat.le_of_ble_eq_true rfl) ?_
  intro p e s m args below meth c ls Q hC hK hP hsz hl hret
  have hl : lv_has ls 7 [(0, .ref (a 0)), (1, vI x1), (2, vI x2), (3, vI x3), (4, vI x4), (5, .ref b)] := hl
  have hS : va_S (zG (zO kA b T :: (cs_X7 kA a V X (zpf pa K) ++ cs_P kA pa PV K)) s.heap.size) s.heap s.heap [] := va_S.rf
  have hA : ∀ q, s.heap.size ≤ q → zG (zO kA b T :: (cs_X7 kA a V X (zpf pa K) ++ cs_P kA pa PV K)) s.heap.size q := fun q h => Or.inr h
  have hF0 : ∀ q, zF (cs_X7 kA a V X (zpf pa K) ++ cs_P kA pa PV K) q → zG (zO kA b T :: (cs_X7 kA a V X (zpf pa K) ++ cs_P kA pa PV K)) s.heap.size q := fun q h => h.elim fun k h => h.elim fun e h => Or.inl ⟨k + 1, e, h⟩
  have hD : va_D (zG (zO kA b T :: (cs_X7 kA a V X (zpf pa K) ++ cs_P kA pa PV K)) s.heap.size) (zO kA b T :: (cs_X7 kA a V X (zpf pa K) ++ cs_P kA pa PV K)) := ⟨hD0.1, fun k q hk => Or.inl ⟨k, q.2, hk⟩⟩
  generalize hAe : zG (zO kA b T :: (cs_X7 kA a V X (zpf pa K) ++ cs_P kA pa PV K)) s.heap.size = A0 at hS hA hF0 hD hret
  refine lv_aload hC.1 hC.2.1 dL_split_0 (lv_at hl 5 rfl) <| ziconst hC.1 hC.2.1 dL_split_2 <| lv_aload_n hC.1 hC.2.1 dL_split_3 rfl (lv_at hl 0 rfl) <| ziload_n hC.1 hC.2.1 dL_split_4 rfl (lv_at hl 1 rfl) <| ziload_n hC.1 hC.2.1 dL_split_5 rfl (lv_at hl 2 rfl) <| ziload_n hC.1 hC.2.1 dL_split_6 rfl (lv_at hl 3 rfl) <| ziload hC.1 hC.2.1 dL_split_7 (lv_at hl 4 rfl) ?_
  refine zcVW (As := [vI x1, vI x2, vI x3, vI x4]) (rest := [vI 0, .ref b]) hC hK (met_X7_split l D kA a pa n V X PV K x1 x2 x3 x4 s.heap.size (zDtail hD0) hf) zwL_63 hS hF0 hA (zPtail hP) (q0 := 0) rfl rfl rfl rfl hl.1 rfl (Nat.le_of_ble_eq_true rfl) ⟨(Nat.le_of_ble_eq_true rfl), (Nat.le_of_ble_eq_true rfl)⟩ ⟨rfl, rfl⟩ ⟨(Nat.le_of_ble_eq_true rfl), (Nat.le_of_ble_eq_true rfl)⟩ dL_split_9 (fun w H locs hw hPw hDw _ hk1 hS => ?_)
  obtain ⟨hP, hD⟩ := zconsW hP hD hPw hDw hk1 (fun q h => h.elim (hF0 q) (hA q))
  obtain ⟨pa1, rfl⟩ := hw
  refine zi2n hC.1 hC.2.1 dL_split_12 ?_
  refine jlas hC hK hP hD hS (q0 := 0) rfl (Nat.le_of_ble_eq_true rfl) (by decide) rfl dL_split_13 (fun H locs hP hS => ?_)
  refine lv_goto (tgt := 29) hC.1 hC.2.1 dL_split_14 (by decide) ?_
  refine ziconst hC.1 hC.2.1 dL_split_29 ?_
  have hP : va_P D vwCl (zO kA b (up T 0 (nrm r)) :: (cs_X7 kA a Vr X (zpf pa1 Kr) ++ cs_P kA pa1 PVr Kr)) H := hP
  have hD : va_D A0 (zO kA b (up T 0 (nrm r)) :: (cs_X7 kA a Vr X (zpf pa1 Kr) ++ cs_P kA pa1 PVr Kr)) := zDany (C := fun t => (zO kA b t :: (cs_X7 kA a Vr X (zpf pa1 Kr) ++ cs_P kA pa1 PVr Kr))) T (fun _ => rfl) hD (up T 0 (nrm r))
  exact hret (Int32.ofInt 0) _ _ _ _ _ _ _ (Nat.le_of_ble_eq_true rfl) (Nat.le_of_ble_eq_true rfl) rfl ⟨pa1, rfl⟩ hP hD hS dL_split_30
set_option maxHeartbeats 1000000 in
set_option maxRecDepth 100000 in
theorem won_refund (l : Launch) (D : va_G) (kA : Nat → ClassId) (a : Nat → Nat) (pa : Nat → Nat → Nat) (b : Nat) (n : Nat) (V X : Sz) (PV : Nat → Sz) (K : Nat) (T : Nat → Int) (x1 : Int) (x2 : Int) (sz : Nat) (hD0 : va_D (fun _ => True) (zO kA b T :: (cs_X7 kA a V X (zpf pa K) ++ cs_P kA pa PV K))) {r : Int} {Vr : Sz} {PVr : Nat → Sz} {Kr : Nat} (hf : f_X7_refund n V X PV K x1 x2 = some (.inl (r, Vr, PVr, Kr))) : MWH l yL_refund cL_refund 5 (some .int) [(0, 10, 13, 19), (0, 10, 17, 13), (0, 10, 21, 54)] rmL_refund D kA sz [.ref (a 0), vI x1, vI x2, .ref b] (zO kA b T :: (cs_X7 kA a V X (zpf pa K) ++ cs_P kA pa PV K)) (some (vI 0)) 24 2040 (fun w => ∃ pa1 : Nat → Nat → Nat, w = (zO kA b (up T 0 (nrm r)) :: (cs_X7 kA a Vr X (zpf pa1 Kr) ++ cs_P kA pa1 PVr Kr))) := by
  refine zHW (own := RL) rfl rfl (Nat.le_of_ble_eq_true rfl) ?_
  intro p e s m args below meth c ls Q hC hK hP hsz hl hret
  have hl : lv_has ls 5 [(0, .ref (a 0)), (1, vI x1), (2, vI x2), (3, .ref b)] := hl
  have hS : va_S (zG (zO kA b T :: (cs_X7 kA a V X (zpf pa K) ++ cs_P kA pa PV K)) s.heap.size) s.heap s.heap [] := va_S.rf
  have hA : ∀ q, s.heap.size ≤ q → zG (zO kA b T :: (cs_X7 kA a V X (zpf pa K) ++ cs_P kA pa PV K)) s.heap.size q := fun q h => Or.inr h
  have hF0 : ∀ q, zF (cs_X7 kA a V X (zpf pa K) ++ cs_P kA pa PV K) q → zG (zO kA b T :: (cs_X7 kA a V X (zpf pa K) ++ cs_P kA pa PV K)) s.heap.size q := fun q h => h.elim fun k h => h.elim fun e h => Or.inl ⟨k + 1, e, h⟩
  have hD : va_D (zG (zO kA b T :: (cs_X7 kA a V X (zpf pa K) ++ cs_P kA pa PV K)) s.heap.size) (zO kA b T :: (cs_X7 kA a V X (zpf pa K) ++ cs_P kA pa PV K)) := ⟨hD0.1, fun k q hk => Or.inl ⟨k, q.2, hk⟩⟩
  generalize hAe : zG (zO kA b T :: (cs_X7 kA a V X (zpf pa K) ++ cs_P kA pa PV K)) s.heap.size = A0 at hS hA hF0 hD hret
  refine lv_aload_n hC.1 hC.2.1 dL_refund_0 rfl (lv_at hl 3 rfl) <| ziconst hC.1 hC.2.1 dL_refund_1 <| lv_aload_n hC.1 hC.2.1 dL_refund_2 rfl (lv_at hl 0 rfl) <| ziload_n hC.1 hC.2.1 dL_refund_3 rfl (lv_at hl 1 rfl) <| ziload_n hC.1 hC.2.1 dL_refund_4 rfl (lv_at hl 2 rfl) ?_
  refine zcVW (As := [vI x1, vI x2]) (rest := [vI 0, .ref b]) hC hK (met_X7_refund l D kA a pa n V X PV K x1 x2 s.heap.size (zDtail hD0) hf) zwL_66 hS hF0 hA (zPtail hP) (q0 := 0) rfl rfl rfl rfl hl.1 rfl (Nat.le_of_ble_eq_true rfl) ⟨(Nat.le_of_ble_eq_true rfl), (Nat.le_of_ble_eq_true rfl)⟩ ⟨rfl, rfl⟩ ⟨(Nat.le_of_ble_eq_true rfl), (Nat.le_of_ble_eq_true rfl)⟩ dL_refund_5 (fun w H locs hw hPw hDw _ hk1 hS => ?_)
  obtain ⟨hP, hD⟩ := zconsW hP hD hPw hDw hk1 (fun q h => h.elim (hF0 q) (hA q))
  obtain ⟨pa1, rfl⟩ := hw
  refine zi2n hC.1 hC.2.1 dL_refund_8 ?_
  refine jlas hC hK hP hD hS (q0 := 0) rfl (Nat.le_of_ble_eq_true rfl) (by decide) rfl dL_refund_9 (fun H locs hP hS => ?_)
  refine lv_goto (tgt := 25) hC.1 hC.2.1 dL_refund_10 (by decide) ?_
  refine ziconst hC.1 hC.2.1 dL_refund_25 ?_
  have hP : va_P D vwCl (zO kA b (up T 0 (nrm r)) :: (cs_X7 kA a Vr X (zpf pa1 Kr) ++ cs_P kA pa1 PVr Kr)) H := hP
  have hD : va_D A0 (zO kA b (up T 0 (nrm r)) :: (cs_X7 kA a Vr X (zpf pa1 Kr) ++ cs_P kA pa1 PVr Kr)) := zDany (C := fun t => (zO kA b t :: (cs_X7 kA a Vr X (zpf pa1 Kr) ++ cs_P kA pa1 PVr Kr))) T (fun _ => rfl) hD (up T 0 (nrm r))
  exact hret (Int32.ofInt 0) _ _ _ _ _ _ _ (Nat.le_of_ble_eq_true rfl) (Nat.le_of_ble_eq_true rfl) rfl ⟨pa1, rfl⟩ hP hD hS dL_refund_26
set_option maxHeartbeats 1000000 in
set_option maxRecDepth 100000 in
theorem won_setTaxLimit (l : Launch) (D : va_G) (kA : Nat → ClassId) (a : Nat → Nat) (pa : Nat → Nat → Nat) (b : Nat) (n : Nat) (V X : Sz) (PV : Nat → Sz) (K : Nat) (T : Nat → Int) (x1 : Int) (x2 : Int) (sz : Nat) (hD0 : va_D (fun _ => True) (zO kA b T :: (cs_X7 kA a V X (zpf pa K) ++ cs_P kA pa PV K))) {r : Int} {Vr : Sz} {PVr : Nat → Sz} {Kr : Nat} (hf : f_X7_setTaxLimit n V X PV K x1 x2 = some (.inl (r, Vr, PVr, Kr))) : MWH l yL_setTaxLimit cL_setTaxLimit 5 (some .int) [(0, 10, 13, 19), (0, 10, 17, 13)] rmL_setTaxLimit D kA sz [.ref (a 0), vI x1, vI x2, .ref b] (zO kA b T :: (cs_X7 kA a V X (zpf pa K) ++ cs_P kA pa PV K)) (some (vI 0)) 24 2040 (fun w => ∃ pa1 : Nat → Nat → Nat, w = (zO kA b (up T 0 (nrm r)) :: (cs_X7 kA a Vr X (zpf pa1 Kr) ++ cs_P kA pa1 PVr Kr))) := by
  refine zHW (own := RL) rfl rfl (Nat.le_of_ble_eq_true rfl) ?_
  intro p e s m args below meth c ls Q hC hK hP hsz hl hret
  have hl : lv_has ls 5 [(0, .ref (a 0)), (1, vI x1), (2, vI x2), (3, .ref b)] := hl
  have hS : va_S (zG (zO kA b T :: (cs_X7 kA a V X (zpf pa K) ++ cs_P kA pa PV K)) s.heap.size) s.heap s.heap [] := va_S.rf
  have hA : ∀ q, s.heap.size ≤ q → zG (zO kA b T :: (cs_X7 kA a V X (zpf pa K) ++ cs_P kA pa PV K)) s.heap.size q := fun q h => Or.inr h
  have hF0 : ∀ q, zF (cs_X7 kA a V X (zpf pa K) ++ cs_P kA pa PV K) q → zG (zO kA b T :: (cs_X7 kA a V X (zpf pa K) ++ cs_P kA pa PV K)) s.heap.size q := fun q h => h.elim fun k h => h.elim fun e h => Or.inl ⟨k + 1, e, h⟩
  have hD : va_D (zG (zO kA b T :: (cs_X7 kA a V X (zpf pa K) ++ cs_P kA pa PV K)) s.heap.size) (zO kA b T :: (cs_X7 kA a V X (zpf pa K) ++ cs_P kA pa PV K)) := ⟨hD0.1, fun k q hk => Or.inl ⟨k, q.2, hk⟩⟩
  generalize hAe : zG (zO kA b T :: (cs_X7 kA a V X (zpf pa K) ++ cs_P kA pa PV K)) s.heap.size = A0 at hS hA hF0 hD hret
  refine lv_aload_n hC.1 hC.2.1 dL_setTaxLimit_0 rfl (lv_at hl 3 rfl) <| ziconst hC.1 hC.2.1 dL_setTaxLimit_1 <| lv_aload_n hC.1 hC.2.1 dL_setTaxLimit_2 rfl (lv_at hl 0 rfl) <| ziload_n hC.1 hC.2.1 dL_setTaxLimit_3 rfl (lv_at hl 1 rfl) <| ziload_n hC.1 hC.2.1 dL_setTaxLimit_4 rfl (lv_at hl 2 rfl) ?_
  refine zcVW (As := [vI x1, vI x2]) (rest := [vI 0, .ref b]) hC hK (met_X7_setTaxLimit l D kA a pa n V X PV K x1 x2 s.heap.size (zDtail hD0) hf) zwL_69 hS hF0 hA (zPtail hP) (q0 := 0) rfl rfl rfl rfl hl.1 rfl (Nat.le_of_ble_eq_true rfl) ⟨(Nat.le_of_ble_eq_true rfl), (Nat.le_of_ble_eq_true rfl)⟩ ⟨rfl, rfl⟩ ⟨(Nat.le_of_ble_eq_true rfl), (Nat.le_of_ble_eq_true rfl)⟩ dL_setTaxLimit_5 (fun w H locs hw hPw hDw _ hk1 hS => ?_)
  obtain ⟨hP, hD⟩ := zconsW hP hD hPw hDw hk1 (fun q h => h.elim (hF0 q) (hA q))
  obtain ⟨pa1, rfl⟩ := hw
  refine zi2n hC.1 hC.2.1 dL_setTaxLimit_8 ?_
  refine jlas hC hK hP hD hS (q0 := 0) rfl (Nat.le_of_ble_eq_true rfl) (by decide) rfl dL_setTaxLimit_9 (fun H locs hP hS => ?_)
  refine lv_goto (tgt := 21) hC.1 hC.2.1 dL_setTaxLimit_10 (by decide) ?_
  refine ziconst hC.1 hC.2.1 dL_setTaxLimit_21 ?_
  have hP : va_P D vwCl (zO kA b (up T 0 (nrm r)) :: (cs_X7 kA a Vr X (zpf pa1 Kr) ++ cs_P kA pa1 PVr Kr)) H := hP
  have hD : va_D A0 (zO kA b (up T 0 (nrm r)) :: (cs_X7 kA a Vr X (zpf pa1 Kr) ++ cs_P kA pa1 PVr Kr)) := zDany (C := fun t => (zO kA b t :: (cs_X7 kA a Vr X (zpf pa1 Kr) ++ cs_P kA pa1 PVr Kr))) T (fun _ => rfl) hD (up T 0 (nrm r))
  exact hret (Int32.ofInt 0) _ _ _ _ _ _ _ (Nat.le_of_ble_eq_true rfl) (Nat.le_of_ble_eq_true rfl) rfl ⟨pa1, rfl⟩ hP hD hS dL_setTaxLimit_22
set_option maxHeartbeats 1000000 in
set_option maxRecDepth 100000 in
theorem won_setRate (l : Launch) (D : va_G) (kA : Nat → ClassId) (a : Nat → Nat) (pa : Nat → Nat → Nat) (b : Nat) (n : Nat) (V X : Sz) (PV : Nat → Sz) (K : Nat) (T : Nat → Int) (x1 : Int) (sz : Nat) (hD0 : va_D (fun _ => True) (zO kA b T :: (cs_X7 kA a V X (zpf pa K) ++ cs_P kA pa PV K))) {r : Int} {Vr : Sz} {PVr : Nat → Sz} {Kr : Nat} (hf : f_X7_setRate n V X PV K x1 = some (.inl (r, Vr, PVr, Kr))) : MWH l yL_setRate cL_setRate 4 (some .int) [(0, 9, 12, 13)] rmL_setRate D kA sz [.ref (a 0), vI x1, .ref b] (zO kA b T :: (cs_X7 kA a V X (zpf pa K) ++ cs_P kA pa PV K)) (some (vI 0)) 24 2040 (fun w => ∃ pa1 : Nat → Nat → Nat, w = (zO kA b (up T 0 (nrm r)) :: (cs_X7 kA a Vr X (zpf pa1 Kr) ++ cs_P kA pa1 PVr Kr))) := by
  refine zHW (own := RL) rfl rfl (Nat.le_of_ble_eq_true rfl) ?_
  intro p e s m args below meth c ls Q hC hK hP hsz hl hret
  have hl : lv_has ls 4 [(0, .ref (a 0)), (1, vI x1), (2, .ref b)] := hl
  have hS : va_S (zG (zO kA b T :: (cs_X7 kA a V X (zpf pa K) ++ cs_P kA pa PV K)) s.heap.size) s.heap s.heap [] := va_S.rf
  have hA : ∀ q, s.heap.size ≤ q → zG (zO kA b T :: (cs_X7 kA a V X (zpf pa K) ++ cs_P kA pa PV K)) s.heap.size q := fun q h => Or.inr h
  have hF0 : ∀ q, zF (cs_X7 kA a V X (zpf pa K) ++ cs_P kA pa PV K) q → zG (zO kA b T :: (cs_X7 kA a V X (zpf pa K) ++ cs_P kA pa PV K)) s.heap.size q := fun q h => h.elim fun k h => h.elim fun e h => Or.inl ⟨k + 1, e, h⟩
  have hD : va_D (zG (zO kA b T :: (cs_X7 kA a V X (zpf pa K) ++ cs_P kA pa PV K)) s.heap.size) (zO kA b T :: (cs_X7 kA a V X (zpf pa K) ++ cs_P kA pa PV K)) := ⟨hD0.1, fun k q hk => Or.inl ⟨k, q.2, hk⟩⟩
  generalize hAe : zG (zO kA b T :: (cs_X7 kA a V X (zpf pa K) ++ cs_P kA pa PV K)) s.heap.size = A0 at hS hA hF0 hD hret
  refine lv_aload_n hC.1 hC.2.1 dL_setRate_0 rfl (lv_at hl 2 rfl) <| ziconst hC.1 hC.2.1 dL_setRate_1 <| lv_aload_n hC.1 hC.2.1 dL_setRate_2 rfl (lv_at hl 0 rfl) <| ziload_n hC.1 hC.2.1 dL_setRate_3 rfl (lv_at hl 1 rfl) ?_
  refine zcVW (As := [vI x1]) (rest := [vI 0, .ref b]) hC hK (met_X7_setRate l D kA a pa n V X PV K x1 s.heap.size (zDtail hD0) hf) zwL_72 hS hF0 hA (zPtail hP) (q0 := 0) rfl rfl rfl rfl hl.1 rfl (Nat.le_of_ble_eq_true rfl) ⟨(Nat.le_of_ble_eq_true rfl), (Nat.le_of_ble_eq_true rfl)⟩ ⟨rfl, rfl⟩ ⟨(Nat.le_of_ble_eq_true rfl), (Nat.le_of_ble_eq_true rfl)⟩ dL_setRate_4 (fun w H locs hw hPw hDw _ hk1 hS => ?_)
  obtain ⟨hP, hD⟩ := zconsW hP hD hPw hDw hk1 (fun q h => h.elim (hF0 q) (hA q))
  obtain ⟨pa1, rfl⟩ := hw
  refine zi2n hC.1 hC.2.1 dL_setRate_7 ?_
  refine jlas hC hK hP hD hS (q0 := 0) rfl (Nat.le_of_ble_eq_true rfl) (by decide) rfl dL_setRate_8 (fun H locs hP hS => ?_)
  refine lv_goto (tgt := 15) hC.1 hC.2.1 dL_setRate_9 (by decide) ?_
  refine ziconst hC.1 hC.2.1 dL_setRate_15 ?_
  have hP : va_P D vwCl (zO kA b (up T 0 (nrm r)) :: (cs_X7 kA a Vr X (zpf pa1 Kr) ++ cs_P kA pa1 PVr Kr)) H := hP
  have hD : va_D A0 (zO kA b (up T 0 (nrm r)) :: (cs_X7 kA a Vr X (zpf pa1 Kr) ++ cs_P kA pa1 PVr Kr)) := zDany (C := fun t => (zO kA b t :: (cs_X7 kA a Vr X (zpf pa1 Kr) ++ cs_P kA pa1 PVr Kr))) T (fun _ => rfl) hD (up T 0 (nrm r))
  exact hret (Int32.ofInt 0) _ _ _ _ _ _ _ (Nat.le_of_ble_eq_true rfl) (Nat.le_of_ble_eq_true rfl) rfl ⟨pa1, rfl⟩ hP hD hS dL_setRate_16
set_option maxHeartbeats 1000000 in
set_option maxRecDepth 100000 in
theorem won_claim (l : Launch) (D : va_G) (kA : Nat → ClassId) (a : Nat → Nat) (pa : Nat → Nat → Nat) (b : Nat) (n : Nat) (V X : Sz) (PV : Nat → Sz) (K : Nat) (T : Nat → Int) (x1 : Int) (sz : Nat) (hD0 : va_D (fun _ => True) (zO kA b T :: (cs_X7 kA a V X (zpf pa K) ++ cs_P kA pa PV K))) {r : Int} {Vr : Sz} {PVr : Nat → Sz} {Kr : Nat} (hf : f_X7_claim n V X PV K x1 = some (.inl (r, Vr, PVr, Kr))) : MWH l yL_claim cL_claim 4 (some .int) [(0, 9, 12, 13), (0, 9, 15, 54)] rmL_claim D kA sz [.ref (a 0), vI x1, .ref b] (zO kA b T :: (cs_X7 kA a V X (zpf pa K) ++ cs_P kA pa PV K)) (some (vI 0)) 24 2040 (fun w => ∃ pa1 : Nat → Nat → Nat, w = (zO kA b (up T 0 (nrm r)) :: (cs_X7 kA a Vr X (zpf pa1 Kr) ++ cs_P kA pa1 PVr Kr))) := by
  refine zHW (own := RL) rfl rfl (Nat.le_of_ble_eq_true rfl) ?_
  intro p e s m args below meth c ls Q hC hK hP hsz hl hret
  have hl : lv_has ls 4 [(0, .ref (a 0)), (1, vI x1), (2, .ref b)] := hl
  have hS : va_S (zG (zO kA b T :: (cs_X7 kA a V X (zpf pa K) ++ cs_P kA pa PV K)) s.heap.size) s.heap s.heap [] := va_S.rf
  have hA : ∀ q, s.heap.size ≤ q → zG (zO kA b T :: (cs_X7 kA a V X (zpf pa K) ++ cs_P kA pa PV K)) s.heap.size q := fun q h => Or.inr h
  have hF0 : ∀ q, zF (cs_X7 kA a V X (zpf pa K) ++ cs_P kA pa PV K) q → zG (zO kA b T :: (cs_X7 kA a V X (zpf pa K) ++ cs_P kA pa PV K)) s.heap.size q := fun q h => h.elim fun k h => h.elim fun e h => Or.inl ⟨k + 1, e, h⟩
  have hD : va_D (zG (zO kA b T :: (cs_X7 kA a V X (zpf pa K) ++ cs_P kA pa PV K)) s.heap.size) (zO kA b T :: (cs_X7 kA a V X (zpf pa K) ++ cs_P kA pa PV K)) := ⟨hD0.1, fun k q hk => Or.inl ⟨k, q.2, hk⟩⟩
  generalize hAe : zG (zO kA b T :: (cs_X7 kA a V X (zpf pa K) ++ cs_P kA pa PV K)) s.heap.size = A0 at hS hA hF0 hD hret
  refine lv_aload_n hC.1 hC.2.1 dL_claim_0 rfl (lv_at hl 2 rfl) <| ziconst hC.1 hC.2.1 dL_claim_1 <| lv_aload_n hC.1 hC.2.1 dL_claim_2 rfl (lv_at hl 0 rfl) <| ziload_n hC.1 hC.2.1 dL_claim_3 rfl (lv_at hl 1 rfl) ?_
  refine zcVW (As := [vI x1]) (rest := [vI 0, .ref b]) hC hK (met_X7_claim l D kA a pa n V X PV K x1 s.heap.size (zDtail hD0) hf) zwL_75 hS hF0 hA (zPtail hP) (q0 := 0) rfl rfl rfl rfl hl.1 rfl (Nat.le_of_ble_eq_true rfl) ⟨(Nat.le_of_ble_eq_true rfl), (Nat.le_of_ble_eq_true rfl)⟩ ⟨rfl, rfl⟩ ⟨(Nat.le_of_ble_eq_true rfl), (Nat.le_of_ble_eq_true rfl)⟩ dL_claim_4 (fun w H locs hw hPw hDw _ hk1 hS => ?_)
  obtain ⟨hP, hD⟩ := zconsW hP hD hPw hDw hk1 (fun q h => h.elim (hF0 q) (hA q))
  obtain ⟨pa1, rfl⟩ := hw
  refine zi2n hC.1 hC.2.1 dL_claim_7 ?_
  refine jlas hC hK hP hD hS (q0 := 0) rfl (Nat.le_of_ble_eq_true rfl) (by decide) rfl dL_claim_8 (fun H locs hP hS => ?_)
  refine lv_goto (tgt := 18) hC.1 hC.2.1 dL_claim_9 (by decide) ?_
  refine ziconst hC.1 hC.2.1 dL_claim_18 ?_
  have hP : va_P D vwCl (zO kA b (up T 0 (nrm r)) :: (cs_X7 kA a Vr X (zpf pa1 Kr) ++ cs_P kA pa1 PVr Kr)) H := hP
  have hD : va_D A0 (zO kA b (up T 0 (nrm r)) :: (cs_X7 kA a Vr X (zpf pa1 Kr) ++ cs_P kA pa1 PVr Kr)) := zDany (C := fun t => (zO kA b t :: (cs_X7 kA a Vr X (zpf pa1 Kr) ++ cs_P kA pa1 PVr Kr))) T (fun _ => rfl) hD (up T 0 (nrm r))
  exact hret (Int32.ofInt 0) _ _ _ _ _ _ _ (Nat.le_of_ble_eq_true rfl) (Nat.le_of_ble_eq_true rfl) rfl ⟨pa1, rfl⟩ hP hD hS dL_claim_19
set_option maxHeartbeats 1000000 in
set_option maxRecDepth 100000 in
theorem won_claimed (l : Launch) (D : va_G) (kA : Nat → ClassId) (a : Nat → Nat) (pf : Nat → Option Nat) (b : Nat) (V X : Sz) (T : Nat → Int) (x1 : Int) (x2 : Int) (hD0 : va_D (fun _ => True) (zO kA b T :: cs_X7 kA a V X pf)) {r : Int} (hf : f_X7_claimed V X x1 x2 = some (.inl r)) : MZH l yL_claimed cL_claimed 5 (some .int) [(0, 10, 13, 19), (0, 10, 17, 13)] rmL_claimed D kA [.ref (a 0), vI x1, vI x2, .ref b] (zO kA b T :: cs_X7 kA a V X pf) (zO kA b (up T 0 (nrm r)) :: cs_X7 kA a V X pf) (some (vI 0)) := by
  refine zHI (own := RL) rfl rfl (Nat.le_of_ble_eq_true rfl) ?_
  intro p e s m args below meth c ls Q hC hK hP hl hret
  have hl : lv_has ls 5 [(0, .ref (a 0)), (1, vI x1), (2, vI x2), (3, .ref b)] := hl
  have hS : va_S (zF (zO kA b T :: cs_X7 kA a V X pf)) s.heap s.heap [] := va_S.rf
  have hD0 : va_D (zF (zO kA b T :: cs_X7 kA a V X pf)) (zO kA b T :: cs_X7 kA a V X pf) := ⟨hD0.1, fun k q hk => ⟨k, q.2, hk⟩⟩
  generalize hAe : zF (zO kA b T :: cs_X7 kA a V X pf) = A0 at hS hD0 hret
  have hD : ∀ w : Sz × Sz, va_D A0 (zO kA b T :: cs_X7 kA a w.1 w.2 pf) := zDany (C := fun w : Sz × Sz => (zO kA b T :: cs_X7 kA a w.1 w.2 pf)) (V, X) (fun _ => rfl) hD0
  refine lv_aload_n hC.1 hC.2.1 dL_claimed_0 rfl (lv_at hl 3 rfl) <| ziconst hC.1 hC.2.1 dL_claimed_1 <| lv_aload_n hC.1 hC.2.1 dL_claimed_2 rfl (lv_at hl 0 rfl) <| ziload_n hC.1 hC.2.1 dL_claimed_3 rfl (lv_at hl 1 rfl) <| ziload_n hC.1 hC.2.1 dL_claimed_4 rfl (lv_at hl 2 rfl) ?_
  refine zcVP (As := [vI x1, vI x2]) (rest := [vI 0, .ref b]) hC hK (met_X7_claimed l D kA a pf V X x1 x2 hf) zwL_78 (zPtail hP) (q0 := 0) rfl rfl rfl rfl hl.1 rfl (Nat.le_of_ble_eq_true rfl) ⟨(Nat.le_of_ble_eq_true rfl), (Nat.le_of_ble_eq_true rfl)⟩ ⟨rfl, rfl⟩ ⟨Nat.le_refl _, Nat.le_refl _⟩ dL_claimed_5 ?_
  have hD := hD (V, X)
  refine zi2n hC.1 hC.2.1 dL_claimed_8 ?_
  refine jlas hC hK hP hD hS (q0 := 0) rfl (Nat.le_of_ble_eq_true rfl) (by decide) rfl dL_claimed_9 (fun H locs hP hS => ?_)
  refine lv_goto (tgt := 21) hC.1 hC.2.1 dL_claimed_10 (by decide) ?_
  refine ziconst hC.1 hC.2.1 dL_claimed_21 ?_
  exact hret (Int32.ofInt 0) _ _ _ _ rfl hP hS dL_claimed_22
set_option maxHeartbeats 1000000 in
set_option maxRecDepth 100000 in
theorem won_claimable (l : Launch) (D : va_G) (kA : Nat → ClassId) (a : Nat → Nat) (pf : Nat → Option Nat) (b : Nat) (n : Nat) (V X : Sz) (T : Nat → Int) (x1 : Int) (x2 : Int) (hD0 : va_D (fun _ => True) (zO kA b T :: cs_X7 kA a V X pf)) {r : Int} (hf : f_X7_claimable n V X x1 x2 = some (.inl r)) : MZH l yL_claimable cL_claimable 5 (some .int) [(0, 10, 13, 13)] rmL_claimable D kA [.ref (a 0), vI x1, vI x2, .ref b] (zO kA b T :: cs_X7 kA a V X pf) (zO kA b (up T 0 (nrm r)) :: cs_X7 kA a V X pf) (some (vI 0)) := by
  refine zHI (own := RL) rfl rfl (Nat.le_of_ble_eq_true rfl) ?_
  intro p e s m args below meth c ls Q hC hK hP hl hret
  have hl : lv_has ls 5 [(0, .ref (a 0)), (1, vI x1), (2, vI x2), (3, .ref b)] := hl
  have hS : va_S (zF (zO kA b T :: cs_X7 kA a V X pf)) s.heap s.heap [] := va_S.rf
  have hD0 : va_D (zF (zO kA b T :: cs_X7 kA a V X pf)) (zO kA b T :: cs_X7 kA a V X pf) := ⟨hD0.1, fun k q hk => ⟨k, q.2, hk⟩⟩
  generalize hAe : zF (zO kA b T :: cs_X7 kA a V X pf) = A0 at hS hD0 hret
  have hD : ∀ w : Sz × Sz, va_D A0 (zO kA b T :: cs_X7 kA a w.1 w.2 pf) := zDany (C := fun w : Sz × Sz => (zO kA b T :: cs_X7 kA a w.1 w.2 pf)) (V, X) (fun _ => rfl) hD0
  refine lv_aload_n hC.1 hC.2.1 dL_claimable_0 rfl (lv_at hl 3 rfl) <| ziconst hC.1 hC.2.1 dL_claimable_1 <| lv_aload_n hC.1 hC.2.1 dL_claimable_2 rfl (lv_at hl 0 rfl) <| ziload_n hC.1 hC.2.1 dL_claimable_3 rfl (lv_at hl 1 rfl) <| ziload_n hC.1 hC.2.1 dL_claimable_4 rfl (lv_at hl 2 rfl) ?_
  refine zcVP (As := [vI x1, vI x2]) (rest := [vI 0, .ref b]) hC hK (met_X7_claimable l D kA a pf n V X x1 x2 hf) zwL_81 (zPtail hP) (q0 := 0) rfl rfl rfl rfl hl.1 rfl (Nat.le_of_ble_eq_true rfl) ⟨(Nat.le_of_ble_eq_true rfl), (Nat.le_of_ble_eq_true rfl)⟩ ⟨rfl, rfl⟩ ⟨Nat.le_refl _, Nat.le_refl _⟩ dL_claimable_5 ?_
  have hD := hD (V, X)
  refine zi2n hC.1 hC.2.1 dL_claimable_8 ?_
  refine jlas hC hK hP hD hS (q0 := 0) rfl (Nat.le_of_ble_eq_true rfl) (by decide) rfl dL_claimable_9 (fun H locs hP hS => ?_)
  refine lv_goto (tgt := 17) hC.1 hC.2.1 dL_claimable_10 (by decide) ?_
  refine ziconst hC.1 hC.2.1 dL_claimable_17 ?_
  exact hret (Int32.ofInt 0) _ _ _ _ rfl hP hS dL_claimable_18
set_option maxHeartbeats 1000000 in
set_option maxRecDepth 100000 in
theorem won_lost (l : Launch) (D : va_G) (kA : Nat → ClassId) (a : Nat → Nat) (pf : Nat → Option Nat) (b : Nat) (n : Nat) (V X : Sz) (T : Nat → Int) (x1 : Int) (hD0 : va_D (fun _ => True) (zO kA b T :: cs_X7 kA a V X pf)) {r : Int} (hf : f_X7_lost n V X x1 = some (.inl r)) : MZH l yL_lost cL_lost 4 (some .int) [(0, 9, 12, 13)] rmL_lost D kA [.ref (a 0), vI x1, .ref b] (zO kA b T :: cs_X7 kA a V X pf) (zO kA b (up T 0 (nrm r)) :: cs_X7 kA a V X pf) (some (vI 0)) := by
  refine zHI (own := RL) rfl rfl (Nat.le_of_ble_eq_true rfl) ?_
  intro p e s m args below meth c ls Q hC hK hP hl hret
  have hl : lv_has ls 4 [(0, .ref (a 0)), (1, vI x1), (2, .ref b)] := hl
  have hS : va_S (zF (zO kA b T :: cs_X7 kA a V X pf)) s.heap s.heap [] := va_S.rf
  have hD0 : va_D (zF (zO kA b T :: cs_X7 kA a V X pf)) (zO kA b T :: cs_X7 kA a V X pf) := ⟨hD0.1, fun k q hk => ⟨k, q.2, hk⟩⟩
  generalize hAe : zF (zO kA b T :: cs_X7 kA a V X pf) = A0 at hS hD0 hret
  have hD : ∀ w : Sz × Sz, va_D A0 (zO kA b T :: cs_X7 kA a w.1 w.2 pf) := zDany (C := fun w : Sz × Sz => (zO kA b T :: cs_X7 kA a w.1 w.2 pf)) (V, X) (fun _ => rfl) hD0
  refine lv_aload_n hC.1 hC.2.1 dL_lost_0 rfl (lv_at hl 2 rfl) <| ziconst hC.1 hC.2.1 dL_lost_1 <| lv_aload_n hC.1 hC.2.1 dL_lost_2 rfl (lv_at hl 0 rfl) <| ziload_n hC.1 hC.2.1 dL_lost_3 rfl (lv_at hl 1 rfl) ?_
  refine zcVP (As := [vI x1]) (rest := [vI 0, .ref b]) hC hK (met_X7_lost l D kA a pf n V X x1 hf) zwL_85 (zPtail hP) (q0 := 0) rfl rfl rfl rfl hl.1 rfl (Nat.le_of_ble_eq_true rfl) ⟨(Nat.le_of_ble_eq_true rfl), (Nat.le_of_ble_eq_true rfl)⟩ ⟨rfl, rfl⟩ ⟨Nat.le_refl _, Nat.le_refl _⟩ dL_lost_4 ?_
  have hD := hD (V, X)
  refine zi2n hC.1 hC.2.1 dL_lost_7 ?_
  refine jlas hC hK hP hD hS (q0 := 0) rfl (Nat.le_of_ble_eq_true rfl) (by decide) rfl dL_lost_8 (fun H locs hP hS => ?_)
  refine lv_goto (tgt := 15) hC.1 hC.2.1 dL_lost_9 (by decide) ?_
  refine ziconst hC.1 hC.2.1 dL_lost_15 ?_
  exact hret (Int32.ofInt 0) _ _ _ _ rfl hP hS dL_lost_16
set_option maxHeartbeats 1000000 in
set_option maxRecDepth 100000 in
theorem won_limitedYears (l : Launch) (D : va_G) (kA : Nat → ClassId) (a : Nat → Nat) (pf : Nat → Option Nat) (b : Nat) (n : Nat) (V X : Sz) (T : Nat → Int) (x1 : Int) (hD0 : va_D (fun _ => True) (zO kA b T :: cs_X7 kA a V X pf)) {r : Int} (hf : f_X7_limitedYears n V X x1 = some (.inl r)) : MZH l yL_limitedYears cL_limitedYears 4 (some .int) [(0, 9, 12, 19)] rmL_limitedYears D kA [.ref (a 0), vI x1, .ref b] (zO kA b T :: cs_X7 kA a V X pf) (zO kA b (up T 0 (nrm r)) :: cs_X7 kA a V X pf) (some (vI 0)) := by
  refine zHI (own := RL) rfl rfl (Nat.le_of_ble_eq_true rfl) ?_
  intro p e s m args below meth c ls Q hC hK hP hl hret
  have hl : lv_has ls 4 [(0, .ref (a 0)), (1, vI x1), (2, .ref b)] := hl
  have hS : va_S (zF (zO kA b T :: cs_X7 kA a V X pf)) s.heap s.heap [] := va_S.rf
  have hD0 : va_D (zF (zO kA b T :: cs_X7 kA a V X pf)) (zO kA b T :: cs_X7 kA a V X pf) := ⟨hD0.1, fun k q hk => ⟨k, q.2, hk⟩⟩
  generalize hAe : zF (zO kA b T :: cs_X7 kA a V X pf) = A0 at hS hD0 hret
  have hD : ∀ w : Sz × Sz, va_D A0 (zO kA b T :: cs_X7 kA a w.1 w.2 pf) := zDany (C := fun w : Sz × Sz => (zO kA b T :: cs_X7 kA a w.1 w.2 pf)) (V, X) (fun _ => rfl) hD0
  refine lv_aload_n hC.1 hC.2.1 dL_limitedYears_0 rfl (lv_at hl 2 rfl) <| ziconst hC.1 hC.2.1 dL_limitedYears_1 <| lv_aload_n hC.1 hC.2.1 dL_limitedYears_2 rfl (lv_at hl 0 rfl) <| ziload_n hC.1 hC.2.1 dL_limitedYears_3 rfl (lv_at hl 1 rfl) ?_
  refine zcVP (As := [vI x1]) (rest := [vI 0, .ref b]) hC hK (met_X7_limitedYears l D kA a pf n V X x1 hf) zwL_88 (zPtail hP) (q0 := 0) rfl rfl rfl rfl hl.1 rfl (Nat.le_of_ble_eq_true rfl) ⟨(Nat.le_of_ble_eq_true rfl), (Nat.le_of_ble_eq_true rfl)⟩ ⟨rfl, rfl⟩ ⟨Nat.le_refl _, Nat.le_refl _⟩ dL_limitedYears_4 ?_
  have hD := hD (V, X)
  refine zi2n hC.1 hC.2.1 dL_limitedYears_7 ?_
  refine jlas hC hK hP hD hS (q0 := 0) rfl (Nat.le_of_ble_eq_true rfl) (by decide) rfl dL_limitedYears_8 (fun H locs hP hS => ?_)
  refine lv_goto (tgt := 15) hC.1 hC.2.1 dL_limitedYears_9 (by decide) ?_
  refine ziconst hC.1 hC.2.1 dL_limitedYears_15 ?_
  exact hret (Int32.ofInt 0) _ _ _ _ rfl hP hS dL_limitedYears_16
set_option maxHeartbeats 1000000 in
set_option maxRecDepth 100000 in
theorem won_expiring (l : Launch) (D : va_G) (kA : Nat → ClassId) (a : Nat → Nat) (pf : Nat → Option Nat) (b : Nat) (n : Nat) (V X : Sz) (T : Nat → Int) (x1 : Int) (x2 : Int) (hD0 : va_D (fun _ => True) (zO kA b T :: cs_X7 kA a V X pf)) {r : Int} (hf : f_X7_expiring n V X x1 x2 = some (.inl r)) : MZH l yL_expiring cL_expiring 5 (some .int) [(0, 10, 13, 13)] rmL_expiring D kA [.ref (a 0), vI x1, vI x2, .ref b] (zO kA b T :: cs_X7 kA a V X pf) (zO kA b (up T 0 (nrm r)) :: cs_X7 kA a V X pf) (some (vI 0)) := by
  refine zHI (own := RL) rfl rfl (Nat.le_of_ble_eq_true rfl) ?_
  intro p e s m args below meth c ls Q hC hK hP hl hret
  have hl : lv_has ls 5 [(0, .ref (a 0)), (1, vI x1), (2, vI x2), (3, .ref b)] := hl
  have hS : va_S (zF (zO kA b T :: cs_X7 kA a V X pf)) s.heap s.heap [] := va_S.rf
  have hD0 : va_D (zF (zO kA b T :: cs_X7 kA a V X pf)) (zO kA b T :: cs_X7 kA a V X pf) := ⟨hD0.1, fun k q hk => ⟨k, q.2, hk⟩⟩
  generalize hAe : zF (zO kA b T :: cs_X7 kA a V X pf) = A0 at hS hD0 hret
  have hD : ∀ w : Sz × Sz, va_D A0 (zO kA b T :: cs_X7 kA a w.1 w.2 pf) := zDany (C := fun w : Sz × Sz => (zO kA b T :: cs_X7 kA a w.1 w.2 pf)) (V, X) (fun _ => rfl) hD0
  refine lv_aload_n hC.1 hC.2.1 dL_expiring_0 rfl (lv_at hl 3 rfl) <| ziconst hC.1 hC.2.1 dL_expiring_1 <| lv_aload_n hC.1 hC.2.1 dL_expiring_2 rfl (lv_at hl 0 rfl) <| ziload_n hC.1 hC.2.1 dL_expiring_3 rfl (lv_at hl 1 rfl) <| ziload_n hC.1 hC.2.1 dL_expiring_4 rfl (lv_at hl 2 rfl) ?_
  refine zcVP (As := [vI x1, vI x2]) (rest := [vI 0, .ref b]) hC hK (met_X7_expiring l D kA a pf n V X x1 x2 hf) zwL_91 (zPtail hP) (q0 := 0) rfl rfl rfl rfl hl.1 rfl (Nat.le_of_ble_eq_true rfl) ⟨(Nat.le_of_ble_eq_true rfl), (Nat.le_of_ble_eq_true rfl)⟩ ⟨rfl, rfl⟩ ⟨Nat.le_refl _, Nat.le_refl _⟩ dL_expiring_5 ?_
  have hD := hD (V, X)
  refine zi2n hC.1 hC.2.1 dL_expiring_8 ?_
  refine jlas hC hK hP hD hS (q0 := 0) rfl (Nat.le_of_ble_eq_true rfl) (by decide) rfl dL_expiring_9 (fun H locs hP hS => ?_)
  refine lv_goto (tgt := 17) hC.1 hC.2.1 dL_expiring_10 (by decide) ?_
  refine ziconst hC.1 hC.2.1 dL_expiring_17 ?_
  exact hret (Int32.ofInt 0) _ _ _ _ rfl hP hS dL_expiring_18
set_option maxHeartbeats 1000000 in
set_option maxRecDepth 100000 in
theorem won_useOf (l : Launch) (D : va_G) (kA : Nat → ClassId) (a : Nat → Nat) (pf : Nat → Option Nat) (b : Nat) (n : Nat) (V X : Sz) (T : Nat → Int) (x1 : Int) (hD0 : va_D (fun _ => True) (zO kA b T :: cs_X7 kA a V X pf)) {r : Int} {Vr : Sz} (hf : f_X7_useOf n V X x1 = some (.inl (r, Vr))) : MZH l yL_useOf cL_useOf 4 (some .int) [(0, 9, 12, 19)] rmL_useOf D kA [.ref (a 0), vI x1, .ref b] (zO kA b T :: cs_X7 kA a V X pf) (zO kA b (up T 0 (nrm r)) :: cs_X7 kA a Vr X pf) (some (vI 0)) := by
  refine zHI (own := RL) rfl rfl (Nat.le_of_ble_eq_true rfl) ?_
  intro p e s m args below meth c ls Q hC hK hP hl hret
  have hl : lv_has ls 4 [(0, .ref (a 0)), (1, vI x1), (2, .ref b)] := hl
  have hS : va_S (zF (zO kA b T :: cs_X7 kA a V X pf)) s.heap s.heap [] := va_S.rf
  have hD0 : va_D (zF (zO kA b T :: cs_X7 kA a V X pf)) (zO kA b T :: cs_X7 kA a V X pf) := ⟨hD0.1, fun k q hk => ⟨k, q.2, hk⟩⟩
  generalize hAe : zF (zO kA b T :: cs_X7 kA a V X pf) = A0 at hS hD0 hret
  have hD : ∀ w : Sz × Sz, va_D A0 (zO kA b T :: cs_X7 kA a w.1 w.2 pf) := zDany (C := fun w : Sz × Sz => (zO kA b T :: cs_X7 kA a w.1 w.2 pf)) (V, X) (fun _ => rfl) hD0
  refine lv_aload_n hC.1 hC.2.1 dL_useOf_0 rfl (lv_at hl 2 rfl) <| ziconst hC.1 hC.2.1 dL_useOf_1 <| lv_aload_n hC.1 hC.2.1 dL_useOf_2 rfl (lv_at hl 0 rfl) <| ziload_n hC.1 hC.2.1 dL_useOf_3 rfl (lv_at hl 1 rfl) ?_
  have hDc : ∀ w : Sz, va_D (fun _ => True) (cs_X7 kA a w X pf) := fun w => (zDtail (hD (w, X))).weaken (fun _ _ _ _ => trivial)
  refine zcVZ (As := [vI x1]) (rest := [vI 0, .ref b]) hC hK (met_X7_useOf l D kA a pf n V X x1 hDc hf) zwL_94 hS (fun q h => h.elim fun k h => h.elim fun e h => (hD (V, X)).2 (k + 1) (q, e) h) (zPtail hP) (q0 := 0) rfl rfl rfl rfl hl.1 rfl (Nat.le_of_ble_eq_true rfl) ⟨(Nat.le_of_ble_eq_true rfl), (Nat.le_of_ble_eq_true rfl)⟩ ⟨rfl, rfl⟩ ⟨Nat.le_refl _, Nat.le_refl _⟩ dL_useOf_4 (fun H locs hP1 hk1 hS => ?_)
  have hP : va_P D vwCl (zO kA b T :: cs_X7 kA a Vr X pf) H := zjoinA (A := [zO kA b T]) hP ((hD (V, X)).weaken (fun _ _ _ _ => trivial)) hk1 hP1
  have hD := hD (Vr, X)
  refine zi2n hC.1 hC.2.1 dL_useOf_7 ?_
  refine jlas hC hK hP hD hS (q0 := 0) rfl (Nat.le_of_ble_eq_true rfl) (by decide) rfl dL_useOf_8 (fun H locs hP hS => ?_)
  refine lv_goto (tgt := 15) hC.1 hC.2.1 dL_useOf_9 (by decide) ?_
  refine ziconst hC.1 hC.2.1 dL_useOf_15 ?_
  exact hret (Int32.ofInt 0) _ _ _ _ rfl hP hS dL_useOf_16
set_option maxHeartbeats 1000000 in
set_option maxRecDepth 100000 in
theorem won_benefitRoom (l : Launch) (D : va_G) (kA : Nat → ClassId) (a : Nat → Nat) (pf : Nat → Option Nat) (b : Nat) (V X : Sz) (T : Nat → Int) (x1 : Int) (hD0 : va_D (fun _ => True) (zO kA b T :: cs_X7 kA a V X pf)) {r : Int} (hf : f_X7_benefitRoom V X x1 = some (.inl r)) : MZH l yL_benefitRoom cL_benefitRoom 4 (some .int) [(0, 9, 12, 19)] rmL_benefitRoom D kA [.ref (a 0), vI x1, .ref b] (zO kA b T :: cs_X7 kA a V X pf) (zO kA b (up T 0 (nrm r)) :: cs_X7 kA a V X pf) (some (vI 0)) := by
  refine zHI (own := RL) rfl rfl (Nat.le_of_ble_eq_true rfl) ?_
  intro p e s m args below meth c ls Q hC hK hP hl hret
  have hl : lv_has ls 4 [(0, .ref (a 0)), (1, vI x1), (2, .ref b)] := hl
  have hS : va_S (zF (zO kA b T :: cs_X7 kA a V X pf)) s.heap s.heap [] := va_S.rf
  have hD0 : va_D (zF (zO kA b T :: cs_X7 kA a V X pf)) (zO kA b T :: cs_X7 kA a V X pf) := ⟨hD0.1, fun k q hk => ⟨k, q.2, hk⟩⟩
  generalize hAe : zF (zO kA b T :: cs_X7 kA a V X pf) = A0 at hS hD0 hret
  have hD : ∀ w : Sz × Sz, va_D A0 (zO kA b T :: cs_X7 kA a w.1 w.2 pf) := zDany (C := fun w : Sz × Sz => (zO kA b T :: cs_X7 kA a w.1 w.2 pf)) (V, X) (fun _ => rfl) hD0
  refine lv_aload_n hC.1 hC.2.1 dL_benefitRoom_0 rfl (lv_at hl 2 rfl) <| ziconst hC.1 hC.2.1 dL_benefitRoom_1 <| lv_aload_n hC.1 hC.2.1 dL_benefitRoom_2 rfl (lv_at hl 0 rfl) <| ziload_n hC.1 hC.2.1 dL_benefitRoom_3 rfl (lv_at hl 1 rfl) ?_
  refine zcVP (As := [vI x1]) (rest := [vI 0, .ref b]) hC hK (met_X7_benefitRoom l D kA a pf V X x1 hf) zwL_97 (zPtail hP) (q0 := 0) rfl rfl rfl rfl hl.1 rfl (Nat.le_of_ble_eq_true rfl) ⟨(Nat.le_of_ble_eq_true rfl), (Nat.le_of_ble_eq_true rfl)⟩ ⟨rfl, rfl⟩ ⟨Nat.le_refl _, Nat.le_refl _⟩ dL_benefitRoom_4 ?_
  have hD := hD (V, X)
  refine zi2n hC.1 hC.2.1 dL_benefitRoom_7 ?_
  refine jlas hC hK hP hD hS (q0 := 0) rfl (Nat.le_of_ble_eq_true rfl) (by decide) rfl dL_benefitRoom_8 (fun H locs hP hS => ?_)
  refine lv_goto (tgt := 15) hC.1 hC.2.1 dL_benefitRoom_9 (by decide) ?_
  refine ziconst hC.1 hC.2.1 dL_benefitRoom_15 ?_
  exact hret (Int32.ofInt 0) _ _ _ _ rfl hP hS dL_benefitRoom_16
set_option maxHeartbeats 1000000 in
set_option maxRecDepth 100000 in
theorem won_topDonor (l : Launch) (D : va_G) (kA : Nat → ClassId) (a : Nat → Nat) (pf : Nat → Option Nat) (b : Nat) (n : Nat) (V X : Sz) (T : Nat → Int) (x1 : Int) (hD0 : va_D (fun _ => True) (zO kA b T :: cs_X7 kA a V X pf)) {r : Int} (hf : f_X7_topDonor n V X x1 = some (.inl r)) : MZH l yL_topDonor cL_topDonor 4 (some .int) [(0, 9, 12, 13)] rmL_topDonor D kA [.ref (a 0), vI x1, .ref b] (zO kA b T :: cs_X7 kA a V X pf) (zO kA b (up T 0 (nrm r)) :: cs_X7 kA a V X pf) (some (vI 0)) := by
  refine zHI (own := RL) rfl rfl (Nat.le_of_ble_eq_true rfl) ?_
  intro p e s m args below meth c ls Q hC hK hP hl hret
  have hl : lv_has ls 4 [(0, .ref (a 0)), (1, vI x1), (2, .ref b)] := hl
  have hS : va_S (zF (zO kA b T :: cs_X7 kA a V X pf)) s.heap s.heap [] := va_S.rf
  have hD0 : va_D (zF (zO kA b T :: cs_X7 kA a V X pf)) (zO kA b T :: cs_X7 kA a V X pf) := ⟨hD0.1, fun k q hk => ⟨k, q.2, hk⟩⟩
  generalize hAe : zF (zO kA b T :: cs_X7 kA a V X pf) = A0 at hS hD0 hret
  have hD : ∀ w : Sz × Sz, va_D A0 (zO kA b T :: cs_X7 kA a w.1 w.2 pf) := zDany (C := fun w : Sz × Sz => (zO kA b T :: cs_X7 kA a w.1 w.2 pf)) (V, X) (fun _ => rfl) hD0
  refine lv_aload_n hC.1 hC.2.1 dL_topDonor_0 rfl (lv_at hl 2 rfl) <| ziconst hC.1 hC.2.1 dL_topDonor_1 <| lv_aload_n hC.1 hC.2.1 dL_topDonor_2 rfl (lv_at hl 0 rfl) <| ziload_n hC.1 hC.2.1 dL_topDonor_3 rfl (lv_at hl 1 rfl) ?_
  refine zcVP (As := [vI x1]) (rest := [vI 0, .ref b]) hC hK (met_X7_topDonor l D kA a pf n V X x1 hf) zwL_100 (zPtail hP) (q0 := 0) rfl rfl rfl rfl hl.1 rfl (Nat.le_of_ble_eq_true rfl) ⟨(Nat.le_of_ble_eq_true rfl), (Nat.le_of_ble_eq_true rfl)⟩ ⟨rfl, rfl⟩ ⟨Nat.le_refl _, Nat.le_refl _⟩ dL_topDonor_4 ?_
  have hD := hD (V, X)
  refine zi2n hC.1 hC.2.1 dL_topDonor_7 ?_
  refine jlas hC hK hP hD hS (q0 := 0) rfl (Nat.le_of_ble_eq_true rfl) (by decide) rfl dL_topDonor_8 (fun H locs hP hS => ?_)
  refine lv_goto (tgt := 15) hC.1 hC.2.1 dL_topDonor_9 (by decide) ?_
  refine ziconst hC.1 hC.2.1 dL_topDonor_15 ?_
  exact hret (Int32.ofInt 0) _ _ _ _ rfl hP hS dL_topDonor_16
set_option maxHeartbeats 1000000 in
set_option maxRecDepth 100000 in
theorem won_longestSpan (l : Launch) (D : va_G) (kA : Nat → ClassId) (a : Nat → Nat) (pf : Nat → Option Nat) (b : Nat) (n : Nat) (V X : Sz) (T : Nat → Int) (x1 : Int) (hD0 : va_D (fun _ => True) (zO kA b T :: cs_X7 kA a V X pf)) {r : Int} (hf : f_X7_longestSpan n V X x1 = some (.inl r)) : MZH l yL_longestSpan cL_longestSpan 4 (some .int) [(0, 9, 12, 19)] rmL_longestSpan D kA [.ref (a 0), vI x1, .ref b] (zO kA b T :: cs_X7 kA a V X pf) (zO kA b (up T 0 (nrm r)) :: cs_X7 kA a V X pf) (some (vI 0)) := by
  refine zHI (own := RL) rfl rfl (Nat.le_of_ble_eq_true rfl) ?_
  intro p e s m args below meth c ls Q hC hK hP hl hret
  have hl : lv_has ls 4 [(0, .ref (a 0)), (1, vI x1), (2, .ref b)] := hl
  have hS : va_S (zF (zO kA b T :: cs_X7 kA a V X pf)) s.heap s.heap [] := va_S.rf
  have hD0 : va_D (zF (zO kA b T :: cs_X7 kA a V X pf)) (zO kA b T :: cs_X7 kA a V X pf) := ⟨hD0.1, fun k q hk => ⟨k, q.2, hk⟩⟩
  generalize hAe : zF (zO kA b T :: cs_X7 kA a V X pf) = A0 at hS hD0 hret
  have hD : ∀ w : Sz × Sz, va_D A0 (zO kA b T :: cs_X7 kA a w.1 w.2 pf) := zDany (C := fun w : Sz × Sz => (zO kA b T :: cs_X7 kA a w.1 w.2 pf)) (V, X) (fun _ => rfl) hD0
  refine lv_aload_n hC.1 hC.2.1 dL_longestSpan_0 rfl (lv_at hl 2 rfl) <| ziconst hC.1 hC.2.1 dL_longestSpan_1 <| lv_aload_n hC.1 hC.2.1 dL_longestSpan_2 rfl (lv_at hl 0 rfl) <| ziload_n hC.1 hC.2.1 dL_longestSpan_3 rfl (lv_at hl 1 rfl) ?_
  refine zcVP (As := [vI x1]) (rest := [vI 0, .ref b]) hC hK (met_X7_longestSpan l D kA a pf n V X x1 hf) zwL_103 (zPtail hP) (q0 := 0) rfl rfl rfl rfl hl.1 rfl (Nat.le_of_ble_eq_true rfl) ⟨(Nat.le_of_ble_eq_true rfl), (Nat.le_of_ble_eq_true rfl)⟩ ⟨rfl, rfl⟩ ⟨Nat.le_refl _, Nat.le_refl _⟩ dL_longestSpan_4 ?_
  have hD := hD (V, X)
  refine zi2n hC.1 hC.2.1 dL_longestSpan_7 ?_
  refine jlas hC hK hP hD hS (q0 := 0) rfl (Nat.le_of_ble_eq_true rfl) (by decide) rfl dL_longestSpan_8 (fun H locs hP hS => ?_)
  refine lv_goto (tgt := 15) hC.1 hC.2.1 dL_longestSpan_9 (by decide) ?_
  refine ziconst hC.1 hC.2.1 dL_longestSpan_15 ?_
  exact hret (Int32.ofInt 0) _ _ _ _ rfl hP hS dL_longestSpan_16
set_option maxHeartbeats 1000000 in
set_option maxRecDepth 100000 in
theorem won_gainOf (l : Launch) (D : va_G) (kA : Nat → ClassId) (a : Nat → Nat) (pf : Nat → Option Nat) (b : Nat) (n : Nat) (V X : Sz) (T : Nat → Int) (x1 : Int) (x2 : Int) (x3 : Int) (hD0 : va_D (fun _ => True) (zO kA b T :: cs_X7 kA a V X pf)) {r : Int} (hf : f_X7_gainOf n V X x1 x2 x3 = some (.inl r)) : MZH l yL_gainOf cL_gainOf 6 (some .int) [(0, 12, 15, 19), (0, 12, 19, 13)] rmL_gainOf D kA [.ref (a 0), vI x1, vI x2, vI x3, .ref b] (zO kA b T :: cs_X7 kA a V X pf) (zO kA b (up T 0 (nrm r)) :: cs_X7 kA a V X pf) (some (vI 0)) := by
  refine zHI (own := RL) rfl rfl (Nat.le_of_ble_eq_true rfl) ?_
  intro p e s m args below meth c ls Q hC hK hP hl hret
  have hl : lv_has ls 6 [(0, .ref (a 0)), (1, vI x1), (2, vI x2), (3, vI x3), (4, .ref b)] := hl
  have hS : va_S (zF (zO kA b T :: cs_X7 kA a V X pf)) s.heap s.heap [] := va_S.rf
  have hD0 : va_D (zF (zO kA b T :: cs_X7 kA a V X pf)) (zO kA b T :: cs_X7 kA a V X pf) := ⟨hD0.1, fun k q hk => ⟨k, q.2, hk⟩⟩
  generalize hAe : zF (zO kA b T :: cs_X7 kA a V X pf) = A0 at hS hD0 hret
  have hD : ∀ w : Sz × Sz, va_D A0 (zO kA b T :: cs_X7 kA a w.1 w.2 pf) := zDany (C := fun w : Sz × Sz => (zO kA b T :: cs_X7 kA a w.1 w.2 pf)) (V, X) (fun _ => rfl) hD0
  refine lv_aload hC.1 hC.2.1 dL_gainOf_0 (lv_at hl 4 rfl) <| ziconst hC.1 hC.2.1 dL_gainOf_2 <| lv_aload_n hC.1 hC.2.1 dL_gainOf_3 rfl (lv_at hl 0 rfl) <| ziload_n hC.1 hC.2.1 dL_gainOf_4 rfl (lv_at hl 1 rfl) <| ziload_n hC.1 hC.2.1 dL_gainOf_5 rfl (lv_at hl 2 rfl) <| ziload_n hC.1 hC.2.1 dL_gainOf_6 rfl (lv_at hl 3 rfl) ?_
  refine zcVP (As := [vI x1, vI x2, vI x3]) (rest := [vI 0, .ref b]) hC hK (met_X7_gainOf l D kA a pf n V X x1 x2 x3 hf) zwL_106 (zPtail hP) (q0 := 0) rfl rfl rfl rfl hl.1 rfl (Nat.le_of_ble_eq_true rfl) ⟨(Nat.le_of_ble_eq_true rfl), (Nat.le_of_ble_eq_true rfl)⟩ ⟨rfl, rfl⟩ ⟨Nat.le_refl _, Nat.le_refl _⟩ dL_gainOf_7 ?_
  have hD := hD (V, X)
  refine zi2n hC.1 hC.2.1 dL_gainOf_10 ?_
  refine jlas hC hK hP hD hS (q0 := 0) rfl (Nat.le_of_ble_eq_true rfl) (by decide) rfl dL_gainOf_11 (fun H locs hP hS => ?_)
  refine lv_goto (tgt := 23) hC.1 hC.2.1 dL_gainOf_12 (by decide) ?_
  refine ziconst hC.1 hC.2.1 dL_gainOf_23 ?_
  exact hret (Int32.ofInt 0) _ _ _ _ rfl hP hS dL_gainOf_24
set_option maxHeartbeats 1000000 in
set_option maxRecDepth 100000 in
theorem won_neededSpan (l : Launch) (D : va_G) (kA : Nat → ClassId) (a : Nat → Nat) (pf : Nat → Option Nat) (b : Nat) (n : Nat) (V X : Sz) (T : Nat → Int) (x1 : Int) (x2 : Int) (hD0 : va_D (fun _ => True) (zO kA b T :: cs_X7 kA a V X pf)) {r : Int} (hf : f_X7_neededSpan n V X x1 x2 = some (.inl r)) : MZH l yL_neededSpan cL_neededSpan 5 (some .int) [(0, 10, 13, 19)] rmL_neededSpan D kA [.ref (a 0), vI x1, vI x2, .ref b] (zO kA b T :: cs_X7 kA a V X pf) (zO kA b (up T 0 (nrm r)) :: cs_X7 kA a V X pf) (some (vI 0)) := by
  refine zHI (own := RL) rfl rfl (Nat.le_of_ble_eq_true rfl) ?_
  intro p e s m args below meth c ls Q hC hK hP hl hret
  have hl : lv_has ls 5 [(0, .ref (a 0)), (1, vI x1), (2, vI x2), (3, .ref b)] := hl
  have hS : va_S (zF (zO kA b T :: cs_X7 kA a V X pf)) s.heap s.heap [] := va_S.rf
  have hD0 : va_D (zF (zO kA b T :: cs_X7 kA a V X pf)) (zO kA b T :: cs_X7 kA a V X pf) := ⟨hD0.1, fun k q hk => ⟨k, q.2, hk⟩⟩
  generalize hAe : zF (zO kA b T :: cs_X7 kA a V X pf) = A0 at hS hD0 hret
  have hD : ∀ w : Sz × Sz, va_D A0 (zO kA b T :: cs_X7 kA a w.1 w.2 pf) := zDany (C := fun w : Sz × Sz => (zO kA b T :: cs_X7 kA a w.1 w.2 pf)) (V, X) (fun _ => rfl) hD0
  refine lv_aload_n hC.1 hC.2.1 dL_neededSpan_0 rfl (lv_at hl 3 rfl) <| ziconst hC.1 hC.2.1 dL_neededSpan_1 <| lv_aload_n hC.1 hC.2.1 dL_neededSpan_2 rfl (lv_at hl 0 rfl) <| ziload_n hC.1 hC.2.1 dL_neededSpan_3 rfl (lv_at hl 1 rfl) <| ziload_n hC.1 hC.2.1 dL_neededSpan_4 rfl (lv_at hl 2 rfl) ?_
  refine zcVP (As := [vI x1, vI x2]) (rest := [vI 0, .ref b]) hC hK (met_X7_neededSpan l D kA a pf n V X x1 x2 hf) zwL_109 (zPtail hP) (q0 := 0) rfl rfl rfl rfl hl.1 rfl (Nat.le_of_ble_eq_true rfl) ⟨(Nat.le_of_ble_eq_true rfl), (Nat.le_of_ble_eq_true rfl)⟩ ⟨rfl, rfl⟩ ⟨Nat.le_refl _, Nat.le_refl _⟩ dL_neededSpan_5 ?_
  have hD := hD (V, X)
  refine zi2n hC.1 hC.2.1 dL_neededSpan_8 ?_
  refine jlas hC hK hP hD hS (q0 := 0) rfl (Nat.le_of_ble_eq_true rfl) (by decide) rfl dL_neededSpan_9 (fun H locs hP hS => ?_)
  refine lv_goto (tgt := 17) hC.1 hC.2.1 dL_neededSpan_10 (by decide) ?_
  refine ziconst hC.1 hC.2.1 dL_neededSpan_17 ?_
  exact hret (Int32.ofInt 0) _ _ _ _ rfl hP hS dL_neededSpan_18
set_option maxHeartbeats 1000000 in
set_option maxRecDepth 100000 in
theorem won_gainOfSplit (l : Launch) (D : va_G) (kA : Nat → ClassId) (a : Nat → Nat) (pf : Nat → Option Nat) (b : Nat) (n : Nat) (V X : Sz) (T : Nat → Int) (x1 : Int) (x2 : Int) (hD0 : va_D (fun _ => True) (zO kA b T :: cs_X7 kA a V X pf)) {r : Int} {Vr : Sz} (hf : f_X7_gainOfSplit n V X x1 x2 = some (.inl (r, Vr))) : MZH l yL_gainOfSplit cL_gainOfSplit 5 (some .int) [(0, 10, 13, 19)] rmL_gainOfSplit D kA [.ref (a 0), vI x1, vI x2, .ref b] (zO kA b T :: cs_X7 kA a V X pf) (zO kA b (up T 0 (nrm r)) :: cs_X7 kA a Vr X pf) (some (vI 0)) := by
  refine zHI (own := RL) rfl rfl (Nat.le_of_ble_eq_true rfl) ?_
  intro p e s m args below meth c ls Q hC hK hP hl hret
  have hl : lv_has ls 5 [(0, .ref (a 0)), (1, vI x1), (2, vI x2), (3, .ref b)] := hl
  have hS : va_S (zF (zO kA b T :: cs_X7 kA a V X pf)) s.heap s.heap [] := va_S.rf
  have hD0 : va_D (zF (zO kA b T :: cs_X7 kA a V X pf)) (zO kA b T :: cs_X7 kA a V X pf) := ⟨hD0.1, fun k q hk => ⟨k, q.2, hk⟩⟩
  generalize hAe : zF (zO kA b T :: cs_X7 kA a V X pf) = A0 at hS hD0 hret
  have hD : ∀ w : Sz × Sz, va_D A0 (zO kA b T :: cs_X7 kA a w.1 w.2 pf) := zDany (C := fun w : Sz × Sz => (zO kA b T :: cs_X7 kA a w.1 w.2 pf)) (V, X) (fun _ => rfl) hD0
  refine lv_aload_n hC.1 hC.2.1 dL_gainOfSplit_0 rfl (lv_at hl 3 rfl) <| ziconst hC.1 hC.2.1 dL_gainOfSplit_1 <| lv_aload_n hC.1 hC.2.1 dL_gainOfSplit_2 rfl (lv_at hl 0 rfl) <| ziload_n hC.1 hC.2.1 dL_gainOfSplit_3 rfl (lv_at hl 1 rfl) <| ziload_n hC.1 hC.2.1 dL_gainOfSplit_4 rfl (lv_at hl 2 rfl) ?_
  have hDc : ∀ w : Sz, va_D (fun _ => True) (cs_X7 kA a w X pf) := fun w => (zDtail (hD (w, X))).weaken (fun _ _ _ _ => trivial)
  refine zcVZ (As := [vI x1, vI x2]) (rest := [vI 0, .ref b]) hC hK (met_X7_gainOfSplit l D kA a pf n V X x1 x2 hDc hf) zwL_112 hS (fun q h => h.elim fun k h => h.elim fun e h => (hD (V, X)).2 (k + 1) (q, e) h) (zPtail hP) (q0 := 0) rfl rfl rfl rfl hl.1 rfl (Nat.le_of_ble_eq_true rfl) ⟨(Nat.le_of_ble_eq_true rfl), (Nat.le_of_ble_eq_true rfl)⟩ ⟨rfl, rfl⟩ ⟨Nat.le_refl _, Nat.le_refl _⟩ dL_gainOfSplit_5 (fun H locs hP1 hk1 hS => ?_)
  have hP : va_P D vwCl (zO kA b T :: cs_X7 kA a Vr X pf) H := zjoinA (A := [zO kA b T]) hP ((hD (V, X)).weaken (fun _ _ _ _ => trivial)) hk1 hP1
  have hD := hD (Vr, X)
  refine zi2n hC.1 hC.2.1 dL_gainOfSplit_8 ?_
  refine jlas hC hK hP hD hS (q0 := 0) rfl (Nat.le_of_ble_eq_true rfl) (by decide) rfl dL_gainOfSplit_9 (fun H locs hP hS => ?_)
  refine lv_goto (tgt := 17) hC.1 hC.2.1 dL_gainOfSplit_10 (by decide) ?_
  refine ziconst hC.1 hC.2.1 dL_gainOfSplit_17 ?_
  exact hret (Int32.ofInt 0) _ _ _ _ rfl hP hS dL_gainOfSplit_18
set_option maxHeartbeats 1000000 in
set_option maxRecDepth 100000 in
theorem won_sample (l : Launch) (D : va_G) (kA : Nat → ClassId) (a : Nat → Nat) (pf : Nat → Option Nat) (b : Nat) (n : Nat) (V X : Sz) (T : Nat → Int) (x1 : Int) (x2 : Int) (x3 : Int) (hD0 : va_D (fun _ => True) (zO kA b T :: cs_X7 kA a V X pf)) {r : Int} {Vr : Sz} (hf : f_X7_sample n V X x1 x2 x3 = some (.inl (r, Vr))) : MZH l yL_sample cL_sample 6 (some .int) [(0, 12, 15, 13)] rmL_sample D kA [.ref (a 0), vI x1, vI x2, vI x3, .ref b] (zO kA b T :: cs_X7 kA a V X pf) (zO kA b (up T 0 (nrm r)) :: cs_X7 kA a Vr X pf) (some (vI 0)) := by
  refine zHI (own := RL) rfl rfl (Nat.le_of_ble_eq_true rfl) ?_
  intro p e s m args below meth c ls Q hC hK hP hl hret
  have hl : lv_has ls 6 [(0, .ref (a 0)), (1, vI x1), (2, vI x2), (3, vI x3), (4, .ref b)] := hl
  have hS : va_S (zF (zO kA b T :: cs_X7 kA a V X pf)) s.heap s.heap [] := va_S.rf
  have hD0 : va_D (zF (zO kA b T :: cs_X7 kA a V X pf)) (zO kA b T :: cs_X7 kA a V X pf) := ⟨hD0.1, fun k q hk => ⟨k, q.2, hk⟩⟩
  generalize hAe : zF (zO kA b T :: cs_X7 kA a V X pf) = A0 at hS hD0 hret
  have hD : ∀ w : Sz × Sz, va_D A0 (zO kA b T :: cs_X7 kA a w.1 w.2 pf) := zDany (C := fun w : Sz × Sz => (zO kA b T :: cs_X7 kA a w.1 w.2 pf)) (V, X) (fun _ => rfl) hD0
  refine lv_aload hC.1 hC.2.1 dL_sample_0 (lv_at hl 4 rfl) <| ziconst hC.1 hC.2.1 dL_sample_2 <| lv_aload_n hC.1 hC.2.1 dL_sample_3 rfl (lv_at hl 0 rfl) <| ziload_n hC.1 hC.2.1 dL_sample_4 rfl (lv_at hl 1 rfl) <| ziload_n hC.1 hC.2.1 dL_sample_5 rfl (lv_at hl 2 rfl) <| ziload_n hC.1 hC.2.1 dL_sample_6 rfl (lv_at hl 3 rfl) ?_
  have hDc : ∀ w : Sz, va_D (fun _ => True) (cs_X7 kA a w X pf) := fun w => (zDtail (hD (w, X))).weaken (fun _ _ _ _ => trivial)
  refine zcVZ (As := [vI x1, vI x2, vI x3]) (rest := [vI 0, .ref b]) hC hK (met_X7_sample l D kA a pf n V X x1 x2 x3 hDc hf) zwL_115 hS (fun q h => h.elim fun k h => h.elim fun e h => (hD (V, X)).2 (k + 1) (q, e) h) (zPtail hP) (q0 := 0) rfl rfl rfl rfl hl.1 rfl (Nat.le_of_ble_eq_true rfl) ⟨(Nat.le_of_ble_eq_true rfl), (Nat.le_of_ble_eq_true rfl)⟩ ⟨rfl, rfl⟩ ⟨Nat.le_refl _, Nat.le_refl _⟩ dL_sample_7 (fun H locs hP1 hk1 hS => ?_)
  have hP : va_P D vwCl (zO kA b T :: cs_X7 kA a Vr X pf) H := zjoinA (A := [zO kA b T]) hP ((hD (V, X)).weaken (fun _ _ _ _ => trivial)) hk1 hP1
  have hD := hD (Vr, X)
  refine zi2n hC.1 hC.2.1 dL_sample_10 ?_
  refine jlas hC hK hP hD hS (q0 := 0) rfl (Nat.le_of_ble_eq_true rfl) (by decide) rfl dL_sample_11 (fun H locs hP hS => ?_)
  refine lv_goto (tgt := 19) hC.1 hC.2.1 dL_sample_12 (by decide) ?_
  refine ziconst hC.1 hC.2.1 dL_sample_19 ?_
  exact hret (Int32.ofInt 0) _ _ _ _ rfl hP hS dL_sample_20
set_option maxHeartbeats 1000000 in
set_option maxRecDepth 100000 in
theorem won_wrongIn (l : Launch) (D : va_G) (kA : Nat → ClassId) (a : Nat → Nat) (pf : Nat → Option Nat) (b : Nat) (n : Nat) (V X : Sz) (T : Nat → Int) (x1 : Int) (x2 : Int) (hD0 : va_D (fun _ => True) (zO kA b T :: cs_X7 kA a V X pf)) {r : Int} {Vr : Sz} (hf : f_X7_wrongIn n V X x1 x2 = some (.inl (r, Vr))) : MZH l yL_wrongIn cL_wrongIn 5 (some .int) [(0, 10, 13, 13)] rmL_wrongIn D kA [.ref (a 0), vI x1, vI x2, .ref b] (zO kA b T :: cs_X7 kA a V X pf) (zO kA b (up T 0 (nrm r)) :: cs_X7 kA a Vr X pf) (some (vI 0)) := by
  refine zHI (own := RL) rfl rfl (Nat.le_of_ble_eq_true rfl) ?_
  intro p e s m args below meth c ls Q hC hK hP hl hret
  have hl : lv_has ls 5 [(0, .ref (a 0)), (1, vI x1), (2, vI x2), (3, .ref b)] := hl
  have hS : va_S (zF (zO kA b T :: cs_X7 kA a V X pf)) s.heap s.heap [] := va_S.rf
  have hD0 : va_D (zF (zO kA b T :: cs_X7 kA a V X pf)) (zO kA b T :: cs_X7 kA a V X pf) := ⟨hD0.1, fun k q hk => ⟨k, q.2, hk⟩⟩
  generalize hAe : zF (zO kA b T :: cs_X7 kA a V X pf) = A0 at hS hD0 hret
  have hD : ∀ w : Sz × Sz, va_D A0 (zO kA b T :: cs_X7 kA a w.1 w.2 pf) := zDany (C := fun w : Sz × Sz => (zO kA b T :: cs_X7 kA a w.1 w.2 pf)) (V, X) (fun _ => rfl) hD0
  refine lv_aload_n hC.1 hC.2.1 dL_wrongIn_0 rfl (lv_at hl 3 rfl) <| ziconst hC.1 hC.2.1 dL_wrongIn_1 <| lv_aload_n hC.1 hC.2.1 dL_wrongIn_2 rfl (lv_at hl 0 rfl) <| ziload_n hC.1 hC.2.1 dL_wrongIn_3 rfl (lv_at hl 1 rfl) <| ziload_n hC.1 hC.2.1 dL_wrongIn_4 rfl (lv_at hl 2 rfl) ?_
  have hDc : ∀ w : Sz, va_D (fun _ => True) (cs_X7 kA a w X pf) := fun w => (zDtail (hD (w, X))).weaken (fun _ _ _ _ => trivial)
  refine zcVZ (As := [vI x1, vI x2]) (rest := [vI 0, .ref b]) hC hK (met_X7_wrongIn l D kA a pf n V X x1 x2 hDc hf) zwL_118 hS (fun q h => h.elim fun k h => h.elim fun e h => (hD (V, X)).2 (k + 1) (q, e) h) (zPtail hP) (q0 := 0) rfl rfl rfl rfl hl.1 rfl (Nat.le_of_ble_eq_true rfl) ⟨(Nat.le_of_ble_eq_true rfl), (Nat.le_of_ble_eq_true rfl)⟩ ⟨rfl, rfl⟩ ⟨Nat.le_refl _, Nat.le_refl _⟩ dL_wrongIn_5 (fun H locs hP1 hk1 hS => ?_)
  have hP : va_P D vwCl (zO kA b T :: cs_X7 kA a Vr X pf) H := zjoinA (A := [zO kA b T]) hP ((hD (V, X)).weaken (fun _ _ _ _ => trivial)) hk1 hP1
  have hD := hD (Vr, X)
  refine zi2n hC.1 hC.2.1 dL_wrongIn_8 ?_
  refine jlas hC hK hP hD hS (q0 := 0) rfl (Nat.le_of_ble_eq_true rfl) (by decide) rfl dL_wrongIn_9 (fun H locs hP hS => ?_)
  refine lv_goto (tgt := 17) hC.1 hC.2.1 dL_wrongIn_10 (by decide) ?_
  refine ziconst hC.1 hC.2.1 dL_wrongIn_17 ?_
  exact hret (Int32.ofInt 0) _ _ _ _ rfl hP hS dL_wrongIn_18
set_option maxHeartbeats 1000000 in
set_option maxRecDepth 100000 in
theorem won_printStatement (l : Launch) (D : va_G) (kA : Nat → ClassId) (a : Nat → Nat) (pf : Nat → Option Nat) (b : Nat) (n : Nat) (V X : Sz) (T : Nat → Int) (x1 : Int) (hD0 : va_D (fun _ => True) (zO kA b T :: cs_X7 kA a V X pf)) {r : Int} {Vr : Sz} (hf : f_X7_printStatement n V X x1 = some (.inl (r, Vr))) : MZH l yL_printStatement cL_printStatement 4 (some .int) [(0, 9, 12, 19)] rmL_printStatement D kA [.ref (a 0), vI x1, .ref b] (zO kA b T :: cs_X7 kA a V X pf) (zO kA b (up T 0 (nrm r)) :: cs_X7 kA a Vr X pf) (some (vI 0)) := by
  refine zHI (own := RL) rfl rfl (Nat.le_of_ble_eq_true rfl) ?_
  intro p e s m args below meth c ls Q hC hK hP hl hret
  have hl : lv_has ls 4 [(0, .ref (a 0)), (1, vI x1), (2, .ref b)] := hl
  have hS : va_S (zF (zO kA b T :: cs_X7 kA a V X pf)) s.heap s.heap [] := va_S.rf
  have hD0 : va_D (zF (zO kA b T :: cs_X7 kA a V X pf)) (zO kA b T :: cs_X7 kA a V X pf) := ⟨hD0.1, fun k q hk => ⟨k, q.2, hk⟩⟩
  generalize hAe : zF (zO kA b T :: cs_X7 kA a V X pf) = A0 at hS hD0 hret
  have hD : ∀ w : Sz × Sz, va_D A0 (zO kA b T :: cs_X7 kA a w.1 w.2 pf) := zDany (C := fun w : Sz × Sz => (zO kA b T :: cs_X7 kA a w.1 w.2 pf)) (V, X) (fun _ => rfl) hD0
  refine lv_aload_n hC.1 hC.2.1 dL_printStatement_0 rfl (lv_at hl 2 rfl) <| ziconst hC.1 hC.2.1 dL_printStatement_1 <| lv_aload_n hC.1 hC.2.1 dL_printStatement_2 rfl (lv_at hl 0 rfl) <| ziload_n hC.1 hC.2.1 dL_printStatement_3 rfl (lv_at hl 1 rfl) ?_
  have hDc : ∀ w : Sz, va_D (fun _ => True) (cs_X7 kA a w X pf) := fun w => (zDtail (hD (w, X))).weaken (fun _ _ _ _ => trivial)
  refine zcVZ (As := [vI x1]) (rest := [vI 0, .ref b]) hC hK (met_X7_printStatement l D kA a pf n V X x1 hDc hf) zwL_125 hS (fun q h => h.elim fun k h => h.elim fun e h => (hD (V, X)).2 (k + 1) (q, e) h) (zPtail hP) (q0 := 0) rfl rfl rfl rfl hl.1 rfl (Nat.le_of_ble_eq_true rfl) ⟨(Nat.le_of_ble_eq_true rfl), (Nat.le_of_ble_eq_true rfl)⟩ ⟨rfl, rfl⟩ ⟨Nat.le_refl _, Nat.le_refl _⟩ dL_printStatement_4 (fun H locs hP1 hk1 hS => ?_)
  have hP : va_P D vwCl (zO kA b T :: cs_X7 kA a Vr X pf) H := zjoinA (A := [zO kA b T]) hP ((hD (V, X)).weaken (fun _ _ _ _ => trivial)) hk1 hP1
  have hD := hD (Vr, X)
  refine zi2n hC.1 hC.2.1 dL_printStatement_7 ?_
  refine jlas hC hK hP hD hS (q0 := 0) rfl (Nat.le_of_ble_eq_true rfl) (by decide) rfl dL_printStatement_8 (fun H locs hP hS => ?_)
  refine lv_goto (tgt := 15) hC.1 hC.2.1 dL_printStatement_9 (by decide) ?_
  refine ziconst hC.1 hC.2.1 dL_printStatement_15 ?_
  exact hret (Int32.ofInt 0) _ _ _ _ rfl hP hS dL_printStatement_16
set_option maxHeartbeats 1000000 in
set_option maxRecDepth 100000 in
theorem won_restoreState (l : Launch) (D : va_G) (kA : Nat → ClassId) (a : Nat → Nat) (pf : Nat → Option Nat) (b : Nat) (V X : Sz) (T : Nat → Int) (hD0 : va_D (fun _ => True) (zO kA b T :: cs_X7 kA a V X pf)) {r : Int} {Vr : Sz} (hf : f_X7_restoreState V X = some (.inl (r, Vr))) : MZH l yL_restoreState cL_restoreState 3 (some .int) [(0, 8, 11, 54)] rmL_restoreState D kA [.ref (a 0), .ref b] (zO kA b T :: cs_X7 kA a V X pf) (zO kA b (up T 0 (nrm r)) :: cs_X7 kA a Vr X pf) (some (vI 0)) := by
  refine zHI (own := RL) rfl rfl (Nat.le_of_ble_eq_true rfl) ?_
  intro p e s m args below meth c ls Q hC hK hP hl hret
  have hl : lv_has ls 3 [(0, .ref (a 0)), (1, .ref b)] := hl
  have hS : va_S (zF (zO kA b T :: cs_X7 kA a V X pf)) s.heap s.heap [] := va_S.rf
  have hD0 : va_D (zF (zO kA b T :: cs_X7 kA a V X pf)) (zO kA b T :: cs_X7 kA a V X pf) := ⟨hD0.1, fun k q hk => ⟨k, q.2, hk⟩⟩
  generalize hAe : zF (zO kA b T :: cs_X7 kA a V X pf) = A0 at hS hD0 hret
  have hD : ∀ w : Sz × Sz, va_D A0 (zO kA b T :: cs_X7 kA a w.1 w.2 pf) := zDany (C := fun w : Sz × Sz => (zO kA b T :: cs_X7 kA a w.1 w.2 pf)) (V, X) (fun _ => rfl) hD0
  refine lv_aload_n hC.1 hC.2.1 dL_restoreState_0 rfl (lv_at hl 1 rfl) <| ziconst hC.1 hC.2.1 dL_restoreState_1 <| lv_aload_n hC.1 hC.2.1 dL_restoreState_2 rfl (lv_at hl 0 rfl) ?_
  have hDc : ∀ w : Sz, va_D (fun _ => True) (cs_X7 kA a w X pf) := fun w => (zDtail (hD (w, X))).weaken (fun _ _ _ _ => trivial)
  refine zcVZ (As := []) (rest := [vI 0, .ref b]) hC hK (met_X7_restoreState l D kA a pf V X hDc hf) zwL_128 hS (fun q h => h.elim fun k h => h.elim fun e h => (hD (V, X)).2 (k + 1) (q, e) h) (zPtail hP) (q0 := 0) rfl rfl rfl rfl hl.1 rfl (Nat.le_of_ble_eq_true rfl) ⟨(Nat.le_of_ble_eq_true rfl), (Nat.le_of_ble_eq_true rfl)⟩ ⟨rfl, rfl⟩ ⟨Nat.le_refl _, Nat.le_refl _⟩ dL_restoreState_3 (fun H locs hP1 hk1 hS => ?_)
  have hP : va_P D vwCl (zO kA b T :: cs_X7 kA a Vr X pf) H := zjoinA (A := [zO kA b T]) hP ((hD (V, X)).weaken (fun _ _ _ _ => trivial)) hk1 hP1
  have hD := hD (Vr, X)
  refine zi2n hC.1 hC.2.1 dL_restoreState_6 ?_
  refine jlas hC hK hP hD hS (q0 := 0) rfl (Nat.le_of_ble_eq_true rfl) (by decide) rfl dL_restoreState_7 (fun H locs hP hS => ?_)
  refine lv_goto (tgt := 14) hC.1 hC.2.1 dL_restoreState_8 (by decide) ?_
  refine ziconst hC.1 hC.2.1 dL_restoreState_14 ?_
  exact hret (Int32.ofInt 0) _ _ _ _ rfl hP hS dL_restoreState_15
