section LCS
variable {p : Program} {l : Launch} {e : Env} {s : State} {m : MethodId} {below : List Frame} {meth : Method} {c : Code} {H : Heap} {locs : List Loc} {cells slots : Nat} {Q : State → Prop}
variable {ls : Array Slot} {rest : List Value} {D : va_G} {kA : Nat → ClassId} {b L n : Nat} {xs : Nat → Int32} {adK adV : Nat → Nat} {a a8 : Nat → Nat} {bO bD : Nat}
theorem zwh_253 : zwH RL 253 yL_useOf cL_useOf 4 (some .int) [(0, 9, 12, 19)] 3 := ⟨⟨qw_1069, qw_1070, qw_0, (qin_5 (i := 111) rfl rfl)⟩, by decide +kernel, by decide +kernel, by decide +kernel⟩
theorem zwl_255 : zwV RL 255 RX8 yX8_useOf cX8_useOf 5 (some .int) 1 := ⟨⟨qw_1734, qw_1735, qw_1736, qw_9, qw_1737⟩, rfl, by decide +kernel, by decide +kernel, by decide +kernel⟩
theorem dr_32 : ∀ q ∈ cqRows [(1, false)] 2135 253 255, decode code q.1 = .ok q.2 := by decide +kernel
set_option maxHeartbeats 1000000 in
set_option maxRecDepth 100000 in
theorem ca_32 (hL : LC p l s m c b L xs D kA adK adV) (hI : LI D kA a a8 bO bD s H locs) (hl : lv_has ls 10 (lb a a8 bO bD b n)) (hn : n + 6 ≤ L) (hf : cells + 25 ≤ room_1.cells ∧ slots + 2046 ≤ room_1.slots)
    (kk : ∀ (H1 : Heap) (locs1 : List Loc) (ls1 : Array Slot), LI D kA a a8 bO bD s H1 locs1 → lv_has ls1 10 (lb a a8 bO bD b n) → W p l e room_1 s m #[Value.ref b] below meth c H1 locs1 (cells + 25) (slots + 2046) Q (F0 m 3089 ls1 [])) : W p l e room_1 s m #[Value.ref b] below meth c H locs cells slots Q (F0 m 2135 ls []) := by
  obtain ⟨pa, V, X, PV, K, V8, T, TD, hP, hD, hS, hrel⟩ := hI
  obtain ⟨⟨r, Vr⟩, h8, ho⟩ := ag_useOf (X := X) (n := 20001) (k := (ev xs n 1)) hrel (by decide) (ev_rng xs n 1)
  rcases ho with ⟨V1, h7, h9, hrel2⟩ | ⟨er, h7, h9, hne, hrel2⟩
  · have h7 : _ = some (Sum.inl (r, V1)) := h7
    have h9 : Vr 9 0 = 0 := h9
    have hrel2 : Rel V1 PV K Vr := hrel2
    exact jcQ (ks := [(1, false)]) (idx1 := 253) (idx2 := 255) hL hP hD hS hrel2 hl hn (by decide) (won_useOf l D kA a (zpf pa K) bO 20001 V X T (ev xs n 1) (hdQ hD) h7) zwh_253 ⟨Nat.le_of_ble_eq_true rfl, Nat.le_of_ble_eq_true rfl⟩ ⟨rfl, rfl⟩ (met_X8_useOf l D kA a8 20001 V8 (ev xs n 1) (hd8 hD) h8) zwl_255 ⟨Nat.le_of_ble_eq_true rfl, Nat.le_of_ble_eq_true rfl⟩ ⟨rfl, rfl⟩ h9 (if_pos rfl) ⟨by omega, by omega⟩ dr_32 (fun H1 locs1 ls1 q1 q2 => W.widen (k := cells + 25) (n := slots + 2046) (by omega) (by omega) (kk H1 locs1 ls1 q1 q2))
  · rcases cdA_ne hne with rfl
    · have h9 : Vr 9 0 = 1 := h9
      have hrel2 : Rel V PV K Vr := hrel2
      exact jcT (ks := [(1, false)]) (idx1 := 253) (idx2 := 255) (k := 1) hL hP hD hS hrel2 hl hn (by decide) pmQ (wth0_useOf l D kA a (zpf pa K) bO 20001 V X T (ev xs n 1) h7) zwh_253 ⟨Nat.le_of_ble_eq_true rfl, Nat.le_of_ble_eq_true rfl⟩ ⟨rfl, rfl⟩ (met_X8_useOf l D kA a8 20001 V8 (ev xs n 1) (hd8 hD) h8) zwl_255 ⟨Nat.le_of_ble_eq_true rfl, Nat.le_of_ble_eq_true rfl⟩ ⟨rfl, rfl⟩ h9 ⟨by decide, by decide⟩ (by decide) ⟨by omega, by omega⟩ dr_32 (fun H1 locs1 ls1 q1 q2 => W.widen (k := cells + 25) (n := slots + 2046) (by omega) (by omega) (kk H1 locs1 ls1 q1 q2))
theorem zwh_256 : zwH RL 256 yL_benefitRoom cL_benefitRoom 4 (some .int) [(0, 9, 12, 19)] 3 := ⟨⟨qw_1076, qw_1077, qw_0, (qin_5 (i := 118) rfl rfl)⟩, by decide +kernel, by decide +kernel, by decide +kernel⟩
theorem zwl_258 : zwV RL 258 RX8 yX8_benefitRoom cX8_benefitRoom 2 (some .int) 1 := ⟨⟨qw_1738, qw_1739, qw_1740, qw_9, qw_1741⟩, rfl, by decide +kernel, by decide +kernel, by decide +kernel⟩
theorem dr_33 : ∀ q ∈ cqRows [(1, false)] 2191 256 258, decode code q.1 = .ok q.2 := by decide +kernel
set_option maxHeartbeats 1000000 in
set_option maxRecDepth 100000 in
theorem ca_33 (hL : LC p l s m c b L xs D kA adK adV) (hI : LI D kA a a8 bO bD s H locs) (hl : lv_has ls 10 (lb a a8 bO bD b n)) (hn : n + 6 ≤ L) (hf : cells + 25 ≤ room_1.cells ∧ slots + 2046 ≤ room_1.slots)
    (kk : ∀ (H1 : Heap) (locs1 : List Loc) (ls1 : Array Slot), LI D kA a a8 bO bD s H1 locs1 → lv_has ls1 10 (lb a a8 bO bD b n) → W p l e room_1 s m #[Value.ref b] below meth c H1 locs1 (cells + 25) (slots + 2046) Q (F0 m 3089 ls1 [])) : W p l e room_1 s m #[Value.ref b] below meth c H locs cells slots Q (F0 m 2191 ls []) := by
  obtain ⟨pa, V, X, PV, K, V8, T, TD, hP, hD, hS, hrel⟩ := hI
  obtain ⟨⟨r, Vr⟩, h8, ho⟩ := ag_benefitRoom (X := X) (k := (ev xs n 1)) hrel.1 (ev_rng xs n 1)
  have hrel2 := asks_rel hrel ho
  obtain ⟨-, ⟨h9, h7⟩ | ⟨er, h7, h9, hne⟩⟩ := ho
  · have h7 : _ = some (Sum.inl r) := h7
    have h9 : Vr 9 0 = 0 := h9
    have hrel2 : Rel V PV K Vr := hrel2
    exact jcQ (ks := [(1, false)]) (idx1 := 256) (idx2 := 258) hL hP hD hS hrel2 hl hn (by decide) (won_benefitRoom l D kA a (zpf pa K) bO V X T (ev xs n 1) (hdQ hD) h7) zwh_256 ⟨Nat.le_of_ble_eq_true rfl, Nat.le_of_ble_eq_true rfl⟩ ⟨rfl, rfl⟩ (met_X8_benefitRoom l D kA a8 V8 (ev xs n 1) (hd8 hD) h8) zwl_258 ⟨Nat.le_of_ble_eq_true rfl, Nat.le_of_ble_eq_true rfl⟩ ⟨rfl, rfl⟩ h9 (if_pos rfl) ⟨by omega, by omega⟩ dr_33 (fun H1 locs1 ls1 q1 q2 => W.widen (k := cells + 25) (n := slots + 2046) (by omega) (by omega) (kk H1 locs1 ls1 q1 q2))
  · rcases cdA_ne hne with rfl
    · have h9 : Vr 9 0 = 1 := h9
      have hrel2 : Rel V PV K Vr := hrel2
      exact jcT (ks := [(1, false)]) (idx1 := 256) (idx2 := 258) (k := 1) hL hP hD hS hrel2 hl hn (by decide) pmQ (wth0_benefitRoom l D kA a (zpf pa K) bO V X T (ev xs n 1) h7) zwh_256 ⟨Nat.le_of_ble_eq_true rfl, Nat.le_of_ble_eq_true rfl⟩ ⟨rfl, rfl⟩ (met_X8_benefitRoom l D kA a8 V8 (ev xs n 1) (hd8 hD) h8) zwl_258 ⟨Nat.le_of_ble_eq_true rfl, Nat.le_of_ble_eq_true rfl⟩ ⟨rfl, rfl⟩ h9 ⟨by decide, by decide⟩ (by decide) ⟨by omega, by omega⟩ dr_33 (fun H1 locs1 ls1 q1 q2 => W.widen (k := cells + 25) (n := slots + 2046) (by omega) (by omega) (kk H1 locs1 ls1 q1 q2))
theorem zwh_259 : zwH RL 259 yL_topDonor cL_topDonor 4 (some .int) [(0, 9, 12, 13)] 3 := ⟨⟨qw_1083, qw_1084, qw_0, (qin_5 (i := 125) rfl rfl)⟩, by decide +kernel, by decide +kernel, by decide +kernel⟩
theorem zwl_261 : zwV RL 261 RX8 yX8_topDonor cX8_topDonor 4 (some .int) 1 := ⟨⟨qw_1742, qw_1743, qw_1744, qw_9, qw_1745⟩, rfl, by decide +kernel, by decide +kernel, by decide +kernel⟩
theorem dr_34 : ∀ q ∈ cqRows [(1, false)] 2247 259 261, decode code q.1 = .ok q.2 := by decide +kernel
set_option maxHeartbeats 1000000 in
set_option maxRecDepth 100000 in
theorem ca_34 (hL : LC p l s m c b L xs D kA adK adV) (hI : LI D kA a a8 bO bD s H locs) (hl : lv_has ls 10 (lb a a8 bO bD b n)) (hn : n + 6 ≤ L) (hf : cells + 25 ≤ room_1.cells ∧ slots + 2046 ≤ room_1.slots)
    (kk : ∀ (H1 : Heap) (locs1 : List Loc) (ls1 : Array Slot), LI D kA a a8 bO bD s H1 locs1 → lv_has ls1 10 (lb a a8 bO bD b n) → W p l e room_1 s m #[Value.ref b] below meth c H1 locs1 (cells + 25) (slots + 2046) Q (F0 m 3089 ls1 [])) : W p l e room_1 s m #[Value.ref b] below meth c H locs cells slots Q (F0 m 2247 ls []) := by
  obtain ⟨pa, V, X, PV, K, V8, T, TD, hP, hD, hS, hrel⟩ := hI
  obtain ⟨⟨r, Vr⟩, h8, ho⟩ := ag_topDonor (X := X) (n := 20001) (q := (ev xs n 1)) hrel.1 (by decide) (ev_rng xs n 1)
  have hrel2 := asks_rel hrel ho
  obtain ⟨-, ⟨h9, h7⟩ | ⟨er, h7, h9, hne⟩⟩ := ho
  · have h7 : _ = some (Sum.inl r) := h7
    have h9 : Vr 9 0 = 0 := h9
    have hrel2 : Rel V PV K Vr := hrel2
    exact jcQ (ks := [(1, false)]) (idx1 := 259) (idx2 := 261) hL hP hD hS hrel2 hl hn (by decide) (won_topDonor l D kA a (zpf pa K) bO 20001 V X T (ev xs n 1) (hdQ hD) h7) zwh_259 ⟨Nat.le_of_ble_eq_true rfl, Nat.le_of_ble_eq_true rfl⟩ ⟨rfl, rfl⟩ (met_X8_topDonor l D kA a8 20001 V8 (ev xs n 1) (hd8 hD) h8) zwl_261 ⟨Nat.le_of_ble_eq_true rfl, Nat.le_of_ble_eq_true rfl⟩ ⟨rfl, rfl⟩ h9 (if_pos rfl) ⟨by omega, by omega⟩ dr_34 (fun H1 locs1 ls1 q1 q2 => W.widen (k := cells + 25) (n := slots + 2046) (by omega) (by omega) (kk H1 locs1 ls1 q1 q2))
  · rcases cdI_ne hne with rfl
    · have h9 : Vr 9 0 = 1 := h9
      have hrel2 : Rel V PV K Vr := hrel2
      exact jcT (ks := [(1, false)]) (idx1 := 259) (idx2 := 261) (k := 1) hL hP hD hS hrel2 hl hn (by decide) pmQ (wth1_topDonor l D kA a (zpf pa K) bO 20001 V X T (ev xs n 1) h7) zwh_259 ⟨Nat.le_of_ble_eq_true rfl, Nat.le_of_ble_eq_true rfl⟩ ⟨rfl, rfl⟩ (met_X8_topDonor l D kA a8 20001 V8 (ev xs n 1) (hd8 hD) h8) zwl_261 ⟨Nat.le_of_ble_eq_true rfl, Nat.le_of_ble_eq_true rfl⟩ ⟨rfl, rfl⟩ h9 ⟨by decide, by decide⟩ (by decide) ⟨by omega, by omega⟩ dr_34 (fun H1 locs1 ls1 q1 q2 => W.widen (k := cells + 25) (n := slots + 2046) (by omega) (by omega) (kk H1 locs1 ls1 q1 q2))
theorem zwh_266 : zwH RL 266 yL_longestSpan cL_longestSpan 4 (some .int) [(0, 9, 12, 19)] 3 := ⟨⟨qw_1090, qw_1091, qw_0, (qin_5 (i := 132) rfl rfl)⟩, by decide +kernel, by decide +kernel, by decide +kernel⟩
theorem zwl_268 : zwV RL 268 RX8 yX8_longestSpan cX8_longestSpan 5 (some .int) 1 := ⟨⟨qw_1619, qw_1620, qw_1621, qw_9, qw_1622⟩, rfl, by decide +kernel, by decide +kernel, by decide +kernel⟩
theorem dr_36 : ∀ q ∈ cqRows [(1, false)] 2316 266 268, decode code q.1 = .ok q.2 := by decide +kernel
set_option maxHeartbeats 1000000 in
set_option maxRecDepth 100000 in
theorem ca_36 (hL : LC p l s m c b L xs D kA adK adV) (hI : LI D kA a a8 bO bD s H locs) (hl : lv_has ls 10 (lb a a8 bO bD b n)) (hn : n + 6 ≤ L) (hf : cells + 25 ≤ room_1.cells ∧ slots + 2046 ≤ room_1.slots)
    (kk : ∀ (H1 : Heap) (locs1 : List Loc) (ls1 : Array Slot), LI D kA a a8 bO bD s H1 locs1 → lv_has ls1 10 (lb a a8 bO bD b n) → W p l e room_1 s m #[Value.ref b] below meth c H1 locs1 (cells + 25) (slots + 2046) Q (F0 m 3089 ls1 [])) : W p l e room_1 s m #[Value.ref b] below meth c H locs cells slots Q (F0 m 2316 ls []) := by
  obtain ⟨pa, V, X, PV, K, V8, T, TD, hP, hD, hS, hrel⟩ := hI
  obtain ⟨⟨r, Vr⟩, h8, ho⟩ := ag_longestSpan (X := X) (n := 20001) (k := (ev xs n 1)) hrel.1 (by decide) (ev_rng xs n 1)
  have hrel2 := asks_rel hrel ho
  obtain ⟨-, ⟨h9, h7⟩ | ⟨er, h7, h9, hne⟩⟩ := ho
  · have h7 : _ = some (Sum.inl r) := h7
    have h9 : Vr 9 0 = 0 := h9
    have hrel2 : Rel V PV K Vr := hrel2
    exact jcQ (ks := [(1, false)]) (idx1 := 266) (idx2 := 268) hL hP hD hS hrel2 hl hn (by decide) (won_longestSpan l D kA a (zpf pa K) bO 20001 V X T (ev xs n 1) (hdQ hD) h7) zwh_266 ⟨Nat.le_of_ble_eq_true rfl, Nat.le_of_ble_eq_true rfl⟩ ⟨rfl, rfl⟩ (met_X8_longestSpan l D kA a8 20001 V8 (ev xs n 1) (hd8 hD) h8) zwl_268 ⟨Nat.le_of_ble_eq_true rfl, Nat.le_of_ble_eq_true rfl⟩ ⟨rfl, rfl⟩ h9 (if_pos rfl) ⟨by omega, by omega⟩ dr_36 (fun H1 locs1 ls1 q1 q2 => W.widen (k := cells + 25) (n := slots + 2046) (by omega) (by omega) (kk H1 locs1 ls1 q1 q2))
  · rcases cdA_ne hne with rfl
    · have h9 : Vr 9 0 = 1 := h9
      have hrel2 : Rel V PV K Vr := hrel2
      exact jcT (ks := [(1, false)]) (idx1 := 266) (idx2 := 268) (k := 1) hL hP hD hS hrel2 hl hn (by decide) pmQ (wth0_longestSpan l D kA a (zpf pa K) bO 20001 V X T (ev xs n 1) h7) zwh_266 ⟨Nat.le_of_ble_eq_true rfl, Nat.le_of_ble_eq_true rfl⟩ ⟨rfl, rfl⟩ (met_X8_longestSpan l D kA a8 20001 V8 (ev xs n 1) (hd8 hD) h8) zwl_268 ⟨Nat.le_of_ble_eq_true rfl, Nat.le_of_ble_eq_true rfl⟩ ⟨rfl, rfl⟩ h9 ⟨by decide, by decide⟩ (by decide) ⟨by omega, by omega⟩ dr_36 (fun H1 locs1 ls1 q1 q2 => W.widen (k := cells + 25) (n := slots + 2046) (by omega) (by omega) (kk H1 locs1 ls1 q1 q2))
theorem zwh_269 : zwH RL 269 yL_gainOf cL_gainOf 6 (some .int) [(0, 12, 15, 19), (0, 12, 19, 13)] 5 := ⟨⟨qw_1101, qw_1102, qw_0, (qin_5 (i := 143) rfl rfl)⟩, by decide +kernel, by decide +kernel, by decide +kernel⟩
theorem zwl_271 : zwV RL 271 RX8 yX8_gainOf cX8_gainOf 4 (some .int) 3 := ⟨⟨qw_1750, qw_1751, qw_1752, qw_9, qw_1753⟩, rfl, by decide +kernel, by decide +kernel, by decide +kernel⟩
theorem dr_37 : ∀ q ∈ cqRows [(1, false), (2, false), (3, false)] 2372 269 271, decode code q.1 = .ok q.2 := by decide +kernel
set_option maxHeartbeats 1000000 in
set_option maxRecDepth 100000 in
theorem ca_37 (hL : LC p l s m c b L xs D kA adK adV) (hI : LI D kA a a8 bO bD s H locs) (hl : lv_has ls 10 (lb a a8 bO bD b n)) (hn : n + 6 ≤ L) (hf : cells + 25 ≤ room_1.cells ∧ slots + 2046 ≤ room_1.slots)
    (kk : ∀ (H1 : Heap) (locs1 : List Loc) (ls1 : Array Slot), LI D kA a a8 bO bD s H1 locs1 → lv_has ls1 10 (lb a a8 bO bD b n) → W p l e room_1 s m #[Value.ref b] below meth c H1 locs1 (cells + 25) (slots + 2046) Q (F0 m 3089 ls1 [])) : W p l e room_1 s m #[Value.ref b] below meth c H locs cells slots Q (F0 m 2372 ls []) := by
  obtain ⟨pa, V, X, PV, K, V8, T, TD, hP, hD, hS, hrel⟩ := hI
  obtain ⟨⟨r, Vr⟩, h8, ho⟩ := ag_gainOf (X := X) (n := 20001) (d := (ev xs n 1)) (a := (ev xs n 2)) (b := (ev xs n 3)) hrel.1 (by decide) (ev_rng xs n 1) (ev_rng xs n 2) (ev_rng xs n 3)
  have hrel2 := askw_rel hrel ho
  obtain ⟨-, -, ⟨h9, h7⟩ | ⟨er, h7, h9, hne⟩⟩ := ho
  · have h7 : _ = some (Sum.inl r) := h7
    have h9 : Vr 9 0 = 0 := h9
    have hrel2 : Rel V PV K Vr := hrel2
    exact jcQ (ks := [(1, false), (2, false), (3, false)]) (idx1 := 269) (idx2 := 271) hL hP hD hS hrel2 hl hn (by decide) (won_gainOf l D kA a (zpf pa K) bO 20001 V X T (ev xs n 1) (ev xs n 2) (ev xs n 3) (hdQ hD) h7) zwh_269 ⟨Nat.le_of_ble_eq_true rfl, Nat.le_of_ble_eq_true rfl⟩ ⟨rfl, rfl⟩ (met_X8_gainOf l D kA a8 20001 V8 (ev xs n 1) (ev xs n 2) (ev xs n 3) (hd8 hD) h8) zwl_271 ⟨Nat.le_of_ble_eq_true rfl, Nat.le_of_ble_eq_true rfl⟩ ⟨rfl, rfl⟩ h9 (if_pos rfl) ⟨by omega, by omega⟩ dr_37 (fun H1 locs1 ls1 q1 q2 => W.widen (k := cells + 25) (n := slots + 2046) (by omega) (by omega) (kk H1 locs1 ls1 q1 q2))
  · rcases cdB_ne hne with rfl | rfl
    · have h9 : Vr 9 0 = 1 := h9
      have hrel2 : Rel V PV K Vr := hrel2
      exact jcT (ks := [(1, false), (2, false), (3, false)]) (idx1 := 269) (idx2 := 271) (k := 1) hL hP hD hS hrel2 hl hn (by decide) pmQ (wth0_gainOf l D kA a (zpf pa K) bO 20001 V X T (ev xs n 1) (ev xs n 2) (ev xs n 3) h7) zwh_269 ⟨Nat.le_of_ble_eq_true rfl, Nat.le_of_ble_eq_true rfl⟩ ⟨rfl, rfl⟩ (met_X8_gainOf l D kA a8 20001 V8 (ev xs n 1) (ev xs n 2) (ev xs n 3) (hd8 hD) h8) zwl_271 ⟨Nat.le_of_ble_eq_true rfl, Nat.le_of_ble_eq_true rfl⟩ ⟨rfl, rfl⟩ h9 ⟨by decide, by decide⟩ (by decide) ⟨by omega, by omega⟩ dr_37 (fun H1 locs1 ls1 q1 q2 => W.widen (k := cells + 25) (n := slots + 2046) (by omega) (by omega) (kk H1 locs1 ls1 q1 q2))
    · have h9 : Vr 9 0 = 2 := h9
      have hrel2 : Rel V PV K Vr := hrel2
      exact jcT (ks := [(1, false), (2, false), (3, false)]) (idx1 := 269) (idx2 := 271) (k := 2) hL hP hD hS hrel2 hl hn (by decide) pmQ (wth1_gainOf l D kA a (zpf pa K) bO 20001 V X T (ev xs n 1) (ev xs n 2) (ev xs n 3) h7) zwh_269 ⟨Nat.le_of_ble_eq_true rfl, Nat.le_of_ble_eq_true rfl⟩ ⟨rfl, rfl⟩ (met_X8_gainOf l D kA a8 20001 V8 (ev xs n 1) (ev xs n 2) (ev xs n 3) (hd8 hD) h8) zwl_271 ⟨Nat.le_of_ble_eq_true rfl, Nat.le_of_ble_eq_true rfl⟩ ⟨rfl, rfl⟩ h9 ⟨by decide, by decide⟩ (by decide) ⟨by omega, by omega⟩ dr_37 (fun H1 locs1 ls1 q1 q2 => W.widen (k := cells + 25) (n := slots + 2046) (by omega) (by omega) (kk H1 locs1 ls1 q1 q2))
theorem zwh_276 : zwH RL 276 yL_neededSpan cL_neededSpan 5 (some .int) [(0, 10, 13, 19)] 4 := ⟨⟨qw_1108, qw_1109, qw_0, (qin_5 (i := 150) rfl rfl)⟩, by decide +kernel, by decide +kernel, by decide +kernel⟩
theorem zwl_278 : zwV RL 278 RX8 yX8_neededSpan cX8_neededSpan 10 (some .int) 2 := ⟨⟨qw_1762, qw_1763, qw_1764, qw_9, qw_1765⟩, rfl, by decide +kernel, by decide +kernel, by decide +kernel⟩
theorem dr_39 : ∀ q ∈ cqRows [(1, false), (2, true)] 2465 276 278, decode code q.1 = .ok q.2 := by decide +kernel
set_option maxHeartbeats 1000000 in
set_option maxRecDepth 100000 in
theorem ca_39 (hL : LC p l s m c b L xs D kA adK adV) (hI : LI D kA a a8 bO bD s H locs) (hl : lv_has ls 10 (lb a a8 bO bD b n)) (hn : n + 6 ≤ L) (hf : cells + 25 ≤ room_1.cells ∧ slots + 2046 ≤ room_1.slots)
    (kk : ∀ (H1 : Heap) (locs1 : List Loc) (ls1 : Array Slot), LI D kA a a8 bO bD s H1 locs1 → lv_has ls1 10 (lb a a8 bO bD b n) → W p l e room_1 s m #[Value.ref b] below meth c H1 locs1 (cells + 25) (slots + 2046) Q (F0 m 3089 ls1 [])) : W p l e room_1 s m #[Value.ref b] below meth c H locs cells slots Q (F0 m 2465 ls []) := by
  obtain ⟨pa, V, X, PV, K, V8, T, TD, hP, hD, hS, hrel⟩ := hI
  obtain ⟨⟨r, Vr⟩, h8, ho⟩ := ag_neededSpan (X := X) (n := 20001) (d := (ev xs n 1)) (e := (bn (ev xs n 2))) hrel.1 (by decide) (ev_rng xs n 1) (bn_rng _)
  have hrel2 := askw_rel hrel ho
  obtain ⟨-, -, ⟨h9, h7⟩ | ⟨er, h7, h9, hne⟩⟩ := ho
  · have h7 : _ = some (Sum.inl r) := h7
    have h9 : Vr 9 0 = 0 := h9
    have hrel2 : Rel V PV K Vr := hrel2
    exact jcQ (ks := [(1, false), (2, true)]) (idx1 := 276) (idx2 := 278) hL hP hD hS hrel2 hl hn (by decide) (won_neededSpan l D kA a (zpf pa K) bO 20001 V X T (ev xs n 1) (bn (ev xs n 2)) (hdQ hD) h7) zwh_276 ⟨Nat.le_of_ble_eq_true rfl, Nat.le_of_ble_eq_true rfl⟩ ⟨rfl, rfl⟩ (met_X8_neededSpan l D kA a8 20001 V8 (ev xs n 1) (bn (ev xs n 2)) (hd8 hD) h8) zwl_278 ⟨Nat.le_of_ble_eq_true rfl, Nat.le_of_ble_eq_true rfl⟩ ⟨rfl, rfl⟩ h9 (if_pos rfl) ⟨by omega, by omega⟩ dr_39 (fun H1 locs1 ls1 q1 q2 => W.widen (k := cells + 25) (n := slots + 2046) (by omega) (by omega) (kk H1 locs1 ls1 q1 q2))
  · rcases cdA_ne hne with rfl
    · have h9 : Vr 9 0 = 1 := h9
      have hrel2 : Rel V PV K Vr := hrel2
      exact jcT (ks := [(1, false), (2, true)]) (idx1 := 276) (idx2 := 278) (k := 1) hL hP hD hS hrel2 hl hn (by decide) pmQ (wth0_neededSpan l D kA a (zpf pa K) bO 20001 V X T (ev xs n 1) (bn (ev xs n 2)) h7) zwh_276 ⟨Nat.le_of_ble_eq_true rfl, Nat.le_of_ble_eq_true rfl⟩ ⟨rfl, rfl⟩ (met_X8_neededSpan l D kA a8 20001 V8 (ev xs n 1) (bn (ev xs n 2)) (hd8 hD) h8) zwl_278 ⟨Nat.le_of_ble_eq_true rfl, Nat.le_of_ble_eq_true rfl⟩ ⟨rfl, rfl⟩ h9 ⟨by decide, by decide⟩ (by decide) ⟨by omega, by omega⟩ dr_39 (fun H1 locs1 ls1 q1 q2 => W.widen (k := cells + 25) (n := slots + 2046) (by omega) (by omega) (kk H1 locs1 ls1 q1 q2))
theorem zwh_279 : zwH RL 279 yL_gainOfSplit cL_gainOfSplit 5 (some .int) [(0, 10, 13, 19)] 4 := ⟨⟨qw_1119, qw_1120, qw_0, (qin_5 (i := 161) rfl rfl)⟩, by decide +kernel, by decide +kernel, by decide +kernel⟩
theorem zwl_281 : zwV RL 281 RX8 yX8_gainOfSplit cX8_gainOfSplit 5 (some .int) 2 := ⟨⟨qw_1770, qw_1771, qw_1772, qw_9, qw_1773⟩, rfl, by decide +kernel, by decide +kernel, by decide +kernel⟩
theorem dr_40 : ∀ q ∈ cqRows [(1, false), (2, false)] 2549 279 281, decode code q.1 = .ok q.2 := by decide +kernel
set_option maxHeartbeats 1000000 in
set_option maxRecDepth 100000 in
theorem ca_40 (hL : LC p l s m c b L xs D kA adK adV) (hI : LI D kA a a8 bO bD s H locs) (hl : lv_has ls 10 (lb a a8 bO bD b n)) (hn : n + 6 ≤ L) (hf : cells + 25 ≤ room_1.cells ∧ slots + 2046 ≤ room_1.slots)
    (kk : ∀ (H1 : Heap) (locs1 : List Loc) (ls1 : Array Slot), LI D kA a a8 bO bD s H1 locs1 → lv_has ls1 10 (lb a a8 bO bD b n) → W p l e room_1 s m #[Value.ref b] below meth c H1 locs1 (cells + 25) (slots + 2046) Q (F0 m 3089 ls1 [])) : W p l e room_1 s m #[Value.ref b] below meth c H locs cells slots Q (F0 m 2549 ls []) := by
  obtain ⟨pa, V, X, PV, K, V8, T, TD, hP, hD, hS, hrel⟩ := hI
  obtain ⟨⟨r, Vr⟩, h8, ho⟩ := ag_gainOfSplit (X := X) (n := 20001) (g := (ev xs n 1)) (o := (ev xs n 2)) hrel (by decide) (ev_rng xs n 1) (ev_rng xs n 2)
  rcases ho with ⟨V1, h7, h9, hrel2⟩ | ⟨er, h7, h9, hne, hrel2⟩
  · have h7 : _ = some (Sum.inl (r, V1)) := h7
    have h9 : Vr 9 0 = 0 := h9
    have hrel2 : Rel V1 PV K Vr := hrel2
    exact jcQ (ks := [(1, false), (2, false)]) (idx1 := 279) (idx2 := 281) hL hP hD hS hrel2 hl hn (by decide) (won_gainOfSplit l D kA a (zpf pa K) bO 20001 V X T (ev xs n 1) (ev xs n 2) (hdQ hD) h7) zwh_279 ⟨Nat.le_of_ble_eq_true rfl, Nat.le_of_ble_eq_true rfl⟩ ⟨rfl, rfl⟩ (met_X8_gainOfSplit l D kA a8 20001 V8 (ev xs n 1) (ev xs n 2) (hd8 hD) h8) zwl_281 ⟨Nat.le_of_ble_eq_true rfl, Nat.le_of_ble_eq_true rfl⟩ ⟨rfl, rfl⟩ h9 (if_pos rfl) ⟨by omega, by omega⟩ dr_40 (fun H1 locs1 ls1 q1 q2 => W.widen (k := cells + 25) (n := slots + 2046) (by omega) (by omega) (kk H1 locs1 ls1 q1 q2))
  · rcases cdA_ne hne with rfl
    · have h9 : Vr 9 0 = 1 := h9
      have hrel2 : Rel V PV K Vr := hrel2
      exact jcT (ks := [(1, false), (2, false)]) (idx1 := 279) (idx2 := 281) (k := 1) hL hP hD hS hrel2 hl hn (by decide) pmQ (wth0_gainOfSplit l D kA a (zpf pa K) bO 20001 V X T (ev xs n 1) (ev xs n 2) h7) zwh_279 ⟨Nat.le_of_ble_eq_true rfl, Nat.le_of_ble_eq_true rfl⟩ ⟨rfl, rfl⟩ (met_X8_gainOfSplit l D kA a8 20001 V8 (ev xs n 1) (ev xs n 2) (hd8 hD) h8) zwl_281 ⟨Nat.le_of_ble_eq_true rfl, Nat.le_of_ble_eq_true rfl⟩ ⟨rfl, rfl⟩ h9 ⟨by decide, by decide⟩ (by decide) ⟨by omega, by omega⟩ dr_40 (fun H1 locs1 ls1 q1 q2 => W.widen (k := cells + 25) (n := slots + 2046) (by omega) (by omega) (kk H1 locs1 ls1 q1 q2))
theorem zwh_282 : zwH RL 282 yL_sample cL_sample 6 (some .int) [(0, 12, 15, 13)] 5 := ⟨⟨qw_1126, qw_1127, qw_0, (qin_5 (i := 168) rfl rfl)⟩, by decide +kernel, by decide +kernel, by decide +kernel⟩
theorem zwl_284 : zwV RL 284 RX8 yX8_sample cX8_sample 4 (some .int) 3 := ⟨⟨qw_1782, qw_1783, qw_1784, qw_9, qw_1785⟩, rfl, by decide +kernel, by decide +kernel, by decide +kernel⟩
theorem dr_41 : ∀ q ∈ cqRows [(1, false), (2, false), (3, false)] 2617 282 284, decode code q.1 = .ok q.2 := by decide +kernel
set_option maxHeartbeats 1000000 in
set_option maxRecDepth 100000 in
theorem ca_41 (hL : LC p l s m c b L xs D kA adK adV) (hI : LI D kA a a8 bO bD s H locs) (hl : lv_has ls 10 (lb a a8 bO bD b n)) (hn : n + 6 ≤ L) (hf : cells + 25 ≤ room_1.cells ∧ slots + 2046 ≤ room_1.slots)
    (kk : ∀ (H1 : Heap) (locs1 : List Loc) (ls1 : Array Slot), LI D kA a a8 bO bD s H1 locs1 → lv_has ls1 10 (lb a a8 bO bD b n) → W p l e room_1 s m #[Value.ref b] below meth c H1 locs1 (cells + 25) (slots + 2046) Q (F0 m 3089 ls1 [])) : W p l e room_1 s m #[Value.ref b] below meth c H locs cells slots Q (F0 m 2617 ls []) := by
  obtain ⟨pa, V, X, PV, K, V8, T, TD, hP, hD, hS, hrel⟩ := hI
  obtain ⟨⟨r, Vr⟩, h8, ho⟩ := ag_sample (X := X) (n := 20001) (size := (ev xs n 1)) (seed := (ev xs n 2)) (i := (ev xs n 3)) hrel (by decide) (ev_rng xs n 1) (ev_rng xs n 3)
  rcases ho with ⟨V1, h7, h9, hrel2⟩ | ⟨er, h7, h9, hne, hrel2⟩
  · have h7 : _ = some (Sum.inl (r, V1)) := h7
    have h9 : Vr 9 0 = 0 := h9
    have hrel2 : Rel V1 PV K Vr := hrel2
    exact jcQ (ks := [(1, false), (2, false), (3, false)]) (idx1 := 282) (idx2 := 284) hL hP hD hS hrel2 hl hn (by decide) (won_sample l D kA a (zpf pa K) bO 20001 V X T (ev xs n 1) (ev xs n 2) (ev xs n 3) (hdQ hD) h7) zwh_282 ⟨Nat.le_of_ble_eq_true rfl, Nat.le_of_ble_eq_true rfl⟩ ⟨rfl, rfl⟩ (met_X8_sample l D kA a8 20001 V8 (ev xs n 1) (ev xs n 2) (ev xs n 3) (hd8 hD) h8) zwl_284 ⟨Nat.le_of_ble_eq_true rfl, Nat.le_of_ble_eq_true rfl⟩ ⟨rfl, rfl⟩ h9 (if_pos rfl) ⟨by omega, by omega⟩ dr_41 (fun H1 locs1 ls1 q1 q2 => W.widen (k := cells + 25) (n := slots + 2046) (by omega) (by omega) (kk H1 locs1 ls1 q1 q2))
  · rcases cdI_ne hne with rfl
    · have h9 : Vr 9 0 = 1 := h9
      have hrel2 : Rel V PV K Vr := hrel2
      exact jcT (ks := [(1, false), (2, false), (3, false)]) (idx1 := 282) (idx2 := 284) (k := 1) hL hP hD hS hrel2 hl hn (by decide) pmQ (wth1_sample l D kA a (zpf pa K) bO 20001 V X T (ev xs n 1) (ev xs n 2) (ev xs n 3) h7) zwh_282 ⟨Nat.le_of_ble_eq_true rfl, Nat.le_of_ble_eq_true rfl⟩ ⟨rfl, rfl⟩ (met_X8_sample l D kA a8 20001 V8 (ev xs n 1) (ev xs n 2) (ev xs n 3) (hd8 hD) h8) zwl_284 ⟨Nat.le_of_ble_eq_true rfl, Nat.le_of_ble_eq_true rfl⟩ ⟨rfl, rfl⟩ h9 ⟨by decide, by decide⟩ (by decide) ⟨by omega, by omega⟩ dr_41 (fun H1 locs1 ls1 q1 q2 => W.widen (k := cells + 25) (n := slots + 2046) (by omega) (by omega) (kk H1 locs1 ls1 q1 q2))
end LCS
