section LCS
variable {p : Program} {l : Launch} {e : Env} {s : State} {m : MethodId} {below : List Frame} {meth : Method} {c : Code} {H : Heap} {locs : List Loc} {cells slots : Nat} {Q : State → Prop}
variable {ls : Array Slot} {rest : List Value} {D : va_G} {kA : Nat → ClassId} {b L n : Nat} {xs : Nat → Int32} {adK adV : Nat → Nat} {a a8 : Nat → Nat} {bO bD : Nat}
theorem zwl_136 : zwV RL 136 RX7 yX7_appendInput cX7_appendInput 6 (some .int) 5 := ⟨⟨qw_320, qw_321, qw_322, qw_1, qw_323⟩, rfl, by decide +kernel, by decide +kernel, by decide +kernel⟩
theorem zwl_140 : zwV RL 140 RX8 yX8_appendInput cX8_appendInput 6 (some .int) 5 := ⟨⟨qw_1306, qw_1307, qw_1308, qw_9, qw_1309⟩, rfl, by decide +kernel, by decide +kernel, by decide +kernel⟩
theorem dr_0 : ∀ q ∈ cdRows [(1, false), (2, false), (3, false), (4, false), (5, false)] 264 136 140, decode code q.1 = .ok q.2 := by decide +kernel
set_option maxHeartbeats 1000000 in
set_option maxRecDepth 100000 in
theorem ca_0 (hL : LC p l s m c b L xs D kA adK adV) (hI : LI D kA a a8 bO bD s H locs) (hl : lv_has ls 10 (lb a a8 bO bD b n)) (hn : n + 6 ≤ L) (hf : cells + 25 ≤ room_1.cells ∧ slots + 2046 ≤ room_1.slots)
    (kk : ∀ (H1 : Heap) (locs1 : List Loc) (ls1 : Array Slot), LI D kA a a8 bO bD s H1 locs1 → lv_has ls1 10 (lb a a8 bO bD b n) → W p l e room_1 s m #[Value.ref b] below meth c H1 locs1 (cells + 25) (slots + 2046) Q (F0 m 3089 ls1 [])) : W p l e room_1 s m #[Value.ref b] below meth c H locs cells slots Q (F0 m 264 ls []) := by
  obtain ⟨pa, V, X, PV, K, V8, T, TD, hP, hD, hS, hrel⟩ := hI
  obtain ⟨⟨r, Vr⟩, h8, ho⟩ := ag_appendInput (X := X) (n := 20001) (x1 := (ev xs n 1)) (x2 := (ev xs n 2)) (x3 := (ev xs n 3)) (x4 := (ev xs n 4)) (x5 := (ev xs n 5)) hrel (by decide) (ev_rng xs n 1) (ev_rng xs n 2) (ev_rng xs n 3) (ev_rng xs n 4) (ev_rng xs n 5)
  obtain ⟨V1, h7, hrel2⟩ := ho
  have h7 : _ = some (r, V1) := h7
  have hrel2 : Rel V1 PV K Vr := hrel2
  exact jdZ (ks := [(1, false), (2, false), (3, false), (4, false), (5, false)]) (idx1 := 136) (idx2 := 140) hL hP hD hS hrel2 hl hn (by decide) (met_X7_appendInput l D kA a (zpf pa K) 20001 V X (ev xs n 1) (ev xs n 2) (ev xs n 3) (ev xs n 4) (ev xs n 5) (hd7 hD) h7) zwl_136 ⟨Nat.le_of_ble_eq_true rfl, Nat.le_of_ble_eq_true rfl⟩ ⟨rfl, rfl⟩ (met_X8_appendInput l D kA a8 20001 V8 (ev xs n 1) (ev xs n 2) (ev xs n 3) (ev xs n 4) (ev xs n 5) (hd8 hD) h8) zwl_140 ⟨Nat.le_of_ble_eq_true rfl, Nat.le_of_ble_eq_true rfl⟩ ⟨rfl, rfl⟩ ⟨by omega, by omega⟩ dr_0 (fun H1 locs1 ls1 q1 q2 => W.widen (k := cells + 25) (n := slots + 2046) (by omega) (by omega) (kk H1 locs1 ls1 q1 q2))
theorem zwl_141 : zwV RL 141 RX7 yX7_truncateInput cX7_truncateInput 2 (some .boolean) 1 := ⟨⟨qw_328, qw_329, qw_330, qw_1, qw_331⟩, rfl, by decide +kernel, by decide +kernel, by decide +kernel⟩
theorem zwl_145 : zwV RL 145 RX8 yX8_truncateInput cX8_truncateInput 2 (some .boolean) 1 := ⟨⟨qw_1314, qw_1315, qw_1316, qw_9, qw_1317⟩, rfl, by decide +kernel, by decide +kernel, by decide +kernel⟩
theorem dr_1 : ∀ q ∈ cdRows [(1, false)] 337 141 145, decode code q.1 = .ok q.2 := by decide +kernel
set_option maxHeartbeats 1000000 in
set_option maxRecDepth 100000 in
theorem ca_1 (hL : LC p l s m c b L xs D kA adK adV) (hI : LI D kA a a8 bO bD s H locs) (hl : lv_has ls 10 (lb a a8 bO bD b n)) (hn : n + 6 ≤ L) (hf : cells + 25 ≤ room_1.cells ∧ slots + 2046 ≤ room_1.slots)
    (kk : ∀ (H1 : Heap) (locs1 : List Loc) (ls1 : Array Slot), LI D kA a a8 bO bD s H1 locs1 → lv_has ls1 10 (lb a a8 bO bD b n) → W p l e room_1 s m #[Value.ref b] below meth c H1 locs1 (cells + 25) (slots + 2046) Q (F0 m 3089 ls1 [])) : W p l e room_1 s m #[Value.ref b] below meth c H locs cells slots Q (F0 m 337 ls []) := by
  obtain ⟨pa, V, X, PV, K, V8, T, TD, hP, hD, hS, hrel⟩ := hI
  obtain ⟨⟨r, Vr⟩, h8, ho⟩ := ag_truncateInput (X := X) (x := (ev xs n 1)) hrel (ev_rng xs n 1)
  obtain ⟨V1, h7, hrel2⟩ := ho
  have h7 : _ = some (r, V1) := h7
  have hrel2 : Rel V1 PV K Vr := hrel2
  exact jdZ (ks := [(1, false)]) (idx1 := 141) (idx2 := 145) hL hP hD hS hrel2 hl hn (by decide) (met_X7_truncateInput l D kA a (zpf pa K) V X (ev xs n 1) (hd7 hD) h7) zwl_141 ⟨Nat.le_of_ble_eq_true rfl, Nat.le_of_ble_eq_true rfl⟩ ⟨rfl, rfl⟩ (met_X8_truncateInput l D kA a8 V8 (ev xs n 1) (hd8 hD) h8) zwl_145 ⟨Nat.le_of_ble_eq_true rfl, Nat.le_of_ble_eq_true rfl⟩ ⟨rfl, rfl⟩ ⟨by omega, by omega⟩ dr_1 (fun H1 locs1 ls1 q1 q2 => W.widen (k := cells + 25) (n := slots + 2046) (by omega) (by omega) (kk H1 locs1 ls1 q1 q2))
theorem zwl_146 : zwV RL 146 RX7 yX7_loadRegister cX7_loadRegister 1 (some .int) 0 := ⟨⟨qw_332, qw_333, qw_334, qw_1, qw_335⟩, rfl, by decide +kernel, by decide +kernel, by decide +kernel⟩
theorem zwl_149 : zwV RL 149 RX8 yX8_loadRegister cX8_loadRegister 2 (some .int) 0 := ⟨⟨qw_1321, qw_1322, qw_1323, qw_9, qw_1324⟩, rfl, by decide +kernel, by decide +kernel, by decide +kernel⟩
theorem dr_2 : ∀ q ∈ cdRows [] 362 146 149, decode code q.1 = .ok q.2 := by decide +kernel
set_option maxHeartbeats 1000000 in
set_option maxRecDepth 100000 in
theorem ca_2 (hL : LC p l s m c b L xs D kA adK adV) (hI : LI D kA a a8 bO bD s H locs) (hl : lv_has ls 10 (lb a a8 bO bD b n)) (hn : n + 6 ≤ L) (hf : cells + 25 ≤ room_1.cells ∧ slots + 2046 ≤ room_1.slots)
    (kk : ∀ (H1 : Heap) (locs1 : List Loc) (ls1 : Array Slot), LI D kA a a8 bO bD s H1 locs1 → lv_has ls1 10 (lb a a8 bO bD b n) → W p l e room_1 s m #[Value.ref b] below meth c H1 locs1 (cells + 25) (slots + 2046) Q (F0 m 3089 ls1 [])) : W p l e room_1 s m #[Value.ref b] below meth c H locs cells slots Q (F0 m 362 ls []) := by
  obtain ⟨pa, V, X, PV, K, V8, T, TD, hP, hD, hS, hrel⟩ := hI
  obtain ⟨⟨r, Vr⟩, h8, ho⟩ := ag_loadRegister (X := X) (n := 20001) hrel (by decide)
  obtain ⟨-, V1, X1, h7, hrel2⟩ := ho
  have h7 : _ = some (r, V1, X1) := h7
  have hrel2 : Rel V1 PV K Vr := hrel2
  exact jdS (ks := []) (idx1 := 146) (idx2 := 149) hL hP hD hS hrel2 hl hn (by decide) (met_X7_loadRegister l D kA a (zpf pa K) 20001 V X (hd77 hD) h7) zwl_146 ⟨Nat.le_of_ble_eq_true rfl, Nat.le_of_ble_eq_true rfl⟩ ⟨rfl, rfl⟩ (met_X8_loadRegister l D kA a8 adK adV 20001 V8 (hd8 hD) h8) zwl_149 ⟨Nat.le_of_ble_eq_true rfl, Nat.le_of_ble_eq_true rfl⟩ ⟨rfl, rfl⟩ ⟨by omega, by omega⟩ dr_2 (fun H1 locs1 ls1 q1 q2 => W.widen (k := cells + 25) (n := slots + 2046) (by omega) (by omega) (kk H1 locs1 ls1 q1 q2))
theorem zwl_150 : zwV RL 150 RX7 yX7_errorCode cX7_errorCode 1 (some .int) 0 := ⟨⟨qw_511, qw_512, qw_513, qw_1, qw_514⟩, rfl, by decide +kernel, by decide +kernel, by decide +kernel⟩
theorem zwl_153 : zwV RL 153 RX8 yX8_errorCode cX8_errorCode 1 (some .int) 0 := ⟨⟨qw_1482, qw_1483, qw_1484, qw_9, qw_1485⟩, rfl, by decide +kernel, by decide +kernel, by decide +kernel⟩
theorem dr_3 : ∀ q ∈ cdRows [] 375 150 153, decode code q.1 = .ok q.2 := by decide +kernel
set_option maxHeartbeats 1000000 in
set_option maxRecDepth 100000 in
theorem ca_3 (hL : LC p l s m c b L xs D kA adK adV) (hI : LI D kA a a8 bO bD s H locs) (hl : lv_has ls 10 (lb a a8 bO bD b n)) (hn : n + 6 ≤ L) (hf : cells + 25 ≤ room_1.cells ∧ slots + 2046 ≤ room_1.slots)
    (kk : ∀ (H1 : Heap) (locs1 : List Loc) (ls1 : Array Slot), LI D kA a a8 bO bD s H1 locs1 → lv_has ls1 10 (lb a a8 bO bD b n) → W p l e room_1 s m #[Value.ref b] below meth c H1 locs1 (cells + 25) (slots + 2046) Q (F0 m 3089 ls1 [])) : W p l e room_1 s m #[Value.ref b] below meth c H locs cells slots Q (F0 m 375 ls []) := by
  obtain ⟨pa, V, X, PV, K, V8, T, TD, hP, hD, hS, hrel⟩ := hI
  obtain ⟨⟨r, Vr⟩, h8, ho⟩ := ag_errorCode (X := X) hrel.2.2.2.2.1
  have hrel2 := asko_rel hrel ho
  have h7 : _ = some r := ho.2
  have hrel2 : Rel V PV K Vr := hrel2
  exact jdP (ks := []) (idx1 := 150) (idx2 := 153) hL hP hD hS hrel2 hl hn (by decide) (met_X7_errorCode l D kA a (zpf pa K) V X h7) zwl_150 ⟨Nat.le_of_ble_eq_true rfl, Nat.le_of_ble_eq_true rfl⟩ ⟨rfl, rfl⟩ (met_X8_errorCode l D kA a8 V8 (hd8 hD) h8) zwl_153 ⟨Nat.le_of_ble_eq_true rfl, Nat.le_of_ble_eq_true rfl⟩ ⟨rfl, rfl⟩ ⟨by omega, by omega⟩ dr_3 (fun H1 locs1 ls1 q1 q2 => W.widen (k := cells + 25) (n := slots + 2046) (by omega) (by omega) (kk H1 locs1 ls1 q1 q2))
theorem zwl_154 : zwV RL 154 RX7 yX7_errorOffset cX7_errorOffset 1 (some .int) 0 := ⟨⟨qw_515, qw_516, qw_517, qw_1, qw_518⟩, rfl, by decide +kernel, by decide +kernel, by decide +kernel⟩
theorem zwl_157 : zwV RL 157 RX8 yX8_errorOffset cX8_errorOffset 1 (some .int) 0 := ⟨⟨qw_1486, qw_1487, qw_1488, qw_9, qw_1489⟩, rfl, by decide +kernel, by decide +kernel, by decide +kernel⟩
theorem dr_4 : ∀ q ∈ cdRows [] 388 154 157, decode code q.1 = .ok q.2 := by decide +kernel
set_option maxHeartbeats 1000000 in
set_option maxRecDepth 100000 in
theorem ca_4 (hL : LC p l s m c b L xs D kA adK adV) (hI : LI D kA a a8 bO bD s H locs) (hl : lv_has ls 10 (lb a a8 bO bD b n)) (hn : n + 6 ≤ L) (hf : cells + 25 ≤ room_1.cells ∧ slots + 2046 ≤ room_1.slots)
    (kk : ∀ (H1 : Heap) (locs1 : List Loc) (ls1 : Array Slot), LI D kA a a8 bO bD s H1 locs1 → lv_has ls1 10 (lb a a8 bO bD b n) → W p l e room_1 s m #[Value.ref b] below meth c H1 locs1 (cells + 25) (slots + 2046) Q (F0 m 3089 ls1 [])) : W p l e room_1 s m #[Value.ref b] below meth c H locs cells slots Q (F0 m 388 ls []) := by
  obtain ⟨pa, V, X, PV, K, V8, T, TD, hP, hD, hS, hrel⟩ := hI
  obtain ⟨⟨r, Vr⟩, h8, ho⟩ := ag_errorOffset (X := X) hrel.2.2.2.2.1
  have hrel2 := asko_rel hrel ho
  have h7 : _ = some r := ho.2
  have hrel2 : Rel V PV K Vr := hrel2
  exact jdP (ks := []) (idx1 := 154) (idx2 := 157) hL hP hD hS hrel2 hl hn (by decide) (met_X7_errorOffset l D kA a (zpf pa K) V X h7) zwl_154 ⟨Nat.le_of_ble_eq_true rfl, Nat.le_of_ble_eq_true rfl⟩ ⟨rfl, rfl⟩ (met_X8_errorOffset l D kA a8 V8 (hd8 hD) h8) zwl_157 ⟨Nat.le_of_ble_eq_true rfl, Nat.le_of_ble_eq_true rfl⟩ ⟨rfl, rfl⟩ ⟨by omega, by omega⟩ dr_4 (fun H1 locs1 ls1 q1 q2 => W.widen (k := cells + 25) (n := slots + 2046) (by omega) (by omega) (kk H1 locs1 ls1 q1 q2))
theorem zwl_232 : zwV RL 232 RX7 yX7_overclaimed cX7_overclaimed 3 (some .int) 0 := ⟨⟨qw_519, qw_520, qw_521, qw_1, qw_522⟩, rfl, by decide +kernel, by decide +kernel, by decide +kernel⟩
theorem zwl_235 : zwV RL 235 RX8 yX8_overclaimed cX8_overclaimed 3 (some .int) 0 := ⟨⟨qw_1698, qw_1699, qw_1700, qw_9, qw_1701⟩, rfl, by decide +kernel, by decide +kernel, by decide +kernel⟩
theorem dr_26 : ∀ q ∈ cdRows [] 1916 232 235, decode code q.1 = .ok q.2 := by decide +kernel
set_option maxHeartbeats 1000000 in
set_option maxRecDepth 100000 in
theorem ca_26 (hL : LC p l s m c b L xs D kA adK adV) (hI : LI D kA a a8 bO bD s H locs) (hl : lv_has ls 10 (lb a a8 bO bD b n)) (hn : n + 6 ≤ L) (hf : cells + 25 ≤ room_1.cells ∧ slots + 2046 ≤ room_1.slots)
    (kk : ∀ (H1 : Heap) (locs1 : List Loc) (ls1 : Array Slot), LI D kA a a8 bO bD s H1 locs1 → lv_has ls1 10 (lb a a8 bO bD b n) → W p l e room_1 s m #[Value.ref b] below meth c H1 locs1 (cells + 25) (slots + 2046) Q (F0 m 3089 ls1 [])) : W p l e room_1 s m #[Value.ref b] below meth c H locs cells slots Q (F0 m 1916 ls []) := by
  obtain ⟨pa, V, X, PV, K, V8, T, TD, hP, hD, hS, hrel⟩ := hI
  obtain ⟨⟨r, Vr⟩, h8, ho⟩ := ag_overclaimed (X := X) (n := 20001) hrel.1 (by decide)
  have hrel2 := asko_rel hrel ho
  have h7 : _ = some r := ho.2
  have hrel2 : Rel V PV K Vr := hrel2
  exact jdP (ks := []) (idx1 := 232) (idx2 := 235) hL hP hD hS hrel2 hl hn (by decide) (met_X7_overclaimed l D kA a (zpf pa K) 20001 V X h7) zwl_232 ⟨Nat.le_of_ble_eq_true rfl, Nat.le_of_ble_eq_true rfl⟩ ⟨rfl, rfl⟩ (met_X8_overclaimed l D kA a8 20001 V8 (hd8 hD) h8) zwl_235 ⟨Nat.le_of_ble_eq_true rfl, Nat.le_of_ble_eq_true rfl⟩ ⟨rfl, rfl⟩ ⟨by omega, by omega⟩ dr_26 (fun H1 locs1 ls1 q1 q2 => W.widen (k := cells + 25) (n := slots + 2046) (by omega) (by omega) (kk H1 locs1 ls1 q1 q2))
theorem zwl_236 : zwV RL 236 RX7 yX7_totalAid cX7_totalAid 1 (some .int) 0 := ⟨⟨qw_538, qw_539, qw_540, qw_1, qw_541⟩, rfl, by decide +kernel, by decide +kernel, by decide +kernel⟩
theorem zwl_239 : zwV RL 239 RX8 yX8_totalAid cX8_totalAid 1 (some .int) 0 := ⟨⟨qw_1706, qw_1707, qw_1708, qw_9, qw_1709⟩, rfl, by decide +kernel, by decide +kernel, by decide +kernel⟩
theorem dr_27 : ∀ q ∈ cdRows [] 1929 236 239, decode code q.1 = .ok q.2 := by decide +kernel
set_option maxHeartbeats 1000000 in
set_option maxRecDepth 100000 in
theorem ca_27 (hL : LC p l s m c b L xs D kA adK adV) (hI : LI D kA a a8 bO bD s H locs) (hl : lv_has ls 10 (lb a a8 bO bD b n)) (hn : n + 6 ≤ L) (hf : cells + 25 ≤ room_1.cells ∧ slots + 2046 ≤ room_1.slots)
    (kk : ∀ (H1 : Heap) (locs1 : List Loc) (ls1 : Array Slot), LI D kA a a8 bO bD s H1 locs1 → lv_has ls1 10 (lb a a8 bO bD b n) → W p l e room_1 s m #[Value.ref b] below meth c H1 locs1 (cells + 25) (slots + 2046) Q (F0 m 3089 ls1 [])) : W p l e room_1 s m #[Value.ref b] below meth c H locs cells slots Q (F0 m 1929 ls []) := by
  obtain ⟨pa, V, X, PV, K, V8, T, TD, hP, hD, hS, hrel⟩ := hI
  obtain ⟨⟨r, Vr⟩, h8, ho⟩ := ag_totalAid (X := X) (n := 20001) hrel.1 (by decide)
  have hrel2 := asko_rel hrel ho
  have h7 : _ = some r := ho.2
  have hrel2 : Rel V PV K Vr := hrel2
  exact jdP (ks := []) (idx1 := 236) (idx2 := 239) hL hP hD hS hrel2 hl hn (by decide) (met_X7_totalAid l D kA a (zpf pa K) 20001 V X h7) zwl_236 ⟨Nat.le_of_ble_eq_true rfl, Nat.le_of_ble_eq_true rfl⟩ ⟨rfl, rfl⟩ (met_X8_totalAid l D kA a8 20001 V8 (hd8 hD) h8) zwl_239 ⟨Nat.le_of_ble_eq_true rfl, Nat.le_of_ble_eq_true rfl⟩ ⟨rfl, rfl⟩ ⟨by omega, by omega⟩ dr_27 (fun H1 locs1 ls1 q1 q2 => W.widen (k := cells + 25) (n := slots + 2046) (by omega) (by omega) (kk H1 locs1 ls1 q1 q2))
theorem zwl_243 : zwV RL 243 RX7 yX7_mostUrgent cX7_mostUrgent 1 (some .int) 0 := ⟨⟨qw_554, qw_555, qw_556, qw_1, qw_557⟩, rfl, by decide +kernel, by decide +kernel, by decide +kernel⟩
theorem zwl_246 : zwV RL 246 RX8 yX8_mostUrgent cX8_mostUrgent 5 (some .int) 0 := ⟨⟨qw_1718, qw_1719, qw_1720, qw_9, qw_1721⟩, rfl, by decide +kernel, by decide +kernel, by decide +kernel⟩
theorem dr_29 : ∀ q ∈ cdRows [] 1998 243 246, decode code q.1 = .ok q.2 := by decide +kernel
set_option maxHeartbeats 1000000 in
set_option maxRecDepth 100000 in
theorem ca_29 (hL : LC p l s m c b L xs D kA adK adV) (hI : LI D kA a a8 bO bD s H locs) (hl : lv_has ls 10 (lb a a8 bO bD b n)) (hn : n + 6 ≤ L) (hf : cells + 25 ≤ room_1.cells ∧ slots + 2046 ≤ room_1.slots)
    (kk : ∀ (H1 : Heap) (locs1 : List Loc) (ls1 : Array Slot), LI D kA a a8 bO bD s H1 locs1 → lv_has ls1 10 (lb a a8 bO bD b n) → W p l e room_1 s m #[Value.ref b] below meth c H1 locs1 (cells + 25) (slots + 2046) Q (F0 m 3089 ls1 [])) : W p l e room_1 s m #[Value.ref b] below meth c H locs cells slots Q (F0 m 1998 ls []) := by
  obtain ⟨pa, V, X, PV, K, V8, T, TD, hP, hD, hS, hrel⟩ := hI
  obtain ⟨⟨r, Vr⟩, h8, ho⟩ := ag_mostUrgent (X := X) (n := 20001) hrel.1 (by decide)
  have hrel2 := asko_rel hrel ho
  have h7 : _ = some r := ho.2
  have hrel2 : Rel V PV K Vr := hrel2
  exact jdP (ks := []) (idx1 := 243) (idx2 := 246) hL hP hD hS hrel2 hl hn (by decide) (met_X7_mostUrgent l D kA a (zpf pa K) 20001 V X h7) zwl_243 ⟨Nat.le_of_ble_eq_true rfl, Nat.le_of_ble_eq_true rfl⟩ ⟨rfl, rfl⟩ (met_X8_mostUrgent l D kA a8 20001 V8 (hd8 hD) h8) zwl_246 ⟨Nat.le_of_ble_eq_true rfl, Nat.le_of_ble_eq_true rfl⟩ ⟨rfl, rfl⟩ ⟨by omega, by omega⟩ dr_29 (fun H1 locs1 ls1 q1 q2 => W.widen (k := cells + 25) (n := slots + 2046) (by omega) (by omega) (kk H1 locs1 ls1 q1 q2))
theorem zwl_262 : zwV RL 262 RX7 yX7_bestYear cX7_bestYear 1 (some .int) 0 := ⟨⟨qw_570, qw_571, qw_572, qw_1, qw_573⟩, rfl, by decide +kernel, by decide +kernel, by decide +kernel⟩
theorem zwl_265 : zwV RL 265 RX8 yX8_bestYear cX8_bestYear 6 (some .int) 0 := ⟨⟨qw_1746, qw_1747, qw_1748, qw_9, qw_1749⟩, rfl, by decide +kernel, by decide +kernel, by decide +kernel⟩
theorem dr_35 : ∀ q ∈ cdRows [] 2303 262 265, decode code q.1 = .ok q.2 := by decide +kernel
set_option maxHeartbeats 1000000 in
set_option maxRecDepth 100000 in
theorem ca_35 (hL : LC p l s m c b L xs D kA adK adV) (hI : LI D kA a a8 bO bD s H locs) (hl : lv_has ls 10 (lb a a8 bO bD b n)) (hn : n + 6 ≤ L) (hf : cells + 25 ≤ room_1.cells ∧ slots + 2046 ≤ room_1.slots)
    (kk : ∀ (H1 : Heap) (locs1 : List Loc) (ls1 : Array Slot), LI D kA a a8 bO bD s H1 locs1 → lv_has ls1 10 (lb a a8 bO bD b n) → W p l e room_1 s m #[Value.ref b] below meth c H1 locs1 (cells + 25) (slots + 2046) Q (F0 m 3089 ls1 [])) : W p l e room_1 s m #[Value.ref b] below meth c H locs cells slots Q (F0 m 2303 ls []) := by
  obtain ⟨pa, V, X, PV, K, V8, T, TD, hP, hD, hS, hrel⟩ := hI
  obtain ⟨⟨r, Vr⟩, h8, ho⟩ := ag_bestYear (X := X) (n := 20001) hrel.1 (by decide)
  have hrel2 := asko_rel hrel ho
  have h7 : _ = some r := ho.2
  have hrel2 : Rel V PV K Vr := hrel2
  exact jdP (ks := []) (idx1 := 262) (idx2 := 265) hL hP hD hS hrel2 hl hn (by decide) (met_X7_bestYear l D kA a (zpf pa K) 20001 V X h7) zwl_262 ⟨Nat.le_of_ble_eq_true rfl, Nat.le_of_ble_eq_true rfl⟩ ⟨rfl, rfl⟩ (met_X8_bestYear l D kA a8 20001 V8 (hd8 hD) h8) zwl_265 ⟨Nat.le_of_ble_eq_true rfl, Nat.le_of_ble_eq_true rfl⟩ ⟨rfl, rfl⟩ ⟨by omega, by omega⟩ dr_35 (fun H1 locs1 ls1 q1 q2 => W.widen (k := cells + 25) (n := slots + 2046) (by omega) (by omega) (kk H1 locs1 ls1 q1 q2))
theorem zwl_272 : zwV RL 272 RX7 yX7_bestAsked cX7_bestAsked 5 (some .int) 0 := ⟨⟨qw_578, qw_579, qw_580, qw_1, qw_581⟩, rfl, by decide +kernel, by decide +kernel, by decide +kernel⟩
theorem zwl_275 : zwV RL 275 RX8 yX8_bestAsked cX8_bestAsked 5 (some .int) 0 := ⟨⟨qw_1758, qw_1759, qw_1760, qw_9, qw_1761⟩, rfl, by decide +kernel, by decide +kernel, by decide +kernel⟩
theorem dr_38 : ∀ q ∈ cdRows [] 2452 272 275, decode code q.1 = .ok q.2 := by decide +kernel
set_option maxHeartbeats 1000000 in
set_option maxRecDepth 100000 in
theorem ca_38 (hL : LC p l s m c b L xs D kA adK adV) (hI : LI D kA a a8 bO bD s H locs) (hl : lv_has ls 10 (lb a a8 bO bD b n)) (hn : n + 6 ≤ L) (hf : cells + 25 ≤ room_1.cells ∧ slots + 2046 ≤ room_1.slots)
    (kk : ∀ (H1 : Heap) (locs1 : List Loc) (ls1 : Array Slot), LI D kA a a8 bO bD s H1 locs1 → lv_has ls1 10 (lb a a8 bO bD b n) → W p l e room_1 s m #[Value.ref b] below meth c H1 locs1 (cells + 25) (slots + 2046) Q (F0 m 3089 ls1 [])) : W p l e room_1 s m #[Value.ref b] below meth c H locs cells slots Q (F0 m 2452 ls []) := by
  obtain ⟨pa, V, X, PV, K, V8, T, TD, hP, hD, hS, hrel⟩ := hI
  obtain ⟨⟨r, Vr⟩, h8, ho⟩ := ag_bestAsked (X := X) (n := 20001) hrel.1 (by decide)
  have hrel2 := askv_rel hrel ho
  have h7 : _ = some r := ho.2.2
  have hrel2 : Rel V PV K Vr := hrel2
  exact jdP (ks := []) (idx1 := 272) (idx2 := 275) hL hP hD hS hrel2 hl hn (by decide) (met_X7_bestAsked l D kA a (zpf pa K) 20001 V X h7) zwl_272 ⟨Nat.le_of_ble_eq_true rfl, Nat.le_of_ble_eq_true rfl⟩ ⟨rfl, rfl⟩ (met_X8_bestAsked l D kA a8 20001 V8 (hd8 hD) h8) zwl_275 ⟨Nat.le_of_ble_eq_true rfl, Nat.le_of_ble_eq_true rfl⟩ ⟨rfl, rfl⟩ ⟨by omega, by omega⟩ dr_38 (fun H1 locs1 ls1 q1 q2 => W.widen (k := cells + 25) (n := slots + 2046) (by omega) (by omega) (kk H1 locs1 ls1 q1 q2))
theorem zwl_305 : zwV RL 305 RX7 yX7_outputByte cX7_outputByte 2 (some .int) 1 := ⟨⟨qw_624, qw_625, qw_626, qw_1, qw_627⟩, rfl, by decide +kernel, by decide +kernel, by decide +kernel⟩
theorem zwl_308 : zwV RL 308 RX8 yX8_outputByte cX8_outputByte 2 (some .int) 1 := ⟨⟨qw_1825, qw_1826, qw_1827, qw_9, qw_1828⟩, rfl, by decide +kernel, by decide +kernel, by decide +kernel⟩
theorem dr_47 : ∀ q ∈ cdRows [(1, false)] 2994 305 308, decode code q.1 = .ok q.2 := by decide +kernel
set_option maxHeartbeats 1000000 in
set_option maxRecDepth 100000 in
theorem ca_47 (hL : LC p l s m c b L xs D kA adK adV) (hI : LI D kA a a8 bO bD s H locs) (hl : lv_has ls 10 (lb a a8 bO bD b n)) (hn : n + 6 ≤ L) (hf : cells + 25 ≤ room_1.cells ∧ slots + 2046 ≤ room_1.slots)
    (kk : ∀ (H1 : Heap) (locs1 : List Loc) (ls1 : Array Slot), LI D kA a a8 bO bD s H1 locs1 → lv_has ls1 10 (lb a a8 bO bD b n) → W p l e room_1 s m #[Value.ref b] below meth c H1 locs1 (cells + 25) (slots + 2046) Q (F0 m 3089 ls1 [])) : W p l e room_1 s m #[Value.ref b] below meth c H locs cells slots Q (F0 m 2994 ls []) := by
  obtain ⟨pa, V, X, PV, K, V8, T, TD, hP, hD, hS, hrel⟩ := hI
  obtain ⟨⟨r, Vr⟩, h8, ho⟩ := ag_outputByte (X := X) (x := (ev xs n 1)) hrel.2.2.2.2.2.1 (ev_rng xs n 1)
  have hrel2 := asko_rel hrel ho
  have h7 : _ = some r := ho.2
  have hrel2 : Rel V PV K Vr := hrel2
  exact jdP (ks := [(1, false)]) (idx1 := 305) (idx2 := 308) hL hP hD hS hrel2 hl hn (by decide) (met_X7_outputByte l D kA a (zpf pa K) V X (ev xs n 1) h7) zwl_305 ⟨Nat.le_of_ble_eq_true rfl, Nat.le_of_ble_eq_true rfl⟩ ⟨rfl, rfl⟩ (met_X8_outputByte l D kA a8 V8 (ev xs n 1) (hd8 hD) h8) zwl_308 ⟨Nat.le_of_ble_eq_true rfl, Nat.le_of_ble_eq_true rfl⟩ ⟨rfl, rfl⟩ ⟨by omega, by omega⟩ dr_47 (fun H1 locs1 ls1 q1 q2 => W.widen (k := cells + 25) (n := slots + 2046) (by omega) (by omega) (kk H1 locs1 ls1 q1 q2))
theorem zwl_309 : zwV RL 309 RX7 yX7_undo cX7_undo 3 (some .int) 0 := ⟨⟨qw_628, qw_629, qw_630, qw_1, qw_631⟩, rfl, by decide +kernel, by decide +kernel, by decide +kernel⟩
theorem zwl_312 : zwV RL 312 RX8 yX8_undo cX8_undo 1 (some .int) 0 := ⟨⟨qw_1829, qw_1830, qw_1831, qw_9, qw_1832⟩, rfl, by decide +kernel, by decide +kernel, by decide +kernel⟩
theorem dr_48 : ∀ q ∈ cdRows [] 3019 309 312, decode code q.1 = .ok q.2 := by decide +kernel
set_option maxHeartbeats 1000000 in
set_option maxRecDepth 100000 in
theorem ca_48 (hL : LC p l s m c b L xs D kA adK adV) (hI : LI D kA a a8 bO bD s H locs) (hl : lv_has ls 10 (lb a a8 bO bD b n)) (hn : n + 6 ≤ L) (hf : cells + 25 ≤ room_1.cells ∧ slots + 2046 ≤ room_1.slots)
    (kk : ∀ (H1 : Heap) (locs1 : List Loc) (ls1 : Array Slot), LI D kA a a8 bO bD s H1 locs1 → lv_has ls1 10 (lb a a8 bO bD b n) → W p l e room_1 s m #[Value.ref b] below meth c H1 locs1 (cells + 25) (slots + 2046) Q (F0 m 3089 ls1 [])) : W p l e room_1 s m #[Value.ref b] below meth c H locs cells slots Q (F0 m 3019 ls []) := by
  obtain ⟨pa, V, X, PV, K, V8, T, TD, hP, hD, hS, hrel⟩ := hI
  obtain ⟨⟨r, Vr⟩, h8, ho⟩ := ag_undo (n := 20001) hrel (by decide)
  obtain ⟨V1, h7, hrel2⟩ := ho
  have h7 : _ = some (r, V1) := h7
  have hrel2 : Rel V1 PV K Vr := hrel2
  exact jdU (ks := []) (idx1 := 309) (idx2 := 312) hL hP hD hS hrel2 hl hn (by decide) (met_X7_undo l D kA a pa V X PV K (hdU hD) h7) zwl_309 ⟨Nat.le_of_ble_eq_true rfl, Nat.le_of_ble_eq_true rfl⟩ ⟨rfl, rfl⟩ (met_X8_undo l D kA a8 20001 V8 (hd8 hD) h8) zwl_312 ⟨Nat.le_of_ble_eq_true rfl, Nat.le_of_ble_eq_true rfl⟩ ⟨rfl, rfl⟩ ⟨by omega, by omega⟩ dr_48 (fun H1 locs1 ls1 q1 q2 => W.widen (k := cells + 25) (n := slots + 2046) (by omega) (by omega) (kk H1 locs1 ls1 q1 q2))
theorem zwl_313 : zwV RL 313 RX7 yX7_saveState cX7_saveState 1 (some .int) 0 := ⟨⟨qw_632, qw_633, qw_634, qw_1, qw_635⟩, rfl, by decide +kernel, by decide +kernel, by decide +kernel⟩
theorem zwl_316 : zwV RL 316 RX8 yX8_saveState cX8_saveState 1 (some .int) 0 := ⟨⟨qw_1833, qw_1834, qw_1835, qw_9, qw_1836⟩, rfl, by decide +kernel, by decide +kernel, by decide +kernel⟩
theorem dr_49 : ∀ q ∈ cdRows [] 3032 313 316, decode code q.1 = .ok q.2 := by decide +kernel
set_option maxHeartbeats 1000000 in
set_option maxRecDepth 100000 in
theorem ca_49 (hL : LC p l s m c b L xs D kA adK adV) (hI : LI D kA a a8 bO bD s H locs) (hl : lv_has ls 10 (lb a a8 bO bD b n)) (hn : n + 6 ≤ L) (hf : cells + 25 ≤ room_1.cells ∧ slots + 2046 ≤ room_1.slots)
    (kk : ∀ (H1 : Heap) (locs1 : List Loc) (ls1 : Array Slot), LI D kA a a8 bO bD s H1 locs1 → lv_has ls1 10 (lb a a8 bO bD b n) → W p l e room_1 s m #[Value.ref b] below meth c H1 locs1 (cells + 25) (slots + 2046) Q (F0 m 3089 ls1 [])) : W p l e room_1 s m #[Value.ref b] below meth c H locs cells slots Q (F0 m 3032 ls []) := by
  obtain ⟨pa, V, X, PV, K, V8, T, TD, hP, hD, hS, hrel⟩ := hI
  obtain ⟨⟨r, Vr⟩, h8, ho⟩ := ag_saveState (X := X) (n := 20001) hrel (by decide)
  obtain ⟨V1, h7, hrel2⟩ := ho
  have h7 : _ = some (r, V1) := h7
  have hrel2 : Rel V1 PV K Vr := hrel2
  exact jdZ (ks := []) (idx1 := 313) (idx2 := 316) hL hP hD hS hrel2 hl hn (by decide) (met_X7_saveState l D kA a (zpf pa K) V X (hd7 hD) h7) zwl_313 ⟨Nat.le_of_ble_eq_true rfl, Nat.le_of_ble_eq_true rfl⟩ ⟨rfl, rfl⟩ (met_X8_saveState l D kA a8 20001 V8 (hd8 hD) h8) zwl_316 ⟨Nat.le_of_ble_eq_true rfl, Nat.le_of_ble_eq_true rfl⟩ ⟨rfl, rfl⟩ ⟨by omega, by omega⟩ dr_49 (fun H1 locs1 ls1 q1 q2 => W.widen (k := cells + 25) (n := slots + 2046) (by omega) (by omega) (kk H1 locs1 ls1 q1 q2))
end LCS
