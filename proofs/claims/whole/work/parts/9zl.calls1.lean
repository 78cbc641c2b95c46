section LCS
variable {p : Program} {l : Launch} {e : Env} {s : State} {m : MethodId} {below : List Frame} {meth : Method} {c : Code} {H : Heap} {locs : List Loc} {cells slots : Nat} {Q : State → Prop}
variable {ls : Array Slot} {rest : List Value} {D : va_G} {kA : Nat → ClassId} {b L n : Nat} {xs : Nat → Int32} {adK adV : Nat → Nat} {a a8 : Nat → Nat} {bO bD : Nat}
theorem zwh_158 : zwH RL 158 yL_count cL_count 4 (some .int) [(0, 9, 12, 13)] 3 := ⟨⟨qw_636, qw_637, qw_0, (qin_3 (i := 158) rfl rfl)⟩, by decide +kernel, by decide +kernel, by decide +kernel⟩
theorem zwl_163 : zwV RL 163 RX8 yX8_count cX8_count 2 (some .int) 1 := ⟨⟨qw_1490, qw_1491, qw_1492, qw_9, qw_1493⟩, rfl, by decide +kernel, by decide +kernel, by decide +kernel⟩
theorem dr_5 : ∀ q ∈ cqRows [(1, false)] 401 158 163, decode code q.1 = .ok q.2 := by decide +kernel
set_option maxHeartbeats 1000000 in
set_option maxRecDepth 100000 in
theorem ca_5 (hL : LC p l s m c b L xs D kA adK adV) (hI : LI D kA a a8 bO bD s H locs) (hl : lv_has ls 10 (lb a a8 bO bD b n)) (hn : n + 6 ≤ L) (hf : cells + 25 ≤ room_1.cells ∧ slots + 2046 ≤ room_1.slots)
    (kk : ∀ (H1 : Heap) (locs1 : List Loc) (ls1 : Array Slot), LI D kA a a8 bO bD s H1 locs1 → lv_has ls1 10 (lb a a8 bO bD b n) → W p l e room_1 s m #[Value.ref b] below meth c H1 locs1 (cells + 25) (slots + 2046) Q (F0 m 3089 ls1 [])) : W p l e room_1 s m #[Value.ref b] below meth c H locs cells slots Q (F0 m 401 ls []) := by
  obtain ⟨pa, V, X, PV, K, V8, T, TD, hP, hD, hS, hrel⟩ := hI
  obtain ⟨⟨r, Vr⟩, h8, ho⟩ := ag_count (X := X) (n := 20001) (q := (ev xs n 1)) hrel.1 hrel.2.2.1.2.1.1 (by decide) (ev_rng xs n 1)
  have hrel2 := asks_rel hrel ho
  obtain ⟨-, ⟨h9, h7⟩ | ⟨er, h7, h9, hne⟩⟩ := ho
  · have h7 : _ = some (Sum.inl r) := h7
    have h9 : Vr 9 0 = 0 := h9
    have hrel2 : Rel V PV K Vr := hrel2
    exact jcQ (ks := [(1, false)]) (idx1 := 158) (idx2 := 163) hL hP hD hS hrel2 hl hn (by decide) (won_count l D kA a (zpf pa K) bO 20001 V X T (ev xs n 1) (hdQ hD) h7) zwh_158 ⟨Nat.le_of_ble_eq_true rfl, Nat.le_of_ble_eq_true rfl⟩ ⟨rfl, rfl⟩ (met_X8_count l D kA a8 20001 V8 (ev xs n 1) (hd8 hD) h8) zwl_163 ⟨Nat.le_of_ble_eq_true rfl, Nat.le_of_ble_eq_true rfl⟩ ⟨rfl, rfl⟩ h9 (if_pos rfl) ⟨by omega, by omega⟩ dr_5 (fun H1 locs1 ls1 q1 q2 => W.widen (k := cells + 25) (n := slots + 2046) (by omega) (by omega) (kk H1 locs1 ls1 q1 q2))
  · rcases cdI_ne hne with rfl
    · have h9 : Vr 9 0 = 1 := h9
      have hrel2 : Rel V PV K Vr := hrel2
      exact jcT (ks := [(1, false)]) (idx1 := 158) (idx2 := 163) (k := 1) hL hP hD hS hrel2 hl hn (by decide) pmQ (wth1_count l D kA a (zpf pa K) bO 20001 V X T (ev xs n 1) h7) zwh_158 ⟨Nat.le_of_ble_eq_true rfl, Nat.le_of_ble_eq_true rfl⟩ ⟨rfl, rfl⟩ (met_X8_count l D kA a8 20001 V8 (ev xs n 1) (hd8 hD) h8) zwl_163 ⟨Nat.le_of_ble_eq_true rfl, Nat.le_of_ble_eq_true rfl⟩ ⟨rfl, rfl⟩ h9 ⟨by decide, by decide⟩ (by decide) ⟨by omega, by omega⟩ dr_5 (fun H1 locs1 ls1 q1 q2 => W.widen (k := cells + 25) (n := slots + 2046) (by omega) (by omega) (kk H1 locs1 ls1 q1 q2))
theorem zwh_167 : zwH RL 167 yL_declaration cL_declaration 5 (some .int) [(0, 10, 13, 19), (0, 10, 17, 13)] 4 := ⟨⟨qw_719, qw_720, qw_0, (qin_4 (i := 1) rfl rfl)⟩, by decide +kernel, by decide +kernel, by decide +kernel⟩
theorem zwl_170 : zwV RL 170 RX8 yX8_declaration cX8_declaration 3 (some .int) 2 := ⟨⟨qw_1506, qw_1507, qw_1508, qw_9, qw_1509⟩, rfl, by decide +kernel, by decide +kernel, by decide +kernel⟩
theorem dr_6 : ∀ q ∈ cqRows [(1, false), (2, false)] 457 167 170, decode code q.1 = .ok q.2 := by decide +kernel
set_option maxHeartbeats 1000000 in
set_option maxRecDepth 100000 in
theorem ca_6 (hL : LC p l s m c b L xs D kA adK adV) (hI : LI D kA a a8 bO bD s H locs) (hl : lv_has ls 10 (lb a a8 bO bD b n)) (hn : n + 6 ≤ L) (hf : cells + 25 ≤ room_1.cells ∧ slots + 2046 ≤ room_1.slots)
    (kk : ∀ (H1 : Heap) (locs1 : List Loc) (ls1 : Array Slot), LI D kA a a8 bO bD s H1 locs1 → lv_has ls1 10 (lb a a8 bO bD b n) → W p l e room_1 s m #[Value.ref b] below meth c H1 locs1 (cells + 25) (slots + 2046) Q (F0 m 3089 ls1 [])) : W p l e room_1 s m #[Value.ref b] below meth c H locs cells slots Q (F0 m 457 ls []) := by
  obtain ⟨pa, V, X, PV, K, V8, T, TD, hP, hD, hS, hrel⟩ := hI
  obtain ⟨⟨r, Vr⟩, h8, ho⟩ := ag_declaration (X := X) (k := (ev xs n 1)) (q := (ev xs n 2)) hrel.1 (ev_rng xs n 1) (ev_rng xs n 2)
  have hrel2 := asks_rel hrel ho
  obtain ⟨-, ⟨h9, h7⟩ | ⟨er, h7, h9, hne⟩⟩ := ho
  · have h7 : _ = some (Sum.inl r) := h7
    have h9 : Vr 9 0 = 0 := h9
    have hrel2 : Rel V PV K Vr := hrel2
    exact jcQ (ks := [(1, false), (2, false)]) (idx1 := 167) (idx2 := 170) hL hP hD hS hrel2 hl hn (by decide) (won_declaration l D kA a (zpf pa K) bO V X T (ev xs n 1) (ev xs n 2) (hdQ hD) h7) zwh_167 ⟨Nat.le_of_ble_eq_true rfl, Nat.le_of_ble_eq_true rfl⟩ ⟨rfl, rfl⟩ (met_X8_declaration l D kA a8 V8 (ev xs n 1) (ev xs n 2) (hd8 hD) h8) zwl_170 ⟨Nat.le_of_ble_eq_true rfl, Nat.le_of_ble_eq_true rfl⟩ ⟨rfl, rfl⟩ h9 (if_pos rfl) ⟨by omega, by omega⟩ dr_6 (fun H1 locs1 ls1 q1 q2 => W.widen (k := cells + 25) (n := slots + 2046) (by omega) (by omega) (kk H1 locs1 ls1 q1 q2))
  · rcases cdB_ne hne with rfl | rfl
    · have h9 : Vr 9 0 = 1 := h9
      have hrel2 : Rel V PV K Vr := hrel2
      exact jcT (ks := [(1, false), (2, false)]) (idx1 := 167) (idx2 := 170) (k := 1) hL hP hD hS hrel2 hl hn (by decide) pmQ (wth0_declaration l D kA a (zpf pa K) bO V X T (ev xs n 1) (ev xs n 2) h7) zwh_167 ⟨Nat.le_of_ble_eq_true rfl, Nat.le_of_ble_eq_true rfl⟩ ⟨rfl, rfl⟩ (met_X8_declaration l D kA a8 V8 (ev xs n 1) (ev xs n 2) (hd8 hD) h8) zwl_170 ⟨Nat.le_of_ble_eq_true rfl, Nat.le_of_ble_eq_true rfl⟩ ⟨rfl, rfl⟩ h9 ⟨by decide, by decide⟩ (by decide) ⟨by omega, by omega⟩ dr_6 (fun H1 locs1 ls1 q1 q2 => W.widen (k := cells + 25) (n := slots + 2046) (by omega) (by omega) (kk H1 locs1 ls1 q1 q2))
    · have h9 : Vr 9 0 = 2 := h9
      have hrel2 : Rel V PV K Vr := hrel2
      exact jcT (ks := [(1, false), (2, false)]) (idx1 := 167) (idx2 := 170) (k := 2) hL hP hD hS hrel2 hl hn (by decide) pmQ (wth1_declaration l D kA a (zpf pa K) bO V X T (ev xs n 1) (ev xs n 2) h7) zwh_167 ⟨Nat.le_of_ble_eq_true rfl, Nat.le_of_ble_eq_true rfl⟩ ⟨rfl, rfl⟩ (met_X8_declaration l D kA a8 V8 (ev xs n 1) (ev xs n 2) (hd8 hD) h8) zwl_170 ⟨Nat.le_of_ble_eq_true rfl, Nat.le_of_ble_eq_true rfl⟩ ⟨rfl, rfl⟩ h9 ⟨by decide, by decide⟩ (by decide) ⟨by omega, by omega⟩ dr_6 (fun H1 locs1 ls1 q1 q2 => W.widen (k := cells + 25) (n := slots + 2046) (by omega) (by omega) (kk H1 locs1 ls1 q1 q2))
theorem zwh_171 : zwH RL 171 yL_gift cL_gift 5 (some .int) [(0, 10, 13, 19), (0, 10, 17, 13)] 4 := ⟨⟨qw_752, qw_753, qw_0, (qin_4 (i := 34) rfl rfl)⟩, by decide +kernel, by decide +kernel, by decide +kernel⟩
theorem zwl_173 : zwV RL 173 RX8 yX8_gift cX8_gift 5 (some .int) 2 := ⟨⟨qw_1519, qw_1520, qw_1521, qw_9, qw_1522⟩, rfl, by decide +kernel, by decide +kernel, by decide +kernel⟩
theorem dr_7 : ∀ q ∈ cqRows [(1, false), (2, false)] 525 171 173, decode code q.1 = .ok q.2 := by decide +kernel
set_option maxHeartbeats 1000000 in
set_option maxRecDepth 100000 in
theorem ca_7 (hL : LC p l s m c b L xs D kA adK adV) (hI : LI D kA a a8 bO bD s H locs) (hl : lv_has ls 10 (lb a a8 bO bD b n)) (hn : n + 6 ≤ L) (hf : cells + 25 ≤ room_1.cells ∧ slots + 2046 ≤ room_1.slots)
    (kk : ∀ (H1 : Heap) (locs1 : List Loc) (ls1 : Array Slot), LI D kA a a8 bO bD s H1 locs1 → lv_has ls1 10 (lb a a8 bO bD b n) → W p l e room_1 s m #[Value.ref b] below meth c H1 locs1 (cells + 25) (slots + 2046) Q (F0 m 3089 ls1 [])) : W p l e room_1 s m #[Value.ref b] below meth c H locs cells slots Q (F0 m 525 ls []) := by
  obtain ⟨pa, V, X, PV, K, V8, T, TD, hP, hD, hS, hrel⟩ := hI
  obtain ⟨⟨r, Vr⟩, h8, ho⟩ := ag_gift (X := X) (n := 20001) (g := (ev xs n 1)) (q := (ev xs n 2)) hrel.1 (by decide) (ev_rng xs n 1) (ev_rng xs n 2)
  have hrel2 := asks_rel hrel ho
  obtain ⟨-, ⟨h9, h7⟩ | ⟨er, h7, h9, hne⟩⟩ := ho
  · have h7 : _ = some (Sum.inl r) := h7
    have h9 : Vr 9 0 = 0 := h9
    have hrel2 : Rel V PV K Vr := hrel2
    exact jcQ (ks := [(1, false), (2, false)]) (idx1 := 171) (idx2 := 173) hL hP hD hS hrel2 hl hn (by decide) (won_gift l D kA a (zpf pa K) bO 20001 V X T (ev xs n 1) (ev xs n 2) (hdQ hD) h7) zwh_171 ⟨Nat.le_of_ble_eq_true rfl, Nat.le_of_ble_eq_true rfl⟩ ⟨rfl, rfl⟩ (met_X8_gift l D kA a8 20001 V8 (ev xs n 1) (ev xs n 2) (hd8 hD) h8) zwl_173 ⟨Nat.le_of_ble_eq_true rfl, Nat.le_of_ble_eq_true rfl⟩ ⟨rfl, rfl⟩ h9 (if_pos rfl) ⟨by omega, by omega⟩ dr_7 (fun H1 locs1 ls1 q1 q2 => W.widen (k := cells + 25) (n := slots + 2046) (by omega) (by omega) (kk H1 locs1 ls1 q1 q2))
  · rcases cdB_ne hne with rfl | rfl
    · have h9 : Vr 9 0 = 1 := h9
      have hrel2 : Rel V PV K Vr := hrel2
      exact jcT (ks := [(1, false), (2, false)]) (idx1 := 171) (idx2 := 173) (k := 1) hL hP hD hS hrel2 hl hn (by decide) pmQ (wth0_gift l D kA a (zpf pa K) bO 20001 V X T (ev xs n 1) (ev xs n 2) h7) zwh_171 ⟨Nat.le_of_ble_eq_true rfl, Nat.le_of_ble_eq_true rfl⟩ ⟨rfl, rfl⟩ (met_X8_gift l D kA a8 20001 V8 (ev xs n 1) (ev xs n 2) (hd8 hD) h8) zwl_173 ⟨Nat.le_of_ble_eq_true rfl, Nat.le_of_ble_eq_true rfl⟩ ⟨rfl, rfl⟩ h9 ⟨by decide, by decide⟩ (by decide) ⟨by omega, by omega⟩ dr_7 (fun H1 locs1 ls1 q1 q2 => W.widen (k := cells + 25) (n := slots + 2046) (by omega) (by omega) (kk H1 locs1 ls1 q1 q2))
    · have h9 : Vr 9 0 = 2 := h9
      have hrel2 : Rel V PV K Vr := hrel2
      exact jcT (ks := [(1, false), (2, false)]) (idx1 := 171) (idx2 := 173) (k := 2) hL hP hD hS hrel2 hl hn (by decide) pmQ (wth1_gift l D kA a (zpf pa K) bO 20001 V X T (ev xs n 1) (ev xs n 2) h7) zwh_171 ⟨Nat.le_of_ble_eq_true rfl, Nat.le_of_ble_eq_true rfl⟩ ⟨rfl, rfl⟩ (met_X8_gift l D kA a8 20001 V8 (ev xs n 1) (ev xs n 2) (hd8 hD) h8) zwl_173 ⟨Nat.le_of_ble_eq_true rfl, Nat.le_of_ble_eq_true rfl⟩ ⟨rfl, rfl⟩ h9 ⟨by decide, by decide⟩ (by decide) ⟨by omega, by omega⟩ dr_7 (fun H1 locs1 ls1 q1 q2 => W.widen (k := cells + 25) (n := slots + 2046) (by omega) (by omega) (kk H1 locs1 ls1 q1 q2))
theorem zwh_174 : zwH RL 174 yL_part cL_part 6 (some .int) [(0, 12, 15, 19), (0, 12, 19, 13)] 5 := ⟨⟨qw_767, qw_768, qw_0, (qin_4 (i := 49) rfl rfl)⟩, by decide +kernel, by decide +kernel, by decide +kernel⟩
theorem zwl_177 : zwV RL 177 RX8 yX8_part cX8_part 5 (some .int) 3 := ⟨⟨qw_1567, qw_1568, qw_1569, qw_9, qw_1570⟩, rfl, by decide +kernel, by decide +kernel, by decide +kernel⟩
theorem dr_8 : ∀ q ∈ cqRows [(1, false), (2, false), (3, false)] 593 174 177, decode code q.1 = .ok q.2 := by decide +kernel
set_option maxHeartbeats 1000000 in
set_option maxRecDepth 100000 in
theorem ca_8 (hL : LC p l s m c b L xs D kA adK adV) (hI : LI D kA a a8 bO bD s H locs) (hl : lv_has ls 10 (lb a a8 bO bD b n)) (hn : n + 6 ≤ L) (hf : cells + 25 ≤ room_1.cells ∧ slots + 2046 ≤ room_1.slots)
    (kk : ∀ (H1 : Heap) (locs1 : List Loc) (ls1 : Array Slot), LI D kA a a8 bO bD s H1 locs1 → lv_has ls1 10 (lb a a8 bO bD b n) → W p l e room_1 s m #[Value.ref b] below meth c H1 locs1 (cells + 25) (slots + 2046) Q (F0 m 3089 ls1 [])) : W p l e room_1 s m #[Value.ref b] below meth c H locs cells slots Q (F0 m 593 ls []) := by
  obtain ⟨pa, V, X, PV, K, V8, T, TD, hP, hD, hS, hrel⟩ := hI
  obtain ⟨⟨r, Vr⟩, h8, ho⟩ := ag_part (X := X) (n := 20001) (g := (ev xs n 1)) (i := (ev xs n 2)) (q := (ev xs n 3)) hrel.1 (by decide) (ev_rng xs n 1) (ev_rng xs n 2) (ev_rng xs n 3)
  have hrel2 := asks_rel hrel ho
  obtain ⟨-, ⟨h9, h7⟩ | ⟨er, h7, h9, hne⟩⟩ := ho
  · have h7 : _ = some (Sum.inl r) := h7
    have h9 : Vr 9 0 = 0 := h9
    have hrel2 : Rel V PV K Vr := hrel2
    exact jcQ (ks := [(1, false), (2, false), (3, false)]) (idx1 := 174) (idx2 := 177) hL hP hD hS hrel2 hl hn (by decide) (won_part l D kA a (zpf pa K) bO V X T (ev xs n 1) (ev xs n 2) (ev xs n 3) (hdQ hD) h7) zwh_174 ⟨Nat.le_of_ble_eq_true rfl, Nat.le_of_ble_eq_true rfl⟩ ⟨rfl, rfl⟩ (met_X8_part l D kA a8 20001 V8 (ev xs n 1) (ev xs n 2) (ev xs n 3) (hd8 hD) h8) zwl_177 ⟨Nat.le_of_ble_eq_true rfl, Nat.le_of_ble_eq_true rfl⟩ ⟨rfl, rfl⟩ h9 (if_pos rfl) ⟨by omega, by omega⟩ dr_8 (fun H1 locs1 ls1 q1 q2 => W.widen (k := cells + 25) (n := slots + 2046) (by omega) (by omega) (kk H1 locs1 ls1 q1 q2))
  · rcases cdB_ne hne with rfl | rfl
    · have h9 : Vr 9 0 = 1 := h9
      have hrel2 : Rel V PV K Vr := hrel2
      exact jcT (ks := [(1, false), (2, false), (3, false)]) (idx1 := 174) (idx2 := 177) (k := 1) hL hP hD hS hrel2 hl hn (by decide) pmQ (wth0_part l D kA a (zpf pa K) bO V X T (ev xs n 1) (ev xs n 2) (ev xs n 3) h7) zwh_174 ⟨Nat.le_of_ble_eq_true rfl, Nat.le_of_ble_eq_true rfl⟩ ⟨rfl, rfl⟩ (met_X8_part l D kA a8 20001 V8 (ev xs n 1) (ev xs n 2) (ev xs n 3) (hd8 hD) h8) zwl_177 ⟨Nat.le_of_ble_eq_true rfl, Nat.le_of_ble_eq_true rfl⟩ ⟨rfl, rfl⟩ h9 ⟨by decide, by decide⟩ (by decide) ⟨by omega, by omega⟩ dr_8 (fun H1 locs1 ls1 q1 q2 => W.widen (k := cells + 25) (n := slots + 2046) (by omega) (by omega) (kk H1 locs1 ls1 q1 q2))
    · have h9 : Vr 9 0 = 2 := h9
      have hrel2 : Rel V PV K Vr := hrel2
      exact jcT (ks := [(1, false), (2, false), (3, false)]) (idx1 := 174) (idx2 := 177) (k := 2) hL hP hD hS hrel2 hl hn (by decide) pmQ (wth1_part l D kA a (zpf pa K) bO V X T (ev xs n 1) (ev xs n 2) (ev xs n 3) h7) zwh_174 ⟨Nat.le_of_ble_eq_true rfl, Nat.le_of_ble_eq_true rfl⟩ ⟨rfl, rfl⟩ (met_X8_part l D kA a8 20001 V8 (ev xs n 1) (ev xs n 2) (ev xs n 3) (hd8 hD) h8) zwl_177 ⟨Nat.le_of_ble_eq_true rfl, Nat.le_of_ble_eq_true rfl⟩ ⟨rfl, rfl⟩ h9 ⟨by decide, by decide⟩ (by decide) ⟨by omega, by omega⟩ dr_8 (fun H1 locs1 ls1 q1 q2 => W.widen (k := cells + 25) (n := slots + 2046) (by omega) (by omega) (kk H1 locs1 ls1 q1 q2))
theorem zwh_178 : zwH RL 178 yL_reason cL_reason 5 (some .int) [(0, 10, 13, 19)] 4 := ⟨⟨qw_780, qw_781, qw_0, (qin_4 (i := 62) rfl rfl)⟩, by decide +kernel, by decide +kernel, by decide +kernel⟩
theorem zwl_180 : zwV RL 180 RX8 yX8_reason cX8_reason 3 (some .int) 2 := ⟨⟨qw_1575, qw_1576, qw_1577, qw_9, qw_1578⟩, rfl, by decide +kernel, by decide +kernel, by decide +kernel⟩
theorem dr_9 : ∀ q ∈ cqRows [(1, false), (2, false)] 673 178 180, decode code q.1 = .ok q.2 := by decide +kernel
set_option maxHeartbeats 1000000 in
set_option maxRecDepth 100000 in
theorem ca_9 (hL : LC p l s m c b L xs D kA adK adV) (hI : LI D kA a a8 bO bD s H locs) (hl : lv_has ls 10 (lb a a8 bO bD b n)) (hn : n + 6 ≤ L) (hf : cells + 25 ≤ room_1.cells ∧ slots + 2046 ≤ room_1.slots)
    (kk : ∀ (H1 : Heap) (locs1 : List Loc) (ls1 : Array Slot), LI D kA a a8 bO bD s H1 locs1 → lv_has ls1 10 (lb a a8 bO bD b n) → W p l e room_1 s m #[Value.ref b] below meth c H1 locs1 (cells + 25) (slots + 2046) Q (F0 m 3089 ls1 [])) : W p l e room_1 s m #[Value.ref b] below meth c H locs cells slots Q (F0 m 673 ls []) := by
  obtain ⟨pa, V, X, PV, K, V8, T, TD, hP, hD, hS, hrel⟩ := hI
  obtain ⟨⟨r, Vr⟩, h8, ho⟩ := ag_reason (X := X) (n := 20001) (g := (ev xs n 1)) (i := (ev xs n 2)) hrel.1 (by decide) (ev_rng xs n 1) (ev_rng xs n 2)
  have hrel2 := asks_rel hrel ho
  obtain ⟨-, ⟨h9, h7⟩ | ⟨er, h7, h9, hne⟩⟩ := ho
  · have h7 : _ = some (Sum.inl r) := h7
    have h9 : Vr 9 0 = 0 := h9
    have hrel2 : Rel V PV K Vr := hrel2
    exact jcQ (ks := [(1, false), (2, false)]) (idx1 := 178) (idx2 := 180) hL hP hD hS hrel2 hl hn (by decide) (won_reason l D kA a (zpf pa K) bO 20001 V X T (ev xs n 1) (ev xs n 2) (hdQ hD) h7) zwh_178 ⟨Nat.le_of_ble_eq_true rfl, Nat.le_of_ble_eq_true rfl⟩ ⟨rfl, rfl⟩ (met_X8_reason l D kA a8 20001 V8 (ev xs n 1) (ev xs n 2) (hd8 hD) h8) zwl_180 ⟨Nat.le_of_ble_eq_true rfl, Nat.le_of_ble_eq_true rfl⟩ ⟨rfl, rfl⟩ h9 (if_pos rfl) ⟨by omega, by omega⟩ dr_9 (fun H1 locs1 ls1 q1 q2 => W.widen (k := cells + 25) (n := slots + 2046) (by omega) (by omega) (kk H1 locs1 ls1 q1 q2))
  · rcases cdA_ne hne with rfl
    · have h9 : Vr 9 0 = 1 := h9
      have hrel2 : Rel V PV K Vr := hrel2
      exact jcT (ks := [(1, false), (2, false)]) (idx1 := 178) (idx2 := 180) (k := 1) hL hP hD hS hrel2 hl hn (by decide) pmQ (wth0_reason l D kA a (zpf pa K) bO 20001 V X T (ev xs n 1) (ev xs n 2) h7) zwh_178 ⟨Nat.le_of_ble_eq_true rfl, Nat.le_of_ble_eq_true rfl⟩ ⟨rfl, rfl⟩ (met_X8_reason l D kA a8 20001 V8 (ev xs n 1) (ev xs n 2) (hd8 hD) h8) zwl_180 ⟨Nat.le_of_ble_eq_true rfl, Nat.le_of_ble_eq_true rfl⟩ ⟨rfl, rfl⟩ h9 ⟨by decide, by decide⟩ (by decide) ⟨by omega, by omega⟩ dr_9 (fun H1 locs1 ls1 q1 q2 => W.widen (k := cells + 25) (n := slots + 2046) (by omega) (by omega) (kk H1 locs1 ls1 q1 q2))
theorem zwh_181 : zwH RL 181 yL_donor cL_donor 6 (some .int) [(0, 12, 15, 19), (0, 12, 19, 13)] 5 := ⟨⟨qw_795, qw_796, qw_0, (qin_4 (i := 77) rfl rfl)⟩, by decide +kernel, by decide +kernel, by decide +kernel⟩
theorem zwl_183 : zwV RL 183 RX8 yX8_donor cX8_donor 4 (some .int) 3 := ⟨⟨qw_1583, qw_1584, qw_1585, qw_9, qw_1586⟩, rfl, by decide +kernel, by decide +kernel, by decide +kernel⟩
theorem dr_10 : ∀ q ∈ cqRows [(1, false), (2, false), (3, false)] 741 181 183, decode code q.1 = .ok q.2 := by decide +kernel
set_option maxHeartbeats 1000000 in
set_option maxRecDepth 100000 in
theorem ca_10 (hL : LC p l s m c b L xs D kA adK adV) (hI : LI D kA a a8 bO bD s H locs) (hl : lv_has ls 10 (lb a a8 bO bD b n)) (hn : n + 6 ≤ L) (hf : cells + 25 ≤ room_1.cells ∧ slots + 2046 ≤ room_1.slots)
    (kk : ∀ (H1 : Heap) (locs1 : List Loc) (ls1 : Array Slot), LI D kA a a8 bO bD s H1 locs1 → lv_has ls1 10 (lb a a8 bO bD b n) → W p l e room_1 s m #[Value.ref b] below meth c H1 locs1 (cells + 25) (slots + 2046) Q (F0 m 3089 ls1 [])) : W p l e room_1 s m #[Value.ref b] below meth c H locs cells slots Q (F0 m 741 ls []) := by
  obtain ⟨pa, V, X, PV, K, V8, T, TD, hP, hD, hS, hrel⟩ := hI
  obtain ⟨⟨r, Vr⟩, h8, ho⟩ := ag_donor (X := X) (n := 20001) (k := (ev xs n 1)) (q := (ev xs n 2)) (y := (ev xs n 3)) hrel.1 (by decide) (ev_rng xs n 1) (ev_rng xs n 2) (ev_rng xs n 3)
  have hrel2 := asks_rel hrel ho
  obtain ⟨-, ⟨h9, h7⟩ | ⟨er, h7, h9, hne⟩⟩ := ho
  · have h7 : _ = some (Sum.inl r) := h7
    have h9 : Vr 9 0 = 0 := h9
    have hrel2 : Rel V PV K Vr := hrel2
    exact jcQ (ks := [(1, false), (2, false), (3, false)]) (idx1 := 181) (idx2 := 183) hL hP hD hS hrel2 hl hn (by decide) (won_donor l D kA a (zpf pa K) bO 20001 V X T (ev xs n 1) (ev xs n 2) (ev xs n 3) (hdQ hD) h7) zwh_181 ⟨Nat.le_of_ble_eq_true rfl, Nat.le_of_ble_eq_true rfl⟩ ⟨rfl, rfl⟩ (met_X8_donor l D kA a8 20001 V8 (ev xs n 1) (ev xs n 2) (ev xs n 3) (hd8 hD) h8) zwl_183 ⟨Nat.le_of_ble_eq_true rfl, Nat.le_of_ble_eq_true rfl⟩ ⟨rfl, rfl⟩ h9 (if_pos rfl) ⟨by omega, by omega⟩ dr_10 (fun H1 locs1 ls1 q1 q2 => W.widen (k := cells + 25) (n := slots + 2046) (by omega) (by omega) (kk H1 locs1 ls1 q1 q2))
  · rcases cdB_ne hne with rfl | rfl
    · have h9 : Vr 9 0 = 1 := h9
      have hrel2 : Rel V PV K Vr := hrel2
      exact jcT (ks := [(1, false), (2, false), (3, false)]) (idx1 := 181) (idx2 := 183) (k := 1) hL hP hD hS hrel2 hl hn (by decide) pmQ (wth0_donor l D kA a (zpf pa K) bO 20001 V X T (ev xs n 1) (ev xs n 2) (ev xs n 3) h7) zwh_181 ⟨Nat.le_of_ble_eq_true rfl, Nat.le_of_ble_eq_true rfl⟩ ⟨rfl, rfl⟩ (met_X8_donor l D kA a8 20001 V8 (ev xs n 1) (ev xs n 2) (ev xs n 3) (hd8 hD) h8) zwl_183 ⟨Nat.le_of_ble_eq_true rfl, Nat.le_of_ble_eq_true rfl⟩ ⟨rfl, rfl⟩ h9 ⟨by decide, by decide⟩ (by decide) ⟨by omega, by omega⟩ dr_10 (fun H1 locs1 ls1 q1 q2 => W.widen (k := cells + 25) (n := slots + 2046) (by omega) (by omega) (kk H1 locs1 ls1 q1 q2))
    · have h9 : Vr 9 0 = 2 := h9
      have hrel2 : Rel V PV K Vr := hrel2
      exact jcT (ks := [(1, false), (2, false), (3, false)]) (idx1 := 181) (idx2 := 183) (k := 2) hL hP hD hS hrel2 hl hn (by decide) pmQ (wth1_donor l D kA a (zpf pa K) bO 20001 V X T (ev xs n 1) (ev xs n 2) (ev xs n 3) h7) zwh_181 ⟨Nat.le_of_ble_eq_true rfl, Nat.le_of_ble_eq_true rfl⟩ ⟨rfl, rfl⟩ (met_X8_donor l D kA a8 20001 V8 (ev xs n 1) (ev xs n 2) (ev xs n 3) (hd8 hD) h8) zwl_183 ⟨Nat.le_of_ble_eq_true rfl, Nat.le_of_ble_eq_true rfl⟩ ⟨rfl, rfl⟩ h9 ⟨by decide, by decide⟩ (by decide) ⟨by omega, by omega⟩ dr_10 (fun H1 locs1 ls1 q1 q2 => W.widen (k := cells + 25) (n := slots + 2046) (by omega) (by omega) (kk H1 locs1 ls1 q1 q2))
theorem zwh_184 : zwH RL 184 yL_taxLimit cL_taxLimit 4 (some .int) [(0, 9, 12, 19)] 3 := ⟨⟨qw_812, qw_813, qw_0, (qin_4 (i := 94) rfl rfl)⟩, by decide +kernel, by decide +kernel, by decide +kernel⟩
theorem zwl_186 : zwV RL 186 RX8 yX8_taxLimit cX8_taxLimit 2 (some .int) 1 := ⟨⟨qw_1599, qw_1600, qw_1601, qw_9, qw_1602⟩, rfl, by decide +kernel, by decide +kernel, by decide +kernel⟩
theorem dr_11 : ∀ q ∈ cqRows [(1, false)] 821 184 186, decode code q.1 = .ok q.2 := by decide +kernel
set_option maxHeartbeats 1000000 in
set_option maxRecDepth 100000 in
theorem ca_11 (hL : LC p l s m c b L xs D kA adK adV) (hI : LI D kA a a8 bO bD s H locs) (hl : lv_has ls 10 (lb a a8 bO bD b n)) (hn : n + 6 ≤ L) (hf : cells + 25 ≤ room_1.cells ∧ slots + 2046 ≤ room_1.slots)
    (kk : ∀ (H1 : Heap) (locs1 : List Loc) (ls1 : Array Slot), LI D kA a a8 bO bD s H1 locs1 → lv_has ls1 10 (lb a a8 bO bD b n) → W p l e room_1 s m #[Value.ref b] below meth c H1 locs1 (cells + 25) (slots + 2046) Q (F0 m 3089 ls1 [])) : W p l e room_1 s m #[Value.ref b] below meth c H locs cells slots Q (F0 m 821 ls []) := by
  obtain ⟨pa, V, X, PV, K, V8, T, TD, hP, hD, hS, hrel⟩ := hI
  obtain ⟨⟨r, Vr⟩, h8, ho⟩ := ag_taxLimit (X := X) (k := (ev xs n 1)) hrel.1 (ev_rng xs n 1)
  have hrel2 := asks_rel hrel ho
  obtain ⟨-, ⟨h9, h7⟩ | ⟨er, h7, h9, hne⟩⟩ := ho
  · have h7 : _ = some (Sum.inl r) := h7
    have h9 : Vr 9 0 = 0 := h9
    have hrel2 : Rel V PV K Vr := hrel2
    exact jcQ (ks := [(1, false)]) (idx1 := 184) (idx2 := 186) hL hP hD hS hrel2 hl hn (by decide) (won_taxLimit l D kA a (zpf pa K) bO V X T (ev xs n 1) (hdQ hD) h7) zwh_184 ⟨Nat.le_of_ble_eq_true rfl, Nat.le_of_ble_eq_true rfl⟩ ⟨rfl, rfl⟩ (met_X8_taxLimit l D kA a8 V8 (ev xs n 1) (hd8 hD) h8) zwl_186 ⟨Nat.le_of_ble_eq_true rfl, Nat.le_of_ble_eq_true rfl⟩ ⟨rfl, rfl⟩ h9 (if_pos rfl) ⟨by omega, by omega⟩ dr_11 (fun H1 locs1 ls1 q1 q2 => W.widen (k := cells + 25) (n := slots + 2046) (by omega) (by omega) (kk H1 locs1 ls1 q1 q2))
  · rcases cdA_ne hne with rfl
    · have h9 : Vr 9 0 = 1 := h9
      have hrel2 : Rel V PV K Vr := hrel2
      exact jcT (ks := [(1, false)]) (idx1 := 184) (idx2 := 186) (k := 1) hL hP hD hS hrel2 hl hn (by decide) pmQ (wth0_taxLimit l D kA a (zpf pa K) bO V X T (ev xs n 1) h7) zwh_184 ⟨Nat.le_of_ble_eq_true rfl, Nat.le_of_ble_eq_true rfl⟩ ⟨rfl, rfl⟩ (met_X8_taxLimit l D kA a8 V8 (ev xs n 1) (hd8 hD) h8) zwl_186 ⟨Nat.le_of_ble_eq_true rfl, Nat.le_of_ble_eq_true rfl⟩ ⟨rfl, rfl⟩ h9 ⟨by decide, by decide⟩ (by decide) ⟨by omega, by omega⟩ dr_11 (fun H1 locs1 ls1 q1 q2 => W.widen (k := cells + 25) (n := slots + 2046) (by omega) (by omega) (kk H1 locs1 ls1 q1 q2))
theorem zwh_187 : zwH RL 187 yL_isDeclared cL_isDeclared 5 (some .int) [(0, 17, 20, 19)] 4 := ⟨⟨qw_819, qw_820, qw_0, (qin_4 (i := 101) rfl rfl)⟩, by decide +kernel, by decide +kernel, by decide +kernel⟩
theorem zwl_189 : zwV RL 189 RX8 yX8_isDeclared cX8_isDeclared 3 (some .boolean) 2 := ⟨⟨qw_1603, qw_1604, qw_1605, qw_9, qw_1606⟩, rfl, by decide +kernel, by decide +kernel, by decide +kernel⟩
theorem dr_12 : ∀ q ∈ cqzRows [(1, false), (2, false)] 877 187 189, decode code q.1 = .ok q.2 := by decide +kernel
set_option maxHeartbeats 1000000 in
set_option maxRecDepth 100000 in
theorem ca_12 (hL : LC p l s m c b L xs D kA adK adV) (hI : LI D kA a a8 bO bD s H locs) (hl : lv_has ls 10 (lb a a8 bO bD b n)) (hn : n + 6 ≤ L) (hf : cells + 25 ≤ room_1.cells ∧ slots + 2046 ≤ room_1.slots)
    (kk : ∀ (H1 : Heap) (locs1 : List Loc) (ls1 : Array Slot), LI D kA a a8 bO bD s H1 locs1 → lv_has ls1 10 (lb a a8 bO bD b n) → W p l e room_1 s m #[Value.ref b] below meth c H1 locs1 (cells + 25) (slots + 2046) Q (F0 m 3089 ls1 [])) : W p l e room_1 s m #[Value.ref b] below meth c H locs cells slots Q (F0 m 877 ls []) := by
  obtain ⟨pa, V, X, PV, K, V8, T, TD, hP, hD, hS, hrel⟩ := hI
  obtain ⟨⟨r, Vr⟩, h8, ho⟩ := ag_isDeclared (X := X) (n := 20001) (k := (ev xs n 1)) (t := (ev xs n 2)) hrel.1 (by decide) (ev_rng xs n 1) (ev_rng xs n 2)
  have hrel2 := asks_rel hrel ho
  obtain ⟨-, ⟨h9, h7⟩ | ⟨er, h7, h9, hne⟩⟩ := ho
  · have h7 : _ = some (Sum.inl r) := h7
    have h9 : Vr 9 0 = 0 := h9
    have hrel2 : Rel V PV K Vr := hrel2
    exact jcQz (ks := [(1, false), (2, false)]) (idx1 := 187) (idx2 := 189) hL hP hD hS hrel2 hl hn (by decide) (wok_isDeclared l D kA a (zpf pa K) bO 20001 V X T (ev xs n 1) (ev xs n 2) (hdQ hD) h7) zwh_187 ⟨Nat.le_of_ble_eq_true rfl, Nat.le_of_ble_eq_true rfl⟩ ⟨rfl, rfl⟩ (met_X8_isDeclared l D kA a8 20001 V8 (ev xs n 1) (ev xs n 2) (hd8 hD) h8) zwl_189 ⟨Nat.le_of_ble_eq_true rfl, Nat.le_of_ble_eq_true rfl⟩ ⟨rfl, rfl⟩ h9 (if_pos rfl) ⟨by omega, by omega⟩ dr_12 (fun H1 locs1 ls1 q1 q2 => W.widen (k := cells + 25) (n := slots + 2046) (by omega) (by omega) (kk H1 locs1 ls1 q1 q2))
  · rcases cdA_ne hne with rfl
    · have h9 : Vr 9 0 = 1 := h9
      have hrel2 : Rel V PV K Vr := hrel2
      exact jcTz (ks := [(1, false), (2, false)]) (idx1 := 187) (idx2 := 189) (k := 1) hL hP hD hS hrel2 hl hn (by decide) pmQ (wth0_isDeclared l D kA a (zpf pa K) bO 20001 V X T (ev xs n 1) (ev xs n 2) h7) zwh_187 ⟨Nat.le_of_ble_eq_true rfl, Nat.le_of_ble_eq_true rfl⟩ ⟨rfl, rfl⟩ (met_X8_isDeclared l D kA a8 20001 V8 (ev xs n 1) (ev xs n 2) (hd8 hD) h8) zwl_189 ⟨Nat.le_of_ble_eq_true rfl, Nat.le_of_ble_eq_true rfl⟩ ⟨rfl, rfl⟩ h9 ⟨by decide, by decide⟩ (by decide) ⟨by omega, by omega⟩ dr_12 (fun H1 locs1 ls1 q1 q2 => W.widen (k := cells + 25) (n := slots + 2046) (by omega) (by omega) (kk H1 locs1 ls1 q1 q2))
end LCS
