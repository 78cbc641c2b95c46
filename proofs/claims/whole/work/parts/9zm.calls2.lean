section LCS
variable {p : Program} {l : Launch} {e : Env} {s : State} {m : MethodId} {below : List Frame} {meth : Method} {c : Code} {H : Heap} {locs : List Loc} {cells slots : Nat} {Q : State → Prop}
variable {ls : Array Slot} {rest : List Value} {D : va_G} {kA : Nat → ClassId} {b L n : Nat} {xs : Nat → Int32} {adK adV : Nat → Nat} {a a8 : Nat → Nat} {bO bD : Nat}
theorem zwh_190 : zwH RL 190 yL_coverage cL_coverage 6 (some .int) [(0, 12, 15, 19), (0, 12, 19, 13)] 5 := ⟨⟨qw_827, qw_828, qw_0, (qin_4 (i := 109) rfl rfl)⟩, by decide +kernel, by decide +kernel, by decide +kernel⟩
theorem zwl_192 : zwV RL 192 RX8 yX8_coverage cX8_coverage 6 (some .int) 3 := ⟨⟨qw_1607, qw_1608, qw_1609, qw_9, qw_1610⟩, rfl, by decide +kernel, by decide +kernel, by decide +kernel⟩
theorem dr_13 : ∀ q ∈ cqRows [(1, false), (2, false), (3, false)] 952 190 192, decode code q.1 = .ok q.2 := by decide +kernel
set_option maxHeartbeats 1000000 in
set_option maxRecDepth 100000 in
theorem ca_13 (hL : LC p l s m c b L xs D kA adK adV) (hI : LI D kA a a8 bO bD s H locs) (hl : lv_has ls 10 (lb a a8 bO bD b n)) (hn : n + 6 ≤ L) (hf : cells + 25 ≤ room_1.cells ∧ slots + 2046 ≤ room_1.slots)
    (kk : ∀ (H1 : Heap) (locs1 : List Loc) (ls1 : Array Slot), LI D kA a a8 bO bD s H1 locs1 → lv_has ls1 10 (lb a a8 bO bD b n) → W p l e room_1 s m #[Value.ref b] below meth c H1 locs1 (cells + 25) (slots + 2046) Q (F0 m 3089 ls1 [])) : W p l e room_1 s m #[Value.ref b] below meth c H locs cells slots Q (F0 m 952 ls []) := by
  obtain ⟨pa, V, X, PV, K, V8, T, TD, hP, hD, hS, hrel⟩ := hI
  obtain ⟨⟨r, Vr⟩, h8, ho⟩ := ag_coverage (X := X) (n := 20001) (k := (ev xs n 1)) (a := (ev xs n 2)) (b := (ev xs n 3)) hrel.1 (by decide) (ev_rng xs n 1) (ev_rng xs n 2) (ev_rng xs n 3)
  have hrel2 := asks_rel hrel ho
  obtain ⟨-, ⟨h9, h7⟩ | ⟨er, h7, h9, hne⟩⟩ := ho
  · have h7 : _ = some (Sum.inl r) := h7
    have h9 : Vr 9 0 = 0 := h9
    have hrel2 : Rel V PV K Vr := hrel2
    exact jcQ (ks := [(1, false), (2, false), (3, false)]) (idx1 := 190) (idx2 := 192) hL hP hD hS hrel2 hl hn (by decide) (won_coverage l D kA a (zpf pa K) bO 20001 V X T (ev xs n 1) (ev xs n 2) (ev xs n 3) (hdQ hD) h7) zwh_190 ⟨Nat.le_of_ble_eq_true rfl, Nat.le_of_ble_eq_true rfl⟩ ⟨rfl, rfl⟩ (met_X8_coverage l D kA a8 20001 V8 (ev xs n 1) (ev xs n 2) (ev xs n 3) (hd8 hD) h8) zwl_192 ⟨Nat.le_of_ble_eq_true rfl, Nat.le_of_ble_eq_true rfl⟩ ⟨rfl, rfl⟩ h9 (if_pos rfl) ⟨by omega, by omega⟩ dr_13 (fun H1 locs1 ls1 q1 q2 => W.widen (k := cells + 25) (n := slots + 2046) (by omega) (by omega) (kk H1 locs1 ls1 q1 q2))
  · rcases cdB_ne hne with rfl | rfl
    · have h9 : Vr 9 0 = 1 := h9
      have hrel2 : Rel V PV K Vr := hrel2
      exact jcT (ks := [(1, false), (2, false), (3, false)]) (idx1 := 190) (idx2 := 192) (k := 1) hL hP hD hS hrel2 hl hn (by decide) pmQ (wth0_coverage l D kA a (zpf pa K) bO 20001 V X T (ev xs n 1) (ev xs n 2) (ev xs n 3) h7) zwh_190 ⟨Nat.le_of_ble_eq_true rfl, Nat.le_of_ble_eq_true rfl⟩ ⟨rfl, rfl⟩ (met_X8_coverage l D kA a8 20001 V8 (ev xs n 1) (ev xs n 2) (ev xs n 3) (hd8 hD) h8) zwl_192 ⟨Nat.le_of_ble_eq_true rfl, Nat.le_of_ble_eq_true rfl⟩ ⟨rfl, rfl⟩ h9 ⟨by decide, by decide⟩ (by decide) ⟨by omega, by omega⟩ dr_13 (fun H1 locs1 ls1 q1 q2 => W.widen (k := cells + 25) (n := slots + 2046) (by omega) (by omega) (kk H1 locs1 ls1 q1 q2))
    · have h9 : Vr 9 0 = 2 := h9
      have hrel2 : Rel V PV K Vr := hrel2
      exact jcT (ks := [(1, false), (2, false), (3, false)]) (idx1 := 190) (idx2 := 192) (k := 2) hL hP hD hS hrel2 hl hn (by decide) pmQ (wth1_coverage l D kA a (zpf pa K) bO 20001 V X T (ev xs n 1) (ev xs n 2) (ev xs n 3) h7) zwh_190 ⟨Nat.le_of_ble_eq_true rfl, Nat.le_of_ble_eq_true rfl⟩ ⟨rfl, rfl⟩ (met_X8_coverage l D kA a8 20001 V8 (ev xs n 1) (ev xs n 2) (ev xs n 3) (hd8 hD) h8) zwl_192 ⟨Nat.le_of_ble_eq_true rfl, Nat.le_of_ble_eq_true rfl⟩ ⟨rfl, rfl⟩ h9 ⟨by decide, by decide⟩ (by decide) ⟨by omega, by omega⟩ dr_13 (fun H1 locs1 ls1 q1 q2 => W.widen (k := cells + 25) (n := slots + 2046) (by omega) (by omega) (kk H1 locs1 ls1 q1 q2))
theorem zwh_193 : zwH RL 193 yL_gap cL_gap 6 (some .int) [(0, 12, 15, 19)] 5 := ⟨⟨qw_850, qw_851, qw_0, (qin_4 (i := 132) rfl rfl)⟩, by decide +kernel, by decide +kernel, by decide +kernel⟩
theorem zwl_196 : zwV RL 196 RX8 yX8_gap cX8_gap 8 (some .int) 3 := ⟨⟨qw_1615, qw_1616, qw_1617, qw_9, qw_1618⟩, rfl, by decide +kernel, by decide +kernel, by decide +kernel⟩
theorem dr_14 : ∀ q ∈ cqRows [(1, false), (2, false), (3, true)] 1032 193 196, decode code q.1 = .ok q.2 := by decide +kernel
set_option maxHeartbeats 1000000 in
set_option maxRecDepth 100000 in
theorem ca_14 (hL : LC p l s m c b L xs D kA adK adV) (hI : LI D kA a a8 bO bD s H locs) (hl : lv_has ls 10 (lb a a8 bO bD b n)) (hn : n + 6 ≤ L) (hf : cells + 25 ≤ room_1.cells ∧ slots + 2046 ≤ room_1.slots)
    (kk : ∀ (H1 : Heap) (locs1 : List Loc) (ls1 : Array Slot), LI D kA a a8 bO bD s H1 locs1 → lv_has ls1 10 (lb a a8 bO bD b n) → W p l e room_1 s m #[Value.ref b] below meth c H1 locs1 (cells + 25) (slots + 2046) Q (F0 m 3089 ls1 [])) : W p l e room_1 s m #[Value.ref b] below meth c H locs cells slots Q (F0 m 1032 ls []) := by
  obtain ⟨pa, V, X, PV, K, V8, T, TD, hP, hD, hS, hrel⟩ := hI
  obtain ⟨⟨r, Vr⟩, h8, ho⟩ := ag_gap (X := X) (n := 20001) (k := (ev xs n 1)) (i := (ev xs n 2)) (f := (bn (ev xs n 3))) hrel.1 (by decide) (ev_rng xs n 1) (ev_rng xs n 2) (bn_rng _)
  have hrel2 := asks_rel hrel ho
  obtain ⟨-, ⟨h9, h7⟩ | ⟨er, h7, h9, hne⟩⟩ := ho
  · have h7 : _ = some (Sum.inl r) := h7
    have h9 : Vr 9 0 = 0 := h9
    have hrel2 : Rel V PV K Vr := hrel2
    exact jcQ (ks := [(1, false), (2, false), (3, true)]) (idx1 := 193) (idx2 := 196) hL hP hD hS hrel2 hl hn (by decide) (won_gap l D kA a (zpf pa K) bO 20001 V X T (ev xs n 1) (ev xs n 2) (bn (ev xs n 3)) (hdQ hD) h7) zwh_193 ⟨Nat.le_of_ble_eq_true rfl, Nat.le_of_ble_eq_true rfl⟩ ⟨rfl, rfl⟩ (met_X8_gap l D kA a8 20001 V8 (ev xs n 1) (ev xs n 2) (bn (ev xs n 3)) (hd8 hD) h8) zwl_196 ⟨Nat.le_of_ble_eq_true rfl, Nat.le_of_ble_eq_true rfl⟩ ⟨rfl, rfl⟩ h9 (if_pos rfl) ⟨by omega, by omega⟩ dr_14 (fun H1 locs1 ls1 q1 q2 => W.widen (k := cells + 25) (n := slots + 2046) (by omega) (by omega) (kk H1 locs1 ls1 q1 q2))
  · rcases cdA_ne hne with rfl
    · have h9 : Vr 9 0 = 1 := h9
      have hrel2 : Rel V PV K Vr := hrel2
      exact jcT (ks := [(1, false), (2, false), (3, true)]) (idx1 := 193) (idx2 := 196) (k := 1) hL hP hD hS hrel2 hl hn (by decide) pmQ (wth0_gap l D kA a (zpf pa K) bO 20001 V X T (ev xs n 1) (ev xs n 2) (bn (ev xs n 3)) h7) zwh_193 ⟨Nat.le_of_ble_eq_true rfl, Nat.le_of_ble_eq_true rfl⟩ ⟨rfl, rfl⟩ (met_X8_gap l D kA a8 20001 V8 (ev xs n 1) (ev xs n 2) (bn (ev xs n 3)) (hd8 hD) h8) zwl_196 ⟨Nat.le_of_ble_eq_true rfl, Nat.le_of_ble_eq_true rfl⟩ ⟨rfl, rfl⟩ h9 ⟨by decide, by decide⟩ (by decide) ⟨by omega, by omega⟩ dr_14 (fun H1 locs1 ls1 q1 q2 => W.widen (k := cells + 25) (n := slots + 2046) (by omega) (by omega) (kk H1 locs1 ls1 q1 q2))
theorem zwh_197 : zwH RL 197 yL_needless cL_needless 4 (some .int) [(0, 9, 12, 19)] 3 := ⟨⟨qw_861, qw_862, qw_0, (qin_4 (i := 143) rfl rfl)⟩, by decide +kernel, by decide +kernel, by decide +kernel⟩
theorem zwl_199 : zwV RL 199 RX8 yX8_needless cX8_needless 4 (some .int) 1 := ⟨⟨qw_1623, qw_1624, qw_1625, qw_9, qw_1626⟩, rfl, by decide +kernel, by decide +kernel, by decide +kernel⟩
theorem dr_15 : ∀ q ∈ cqRows [(1, false)] 1128 197 199, decode code q.1 = .ok q.2 := by decide +kernel
set_option maxHeartbeats 1000000 in
set_option maxRecDepth 100000 in
theorem ca_15 (hL : LC p l s m c b L xs D kA adK adV) (hI : LI D kA a a8 bO bD s H locs) (hl : lv_has ls 10 (lb a a8 bO bD b n)) (hn : n + 6 ≤ L) (hf : cells + 25 ≤ room_1.cells ∧ slots + 2046 ≤ room_1.slots)
    (kk : ∀ (H1 : Heap) (locs1 : List Loc) (ls1 : Array Slot), LI D kA a a8 bO bD s H1 locs1 → lv_has ls1 10 (lb a a8 bO bD b n) → W p l e room_1 s m #[Value.ref b] below meth c H1 locs1 (cells + 25) (slots + 2046) Q (F0 m 3089 ls1 [])) : W p l e room_1 s m #[Value.ref b] below meth c H locs cells slots Q (F0 m 1128 ls []) := by
  obtain ⟨pa, V, X, PV, K, V8, T, TD, hP, hD, hS, hrel⟩ := hI
  obtain ⟨⟨r, Vr⟩, h8, ho⟩ := ag_needless (X := X) (n := 20001) (k := (ev xs n 1)) hrel.1 (by decide) (ev_rng xs n 1)
  have hrel2 := asks_rel hrel ho
  obtain ⟨-, ⟨h9, h7⟩ | ⟨er, h7, h9, hne⟩⟩ := ho
  · have h7 : _ = some (Sum.inl r) := h7
    have h9 : Vr 9 0 = 0 := h9
    have hrel2 : Rel V PV K Vr := hrel2
    exact jcQ (ks := [(1, false)]) (idx1 := 197) (idx2 := 199) hL hP hD hS hrel2 hl hn (by decide) (won_needless l D kA a (zpf pa K) bO 20001 V X T (ev xs n 1) (hdQ hD) h7) zwh_197 ⟨Nat.le_of_ble_eq_true rfl, Nat.le_of_ble_eq_true rfl⟩ ⟨rfl, rfl⟩ (met_X8_needless l D kA a8 20001 V8 (ev xs n 1) (hd8 hD) h8) zwl_199 ⟨Nat.le_of_ble_eq_true rfl, Nat.le_of_ble_eq_true rfl⟩ ⟨rfl, rfl⟩ h9 (if_pos rfl) ⟨by omega, by omega⟩ dr_15 (fun H1 locs1 ls1 q1 q2 => W.widen (k := cells + 25) (n := slots + 2046) (by omega) (by omega) (kk H1 locs1 ls1 q1 q2))
  · rcases cdA_ne hne with rfl
    · have h9 : Vr 9 0 = 1 := h9
      have hrel2 : Rel V PV K Vr := hrel2
      exact jcT (ks := [(1, false)]) (idx1 := 197) (idx2 := 199) (k := 1) hL hP hD hS hrel2 hl hn (by decide) pmQ (wth0_needless l D kA a (zpf pa K) bO 20001 V X T (ev xs n 1) h7) zwh_197 ⟨Nat.le_of_ble_eq_true rfl, Nat.le_of_ble_eq_true rfl⟩ ⟨rfl, rfl⟩ (met_X8_needless l D kA a8 20001 V8 (ev xs n 1) (hd8 hD) h8) zwl_199 ⟨Nat.le_of_ble_eq_true rfl, Nat.le_of_ble_eq_true rfl⟩ ⟨rfl, rfl⟩ h9 ⟨by decide, by decide⟩ (by decide) ⟨by omega, by omega⟩ dr_15 (fun H1 locs1 ls1 q1 q2 => W.widen (k := cells + 25) (n := slots + 2046) (by omega) (by omega) (kk H1 locs1 ls1 q1 q2))
theorem zwh_200 : zwH RL 200 yL_declare cL_declare 6 (some .int) [(0, 12, 15, 19), (0, 12, 19, 13), (0, 12, 23, 54)] 5 := ⟨⟨qw_872, qw_873, qw_0, (qin_4 (i := 154) rfl rfl)⟩, by decide +kernel, by decide +kernel, by decide +kernel⟩
theorem zwl_202 : zwV RL 202 RX8 yX8_declare cX8_declare 4 (some .int) 3 := ⟨⟨qw_1631, qw_1632, qw_1633, qw_9, qw_1634⟩, rfl, by decide +kernel, by decide +kernel, by decide +kernel⟩
theorem dr_16 : ∀ q ∈ cqRows [(1, false), (2, false), (3, false)] 1184 200 202, decode code q.1 = .ok q.2 := by decide +kernel
set_option maxHeartbeats 1000000 in
set_option maxRecDepth 100000 in
theorem ca_16 (hL : LC p l s m c b L xs D kA adK adV) (hI : LI D kA a a8 bO bD s H locs) (hl : lv_has ls 10 (lb a a8 bO bD b n)) (hn : n + 6 ≤ L) (hf : cells + 25 ≤ room_1.cells ∧ slots + 2046 ≤ room_1.slots)
    (kk : ∀ (H1 : Heap) (locs1 : List Loc) (ls1 : Array Slot), LI D kA a a8 bO bD s H1 locs1 → lv_has ls1 10 (lb a a8 bO bD b n) → W p l e room_1 s m #[Value.ref b] below meth c H1 locs1 (cells + 25) (slots + 2046) Q (F0 m 3089 ls1 [])) : W p l e room_1 s m #[Value.ref b] below meth c H locs cells slots Q (F0 m 1184 ls []) := by
  obtain ⟨pa, V, X, PV, K, V8, T, TD, hP, hD, hS, hrel⟩ := hI
  obtain ⟨⟨r, Vr⟩, h8, ho⟩ := ag_declare (X := X) (n := 20001) (d := (ev xs n 1)) (a := (ev xs n 2)) (b := (ev xs n 3)) hrel (by decide) (ev_rng xs n 1) (ev_rng xs n 2) (ev_rng xs n 3)
  rcases ho with ⟨V1, PV1, K1, h7, h9, hrel2⟩ | ⟨er, h7, h9, hne, hrel2⟩
  · have h7 : _ = some (Sum.inl (r, V1, PV1, K1)) := h7
    have h9 : Vr 9 0 = 0 := h9
    have hrel2 : Rel V1 PV1 K1 Vr := hrel2
    exact jcC (ks := [(1, false), (2, false), (3, false)]) (idx1 := 200) (idx2 := 202) hL hP hD hS hrel2 hl hn (by decide) (won_declare l D kA a pa bO 20001 V X PV K T (ev xs n 1) (ev xs n 2) (ev xs n 3) H.size (hdC hD) h7) zwh_200 ⟨Nat.le_of_ble_eq_true rfl, Nat.le_of_ble_eq_true rfl⟩ ⟨rfl, rfl⟩ (met_X8_declare l D kA a8 20001 V8 (ev xs n 1) (ev xs n 2) (ev xs n 3) (hd8 hD) h8) zwl_202 ⟨Nat.le_of_ble_eq_true rfl, Nat.le_of_ble_eq_true rfl⟩ ⟨rfl, rfl⟩ h9 (if_pos rfl) ⟨by omega, by omega⟩ dr_16 (fun H1 locs1 ls1 q1 q2 => W.widen (k := cells + 25) (n := slots + 2046) (by omega) (by omega) (kk H1 locs1 ls1 q1 q2))
  · rcases cdC_ne hne with rfl | rfl | rfl
    · have h9 : Vr 9 0 = 1 := h9
      have hrel2 : Rel V PV K Vr := hrel2
      exact jcT (ks := [(1, false), (2, false), (3, false)]) (idx1 := 200) (idx2 := 202) (k := 1) hL hP hD hS hrel2 hl hn (by decide) pmC (wth0_declare l D kA a pa bO 20001 V X PV K T (ev xs n 1) (ev xs n 2) (ev xs n 3) h7) zwh_200 ⟨Nat.le_of_ble_eq_true rfl, Nat.le_of_ble_eq_true rfl⟩ ⟨rfl, rfl⟩ (met_X8_declare l D kA a8 20001 V8 (ev xs n 1) (ev xs n 2) (ev xs n 3) (hd8 hD) h8) zwl_202 ⟨Nat.le_of_ble_eq_true rfl, Nat.le_of_ble_eq_true rfl⟩ ⟨rfl, rfl⟩ h9 ⟨by decide, by decide⟩ (by decide) ⟨by omega, by omega⟩ dr_16 (fun H1 locs1 ls1 q1 q2 => W.widen (k := cells + 25) (n := slots + 2046) (by omega) (by omega) (kk H1 locs1 ls1 q1 q2))
    · have h9 : Vr 9 0 = 2 := h9
      have hrel2 : Rel V PV K Vr := hrel2
      exact jcT (ks := [(1, false), (2, false), (3, false)]) (idx1 := 200) (idx2 := 202) (k := 2) hL hP hD hS hrel2 hl hn (by decide) pmC (wth1_declare l D kA a pa bO 20001 V X PV K T (ev xs n 1) (ev xs n 2) (ev xs n 3) h7) zwh_200 ⟨Nat.le_of_ble_eq_true rfl, Nat.le_of_ble_eq_true rfl⟩ ⟨rfl, rfl⟩ (met_X8_declare l D kA a8 20001 V8 (ev xs n 1) (ev xs n 2) (ev xs n 3) (hd8 hD) h8) zwl_202 ⟨Nat.le_of_ble_eq_true rfl, Nat.le_of_ble_eq_true rfl⟩ ⟨rfl, rfl⟩ h9 ⟨by decide, by decide⟩ (by decide) ⟨by omega, by omega⟩ dr_16 (fun H1 locs1 ls1 q1 q2 => W.widen (k := cells + 25) (n := slots + 2046) (by omega) (by omega) (kk H1 locs1 ls1 q1 q2))
    · have h9 : Vr 9 0 = 3 := h9
      have hrel2 : Rel V PV K Vr := hrel2
      exact jcT (ks := [(1, false), (2, false), (3, false)]) (idx1 := 200) (idx2 := 202) (k := 3) hL hP hD hS hrel2 hl hn (by decide) pmC (wth2_declare l D kA a pa bO 20001 V X PV K T (ev xs n 1) (ev xs n 2) (ev xs n 3) h7) zwh_200 ⟨Nat.le_of_ble_eq_true rfl, Nat.le_of_ble_eq_true rfl⟩ ⟨rfl, rfl⟩ (met_X8_declare l D kA a8 20001 V8 (ev xs n 1) (ev xs n 2) (ev xs n 3) (hd8 hD) h8) zwl_202 ⟨Nat.le_of_ble_eq_true rfl, Nat.le_of_ble_eq_true rfl⟩ ⟨rfl, rfl⟩ h9 ⟨by decide, by decide⟩ (by decide) ⟨by omega, by omega⟩ dr_16 (fun H1 locs1 ls1 q1 q2 => W.widen (k := cells + 25) (n := slots + 2046) (by omega) (by omega) (kk H1 locs1 ls1 q1 q2))
theorem zwh_203 : zwH RL 203 yL_revoke cL_revoke 5 (some .int) [(0, 10, 13, 19), (0, 10, 17, 13)] 4 := ⟨⟨qw_902, qw_903, qw_0, (qin_4 (i := 184) rfl rfl)⟩, by decide +kernel, by decide +kernel, by decide +kernel⟩
theorem zwl_205 : zwV RL 205 RX8 yX8_revoke cX8_revoke 4 (some .int) 2 := ⟨⟨qw_1643, qw_1644, qw_1645, qw_9, qw_1646⟩, rfl, by decide +kernel, by decide +kernel, by decide +kernel⟩
theorem dr_17 : ∀ q ∈ cqRows [(1, false), (2, false)] 1264 203 205, decode code q.1 = .ok q.2 := by decide +kernel
set_option maxHeartbeats 1000000 in
set_option maxRecDepth 100000 in
theorem ca_17 (hL : LC p l s m c b L xs D kA adK adV) (hI : LI D kA a a8 bO bD s H locs) (hl : lv_has ls 10 (lb a a8 bO bD b n)) (hn : n + 6 ≤ L) (hf : cells + 25 ≤ room_1.cells ∧ slots + 2046 ≤ room_1.slots)
    (kk : ∀ (H1 : Heap) (locs1 : List Loc) (ls1 : Array Slot), LI D kA a a8 bO bD s H1 locs1 → lv_has ls1 10 (lb a a8 bO bD b n) → W p l e room_1 s m #[Value.ref b] below meth c H1 locs1 (cells + 25) (slots + 2046) Q (F0 m 3089 ls1 [])) : W p l e room_1 s m #[Value.ref b] below meth c H locs cells slots Q (F0 m 1264 ls []) := by
  obtain ⟨pa, V, X, PV, K, V8, T, TD, hP, hD, hS, hrel⟩ := hI
  obtain ⟨⟨r, Vr⟩, h8, ho⟩ := ag_revoke (X := X) (n := 20001) (k := (ev xs n 1)) (day := (ev xs n 2)) hrel (by decide) (ev_rng xs n 1) (ev_rng xs n 2)
  rcases ho with ⟨V1, PV1, K1, h7, h9, hrel2⟩ | ⟨er, h7, h9, hne, hrel2⟩
  · have h7 : _ = some (Sum.inl (r, V1, PV1, K1)) := h7
    have h9 : Vr 9 0 = 0 := h9
    have hrel2 : Rel V1 PV1 K1 Vr := hrel2
    exact jcC (ks := [(1, false), (2, false)]) (idx1 := 203) (idx2 := 205) hL hP hD hS hrel2 hl hn (by decide) (won_revoke l D kA a pa bO 20001 V X PV K T (ev xs n 1) (ev xs n 2) H.size (hdC hD) h7) zwh_203 ⟨Nat.le_of_ble_eq_true rfl, Nat.le_of_ble_eq_true rfl⟩ ⟨rfl, rfl⟩ (met_X8_revoke l D kA a8 20001 V8 (ev xs n 1) (ev xs n 2) (hd8 hD) h8) zwl_205 ⟨Nat.le_of_ble_eq_true rfl, Nat.le_of_ble_eq_true rfl⟩ ⟨rfl, rfl⟩ h9 (if_pos rfl) ⟨by omega, by omega⟩ dr_17 (fun H1 locs1 ls1 q1 q2 => W.widen (k := cells + 25) (n := slots + 2046) (by omega) (by omega) (kk H1 locs1 ls1 q1 q2))
  · rcases cdB_ne hne with rfl | rfl
    · have h9 : Vr 9 0 = 1 := h9
      have hrel2 : Rel V PV K Vr := hrel2
      exact jcT (ks := [(1, false), (2, false)]) (idx1 := 203) (idx2 := 205) (k := 1) hL hP hD hS hrel2 hl hn (by decide) pmC (wth0_revoke l D kA a pa bO 20001 V X PV K T (ev xs n 1) (ev xs n 2) h7) zwh_203 ⟨Nat.le_of_ble_eq_true rfl, Nat.le_of_ble_eq_true rfl⟩ ⟨rfl, rfl⟩ (met_X8_revoke l D kA a8 20001 V8 (ev xs n 1) (ev xs n 2) (hd8 hD) h8) zwl_205 ⟨Nat.le_of_ble_eq_true rfl, Nat.le_of_ble_eq_true rfl⟩ ⟨rfl, rfl⟩ h9 ⟨by decide, by decide⟩ (by decide) ⟨by omega, by omega⟩ dr_17 (fun H1 locs1 ls1 q1 q2 => W.widen (k := cells + 25) (n := slots + 2046) (by omega) (by omega) (kk H1 locs1 ls1 q1 q2))
    · have h9 : Vr 9 0 = 2 := h9
      have hrel2 : Rel V PV K Vr := hrel2
      exact jcT (ks := [(1, false), (2, false)]) (idx1 := 203) (idx2 := 205) (k := 2) hL hP hD hS hrel2 hl hn (by decide) pmC (wth1_revoke l D kA a pa bO 20001 V X PV K T (ev xs n 1) (ev xs n 2) h7) zwh_203 ⟨Nat.le_of_ble_eq_true rfl, Nat.le_of_ble_eq_true rfl⟩ ⟨rfl, rfl⟩ (met_X8_revoke l D kA a8 20001 V8 (ev xs n 1) (ev xs n 2) (hd8 hD) h8) zwl_205 ⟨Nat.le_of_ble_eq_true rfl, Nat.le_of_ble_eq_true rfl⟩ ⟨rfl, rfl⟩ h9 ⟨by decide, by decide⟩ (by decide) ⟨by omega, by omega⟩ dr_17 (fun H1 locs1 ls1 q1 q2 => W.widen (k := cells + 25) (n := slots + 2046) (by omega) (by omega) (kk H1 locs1 ls1 q1 q2))
theorem zwh_206 : zwH RL 206 yL_addGift cL_addGift 7 (some .int) [(0, 14, 17, 19), (0, 14, 21, 13), (0, 14, 25, 54)] 6 := ⟨⟨qw_913, qw_914, qw_0, (qin_4 (i := 195) rfl rfl)⟩, by decide +kernel, by decide +kernel, by decide +kernel⟩
theorem zwl_209 : zwV RL 209 RX8 yX8_addGift cX8_addGift 6 (some .int) 4 := ⟨⟨qw_1647, qw_1648, qw_1649, qw_9, qw_1650⟩, rfl, by decide +kernel, by decide +kernel, by decide +kernel⟩
theorem dr_18 : ∀ q ∈ cqRows [(1, false), (2, false), (3, false), (4, false)] 1332 206 209, decode code q.1 = .ok q.2 := by decide +kernel
set_option maxHeartbeats 1000000 in
set_option maxRecDepth 100000 in
theorem ca_18 (hL : LC p l s m c b L xs D kA adK adV) (hI : LI D kA a a8 bO bD s H locs) (hl : lv_has ls 10 (lb a a8 bO bD b n)) (hn : n + 6 ≤ L) (hf : cells + 25 ≤ room_1.cells ∧ slots + 2046 ≤ room_1.slots)
    (kk : ∀ (H1 : Heap) (locs1 : List Loc) (ls1 : Array Slot), LI D kA a a8 bO bD s H1 locs1 → lv_has ls1 10 (lb a a8 bO bD b n) → W p l e room_1 s m #[Value.ref b] below meth c H1 locs1 (cells + 25) (slots + 2046) Q (F0 m 3089 ls1 [])) : W p l e room_1 s m #[Value.ref b] below meth c H locs cells slots Q (F0 m 1332 ls []) := by
  obtain ⟨pa, V, X, PV, K, V8, T, TD, hP, hD, hS, hrel⟩ := hI
  obtain ⟨⟨r, Vr⟩, h8, ho⟩ := ag_addGift (X := X) (n := 20001) (d := (ev xs n 1)) (day := (ev xs n 2)) (am := (ev xs n 3)) (be := (ev xs n 4)) hrel (by decide) (ev_rng xs n 1) (ev_rng xs n 2) (ev_rng xs n 3) (ev_rng xs n 4)
  rcases ho with ⟨V1, PV1, K1, h7, h9, hrel2⟩ | ⟨er, h7, h9, hne, hrel2⟩
  · have h7 : _ = some (Sum.inl (r, V1, PV1, K1)) := h7
    have h9 : Vr 9 0 = 0 := h9
    have hrel2 : Rel V1 PV1 K1 Vr := hrel2
    exact jcC (ks := [(1, false), (2, false), (3, false), (4, false)]) (idx1 := 206) (idx2 := 209) hL hP hD hS hrel2 hl hn (by decide) (won_addGift l D kA a pa bO 20001 V X PV K T (ev xs n 1) (ev xs n 2) (ev xs n 3) (ev xs n 4) H.size (hdC hD) h7) zwh_206 ⟨Nat.le_of_ble_eq_true rfl, Nat.le_of_ble_eq_true rfl⟩ ⟨rfl, rfl⟩ (met_X8_addGift l D kA a8 20001 V8 (ev xs n 1) (ev xs n 2) (ev xs n 3) (ev xs n 4) (hd8 hD) h8) zwl_209 ⟨Nat.le_of_ble_eq_true rfl, Nat.le_of_ble_eq_true rfl⟩ ⟨rfl, rfl⟩ h9 (if_pos rfl) ⟨by omega, by omega⟩ dr_18 (fun H1 locs1 ls1 q1 q2 => W.widen (k := cells + 25) (n := slots + 2046) (by omega) (by omega) (kk H1 locs1 ls1 q1 q2))
  · rcases cdC_ne hne with rfl | rfl | rfl
    · have h9 : Vr 9 0 = 1 := h9
      have hrel2 : Rel V PV K Vr := hrel2
      exact jcT (ks := [(1, false), (2, false), (3, false), (4, false)]) (idx1 := 206) (idx2 := 209) (k := 1) hL hP hD hS hrel2 hl hn (by decide) pmC (wth0_addGift l D kA a pa bO 20001 V X PV K T (ev xs n 1) (ev xs n 2) (ev xs n 3) (ev xs n 4) h7) zwh_206 ⟨Nat.le_of_ble_eq_true rfl, Nat.le_of_ble_eq_true rfl⟩ ⟨rfl, rfl⟩ (met_X8_addGift l D kA a8 20001 V8 (ev xs n 1) (ev xs n 2) (ev xs n 3) (ev xs n 4) (hd8 hD) h8) zwl_209 ⟨Nat.le_of_ble_eq_true rfl, Nat.le_of_ble_eq_true rfl⟩ ⟨rfl, rfl⟩ h9 ⟨by decide, by decide⟩ (by decide) ⟨by omega, by omega⟩ dr_18 (fun H1 locs1 ls1 q1 q2 => W.widen (k := cells + 25) (n := slots + 2046) (by omega) (by omega) (kk H1 locs1 ls1 q1 q2))
    · have h9 : Vr 9 0 = 2 := h9
      have hrel2 : Rel V PV K Vr := hrel2
      exact jcT (ks := [(1, false), (2, false), (3, false), (4, false)]) (idx1 := 206) (idx2 := 209) (k := 2) hL hP hD hS hrel2 hl hn (by decide) pmC (wth1_addGift l D kA a pa bO 20001 V X PV K T (ev xs n 1) (ev xs n 2) (ev xs n 3) (ev xs n 4) h7) zwh_206 ⟨Nat.le_of_ble_eq_true rfl, Nat.le_of_ble_eq_true rfl⟩ ⟨rfl, rfl⟩ (met_X8_addGift l D kA a8 20001 V8 (ev xs n 1) (ev xs n 2) (ev xs n 3) (ev xs n 4) (hd8 hD) h8) zwl_209 ⟨Nat.le_of_ble_eq_true rfl, Nat.le_of_ble_eq_true rfl⟩ ⟨rfl, rfl⟩ h9 ⟨by decide, by decide⟩ (by decide) ⟨by omega, by omega⟩ dr_18 (fun H1 locs1 ls1 q1 q2 => W.widen (k := cells + 25) (n := slots + 2046) (by omega) (by omega) (kk H1 locs1 ls1 q1 q2))
    · have h9 : Vr 9 0 = 3 := h9
      have hrel2 : Rel V PV K Vr := hrel2
      exact jcT (ks := [(1, false), (2, false), (3, false), (4, false)]) (idx1 := 206) (idx2 := 209) (k := 3) hL hP hD hS hrel2 hl hn (by decide) pmC (wth2_addGift l D kA a pa bO 20001 V X PV K T (ev xs n 1) (ev xs n 2) (ev xs n 3) (ev xs n 4) h7) zwh_206 ⟨Nat.le_of_ble_eq_true rfl, Nat.le_of_ble_eq_true rfl⟩ ⟨rfl, rfl⟩ (met_X8_addGift l D kA a8 20001 V8 (ev xs n 1) (ev xs n 2) (ev xs n 3) (ev xs n 4) (hd8 hD) h8) zwl_209 ⟨Nat.le_of_ble_eq_true rfl, Nat.le_of_ble_eq_true rfl⟩ ⟨rfl, rfl⟩ h9 ⟨by decide, by decide⟩ (by decide) ⟨by omega, by omega⟩ dr_18 (fun H1 locs1 ls1 q1 q2 => W.widen (k := cells + 25) (n := slots + 2046) (by omega) (by omega) (kk H1 locs1 ls1 q1 q2))
theorem zwh_210 : zwH RL 210 yL_split cL_split 7 (some .int) [(0, 14, 17, 19), (0, 14, 21, 13), (0, 14, 25, 54)] 6 := ⟨⟨qw_925, qw_926, qw_0, (qin_4 (i := 207) rfl rfl)⟩, by decide +kernel, by decide +kernel, by decide +kernel⟩
theorem zwl_212 : zwV RL 212 RX8 yX8_split cX8_split 5 (some .int) 4 := ⟨⟨qw_1651, qw_1652, qw_1653, qw_9, qw_1654⟩, rfl, by decide +kernel, by decide +kernel, by decide +kernel⟩
theorem dr_19 : ∀ q ∈ cqRows [(1, false), (2, false), (3, false), (4, false)] 1424 210 212, decode code q.1 = .ok q.2 := by decide +kernel
set_option maxHeartbeats 1000000 in
set_option maxRecDepth 100000 in
theorem ca_19 (hL : LC p l s m c b L xs D kA adK adV) (hI : LI D kA a a8 bO bD s H locs) (hl : lv_has ls 10 (lb a a8 bO bD b n)) (hn : n + 6 ≤ L) (hf : cells + 25 ≤ room_1.cells ∧ slots + 2046 ≤ room_1.slots)
    (kk : ∀ (H1 : Heap) (locs1 : List Loc) (ls1 : Array Slot), LI D kA a a8 bO bD s H1 locs1 → lv_has ls1 10 (lb a a8 bO bD b n) → W p l e room_1 s m #[Value.ref b] below meth c H1 locs1 (cells + 25) (slots + 2046) Q (F0 m 3089 ls1 [])) : W p l e room_1 s m #[Value.ref b] below meth c H locs cells slots Q (F0 m 1424 ls []) := by
  obtain ⟨pa, V, X, PV, K, V8, T, TD, hP, hD, hS, hrel⟩ := hI
  obtain ⟨⟨r, Vr⟩, h8, ho⟩ := ag_split (X := X) (n := 20001) (g := (ev xs n 1)) (f := (ev xs n 2)) (o := (ev xs n 3)) (s := (ev xs n 4)) hrel (by decide) (ev_rng xs n 1) (ev_rng xs n 2) (ev_rng xs n 3) (ev_rng xs n 4)
  rcases ho with ⟨V1, PV1, K1, h7, h9, hrel2⟩ | ⟨er, h7, h9, hne, hrel2⟩
  · have h7 : _ = some (Sum.inl (r, V1, PV1, K1)) := h7
    have h9 : Vr 9 0 = 0 := h9
    have hrel2 : Rel V1 PV1 K1 Vr := hrel2
    exact jcC (ks := [(1, false), (2, false), (3, false), (4, false)]) (idx1 := 210) (idx2 := 212) hL hP hD hS hrel2 hl hn (by decide) (won_split l D kA a pa bO 20001 V X PV K T (ev xs n 1) (ev xs n 2) (ev xs n 3) (ev xs n 4) H.size (hdC hD) h7) zwh_210 ⟨Nat.le_of_ble_eq_true rfl, Nat.le_of_ble_eq_true rfl⟩ ⟨rfl, rfl⟩ (met_X8_split l D kA a8 20001 V8 (ev xs n 1) (ev xs n 2) (ev xs n 3) (ev xs n 4) (hd8 hD) h8) zwl_212 ⟨Nat.le_of_ble_eq_true rfl, Nat.le_of_ble_eq_true rfl⟩ ⟨rfl, rfl⟩ h9 (if_pos rfl) ⟨by omega, by omega⟩ dr_19 (fun H1 locs1 ls1 q1 q2 => W.widen (k := cells + 25) (n := slots + 2046) (by omega) (by omega) (kk H1 locs1 ls1 q1 q2))
  · rcases cdC_ne hne with rfl | rfl | rfl
    · have h9 : Vr 9 0 = 1 := h9
      have hrel2 : Rel V PV K Vr := hrel2
      exact jcT (ks := [(1, false), (2, false), (3, false), (4, false)]) (idx1 := 210) (idx2 := 212) (k := 1) hL hP hD hS hrel2 hl hn (by decide) pmC (wth0_split l D kA a pa bO 20001 V X PV K T (ev xs n 1) (ev xs n 2) (ev xs n 3) (ev xs n 4) h7) zwh_210 ⟨Nat.le_of_ble_eq_true rfl, Nat.le_of_ble_eq_true rfl⟩ ⟨rfl, rfl⟩ (met_X8_split l D kA a8 20001 V8 (ev xs n 1) (ev xs n 2) (ev xs n 3) (ev xs n 4) (hd8 hD) h8) zwl_212 ⟨Nat.le_of_ble_eq_true rfl, Nat.le_of_ble_eq_true rfl⟩ ⟨rfl, rfl⟩ h9 ⟨by decide, by decide⟩ (by decide) ⟨by omega, by omega⟩ dr_19 (fun H1 locs1 ls1 q1 q2 => W.widen (k := cells + 25) (n := slots + 2046) (by omega) (by omega) (kk H1 locs1 ls1 q1 q2))
    · have h9 : Vr 9 0 = 2 := h9
      have hrel2 : Rel V PV K Vr := hrel2
      exact jcT (ks := [(1, false), (2, false), (3, false), (4, false)]) (idx1 := 210) (idx2 := 212) (k := 2) hL hP hD hS hrel2 hl hn (by decide) pmC (wth1_split l D kA a pa bO 20001 V X PV K T (ev xs n 1) (ev xs n 2) (ev xs n 3) (ev xs n 4) h7) zwh_210 ⟨Nat.le_of_ble_eq_true rfl, Nat.le_of_ble_eq_true rfl⟩ ⟨rfl, rfl⟩ (met_X8_split l D kA a8 20001 V8 (ev xs n 1) (ev xs n 2) (ev xs n 3) (ev xs n 4) (hd8 hD) h8) zwl_212 ⟨Nat.le_of_ble_eq_true rfl, Nat.le_of_ble_eq_true rfl⟩ ⟨rfl, rfl⟩ h9 ⟨by decide, by decide⟩ (by decide) ⟨by omega, by omega⟩ dr_19 (fun H1 locs1 ls1 q1 q2 => W.widen (k := cells + 25) (n := slots + 2046) (by omega) (by omega) (kk H1 locs1 ls1 q1 q2))
    · have h9 : Vr 9 0 = 3 := h9
      have hrel2 : Rel V PV K Vr := hrel2
      exact jcT (ks := [(1, false), (2, false), (3, false), (4, false)]) (idx1 := 210) (idx2 := 212) (k := 3) hL hP hD hS hrel2 hl hn (by decide) pmC (wth2_split l D kA a pa bO 20001 V X PV K T (ev xs n 1) (ev xs n 2) (ev xs n 3) (ev xs n 4) h7) zwh_210 ⟨Nat.le_of_ble_eq_true rfl, Nat.le_of_ble_eq_true rfl⟩ ⟨rfl, rfl⟩ (met_X8_split l D kA a8 20001 V8 (ev xs n 1) (ev xs n 2) (ev xs n 3) (ev xs n 4) (hd8 hD) h8) zwl_212 ⟨Nat.le_of_ble_eq_true rfl, Nat.le_of_ble_eq_true rfl⟩ ⟨rfl, rfl⟩ h9 ⟨by decide, by decide⟩ (by decide) ⟨by omega, by omega⟩ dr_19 (fun H1 locs1 ls1 q1 q2 => W.widen (k := cells + 25) (n := slots + 2046) (by omega) (by omega) (kk H1 locs1 ls1 q1 q2))
theorem zwh_213 : zwH RL 213 yL_refund cL_refund 5 (some .int) [(0, 10, 13, 19), (0, 10, 17, 13), (0, 10, 21, 54)] 4 := ⟨⟨qw_947, qw_948, qw_0, (qin_4 (i := 229) rfl rfl)⟩, by decide +kernel, by decide +kernel, by decide +kernel⟩
theorem zwl_215 : zwV RL 215 RX8 yX8_refund cX8_refund 7 (some .int) 2 := ⟨⟨qw_1667, qw_1668, qw_1669, qw_9, qw_1670⟩, rfl, by decide +kernel, by decide +kernel, by decide +kernel⟩
theorem dr_20 : ∀ q ∈ cqRows [(1, false), (2, false)] 1516 213 215, decode code q.1 = .ok q.2 := by decide +kernel
set_option maxHeartbeats 1000000 in
set_option maxRecDepth 100000 in
theorem ca_20 (hL : LC p l s m c b L xs D kA adK adV) (hI : LI D kA a a8 bO bD s H locs) (hl : lv_has ls 10 (lb a a8 bO bD b n)) (hn : n + 6 ≤ L) (hf : cells + 25 ≤ room_1.cells ∧ slots + 2046 ≤ room_1.slots)
    (kk : ∀ (H1 : Heap) (locs1 : List Loc) (ls1 : Array Slot), LI D kA a a8 bO bD s H1 locs1 → lv_has ls1 10 (lb a a8 bO bD b n) → W p l e room_1 s m #[Value.ref b] below meth c H1 locs1 (cells + 25) (slots + 2046) Q (F0 m 3089 ls1 [])) : W p l e room_1 s m #[Value.ref b] below meth c H locs cells slots Q (F0 m 1516 ls []) := by
  obtain ⟨pa, V, X, PV, K, V8, T, TD, hP, hD, hS, hrel⟩ := hI
  obtain ⟨⟨r, Vr⟩, h8, ho⟩ := ag_refund (X := X) (n := 20001) (g := (ev xs n 1)) (am := (ev xs n 2)) hrel (by decide) (ev_rng xs n 1) (ev_rng xs n 2)
  rcases ho with ⟨V1, PV1, K1, h7, h9, hrel2⟩ | ⟨er, h7, h9, hne, hrel2⟩
  · have h7 : _ = some (Sum.inl (r, V1, PV1, K1)) := h7
    have h9 : Vr 9 0 = 0 := h9
    have hrel2 : Rel V1 PV1 K1 Vr := hrel2
    exact jcC (ks := [(1, false), (2, false)]) (idx1 := 213) (idx2 := 215) hL hP hD hS hrel2 hl hn (by decide) (won_refund l D kA a pa bO 20001 V X PV K T (ev xs n 1) (ev xs n 2) H.size (hdC hD) h7) zwh_213 ⟨Nat.le_of_ble_eq_true rfl, Nat.le_of_ble_eq_true rfl⟩ ⟨rfl, rfl⟩ (met_X8_refund l D kA a8 20001 V8 (ev xs n 1) (ev xs n 2) (hd8 hD) h8) zwl_215 ⟨Nat.le_of_ble_eq_true rfl, Nat.le_of_ble_eq_true rfl⟩ ⟨rfl, rfl⟩ h9 (if_pos rfl) ⟨by omega, by omega⟩ dr_20 (fun H1 locs1 ls1 q1 q2 => W.widen (k := cells + 25) (n := slots + 2046) (by omega) (by omega) (kk H1 locs1 ls1 q1 q2))
  · rcases cdC_ne hne with rfl | rfl | rfl
    · have h9 : Vr 9 0 = 1 := h9
      have hrel2 : Rel V PV K Vr := hrel2
      exact jcT (ks := [(1, false), (2, false)]) (idx1 := 213) (idx2 := 215) (k := 1) hL hP hD hS hrel2 hl hn (by decide) pmC (wth0_refund l D kA a pa bO 20001 V X PV K T (ev xs n 1) (ev xs n 2) h7) zwh_213 ⟨Nat.le_of_ble_eq_true rfl, Nat.le_of_ble_eq_true rfl⟩ ⟨rfl, rfl⟩ (met_X8_refund l D kA a8 20001 V8 (ev xs n 1) (ev xs n 2) (hd8 hD) h8) zwl_215 ⟨Nat.le_of_ble_eq_true rfl, Nat.le_of_ble_eq_true rfl⟩ ⟨rfl, rfl⟩ h9 ⟨by decide, by decide⟩ (by decide) ⟨by omega, by omega⟩ dr_20 (fun H1 locs1 ls1 q1 q2 => W.widen (k := cells + 25) (n := slots + 2046) (by omega) (by omega) (kk H1 locs1 ls1 q1 q2))
    · have h9 : Vr 9 0 = 2 := h9
      have hrel2 : Rel V PV K Vr := hrel2
      exact jcT (ks := [(1, false), (2, false)]) (idx1 := 213) (idx2 := 215) (k := 2) hL hP hD hS hrel2 hl hn (by decide) pmC (wth1_refund l D kA a pa bO 20001 V X PV K T (ev xs n 1) (ev xs n 2) h7) zwh_213 ⟨Nat.le_of_ble_eq_true rfl, Nat.le_of_ble_eq_true rfl⟩ ⟨rfl, rfl⟩ (met_X8_refund l D kA a8 20001 V8 (ev xs n 1) (ev xs n 2) (hd8 hD) h8) zwl_215 ⟨Nat.le_of_ble_eq_true rfl, Nat.le_of_ble_eq_true rfl⟩ ⟨rfl, rfl⟩ h9 ⟨by decide, by decide⟩ (by decide) ⟨by omega, by omega⟩ dr_20 (fun H1 locs1 ls1 q1 q2 => W.widen (k := cells + 25) (n := slots + 2046) (by omega) (by omega) (kk H1 locs1 ls1 q1 q2))
    · have h9 : Vr 9 0 = 3 := h9
      have hrel2 : Rel V PV K Vr := hrel2
      exact jcT (ks := [(1, false), (2, false)]) (idx1 := 213) (idx2 := 215) (k := 3) hL hP hD hS hrel2 hl hn (by decide) pmC (wth2_refund l D kA a pa bO 20001 V X PV K T (ev xs n 1) (ev xs n 2) h7) zwh_213 ⟨Nat.le_of_ble_eq_true rfl, Nat.le_of_ble_eq_true rfl⟩ ⟨rfl, rfl⟩ (met_X8_refund l D kA a8 20001 V8 (ev xs n 1) (ev xs n 2) (hd8 hD) h8) zwl_215 ⟨Nat.le_of_ble_eq_true rfl, Nat.le_of_ble_eq_true rfl⟩ ⟨rfl, rfl⟩ h9 ⟨by decide, by decide⟩ (by decide) ⟨by omega, by omega⟩ dr_20 (fun H1 locs1 ls1 q1 q2 => W.widen (k := cells + 25) (n := slots + 2046) (by omega) (by omega) (kk H1 locs1 ls1 q1 q2))
end LCS
