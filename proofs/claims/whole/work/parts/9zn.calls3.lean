section LCS
variable {p : Program} {l : Launch} {e : Env} {s : State} {m : MethodId} {below : List Frame} {meth : Method} {c : Code} {H : Heap} {locs : List Loc} {cells slots : Nat} {Q : State → Prop}
variable {ls : Array Slot} {rest : List Value} {D : va_G} {kA : Nat → ClassId} {b L n : Nat} {xs : Nat → Int32} {adK adV : Nat → Nat} {a a8 : Nat → Nat} {bO bD : Nat}
theorem zwh_216 : zwH RL 216 yL_setTaxLimit cL_setTaxLimit 5 (some .int) [(0, 10, 13, 19), (0, 10, 17, 13)] 4 := ⟨⟨qw_961, qw_962, qw_0, (qin_5 (i := 3) rfl rfl)⟩, by decide +kernel, by decide +kernel, by decide +kernel⟩
theorem zwl_218 : zwV RL 218 RX8 yX8_setTaxLimit cX8_setTaxLimit 4 (some .int) 2 := ⟨⟨qw_1671, qw_1672, qw_1673, qw_9, qw_1674⟩, rfl, by decide +kernel, by decide +kernel, by decide +kernel⟩
theorem dr_21 : ∀ q ∈ cqRows [(1, false), (2, false)] 1584 216 218, decode code q.1 = .ok q.2 := by decide +kernel
set_option maxHeartbeats 1000000 in
set_option maxRecDepth 100000 in
theorem ca_21 (hL : LC p l s m c b L xs D kA adK adV) (hI : LI D kA a a8 bO bD s H locs) (hl : lv_has ls 10 (lb a a8 bO bD b n)) (hn : n + 6 ≤ L) (hf : cells + 25 ≤ room_1.cells ∧ slots + 2046 ≤ room_1.slots)
    (kk : ∀ (H1 : Heap) (locs1 : List Loc) (ls1 : Array Slot), LI D kA a a8 bO bD s H1 locs1 → lv_has ls1 10 (lb a a8 bO bD b n) → W p l e room_1 s m #[Value.ref b] below meth c H1 locs1 (cells + 25) (slots + 2046) Q (F0 m 3089 ls1 [])) : W p l e room_1 s m #[Value.ref b] below meth c H locs cells slots Q (F0 m 1584 ls []) := by
  obtain ⟨pa, V, X, PV, K, V8, T, TD, hP, hD, hS, hrel⟩ := hI
  obtain ⟨⟨r, Vr⟩, h8, ho⟩ := ag_setTaxLimit (X := X) (n := 20001) (d := (ev xs n 1)) (x := (ev xs n 2)) hrel (by decide) (ev_rng xs n 1) (ev_rng xs n 2)
  rcases ho with ⟨V1, PV1, K1, h7, h9, hrel2⟩ | ⟨er, h7, h9, hne, hrel2⟩
  · have h7 : _ = some (Sum.inl (r, V1, PV1, K1)) := h7
    have h9 : Vr 9 0 = 0 := h9
    have hrel2 : Rel V1 PV1 K1 Vr := hrel2
    exact jcC (ks := [(1, false), (2, false)]) (idx1 := 216) (idx2 := 218) hL hP hD hS hrel2 hl hn (by decide) (won_setTaxLimit l D kA a pa bO 20001 V X PV K T (ev xs n 1) (ev xs n 2) H.size (hdC hD) h7) zwh_216 ⟨Nat.le_of_ble_eq_true rfl, Nat.le_of_ble_eq_true rfl⟩ ⟨rfl, rfl⟩ (met_X8_setTaxLimit l D kA a8 20001 V8 (ev xs n 1) (ev xs n 2) (hd8 hD) h8) zwl_218 ⟨Nat.le_of_ble_eq_true rfl, Nat.le_of_ble_eq_true rfl⟩ ⟨rfl, rfl⟩ h9 (if_pos rfl) ⟨by omega, by omega⟩ dr_21 (fun H1 locs1 ls1 q1 q2 => W.widen (k := cells + 25) (n := slots + 2046) (by omega) (by omega) (kk H1 locs1 ls1 q1 q2))
  · rcases cdB_ne hne with rfl | rfl
    · have h9 : Vr 9 0 = 1 := h9
      have hrel2 : Rel V PV K Vr := hrel2
      exact jcT (ks := [(1, false), (2, false)]) (idx1 := 216) (idx2 := 218) (k := 1) hL hP hD hS hrel2 hl hn (by decide) pmC (wth0_setTaxLimit l D kA a pa bO 20001 V X PV K T (ev xs n 1) (ev xs n 2) h7) zwh_216 ⟨Nat.le_of_ble_eq_true rfl, Nat.le_of_ble_eq_true rfl⟩ ⟨rfl, rfl⟩ (met_X8_setTaxLimit l D kA a8 20001 V8 (ev xs n 1) (ev xs n 2) (hd8 hD) h8) zwl_218 ⟨Nat.le_of_ble_eq_true rfl, Nat.le_of_ble_eq_true rfl⟩ ⟨rfl, rfl⟩ h9 ⟨by decide, by decide⟩ (by decide) ⟨by omega, by omega⟩ dr_21 (fun H1 locs1 ls1 q1 q2 => W.widen (k := cells + 25) (n := slots + 2046) (by omega) (by omega) (kk H1 locs1 ls1 q1 q2))
    · have h9 : Vr 9 0 = 2 := h9
      have hrel2 : Rel V PV K Vr := hrel2
      exact jcT (ks := [(1, false), (2, false)]) (idx1 := 216) (idx2 := 218) (k := 2) hL hP hD hS hrel2 hl hn (by decide) pmC (wth1_setTaxLimit l D kA a pa bO 20001 V X PV K T (ev xs n 1) (ev xs n 2) h7) zwh_216 ⟨Nat.le_of_ble_eq_true rfl, Nat.le_of_ble_eq_true rfl⟩ ⟨rfl, rfl⟩ (met_X8_setTaxLimit l D kA a8 20001 V8 (ev xs n 1) (ev xs n 2) (hd8 hD) h8) zwl_218 ⟨Nat.le_of_ble_eq_true rfl, Nat.le_of_ble_eq_true rfl⟩ ⟨rfl, rfl⟩ h9 ⟨by decide, by decide⟩ (by decide) ⟨by omega, by omega⟩ dr_21 (fun H1 locs1 ls1 q1 q2 => W.widen (k := cells + 25) (n := slots + 2046) (by omega) (by omega) (kk H1 locs1 ls1 q1 q2))
theorem zwh_219 : zwH RL 219 yL_setRate cL_setRate 4 (some .int) [(0, 9, 12, 13)] 3 := ⟨⟨qw_968, qw_969, qw_0, (qin_5 (i := 10) rfl rfl)⟩, by decide +kernel, by decide +kernel, by decide +kernel⟩
theorem zwl_221 : zwV RL 221 RX8 yX8_setRate cX8_setRate 3 (some .int) 1 := ⟨⟨qw_1675, qw_1676, qw_1677, qw_9, qw_1678⟩, rfl, by decide +kernel, by decide +kernel, by decide +kernel⟩
theorem dr_22 : ∀ q ∈ cqRows [(1, false)] 1652 219 221, decode code q.1 = .ok q.2 := by decide +kernel
set_option maxHeartbeats 1000000 in
set_option maxRecDepth 100000 in
theorem ca_22 (hL : LC p l s m c b L xs D kA adK adV) (hI : LI D kA a a8 bO bD s H locs) (hl : lv_has ls 10 (lb a a8 bO bD b n)) (hn : n + 6 ≤ L) (hf : cells + 25 ≤ room_1.cells ∧ slots + 2046 ≤ room_1.slots)
    (kk : ∀ (H1 : Heap) (locs1 : List Loc) (ls1 : Array Slot), LI D kA a a8 bO bD s H1 locs1 → lv_has ls1 10 (lb a a8 bO bD b n) → W p l e room_1 s m #[Value.ref b] below meth c H1 locs1 (cells + 25) (slots + 2046) Q (F0 m 3089 ls1 [])) : W p l e room_1 s m #[Value.ref b] below meth c H locs cells slots Q (F0 m 1652 ls []) := by
  obtain ⟨pa, V, X, PV, K, V8, T, TD, hP, hD, hS, hrel⟩ := hI
  obtain ⟨⟨r, Vr⟩, h8, ho⟩ := ag_setRate (X := X) (n := 20001) (x := (ev xs n 1)) hrel (by decide) (ev_rng xs n 1)
  rcases ho with ⟨V1, PV1, K1, h7, h9, hrel2⟩ | ⟨er, h7, h9, hne, hrel2⟩
  · have h7 : _ = some (Sum.inl (r, V1, PV1, K1)) := h7
    have h9 : Vr 9 0 = 0 := h9
    have hrel2 : Rel V1 PV1 K1 Vr := hrel2
    exact jcC (ks := [(1, false)]) (idx1 := 219) (idx2 := 221) hL hP hD hS hrel2 hl hn (by decide) (won_setRate l D kA a pa bO 20001 V X PV K T (ev xs n 1) H.size (hdC hD) h7) zwh_219 ⟨Nat.le_of_ble_eq_true rfl, Nat.le_of_ble_eq_true rfl⟩ ⟨rfl, rfl⟩ (met_X8_setRate l D kA a8 20001 V8 (ev xs n 1) (hd8 hD) h8) zwl_221 ⟨Nat.le_of_ble_eq_true rfl, Nat.le_of_ble_eq_true rfl⟩ ⟨rfl, rfl⟩ h9 (if_pos rfl) ⟨by omega, by omega⟩ dr_22 (fun H1 locs1 ls1 q1 q2 => W.widen (k := cells + 25) (n := slots + 2046) (by omega) (by omega) (kk H1 locs1 ls1 q1 q2))
  · rcases cdI_ne hne with rfl
    · have h9 : Vr 9 0 = 1 := h9
      have hrel2 : Rel V PV K Vr := hrel2
      exact jcT (ks := [(1, false)]) (idx1 := 219) (idx2 := 221) (k := 1) hL hP hD hS hrel2 hl hn (by decide) pmC (wth1_setRate l D kA a pa bO 20001 V X PV K T (ev xs n 1) h7) zwh_219 ⟨Nat.le_of_ble_eq_true rfl, Nat.le_of_ble_eq_true rfl⟩ ⟨rfl, rfl⟩ (met_X8_setRate l D kA a8 20001 V8 (ev xs n 1) (hd8 hD) h8) zwl_221 ⟨Nat.le_of_ble_eq_true rfl, Nat.le_of_ble_eq_true rfl⟩ ⟨rfl, rfl⟩ h9 ⟨by decide, by decide⟩ (by decide) ⟨by omega, by omega⟩ dr_22 (fun H1 locs1 ls1 q1 q2 => W.widen (k := cells + 25) (n := slots + 2046) (by omega) (by omega) (kk H1 locs1 ls1 q1 q2))
theorem zwh_222 : zwH RL 222 yL_claim cL_claim 4 (some .int) [(0, 9, 12, 13), (0, 9, 15, 54)] 3 := ⟨⟨qw_975, qw_976, qw_0, (qin_5 (i := 17) rfl rfl)⟩, by decide +kernel, by decide +kernel, by decide +kernel⟩
theorem zwl_224 : zwV RL 224 RX8 yX8_claim cX8_claim 6 (some .int) 1 := ⟨⟨qw_1679, qw_1680, qw_1681, qw_9, qw_1682⟩, rfl, by decide +kernel, by decide +kernel, by decide +kernel⟩
theorem dr_23 : ∀ q ∈ cqRows [(1, false)] 1708 222 224, decode code q.1 = .ok q.2 := by decide +kernel
set_option maxHeartbeats 1000000 in
set_option maxRecDepth 100000 in
theorem ca_23 (hL : LC p l s m c b L xs D kA adK adV) (hI : LI D kA a a8 bO bD s H locs) (hl : lv_has ls 10 (lb a a8 bO bD b n)) (hn : n + 6 ≤ L) (hf : cells + 25 ≤ room_1.cells ∧ slots + 2046 ≤ room_1.slots)
    (kk : ∀ (H1 : Heap) (locs1 : List Loc) (ls1 : Array Slot), LI D kA a a8 bO bD s H1 locs1 → lv_has ls1 10 (lb a a8 bO bD b n) → W p l e room_1 s m #[Value.ref b] below meth c H1 locs1 (cells + 25) (slots + 2046) Q (F0 m 3089 ls1 [])) : W p l e room_1 s m #[Value.ref b] below meth c H locs cells slots Q (F0 m 1708 ls []) := by
  obtain ⟨pa, V, X, PV, K, V8, T, TD, hP, hD, hS, hrel⟩ := hI
  obtain ⟨⟨r, Vr⟩, h8, ho⟩ := ag_claim (X := X) (n := 20001) (day := (ev xs n 1)) hrel (by decide) (ev_rng xs n 1)
  rcases ho with ⟨V1, PV1, K1, h7, h9, hrel2⟩ | ⟨er, h7, h9, hne, hrel2⟩
  · have h7 : _ = some (Sum.inl (r, V1, PV1, K1)) := h7
    have h9 : Vr 9 0 = 0 := h9
    have hrel2 : Rel V1 PV1 K1 Vr := hrel2
    exact jcC (ks := [(1, false)]) (idx1 := 222) (idx2 := 224) hL hP hD hS hrel2 hl hn (by decide) (won_claim l D kA a pa bO 20001 V X PV K T (ev xs n 1) H.size (hdC hD) h7) zwh_222 ⟨Nat.le_of_ble_eq_true rfl, Nat.le_of_ble_eq_true rfl⟩ ⟨rfl, rfl⟩ (met_X8_claim l D kA a8 20001 V8 (ev xs n 1) (hd8 hD) h8) zwl_224 ⟨Nat.le_of_ble_eq_true rfl, Nat.le_of_ble_eq_true rfl⟩ ⟨rfl, rfl⟩ h9 (if_pos rfl) ⟨by omega, by omega⟩ dr_23 (fun H1 locs1 ls1 q1 q2 => W.widen (k := cells + 25) (n := slots + 2046) (by omega) (by omega) (kk H1 locs1 ls1 q1 q2))
  · rcases cdJ_ne hne with rfl | rfl
    · have h9 : Vr 9 0 = 1 := h9
      have hrel2 : Rel V PV K Vr := hrel2
      exact jcT (ks := [(1, false)]) (idx1 := 222) (idx2 := 224) (k := 1) hL hP hD hS hrel2 hl hn (by decide) pmC (wth1_claim l D kA a pa bO 20001 V X PV K T (ev xs n 1) h7) zwh_222 ⟨Nat.le_of_ble_eq_true rfl, Nat.le_of_ble_eq_true rfl⟩ ⟨rfl, rfl⟩ (met_X8_claim l D kA a8 20001 V8 (ev xs n 1) (hd8 hD) h8) zwl_224 ⟨Nat.le_of_ble_eq_true rfl, Nat.le_of_ble_eq_true rfl⟩ ⟨rfl, rfl⟩ h9 ⟨by decide, by decide⟩ (by decide) ⟨by omega, by omega⟩ dr_23 (fun H1 locs1 ls1 q1 q2 => W.widen (k := cells + 25) (n := slots + 2046) (by omega) (by omega) (kk H1 locs1 ls1 q1 q2))
    · have h9 : Vr 9 0 = 2 := h9
      have hrel2 : Rel V PV K Vr := hrel2
      exact jcT (ks := [(1, false)]) (idx1 := 222) (idx2 := 224) (k := 2) hL hP hD hS hrel2 hl hn (by decide) pmC (wth2_claim l D kA a pa bO 20001 V X PV K T (ev xs n 1) h7) zwh_222 ⟨Nat.le_of_ble_eq_true rfl, Nat.le_of_ble_eq_true rfl⟩ ⟨rfl, rfl⟩ (met_X8_claim l D kA a8 20001 V8 (ev xs n 1) (hd8 hD) h8) zwl_224 ⟨Nat.le_of_ble_eq_true rfl, Nat.le_of_ble_eq_true rfl⟩ ⟨rfl, rfl⟩ h9 ⟨by decide, by decide⟩ (by decide) ⟨by omega, by omega⟩ dr_23 (fun H1 locs1 ls1 q1 q2 => W.widen (k := cells + 25) (n := slots + 2046) (by omega) (by omega) (kk H1 locs1 ls1 q1 q2))
theorem zwh_225 : zwH RL 225 yL_claimed cL_claimed 5 (some .int) [(0, 10, 13, 19), (0, 10, 17, 13)] 4 := ⟨⟨qw_1012, qw_1013, qw_0, (qin_5 (i := 54) rfl rfl)⟩, by decide +kernel, by decide +kernel, by decide +kernel⟩
theorem zwl_227 : zwV RL 227 RX8 yX8_claimed cX8_claimed 3 (some .int) 2 := ⟨⟨qw_1690, qw_1691, qw_1692, qw_9, qw_1693⟩, rfl, by decide +kernel, by decide +kernel, by decide +kernel⟩
theorem dr_24 : ∀ q ∈ cqRows [(1, false), (2, false)] 1764 225 227, decode code q.1 = .ok q.2 := by decide +kernel
set_option maxHeartbeats 1000000 in
set_option maxRecDepth 100000 in
theorem ca_24 (hL : LC p l s m c b L xs D kA adK adV) (hI : LI D kA a a8 bO bD s H locs) (hl : lv_has ls 10 (lb a a8 bO bD b n)) (hn : n + 6 ≤ L) (hf : cells + 25 ≤ room_1.cells ∧ slots + 2046 ≤ room_1.slots)
    (kk : ∀ (H1 : Heap) (locs1 : List Loc) (ls1 : Array Slot), LI D kA a a8 bO bD s H1 locs1 → lv_has ls1 10 (lb a a8 bO bD b n) → W p l e room_1 s m #[Value.ref b] below meth c H1 locs1 (cells + 25) (slots + 2046) Q (F0 m 3089 ls1 [])) : W p l e room_1 s m #[Value.ref b] below meth c H locs cells slots Q (F0 m 1764 ls []) := by
  obtain ⟨pa, V, X, PV, K, V8, T, TD, hP, hD, hS, hrel⟩ := hI
  obtain ⟨⟨r, Vr⟩, h8, ho⟩ := ag_claimed (X := X) (k := (ev xs n 1)) (q := (ev xs n 2)) hrel.1 (ev_rng xs n 1) (ev_rng xs n 2)
  have hrel2 := asks_rel hrel ho
  obtain ⟨-, ⟨h9, h7⟩ | ⟨er, h7, h9, hne⟩⟩ := ho
  · have h7 : _ = some (Sum.inl r) := h7
    have h9 : Vr 9 0 = 0 := h9
    have hrel2 : Rel V PV K Vr := hrel2
    exact jcQ (ks := [(1, false), (2, false)]) (idx1 := 225) (idx2 := 227) hL hP hD hS hrel2 hl hn (by decide) (won_claimed l D kA a (zpf pa K) bO V X T (ev xs n 1) (ev xs n 2) (hdQ hD) h7) zwh_225 ⟨Nat.le_of_ble_eq_true rfl, Nat.le_of_ble_eq_true rfl⟩ ⟨rfl, rfl⟩ (met_X8_claimed l D kA a8 V8 (ev xs n 1) (ev xs n 2) (hd8 hD) h8) zwl_227 ⟨Nat.le_of_ble_eq_true rfl, Nat.le_of_ble_eq_true rfl⟩ ⟨rfl, rfl⟩ h9 (if_pos rfl) ⟨by omega, by omega⟩ dr_24 (fun H1 locs1 ls1 q1 q2 => W.widen (k := cells + 25) (n := slots + 2046) (by omega) (by omega) (kk H1 locs1 ls1 q1 q2))
  · rcases cdB_ne hne with rfl | rfl
    · have h9 : Vr 9 0 = 1 := h9
      have hrel2 : Rel V PV K Vr := hrel2
      exact jcT (ks := [(1, false), (2, false)]) (idx1 := 225) (idx2 := 227) (k := 1) hL hP hD hS hrel2 hl hn (by decide) pmQ (wth0_claimed l D kA a (zpf pa K) bO V X T (ev xs n 1) (ev xs n 2) h7) zwh_225 ⟨Nat.le_of_ble_eq_true rfl, Nat.le_of_ble_eq_true rfl⟩ ⟨rfl, rfl⟩ (met_X8_claimed l D kA a8 V8 (ev xs n 1) (ev xs n 2) (hd8 hD) h8) zwl_227 ⟨Nat.le_of_ble_eq_true rfl, Nat.le_of_ble_eq_true rfl⟩ ⟨rfl, rfl⟩ h9 ⟨by decide, by decide⟩ (by decide) ⟨by omega, by omega⟩ dr_24 (fun H1 locs1 ls1 q1 q2 => W.widen (k := cells + 25) (n := slots + 2046) (by omega) (by omega) (kk H1 locs1 ls1 q1 q2))
    · have h9 : Vr 9 0 = 2 := h9
      have hrel2 : Rel V PV K Vr := hrel2
      exact jcT (ks := [(1, false), (2, false)]) (idx1 := 225) (idx2 := 227) (k := 2) hL hP hD hS hrel2 hl hn (by decide) pmQ (wth1_claimed l D kA a (zpf pa K) bO V X T (ev xs n 1) (ev xs n 2) h7) zwh_225 ⟨Nat.le_of_ble_eq_true rfl, Nat.le_of_ble_eq_true rfl⟩ ⟨rfl, rfl⟩ (met_X8_claimed l D kA a8 V8 (ev xs n 1) (ev xs n 2) (hd8 hD) h8) zwl_227 ⟨Nat.le_of_ble_eq_true rfl, Nat.le_of_ble_eq_true rfl⟩ ⟨rfl, rfl⟩ h9 ⟨by decide, by decide⟩ (by decide) ⟨by omega, by omega⟩ dr_24 (fun H1 locs1 ls1 q1 q2 => W.widen (k := cells + 25) (n := slots + 2046) (by omega) (by omega) (kk H1 locs1 ls1 q1 q2))
theorem zwh_228 : zwH RL 228 yL_claimable cL_claimable 5 (some .int) [(0, 10, 13, 13)] 4 := ⟨⟨qw_1020, qw_1021, qw_0, (qin_5 (i := 62) rfl rfl)⟩, by decide +kernel, by decide +kernel, by decide +kernel⟩
theorem zwl_231 : zwV RL 231 RX8 yX8_claimable cX8_claimable 6 (some .int) 2 := ⟨⟨qw_1694, qw_1695, qw_1696, qw_9, qw_1697⟩, rfl, by decide +kernel, by decide +kernel, by decide +kernel⟩
theorem dr_25 : ∀ q ∈ cqRows [(1, false), (2, true)] 1832 228 231, decode code q.1 = .ok q.2 := by decide +kernel
set_option maxHeartbeats 1000000 in
set_option maxRecDepth 100000 in
theorem ca_25 (hL : LC p l s m c b L xs D kA adK adV) (hI : LI D kA a a8 bO bD s H locs) (hl : lv_has ls 10 (lb a a8 bO bD b n)) (hn : n + 6 ≤ L) (hf : cells + 25 ≤ room_1.cells ∧ slots + 2046 ≤ room_1.slots)
    (kk : ∀ (H1 : Heap) (locs1 : List Loc) (ls1 : Array Slot), LI D kA a a8 bO bD s H1 locs1 → lv_has ls1 10 (lb a a8 bO bD b n) → W p l e room_1 s m #[Value.ref b] below meth c H1 locs1 (cells + 25) (slots + 2046) Q (F0 m 3089 ls1 [])) : W p l e room_1 s m #[Value.ref b] below meth c H locs cells slots Q (F0 m 1832 ls []) := by
  obtain ⟨pa, V, X, PV, K, V8, T, TD, hP, hD, hS, hrel⟩ := hI
  obtain ⟨⟨r, Vr⟩, h8, ho⟩ := ag_claimable (X := X) (n := 20001) (q := (ev xs n 1)) (f := (bn (ev xs n 2))) hrel.1 (by decide) (ev_rng xs n 1) (bn_rng _)
  have hrel2 := asks_rel hrel ho
  obtain ⟨-, ⟨h9, h7⟩ | ⟨er, h7, h9, hne⟩⟩ := ho
  · have h7 : _ = some (Sum.inl r) := h7
    have h9 : Vr 9 0 = 0 := h9
    have hrel2 : Rel V PV K Vr := hrel2
    exact jcQ (ks := [(1, false), (2, true)]) (idx1 := 228) (idx2 := 231) hL hP hD hS hrel2 hl hn (by decide) (won_claimable l D kA a (zpf pa K) bO 20001 V X T (ev xs n 1) (bn (ev xs n 2)) (hdQ hD) h7) zwh_228 ⟨Nat.le_of_ble_eq_true rfl, Nat.le_of_ble_eq_true rfl⟩ ⟨rfl, rfl⟩ (met_X8_claimable l D kA a8 20001 V8 (ev xs n 1) (bn (ev xs n 2)) (hd8 hD) h8) zwl_231 ⟨Nat.le_of_ble_eq_true rfl, Nat.le_of_ble_eq_true rfl⟩ ⟨rfl, rfl⟩ h9 (if_pos rfl) ⟨by omega, by omega⟩ dr_25 (fun H1 locs1 ls1 q1 q2 => W.widen (k := cells + 25) (n := slots + 2046) (by omega) (by omega) (kk H1 locs1 ls1 q1 q2))
  · rcases cdI_ne hne with rfl
    · have h9 : Vr 9 0 = 1 := h9
      have hrel2 : Rel V PV K Vr := hrel2
      exact jcT (ks := [(1, false), (2, true)]) (idx1 := 228) (idx2 := 231) (k := 1) hL hP hD hS hrel2 hl hn (by decide) pmQ (wth1_claimable l D kA a (zpf pa K) bO 20001 V X T (ev xs n 1) (bn (ev xs n 2)) h7) zwh_228 ⟨Nat.le_of_ble_eq_true rfl, Nat.le_of_ble_eq_true rfl⟩ ⟨rfl, rfl⟩ (met_X8_claimable l D kA a8 20001 V8 (ev xs n 1) (bn (ev xs n 2)) (hd8 hD) h8) zwl_231 ⟨Nat.le_of_ble_eq_true rfl, Nat.le_of_ble_eq_true rfl⟩ ⟨rfl, rfl⟩ h9 ⟨by decide, by decide⟩ (by decide) ⟨by omega, by omega⟩ dr_25 (fun H1 locs1 ls1 q1 q2 => W.widen (k := cells + 25) (n := slots + 2046) (by omega) (by omega) (kk H1 locs1 ls1 q1 q2))
theorem zwh_240 : zwH RL 240 yL_lost cL_lost 4 (some .int) [(0, 9, 12, 13)] 3 := ⟨⟨qw_1031, qw_1032, qw_0, (qin_5 (i := 73) rfl rfl)⟩, by decide +kernel, by decide +kernel, by decide +kernel⟩
theorem zwl_242 : zwV RL 242 RX8 yX8_lost cX8_lost 4 (some .int) 1 := ⟨⟨qw_1714, qw_1715, qw_1716, qw_9, qw_1717⟩, rfl, by decide +kernel, by decide +kernel, by decide +kernel⟩
theorem dr_28 : ∀ q ∈ cqRows [(1, false)] 1942 240 242, decode code q.1 = .ok q.2 := by decide +kernel
set_option maxHeartbeats 1000000 in
set_option maxRecDepth 100000 in
theorem ca_28 (hL : LC p l s m c b L xs D kA adK adV) (hI : LI D kA a a8 bO bD s H locs) (hl : lv_has ls 10 (lb a a8 bO bD b n)) (hn : n + 6 ≤ L) (hf : cells + 25 ≤ room_1.cells ∧ slots + 2046 ≤ room_1.slots)
    (kk : ∀ (H1 : Heap) (locs1 : List Loc) (ls1 : Array Slot), LI D kA a a8 bO bD s H1 locs1 → lv_has ls1 10 (lb a a8 bO bD b n) → W p l e room_1 s m #[Value.ref b] below meth c H1 locs1 (cells + 25) (slots + 2046) Q (F0 m 3089 ls1 [])) : W p l e room_1 s m #[Value.ref b] below meth c H locs cells slots Q (F0 m 1942 ls []) := by
  obtain ⟨pa, V, X, PV, K, V8, T, TD, hP, hD, hS, hrel⟩ := hI
  obtain ⟨⟨r, Vr⟩, h8, ho⟩ := ag_lost (X := X) (n := 20001) (q := (ev xs n 1)) hrel.1 (by decide) (ev_rng xs n 1)
  have hrel2 := asks_rel hrel ho
  obtain ⟨-, ⟨h9, h7⟩ | ⟨er, h7, h9, hne⟩⟩ := ho
  · have h7 : _ = some (Sum.inl r) := h7
    have h9 : Vr 9 0 = 0 := h9
    have hrel2 : Rel V PV K Vr := hrel2
    exact jcQ (ks := [(1, false)]) (idx1 := 240) (idx2 := 242) hL hP hD hS hrel2 hl hn (by decide) (won_lost l D kA a (zpf pa K) bO 20001 V X T (ev xs n 1) (hdQ hD) h7) zwh_240 ⟨Nat.le_of_ble_eq_true rfl, Nat.le_of_ble_eq_true rfl⟩ ⟨rfl, rfl⟩ (met_X8_lost l D kA a8 20001 V8 (ev xs n 1) (hd8 hD) h8) zwl_242 ⟨Nat.le_of_ble_eq_true rfl, Nat.le_of_ble_eq_true rfl⟩ ⟨rfl, rfl⟩ h9 (if_pos rfl) ⟨by omega, by omega⟩ dr_28 (fun H1 locs1 ls1 q1 q2 => W.widen (k := cells + 25) (n := slots + 2046) (by omega) (by omega) (kk H1 locs1 ls1 q1 q2))
  · rcases cdI_ne hne with rfl
    · have h9 : Vr 9 0 = 1 := h9
      have hrel2 : Rel V PV K Vr := hrel2
      exact jcT (ks := [(1, false)]) (idx1 := 240) (idx2 := 242) (k := 1) hL hP hD hS hrel2 hl hn (by decide) pmQ (wth1_lost l D kA a (zpf pa K) bO 20001 V X T (ev xs n 1) h7) zwh_240 ⟨Nat.le_of_ble_eq_true rfl, Nat.le_of_ble_eq_true rfl⟩ ⟨rfl, rfl⟩ (met_X8_lost l D kA a8 20001 V8 (ev xs n 1) (hd8 hD) h8) zwl_242 ⟨Nat.le_of_ble_eq_true rfl, Nat.le_of_ble_eq_true rfl⟩ ⟨rfl, rfl⟩ h9 ⟨by decide, by decide⟩ (by decide) ⟨by omega, by omega⟩ dr_28 (fun H1 locs1 ls1 q1 q2 => W.widen (k := cells + 25) (n := slots + 2046) (by omega) (by omega) (kk H1 locs1 ls1 q1 q2))
theorem zwh_247 : zwH RL 247 yL_limitedYears cL_limitedYears 4 (some .int) [(0, 9, 12, 19)] 3 := ⟨⟨qw_1043, qw_1044, qw_0, (qin_5 (i := 85) rfl rfl)⟩, by decide +kernel, by decide +kernel, by decide +kernel⟩
theorem zwl_249 : zwV RL 249 RX8 yX8_limitedYears cX8_limitedYears 4 (some .int) 1 := ⟨⟨qw_1726, qw_1727, qw_1728, qw_9, qw_1729⟩, rfl, by decide +kernel, by decide +kernel, by decide +kernel⟩
theorem dr_30 : ∀ q ∈ cqRows [(1, false)] 2011 247 249, decode code q.1 = .ok q.2 := by decide +kernel
set_option maxHeartbeats 1000000 in
set_option maxRecDepth 100000 in
theorem ca_30 (hL : LC p l s m c b L xs D kA adK adV) (hI : LI D kA a a8 bO bD s H locs) (hl : lv_has ls 10 (lb a a8 bO bD b n)) (hn : n + 6 ≤ L) (hf : cells + 25 ≤ room_1.cells ∧ slots + 2046 ≤ room_1.slots)
    (kk : ∀ (H1 : Heap) (locs1 : List Loc) (ls1 : Array Slot), LI D kA a a8 bO bD s H1 locs1 → lv_has ls1 10 (lb a a8 bO bD b n) → W p l e room_1 s m #[Value.ref b] below meth c H1 locs1 (cells + 25) (slots + 2046) Q (F0 m 3089 ls1 [])) : W p l e room_1 s m #[Value.ref b] below meth c H locs cells slots Q (F0 m 2011 ls []) := by
  obtain ⟨pa, V, X, PV, K, V8, T, TD, hP, hD, hS, hrel⟩ := hI
  obtain ⟨⟨r, Vr⟩, h8, ho⟩ := ag_limitedYears (X := X) (n := 20001) (k := (ev xs n 1)) hrel.1 (by decide) (ev_rng xs n 1)
  have hrel2 := asks_rel hrel ho
  obtain ⟨-, ⟨h9, h7⟩ | ⟨er, h7, h9, hne⟩⟩ := ho
  · have h7 : _ = some (Sum.inl r) := h7
    have h9 : Vr 9 0 = 0 := h9
    have hrel2 : Rel V PV K Vr := hrel2
    exact jcQ (ks := [(1, false)]) (idx1 := 247) (idx2 := 249) hL hP hD hS hrel2 hl hn (by decide) (won_limitedYears l D kA a (zpf pa K) bO 20001 V X T (ev xs n 1) (hdQ hD) h7) zwh_247 ⟨Nat.le_of_ble_eq_true rfl, Nat.le_of_ble_eq_true rfl⟩ ⟨rfl, rfl⟩ (met_X8_limitedYears l D kA a8 20001 V8 (ev xs n 1) (hd8 hD) h8) zwl_249 ⟨Nat.le_of_ble_eq_true rfl, Nat.le_of_ble_eq_true rfl⟩ ⟨rfl, rfl⟩ h9 (if_pos rfl) ⟨by omega, by omega⟩ dr_30 (fun H1 locs1 ls1 q1 q2 => W.widen (k := cells + 25) (n := slots + 2046) (by omega) (by omega) (kk H1 locs1 ls1 q1 q2))
  · rcases cdA_ne hne with rfl
    · have h9 : Vr 9 0 = 1 := h9
      have hrel2 : Rel V PV K Vr := hrel2
      exact jcT (ks := [(1, false)]) (idx1 := 247) (idx2 := 249) (k := 1) hL hP hD hS hrel2 hl hn (by decide) pmQ (wth0_limitedYears l D kA a (zpf pa K) bO 20001 V X T (ev xs n 1) h7) zwh_247 ⟨Nat.le_of_ble_eq_true rfl, Nat.le_of_ble_eq_true rfl⟩ ⟨rfl, rfl⟩ (met_X8_limitedYears l D kA a8 20001 V8 (ev xs n 1) (hd8 hD) h8) zwl_249 ⟨Nat.le_of_ble_eq_true rfl, Nat.le_of_ble_eq_true rfl⟩ ⟨rfl, rfl⟩ h9 ⟨by decide, by decide⟩ (by decide) ⟨by omega, by omega⟩ dr_30 (fun H1 locs1 ls1 q1 q2 => W.widen (k := cells + 25) (n := slots + 2046) (by omega) (by omega) (kk H1 locs1 ls1 q1 q2))
theorem zwh_250 : zwH RL 250 yL_expiring cL_expiring 5 (some .int) [(0, 10, 13, 13)] 4 := ⟨⟨qw_1058, qw_1059, qw_0, (qin_5 (i := 100) rfl rfl)⟩, by decide +kernel, by decide +kernel, by decide +kernel⟩
theorem zwl_252 : zwV RL 252 RX8 yX8_expiring cX8_expiring 5 (some .int) 2 := ⟨⟨qw_1730, qw_1731, qw_1732, qw_9, qw_1733⟩, rfl, by decide +kernel, by decide +kernel, by decide +kernel⟩
theorem dr_31 : ∀ q ∈ cqRows [(1, false), (2, false)] 2067 250 252, decode code q.1 = .ok q.2 := by decide +kernel
set_option maxHeartbeats 1000000 in
set_option maxRecDepth 100000 in
theorem ca_31 (hL : LC p l s m c b L xs D kA adK adV) (hI : LI D kA a a8 bO bD s H locs) (hl : lv_has ls 10 (lb a a8 bO bD b n)) (hn : n + 6 ≤ L) (hf : cells + 25 ≤ room_1.cells ∧ slots + 2046 ≤ room_1.slots)
    (kk : ∀ (H1 : Heap) (locs1 : List Loc) (ls1 : Array Slot), LI D kA a a8 bO bD s H1 locs1 → lv_has ls1 10 (lb a a8 bO bD b n) → W p l e room_1 s m #[Value.ref b] below meth c H1 locs1 (cells + 25) (slots + 2046) Q (F0 m 3089 ls1 [])) : W p l e room_1 s m #[Value.ref b] below meth c H locs cells slots Q (F0 m 2067 ls []) := by
  obtain ⟨pa, V, X, PV, K, V8, T, TD, hP, hD, hS, hrel⟩ := hI
  obtain ⟨⟨r, Vr⟩, h8, ho⟩ := ag_expiring (X := X) (n := 20001) (a := (ev xs n 1)) (b := (ev xs n 2)) hrel.1 (by decide) (ev_rng xs n 1) (ev_rng xs n 2)
  have hrel2 := asks_rel hrel ho
  obtain ⟨-, ⟨h9, h7⟩ | ⟨er, h7, h9, hne⟩⟩ := ho
  · have h7 : _ = some (Sum.inl r) := h7
    have h9 : Vr 9 0 = 0 := h9
    have hrel2 : Rel V PV K Vr := hrel2
    exact jcQ (ks := [(1, false), (2, false)]) (idx1 := 250) (idx2 := 252) hL hP hD hS hrel2 hl hn (by decide) (won_expiring l D kA a (zpf pa K) bO 20001 V X T (ev xs n 1) (ev xs n 2) (hdQ hD) h7) zwh_250 ⟨Nat.le_of_ble_eq_true rfl, Nat.le_of_ble_eq_true rfl⟩ ⟨rfl, rfl⟩ (met_X8_expiring l D kA a8 20001 V8 (ev xs n 1) (ev xs n 2) (hd8 hD) h8) zwl_252 ⟨Nat.le_of_ble_eq_true rfl, Nat.le_of_ble_eq_true rfl⟩ ⟨rfl, rfl⟩ h9 (if_pos rfl) ⟨by omega, by omega⟩ dr_31 (fun H1 locs1 ls1 q1 q2 => W.widen (k := cells + 25) (n := slots + 2046) (by omega) (by omega) (kk H1 locs1 ls1 q1 q2))
  · rcases cdI_ne hne with rfl
    · have h9 : Vr 9 0 = 1 := h9
      have hrel2 : Rel V PV K Vr := hrel2
      exact jcT (ks := [(1, false), (2, false)]) (idx1 := 250) (idx2 := 252) (k := 1) hL hP hD hS hrel2 hl hn (by decide) pmQ (wth1_expiring l D kA a (zpf pa K) bO 20001 V X T (ev xs n 1) (ev xs n 2) h7) zwh_250 ⟨Nat.le_of_ble_eq_true rfl, Nat.le_of_ble_eq_true rfl⟩ ⟨rfl, rfl⟩ (met_X8_expiring l D kA a8 20001 V8 (ev xs n 1) (ev xs n 2) (hd8 hD) h8) zwl_252 ⟨Nat.le_of_ble_eq_true rfl, Nat.le_of_ble_eq_true rfl⟩ ⟨rfl, rfl⟩ h9 ⟨by decide, by decide⟩ (by decide) ⟨by omega, by omega⟩ dr_31 (fun H1 locs1 ls1 q1 q2 => W.widen (k := cells + 25) (n := slots + 2046) (by omega) (by omega) (kk H1 locs1 ls1 q1 q2))
end LCS
