section LCS
variable {p : Program} {l : Launch} {e : Env} {s : State} {m : MethodId} {below : List Frame} {meth : Method} {c : Code} {H : Heap} {locs : List Loc} {cells slots : Nat} {Q : State → Prop}
variable {ls : Array Slot} {rest : List Value} {D : va_G} {kA : Nat → ClassId} {b L n : Nat} {xs : Nat → Int32} {adK adV : Nat → Nat} {a a8 : Nat → Nat} {bO bD : Nat}
theorem zwh_285 : zwH RL 285 yL_wrongIn cL_wrongIn 5 (some .int) [(0, 10, 13, 13)] 4 := ⟨⟨qw_1150, qw_1151, qw_0, (qin_5 (i := 192) rfl rfl)⟩, by decide +kernel, by decide +kernel, by decide +kernel⟩
theorem zwl_287 : zwV RL 287 RX8 yX8_wrongIn cX8_wrongIn 5 (some .int) 2 := ⟨⟨qw_1797, qw_1798, qw_1799, qw_9, qw_1800⟩, rfl, by decide +kernel, by decide +kernel, by decide +kernel⟩
theorem dr_42 : ∀ q ∈ cqRows [(1, false), (2, false)] 2697 285 287, decode code q.1 = .ok q.2 := by decide +kernel
set_option maxHeartbeats 1000000 in
set_option maxRecDepth 100000 in
theorem ca_42 (hL : LC p l s m c b L xs D kA adK adV) (hI : LI D kA a a8 bO bD s H locs) (hl : lv_has ls 10 (lb a a8 bO bD b n)) (hn : n + 6 ≤ L) (hf : cells + 25 ≤ room_1.cells ∧ slots + 2046 ≤ room_1.slots)
    (kk : ∀ (H1 : Heap) (locs1 : List Loc) (ls1 : Array Slot), LI D kA a a8 bO bD s H1 locs1 → lv_has ls1 10 (lb a a8 bO bD b n) → W p l e room_1 s m #[Value.ref b] below meth c H1 locs1 (cells + 25) (slots + 2046) Q (F0 m 3089 ls1 [])) : W p l e room_1 s m #[Value.ref b] below meth c H locs cells slots Q (F0 m 2697 ls []) := by
  obtain ⟨pa, V, X, PV, K, V8, T, TD, hP, hD, hS, hrel⟩ := hI
  obtain ⟨⟨r, Vr⟩, h8, ho⟩ := ag_wrongIn (X := X) (n := 20001) (size := (ev xs n 1)) (seed := (ev xs n 2)) hrel (by decide) (ev_rng xs n 1)
  rcases ho with ⟨V1, h7, h9, hrel2⟩ | ⟨er, h7, h9, hne, hrel2⟩
  · have h7 : _ = some (Sum.inl (r, V1)) := h7
    have h9 : Vr 9 0 = 0 := h9
    have hrel2 : Rel V1 PV K Vr := hrel2
    exact jcQ (ks := [(1, false), (2, false)]) (idx1 := 285) (idx2 := 287) hL hP hD hS hrel2 hl hn (by decide) (won_wrongIn l D kA a (zpf pa K) bO 20001 V X T (ev xs n 1) (ev xs n 2) (hdQ hD) h7) zwh_285 ⟨Nat.le_of_ble_eq_true rfl, Nat.le_of_ble_eq_true rfl⟩ ⟨rfl, rfl⟩ (met_X8_wrongIn l D kA a8 20001 V8 (ev xs n 1) (ev xs n 2) (hd8 hD) h8) zwl_287 ⟨Nat.le_of_ble_eq_true rfl, Nat.le_of_ble_eq_true rfl⟩ ⟨rfl, rfl⟩ h9 (if_pos rfl) ⟨by omega, by omega⟩ dr_42 (fun H1 locs1 ls1 q1 q2 => W.widen (k := cells + 25) (n := slots + 2046) (by omega) (by omega) (kk H1 locs1 ls1 q1 q2))
  · rcases cdI_ne hne with rfl
    · have h9 : Vr 9 0 = 1 := h9
      have hrel2 : Rel V PV K Vr := hrel2
      exact jcT (ks := [(1, false), (2, false)]) (idx1 := 285) (idx2 := 287) (k := 1) hL hP hD hS hrel2 hl hn (by decide) pmQ (wth1_wrongIn l D kA a (zpf pa K) bO 20001 V X T (ev xs n 1) (ev xs n 2) h7) zwh_285 ⟨Nat.le_of_ble_eq_true rfl, Nat.le_of_ble_eq_true rfl⟩ ⟨rfl, rfl⟩ (met_X8_wrongIn l D kA a8 20001 V8 (ev xs n 1) (ev xs n 2) (hd8 hD) h8) zwl_287 ⟨Nat.le_of_ble_eq_true rfl, Nat.le_of_ble_eq_true rfl⟩ ⟨rfl, rfl⟩ h9 ⟨by decide, by decide⟩ (by decide) ⟨by omega, by omega⟩ dr_42 (fun H1 locs1 ls1 q1 q2 => W.widen (k := cells + 25) (n := slots + 2046) (by omega) (by omega) (kk H1 locs1 ls1 q1 q2))
theorem zwh_302 : zwH RL 302 yL_printStatement cL_printStatement 4 (some .int) [(0, 9, 12, 19)] 3 := ⟨⟨qw_1164, qw_1165, qw_0, (qin_5 (i := 206) rfl rfl)⟩, by decide +kernel, by decide +kernel, by decide +kernel⟩
theorem zwl_304 : zwV RL 304 RX8 yX8_printStatement cX8_printStatement 3 (some .int) 1 := ⟨⟨qw_1813, qw_1814, qw_1815, qw_9, qw_1816⟩, rfl, by decide +kernel, by decide +kernel, by decide +kernel⟩
theorem dr_46 : ∀ q ∈ cqRows [(1, false)] 2938 302 304, decode code q.1 = .ok q.2 := by decide +kernel
set_option maxHeartbeats 1000000 in
set_option maxRecDepth 100000 in
theorem ca_46 (hL : LC p l s m c b L xs D kA adK adV) (hI : LI D kA a a8 bO bD s H locs) (hl : lv_has ls 10 (lb a a8 bO bD b n)) (hn : n + 6 ≤ L) (hf : cells + 25 ≤ room_1.cells ∧ slots + 2046 ≤ room_1.slots)
    (kk : ∀ (H1 : Heap) (locs1 : List Loc) (ls1 : Array Slot), LI D kA a a8 bO bD s H1 locs1 → lv_has ls1 10 (lb a a8 bO bD b n) → W p l e room_1 s m #[Value.ref b] below meth c H1 locs1 (cells + 25) (slots + 2046) Q (F0 m 3089 ls1 [])) : W p l e room_1 s m #[Value.ref b] below meth c H locs cells slots Q (F0 m 2938 ls []) := by
  obtain ⟨pa, V, X, PV, K, V8, T, TD, hP, hD, hS, hrel⟩ := hI
  obtain ⟨⟨r, Vr⟩, h8, ho⟩ := ag_printStatement (X := X) (n := 20001) (d := (ev xs n 1)) hrel (by decide) (ev_rng xs n 1)
  rcases ho with ⟨V1, h7, h9, hrel2⟩ | ⟨er, h7, h9, hne, hrel2⟩
  · have h7 : _ = some (Sum.inl (r, V1)) := h7
    have h9 : Vr 9 0 = 0 := h9
    have hrel2 : Rel V1 PV K Vr := hrel2
    exact jcQ (ks := [(1, false)]) (idx1 := 302) (idx2 := 304) hL hP hD hS hrel2 hl hn (by decide) (won_printStatement l D kA a (zpf pa K) bO 20001 V X T (ev xs n 1) (hdQ hD) h7) zwh_302 ⟨Nat.le_of_ble_eq_true rfl, Nat.le_of_ble_eq_true rfl⟩ ⟨rfl, rfl⟩ (met_X8_printStatement l D kA a8 20001 V8 (ev xs n 1) (hd8 hD) h8) zwl_304 ⟨Nat.le_of_ble_eq_true rfl, Nat.le_of_ble_eq_true rfl⟩ ⟨rfl, rfl⟩ h9 (if_pos rfl) ⟨by omega, by omega⟩ dr_46 (fun H1 locs1 ls1 q1 q2 => W.widen (k := cells + 25) (n := slots + 2046) (by omega) (by omega) (kk H1 locs1 ls1 q1 q2))
  · rcases cdA_ne hne with rfl
    · have h9 : Vr 9 0 = 1 := h9
      have hrel2 : Rel V PV K Vr := hrel2
      exact jcT (ks := [(1, false)]) (idx1 := 302) (idx2 := 304) (k := 1) hL hP hD hS hrel2 hl hn (by decide) pmQ (wth0_printStatement l D kA a (zpf pa K) bO 20001 V X T (ev xs n 1) h7) zwh_302 ⟨Nat.le_of_ble_eq_true rfl, Nat.le_of_ble_eq_true rfl⟩ ⟨rfl, rfl⟩ (met_X8_printStatement l D kA a8 20001 V8 (ev xs n 1) (hd8 hD) h8) zwl_304 ⟨Nat.le_of_ble_eq_true rfl, Nat.le_of_ble_eq_true rfl⟩ ⟨rfl, rfl⟩ h9 ⟨by decide, by decide⟩ (by decide) ⟨by omega, by omega⟩ dr_46 (fun H1 locs1 ls1 q1 q2 => W.widen (k := cells + 25) (n := slots + 2046) (by omega) (by omega) (kk H1 locs1 ls1 q1 q2))
theorem zwh_317 : zwH RL 317 yL_restoreState cL_restoreState 3 (some .int) [(0, 8, 11, 54)] 2 := ⟨⟨qw_1187, qw_1188, qw_0, (qin_5 (i := 229) rfl rfl)⟩, by decide +kernel, by decide +kernel, by decide +kernel⟩
theorem zwl_320 : zwV RL 320 RX8 yX8_restoreState cX8_restoreState 1 (some .int) 0 := ⟨⟨qw_1837, qw_1838, qw_1839, qw_9, qw_1840⟩, rfl, by decide +kernel, by decide +kernel, by decide +kernel⟩
theorem dr_50 : ∀ q ∈ cqRows [] 3045 317 320, decode code q.1 = .ok q.2 := by decide +kernel
set_option maxHeartbeats 1000000 in
set_option maxRecDepth 100000 in
theorem ca_50 (hL : LC p l s m c b L xs D kA adK adV) (hI : LI D kA a a8 bO bD s H locs) (hl : lv_has ls 10 (lb a a8 bO bD b n)) (hn : n + 6 ≤ L) (hf : cells + 25 ≤ room_1.cells ∧ slots + 2046 ≤ room_1.slots)
    (kk : ∀ (H1 : Heap) (locs1 : List Loc) (ls1 : Array Slot), LI D kA a a8 bO bD s H1 locs1 → lv_has ls1 10 (lb a a8 bO bD b n) → W p l e room_1 s m #[Value.ref b] below meth c H1 locs1 (cells + 25) (slots + 2046) Q (F0 m 3089 ls1 [])) : W p l e room_1 s m #[Value.ref b] below meth c H locs cells slots Q (F0 m 3045 ls []) := by
  obtain ⟨pa, V, X, PV, K, V8, T, TD, hP, hD, hS, hrel⟩ := hI
  obtain ⟨⟨r, Vr⟩, h8, ho⟩ := ag_restoreState (X := X) (n := 20001) hrel (by decide)
  rcases ho with ⟨V1, h7, h9, hrel2⟩ | ⟨er, h7, h9, hne, hrel2⟩
  · have h7 : _ = some (Sum.inl (r, V1)) := h7
    have h9 : Vr 9 0 = 0 := h9
    have hrel2 : Rel V1 PV K Vr := hrel2
    exact jcQ (ks := []) (idx1 := 317) (idx2 := 320) hL hP hD hS hrel2 hl hn (by decide) (won_restoreState l D kA a (zpf pa K) bO V X T (hdQ hD) h7) zwh_317 ⟨Nat.le_of_ble_eq_true rfl, Nat.le_of_ble_eq_true rfl⟩ ⟨rfl, rfl⟩ (met_X8_restoreState l D kA a8 20001 V8 (hd8 hD) h8) zwl_320 ⟨Nat.le_of_ble_eq_true rfl, Nat.le_of_ble_eq_true rfl⟩ ⟨rfl, rfl⟩ h9 (if_pos rfl) ⟨by omega, by omega⟩ dr_50 (fun H1 locs1 ls1 q1 q2 => W.widen (k := cells + 25) (n := slots + 2046) (by omega) (by omega) (kk H1 locs1 ls1 q1 q2))
  · rcases cdS_ne hne with rfl
    · have h9 : Vr 9 0 = 1 := h9
      have hrel2 : Rel V PV K Vr := hrel2
      exact jcT (ks := []) (idx1 := 317) (idx2 := 320) (k := 1) hL hP hD hS hrel2 hl hn (by decide) pmQ (wth2_restoreState l D kA a (zpf pa K) bO V X T h7) zwh_317 ⟨Nat.le_of_ble_eq_true rfl, Nat.le_of_ble_eq_true rfl⟩ ⟨rfl, rfl⟩ (met_X8_restoreState l D kA a8 20001 V8 (hd8 hD) h8) zwl_320 ⟨Nat.le_of_ble_eq_true rfl, Nat.le_of_ble_eq_true rfl⟩ ⟨rfl, rfl⟩ h9 ⟨by decide, by decide⟩ (by decide) ⟨by omega, by omega⟩ dr_50 (fun H1 locs1 ls1 q1 q2 => W.widen (k := cells + 25) (n := slots + 2046) (by omega) (by omega) (kk H1 locs1 ls1 q1 q2))
end LCS
