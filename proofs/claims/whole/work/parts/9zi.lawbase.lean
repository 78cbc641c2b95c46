/-! the law's body: the world, what is known, back from a call -/
abbrev zOD (kA : Nat → ClassId) (b : Nat) (T : Nat → UInt64) : Nat × va_E := (b, .inl (kA 4, 1, .inr (.inr (.inr (.inl T)))))
def WL (kA : Nat → ClassId) (a a8 : Nat → Nat) (bO bD : Nat) (pa : Nat → Nat → Nat) (V X : Sz) (PV : Nat → Sz) (K : Nat) (V8 : Sz) (T : Nat → Int) (TD : Nat → UInt64) : va_W := [zOD kA bD TD] ++ (cs_X8 kA a8 V8 ++ ([zO kA bO T] ++ (cs_X7 kA a V X (zpf pa K) ++ cs_P kA pa PV K)))
abbrev zA (s : State) : Nat → Prop := fun q => s.heap.size ≤ q
theorem vaP_perm {D : va_G} {cl : List vw_C} {A B : va_W} {H : Heap} (h : A.Perm B) (hP : va_P D cl A H) : va_P D cl B H := vaP_mem.mpr (fun q hq => vaP_mem.mp hP q (h.mem_iff.mpr hq))
theorem vaD_perm {S : Nat → Prop} {A B : va_W} (h : A.Perm B) (hD : va_D S A) : va_D S B := by
  rw [vaD_nodup] at hD ⊢
  exact ⟨(h.map Prod.fst).nodup_iff.mp hD.1, fun q hq => hD.2 q (h.mem_iff.mpr hq)⟩
theorem pm_mid {α : Type} (A B C : List α) : (A ++ (B ++ C)).Perm (B ++ (A ++ C)) := by
  have h : ((A ++ B) ++ C).Perm ((B ++ A) ++ C) := List.perm_append_comm.append_right C
  rw [List.append_assoc, List.append_assoc] at h
  exact h
section WLP
variable {kA : Nat → ClassId} {a a8 : Nat → Nat} {bO bD : Nat} {pa : Nat → Nat → Nat} {V X : Sz} {PV : Nat → Sz} {K : Nat} {V8 : Sz} {T : Nat → Int} {TD : Nat → UInt64}
theorem pm8 : (WL kA a a8 bO bD pa V X PV K V8 T TD).Perm (cs_X8 kA a8 V8 ++ ([zOD kA bD TD] ++ ([zO kA bO T] ++ (cs_X7 kA a V X (zpf pa K) ++ cs_P kA pa PV K)))) := pm_mid _ _ _
theorem pmQ : (WL kA a a8 bO bD pa V X PV K V8 T TD).Perm ((zO kA bO T :: cs_X7 kA a V X (zpf pa K)) ++ (([zOD kA bD TD] ++ cs_X8 kA a8 V8) ++ cs_P kA pa PV K)) := by
  have h := pm_mid ([zOD kA bD TD] ++ cs_X8 kA a8 V8) ([zO kA bO T] ++ cs_X7 kA a V X (zpf pa K)) (cs_P kA pa PV K)
  have e : WL kA a a8 bO bD pa V X PV K V8 T TD = ([zOD kA bD TD] ++ cs_X8 kA a8 V8) ++ (([zO kA bO T] ++ cs_X7 kA a V X (zpf pa K)) ++ cs_P kA pa PV K) := by
    unfold WL; rw [List.append_assoc, List.append_assoc]
  rw [e]; exact h
theorem pmC : (WL kA a a8 bO bD pa V X PV K V8 T TD).Perm ((zO kA bO T :: (cs_X7 kA a V X (zpf pa K) ++ cs_P kA pa PV K)) ++ ([zOD kA bD TD] ++ cs_X8 kA a8 V8)) := by
  have e : WL kA a a8 bO bD pa V X PV K V8 T TD = ([zOD kA bD TD] ++ cs_X8 kA a8 V8) ++ ([zO kA bO T] ++ (cs_X7 kA a V X (zpf pa K) ++ cs_P kA pa PV K)) := by
    unfold WL; rw [List.append_assoc]
  rw [e]; exact List.perm_append_comm
theorem pm7 : (WL kA a a8 bO bD pa V X PV K V8 T TD).Perm (cs_X7 kA a V X (zpf pa K) ++ (([zOD kA bD TD] ++ (cs_X8 kA a8 V8 ++ [zO kA bO T])) ++ cs_P kA pa PV K)) := by
  have h := pm_mid ([zOD kA bD TD] ++ (cs_X8 kA a8 V8 ++ [zO kA bO T])) (cs_X7 kA a V X (zpf pa K)) (cs_P kA pa PV K)
  have e : WL kA a a8 bO bD pa V X PV K V8 T TD = ([zOD kA bD TD] ++ (cs_X8 kA a8 V8 ++ [zO kA bO T])) ++ (cs_X7 kA a V X (zpf pa K) ++ cs_P kA pa PV K) := by
    unfold WL; rw [List.append_assoc, List.append_assoc]
  rw [e]; exact h
theorem pmU : (WL kA a a8 bO bD pa V X PV K V8 T TD).Perm ((cs_X7 kA a V X (zpf pa K) ++ cs_P kA pa PV K) ++ ([zOD kA bD TD] ++ (cs_X8 kA a8 V8 ++ [zO kA bO T]))) := by
  have e : WL kA a a8 bO bD pa V X PV K V8 T TD = ([zOD kA bD TD] ++ (cs_X8 kA a8 V8 ++ [zO kA bO T])) ++ (cs_X7 kA a V X (zpf pa K) ++ cs_P kA pa PV K) := by
    unfold WL; rw [List.append_assoc, List.append_assoc]
  rw [e]; exact List.perm_append_comm
theorem pmE : (WL kA a a8 bO bD pa V X PV K V8 T TD).Perm ((zOD kA bD TD :: cs_X7 kA a V X (zpf pa K)) ++ ((cs_X8 kA a8 V8 ++ [zO kA bO T]) ++ cs_P kA pa PV K)) := by
  have h := (pm_mid (cs_X8 kA a8 V8 ++ [zO kA bO T]) (cs_X7 kA a V X (zpf pa K)) (cs_P kA pa PV K)).append_left [zOD kA bD TD]
  have e : WL kA a a8 bO bD pa V X PV K V8 T TD = [zOD kA bD TD] ++ ((cs_X8 kA a8 V8 ++ [zO kA bO T]) ++ (cs_X7 kA a V X (zpf pa K) ++ cs_P kA pa PV K)) := by
    unfold WL; rw [List.append_assoc]
  rw [e]; exact h
end WLP
section LWB
variable {p : Program} {l : Launch} {e : Env} {R : Room} {s : State} {m : MethodId} {args : Array Value} {below : List Frame} {meth : Method} {c : Code} {H H0 : Heap} {locs : List Loc} {cells slots : Nat} {Q : State → Prop}
variable {pc nL : Nat} {ls : Array Slot} {rest st0 : List Value} {A0 : Nat → Prop} {D : va_G} {kA : Nat → ClassId} {cc : ByteArray} {own : String} {o : Option Value} {Ws Rr w0 w1 : va_W}
theorem lw_back {post : va_W → Prop} {mc ms : Nat}
    (hr : va_Run p l e R s m args below meth c H locs cells slots mc ms (F0 m pc ls st0) rest (fun st oc t => oc = .returned o ∧ ∃ w : va_W, post w ∧ va_P D vwCl w t.heap ∧ va_D (zG w0 H.size) w ∧ va_F (zG w0 H.size) st t) (zG w0 H.size))
    (hP : va_P D vwCl Ws H) (hD : va_D A0 Ws) (hS : va_S A0 H0 H locs) (hA : ∀ q, H0.size ≤ q → A0 q) (hpm : Ws.Perm (w0 ++ Rr))
    (kk : ∀ (w : va_W) (H1 : Heap) (locs1 : List Loc), post w → (∀ Wt : va_W, Wt.Perm (w ++ Rr) → va_P D vwCl Wt H1 ∧ va_D A0 Wt) → va_S A0 H0 H1 locs1 → W p l e R s m args below meth c H1 locs1 (cells + mc) (slots + ms) Q (F0 m (pc + 3) ls (o.toList ++ rest))) : W p l e R s m args below meth c H locs cells slots Q (F0 m pc ls st0) := by
  have hP2 := vaP_app.mp (vaP_perm hpm hP)
  have hD2 : va_D A0 (Rr ++ w0) := vaD_swap (vaD_perm hpm hD)
  have hlt : ∀ q ∈ Rr, q.1 < H.size := fun q hq => (zPmem hP2.2 hq).lt
  have hw0 : va_D A0 w0 := vaD_right hD2
  have hzA : ∀ q : Nat, zG w0 H.size q → A0 q := fun q hq => hq.elim (fun ⟨k, e, hk⟩ => hw0.2 k (q, e) hk) (fun h => hA q (Nat.le_trans hS.1 h))
  have hn : ∀ x ∈ Rr.map Prod.fst, ∀ y ∈ w0.map Prod.fst, x ≠ y := by
    have h1 := (vaD_nodup.mp hD2).1
    rw [List.map_append] at h1
    exact (List.nodup_append.mp h1).2.2
  have hout : ∀ q ∈ Rr, ¬ zG w0 H.size q.1 := by
    rintro q hq (hz | hz)
    · obtain ⟨ee, hee⟩ := zF_mem.mp hz
      exact hn q.1 (List.mem_map.mpr ⟨q, hq, rfl⟩) q.1 (List.mem_map.mpr ⟨_, hee, rfl⟩) rfl
    · exact absurd (hlt q hq) (Nat.not_lt.mpr hz)
  intro T hT X
  obtain ⟨v, st₀, t, T', L, h0, X', hL, e1, e2, ⟨hv, w, hw, hP1, hD1, hz, hk⟩, st⟩ := hr T hT X
  cases hv
  rw [h0] at hz hk
  have hPn : va_P D vwCl (w ++ Rr) T'.heap := by
    rw [e1]
    exact vaP_app.mpr ⟨hP1, zPof (fun q hq => (zPmem hP2.2 hq).kept (hk q.1 (hlt q hq) (hout q hq)))⟩
  have hDn : va_D A0 (w ++ Rr) := vaD_swap (vaD_join hD2 hlt hD1 hzA)
  obtain ⟨t2, a1, b1⟩ := kk w T'.heap (locs ++ L) hw (fun Wt hp => ⟨vaP_perm hp.symm hPn, vaD_perm hp.symm hDn⟩) ⟨Nat.le_trans hS.1 (by rw [e1]; exact hz), fun q h1 h2 => by rw [e1, hk q (Nat.lt_of_lt_of_le h1 hS.1) (fun z => h2 (hzA q z))]; exact hS.2.1 q h1 h2, fun q hq => by
      rcases List.mem_append.mp hq with h | h
      · exact hS.2.2 q h
      · exact hzA _ (hL q h)⟩ T' rfl X'
  exact ⟨t2, st t2 a1, b1⟩
theorem dz_of (he : w1.map Prod.fst = w0.map Prod.fst) (hD : va_D A0 w0) (sz : Nat) : va_D (zG w0 sz) w1 := by
  rw [vaD_nodup] at hD ⊢
  refine ⟨by rw [he]; exact hD.1, fun q hq => Or.inl ?_⟩
  have h1 : q.1 ∈ w0.map Prod.fst := by rw [← he]; exact List.mem_map.mpr ⟨q, hq, rfl⟩
  obtain ⟨z, hz, e⟩ := List.mem_map.mp h1
  exact zF_mem.mpr ⟨z.2, by rw [← e]; exact hz⟩
theorem lw_backZ (hr : va_Run p l e R s m args below meth c H locs cells slots 0 0 (F0 m pc ls st0) rest (fun st oc t => oc = .returned o ∧ va_P D vwCl w1 t.heap ∧ va_F (zF w0) st t) (zF w0))
    (hP : va_P D vwCl Ws H) (hD : va_D A0 Ws) (hS : va_S A0 H0 H locs) (hA : ∀ q, H0.size ≤ q → A0 q) (hpm : Ws.Perm (w0 ++ Rr)) (he : w1.map Prod.fst = w0.map Prod.fst)
    (kk : ∀ (H1 : Heap) (locs1 : List Loc), (∀ Wt : va_W, Wt.Perm (w1 ++ Rr) → va_P D vwCl Wt H1 ∧ va_D A0 Wt) → va_S A0 H0 H1 locs1 → W p l e R s m args below meth c H1 locs1 cells slots Q (F0 m (pc + 3) ls (o.toList ++ rest))) : W p l e R s m args below meth c H locs cells slots Q (F0 m pc ls st0) := by
  refine lw_back (rest := rest) (post := fun w => w = w1) (mc := 0) (ms := 0) (o := o) (w0 := w0) (fun T hT X => ?_) hP hD hS hA hpm (fun w H1 locs1 hw hq hS1 => kk H1 locs1 (by rw [← hw]; exact hq) hS1)
  obtain ⟨v, st₀, t, T', L, h0, X', hL, e1, e2, ⟨hv, hP1, hz, hk⟩, st⟩ := hr T hT X
  exact ⟨v, st₀, t, T', L, h0, X', fun q hq => Or.inl (hL q hq), e1, e2, ⟨hv, w1, rfl, hP1, dz_of he (vaD_left (vaD_perm hpm hD)) _, hz, fun q h1 h2 => hk q h1 (fun z => h2 (Or.inl z))⟩, st⟩
theorem lw_backT {mc ms : Nat} (hr : va_Run p l e R s m args below meth c H locs cells slots mc ms (F0 m pc ls st0) rest (fun st oc t => oc = .returned o ∧ st.heap.size ≤ t.heap.size ∧ ∀ q : Nat, q < st.heap.size → t.heap[q]? = st.heap[q]?) (fun _ => False))
    (hP : va_P D vwCl Ws H) (hS : va_S A0 H0 H locs)
    (kk : ∀ (H1 : Heap) (locs1 : List Loc), va_P D vwCl Ws H1 → va_S A0 H0 H1 locs1 → W p l e R s m args below meth c H1 locs1 (cells + mc) (slots + ms) Q (F0 m (pc + 3) ls (o.toList ++ rest))) : W p l e R s m args below meth c H locs cells slots Q (F0 m pc ls st0) := by
  intro T hT X
  obtain ⟨v, st₀, t, T', L, h0, X', hL, e1, e2, ⟨hv, hz, hk⟩, st⟩ := hr T hT X
  cases hv
  rw [h0] at hz hk
  obtain ⟨t2, a1, b1⟩ := kk T'.heap (locs ++ L) (by rw [e1]; exact fun k q hq => (hP k q hq).kept (hk q.1 (hP k q hq).lt)) ⟨Nat.le_trans hS.1 (by rw [e1]; exact hz), fun q h1 h2 => by rw [e1, hk q (Nat.lt_of_lt_of_le h1 hS.1)]; exact hS.2.1 q h1 h2, fun q hq => by
      rcases List.mem_append.mp hq with h | h
      · exact hS.2.2 q h
      · exact (hL q h).elim⟩ T' rfl X'
  exact ⟨t2, st t2 a1, b1⟩
/-! calls from the law -/
theorem zblindTH {l : Launch} {D : va_G} {kA : Nat → ClassId} {av : List Value} {W0 : va_W} : FrameBlind (va_Pc av (fun U => va_P D vwCl W0 U.heap ∧ zK D kA U ∧ zX l U ∧ zNcs U)) := fun g U mk b h => ⟨h.1, h.2.1, h.2.2.1.calling, (zblindX (l := l) (D := D) (kA := kA) (av := av) (W0 := W0) g U mk b ⟨h.1, h.2.1, h.2.2.1, h.2.2.2.1⟩).2.2.2, zNcs.moved (Vm.Alike.refl U.vm) h.2.2.2.2⟩
theorem zX_at {U : State} (hX : zX l s) (hS : va_S (zA s) s.heap H locs) (hU : U.heap = H) (hW : s.WarmedH U.vm) : zX l U := ⟨hX.1, by rw [hU]; exact zXq.narrow (zXq.kept (zXq.moved hW.alike hX.2.1) (fun a h1 h2 => hS.2.1 a h1 h2)) (fun q h => Nat.le_trans hS.1 h), hX.2.2.warm hW⟩
theorem lcQ {idx n k : Nat} {y : MethodName} {bb : ByteArray} {hh : List (Nat × Nat × Nat × Nat)} {rm : Room} {As : List Value} (hC : CallFix p m c cc nL s args lw_all own) (hK : zK D kA s) (hM : MZH l y bb n (some .int) hh rm D kA As w0 w1 o) (hw : zwH own idx y bb n (some .int) hh k)
    (hP : va_P D vwCl Ws H) (hD : va_D A0 Ws) (hS : va_S A0 H0 H locs) (hA : ∀ q, H0.size ≤ q → A0 q) (hpm : Ws.Perm (w0 ++ Rr)) (he : w1.map Prod.fst = w0.map Prod.fst)
    (hk : As.length = k) (hl : ls.size = nL) (hst : st0 = As.reverse ++ rest) (hcat : (rest.map fun v => v.category).sum ≤ 8) (hR : rm.frames + 1 ≤ R.frames ∧ 8 + (n + 11) + rm.locals ≤ R.locals) (hrm : rm.cells = 0 ∧ rm.slots = 0) (hf : cells ≤ R.cells ∧ slots ≤ R.slots) (hdg : decode cc pc = .ok (.invokestatic idx, 3))
    (kk : ∀ (H1 : Heap) (locs1 : List Loc), (∀ Wt : va_W, Wt.Perm (w1 ++ Rr) → va_P D vwCl Wt H1 ∧ va_D A0 Wt) → va_S A0 H0 H1 locs1 → W p l e R s m args below meth c H1 locs1 cells slots Q (F0 m (pc + 3) ls (o.toList ++ rest))) : W p l e R s m args below meth c H locs cells slots Q (F0 m pc ls st0) :=
  lw_backZ (vx_runSW (g := F0 m pc ls st0) (As := As) (rest := rest) hC hM (zcwH hC.2.2.2.2 hw hR hrm.1 hrm.2) ⟨zblind, fun U hU hW => ⟨rfl, by rw [hU]; exact (vaP_app.mp (vaP_perm hpm hP)).1, hK.warm hW⟩⟩ rfl hk hl hst (lv_room hcat) hdg hf) hP hD hS hA hpm he kk
theorem lcC {idx n k mc ms : Nat} {y : MethodName} {bb : ByteArray} {hh : List (Nat × Nat × Nat × Nat)} {rm : Room} {As : List Value} {post : va_W → Prop} (hC : CallFix p m c cc nL s args lw_all own) (hK : zK D kA s) (hM : MWH l y bb n (some .int) hh rm D kA H.size As w0 o mc ms post) (hw : zwH own idx y bb n (some .int) hh k)
    (hP : va_P D vwCl Ws H) (hD : va_D A0 Ws) (hS : va_S A0 H0 H locs) (hA : ∀ q, H0.size ≤ q → A0 q) (hpm : Ws.Perm (w0 ++ Rr))
    (hk : As.length = k) (hl : ls.size = nL) (hst : st0 = As.reverse ++ rest) (hcat : (rest.map fun v => v.category).sum ≤ 8) (hR : rm.frames + 1 ≤ R.frames ∧ 8 + (n + 11) + rm.locals ≤ R.locals) (hrm : rm.cells = mc ∧ rm.slots = ms) (hf : cells + mc ≤ R.cells ∧ slots + ms ≤ R.slots) (hdg : decode cc pc = .ok (.invokestatic idx, 3))
    (kk : ∀ (w : va_W) (H1 : Heap) (locs1 : List Loc), post w → (∀ Wt : va_W, Wt.Perm (w ++ Rr) → va_P D vwCl Wt H1 ∧ va_D A0 Wt) → va_S A0 H0 H1 locs1 → W p l e R s m args below meth c H1 locs1 (cells + mc) (slots + ms) Q (F0 m (pc + 3) ls (o.toList ++ rest))) : W p l e R s m args below meth c H locs cells slots Q (F0 m pc ls st0) :=
  lw_back (vx_runSW (g := F0 m pc ls st0) (As := As) (rest := rest) hC hM (zcwH hC.2.2.2.2 hw hR hrm.1 hrm.2) ⟨zblindW, fun U hU hW => ⟨rfl, by rw [hU], by rw [hU]; exact (vaP_app.mp (vaP_perm hpm hP)).1, hK.warm hW⟩⟩ rfl hk hl hst (lv_room hcat) hdg hf) hP hD hS hA hpm kk
theorem lcT {idx n k : Nat} {y : MethodName} {bb : ByteArray} {hh : List (Nat × Nat × Nat × Nat)} {rm : Room} {As : List Value} (hC : CallFix p m c cc nL s args lw_all own) (hK : zK D kA s) (hX : zX l s) (hN : zNcs s) (hM : MTH l y bb n (some .int) hh rm D kA As w0 o) (hw : zwH own idx y bb n (some .int) hh k)
    (hP : va_P D vwCl Ws H) (hS : va_S (zA s) s.heap H locs) (hpm : Ws.Perm (w0 ++ Rr))
    (hk : As.length = k) (hl : ls.size = nL) (hst : st0 = As.reverse ++ rest) (hcat : (rest.map fun v => v.category).sum ≤ 8) (hR : rm.frames + 1 ≤ R.frames ∧ 8 + (n + 11) + rm.locals ≤ R.locals) (hrm : rm.cells = 1 ∧ rm.slots = 6) (hf : cells + 1 ≤ R.cells ∧ slots + 6 ≤ R.slots) (hdg : decode cc pc = .ok (.invokestatic idx, 3))
    (kk : ∀ (H1 : Heap) (locs1 : List Loc), va_P D vwCl Ws H1 → va_S (zA s) s.heap H1 locs1 → W p l e R s m args below meth c H1 locs1 (cells + 1) (slots + 6) Q (F0 m (pc + 3) ls (o.toList ++ rest))) : W p l e R s m args below meth c H locs cells slots Q (F0 m pc ls st0) :=
  lw_backT (vx_runSW (g := F0 m pc ls st0) (As := As) (rest := rest) hC hM (zcwH hC.2.2.2.2 hw hR hrm.1 hrm.2) ⟨zblindTH, fun U hU hW => ⟨rfl, by rw [hU]; exact (vaP_app.mp (vaP_perm hpm hP)).1, hK.warm hW, zX_at hX hS hU hW, hN.moved hW.alike⟩⟩ rfl hk hl hst (lv_room hcat) hdg hf) hP hS kk
theorem lcV {idx n k : Nat} {C : String} {y : MethodName} {bb : ByteArray} {ret : Option FieldType} {rm : Room} {b0 ci q0 : Nat} {fs As : List Value} {r : vw_C} (hC : CallFix p m c cc nL s args lw_all own) (hK : zK D kA s) (hM : MZ l y bb n ret rm D kA (.ref b0 :: As) w0 w1 o) (hw : zwV own idx C y bb n ret k)
    (hP : va_P D vwCl Ws H) (hD : va_D A0 Ws) (hS : va_S A0 H0 H locs) (hA : ∀ q, H0.size ≤ q → A0 q) (hpm : Ws.Perm (w0 ++ Rr)) (he : w1.map Prod.fst = w0.map Prod.fst)
    (hr0 : w0[q0]? = some (b0, .inr (ci, fs))) (hc : vwCl[ci]? = some r) (hrC : r.1 = C) (hk : As.length = k) (hl : ls.size = nL) (hst : st0 = As.reverse ++ .ref b0 :: rest) (hcat : (rest.map fun v => v.category).sum ≤ 8) (hR : rm.frames + 1 ≤ R.frames ∧ 8 + (n + 11) + rm.locals ≤ R.locals) (hrm : rm.cells = 0 ∧ rm.slots = 0) (hf : cells ≤ R.cells ∧ slots ≤ R.slots) (hdg : decode cc pc = .ok (.invokevirtual idx, 3))
    (kk : ∀ (H1 : Heap) (locs1 : List Loc), (∀ Wt : va_W, Wt.Perm (w1 ++ Rr) → va_P D vwCl Wt H1 ∧ va_D A0 Wt) → va_S A0 H0 H1 locs1 → W p l e R s m args below meth c H1 locs1 cells slots Q (F0 m (pc + 3) ls (o.toList ++ rest))) : W p l e R s m args below meth c H locs cells slots Q (F0 m pc ls st0) := by
  subst hrC
  have hPc := (vaP_app.mp (vaP_perm hpm hP)).1
  exact lw_backZ (va_runV (g := F0 m pc ls st0) (As := As) (rest := rest) hC hM (zcwV hC.2.2.2.2 hw hR hrm.1 hrm.2) ⟨zblind, va_recv hK.1 hPc hc hr0, fun U hU hW => ⟨rfl, by rw [hU]; exact hPc, hK.warm hW⟩⟩ rfl hk hl hst (lv_room hcat) hdg hf) hP hD hS hA hpm he kk
/-- what is known where the law stands -/
def LC (p : Program) (l : Launch) (s : State) (m : MethodId) (c : Code) (b L : Nat) (xs : Nat → Int32) (D : va_G) (kA : Nat → ClassId) (adK adV : Nat → Nat) : Prop := CallFix p m c code 10 s #[Value.ref b] lw_all RL ∧ zK D kA s ∧ zX l s ∧ zNcs s ∧ zS adK adV (zA s) s s.heap ∧ va_X b L xs s s.heap ∧ b < s.heap.size ∧ L ≤ 3072
theorem LC.drawn {b L : Nat} {xs : Nat → Int32} {adK adV : Nat → Nat} (h : LC p l s m c b L xs D kA adK adV) (d : Drawn) : LC p l (s.setDrawn d) m c b L xs D kA adK adV := by
  obtain ⟨hC, hK, hX, hN, hZ, hx, hb, hL⟩ := h
  refine ⟨⟨hC.1, hC.2.1, hC.2.2.1, hC.2.2.2.1, dr_words hC.2.2.2.2 d⟩, ⟨va_K.moved (u := s) (U := s.setDrawn d) (Vm.Alike.refl s.vm) hK.1, fun q hq => va_Nw.same rfl (rfl : s.vm = (s.setDrawn d).vm) (hK.2 q hq)⟩, ⟨hX.1, zXq.moved (u := s) (U := s.setDrawn d) (Vm.Alike.refl s.vm) hX.2.1, ⟨fun q hq => (hX.2.2.1 q hq).elim fun x hx => ⟨x, vk_R.same rfl hx⟩, fun w hw => va_tabs (zBd_tabs hw) (rfl : s.vm = (s.setDrawn d).vm) (hX.2.2.2 w hw)⟩⟩, zNcs.moved (s := s) (U := s.setDrawn d) (Vm.Alike.refl s.vm) hN, ⟨vk_S.moved (U := s.setDrawn d) (Vm.Alike.refl s.vm) hZ.1, va_Z.moved (U := s.setDrawn d) (Vm.Alike.refl s.vm) hZ.2.1, va_Zq.moved (U := s.setDrawn d) (Vm.Alike.refl s.vm) hZ.2.2.1, fun i hi => vk_R.same rfl (hZ.2.2.2 i hi)⟩, hx, hb, hL⟩
end LWB
