/-! a text, on both sides -/
theorem st_any {T : Nat → Int} {L : Int} {V X V8 G : Sz} (hT : BT T L) (h : JB T L V X V8) (hS : SR G V X V8) (hk : V8 23 0 ≠ 0) {n : Nat} (hn : 1000 ≤ n) : TT (f_X8_readStatement n V8) (fun q => KeepR V8 q.2 ∧ ∃ V1 X1 G1 : Sz, (∀ (P : Sz × Sz × Sz → Prop) (x1 y2 : Int) (rec : Int × Sz × Sz × Sz → Option (Sz × Sz × Sz)), 0 ≤ y2 → y2 < 900 → TT (jX6_readAll_185 n T x1 rec y2 V1 X1 G1) P → TT (bX6_readAll_46 n T x1 rec (y2, V, X, G)) P) ∧ StOut T L (cntR V8 + 1) q V1 X1 G1) := by
  obtain ⟨w0, w1, w2, w3, w4, w5⟩ := wcodes
  have hw := jb_w h
  have hwX := cb_w h.2.1
  have hb := cb_bd h.2.1
  have htb := jb_tb h
  have e5 : V 5 0 ≠ 0 := by rw [h.2.2.1.2.2]; exact hk
  unfold f_X8_readStatement
  refine tt_bd (x8_isWord hT htb (i := 0) (by decide) hn) (fun b0 h0 => ?_)
  rw [w0, ← hw] at h0
  refine tt_ite (fun c0 => ?_) (fun c0 => ?_)
  · have n0 : ¬ X 0 0 = 431366238066 := fun q => by
      have := h0.mpr q
      rw [c0] at this; exact Bool.noConfusion this
    refine tt_bd (x8_isWord hT htb (i := 1) (by decide) hn) (fun b1 h1 => ?_)
    rw [w1, ← hw] at h1
    refine tt_ite (fun c1 => ?_) (fun c1 => ?_)
    · have n1 : ¬ X 0 0 = 28258975365558885 := fun q => by
        have := h1.mpr q
        rw [c1] at this; exact Bool.noConfusion this
      refine tt_bd (x8_isWord hT htb (i := 2) (by decide) hn) (fun b2 h2 => ?_)
      rw [w2, ← hw] at h2
      refine tt_ite (fun c2 => ?_) (fun c2 => ?_)
      · have n2 : ¬ X 0 0 = 1734960756 := fun q => by
          have := h2.mpr q
          rw [c2] at this; exact Bool.noConfusion this
        refine tt_bd (x8_isWord hT htb (i := 3) (by decide) hn) (fun b3 h3 => ?_)
        rw [w3, ← hw] at h3
        refine tt_ite (fun c3 => ?_) (fun c3 => ?_)
        · have n3 : ¬ X 0 0 = 495807392116 := fun q => by
            have := h3.mpr q
            rw [c3] at this; exact Bool.noConfusion this
          refine tt_bd (x8_isWord hT htb (i := 4) (by decide) hn) (fun b4 h4 => ?_)
          rw [w4, ← hw] at h4
          refine tt_ite (fun c4 => ?_) (fun c4 => ?_)
          · have n4 : ¬ X 0 0 = 1667330920 := fun q => by
              have := h4.mpr q
              rw [c4] at this; exact Bool.noConfusion this
            refine tt_bd (x8_isWord hT htb (i := 5) (by decide) hn) (fun b5 h5 => ?_)
            rw [w5, ← hw] at h5
            refine tt_ite (fun c5 => ?_) (fun c5 => ?_)
            · have n5 : ¬ X 0 0 = 491596309875 := fun q => by
                have := h5.mpr q
                rw [c5] at this; exact Bool.noConfusion this
              obtain ⟨Vx, ef, hFx⟩ := c6_fail (V := V) (X := X) (G := G) (T := T) (by rw [h.1.1.1]; decide) 1
              refine tt_bd (x8_failsAt h.1.2.2.1 1) (fun ⟨r, V9⟩ ⟨f1, f2, f3, f4⟩ => tt_some ⟨fun j hj => f4 j (by omega) (by omega), Vx, X, G, fun P x1 y2 rec y0 y1 hP => ?_, Or.inr ⟨f1, _, jb_fail hT h hFx ⟨by decide, by decide⟩ f2 f3⟩⟩)
              rw [bX6_readAll_46_e]
              exact tt_ck ⟨by omega, by omega⟩ (tt_f (by omega) (tt_ck ⟨by omega, by omega⟩ (tt_f e5 (tt_ck (by rw [h.1.1.1]; decide) (tt_t h.1.1.1 (tt_ck hwX (tt_f n0 (tt_f n1 (tt_f n2 (tt_f n3 (tt_f n4 (tt_f n5 (tt_eb ef hP)))))))))))))
            · have y5 := h5.mp (eq_true_of_ne_false c5)
              refine tt_bd (st_rules hT h hS hn) (fun ⟨r, V9⟩ ⟨hkr, V1, X1, G1, e, ho⟩ => tt_some ⟨hkr, V1, X1, G1, fun P x1 y2 rec y0 y1 hP => ?_, ho⟩)
              rw [bX6_readAll_46_e]
              exact tt_ck ⟨by omega, by omega⟩ (tt_f (by omega) (tt_ck ⟨by omega, by omega⟩ (tt_f e5 (tt_ck (by rw [h.1.1.1]; decide) (tt_t h.1.1.1 (tt_ck hwX (tt_f n0 (tt_f n1 (tt_f n2 (tt_f n3 (tt_f n4 (tt_t y5 (tt_eb e hP)))))))))))))
          · have y4 := h4.mp (eq_true_of_ne_false c4)
            refine tt_bd (st_cash hT h hS hn) (fun ⟨r, V9⟩ ⟨hkr, rg, Va, Xa, G1, V1, X1, e, es, ho⟩ => tt_some ⟨hkr, V1, X1, G1, fun P x1 y2 rec y0 y1 hP => ?_, ho⟩)
            rw [bX6_readAll_46_e]
            exact tt_ck ⟨by omega, by omega⟩ (tt_f (by omega) (tt_ck ⟨by omega, by omega⟩ (tt_f e5 (tt_ck (by rw [h.1.1.1]; decide) (tt_t h.1.1.1 (tt_ck hwX (tt_f n0 (tt_f n1 (tt_f n2 (tt_f n3 (tt_t y4 (tt_eb e (tt_eb es hP)))))))))))))
        · have y3 := h3.mp (eq_true_of_ne_false c3)
          refine tt_bd (st_split hT h hS hn) (fun ⟨r, V9⟩ ⟨hkr, V1, X1, G1, e, ho⟩ => tt_some ⟨hkr, V1, X1, G1, fun P x1 y2 rec y0 y1 hP => ?_, ho⟩)
          rw [bX6_readAll_46_e]
          exact tt_ck ⟨by omega, by omega⟩ (tt_f (by omega) (tt_ck ⟨by omega, by omega⟩ (tt_f e5 (tt_ck (by rw [h.1.1.1]; decide) (tt_t h.1.1.1 (tt_ck hwX (tt_f n0 (tt_f n1 (tt_f n2 (tt_t y3 (tt_eb e hP)))))))))))
      · have y2' := h2.mp (eq_true_of_ne_false c2)
        refine tt_bd (st_gift hT h hS hn) (fun ⟨r, V9⟩ ⟨hkr, V1, X1, G1, e, ho⟩ => tt_some ⟨hkr, V1, X1, G1, fun P x1 y2 rec y0 y1 hP => ?_, ho⟩)
        rw [bX6_readAll_46_e]
        exact tt_ck ⟨by omega, by omega⟩ (tt_f (by omega) (tt_ck ⟨by omega, by omega⟩ (tt_f e5 (tt_ck (by rw [h.1.1.1]; decide) (tt_t h.1.1.1 (tt_ck hwX (tt_f n0 (tt_f n1 (tt_t y2' (tt_eb e hP))))))))))
    · have y1' := h1.mp (eq_true_of_ne_false c1)
      refine tt_bd (st_declare hT h hS hn) (fun ⟨r, V9⟩ ⟨hkr, V1, X1, G1, e, ho⟩ => tt_some ⟨hkr, V1, X1, G1, fun P x1 y2 rec y0 y1 hP => ?_, ho⟩)
      rw [bX6_readAll_46_e]
      exact tt_ck ⟨by omega, by omega⟩ (tt_f (by omega) (tt_ck ⟨by omega, by omega⟩ (tt_f e5 (tt_ck (by rw [h.1.1.1]; decide) (tt_t h.1.1.1 (tt_ck hwX (tt_f n0 (tt_t y1' (tt_eb e hP)))))))))
  · have y0' := h0.mp (eq_true_of_ne_false c0)
    refine tt_bd (st_donor hT h hS hn) (fun ⟨r, V9⟩ ⟨hkr, V1, X1, G1, e, ho⟩ => tt_some ⟨hkr, V1, X1, G1, fun P x1 y2 rec y0 y1 hP => ?_, ho⟩)
    rw [bX6_readAll_46_e]
    exact tt_ck ⟨by omega, by omega⟩ (tt_f (by omega) (tt_ck ⟨by omega, by omega⟩ (tt_f e5 (tt_ck (by rw [h.1.1.1]; decide) (tt_t h.1.1.1 (tt_ck hwX (tt_t y0' (tt_eb e hP))))))))
/-- what a text leaves, on both sides -/
def TxOut (q : Bool × Sz) (Vz Xz Gz : Sz) : Prop := (q.1 = true ∧ q.2 18 0 = 0 ∧ q.2 19 0 = -1 ∧ Vz 0 0 = 0 ∧ Vz 1 0 = -1 ∧ SR Gz Vz Xz q.2) ∨ (q.1 = false ∧ ∃ c o : Int, (1 ≤ c ∧ c ≤ 4) ∧ (-1 ≤ o ∧ o ≤ 900) ∧ Vz 0 0 = c ∧ Vz 1 0 = o ∧ q.2 18 0 = c ∧ q.2 19 0 = o)
theorem sr_cnt {G V X V8 : Sz} (hS : SR G V X V8) : 0 ≤ cntR V8 ∧ cntR V8 ≤ 101 := by
  have hsa := sr_at hS
  obtain ⟨-, -, h6, h60, h61⟩ := hS
  unfold cntR
  omega
theorem keepr_trans {V1 V2 V3 : Sz} (h : KeepR V1 V2) (h1 : KeepR V2 V3) : KeepR V1 V3 := fun j hj => (h1 j hj).trans (h j hj)
theorem er_end {T : Nat → Int} {L c o : Int} {N : Nat → Int} {V X G : Sz} (hT : BT T L) (h : ER T L c o N V X) {x1 y2 : Int} (y0 : 0 ≤ y2 ∧ y2 < 900) {n m : Nat} (hn : 1000 ≤ n) : TT (jX6_readAll_185 n T x1 (lpF (bX6_readAll_46 n T x1) (m + 1)) y2 V X G) (fun r => r.1 0 0 = c ∧ r.1 1 0 = o) := by
  unfold jX6_readAll_185
  refine tt_bd (er_advance hT h hn) (fun ⟨V5, X6⟩ h5 => tt_nm ?_)
  have h5 : ER T L c o N V5 X6 := h5
  have hb := cb_bd h5.2.1
  have hr := er_rng h5
  show TT (bX6_readAll_46 n T x1 (lpF (bX6_readAll_46 n T x1) m) (y2 + 1, V5, X6, G)) _
  rw [bX6_readAll_46_e]
  refine tt_ck ⟨by omega, by omega⟩ (tt_ite (fun _ => tt_some ⟨h5.1.1, h5.1.2.1⟩) (fun _ => tt_ck ⟨by omega, by omega⟩ (tt_ite (fun _ => tt_some ⟨h5.1.1, h5.1.2.1⟩) (fun _ => tt_ck hr.1 (tt_f (by rw [h5.1.1]; have := h5.1.2.2.1; omega) (tt_some ⟨h5.1.1, h5.1.2.1⟩))))))
theorem text_both {T : Nat → Int} {L : Int} (hT : BT T L) {n : Nat} (hn : 1000 ≤ n) (x1 : Int) : ∀ (m : Nat) (V X V8 G : Sz) (y2 : Int) (nr nc : Nat), JB T L V X V8 → SR G V X V8 → (101 - cntR V8).toNat ≤ m → 0 ≤ y2 → y2 ≤ cntR V8 → m + 2 ≤ nr → m + 2 ≤ nc → TT (lpF (bX8_readText_0 n) nr V8) (fun q => KeepR V8 q.2 ∧ ∃ Vz Xz Gz : Sz, lpF (bX6_readAll_46 n T x1) nc (y2, V, X, G) = some (Vz, Xz, Gz) ∧ TxOut q Vz Xz Gz) := by
  intro m
  induction m using Nat.strongRecOn with
  | _ m ih =>
    intro V X V8 G y2 nr nc h hS hm y0 y1 hr hc
    have hcn := sr_cnt hS
    obtain ⟨nr, rfl⟩ : ∃ k, nr = k + 1 := ⟨nr - 1, by omega⟩
    obtain ⟨nc, rfl⟩ : ∃ k, nc = k + 1 + 1 := ⟨nc - 2, by omega⟩
    have hb := cb_bd h.2.1
    have hL := hT.1
    show TT (bX8_readText_0 n (lpF (bX8_readText_0 n) nr) V8) _
    rw [bX8_readText_0_e]
    have ek := h.2.2.1.2.2
    refine tt_ck ⟨by omega, by omega⟩ (tt_ite (fun c => tt_some ⟨fun _ _ => rfl, V, X, G, ?_, Or.inl ⟨rfl, h.1.2.2.1, h.1.2.2.2, h.1.1.1, h.1.1.2.1, hS⟩⟩) (fun c => ?_))
    · refine tt_eq ?_
      show TT (bX6_readAll_46 n T x1 (lpF (bX6_readAll_46 n T x1) (nc + 1)) (y2, V, X, G)) _
      rw [bX6_readAll_46_e]
      exact tt_ck ⟨by omega, by omega⟩ (tt_f (by omega) (tt_ck ⟨by omega, by omega⟩ (tt_t (by rw [ek]; exact c) (tt_some rfl))))
    refine tt_bd (st_any hT h hS c hn) (fun ⟨r, V9⟩ ⟨hkr, V1, X1, G1, hgo, ho⟩ => ?_)
    have hkr : KeepR V8 V9 := hkr
    have bad : ∀ (N : Nat → Int) (Vw : Sz) (b : Bool), BE T L N V1 X1 Vw → b = false → ∃ Vz Xz Gz : Sz, lpF (bX6_readAll_46 n T x1) (nc + 1 + 1) (y2, V, X, G) = some (Vz, Xz, Gz) ∧ TxOut (b, Vw) Vz Xz Gz := by
      intro N Vw b hBE hbf
      obtain ⟨co, o, hE, h18, h19, ho1, ho2⟩ := hBE
      obtain ⟨⟨Vz, Xz, Gz⟩, e1, u1, u2⟩ := hgo _ x1 y2 (lpF (bX6_readAll_46 n T x1) (nc + 1)) y0 (by omega) (er_end (G := G1) hT hE ⟨y0, by omega⟩ hn)
      exact ⟨Vz, Xz, Gz, e1, Or.inr ⟨hbf, co, o, ⟨hE.1.2.2.1, hE.1.2.2.2⟩, ⟨ho1, ho2⟩, u1, u2, h18, h19⟩⟩
    rcases ho with ⟨er, e18, ⟨e3, hJ1, hS1, hcnt⟩ | ⟨e3, e3r, hB⟩⟩ | ⟨er, N, hB⟩
    · have er : r = true := er
      subst er
      have e3 : V9 23 0 = 3 := e3
      have hJ1 : JB T L V1 X1 V9 := hJ1
      have hS1 : SR G1 V1 X1 V9 := hS1
      have hcnt : cntR V9 = cntR V8 + 1 := hcnt
      have hc1 := sr_cnt hS1
      refine tt_t rfl (tt_ck (by show rng (V9 23 0); rw [e3]; decide) (tt_t e3 (tt_bd (jb_next hT hJ1 hn) (fun V5 ⟨hJA, hk5⟩ => ?_))))
      obtain ⟨⟨Vb, Xb⟩, eb, hA⟩ := c6_advance (V0 := V1) (X0 := X1) (G := G1) hT hJA.1.1.2.2 hJA.2.1 hn
      have hJ2 : JB T L Vb Xb V5 := ja_adv hJA hA
      have exb : Xb 1 = X1 1 := by
        have e : Xb = us X1 0 _ := hA.2.2
        rw [e, us_ne (by decide)]
      have eb6 : Vb 6 = V1 6 := hA.2.1 6 (by decide) (by decide) (by decide)
      have e50 : V5 0 = V9 0 := hk5 0 (by decide) (by decide) (by decide) (by decide)
      have e57 : V5 7 = V9 7 := hk5 7 (by decide) (by decide) (by decide) (by decide)
      have e524 : V5 24 = V9 24 := hk5 24 (by decide) (by decide) (by decide) (by decide)
      have hS2 : SR G1 Vb Xb V5 := by
        obtain ⟨q1, q2, q3, q4⟩ := hS1
        refine ⟨by rw [e50]; exact q1, by rw [e50]; exact nmr_keep q2 exb e57, by rw [eb6, e524]; exact q3, by rw [eb6]; exact q4⟩
      have hcnt2 : cntR V5 = cntR V8 + 1 := by
        rw [← hcnt]
        unfold cntR
        rw [e50, e524]
      refine tt_mono (ih (m - 1) (by omega) Vb Xb V5 G1 (y2 + 1) nr (nc + 1) hJ2 hS2 (by omega) (by omega) (by omega) (by omega) (by omega)) (fun q ⟨hkq, Vz, Xz, Gz, ez, ht⟩ => ⟨keepr_trans hkr (keepr_trans (fun j hj => hk5 j (by omega) (by omega) (by omega) (by omega)) hkq), Vz, Xz, Gz, ?_, ht⟩)
      refine tt_eq ?_
      refine hgo _ x1 y2 (lpF (bX6_readAll_46 n T x1) (nc + 1)) y0 (by omega) ?_
      unfold jX6_readAll_185
      exact tt_eb eb (tt_nm (tt_at ez rfl))
    · have er : r = true := er
      subst er
      have e18 : V9 18 0 = 0 := e18
      have e3 : V9 23 0 ≠ 3 := e3
      refine tt_t rfl (tt_ck e3r (tt_f e3 (tt_bd (x8_failsAt e18 1) (fun ⟨b1, V3⟩ ⟨f1, f2, f3, f4⟩ => tt_some ⟨fun j hj => ?_, ?_⟩))))
      · show V3 j = V8 j
        rw [show V3 j = V9 j from f4 j (by omega) (by omega)]; exact hkr j hj
      · obtain ⟨N, hBE⟩ := hB V3 f2 f3
        exact bad N V3 b1 hBE f1
    · have er : r = false := er
      subst er
      exact tt_f (by decide) (tt_some ⟨hkr, bad N V9 false hB rfl⟩)
