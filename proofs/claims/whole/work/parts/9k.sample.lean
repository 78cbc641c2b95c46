theorem x8_noSample {V0 : Sz} {k : Int} (hk : rng k) : TT (f_X8_noSample V0 k) (RefP V0 (1 ≤ k ∧ k ≤ 60) 1) := by
  unfold f_X8_noSample
  refine tt_nmE (fun V1 e1 => ?_)
  have h0 : Thr V0 V1 0 := by rw [e1]; exact Thr.zero V0 0
  refine rg_t hk ⟨by decide, by decide⟩ ⟨by decide, by decide⟩ (fun c => ?_) (fun c => ?_)
  · unfold jX8_noSample_21
    exact f0_t (tt_some ⟨⟨fun _ => c, fun _ => rfl⟩, h0⟩)
  · unfold jX8_noSample_21
    exact f1_t (tt_some ⟨⟨fun e => Bool.noConfusion (show true = false from e), fun q => (c q).elim⟩, h0.trans (Thr.zero V1 1)⟩)
/-- a question that leaves its own cells changed, on both sides -/
def Chx {α : Type} (cf : Nat → Int) (V : Sz) (PV : Nat → Sz) (K : Nat) (x : Option ((α × Sz) ⊕ Nat)) (r : α × Sz) : Prop :=
  (∃ V1, x = some (.inl (r.1, V1)) ∧ r.2 9 0 = 0 ∧ Rel V1 PV K r.2) ∨ ∃ e : Nat, x = some (.inr e) ∧ r.2 9 0 = cf e ∧ cf e ≠ 0 ∧ Rel V PV K r.2
theorem chx_no {α : Type} {cf : Nat → Int} {V : Sz} {PV : Nat → Sz} {K : Nat} {x : Option ((α × Sz) ⊕ Nat)} {V8 V9 : Sz} {v : α} {z : Int} {e : Nat} (h : Rel V PV K V8) (hx : x = some (.inr e)) (hT : Thr V8 V9 z) (hz : z = cf e) (h0 : z ≠ 0) : Chx cf V PV K x (v, V9) := Or.inr ⟨e, hx, hT.1.trans hz, by rw [← hz]; exact h0, h.thr hT⟩
/-- a sample drawn: both states, and what they have in common -/
theorem drawn_both {V X : Sz} {PV : Nat → Sz} {K : Nat} {V8 V2 : Sz} (h : Rel V PV K V8) (hT : Thr V8 V2 0) {n : Nat} (hn : 20000 < n) {size seed : Int} (hs : 1 ≤ size ∧ size ≤ 60) : TT (f_X8_draws n V2 size seed) (fun Vm => Vm 9 0 = 0 ∧ Vm 0 = V8 0 ∧ (∀ p : Int, 0 ≤ p → partB (V8 0) p = true → Vm 12 p.toNat = aidS (V8 0) p) ∧ ∃ Vc V3, f_X2_draw n (sv 95 V) (sv 13 V) size seed = some Vc ∧ V3 = sw 95 4 V Vc ∧ DrR (V8 0) Vc Vm ∧ Rel V3 PV K Vm ∧ LR (sv 4 V3) (V8 0)) := by
  refine tt_mono (draw_both h.1 hT (sv 95 V) hn hs) (fun Vm ⟨hk, hp, Vc, ec, hR⟩ => ?_)
  have hk8 : ∀ k : Nat, k = 0 ∨ k = 2 ∨ k = 4 ∨ k = 5 ∨ k = 6 ∨ (14 ≤ k ∧ k ≤ 17) ∨ k = 30 ∨ k = 31 → Vm k = V8 k := fun k hk2 => by rw [hk k (by omega)]; exact hT.2 k (by omega)
  have hrel : Rel (sw 95 4 V Vc) PV K Vm := h.keep (fun k hk2 => sw_out (by omega)) hk8
  refine ⟨by rw [hk 9 (by decide)]; exact hT.1, hk8 0 (by decide), hp, Vc, _, ec, rfl, hR, hrel, ?_⟩
  have := hrel.1
  rw [hk8 0 (by decide)] at this
  exact this
theorem ag_sample {V X : Sz} {PV : Nat → Sz} {K : Nat} {V8 : Sz} (h : Rel V PV K V8) {n : Nat} (hn : 20000 < n) {size seed i : Int} (hs : rng size) (hi : rng i) : TT (f_X8_sample n V8 size seed i) (Chx cdI V PV K (f_X7_sample n V X size seed i)) := by
  unfold f_X8_sample
  refine tt_bd (x8_noSample hs) (fun ⟨r1, V2⟩ hr => ref_f hr (fun ok hT => ?_) (fun no hT => tt_some (chx_no (e := 1) h ?_ hT rfl (by decide))))
  · refine tt_bd (drawn_both (X := X) h hT hn ok) (fun Vm ⟨h9, h0, hp, Vc, V3, ec, e3, hR, hrel, hL3⟩ => ?_)
    obtain ⟨⟨r1, r2, r3⟩, ⟨s1, s2, s3⟩, rd, rp⟩ := hR
    have x96 : V3 96 0 = Vm 29 0 := by rw [e3]; exact r1
    have base : ∀ v : Int, (if i < 0 then some (-1, V3) else ck (rng (V3 96 0)) (if i < V3 96 0 then ck (inZ i 60) (some (V3 95 i.toNat, V3)) else some (-1, V3))) = some (v, V3) → f_X7_sample n V X size seed i = some (.inl (v, V3)) := by
      intro v hv
      unfold f_X7_sample
      rw [x7_rangeY hs ⟨by decide, by decide⟩ ⟨by decide, by decide⟩ ok, bx_l, ec, bd_s, nm_s, ← e3, ck_t hi, hv]; rfl
    refine rg_f hi ⟨by decide, by decide⟩ ⟨by omega, by omega⟩ (fun c => tt_ck ⟨by omega, by omega⟩ (tt_some (Or.inl ⟨V3, base _ ?_, h9, hrel⟩))) (fun c => tt_some (Or.inl ⟨V3, base _ ?_, h9, hrel⟩))
    · have hd := (rd i.toNat (by omega)).1
      have x95 : V3 95 i.toNat = Vm 28 i.toNat := by rw [e3]; exact hd
      rw [if_neg (by omega), x96, ck_t ⟨by omega, by omega⟩, if_pos (by omega), ck_t ⟨by omega, by omega⟩, x95]
    · by_cases c2 : i < 0
      · rw [if_pos c2]
      · rw [if_neg c2, x96, ck_t ⟨by omega, by omega⟩, if_neg (by omega)]
  · unfold f_X7_sample
    rw [x7_rangeN hs ⟨by decide, by decide⟩ ⟨by decide, by decide⟩ no]; rfl
/-- what is wrong among the first i drawn -/
def wrN (w : Rw) (D : Nat → Int) (i : Nat) : Int := sumN (fun k => if 0 < overS w (D k.toNat) then 1 else 0) i
theorem overS_bd {w : Rw} (hw : WF w) {p : Int} (p0 : 0 ≤ p) (hb : partB w p = true) : 0 ≤ overS w p ∧ overS w p ≤ 999999 := by
  have hab := aidS_bd hw p0 hb
  have hcb := wPc_bd hw p0 hb
  unfold overS
  omega
theorem tooMuch_at {V3 : Sz} {w : Rw} (h : LR (sv 4 V3) w) {p : Int} (hp : OkS w p) : f_X4_tooMuch (sv 4 V3) p = some (overS w p) := by
  rw [c4_tooMuch h hp.1.1 hp.1.2, if_pos hp.2.1]
theorem ag_wrongIn {V X : Sz} {PV : Nat → Sz} {K : Nat} {V8 : Sz} (h : Rel V PV K V8) {n : Nat} (hn : 20000 < n) {size seed : Int} (hs : rng size) : TT (f_X8_wrongIn n V8 size seed) (Chx cdI V PV K (f_X7_wrongIn n V X size seed)) := by
  have hw := h.1.2.2.1
  have a2 := hw.2.1.2.2.1
  unfold f_X8_wrongIn
  refine tt_bd (x8_noSample hs) (fun ⟨r1, V2⟩ hr => ref_f hr (fun ok hT => ?_) (fun no hT => tt_some (chx_no (e := 1) h ?_ hT rfl (by decide))))
  · refine tt_bd (drawn_both (X := X) h hT hn ok) (fun Vm ⟨h9, h0, hp, Vc, V3, ec, e3, hR, hrel, hL3⟩ => ?_)
    obtain ⟨⟨r1, r2, r3⟩, ⟨s1, s2, s3⟩, rd, rp⟩ := hR
    have x96 : V3 96 0 = Vm 29 0 := by rw [e3]; exact r1
    have hx7 : f_X7_wrongIn n V X size seed = some (.inl (wrN (V8 0) (Vm 28) (Vm 29 0).toNat, V3)) := by
      have hlp : lpF (bX7_wrongIn_28 n X size seed) n (0, 0, V3) = some (wrN (V8 0) (Vm 28) (Vm 29 0).toNat, V3) := by
        refine tt_eq ?_
        refine tt_lp (I := fun z : Int × Int × Sz => (0 ≤ z.2.1 ∧ z.2.1 ≤ Vm 29 0) ∧ z.2.2 = V3 ∧ z.1 = wrN (V8 0) (Vm 28) z.2.1.toNat) (μ := fun z => (Vm 29 0 - z.2.1).toNat) ?_ n (0, 0, V3) ⟨⟨Int.le_refl _, by show 0 ≤ Vm 29 0; omega⟩, rfl, rfl⟩ (by show (Vm 29 0 - (0 : Int)).toNat < n; omega)
        rintro ⟨sm, i, Va⟩ rec ⟨⟨i0, i1⟩, eV, es⟩ ih
        simp only at i0 i1 eV es
        subst eV
        rw [bX7_wrongIn_28_e, x96]
        have next : ∀ v : Int, v = sm + (if 0 < overS (V8 0) (Vm 28 i.toNat) then 1 else 0) → i < Vm 29 0 → TT (jX7_wrongIn_63 n X size seed rec v i Va) (fun r => r = (wrN (V8 0) (Vm 28) (Vm 29 0).toNat, Va)) := by
          intro v ev hi
          unfold jX7_wrongIn_63
          refine tt_nm (ih (v, i + 1, Va) ⟨⟨by show 0 ≤ i + 1; omega, by show i + 1 ≤ Vm 29 0; omega⟩, rfl, ?_⟩ (by show (Vm 29 0 - (i + 1)).toNat < (Vm 29 0 - i).toNat; omega))
          show v = wrN (V8 0) (Vm 28) (i + 1).toNat
          unfold wrN
          rw [sumN_step _ i0, ev, es]; rfl
        refine tt_ck ⟨⟨by omega, by omega⟩, ⟨by omega, by omega⟩⟩ (tt_ite (fun c => tt_some ?_) (fun c => ?_))
        · rw [es, show i = Vm 29 0 by omega]
        · have hd := rd i.toNat (by omega)
          have x95 : Va 95 i.toNat = Vm 28 i.toNat := by rw [e3]; exact hd.1
          have hob := overS_bd hw hd.2.1.1 hd.2.2.1
          rw [x95, tooMuch_at hL3 hd.2, bd_s]
          refine tt_ck ⟨by omega, by omega⟩ (tt_ck ⟨by omega, by omega⟩ (tt_ite (fun c2 => next sm (by rw [if_neg (by omega)]; omega) (by omega)) (fun c2 => tt_nm (next (sm + 1) (by rw [if_pos (by omega)]) (by omega)))))
      unfold f_X7_wrongIn
      rw [x7_rangeY hs ⟨by decide, by decide⟩ ⟨by decide, by decide⟩ ok, bx_l, ec, bd_s, nm_s, ← e3, hlp]; rfl
    refine tt_lp (I := fun z : Int × Int × Sz => (0 ≤ z.2.1 ∧ z.2.1 ≤ Vm 29 0) ∧ z.2.2 = Vm ∧ z.1 = wrN (V8 0) (Vm 28) z.2.1.toNat) (μ := fun z => (Vm 29 0 - z.2.1).toNat) ?_ n (0, 0, Vm) ⟨⟨Int.le_refl _, by show 0 ≤ Vm 29 0; omega⟩, rfl, rfl⟩ (by show (Vm 29 0 - (0 : Int)).toNat < n; omega)
    rintro ⟨sm, i, Va⟩ rec ⟨⟨i0, i1⟩, eV, es⟩ ih
    simp only at i0 i1 eV es
    subst eV
    rw [bX8_wrongIn_21_e]
    have next : ∀ z : Int, z = (if 0 < overS (V8 0) (Va 28 i.toNat) then 1 else 0) → i < Va 29 0 → TT (jX8_wrongIn_50 n size seed rec i Va z sm) (Chx cdI V PV K (f_X7_wrongIn n V X size seed)) := by
      intro z hz hi
      unfold jX8_wrongIn_50
      refine tt_nm (tt_nm (ih (sm + z, i + 1, Va) ⟨⟨by show 0 ≤ i + 1; omega, by show i + 1 ≤ Va 29 0; omega⟩, rfl, ?_⟩ (by show (Va 29 0 - (i + 1)).toNat < (Va 29 0 - i).toNat; omega)))
      show sm + z = wrN (V8 0) (Va 28) (i + 1).toNat
      unfold wrN
      rw [sumN_step _ i0, hz, es]; rfl
    refine tt_ck ⟨⟨by omega, by omega⟩, ⟨by omega, by omega⟩⟩ (tt_ite (fun c => tt_some (Or.inl ⟨V3, ?_, h9, hrel⟩)) (fun c => ?_))
    · rw [hx7, es, show i = Va 29 0 by omega]
    · have hd := rd i.toNat (by omega)
      have hob := overS_bd hw hd.2.1.1 hd.2.2.1
      rw [x8_over hw h0 hd.2.1.1 hd.2.2.1 (hp _ hd.2.1.1 hd.2.2.1), bd_s]
      refine tt_ck ⟨by omega, by omega⟩ (tt_ck ⟨by omega, by omega⟩ (tt_ite (fun c2 => next 0 (by rw [if_neg (by omega)]) (by omega)) (fun c2 => next 1 (by rw [if_pos (by omega)]) (by omega))))
  · unfold f_X7_wrongIn
    rw [x7_rangeN hs ⟨by decide, by decide⟩ ⟨by decide, by decide⟩ no]; rfl
def dr1 (w : Rw) (D : Nat → Int) (i : Nat) : Int := sumN (fun k => overS w (D k.toNat)) i
def dr2 (w : Rw) (D : Nat → Int) (i : Nat) : Int := sumN (fun k => wPc w (D k.toNat)) i
theorem dr_bd {w : Rw} (hw : WF w) {D : Nat → Int} {i : Nat} (hi : i ≤ 60) (h : ∀ k : Nat, k < i → OkS w (D k)) : (0 ≤ dr2 w D i ∧ dr2 w D i ≤ 60 * 999999) ∧ (0 < i → 0 < dr2 w D i) := by
  have h1 := sumN_le (f := fun k => wPc w (D k.toNat)) (c := 999999) (n := i) (fun k k0 k1 => by have hd := h k.toNat (by omega); exact (wPc_bd hw hd.1.1 hd.2.1).2)
  have h2 := sumN_nonneg (f := fun k => wPc w (D k.toNat)) (n := i) (fun k k0 k1 => by have hd := h k.toNat (by omega); exact (wPc_bd hw hd.1.1 hd.2.1).1)
  refine ⟨⟨h2, ?_⟩, fun hp => ?_⟩
  · unfold dr2; omega
  · have h3 := sumN_ge (f := fun k => wPc w (D k.toNat)) (n := i) (fun k k0 k1 => by have hd := h k.toNat (by omega); exact (wPc_bd hw hd.1.1 hd.2.1).1) (k := 0) (by decide) (by omega)
    have hd := h 0 hp
    have : 0 < wPc w (D (0 : Int).toNat) := hd.2.2
    have h3 : wPc w (D (0 : Int).toNat) ≤ dr2 w D i := h3
    omega
theorem ag_estimate {V X : Sz} {PV : Nat → Sz} {K : Nat} {V8 : Sz} (h : Rel V PV K V8) {n : Nat} (hn : 20000 < n) {size seed : Int} (hs : rng size) : TT (f_X8_estimate n V8 size seed) (Chx cdI V PV K (f_X7_estimate n V X size seed)) := by
  have hw := h.1.2.2.1
  have a2 := hw.2.1.2.2.1
  unfold f_X8_estimate
  refine tt_bd (x8_noSample hs) (fun ⟨r1, V2⟩ hr => ref_f hr (fun ok hT => ?_) (fun no hT => tt_some (chx_no (e := 1) h ?_ hT rfl (by decide))))
  · refine tt_bd (drawn_both (X := X) h hT hn ok) (fun Vm ⟨h9, h0, hp, Vc, V3, ec, e3, hR, hrel, hL3⟩ => ?_)
    obtain ⟨⟨r1, r2, r3⟩, ⟨s1, s2, s3⟩, rd, rp⟩ := hR
    have x96 : V3 96 0 = Vm 29 0 := by rw [e3]; exact r1
    have hdr : ∀ i : Nat, (i : Int) ≤ Vm 29 0 → (0 ≤ dr2 (V8 0) (Vm 28) i ∧ dr2 (V8 0) (Vm 28) i ≤ 60 * 999999) ∧ (0 < i → 0 < dr2 (V8 0) (Vm 28) i) := fun i hi => dr_bd hw (by omega) (fun k hk => (rd k (by omega)).2)
    have hall := hdr (Vm 29 0).toNat (by omega)
    obtain ⟨L, hLe⟩ : ∃ L : List Int, L = if Vm 29 0 = 0 then [] else [dr1 (V8 0) (Vm 28) (Vm 29 0).toNat, sumPS (V8 0) (measS (V8 0) 3), dr2 (V8 0) (Vm 28) (Vm 29 0).toNat] := ⟨_, rfl⟩
    have hx7 : f_X7_estimate n V X size seed = some (.inl (L, V3)) := by
      have hlp : lpF (bX7_estimate_31 n X size seed) n (0, 0, 0, V3) = some (L, V3) := by
        refine tt_eq ?_
        refine tt_lp (I := fun z : Int × Int × Int × Sz => (0 ≤ z.2.2.1 ∧ z.2.2.1 ≤ Vm 29 0) ∧ z.2.2.2 = V3 ∧ z.1 = dr1 (V8 0) (Vm 28) z.2.2.1.toNat ∧ z.2.1 = dr2 (V8 0) (Vm 28) z.2.2.1.toNat) (μ := fun z => (Vm 29 0 - z.2.2.1).toNat) ?_ n (0, 0, 0, V3) ⟨⟨Int.le_refl _, by show 0 ≤ Vm 29 0; omega⟩, rfl, rfl, rfl⟩ (by show (Vm 29 0 - (0 : Int)).toNat < n; omega)
        rintro ⟨s1', s2', i, Va⟩ rec ⟨⟨i0, i1⟩, eV, es1, es2⟩ ih
        simp only at i0 i1 eV es1 es2
        subst eV
        rw [bX7_estimate_31_e, x96]
        refine tt_ck ⟨⟨by omega, by omega⟩, ⟨by omega, by omega⟩⟩ (tt_ite (fun c => ?_) (fun c => ?_))
        · have ei : i = Vm 29 0 := by omega
          rw [ei] at es1 es2
          refine tt_ck ⟨by omega, by omega⟩ (tt_ite (fun c2 => tt_some ?_) (fun c2 => ?_))
          · have : Vm 29 0 = 0 := by
              by_cases q : 0 < (Vm 29 0).toNat
              · have := hall.2 q; omega
              · omega
            rw [hLe, if_pos this]
          · have : ¬ Vm 29 0 = 0 := fun q => c2 (by rw [es2, q]; rfl)
            rw [c4_sumOfAll hL3 (by omega) ⟨by decide, by decide⟩, bd_s]
            exact tt_some (by rw [hLe, if_neg this, es1, es2])
        · have hd := rd i.toNat (by omega)
          have x95 : Va 95 i.toNat = Vm 28 i.toNat := by rw [e3]; exact hd.1
          have x24 : Va 24 (Vm 28 i.toNat).toNat = wPc (V8 0) (Vm 28 i.toNat) := (hL3.1.2.2.2.2.1 _ hd.2.1.1 (by have := hd.2.1.2; omega) hd.2.2.1).2.2.2
          have hob := hd.2.1
          rw [x95, tooMuch_at hL3 hd.2, bd_s, x24]
          refine tt_ck ⟨by omega, by omega⟩ (tt_nm (tt_ck ⟨by omega, by omega⟩ (tt_nm (tt_nm (ih (s1' + overS (V8 0) (Vm 28 i.toNat), s2' + wPc (V8 0) (Vm 28 i.toNat), i + 1, Va) ⟨⟨by show 0 ≤ i + 1; omega, by show i + 1 ≤ Vm 29 0; omega⟩, rfl, ?_, ?_⟩ (by show (Vm 29 0 - (i + 1)).toNat < (Vm 29 0 - i).toNat; omega))))))
          · show _ = dr1 (V8 0) (Vm 28) (i + 1).toNat
            unfold dr1
            rw [sumN_step _ i0, es1]; rfl
          · show _ = dr2 (V8 0) (Vm 28) (i + 1).toNat
            unfold dr2
            rw [sumN_step _ i0, es2]; rfl
      unfold f_X7_estimate
      rw [x7_rangeY hs ⟨by decide, by decide⟩ ⟨by decide, by decide⟩ ok, bx_l, ec, bd_s, nm_s, ← e3, hlp]; rfl
    refine tt_ck ⟨by omega, by omega⟩ (tt_ite (fun c => tt_some (Or.inl ⟨V3, by rw [hx7, hLe, if_pos c], h9, hrel⟩)) (fun c => ?_))
    refine tt_lp (I := fun z : Int × Int × Int × Int × Sz => (0 ≤ z.2.2.2.1 ∧ z.2.2.2.1 ≤ Vm 29 0) ∧ z.2.2.2.2 = Vm ∧ z.1 = dr1 (V8 0) (Vm 28) z.2.2.2.1.toNat ∧ z.2.1 = dr2 (V8 0) (Vm 28) z.2.2.2.1.toNat ∧ z.2.2.1 = 0) (μ := fun z => (Vm 29 0 - z.2.2.2.1).toNat) ?_ n (0, 0, 0, 0, Vm) ⟨⟨Int.le_refl _, by show 0 ≤ Vm 29 0; omega⟩, rfl, rfl, rfl, rfl⟩ (by show (Vm 29 0 - (0 : Int)).toNat < n; omega)
    rintro ⟨s1', s2', s3', i, Va⟩ rec ⟨⟨i0, i1⟩, eV, es1, es2, es3⟩ ih
    simp only at i0 i1 eV es1 es2 es3
    subst eV
    rw [bX8_estimate_36_e]
    refine tt_ck ⟨⟨by omega, by omega⟩, ⟨by omega, by omega⟩⟩ (tt_ite (fun c1 => ?_) (fun c1 => ?_))
    · have ei : i = Va 29 0 := by omega
      rw [ei] at es1 es2
      refine tt_lp (I := fun z : Int × Int × Int × Int × Sz => (0 ≤ z.2.2.2.1 ∧ z.2.2.2.1 ≤ 180) ∧ z.2.2.2.2 = Va ∧ z.1 = s1' ∧ z.2.1 = s2' ∧ z.2.2.1 = sumN (fun p => if partB (V8 0) p = true then wPc (V8 0) p else 0) z.2.2.2.1.toNat) (μ := fun z => (180 - z.2.2.2.1).toNat) ?_ n (s1', s2', s3', 0, Va) ⟨⟨Int.le_refl _, by show (0 : Int) ≤ 180; decide⟩, rfl, rfl, rfl, es3⟩ (by show (180 - (0 : Int)).toNat < n; omega)
      rintro ⟨t1, t2, t3, p, Vb⟩ rec89 ⟨⟨p0, p1⟩, eV, et1, et2, et3⟩ ih89
      simp only at p0 p1 eV et1 et2 et3
      subst eV et1 et2
      rw [bX8_estimate_89_e]
      have next : ∀ z : Int, z = (if partB (V8 0) p = true then wPc (V8 0) p else 0) → p < 180 → TT (jX8_estimate_123 n size seed rec89 t1 t2 p Vb z t3) (Chx cdI V PV K (f_X7_estimate n V X size seed)) := by
        intro z hz hp2
        unfold jX8_estimate_123
        refine tt_nm (tt_nm (ih89 (t1, t2, t3 + z, p + 1, Vb) ⟨⟨by show 0 ≤ p + 1; omega, by show p + 1 ≤ 180; omega⟩, rfl, rfl, rfl, ?_⟩ (by show (180 - (p + 1)).toNat < (180 - p).toNat; omega)))
        show t3 + z = sumN (fun p => if partB (V8 0) p = true then wPc (V8 0) p else 0) (p + 1).toNat
        rw [sumN_step _ p0, et3, hz]
      refine tt_ck ⟨by omega, by omega⟩ (tt_ite (fun c2 => tt_some (Or.inl ⟨V3, ?_, h9, hrel⟩)) (fun c2 => ?_))
      · rw [hx7, hLe, if_neg c, es1, es2, et3, show p = 180 by omega]; rfl
      · rw [x8_isPart (by rw [h0]; exact hw.1) p0 (by omega), bd_s, h0]
        refine tt_ite (fun c3 => next 0 (by rw [if_neg (by rw [c3]; decide)]) (by omega)) (fun c3 => tt_ck ⟨by omega, by omega⟩ (next _ (by rw [if_pos (eq_true_of_ne_false c3)]; rfl) (by omega)))
    · have hd := rd i.toNat (by omega)
      have hob := hd.2.1
      have e953 : Va 0 (953 + Va 28 i.toNat).toNat = wPc (V8 0) (Va 28 i.toNat) := by rw [h0]; rfl
      rw [x8_over hw h0 hd.2.1.1 hd.2.2.1 (hp _ hd.2.1.1 hd.2.2.1), bd_s, e953]
      refine tt_ck ⟨by omega, by omega⟩ (tt_nm (tt_ck ⟨by omega, by omega⟩ (tt_nm (tt_nm (ih (s1' + overS (V8 0) (Va 28 i.toNat), s2' + wPc (V8 0) (Va 28 i.toNat), s3', i + 1, Va) ⟨⟨by show 0 ≤ i + 1; omega, by show i + 1 ≤ Va 29 0; omega⟩, rfl, ?_, ?_, es3⟩ (by show (Va 29 0 - (i + 1)).toNat < (Va 29 0 - i).toNat; omega))))))
      · show _ = dr1 (V8 0) (Va 28) (i + 1).toNat
        unfold dr1
        rw [sumN_step _ i0, es1]; rfl
      · show _ = dr2 (V8 0) (Va 28) (i + 1).toNat
        unfold dr2
        rw [sumN_step _ i0, es2]; rfl
  · unfold f_X7_estimate
    rw [x7_rangeN hs ⟨by decide, by decide⟩ ⟨by decide, by decide⟩ no]; rfl
/-! shares and means -/
def leftA (w : Rw) (q : Nat) : Int := sumN (fun g => wAm w g - wBack w g) q
def leftC (w : Rw) (q : Nat) : Int := sumN (fun g => if 0 < wAm w g - wBack w g then 1 else 0) q
theorem left_bd {w : Rw} (hw : WF w) {q : Nat} (hq : (q : Int) ≤ w 2) : (0 ≤ leftA w q ∧ leftA w q ≤ 60 * 999999) ∧ 0 ≤ leftC w q ∧ leftC w q ≤ 60 := by
  have a2 := hw.2.1.2.2.1
  have b : ∀ g : Int, 0 ≤ g → g < (q : Int) → 0 ≤ wAm w g - wBack w g ∧ wAm w g - wBack w g ≤ 999999 := fun g g0 g1 => by have := hw.2.2.2.2.1 g g0 (by omega); omega
  have h1 := sumN_le (f := fun g => wAm w g - wBack w g) (c := 999999) (n := q) (fun g g0 g1 => (b g g0 g1).2)
  have h2 := sumN_nonneg (f := fun g => wAm w g - wBack w g) (n := q) (fun g g0 g1 => (b g g0 g1).1)
  have h3 := sumN_le (f := fun g => if 0 < wAm w g - wBack w g then 1 else 0) (c := 1) (n := q) (fun g g0 g1 => by show (if _ then _ else _) ≤ (1 : Int); split <;> decide)
  have h4 := sumN_nonneg (f := fun g => if 0 < wAm w g - wBack w g then 1 else 0) (n := q) (fun g g0 g1 => by show (0 : Int) ≤ (if _ then _ else _); split <;> decide)
  unfold leftA leftC
  omega
theorem c3_leftOfAll {V : Sz} {w : Rw} (h : LR (sv 4 V) w) {n : Nat} (hn : 1000 ≤ n) : f_X3_leftOfAll n (sv 13 V) = some (leftA w (w 2).toNat) := by
  have hw := h.2.2.1
  have a2 := hw.2.1.2.2.1
  have e9 : sv 13 V 0 0 = w 2 := h.at.2.2.2.2.2.1
  refine tt_eq ?_
  unfold f_X3_leftOfAll
  refine tt_sumUp (fun g => wAm w g - wBack w g) (w 2) a2.1 (by omega) (fun sm g rec g0 g1 es next => ?_)
  rw [bX3_leftOfAll_4_e, e9]
  refine tt_ck ⟨⟨by omega, by omega⟩, ⟨by omega, by omega⟩⟩ (tt_ite (fun c => tt_some ?_) (fun c => ?_))
  · rw [es, show g = w 2 by omega]; rfl
  · rw [show f_X3_leftOf (sv 13 V) g = some (wAm w g - wBack w g) from c3_leftOf (V := sv 4 V) h.1 hw g0 (by omega), bd_s]
    exact tt_nm (tt_nm (next (by omega)))
theorem c3_countLeft {V : Sz} {w : Rw} (h : LR (sv 4 V) w) {n : Nat} (hn : 1000 ≤ n) : f_X3_countLeft n (sv 13 V) = some (leftC w (w 2).toNat) := by
  have hw := h.2.2.1
  have a2 := hw.2.1.2.2.1
  have e9 : sv 13 V 0 0 = w 2 := h.at.2.2.2.2.2.1
  refine tt_eq ?_
  unfold f_X3_countLeft
  refine tt_sumUp (fun g => if 0 < wAm w g - wBack w g then 1 else 0) (w 2) a2.1 (by omega) (fun sm g rec g0 g1 es next => ?_)
  rw [bX3_countLeft_4_e, e9]
  refine tt_ck ⟨⟨by omega, by omega⟩, ⟨by omega, by omega⟩⟩ (tt_ite (fun c => tt_some ?_) (fun c => ?_))
  · rw [es, show g = w 2 by omega]; rfl
  · have hgw := hw.2.2.2.2.1 g g0 (by omega)
    have next := next (by omega)
    rw [show f_X3_leftOf (sv 13 V) g = some (wAm w g - wBack w g) from c3_leftOf (V := sv 4 V) h.1 hw g0 (by omega), bd_s]
    unfold jX3_countLeft_23
    refine tt_ck ⟨by omega, by omega⟩ (tt_ite (fun c2 => ?_) (fun c2 => ?_))
    · rw [if_neg (by omega), Int.add_zero] at next
      exact tt_nm next
    · rw [if_pos (by omega)] at next
      exact tt_nm (tt_nm next)
theorem ag_aidShare {V7 X V8 : Sz} (h : LR (sv 4 V7) (V8 0)) {n : Nat} (hn : 1000 ≤ n) : TT (f_X8_aidShare n V8) (AskO (f_X7_aidShare n V7 X) V8) := by
  have hw := h.2.2.1
  have a2 := hw.2.1.2.2.1
  have hb := (left_bd hw (q := (V8 0 2).toNat) (by omega)).1
  unfold f_X8_aidShare
  refine tt_nmE (fun V1 e1 => ?_)
  have hT : Thr V8 V1 0 := by rw [e1]; exact Thr.zero V8 0
  have e0 : V1 0 = V8 0 := hT.2 0 (by decide)
  refine tt_lp (I := fun z : Int × Int × Sz => (0 ≤ z.2.1 ∧ z.2.1 ≤ V8 0 2) ∧ z.2.2 = V1 ∧ z.1 = leftA (V8 0) z.2.1.toNat) (μ := fun z => (V8 0 2 - z.2.1).toNat) ?_ n (0, 0, V1) ⟨⟨Int.le_refl _, a2.1⟩, rfl, rfl⟩ (by show (V8 0 2 - (0 : Int)).toNat < n; omega)
  rintro ⟨sm, g, V⟩ rec ⟨⟨g0, g1⟩, eV, es⟩ ih
  simp only at g0 g1 eV es
  subst eV
  rw [bX8_aidShare_9_e, e0]
  refine tt_ck ⟨⟨by omega, by omega⟩, ⟨by omega, by omega⟩⟩ (tt_ite (fun c => ?_) (fun c => ?_))
  · rw [show g = V8 0 2 by omega] at es
    refine tt_ck ⟨by omega, by omega⟩ (tt_ite (fun c2 => tt_some (asko_t ?_ hT)) (fun c2 => ?_))
    · unfold f_X7_aidShare
      rw [c3_leftOfAll h hn, bd_s, ← es, ck_t ⟨by omega, by omega⟩, if_pos c2]
    · refine tt_bd (x8_allAid (V0 := V) (by rw [e0]; exact hw) hn) (fun ⟨r, V3⟩ ⟨hr, hA⟩ => tt_some (asko_aid ?_ hT hA))
      have hr : r = sumPS (V 0) (aidS (V 0)) := hr
      rw [e0] at hr
      unfold f_X7_aidShare
      rw [c3_leftOfAll h hn, bd_s, ← es, ck_t ⟨by omega, by omega⟩, if_neg c2, c4_sumOfAll h (by omega) ⟨by decide, by decide⟩, bd_s, hr, totS_meas]; rfl
  · rw [x8_leftOfGift (V := V) g0 (by omega), bd_s, e0]
    refine tt_nm (tt_nm (ih (sm + (wAm (V8 0) g - wBack (V8 0) g), g + 1, V) ⟨⟨by show 0 ≤ g + 1; omega, by show g + 1 ≤ V8 0 2; omega⟩, rfl, ?_⟩ (by show (V8 0 2 - (g + 1)).toNat < (V8 0 2 - g).toNat; omega)))
    show _ = leftA (V8 0) (g + 1).toNat
    unfold leftA
    rw [sumN_step _ g0, es]; rfl
theorem ag_meanGift {V7 X V8 : Sz} (h : LR (sv 4 V7) (V8 0)) {n : Nat} (hn : 1000 ≤ n) : TT (f_X8_meanGift n V8) (AskO (f_X7_meanGift n V7 X) V8) := by
  have hw := h.2.2.1
  have a2 := hw.2.1.2.2.1
  have hb := left_bd hw (q := (V8 0 2).toNat) (by omega)
  unfold f_X8_meanGift
  refine tt_nmE (fun V1 e1 => ?_)
  have hT : Thr V8 V1 0 := by rw [e1]; exact Thr.zero V8 0
  have e0 : V1 0 = V8 0 := hT.2 0 (by decide)
  refine tt_lp (I := fun z : Int × Int × Int × Sz => (0 ≤ z.2.2.1 ∧ z.2.2.1 ≤ V8 0 2) ∧ z.2.2.2 = V1 ∧ z.1 = leftA (V8 0) z.2.2.1.toNat ∧ z.2.1 = leftC (V8 0) z.2.2.1.toNat) (μ := fun z => (V8 0 2 - z.2.2.1).toNat) ?_ n (0, 0, 0, V1) ⟨⟨Int.le_refl _, a2.1⟩, rfl, rfl, rfl⟩ (by show (V8 0 2 - (0 : Int)).toNat < n; omega)
  rintro ⟨sm, ct, g, V⟩ rec ⟨⟨g0, g1⟩, eV, es, ec⟩ ih
  simp only at g0 g1 eV es ec
  subst eV
  rw [bX8_meanGift_11_e, e0]
  refine tt_ck ⟨⟨by omega, by omega⟩, ⟨by omega, by omega⟩⟩ (tt_ite (fun c => ?_) (fun c => ?_))
  · rw [show g = V8 0 2 by omega] at es ec
    refine tt_ck ⟨by omega, by omega⟩ (tt_ite (fun c2 => tt_some (asko_t ?_ hT)) (fun c2 => tt_some (asko_t ?_ hT)))
    · unfold f_X7_meanGift
      rw [c3_countLeft h hn, bd_s, ← ec, ck_t ⟨by omega, by omega⟩, if_pos c2]
    · unfold f_X7_meanGift
      rw [c3_countLeft h hn, bd_s, ← ec, ck_t ⟨by omega, by omega⟩, if_neg c2, c3_leftOfAll h hn, bd_s, ← es]
  · have hgw := hw.2.2.2.2.1 g g0 (by omega)
    have next : ∀ z : Int, z = (if 0 < wAm (V8 0) g - wBack (V8 0) g then 1 else 0) → TT (jX8_meanGift_43 n rec (sm + (wAm (V8 0) g - wBack (V8 0) g)) g V z ct) (AskO (f_X7_meanGift n V7 X) V8) := by
      intro z hz
      unfold jX8_meanGift_43
      refine tt_nm (tt_nm (ih (sm + (wAm (V8 0) g - wBack (V8 0) g), ct + z, g + 1, V) ⟨⟨by show 0 ≤ g + 1; omega, by show g + 1 ≤ V8 0 2; omega⟩, rfl, ?_, ?_⟩ (by show (V8 0 2 - (g + 1)).toNat < (V8 0 2 - g).toNat; omega)))
      · show _ = leftA (V8 0) (g + 1).toNat
        unfold leftA
        rw [sumN_step _ g0, es]; rfl
      · show _ = leftC (V8 0) (g + 1).toNat
        unfold leftC
        rw [sumN_step _ g0, ec, hz]; rfl
    rw [x8_leftOfGift (V := V) g0 (by omega), bd_s, e0]
    refine tt_nm ?_
    rw [bd_s]
    refine tt_ck ⟨by omega, by omega⟩ (tt_ite (fun c2 => next 0 (by rw [if_neg (by omega)])) (fun c2 => next 1 (by rw [if_pos (by omega)])))
