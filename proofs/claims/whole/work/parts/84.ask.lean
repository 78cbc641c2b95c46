/-! refusals, both sides, and what it is that they agree -/
theorem fl0 (V : Sz) (c : Int) : f_X8_fails V 0 c = some (false, V) := x8_fails (c := false)
theorem fl1 (V : Sz) (c : Int) : f_X8_fails V 1 c = some (true, us V 9 c) := x8_fails (c := true)
theorem ref_t {α : Type} {V0 V1 : Sz} {ok : Prop} {z : Int} {r : Bool} {a b : Option α} {P : α → Prop} (h : RefP V0 ok z (r, V1)) (h1 : ok → Thr V0 V1 0 → TT b P) (h2 : ¬ ok → Thr V0 V1 z → TT a P) : TT (if r = true then a else b) P := by
  obtain ⟨e1, e2⟩ := h
  simp only at e1 e2
  cases r with
  | true => rw [if_pos rfl]; exact h2 (fun q => Bool.noConfusion (show true = false from e1.mpr q)) (by rw [if_pos rfl] at e2; exact e2)
  | false => rw [if_neg (by decide)]; exact h1 (e1.mp rfl) (by rw [if_neg (by decide)] at e2; exact e2)
theorem ref_f {α : Type} {V0 V1 : Sz} {ok : Prop} {z : Int} {r : Bool} {a b : Option α} {P : α → Prop} (h : RefP V0 ok z (r, V1)) (h1 : ok → Thr V0 V1 0 → TT a P) (h2 : ¬ ok → Thr V0 V1 z → TT b P) : TT (if r = false then a else b) P := by
  obtain ⟨e1, e2⟩ := h
  simp only at e1 e2
  cases r with
  | true => rw [if_neg (by decide)]; exact h2 (fun q => Bool.noConfusion (show true = false from e1.mpr q)) (by rw [if_pos rfl] at e2; exact e2)
  | false => rw [if_pos rfl]; exact h1 (e1.mp rfl) (by rw [if_neg (by decide)] at e2; exact e2)
theorem rg_t {α : Type} {x a b : Int} {A B : Option α} {P : α → Prop} (hx : rng x) (ha : rng a) (hb : rng b) (h1 : a ≤ x ∧ x ≤ b → TT A P) (h2 : ¬ (a ≤ x ∧ x ≤ b) → TT B P) : TT (bd (f_X8_inRange x a b) fun (r : Bool) => if r = true then A else B) P := by
  rw [x8_inRange hx ha hb, bd_s, dec_and]
  by_cases c : a ≤ x ∧ x ≤ b
  · rw [if_pos (decide_eq_true c)]; exact h1 c
  · rw [if_neg (by rw [decide_eq_false c]; decide)]; exact h2 c
theorem rg_f {α : Type} {x a b : Int} {A B : Option α} {P : α → Prop} (hx : rng x) (ha : rng a) (hb : rng b) (h1 : a ≤ x ∧ x ≤ b → TT B P) (h2 : ¬ (a ≤ x ∧ x ≤ b) → TT A P) : TT (bd (f_X8_inRange x a b) fun (r : Bool) => if r = false then A else B) P := by
  rw [x8_inRange hx ha hb, bd_s, dec_and]
  by_cases c : a ≤ x ∧ x ≤ b
  · rw [if_neg (by rw [decide_eq_true c]; decide)]; exact h1 c
  · rw [if_pos (decide_eq_false c)]; exact h2 c
theorem f0_t {α : Type} {V : Sz} {c : Int} {k : Bool × Sz → Option α} {P : α → Prop} (h : TT (k (false, V)) P) : TT (bd (f_X8_fails V 0 c) k) P := by
  rw [fl0]; exact h
theorem f1_t {α : Type} {V : Sz} {c : Int} {k : Bool × Sz → Option α} {P : α → Prop} (h : TT (k (true, us V 9 c)) P) : TT (bd (f_X8_fails V 1 c) k) P := by
  rw [fl1]; exact h
theorem x8_noPart {V0 : Sz} (hw : WF (V0 0)) {k i : Int} (hk : rng k) (hi : rng i) : TT (f_X8_noPart V0 k i) (RefP V0 ((0 ≤ k ∧ k < V0 0 2) ∧ 0 ≤ i ∧ i < wMany (V0 0) k) 1) := by
  have a2 := hw.2.1.2.2.1
  unfold f_X8_noPart
  refine tt_bd (x8_noGift hw hk) (fun ⟨r1, V2⟩ hr => ref_t hr (fun ok hT => ?_) (fun no hT => tt_some ⟨⟨fun e => Bool.noConfusion (show true = false from e), fun q => (no q.1).elim⟩, hT⟩))
  have hg := hw.2.2.2.2.1 k ok.1 ok.2
  have e0 : V2 0 = V0 0 := hT.2 0 (by decide)
  have em : V2 0 (293 + k).toNat = wMany (V0 0) k := by rw [e0]; rfl
  rw [em]
  refine tt_ck ⟨by omega, by omega⟩ (rg_t hi ⟨by decide, by decide⟩ ⟨by omega, by omega⟩ (fun c => ?_) (fun c => ?_))
  · unfold jX8_noPart_34
    exact f0_t (tt_t rfl (tt_some ⟨⟨fun _ => ⟨ok, c.1, by omega⟩, fun _ => rfl⟩, hT⟩))
  · unfold jX8_noPart_34
    exact f1_t (tt_f (by decide) (tt_some ⟨⟨fun e => Bool.noConfusion (show true = false from e), fun q => (c ⟨q.2.1, by omega⟩).elim⟩, hT.trans (Thr.zero V2 1)⟩))
theorem bx_l {α β : Type} {a : α} {k : α → Option (β ⊕ Nat)} : bx (some (.inl a)) k = k a := rfl
theorem bx_r {α β : Type} {e : Nat} {k : α → Option (β ⊕ Nat)} : bx (some (.inr e)) k = some (.inr e) := rfl
theorem bl_s {α : Type} {a : α} : bl (some a) = some (Sum.inl a) := rfl
theorem x7_rangeY {x a b : Int} (hx : rng x) (ha : rng a) (hb : rng b) (h : a ≤ x ∧ x ≤ b) : f_X7_needRange x a b = some (.inl ()) := by
  unfold f_X7_needRange
  rw [ck_t ⟨hx, ha⟩, if_neg (by omega), ck_t hb, if_pos (by omega)]; rfl
theorem x7_rangeN {x a b : Int} (hx : rng x) (ha : rng a) (hb : rng b) (h : ¬ (a ≤ x ∧ x ≤ b)) : f_X7_needRange x a b = some (.inr 1) := by
  unfold f_X7_needRange
  rw [ck_t ⟨hx, ha⟩]
  by_cases c : x < a
  · rw [if_pos c]; rfl
  · rw [if_neg c, ck_t hb, if_neg (by omega)]; rfl
theorem x7_spanY {a b : Int} (ha : rng a) (hb : rng b) (h : 0 ≤ a ∧ a ≤ b ∧ b ≤ 9999) : f_X7_needSpan a b = some (.inl ()) := by
  unfold f_X7_needSpan
  rw [x7_rangeY ha ⟨by decide, by decide⟩ ⟨by decide, by decide⟩ ⟨by omega, by omega⟩, bx_l, x7_rangeY hb ha ⟨by decide, by decide⟩ ⟨by omega, by omega⟩]; rfl
theorem x7_spanN {a b : Int} (ha : rng a) (hb : rng b) (h : ¬ (0 ≤ a ∧ a ≤ b ∧ b ≤ 9999)) : f_X7_needSpan a b = some (.inr 1) := by
  unfold f_X7_needSpan
  by_cases c : 0 ≤ a ∧ a ≤ 9999
  · rw [x7_rangeY ha ⟨by decide, by decide⟩ ⟨by decide, by decide⟩ c, bx_l, x7_rangeN hb ha ⟨by decide, by decide⟩ (by omega)]; rfl
  · rw [x7_rangeN ha ⟨by decide, by decide⟩ ⟨by decide, by decide⟩ c]; rfl
theorem LR.at {V : Sz} {w : Rw} (h : LR (sv 4 V) w) : V 4 0 = w 5 ∧ V 5 0 = w 6 ∧ V 6 0 = w 7 ∧ V 7 0 = w 0 ∧ V 9 0 = w 1 ∧ V 13 0 = w 2 ∧ V 25 0 = w 4 := h.1.1
theorem x7_donorY {V X : Sz} {w : Rw} (h : LR (sv 4 V) w) {k : Int} (hk : rng k) (ok : 0 ≤ k ∧ k < w 0) : f_X7_needDonor V X k = some (.inl ()) := by
  have a0 := h.2.2.1.2.1.1
  unfold f_X7_needDonor
  rw [h.at.2.2.2.1, ck_t hk, if_neg (by omega), ck_t ⟨by omega, by omega⟩, if_pos ok.2]; rfl
theorem x7_donorN {V X : Sz} {w : Rw} (h : LR (sv 4 V) w) {k : Int} (hk : rng k) (no : ¬ (0 ≤ k ∧ k < w 0)) : f_X7_needDonor V X k = some (.inr 0) := by
  have a0 := h.2.2.1.2.1.1
  unfold f_X7_needDonor
  rw [h.at.2.2.2.1, ck_t hk]
  by_cases c : k < 0
  · rw [if_pos c]; rfl
  · rw [if_neg c, ck_t ⟨by omega, by omega⟩, if_neg (by omega)]; rfl
theorem x7_declY {V X : Sz} {w : Rw} (h : LR (sv 4 V) w) {k : Int} (hk : rng k) (ok : 0 ≤ k ∧ k < w 1) : f_X7_needDeclaration V X k = some (.inl ()) := by
  have a0 := h.2.2.1.2.1.2.1
  unfold f_X7_needDeclaration
  rw [h.at.2.2.2.2.1, ck_t hk, if_neg (by omega), ck_t ⟨by omega, by omega⟩, if_pos ok.2]; rfl
theorem x7_declN {V X : Sz} {w : Rw} (h : LR (sv 4 V) w) {k : Int} (hk : rng k) (no : ¬ (0 ≤ k ∧ k < w 1)) : f_X7_needDeclaration V X k = some (.inr 0) := by
  have a0 := h.2.2.1.2.1.2.1
  unfold f_X7_needDeclaration
  rw [h.at.2.2.2.2.1, ck_t hk]
  by_cases c : k < 0
  · rw [if_pos c]; rfl
  · rw [if_neg c, ck_t ⟨by omega, by omega⟩, if_neg (by omega)]; rfl
theorem x7_giftY {V X : Sz} {w : Rw} (h : LR (sv 4 V) w) {k : Int} (hk : rng k) (ok : 0 ≤ k ∧ k < w 2) : f_X7_needGift V X k = some (.inl ()) := by
  have a0 := h.2.2.1.2.1.2.2.1
  unfold f_X7_needGift
  rw [h.at.2.2.2.2.2.1, ck_t hk, if_neg (by omega), ck_t ⟨by omega, by omega⟩, if_pos ok.2]; rfl
theorem x7_giftN {V X : Sz} {w : Rw} (h : LR (sv 4 V) w) {k : Int} (hk : rng k) (no : ¬ (0 ≤ k ∧ k < w 2)) : f_X7_needGift V X k = some (.inr 0) := by
  have a0 := h.2.2.1.2.1.2.2.1
  unfold f_X7_needGift
  rw [h.at.2.2.2.2.2.1, ck_t hk]
  by_cases c : k < 0
  · rw [if_pos c]; rfl
  · rw [if_neg c, ck_t ⟨by omega, by omega⟩, if_neg (by omega)]; rfl
theorem x7_partY {V X : Sz} {w : Rw} (h : LR (sv 4 V) w) {k i : Int} (hk : rng k) (hi : rng i) (ok : (0 ≤ k ∧ k < w 2) ∧ 0 ≤ i ∧ i < wMany w k) : f_X7_needPart V X k i = some (.inl ()) := by
  have a0 := h.2.2.1.2.1.2.2.1
  have hgw := h.2.2.1.2.2.2.2.1 k ok.1.1 ok.1.2
  have hg : V 18 k.toNat = wMany w k := (h.1.2.2.2.1 k ok.1.1 ok.1.2).2.2.2.2
  unfold f_X7_needPart
  rw [x7_giftY h hk ok.1, bx_l, hg, ck_t hi, if_neg (by omega), ck_t ⟨by omega, by omega⟩, ck_t ⟨by omega, by omega⟩, if_pos ok.2.2]; rfl
theorem x7_partN {V X : Sz} {w : Rw} (h : LR (sv 4 V) w) {k i : Int} (hk : rng k) (hi : rng i) (no : ¬ ((0 ≤ k ∧ k < w 2) ∧ 0 ≤ i ∧ i < wMany w k)) : f_X7_needPart V X k i = some (.inr 0) := by
  have a0 := h.2.2.1.2.1.2.2.1
  unfold f_X7_needPart
  by_cases c : 0 ≤ k ∧ k < w 2
  · have hgw := h.2.2.1.2.2.2.2.1 k c.1 c.2
    have hg : V 18 k.toNat = wMany w k := (h.1.2.2.2.1 k c.1 c.2).2.2.2.2
    rw [x7_giftY h hk c, bx_l, hg, ck_t hi]
    by_cases c2 : i < 0
    · rw [if_pos c2]; rfl
    · rw [if_neg c2, ck_t ⟨by omega, by omega⟩, ck_t ⟨by omega, by omega⟩, if_neg (by omega)]; rfl
  · rw [x7_giftN h hk c]; rfl
/-- the code that the law's wrapper gives for a throw: by what it catches, in its order -/
def cdA (e : Nat) : Int := if e = 0 then 1 else 0
def cdB (e : Nat) : Int := if e = 0 then 1 else if e = 1 then 2 else 0
def cdC (e : Nat) : Int := if e = 0 then 1 else if e = 1 then 2 else if e = 2 then 3 else 0
def cdI (e : Nat) : Int := if e = 1 then 1 else 0
def cdJ (e : Nat) : Int := if e = 1 then 1 else if e = 2 then 2 else 0
def cdS (e : Nat) : Int := if e = 2 then 1 else 0
/-- a question: both answer alike, or both refuse; the reference keeps all but what it lays anew -/
def Asks {α : Type} (cf : Nat → Int) (x : Option (α ⊕ Nat)) (V0 : Sz) (r : α × Sz) : Prop :=
  (∀ k : Nat, k < 9 ∨ 13 < k → r.2 k = V0 k) ∧ ((r.2 9 0 = 0 ∧ x = some (.inl r.1)) ∨ ∃ e : Nat, x = some (.inr e) ∧ r.2 9 0 = cf e ∧ cf e ≠ 0)
/-- .. of a question that never refuses -/
def AskO {α : Type} (x : Option α) (V0 : Sz) (r : α × Sz) : Prop := (∀ k : Nat, k < 9 ∨ 13 < k → r.2 k = V0 k) ∧ x = some r.1
theorem asko_t {α : Type} {x : Option α} {V0 V : Sz} {v : α} {z : Int} (hx : x = some v) (hT : Thr V0 V z) : AskO x V0 (v, V) := ⟨fun k hk => hT.2 k (by omega), hx⟩
theorem asko_aid {α : Type} {x : Option α} {V0 V1 V : Sz} {v : α} {z : Int} (hx : x = some v) (hT : Thr V0 V1 z) (hA : AidOK V1 V) : AskO x V0 (v, V) := ⟨fun k hk => (hA.1 k (by omega) (by omega) (by omega) (by omega)).trans (hT.2 k (by omega)), hx⟩
theorem asks_no {α : Type} {cf : Nat → Int} {x : Option (α ⊕ Nat)} {V0 V : Sz} {v : α} {z : Int} {e : Nat} (hx : x = some (.inr e)) (hT : Thr V0 V z) (hz : z = cf e) (h0 : z ≠ 0) : Asks cf x V0 (v, V) := ⟨fun k hk => hT.2 k (by omega), Or.inr ⟨e, hx, hT.1.trans hz, by rw [← hz]; exact h0⟩⟩
theorem asks_yes {α : Type} {cf : Nat → Int} {x : Option (α ⊕ Nat)} {V0 V : Sz} {v : α} (hx : x = some (.inl v)) (hT : Thr V0 V 0) : Asks cf x V0 (v, V) := ⟨fun k hk => hT.2 k (by omega), Or.inl ⟨hT.1, hx⟩⟩
theorem asks_aid {α : Type} {cf : Nat → Int} {x : Option (α ⊕ Nat)} {V0 V1 V : Sz} {v : α} (hx : x = some (.inl v)) (hT : Thr V0 V1 0) (hA : AidOK V1 V) : Asks cf x V0 (v, V) := ⟨fun k hk => (hA.1 k (by omega) (by omega) (by omega) (by omega)).trans (hT.2 k (by omega)), Or.inl ⟨by rw [show (v, V).2 9 = V1 9 from hA.1 9 (by decide) (by decide) (by decide) (by decide)]; exact hT.1, hx⟩⟩
/-- laysAid, behind a refusal's test -/
theorem aid_of {V0 V1 : Sz} (hw : WF (V0 0)) {z : Int} (hT : Thr V0 V1 z) {n : Nat} (hn : 1000 ≤ n) : TT (f_X8_laysAid n V1) (fun V => AidOK V1 V ∧ V 0 = V0 0 ∧ ∀ p : Int, 0 ≤ p → partB (V0 0) p = true → V 13 p.toNat = wishS (V0 0) p ∧ V 12 p.toNat = aidS (V0 0) p) := by
  have e0 : V1 0 = V0 0 := hT.2 0 (by decide)
  refine tt_mono (x8_laysAid (V0 := V1) (by rw [e0]; exact hw) hn) (fun V hA => ⟨hA, (hA.1 0 (by decide) (by decide) (by decide) (by decide)).trans e0, fun p p0 hp => ?_⟩)
  have hs := part_split p0 hp
  have h := hA.2 (p / 3) (p % 3) hs.1 (by rw [e0]; exact hs.2.1) hs.2.2.1 (by rw [e0]; exact hs.2.2.2.1)
  rw [e0, hs.2.2.2.2] at h
  exact h
