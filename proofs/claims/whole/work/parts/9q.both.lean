/-! the reference's reader, and both together -/
theorem x8_failsAt {V0 : Sz} (h : V0 18 0 = 0) (c : Int) : TT (f_X8_failsAt V0 c) (fun r => r.1 = false ∧ r.2 18 0 = c ∧ r.2 19 0 = V0 21 0 ∧ ∀ j : Nat, j ≠ 18 → j ≠ 19 → r.2 j = V0 j) := by
  unfold f_X8_failsAt
  rw [h]
  refine tt_ck ⟨by decide, by decide⟩ (tt_t rfl (tt_nmE (fun Va ea => tt_nmE (fun Vb eb => tt_some ⟨rfl, ?_, ?_, fun j j18 j19 => ?_⟩))))
  · show Vb 18 0 = c
    rw [eb, us_ne (by decide), ea, us_at]
  · show Vb 19 0 = V0 21 0
    rw [eb, us_at, ea, us_ne (by decide)]
  · show Vb j = V0 j
    rw [eb, us_ne j19, ea, us_ne j18]
def TokR (T : Nat → Int) (L p : Int) (V : Sz) : Prop := Tok T L p (V 21 0) (V 20 0) (V 23 0) ∧ V 22 0 = valS T (V 21 0) (V 20 0) (V 23 0)
theorem tok_ex {T : Nat → Int} {L p : Int} (hT : BT T L) (h0 : 0 ≤ p) (h1 : p ≤ L) : ∃ s e k, Tok T L p s e k := by
  obtain ⟨V, hV⟩ : ∃ V : Sz, V = fun k _ => if k = 2 then L else p := ⟨_, rfl⟩
  obtain ⟨r, -, hA⟩ := c6_advance (V0 := V) (X0 := V) (G := V) (n := 1000) hT (by rw [hV]; rfl) (by rw [hV]; exact ⟨h0, h1⟩) (by decide)
  have e : V 4 0 = p := by rw [hV]; rfl
  have := hA.1
  rw [e] at this
  exact ⟨_, _, _, this⟩
theorem x8_next {V0 : Sz} {T : Nat → Int} {L p : Int} (hT : BT T L) (hB : By T L V0) (h20 : V0 20 0 = p) (p0 : 0 ≤ p) (p1 : p ≤ L) {n : Nat} (hn : 1000 ≤ n) : TT (f_X8_advanceToken n V0) (fun V => TokR T L p V ∧ ∀ j : Nat, j ≠ 20 → j ≠ 21 → j ≠ 22 → j ≠ 23 → V j = V0 j) := by
  obtain ⟨s, e, k, ht⟩ := tok_ex hT p0 p1
  refine tt_mono (x8_token hT hB ht p0 h20 hn) (fun V ⟨h1, h2, h3, h4, h5⟩ => ⟨?_, h5⟩)
  unfold TokR
  rw [h1, h2, h3, h4]
  exact ⟨ht, rfl⟩
/-! the words that begin a statement -/
def zl (i : Nat) : Nat → Int := fun k => ((zBy.getD i []).getD k 0).toInt
def wcode (i : Nat) : Int := pkf (zl i) (zLn.getD i 0)
theorem zl_let : ∀ i : Nat, i < 6 → (zLn.getD i 0 ≤ 7 ∧ 0 < zLn.getD i 0) ∧ LetB (zl i) (zLn.getD i 0) := by
  intro i hi
  have hc : i = 0 ∨ i = 1 ∨ i = 2 ∨ i = 3 ∨ i = 4 ∨ i = 5 := by omega
  unfold LetB
  rcases hc with e | e | e | e | e | e <;> subst e <;> decide +kernel
theorem wcodes : wcode 0 = 431366238066 ∧ wcode 1 = 28258975365558885 ∧ wcode 2 = 1734960756 ∧ wcode 3 = 495807392116 ∧ wcode 4 = 1667330920 ∧ wcode 5 = 491596309875 := by decide +kernel
/-- the reference stands at a word -/
def TB (T : Nat → Int) (L : Int) (V : Sz) : Prop := By T L V ∧ ∃ p : Int, 0 ≤ p ∧ TokR T L p V
def wrdR (T : Nat → Int) (V : Sz) : Int := wrd T (V 21 0) (V 20 0) (V 23 0)
theorem tb_bd {T : Nat → Int} {L : Int} {V : Sz} (h : TB T L V) : 0 ≤ V 21 0 ∧ V 21 0 ≤ V 20 0 ∧ V 20 0 ≤ L ∧ 0 ≤ V 23 0 ∧ V 23 0 ≤ 4 := by
  obtain ⟨-, p, p0, ht⟩ := h
  have := tok_bd ht.1
  omega
theorem x8_len (V : Sz) : f_X8_tokenLength V = some (V 20 0 - V 21 0) := rfl
theorem x8_isWord {T : Nat → Int} {L : Int} {V : Sz} (hT : BT T L) (h : TB T L V) {i : Nat} (hi : i < 6) {n : Nat} (hn : 1000 ≤ n) : TT (f_X8_isWord n V i) (fun b => b = true ↔ wrdR T V = wcode i) := by
  have hb := tb_bd h
  have hL := hT.1
  obtain ⟨hB, p, p0, ht, -⟩ := h
  obtain ⟨⟨l7, l0⟩, hzl⟩ := zl_let i hi
  have hw0 := (pkf_bd _ hzl).2 l0
  unfold f_X8_isWord
  refine tt_ck ⟨by omega, by omega⟩ (tt_ite (fun c => ?_) (fun c => tt_some ⟨fun q => Bool.noConfusion (show false = true from q), fun q => ?_⟩))
  · rw [c] at ht
    have hl := tok_let ht p0
    rw [x8_len, bd_s]
    refine tt_ck ⟨by omega, by omega⟩ (tt_ite (fun c2 => ?_) (fun c2 => tt_some ⟨fun q => Bool.noConfusion (show false = true from q), fun q => ?_⟩))
    · have hwr : wrdR T V = pkf (let_ T (V 21 0)) (zLn.getD i 0) := by
        unfold wrdR wrd
        rw [if_pos ⟨c, by omega⟩, show (V 20 0 - V 21 0).toNat = zLn.getD i 0 by omega]
      have hl2 : LetB (let_ T (V 21 0)) (zLn.getD i 0) := fun j hj => hl j (by omega)
      refine tt_lp (I := fun k : Nat => k ≤ zLn.getD i 0 ∧ ∀ j : Nat, j < k → let_ T (V 21 0) j = zl i j) (μ := fun k => zLn.getD i 0 - k) ?_ n 0 ⟨by omega, fun j hj => absurd hj (Nat.not_lt_zero j)⟩ (by show zLn.getD i 0 - 0 < n; omega)
      rintro k rec ⟨k1, hj⟩ ih
      unfold bX8_isWord
      refine tt_ite (fun c3 => ?_) (fun c3 => tt_some ⟨fun _ => ?_, fun _ => rfl⟩)
      · have hlk := hl2 k c3
        have hby := hB.2 (V 21 0 + (k : Int)) (by omega) (by omega)
        have elk : T (V 21 0 + (k : Int)).toNat = let_ T (V 21 0) k := by
          unfold let_
          rw [show (V 21 0 + (k : Int)).toNat = (V 21 0).toNat + k by omega]
        rw [elk] at hby
        have e14 : V 14 (V 21 0 + (k : Int)).toNat = let_ T (V 21 0) k := by omega
        rw [e14]
        refine tt_ck ⟨by omega, by omega⟩ (tt_ck ⟨by omega, by omega⟩ (tt_ite (fun c4 => ih (k + 1) ⟨by omega, fun j j1 => ?_⟩ (by show zLn.getD i 0 - (k + 1) < zLn.getD i 0 - k; omega)) (fun c4 => tt_some ⟨fun q => Bool.noConfusion (show false = true from q), fun q => ?_⟩)))
        · by_cases u : j = k
          · rw [u]; exact c4
          · exact hj j (by omega)
        · rw [hwr] at q
          exact (c4 ((pkf_inj _ _ hl2 hzl q).2 k c3)).elim
      · rw [hwr]
        exact pkf_congr _ (fun j j1 => hj j (by omega))
    · unfold wrdR wrd at q
      by_cases c3 : V 20 0 - V 21 0 ≤ 7
      · rw [if_pos ⟨c, c3⟩] at q
        have := (pkf_inj _ _ hl hzl q).1
        omega
      · rw [if_neg (fun u => c3 u.2)] at q
        unfold wcode at q
        omega
  · unfold wrdR wrd at q
    rw [if_neg (fun u => c u.1)] at q
    unfold wcode at q
    omega
theorem x8_isStatement {T : Nat → Int} {L : Int} {V : Sz} (hT : BT T L) (h : TB T L V) {n : Nat} (hn : 1000 ≤ n) : TT (f_X8_isStatement n V) (fun b => b = fstB (wrdR T V)) := by
  obtain ⟨w0, w1, w2, w3, w4, w5⟩ := wcodes
  unfold f_X8_isStatement fstB
  refine tt_bd (x8_isWord hT h (i := 0) (by decide) hn) (fun b0 h0 => tt_ite (fun c => tt_some ?_) (fun c0 => ?_))
  · rw [h0, w0] at c
    rw [decide_eq_true (Or.inl c)]
  rw [h0, w0] at c0
  refine tt_bd (x8_isWord hT h (i := 1) (by decide) hn) (fun b1 h1 => tt_ite (fun c => tt_some ?_) (fun c1 => ?_))
  · rw [h1, w1] at c
    rw [decide_eq_true (Or.inr (Or.inl c))]
  rw [h1, w1] at c1
  refine tt_bd (x8_isWord hT h (i := 2) (by decide) hn) (fun b2 h2 => tt_ite (fun c => tt_some ?_) (fun c2 => ?_))
  · rw [h2, w2] at c
    rw [decide_eq_true (Or.inr (Or.inr (Or.inl c)))]
  rw [h2, w2] at c2
  refine tt_bd (x8_isWord hT h (i := 3) (by decide) hn) (fun b3 h3 => tt_ite (fun c => tt_some ?_) (fun c3 => ?_))
  · rw [h3, w3] at c
    rw [decide_eq_true (Or.inr (Or.inr (Or.inr (Or.inl c))))]
  rw [h3, w3] at c3
  refine tt_bd (x8_isWord hT h (i := 4) (by decide) hn) (fun b4 h4 => tt_ite (fun c => tt_some ?_) (fun c4 => ?_))
  · rw [h4, w4] at c
    rw [decide_eq_true (Or.inr (Or.inr (Or.inr (Or.inr (Or.inl c)))))]
  rw [h4, w4] at c4
  refine tt_bd (x8_isWord hT h (i := 5) (by decide) hn) (fun b5 h5 => ?_)
  rw [w5] at h5
  refine tt_ite (fun c => tt_some ?_) (fun c => tt_some ?_)
  · have c5 : ¬ wrdR T V = 491596309875 := fun q => by
      have := h5.mpr q
      rw [c] at this
      exact Bool.noConfusion this
    rw [decide_eq_false (by omega)]
  · have c5 := h5.mp (eq_true_of_ne_false c)
    rw [decide_eq_true (Or.inr (Or.inr (Or.inr (Or.inr (Or.inr c5)))))]
def NamR (T : Nat → Int) (V : Sz) : Prop := (V 23 0 = 1 ∧ V 20 0 - V 21 0 ≤ 6) ∧ fstB (wrdR T V) = false
theorem x8_isName {T : Nat → Int} {L : Int} {V : Sz} (hT : BT T L) (h : TB T L V) {n : Nat} (hn : 1000 ≤ n) : TT (f_X8_isName n V) (fun b => b = true ↔ NamR T V) := by
  have hb := tb_bd h
  have hL := hT.1
  unfold f_X8_isName
  refine tt_ck ⟨by omega, by omega⟩ (tt_ite (fun c => ?_) (fun c => tt_some ⟨fun q => Bool.noConfusion (show false = true from q), fun q => (c q.1.1).elim⟩))
  rw [x8_len, bd_s]
  refine tt_ck ⟨by omega, by omega⟩ (tt_ite (fun c2 => tt_some ⟨fun q => Bool.noConfusion (show false = true from q), fun q => by have := q.1.2; omega⟩) (fun c2 => ?_))
  refine tt_bd (x8_isStatement hT h hn) (fun b hbs => tt_ite (fun c3 => tt_some ⟨fun q => Bool.noConfusion (show false = true from q), fun q => ?_⟩) (fun c3 => tt_some ⟨fun _ => ⟨⟨c, by omega⟩, ?_⟩, fun _ => rfl⟩))
  · have := q.2
    rw [← hbs, c3] at this
    exact Bool.noConfusion this
  · rw [← hbs]
    cases b with
    | false => rfl
    | true => exact (c3 rfl).elim
/-- a letter of the word, none behind its end -/
def ltr (T : Nat → Int) (V : Sz) (j : Int) : Int := if V 20 0 - V 21 0 ≤ j then 0 else T (V 21 0 + j).toNat
theorem x8_letter {T : Nat → Int} {L : Int} {V : Sz} (hT : BT T L) (h : TB T L V) (c : V 23 0 = 1) {j : Int} (j0 : 0 ≤ j) (j1 : j < 900) : f_X8_letterHere V j = some (ltr T V j) ∧ 0 ≤ ltr T V j ∧ ltr T V j ≤ 122 := by
  have hb := tb_bd h
  have hL := hT.1
  obtain ⟨hB, p, p0, ht, -⟩ := h
  rw [c] at ht
  unfold f_X8_letterHere ltr
  rw [x8_len, bd_s, ck_t ⟨⟨by omega, by omega⟩, ⟨by omega, by omega⟩⟩]
  by_cases c2 : V 20 0 - V 21 0 ≤ j
  · rw [if_pos c2, if_pos c2]
    exact ⟨rfl, by decide, by decide⟩
  · have hl := kd_one ((ht.2.2.2.2.2.2 (Or.inl rfl)).2.2.1 (V 21 0 + j) (by omega) (by omega))
    have hby := hB.2 (V 21 0 + j) (by omega) (by omega)
    rw [if_neg c2, if_neg c2, ck_t ⟨by omega, by omega⟩, hby]
    refine ⟨?_, by omega, by omega⟩
    congr 1
    omega
def FndP (T : Nat → Int) (V : Sz) (d : Int) : Prop := ∀ j : Int, 0 ≤ j → j < 6 → V 7 (6 * d + j).toNat = ltr T V j
theorem x8_find {T : Nat → Int} {L : Int} {V : Sz} (hT : BT T L) (h : TB T L V) (c : V 23 0 = 1) (h0 : 0 ≤ V 0 0 ∧ V 0 0 ≤ 10) (h7 : ∀ i : Nat, (i : Int) < 6 * V 0 0 → rng (V 7 i)) {n : Nat} (hn : 1000 ≤ n) : TT (f_X8_find n V) (FrP (FndP T V) (V 0 0)) := by
  unfold f_X8_find
  refine tt_lp (I := fun y : Int => (0 ≤ y ∧ y ≤ V 0 0) ∧ ∀ j : Int, 0 ≤ j → j < y → ¬ FndP T V j) (μ := fun y => (V 0 0 - y).toNat) ?_ n 0 ⟨⟨Int.le_refl _, h0.1⟩, fun j j0 j1 => by have : j < 0 := j1; omega⟩ (by show (V 0 0 - (0 : Int)).toNat < n; omega)
  rintro y rec ⟨⟨y0, y1⟩, hno⟩ ih
  rw [bX8_find_2_e]
  refine tt_ck ⟨⟨by omega, by omega⟩, ⟨by omega, by omega⟩⟩ (tt_ite (fun c1 => tt_some (Or.inl ⟨rfl, fun j j0 j1 => hno j j0 (by omega)⟩)) (fun c1 => ?_))
  have next : ¬ FndP T V y → TT (jX8_find_57 n V rec y 0) (FrP (FndP T V) (V 0 0)) := by
    intro hf
    unfold jX8_find_57
    refine tt_ck ⟨by decide, by decide⟩ (tt_t rfl (tt_nm (ih (y + 1) ⟨⟨by omega, by omega⟩, fun j j0 j1 => ?_⟩ (by show (V 0 0 - (y + 1)).toNat < (V 0 0 - y).toNat; omega))))
    by_cases u : j = y
    · rw [u]; exact hf
    · exact hno j j0 (by omega)
  have found : FndP T V y → TT (jX8_find_57 n V rec y 1) (FrP (FndP T V) (V 0 0)) := by
    intro hf
    unfold jX8_find_57
    exact tt_ck ⟨by decide, by decide⟩ (tt_f (by decide) (tt_some (Or.inr ⟨⟨y0, by omega⟩, hf, hno⟩)))
  refine tt_lp (I := fun z : Int × Int × Int => z.1 = y ∧ (0 ≤ z.2.2 ∧ z.2.2 ≤ 6) ∧ ((z.2.1 = 1 ∧ ∀ j : Int, 0 ≤ j → j < z.2.2 → V 7 (6 * y + j).toNat = ltr T V j) ∨ (z.2.1 = 0 ∧ ¬ FndP T V y))) (μ := fun z => (6 - z.2.2).toNat) ?_ n (y, 1, 0) ⟨rfl, ⟨Int.le_refl _, by show (0 : Int) ≤ 6; decide⟩, Or.inl ⟨rfl, fun j j0 j1 => by have : j < 0 := j1; omega⟩⟩ (by show (6 - (0 : Int)).toNat < n; omega)
  rintro ⟨ya, f, i⟩ rec2 ⟨ey, ⟨i0, i1⟩, hI⟩ ih2
  simp only at ey i0 i1 hI
  subst ey
  rw [bX8_find_16_e]
  refine tt_ck ⟨by omega, by omega⟩ (tt_ite (fun c2 => ?_) (fun c2 => ?_))
  · rcases hI with ⟨ef, hj⟩ | ⟨ef, hf⟩
    · rw [ef]; exact found (fun j j0 j1 => hj j j0 (by omega))
    · rw [ef]; exact next hf
  · rcases hI with ⟨ef, hj⟩ | ⟨ef, hf⟩
    · subst ef
      have hl := x8_letter hT h c i0 (by omega)
      have hr7 := h7 (6 * ya + i).toNat (by omega)
      rw [hl.1]
      refine tt_ck ⟨by decide, by decide⟩ (tt_f (by decide) (tt_ck ⟨by omega, by omega⟩ ?_))
      rw [bd_s]
      refine tt_ck ⟨hr7, ⟨by omega, by omega⟩⟩ (tt_ite (fun c3 => ?_) (fun c3 => ?_))
      · unfold jX8_find_50
        refine tt_nm (ih2 (ya, 1, i + 1) ⟨rfl, ⟨by show 0 ≤ i + 1; omega, by show i + 1 ≤ 6; omega⟩, Or.inl ⟨rfl, fun j j0 j1 => ?_⟩⟩ (by show (6 - (i + 1)).toNat < (6 - i).toNat; omega))
        have j1 : j < i + 1 := j1
        by_cases u : j = i
        · rw [u]; exact c3
        · exact hj j j0 (by omega)
      · unfold jX8_find_50
        refine tt_nm (ih2 (ya, 0, i + 1) ⟨rfl, ⟨by show 0 ≤ i + 1; omega, by show i + 1 ≤ 6; omega⟩, Or.inr ⟨rfl, fun q => c3 (q i i0 (by omega))⟩⟩ (by show (6 - (i + 1)).toNat < (6 - i).toNat; omega))
    · rw [ef]
      exact tt_ck ⟨by decide, by decide⟩ (tt_t rfl (next hf))
/-! names, on both sides -/
def NmR (X V8 : Sz) (m : Int) : Prop := ∀ d : Int, 0 ≤ d → d < m → ∃ (u : Nat) (l : Nat → Int), (1 ≤ u ∧ u ≤ 6) ∧ LetB l u ∧ X 1 d.toNat = pkf l u ∧ ∀ j : Nat, j < 6 → V8 7 (6 * d.toNat + j) = if j < u then l j else 0
theorem nmr_x {X V8 : Sz} {m : Int} (h : NmR X V8 m) : XB X m := by
  intro j j0 j1
  obtain ⟨u, l, hu, hl, e, -⟩ := h j j0 j1
  rw [e]
  have h1 := pkf_bd u hl
  have h2 := (pkf_top u (by omega) hl).1
  constructor <;> omega
theorem nmr_r {X V8 : Sz} {m : Int} (h : NmR X V8 m) (hm : m ≤ 10) : ∀ i : Nat, (i : Int) < 6 * m → rng (V8 7 i) := by
  intro i hi
  obtain ⟨u, l, hu, hl, -, e⟩ := h ((i : Int) / 6) (by omega) (by omega)
  have e := e (i % 6) (by omega)
  rw [show 6 * ((i : Int) / 6).toNat + i % 6 = i by omega] at e
  rw [e]
  by_cases c : i % 6 < u
  · rw [if_pos c]
    have := hl _ c
    constructor <;> omega
  · rw [if_neg c]; decide
theorem nmr_iff {T : Nat → Int} {L : Int} {X V8 : Sz} {m : Int} (hN : NmR X V8 m) (h : TB T L V8) (c : V8 23 0 = 1 ∧ V8 20 0 - V8 21 0 ≤ 6) {d : Int} (d0 : 0 ≤ d) (d1 : d < m) : X 1 d.toNat = wrdR T V8 ↔ FndP T V8 d := by
  have hb := tb_bd h
  obtain ⟨hB, p, p0, ht, -⟩ := h
  rw [c.1] at ht
  have hl := tok_let ht p0
  obtain ⟨u, l, hu, hlb, e, e7⟩ := hN d d0 d1
  have hw : wrdR T V8 = pkf (let_ T (V8 21 0)) (V8 20 0 - V8 21 0).toNat := by
    unfold wrdR wrd
    rw [if_pos ⟨c.1, by omega⟩]
  have hlt : ∀ j : Nat, j < (V8 20 0 - V8 21 0).toNat → ltr T V8 (j : Int) = let_ T (V8 21 0) j := fun j hj => by
    unfold ltr let_
    rw [if_neg (by omega), show (V8 21 0 + (j : Int)).toNat = (V8 21 0).toNat + j by omega]
  have hlz : ∀ j : Nat, ¬ j < (V8 20 0 - V8 21 0).toNat → ltr T V8 (j : Int) = 0 := fun j hj => by
    unfold ltr
    rw [if_pos (by omega)]
  rw [e, hw]
  constructor
  · intro q j j0 j1
    obtain ⟨eu, ej⟩ := pkf_inj _ _ hlb hl q
    have h7 := e7 j.toNat (by omega)
    rw [show (6 * d + j).toNat = 6 * d.toNat + j.toNat by omega, h7]
    by_cases c2 : j.toNat < u
    · rw [if_pos c2, ej _ c2, ← hlt _ (by omega), show ((j.toNat : Nat) : Int) = j by omega]
    · rw [if_neg c2]
      have := hlz j.toNat (by omega)
      rw [show ((j.toNat : Nat) : Int) = j by omega] at this
      exact this.symm
  · intro q
    have hq : ∀ j : Nat, j < 6 → (if j < u then l j else 0) = ltr T V8 (j : Int) := fun j hj => by
      have := q (j : Int) (by omega) (by omega)
      rw [show (6 * d + (j : Int)).toNat = 6 * d.toNat + j by omega, e7 j hj] at this
      exact this
    have eu : u = (V8 20 0 - V8 21 0).toNat := by
      have hc : u < (V8 20 0 - V8 21 0).toNat ∨ (V8 20 0 - V8 21 0).toNat < u ∨ u = (V8 20 0 - V8 21 0).toNat := by omega
      rcases hc with v | v | v
      · have h1 := hq u (by omega)
        rw [if_neg (by omega), hlt u v] at h1
        have := hl u v
        omega
      · have h1 := hq (V8 20 0 - V8 21 0).toNat (by omega)
        rw [if_pos v, hlz _ (by omega)] at h1
        have := hlb _ v
        omega
      · exact v
    rw [← eu]
    refine pkf_congr u (fun j hj => ?_)
    have h1 := hq j (by omega)
    rw [if_pos hj, hlt j (by omega)] at h1
    exact h1
/-! both, within a text -/
def JO (T : Nat → Int) (L : Int) (V V8 : Sz) : Prop := (V 0 0 = 0 ∧ V 1 0 = -1 ∧ V 2 0 = L) ∧ By T L V8 ∧ V8 18 0 = 0 ∧ V8 19 0 = -1
/-- the reference is one word ahead -/
def JA (T : Nat → Int) (L : Int) (V V8 : Sz) : Prop := JO T L V V8 ∧ (0 ≤ V 4 0 ∧ V 4 0 ≤ L) ∧ TokR T L (V 4 0) V8
/-- both stand at the same word -/
def JB (T : Nat → Int) (L : Int) (V X V8 : Sz) : Prop := JO T L V V8 ∧ CB T L V X ∧ (V 3 0 = V8 21 0 ∧ V 4 0 = V8 20 0 ∧ V 5 0 = V8 23 0) ∧ V8 22 0 = valS T (V8 21 0) (V8 20 0) (V8 23 0)
/-- both have met the same error -/
def BE (T : Nat → Int) (L : Int) (N : Nat → Int) (V X V8 : Sz) : Prop := ∃ c o : Int, ER T L c o N V X ∧ V8 18 0 = c ∧ V8 19 0 = o ∧ -1 ≤ o ∧ o ≤ 900
theorem jo_keep {T : Nat → Int} {L : Int} {V V8 V9 : Sz} (h : JO T L V V8) (hk : ∀ j : Nat, 14 ≤ j → j < 20 → V9 j = V8 j) : JO T L V V9 := by
  unfold JO By at *
  rw [hk 14 (by decide) (by decide), hk 15 (by decide) (by decide), hk 18 (by decide) (by decide), hk 19 (by decide) (by decide)]; exact h
theorem ja_keep {T : Nat → Int} {L : Int} {V V8 V9 : Sz} (h : JA T L V V8) (hk : ∀ j : Nat, 14 ≤ j → j < 24 → V9 j = V8 j) : JA T L V V9 := by
  refine ⟨jo_keep h.1 (fun j j0 j1 => hk j j0 (by omega)), h.2.1, ?_⟩
  have := h.2.2
  unfold TokR at *
  rw [hk 20 (by decide) (by decide), hk 21 (by decide) (by decide), hk 22 (by decide) (by decide), hk 23 (by decide) (by decide)]; exact this
theorem jb_keep {T : Nat → Int} {L : Int} {V X V8 V9 : Sz} (h : JB T L V X V8) (hk : ∀ j : Nat, 14 ≤ j → j < 24 → V9 j = V8 j) : JB T L V X V9 := by
  refine ⟨jo_keep h.1 (fun j j0 j1 => hk j j0 (by omega)), h.2.1, ?_⟩
  rw [hk 20 (by decide) (by decide), hk 21 (by decide) (by decide), hk 22 (by decide) (by decide), hk 23 (by decide) (by decide)]; exact h.2.2
theorem ja_adv {T : Nat → Int} {L : Int} {V X V8 : Sz} {r : Sz × Sz} (h : JA T L V V8) (hA : Adv T L V X r) : JB T L r.1 r.2 V8 := by
  obtain ⟨⟨⟨j0, j1, j2⟩, hj⟩, h4, ht⟩ := h
  have hu := tok_uniq hA.1 ht.1
  refine ⟨⟨⟨?_, ?_, ?_⟩, hj⟩, adv_cb hA j2 h4.1, ⟨hu.1.symm, hu.2.1.symm, hu.2.2.symm⟩, ht.2⟩
  · rw [hA.2.1 0 (by decide) (by decide) (by decide)]; exact j0
  · rw [hA.2.1 1 (by decide) (by decide) (by decide)]; exact j1
  · rw [hA.2.1 2 (by decide) (by decide) (by decide)]; exact j2
theorem ja_tb {T : Nat → Int} {L : Int} {V V8 : Sz} (h : JA T L V V8) : TB T L V8 := ⟨h.1.2.1, V 4 0, h.2.1.1, h.2.2⟩
theorem jb_tb {T : Nat → Int} {L : Int} {V X V8 : Sz} (h : JB T L V X V8) : TB T L V8 := by
  obtain ⟨⟨-, hB, -⟩, ⟨-, ⟨p, p0, ht⟩, -⟩, ⟨e1, e2, e3⟩, hv⟩ := h
  rw [e1, e2, e3] at ht
  exact ⟨hB, p, p0, ht, hv⟩
theorem jb_w {T : Nat → Int} {L : Int} {V X V8 : Sz} (h : JB T L V X V8) : X 0 0 = wrdR T V8 := by
  obtain ⟨-, ⟨-, -, h3⟩, ⟨e1, e2, e3⟩, -⟩ := h
  rw [h3, e1, e2, e3]; rfl
theorem jb_next {T : Nat → Int} {L : Int} {V X V8 : Sz} (hT : BT T L) (h : JB T L V X V8) {n : Nat} (hn : 1000 ≤ n) : TT (f_X8_advanceToken n V8) (fun V9 => JA T L V V9 ∧ ∀ j : Nat, j ≠ 20 → j ≠ 21 → j ≠ 22 → j ≠ 23 → V9 j = V8 j) := by
  have hb := cb_bd h.2.1
  refine tt_mono (x8_next hT h.1.2.1 h.2.2.1.2.1.symm (by omega) hb.2.2.1 hn) (fun V9 ⟨ht, hk⟩ => ⟨⟨jo_keep h.1 (fun j j0 j1 => hk j (by omega) (by omega) (by omega) (by omega)), ⟨by omega, hb.2.2.1⟩, ht⟩, hk⟩)
theorem jb_fail {T : Nat → Int} {L c : Int} {V X V8 V1 V9 : Sz} (hT : BT T L) (h : JB T L V X V8) (hF : FailV V c V1) (hc : 1 ≤ c ∧ c ≤ 4) (h18 : V9 18 0 = c) (h19 : V9 19 0 = V8 21 0) : BE T L (X 1) V1 X V9 := by
  have hL := hT.1
  have hb := cb_bd h.2.1
  obtain ⟨⟨⟨j0, j1, j2⟩, hj⟩, hC, ⟨e1, e2, e3⟩, -⟩ := h
  obtain ⟨f0, f1, fk⟩ := hF.2 j0
  refine ⟨c, V8 21 0, ⟨⟨f0, by rw [f1, e1], hc.1, hc.2⟩, ?_, rfl⟩, h18, h19, by omega, by omega⟩
  unfold CB at *
  rw [fk 2 (by decide), fk 3 (by decide), fk 4 (by decide), fk 5 (by decide)]; exact hC
theorem failv_keep {V V1 : Sz} {x : Int} (h : FailV V x V1) {j : Nat} (hj : 1 < j) : V1 j = V j := by
  by_cases c : V 0 0 = 0
  · exact (h.2 c).2.2 j hj
  · rw [h.1 c]
theorem num_both {T : Nat → Int} {L : Int} {V X V8 G : Sz} (hT : BT T L) (h : JA T L V V8) {i a b : Int} (hi : 0 ≤ i ∧ i < 1233) (ha : rng a) (hb : rng b) {n : Nat} (hn : 1000 ≤ n) : TT (f_X8_takesInto n V8 i a b) (fun q => (∀ j : Nat, j ≠ 0 → ¬ (18 ≤ j ∧ j < 24) → q.2 j = V8 j) ∧ ∃ (r : Int) (V1 X1 : Sz), f_X6_readNumber n V X T G a b = some (r, V1, X1) ∧ rng r ∧ X1 1 = X 1 ∧ V1 6 = V 6 ∧ ((q.1 = true ∧ (a ≤ r ∧ r ≤ b) ∧ q.2 0 = up (V8 0) i.toNat r ∧ JA T L V1 q.2) ∨ (q.1 = false ∧ BE T L (X 1) V1 X1 q.2))) := by
  have hL := hT.1
  obtain ⟨⟨r, V1, X1⟩, ec, Va, hA, hR⟩ := c6_number (V := V) (X := X) (G := G) hT (by rw [h.1.1.1]; decide) h.1.1.2.2 h.2.1 ha hb hn
  have hJB : JB T L Va X1 V8 := ja_adv h hA
  have hb8 := tb_bd (jb_tb hJB)
  obtain ⟨e1, e2, e3⟩ := hJB.2.2.1
  have hval := val_rng h.2.2.1 h.2.1.1
  have ev := hJB.2.2.2
  have ex1 : X1 1 = X 1 := by
    have := hA.2.2
    have e : X1 = us X 0 _ := this
    rw [e, us_ne (by decide)]
  have ea6 : Va 6 = V 6 := hA.2.1 6 (by decide) (by decide) (by decide)
  have no : ¬ NumP Va → TT (jX8_takesInto_17 n i a b V8) (fun q => (∀ j : Nat, j ≠ 0 → ¬ (18 ≤ j ∧ j < 24) → q.2 j = V8 j) ∧ ∃ (r : Int) (V1 X1 : Sz), f_X6_readNumber n V X T G a b = some (r, V1, X1) ∧ rng r ∧ X1 1 = X 1 ∧ V1 6 = V 6 ∧ ((q.1 = true ∧ (a ≤ r ∧ r ≤ b) ∧ q.2 0 = up (V8 0) i.toNat r ∧ JA T L V1 q.2) ∨ (q.1 = false ∧ BE T L (X 1) V1 X1 q.2))) := by
    intro hno
    rcases hR with ⟨q, -, -⟩ | ⟨-, er, hF⟩
    · exact (hno q).elim
    · have er : r = a := er
      have hF : FailV Va 1 V1 := hF
      unfold jX8_takesInto_17
      refine tt_bd (x8_failsAt h.1.2.2.1 1) (fun ⟨b1, V3⟩ ⟨f1, f2, f3, f4⟩ => tt_some ⟨fun j j0 j1 => f4 j (by omega) (by omega), r, V1, X1, ec, by rw [er]; exact ha, ex1, by rw [failv_keep hF (by decide)]; exact ea6, Or.inr ⟨f1, ?_⟩⟩)
      rw [← ex1]
      exact jb_fail hT hJB hF ⟨by decide, by decide⟩ f2 f3
  unfold f_X8_takesInto
  refine tt_ck ⟨by omega, by omega⟩ (tt_ite (fun c => ?_) (fun c => no (fun q => c (by rw [← e3]; exact q.1))))
  rw [x8_len, bd_s]
  refine tt_ck ⟨by omega, by omega⟩ (tt_ite (fun c2 => ?_) (fun c2 => no (fun q => c2 (by rw [← e1, ← e2]; exact q.2))))
  have hN : NumP Va := ⟨by rw [e3]; exact c, by rw [e1, e2]; exact c2⟩
  rcases hR with ⟨-, er, hR⟩ | ⟨q, -, -⟩
  · have er : r = valS T (Va 3 0) (Va 4 0) (Va 5 0) := er
    rw [e1, e2, e3] at er
    have er2 : V8 22 0 = r := by rw [ev, er]
    rw [er2]
    have hrr : rng r := by rw [er]; constructor <;> omega
    refine rg_t hrr ha hb (fun c3 => ?_) (fun c3 => ?_)
    · rcases hR with ⟨-, -, e4⟩ | ⟨q, -⟩
      · have e4 : V1 = Va := e4
        refine tt_ck ⟨hi.1, by omega⟩ (tt_nmE (fun V8' e8 => ?_))
        have hJB' : JB T L Va X1 V8' := jb_keep hJB (fun j j0 _ => by rw [e8, uz_ne (by omega)])
        refine tt_bd (jb_next hT hJB' hn) (fun V9 ⟨hJA, hk⟩ => tt_some ⟨fun j j0 j1 => ?_, r, V1, X1, ec, hrr, ex1, by rw [e4]; exact ea6, Or.inl ⟨rfl, c3, ?_, by rw [e4]; exact hJA⟩⟩)
        · show V9 j = V8 j
          rw [hk j (by omega) (by omega) (by omega) (by omega), e8, uz_ne j0]
        · show V9 0 = _
          rw [hk 0 (by decide) (by decide) (by decide) (by decide), e8, uz_at]
      · exact (q c3).elim
    · rcases hR with ⟨q1, q2, -⟩ | ⟨-, hF⟩
      · exact (c3 ⟨q1, q2⟩).elim
      · have hF : FailV Va 2 V1 := hF
        refine tt_bd (x8_failsAt h.1.2.2.1 2) (fun ⟨b1, V3⟩ ⟨f1, f2, f3, f4⟩ => tt_some ⟨fun j j0 j1 => f4 j (by omega) (by omega), r, V1, X1, ec, hrr, ex1, by rw [failv_keep hF (by decide)]; exact ea6, Or.inr ⟨f1, ?_⟩⟩)
        rw [← ex1]
        exact jb_fail hT hJB hF ⟨by decide, by decide⟩ f2 f3
  · exact (q hN).elim
/-- a donor named, on both sides -/
theorem nam_both {T : Nat → Int} {L : Int} {V X V8 : Sz} (h : JB T L V X V8) : NamP V X ↔ NamR T V8 := by
  unfold NamP NamR
  rw [jb_w h, h.2.2.1.1, h.2.2.1.2.1, h.2.2.1.2.2]
theorem frp_both {T : Nat → Int} {L : Int} {V X V8 : Sz} {m r r1 : Int} (h : JB T L V X V8) (hc : V8 23 0 = 1 ∧ V8 20 0 - V8 21 0 ≤ 6) (hN : NmR X V8 m) (h1 : FrP (fun j => X 1 j.toNat = X 0 0) m r) (h2 : FrP (FndP T V8) m r1) : r = r1 := frp_uniq h1 h2 (fun j j0 j1 => by
  have := nmr_iff hN (jb_tb h) hc j0 j1
  rw [← jb_w h] at this
  exact this)
theorem don_both {T : Nat → Int} {L : Int} {V X V8 G : Sz} (hT : BT T L) (h : JA T L V V8) (h3 : G 3 0 = V8 0 0 ∧ 0 ≤ V8 0 0 ∧ V8 0 0 ≤ 10) (hN : NmR X V8 (V8 0 0)) {i : Int} (hi : 0 ≤ i ∧ i < 1233) {n : Nat} (hn : 1000 ≤ n) : TT (f_X8_takesDonor n V8 i) (fun q => (∀ j : Nat, j ≠ 0 → ¬ (18 ≤ j ∧ j < 24) → q.2 j = V8 j) ∧ ∃ (r : Int) (Va V1 X1 : Sz), f_X6_advance n V X T G = some (Va, X1) ∧ f_X6_knownDonor n Va X1 T G = some (r, V1) ∧ rng r ∧ X1 1 = X 1 ∧ V1 6 = V 6 ∧ ((q.1 = true ∧ (0 ≤ r ∧ r < V8 0 0) ∧ q.2 0 = up (V8 0) i.toNat r ∧ JA T L V1 q.2) ∨ (q.1 = false ∧ BE T L (X 1) V1 X1 q.2))) := by
  have hL := hT.1
  obtain ⟨⟨Va, X1⟩, ea, hA⟩ := c6_advance (V0 := V) (X0 := X) (G := G) hT h.1.1.2.2 h.2.1 hn
  have hJB : JB T L Va X1 V8 := ja_adv h hA
  have ex1 : X1 1 = X 1 := by
    have e : X1 = us X 0 _ := hA.2.2
    rw [e, us_ne (by decide)]
  have ea6 : Va 6 = V 6 := hA.2.1 6 (by decide) (by decide) (by decide)
  have hN1 : NmR X1 V8 (V8 0 0) := by
    unfold NmR
    rw [ex1]; exact hN
  obtain ⟨⟨r, V1⟩, er, hR⟩ := c6_known (V := Va) (X := X1) (G := G) hT hJB.2.1 (by rw [hJB.1.1.1]; decide) (by rw [h3.1]; exact h3.2) (by rw [h3.1]; exact nmr_x hN1) hn
  have hnb := nam_both hJB
  unfold f_X8_takesDonor
  refine tt_bd (x8_isName hT (jb_tb hJB) hn) (fun b hb => tt_ite (fun c => ?_) (fun c => ?_))
  · have hNR := hb.mp c
    rcases hR with ⟨-, hF, g1, g2⟩ | ⟨q, -, -⟩
    · have hF : FrP (fun j => X1 1 j.toNat = X1 0 0) (G 3 0) r := hF
      have g1 : r ≠ -1 → V1 = Va := g1
      have g2 : r = -1 → FailV Va 3 V1 := g2
      rw [h3.1] at hF
      refine tt_bd (x8_find hT (jb_tb hJB) hNR.1.1 h3.2 (nmr_r hN h3.2.2) hn) (fun r1 hF1 => ?_)
      have e1 : r = r1 := frp_both hJB hNR.1 hN1 hF hF1
      subst e1
      have hfb := frp_bd hF
      have hrr : rng r := by constructor <;> omega
      refine tt_ck hrr (tt_ite (fun c2 => ?_) (fun c2 => ?_))
      · have hF2 := g2 c2
        refine tt_bd (x8_failsAt h.1.2.2.1 3) (fun ⟨b1, V3⟩ ⟨f1, f2, f3, f4⟩ => tt_some ⟨fun j j0 j1 => f4 j (by omega) (by omega), r, Va, V1, X1, ea, er, hrr, ex1, by rw [failv_keep hF2 (by decide)]; exact ea6, Or.inr ⟨f1, ?_⟩⟩)
        rw [← ex1]
        exact jb_fail hT hJB hF2 ⟨by decide, by decide⟩ f2 f3
      · have e4 := g1 c2
        refine tt_ck ⟨hi.1, by omega⟩ (tt_nmE (fun V8' e8 => ?_))
        have hJB' : JB T L Va X1 V8' := jb_keep hJB (fun j j0 _ => by rw [e8, uz_ne (by omega)])
        refine tt_bd (jb_next hT hJB' hn) (fun V9 ⟨hJA, hk⟩ => tt_some ⟨fun j j0 j1 => ?_, r, Va, V1, X1, ea, er, hrr, ex1, by rw [e4]; exact ea6, Or.inl ⟨rfl, ⟨by omega, by omega⟩, ?_, by rw [e4]; exact hJA⟩⟩)
        · show V9 j = V8 j
          rw [hk j (by omega) (by omega) (by omega) (by omega), e8, uz_ne j0]
        · show V9 0 = _
          rw [hk 0 (by decide) (by decide) (by decide) (by decide), e8, uz_at]
    · exact (q (hnb.mpr hNR)).elim
  · have hNR : ¬ NamR T V8 := fun q => c (hb.mpr q)
    rcases hR with ⟨q, -, -, -⟩ | ⟨-, e1, hF⟩
    · exact (hNR (hnb.mp q)).elim
    · have e1 : r = -1 := e1
      have hF : FailV Va 1 V1 := hF
      refine tt_bd (x8_failsAt h.1.2.2.1 1) (fun ⟨b1, V3⟩ ⟨f1, f2, f3, f4⟩ => tt_some ⟨fun j j0 j1 => f4 j (by omega) (by omega), r, Va, V1, X1, ea, er, by rw [e1]; decide, ex1, by rw [failv_keep hF (by decide)]; exact ea6, Or.inr ⟨f1, ?_⟩⟩)
      rw [← ex1]
      exact jb_fail hT hJB hF ⟨by decide, by decide⟩ f2 f3
/-- the class reads the semicolon, the reference stands at it -/
theorem semi_at {T : Nat → Int} {L : Int} {V X V8 G : Sz} (hT : BT T L) (h : JA T L V V8) {n : Nat} (hn : 1000 ≤ n) : ∃ V1 X1 : Sz, f_X6_readSemicolon n V X T G = some (V1, X1) ∧ X1 1 = X 1 ∧ V1 6 = V 6 ∧ ((V8 23 0 = 3 ∧ JB T L V1 X1 V8) ∨ (V8 23 0 ≠ 3 ∧ ∀ V9 : Sz, V9 18 0 = 1 → V9 19 0 = V8 21 0 → BE T L (X 1) V1 X1 V9)) := by
  obtain ⟨⟨V1, X1⟩, ec, Va, hA, hR⟩ := c6_semi (V := V) (X := X) (G := G) hT (by rw [h.1.1.1]; decide) h.1.1.2.2 h.2.1 hn
  have hJB : JB T L Va X1 V8 := ja_adv h hA
  have ex1 : X1 1 = X 1 := by
    have e : X1 = us X 0 _ := hA.2.2
    rw [e, us_ne (by decide)]
  have ea6 : Va 6 = V 6 := hA.2.1 6 (by decide) (by decide) (by decide)
  refine ⟨V1, X1, ec, ex1, ?_, ?_⟩
  · rcases hR with ⟨-, e⟩ | ⟨-, hF⟩
    · have e : V1 = Va := e
      rw [e]; exact ea6
    · have hF : FailV Va 1 V1 := hF
      rw [failv_keep hF (by decide)]; exact ea6
  · rcases hR with ⟨c, e⟩ | ⟨c, hF⟩
    · have e : V1 = Va := e
      left
      rw [e]
      exact ⟨by rw [← hJB.2.2.1.2.2]; exact c, hJB⟩
    · have hF : FailV Va 1 V1 := hF
      right
      refine ⟨fun q => c (by rw [hJB.2.2.1.2.2]; exact q), fun V9 h18 h19 => ?_⟩
      rw [← ex1]
      exact jb_fail hT hJB hF ⟨by decide, by decide⟩ h18 h19
