/-! the words of a text -/
def kd (T : Nat → Int) (L p : Int) : Int := if p < L then (if 97 ≤ T p.toNat ∧ T p.toNat ≤ 122 then 1 else if 48 ≤ T p.toNat ∧ T p.toNat ≤ 57 then 2 else if T p.toNat = 59 then 3 else 4) else 0
def Blk (T : Nat → Int) (p : Int) : Prop := T p.toNat = 32 ∨ T p.toNat = 10
def BT (T : Nat → Int) (L : Int) : Prop := (0 ≤ L ∧ L ≤ 900) ∧ ∀ p : Int, 0 ≤ p → p < L → -128 ≤ T p.toNat ∧ T p.toNat ≤ 127
/-- from p on the next word is that from s to e, of kind k -/
def Tok (T : Nat → Int) (L p s e k : Int) : Prop := (p ≤ s ∧ s ≤ L) ∧ (∀ i : Int, p ≤ i → i < s → Blk T i) ∧ (s < L → ¬ Blk T s) ∧ k = kd T L s ∧ (k = 0 → e = s) ∧ (k = 3 ∨ k = 4 → e = s + 1) ∧ (k = 1 ∨ k = 2 → s < e ∧ e ≤ L ∧ (∀ i : Int, s ≤ i → i < e → kd T L i = k) ∧ kd T L e ≠ k)
theorem kd_bd (T : Nat → Int) (L p : Int) : 0 ≤ kd T L p ∧ kd T L p ≤ 4 ∧ (kd T L p = 0 ↔ L ≤ p) := by
  unfold kd
  split
  · split
    · omega
    · split
      · omega
      · split <;> omega
  · omega
theorem kd_one {T : Nat → Int} {L p : Int} (h : kd T L p = 1) : p < L ∧ 97 ≤ T p.toNat ∧ T p.toNat ≤ 122 := by
  unfold kd at h
  split at h
  · split at h
    · omega
    · split at h
      · omega
      · split at h <;> omega
  · omega
theorem kd_two {T : Nat → Int} {L p : Int} (h : kd T L p = 2) : p < L ∧ 48 ≤ T p.toNat ∧ T p.toNat ≤ 57 := by
  unfold kd at h
  split at h
  · split at h
    · omega
    · split at h
      · omega
      · split at h <;> omega
  · omega
theorem tok_bd {T : Nat → Int} {L p s e k : Int} (h : Tok T L p s e k) : p ≤ s ∧ s ≤ e ∧ e ≤ L ∧ 0 ≤ k ∧ k ≤ 4 ∧ (k = 0 ↔ s = L) ∧ (k ≠ 0 → s < e) := by
  obtain ⟨h1, -, -, h4, h5, h6, h7⟩ := h
  have hk := kd_bd T L s
  rw [← h4] at hk
  have hc : k = 0 ∨ (k = 3 ∨ k = 4) ∨ (k = 1 ∨ k = 2) := by omega
  rcases hc with q | q | q
  · have := h5 q; omega
  · have := h6 q; omega
  · have := h7 q; omega
theorem tok_uniq {T : Nat → Int} {L p s e k s1 e1 k1 : Int} (h : Tok T L p s e k) (h1 : Tok T L p s1 e1 k1) : s1 = s ∧ e1 = e ∧ k1 = k := by
  obtain ⟨a1, a2, a3, a4, a5, a6, a7⟩ := h
  obtain ⟨b1, b2, b3, b4, b5, b6, b7⟩ := h1
  have es : s1 = s := by
    have hc : s1 < s ∨ s < s1 ∨ s1 = s := by omega
    rcases hc with q | q | q
    · exact (b3 (by omega) (a2 s1 b1.1 q)).elim
    · exact (a3 (by omega) (b2 s a1.1 q)).elim
    · exact q
  subst es
  have ek : k1 = k := by rw [a4, b4]
  subst ek
  refine ⟨rfl, ?_, rfl⟩
  have hk := kd_bd T L s1
  rw [← a4] at hk
  have hc : k1 = 0 ∨ (k1 = 3 ∨ k1 = 4) ∨ (k1 = 1 ∨ k1 = 2) := by omega
  rcases hc with q | q | q
  · rw [a5 q, b5 q]
  · rw [a6 q, b6 q]
  · obtain ⟨a8, a9, a10, a11⟩ := a7 q
    obtain ⟨b8, b9, b10, b11⟩ := b7 q
    have hc : e1 < e ∨ e < e1 ∨ e1 = e := by omega
    rcases hc with u | u | u
    · exact (b11 (a10 e1 (by omega) u)).elim
    · exact (a11 (b10 e (by omega) u)).elim
    · exact u
/-- a word's letters as one number -/
def pkf (l : Nat → Int) : Nat → Int
  | 0 => 0
  | m + 1 => pkf l m * 256 + l m
def LetB (l : Nat → Int) (m : Nat) : Prop := ∀ j : Nat, j < m → 97 ≤ l j ∧ l j ≤ 122
theorem pkf_congr {l l1 : Nat → Int} : ∀ m : Nat, (∀ j : Nat, j < m → l j = l1 j) → pkf l m = pkf l1 m := by
  intro m
  induction m with
  | zero => intro _; rfl
  | succ m ih =>
    intro h
    show pkf l m * 256 + l m = pkf l1 m * 256 + l1 m
    rw [ih (fun j hj => h j (by omega)), h m (by omega)]
theorem pkf_bd {l : Nat → Int} : ∀ m : Nat, LetB l m → 0 ≤ pkf l m ∧ (0 < m → 97 ≤ pkf l m) := by
  intro m
  induction m with
  | zero => intro _; exact ⟨Int.le_refl _, fun h => absurd h (by decide)⟩
  | succ m ih =>
    intro h
    have h1 := ih (fun j hj => h j (by omega))
    have h2 := h m (by omega)
    show 0 ≤ pkf l m * 256 + l m ∧ (0 < m + 1 → 97 ≤ pkf l m * 256 + l m)
    omega
theorem pkf_top {l : Nat → Int} : ∀ m : Nat, m ≤ 7 → LetB l m → pkf l m ≤ 72057594037927935 ∧ (m ≤ 6 → pkf l m ≤ 281474976710655) ∧ (m ≤ 5 → pkf l m ≤ 1099511627775) ∧ (m ≤ 4 → pkf l m ≤ 4294967295) ∧ (m ≤ 3 → pkf l m ≤ 16777215) ∧ (m ≤ 2 → pkf l m ≤ 65535) ∧ (m ≤ 1 → pkf l m ≤ 255) ∧ (m ≤ 0 → pkf l m ≤ 0) := by
  intro m
  induction m with
  | zero => intro _ _; show (0 : Int) ≤ _ ∧ (_ → (0 : Int) ≤ _) ∧ (_ → (0 : Int) ≤ _) ∧ (_ → (0 : Int) ≤ _) ∧ (_ → (0 : Int) ≤ _) ∧ (_ → (0 : Int) ≤ _) ∧ (_ → (0 : Int) ≤ _) ∧ (_ → (0 : Int) ≤ _); omega
  | succ m ih =>
    intro hm h
    have h1 := ih (by omega) (fun j hj => h j (by omega))
    have h2 := h m (by omega)
    have e : pkf l (m + 1) = pkf l m * 256 + l m := rfl
    omega
theorem pkf_inj {l l1 : Nat → Int} : ∀ m m1 : Nat, LetB l m → LetB l1 m1 → pkf l m = pkf l1 m1 → m = m1 ∧ ∀ j : Nat, j < m → l j = l1 j := by
  intro m
  induction m with
  | zero =>
    intro m1 _ h1 e
    cases m1 with
    | zero => exact ⟨rfl, fun j hj => absurd hj (Nat.not_lt_zero j)⟩
    | succ m1 =>
      have := (pkf_bd (m1 + 1) h1).2 (by omega)
      have : (0 : Int) = pkf l1 (m1 + 1) := e
      omega
  | succ m ih =>
    intro m1 h h1 e
    cases m1 with
    | zero =>
      have := (pkf_bd (m + 1) h).2 (by omega)
      have : pkf l (m + 1) = (0 : Int) := e
      omega
    | succ m1 =>
      have e : pkf l m * 256 + l m = pkf l1 m1 * 256 + l1 m1 := e
      have b := h m (by omega)
      have b1 := h1 m1 (by omega)
      have r := ih m1 (fun j hj => h j (by omega)) (fun j hj => h1 j (by omega)) (by omega)
      obtain ⟨em, ej⟩ := r
      subst em
      refine ⟨rfl, fun j hj => ?_⟩
      by_cases q : j = m
      · subst q; omega
      · exact ej j (by omega)
/-- the letters from s on -/
def let_ (T : Nat → Int) (s : Int) : Nat → Int := fun j => T (s.toNat + j)
def wrd (T : Nat → Int) (s e k : Int) : Int := if k = 1 ∧ e - s ≤ 7 then pkf (let_ T s) (e - s).toNat else 0
theorem tok_let {T : Nat → Int} {L p s e : Int} (h : Tok T L p s e 1) (p0 : 0 ≤ p) : LetB (let_ T s) (e - s).toNat := by
  have hb := tok_bd h
  intro j hj
  have := kd_one ((h.2.2.2.2.2.2 (Or.inl rfl)).2.2.1 (s + (j : Int)) (by omega) (by omega))
  rw [show (s + (j : Int)).toNat = s.toNat + j by omega] at this
  exact this.2
/-- a number's digits -/
def nv (T : Nat → Int) (s : Int) : Nat → Int
  | 0 => 0
  | m + 1 => 10 * nv T s m + T (s.toNat + m) - 48
theorem nv_bd {T : Nat → Int} {L p s e : Int} (h : Tok T L p s e 2) (p0 : 0 ≤ p) : ∀ m : Nat, m ≤ 6 → (m : Int) ≤ e - s → 0 ≤ nv T s m ∧ nv T s m + 1 ≤ pw m := by
  intro m
  induction m with
  | zero => intro _ _; exact ⟨Int.le_refl _, by show (0 : Int) + 1 ≤ 1; decide⟩
  | succ m ih =>
    intro hm he
    have hb := tok_bd h
    have h1 := ih (by omega) (by omega)
    have h2 := kd_two ((h.2.2.2.2.2.2 (Or.inr rfl)).2.2.1 (s + (m : Int)) (by omega) (by omega))
    rw [show (s + (m : Int)).toNat = s.toNat + m by omega] at h2
    show 0 ≤ 10 * nv T s m + T (s.toNat + m) - 48 ∧ 10 * nv T s m + T (s.toNat + m) - 48 + 1 ≤ 10 * pw m
    omega
theorem nv_top {T : Nat → Int} {L p s e : Int} (h : Tok T L p s e 2) (p0 : 0 ≤ p) {m : Nat} (hm : m ≤ 6) (he : (m : Int) ≤ e - s) : 0 ≤ nv T s m ∧ nv T s m ≤ 999999 := by
  have h1 := nv_bd h p0 m hm he
  have h2 : pw m ≤ 1000000 := by
    have hc : m ≤ 5 ∨ m = 6 := by omega
    rcases hc with q | q
    · have := pw_le m q; omega
    · subst q; decide
  omega
def valS (T : Nat → Int) (s e k : Int) : Int := if k = 2 then nv T s (min (e - s) 6).toNat else 0
/-! the class's reader -/
theorem c6_kindAt {V X G : Sz} {T : Nat → Int} {L p : Int} (hT : BT T L) (h2 : V 2 0 = L) (p0 : 0 ≤ p) (p1 : p ≤ 900) : f_X6_kindAt V X T G p = some (kd T L p) := by
  unfold f_X6_kindAt kd
  rw [h2, ck_t ⟨⟨by omega, by omega⟩, ⟨by have := hT.1; omega, by have := hT.1; omega⟩⟩]
  by_cases c : p < L
  · have hb := hT.2 p p0 c
    have hL := hT.1
    have hr : rng (T p.toNat) := ⟨by omega, by omega⟩
    rw [if_pos c, if_pos c, ck_t ⟨p0, by omega⟩, nm_s, ck_t hr]
    have r45 : jX6_kindAt_45 V X T G p (T p.toNat) = some (if T p.toNat = 59 then 3 else 4) := by
      unfold jX6_kindAt_45
      rw [ck_t hr]
      by_cases c3 : T p.toNat = 59
      · rw [if_pos c3, if_pos c3]
      · rw [if_neg c3, if_neg c3]
    have r31 : jX6_kindAt_31 V X T G p (T p.toNat) = some (if 48 ≤ T p.toNat ∧ T p.toNat ≤ 57 then 2 else if T p.toNat = 59 then 3 else 4) := by
      unfold jX6_kindAt_31
      rw [ck_t hr]
      by_cases c1 : T p.toNat < 48
      · rw [if_pos c1, if_neg (by omega), r45]
      · rw [if_neg c1]
        by_cases c2 : 57 < T p.toNat
        · rw [if_pos c2, if_neg (by omega), r45]
        · rw [if_neg c2, if_pos ⟨by omega, by omega⟩]
    by_cases c1 : T p.toNat < 97
    · rw [if_pos c1, if_neg (by omega), r31]
    · rw [if_neg c1]
      by_cases c2 : 122 < T p.toNat
      · rw [if_pos c2, if_neg (by omega), r31]
      · rw [if_neg c2, if_pos ⟨by omega, by omega⟩]
  · rw [if_neg c, if_neg c]
theorem c6_packed {V X G : Sz} {T : Nat → Int} {L p s e k : Int} (hT : BT T L) (h3 : V 3 0 = s) (h4 : V 4 0 = e) (h5 : V 5 0 = k) (ht : Tok T L p s e k) (p0 : 0 ≤ p) {n : Nat} (hn : 1000 ≤ n) : f_X6_packedWord n V X T G = some (wrd T s e k) := by
  have hb := tok_bd ht
  have hL := hT.1
  unfold f_X6_packedWord wrd
  rw [h3, h4, h5, ck_t ⟨by omega, by omega⟩]
  by_cases c1 : k = 1
  · subst c1
    have hl := tok_let ht p0
    rw [if_pos rfl, ck_t ⟨by omega, by omega⟩]
    by_cases c2 : e - s ≤ 7
    · rw [if_pos c2, if_pos ⟨rfl, c2⟩, nm_s]
      refine tt_eq ?_
      refine tt_lp (I := fun z : Int × Int => (s ≤ z.2 ∧ z.2 ≤ e) ∧ z.1 = pkf (let_ T s) (z.2 - s).toNat) (μ := fun z => (e - z.2).toNat) ?_ n (0, s) ⟨⟨Int.le_refl _, by show s ≤ e; omega⟩, by show (0 : Int) = pkf (let_ T s) (s - s).toNat; rw [show (s - s).toNat = 0 by omega]; rfl⟩ (by show (e - s).toNat < n; omega)
      rintro ⟨y, q⟩ rec ⟨⟨q0, q1⟩, ey⟩ ih
      simp only at q0 q1 ey
      rw [bX6_packedWord_31_e, h4]
      refine tt_ck ⟨⟨by omega, by omega⟩, ⟨by omega, by omega⟩⟩ (tt_ite (fun c => tt_some (by rw [ey, show q = e by omega])) (fun c => ?_))
      have hlb := hl (q - s).toNat (by omega)
      have eq : let_ T s (q - s).toNat = T q.toNat := by
        unfold let_
        rw [show s.toNat + (q - s).toNat = q.toNat by omega]
      rw [eq] at hlb
      have hp := pkf_bd (q - s).toNat (fun j hj => hl j (by omega))
      have hp2 := (pkf_top (q - s).toNat (by omega) (fun j hj => hl j (by omega))).2.1 (by omega)
      rw [← ey] at hp hp2
      refine tt_ck ⟨by omega, by omega⟩ (tt_ck ⟨by omega, by omega⟩ (tt_ck ⟨by omega, by omega, by omega, by omega, by omega⟩ (tt_nm (tt_nm (ih (y * 256 + T q.toNat, q + 1) ⟨⟨by show s ≤ q + 1; omega, by show q + 1 ≤ e; omega⟩, ?_⟩ (by show (e - (q + 1)).toNat < (e - q).toNat; omega))))))
      show y * 256 + T q.toNat = pkf (let_ T s) (q + 1 - s).toNat
      rw [show (q + 1 - s).toNat = (q - s).toNat + 1 by omega]
      show _ = pkf (let_ T s) (q - s).toNat * 256 + let_ T s (q - s).toNat
      rw [eq, ey]
    · rw [if_neg c2, if_neg (fun q => c2 q.2)]
  · rw [if_neg c1, if_neg (fun q => c1 q.1)]
/-- what advance leaves -/
def Adv (T : Nat → Int) (L : Int) (V0 X0 : Sz) (r : Sz × Sz) : Prop := Tok T L (V0 4 0) (r.1 3 0) (r.1 4 0) (r.1 5 0) ∧ (∀ j : Nat, j ≠ 3 → j ≠ 4 → j ≠ 5 → r.1 j = V0 j) ∧ r.2 = us X0 0 (wrd T (r.1 3 0) (r.1 4 0) (r.1 5 0))
theorem c6_advance {V0 X0 G : Sz} {T : Nat → Int} {L : Int} (hT : BT T L) (h2 : V0 2 0 = L) (h4 : 0 ≤ V0 4 0 ∧ V0 4 0 ≤ L) {n : Nat} (hn : 1000 ≤ n) : TT (f_X6_advance n V0 X0 T G) (Adv T L V0 X0) := by
  have hL := hT.1
  unfold f_X6_advance
  refine tt_lp (I := fun z : Sz × Sz => z.2 = X0 ∧ (∀ j : Nat, j ≠ 4 → z.1 j = V0 j) ∧ (V0 4 0 ≤ z.1 4 0 ∧ z.1 4 0 ≤ L) ∧ ∀ i : Int, V0 4 0 ≤ i → i < z.1 4 0 → Blk T i) (μ := fun z => (L - z.1 4 0).toNat) ?_ n (V0, X0) ⟨rfl, fun _ _ => rfl, ⟨Int.le_refl _, h4.2⟩, fun i i0 i1 => by have : i < V0 4 0 := i1; omega⟩ (by show (L - V0 4 0).toNat < n; omega)
  rintro ⟨V, X⟩ rec ⟨eX, hk, ⟨q0, q1⟩, hbl⟩ ih
  simp only at eX hk q0 q1 hbl
  subst eX
  have e2 : V 2 0 = L := by rw [hk 2 (by decide)]; exact h2
  obtain ⟨s, es⟩ : ∃ s : Int, s = V 4 0 := ⟨_, rfl⟩
  rw [← es] at q0 q1 hbl
  -- the end of the word
  have fin : ∀ (Va : Sz) (e : Int), Va 4 0 = e → Va 3 0 = s → Va 5 0 = kd T L s → (∀ j : Nat, j ≠ 3 → j ≠ 4 → j ≠ 5 → Va j = V0 j) → Tok T L (V0 4 0) s e (kd T L s) → TT (jX6_advance_140 n T G Va X) (Adv T L V0 X) := by
    intro Va e a4 a3 a5 ak ht
    unfold jX6_advance_140
    rw [c6_packed hT a3 a4 a5 ht h4.1 hn, bd_s]
    refine tt_nm (tt_some ⟨?_, ak, ?_⟩)
    · show Tok T L (V0 4 0) (Va 3 0) (Va 4 0) (Va 5 0)
      rw [a3, a4, a5]; exact ht
    · show us X 0 (wrd T s e (kd T L s)) = us X 0 (wrd T (Va 3 0) (Va 4 0) (Va 5 0))
      rw [a3, a4, a5]
  have go : (s < L → ¬ Blk T s) → TT (jX6_advance_52 n T G V X) (Adv T L V0 X) := by
    intro hnb
    unfold jX6_advance_52
    refine tt_nmE (fun Va ea => ?_)
    have a4 : Va 4 0 = s := by rw [ea, us_ne (by decide)]; exact es.symm
    have a3 : Va 3 0 = s := by rw [ea, us_at]; exact es.symm
    have a2 : Va 2 0 = L := by rw [ea, us_ne (by decide)]; exact e2
    have hkb := kd_bd T L s
    rw [a4, c6_kindAt hT a2 (by omega) (by omega), bd_s]
    refine tt_nmE (fun Vb eb => ?_)
    have b5 : Vb 5 0 = kd T L s := by rw [eb, us_at]
    have b4 : Vb 4 0 = s := by rw [eb, us_ne (by decide)]; exact a4
    have b3 : Vb 3 0 = s := by rw [eb, us_ne (by decide)]; exact a3
    have b2 : Vb 2 0 = L := by rw [eb, us_ne (by decide)]; exact a2
    have bk : ∀ j : Nat, j ≠ 3 → j ≠ 4 → j ≠ 5 → Vb j = V0 j := fun j j3 j4 j5 => by rw [eb, us_ne j5, ea, us_ne j3]; exact hk j j4
    have one : kd T L s = 3 ∨ kd T L s = 4 → TT (jX6_advance_88 n T G Vb X) (Adv T L V0 X) := by
      intro h34
      unfold jX6_advance_88
      refine tt_nmE (fun Vc ec => fin Vc (s + 1) (by rw [ec, us_at, b4]) (by rw [ec, us_ne (by decide)]; exact b3) (by rw [ec, us_ne (by decide)]; exact b5) (fun j j3 j4 j5 => by rw [ec, us_ne j4]; exact bk j j3 j4 j5) ?_)
      exact ⟨⟨q0, q1⟩, hbl, hnb, rfl, fun q => by omega, fun _ => rfl, fun q => by omega⟩
    rw [b5]
    refine tt_ck ⟨by omega, by omega⟩ (tt_ite (fun c => one (Or.inl c)) (fun c => tt_ite (fun c2 => one (Or.inr c2)) (fun c2 => ?_)))
    refine tt_lp (I := fun z : Sz × Sz => z.2 = X ∧ (∀ j : Nat, j ≠ 4 → z.1 j = Vb j) ∧ (s ≤ z.1 4 0 ∧ z.1 4 0 ≤ L) ∧ ∀ i : Int, s ≤ i → i < z.1 4 0 → kd T L i = kd T L s) (μ := fun z => (L - z.1 4 0).toNat) ?_ n (Vb, X) ⟨rfl, fun _ _ => rfl, ⟨by show s ≤ Vb 4 0; omega, by show Vb 4 0 ≤ L; omega⟩, fun i i0 i1 => by have : i < Vb 4 0 := i1; omega⟩ (by show (L - Vb 4 0).toNat < n; omega)
    rintro ⟨Vc, Xc⟩ rec2 ⟨eXc, ck2, ⟨r0, r1⟩, hal⟩ ih2
    simp only at eXc ck2 r0 r1 hal
    subst eXc
    obtain ⟨e, ee⟩ : ∃ e : Int, e = Vc 4 0 := ⟨_, rfl⟩
    rw [← ee] at r0 r1 hal
    have c2' : Vc 2 0 = L := by rw [ck2 2 (by decide)]; exact b2
    have stop : kd T L e ≠ kd T L s ∨ e = L → TT (jX6_advance_140 n T G Vc Xc) (Adv T L V0 Xc) := by
      intro hs
      refine fin Vc e ee.symm (by rw [ck2 3 (by decide)]; exact b3) (by rw [ck2 5 (by decide)]; exact b5) (fun j j3 j4 j5 => by rw [ck2 j j4]; exact bk j j3 j4 j5) ?_
      refine ⟨⟨q0, q1⟩, hbl, hnb, rfl, fun q => ?_, fun q => by omega, fun q => ?_⟩
      · have : L ≤ s := hkb.2.2.mp q
        omega
      · have hse : s < e := by
          have hsL : s < L := by
            by_cases u : L ≤ s
            · have := hkb.2.2.mpr u; omega
            · omega
          rcases hs with u | u
          · by_cases v : s = e
            · rw [v] at u; exact (u rfl).elim
            · omega
          · omega
        refine ⟨hse, r1, hal, ?_⟩
        rcases hs with u | u
        · exact u
        · have : kd T L e = 0 := (kd_bd T L e).2.2.mpr (by omega)
          omega
    rw [bX6_advance_101_e, ← ee, c2']
    refine tt_ck ⟨⟨by omega, by omega⟩, ⟨by omega, by omega⟩⟩ (tt_ite (fun c3 => stop (Or.inr (by omega))) (fun c3 => ?_))
    have hke := kd_bd T L e
    rw [c6_kindAt hT c2' (by omega) (by omega), bd_s, show Vc 5 0 = kd T L s by rw [ck2 5 (by decide)]; exact b5]
    refine tt_ck ⟨⟨by omega, by omega⟩, ⟨by omega, by omega⟩⟩ (tt_ite (fun c4 => tt_nmE (fun Vd ed => ?_)) (fun c4 => stop (Or.inl c4)))
    have d4 : Vd 4 0 = e + 1 := by rw [ed, us_at]
    refine ih2 (Vd, Xc) ⟨rfl, fun j j4 => by show Vd j = Vb j; rw [ed, us_ne j4]; exact ck2 j j4, ⟨by show s ≤ Vd 4 0; omega, by show Vd 4 0 ≤ L; omega⟩, fun i i0 i1 => ?_⟩ (by show (L - Vd 4 0).toNat < (L - Vc 4 0).toNat; omega)
    have i1 : i < Vd 4 0 := i1
    by_cases u : i = e
    · rw [u]; exact c4
    · exact hal i i0 (by omega)
  have skip : s < L → Blk T s → TT (jX6_advance_39 n T G rec V X) (Adv T L V0 X) := by
    intro hs hb
    unfold jX6_advance_39
    refine tt_nmE (fun Va ea => ?_)
    have a4 : Va 4 0 = s + 1 := by rw [ea, us_at, ← es]
    refine ih (Va, X) ⟨rfl, fun j j4 => by show Va j = V0 j; rw [ea, us_ne j4]; exact hk j j4, ⟨by show V0 4 0 ≤ Va 4 0; omega, by show Va 4 0 ≤ L; omega⟩, fun i i0 i1 => ?_⟩ (by show (L - Va 4 0).toNat < (L - V 4 0).toNat; omega)
    have i1 : i < Va 4 0 := i1
    by_cases u : i = s
    · rw [u]; exact hb
    · exact hbl i i0 (by omega)
  rw [bX6_advance_0_e, ← es, e2]
  refine tt_ck ⟨⟨by omega, by omega⟩, ⟨by omega, by omega⟩⟩ (tt_ite (fun c => go (fun q => by omega)) (fun c => ?_))
  have hb := hT.2 s (by omega) (by omega)
  refine tt_ck ⟨by omega, by omega⟩ (tt_ck ⟨by omega, by omega⟩ (tt_ite (fun c1 => skip (by omega) (Or.inl c1)) (fun c1 => tt_ite (fun c2 => skip (by omega) (Or.inr c2)) (fun c2 => go (fun _ q => ?_)))))
  rcases q with q | q
  · exact c1 q
  · exact c2 q
/-! the reference's reader -/
def By (T : Nat → Int) (L : Int) (V : Sz) : Prop := V 15 0 = L ∧ ∀ p : Int, 0 ≤ p → p < L → V 14 p.toNat = T p.toNat % 256
theorem x8_byteAt {V : Sz} {T : Nat → Int} {L p : Int} (hT : BT T L) (h : By T L V) (p0 : 0 ≤ p) (p1 : p ≤ 900) : f_X8_byteAt V p = some (if p < L then T p.toNat % 256 else -1) := by
  have hL := hT.1
  unfold f_X8_byteAt
  rw [h.1, ck_t ⟨⟨by omega, by omega⟩, ⟨by omega, by omega⟩⟩]
  by_cases c : p < L
  · rw [if_neg (by omega), if_pos c, ck_t ⟨p0, by omega⟩, h.2 p p0 c]
  · rw [if_pos (by omega), if_neg c]
theorem x8_token {V0 : Sz} {T : Nat → Int} {L p s e k : Int} (hT : BT T L) (hB : By T L V0) (ht : Tok T L p s e k) (p0 : 0 ≤ p) (h20 : V0 20 0 = p) {n : Nat} (hn : 1000 ≤ n) : TT (f_X8_advanceToken n V0) (fun V => V 21 0 = s ∧ V 20 0 = e ∧ V 23 0 = k ∧ V 22 0 = valS T s e k ∧ ∀ j : Nat, j ≠ 20 → j ≠ 21 → j ≠ 22 → j ≠ 23 → V j = V0 j) := by
  have hL := hT.1
  have hb := tok_bd ht
  obtain ⟨t1, t2, t3, t4, t5, t6, t7⟩ := id ht
  unfold f_X8_advanceToken
  refine tt_lp (I := fun V : Sz => (∀ j : Nat, j ≠ 20 → V j = V0 j) ∧ p ≤ V 20 0 ∧ V 20 0 ≤ s) (μ := fun V => (s - V 20 0).toNat) ?_ n V0 ⟨fun _ _ => rfl, by omega, by omega⟩ (by show (s - V0 20 0).toNat < n; omega)
  intro V rec ⟨hk, q0, q1⟩ ih
  obtain ⟨q, eq⟩ : ∃ q : Int, q = V 20 0 := ⟨_, rfl⟩
  rw [← eq] at q0 q1
  have hBV : By T L V := by
    unfold By
    rw [hk 15 (by decide), hk 14 (by decide)]; exact hB
  rw [bX8_advanceToken_0_e, ← eq, x8_byteAt hT hBV (by omega) (by omega)]
  obtain ⟨b, eb⟩ : ∃ b : Int, b = if q < L then T q.toNat % 256 else -1 := ⟨_, rfl⟩
  have hbb : -1 ≤ b ∧ b ≤ 255 := by
    rw [eb]
    split <;> omega
  rw [← eb, bd_s, bd_s]
  have hblk : (b = 32 ∨ b = 10) ↔ (q < L ∧ Blk T q) := by
    unfold Blk
    by_cases c : q < L
    · have hbt := hT.2 q (by omega) c
      rw [if_pos c] at eb
      omega
    · rw [if_neg c] at eb
      omega
  have skip : b = 32 ∨ b = 10 → TT (jX8_advanceToken_26 n rec V) (fun V => V 21 0 = s ∧ V 20 0 = e ∧ V 23 0 = k ∧ V 22 0 = valS T s e k ∧ ∀ j : Nat, j ≠ 20 → j ≠ 21 → j ≠ 22 → j ≠ 23 → V j = V0 j) := by
    intro hq
    have hq2 := hblk.mp hq
    have hqs : q < s := by
      by_cases u : q = s
      · subst u; exact (t3 hq2.1 hq2.2).elim
      · omega
    unfold jX8_advanceToken_26
    refine tt_nmE (fun Va ea => ?_)
    have a20 : Va 20 0 = q + 1 := by rw [ea, us_at, ← eq]
    exact ih Va ⟨fun j j20 => by rw [ea, us_ne j20]; exact hk j j20, by omega, by omega⟩ (by show (s - Va 20 0).toNat < (s - V 20 0).toNat; omega)
  refine tt_ck ⟨by omega, by omega⟩ (tt_ite (fun c => skip (Or.inl c)) (fun c => tt_ck ⟨by omega, by omega⟩ (tt_ite (fun c2 => skip (Or.inr c2)) (fun c2 => ?_))))
  have hqs : q = s := by
    by_cases u : q < s
    · have := t2 q q0 u
      have := hblk.mpr ⟨by omega, this⟩
      omega
    · omega
  subst hqs
  refine tt_nmE (fun Va ea => ?_)
  have a20 : Va 20 0 = q := by rw [ea, us_ne (by decide)]; exact eq.symm
  have a21 : Va 21 0 = q := by rw [ea, us_at]
  have ak : ∀ j : Nat, j ≠ 20 → j ≠ 21 → Va j = V0 j := fun j j20 j21 => by rw [ea, us_ne j21]; exact hk j j20
  have hBa : By T L Va := by
    unfold By
    rw [ak 15 (by decide) (by decide), ak 14 (by decide) (by decide)]; exact hB
  rw [a20, x8_byteAt hT hBa (by omega) (by omega), ← eb, bd_s]
  refine tt_nmE (fun Vb e2b => ?_)
  have b20 : Vb 20 0 = q := by rw [e2b, us_ne (by decide)]; exact a20
  have b21 : Vb 21 0 = q := by rw [e2b, us_ne (by decide)]; exact a21
  have b22 : Vb 22 0 = 0 := by rw [e2b, us_at]
  have bk : ∀ j : Nat, j ≠ 20 → j ≠ 21 → j ≠ 22 → Vb j = V0 j := fun j j20 j21 j22 => by rw [e2b, us_ne j22]; exact ak j j20 j21
  have hkc := t4
  unfold kd at hkc
  refine tt_ck ⟨by omega, by omega⟩ (tt_ite (fun c3 => ?_) (fun c3 => ?_))
  · have hqL : ¬ q < L := by
      intro u
      rw [if_pos u] at eb
      omega
    rw [if_neg hqL] at hkc
    refine tt_nmE (fun Vc ec => tt_some ⟨by rw [ec, us_ne (by decide)]; exact b21, ?_, by rw [ec, us_at, hkc], ?_, fun j j20 j21 j22 j23 => by rw [ec, us_ne j23]; exact bk j j20 j21 j22⟩)
    · rw [ec, us_ne (by decide), b20, t5 hkc]
    · rw [ec, us_ne (by decide), b22, hkc]; rfl
  have hqL : q < L := by
    by_cases u : q < L
    · exact u
    · rw [if_neg u] at eb; omega
  rw [if_pos hqL] at hkc eb
  have hbt := hT.2 q (by omega) hqL
  -- the bytes of the word's kind
  have kdq : ∀ (z a1 a2 : Int) (kk : Int), 0 ≤ z → z ≤ 900 → ((kk = 1 ∧ a1 = 97 ∧ a2 = 122) ∨ (kk = 2 ∧ a1 = 48 ∧ a2 = 57)) → ((a1 ≤ (if z < L then T z.toNat % 256 else -1) ∧ (if z < L then T z.toNat % 256 else -1) ≤ a2) ↔ kd T L z = kk) := by
    intro z a1 a2 kk z0 z1 hkk
    unfold kd
    by_cases u : z < L
    · have := hT.2 z z0 u
      rw [if_pos u, if_pos u]
      split
      · omega
      · split
        · omega
        · split <;> omega
    · rw [if_neg u, if_neg u]
      omega
  have rb : ∀ z : Int, 0 ≤ z → z ≤ 900 → -1 ≤ (if z < L then T z.toNat % 256 else -1) ∧ (if z < L then T z.toNat % 256 else -1) ≤ 255 := by
    intro z z0 z1
    split <;> omega
  refine rg_f ⟨by omega, by omega⟩ ⟨by decide, by decide⟩ ⟨by decide, by decide⟩ (fun c4 => ?_) (fun c4 => ?_)
  · -- letters
    have ek : k = 1 := by rw [hkc, if_pos (by omega)]
    obtain ⟨t8, t9, t10, t11⟩ := t7 (Or.inl ek)
    refine tt_nmE (fun Vc ec => ?_)
    refine tt_lp (I := fun V : Sz => (∀ j : Nat, j ≠ 20 → V j = Vc j) ∧ q ≤ V 20 0 ∧ V 20 0 ≤ e) (μ := fun V => (e - V 20 0).toNat) ?_ n Vc ⟨fun _ _ => rfl, by rw [ec, us_ne (by decide), b20]; exact ⟨Int.le_refl _, by omega⟩⟩ (by show (e - Vc 20 0).toNat < n; rw [ec, us_ne (by decide), b20]; omega)
    intro Vd rec2 ⟨dk, r0, r1⟩ ih2
    obtain ⟨z, ez⟩ : ∃ z : Int, z = Vd 20 0 := ⟨_, rfl⟩
    rw [← ez] at r0 r1
    have dk2 : ∀ j : Nat, j ≠ 20 → j ≠ 21 → j ≠ 22 → j ≠ 23 → Vd j = V0 j := fun j j20 j21 j22 j23 => by rw [dk j j20, ec, us_ne j23]; exact bk j j20 j21 j22
    have hBd : By T L Vd := by
      unfold By
      rw [dk2 15 (by decide) (by decide) (by decide) (by decide), dk2 14 (by decide) (by decide) (by decide) (by decide)]; exact hB
    rw [bX8_advanceToken_90_e, ← ez, x8_byteAt hT hBd (by omega) (by omega), bd_s]
    have hz := kdq z 97 122 1 (by omega) (by omega) (Or.inl ⟨rfl, rfl, rfl⟩)
    have hrb := rb z (by omega) (by omega)
    refine rg_f ⟨by omega, by omega⟩ ⟨by decide, by decide⟩ ⟨by decide, by decide⟩ (fun c5 => ?_) (fun c5 => ?_)
    · have c6 := hz.mp c5
      have hze : z < e := by
        by_cases u : z = e
        · rw [u] at c6; exact (t11 (by rw [c6, ek])).elim
        · omega
      refine tt_nmE (fun Ve ee => ?_)
      have x20 : Ve 20 0 = z + 1 := by rw [ee, us_at]
      exact ih2 Ve ⟨fun j j20 => by rw [ee, us_ne j20]; exact dk j j20, by omega, by omega⟩ (by show (e - Ve 20 0).toNat < (e - Vd 20 0).toNat; omega)
    · have hze : z = e := by
        by_cases u : z < e
        · exact (c5 (hz.mpr (by rw [t10 z r0 u, ek]))).elim
        · omega
      refine tt_some ⟨?_, by rw [← ez]; exact hze, ?_, ?_, dk2⟩
      · rw [dk 21 (by decide), ec, us_ne (by decide)]; exact b21
      · rw [dk 23 (by decide), ec, us_at, ek]
      · rw [dk 22 (by decide), ec, us_ne (by decide), b22]
        unfold valS
        rw [if_neg (by omega)]
  · refine rg_f ⟨by omega, by omega⟩ ⟨by decide, by decide⟩ ⟨by decide, by decide⟩ (fun c5 => ?_) (fun c5 => ?_)
    · -- digits
      have ek : k = 2 := by rw [hkc, if_neg (by omega), if_pos (by omega)]
      subst ek
      obtain ⟨t8, t9, t10, t11⟩ := t7 (Or.inr rfl)
      refine tt_nmE (fun Vc ec => ?_)
      refine tt_lp (I := fun V : Sz => (∀ j : Nat, j ≠ 20 → j ≠ 22 → V j = Vc j) ∧ (q ≤ V 20 0 ∧ V 20 0 ≤ e) ∧ V 22 0 = nv T q (min (V 20 0 - q) 6).toNat) (μ := fun V => (e - V 20 0).toNat) ?_ n Vc ⟨fun _ _ _ => rfl, ?_, ?_⟩ (by show (e - Vc 20 0).toNat < n; rw [ec, us_ne (by decide), b20]; omega)
      · intro Vd rec2 ⟨dk, ⟨r0, r1⟩, dv⟩ ih2
        obtain ⟨z, ez⟩ : ∃ z : Int, z = Vd 20 0 := ⟨_, rfl⟩
        rw [← ez] at r0 r1 dv
        have dk2 : ∀ j : Nat, j ≠ 20 → j ≠ 21 → j ≠ 22 → j ≠ 23 → Vd j = V0 j := fun j j20 j21 j22 j23 => by rw [dk j j20 j22, ec, us_ne j23]; exact bk j j20 j21 j22
        have hBd : By T L Vd := by
          unfold By
          rw [dk2 15 (by decide) (by decide) (by decide) (by decide), dk2 14 (by decide) (by decide) (by decide) (by decide)]; exact hB
        have d21 : Vd 21 0 = q := by rw [dk 21 (by decide) (by decide), ec, us_ne (by decide)]; exact b21
        rw [bX8_advanceToken_137_e, ← ez, x8_byteAt hT hBd (by omega) (by omega), bd_s, bd_s, d21]
        have hz := kdq z 48 57 2 (by omega) (by omega) (Or.inr ⟨rfl, rfl, rfl⟩)
        have hrb := rb z (by omega) (by omega)
        refine rg_f ⟨by omega, by omega⟩ ⟨by decide, by decide⟩ ⟨by decide, by decide⟩ (fun c6 => ?_) (fun c6 => ?_)
        · have c7 := hz.mp c6
          have hze : z < e := by
            by_cases u : z = e
            · rw [u] at c7; exact (t11 c7).elim
            · omega
          have hzL := (kd_two c7).1
          have next : ∀ Ve : Sz, (∀ j : Nat, j ≠ 22 → Ve j = Vd j) → Ve 22 0 = nv T q (min (z + 1 - q) 6).toNat → TT (jX8_advanceToken_192 n rec2 Ve) (fun V => V 21 0 = q ∧ V 20 0 = e ∧ V 23 0 = 2 ∧ V 22 0 = valS T q e 2 ∧ ∀ j : Nat, j ≠ 20 → j ≠ 21 → j ≠ 22 → j ≠ 23 → V j = V0 j) := by
            intro Ve hek hev
            unfold jX8_advanceToken_192
            refine tt_nmE (fun Vf ef => ?_)
            have f20 : Vf 20 0 = z + 1 := by rw [ef, us_at, hek 20 (by decide), ← ez]
            refine ih2 Vf ⟨fun j j20 j22 => by rw [ef, us_ne j20, hek j j22]; exact dk j j20 j22, ⟨by omega, by omega⟩, ?_⟩ (by show (e - Vf 20 0).toNat < (e - Vd 20 0).toNat; omega)
            rw [f20, ef, us_ne (by decide)]; exact hev
          refine tt_ck ⟨by omega, by omega⟩ (tt_ite (fun c8 => next Vd (fun _ _ => rfl) ?_) (fun c8 => tt_nmE (fun Ve ee => next Ve (fun j j22 => by rw [ee, us_ne j22]) ?_)))
          · rw [dv, show min (z - q) 6 = 6 by omega, show min (z + 1 - q) 6 = 6 by omega]
          · rw [ee, us_at, dv, if_pos hzL, show (min (z + 1 - q) 6).toNat = (min (z - q) 6).toNat + 1 by omega]
            show _ = 10 * nv T q (min (z - q) 6).toNat + T (q.toNat + (min (z - q) 6).toNat) - 48
            rw [show q.toNat + (min (z - q) 6).toNat = z.toNat by omega]
            have := (kd_two c7).2
            omega
        · have hze : z = e := by
            by_cases u : z < e
            · exact (c6 (hz.mpr (t10 z r0 u))).elim
            · omega
          refine tt_some ⟨d21, by rw [← ez]; exact hze, ?_, ?_, dk2⟩
          · rw [dk 23 (by decide) (by decide), ec, us_at]
          · unfold valS
            rw [dv, if_pos rfl, hze]
      · rw [ec, us_ne (by decide), b20]; exact ⟨Int.le_refl _, by omega⟩
      · rw [ec, us_ne (by decide), b22, us_ne (by decide), b20, show (min (q - q) 6).toNat = 0 by omega]; rfl
    · -- one byte
      have fin : ∀ z0 : Int, z0 = k → (k = 3 ∨ k = 4) → TT (jX8_advanceToken_217 n Vb z0) (fun V => V 21 0 = q ∧ V 20 0 = e ∧ V 23 0 = k ∧ V 22 0 = valS T q e k ∧ ∀ j : Nat, j ≠ 20 → j ≠ 21 → j ≠ 22 → j ≠ 23 → V j = V0 j) := by
        intro z0 ez0 h34
        unfold jX8_advanceToken_217
        refine tt_nmE (fun Vc ec => tt_nmE (fun Vd ed => tt_some ⟨?_, ?_, ?_, ?_, fun j j20 j21 j22 j23 => ?_⟩))
        · rw [ed, us_ne (by decide), ec, us_ne (by decide)]; exact b21
        · rw [ed, us_at, ec, us_ne (by decide), b20, t6 h34]
        · rw [ed, us_ne (by decide), ec, us_at, ez0]
        · rw [ed, us_ne (by decide), ec, us_ne (by decide), b22]
          unfold valS
          rw [if_neg (by omega)]
        · rw [ed, us_ne j20, ec, us_ne j23]; exact bk j j20 j21 j22
      rw [if_neg (by omega), if_neg (by omega)] at hkc
      refine tt_ite (fun c6 => fin 3 ?_ ?_) (fun c6 => fin 4 ?_ ?_)
      · rw [hkc, if_pos (by omega)]
      · left; rw [hkc, if_pos (by omega)]
      · rw [hkc, if_neg (by omega)]
      · right; rw [hkc, if_neg (by omega)]
