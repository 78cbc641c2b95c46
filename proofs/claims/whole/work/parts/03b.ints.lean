/-! ints as whole numbers: every value is the image of an integer; sums and products need no bound, comparisons do -/
def vI (x : Int) : Value := .int (Int32.ofInt x)
def vL (x : Int) : Value := .long (Int64.ofInt x)
def aI (T : Nat → Int) : Nat → Int32 := fun i => Int32.ofInt (T i)
def aL (T : Nat → Int) : Nat → Int64 := fun i => Int64.ofInt (T i)
abbrev rng (x : Int) : Prop := -2147483648 ≤ x ∧ x < 2147483648
abbrev rngL (x : Int) : Prop := -9223372036854775808 ≤ x ∧ x < 9223372036854775808
abbrev inZ (i : Int) (n : Nat) : Prop := 0 ≤ i ∧ i < (n : Int)
abbrev Sz : Type := Nat → Nat → Int
def up (T : Nat → Int) (k : Nat) (x : Int) : Nat → Int := fun j => if j = k then x else T j
def uz (V : Sz) (k : Nat) (i : Nat) (x : Int) : Sz := fun j => if j = k then up (V k) i x else V j
def uy (V : Sz) (k : Nat) (f : Nat → Int) : Sz := fun j => if j = k then f else V j
def bI (b : Bool) : Int := if b = true then 1 else 0
theorem oI_toInt {x : Int} (h : rng x) : (Int32.ofInt x).toInt = x := Int32.toInt_ofInt_of_le (by omega) (by omega)
theorem oL_toInt {x : Int} (h : rngL x) : (Int64.ofInt x).toInt = x := Int64.toInt_ofInt_of_le (by omega) (by omega)
theorem oI_lt {x y : Int} (h : rng x ∧ rng y) : Int32.ofInt x < Int32.ofInt y ↔ x < y := by rw [Int32.lt_iff_toInt_lt, oI_toInt h.1, oI_toInt h.2]
theorem oI_le {x y : Int} (h : rng x ∧ rng y) : Int32.ofInt x ≤ Int32.ofInt y ↔ x ≤ y := by rw [Int32.le_iff_toInt_le, oI_toInt h.1, oI_toInt h.2]
theorem oI_eq {x y : Int} (h : rng x ∧ rng y) : Int32.ofInt x = Int32.ofInt y ↔ x = y := by rw [← Int32.toInt_inj, oI_toInt h.1, oI_toInt h.2]
theorem oL_eq {x y : Int} (h : rngL x ∧ rngL y) : Int64.ofInt x = Int64.ofInt y ↔ x = y := by rw [← Int64.toInt_inj, oL_toInt h.1, oL_toInt h.2]
theorem rng0 : rng 0 := by decide
theorem oI_idx {x : Int} {n : Nat} (h : inZ x n) (hn : n ≤ 2147483648) : inb (Int32.ofInt x) n ∧ (Int32.ofInt x).toNatClampNeg = x.toNat := by
  have e := oI_toInt (x := x) (by omega)
  refine ⟨⟨by omega, by omega⟩, ?_⟩
  show (Int32.ofInt x).toInt.toNat = x.toNat
  rw [e]
theorem aI_up (T : Nat → Int) (k : Nat) (x : Int) : upd (aI T) k (Int32.ofInt x) = aI (up T k x) := by
  funext j
  show (if j = k then Int32.ofInt x else Int32.ofInt (T j)) = Int32.ofInt (if j = k then x else T j)
  split <;> rfl
theorem aL_up (T : Nat → Int) (k : Nat) (x : Int) : vp_updL (aL T) k (Int64.ofInt x) = aL (up T k x) := by
  funext j
  show (if j = k then Int64.ofInt x else Int64.ofInt (T j)) = Int64.ofInt (if j = k then x else T j)
  split <;> rfl
abbrev dvI (x y : Int) : Prop := 0 ≤ x ∧ x < 2147483648 ∧ 0 < y ∧ y < 2147483648
theorem oI_ne0 {y : Int} (h : 0 < y ∧ y < 2147483648) : ¬ Int32.ofInt y = 0 := fun q => by
  have h0 : (Int32.ofInt y).toInt = 0 := by rw [q]; rfl
  rw [oI_toInt (by omega)] at h0
  omega
theorem oI_div {x y : Int} (h : dvI x y) : Int32.ofInt x / Int32.ofInt y = Int32.ofInt (x / y) := by
  have hx := oI_toInt (x := x) (by omega)
  have hy := oI_toInt (x := y) (by omega)
  have h1 : 0 ≤ x / y := Int.ediv_nonneg (by omega) (by omega)
  have h2 : x / y ≤ x := Int.ediv_le_self _ (by omega)
  rw [← Int32.toInt_inj, Int32.toInt_div_of_ne_right _ _ (fun q => by rw [q] at hy; rw [show (-1 : Int32).toInt = -1 from rfl] at hy; omega), hx, hy, oI_toInt (by omega), Int.tdiv_eq_ediv_of_nonneg (by omega)]
theorem oI_rem {x y : Int} (h : dvI x y) : Int32.ofInt x - Int32.ofInt x / Int32.ofInt y * Int32.ofInt y = Int32.ofInt (x % y) := by
  rw [oI_div h, ← Int32.ofInt_mul, ← Int32.ofInt_sub, Int.emod_def, Int.mul_comm]
theorem oI_and_pow (x : Int) (k : Nat) (h : k ≤ 31) : Int32.ofInt x &&& Int32.ofInt (2 ^ k - 1) = Int32.ofInt (x % 2 ^ k) := by
  have hp : (2 : Nat) ^ k ≤ 2 ^ 31 := Nat.pow_le_pow_right (by omega) h
  have hp0 : 0 < (2 : Nat) ^ k := Nat.pow_pos (by omega)
  have ec : ((2 : Int) ^ k) = ((2 ^ k : Nat) : Int) := by simp
  apply Int32.toBitVec.inj
  show BitVec.ofInt 32 x &&& BitVec.ofInt 32 (2 ^ k - 1) = BitVec.ofInt 32 (x % 2 ^ k)
  apply BitVec.eq_of_toNat_eq
  rw [BitVec.toNat_and, BitVec.toNat_ofInt, BitVec.toNat_ofInt, BitVec.toNat_ofInt, ec]
  have e1 : ((((2 ^ k : Nat) : Int) - 1) % ((2 ^ 32 : Nat) : Int)).toNat = 2 ^ k - 1 := by
    have : (((2 ^ k : Nat) : Int) - 1) % ((2 ^ 32 : Nat) : Int) = ((2 ^ k : Nat) : Int) - 1 := Int.emod_eq_of_lt (by omega) (by omega)
    rw [this]; omega
  rw [e1, Nat.and_two_pow_sub_one_eq_mod]
  have hd : ((2 ^ k : Nat) : Int) ∣ ((2 ^ 32 : Nat) : Int) := by
    exact Int.ofNat_dvd.mpr (Nat.pow_dvd_pow 2 (by omega))
  have h3 : 0 ≤ x % ((2 ^ k : Nat) : Int) := Int.emod_nonneg _ (by omega)
  have h4 : x % ((2 ^ k : Nat) : Int) < ((2 ^ k : Nat) : Int) := Int.emod_lt_of_pos _ (by omega)
  have h5 : 0 ≤ x % ((2 ^ 32 : Nat) : Int) := Int.emod_nonneg _ (by omega)
  apply Int.ofNat.inj
  show (((x % ((2 ^ 32 : Nat) : Int)).toNat % 2 ^ k : Nat) : Int) = (((x % ((2 ^ k : Nat) : Int)) % ((2 ^ 32 : Nat) : Int)).toNat : Int)
  rw [Int.toNat_of_nonneg (Int.emod_nonneg _ (by omega)), Int.emod_eq_of_lt h3 (by omega), Int.natCast_emod, Int.toNat_of_nonneg h5, Int.emod_emod_of_dvd _ hd]
theorem oI_and255 (x : Int) : Int32.ofInt x &&& Int32.ofInt 255 = Int32.ofInt (x % 256) := oI_and_pow x 8 (by omega)
theorem oI_and31 (x : Int) : Int32.ofInt x &&& Int32.ofInt 2147483647 = Int32.ofInt (x % 2147483648) := oI_and_pow x 31 (by omega)
theorem oI_i2b (x : Int) : (Int32.ofInt x).toInt8.toInt32 = Int32.ofInt ((x + 128) % 256 - 128) := by
  rw [Int32.toInt8_ofInt, ← Int32.toInt_inj, Int8.toInt_toInt32, Int8.toInt_ofInt, oI_toInt (by omega)]
  show x.bmod 256 = _
  rw [Int.bmod_def]
  split <;> omega
theorem oI_i2l {x : Int} (h : rng x) : (Int32.ofInt x).toInt64 = Int64.ofInt x := by
  rw [← Int64.toInt_inj, Int32.toInt_toInt64, oI_toInt h, oL_toInt (by omega)]
def shX (x : Int) (k : Int) : Int := if k = 24 then x / 16777216 else if k = 16 then x / 65536 else if k = 8 then x / 256 else x
theorem oI_shr {x k : Int} (h : rng x ∧ (k = 24 ∨ k = 16 ∨ k = 8 ∨ k = 0)) : Int32.ofInt x >>> (Int32.ofInt k &&& 31) = Int32.ofInt (shX x k) := by
  obtain ⟨hx, hk⟩ := h
  have base : ∀ (n : Nat) (hn : n ≤ 24), (Int32.ofInt x >>> Int32.ofNat n) = Int32.ofInt (x / 2 ^ n) := by
    intro n hn
    apply Int32.toBitVec.inj
    rw [Int32.toBitVec_shiftRight]
    apply BitVec.eq_of_toInt_eq
    have hs : ((Int32.ofNat n).toBitVec.smod 32) = BitVec.ofNat 32 n := by
      have : ∀ m : Fin 25, ((Int32.ofNat m).toBitVec.smod 32) = BitVec.ofNat 32 m := by decide +kernel
      exact this ⟨n, by omega⟩
    rw [hs, BitVec.sshiftRight_eq', BitVec.toNat_ofNat, Nat.mod_eq_of_lt (by omega), BitVec.toInt_sshiftRight]
    show (Int32.ofInt x).toInt >>> n = (Int32.ofInt (x / 2 ^ n)).toInt
    rw [oI_toInt hx, Int.shiftRight_eq_div_pow]
    have hp : (0 : Int) < 2 ^ n := Int.pow_pos (by omega)
    have l1 : x / 2 ^ n < 2147483648 := by
      by_cases h0 : 0 ≤ x
      · have := Int.ediv_le_self (2 ^ n) h0; omega
      · have : x / 2 ^ n < 0 := Int.ediv_neg_of_neg_of_pos (by omega) hp
        omega
    have l2 : -2147483648 ≤ x / 2 ^ n := by
      apply Int.le_ediv_of_mul_le hp
      have : (1 : Int) ≤ 2 ^ n := hp
      have h9 : (-2147483648 : Int) * 2 ^ n ≤ -2147483648 * 1 := Int.mul_le_mul_of_nonpos_left (by omega) this
      omega
    rw [oI_toInt ⟨l2, l1⟩]
    rfl
  rcases hk with rfl | rfl | rfl | rfl
  · have := base 24 (by omega); exact this
  · have := base 16 (by omega); exact this
  · have := base 8 (by omega); exact this
  · have := base 0 (by omega)
    have e : x / 2 ^ 0 = shX x 0 := by simp [shX]
    rw [← e]; exact this
theorem oL_shl8 (x : Int) : Int64.ofInt x <<< ((Int32.ofInt 8).toInt64 &&& 63) = Int64.ofInt (x * 256) := by
  have e : ((Int32.ofInt 8).toInt64 &&& 63) = 8 := by decide
  rw [e]
  apply Int64.toBitVec.inj
  rw [Int64.toBitVec_shiftLeft]
  have e2 : ((8 : Int64).toBitVec.smod 64) = 8#64 := by decide
  rw [e2]
  show BitVec.ofInt 64 x <<< 8 = BitVec.ofInt 64 (x * 256)
  rw [BitVec.shiftLeft_eq_mul_twoPow, BitVec.ofInt_mul]
  rfl
theorem oL_or {x y : Int} (h : 0 ≤ x ∧ x < 9223372036854775808 ∧ x % 256 = 0 ∧ 0 ≤ y ∧ y < 256) : Int64.ofInt x ||| Int64.ofInt y = Int64.ofInt (x + y) := by
  obtain ⟨h1, h2, h3, h4, h5⟩ := h
  apply Int64.toBitVec.inj
  show BitVec.ofInt 64 x ||| BitVec.ofInt 64 y = BitVec.ofInt 64 (x + y)
  apply BitVec.eq_of_toNat_eq
  rw [BitVec.toNat_or, BitVec.toNat_ofInt, BitVec.toNat_ofInt, BitVec.toNat_ofInt]
  have e1 : (x % ((2 ^ 64 : Nat) : Int)).toNat = (x / 256).toNat <<< 8 := by rw [Nat.shiftLeft_eq]; omega
  have e2 : (y % ((2 ^ 64 : Nat) : Int)).toNat = y.toNat := by omega
  have e3 : ((x + y) % ((2 ^ 64 : Nat) : Int)).toNat = (x / 256).toNat <<< 8 + y.toNat := by rw [Nat.shiftLeft_eq]; omega
  rw [e1, e2, e3, Nat.shiftLeft_add_eq_or_of_lt (by omega)]
theorem zjoinA {D : va_G} {cl : List vw_C} {A w0 w1 : va_W} {H H1 : Heap} (hP : va_P D cl (A ++ w0) H) (hD : va_D (fun _ => True) (A ++ w0)) (hk : ∀ q : Nat, q < H.size → ¬ zF w0 q → H1[q]? = H[q]?) (hP1 : va_P D cl w1 H1) : va_P D cl (A ++ w1) H1 := by
  intro k q hq
  by_cases hlt : k < A.length
  · rw [List.getElem?_append_left hlt] at hq
    have h1 : (A ++ w0)[k]? = some q := by rw [List.getElem?_append_left hlt]; exact hq
    refine (hP k q h1).kept (hk q.1 (hP k q h1).lt ?_)
    rintro ⟨j, e, hj⟩
    have h2 : (A ++ w0)[A.length + j]? = some (q.1, e) := by rw [List.getElem?_append_right (by omega)]; simpa using hj
    have h3 := hD.1 k (A.length + j) q (q.1, e) h1 h2 rfl
    omega
  · rw [List.getElem?_append_right (by omega)] at hq
    exact hP1 _ q hq
