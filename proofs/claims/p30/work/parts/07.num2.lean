/-! more on ints -/
theorem wk_div {x y : Int32} (hx : 0 ≤ x.toInt) (hy : 0 < y.toInt) : (x / y).toInt = x.toInt / y.toInt := by
  have h1 := wk_i32 x
  have h2 : x.toInt / y.toInt ≤ x.toInt := Int.ediv_le_self _ hx
  have h3 : 0 ≤ x.toInt / y.toInt := Int.ediv_nonneg hx (Int.le_of_lt hy)
  rw [Int32.toInt_div, Int.tdiv_eq_ediv_of_nonneg hx]
  exact Int.bmod_eq_of_le (by omega) (by omega)
theorem wk_rem {x y : Int32} (hx : 0 ≤ x.toInt) (hy : 0 < y.toInt) : (x - x / y * y).toInt = x.toInt % y.toInt := by
  have h1 := wk_i32 x
  have h2 : x.toInt / y.toInt * y.toInt ≤ x.toInt := Int.ediv_mul_le _ (by omega)
  have h3 : 0 ≤ x.toInt / y.toInt * y.toInt := Int.mul_nonneg (Int.ediv_nonneg hx (Int.le_of_lt hy)) (Int.le_of_lt hy)
  have e := wk_div hx hy
  have e2 : (x / y * y).toInt = x.toInt / y.toInt * y.toInt := by rw [wk_mul (by rw [e]; omega) (by rw [e]; omega), e]
  rw [wk_sub (by rw [e2]; omega) (by rw [e2]; omega), e2, Int.emod_def, Int.mul_comm]
theorem wk_remR {x y : Int32} (hx : 0 ≤ x.toInt) (hy : 0 < y.toInt) : 0 ≤ (x - x / y * y).toInt ∧ (x - x / y * y).toInt < y.toInt := by
  rw [wk_rem hx hy]; exact ⟨Int.emod_nonneg _ (by omega), Int.emod_lt_of_pos _ hy⟩
theorem wk_i64 (x : Int64) : -9223372036854775808 ≤ x.toInt ∧ x.toInt ≤ 9223372036854775807 := ⟨Int64.le_toInt x, Int.le_of_lt_add_one (Int64.toInt_lt x)⟩
theorem wk_addl {x y : Int64} (h1 : -9223372036854775808 ≤ x.toInt + y.toInt) (h2 : x.toInt + y.toInt ≤ 9223372036854775807) : (x + y).toInt = x.toInt + y.toInt := by
  rw [Int64.toInt_add]; exact Int.bmod_eq_of_le (by omega) (by omega)
theorem wk_subl {x y : Int64} (h1 : -9223372036854775808 ≤ x.toInt - y.toInt) (h2 : x.toInt - y.toInt ≤ 9223372036854775807) : (x - y).toInt = x.toInt - y.toInt := by
  rw [Int64.toInt_sub]; exact Int.bmod_eq_of_le (by omega) (by omega)
theorem wk_mull {x y : Int64} (h1 : -9223372036854775808 ≤ x.toInt * y.toInt) (h2 : x.toInt * y.toInt ≤ 9223372036854775807) : (x * y).toInt = x.toInt * y.toInt := by
  rw [Int64.toInt_mul]; exact Int.bmod_eq_of_le (by omega) (by omega)
theorem wk_divl {x y : Int64} (hx : 0 ≤ x.toInt) (hy : 0 < y.toInt) : (x / y).toInt = x.toInt / y.toInt := by
  have h1 := wk_i64 x
  have h2 : x.toInt / y.toInt ≤ x.toInt := Int.ediv_le_self _ hx
  have h3 : 0 ≤ x.toInt / y.toInt := Int.ediv_nonneg hx (Int.le_of_lt hy)
  rw [Int64.toInt_div, Int.tdiv_eq_ediv_of_nonneg hx]
  exact Int.bmod_eq_of_le (by omega) (by omega)
theorem wk_reml {x y : Int64} (hx : 0 ≤ x.toInt) (hy : 0 < y.toInt) : (x - x / y * y).toInt = x.toInt % y.toInt := by
  have h1 := wk_i64 x
  have h2 : x.toInt / y.toInt * y.toInt ≤ x.toInt := Int.ediv_mul_le _ (by omega)
  have h3 : 0 ≤ x.toInt / y.toInt * y.toInt := Int.mul_nonneg (Int.ediv_nonneg hx (Int.le_of_lt hy)) (Int.le_of_lt hy)
  have e := wk_divl hx hy
  have e2 : (x / y * y).toInt = x.toInt / y.toInt * y.toInt := by rw [wk_mull (by rw [e]; omega) (by rw [e]; omega), e]
  rw [wk_subl (by rw [e2]; omega) (by rw [e2]; omega), e2, Int.emod_def, Int.mul_comm]
theorem wk_l2i {x : Int64} (h1 : -2147483648 ≤ x.toInt) (h2 : x.toInt ≤ 2147483647) : x.toInt32.toInt = x.toInt := by
  rw [Int64.toInt_toInt32]; exact Int.bmod_eq_of_le (by omega) (by omega)
theorem wk_bv (x : Int32) : x.toInt = if 2 * x.toBitVec.toNat < 2 ^ 32 then (x.toBitVec.toNat : Int) else (x.toBitVec.toNat : Int) - (2 ^ 32 : Nat) := by
  show x.toBitVec.toInt = _
  rw [BitVec.toInt_eq_toNat_cond]
theorem wk_bvp {x : Int32} (h : 0 ≤ x.toInt) : x.toInt = (x.toBitVec.toNat : Int) ∧ x.toBitVec.toNat < 2147483648 := by
  have h1 := wk_bv x
  have h2 := x.toBitVec.isLt
  split at h1 <;> omega
theorem wk_bvi {x : Int32} (h : x.toBitVec.toNat < 2147483648) : x.toInt = (x.toBitVec.toNat : Int) := by
  have h1 := wk_bv x
  split at h1 <;> omega
theorem wk_and {x y : Int32} (hy : 0 ≤ y.toInt) : 0 ≤ (x &&& y).toInt ∧ (x &&& y).toInt ≤ y.toInt := by
  obtain ⟨e1, e2⟩ := wk_bvp hy
  have e3 : (x &&& y).toBitVec.toNat = x.toBitVec.toNat &&& y.toBitVec.toNat := by
    rw [Int32.toBitVec_and, BitVec.toNat_and]
  have e4 : x.toBitVec.toNat &&& y.toBitVec.toNat ≤ y.toBitVec.toNat := Nat.and_le_right
  have e5 := wk_bvi (x := x &&& y) (by omega)
  omega
theorem wk_andC {x y : Int32} (hx : 0 ≤ x.toInt) : 0 ≤ (x &&& y).toInt ∧ (x &&& y).toInt ≤ x.toInt := by
  obtain ⟨e1, e2⟩ := wk_bvp hx
  have e3 : (x &&& y).toBitVec.toNat = x.toBitVec.toNat &&& y.toBitVec.toNat := by
    rw [Int32.toBitVec_and, BitVec.toNat_and]
  have e4 : x.toBitVec.toNat &&& y.toBitVec.toNat ≤ x.toBitVec.toNat := Nat.and_le_left
  have e5 := wk_bvi (x := x &&& y) (by omega)
  omega
theorem wk_or {x y : Int32} (k : Nat) (hk : (2 : Nat) ^ k ≤ 2147483648) (hx0 : 0 ≤ x.toInt) (hx : x.toInt < (2 ^ k : Nat)) (hy0 : 0 ≤ y.toInt) (hy : y.toInt < (2 ^ k : Nat)) : 0 ≤ (x ||| y).toInt ∧ (x ||| y).toInt < (2 ^ k : Nat) := by
  obtain ⟨e1, e2⟩ := wk_bvp hx0
  obtain ⟨f1, f2⟩ := wk_bvp hy0
  have e3 : (x ||| y).toBitVec.toNat = x.toBitVec.toNat ||| y.toBitVec.toNat := by
    rw [Int32.toBitVec_or, BitVec.toNat_or]
  have e4 : x.toBitVec.toNat ||| y.toBitVec.toNat < 2 ^ k := Nat.or_lt_two_pow (by omega) (by omega)
  have e5 := wk_bvi (x := x ||| y) (by omega)
  omega
theorem wk_nI {y : Int32} (h : 0 ≤ y.toInt) : y = Int32.ofInt (y.toInt.toNat : Int) := by
  have e : (y.toInt.toNat : Int) = y.toInt := by omega
  rw [e]; exact (Int32.ofInt_toInt y).symm
theorem wk_shlt : ∀ j : Nat, j < 31 → ((1 : Int32) <<< (Int32.ofInt (j : Int) &&& 31)).toInt = (2 ^ j : Nat) := by decide
theorem wk_shl1 {y : Int32} (n : Nat) (hn : n ≤ 30) (h0 : 0 ≤ y.toInt) (h1 : y.toInt ≤ n) : 1 ≤ ((1 : Int32) <<< (y &&& 31)).toInt ∧ ((1 : Int32) <<< (y &&& 31)).toInt ≤ (2 ^ n : Nat) := by
  have e := wk_shlt y.toInt.toNat (by omega)
  rw [← wk_nI h0] at e
  rw [e]
  have h2 : 2 ^ y.toInt.toNat ≤ 2 ^ n := Nat.pow_le_pow_right (by omega) (by omega)
  have h3 : 1 ≤ 2 ^ y.toInt.toNat := Nat.one_le_two_pow
  omega
theorem wk_shr {x y : Int32} (hx : 0 ≤ x.toInt) : 0 ≤ (x >>> (y &&& 31)).toInt ∧ (x >>> (y &&& 31)).toInt ≤ x.toInt := by
  have e : (x >>> (y &&& 31)).toInt = x.toInt >>> ((y &&& 31).toBitVec.smod 32).toNat := by
    show (x.toBitVec.sshiftRight' _).toInt = _
    rw [BitVec.sshiftRight', BitVec.toInt_sshiftRight]
    rfl
  rw [e, Int.shiftRight_eq_div_pow]
  exact ⟨Int.ediv_nonneg hx (by first | exact Int.le_of_lt (Int.pow_pos (by decide)) | exact Int.pow_nonneg (by decide) | exact_mod_cast Nat.zero_le _), Int.ediv_le_self _ hx⟩
theorem wk_mulR {x y : Int32} {a b c d : Int} (h1 : 0 ≤ x.toInt) (h2 : x.toInt ≤ a) (h3 : 0 ≤ y.toInt) (h4 : y.toInt ≤ b) (h5 : a * b ≤ 2147483647) : 0 ≤ (x * y).toInt ∧ (x * y).toInt ≤ a * b := by
  have g1 : x.toInt * y.toInt ≤ a * b := Int.mul_le_mul h2 h4 h3 (by omega)
  have g2 : 0 ≤ x.toInt * y.toInt := Int.mul_nonneg h1 h3
  rw [wk_mul (by omega) (by omega)]; exact ⟨g2, g1⟩
theorem wk_divB {x y : Int32} {m n : Int} (hy : 0 < y.toInt) (hm : 0 ≤ m) (hn : 0 ≤ n) (h1 : -m ≤ x.toInt) (h2 : x.toInt ≤ n) : -(m / y.toInt) ≤ (x / y).toInt ∧ (x / y).toInt ≤ n / y.toInt := by
  have hb := wk_i32 x
  rcases Int.le_total 0 x.toInt with h | h
  · rw [wk_div h hy]
    have e1 : x.toInt / y.toInt ≤ n / y.toInt := Int.ediv_le_ediv hy h2
    have e2 : 0 ≤ x.toInt / y.toInt := Int.ediv_nonneg h (Int.le_of_lt hy)
    have e3 : 0 ≤ m / y.toInt := Int.ediv_nonneg hm (Int.le_of_lt hy)
    omega
  · have e0 : x.toInt.tdiv y.toInt = -((-x.toInt) / y.toInt) := by
      rw [← Int.tdiv_eq_ediv_of_nonneg (by omega), Int.neg_tdiv, Int.neg_neg]
    have e1 : (-x.toInt) / y.toInt ≤ m / y.toInt := Int.ediv_le_ediv hy (by omega)
    have e2 : 0 ≤ (-x.toInt) / y.toInt := Int.ediv_nonneg (by omega) (Int.le_of_lt hy)
    have e3 : 0 ≤ n / y.toInt := Int.ediv_nonneg hn (Int.le_of_lt hy)
    have e4 : (-x.toInt) / y.toInt ≤ -x.toInt := Int.ediv_le_self _ (by omega)
    rw [Int32.toInt_div, e0, Int.bmod_eq_of_le (by omega) (by omega)]
    omega
theorem wk_max {x y : Int32} : ((if x < y then y else x).toInt = x.toInt ∧ y.toInt ≤ x.toInt) ∨ ((if x < y then y else x).toInt = y.toInt ∧ x.toInt < y.toInt) := by
  by_cases h : x < y
  · rw [if_pos h]; exact Or.inr ⟨rfl, wk_lt.mp h⟩
  · rw [if_neg h]; exact Or.inl ⟨rfl, wk_ltF h⟩
theorem wk_min {x y : Int32} : ((if y < x then y else x).toInt = x.toInt ∧ x.toInt ≤ y.toInt) ∨ ((if y < x then y else x).toInt = y.toInt ∧ y.toInt < x.toInt) := by
  by_cases h : y < x
  · rw [if_pos h]; exact Or.inr ⟨rfl, wk_lt.mp h⟩
  · rw [if_neg h]; exact Or.inl ⟨rfl, wk_ltF h⟩
theorem wk_bv64 (x : Int64) : x.toInt = if 2 * x.toBitVec.toNat < 2 ^ 64 then (x.toBitVec.toNat : Int) else (x.toBitVec.toNat : Int) - (2 ^ 64 : Nat) := by
  show x.toBitVec.toInt = _
  rw [BitVec.toInt_eq_toNat_cond]
theorem wk_andl {x y : Int64} (hy : 0 ≤ y.toInt) : 0 ≤ (x &&& y).toInt ∧ (x &&& y).toInt ≤ y.toInt := by
  have e1 := wk_bv64 y
  have e2 := y.toBitVec.isLt
  have e3 : (x &&& y).toBitVec.toNat = x.toBitVec.toNat &&& y.toBitVec.toNat := by
    rw [Int64.toBitVec_and, BitVec.toNat_and]
  have e4 : x.toBitVec.toNat &&& y.toBitVec.toNat ≤ y.toBitVec.toNat := Nat.and_le_right
  have e5 := wk_bv64 (x &&& y)
  split at e1 <;> split at e5 <;> omega
theorem wk_ceT {x y : Int64} (h : lg_cmp x y = 0) : x.toInt = y.toInt := by
  have h1 : ¬ lg_cmp x y < 0 := by rw [h]; decide
  have h2 : ¬ 0 < lg_cmp x y := by rw [h]; decide
  have h3 := wk_cltF h1
  have h4 := wk_cgtF h2
  omega
theorem wk_ceF {x y : Int64} (h : ¬ lg_cmp x y = 0) : ¬ x.toInt = y.toInt := by
  intro e
  refine h (wk_eq.mpr ?_)
  have h1 : ¬ lg_cmp x y < 0 := wk_cltN (by omega)
  have h2 : ¬ 0 < lg_cmp x y := wk_cgtN (by omega)
  have h3 := wk_ltF h1
  have h4 := wk_ltF h2
  have h5 : (0 : Int32).toInt = 0 := by decide
  omega
theorem wk_orL {x y : Int32} (k : Nat) (hk : (2 : Nat) ^ k ≤ 2147483648) (hx0 : 0 ≤ x.toInt) (hx : x.toInt < (2 ^ k : Nat)) (hy0 : 0 ≤ y.toInt) (hy : y.toInt < (2 ^ k : Nat)) : x.toInt ≤ (x ||| y).toInt ∧ y.toInt ≤ (x ||| y).toInt := by
  obtain ⟨e1, e2⟩ := wk_bvp hx0
  obtain ⟨f1, f2⟩ := wk_bvp hy0
  have e3 : (x ||| y).toBitVec.toNat = x.toBitVec.toNat ||| y.toBitVec.toNat := by
    rw [Int32.toBitVec_or, BitVec.toNat_or]
  have e4 : x.toBitVec.toNat ||| y.toBitVec.toNat < 2 ^ k := Nat.or_lt_two_pow (by omega) (by omega)
  have e5 := wk_bvi (x := x ||| y) (by omega)
  have e6 : x.toBitVec.toNat ≤ x.toBitVec.toNat ||| y.toBitVec.toNat := Nat.left_le_or
  have e7 : y.toBitVec.toNat ≤ x.toBitVec.toNat ||| y.toBitVec.toNat := Nat.right_le_or
  omega
