/-! TRUTHS as bits of a number -/
section G38
variable {σ τ : zH} {k q d : Nat} {a b : Nat → Int}
theorem zand_m1 {a : Nat} (ha : a < 2147483648) : zand (a : Int) (-1) = (a : Int) := by
  unfold zand
  refine bvI ?_ ha
  rw [Int32.toBitVec_and, BitVec.toNat_and, tb_nat (by omega), show (Int32.ofInt (-1)).toBitVec.toNat = 2 ^ 32 - 1 from rfl]
  exact Nat.and_two_pow_sub_one_of_lt_two_pow (by omega)
theorem zand_m2 {a : Nat} (ha : a < 2147483648) : zand (a : Int) (-2) = ((2 * (a / 2) : Nat) : Int) := by
  unfold zand
  have hr : a &&& 4294967294 = 2 * (a / 2) := by
    have h1 : (a &&& 4294967294) / 2 = a / 2 := by
      rw [Nat.and_div_two, show 4294967294 / 2 = 2 ^ 31 - 1 from rfl]
      exact Nat.and_two_pow_sub_one_of_lt_two_pow (by omega)
    have h2 : (a &&& 4294967294) % 2 = 0 := by
      have := Nat.and_mod_two_pow (a := a) (b := 4294967294) (n := 1)
      rw [show (2 : Nat) ^ 1 = 2 from rfl, show 4294967294 % 2 = 0 from rfl, Nat.and_zero] at this
      exact this
    omega
  refine bvI ?_ (by omega)
  rw [Int32.toBitVec_and, BitVec.toNat_and, tb_nat (by omega), show (Int32.ofInt (-2)).toBitVec.toNat = 4294967294 from rfl, hr]
/-- a truth is put on the others -/
theorem bit_push {N : Nat} {r : Int} (hN : N < 1048576) (hr : r = 0 ∨ r = 1) : zor (zshl (N : Int) 1) r = ((2 * N + r.toNat : Nat) : Int) := by
  have h1 := zshl_nat (a := N) (k := 1) (by decide) (by omega)
  rw [show ((1 : Nat) : Int) = 1 from rfl] at h1
  rw [h1, show r = ((r.toNat : Nat) : Int) by omega, zor_nat (by omega) (by omega)]
  have h2 := Nat.two_pow_add_eq_or_of_lt (i := 1) (b := r.toNat) (by omega) N
  rw [show N * 2 ^ 1 = 2 ^ 1 * N from Nat.mul_comm _ _, ← h2]
  rfl
/-- the latest two are one: or -/
theorem bit_or {N : Nat} (hN : N < 2097152) : zor (zushr (N : Int) 1) (zand (N : Int) 1) = ((N / 2 ||| N % 2 : Nat) : Int) := by
  have h1 := zushr_nat (a := N) (k := 1) (by omega) (by decide)
  rw [show ((1 : Nat) : Int) = 1 from rfl, show 2 ^ 1 = 2 from rfl] at h1
  have h2 : zand (N : Int) 1 = ((N % 2 : Nat) : Int) := by
    rw [show (1 : Int) = ((1 : Nat) : Int) from rfl, zand_nat (by omega) (by decide), show (1 : Nat) = 2 ^ 1 - 1 from rfl, Nat.and_two_pow_sub_one_eq_mod]
  rw [h1, h2, zor_nat (by omega) (by omega)]
/-- the latest two are one: and -/
theorem bit_and {N : Nat} (hN : N < 2097152) : zand (zushr (N : Int) 1) (zor (zand (N : Int) 1) (-2)) = ((if N % 2 = 1 then N / 2 else 2 * (N / 2 / 2) : Nat) : Int) := by
  have h1 := zushr_nat (a := N) (k := 1) (by omega) (by decide)
  rw [show ((1 : Nat) : Int) = 1 from rfl, show 2 ^ 1 = 2 from rfl] at h1
  have h2 : zand (N : Int) 1 = ((N % 2 : Nat) : Int) := by
    rw [show (1 : Int) = ((1 : Nat) : Int) from rfl, zand_nat (by omega) (by decide), show (1 : Nat) = 2 ^ 1 - 1 from rfl, Nat.and_two_pow_sub_one_eq_mod]
  rw [h1, h2]
  by_cases hq : N % 2 = 1
  · rw [hq, if_pos rfl, show zor ((1 : Nat) : Int) (-2) = -1 from by decide, zand_m1 (by omega)]
  · rw [show N % 2 = 0 by omega, if_neg (by decide), show zor ((0 : Nat) : Int) (-2) = -2 from by decide, zand_m2 (by omega)]
theorem bit_not {N : Nat} (hN : N < 2097152) : zxor (N : Int) 1 = ((N ^^^ 1 : Nat) : Int) := by
  rw [show (1 : Int) = ((1 : Nat) : Int) from rfl, zxor_nat (by omega) (by decide)]
end G38
