/-! NUMBERS of the pure machine where they are small -/
section NB
theorem w32_id {x : Int} (h1 : -2147483648 ≤ x) (h2 : x < 2147483648) : w32 x = x := by
  unfold w32
  exact Int.bmod_eq_of_le (by omega) (by omega)
theorem w64_id {x : Int} (h1 : -9223372036854775808 ≤ x) (h2 : x < 9223372036854775808) : w64 x = x := by
  unfold w64
  exact Int.bmod_eq_of_le (by omega) (by omega)
theorem w8_id {x : Int} (h1 : -128 ≤ x) (h2 : x < 128) : w8 x = x := by
  unfold w8
  exact Int.bmod_eq_of_le (by omega) (by omega)
theorem zin_t {i : Int} {n : Nat} (h1 : 0 ≤ i) (h2 : i < n) : zin i n = true := zin_iff.mpr ⟨h1, h2⟩
theorem znz_t {x : Int} (h : x ≠ 0) : znz x = true := by
  match x, h with
  | .ofNat 0, h => exact absurd rfl h
  | .ofNat (a + 1), _ => rfl
  | .negSucc a, _ => rfl
theorem zbl_t {x : Int} (h : x = 0 ∨ x = 1) : zbl x = true := by
  rcases h with rfl | rfl <;> rfl
theorem zcmp_0 {a b : Int} : zcmp a b = 0 ↔ a = b := by
  unfold zcmp
  by_cases h : b < a
  · rw [if_pos h]; constructor
    · intro q; cases q
    · intro q; omega
  · rw [if_neg h]
    by_cases h2 : a = b
    · rw [if_pos h2]; exact ⟨fun _ => h2, fun _ => rfl⟩
    · rw [if_neg h2]; constructor
      · intro q; cases q
      · intro q; exact absurd q h2
theorem bvI {x : Int32} {n : Nat} (h : x.toBitVec.toNat = n) (hn : n < 2147483648) : x.toInt = (n : Int) := by
  rw [← Int32.toInt_toBitVec, BitVec.toInt_eq_toNat_of_lt (by rw [h]; omega), h]
theorem tb_nat {a : Nat} (h : a < 4294967296) : (Int32.ofInt (a : Int)).toBitVec.toNat = a := by
  rw [Int32.toBitVec_ofInt, BitVec.ofInt_natCast, BitVec.toNat_ofNat]
  exact Nat.mod_eq_of_lt h
theorem zand_nat {a b : Nat} (ha : a < 2147483648) (hb : b < 2147483648) : zand (a : Int) (b : Int) = ((a &&& b : Nat) : Int) := by
  unfold zand
  refine bvI ?_ (Nat.lt_of_le_of_lt Nat.and_le_left ha)
  rw [Int32.toBitVec_and, BitVec.toNat_and, tb_nat (by omega), tb_nat (by omega)]
theorem zor_nat {a b : Nat} (ha : a < 2147483648) (hb : b < 2147483648) : zor (a : Int) (b : Int) = ((a ||| b : Nat) : Int) := by
  unfold zor
  refine bvI ?_ (Nat.or_lt_two_pow (n := 31) ha hb)
  rw [Int32.toBitVec_or, BitVec.toNat_or, tb_nat (by omega), tb_nat (by omega)]
theorem zxor_nat {a b : Nat} (ha : a < 2147483648) (hb : b < 2147483648) : zxor (a : Int) (b : Int) = ((a ^^^ b : Nat) : Int) := by
  unfold zxor
  refine bvI ?_ (Nat.xor_lt_two_pow (n := 31) ha hb)
  rw [Int32.toBitVec_xor, BitVec.toNat_xor, tb_nat (by omega), tb_nat (by omega)]
theorem sh_amt : ∀ k : Nat, k < 32 → ((Int32.ofInt (k : Int) &&& 31).toBitVec.smod 32).toNat = k := by decide +kernel
theorem sh_amtu : ∀ k : Nat, k < 32 → (((Int32.ofInt (k : Int)).toUInt32 &&& Int32.toUInt32 31).toBitVec % 32).toNat = k := by decide +kernel
theorem zshl_nat {a k : Nat} (hk : k < 32) (h : a * 2 ^ k < 2147483648) : zshl (a : Int) (k : Int) = ((a * 2 ^ k : Nat) : Int) := by
  unfold zshl
  have ha : a < 2147483648 := by
    have h1 : a * 1 ≤ a * 2 ^ k := Nat.mul_le_mul_left a (Nat.one_le_two_pow)
    omega
  refine bvI ?_ h
  rw [Int32.toBitVec_shiftLeft, BitVec.shiftLeft_eq', BitVec.toNat_shiftLeft, sh_amt k hk, tb_nat (by omega), Nat.shiftLeft_eq]
  exact Nat.mod_eq_of_lt (by omega)
theorem zshr_int {x : Int} {k : Nat} (hx : r32 x) (hk : k < 32) : zshr x (k : Int) = x / ((2 ^ k : Nat) : Int) := by
  unfold zshr
  rw [← Int32.toInt_toBitVec, Int32.toBitVec_shiftRight, BitVec.sshiftRight_eq', sh_amt k hk, BitVec.toInt_sshiftRight, Int32.toInt_toBitVec, to_of hx, Int.shiftRight_eq_div_pow]
theorem zushr_int {x : Int} {k : Nat} (hx : r32 x) (hk : k < 32) (h0 : 0 < k ∨ 0 ≤ x) : zushr x (k : Int) = (x % 4294967296) / ((2 ^ k : Nat) : Int) := by
  unfold zushr
  have hN : (Int32.ofInt x).toBitVec.toNat = (x % 4294967296).toNat := by
    rw [Int32.toBitVec_ofInt, BitVec.toNat_ofInt]
    rfl
  have hlt : (x % 4294967296).toNat < 4294967296 := by omega
  have hq : (x % 4294967296).toNat / 2 ^ k < 2147483648 := by
    rcases h0 with h0 | h0
    · obtain ⟨j, rfl⟩ : ∃ j, k = j + 1 := ⟨k - 1, by omega⟩
      rw [Nat.pow_succ, Nat.mul_comm, ← Nat.div_div_eq_div_mul]
      exact Nat.lt_of_le_of_lt (Nat.div_le_self _ _) (by omega)
    · have hx2 := hx.2
      exact Nat.lt_of_le_of_lt (Nat.div_le_self _ _) (by omega)
  rw [show ((Int32.ofInt x).toUInt32 >>> ((Int32.ofInt (k : Int)).toUInt32 &&& Int32.toUInt32 31)).toInt32.toInt = (((x % 4294967296).toNat / 2 ^ k : Nat) : Int) from ?_]
  · have h1 : ((x % 4294967296).toNat : Int) = x % 4294967296 := Int.toNat_of_nonneg (Int.emod_nonneg _ (by decide))
    rw [Int.natCast_ediv, h1]
  · refine bvI ?_ hq
    show ((Int32.ofInt x).toUInt32 >>> ((Int32.ofInt (k : Int)).toUInt32 &&& Int32.toUInt32 31)).toBitVec.toNat = _
    rw [UInt32.toBitVec_shiftRight, BitVec.ushiftRight_eq', BitVec.toNat_ushiftRight, sh_amtu k hk, Int32.toBitVec_toUInt32, hN, Nat.shiftRight_eq_div_pow]
theorem zushr_nat {a k : Nat} (ha : a < 2147483648) (hk : k < 32) : zushr (a : Int) (k : Int) = ((a / 2 ^ k : Nat) : Int) := by
  rw [zushr_int ⟨by omega, by omega⟩ hk (Or.inr (by omega)), Int.emod_eq_of_lt (by omega) (by omega), Int.natCast_ediv]
theorem zshr_nat {a k : Nat} (ha : a < 2147483648) (hk : k < 32) : zshr (a : Int) (k : Int) = ((a / 2 ^ k : Nat) : Int) := by
  rw [zshr_int ⟨by omega, by omega⟩ hk, Int.natCast_ediv]
theorem zand_mask {x : Int} (hx : r32 x) : zand x 255 = x % 256 := by
  unfold zand
  have h1 : (Int32.ofInt x &&& Int32.ofInt 255).toBitVec.toNat = (x % 256).toNat := by
    rw [Int32.toBitVec_and, BitVec.toNat_and, Int32.toBitVec_ofInt, BitVec.toNat_ofInt, Int32.toBitVec_ofInt, BitVec.toNat_ofInt]
    rw [show ((255 : Int) % ((2 ^ 32 : Nat) : Int)).toNat = 2 ^ 8 - 1 from rfl, Nat.and_two_pow_sub_one_eq_mod]
    show (x % 4294967296).toNat % 256 = _
    omega
  rw [bvI h1 (by omega)]
  omega
/-- a bit of a number -/
theorem zbit {a k : Nat} (ha : a < 2147483648) (hk : k < 32) : zand (zushr (a : Int) (k : Int)) 1 = if a.testBit k then 1 else 0 := by
  rw [zushr_nat ha hk]
  have h1 : a / 2 ^ k < 2147483648 := Nat.lt_of_le_of_lt (Nat.div_le_self _ _) ha
  rw [show (1 : Int) = ((1 : Nat) : Int) from rfl, zand_nat h1 (by decide), Nat.and_one_is_mod]
  rw [Nat.testBit_eq_decide_div_mod_eq]
  rcases Nat.mod_two_eq_zero_or_one (a / 2 ^ k) with h | h <;> simp [h]
theorem zbit2 {a k : Nat} (ha : a < 2147483648) (hk : k < 32) : zand (zshr (a : Int) (k : Int)) 1 = if a.testBit k then 1 else 0 := by
  rw [← zbit ha hk, zushr_nat ha hk, zshr_nat ha hk]
theorem zshl_1 {k : Nat} (hk : k < 31) : zshl 1 (k : Int) = ((2 ^ k : Nat) : Int) := by
  have h : 2 ^ k ≤ 2 ^ 30 := Nat.pow_le_pow_right (by decide) (by omega)
  have h2 := zshl_nat (a := 1) (k := k) (by omega) (by rw [Nat.one_mul]; omega)
  rw [Nat.one_mul] at h2
  exact h2
-- heaps
theorem zk {σ : zH} {k i : Nat} {v : Int} {k' : Nat} (h : k' ≠ k) : zset σ k i v k' = σ k' := by
  funext i'
  exact if_neg (fun c => h c.1)
theorem zi {σ : zH} {k i : Nat} {v : Int} {i' : Nat} (h : i' ≠ i) : zset σ k i v k i' = σ k i' := if_neg (fun c => h c.2)
theorem zs {σ : zH} {k i : Nat} {v : Int} : zset σ k i v k i = v := if_pos ⟨rfl, rfl⟩
theorem zcpk {σ : zH} {s sp d dp n k' : Nat} (h : k' ≠ d) : zcp σ s sp d dp n k' = σ k' := by
  funext i'
  exact if_neg (fun c => h c.1)
theorem zcpi {σ : zH} {s d n i' : Nat} (h : i' < n) : zcp σ s 0 d 0 n d i' = σ s i' := by
  rw [show zcp σ s 0 d 0 n d i' = σ s (0 + (i' - 0)) from if_pos ⟨rfl, Nat.zero_le _, by omega⟩]
  congr 1
  omega
end NB
