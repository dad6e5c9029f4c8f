/-! A STACK of truths on both sides -/
section G39
variable {σ τ : zH} {k q d : Nat} {a b : Nat → Int}
/-- the bits of N, the latest lowest, are the first m truths -/
def TruR (N m : Nat) (τ : zH) : Prop := N < 2 ^ m ∧ ∀ j, j < m → (τ 43 j = 0 ∨ τ 43 j = 1) ∧ (N.testBit (m - 1 - j) = true ↔ τ 43 j = 1)
theorem TruR.push {N m : Nat} {r : Int} {τ' : zH} (h : TruR N m τ) (hr : r = 0 ∨ r = 1) (h1 : τ' 43 m = r) (h2 : ∀ j, j ≠ m → τ' 43 j = τ 43 j) : TruR (2 * N + r.toNat) (m + 1) τ' := by
  obtain ⟨g1, g2⟩ := h
  refine ⟨by rw [Nat.pow_succ]; omega, fun j hj => ?_⟩
  by_cases hjm : j = m
  · rw [hjm, h1, show m + 1 - 1 - m = 0 by omega, Nat.testBit_zero]
    refine ⟨hr, ?_⟩
    rw [decide_eq_true_iff]
    omega
  · rw [h2 j hjm, show m + 1 - 1 - j = (m - 1 - j) + 1 by omega, Nat.testBit_succ, show (2 * N + r.toNat) / 2 = N by omega]
    exact g2 j (by omega)
theorem TruR.low {N m : Nat} (h : TruR N (m + 1) τ) : (τ 43 m = 0 ∨ τ 43 m = 1) ∧ (N % 2 = 1 ↔ τ 43 m = 1) ∧ TruR (N / 2) m τ := by
  obtain ⟨g1, g2⟩ := h
  have g3 := g2 m (by omega)
  rw [show m + 1 - 1 - m = 0 by omega, Nat.testBit_zero, decide_eq_true_iff] at g3
  refine ⟨g3.1, g3.2, by rw [Nat.pow_succ] at g1; omega, fun j hj => ?_⟩
  have g4 := g2 j (by omega)
  rw [show m + 1 - 1 - j = (m - 1 - j) + 1 by omega, Nat.testBit_succ] at g4
  exact g4
/-- the latest truth is other -/
theorem TruR.top {N m : Nat} {r : Int} {τ' : zH} (h : TruR N (m + 1) τ) (hr : r = 0 ∨ r = 1) (h1 : τ' 43 m = r) (h2 : ∀ j, j < m → τ' 43 j = τ 43 j) : TruR (2 * (N / 2) + r.toNat) (m + 1) τ' := by
  obtain ⟨-, -, g⟩ := h.low
  have hp := TruR.push (τ' := fun j i => if j = 43 then (if i = m then r else τ 43 i) else τ j i) g hr (by simp) (fun j hj => by simp [hj])
  refine ⟨hp.1, fun j hj => ?_⟩
  have h9 := hp.2 j hj
  by_cases hjm : j = m
  · rw [hjm, h1]
    rw [hjm] at h9
    simpa using h9
  · rw [h2 j (by omega)]
    simpa [hjm] using h9
theorem tru_not {N m : Nat} {τ' : zH} (h : TruR N (m + 1) τ) (h1 : τ' 43 m = if τ 43 m = 0 then 1 else 0) (h2 : ∀ j, j < m → τ' 43 j = τ 43 j) : TruR (N ^^^ 1) (m + 1) τ' := by
  obtain ⟨l1, l2, -⟩ := h.low
  have hx : N ^^^ 1 = 2 * (N / 2) + (if τ 43 m = 0 then 1 else 0 : Int).toNat := by
    have a1 : (N ^^^ 1) / 2 = N / 2 := by rw [Nat.xor_div_two]; simp
    have a2 : (N ^^^ 1) % 2 = (N % 2 + 1) % 2 := by
      have := Nat.xor_mod_two_pow (a := N) (b := 1) (n := 1)
      rw [show (2 : Nat) ^ 1 = 2 from rfl] at this
      rw [this]
      rcases Nat.mod_two_eq_zero_or_one N with e | e
      · rw [e]; rfl
      · rw [e]; rfl
    split <;> omega
  rw [hx]
  exact h.top (by split <;> simp) h1 h2
/-- the latest two become one -/
theorem tru_two {N m : Nat} {r : Int} {τ' : zH} (h : TruR N (m + 2) τ) (hr : r = 0 ∨ r = 1) (h1 : τ' 43 m = r) (h2 : ∀ j, j < m → τ' 43 j = τ 43 j) : TruR (2 * (N / 2 / 2) + r.toNat) (m + 1) τ' := by
  obtain ⟨-, -, g⟩ := h.low
  exact g.top hr h1 h2
theorem tru_or {N m : Nat} (h : TruR N (m + 2) τ) : (N / 2 ||| N % 2) = 2 * (N / 2 / 2) + (if τ 43 m = 1 ∨ τ 43 (m + 1) = 1 then 1 else 0 : Int).toNat := by
  obtain ⟨l1, l2, g⟩ := h.low
  obtain ⟨l3, l4, -⟩ := g.low
  have a1 : (N / 2 ||| N % 2) / 2 = N / 2 / 2 := by rw [Nat.or_div_two, show N % 2 / 2 = 0 by omega, Nat.or_zero]
  have a2 : (N / 2 ||| N % 2) % 2 = if N / 2 % 2 = 1 ∨ N % 2 = 1 then 1 else 0 := by
    have := Nat.or_mod_two_pow (a := N / 2) (b := N % 2) (n := 1)
    rw [show (2 : Nat) ^ 1 = 2 from rfl, Nat.mod_mod] at this
    rw [this]
    rcases Nat.mod_two_eq_zero_or_one N with e | e <;> rcases Nat.mod_two_eq_zero_or_one (N / 2) with f | f <;> rw [e, f] <;> rfl
  by_cases hc : τ 43 m = 1 ∨ τ 43 (m + 1) = 1
  · rw [if_pos hc]
    rw [if_pos (by rcases hc with hc | hc; exact Or.inl (l4.mpr hc); exact Or.inr (l2.mpr hc))] at a2
    show _ = 2 * (N / 2 / 2) + 1
    omega
  · rw [if_neg hc]
    rw [if_neg (fun y => hc (by rcases y with y | y; exact Or.inl (l4.mp y); exact Or.inr (l2.mp y)))] at a2
    show _ = 2 * (N / 2 / 2) + 0
    omega
theorem tru_and {N m : Nat} (h : TruR N (m + 2) τ) : (if N % 2 = 1 then N / 2 else 2 * (N / 2 / 2)) = 2 * (N / 2 / 2) + (if τ 43 m = 1 ∧ τ 43 (m + 1) = 1 then 1 else 0 : Int).toNat := by
  obtain ⟨l1, l2, g⟩ := h.low
  obtain ⟨l3, l4, -⟩ := g.low
  by_cases hN : N % 2 = 1
  · rw [if_pos hN]
    by_cases hM : N / 2 % 2 = 1
    · rw [if_pos ⟨l4.mp hM, l2.mp hN⟩]
      show _ = 2 * (N / 2 / 2) + 1
      omega
    · rw [if_neg (fun y => hM (l4.mpr y.1))]
      show _ = 2 * (N / 2 / 2) + 0
      omega
  · rw [if_neg hN, if_neg (fun y => hN (l2.mpr y.2))]
    rfl
end G39
