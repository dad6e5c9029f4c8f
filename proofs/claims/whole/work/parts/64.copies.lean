/-! COPIES of names, countries and sentences -/
section G34
variable {σ τ : zH} {k q d : Nat} {a b : Nat → Int}
theorem c_copyN {k0 k1 : Nat} (hd : k0 + 4 ≤ k1 ∨ k1 + 4 ≤ k0) : ∃ σ', f_Names_copyFrom σ k0 k1 = some (σ', 0) ∧ (∀ j, ¬ (k0 ≤ j ∧ j ≤ k0 + 3) → σ' j = σ j) ∧ (∀ j i, 1 ≤ j → j ≤ 3 → i < 30 → σ' (k0 + j) i = σ (k1 + j) i) ∧ σ' k0 3 = σ k1 3 := by
  rw [e_Names_copyFrom]
  obtain ⟨ρ1, h1⟩ : ∃ ρ, zcp σ (k1 + 1) 0 (k0 + 1) 0 30 = ρ := ⟨_, rfl⟩
  rw [h1]
  obtain ⟨ρ2, h2⟩ : ∃ ρ, zcp ρ1 (k1 + 2) 0 (k0 + 2) 0 30 = ρ := ⟨_, rfl⟩
  rw [h2]
  obtain ⟨ρ3, h3⟩ : ∃ ρ, zcp ρ2 (k1 + 3) 0 (k0 + 3) 0 30 = ρ := ⟨_, rfl⟩
  rw [h3]
  have f1 : ∀ j, j ≠ k0 + 1 → ρ1 j = σ j := fun j hj => by rw [← h1, zcpk hj]
  have f2 : ∀ j, j ≠ k0 + 2 → ρ2 j = ρ1 j := fun j hj => by rw [← h2, zcpk hj]
  have f3 : ∀ j, j ≠ k0 + 3 → ρ3 j = ρ2 j := fun j hj => by rw [← h3, zcpk hj]
  refine ⟨_, rfl, fun j hj => ?_, fun j i j0 j1 hi => ?_, ?_⟩
  · rw [zk (by omega), f3 j (by omega), f2 j (by omega), f1 j (by omega)]
  · rw [zk (by omega)]
    have hj : j = 1 ∨ j = 2 ∨ j = 3 := by omega
    rcases hj with rfl | rfl | rfl
    · rw [f3 _ (by omega), f2 _ (by omega), ← h1, zcpi hi]
    · rw [f3 _ (by omega), ← h2, zcpi hi, f1 _ (by omega)]
    · rw [← h3, zcpi hi, f2 _ (by omega), f1 _ (by omega)]
  · rw [zs, f3 _ (by omega), f2 _ (by omega), f1 _ (by omega)]
theorem c_copyS {k0 k1 : Nat} (hd : k0 + 4 ≤ k1 ∨ k1 + 4 ≤ k0) : ∃ σ', f_Sentence_copyFrom σ k0 k1 = some (σ', 0) ∧ (∀ j, ¬ (k0 ≤ j ∧ j ≤ k0 + 3) → σ' j = σ j) ∧ (∀ j i, 1 ≤ j → j ≤ 3 → i < 40 → σ' (k0 + j) i = σ (k1 + j) i) ∧ σ' k0 3 = σ k1 3 ∧ σ' k0 4 = σ k1 4 := by
  rw [e_Sentence_copyFrom]
  obtain ⟨ρ1, h1⟩ : ∃ ρ, zcp σ (k1 + 1) 0 (k0 + 1) 0 40 = ρ := ⟨_, rfl⟩
  rw [h1]
  obtain ⟨ρ2, h2⟩ : ∃ ρ, zcp ρ1 (k1 + 2) 0 (k0 + 2) 0 40 = ρ := ⟨_, rfl⟩
  rw [h2]
  obtain ⟨ρ3, h3⟩ : ∃ ρ, zcp ρ2 (k1 + 3) 0 (k0 + 3) 0 40 = ρ := ⟨_, rfl⟩
  rw [h3]
  obtain ⟨ρ4, h4⟩ : ∃ ρ, zset ρ3 k0 3 (ρ3 k1 3) = ρ := ⟨_, rfl⟩
  rw [h4]
  have f1 : ∀ j, j ≠ k0 + 1 → ρ1 j = σ j := fun j hj => by rw [← h1, zcpk hj]
  have f2 : ∀ j, j ≠ k0 + 2 → ρ2 j = ρ1 j := fun j hj => by rw [← h2, zcpk hj]
  have f3 : ∀ j, j ≠ k0 + 3 → ρ3 j = ρ2 j := fun j hj => by rw [← h3, zcpk hj]
  have f4 : ∀ j, j ≠ k0 → ρ4 j = ρ3 j := fun j hj => by rw [← h4, zk hj]
  refine ⟨_, rfl, fun j hj => ?_, fun j i j0 j1 hi => ?_, ?_, ?_⟩
  · rw [zk (by omega), f4 j (by omega), f3 j (by omega), f2 j (by omega), f1 j (by omega)]
  · rw [zk (by omega), f4 _ (by omega)]
    have hj : j = 1 ∨ j = 2 ∨ j = 3 := by omega
    rcases hj with rfl | rfl | rfl
    · rw [f3 _ (by omega), f2 _ (by omega), ← h1, zcpi hi]
    · rw [f3 _ (by omega), ← h2, zcpi hi, f1 _ (by omega)]
    · rw [← h3, zcpi hi, f2 _ (by omega), f1 _ (by omega)]
  · rw [zi (by decide), ← h4, zs, f3 _ (by omega), f2 _ (by omega), f1 _ (by omega)]
  · rw [zs, f4 _ (by omega), f3 _ (by omega), f2 _ (by omega), f1 _ (by omega)]
/-- how much of each row of a country is copied -/
def cpl (j : Nat) : Nat := if j = 2 then 10 else if j ≤ 6 then 8 else if j = 7 then 96 else if j ≤ 9 then 6 else if j = 10 then 60 else 6
theorem c_copyC {k0 k1 : Nat} (hd : k0 + 36 ≤ k1 ∨ k1 + 36 ≤ k0) : ∃ σ', f_Country_copyFrom σ k0 k1 = some (σ', 0) ∧ (∀ j, ¬ (k0 ≤ j ∧ j ≤ k0 + 13) → ¬ (k0 + 32 ≤ j ∧ j ≤ k0 + 35) → σ' j = σ j) ∧ (∀ j i, 2 ≤ j → j ≤ 13 → i < cpl j → σ' (k0 + j) i = σ (k1 + j) i) ∧ (∀ i, 13 ≤ i → i ≤ 18 → σ' k0 i = σ k1 i) ∧ (∀ j i, 1 ≤ j → j ≤ 3 → i < 30 → σ' (k0 + 32 + j) i = σ (k1 + 32 + j) i) ∧ σ' (k0 + 32) 3 = σ (k1 + 32) 3 := by
  obtain ⟨ρ0, n1, n2, n3, n4⟩ := c_copyN (σ := σ) (k0 := k0 + 32) (k1 := k1 + 32) (by omega)
  rw [e_Country_copyFrom, n1, Option.bind_some]
  dsimp only
  obtain ⟨ρ1, h1⟩ : ∃ ρ, zcp ρ0 (k1 + 2) 0 (k0 + 2) 0 10 = ρ := ⟨_, rfl⟩
  rw [h1]
  obtain ⟨ρ2, h2⟩ : ∃ ρ, zcp ρ1 (k1 + 3) 0 (k0 + 3) 0 8 = ρ := ⟨_, rfl⟩
  rw [h2]
  obtain ⟨ρ3, h3⟩ : ∃ ρ, zcp ρ2 (k1 + 4) 0 (k0 + 4) 0 8 = ρ := ⟨_, rfl⟩
  rw [h3]
  obtain ⟨ρ4, h4⟩ : ∃ ρ, zcp ρ3 (k1 + 5) 0 (k0 + 5) 0 8 = ρ := ⟨_, rfl⟩
  rw [h4]
  obtain ⟨ρ5, h5⟩ : ∃ ρ, zcp ρ4 (k1 + 6) 0 (k0 + 6) 0 8 = ρ := ⟨_, rfl⟩
  rw [h5]
  obtain ⟨ρ6, h6⟩ : ∃ ρ, zcp ρ5 (k1 + 7) 0 (k0 + 7) 0 96 = ρ := ⟨_, rfl⟩
  rw [h6]
  obtain ⟨ρ7, h7⟩ : ∃ ρ, zcp ρ6 (k1 + 8) 0 (k0 + 8) 0 6 = ρ := ⟨_, rfl⟩
  rw [h7]
  obtain ⟨ρ8, h8⟩ : ∃ ρ, zcp ρ7 (k1 + 9) 0 (k0 + 9) 0 6 = ρ := ⟨_, rfl⟩
  rw [h8]
  obtain ⟨ρ9, h9⟩ : ∃ ρ, zcp ρ8 (k1 + 10) 0 (k0 + 10) 0 60 = ρ := ⟨_, rfl⟩
  rw [h9]
  obtain ⟨ρ10, h10⟩ : ∃ ρ, zcp ρ9 (k1 + 11) 0 (k0 + 11) 0 6 = ρ := ⟨_, rfl⟩
  rw [h10]
  obtain ⟨ρ11, h11⟩ : ∃ ρ, zcp ρ10 (k1 + 12) 0 (k0 + 12) 0 6 = ρ := ⟨_, rfl⟩
  rw [h11]
  obtain ⟨ρ12, h12⟩ : ∃ ρ, zcp ρ11 (k1 + 13) 0 (k0 + 13) 0 6 = ρ := ⟨_, rfl⟩
  rw [h12]
  obtain ⟨ρ13, h13⟩ : ∃ ρ, zset ρ12 k0 13 (ρ12 k1 13) = ρ := ⟨_, rfl⟩
  rw [h13]
  obtain ⟨ρ14, h14⟩ : ∃ ρ, zset ρ13 k0 14 (ρ13 k1 14) = ρ := ⟨_, rfl⟩
  rw [h14]
  obtain ⟨ρ15, h15⟩ : ∃ ρ, zset ρ14 k0 15 (ρ14 k1 15) = ρ := ⟨_, rfl⟩
  rw [h15]
  obtain ⟨ρ16, h16⟩ : ∃ ρ, zset ρ15 k0 16 (ρ15 k1 16) = ρ := ⟨_, rfl⟩
  rw [h16]
  obtain ⟨ρ17, h17⟩ : ∃ ρ, zset ρ16 k0 17 (ρ16 k1 17) = ρ := ⟨_, rfl⟩
  rw [h17]
  have f1 : ∀ j, j ≠ k0 + 2 → ρ1 j = ρ0 j := fun j hj => by rw [← h1, zcpk hj]
  have f2 : ∀ j, j ≠ k0 + 3 → ρ2 j = ρ1 j := fun j hj => by rw [← h2, zcpk hj]
  have f3 : ∀ j, j ≠ k0 + 4 → ρ3 j = ρ2 j := fun j hj => by rw [← h3, zcpk hj]
  have f4 : ∀ j, j ≠ k0 + 5 → ρ4 j = ρ3 j := fun j hj => by rw [← h4, zcpk hj]
  have f5 : ∀ j, j ≠ k0 + 6 → ρ5 j = ρ4 j := fun j hj => by rw [← h5, zcpk hj]
  have f6 : ∀ j, j ≠ k0 + 7 → ρ6 j = ρ5 j := fun j hj => by rw [← h6, zcpk hj]
  have f7 : ∀ j, j ≠ k0 + 8 → ρ7 j = ρ6 j := fun j hj => by rw [← h7, zcpk hj]
  have f8 : ∀ j, j ≠ k0 + 9 → ρ8 j = ρ7 j := fun j hj => by rw [← h8, zcpk hj]
  have f9 : ∀ j, j ≠ k0 + 10 → ρ9 j = ρ8 j := fun j hj => by rw [← h9, zcpk hj]
  have f10 : ∀ j, j ≠ k0 + 11 → ρ10 j = ρ9 j := fun j hj => by rw [← h10, zcpk hj]
  have f11 : ∀ j, j ≠ k0 + 12 → ρ11 j = ρ10 j := fun j hj => by rw [← h11, zcpk hj]
  have f12 : ∀ j, j ≠ k0 + 13 → ρ12 j = ρ11 j := fun j hj => by rw [← h12, zcpk hj]
  have f13 : ∀ j, j ≠ k0 → ρ13 j = ρ12 j := fun j hj => by rw [← h13, zk hj]
  have f14 : ∀ j, j ≠ k0 → ρ14 j = ρ13 j := fun j hj => by rw [← h14, zk hj]
  have f15 : ∀ j, j ≠ k0 → ρ15 j = ρ14 j := fun j hj => by rw [← h15, zk hj]
  have f16 : ∀ j, j ≠ k0 → ρ16 j = ρ15 j := fun j hj => by rw [← h16, zk hj]
  have f17 : ∀ j, j ≠ k0 → ρ17 j = ρ16 j := fun j hj => by rw [← h17, zk hj]
  have src : ∀ j, k1 ≤ j → j ≤ k1 + 13 → ρ0 j = σ j ∧ ρ1 j = σ j ∧ ρ2 j = σ j ∧ ρ3 j = σ j ∧ ρ4 j = σ j ∧ ρ5 j = σ j ∧ ρ6 j = σ j ∧ ρ7 j = σ j ∧ ρ8 j = σ j ∧ ρ9 j = σ j ∧ ρ10 j = σ j ∧ ρ11 j = σ j ∧ ρ12 j = σ j ∧ ρ13 j = σ j ∧ ρ14 j = σ j ∧ ρ15 j = σ j ∧ ρ16 j = σ j ∧ ρ17 j = σ j := fun j j0 j1 => by
    have e0 : ρ0 j = σ j := n2 j (by omega)
    have e1 : ρ1 j = σ j := by rw [f1 j (by omega), e0]
    have e2 : ρ2 j = σ j := by rw [f2 j (by omega), e1]
    have e3 : ρ3 j = σ j := by rw [f3 j (by omega), e2]
    have e4 : ρ4 j = σ j := by rw [f4 j (by omega), e3]
    have e5 : ρ5 j = σ j := by rw [f5 j (by omega), e4]
    have e6 : ρ6 j = σ j := by rw [f6 j (by omega), e5]
    have e7 : ρ7 j = σ j := by rw [f7 j (by omega), e6]
    have e8 : ρ8 j = σ j := by rw [f8 j (by omega), e7]
    have e9 : ρ9 j = σ j := by rw [f9 j (by omega), e8]
    have e10 : ρ10 j = σ j := by rw [f10 j (by omega), e9]
    have e11 : ρ11 j = σ j := by rw [f11 j (by omega), e10]
    have e12 : ρ12 j = σ j := by rw [f12 j (by omega), e11]
    have e13 : ρ13 j = σ j := by rw [f13 j (by omega), e12]
    have e14 : ρ14 j = σ j := by rw [f14 j (by omega), e13]
    have e15 : ρ15 j = σ j := by rw [f15 j (by omega), e14]
    have e16 : ρ16 j = σ j := by rw [f16 j (by omega), e15]
    have e17 : ρ17 j = σ j := by rw [f17 j (by omega), e16]
    exact ⟨e0, e1, e2, e3, e4, e5, e6, e7, e8, e9, e10, e11, e12, e13, e14, e15, e16, e17⟩
  refine ⟨_, rfl, fun j hj hj2 => ?_, fun j i j0 j1 hi => ?_, fun i i0 i1 => ?_, fun j i j0 j1 hi => ?_, ?_⟩
  · rw [zk (by omega), f17 j (by omega), f16 j (by omega), f15 j (by omega), f14 j (by omega), f13 j (by omega), f12 j (by omega), f11 j (by omega), f10 j (by omega), f9 j (by omega), f8 j (by omega), f7 j (by omega), f6 j (by omega), f5 j (by omega), f4 j (by omega), f3 j (by omega), f2 j (by omega), f1 j (by omega), n2 j (by omega)]
  · rw [zk (by omega), f17 _ (by omega), f16 _ (by omega), f15 _ (by omega), f14 _ (by omega), f13 _ (by omega)]
    obtain ⟨e0, e1, e2, e3, e4, e5, e6, e7, e8, e9, e10, e11, e12, e13, e14, e15, e16, e17⟩ := src (k1 + j) (by omega) (by omega)
    have hj : j = 2 ∨ j = 3 ∨ j = 4 ∨ j = 5 ∨ j = 6 ∨ j = 7 ∨ j = 8 ∨ j = 9 ∨ j = 10 ∨ j = 11 ∨ j = 12 ∨ j = 13 := by omega
    rcases hj with rfl | rfl | rfl | rfl | rfl | rfl | rfl | rfl | rfl | rfl | rfl | rfl
    · rw [f12 _ (by omega), f11 _ (by omega), f10 _ (by omega), f9 _ (by omega), f8 _ (by omega), f7 _ (by omega), f6 _ (by omega), f5 _ (by omega), f4 _ (by omega), f3 _ (by omega), f2 _ (by omega), ← h1, zcpi (show i < 10 from hi), e0]
    · rw [f12 _ (by omega), f11 _ (by omega), f10 _ (by omega), f9 _ (by omega), f8 _ (by omega), f7 _ (by omega), f6 _ (by omega), f5 _ (by omega), f4 _ (by omega), f3 _ (by omega), ← h2, zcpi (show i < 8 from hi), e1]
    · rw [f12 _ (by omega), f11 _ (by omega), f10 _ (by omega), f9 _ (by omega), f8 _ (by omega), f7 _ (by omega), f6 _ (by omega), f5 _ (by omega), f4 _ (by omega), ← h3, zcpi (show i < 8 from hi), e2]
    · rw [f12 _ (by omega), f11 _ (by omega), f10 _ (by omega), f9 _ (by omega), f8 _ (by omega), f7 _ (by omega), f6 _ (by omega), f5 _ (by omega), ← h4, zcpi (show i < 8 from hi), e3]
    · rw [f12 _ (by omega), f11 _ (by omega), f10 _ (by omega), f9 _ (by omega), f8 _ (by omega), f7 _ (by omega), f6 _ (by omega), ← h5, zcpi (show i < 8 from hi), e4]
    · rw [f12 _ (by omega), f11 _ (by omega), f10 _ (by omega), f9 _ (by omega), f8 _ (by omega), f7 _ (by omega), ← h6, zcpi (show i < 96 from hi), e5]
    · rw [f12 _ (by omega), f11 _ (by omega), f10 _ (by omega), f9 _ (by omega), f8 _ (by omega), ← h7, zcpi (show i < 6 from hi), e6]
    · rw [f12 _ (by omega), f11 _ (by omega), f10 _ (by omega), f9 _ (by omega), ← h8, zcpi (show i < 6 from hi), e7]
    · rw [f12 _ (by omega), f11 _ (by omega), f10 _ (by omega), ← h9, zcpi (show i < 60 from hi), e8]
    · rw [f12 _ (by omega), f11 _ (by omega), ← h10, zcpi (show i < 6 from hi), e9]
    · rw [f12 _ (by omega), ← h11, zcpi (show i < 6 from hi), e10]
    · rw [← h12, zcpi (show i < 6 from hi), e11]
  · obtain ⟨e0, e1, e2, e3, e4, e5, e6, e7, e8, e9, e10, e11, e12, e13, e14, e15, e16, e17⟩ := src k1 (by omega) (by omega)
    have hi : i = 13 ∨ i = 14 ∨ i = 15 ∨ i = 16 ∨ i = 17 ∨ i = 18 := by omega
    rcases hi with rfl | rfl | rfl | rfl | rfl | rfl
    · rw [zi (by decide), ← h17, zi (by decide), ← h16, zi (by decide), ← h15, zi (by decide), ← h14, zi (by decide), ← h13, zs, e12]
    · rw [zi (by decide), ← h17, zi (by decide), ← h16, zi (by decide), ← h15, zi (by decide), ← h14, zs, e13]
    · rw [zi (by decide), ← h17, zi (by decide), ← h16, zi (by decide), ← h15, zs, e14]
    · rw [zi (by decide), ← h17, zi (by decide), ← h16, zs, e15]
    · rw [zi (by decide), ← h17, zs, e16]
    · rw [zs, e17]
  · rw [zk (by omega), f17 _ (by omega), f16 _ (by omega), f15 _ (by omega), f14 _ (by omega), f13 _ (by omega), f12 _ (by omega), f11 _ (by omega), f10 _ (by omega), f9 _ (by omega), f8 _ (by omega), f7 _ (by omega), f6 _ (by omega), f5 _ (by omega), f4 _ (by omega), f3 _ (by omega), f2 _ (by omega), f1 _ (by omega)]
    exact n3 j i j0 j1 hi
  · rw [zk (by omega), f17 _ (by omega), f16 _ (by omega), f15 _ (by omega), f14 _ (by omega), f13 _ (by omega), f12 _ (by omega), f11 _ (by omega), f10 _ (by omega), f9 _ (by omega), f8 _ (by omega), f7 _ (by omega), f6 _ (by omega), f5 _ (by omega), f4 _ (by omega), f3 _ (by omega), f2 _ (by omega), f1 _ (by omega)]
    exact n4
end G34
