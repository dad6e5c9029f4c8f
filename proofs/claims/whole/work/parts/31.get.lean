/-! SMALL METHODS of the reference, closed; a country in its row -/
section G1
theorem ifc {c d : Prop} [Decidable c] [Decidable d] {α : Type} {a b : α} (h : c ↔ d) : (if c then a else b) = if d then a else b := by
  by_cases hc : c
  · rw [if_pos hc, if_pos (h.mp hc)]
  · rw [if_neg hc, if_neg (fun q => hc (h.mpr q))]
theorem m_isIn (σ : zH) (v lo hi : Int) : f_M_isIn σ v lo hi = some (σ, if lo ≤ v ∧ v ≤ hi then 1 else 0) := by
  rw [e_M_isIn]
  by_cases h1 : v < lo
  · rw [if_pos h1, if_neg (by omega)]
  · by_cases h2 : hi < v
    · rw [if_neg h1, if_pos h2, if_neg (by omega)]
    · rw [if_neg h1, if_neg h2, if_pos (by omega)]
/-- what is so of a country -/
def wfC (a : Nat → Int) : Prop := (0 ≤ a 0 ∧ a 0 ≤ 10) ∧ (0 ≤ a 1 ∧ a 1 ≤ 8) ∧ (0 ≤ a 2 ∧ a 2 ≤ 6) ∧ (0 ≤ a 3 ∧ a 3 ≤ 20) ∧ (0 ≤ a 4 ∧ a 4 ≤ 6) ∧ (0 ≤ a 5 ∧ a 5 ≤ 12)
def wfT (a : Nat → Int) : Prop := ∀ t : Int, 0 ≤ t → t < a 0 → 0 ≤ a (Int.toNat (6 + t)) ∧ a (Int.toNat (6 + t)) ≤ 3
def wfR (a : Nat → Int) : Prop := ∀ r : Int, 0 ≤ r → r < a 1 → (1 ≤ a (Int.toNat (16 + r)) ∧ a (Int.toNat (16 + r)) ≤ 9) ∧ (-1 ≤ a (Int.toNat (24 + r)) ∧ a (Int.toNat (24 + r)) < r) ∧ (0 ≤ a (Int.toNat (32 + r)) ∧ a (Int.toNat (32 + r)) ≤ 8) ∧ (0 ≤ a (Int.toNat (40 + r)) ∧ a (Int.toNat (40 + r)) ≤ 12)
def wfS (a : Nat → Int) : Prop := ∀ r j : Int, 0 ≤ r → r < a 1 → 0 ≤ j → j < a (Int.toNat (40 + r)) → 0 ≤ a (Int.toNat (48 + 12 * r + j)) ∧ a (Int.toNat (48 + 12 * r + j)) < a 0
def wfF (a : Nat → Int) : Prop := (∀ q : Int, 0 ≤ q → q < a 1 → 0 ≤ a (Int.toNat (24 + q)) → 1 ≤ a (Int.toNat (32 + a (Int.toNat (24 + q)))) ∧ a (Int.toNat (40 + a (Int.toNat (24 + q)))) = 0) ∧ ∀ q1 q2 : Int, 0 ≤ q1 → q1 < q2 → q2 < a 1 → 0 ≤ a (Int.toNat (24 + q1)) → a (Int.toNat (24 + q1)) = a (Int.toNat (24 + q2)) → 2 ≤ a (Int.toNat (32 + a (Int.toNat (24 + q1))))
def wfE (a : Nat → Int) : Prop := (∀ e : Int, 0 ≤ e → e < a 2 → (0 ≤ a (Int.toNat (144 + e)) ∧ a (Int.toNat (144 + e)) < a 1) ∧ 0 ≤ a (Int.toNat (150 + e)) ∧ a (Int.toNat (150 + e)) < a (Int.toNat (16 + a (Int.toNat (144 + e))))) ∧ (∀ e f : Int, 0 ≤ e → e < f → f < a 2 → ¬ (a (Int.toNat (144 + e)) = a (Int.toNat (144 + f)) ∧ a (Int.toNat (150 + e)) = a (Int.toNat (150 + f)))) ∧
  ∀ e t : Int, 0 ≤ e → e < a 2 → 0 ≤ t → t < 10 → 0 ≤ a (Int.toNat (156 + 10 * e + t)) ∧ a (Int.toNat (156 + 10 * e + t)) < 2 + a 0 ∧ a (Int.toNat (156 + 10 * e + t)) ≠ 2 + t
def wfW (a : Nat → Int) : Prop := (∀ t : Int, 0 ≤ t → t < a 4 → (0 ≤ a (Int.toNat (216 + t)) ∧ a (Int.toNat (216 + t)) < a 1) ∧ 0 ≤ a (Int.toNat (222 + t)) ∧ a (Int.toNat (222 + t)) < a (Int.toNat (16 + a (Int.toNat (216 + t))))) ∧
  ∀ t m : Int, 0 ≤ t → t < a 4 → 0 ≤ m → m < 10 → 0 ≤ a (Int.toNat (228 + 10 * t + m)) ∧ a (Int.toNat (228 + 10 * t + m)) ≤ 1
def wfL (a : Nat → Int) : Prop := wfC a ∧ wfT a ∧ wfR a ∧ wfS a ∧ wfF a ∧ wfE a ∧ wfW a
variable {σ : zH}
theorem m_isTerm (h : wfC (σ 7)) (t : Int) : f_M_isTerm σ t = some (σ, if 0 ≤ t ∧ t < σ 7 0 then 1 else 0) := by
  obtain ⟨h1, h2, h3, h4, h5, h6⟩ := h
  rw [e_M_isTerm, w32_id (by omega) (by omega), m_isIn]
  simp only [Option.bind_some]
  congr 2
  exact ifc (by omega)
theorem m_isReach (h : wfC (σ 7)) (t : Int) : f_M_isReach σ t = some (σ, if 0 ≤ t ∧ t < σ 7 1 then 1 else 0) := by
  obtain ⟨h1, h2, h3, h4, h5, h6⟩ := h
  rw [e_M_isReach, w32_id (by omega) (by omega), m_isIn]
  simp only [Option.bind_some]
  congr 2
  exact ifc (by omega)
theorem m_isEditor (h : wfC (σ 7)) (t : Int) : f_M_isEditor σ t = some (σ, if 0 ≤ t ∧ t < σ 7 2 then 1 else 0) := by
  obtain ⟨h1, h2, h3, h4, h5, h6⟩ := h
  rw [e_M_isEditor, w32_id (by omega) (by omega), m_isIn]
  simp only [Option.bind_some]
  congr 2
  exact ifc (by omega)
theorem m_isTown (h : wfC (σ 7)) (t : Int) : f_M_isTown σ t = some (σ, if 0 ≤ t ∧ t < σ 7 4 then 1 else 0) := by
  obtain ⟨h1, h2, h3, h4, h5, h6⟩ := h
  rw [e_M_isTown, w32_id (by omega) (by omega), m_isIn]
  simp only [Option.bind_some]
  congr 2
  exact ifc (by omega)
theorem if10 {c : Prop} [Decidable c] : ((if c then (1 : Int) else 0) = 0) ↔ ¬ c := by
  by_cases h : c
  · rw [if_pos h]; constructor
    · intro q; cases q
    · intro q; exact absurd h q
  · rw [if_neg h]; exact ⟨fun _ => h, fun _ => rfl⟩
theorem ifn {c : Prop} [Decidable c] {α : Type} (a b : α) : (if ¬ c then a else b) = if c then b else a := by
  by_cases h : c
  · rw [if_pos h, if_neg (fun q => q h)]
  · rw [if_neg h, if_pos h]
theorem m_isPlace (h : wfC (σ 7)) (hr : wfR (σ 7)) (r p : Int) : f_M_isPlace σ r p = some (σ, if (0 ≤ r ∧ r < σ 7 1) ∧ 0 ≤ p ∧ p < σ 7 (Int.toNat (16 + r)) then 1 else 0) := by
  rw [e_M_isPlace, m_isReach h]
  obtain ⟨h1, h2, h3, h4, h5, h6⟩ := h
  simp only [Option.bind_some, if10]
  by_cases hc : 0 ≤ r ∧ r < σ 7 1
  · have h9 := hr r hc.1 hc.2
    simp (disch := omega) only [hc, not_true_eq_false, if_false, w32_id, zin_t, if_true, m_isIn, Option.bind_some, if10, true_and]
    by_cases hp : 0 ≤ p ∧ p < σ 7 (Int.toNat (16 + r))
    · rw [if_neg (by omega), if_pos hp]
    · rw [if_pos (by omega), if_neg hp]
  · rw [if_pos hc, if_neg (fun q => hc q.1)]
theorem m_bitOf {n k : Nat} (hn : n < 2147483648) (hk : k < 32) : f_M_bitOf σ (n : Int) (k : Int) = some (σ, if n.testBit k then 1 else 0) := by
  rw [e_M_bitOf, zbit2 hn hk]
  by_cases h : n.testBit k = true
  · simp [h]
  · simp [h]
theorem m_saysOn (hr : wfR (σ 7)) (h : wfC (σ 7)) {r d : Int} (h0 : 0 ≤ r) (h1 : r < σ 7 1) (hd : 0 ≤ d) (hs : 0 < σ 7 (Int.toNat (40 + r))) : f_M_saysOn σ r d = some (σ, σ 7 (Int.toNat (48 + 12 * r + d % σ 7 (Int.toNat (40 + r))))) := by
  obtain ⟨c1, c2, c3, c4, c5, c6⟩ := h
  have h9 := hr r h0 h1
  have e : Int.tmod d (σ 7 (Int.toNat (40 + r))) = d % σ 7 (Int.toNat (40 + r)) := Int.tmod_eq_emod_of_nonneg hd
  have l1 := Int.emod_nonneg d (show σ 7 (Int.toNat (40 + r)) ≠ 0 by omega)
  have l2 := Int.emod_lt_of_pos d hs
  rw [e_M_saysOn]
  simp (disch := omega) only [w32_id, zin_t, znz_t, if_true, e]
theorem m_madeOf (h : wfC (σ 7)) (he : wfE (σ 7)) {e t : Int} (h0 : 0 ≤ e) (h1 : e < σ 7 2) (h2 : 0 ≤ t) (h3 : t < 10) : f_M_madeOf σ e t = some (σ, if σ 7 (Int.toNat (156 + 10 * e + t)) = 0 then t else σ 7 (Int.toNat (156 + 10 * e + t)) - 2) := by
  obtain ⟨c1, c2, c3, c4, c5, c6⟩ := h
  have h9 := he.2.2 e t h0 h1 h2 h3
  rw [e_M_madeOf]
  simp (disch := omega) only [w32_id, zin_t, if_true, ifn]
  by_cases hc : σ 7 (Int.toNat (156 + 10 * e + t)) = 0
  · rw [if_pos hc, if_pos hc]
  · rw [if_neg hc, if_neg hc]
end G1
