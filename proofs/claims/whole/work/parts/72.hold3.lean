/-! A SENTENCE held, at an and, at an or -/
section G42
variable {σ τ τ1 : zH} {k q d : Nat} {a b : Nat → Int}
theorem m_two {i m0 : Nat} {t w : Int} {τ1 : zH} (hi : i < 40) (hm : m0 ≤ 20) (hw : w = 21 ∨ w = 22) (h7 : τ1 7 (2778 + (1 + 3 * i)) = w) (hA : τ1 43 m0 = 0 ∨ τ1 43 m0 = 1) (hB : τ1 43 (m0 + 1) = 0 ∨ τ1 43 (m0 + 1) = 1) :
    f_M_isSaid_88 τ1 t ((m0 + 2 : Nat) : Int) (i : Int) (2779 + 3 * (i : Int)) = f_M_isSaid_4 (zset τ1 43 m0 (if w = 21 then (if τ1 43 m0 = 1 ∧ τ1 43 (m0 + 1) = 1 then 1 else 0) else (if τ1 43 m0 = 1 ∨ τ1 43 (m0 + 1) = 1 then 1 else 0))) t ((m0 + 1 : Nat) : Int) ((i + 1 : Nat) : Int) := by
  have z1 : zin (2779 + 3 * (i : Int)) 2959 = true := zin_t (by omega) (by omega)
  have a2 : Int.toNat (2779 + 3 * (i : Int)) = 2778 + (1 + 3 * i) := by omega
  have a3 : w32 (((m0 + 2 : Nat) : Int) + -1) = ((m0 + 1 : Nat) : Int) := by rw [w32_id (by omega) (by omega)]; omega
  have a4 : w32 (((m0 + 1 : Nat) : Int) - 1) = (m0 : Int) := by rw [w32_id (by omega) (by omega)]; omega
  have z3 : zin (m0 : Int) 45 = true := zin_t (by omega) (by omega)
  have z4 : zin ((m0 + 1 : Nat) : Int) 45 = true := zin_t (by omega) (by omega)
  rw [e_M_isSaid_88]
  simp only [z1, a2, a3, a4, z3, z4, h7, if_true]
  rw [show Int.toNat (m0 : Int) = m0 from rfl, show Int.toNat ((m0 + 1 : Nat) : Int) = m0 + 1 from rfl, w32_s (by omega)]
  rcases hw with rfl | rfl
  · simp only [not_true, if_true, if_false]
    rcases hA with hA | hA <;> rcases hB with hB | hB <;> simp [hA, hB]
  · rw [if_pos (show ¬ (22 : Int) = 21 by decide), if_neg (show ¬ (22 : Int) = 21 by decide)]
    rcases hA with hA | hA <;> rcases hB with hB | hB <;> simp [hA, hB]
end G42
