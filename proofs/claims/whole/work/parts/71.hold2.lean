/-! A SENTENCE held, at a not -/
section G41
variable {σ τ τ1 : zH} {k q d : Nat} {a b : Nat → Int}
theorem hold_not {n i N m : Nat} {t : Int} (hn : n ≤ 40) (hcn : τ 7 2778 = (n : Int)) (hsn : σ q 3 = (n : Int)) (hi : i < n) (hc : CodR (fun j => τ 7 (2778 + j)) i) (hp : σ (q + 1) i = opm (τ 7 (2778 + (1 + 3 * i)))) (hd : dep (fun j => τ 7 (2778 + j)) i = (m : Int)) (hm : m ≤ 20) (s : HolS τ τ1 N m) (hl : τ 7 (2778 + (1 + 3 * i)) = 20) :
    ∃ (N' m' : Nat) (τ2 : zH), f_Sentence_holdsOf_6 σ q k 96 t (N : Int) (i : Int) = f_Sentence_holdsOf_6 σ q k 96 t (N' : Int) ((i + 1 : Nat) : Int) ∧ f_M_isSaid_4 τ1 t (m : Int) (i : Int) = f_M_isSaid_4 τ2 t (m' : Int) ((i + 1 : Nat) : Int) ∧ HolS τ τ2 N' m' ∧ dep (fun j => τ 7 (2778 + j)) (i + 1) = (m' : Int) := by
  obtain ⟨c1, c2, c3, c4⟩ := hc
  dsimp only at c3
  have e7 : τ1 7 = τ 7 := s.1 7 (by decide) (by decide)
  have hT := s.2.2
  have hm1 := c3 hl
  obtain ⟨m0, rfl⟩ : ∃ m0, m = m0 + 1 := ⟨m - 1, by omega⟩
  have hp20 : 2 ^ (m0 + 1) ≤ 2 ^ 20 := Nat.pow_le_pow_right (by decide) hm
  have hNlt := hT.1
  have hlow := hT.low
  have g1 : zin (i : Int) 40 = true := zin_t (by omega) (by omega)
  have z1 : zin (2779 + 3 * (i : Int)) 2959 = true := zin_t (by omega) (by omega)
  have a1 : w32 (2779 + w32 (3 * (i : Int))) = 2779 + 3 * (i : Int) := by rw [w32_id (x := 3 * (i : Int)) (by omega) (by omega), w32_id (by omega) (by omega)]
  have a2 : Int.toNat (2779 + 3 * (i : Int)) = 2778 + (1 + 3 * i) := by omega
  have a3 : w32 (((m0 + 1 : Nat) : Int) - 1) = (m0 : Int) := by rw [w32_id (by omega) (by omega)]; omega
  have z3 : zin (m0 : Int) 45 = true := zin_t (by omega) (by omega)
  have hdn : dep (fun j => τ 7 (2778 + j)) (i + 1) = ((m0 + 1 : Nat) : Int) := by rw [dep, hd, hl]; rfl
  have ho : opm (20 : Int) = 19 := rfl
  refine ⟨N ^^^ 1, m0 + 1, zset τ1 43 m0 (if τ1 43 m0 = 0 then 1 else 0), ?_, ?_, ⟨fun j j0 j43 => by rw [zk j43]; exact s.1 j j0 j43, fun j hj => by rw [zk (by decide)]; exact s.2.1 j hj, tru_not hT zs (fun j hj => zi (by omega))⟩, hdn⟩
  · rw [e_Sentence_holdsOf_6, if_neg (show ¬ σ q 3 ≤ (i : Int) by omega), if_pos g1, show Int.toNat (i : Int) = i from rfl, w32_s (by omega)]
    simp only [hp, hl, ho]
    rw [if_neg (show ¬ (19 : Int) = 17 by decide), if_neg (show ¬ (19 : Int) = 18 by decide), if_pos trivial, bit_not (by omega)]
  · rw [e_M_isSaid_4, e7, if_neg (show ¬ τ 7 2778 ≤ (i : Int) by omega)]
    simp only [z1, a1, a2, hl, if_true, a3, z3]
    rw [if_neg (show ¬ ¬ True from fun y => y trivial), show Int.toNat (m0 : Int) = m0 from rfl, w32_s (by omega)]
    by_cases h0 : τ1 43 m0 = 0
    · have hnn : ¬ ¬ τ1 43 m0 = 0 := fun y => y h0
      rw [if_neg hnn, if_pos h0]
    · rw [if_pos h0, if_neg h0]
end G41
