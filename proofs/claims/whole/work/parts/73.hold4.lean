/-! A SENTENCE held, both sides, at an and, at an or -/
section G43
variable {σ τ τ1 : zH} {k q d : Nat} {a b : Nat → Int}
theorem hold_two {n i N m : Nat} {t w : Int} (hn : n ≤ 40) (hcn : τ 7 2778 = (n : Int)) (hsn : σ q 3 = (n : Int)) (hi : i < n) (hc : CodR (fun j => τ 7 (2778 + j)) i) (hp : σ (q + 1) i = opm (τ 7 (2778 + (1 + 3 * i)))) (hd : dep (fun j => τ 7 (2778 + j)) i = (m : Int)) (hm : m ≤ 20) (s : HolS τ τ1 N m) (hl : τ 7 (2778 + (1 + 3 * i)) = w) (hw : w = 21 ∨ w = 22) :
    ∃ (N' m' : Nat) (τ2 : zH), f_Sentence_holdsOf_6 σ q k 96 t (N : Int) (i : Int) = f_Sentence_holdsOf_6 σ q k 96 t (N' : Int) ((i + 1 : Nat) : Int) ∧ f_M_isSaid_4 τ1 t (m : Int) (i : Int) = f_M_isSaid_4 τ2 t (m' : Int) ((i + 1 : Nat) : Int) ∧ HolS τ τ2 N' m' ∧ dep (fun j => τ 7 (2778 + j)) (i + 1) = (m' : Int) := by
  obtain ⟨c1, c2, c3, c4⟩ := hc
  dsimp only at c4
  have e7 : τ1 7 = τ 7 := s.1 7 (by decide) (by decide)
  have hT := s.2.2
  have hm1 := c4 (by omega)
  obtain ⟨m0, rfl⟩ : ∃ m0, m = m0 + 2 := ⟨m - 2, by omega⟩
  have hp20 : 2 ^ (m0 + 2) ≤ 2 ^ 20 := Nat.pow_le_pow_right (by decide) hm
  have hNlt := hT.1
  obtain ⟨l1, l2, l3⟩ := hT.low
  obtain ⟨l4, l5, -⟩ := l3.low
  have g1 : zin (i : Int) 40 = true := zin_t (by omega) (by omega)
  have z1 : zin (2779 + 3 * (i : Int)) 2959 = true := zin_t (by omega) (by omega)
  have a1 : w32 (2779 + w32 (3 * (i : Int))) = 2779 + 3 * (i : Int) := by rw [w32_id (x := 3 * (i : Int)) (by omega) (by omega), w32_id (by omega) (by omega)]
  have a2 : Int.toNat (2779 + 3 * (i : Int)) = 2778 + (1 + 3 * i) := by omega
  have hdn : dep (fun j => τ 7 (2778 + j)) (i + 1) = ((m0 + 1 : Nat) : Int) := by
    rw [dep, hd, hl, if_neg (show ¬ w < 20 by omega), if_neg (show ¬ w = 20 by omega)]
    omega
  have h2 := m_two (t := t) (τ1 := τ1) (show i < 40 by omega) (show m0 ≤ 20 by omega) hw (by rw [e7]; exact hl) l4 l1
  obtain ⟨r, hr⟩ : ∃ r : Int, (if w = 21 then (if τ1 43 m0 = 1 ∧ τ1 43 (m0 + 1) = 1 then 1 else 0) else (if τ1 43 m0 = 1 ∨ τ1 43 (m0 + 1) = 1 then 1 else 0)) = r := ⟨_, rfl⟩
  rw [hr] at h2
  have hr01 : r = 0 ∨ r = 1 := by rw [← hr]; split <;> split <;> simp
  refine ⟨2 * (N / 2 / 2) + r.toNat, m0 + 1, zset τ1 43 m0 r, ?_, ?_, ⟨fun j j0 j43 => by rw [zk j43]; exact s.1 j j0 j43, fun j hj => by rw [zk (by decide)]; exact s.2.1 j hj, tru_two hT hr01 zs (fun j hj => zi (by omega))⟩, hdn⟩
  · rw [e_Sentence_holdsOf_6, if_neg (show ¬ σ q 3 ≤ (i : Int) by omega), if_pos g1, show Int.toNat (i : Int) = i from rfl, w32_s (by omega), bit_or (by omega), bit_and (by omega), tru_or hT, tru_and hT]
    rcases hw with rfl | rfl
    · have ho : opm (21 : Int) = 18 := rfl
      simp only [hp, hl, ho]
      rw [if_neg (show ¬ (18 : Int) = 17 by decide), if_pos trivial]
      rw [if_pos rfl] at hr
      rw [hr]
    · have ho : opm (22 : Int) = 17 := rfl
      simp only [hp, hl, ho]
      rw [if_pos trivial]
      rw [if_neg (show ¬ (22 : Int) = 21 by decide)] at hr
      rw [hr]
  · rw [e_M_isSaid_4, e7, if_neg (show ¬ τ 7 2778 ≤ (i : Int) by omega)]
    simp only [z1, a1, a2, hl, if_true]
    rw [if_pos (show ¬ w = 20 by omega)]
    by_cases h21 : w = 21
    · rw [if_pos h21]; exact h2
    · rw [if_neg h21, if_neg (show ¬ ¬ w = 22 by omega)]; exact h2
end G43
