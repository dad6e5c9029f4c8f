/-! THE TWO CALLS THAT THROW: what both sides come to -/
section G77
variable {σ τ : zH} {k q d : Nat}
theorem m_thr1 : f_M_throwsIf τ 1 = some (zset τ 0 0 1, 1) := by
  rw [e_M_throwsIf, if_neg (by decide), if_pos (by decide)]
theorem m_thr0 : f_M_throwsIf τ 0 = some (zset τ 0 0 0, 0) := by
  rw [e_M_throwsIf, if_pos rfl, if_pos (by decide)]
theorem thrown1 : f_M_thrown (zset τ 0 0 1) = some (zset τ 0 0 1, 1) := by rw [e_M_thrown, zs]
theorem thrown0 : f_M_thrown (zset τ 0 0 0) = some (zset τ 0 0 0, 0) := by rw [e_M_thrown, zs]
theorem q_at_throws (h : Rl σ τ k q d) (r p : Int) (hn : ¬ ((0 ≤ r ∧ r < τ 7 1) ∧ 0 ≤ p ∧ p < τ 7 (Int.toNat (16 + r)))) : f_M_at τ r p = some (zset τ 0 0 1, 0) := by
  rw [e_M_at, m_isPlace h.hw.1 h.hw.2.2.1, Option.bind_some]
  dsimp only
  rw [if_neg hn, in00, e_M_at_15, m_thr1, Option.bind_some]
  dsimp only
  rw [i10]
theorem q_at_tells (h : Rl σ τ k q d) (r p : Int) (hn : (0 ≤ r ∧ r < τ 7 1) ∧ 0 ≤ p ∧ p < τ 7 (Int.toNat (16 + r))) : ∃ v, f_Stream_termAt σ 96 k r p = some (σ, v) ∧ f_M_at τ r p = some (zset τ 0 0 0, v) := by
  have hc1 := h.hw.1.2.1
  have hc0 := h.hw.1.1
  have hr := h.hw.2.2.1 r hn.1.1 hn.1.2
  have hcell := h.hS.2.2.2.2.2.2.1
  have hc := hcell.1 r p hn.1.1 hn.1.2 hn.2.1 hn.2.2
  have hd4 := h.hS.1
  refine ⟨_, c_termAt h.hL h.hw hcell h.hS.2.2.1 (by omega) (by omega) hn.1.1 hn.1.2 hn.2.1 hn.2.2, ?_⟩
  rw [e_M_at, m_isPlace h.hw.1 h.hw.2.2.1, Option.bind_some]
  dsimp only
  rw [if_pos hn, in10, e_M_at_15, m_thr0, Option.bind_some]
  dsimp only
  rw [i00, zk (show (7 : Nat) ≠ 0 by decide)]
  simp (disch := omega) only [w32_id, zin_t, if_true]
/-- what the class keeps of a town -/
def tnC (σ : zH) (k : Nat) (t w : Int) : Int := if w = 0 then σ (k + 11) (Int.toNat t) else if w = 1 then σ (k + 12) (Int.toNat t) else if w = 2 then σ 101 (Int.toNat t) else if w = 3 then σ 102 (Int.toNat t) else if w = 4 then σ 103 (Int.toNat t) else σ 104 (Int.toNat t)
theorem q_town_throws (h : Rl σ τ k q d) (t w : Int) (hn : ¬ ((0 ≤ t ∧ t < τ 7 4) ∧ 0 ≤ w ∧ w ≤ 5)) : f_M_town τ t w = some (zset τ 0 0 1, 0) := by
  have e : f_M_town_23 τ t w 1 = some (zset τ 0 0 1, 0) := by
    rw [e_M_town_23, m_thr1, Option.bind_some]
    dsimp only
    rw [i10]
  rw [e_M_town, m_isTown h.hw.1, Option.bind_some]
  dsimp only
  by_cases ht : 0 ≤ t ∧ t < τ 7 4
  · rw [if_pos ht, i10, m_isIn, Option.bind_some]
    dsimp only
    rw [if_neg (fun hw => hn ⟨ht, hw⟩), in00]
    exact e
  · rw [if_neg ht, i00]
    exact e
theorem q_town_tells (h : Rl σ τ k q d) (t w : Int) (hn : (0 ≤ t ∧ t < τ 7 4) ∧ 0 ≤ w ∧ w ≤ 5) : f_M_town τ t w = some (zset τ 0 0 0, tnC σ k t w) := by
  obtain ⟨ht, hw⟩ := hn
  have hc4 := h.hw.1.2.2.2.2.1
  have hl := (h.hL.2.2.2.2 t ht.1 ht.2).1
  obtain ⟨hs, hr⟩ := h.hS.2.2.2.2.2.2.2.2 t ht.1 ht.2
  have hD := h.hS.2.1
  have hd4 := h.hS.1
  have e7 : zset τ 0 0 0 7 = τ 7 := zk (show (7 : Nat) ≠ 0 by decide)
  unfold tnC
  rw [e_M_town, m_isTown h.hw.1, Option.bind_some]
  dsimp only
  rw [if_pos ht, i10, m_isIn, Option.bind_some]
  dsimp only
  rw [if_pos hw, in10, e_M_town_23, m_thr0, Option.bind_some]
  dsimp only
  rw [i00, e7]
  by_cases w0 : w = 0
  · rw [if_pos w0, if_pos w0, w32_id (by omega) (by omega), if_pos (zin_t (by omega) (by omega)), hl.1]
  rw [if_neg w0, if_neg w0]
  by_cases w1 : w = 1
  · rw [if_pos w1, if_pos w1, w32_id (by omega) (by omega), if_pos (zin_t (by omega) (by omega)), hl.2]
  rw [if_neg w1, if_neg w1]
  by_cases w2 : w = 2
  · rw [if_pos w2, if_pos w2, m_last e7 h.hw ht.1 (by omega) hD hd4 hr, Option.bind_some, hs.1]
  rw [if_neg w2, if_neg w2]
  have mw : ∀ lk : Int, f_M_wordsOf (zset τ 0 0 0) t 0 lk = some (zset τ 0 0 0, cntN (τ 7) t lk d - cntN (τ 7) t lk 0) := fun lk => m_words (n := 0) e7 h.hw ht.1 (by omega) hD hd4 hr (by omega)
  by_cases w3 : w = 3
  · rw [if_pos w3, if_pos w3, mw, Option.bind_some, hs.2.1]
    show some (_, wdN (τ 7) t d - wdN (τ 7) t 0) = _
    rw [show wdN (τ 7) t 0 = 0 from rfl, Int.sub_zero]
  rw [if_neg w3, if_neg w3]
  by_cases w4 : w = 4
  · rw [if_pos w4, if_pos w4, mw, Option.bind_some, hs.2.2.1]
    show some (_, lkN (τ 7) t d - lkN (τ 7) t 0) = _
    rw [show lkN (τ 7) t 0 = 0 from rfl, Int.sub_zero]
  rw [if_neg w4, if_neg w4, hs.2.2.2.1]
  exact m_first_l e7 h.hw ht.1 (by omega) hD hd4 hr d 0 (by omega) rfl
/-- behind either the sides stand as before -/
theorem Rl.marked {v : Int} (h : Rl σ τ k q d) : Rel σ (zset τ 0 0 v) := ⟨k, q, d, h.mark⟩
end G77
