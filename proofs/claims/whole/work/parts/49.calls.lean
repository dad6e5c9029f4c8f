/-! CALLS that only look, both sides -/
section G19
variable {σ τ : zH} {k q d : Nat}
theorem i10 {α : Type} (a b : α) : (if (1 : Int) = 0 then a else b) = b := if_neg (by decide)
theorem i00 {α : Type} (a b : α) : (if (0 : Int) = 0 then a else b) = a := if_pos rfl
theorem in10 {α : Type} (a b : α) : (if ¬ (1 : Int) = 0 then a else b) = a := if_pos (by decide)
theorem in00 {α : Type} (a b : α) : (if ¬ (0 : Int) = 0 then a else b) = b := if_neg (fun q => q rfl)
def Same (C M : Option (zH × Int)) : Prop := ∃ σ' τ' r, C = some (σ', r) ∧ M = some (τ', r) ∧ Rel σ' τ'
theorem Rl.look {C M : Option (zH × Int)} {r : Int} (h : Rl σ τ k q d) (hC : C = some (σ, r)) (hM : M = some (τ, r)) : Same C M := ⟨σ, τ, r, hC, hM, k, q, d, h⟩
theorem Rl.hz (h : Rl σ τ k q d) : zio 1 (σ 0 11) = true := by
  rw [h.land.2.1]
  rcases h.land.1 with rfl | rfl <;> rfl
theorem Rl.hk (h : Rl σ τ k q d) : Int.toNat (σ 0 11) = k := by rw [h.land.2.1]; rfl
theorem Rl.hzr (h : Rl σ τ k q d) : zio 7 (σ 0 12) = true := by
  rw [h.rule.2.1]
  rcases h.rule.1 with rfl | rfl <;> rfl
theorem Rl.hkr (h : Rl σ τ k q d) : Int.toNat (σ 0 12) = q := by rw [h.rule.2.1]; rfl
theorem Rl.ap (h : Rl σ τ k q d) : apart8 96 k := by
  unfold apart8
  rcases h.land.1 with rfl | rfl <;> omega
theorem q_fault (h : Rl σ τ k q d) : Same (f_R_fault σ) (f_M_fault τ) := by
  have h0 := h.mark (v := 0)
  rw [e_M_fault, e_R_fault]
  generalize zset τ 0 0 0 = τ0 at h0 ⊢
  exact h0.look (congrArg (fun x => some (σ, x)) h0.hM.1) rfl
theorem q_term (h : Rl σ τ k q d) (t : Int) : Same (f_R_term σ t) (f_M_term τ t) := by
  have h0 := h.mark (v := 0)
  rw [e_M_term, e_R_term]
  generalize zset τ 0 0 0 = τ0 at h0 ⊢
  have hc0 := h0.hw.1.1
  simp only [h0.hz, h0.hk, if_true]
  rw [m_isTerm h0.hw.1, c_hasTerm h0.hL, Option.bind_some, Option.bind_some]
  dsimp only
  simp only [h0.hz, h0.hk, if_true]
  by_cases hc : 0 ≤ t ∧ t < τ0 7 0
  · rw [if_pos hc, i10, i10, if_pos (zin_t hc.1 (by omega)), w32_id (x := 6 + t) (by omega) (by omega), if_pos (zin_t (by omega) (by omega)), h0.hL.2.1 t hc.1 hc.2]
    exact h0.look rfl rfl
  · rw [if_neg hc, i00, i00]
    exact h0.look rfl rfl
theorem q_reach (h : Rl σ τ k q d) (r w : Int) : Same (f_R_reach σ r w) (f_M_reach τ r w) := by
  have h0 := h.mark (v := 0)
  rw [e_M_reach, e_R_reach]
  generalize zset τ 0 0 0 = τ0 at h0 ⊢
  have hc1 := h0.hw.1.2.1
  simp only [h0.hz, h0.hk, if_true]
  rw [m_isReach h0.hw.1, c_hasReach h0.hL, Option.bind_some, Option.bind_some]
  dsimp only
  simp only [h0.hz, h0.hk, if_true]
  by_cases hc : 0 ≤ r ∧ r < τ0 7 1
  · have hr := h0.hw.2.2.1 r hc.1 hc.2
    have hl := (h0.hL.2.2.1 r hc.1 hc.2).1
    have e288 := h0.hS.2.1
    have e12 := h0.hS.2.2.1
    simp (disch := omega) only [if_pos hc, w32_id, zin_t, if_true, hl.1, hl.2.1, hl.2.2.1, hl.2.2.2]
    rw [in10, in10]
    by_cases w0 : w = 0
    · rw [if_pos w0, if_pos w0]; exact h0.look rfl rfl
    · rw [if_neg w0, if_neg w0]
      by_cases w1 : w = 1
      · rw [if_pos w1, if_pos w1]; exact h0.look rfl rfl
      · rw [if_neg w1, if_neg w1]
        by_cases w2 : w = 2
        · rw [if_pos w2, if_pos w2]; exact h0.look rfl rfl
        · rw [if_neg w2, if_neg w2]
          by_cases w3 : w = 3
          · rw [if_pos w3, if_pos w3]; exact h0.look rfl rfl
          · rw [if_neg w3, if_neg w3]
            by_cases w4 : w = 4
            · rw [if_pos w4, if_pos w4, e12, e288, c_saidOn h0.hL h0.hw hc.1 hc.2 (by omega), Option.bind_some]
              dsimp only
              by_cases hs : 0 < τ0 7 (Int.toNat (40 + r))
              · rw [if_pos (show ¬ τ0 7 (Int.toNat (40 + r)) = 0 by omega), m_saysOn h0.hw.2.2.1 h0.hw.1 hc.1 hc.2 (by omega) hs, Option.bind_some, if_pos hs]
                exact h0.look rfl rfl
              · rw [if_neg (show ¬ ¬ τ0 7 (Int.toNat (40 + r)) = 0 by omega), if_neg hs]
                exact h0.look rfl rfl
            · rw [if_neg w4, if_neg w4]
              exact h0.look rfl rfl
  · rw [if_neg hc, in00, in00]
    exact h0.look rfl rfl
theorem q_editor (h : Rl σ τ k q d) (e w : Int) : Same (f_R_editor σ e w) (f_M_editor τ e w) := by
  have h0 := h.mark (v := 0)
  rw [e_M_editor, e_R_editor]
  generalize zset τ 0 0 0 = τ0 at h0 ⊢
  have hc2 := h0.hw.1.2.2.1
  simp only [h0.hz, h0.hk, if_true]
  rw [m_isEditor h0.hw.1, c_hasEditor h0.hL, Option.bind_some, Option.bind_some]
  dsimp only
  simp only [h0.hz, h0.hk, if_true]
  by_cases hc : 0 ≤ e ∧ e < τ0 7 2
  · have hl := (h0.hL.2.2.2.1 e hc.1 hc.2).1
    obtain ⟨n, m, hn, hm, hn64, hm64, ha⟩ := h0.hS.2.2.2.1
    have hcn := h0.hS.2.2.2.2.2.2.2.1.1 e hc.1 hc.2
    simp (disch := omega) only [if_pos hc, w32_id, zin_t, if_true, hl.1, hl.2]
    rw [in10, in10]
    by_cases w0 : w = 0
    · rw [if_pos w0, if_pos w0]; exact h0.look rfl rfl
    · rw [if_neg w0, if_neg w0]
      by_cases w1 : w = 1
      · rw [if_pos w1, if_pos w1]; exact h0.look rfl rfl
      · rw [if_neg w1, if_neg w1]
        by_cases w2 : w = 2
        · rw [if_pos w2, if_pos w2, show e = ((e.toNat : Nat) : Int) by omega, c_isAwake hn (by omega) (by omega), hm, m_bitOf (by omega) (by omega), Option.bind_some, Option.bind_some]
          dsimp only
          have hae := ha e.toNat (by omega)
          by_cases hb : m.testBit e.toNat = true
          · rw [if_neg (fun q => (hae.mp q) hb), if_pos rfl, if_pos hb, if_neg (by decide)]
            exact h0.look rfl rfl
          · rw [if_pos (hae.mpr hb), if_neg (by decide), if_neg hb, if_pos rfl]
            exact h0.look rfl rfl
        · rw [if_neg w2, if_neg w2]
          by_cases w3 : w = 3
          · rw [if_pos w3, if_pos w3, ← hcn.1]; exact h0.look rfl rfl
          · rw [if_neg w3, if_neg w3]
            by_cases w4 : w = 4
            · rw [if_pos w4, if_pos w4, ← hcn.2.1]; exact h0.look rfl rfl
            · rw [if_neg w4, if_neg w4]; exact h0.look rfl rfl
  · rw [if_neg hc, in00, in00]
    exact h0.look rfl rfl
theorem q_makes (h : Rl σ τ k q d) (e t : Int) : Same (f_R_makes σ e t) (f_M_makes τ e t) := by
  have h0 := h.mark (v := 0)
  rw [e_M_makes, e_R_makes]
  generalize zset τ 0 0 0 = τ0 at h0 ⊢
  have hc0 := h0.hw.1.1
  simp only [h0.hz, h0.hk, if_true]
  rw [m_isEditor h0.hw.1, c_hasEditor h0.hL, Option.bind_some, Option.bind_some]
  dsimp only
  simp only [h0.hz, h0.hk, if_true]
  by_cases hc : 0 ≤ e ∧ e < τ0 7 2
  · rw [if_pos hc, i10, i10, m_isTerm h0.hw.1, c_hasTerm h0.hL, Option.bind_some, Option.bind_some]
    dsimp only
    simp only [h0.hz, h0.hk, if_true]
    by_cases ht : 0 ≤ t ∧ t < τ0 7 0
    · rw [if_pos ht, i10, i10, c_madeBy h0.hL h0.hw hc.1 hc.2 ht.1 (by omega), m_madeOf' rfl h0.hw hc.1 hc.2 ht.1 (by omega), Option.bind_some, Option.bind_some]
      exact h0.look rfl rfl
    · rw [if_neg ht, i00, i00]
      exact h0.look rfl rfl
  · rw [if_neg hc, i00, i00]
    exact h0.look rfl rfl
theorem q_stones (h : Rl σ τ k q d) : Same (f_R_stones σ) (f_M_stones τ) := by
  have h0 := h.mark (v := 0)
  rw [e_M_stones, e_R_stones]
  generalize zset τ 0 0 0 = τ0 at h0 ⊢
  have hs := h0.hM.2.2.1
  by_cases hd : τ0 0 32 = 0
  · rw [if_pos hd] at hs ⊢
    exact h0.look (congrArg (fun x => some (σ, x)) hs) rfl
  · rw [if_neg hd] at hs ⊢
    exact h0.look (congrArg (fun x => some (σ, x)) hs) rfl
theorem q_booked (h : Rl σ τ k q d) (w : Int) : Same (f_R_booked σ w) (f_M_booked τ w) := by
  have h0 := h.mark (v := 0)
  rw [e_M_booked, e_R_booked, e_Daybook_tell]
  generalize zset τ 0 0 0 = τ0 at h0 ⊢
  obtain ⟨b1, b2⟩ := h0.hM.2.2.2.1
  rcases b2 with b2 | ⟨b2, b3, b4, b5, b6⟩
  · rw [if_pos b2, b1, if_neg (fun q => q b2), Option.bind_some]
    exact h0.look rfl rfl
  · rw [if_neg (show ¬ τ0 0 35 = 0 by omega), b1, if_pos (show ¬ τ0 0 35 = 0 by omega), m_isIn, Option.bind_some]
    dsimp only
    by_cases w0 : w = 0
    · subst w0
      rw [b3]
      simp (decide := true) only [if_true, if_false, Option.bind_some]
      exact h0.look rfl rfl
    · rw [if_neg w0]
      by_cases w1 : w = 1
      · subst w1
        rw [b4]
        simp (decide := true) only [if_true, if_false, Option.bind_some]
        exact h0.look rfl rfl
      · rw [if_neg w1]
        by_cases w2 : w = 2
        · subst w2
          rw [b5]
          simp (decide := true) only [if_true, if_false, Option.bind_some]
          exact h0.look rfl rfl
        · rw [if_neg w2]
          by_cases w3 : w = 3
          · subst w3
            rw [b6]
            simp (decide := true) only [if_true, if_false, Option.bind_some]
            exact h0.look rfl rfl
          · rw [if_neg w3, Option.bind_some, if_neg (show ¬ (0 ≤ w ∧ w ≤ 3) by omega), i00]
            exact h0.look rfl rfl
theorem q_count (h : Rl σ τ k q d) (w : Int) : Same (f_R_count σ w) (f_M_count τ w) := by
  have h0 := h.mark (v := 0)
  rw [e_M_count, e_R_count]
  generalize zset τ 0 0 0 = τ0 at h0 ⊢
  simp only [h0.hz, h0.hk, if_true]
  obtain ⟨l0, l1, l2, l3, l4, l5⟩ := h0.hL.1
  obtain ⟨L, -, t1, t2, -⟩ := h0.hT
  rw [l0, l1, l2, l3, l4, l5]
  by_cases w6 : w = 6
  · subst w6
    rw [t1, t2]
    simp (decide := true) only [if_true, if_false]
    exact h0.look rfl rfl
  · rw [if_pos w6, m_isIn, Option.bind_some]
    dsimp only
    by_cases w0 : w = 0
    · subst w0
      simp (decide := true) only [if_true, if_false]
      exact h0.look rfl rfl
    · rw [if_neg w0]
      by_cases w1 : w = 1
      · subst w1
        simp (decide := true) only [if_true, if_false]
        exact h0.look rfl rfl
      · rw [if_neg w1]
        by_cases w2 : w = 2
        · subst w2
          simp (decide := true) only [if_true, if_false]
          exact h0.look rfl rfl
        · rw [if_neg w2]
          by_cases w3 : w = 3
          · subst w3
            simp (decide := true) only [if_true, if_false]
            exact h0.look rfl rfl
          · rw [if_neg w3]
            by_cases w4 : w = 4
            · subst w4
              simp (decide := true) only [if_true, if_false]
              exact h0.look rfl rfl
            · rw [if_neg w4]
              by_cases w5 : w = 5
              · subst w5
                simp (decide := true) only [if_true, if_false]
                exact h0.look rfl rfl
              · rw [if_neg w5, if_neg w6, if_neg (show ¬ (0 ≤ w ∧ w ≤ 5) by omega), i00]
                exact h0.look rfl rfl
theorem q_above_c (h : Rl σ τ k q d) (t : Int) : Same (f_R_above σ t) (f_M_above τ t) := by
  have h0 := h.mark (v := 0)
  rw [e_M_above, e_R_above]
  generalize zset τ 0 0 0 = τ0 at h0 ⊢
  simp only [h0.hz, h0.hk, if_true]
  rw [m_isTown h0.hw.1, c_hasTown h0.hL, Option.bind_some, Option.bind_some]
  dsimp only
  simp only [h0.hz, h0.hk, if_true]
  by_cases hc : 0 ≤ t ∧ t < τ0 7 4
  · obtain ⟨M, h1, h2, -⟩ := q_above h0.hL rfl h0.hw hc.1 hc.2
    rw [if_pos hc, i10, i10, h1, h2, Option.bind_some, Option.bind_some]
    exact h0.look rfl rfl
  · rw [if_neg hc, i00, i00]
    exact h0.look rfl rfl
theorem q_source_c (h : Rl σ τ k q d) (t : Int) : Same (f_R_source σ t) (f_M_source τ t) := by
  have h0 := h.mark (v := 0)
  rw [e_M_source, e_R_source]
  generalize zset τ 0 0 0 = τ0 at h0 ⊢
  simp only [h0.hz, h0.hk, if_true]
  rw [m_isTown h0.hw.1, c_hasTown h0.hL, Option.bind_some, Option.bind_some]
  dsimp only
  simp only [h0.hz, h0.hk, if_true]
  by_cases hc : 0 ≤ t ∧ t < τ0 7 4
  · obtain ⟨M, h1, h2, -⟩ := q_source h0.hL rfl h0.hw hc.1 hc.2
    rw [if_pos hc, i10, i10, h1, h2, Option.bind_some, Option.bind_some]
    exact h0.look rfl rfl
  · rw [if_neg hc, i00, i00]
    exact h0.look rfl rfl
theorem q_flows_c (h : Rl σ τ k q d) (r p t : Int) : Same (f_R_flows σ r p t) (f_M_flows τ r p t) := by
  have h0 := h.mark (v := 0)
  rw [e_M_flows, e_R_flows]
  generalize zset τ 0 0 0 = τ0 at h0 ⊢
  have hc1 := h0.hw.1.2.1
  simp only [h0.hz, h0.hk, if_true]
  rw [m_isPlace h0.hw.1 h0.hw.2.2.1, c_hasPlace h0.hL h0.hw, Option.bind_some, Option.bind_some]
  dsimp only
  simp only [h0.hz, h0.hk, if_true]
  by_cases hp : (0 ≤ r ∧ r < τ0 7 1) ∧ 0 ≤ p ∧ p < τ0 7 (Int.toNat (16 + r))
  · have hr := h0.hw.2.2.1 r hp.1.1 hp.1.2
    rw [if_pos hp, i10, i10, m_isTown h0.hw.1, c_hasTown h0.hL, Option.bind_some, Option.bind_some]
    dsimp only
    simp only [h0.hz, h0.hk, if_true]
    by_cases hc : 0 ≤ t ∧ t < τ0 7 4
    · obtain ⟨x, h1, h2⟩ := q_flows h0.hL h0.hw rfl hc.1 hc.2 8 r (w32 (-p)) 0 (by omega) hp.1.2 (by omega) (by omega) (by omega) (by rw [w32_id (by omega) (by omega)]; omega) (by rw [w32_id (by omega) (by omega)]; omega)
      rw [if_pos hc, i10, in10, h2, e_Country_daysBetween]
      rw [h1, Option.bind_some]
      exact h0.look rfl rfl
    · rw [if_neg hc, i00, in00]
      exact h0.look rfl rfl
  · rw [if_neg hp, i00, i00]
    exact h0.look rfl rfl
end G19
