/-! ONE of a sentence, both sides -/
section G37
variable {σ τ : zH} {k q d : Nat} {a b : Nat → Int}
/-- a measure compared -/
theorem c_cmp {i : Nat} {x s n : Int} (hi : i < 40) (hs : σ (q + 2) i = s) (hn : σ (q + 3) i = n) (h0 : 60 ≤ s) (h1 : s ≤ 62) (υ : zH) : ∃ r : Int, (r = 0 ∨ r = 1) ∧ f_Sentence_compares σ q x (i : Int) = some (σ, r) ∧ f_M_isLeaf_114 υ s n x = some (υ, r) := by
  have g1 : zin (i : Int) 40 = true := zin_t (by omega) (by omega)
  rw [e_Sentence_compares, e_M_isLeaf_114, show Int.toNat (i : Int) = i from rfl]
  simp only [g1, if_true, hs, hn]
  by_cases s0 : s = 60
  · have hnn : ¬ ¬ s = 60 := fun y => y s0
    rw [if_pos s0, if_neg hnn]
    by_cases hx : n ≤ x
    · rw [if_pos hx, if_pos hx]; exact ⟨0, Or.inl rfl, rfl, rfl⟩
    · rw [if_neg hx, if_neg hx]; exact ⟨1, Or.inr rfl, rfl, rfl⟩
  · rw [if_neg s0, if_pos s0]
    by_cases s1 : s = 61
    · have hnn : ¬ ¬ s = 61 := fun y => y s1
      rw [if_neg (show ¬ s = 62 by omega), if_neg hnn]
      by_cases hx : x = n
      · have hn2 : ¬ ¬ x = n := fun y => y hx
        rw [if_neg hn2, if_neg hn2]; exact ⟨1, Or.inr rfl, rfl, rfl⟩
      · rw [if_pos hx, if_pos hx]; exact ⟨0, Or.inl rfl, rfl, rfl⟩
    · rw [if_pos (show s = 62 by omega), if_pos s1]
      by_cases hx : x ≤ n
      · rw [if_pos hx, if_pos hx]; exact ⟨0, Or.inl rfl, rfl, rfl⟩
      · rw [if_neg hx, if_neg hx]; exact ⟨1, Or.inr rfl, rfl, rfl⟩
theorem q_leaf {i : Nat} {t w s n : Int} (h : Rl σ τ k q d) (hi : i < 40) (t0 : 0 ≤ t) (t1 : t < τ 7 4) (hw : 0 ≤ w ∧ w ≤ 6) (hp : σ (q + 1) i = opm w) (hs : σ (q + 2) i = s) (hn : σ (q + 3) i = n) (h3 : 3 ≤ w → 60 ≤ s ∧ s ≤ 62) :
    ∃ (τ' : zH) (r : Int), (r = 0 ∨ r = 1) ∧ f_Sentence_isSo σ q k 96 t (i : Int) = some (σ, r) ∧ f_M_isLeaf τ t w s n = some (τ', r) ∧ (∀ j, j ≠ 0 → τ' j = τ j) ∧ ∀ j, j ≠ 24 → τ' 0 j = τ 0 j := by
  have hc4 := h.hw.1.2.2.2.2.1
  have g1 : zin (i : Int) 40 = true := zin_t (by omega) (by omega)
  have g2 : zin t 6 = true := zin_t t0 (by omega)
  obtain ⟨st1, st2⟩ := h.hS.2.2.2.2.2.2.2.2 t t0 t1
  have ht := (h.hL.2.2.2.2 t t0 t1).1
  rw [e_Sentence_isSo, e_M_isLeaf, show Int.toNat (i : Int) = i from rfl, hp, hn]
  simp only [g1, g2, if_true]
  have hws : w = 0 ∨ w = 1 ∨ w = 2 ∨ w = 3 ∨ w = 4 ∨ w = 5 ∨ w = 6 := by omega
  rcases hws with rfl | rfl | rfl | rfl | rfl | rfl | rfl
  · have hl := m_last (τ := τ) rfl h.hw t0 (by omega) h.hS.2.1 h.hS.1 st2
    simp (decide := true) only [opm, if_true, if_false]
    rw [show (96 : Nat) + 5 = 101 from rfl, show σ 101 (Int.toNat t) = lsN (τ 7) t d from st1.1, hl, Option.bind_some]
    dsimp only
    by_cases hx : lsN (τ 7) t d = n
    · have hnn : ¬ ¬ lsN (τ 7) t d = n := fun y => y hx
      rw [if_neg hnn, if_neg hnn]; exact ⟨τ, 1, Or.inr rfl, rfl, rfl, fun _ _ => rfl, fun _ _ => rfl⟩
    · rw [if_pos hx, if_pos hx]; exact ⟨τ, 0, Or.inl rfl, rfl, rfl, fun _ _ => rfl, fun _ _ => rfl⟩
  · simp (decide := true) only [opm, if_true, if_false]
    rw [ht.1, w32_id (x := 216 + t) (by omega) (by omega), if_pos (zin_t (by omega) (by omega))]
    by_cases hx : τ 7 (Int.toNat (216 + t)) = n
    · have hnn : ¬ ¬ τ 7 (Int.toNat (216 + t)) = n := fun y => y hx
      rw [if_neg hnn, if_neg hnn]; exact ⟨τ, 1, Or.inr rfl, rfl, rfl, fun _ _ => rfl, fun _ _ => rfl⟩
    · rw [if_pos hx, if_pos hx]; exact ⟨τ, 0, Or.inl rfl, rfl, rfl, fun _ _ => rfl, fun _ _ => rfl⟩
  · obtain ⟨τ', m1, m2, m3, m4⟩ := m_sense (τ := τ) rfl h.hw t0 (by omega) h.hS.2.1 h.hS.1 st2
    have hsn := sns_in h.hw (t := t) d st2
    simp (decide := true) only [opm, if_true, if_false]
    rw [show (96 : Nat) + 10 = 106 from rfl, show σ 106 (Int.toNat t) = (sns (τ 7) t d).2.2 from st1.2.2.2.2.2.1, m1, Option.bind_some]
    dsimp only
    by_cases hx : (sns (τ 7) t d).2.2 = -1
    · have hnn : ¬ ¬ (sns (τ 7) t d).2.2 = -1 := fun y => y hx
      rw [if_neg hnn, if_neg (show ¬ 0 ≤ (sns (τ 7) t d).2.2 by omega)]; exact ⟨τ', 1, Or.inr rfl, rfl, rfl, m2, m3⟩
    · rw [if_pos hx, if_pos (show 0 ≤ (sns (τ 7) t d).2.2 by omega)]; exact ⟨τ', 0, Or.inl rfl, rfl, rfl, m2, m3⟩
  · have hss := h3 (by omega)
    obtain ⟨r, r0, r1, r2⟩ := c_cmp (q := q) (x := τ 7 (Int.toNat (222 + t))) hi hs hn hss.1 hss.2 τ
    simp (decide := true) only [opm, if_true, if_false]
    rw [ht.2, w32_id (x := 222 + t) (by omega) (by omega), if_pos (zin_t (by omega) (by omega)), r1, r2, Option.bind_some]
    exact ⟨τ, r, r0, rfl, rfl, fun _ _ => rfl, fun _ _ => rfl⟩
  · have hss := h3 (by omega)
    have hwd := m_words (τ := τ) (lk := 0) (n := 0) rfl h.hw t0 (by omega) h.hS.2.1 h.hS.1 st2 (Nat.zero_le _)
    have e0 : cntN (τ 7) t 0 d - cntN (τ 7) t 0 0 = wdN (τ 7) t d := by unfold cntN; rw [if_pos rfl, if_pos rfl]; simp [wdN]
    rw [e0] at hwd
    have hwd' : f_M_wordsOf τ t 0 0 = some (τ, wdN (τ 7) t d) := hwd
    obtain ⟨r, r0, r1, r2⟩ := c_cmp (q := q) (x := wdN (τ 7) t d) hi hs hn hss.1 hss.2 τ
    simp (decide := true) only [opm, if_true, if_false]
    rw [show (96 : Nat) + 6 = 102 from rfl, show σ 102 (Int.toNat t) = wdN (τ 7) t d from st1.2.1, r1, hwd', Option.bind_some, Option.bind_some]
    exact ⟨τ, r, r0, rfl, r2, fun _ _ => rfl, fun _ _ => rfl⟩
  · have hss := h3 (by omega)
    have hwd := m_words (τ := τ) (lk := 1) (n := 0) rfl h.hw t0 (by omega) h.hS.2.1 h.hS.1 st2 (Nat.zero_le _)
    have e0 : cntN (τ 7) t 1 d - cntN (τ 7) t 1 0 = lkN (τ 7) t d := by unfold cntN; rw [if_neg (by decide), if_neg (by decide)]; simp [lkN]
    rw [e0] at hwd
    have hwd' : f_M_wordsOf τ t 0 1 = some (τ, lkN (τ 7) t d) := hwd
    obtain ⟨r, r0, r1, r2⟩ := c_cmp (q := q) (x := lkN (τ 7) t d) hi hs hn hss.1 hss.2 τ
    simp (decide := true) only [opm, if_true, if_false]
    rw [show (96 : Nat) + 7 = 103 from rfl, show σ 103 (Int.toNat t) = lkN (τ 7) t d from st1.2.2.1, r1, hwd', Option.bind_some, Option.bind_some]
    exact ⟨τ, r, r0, rfl, r2, fun _ _ => rfl, fun _ _ => rfl⟩
  · have hss := h3 (by omega)
    obtain ⟨r, r0, r1, r2⟩ := c_cmp (q := q) (x := t) hi hs hn hss.1 hss.2 τ
    simp (decide := true) only [opm, if_true, if_false]
    rw [r1, r2, Option.bind_some]
    exact ⟨τ, r, r0, rfl, rfl, fun _ _ => rfl, fun _ _ => rfl⟩
end G37
