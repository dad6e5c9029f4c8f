/-! THE ONE SOURCE of a town -/
section G4
variable {σ τ : zH} {k : Nat} {a : Nat → Int}
/-- two ways that meet: a reach into which two flow -/
theorem merge2 (hw : wfL a) {T : Int} : ∀ (n : Nat) (x y : Int), 0 ≤ x → 0 ≤ y → x < a 1 → y < a 1 → x + y ≤ n → x ≠ y → AbP a T x → AbP a T y →
    (0 < a (Int.toNat (40 + x)) ∨ ∃ u : Int, 0 ≤ u ∧ u < a 1 ∧ a (Int.toNat (24 + u)) = x ∧ y < u) →
    (0 < a (Int.toNat (40 + y)) ∨ ∃ u : Int, 0 ≤ u ∧ u < a 1 ∧ a (Int.toNat (24 + u)) = y ∧ x < u) →
    ∃ q : Int, 0 ≤ q ∧ q < x + y ∧ q ≤ x ∧ q ≤ y ∧ AbP a T q ∧ 2 ≤ a (Int.toNat (32 + q)) := by
  have low : ∀ (n : Nat) (x : Int), 0 ≤ x → x < a 1 → x ≤ n → AbP a T x → T ≤ x := by
    intro n
    induction n with
    | zero =>
      intro x h0 h1 h2 hx
      rcases (AbP_step hw h0 h1).mp hx with h | h
      · omega
      · have := hw.2.2.1 x h0 h1
        have h4 : a (Int.toNat (24 + x)) = -1 := by omega
        rw [h4] at h
        exact absurd h AbP_neg
    | succ n ih =>
      intro x h0 h1 h2 hx
      rcases (AbP_step hw h0 h1).mp hx with h | h
      · omega
      · have := hw.2.2.1 x h0 h1
        by_cases h4 : a (Int.toNat (24 + x)) = -1
        · rw [h4] at h
          exact absurd h AbP_neg
        · have := ih _ (by omega) (by omega) (by omega) h
          omega
  intro n
  induction n with
  | zero =>
    intro x y g1 g2 g3 g4 g5 g6
    exact absurd (show x = y by omega) g6
  | succ n ih =>
    -- the larger one goes on
    have key : ∀ x y : Int, 0 ≤ x → 0 ≤ y → x < a 1 → y < a 1 → x + y ≤ (n + 1 : Nat) → x < y → AbP a T x → AbP a T y →
      (0 < a (Int.toNat (40 + x)) ∨ ∃ u : Int, 0 ≤ u ∧ u < a 1 ∧ a (Int.toNat (24 + u)) = x ∧ y < u) →
      ∃ q : Int, 0 ≤ q ∧ q < x + y ∧ q ≤ x ∧ q ≤ y ∧ AbP a T q ∧ 2 ≤ a (Int.toNat (32 + q)) := by
      intro x y g1 g2 g3 g4 g5 g6 hx hy px
      have hr := hw.2.2.1 y g2 g4
      have hTx := low x.toNat x g1 g3 (by omega) hx
      have hy' : AbP a T (a (Int.toNat (24 + y))) := by
        rcases (AbP_step hw g2 g4).mp hy with h | h
        · omega
        · exact h
      have hne : a (Int.toNat (24 + y)) ≠ -1 := by
        intro h
        rw [h] at hy'
        exact AbP_neg hy'
      by_cases he : a (Int.toNat (24 + y)) = x
      · refine ⟨x, g1, by omega, by omega, by omega, hx, ?_⟩
        rcases px with px | ⟨u, u1, u2, u3, u4⟩
        · have := (hw.2.2.2.2.1.1 y g2 g4 (by omega)).2
          rw [he] at this
          omega
        · have := hw.2.2.2.2.1.2 y u g2 u4 u2 (by omega) (by rw [he, u3])
          rw [he] at this
          exact this
      · obtain ⟨q, q1, q2, q3, q4, q5, q6⟩ := ih x (a (Int.toNat (24 + y))) g1 (by omega) g3 (by omega) (by omega) (fun h => he h.symm) hx hy' (by
          rcases px with px | ⟨u, u1, u2, u3, u4⟩
          · exact Or.inl px
          · exact Or.inr ⟨u, u1, u2, u3, by omega⟩) (Or.inr ⟨y, g2, g4, rfl, by omega⟩)
        exact ⟨q, q1, by omega, q3, by omega, q5, q6⟩
    intro x y g1 g2 g3 g4 g5 g6 hx hy px py
    by_cases hlt : x < y
    · exact key x y g1 g2 g3 g4 g5 hlt hx hy px
    · obtain ⟨q, q1, q2, q3, q4, q5, q6⟩ := key y x g2 g1 g4 g3 (by clear px py; omega) (by clear px py; omega) hy hx py
      exact ⟨q, q1, by omega, q4, q3, q5, q6⟩
theorem q_source_in (h : LandR σ k a) (hτ : τ 7 = a) (hw : wfL a) {T : Int} {M : Nat} (hM : M < 256) (hb : ∀ j : Nat, M.testBit j = true ↔ ((j : Int) < a 1 ∧ AbP a T j)) : ∀ (n r : Nat) (s c : Int), a 1 ≤ r + n → (r : Int) ≤ a 1 → (∀ j : Int, 0 ≤ j → j < r → AbP a T j → a (Int.toNat (32 + j)) ≤ 1) →
    ((c = 0 ∧ s = -1 ∧ ∀ j : Int, 0 ≤ j → j < r → AbP a T j → a (Int.toNat (40 + j)) ≤ 0) ∨ (c = 1 ∧ 0 ≤ s ∧ s < r ∧ AbP a T s ∧ 0 < a (Int.toNat (40 + s)))) →
    ∃ q, f_Country_oneSource_11 σ k (M : Int) s (r : Int) = some (σ, q) ∧ f_M_sourceOf_14 τ (M : Int) c s (r : Int) = some (τ, q) ∧ -1 ≤ q ∧ q < a 1 ∧ (q ≠ -1 → 0 < a (Int.toNat (40 + q)) ∧ AbP a T q) := by
  have hc := hw.1.2.1
  intro n
  have fin : ∀ (r : Nat) (s c : Int), a 1 ≤ r → (r : Int) ≤ a 1 → ((c = 0 ∧ s = -1 ∧ ∀ j : Int, 0 ≤ j → j < r → AbP a T j → a (Int.toNat (40 + j)) ≤ 0) ∨ (c = 1 ∧ 0 ≤ s ∧ s < r ∧ AbP a T s ∧ 0 < a (Int.toNat (40 + s)))) →
      ∃ q, f_Country_oneSource_11 σ k (M : Int) s (r : Int) = some (σ, q) ∧ f_M_sourceOf_14 τ (M : Int) c s (r : Int) = some (τ, q) ∧ -1 ≤ q ∧ q < a 1 ∧ (q ≠ -1 → 0 < a (Int.toNat (40 + q)) ∧ AbP a T q) := by
    intro r s c g1 g1' g3
    rw [e_Country_oneSource_11, e_M_sourceOf_14, h.1.2.1, hτ, if_pos g1, if_pos g1]
    rcases g3 with ⟨rfl, rfl, -⟩ | ⟨rfl, g4, g5, g7, g6⟩
    · exact ⟨-1, rfl, by rw [if_pos (by decide)], by omega, by omega, fun h => absurd rfl h⟩
    · exact ⟨s, rfl, by rw [if_neg (by decide)], by omega, by omega, fun _ => ⟨g6, g7⟩⟩
  induction n with
  | zero =>
    intro r s c g1 g2 g3 g4
    exact fin r s c (by omega) g2 g4
  | succ n ih =>
    intro r s c g1 g2 g3 g4
    by_cases hr : a 1 ≤ (r : Int)
    · exact fin r s c hr g2 g4
    · rw [e_Country_oneSource_11, e_M_sourceOf_14, h.1.2.1, hτ, if_neg hr, if_neg hr, m_bitOf (by omega) (by omega), zbit (by omega) (by omega)]
      have h9 := hw.2.2.1 r (by omega) (by omega)
      have h8 := (h.2.2.1 r (by omega) (by omega)).1
      simp only [Option.bind_some, if10, ifn, Decidable.not_not]
      have hbr := hb r
      by_cases hbit : M.testBit r = true
      · rw [if_pos hbit, if_pos (by decide), if_pos hbit, if_pos (zin_t (by omega) (by omega)), h8.2.2.1, hτ]
        have hA := (hbr.mp hbit).2
        rw [w32_id (x := 32 + (r : Int)) (by omega) (by omega), w32_id (x := 40 + (r : Int)) (by omega) (by omega), if_pos (zin_t (i := 32 + (r : Int)) (by omega) (by omega)), if_pos (zin_t (i := 40 + (r : Int)) (by omega) (by omega)), if_pos (zin_t (by omega) (by omega)), h8.2.2.2, w32_s (by omega)]
        by_cases hi : a (Int.toNat (32 + (r : Int))) ≤ 1
        · rw [if_pos hi, if_pos hi]
          by_cases hs : a (Int.toNat (40 + (r : Int))) ≤ 0
          · rw [if_pos hs, if_pos (show a (Int.toNat (40 + (r : Int))) = 0 by omega)]
            refine ih (r + 1) s c (by omega) (by omega) (fun j j1 j2 j3 => ?_) ?_
            · by_cases hj : j < r
              · exact g3 j j1 hj j3
              · have : j = r := by omega
                rw [this]; exact hi
            · rcases g4 with ⟨c1, c2, c3⟩ | ⟨c1, c2, c3, c4⟩
              · refine Or.inl ⟨c1, c2, fun j j1 j2 j3 => ?_⟩
                by_cases hj : j < r
                · exact c3 j j1 hj j3
                · have : j = r := by omega
                  rw [this]; exact hs
              · exact Or.inr ⟨c1, c2, by omega, c4⟩
          · rw [if_neg hs, if_neg (show ¬ a (Int.toNat (40 + (r : Int))) = 0 by omega)]
            rcases g4 with ⟨rfl, c2, c3⟩ | ⟨c1, c2, c3, c4, c5⟩
            · refine ih (r + 1) r 1 (by omega) (by omega) (fun j j1 j2 j3 => ?_) (Or.inr ⟨rfl, by omega, by omega, hA, by omega⟩)
              by_cases hj : j < r
              · exact g3 j j1 hj j3
              · have : j = r := by omega
                rw [this]; exact hi
            · exfalso
              obtain ⟨q, q1, q2, q3, q4, q5, q6⟩ := merge2 hw (T := T) (s + r).toNat s r c2 (by omega) (by omega) (by omega) (by omega) (by omega) c4 hA (Or.inl c5) (Or.inl (by omega))
              have := g3 q q1 (by omega) q5
              omega
        · rw [if_neg hi, if_neg hi]
          exact ⟨-1, rfl, rfl, by omega, by omega, fun h => absurd rfl h⟩
      · rw [if_neg hbit, if_neg (by decide), if_neg hbit, w32_s (by omega)]
        refine ih (r + 1) s c (by omega) (by omega) (fun j j1 j2 j3 => ?_) ?_
        · by_cases hj : j < r
          · exact g3 j j1 hj j3
          · have : j = r := by omega
            subst this
            exact absurd (hbr.mpr ⟨by omega, j3⟩) hbit
        · rcases g4 with ⟨c1, c2, c3⟩ | ⟨c1, c2, c3, c4⟩
          · refine Or.inl ⟨c1, c2, fun j j1 j2 j3 => ?_⟩
            by_cases hj : j < r
            · exact c3 j j1 hj j3
            · have : j = r := by omega
              subst this
              exact absurd (hbr.mpr ⟨by omega, j3⟩) hbit
          · exact Or.inr ⟨c1, c2, by omega, c4⟩
theorem q_source (h : LandR σ k a) (hτ : τ 7 = a) (hw : wfL a) {t : Int} (h0 : 0 ≤ t) (h1 : t < a 4) : ∃ q, f_Country_oneSource σ k t = some (σ, q) ∧ f_M_sourceOf τ t = some (τ, q) ∧ -1 ≤ q ∧ q < a 1 ∧ (q ≠ -1 → 0 < a (Int.toNat (40 + q)) ∧ AbP a (a (Int.toNat (216 + t))) q) := by
  have hc := hw.1.2.1
  obtain ⟨M, m1, m2, m3, m4⟩ := q_above h hτ hw h0 h1
  obtain ⟨q, q1, q2, q3, q4, q5⟩ := q_source_in h hτ hw m3 m4 8 0 (-1) 0 (by omega) (by omega) (fun j j1 j2 => by omega) (Or.inl ⟨rfl, rfl, fun j j1 j2 => by omega⟩)
  refine ⟨q, ?_, ?_, q3, q4, q5⟩
  · rw [e_Country_oneSource, m1]; exact q1
  · rw [e_M_sourceOf, m2]; exact q2
end G4
