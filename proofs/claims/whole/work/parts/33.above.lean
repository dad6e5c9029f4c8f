/-! ABOVE a town, its one source, what comes to it -/
section G3
variable {σ τ : zH} {k : Nat} {a : Nat → Int}
/-- a reach's way comes to T -/
def abv (a : Nat → Int) (T : Int) : Nat → Int → Bool
  | 0, _ => false
  | n + 1, q => if q < 0 then false else if q = T then true else abv a T n (a (Int.toNat (24 + q)))
theorem abv_fuel (hw : wfL a) {T : Int} : ∀ (n m : Nat) (q : Int), -1 ≤ q → q < a 1 → q + 1 ≤ n → q + 1 ≤ m → abv a T n q = abv a T m q := by
  intro n
  induction n with
  | zero =>
    intro m q g1 g2 g3 g4
    cases m with
    | zero => rfl
    | succ m => simp only [abv]; rw [if_pos (show q < 0 by omega)]
  | succ n ih =>
    intro m q g1 g2 g3 g4
    cases m with
    | zero => simp only [abv]; rw [if_pos (show q < 0 by omega)]
    | succ m =>
      simp only [abv]
      by_cases hq : q < 0
      · rw [if_pos hq, if_pos hq]
      · rw [if_neg hq, if_neg hq]
        have h9 := hw.2.2.1 q (by omega) g2
        by_cases hT : q = T
        · rw [if_pos hT, if_pos hT]
        · rw [if_neg hT, if_neg hT]
          exact ih m _ (by omega) (by omega) (by omega) (by omega)
def Abv (a : Nat → Int) (T q : Int) : Bool := abv a T 9 q
theorem Abv_step (hw : wfL a) {T q : Int} (h0 : 0 ≤ q) (h1 : q < a 1) : Abv a T q = (decide (q = T) || Abv a T (a (Int.toNat (24 + q)))) := by
  have h9 := hw.2.2.1 q h0 h1
  have hc := hw.1.2.1
  unfold Abv
  rw [show abv a T 9 q = abv a T 10 q from abv_fuel hw 9 10 q (by omega) h1 (by omega) (by omega)]
  show (if q < 0 then false else if q = T then true else abv a T 9 (a (Int.toNat (24 + q)))) = _
  rw [if_neg (by omega)]
  by_cases hT : q = T
  · rw [if_pos hT]; simp [hT]
  · rw [if_neg hT]; simp [hT]
def AbP (a : Nat → Int) (T q : Int) : Prop := Abv a T q = true
theorem AbP_step (hw : wfL a) {T q : Int} (h0 : 0 ≤ q) (h1 : q < a 1) : AbP a T q ↔ (q = T ∨ AbP a T (a (Int.toNat (24 + q)))) := by
  unfold AbP
  rw [Abv_step hw h0 h1, Bool.or_eq_true, decide_eq_true_eq]
theorem AbP_neg {T : Int} : ¬ AbP a T (-1) := by
  intro h
  cases h
theorem w32_s {r : Nat} (h : r < 1000000) : w32 ((r : Int) + 1) = ((r + 1 : Nat) : Int) := by
  rw [w32_id (by omega) (by omega)]; rfl
theorem tb_or_pow {N i j : Nat} : (N ||| 2 ^ i).testBit j = (N.testBit j || decide (i = j)) := by
  rw [Nat.testBit_or, Nat.testBit_two_pow]
theorem or_lt {N i : Nat} (hN : N < 256) (hi : i < 8) : N ||| 2 ^ i < 256 := by
  apply Nat.or_lt_two_pow (n := 8) hN
  exact Nat.pow_lt_pow_right (by decide) hi
/-- the class's bits -/
theorem c_above (h : LandR σ k a) (hw : wfL a) {T : Int} (hT0 : 0 ≤ T) (hT1 : T < a 1) : ∀ (n : Nat) (r N : Nat), a 1 ≤ r + n → (r : Int) ≤ a 1 → N < 256 → (∀ j : Nat, N.testBit j = true ↔ ((j < r ∧ AbP a T j) ∨ (j : Int) = T)) →
    ∃ M : Nat, f_Country_reachesAbove_11 σ k (N : Int) (r : Int) = some (σ, (M : Int)) ∧ M < 256 ∧ ∀ j : Nat, M.testBit j = true ↔ ((j : Int) < a 1 ∧ AbP a T j) := by
  have hc := hw.1.2.1
  have hTT : AbP a T T := (AbP_step hw hT0 hT1).mpr (Or.inl rfl)
  intro n
  induction n with
  | zero =>
    intro r N g1 g2 g3 g4
    refine ⟨N, ?_, g3, ?_⟩
    · rw [e_Country_reachesAbove_11, h.1.2.1, if_pos (by omega)]
    · intro j
      rw [g4]
      constructor
      · rintro (⟨q1, q2⟩ | q)
        · exact ⟨by omega, q2⟩
        · rw [q]; exact ⟨hT1, hTT⟩
      · rintro ⟨q1, q2⟩
        exact Or.inl ⟨by omega, q2⟩
  | succ n ih =>
    intro r N g1 g2 g3 g4
    rw [e_Country_reachesAbove_11, h.1.2.1]
    by_cases hr : a 1 ≤ (r : Int)
    · rw [if_pos hr]
      refine ⟨N, rfl, g3, ?_⟩
      intro j
      rw [g4]
      constructor
      · rintro (⟨q1, q2⟩ | q)
        · exact ⟨by omega, q2⟩
        · rw [q]; exact ⟨hT1, hTT⟩
      · rintro ⟨q1, q2⟩
        exact Or.inl ⟨by omega, q2⟩
    · rw [if_neg hr]
      have h9 := hw.2.2.1 r (by omega) (by omega)
      have h8 := (h.2.2.1 r (by omega) (by omega)).1
      have hs := AbP_step hw (T := T) (q := (r : Int)) (by omega) (by omega)
      rw [if_pos (zin_t (by omega) (by omega)), h8.2.1, w32_s (by omega)]
      by_cases hi : a (Int.toNat (24 + (r : Int))) = -1
      · rw [if_pos hi]
        refine ih (r + 1) N (by omega) (by omega) g3 (fun j => ?_)
        rw [g4]
        rw [hi] at hs
        constructor
        · rintro (⟨q1, q2⟩ | q)
          · exact Or.inl ⟨by omega, q2⟩
          · exact Or.inr q
        · rintro (⟨q1, q2⟩ | q)
          · by_cases hj : j < r
            · exact Or.inl ⟨hj, q2⟩
            · have : j = r := by omega
              subst this
              rcases hs.mp q2 with q2 | q2
              · exact Or.inr q2
              · exact absurd q2 AbP_neg
          · exact Or.inr q
      · rw [if_neg hi, if_pos (zin_t (by omega) (by omega))]
        obtain ⟨v, hv⟩ : ∃ v : Nat, a (Int.toNat (24 + (r : Int))) = (v : Int) := ⟨(a (Int.toNat (24 + (r : Int)))).toNat, by omega⟩
        rw [hv, zbit (by omega) (by omega)]
        rw [hv] at hs
        have hvv : N.testBit v = true ↔ AbP a T v := by
          rw [g4]
          constructor
          · rintro (⟨_, q⟩ | q)
            · exact q
            · rw [q]; exact hTT
          · intro q
            exact Or.inl ⟨by omega, q⟩
        by_cases hb : N.testBit v = true
        · rw [if_pos hb, if_neg (by decide), zshl_1 (by omega), zor_nat (by omega) (by have := Nat.pow_lt_pow_right (show 1 < 2 by decide) (show r < 8 by omega); omega)]
          refine ih (r + 1) (N ||| 2 ^ r) (by omega) (by omega) (or_lt g3 (by omega)) (fun j => ?_)
          rw [tb_or_pow, Bool.or_eq_true, g4, decide_eq_true_eq]
          constructor
          · rintro ((⟨q1, q2⟩ | q) | q)
            · exact Or.inl ⟨by omega, q2⟩
            · exact Or.inr q
            · subst q
              exact Or.inl ⟨by omega, hs.mpr (Or.inr (hvv.mp hb))⟩
          · rintro (⟨q1, q2⟩ | q)
            · by_cases hj : j < r
              · exact Or.inl (Or.inl ⟨hj, q2⟩)
              · exact Or.inr (by omega)
            · exact Or.inl (Or.inr q)
        · rw [if_neg hb, if_pos (by decide)]
          refine ih (r + 1) N (by omega) (by omega) g3 (fun j => ?_)
          rw [g4]
          constructor
          · rintro (⟨q1, q2⟩ | q)
            · exact Or.inl ⟨by omega, q2⟩
            · exact Or.inr q
          · rintro (⟨q1, q2⟩ | q)
            · by_cases hj : j < r
              · exact Or.inl ⟨hj, q2⟩
              · have : j = r := by omega
                subst this
                rcases hs.mp q2 with q2 | q2
                · exact Or.inr q2
                · exact absurd (hvv.mpr q2) hb
            · exact Or.inr q
/-- the reference's way down -/
theorem m_abv_in (hτ : τ 7 = a) (hw : wfL a) {t : Int} (h0 : 0 ≤ t) (h1 : t < a 4) {r : Nat} (hr : (r : Int) < a 1) : ∀ (n : Nat) (q : Int) (N : Nat), -1 ≤ q → q < a 1 → q + 1 ≤ n → N < 256 →
    ∃ M : Nat, f_M_aboveOf_17 τ t (N : Int) (r : Int) q = f_M_aboveOf_4 τ t (M : Int) ((r + 1 : Nat) : Int) ∧ M < 256 ∧ ∀ j : Nat, M.testBit j = true ↔ (N.testBit j = true ∨ (j = r ∧ abv a (a (Int.toNat (216 + t))) n q = true)) := by
  have hc := hw.1.2.1
  have hct := hw.1.2.2.2.2.1
  intro n
  induction n with
  | zero =>
    intro q N g1 g2 g3 g4
    refine ⟨N, ?_, g4, fun j => ?_⟩
    · rw [e_M_aboveOf_17, if_pos (show q < 0 by omega), w32_s (by omega)]
    · simp [abv]
  | succ n ih =>
    intro q N g1 g2 g3 g4
    by_cases hq : q < 0
    · refine ⟨N, ?_, g4, fun j => ?_⟩
      · rw [e_M_aboveOf_17, if_pos hq, w32_s (by omega)]
      · simp [abv, hq]
    · have h9 := hw.2.2.1 q (by omega) g2
      rw [e_M_aboveOf_17, if_neg hq, hτ]
      simp (disch := omega) only [w32_id, zin_t, if_true, ifn]
      by_cases hT : q = a (Int.toNat (216 + t))
      · rw [if_pos hT, zshl_1 (by omega), zor_nat (by omega) (by have := Nat.pow_lt_pow_right (show 1 < 2 by decide) (show r < 8 by omega); omega)]
        obtain ⟨M, m1, m2, m3⟩ := ih (a (Int.toNat (24 + q))) (N ||| 2 ^ r) (by omega) (by omega) (by omega) (or_lt g4 (by omega))
        refine ⟨M, m1, m2, fun j => ?_⟩
        rw [m3, tb_or_pow, Bool.or_eq_true, decide_eq_true_eq]
        have : abv a (a (Int.toNat (216 + t))) (n + 1) q = true := by simp only [abv]; rw [if_neg hq, if_pos hT]
        rw [this]
        constructor
        · rintro ((q1 | q1) | ⟨q1, q2⟩)
          · exact Or.inl q1
          · exact Or.inr ⟨q1.symm, rfl⟩
          · exact Or.inr ⟨q1, rfl⟩
        · rintro (q1 | ⟨q1, -⟩)
          · exact Or.inl (Or.inl q1)
          · exact Or.inl (Or.inr q1.symm)
      · rw [if_neg hT]
        obtain ⟨M, m1, m2, m3⟩ := ih (a (Int.toNat (24 + q))) N (by omega) (by omega) (by omega) g4
        refine ⟨M, m1, m2, fun j => ?_⟩
        rw [m3]
        have : abv a (a (Int.toNat (216 + t))) (n + 1) q = abv a (a (Int.toNat (216 + t))) n (a (Int.toNat (24 + q))) := by simp only [abv]; rw [if_neg hq, if_neg hT]
        rw [this]
theorem m_above (hτ : τ 7 = a) (hw : wfL a) {t : Int} (h0 : 0 ≤ t) (h1 : t < a 4) : ∀ (n : Nat) (r N : Nat), a 1 ≤ r + n → (r : Int) ≤ a 1 → N < 256 → (∀ j : Nat, N.testBit j = true ↔ (j < r ∧ AbP a (a (Int.toNat (216 + t))) j)) →
    ∃ M : Nat, f_M_aboveOf_4 τ t (N : Int) (r : Int) = some (τ, (M : Int)) ∧ M < 256 ∧ ∀ j : Nat, M.testBit j = true ↔ ((j : Int) < a 1 ∧ AbP a (a (Int.toNat (216 + t))) j) := by
  have hc := hw.1.2.1
  intro n
  induction n with
  | zero =>
    intro r N g1 g2 g3 g4
    refine ⟨N, ?_, g3, fun j => ?_⟩
    · rw [e_M_aboveOf_4, hτ, if_pos (by omega)]
    · rw [g4]; constructor
      · rintro ⟨q1, q2⟩; exact ⟨by omega, q2⟩
      · rintro ⟨q1, q2⟩; exact ⟨by omega, q2⟩
  | succ n ih =>
    intro r N g1 g2 g3 g4
    rw [e_M_aboveOf_4, hτ]
    by_cases hr : a 1 ≤ (r : Int)
    · rw [if_pos hr]
      refine ⟨N, rfl, g3, fun j => ?_⟩
      rw [g4]; constructor
      · rintro ⟨q1, q2⟩; exact ⟨by omega, q2⟩
      · rintro ⟨q1, q2⟩; exact ⟨by omega, q2⟩
    · rw [if_neg hr]
      obtain ⟨M, m1, m2, m3⟩ := m_abv_in hτ hw h0 h1 (r := r) (by omega) 9 (r : Int) N (by omega) (by omega) (by omega) g3
      rw [m1]
      refine ih (r + 1) M (by omega) (by omega) m2 (fun j => ?_)
      rw [m3, g4]
      constructor
      · rintro (⟨q1, q2⟩ | ⟨rfl, q2⟩)
        · exact ⟨by omega, q2⟩
        · exact ⟨by omega, q2⟩
      · rintro ⟨q1, q2⟩
        by_cases hj : j < r
        · exact Or.inl ⟨hj, q2⟩
        · have : j = r := by omega
          subst this
          exact Or.inr ⟨rfl, q2⟩
theorem q_above (h : LandR σ k a) (hτ : τ 7 = a) (hw : wfL a) {t : Int} (h0 : 0 ≤ t) (h1 : t < a 4) : ∃ M : Nat, f_Country_reachesAbove σ k t = some (σ, (M : Int)) ∧ f_M_aboveOf τ t = some (τ, (M : Int)) ∧ M < 256 ∧ ∀ j : Nat, M.testBit j = true ↔ ((j : Int) < a 1 ∧ AbP a (a (Int.toNat (216 + t))) j) := by
  have hwt := hw.2.2.2.2.2.2.1 t h0 h1
  have h9 := (h.2.2.2.2 t h0 h1).1
  have hc := hw.1.2.1
  have hct := hw.1.2.2.2.2.1
  obtain ⟨M, m1, m2, m3⟩ := m_above hτ hw h0 h1 8 0 0 (by omega) (by omega) (by decide) (fun j => by simp)
  obtain ⟨v, hv⟩ : ∃ v : Nat, a (Int.toNat (216 + t)) = (v : Int) := ⟨(a (Int.toNat (216 + t))).toNat, by omega⟩
  obtain ⟨M', n1, n2, n3⟩ := c_above h hw (T := a (Int.toNat (216 + t))) hwt.1.1 hwt.1.2 8 0 (2 ^ v) (by omega) (by omega) (Nat.pow_lt_pow_right (by decide) (show v < 8 by omega)) (fun j => by
    rw [Nat.testBit_two_pow, decide_eq_true_eq, hv]
    constructor
    · intro q; exact Or.inr (by omega)
    · rintro (⟨q, -⟩ | q)
      · omega
      · omega)
  have hMM : M' = M := by
    apply Nat.eq_of_testBit_eq
    intro j
    have := n3 j
    have := m3 j
    cases hx : M'.testBit j <;> cases hy : M.testBit j <;> simp_all
  subst hMM
  refine ⟨M', ?_, ?_, m2, m3⟩
  · rw [e_Country_reachesAbove, if_pos (zin_t h0 (by omega)), h9.1, hv, zshl_1 (by omega)]
    exact n1
  · rw [e_M_aboveOf]
    exact m1
end G3
