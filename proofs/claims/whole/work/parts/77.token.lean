/-! A TOKEN, both sides -/
section G52
variable {σ τ σ' τ' σ2 τ2 : zH} {L mx p a : Nat}
def KeyR (σ : zH) : Prop := (σ 64 6 = -1 ∧ ∀ i, i < 26 → zkw i ≠ σ 64 8) ∨ ∃ i : Nat, i < 26 ∧ σ 64 6 = (i : Int) ∧ zkw i = σ 64 8
def TokK (σ τ : zH) : Prop := (σ 64 4 = 0 ∧ τ 0 11 = 0 ∧ σ 64 6 = -1) ∨ ((σ 64 4 = 1 ∨ σ 64 4 = 46) ∧ τ 0 11 = 4 ∧ σ 64 6 = -1) ∨ (σ 64 4 = 2 ∧ τ 0 11 = 1 ∧ σ 64 8 = τ 0 17 ∧ σ 64 8 ≠ 0 ∧ KeyR σ) ∨ (σ 64 4 = 3 ∧ τ 0 11 = 2 ∧ σ 64 7 = τ 0 14 ∧ 0 ≤ σ 64 7 ∧ σ 64 7 ≤ 999 ∧ σ 64 6 = -1) ∨ (isSgn (σ 64 4) ∧ τ 0 11 = 3 ∧ τ 0 14 = σ 64 4 ∧ σ 64 6 = -1)
def TokR (σ τ : zH) (L a p : Nat) : Prop := σ 64 5 = (a : Int) ∧ τ 0 12 = (a : Int) ∧ a ≤ 940 ∧ TokK σ τ ∧ (τ 0 11 ≠ 4 → σ 64 3 = (p : Int) ∧ τ 0 4 = (p : Int) ∧ p ≤ L ∧ a ≤ p ∧ (τ 0 11 ≠ 0 → a + 1 ≤ p))
theorem c_findKey_l : ∀ (r i : Nat) (σ : zH), i + r = 26 → σ 64 6 = -1 → (∀ x, x < i → zkw x ≠ σ 64 8) → ∃ σ', f_Tape_findKey_2 σ (i : Int) = some (σ', 0) ∧ KeyR σ' ∧ ∀ j y, ¬ (j = 64 ∧ y = 6) → σ' j y = σ j y
  | 0, i, σ, hi, h6, hx => ⟨σ, by rw [e_Tape_findKey_2, if_pos (by omega)], Or.inl ⟨h6, fun x q => hx x (by omega)⟩, fun _ _ _ => rfl⟩
  | r + 1, i, σ, hi, h6, hx => by
    rw [e_Tape_findKey_2, if_neg (by omega), if_pos (zin_t (by omega) (by omega)), show Int.toNat (i : Int) = i from rfl]
    by_cases hk : zkw i = σ 64 8
    · rw [if_neg (fun x => x (zcmp_0.mpr hk))]
      refine ⟨_, rfl, Or.inr ⟨i, by omega, zs, by rw [zi (by decide)]; exact hk⟩, fun j y hj => ?_⟩
      by_cases j4 : j = 64
      · subst j4; rw [zi (by omega)]
      · rw [zk j4]
    · rw [if_pos (fun x => hk (zcmp_0.mp x)), w32_s (by omega)]
      exact c_findKey_l r (i + 1) σ (by omega) h6 (fun x q => by
        by_cases hxi : x = i
        · rw [hxi]; exact hk
        · exact hx x (by omega))
theorem c_findKey (h6 : σ 64 6 = -1) : ∃ σ', f_Tape_findKey σ = some (σ', 0) ∧ KeyR σ' ∧ ∀ j y, ¬ (j = 64 ∧ y = 6) → σ' j y = σ j y := by
  rw [e_Tape_findKey]
  exact c_findKey_l 26 0 σ rfl h6 (fun x q => absurd q (Nat.not_lt_zero x))
theorem tok_in (h : LexR σ τ L mx) (hp : p ≤ L) (h3 : σ 64 3 = (p : Int)) (h4 : τ 0 4 = (p : Int)) (h5 : σ 64 5 = (p : Int)) (h6 : σ 64 6 = -1) (h12 : τ 0 12 = (p : Int)) (h13 : τ 0 13 = 0) :
    ∃ σ' τ' p', f_Tape_advance_112 σ = some (σ', 0) ∧ f_M_next_80 τ = some (τ', 0) ∧ FrC σ σ' ∧ FrM τ τ' ∧ TokR σ' τ' L p p' := by
  have hL := h.1.1
  rw [e_Tape_advance_112, h3, h.2.1]
  by_cases hpL : p < L
  · rw [if_pos (by omega), e_Tape_scanToken]
    have f2 : FrC σ (zset (zset σ 64 8 0) 64 7 0) := (FrC.set (by omega)).trans (FrC.set (by omega))
    have b3 : zset (zset σ 64 8 0) 64 7 0 64 3 = (p : Int) := by rw [zi (by decide), zi (by decide)]; exact h3
    have b5 : zset (zset σ 64 8 0) 64 7 0 64 5 = (p : Int) := by rw [zi (by decide), zi (by decide)]; exact h5
    have b6 : zset (zset σ 64 8 0) 64 7 0 64 6 = -1 := by rw [zi (by decide), zi (by decide)]; exact h6
    have b8 : zset (zset σ 64 8 0) 64 7 0 64 8 = 0 := by rw [zi (by decide), zs]
    have b7 : zset (zset σ 64 8 0) 64 7 0 64 7 = 0 := zs
    have bB : zset (zset σ 64 8 0) 64 7 0 65 p = σ 65 p := by rw [zk (by decide), zk (by decide)]
    generalize zset (zset σ 64 8 0) 64 7 0 = σ2 at *
    by_cases hc : alnum (σ 65 p)
    · have pk := m_peek h h4
      rw [if_pos hpL] at pk
      have hM : ∃ s : Int, f_M_next_80 τ = f_M_next_181 (zset (zset τ 0 17 0) 0 14 0) s 1 ∧ ((s = 1 ∧ 97 ≤ σ 65 p ∧ σ 65 p ≤ 122) ∨ (s = 0 ∧ 48 ≤ σ 65 p ∧ σ 65 p ≤ 57)) := by
        unfold alnum at hc
        rw [e_M_next_80, pk, Option.bind_some]
        dsimp only
        rw [if_pos (show 0 ≤ σ 65 p by omega), m_isSmall, Option.bind_some]
        dsimp only
        rcases hc with hc | hc
        · rw [if_pos hc, in10, m_isSmall, if_pos hc, Option.bind_some]
          exact ⟨1, rfl, Or.inl ⟨rfl, hc⟩⟩
        · rw [if_neg (show ¬ (97 ≤ σ 65 p ∧ σ 65 p ≤ 122) by omega), in00, m_isDigit, if_pos hc, Option.bind_some]
          dsimp only
          rw [in10, m_isSmall, if_neg (show ¬ (97 ≤ σ 65 p ∧ σ 65 p ≤ 122) by omega), Option.bind_some]
          exact ⟨0, rfl, Or.inr ⟨rfl, hc⟩⟩
      obtain ⟨s, m1, m2⟩ := hM
      have g2 : FrM τ (zset (zset τ 0 17 0) 0 14 0) := (FrM.set (by omega)).trans (FrM.set (by omega))
      have c4 : zset (zset τ 0 17 0) 0 14 0 0 4 = (p : Int) := by rw [zi (by decide), zi (by decide)]; exact h4
      have c12 : zset (zset τ 0 17 0) 0 14 0 0 12 = (p : Int) := by rw [zi (by decide), zi (by decide)]; exact h12
      have c13 : zset (zset τ 0 17 0) 0 14 0 0 13 = 0 := by rw [zi (by decide), zi (by decide)]; exact h13
      have c17 : zset (zset τ 0 17 0) 0 14 0 0 17 = 0 := by rw [zi (by decide), zs]
      have c14 : zset (zset τ 0 17 0) 0 14 0 0 14 = 0 := zs
      rw [m1]
      generalize zset (zset τ 0 17 0) 0 14 0 = τ2 at *
      have hs : s = 0 ∨ s = 1 := by
        rcases m2 with ⟨q, -⟩ | ⟨q, -⟩
        · exact Or.inr q
        · exact Or.inl q
      obtain ⟨σ', τ', a1, a2, p', a3, a4, a5, a6, a7, a8, a9, d1, d2, d3, d4⟩ := scan_both (L - p) p 0 0 σ2 τ2 s 1 (h.fr f2 g2) (by omega) ⟨b3, c4, c13, by omega, hs, by simp, Or.inl ⟨rfl, hpL, by rw [bB]; exact m2⟩, fun _ _ => ⟨by rw [b8, c17], fun q => by omega⟩, fun _ _ => ⟨by rw [b7, c14], by omega, fun _ => b7, fun q => by omega, fun q => by omega, by omega⟩⟩
      have a1' : f_Tape_scanToken_14 σ2 0 0 = some (σ', 0) := a1
      have hp' := a5 rfl
      have hL' := h.1.1
      rw [a1', a2, Option.bind_some]
      dsimp only
      rcases d4 with ⟨k1, k2, k3, k4⟩ | ⟨k1, k2, k3, k4, k5⟩ | ⟨k1, k2⟩
      · rw [if_neg (fun x => x k1)]
        obtain ⟨σ3, g1, g3, g4⟩ := c_findKey (σ := σ') (by rw [d2]; exact b6)
        rw [g1, Option.bind_some]
        dsimp only
        refine ⟨_, _, p', rfl, rfl, (f2.trans a8).trans (fun j y hj => g4 j y (by unfold lxC at hj; omega)), g2.trans a9, by rw [g4 64 5 (by omega), d1, b5], by rw [d3, c12], by omega, Or.inr (Or.inr (Or.inl ⟨by rw [g4 64 4 (by omega)]; exact k1, k2, by rw [g4 64 8 (by omega)]; exact k3, by rw [g4 64 8 (by omega)]; exact k4, g3⟩)), fun _ => ⟨by rw [g4 64 3 (by omega)]; exact a6, a7, a4, by omega, fun _ => hp'⟩⟩
      · rw [if_pos (show ¬ σ' 64 4 = 2 by omega)]
        exact ⟨_, _, p', rfl, rfl, f2.trans a8, g2.trans a9, by rw [d1, b5], by rw [d3, c12], by omega, Or.inr (Or.inr (Or.inr (Or.inl ⟨k1, k2, k3, k4, k5, by rw [d2]; exact b6⟩))), fun _ => ⟨a6, a7, a4, by omega, fun _ => hp'⟩⟩
      · rw [if_pos (show ¬ σ' 64 4 = 2 by omega)]
        exact ⟨_, _, p', rfl, rfl, f2.trans a8, g2.trans a9, by rw [d1, b5], by rw [d3, c12], by omega, Or.inr (Or.inl ⟨Or.inl k1, k2, by rw [d2]; exact b6⟩), fun _ => ⟨a6, a7, a4, by omega, fun _ => hp'⟩⟩
    · obtain ⟨σ', τ', a1, a2, a6, a7, a8, a9, d1, d2, d3, d4⟩ := sign_both (h.fr f2 FrM.refl) hpL b3 h4 (by rw [bB]; exact hc)
      rw [a1, a2, Option.bind_some]
      dsimp only
      rcases d4 with ⟨k1, k2⟩ | ⟨k1, k2, k3⟩
      · rw [if_pos (show ¬ σ' 64 4 = 2 by omega)]
        exact ⟨_, _, p + 1, rfl, rfl, f2.trans a8, a9, by rw [d1, b5], by rw [d3, h12], by omega, Or.inr (Or.inl ⟨k1, k2, by rw [d2]; exact b6⟩), fun _ => ⟨a6, a7, by omega, by omega, fun _ => by omega⟩⟩
      · rw [if_pos (show ¬ σ' 64 4 = 2 by unfold isSgn at k1; omega)]
        exact ⟨_, _, p + 1, rfl, rfl, f2.trans a8, a9, by rw [d1, b5], by rw [d3, h12], by omega, Or.inr (Or.inr (Or.inr (Or.inr ⟨k1, k2, k3, by rw [d2]; exact b6⟩))), fun _ => ⟨a6, a7, by omega, by omega, fun _ => by omega⟩⟩
  · have pk := m_peek h h4
    rw [if_neg hpL] at pk
    rw [if_neg (by omega), zs, if_pos (show ¬ (0 : Int) = 2 by decide), e_M_next_80, pk, Option.bind_some]
    dsimp only
    rw [if_neg (by decide)]
    exact ⟨_, _, p, rfl, rfl, FrC.set (by omega), FrM.set (by omega), by rw [zi (by decide)]; exact h5, by rw [zi (by decide)]; exact h12, by omega, Or.inl ⟨zs, zs, by rw [zi (by decide)]; exact h6⟩, fun _ => ⟨by rw [zi (by decide)]; exact h3, by rw [zi (by decide)]; exact h4, hp, Nat.le_refl p, fun q => absurd zs q⟩⟩
/-- no white byte here -/
theorem m_next_here (h : LexR σ τ L mx) (h4 : τ 0 4 = (p : Int)) (hw : p < L → σ 65 p ≠ 32 ∧ σ 65 p ≠ 10) : f_M_next τ = if (L : Int) ≤ mx then f_M_next_80 (zset (zset τ 0 12 p) 0 13 0) else if (p : Int) < mx then f_M_next_80 (zset (zset τ 0 12 p) 0 13 0) else some (zset (zset (zset (zset τ 0 12 p) 0 13 0) 0 12 mx) 0 11 4, 0) := by
  have hq : ¬ (if p < L then σ 65 p else -1) = 32 ∧ ¬ (if p < L then σ 65 p else -1) = 10 := by
    by_cases hpL : p < L
    · rw [if_pos hpL]; exact hw hpL
    · rw [if_neg hpL]; omega
  have e3 : zset (zset τ 0 12 p) 0 13 0 0 3 = (L : Int) := by rw [zi (by decide), zi (by decide)]; exact h.2.2.1
  have e4 : zset (zset τ 0 12 p) 0 13 0 0 4 = (p : Int) := by rw [zi (by decide), zi (by decide)]; exact h4
  have e5 : zset (zset τ 0 12 p) 0 13 0 0 5 = (mx : Int) := by rw [zi (by decide), zi (by decide)]; exact h.2.2.2.2.1
  rw [e_M_next, m_peek h h4, Option.bind_some]
  dsimp only
  rw [if_neg hq.1, m_peek h h4, Option.bind_some]
  dsimp only
  rw [if_pos hq.2, h4]
  simp only [e3, e4, e5]
theorem m_next_white (h : LexR σ τ L mx) (hpL : p < L) (h4 : τ 0 4 = (p : Int)) (hw : σ 65 p = 32 ∨ σ 65 p = 10) : f_M_next τ = f_M_next (zset τ 0 4 ((p + 1 : Nat) : Int)) := by
  have hL := h.1.1
  have pk := m_peek h h4
  rw [if_pos hpL] at pk
  rw [e_M_next, pk, Option.bind_some]
  dsimp only
  rcases hw with hw | hw
  · rw [if_pos hw, h4, w32_s (by omega)]
  · rw [if_neg (by omega), pk, Option.bind_some]
    dsimp only
    rw [if_neg (fun x => x hw), h4, w32_s (by omega)]
theorem over_m : ∀ (r p : Nat) (τ : zH), LexR σ τ L mx → p + r = L → mx ≤ p → mx < L → τ 0 4 = (p : Int) → ∃ τ', f_M_next τ = some (τ', 0) ∧ FrM τ τ' ∧ τ' 0 11 = 4 ∧ τ' 0 12 = (mx : Int)
  | 0, p, τ, h, hr, h1, h2, h4 => by
    rw [m_next_here h h4 (fun q => by omega), if_neg (by omega), if_neg (by omega)]
    exact ⟨_, rfl, (((FrM.set (by omega)).trans (FrM.set (by omega))).trans (FrM.set (by omega))).trans (FrM.set (by omega)), zs, by rw [zi (by decide), zs]⟩
  | r + 1, p, τ, h, hr, h1, h2, h4 => by
    by_cases hw : σ 65 p = 32 ∨ σ 65 p = 10
    · rw [m_next_white h (by omega) h4 hw]
      obtain ⟨τ', a1, a2, a3⟩ := over_m r (p + 1) (zset τ 0 4 ((p + 1 : Nat) : Int)) (h.fr FrC.refl (FrM.set (by omega))) (by omega) (by omega) h2 zs
      exact ⟨τ', a1, (FrM.set (by omega)).trans a2, a3⟩
    · rw [m_next_here h h4 (fun q => ⟨fun x => hw (Or.inl x), fun x => hw (Or.inr x)⟩), if_neg (by omega), if_neg (by omega)]
      exact ⟨_, rfl, (((FrM.set (by omega)).trans (FrM.set (by omega))).trans (FrM.set (by omega))).trans (FrM.set (by omega)), zs, by rw [zi (by decide), zs]⟩
theorem c_61 (h : LexR σ τ L mx) (h3 : σ 64 3 = (p : Int)) : f_Tape_advance_61 σ = if (p : Int) < mx then f_Tape_advance_112 (zset (zset σ 64 6 (-1)) 64 5 p) else if (L : Int) ≤ mx then f_Tape_advance_112 (zset (zset σ 64 6 (-1)) 64 5 p) else some (zset (zset (zset (zset σ 64 6 (-1)) 64 5 p) 64 4 1) 64 5 mx, 0) := by
  have e0 : zset σ 64 6 (-1) 64 3 = (p : Int) := by rw [zi (by decide)]; exact h3
  rw [e_Tape_advance_61, e0]
  have e1 : zset (zset σ 64 6 (-1)) 64 5 p 64 1 = (L : Int) := by rw [zi (by decide), zi (by decide)]; exact h.2.1
  have e2 : zset (zset σ 64 6 (-1)) 64 5 p 64 2 = (mx : Int) := by rw [zi (by decide), zi (by decide)]; exact h.2.2.2.1
  have e3 : zset (zset σ 64 6 (-1)) 64 5 p 64 3 = (p : Int) := by rw [zi (by decide), zi (by decide)]; exact h3
  generalize zset (zset σ 64 6 (-1)) 64 5 p = σ1 at *
  have e4 : zset σ1 64 4 1 64 2 = (mx : Int) := by rw [zi (by decide)]; exact e2
  have e5 : zset (zset σ1 64 4 1) 64 5 mx 64 4 = 1 := by rw [zi (by decide), zs]
  simp only [e1, e2, e3, e4, e5]
  rw [if_pos (show ¬ (1 : Int) = 2 by decide)]
theorem skip_both {x1 : Int} (hx : x1 ≤ L ∧ x1 ≤ mx ∧ (x1 = L ∨ x1 = mx)) : ∀ (r p : Nat) (σ τ : zH), LexR σ τ L mx → p + r = L → σ 64 3 = (p : Int) → τ 0 4 = (p : Int) →
    ∃ σ' τ' a p', f_Tape_advance_12 σ x1 = some (σ', 0) ∧ f_M_next τ = some (τ', 0) ∧ FrC σ σ' ∧ FrM τ τ' ∧ TokR σ' τ' L a p' ∧ (τ' 0 11 ≠ 4 → p ≤ a) := by
  intro r
  induction r with
  | zero =>
    intro p σ τ h hr h3 h4
    have hL := h.1.1
    rw [e_Tape_advance_12, h3, if_pos (by omega), c_61 h h3]
    by_cases ho : mx < L
    · rw [if_neg (by omega), if_neg (by omega)]
      obtain ⟨τ', a1, a2, a3, a4⟩ := over_m 0 p τ h (by omega) (by omega) ho h4
      exact ⟨_, τ', mx, p, rfl, a1, (((FrC.set (by omega)).trans (FrC.set (by omega))).trans (FrC.set (by omega))).trans (FrC.set (by omega)), a2, ⟨zs, a4, by omega, Or.inr (Or.inl ⟨Or.inl (by rw [zi (by decide), zs]), a3, by rw [zi (by decide), zi (by decide), zi (by decide), zs]⟩), fun q => absurd a3 q⟩, fun q => absurd a3 q⟩
    · rw [m_next_here h h4 (fun q => by omega), if_pos (show (L : Int) ≤ mx by omega), if_pos (show (L : Int) ≤ mx by omega)]
      have f1 : FrC σ (zset (zset σ 64 6 (-1)) 64 5 p) := (FrC.set (by omega)).trans (FrC.set (by omega))
      have f2 : FrM τ (zset (zset τ 0 12 p) 0 13 0) := (FrM.set (by omega)).trans (FrM.set (by omega))
      obtain ⟨σ', τ', p', a1, a2, a3, a4, a5⟩ := tok_in (h.fr f1 f2) (p := p) (by omega) (by rw [zi (by decide), zi (by decide)]; exact h3) (by rw [zi (by decide), zi (by decide)]; exact h4) zs (by rw [zi (by decide), zs]) (by rw [zi (by decide), zs]) zs
      rw [ite_self, a1, a2]
      exact ⟨σ', τ', p, p', rfl, rfl, f1.trans a3, f2.trans a4, a5, fun _ => Nat.le_refl p⟩
  | succ r ih =>
    intro p σ τ h hr h3 h4
    have hL := h.1.1
    by_cases ho : mx ≤ p ∧ mx < L
    · rw [e_Tape_advance_12, h3, if_pos (by omega), c_61 h h3, if_neg (by omega), if_neg (by omega)]
      obtain ⟨τ', a1, a2, a3, a4⟩ := over_m (r + 1) p τ h (by omega) (by omega) ho.2 h4
      exact ⟨_, τ', mx, p, rfl, a1, (((FrC.set (by omega)).trans (FrC.set (by omega))).trans (FrC.set (by omega))).trans (FrC.set (by omega)), a2, ⟨zs, a4, by have := h.2.2.2.2.2; omega, Or.inr (Or.inl ⟨Or.inl (by rw [zi (by decide), zs]), a3, by rw [zi (by decide), zi (by decide), zi (by decide), zs]⟩), fun q => absurd a3 q⟩, fun q => absurd a3 q⟩
    · rw [e_Tape_advance_12, h3, if_neg (by omega), if_pos (zin_t (by omega) (by omega)), show Int.toNat (p : Int) = p from rfl]
      by_cases hw : σ 65 p = 32 ∨ σ 65 p = 10
      · have e12 : (if σ 65 p = 32 then f_Tape_advance_12 (zset σ 64 3 (w32 ((p : Int) + 1))) x1 else if zin (p : Int) 940 = true then (if ¬ σ 65 p = 10 then f_Tape_advance_61 σ else f_Tape_advance_12 (zset σ 64 3 (w32 ((p : Int) + 1))) x1) else none) = f_Tape_advance_12 (zset σ 64 3 ((p + 1 : Nat) : Int)) x1 := by
          rw [w32_s (by omega)]
          rcases hw with hw | hw
          · rw [if_pos hw]
          · rw [if_neg (by omega), if_pos (zin_t (by omega) (by omega)), if_neg (fun x => x hw)]
        rw [e12, m_next_white h (by omega) h4 hw]
        have f1 : FrC σ (zset σ 64 3 ((p + 1 : Nat) : Int)) := FrC.set (by omega)
        have f2 : FrM τ (zset τ 0 4 ((p + 1 : Nat) : Int)) := FrM.set (by omega)
        obtain ⟨σ', τ', a, p', a1, a2, a3, a4, a5, a6⟩ := ih (p + 1) _ _ (h.fr f1 f2) (by omega) zs zs
        exact ⟨σ', τ', a, p', a1, a2, f1.trans a3, f2.trans a4, a5, fun q => by have := a6 q; omega⟩
      · have hw1 : ¬ σ 65 p = 32 := fun x => hw (Or.inl x)
        have hw2 : ¬ σ 65 p = 10 := fun x => hw (Or.inr x)
        rw [if_neg hw1, if_pos (zin_t (by omega) (by omega)), if_pos hw2, c_61 h h3, m_next_here h h4 (fun _ => ⟨hw1, hw2⟩)]
        have f1 : FrC σ (zset (zset σ 64 6 (-1)) 64 5 p) := (FrC.set (by omega)).trans (FrC.set (by omega))
        have f2 : FrM τ (zset (zset τ 0 12 p) 0 13 0) := (FrM.set (by omega)).trans (FrM.set (by omega))
        obtain ⟨σ', τ', p', a1, a2, a3, a4, a5⟩ := tok_in (h.fr f1 f2) (p := p) (by omega) (by rw [zi (by decide), zi (by decide)]; exact h3) (by rw [zi (by decide), zi (by decide)]; exact h4) zs (by rw [zi (by decide), zs]) (by rw [zi (by decide), zs]) zs
        have hin : (p : Int) < mx ∨ (L : Int) ≤ mx := by omega
        have eC : (if (p : Int) < mx then f_Tape_advance_112 (zset (zset σ 64 6 (-1)) 64 5 p) else if (L : Int) ≤ mx then f_Tape_advance_112 (zset (zset σ 64 6 (-1)) 64 5 p) else some (zset (zset (zset (zset σ 64 6 (-1)) 64 5 p) 64 4 1) 64 5 mx, 0)) = f_Tape_advance_112 (zset (zset σ 64 6 (-1)) 64 5 p) := by
          by_cases hi : (p : Int) < mx
          · rw [if_pos hi]
          · rw [if_neg hi, if_pos (by omega)]
        have eM : (if (L : Int) ≤ mx then f_M_next_80 (zset (zset τ 0 12 p) 0 13 0) else if (p : Int) < mx then f_M_next_80 (zset (zset τ 0 12 p) 0 13 0) else some (zset (zset (zset (zset τ 0 12 p) 0 13 0) 0 12 mx) 0 11 4, 0)) = f_M_next_80 (zset (zset τ 0 12 p) 0 13 0) := by
          by_cases hi : (L : Int) ≤ mx
          · rw [if_pos hi]
          · rw [if_neg hi, if_pos (by omega)]
        rw [eC, eM, a1, a2]
        exact ⟨σ', τ', p, p', rfl, rfl, f1.trans a3, f2.trans a4, a5, fun _ => Nat.le_refl p⟩
/-- the text goes on by a token -/
theorem adv_both (h : LexR σ τ L mx) (hp : p ≤ L) (h3 : σ 64 3 = (p : Int)) (h4 : τ 0 4 = (p : Int)) : ∃ σ' τ' a p', f_Tape_advance σ = some (σ', 0) ∧ f_M_next τ = some (τ', 0) ∧ FrC σ σ' ∧ FrM τ τ' ∧ LexR σ' τ' L mx ∧ TokR σ' τ' L a p' ∧ (τ' 0 11 ≠ 4 → p ≤ a) := by
  rw [e_Tape_advance, h.2.1, h.2.2.2.1]
  obtain ⟨σ', τ', a, p', a1, a2, a3, a4, a5, a6⟩ := skip_both (x1 := zmin L mx) (by
    unfold zmin
    by_cases hm : (mx : Int) < L
    · rw [if_pos hm]; omega
    · rw [if_neg hm]; omega) (L - p) p σ τ h (by omega) h3 h4
  exact ⟨σ', τ', a, p', a1, a2, a3, a4, h.fr a3 a4, a5, a6⟩
end G52
