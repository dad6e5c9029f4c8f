/-! A LINE of a country, and all lines, both sides -/
section G64
variable {σ τ σ' τ' σ1 τ1 : zH} {k L a n : Nat} {b : Nat → Int}
theorem obind {o : zR} : (o.bind fun r => some (r.1, r.2)) = o := by cases o <;> rfl
theorem key_T (h : TokK σ τ) (hk : σ 64 6 ≠ -1) : τ 0 11 = 1 := by
  rcases h with ⟨t1, t2, t3⟩ | ⟨t1, t2, t3⟩ | ⟨t1, t2, t3⟩ | ⟨t1, t2, t3, t4, t5, t6⟩ | ⟨t1, t2, t3, t4⟩
  · exact absurd t3 hk
  · exact absurd t3 hk
  · exact t2
  · exact absurd t6 hk
  · exact absurd t4 hk
theorem m_sortOf (h : TokK σ τ) : f_M_sortOf τ = some (τ, if σ 64 6 = 0 then 0 else if σ 64 6 = 1 then 1 else if σ 64 6 = 2 then 2 else if σ 64 6 = 3 then 3 else -1) := by
  have w0 : f_M_isWord τ 1852798318 = some (τ, if σ 64 6 = 0 then 1 else 0) := m_isWord (i := 0) (by decide) h
  have w1 : f_M_isWord τ 1986359906 = some (τ, if σ 64 6 = 1 then 1 else 0) := m_isWord (i := 1) (by decide) h
  have w2 : f_M_isWord τ 1818848101 = some (τ, if σ 64 6 = 2 then 1 else 0) := m_isWord (i := 2) (by decide) h
  have w3 : f_M_isWord τ 1937010544 = some (τ, if σ 64 6 = 3 then 1 else 0) := m_isWord (i := 3) (by decide) h
  rw [e_M_sortOf, w0, Option.bind_some]
  dsimp only
  by_cases h0 : σ 64 6 = 0
  · rw [if_pos h0, if_pos h0, if_neg (show ¬ (1 : Int) = 0 by decide)]
  · rw [if_neg h0, if_neg h0, if_pos (show (0 : Int) = 0 from rfl), w1, Option.bind_some]
    dsimp only
    by_cases h1 : σ 64 6 = 1
    · rw [if_pos h1, if_pos h1, if_neg (show ¬ (1 : Int) = 0 by decide)]
    · rw [if_neg h1, if_neg h1, if_pos (show (0 : Int) = 0 from rfl), w2, Option.bind_some]
      dsimp only
      by_cases h2 : σ 64 6 = 2
      · rw [if_pos h2, if_pos h2, if_neg (show ¬ (1 : Int) = 0 by decide)]
      · rw [if_neg h2, if_neg h2, if_pos (show (0 : Int) = 0 from rfl), w3, Option.bind_some]
        dsimp only
        by_cases h3 : σ 64 6 = 3
        · rw [if_pos h3, if_pos h3, if_neg (show ¬ (1 : Int) = 0 by decide)]
        · rw [if_neg h3, if_neg h3, if_pos (show (0 : Int) = 0 from rfl)]
theorem line_both (h : CS σ τ k L a) : Lin k L a σ τ (f_CountryReader_readLine σ) (f_M_line τ) := by
  have hk := h.1.tok
  have s0 := m_sortOf hk
  have w4 : f_M_isWord τ 491327153000 = some (τ, if σ 64 6 = 4 then 1 else 0) := m_isWord (i := 4) (by decide) hk
  have w6 : f_M_isWord τ 1935767923 = some (τ, if σ 64 6 = 6 then 1 else 0) := m_isWord (i := 6) (by decide) hk
  have w7 : f_M_isWord τ 111481940373362 = some (τ, if σ 64 6 = 7 then 1 else 0) := m_isWord (i := 7) (by decide) hk
  have w8 : f_M_isWord τ 126943972911973 = some (τ, if σ 64 6 = 8 then 1 else 0) := m_isWord (i := 8) (by decide) hk
  have w9 : f_M_isWord τ 1953854062 = some (τ, if σ 64 6 = 9 then 1 else 0) := m_isWord (i := 9) (by decide) hk
  have w10 : f_M_isWord τ 1953462126 = some (τ, if σ 64 6 = 10 then 1 else 0) := m_isWord (i := 10) (by decide) hk
  have w11 : f_M_isWord τ 499851162725 = some (τ, if σ 64 6 = 11 then 1 else 0) := m_isWord (i := 11) (by decide) hk
  have tm : ∀ s : Int, 0 ≤ s → s ≤ 3 → σ 64 6 = s → f_M_sortOf τ = some (τ, s) → f_CountryReader_readLine σ = f_CountryReader_readTerm σ s → Lin k L a σ τ (f_CountryReader_readLine σ) (f_M_line τ) := by
    intro s hs0 hs3 hs hsort hC
    have hM : f_M_line τ = mTerm τ s := by
      rw [e_M_line, hsort, Option.bind_some]
      dsimp only
      rw [if_neg (show ¬ s < 0 by omega)]
      rfl
    rw [hC, hM]
    exact l_term h (key_T hk (by omega)) hs0 hs3
  by_cases k0 : σ 64 6 = 0
  · exact tm 0 (by decide) (by decide) k0 (by rw [s0, if_pos k0]) (by rw [e_CountryReader_readLine, if_pos k0, obind, k0])
  by_cases k1 : σ 64 6 = 1
  · exact tm 1 (by decide) (by decide) k1 (by rw [s0, if_neg k0, if_pos k1]) (by rw [e_CountryReader_readLine, if_neg k0, if_pos k1, obind, k1])
  by_cases k2 : σ 64 6 = 2
  · exact tm 2 (by decide) (by decide) k2 (by rw [s0, if_neg k0, if_neg k1, if_pos k2]) (by rw [e_CountryReader_readLine, if_neg k0, if_neg k1, if_pos k2, obind, k2])
  by_cases k3 : σ 64 6 = 3
  · exact tm 3 (by decide) (by decide) k3 (by rw [s0, if_neg k0, if_neg k1, if_neg k2, if_pos k3]) (by rw [e_CountryReader_readLine, if_neg k0, if_neg k1, if_neg k2, if_pos k3, obind, k3])
  rw [if_neg k0, if_neg k1, if_neg k2, if_neg k3] at s0
  rw [e_CountryReader_readLine, if_neg k0, if_neg k1, if_neg k2, if_neg k3, e_M_line, s0, Option.bind_some]
  dsimp only
  rw [if_pos (show (-1 : Int) < 0 by decide), w4, Option.bind_some]
  dsimp only
  by_cases k4 : σ 64 6 = 4
  · rw [if_pos k4, if_pos k4, if_neg (show ¬ (1 : Int) = 0 by decide), obind, obind]
    exact l_reach h (key_T hk (by omega))
  rw [if_neg k4, if_neg k4, i00, w6, Option.bind_some]
  dsimp only
  by_cases k6 : σ 64 6 = 6
  · rw [if_neg (show ¬ σ 64 6 = 5 by omega), if_pos k6, if_pos k6, if_neg (show ¬ (1 : Int) = 0 by decide), obind, obind]
    exact l_says h (key_T hk (by omega))
  rw [if_neg k6, if_neg k6, i00, w7, Option.bind_some]
  dsimp only
  by_cases k7 : σ 64 6 = 7
  · rw [if_neg (show ¬ σ 64 6 = 5 by omega), if_pos k7, if_pos k7, if_neg (show ¬ (1 : Int) = 0 by decide), obind, obind]
    exact l_editor h (key_T hk (by omega))
  rw [if_neg k7, if_neg k7, i00, w8, Option.bind_some]
  dsimp only
  by_cases k8 : σ 64 6 = 8
  · rw [if_neg (show ¬ σ 64 6 = 5 by omega), if_pos k8, if_pos k8, in10, obind, obind]
    exact l_change h (key_T hk (by omega)) (Or.inl ⟨rfl, by omega⟩)
  rw [if_neg k8, if_neg k8, in00, w9, Option.bind_some]
  dsimp only
  by_cases k9 : σ 64 6 = 9
  · rw [if_neg (show ¬ σ 64 6 = 5 by omega), if_pos k9, if_pos k9, if_neg (show ¬ (1 : Int) = 0 by decide), obind, obind]
    exact l_change h (key_T hk (by omega)) (Or.inr ⟨rfl, k9⟩)
  rw [if_neg k9, if_neg k9, i00, w10, Option.bind_some]
  dsimp only
  by_cases k10 : σ 64 6 = 10
  · rw [if_neg (show ¬ σ 64 6 = 5 by omega), if_pos k10, if_pos k10, if_neg (show ¬ (1 : Int) = 0 by decide), obind, obind]
    exact l_town h (key_T hk (by omega))
  rw [if_neg k10, if_neg k10, i00, w11, Option.bind_some]
  dsimp only
  by_cases k11 : σ 64 6 = 11
  · rw [if_neg (show ¬ σ 64 6 = 5 by omega), if_pos k11, if_pos k11, in10, obind]
    exact l_taste h (key_T hk (by omega))
  rw [if_neg k11, if_neg k11, in00, ite_self, obind, obind]
  obtain ⟨σb, τb, b1, b2, b3⟩ := bad_both h.1 1
  rw [b1, b2]
  exact Lin.bad b3
theorem CS.sig (h : CS σ τ k L a) : (∃ σ' τ' a', f_Tape_passes σ 59 = some (σ', 1) ∧ f_M_sign τ 59 = some (τ', 1) ∧ FrC σ σ' ∧ FrM τ τ' ∧ CS σ' τ' k L a' ∧ τ 0 11 ≠ 4 ∧ (τ' 0 11 ≠ 4 → a + 1 ≤ a')) ∨ (∃ σ' τ', f_Tape_passes σ 59 = some (σ', 0) ∧ f_M_sign τ 59 = some (τ', 0) ∧ Bad σ τ σ' τ') := by
  rw [e_Tape_passes, e_M_sign, m_isSign (by decide) h.1.tok, Option.bind_some]
  dsimp only
  by_cases hq : σ 64 4 = 59
  · have hT : τ 0 11 = 3 := by
      rcases h.1.tok with ⟨h1, h2, h3⟩ | ⟨h1, h2, h3⟩ | ⟨h1, h2, h3⟩ | ⟨h1, h2, h3⟩ | ⟨h1, h2, h3, h4⟩
      · exfalso; omega
      · exfalso; omega
      · exfalso; omega
      · exfalso; omega
      · exact h2
    obtain ⟨σ', τ', a', a1, a2, a3, a4, a5, a6⟩ := h.adv (by omega)
    rw [if_pos hq, if_pos hq, in10, a1, a2]
    exact Or.inl ⟨σ', τ', a', rfl, rfl, a3, a4, a5, by omega, a6 (by omega)⟩
  · obtain ⟨σ', τ', a1, a2, a3⟩ := bad_both h.1 1
    rw [if_neg hq, if_neg hq, in00, a1, a2]
    exact Or.inr ⟨σ', τ', rfl, rfl, a3⟩
def GcC (k : Nat) (σ σ' : zH) : Prop := ∀ j i, ¬ (j = 64 ∧ 3 ≤ i) → ¬ (32 ≤ j ∧ j < 64) → ¬ (k ≤ j ∧ j < k + 64) → σ' j i = σ j i
def GcM (τ τ' : zH) : Prop := ∀ j i, ¬ (j = 0 ∧ (i = 4 ∨ (11 ≤ i ∧ i ≤ 19))) → j ≠ 8 → ¬ (j = 10 ∧ 30 ≤ i) → τ' j i = τ j i
theorem FcC.g (h : FcC k σ σ') : GcC k σ σ' := fun j i h1 h2 h3 => h j i h1 (by omega) h3
theorem FcM.g (h : FcM τ τ') : GcM τ τ' := fun j i h1 h2 h3 => h j i (by omega) h2 h3
theorem GcC.trans (h : GcC k σ σ1) (g : GcC k σ1 σ') : GcC k σ σ' := fun j i h1 h2 h3 => by rw [g j i h1 h2 h3, h j i h1 h2 h3]
theorem GcM.trans (h : GcM τ τ1) (g : GcM τ1 τ') : GcM τ τ' := fun j i h1 h2 h3 => by rw [g j i h1 h2 h3, h j i h1 h2 h3]
def LnsOut (k : Nat) (σ τ : zH) (C M : zR) : Prop := ∃ σ' τ', GcC k σ σ' ∧ GcM τ τ' ∧ ((C = some (σ', 1) ∧ M = f_M_country_93 τ' 0 ∧ CB σ' τ' k ∧ ResR τ' ∧ σ' 32 2 = τ' 0 19 ∧ σ' 64 9 = τ' 0 15 ∧ 0 ≤ τ' 0 19 ∧ τ' 0 19 ≤ 471) ∨ (C = some (σ', 0) ∧ M = some (τ', w32 (-1 - (τ' 0 16))) ∧ Flt σ' τ'))
theorem ctry_loop : ∀ (r i : Nat) (σ τ : zH) (a : Nat), CS σ τ k L a → σ 32 2 = (i : Int) → τ 0 19 = (i : Int) → i ≤ 471 → (τ 0 11 ≠ 4 → 2 * i ≤ a ∧ 941 ≤ a + r) → LnsOut k σ τ (f_CountryReader_readInto_19 σ (i : Int)) (f_M_country_48 τ) := by
  intro r
  induction r with
  | zero =>
    intro i σ τ a h h1 h2 h3 h4
    have hT : τ 0 11 = 4 := by
      by_cases hT : τ 0 11 = 4
      · exact hT
      · have := (h4 hT).2
        have := h.1.le
        omega
    have hK : ¬ σ 64 4 = 0 := by
      rcases h.1.tok with ⟨t1, t2, t3⟩ | ⟨t1, t2, t3⟩ | ⟨t1, t2, t3⟩ | ⟨t1, t2, t3⟩ | ⟨t1, t2, t3, t4⟩ <;> omega
    obtain ⟨σ1, τ1, x, y1, y2, y3, y4, y5⟩ := line_both h
    rw [e_CountryReader_readInto_19, if_neg (show ¬ (900 : Int) ≤ (i : Int) by omega), if_pos hK, y1, Option.bind_some, e_M_country_48, if_neg (show ¬ τ 0 11 = 0 by omega), y2, Option.bind_some]
    dsimp only
    rcases y5 with ⟨rfl, a1, y5, y6⟩ | ⟨rfl, y5⟩
    · exfalso
      -- a broken token begins no line
      have hkey : σ 64 6 = -1 := by
        rcases h.1.tok with ⟨t1, t2, t3⟩ | ⟨t1, t2, t3⟩ | ⟨t1, t2, t3⟩ | ⟨t1, t2, t3⟩ | ⟨t1, t2, t3, t4⟩
        · exact t3
        · exact t3
        · exfalso; omega
        · exfalso; omega
        · exact t4
      rw [e_CountryReader_readLine, if_neg (by omega), if_neg (by omega), if_neg (by omega), if_neg (by omega), if_neg (by omega), if_neg (by omega), if_neg (by omega), if_neg (by omega), if_neg (by omega), if_neg (by omega), if_neg (by omega), if_neg (by omega), obind, e_Tape_fail] at y1
      simp at y1
    · rw [if_pos rfl, if_pos rfl]
      exact ⟨σ1, τ1, y3.g, y4.g, Or.inr ⟨rfl, rfl, y5⟩⟩
  | succ r ih =>
    intro i σ τ a h h1 h2 h3 h4
    rw [e_CountryReader_readInto_19, if_neg (show ¬ (900 : Int) ≤ (i : Int) by omega), e_M_country_48]
    by_cases hK : σ 64 4 = 0
    · have hT : τ 0 11 = 0 := by
        rcases h.1.tok with ⟨t1, t2, t3⟩ | ⟨t1, t2, t3⟩ | ⟨t1, t2, t3⟩ | ⟨t1, t2, t3⟩ | ⟨t1, t2, t3, t4⟩ <;> omega
      rw [if_neg (fun x => x hK), if_pos hT]
      exact ⟨σ, τ, fun _ _ _ _ _ => rfl, fun _ _ _ _ _ => rfl, Or.inl ⟨rfl, rfl, h.2.1, h.2.2, by rw [h1, h2], h.1.flt, by omega, by omega⟩⟩
    · have hT : ¬ τ 0 11 = 0 := by
        rcases h.1.tok with ⟨t1, t2, t3⟩ | ⟨t1, t2, t3⟩ | ⟨t1, t2, t3⟩ | ⟨t1, t2, t3⟩ | ⟨t1, t2, t3, t4⟩ <;> omega
      obtain ⟨σ1, τ1, x, y1, y2, y3, y4, y5⟩ := line_both h
      rw [if_pos hK, if_neg hT, y1, y2, Option.bind_some, Option.bind_some]
      dsimp only
      rcases y5 with ⟨rfl, a1, y5, y6⟩ | ⟨rfl, y5⟩
      · rw [if_neg (show ¬ (1 : Int) = 0 by decide), if_neg (show ¬ (1 : Int) = 0 by decide)]
        have hT4 : τ 0 11 ≠ 4 := by
          intro hT4
          have hkey : σ 64 6 = -1 := by
            rcases h.1.tok with ⟨t1, t2, t3⟩ | ⟨t1, t2, t3⟩ | ⟨t1, t2, t3⟩ | ⟨t1, t2, t3⟩ | ⟨t1, t2, t3, t4⟩
            · exact t3
            · exact t3
            · exfalso; omega
            · exfalso; omega
            · exact t4
          rw [e_CountryReader_readLine, if_neg (by omega), if_neg (by omega), if_neg (by omega), if_neg (by omega), if_neg (by omega), if_neg (by omega), if_neg (by omega), if_neg (by omega), if_neg (by omega), if_neg (by omega), if_neg (by omega), if_neg (by omega), obind, e_Tape_fail] at y1
          simp at y1
        obtain ⟨h5, h6⟩ := h4 hT4
        have hale := h.1.le
        have z1 : σ1 32 2 = (i : Int) := by rw [y3 32 2 (by omega) (by omega) (by have := h.2.1.1; unfold isLand at this; omega)]; exact h1
        have z2 : τ1 0 19 = (i : Int) := by rw [y4 0 19 (by omega) (by omega) (by omega)]; exact h2
        rcases y5.sig with ⟨σ2, τ2, a2, p1, p2, p3, p4, p5, p6, p7⟩ | ⟨σ2, τ2, p1, p2, p3⟩
        · have hy6 := y6 p6
          rw [p1, p2, Option.bind_some, Option.bind_some]
          dsimp only
          have z3 : σ2 32 2 = (i : Int) := by rw [p3.cell (by decide)]; exact z1
          have z4 : τ2 0 19 = (i : Int) := by rw [p4 0 19 (by unfold lxM; omega)]; exact z2
          rw [in10, in10, z3, z4, w32_s (by omega)]
          have hl := h.2.1.1
          unfold isLand at hl
          have c3 : CS (zset σ2 32 2 ((i + 1 : Nat) : Int)) (zset τ2 0 19 ((i + 1 : Nat) : Int)) k L a2 :=
            ⟨p5.1.fr (fun j _ => by rw [zk (by decide)]) (zk (by decide)) (fun j hj => zi (by omega)) (zk (by decide)), p5.2.1.fr (fun j j0 j1 => zk (by omega)) (zi (by decide)) (zk (by decide)) (fun _ _ _ _ => by rw [zk (by decide)]), p5.2.2.frame (zk (by decide))⟩
          obtain ⟨σ3, τ3, q1, q2, q3⟩ := ih (i + 1) _ _ a2 c3 zs zs (by omega) (fun q => by
            rw [zi (by decide)] at q
            have := p7 q
            omega)
          have gz : GcC k σ2 (zset σ2 32 2 ((i + 1 : Nat) : Int)) := fun j x g1 g2 g3 => by rw [zk (show j ≠ 32 by omega)]
          have gm : GcM τ2 (zset τ2 0 19 ((i + 1 : Nat) : Int)) := fun j x g1 g2 g3 => by
            by_cases j0 : j = 0
            · subst j0; rw [zi (by omega)]
            · rw [zk j0]
          exact ⟨σ3, τ3, (y3.g.trans p3.w.c.g).trans (gz.trans q1), (y4.g.trans p4.w.c.g).trans (gm.trans q2), q3⟩
        · rw [p1, p2, Option.bind_some, Option.bind_some]
          dsimp only
          rw [in00, in00]
          exact ⟨σ2, τ2, y3.g.trans p3.1.c.g, y4.g.trans p3.2.1.c.g, Or.inr ⟨rfl, rfl, p3.2.2⟩⟩
      · rw [if_pos rfl, if_pos rfl]
        exact ⟨σ1, τ1, y3.g, y4.g, Or.inr ⟨rfl, rfl, y5⟩⟩
end G64
