/-! WHAT IS ASKED OF A TOKEN, both sides -/
section G53
variable {σ τ σ' τ' σ2 τ2 : zH} {L mx a : Nat}
/-- a text that is read, at a token -/
def PS (σ τ : zH) (L mx a : Nat) : Prop := LexR σ τ L mx ∧ (∃ p, TokR σ τ L a p) ∧ σ 64 9 = τ 0 15
theorem PS.lex (h : PS σ τ L mx a) : LexR σ τ L mx := h.1
theorem PS.tok (h : PS σ τ L mx a) : TokK σ τ := by
  obtain ⟨-, ⟨p, -, -, -, h4, -⟩, -⟩ := h
  exact h4
theorem PS.pc (h : PS σ τ L mx a) : σ 64 5 = (a : Int) := by
  obtain ⟨-, ⟨p, h1, -⟩, -⟩ := h
  exact h1
theorem PS.pm (h : PS σ τ L mx a) : τ 0 12 = (a : Int) := by
  obtain ⟨-, ⟨p, -, h1, -⟩, -⟩ := h
  exact h1
theorem PS.le (h : PS σ τ L mx a) : a ≤ 940 := by
  obtain ⟨-, ⟨p, -, -, h1, -⟩, -⟩ := h
  exact h1
theorem PS.flt (h : PS σ τ L mx a) : σ 64 9 = τ 0 15 := h.2.2
/-- other cells are written -/
theorem PS.fr (h : PS σ τ L mx a) (s64 : ∀ i, i ≠ 10 → σ' 64 i = σ 64 i) (s65 : σ' 65 = σ 65) (t0 : ∀ i, i = 3 ∨ i = 4 ∨ i = 5 ∨ i = 11 ∨ i = 12 ∨ i = 14 ∨ i = 15 ∨ i = 17 → τ' 0 i = τ 0 i) (t2 : τ' 2 = τ 2) : PS σ' τ' L mx a := by
  obtain ⟨⟨⟨h1, h2⟩, h3, h4, h5, h6, h7⟩, ⟨p, g1, g2, g3, g4, g5⟩, h8⟩ := h
  refine ⟨⟨⟨h1, fun i hi => by rw [s65, t2]; exact h2 i hi⟩, by rw [s64 1 (by decide)]; exact h3, by rw [t0 3 (by omega)]; exact h4, by rw [s64 2 (by decide)]; exact h5, by rw [t0 5 (by omega)]; exact h6, h7⟩, ⟨p, by rw [s64 5 (by decide)]; exact g1, by rw [t0 12 (by omega)]; exact g2, g3, ?_, by rw [t0 11 (by omega), s64 3 (by decide), t0 4 (by omega)]; exact g5⟩, by rw [s64 9 (by decide), t0 15 (by omega)]; exact h8⟩
  unfold TokK KeyR at g4 ⊢
  rw [s64 4 (by decide), s64 6 (by decide), s64 7 (by decide), s64 8 (by decide), t0 11 (by omega), t0 14 (by omega), t0 17 (by omega)]
  exact g4
/-- the next token -/
theorem PS.adv (h : PS σ τ L mx a) (hT : τ 0 11 ≠ 4) : ∃ σ' τ' a', f_Tape_advance σ = some (σ', 0) ∧ f_M_next τ = some (τ', 0) ∧ FrC σ σ' ∧ FrM τ τ' ∧ PS σ' τ' L mx a' ∧ (τ 0 11 ≠ 0 → τ' 0 11 ≠ 4 → a + 1 ≤ a') := by
  obtain ⟨h1, ⟨p, g1, g2, g3, g4, g5⟩, h8⟩ := h
  obtain ⟨k1, k2, k3, k4, k5⟩ := g5 hT
  obtain ⟨σ', τ', a', p', b1, b2, b3, b4, b5, b6, b7⟩ := adv_both h1 k3 k1 k2
  exact ⟨σ', τ', a', b1, b2, b3, b4, ⟨b5, ⟨p', b6⟩, by rw [b3 64 9 (by unfold lxC; omega), b4 0 15 (by unfold lxM; omega)]; exact h8⟩, fun q1 q2 => by have := k5 q1; have := b7 q2; omega⟩
/-- both say what is wrong, and where -/
def Flt (σ τ : zH) : Prop := σ 64 9 = τ 0 15 ∧ ∃ a : Nat, a ≤ 940 ∧ σ 64 10 = (a : Int) ∧ τ 0 16 = (a : Int)
def FwC (σ σ' : zH) : Prop := ∀ j i, ¬ (j = 64 ∧ 3 ≤ i) → σ' j i = σ j i
def FwM (τ τ' : zH) : Prop := ∀ j i, ¬ (j = 0 ∧ (i = 4 ∨ (11 ≤ i ∧ i ≤ 18))) → τ' j i = τ j i
theorem FrC.w (h : FrC σ σ') : FwC σ σ' := fun j i hj => h j i (by unfold lxC; omega)
theorem FrM.w (h : FrM τ τ') : FwM τ τ' := fun j i hj => h j i (by unfold lxM; omega)
theorem FwC.refl : FwC σ σ := fun _ _ _ => rfl
theorem FwM.refl : FwM τ τ := fun _ _ _ => rfl
theorem FwC.trans (h : FwC σ σ') (g : FwC σ' σ2) : FwC σ σ2 := fun j i hj => by rw [g j i hj, h j i hj]
theorem FwM.trans (h : FwM τ τ') (g : FwM τ' τ2) : FwM τ τ2 := fun j i hj => by rw [g j i hj, h j i hj]
theorem FwC.cell (h : FwC σ σ') {j : Nat} (hj : j ≠ 64) : σ' j = σ j := funext (fun i => h j i (fun x => hj x.1))
theorem FwM.cell (h : FwM τ τ') {j : Nat} (hj : j ≠ 0) : τ' j = τ j := funext (fun i => h j i (fun x => hj x.1))
theorem FwM.set {i : Nat} {v : Int} (h : i = 4 ∨ (11 ≤ i ∧ i ≤ 18)) : FwM τ (zset τ 0 i v) := fun j i' hj => by
  by_cases j4 : j = 0
  · subst j4; rw [zi (by omega)]
  · rw [zk j4]
theorem FwC.set {i : Nat} {v : Int} (h : 3 ≤ i) : FwC σ (zset σ 64 i v) := fun j i' hj => by
  by_cases j4 : j = 64
  · subst j4; rw [zi (by omega)]
  · rw [zk j4]
/-- what a fault leaves -/
def Bad (σ τ σ' τ' : zH) : Prop := FwC σ σ' ∧ FwM τ τ' ∧ Flt σ' τ'
theorem bad_both (h : PS σ τ L mx a) (x : Int) : ∃ σ' τ', f_Tape_fail σ x = some (σ', 0) ∧ f_M_bad τ x = some (τ', 0) ∧ Bad σ τ σ' τ' := by
  have h5 := h.pc
  have h12 := h.pm
  refine ⟨_, _, by rw [e_Tape_fail], by rw [e_M_bad], (FwC.set (by omega)).trans (FwC.set (by omega)), (FwM.set (by omega)).trans (FwM.set (by omega)), ?_, a, h.le, ?_, ?_⟩
  · rw [zi (by decide), zs, zi (by decide), zs]
  · rw [zs, zi (by decide)]; exact h5
  · rw [zs, zi (by decide)]; exact h12
/-- a name -/
def isNm (σ : zH) : Prop := σ 64 4 = 2 ∧ σ 64 6 = -1
theorem c_isName : f_Tape_isName σ = some (σ, if σ 64 4 = 2 ∧ σ 64 6 = -1 then 1 else 0) := by
  rw [e_Tape_isName]
  by_cases h1 : σ 64 4 = 2
  · rw [if_neg (fun x => x h1)]
    by_cases h2 : σ 64 6 = -1
    · rw [if_neg (fun x => x h2), if_pos ⟨h1, h2⟩]
    · rw [if_pos h2, if_neg (fun x => h2 x.2)]
  · rw [if_pos h1, if_neg (fun x => h1 x.1)]
theorem m_isName_0 : ∀ r i : Nat, i + r = 27 → f_M_isName_16 τ 0 (i : Int) = some (τ, 0)
  | 0, i, hi => by rw [e_M_isName_16, if_pos (by omega), if_pos (show zbl 0 = true from rfl)]
  | r + 1, i, hi => by
    rw [e_M_isName_16, if_neg (by omega), if_pos rfl, w32_s (by omega)]
    exact m_isName_0 r (i + 1) (by omega)
theorem m_isName_n (hv : ResR τ) (h0 : τ 0 17 ≠ 0) (hn : ∀ x, x < 26 → zkw x ≠ τ 0 17) : ∀ r i : Nat, i + r = 27 → f_M_isName_16 τ 1 (i : Int) = some (τ, 1)
  | 0, i, hi => by rw [e_M_isName_16, if_pos (by omega), if_pos (show zbl 1 = true from rfl)]
  | r + 1, i, hi => by
    have hne : ¬ τ 0 17 = τ 11 i := by
      by_cases h26 : i < 26
      · rw [hv.1 i h26]; exact fun q => hn i h26 q.symm
      · rw [show i = 26 by omega, hv.2]; exact h0
    rw [e_M_isName_16, if_neg (by omega), if_neg (show ¬ (1 : Int) = 0 by decide), if_pos (zin_t (by omega) (by omega)), show Int.toNat (i : Int) = i from rfl, if_neg (fun q => hne (zcmp_0.mp q)), w32_s (by omega)]
    exact m_isName_n hv h0 hn r (i + 1) (by omega)
theorem m_isName_k (hv : ResR τ) {y : Nat} (hy : y < 26) (hk : zkw y = τ 0 17) : ∀ r i : Nat, i + r = 27 → i ≤ y → f_M_isName_16 τ 1 (i : Int) = some (τ, 0)
  | 0, i, hi, hiy => by omega
  | r + 1, i, hi, hiy => by
    rw [e_M_isName_16, if_neg (by omega), if_neg (show ¬ (1 : Int) = 0 by decide), if_pos (zin_t (by omega) (by omega)), show Int.toNat (i : Int) = i from rfl, w32_s (by omega)]
    by_cases hq : τ 0 17 = τ 11 i
    · rw [if_pos (zcmp_0.mpr hq)]
      exact m_isName_0 r (i + 1) (by omega)
    · rw [if_neg (fun q => hq (zcmp_0.mp q))]
      refine m_isName_k hv hy hk r (i + 1) (by omega) ?_
      by_cases hiy2 : i = y
      · exfalso
        apply hq
        rw [hv.1 i (by omega), hiy2, hk]
      · omega
theorem m_isName (hv : ResR τ) (h : TokK σ τ) : f_M_isName τ = some (τ, if σ 64 4 = 2 ∧ σ 64 6 = -1 then 1 else 0) := by
  rw [e_M_isName]
  have z := m_isName_0 (τ := τ) 27 0 rfl
  have z' : f_M_isName_16 τ 0 0 = some (τ, 0) := z
  rcases h with ⟨h1, h2, h3⟩ | ⟨h1, h2, h3⟩ | ⟨h1, h2, h3, h4, h5⟩ | ⟨h1, h2, h3⟩ | ⟨h1, h2, h3⟩
  · rw [if_pos (by omega), z', if_neg (by omega)]
  · rw [if_pos (by omega), z', if_neg (by omega)]
  · rw [if_neg (by omega)]
    rcases h5 with ⟨k1, k2⟩ | ⟨i, k1, k2, k3⟩
    · have n := m_isName_n hv (by rw [← h3]; exact h4) (fun x hx => by rw [← h3]; exact k2 x hx) 27 0 rfl
      have n' : f_M_isName_16 τ 1 0 = some (τ, 1) := n
      rw [n', if_pos ⟨h1, k1⟩]
    · have n := m_isName_k hv k1 (by rw [← h3]; exact k3) 27 0 rfl (Nat.zero_le i)
      have n' : f_M_isName_16 τ 1 0 = some (τ, 0) := n
      rw [n', if_neg (by omega)]
  · rw [if_pos (by omega), z', if_neg (by omega)]
  · unfold isSgn at h1
    rw [if_pos (by omega), z', if_neg (by omega)]
theorem zkw_inj : ∀ i, i < 26 → ∀ j, j < 26 → zkw i = zkw j → i = j := by decide +kernel
/-- a word that is no name -/
theorem m_isWord {i : Nat} (hi : i < 26) (h : TokK σ τ) : f_M_isWord τ (zkw i) = some (τ, if σ 64 6 = (i : Int) then 1 else 0) := by
  rw [e_M_isWord]
  rcases h with ⟨h1, h2, h3⟩ | ⟨h1, h2, h3⟩ | ⟨h1, h2, h3, h4, h5⟩ | ⟨h1, h2, h3, h4, h5, h6⟩ | ⟨h1, h2, h3, h4⟩
  · rw [if_pos (by omega), if_neg (by omega)]
  · rw [if_pos (by omega), if_neg (by omega)]
  · rw [if_neg (by omega)]
    rcases h5 with ⟨k1, k2⟩ | ⟨y, k1, k2, k3⟩
    · rw [if_pos (fun q => k2 i hi (by rw [h3]; exact (zcmp_0.mp q).symm)), if_neg (by omega)]
    · by_cases hyi : y = i
      · subst hyi
        rw [if_neg (fun q => q (zcmp_0.mpr (by rw [k3, h3]))), if_pos k2]
      · rw [if_pos (fun q => hyi (zkw_inj y k1 i hi (by rw [k3, h3]; exact zcmp_0.mp q))), if_neg (by omega)]
  · rw [if_pos (by omega), if_neg (by omega)]
  · rw [if_pos (by omega), if_neg (by omega)]
theorem m_isSign {c : Int} (hc : isSgn c) (h : TokK σ τ) : f_M_isSign τ c = some (τ, if σ 64 4 = c then 1 else 0) := by
  rw [e_M_isSign]
  unfold isSgn at hc
  rcases h with ⟨h1, h2, h3⟩ | ⟨h1, h2, h3⟩ | ⟨h1, h2, h3⟩ | ⟨h1, h2, h3⟩ | ⟨h1, h2, h3, h4⟩
  · rw [if_pos (by omega), if_neg (by omega)]
  · rw [if_pos (by omega), if_neg (by omega)]
  · rw [if_pos (by omega), if_neg (by omega)]
  · rw [if_pos (by omega), if_neg (by omega)]
  · rw [if_neg (by omega), h3]
    by_cases hq : σ 64 4 = c
    · rw [if_neg (fun x => x hq), if_pos hq]
    · rw [if_pos hq, if_neg hq]
/-- a sign that must stand here -/
theorem sig_both {c : Int} (hc : isSgn c) (h : PS σ τ L mx a) : (∃ σ' τ' a', f_Tape_passes σ c = some (σ', 1) ∧ f_M_sign τ c = some (τ', 1) ∧ FrC σ σ' ∧ FrM τ τ' ∧ PS σ' τ' L mx a' ∧ (τ' 0 11 ≠ 4 → a + 1 ≤ a')) ∨ (∃ σ' τ', f_Tape_passes σ c = some (σ', 0) ∧ f_M_sign τ c = some (τ', 0) ∧ Bad σ τ σ' τ') := by
  rw [e_Tape_passes, e_M_sign, m_isSign hc h.tok, Option.bind_some]
  dsimp only
  by_cases hq : σ 64 4 = c
  · have hT : τ 0 11 = 3 := by
      unfold isSgn at hc
      rcases h.tok with ⟨h1, h2, h3⟩ | ⟨h1, h2, h3⟩ | ⟨h1, h2, h3⟩ | ⟨h1, h2, h3⟩ | ⟨h1, h2, h3, h4⟩
      · exfalso; omega
      · exfalso; omega
      · exfalso; omega
      · exfalso; omega
      · exact h2
    obtain ⟨σ', τ', a', a1, a2, a3, a4, a5, a6⟩ := h.adv (by omega)
    rw [if_pos hq, if_pos hq, in10, a1, a2]
    exact Or.inl ⟨σ', τ', a', rfl, rfl, a3, a4, a5, a6 (by omega)⟩
  · obtain ⟨σ', τ', a1, a2, a3⟩ := bad_both h 1
    rw [if_neg hq, if_neg hq, in00, a1, a2]
    exact Or.inr ⟨σ', τ', rfl, rfl, a3⟩
/-- a number that must stand here, within bounds; the reference goes behind it -/
theorem num_both {lo hi : Int} (h : PS σ τ L mx a) : (σ 64 4 = 3 ∧ τ 0 11 = 2 ∧ σ 64 7 = τ 0 14 ∧ lo ≤ σ 64 7 ∧ σ 64 7 ≤ hi ∧ f_Tape_isNumber σ lo hi = some (σ, 1) ∧ f_M_takes τ lo hi = (f_M_next (zset τ 0 18 (σ 64 7))).bind (fun r => some (r.1, 1))) ∨ (∃ σ' τ', f_Tape_isNumber σ lo hi = some (σ', 0) ∧ f_M_takes τ lo hi = some (τ', 0) ∧ Bad σ τ σ' τ') := by
  rw [e_Tape_isNumber, e_M_takes]
  by_cases hq : σ 64 4 = 3
  · have hT : τ 0 11 = 2 ∧ σ 64 7 = τ 0 14 := by
      rcases h.tok with ⟨h1, h2, h3⟩ | ⟨h1, h2, h3⟩ | ⟨h1, h2, h3⟩ | ⟨h1, h2, h3, h4⟩ | ⟨h1, h2, h3, h4⟩
      · exfalso; omega
      · exfalso; omega
      · exfalso; omega
      · exact ⟨h2, h3⟩
      · unfold isSgn at h1; exfalso; omega
    rw [if_pos hq, if_pos hT.1, m_isIn, Option.bind_some, ← hT.2]
    dsimp only
    obtain ⟨σ', τ', a1, a2, a3⟩ := bad_both h 2
    by_cases h1 : σ 64 7 < lo
    · rw [if_pos h1, if_neg (show ¬ (lo ≤ σ 64 7 ∧ σ 64 7 ≤ hi) by omega), in00, a1, a2]
      exact Or.inr ⟨σ', τ', rfl, rfl, a3⟩
    · rw [if_neg h1]
      by_cases h2 : σ 64 7 ≤ hi
      · rw [if_pos h2, if_pos (show lo ≤ σ 64 7 ∧ σ 64 7 ≤ hi by omega), in10]
        exact Or.inl ⟨hq, hT.1, rfl, by omega, h2, rfl, by rw [← hT.2]⟩
      · rw [if_neg h2, if_neg (show ¬ (lo ≤ σ 64 7 ∧ σ 64 7 ≤ hi) by omega), in00, a1, a2]
        exact Or.inr ⟨σ', τ', rfl, rfl, a3⟩
  · have hT : ¬ τ 0 11 = 2 := by
      rcases h.tok with ⟨h1, h2, h3⟩ | ⟨h1, h2, h3⟩ | ⟨h1, h2, h3⟩ | ⟨h1, h2, h3, h4⟩ | ⟨h1, h2, h3, h4⟩
      · omega
      · omega
      · omega
      · exfalso; omega
      · omega
    obtain ⟨σ', τ', a1, a2, a3⟩ := bad_both h 1
    rw [if_neg hq, if_neg hT, a1, a2]
    exact Or.inr ⟨σ', τ', rfl, rfl, a3⟩
end G53
