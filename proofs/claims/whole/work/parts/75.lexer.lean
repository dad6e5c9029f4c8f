/-! THE LEXER, both sides: bytes, and a word or a number read whole -/
section G50
variable {σ τ σ' τ' σ2 τ2 : zH} {L mx p : Nat}
/-- a text that is read: both sides hold its bytes, its length, its limit -/
def LexR (σ τ : zH) (L mx : Nat) : Prop := ByR σ τ L ∧ σ 64 1 = (L : Int) ∧ τ 0 3 = (L : Int) ∧ σ 64 2 = (mx : Int) ∧ τ 0 5 = (mx : Int) ∧ mx ≤ 940
/-- what the lexers write -/
def lxC (j i : Nat) : Prop := j = 64 ∧ 3 ≤ i ∧ i ≤ 8
def lxM (j i : Nat) : Prop := j = 0 ∧ (i = 4 ∨ (11 ≤ i ∧ i ≤ 14) ∨ i = 17)
def FrC (σ σ' : zH) : Prop := ∀ j i, ¬ lxC j i → σ' j i = σ j i
def FrM (τ τ' : zH) : Prop := ∀ j i, ¬ lxM j i → τ' j i = τ j i
theorem FrC.refl : FrC σ σ := fun _ _ _ => rfl
theorem FrM.refl : FrM τ τ := fun _ _ _ => rfl
theorem FrC.trans (h : FrC σ σ') (g : FrC σ' σ2) : FrC σ σ2 := fun j i hj => by rw [g j i hj, h j i hj]
theorem FrM.trans (h : FrM τ τ') (g : FrM τ' τ2) : FrM τ τ2 := fun j i hj => by rw [g j i hj, h j i hj]
theorem FrC.set {i : Nat} {v : Int} (h : 3 ≤ i ∧ i ≤ 8) : FrC σ (zset σ 64 i v) := fun j i' hj => by
  unfold lxC at hj
  by_cases j4 : j = 64
  · subst j4; rw [zi (by omega)]
  · rw [zk j4]
theorem FrM.set {i : Nat} {v : Int} (h : i = 4 ∨ (11 ≤ i ∧ i ≤ 14) ∨ i = 17) : FrM τ (zset τ 0 i v) := fun j i' hj => by
  unfold lxM at hj
  by_cases j4 : j = 0
  · subst j4; rw [zi (by omega)]
  · rw [zk j4]
theorem FrC.cell (h : FrC σ σ') {j : Nat} (hj : j ≠ 64) : σ' j = σ j := funext (fun i => h j i (fun x => hj x.1))
theorem FrM.cell (h : FrM τ τ') {j : Nat} (hj : j ≠ 0) : τ' j = τ j := funext (fun i => h j i (fun x => hj x.1))
theorem LexR.fr (h : LexR σ τ L mx) (hc : FrC σ σ') (hm : FrM τ τ') : LexR σ' τ' L mx := by
  obtain ⟨⟨h1, h2⟩, h3, h4, h5, h6, h7⟩ := h
  refine ⟨⟨h1, fun i hi => ?_⟩, ?_, ?_, ?_, ?_, h7⟩
  · rw [hc.cell (by decide), hm.cell (by decide)]; exact h2 i hi
  · rw [hc 64 1 (by unfold lxC; omega)]; exact h3
  · rw [hm 0 3 (by unfold lxM; omega)]; exact h4
  · rw [hc 64 2 (by unfold lxC; omega)]; exact h5
  · rw [hm 0 5 (by unfold lxM; omega)]; exact h6
theorem LexR.byte (h : LexR σ τ L mx) {i : Nat} (hi : i < L) : 0 ≤ σ 65 i ∧ σ 65 i < 256 := by
  obtain ⟨h1, h2, h3⟩ := h.1.2 i hi
  rw [h3]
  omega
theorem m_peek (h : LexR σ τ L mx) (hp : τ 0 4 = (p : Int)) : f_M_peek τ = some (τ, if p < L then σ 65 p else -1) := by
  have hL := h.1.1
  rw [e_M_peek, h.2.2.1, hp]
  by_cases hq : p < L
  · obtain ⟨b1, b2, b3⟩ := h.1.2 p hq
    rw [if_neg (by omega), if_pos (zin_t (by omega) (by omega)), if_pos hq, show Int.toNat (p : Int) = p from rfl, zand_mask ⟨by omega, by omega⟩, b3]
  · rw [if_pos (by omega), if_neg hq]
theorem m_isSmall (c : Int) : f_M_isSmall τ c = some (τ, if 97 ≤ c ∧ c ≤ 122 then 1 else 0) := by
  rw [e_M_isSmall]
  by_cases h1 : c < 97
  · rw [if_pos h1, if_neg (by omega)]
  · by_cases h2 : 122 < c
    · rw [if_neg h1, if_pos h2, if_neg (by omega)]
    · rw [if_neg h1, if_neg h2, if_pos (by omega)]
theorem m_isDigit (c : Int) : f_M_isDigit τ c = some (τ, if 48 ≤ c ∧ c ≤ 57 then 1 else 0) := by
  rw [e_M_isDigit]
  by_cases h1 : c < 48
  · rw [if_pos h1, if_neg (by omega)]
  · by_cases h2 : 57 < c
    · rw [if_neg h1, if_pos h2, if_neg (by omega)]
    · rw [if_neg h1, if_neg h2, if_pos (by omega)]
def alnum (c : Int) : Prop := (97 ≤ c ∧ c ≤ 122) ∨ (48 ≤ c ∧ c ≤ 57)
theorem zlor_ne {a c : Int} (h0 : 0 < c) (h1 : c < 256) : zlor a c ≠ 0 := by
  unfold zlor
  intro h
  have h2 : (Int64.ofInt a ||| Int64.ofInt c).toBitVec = 0#64 := by
    have h3 := congrArg (BitVec.ofInt 64) h
    rw [← Int64.toInt_toBitVec, BitVec.ofInt_toInt] at h3
    exact h3
  rw [Int64.toBitVec_or] at h2
  have h3 : (Int64.ofInt c).toBitVec = 0#64 := (BitVec.or_eq_zero_iff.mp h2).2
  rw [Int64.toBitVec_ofInt] at h3
  have h4 := congrArg BitVec.toNat h3
  rw [BitVec.toNat_ofInt] at h4
  simp at h4
  omega
/-- what is behind a word or a number -/
def ScanOut (σ τ σ' τ' : zH) (L p n : Nat) : Prop := ∃ p' : Nat, p ≤ p' ∧ p' ≤ L ∧ (n = 0 → p + 1 ≤ p') ∧ σ' 64 3 = (p' : Int) ∧ τ' 0 4 = (p' : Int) ∧ FrC σ σ' ∧ FrM τ τ' ∧ σ' 64 5 = σ 64 5 ∧ σ' 64 6 = σ 64 6 ∧ τ' 0 12 = τ 0 12 ∧
  ((σ' 64 4 = 2 ∧ τ' 0 11 = 1 ∧ σ' 64 8 = τ' 0 17 ∧ σ' 64 8 ≠ 0) ∨ (σ' 64 4 = 3 ∧ τ' 0 11 = 2 ∧ σ' 64 7 = τ' 0 14 ∧ 0 ≤ σ' 64 7 ∧ σ' 64 7 ≤ 999) ∨ (σ' 64 4 = 1 ∧ τ' 0 11 = 4))
/-- one letter or digit more, the reference -/
theorem m_letter {n : Nat} {s al : Int} (h : LexR σ τ L mx) (hp : τ 0 4 = (p : Int)) (hn : τ 0 13 = (n : Int)) (hn2 : n ≤ 940) (hpL : p < L) (hc : alnum (σ 65 p)) :
    ∃ τ2, f_M_next_181 τ s al = f_M_next_181 τ2 s (if al = 0 then 0 else if ¬ (if 97 ≤ σ 65 p ∧ σ 65 p ≤ 122 then (1 : Int) else 0) = s then 0 else 1) ∧ τ2 0 13 = ((n + 1 : Nat) : Int) ∧ τ2 0 4 = ((p + 1 : Nat) : Int) ∧ τ2 0 17 = (if 7 ≤ n then τ 0 17 else zlor (zlshl (τ 0 17) 8) (σ 65 p)) ∧ τ2 0 14 = (if 3 ≤ n then τ 0 14 else w32 (w32 (w32 (10 * τ 0 14) + σ 65 p) - 48)) ∧ τ2 0 12 = τ 0 12 ∧ FrM τ τ2 := by
  have hL := h.1.1
  have pk := m_peek h hp
  rw [if_pos hpL] at pk
  have e221 : ∀ b : Int, ∃ τ2, f_M_next_221 τ s b = f_M_next_181 τ2 s b ∧ τ2 0 13 = ((n + 1 : Nat) : Int) ∧ τ2 0 4 = ((p + 1 : Nat) : Int) ∧ τ2 0 17 = (if 7 ≤ n then τ 0 17 else zlor (zlshl (τ 0 17) 8) (σ 65 p)) ∧ τ2 0 14 = (if 3 ≤ n then τ 0 14 else w32 (w32 (w32 (10 * τ 0 14) + σ 65 p) - 48)) ∧ τ2 0 12 = τ 0 12 ∧ FrM τ τ2 := by
    intro b
    have e248 : ∀ τ1 : zH, FrM τ τ1 → τ1 0 4 = (p : Int) → τ1 0 13 = (n : Int) → ∃ τ2, f_M_next_248 τ1 s b = f_M_next_181 τ2 s b ∧ τ2 0 13 = ((n + 1 : Nat) : Int) ∧ τ2 0 4 = ((p + 1 : Nat) : Int) ∧ τ2 0 17 = τ1 0 17 ∧ τ2 0 14 = (if 3 ≤ n then τ1 0 14 else w32 (w32 (w32 (10 * τ1 0 14) + σ 65 p) - 48)) ∧ τ2 0 12 = τ1 0 12 ∧ FrM τ1 τ2 := by
      intro τ1 f1 g4 g13
      have pk1 := m_peek (h.fr FrC.refl f1) g4
      rw [if_pos hpL] at pk1
      rw [e_M_next_248, g13]
      by_cases h3 : 3 ≤ n
      · rw [if_pos (by omega), zi (by decide), g4, w32_s (by omega), w32_s (by omega)]
        refine ⟨_, rfl, by rw [zi (by decide), zs], zs, by rw [zi (by decide), zi (by decide)], by rw [if_pos h3, zi (by decide), zi (by decide)], by rw [zi (by decide), zi (by decide)], (FrM.set (by omega)).trans (FrM.set (by omega))⟩
      · rw [if_neg (by omega), pk1, Option.bind_some]
        dsimp only
        rw [zi (show (4 : Nat) ≠ 13 by decide), zi (show (13 : Nat) ≠ 14 by decide), zi (show (4 : Nat) ≠ 14 by decide), g13, g4, w32_s (by omega), w32_s (by omega)]
        refine ⟨_, rfl, by rw [zi (by decide), zs], zs, by rw [zi (by decide), zi (by decide), zi (by decide)], by rw [if_neg h3, zi (by decide), zi (by decide), zs], by rw [zi (by decide), zi (by decide), zi (by decide)], ((FrM.set (by omega)).trans (FrM.set (by omega))).trans (FrM.set (by omega))⟩
    rw [e_M_next_221, hn]
    by_cases h7 : 7 ≤ n
    · rw [if_pos (by omega)]
      obtain ⟨τ2, a1, a2, a3, a4, a5, a6, a7⟩ := e248 τ FrM.refl hp hn
      exact ⟨τ2, a1, a2, a3, by rw [if_pos h7]; exact a4, a5, a6, a7⟩
    · rw [if_neg (by omega), pk, Option.bind_some]
      dsimp only
      obtain ⟨τ2, a1, a2, a3, a4, a5, a6, a7⟩ := e248 (zset τ 0 17 (zlor (zlshl (τ 0 17) 8) (σ 65 p))) (FrM.set (by omega)) (by rw [zi (by decide)]; exact hp) (by rw [zi (by decide)]; exact hn)
      exact ⟨τ2, a1, a2, a3, by rw [if_neg h7, a4, zs], by rw [a5, zi (by decide)], by rw [a6, zi (by decide)], (FrM.set (by omega)).trans a7⟩
  rw [e_M_next_181, pk, Option.bind_some]
  dsimp only
  rw [m_isSmall, Option.bind_some]
  dsimp only
  rcases hc with hc | hc
  · rw [if_pos hc, in10]
    by_cases ha : al = 0
    · rw [if_pos ha, if_pos ha]; exact e221 0
    · rw [if_neg ha, if_neg ha, pk, Option.bind_some]
      dsimp only
      rw [m_isSmall, Option.bind_some]
      dsimp only
      rw [if_pos hc]
      by_cases hs : (1 : Int) = s
      · rw [if_neg (fun x => x hs), if_neg (fun x => x hs)]; exact e221 1
      · rw [if_pos hs, if_pos hs]; exact e221 0
  · have hc' : ¬ (97 ≤ σ 65 p ∧ σ 65 p ≤ 122) := by omega
    rw [if_neg hc', in00, pk, Option.bind_some]
    dsimp only
    rw [m_isDigit, Option.bind_some]
    dsimp only
    rw [if_pos hc, i10]
    by_cases ha : al = 0
    · rw [if_pos ha, if_pos ha]; exact e221 0
    · rw [if_neg ha, if_neg ha, pk, Option.bind_some]
      dsimp only
      rw [m_isSmall, Option.bind_some]
      dsimp only
      rw [if_neg hc']
      by_cases hs : (0 : Int) = s
      · rw [if_neg (fun x => x hs), if_neg (fun x => x hs)]; exact e221 1
      · rw [if_pos hs, if_pos hs]; exact e221 0
end G50
