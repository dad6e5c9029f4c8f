/-! THE LEXER, both sides: a word, a number, a sign -/
section G51
variable {σ τ σ' τ' σ2 τ2 : zH} {L mx p : Nat}
theorem m_scan_end {n : Nat} {s al : Int} (h : LexR σ τ L mx) (hp : τ 0 4 = (p : Int)) (hn : τ 0 13 = (n : Int)) (hc : ¬ (p < L ∧ alnum (σ 65 p))) :
    f_M_next_181 τ s al = some (zset τ 0 11 (if al = 0 then 4 else if s = 0 then (if n ≤ 3 then 2 else 4) else (if n ≤ 7 then 1 else 4)), 0) := by
  have hq : ¬ (97 ≤ (if p < L then σ 65 p else -1) ∧ (if p < L then σ 65 p else -1) ≤ 122) ∧ ¬ (48 ≤ (if p < L then σ 65 p else -1) ∧ (if p < L then σ 65 p else -1) ≤ 57) := by
    unfold alnum at hc
    by_cases hpL : p < L
    · rw [if_pos hpL]; omega
    · rw [if_neg hpL]; omega
  rw [e_M_next_181, m_peek h hp, Option.bind_some]
  dsimp only
  rw [m_isSmall, if_neg hq.1, Option.bind_some]
  dsimp only
  rw [in00, m_peek h hp, Option.bind_some]
  dsimp only
  rw [m_isDigit, if_neg hq.2, Option.bind_some]
  dsimp only
  rw [i00]
  by_cases ha : al = 0
  · rw [if_pos ha, if_pos ha]
  · rw [if_neg ha, if_neg ha]
    by_cases hs : s = 0
    · by_cases h3 : n ≤ 3
      · have h4 : τ 0 13 ≤ 3 := by omega
        simp only [if_pos hs, if_pos h3, if_pos h4]
      · have h4 : ¬ τ 0 13 ≤ 3 := by omega
        simp only [if_pos hs, if_neg h3, if_neg h4]
    · by_cases h3 : n ≤ 7
      · have h4 : τ 0 13 ≤ 7 := by omega
        simp only [if_neg hs, if_pos h3, if_pos h4]
      · have h4 : ¬ τ 0 13 ≤ 7 := by omega
        simp only [if_neg hs, if_neg h3, if_neg h4]
theorem c_scan_111 (h : LexR σ τ L mx) (hp : σ 64 3 = (p : Int)) (hc : ¬ (p < L ∧ alnum (σ 65 p))) (x1 x2 : Int) : f_Tape_scanToken_14 σ x1 x2 = f_Tape_scanToken_111 σ x1 x2 := by
  have hL := h.1.1
  unfold alnum at hc
  rw [e_Tape_scanToken_14, h.2.1, hp]
  by_cases hpL : p < L
  · rw [if_neg (by omega), if_pos (zin_t (by omega) (by omega)), show Int.toNat (p : Int) = p from rfl]
    by_cases h9 : σ 65 p < 97
    · rw [if_pos h9, e_Tape_scanToken_67]
      by_cases h4 : σ 65 p < 48
      · rw [if_pos h4]
      · rw [if_neg h4, if_pos (show 57 < σ 65 p by omega)]
    · rw [if_neg h9, if_pos (show 122 < σ 65 p by omega), e_Tape_scanToken_67, if_neg (show ¬ σ 65 p < 48 by omega), if_pos (show 57 < σ 65 p by omega)]
  · rw [if_pos (by omega)]
theorem c_scan_end (h : LexR σ τ L mx) (hp : σ 64 3 = (p : Int)) (hc : ¬ (p < L ∧ alnum (σ 65 p))) {x1 x2 : Nat} (hx : 1 ≤ x1 + x2) (hx2 : x1 + x2 ≤ 940) :
    f_Tape_scanToken_14 σ x1 x2 = some (zset σ 64 4 (if x2 = 0 then (if x1 ≤ 7 then 2 else 1) else if x1 = 0 then (if x2 ≤ 3 then 3 else 1) else 1), 0) := by
  rw [c_scan_111 h hp hc, e_Tape_scanToken_111, w32_id (x := (x1 : Int) + (x2 : Int)) (by omega) (by omega), if_pos (show ¬ (x1 : Int) + (x2 : Int) = 0 by omega), e_Tape_scanToken_215]
  by_cases h2 : x2 = 0
  · rw [if_neg (show ¬ ¬ (x2 : Int) = 0 by omega), if_pos h2]
    by_cases h7 : x1 ≤ 7
    · rw [if_neg (show ¬ 7 < (x1 : Int) by omega), if_pos h7]
    · rw [if_pos (show 7 < (x1 : Int) by omega), if_neg h7, if_pos (show ¬ (x1 : Int) = 0 by omega)]
  · rw [if_pos (show ¬ (x2 : Int) = 0 by omega), if_neg h2]
    by_cases h1 : x1 = 0
    · rw [if_neg (show ¬ ¬ (x1 : Int) = 0 by omega), if_pos h1]
      by_cases h3 : x2 ≤ 3
      · rw [if_neg (show ¬ 3 < (x2 : Int) by omega), if_pos h3]
      · rw [if_pos (show 3 < (x2 : Int) by omega), if_neg h3]
    · rw [if_pos (show ¬ (x1 : Int) = 0 by omega), if_neg h1]
/-- what is so while a word or a number is read -/
def ScanIn (σ τ : zH) (L p x1 x2 : Nat) (s al : Int) : Prop := σ 64 3 = (p : Int) ∧ τ 0 4 = (p : Int) ∧ τ 0 13 = ((x1 + x2 : Nat) : Int) ∧ x1 + x2 ≤ p ∧ (s = 0 ∨ s = 1) ∧ al = (if s = 1 then (if x2 = 0 then 1 else 0) else (if x1 = 0 then 1 else 0)) ∧
  ((x1 + x2 = 0 ∧ p < L ∧ ((s = 1 ∧ 97 ≤ σ 65 p ∧ σ 65 p ≤ 122) ∨ (s = 0 ∧ 48 ≤ σ 65 p ∧ σ 65 p ≤ 57))) ∨ (s = 1 ∧ 1 ≤ x1) ∨ (s = 0 ∧ 1 ≤ x2)) ∧
  (x2 = 0 → x1 ≤ 7 → σ 64 8 = τ 0 17 ∧ (1 ≤ x1 → σ 64 8 ≠ 0)) ∧ (x1 = 0 → x2 ≤ 3 → σ 64 7 = τ 0 14 ∧ 0 ≤ σ 64 7 ∧ (x2 = 0 → σ 64 7 = 0) ∧ (x2 = 1 → σ 64 7 ≤ 9) ∧ (x2 = 2 → σ 64 7 ≤ 99) ∧ σ 64 7 ≤ 999)
theorem scan_fin {x1 x2 : Nat} {s al : Int} (h : LexR σ τ L mx) (hpL : p ≤ L) (hc : ¬ (p < L ∧ alnum (σ 65 p))) (hi : ScanIn σ τ L p x1 x2 s al) :
    ∃ σ' τ', f_Tape_scanToken_14 σ x1 x2 = some (σ', 0) ∧ f_M_next_181 τ s al = some (τ', 0) ∧ ScanOut σ τ σ' τ' L p (x1 + x2) := by
  obtain ⟨i1, i2, i3, i4, i5, i6, i7, i8, i9⟩ := hi
  have hL := h.1.1
  have hx : (s = 1 ∧ 1 ≤ x1) ∨ (s = 0 ∧ 1 ≤ x2) := by
    rcases i7 with ⟨q1, q2, q3⟩ | q | q
    · exfalso
      apply hc
      unfold alnum
      refine ⟨q2, ?_⟩
      omega
    · exact Or.inl q
    · exact Or.inr q
  refine ⟨_, _, c_scan_end h i1 hc (by omega) (by omega), m_scan_end h i2 i3 hc, p, Nat.le_refl p, hpL, fun q => by omega, by rw [zi (by decide)]; exact i1, by rw [zi (by decide)]; exact i2, FrC.set (by omega), FrM.set (by omega), zi (by decide), zi (by decide), zi (by decide), ?_⟩
  rw [zs, zs, zi (by decide), zi (by decide), zi (by decide), zi (by decide)]
  rcases hx with ⟨rfl, h1⟩ | ⟨rfl, h1⟩
  · rw [if_pos rfl] at i6
    rw [if_neg (show ¬ (1 : Int) = 0 by decide)]
    by_cases h2 : x2 = 0
    · rw [if_pos h2] at i6
      rw [if_pos h2, if_neg (show ¬ al = 0 by omega)]
      by_cases h7 : x1 ≤ 7
      · rw [if_pos h7, if_pos (show x1 + x2 ≤ 7 by omega)]
        exact Or.inl ⟨rfl, rfl, (i8 h2 h7).1, (i8 h2 h7).2 h1⟩
      · rw [if_neg h7, if_neg (show ¬ x1 + x2 ≤ 7 by omega)]
        exact Or.inr (Or.inr ⟨rfl, rfl⟩)
    · rw [if_neg h2] at i6
      rw [if_neg h2, if_pos i6, if_neg (show ¬ x1 = 0 by omega)]
      exact Or.inr (Or.inr ⟨rfl, rfl⟩)
  · rw [if_neg (show ¬ (0 : Int) = 1 by decide)] at i6
    rw [if_pos (show (0 : Int) = 0 from rfl), if_neg (show ¬ x2 = 0 by omega)]
    by_cases h2 : x1 = 0
    · rw [if_pos h2] at i6
      rw [if_pos h2, if_neg (show ¬ al = 0 by omega)]
      by_cases h7 : x2 ≤ 3
      · rw [if_pos h7, if_pos (show x1 + x2 ≤ 3 by omega)]
        obtain ⟨j1, j2, -, -, -, j3⟩ := i9 h2 h7
        exact Or.inr (Or.inl ⟨rfl, rfl, j1, j2, j3⟩)
      · rw [if_neg h7, if_neg (show ¬ x1 + x2 ≤ 3 by omega)]
        exact Or.inr (Or.inr ⟨rfl, rfl⟩)
    · rw [if_neg h2] at i6
      rw [if_neg h2, if_pos i6]
      exact Or.inr (Or.inr ⟨rfl, rfl⟩)
theorem scan_both : ∀ (r p x1 x2 : Nat) (σ τ : zH) (s al : Int), LexR σ τ L mx → p + r = L → ScanIn σ τ L p x1 x2 s al → ∃ σ' τ', f_Tape_scanToken_14 σ x1 x2 = some (σ', 0) ∧ f_M_next_181 τ s al = some (τ', 0) ∧ ScanOut σ τ σ' τ' L p (x1 + x2)
  | 0, p, x1, x2, σ, τ, s, al, h, hr, hi => scan_fin h (by omega) (fun q => by omega) hi
  | r + 1, p, x1, x2, σ, τ, s, al, h, hr, hi => by
    by_cases hc : alnum (σ 65 p)
    · have hi0 := hi
      obtain ⟨i1, i2, i3, i4, i5, i6, i7, i8, i9⟩ := hi
      have hL := h.1.1
      obtain ⟨τ2, m1, m2, m3, m4, m5, m6, m7⟩ := m_letter (s := s) (al := al) h i2 i3 (by omega) (by omega) hc
      have fin : ∀ (σ2 : zH) (y1 y2 : Nat), y1 + y2 = x1 + x2 + 1 → f_Tape_scanToken_14 σ x1 x2 = f_Tape_scanToken_14 σ2 y1 y2 → FrC σ σ2 → σ2 64 5 = σ 64 5 → σ2 64 6 = σ 64 6 → ScanIn σ2 τ2 L (p + 1) y1 y2 s (if al = 0 then 0 else if ¬ (if 97 ≤ σ 65 p ∧ σ 65 p ≤ 122 then (1 : Int) else 0) = s then 0 else 1) → ∃ σ' τ', f_Tape_scanToken_14 σ x1 x2 = some (σ', 0) ∧ f_M_next_181 τ s al = some (τ', 0) ∧ ScanOut σ τ σ' τ' L p (x1 + x2) := by
        intro σ2 y1 y2 hy e1 e2 e5 e6 e3
        obtain ⟨σ', τ', a1, a2, p', a3, a4, a5, a6, a7, a8, a9, b1, b2, b3, b4⟩ := scan_both r (p + 1) y1 y2 σ2 τ2 s _ (h.fr e2 m7) (by omega) e3
        exact ⟨σ', τ', by rw [e1]; exact a1, by rw [m1]; exact a2, p', by omega, a4, fun _ => a3, a6, a7, e2.trans a8, m7.trans a9, by rw [b1, e5], by rw [b2, e6], by rw [b3, m6], b4⟩
      unfold alnum at hc
      rcases hc with hc | hc
      · refine fin (zset (zset σ 64 8 (zlor (zlshl (σ 64 8) 8) (σ 65 p))) 64 3 ((p + 1 : Nat) : Int)) (x1 + 1) x2 (by omega) ?_ ((FrC.set (by omega)).trans (FrC.set (by omega))) (by rw [zi (by decide), zi (by decide)]) (by rw [zi (by decide), zi (by decide)]) ?_
        · rw [e_Tape_scanToken_14, h.2.1, i1, if_neg (show ¬ (L : Int) ≤ (p : Int) by omega), if_pos (zin_t (by omega) (by omega)), show Int.toNat (p : Int) = p from rfl, if_neg (show ¬ σ 65 p < 97 by omega), if_neg (show ¬ 122 < σ 65 p by omega), zi (show (3 : Nat) ≠ 8 by decide), i1, w32_s (by omega), w32_s (by omega)]
        · refine ⟨zs, m3, by rw [m2]; omega, by omega, i5, ?_, ?_, fun q1 q2 => ?_, fun q1 => by omega⟩
          · rw [if_pos hc]
            rcases i5 with rfl | rfl
            · rw [if_neg (show ¬ (0 : Int) = 1 by decide), if_pos (show ¬ (1 : Int) = 0 by decide), if_neg (show ¬ x1 + 1 = 0 by omega)]
              by_cases ha : al = 0
              · rw [if_pos ha]
              · rw [if_neg ha]
            · rw [if_pos rfl] at i6 ⊢
              by_cases h2 : x2 = 0
              · rw [if_pos h2] at i6 ⊢
                rw [if_neg (show ¬ al = 0 by omega), if_neg (fun x => x rfl)]
              · rw [if_neg h2] at i6 ⊢
                rw [if_pos i6]
          · rcases i5 with rfl | rfl
            · refine Or.inr (Or.inr ⟨rfl, ?_⟩)
              rcases i7 with ⟨q1, q2, q3⟩ | ⟨q1, q2⟩ | ⟨q1, q2⟩
              · exfalso; omega
              · exact absurd q1 (by decide)
              · exact q2
            · exact Or.inr (Or.inl ⟨rfl, by omega⟩)
          · rw [zi (by decide), zs, m4, if_neg (by omega), (i8 q1 (by omega)).1]
            exact ⟨rfl, fun _ => zlor_ne (by omega) (by omega)⟩
      · refine fin (zset (zset σ 64 7 (w32 (w32 (w32 (σ 64 7 * 10) + σ 65 p) - 48))) 64 3 ((p + 1 : Nat) : Int)) x1 (x2 + 1) (by omega) ?_ ((FrC.set (by omega)).trans (FrC.set (by omega))) (by rw [zi (by decide), zi (by decide)]) (by rw [zi (by decide), zi (by decide)]) ?_
        · rw [e_Tape_scanToken_14, h.2.1, i1, if_neg (show ¬ (L : Int) ≤ (p : Int) by omega), if_pos (zin_t (by omega) (by omega)), show Int.toNat (p : Int) = p from rfl, if_pos (show σ 65 p < 97 by omega), e_Tape_scanToken_67, if_neg (show ¬ σ 65 p < 48 by omega), if_neg (show ¬ 57 < σ 65 p by omega), zi (show (3 : Nat) ≠ 7 by decide), i1, w32_s (by omega), w32_s (by omega)]
        · refine ⟨zs, m3, by rw [m2]; omega, by omega, i5, ?_, ?_, fun q1 => by omega, fun q1 q2 => ?_⟩
          · rw [if_neg (show ¬ (97 ≤ σ 65 p ∧ σ 65 p ≤ 122) by omega)]
            rcases i5 with rfl | rfl
            · rw [if_neg (show ¬ (0 : Int) = 1 by decide)] at i6 ⊢
              rw [if_neg (show ¬ ¬ (0 : Int) = 0 from fun x => x rfl)]
              by_cases h2 : x1 = 0
              · rw [if_pos h2] at i6 ⊢
                rw [if_neg (show ¬ al = 0 by omega)]
              · rw [if_neg h2] at i6 ⊢
                rw [if_pos i6]
            · rw [if_pos (show ¬ (0 : Int) = 1 by decide), if_pos rfl, if_neg (show ¬ x2 + 1 = 0 by omega)]
              by_cases ha : al = 0
              · rw [if_pos ha]
              · rw [if_neg ha]
          · rcases i5 with rfl | rfl
            · exact Or.inr (Or.inr ⟨rfl, by omega⟩)
            · refine Or.inr (Or.inl ⟨rfl, ?_⟩)
              rcases i7 with ⟨q1, q2, q3⟩ | ⟨q1, q2⟩ | ⟨q1, q2⟩
              · exfalso; omega
              · exact q2
              · exact absurd q1 (by decide)
          · obtain ⟨j1, j2, j3, j4, j5, j6⟩ := i9 q1 (by omega)
            rw [zi (by decide), zs, m5, if_neg (by omega), ← j1, Int.mul_comm 10 (σ 64 7)]
            have hx : x2 = 0 ∨ x2 = 1 ∨ x2 = 2 := by omega
            rw [w32_id (x := σ 64 7 * 10) (by omega) (by omega), w32_id (x := σ 64 7 * 10 + σ 65 p) (by omega) (by omega), w32_id (x := σ 64 7 * 10 + σ 65 p - 48) (by omega) (by omega)]
            rcases hx with rfl | rfl | rfl
            · have := j3 rfl
              exact ⟨rfl, by omega, fun q => by omega, fun q => by omega, fun q => by omega, by omega⟩
            · have := j4 rfl
              exact ⟨rfl, by omega, fun q => by omega, fun q => by omega, fun q => by omega, by omega⟩
            · have := j5 rfl
              exact ⟨rfl, by omega, fun q => by omega, fun q => by omega, fun q => by omega, by omega⟩
    · exact scan_fin h (by omega) (fun q => hc q.2) hi
/-- a sign, or no token -/
abbrev isSgn (c : Int) : Prop := c = 40 ∨ c = 41 ∨ c = 59 ∨ c = 60 ∨ c = 61 ∨ c = 62
theorem sign_both (h : LexR σ τ L mx) (hpL : p < L) (h3 : σ 64 3 = (p : Int)) (h4 : τ 0 4 = (p : Int)) (hc : ¬ alnum (σ 65 p)) :
    ∃ σ' τ', f_Tape_scanToken_14 σ 0 0 = some (σ', 0) ∧ f_M_next_80 τ = some (τ', 0) ∧ σ' 64 3 = ((p + 1 : Nat) : Int) ∧ τ' 0 4 = ((p + 1 : Nat) : Int) ∧ FrC σ σ' ∧ FrM τ τ' ∧ σ' 64 5 = σ 64 5 ∧ σ' 64 6 = σ 64 6 ∧ τ' 0 12 = τ 0 12 ∧ (((σ' 64 4 = 1 ∨ σ' 64 4 = 46) ∧ τ' 0 11 = 4) ∨ (isSgn (σ' 64 4) ∧ τ' 0 11 = 3 ∧ τ' 0 14 = σ' 64 4)) := by
  have hL := h.1.1
  obtain ⟨b0, b1⟩ := h.byte hpL
  have pk := m_peek h h4
  rw [if_pos hpL] at pk
  have hC : f_Tape_scanToken_14 σ 0 0 = f_Tape_scanToken_168 σ (σ 65 p) (if σ 65 p = 46 ∨ isSgn (σ 65 p) then 1 else 0) := by
    rw [c_scan_111 h h3 (fun q => hc q.2), e_Tape_scanToken_111, w32_id (x := 0 + 0) (by decide) (by decide), if_neg (show ¬ ¬ (0 : Int) + 0 = 0 by decide), h3, if_pos (zin_t (by omega) (by omega)), show Int.toNat (p : Int) = p from rfl, e_Tape_scanToken_145]
    unfold isSgn
    by_cases c59 : σ 65 p = 59
    · rw [if_pos c59, if_pos (by omega)]
    · rw [if_neg c59]
      by_cases c60 : σ 65 p < 60
      · rw [if_pos c60]
        by_cases c40 : σ 65 p = 40
        · rw [if_pos c40, if_pos (by omega)]
        · rw [if_neg c40]
          by_cases c41 : σ 65 p = 41
          · rw [if_pos c41, if_pos (by omega)]
          · rw [if_neg c41]
            by_cases c46 : σ 65 p = 46
            · rw [if_neg (show ¬ ¬ σ 65 p = 46 from fun x => x c46), if_pos (by omega)]
            · rw [if_pos c46, if_neg (by omega)]
      · rw [if_neg c60]
        by_cases c62 : σ 65 p ≤ 62
        · rw [if_pos c62, if_pos (by omega)]
        · rw [if_neg c62, if_neg (show ¬ σ 65 p = 40 by omega), if_neg (show ¬ σ 65 p = 41 by omega), if_pos (show ¬ σ 65 p = 46 by omega), if_neg (by omega)]
  have hM : f_M_next_80 τ = some (zset (zset (zset τ 0 11 (if isSgn (σ 65 p) then 3 else 4)) 0 14 (σ 65 p)) 0 4 ((p + 1 : Nat) : Int), 0) := by
    have e4 : ∀ v w : Int, zset (zset τ 0 11 v) 0 14 w 0 4 = (p : Int) := fun v w => by rw [zi (by decide), zi (by decide)]; exact h4
    unfold alnum at hc
    rw [e_M_next_80, pk, Option.bind_some]
    dsimp only
    rw [if_pos b0, m_isSmall, if_neg (by omega), Option.bind_some]
    dsimp only
    rw [in00, m_isDigit, if_neg (by omega), Option.bind_some]
    dsimp only
    rw [in00]
    simp only [e4]
    rw [w32_s (by omega)]
    unfold isSgn
    by_cases c59 : σ 65 p = 59
    · rw [if_pos c59, if_pos (by omega)]
    · rw [if_neg c59]
      by_cases c40 : σ 65 p = 40
      · rw [if_pos c40, if_pos (by omega)]
      · rw [if_neg c40]
        by_cases c41 : σ 65 p = 41
        · rw [if_pos c41, if_pos (by omega)]
        · rw [if_neg c41]
          by_cases c60 : σ 65 p < 60
          · rw [if_pos c60, if_neg (by omega)]
          · rw [if_neg c60]
            by_cases c62 : 62 < σ 65 p
            · rw [if_pos c62, if_neg (by omega)]
            · rw [if_neg c62, if_pos (by omega)]
  rw [hC, hM, e_Tape_scanToken_168]
  by_cases hs : isSgn (σ 65 p)
  · rw [if_pos (Or.inr hs), if_neg (show ¬ (1 : Int) = 0 by decide), if_pos hs, zi (show (3 : Nat) ≠ 4 by decide), h3, w32_s (by omega)]
    refine ⟨_, _, rfl, rfl, zs, zs, (FrC.set (by omega)).trans (FrC.set (by omega)), ((FrM.set (by omega)).trans (FrM.set (by omega))).trans (FrM.set (by omega)), by rw [zi (by decide), zi (by decide)], by rw [zi (by decide), zi (by decide)], by rw [zi (by decide), zi (by decide), zi (by decide)], Or.inr ⟨?_, ?_, ?_⟩⟩
    · rw [zi (by decide), zs]; exact hs
    · rw [zi (by decide), zi (by decide), zs]
    · rw [zi (by decide), zs, zi (by decide), zs]
  · rw [if_neg hs]
    by_cases c46 : σ 65 p = 46
    · rw [if_pos (Or.inl c46), if_neg (show ¬ (1 : Int) = 0 by decide), zi (show (3 : Nat) ≠ 4 by decide), h3, w32_s (by omega)]
      refine ⟨_, _, rfl, rfl, zs, zs, (FrC.set (by omega)).trans (FrC.set (by omega)), ((FrM.set (by omega)).trans (FrM.set (by omega))).trans (FrM.set (by omega)), by rw [zi (by decide), zi (by decide)], by rw [zi (by decide), zi (by decide)], by rw [zi (by decide), zi (by decide), zi (by decide)], Or.inl ⟨Or.inr ?_, ?_⟩⟩
      · rw [zi (by decide), zs]; exact c46
      · rw [zi (by decide), zi (by decide), zs]
    · rw [if_neg (show ¬ (σ 65 p = 46 ∨ isSgn (σ 65 p)) from fun x => x.elim c46 hs), if_pos (show (0 : Int) = 0 from rfl), zi (show (3 : Nat) ≠ 4 by decide), h3, w32_s (by omega)]
      refine ⟨_, _, rfl, rfl, zs, zs, (FrC.set (by omega)).trans (FrC.set (by omega)), ((FrM.set (by omega)).trans (FrM.set (by omega))).trans (FrM.set (by omega)), by rw [zi (by decide), zi (by decide)], by rw [zi (by decide), zi (by decide)], by rw [zi (by decide), zi (by decide), zi (by decide)], Or.inl ⟨Or.inl ?_, ?_⟩⟩
      · rw [zi (by decide), zs]
      · rw [zi (by decide), zi (by decide), zs]
end G51
