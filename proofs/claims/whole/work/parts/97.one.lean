/-! A SENTENCE is read: what its parts come to, both sides; a leaf -/
section G72
variable {σ τ σ' τ' σ1 τ1 : zH} {q k L ax ax' n m D o N f dp ar : Nat} {a c : Nat → Int}
def BS (a : Nat → Int) (q k L ax : Nat) (σ τ : zH) : Prop := PS σ τ L 200 ax ∧ ResR τ ∧ wfC a ∧ NamR σ (k + 32) (fun i => τ 10 (0 + i)) a ∧ τ 7 = a ∧ isLand k ∧ isRule q
theorem BS.mv (h : BS a q k L ax σ τ) (hP : PS σ' τ' L 200 ax') (hf : FsC q σ σ') (hg : FsM τ τ') : BS a q k L ax' σ' τ' := by
  obtain ⟨h1, h2, h3, h4, h5, h6, h7⟩ := h
  have hl := h6
  have hr := h7
  unfold isLand at hl
  unfold isRule at hr
  exact ⟨hP, h2.frame (funext (fun i => hg 11 i (by omega) (by omega) (by omega))), h3, h4.gen (fun j j0 j1 => funext (fun i => hf j i (by omega) (by omega))) rfl rfl rfl rfl (fun _ _ _ _ => hg 10 _ (by omega) (by omega) (by omega)), by rw [← h5]; exact funext (fun i => hg 7 i (by omega) (by omega) (by omega)), h6, h7⟩
theorem BS.adv (h : BS a q k L ax σ τ) (hT : τ 0 11 ≠ 4) : ∃ σ' τ' ax', f_Tape_advance σ = some (σ', 0) ∧ f_M_next τ = some (τ', 0) ∧ FrC σ σ' ∧ FrM τ τ' ∧ BS a q k L ax' σ' τ' := by
  obtain ⟨σ', τ', ax', h1, h2, h3, h4, h5, h6⟩ := h.1.adv hT
  exact ⟨σ', τ', ax', h1, h2, h3, h4, h.mv h5 h3.w.s h4.w.s⟩
/-- other small cells -/
theorem BS.fr (h : BS a q k L ax σ τ) (hσ : ∀ j i, ¬ (q ≤ j ∧ j < q + 4) → σ' j i = σ j i) (hτ : ∀ j i, ¬ (j = 0 ∧ (i = 18 ∨ (37 ≤ i ∧ i ≤ 41))) → j ≠ 9 → j ≠ 37 → τ' j i = τ j i) : BS a q k L ax σ' τ' := by
  have hr := h.2.2.2.2.2.2
  unfold isRule at hr
  refine h.mv (h.1.fr (fun i _ => hσ 64 i (by omega)) (funext (fun i => hσ 65 i (by omega))) (fun i hi => hτ 0 i (by omega) (by decide) (by decide)) (funext (fun i => hτ 2 i (by omega) (by decide) (by decide)))) (fun j i _ h2 => hσ j i h2) (fun j i h1 h2 h3 => hτ j i (by omega) h2 h3)
noncomputable def fS (τ : zH) : zR := f_M_sentence_48 τ 1
theorem F_op (h : τ 0 41 = 0) : fS τ = (f_M_operand τ).bind (fun r1 => if ¬ r1.2 = 0 then fS r1.1 else some (r1.1, w32 (-1 - (r1.1 0 16)))) := by
  unfold fS
  rw [e_M_sentence_48, if_neg (show ¬ (1 : Int) = 0 by decide), if_pos h, e_M_sentence_101, if_pos h]
theorem F_bh (h : τ 0 41 = 1) (hT : τ 0 11 ≠ 0) : fS τ = (f_M_behind1 τ).bind (fun r2 => if ¬ r2.2 = 0 then fS r2.1 else some (r2.1, w32 (-1 - (r2.1 0 16)))) := by
  unfold fS
  rw [e_M_sentence_48, if_neg (show ¬ (1 : Int) = 0 by decide), if_neg (show ¬ τ 0 41 = 0 by omega), if_pos hT, e_M_sentence_101, if_neg (show ¬ τ 0 41 = 0 by omega)]
theorem F_end (h : τ 0 41 = 1) (hT : τ 0 11 = 0) : fS τ = (f_M_nots τ).bind (fun r1 => (f_M_joins r1.1 22).bind (fun r2 => if (r2.1 0 39) ≤ 0 then f_M_sentence_48 r2.1 0 else (f_M_bad r2.1 1).bind (fun r3 => some (r3.1, w32 (-1 - (r3.1 0 16)))))) := by
  unfold fS
  rw [e_M_sentence_48, if_neg (show ¬ (1 : Int) = 0 by decide), if_neg (show ¬ τ 0 41 = 0 by omega), if_neg (fun x => x hT)]
theorem F_nots (h : τ 0 41 = 1) (hn : f_M_nots τ = some (τ', 0)) (hn' : f_M_nots τ' = some (τ', 0)) (hf : FkM τ τ') : fS τ = fS τ' := by
  have e41 : τ' 0 41 = 1 := by rw [hf 0 41 (by omega) (by decide)]; exact h
  have e11 : τ' 0 11 = τ 0 11 := hf 0 11 (by omega) (by decide)
  by_cases hT : τ 0 11 = 0
  · rw [F_end h hT, F_end e41 (by rw [e11]; exact hT), hn, hn']
  · rw [F_bh h hT, F_bh e41 (by rw [e11]; exact hT), e_M_behind1, e_M_behind1, hn, hn']
theorem cb {x y : Nat} {A B : zR} (h : x < y) : cond (Nat.blt x y) A B = A := by
  have : Nat.blt x y = true := by rw [Nat.blt_eq]; exact h
  rw [this]
  rfl
/-- what a part of a sentence comes to -/
def SOut (P : zH → zH → Prop) (q : Nat) (σ τ : zH) (C : zR) : Prop := ∃ σ' τ' r, C = some (σ', r) ∧ FsC q σ σ' ∧ FsM τ τ' ∧ ((r = 1 ∧ fS τ = fS τ' ∧ P σ' τ') ∨ (r = 0 ∧ fS τ = some (τ', w32 (-1 - (τ' 0 16))) ∧ Flt σ' τ'))
/-- within an operand -/
def SIn (P : zH → zH → Prop) (q : Nat) (σ τ : zH) (C M : zR) : Prop := ∃ σ' τ' r, C = some (σ', r) ∧ M = some (τ', r) ∧ FsC q σ σ' ∧ FsM τ τ' ∧ ((r = 1 ∧ P σ' τ') ∨ (r = 0 ∧ Flt σ' τ'))
theorem SIn.step {P : zH → zH → Prop} {C M : zR} (hf : FsC q σ σ1) (hg : FsM τ τ1) (h : SIn P q σ1 τ1 C M) : SIn P q σ τ C M := by
  obtain ⟨σ', τ', r, h1, h2, h3, h4, h5⟩ := h
  exact ⟨σ', τ', r, h1, h2, hf.trans h3, hg.trans h4, h5⟩
theorem SIn.bad {P : zH → zH → Prop} (h : Bad σ τ σ' τ') : SIn P q σ τ (some (σ', 0)) (some (τ', 0)) := ⟨σ', τ', 0, rfl, rfl, h.1.s, h.2.1.s, Or.inr ⟨rfl, h.2.2⟩⟩
theorem SIn.out {P : zH → zH → Prop} {C M : zR} (h : SIn P q σ τ C M) (e : fS τ = M.bind (fun r1 => if ¬ r1.2 = 0 then fS r1.1 else some (r1.1, w32 (-1 - (r1.1 0 16))))) : SOut P q σ τ C := by
  obtain ⟨σ', τ', r, h1, h2, h3, h4, h5⟩ := h
  refine ⟨σ', τ', r, h1, h3, h4, ?_⟩
  rw [e, h2, Option.bind_some]
  dsimp only
  rcases h5 with ⟨rfl, h5⟩ | ⟨rfl, h5⟩
  · exact Or.inl ⟨rfl, by rw [in10], h5⟩
  · exact Or.inr ⟨rfl, by rw [in00], h5⟩
theorem SOut.step {P : zH → zH → Prop} {C : zR} (hf : FsC q σ σ1) (hg : FsM τ τ1) (e : fS τ = fS τ1) (h : SOut P q σ1 τ1 C) : SOut P q σ τ C := by
  obtain ⟨σ', τ', r, h1, h3, h4, h5⟩ := h
  exact ⟨σ', τ', r, h1, hf.trans h3, hg.trans h4, by rw [e]; exact h5⟩
theorem SOut.post {P Q : zH → zH → Prop} {C : zR} (h : SOut P q σ τ C) (hPQ : ∀ σ' τ', P σ' τ' → Q σ' τ') : SOut Q q σ τ C := by
  obtain ⟨σ', τ', r, h1, h3, h4, h5⟩ := h
  exact ⟨σ', τ', r, h1, h3, h4, h5.imp (fun x => ⟨x.1, x.2.1, hPQ _ _ x.2.2⟩) id⟩
/-- the class goes on behind a part -/
theorem SOut.bind {P Q : zH → zH → Prop} {C : zR} {K : zH × Int → zR} (h : SOut P q σ τ C) (h0 : ∀ σ', K (σ', 0) = some (σ', 0)) (h1 : ∀ σ' τ', FsC q σ σ' → FsM τ τ' → P σ' τ' → SOut Q q σ' τ' (K (σ', 1))) : SOut Q q σ τ (C.bind K) := by
  obtain ⟨σ', τ', r, g1, g3, g4, g5⟩ := h
  rw [g1, Option.bind_some]
  rcases g5 with ⟨rfl, g5, g6⟩ | ⟨rfl, g5, g6⟩
  · exact SOut.step g3 g4 g5 (h1 σ' τ' g3 g4 g6)
  · rw [h0 σ']
    exact ⟨σ', τ', 0, rfl, g3, g4, Or.inr ⟨rfl, g5, g6⟩⟩
def POne (a : Nat → Int) (q k L n D o N ar : Nat) (S : Nat → Int) (σ' τ' : zH) : Prop := ∃ (ax' m' j o' : Nat) (c' : Nat → Int), BS a q k L ax' σ' τ' ∧ NS σ' τ' q (m' + j) m' (D + 1) o' (N + j) 1 (1 + ar + j) c' ∧ (∀ i, m' ≤ i → i < m' + j → c' (1 + 3 * i) = 20) ∧ (∀ i, i < N → τ' 37 i = S i) ∧ (∀ i, N ≤ i → i < N + j → τ' 37 i = 20) ∧ o + 1 ≤ o' ∧ m' + j + (D + 1) + 2 * o ≤ n + D + 2 * o'
def PAll (a : Nat → Int) (q k L n D o N ar : Nat) (S : Nat → Int) (σ' τ' : zH) : Prop := ∃ (ax' m' p o' : Nat) (c' : Nat → Int), BS a q k L ax' σ' τ' ∧ NS σ' τ' q (m' + p) m' (D + 1) o' (N + p) 1 (1 + ar) c' ∧ p ≤ 1 ∧ (p = 1 → c' (1 + 3 * m') = 21 ∧ τ' 37 N = 21) ∧ (∀ i, i < N → τ' 37 i = S i) ∧ o + 1 ≤ o' ∧ m' + p + (D + 1) + 2 * o ≤ n + D + 2 * o' ∧ σ' 64 6 ≠ 18
def PCond (a : Nat → Int) (q k L n D o N ar : Nat) (S : Nat → Int) (σ' τ' : zH) : Prop := ∃ (ax' m' p r o' : Nat) (c' : Nat → Int), BS a q k L ax' σ' τ' ∧ NS σ' τ' q (m' + p + r) m' (D + 1) o' (N + r + p) 1 (1 + ar) c' ∧ p ≤ 1 ∧ r ≤ 1 ∧ (p = 1 → c' (1 + 3 * m') = 21 ∧ τ' 37 (N + r) = 21) ∧ (r = 1 → c' (1 + 3 * (m' + p)) = 22 ∧ τ' 37 N = 22) ∧ (∀ i, i < N → τ' 37 i = S i) ∧ o + 1 ≤ o' ∧ m' + p + r + (D + 1) + 2 * o ≤ n + D + 2 * o' ∧ σ' 64 6 ≠ 18 ∧ σ' 64 6 ≠ 17
def OneP (ar : Nat) : Prop := ∀ (a : Nat → Int) (q k L ax n D o N : Nat) (c : Nat → Int) (σ τ : zH), BS a q k L ax σ τ → NS σ τ q n n D o N 0 (1 + ar) c → SOut (POne a q k L n D o N ar (τ 37)) q σ τ (f_Sentence_readOne σ q (k + 32) (ar : Int))
def AllP (ar : Nat) : Prop := ∀ (a : Nat → Int) (q k L ax n D o N : Nat) (c : Nat → Int) (σ τ : zH), BS a q k L ax σ τ → NS σ τ q n n D o N 0 (1 + ar) c → (N = 0 ∨ (τ 37 (N - 1) ≠ 20 ∧ τ 37 (N - 1) ≠ 21)) → SOut (PAll a q k L n D o N ar (τ 37)) q σ τ (f_Sentence_readAll σ q (k + 32) (ar : Int))
def CondP (ar : Nat) : Prop := ∀ (a : Nat → Int) (q k L ax n D o N : Nat) (c : Nat → Int) (σ τ : zH), BS a q k L ax σ τ → NS σ τ q n n D o N 0 (1 + ar) c → (N = 0 ∨ τ 37 (N - 1) = 23) → SOut (PCond a q k L n D o N ar (τ 37)) q σ τ (f_Sentence_readCond σ q (k + 32) (ar : Int))
/-- a leaf's number -/
def lfv (x : Int) : Int := if x = 13 then 0 else if x = 20 then 1 else if x = 21 then 2 else if x = 22 then 3 else if x = 23 then 4 else if x = 24 then 5 else if x = 25 then 6 else -1
theorem m_leafOf (h : TokK σ τ) : f_M_leafOf τ = some (τ, lfv (σ 64 6)) := by
  have w1 : f_M_isWord τ 491327153267 = some (τ, if σ 64 6 = 13 then 1 else 0) := m_isWord (i := 13) (by decide) h
  have w2 : f_M_isWord τ 28526 = some (τ, if σ 64 6 = 20 then 1 else 0) := m_isWord (i := 20) (by decide) h
  have w3 : f_M_isWord τ 495622976357 = some (τ, if σ 64 6 = 21 then 1 else 0) := m_isWord (i := 21) (by decide) h
  have w4 : f_M_isWord τ 24948 = some (τ, if σ 64 6 = 22 then 1 else 0) := m_isWord (i := 22) (by decide) h
  have w5 : f_M_isWord τ 512970876019 = some (τ, if σ 64 6 = 23 then 1 else 0) := m_isWord (i := 23) (by decide) h
  have w6 : f_M_isWord τ 465625113956 = some (τ, if σ 64 6 = 24 then 1 else 0) := m_isWord (i := 24) (by decide) h
  have w7 : f_M_isWord τ 121450625394034 = some (τ, if σ 64 6 = 25 then 1 else 0) := m_isWord (i := 25) (by decide) h
  unfold lfv
  rw [e_M_leafOf, w1, Option.bind_some]
  dsimp only
  by_cases h1 : σ 64 6 = 13
  · rw [if_pos h1, if_pos h1, if_neg (show ¬ (1 : Int) = 0 by decide)]
  rw [if_neg h1, if_neg h1, i00, w2, Option.bind_some]
  dsimp only
  by_cases h2 : σ 64 6 = 20
  · rw [if_pos h2, if_pos h2, if_neg (show ¬ (1 : Int) = 0 by decide)]
  rw [if_neg h2, if_neg h2, i00, w3, Option.bind_some]
  dsimp only
  by_cases h3 : σ 64 6 = 21
  · rw [if_pos h3, if_pos h3, if_neg (show ¬ (1 : Int) = 0 by decide)]
  rw [if_neg h3, if_neg h3, i00, w4, Option.bind_some]
  dsimp only
  by_cases h4 : σ 64 6 = 22
  · rw [if_pos h4, if_pos h4, if_neg (show ¬ (1 : Int) = 0 by decide)]
  rw [if_neg h4, if_neg h4, i00, w5, Option.bind_some]
  dsimp only
  by_cases h5 : σ 64 6 = 23
  · rw [if_pos h5, if_pos h5, if_neg (show ¬ (1 : Int) = 0 by decide)]
  rw [if_neg h5, if_neg h5, i00, w6, Option.bind_some]
  dsimp only
  by_cases h6 : σ 64 6 = 24
  · rw [if_pos h6, if_pos h6, if_neg (show ¬ (1 : Int) = 0 by decide)]
  rw [if_neg h6, if_neg h6, i00, w7, Option.bind_some]
  dsimp only
  by_cases h7 : σ 64 6 = 25
  · rw [if_pos h7, if_pos h7, if_neg (show ¬ (1 : Int) = 0 by decide)]
  rw [if_neg h7, if_neg h7, i00]
theorem lfv_in {x : Int} : 0 ≤ lfv x ↔ (x = 13 ∨ (20 ≤ x ∧ x ≤ 25)) := by
  unfold lfv
  repeat' split
  all_goals omega
theorem c_begins {x : Int} : f_Sentence_beginsOne σ x = some (σ, if x = 19 ∨ 0 ≤ lfv x then 1 else 0) := by
  rw [e_Sentence_beginsOne]
  have hl := lfv_in (x := x)
  by_cases h1 : x = 19
  · rw [if_pos h1, if_pos (Or.inl h1)]
  · rw [if_neg h1]
    by_cases h2 : x = 13
    · rw [if_pos h2, if_pos (Or.inr (hl.mpr (Or.inl h2)))]
    · rw [if_neg h2]
      by_cases h3 : x < 20
      · rw [if_pos h3, if_neg (by rw [hl]; omega)]
      · rw [if_neg h3]
        by_cases h4 : 25 < x
        · rw [if_pos h4, if_neg (by rw [hl]; omega)]
        · rw [if_neg h4, if_pos (Or.inr (hl.mpr (Or.inr ⟨by omega, by omega⟩)))]
theorem m_operand (h : TokK σ τ) : f_M_operand τ = if σ 64 6 = 19 ∨ σ 64 4 = 40 ∨ 0 ≤ lfv (σ 64 6) then f_M_operand_38 τ (if σ 64 6 = 19 then 1 else 0) (if σ 64 4 = 40 then 1 else 0) (lfv (σ 64 6)) else (f_M_bad τ 1).bind (fun r4 => some (r4.1, r4.2)) := by
  have w1 : f_M_isWord τ 7237492 = some (τ, if σ 64 6 = 19 then 1 else 0) := m_isWord (i := 19) (by decide) h
  rw [e_M_operand, w1, Option.bind_some]
  dsimp only
  rw [m_isSign (by decide) h, Option.bind_some]
  dsimp only
  rw [m_leafOf h, Option.bind_some]
  dsimp only
  by_cases h1 : σ 64 6 = 19
  · rw [if_pos h1, in10, if_pos (Or.inl h1)]
  · rw [if_neg h1, in00]
    by_cases h2 : σ 64 4 = 40
    · rw [if_pos h2, in10, if_pos (Or.inr (Or.inl h2))]
    · rw [if_neg h2, in00]
      by_cases h3 : 0 ≤ lfv (σ 64 6)
      · rw [if_pos h3, if_pos (Or.inr (Or.inr h3))]
      · rw [if_neg h3, if_neg (fun x => x.elim h1 (fun y => y.elim h2 h3))]
/-- a leaf is all there -/
theorem leaf_done (h : BS a q k L ax σ τ) (hN : NS σ τ q n n D (o + 1) N 0 (1 + ar) c) (hs : n + D ≤ 2 * o) (hDo : D ≤ o) (hNo : N ≤ o) {x y z : Int} (hx : 0 ≤ x ∧ x ≤ 6) (hy : 3 ≤ x → 60 ≤ y ∧ y ≤ 62) {τ0 : zH} (h0 : ∀ j i, ¬ (j = 0 ∧ (i = 18 ∨ i = 41)) → τ0 j i = τ j i) (h41 : τ0 0 41 = 1) : BS a q k L ax (scd σ q n (opm x) y z) (mcd τ0 n x y z) ∧ NS (scd σ q n (opm x) y z) (mcd τ0 n x y z) q (n + 1) (n + 1) (D + 1) (o + 1) N 1 (1 + ar) (ext c n x y z) := by
  refine ⟨h.fr (fun j i hj => by rw [scd_ne hj]) (fun j i h1 h2 h3 => by rw [mcd_ne (by omega) h2]; exact h0 j i (by omega)), ?_⟩
  have hN' : NS σ τ0 q n n D (o + 1) N 0 (1 + ar) c ∨ True := Or.inr trivial
  refine NS.leaf (τ := fun j i => if j = 0 ∧ i = 18 then τ0 0 18 else τ j i) (hN.fr (fun _ _ _ => rfl) (fun i i0 i1 => if_neg (by omega)) (funext (fun i => if_neg (by omega)))) (by omega) (by omega) (by omega) hx hy (fun j i hj => ?_) h41
  skip
  by_cases hc : j = 0 ∧ i = 18
  · rw [if_pos hc, hc.1, hc.2]
  · rw [if_neg hc]; exact h0 j i (by omega)
/-- what follows a leaf's word, both sides: name -/
theorem leaf_name (h : BS a q k L ax σ τ) (hN : NS σ τ q n n D (o + 1) N 0 (1 + ar) c) (hs : n + D ≤ 2 * o) (hDo : D ≤ o) (hNo : N ≤ o) {x : Int} {s : Nat} (hx : (x = 0 ∧ s = 0) ∨ (x = 1 ∧ s = 1)) :
    SIn (POne a q k L n D o N ar (τ 37)) q σ τ ((f_Tape_toldName σ (k + 32) (s : Int)).bind (fun r3 => (f_Sentence_addNamed r3.1 q (opm x) r3.2).bind (fun r4 => some (r4.1, r4.2)))) (f_M_operand_174 (zset τ 0 41 1) x ((nbase s : Nat) : Int) (s : Int)) := by
  have hr := h.2.2.2.2.2.2
  have e7 := h.2.2.2.2.1
  unfold isRule at hr
  have b1 : BS a q k L ax σ (zset τ 0 41 1) := h.fr (fun _ _ _ => rfl) (fun j i h1 h2 h3 => by
    by_cases j0 : j = 0
    · subst j0; rw [zi (by omega)]
    · rw [zk j0])
  have hcnt : zset τ 0 41 1 7 s = ncnt a s := by
    rw [zk (by decide), e7]
    rcases hx with ⟨-, rfl⟩ | ⟨-, rfl⟩ <;> rfl
  rw [e_M_operand_174, if_pos (zin_t (by omega) (by omega)), show Int.toNat (s : Int) = s from rfl, hcnt]
  have t0 := told_both (g := 0) b1.1 b1.2.1 b1.2.2.2.1 b1.2.2.1 (Or.inl rfl) (s := s) (by omega)
  rw [Nat.zero_add] at t0
  have f1 : FsM τ (zset τ 0 41 1) := FsM.set (by omega)
  rcases t0 with ⟨mm, u1, u2, u3, u4, u5⟩ | ⟨σ6, τ6, u1, u2, u3⟩
  · rw [u4, u5, Option.bind_some, Option.bind_some]
    dsimp only
    have z18 : zset (zset τ 0 41 1) 0 18 (mm : Int) 0 18 = (mm : Int) := zs
    have e37 : zset (zset τ 0 41 1) 0 18 (mm : Int) 0 37 = (n : Int) := by rw [zi (by decide), zi (by decide)]; exact hN.2.2.2.1.2.2.1
    have hno := hN.2.2.1
    rw [in10, z18, m_code e37 (by omega), Option.bind_some]
    dsimp only
    have hld := leaf_done (x := x) (y := 0) (z := (mm : Int)) (τ0 := zset (zset τ 0 41 1) 0 18 (mm : Int)) h hN hs hDo hNo (by omega) (fun q1 => by omega) (fun j i hj => by
      by_cases j0 : j = 0
      · subst j0; rw [zi (by omega), zi (by omega)]
      · rw [zk j0, zk j0]) (by rw [zi (by decide), zs])
    have b2 : BS a q k L ax σ (mcd (zset (zset τ 0 41 1) 0 18 (mm : Int)) n x 0 (mm : Int)) := h.fr (fun _ _ _ => rfl) (fun j i h1 h2 h3 => by
      rw [mcd_ne (by omega) h2]
      by_cases j0 : j = 0
      · subst j0; rw [zi (by omega), zi (by omega)]
      · rw [zk j0, zk j0])
    obtain ⟨σ3, τ3, a3, d1, d2, d3, d4, d5⟩ := b2.adv (by rw [mcd_ne (by omega) (by decide), zi (by decide)]; rw [u3]; decide)
    have e3 : σ3 q 3 = (n : Int) := by rw [d3.cell (by omega)]; exact hN.2.2.2.1.2.1
    rw [e_Sentence_addNamed, if_pos (show ¬ (mm : Int) = -1 by omega), d1, d2, Option.bind_some, Option.bind_some]
    dsimp only
    rw [c_sadd e3 (by omega), Option.bind_some, Option.bind_some]
    dsimp only
    have f3 : FsC q σ (scd σ3 q n (opm x) 0 (mm : Int)) := d3.w.s.trans scd_fr
    have g3 : FsM τ τ3 := (fun j i h1 h2 h3 => by
      rw [d4.w j i (by omega), mcd_ne (by omega) h2]
      by_cases j0 : j = 0
      · subst j0; rw [zi (by omega), zi (by omega)]
      · rw [zk j0, zk j0])
    have n3 : NS (scd σ3 q n (opm x) 0 (mm : Int)) τ3 q (n + 1) (n + 1) (D + 1) (o + 1) N 1 (1 + ar) (ext c n x 0 (mm : Int)) := by
      refine hld.2.fr (fun j j0 j1 => ?_) (fun i i0 i1 => d4 0 i (by unfold lxM; omega)) (d4.cell (by decide))
      unfold scd
      have ej : ∀ jj, q ≤ jj → jj < q + 4 → σ3 jj = σ jj := fun jj _ _ => d3.cell (by omega)
      funext i
      unfold zset
      skip
      rw [ej j j0 j1]
    refine ⟨_, _, 1, rfl, rfl, f3, g3, Or.inl ⟨rfl, a3, n + 1, 0, o + 1, ext c n x 0 (mm : Int), d5.fr (fun j i hj => by rw [scd_ne hj]) (fun _ _ _ _ _ => rfl), n3, fun i i0 i1 => by omega, fun i hi => ?_, fun i i0 i1 => by omega, by omega, by omega⟩⟩
    rw [d4.cell (by decide), mcd_ne (by omega) (by decide), zk (by decide), zk (by decide)]
  · rw [u1, u2, Option.bind_some, Option.bind_some]
    dsimp only
    rw [e_Sentence_addNamed, if_neg (fun y => y rfl), in00, Option.bind_some]
    exact SIn.step FsC.refl f1 (SIn.bad u3)
/-- what follows a leaf's word, both sides: a sign and a number -/
theorem leaf_measure (h : BS a q k L ax σ τ) (hN : NS σ τ q n n D (o + 1) N 0 (1 + ar) c) (hs : n + D ≤ 2 * o) (hDo : D ≤ o) (hNo : N ≤ o) {x : Int} (hx : 3 ≤ x ∧ x ≤ 6) :
    SIn (POne a q k L n D o N ar (τ 37)) q σ τ (f_Sentence_readMeasure σ q (opm x)) (if ¬ ((zset τ 0 41 1) 0 11) = 3 then
                (f_M_bad (zset τ 0 41 1) 1).bind fun r3 =>
                some (r3.1, r3.2)
              else
                if ((zset τ 0 41 1) 0 14) < 60 then
                  (f_M_bad (zset τ 0 41 1) 1).bind fun r4 =>
                  some (r4.1, r4.2)
                else
                  if ((zset τ 0 41 1) 0 14) ≤ 62 then
                    (f_M_next (zset τ 0 41 1)).bind fun r5 =>
                    if (r5.1 0 11) = 2 then
                      (f_M_code r5.1 x ((zset τ 0 41 1) 0 14) (r5.1 0 14)).bind fun r6 =>
                      (f_M_next r6.1).bind fun r7 =>
                      some (r7.1, 1)
                    else
                      (f_M_bad r5.1 1).bind fun r8 =>
                      some (r8.1, r8.2)
                  else
                    (f_M_bad (zset τ 0 41 1) 1).bind fun r9 =>
                    some (r9.1, r9.2)) := by
  have hr := h.2.2.2.2.2.2
  unfold isRule at hr
  have f1 : FsM τ (zset τ 0 41 1) := FsM.set (by omega)
  have b1 : BS a q k L ax σ (zset τ 0 41 1) := h.fr (fun _ _ _ => rfl) (fun j i h1 h2 h3 => by
    by_cases j0 : j = 0
    · subst j0; rw [zi (by omega)]
    · rw [zk j0])
  have n41 : zset τ 0 41 1 0 41 = 1 := zs
  have n0 : ∀ j i, ¬ (j = 0 ∧ i = 41) → zset τ 0 41 1 j i = τ j i := fun j i hj => by
    by_cases j0 : j = 0
    · subst j0; rw [zi (by omega)]
    · rw [zk j0]
  generalize zset τ 0 41 1 = τ2 at *
  obtain ⟨σb, τb, bb1, bb2, bb3⟩ := bad_both b1.1 1
  have hbad : SIn (POne a q k L n D o N ar (τ 37)) q σ τ (some (σb, 0)) (some (τb, 0)) := SIn.step FsC.refl f1 (SIn.bad bb3)
  have htok := b1.1.tok
  rw [e_Sentence_readMeasure]
  by_cases hk : σ 64 4 = 60 ∨ σ 64 4 = 61 ∨ σ 64 4 = 62
  · have hT : τ2 0 11 = 3 ∧ τ2 0 14 = σ 64 4 := by
      rcases htok with ⟨t1, t2, t3⟩ | ⟨t1, t2, t3⟩ | ⟨t1, t2, t3⟩ | ⟨t1, t2, t3⟩ | ⟨t1, t2, t3, t4⟩
      · exfalso; omega
      · exfalso; omega
      · exfalso; omega
      · exfalso; omega
      · exact ⟨t2, t3⟩
    have e29 : (if σ 64 4 = 60 then f_Sentence_readMeasure_29 σ q (opm x) (σ 64 4) else if σ 64 4 = 61 then f_Sentence_readMeasure_29 σ q (opm x) (σ 64 4) else if σ 64 4 = 62 then f_Sentence_readMeasure_29 σ q (opm x) (σ 64 4) else (f_Tape_fail σ 1).bind fun r1 => some (r1.1, r1.2)) = f_Sentence_readMeasure_29 σ q (opm x) (σ 64 4) := by
      rcases hk with hk | hk | hk
      · rw [if_pos hk]
      · rw [if_neg (show ¬ σ 64 4 = 60 by omega), if_pos hk]
      · rw [if_neg (show ¬ σ 64 4 = 60 by omega), if_neg (show ¬ σ 64 4 = 61 by omega), if_pos hk]
    obtain ⟨σ3, τ3, a3, d1, d2, d3, d4, d5⟩ := b1.adv (by omega)
    rw [e29, e_Sentence_readMeasure_29, if_neg (fun y => y hT.1), if_neg (show ¬ τ2 0 14 < 60 by omega), if_pos (show τ2 0 14 ≤ 62 by omega), d1, d2, Option.bind_some, Option.bind_some]
    dsimp only
    have hno := hN.2.2.1
    have e3 : σ3 q 3 = (n : Int) := by rw [d3.cell (by omega)]; exact hN.2.2.2.1.2.1
    have e37 : τ3 0 37 = (n : Int) := by rw [d4 0 37 (by unfold lxM; omega), n0 0 37 (by omega)]; exact hN.2.2.2.1.2.2.1
    by_cases hk3 : σ3 64 4 = 3
    · have hT3 : τ3 0 11 = 2 ∧ τ3 0 14 = σ3 64 7 := by
        rcases d5.1.tok with ⟨t1, t2, t3⟩ | ⟨t1, t2, t3⟩ | ⟨t1, t2, t3⟩ | ⟨t1, t2, t3, t4⟩ | ⟨t1, t2, t3, t4⟩
        · exfalso; omega
        · exfalso; omega
        · exfalso; omega
        · exact ⟨t2, t3.symm⟩
        · exfalso; omega
      rw [if_pos hk3, if_pos hT3.1, c_sadd e3 (by omega), m_code e37 (by omega), Option.bind_some, Option.bind_some, hT.2, hT3.2]
      dsimp only
      have b3 : BS a q k L a3 (scd σ3 q n (opm x) (σ 64 4) (σ3 64 7)) (mcd τ3 n x (σ 64 4) (σ3 64 7)) := d5.fr (fun j i hj => by rw [scd_ne hj]) (fun j i h1 h2 h3 => by rw [mcd_ne (by omega) h2])
      obtain ⟨σ4, τ4, a4, g1, g2, g3, g4, g5⟩ := b3.adv (by rw [mcd_ne (by omega) (by decide), hT3.1]; decide)
      have hN3 : NS σ3 (fun j i => if j = 0 ∧ i = 41 then 0 else τ3 j i) q n n D (o + 1) N 0 (1 + ar) c := by
        refine hN.fr (fun j j0 j1 => d3.cell (by omega)) (fun i i0 i1 => ?_) (funext (fun i => ?_))
        · skip
          by_cases i41 : i = 41
          · rw [if_pos ⟨rfl, i41⟩, i41]; exact hN.2.2.2.2.2.2.2.2.1.symm
          · rw [if_neg (by omega), d4 0 i (by unfold lxM; omega), n0 0 i (by omega)]
        · skip
          rw [if_neg (by omega), d4.cell (by decide), n0 9 i (by omega)]
      have n4 := NS.leaf (x := x) (y := σ 64 4) (z := σ3 64 7) (τ0 := τ3) hN3 (by omega) (by omega) (by omega) (by omega) (fun _ => by omega) (fun j i hj => (if_neg hj).symm) (by rw [d4 0 41 (by unfold lxM; omega)]; exact n41)
      rw [g1, g2, Option.bind_some, Option.bind_some]
      refine ⟨σ4, τ4, 1, rfl, rfl, (d3.w.s.trans scd_fr).trans g3.w.s, f1.trans (d4.w.s.trans ((mcd_k.s).trans g4.w.s)), Or.inl ⟨rfl, a4, n + 1, 0, o + 1, _, g5, n4.tok (by unfold isRule; omega) g3 g4, fun i i0 i1 => by omega, fun i hi => ?_, fun i i0 i1 => by omega, by omega, by omega⟩⟩
      rw [g4.cell (by decide), mcd_ne (by omega) (by decide), d4.cell (by decide), n0 37 i (by omega)]
    · have hT3 : ¬ τ3 0 11 = 2 := by
        rcases d5.1.tok with ⟨t1, t2, t3⟩ | ⟨t1, t2, t3⟩ | ⟨t1, t2, t3⟩ | ⟨t1, t2, t3, t4⟩ | ⟨t1, t2, t3, t4⟩ <;> omega
      obtain ⟨σc, τc, cc1, cc2, cc3⟩ := bad_both d5.1 1
      rw [if_neg hk3, if_neg hT3, cc1, cc2]
      exact SIn.step d3.w.s (f1.trans d4.w.s) (SIn.bad cc3)
  · rw [if_neg (show ¬ σ 64 4 = 60 by omega), if_neg (show ¬ σ 64 4 = 61 by omega), if_neg (show ¬ σ 64 4 = 62 by omega), bb1, bb2]
    have hM : (if ¬ τ2 0 11 = 3 then (some (τb, (0 : Int))).bind fun r3 => some (r3.1, r3.2) else if τ2 0 14 < 60 then (some (τb, (0 : Int))).bind fun r4 => some (r4.1, r4.2) else if τ2 0 14 ≤ 62 then (f_M_next τ2).bind fun r5 => (if (r5.1 0 11) = 2 then (f_M_code r5.1 x (τ2 0 14) (r5.1 0 14)).bind fun r6 => (f_M_next r6.1).bind fun r7 => some (r7.1, 1) else (f_M_bad r5.1 1).bind fun r8 => some (r8.1, r8.2)) else (some (τb, (0 : Int))).bind fun r9 => some (r9.1, r9.2)) = some (τb, 0) := by
      by_cases hT : τ2 0 11 = 3
      · have hn : τ2 0 14 < 60 ∨ 62 < τ2 0 14 := by
          rcases htok with ⟨t1, t2, t3⟩ | ⟨t1, t2, t3⟩ | ⟨t1, t2, t3⟩ | ⟨t1, t2, t3⟩ | ⟨t1, t2, t3, t4⟩
          · exfalso; omega
          · exfalso; omega
          · exfalso; omega
          · exfalso; omega
          · omega
        rw [if_neg (fun y => y hT)]
        rcases hn with hn | hn
        · rw [if_pos hn]; rfl
        · rw [if_neg (by omega), if_neg (by omega)]; rfl
      · rw [if_pos hT]; rfl
    rw [hM]
    exact hbad
end G72
