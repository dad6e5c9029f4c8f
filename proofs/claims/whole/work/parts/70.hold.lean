/-! A SENTENCE is held against a town, both sides -/
section G40
variable {σ τ τ1 : zH} {k q d : Nat} {a b : Nat → Int}
/-- the reference while it holds a sentence against a town -/
def HolS (τ τ1 : zH) (N m : Nat) : Prop := (∀ j, j ≠ 0 → j ≠ 43 → τ1 j = τ j) ∧ (∀ j, j ≠ 24 → τ1 0 j = τ 0 j) ∧ TruR N m τ1
theorem HolS.rl {N m : Nat} (h : Rl σ τ k q d) (s : HolS τ τ1 N m) : Rl σ τ1 k q d :=
  h.same (fun _ _ _ => rfl) (fun j i hj => by
    unfold SM at hj
    by_cases j0 : j = 0
    · subst j0; exact s.2.1 i (by omega)
    · rw [s.1 j j0 (by omega)])
theorem hold_leaf {n i N m : Nat} {t : Int} (h : Rl σ τ k q d) (t0 : 0 ≤ t) (t1 : t < τ 7 4) (hn : n ≤ 40) (hcn : τ 7 2778 = (n : Int)) (hsn : σ q 3 = (n : Int)) (hi : i < n) (hc : CodR (fun j => τ 7 (2778 + j)) i) (hp : σ (q + 1) i = opm (τ 7 (2778 + (1 + 3 * i)))) (hs : σ (q + 2) i = τ 7 (2778 + (2 + 3 * i))) (hx : σ (q + 3) i = τ 7 (2778 + (3 + 3 * i))) (hd : dep (fun j => τ 7 (2778 + j)) i = (m : Int)) (hm : m ≤ 20) (hm1 : dep (fun j => τ 7 (2778 + j)) (i + 1) ≤ 20) (s : HolS τ τ1 N m) (hl6 : τ 7 (2778 + (1 + 3 * i)) ≤ 6) :
    ∃ (N' m' : Nat) (τ2 : zH), f_Sentence_holdsOf_6 σ q k 96 t (N : Int) (i : Int) = f_Sentence_holdsOf_6 σ q k 96 t (N' : Int) ((i + 1 : Nat) : Int) ∧ f_M_isSaid_4 τ1 t (m : Int) (i : Int) = f_M_isSaid_4 τ2 t (m' : Int) ((i + 1 : Nat) : Int) ∧ HolS τ τ2 N' m' ∧ dep (fun j => τ 7 (2778 + j)) (i + 1) = (m' : Int) := by
  obtain ⟨c1, c2, c3, c4⟩ := hc
  have e7 : τ1 7 = τ 7 := s.1 7 (by decide) (by decide)
  have hT := s.2.2
  have hp20 : 2 ^ m ≤ 2 ^ 20 := Nat.pow_le_pow_right (by decide) hm
  have hNlt := hT.1
  obtain ⟨w, hw⟩ : ∃ w, τ 7 (2778 + (1 + 3 * i)) = w := ⟨_, rfl⟩
  have hdn : dep (fun j => τ 7 (2778 + j)) (i + 1) = (m : Int) + (if w < 20 then 1 else if w = 20 then 0 else -1) := by rw [dep, hd, hw]
  dsimp only at c1 c2 c3 c4
  rw [hw] at c1 c2 c3 c4 hp
  have g1 : zin (i : Int) 40 = true := zin_t (by omega) (by omega)
  have z1 : zin (2779 + 3 * (i : Int)) 2959 = true := zin_t (by omega) (by omega)
  have a1 : w32 (2779 + w32 (3 * (i : Int))) = 2779 + 3 * (i : Int) := by rw [w32_id (x := 3 * (i : Int)) (by omega) (by omega), w32_id (by omega) (by omega)]
  have a2 : Int.toNat (2779 + 3 * (i : Int)) = 2778 + (1 + 3 * i) := by omega
  have hC0 : f_Sentence_holdsOf_6 σ q k 96 t (N : Int) (i : Int) = if opm w = 17 then f_Sentence_holdsOf_6 σ q k 96 t (zor (zushr (N : Int) 1) (zand (N : Int) 1)) ((i + 1 : Nat) : Int) else if opm w = 18 then f_Sentence_holdsOf_6 σ q k 96 t (zand (zushr (N : Int) 1) (zor (zand (N : Int) 1) (-2))) ((i + 1 : Nat) : Int) else if opm w = 19 then f_Sentence_holdsOf_6 σ q k 96 t (zxor (N : Int) 1) ((i + 1 : Nat) : Int) else (f_Sentence_isSo σ q k 96 t (i : Int)).bind (fun r1 => if r1.2 = 0 then f_Sentence_holdsOf_6 r1.1 q k 96 t (zor (zshl (N : Int) 1) 0) ((i + 1 : Nat) : Int) else f_Sentence_holdsOf_6 r1.1 q k 96 t (zor (zshl (N : Int) 1) 1) ((i + 1 : Nat) : Int)) := by
    rw [e_Sentence_holdsOf_6, if_neg (show ¬ σ q 3 ≤ (i : Int) by omega), if_pos g1, show Int.toNat (i : Int) = i from rfl, w32_s (by omega)]
    simp only [hp]
  have hleaf : w ≤ 6 := by rw [← hw]; exact hl6
  · have hw0 : 0 ≤ w := by omega
    obtain ⟨τ2, r, r0, r1, r2, r3, r4⟩ := q_leaf (t := t) (s := τ 7 (2778 + (2 + 3 * i))) (n := τ 7 (2778 + (3 + 3 * i))) (HolS.rl h s) (show i < 40 by omega) t0 (by rw [e7]; exact t1) ⟨hw0, hleaf⟩ hp hs hx (fun h3 => c2 h3 hleaf)
    have ho : opm w ≠ 17 ∧ opm w ≠ 18 ∧ opm w ≠ 19 := by
      have : w = 0 ∨ w = 1 ∨ w = 2 ∨ w = 3 ∨ w = 4 ∨ w = 5 ∨ w = 6 := by omega
      rcases this with rfl | rfl | rfl | rfl | rfl | rfl | rfl <;> decide
    rw [if_pos (show w < 20 by omega)] at hdn
    have e43 : τ2 43 = τ1 43 := r3 43 (by decide)
    have hT2 : TruR N m τ2 := by
      refine ⟨hT.1, fun j hj => ?_⟩
      rw [e43]
      exact hT.2 j hj
    refine ⟨2 * N + r.toNat, m + 1, zset τ2 43 m r, ?_, ?_, ⟨fun j j0 j43 => by rw [zk j43, r3 j j0]; exact s.1 j j0 j43, fun j hj => by rw [zk (by decide), r4 j hj]; exact s.2.1 j hj, hT2.push r0 zs (fun j hj => zi hj)⟩, by rw [hdn]; omega⟩
    · rw [hC0, if_neg ho.1, if_neg ho.2.1, if_neg ho.2.2, r1, Option.bind_some, ← bit_push (by omega) r0]
      dsimp only
      rcases r0 with rfl | rfl
      · rw [i00]
      · rw [i10]
    · rw [e_M_isSaid_4, e7, if_neg (show ¬ τ 7 2778 ≤ (i : Int) by omega)]
      simp only [z1, a1, a2, hw, if_true]
      rw [if_pos (show ¬ w = 20 by omega), if_neg (show ¬ w = 21 by omega), if_pos (show ¬ w = 22 by omega), w32_id (x := 2779 + 3 * (i : Int) + 1) (by omega) (by omega), w32_id (x := 2779 + 3 * (i : Int) + 2) (by omega) (by omega), if_pos (zin_t (by omega) (by omega)), if_pos (zin_t (by omega) (by omega)), show Int.toNat (2779 + 3 * (i : Int) + 1) = 2778 + (2 + 3 * i) by omega, show Int.toNat (2779 + 3 * (i : Int) + 2) = 2778 + (3 + 3 * i) by omega, r2, Option.bind_some]
      dsimp only
      rw [if_pos (zin_t (by omega) (by omega)), w32_s (by omega), w32_s (by omega)]
      rfl
end G40
