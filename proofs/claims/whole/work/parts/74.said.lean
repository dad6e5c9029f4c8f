/-! SAID, both sides -/
section G44
variable {σ τ τ1 : zH} {k q d : Nat} {a b : Nat → Int}
theorem hold_all {n : Nat} {t : Int} (h : Rl σ τ k q d) (t0 : 0 ≤ t) (t1 : t < τ 7 4) (hn : n ≤ 40) (hcn : τ 7 2778 = (n : Int)) (hsn : σ q 3 = (n : Int)) (hall : ∀ i, i < n → CodR (fun j => τ 7 (2778 + j)) i ∧ σ (q + 1) i = opm (τ 7 (2778 + (1 + 3 * i))) ∧ σ (q + 2) i = τ 7 (2778 + (2 + 3 * i)) ∧ σ (q + 3) i = τ 7 (2778 + (3 + 3 * i))) (hdep : ∀ i, i ≤ n → dep (fun j => τ 7 (2778 + j)) i ≤ 20) (hend : dep (fun j => τ 7 (2778 + j)) n = 1) : ∀ (r i N m : Nat) (τ1 : zH), i + r = n → dep (fun j => τ 7 (2778 + j)) i = (m : Int) → HolS τ τ1 N m →
    ∃ (x : Int) (τ2 : zH), (x = 0 ∨ x = 1) ∧ f_Sentence_holdsOf_6 σ q k 96 t (N : Int) (i : Int) = some (σ, x) ∧ f_M_isSaid_4 τ1 t (m : Int) (i : Int) = some (τ2, x) ∧ Rl σ τ2 k q d ∧ τ2 7 = τ 7
  | 0, i, N, m, τ1, hi, hd, s => by
    have e7 : τ1 7 = τ 7 := s.1 7 (by decide) (by decide)
    have : i = n := by omega
    subst this
    have hm1 : m = 0 + 1 := by omega
    subst hm1
    obtain ⟨l1, l2, -⟩ := s.2.2.low
    have hN := s.2.2.1
    have hz : zand (N : Int) 1 = ((N % 2 : Nat) : Int) := by
      rw [show (1 : Int) = ((1 : Nat) : Int) from rfl, zand_nat (by omega) (by decide), show (1 : Nat) = 2 ^ 1 - 1 from rfl, Nat.and_two_pow_sub_one_eq_mod]
    refine ⟨τ1 43 0, τ1, l1, ?_, ?_, HolS.rl h s, e7⟩
    · rw [e_Sentence_holdsOf_6, if_pos (show σ q 3 ≤ (i : Int) by omega), hz]
      by_cases hq : N % 2 = 1
      · rw [if_neg (show ¬ ¬ ((N % 2 : Nat) : Int) = 1 by omega), l2.mp hq]
      · rw [if_pos (show ¬ ((N % 2 : Nat) : Int) = 1 by omega)]
        rcases l1 with l1 | l1
        · rw [l1]
        · exact absurd (l2.mpr l1) hq
    · rw [e_M_isSaid_4, e7, if_pos (show τ 7 2778 ≤ (i : Int) by omega)]
  | r + 1, i, N, m, τ1, hi, hd, s => by
    obtain ⟨c1, c2, c3, c4⟩ := hall i (by omega)
    have hm : m ≤ 20 := by have := hdep i (by omega); omega
    have c1' := c1.1
    dsimp only at c1'
    have step : ∃ (N' m' : Nat) (τ2 : zH), f_Sentence_holdsOf_6 σ q k 96 t (N : Int) (i : Int) = f_Sentence_holdsOf_6 σ q k 96 t (N' : Int) ((i + 1 : Nat) : Int) ∧ f_M_isSaid_4 τ1 t (m : Int) (i : Int) = f_M_isSaid_4 τ2 t (m' : Int) ((i + 1 : Nat) : Int) ∧ HolS τ τ2 N' m' ∧ dep (fun j => τ 7 (2778 + j)) (i + 1) = (m' : Int) := by
      rcases c1' with c1' | c1'
      · exact hold_leaf h t0 t1 hn hcn hsn (by omega) c1 c2 c3 c4 hd hm (hdep (i + 1) (by omega)) s c1'.2
      · by_cases h20 : τ 7 (2778 + (1 + 3 * i)) = 20
        · exact hold_not hn hcn hsn (by omega) c1 c2 hd hm s h20
        · exact hold_two hn hcn hsn (by omega) c1 c2 hd hm s rfl (by omega)
    obtain ⟨N', m', τ2, y1, y2, y3, y4⟩ := step
    obtain ⟨x, τ3, x1, x2, x3, x4⟩ := hold_all h t0 t1 hn hcn hsn hall hdep hend r (i + 1) N' m' τ2 (by omega) y4 y3
    exact ⟨x, τ3, x1, by rw [y1]; exact x2, by rw [y2]; exact x3, x4⟩
end G44
section G45
variable {σ τ τ1 : zH} {k q d : Nat} {a b : Nat → Int}
theorem said_loop {n : Nat} {x : Int} (hn0 : 0 < n) (hr : ∀ τ : zH, Rl σ τ k q d → ∃ n' : Nat, n' ≤ 40 ∧ τ 7 2778 = (n' : Int)) : ∀ (j i : Nat) (v : Int) (τ : zH), Rl σ τ k q d → τ 7 2778 = (n : Int) → τ 7 4 ≤ i + j → (i : Int) ≤ τ 7 4 → 0 ≤ v → v ≤ i →
    ∃ (r : Int) (τ2 : zH), f_R_said_16 σ x v (i : Int) = some (σ, r) ∧ f_M_said_27 τ x v (i : Int) = some (τ2, r) ∧ Rl σ τ2 k q d ∧ (x < -1 → r = -1) := by
  intro j
  have fin : ∀ (i : Nat) (v : Int) (τ : zH), Rl σ τ k q d → τ 7 4 ≤ (i : Int) → ∃ (r : Int) (τ2 : zH), f_R_said_16 σ x v (i : Int) = some (σ, r) ∧ f_M_said_27 τ x v (i : Int) = some (τ2, r) ∧ Rl σ τ2 k q d ∧ (x < -1 → r = -1) := by
    intro i v τ h hi
    rw [e_R_said_16, h.hz, if_pos rfl, h.hk, e_M_said_27, if_pos hi]
    simp only [h.hL.1.2.2.2.2.1]
    rw [if_pos hi]
    by_cases hx : x = -1
    · have hnn : ¬ ¬ x = -1 := fun y => y hx
      rw [if_neg hnn, if_neg hnn]; exact ⟨v, τ, rfl, rfl, h, fun z => by omega⟩
    · rw [if_pos hx, if_pos hx]; exact ⟨-1, τ, rfl, rfl, h, fun _ => rfl⟩
  induction j with
  | zero => intro i v τ h hcn g1 g2 v0 v1; exact fin i v τ h (by omega)
  | succ j ih =>
    intro i v τ h hcn g1 g2 v0 v1
    by_cases hi : τ 7 4 ≤ (i : Int)
    · exact fin i v τ h hi
    · have hc4 := h.hw.1.2.2.2.2.1
      obtain ⟨n', b1, b2, b3, b4, b5, b6, b7⟩ := h.hR
      have b2' : τ 7 2778 = (n' : Int) := b2
      have hnn' : n' = n := by omega
      subst hnn'
      obtain ⟨y, τ2, y0, y1, y2, y3, y4⟩ := hold_all (t := (i : Int)) h (by omega) (by omega) b1 b2' b3 b5 b6 (b7 hn0) n' 0 0 0 τ (by omega) rfl ⟨fun _ _ _ => rfl, fun _ _ => rfl, by decide, fun j hj => by omega⟩
      have n0 := ih (i + 1) v τ2 y3 (by rw [y4]; exact hcn) (by rw [y4]; omega) (by rw [y4]; omega) v0 (by omega)
      have n1 := ih (i + 1) (v + 1) τ2 y3 (by rw [y4]; exact hcn) (by rw [y4]; omega) (by rw [y4]; omega) (by omega) (by omega)
      have hC : f_Sentence_holdsOf σ q k 96 (i : Int) = some (σ, y) := by rw [e_Sentence_holdsOf]; exact y1
      have hM : f_M_isSaid τ (i : Int) = some (τ2, y) := by rw [e_M_isSaid]; exact y2
      rw [e_R_said_16, h.hz, if_pos rfl, h.hk, e_M_said_27, if_neg hi, hM, Option.bind_some]
      simp only [h.hL.1.2.2.2.2.1, h.hzr, h.hkr, if_true]
      rw [if_neg hi, hC, Option.bind_some]
      dsimp only
      rw [w32_s (by omega), w32_id (x := v + 1) (by omega) (by omega)]
      rcases y0 with rfl | rfl
      · rw [i00, in00]; exact n0
      · rw [i10, in10]
        by_cases hx : v = x
        · have hn2 : ¬ ¬ v = x := fun z => z hx
          rw [if_neg hn2, if_neg hn2]; exact ⟨i, τ2, rfl, rfl, y3, fun z => by omega⟩
        · rw [if_pos hx, if_pos hx]; exact n1
theorem q_said (h : Rl σ τ k q d) (x : Int) : Same (f_R_said σ x) (f_M_said τ x) := by
  have h0 := h.mark (v := 0)
  rw [e_M_said, e_R_said]
  generalize zset τ 0 0 0 = τ0 at h0 ⊢
  rw [h0.hzr, if_pos rfl, h0.hkr]
  have hR := h0.hR
  obtain ⟨n, b1, b2, b3, b4, -⟩ := hR
  have b2' : τ0 7 2778 = (n : Int) := b2
  have hc4 := h0.hw.1.2.2.2.2.1
  by_cases hn : n = 0
  · rw [if_neg (show ¬ ¬ σ q 4 = 0 from fun y => y (b4.mpr hn)), if_pos (show τ0 7 2778 = 0 by omega)]
    exact h0.look rfl rfl
  · have hr : ∀ τ : zH, Rl σ τ k q d → ∃ n' : Nat, n' ≤ 40 ∧ τ 7 2778 = (n' : Int) := fun τ h' => by
      obtain ⟨n', c1, c2, -⟩ := h'.hR
      exact ⟨n', c1, c2⟩
    obtain ⟨r, τ2, y1, y2, y3, y4⟩ := said_loop (x := x) (n := n) (by omega) hr 6 0 0 τ0 h0 b2' (by omega) (by omega) (by omega) (by omega)
    have y1' : f_R_said_16 σ x 0 0 = some (σ, r) := y1
    have y2' : f_M_said_27 τ0 x 0 0 = some (τ2, r) := y2
    rw [if_pos (show ¬ σ q 4 = 0 from fun y => hn (b4.mp y)), if_neg (show ¬ τ0 7 2778 = 0 by omega), y1']
    by_cases hx : -1 ≤ x
    · rw [if_pos hx, y2']; exact y3.look rfl rfl
    · rw [if_neg hx, y4 (by omega)]; exact h0.look rfl rfl
end G45
