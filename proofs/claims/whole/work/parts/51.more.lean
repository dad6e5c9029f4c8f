/-! MORE CALLS, both sides -/
section G21
variable {σ τ : zH} {k q d : Nat} {a b : Nat → Int}
/-- both sides behind a call that changes the stream there is and the acts that are kept -/
theorem Rl.build {σ' τ' : zH} {k q d d' : Nat} (h : Rl σ τ k q d) (hσ : ∀ j i, ¬ SC j i → ¬ (96 ≤ j ∧ j ≤ 108) → ¬ (160 ≤ j ∧ j ≤ 300) → σ' j i = σ j i) (hτ : ∀ j i, ¬ SM j i → ¬ (j = 7 ∧ 288 ≤ i ∧ i < 2778) → j ≠ 22 → ¬ (j = 0 ∧ i = 23) → τ' j i = τ j i) (hS : StrR σ' 96 (τ' 7) d') (hH : ∀ e, e < d' → HisD σ' 96 (τ' 7) e) (hA : ActsR σ' τ' d') : Rl σ' τ' k q d' := by
  have cf : ∀ j, 384 ≤ j → σ' j = σ j := fun j hj => funext (fun i => hσ j i (by unfold SC; omega) (by omega) (by omega))
  have c0 : ∀ i, σ' 0 i = σ 0 i := fun i => hσ 0 i (by unfold SC; omega) (by omega) (by omega)
  have m7 : ∀ j, ¬ (288 ≤ j ∧ j < 2778) → τ' 7 j = τ 7 j := fun j hj => hτ 7 j (by unfold SM; omega) (by omega) (by omega) (by omega)
  have mf : ∀ j, j = 2 ∨ j = 26 ∨ j = 35 ∨ 44 ≤ j → τ' j = τ j := fun j hj => funext (fun i => hτ j i (by unfold SM; omega) (by omega) (by omega) (by omega))
  have m0 : ∀ i, i = 2 ∨ i = 15 ∨ i = 27 ∨ i = 31 ∨ i = 32 ∨ i = 35 → τ' 0 i = τ 0 i := fun i hi => hτ 0 i (by unfold SM; omega) (by omega) (by omega) (by omega)
  have hk := h.land.1
  have hq := h.rule.1
  unfold isLand at hk
  unfold isRule at hq
  refine ⟨?_, ?_, ?_, ?_, ?_, hS, hH, hA, ?_, ?_, ?_, ?_, ?_, ?_⟩
  · rw [c0, c0]; exact h.land
  · rw [c0, c0]; exact h.rule
  · exact LandR_congr (fun j hj => m7 j (by omega)) h.hw (h.hL.frame (fun i hi => cf _ (by omega)))
  · exact wfL_congr (fun j hj => m7 j (by omega)) h.hw
  · exact h.hN.frame (fun j j0 j1 => cf j (by omega)) (fun j hj => m7 j (by omega)) (fun j hj => hτ 10 j (by unfold SM; omega) (by omega) (by omega) (by omega)) h.hw.1
  · have := h.hT
    unfold TapR at this ⊢
    rw [mf 2 (by omega), m0 2 (by omega), hσ 64 1 (by unfold SC; omega) (by omega) (by omega), show σ' 65 = σ 65 from funext (fun i => hσ 65 i (by unfold SC; omega) (by omega) (by omega))]
    exact this
  · have := h.hM
    unfold MisR at this ⊢
    rw [c0, c0, c0, m0 15 (by omega), m0 27 (by omega), m0 31 (by omega), m0 32 (by omega), m0 35 (by omega), mf 26 (by omega), mf 35 (by omega), show σ' 10 = σ 10 from funext (fun i => hσ 10 i (by unfold SC; omega) (by omega) (by omega)), show σ' 7 = σ 7 from funext (fun i => hσ 7 i (by unfold SC; omega) (by omega) (by omega)), hσ 320 4 (by unfold SC; omega) (by omega) (by omega), hσ 320 5 (by unfold SC; omega) (by omega) (by omega), hσ 320 6 (by unfold SC; omega) (by omega) (by omega), hσ 320 7 (by unfold SC; omega) (by omega) (by omega), hσ 320 8 (by unfold SC; omega) (by omega) (by omega)]
    exact this
  · have e : (fun j => τ' 7 (2778 + j)) = fun j => τ 7 (2778 + j) := funext (fun j => m7 _ (by omega))
    rw [e]
    exact h.hR.frame (fun j j0 j1 => cf j (by omega))
  · exact h.hI.1.frame (fun j j0 j1 => cf j (by omega)) (mf 44 (by omega)) (mf 45 (by omega)) (mf 46 (by omega))
  · exact h.hI.2.frame (fun j j0 j1 => cf j (by omega)) (mf 44 (by omega)) (mf 45 (by omega)) (mf 46 (by omega))
  · exact h.hV.frame (funext (fun i => hτ 11 i (by unfold SM; omega) (by omega) (by omega) (by omega)))
theorem q_undo (h : Rl σ τ k q d) : Same (f_R_undo σ) (f_M_undo τ) := by
  obtain ⟨σ', τ', r, d', h1, h2, h3, h4, h5, h6, h7, h8, h9⟩ := undo_both h.hw h.hA h.hS h.hH
  refine ⟨σ', τ', r, h1, h2, k, q, d', h.build (fun j i _ hj hj2 => by rw [h6 j hj (by omega)]) (fun j i hs hj j22 j0 => ?_) h4 h5 h3⟩
  by_cases j7 : j = 7
  · subst j7; exact h9 i (by omega)
  · by_cases jz : j = 0
    · subst jz
      exact h8 i (by omega) (by unfold SM at hs; omega)
    · rw [h7 j j7 jz]
theorem q_stone (h : Rl σ τ k q d) {r p t : Int} (ht32 : -2147483648 ≤ t ∧ t < 2147483648) : Same (f_R_stone σ r p t) (f_M_stone τ r p t) := by
  have h0 := h.mark (v := 0)
  rw [e_M_stone, e_R_stone]
  generalize zset τ 0 0 0 = τ0 at h0 ⊢
  have hc0 := h0.hw.1.1
  have hc1 := h0.hw.1.2.1
  simp only [h0.hz, h0.hk, if_true]
  rw [m_isPlace h0.hw.1 h0.hw.2.2.1, c_hasPlace h0.hL h0.hw, Option.bind_some, Option.bind_some]
  dsimp only
  simp only [h0.hz, h0.hk, if_true]
  by_cases hp : (0 ≤ r ∧ r < τ0 7 1) ∧ 0 ≤ p ∧ p < τ0 7 (Int.toNat (16 + r))
  · have hr := h0.hw.2.2.1 r hp.1.1 hp.1.2
    have hcell := h0.hS.2.2.2.2.2.2.1
    have hcv := hcell.1 r p hp.1.1 hp.1.2 hp.2.1 hp.2.2
    have hd4 := h0.hS.1
    rw [if_pos hp, i10, i10]
    -- from here on, the term being there
    have go : (t = -1 ∨ (0 ≤ t ∧ t < τ0 7 0)) → Same (f_R_stone_30 σ r p t) (f_M_stone_27 τ0 r p t) := by
      intro ht
      rw [e_R_stone_30, e_M_stone_27]
      simp only [h0.hz, h0.hk, if_true]
      rw [c_termAt h0.hL h0.hw hcell h0.hS.2.2.1 (by omega) (by omega) hp.1.1 hp.1.2 hp.2.1 hp.2.2, Option.bind_some, w32_id (x := 9 * r) (by omega) (by omega), w32_id (x := 306 + 9 * r) (by omega) (by omega), w32_id (x := 306 + 9 * r + p) (by omega) (by omega), w32_id (x := t + 1) (by omega) (by omega), if_pos (zin_t (by omega) (by omega))]
      dsimp only
      by_cases he : τ0 7 (Int.toNat (306 + 9 * r + p)) = t + 1
      · rw [if_neg (show ¬ ¬ τ0 7 (Int.toNat (306 + 9 * r + p)) - 1 = t by omega), if_neg (fun q => q he)]
        exact h0.look rfl rfl
      · rw [if_pos (show ¬ τ0 7 (Int.toNat (306 + 9 * r + p)) - 1 = t by omega), if_pos he]
        obtain ⟨σ1, τ1, k1, k2, k3, k4, k5⟩ := h0.kept
        rw [k1, k2, Option.bind_some, Option.bind_some]
        dsimp only
        rw [k3.hk]
        simp only [k3.hz, if_true]
        have hp5 := hp
        rw [← k5] at hp5
        rw [c_put k3.hL k3.hw k3.hS.2.2.1 (by omega) (by omega) hp5.1.1 hp5.1.2 hp5.2.1 hp5.2.2, if_pos (zin_t (by omega) (by omega)), Option.bind_some]
        dsimp only
        have h7 : ∀ j, j ≠ Int.toNat (306 + 9 * r + p) → zset τ1 7 (Int.toNat (306 + 9 * r + p)) (t + 1) 7 j = τ1 7 j := fun j hj => zi hj
        refine ⟨_, _, 1, rfl, rfl, k, q, d, k3.step (fun j i _ hj => by rw [zk (by omega)]) (fun j i hj hj7 => ?_) (Nat.le_refl d) ?_ (fun f hf => ?_) (fun t f t0 t1 hf => ?_)⟩
        · by_cases j7 : j = 7
          · subst j7; rw [h7 i (by omega)]
          · rw [zk j7]
        · obtain ⟨n, m, hn, hm, hA⟩ := k3.hS.2.2.2.1
          refine k3.hS.upd k3.hw (fun j _ j1 j2 => h7 j (by omega)) ⟨by rw [zk (by decide)], by rw [zk (by decide)], by rw [zk (by decide)]⟩ ⟨n, m, by rw [zk (by decide)]; exact hn, by rw [h7 293 (by omega)]; exact hm, hA⟩ ?_ (fun j j0 j1 => zk (by omega))
          exact CellR.set k3.hS.2.2.2.2.2.2.1 k3.hw hp5.1.1 hp5.1.2 hp5.2.1 hp5.2.2 (by omega) (by rw [k5]; omega) zs (fun j hj _ => h7 j hj)
        · exact (k3.hH f hf).congr (by rw [zk (by decide)]) (h7 4 (by omega)) (fun t ht => by unfold wv; exact h7 _ (by omega))
        · unfold wv; exact h7 _ (by omega)
    by_cases t1 : t = -1
    · rw [if_pos t1, if_pos t1]
      exact go (Or.inl t1)
    · rw [if_neg t1, if_neg t1, m_isTerm h0.hw.1, c_hasTerm h0.hL, Option.bind_some, Option.bind_some]
      dsimp only
      by_cases ht : 0 ≤ t ∧ t < τ0 7 0
      · rw [if_pos ht, in10, i10]
        exact go (Or.inr ht)
      · rw [if_neg ht, in00, i00]
        exact h0.look rfl rfl
  · rw [if_neg hp, i00, i00]
    exact h0.look rfl rfl
theorem q_sure (h : Rl σ τ k q d) (n : Int) : Same (f_R_sure σ n) (f_M_sure τ n) := by
  have h0 := h.mark (v := 0)
  rw [e_M_sure, e_R_sure, e_R_isWithin]
  generalize zset τ 0 0 0 = τ0 at h0 ⊢
  rw [m_isIn, Option.bind_some]
  dsimp only
  by_cases hn : 1 ≤ n ∧ n ≤ 99
  · rw [if_pos hn, i10, if_neg (show ¬ n < 1 by omega), if_neg (show ¬ 99 < n by omega), Option.bind_some]
    dsimp only
    rw [i10]
    exact h0.look rfl rfl
  · rw [if_neg hn, i00]
    by_cases h1 : n < 1
    · rw [if_pos h1, Option.bind_some]
      dsimp only
      rw [i00]
      exact h0.look rfl rfl
    · rw [if_neg h1, if_pos (show 99 < n by omega), Option.bind_some]
      dsimp only
      rw [i00]
      exact h0.look rfl rfl
/-- an editor's own town -/
theorem q_ownOf (hL : LandR σ k a) (hτ : τ 7 = a) (hw : wfL a) {e : Int} (h0 : 0 ≤ e) (h1 : e < a 2) : ∀ (j i : Nat) (v : Int), a 4 ≤ i + j → (i : Int) ≤ a 4 → -1 ≤ v → v < a 4 → ∃ r, f_Country_ownTown_4 σ k e v (i : Int) = some (σ, r) ∧ f_M_ownOf_4 τ e v (i : Int) = some (τ, r) ∧ -1 ≤ r ∧ r < a 4 := by
  have hc2 := hw.1.2.2.1
  have hc4 := hw.1.2.2.2.2.1
  intro j
  induction j with
  | zero =>
    intro i v g1 g2 v0 v1
    refine ⟨v, ?_, ?_, v0, v1⟩
    · rw [e_Country_ownTown_4, hL.1.2.2.2.2.1, if_pos (by omega)]
    · rw [e_M_ownOf_4, hτ, if_pos (by omega)]
  | succ j ih =>
    intro i v g1 g2 v0 v1
    by_cases hi : a 4 ≤ (i : Int)
    · refine ⟨v, ?_, ?_, v0, v1⟩
      · rw [e_Country_ownTown_4, hL.1.2.2.2.2.1, if_pos (by omega)]
      · rw [e_M_ownOf_4, hτ, if_pos (by omega)]
    · have hi4 : (i : Int) < a 4 := by omega
      have ht := (hL.2.2.2.2 i (by omega) hi4).1
      have he := (hL.2.2.2.1 e h0 h1).1
      have ihv := ih (i + 1) v (by omega) (by omega) v0 v1
      have ihi := ih (i + 1) (i : Int) (by omega) (by omega) (by omega) hi4
      rw [e_Country_ownTown_4, hL.1.2.2.2.2.1, if_neg hi, e_M_ownOf_4, hτ, if_neg hi]
      simp (disch := omega) only [w32_id, zin_t, if_true, ht.1, ht.2, he.1, he.2]
      rw [show ((i : Int) + 1) = ((i + 1 : Nat) : Int) by omega]
      by_cases hr : a (Int.toNat (216 + (i : Int))) = a (Int.toNat (144 + e))
      · have hnn : ¬ ¬ a (Int.toNat (216 + (i : Int))) = a (Int.toNat (144 + e)) := fun q => q hr
        rw [if_neg hnn, if_neg hnn]
        by_cases hp : a (Int.toNat (222 + (i : Int))) < a (Int.toNat (150 + e))
        · rw [if_pos hp, if_pos hp, e_Country_ownTown_47, if_pos rfl, w32_s (by omega)]
          exact ihv
        · rw [if_neg hp, if_neg hp, e_Country_ownTown_47, if_neg (by decide)]
          by_cases hv : v = -1
          · rw [if_pos hv, if_pos (show v < 0 by omega), w32_s (by omega)]
            exact ihi
          · have htv := (hL.2.2.2.2 v (by omega) v1).1
            rw [if_neg hv, if_neg (show ¬ v < 0 by omega)]
            simp (disch := omega) only [w32_id, zin_t, if_true, ht.2, htv.2]
            rw [show ((i : Int) + 1) = ((i + 1 : Nat) : Int) by omega]
            by_cases hle : a (Int.toNat (222 + v)) ≤ a (Int.toNat (222 + (i : Int)))
            · rw [if_pos hle, if_pos hle]
              exact ihv
            · rw [if_neg hle, if_neg hle]
              exact ihi
      · rw [if_pos hr, if_pos hr, e_Country_ownTown_47, if_pos rfl, w32_s (by omega)]
        exact ihv
theorem q_own (h : Rl σ τ k q d) (e : Int) : Same (f_R_own σ e) (f_M_own τ e) := by
  have h0 := h.mark (v := 0)
  rw [e_M_own, e_R_own]
  generalize zset τ 0 0 0 = τ0 at h0 ⊢
  simp only [h0.hz, h0.hk, if_true]
  rw [m_isEditor h0.hw.1, c_hasEditor h0.hL, Option.bind_some, Option.bind_some]
  dsimp only
  simp only [h0.hz, h0.hk, if_true]
  by_cases hc : 0 ≤ e ∧ e < τ0 7 2
  · have hc4 := h0.hw.1.2.2.2.2.1
    obtain ⟨r, h1, h2, -⟩ := q_ownOf h0.hL rfl h0.hw hc.1 hc.2 6 0 (-1) (by omega) (by omega) (by omega) (by omega)
    rw [if_pos hc, i10, i10, e_Country_ownTown, e_M_ownOf]
    rw [show f_Country_ownTown_4 σ k e (-1) 0 = f_Country_ownTown_4 σ k e (-1) ((0 : Nat) : Int) from rfl, h1, show f_M_ownOf_4 τ0 e (-1) 0 = f_M_ownOf_4 τ0 e (-1) ((0 : Nat) : Int) from rfl, h2, Option.bind_some, Option.bind_some]
    exact h0.look rfl rfl
  · rw [if_neg hc, i00, i00]
    exact h0.look rfl rfl
end G21
