/-! DRAWN DAYS LIVED AND TRIED, both sides -/
section G28
variable {σ τ σ1 τ1 : zH} {k q d e : Nat} {a b : Nat → Int}
theorem draws_pair {ks M N f : Nat} (hap : apart8 ks k) (hks : ks + 12 < 352) (hk : isLand k) (hMN : M ≤ N) (hN : N ≤ 1000) (hend : M = N ∨ f = 400) (hf : f ≤ 400) : ∀ (r i d : Nat) (σ τ : zH), i + r = M → d + r = f → LandR σ k (τ 7) → wfL (τ 7) → 0 < τ 7 1 → StrR σ ks (τ 7) d → DcR σ τ →
    ∃ σ' τ', f_M_draws_12 τ (N : Int) (i : Int) = some (τ', (M : Int)) ∧ DrawOut σ τ σ' τ' ks d f
  | 0, i, d, σ, τ, hi, hd, hL, hw, hR, hS, hD => by
    have e288 := hS.2.1
    have : d = f := by omega
    subst this
    refine ⟨σ, τ, ?_, DrawOut.refl hS hD⟩
    rw [e_M_draws_12, show (i : Int) = (M : Int) by omega]
    by_cases hNi : (N : Int) ≤ M
    · rw [if_pos hNi]
    · rw [if_neg hNi, if_pos (show 400 ≤ τ 7 288 by omega)]
  | r + 1, i, d, σ, τ, hi, hd, hL, hw, hR, hS, hD => by
    obtain ⟨σ1, τ1, h1, h2, h3⟩ := drawn_day (N := N) (i := i) hap hks hk hL hw hR hS (by omega) hD (by omega) hN
    obtain ⟨l1, l2⟩ := h3.land hap (by unfold isLand at hk; omega) hL hw
    obtain ⟨σ2, τ2, g1, g2⟩ := draws_pair hap hks hk hMN hN hend hf r (i + 1) (d + 1) σ1 τ1 (by omega) (by omega) l1 l2 (by rw [h3.2.2.2.1 1 (by omega)]; exact hR) h3.2.2.2.2.1 h3.2.2.2.2.2.1
    exact ⟨σ2, τ2, by rw [h2]; exact g1, h3.trans (by omega) hw.1.2.2.2.2.1.2 g2⟩
/-- the class lives drawn days -/
theorem drawn_pair {M N f : Nat} (hk : isLand k) (hap : apart8 96 k) (hMN : M ≤ N) (hN : N ≤ 1000) (hend : M = N ∨ f = 400) (hf : f ≤ 400) : ∀ (r i d : Nat) (σ τ : zH), i + r = M → d + r = f → σ 0 11 = (k : Int) → LandR σ k (τ 7) → wfL (τ 7) → 0 < τ 7 1 → StrR σ 96 (τ 7) d → DcR σ τ →
    ∃ σ' τ', f_R_drawn_59 σ (M : Int) (i : Int) = some (zset σ' 0 16 (σ' 352 1), (M : Int)) ∧ f_M_draws_12 τ (N : Int) (i : Int) = some (τ', (M : Int)) ∧ DrawOut σ τ σ' τ' 96 d f
  | 0, i, d, σ, τ, hi, hd, hz, hL, hw, hR, hS, hD => by
    have e288 := hS.2.1
    have : d = f := by omega
    subst this
    refine ⟨σ, τ, ?_, ?_, DrawOut.refl hS hD⟩
    · rw [e_R_drawn_59, if_pos (show (M : Int) ≤ i by omega)]
    · rw [e_M_draws_12, show (i : Int) = (M : Int) by omega]
      by_cases hNi : (N : Int) ≤ M
      · rw [if_pos hNi]
      · rw [if_neg hNi, if_pos (show 400 ≤ τ 7 288 by omega)]
  | r + 1, i, d, σ, τ, hi, hd, hz, hL, hw, hR, hS, hD => by
    have hzio : zio 1 (k : Int) = true := by rcases hk with rfl | rfl <;> rfl
    obtain ⟨σ1, τ1, h1, h2, h3⟩ := drawn_day (N := N) (i := i) hap (by decide) hk hL hw hR hS (by omega) hD (by omega) hN
    obtain ⟨l1, l2⟩ := h3.land hap (by unfold isLand at hk; omega) hL hw
    obtain ⟨σ2, τ2, g0, g1, g2⟩ := drawn_pair hk hap hMN hN hend hf r (i + 1) (d + 1) σ1 τ1 (by omega) (by omega) (by rw [h3.1 0 (by unfold own8; omega) (by decide)]; exact hz) l1 l2 (by rw [h3.2.2.2.1 1 (by omega)]; exact hR) h3.2.2.2.2.1 h3.2.2.2.2.2.1
    refine ⟨σ2, τ2, ?_, by rw [h2]; exact g1, h3.trans (by omega) hw.1.2.2.2.2.1.2 g2⟩
    rw [e_R_drawn_59, if_neg (show ¬ (M : Int) ≤ i by omega), hz, hzio, if_pos rfl, show Int.toNat (k : Int) = k from rfl, h1, Option.bind_some, w32_s (by omega)]
    exact g0
theorem Rl.drawn {σ' τ' : zH} (h : Rl σ τ k q d) (hp : DrawOut σ τ σ' τ' 96 d e) (hde : d ≤ e) : Rl σ' τ' k q e := by
  obtain ⟨p1, p2, p3, p4, p5, p6, p7, p8, p9⟩ := hp
  obtain ⟨p10, p11⟩ := p9 rfl
  have h4 := h.hw.1.2.2.2.2.1
  refine h.step (fun j i hs hj => by rw [p1 j hj (by unfold SC at hs; omega)]) (fun j i hj hj7 => ?_) hde p5 (fun f hf => ?_) p7
  · by_cases j7 : j = 7
    · subst j7; exact p4 i (by omega)
    · by_cases j0 : j = 0
      · subst j0; exact p3 i (by unfold SM at hj; omega) (by unfold SM at hj; omega)
      · rw [p2 j j7 (by unfold SM at hj; omega) j0]
  · by_cases hfd : f < d
    · exact (h.hH f hfd).congr (p10 f hfd) (p4 4 (by omega)) (fun t ht => p7 t f (by omega) (by omega) hfd)
    · exact p11 f (by omega) hf
/-- small things change -/
theorem Rl.misc {σ' τ' : zH} (h : Rl σ τ k q d) (hσ : ∀ j i, ¬ SC j i → ¬ (j = 0 ∧ 15 ≤ i ∧ i ≤ 17) → j ≠ 10 → ¬ (j = 320 ∧ 4 ≤ i) → σ' j i = σ j i) (hτ : ∀ j i, ¬ SM j i → ¬ (j = 0 ∧ ¬ (i = 2 ∨ i = 23)) → j ≠ 26 → j ≠ 35 → τ' j i = τ j i) (hM : MisR σ' τ') : Rl σ' τ' k q d := by
  have cf : ∀ j, (96 ≤ j ∧ j ≤ 108) ∨ (160 ≤ j ∧ j ≤ 300) ∨ 384 ≤ j → σ' j = σ j := fun j hj => funext (fun i => hσ j i (by unfold SC; omega) (by omega) (by omega) (by omega))
  have c0 : ∀ i, i < 15 → σ' 0 i = σ 0 i := fun i hi => hσ 0 i (by unfold SC; omega) (by omega) (by omega) (by omega)
  have mf : ∀ j, j = 2 ∨ j = 7 ∨ j = 22 ∨ 44 ≤ j → τ' j = τ j := fun j hj => funext (fun i => hτ j i (by unfold SM; omega) (by omega) (by omega) (by omega))
  have e7 : τ' 7 = τ 7 := mf 7 (by omega)
  have hk := h.land.1
  have hq := h.rule.1
  unfold isLand at hk
  unfold isRule at hq
  refine ⟨?_, ?_, ?_, ?_, ?_, ?_, fun f hf => ?_, ?_, ?_, hM, ?_, ?_, ?_, ?_⟩
  · rw [c0 11 (by omega), c0 13 (by omega)]; exact h.land
  · rw [c0 12 (by omega), c0 14 (by omega)]; exact h.rule
  · rw [e7]; exact h.hL.frame (fun i hi => cf _ (by omega))
  · rw [e7]; exact h.hw
  · rw [e7]; exact h.hN.frame (fun j j0 j1 => cf j (by omega)) (fun _ _ => rfl) (fun j hj => hτ 10 j (by unfold SM; omega) (by omega) (by omega) (by omega)) h.hw.1
  · rw [e7]; exact h.hS.keepd h.hw (fun _ _ => rfl) (fun j j0 j1 => cf j (by omega))
  · rw [e7]; exact (h.hH f hf).congr (by rw [cf _ (by omega)]) rfl (fun _ _ => rfl)
  · exact h.hA.next h.hw (fun j j0 j1 => cf j (by omega)) (mf 22 (by omega)) (hτ 0 23 (by unfold SM; omega) (by omega) (by omega) (by omega)) (fun j _ => by rw [e7]) (Nat.le_refl d) (fun t f _ _ _ => by rw [e7])
  · have := h.hT
    unfold TapR at this ⊢
    rw [mf 2 (by omega), hτ 0 2 (by unfold SM; omega) (by omega) (by omega) (by omega), hσ 64 1 (by unfold SC; omega) (by omega) (by omega) (by omega), show σ' 65 = σ 65 from funext (fun i => hσ 65 i (by unfold SC; omega) (by omega) (by omega) (by omega))]
    exact this
  · rw [e7]; exact h.hR.frame (fun j j0 j1 => cf j (by omega))
  · exact h.hI.1.frame (fun j j0 j1 => cf j (by omega)) (mf 44 (by omega)) (mf 45 (by omega)) (mf 46 (by omega))
  · exact h.hI.2.frame (fun j j0 j1 => cf j (by omega)) (mf 44 (by omega)) (mf 45 (by omega)) (mf 46 (by omega))
  · exact h.hV.frame (funext (fun i => hτ 11 i (by unfold SM; omega) (by omega) (by omega) (by omega)))
/-- dice are taken up -/
theorem Rl.dice (h : Rl σ τ k q d) {s : Int} : Rl (zset (zset σ 352 0 s) 352 1 0) (zset (zset τ 0 29 s) 0 30 0) k q d ∧ DcR (zset (zset σ 352 0 s) 352 1 0) (zset (zset τ 0 29 s) 0 30 0) := by
  refine ⟨h.same (fun j i hj => ?_) (fun j i hj => ?_), ?_, ?_⟩
  · rw [zk (by unfold SC at hj; omega), zk (by unfold SC at hj; omega)]
  · by_cases j0 : j = 0
    · subst j0
      rw [zi (by unfold SM at hj; omega), zi (by unfold SM at hj; omega)]
    · rw [zk j0, zk j0]
  · rw [zi (by decide), zs, zi (by decide), zs]
  · rw [zs, zs]
theorem q_drawn_in {N : Nat} {s : Int} (h : Rl σ τ k q d) (hR : 0 < τ 7 1) (hN : N ≤ 99) :
    ∃ σ' τ', f_R_drawn_59 (zset (zset σ 352 0 s) 352 1 0) ((min N (400 - d) : Nat) : Int) 0 = some (σ', ((min N (400 - d) : Nat) : Int)) ∧ ((f_M_draws τ (N : Int) s).bind fun r2 => some (zset (zset r2.1 0 32 1) 0 31 ((zset r2.1 0 32 1) 0 30), r2.2)) = some (τ', ((min N (400 - d) : Nat) : Int)) ∧ Rel σ' τ' := by
  obtain ⟨h1, h2⟩ := h.dice (s := s)
  have hd4 := h.hS.1
  have e7 : zset (zset τ 0 29 s) 0 30 0 7 = τ 7 := by rw [zk (by decide), zk (by decide)]
  obtain ⟨σ2, τ2, g1, g2, g3⟩ := drawn_pair (M := min N (400 - d)) (N := N) (f := d + min N (400 - d)) h1.land.1 h1.ap (by omega) (by omega) (by omega) (by omega) (min N (400 - d)) 0 d _ _ (by omega) rfl h1.land.2.1 h1.hL h1.hw (by rw [e7]; exact hR) h1.hS h2
  have r2 := h1.drawn g3 (by omega)
  have hdc := g3.2.2.2.2.2.1
  refine ⟨_, _, g1, by rw [e_M_draws]; rw [show f_M_draws_12 (zset (zset τ 0 29 s) 0 30 0) (N : Int) 0 = f_M_draws_12 (zset (zset τ 0 29 s) 0 30 0) (N : Int) ((0 : Nat) : Int) from rfl, g2, Option.bind_some], k, q, _, r2.misc (fun j i hj hj0 _ _ => ?_) (fun j i hj hj0 _ _ => ?_) ?_⟩
  · by_cases j0 : j = 0
    · subst j0; rw [zi (by omega)]
    · rw [zk j0]
  · dsimp only
    by_cases j0 : j = 0
    · subst j0; rw [zi (by omega), zi (by omega)]
    · rw [zk j0, zk j0]
  · have hm := r2.hM
    unfold MisR at hm ⊢
    dsimp only
    obtain ⟨m1, m2, m3, m4, m5⟩ := hm
    refine ⟨by rw [zi (by decide), zi (by decide), zi (by decide)]; exact m1, ?_, ?_, ?_, ?_⟩
    · rw [zi (by decide), zi (by decide), zi (by decide), zk (by decide), zk (by decide), zk (by decide)]; exact m2
    · rw [zs, zi (by decide), zs, zs, zi (by decide), if_neg (by decide)]; exact hdc.2
    · rw [zk (by decide), zi (by decide), zi (by decide), zk (by decide), zk (by decide)]; exact m4
    · rw [zk (by decide)]; exact m5
theorem q_drawn (h : Rl σ τ k q d) (n s : Int) : Same (f_R_drawn σ n s) (f_M_drawn τ n s) := by
  have h0 := h.mark (v := 0)
  rw [e_M_drawn, e_R_drawn, e_R_isWithin]
  generalize zset τ 0 0 0 = τ0 at h0 ⊢
  have hc1 := h0.hw.1.2.1
  rw [m_isIn, Option.bind_some]
  dsimp only
  by_cases hn : 1 ≤ n ∧ n ≤ 99
  · obtain ⟨N, hN⟩ : ∃ N : Nat, n = (N : Int) := ⟨n.toNat, by omega⟩
    subst hN
    have hd4 := h0.hS.1
    have e12 := h0.hS.2.2.1
    have e288 := h0.hS.2.1
    rw [if_pos hn, i10, if_neg (show ¬ (N : Int) < 1 by omega), if_neg (show ¬ (99 : Int) < N by omega), Option.bind_some]
    dsimp only
    rw [i10, h0.hz, if_pos rfl, h0.hk]
    simp only [h0.hL.1.2.1]
    by_cases hR : τ0 7 1 = 0
    · have hnn : ¬ ¬ τ0 7 1 = 0 := fun q => q hR
      rw [if_neg hnn, if_neg hnn]
      exact h0.look rfl rfl
    · rw [if_pos hR, if_pos hR, e_Stream_daysLeft, Option.bind_some]
      dsimp only
      rw [e12, w32_id (x := 400 - (d : Int)) (by omega) (by omega), show (400 - (d : Int)) = ((400 - d : Nat) : Int) by omega, zmin_nat]
      by_cases hd : d = 400
      · obtain ⟨σ', τ', g1, g2, g3⟩ := q_drawn_in (N := N) (s := s) h0 (by omega) (by omega)
        rw [if_pos (show ((min N (400 - d) : Nat) : Int) ≤ 0 by omega), if_pos (show 400 ≤ τ0 7 288 by omega), e_Dice_begin, Option.bind_some, g1, g2]
        exact ⟨σ', τ', _, rfl, rfl, g3⟩
      · obtain ⟨σ1, τ1, k1, k2, k3, k4, k5⟩ := h0.kept
        obtain ⟨σ', τ', g1, g2, g3⟩ := q_drawn_in (N := N) (s := s) k3 (by rw [k5]; omega) (by omega)
        rw [if_neg (show ¬ ((min N (400 - d) : Nat) : Int) ≤ 0 by omega), if_neg (show ¬ 400 ≤ τ0 7 288 by omega), k1, Option.bind_some, e_Dice_begin, Option.bind_some, g1, k2, Option.bind_some, g2]
        exact ⟨σ', τ', _, rfl, rfl, g3⟩
  · rw [if_neg hn, i00]
    by_cases h1 : n < 1
    · rw [if_pos h1, Option.bind_some]
      dsimp only
      rw [i00]
      exact h0.look rfl rfl
    · rw [if_neg h1, if_pos (show 99 < n by omega), Option.bind_some]
      dsimp only
      rw [i00]
      exact h0.look rfl rfl
end G28
