/-! ODDS, both sides -/
section G29
variable {σ τ σ1 τ1 : zH} {k q d e : Nat} {a b : Nat → Int}
theorem sens_loop {M f : Nat} {t : Int} (hk : isLand k) (hap : apart8 128 k) (hMN : M ≤ 30) (hend : M = 30 ∨ f = 400) (hf : f ≤ 400) (t0 : 0 ≤ t) : ∀ (r i d : Nat) (σ τ : zH), i + r = M → d + r = f → t < τ 7 4 → σ 0 11 = (k : Int) → LandR σ k (τ 7) → wfL (τ 7) → 0 < τ 7 1 → StrR σ 128 (τ 7) d → DcR σ τ →
    ∃ σs σ' τ' x, f_R_staysSensible_35 σ t (M : Int) (i : Int) = some (σs, if x < 0 then 1 else 0) ∧ f_M_draws_12 τ 30 (i : Int) = some (τ', (M : Int)) ∧ DrawOut σ τ σ' τ' 128 d f ∧ (∀ j, ¬ own8 128 j → j ≠ 352 → σs j = σ j) ∧ (sns (τ' 7) t f).2.2 = x := by
  have hzio : zio 1 (k : Int) = true := by rcases hk with rfl | rfl <;> rfl
  intro r
  induction r with
  | zero =>
    intro i d σ τ hi hd t1 hz hL hw hR hS hD
    have hc4 := hw.1.2.2.2.2.1
    have e288 := hS.2.1
    have : d = f := by omega
    subst this
    obtain ⟨st1, st2⟩ := hS.2.2.2.2.2.2.2.2 t t0 t1
    have hsn := sns_in hw (t := t) d st2
    have hB : σ 138 (Int.toNat t) = (sns (τ 7) t d).2.2 := st1.2.2.2.2.2.1
    refine ⟨σ, σ, τ, _, ?_, ?_, DrawOut.refl hS hD, fun _ _ _ => rfl, rfl⟩
    · rw [e_R_staysSensible_35, if_pos (show (M : Int) ≤ i by omega), if_pos (zin_t t0 (by omega)), hB]
      by_cases hb : (sns (τ 7) t d).2.2 = -1
      · have hnn : ¬ ¬ (sns (τ 7) t d).2.2 = -1 := fun q => q hb
        rw [if_neg hnn, if_pos (show (sns (τ 7) t d).2.2 < 0 by omega)]
      · rw [if_pos hb, if_neg (show ¬ (sns (τ 7) t d).2.2 < 0 by omega)]
    · rw [e_M_draws_12, show (i : Int) = (M : Int) by omega]
      by_cases hNi : (30 : Int) ≤ M
      · rw [if_pos hNi]
      · rw [if_neg hNi, if_pos (show 400 ≤ τ 7 288 by omega)]
  | succ r ih =>
    intro i d σ τ hi hd t1 hz hL hw hR hS hD
    have hc4 := hw.1.2.2.2.2.1
    obtain ⟨st1, st2⟩ := hS.2.2.2.2.2.2.2.2 t t0 t1
    have hsn := sns_in hw (t := t) d st2
    have hB : σ 138 (Int.toNat t) = (sns (τ 7) t d).2.2 := st1.2.2.2.2.2.1
    by_cases hb : (sns (τ 7) t d).2.2 = -1
    · have hnn : ¬ ¬ (sns (τ 7) t d).2.2 = -1 := fun q => q hb
      obtain ⟨σ1, τ1, h1, h2, h3⟩ := drawn_day (N := 30) (i := i) hap (by decide) hk hL hw hR hS (by omega) hD (by omega) (by decide)
      obtain ⟨l1, l2⟩ := h3.land hap (by unfold isLand at hk; omega) hL hw
      obtain ⟨σs, σ2, τ2, x, g0, g1, g2, g3, g4⟩ := ih (i + 1) (d + 1) σ1 τ1 (by omega) (by omega) (by rw [h3.2.2.2.1 4 (by omega)]; exact t1) (by rw [h3.1 0 (by unfold own8; omega) (by decide)]; exact hz) l1 l2 (by rw [h3.2.2.2.1 1 (by omega)]; exact hR) h3.2.2.2.2.1 h3.2.2.2.2.2.1
      refine ⟨σs, σ2, τ2, x, ?_, ?_, h3.trans (by omega) hc4.2 g2, fun j hj hj2 => by rw [g3 j hj hj2, h3.1 j hj hj2], g4⟩
      · rw [e_R_staysSensible_35, if_neg (show ¬ (M : Int) ≤ i by omega), if_pos (zin_t t0 (by omega)), hB, if_neg hnn, hz, hzio, if_pos rfl, show Int.toNat (k : Int) = k from rfl, h1, Option.bind_some, w32_s (by omega)]
        exact g0
      · exact Eq.trans h2 g1
    · obtain ⟨σ2, τ2, g1, g2⟩ := draws_pair (M := M) (N := 30) (f := f) hap (by decide) hk hMN (by decide) hend hf (r + 1) i d σ τ (by omega) hd hL hw hR hS hD
      have h7 : ∀ j, j < 288 → τ2 7 j = τ 7 j := fun j hj => g2.2.2.2.1 j (by omega)
      have hwl := g2.2.2.2.2.2.2.1
      have hcg := (sta_congr hw t0 (by omega) h7 d st2 (fun d' hd' => hwl t d' t0 (by omega) hd')).2.2.2.2
      have hst := sns_stay (a := τ2 7) (t := t) (n := d) (by rw [hcg]; exact hb) (r + 1)
      rw [hd, hcg] at hst
      refine ⟨σ, σ2, τ2, (sns (τ 7) t d).2.2, ?_, g1, g2, fun _ _ _ => rfl, by rw [hst]⟩
      rw [e_R_staysSensible_35, if_neg (show ¬ (M : Int) ≤ i by omega), if_pos (zin_t t0 (by omega)), hB, if_pos hb, if_pos (zin_t t0 (by omega)), if_pos hb, if_neg (show ¬ (sns (τ 7) t d).2.2 < 0 by omega)]
/-- one seed tried -/
theorem odds_one {t s : Int} (h : Rl σ τ k q d) (h23 : ∀ x, x < 2490 → τ 23 x = τ 7 (288 + x)) (t0 : 0 ≤ t) (t1 : t < τ 7 4) :
    ∃ σ' τ1 τ2 τ3 x y, f_R_staysSensible σ t s = some (σ', if x < 0 then 1 else 0) ∧ f_M_draws τ 30 s = some (τ1, y) ∧ f_M_senseOf τ1 t = some (τ2, x) ∧ f_M_back τ2 = some (τ3, 0) ∧ Rl σ' τ3 k q d ∧ τ3 7 = τ 7 ∧ ∀ x, x < 2490 → τ3 23 x = τ3 7 (288 + x) := by
  have hc4 := h.hw.1.2.2.2.2.1
  have hd4 := h.hS.1
  have hwt := h.hw.2.2.2.2.2.2.1 t t0 t1
  obtain ⟨σ1, c1, c2⟩ := c_copy (σ := σ) (k0 := 128) (k1 := 96) (by omega)
  have hS1 := h.hS.copy h.hw c2
  have h1 : Rl σ1 τ k q d := h.same (fun j i hj => by rw [c2.1 j (by unfold own8; unfold SC at hj; omega)]) (fun _ _ _ => rfl)
  obtain ⟨h2, h3⟩ := h1.dice (s := s)
  have e7 : zset (zset τ 0 29 s) 0 30 0 7 = τ 7 := by rw [zk (by decide), zk (by decide)]
  have hS2 : StrR (zset (zset σ1 352 0 s) 352 1 0) 128 (zset (zset τ 0 29 s) 0 30 0 7) d := by
    rw [e7]
    exact hS1.keepd h.hw (fun _ _ => rfl) (fun j j0 j1 => by rw [zk (by omega), zk (by omega)])
  obtain ⟨σs, σ2, τ2, x, g0, g1, g2, g3, g4⟩ := sens_loop (M := min 30 (400 - d)) (f := d + min 30 (400 - d)) (t := t) h2.land.1 (ap128 h2) (by omega) (by omega) (by omega) t0 (min 30 (400 - d)) 0 d _ _ (by omega) rfl (by rw [e7]; exact t1) h2.land.2.1 h2.hL h2.hw (by rw [e7]; omega) hS2 h3
  have g2' := g2
  obtain ⟨p1, p2, p3, p4, p5, p6, p7, -⟩ := g2
  rw [e7] at p4 p7
  obtain ⟨l1, l2⟩ := DrawOut.land (k := k) g2' (ap128 h2) (by have := h.land.1; unfold isLand at this; omega) h2.hL h2.hw
  have hwr := (p5.2.2.2.2.2.2.2.2 t t0 (by rw [p4 4 (by omega)]; exact t1)).2
  obtain ⟨τ3, s1, s2, s3, s4⟩ := m_sense (τ := τ2) rfl l2 t0 (by omega) p5.2.1 p5.1 hwr
  obtain ⟨τ4, b1, b2, b3, b4⟩ := m_back (τ := τ3)
  have p23 : τ3 23 = τ 23 := by rw [s2 23 (by decide), p2 23 (by decide) (by decide) (by decide), zk (by decide), zk (by decide)]
  have e47 : τ4 7 = τ 7 := by
    funext j
    by_cases hj : 288 ≤ j ∧ j < 2778
    · have := b4 (j - 288) (by omega)
      rw [show 288 + (j - 288) = j by omega, p23, h23 _ (by omega), show 288 + (j - 288) = j by omega] at this
      exact this
    · rw [b3 j hj, s2 7 (by decide), p4 j (by omega)]
  refine ⟨σs, τ2, τ3, τ4, x, ((min 30 (400 - d) : Nat) : Int), ?_, ?_, by rw [s1, g4], b1, h.same (fun j i hj => ?_) (fun j i hj => ?_), e47, fun y hy => ?_⟩
  · rw [e_R_staysSensible, c1, Option.bind_some, e_Dice_begin, Option.bind_some]
    dsimp only
    rw [e_Stream_daysLeft, hS2.2.2.1, Option.bind_some]
    dsimp only
    rw [w32_id (x := 400 - (d : Int)) (by omega) (by omega), show (400 - (d : Int)) = ((400 - d : Nat) : Int) by omega, show (30 : Int) = ((30 : Nat) : Int) from rfl, zmin_nat]
    exact g0
  · rw [e_M_draws]
    exact g1
  · rw [g3 j (by unfold own8; unfold SC at hj; omega) (by unfold SC at hj; omega), zk (by unfold SC at hj; omega), zk (by unfold SC at hj; omega), c2.1 j (by unfold own8; unfold SC at hj; omega)]
  · by_cases j7 : j = 7
    · rw [j7, e47]
    · rw [b2 j j7]
      by_cases j0 : j = 0
      · subst j0
        rw [s3 i (by unfold SM at hj; omega), p3 i (by unfold SM at hj; omega) (by unfold SM at hj; omega), zi (by unfold SM at hj; omega), zi (by unfold SM at hj; omega)]
      · rw [s2 j j0, p2 j j7 (by unfold SM at hj; omega) j0, zk j0, zk j0]
  · rw [b2 23 (by decide), p23, e47]
    exact h23 y hy
theorem odds_loop {N : Nat} {t s : Int} (hN : N ≤ 40) (t0 : 0 ≤ t) : ∀ (j i : Nat) (v : Int) (σ τ : zH), i + j = N → 0 ≤ v → v ≤ i → Rl σ τ k q d → (∀ x, x < 2490 → τ 23 x = τ 7 (288 + x)) → t < τ 7 4 →
    ∃ σ' τ' r, f_R_odds_28 σ t (N : Int) s v (i : Int) = some (σ', r) ∧ f_M_odds_35 τ t (N : Int) s v (i : Int) = some (τ', r) ∧ Rl σ' τ' k q d
  | 0, i, v, σ, τ, hi, v0, v1, h, h23, t1 => ⟨σ, τ, v, by rw [e_R_odds_28, if_pos (show (N : Int) ≤ i by omega)], by rw [e_M_odds_35, if_pos (show (N : Int) ≤ i by omega)], h⟩
  | j + 1, i, v, σ, τ, hi, v0, v1, h, h23, t1 => by
    obtain ⟨σ1, τ1, τ2, τ3, x, y, g1, g2, g3, g4, g5, g6, g7⟩ := odds_one (s := w32 (s + (i : Int))) h h23 t0 t1
    have n0 := odds_loop hN t0 (s := s) j (i + 1) v σ1 τ3 (by omega) v0 (by omega) g5 g7 (by rw [g6]; exact t1)
    have n1 := odds_loop hN t0 (s := s) j (i + 1) (v + 1) σ1 τ3 (by omega) (by omega) (by omega) g5 g7 (by rw [g6]; exact t1)
    rw [e_R_odds_28, e_M_odds_35, if_neg (show ¬ (N : Int) ≤ i by omega), if_neg (show ¬ (N : Int) ≤ i by omega), g1, g2, Option.bind_some, Option.bind_some]
    dsimp only
    rw [g3, Option.bind_some]
    dsimp only
    rw [g4, Option.bind_some, w32_s (by omega), Int.add_zero, w32_id (x := v) (by omega) (by omega), w32_id (x := v + 1) (by omega) (by omega)]
    by_cases hx : x < 0
    · rw [if_pos hx, i10, if_neg (show ¬ 0 ≤ x by omega), Option.bind_some]
      exact n1
    · rw [if_neg hx, i00, if_pos (show 0 ≤ x by omega)]
      exact n0
theorem q_odds (h : Rl σ τ k q d) (t n s : Int) : Same (f_R_odds σ t n s) (f_M_odds τ t n s) := by
  have h0 := h.mark (v := 0)
  rw [e_M_odds, e_R_odds]
  generalize zset τ 0 0 0 = τ0 at h0 ⊢
  simp only [h0.hz, h0.hk, if_true]
  rw [m_isTown h0.hw.1, c_hasTown h0.hL, Option.bind_some, Option.bind_some]
  dsimp only
  by_cases hc : 0 ≤ t ∧ t < τ0 7 4
  · rw [if_pos hc, i10, i10, m_isIn, e_R_isWithin, Option.bind_some]
    dsimp only
    by_cases hn : 1 ≤ n ∧ n ≤ 40
    · obtain ⟨N, hN⟩ : ∃ N : Nat, n = (N : Int) := ⟨n.toNat, by omega⟩
      subst hN
      obtain ⟨τ1, m1, m2, m3⟩ := m_tries (τ := τ0)
      have r1 : Rl σ τ1 k q d := h0.same (fun _ _ _ => rfl) (fun j i hj => by rw [m2 j (by unfold SM at hj; omega)])
      have e7 : τ1 7 = τ0 7 := m2 7 (by decide)
      obtain ⟨σ', τ', r, y1, y2, y3⟩ := odds_loop (N := N) (t := t) (s := s) (by omega) hc.1 N 0 0 σ τ1 (by omega) (by omega) (by omega) r1 (fun x hx => by rw [e7]; exact m3 x hx) (by rw [e7]; exact hc.2)
      rw [if_pos hn, in10, if_neg (show ¬ (N : Int) < 1 by omega), if_neg (show ¬ (40 : Int) < N by omega), Option.bind_some]
      dsimp only
      rw [in10, m1, Option.bind_some]
      exact ⟨σ', τ', r, y1, y2, k, q, d, y3⟩
    · rw [if_neg hn, in00]
      by_cases h1 : n < 1
      · rw [if_pos h1, Option.bind_some]
        dsimp only
        rw [in00]
        exact h0.look rfl rfl
      · rw [if_neg h1, if_pos (show 40 < n by omega), Option.bind_some]
        dsimp only
        rw [in00]
        exact h0.look rfl rfl
  · rw [if_neg hc, i00, i00]
    exact h0.look rfl rfl
end G29
