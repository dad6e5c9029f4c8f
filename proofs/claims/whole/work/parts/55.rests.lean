/-! WHO RESTS: days tried with some editors awake -/
section G25
variable {σ τ σ1 τ1 : zH} {k q d e : Nat} {a b : Nat → Int}
theorem aw_set_dec : ∀ E : Fin 7, ∀ s : Fin 64, s.1 < 2 ^ E.1 → zand (w32 (zshl 1 (E.1 : Int) - 1)) (zxor (s.1 : Int) (-1)) = ((2 ^ E.1 - 1 - s.1 : Nat) : Int) ∧ ∀ f : Fin 6, f.1 < E.1 → (s.1.testBit f.1 = !(2 ^ E.1 - 1 - s.1).testBit f.1) := by decide +kernel
theorem aw_set {E s : Nat} (hE : E ≤ 6) (hs : s < 2 ^ E) : zand (w32 (zshl 1 (E : Int) - 1)) (zxor (s : Int) (-1)) = ((2 ^ E - 1 - s : Nat) : Int) ∧ AwR s (2 ^ E - 1 - s) (E : Int) := by
  have hp : 2 ^ E ≤ 2 ^ 6 := Nat.pow_le_pow_right (by decide) hE
  obtain ⟨h1, h2⟩ := aw_set_dec ⟨E, by omega⟩ ⟨s, by omega⟩ hs
  refine ⟨h1, by omega, by omega, fun f hf => ?_⟩
  have h3 := h2 ⟨f, by omega⟩ (by dsimp only; omega)
  dsimp only at h3
  rw [h3]
  cases (2 ^ E - 1 - s).testBit f <;> simp
/-- what a town gains by days that are tried -/
theorem q_try {N s : Nat} (h : Rl σ τ k q d) (hN : N ≤ 60) (hs : s < 2 ^ (τ 7 2).toNat) :
    ∃ (σ2 τ2 : zH) (g : Nat → Int), f_R_tryDays σ (s : Int) (N : Int) = some (σ2, 0) ∧ f_M_likesBy τ (s : Int) (N : Int) = some (τ2, 0) ∧ Rl σ2 τ2 k q d ∧ τ2 7 = τ 7 ∧ (∀ j, ¬ own8 128 j → σ2 j = σ j) ∧ (∀ t : Nat, (t : Int) < τ 7 4 → (0 ≤ g t ∧ g t ≤ 100) ∧ σ2 135 t - σ2 103 t = g t ∧ 0 ≤ σ2 103 t ∧ σ2 103 t ≤ 500 ∧ τ2 29 (6 * s + t) = g t) ∧ ∀ x, ¬ (6 * s ≤ x ∧ x < 6 * s + 6) → τ2 29 x = τ 29 x := by
  have hc2 := h.hw.1.2.2.1
  have hc4 := h.hw.1.2.2.2.2.1
  obtain ⟨E, hE⟩ : ∃ E : Nat, τ 7 2 = (E : Int) := ⟨(τ 7 2).toNat, by omega⟩
  rw [hE] at hs hc2
  rw [show ((E : Int)).toNat = E from rfl] at hs
  have hp : 2 ^ E ≤ 2 ^ 6 := Nat.pow_le_pow_right (by decide) (by omega)
  obtain ⟨a1, a2⟩ := aw_set (by omega) hs
  obtain ⟨σ1, τ1, s1, s2, s3, s4, s5⟩ := tri_start h
  obtain ⟨l1, l2, l3, l4⟩ := TriR.land h s3
  have e7 : τ1 7 = τ 7 := s4 7 (by decide)
  have hv : zand (w32 (zshl 1 (τ1 7 2) - 1)) (zxor (s : Int) (-1)) = ((2 ^ E - 1 - s : Nat) : Int) := by rw [e7, hE]; exact a1
  -- who is awake
  have s3' := s3
  obtain ⟨t1, t2, t3, t4, t5, t6, t7⟩ := s3
  have tr : TriR σ τ (zset σ1 128 13 (s : Int)) (zset τ1 7 293 ((2 ^ E - 1 - s : Nat) : Int)) d d := by
    refine ⟨fun j i hj => by rw [zk (by unfold SC at hj; omega)]; exact t1 j i hj, fun j i hj j7 => by rw [zk j7]; exact t2 j i hj j7, fun x hx => by rw [zk (by decide)]; exact t3 x hx, fun j hj => by rw [zi (by omega)]; exact t4 j hj, ?_, Nat.le_refl d, fun t f h0 h1 hf => ?_⟩
    · refine t5.upd l2 (fun j _ j1 _ => zi j1) ⟨zi (by decide), zi (by decide), zi (by decide)⟩ ⟨s, 2 ^ E - 1 - s, zs, zs, by rw [e7, hE]; exact a2⟩ (t5.2.2.2.2.2.2.1.congr l2 (zk (by decide)) (fun j hj => zi (by omega))) (fun j j0 j1 => zk (by omega))
    · have := h.hS.1
      unfold wv
      rw [zi (by omega)]
      exact t7 t f h0 h1 hf
  obtain ⟨w1, w2, w3, w4⟩ := TriR.land h tr
  obtain ⟨σ2, τ2, r1, r2, r3, r4⟩ := tri_run (N := N) h tr (by omega)
  obtain ⟨f, hf⟩ : ∃ f, d + min N (400 - d) = f := ⟨_, rfl⟩
  rw [hf] at r3 r4
  obtain ⟨v1, v2, v3, v4⟩ := TriR.land h r3
  have hS2 := r3.2.2.2.2.1
  have hd4 := h.hS.1
  have hdf := r3.2.2.2.2.2.1
  have ht4 : τ2 7 4 = τ 7 4 := r3.2.2.2.1 4 (by omega)
  -- towns' gains, in the reference's row
  have hcnt : ∀ t : Nat, (t : Int) < τ 7 4 → lkN (τ2 7) t d = lkN (τ 7) t d := fun t ht =>
    (sta_congr h.hw (by omega) (by omega) (fun j hj => r3.2.2.2.1 j (by omega)) d (h.hS.2.2.2.2.2.2.2.2 t (by omega) ht).2 (fun d' hd' => r3.2.2.2.2.2.2 t d' (by omega) (by omega) hd')).2.2.1
  have hmono : ∀ t : Nat, ∀ m : Nat, 0 ≤ lkN (τ2 7) t (d + m) - lkN (τ2 7) t d ∧ lkN (τ2 7) t (d + m) - lkN (τ2 7) t d ≤ m := fun t m => by
    induction m with
    | zero => simp
    | succ m ih =>
      rw [show d + (m + 1) = (d + m) + 1 by omega, lkN]
      split <;> omega
  have loop : ∀ (j i : Nat) (τ3 : zH), (τ 7 4 : Int) ≤ i + j → (i : Int) ≤ τ 7 4 → (∀ x, x ≠ 29 → τ3 x = τ2 x) → (∀ t : Nat, t < i → τ3 29 (6 * s + t) = lkN (τ2 7) t f - lkN (τ2 7) t d) → (∀ x, ¬ (6 * s ≤ x ∧ x < 6 * s + 6) → τ3 29 x = τ2 29 x) →
      ∃ τ4, f_M_likesBy_44 τ3 (s : Int) (d : Int) (i : Int) = (f_M_back τ4).bind (fun r1 => some (r1.1, 0)) ∧ (∀ x, x ≠ 29 → τ4 x = τ2 x) ∧ (∀ t : Nat, (t : Int) < τ 7 4 → τ4 29 (6 * s + t) = lkN (τ2 7) t f - lkN (τ2 7) t d) ∧ (∀ x, ¬ (6 * s ≤ x ∧ x < 6 * s + 6) → τ4 29 x = τ2 29 x) := by
    intro j
    induction j with
    | zero =>
      intro i τ3 g1 g2 g3 g4 g5
      exact ⟨τ3, by rw [e_M_likesBy_44, g3 7 (by decide), if_pos (by omega)], g3, fun t ht => g4 t (by omega), g5⟩
    | succ j ih =>
      intro i τ3 g1 g2 g3 g4 g5
      by_cases hi : τ 7 4 ≤ (i : Int)
      · exact ⟨τ3, by rw [e_M_likesBy_44, g3 7 (by decide), if_pos (by omega)], g3, fun t ht => g4 t (by omega), g5⟩
      · have hwr := (hS2.2.2.2.2.2.2.2.2 i (by omega) (by omega)).2
        have hwd := m_words (τ := τ3) (lk := 1) (n := d) (g3 7 (by decide)) v2 (t := (i : Int)) (by omega) (by omega) hS2.2.1 hS2.1 hwr hdf
        obtain ⟨τ4, y1, y2, y3, y4⟩ := ih (i + 1) (zset τ3 29 (6 * s + i) (lkN (τ2 7) i f - lkN (τ2 7) i d)) (by omega) (by omega) (fun x hx => by rw [zk hx]; exact g3 x hx) (fun t ht => by
          by_cases hti : t = i
          · rw [hti, zs]
          · rw [zi (by omega)]; exact g4 t (by omega)) (fun x hx => by rw [zi (by omega)]; exact g5 x hx)
        refine ⟨τ4, ?_, y2, y3, y4⟩
        rw [e_M_likesBy_44, g3 7 (by decide), if_neg (by omega), hwd, Option.bind_some]
        dsimp only
        rw [w32_id (x := 6 * (s : Int)) (by omega) (by omega), w32_id (x := 6 * (s : Int) + (i : Int)) (by omega) (by omega), if_pos (zin_t (by omega) (by omega)), w32_s (by omega), ← y1, show Int.toNat (6 * (s : Int) + (i : Int)) = 6 * s + i by omega]
        rfl
  obtain ⟨τ4, y1, y2, y3, y4⟩ := loop 6 0 τ2 (by omega) (by omega) (fun _ _ => rfl) (fun t ht => by omega) (fun _ _ => rfl)
  have tr4 : TriR σ τ σ2 τ4 d f := by
    obtain ⟨z1, z2, z3, z4, z5, z6, z7⟩ := r3
    refine ⟨z1, fun j i hj j7 => by rw [y2 j (by unfold SM at hj; omega)]; exact z2 j i hj j7, fun x hx => by rw [y2 23 (by decide)]; exact z3 x hx, by rw [y2 7 (by decide)]; exact z4, by rw [y2 7 (by decide)]; exact z5, z6, by rw [y2 7 (by decide)]; exact z7⟩
  obtain ⟨τ5, b1, b2, b3, b4⟩ := tri_back h tr4
  have own : ∀ j, ¬ own8 128 j → σ2 j = σ j := fun j hj => by rw [r4.1 j hj, zk (by unfold own8 at hj; omega), s5.1 j hj]
  refine ⟨σ2, τ5, fun t => lkN (τ2 7) t f - lkN (τ2 7) t d, ?_, ?_, b3, b2, own, fun t ht => ?_, fun x hx => ?_⟩
  · rw [e_R_tryDays, s1, Option.bind_some]
    dsimp only
    rw [w3, if_pos rfl, w4, r1, Option.bind_some]
  · rw [e_M_likesBy, s2, Option.bind_some]
    dsimp only
    rw [hv, r2, Option.bind_some]
    dsimp only
    rw [e7, h.hS.2.1, show f_M_likesBy_44 τ2 (s : Int) (d : Int) 0 = f_M_likesBy_44 τ2 (s : Int) (d : Int) ((0 : Nat) : Int) from rfl, y1, b1, Option.bind_some]
  · have hm := hmono t (f - d)
    rw [show d + (f - d) = f by omega] at hm
    have hS := h.hS.2.2.2.2.2.2.2.2 t (by omega) ht
    have hS2t := hS2.2.2.2.2.2.2.2.2 t (by omega) (by rw [ht4]; exact ht)
    have h135 : σ2 135 t = lkN (τ2 7) t f := hS2t.1.2.2.1
    have h103 : σ2 103 t = lkN (τ 7) t d := by rw [own 103 (by unfold own8; omega)]; exact hS.1.2.2.1
    have hin := lkN_in (a := τ 7) (t := (t : Int)) d
    have hy := y3 t ht
    have hct := hcnt t ht
    refine ⟨by dsimp only; omega, by dsimp only; omega, by omega, by omega, ?_⟩
    rw [b4 29 (by decide), hy]
  · rw [b4 29 (by decide), y4 x hx, r4.2.1 29 (by decide) (by decide), zk (by decide), s4 29 (by decide)]
theorem zsets (h : Rl σ τ k q d) : ∃ E : Nat, E ≤ 6 ∧ τ 7 2 = (E : Int) ∧ zshl 1 (τ 7 2) = ((2 ^ E : Nat) : Int) ∧ zshl 1 (σ k 15) = ((2 ^ E : Nat) : Int) ∧ 2 ^ E ≤ 64 := by
  have hc2 := h.hw.1.2.2.1
  have hp : 2 ^ (τ 7 2).toNat ≤ 2 ^ 6 := Nat.pow_le_pow_right (by decide) (by omega)
  have e : τ 7 2 = (((τ 7 2).toNat : Nat) : Int) := by omega
  have hz : zshl 1 (τ 7 2) = ((2 ^ (τ 7 2).toNat : Nat) : Int) := by
    have := zshl_1 (k := (τ 7 2).toNat) (by omega)
    rw [← e] at this
    exact this
  exact ⟨(τ 7 2).toNat, by omega, e, hz, by rw [h.hL.1.2.2.1]; exact hz, by omega⟩
theorem q_liked (h : Rl σ τ k q d) (t s n : Int) : Same (f_R_liked σ t s n) (f_M_liked τ t s n) := by
  have h0 := h.mark (v := 0)
  rw [e_M_liked, e_R_liked]
  generalize zset τ 0 0 0 = τ0 at h0 ⊢
  obtain ⟨E, E6, hE, z1, z2, z3⟩ := zsets h0
  have hc4 := h0.hw.1.2.2.2.2.1
  simp only [h0.hz, h0.hk, if_true]
  rw [m_isTown h0.hw.1, c_hasTown h0.hL, Option.bind_some, Option.bind_some]
  dsimp only
  simp only [h0.hz, h0.hk, if_true, z1, z2]
  by_cases hc : 0 ≤ t ∧ t < τ0 7 4
  · rw [if_pos hc, i10, i10]
    by_cases s0 : s < 0
    · rw [if_pos s0, if_pos s0]; exact h0.look rfl rfl
    · rw [if_neg s0, if_neg s0]
      by_cases s1 : ((2 ^ E : Nat) : Int) ≤ s
      · rw [if_pos s1, if_pos s1]; exact h0.look rfl rfl
      · rw [if_neg s1, if_neg s1, m_isIn, e_R_isWithin, Option.bind_some]
        dsimp only
        by_cases hn : 1 ≤ n ∧ n ≤ 60
        · obtain ⟨N, hN⟩ : ∃ N : Nat, n = (N : Int) := ⟨n.toNat, by omega⟩
          obtain ⟨S, hS⟩ : ∃ S : Nat, s = (S : Int) := ⟨s.toNat, by omega⟩
          obtain ⟨T, hT⟩ : ∃ T : Nat, t = (T : Int) := ⟨t.toNat, by omega⟩
          subst hN
          subst hS
          subst hT
          obtain ⟨σ2, τ2, g, y1, y2, y3, y4, y5, y6, y7⟩ := q_try (N := N) (s := S) h0 (by omega) (by rw [hE, show ((E : Int)).toNat = E from rfl]; omega)
          obtain ⟨p1, p2, p3, p4, p5⟩ := y6 T hc.2
          rw [if_pos hn, in10, if_neg (show ¬ (N : Int) < 1 by omega), if_neg (show ¬ (60 : Int) < N by omega), Option.bind_some]
          dsimp only
          rw [in10, y1, y2, Option.bind_some, Option.bind_some]
          dsimp only
          rw [if_pos (zin_t hc.1 (by omega)), if_pos (zin_t hc.1 (by omega)), w32_id (x := 6 * (S : Int)) (by omega) (by omega), w32_id (x := 6 * (S : Int) + (T : Int)) (by omega) (by omega), if_pos (zin_t (by omega) (by omega)), show Int.toNat (6 * (S : Int) + (T : Int)) = 6 * S + T by omega, p5, show Int.toNat (T : Int) = T from rfl, p2, w32_id (by omega) (by omega)]
          exact y3.look rfl rfl
        · rw [if_neg hn, in00]
          by_cases h1 : n < 1
          · rw [if_pos h1, Option.bind_some]
            dsimp only
            rw [in00]
            exact h0.look rfl rfl
          · rw [if_neg h1, if_pos (show 60 < n by omega), Option.bind_some]
            dsimp only
            rw [in00]
            exact h0.look rfl rfl
  · rw [if_neg hc, i00, i00]
    exact h0.look rfl rfl
end G25
