/-! DAYS THAT ARE ONLY ASKED ABOUT -/
section G24
variable {σ τ σ1 τ1 : zH} {k q d e : Nat} {a b : Nat → Int}
/-- both sides while days are tried -/
def TriR (σ τ σ1 τ1 : zH) (d e : Nat) : Prop :=
  (∀ j i, ¬ SC j i → σ1 j i = σ j i) ∧ (∀ j i, ¬ SM j i → j ≠ 7 → τ1 j i = τ j i) ∧ (∀ x, x < 2490 → τ1 23 x = τ 7 (288 + x)) ∧ (∀ j, ¬ (288 ≤ j ∧ j < 2778) → τ1 7 j = τ 7 j) ∧ StrR σ1 128 (τ1 7) e ∧ d ≤ e ∧ ∀ (t : Int) (f : Nat), 0 ≤ t → t < 6 → f < d → wv (τ1 7) t f = wv (τ 7) t f
theorem zset_self {σ : zH} {j i : Nat} : zset σ j i (σ j i) = σ := by
  funext j' i'
  by_cases h : j' = j ∧ i' = i
  · obtain ⟨rfl, rfl⟩ := h; exact zs
  · exact if_neg h
theorem ap128 (h : Rl σ τ k q d) : apart8 128 k := by
  unfold apart8
  rcases h.land.1 with rfl | rfl <;> omega
theorem TriR.land (h : Rl σ τ k q d) (t : TriR σ τ σ1 τ1 d e) : LandR σ1 k (τ1 7) ∧ wfL (τ1 7) ∧ zio 1 (σ1 0 11) = true ∧ Int.toNat (σ1 0 11) = k := by
  have hk := h.land.1
  unfold isLand at hk
  refine ⟨LandR_congr (fun j hj => t.2.2.2.1 j (by omega)) h.hw (h.hL.frame (fun i hi => funext (fun x => t.1 _ x (by unfold SC; omega)))), wfL_congr (fun j hj => t.2.2.2.1 j (by omega)) h.hw, ?_, ?_⟩
  · rw [t.1 0 11 (by unfold SC; omega)]; exact h.hz
  · rw [t.1 0 11 (by unfold SC; omega)]; exact h.hk
theorem tri_start (h : Rl σ τ k q d) : ∃ σ1 τ1, f_Stream_copyFrom σ 128 96 = some (σ1, 0) ∧ f_M_tries τ = some (τ1, 0) ∧ TriR σ τ σ1 τ1 d d ∧ (∀ j, j ≠ 23 → τ1 j = τ j) ∧ CopyOut σ σ1 128 96 := by
  obtain ⟨σ1, c1, c2⟩ := c_copy (σ := σ) (k0 := 128) (k1 := 96) (by omega)
  obtain ⟨τ1, m1, m2, m3⟩ := m_tries (τ := τ)
  have e7 : τ1 7 = τ 7 := m2 7 (by decide)
  refine ⟨σ1, τ1, c1, m1, ⟨fun j i hj => by rw [c2.1 j (by unfold own8; unfold SC at hj; omega)], fun j i hj _ => by rw [m2 j (by unfold SM at hj; omega)], m3, fun j _ => by rw [e7], ?_, Nat.le_refl d, fun t f _ _ _ => by rw [e7]⟩, m2, c2⟩
  rw [e7]
  exact h.hS.copy h.hw c2
theorem tri_back (h : Rl σ τ k q d) (t : TriR σ τ σ1 τ1 d e) : ∃ τ2, f_M_back τ1 = some (τ2, 0) ∧ τ2 7 = τ 7 ∧ Rl σ1 τ2 k q d ∧ ∀ j, j ≠ 7 → τ2 j = τ1 j := by
  obtain ⟨τ2, m1, m2, m3, m4⟩ := m_back (τ := τ1)
  obtain ⟨t1, t2, t3, t4, t5, t6⟩ := t
  have e7 : τ2 7 = τ 7 := by
    funext j
    by_cases hj : 288 ≤ j ∧ j < 2778
    · have := m4 (j - 288) (by omega)
      rw [show 288 + (j - 288) = j by omega, t3 _ (by omega), show 288 + (j - 288) = j by omega] at this
      exact this
    · rw [m3 j hj, t4 j hj]
  refine ⟨τ2, m1, e7, h.same t1 (fun j i hj => ?_), m2⟩
  by_cases j7 : j = 7
  · rw [j7, e7]
  · rw [m2 j j7]; exact t2 j i hj j7
theorem TriR.pass {σ2 τ2 : zH} {f : Nat} (t : TriR σ τ σ1 τ1 d e) (p : PassOut σ1 τ1 σ2 τ2 128 e f) (hef : e ≤ f) : TriR σ τ σ2 τ2 d f := by
  obtain ⟨t1, t2, t3, t4, t5, t6, t7⟩ := t
  obtain ⟨p1, p2, p3, p4, p5, p6, -⟩ := p
  refine ⟨fun j i hj => by rw [p1 j (by unfold own8; unfold SC at hj; omega)]; exact t1 j i hj, fun j i hj j7 => by rw [p2 j j7 (by unfold SM at hj; omega)]; exact t2 j i hj j7, fun x hx => by rw [p2 23 (by decide) (by decide)]; exact t3 x hx, fun j hj => by rw [p3 j (by omega)]; exact t4 j hj, p4, by omega, fun t f' h0 h1 hf => by rw [p6 t f' h0 h1 (by omega)]; exact t7 t f' h0 h1 hf⟩
theorem tri_run {N : Nat} (h : Rl σ τ k q d) (t : TriR σ τ σ1 τ1 d e) (hN : N ≤ 99) :
    ∃ σ2 τ2, f_Stream_pass σ1 128 k (N : Int) = some (σ2, 0) ∧ f_M_goes τ1 (N : Int) = some (τ2, ((min N (400 - e) : Nat) : Int)) ∧ TriR σ τ σ2 τ2 d (e + min N (400 - e)) ∧ PassOut σ1 τ1 σ2 τ2 128 e (e + min N (400 - e)) := by
  obtain ⟨l1, l2, l3, l4⟩ := TriR.land h t
  have he4 := t.2.2.2.2.1.1
  obtain ⟨σ2, τ2, g1, g2, g3⟩ := pass_both (k := k) (ks := 128) (M := min N (400 - e)) (N := N) (e := e + min N (400 - e)) (ap128 h) (by omega) (by omega) (by omega) (by omega) (min N (400 - e)) 0 e σ1 τ1 (by omega) rfl l1 l2 t.2.2.2.2.1
  refine ⟨σ2, τ2, ?_, ?_, t.pass g3 (by omega), g3⟩
  · rw [e_Stream_pass, e_Stream_daysLeft, t.2.2.2.2.1.2.2.1, Option.bind_some]
    dsimp only
    rw [w32_id (x := 400 - (e : Int)) (by omega) (by omega), show (400 - (e : Int)) = ((400 - e : Nat) : Int) by omega, zmin_nat]
    exact g1
  · rw [e_M_goes]; exact g2
theorem q_clashes (h : Rl σ τ k q d) (n : Int) : Same (f_R_clashes σ n) (f_M_clashes τ n) := by
  have h0 := h.mark (v := 0)
  rw [e_M_clashes, e_R_clashes, e_R_isWithin]
  generalize zset τ 0 0 0 = τ0 at h0 ⊢
  rw [m_isIn, Option.bind_some]
  dsimp only
  by_cases hn : 1 ≤ n ∧ n ≤ 99
  · obtain ⟨N, hN⟩ : ∃ N : Nat, n = (N : Int) := ⟨n.toNat, by omega⟩
    subst hN
    rw [if_pos hn, in10, if_neg (show ¬ (N : Int) < 1 by omega), if_neg (show ¬ (99 : Int) < N by omega), Option.bind_some]
    dsimp only
    obtain ⟨σ1, τ1, s1, s2, s3, s4, s5⟩ := tri_start h0
    obtain ⟨l1, l2, l3, l4⟩ := TriR.land h0 s3
    have e13 : zset σ1 128 13 (σ 96 13) = σ1 := by rw [← s5.2.2.2.2.1]; exact zset_self
    obtain ⟨σ2, τ2, r1, r2, r3, r4⟩ := tri_run (N := N) h0 s3 (by omega)
    obtain ⟨τ3, b1, b2, b3, b4⟩ := tri_back h0 r3
    rw [in10, e_R_tryDays, s1, Option.bind_some]
    dsimp only
    rw [e13, l3, if_pos rfl, l4, r1, Option.bind_some, Option.bind_some, s2, Option.bind_some]
    dsimp only
    rw [r2, Option.bind_some]
    dsimp only
    rw [b1, Option.bind_some]
    dsimp only
    have c1 := r3.2.2.2.2.1.2.2.2.2.1.1
    have c2 := h0.hS.2.2.2.2.1.1
    have c3 : σ2 96 14 = σ 96 14 := r3.1 96 14 (by unfold SC; omega)
    rw [c1, c3, c2, b2]
    exact b3.look rfl rfl
  · rw [if_neg hn, in00]
    by_cases h1 : n < 1
    · rw [if_pos h1, Option.bind_some]
      dsimp only
      rw [in00]
      exact h0.look rfl rfl
    · rw [if_neg h1, if_pos (show 99 < n by omega), Option.bind_some]
      dsimp only
      rw [in00]
      exact h0.look rfl rfl
theorem q_when_l {N M : Nat} (h : Rl σ τ k q d) {t term : Int} (ht0 : 0 ≤ t) (ht1 : t < τ 7 4) (hN : N ≤ 99) (hM : M ≤ N) (hend : M = N ∨ d + M = 400) (hd4 : d + M ≤ 400) : ∀ (r i : Nat) (σ1 τ1 : zH), i + r = M → TriR σ τ σ1 τ1 d (d + i) →
    ∃ σ2 τ2 x, f_R_when_60 σ1 t term (M : Int) (i : Int) = some (σ2, x) ∧ f_M_when_43 τ1 t term (N : Int) (-1) (i : Int) = some (τ2, x) ∧ Rl σ2 τ2 k q d
  | 0, i, σ1, τ1, hi, tr => by
    obtain ⟨τ2, b1, b2, b3, b4⟩ := tri_back h tr
    refine ⟨σ1, τ2, -1, ?_, ?_, b3⟩
    · rw [e_R_when_60, if_pos (by omega)]
    · rw [e_M_when_43]
      by_cases hNi : (N : Int) ≤ i
      · rw [if_pos hNi, b1, Option.bind_some]
      · have e288 := tr.2.2.2.2.1.2.1
        rw [if_neg hNi, if_neg (show ¬ (0 : Int) ≤ -1 by decide), e_M_goes, e_M_goes_2, if_neg (show ¬ (1 : Int) ≤ 0 by decide), if_pos (show 400 ≤ τ1 7 288 by omega), Option.bind_some]
        dsimp only
        rw [if_pos (show ¬ (0 : Int) = 1 by decide), b1, Option.bind_some]
  | r + 1, i, σ1, τ1, hi, tr => by
    obtain ⟨l1, l2, l3, l4⟩ := TriR.land h tr
    have e288 := tr.2.2.2.2.1.2.1
    have hc4 := h.hw.1.2.2.2.2.1
    obtain ⟨σ2, τ2, p1, p2, p3⟩ := day_out l1 (ap128 h) l2 tr.2.2.2.2.1 (by omega)
    have tr2 := tr.pass p3 (by omega)
    have hS2 := tr2.2.2.2.2.1
    obtain ⟨w1, w2, w3, w4⟩ := TriR.land h tr2
    have ht4 : τ2 7 4 = τ 7 4 := tr2.2.2.2.1 4 (by omega)
    obtain ⟨st1, st2⟩ := hS2.2.2.2.2.2.2.2.2 t ht0 (by omega)
    have hlast := m_last (τ := τ2) rfl w2 ht0 (by omega) hS2.2.1 hS2.1 st2
    have hgo : f_M_goes τ1 1 = some (τ2, 1) := by
      rw [e_M_goes, e_M_goes_2, if_neg (show ¬ (1 : Int) ≤ 0 by decide), if_neg (show ¬ 400 ≤ τ1 7 288 by omega), p2, Option.bind_some, w32_id (x := 0 + 1) (by decide) (by decide), e_M_goes_2, if_pos (show (1 : Int) ≤ 0 + 1 by decide)]
      rfl
    have hC : f_R_when_60 σ1 t term (M : Int) (i : Int) = if ¬ lsN (τ2 7) t (d + i + 1) = term then f_R_when_60 σ2 t term (M : Int) ((i + 1 : Nat) : Int) else some (σ2, w32 (σ2 128 12 - 1)) := by
      rw [e_R_when_60, if_neg (show ¬ (M : Int) ≤ i by omega), l3, if_pos rfl, l4, p1, Option.bind_some]
      dsimp only
      rw [if_pos (zin_t ht0 (by omega)), w32_s (by omega), show 133 = 128 + 5 from rfl]
      simp only [st1.1]
    have hM1 : f_M_when_43 τ1 t term (N : Int) (-1) (i : Int) = if ¬ lsN (τ2 7) t (d + i + 1) = term then f_M_when_43 τ2 t term (N : Int) (-1) ((i + 1 : Nat) : Int) else f_M_when_43 τ2 t term (N : Int) (w32 (τ2 7 288 - 1)) ((i + 1 : Nat) : Int) := by
      rw [e_M_when_43, if_neg (show ¬ (N : Int) ≤ i by omega), if_neg (show ¬ (0 : Int) ≤ -1 by decide), hgo, Option.bind_some]
      dsimp only
      rw [if_neg (show ¬ ¬ (1 : Int) = 1 by decide), hlast, Option.bind_some]
      dsimp only
      rw [w32_s (by omega)]
    by_cases hq : lsN (τ2 7) t (d + i + 1) = term
    · obtain ⟨τ3, b1, b2, b3, b4⟩ := tri_back h tr2
      have e12 := hS2.2.2.1
      have e288' := hS2.2.1
      refine ⟨σ2, τ3, ((d + i : Nat) : Int), ?_, ?_, b3⟩
      · rw [hC, if_neg (fun x => x hq), e12, w32_id (by omega) (by omega)]
        congr 2
        omega
      · rw [hM1, if_neg (fun x => x hq), e288', w32_id (by omega) (by omega), e_M_when_43]
        have hx : ((d + i + 1 : Nat) : Int) - 1 = ((d + i : Nat) : Int) := by omega
        rw [hx, if_pos (show (0 : Int) ≤ ((d + i : Nat) : Int) by omega), b1, Option.bind_some, ite_self]
    · obtain ⟨σ3, τ3, x, y1, y2, y3⟩ := q_when_l h ht0 ht1 hN hM hend hd4 r (i + 1) σ2 τ2 (by omega) tr2
      exact ⟨σ3, τ3, x, by rw [hC, if_pos hq]; exact y1, by rw [hM1, if_pos hq]; exact y2, y3⟩
theorem q_when (h : Rl σ τ k q d) (t v n : Int) : Same (f_R_when σ t v n) (f_M_when τ t v n) := by
  have h0 := h.mark (v := 0)
  rw [e_M_when, e_R_when]
  generalize zset τ 0 0 0 = τ0 at h0 ⊢
  simp only [h0.hz, h0.hk, if_true]
  rw [m_isTown h0.hw.1, c_hasTown h0.hL, Option.bind_some, Option.bind_some]
  dsimp only
  simp only [h0.hz, h0.hk, if_true]
  by_cases hc : 0 ≤ t ∧ t < τ0 7 4
  · rw [if_pos hc, i10, i10, m_isTerm h0.hw.1, c_hasTerm h0.hL, Option.bind_some, Option.bind_some]
    dsimp only
    by_cases hv : 0 ≤ v ∧ v < τ0 7 0
    · rw [if_pos hv, i10, i10, m_isIn, e_R_isWithin, Option.bind_some]
      dsimp only
      by_cases hn : 1 ≤ n ∧ n ≤ 99
      · obtain ⟨N, hN⟩ : ∃ N : Nat, n = (N : Int) := ⟨n.toNat, by omega⟩
        subst hN
        obtain ⟨σ1, τ1, s1, s2, s3, s4, s5⟩ := tri_start h0
        have hd4 := h0.hS.1
        have e12 := s3.2.2.2.2.1.2.2.1
        rw [if_pos hn, in10, if_neg (show ¬ (N : Int) < 1 by omega), if_neg (show ¬ (99 : Int) < N by omega), Option.bind_some]
        dsimp only
        rw [in10, s1, Option.bind_some, s2, Option.bind_some]
        dsimp only
        rw [e_Stream_daysLeft, e12, Option.bind_some]
        dsimp only
        rw [w32_id (x := 400 - (d : Int)) (by omega) (by omega), show (400 - (d : Int)) = ((400 - d : Nat) : Int) by omega, zmin_nat]
        obtain ⟨σ2, τ2, x, y1, y2, y3⟩ := q_when_l (N := N) (M := min N (400 - d)) (term := v) h0 hc.1 hc.2 (by omega) (by omega) (by omega) (by omega) (min N (400 - d)) 0 σ1 τ1 (by omega) s3
        exact ⟨σ2, τ2, x, y1, y2, k, q, d, y3⟩
      · rw [if_neg hn, in00]
        by_cases h1 : n < 1
        · rw [if_pos h1, Option.bind_some]
          dsimp only
          rw [in00]
          exact h0.look rfl rfl
        · rw [if_neg h1, if_pos (show 99 < n by omega), Option.bind_some]
          dsimp only
          rw [in00]
          exact h0.look rfl rfl
    · rw [if_neg hv, i00, i00]
      exact h0.look rfl rfl
  · rw [if_neg hc, i00, i00]
    exact h0.look rfl rfl
end G24
