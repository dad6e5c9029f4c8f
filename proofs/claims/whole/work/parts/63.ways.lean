/-! SAYING: how many ways, and the first of them, both sides -/
section G33
variable {σ τ σ1 τ1 : zH} {k q d e : Nat} {a b : Nat → Int}
theorem m_ways_one {T L i P : Nat} {t : Int} (hT : τ 7 0 = (T : Int)) (hT10 : T ≤ 10) (hA : ArrR σ (τ 7) t T) (hb : ByR σ τ L) (hi : i < L) (hL : L ≤ 15) : ∀ (j v : Nat) (τ1 : zH), v + j = T → (∀ x, x ≠ 27 → τ1 x = τ x) → (cntA (σ 9) (trm σ i) v ≠ 0 → τ1 27 i = lstA (σ 9) (trm σ i) v) →
    ∃ τ2, f_M_saying_53 τ1 t (P : Int) (i : Int) (cntA (σ 9) (trm σ i) v : Int) (v : Int) = f_M_saying_38 τ2 t (w64 ((P : Int) * (cntA (σ 9) (trm σ i) T : Int))) ((i + 1 : Nat) : Int) ∧ (∀ x, x ≠ 27 → τ2 x = τ x) ∧ (∀ y, y ≠ i → τ2 27 y = τ1 27 y) ∧ (cntA (σ 9) (trm σ i) T ≠ 0 → τ2 27 i = lstA (σ 9) (trm σ i) T)
  | 0, v, τ1, hv, g1, g2 => by
    have : v = T := by omega
    subst this
    refine ⟨τ1, ?_, g1, fun _ _ => rfl, g2⟩
    rw [e_M_saying_53, g1 7 (by decide), if_pos (show τ 7 0 ≤ (v : Int) by omega), w32_s (by omega)]
  | j + 1, v, τ1, hv, g1, g2 => by
    have h7 : τ1 7 = τ 7 := g1 7 (by decide)
    have hb1 : ByR σ τ1 L := ⟨hb.1, fun x hx => by rw [g1 2 (by decide)]; exact hb.2 x hx⟩
    have hle := cntA_le (g := σ 9) (x := trm σ i) v
    obtain ⟨l1, l2, l3⟩ := lstA_in (g := σ 9) (x := trm σ i) v
    have step : f_M_saying_53 τ1 t (P : Int) (i : Int) (cntA (σ 9) (trm σ i) v : Int) (v : Int) = if σ 9 v = trm σ i then (if ¬ (cntA (σ 9) (trm σ i) v : Int) = 0 then f_M_saying_53 τ1 t (P : Int) (i : Int) ((cntA (σ 9) (trm σ i) v + 1 : Nat) : Int) ((v + 1 : Nat) : Int) else f_M_saying_53 (zset τ1 27 i (v : Int)) t (P : Int) (i : Int) ((cntA (σ 9) (trm σ i) v + 1 : Nat) : Int) ((v + 1 : Nat) : Int)) else f_M_saying_53 τ1 t (P : Int) (i : Int) (cntA (σ 9) (trm σ i) v : Int) ((v + 1 : Nat) : Int) := by
      rw [e_M_saying_53, h7, if_neg (show ¬ τ 7 0 ≤ (v : Int) by omega), (hA v (by omega)).1 τ1 h7, Option.bind_some]
      dsimp only
      rw [m_termAt hb1 hi, Option.bind_some]
      dsimp only
      rw [if_pos (zin_t (by omega) (by omega)), w32_s (by omega), w32_s (by omega)]
      rfl
    rw [step]
    by_cases hg : σ 9 v = trm σ i
    · rw [if_pos hg]
      have ec : cntA (σ 9) (trm σ i) (v + 1) = cntA (σ 9) (trm σ i) v + 1 := by rw [cntA, if_pos hg]
      by_cases h0 : cntA (σ 9) (trm σ i) v = 0
      · have hnn : ¬ ¬ (cntA (σ 9) (trm σ i) v : Int) = 0 := fun y => y (by omega)
        have hnl : ¬ lstA (σ 9) (trm σ i) v ≠ -1 := fun y => y (l3.mp h0)
        obtain ⟨τ2, y1, y2, y3, y4⟩ := m_ways_one (P := P) hT hT10 hA hb hi hL j (v + 1) (zset τ1 27 i (v : Int)) (by omega) (fun x hx => by rw [zk hx]; exact g1 x hx) (fun _ => by rw [zs, lstA, if_neg hnl, if_pos hg])
        rw [if_neg hnn, ← ec]
        exact ⟨τ2, y1, y2, fun y hy => by rw [y3 y hy, zi hy], y4⟩
      · have hnl : lstA (σ 9) (trm σ i) v ≠ -1 := fun y => h0 (l3.mpr y)
        obtain ⟨τ2, y1, y2, y3, y4⟩ := m_ways_one (P := P) hT hT10 hA hb hi hL j (v + 1) τ1 (by omega) g1 (fun _ => by rw [g2 h0, lstA, if_pos hnl])
        rw [if_pos (show ¬ (cntA (σ 9) (trm σ i) v : Int) = 0 by omega), ← ec]
        exact ⟨τ2, y1, y2, y3, y4⟩
    · rw [if_neg hg]
      have ec : cntA (σ 9) (trm σ i) (v + 1) = cntA (σ 9) (trm σ i) v := by rw [cntA, if_neg hg, Nat.add_zero]
      obtain ⟨τ2, y1, y2, y3, y4⟩ := m_ways_one (P := P) hT hT10 hA hb hi hL j (v + 1) τ1 (by omega) g1 (fun hc => by
        rw [ec] at hc
        have hnl : lstA (σ 9) (trm σ i) v ≠ -1 := fun y => hc (l3.mpr y)
        rw [g2 hc, lstA, if_pos hnl])
      rw [ec] at y1
      exact ⟨τ2, y1, y2, y3, y4⟩
theorem ways_loop {T L : Nat} {t : Int} (h : Rl σ τ k q d) (hT : τ 7 0 = (T : Int)) (hA : ArrR σ (τ 7) t T) (hb : ByR σ τ L) (h3 : τ 0 3 = (L : Int)) (hL : L ≤ 15) : ∀ (j i P : Nat) (τ1 : zH), i + j = L → P ≤ 10 ^ i → (∀ x, x ≠ 27 → τ1 x = τ x) → (P ≠ 0 → ∀ y, y < i → τ1 27 y = lstA (σ 9) (trm σ y) T) →
    ∃ (W : Nat) (τ2 : zH), f_R_saying_35 σ (L : Int) (P : Int) (i : Int) = f_R_saying_35 σ (L : Int) (W : Int) (L : Int) ∧ f_M_saying_38 τ1 t (P : Int) (i : Int) = f_M_saying_38 τ2 t (W : Int) (L : Int) ∧ (∀ x, x ≠ 27 → τ2 x = τ x) ∧ (W ≠ 0 → ∀ y, y < L → τ2 27 y = lstA (σ 9) (trm σ y) T)
  | 0, i, P, τ1, hi, hP, g1, g2 => by
    have : i = L := by omega
    subst this
    exact ⟨P, τ1, rfl, rfl, g1, g2⟩
  | j + 1, i, P, τ1, hi, hP, g1, g2 => by
    have hc0 := h.hw.1.1
    have hcle := cntA_le (g := σ 9) (x := trm σ i) T
    have hmul : P * cntA (σ 9) (trm σ i) T ≤ 10 ^ (i + 1) := by
      rw [Nat.pow_succ]
      exact Nat.mul_le_mul hP (by omega)
    have hp : (10 : Nat) ^ (i + 1) ≤ 10 ^ 15 := Nat.pow_le_pow_right (by decide) (by omega)
    have hw : w64 ((P : Int) * (cntA (σ 9) (trm σ i) T : Int)) = ((P * cntA (σ 9) (trm σ i) T : Nat) : Int) := by
      rw [← Int.natCast_mul]
      have h15 : (10 : Nat) ^ 15 = 1000000000000000 := rfl
      exact w64_id (by omega) (by omega)
    obtain ⟨τ2, y1, y2, y3, y4⟩ := m_ways_one (P := P) hT (by omega) hA hb (show i < L by omega) hL T 0 τ1 (by omega) g1 (fun hc => absurd rfl hc)
    obtain ⟨W, τ3, z1, z2, z3, z4⟩ := ways_loop h hT hA hb h3 hL j (i + 1) (P * cntA (σ 9) (trm σ i) T) τ2 (by omega) hmul y2 (fun hne y hy => by
      by_cases hyi : y = i
      · rw [hyi]; exact y4 (fun hz => hne (by rw [hz, Nat.mul_zero]))
      · rw [y3 y hyi]; exact g2 (fun hz => hne (by rw [hz, Nat.zero_mul])) y (by omega))
    refine ⟨W, τ3, ?_, ?_, z3, z4⟩
    · rw [e_R_saying_35, if_neg (show ¬ (L : Int) ≤ i by omega), c_termOf hb (by omega), Option.bind_some]
      dsimp only
      rw [c_countOf h hT, Option.bind_some]
      dsimp only
      rw [hw, w32_s (by omega)]
      exact z1
    · rw [e_M_saying_38, g1 0 (by decide), if_neg (show ¬ τ 0 3 ≤ (i : Int) by omega)]
      rw [hw] at y1
      exact (Eq.trans y1 z2)
theorem c_first {T L : Nat} (h : Rl σ τ k q d) (hT : τ 7 0 = (T : Int)) (hb : ByR σ τ L) (hL : L ≤ 15) : ∃ σ', f_R_keepFirstWay σ (L : Int) = some (σ', 0) ∧ (∀ j i, j ≠ 10 → ¬ (j = 0 ∧ i = 15) → σ' j i = σ j i) ∧ σ' 0 15 = (L : Int) ∧ ∀ y, y < L → σ' 10 y = lstA (σ 9) (trm σ y) T := by
  have loop : ∀ (j i : Nat) (σ1 : zH), i + j = L → (∀ x, x ≠ 10 → σ1 x = σ x) → (∀ y, y < i → σ1 10 y = lstA (σ 9) (trm σ y) T) → ∃ σ', f_R_keepFirstWay_2 σ1 (L : Int) (i : Int) = some (σ', 0) ∧ (∀ j i, j ≠ 10 → ¬ (j = 0 ∧ i = 15) → σ' j i = σ j i) ∧ σ' 0 15 = (L : Int) ∧ ∀ y, y < L → σ' 10 y = lstA (σ 9) (trm σ y) T := by
    intro j
    induction j with
    | zero =>
      intro i σ1 hi g1 g2
      refine ⟨zset σ1 0 15 (L : Int), by rw [e_R_keepFirstWay_2, if_pos (show (L : Int) ≤ i by omega)], fun j x hj hj0 => ?_, zs, fun y hy => by rw [zk (by decide)]; exact g2 y (by omega)⟩
      by_cases j0 : j = 0
      · subst j0; rw [zi (by omega), g1 0 (by decide)]
      · rw [zk j0, g1 j hj]
    | succ j ih =>
      intro i σ1 hi g1 g2
      have hb1 : ByR σ1 τ L := ⟨hb.1, fun x hx => by rw [g1 65 (by decide)]; exact hb.2 x hx⟩
      have h1 : Rl σ1 τ k q d → True := fun _ => trivial
      have etr : trm σ1 i = trm σ i := by unfold trm; rw [g1 65 (by decide)]
      have hls : f_R_leastFor σ1 (trm σ1 i) = some (σ1, lstA (σ 9) (trm σ i) T) := by
        have hkk := h.land.1
        unfold isLand at hkk
        have hc0 := h.hw.1.1
        have loop2 : ∀ (j i : Nat) (x : Int), i + j = T → lstA (σ 9) x i = -1 → f_R_leastFor_2 σ1 x (i : Int) = some (σ1, lstA (σ 9) x T) := by
          intro j
          induction j with
          | zero => intro i x hi hl; rw [e_R_leastFor_2, g1 0 (by decide), h.hz, if_pos rfl, h.hk, g1 k (by omega), h.hL.1.1, if_pos (show τ 7 0 ≤ (i : Int) by omega), ← show i = T by omega, hl]
          | succ j ih =>
            intro i x hi hl
            have hnl : ¬ lstA (σ 9) x i ≠ -1 := fun y => y hl
            rw [e_R_leastFor_2, g1 0 (by decide), h.hz, if_pos rfl, h.hk, g1 k (by omega), h.hL.1.1, if_neg (show ¬ τ 7 0 ≤ (i : Int) by omega), if_pos (zin_t (by omega) (by omega)), w32_s (by omega), show Int.toNat (i : Int) = i from rfl]
            simp only [g1 9 (by decide)]
            by_cases hg : σ 9 i = x
            · have hnn : ¬ ¬ σ 9 i = x := fun y => y hg
              have e1 : lstA (σ 9) x (i + 1) = (i : Int) := by rw [lstA, if_neg hnl, if_pos hg]
              have hst := lstA_stay (g := σ 9) (x := x) (n := i + 1) (by rw [e1]; omega) j
              rw [show i + 1 + j = T by omega, e1] at hst
              rw [if_neg hnn, hst]
            · rw [if_pos hg]
              exact ih (i + 1) x (by omega) (by rw [lstA, if_neg hnl, if_neg hg])
        rw [e_R_leastFor, etr]
        exact loop2 T 0 (trm σ i) (by omega) rfl
      obtain ⟨σ', y1, y2⟩ := ih (i + 1) (zset σ1 10 i (lstA (σ 9) (trm σ i) T)) (by omega) (fun x hx => by rw [zk hx]; exact g1 x hx) (fun y hy => by
        by_cases hyi : y = i
        · rw [hyi, zs]
        · rw [zi hyi]; exact g2 y (by omega))
      refine ⟨σ', ?_, y2⟩
      rw [e_R_keepFirstWay_2, if_neg (show ¬ (L : Int) ≤ i by omega), c_termOf hb1 (by omega), Option.bind_some]
      dsimp only
      rw [hls, Option.bind_some]
      dsimp only
      rw [if_pos (zin_t (by omega) (by omega)), w32_s (by omega)]
      exact y1
  rw [e_R_keepFirstWay]
  exact loop L 0 σ (by omega) (fun _ _ => rfl) (fun y hy => by omega)
theorem m_first {L : Nat} {w : Int} (h3 : τ 0 3 = (L : Int)) (hL : L ≤ 15) : ∀ (j i : Nat) (τ1 : zH), i + j = L → (∀ x, x ≠ 26 → τ1 x = τ x) → (∀ y, y < i → τ1 26 y = τ 27 y) → ∃ τ', f_M_saying_137 τ1 w (i : Int) = some (τ', w) ∧ (∀ x, x ≠ 26 → τ' x = τ x) ∧ ∀ y, y < L → τ' 26 y = τ 27 y
  | 0, i, τ1, hi, g1, g2 => ⟨τ1, by rw [e_M_saying_137, g1 0 (by decide), if_pos (show τ 0 3 ≤ (i : Int) by omega)], g1, fun y hy => g2 y (by omega)⟩
  | j + 1, i, τ1, hi, g1, g2 => by
    obtain ⟨τ', y1, y2, y3⟩ := m_first (w := w) h3 hL j (i + 1) (zset τ1 26 i (τ1 27 i)) (by omega) (fun x hx => by rw [zk hx]; exact g1 x hx) (fun y hy => by
      by_cases hyi : y = i
      · rw [hyi, zs, g1 27 (by decide)]
      · rw [zi hyi]; exact g2 y (by omega))
    refine ⟨τ', ?_, y2, y3⟩
    rw [e_M_saying_137, g1 0 (by decide), if_neg (show ¬ τ 0 3 ≤ (i : Int) by omega), if_pos (zin_t (by omega) (by omega)), if_pos (zin_t (by omega) (by omega)), w32_s (by omega)]
    exact y1
theorem q_saying (h : Rl σ τ k q d) (t : Int) : Same (f_R_saying σ t) (f_M_saying τ t) := by
  have h0 := h.mark (v := 0)
  rw [e_M_saying, e_R_saying]
  generalize zset τ 0 0 0 = τ0 at h0 ⊢
  obtain ⟨L, τ1, r, t1, t2, t3, t4, t5, t6, t7, t8, t9⟩ := row_read (M := 15) (m := 940) h0
  have t6' : f_R_takeRow σ 15 = some (zset σ 64 1 0, if r = 1 then (L : Int) else -1) := t6
  have t7' : f_M_areTerms τ1 15 = some (τ1, r) := t7
  obtain ⟨s, s1, s2, s3⟩ := ask_source t2 t
  rw [t6', t1, Option.bind_some, Option.bind_some]
  dsimp only
  rw [s2, Option.bind_some]
  dsimp only
  rcases t5 with rfl | rfl
  · rw [if_neg (show ¬ (0 : Int) = 1 by decide), if_pos rfl]
    by_cases hs : s = -1
    · rw [if_pos hs, i00]
      exact t2.look rfl rfl
    · rw [if_neg hs, i10, t7', Option.bind_some]
      dsimp only
      rw [in00]
      exact t2.look rfl rfl
  · have hL := t8 rfl
    rw [if_pos rfl, if_neg (show ¬ (L : Int) = -1 by omega), s1, Option.bind_some]
    dsimp only
    by_cases hs : s = -1
    · rw [if_pos hs, i00, if_neg (show ¬ ¬ s = -1 from fun y => y hs)]
      exact t2.look rfl rfl
    · have hc0 := t2.hw.1.1
      obtain ⟨u1, u2, u3, u4, u5⟩ := s3 hs
      obtain ⟨T, hT⟩ : ∃ T : Nat, τ1 7 0 = (T : Int) := ⟨(τ1 7 0).toNat, by omega⟩
      obtain ⟨σ2, f1, f2, f3⟩ := c_fill t2 hT u1.1 u1.2 u2 hs
      have r2 : Rl σ2 τ1 k q d := t2.same (fun j i hj => by rw [f2 j (by unfold SC at hj; omega)]) (fun _ _ _ => rfl)
      have b2 : ByR σ2 τ1 L := ⟨t3.1, fun i hi => by rw [f2 65 (by decide)]; exact t3.2 i hi⟩
      obtain ⟨W, τ2, y1, y2, y3, y4⟩ := ways_loop r2 hT f3 b2 t4 hL.2.1 L 0 1 τ1 (by omega) (by decide) (fun _ _ => rfl) (fun _ y hy => by omega)
      have r3 : Rl σ2 τ2 k q d := r2.same (fun _ _ _ => rfl) (fun j i hj => by rw [y3 j (by unfold SM at hj; omega)])
      rw [if_neg hs, i10, t7', Option.bind_some, if_pos hs, f1, Option.bind_some]
      dsimp only
      rw [in10]
      have y1' : f_R_saying_35 σ2 (L : Int) 1 0 = f_R_saying_35 σ2 (L : Int) (W : Int) (L : Int) := y1
      have y2' : f_M_saying_38 τ1 t 1 0 = f_M_saying_38 τ2 t (W : Int) (L : Int) := y2
      have e03 : τ2 0 3 = (L : Int) := by rw [y3 0 (by decide)]; exact t4
      rw [y1', y2', e_R_saying_35, if_pos (show (L : Int) ≤ (L : Int) by omega), e_M_saying_38, if_pos (show τ2 0 3 ≤ (L : Int) by omega)]
      by_cases hW : W = 0
      · subst hW
        rw [if_pos (show zcmp ((0 : Nat) : Int) 0 ≤ 0 by decide), if_neg (show ¬ ¬ zcmp ((0 : Nat) : Int) 0 = 0 by decide)]
        exact r3.look rfl rfl
      · have hz : zcmp (W : Int) 0 = 1 := if_pos (by omega)
        rw [hz, if_neg (show ¬ (1 : Int) ≤ 0 by decide), in10]
        have b3 : ByR σ2 τ2 L := ⟨b2.1, fun i hi => by rw [y3 2 (by decide)]; exact b2.2 i hi⟩
        obtain ⟨σ3, c1, c2, c3, c4⟩ := c_first r3 (by rw [y3 7 (by decide)]; exact hT) b3 hL.2.1
        obtain ⟨τ3, m1, m2, m3⟩ := m_first (τ := zset τ2 0 27 (τ2 0 3)) (w := (W : Int)) (L := L) (by rw [zi (by decide)]; exact e03) hL.2.1 L 0 _ (by omega) (fun _ _ => rfl) (fun y hy => by omega)
        have m1' : f_M_saying_137 (zset τ2 0 27 (τ2 0 3)) (W : Int) 0 = some (τ3, (W : Int)) := m1
        rw [c1, Option.bind_some, m1']
        refine ⟨σ3, τ3, (W : Int), rfl, rfl, k, q, d, r3.misc (fun j i hj hj0 hj10 _ => c2 j i hj10 (by omega)) (fun j i hj hj0 hj26 _ => ?_) ?_⟩
        · rw [m2 j hj26]
          by_cases j0 : j = 0
          · subst j0; rw [zi (by omega)]
          · rw [zk j0]
        · have hm := r3.hM
          unfold MisR at hm ⊢
          obtain ⟨n1, n2, n3, n4, n5⟩ := hm
          have z0 : ∀ i, i ≠ 27 → τ3 0 i = τ2 0 i := fun i hi => by rw [m2 0 (by decide), zi hi]
          have s0 : ∀ j i, j ≠ 10 → ¬ (j = 0 ∧ i = 15) → σ3 j i = σ2 j i := c2
          refine ⟨by rw [s0 0 17 (by decide) (by decide), z0 15 (by decide)]; exact n1, ⟨L, hL.2.1, c3, by rw [m2 0 (by decide), zs, e03], fun i hi => ?_⟩, by rw [s0 0 16 (by decide) (by decide), z0 31 (by decide), z0 32 (by decide)]; exact n3, ?_, by rw [s0 7 0 (by decide) (by decide), s0 7 1 (by decide) (by decide)]; exact n5⟩
          · rw [c4 i hi, m3 i hi, zk (by decide), y4 hW i hi]
          · rw [s0 320 4 (by decide) (by decide), s0 320 5 (by decide) (by decide), s0 320 6 (by decide) (by decide), s0 320 7 (by decide) (by decide), s0 320 8 (by decide) (by decide), z0 35 (by decide), m2 35 (by decide), zk (by decide)]
            exact n4
end G33
