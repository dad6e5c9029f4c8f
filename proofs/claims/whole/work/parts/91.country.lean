/-! country, both sides -/
section G66
variable {σ τ σ' τ' σ1 τ1 : zH} {k q d L a n : Nat} {b : Nat → Int}
/-- a text begins to be read: the first token -/
theorem text_open {mx : Nat} (hm : mx ≤ 940) {σa τa : zH} (hT : TapR σ τ) (s64 : ∀ i, i = 1 → σa 64 i = σ 64 i) (s2 : σa 64 2 = (mx : Int)) (s3 : σa 64 3 = 0) (s9 : σa 64 9 = 0) (s65 : σa 65 = σ 65) (t2 : τa 2 = τ 2) (t3 : τa 0 3 = τ 0 2) (t4 : τa 0 4 = 0) (t5 : τa 0 5 = (mx : Int)) (t15 : τa 0 15 = 0) : ∃ (L a : Nat) (σ' τ' : zH), f_Tape_advance σa = some (σ', 0) ∧ f_M_next τa = some (τ', 0) ∧ FrC σa σ' ∧ FrM τa τ' ∧ PS σ' τ' L mx a ∧ L ≤ 940 := by
  obtain ⟨L, l1, l2, l3, l4⟩ := hT
  have hlex : LexR σa τa L mx := ⟨⟨l1, fun i hi => by rw [s65, t2]; exact l4 i hi⟩, by rw [s64 1 rfl]; exact l2, by rw [t3]; exact l3, s2, t5, hm⟩
  obtain ⟨σ', τ', a, p', h1, h2, h3, h4, h5, h6, h7⟩ := adv_both (p := 0) hlex (Nat.zero_le L) s3 t4
  exact ⟨L, a, σ', τ', h1, h2, h3, h4, ⟨h5, ⟨p', h6⟩, by rw [h3 64 9 (by unfold lxC; omega), h4 0 15 (by unfold lxM; omega), s9, t15]⟩, l1⟩
theorem q_country (h : Rl σ τ k q d) : Same (f_R_country σ) (f_M_country τ) := by
  have h0 := h.mark (v := 0)
  rw [e_M_country, e_R_country, e_Tape_open]
  generalize zset τ 0 0 0 = τ0 at h0 ⊢
  have hkk := h0.land.1
  have hqq := h0.rule.1
  unfold isLand at hkk
  unfold isRule at hqq
  have hkl : isLand (832 - k) := by unfold isLand; omega
  have hz11 : zio 1 (k : Int) = true := by rcases hkk with rfl | rfl <;> rfl
  have hz13 : zio 1 ((832 - k : Nat) : Int) = true := by rcases hkk with rfl | rfl <;> rfl
  -- the reference's row that is read into
  rw [e_M_taken, Option.bind_some]
  dsimp only
  generalize hτa : zset (zset (zset (zset (zset (zset τ0 0 3 (τ0 0 2)) 0 2 0) 0 4 0) 0 5 900) 0 15 0) 0 19 0 = τa
  have fa : ∀ j i, ¬ (j = 0 ∧ (i = 2 ∨ i = 3 ∨ i = 4 ∨ i = 5 ∨ i = 15 ∨ i = 19)) → τa j i = τ0 j i := fun j i hj => by
    rw [← hτa]
    by_cases j0 : j = 0
    · subst j0; rw [zi (by omega), zi (by omega), zi (by omega), zi (by omega), zi (by omega), zi (by omega)]
    · rw [zk j0, zk j0, zk j0, zk j0, zk j0, zk j0]
  have fa2 : τa 0 2 = 0 := by rw [← hτa, zi (by decide), zi (by decide), zi (by decide), zi (by decide), zs]
  have fa3 : τa 0 3 = τ0 0 2 := by rw [← hτa, zi (by decide), zi (by decide), zi (by decide), zi (by decide), zi (by decide), zs]
  have fa4 : τa 0 4 = 0 := by rw [← hτa, zi (by decide), zi (by decide), zi (by decide), zs]
  have fa5 : τa 0 5 = 900 := by rw [← hτa, zi (by decide), zi (by decide), zs]
  have fa15 : τa 0 15 = 0 := by rw [← hτa, zi (by decide), zs]
  have fa19 : τa 0 19 = 0 := by rw [← hτa, zs]
  clear hτa
  obtain ⟨τz, z1, z2, z3⟩ := m_ctry_0 (τ := τa) 288 0 τa rfl (fun _ _ => rfl) (fun y hy => absurd hy (Nat.not_lt_zero y))
  have z1' : f_M_country_24 τa 0 = (f_M_next τz).bind (fun r1 => f_M_country_48 r1.1) := z1
  generalize hσa : zset (zset (zset (zset σ 64 2 900) 64 3 0) 64 9 0) 64 10 0 = σa
  have ga : ∀ j i, ¬ (j = 64 ∧ (i = 2 ∨ i = 3 ∨ i = 9 ∨ i = 10)) → σa j i = σ j i := fun j i hj => by
    rw [← hσa]
    by_cases j0 : j = 64
    · subst j0; rw [zi (by omega), zi (by omega), zi (by omega), zi (by omega)]
    · rw [zk j0, zk j0, zk j0, zk j0]
  have ga2 : σa 64 2 = 900 := by rw [← hσa, zi (by decide), zi (by decide), zi (by decide), zs]
  have ga3 : σa 64 3 = 0 := by rw [← hσa, zi (by decide), zi (by decide), zs]
  have ga9 : σa 64 9 = 0 := by rw [← hσa, zi (by decide), zs]
  clear hσa
  obtain ⟨L, a, σ1, τ1, o1, o2, o3, o4, o5, hL⟩ := text_open (mx := 900) (σa := σa) (τa := τz) (by decide) h0.hT (fun i hi => ga 64 i (by omega)) ga2 ga3 ga9 (funext (fun i => ga 65 i (by omega))) (by rw [z2 2 (by decide)]; exact funext (fun i => fa 2 i (by omega))) (by rw [z2 0 (by decide)]; exact fa3) (by rw [z2 0 (by decide)]; exact fa4) (by rw [z2 0 (by decide)]; exact fa5) (by rw [z2 0 (by decide)]; exact fa15)
  have e13 : σ1 0 13 = ((832 - k : Nat) : Int) := by rw [o3.cell (by decide), ga 0 13 (by omega)]; exact h0.land.2.2
  rw [z1', o1, o2, Option.bind_some, Option.bind_some, Option.bind_some]
  dsimp only
  simp only [e13, hz13, if_true]
  rw [show Int.toNat ((832 - k : Nat) : Int) = 832 - k from rfl, e_CountryReader_readInto]
  have e321 : zset σ1 32 1 (Int.ofNat (832 - k)) 32 1 = ((832 - k : Nat) : Int) := zs
  simp only [e321, hz13, if_true]
  rw [show Int.toNat ((832 - k : Nat) : Int) = 832 - k from rfl, e_Country_clear, Option.bind_some]
  dsimp only
  generalize hk' : 832 - k = k' at *
  generalize hσ2 : zset (zset (zset (zset (zset (zset (zset (zset (zset σ1 32 1 (Int.ofNat k')) (k' + 32) 3 0) k' 13 0) k' 14 0) k' 15 0) k' 16 0) k' 17 0) k' 18 0) 32 2 0 = σ2
  have g2 : ∀ j i, ¬ (32 ≤ j ∧ j < 64) → ¬ (k' ≤ j ∧ j < k' + 64) → σ2 j i = σ1 j i := fun j i hj hk => by
    rw [← hσ2, zk (show j ≠ 32 by omega), zk (show j ≠ k' by omega), zk (show j ≠ k' by omega), zk (show j ≠ k' by omega), zk (show j ≠ k' by omega), zk (show j ≠ k' by omega), zk (show j ≠ k' by omega), zk (show j ≠ k' + 32 by omega), zk (show j ≠ 32 by omega)]
  have g321 : σ2 32 1 = (k' : Int) := by rw [← hσ2, zi (by decide), zk (by omega), zk (by omega), zk (by omega), zk (by omega), zk (by omega), zk (by omega), zk (by omega), zs]; rfl
  have g322 : σ2 32 2 = 0 := by rw [← hσ2, zs]
  have gk : σ2 k' 13 = 0 ∧ σ2 k' 14 = 0 ∧ σ2 k' 15 = 0 ∧ σ2 k' 16 = 0 ∧ σ2 k' 17 = 0 ∧ σ2 k' 18 = 0 := by
    rw [← hσ2, zk (show k' ≠ 32 by omega)]
    refine ⟨?_, ?_, ?_, ?_, ?_, ?_⟩
    · rw [zi (by decide), zi (by decide), zi (by decide), zi (by decide), zi (by decide), zs]
    · rw [zi (by decide), zi (by decide), zi (by decide), zi (by decide), zs]
    · rw [zi (by decide), zi (by decide), zi (by decide), zs]
    · rw [zi (by decide), zi (by decide), zs]
    · rw [zi (by decide), zs]
    · rw [zs]
  have gn : σ2 (k' + 32) 3 = 0 := by rw [← hσ2, zk (by omega), zk (by omega), zk (by omega), zk (by omega), zk (by omega), zk (by omega), zk (by omega), zs]
  clear hσ2
  have m8 : ∀ j, j < 288 → τ1 8 j = 0 := fun j hj => by rw [o4.cell (by decide)]; exact z3 j hj
  have cs : CS σ2 τ1 k' L a := by
    refine ⟨o5.fr (fun i _ => g2 64 i (by omega) (by omega)) (funext (fun i => g2 65 i (by omega) (by omega))) (fun _ _ => rfl) rfl, ⟨hkl, g321, ?_, ?_, ?_, ?_, ?_⟩, h0.hV.frame (by rw [o4.cell (by decide), z2 11 (by decide)]; exact funext (fun i => fa 11 i (by omega)))⟩
    · refine ⟨⟨by rw [gk.1, m8 0 (by omega)], by rw [gk.2.1, m8 1 (by omega)], by rw [gk.2.2.1, m8 2 (by omega)], by rw [gk.2.2.2.1, m8 3 (by omega)], by rw [gk.2.2.2.2.1, m8 4 (by omega)], by rw [gk.2.2.2.2.2, m8 5 (by omega)]⟩, fun t t0 t1 => ?_, fun t t0 t1 => ?_, fun t t0 t1 => ?_, fun t t0 t1 => ?_⟩
      · rw [m8 0 (by omega)] at t1; omega
      · rw [m8 1 (by omega)] at t1; omega
      · rw [m8 2 (by omega)] at t1; omega
      · rw [m8 4 (by omega)] at t1; omega
    · have v0 := m8 0 (by omega)
      have v1 := m8 1 (by omega)
      have v2 := m8 2 (by omega)
      have v3 := m8 3 (by omega)
      have v4 := m8 4 (by omega)
      have v5 := m8 5 (by omega)
      exact ⟨⟨by omega, by omega, by omega, by omega, by omega, by omega⟩, fun t t0 t1 => by omega, fun r r0 r1 => by omega, fun r j r0 r1 => by omega, ⟨fun q q0 q1 => by omega, fun q1 q2 p0 p1 p2 => by omega⟩, ⟨fun e e0 e1 => by omega, fun e f e0 e1 e2 => by omega, fun e t e0 e1 => by omega⟩, ⟨fun t t0 t1 => by omega, fun t m t0 t1 => by omega⟩⟩
    · refine ⟨0, fun _ => 0, fun _ => 0, by omega, gn, by rw [m8 0 (by omega), m8 1 (by omega), m8 2 (by omega), m8 4 (by omega)]; rfl, fun i hi => absurd hi (Nat.not_lt_zero i), fun s m hs hm => ?_, fun i j hi => absurd hi (Nat.not_lt_zero i)⟩
      exfalso
      unfold ncnt at hm
      rw [m8 0 (by omega), m8 1 (by omega), m8 2 (by omega), m8 4 (by omega)] at hm
      simp at hm
      omega
    · exact ⟨fun r r0 r1 => ⟨m8 _ (by omega), m8 _ (by omega)⟩, fun e t e0 e1 t0 t1 => m8 _ (by omega), fun t m t0 t1 m0 m1 => m8 _ (by omega)⟩
    · intro r r0 r1
      rw [m8 1 (by omega)] at r1
      omega
  have v0 := m8 0 (by omega)
  have t19 : τ1 0 19 = 0 := by rw [o4 0 19 (by unfold lxM; omega), z2 0 (by decide)]; exact fa19
  obtain ⟨σ3, τ3, p1, p2, p3⟩ := ctry_loop 941 0 σ2 τ1 a cs g322 t19 (by omega) (fun _ => by omega)
  have cst0 : ((0 : Nat) : Int) = 0 := rfl
  rw [cst0] at p3
  -- both heaps behind the reading
  have hσ3 : ∀ j i, ¬ (j = 64 ∧ 2 ≤ i) → ¬ (32 ≤ j ∧ j < 64) → ¬ (k' ≤ j ∧ j < k' + 64) → σ3 j i = σ j i := fun j i h1 h2 h3 => by
    rw [p1 j i (by omega) h2 h3, g2 j i h2 h3, o3 j i (by unfold lxC; omega), ga j i (by omega)]
  have hτ3 : ∀ j i, ¬ (j = 0 ∧ (2 ≤ i ∧ i ≤ 19)) → j ≠ 8 → ¬ (j = 10 ∧ 30 ≤ i) → τ3 j i = τ0 j i := fun j i h1 h2 h3 => by
    rw [p2 j i (by omega) h2 h3, o4 j i (by unfold lxM; omega), z2 j h2, fa j i (by omega)]
  have hτ32 : τ3 0 2 = 0 := by rw [p2 0 2 (by omega) (by omega) (by omega), o4 0 2 (by unfold lxM; omega), z2 0 (by decide)]; exact fa2
  -- the relation, nothing told yet
  have hR1 : ∀ v : Int, σ3 64 9 = τ3 0 15 → Rl (zset (zset σ3 0 17 (σ3 64 9)) 64 1 0) τ3 k q d := fun v hf => by
    refine h0.read (fun j i c1 c2 c3 c4 c5 => ?_) (fun j i c1 c2 => ?_) zs hτ32 (by rw [zk (by decide), zs]; exact hf)
    · rw [hk'] at c4
      have e1 : zset (zset σ3 0 17 (σ3 64 9)) 64 1 0 j i = zset σ3 0 17 (σ3 64 9) j i := by
        by_cases j0 : j = 64
        · subst j0; rw [zi (by omega)]
        · rw [zk j0]
      have e2 : zset σ3 0 17 (σ3 64 9) j i = σ3 j i := by
        by_cases j0 : j = 0
        · subst j0; rw [zi (by omega)]
        · rw [zk j0]
      rw [e1, e2]
      unfold SC at c1
      exact hσ3 j i (by omega) (by omega) c4
    · unfold SM at c1
      exact hτ3 j i (by omega) (by omega) (by omega)
  rcases p3 with ⟨p3, p4, p5, p6, p7, p8, p9, p10⟩ | ⟨p3, p4, p5⟩
  · -- it is told
    rw [p3, p4, Option.bind_some]
    dsimp only
    rw [in10]
    have hRl := hR1 0 p8
    generalize hS1 : zset (zset σ3 0 17 (σ3 64 9)) 64 1 0 = S1 at *
    have e11 : S1 0 11 = (k : Int) := hRl.land.2.1
    have e13' : S1 0 13 = (k' : Int) := by have := hRl.land.2.2; rw [hk'] at this; exact this
    have eS : ∀ j i, j ≠ 0 → j ≠ 64 → S1 j i = σ3 j i := fun j i j0 j6 => by rw [← hS1, zk j6, zk j0]
    simp only [e11, e13', hz11, hz13, if_true, Int.toNat_natCast]
    have e2a : zset (zset S1 0 11 (Int.ofNat k')) 0 13 (Int.ofNat k) 0 11 = (k' : Int) := by rw [zi (by decide), zs]; rfl
    simp only [e2a, hz13, if_true, Int.toNat_natCast]
    obtain ⟨c1, c2, c3, c4, c5, c6, c7⟩ := p5
    have cE := c4.1.2.2.1
    obtain ⟨E, hE⟩ : ∃ E : Nat, τ3 8 2 = (E : Int) := ⟨(τ3 8 2).toNat, by omega⟩
    have e15 : zset (zset S1 0 11 (Int.ofNat k')) 0 13 (Int.ofNat k) k' 15 = (E : Int) := by
      rw [zk (by omega), zk (by omega), eS _ _ (by omega) (by omega), c3.1.2.2.1, hE]
    rw [e15]
    obtain ⟨τ4, x1, x2, x3⟩ := m_ctry_s (τ := τ3) 2959 0 τ3 rfl (fun _ _ => rfl) (fun y hy => absurd hy (Nat.not_lt_zero y))
    have x1' : f_M_country_93 τ3 0 = f_M_country_131 τ4 0 := x1
    obtain ⟨τ5, y1, y2, y3⟩ := m_ctry_n (τ := τ4) 30 0 τ4 rfl (fun _ _ => rfl) (fun _ _ => rfl) (fun y hy => absurd hy (Nat.not_lt_zero y))
    have y1' : f_M_country_131 τ4 0 = some (zset τ5 0 23 0, τ4 0 19) := y1
    have r7 : zset τ5 0 23 0 7 = τ4 7 := by rw [zk (by decide), y2 7 (by decide)]
    have r7a : ∀ j, j < 288 → zset τ5 0 23 0 7 j = τ3 8 j := fun j hj => by rw [r7, x3 j (by omega), if_pos hj]
    have r7b : ∀ j, 288 ≤ j → j < 2959 → zset τ5 0 23 0 7 j = 0 := fun j j0 j1 => by rw [r7, x3 j j1, if_neg (by omega)]
    have wf : wfL (zset τ5 0 23 0 7) := wfL_congr r7a c4
    obtain ⟨σ4, s1, s2, s3⟩ := c_begin (σ := zset (zset S1 0 11 (Int.ofNat k')) 0 13 (Int.ofNat k)) (b := zset τ5 0 23 0 7) (E := E) (by omega) (by rw [r7a 2 (by omega)]; exact hE) wf (fun j j0 j1 => r7b j j0 (by omega))
    have e12 : σ4 0 12 = (q : Int) := by rw [s3 0 (by omega), zi (by decide), zi (by decide)]; exact hRl.rule.2.1
    have hz12 : zio 7 (q : Int) = true := by rcases hqq with rfl | rfl <;> rfl
    have j0f : ∀ j i, j ≠ 0 → zset (zset S1 0 11 (Int.ofNat k')) 0 13 (Int.ofNat k) j i = S1 j i := fun j i j0 => by rw [zk j0, zk j0]
    rw [s1, Option.bind_some, x1', y1']
    dsimp only
    simp only [e12, hz12, if_true, Int.toNat_natCast]
    rw [e_Sentence_clear, Option.bind_some, e_Acts_clear, Option.bind_some]
    dsimp only
    generalize hS5 : zset (zset (zset σ4 q 3 0) q 4 0) 160 1 0 = S5
    have f5 : ∀ j i, ¬ (96 ≤ j ∧ j ≤ 107) → ¬ (j = q ∧ (i = 3 ∨ i = 4)) → ¬ (j = 160 ∧ i = 1) → ¬ (j = 0 ∧ (i = 11 ∨ i = 13)) → S5 j i = S1 j i := fun j i d1 d2 d3 d4 => by
      have a1 : S5 j i = zset (zset σ4 q 3 0) q 4 0 j i := by
        rw [← hS5]
        by_cases j0 : j = 160
        · subst j0; rw [zi (by omega)]
        · rw [zk j0]
      have a2 : zset (zset σ4 q 3 0) q 4 0 j i = σ4 j i := by
        by_cases j0 : j = q
        · subst j0; rw [zi (by omega), zi (by omega)]
        · rw [zk j0, zk j0]
      rw [a1, a2, s3 j d1]
      by_cases j0 : j = 0
      · subst j0; rw [zi (by omega), zi (by omega)]
      · rw [zk j0, zk j0]
    have e322 : S5 32 2 = τ4 0 19 := by rw [f5 32 2 (by omega) (by omega) (by omega) (by omega), eS 32 2 (by omega) (by omega), p7, x2 0 (by decide)]
    rw [e322]
    have fs : ∀ j, 96 ≤ j → j ≤ 107 → S5 j = σ4 j := fun j d1 d2 => by rw [← hS5, zk (by omega), zk (by omega), zk (by omega)]
    have t5 : ∀ j i, ¬ (j = 0 ∧ (2 ≤ i ∧ i ≤ 19)) → j ≠ 8 → j ≠ 10 → j ≠ 7 → ¬ (j = 0 ∧ i = 23) → zset τ5 0 23 0 j i = τ0 j i := fun j i d1 d2 d3 d4 d5 => by
      have a1 : zset τ5 0 23 0 j i = τ5 j i := by
        by_cases j0 : j = 0
        · subst j0; rw [zi (by omega)]
        · rw [zk j0]
      rw [a1, y2 j d3, x2 j d4]
      exact hτ3 j i d1 d2 (by omega)
    have s3f : ∀ j i, j ≠ 0 → ¬ (j = 64) → ¬ (32 ≤ j ∧ j < 64) → ¬ (k' ≤ j ∧ j < k' + 64) → S1 j i = σ j i := fun j i d1 d2 d3 d4 => by rw [eS j i d1 d2]; exact hσ3 j i (by omega) d3 d4
    have kf : ∀ j, (160 < j ∧ j ≤ 300) ∨ 640 ≤ j ∨ j = 7 ∨ j = 10 ∨ j = 65 ∨ j = 320 → S5 j = σ j := fun j hj => funext (fun i => by rw [f5 j i (by omega) (by omega) (by omega) (by omega)]; exact s3f j i (by omega) (by omega) (by omega) (by omega))
    have tf : ∀ j, j = 2 ∨ j = 11 ∨ j = 22 ∨ j = 26 ∨ j = 35 ∨ 44 ≤ j → zset τ5 0 23 0 j = τ0 j := fun j hj => funext (fun i => t5 j i (by omega) (by omega) (by omega) (by omega) (by omega))
    have s0 : ∀ i, i < 11 ∨ i = 12 ∨ i = 14 ∨ i = 15 ∨ i = 16 → S5 0 i = σ 0 i := fun i hi => by
      rw [f5 0 i (by omega) (by omega) (by omega) (by omega), ← hS1, zk (by decide), zi (by omega)]
      exact hσ3 0 i (by omega) (by omega) (by omega)
    have t50 : ∀ i, 23 < i → zset τ5 0 23 0 0 i = τ0 0 i := fun i hi => t5 0 i (by omega) (by omega) (by omega) (by omega) (by omega)
    have t5i : ∀ i, i ≠ 23 → zset τ5 0 23 0 0 i = τ3 0 i := fun i hi => by rw [zi hi, y2 0 (by decide), x2 0 (by decide)]
    refine ⟨S5, _, _, rfl, rfl, k', q, 0, ⟨hkl, ?_, ?_⟩, ⟨h0.rule.1, ?_, ?_⟩, ?_, wf, ?_, ?_, fun e he => absurd he (Nat.not_lt_zero e), ?_, ?_, ?_, ?_, ?_, ?_, ?_⟩
    · rw [← hS5, zk (by omega), zk (by omega), zk (by omega), s3 0 (by omega), zi (by decide), zs]; rfl
    · rw [← hS5, zk (by omega), zk (by omega), zk (by omega), s3 0 (by omega), zs, show 832 - k' = k by omega]; rfl
    · rw [s0 12 (by omega)]; exact h0.rule.2.1
    · rw [s0 14 (by omega)]; exact h0.rule.2.2
    · exact LandR_congr r7a c4 (c3.frame (fun i hi => funext (fun x => by rw [f5 _ x (by omega) (by omega) (by omega) (by omega)]; exact eS _ x (by omega) (by omega))))
    · refine c5.gen (fun j j0 j1 => funext (fun x => by rw [f5 j x (by omega) (by omega) (by omega) (by omega)]; exact eS j x (by omega) (by omega))) (r7a 0 (by omega)) (r7a 1 (by omega)) (r7a 2 (by omega)) (r7a 4 (by omega)) (fun s m hs hm => ?_)
      have hlt : nbase s + m < 30 := by rcases nb_lt c4.1 hs hm with g | g | g | g <;> omega
      rw [zk (by decide), y3 _ hlt, x2 10 (by decide)]
    · exact s2.keepd wf (fun _ _ => rfl) (fun j j0 j1 => fs j j0 j1)
    · obtain ⟨nn, p, D, w1, w2, w3, w4, w5⟩ := h0.hA
      exact ⟨0, p, D, by omega, by rw [← hS5, zs]; rfl, by rw [zs]; rfl, ⟨fun i hi => by rw [kf 161 (by omega)]; exact w4.1 i hi, w4.2⟩, fun i hi => absurd hi (Nat.not_lt_zero i), fun i j _ hi => absurd hi (Nat.not_lt_zero i)⟩
    · refine ⟨0, by omega, ?_, ?_, fun i hi => absurd hi (Nat.not_lt_zero i)⟩
      · rw [f5 64 1 (by omega) (by omega) (by omega) (by omega), ← hS1, zs]; rfl
      · rw [t5i 2 (by decide), hτ32]; rfl
    · have := h0.hM
      unfold MisR at this ⊢
      rw [s0 15 (by omega), s0 16 (by omega), kf 7 (by omega), kf 10 (by omega), kf 320 (by omega), t50 27 (by omega), t50 31 (by omega), t50 32 (by omega), t50 35 (by omega), tf 26 (by omega), tf 35 (by omega)]
      refine ⟨?_, this.2⟩
      rw [f5 0 17 (by omega) (by omega) (by omega) (by omega), ← hS1, zk (by decide), zs, t5i 15 (by decide)]
      exact p8
    · have q3 : S5 q 3 = 0 := by rw [← hS5, zk (by omega), zi (by decide), zs]
      have q4 : S5 q 4 = 0 := by rw [← hS5, zk (by omega), zs]
      refine ⟨0, by omega, ?_, by rw [q3]; rfl, ⟨fun _ => rfl, fun _ => q4⟩, fun i hi => absurd hi (Nat.not_lt_zero i), fun i hi => ?_, fun hi => absurd hi (Nat.lt_irrefl 0)⟩
      · show zset τ5 0 23 0 7 (2778 + 0) = ((0 : Nat) : Int)
        rw [r7b _ (by omega) (by omega)]; rfl
      · have : i = 0 := by omega
        subst this
        show (0 : Int) ≤ 20
        decide
    · exact h0.hI.1.frame (fun j j0 j1 => kf j (by omega)) (tf 44 (by omega)) (tf 45 (by omega)) (tf 46 (by omega))
    · exact h0.hI.2.frame (fun j j0 j1 => kf j (by omega)) (tf 44 (by omega)) (tf 45 (by omega)) (tf 46 (by omega))
    · exact h0.hV.frame (tf 11 (by omega))
  · rw [p3, p4, Option.bind_some]
    dsimp only
    rw [in00]
    obtain ⟨pa, aa, pb, pc, pd⟩ := p5
    have e10 : zset (zset σ3 0 17 (σ3 64 9)) 64 1 0 64 10 = (aa : Int) := by rw [zi (by decide), zk (by decide)]; exact pc
    rw [e10, pd]
    exact ⟨_, _, _, rfl, rfl, k, q, d, hR1 0 pa⟩
end G66
