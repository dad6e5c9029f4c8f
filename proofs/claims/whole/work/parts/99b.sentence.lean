/-! sentence, both sides -/
section G75
variable {σ τ σ' τ' σ1 τ1 : zH} {k q d n o : Nat} {c b : Nat → Int}
theorem m_146_l (hn : n ≤ 40) (h37 : τ 0 37 = (n : Int)) : ∀ (r x : Nat) (σ : zH), x + r = 3 * n → (∀ j, j ≠ 7 → σ j = τ j) → (∀ y, y < 2779 ∨ 2779 + x ≤ y → σ 7 y = τ 7 y) → (∀ y, y < x → σ 7 (2779 + y) = τ 9 y) → ∃ σ', f_M_sentence_146 σ (x : Int) = some (σ', τ 0 38) ∧ (∀ j, j ≠ 7 → σ' j = τ j) ∧ (∀ y, y < 2779 → σ' 7 y = τ 7 y) ∧ ∀ y, y < 3 * n → σ' 7 (2779 + y) = τ 9 y
  | 0, x, σ, hx, g1, g2, g3 => by
    refine ⟨σ, ?_, g1, fun y hy => g2 y (Or.inl hy), fun y hy => g3 y (by omega)⟩
    rw [e_M_sentence_146, g1 0 (by decide), h37, w32_id (x := 3 * (n : Int)) (by omega) (by omega), if_pos (by omega)]
  | r + 1, x, σ, hx, g1, g2, g3 => by
    obtain ⟨σ', y1, y2⟩ := m_146_l hn h37 r (x + 1) (zset σ 7 (2779 + x) (σ 9 x)) (by omega) (fun j hj => by rw [zk hj]; exact g1 j hj) (fun y hy => by rw [zi (by omega)]; exact g2 y (by omega)) (fun y hy => by
      by_cases hyx : y = x
      · rw [hyx, zs, g1 9 (by decide)]
      · rw [zi (by omega)]; exact g3 y (by omega))
    refine ⟨σ', ?_, y2⟩
    rw [e_M_sentence_146, g1 0 (by decide), h37, w32_id (x := 3 * (n : Int)) (by omega) (by omega), if_neg (by omega), w32_id (x := 2779 + (x : Int)) (by omega) (by omega), if_pos (zin_t (by omega) (by omega)), if_pos (zin_t (by omega) (by omega)), w32_s (by omega), ← y1, show Int.toNat (2779 + (x : Int)) = 2779 + x by omega, show Int.toNat (x : Int) = x from rfl]
/-- another sentence is told, both sides -/
theorem Rl.rule' {S2 τ6 : zH} (h : Rl σ τ k q d) (hσ : ∀ j i, ¬ (j = 0 ∧ (i = 12 ∨ i = 14)) → S2 j i = σ j i) (h12 : S2 0 12 = ((1056 - q : Nat) : Int)) (h14 : S2 0 14 = (q : Int)) (hτ : ∀ j, j ≠ 7 → τ6 j = τ j) (h7 : ∀ j, j < 2778 → τ6 7 j = τ 7 j) (hR : RulR σ (1056 - q) (fun j => τ6 7 (2778 + j))) : Rl S2 τ6 k (1056 - q) d := by
  have hq := h.rule.1
  unfold isRule at hq
  have hk := h.land.1
  unfold isLand at hk
  have c : ∀ j, j ≠ 0 → S2 j = σ j := fun j hj => funext (fun i => hσ j i (by omega))
  have c0 : ∀ i, i ≠ 12 → i ≠ 14 → S2 0 i = σ 0 i := fun i h1 h2 => hσ 0 i (by omega)
  refine ⟨?_, ⟨by unfold isRule; omega, h12, by rw [h14, show 1056 - (1056 - q) = q by omega]⟩, ?_, ?_, ?_, ?_, fun f hf => ?_, ?_, ?_, ?_, ?_, ?_, ?_, ?_⟩
  · rw [c0 11 (by decide) (by decide), c0 13 (by decide) (by decide)]; exact h.land
  · exact LandR_congr (fun j hj => h7 j (by omega)) h.hw (h.hL.frame (fun i hi => c _ (by omega)))
  · exact wfL_congr (fun j hj => h7 j (by omega)) h.hw
  · exact h.hN.frame (fun j j0 j1 => c j (by omega)) (fun j hj => h7 j (by omega)) (fun j hj => by rw [hτ 10 (by decide)]) h.hw.1
  · exact h.hS.keepd h.hw h7 (fun j j0 j1 => c j (by omega))
  · have h4 := h.hw.1.2.2.2.2.1
    have hd4 := h.hS.1
    exact (h.hH f hf).congr (by rw [c _ (by decide)]) (h7 4 (by omega)) (fun t ht => by unfold wv; exact h7 _ (by omega))
  · obtain ⟨nn, p, D, w1, w2, w3, w4, w5, w6⟩ := h.hA
    have hrow : ∀ i j, j < 2778 → rwA τ6 i j = rwA τ i j := fun i j hj => by
      unfold rwA
      by_cases hj2 : 288 ≤ j ∧ j < 2778
      · rw [if_pos hj2, if_pos hj2, hτ 22 (by decide)]
      · rw [if_neg hj2, if_neg hj2, h7 j hj]
    refine ⟨nn, p, D, w1, by rw [c 160 (by decide)]; exact w2, by rw [hτ 0 (by decide)]; exact w3, ⟨fun i hi => by rw [c 161 (by decide)]; exact w4.1 i hi, w4.2⟩, fun i hi => ?_, w6⟩
    obtain ⟨g1, g2, g3⟩ := w5 i hi
    have hact := (w4.1 i (by omega)).2
    refine ⟨g1, g2.keepd (rwA_wf h.hw) (hrow i) (fun j j0 j1 => c j (by unfold isAct at hact; omega)), fun t d' t0 t1 hd' => ?_⟩
    have hd4 := g2.1
    have h9 := g3 t d' t0 t1 hd'
    unfold wv at h9 ⊢
    rw [hrow i _ (by omega), h7 _ (by omega)]
    exact h9
  · have := h.hT
    unfold TapR at this ⊢
    rw [c 64 (by decide), c 65 (by decide), hτ 0 (by decide), hτ 2 (by decide)]
    exact this
  · have := h.hM
    unfold MisR at this ⊢
    rw [c0 17 (by decide) (by decide), c0 15 (by decide) (by decide), c0 16 (by decide) (by decide), c 7 (by decide), c 10 (by decide), c 320 (by decide), hτ 0 (by decide), hτ 26 (by decide), hτ 35 (by decide)]
    exact this
  · exact hR.frame (fun j j0 j1 => c j (by omega))
  · exact h.hI.1.frame (fun j j0 j1 => c j (by omega)) (hτ 44 (by decide)) (hτ 45 (by decide)) (hτ 46 (by decide))
  · exact h.hI.2.frame (fun j j0 j1 => c j (by omega)) (hτ 44 (by decide)) (hτ 45 (by decide)) (hτ 46 (by decide))
  · exact h.hV.frame (hτ 11 (by decide))
theorem q_sentence (h : Rl σ τ k q d) : Same (f_R_sentence σ) (f_M_sentence τ) := by
  have h0 := h.mark (v := 0)
  rw [e_M_sentence, e_R_sentence, e_Tape_open]
  generalize zset τ 0 0 0 = τ0 at h0 ⊢
  have hkk := h0.land.1
  have hqq := h0.rule.1
  unfold isLand at hkk
  unfold isRule at hqq
  have hql : isRule (1056 - q) := by unfold isRule; omega
  have hz11 : zio 1 (k : Int) = true := by rcases hkk with rfl | rfl <;> rfl
  have hz12 : zio 7 (q : Int) = true := by rcases hqq with rfl | rfl <;> rfl
  have hz14 : zio 7 ((1056 - q : Nat) : Int) = true := by rcases hqq with rfl | rfl <;> rfl
  rw [e_M_taken, Option.bind_some]
  dsimp only
  generalize hτa : zset (zset (zset (zset (zset (zset (zset (zset (zset (zset τ0 0 3 (τ0 0 2)) 0 2 0) 0 4 0) 0 5 200) 0 15 0) 0 37 0) 0 38 0) 0 39 0) 0 40 1) 0 41 0 = τa
  have fa : ∀ j i, ¬ (j = 0 ∧ (i = 2 ∨ i = 3 ∨ i = 4 ∨ i = 5 ∨ i = 15 ∨ (37 ≤ i ∧ i ≤ 41))) → τa j i = τ0 j i := fun j i hj => by
    rw [← hτa]
    by_cases j0 : j = 0
    · subst j0; rw [zi (by omega), zi (by omega), zi (by omega), zi (by omega), zi (by omega), zi (by omega), zi (by omega), zi (by omega), zi (by omega), zi (by omega)]
    · rw [zk j0, zk j0, zk j0, zk j0, zk j0, zk j0, zk j0, zk j0, zk j0, zk j0]
  have fa2 : τa 0 2 = 0 := by rw [← hτa, zi (by decide), zi (by decide), zi (by decide), zi (by decide), zi (by decide), zi (by decide), zi (by decide), zi (by decide), zs]
  have fa3 : τa 0 3 = τ0 0 2 := by rw [← hτa, zi (by decide), zi (by decide), zi (by decide), zi (by decide), zi (by decide), zi (by decide), zi (by decide), zi (by decide), zi (by decide), zs]
  have fa4 : τa 0 4 = 0 := by rw [← hτa, zi (by decide), zi (by decide), zi (by decide), zi (by decide), zi (by decide), zi (by decide), zi (by decide), zs]
  have fa5 : τa 0 5 = 200 := by rw [← hτa, zi (by decide), zi (by decide), zi (by decide), zi (by decide), zi (by decide), zi (by decide), zs]
  have fa15 : τa 0 15 = 0 := by rw [← hτa, zi (by decide), zi (by decide), zi (by decide), zi (by decide), zi (by decide), zs]
  have fa37 : τa 0 37 = 0 := by rw [← hτa, zi (by decide), zi (by decide), zi (by decide), zi (by decide), zs]
  have fa38 : τa 0 38 = 0 := by rw [← hτa, zi (by decide), zi (by decide), zi (by decide), zs]
  have fa39 : τa 0 39 = 0 := by rw [← hτa, zi (by decide), zi (by decide), zs]
  have fa40 : τa 0 40 = 1 := by rw [← hτa, zi (by decide), zs]
  have fa41 : τa 0 41 = 0 := by rw [← hτa, zs]
  clear hτa
  generalize hσa : zset (zset (zset (zset σ 64 2 200) 64 3 0) 64 9 0) 64 10 0 = σa
  have ga : ∀ j i, ¬ (j = 64 ∧ (i = 2 ∨ i = 3 ∨ i = 9 ∨ i = 10)) → σa j i = σ j i := fun j i hj => by
    rw [← hσa]
    by_cases j0 : j = 64
    · subst j0; rw [zi (by omega), zi (by omega), zi (by omega), zi (by omega)]
    · rw [zk j0, zk j0, zk j0, zk j0]
  have ga2 : σa 64 2 = 200 := by rw [← hσa, zi (by decide), zi (by decide), zi (by decide), zs]
  have ga3 : σa 64 3 = 0 := by rw [← hσa, zi (by decide), zi (by decide), zs]
  have ga9 : σa 64 9 = 0 := by rw [← hσa, zi (by decide), zs]
  clear hσa
  obtain ⟨L, ax, σ1, τ1, o1, o2, o3, o4, o5, hL⟩ := text_open (mx := 200) (σa := σa) (τa := τa) (by decide) h0.hT (fun i hi => ga 64 i (by omega)) ga2 ga3 ga9 (funext (fun i => ga 65 i (by omega))) (funext (fun i => fa 2 i (by omega))) fa3 fa4 fa5 fa15
  have e11 : σ1 0 11 = (k : Int) := by rw [o3.cell (by decide), ga 0 11 (by omega)]; exact h0.land.2.1
  have e14 : σ1 0 14 = ((1056 - q : Nat) : Int) := by rw [o3.cell (by decide), ga 0 14 (by omega)]; exact h0.rule.2.2
  rw [o1, o2, Option.bind_some, Option.bind_some, Option.bind_some]
  dsimp only
  simp only [e11, e14, hz11, hz14, if_true, Int.toNat_natCast]
  rw [e_Sentence_readFrom, e_Sentence_clear, Option.bind_some]
  dsimp only
  generalize hq' : 1056 - q = q' at *
  have e7 : τ1 7 = τ0 7 := by rw [o4.cell (by decide)]; exact funext (fun i => fa 7 i (by omega))
  have t0 : ∀ i, 37 ≤ i → i ≤ 41 → τ1 0 i = τa 0 i := fun i h1 h2 => o4 0 i (by unfold lxM; omega)
  have hqr := hql
  unfold isRule at hqr
  generalize hσ2 : zset (zset σ1 q' 3 0) q' 4 0 = σ2
  have g2 : ∀ j i, ¬ (j = q') → σ2 j i = σ1 j i := fun j i hj => by rw [← hσ2, zk hj, zk hj]
  have g3 : σ2 q' 3 = 0 := by rw [← hσ2, zi (by decide), zs]
  have g4 : σ2 q' 4 = 0 := by rw [← hσ2, zs]
  clear hσ2
  have bs : BS (τ0 7) q' k L ax σ2 τ1 := by
    refine ⟨o5.fr (fun i _ => g2 64 i (by omega)) (funext (fun i => g2 65 i (by omega))) (fun _ _ => rfl) rfl, h0.hV.frame (by rw [o4.cell (by decide)]; exact funext (fun i => fa 11 i (by omega))), h0.hw.1, ?_, e7, h0.land.1, hql⟩
    refine (nam0 h0.hN).gen (fun j j0 j1 => funext (fun i => ?_)) rfl rfl rfl rfl (fun s m _ _ => ?_)
    · rw [g2 j i (by omega), o3.cell (by omega), ga j i (by omega)]
    · rw [o4.cell (by decide)]; exact fa 10 _ (by omega)
  have ns : NS σ2 τ1 q' 0 0 0 0 0 0 (1 + 0) (fun _ => 0) := ⟨g4, by rw [t0 38 (by omega) (by omega)]; exact fa38, by omega, ⟨Nat.le_refl 0, g3, by rw [t0 37 (by omega) (by omega)]; exact fa37, fun i hi => absurd hi (Nat.not_lt_zero i), fun i hi => absurd hi (Nat.not_lt_zero i), fun i hi => by
    have : i = 0 := by omega
    subst this
    show (0 : Int) ≤ 20
    decide, fun i i0 i1 => by omega⟩, rfl, by omega, by omega, by rw [t0 39 (by omega) (by omega)]; exact fa39, by rw [t0 41 (by omega) (by omega)]; exact fa41, by rw [t0 40 (by omega) (by omega)]; exact fa40, by omega⟩
  obtain ⟨σ3, τ3, r, p1, p2, p3, p4⟩ := (parts_all 8 0 rfl).2.2 (τ0 7) q' k L ax 0 0 0 0 (fun _ => 0) σ2 τ1 bs ns (Or.inl rfl)
  have p1' : f_Sentence_readCond σ2 q' (k + 32) 0 = some (σ3, r) := p1
  rw [p1', Option.bind_some]
  dsimp only
  have hfs : f_M_sentence_48 τ1 1 = fS τ1 := rfl
  rw [hfs]
  -- both heaps behind the reading, wherever it ended
  have hR1 : ∀ (σ4 τ4 : zH), FsC q' σ2 σ4 → FsM τ1 τ4 → σ4 64 9 = τ4 0 15 → Rl (zset (zset σ4 0 17 (σ4 64 9)) 64 1 0) τ4 k q d := fun σ4 τ4 fC fM hf => by
    refine h0.read (fun j i c1 c2 c3 c4 c5 => ?_) (fun j i c1 c2 => ?_) zs ?_ (by rw [zk (by decide), zs]; exact hf)
    · have e1 : zset (zset σ4 0 17 (σ4 64 9)) 64 1 0 j i = zset σ4 0 17 (σ4 64 9) j i := by
        by_cases j0 : j = 64
        · subst j0; rw [zi (by omega)]
        · rw [zk j0]
      have e2 : zset σ4 0 17 (σ4 64 9) j i = σ4 j i := by
        by_cases j0 : j = 0
        · subst j0; rw [zi (by omega)]
        · rw [zk j0]
      rw [e1, e2]
      rw [hq'] at c5
      unfold SC at c1
      rw [fC j i (by omega) (by omega), g2 j i (by omega), o3 j i (by unfold lxC; omega), ga j i (by omega)]
    · unfold SM at c1
      rw [fM j i (by omega) (by omega) (by omega), o4 j i (by unfold lxM; omega), fa j i (by omega)]
    · rw [fM 0 2 (by omega) (by decide) (by decide), o4 0 2 (by unfold lxM; omega)]; exact fa2
  have hfail : ∀ (σ4 τ4 : zH), FsC q' σ2 σ4 → FsM τ1 τ4 → Flt σ4 τ4 → Same (some (zset (zset σ4 0 17 (σ4 64 9)) 64 1 0, w32 (-1 - (zset (zset σ4 0 17 (σ4 64 9)) 64 1 0 64 10)))) (some (τ4, w32 (-1 - (τ4 0 16)))) := fun σ4 τ4 fC fM hfl => by
    obtain ⟨pa, aa, pb, pc, pd⟩ := hfl
    have e10 : zset (zset σ4 0 17 (σ4 64 9)) 64 1 0 64 10 = (aa : Int) := by rw [zi (by decide), zk (by decide)]; exact pc
    rw [e10, pd]
    exact ⟨_, _, _, rfl, rfl, k, q, d, hR1 σ4 τ4 fC fM pa⟩
  rcases p4 with ⟨rfl, p4, p5⟩ | ⟨rfl, p4, p5⟩
  · obtain ⟨ax3, m', p, r, o', c', b4, N4, pp, rr, p2', r2', s4, oo, l4, k18, k17⟩ := p5
    obtain ⟨nt, τ4, jn, N5, fk⟩ := cond_top (B := 0) N4 pp rr p2' r2' (Or.inl rfl)
    have e41 : τ3 0 41 = 1 := N4.2.2.2.2.2.2.2.2.1
    have b5 : BS (τ0 7) q' k L ax3 σ3 τ4 := b4.fr (fun _ _ _ => rfl) (fun j' i h1 h2 h3 => fk j' i (by omega) h2)
    have e39 : τ4 0 39 = 0 := N5.2.2.2.2.2.2.2.1
    obtain ⟨σc, τc, cc1, cc2, cc3⟩ := bad_both b5.1 1
    rw [in10, p4]
    by_cases hT3 : τ3 0 11 = 0
    · have hk3 : σ3 64 4 = 0 := by
        rcases b4.1.tok with ⟨t1, t2, t3⟩ | ⟨t1, t2, t3⟩ | ⟨t1, t2, t3⟩ | ⟨t1, t2, t3⟩ | ⟨t1, t2, t3, t4⟩
        · exact t1
        · exfalso; omega
        · exfalso; omega
        · exfalso; omega
        · exfalso; omega
      have hF3 := F_end e41 hT3
      rw [nt, Option.bind_some] at hF3
      dsimp only at hF3
      rw [jn, Option.bind_some] at hF3
      dsimp only at hF3
      rw [if_pos (show τ4 0 39 ≤ 0 by omega), e_M_sentence_48, if_pos rfl] at hF3
      have e37 := N5.2.2.2.1.2.2.1
      have o20 := N5.2.2.1
      have nD := N5.2.2.2.2.2.1
      generalize hn : m' + p + r = n' at *
      obtain ⟨τ6, y1, y2, y3, y4⟩ := m_146_l (τ := zset τ4 7 2778 (τ4 0 37)) (n := n') (by omega) (by rw [zk (by decide)]; exact e37) (3 * n') 0 _ (by omega) (fun _ _ => rfl) (fun _ _ => rfl) (fun y hy => absurd hy (Nat.not_lt_zero y))
      have y1' : f_M_sentence_146 (zset τ4 7 2778 (τ4 0 37)) 0 = some (τ6, zset τ4 7 2778 (τ4 0 37) 0 38) := y1
      rw [hF3, y1', if_pos hk3, Option.bind_some]
      dsimp only
      rw [in10]
      have hRl := hR1 σ3 τ4 p2 (p3.trans fk.s) b5.1.flt
      have q4 : σ3 q' 4 = (o' : Int) := N4.1
      have m38 : zset τ4 7 2778 (τ4 0 37) 0 38 = (o' : Int) := by rw [zk (by decide)]; exact N5.2.1
      generalize hS1 : zset (zset σ3 0 17 (σ3 64 9)) 64 1 0 = S1 at *
      have s12 : S1 0 12 = (q : Int) := hRl.rule.2.1
      have s14 : S1 0 14 = (q' : Int) := by have := hRl.rule.2.2; rw [hq'] at this; exact this
      have eS : ∀ j i, j ≠ 0 → j ≠ 64 → S1 j i = σ3 j i := fun j i j0 j6 => by rw [← hS1, zk j6, zk j0]
      simp only [s12, s14, hz12, hz14, if_true, Int.toNat_natCast]
      have e2a : zset (zset S1 0 12 (Int.ofNat q')) 0 14 (Int.ofNat q) 0 12 = (q' : Int) := by rw [zi (by decide), zs]; rfl
      simp only [e2a, hz14, if_true, Int.toNat_natCast]
      have e4 : zset (zset S1 0 12 (Int.ofNat q')) 0 14 (Int.ofNat q) q' 4 = (o' : Int) := by rw [zk (by omega), zk (by omega), eS q' 4 (by omega) (by omega)]; exact q4
      rw [e4, m38]
      -- the row's codes
      obtain ⟨u1, u2, u3, u4, u5, u6, u7⟩ := N5.2.2.2.1
      have hdep := N5.2.2.2.2.1
      have cf : ∀ i, i < n' → τ6 7 (2778 + (1 + 3 * i)) = c' (1 + 3 * i) ∧ τ6 7 (2778 + (2 + 3 * i)) = c' (2 + 3 * i) ∧ τ6 7 (2778 + (3 + 3 * i)) = c' (3 + 3 * i) := fun i hi => by
        obtain ⟨v1, v2, v3⟩ := u5 i hi
        have w1 := y4 (3 * i) (by omega)
        have w2 := y4 (3 * i + 1) (by omega)
        have w3 := y4 (3 * i + 2) (by omega)
        rw [zk (by decide)] at w1 w2 w3
        rw [show 2778 + (1 + 3 * i) = 2779 + 3 * i by omega, show 2778 + (2 + 3 * i) = 2779 + (3 * i + 1) by omega, show 2778 + (3 + 3 * i) = 2779 + (3 * i + 2) by omega, w1, w2, w3]
        exact ⟨v1, v2, v3⟩
      have c0 : τ6 7 (2778 + 0) = (n' : Int) := by rw [y3 _ (by omega), zs]; exact e37
      have hd' : ∀ i, i ≤ n' → dep (fun j => τ6 7 (2778 + j)) i = dep c' i := fun i hi => dep_cg i (fun x hx => (cf x (by omega)).1)
      have hn1 : 1 ≤ n' := by
        by_cases hn0 : n' = 0
        · exfalso
          rw [hn0] at hdep
          have : (0 : Int) = ((0 + 1 : Nat) : Int) := hdep
          omega
        · omega
      refine ⟨_, _, _, rfl, rfl, k, q', d, ?_⟩
      have hru := Rl.rule' (S2 := zset (zset S1 0 12 (Int.ofNat q')) 0 14 (Int.ofNat q)) (τ6 := τ6) hRl (fun j i hj => by
        by_cases j0 : j = 0
        · subst j0; rw [zi (by omega), zi (by omega)]
        · rw [zk j0, zk j0]) (by rw [hq']; exact e2a) (by rw [zs]; rfl) (fun j hj => by rw [y2 j hj, zk hj]) (fun j hj => by rw [y3 j (by omega), zi (by omega)]) (by
        rw [hq']
        refine ⟨n', by omega, c0, by rw [eS q' 3 (by omega) (by omega)]; exact u2, ?_, fun i hi => ?_, fun i hi => by rw [hd' i hi]; exact u6 i hi, fun _ => by rw [hd' n' (Nat.le_refl _), hdep]; rfl⟩
        · rw [eS q' 4 (by omega) (by omega), q4]; omega
        · obtain ⟨v0, v1, v2, v3⟩ := u4 i hi
          obtain ⟨w1, w2, w3⟩ := cf i hi
          refine ⟨?_, ?_, ?_, ?_⟩
          · unfold CodR at v0 ⊢
            rw [hd' i (by omega)]
            dsimp only
            rw [w1, w2]
            exact v0
          · rw [eS (q' + 1) i (by omega) (by omega)]
            dsimp only
            rw [w1]; exact v1
          · rw [eS (q' + 2) i (by omega) (by omega)]
            dsimp only
            rw [w2]; exact v2
          · rw [eS (q' + 3) i (by omega) (by omega)]
            dsimp only
            rw [w3]; exact v3)
      rw [hq'] at hru
      exact hru
    · have hk3 : ¬ σ3 64 4 = 0 := by
        rcases b4.1.tok with ⟨t1, t2, t3⟩ | ⟨t1, t2, t3⟩ | ⟨t1, t2, t3⟩ | ⟨t1, t2, t3⟩ | ⟨t1, t2, t3, t4⟩ <;> omega
      have hF3 := F_bh e41 hT3
      have w18 : f_M_isWord τ3 6385252 = some (τ3, if σ3 64 6 = 18 then 1 else 0) := m_isWord (i := 18) (by decide) b4.1.tok
      have w17 : f_M_isWord τ3 28530 = some (τ3, if σ3 64 6 = 17 then 1 else 0) := m_isWord (i := 17) (by decide) b4.1.tok
      rw [e_M_behind1, nt, Option.bind_some] at hF3
      dsimp only at hF3
      rw [w18, if_neg k18, Option.bind_some] at hF3
      dsimp only at hF3
      rw [in00, w17, if_neg k17, Option.bind_some] at hF3
      dsimp only at hF3
      rw [i00, jn, Option.bind_some] at hF3
      dsimp only at hF3
      rw [m_isSign (by decide) b5.1.tok, Option.bind_some] at hF3
      dsimp only at hF3
      have hF4 : fS τ3 = some (τc, w32 (-1 - (τc 0 16))) := by
        rw [hF3]
        by_cases hk4 : σ3 64 4 = 41
        · rw [if_pos hk4, if_neg (show ¬ (1 : Int) = 0 by decide), if_neg (show ¬ ¬ τ4 0 39 = 0 by omega), cc2]
          rfl
        · rw [if_neg hk4, i00, cc2]
          rfl
      rw [hF4, if_neg hk3, cc1, Option.bind_some]
      dsimp only
      rw [if_pos (show (0 : Int) = 0 from rfl), Option.bind_some]
      dsimp only
      rw [in00]
      exact hfail σc τc (p2.trans cc3.1.s) ((p3.trans fk.s).trans cc3.2.1.s) cc3.2.2
  · rw [p4, in00, Option.bind_some]
    dsimp only
    rw [in00]
    exact hfail σ3 τ3 p2 p3 p5
end G75
