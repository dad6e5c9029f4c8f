/-! daybook, both sides -/
section G70
variable {σ τ σ' τ' σ1 τ1 : zH} {k q d e L n ax : Nat} {a : Nat → Int}
theorem book_loop : ∀ (r n : Nat) (σ τ : zH) (ax : Nat), n + r = 30 → DS a k L ax n n σ τ → ∃ σ' τ', FdC σ σ' ∧ FdM τ τ' ∧ ((f_Daybook_readFrom_7 σ (k + 32) (n : Int) = some (σ', 1) ∧ (∀ x, f_M_daybook_39 τ x = (f_M_tries τ').bind (fun r1 => f_M_daybook_89 r1.1 x 0)) ∧ ∃ n' ax', DS a k L ax' n' n' σ' τ') ∨ (f_Daybook_readFrom_7 σ (k + 32) (n : Int) = some (σ', 0) ∧ (∀ x, f_M_daybook_39 τ x = some (τ', w32 (-2 - (τ' 0 16)))) ∧ Flt σ' τ')) := by
  intro r
  induction r with
  | zero =>
    intro n σ τ ax hn h
    have hT0 : σ 64 4 = 0 ↔ τ 0 11 = 0 := by
      rcases h.1.tok with ⟨t1, t2, t3⟩ | ⟨t1, t2, t3⟩ | ⟨t1, t2, t3⟩ | ⟨t1, t2, t3⟩ | ⟨t1, t2, t3, t4⟩ <;> omega
    rw [e_Daybook_readFrom_7, if_neg (show ¬ (30 : Int) < (n : Int) by omega)]
    by_cases hK : σ 64 4 = 0
    · rw [if_neg (fun x => x hK)]
      exact ⟨σ, τ, FdC.refl, FdM.refl, Or.inl ⟨rfl, fun x => by rw [e_M_daybook_39, if_pos (hT0.mp hK)], n, ax, h⟩⟩
    · have hT : ¬ τ 0 11 = 0 := fun x => hK (hT0.mpr x)
      obtain ⟨σ1, τ1, x, y1, y2, y3, y4, y5⟩ := bk_line h
      rcases y5 with ⟨rfl, hlt, -⟩ | ⟨rfl, y5⟩
      · omega
      · rw [if_pos hK, y1, Option.bind_some]
        dsimp only
        rw [if_pos rfl]
        exact ⟨σ1, τ1, y3, y4, Or.inr ⟨rfl, fun x => by rw [e_M_daybook_39, if_neg hT, y2, Option.bind_some]; exact if_pos rfl, y5⟩⟩
  | succ r ih =>
    intro n σ τ ax hn h
    have hT0 : σ 64 4 = 0 ↔ τ 0 11 = 0 := by
      rcases h.1.tok with ⟨t1, t2, t3⟩ | ⟨t1, t2, t3⟩ | ⟨t1, t2, t3⟩ | ⟨t1, t2, t3⟩ | ⟨t1, t2, t3, t4⟩ <;> omega
    rw [e_Daybook_readFrom_7, if_neg (show ¬ (30 : Int) < (n : Int) by omega)]
    by_cases hK : σ 64 4 = 0
    · rw [if_neg (fun x => x hK)]
      exact ⟨σ, τ, FdC.refl, FdM.refl, Or.inl ⟨rfl, fun x => by rw [e_M_daybook_39, if_pos (hT0.mp hK)], n, ax, h⟩⟩
    · have hT : ¬ τ 0 11 = 0 := fun x => hK (hT0.mpr x)
      obtain ⟨σ1, τ1, x, y1, y2, y3, y4, y5⟩ := bk_line h
      rw [if_pos hK, y1, Option.bind_some]
      dsimp only
      rcases y5 with ⟨rfl, hlt, a1, y5⟩ | ⟨rfl, y5⟩
      · rw [if_neg (show ¬ (1 : Int) = 0 by decide)]
        rcases sig_both (c := 59) (by decide) y5.1 with ⟨σ2, τ2, a2, p1, p2, p3, p4, p5, p6⟩ | ⟨σ2, τ2, p1, p2, p3⟩
        · have s2 : DS a k L a2 (n + 1) n σ2 τ2 := y5.mv p5 (fun j i h1 h2 => p3.w j i h1) (fun j i h1 h2 => p4.w j i h1)
          have e33 := s2.2.2.2.2.2.2.2.1
          have s3 : DS a k L a2 (n + 1) (n + 1) σ2 (zset τ2 0 33 ((n + 1 : Nat) : Int)) := by
            obtain ⟨h1, h2, h3, h4, h5, h6, h7, h8, h9, h10⟩ := s2
            refine ⟨h1.fr (fun _ _ => rfl) rfl (fun i hi => zi (by omega)) (zk (by decide)), h2.frame (zk (by decide)), h3, h4.gen (fun _ _ _ => rfl) rfl rfl rfl rfl (fun _ _ _ _ => by rw [zk (by decide)]), by rw [zk (by decide)]; exact h5, h6, h7, zs, h9, fun i hi => ?_⟩
            have := h10 i hi
            unfold BkE at this ⊢
            rw [zk (show (9 : Nat) ≠ 0 by decide)]
            exact this
          obtain ⟨σ3, τ3, q1, q2, q3⟩ := ih (n + 1) σ2 _ a2 (by omega) s3
          have g33 : FdM τ2 (zset τ2 0 33 ((n + 1 : Nat) : Int)) := fun j i h1 h2 => by
            by_cases j0 : j = 0
            · subst j0; rw [zi (by omega)]
            · rw [zk j0]
          have hM : ∀ x, f_M_daybook_39 τ x = f_M_daybook_39 (zset τ2 0 33 ((n + 1 : Nat) : Int)) x := fun x => by
            rw [e_M_daybook_39 τ, if_neg hT, y2, Option.bind_some]
            dsimp only
            rw [if_neg (show ¬ (1 : Int) = 0 by decide), p2, Option.bind_some]
            dsimp only
            rw [in10, e33, w32_s (by omega)]
          rw [p1, Option.bind_some]
          dsimp only
          rw [in10, w32_s (by omega)]
          refine ⟨σ3, τ3, (y3.trans p3.w.d).trans q1, ((y4.trans p4.w.d).trans g33).trans q2, ?_⟩
          rcases q3 with ⟨q3, q4, q5⟩ | ⟨q3, q4, q5⟩
          · exact Or.inl ⟨q3, fun x => by rw [hM x]; exact q4 x, q5⟩
          · exact Or.inr ⟨q3, fun x => by rw [hM x]; exact q4 x, q5⟩
        · rw [p1, Option.bind_some]
          dsimp only
          rw [in00]
          refine ⟨σ2, τ2, y3.trans p3.1.d, y4.trans p3.2.1.d, Or.inr ⟨rfl, fun x => ?_, p3.2.2⟩⟩
          rw [e_M_daybook_39 τ, if_neg hT, y2, Option.bind_some]
          dsimp only
          rw [if_neg (show ¬ (1 : Int) = 0 by decide), p2, Option.bind_some]
          dsimp only
          rw [in00]
      · rw [if_pos rfl]
        exact ⟨σ1, τ1, y3, y4, Or.inr ⟨rfl, fun x => by rw [e_M_daybook_39, if_neg hT, y2, Option.bind_some]; exact if_pos rfl, y5⟩⟩
/-- what is told of a daybook behind its judging, both sides -/
def bkC (σ : zH) (ks : Nat) (C : Int) : zH := zset (zset (zset σ 320 7 (σ ks 12)) 320 8 (w32 (σ ks 14 - C))) 320 4 1
def bkM (τ : zH) (C : Int) : zH := zset (zset (zset τ 35 2 (τ 7 288)) 35 3 (w32 (τ 7 289 - C))) 0 35 1
theorem c_judge_end {ks : Nat} {C : Int} (hks : ks = 96 ∨ ks = 128) : f_Daybook_judge_69 σ ks C = some (bkC σ ks C, if ¬ σ 320 5 = 0 then σ 320 6 else -1) := by
  have e14 : zset σ 320 7 (σ ks 12) ks 14 = σ ks 14 := by rw [zk (by omega)]
  have e5 : bkC σ ks C 320 5 = σ 320 5 := by unfold bkC; rw [zi (by decide), zi (by decide), zi (by decide)]
  have e6 : bkC σ ks C 320 6 = σ 320 6 := by unfold bkC; rw [zi (by decide), zi (by decide), zi (by decide)]
  rw [e_Daybook_judge_69]
  simp only [e14]
  show (if ¬ bkC σ ks C 320 5 = 0 then some (bkC σ ks C, bkC σ ks C 320 6) else some (bkC σ ks C, -1)) = _
  rw [e5, e6]
  by_cases h5 : σ 320 5 = 0
  · rw [if_neg (fun x => x h5), if_neg (fun x => x h5)]
  · rw [if_pos h5, if_pos h5]
theorem m_judge_end {x C w : Int} : f_M_daybook_179 τ x C w = if ¬ x = 1 then (if ¬ x = 0 then some (bkM τ C, w) else (f_M_back (bkM τ C)).bind fun r1 => some (r1.1, w)) else (if τ 35 1 ≤ 0 then (if ¬ x = 0 then some (bkM τ C, w) else (f_M_back (bkM τ C)).bind fun r2 => some (r2.1, w)) else (f_M_keep (bkM τ C)).bind fun r3 => f_M_daybook_235 r3.1 x w 0) := by
  have e7 : zset τ 35 2 (τ 7 288) 7 289 = τ 7 289 := by rw [zk (by decide)]
  have e1 : bkM τ C 35 1 = τ 35 1 := by unfold bkM; rw [zk (by decide), zi (by decide), zi (by decide)]
  rw [e_M_daybook_179]
  simp only [e7]
  rw [← e1]
  rfl
theorem bkC_i {ks j i : Nat} {C : Int} (h : ¬ (j = 320 ∧ (i = 4 ∨ i = 7 ∨ i = 8))) : bkC σ ks C j i = σ j i := by
  unfold bkC
  by_cases j0 : j = 320
  · subst j0; rw [zi (by omega), zi (by omega), zi (by omega)]
  · rw [zk j0, zk j0, zk j0]
theorem bkM_i {j i : Nat} {C : Int} (h : ¬ (j = 35 ∧ (i = 2 ∨ i = 3))) (h0 : ¬ (j = 0 ∧ i = 35)) : bkM τ C j i = τ j i := by
  unfold bkM
  by_cases j0 : j = 0
  · subst j0; rw [zi (by omega), zk (by decide), zk (by decide)]
  · rw [zk j0]
    by_cases j5 : j = 35
    · subst j5; rw [zi (by omega), zi (by omega)]
    · rw [zk j5, zk j5]
theorem m_book0 {x : Int} : ∃ τ', f_M_daybook_89 τ x 0 = f_M_daybook_121 τ' x (τ' 7 289) (-1) 0 ∧ (∀ j, j ≠ 35 → τ' j = τ j) ∧ τ' 35 0 = 0 ∧ τ' 35 1 = 0 := by
  refine ⟨zset (zset (zset (zset τ 35 0 0) 35 1 0) 35 2 0) 35 3 0, ?_, fun j hj => by rw [zk hj, zk hj, zk hj, zk hj], by rw [zi (by decide), zi (by decide), zi (by decide), zs], by rw [zi (by decide), zi (by decide), zs]⟩
  rw [e_M_daybook_89, if_neg (by decide), if_pos (by decide), w32_id (x := 0 + 1) (by decide) (by decide), e_M_daybook_89, if_neg (by decide), if_pos (by decide), w32_id (x := 0 + 1 + 1) (by decide) (by decide), e_M_daybook_89, if_neg (by decide), if_pos (by decide), w32_id (x := 0 + 1 + 1 + 1) (by decide) (by decide), e_M_daybook_89, if_neg (by decide), if_pos (by decide), w32_id (x := 0 + 1 + 1 + 1 + 1) (by decide) (by decide), e_M_daybook_89, if_pos (by decide)]
  rfl
/-- both heaps behind the judging: what is told of the daybook is alike -/
theorem bk_mis {ks : Nat} {C : Int} (hks : ks = 96 ∨ ks = 128) {σ6 τ6 : zH} (hS : StrR σ6 ks (τ6 7) e) (h5 : σ6 320 5 = τ6 35 0) (h6 : σ6 320 6 = τ6 35 1) : bkC σ6 ks C 320 4 = 1 ∧ bkM τ6 C 0 35 = 1 ∧ bkC σ6 ks C 320 5 = bkM τ6 C 35 0 ∧ bkC σ6 ks C 320 6 = bkM τ6 C 35 1 ∧ bkC σ6 ks C 320 7 = bkM τ6 C 35 2 ∧ bkC σ6 ks C 320 8 = bkM τ6 C 35 3 := by
  refine ⟨zs, zs, by rw [bkC_i (by omega), bkM_i (by omega) (by omega)]; exact h5, by rw [bkC_i (by omega), bkM_i (by omega) (by omega)]; exact h6, ?_, ?_⟩
  · unfold bkC bkM
    rw [zi (by decide), zi (by decide), zs, zk (by decide), zi (by decide), zs, hS.2.2.1, hS.2.1]
  · unfold bkC bkM
    rw [zi (by decide), zs, zk (by decide), zs, hS.2.2.2.2.1.1]
theorem q_book_judge (h : Rl σ τ k q d) {x : Int} (hx : x = 0 ∨ x = 1) {n : Nat} (hn : n ≤ 30) (h3 : σ 320 3 = (n : Int)) (h33 : τ 0 33 = (n : Int)) (hE : ∀ y, y < n → BkE (τ 7) σ τ y) :
    Same ((f_Stream_copyFrom σ 128 96).bind fun r3 =>
          if ¬ x = 0 then
            if zio 1 (r3.1 0 11) = true then
              (f_Daybook_judge r3.1 (Int.toNat (r3.1 0 11)) 96).bind fun r4 =>
              if (r4.1 320 6) ≤ 0 then
                some (r4.1, r4.2)
              else
                (f_Acts_keep r4.1 128).bind fun r5 =>
                some (r5.1, r4.2)
            else none
          else
            if zio 1 (r3.1 0 11) = true then
              (f_Daybook_judge r3.1 (Int.toNat (r3.1 0 11)) 128).bind fun r6 =>
              some (r6.1, r6.2)
            else none) ((f_M_tries τ).bind (fun r1 => f_M_daybook_89 r1.1 x 0)) := by
  obtain ⟨σ4, τ4, c1, m1, tr, m2, cp⟩ := tri_start h
  have e7 : τ4 7 = τ 7 := m2 7 (by decide)
  obtain ⟨t1, t2, t3, t4, t5, t6, t7⟩ := tr
  have hkk := h.land.1
  unfold isLand at hkk
  have e11 : σ4 0 11 = (k : Int) := by rw [t1 0 11 (by unfold SC; omega)]; exact h.land.2.1
  have hz : zio 1 (σ4 0 11) = true := by rw [e11]; rcases hkk with rfl | rfl <;> rfl
  have hk : Int.toNat (σ4 0 11) = k := by rw [e11]; rfl
  obtain ⟨τ5, o1, o2, o3, o4⟩ := m_book0 (τ := τ4) (x := x)
  have o7 : τ5 7 = τ 7 := by rw [o2 7 (by decide), e7]
  rw [c1, m1, Option.bind_some, Option.bind_some]
  dsimp only
  simp only [hz, hk, if_true]
  rw [o1]
  have hM0 := h.hM
  have fin : ∀ ks, (ks = 96 ∨ ks = 128) → StrR σ4 ks (τ5 7) d →
      ∃ (σ6 τ6 : zH) (w : Int) (e : Nat), f_Daybook_judge σ4 k ks = some (bkC σ6 ks (σ4 ks 14), w) ∧ f_M_daybook_121 τ5 x (τ5 7 289) (-1) 0 = f_M_daybook_179 τ6 x (τ5 7 289) w ∧ LivOut (zset (zset σ4 320 5 0) 320 6 0) τ5 σ6 τ6 ks d e ∧ σ6 320 5 = τ6 35 0 ∧ σ6 320 6 = τ6 35 1 ∧ σ4 ks 14 = τ5 7 289 := by
    intro ks hks hS4
    have hJ : ∀ j i, ¬ (j = 320 ∧ (i = 5 ∨ i = 6)) → zset (zset σ4 320 5 0) 320 6 0 j i = σ4 j i := fun j i hj => by
      by_cases j0 : j = 320
      · subst j0; rw [zi (by omega), zi (by omega)]
      · rw [zk j0, zk j0]
    have hLJ : LandR (zset (zset σ4 320 5 0) 320 6 0) k (τ5 7) := by
      rw [o7]
      exact h.hL.frame (fun i hi => funext (fun y => by rw [hJ _ y (by omega)]; exact t1 _ y (by unfold SC; omega)))
    have hwJ : wfL (τ5 7) := by rw [o7]; exact h.hw
    have hSJ : StrR (zset (zset σ4 320 5 0) 320 6 0) ks (τ5 7) d := hS4.keepd hwJ (fun _ _ => rfl) (fun j j0 j1 => funext (fun y => hJ j y (by omega)))
    obtain ⟨σ6, τ6, w, e, u1, u2, u3, u4, u5, u6, u7⟩ := judge_loop (n := n) hks h.land.1 (C := σ4 ks 14) n 0 d _ τ5 (by omega) hn hLJ hwJ hSJ (by rw [hJ 320 3 (by omega), cp.1 320 (by unfold own8; omega)]; exact h3) (by rw [o2 0 (by decide), m2 0 (by decide)]; exact h33) (fun y hy => by
      have := hE y hy
      unfold BkE at this ⊢
      rw [hJ 321 y (by omega), hJ 322 y (by omega), hJ 323 y (by omega), cp.1 321 (by unfold own8; omega), cp.1 322 (by unfold own8; omega), cp.1 323 (by unfold own8; omega), o2 9 (by decide), m2 9 (by decide), o7]
      exact this) (by rw [zi (by decide), zs]) (by rw [zs]; rfl) o3 o4
    have u1' : f_Daybook_judge_18 (zset (zset σ4 320 5 0) 320 6 0) k ks (σ4 ks 14) 0 = f_Daybook_judge_69 σ6 ks (σ4 ks 14) := u1
    have e14 : σ4 ks 14 = τ5 7 289 := hS4.2.2.2.2.1.1
    refine ⟨σ6, τ6, w, e, ?_, ?_, u3, u4, u5, e14⟩
    · rw [e_Daybook_judge, u1', c_judge_end hks]
      rcases u6 with ⟨g1, g2⟩ | ⟨g1, g2⟩
      · rw [if_neg (fun y => y g2), g1]
      · rw [if_pos g2, g1]
    · rw [← e14]; exact u2 x
  rcases hx with rfl | rfl
  · -- only tried
    rw [if_neg (fun y => y rfl)]
    obtain ⟨σ6, τ6, w, e, u1, u2, u3, u4, u5, u6⟩ := fin 128 (Or.inr rfl) (by rw [o2 7 (by decide)]; exact t5)
    obtain ⟨τ8, b1, b2, b3, b4⟩ := m_back (τ := bkM τ6 (τ5 7 289))
    rw [u1, u2, Option.bind_some, m_judge_end, if_pos (show ¬ (0 : Int) = 1 by decide), if_neg (fun y => y rfl), b1, Option.bind_some]
    dsimp only
    obtain ⟨p1, p2, p3, p4, p5, p6, p7, p8⟩ := u3
    have n7 : bkM τ6 (τ5 7 289) 7 = τ6 7 := funext (fun i => bkM_i (by omega) (by omega))
    have n23 : bkM τ6 (τ5 7 289) 23 = τ4 23 := by
      rw [show bkM τ6 (τ5 7 289) 23 = τ6 23 from funext (fun i => bkM_i (by omega) (by omega)), p2 23 (by decide) (by decide) (by decide), o2 23 (by decide)]
    have e87 : τ8 7 = τ 7 := by
      funext j
      by_cases hj : 288 ≤ j ∧ j < 2778
      · have := b4 (j - 288) (by omega)
        rw [show 288 + (j - 288) = j by omega, n23, t3 _ (by omega), show 288 + (j - 288) = j by omega] at this
        exact this
      · rw [b3 j hj, n7, p3 j (by omega), o7]
    obtain ⟨y1, y2, y3, y4, y5, y6⟩ := bk_mis (C := τ5 7 289) (Or.inr rfl) p4 u4 u5
    rw [u6]
    have f35 : τ8 35 = bkM τ6 (τ5 7 289) 35 := b2 35 (by decide)
    have f0 : ∀ i, i ≠ 35 → τ8 0 i = τ 0 i := fun i hi => by
      rw [b2 0 (by decide), bkM_i (by omega) (by omega), p2 0 (by decide) (by decide) (by decide), o2 0 (by decide), m2 0 (by decide)]
    have fC : ∀ j i, ¬ SC j i → ¬ (j = 320 ∧ 4 ≤ i) → bkC σ6 128 (τ5 7 289) j i = σ j i := fun j i c1 c4 => by
      unfold SC at c1
      rw [bkC_i (by omega), p1 j i (by unfold own8; omega) (by omega)]
      have : zset (zset σ4 320 5 0) 320 6 0 j i = σ4 j i := by
        by_cases j0 : j = 320
        · subst j0; rw [zi (by omega), zi (by omega)]
        · rw [zk j0, zk j0]
      rw [this]
      exact t1 j i (by unfold SC; omega)
    refine ⟨_, _, _, rfl, rfl, k, q, d, h.misc (fun j i c1 c2 c3 c4 => fC j i c1 c4) (fun j i s1 s2 s3 s4 => ?_) ?_⟩
    · by_cases j7 : j = 7
      · rw [j7, e87]
      · by_cases j0 : j = 0
        · subst j0; exact f0 i (by omega)
        · unfold SM at s1
          rw [b2 j j7, bkM_i (by omega) (by omega), p2 j j7 (by omega) s4, o2 j s4, m2 j (by omega)]
    · unfold MisR at hM0 ⊢
      obtain ⟨a1, a2, a3, a4, a5⟩ := hM0
      refine ⟨?_, ?_, ?_, ⟨by rw [y1, b2 0 (by decide), y2], Or.inr ⟨by rw [b2 0 (by decide), y2], by rw [y3, f35], by rw [y4, f35], by rw [y5, f35], by rw [y6, f35]⟩⟩, ?_⟩
      · rw [fC 0 17 (by unfold SC; omega) (by omega), f0 15 (by decide)]; exact a1
      · rw [fC 0 15 (by unfold SC; omega) (by omega), f0 27 (by decide), b2 26 (by decide), show bkC σ6 128 (τ5 7 289) 10 = σ 10 from funext (fun i => fC 10 i (by unfold SC; omega) (by omega)), show bkM τ6 (τ5 7 289) 26 = τ 26 from funext (fun i => by rw [bkM_i (by omega) (by omega), p2 26 (by decide) (by decide) (by decide), o2 26 (by decide), m2 26 (by decide)])]
        exact a2
      · rw [fC 0 16 (by unfold SC; omega) (by omega), f0 31 (by decide), f0 32 (by decide)]; exact a3
      · rw [fC 7 0 (by unfold SC; omega) (by omega), fC 7 1 (by unfold SC; omega) (by omega)]; exact a5
  · -- it lives
    rw [if_pos (show ¬ (1 : Int) = 0 by decide)]
    obtain ⟨σ6, τ6, w, e, u1, u2, u3, u4, u5, u6⟩ := fin 96 (Or.inl rfl) (by
      rw [o7]
      exact h.hS.keepd h.hw (fun _ _ => rfl) (fun j j0 j1 => cp.1 j (by unfold own8; omega)))
    obtain ⟨p1, p2, p3, p4, p5, p6, p7, p8⟩ := u3
    obtain ⟨p9, p10⟩ := p6 rfl
    obtain ⟨y1, y2, y3, y4, y5, y6⟩ := bk_mis (C := τ5 7 289) (Or.inl rfl) p4 u4 u5
    rw [u1, u2, Option.bind_some, m_judge_end, if_neg (show ¬ ¬ (1 : Int) = 1 from fun y => y rfl), u6]
    dsimp only
    generalize hS7 : bkC σ6 96 (τ5 7 289) = σ7 at *
    have i7C : ∀ j i, ¬ (j = 320 ∧ (i = 4 ∨ i = 7 ∨ i = 8)) → σ7 j i = σ6 j i := fun j i hj => by rw [← hS7]; exact bkC_i hj
    have i7M : ∀ j i, ¬ (j = 35 ∧ (i = 2 ∨ i = 3)) → ¬ (j = 0 ∧ i = 35) → bkM τ6 (τ5 7 289) j i = τ6 j i := fun j i h1 h2 => bkM_i h1 h2
    generalize bkM τ6 (τ5 7 289) = τ7 at *
    have hJ : ∀ j i, ¬ (j = 320 ∧ (i = 5 ∨ i = 6)) → zset (zset σ4 320 5 0) 320 6 0 j i = σ4 j i := fun j i hj => by
      by_cases j0 : j = 320
      · subst j0; rw [zi (by omega), zi (by omega)]
      · rw [zk j0, zk j0]
    -- cells that no living writes
    have fC : ∀ j i, ¬ (96 ≤ j ∧ j ≤ 108) → ¬ (j = 320 ∧ 4 ≤ i) → σ7 j i = σ4 j i := fun j i c1 c2 => by
      rw [i7C j i (by omega), p1 j i (by unfold own8; omega) (by omega), hJ j i (by omega)]
    have fC' : ∀ j i, ¬ SC j i → ¬ (96 ≤ j ∧ j ≤ 108) → ¬ (j = 320 ∧ 4 ≤ i) → σ7 j i = σ j i := fun j i c0 c1 c2 => by rw [fC j i c1 c2]; exact t1 j i c0
    have n7 : τ7 7 = τ6 7 := funext (fun i => i7M 7 i (by omega) (by omega))
    have fM : ∀ j, j ≠ 7 → j ≠ 21 → j ≠ 35 → j ≠ 0 → τ7 j = τ4 j := fun j j7 j21 j35 j0 => funext (fun i => by rw [i7M j i (by omega) (by omega), p2 j j7 j21 j35, o2 j j35])
    have fM' : ∀ j, j ≠ 7 → j ≠ 21 → j ≠ 35 → j ≠ 0 → j ≠ 23 → τ7 j = τ j := fun j j7 j21 j35 j0 j23 => by rw [fM j j7 j21 j35 j0, m2 j j23]
    have fM0 : ∀ i, i ≠ 35 → τ7 0 i = τ 0 i := fun i hi => by rw [i7M 0 i (by omega) (by omega), p2 0 (by decide) (by decide) (by decide), o2 0 (by decide), m2 0 (by decide)]
    have f7 : ∀ j, ¬ (288 ≤ j ∧ j < 2778) → τ7 7 j = τ 7 j := fun j hj => by rw [n7, p3 j (by omega), o7]
    have hv : ∀ (t : Int) (f : Nat), 0 ≤ t → t < 6 → f < d → wv (τ7 7) t f = wv (τ 7) t f := fun t f t0 t1 hf => by rw [n7, p5 t f t0 t1 hf, o7]
    have hw7 : wfL (τ7 7) := wfL_congr (fun j hj => f7 j (by omega)) h.hw
    have hS7' : StrR σ7 96 (τ7 7) e := by
      rw [n7]
      refine p4.keepd (by rw [← n7]; exact hw7) (fun _ _ => rfl) (fun j j0 j1 => funext (fun i => i7C j i (by omega)))
    have hH7 : ∀ f, f < e → HisD σ7 96 (τ7 7) f := fun f hf => by
      by_cases hfd : f < d
      · refine (h.hH f hfd).congr ?_ (f7 4 (by omega)) (fun t ht => hv t f (by omega) (by have := h.hw.1.2.2.2.2.1; omega) hfd)
        rw [i7C 108 f (by omega), p9 f hfd, hJ 108 f (by omega)]
        rw [cp.1 108 (by unfold own8; omega)]
      · refine (p10 f (by omega) hf).congr (i7C 108 f (by omega)) (by rw [n7]) (fun t ht => by rw [n7])
    have hA7 : ∀ d', d ≤ d' → ActsR σ7 τ7 d' := fun d' hd' => h.hA.next h.hw (fun j j0 j1 => funext (fun i => fC' j i (by unfold SC; omega) (by omega) (by omega))) (fM' 22 (by decide) (by decide) (by decide) (by decide) (by decide)) (fM0 23 (by decide)) f7 hd' hv
    -- small things, in heaps of their own
    have hR2 : Rl (fun j i => if j = 320 then σ7 320 i else σ j i) (fun j i => if j = 35 then τ7 35 i else if j = 0 ∧ i = 35 then 1 else τ j i) k q d := by
      refine h.misc (fun j i c1 c2 c3 c4 => ?_) (fun j i s1 s2 s3 s4 => ?_) ?_
      · by_cases j3 : j = 320
        · subst j3
          rw [if_pos rfl]
          exact fC' 320 i c1 (by omega) c4
        · exact if_neg j3
      · rw [if_neg s4, if_neg (by omega)]
      · unfold MisR at hM0 ⊢
        obtain ⟨a1, a2, a3, a4, a5⟩ := hM0
        exact ⟨a1, a2, a3, ⟨y1, Or.inr ⟨rfl, y3, y4, y5, y6⟩⟩, a5⟩
    have build : ∀ (σ8 τ8 : zH), (∀ j, ¬ (160 ≤ j ∧ j ≤ 300) → σ8 j = σ7 j) → (∀ j, j ≠ 22 → j ≠ 0 → τ8 j = τ7 j) → (∀ i, i ≠ 23 → τ8 0 i = τ7 0 i) → ActsR σ8 τ8 e → Rl σ8 τ8 k q e := by
      intro σ8 τ8 g1 g2 g3 g4
      have g7 : τ8 7 = τ7 7 := g2 7 (by decide) (by decide)
      refine hR2.build (fun j i c1 c2 c3 => ?_) (fun j i s1 s2 s3 s4 => ?_) ?_ (fun f hf => ?_) g4
      · rw [g1 j c3]
        by_cases j3 : j = 320
        · subst j3; rw [if_pos rfl]
        · rw [if_neg j3]; exact fC' j i c1 c2 (by omega)
      · by_cases j5 : j = 35
        · subst j5; rw [if_pos rfl, g2 35 (by decide) (by decide)]
        · rw [if_neg j5]
          by_cases j0 : j = 0
          · subst j0
            rw [g3 i (by omega)]
            by_cases i5 : i = 35
            · subst i5; rw [if_pos ⟨rfl, rfl⟩]; exact y2
            · rw [if_neg (by omega)]; exact fM0 i i5
          · rw [if_neg (by omega), g2 j s3 j0]
            by_cases j7 : j = 7
            · subst j7; exact f7 i (by omega)
            · unfold SM at s1
              rw [fM' j j7 (by omega) j5 j0 (by omega)]
      · rw [g7]; exact hS7'.keepd hw7 (fun _ _ => rfl) (fun j j0 j1 => g1 j (by omega))
      · rw [g7]; exact (hH7 f hf).congr (by rw [g1 _ (by omega)]) rfl (fun _ _ => rfl)
    have e6 : σ7 320 6 = τ6 35 1 := by rw [y4, i7M 35 1 (by omega) (by omega)]
    by_cases hl : τ6 35 1 ≤ 0
    · rw [if_pos (show σ7 320 6 ≤ 0 by omega), if_pos hl, if_pos (show ¬ (1 : Int) = 0 by decide)]
      exact ⟨σ7, τ7, w, rfl, rfl, k, q, e, build σ7 τ7 (fun _ _ => rfl) (fun _ _ _ => rfl) (fun _ _ => rfl) (hA7 e p7)⟩
    · rw [if_neg (show ¬ σ7 320 6 ≤ 0 by omega), if_neg hl]
      obtain ⟨nA, -, -, nA4, nA5, nA6, -⟩ := hA7 d (Nat.le_refl d)
      obtain ⟨τ8, v1, v2, v3, v4⟩ := m_over (τ := τ7) (x3 := w) nA4 nA6
      have hb : ∀ qq, qq < 2490 → τ7 23 qq = τ 7 (288 + qq) := fun qq hq => by rw [fM 23 (by decide) (by decide) (by decide) (by decide)]; exact t3 qq hq
      obtain ⟨σ8, w1, w2, w3⟩ := keep_any (σ := σ7) (τ := τ7) (b := τ 7) (d := d) (e := e) hw7 h.hw (fun j hj => (f7 j (by omega)).symm) p7 (fun t d' t0 t1 hd' => (hv t d' t0 t1 hd').symm) (hA7 d (Nat.le_refl d)) (by
        rw [e7] at t5
        exact t5.keepd h.hw (fun _ _ => rfl) (fun j j0 j1 => funext (fun i => fC j i (by omega) (by omega))))
      rw [w1, v1, Option.bind_some]
      refine ⟨σ8, τ8, w, rfl, rfl, k, q, e, build σ8 τ8 w3 v3 v4 (w2 τ8 (fun n' hn' hn4 => ?_))⟩
      obtain ⟨x1, x2, x3, x4⟩ := v2 n' hn' hn4
      exact ⟨x1, x2, fun qq hq => by rw [x3 qq hq]; dsimp only; rw [show 288 + qq - 288 = qq by omega, hb qq hq], x4⟩
theorem q_daybook (h : Rl σ τ k q d) (x : Int) : Same (f_R_daybook σ x) (f_M_daybook τ x) := by
  have h0 := h.mark (v := 0)
  rw [e_M_daybook, e_R_daybook]
  generalize zset τ 0 0 0 = τ0 at h0 ⊢
  rw [m_isIn, Option.bind_some]
  dsimp only
  have hkk := h0.land.1
  have hqq := h0.rule.1
  unfold isLand at hkk
  unfold isRule at hqq
  by_cases hx : 0 ≤ x ∧ x ≤ 1
  · rw [if_pos hx, in10, if_neg (show ¬ x < 0 by omega), if_pos hx.2, e_M_taken, Option.bind_some]
    dsimp only
    generalize hτa : zset (zset (zset (zset (zset (zset τ0 0 3 (τ0 0 2)) 0 2 0) 0 4 0) 0 5 400) 0 15 0) 0 33 0 = τa
    have fa : ∀ j i, ¬ (j = 0 ∧ (i = 2 ∨ i = 3 ∨ i = 4 ∨ i = 5 ∨ i = 15 ∨ i = 33)) → τa j i = τ0 j i := fun j i hj => by
      rw [← hτa]
      by_cases j0 : j = 0
      · subst j0; rw [zi (by omega), zi (by omega), zi (by omega), zi (by omega), zi (by omega), zi (by omega)]
      · rw [zk j0, zk j0, zk j0, zk j0, zk j0, zk j0]
    have fa2 : τa 0 2 = 0 := by rw [← hτa, zi (by decide), zi (by decide), zi (by decide), zi (by decide), zs]
    have fa3 : τa 0 3 = τ0 0 2 := by rw [← hτa, zi (by decide), zi (by decide), zi (by decide), zi (by decide), zi (by decide), zs]
    have fa4 : τa 0 4 = 0 := by rw [← hτa, zi (by decide), zi (by decide), zi (by decide), zs]
    have fa5 : τa 0 5 = 400 := by rw [← hτa, zi (by decide), zi (by decide), zs]
    have fa15 : τa 0 15 = 0 := by rw [← hτa, zi (by decide), zs]
    have fa33 : τa 0 33 = 0 := by rw [← hτa, zs]
    clear hτa
    rw [e_Tape_open]
    generalize hσa : zset (zset (zset (zset σ 64 2 400) 64 3 0) 64 9 0) 64 10 0 = σa
    have ga : ∀ j i, ¬ (j = 64 ∧ (i = 2 ∨ i = 3 ∨ i = 9 ∨ i = 10)) → σa j i = σ j i := fun j i hj => by
      rw [← hσa]
      by_cases j0 : j = 64
      · subst j0; rw [zi (by omega), zi (by omega), zi (by omega), zi (by omega)]
      · rw [zk j0, zk j0, zk j0, zk j0]
    have ga2 : σa 64 2 = 400 := by rw [← hσa, zi (by decide), zi (by decide), zi (by decide), zs]
    have ga3 : σa 64 3 = 0 := by rw [← hσa, zi (by decide), zi (by decide), zs]
    have ga9 : σa 64 9 = 0 := by rw [← hσa, zi (by decide), zs]
    clear hσa
    obtain ⟨L, a, σ1, τ1, o1, o2, o3, o4, o5, hL⟩ := text_open (mx := 400) (σa := σa) (τa := τa) (by decide) h0.hT (fun i hi => ga 64 i (by omega)) ga2 ga3 ga9 (funext (fun i => ga 65 i (by omega))) (funext (fun i => fa 2 i (by omega))) fa3 fa4 fa5 fa15
    have e11 : σ1 0 11 = (k : Int) := by rw [o3.cell (by decide), ga 0 11 (by omega)]; exact h0.land.2.1
    have hz1 : zio 1 (σ1 0 11) = true := by rw [e11]; rcases hkk with rfl | rfl <;> rfl
    have hk1 : Int.toNat (σ1 0 11) = k := by rw [e11]; rfl
    rw [o1, o2, Option.bind_some, Option.bind_some, Option.bind_some]
    dsimp only
    simp only [hz1, hk1, if_true]
    rw [e_Daybook_readFrom]
    have e7 : τ1 7 = τ0 7 := by rw [o4.cell (by decide)]; exact funext (fun i => fa 7 i (by omega))
    have ds : DS (τ0 7) k L a 0 0 (zset σ1 320 3 0) τ1 := by
      refine ⟨o5.fr (fun i _ => by rw [zk (by decide)]) (zk (by decide)) (fun _ _ => rfl) rfl, h0.hV.frame (by rw [o4.cell (by decide)]; exact funext (fun i => fa 11 i (by omega))), h0.hw.1, ?_, e7, h0.land.1, zs, ?_, by omega, fun i hi => absurd hi (Nat.not_lt_zero i)⟩
      · refine (nam0 h0.hN).gen (fun j j0 j1 => ?_) rfl rfl rfl rfl (fun s m _ _ => ?_)
        · rw [zk (by omega), o3.cell (by omega)]; exact funext (fun i => ga j i (by omega))
        · rw [o4.cell (by decide)]; exact fa 10 _ (by omega)
      · rw [o4 0 33 (by unfold lxM; omega)]; exact fa33
    obtain ⟨σ3, τ3, p1, p2, p3⟩ := book_loop 30 0 _ τ1 a rfl ds
    have cst0 : ((0 : Nat) : Int) = 0 := rfl
    rw [cst0] at p3
    have hσ3 : ∀ j i, ¬ (j = 64 ∧ 2 ≤ i) → ¬ (j = 320 ∧ i = 3) → ¬ (321 ≤ j ∧ j ≤ 323) → σ3 j i = σ j i := fun j i h1 h2 h3 => by
      rw [p1 j i (by omega) h2 h3]
      have : zset σ1 320 3 0 j i = σ1 j i := by
        by_cases j0 : j = 320
        · subst j0; rw [zi (by omega)]
        · rw [zk j0]
      rw [this, o3 j i (by unfold lxC; omega), ga j i (by omega)]
    have hτ3 : ∀ j i, ¬ (j = 0 ∧ ((2 ≤ i ∧ i ≤ 19) ∨ i = 33)) → j ≠ 9 → τ3 j i = τ0 j i := fun j i h1 h2 => by
      rw [p2 j i (by omega) h2, o4 j i (by unfold lxM; omega), fa j i (by omega)]
    have hτ32 : τ3 0 2 = 0 := by rw [p2 0 2 (by omega) (by omega), o4 0 2 (by unfold lxM; omega)]; exact fa2
    have hR1 : σ3 64 9 = τ3 0 15 → Rl (zset (zset σ3 0 17 (σ3 64 9)) 64 1 0) τ3 k q d := fun hf => by
      refine h0.read (fun j i c1 c2 c3 c4 c5 => ?_) (fun j i c1 c2 => ?_) zs hτ32 (by rw [zk (by decide), zs]; exact hf)
      · have e1 : zset (zset σ3 0 17 (σ3 64 9)) 64 1 0 j i = zset σ3 0 17 (σ3 64 9) j i := by
          by_cases j0 : j = 64
          · subst j0; rw [zi (by omega)]
          · rw [zk j0]
        have e2 : zset σ3 0 17 (σ3 64 9) j i = σ3 j i := by
          by_cases j0 : j = 0
          · subst j0; rw [zi (by omega)]
          · rw [zk j0]
        rw [e1, e2]
        unfold SC at c1
        exact hσ3 j i (by omega) (by omega) (by omega)
      · unfold SM at c1
        exact hτ3 j i (by omega) (by omega)
    rcases p3 with ⟨p3, p4, n', ax', p5⟩ | ⟨p3, p4, p5⟩
    · have hRl := hR1 p5.1.flt
      rw [p3, p4 x, Option.bind_some]
      dsimp only
      rw [in10]
      refine q_book_judge hRl (by omega) p5.2.2.2.2.2.2.2.2.1 ?_ p5.2.2.2.2.2.2.2.1 (fun y hy => ?_)
      · rw [zk (by decide), zk (by decide)]; exact p5.2.2.2.2.2.2.1
      · have := p5.2.2.2.2.2.2.2.2.2 y hy
        unfold BkE at this ⊢
        rw [zk (show (321 : Nat) ≠ 64 by decide), zk (show (321 : Nat) ≠ 0 by decide), zk (show (322 : Nat) ≠ 64 by decide), zk (show (322 : Nat) ≠ 0 by decide), zk (show (323 : Nat) ≠ 64 by decide), zk (show (323 : Nat) ≠ 0 by decide), p5.2.2.2.2.1]
        exact this
    · rw [p3, p4 x, Option.bind_some]
      dsimp only
      rw [in00]
      obtain ⟨pa, aa, pb, pc, pd⟩ := p5
      have e10 : zset (zset σ3 0 17 (σ3 64 9)) 64 1 0 64 10 = (aa : Int) := by rw [zi (by decide), zk (by decide)]; exact pc
      rw [e10, pd]
      exact ⟨_, _, _, rfl, rfl, k, q, d, hR1 pa⟩
  · rw [if_neg hx, in00]
    by_cases h1 : x < 0
    · rw [if_pos h1]; exact h0.look rfl rfl
    · rw [if_neg h1, if_neg (show ¬ x ≤ 1 by omega)]; exact h0.look rfl rfl
end G70
