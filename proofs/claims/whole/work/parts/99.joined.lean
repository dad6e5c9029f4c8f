/-! A SENTENCE is read: parts joined by and, by or, both sides -/
section G74
variable {σ τ σ' τ' σ1 τ1 : zH} {q k L ax ax' n m D o N f dp ar : Nat} {a c S : Nat → Int}
theorem all12_0 {rk : Nat} {x y : Int} : f_Sentence_readAll_12 σ rk q k x 0 y = some (σ, 0) := by
  rw [e_Sentence_readAll_12]
  by_cases h : 20 ≤ y
  · rw [if_pos h, if_pos (show zbl 0 = true from rfl)]
  · rw [if_neg h, if_pos rfl, if_pos (show zbl 0 = true from rfl)]
theorem cond12_0 {rk : Nat} {x y : Int} : f_Sentence_readCond_12 σ rk q k x 0 y = some (σ, 0) := by
  rw [e_Sentence_readCond_12]
  by_cases h : 20 ≤ y
  · rw [if_pos h, if_pos (show zbl 0 = true from rfl)]
  · rw [if_neg h, if_pos rfl, if_pos (show zbl 0 = true from rfl)]
/-- the reference joins: what is pending is done, the sign goes onto the stack, the next token -/
theorem push_both (h : BS a q k L ax σ τ) (hN : NS σ τ q n n D o N 1 dp c) (hT : τ 0 11 ≠ 4) (v : Int) : ∃ (σ' τ' : zH) (ax' : Nat), f_Tape_advance σ = some (σ', 0) ∧ f_M_next (zset (zset (zset τ 37 N v) 0 39 ((N + 1 : Nat) : Int)) 0 41 0) = some (τ', 0) ∧ FsC q σ σ' ∧ FsM τ τ' ∧ BS a q k L ax' σ' τ' ∧ NS σ' τ' q n n D o (N + 1) 0 dp c ∧ τ' 37 N = v ∧ ∀ i, i < N → τ' 37 i = τ 37 i := by
  have y0 : ∀ j i, ¬ (j = 0 ∧ (i = 39 ∨ i = 41)) → j ≠ 37 → zset (zset (zset τ 37 N v) 0 39 ((N + 1 : Nat) : Int)) 0 41 0 j i = τ j i := fun j i hj h37 => by
    by_cases j0 : j = 0
    · subst j0; rw [zi (by omega), zi (by omega), zk (by decide)]
    · rw [zk j0, zk j0, zk h37]
  have y37 : zset (zset (zset τ 37 N v) 0 39 ((N + 1 : Nat) : Int)) 0 41 0 37 = zset τ 37 N v 37 := by rw [zk (by decide), zk (by decide)]
  have e39 : zset (zset (zset τ 37 N v) 0 39 ((N + 1 : Nat) : Int)) 0 41 0 0 39 = ((N + 1 : Nat) : Int) := by rw [zi (by decide), zs]
  have e41 : zset (zset (zset τ 37 N v) 0 39 ((N + 1 : Nat) : Int)) 0 41 0 0 41 = 0 := zs
  generalize zset (zset (zset τ 37 N v) 0 39 ((N + 1 : Nat) : Int)) 0 41 0 = τ2 at *
  have b2 : BS a q k L ax σ τ2 := h.fr (fun _ _ _ => rfl) (fun j i h1 h2 h3 => y0 j i (by omega) h3)
  have N2 : NS σ τ2 q n n D o (N + 1) 0 dp c := by
    obtain ⟨v1, v2, v3, ⟨u1, u2, u3, u4, u5, u6, u7⟩, v5, v6, v7, v8, v9, v10, v11⟩ := hN
    exact ⟨v1, by rw [y0 0 38 (by omega) (by decide)]; exact v2, v3, ⟨u1, u2, by rw [y0 0 37 (by omega) (by decide)]; exact u3, u4, fun i hi => by rw [y0 9 _ (by omega) (by decide), y0 9 _ (by omega) (by decide), y0 9 _ (by omega) (by decide)]; exact u5 i hi, u6, u7⟩, v5, v6, v7, e39, e41, by rw [y0 0 40 (by omega) (by decide)]; exact v10, by omega⟩
  obtain ⟨σ', τ', ax', d1, d2, d3, d4, d5⟩ := b2.adv (by rw [y0 0 11 (by omega) (by decide)]; exact hT)
  refine ⟨σ', τ', ax', d1, d2, d3.w.s, FsM.trans (fun j i h1 h2 h3 => y0 j i (by omega) h3) d4.w.s, d5, N2.tok h.2.2.2.2.2.2 d3 d4, ?_, fun i hi => ?_⟩
  · rw [d4.cell (by decide), y37, zs]
  · rw [d4.cell (by decide), y37, zi (by omega)]
theorem all_loop (h8 : ar ≤ 8) (ih : OneP ar) {n0 D0 o0 : Nat} (hS : N = 0 ∨ (S (N - 1) ≠ 20 ∧ S (N - 1) ≠ 21)) : ∀ (r i m p o ax : Nat) (c : Nat → Int) (σ τ : zH), i + r = 20 → BS a q k L ax σ τ → NS σ τ q (m + p) m (D0 + 1) o (N + p) 1 (1 + ar) c → p ≤ 1 → (p = 1 → c (1 + 3 * m) = 21 ∧ τ 37 N = 21) → (∀ x, x < N → τ 37 x = S x) → o0 + 1 + i ≤ o → m + p + (D0 + 1) + 2 * o0 ≤ n0 + D0 + 2 * o → SOut (PAll a q k L n0 D0 o0 N ar S) q σ τ (f_Sentence_readAll_12 σ (5 + 3 * (9 - ar)) q (k + 32) (ar : Int) 1 (i : Int)) := by
  intro r
  induction r with
  | zero =>
    intro i m p o ax c σ τ hi hb hN hp hp1 hs ho hl
    have := hN.2.2.1
    omega
  | succ r ihr =>
    intro i m p o ax c σ τ hi hb hN hp hp1 hs ho hl
    rw [e_Sentence_readAll_12, if_neg (show ¬ (20 : Int) ≤ (i : Int) by omega), if_neg (show ¬ (1 : Int) = 0 by decide)]
    by_cases hk : σ 64 6 = 18
    · have hT1 := key_T hb.1.tok (by omega)
      have e41 : τ 0 41 = 1 := hN.2.2.2.2.2.2.2.2.1
      have hNN := hN.2.2.2.2.2.2.2.1
      have ho20 := hN.2.2.1
      have hNo := hN.2.2.2.2.2.2.2.2.2.2
      have hp01 : p = 0 ∨ p = 1 := by omega
      -- no nots are pending
      have nt : f_M_nots τ = some (τ, 0) := m_nots_stop hNN (by omega) (by
        rcases hp01 with rfl | rfl
        · by_cases hN0 : N = 0
          · exact Or.inl (by omega)
          · exact Or.inr (by rw [Nat.add_zero, hs _ (by omega)]; exact (hS.resolve_left hN0).1)
        · exact Or.inr (by rw [show N + 1 - 1 = N by omega, (hp1 rfl).2]; decide))
      have jn : ∃ τ1, f_M_joins τ 21 = some (τ1, 0) ∧ NS σ τ1 q (m + p) (m + p) (D0 + 1) o N 1 (1 + ar) c ∧ FkM τ τ1 := by
        rcases hp01 with rfl | rfl
        · refine ⟨τ, m_joins_stop hNN (by omega) ?_, hN, FkM.refl⟩
          by_cases hN0 : N = 0
          · exact Or.inl (by omega)
          · refine Or.inr ?_
            rw [Nat.add_zero, hs _ (by omega)]
            exact ⟨(hS.resolve_left hN0).2, Or.inr (by decide)⟩
        · obtain ⟨q1, q2⟩ := hp1 rfl
          obtain ⟨τ1, z1, z2, z3⟩ := joins_pop (x := 21) (v := 21) (N := N) hN (by omega) q1 q2 (Or.inl rfl)
          refine ⟨τ1, ?_, z2, z3⟩
          rw [z1]
          refine m_joins_stop z2.2.2.2.2.2.2.2.1 (by omega) ?_
          by_cases hN0 : N = 0
          · exact Or.inl hN0
          · refine Or.inr ?_
            rw [z3 37 _ (by omega) (by decide), hs _ (by omega)]
            exact ⟨(hS.resolve_left hN0).2, Or.inr (by decide)⟩
      obtain ⟨τ1, jn1, N1, fk⟩ := jn
      have b1 : BS a q k L ax σ τ1 := hb.fr (fun _ _ _ => rfl) (fun j' x h1 h2 h3 => fk j' x (by omega) h2)
      have e391 : τ1 0 39 = (N : Int) := N1.2.2.2.2.2.2.2.1
      have w18 : f_M_isWord τ 6385252 = some (τ, if σ 64 6 = 18 then 1 else 0) := m_isWord (i := 18) (by decide) hb.1.tok
      have w18' : f_M_isWord τ1 6385252 = some (τ1, if σ 64 6 = 18 then 1 else 0) := m_isWord (i := 18) (by decide) b1.1.tok
      have hT1' : τ1 0 11 = 1 := by rw [fk 0 11 (by omega) (by decide)]; exact hT1
      obtain ⟨σ2, τ2, ax2, d1, d2, f2, g2, b2, N2, t2, s2⟩ := push_both b1 N1 (by omega) 21
      have hF := F_bh e41 (by omega)
      rw [e_M_behind1, nt, Option.bind_some] at hF
      dsimp only at hF
      rw [w18, if_pos hk, Option.bind_some] at hF
      dsimp only at hF
      rw [in10, w18, if_pos hk, Option.bind_some] at hF
      dsimp only at hF
      rw [if_neg (show ¬ (1 : Int) = 0 by decide), e_M_behind1_42, jn1, Option.bind_some] at hF
      dsimp only at hF
      rw [w18', if_pos hk, Option.bind_some] at hF
      dsimp only at hF
      have eN : zset τ1 37 N 21 0 39 = (N : Int) := by rw [zk (by decide)]; exact e391
      have zN : zin (N : Int) 45 = true := zin_t (by omega) (by omega)
      simp only [e391, Int.toNat_natCast, eN, zN, if_true] at hF
      rw [if_neg (show ¬ (1 : Int) = 0 by decide), w32_s (by omega), d2, Option.bind_some, Option.bind_some] at hF
      dsimp only at hF
      rw [in10] at hF
      have hA := ih a q k L ax2 (m + p) (D0 + 1) o (N + 1) c σ2 τ2 b2 N2
      have hb1 : Nat.blt 1 (5 + 3 * (9 - ar)) = true := by rw [Nat.blt_eq]; omega
      have hb0 : Nat.blt 0 (5 + 3 * (9 - ar)) = true := by rw [Nat.blt_eq]; omega
      have hb4 : Nat.blt (4 + 3 * (9 - ar)) (5 + 3 * (9 - ar)) = true := by rw [Nat.blt_eq]; omega
      rw [if_neg (fun x => x hk), d1]
      simp only [Option.bind_some, hb0, hb1, hb4, cond_true, Int.toNat_natCast]
      refine SOut.step f2 (fk.s.trans g2) hF (SOut.bind hA (fun σ' => ?_) (fun σ3 τ3 hf3 hg3 hP => ?_))
      · dsimp only
        rw [if_pos rfl]
        exact all12_0
      · obtain ⟨τ4, ax4, n', o', c', F4, fk4, b4, N4, s4, o4, l4⟩ := after_one hP h8 (Or.inr (by rw [show N + 1 - 1 = N by omega, t2]; decide))
        have e3 : σ3 q 3 = (n' : Int) := N4.2.2.2.1.2.1
        have ho4 := N4.2.2.1
        have hn4 := N4.2.2.2.2.2.1
        have N5 := N4.addC (x := 21) (by omega) (Or.inr ⟨Or.inl rfl, by omega⟩) (Or.inr (Or.inl rfl))
        rw [if_neg (show ¬ (21 : Int) = 20 by decide), show D0 + 1 + 1 - 1 = D0 + 1 by omega] at N5
        dsimp only
        rw [if_neg (show ¬ (1 : Int) = 0 by decide), c_sadd e3 (by omega), Option.bind_some]
        dsimp only
        rw [if_neg (show ¬ (1 : Int) = 0 by decide), w32_s (by omega)]
        refine SOut.step (scd_fr (v := opm 21)) fk4.s F4 (ihr (i + 1) n' 1 o' ax4 (ext c' n' 21 0 0) _ τ4 (by omega) (b4.fr (fun j' x hj => by rw [scd_ne hj]) (fun _ _ _ _ _ => rfl)) N5 (Nat.le_refl 1) (fun _ => ⟨ext_1, by rw [s4 N (by omega)]; exact t2⟩) (fun x hx => ?_) (by omega) (by omega))
        rw [s4 x (by omega), s2 x hx, fk 37 x (by omega) (by decide), hs x hx]
    · rw [if_pos hk, if_pos (show zbl 1 = true from rfl)]
      exact ⟨σ, τ, 1, rfl, FsC.refl, FsM.refl, Or.inl ⟨rfl, rfl, ax, m, p, o, c, hb, hN, hp, hp1, hs, by omega, hl, hk⟩⟩
theorem all_step (h8 : ar ≤ 8) (ih : OneP ar) : AllP ar := by
  intro a q k L ax n D o N c σ τ h hN hS
  rw [e_Sentence_readAll, show Int.toNat (ar : Int) = ar from rfl, cb (by omega)]
  refine SOut.bind (ih a q k L ax n D o N c σ τ h hN) (fun σ' => all12_0) (fun σ1 τ1 hf hg hP => ?_)
  obtain ⟨τ2, ax2, n', o', c', F2, fk2, b2, N2, s2, o2, l2⟩ := after_one hP h8 (hS.imp id (fun x => x.1))
  exact SOut.step FsC.refl fk2.s F2 (all_loop h8 ih hS 20 0 n' 0 o' ax2 c' σ1 τ2 rfl b2 N2 (by omega) (fun q1 => by omega) s2 (by omega) (by omega))
theorem cond_loop (h8 : ar ≤ 8) (ih : AllP ar) {n0 D0 o0 : Nat} (hS : N = 0 ∨ S (N - 1) = 23) : ∀ (w i m p r o ax : Nat) (c : Nat → Int) (σ τ : zH), i + w = 20 → BS a q k L ax σ τ → NS σ τ q (m + p + r) m (D0 + 1) o (N + r + p) 1 (1 + ar) c → p ≤ 1 → r ≤ 1 → (p = 1 → c (1 + 3 * m) = 21 ∧ τ 37 (N + r) = 21) → (r = 1 → c (1 + 3 * (m + p)) = 22 ∧ τ 37 N = 22) → (∀ x, x < N → τ 37 x = S x) → σ 64 6 ≠ 18 → o0 + 1 + i ≤ o → m + p + r + (D0 + 1) + 2 * o0 ≤ n0 + D0 + 2 * o → SOut (PCond a q k L n0 D0 o0 N ar S) q σ τ (f_Sentence_readCond_12 σ (6 + 3 * (9 - ar)) q (k + 32) (ar : Int) 1 (i : Int)) := by
  intro w
  induction w with
  | zero =>
    intro i m p r o ax c σ τ hi hb hN hp hr hp1 hr1 hs hk18 ho hl
    have := hN.2.2.1
    omega
  | succ w ihw =>
    intro i m p r o ax c σ τ hi hb hN hp hr hp1 hr1 hs hk18 ho hl
    rw [e_Sentence_readCond_12, if_neg (show ¬ (20 : Int) ≤ (i : Int) by omega), if_neg (show ¬ (1 : Int) = 0 by decide)]
    by_cases hk : σ 64 6 = 17
    · have hT1 := key_T hb.1.tok (by omega)
      have e41 : τ 0 41 = 1 := hN.2.2.2.2.2.2.2.2.1
      have ho20 := hN.2.2.1
      have hNo := hN.2.2.2.2.2.2.2.2.2.2
      obtain ⟨nt, τ1, jn1, N1, fk⟩ := cond_top hN hp hr hp1 hr1 (by
        by_cases hN0 : N = 0
        · exact Or.inl hN0
        · refine Or.inr ?_
          rw [hs _ (by omega), hS.resolve_left hN0]
          decide)
      have b1 : BS a q k L ax σ τ1 := hb.fr (fun _ _ _ => rfl) (fun j' x h1 h2 h3 => fk j' x (by omega) h2)
      have e391 : τ1 0 39 = (N : Int) := N1.2.2.2.2.2.2.2.1
      have w18 : f_M_isWord τ 6385252 = some (τ, if σ 64 6 = 18 then 1 else 0) := m_isWord (i := 18) (by decide) hb.1.tok
      have w17 : f_M_isWord τ 28530 = some (τ, if σ 64 6 = 17 then 1 else 0) := m_isWord (i := 17) (by decide) hb.1.tok
      have w18' : f_M_isWord τ1 6385252 = some (τ1, if σ 64 6 = 18 then 1 else 0) := m_isWord (i := 18) (by decide) b1.1.tok
      have hT1' : τ1 0 11 = 1 := by rw [fk 0 11 (by omega) (by decide)]; exact hT1
      obtain ⟨σ2, τ2, ax2, d1, d2, f2, g2, b2, N2, t2, s2⟩ := push_both b1 N1 (by omega) 22
      have hF := F_bh e41 (by omega)
      rw [e_M_behind1, nt, Option.bind_some] at hF
      dsimp only at hF
      rw [w18, if_neg hk18, Option.bind_some] at hF
      dsimp only at hF
      rw [in00, w17, if_pos hk, Option.bind_some] at hF
      dsimp only at hF
      rw [if_neg (show ¬ (1 : Int) = 0 by decide), w18, if_neg hk18, Option.bind_some] at hF
      dsimp only at hF
      rw [i00, e_M_behind1_42, jn1, Option.bind_some] at hF
      dsimp only at hF
      rw [w18', if_neg hk18, Option.bind_some] at hF
      dsimp only at hF
      have eN : zset τ1 37 N 22 0 39 = (N : Int) := by rw [zk (by decide)]; exact e391
      have zN : zin (N : Int) 45 = true := zin_t (by omega) (by omega)
      simp only [e391, Int.toNat_natCast, eN, zN, if_true] at hF
      rw [w32_s (by omega), d2, Option.bind_some, Option.bind_some] at hF
      dsimp only at hF
      rw [in10] at hF
      have hA := ih a q k L ax2 (m + p + r) (D0 + 1) o (N + 1) c σ2 τ2 b2 N2 (Or.inr (by rw [show N + 1 - 1 = N by omega, t2]; decide))
      have hb1 : Nat.blt 1 (6 + 3 * (9 - ar)) = true := by rw [Nat.blt_eq]; omega
      have hb0 : Nat.blt 0 (6 + 3 * (9 - ar)) = true := by rw [Nat.blt_eq]; omega
      have hb4 : Nat.blt (5 + 3 * (9 - ar)) (6 + 3 * (9 - ar)) = true := by rw [Nat.blt_eq]; omega
      rw [if_neg (fun x => x hk), d1]
      simp only [Option.bind_some, hb0, hb1, hb4, cond_true, Int.toNat_natCast]
      refine SOut.step f2 (fk.s.trans g2) hF (SOut.bind hA (fun σ' => ?_) (fun σ3 τ3 hf3 hg3 hP => ?_))
      · dsimp only
        rw [if_pos rfl]
        exact cond12_0
      · obtain ⟨ax4, m', p', o', c', b4, N4, pp1, pp2, s4, o4, l4, k4⟩ := hP
        have e3 : σ3 q 3 = ((m' + p' : Nat) : Int) := N4.2.2.2.1.2.1
        have ho4 := N4.2.2.1
        have hn4 := N4.2.2.2.2.2.1
        have N5 := N4.addC (x := 22) (by omega) (Or.inr ⟨Or.inr rfl, by omega⟩) (Or.inr (Or.inr rfl))
        rw [if_neg (show ¬ (22 : Int) = 20 by decide), show D0 + 1 + 1 - 1 = D0 + 1 by omega] at N5
        dsimp only
        rw [if_neg (show ¬ (1 : Int) = 0 by decide), c_sadd e3 (by omega), Option.bind_some]
        dsimp only
        rw [if_neg (show ¬ (1 : Int) = 0 by decide), w32_s (by omega)]
        refine SOut.step (scd_fr (v := opm 22)) FsM.refl rfl (ihw (i + 1) m' p' 1 o' ax4 (ext c' (m' + p') 22 0 0) _ τ3 (by omega) (b4.fr (fun j' x hj => by rw [scd_ne hj]) (fun _ _ _ _ _ => rfl)) N5 pp1 (Nat.le_refl 1) (fun q1 => ?_) (fun _ => ⟨ext_1, by rw [s4 N (by omega)]; exact t2⟩) (fun x hx => ?_) ?_ (by omega) (by omega))
        · subst q1
          exact ⟨by rw [ext_ne (by omega)]; exact (pp2 rfl).1, (pp2 rfl).2⟩
        · rw [s4 x (by omega), s2 x hx, fk 37 x (by omega) (by decide), hs x hx]
        · have hrr := b4.2.2.2.2.2.2
          unfold isRule at hrr
          rw [scd_ne (by omega)]
          exact k4
    · rw [if_pos hk, if_pos (show zbl 1 = true from rfl)]
      exact ⟨σ, τ, 1, rfl, FsC.refl, FsM.refl, Or.inl ⟨rfl, rfl, ax, m, p, r, o, c, hb, hN, hp, hr, hp1, hr1, hs, by omega, hl, hk18, hk⟩⟩
theorem cond_step (h8 : ar ≤ 8) (ih : AllP ar) : CondP ar := by
  intro a q k L ax n D o N c σ τ h hN hS
  rw [e_Sentence_readCond, show Int.toNat (ar : Int) = ar from rfl, cb (by omega)]
  refine SOut.bind (ih a q k L ax n D o N c σ τ h hN (hS.imp id (fun x => by rw [x]; decide))) (fun σ' => cond12_0) (fun σ1 τ1 hf hg hP => ?_)
  obtain ⟨ax2, m', p', o', c', b2, N2, p1, p2, s2, o2, l2, k2⟩ := hP
  exact cond_loop h8 ih hS 20 0 m' p' 0 o' ax2 c' σ1 τ1 rfl b2 N2 p1 (by omega) p2 (fun q1 => by omega) s2 k2 (by omega) (by omega)
theorem parts_all : ∀ w ar : Nat, ar + w = 8 → OneP ar ∧ AllP ar ∧ CondP ar
  | 0, ar, h => by
    have h1 : OneP ar := one_step (by omega) (fun q1 => by omega)
    have h2 := all_step (by omega) h1
    exact ⟨h1, h2, cond_step (by omega) h2⟩
  | w + 1, ar, h => by
    obtain ⟨g1, g2, g3⟩ := parts_all w (ar + 1) (by omega)
    have h1 : OneP ar := one_step (by omega) (fun _ => ⟨g1, g3⟩)
    have h2 := all_step (by omega) h1
    exact ⟨h1, h2, cond_step (by omega) h2⟩
end G74
