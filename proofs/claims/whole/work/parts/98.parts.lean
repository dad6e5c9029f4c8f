/-! A SENTENCE is read: one part, parts joined by and, by or, both sides -/
section G73
variable {σ τ σ' τ' σ1 τ1 : zH} {q k L ax ax' n m D o N f dp ar : Nat} {a c S : Nat → Int}
/-- the reference's stack grows -/
def psh (τ : zH) (N dp : Nat) (v : Int) : zH := zset (zset (zset τ 37 N v) 0 39 ((N + 1 : Nat) : Int)) 0 40 ((dp + 1 : Nat) : Int)
theorem m_103 (h : τ 0 39 = (N : Int)) (hd : τ 0 40 = (dp : Int)) (hN : N < 45) (hdp : dp < 1000) (v : Int) : f_M_operand_103 τ (τ 0 39) v = some (psh τ N dp v, 1) := by
  have e1 : zset τ 37 N v 0 39 = (N : Int) := by rw [zk (by decide)]; exact h
  have e2 : zset (zset τ 37 N v) 0 39 ((N + 1 : Nat) : Int) 0 40 = (dp : Int) := by rw [zi (by decide), zk (by decide)]; exact hd
  rw [e_M_operand_103, h]
  simp only [Int.toNat_natCast, e1]
  rw [if_pos (zin_t (by omega) (by omega)), w32_s (by omega), e2, w32_s (by omega)]
  rfl
theorem psh_i {j i : Nat} {v : Int} (h : ¬ (j = 0 ∧ (i = 39 ∨ i = 40))) (h37 : ¬ (j = 37 ∧ i = N)) : psh τ N dp v j i = τ j i := by
  unfold psh
  by_cases j0 : j = 0
  · subst j0; rw [zi (by omega), zi (by omega), zk (by decide)]
  · rw [zk j0, zk j0]
    by_cases j37 : j = 37
    · subst j37; rw [zi (by omega)]
    · rw [zk j37]
theorem psh_v {v : Int} : psh τ N dp v 37 N = v := by unfold psh; rw [zk (by decide), zk (by decide), zs]
theorem psh_s {v : Int} : FsM τ (psh τ N dp v) := fun j i h1 h2 h3 => psh_i (by omega) (by omega)
theorem NS.psh (h : NS σ τ q n n D o N 0 dp c) (hN : N + 1 ≤ o) {v : Int} : NS σ (psh τ N dp v) q n n D o (N + 1) 0 (dp + 1) c := by
  obtain ⟨h1, h2, h3, ⟨c1, c2, c3, c4, c5, c6, c7⟩, h5, h6, h7, h8, h9, h10, h11⟩ := h
  refine ⟨h1, by rw [psh_i (by omega) (by omega)]; exact h2, h3, ⟨c1, c2, by rw [psh_i (by omega) (by omega)]; exact c3, c4, fun i hi => by rw [psh_i (by omega) (by omega), psh_i (by omega) (by omega), psh_i (by omega) (by omega)]; exact c5 i hi, c6, c7⟩, h5, h6, h7, ?_, by rw [psh_i (by omega) (by omega)]; exact h9, ?_, by omega⟩
  · unfold _root_.Jvm.Pilot.CRiverTextLaw_law_r1930_856cdd.psh
    rw [zi (by decide), zs]
  · unfold _root_.Jvm.Pilot.CRiverTextLaw_law_r1930_856cdd.psh
    rw [zs]
/-- all that is pending behind parts that are joined -/
theorem cond_top {B p r : Nat} (h : NS σ τ q (m + p + r) m D o (B + r + p) 1 dp c) (hp : p ≤ 1) (hr : r ≤ 1) (h1 : p = 1 → c (1 + 3 * m) = 21 ∧ τ 37 (B + r) = 21) (h2 : r = 1 → c (1 + 3 * (m + p)) = 22 ∧ τ 37 B = 22) (hB : B = 0 ∨ (τ 37 (B - 1) ≠ 20 ∧ τ 37 (B - 1) ≠ 21 ∧ τ 37 (B - 1) ≠ 22)) :
    f_M_nots τ = some (τ, 0) ∧ ∃ τ', f_M_joins τ 22 = some (τ', 0) ∧ NS σ τ' q (m + p + r) (m + p + r) D o B 1 dp c ∧ FkM τ τ' := by
  have hN := h.2.2.2.2.2.2.2.1
  have ho := h.2.2.1
  have hNo := h.2.2.2.2.2.2.2.2.2.2
  have hp01 : p = 0 ∨ p = 1 := by omega
  have hr01 : r = 0 ∨ r = 1 := by omega
  have step2 : ∀ (τ1 : zH) (m1 : Nat), NS σ τ1 q (m1 + r) m1 D o (B + r) 1 dp c → (r = 1 → c (1 + 3 * m1) = 22 ∧ τ1 37 B = 22) → (B = 0 ∨ (τ1 37 (B - 1) ≠ 20 ∧ τ1 37 (B - 1) ≠ 21 ∧ τ1 37 (B - 1) ≠ 22)) → ∃ τ', f_M_joins τ1 22 = some (τ', 0) ∧ NS σ τ' q (m1 + r) (m1 + r) D o B 1 dp c ∧ FkM τ1 τ' := by
    intro τ1 m1 g1 g2 g3
    rcases hr01 with rfl | rfl
    · exact ⟨τ1, m_joins_stop g1.2.2.2.2.2.2.2.1 (by omega) (g3.imp id (fun x => ⟨x.2.1, Or.inl x.2.2⟩)), g1, FkM.refl⟩
    · obtain ⟨q1, q2⟩ := g2 rfl
      obtain ⟨τ2, y1, y2, y3⟩ := joins_pop (x := 22) (v := 22) g1 (by omega) q1 q2 (Or.inr ⟨rfl, rfl⟩)
      refine ⟨τ2, ?_, y2, y3⟩
      rw [y1]
      exact m_joins_stop y2.2.2.2.2.2.2.2.1 (by omega) (by
        rw [y3 37 _ (by omega) (by decide)]
        exact g3.imp id (fun x => ⟨x.2.1, Or.inl x.2.2⟩))
  refine ⟨m_nots_stop hN (by omega) ?_, ?_⟩
  · rcases hp01 with rfl | rfl
    · rcases hr01 with rfl | rfl
      · exact hB.imp id (fun x => x.1)
      · exact Or.inr (by rw [show B + 1 + 0 - 1 = B by omega, (h2 rfl).2]; decide)
    · exact Or.inr (by rw [show B + r + 1 - 1 = B + r by omega, (h1 rfl).2]; decide)
  · rcases hp01 with rfl | rfl
    · exact step2 τ m (by simpa using h) (fun q1 => by simpa using h2 q1) hB
    · obtain ⟨q1, q2⟩ := h1 rfl
      obtain ⟨τ2, y1, y2, y3⟩ := joins_pop (x := 22) (v := 21) (N := B + r) h (by omega) q1 q2 (Or.inl rfl)
      rw [show m + 1 + r = (m + 1) + r from rfl] at y2
      obtain ⟨τ3, z1, z2, z3⟩ := step2 τ2 (m + 1) y2 (fun q3 => ⟨(h2 q3).1, by rw [y3 37 _ (by omega) (by decide)]; exact (h2 q3).2⟩) (by rw [y3 37 _ (by omega) (by decide)]; exact hB)
      exact ⟨τ3, by rw [y1]; exact z1, z2, y3.trans z3⟩
/-- behind one part: its nots are done -/
theorem after_one (h : POne a q k L n D o N ar S σ τ) (h8 : ar ≤ 8) (hS : N = 0 ∨ S (N - 1) ≠ 20) : ∃ (τ' : zH) (ax' n' o' : Nat) (c' : Nat → Int), fS τ = fS τ' ∧ FkM τ τ' ∧ BS a q k L ax' σ τ' ∧ NS σ τ' q n' n' (D + 1) o' N 1 (1 + ar) c' ∧ (∀ i, i < N → τ' 37 i = S i) ∧ o + 1 ≤ o' ∧ n' + (D + 1) + 2 * o ≤ n + D + 2 * o' := by
  obtain ⟨ax', m', j, o', c', b1, n1, p1, s1, s2, o1, l1⟩ := h
  have hN : N = 0 ∨ τ 37 (N - 1) ≠ 20 := by
    by_cases h0 : N = 0
    · exact Or.inl h0
    · rw [s1 _ (by omega)]; exact hS
  obtain ⟨τ', g1, g2, g3⟩ := nots_run j m' (1 + ar) τ (by omega) n1 s2 hN p1 (Nat.le_refl _)
  have hN' : N = 0 ∨ τ' 37 (N - 1) ≠ 20 := by rw [g3 37 _ (by omega) (by decide)]; exact hN
  have hst := m_nots_stop g2.2.2.2.2.2.2.2.1 (by have := g2.2.2.1; have := g2.2.2.2.2.2.2.2.2.2.2; omega) hN'
  refine ⟨τ', ax', m' + j, o', c', F_nots n1.2.2.2.2.2.2.2.2.1 g1 hst g3, g3, b1.fr (fun _ _ _ => rfl) (fun j' i h1 h2 h3 => g3 j' i (by omega) h2), g2, fun i hi => by rw [g3 37 i (by omega) (by decide)]; exact s1 i hi, o1, l1⟩
theorem one_step (h8 : ar ≤ 8) (ih : ar < 8 → OneP (ar + 1) ∧ CondP (ar + 1)) : OneP ar := by
  intro a q k L ax n D o N c σ τ h hN
  have hr := h.2.2.2.2.2.2
  unfold isRule at hr
  obtain ⟨hN1, hN2, hN3, hN4, hN5, hN6, hN7, hN8, hN9, hN10, hN11⟩ := id hN
  have htok := h.1.tok
  have h41 : τ 0 41 = 0 := hN9
  have hF := F_op h41
  rw [m_operand htok] at hF
  have one41 : ∀ br : Int, ((br = 1 ∧ σ 64 4 = 40) ∨ (br = 0 ∧ σ 64 4 ≠ 40 ∧ (σ 64 6 = 19 ∨ 0 ≤ lfv (σ 64 6)))) → SOut (POne a q k L n D o N ar (τ 37)) q σ τ (f_Sentence_readOne_41 σ (4 + 3 * (9 - ar)) q (k + 32) (ar : Int) br (σ 64 6)) := by
    intro br hbr
    have hcond : σ 64 6 = 19 ∨ σ 64 4 = 40 ∨ 0 ≤ lfv (σ 64 6) := by
      rcases hbr with ⟨-, g⟩ | ⟨-, -, g⟩
      · exact Or.inr (Or.inl g)
      · rcases g with g | g
        · exact Or.inl g
        · exact Or.inr (Or.inr g)
    rw [if_pos hcond] at hF
    have hT : τ 0 11 ≠ 4 := by
      rcases hbr with ⟨-, g⟩ | ⟨-, -, g⟩
      · rcases htok with ⟨t1, t2, t3⟩ | ⟨t1, t2, t3⟩ | ⟨t1, t2, t3⟩ | ⟨t1, t2, t3⟩ | ⟨t1, t2, t3, t4⟩ <;> omega
      · have : σ 64 6 ≠ -1 := by
          rcases g with g | g
          · omega
          · have := lfv_in.mp g; omega
        have := key_T htok this
        omega
    have hb0 : Nat.blt 0 (4 + 3 * (9 - ar)) = true := by rw [Nat.blt_eq]; omega
    have hb1 : Nat.blt 1 (4 + 3 * (9 - ar)) = true := by rw [Nat.blt_eq]; omega
    have hb2 : Nat.blt 2 (4 + 3 * (9 - ar)) = true := by rw [Nat.blt_eq]; omega
    obtain ⟨σb, τb, bb1, bb2, bb3⟩ := bad_both h.1 4
    have hbad : fS τ = some (τb, w32 (-1 - (τb 0 16))) → SOut (POne a q k L n D o N ar (τ 37)) q σ τ (some (σb, 0)) := fun e => ⟨σb, τb, 0, rfl, bb3.1.s, bb3.2.1.s, Or.inr ⟨rfl, e, bb3.2.2⟩⟩
    rw [e_Sentence_readOne_41, hN1]
    rw [e_M_operand_38, hN2, hN10] at hF
    by_cases h20 : o = 20
    · rw [if_pos (show (20 : Int) ≤ (o : Int) by omega), cb (by omega), bb1]
      rw [if_pos (show (o : Int) = 20 by omega), bb2] at hF
      exact hbad hF
    rw [if_neg (show ¬ (20 : Int) ≤ (o : Int) by omega)]
    rw [if_neg (show ¬ (o : Int) = 20 by omega)] at hF
    by_cases h88 : ar = 8
    · rw [if_neg (show ¬ (ar : Int) < 8 by omega), cb (by omega), bb1]
      rw [if_neg (show ¬ ((1 + ar : Nat) : Int) ≤ 8 by omega), bb2] at hF
      exact hbad hF
    have har : ar < 8 := by omega
    rw [if_pos (show (ar : Int) < 8 by omega), w32_s (r := o) (by omega), w32_s (r := ar) (by omega)]
    rw [if_pos (show ((1 + ar : Nat) : Int) ≤ 8 by omega), w32_s (by omega)] at hF
    have z1 : ∀ j i, ¬ (q ≤ j ∧ j < q + 4) → zset σ q 4 ((o + 1 : Nat) : Int) j i = σ j i := fun j i hj => by rw [zk (by omega)]
    have z2 : ∀ j i, ¬ (j = 0 ∧ i = 38) → zset τ 0 38 ((o + 1 : Nat) : Int) j i = τ j i := fun j i hj => by
      by_cases j0 : j = 0
      · subst j0; rw [zi (by omega)]
      · rw [zk j0]
    have b1 : BS a q k L ax (zset σ q 4 ((o + 1 : Nat) : Int)) (zset τ 0 38 ((o + 1 : Nat) : Int)) := h.fr z1 (fun j i h1 h2 h3 => z2 j i (by omega))
    obtain ⟨σ2, τ2, ax2, d1, d2, d3, d4, b2⟩ := b1.adv (by rw [z2 0 11 (by omega)]; exact hT)
    have N1 : NS (zset σ q 4 ((o + 1 : Nat) : Int)) (zset τ 0 38 ((o + 1 : Nat) : Int)) q n n D (o + 1) N 0 (1 + ar) c := by
      obtain ⟨c1, c2, c3, c4, c5, c6, c7⟩ := hN4
      refine ⟨zs, zs, by omega, ⟨c1, by rw [zi (by decide)]; exact c2, by rw [z2 0 37 (by omega)]; exact c3, fun i hi => by rw [zk (by omega), zk (by omega), zk (by omega)]; exact c4 i hi, fun i hi => by rw [zk (by decide)]; exact c5 i hi, c6, c7⟩, hN5, by omega, by omega, by rw [z2 0 39 (by omega)]; exact hN8, by rw [z2 0 41 (by omega)]; exact hN9, by rw [z2 0 40 (by omega)]; exact hN10, by omega⟩
    have N2 := N1.tok h.2.2.2.2.2.2 d3 d4
    have f2 : FsC q σ σ2 := (FsC.set ⟨Nat.le_refl q, by omega⟩).trans d3.w.s
    have g2 : FsM τ τ2 := (FsM.set (by omega)).trans d4.w.s
    have s37 : ∀ i, τ2 37 i = τ 37 i := fun i => by rw [d4.cell (by decide), zk (by decide)]
    have w39 : τ2 0 39 = (N : Int) := N2.2.2.2.2.2.2.2.1
    have w40 : τ2 0 40 = ((1 + ar : Nat) : Int) := N2.2.2.2.2.2.2.2.2.2.1
    rw [d2, Option.bind_some] at hF
    dsimp only at hF
    rw [d1]
    simp only [Option.bind_some, hb0, hb1, hb2, cond_true, Int.toNat_natCast]
    have hbo : Nat.blt (4 + 3 * (9 - (ar + 1))) (4 + 3 * (9 - ar)) = true := by rw [Nat.blt_eq]; omega
    have hbc : Nat.blt (6 + 3 * (9 - (ar + 1))) (4 + 3 * (9 - ar)) = true := by rw [Nat.blt_eq]; omega
    simp only [hbo, hbc, cond_true]
    rcases hbr with ⟨rfl, hk⟩ | ⟨rfl, hk, hkey⟩
    · -- a bracket
      have hkm : σ 64 6 = -1 := by
        rcases htok with ⟨t1, t2, t3⟩ | ⟨t1, t2, t3⟩ | ⟨t1, t2, t3⟩ | ⟨t1, t2, t3⟩ | ⟨t1, t2, t3, t4⟩
        · exact t3
        · exact t3
        · exfalso; omega
        · exfalso; omega
        · exact t4
      rw [if_neg (show ¬ (1 : Int) = 0 by decide)]
      rw [if_neg (show ¬ σ 64 6 = 19 by omega), if_neg (show ¬ ¬ (0 : Int) = 0 from fun y => y rfl), if_pos hk, if_neg (show ¬ (1 : Int) = 0 by decide), if_pos (show (0 : Int) = 0 from rfl), m_103 w39 w40 (by omega) (by omega), Option.bind_some] at hF
      dsimp only at hF
      rw [in10] at hF
      have N3 := N2.psh (v := 23) (by omega)
      have b3 : BS a q k L ax2 σ2 (psh τ2 N (1 + ar) 23) := b2.fr (fun _ _ _ => rfl) (fun j i h1 h2 h3 => psh_i (by omega) (by omega))
      rw [show 1 + ar + 1 = 1 + (ar + 1) by omega] at N3
      have hC := (ih har).2 a q k L ax2 n D (o + 1) (N + 1) c σ2 (psh τ2 N (1 + ar) 23) b3 N3 (Or.inr (by rw [show N + 1 - 1 = N by omega]; exact psh_v))
      refine SOut.step f2 (g2.trans psh_s) hF (SOut.bind hC (fun σ' => if_pos rfl) (fun σ3 τ3 hf3 hg3 hP => ?_))
      obtain ⟨ax3, m', p, r, o', c', b4, N4, p1, r1, p2, r2, s4, o4, l4, k18, k17⟩ := hP
      have hB : N + 1 = 0 ∨ (τ3 37 (N + 1 - 1) ≠ 20 ∧ τ3 37 (N + 1 - 1) ≠ 21 ∧ τ3 37 (N + 1 - 1) ≠ 22) := by
        refine Or.inr ?_
        rw [show N + 1 - 1 = N by omega, s4 N (by omega), psh_v]
        decide
      obtain ⟨nt, τ4, jn, N5, fk⟩ := cond_top N4 p1 r1 p2 r2 hB
      have e41 : τ3 0 41 = 1 := N4.2.2.2.2.2.2.2.2.1
      have b5 : BS a q k L ax3 σ3 τ4 := b4.fr (fun _ _ _ => rfl) (fun j' i h1 h2 h3 => fk j' i (by omega) h2)
      have e39 : τ4 0 39 = ((N + 1 : Nat) : Int) := N5.2.2.2.2.2.2.2.1
      have e40 : τ4 0 40 = ((1 + (ar + 1) : Nat) : Int) := N5.2.2.2.2.2.2.2.2.2.1
      obtain ⟨σc, τc, cc1, cc2, cc3⟩ := bad_both b5.1 1
      dsimp only
      rw [if_neg (show ¬ (1 : Int) = 0 by decide), e_Tape_passes]
      have hbadc : fS τ3 = some (τc, w32 (-1 - (τc 0 16))) → SOut (POne a q k L n D o N ar (τ 37)) q σ3 τ3 (some (σc, 0)) := fun e => ⟨σc, τc, 0, rfl, cc3.1.s, fk.s.trans cc3.2.1.s, Or.inr ⟨rfl, e, cc3.2.2⟩⟩
      by_cases hT3 : τ3 0 11 = 0
      · have hk3 : ¬ σ3 64 4 = 41 := by
          rcases b4.1.tok with ⟨t1, t2, t3⟩ | ⟨t1, t2, t3⟩ | ⟨t1, t2, t3⟩ | ⟨t1, t2, t3⟩ | ⟨t1, t2, t3, t4⟩ <;> omega
        have hF3 := F_end e41 hT3
        rw [nt, Option.bind_some] at hF3
        dsimp only at hF3
        rw [jn, Option.bind_some] at hF3
        dsimp only at hF3
        rw [if_neg (show ¬ τ4 0 39 ≤ 0 by omega), cc2, Option.bind_some] at hF3
        rw [if_neg hk3, cc1]
        exact hbadc hF3
      · have hF3 := F_bh e41 hT3
        have w18 : f_M_isWord τ3 6385252 = some (τ3, if σ3 64 6 = 18 then 1 else 0) := m_isWord (i := 18) (by decide) b4.1.tok
        have w17 : f_M_isWord τ3 28530 = some (τ3, if σ3 64 6 = 17 then 1 else 0) := m_isWord (i := 17) (by decide) b4.1.tok
        rw [e_M_behind1, nt, Option.bind_some] at hF3
        dsimp only at hF3
        rw [w18, if_neg k18, Option.bind_some] at hF3
        dsimp only at hF3
        rw [in00, w17, if_neg k17, Option.bind_some] at hF3
        dsimp only at hF3
        rw [i00, jn, Option.bind_some] at hF3
        dsimp only at hF3
        rw [m_isSign (by decide) b5.1.tok, Option.bind_some] at hF3
        dsimp only at hF3
        by_cases hk3 : σ3 64 4 = 41
        · have hT4 : τ4 0 11 ≠ 4 := by
            rcases b5.1.tok with ⟨t1, t2, t3⟩ | ⟨t1, t2, t3⟩ | ⟨t1, t2, t3⟩ | ⟨t1, t2, t3⟩ | ⟨t1, t2, t3, t4⟩ <;> omega
          have y0 : ∀ j i, ¬ (j = 0 ∧ (i = 39 ∨ i = 40)) → zset (zset τ4 0 39 (N : Int)) 0 40 ((1 + ar : Nat) : Int) j i = τ4 j i := fun j i hj => by
            by_cases j0 : j = 0
            · subst j0; rw [zi (by omega), zi (by omega)]
            · rw [zk j0, zk j0]
          have y1 : w32 (((N + 1 : Nat) : Int) - 1) = (N : Int) := by rw [w32_id (by omega) (by omega)]; omega
          have y2 : w32 (((1 + (ar + 1) : Nat) : Int) - 1) = ((1 + ar : Nat) : Int) := by rw [w32_id (by omega) (by omega)]; omega
          have b6 : BS a q k L ax3 σ3 (zset (zset τ4 0 39 (N : Int)) 0 40 ((1 + ar : Nat) : Int)) := b5.fr (fun _ _ _ => rfl) (fun j' i h1 h2 h3 => y0 j' i (by omega))
          have N6 : NS σ3 (zset (zset τ4 0 39 (N : Int)) 0 40 ((1 + ar : Nat) : Int)) q (m' + p + r) (m' + p + r) (D + 1) o' N 1 (1 + ar) c' := by
            obtain ⟨v1, v2, v3, ⟨u1, u2, u3, u4, u5, u6, u7⟩, v5, v6, v7, v8, v9, v10, v11⟩ := N5
            refine ⟨v1, by rw [y0 0 38 (by omega)]; exact v2, v3, ⟨u1, u2, by rw [y0 0 37 (by omega)]; exact u3, u4, fun i hi => by rw [y0 9 _ (by omega), y0 9 _ (by omega), y0 9 _ (by omega)]; exact u5 i hi, u6, u7⟩, v5, v6, v7, by rw [zi (by decide), zs], by rw [y0 0 41 (by omega)]; exact v9, zs, by omega⟩
          obtain ⟨σ7, τ7, ax7, x1, x2, x3, x4, b7⟩ := b6.adv (by rw [y0 0 11 (by omega)]; exact hT4)
          rw [if_pos hk3, if_neg (show ¬ (1 : Int) = 0 by decide), if_pos (show ¬ τ4 0 39 = 0 by omega), e39, y1, zi (show (40 : Nat) ≠ 39 by decide), e40, y2, x2, Option.bind_some, Option.bind_some] at hF3
          dsimp only at hF3
          rw [in10] at hF3
          rw [if_pos hk3, x1]
          refine ⟨σ7, τ7, 1, rfl, x3.w.s, ?_, Or.inl ⟨rfl, hF3, ax7, m' + p + r, 0, o', c', b7, N6.tok h.2.2.2.2.2.2 x3 x4, fun i i0 i1 => by omega, fun i hi => ?_, fun i i0 i1 => by omega, by omega, by omega⟩⟩
          · exact fk.s.trans (FsM.trans ((FsM.set (by omega)).trans (FsM.set (by omega))) x4.w.s)
          · rw [x4.cell (by decide), y0 37 i (by omega), fk 37 i (by omega) (by decide), s4 i (by omega), psh_i (by omega) (by omega)]
            exact s37 i
        · rw [if_neg hk3, i00, cc2] at hF3
          rw [if_neg hk3, cc1]
          exact hbadc hF3
    · -- a word
      rw [if_pos (show (0 : Int) = 0 from rfl)]
      rw [if_neg hk] at hF
      have postS : ∀ σ' τ', POne a q k L n D o N ar (τ2 37) σ' τ' → POne a q k L n D o N ar (τ 37) σ' τ' := fun σ' τ' hp => by
        rw [show τ2 37 = τ 37 from funext s37] at hp
        exact hp
      have fin : ∀ (C M : zR), SIn (POne a q k L n D o N ar (τ2 37)) q σ2 τ2 C M → fS τ = M.bind (fun r1 => if ¬ r1.2 = 0 then fS r1.1 else some (r1.1, w32 (-1 - (r1.1 0 16)))) → SOut (POne a q k L n D o N ar (τ 37)) q σ τ C := fun C M hI e => (SIn.out (SIn.step f2 g2 hI) e).post postS
      by_cases k19 : σ 64 6 = 19
      · -- not
        rw [if_neg (show ¬ σ 64 6 = 13 by omega), if_neg (show ¬ σ 64 6 = 14 by omega), if_neg (show ¬ σ 64 6 = 15 by omega), if_neg (show ¬ σ 64 6 = 16 by omega), if_neg (show ¬ σ 64 6 = 17 by omega), if_neg (show ¬ σ 64 6 = 18 by omega), if_pos k19]
        rw [if_pos k19, if_pos (show ¬ (1 : Int) = 0 by decide), if_neg (show ¬ (1 : Int) = 0 by decide), m_103 w39 w40 (by omega) (by omega), Option.bind_some] at hF
        dsimp only at hF
        rw [in10] at hF
        have N3 := N2.psh (v := 20) (by omega)
        have b3 : BS a q k L ax2 σ2 (psh τ2 N (1 + ar) 20) := b2.fr (fun _ _ _ => rfl) (fun j i h1 h2 h3 => psh_i (by omega) (by omega))
        rw [show 1 + ar + 1 = 1 + (ar + 1) by omega] at N3
        have hC := (ih har).1 a q k L ax2 n D (o + 1) (N + 1) c σ2 (psh τ2 N (1 + ar) 20) b3 N3
        refine SOut.step f2 (g2.trans psh_s) hF (SOut.bind hC (fun σ' => if_pos rfl) (fun σ3 τ3 hf3 hg3 hP => ?_))
        obtain ⟨ax3, m', j, o', c', b4, N4, p4, s4, s5, o4, l4⟩ := hP
        have e3 : σ3 q 3 = ((m' + j : Nat) : Int) := N4.2.2.2.1.2.1
        have o20 := N4.2.2.1
        have N5 := N4.addC (x := 20) (by omega) (Or.inl rfl) (Or.inl (by omega))
        rw [if_pos rfl] at N5
        dsimp only
        rw [if_neg (show ¬ (1 : Int) = 0 by decide), c_sadd e3 (by omega), Option.bind_some]
        dsimp only
        rw [if_neg (show ¬ (1 : Int) = 0 by decide)]
        refine ⟨_, τ3, 1, rfl, scd_fr, FsM.refl, Or.inl ⟨rfl, rfl, ax3, m', j + 1, o', ext c' (m' + j) 20 0 0, b4.fr (fun j' i hj => by rw [scd_ne hj]) (fun _ _ _ _ _ => rfl), ?_, fun i i0 i1 => ?_, fun i hi => ?_, fun i i0 i1 => ?_, by omega, by omega⟩⟩
        · rw [show m' + (j + 1) = m' + j + 1 by omega, show N + (j + 1) = N + 1 + j by omega, show 1 + ar + (j + 1) = 1 + (ar + 1) + j by omega]
          exact N5
        · by_cases hij : i = m' + j
          · rw [hij, ext_1]
          · rw [ext_ne (by omega)]; exact p4 i i0 (by omega)
        · rw [s4 i (by omega), psh_i (by omega) (by omega)]; exact s37 i
        · by_cases hiN : i = N
          · rw [hiN, s4 N (by omega), psh_v]
          · exact s5 i (by omega) (by omega)
      · have hlf : 0 ≤ lfv (σ 64 6) := hkey.resolve_left k19
        have hl2 := lfv_in.mp hlf
        rw [if_neg k19, if_neg (show ¬ ¬ (0 : Int) = 0 from fun y => y rfl), if_pos (show (0 : Int) = 0 from rfl)] at hF
        have hno := N2.2.2.2.2.2.1
        by_cases k13 : σ 64 6 = 13
        · have l13 : lfv (σ 64 6) = 0 := by rw [k13]; rfl
          rw [if_pos k13, k13]
          rw [l13, if_pos (show ¬ (0 : Int) = 2 by decide), if_neg (show ¬ (2 : Int) ≤ 0 by decide), if_neg (show ¬ ¬ (0 : Int) = 0 from fun y => y rfl), if_neg (show ¬ ¬ (0 : Int) = 0 from fun y => y rfl)] at hF
          have hI := leaf_name (x := 0) (s := 0) b2 N2 (by omega) (by omega) (by omega) (Or.inl ⟨rfl, rfl⟩)
          exact fin _ _ hI hF
        · rw [if_neg k13, if_neg (show ¬ σ 64 6 = 14 by omega), if_neg (show ¬ σ 64 6 = 15 by omega), if_neg (show ¬ σ 64 6 = 16 by omega), if_neg (show ¬ σ 64 6 = 17 by omega), if_neg (show ¬ σ 64 6 = 18 by omega), if_neg k19]
          by_cases k20 : σ 64 6 = 20
          · have l20 : lfv (σ 64 6) = 1 := by rw [k20]; rfl
            rw [if_pos k20, k20]
            rw [l20, if_pos (show ¬ (1 : Int) = 2 by decide), if_neg (show ¬ (2 : Int) ≤ 1 by decide), if_pos (show ¬ (1 : Int) = 0 by decide), if_pos (show ¬ (1 : Int) = 0 by decide)] at hF
            have hI := leaf_name (x := 1) (s := 1) b2 N2 (by omega) (by omega) (by omega) (Or.inr ⟨rfl, rfl⟩)
            exact fin _ _ hI hF
          · rw [if_neg k20]
            by_cases k21 : σ 64 6 = 21
            · have l21 : lfv (σ 64 6) = 2 := by rw [k21]; rfl
              rw [if_pos k21]
              rw [l21, if_neg (show ¬ ¬ (2 : Int) = 2 from fun y => y rfl)] at hF
              have e3 : σ2 q 3 = (n : Int) := N2.2.2.2.1.2.1
              have z41 : ∀ j i, ¬ (j = 0 ∧ (i = 18 ∨ i = 41)) → zset τ2 0 41 1 j i = τ2 j i := fun j i hj => by
                by_cases j0 : j = 0
                · subst j0; rw [zi (by omega)]
                · rw [zk j0]
              have e37 : zset τ2 0 41 1 0 37 = (n : Int) := by rw [zi (by decide)]; exact N2.2.2.2.1.2.2.1
              obtain ⟨b3, N3⟩ := leaf_done (x := 2) (y := 0) (z := 0) b2 N2 (by omega) (by omega) (by omega) (by decide) (fun q1 => absurd q1 (by decide)) z41 zs
              rw [m_code e37 (by omega), Option.bind_some] at hF
              rw [c_sadd e3 (by omega), Option.bind_some]
              refine fin _ (some (mcd (zset τ2 0 41 1) n 2 0 0, 1)) ⟨_, _, 1, rfl, rfl, scd_fr, (FsM.set (by omega)).trans mcd_k.s, Or.inl ⟨rfl, ax2, n + 1, 0, o + 1, _, b3, N3, fun i i0 i1 => by omega, fun i hi => ?_, fun i i0 i1 => by omega, by omega, by omega⟩⟩ hF
              rw [mcd_ne (by omega) (by decide), zk (by decide)]
            · rw [if_neg k21]
              have hv : ∃ x : Int, lfv (σ 64 6) = x ∧ 3 ≤ x ∧ x ≤ 6 ∧ opm x = σ 64 6 := by
                have h4 : σ 64 6 = 22 ∨ σ 64 6 = 23 ∨ σ 64 6 = 24 ∨ σ 64 6 = 25 := by omega
                rcases h4 with g | g | g | g
                · exact ⟨3, by rw [g]; rfl, by decide, by decide, by rw [g]; rfl⟩
                · exact ⟨4, by rw [g]; rfl, by decide, by decide, by rw [g]; rfl⟩
                · exact ⟨5, by rw [g]; rfl, by decide, by decide, by rw [g]; rfl⟩
                · exact ⟨6, by rw [g]; rfl, by decide, by decide, by rw [g]; rfl⟩
              obtain ⟨x, x1, x2, x3, x4⟩ := hv
              rw [x1, if_pos (show ¬ x = 2 by omega), if_pos (show 2 ≤ x by omega)] at hF
              have hI := leaf_measure (x := x) b2 N2 (by omega) (by omega) (by omega) ⟨x2, x3⟩
              rw [x4] at hI
              rw [obind]
              exact fin _ _ hI hF
  rw [e_Sentence_readOne, show Int.toNat (ar : Int) = ar from rfl]
  by_cases hk : σ 64 4 = 40
  · rw [if_neg (fun y => y hk), if_pos (show ¬ (1 : Int) = 0 by decide)]
    exact one41 1 (Or.inl ⟨rfl, hk⟩)
  · rw [if_pos hk, if_neg (show ¬ ¬ (0 : Int) = 0 from fun y => y rfl), cb (by omega), c_begins, Option.bind_some]
    dsimp only
    by_cases hb : σ 64 6 = 19 ∨ 0 ≤ lfv (σ 64 6)
    · rw [if_pos hb, in10]
      exact one41 0 (Or.inr ⟨rfl, hk, hb⟩)
    · obtain ⟨σb, τb, bb1, bb2, bb3⟩ := bad_both h.1 1
      rw [if_neg (show ¬ (σ 64 6 = 19 ∨ σ 64 4 = 40 ∨ 0 ≤ lfv (σ 64 6)) from fun y => y.elim (fun z => hb (Or.inl z)) (fun z => z.elim hk (fun z' => hb (Or.inr z')))), bb2] at hF
      rw [if_neg hb, in00, cb (by omega), bb1]
      exact ⟨σb, τb, 0, rfl, bb3.1.s, bb3.2.1.s, Or.inr ⟨rfl, hF, bb3.2.2⟩⟩
end G73
