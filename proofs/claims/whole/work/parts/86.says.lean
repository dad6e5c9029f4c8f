/-! LINES of a country, both sides: what is said on a reach -/
section G61
variable {σ τ σ' τ' σ0 σ1 τ1 : zH} {k L a n R : Nat} {b nm : Nat → Int}
/-- what is so while a saying is read: the country of the class is at n, its row not yet -/
def SI (σ0 : zH) (b nm : Nat → Int) (k L R n a : Nat) (σ τ : zH) : Prop := QS σ τ k L a b ∧ (∀ j, k ≤ j → j < k + 64 → j ≠ k + 6 → j ≠ k + 7 → σ j = σ0 j) ∧ (∀ i, i ≠ R → σ (k + 6) i = σ0 (k + 6) i) ∧ σ (k + 6) R = (n : Int) ∧ (∀ j, j < n → σ (k + 7) (12 * R + j) = τ 8 (48 + 12 * R + j) ∧ 0 ≤ τ 8 (48 + 12 * R + j) ∧ τ 8 (48 + 12 * R + j) < b 0) ∧ (∀ i, ¬ (12 * R ≤ i ∧ i < 12 * R + 12) → σ (k + 7) i = σ0 (k + 7) i) ∧ (∀ j, ¬ (48 + 12 * R ≤ j ∧ j < 48 + 12 * R + 12) → τ 8 j = b j) ∧ τ 10 = nm
def SayOut (σ0 : zH) (b nm : Nat → Int) (k L R n a : Nat) (σ τ : zH) (C M : zR) : Prop := ∃ σ' τ' r, C = some (σ', r) ∧ M = some (τ', r) ∧ FcC k σ σ' ∧ FcM τ τ' ∧ ((r = 1 ∧ τ 0 11 ≠ 4 ∧ ∃ n' a' τ1, 1 ≤ n' ∧ n' ≤ 12 ∧ a ≤ a' ∧ SI σ0 b nm k L R n' a' σ' τ1 ∧ τ' = zset τ1 8 (40 + R) (n' : Int)) ∨ (r = 0 ∧ Flt σ' τ'))
theorem SayOut.bad (f : FcC k σ σ1) (g : FcM τ τ1) (h : Bad σ1 τ1 σ' τ') : SayOut σ0 b nm k L R n a σ τ (some (σ', 0)) (some (τ', 0)) := ⟨σ', τ', 0, rfl, rfl, f.trans h.1.c, g.trans h.2.1.c, Or.inr ⟨rfl, h.2.2⟩⟩
theorem says_one (hk : isLand k) (hR : R < 8) (h : SI σ0 b nm k L R n a σ τ) (hn : n ≤ 12) (nx : ∀ (σ τ : zH) (a : Nat), n < 12 → SI σ0 b nm k L R (n + 1) a σ τ → SayOut σ0 b nm k L R (n + 1) a σ τ (f_CountryReader_readSays_72 σ (R : Int) ((n + 1 : Nat) : Int)) (f_M_readSays_54 τ (R : Int) ((n + 1 : Nat) : Int))) :
    SayOut σ0 b nm k L R n a σ τ (f_CountryReader_readSays_96 σ (R : Int) (n : Int)) (f_M_readSays_67 τ (R : Int) (n : Int)) := by
  have hkl := hk
  unfold isLand at hkl
  obtain ⟨q, i1, i2, i3, i4, i5, i6, i7⟩ := h
  rw [e_CountryReader_readSays_96, q.hz, q.hk, if_pos rfl, e_M_readSays_67]
  rcases q.term with ⟨m, u1, u2, u3, u4⟩ | ⟨σ6, τ6, u1, u2, u3⟩
  · rw [u3, u4, Option.bind_some, Option.bind_some]
    dsimp only
    rw [if_pos (show ¬ (m : Int) = -1 by omega), in10]
    have c0 := q.2.2.2.1.1
    by_cases h12 : n = 12
    · obtain ⟨σ', τ', b1, b2, b3⟩ := bad_both (q.fr (τ' := zset τ 0 18 (m : Int)) (fun _ _ => rfl) rfl rfl (fun _ _ _ => rfl) (fun i hi => zi (by omega)) (zk (by decide)) (zk (by decide)) (fun i _ => by rw [zk (by decide)]) (fun _ _ _ _ => by rw [zk (by decide)])).1 4
      rw [if_pos (show (12 : Int) ≤ (n : Int) by omega), w32_s (by omega), e_CountryReader_readSays_72, if_pos (show (12 : Int) < ((n + 1 : Nat) : Int) by omega), if_neg (show ¬ ¬ (n : Int) = 12 by omega), b1, b2]
      exact SayOut.bad FcC.refl FcM.s18 b3
    · have z18 : zset τ 0 18 (m : Int) 0 18 = (m : Int) := zs
      have hzz : zio 1 (σ 32 1) = true := q.hz
      have hkk : Int.toNat (σ 32 1) = k := q.hk
      have hadd : f_Country_addSaid σ k (R : Int) (m : Int) = some (zset (zset σ (k + 7) (12 * R + n) (m : Int)) (k + 6) R ((n + 1 : Nat) : Int), 0) := by
        have e6 : zset σ (k + 7) (12 * R + n) (m : Int) (k + 6) R = (n : Int) := by rw [zk (by omega)]; exact i3
        rw [e_Country_addSaid, if_pos (zin_t (by omega) (by omega)), show Int.toNat (R : Int) = R from rfl, i3, w32_id (x := (R : Int) * 12) (by omega) (by omega), w32_id (x := (R : Int) * 12 + (n : Int)) (by omega) (by omega), if_pos (zin_t (by omega) (by omega)), if_pos (zin_t (by omega) (by omega)), if_pos (zin_t (by omega) (by omega)), show Int.toNat ((R : Int) * 12 + (n : Int)) = 12 * R + n by omega, e6, w32_s (by omega)]
      rw [if_neg (show ¬ (12 : Int) ≤ (n : Int) by omega), hzz, if_pos rfl, hkk, hadd, Option.bind_some, if_pos (show ¬ (n : Int) = 12 by omega), z18, w32_id (x := 12 * (R : Int)) (by omega) (by omega), w32_id (x := 48 + 12 * (R : Int)) (by omega) (by omega), w32_id (x := 48 + 12 * (R : Int) + (n : Int)) (by omega) (by omega), if_pos (zin_t (by omega) (by omega)), show Int.toNat (48 + 12 * (R : Int) + (n : Int)) = 48 + 12 * R + n by omega]
      dsimp only
      have q2 : QS (zset (zset σ (k + 7) (12 * R + n) (m : Int)) (k + 6) R ((n + 1 : Nat) : Int)) (zset (zset τ 0 18 (m : Int)) 8 (48 + 12 * R + n) (m : Int)) k L a b := q.fr (fun i _ => by rw [zk (by omega), zk (by omega)]) (by rw [zk (by omega), zk (by omega)]) (by rw [zk (by omega), zk (by omega)]) (fun j j0 j1 => by rw [zk (by omega), zk (by omega)]) (fun i hi => by rw [zk (by decide), zi (by omega)]) (by rw [zk (by decide), zk (by decide)]) (by rw [zk (by decide), zk (by decide)]) (fun i hi => by rw [zi (by omega), zk (by decide)]) (fun _ _ _ _ => by rw [zk (by decide), zk (by decide)])
      obtain ⟨σ2, τ2, a2, d1, d2, d3, d4, d5, d6⟩ := q2.adv (by rw [zk (by decide), zi (by decide), u2]; decide)
      have hd6 := d6 (by rw [zk (by decide), zi (by decide), u2]; decide)
      have c7 : σ2 (k + 7) = zset σ (k + 7) (12 * R + n) (m : Int) (k + 7) := by rw [d3.cell (by omega), zk (by omega)]
      have c6 : σ2 (k + 6) = zset (zset σ (k + 7) (12 * R + n) (m : Int)) (k + 6) R ((n + 1 : Nat) : Int) (k + 6) := d3.cell (by omega)
      have m8 : τ2 8 = zset (zset τ 0 18 (m : Int)) 8 (48 + 12 * R + n) (m : Int) 8 := d4.cell (by decide)
      have s2 : SI σ0 b nm k L R (n + 1) a2 σ2 τ2 := by
        refine ⟨d5, fun j j0 j1 j6 j7 => by rw [d3.cell (by omega), zk j6, zk j7, i1 j j0 j1 j6 j7], fun i hi => by rw [c6, zi hi, zk (by omega), i2 i hi], by rw [c6, zs], fun j hj => ?_, fun i hi => by rw [c7, zi (by omega), i5 i hi], fun j hj => by rw [m8, zi (by omega), zk (by decide), i6 j hj], by rw [d4.cell (by decide), zk (by decide), zk (by decide)]; exact i7⟩
        by_cases hjn : j = n
        · subst hjn
          rw [c7, m8, zs, zs]
          exact ⟨rfl, by omega, u1⟩
        · rw [c7, m8, zi (by omega), zi (by omega), zk (by decide)]
          exact i4 j (by omega)
      rw [d1, d2, Option.bind_some, Option.bind_some]
      dsimp only
      rw [w32_s (by omega)]
      obtain ⟨σ', τ', r, y1, y2, y3, y4, y5⟩ := nx σ2 τ2 a2 (by omega) s2
      refine ⟨σ', τ', r, y1, y2, (fun j i h1 h2 h3 => ?_), ((FcM.s18.trans FcM.s8).trans d4.w.c).trans y4, ?_⟩
      · rw [y3 j i h1 h2 h3, d3.w j i h1, zk (by omega), zk (by omega)]
      · rcases y5 with ⟨r1, t4, n', a', τ1, x1, x2, x3, x4⟩ | y5
        · have := hd6 t4
          exact Or.inl ⟨r1, by rw [u2]; decide, n', a', τ1, x1, x2, by omega, x4⟩
        · exact Or.inr y5
  · rw [u1, u2, Option.bind_some, Option.bind_some]
    dsimp only
    rw [if_neg (fun x => x rfl), in00]
    exact SayOut.bad FcC.refl FcM.refl u3
theorem says_loop (hk : isLand k) (hR : R < 8) : ∀ (r n : Nat) (σ τ : zH) (a : Nat), n + r = 12 → SI σ0 b nm k L R n a σ τ → SayOut σ0 b nm k L R n a σ τ (f_CountryReader_readSays_72 σ (R : Int) (n : Int)) (f_M_readSays_54 τ (R : Int) (n : Int)) := by
  intro r
  induction r with
  | zero =>
    intro n σ τ a hn h
    have h67 := says_one hk hR h (by omega) (fun _ _ _ hx => by omega)
    rw [e_CountryReader_readSays_72, if_neg (show ¬ (12 : Int) < (n : Int) by omega), if_neg (show ¬ (n : Int) ≤ 0 by omega), e_M_readSays_54, if_neg (show ¬ (n : Int) = 0 by omega), m_isSign (by decide) h.1.1.tok, Option.bind_some]
    dsimp only
    by_cases hs : σ 64 4 = 59
    · rw [if_neg (fun x => x hs), if_pos hs, in10, w32_id (x := 40 + (R : Int)) (by omega) (by omega), if_pos (zin_t (by omega) (by omega)), show Int.toNat (40 + (R : Int)) = 40 + R by omega]
      refine ⟨σ, _, 1, rfl, rfl, FcC.refl, FcM.s8, Or.inl ⟨rfl, ?_, n, a, τ, by omega, by omega, Nat.le_refl a, h, rfl⟩⟩
      rcases h.1.1.tok with ⟨t1, t2, t3⟩ | ⟨t1, t2, t3⟩ | ⟨t1, t2, t3⟩ | ⟨t1, t2, t3⟩ | ⟨t1, t2, t3, t4⟩ <;> omega
    · rw [if_pos hs, if_neg hs, in00]
      exact h67
  | succ r ih =>
    intro n σ τ a hn h
    have h67 := says_one hk hR h (by omega) (fun σ τ a _ hx => ih (n + 1) σ τ a (by omega) hx)
    rw [e_CountryReader_readSays_72, if_neg (show ¬ (12 : Int) < (n : Int) by omega), e_M_readSays_54]
    by_cases h0 : n = 0
    · rw [if_pos (show (n : Int) ≤ 0 by omega), if_pos (show (n : Int) = 0 by omega)]
      exact h67
    · rw [if_neg (show ¬ (n : Int) ≤ 0 by omega), if_neg (show ¬ (n : Int) = 0 by omega), m_isSign (by decide) h.1.1.tok, Option.bind_some]
      dsimp only
      by_cases hs : σ 64 4 = 59
      · rw [if_neg (fun x => x hs), if_pos hs, in10, w32_id (x := 40 + (R : Int)) (by omega) (by omega), if_pos (zin_t (by omega) (by omega)), show Int.toNat (40 + (R : Int)) = 40 + R by omega]
        refine ⟨σ, _, 1, rfl, rfl, FcC.refl, FcM.s8, Or.inl ⟨rfl, ?_, n, a, τ, by omega, by omega, Nat.le_refl a, h, rfl⟩⟩
        rcases h.1.1.tok with ⟨t1, t2, t3⟩ | ⟨t1, t2, t3⟩ | ⟨t1, t2, t3⟩ | ⟨t1, t2, t3⟩ | ⟨t1, t2, t3, t4⟩ <;> omega
      · rw [if_pos hs, if_neg hs, in00]
        exact h67
theorem l_says (h : CS σ τ k L a) (hT : τ 0 11 = 1) : Lin k L a σ τ (f_CountryReader_readSays σ) (f_M_readSays τ) := by
  have hkl := h.2.1.1
  unfold isLand at hkl
  have c1 := h.2.1.2.2.2.1.1.2.1
  obtain ⟨σ1, τ1, a1, d1, d2, d3, d4, d5, d6⟩ := h.adv (by omega)
  have e8 : τ1 8 = τ 8 := d4.cell (by decide)
  rw [e_CountryReader_readSays, e_M_readSays, d1, d2, Option.bind_some, Option.bind_some]
  dsimp only
  have hzz : zio 1 (σ1 32 1) = true := d5.q.hz
  have hkk : Int.toNat (σ1 32 1) = k := d5.q.hk
  simp only [hzz, hkk, if_true]
  rcases d5.q.reach with ⟨R, u1, u2, u3, u4⟩ | ⟨σ6, τ6, u1, u2, u3⟩
  · rw [u3, u4, Option.bind_some, Option.bind_some]
    dsimp only
    simp only [hzz, hkk, if_true]
    have c18 := d5.2.1.2.2.2.1.1.2.1
    have hR8 : R < 8 := by omega
    have z18 : zset τ1 0 18 (R : Int) 0 18 = (R : Int) := zs
    have e8' : zset τ1 0 18 (R : Int) 8 = τ1 8 := zk (by decide)
    have hl := (d5.2.1.2.2.1.2.2.1 (R : Int) (by omega) u1).1
    have k40 : σ1 (k + 6) R = τ1 8 (40 + R) := by
      have := hl.2.2.2
      rw [show Int.toNat (R : Int) = R from rfl, show Int.toNat (40 + (R : Int)) = 40 + R by omega] at this
      exact this
    have k32 : σ1 (k + 5) R = τ1 8 (32 + R) := by
      have := hl.2.2.1
      rw [show Int.toNat (R : Int) = R from rfl, show Int.toNat (32 + (R : Int)) = 32 + R by omega] at this
      exact this
    have hwr := d5.2.1.2.2.2.1.2.2.1 (R : Int) (by omega) u1
    have w40 := hwr.2.2.2
    rw [show Int.toNat (40 + (R : Int)) = 40 + R by omega] at w40
    have w32' := hwr.2.2.1
    rw [show Int.toNat (32 + (R : Int)) = 32 + R by omega] at w32'
    rw [if_pos (show ¬ (R : Int) = -1 by omega), in10, if_pos (zin_t (by omega) (by omega)), show Int.toNat (R : Int) = R from rfl]
    simp only [z18, k40, k32, e8']
    rw [w32_id (x := 40 + (R : Int)) (by omega) (by omega), if_pos (zin_t (by omega) (by omega)), show Int.toNat (40 + (R : Int)) = 40 + R by omega, w32_id (x := 32 + (R : Int)) (by omega) (by omega), if_pos (zin_t (by omega) (by omega)), show Int.toNat (32 + (R : Int)) = 32 + R by omega, if_pos (zin_t (by omega) (by omega))]
    have cg := d5.got (R : Int)
    obtain ⟨σb, τb, b1, b2, b3⟩ := bad_both cg.1 3
    have a01 := d6 (by omega) (by omega)
    by_cases h40 : 0 < τ1 8 (40 + R)
    · rw [if_pos h40, if_pos h40, b1, b2]
      exact Bad.pre d3.w.c (d4.w.c.trans FcM.s18) b3
    · rw [if_neg h40, if_neg h40]
      by_cases h32 : τ1 8 (32 + R) ≤ 0
      · obtain ⟨σ2, τ2, a2, g1, g2, g3, g4, g5, g6⟩ := cg.adv (by rw [zi (by decide), u2]; decide)
        have a12 := g6 (by rw [zi (by decide), u2]; decide)
        have e82 : τ2 8 = τ1 8 := by rw [g4.cell (by decide), zk (by decide)]
        rw [if_pos h32, if_pos h32, g1, g2, Option.bind_some, Option.bind_some]
        dsimp only
        have s0 : SI σ2 (τ2 8) (τ2 10) k L R 0 a2 σ2 τ2 := ⟨g5.q, fun _ _ _ _ _ => rfl, fun _ _ => rfl, by rw [g3.cell (by omega), k40]; omega, fun j hj => absurd hj (Nat.not_lt_zero j), fun _ _ => rfl, fun _ _ => rfl, rfl⟩
        obtain ⟨σ', τ', r, y1, y2, y3, y4, y5⟩ := says_loop h.2.1.1 hR8 12 0 σ2 τ2 a2 rfl s0
        have y1' : f_CountryReader_readSays_72 σ2 (R : Int) 0 = some (σ', r) := y1
        have y2' : f_M_readSays_54 τ2 (R : Int) 0 = some (τ', r) := y2
        rw [y1', y2']
        refine ⟨σ', τ', r, rfl, rfl, (d3.w.c.trans g3.w.c).trans y3, ((d4.w.c.trans FcM.s18).trans g4.w.c).trans y4, ?_⟩
        rcases y5 with ⟨r1, t4, n', a', τx, x1, x2, x3, ⟨x4, x5, x6, x7, x8, x9, xa, xb⟩, xc⟩ | y5
        · have ha := a12 t4
          subst xc
          refine Or.inl ⟨r1, a', ?_, fun _ => by omega⟩
          obtain ⟨l1, l2, l3, l4, l5, l6, l7⟩ := g5.2.1
          have k2 : ∀ j, k ≤ j → j < k + 64 → j ≠ k + 6 → j ≠ k + 7 → σ' j = σ2 j := x5
          obtain ⟨gr1, gr2, gr3, gr4⟩ := grow_said (σ' := σ') (b := zset τx 8 (40 + R) (n' : Int) 8) (n := n') (R := R) l3 l4 l6 l7 (by rw [e82]; exact u1) (by rw [e82]; omega) (by rw [e82]; omega) x1 x2 (by
              funext i
              by_cases hi : i = R
              · rw [hi, upI_eq]; exact x7
              · rw [upI_ne hi]; exact x6 i hi) (fun j hj => by rw [zi (by omega)]; exact (x8 j hj).1) x9 (fun i i0 i1 => by rw [k2 k (by omega) (by omega) (by omega) (by omega)]) (fun i i0 i1 i6 i7 => k2 _ (by omega) (by omega) (by omega) (by omega)) zs (fun j hj => by rw [zi (by omega)]; exact (x8 j hj).2) (fun j j0 j1 => by rw [zi j0]; exact xa j j1)
          refine ⟨x4.1.fr (fun _ _ => rfl) rfl (fun i _ => by rw [zk (by decide)]) (zk (by decide)), ⟨l1, x4.2.2.1, gr1, gr2, ?_, gr3, gr4⟩, x4.2.2.2.2.2.1.frame (zk (by decide))⟩
          refine x4.2.2.2.2.1.gen (fun _ _ _ => rfl) ?_ ?_ ?_ ?_ (fun _ _ _ _ => by rw [zk (by decide)])
          · rw [zi (by omega), xa 0 (by omega)]
          · rw [zi (by omega), xa 1 (by omega)]
          · rw [zi (by omega), xa 2 (by omega)]
          · rw [zi (by omega), xa 4 (by omega)]
        · exact Or.inr y5
      · rw [if_neg h32, if_neg h32, b1, b2]
        exact Bad.pre d3.w.c (d4.w.c.trans FcM.s18) b3
  · rw [u1, u2, Option.bind_some, Option.bind_some]
    dsimp only
    rw [if_neg (fun x => x rfl), in00]
    exact Bad.pre d3.w.c d4.w.c u3
end G61
