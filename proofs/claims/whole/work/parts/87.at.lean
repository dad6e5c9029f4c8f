/-! LINES of a country, both sides: an editor, a town -/
section G62
variable {σ τ σ' τ' σ1 τ1 : zH} {k L a n : Nat} {b : Nat → Int}
theorem Flt.s32 (h : Flt σ τ) {i : Nat} {v : Int} : Flt (zset σ 32 i v) τ := by
  unfold Flt at h ⊢
  rw [zk (show (64 : Nat) ≠ 32 by decide)]
  exact h
/-- a name, a reach and a place in the reference, and what follows -/
noncomputable def mAt (K : zH → Int → zR) (τ : zH) (to : Int) : zR :=
  (f_M_fresh τ to).bind fun r2 =>
  if r2.2 = 0 then
    some (r2.1, 0)
  else
    (f_M_looksAtReach r2.1).bind fun r3 =>
    if ¬ r3.2 = 0 then
      (f_M_next r3.1).bind fun r4 =>
      if (r4.1 0 11) = 2 then
        if zin (w32 (16 + (r3.1 0 18))) 288 = true then
          if (r4.1 0 14) < (r4.1 8 (Int.toNat (w32 (16 + (r3.1 0 18))))) then
            K r4.1 (r3.1 0 18)
          else
            (f_M_bad r4.1 2).bind fun r5 =>
            some (r5.1, r5.2)
        else none
      else
        (f_M_bad r4.1 1).bind fun r6 =>
        some (r6.1, r6.2)
    else
      some (r3.1, 0)
theorem onreach (h : CS σ τ k L a) {to : Nat} (h0 : 30 ≤ to) (h1 : to < 60) (hfree : ∀ s m : Nat, s < 4 → (m : Int) < ncnt (τ 8) s → 30 + (nbase s + m) ≠ to) (K : zH → Int → zR) :
    (∃ σ' τ' a' R, f_CountryReader_readNewNameOnReach σ = some (σ', 1) ∧ mAt K τ (to : Int) = K τ' R ∧ CS σ' τ' k L a' ∧ FcC k σ σ' ∧ FcM τ τ' ∧ τ' 8 = τ 8 ∧ τ' 10 to = σ' 32 3 ∧ (∀ s m, ¬ Told (fun i => τ' 10 (30 + i)) (τ' 8) (σ' 32 3) s m) ∧ σ' 32 4 = R ∧ 0 ≤ R ∧ R < τ 8 1 ∧ σ' 64 7 = τ' 0 14 ∧ 0 ≤ τ' 0 14 ∧ τ' 0 14 < τ 8 (Int.toNat (16 + R)) ∧ a + 1 ≤ a' ∧ τ' 0 11 = 2 ∧ τ 0 11 ≠ 4) ∨
    (∃ σ' τ', f_CountryReader_readNewNameOnReach σ = some (σ', 0) ∧ mAt K τ (to : Int) = some (τ', 0) ∧ FcC k σ σ' ∧ FcM τ τ' ∧ Flt σ' τ') := by
  have hkl := h.2.1.1
  unfold isLand at hkl
  rw [e_CountryReader_readNewNameOnReach]
  unfold mAt
  rcases newname h h0 h1 hfree with ⟨σ2, τ2, a2, g1, g2, g3, g4, g5, g6, g7, g8, g9⟩ | ⟨σ2, τ2, g1, g2, g3⟩
  · have hT0 := fresh_T h h1 g2
    rw [g1, g2, Option.bind_some, Option.bind_some]
    dsimp only
    rw [in10, if_neg (show ¬ (1 : Int) = 0 by decide)]
    simp only [g3.q.hz, g3.q.hk, if_true]
    rcases g3.q.reach with ⟨R, u1, u2, u3, u4⟩ | ⟨σ6, τ6, u1, u2, u3⟩
    · have a12 := g9 (by omega)
      rw [u3, u4, Option.bind_some, Option.bind_some]
      dsimp only
      have z4 : zset σ2 32 4 (R : Int) 32 4 = (R : Int) := zs
      have z18 : zset τ2 0 18 (R : Int) 0 18 = (R : Int) := zs
      simp only [z4, z18]
      rw [if_pos (show ¬ (R : Int) = -1 by omega), in10]
      obtain ⟨σ3, τ3, a3, d1, d2, d3, d4, d5, d6⟩ := ((g3.got (R : Int)).s32 (i := 4) (by omega) (R : Int)).adv (by rw [zi (by decide), u2]; decide)
      have a23 := d6 (by rw [zi (by decide), u2]; decide)
      have e83 : τ3 8 = τ 8 := by rw [d4.cell (by decide), zk (by decide), g6]
      have e34 : σ3 32 4 = (R : Int) := by rw [d3.cell (by decide)]; exact zs
      have e33 : σ3 32 3 = σ2 32 3 := by rw [d3.cell (by decide), zi (by decide)]
      have e10 : τ3 10 = τ2 10 := by rw [d4.cell (by decide), zk (by decide)]
      have fC : FcC k σ σ3 := g4.trans ((FcC.s32 (by omega)).trans d3.w.c)
      have fM : FcM τ τ3 := g5.trans (FcM.s18.trans d4.w.c)
      have hz3 := d5.q.hz
      have hk3 := d5.q.hk
      have hc1 := d5.2.1.2.2.2.1.1.2.1
      rw [e83] at hc1
      rw [g6] at u1
      have hlen := (d5.2.1.2.2.1.2.2.1 (R : Int) (by omega) (by rw [e83]; omega)).1.1
      have hwl := (d5.2.1.2.2.2.1.2.2.1 (R : Int) (by omega) (by rw [e83]; omega)).1
      rw [e83] at hlen hwl
      rw [show Int.toNat (16 + (R : Int)) = 16 + R by omega] at hlen hwl
      rw [show Int.toNat (R : Int) = R from rfl] at hlen
      rw [d1, d2, Option.bind_some, Option.bind_some]
      dsimp only
      simp only [hz3, hk3, e34, if_true]
      rw [if_pos (zin_t (by omega) (by omega)), show Int.toNat (R : Int) = R from rfl, hlen, w32_id (x := τ 8 (16 + R) - 1) (by omega) (by omega), w32_id (x := 16 + (R : Int)) (by omega) (by omega), if_pos (zin_t (by omega) (by omega)), show Int.toNat (16 + (R : Int)) = 16 + R by omega]
      simp only [e83]
      rw [e_Tape_isNumber]
      by_cases hk : σ3 64 4 = 3
      · have hn : τ3 0 11 = 2 ∧ σ3 64 7 = τ3 0 14 ∧ 0 ≤ σ3 64 7 := by
          rcases d5.1.tok with ⟨t1, t2, t3⟩ | ⟨t1, t2, t3⟩ | ⟨t1, t2, t3⟩ | ⟨t1, t2, t3, t4, t5⟩ | ⟨t1, t2, t3, t4⟩
          · exfalso; omega
          · exfalso; omega
          · exfalso; omega
          · exact ⟨t2, t3, t4⟩
          · exfalso; omega
        have a23' := a23 (by omega)
        rw [if_pos hk, if_pos hn.1, if_neg (show ¬ σ3 64 7 < 0 by omega), hn.2.1]
        by_cases hp : τ3 0 14 < τ 8 (16 + R)
        · rw [if_pos (show τ3 0 14 ≤ τ 8 (16 + R) - 1 by omega), if_pos hp]
          refine Or.inl ⟨σ3, τ3, a3, (R : Int), rfl, rfl, d5, fC, fM, e83, by rw [e10, e33]; exact g7, ?_, e34, by omega, u1, hn.2.1, by omega, by rw [show Int.toNat (16 + (R : Int)) = 16 + R by omega]; exact hp, by omega, hn.1, hT0⟩
          rw [e10, e83, e33, ← g6]
          exact g8
        · obtain ⟨σb, τb, b1, b2, b3⟩ := bad_both d5.1 2
          rw [if_neg (show ¬ τ3 0 14 ≤ τ 8 (16 + R) - 1 by omega), if_neg hp, b1, b2]
          exact Or.inr ⟨σb, τb, rfl, rfl, fC.trans b3.1.c, fM.trans b3.2.1.c, b3.2.2⟩
      · have hn : ¬ τ3 0 11 = 2 := by
          rcases d5.1.tok with ⟨t1, t2, t3⟩ | ⟨t1, t2, t3⟩ | ⟨t1, t2, t3⟩ | ⟨t1, t2, t3, t4, t5⟩ | ⟨t1, t2, t3, t4⟩ <;> omega
        obtain ⟨σb, τb, b1, b2, b3⟩ := bad_both d5.1 1
        rw [if_neg hk, if_neg hn, b1, b2]
        exact Or.inr ⟨σb, τb, rfl, rfl, fC.trans b3.1.c, fM.trans b3.2.1.c, b3.2.2⟩
    · rw [u1, u2, Option.bind_some, Option.bind_some]
      dsimp only
      have z4 : zset σ6 32 4 (-1) 32 4 = -1 := zs
      simp only [z4, not_true_eq_false, if_false]
      exact Or.inr ⟨_, τ6, rfl, rfl, (g4.trans u3.1.c).trans (FcC.s32 (by omega)), g5.trans u3.2.1.c, u3.2.2.s32⟩
  · rw [g1, g2, Option.bind_some, Option.bind_some]
    dsimp only
    rw [in00, i00]
    exact Or.inr ⟨σ2, τ2, rfl, rfl, g3.1.c, g3.2.1.c, g3.2.2⟩
/-- is an editor at this place? the reference -/
theorem m_edloop_0 {k' r : Int} {K : Nat} (hK : k' = (K : Int)) (h6 : K ≤ 6) : ∀ (j i : Nat), i + j = K → f_M_readAt_98 τ 2 144 150 k' r 0 (i : Int) = f_M_readAt_159 τ 2 144 150 k' r 0
  | 0, i, hi => by rw [e_M_readAt_98, if_pos (by omega)]
  | j + 1, i, hi => by
    rw [e_M_readAt_98, if_neg (by omega), if_neg (fun x => x rfl), if_pos rfl, w32_s (by omega)]
    exact m_edloop_0 hK h6 j (i + 1) (by omega)
theorem m_edloop {r : Int} {K : Nat} (hK : τ 8 2 = (K : Int)) (h6 : K ≤ 6) : ∀ (j i : Nat), i + j = K → (∀ f : Int, 0 ≤ f → f < i → ¬ edAt (τ 8) r (τ 0 14) f) → (f_M_readAt_98 τ 2 144 150 (K : Int) r 1 (i : Int) = f_M_readAt_159 τ 2 144 150 (K : Int) r 1 ∧ ∀ f : Int, ¬ edAt (τ 8) r (τ 0 14) f) ∨ (f_M_readAt_98 τ 2 144 150 (K : Int) r 1 (i : Int) = f_M_readAt_159 τ 2 144 150 (K : Int) r 0 ∧ ∃ f : Int, edAt (τ 8) r (τ 0 14) f)
  | 0, i, hi, hf => by
    refine Or.inl ⟨by rw [e_M_readAt_98, if_pos (by omega)], fun f q => hf f q.1 (by have := q.2.1; omega) q⟩
  | j + 1, i, hi, hf => by
    rw [e_M_readAt_98, if_neg (by omega), if_neg (fun x => x rfl), if_neg (show ¬ (1 : Int) = 0 by decide), w32_id (x := 144 + (i : Int)) (by omega) (by omega), w32_id (x := 150 + (i : Int)) (by omega) (by omega), if_pos (zin_t (by omega) (by omega)), if_pos (zin_t (by omega) (by omega)), show Int.toNat (144 + (i : Int)) = 144 + i by omega, show Int.toNat (150 + (i : Int)) = 150 + i by omega, w32_s (by omega)]
    have nx : ¬ edAt (τ 8) r (τ 0 14) (i : Int) → ∀ f : Int, 0 ≤ f → f < (i + 1 : Nat) → ¬ edAt (τ 8) r (τ 0 14) f := fun hne f f0 f1 => by
      by_cases hfi : f = i
      · rw [hfi]; exact hne
      · exact hf f f0 (by omega)
    have hed : edAt (τ 8) r (τ 0 14) (i : Int) ↔ τ 8 (144 + i) = r ∧ τ 8 (150 + i) = τ 0 14 := by
      unfold edAt
      rw [show Int.toNat (144 + (i : Int)) = 144 + i by omega, show Int.toNat (150 + (i : Int)) = 150 + i by omega]
      constructor
      · intro q; exact q.2.2
      · intro q; exact ⟨by omega, by omega, q⟩
    by_cases h1 : τ 8 (144 + i) = r
    · rw [if_neg (fun x => x h1)]
      by_cases h2 : τ 8 (150 + i) = τ 0 14
      · rw [if_pos h2]
        exact Or.inr ⟨m_edloop_0 rfl h6 j (i + 1) (by omega), (i : Int), hed.mpr ⟨h1, h2⟩⟩
      · rw [if_neg h2]
        exact m_edloop hK h6 j (i + 1) (by omega) (nx (fun q => h2 (hed.mp q).2))
    · rw [if_pos h1]
      exact m_edloop hK h6 j (i + 1) (by omega) (nx (fun q => h1 (hed.mp q).1))
theorem l_editor (h : CS σ τ k L a) (hT : τ 0 11 = 1) : Lin k L a σ τ (f_CountryReader_readEditor σ) (f_M_readAt τ 48 2 144 150) := by
  have hq := h.q
  obtain ⟨n, hn⟩ : ∃ n : Nat, τ 8 2 = (n : Int) := ⟨(τ 8 2).toNat, by have := h.2.1.2.2.2.1.1.2.2.1; omega⟩
  have hL0 := h.2.1.2.2.1.1.2.2.1
  have c0 := h.2.1.2.2.2.1.1.2.2.1
  rw [e_CountryReader_readEditor, hq.hz, hq.hk, if_pos rfl, hL0, e_M_readAt, if_pos (zin_t (by decide) (by decide)), show Int.toNat 2 = 2 from rfl, hn]
  by_cases h10 : n = 6
  · obtain ⟨σ', τ', b1, b2, b3⟩ := bad_both h.1 4
    rw [begins_n (by omega), b1, Option.bind_some, Option.bind_some, if_neg (show ¬ ¬ (n : Int) = 6 by omega), b2, Option.bind_some]
    dsimp only
    rw [i00]
    exact Lin.bad b3
  · obtain ⟨σ1, τ1, a1, d1, d2, d3, d4, d5, d6⟩ := h.adv (by omega)
    have e8 : τ1 8 = τ 8 := d4.cell (by decide)
    rw [begins_y (by omega), d1, Option.bind_some, Option.bind_some, if_pos (show ¬ (n : Int) = 6 by omega), d2, Option.bind_some]
    dsimp only
    rw [i10, w32_id (x := 48 + (n : Int)) (by omega) (by omega), show (48 : Int) + (n : Int) = ((48 + n : Nat) : Int) by omega]
    have hb : (mAt (fun τ4 R => f_M_readAt_98 τ4 2 144 150 (n : Int) R 1 0) τ1 ((48 + n : Nat) : Int)) = (f_M_fresh τ1 ((48 + n : Nat) : Int)).bind fun r2 =>
      if r2.2 = 0 then
        some (r2.1, 0)
      else
        (f_M_looksAtReach r2.1).bind fun r3 =>
        if ¬ r3.2 = 0 then
          (f_M_next r3.1).bind fun r4 =>
          if (r4.1 0 11) = 2 then
            if zin (w32 (16 + (r3.1 0 18))) 288 = true then
              if (r4.1 0 14) < (r4.1 8 (Int.toNat (w32 (16 + (r3.1 0 18))))) then
                f_M_readAt_98 r4.1 2 144 150 (n : Int) (r3.1 0 18) 1 0
              else
                (f_M_bad r4.1 2).bind fun r5 =>
                some (r5.1, r5.2)
            else none
          else
            (f_M_bad r4.1 1).bind fun r6 =>
            some (r6.1, r6.2)
        else
          some (r3.1, 0) := rfl
    rw [← hb]
    rcases onreach d5 (to := 48 + n) (by omega) (by omega) (fun s m hs hm => by
      rw [e8] at hm
      rcases nb_lt hq.2.2.2.1 hs hm with q | q | q | q <;> omega) (fun τ4 R => f_M_readAt_98 τ4 2 144 150 (n : Int) R 1 0) with ⟨σ2, τ2, a2, R, g1, g2, g3, g4, g5, g6, g7, g8, g9, ga, gb, gc, gd, ge, gf, gg, gh⟩ | ⟨σ2, τ2, g1, g2, g3, g4, g5⟩
    · have a01 := d6 (by omega) gh
      have e82 : τ2 8 = τ 8 := by rw [g6, e8]
      rw [e8] at gb ge
      rw [g1, g2, Option.bind_some]
      dsimp only
      rw [in10]
      simp only [g3.q.hz, g3.q.hk, if_true]
      obtain ⟨e, y1, y2⟩ := c_editorOn g3.2.1.2.2.1 g3.2.1.2.2.2.1 R (τ2 0 14) 6 0 (by have := g3.2.1.2.2.2.1.1.2.2.1; omega) (by have := g3.2.1.2.2.2.1.1.2.2.1; omega) (fun f f0 f1 => by omega)
      have y1' : f_Country_editorOn_2 σ2 k R (τ2 0 14) 0 = some (σ2, e) := y1
      rw [e_Country_editorOn, g9, gc, y1', Option.bind_some]
      dsimp only
      have hz2 := g3.q.hz
      have hk2 := g3.q.hk
      have m98 := m_edloop (τ := τ2) (r := R) (K := n) (by rw [e82]; exact hn) (by omega) n 0 (by omega) (fun f f0 f1 => by omega)
      have cst0 : ((0 : Nat) : Int) = 0 := rfl
      rw [cst0] at m98
      rcases m98 with ⟨m1, m2⟩ | ⟨m1, m2⟩
      · have he : e = -1 := by
          rcases y2 with y2 | y2
          · exact y2.1
          · exact absurd y2 (m2 e)
        obtain ⟨σ3, x1, x2⟩ := c_addEditor (n := n) (r := R) (p := τ2 0 14) g3.2.1 (by rw [e82]; exact hn) (by omega) ga (by rw [e82]; exact gb) gd (by rw [e82]; exact ge) m2 g8 g7
        rw [if_pos he, hz2, if_pos rfl, hk2, g9, gc, x1, Option.bind_some, m1, e_M_readAt_159, in10, w32_id (x := 144 + (n : Int)) (by omega) (by omega), w32_id (x := 150 + (n : Int)) (by omega) (by omega), if_pos (zin_t (by omega) (by omega)), if_pos (zin_t (by omega) (by omega)), if_pos (zin_t (by decide) (by decide)), if_pos (zin_t (by decide) (by decide)), show Int.toNat (144 + (n : Int)) = 144 + n by omega, show Int.toNat (150 + (n : Int)) = 150 + n by omega, show Int.toNat 2 = 2 from rfl, zk (show (0 : Nat) ≠ 8 by decide)]
        have e2 : zset (zset τ2 8 (144 + n) R) 8 (150 + n) (τ2 0 14) 8 2 = (n : Int) := by rw [zi (by omega), zi (by omega), e82]; exact hn
        rw [e2, w32_s (by omega)]
        dsimp only
        have c3 : CS σ3 (zset (zset (zset τ2 8 (144 + n) R) 8 (150 + n) (τ2 0 14)) 8 2 ((n + 1 : Nat) : Int)) k L a2 := CS.added g3.1 g3.2.2 g3.2.1.1 g3.2.1.2.1 x2 (by rw [zset_upI, zset_upI, zset_upI]) (fun j hj => by rw [zk hj, zk hj, zk hj]) rfl
        obtain ⟨σ4, τ4, a4, v1, v2, v3, v4, v5, v6⟩ := c3.adv (by rw [zk (by decide), zk (by decide), zk (by decide), gg]; decide)
        have v6' := v6 (by rw [zk (by decide), zk (by decide), zk (by decide), gg]; decide)
        rw [v1, v2, Option.bind_some, Option.bind_some]
        refine ⟨σ4, τ4, 1, rfl, rfl, ((d3.w.c.trans g4).trans x2.fr).trans v3.w.c, ((d4.w.c.trans g5).trans (FcM.s8.trans (FcM.s8.trans FcM.s8))).trans v4.w.c, Or.inl ⟨rfl, a4, v5, fun q => by have := v6' q; omega⟩⟩
      · have he : ¬ e = -1 := by
          rcases y2 with y2 | y2
          · obtain ⟨f, hf⟩ := m2
            exact absurd hf (y2.2 f)
          · have := y2.1; omega
        obtain ⟨σb, τb, b1, b2, b3⟩ := bad_both g3.1 3
        rw [if_neg he, m1, e_M_readAt_159, in00, b1, b2]
        exact Bad.pre (d3.w.c.trans g4) (d4.w.c.trans g5) b3
    · rw [g1, g2, Option.bind_some]
      dsimp only
      rw [in00]
      exact ⟨σ2, τ2, 0, rfl, rfl, d3.w.c.trans g3, d4.w.c.trans g4, Or.inr ⟨rfl, g5⟩⟩
theorem l_town (h : CS σ τ k L a) (hT : τ 0 11 = 1) : Lin k L a σ τ (f_CountryReader_readTown σ) (f_M_readAt τ 54 4 216 222) := by
  have hq := h.q
  obtain ⟨n, hn⟩ : ∃ n : Nat, τ 8 4 = (n : Int) := ⟨(τ 8 4).toNat, by have := h.2.1.2.2.2.1.1.2.2.2.2.1; omega⟩
  have hL0 := h.2.1.2.2.1.1.2.2.2.2.1
  have c0 := h.2.1.2.2.2.1.1.2.2.2.2.1
  rw [e_CountryReader_readTown, hq.hz, hq.hk, if_pos rfl, hL0, e_M_readAt, if_pos (zin_t (by decide) (by decide)), show Int.toNat 4 = 4 from rfl, hn]
  by_cases h10 : n = 6
  · obtain ⟨σ', τ', b1, b2, b3⟩ := bad_both h.1 4
    rw [begins_n (by omega), b1, Option.bind_some, Option.bind_some, if_neg (show ¬ ¬ (n : Int) = 6 by omega), b2, Option.bind_some]
    dsimp only
    rw [i00]
    exact Lin.bad b3
  · obtain ⟨σ1, τ1, a1, d1, d2, d3, d4, d5, d6⟩ := h.adv (by omega)
    have e8 : τ1 8 = τ 8 := d4.cell (by decide)
    rw [begins_y (by omega), d1, Option.bind_some, Option.bind_some, if_pos (show ¬ (n : Int) = 6 by omega), d2, Option.bind_some]
    dsimp only
    rw [i10, w32_id (x := 54 + (n : Int)) (by omega) (by omega), show (54 : Int) + (n : Int) = ((54 + n : Nat) : Int) by omega]
    have hb : (mAt (fun τ4 R => f_M_readAt_98 τ4 4 216 222 (n : Int) R 1 0) τ1 ((54 + n : Nat) : Int)) = (f_M_fresh τ1 ((54 + n : Nat) : Int)).bind fun r2 =>
      if r2.2 = 0 then
        some (r2.1, 0)
      else
        (f_M_looksAtReach r2.1).bind fun r3 =>
        if ¬ r3.2 = 0 then
          (f_M_next r3.1).bind fun r4 =>
          if (r4.1 0 11) = 2 then
            if zin (w32 (16 + (r3.1 0 18))) 288 = true then
              if (r4.1 0 14) < (r4.1 8 (Int.toNat (w32 (16 + (r3.1 0 18))))) then
                f_M_readAt_98 r4.1 4 216 222 (n : Int) (r3.1 0 18) 1 0
              else
                (f_M_bad r4.1 2).bind fun r5 =>
                some (r5.1, r5.2)
            else none
          else
            (f_M_bad r4.1 1).bind fun r6 =>
            some (r6.1, r6.2)
        else
          some (r3.1, 0) := rfl
    rw [← hb]
    rcases onreach d5 (to := 54 + n) (by omega) (by omega) (fun s m hs hm => by
      rw [e8] at hm
      rcases nb_lt hq.2.2.2.1 hs hm with q | q | q | q <;> omega) (fun τ4 R => f_M_readAt_98 τ4 4 216 222 (n : Int) R 1 0) with ⟨σ2, τ2, a2, R, g1, g2, g3, g4, g5, g6, g7, g8, g9, ga, gb, gc, gd, ge, gf, gg, gh⟩ | ⟨σ2, τ2, g1, g2, g3, g4, g5⟩
    · have a01 := d6 (by omega) gh
      have e82 : τ2 8 = τ 8 := by rw [g6, e8]
      rw [e8] at gb ge
      have m1 : f_M_readAt_98 τ2 4 216 222 (n : Int) R 1 0 = f_M_readAt_159 τ2 4 216 222 (n : Int) R 1 := by
        rw [e_M_readAt_98]
        by_cases hn0 : (n : Int) ≤ 0
        · rw [if_pos hn0]
        · rw [if_neg hn0, if_pos (show ¬ (4 : Int) = 2 by decide)]
      obtain ⟨σ3, x1, x2⟩ := c_addTown (n := n) (r := R) (p := τ2 0 14) g3.2.1 (by rw [e82]; exact hn) (by omega) ga (by rw [e82]; exact gb) gd (by rw [e82]; exact ge) g8 g7
      rw [g1, g2, Option.bind_some]
      dsimp only
      rw [in10]
      simp only [g3.q.hz, g3.q.hk, if_true]
      rw [g9, gc, x1, Option.bind_some, m1, e_M_readAt_159, in10, w32_id (x := 216 + (n : Int)) (by omega) (by omega), w32_id (x := 222 + (n : Int)) (by omega) (by omega), if_pos (zin_t (by omega) (by omega)), if_pos (zin_t (by omega) (by omega)), if_pos (zin_t (by decide) (by decide)), if_pos (zin_t (by decide) (by decide)), show Int.toNat (216 + (n : Int)) = 216 + n by omega, show Int.toNat (222 + (n : Int)) = 222 + n by omega, show Int.toNat 4 = 4 from rfl, zk (show (0 : Nat) ≠ 8 by decide)]
      have e2 : zset (zset τ2 8 (216 + n) R) 8 (222 + n) (τ2 0 14) 8 4 = (n : Int) := by rw [zi (by omega), zi (by omega), e82]; exact hn
      rw [e2, w32_s (by omega)]
      dsimp only
      have c3 : CS σ3 (zset (zset (zset τ2 8 (216 + n) R) 8 (222 + n) (τ2 0 14)) 8 4 ((n + 1 : Nat) : Int)) k L a2 := CS.added g3.1 g3.2.2 g3.2.1.1 g3.2.1.2.1 x2 (by rw [zset_upI, zset_upI, zset_upI]) (fun j hj => by rw [zk hj, zk hj, zk hj]) rfl
      obtain ⟨σ4, τ4, a4, v1, v2, v3, v4, v5, v6⟩ := c3.adv (by rw [zk (by decide), zk (by decide), zk (by decide), gg]; decide)
      have v6' := v6 (by rw [zk (by decide), zk (by decide), zk (by decide), gg]; decide)
      rw [v1, v2, Option.bind_some, Option.bind_some]
      refine ⟨σ4, τ4, 1, rfl, rfl, ((d3.w.c.trans g4).trans x2.fr).trans v3.w.c, ((d4.w.c.trans g5).trans (FcM.s8.trans (FcM.s8.trans FcM.s8))).trans v4.w.c, Or.inl ⟨rfl, a4, v5, fun q => by have := v6' q; omega⟩⟩
    · rw [g1, g2, Option.bind_some]
      dsimp only
      rw [in00]
      exact ⟨σ2, τ2, 0, rfl, rfl, d3.w.c.trans g3, d4.w.c.trans g4, Or.inr ⟨rfl, g5⟩⟩
end G62
