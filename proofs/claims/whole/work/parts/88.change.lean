/-! LINES of a country, both sides: what an editor turns or strikes, what a town likes -/
section G63
variable {σ τ σ' τ' σ1 τ1 : zH} {k L a n : Nat} {b : Nat → Int}
/-- who, and which term, in the reference, and what follows -/
noncomputable def mWho (K : zH → Int → Int → zR) (τ : zH) (f many : Int) : zR :=
  (f_M_looksAt τ f many).bind fun r3 =>
  if ¬ r3.2 = 0 then
    (f_M_next r3.1).bind fun r4 =>
    (f_M_looksAtTerm r4.1).bind fun r5 =>
    if ¬ r5.2 = 0 then
      K r5.1 (r3.1 0 18) (r5.1 0 18)
    else
      some (r5.1, 0)
  else
    some (r3.1, 0)
theorem whoterm (h : CS σ τ k L a) {s : Int} {f many X : Int} (hw : (∃ m : Nat, (m : Int) < X ∧ τ 0 11 = 1 ∧ f_Tape_toldName σ (k + 32) s = some (σ, (m : Int)) ∧ f_M_looksAt τ f many = some (zset τ 0 18 (m : Int), 1)) ∨
    (∃ σ' τ', f_Tape_toldName σ (k + 32) s = some (σ', -1) ∧ f_M_looksAt τ f many = some (τ', 0) ∧ Bad σ τ σ' τ')) (K : zH → Int → Int → zR) :
    (∃ (σ' τ' : zH) (a' E T : Nat), f_CountryReader_readWhoAndTerm σ s = some (σ', 1) ∧ mWho K τ f many = K τ' (E : Int) (T : Int) ∧ CS σ' τ' k L a' ∧ FcC k σ σ' ∧ FcM τ τ' ∧ τ' 8 = τ 8 ∧ σ' 32 5 = (E : Int) ∧ σ' 32 6 = (T : Int) ∧ (E : Int) < X ∧ (T : Int) < τ 8 0 ∧ a + 1 ≤ a' ∧ τ' 0 11 = 1 ∧ τ 0 11 = 1) ∨
    (∃ σ' τ', f_CountryReader_readWhoAndTerm σ s = some (σ', 0) ∧ mWho K τ f many = some (τ', 0) ∧ FcC k σ σ' ∧ FcM τ τ' ∧ Flt σ' τ') := by
  have hz := h.q.hz
  have hk := h.q.hk
  rw [e_CountryReader_readWhoAndTerm]
  unfold mWho
  simp only [hz, hk, if_true]
  rcases hw with ⟨E, u1, u2, u3, u4⟩ | ⟨σ6, τ6, u1, u2, u3⟩
  · rw [u3, u4, Option.bind_some, Option.bind_some]
    dsimp only
    have z5 : zset σ 32 5 (E : Int) 32 5 = (E : Int) := zs
    have z18 : zset τ 0 18 (E : Int) 0 18 = (E : Int) := zs
    simp only [z5, z18]
    rw [if_pos (show ¬ (E : Int) = -1 by omega), in10]
    obtain ⟨σ3, τ3, a3, d1, d2, d3, d4, d5, d6⟩ := ((h.got (E : Int)).s32 (i := 5) (by omega) (E : Int)).adv (by rw [zi (by decide), u2]; decide)
    have a13 := d6 (by rw [zi (by decide), u2]; decide)
    have e83 : τ3 8 = τ 8 := by rw [d4.cell (by decide), zk (by decide)]
    have e35 : σ3 32 5 = (E : Int) := by rw [d3.cell (by decide)]; exact zs
    have fC : FcC k σ σ3 := (FcC.s32 (by omega)).trans d3.w.c
    have fM : FcM τ τ3 := FcM.s18.trans d4.w.c
    rw [d1, d2, Option.bind_some, Option.bind_some]
    dsimp only
    simp only [d5.q.hz, d5.q.hk, if_true]
    rcases d5.q.term with ⟨T, v1, v2, v3, v4⟩ | ⟨σ6, τ6, v1, v2, v3⟩
    · rw [v3, v4, Option.bind_some, Option.bind_some]
      dsimp only
      have z6 : zset σ3 32 6 (T : Int) 32 6 = (T : Int) := zs
      have z19 : zset τ3 0 18 (T : Int) 0 18 = (T : Int) := zs
      simp only [z6, z19]
      rw [if_neg (show ¬ (T : Int) = -1 by omega), in10]
      have a13' := a13 (by omega)
      rw [e83] at v1
      exact Or.inl ⟨_, _, a3, E, T, rfl, rfl, (d5.got (T : Int)).s32 (by omega) (T : Int), fC.trans (FcC.s32 (by omega)), fM.trans FcM.s18, by rw [zk (by decide), e83], by rw [zi (by decide)]; exact e35, zs, u1, v1, a13', by rw [zi (by decide), v2], u2⟩
    · rw [v1, v2, Option.bind_some, Option.bind_some]
      dsimp only
      have z6 : zset σ6 32 6 (-1) 32 6 = -1 := zs
      simp only [z6, not_true_eq_false, if_false, if_true]
      exact Or.inr ⟨_, τ6, rfl, rfl, (fC.trans v3.1.c).trans (FcC.s32 (by omega)), fM.trans v3.2.1.c, v3.2.2.s32⟩
  · rw [u1, u2, Option.bind_some, Option.bind_some]
    dsimp only
    have z5 : zset σ6 32 5 (-1) 32 5 = -1 := zs
    simp only [z5, not_true_eq_false, if_false]
    exact Or.inr ⟨_, τ6, rfl, rfl, u3.1.c.trans (FcC.s32 (by omega)), u3.2.1.c, u3.2.2.s32⟩
theorem l_change (h : CS σ τ k L a) (hT : τ 0 11 = 1) {x : Int} (hx : (x = 0 ∧ σ 64 6 ≠ 9) ∨ (x = 1 ∧ σ 64 6 = 9)) : Lin k L a σ τ (f_CountryReader_readChange σ x) (f_M_readRule τ) := by
  have hq := h.q
  obtain ⟨n, hn⟩ : ∃ n : Nat, τ 8 3 = (n : Int) := ⟨(τ 8 3).toNat, by have := h.2.1.2.2.2.1.1.2.2.2.1; omega⟩
  have hL0 := h.2.1.2.2.1.1.2.2.2.1
  have c0 := h.2.1.2.2.2.1.1.2.2.2.1
  have w5 : f_M_isWord τ 1953854062 = some (τ, if σ 64 6 = ((9 : Nat) : Int) then 1 else 0) := m_isWord (i := 9) (by decide) h.1.tok
  have w5n : ((9 : Nat) : Int) = 9 := rfl
  have hx1 : (if σ 64 6 = 9 then (1 : Int) else 0) = x := by
    rcases hx with ⟨q1, q2⟩ | ⟨q1, q2⟩
    · rw [if_neg q2, q1]
    · rw [if_pos q2, q1]
  rw [w5n, hx1] at w5
  rw [e_CountryReader_readChange, hq.hz, hq.hk, if_pos rfl, hL0, e_M_readRule, w5, Option.bind_some, hn]
  dsimp only
  by_cases h10 : n = 20
  · obtain ⟨σ', τ', b1, b2, b3⟩ := bad_both h.1 4
    simp only [hn]
    rw [begins_n (by omega), b1, Option.bind_some, Option.bind_some, if_neg (show ¬ ¬ (n : Int) = 20 by omega), b2, Option.bind_some]
    dsimp only
    rw [i00]
    exact Lin.bad b3
  · obtain ⟨σ1, τ1, a1, d1, d2, d3, d4, d5, d6⟩ := h.adv (by omega)
    have e8 : τ1 8 = τ 8 := d4.cell (by decide)
    simp only [hn]
    rw [begins_y (by omega), d1, Option.bind_some, Option.bind_some, if_pos (show ¬ (n : Int) = 20 by omega), d2, Option.bind_some]
    dsimp only
    rw [i10]
    have hb : mWho (fun τ5 E T => if zin (w32 ((w32 (156 + (w32 (10 * E)))) + T)) 288 = true then
          if (τ5 8 (Int.toNat (w32 ((w32 (156 + (w32 (10 * E)))) + T)))) ≤ 0 then
            (f_M_next τ5).bind fun r6 =>
            if x = 0 then
              f_M_readRule_139 r6.1 (w32 (156 + (w32 (10 * E)))) T 1
            else
              (f_M_looksAtTerm r6.1).bind fun r7 =>
              if ¬ r7.2 = 0 then
                if ¬ (r7.1 0 18) = T then
                  (f_M_next r7.1).bind fun r8 =>
                  f_M_readRule_139 r8.1 (w32 (156 + (w32 (10 * E)))) T (w32 (2 + (r7.1 0 18)))
                else
                  (f_M_bad r7.1 3).bind fun r9 =>
                  some (r9.1, r9.2)
              else
                some (r7.1, 0)
          else
            (f_M_bad τ5 3).bind fun r10 =>
            some (r10.1, r10.2)
        else none) τ1 48 (τ1 8 2) = (f_M_looksAt τ1 48 (τ1 8 2)).bind fun r3 =>
    if ¬ r3.2 = 0 then
      (f_M_next r3.1).bind fun r4 =>
      (f_M_looksAtTerm r4.1).bind fun r5 =>
      if ¬ r5.2 = 0 then
        if zin (w32 ((w32 (156 + (w32 (10 * (r3.1 0 18))))) + (r5.1 0 18))) 288 = true then
          if (r5.1 8 (Int.toNat (w32 ((w32 (156 + (w32 (10 * (r3.1 0 18))))) + (r5.1 0 18))))) ≤ 0 then
            (f_M_next r5.1).bind fun r6 =>
            if x = 0 then
              f_M_readRule_139 r6.1 (w32 (156 + (w32 (10 * (r3.1 0 18))))) (r5.1 0 18) 1
            else
              (f_M_looksAtTerm r6.1).bind fun r7 =>
              if ¬ r7.2 = 0 then
                if ¬ (r7.1 0 18) = (r5.1 0 18) then
                  (f_M_next r7.1).bind fun r8 =>
                  f_M_readRule_139 r8.1 (w32 (156 + (w32 (10 * (r3.1 0 18))))) (r5.1 0 18) (w32 (2 + (r7.1 0 18)))
                else
                  (f_M_bad r7.1 3).bind fun r9 =>
                  some (r9.1, r9.2)
              else
                some (r7.1, 0)
          else
            (f_M_bad r5.1 3).bind fun r10 =>
            some (r10.1, r10.2)
        else none
      else
        some (r5.1, 0)
    else
      some (r3.1, 0) := rfl
    rw [← hb]
    clear hb
    generalize hKK : (fun τ5 E T => if zin (w32 ((w32 (156 + (w32 (10 * E)))) + T)) 288 = true then
          if (τ5 8 (Int.toNat (w32 ((w32 (156 + (w32 (10 * E)))) + T)))) ≤ 0 then
            (f_M_next τ5).bind fun r6 =>
            if x = 0 then
              f_M_readRule_139 r6.1 (w32 (156 + (w32 (10 * E)))) T 1
            else
              (f_M_looksAtTerm r6.1).bind fun r7 =>
              if ¬ r7.2 = 0 then
                if ¬ (r7.1 0 18) = T then
                  (f_M_next r7.1).bind fun r8 =>
                  f_M_readRule_139 r8.1 (w32 (156 + (w32 (10 * E)))) T (w32 (2 + (r7.1 0 18)))
                else
                  (f_M_bad r7.1 3).bind fun r9 =>
                  some (r9.1, r9.2)
              else
                some (r7.1, 0)
          else
            (f_M_bad τ5 3).bind fun r10 =>
            some (r10.1, r10.2)
        else none : zH → Int → Int → zR) = KK
    rcases whoterm d5 d5.q.editor KK with ⟨σ2, τ2, a2, E, T, g1, g2, g3, g4, g5, g6, g7, g8, g9, ga, gb, gc, gd⟩ | ⟨σ2, τ2, g1, g2, g3, g4, g5⟩
    · have a01 := d6 (by omega) (by omega)
      have e82 : τ2 8 = τ 8 := by rw [g6, e8]
      rw [e8] at ga g9
      have hw2 := g3.2.1.2.2.2.1
      have c2 := hw2.1.2.2.1
      have ct := hw2.1.1
      rw [e82] at c2 ct
      have hru := hw2.2.2.2.2.2.1.2.2 (E : Int) (T : Int) (by omega) (by rw [e82]; exact g9) (by omega) (by omega)
      have hix : Int.toNat (156 + 10 * (E : Int) + (T : Int)) = 156 + 10 * E + T := by omega
      rw [g1, g2, Option.bind_some, ← hKK]
      dsimp only
      rw [in10, w32_id (x := 10 * (E : Int)) (by omega) (by omega), w32_id (x := 156 + 10 * (E : Int)) (by omega) (by omega), w32_id (x := 156 + 10 * (E : Int) + (T : Int)) (by omega) (by omega), if_pos (zin_t (by omega) (by omega)), hix]
      rw [hix] at hru
      simp only [g3.q.hz, g3.q.hk, if_true]
      rw [g7, g8, c_madeBy g3.2.1.2.2.1 hw2 (by omega) (by rw [e82]; exact g9) (by omega) (by omega), Option.bind_some, hix]
      dsimp only
      simp only [g8]
      by_cases hz0 : τ2 8 (156 + 10 * E + T) = 0
      · rw [if_pos hz0, if_pos (show (T : Int) = (T : Int) from rfl), if_pos (show τ2 8 (156 + 10 * E + T) ≤ 0 by omega)]
        obtain ⟨σ3, τ3, a3, r1, r2, r3, r4, r5, r6⟩ := g3.adv (by omega)
        have a23 := r6 (by omega)
        have e83 : τ3 8 = τ 8 := by rw [r4.cell (by decide), e82]
        have f3 : FcC k σ σ3 := (d3.w.c.trans g4).trans r3.w.c
        have m3 : FcM τ τ3 := (d4.w.c.trans g5).trans r4.w.c
        have e35 : σ3 32 5 = (E : Int) := by rw [r3.cell (by decide)]; exact g7
        have e36 : σ3 32 6 = (T : Int) := by rw [r3.cell (by decide)]; exact g8
        rw [r1, r2, Option.bind_some, Option.bind_some]
        dsimp only
        simp only [r5.q.hz, r5.q.hk, if_true]
        have fin : ∀ (σ4 τ4 : zH) (a4 : Nat) (v : Int), CS σ4 τ4 k L a4 → τ4 8 = τ 8 → FcC k σ σ4 → FcM τ τ4 → 1 ≤ v → v < 2 + τ 8 0 → v ≠ 2 + (T : Int) → (τ4 0 11 ≠ 4 → a + 2 ≤ a4) → Lin k L a σ τ ((f_Country_addChange σ4 k (E : Int) (T : Int) (v - 2)).bind fun r5 => some (r5.1, 1)) (f_M_readRule_139 τ4 (156 + 10 * (E : Int)) (T : Int) v) := by
          intro σ4 τ4 a4 v k1 k2 k3 k4 k5 k6 k7 k8
          obtain ⟨σ5, x1, x2⟩ := c_addChange (n := n) (e := (E : Int)) (t := (T : Int)) (v := v) k1.2.1 (by rw [k2]; exact hn) (by omega) (by omega) (by rw [k2]; exact g9) (by omega) (by rw [k2]; exact ga) k5 (by rw [k2]; exact k6) k7
          rw [x1, Option.bind_some, e_M_readRule_139, w32_id (x := 156 + 10 * (E : Int) + (T : Int)) (by omega) (by omega), if_pos (zin_t (by omega) (by omega)), hix, zi (show (3 : Nat) ≠ 156 + 10 * E + T by omega), k2, hn, w32_s (by omega)]
          rw [hix] at x2
          refine ⟨_, _, 1, rfl, rfl, k3.trans x2.fr, k4.trans (FcM.s8.trans FcM.s8), Or.inl ⟨rfl, a4, CS.added k1.1 k1.2.2 k1.2.1.1 k1.2.1.2.1 x2 (by rw [zset_upI, zset_upI]) (fun j hj => by rw [zk hj, zk hj]) rfl, fun q => ?_⟩⟩
          rw [zk (by decide), zk (by decide)] at q
          exact k8 q
        rcases hx with ⟨hx0, -⟩ | ⟨hx0, -⟩
        · rw [if_pos hx0, if_pos hx0, e35, e36]
          have := fin σ3 τ3 a3 1 r5 e83 f3 m3 (by omega) (by omega) (by omega) (fun q => by have := a23 q; omega)
          exact this
        · rw [if_neg (show ¬ x = 0 by omega), if_neg (show ¬ x = 0 by omega)]
          have hz3 : zio 1 (σ3 32 1) = true := r5.q.hz
          rcases r5.q.term with ⟨V, v1, v2, v3, v4⟩ | ⟨σ6, τ6, v1, v2, v3⟩
          · have a23' := a23 (by omega)
            rw [e83] at v1
            rw [v3, v4, Option.bind_some, Option.bind_some]
            dsimp only
            have z18 : zset τ3 0 18 (V : Int) 0 18 = (V : Int) := zs
            simp only [z18, e36]
            rw [if_pos (show ¬ (V : Int) = -1 by omega), in10]
            by_cases hVT : (V : Int) = (T : Int)
            · obtain ⟨σb, τb, b1, b2, b3⟩ := bad_both (r5.got (V : Int)).1 3
              rw [if_neg (fun y => y hVT), if_neg (fun y => y hVT), b1, b2]
              exact Bad.pre f3 (m3.trans FcM.s18) b3
            · obtain ⟨σ4, τ4, a4, s1, s2, s3, s4, s5, s6⟩ := (r5.got (V : Int)).adv (by rw [zi (by decide), v2]; decide)
              have a34 := s6 (by rw [zi (by decide), v2]; decide)
              have e84 : τ4 8 = τ 8 := by rw [s4.cell (by decide), zk (by decide), e83]
              have e45 : σ4 32 5 = (E : Int) := by rw [s3.cell (by decide)]; exact e35
              have e46 : σ4 32 6 = (T : Int) := by rw [s3.cell (by decide)]; exact e36
              rw [if_pos hVT, if_pos hVT, s1, s2, Option.bind_some, Option.bind_some]
              dsimp only
              simp only [s5.q.hz, s5.q.hk, if_true]
              rw [e45, e46, w32_id (x := 2 + (V : Int)) (by omega) (by omega)]
              have := fin σ4 τ4 a4 (2 + (V : Int)) s5 e84 (f3.trans s3.w.c) ((m3.trans FcM.s18).trans s4.w.c) (by omega) (by omega) (by omega) (fun q => by have := a34 q; omega)
              rw [show 2 + (V : Int) - 2 = (V : Int) by omega] at this
              exact this
          · rw [v1, v2, Option.bind_some, Option.bind_some]
            dsimp only
            rw [if_neg (fun y => y rfl), in00]
            exact Bad.pre f3 m3 v3
      · obtain ⟨σb, τb, b1, b2, b3⟩ := bad_both g3.1 3
        rw [if_neg hz0, if_neg (show ¬ τ2 8 (156 + 10 * E + T) - 2 = (T : Int) by omega), if_neg (show ¬ τ2 8 (156 + 10 * E + T) ≤ 0 by omega), b1, b2]
        exact Bad.pre (d3.w.c.trans g4) (d4.w.c.trans g5) b3
    · rw [g1, g2, Option.bind_some]
      dsimp only
      rw [in00]
      exact ⟨σ2, τ2, 0, rfl, rfl, d3.w.c.trans g3, d4.w.c.trans g4, Or.inr ⟨rfl, g5⟩⟩
/-- a taste's line in the reference -/
noncomputable def mTaste (τ : zH) : zR :=
  if ¬ (τ 8 5) = 12 then
    (f_M_next τ).bind fun r10 =>
    mWho (fun τ5 E T =>
      if zin (w32 ((w32 (228 + (w32 (10 * E)))) + T)) 288 = true then
        if ¬ (τ5 8 (Int.toNat (w32 ((w32 (228 + (w32 (10 * E)))) + T)))) = 1 then
          if zin (w32 ((w32 (228 + (w32 (10 * E)))) + T)) 288 = true then
            (f_M_next (zset (zset τ5 8 (Int.toNat (w32 ((w32 (228 + (w32 (10 * E)))) + T))) 1) 8 5 (w32 (((zset τ5 8 (Int.toNat (w32 ((w32 (228 + (w32 (10 * E)))) + T))) 1) 8 5) + 1)))).bind fun r14 =>
            some (r14.1, 1)
          else none
        else
          (f_M_bad τ5 3).bind fun r15 =>
          some (r15.1, r15.2)
      else none) r10.1 54 (r10.1 8 4)
  else
    (f_M_bad τ 4).bind fun r16 =>
    some (r16.1, r16.2)
theorem l_taste (h : CS σ τ k L a) (hT : τ 0 11 = 1) : Lin k L a σ τ (f_CountryReader_readTaste σ) (mTaste τ) := by
  have hq := h.q
  obtain ⟨n, hn⟩ : ∃ n : Nat, τ 8 5 = (n : Int) := ⟨(τ 8 5).toNat, by have := h.2.1.2.2.2.1.1.2.2.2.2.2; omega⟩
  have hL0 := h.2.1.2.2.1.1.2.2.2.2.2
  have c0 := h.2.1.2.2.2.1.1.2.2.2.2.2
  unfold mTaste
  rw [e_CountryReader_readTaste, hq.hz, hq.hk, if_pos rfl, hL0, hn]
  by_cases h10 : n = 12
  · obtain ⟨σ', τ', b1, b2, b3⟩ := bad_both h.1 4
    rw [begins_n (by omega), b1, Option.bind_some, Option.bind_some, if_neg (show ¬ ¬ (n : Int) = 12 by omega), b2, Option.bind_some]
    dsimp only
    rw [i00]
    exact Lin.bad b3
  · obtain ⟨σ1, τ1, a1, d1, d2, d3, d4, d5, d6⟩ := h.adv (by omega)
    have e8 : τ1 8 = τ 8 := d4.cell (by decide)
    rw [begins_y (by omega), d1, Option.bind_some, Option.bind_some, if_pos (show ¬ (n : Int) = 12 by omega), d2, Option.bind_some]
    dsimp only
    rw [i10]
    generalize hKK : (fun τ5 E T =>
      if zin (w32 ((w32 (228 + (w32 (10 * E)))) + T)) 288 = true then
        if ¬ (τ5 8 (Int.toNat (w32 ((w32 (228 + (w32 (10 * E)))) + T)))) = 1 then
          if zin (w32 ((w32 (228 + (w32 (10 * E)))) + T)) 288 = true then
            (f_M_next (zset (zset τ5 8 (Int.toNat (w32 ((w32 (228 + (w32 (10 * E)))) + T))) 1) 8 5 (w32 (((zset τ5 8 (Int.toNat (w32 ((w32 (228 + (w32 (10 * E)))) + T))) 1) 8 5) + 1)))).bind fun r14 =>
            some (r14.1, 1)
          else none
        else
          (f_M_bad τ5 3).bind fun r15 =>
          some (r15.1, r15.2)
      else none : zH → Int → Int → zR) = KK
    rcases whoterm d5 d5.q.town KK with ⟨σ2, τ2, a2, E, T, g1, g2, g3, g4, g5, g6, g7, g8, g9, ga, gb, gc, gd⟩ | ⟨σ2, τ2, g1, g2, g3, g4, g5⟩
    · have a01 := d6 (by omega) (by omega)
      have e82 : τ2 8 = τ 8 := by rw [g6, e8]
      rw [e8] at ga g9
      have hw2 := g3.2.1.2.2.2.1
      have c4 := hw2.1.2.2.2.2.1
      have ct := hw2.1.1
      rw [e82] at c4 ct
      have hix : Int.toNat (228 + 10 * (E : Int) + (T : Int)) = 228 + 10 * E + T := by omega
      rw [g1, g2, Option.bind_some, ← hKK]
      dsimp only
      rw [in10, w32_id (x := 10 * (E : Int)) (by omega) (by omega), w32_id (x := 228 + 10 * (E : Int)) (by omega) (by omega), w32_id (x := 228 + 10 * (E : Int) + (T : Int)) (by omega) (by omega), if_pos (zin_t (by omega) (by omega)), if_pos (zin_t (by omega) (by omega)), hix]
      simp only [g3.q.hz, g3.q.hk, if_true]
      rw [g7, g8, c_likes g3.2.1.2.2.1 hw2 (by omega) (by rw [e82]; exact g9) (by omega) (by omega), Option.bind_some, hix]
      dsimp only
      have hz2 := g3.q.hz
      have hk2 := g3.q.hk
      by_cases hl : τ2 8 (228 + 10 * E + T) = 1
      · obtain ⟨σb, τb, b1, b2, b3⟩ := bad_both g3.1 3
        rw [if_pos hl, if_neg (show ¬ (1 : Int) = 0 by decide), if_neg (fun y => y hl), b1, b2]
        exact Bad.pre (d3.w.c.trans g4) (d4.w.c.trans g5) b3
      · obtain ⟨σ3, x1, x2⟩ := c_addTaste (n := n) (t := (E : Int)) (v := (T : Int)) g3.2.1 (by rw [e82]; exact hn) (by omega) (by omega) (by rw [e82]; exact g9) (by omega) (by rw [e82]; exact ga)
        rw [if_neg hl, if_pos (show (0 : Int) = 0 from rfl), if_pos hl, hz2, if_pos rfl, hk2, g7, g8, x1, Option.bind_some, zi (show (5 : Nat) ≠ 228 + 10 * E + T by omega), e82, hn, w32_s (by omega)]
        rw [hix] at x2
        dsimp only
        have c3 : CS σ3 (zset (zset τ2 8 (228 + 10 * E + T) 1) 8 5 ((n + 1 : Nat) : Int)) k L a2 := CS.added g3.1 g3.2.2 g3.2.1.1 g3.2.1.2.1 x2 (by rw [zset_upI, zset_upI]) (fun j hj => by rw [zk hj, zk hj]) rfl
        obtain ⟨σ4, τ4, a4, v1, v2, v3, v4, v5, v6⟩ := c3.adv (by rw [zk (by decide), zk (by decide), gc]; decide)
        have v6' := v6 (by rw [zk (by decide), zk (by decide), gc]; decide)
        rw [v1, v2, Option.bind_some, Option.bind_some]
        refine ⟨σ4, τ4, 1, rfl, rfl, ((d3.w.c.trans g4).trans x2.fr).trans v3.w.c, ((d4.w.c.trans g5).trans (FcM.s8.trans FcM.s8)).trans v4.w.c, Or.inl ⟨rfl, a4, v5, fun q => by have := v6' q; omega⟩⟩
    · rw [g1, g2, Option.bind_some]
      dsimp only
      rw [in00]
      exact ⟨σ2, τ2, 0, rfl, rfl, d3.w.c.trans g3, d4.w.c.trans g4, Or.inr ⟨rfl, g5⟩⟩
end G63
