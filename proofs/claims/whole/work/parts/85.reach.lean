/-! LINES of a country, both sides: a reach -/
section G60
variable {σ τ σ' τ' σ1 τ1 : zH} {k L a n : Nat} {b : Nat → Int}
theorem fresh_T (h : CS σ τ k L a) {to : Nat} (h1 : to < 60) (g : f_M_fresh τ (to : Int) = some (τ', 1)) : τ 0 11 ≠ 4 := by
  rcases new_both (to := to) h.1 h.2.2 h.2.1.2.2.2.2.1 h.q.2.2.2.1 h1 with ⟨n1, n2, -⟩ | ⟨σ3, τ3, n1, n2, n3⟩
  · rw [n2]; decide
  · exfalso
    have e := g.symm.trans n2
    simp at e
theorem l_reach (h : CS σ τ k L a) (hT : τ 0 11 = 1) : Lin k L a σ τ (f_CountryReader_readReach σ) (f_M_readReach τ) := by
  have hq := h.q
  obtain ⟨n, hn⟩ : ∃ n : Nat, τ 8 1 = (n : Int) := ⟨(τ 8 1).toNat, by have := h.2.1.2.2.2.1.1.2.1; omega⟩
  have hL0 := h.2.1.2.2.1.1.2.1
  have c0 := h.2.1.2.2.2.1.1.2.1
  have hkl := h.2.1.1
  unfold isLand at hkl
  rw [e_CountryReader_readReach, hq.hz, hq.hk, if_pos rfl, hL0, e_M_readReach, hn]
  by_cases h10 : n = 8
  · obtain ⟨σ', τ', b1, b2, b3⟩ := bad_both h.1 4
    rw [begins_n (by omega), b1, Option.bind_some, Option.bind_some, if_neg (show ¬ ¬ (n : Int) = 8 by omega), b2, Option.bind_some]
    dsimp only
    rw [i00]
    exact Lin.bad b3
  · obtain ⟨σ1, τ1, a1, d1, d2, d3, d4, d5, d6⟩ := h.adv (by omega)
    have e8 : τ1 8 = τ 8 := d4.cell (by decide)
    rw [begins_y (by omega), d1, Option.bind_some, Option.bind_some, if_pos (show ¬ (n : Int) = 8 by omega), d2, Option.bind_some]
    dsimp only
    rw [i10, w32_id (x := 40 + (n : Int)) (by omega) (by omega), show (40 : Int) + (n : Int) = ((40 + n : Nat) : Int) by omega]
    rcases newname d5 (to := 40 + n) (by omega) (by omega) (fun s m hs hm => by
      rw [e8] at hm
      rcases nb_lt hq.2.2.2.1 hs hm with q | q | q | q <;> omega) with ⟨σ2, τ2, a2, g1, g2, g3, g4, g5, g6, g7, g8, g9⟩ | ⟨σ2, τ2, g1, g2, g3⟩
    · have hT1 : τ1 0 11 ≠ 4 := fresh_T d5 (by omega) g2
      have e82 : τ2 8 = τ 8 := by rw [g6, e8]
      have a01 := d6 (by omega) hT1
      rw [g1, g2, Option.bind_some, Option.bind_some]
      dsimp only
      rw [i10, in10]
      have f2 : FcC k σ σ2 := d3.w.c.trans g4
      have m2 : FcM τ τ2 := d4.w.c.trans g5
      rcases num_both (lo := 1) (hi := 9) g3.1 with ⟨p1, p2, p3, p4, p5, p6, p7⟩ | ⟨σ3, τ3, p1, p2, p3⟩
      · rw [p6, p7, Option.bind_some]
        dsimp only
        rw [in10]
        obtain ⟨σ3, τ3, a3, r1, r2, r3, r4, r5, r6⟩ := (g3.got (σ2 64 7)).adv (by rw [zi (by decide), p2]; decide)
        have a23 := r6 (by rw [zi (by decide), p2]; decide)
        have a12 := g9 (by rw [p2]; decide)
        have e83 : τ3 8 = τ 8 := by rw [r4.cell (by decide), zk (by decide), e82]
        have e103 : τ3 10 = τ2 10 := by rw [r4.cell (by decide), zk (by decide)]
        have e18 : τ3 0 18 = σ2 64 7 := by rw [r4 0 18 (by unfold lxM; omega), zs]
        have e32 : σ3 32 3 = σ2 32 3 := by rw [r3.cell (by decide)]
        have f3 : FcC k σ σ3 := f2.trans r3.w.c
        have m3 : FcM τ τ3 := m2.trans (FcM.s18.trans r4.w.c)
        have hnew : ∀ s m, ¬ Told (fun i => τ3 10 (30 + i)) (τ3 8) (σ2 32 3) s m := by
          rw [e103, e83, ← e82]; exact g8
        have hwn : τ3 10 (40 + n) = σ2 32 3 := by rw [e103]; exact g7
        have q4 : QS σ3 (zset (zset τ3 8 (16 + n) (σ2 64 7)) 8 (24 + n) (-1)) k L a3 (τ3 8) := r5.q.fr (fun _ _ => rfl) rfl rfl (fun _ _ _ => rfl) (fun i _ => by rw [zk (by decide), zk (by decide)]) (by rw [zk (by decide), zk (by decide)]) (by rw [zk (by decide), zk (by decide)]) (fun i hi => by rw [zi (by omega), zi (by omega)]) (fun _ _ _ _ => by rw [zk (by decide), zk (by decide)])
        have w5 : f_M_isWord (zset (zset τ3 8 (16 + n) (σ2 64 7)) 8 (24 + n) (-1)) 1768846447 = some (zset (zset τ3 8 (16 + n) (σ2 64 7)) 8 (24 + n) (-1), if σ3 64 6 = ((5 : Nat) : Int) then 1 else 0) := m_isWord (i := 5) (by decide) q4.1.tok
        have w5n : ((5 : Nat) : Int) = 5 := rfl
        rw [w5n] at w5
        rw [r1, r2, Option.bind_some, Option.bind_some, Option.bind_some]
        dsimp only
        rw [in10, w32_id (x := 16 + (n : Int)) (by omega) (by omega), if_pos (zin_t (by omega) (by omega)), w32_id (x := 24 + (n : Int)) (by omega) (by omega), if_pos (zin_t (by omega) (by omega)), show Int.toNat (16 + (n : Int)) = 16 + n by omega, show Int.toNat (24 + (n : Int)) = 24 + n by omega, e18, w5, Option.bind_some]
        dsimp only
        by_cases hin : σ3 64 6 = 5
        · rw [if_neg (fun x => x hin), if_pos hin, if_neg (show ¬ (1 : Int) = 0 by decide)]
          obtain ⟨σ5, τ5, a5, s1, s2, s3, s4, s5, s6⟩ := q4.adv (by
            rw [zk (by decide), zk (by decide)]
            rcases r5.1.tok with ⟨t1, t2, t3⟩ | ⟨t1, t2, t3⟩ | ⟨t1, t2, t3⟩ | ⟨t1, t2, t3, t4, t5, t6⟩ | ⟨t1, t2, t3, t4⟩ <;> omega)
          have hT3 : τ3 0 11 = 1 := by
            rcases r5.1.tok with ⟨t1, t2, t3⟩ | ⟨t1, t2, t3⟩ | ⟨t1, t2, t3⟩ | ⟨t1, t2, t3, t4, t5, t6⟩ | ⟨t1, t2, t3, t4⟩
            · exfalso; omega
            · exfalso; omega
            · exact t2
            · exfalso; omega
            · exfalso; omega
          have a23' := a23 (by rw [hT3]; decide)
          have f5 : FcC k σ σ5 := f3.trans s3.w.c
          have m5 : FcM τ τ5 := (m3.trans (FcM.s8.trans FcM.s8)).trans s4.w.c
          have e85 : τ5 8 = zset (zset τ3 8 (16 + n) (σ2 64 7)) 8 (24 + n) (-1) 8 := s4.cell (by decide)
          rw [s1, s2, Option.bind_some, Option.bind_some]
          dsimp only
          simp only [s5.hz, s5.hk, if_true]
          rcases s5.reach with ⟨T, u1, u2, u3, u4⟩ | ⟨σ6, τ6, u1, u2, u3⟩
          · rw [e83, hn] at u1
            have hz5 : zio 1 (σ5 32 1) = true := s5.hz
            have hk5 : Int.toNat (σ5 32 1) = k := s5.hk
            rw [u3, u4, Option.bind_some, Option.bind_some]
            dsimp only
            simp only [hz5, hk5, if_true]
            have z18 : zset τ5 0 18 (T : Int) 0 18 = (T : Int) := zs
            have z19 : zset (zset τ5 0 18 (T : Int)) 8 (24 + n) (T : Int) 0 18 = (T : Int) := by rw [zk (by decide)]; exact z18
            have e40 : zset τ5 0 18 (T : Int) 8 (40 + T) = τ3 8 (40 + T) := by rw [zk (by decide), e85, zi (by omega), zi (by omega)]
            have k40 : σ5 (k + 6) T = τ3 8 (40 + T) := by
              rw [s3.cell (by omega)]
              have := (r5.2.1.2.2.1.2.2.1 (T : Int) (by omega) (by rw [e83]; omega)).1.2.2.2
              rw [show Int.toNat (T : Int) = T from rfl, show Int.toNat (40 + (T : Int)) = 40 + T by omega] at this
              exact this
            have w40 := (r5.2.1.2.2.2.1.2.2.1 (T : Int) (by omega) (by rw [e83]; omega)).2.2.2
            rw [show Int.toNat (40 + (T : Int)) = 40 + T by omega] at w40
            rw [if_pos (show ¬ (T : Int) = -1 by omega), in10, if_pos (zin_t (by omega) (by omega)), show Int.toNat (T : Int) = T from rfl]
            simp only [k40, z18]
            rw [w32_id (x := 40 + (T : Int)) (by omega) (by omega), if_pos (zin_t (by omega) (by omega)), show Int.toNat (40 + (T : Int)) = 40 + T by omega, e40]
            by_cases hs : τ3 8 (40 + T) ≤ 0
            · rw [if_pos hs, if_pos hs, if_pos (zin_t (by omega) (by omega)), z19, w32_id (x := 32 + (T : Int)) (by omega) (by omega), if_pos (zin_t (by omega) (by omega)), if_pos (zin_t (by omega) (by omega)), show Int.toNat (32 + (T : Int)) = 32 + T by omega]
              have e32T : zset (zset τ5 0 18 (T : Int)) 8 (24 + n) (T : Int) 8 (32 + T) = τ3 8 (32 + T) := by rw [zi (by omega), zk (by decide), e85, zi (by omega), zi (by omega)]
              have hI := r5.2.1.2.2.2.2.2.2 (T : Int) (by omega) (by rw [e83]; omega)
              rw [show Int.toNat (32 + (T : Int)) = 32 + T by omega] at hI
              have w32' := (r5.2.1.2.2.2.1.2.2.1 (T : Int) (by omega) (by rw [e83]; omega)).2.2.1
              rw [show Int.toNat (32 + (T : Int)) = 32 + T by omega] at w32'
              rw [e32T, w32_id (x := τ3 8 (32 + T) + 1) (by omega) (by omega)]
              have q7 : QS σ5 (zset (zset (zset τ5 0 18 (T : Int)) 8 (24 + n) (T : Int)) 8 (32 + T) (τ3 8 (32 + T) + 1)) k L a5 (τ3 8) := s5.fr (fun _ _ => rfl) rfl rfl (fun _ _ _ => rfl) (fun i _ => by rw [zk (by decide), zk (by decide), zi (by omega)]) (by rw [zk (by decide), zk (by decide), zk (by decide)]) (by rw [zk (by decide), zk (by decide), zk (by decide)]) (fun i hi => by rw [zi (by omega), zi (by omega), zk (by decide)]) (fun _ _ _ _ => by rw [zk (by decide), zk (by decide), zk (by decide)])
              obtain ⟨σ8, τ8, a8, v1, v2, v3, v4, v5, v6⟩ := q7.adv (by rw [zk (by decide), zk (by decide), zi (by decide), u2]; decide)
              have hz8 := v5.hz
              have hk8 := v5.hk
              have v6' := v6 (by rw [zk (by decide), zk (by decide), zi (by decide), u2]; decide)
              have s6' := s6 (by rw [zk (by decide), zk (by decide), hT3]; decide) (by rw [u2]; decide)
              have e88 : τ8 8 = zset (zset (zset τ5 0 18 (T : Int)) 8 (24 + n) (T : Int)) 8 (32 + T) (τ3 8 (32 + T) + 1) 8 := v4.cell (by decide)
              have r88 : ∀ j, τ8 8 j = if j = 32 + T then τ3 8 (32 + T) + 1 else if j = 24 + n then (T : Int) else if j = 16 + n then σ2 64 7 else τ3 8 j := fun j => by
                rw [e88]
                by_cases j1 : j = 32 + T
                · rw [if_pos j1, j1, zs]
                · rw [if_neg j1, zi j1]
                  by_cases j2 : j = 24 + n
                  · rw [if_pos j2, j2, zs]
                  · rw [if_neg j2, zi j2, zk (by decide), e85, zi j2]
                    by_cases j3 : j = 16 + n
                    · rw [if_pos j3, j3, zs]
                    · rw [if_neg j3, zi j3]
              have e10 : τ8 10 = τ3 10 := by rw [v4.cell (by decide), zk (by decide), zk (by decide), zk (by decide), s4.cell (by decide), zk (by decide), zk (by decide)]
              have cb8 : CB σ8 τ3 k := r5.2.1.fr (fun j j0 j1 => by rw [v3.cell (by omega), s3.cell (by omega)]) (by rw [v3.cell (by decide), s3.cell (by decide)]) rfl (fun _ _ _ _ => rfl)
              have e323 : σ8 32 3 = σ2 32 3 := by rw [v3.cell (by decide), s3.cell (by decide), e32]
              obtain ⟨σ9, x1, x2⟩ := c_addReach (b := zset τ8 8 1 ((n + 1 : Nat) : Int) 8) (n := n) (len := σ2 64 7) (T := (T : Int)) cb8 (by rw [e83]; exact hn) (by omega) p4 p5 (by omega) (by omega) (fun _ => by rw [show Int.toNat (40 + (T : Int)) = 40 + T by omega]; omega) hnew hwn zs (by rw [zi (by omega), r88, if_neg (by omega), if_neg (by omega), if_pos rfl]) (by rw [zi (by omega), r88, if_neg (by omega), if_pos rfl]) (fun _ => by rw [show Int.toNat (32 + (T : Int)) = 32 + T by omega, zi (by omega), r88, if_pos rfl]) (fun j j1 j2 j3 j4 => by rw [zi j1, r88, if_neg (by omega), if_neg j3, if_neg j2])
              have e81 : τ8 8 1 = (n : Int) := by rw [r88, if_neg (by omega), if_neg (by omega), if_neg (by omega), e83]; exact hn
              rw [v1, v2, Option.bind_some, Option.bind_some]
              dsimp only
              simp only [hz8, hk8, if_true]
              rw [e323, x1, Option.bind_some, e81, w32_s (by omega)]
              refine ⟨_, _, 1, rfl, rfl, (f5.trans v3.w.c).trans x2.fr, ((m5.trans (FcM.s18.trans (FcM.s8.trans FcM.s8))).trans v4.w.c).trans FcM.s8, Or.inl ⟨rfl, a8, CS.added v5.1 v5.2.2.2.2.2.1 v5.2.1 v5.2.2.1 x2 rfl (fun j hj => zk hj) e10, fun q => ?_⟩⟩
              rw [zk (by decide)] at q
              have := v6' q
              omega
            · obtain ⟨σ', τ', b1, b2, b3⟩ := bad_both (s5.fr (τ' := zset τ5 0 18 (T : Int)) (fun _ _ => rfl) rfl rfl (fun _ _ _ => rfl) (fun i hi => zi (by omega)) (zk (by decide)) (zk (by decide)) (fun i _ => by rw [zk (by decide)]) (fun _ _ _ _ => by rw [zk (by decide)])).1 3
              rw [if_neg hs, if_neg hs, b1, b2]
              exact Bad.pre f5 (m5.trans FcM.s18) b3
          · rw [u1, u2, Option.bind_some, Option.bind_some]
            dsimp only
            rw [if_neg (fun x => x rfl), in00]
            exact Bad.pre f5 m5 u3
        · rw [if_pos hin, if_neg hin, if_pos rfl]
          simp only [r5.q.hz, r5.q.hk, if_true]
          obtain ⟨σ4, x1, x2⟩ := c_addReach (b := upI (upI (upI (τ3 8) (16 + n) (σ2 64 7)) (24 + n) (-1)) 1 ((n + 1 : Nat) : Int)) (n := n) (len := σ2 64 7) (T := -1) r5.2.1 (by rw [e83]; exact hn) (by omega) p4 p5 (by omega) (by omega) (fun q => by omega) hnew hwn upI_eq (by rw [upI_ne (by omega), upI_ne (by omega), upI_eq]) (by rw [upI_ne (by omega), upI_eq]) (fun q => by omega) (fun j j1 j2 j3 j4 => by rw [upI_ne j1, upI_ne j3, upI_ne j2])
          have e81 : zset (zset τ3 8 (16 + n) (σ2 64 7)) 8 (24 + n) (-1) 8 1 = (n : Int) := by rw [zi (by omega), zi (by omega), e83]; exact hn
          rw [e32, x1, Option.bind_some, e81, w32_s (by omega)]
          refine ⟨_, _, 1, rfl, rfl, f3.trans x2.fr, m3.trans (FcM.s8.trans (FcM.s8.trans FcM.s8)), Or.inl ⟨rfl, a3, CS.added r5.1 r5.2.2 r5.2.1.1 r5.2.1.2.1 x2 (by rw [zset_upI, zset_upI, zset_upI]) (fun j hj => by rw [zk hj, zk hj, zk hj]) rfl, fun q => ?_⟩⟩
          rw [zk (by decide), zk (by decide), zk (by decide)] at q
          have := a23 q
          omega
      · rw [p1, p2, Option.bind_some, Option.bind_some]
        dsimp only
        rw [in00, in00]
        exact Bad.pre f2 m2 p3
    · rw [g1, g2, Option.bind_some, Option.bind_some]
      dsimp only
      rw [i00, in00]
      exact Bad.pre d3.w.c d4.w.c g3
end G60
