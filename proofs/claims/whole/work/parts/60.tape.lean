/-! THE TAPE is fed and ended, both sides -/
section G30
variable {σ τ σ1 τ1 : zH} {k q d e : Nat} {a b : Nat → Int}
/-- the tape is other -/
theorem Rl.tape {σ' τ' : zH} (h : Rl σ τ k q d) (hσ : ∀ j i, ¬ SC j i → ¬ (j = 64 ∧ i = 1) → j ≠ 65 → σ' j i = σ j i) (hτ : ∀ j i, ¬ SM j i → ¬ (j = 0 ∧ i = 2) → j ≠ 2 → τ' j i = τ j i) (hT : TapR σ' τ') : Rl σ' τ' k q d := by
  have cf : ∀ j, (96 ≤ j ∧ j ≤ 108) ∨ (160 ≤ j ∧ j ≤ 300) ∨ 384 ≤ j ∨ j < 9 ∨ j = 10 → σ' j = σ j := fun j hj => funext (fun i => hσ j i (by unfold SC; omega) (by omega) (by omega))
  have mf : ∀ j, j = 7 ∨ j = 22 ∨ j = 26 ∨ j = 35 ∨ 44 ≤ j → τ' j = τ j := fun j hj => funext (fun i => hτ j i (by unfold SM; omega) (by omega) (by omega))
  have m0 : ∀ i, i = 15 ∨ i = 23 ∨ i = 27 ∨ i = 31 ∨ i = 32 ∨ i = 35 → τ' 0 i = τ 0 i := fun i hi => hτ 0 i (by unfold SM; omega) (by omega) (by omega)
  have c320 : ∀ i, 4 ≤ i → σ' 320 i = σ 320 i := fun i hi => hσ 320 i (by unfold SC; omega) (by omega) (by omega)
  have e7 : τ' 7 = τ 7 := mf 7 (by omega)
  have hk := h.land.1
  have hq := h.rule.1
  unfold isLand at hk
  unfold isRule at hq
  refine ⟨?_, ?_, ?_, ?_, ?_, ?_, fun f hf => ?_, ?_, hT, ?_, ?_, ?_, ?_, ?_⟩
  · rw [cf 0 (by omega)]; exact h.land
  · rw [cf 0 (by omega)]; exact h.rule
  · rw [e7]; exact h.hL.frame (fun i hi => cf _ (by omega))
  · rw [e7]; exact h.hw
  · rw [e7]; exact h.hN.frame (fun j j0 j1 => cf j (by omega)) (fun _ _ => rfl) (fun j hj => hτ 10 j (by unfold SM; omega) (by omega) (by omega)) h.hw.1
  · rw [e7]; exact h.hS.keepd h.hw (fun _ _ => rfl) (fun j j0 j1 => cf j (by omega))
  · rw [e7]; exact (h.hH f hf).congr (by rw [cf _ (by omega)]) rfl (fun _ _ => rfl)
  · exact h.hA.next h.hw (fun j j0 j1 => cf j (by omega)) (mf 22 (by omega)) (m0 23 (by omega)) (fun j _ => by rw [e7]) (Nat.le_refl d) (fun t f _ _ _ => by rw [e7])
  · have := h.hM
    unfold MisR at this ⊢
    rw [cf 0 (by omega), cf 7 (by omega), cf 10 (by omega), m0 15 (by omega), m0 27 (by omega), m0 31 (by omega), m0 32 (by omega), m0 35 (by omega), mf 26 (by omega), mf 35 (by omega), c320 4 (by omega), c320 5 (by omega), c320 6 (by omega), c320 7 (by omega), c320 8 (by omega)]
    exact this
  · rw [e7]; exact h.hR.frame (fun j j0 j1 => cf j (by omega))
  · exact h.hI.1.frame (fun j j0 j1 => cf j (by omega)) (mf 44 (by omega)) (mf 45 (by omega)) (mf 46 (by omega))
  · exact h.hI.2.frame (fun j j0 j1 => cf j (by omega)) (mf 44 (by omega)) (mf 45 (by omega)) (mf 46 (by omega))
  · exact h.hV.frame (funext (fun i => hτ 11 i (by unfold SM; omega) (by omega) (by omega)))
theorem zushr_0 {x : Int} (hx : r32 x) : zushr x 0 = x := by
  unfold zushr
  rw [show ((Int32.ofInt 0).toUInt32 &&& Int32.toUInt32 31) = 0 from by decide]
  rw [show (Int32.ofInt x).toUInt32 >>> 0 = (Int32.ofInt x).toUInt32 from by
    apply UInt32.toNat_inj.mp
    simp]
  rw [Int32.toInt32_toUInt32]
  unfold r32 at hx
  exact Int32.toInt_ofInt_of_le hx.1 hx.2
/-- a byte of a number -/
theorem byte_rel {x : Int} {s : Nat} (hx : r32 x) (hs : s = 24 ∨ s = 16 ∨ s = 8 ∨ s = 0) : (-128 ≤ w8 (w8 (zshr x (s : Int))) ∧ w8 (w8 (zshr x (s : Int))) < 128) ∧ zand (zushr x (s : Int)) 255 = w8 (w8 (zshr x (s : Int))) % 256 := by
  have hw : ∀ y : Int, -128 ≤ w8 y ∧ w8 y < 128 ∧ w8 y % 256 = y % 256 := fun y => by
    unfold w8
    have h1 := Int.le_bmod (x := y) (m := 256) (by decide)
    have h2 := Int.bmod_lt (x := y) (m := 256) (by decide)
    have h3 := Int.bmod_emod (x := y) (m := 256)
    omega
  obtain ⟨a1, a2, a3⟩ := hw (zshr x (s : Int))
  obtain ⟨b1, b2, b3⟩ := hw (w8 (zshr x (s : Int)))
  have hz := zshr_int hx (k := s) (by omega)
  refine ⟨⟨b1, b2⟩, ?_⟩
  rw [b3, a3, hz]
  by_cases h0 : s = 0
  · subst h0
    rw [show ((0 : Nat) : Int) = 0 from rfl, zushr_0 hx, zand_mask hx]
    simp
  · have hu := zushr_int hx (k := s) (by omega) (Or.inl (by omega))
    have hr : r32 (zushr x (s : Int)) := by
      rw [hu]
      unfold r32
      rcases hs with rfl | rfl | rfl | rfl
      · simp only [show (2 ^ 24 : Nat) = 16777216 from rfl]; omega
      · simp only [show (2 ^ 16 : Nat) = 65536 from rfl]; omega
      · simp only [show (2 ^ 8 : Nat) = 256 from rfl]; omega
      · exact absurd rfl h0
    rw [zand_mask hr, hu]
    rcases hs with rfl | rfl | rfl | rfl
    · simp only [show (2 ^ 24 : Nat) = 16777216 from rfl]; omega
    · simp only [show (2 ^ 16 : Nat) = 65536 from rfl]; omega
    · simp only [show (2 ^ 8 : Nat) = 256 from rfl]; omega
    · exact absurd rfl h0
/-- both tapes, and nothing else -/
def TpS (σ τ σ1 τ1 : zH) (L : Nat) : Prop := σ1 64 1 = (L : Int) ∧ TapR σ1 τ1 ∧ (∀ j i, ¬ (j = 64 ∧ i = 1) → j ≠ 65 → σ1 j i = σ j i) ∧ ∀ j i, ¬ (j = 0 ∧ i = 2) → j ≠ 2 → τ1 j i = τ j i
theorem take_one {L s : Nat} {x : Int} (hx : r32 x) (hs : s = 24 ∨ s = 16 ∨ s = 8 ∨ s = 0) (hL : L < 940) (h : TpS σ τ σ1 τ1 L) : ∃ σ2 τ2, f_Tape_take_3 σ1 x (s : Int) = f_Tape_take_3 σ2 x ((s : Int) - 8) ∧ f_M_four_3 τ1 x (s : Int) = f_M_four_3 τ2 x ((s : Int) - 8) ∧ TpS σ τ σ2 τ2 (L + 1) := by
  obtain ⟨h1, ⟨L', h2, h3, h4, h5⟩, h6, h7⟩ := h
  have : L' = L := by omega
  subst this
  obtain ⟨⟨b0, b1⟩, b2⟩ := byte_rel hx hs
  refine ⟨zset (zset σ1 65 L' (zand (zushr x (s : Int)) 255)) 64 1 ((L' : Int) + 1), zset (zset τ1 2 L' (w8 (w8 (zshr x (s : Int))))) 0 2 ((L' : Int) + 1), ?_, ?_, by rw [zs]; omega, ⟨L' + 1, by omega, by rw [zs]; omega, by rw [zs]; omega, fun i hi => ?_⟩, fun j i hj hj5 => ?_, fun j i hj hj2 => ?_⟩
  · rw [e_Tape_take_3, if_neg (show ¬ (s : Int) < 0 by omega), h1, if_neg (show ¬ 940 ≤ (L' : Int) by omega), if_pos (zin_t (by omega) (by omega)), zk (show (64 : Nat) ≠ 65 by decide), h1, w32_id (x := (L' : Int) + 1) (by omega) (by omega), w32_id (x := (s : Int) + -8) (by omega) (by omega)]
    rfl
  · rw [e_M_four_3, if_neg (show ¬ (s : Int) < 0 by omega), h4, if_pos (zin_t (by omega) (by omega)), zk (show (0 : Nat) ≠ 2 by decide), h4, w32_id (x := (L' : Int) + 1) (by omega) (by omega), w32_id (x := (s : Int) + -8) (by omega) (by omega)]
    rfl
  · rw [zk (show (2 : Nat) ≠ 0 by decide), zk (show (65 : Nat) ≠ 64 by decide)]
    by_cases hiL : i = L'
    · rw [hiL, zs, zs]; exact ⟨b0, b1, b2⟩
    · rw [zi hiL, zi hiL]; exact h5 i (by omega)
  · rw [← h6 j i hj hj5]
    by_cases j4 : j = 64
    · subst j4; rw [zi (by omega), zk (by decide)]
    · rw [zk j4, zk hj5]
  · rw [← h7 j i hj hj2]
    by_cases j0 : j = 0
    · subst j0; rw [zi (by omega), zk (by decide)]
    · rw [zk j0, zk hj2]
theorem take_four {L : Nat} {x : Int} (hx : r32 x) (hL : L + 4 ≤ 940) (h : TpS σ τ σ1 τ1 L) : ∃ σ2 τ2, f_Tape_take σ1 x = some (σ2, 0) ∧ f_M_four τ1 x = some (τ2, 0) ∧ TpS σ τ σ2 τ2 (L + 4) := by
  obtain ⟨σ2, τ2, a1, a2, a3⟩ := take_one (s := 24) hx (by omega) (by omega) h
  obtain ⟨σ3, τ3, b1, b2, b3⟩ := take_one (s := 16) hx (by omega) (by omega) a3
  obtain ⟨σ4, τ4, c1, c2, c3⟩ := take_one (s := 8) hx (by omega) (by omega) b3
  obtain ⟨σ5, τ5, d1, d2, d3⟩ := take_one (s := 0) hx (by omega) (by omega) c3
  refine ⟨σ5, τ5, ?_, ?_, d3⟩
  · rw [e_Tape_take]
    refine Eq.trans a1 (Eq.trans b1 (Eq.trans c1 (Eq.trans d1 ?_)))
    rw [e_Tape_take_3, if_pos (by decide)]
  · rw [e_M_four]
    refine Eq.trans a2 (Eq.trans b2 (Eq.trans c2 (Eq.trans d2 ?_)))
    rw [e_M_four_3, if_pos (by decide)]
theorem q_feed (h : Rl σ τ k q d) {x1 x2 x3 x4 x5 : Int} (h1 : r32 x1) (h2 : r32 x2) (h3 : r32 x3) (h4 : r32 x4) (h5 : r32 x5) : Same (f_R_feed σ x1 x2 x3 x4 x5) (f_M_feed τ x1 x2 x3 x4 x5) := by
  have h0 := h.mark (v := 0)
  rw [e_M_feed, e_R_feed]
  generalize zset τ 0 0 0 = τ0 at h0 ⊢
  obtain ⟨L, t1, t2, t3, t4⟩ := h0.hT
  rw [t2, t3, w32_id (x := (L : Int) + 20) (by omega) (by omega)]
  by_cases hL : (L : Int) + 20 ≤ 940
  · obtain ⟨σ1, τ1, a1, a2, a3⟩ := take_four h1 (by omega) (show TpS σ τ0 σ τ0 L from ⟨t2, h0.hT, fun _ _ _ _ => rfl, fun _ _ _ _ => rfl⟩)
    obtain ⟨σ2, τ2, b1, b2, b3⟩ := take_four h2 (by omega) a3
    obtain ⟨σ3, τ3, c1, c2, c3⟩ := take_four h3 (by omega) b3
    obtain ⟨σ4, τ4, d1, d2, d3⟩ := take_four h4 (by omega) c3
    obtain ⟨σ5, τ5, e1, e2, e3, e4, e5, e6⟩ := take_four h5 (by omega) d3
    rw [if_pos hL, if_pos hL, a1, a2, Option.bind_some, Option.bind_some]
    dsimp only
    rw [b1, b2, Option.bind_some, Option.bind_some]
    dsimp only
    rw [c1, c2, Option.bind_some, Option.bind_some]
    dsimp only
    rw [d1, d2, Option.bind_some, Option.bind_some]
    dsimp only
    rw [e1, e2, Option.bind_some, Option.bind_some]
    dsimp only
    obtain ⟨L', u1, u2, u3, u4⟩ := e4
    rw [u2, u3]
    exact ⟨σ5, τ5, _, rfl, rfl, k, q, d, h0.tape (fun j i _ hj hj5 => e5 j i hj hj5) (fun j i _ hj hj2 => e6 j i hj hj2) ⟨L', u1, u2, u3, u4⟩⟩
  · rw [if_neg hL, if_neg hL]
    exact h0.look rfl rfl
theorem q_end (h : Rl σ τ k q d) (n : Int) : Same (f_R_end σ n) (f_M_end τ n) := by
  have h0 := h.mark (v := 0)
  rw [e_M_end, e_R_end]
  generalize zset τ 0 0 0 = τ0 at h0 ⊢
  obtain ⟨L, t1, t2, t3, t4⟩ := h0.hT
  by_cases hn : n < 0
  · rw [if_pos hn, if_pos hn]; exact h0.look rfl rfl
  · by_cases hnL : n ≤ (L : Int)
    · rw [if_neg hn, if_neg hn, if_pos (show n ≤ σ 64 1 by omega), if_pos (show n ≤ τ0 0 2 by omega)]
      refine ⟨_, _, 1, rfl, rfl, k, q, d, h0.tape (fun j i _ hj hj5 => ?_) (fun j i _ hj hj2 => ?_) ⟨n.toNat, by omega, by rw [zs]; omega, by rw [zs]; omega, fun i hi => ?_⟩⟩
      · by_cases j4 : j = 64
        · subst j4; rw [zi (by omega)]
        · rw [zk j4]
      · by_cases j0 : j = 0
        · subst j0; rw [zi (by omega)]
        · rw [zk j0]
      · rw [zk (show (2 : Nat) ≠ 0 by decide), zk (show (65 : Nat) ≠ 64 by decide)]
        exact t4 i (by omega)
    · rw [if_neg hn, if_neg hn, if_neg (show ¬ n ≤ σ 64 1 by omega), if_neg (show ¬ n ≤ τ0 0 2 by omega)]
      exact h0.look rfl rfl
theorem q_saidAt (h : Rl σ τ k q d) (i : Int) : Same (f_R_saidAt σ i) (f_M_saidAt τ i) := by
  have h0 := h.mark (v := 0)
  rw [e_M_saidAt, e_R_saidAt]
  generalize zset τ 0 0 0 = τ0 at h0 ⊢
  obtain ⟨L, m1, m2, m3, m4⟩ := h0.hM.2.1
  rw [m_isIn, Option.bind_some, m3, w32_id (x := (L : Int) - 1) (by omega) (by omega)]
  dsimp only
  by_cases hi : i < 0
  · rw [if_pos hi, if_neg (show ¬ (0 ≤ i ∧ i ≤ (L : Int) - 1) by omega), i00]
    exact h0.look rfl rfl
  · by_cases hiL : (L : Int) ≤ i
    · rw [if_neg hi, if_pos (show σ 0 15 ≤ i by omega), if_neg (show ¬ (0 ≤ i ∧ i ≤ (L : Int) - 1) by omega), i00]
      exact h0.look rfl rfl
    · rw [if_neg hi, if_neg (show ¬ σ 0 15 ≤ i by omega), if_pos (show 0 ≤ i ∧ i ≤ (L : Int) - 1 by omega), i10, if_pos (zin_t (by omega) (by omega)), if_pos (zin_t (by omega) (by omega)), m4 _ (by omega)]
      exact h0.look rfl rfl
end G30
