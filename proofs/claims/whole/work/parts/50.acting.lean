/-! CALLS that act, both sides -/
section G20
variable {σ τ : zH} {k q d : Nat} {a b : Nat → Int}
/-- other acts are kept: all else stays -/
theorem Rl.acts {σ' τ' : zH} (h : Rl σ τ k q d) (hA : ActsR σ' τ' d) (hσ : ∀ j, ¬ (160 ≤ j ∧ j ≤ 300) → σ' j = σ j) (hτ : ∀ j, j ≠ 22 → j ≠ 0 → τ' j = τ j) (hτ0 : ∀ i, i ≠ 23 → τ' 0 i = τ 0 i) : Rl σ' τ' k q d := by
  have hk := h.land.1
  have hq := h.rule.1
  unfold isLand at hk
  unfold isRule at hq
  have e7 : τ' 7 = τ 7 := hτ 7 (by decide) (by decide)
  refine ⟨?_, ?_, ?_, ?_, ?_, ?_, fun e he => ?_, hA, ?_, ?_, ?_, ?_, ?_, ?_⟩
  · rw [hσ 0 (by omega)]; exact h.land
  · rw [hσ 0 (by omega)]; exact h.rule
  · rw [e7]; exact h.hL.frame (fun i hi => hσ _ (by omega))
  · rw [e7]; exact h.hw
  · rw [e7, hτ 10 (by decide) (by decide)]
    exact h.hN.frame (fun j j0 j1 => hσ j (by omega)) (fun _ _ => rfl) (fun _ _ => rfl) h.hw.1
  · rw [e7]; exact h.hS.keepd h.hw (fun _ _ => rfl) (fun j j0 j1 => hσ j (by omega))
  · rw [e7]; exact (h.hH e he).congr (by rw [hσ _ (by omega)]) rfl (fun _ _ => rfl)
  · have := h.hT
    unfold TapR at this ⊢
    rw [hσ 64 (by omega), hσ 65 (by omega), hτ 2 (by decide) (by decide), hτ0 2 (by decide)]
    exact this
  · have := h.hM
    unfold MisR at this ⊢
    rw [hσ 0 (by omega), hσ 7 (by omega), hσ 10 (by omega), hσ 320 (by omega), hτ 26 (by decide) (by decide), hτ 35 (by decide) (by decide), hτ0 15 (by decide), hτ0 27 (by decide), hτ0 31 (by decide), hτ0 32 (by decide), hτ0 35 (by decide)]
    exact this
  · rw [e7]
    exact h.hR.frame (fun j j0 j1 => hσ j (by omega))
  · exact h.hI.1.frame (fun j j0 j1 => hσ j (by omega)) (hτ 44 (by decide) (by decide)) (hτ 45 (by decide) (by decide)) (hτ 46 (by decide) (by decide))
  · exact h.hI.2.frame (fun j j0 j1 => hσ j (by omega)) (hτ 44 (by decide) (by decide)) (hτ 45 (by decide) (by decide)) (hτ 46 (by decide) (by decide))
  · exact h.hV.frame (hτ 11 (by decide) (by decide))
theorem Rl.kept (h : Rl σ τ k q d) : ∃ σ' τ', f_Acts_keep σ 96 = some (σ', 0) ∧ f_M_keep τ = some (τ', 0) ∧ Rl σ' τ' k q d ∧ (∀ j, ¬ (160 ≤ j ∧ j ≤ 300) → σ' j = σ j) ∧ τ' 7 = τ 7 := by
  obtain ⟨σ', τ', h1, h2, h3, h4, h5, h6⟩ := keep_both h.hw h.hA h.hS
  exact ⟨σ', τ', h1, h2, h.acts h3 h4 h5 h6, h4, h5 7 (by decide) (by decide)⟩
theorem Rl.passed {σ' τ' : zH} {e : Nat} (h : Rl σ τ k q d) (hp : PassOut σ τ σ' τ' 96 d e) (hde : d ≤ e) : Rl σ' τ' k q e := by
  obtain ⟨p1, p2, p3, p4, p5, p6, p7, p8⟩ := hp
  obtain ⟨p9, p10⟩ := p8 rfl
  have h4 := h.hw.1.2.2.2.2.1
  refine h.step (fun j i _ hj => by rw [p1 j hj]) (fun j i hj hj7 => ?_) hde p4 (fun f hf => ?_) p6
  · by_cases j7 : j = 7
    · subst j7; exact p3 i (by omega)
    · rw [p2 j j7 (by unfold SM at hj; omega)]
  · by_cases hfd : f < d
    · exact (h.hH f hfd).congr (p9 f hfd) (p3 4 (by omega)) (fun t ht => p6 t f (by omega) (by omega) hfd)
    · exact p10 f (by omega) hf
theorem zmin_nat {a b : Nat} : zmin (a : Int) (b : Int) = ((min a b : Nat) : Int) := by
  unfold zmin
  split <;> omega
theorem q_days (h : Rl σ τ k q d) (n : Int) : Same (f_R_days σ n) (f_M_days τ n) := by
  have h0 := h.mark (v := 0)
  rw [e_M_days, e_R_days, e_R_isWithin]
  generalize zset τ 0 0 0 = τ0 at h0 ⊢
  rw [m_isIn, Option.bind_some]
  dsimp only
  by_cases hn : 1 ≤ n ∧ n ≤ 99
  · obtain ⟨N, hN⟩ : ∃ N : Nat, n = (N : Int) := ⟨n.toNat, by omega⟩
    subst hN
    have hd4 := h0.hS.1
    have e12 := h0.hS.2.2.1
    have e288 := h0.hS.2.1
    rw [if_pos hn, in10, if_neg (show ¬ (N : Int) < 1 by omega), if_neg (show ¬ (99 : Int) < N by omega), Option.bind_some]
    dsimp only
    rw [in10, e_Stream_daysLeft, Option.bind_some]
    dsimp only
    rw [e12, w32_id (x := 400 - (d : Int)) (by omega) (by omega), show (400 - (d : Int)) = ((400 - d : Nat) : Int) by omega, zmin_nat]
    by_cases hd : d = 400
    · rw [if_pos (show ((min N (400 - d) : Nat) : Int) ≤ 0 by omega), if_neg (show ¬ ¬ τ0 7 288 = 400 by omega), show ((min N (400 - d) : Nat) : Int) = 0 by omega]
      exact h0.look rfl rfl
    · rw [if_neg (show ¬ ((min N (400 - d) : Nat) : Int) ≤ 0 by omega), if_pos (show ¬ τ0 7 288 = 400 by omega)]
      obtain ⟨σ1, τ1, k1, k2, k3, k4, k5⟩ := h0.kept
      rw [k1, k2, Option.bind_some, Option.bind_some]
      dsimp only
      simp only [k3.hz, k3.hk, if_true]
      rw [e_Stream_pass, e_Stream_daysLeft, k3.hS.2.2.1, Option.bind_some, e_M_goes]
      dsimp only
      rw [w32_id (x := 400 - (d : Int)) (by omega) (by omega), show (400 - (d : Int)) = ((400 - d : Nat) : Int) by omega, zmin_nat, show min (min N (400 - d)) (400 - d) = min N (400 - d) by omega]
      obtain ⟨σ2, τ2, g1, g2, g3⟩ := pass_both (k := k) (ks := 96) (M := min N (400 - d)) (N := N) (e := d + min N (400 - d)) k3.ap (by omega) (by omega) (by omega) (by omega) (min N (400 - d)) 0 d σ1 τ1 (by omega) rfl k3.hL k3.hw k3.hS
      rw [show f_Stream_pass_12 σ1 96 k ((min N (400 - d) : Nat) : Int) 0 = f_Stream_pass_12 σ1 96 k ((min N (400 - d) : Nat) : Int) ((0 : Nat) : Int) from rfl, g1, show f_M_goes_2 τ1 (N : Int) 0 = f_M_goes_2 τ1 (N : Int) ((0 : Nat) : Int) from rfl, g2, Option.bind_some, Option.bind_some]
      exact (k3.passed g3 (by omega)).look rfl rfl
  · rw [if_neg hn, in00]
    by_cases h1 : n < 1
    · rw [if_pos h1, Option.bind_some]
      dsimp only
      rw [in00]
      exact h0.look rfl rfl
    · rw [if_neg h1, if_pos (by omega), Option.bind_some]
      dsimp only
      rw [in00]
      exact h0.look rfl rfl
/-- who is awake, or what is at places, is other -/
theorem StrR.upd {σ' : zH} {ks d : Nat} (h : StrR σ ks a d) (hw : wfL a) (hb : ∀ j, j < 2778 → j ≠ 293 → ¬ (306 ≤ j ∧ j < 378) → b j = a j) (s0 : σ' ks 12 = σ ks 12 ∧ σ' ks 14 = σ ks 14 ∧ σ' ks 15 = σ ks 15) (hAw : ∃ n m : Nat, σ' ks 13 = (n : Int) ∧ b 293 = (m : Int) ∧ AwR n m (a 2)) (hC : CellR σ' ks d b) (s2 : ∀ j, 3 ≤ j → j ≤ 11 → σ' (ks + j) = σ (ks + j)) : StrR σ' ks b d := by
  obtain ⟨q1, q2, q3, -, q5, q6, q7, q8, q9⟩ := h
  have hc0 := hw.1.1
  have hc2 := hw.1.2.2.1
  have hc4 := hw.1.2.2.2.2.1
  have b0 : b 0 = a 0 := hb 0 (by omega) (by omega) (by omega)
  have b2 : b 2 = a 2 := hb 2 (by omega) (by omega) (by omega)
  have b4 : b 4 = a 4 := hb 4 (by omega) (by omega) (by omega)
  refine ⟨q1, by rw [hb 288 (by omega) (by omega) (by omega)]; exact q2, by rw [s0.1]; exact q3, by rw [b2]; exact hAw, by rw [s0.2.1, hb 289 (by omega) (by omega) (by omega)]; exact q5, by rw [s0.2.2, hb 290 (by omega) (by omega) (by omega)]; exact q6, hC, ⟨fun e e0 e1 => ?_, fun e e0 e1 => ?_, ?_, ?_⟩, fun t t0 t1 => ⟨?_, fun d' hd' => ?_⟩⟩
  · rw [b2] at e1
    rw [s2 3 (by omega) (by omega), s2 4 (by omega) (by omega), hb _ (by omega) (by omega) (by omega), hb _ (by omega) (by omega) (by omega)]
    exact q8.1 e e0 e1
  · rw [b2] at e0
    rw [s2 3 (by omega) (by omega), s2 4 (by omega) (by omega)]
    exact q8.2.1 e e0 e1
  · rw [hb 291 (by omega) (by omega) (by omega), s2 3 (by omega) (by omega)]; exact q8.2.2.1
  · rw [hb 292 (by omega) (by omega) (by omega), s2 4 (by omega) (by omega)]; exact q8.2.2.2
  · rw [b4] at t1
    obtain ⟨g1, g2⟩ := q9 t t0 t1
    exact g1.congr hw t0 (by omega) (fun j j0 j1 => by rw [s2 j (by omega) (by omega)]) (fun j hj => hb j (by omega) (by omega) (by omega)) g2 (fun d' hd' => by unfold wv; exact hb _ (by omega) (by omega) (by omega))
  · rw [b4] at t1
    have h9 := (q9 t t0 t1).2 d' hd'
    unfold wv at h9 ⊢
    rw [hb _ (by omega) (by omega) (by omega), b0]
    exact h9
theorem AwR.flip {n m e : Nat} {ne : Int} (h : AwR n m ne) (he : e < 6) : AwR (n ^^^ 2 ^ e) (m ^^^ 2 ^ e) ne := by
  obtain ⟨h1, h2, h3⟩ := h
  have hp : 2 ^ e < 2 ^ 6 := Nat.pow_lt_pow_right (by decide) he
  refine ⟨Nat.xor_lt_two_pow (n := 6) h1 hp, Nat.xor_lt_two_pow (n := 6) h2 hp, fun j hj => ?_⟩
  have := h3 j hj
  rw [Nat.testBit_xor, Nat.testBit_xor, Nat.testBit_two_pow]
  by_cases hej : e = j
  · simp only [hej, decide_true, Bool.xor_true, Bool.not_eq_true']
    cases hx : n.testBit j <;> cases hy : m.testBit j <;> simp_all
  · simp only [hej, decide_false, Bool.xor_false]
    exact this
theorem CellR.congr {σ' : zH} {ks : Nat} {D : Int} (h : CellR σ ks D a) (hw : wfL a) (hs : σ' (ks + 1) = σ (ks + 1)) (hb : ∀ j, j < 288 ∨ (306 ≤ j ∧ j < 378) → b j = a j) : CellR σ' ks D b := by
  have hc1 := hw.1.2.1
  refine ⟨fun r p r0 r1 p0 p1 => ?_, fun r j r0 r1 j0 j1 hj => ?_⟩
  · rw [hb 1 (by omega)] at r1
    have hr := hw.2.2.1 r r0 r1
    rw [hb (Int.toNat (16 + r)) (by omega)] at p1 ⊢
    rw [hs, hb (Int.toNat (306 + 9 * r + p)) (by omega), hb 0 (by omega)]
    exact h.1 r p r0 r1 p0 p1
  · rw [hb 1 (by omega), hb (Int.toNat (16 + r)) (by omega)] at hj
    rw [hs, hb (Int.toNat (306 + 9 * r + j)) (by omega)]
    exact h.2 r j r0 r1 j0 j1 hj
theorem q_wake_in (h : Rl σ τ k q d) {e : Nat} {aw : Int} (he : (e : Int) < τ 7 2) (ha : aw = 0 ∨ aw = 1) {n m : Nat} (hn : σ 96 13 = (n : Int)) (hm : τ 7 293 = (m : Int)) (hA : AwR n m (τ 7 2)) :
    ∃ σ' τ', ((f_Acts_keep σ 96).bind fun r3 => (f_Stream_toggle r3.1 96 (e : Int)).bind fun r4 => some (r4.1, (1 : Int))) = some (σ', 1) ∧ ((f_M_keep τ).bind fun r1 => some (zset r1.1 7 293 (zxor (r1.1 7 293) (zshl 1 (e : Int))), (1 : Int))) = some (τ', 1) ∧ Rl σ' τ' k q d := by
  obtain ⟨σ1, τ1, k1, k2, k3, k4, k5⟩ := h.kept
  have hc2 := h.hw.1.2.2.1
  have hn1 : σ1 96 13 = (n : Int) := by rw [k4 96 (by omega)]; exact hn
  have hn64 := hA.1
  have hm64 := hA.2.1
  have hp : 2 ^ e < 2 ^ 6 := Nat.pow_lt_pow_right (by decide) (by omega)
  rw [k1, k2, Option.bind_some, Option.bind_some, e_Stream_toggle]
  dsimp only
  rw [k5, hm, hn1, zshl_1 (by omega), zxor_nat (by omega) (by omega), zxor_nat (by omega) (by omega), Option.bind_some]
  refine ⟨_, _, rfl, rfl, ?_⟩
  dsimp only
  have h7 : ∀ j, j ≠ 293 → zset τ1 7 293 ((m ^^^ 2 ^ e : Nat) : Int) 7 j = τ1 7 j := fun j hj => zi hj
  refine k3.step (fun j i _ hj => by rw [zk (by omega)]) (fun j i hj hj7 => ?_) (Nat.le_refl d) ?_ (fun f hf => ?_) (fun t f t0 t1 hf => ?_)
  · by_cases j7 : j = 7
    · subst j7; rw [h7 i (by omega)]
    · rw [zk j7]
  · refine k3.hS.upd k3.hw (fun j _ j1 _ => h7 j j1) ⟨zi (by decide), zi (by decide), zi (by decide)⟩ ⟨n ^^^ 2 ^ e, m ^^^ 2 ^ e, zs, zs, by rw [k5]; exact hA.flip (by omega)⟩ (k3.hS.2.2.2.2.2.2.1.congr k3.hw (zk (by decide)) (fun j hj => h7 j (by omega))) (fun j j0 j1 => zk (by omega))
  · exact (k3.hH f hf).congr (by rw [zk (by decide)]) (h7 4 (by decide)) (fun t ht => by unfold wv; exact h7 _ (by omega))
  · unfold wv; exact h7 _ (by omega)
theorem q_wake (h : Rl σ τ k q d) (e aw : Int) : Same (f_R_wake σ e aw) (f_M_wake τ e aw) := by
  have h0 := h.mark (v := 0)
  rw [e_M_wake, e_R_wake]
  generalize zset τ 0 0 0 = τ0 at h0 ⊢
  have hc2 := h0.hw.1.2.2.1
  simp only [h0.hz, h0.hk, if_true]
  rw [m_isEditor h0.hw.1, c_hasEditor h0.hL, Option.bind_some, Option.bind_some]
  dsimp only
  by_cases hc : 0 ≤ e ∧ e < τ0 7 2
  · obtain ⟨E, hE⟩ : ∃ E : Nat, e = (E : Int) := ⟨e.toNat, by omega⟩
    subst hE
    obtain ⟨n, m, hn, hm, hA⟩ := h0.hS.2.2.2.1
    have hn64 := hA.1
    have hm64 := hA.2.1
    rw [if_pos hc, i10, i10, m_isIn, Option.bind_some]
    dsimp only
    by_cases ha : 0 ≤ aw ∧ aw ≤ 1
    · have hb := hA.2.2 E hc.2
      rw [if_pos ha, i10, if_neg (show ¬ aw < 0 by omega), if_neg (show ¬ 1 < aw by omega), c_isAwake hn (by omega) (by omega), hm, m_bitOf (by omega) (by omega), Option.bind_some, Option.bind_some]
      dsimp only
      obtain ⟨σ', τ', g1, g2, g3⟩ := q_wake_in h0 hc.2 (show aw = 0 ∨ aw = 1 by omega) hn hm hA
      have hM43 : ∀ s0 s1 : Int, s0 ≠ s1 → f_M_wake_43 τ0 (E : Int) s0 s1 = some (τ', 1) := fun s0 s1 hs => by rw [e_M_wake_43, if_pos hs, g2]
      have hM43' : ∀ s0 s1 : Int, s0 = s1 → f_M_wake_43 τ0 (E : Int) s0 s1 = some (τ0, 0) := fun s0 s1 hs => by rw [e_M_wake_43, if_neg (fun q => q hs)]
      by_cases a1 : aw = 1
      · subst a1
        rw [if_neg (fun q => q rfl), in10]
        by_cases hx : n.testBit E = true
        · rw [if_pos hx, if_neg (fun q => q rfl), if_neg (hb.mp hx), hM43' 0 0 rfl]
          exact h0.look rfl rfl
        · have hy : m.testBit E = true := Classical.byContradiction (fun q => hx (hb.mpr q))
          rw [if_neg hx, if_pos (show ¬ (0 : Int) = 1 by decide), if_pos hy, hM43 1 0 (by decide), g1]
          exact g3.look rfl rfl
      · have a0 : aw = 0 := by omega
        subst a0
        rw [if_pos (show ¬ (0 : Int) = 1 by decide), in00]
        by_cases hx : n.testBit E = true
        · rw [if_pos hx, in10, if_neg (hb.mp hx), hM43 0 1 (by decide), g1]
          exact g3.look rfl rfl
        · have hy : m.testBit E = true := Classical.byContradiction (fun q => hx (hb.mpr q))
          rw [if_neg hx, in00, if_pos hy, hM43' 1 1 rfl]
          exact h0.look rfl rfl
    · rw [if_neg ha, i00]
      by_cases h1 : aw < 0
      · rw [if_pos h1]; exact h0.look rfl rfl
      · rw [if_neg h1, if_pos (show 1 < aw by omega)]; exact h0.look rfl rfl
  · rw [if_neg hc, i00, i00]
    exact h0.look rfl rfl
end G20
