/-! A DAYBOOK is judged, both sides -/
section G69
variable {σ τ σ' τ' σ1 τ1 : zH} {k ks d e n : Nat} {a : Nat → Int}
/-- what living does to both sides: days, and who is awake -/
def LivOut (σ τ σ' τ' : zH) (ks d e : Nat) : Prop :=
  (∀ j i, ¬ own8 ks j → ¬ (j = 320 ∧ (i = 5 ∨ i = 6)) → σ' j i = σ j i) ∧ (∀ j, j ≠ 7 → j ≠ 21 → j ≠ 35 → τ' j = τ j) ∧ (∀ j, j < 288 ∨ 2778 ≤ j → τ' 7 j = τ 7 j) ∧ StrR σ' ks (τ' 7) e ∧ (∀ (t : Int) (d' : Nat), 0 ≤ t → t < 6 → d' < d → wv (τ' 7) t d' = wv (τ 7) t d') ∧
  (zhl ks = 400 → (∀ i, i < d → σ' (ks + 12) i = σ (ks + 12) i) ∧ ∀ f, d ≤ f → f < e → HisD σ' ks (τ' 7) f) ∧ d ≤ e ∧ (∀ i, 1 < i → τ' 35 i = τ 35 i)
theorem LivOut.refl (h : StrR σ ks (τ 7) d) : LivOut σ τ σ τ ks d d :=
  ⟨fun _ _ _ _ => rfl, fun _ _ _ _ => rfl, fun _ _ => rfl, h, fun _ _ _ _ _ => rfl, fun _ => ⟨fun _ _ => rfl, fun f f0 f1 => by omega⟩, Nat.le_refl d, fun _ _ => rfl⟩
theorem LivOut.trans {σ2 τ2 : zH} {f : Nat} (hks : ks = 96 ∨ ks = 128) (hw4 : τ 7 4 ≤ 6) (h : LivOut σ τ σ1 τ1 ks d e) (g : LivOut σ1 τ1 σ2 τ2 ks e f) : LivOut σ τ σ2 τ2 ks d f := by
  obtain ⟨h1, h2, h3, h4, h5, h6, h7, h8⟩ := h
  obtain ⟨g1, g2, g3, g4, g5, g6, g7, g8⟩ := g
  refine ⟨fun j i hj hi => by rw [g1 j i hj hi, h1 j i hj hi], fun j j1 j2 j3 => by rw [g2 j j1 j2 j3, h2 j j1 j2 j3], fun j hj => by rw [g3 j hj, h3 j hj], g4, fun t d' t0 t1 hd => by rw [g5 t d' t0 t1 (by omega), h5 t d' t0 t1 hd], fun hz => ?_, by omega, fun i hi => by rw [g8 i hi, h8 i hi]⟩
  obtain ⟨h9, h10⟩ := h6 hz
  obtain ⟨g9, g10⟩ := g6 hz
  refine ⟨fun i hi => by rw [g9 i (by omega), h9 i hi], fun q q0 q1 => ?_⟩
  by_cases hq : e ≤ q
  · exact g10 q hq q1
  · exact (h10 q q0 (by omega)).congr (g9 q (by omega)) (g3 4 (by omega)) (fun t ht => g5 t q (by omega) (by rw [h3 4 (by omega)] at ht; omega) (by omega))
theorem PassOut.liv (h : PassOut σ τ σ' τ' ks d e) (hde : d ≤ e) : LivOut σ τ σ' τ' ks d e :=
  ⟨fun j i hj _ => by rw [h.1 j hj], fun j j1 j2 _ => h.2.1 j j1 j2, fun j hj => h.2.2.1 j (by omega), h.2.2.2.1, h.2.2.2.2.2.1, fun hz => h.2.2.2.2.2.2.2 hz, hde, fun i _ => by rw [h.2.1 35 (by decide) (by decide)]⟩
theorem LivOut.land (h : LivOut σ τ σ' τ' ks d e) (hks : ks = 96 ∨ ks = 128) (hl : isLand k) (hL : LandR σ k (τ 7)) (hw : wfL (τ 7)) : LandR σ' k (τ' 7) ∧ wfL (τ' 7) := by
  unfold isLand at hl
  exact ⟨LandR_congr (fun j hj => h.2.2.1 j (by omega)) hw (hL.frame (fun i hi => funext (fun x => h.1 _ x (by unfold own8; omega) (by omega)))), wfL_congr (fun j hj => h.2.2.1 j (by omega)) hw⟩
/-- somebody wakes or sleeps, both sides -/
theorem tog_out (hks : ks = 96 ∨ ks = 128) (hw : wfL (τ 7)) (hS : StrR σ ks (τ 7) d) {E : Nat} (hE : (E : Int) < τ 7 2) :
    ∃ n m : Nat, σ ks 13 = (n : Int) ∧ τ 7 293 = (m : Int) ∧ AwR n m (τ 7 2) ∧ f_Stream_toggle σ ks (E : Int) = some (zset σ ks 13 ((n ^^^ 2 ^ E : Nat) : Int), 0) ∧ zxor (τ 7 293) (zshl 1 (E : Int)) = ((m ^^^ 2 ^ E : Nat) : Int) ∧ LivOut σ τ (zset σ ks 13 ((n ^^^ 2 ^ E : Nat) : Int)) (zset τ 7 293 ((m ^^^ 2 ^ E : Nat) : Int)) ks d d := by
  obtain ⟨n, m, hn, hm, hA⟩ := hS.2.2.2.1
  have hn64 := hA.1
  have hm64 := hA.2.1
  have hc2 := hw.1.2.2.1
  have hp : 2 ^ E < 2 ^ 6 := Nat.pow_lt_pow_right (by decide) (by omega)
  have h7 : ∀ j, j ≠ 293 → zset τ 7 293 ((m ^^^ 2 ^ E : Nat) : Int) 7 j = τ 7 j := fun j hj => zi hj
  refine ⟨n, m, hn, hm, hA, ?_, ?_, fun j i hj hi => ?_, fun j j1 j2 _ => zk j1, fun j hj => h7 j (by omega), ?_, fun t f t0 t1 hf => ?_, fun hz => ⟨fun i hi => by rw [zk (by omega)], fun f f0 f1 => by omega⟩, Nat.le_refl d, fun i _ => by rw [zk (by decide)]⟩
  · rw [e_Stream_toggle, hn, zshl_1 (by omega), zxor_nat (by omega) (by omega)]
  · rw [hm, zshl_1 (by omega), zxor_nat (by omega) (by omega)]
  · unfold own8 at hj
    rw [zk (by omega)]
  · exact hS.upd hw (fun j _ j1 _ => h7 j j1) ⟨zi (by decide), zi (by decide), zi (by decide)⟩ ⟨n ^^^ 2 ^ E, m ^^^ 2 ^ E, zs, zs, hA.flip (by omega)⟩ (hS.2.2.2.2.2.2.1.congr hw (zk (by omega)) (fun j hj => h7 j (by omega))) (fun j j0 j1 => zk (by omega))
  · have := hS.1
    unfold wv
    exact h7 _ (by omega)
/-- a line is lived, both sides -/
theorem live_both (hks : ks = 96 ∨ ks = 128) (hl : isLand k) (hL : LandR σ k (τ 7)) (hw : wfL (τ 7)) (hS : StrR σ ks (τ 7) d) {i : Nat} (hi : i < 30) (hE : BkE (τ 7) σ τ i) :
    ∃ (σ' τ' : zH) (r e : Nat), f_Daybook_live σ k ks (i : Int) = some (σ', (r : Int)) ∧ f_M_does τ ((3 * i : Nat) : Int) = some (τ', (r : Int)) ∧ r ≤ 3 ∧ LivOut σ τ σ' τ' ks d e ∧ (∀ x, σ' 320 x = σ 320 x) ∧ τ' 35 = τ 35 := by
  have hd4 := hS.1
  have e12 := hS.2.2.1
  have e288 := hS.2.1
  have hap : apart8 ks k := by
    unfold isLand at hl
    unfold apart8
    omega
  have i1 : w32 (((3 * i : Nat) : Int) + 1) = ((3 * i + 1 : Nat) : Int) := by rw [w32_id (by omega) (by omega)]; omega
  have i2 : w32 (((3 * i : Nat) : Int) + 2) = ((3 * i + 2 : Nat) : Int) := by rw [w32_id (by omega) (by omega)]; omega
  have z30 : zin (i : Int) 30 = true := zin_t (by omega) (by omega)
  have z0 : zin ((3 * i : Nat) : Int) 135 = true := zin_t (by omega) (by omega)
  have z1 : zin ((3 * i + 1 : Nat) : Int) 135 = true := zin_t (by omega) (by omega)
  have z2 : zin ((3 * i + 2 : Nat) : Int) 135 = true := zin_t (by omega) (by omega)
  rw [e_Daybook_live, e_M_does, i1, i2]
  simp only [z30, z0, z1, z2, if_true, Int.toNat_natCast]
  unfold BkE at hE
  rcases hE with ⟨v1, v2, v3, v4, v5⟩ | ⟨v1, v2, v3, v4, v5, v6⟩ | ⟨v1, v2, v3, v4, v5⟩
  · obtain ⟨N, hN⟩ : ∃ N : Nat, τ 9 (3 * i + 1) = (N : Int) := ⟨(τ 9 (3 * i + 1)).toNat, by omega⟩
    rw [if_neg (show ¬ ¬ σ 321 i = 12 from fun x => x v1), if_neg (show ¬ ¬ τ 9 (3 * i) = 0 from fun x => x v2), e_Stream_daysLeft, Option.bind_some, hN, e288, e12, w32_id (x := 400 - (d : Int)) (by omega) (by omega), w32_id (x := (d : Int) + (N : Int)) (by omega) (by omega)]
    dsimp only
    simp only [v3, hN]
    by_cases hfit : (N : Int) ≤ 400 - (d : Int)
    · obtain ⟨σ2, τ2, g1, g2, g3⟩ := pass_both (k := k) (ks := ks) (M := N) (N := N) (e := d + N) hap (by omega) (by omega) (Or.inl rfl) (by omega) N 0 d σ τ (by omega) rfl hL hw hS
      have g1' : f_Stream_pass_12 σ ks k (N : Int) 0 = some (σ2, 0) := g1
      have g2' : f_M_goes_2 τ (N : Int) 0 = some (τ2, (N : Int)) := g2
      rw [if_pos hfit, if_pos (show (d : Int) + (N : Int) ≤ 400 by omega), e_Stream_pass, e_Stream_daysLeft, Option.bind_some, e12, e_M_goes, g2']
      dsimp only
      rw [w32_id (x := 400 - (d : Int)) (by omega) (by omega), show (400 - (d : Int)) = ((400 - d : Nat) : Int) by omega, zmin_nat, show min N (400 - d) = N by omega, g1', Option.bind_some, Option.bind_some]
      refine ⟨σ2, τ2, 0, d + N, rfl, rfl, by omega, g3.liv (by omega), fun x => by rw [g3.1 320 (by unfold own8; omega)], g3.2.1 35 (by decide) (by decide)⟩
    · rw [if_neg hfit, if_neg (show ¬ (d : Int) + (N : Int) ≤ 400 by omega)]
      exact ⟨σ, τ, 1, d, rfl, rfl, by omega, LivOut.refl hS, fun _ => rfl, rfl⟩
  · obtain ⟨T, hT⟩ : ∃ T : Nat, τ 9 (3 * i + 1) = (T : Int) := ⟨(τ 9 (3 * i + 1)).toNat, by omega⟩
    rw [hT] at v3 v5
    have hc4 := hw.1.2.2.2.2.1
    have hst := hS.2.2.2.2.2.2.2.2 (T : Int) (by omega) v5
    have h5 := hst.1.1
    rw [show Int.toNat (T : Int) = T from rfl] at h5
    rw [if_pos (show ¬ σ 321 i = 12 by omega), if_neg (show ¬ ¬ σ 321 i = 13 from fun x => x v1)]
    simp only [v3]
    rw [if_pos (zin_t (by omega) (by omega)), show Int.toNat (T : Int) = T from rfl, if_pos (show ¬ τ 9 (3 * i) = 0 by omega), if_neg (show ¬ ¬ τ 9 (3 * i) = 1 from fun x => x v2), hT, m_last rfl hw (by omega) (by omega) e288 hd4 hst.2, Option.bind_some]
    dsimp only
    simp only [h5, v6]
    by_cases hq : lsN (τ 7) (T : Int) d = τ 9 (3 * i + 2)
    · rw [if_neg (fun x => x hq), if_neg (fun x => x hq)]
      exact ⟨σ, τ, 0, d, rfl, rfl, by omega, LivOut.refl hS, fun _ => rfl, rfl⟩
    · rw [if_pos hq, if_pos hq]
      exact ⟨σ, τ, 2, d, rfl, rfl, by omega, LivOut.refl hS, fun _ => rfl, rfl⟩
  · obtain ⟨E, hEE⟩ : ∃ E : Nat, τ 9 (3 * i + 1) = (E : Int) := ⟨(τ 9 (3 * i + 1)).toNat, by omega⟩
    rw [hEE] at v3 v5
    have hc2 := hw.1.2.2.1
    obtain ⟨n, m, hn, hm, hA, t1, t2, t3⟩ := tog_out hks hw hS v5
    have hn64 := hA.1
    have hm64 := hA.2.1
    have hb := hA.2.2 E v5
    have hv : ¬ σ 321 i = 12 ∧ ¬ σ 321 i = 13 := by omega
    rw [if_pos hv.1, if_pos hv.2, v3, c_isAwake hn (by omega) (by omega), Option.bind_some, if_pos (show ¬ τ 9 (3 * i) = 0 by omega), if_pos (show ¬ τ 9 (3 * i) = 1 by omega), hEE, hm, m_bitOf (by omega) (by omega), Option.bind_some]
    dsimp only
    have hflip : ∃ (σ' τ' : zH) (r e : Nat), ((f_Stream_toggle σ ks (E : Int)).bind fun r2 => some (r2.1, (0 : Int))) = some (σ', (r : Int)) ∧ some (zset τ 7 293 (zxor (τ 7 293) (zshl 1 (E : Int))), (0 : Int)) = some (τ', (r : Int)) ∧ r ≤ 3 ∧ LivOut σ τ σ' τ' ks d e ∧ (∀ x, σ' 320 x = σ 320 x) ∧ τ' 35 = τ 35 := by
      rw [t1, t2]
      exact ⟨_, _, 0, d, rfl, rfl, by omega, t3, fun x => by dsimp only; rw [zk (by omega)], zk (by decide)⟩
    have hstay : ∃ (σ' τ' : zH) (r e : Nat), some (σ, (3 : Int)) = some (σ', (r : Int)) ∧ some (τ, (3 : Int)) = some (τ', (r : Int)) ∧ r ≤ 3 ∧ LivOut σ τ σ' τ' ks d e ∧ (∀ x, σ' 320 x = σ 320 x) ∧ τ' 35 = τ 35 := ⟨σ, τ, 3, d, rfl, rfl, by omega, LivOut.refl hS, fun _ => rfl, rfl⟩
    rcases v1 with ⟨v1, vz⟩ | ⟨v1, vz⟩
    · rw [if_neg (show ¬ ¬ σ 321 i = 15 from fun x => x v1), if_pos (show ¬ τ 9 (3 * i + 2) = 0 by omega), e_M_does_99]
      by_cases hx : n.testBit E = true
      · rw [if_pos hx, if_neg (fun q => q rfl), if_neg (hb.mp hx), if_neg (fun q => q rfl)]
        exact hstay
      · have hy : m.testBit E = true := Classical.byContradiction (fun q => hx (hb.mpr q))
        rw [if_neg hx, if_pos (show ¬ (0 : Int) = 1 by decide), if_pos hy, if_pos (show ¬ (1 : Int) = 0 by decide)]
        exact hflip
    · rw [if_pos (show ¬ σ 321 i = 15 by omega), if_neg (show ¬ ¬ τ 9 (3 * i + 2) = 0 by omega), e_M_does_99]
      by_cases hx : n.testBit E = true
      · rw [if_pos hx, in10, if_neg (hb.mp hx), if_pos (show ¬ (0 : Int) = 1 by decide)]
        exact hflip
      · have hy : m.testBit E = true := Classical.byContradiction (fun q => hx (hb.mpr q))
        rw [if_neg hx, in00, if_pos hy, if_neg (fun q => q rfl)]
        exact hstay
/-- all lines are lived as far as they are not wrong -/
theorem judge_loop (hks : ks = 96 ∨ ks = 128) (hl : isLand k) {C : Int} : ∀ (r i d : Nat) (σ τ : zH), i + r = n → n ≤ 30 → LandR σ k (τ 7) → wfL (τ 7) → StrR σ ks (τ 7) d → σ 320 3 = (n : Int) → τ 0 33 = (n : Int) → (∀ x, x < n → BkE (τ 7) σ τ x) → σ 320 5 = 0 → σ 320 6 = (i : Int) → τ 35 0 = 0 → τ 35 1 = (i : Int) →
    ∃ (σ' τ' : zH) (w : Int) (e : Nat), f_Daybook_judge_18 σ k ks C (i : Int) = f_Daybook_judge_69 σ' ks C ∧ (∀ x1, f_M_daybook_121 τ x1 C (-1) (i : Int) = f_M_daybook_179 τ' x1 C w) ∧ LivOut σ τ σ' τ' ks d e ∧ σ' 320 5 = τ' 35 0 ∧ σ' 320 6 = τ' 35 1 ∧ ((w = -1 ∧ σ' 320 5 = 0) ∨ (w = σ' 320 6 ∧ σ' 320 5 ≠ 0)) ∧ 0 ≤ σ' 320 6
  | 0, i, d, σ, τ, hi, hn, hL, hw, hS, h3, h33, hE, h5, h6, m0, m1 => by
    refine ⟨σ, τ, -1, d, by rw [e_Daybook_judge_18, h3, if_pos (by omega)], fun x1 => by rw [e_M_daybook_121, h33, if_pos (by omega)], LivOut.refl hS, by rw [h5, m0], by rw [h6, m1], Or.inl ⟨rfl, h5⟩, by omega⟩
  | r + 1, i, d, σ, τ, hi, hn, hL, hw, hS, h3, h33, hE, h5, h6, m0, m1 => by
    obtain ⟨σ1, τ1, x, e, y1, y2, y3, y4, y5, y6⟩ := live_both hks hl hL hw hS (i := i) (by omega) (hE i (by omega))
    have hC : f_Daybook_judge_18 σ k ks C (i : Int) = if ¬ (x : Int) = 0 then f_Daybook_judge_18 (zset σ1 320 5 (x : Int)) k ks C ((i + 1 : Nat) : Int) else f_Daybook_judge_18 (zset (zset σ1 320 5 (x : Int)) 320 6 ((i + 1 : Nat) : Int)) k ks C ((i + 1 : Nat) : Int) := by
      have z5 : zset σ1 320 5 (x : Int) 320 5 = (x : Int) := zs
      have z6 : zset σ1 320 5 (x : Int) 320 6 = (i : Int) := by rw [zi (by decide), y5 6]; exact h6
      rw [e_Daybook_judge_18, h3, if_neg (show ¬ (n : Int) ≤ (i : Int) by omega), h5, if_neg (fun q => q rfl), y1, Option.bind_some]
      dsimp only
      simp only [z5, z6]
      rw [w32_s (by omega)]
    have hM : ∀ x1, f_M_daybook_121 τ x1 C (-1) (i : Int) = if (x : Int) ≤ 0 then f_M_daybook_121 (zset (zset τ1 35 0 (x : Int)) 35 1 ((i + 1 : Nat) : Int)) x1 C (-1) ((i + 1 : Nat) : Int) else f_M_daybook_121 (zset τ1 35 0 (x : Int)) x1 C (i : Int) ((i + 1 : Nat) : Int) := fun x1 => by
      have z0 : zset τ1 35 0 (x : Int) 35 0 = (x : Int) := zs
      have z1 : zset τ1 35 0 (x : Int) 35 1 = (i : Int) := by rw [zi (by decide), y6]; exact m1
      rw [e_M_daybook_121, h33, if_neg (show ¬ (n : Int) ≤ (i : Int) by omega), if_neg (show ¬ (0 : Int) ≤ -1 by decide), w32_id (x := 3 * (i : Int)) (by omega) (by omega), show 3 * (i : Int) = ((3 * i : Nat) : Int) by omega, y2, Option.bind_some]
      dsimp only
      simp only [z0, z1]
      rw [w32_s (by omega)]
    obtain ⟨l1, l2⟩ := y4.land hks hl hL hw
    have y4' := y4
    obtain ⟨p1, p2, p3, p4, p5, p6, p7, p8⟩ := y4'
    have h31 : σ1 320 3 = (n : Int) := by rw [y5 3]; exact h3
    have h331 : τ1 0 33 = (n : Int) := by rw [p2 0 (by decide) (by decide) (by decide)]; exact h33
    -- the marks are written
    have mk : ∀ (σ2 τ2 : zH), (∀ j i, ¬ (j = 320 ∧ (i = 5 ∨ i = 6)) → σ2 j i = σ1 j i) → (∀ j i, ¬ (j = 35 ∧ i ≤ 1) → τ2 j i = τ1 j i) → LivOut σ τ σ2 τ2 ks d e := by
      intro σ2 τ2 f1 f2
      have f7 : τ2 7 = τ1 7 := funext (fun i => f2 7 i (by omega))
      have fk : ∀ j, ks ≤ j → j ≤ ks + 12 → σ2 j = σ1 j := fun j j0 j1 => funext (fun i => f1 j i (by omega))
      refine ⟨fun j i hj hi' => by rw [f1 j i hi']; exact p1 j i hj hi', fun j j7 j21 j35 => by rw [← p2 j j7 j21 j35]; exact funext (fun i => f2 j i (by omega)), fun j hj => by rw [f7]; exact p3 j hj, ?_, fun t d' t0 t1 hd => by rw [f7]; exact p5 t d' t0 t1 hd, fun hz => ?_, p7, fun i' hi' => by rw [f2 35 i' (by omega)]; exact p8 i' hi'⟩
      · rw [f7]
        exact p4.keepd l2 (fun _ _ => rfl) (fun j j0 j1 => fk j j0 (by omega))
      · obtain ⟨q1, q2⟩ := p6 hz
        refine ⟨fun i' hi' => by rw [fk _ (by omega) (by omega)]; exact q1 i' hi', fun f f0 f1' => ?_⟩
        rw [f7]
        exact (q2 f f0 f1').congr (by rw [fk _ (by omega) (by omega)]) rfl (fun _ _ => rfl)
    by_cases hx : x = 0
    · subst hx
      have f1 : ∀ j i', ¬ (j = 320 ∧ (i' = 5 ∨ i' = 6)) → zset (zset σ1 320 5 ((0 : Nat) : Int)) 320 6 ((i + 1 : Nat) : Int) j i' = σ1 j i' := fun j i' hj => by
        by_cases j0 : j = 320
        · subst j0; rw [zi (by omega), zi (by omega)]
        · rw [zk j0, zk j0]
      have f2 : ∀ j i', ¬ (j = 35 ∧ i' ≤ 1) → zset (zset τ1 35 0 ((0 : Nat) : Int)) 35 1 ((i + 1 : Nat) : Int) j i' = τ1 j i' := fun j i' hj => by
        by_cases j0 : j = 35
        · subst j0; rw [zi (by omega), zi (by omega)]
        · rw [zk j0, zk j0]
      have w1 := mk _ _ f1 f2
      have f7 : zset (zset τ1 35 0 ((0 : Nat) : Int)) 35 1 ((i + 1 : Nat) : Int) 7 = τ1 7 := funext (fun i => f2 7 i (by omega))
      obtain ⟨l3, l4⟩ := w1.land hks hl hL hw
      obtain ⟨σ', τ', w, e', u1, u2, u3, u4, u5, u6, u7⟩ := judge_loop hks hl (C := C) r (i + 1) e _ _ (by omega) hn l3 l4 w1.2.2.2.1 (by rw [f1 320 3 (by omega)]; exact h31) (by rw [f2 0 33 (by omega)]; exact h331) (fun y hy => by
        have := hE y hy
        unfold BkE BkV at this ⊢
        have hks' : ∀ j, 321 ≤ j → j ≤ 323 → zset (zset σ1 320 5 ((0 : Nat) : Int)) 320 6 ((i + 1 : Nat) : Int) j y = σ j y := fun j j0 j1 => by rw [f1 j y (by omega)]; exact p1 j y (by unfold own8; omega) (by omega)
        rw [hks' 321 (by omega) (by omega), hks' 322 (by omega) (by omega), hks' 323 (by omega) (by omega), f2 9 _ (by omega), f2 9 _ (by omega), f2 9 _ (by omega), f7, p3 2 (by omega), p3 4 (by omega), p2 9 (by decide) (by decide) (by decide)]
        exact this) (by rw [zi (by decide), zs]; rfl) zs (by rw [zi (by decide), zs]; rfl) zs
      refine ⟨σ', τ', w, e', ?_, fun x1 => ?_, w1.trans hks hw.1.2.2.2.2.1.2 u3, u4, u5, u6, u7⟩
      · rw [hC, if_neg (fun q => q rfl)]
        exact u1
      · rw [hM x1, if_pos (show ((0 : Nat) : Int) ≤ 0 by decide)]
        exact u2 x1
    · have f1 : ∀ j i', ¬ (j = 320 ∧ (i' = 5 ∨ i' = 6)) → zset σ1 320 5 (x : Int) j i' = σ1 j i' := fun j i' hj => by
        by_cases j0 : j = 320
        · subst j0; rw [zi (by omega)]
        · rw [zk j0]
      have f2 : ∀ j i', ¬ (j = 35 ∧ i' ≤ 1) → zset τ1 35 0 (x : Int) j i' = τ1 j i' := fun j i' hj => by
        by_cases j0 : j = 35
        · subst j0; rw [zi (by omega)]
        · rw [zk j0]
      refine ⟨zset σ1 320 5 (x : Int), zset τ1 35 0 (x : Int), (i : Int), e, ?_, fun x1 => ?_, mk _ _ f1 f2, by rw [zs, zs], by rw [zi (by decide), zi (by decide), y5 6, y6, h6, m1], Or.inr ⟨by rw [zi (by decide), y5 6, h6], by rw [zs]; omega⟩, by rw [zi (by decide), y5 6, h6]; omega⟩
      · rw [hC, if_pos (show ¬ (x : Int) = 0 by omega), e_Daybook_judge_18]
        by_cases hh : (zset σ1 320 5 (x : Int)) 320 3 ≤ ((i + 1 : Nat) : Int)
        · rw [if_pos hh]
        · have z5 : zset σ1 320 5 (x : Int) 320 5 = (x : Int) := zs
          rw [if_neg hh, if_pos (show ¬ zset σ1 320 5 (x : Int) 320 5 = 0 by rw [z5]; omega)]
      · rw [hM x1, if_neg (show ¬ (x : Int) ≤ 0 by omega), e_M_daybook_121]
        by_cases hh : (zset τ1 35 0 (x : Int)) 0 33 ≤ ((i + 1 : Nat) : Int)
        · rw [if_pos hh]
        · rw [if_neg hh, if_pos (show (0 : Int) ≤ (i : Int) by omega)]
end G69
