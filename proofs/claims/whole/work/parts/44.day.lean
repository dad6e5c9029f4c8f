/-! A WHOLE DAY, both sides -/
section G14
variable {σ τ : zH} {k : Nat} {a b : Nat → Int}
/-- a stream of the class beside a row of the reference, d days gone by -/
def StrR (σ : zH) (ks : Nat) (a : Nat → Int) (d : Nat) : Prop :=
  d ≤ 400 ∧ a 288 = (d : Int) ∧ σ ks 12 = (d : Int) ∧ (∃ n m : Nat, σ ks 13 = (n : Int) ∧ a 293 = (m : Int) ∧ AwR n m (a 2)) ∧ (σ ks 14 = a 289 ∧ 0 ≤ a 289 ∧ a 289 ≤ 8 * d) ∧ (σ ks 15 = a 290 ∧ 0 ≤ a 290 ∧ a 290 ≤ 8 * d) ∧ CellR σ ks d a ∧ CntR (σ (ks + 3)) (σ (ks + 4)) a 0 ((d : Int) + 1) ∧ ∀ t : Int, 0 ≤ t → t < a 4 → StaT σ ks a t d ∧ WelR a t d
/-- what a day of the history holds -/
def HisD (σ : zH) (ks : Nat) (a : Nat → Int) (d : Nat) : Prop := ∃ N : Nat, N < 2 ^ 24 ∧ σ (ks + 12) d = (N : Int) ∧ ∀ t : Nat, (t : Int) < a 4 → ((N / 2 ^ (4 * t) % 16 : Nat) : Int) = wv a t d
theorem CellR.cellA {ks : Nat} {D : Int} (h : CellR σ ks D a) : CellA a := fun r p r0 r1 p0 p1 => (h.1 r p r0 r1 p0 p1).2
theorem day_both {ks d : Nat} (hτ : τ 7 = a) (hL : LandR σ k a) (hd : apart8 ks k) (hw : wfL a) (hs : StrR σ ks a d) (h400 : d < 400) :
    ∃ σ' τ', f_Stream_passDay σ ks k = some (σ', 0) ∧ f_M_day τ = some (τ', 0) ∧ (∀ j, ¬ own8 ks j → σ' j = σ j) ∧ (∀ j, j ≠ 7 → j ≠ 21 → τ' j = τ j) ∧ (∀ j, j < 288 ∨ j = 293 ∨ 2778 ≤ j → τ' 7 j = a j) ∧ StrR σ' ks (τ' 7) (d + 1) ∧ σ' ks 13 = σ ks 13 ∧ (∀ (t : Int) (d' : Nat), 0 ≤ t → t < 6 → d' < d → wv (τ' 7) t d' = wv a t d') ∧
      (zhl ks = 0 → σ' (ks + 12) = σ (ks + 12)) ∧ (zhl ks = 400 → (∀ i, i ≠ d → σ' (ks + 12) i = σ (ks + 12) i) ∧ HisD σ' ks (τ' 7) d) := by
  obtain ⟨q1, q2, q3, ⟨n, m, qn, qm, qa⟩, q5, q6, q7, q8, q9⟩ := hs
  have hA : CellA a := q7.cellA
  have hc0 := hw.1.1
  have hc1 := hw.1.2.1
  have hc2 := hw.1.2.2.1
  have hc4 := hw.1.2.2.2.2.1
  -- the class: the first two loops
  obtain ⟨σ1, u1, u2⟩ := c_lp1 hL hd hw q3 (by omega) (by omega) 8 0 σ (by omega) (by omega) ⟨fun j _ => rfl, fun r r0 r1 => by omega, fun r p r0 r1 p0 p1 _ => (q7.1 r p r0 r1 p0 p1).1, fun r j r0 r1 j0 j1 hj => (q7.2 r j r0 r1 j0 j1 hj).1⟩
  obtain ⟨σ2, u3, u4⟩ := c_lp2 hL hd hw hA (by omega) (by omega) (by omega) (by omega) 8 0 _ (by omega) (by omega) (lp1_lp2 hw (by omega) (by omega) q5.1 q6.1 u2)
  -- the reference: its first half
  obtain ⟨τ1, v1, v2, v3⟩ := m_day_copy (τ := τ) 72 0 τ (by omega) (by omega) (fun _ _ => rfl) (fun j hj => by omega)
  have e17 : τ1 7 = a := by rw [v2 7 (by decide), hτ]
  obtain ⟨τ2, v4, v5, v6⟩ := m_day_r (τ := τ1) hw hA (by omega) (by omega) (by omega) (fun j hj => by rw [v3 j hj, hτ]) 8 0 τ1 (by omega) (by omega) (fun _ _ => rfl) ⟨fun j _ => by rw [e17], by rw [e17]; simp [clsum], by rw [e17]; simp [seac], fun r p r0 r1 => by omega, fun r p _ _ _ _ _ => by rw [e17]⟩
  have hb := mid_cells hw hA (by omega) (fun r j r0 r1 j0 j1 hj => (q7.2 r j r0 r1 j0 j1 hj).2) (by rw [q2]; exact u4) v6
  rw [q2] at hb
  obtain ⟨w1, w2, w3, w4, w5, w6, w7, w8⟩ := u4
  have f2 : ∀ j, ¬ (j = ks ∨ j = ks + 1 ∨ j = ks + 2) → σ2 j = σ j := w1
  have hL2 : LandR σ2 k a := hL.own hd (fun j hj => f2 j (fun q => hj (by unfold own8; omega)))
  have e2 : ∀ j : Nat, j < 288 → τ2 7 j = a j := fun j hj => v6.1 j (by omega)
  have hcnt2 : CntR (σ2 (ks + 3)) (σ2 (ks + 4)) (τ2 7) 0 ((d : Int) + 1) := by
    rw [f2 (ks + 3) (by omega), f2 (ks + 4) (by omega)]
    obtain ⟨c1, c2, c3, c4⟩ := q8
    have b2 : τ2 7 2 = a 2 := e2 2 (by omega)
    refine ⟨fun e e0 e1 => ?_, fun e e0 e1 => ?_, by rw [v6.1 291 (by omega)]; exact c3, by rw [v6.1 292 (by omega)]; exact c4⟩
    · rw [b2] at e1
      rw [v6.1 (Int.toNat (294 + e)) (by omega), v6.1 (Int.toNat (300 + e)) (by omega)]
      exact c1 e e0 e1
    · rw [b2] at e0
      exact c2 e e0 e1
  have e293 : τ2 7 293 = (m : Int) := by rw [v6.1 293 (by omega), qm]
  -- the editors
  obtain ⟨σ3, τ3, x1, x2, x3⟩ := ed_all (D1 := (d : Int) + 1) hL2 hd hw e2 w3 (by omega) (by omega) (by rw [w2 13 (by omega), qn]) e293 qa 6 0 σ2 τ2 (by omega) (by omega) ⟨fun _ _ => rfl, fun _ _ => rfl, fun _ _ => rfl, hb, hcnt2⟩
  rw [show (d : Int) + 1 - 1 = (d : Int) by omega] at x1
  obtain ⟨y1, y2, y3, y4, y5⟩ := x3
  have e3 : ∀ j : Nat, j < 288 → τ3 7 j = a j := fun j hj => by rw [y3 j (by omega)]; exact e2 j hj
  have hwc : wfL (τ3 7) := wfL_congr e3 hw
  have hL3 : LandR σ3 k a := hL2.own hd (fun j hj => y1 j (fun q => hj (by unfold own8; omega)))
  have hL3c : LandR σ3 k (τ3 7) := LandR_congr e3 hw hL3
  have ewel : ∀ (t : Int) (d' : Nat), 0 ≤ t → wv (τ3 7) t d' = wv a t d' := fun t d' t0 => by
    unfold wv
    rw [y3 _ (by omega), v6.1 _ (by omega)]
  have e288 : τ3 7 288 = (d : Int) := by rw [y3 288 (by omega), v6.1 288 (by omega), q2]
  have e12 : σ3 ks 12 = (d : Int) + 1 := by rw [y1 ks (by omega)]; exact w3
  have est : ∀ t : Int, 0 ≤ t → t < τ3 7 4 → StaT σ3 ks (τ3 7) t d ∧ WelR (τ3 7) t d := fun t t0 t1 => by
    rw [e3 4 (by omega)] at t1
    have h9 := q9 t t0 t1
    refine ⟨h9.1.congr hw t0 (by omega) (fun j j1 j2 => by rw [y1 _ (by omega), f2 _ (by omega)]) e3 h9.2 (fun d' _ => ewel t d' t0), fun d' hd' => ?_⟩
    rw [ewel t d' t0, e3 0 (by omega)]
    exact h9.2 d' hd'
  -- the towns
  obtain ⟨σ4, τ4, N, z1, z2, z3, z4, z5, z6, z7, z8, z9⟩ := tw_all (τ0 := τ3) hL3c hd hwc y4 e12 e288 h400 est 6 0 0 σ3 τ3 (by rw [e3 4 (by omega)]; omega) (by rw [e3 4 (by omega)]; omega) ⟨fun _ _ => rfl, fun _ _ => rfl, fun _ _ => rfl, fun t t0 t1 => by omega, fun t j _ => Or.inl rfl, by decide, fun t ht => by omega⟩
  have e44 : τ3 7 4 = a 4 := e3 4 (by omega)
  have hC : f_Stream_passDay σ ks k = some (if Int.ofNat (zhl ks) ≤ (d : Int) then σ4 else zset σ4 (ks + 12) d (N : Int), 0) := by
    rw [e_Stream_passDay, q3]
    rw [show f_Stream_passDay_7 σ ks k (d : Int) 0 = f_Stream_passDay_7 σ ks k (d : Int) ((0 : Nat) : Int) from rfl, u1]
    rw [show f_Stream_passDay_75 (zset σ1 ks 12 (w32 ((d : Int) + 1))) ks k (d : Int) 0 = f_Stream_passDay_75 (zset σ1 ks 12 (w32 ((d : Int) + 1))) ks k (d : Int) ((0 : Nat) : Int) from rfl, u3]
    rw [show f_Stream_passDay_118 σ2 ks k (d : Int) 0 = f_Stream_passDay_118 σ2 ks k (d : Int) ((0 : Nat) : Int) from rfl, x1, e_Stream_readInTowns]
    rw [show f_Stream_readInTowns_5 σ3 ks k (d : Int) 0 0 = f_Stream_readInTowns_5 σ3 ks k (d : Int) ((0 : Nat) : Int) ((0 : Nat) : Int) from rfl, z1, Option.bind_some]
  have hM : f_M_day τ = some (zset τ4 7 288 ((d : Int) + 1), 0) := by
    rw [e_M_day]
    rw [show f_M_day_2 τ 0 = f_M_day_2 τ ((0 : Nat) : Int) from rfl, v1]
    rw [show f_M_day_32 τ1 0 = f_M_day_32 τ1 ((0 : Nat) : Int) from rfl, v4]
    rw [show f_M_day_168 τ2 0 = f_M_day_168 τ2 ((0 : Nat) : Int) from rfl, x2]
    rw [show f_M_day_191 τ3 0 = f_M_day_191 τ3 ((0 : Nat) : Int) from rfl, z2]
  obtain ⟨σ', hσ'⟩ : ∃ σ', (if Int.ofNat (zhl ks) ≤ (d : Int) then σ4 else zset σ4 (ks + 12) d (N : Int)) = σ' := ⟨_, rfl⟩
  have g1 : ∀ j, j ≠ ks + 12 → σ' j = σ4 j := fun j hj => by
    rw [← hσ']
    split
    · rfl
    · rw [zk hj]
  rw [hσ'] at hC
  have r1 : ∀ j, ¬ (378 ≤ j ∧ j < 2778) → j ≠ 288 → zset τ4 7 288 ((d : Int) + 1) 7 j = τ3 7 j := fun j hj h8 => by
    rw [zi h8]
    exact z5 j (fun t t0 t1 => by omega)
  have r2 : ∀ j : Nat, j < 288 → zset τ4 7 288 ((d : Int) + 1) 7 j = a j := fun j hj => by rw [r1 j (by omega) (by omega)]; exact e3 j hj
  have r3 : ∀ (t : Int) (d' : Nat), 0 ≤ t → wv (zset τ4 7 288 ((d : Int) + 1) 7) t d' = wv (τ4 7) t d' := fun t d' t0 => by
    unfold wv
    rw [zi (by omega)]
  have r4 : ∀ (t : Int) (d' : Nat), 0 ≤ t → t < 6 → d' < d → wv (τ4 7) t d' = wv a t d' := fun t d' t0 t1 hd' => by
    rw [← ewel t d' t0]
    unfold wv
    exact z5 _ (fun t' _ _ => by omega)
  have s4 : ∀ j, ¬ (ks + 5 ≤ j ∧ j ≤ ks + 12) → σ' j = σ3 j := fun j hj => by rw [g1 j (by omega)]; exact z3 j (by omega)
  have eks : ∀ j, j ≠ 12 → j ≠ 14 → j ≠ 15 → σ' ks j = σ ks j := fun j j1 j2 j3 => by rw [s4 ks (by omega), y1 ks (by omega)]; exact w2 j (by omega)
  have eks2 : ∀ j, σ' ks j = σ2 ks j := fun j => by rw [s4 ks (by omega), y1 ks (by omega)]
  have hw4 : wfL (τ4 7) := wfL_congr (fun j hj => by rw [z5 j (fun t _ _ => by omega)]; exact e3 j hj) hw
  have hcl := clsum_in (a := a) (a 1).toNat (a 1).toNat
  have hse := seac_in (a := a) (a 1).toNat
  refine ⟨σ', _, hC, hM, fun j hj => ?_, fun j j7 j21 => ?_, fun j hj => ?_, ⟨by omega, zs, ?_, ⟨n, m, ?_, ?_, ?_⟩, ?_, ?_, ?_, ?_, ?_⟩, eks 13 (by decide) (by decide) (by decide), fun t d' t0 t1 hd' => by rw [r3 t d' t0]; exact r4 t d' t0 t1 hd', fun hz => ?_, fun hz => ⟨fun i hi => ?_, ?_⟩⟩
  · unfold own8 at hj
    rw [s4 j (by omega), y1 j (by omega), f2 j (by omega)]
  · rw [zk j7, z4 j j7, y2 j j7, v5 j j7, v2 j j21]
  · rcases hj with hj | hj | hj
    · exact r2 j hj
    · rw [r1 j (by omega) (by omega), hj, y3 293 (by omega), v6.1 293 (by omega)]
    · rw [r1 j (by omega) (by omega), y3 j (by omega), v6.1 j (by omega)]
  · rw [eks2 12, w3]; omega
  · rw [eks 13 (by decide) (by decide) (by decide), qn]
  · rw [r1 293 (by omega) (by omega), y3 293 (by omega), v6.1 293 (by omega), qm]
  · rw [r2 2 (by omega)]; exact qa
  · rw [eks2 14, w4, r1 289 (by omega) (by omega), y3 289 (by omega), v6.2.1]
    refine ⟨rfl, by omega, by omega⟩
  · rw [eks2 15, w5, r1 290 (by omega) (by omega), y3 290 (by omega), v6.2.2.1]
    refine ⟨rfl, by omega, by omega⟩
  · -- cells
    have hcr := y4
    unfold CellR at hcr ⊢
    rw [s4 (ks + 1) (by omega)]
    have k0 : zset τ4 7 288 ((d : Int) + 1) 7 0 = τ3 7 0 := r1 0 (by omega) (by omega)
    have k1 : zset τ4 7 288 ((d : Int) + 1) 7 1 = τ3 7 1 := r1 1 (by omega) (by omega)
    have a1 : τ3 7 1 = a 1 := e3 1 (by omega)
    rw [k0, k1]
    refine ⟨fun r p r0 r1' p0 p1 => ?_, fun r j r0 r1' j0 j1 hj => ?_⟩
    · have hr := hw.2.2.1 r r0 (by omega)
      rw [r1 (Int.toNat (16 + r)) (by omega) (by omega)] at p1 ⊢
      have p1' : p < a (Int.toNat (16 + r)) := by rw [← e3 _ (by omega)]; exact p1
      rw [r1 (Int.toNat (306 + 9 * r + p)) (by omega) (by omega), show ((d + 1 : Nat) : Int) = (d : Int) + 1 by omega]
      exact hcr.1 r p r0 r1' p0 p1
    · rw [r1 (Int.toNat (16 + r)) (by omega) (by omega)] at hj
      rw [r1 (Int.toNat (306 + 9 * r + j)) (by omega) (by omega)]
      exact hcr.2 r j r0 r1' j0 j1 hj
  · -- counts of editors
    rw [s4 (ks + 3) (by omega), s4 (ks + 4) (by omega)]
    obtain ⟨c1, c2, c3, c4⟩ := y5
    have b2 : τ3 7 2 = a 2 := e3 2 (by omega)
    refine ⟨fun e e0 e1 => ?_, fun e e0 e1 => ?_, by rw [r1 291 (by omega) (by omega)]; exact c3, by rw [r1 292 (by omega) (by omega)]; exact c4⟩
    · rw [r1 2 (by omega) (by omega)] at e1
      rw [r1 (Int.toNat (294 + e)) (by omega) (by omega), r1 (Int.toNat (300 + e)) (by omega) (by omega)]
      obtain ⟨p1, p2, p3, p4, p5, p6⟩ := c1 e e0 e1
      rw [if_pos (by omega)] at p5 p6
      rw [if_neg (by omega)]
      exact ⟨p1, p2, p3, p4, by omega, by omega⟩
    · rw [r1 2 (by omega) (by omega)] at e0
      exact c2 e e0 e1
  · -- towns
    intro t t0 t1
    rw [r2 4 (by omega)] at t1
    have h9 := z6 t t0 (by omega)
    have hwel : WelR (τ4 7) t (d + 1) := fun d' hd' => by
      rw [z5 0 (fun t _ _ => by omega)]
      by_cases hdd : d' = d
      · rw [hdd]; exact h9.1
      · rw [r4 t d' t0 (by omega) (by omega), e3 0 (by omega)]
        exact (q9 t t0 t1).2 d' (by omega)
    refine ⟨h9.2.congr hw4 t0 (by omega) (fun j j1 j2 => by rw [g1 _ (by omega)]) (fun j hj => by rw [zi (by omega)]) hwel (fun d' _ => r3 t d' t0), fun d' hd' => ?_⟩
    rw [r3 t d' t0, zi (by omega)]
    exact hwel d' hd'
  · rw [← hσ', hz, if_pos (by rw [Int.ofNat_eq_natCast]; omega), z3 _ (by omega), y1 _ (by omega), f2 _ (by omega)]
  · rw [← hσ', hz, if_neg (by rw [Int.ofNat_eq_natCast]; omega), zi hi, z3 _ (by omega), y1 _ (by omega), f2 _ (by omega)]
  · have hp : (2 : Nat) ^ (4 * (τ3 7 4).toNat) ≤ 2 ^ 24 := Nat.pow_le_pow_right (by decide) (by omega)
    refine ⟨N, by omega, ?_, fun t ht => ?_⟩
    · rw [← hσ', hz, if_neg (by rw [Int.ofNat_eq_natCast]; omega), zs]
    · rw [r2 4 (by omega)] at ht
      rw [r3 t d (by omega)]
      exact z9 t (by omega)
end G14
