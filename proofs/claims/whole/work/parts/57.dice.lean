/-! DAYS THAT ARE DRAWN, both sides -/
section G27
variable {σ τ σ1 τ1 : zH} {k q d e : Nat} {a b : Nat → Int}
def nx (x : Int) : Int := w32 (w32 (x * 1103515245) + 12345)
def drw (x n : Int) : Int := Int.tmod (zushr x 8) n
theorem nx_in (x : Int) : r32 (nx x) := by
  unfold nx
  exact r32_w32 _
theorem drw_in {x n : Int} (hn : 0 < n) : 0 ≤ drw (nx x) n ∧ drw (nx x) n < n := by
  unfold drw
  have h := zushr_int (nx_in x) (k := 8) (by decide) (Or.inl (by decide))
  rw [show (8 : Int) = ((8 : Nat) : Int) from rfl, h]
  have h0 : 0 ≤ nx x % 4294967296 / ((2 ^ 8 : Nat) : Int) := by omega
  rw [Int.tmod_eq_emod_of_nonneg h0]
  exact ⟨Int.emod_nonneg _ (by omega), Int.emod_lt_of_pos _ hn⟩
theorem c_draw {x n : Int} (hx : σ 352 0 = x) (hn : 0 < n) : f_Dice_draw σ n = some (zset σ 352 0 (nx x), drw (nx x) n) := by
  rw [e_Dice_draw, if_neg (by omega), if_pos (znz_t (by omega)), zs, hx]
  rfl
theorem m_draw {x n : Int} (hx : τ 0 29 = x) (hn : 0 < n) : f_M_draw τ n = some (zset τ 0 29 (nx x), drw (nx x) n) := by
  rw [e_M_draw, if_pos (znz_t (by omega)), zs, hx]
  rfl
def DcR (σ τ : zH) : Prop := σ 352 0 = τ 0 29 ∧ σ 352 1 = τ 0 30
/-- what drawn days do to both sides -/
def DrawOut (σ τ σ' τ' : zH) (ks d e : Nat) : Prop :=
  (∀ j, ¬ own8 ks j → j ≠ 352 → σ' j = σ j) ∧ (∀ j, j ≠ 7 → j ≠ 21 → j ≠ 0 → τ' j = τ j) ∧ (∀ i, i ≠ 29 → i ≠ 30 → τ' 0 i = τ 0 i) ∧ (∀ j, j < 288 ∨ j = 293 ∨ 2778 ≤ j → τ' 7 j = τ 7 j) ∧ StrR σ' ks (τ' 7) e ∧ DcR σ' τ' ∧ (∀ (t : Int) (d' : Nat), 0 ≤ t → t < 6 → d' < d → wv (τ' 7) t d' = wv (τ 7) t d') ∧
  (zhl ks = 0 → σ' (ks + 12) = σ (ks + 12)) ∧ (zhl ks = 400 → (∀ i, i < d → σ' (ks + 12) i = σ (ks + 12) i) ∧ ∀ f, d ≤ f → f < e → HisD σ' ks (τ' 7) f)
theorem DrawOut.refl {ks : Nat} (h : StrR σ ks (τ 7) d) (hd : DcR σ τ) : DrawOut σ τ σ τ ks d d :=
  ⟨fun _ _ _ => rfl, fun _ _ _ _ => rfl, fun _ _ _ => rfl, fun _ _ => rfl, h, hd, fun _ _ _ _ _ => rfl, fun _ => rfl, fun _ => ⟨fun _ _ => rfl, fun f f0 f1 => by omega⟩⟩
theorem DrawOut.trans {σ2 τ2 : zH} {ks f : Nat} (hde : d ≤ e) (hw4 : τ 7 4 ≤ 6) (h : DrawOut σ τ σ1 τ1 ks d e) (g : DrawOut σ1 τ1 σ2 τ2 ks e f) : DrawOut σ τ σ2 τ2 ks d f := by
  obtain ⟨h1, h2, h3, h4, h5, h6, h7, h8, h9⟩ := h
  obtain ⟨g1, g2, g3, g4, g5, g6, g7, g8, g9⟩ := g
  refine ⟨fun j hj hj2 => by rw [g1 j hj hj2, h1 j hj hj2], fun j j1 j2 j3 => by rw [g2 j j1 j2 j3, h2 j j1 j2 j3], fun i i1 i2 => by rw [g3 i i1 i2, h3 i i1 i2], fun j hj => by rw [g4 j hj, h4 j hj], g5, g6, fun t d' t0 t1 hd => by rw [g7 t d' t0 t1 (by omega), h7 t d' t0 t1 hd], fun hz => by rw [g8 hz, h8 hz], fun hz => ?_⟩
  obtain ⟨h10, h11⟩ := h9 hz
  obtain ⟨g10, g11⟩ := g9 hz
  refine ⟨fun i hi => by rw [g10 i (by omega), h10 i hi], fun q q0 q1 => ?_⟩
  by_cases hq : e ≤ q
  · exact g11 q hq q1
  · exact (h11 q q0 (by omega)).congr (g10 q (by omega)) (g4 4 (by omega)) (fun t ht => g7 t q (by omega) (by rw [h4 4 (by omega)] at ht; omega) (by omega))
theorem DrawOut.land {σ' τ' : zH} {ks : Nat} (h : DrawOut σ τ σ' τ' ks d e) (hd : apart8 ks k) (hk : k ≤ 338 ∨ 352 < k) (hL : LandR σ k (τ 7)) (hw : wfL (τ 7)) : LandR σ' k (τ' 7) ∧ wfL (τ' 7) :=
  ⟨LandR_congr (fun j hj => h.2.2.2.1 j (by omega)) hw (hL.frame (fun i hi => h.1 _ (fun q => by unfold own8 at q; unfold apart8 at hd; omega) (by omega))), wfL_congr (fun j hj => h.2.2.2.1 j (by omega)) hw⟩
/-- a day behind what was drawn -/
theorem drawn_in {ρ υ : zH} {ks : Nat} (hap : apart8 ks k) (hL : LandR ρ k (υ 7)) (hw : wfL (υ 7)) (hS : StrR ρ ks (υ 7) d) (h400 : d < 400) (hks : ks + 12 < 352) (hD : DcR ρ υ) (r1 : ∀ j, ¬ own8 ks j → j ≠ 352 → ρ j = σ j) (r2 : ∀ j, j ≠ 7 → j ≠ 0 → υ j = τ j) (r3 : ∀ i, i ≠ 29 → i ≠ 30 → υ 0 i = τ 0 i) (r4 : ∀ j, ¬ (306 ≤ j ∧ j < 378) → υ 7 j = τ 7 j) (r5 : ρ (ks + 12) = σ (ks + 12)) :
    ∃ σ' τ', f_Stream_passDay ρ ks k = some (σ', 0) ∧ f_M_day υ = some (τ', 0) ∧ DrawOut σ τ σ' τ' ks d (d + 1) := by
  obtain ⟨σ', τ', p1, p2, p3, p4, p5, p6, p7, p8, p9, p10⟩ := day_out hL hap hw hS h400
  refine ⟨σ', τ', p1, p2, fun j hj hj2 => by rw [p3 j hj, r1 j hj hj2], fun j j1 j2 j3 => by rw [p4 j j1 j2, r2 j j1 j3], fun i i1 i2 => by rw [p4 0 (by decide) (by decide), r3 i i1 i2], fun j hj => by rw [p5 j hj, r4 j (by omega)], p6, ?_, fun t d' t0 t1 hd => ?_, fun hz => by rw [p9 hz, r5], fun hz => ?_⟩
  · unfold DcR
    rw [p3 352 (by unfold own8; omega), p4 0 (by decide) (by decide)]
    exact hD
  · rw [p8 t d' t0 t1 hd]
    unfold wv
    exact r4 _ (by omega)
  · obtain ⟨h1, h2⟩ := p10 hz
    exact ⟨fun i hi => by rw [h1 i hi, r5], h2⟩
theorem c_day0 {ks : Nat} {x : Int} (hx : σ 352 0 = x) (h0 : ¬ drw (nx x) 4 = 0) : f_Stream_passDrawnDay σ ks k = (f_Stream_passDay (zset σ 352 0 (nx x)) ks k).bind (fun r2 => some (r2.1, 0)) := by
  rw [e_Stream_passDrawnDay, c_draw hx (by decide), Option.bind_some]
  dsimp only
  rw [if_pos h0]
theorem m_day0 {x : Int} {N i : Nat} (hx : τ 0 29 = x) (h0 : ¬ drw (nx x) 4 = 0) (hi : i < N) (hN : N ≤ 1000) (hd : ¬ 400 ≤ τ 7 288) : f_M_draws_12 τ (N : Int) (i : Int) = (f_M_day (zset τ 0 29 (nx x))).bind (fun r2 => f_M_draws_12 r2.1 (N : Int) ((i + 1 : Nat) : Int)) := by
  rw [e_M_draws_12, if_neg (show ¬ (N : Int) ≤ i by omega), if_neg hd, m_draw hx (by decide), Option.bind_some]
  dsimp only
  rw [if_pos h0, w32_s (by omega)]
/-- a stone of the class -/
theorem c_day1 {ks : Nat} {x r p t : Int} {ρ : zH} (hx : σ 352 0 = x) (h0 : drw (nx x) 4 = 0) (hks : ks + 12 < 352) (hk : isLand k) (hL : LandR σ k a) (hw : wfL a) (hR : 0 < a 1) (hr : drw (nx (nx x)) (a 1) = r) (hp : drw (nx (nx (nx x))) (a (Int.toNat (16 + r))) = p) (ht : drw (nx (nx (nx (nx x)))) (a 0 + 1) = t) (hr2 : 0 ≤ r ∧ r < a 1)
    (hρ : zset (zset (zset (zset σ 352 0 (nx x)) 352 0 (nx (nx x))) 352 0 (nx (nx (nx x)))) 352 0 (nx (nx (nx (nx x)))) = ρ) : f_Stream_passDrawnDay σ ks k = (f_Country_hasTerm ρ k t).bind (fun r6 => if r6.2 = 0 then (f_Stream_put r6.1 ks k r p (-1)).bind (fun r7 => (f_Stream_passDay (zset r7.1 352 1 (w32 ((r7.1 352 1) + 1))) ks k).bind (fun r8 => some (r8.1, 0))) else (f_Stream_put r6.1 ks k r p t).bind (fun r9 => (f_Stream_passDay (zset r9.1 352 1 (w32 ((r9.1 352 1) + 1))) ks k).bind (fun r10 => some (r10.1, 0)))) := by
  have hc0 := hw.1.1
  have hc1 := hw.1.2.1
  have hkk : k = 384 ∨ k = 448 := hk
  have hrr := hw.2.2.1 r hr2.1 hr2.2
  have hlr := (hL.2.2.1 r hr2.1 hr2.2).1
  have hnn : ¬ ¬ drw (nx x) 4 = 0 := fun q => q h0
  rw [e_Stream_passDrawnDay, c_draw hx (by decide), Option.bind_some]
  dsimp only
  rw [if_neg hnn, zk (show k ≠ 352 by omega), hL.1.2.1, c_draw zs hR, Option.bind_some]
  dsimp only
  rw [hr, if_pos (zin_t (by omega) (by omega)), zk (show k + 3 ≠ 352 by omega), zk (show k + 3 ≠ 352 by omega), hlr.1, c_draw zs (by omega), Option.bind_some]
  dsimp only
  rw [hp, zk (show k ≠ 352 by omega), zk (show k ≠ 352 by omega), zk (show k ≠ 352 by omega), hL.1.1, w32_id (x := a 0 + 1) (by omega) (by omega), c_draw zs (by omega), Option.bind_some]
  dsimp only
  rw [ht, hρ]
/-- a stone of the reference -/
theorem m_day1 {x r p t : Int} {υ : zH} {N i : Nat} (hx : τ 0 29 = x) (h0 : drw (nx x) 4 = 0) (hi : i < N) (hN : N ≤ 1000) (hd : ¬ 400 ≤ τ 7 288) (h7 : τ 7 = a) (hw : wfL a) (hR : 0 < a 1) (hr : drw (nx (nx x)) (a 1) = r) (hp : drw (nx (nx (nx x))) (a (Int.toNat (16 + r))) = p) (ht : drw (nx (nx (nx (nx x)))) (a 0 + 1) = t) (hr2 : 0 ≤ r ∧ r < a 1) (hp2 : 0 ≤ p ∧ p < a (Int.toNat (16 + r))) (ht2 : 0 ≤ t ∧ t ≤ a 0)
    (hυ : zset (zset (zset (zset τ 0 29 (nx x)) 0 29 (nx (nx x))) 0 29 (nx (nx (nx x)))) 0 29 (nx (nx (nx (nx x)))) = υ) : f_M_draws_12 τ (N : Int) (i : Int) = (f_M_day (zset (zset υ 7 (Int.toNat (306 + 9 * r + p)) ((if 0 ≤ t ∧ t < a 0 then t else -1) + 1)) 0 30 (w32 (zset υ 7 (Int.toNat (306 + 9 * r + p)) ((if 0 ≤ t ∧ t < a 0 then t else -1) + 1) 0 30 + 1)))).bind (fun r6 => f_M_draws_12 r6.1 (N : Int) ((i + 1 : Nat) : Int)) := by
  have hc0 := hw.1.1
  have hc1 := hw.1.2.1
  have hrr := hw.2.2.1 r hr2.1 hr2.2
  have hnn : ¬ ¬ drw (nx x) 4 = 0 := fun q => q h0
  have e7 : υ 7 = a := by rw [← hυ, zk (show (7 : Nat) ≠ 0 by decide), zk (show (7 : Nat) ≠ 0 by decide), zk (show (7 : Nat) ≠ 0 by decide), zk (show (7 : Nat) ≠ 0 by decide), h7]
  rw [e_M_draws_12, if_neg (show ¬ (N : Int) ≤ i by omega), if_neg hd, m_draw hx (by decide), Option.bind_some]
  dsimp only
  rw [if_neg hnn, zk (show (7 : Nat) ≠ 0 by decide), h7, m_draw zs hR, Option.bind_some]
  dsimp only
  rw [hr, w32_id (x := 16 + r) (by omega) (by omega), if_pos (zin_t (by omega) (by omega)), zk (show (7 : Nat) ≠ 0 by decide), zk (show (7 : Nat) ≠ 0 by decide), h7, m_draw zs (by omega), Option.bind_some]
  dsimp only
  rw [hp, zk (show (7 : Nat) ≠ 0 by decide), zk (show (7 : Nat) ≠ 0 by decide), zk (show (7 : Nat) ≠ 0 by decide), h7, w32_id (x := a 0 + 1) (by omega) (by omega), m_draw zs (by omega), Option.bind_some]
  dsimp only
  rw [ht, hυ]
  simp only [e7]
  rw [w32_id (x := 9 * r) (by omega) (by omega), w32_id (x := 306 + 9 * r) (by omega) (by omega), w32_id (x := 306 + 9 * r + p) (by omega) (by omega), w32_id (x := t + 1) (by omega) (by omega), w32_s (by omega)]
  by_cases htt : t = a 0
  · have hnn2 : ¬ ¬ t = a 0 := fun q => q htt
    rw [if_neg hnn2, if_pos (zin_t (by omega) (by omega)), if_neg (show ¬ (0 ≤ t ∧ t < a 0) by omega)]
    rfl
  · rw [if_pos htt, if_pos (zin_t (by omega) (by omega)), if_pos (show 0 ≤ t ∧ t < a 0 by omega)]
theorem drawn_day {ks : Nat} {N : Nat} {i : Nat} (hap : apart8 ks k) (hks : ks + 12 < 352) (hk : isLand k) (hL : LandR σ k (τ 7)) (hw : wfL (τ 7)) (hR : 0 < τ 7 1) (hS : StrR σ ks (τ 7) d) (h400 : d < 400) (hD : DcR σ τ) (hi : i < N) (hN : N ≤ 1000) :
    ∃ σ' τ', f_Stream_passDrawnDay σ ks k = some (σ', 0) ∧ f_M_draws_12 τ (N : Int) (i : Int) = f_M_draws_12 τ' (N : Int) ((i + 1 : Nat) : Int) ∧ DrawOut σ τ σ' τ' ks d (d + 1) := by
  obtain ⟨x, hx⟩ : ∃ x, σ 352 0 = x := ⟨_, rfl⟩
  have hx2 : τ 0 29 = x := by rw [← hD.1]; exact hx
  have e288 := hS.2.1
  have hd4 : ¬ 400 ≤ τ 7 288 := by omega
  have hc0 := hw.1.1
  have hc1 := hw.1.2.1
  have hkk : k = 384 ∨ k = 448 := hk
  by_cases h0 : drw (nx x) 4 = 0
  · obtain ⟨r, hr⟩ : ∃ r, drw (nx (nx x)) (τ 7 1) = r := ⟨_, rfl⟩
    have hr2 := drw_in (x := nx x) hR
    rw [hr] at hr2
    have hrr := hw.2.2.1 r hr2.1 hr2.2
    obtain ⟨p, hp⟩ : ∃ p, drw (nx (nx (nx x))) (τ 7 (Int.toNat (16 + r))) = p := ⟨_, rfl⟩
    have hp2 := drw_in (x := nx (nx x)) (n := τ 7 (Int.toNat (16 + r))) (by omega)
    rw [hp] at hp2
    obtain ⟨t, ht⟩ : ∃ t, drw (nx (nx (nx (nx x)))) (τ 7 0 + 1) = t := ⟨_, rfl⟩
    have ht2 := drw_in (x := nx (nx (nx x))) (n := τ 7 0 + 1) (by omega)
    rw [ht] at ht2
    obtain ⟨ρ, hρ⟩ : ∃ ρ, zset (zset (zset (zset σ 352 0 (nx x)) 352 0 (nx (nx x))) 352 0 (nx (nx (nx x)))) 352 0 (nx (nx (nx (nx x)))) = ρ := ⟨_, rfl⟩
    obtain ⟨υ, hυ⟩ : ∃ υ, zset (zset (zset (zset τ 0 29 (nx x)) 0 29 (nx (nx x))) 0 29 (nx (nx (nx x)))) 0 29 (nx (nx (nx (nx x)))) = υ := ⟨_, rfl⟩
    have hC := c_day1 (ks := ks) hx h0 hks hk hL hw hR hr hp ht hr2 hρ
    have hM := m_day1 (N := N) (i := i) hx2 h0 hi hN hd4 rfl hw hR hr hp ht hr2 hp2 (by omega) hυ
    have ρ1 : ∀ j, j ≠ 352 → ρ j = σ j := fun j hj => by rw [← hρ, zk hj, zk hj, zk hj, zk hj]
    have ρ2 : ρ 352 0 = nx (nx (nx (nx x))) := by rw [← hρ, zs]
    have ρ3 : ρ 352 1 = σ 352 1 := by rw [← hρ, zi (by decide), zi (by decide), zi (by decide), zi (by decide)]
    have υ1 : ∀ j, j ≠ 0 → υ j = τ j := fun j hj => by rw [← hυ, zk hj, zk hj, zk hj, zk hj]
    have υ2 : υ 0 29 = nx (nx (nx (nx x))) := by rw [← hυ, zs]
    have υ3 : ∀ i, i ≠ 29 → υ 0 i = τ 0 i := fun i hi => by rw [← hυ, zi hi, zi hi, zi hi, zi hi]
    clear hρ hυ hr hp ht
    have e7 : υ 7 = τ 7 := υ1 7 (by decide)
    have lρ : LandR ρ k (τ 7) := hL.frame (fun i hi => ρ1 _ (by omega))
    have sρ : StrR ρ ks (τ 7) d := hS.keepd hw (fun _ _ => rfl) (fun j j0 j1 => ρ1 j (by omega))
    obtain ⟨v, hv⟩ : ∃ v, (if 0 ≤ t ∧ t < τ 7 0 then t else -1) = v := ⟨_, rfl⟩
    have hv2 : -1 ≤ v ∧ v < τ 7 0 := by rw [← hv]; split <;> omega
    rw [hv] at hM
    obtain ⟨ρ', hρ'⟩ : ∃ ρ', zset (zset ρ (ks + 1) (Int.toNat (cix (τ 7 (Int.toNat (16 + r))) d r p)) v) 352 1 (w32 (zset ρ (ks + 1) (Int.toNat (cix (τ 7 (Int.toNat (16 + r))) d r p)) v 352 1 + 1)) = ρ' := ⟨_, rfl⟩
    obtain ⟨υ', hυ'⟩ : ∃ υ', zset (zset υ 7 (Int.toNat (306 + 9 * r + p)) (v + 1)) 0 30 (w32 (zset υ 7 (Int.toNat (306 + 9 * r + p)) (v + 1) 0 30 + 1)) = υ' := ⟨_, rfl⟩
    rw [hυ'] at hM
    have hput := c_put (v := v) lρ hw sρ.2.2.1 (by omega) (by omega) hr2.1 hr2.2 hp2.1 hp2.2
    have hC2 : f_Stream_passDrawnDay σ ks k = (f_Stream_passDay ρ' ks k).bind (fun r8 => some (r8.1, 0)) := by
      rw [hC, c_hasTerm lρ, Option.bind_some]
      dsimp only
      by_cases htt : 0 ≤ t ∧ t < τ 7 0
      · rw [if_pos htt] at hv
        subst hv
        rw [if_pos htt, i10, hput, Option.bind_some]
        dsimp only
        rw [hρ']
      · rw [if_neg htt] at hv
        subst hv
        rw [if_neg htt, i00, hput, Option.bind_some]
        dsimp only
        rw [hρ']
    have h77 : ∀ j, υ' 7 j = zset υ 7 (Int.toNat (306 + 9 * r + p)) (v + 1) 7 j := fun j => by rw [← hυ', zk (show (7 : Nat) ≠ 0 by decide)]
    have h7i : ∀ j, j ≠ Int.toNat (306 + 9 * r + p) → υ' 7 j = τ 7 j := fun j hj => by rw [h77, zi hj, e7]
    have l' : LandR ρ' k (υ' 7) := LandR_congr (fun j hj => h7i j (by omega)) hw (hL.frame (fun i hi => by
      rw [← hρ', zk (show k + i ≠ 352 by omega), zk (show k + i ≠ ks + 1 by unfold apart8 at hap; omega)]
      exact ρ1 _ (by omega)))
    have w' : wfL (υ' 7) := wfL_congr (fun j hj => h7i j (by omega)) hw
    have s' : StrR ρ' ks (υ' 7) d := by
      obtain ⟨n, m, hn, hm, hA⟩ := hS.2.2.2.1
      have ks0 : ∀ i, ρ' ks i = σ ks i := fun i => by rw [← hρ', zk (show ks ≠ 352 by omega), zk (show ks ≠ ks + 1 by omega), ρ1 ks (by omega)]
      refine hS.upd hw (fun j _ j1 j2 => h7i j (by omega)) ⟨ks0 12, ks0 14, ks0 15⟩ ⟨n, m, by rw [ks0]; exact hn, by rw [h7i 293 (by omega)]; exact hm, hA⟩ ?_ (fun j j0 j1 => by rw [← hρ', zk (show ks + j ≠ 352 by omega), zk (show ks + j ≠ ks + 1 by omega), ρ1 _ (by omega)])
      have hcs := CellR.set (b := υ' 7) (v := v) hS.2.2.2.2.2.2.1 hw hr2.1 hr2.2 hp2.1 hp2.2 hv2.1 hv2.2 (by rw [h77, zs]) (fun j hj _ => h7i j hj)
      have ek : ρ' (ks + 1) = zset σ (ks + 1) (Int.toNat (cix (τ 7 (Int.toNat (16 + r))) d r p)) v (ks + 1) := by
        rw [← hρ', zk (show ks + 1 ≠ 352 by omega)]
        funext y
        by_cases hy : y = Int.toNat (cix (τ 7 (Int.toNat (16 + r))) d r p)
        · rw [hy, zs, zs]
        · rw [zi hy, zi hy, ρ1 _ (by omega)]
      unfold CellR at hcs ⊢
      rw [ek]
      exact hcs
    have d' : DcR ρ' υ' := by
      refine ⟨?_, ?_⟩
      · rw [← hρ', ← hυ', zi (by decide), zk (show (352 : Nat) ≠ ks + 1 by omega), ρ2, zi (by decide), zk (show (0 : Nat) ≠ 7 by decide), υ2]
      · rw [← hρ', ← hυ', zs, zs, zk (show (352 : Nat) ≠ ks + 1 by omega), ρ3, zk (show (0 : Nat) ≠ 7 by decide), υ3 30 (by decide), hD.2]
    obtain ⟨σ', τ', g1, g2, g3⟩ := drawn_in (σ := σ) (τ := τ) hap l' w' s' h400 hks d' (fun j hj hj2 => by rw [← hρ', zk hj2, zk (by unfold own8 at hj; omega)]; exact ρ1 j hj2) (fun j j1 j2 => by rw [← hυ', zk j2, zk j1]; exact υ1 j j2) (fun i i1 i2 => by rw [← hυ', zi i2, zk (show (0 : Nat) ≠ 7 by decide)]; exact υ3 i i1) (fun j hj => h7i j (by omega)) (by rw [← hρ', zk (show ks + 12 ≠ 352 by omega), zk (show ks + 12 ≠ ks + 1 by omega)]; exact ρ1 _ (by omega))
    exact ⟨σ', τ', by rw [hC2, g1, Option.bind_some], by rw [hM, g2, Option.bind_some], g3⟩
  · obtain ⟨σ', τ', g1, g2, g3⟩ := drawn_in (σ := σ) (τ := τ) (ρ := zset σ 352 0 (nx x)) (υ := zset τ 0 29 (nx x)) (d := d) (ks := ks) (k := k) hap (by rw [zk (show (7 : Nat) ≠ 0 by decide)]; exact hL.frame (fun i hi => zk (by omega))) (by rw [zk (show (7 : Nat) ≠ 0 by decide)]; exact hw) (by rw [zk (show (7 : Nat) ≠ 0 by decide)]; exact hS.keepd hw (fun _ _ => rfl) (fun j j0 j1 => zk (by omega))) h400 hks ⟨by rw [zs, zs], by rw [zi (by decide), zi (by decide)]; exact hD.2⟩ (fun j _ hj => zk hj) (fun j _ hj => zk hj) (fun i hi _ => zi hi) (fun j _ => by rw [zk (show (7 : Nat) ≠ 0 by decide)]) (zk (by omega))
    exact ⟨σ', τ', by rw [c_day0 hx h0, g1, Option.bind_some], by rw [m_day0 hx2 h0 hi hN hd4, g2, Option.bind_some], g3⟩
end G27
