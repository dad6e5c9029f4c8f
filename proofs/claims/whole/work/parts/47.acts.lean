/-! ACTS that are kept, both sides -/
section G17
variable {σ τ : zH} {k : Nat} {a b : Nat → Int}
/-- a row that is kept, with the country there is -/
def rwA (τ : zH) (i : Nat) : Nat → Int := fun j => if 288 ≤ j ∧ j < 2778 then τ 22 (2490 * i + (j - 288)) else τ 7 j
def isAct (p : Nat) : Prop := p = 192 ∨ p = 224 ∨ p = 256 ∨ p = 288
def PtrR (σ : zH) (p : Nat → Nat) : Prop := (∀ i, i < 4 → σ 161 i = (p i : Int) ∧ isAct (p i)) ∧ ∀ i j, i < 4 → j < 4 → p i = p j → i = j
def ActsR (σ τ : zH) (d : Nat) : Prop := ∃ (n : Nat) (p D : Nat → Nat), n ≤ 4 ∧ σ 160 1 = (n : Int) ∧ τ 0 23 = (n : Int) ∧ PtrR σ p ∧ (∀ i, i < n → D i ≤ d ∧ StrR σ (p i) (rwA τ i) (D i) ∧ ∀ (t : Int) (d' : Nat), 0 ≤ t → t < 6 → d' < D i → wv (rwA τ i) t d' = wv (τ 7) t d') ∧ ∀ i j, j ≤ i → i < n → D j ≤ D i
theorem zio8 {p : Nat} (h : isAct p) : zio 8 (p : Int) = true := by
  rcases h with rfl | rfl | rfl | rfl <;> rfl
theorem zhl_act {p : Nat} (h : isAct p) : zhl p = 0 := by
  rcases h with rfl | rfl | rfl | rfl <;> rfl
theorem act_apart {p q : Nat} (hp : isAct p) (hq : isAct q) (h : p ≠ q) : ∀ j, q ≤ j → j ≤ q + 11 → ¬ own8 p j := by
  unfold isAct at hp hq
  unfold own8
  intro j j0 j1
  omega
theorem c_forget {p : Nat → Nat} (h : PtrR σ p) : ∃ ρ, f_Acts_forgetOldest σ = some (ρ, 0) ∧ (∀ j, j ≠ 160 → j ≠ 161 → ρ j = σ j) ∧ ρ 160 1 = 3 ∧ PtrR ρ (fun i => p ((i + 1) % 4)) := by
  have h0 := h.1 0 (by omega)
  have h1 := h.1 1 (by omega)
  have h2 := h.1 2 (by omega)
  have h3 := h.1 3 (by omega)
  refine ⟨zset (zset (zset (zset (zset σ 161 0 (p 1)) 161 1 (p 2)) 161 2 (p 3)) 161 3 (p 0)) 160 1 3, ?_, fun j j0 j1 => by rw [zk j0, zk j1, zk j1, zk j1, zk j1], zs, fun i hi => ?_, fun i j hi hj he => ?_⟩
  · rw [e_Acts_forgetOldest, h0.1, if_pos (by rw [zio8 h0.2]; rfl), e_Acts_forgetOldest_9, if_neg (by decide), show Int.toNat 1 = 1 from rfl, h1.1, if_pos (by rw [zio8 h1.2]; rfl), w32_id (x := 1 - 1) (by decide) (by decide), if_pos (by decide), w32_id (x := 1 + 1) (by decide) (by decide)]
    rw [e_Acts_forgetOldest_9, if_neg (by decide), show Int.toNat (1 + 1) = 2 from rfl, show Int.toNat (1 - 1) = 0 from rfl, zi (by decide), h2.1, if_pos (by rw [zio8 h2.2]; rfl), w32_id (x := 1 + 1 - 1) (by decide) (by decide), if_pos (by decide), w32_id (x := 1 + 1 + 1) (by decide) (by decide)]
    rw [e_Acts_forgetOldest_9, if_neg (by decide), show Int.toNat (1 + 1 + 1) = 3 from rfl, show Int.toNat (1 + 1 - 1) = 1 from rfl, zi (by decide), zi (by decide), h3.1, if_pos (by rw [zio8 h3.2]; rfl), w32_id (x := 1 + 1 + 1 - 1) (by decide) (by decide), if_pos (by decide), w32_id (x := 1 + 1 + 1 + 1) (by decide) (by decide)]
    rw [e_Acts_forgetOldest_9, if_pos (by decide)]
    rfl
  · rw [zk (by decide)]
    have hi4 : i = 0 ∨ i = 1 ∨ i = 2 ∨ i = 3 := by omega
    rcases hi4 with rfl | rfl | rfl | rfl
    · rw [zi (by decide), zi (by decide), zi (by decide), zs]; exact ⟨rfl, h1.2⟩
    · rw [zi (by decide), zi (by decide), zs]; exact ⟨rfl, h2.2⟩
    · rw [zi (by decide), zs]; exact ⟨rfl, h3.2⟩
    · rw [zs]; exact ⟨rfl, h0.2⟩
  · have := h.2 _ _ (show (i + 1) % 4 < 4 by omega) (show (j + 1) % 4 < 4 by omega) he
    omega
/-- a stream goes to the next place of the kept ones -/
theorem keep_tail {ρ : zH} {n d : Nat} {p D : Nat → Nat} {row : Nat → Nat → Int} (hn : n ≤ 3) (hz : ρ 160 1 = (n : Int)) (hp : PtrR ρ p) (hs : ∀ i, i < n → StrR ρ (p i) (row i) (D i) ∧ wfL (row i)) (hw : wfL a) (hst : StrR ρ 96 a d) :
    ∃ σ', (f_Stream_copyFrom ρ (p n) 96).bind (fun r1 => some (zset r1.1 160 1 (w32 ((r1.1 160 1) + 1)), (0 : Int))) = some (σ', 0) ∧ (∀ j, ¬ (160 ≤ j ∧ j ≤ 300) → σ' j = ρ j) ∧ σ' 160 1 = ((n + 1 : Nat) : Int) ∧ PtrR σ' p ∧ (∀ i, i < n → StrR σ' (p i) (row i) (D i)) ∧ StrR σ' (p n) a d := by
  have hpn := (hp.1 n (by omega)).2
  obtain ⟨σ1, h1, h2⟩ := c_copy (σ := ρ) (k0 := p n) (k1 := 96) (by unfold isAct at hpn; omega)
  have e160 : σ1 160 = ρ 160 := h2.1 160 (by unfold own8; unfold isAct at hpn; omega)
  have e161 : σ1 161 = ρ 161 := h2.1 161 (by unfold own8; unfold isAct at hpn; omega)
  refine ⟨_, by rw [h1, Option.bind_some], fun j hj => ?_, ?_, ⟨fun i hi => ?_, hp.2⟩, fun i hi => ?_, ?_⟩
  · dsimp only
    rw [zk (by omega)]
    exact h2.1 j (by unfold own8; unfold isAct at hpn; omega)
  · dsimp only
    rw [zs, e160, hz, w32_id (by omega) (by omega)]
    omega
  · dsimp only
    rw [zk (by decide), e161]
    exact hp.1 i hi
  · dsimp only
    have hpi := (hp.1 i (by omega)).2
    have hne : p n ≠ p i := fun q => by have := hp.2 n i (by omega) (by omega) q; omega
    exact (hs i hi).1.keepd (hs i hi).2 (fun _ _ => rfl) (fun j j0 j1 => by
      rw [zk (by unfold isAct at hpi; omega)]
      exact h2.1 j (act_apart hpn hpi hne j j0 j1))
  · dsimp only
    exact (hst.copy hw h2).keepd hw (fun _ _ => rfl) (fun j j0 j1 => zk (by unfold isAct at hpn; omega))
theorem rwA_land (τ : zH) (i : Nat) : ∀ j, j < 288 → rwA τ i j = τ 7 j := fun j hj => if_neg (by omega)
theorem rwA_wf {i : Nat} (hw : wfL (τ 7)) : wfL (rwA τ i) := wfL_congr (rwA_land τ i) hw
theorem keep_both {d : Nat} (hw : wfL (τ 7)) (hA : ActsR σ τ d) (hS : StrR σ 96 (τ 7) d) :
    ∃ σ' τ', f_Acts_keep σ 96 = some (σ', 0) ∧ f_M_keep τ = some (τ', 0) ∧ ActsR σ' τ' d ∧ (∀ j, ¬ (160 ≤ j ∧ j ≤ 300) → σ' j = σ j) ∧ (∀ j, j ≠ 22 → j ≠ 0 → τ' j = τ j) ∧ ∀ i, i ≠ 23 → τ' 0 i = τ 0 i := by
  obtain ⟨n, p, D, n4, hz, h23, hp, hs, hD⟩ := hA
  obtain ⟨τ', m1, m2, m3, m4, m5, m6⟩ := m_keep n4 h23
  -- from the class's side on
  have go : ∀ (ρ : zH) (p' D' : Nat → Nat) (f : Nat → Nat), (∀ j, j ≠ 160 → j ≠ 161 → ρ j = σ j) → ρ 160 1 = ((min n 3 : Nat) : Int) → PtrR ρ p' → (∀ i, i < min n 3 → f i < n ∧ p' i = p (f i) ∧ D' i = D (f i) ∧ f i = if n = 4 then i + 1 else i) → D' (min n 3) = d →
      ∃ σ', (f_Stream_copyFrom ρ (p' (min n 3)) 96).bind (fun r1 => some (zset r1.1 160 1 (w32 ((r1.1 160 1) + 1)), (0 : Int))) = some (σ', 0) ∧ ActsR σ' τ' d ∧ (∀ j, ¬ (160 ≤ j ∧ j ≤ 300) → σ' j = σ j) := by
    intro ρ p' D' f r1 r2 r3 r4 r5
    have hrow : ∀ i, i < min n 3 → ∀ j, j < 2778 → rwA τ' i j = rwA τ (f i) j := fun i hi j hj => by
      unfold rwA
      have e7 : τ' 7 = τ 7 := m2 7 (by decide) (by decide)
      by_cases hj2 : 288 ≤ j ∧ j < 2778
      · rw [if_pos hj2, if_pos hj2, m6 _ (by omega)]
        have := (r4 i hi).2.2.2
        by_cases h4 : n = 4
        · rw [if_pos h4] at this ⊢
          rw [this]
          exact congrArg (τ 22) (by omega)
        · rw [if_neg h4] at this ⊢
          rw [this]
      · rw [if_neg hj2, if_neg hj2, e7]
    have hrow2 : ∀ j, j < 2778 → rwA τ' (min n 3) j = τ 7 j := fun j hj => by
      unfold rwA
      have e7 : τ' 7 = τ 7 := m2 7 (by decide) (by decide)
      by_cases hj2 : 288 ≤ j ∧ j < 2778
      · rw [if_pos hj2, m5 _ (by omega)]
        exact congrArg (τ 7) (by omega)
      · rw [if_neg hj2, e7]
    have hpf : ∀ i, i < min n 3 → isAct (p' i) := fun i hi => (r3.1 i (by omega)).2
    obtain ⟨σ', t1, t2, t3, t4, t5, t6⟩ := keep_tail (ρ := ρ) (n := min n 3) (d := d) (p := p') (D := D') (row := rwA τ') (a := τ 7) (by omega) r2 r3 (fun i hi => by
      obtain ⟨q1, q2, q3, q4⟩ := r4 i hi
      have hwr : wfL (rwA τ (f i)) := rwA_wf hw
      refine ⟨?_, wfL_congr (fun j hj => hrow i hi j (by omega)) hwr⟩
      rw [q2, q3]
      exact (hs (f i) q1).2.1.keepd hwr (hrow i hi) (fun j j0 j1 => r1 j (by have := hpf i hi; rw [q2] at this; unfold isAct at this; omega) (by have := hpf i hi; rw [q2] at this; unfold isAct at this; omega))) hw (hS.keepd hw (fun _ _ => rfl) (fun j j0 j1 => r1 j (by omega) (by omega)))
    refine ⟨σ', t1, ⟨min n 3 + 1, p', D', by omega, t3, m4, t4, fun i hi => ?_, fun i j hji hi => ?_⟩, fun j hj => by rw [t2 j hj, r1 j (by omega) (by omega)]⟩
    · by_cases hin : i = min n 3
      · subst hin
        refine ⟨by omega, ?_, fun t d' t0 t1 hd' => ?_⟩
        · rw [r5]
          exact t6.keepd hw hrow2 (fun _ _ _ => rfl)
        · unfold wv
          rw [r5] at hd'
          have := hS.1
          rw [hrow2 _ (by omega), m2 7 (by decide) (by decide)]
      · obtain ⟨q1, q2, q3, q4⟩ := r4 i (by omega)
        obtain ⟨g1, g2, g3⟩ := hs (f i) q1
        refine ⟨by rw [q3]; exact g1, t5 i (by omega), fun t d' t0 t1 hd' => ?_⟩
        rw [q3] at hd'
        have := g2.1
        have h9 := g3 t d' t0 t1 hd'
        rw [m2 7 (by decide) (by decide), ← h9]
        unfold wv
        exact hrow i (by omega) _ (by omega)
    · by_cases hin : i = min n 3
      · subst hin
        by_cases hjn : j = min n 3
        · rw [hjn]; exact Nat.le_refl _
        · obtain ⟨q1, q2, q3, q4⟩ := r4 j (by omega)
          rw [q3, r5]
          exact (hs _ q1).1
      · obtain ⟨q1, q2, q3, q4⟩ := r4 i (by omega)
        obtain ⟨w1, w2, w3, w4⟩ := r4 j (by omega)
        rw [q3, w3]
        refine hD _ _ ?_ q1
        rw [q4, w4]
        split <;> omega
  by_cases h4 : n = 4
  · obtain ⟨ρ, f1, f2, f3, f4⟩ := c_forget hp
    obtain ⟨σ', g1, g2, g3⟩ := go ρ (fun i => p ((i + 1) % 4)) (fun i => if i = 3 then d else D (i + 1)) (fun i => i + 1) f2 (by rw [f3]; omega) f4 (fun i hi => ⟨by omega, by rw [Nat.mod_eq_of_lt (by omega)], if_neg (by omega), by rw [if_pos h4]⟩) (if_pos (by omega))
    refine ⟨σ', τ', ?_, m1, g2, g3, m2, m3⟩
    have f4' := f4.1 3 (by omega)
    rw [show min n 3 = 3 by omega] at g1
    rw [e_Acts_keep, hz, if_neg (by omega), f1, Option.bind_some]
    dsimp only
    have f4a : ρ 161 3 = ((p ((3 + 1) % 4) : Nat) : Int) := f4'.1
    have f4b : zio 8 ((p ((3 + 1) % 4) : Nat) : Int) = true := zio8 f4'.2
    simp only [f3, show Int.toNat 3 = 3 from rfl, f4a, f4b]
    exact g1
  · obtain ⟨σ', g1, g2, g3⟩ := go σ p (fun i => if i = n then d else D i) (fun i => i) (fun _ _ _ => rfl) (by rw [hz]; omega) hp (fun i hi => ⟨by omega, rfl, if_neg (by omega), by rw [if_neg h4]⟩) (if_pos (by omega))
    refine ⟨σ', τ', ?_, m1, g2, g3, m2, m3⟩
    have f4' := hp.1 n (by omega)
    rw [show min n 3 = n by omega] at g1
    rw [e_Acts_keep, hz, if_pos (by omega), show Int.toNat (n : Int) = n from rfl, f4'.1, if_pos (by rw [zio8 f4'.2, zin_t (by omega) (by omega)]; rfl)]
    exact g1
/-- the last of the kept ones is brought back -/
theorem undo_both {d : Nat} (hw : wfL (τ 7)) (hA : ActsR σ τ d) (hS : StrR σ 96 (τ 7) d) (hH : ∀ e, e < d → HisD σ 96 (τ 7) e) :
    ∃ σ' τ' r d', f_R_undo σ = some (σ', r) ∧ f_M_undo τ = some (τ', r) ∧ ActsR σ' τ' d' ∧ StrR σ' 96 (τ' 7) d' ∧ (∀ e, e < d' → HisD σ' 96 (τ' 7) e) ∧ (∀ j, ¬ (96 ≤ j ∧ j ≤ 108) → j ≠ 160 → σ' j = σ j) ∧ (∀ j, j ≠ 7 → j ≠ 0 → τ' j = τ j) ∧ (∀ i, i ≠ 23 → i ≠ 0 → τ' 0 i = τ 0 i) ∧ ∀ j, ¬ (288 ≤ j ∧ j < 2778) → τ' 7 j = τ 7 j := by
  obtain ⟨n, p, D, n4, hz, h23, hp, hs, hD⟩ := hA
  by_cases hn : n = 0
  · subst hn
    refine ⟨σ, zset τ 0 0 0, -1, d, ?_, ?_, ⟨0, p, D, n4, hz, by rw [zi (by decide)]; exact h23, hp, fun i hi => by omega, fun i j _ hi => by omega⟩, by rw [zk (by decide)]; exact hS, by rw [zk (by decide)]; exact hH, fun _ _ _ => rfl, fun j _ h0 => zk h0, fun i _ h0 => zi h0, fun j _ => by rw [zk (by decide)]⟩
    · rw [e_R_undo, e_Acts_giveBack, hz, if_neg (fun q => q rfl), Option.bind_some]
      dsimp only
      rw [if_pos rfl]
    · rw [e_M_undo, zi (by decide), h23, if_neg (fun q => q rfl)]
  · obtain ⟨m, hm⟩ : ∃ m, n = m + 1 := ⟨n - 1, by omega⟩
    subst hm
    have hpm := hp.1 m (by omega)
    obtain ⟨c1, c2, c3⟩ := hs m (by omega)
    have act := hpm.2
    obtain ⟨σ1, h1, h2⟩ := c_copy (σ := zset σ 160 1 (m : Int)) (k0 := 96) (k1 := p m) (by unfold isAct at act; omega)
    have e0 : (zset (zset τ 0 0 0) 0 23 (m : Int)) 0 23 = (m : Int) := zs
    obtain ⟨τ1, g1, g2, g3, g4⟩ := m_undo_l (τ := zset (zset τ 0 0 0) 0 23 (m : Int)) (n := m) (by omega) e0 2490 0 _ (by omega) (fun _ _ => rfl) (fun _ _ => rfl) (fun q hq => by omega)
    have e7 : zset (zset τ 0 0 0) 0 23 (m : Int) 7 = τ 7 := by rw [zk (by decide), zk (by decide)]
    have e22 : zset (zset τ 0 0 0) 0 23 (m : Int) 22 = τ 22 := by rw [zk (by decide), zk (by decide)]
    rw [e7] at g3
    rw [e22] at g4
    have f22 : τ1 22 = τ 22 := by rw [g2 22 (by decide), e22]
    have hrow : ∀ i, rwA τ1 i = rwA τ i := fun i => by
      funext j
      unfold rwA
      by_cases hj2 : 288 ≤ j ∧ j < 2778
      · rw [if_pos hj2, if_pos hj2, f22]
      · rw [if_neg hj2, if_neg hj2]; exact g3 j hj2
    have hnew : ∀ j, τ1 7 j = rwA τ m j := fun j => by
      unfold rwA
      by_cases hj2 : 288 ≤ j ∧ j < 2778
      · rw [if_pos hj2, ← g4 _ (by omega)]
        exact congrArg (τ1 7) (by omega)
      · rw [if_neg hj2]; exact g3 j hj2
    have hnewf : τ1 7 = rwA τ m := funext hnew
    have hwm : wfL (rwA τ m) := rwA_wf hw
    have e160 : σ1 160 = zset σ 160 1 (m : Int) 160 := h2.1 160 (by unfold own8; omega)
    have e161 : σ1 161 = σ 161 := by rw [h2.1 161 (by unfold own8; omega), zk (by decide)]
    have eσ : ∀ j, ¬ (96 ≤ j ∧ j ≤ 108) → j ≠ 160 → σ1 j = σ j := fun j hj h0 => by rw [h2.1 j (by unfold own8; omega), zk h0]
    have hp1 : PtrR σ1 p := ⟨fun i hi => by rw [e161]; exact hp.1 i hi, hp.2⟩
    have hS1 : StrR σ1 96 (τ1 7) (D m) := by
      rw [hnewf]
      exact (c2.keepd (σ' := zset σ 160 1 (m : Int)) hwm (fun _ _ => rfl) (fun j j0 j1 => zk (by unfold isAct at act; omega))).copy hwm h2
    refine ⟨σ1, τ1, (m : Int), D m, ?_, ?_, ⟨m, p, D, by omega, by rw [e160, zs], by rw [g2 0 (by decide), zs], hp1, fun i hi => ?_, fun i j hji hi => hD i j hji (by omega)⟩, hS1, fun e he => ?_, eσ, fun j j7 j0 => by rw [g2 j j7, zk j0, zk j0], fun i i23 i0 => by rw [g2 0 (by decide), zi i23, zi i0], g3⟩
    · rw [e_R_undo, e_Acts_giveBack, hz, if_pos (by omega), w32_id (x := ((m + 1 : Nat) : Int) - 1) (by omega) (by omega), show ((m + 1 : Nat) : Int) - 1 = (m : Int) by omega, zs, zk (show 161 ≠ 160 by decide), show Int.toNat (m : Int) = m from rfl, hpm.1, if_pos (by rw [zio8 act, zin_t (by omega) (by omega)]; rfl), show Int.toNat ((p m : Nat) : Int) = p m from rfl, h1, Option.bind_some, Option.bind_some]
      dsimp only
      rw [if_neg (by decide), e160, zs]
    · rw [e_M_undo, zi (by decide), h23, if_pos (by omega), w32_id (x := ((m + 1 : Nat) : Int) - 1) (by omega) (by omega), show ((m + 1 : Nat) : Int) - 1 = (m : Int) by omega]
      exact g1
    · obtain ⟨q1, q2, q3⟩ := hs i (by omega)
      have hle := hD m i (by omega) (by omega)
      have acti := (hp.1 i (by omega)).2
      rw [hrow i]
      refine ⟨hle, q2.keepd (rwA_wf hw) (fun _ _ => rfl) (fun j j0 j1 => eσ j (by unfold isAct at acti; omega) (by unfold isAct at acti; omega)), fun t d' t0 t1 hd' => ?_⟩
      rw [q3 t d' t0 t1 hd', hnewf, c3 t d' t0 t1 (by omega)]
    · have h108 : σ1 108 = σ 108 := by
        have := h2.2.2.2.2.2.2.2.1 (Or.inr (zhl_act act))
        rw [show 96 + 12 = 108 from rfl] at this
        rw [this, zk (by decide)]
      have hw4 := hw.1.2.2.2.2.1
      refine (hH e (by omega)).congr (by rw [show 96 + 12 = 108 from rfl, h108]) (g3 4 (by omega)) (fun t ht => ?_)
      rw [hnewf]
      exact c3 t e (by omega) (by omega) (by omega)
end G17
