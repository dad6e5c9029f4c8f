/-! ANOTHER stream is kept as an act, both sides -/
section G68
variable {σ τ : zH} {k : Nat} {a b : Nat → Int}
theorem keep_tail8 {ρ : zH} {n d : Nat} {p D : Nat → Nat} {row : Nat → Nat → Int} (hn : n ≤ 3) (hz : ρ 160 1 = (n : Int)) (hp : PtrR ρ p) (hs : ∀ i, i < n → StrR ρ (p i) (row i) (D i) ∧ wfL (row i)) (hw : wfL a) (hst : StrR ρ 128 a d) :
    ∃ σ', (f_Stream_copyFrom ρ (p n) 128).bind (fun r1 => some (zset r1.1 160 1 (w32 ((r1.1 160 1) + 1)), (0 : Int))) = some (σ', 0) ∧ (∀ j, ¬ (160 ≤ j ∧ j ≤ 300) → σ' j = ρ j) ∧ σ' 160 1 = ((n + 1 : Nat) : Int) ∧ PtrR σ' p ∧ (∀ i, i < n → StrR σ' (p i) (row i) (D i)) ∧ StrR σ' (p n) a d := by
  have hpn := (hp.1 n (by omega)).2
  obtain ⟨σ1, h1, h2⟩ := c_copy (σ := ρ) (k0 := p n) (k1 := 128) (by unfold isAct at hpn; omega)
  have e160 : σ1 160 = ρ 160 := h2.1 160 (by unfold own8; unfold isAct at hpn; omega)
  have e161 : σ1 161 = ρ 161 := h2.1 161 (by unfold own8; unfold isAct at hpn; omega)
  refine ⟨_, by rw [h1, Option.bind_some], fun j hj => ?_, ?_, ⟨fun i hi => ?_, hp.2⟩, fun i hi => ?_, ?_⟩
  · dsimp only
    rw [zk (by omega)]
    exact h2.1 j (by unfold own8; unfold isAct at hpn; omega)
  · dsimp only
    rw [zs, e160, hz, w32_id (by omega) (by omega)]
    omega
  · dsimp only
    rw [zk (by decide), e161]
    exact hp.1 i hi
  · dsimp only
    have hpi := (hp.1 i (by omega)).2
    have hne : p n ≠ p i := fun q => by have := hp.2 n i (by omega) (by omega) q; omega
    exact (hs i hi).1.keepd (hs i hi).2 (fun _ _ => rfl) (fun j j0 j1 => by
      rw [zk (by unfold isAct at hpi; omega)]
      exact h2.1 j (act_apart hpn hpi hne j j0 j1))
  · dsimp only
    exact (hst.copy hw h2).keepd hw (fun _ _ => rfl) (fun j j0 j1 => zk (by unfold isAct at hpn; omega))
/-- what the reference's keeping of a row b comes to -/
def KeptM (τ τ' : zH) (b : Nat → Int) : Prop := ∀ n : Nat, τ 0 23 = (n : Int) → n ≤ 4 → τ' 7 = τ 7 ∧ τ' 0 23 = ((min n 3 + 1 : Nat) : Int) ∧ (∀ q, q < 2490 → τ' 22 (2490 * min n 3 + q) = b (288 + q)) ∧ ∀ q, q < 2490 * min n 3 → τ' 22 q = τ 22 (if n = 4 then q + 2490 else q)
theorem keep_any {d e : Nat} (hw : wfL (τ 7)) (hwb : wfL b) (hbl : ∀ j, j < 288 → b j = τ 7 j) (hde : d ≤ e) (hbv : ∀ (t : Int) (d' : Nat), 0 ≤ t → t < 6 → d' < d → wv b t d' = wv (τ 7) t d') (hA : ActsR σ τ d) (hS : StrR σ 128 b d) :
    ∃ σ', f_Acts_keep σ 128 = some (σ', 0) ∧ (∀ τ', KeptM τ τ' b → ActsR σ' τ' e) ∧ (∀ j, ¬ (160 ≤ j ∧ j ≤ 300) → σ' j = σ j) := by
  obtain ⟨n, p, D, n4, hz, h23, hp, hs, hD⟩ := hA
  have go : ∀ (ρ : zH) (p' D' : Nat → Nat) (f : Nat → Nat), (∀ j, j ≠ 160 → j ≠ 161 → ρ j = σ j) → ρ 160 1 = ((min n 3 : Nat) : Int) → PtrR ρ p' → (∀ i, i < min n 3 → f i < n ∧ p' i = p (f i) ∧ D' i = D (f i) ∧ f i = if n = 4 then i + 1 else i) → D' (min n 3) = d →
      ∃ σ', (f_Stream_copyFrom ρ (p' (min n 3)) 128).bind (fun r1 => some (zset r1.1 160 1 (w32 ((r1.1 160 1) + 1)), (0 : Int))) = some (σ', 0) ∧ (∀ τ', KeptM τ τ' b → ActsR σ' τ' e) ∧ (∀ j, ¬ (160 ≤ j ∧ j ≤ 300) → σ' j = σ j) := by
    intro ρ p' D' f r1 r2 r3 r4 r5
    have hpf : ∀ i, i < min n 3 → isAct (p' i) := fun i hi => (r3.1 i (by omega)).2
    obtain ⟨σ', t1, t2, t3, t4, t5, t6⟩ := keep_tail8 (ρ := ρ) (n := min n 3) (d := d) (p := p') (D := D') (row := fun i => rwA τ (f i)) (a := b) (by omega) r2 r3 (fun i hi => by
      obtain ⟨q1, q2, q3, q4⟩ := r4 i hi
      have hwr : wfL (rwA τ (f i)) := rwA_wf hw
      refine ⟨?_, hwr⟩
      rw [q2, q3]
      exact (hs (f i) q1).2.1.keepd hwr (fun _ _ => rfl) (fun j j0 j1 => r1 j (by have := hpf i hi; rw [q2] at this; unfold isAct at this; omega) (by have := hpf i hi; rw [q2] at this; unfold isAct at this; omega))) hwb (hS.keepd hwb (fun _ _ => rfl) (fun j j0 j1 => r1 j (by omega) (by omega)))
    refine ⟨σ', t1, fun τ' hK => ?_, fun j hj => by rw [t2 j hj, r1 j (by omega) (by omega)]⟩
    obtain ⟨e7, m4, m5, m6⟩ := hK n h23 n4
    have hrow : ∀ i, i < min n 3 → ∀ j, j < 2778 → rwA τ' i j = rwA τ (f i) j := fun i hi j hj => by
      unfold rwA
      by_cases hj2 : 288 ≤ j ∧ j < 2778
      · rw [if_pos hj2, if_pos hj2, m6 _ (by omega)]
        have := (r4 i hi).2.2.2
        by_cases h4 : n = 4
        · rw [if_pos h4] at this ⊢
          rw [this]
          exact congrArg (τ 22) (by omega)
        · rw [if_neg h4] at this ⊢
          rw [this]
      · rw [if_neg hj2, if_neg hj2, e7]
    have hrow2 : ∀ j, j < 2778 → rwA τ' (min n 3) j = b j := fun j hj => by
      unfold rwA
      by_cases hj2 : 288 ≤ j ∧ j < 2778
      · rw [if_pos hj2, m5 _ (by omega)]
        exact congrArg b (by omega)
      · rw [if_neg hj2, e7, hbl j (by omega)]
    refine ⟨min n 3 + 1, p', D', by omega, t3, m4, t4, fun i hi => ?_, fun i j hji hi => ?_⟩
    · by_cases hin : i = min n 3
      · subst hin
        refine ⟨by omega, ?_, fun t d' t0 t1 hd' => ?_⟩
        · rw [r5]
          exact t6.keepd hwb hrow2 (fun _ _ _ => rfl)
        · rw [r5] at hd'
          have := hS.1
          have h9 := hbv t d' t0 t1 hd'
          rw [e7, ← h9]
          unfold wv
          rw [hrow2 _ (by omega)]
      · obtain ⟨q1, q2, q3, q4⟩ := r4 i (by omega)
        obtain ⟨g1, g2, g3⟩ := hs (f i) q1
        refine ⟨by rw [q3]; omega, (t5 i (by omega)).keepd (rwA_wf hw) (hrow i (by omega)) (fun _ _ _ => rfl), fun t d' t0 t1 hd' => ?_⟩
        rw [q3] at hd'
        have := g2.1
        have h9 := g3 t d' t0 t1 hd'
        rw [e7, ← h9]
        unfold wv
        exact hrow i (by omega) _ (by omega)
    · by_cases hin : i = min n 3
      · subst hin
        by_cases hjn : j = min n 3
        · rw [hjn]; exact Nat.le_refl _
        · obtain ⟨q1, q2, q3, q4⟩ := r4 j (by omega)
          rw [q3, r5]
          exact (hs _ q1).1
      · obtain ⟨q1, q2, q3, q4⟩ := r4 i (by omega)
        obtain ⟨w1, w2, w3, w4⟩ := r4 j (by omega)
        rw [q3, w3]
        refine hD _ _ ?_ q1
        rw [q4, w4]
        split <;> omega
  by_cases h4 : n = 4
  · obtain ⟨ρ, f1, f2, f3, f4⟩ := c_forget hp
    obtain ⟨σ', g1, g2, g3⟩ := go ρ (fun i => p ((i + 1) % 4)) (fun i => if i = 3 then d else D (i + 1)) (fun i => i + 1) f2 (by rw [f3]; omega) f4 (fun i hi => ⟨by omega, by rw [Nat.mod_eq_of_lt (by omega)], if_neg (by omega), by rw [if_pos h4]⟩) (if_pos (by omega))
    refine ⟨σ', ?_, g2, g3⟩
    have f4' := f4.1 3 (by omega)
    rw [show min n 3 = 3 by omega] at g1
    rw [e_Acts_keep, hz, if_neg (by omega), f1, Option.bind_some]
    dsimp only
    have f4a : ρ 161 3 = ((p ((3 + 1) % 4) : Nat) : Int) := f4'.1
    have f4b : zio 8 ((p ((3 + 1) % 4) : Nat) : Int) = true := zio8 f4'.2
    simp only [f3, show Int.toNat 3 = 3 from rfl, f4a, f4b]
    exact g1
  · obtain ⟨σ', g1, g2, g3⟩ := go σ p (fun i => if i = n then d else D i) (fun i => i) (fun _ _ _ => rfl) (by rw [hz]; omega) hp (fun i hi => ⟨by omega, rfl, if_neg (by omega), by rw [if_neg h4]⟩) (if_pos (by omega))
    refine ⟨σ', ?_, g2, g3⟩
    have f4' := hp.1 n (by omega)
    rw [show min n 3 = n by omega] at g1
    rw [e_Acts_keep, hz, if_pos (by omega), show Int.toNat (n : Int) = n from rfl, f4'.1, if_pos (by rw [zio8 f4'.2, zin_t (by omega) (by omega)]; rfl)]
    exact g1
/-- the reference keeps, and writes the row that was over it -/
theorem m_over_l {n : Nat} {x3 : Int} (hn : n < 4) (h23 : τ 0 23 = ((n + 1 : Nat) : Int)) : ∀ (r i : Nat) (σ : zH), i + r = 2490 → (∀ j, j ≠ 22 → σ j = τ j) → (∀ q, ¬ (2490 * n ≤ q ∧ q < 2490 * n + 2490) → σ 22 q = τ 22 q) → (∀ q, q < i → σ 22 (2490 * n + q) = τ 23 q) → ∃ σ', f_M_daybook_235 σ 1 x3 (i : Int) = some (σ', x3) ∧ (∀ j, j ≠ 22 → σ' j = τ j) ∧ (∀ q, ¬ (2490 * n ≤ q ∧ q < 2490 * n + 2490) → σ' 22 q = τ 22 q) ∧ ∀ q, q < 2490 → σ' 22 (2490 * n + q) = τ 23 q
  | 0, i, σ, h, s1, s2, s3 => ⟨σ, by rw [e_M_daybook_235, if_pos (by omega), if_pos (show ¬ (1 : Int) = 0 by decide)], s1, s2, fun q hq => s3 q (by omega)⟩
  | r + 1, i, σ, h, s1, s2, s3 => by
    obtain ⟨σ', h1, h2, h3⟩ := m_over_l (x3 := x3) hn h23 r (i + 1) (zset σ 22 (2490 * n + i) (σ 23 i)) (by omega) (fun j hj => by rw [zk hj]; exact s1 j hj) (fun q hq => by rw [zi (by omega)]; exact s2 q hq) (fun q hq => by
      by_cases hqi : q = i
      · rw [hqi, zs, s1 23 (by decide)]
      · rw [zi (by omega)]; exact s3 q (by omega))
    refine ⟨σ', ?_, h2, h3⟩
    rw [e_M_daybook_235, if_neg (by omega), if_pos (zin_t (by omega) (by omega)), s1 0 (by decide), h23, w32_id (x := ((n + 1 : Nat) : Int) - 1) (by omega) (by omega), w32_id (x := 2490 * (((n + 1 : Nat) : Int) - 1)) (by omega) (by omega), w32_id (x := 2490 * (((n + 1 : Nat) : Int) - 1) + (i : Int)) (by omega) (by omega), if_pos (zin_t (by omega) (by omega)), w32_s (by omega), ← h1]
    rw [show Int.toNat (2490 * (((n + 1 : Nat) : Int) - 1) + (i : Int)) = 2490 * n + i by omega]
    rfl
theorem m_over {n : Nat} {x3 : Int} (hn : n ≤ 4) (h23 : τ 0 23 = (n : Int)) : ∃ τ', ((f_M_keep τ).bind fun r3 => f_M_daybook_235 r3.1 1 x3 0) = some (τ', x3) ∧ KeptM τ τ' (fun j => τ 23 (j - 288)) ∧ (∀ j, j ≠ 22 → j ≠ 0 → τ' j = τ j) ∧ ∀ i, i ≠ 23 → τ' 0 i = τ 0 i := by
  obtain ⟨τ1, m1, m2, m3, m4, m5, m6⟩ := m_keep hn h23
  obtain ⟨τ2, g1, g2, g3, g4⟩ := m_over_l (τ := τ1) (n := min n 3) (x3 := x3) (by omega) m4 2490 0 τ1 rfl (fun _ _ => rfl) (fun _ _ => rfl) (fun q hq => absurd hq (Nat.not_lt_zero q))
  have g1' : f_M_daybook_235 τ1 1 x3 0 = some (τ2, x3) := g1
  rw [m1, Option.bind_some, g1']
  refine ⟨τ2, rfl, fun n' hn' _ => ?_, fun j j22 j0 => by rw [g2 j j22, m2 j j22 j0], fun i hi => by rw [g2 0 (by decide), m3 i hi]⟩
  have : n' = n := by omega
  subst this
  refine ⟨by rw [g2 7 (by decide), m2 7 (by decide) (by decide)], by rw [g2 0 (by decide), m4], fun q hq => ?_, fun q hq => ?_⟩
  · rw [g4 q hq, m2 23 (by decide) (by decide)]
    exact congrArg (τ 23) (by omega)
  · rw [g3 q (by omega), m6 q hq]
end G68
