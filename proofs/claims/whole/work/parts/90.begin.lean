/-! A TEXT that was read leaves what is told; a stream begins anew -/
section G65
variable {σ τ σ' τ' σ1 τ1 : zH} {k q d L a n : Nat} {b : Nat → Int}
/-- a text was read, and nothing else came of it -/
theorem Rl.read (h : Rl σ τ k q d) (hσ : ∀ j i, ¬ SC j i → ¬ (j = 64 ∧ i = 1) → ¬ (j = 0 ∧ i = 17) → ¬ (832 - k ≤ j ∧ j < 832 - k + 64) → ¬ (1056 - q ≤ j ∧ j < 1056 - q + 4) → σ' j i = σ j i) (hτ : ∀ j i, ¬ SM j i → ¬ (j = 0 ∧ (i = 2 ∨ i = 15)) → τ' j i = τ j i) (h1 : σ' 64 1 = 0) (h2 : τ' 0 2 = 0) (h3 : σ' 0 17 = τ' 0 15) : Rl σ' τ' k q d := by
  have hk := h.land.1
  have hq := h.rule.1
  unfold isLand at hk
  unfold isRule at hq
  have cf : ∀ j, (96 ≤ j ∧ j ≤ 108) ∨ (160 ≤ j ∧ j ≤ 300) ∨ (k ≤ j ∧ j < k + 64) ∨ (q ≤ j ∧ j < q + 4) ∨ 640 ≤ j ∨ j = 7 ∨ j = 10 ∨ j = 65 → σ' j = σ j := fun j hj => funext (fun i => hσ j i (by unfold SC; omega) (by omega) (by omega) (by omega) (by omega))
  have c0 : ∀ i, i ≠ 17 → σ' 0 i = σ 0 i := fun i hi => hσ 0 i (by unfold SC; omega) (by omega) (by omega) (by omega) (by omega)
  have mf : ∀ j, j = 2 ∨ j = 7 ∨ j = 11 ∨ j = 22 ∨ j = 26 ∨ j = 35 ∨ 44 ≤ j → τ' j = τ j := fun j hj => funext (fun i => hτ j i (by unfold SM; omega) (by omega))
  have m0 : ∀ i, i = 23 ∨ i = 27 ∨ i = 31 ∨ i = 32 ∨ i = 35 → τ' 0 i = τ 0 i := fun i hi => hτ 0 i (by unfold SM; omega) (by omega)
  have c320 : ∀ i, 4 ≤ i → σ' 320 i = σ 320 i := fun i hi => hσ 320 i (by unfold SC; omega) (by omega) (by omega) (by omega) (by omega)
  have e7 : τ' 7 = τ 7 := mf 7 (by omega)
  refine ⟨?_, ?_, ?_, ?_, ?_, ?_, fun f hf => ?_, ?_, ?_, ?_, ?_, ?_, ?_, ?_⟩
  · rw [c0 11 (by omega), c0 13 (by omega)]; exact h.land
  · rw [c0 12 (by omega), c0 14 (by omega)]; exact h.rule
  · rw [e7]; exact h.hL.frame (fun i hi => cf _ (by omega))
  · rw [e7]; exact h.hw
  · rw [e7]; exact h.hN.frame (fun j j0 j1 => cf j (by omega)) (fun _ _ => rfl) (fun j hj => hτ 10 j (by unfold SM; omega) (by omega)) h.hw.1
  · rw [e7]; exact h.hS.keepd h.hw (fun _ _ => rfl) (fun j j0 j1 => cf j (by omega))
  · rw [e7]; exact (h.hH f hf).congr (by rw [cf _ (by omega)]) rfl (fun _ _ => rfl)
  · exact h.hA.next h.hw (fun j j0 j1 => cf j (by omega)) (mf 22 (by omega)) (m0 23 (by omega)) (fun j _ => by rw [e7]) (Nat.le_refl d) (fun t f _ _ _ => by rw [e7])
  · exact ⟨0, by omega, h1, h2, fun i hi => by omega⟩
  · have := h.hM
    unfold MisR at this ⊢
    rw [c0 15 (by omega), c0 16 (by omega), cf 7 (by omega), cf 10 (by omega), m0 27 (by omega), m0 31 (by omega), m0 32 (by omega), m0 35 (by omega), mf 26 (by omega), mf 35 (by omega), c320 4 (by omega), c320 5 (by omega), c320 6 (by omega), c320 7 (by omega), c320 8 (by omega)]
    exact ⟨h3, this.2⟩
  · rw [e7]; exact h.hR.frame (fun j j0 j1 => cf j (by omega))
  · exact h.hI.1.frame (fun j j0 j1 => cf j (by omega)) (mf 44 (by omega)) (mf 45 (by omega)) (mf 46 (by omega))
  · exact h.hI.2.frame (fun j j0 j1 => cf j (by omega)) (mf 44 (by omega)) (mf 45 (by omega)) (mf 46 (by omega))
  · exact h.hV.frame (mf 11 (by omega))
/-- a row filled -/
def fl (σ : zH) (k n : Nat) (v : Int) : zH := fun j i => if j = k ∧ i < n then v else σ j i
theorem fl_ne {j : Nat} {v : Int} (h : j ≠ k) : fl σ k n v j = σ j := funext (fun _ => if_neg (fun q => h q.1))
theorem fl_eq {i : Nat} {v : Int} (h : i < n) : fl σ k n v k i = v := if_pos ⟨rfl, h⟩
theorem c_fill_l {v : Int} (hn : n ≤ 1000) : ∀ (r i : Nat) (σ : zH), i + r = n → ∃ σ', f_J_fill_5 σ n k v (i : Int) (Int.ofNat n) = some (σ', 0) ∧ (∀ j y, ¬ (j = k ∧ i ≤ y ∧ y < n) → σ' j y = σ j y) ∧ ∀ y, i ≤ y → y < n → σ' k y = v
  | 0, i, σ, hi => ⟨σ, by rw [e_J_fill_5, if_pos (show (Int.ofNat n) ≤ (i : Int) by show (n : Int) ≤ i; omega)], fun _ _ _ => rfl, fun y h1 h2 => by omega⟩
  | r + 1, i, σ, hi => by
    obtain ⟨σ', h1, h2, h3⟩ := c_fill_l (v := v) hn r (i + 1) (zset σ k i v) (by omega)
    refine ⟨σ', ?_, fun j y hy => ?_, fun y h4 h5 => ?_⟩
    · rw [e_J_fill_5, if_neg (show ¬ (Int.ofNat n) ≤ (i : Int) by show ¬ (n : Int) ≤ i; omega), if_pos (zin_t (by omega) (by omega)), w32_s (by omega)]
      exact h1
    · rw [h2 j y (by omega)]
      by_cases hj : j = k
      · subst hj; rw [zi (by omega)]
      · rw [zk hj]
    · by_cases hyi : y = i
      · subst hyi
        rw [h2 k y (by omega), zs]
      · exact h3 y (by omega) h5
theorem c_jfill {v : Int} (hn : n ≤ 1000) : f_J_fill σ n k v = some (fl σ k n v, 0) := by
  rw [e_J_fill]
  obtain ⟨σ', h1, h2, h3⟩ := c_fill_l (k := k) (v := v) hn n 0 σ (by omega)
  have e : σ' = fl σ k n v := by
    funext j y
    by_cases hj : j = k ∧ y < n
    · rw [hj.1, fl_eq hj.2]; exact h3 y (Nat.zero_le y) hj.2
    · rw [h2 j y (fun q => hj ⟨q.1, q.2.2⟩)]
      exact (if_neg hj).symm
  rw [← e]
  exact h1
/-- a stream begins -/
theorem c_begin {E : Nat} (hE : E ≤ 6) (hb2 : b 2 = (E : Int)) (hw : wfL b) (hb : ∀ j, 288 ≤ j → j < 2778 → b j = 0) : ∃ σ', f_Stream_begin σ 96 (E : Int) = some (σ', 0) ∧ StrR σ' 96 b 0 ∧ ∀ j, ¬ (96 ≤ j ∧ j ≤ 107) → σ' j = σ j := by
  have hsh : w32 (zshl 1 (E : Int) - 1) = ((2 ^ E - 1 : Nat) : Int) := by
    have hE' : E = 0 ∨ E = 1 ∨ E = 2 ∨ E = 3 ∨ E = 4 ∨ E = 5 ∨ E = 6 := by omega
    rw [zshl_1 (by omega)]
    rcases hE' with rfl | rfl | rfl | rfl | rfl | rfl | rfl <;> rfl
  have hp : 2 ^ E ≤ 64 := by
    have : 2 ^ E ≤ 2 ^ 6 := Nat.pow_le_pow_right (by decide) hE
    omega
  have hp1 : 1 ≤ 2 ^ E := Nat.one_le_two_pow
  rw [e_Stream_begin]
  simp only [c_jfill (show (72 : Nat) ≤ 1000 by decide), c_jfill (show (6 : Nat) ≤ 1000 by decide), Option.bind_some]
  rw [hsh]
  refine ⟨_, rfl, ?_, fun j hj => ?_⟩
  · have c0 := hw.1.1
    have c1 := hw.1.2.1
    have c4 := hw.1.2.2.2.2.1
    have zj : ∀ (j : Nat) (ρ : zH) (v0 v1 v2 v3 : Int), j ≠ 96 → zset (zset (zset (zset ρ 96 12 v0) 96 13 v1) 96 14 v2) 96 15 v3 j = ρ j := fun j ρ v0 v1 v2 v3 hj => by rw [zk hj, zk hj, zk hj, zk hj]
    refine ⟨by omega, by rw [hb 288 (by omega) (by omega)]; rfl, by rw [zi (by decide), zi (by decide), zi (by decide), zs]; rfl, ⟨2 ^ E - 1, 0, by rw [zi (by decide), zi (by decide), zs], by rw [hb 293 (by omega) (by omega)]; rfl, by omega, by omega, fun e he => ?_⟩, ⟨by rw [zi (by decide), zs, hb 289 (by omega) (by omega)], by rw [hb 289 (by omega) (by omega)]; omega, by rw [hb 289 (by omega) (by omega)]; omega⟩, ⟨by rw [zs, hb 290 (by omega) (by omega)], by rw [hb 290 (by omega) (by omega)]; omega, by rw [hb 290 (by omega) (by omega)]; omega⟩, ⟨fun r p r0 r1 p0 p1 => ?_, fun r j r0 r1 j0 j1 _ => ?_⟩, ⟨fun e e0 e1 => ?_, fun e e0 e1 => ?_, ?_, ?_⟩, fun t t0 t1 => ⟨⟨?_, ?_, ?_, ?_, ?_, ?_, ?_⟩, fun d' hd' => absurd hd' (Nat.not_lt_zero d')⟩⟩
    · rw [hb2] at he
      rw [Nat.testBit_two_pow_sub_one, Nat.zero_testBit]
      constructor
      · intro _ q; cases q
      · intro _; exact decide_eq_true (by omega)
    · have hr := hw.2.2.1 r r0 r1
      have i1 := cix_in (D := ((0 : Nat) : Int)) (r := r) hr.1.1 hr.1.2 p0 p1
      rw [zj _ _ _ _ _ _ (by decide), fl_ne (by decide), fl_ne (by decide), fl_ne (by decide), fl_ne (by decide), fl_ne (by decide), fl_ne (by decide), fl_ne (by decide), fl_ne (by decide), fl_ne (by decide), fl_eq (by omega), hb _ (by omega) (by omega)]
      omega
    · rw [zj _ _ _ _ _ _ (by decide), fl_ne (by decide), fl_ne (by decide), fl_ne (by decide), fl_ne (by decide), fl_ne (by decide), fl_ne (by decide), fl_ne (by decide), fl_ne (by decide), fl_ne (by decide), fl_eq (by omega), hb _ (by omega) (by omega)]
      omega
    · rw [zj _ _ _ _ _ _ (by decide), zj _ _ _ _ _ _ (by decide), fl_ne (by decide), fl_ne (by decide), fl_ne (by decide), fl_ne (by decide), fl_ne (by decide), fl_ne (by decide), fl_ne (by decide), fl_ne (by decide), fl_eq (by omega), fl_ne (by decide), fl_ne (by decide), fl_ne (by decide), fl_ne (by decide), fl_ne (by decide), fl_ne (by decide), fl_ne (by decide), fl_eq (by omega), hb _ (by omega) (by omega), hb _ (by omega) (by omega)]
      have h0 : (if e < ((0 : Nat) : Int) then ((0 : Nat) : Int) + 1 else ((0 : Nat) : Int) + 1 - 1) = 0 := if_neg (by omega)
      rw [h0]
      omega
    · rw [zj _ _ _ _ _ _ (by decide), zj _ _ _ _ _ _ (by decide), fl_ne (by decide), fl_ne (by decide), fl_ne (by decide), fl_ne (by decide), fl_ne (by decide), fl_ne (by decide), fl_ne (by decide), fl_ne (by decide), fl_eq (by omega), fl_ne (by decide), fl_ne (by decide), fl_ne (by decide), fl_ne (by decide), fl_ne (by decide), fl_ne (by decide), fl_ne (by decide), fl_eq (by omega)]
      exact ⟨rfl, rfl⟩
    · unfold sum6
      rw [zj _ _ _ _ _ _ (by decide), fl_ne (by decide), fl_ne (by decide), fl_ne (by decide), fl_ne (by decide), fl_ne (by decide), fl_ne (by decide), fl_ne (by decide), fl_ne (by decide), fl_eq (by omega), fl_eq (by omega), fl_eq (by omega), fl_eq (by omega), fl_eq (by omega), fl_eq (by omega), hb _ (by omega) (by omega)]
      rfl
    · unfold sum6
      rw [zj _ _ _ _ _ _ (by decide), fl_ne (by decide), fl_ne (by decide), fl_ne (by decide), fl_ne (by decide), fl_ne (by decide), fl_ne (by decide), fl_ne (by decide), fl_eq (by omega), fl_eq (by omega), fl_eq (by omega), fl_eq (by omega), fl_eq (by omega), fl_eq (by omega), hb _ (by omega) (by omega)]
      rfl
    · rw [zj _ _ _ _ _ _ (by decide), fl_ne (by decide), fl_ne (by decide), fl_ne (by decide), fl_ne (by decide), fl_ne (by decide), fl_ne (by decide), fl_eq (by omega)]; rfl
    · rw [zj _ _ _ _ _ _ (by decide), fl_ne (by decide), fl_ne (by decide), fl_ne (by decide), fl_ne (by decide), fl_ne (by decide), fl_eq (by omega)]; rfl
    · rw [zj _ _ _ _ _ _ (by decide), fl_ne (by decide), fl_ne (by decide), fl_ne (by decide), fl_ne (by decide), fl_eq (by omega)]; rfl
    · rw [zj _ _ _ _ _ _ (by decide), fl_ne (by decide), fl_ne (by decide), fl_ne (by decide), fl_eq (by omega)]; rfl
    · rw [zj _ _ _ _ _ _ (by decide), fl_ne (by decide), fl_ne (by decide), fl_eq (by omega)]; rfl
    · rw [zj _ _ _ _ _ _ (by decide), fl_ne (by decide), fl_eq (by omega)]; rfl
    · rw [zj _ _ _ _ _ _ (by decide), fl_eq (by omega)]; rfl
  · rw [zk (by omega), zk (by omega), zk (by omega), zk (by omega), fl_ne (by omega), fl_ne (by omega), fl_ne (by omega), fl_ne (by omega), fl_ne (by omega), fl_ne (by omega), fl_ne (by omega), fl_ne (by omega), fl_ne (by omega), fl_ne (by omega)]
-- the reference's rows at the end
theorem m_ctry_s : ∀ (r x : Nat) (σ : zH), x + r = 2959 → (∀ j, j ≠ 7 → σ j = τ j) → (∀ y, y < x → σ 7 y = if y < 288 then τ 8 y else 0) → ∃ σ', f_M_country_93 σ (x : Int) = f_M_country_131 σ' 0 ∧ (∀ j, j ≠ 7 → σ' j = τ j) ∧ ∀ y, y < 2959 → σ' 7 y = if y < 288 then τ 8 y else 0
  | 0, x, σ, hx, g1, g3 => ⟨σ, by rw [e_M_country_93, if_pos (by omega)], g1, fun y hy => g3 y (by omega)⟩
  | r + 1, x, σ, hx, g1, g3 => by
    obtain ⟨σ', y1, y2⟩ := m_ctry_s r (x + 1) (zset σ 7 x (if x < 288 then τ 8 x else 0)) (by omega) (fun j hj => by rw [zk hj]; exact g1 j hj) (fun y hy => by
      by_cases hyx : y = x
      · rw [hyx, zs]
      · rw [zi (by omega)]; exact g3 y (by omega))
    refine ⟨σ', ?_, y2⟩
    rw [e_M_country_93, if_neg (by omega)]
    by_cases h2 : x < 288
    · rw [if_neg (by omega), if_pos (zin_t (by omega) (by omega)), if_pos (zin_t (by omega) (by omega)), w32_s (by omega), ← y1, if_pos h2, show Int.toNat (x : Int) = x from rfl, g1 8 (by decide)]
    · rw [if_pos (by omega), if_pos (zin_t (by omega) (by omega)), w32_s (by omega), ← y1, if_neg h2, show Int.toNat (x : Int) = x from rfl]
theorem m_ctry_n : ∀ (r x : Nat) (σ : zH), x + r = 30 → (∀ j, j ≠ 10 → σ j = τ j) → (∀ y, 30 ≤ y → σ 10 y = τ 10 y) → (∀ y, y < x → σ 10 y = τ 10 (30 + y)) → ∃ σ', f_M_country_131 σ (x : Int) = some (zset σ' 0 23 0, τ 0 19) ∧ (∀ j, j ≠ 10 → σ' j = τ j) ∧ (∀ y, y < 30 → σ' 10 y = τ 10 (30 + y))
  | 0, x, σ, hx, g1, g2, g3 => ⟨σ, by rw [e_M_country_131, if_pos (by omega), zi (by decide), g1 0 (by decide)], g1, fun y hy => g3 y (by omega)⟩
  | r + 1, x, σ, hx, g1, g2, g3 => by
    obtain ⟨σ', y1, y2⟩ := m_ctry_n r (x + 1) (zset σ 10 x (σ 10 (30 + x))) (by omega) (fun j hj => by rw [zk hj]; exact g1 j hj) (fun y hy => by rw [zi (by omega)]; exact g2 y hy) (fun y hy => by
      by_cases hyx : y = x
      · rw [hyx, zs, g2 _ (by omega)]
      · rw [zi (by omega)]; exact g3 y (by omega))
    refine ⟨σ', ?_, y2⟩
    rw [e_M_country_131, if_neg (by omega), w32_id (x := 30 + (x : Int)) (by omega) (by omega), if_pos (zin_t (by omega) (by omega)), if_pos (zin_t (by omega) (by omega)), w32_s (by omega), ← y1, show Int.toNat (30 + (x : Int)) = 30 + x by omega, show Int.toNat (x : Int) = x from rfl]
theorem m_ctry_0 : ∀ (r x : Nat) (σ : zH), x + r = 288 → (∀ j, j ≠ 8 → σ j = τ j) → (∀ y, y < x → σ 8 y = 0) → ∃ σ', f_M_country_24 σ (x : Int) = (f_M_next σ').bind (fun r1 => f_M_country_48 r1.1) ∧ (∀ j, j ≠ 8 → σ' j = τ j) ∧ ∀ y, y < 288 → σ' 8 y = 0
  | 0, x, σ, hx, g1, g3 => ⟨σ, by rw [e_M_country_24, if_pos (by omega)], g1, fun y hy => g3 y (by omega)⟩
  | r + 1, x, σ, hx, g1, g3 => by
    obtain ⟨σ', y1, y2⟩ := m_ctry_0 r (x + 1) (zset σ 8 x 0) (by omega) (fun j hj => by rw [zk hj]; exact g1 j hj) (fun y hy => by
      by_cases hyx : y = x
      · rw [hyx, zs]
      · rw [zi (by omega)]; exact g3 y (by omega))
    refine ⟨σ', ?_, y2⟩
    rw [e_M_country_24, if_neg (by omega), if_pos (zin_t (by omega) (by omega)), w32_s (by omega), ← y1, show Int.toNat (x : Int) = x from rfl]
end G65
