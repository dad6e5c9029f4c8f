/-! A COUNTRY of the class beside one of the reference: what is asked of it -/
section G2
def LandR (σ : zH) (k : Nat) (a : Nat → Int) : Prop :=
  (σ k 13 = a 0 ∧ σ k 14 = a 1 ∧ σ k 15 = a 2 ∧ σ k 16 = a 3 ∧ σ k 17 = a 4 ∧ σ k 18 = a 5) ∧
  (∀ t : Int, 0 ≤ t → t < a 0 → σ (k + 2) (Int.toNat t) = a (Int.toNat (6 + t))) ∧
  (∀ r : Int, 0 ≤ r → r < a 1 → (σ (k + 3) (Int.toNat r) = a (Int.toNat (16 + r)) ∧ σ (k + 4) (Int.toNat r) = a (Int.toNat (24 + r)) ∧ σ (k + 5) (Int.toNat r) = a (Int.toNat (32 + r)) ∧ σ (k + 6) (Int.toNat r) = a (Int.toNat (40 + r))) ∧ ∀ j : Int, 0 ≤ j → j < a (Int.toNat (40 + r)) → σ (k + 7) (Int.toNat (r * 12 + j)) = a (Int.toNat (48 + 12 * r + j))) ∧
  (∀ e : Int, 0 ≤ e → e < a 2 → (σ (k + 8) (Int.toNat e) = a (Int.toNat (144 + e)) ∧ σ (k + 9) (Int.toNat e) = a (Int.toNat (150 + e))) ∧ ∀ t : Int, 0 ≤ t → t < 10 → σ (k + 10) (Int.toNat (e * 10 + t)) = if a (Int.toNat (156 + 10 * e + t)) = 0 then t else a (Int.toNat (156 + 10 * e + t)) - 2) ∧
  (∀ t : Int, 0 ≤ t → t < a 4 → (σ (k + 11) (Int.toNat t) = a (Int.toNat (216 + t)) ∧ σ (k + 12) (Int.toNat t) = a (Int.toNat (222 + t))) ∧ ∃ N : Nat, N < 1024 ∧ σ (k + 13) (Int.toNat t) = (N : Int) ∧ ∀ m : Nat, m < 10 → (N.testBit m = true ↔ a (Int.toNat (228 + 10 * t + m)) = 1))
theorem LandR.frame {σ σ' : zH} {k : Nat} {a : Nat → Int} (h : LandR σ k a) (hf : ∀ i, i ≤ 13 → σ' (k + i) = σ (k + i)) : LandR σ' k a := by
  have h0 := hf 0 (by omega)
  rw [Nat.add_zero] at h0
  unfold LandR
  rw [h0, hf 2 (by omega), hf 3 (by omega), hf 4 (by omega), hf 5 (by omega), hf 6 (by omega), hf 7 (by omega), hf 8 (by omega), hf 9 (by omega), hf 10 (by omega), hf 11 (by omega), hf 12 (by omega), hf 13 (by omega)]
  exact h
variable {σ τ : zH} {k : Nat} {a : Nat → Int}
theorem c_hasTerm (h : LandR σ k a) (t : Int) : f_Country_hasTerm σ k t = some (σ, if 0 ≤ t ∧ t < a 0 then 1 else 0) := by
  rw [e_Country_hasTerm, h.1.1]
  by_cases h1 : t < 0
  · rw [if_pos h1, if_neg (by omega)]
  · by_cases h2 : a 0 ≤ t
    · rw [if_neg h1, if_pos h2, if_neg (by omega)]
    · rw [if_neg h1, if_neg h2, if_pos (by omega)]
theorem c_hasReach (h : LandR σ k a) (t : Int) : f_Country_hasReach σ k t = some (σ, if 0 ≤ t ∧ t < a 1 then 1 else 0) := by
  rw [e_Country_hasReach, h.1.2.1]
  by_cases h1 : t < 0
  · rw [if_pos h1, if_neg (by omega)]
  · by_cases h2 : a 1 ≤ t
    · rw [if_neg h1, if_pos h2, if_neg (by omega)]
    · rw [if_neg h1, if_neg h2, if_pos (by omega)]
theorem c_hasEditor (h : LandR σ k a) (t : Int) : f_Country_hasEditor σ k t = some (σ, if 0 ≤ t ∧ t < a 2 then 1 else 0) := by
  rw [e_Country_hasEditor, h.1.2.2.1]
  by_cases h1 : t < 0
  · rw [if_pos h1, if_neg (by omega)]
  · by_cases h2 : a 2 ≤ t
    · rw [if_neg h1, if_pos h2, if_neg (by omega)]
    · rw [if_neg h1, if_neg h2, if_pos (by omega)]
theorem c_hasTown (h : LandR σ k a) (t : Int) : f_Country_hasTown σ k t = some (σ, if 0 ≤ t ∧ t < a 4 then 1 else 0) := by
  rw [e_Country_hasTown, h.1.2.2.2.2.1]
  by_cases h1 : t < 0
  · rw [if_pos h1, if_neg (by omega)]
  · by_cases h2 : a 4 ≤ t
    · rw [if_neg h1, if_pos h2, if_neg (by omega)]
    · rw [if_neg h1, if_neg h2, if_pos (by omega)]
theorem c_hasPlace (h : LandR σ k a) (hw : wfL a) (r p : Int) : f_Country_hasPlace σ k r p = some (σ, if (0 ≤ r ∧ r < a 1) ∧ 0 ≤ p ∧ p < a (Int.toNat (16 + r)) then 1 else 0) := by
  obtain ⟨⟨h1, h2, h3, h4, h5, h6⟩, -⟩ := hw
  rw [e_Country_hasPlace, c_hasReach h]
  simp only [Option.bind_some, if10]
  by_cases hc : 0 ≤ r ∧ r < a 1
  · have h9 := (h.2.2.1 r hc.1 hc.2).1.1
    rw [if_neg (fun q => q hc)]
    by_cases hp : p < 0
    · rw [if_pos hp, if_neg (by omega)]
    · rw [if_neg hp, if_pos (zin_t (by omega) (by omega)), h9]
      by_cases hq : a (Int.toNat (16 + r)) ≤ p
      · rw [if_pos hq, if_neg (by omega)]
      · rw [if_neg hq, if_pos (by omega)]
  · rw [if_pos hc, if_neg (fun q => hc q.1)]
theorem c_madeBy (h : LandR σ k a) (hw : wfL a) {e t : Int} (h0 : 0 ≤ e) (h1 : e < a 2) (h2 : 0 ≤ t) (h3 : t < 10) : f_Country_madeBy σ k e t = some (σ, if a (Int.toNat (156 + 10 * e + t)) = 0 then t else a (Int.toNat (156 + 10 * e + t)) - 2) := by
  obtain ⟨⟨c1, c2, c3, c4, c5, c6⟩, -⟩ := hw
  rw [e_Country_madeBy]
  simp (disch := omega) only [w32_id, zin_t, if_true]
  rw [(h.2.2.2.1 e h0 h1).2 t h2 h3]
theorem c_saidOn (h : LandR σ k a) (hw : wfL a) {r d : Int} (h0 : 0 ≤ r) (h1 : r < a 1) (hd : 0 ≤ d) : f_Country_saidOn σ k r d = some (σ, if 0 < a (Int.toNat (40 + r)) then a (Int.toNat (48 + 12 * r + d % a (Int.toNat (40 + r)))) else -1) := by
  have hr := hw.2.2.1 r h0 h1
  obtain ⟨⟨c1, c2, c3, c4, c5, c6⟩, -⟩ := hw
  have h9 := h.2.2.1 r h0 h1
  rw [e_Country_saidOn, if_pos (zin_t h0 (by omega)), h9.1.2.2.2]
  by_cases hs : a (Int.toNat (40 + r)) ≤ 0
  · rw [if_pos hs, if_neg (by omega)]
  · have e : Int.tmod d (a (Int.toNat (40 + r))) = d % a (Int.toNat (40 + r)) := Int.tmod_eq_emod_of_nonneg hd
    have l1 := Int.emod_nonneg d (show a (Int.toNat (40 + r)) ≠ 0 by omega)
    have l2 := Int.emod_lt_of_pos d (show 0 < a (Int.toNat (40 + r)) by omega)
    rw [if_neg hs, if_pos (show 0 < a (Int.toNat (40 + r)) by omega)]
    simp (disch := omega) only [w32_id, zin_t, znz_t, if_true, e]
    rw [h9.2 _ l1 l2]
theorem c_isAwake {ks n e : Nat} (ha : σ ks 13 = (n : Int)) (hn : n < 2147483648) (he : e < 32) : f_Stream_isAwake σ ks (e : Int) = some (σ, if n.testBit e then 1 else 0) := by
  rw [e_Stream_isAwake, ha, zbit hn he]
  by_cases h : n.testBit e = true
  · simp [h]
  · simp [h]
/-- days from a place to a town -/
theorem q_flows (h : LandR σ k a) (hw : wfL a) (hτ : τ 7 = a) {t : Int} (h0 : 0 ≤ t) (h1 : t < a 4) : ∀ (n : Nat) (q d s : Int), -1 ≤ q → q < a 1 → q + 1 ≤ n → 0 ≤ s → s + q + 1 ≤ 8 → -1000 ≤ d → d ≤ 9 * s → ∃ r, f_Country_daysBetween_10 σ k t d q s = some (σ, r) ∧ f_M_flows_31 τ t d q = some (τ, r) := by
  have hwt := hw.2.2.2.2.2.2.1 t h0 h1
  have hr := hw.2.2.1
  obtain ⟨⟨c1, c2, c3, c4, c5, c6⟩, -⟩ := hw
  have h9 := (h.2.2.2.2 t h0 h1).1
  intro n
  induction n with
  | zero =>
    intro q d s g1 g2 g3 g4 g5 g6 g7
    have : q = -1 := by omega
    subst this
    refine ⟨-1, ?_, ?_⟩
    · rw [e_Country_daysBetween_10]
      by_cases hs : 8 ≤ s
      · rw [if_pos hs]
      · rw [if_neg hs, if_pos rfl]
    · rw [e_M_flows_31, if_pos (by decide)]
  | succ n ih =>
    intro q d s g1 g2 g3 g4 g5 g6 g7
    rw [e_Country_daysBetween_10, e_M_flows_31, hτ]
    by_cases hq : q < 0
    · have : q = -1 := by omega
      subst this
      refine ⟨-1, ?_, ?_⟩
      · by_cases hs : 8 ≤ s
        · rw [if_pos hs]
        · rw [if_neg hs, if_pos rfl]
      · rw [if_pos (by decide)]
    · have hq2 := hr q (by omega) g2
      have h8 := (h.2.2.1 q (by omega) g2).1
      rw [if_neg (show ¬ 8 ≤ s by omega), if_neg (show ¬ q = -1 by omega), if_neg hq]
      simp (disch := omega) only [w32_id, zin_t, if_true, ifn, h9.1, h9.2]
      by_cases hqq : q = a (Int.toNat (216 + t))
      · rw [if_pos hqq, if_pos hqq]
        by_cases hd : 0 ≤ w32 (d + a (Int.toNat (222 + t)))
        · rw [if_pos hd, if_pos hd]; exact ⟨_, rfl, rfl⟩
        · rw [if_neg hd, if_neg hd]; exact ⟨_, rfl, rfl⟩
      · rw [if_neg hqq, if_neg hqq, h8.1, h8.2.1]
        have l1 : w32 (d + a (Int.toNat (16 + q))) = d + a (Int.toNat (16 + q)) := w32_id (by omega) (by omega)
        have l2 : w32 (s + 1) = s + 1 := w32_id (by omega) (by omega)
        exact ih _ _ _ (by omega) (by omega) (by omega) (by omega) (by omega) (by omega) (by omega)
end G2
