/-! A DAY of the reference, its first half -/
section G8
variable {σ τ : zH} {k : Nat} {a : Nat → Int}
/-- what comes to the first place of a reach -/
def frs (a : Nat → Int) (r : Int) : Int := if 0 < a (Int.toNat (40 + r)) then a (Int.toNat (48 + 12 * r + a 288 % a (Int.toNat (40 + r)))) + 1 else fst' a r (a 1).toNat
theorem cls_zero {r : Int} : ∀ n : Nat, (∀ q : Nat, q < n → a (Int.toNat (24 + (q : Int))) ≠ r) → cls a r n = 0
  | 0, _ => rfl
  | n + 1, h => by
    rw [cls, cls_zero n (fun q hq => h q (by omega)), if_neg (fun q => h n (by omega) q.1)]
    rfl
theorem says_in (hw : wfL a) {r d : Int} (h0 : 0 ≤ r) (h1 : r < a 1) (hd : 0 ≤ d) (hs : 0 < a (Int.toNat (40 + r))) : 0 ≤ a (Int.toNat (48 + 12 * r + d % a (Int.toNat (40 + r)))) ∧ a (Int.toNat (48 + 12 * r + d % a (Int.toNat (40 + r)))) < a 0 :=
  hw.2.2.2.1 r _ h0 h1 (Int.emod_nonneg d (by omega)) (Int.emod_lt_of_pos d hs)
theorem frs_in (hw : wfL a) (hA : CellA a) (hd : 0 ≤ a 288) {r : Int} (h0 : 0 ≤ r) (h1 : r < a 1) : 0 ≤ frs a r ∧ frs a r ≤ a 0 := by
  unfold frs
  have hc := hw.1.2.1
  split
  · rename_i h
    have := says_in hw h0 h1 hd h
    omega
  · exact fst_in hw hA r _ (by omega)
theorem m_comesTo (hw : wfL a) (hA : CellA a) (hd : 0 ≤ a 288) {r : Int} (h0 : 0 ≤ r) (h1 : r < a 1) {b : Nat → Int} (hb : ∀ j : Nat, j < 289 → b j = a j) (hcell : ∀ j : Nat, j < 72 → τ 21 j = a (306 + j)) {σ : zH} (s1 : ∀ k, k ≠ 7 → σ k = τ k) (s2 : σ 7 = b) (s4 : 0 ≤ b 289) (s5 : b 289 ≤ 1000000) :
    ∃ σ', f_M_comesTo σ r = some (σ', frs a r) ∧ (∀ k, k ≠ 7 → σ' k = τ k) ∧ (∀ j, j ≠ 289 → σ' 7 j = b j) ∧ σ' 7 289 = b 289 + cls a r (a 1).toNat := by
  have hc := hw.1.2.1
  have hr := hw.2.2.1 r h0 h1
  have hct := hw.1.1
  have e40 : σ 7 (Int.toNat (40 + r)) = a (Int.toNat (40 + r)) := by rw [s2, hb _ (by omega)]
  rw [e_M_comesTo, w32_id (x := 40 + r) (by omega) (by omega), if_pos (zin_t (by omega) (by omega)), e40]
  by_cases hs : a (Int.toNat (40 + r)) ≤ 0
  · rw [if_pos hs]
    have hf : frs a r = fst' a r (a 1).toNat := by unfold frs; rw [if_neg (by omega)]
    rw [hf]
    exact m_comes_in hw hA (fun j hj => hb j (by omega)) hcell 8 0 σ (by omega) (by omega) s1 (fun j _ => by rw [s2]) (by rw [s2]; simp [cls]) s4 s5 (by simp [cls])
  · rw [if_neg hs]
    have hsay := says_in hw h0 h1 hd (show 0 < a (Int.toNat (40 + r)) by omega)
    have hf : frs a r = a (Int.toNat (48 + 12 * r + a 288 % a (Int.toNat (40 + r)))) + 1 := by unfold frs; rw [if_pos (by omega)]
    have l1 := Int.emod_nonneg (a 288) (show a (Int.toNat (40 + r)) ≠ 0 by omega)
    have l2 := Int.emod_lt_of_pos (a 288) (show 0 < a (Int.toNat (40 + r)) by omega)
    have e : Int.tmod (a 288) (a (Int.toNat (40 + r))) = a 288 % a (Int.toNat (40 + r)) := Int.tmod_eq_emod_of_nonneg hd
    have e288 : σ 7 288 = a 288 := by rw [s2, hb _ (by omega)]
    refine ⟨σ, ?_, s1, fun j _ => by rw [s2], ?_⟩
    · rw [e_M_saysOn, w32_id (x := 40 + r) (by omega) (by omega), e40, e288, e, if_pos (zin_t (by omega) (by omega)), if_pos (znz_t (by omega)), w32_id (x := 12 * r) (by omega) (by omega), w32_id (x := 48 + 12 * r) (by omega) (by omega), w32_id (x := 48 + 12 * r + a 288 % a (Int.toNat (40 + r))) (by omega) (by omega), if_pos (zin_t (by omega) (by omega))]
      simp only [Option.bind_some]
      rw [s2, hb _ (by omega), hf, w32_id (by omega) (by omega)]
    · rw [s2, cls_zero _ (fun q hq he => ?_), Int.add_zero]
      have := (hw.2.2.2.2.1.1 q (by omega) (by omega) (by omega)).2
      rw [he] at this
      omega
/-- the row behind the first i reaches -/
def DayRow (a : Nat → Int) (i : Nat) (b : Nat → Int) : Prop :=
  (∀ j : Nat, (j < 289 ∨ (291 ≤ j ∧ j < 306) ∨ 378 ≤ j) → b j = a j) ∧ b 289 = a 289 + clsum a (a 1).toNat i ∧ b 290 = a 290 + seac a i ∧
  (∀ r p : Int, 0 ≤ r → r < i → 0 ≤ p → p < a (Int.toNat (16 + r)) → b (Int.toNat (306 + 9 * r + p)) = if p = 0 then frs a r else a (Int.toNat (306 + 9 * r + (p - 1)))) ∧
  ∀ r p : Int, 0 ≤ r → r < 8 → 0 ≤ p → p < 9 → ((i : Int) ≤ r ∨ a (Int.toNat (16 + r)) ≤ p) → b (Int.toNat (306 + 9 * r + p)) = a (Int.toNat (306 + 9 * r + p))
/-- all places of a reach go one on -/
theorem m_shift (hw : wfL a) {r : Int} (h0 : 0 ≤ r) (h1 : r < a 1) (hcell : ∀ j : Nat, j < 72 → τ 21 j = a (306 + j)) : ∀ (n : Nat) (σ : zH), (n : Int) < a (Int.toNat (16 + r)) → (∀ k, k ≠ 7 → σ k = τ k) →
    ∃ σ', f_M_day_104 σ r (n : Int) = f_M_day_104 σ' r 0 ∧ (∀ k, k ≠ 7 → σ' k = τ k) ∧ ∀ j : Nat, σ' 7 j = if 306 + 9 * r < j ∧ (j : Int) ≤ 306 + 9 * r + n then a (j - 1) else σ 7 j
  | 0, σ, _, s1 => ⟨σ, rfl, s1, fun j => by rw [if_neg (by omega)]⟩
  | n + 1, σ, hn, s1 => by
    have hc := hw.1.2.1
    have hr := hw.2.2.1 r h0 h1
    have e21 : σ 21 (Int.toNat (9 * r + ((n + 1 : Nat) : Int) - 1)) = a (306 + Int.toNat (9 * r + ((n + 1 : Nat) : Int) - 1)) := by rw [s1 21 (by decide), hcell _ (by omega)]
    obtain ⟨σ', t1, t2, t3⟩ := m_shift hw h0 h1 hcell n (zset σ 7 (Int.toNat (306 + 9 * r + ((n + 1 : Nat) : Int))) (a (306 + Int.toNat (9 * r + ((n + 1 : Nat) : Int) - 1)))) (by omega) (fun k hk => by rw [zk hk]; exact s1 k hk)
    refine ⟨σ', ?_, t2, fun j => ?_⟩
    · rw [e_M_day_104, if_neg (by omega)]
      simp (disch := omega) only [w32_id, zin_t, if_true]
      rw [e21, ← t1, show ((n + 1 : Nat) : Int) + -1 = (n : Int) by omega]
    · rw [t3]
      by_cases hj : 306 + 9 * r < (j : Int) ∧ (j : Int) ≤ 306 + 9 * r + n
      · rw [if_pos hj, if_pos (by omega)]
      · rw [if_neg hj]
        by_cases hj2 : j = Int.toNat (306 + 9 * r + ((n + 1 : Nat) : Int))
        · subst hj2
          rw [zs, if_pos (by omega)]
          congr 1
          omega
        · rw [zi hj2, if_neg (by omega)]
set_option maxRecDepth 100000 in
theorem m_day_r (hw : wfL a) (hA : CellA a) (hd : 0 ≤ a 288) (h9 : 0 ≤ a 289 ∧ a 289 ≤ 100000) (h90 : 0 ≤ a 290 ∧ a 290 ≤ 100000) (hcell : ∀ j : Nat, j < 72 → τ 21 j = a (306 + j)) : ∀ (n i : Nat) (σ : zH), (a 1 : Int) ≤ i + n → (i : Int) ≤ a 1 → (∀ k, k ≠ 7 → σ k = τ k) → DayRow a i (σ 7) →
    ∃ σ', f_M_day_32 σ (i : Int) = f_M_day_168 σ' 0 ∧ (∀ k, k ≠ 7 → σ' k = τ k) ∧ DayRow a (a 1).toNat (σ' 7) := by
  have hc := hw.1.2.1
  intro n
  induction n with
  | zero =>
    intro i σ g1 g2 s1 s2
    have : (a 1).toNat = i := by omega
    rw [this]
    refine ⟨σ, ?_, s1, s2⟩
    rw [e_M_day_32, s2.1 1 (by omega), if_pos (by omega)]
  | succ n ih =>
    intro i σ g1 g2 s1 s2
    by_cases hi : a 1 ≤ (i : Int)
    · have : (a 1).toNat = i := by omega
      rw [this]
      refine ⟨σ, ?_, s1, s2⟩
      rw [e_M_day_32, s2.1 1 (by omega), if_pos hi]
    · have hr := hw.2.2.1 i (by omega) (by omega)
      have hcl := clsum_in (a := a) i (a 1).toNat
      have hse := seac_in (a := a) i
      have e16 : σ 7 (Int.toNat (16 + (i : Int))) = a (Int.toNat (16 + (i : Int))) := s2.1 _ (by omega)
      have e24 : σ 7 (Int.toNat (24 + (i : Int))) = a (Int.toNat (24 + (i : Int))) := s2.1 _ (by omega)
      have e21 : σ 21 (Int.toNat (9 * (i : Int) + a (Int.toNat (16 + (i : Int))) - 1)) = lst a i := by
        rw [s1 21 (by decide), hcell _ (by omega)]
        unfold lst
        congr 1
        omega
      -- from the shift on
      have go : ∀ σ1 : zH, (∀ k, k ≠ 7 → σ1 k = τ k) → (∀ j, j ≠ 290 → σ1 7 j = σ 7 j) → σ1 7 290 = a 290 + seac a (i + 1) → ∃ σ', f_M_day_104 σ1 (i : Int) (a (Int.toNat (16 + (i : Int))) - 1) = f_M_day_168 σ' 0 ∧ (∀ k, k ≠ 7 → σ' k = τ k) ∧ DayRow a (a 1).toNat (σ' 7) := by
        intro σ1 t1 t2 t3
        obtain ⟨m, hm⟩ : ∃ m : Nat, a (Int.toNat (16 + (i : Int))) - 1 = (m : Int) := ⟨(a (Int.toNat (16 + (i : Int))) - 1).toNat, by omega⟩
        obtain ⟨σ2, u1, u2, u3⟩ := m_shift hw (r := (i : Int)) (by omega) (by omega) hcell m σ1 (by omega) t1
        have b288 : ∀ j : Nat, j < 289 → σ2 7 j = a j := fun j hj => by rw [u3, if_neg (by omega), t2 j (by omega)]; exact s2.1 j (by omega)
        have b289 : σ2 7 289 = a 289 + clsum a (a 1).toNat i := by rw [u3, if_neg (by omega), t2 289 (by omega)]; exact s2.2.1
        obtain ⟨σ3, v1, v2, v3, v4⟩ := m_comesTo hw hA hd (r := (i : Int)) (by omega) (by omega) b288 hcell u2 rfl (by rw [b289]; omega) (by rw [b289]; omega)
        have hfr := frs_in hw hA hd (r := (i : Int)) (by omega) (by omega)
        rw [hm, u1, e_M_day_104, if_pos (Int.le_refl 0), v1, Option.bind_some]
        dsimp only
        rw [w32_id (x := 9 * (i : Int)) (by omega) (by omega), w32_id (x := 306 + 9 * (i : Int)) (by omega) (by omega), if_pos (zin_t (by omega) (by omega)), w32_s (by omega)]
        refine ih (i + 1) _ (by omega) (by omega) (fun k hk => by rw [zk hk]; exact v2 k hk) ⟨?_, ?_, ?_, ?_, ?_⟩
        · intro j hj
          rw [zi (by omega), v3 j (by omega), u3, if_neg (by omega), t2 j (by omega)]
          exact s2.1 j hj
        · rw [zi (by omega), v4, b289, clsum]
          omega
        · rw [zi (by omega), v3 290 (by omega), u3, if_neg (by omega), t3]
        · intro r p r0 r1 p0 p1
          by_cases hri : r = i
          · subst hri
            by_cases hp : p = 0
            · subst hp
              rw [if_pos rfl, show Int.toNat (306 + 9 * (i : Int) + 0) = Int.toNat (306 + 9 * (i : Int)) by omega, zs]
            · rw [if_neg hp, zi (by omega), v3 _ (by omega), u3, if_pos (by omega)]
              congr 1
              omega
          · have hr2 := hw.2.2.1 r r0 (by omega)
            rw [zi (by omega), v3 _ (by omega), u3, if_neg (by omega), t2 _ (by omega)]
            exact s2.2.2.2.1 r p r0 (by omega) p0 p1
        · intro r p r0 r1 p0 p1 hrp
          have hne : r = i → a (Int.toNat (16 + (i : Int))) ≤ p := by
            intro h
            rw [h] at hrp
            omega
          rw [zi (by omega), v3 _ (by omega), u3, if_neg (by omega), t2 _ (by omega)]
          exact s2.2.2.2.2 r p r0 r1 p0 p1 (by
            rcases hrp with h | h
            · exact Or.inl (by omega)
            · exact Or.inr h)
      rw [e_M_day_32, s2.1 1 (by omega), if_neg hi]
      simp (disch := omega) only [w32_id, zin_t, if_true, e16, e24, e21]
      by_cases h24 : 0 ≤ a (Int.toNat (24 + (i : Int)))
      · rw [if_pos h24]
        refine go σ s1 (fun _ _ => rfl) ?_
        rw [s2.2.2.1, seac, if_neg (by omega)]
        omega
      · rw [if_neg h24]
        by_cases hl : lst a i ≤ 0
        · rw [if_pos hl]
          refine go σ s1 (fun _ _ => rfl) ?_
          rw [s2.2.2.1, seac, if_neg (by omega)]
          omega
        · rw [if_neg hl]
          have e16' : zset σ 7 290 (w32 (σ 7 290 + 1)) 7 (Int.toNat (16 + (i : Int))) = a (Int.toNat (16 + (i : Int))) := by rw [zi (by omega)]; exact e16
          rw [e16', w32_id (x := a (Int.toNat (16 + (i : Int))) - 1) (by omega) (by omega)]
          refine go _ (fun k hk => by rw [zk hk]; exact s1 k hk) (fun j hj => zi hj) ?_
          rw [zs, s2.2.2.1, seac, if_pos (by omega), w32_id (by omega) (by omega)]
          omega
/-- the copy ahead of it -/
theorem m_day_copy : ∀ (n i : Nat) (σ : zH), 72 ≤ i + n → i ≤ 72 → (∀ k, k ≠ 21 → σ k = τ k) → (∀ j : Nat, j < i → σ 21 j = τ 7 (306 + j)) → ∃ σ', f_M_day_2 σ (i : Int) = f_M_day_32 σ' 0 ∧ (∀ k, k ≠ 21 → σ' k = τ k) ∧ ∀ j : Nat, j < 72 → σ' 21 j = τ 7 (306 + j)
  | 0, i, σ, g1, g2, s1, s2 => ⟨σ, by rw [e_M_day_2, if_pos (by omega)], s1, fun j hj => s2 j (by omega)⟩
  | n + 1, i, σ, g1, g2, s1, s2 => by
    by_cases hi : 72 ≤ (i : Int)
    · exact ⟨σ, by rw [e_M_day_2, if_pos hi], s1, fun j hj => s2 j (by omega)⟩
    · rw [e_M_day_2, if_neg hi]
      simp (disch := omega) only [w32_id, zin_t, if_true]
      have := m_day_copy n (i + 1) (zset σ 21 (Int.toNat (i : Int)) (σ 7 (Int.toNat (306 + (i : Int))))) (by omega) (by omega) (fun k hk => by rw [zk hk]; exact s1 k hk) (fun j hj => by
        by_cases hji : j = i
        · subst hji
          rw [show Int.toNat (j : Int) = j by omega, zs, s1 7 (by decide)]
          congr 1
        · rw [zi (by omega)]
          exact s2 j (by omega))
      exact this
end G8
