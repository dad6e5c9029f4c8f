/-! A DAY of the class, its first half -/
section G9
variable {σ τ : zH} {k : Nat} {a : Nat → Int}
/-- cells of a stream's own -/
def own8 (ks k : Nat) : Prop := ks ≤ k ∧ k ≤ ks + 12
def apart8 (ks k : Nat) : Prop := k + 13 < ks ∨ ks + 12 < k
theorem LandR.own {σ σ' : zH} {ks : Nat} (h : LandR σ k a) (hd : apart8 ks k) (hf : ∀ j, ¬ own8 ks j → σ' j = σ j) : LandR σ' k a :=
  h.frame (fun i hi => hf _ (fun q => by unfold own8 at q; unfold apart8 at hd; omega))
/-- what a reach says on a day, or none -/
def sayN (a : Nat → Int) (r D : Int) : Int := if 0 < a (Int.toNat (40 + r)) then a (Int.toNat (48 + 12 * r + D % a (Int.toNat (40 + r)))) else -1
/-- behind the first i reaches of the first loop -/
def Lp1 (σ0 : zH) (ks : Nat) (D : Int) (a : Nat → Int) (i : Nat) (σ : zH) : Prop :=
  (∀ j, ¬ (j = ks + 1 ∨ j = ks + 2) → σ j = σ0 j) ∧
  (∀ r : Int, 0 ≤ r → r < i → σ (ks + 2) (Int.toNat r) = lst a r - 1 ∧ σ (ks + 1) (Int.toNat (cix (a (Int.toNat (16 + r))) D r (a (Int.toNat (16 + r)) - 1))) = sayN a r D) ∧
  (∀ r p : Int, 0 ≤ r → r < a 1 → 0 ≤ p → p < a (Int.toNat (16 + r)) → ((i : Int) ≤ r ∨ p < a (Int.toNat (16 + r)) - 1) → σ (ks + 1) (Int.toNat (cix (a (Int.toNat (16 + r))) D r p)) = a (Int.toNat (306 + 9 * r + p)) - 1) ∧
  ∀ r j : Int, 0 ≤ r → r < 8 → 0 ≤ j → j < 9 → (a 1 ≤ r ∨ a (Int.toNat (16 + r)) ≤ j) → σ (ks + 1) (Int.toNat (r * 9 + j)) = -1
theorem c_lp1 {σ0 : zH} {ks : Nat} {D : Int} (h : LandR σ0 k a) (hd : apart8 ks k) (hw : wfL a) (hD : σ0 ks 12 = D) (hD0 : 0 ≤ D) (hD1 : D ≤ 1000) : ∀ (n i : Nat) (σ : zH), (a 1 : Int) ≤ i + n → (i : Int) ≤ a 1 → Lp1 σ0 ks D a i σ →
    ∃ σ', f_Stream_passDay_7 σ ks k D (i : Int) = f_Stream_passDay_75 (zset σ' ks 12 (w32 (D + 1))) ks k D 0 ∧ Lp1 σ0 ks D a (a 1).toNat σ' := by
  have hc := hw.1.2.1
  intro n
  have fin : ∀ (i : Nat) (σ : zH), a 1 ≤ (i : Int) → (i : Int) ≤ a 1 → Lp1 σ0 ks D a i σ → ∃ σ', f_Stream_passDay_7 σ ks k D (i : Int) = f_Stream_passDay_75 (zset σ' ks 12 (w32 (D + 1))) ks k D 0 ∧ Lp1 σ0 ks D a (a 1).toNat σ' := by
    intro i σ g1 g2 s
    have hL : LandR σ k a := h.own hd (fun j hj => s.1 j (fun q => hj (by unfold own8; omega)))
    have e12 : σ ks 12 = D := by rw [s.1 ks (by omega)]; exact hD
    refine ⟨σ, ?_, by rw [show (a 1).toNat = i by omega]; exact s⟩
    rw [e_Stream_passDay_7, hL.1.2.1, if_pos g1, e12]
  induction n with
  | zero => intro i σ g1 g2 s; exact fin i σ (by omega) g2 s
  | succ n ih =>
    intro i σ g1 g2 s
    by_cases hi : a 1 ≤ (i : Int)
    · exact fin i σ hi g2 s
    · have hL : LandR σ k a := h.own hd (fun j hj => s.1 j (fun q => hj (by unfold own8; omega)))
      have e12 : σ ks 12 = D := by rw [s.1 ks (by omega)]; exact hD
      have hr := hw.2.2.1 i (by omega) (by omega)
      have h8 := (hL.2.2.1 i (by omega) (by omega)).1
      have i1 := cix_in (D := D) (r := (i : Int)) hr.1.1 hr.1.2 (show 0 ≤ a (Int.toNat (16 + (i : Int))) - 1 by omega) (by omega)
      have hcell := s.2.2.1 i (a (Int.toNat (16 + (i : Int))) - 1) (by omega) (by omega) (by omega) (by omega) (Or.inl (by omega))
      have hL2 : LandR (zset σ (ks + 2) (Int.toNat (i : Int)) (σ (ks + 1) (Int.toNat (cix (a (Int.toNat (16 + (i : Int)))) D i (a (Int.toNat (16 + (i : Int))) - 1))))) k a := hL.own hd (fun j hj => zk (fun q => hj (by unfold own8; omega)))
      rw [e_Stream_passDay_7, hL.1.2.1, if_neg hi, if_pos (zin_t (by omega) (by omega)), h8.1, w32_id (x := a (Int.toNat (16 + (i : Int))) - 1) (by omega) (by omega), c_cellOf hL hw e12 hD0 hD1 (by omega) (by omega) (by omega) (by omega), Option.bind_some]
      dsimp only
      rw [if_pos (zin_t (by omega) (by omega)), if_pos (zin_t (by omega) (by omega)), c_saidOn hL2 hw (by omega) (by omega) hD0, Option.bind_some]
      dsimp only
      rw [if_pos (zin_t (by omega) (by omega)), w32_s (by omega)]
      refine ih (i + 1) _ (by omega) (by omega) ⟨?_, ?_, ?_, ?_⟩
      · intro j hj
        rw [zk (fun q => hj (Or.inl q)), zk (fun q => hj (Or.inr q))]
        exact s.1 j hj
      · intro r r0 r1
        by_cases hri : r = i
        · subst hri
          rw [zk (show ks + 2 ≠ ks + 1 by omega), zs, zs]
          refine ⟨?_, rfl⟩
          rw [hcell]
          rfl
        · have hr' := hw.2.2.1 r r0 (by omega)
          have i2 := cix_in (D := D) (r := r) hr'.1.1 hr'.1.2 (show 0 ≤ a (Int.toNat (16 + r)) - 1 by omega) (by omega)
          rw [zk (show ks + 2 ≠ ks + 1 by omega), zi (by omega), zi (by omega), zk (show ks + 1 ≠ ks + 2 by omega)]
          exact s.2.1 r r0 (by omega)
      · intro r p r0 r1 p0 p1 hrp
        have hr' := hw.2.2.1 r r0 r1
        have hne := cix_ne (D := D) hr'.1.1 hr'.1.2 hr.1.1 hr.1.2 p0 p1 (show 0 ≤ a (Int.toNat (16 + (i : Int))) - 1 by omega) (by omega) (fun q => by rw [q]) (r' := (i : Int)) (r := r) (fun q => by
          obtain ⟨q1, q2⟩ := q
          subst q1
          omega)
        have i2 := cix_in (D := D) (r := r) hr'.1.1 hr'.1.2 p0 p1
        rw [zi (by omega), zk (show ks + 1 ≠ ks + 2 by omega)]
        exact s.2.2.1 r p r0 r1 p0 p1 (by omega)
      · intro r j r0 r1 j0 j1 hj
        have hne : Int.toNat (r * 9 + j) ≠ Int.toNat (cix (a (Int.toNat (16 + (i : Int)))) D i (a (Int.toNat (16 + (i : Int))) - 1)) := by
          intro q
          have : r = i := by omega
          subst this
          omega
        rw [zi hne, zk (show ks + 1 ≠ ks + 2 by omega)]
        exact s.2.2.2 r j r0 r1 j0 j1 hj
/-- behind the first n reaches of the second loop -/
def Lp2 (σ0 : zH) (ks : Nat) (D : Int) (a : Nat → Int) (n : Nat) (σ : zH) : Prop :=
  (∀ j, ¬ (j = ks ∨ j = ks + 1 ∨ j = ks + 2) → σ j = σ0 j) ∧ (∀ j, ¬ (j = 12 ∨ j = 14 ∨ j = 15) → σ ks j = σ0 ks j) ∧ σ ks 12 = D + 1 ∧ σ ks 14 = a 289 + clsum a n (a 1).toNat ∧ σ ks 15 = a 290 + seac a n ∧
  (∀ r : Int, 0 ≤ r → r < a 1 → σ (ks + 2) (Int.toNat r) = lst a r - 1) ∧
  (∀ r p : Int, 0 ≤ r → r < a 1 → 0 ≤ p → p < a (Int.toNat (16 + r)) → σ (ks + 1) (Int.toNat (cix (a (Int.toNat (16 + r))) (D + 1) r p)) = if p = 0 then (if 0 < a (Int.toNat (40 + r)) then sayN a r D else fst' a r n - 1) else a (Int.toNat (306 + 9 * r + (p - 1))) - 1) ∧
  ∀ r j : Int, 0 ≤ r → r < 8 → 0 ≤ j → j < 9 → (a 1 ≤ r ∨ a (Int.toNat (16 + r)) ≤ j) → σ (ks + 1) (Int.toNat (r * 9 + j)) = -1
theorem lp1_lp2 {σ0 : zH} {ks : Nat} {D : Int} (hw : wfL a) (hD1 : D ≤ 1000) (hD0 : 0 ≤ D) (h14 : σ0 ks 14 = a 289) (h15 : σ0 ks 15 = a 290) (s : Lp1 σ0 ks D a (a 1).toNat σ) : Lp2 σ0 ks D a 0 (zset σ ks 12 (w32 (D + 1))) := by
  have hc := hw.1.2.1
  refine ⟨?_, ?_, ?_, ?_, ?_, ?_, ?_, ?_⟩
  · intro j hj
    rw [zk (by omega)]
    exact s.1 j (by omega)
  · intro j hj
    rw [zi (by omega), s.1 ks (by omega)]
  · rw [zs, w32_id (by omega) (by omega)]
  · rw [zi (by decide), s.1 ks (by omega), h14, clsum_0, Int.add_zero]
  · rw [zi (by decide), s.1 ks (by omega), h15]
    simp [seac]
  · intro r r0 r1
    rw [zk (show ks + 2 ≠ ks by omega)]
    exact (s.2.1 r r0 (by omega)).1
  · intro r p r0 r1 p0 p1
    have hr := hw.2.2.1 r r0 r1
    rw [zk (show ks + 1 ≠ ks by omega)]
    by_cases hp : p = 0
    · subst hp
      rw [if_pos rfl, cix_first hr.1.1, (s.2.1 r r0 (by omega)).2]
      by_cases hs : 0 < a (Int.toNat (40 + r))
      · rw [if_pos hs]
      · rw [if_neg hs]
        unfold sayN
        rw [if_neg hs]
        rfl
    · rw [if_neg hp, cix_next hr.1.1 (by omega) p1]
      exact s.2.2.1 r (p - 1) r0 r1 (by omega) (by omega) (Or.inr (by omega))
  · intro r j r0 r1 j0 j1 hj
    rw [zk (show ks + 1 ≠ ks by omega)]
    exact s.2.2.2 r j r0 r1 j0 j1 hj
end G9
