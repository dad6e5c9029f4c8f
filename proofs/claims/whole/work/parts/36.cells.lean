/-! CELLS of a stream: the places go round -/
section G6
variable {σ τ : zH} {k : Nat} {a : Nat → Int}
/-- where the term at a place is held on a day -/
def cix (len D r p : Int) : Int := r * 9 + (if 0 ≤ p - D % len then p - D % len else p - D % len + len)
theorem cix_in {len D r p : Int} (hl : 1 ≤ len) (hl9 : len ≤ 9) (h0 : 0 ≤ p) (h1 : p < len) : r * 9 ≤ cix len D r p ∧ cix len D r p < r * 9 + len := by
  have m0 := Int.emod_nonneg D (show len ≠ 0 by omega)
  have m1 := Int.emod_lt_of_pos D (show 0 < len by omega)
  unfold cix
  split <;> omega
theorem cix_inj {len D r p q : Int} (hl : 1 ≤ len) (h0 : 0 ≤ p) (h1 : p < len) (h2 : 0 ≤ q) (h3 : q < len) (h : cix len D r p = cix len D r q) : p = q := by
  have m0 := Int.emod_nonneg D (show len ≠ 0 by omega)
  have m1 := Int.emod_lt_of_pos D (show 0 < len by omega)
  unfold cix at h
  split at h <;> split at h <;> omega
theorem emod_succ {D len : Int} (hl : 1 ≤ len) : ((D + 1) % len = D % len + 1 ∧ D % len + 1 < len) ∨ ((D + 1) % len = 0 ∧ D % len = len - 1) := by
  have m0 := Int.emod_nonneg D (show len ≠ 0 by omega)
  have m1 := Int.emod_lt_of_pos D (show 0 < len by omega)
  have e : (D + 1) % len = (D % len + 1) % len := (Int.emod_add_emod D len 1).symm
  by_cases h : D % len + 1 < len
  · exact Or.inl ⟨by rw [e, Int.emod_eq_of_lt (by omega) h], h⟩
  · refine Or.inr ⟨?_, by omega⟩
    rw [e, show D % len + 1 = len by omega, Int.emod_self]
theorem cix_first {len D r : Int} (hl : 1 ≤ len) : cix len (D + 1) r 0 = cix len D r (len - 1) := by
  have m0 := Int.emod_nonneg D (show len ≠ 0 by omega)
  have m1 := Int.emod_lt_of_pos D (show 0 < len by omega)
  unfold cix
  rcases emod_succ (D := D) hl with ⟨h1, h2⟩ | ⟨h1, h2⟩
  · rw [h1]; split <;> split <;> omega
  · rw [h1]; split <;> split <;> omega
theorem cix_next {len D r p : Int} (hl : 1 ≤ len) (h0 : 1 ≤ p) (h1 : p < len) : cix len (D + 1) r p = cix len D r (p - 1) := by
  have m0 := Int.emod_nonneg D (show len ≠ 0 by omega)
  have m1 := Int.emod_lt_of_pos D (show 0 < len by omega)
  unfold cix
  rcases emod_succ (D := D) hl with ⟨h2, h3⟩ | ⟨h2, h3⟩
  · rw [h2]; split <;> split <;> omega
  · rw [h2]; split <;> split <;> omega
/-- two places are held apart -/
theorem cix_ne {len len' D r r' p p' : Int} (hl : 1 ≤ len) (hl9 : len ≤ 9) (hl' : 1 ≤ len') (hl9' : len' ≤ 9) (h0 : 0 ≤ p) (h1 : p < len) (h2 : 0 ≤ p') (h3 : p' < len') (hr : r = r' → len = len') (h : ¬ (r = r' ∧ p = p')) : cix len D r p ≠ cix len' D r' p' := by
  intro he
  have i1 := cix_in (D := D) (r := r) hl hl9 h0 h1
  have i2 := cix_in (D := D) (r := r') hl' hl9' h2 h3
  have hrr : r = r' := by omega
  have hll := hr hrr
  subst hrr
  subst hll
  exact h ⟨rfl, cix_inj hl h0 h1 h2 h3 he⟩
theorem c_cellOf {ks : Nat} (h : LandR σ k a) (hw : wfL a) {D r p : Int} (hD : σ ks 12 = D) (hD0 : 0 ≤ D) (hD1 : D ≤ 1000) (h0 : 0 ≤ r) (h1 : r < a 1) (p0 : 0 ≤ p) (p1 : p < a (Int.toNat (16 + r))) : f_Stream_cellOf σ ks k r p = some (σ, cix (a (Int.toNat (16 + r))) D r p) := by
  have hr := hw.2.2.1 r h0 h1
  have hc := hw.1.2.1
  have h8 := (h.2.2.1 r h0 h1).1
  have e : Int.tmod D (a (Int.toNat (16 + r))) = D % a (Int.toNat (16 + r)) := Int.tmod_eq_emod_of_nonneg hD0
  have m0 := Int.emod_nonneg D (show a (Int.toNat (16 + r)) ≠ 0 by omega)
  have m1 := Int.emod_lt_of_pos D (show 0 < a (Int.toNat (16 + r)) by omega)
  rw [e_Stream_cellOf, hD, h8.1, e, if_pos (zin_t h0 (by omega)), if_pos (show 0 < a (Int.toNat (16 + r)) by omega), if_pos (znz_t (by omega))]
  unfold cix
  rw [w32_id (x := p - D % a (Int.toNat (16 + r))) (by omega) (by omega)]
  split
  · rw [w32_id (x := r * 9) (by omega) (by omega), w32_id (by omega) (by omega)]
  · rw [w32_id (x := r * 9) (by omega) (by omega), w32_id (x := p - D % a (Int.toNat (16 + r)) + a (Int.toNat (16 + r))) (by omega) (by omega), w32_id (by omega) (by omega)]
/-- the cells of a stream beside those of the reference -/
def CellR (σ : zH) (ks : Nat) (D : Int) (a : Nat → Int) : Prop :=
  (∀ r p : Int, 0 ≤ r → r < a 1 → 0 ≤ p → p < a (Int.toNat (16 + r)) → σ (ks + 1) (Int.toNat (cix (a (Int.toNat (16 + r))) D r p)) = a (Int.toNat (306 + 9 * r + p)) - 1 ∧ 0 ≤ a (Int.toNat (306 + 9 * r + p)) ∧ a (Int.toNat (306 + 9 * r + p)) ≤ a 0) ∧
  ∀ r j : Int, 0 ≤ r → r < 8 → 0 ≤ j → j < 9 → (a 1 ≤ r ∨ a (Int.toNat (16 + r)) ≤ j) → σ (ks + 1) (Int.toNat (r * 9 + j)) = -1 ∧ a (Int.toNat (306 + 9 * r + j)) = 0
theorem c_termAt {ks : Nat} (h : LandR σ k a) (hw : wfL a) {D r p : Int} (hc : CellR σ ks D a) (hD : σ ks 12 = D) (hD0 : 0 ≤ D) (hD1 : D ≤ 1000) (h0 : 0 ≤ r) (h1 : r < a 1) (p0 : 0 ≤ p) (p1 : p < a (Int.toNat (16 + r))) : f_Stream_termAt σ ks k r p = some (σ, a (Int.toNat (306 + 9 * r + p)) - 1) := by
  have hr := hw.2.2.1 r h0 h1
  have hc1 := hw.1.2.1
  have i1 := cix_in (D := D) (r := r) hr.1.1 hr.1.2 p0 p1
  rw [e_Stream_termAt, c_cellOf h hw hD hD0 hD1 h0 h1 p0 p1]
  simp only [Option.bind_some]
  rw [if_pos (zin_t (by omega) (by omega)), (hc.1 r p h0 h1 p0 p1).1]
theorem c_put {ks : Nat} (h : LandR σ k a) (hw : wfL a) {D r p v : Int} (hD : σ ks 12 = D) (hD0 : 0 ≤ D) (hD1 : D ≤ 1000) (h0 : 0 ≤ r) (h1 : r < a 1) (p0 : 0 ≤ p) (p1 : p < a (Int.toNat (16 + r))) : f_Stream_put σ ks k r p v = some (zset σ (ks + 1) (Int.toNat (cix (a (Int.toNat (16 + r))) D r p)) v, 0) := by
  have hr := hw.2.2.1 r h0 h1
  have hc1 := hw.1.2.1
  have i1 := cix_in (D := D) (r := r) hr.1.1 hr.1.2 p0 p1
  rw [e_Stream_put, c_cellOf h hw hD hD0 hD1 h0 h1 p0 p1]
  simp only [Option.bind_some]
  rw [if_pos (zin_t (by omega) (by omega))]
/-- one place is written on both sides -/
theorem CellR.set {ks : Nat} {D r p v : Int} {b : Nat → Int} (hc : CellR σ ks D a) (hw : wfL a) (h0 : 0 ≤ r) (h1 : r < a 1) (p0 : 0 ≤ p) (p1 : p < a (Int.toNat (16 + r))) (v0 : -1 ≤ v) (v1 : v < a 0)
    (hb : b (Int.toNat (306 + 9 * r + p)) = v + 1) (hb2 : ∀ j : Nat, j ≠ Int.toNat (306 + 9 * r + p) → (j < 288 ∨ (306 ≤ j ∧ j < 378)) → b j = a j) : CellR (zset σ (ks + 1) (Int.toNat (cix (a (Int.toNat (16 + r))) D r p)) v) ks D b := by
  have hr := hw.2.2.1 r h0 h1
  have hc1 := hw.1.2.1
  have i1 := cix_in (D := D) (r := r) hr.1.1 hr.1.2 p0 p1
  have e0 : b 0 = a 0 := hb2 0 (by omega) (Or.inl (by omega))
  have e1 : b 1 = a 1 := hb2 1 (by omega) (Or.inl (by omega))
  have el : ∀ q : Int, 0 ≤ q → q < 8 → b (Int.toNat (16 + q)) = a (Int.toNat (16 + q)) := fun q q0 q1 => hb2 _ (by omega) (Or.inl (by omega))
  constructor
  · intro r' p' r0 r1 q0 q1
    rw [e1] at r1
    rw [el r' r0 (by omega)] at q1 ⊢
    have hr' := hw.2.2.1 r' r0 r1
    rw [e0]
    by_cases hs : r = r' ∧ p = p'
    · obtain ⟨rfl, rfl⟩ := hs
      rw [zs, hb]
      omega
    · have i2 := cix_in (D := D) (r := r') hr'.1.1 hr'.1.2 q0 q1
      have hne := cix_ne (D := D) hr.1.1 hr.1.2 hr'.1.1 hr'.1.2 p0 p1 q0 q1 (fun h => by rw [h]) hs
      rw [zi (by omega), hb2 _ (by omega) (Or.inr (by omega))]
      exact hc.1 r' p' r0 r1 q0 q1
  · intro r' j r0 r1 j0 j1 hj
    rw [e1, el r' r0 r1] at hj
    have hne : Int.toNat (r' * 9 + j) ≠ Int.toNat (cix (a (Int.toNat (16 + r))) D r p) := by
      intro he
      have : r' = r := by omega
      subst this
      omega
    have hne2 : Int.toNat (306 + 9 * r' + j) ≠ Int.toNat (306 + 9 * r + p) := by
      intro he
      have : r' = r := by omega
      subst this
      omega
    rw [zi hne, hb2 _ hne2 (Or.inr (by omega))]
    exact hc.2 r' j r0 r1 j0 j1 hj
end G6
