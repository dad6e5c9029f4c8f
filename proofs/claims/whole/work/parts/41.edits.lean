/-! A DAY, the editors: both sides at once -/
section G11
variable {σ τ : zH} {k : Nat} {a : Nat → Int}
def sum6 (f : Nat → Int) : Int := f 0 + f 1 + f 2 + f 3 + f 4 + f 5
theorem sum6_set {ks : Nat} {e v : Int} (h0 : 0 ≤ e) (h1 : e < 6) : sum6 (zset σ ks (Int.toNat e) v ks) = sum6 (σ ks) + v - σ ks (Int.toNat e) := by
  have hcases : e = 0 ∨ e = 1 ∨ e = 2 ∨ e = 3 ∨ e = 4 ∨ e = 5 := by omega
  rcases hcases with rfl | rfl | rfl | rfl | rfl | rfl
  · show zset σ ks 0 v ks 0 + zset σ ks 0 v ks 1 + zset σ ks 0 v ks 2 + zset σ ks 0 v ks 3 + zset σ ks 0 v ks 4 + zset σ ks 0 v ks 5 = σ ks 0 + σ ks 1 + σ ks 2 + σ ks 3 + σ ks 4 + σ ks 5 + v - σ ks 0
    rw [zs, zi (by decide), zi (by decide), zi (by decide), zi (by decide), zi (by decide)]
    omega
  · show zset σ ks 1 v ks 0 + zset σ ks 1 v ks 1 + zset σ ks 1 v ks 2 + zset σ ks 1 v ks 3 + zset σ ks 1 v ks 4 + zset σ ks 1 v ks 5 = σ ks 0 + σ ks 1 + σ ks 2 + σ ks 3 + σ ks 4 + σ ks 5 + v - σ ks 1
    rw [zs, zi (by decide), zi (by decide), zi (by decide), zi (by decide), zi (by decide)]
    omega
  · show zset σ ks 2 v ks 0 + zset σ ks 2 v ks 1 + zset σ ks 2 v ks 2 + zset σ ks 2 v ks 3 + zset σ ks 2 v ks 4 + zset σ ks 2 v ks 5 = σ ks 0 + σ ks 1 + σ ks 2 + σ ks 3 + σ ks 4 + σ ks 5 + v - σ ks 2
    rw [zs, zi (by decide), zi (by decide), zi (by decide), zi (by decide), zi (by decide)]
    omega
  · show zset σ ks 3 v ks 0 + zset σ ks 3 v ks 1 + zset σ ks 3 v ks 2 + zset σ ks 3 v ks 3 + zset σ ks 3 v ks 4 + zset σ ks 3 v ks 5 = σ ks 0 + σ ks 1 + σ ks 2 + σ ks 3 + σ ks 4 + σ ks 5 + v - σ ks 3
    rw [zs, zi (by decide), zi (by decide), zi (by decide), zi (by decide), zi (by decide)]
    omega
  · show zset σ ks 4 v ks 0 + zset σ ks 4 v ks 1 + zset σ ks 4 v ks 2 + zset σ ks 4 v ks 3 + zset σ ks 4 v ks 4 + zset σ ks 4 v ks 5 = σ ks 0 + σ ks 1 + σ ks 2 + σ ks 3 + σ ks 4 + σ ks 5 + v - σ ks 4
    rw [zs, zi (by decide), zi (by decide), zi (by decide), zi (by decide), zi (by decide)]
    omega
  · show zset σ ks 5 v ks 0 + zset σ ks 5 v ks 1 + zset σ ks 5 v ks 2 + zset σ ks 5 v ks 3 + zset σ ks 5 v ks 4 + zset σ ks 5 v ks 5 = σ ks 0 + σ ks 1 + σ ks 2 + σ ks 3 + σ ks 4 + σ ks 5 + v - σ ks 5
    rw [zs, zi (by decide), zi (by decide), zi (by decide), zi (by decide), zi (by decide)]
    omega
/-- how often editors struck and turned: both sides; the first i have had their turn of the day -/
def CntR (f g : Nat → Int) (b : Nat → Int) (i : Nat) (D1 : Int) : Prop :=
  (∀ e : Int, 0 ≤ e → e < b 2 → f (Int.toNat e) = b (Int.toNat (294 + e)) ∧ g (Int.toNat e) = b (Int.toNat (300 + e)) ∧ 0 ≤ b (Int.toNat (294 + e)) ∧ 0 ≤ b (Int.toNat (300 + e)) ∧ b (Int.toNat (294 + e)) ≤ (if e < i then D1 else D1 - 1) ∧ b (Int.toNat (300 + e)) ≤ (if e < i then D1 else D1 - 1)) ∧
  (∀ e : Int, b 2 ≤ e → e < 6 → f (Int.toNat e) = 0 ∧ g (Int.toNat e) = 0) ∧ b 291 = sum6 f ∧ b 292 = sum6 g
theorem CntR.all {f g b : Nat → Int} {i : Nat} {D1 : Int} (hc : 0 ≤ b 2 ∧ b 2 ≤ 6) (h : CntR f g b i D1) (hD : 1 ≤ D1) : (∀ e : Nat, e < 6 → (0 ≤ f e ∧ f e ≤ D1) ∧ 0 ≤ g e ∧ g e ≤ D1) ∧ (0 ≤ sum6 f ∧ sum6 f ≤ 6 * D1) ∧ 0 ≤ sum6 g ∧ sum6 g ≤ 6 * D1 := by
  have key : ∀ e : Nat, e < 6 → (0 ≤ f e ∧ f e ≤ D1) ∧ 0 ≤ g e ∧ g e ≤ D1 := by
    intro e he
    by_cases h1 : (e : Int) < b 2
    · have h9 := h.1 e (by omega) h1
      rw [show Int.toNat (e : Int) = e from rfl] at h9
      obtain ⟨h2, h3, h4, h5, h6, h7⟩ := h9
      have h8 : (if (e : Int) < i then D1 else D1 - 1) ≤ D1 := by split <;> omega
      omega
    · have h9 := h.2.1 e (by omega) (by omega)
      rw [show Int.toNat (e : Int) = e from rfl] at h9
      omega
  have k0 := key 0 (by decide)
  have k1 := key 1 (by decide)
  have k2 := key 2 (by decide)
  have k3 := key 3 (by decide)
  have k4 := key 4 (by decide)
  have k5 := key 5 (by decide)
  refine ⟨key, ?_, ?_⟩ <;> unfold sum6 <;> omega
/-- behind the first i editors -/
def EdS (σ0 τ0 : zH) (ks : Nat) (D1 : Int) (a : Nat → Int) (i : Nat) (σ τ : zH) : Prop :=
  (∀ j, ¬ (j = ks + 1 ∨ j = ks + 3 ∨ j = ks + 4) → σ j = σ0 j) ∧ (∀ j, j ≠ 7 → τ j = τ0 j) ∧ (∀ j, j < 291 ∨ j = 293 ∨ 378 ≤ j → τ 7 j = τ0 7 j) ∧
  CellR σ ks D1 (τ 7) ∧ CntR (σ (ks + 3)) (σ (ks + 4)) (τ 7) i D1
theorem CntR.same {f g b : Nat → Int} {i : Nat} {D1 : Int} (h : CntR f g b i D1) : CntR f g b (i + 1) D1 := by
  refine ⟨fun e e0 e1 => ?_, h.2⟩
  obtain ⟨h1, h2, h3, h4, h5, h6⟩ := h.1 e e0 e1
  refine ⟨h1, h2, h3, h4, ?_, ?_⟩
  · split at h5 <;> split <;> omega
  · split at h6 <;> split <;> omega

/-- a country is its first 288 numbers -/
theorem wfL_congr {a b : Nat → Int} (h : ∀ j : Nat, j < 288 → b j = a j) (hw : wfL a) : wfL b := by
  obtain ⟨hc, hT, hR, hS, hF, hE, hW⟩ := hw
  have e0 := h 0 (by omega)
  have e1 := h 1 (by omega)
  have e2 := h 2 (by omega)
  have e3 := h 3 (by omega)
  have e4 := h 4 (by omega)
  have e5 := h 5 (by omega)
  obtain ⟨c0, c1, c2, c3, c4, c5⟩ := hc
  refine ⟨⟨by omega, by omega, by omega, by omega, by omega, by omega⟩, ?_, ?_, ?_, ?_, ?_, ?_⟩
  · intro t h0 h1
    rw [h _ (by omega)]
    exact hT t h0 (by omega)
  · intro r h0 h1
    rw [h (Int.toNat (16 + r)) (by omega), h (Int.toNat (24 + r)) (by omega), h (Int.toNat (32 + r)) (by omega), h (Int.toNat (40 + r)) (by omega)]
    exact hR r h0 (by omega)
  · intro r j h0 h1 h2 h3
    have hr := hR r h0 (by omega)
    rw [h (Int.toNat (40 + r)) (by omega)] at h3
    rw [h _ (by omega), e0]
    exact hS r j h0 (by omega) h2 h3
  · constructor
    · intro q h0 h1 h2
      have hr := hR q h0 (by omega)
      rw [h (Int.toNat (24 + q)) (by omega)] at h2 ⊢
      rw [h _ (by omega), h _ (by omega)]
      exact hF.1 q h0 (by omega) h2
    · intro q1 q2 h0 h1 h2 h3 h4
      have hr := hR q1 h0 (by omega)
      rw [h (Int.toNat (24 + q1)) (by omega)] at h3 h4 ⊢
      rw [h (Int.toNat (24 + q2)) (by omega)] at h4
      rw [h _ (by omega)]
      exact hF.2 q1 q2 h0 h1 (by omega) h3 h4
  · refine ⟨fun e h0 h1 => ?_, fun e f h0 h1 h2 => ?_, fun e t h0 h1 h2 h3 => ?_⟩
    · have he := hE.1 e h0 (by omega)
      rw [h (Int.toNat (144 + e)) (by omega), h (Int.toNat (150 + e)) (by omega), e1, h _ (by omega)]
      exact he
    · rw [h (Int.toNat (144 + e)) (by omega), h (Int.toNat (150 + e)) (by omega), h (Int.toNat (144 + f)) (by omega), h (Int.toNat (150 + f)) (by omega)]
      exact hE.2.1 e f h0 h1 (by omega)
    · rw [h _ (by omega), e0]
      exact hE.2.2 e t h0 (by omega) h2 h3
  · refine ⟨fun t h0 h1 => ?_, fun t m h0 h1 h2 h3 => ?_⟩
    · have ht := hW.1 t h0 (by omega)
      rw [h (Int.toNat (216 + t)) (by omega), h (Int.toNat (222 + t)) (by omega), e1, h _ (by omega)]
      exact ht
    · rw [h _ (by omega)]
      exact hW.2 t m h0 (by omega) h2 h3
theorem LandR_congr {a b : Nat → Int} (h : ∀ j : Nat, j < 288 → b j = a j) (hw : wfL a) (hl : LandR σ k a) : LandR σ k b := by
  obtain ⟨⟨c0, c1, c2, c3, c4, c5⟩, hT, hR, hS, hF, hE, hW⟩ := hw
  obtain ⟨⟨l0, l1, l2, l3, l4, l5⟩, lT, lR, lE, lW⟩ := hl
  have e0 := h 0 (by omega)
  have e1 := h 1 (by omega)
  have e2 := h 2 (by omega)
  have e3 := h 3 (by omega)
  have e4 := h 4 (by omega)
  have e5 := h 5 (by omega)
  refine ⟨⟨by omega, by omega, by omega, by omega, by omega, by omega⟩, ?_, ?_, ?_, ?_⟩
  · intro t h0 h1
    rw [h _ (by omega)]
    exact lT t h0 (by omega)
  · intro r h0 h1
    have hr := hR r h0 (by omega)
    rw [h (Int.toNat (16 + r)) (by omega), h (Int.toNat (24 + r)) (by omega), h (Int.toNat (32 + r)) (by omega), h (Int.toNat (40 + r)) (by omega)]
    refine ⟨(lR r h0 (by omega)).1, fun j j0 j1 => ?_⟩
    rw [h _ (by omega)]
    exact (lR r h0 (by omega)).2 j j0 j1
  · intro e h0 h1
    rw [h (Int.toNat (144 + e)) (by omega), h (Int.toNat (150 + e)) (by omega)]
    refine ⟨(lE e h0 (by omega)).1, fun t t0 t1 => ?_⟩
    rw [h _ (by omega)]
    exact (lE e h0 (by omega)).2 t t0 t1
  · intro t h0 h1
    rw [h (Int.toNat (216 + t)) (by omega), h (Int.toNat (222 + t)) (by omega)]
    obtain ⟨q1, N, q2, q3, q4⟩ := lW t h0 (by omega)
    refine ⟨q1, N, q2, q3, fun m hm => ?_⟩
    rw [h _ (by omega)]
    exact q4 m hm
/-- an editor of the class -/
theorem c_edit {ks : Nat} {D1 : Int} {b : Nat → Int} (h : LandR σ k a) (hw : wfL a) (hD : σ ks 12 = D1) (hD0 : 0 ≤ D1) (hD1 : D1 ≤ 1000) (hab : ∀ j, j < 288 → b j = a j) (hcl : CellR σ ks D1 b) {e R p v z : Int} (h0 : 0 ≤ e) (h1 : e < a 2) (hR : a (Int.toNat (144 + e)) = R) (hp : a (Int.toNat (150 + e)) = p) (hv : b (Int.toNat (306 + 9 * R + p)) = v) (hz : (if a (Int.toNat (156 + 10 * e + (v - 1))) = 0 then v - 1 else a (Int.toNat (156 + 10 * e + (v - 1))) - 2) = z) :
    f_Stream_edit σ ks k e = some (if v = 0 then σ else if z = v - 1 then zset σ (ks + 1) (Int.toNat (cix (a (Int.toNat (16 + R))) D1 R p)) z else if z = -1 then zset (zset σ (ks + 3) (Int.toNat e) (w32 (σ (ks + 3) (Int.toNat e) + 1))) (ks + 1) (Int.toNat (cix (a (Int.toNat (16 + R))) D1 R p)) z else zset (zset σ (ks + 4) (Int.toNat e) (w32 (σ (ks + 4) (Int.toNat e) + 1))) (ks + 1) (Int.toNat (cix (a (Int.toNat (16 + R))) D1 R p)) z, 0) := by
  have hc := hw.1.2.2.1
  have hc1 := hw.1.2.1
  have hc0 := hw.1.1
  have he := hw.2.2.2.2.2.1.1 e h0 h1
  have hle := h.2.2.2.1 e h0 h1
  have hr := hw.2.2.1 _ he.1.1 he.1.2
  rw [hR] at he hr hle
  rw [hp] at he hle
  have e16 : b (Int.toNat (16 + R)) = a (Int.toNat (16 + R)) := hab _ (by omega)
  have hcell := hcl.1 R p he.1.1 (by rw [hab 1 (by omega)]; exact he.1.2) he.2.1 (by rw [e16]; exact he.2.2)
  rw [e16, hab 0 (by omega), hv] at hcell
  have i1 := cix_in (D := D1) (r := R) hr.1.1 hr.1.2 he.2.1 he.2.2
  rw [e_Stream_edit, if_pos (zin_t (by omega) (by omega)), if_pos (zin_t (by omega) (by omega)), hle.1.1, hle.1.2, c_cellOf h hw hD hD0 hD1 he.1.1 he.1.2 he.2.1 he.2.2, Option.bind_some]
  dsimp only
  rw [if_pos (zin_t (i := cix (a (Int.toNat (16 + R))) D1 R p) (by omega) (by omega))]
  simp only [hcell.1]
  by_cases hv0 : v = 0
  · rw [if_neg (fun q => q (by omega)), if_pos hv0]
  · rw [if_pos (show ¬ v - 1 = -1 by omega), if_neg hv0, c_madeBy h hw h0 h1 (by omega) (by omega), hz, Option.bind_some]
    dsimp only
    have g1 : zin e 6 = true := zin_t h0 (by omega)
    have g2 : zin (cix (a (Int.toNat (16 + R))) D1 R p) 72 = true := zin_t (by omega) (by omega)
    by_cases hz1 : z = -1
    · rw [if_neg (fun q => q hz1), if_pos g1, if_pos g1, if_pos g2, if_neg (show ¬ z = v - 1 by omega), if_pos hz1]
    · rw [if_pos hz1]
      by_cases hz2 : z = v - 1
      · rw [if_pos hz2, if_pos g2, if_pos hz2]
      · rw [if_neg hz2, if_pos g1, if_pos g1, if_pos g2, if_neg hz2, if_neg hz1]
/-- an editor of the reference, awake -/
theorem m_edits (hw : wfL (τ 7)) (hA : CellA (τ 7)) {m : Nat} (hm : τ 7 293 = (m : Int)) (hm2 : m < 64) {e : Nat} {R p v z : Int} (h1 : (e : Int) < τ 7 2) (hbit : ¬ m.testBit e = true) (hR : τ 7 (Int.toNat (144 + (e : Int))) = R) (hp : τ 7 (Int.toNat (150 + (e : Int))) = p) (hv : τ 7 (Int.toNat (306 + 9 * R + p)) = v) (hz : (if τ 7 (Int.toNat (156 + 10 * (e : Int) + (v - 1))) = 0 then v - 1 else τ 7 (Int.toNat (156 + 10 * (e : Int) + (v - 1))) - 2) = z) :
    f_M_edits τ (e : Int) = some (if v = 0 then τ else if z = v - 1 then τ else if z = -1 then zset (zset (zset τ 7 291 (w32 (τ 7 291 + 1))) 7 (Int.toNat (294 + (e : Int))) (w32 (τ 7 (Int.toNat (294 + (e : Int))) + 1))) 7 (Int.toNat (306 + 9 * R + p)) (z + 1) else zset (zset (zset τ 7 292 (w32 (τ 7 292 + 1))) 7 (Int.toNat (300 + (e : Int))) (w32 (τ 7 (Int.toNat (300 + (e : Int))) + 1))) 7 (Int.toNat (306 + 9 * R + p)) (z + 1), 0) := by
  have hc := hw.1.2.2.1
  have hc1 := hw.1.2.1
  have hc0 := hw.1.1
  have he := hw.2.2.2.2.2.1.1 e (by omega) h1
  have hr := hw.2.2.1 _ he.1.1 he.1.2
  rw [hR] at he hr
  rw [hp] at he
  have hcell := hA R p he.1.1 he.1.2 he.2.1 he.2.2
  rw [hv] at hcell
  have g1 : zin (306 + 9 * R + p) 2959 = true := zin_t (by omega) (by omega)
  rw [e_M_edits, w32_id (x := 144 + (e : Int)) (by omega) (by omega), w32_id (x := 150 + (e : Int)) (by omega) (by omega), hR, hp, w32_id (x := 9 * R) (by omega) (by omega), w32_id (x := 306 + 9 * R) (by omega) (by omega), w32_id (x := 306 + 9 * R + p) (by omega) (by omega), if_pos (zin_t (i := 144 + (e : Int)) (by omega) (by omega)), if_pos (zin_t (i := 150 + (e : Int)) (by omega) (by omega)), hm, m_bitOf (by omega) (by omega), Option.bind_some]
  dsimp only
  rw [if_neg hbit, if_neg (fun q => q rfl), if_pos g1]
  simp only [hv]
  by_cases hv0 : v = 0
  · rw [if_neg (fun q => q hv0), if_pos hv0]
  · rw [if_pos hv0, if_pos g1, w32_id (x := v - 1) (by omega) (by omega), m_madeOf hw.1 hw.2.2.2.2.2.1 (by omega) h1 (by omega) (by omega), hz, Option.bind_some]
    dsimp only
    have hmk := made_in hw (e := (e : Int)) (t := v - 1) (by omega) h1 (by omega) (by omega)
    rw [hz] at hmk
    have hw1 : w32 (v - 1) = v - 1 := w32_id (by omega) (by omega)
    rw [if_pos g1]
    simp only [hv, hw1]
    rw [if_neg hv0]
    by_cases hz2 : z = v - 1
    · rw [if_neg (fun q => q hz2), if_pos hz2]
    · rw [if_pos hz2, if_neg hz2]
      by_cases hz1 : z = -1
      · rw [if_neg (show ¬ 0 ≤ z by omega), if_neg (show ¬ 0 ≤ z by omega), if_pos hz1, e_M_edits_120, w32_id (x := 294 + (e : Int)) (by omega) (by omega), if_pos (zin_t (i := 294 + (e : Int)) (by omega) (by omega)), if_pos (zin_t (i := 294 + (e : Int)) (by omega) (by omega)), if_pos g1, w32_id (x := z + 1) (by omega) (by omega), zi (show Int.toNat (294 + (e : Int)) ≠ 291 by omega)]
      · rw [if_pos (show 0 ≤ z by omega), if_pos (show 0 ≤ z by omega), if_neg hz1, e_M_edits_120, w32_id (x := 300 + (e : Int)) (by omega) (by omega), if_pos (zin_t (i := 300 + (e : Int)) (by omega) (by omega)), if_pos (zin_t (i := 300 + (e : Int)) (by omega) (by omega)), if_pos g1, w32_id (x := z + 1) (by omega) (by omega), zi (show Int.toNat (300 + (e : Int)) ≠ 292 by omega)]

theorem CntR.up3 {f f' g b b' : Nat → Int} {i : Nat} {D1 : Int} (h : CntR f g b i D1) (hi : (i : Int) < b 2) (h2 : b' 2 = b 2) (f1 : ∀ j, j ≠ i → f' j = f j) (f2 : f' i = f i + 1) (f3 : sum6 f' = sum6 f + 1) (b1 : b' (Int.toNat (294 + (i : Int))) = b (Int.toNat (294 + (i : Int))) + 1) (b2 : b' 291 = b 291 + 1) (b3 : ∀ j : Nat, 292 ≤ j → j < 306 → j ≠ Int.toNat (294 + (i : Int)) → b' j = b j) (h6 : b 2 ≤ 6) : CntR f' g b' (i + 1) D1 := by
  obtain ⟨c1, c2, c3, c4⟩ := h
  refine ⟨fun e e0 e1 => ?_, fun e e0 e1 => ?_, by rw [b2, c3, f3], by rw [b3 292 (by omega) (by omega) (by omega)]; exact c4⟩
  · rw [h2] at e1
    obtain ⟨q1, q2, q3, q4, q5, q6⟩ := c1 e e0 e1
    have k2 : b' (Int.toNat (300 + e)) = b (Int.toNat (300 + e)) := b3 _ (by omega) (by omega) (by omega)
    have m1 : (if e < ((i + 1 : Nat) : Int) then D1 else D1 - 1) = D1 ∨ ¬ e ≤ i := by
      by_cases hq : e ≤ i
      · exact Or.inl (if_pos (by omega))
      · exact Or.inr hq
    by_cases he : e = i
    · subst he
      rw [if_neg (by omega)] at q5 q6
      rw [if_pos (by omega), k2, b1]
      rw [show Int.toNat (i : Int) = i from rfl] at q1 q2 ⊢
      rw [f2]
      omega
    · have k1 : b' (Int.toNat (294 + e)) = b (Int.toNat (294 + e)) := b3 _ (by omega) (by omega) (by omega)
      rw [k1, k2, f1 _ (by omega)]
      refine ⟨q1, q2, q3, q4, ?_, ?_⟩
      · split at q5 <;> split <;> omega
      · split at q6 <;> split <;> omega
  · rw [h2] at e0
    rw [f1 _ (by omega)]
    exact c2 e e0 e1
theorem CntR.up4 {f g g' b b' : Nat → Int} {i : Nat} {D1 : Int} (h : CntR f g b i D1) (hi : (i : Int) < b 2) (h2 : b' 2 = b 2) (f1 : ∀ j, j ≠ i → g' j = g j) (f2 : g' i = g i + 1) (f3 : sum6 g' = sum6 g + 1) (b1 : b' (Int.toNat (300 + (i : Int))) = b (Int.toNat (300 + (i : Int))) + 1) (b2 : b' 292 = b 292 + 1) (b3 : ∀ j : Nat, 291 ≤ j → j < 306 → j ≠ 292 → j ≠ Int.toNat (300 + (i : Int)) → b' j = b j) (h6 : b 2 ≤ 6) : CntR f g' b' (i + 1) D1 := by
  obtain ⟨c1, c2, c3, c4⟩ := h
  refine ⟨fun e e0 e1 => ?_, fun e e0 e1 => ?_, by rw [b3 291 (by omega) (by omega) (by omega) (by omega)]; exact c3, by rw [b2, c4, f3]⟩
  · rw [h2] at e1
    obtain ⟨q1, q2, q3, q4, q5, q6⟩ := c1 e e0 e1
    have k2 : b' (Int.toNat (294 + e)) = b (Int.toNat (294 + e)) := b3 _ (by omega) (by omega) (by omega) (by omega)
    by_cases he : e = i
    · subst he
      rw [if_neg (by omega)] at q5 q6
      rw [if_pos (by omega), k2, b1]
      rw [show Int.toNat (i : Int) = i from rfl] at q1 q2 ⊢
      rw [f2]
      omega
    · have k1 : b' (Int.toNat (300 + e)) = b (Int.toNat (300 + e)) := b3 _ (by omega) (by omega) (by omega) (by omega)
      rw [k1, k2, f1 _ (by omega)]
      refine ⟨q1, q2, q3, q4, ?_, ?_⟩
      · split at q5 <;> split <;> omega
      · split at q6 <;> split <;> omega
  · rw [h2] at e0
    rw [f1 _ (by omega)]
    exact c2 e e0 e1
/-- one editor's turn, both sides -/
theorem ed_step {σ0 τ0 : zH} {ks : Nat} {D1 : Int} {n m : Nat} (h : LandR σ0 k a) (hd : apart8 ks k) (hw : wfL a) (hτ0 : ∀ j, j < 288 → τ0 7 j = a j) (hD : σ0 ks 12 = D1) (hD0 : 1 ≤ D1) (hD1 : D1 ≤ 900) (hn : σ0 ks 13 = (n : Int)) (hm : τ0 7 293 = (m : Int)) (hA : AwR n m (a 2)) {i : Nat} (hi : (i : Int) < a 2) (s : EdS σ0 τ0 ks D1 a i σ τ) :
    ∃ σ' τ', f_Stream_passDay_118 σ ks k (D1 - 1) (i : Int) = f_Stream_passDay_118 σ' ks k (D1 - 1) ((i + 1 : Nat) : Int) ∧ f_M_day_168 τ (i : Int) = f_M_day_168 τ' ((i + 1 : Nat) : Int) ∧ EdS σ0 τ0 ks D1 a (i + 1) σ' τ' := by
  obtain ⟨s1, s2, s3, s4, s5⟩ := s
  obtain ⟨hn64, hm64, haw⟩ := hA
  have hc := hw.1.2.2.1
  have hc1 := hw.1.2.1
  have hc0 := hw.1.1
  have hL : LandR σ k a := h.own hd (fun j hj => s1 j (fun q => hj (by unfold own8; omega)))
  have eD : σ ks 12 = D1 := by rw [s1 ks (by omega)]; exact hD
  have en : σ ks 13 = (n : Int) := by rw [s1 ks (by omega)]; exact hn
  have em : τ 7 293 = (m : Int) := by rw [s3 293 (by omega)]; exact hm
  have ea : ∀ j, j < 288 → τ 7 j = a j := fun j hj => by rw [s3 j (by omega)]; exact hτ0 j hj
  have hwτ : wfL (τ 7) := wfL_congr ea hw
  have hCA : CellA (τ 7) := fun r p r0 r1 p0 p1 => (s4.1 r p r0 r1 p0 p1).2
  have he := hw.2.2.2.2.2.1.1 i (by omega) hi
  obtain ⟨R, hR⟩ : ∃ R, a (Int.toNat (144 + (i : Int))) = R := ⟨_, rfl⟩
  obtain ⟨p, hp⟩ : ∃ p, a (Int.toNat (150 + (i : Int))) = p := ⟨_, rfl⟩
  have hr := hw.2.2.1 _ he.1.1 he.1.2
  rw [hR] at he hr
  rw [hp] at he
  obtain ⟨v, hv⟩ : ∃ v, τ 7 (Int.toNat (306 + 9 * R + p)) = v := ⟨_, rfl⟩
  have hvr := hCA R p he.1.1 (by rw [ea 1 (by omega)]; exact he.1.2) he.2.1 (by rw [ea _ (by omega)]; exact he.2.2)
  rw [hv, ea 0 (by omega)] at hvr
  obtain ⟨z, hz⟩ : ∃ z, (if a (Int.toNat (156 + 10 * (i : Int) + (v - 1))) = 0 then v - 1 else a (Int.toNat (156 + 10 * (i : Int) + (v - 1))) - 2) = z := ⟨_, rfl⟩
  have hb := haw i hi
  have hca := CntR.all (by rw [ea 2 (by omega)]; exact hc) s5 hD0
  have hfi := hca.1 i (by omega)
  have ht1 := s5.2.2.1
  have ht2 := s5.2.2.2
  by_cases hm1 : m.testBit i = true
  · have hn1 : ¬ n.testBit i = true := fun q => (hb.mp q) hm1
    refine ⟨σ, τ, ?_, ?_, s1, s2, s3, s4, s5.same⟩
    · rw [e_Stream_passDay_118, hL.1.2.2.1, if_neg (by omega), c_isAwake en (by omega) (by omega), Option.bind_some, w32_s (by omega)]
      dsimp only
      rw [if_neg hn1, if_pos rfl]
    · rw [e_M_day_168, ea 2 (by omega), if_neg (by omega), e_M_edits, w32_id (x := 144 + (i : Int)) (by omega) (by omega), w32_id (x := 150 + (i : Int)) (by omega) (by omega), if_pos (zin_t (i := 144 + (i : Int)) (by omega) (by omega)), if_pos (zin_t (i := 150 + (i : Int)) (by omega) (by omega)), em, m_bitOf (by omega) (by omega), Option.bind_some, w32_s (by omega)]
      dsimp only
      rw [if_pos hm1, if_pos (by decide), Option.bind_some]
  · have hn1 : n.testBit i = true := hb.mpr hm1
    have hC := c_edit hL hw eD (by omega) (by omega) ea s4 (e := (i : Int)) (by omega) hi hR hp hv hz
    have hM := m_edits hwτ hCA em hm64 (e := i) (R := R) (p := p) (v := v) (z := z) (by rw [ea 2 (by omega)]; exact hi) hm1 (by rw [ea _ (by omega)]; exact hR) (by rw [ea _ (by omega)]; exact hp) hv (by
      by_cases hv0 : v = 0
      · subst hv0
        rw [ea _ (by omega)]
        exact hz
      · rw [ea _ (by omega)]
        exact hz)
    have eC : ∀ σ1, f_Stream_edit σ ks k (i : Int) = some (σ1, 0) → f_Stream_passDay_118 σ ks k (D1 - 1) (i : Int) = f_Stream_passDay_118 σ1 ks k (D1 - 1) ((i + 1 : Nat) : Int) := by
      intro σ1 h1
      rw [e_Stream_passDay_118, hL.1.2.2.1, if_neg (by omega), c_isAwake en (by omega) (by omega), Option.bind_some, w32_s (by omega)]
      dsimp only
      rw [if_pos hn1, if_neg (by decide), h1, Option.bind_some]
    have eM : ∀ τ1, f_M_edits τ (i : Int) = some (τ1, 0) → f_M_day_168 τ (i : Int) = f_M_day_168 τ1 ((i + 1 : Nat) : Int) := by
      intro τ1 h1
      rw [e_M_day_168, ea 2 (by omega), if_neg (by omega), h1, Option.bind_some, w32_s (by omega)]
    refine ⟨_, _, eC _ hC, eM _ hM, ?_⟩
    by_cases hv0 : v = 0
    · rw [if_pos hv0, if_pos hv0]
      exact ⟨s1, s2, s3, s4, s5.same⟩
    · rw [if_neg hv0, if_neg hv0]
      have hmk := made_in hw (e := (i : Int)) (t := v - 1) (by omega) hi (by omega) (by omega)
      rw [hz] at hmk
      have hset := fun b hb1 hb2 => CellR.set (v := z) (b := b) s4 hwτ he.1.1 (by rw [ea 1 (by omega)]; exact he.1.2) he.2.1 (by rw [ea _ (by omega)]; exact he.2.2) hmk.1 (by rw [ea 0 (by omega)]; exact hmk.2) hb1 hb2
      rw [ea (Int.toNat (16 + R)) (by omega)] at hset
      have i1 := cix_in (D := D1) (r := R) hr.1.1 hr.1.2 he.2.1 he.2.2
      by_cases hz2 : z = v - 1
      · rw [if_pos hz2, if_pos hz2]
        refine ⟨fun j hj => by rw [zk (by omega)]; exact s1 j hj, s2, s3, hset _ (by omega) (fun j _ _ => rfl), ?_⟩
        rw [zk (show ks + 3 ≠ ks + 1 by omega), zk (show ks + 4 ≠ ks + 1 by omega)]
        exact s5.same
      · rw [if_neg hz2, if_neg hz2]
        have hct := s5.1 i (by omega) (by rw [ea 2 (by omega)]; exact hi)
        by_cases hz1 : z = -1
        · rw [if_pos hz1, if_pos hz1]
          have e9 : ∀ q : Nat, ¬ (q = 291 ∨ q = Int.toNat (294 + (i : Int)) ∨ q = Int.toNat (306 + 9 * R + p)) → zset (zset (zset τ 7 291 (w32 (τ 7 291 + 1))) 7 (Int.toNat (294 + (i : Int))) (w32 (τ 7 (Int.toNat (294 + (i : Int))) + 1))) 7 (Int.toNat (306 + 9 * R + p)) (z + 1) 7 q = τ 7 q := fun q hq => by rw [zi (by omega), zi (by omega), zi (by omega)]
          refine ⟨fun j hj => by rw [zk (by omega), zk (by omega)]; exact s1 j hj, fun j hj => by rw [zk hj, zk hj, zk hj]; exact s2 j hj, fun j hj => by rw [e9 j (by omega)]; exact s3 j hj, ?_, ?_⟩
          · have h9 := hset (zset (zset (zset τ 7 291 (w32 (τ 7 291 + 1))) 7 (Int.toNat (294 + (i : Int))) (w32 (τ 7 (Int.toNat (294 + (i : Int))) + 1))) 7 (Int.toNat (306 + 9 * R + p)) (z + 1) 7) zs (fun j hj hj2 => e9 j (by omega))
            have hfun : zset (zset σ (ks + 3) (Int.toNat (i : Int)) (w32 (σ (ks + 3) (Int.toNat (i : Int)) + 1))) (ks + 1) (Int.toNat (cix (a (Int.toNat (16 + R))) D1 R p)) z (ks + 1) = zset σ (ks + 1) (Int.toNat (cix (a (Int.toNat (16 + R))) D1 R p)) z (ks + 1) := by
              funext q
              by_cases hq : q = Int.toNat (cix (a (Int.toNat (16 + R))) D1 R p)
              · rw [hq, zs, zs]
              · rw [zi hq, zi hq, zk (show ks + 1 ≠ ks + 3 by omega)]
            unfold CellR at h9 ⊢
            rw [hfun]
            exact h9
          · rw [zk (show ks + 4 ≠ ks + 1 by omega), zk (show ks + 4 ≠ ks + 3 by omega), zk (show ks + 3 ≠ ks + 1 by omega)]
            rw [show Int.toNat (i : Int) = i from rfl] at hct ⊢
            refine CntR.up3 s5 (by rw [ea 2 (by omega)]; exact hi) (e9 2 (by omega)) (fun j hj => zi hj) (by rw [zs, w32_id (by omega) (by omega)]) ?_ ?_ ?_ ?_ (by rw [ea 2 (by omega)]; omega)
            · have h9 := sum6_set (σ := σ) (ks := ks + 3) (e := (i : Int)) (v := w32 (σ (ks + 3) i + 1)) (by omega) (by omega)
              rw [show Int.toNat (i : Int) = i from rfl, w32_id (x := σ (ks + 3) i + 1) (by omega) (by omega)] at h9
              rw [w32_id (x := σ (ks + 3) i + 1) (by omega) (by omega), h9]
              omega
            · rw [zi (by omega), zs, w32_id (by omega) (by omega)]
            · rw [zi (by omega), zi (by omega), zs, w32_id (by omega) (by omega)]
            · intro j j1 j2 j3
              exact e9 j (by omega)
        · rw [if_neg hz1, if_neg hz1]
          have e9 : ∀ q : Nat, ¬ (q = 292 ∨ q = Int.toNat (300 + (i : Int)) ∨ q = Int.toNat (306 + 9 * R + p)) → zset (zset (zset τ 7 292 (w32 (τ 7 292 + 1))) 7 (Int.toNat (300 + (i : Int))) (w32 (τ 7 (Int.toNat (300 + (i : Int))) + 1))) 7 (Int.toNat (306 + 9 * R + p)) (z + 1) 7 q = τ 7 q := fun q hq => by rw [zi (by omega), zi (by omega), zi (by omega)]
          refine ⟨fun j hj => by rw [zk (by omega), zk (by omega)]; exact s1 j hj, fun j hj => by rw [zk hj, zk hj, zk hj]; exact s2 j hj, fun j hj => by rw [e9 j (by omega)]; exact s3 j hj, ?_, ?_⟩
          · have h9 := hset (zset (zset (zset τ 7 292 (w32 (τ 7 292 + 1))) 7 (Int.toNat (300 + (i : Int))) (w32 (τ 7 (Int.toNat (300 + (i : Int))) + 1))) 7 (Int.toNat (306 + 9 * R + p)) (z + 1) 7) zs (fun j hj hj2 => e9 j (by omega))
            have hfun : zset (zset σ (ks + 4) (Int.toNat (i : Int)) (w32 (σ (ks + 4) (Int.toNat (i : Int)) + 1))) (ks + 1) (Int.toNat (cix (a (Int.toNat (16 + R))) D1 R p)) z (ks + 1) = zset σ (ks + 1) (Int.toNat (cix (a (Int.toNat (16 + R))) D1 R p)) z (ks + 1) := by
              funext q
              by_cases hq : q = Int.toNat (cix (a (Int.toNat (16 + R))) D1 R p)
              · rw [hq, zs, zs]
              · rw [zi hq, zi hq, zk (show ks + 1 ≠ ks + 4 by omega)]
            unfold CellR at h9 ⊢
            rw [hfun]
            exact h9
          · rw [zk (show ks + 3 ≠ ks + 1 by omega), zk (show ks + 3 ≠ ks + 4 by omega), zk (show ks + 4 ≠ ks + 1 by omega)]
            rw [show Int.toNat (i : Int) = i from rfl] at hct ⊢
            refine CntR.up4 s5 (by rw [ea 2 (by omega)]; exact hi) (e9 2 (by omega)) (fun j hj => zi hj) (by rw [zs, w32_id (by omega) (by omega)]) ?_ ?_ ?_ ?_ (by rw [ea 2 (by omega)]; omega)
            · have h9 := sum6_set (σ := σ) (ks := ks + 4) (e := (i : Int)) (v := w32 (σ (ks + 4) i + 1)) (by omega) (by omega)
              rw [show Int.toNat (i : Int) = i from rfl, w32_id (x := σ (ks + 4) i + 1) (by omega) (by omega)] at h9
              rw [w32_id (x := σ (ks + 4) i + 1) (by omega) (by omega), h9]
              omega
            · rw [zi (by omega), zs, w32_id (by omega) (by omega)]
            · rw [zi (by omega), zi (by omega), zs, w32_id (by omega) (by omega)]
            · intro j j1 j2 j3 j4
              exact e9 j (by omega)
/-- all editors' turns -/
theorem ed_all {σ0 τ0 : zH} {ks : Nat} {D1 : Int} {n m : Nat} (h : LandR σ0 k a) (hd : apart8 ks k) (hw : wfL a) (hτ0 : ∀ j, j < 288 → τ0 7 j = a j) (hD : σ0 ks 12 = D1) (hD0 : 1 ≤ D1) (hD1 : D1 ≤ 900) (hn : σ0 ks 13 = (n : Int)) (hm : τ0 7 293 = (m : Int)) (hA : AwR n m (a 2)) : ∀ (j i : Nat) (σ τ : zH), (a 2 : Int) ≤ i + j → (i : Int) ≤ a 2 → EdS σ0 τ0 ks D1 a i σ τ →
    ∃ σ' τ', f_Stream_passDay_118 σ ks k (D1 - 1) (i : Int) = (f_Stream_readInTowns σ' ks k (D1 - 1)).bind (fun r1 => some (r1.1, 0)) ∧ f_M_day_168 τ (i : Int) = f_M_day_191 τ' 0 ∧ EdS σ0 τ0 ks D1 a (a 2).toNat σ' τ' := by
  have hc := hw.1.2.2.1
  intro j
  have fin : ∀ (i : Nat) (σ τ : zH), a 2 ≤ (i : Int) → (i : Int) ≤ a 2 → EdS σ0 τ0 ks D1 a i σ τ → ∃ σ' τ', f_Stream_passDay_118 σ ks k (D1 - 1) (i : Int) = (f_Stream_readInTowns σ' ks k (D1 - 1)).bind (fun r1 => some (r1.1, 0)) ∧ f_M_day_168 τ (i : Int) = f_M_day_191 τ' 0 ∧ EdS σ0 τ0 ks D1 a (a 2).toNat σ' τ' := by
    intro i σ τ g1 g2 s
    have hL : LandR σ k a := h.own hd (fun j hj => s.1 j (fun q => hj (by unfold own8; omega)))
    refine ⟨σ, τ, ?_, ?_, by rw [show (a 2).toNat = i by omega]; exact s⟩
    · rw [e_Stream_passDay_118, hL.1.2.2.1, if_pos g1]
    · rw [e_M_day_168, s.2.2.1 2 (by omega), hτ0 2 (by omega), if_pos g1]
  induction j with
  | zero => intro i σ τ g1 g2 s; exact fin i σ τ (by omega) g2 s
  | succ j ih =>
    intro i σ τ g1 g2 s
    by_cases hi : a 2 ≤ (i : Int)
    · exact fin i σ τ hi g2 s
    · obtain ⟨σ1, τ1, h1, h2, h3⟩ := ed_step h hd hw hτ0 hD hD0 hD1 hn hm hA (i := i) (by omega) s
      rw [h1, h2]
      exact ih (i + 1) σ1 τ1 (by omega) (by omega) h3
end G11
