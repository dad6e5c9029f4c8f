/-! A COUNTRY grows by a reach, or by what is said on one, both sides -/
section G57
variable {σ τ σ' τ' : zH} {k kn n m s : Nat} {nm nm' a b : Nat → Int}
/-- no more reaches flow into one than there are -/
def InfR (a : Nat → Int) : Prop := ∀ r : Int, 0 ≤ r → r < a 1 → a (Int.toNat (32 + r)) ≤ a 1
theorem InfR_c (h : InfR a) (h1 : b 1 = a 1) (c1 : a 1 ≤ 8) (hb : ∀ j, 32 ≤ j → j < 40 → b j = a j) : InfR b := by
  intro r r0 r1
  rw [hb _ (by omega) (by omega), h1]
  exact h r r0 (by omega)
theorem grow_reach (hL : LandR σ k a) (hw : wfL a) (hz : ZerR a) (hi : InfR a) {len T : Int} (hn : a 1 = (n : Int)) (h8 : n < 8) (g0 : 1 ≤ len) (g1 : len ≤ 9) (T0 : -1 ≤ T) (T1 : T < (n : Int)) (T2 : 0 ≤ T → a (Int.toNat (40 + T)) = 0)
    (e14 : σ' k 14 = ((n + 1 : Nat) : Int)) (ek : ∀ i, 13 ≤ i → i ≤ 18 → i ≠ 14 → σ' k i = σ k i) (e3 : σ' (k + 3) = upI (σ (k + 3)) n len) (e4 : σ' (k + 4) = upI (σ (k + 4)) n T) (e5n : σ' (k + 5) n = 0) (e5T : 0 ≤ T → σ' (k + 5) T.toNat = σ (k + 5) T.toNat + 1) (e5 : ∀ i, i ≠ n → ¬ (0 ≤ T ∧ i = T.toNat) → σ' (k + 5) i = σ (k + 5) i) (e6 : σ' (k + 6) = upI (σ (k + 6)) n 0) (er : ∀ i, i = 2 ∨ (7 ≤ i ∧ i ≤ 13) → σ' (k + i) = σ (k + i))
    (b1 : b 1 = ((n + 1 : Nat) : Int)) (b16 : b (16 + n) = len) (b24 : b (24 + n) = T) (b32 : 0 ≤ T → b (Int.toNat (32 + T)) = a (Int.toNat (32 + T)) + 1) (bx : ∀ j, j ≠ 1 → j ≠ 16 + n → j ≠ 24 + n → ¬ (0 ≤ T ∧ j = Int.toNat (32 + T)) → b j = a j) : LandR σ' k b ∧ wfL b ∧ ZerR b ∧ InfR b := by
  obtain ⟨wC, wT, wR, wS, wF, wE, wW⟩ := hw
  obtain ⟨lC, lT, lR, lE, lW⟩ := LandR_iff.mp hL
  obtain ⟨c0, c1, c2, c3, c4, c5⟩ := wC
  obtain ⟨l0, l1, l2, l3, l4, l5⟩ := lC
  have b0 : b 0 = a 0 := bx 0 (by omega) (by omega) (by omega) (by omega)
  have b2 : b 2 = a 2 := bx 2 (by omega) (by omega) (by omega) (by omega)
  have b3 : b 3 = a 3 := bx 3 (by omega) (by omega) (by omega) (by omega)
  have b4 : b 4 = a 4 := bx 4 (by omega) (by omega) (by omega) (by omega)
  have b5 : b 5 = a 5 := bx 5 (by omega) (by omega) (by omega) (by omega)
  have z32 : a (32 + n) = 0 := by
    have := (hz.1 n (by omega) (by omega)).1
    rw [show Int.toNat (32 + (n : Int)) = 32 + n by omega] at this
    exact this
  have z40 : a (40 + n) = 0 := by
    have := (hz.1 n (by omega) (by omega)).2
    rw [show Int.toNat (40 + (n : Int)) = 40 + n by omega] at this
    exact this
  have hb32 : ∀ r : Int, 0 ≤ r → r < (n : Int) → (r ≠ T → b (Int.toNat (32 + r)) = a (Int.toNat (32 + r))) ∧ a (Int.toNat (32 + r)) ≤ b (Int.toNat (32 + r)) := by
    intro r r0 r1
    by_cases hT : r = T
    · refine ⟨fun q => absurd hT q, ?_⟩
      have := b32 (by omega)
      rw [hT, this]; omega
    · have := bx (Int.toNat (32 + r)) (by omega) (by omega) (by omega) (by omega)
      exact ⟨fun _ => this, by omega⟩
  refine ⟨LandR_iff.mpr ⟨⟨by rw [ek 13 (by omega) (by omega) (by omega), b0, l0], by rw [e14, b1], by rw [ek 15 (by omega) (by omega) (by omega), b2, l2], by rw [ek 16 (by omega) (by omega) (by omega), b3, l3], by rw [ek 17 (by omega) (by omega) (by omega), b4, l4], by rw [ek 18 (by omega) (by omega) (by omega), b5, l5]⟩, LdT_c lT (er 2 (by omega)) b0 c0.2 (fun j j0 j1 => bx j (by omega) (by omega) (by omega) (by omega)), fun r r0 r1 => ?_, LdE_c lE (fun i i0 i1 => er i (by omega)) b2 c2.2 (fun j j0 j1 => bx j (by omega) (by omega) (by omega) (by omega)), LdW_c lW (fun i i0 i1 => er i (by omega)) b4 c4.2 (fun j j0 j1 => bx j (by omega) (by omega) (by omega) (by omega))⟩, ⟨⟨by omega, by omega, by omega, by omega, by omega, by omega⟩, wfT_c wT b0 c0.2 (fun j j0 j1 => bx j (by omega) (by omega) (by omega) (by omega)), fun r r0 r1 => ?_, fun r j r0 r1 j0 j1 => ?_, ⟨fun q q0 q1 q2 => ?_, fun q1 q2 p0 p1 p2 p3 p4 => ?_⟩, wfE_c wE b2 (by omega) (by omega) c1.2 c2.2 (fun r r0 r1 => bx _ (by omega) (by omega) (by omega) (by omega)) (fun j j0 j1 => bx j (by omega) (by omega) (by omega) (by omega)), wfW_c wW b4 (by omega) c1.2 c4.2 (fun r r0 r1 => bx _ (by omega) (by omega) (by omega) (by omega)) (fun j j0 j1 => bx j (by omega) (by omega) (by omega) (by omega))⟩, ⟨fun r r0 r1 => ?_, fun e t e0 e1 t0 t1 => ?_, fun t m t0 t1 m0 m1 => ?_⟩, fun r r0 r1 => ?_⟩
  · by_cases hrn : r.toNat = n
    · rw [e3, e4, e6, hrn, upI_eq, upI_eq, upI_eq, e5n, show Int.toNat (16 + r) = 16 + n by omega, show Int.toNat (24 + r) = 24 + n by omega, show Int.toNat (32 + r) = 32 + n by omega, show Int.toNat (40 + r) = 40 + n by omega, b16, b24, bx (32 + n) (by omega) (by omega) (by omega) (by omega), z32, bx (40 + n) (by omega) (by omega) (by omega) (by omega), z40]
      exact ⟨⟨rfl, rfl, rfl, rfl⟩, fun j j0 j1 => by omega⟩
    · obtain ⟨⟨g2, g3, g4, g5⟩, g6⟩ := lR r r0 (by omega)
      have hrR := wR r r0 (by omega)
      rw [e3, e4, e6, upI_ne hrn, upI_ne hrn, upI_ne hrn, er 7 (by omega), bx (Int.toNat (16 + r)) (by omega) (by omega) (by omega) (by omega), bx (Int.toNat (24 + r)) (by omega) (by omega) (by omega) (by omega), bx (Int.toNat (40 + r)) (by omega) (by omega) (by omega) (by omega)]
      refine ⟨⟨g2, g3, ?_, g5⟩, fun j j0 j1 => ?_⟩
      · by_cases hT : r = T
        · subst hT
          rw [e5T r0, b32 r0, g4]
        · rw [e5 _ hrn (by omega), (hb32 r r0 (by omega)).1 hT, g4]
      · rw [bx _ (by omega) (by omega) (by omega) (by omega)]
        exact g6 j j0 j1
  · by_cases hrn : r.toNat = n
    · rw [show Int.toNat (16 + r) = 16 + n by omega, show Int.toNat (24 + r) = 24 + n by omega, show Int.toNat (32 + r) = 32 + n by omega, show Int.toNat (40 + r) = 40 + n by omega, b16, b24, bx (32 + n) (by omega) (by omega) (by omega) (by omega), z32, bx (40 + n) (by omega) (by omega) (by omega) (by omega), z40]
      omega
    · have hrR := wR r r0 (by omega)
      have hiR := hi r r0 (by omega)
      rw [bx (Int.toNat (16 + r)) (by omega) (by omega) (by omega) (by omega), bx (Int.toNat (24 + r)) (by omega) (by omega) (by omega) (by omega), bx (Int.toNat (40 + r)) (by omega) (by omega) (by omega) (by omega)]
      by_cases hT : r = T
      · subst hT
        rw [b32 r0]; omega
      · rw [(hb32 r r0 (by omega)).1 hT]
        exact hrR
  · by_cases hrn : r.toNat = n
    · rw [show Int.toNat (40 + r) = 40 + n by omega, bx (40 + n) (by omega) (by omega) (by omega) (by omega), z40] at j1
      omega
    · have hrR := wR r r0 (by omega)
      rw [bx (Int.toNat (40 + r)) (by omega) (by omega) (by omega) (by omega)] at j1
      rw [bx _ (by omega) (by omega) (by omega) (by omega), b0]
      exact wS r j r0 (by omega) j0 j1
  · by_cases hqn : q.toNat = n
    · rw [show Int.toNat (24 + q) = 24 + n by omega, b24] at q2 ⊢
      have := T2 q2
      have hTR := wR T q2 (by omega)
      rw [b32 q2, bx (Int.toNat (40 + T)) (by omega) (by omega) (by omega) (by omega)]
      omega
    · have hqR := wR q q0 (by omega)
      have e : b (Int.toNat (24 + q)) = a (Int.toNat (24 + q)) := bx _ (by omega) (by omega) (by omega) (by omega)
      rw [e] at q2 ⊢
      have h1 := wF.1 q q0 (by omega) q2
      have h2 := (hb32 (a (Int.toNat (24 + q))) q2 (by omega)).2
      rw [bx (Int.toNat (40 + a (Int.toNat (24 + q)))) (by omega) (by omega) (by omega) (by omega)]
      omega
  · have hq1R := wR q1 p0 (by omega)
    have e1 : b (Int.toNat (24 + q1)) = a (Int.toNat (24 + q1)) := bx _ (by omega) (by omega) (by omega) (by omega)
    rw [e1] at p3 p4 ⊢
    have h1 := wF.1 q1 p0 (by omega) p3
    by_cases hqn : q2.toNat = n
    · rw [show Int.toNat (24 + q2) = 24 + n by omega, b24] at p4
      rw [p4] at h1 p3 ⊢
      rw [b32 p3]
      omega
    · have e2 : b (Int.toNat (24 + q2)) = a (Int.toNat (24 + q2)) := bx _ (by omega) (by omega) (by omega) (by omega)
      rw [e2] at p4
      have h2 := wF.2 q1 q2 p0 p1 (by omega) p3 p4
      have h3 := (hb32 (a (Int.toNat (24 + q1))) p3 (by omega)).2
      omega
  · rw [b1] at r0
    rw [bx _ (by omega) (by omega) (by omega) (by omega), bx _ (by omega) (by omega) (by omega) (by omega)]
    exact hz.1 r (by omega) r1
  · rw [bx _ (by omega) (by omega) (by omega) (by omega)]; exact hz.2.1 e t (by omega) e1 t0 t1
  · rw [bx _ (by omega) (by omega) (by omega) (by omega)]; exact hz.2.2 t m (by omega) t1 m0 m1
  · rw [b1] at r1 ⊢
    by_cases hrn : r.toNat = n
    · rw [show Int.toNat (32 + r) = 32 + n by omega, bx (32 + n) (by omega) (by omega) (by omega) (by omega), z32]
      omega
    · have hiR := hi r r0 (by omega)
      by_cases hT : r = T
      · subst hT
        rw [b32 r0]; omega
      · rw [(hb32 r r0 (by omega)).1 hT]; omega
/-- what is said on a reach -/
theorem grow_said (hL : LandR σ k a) (hw : wfL a) (hz : ZerR a) (hi : InfR a) {R : Nat} (hR : (R : Int) < a 1) (h40 : a (40 + R) = 0) (h32 : a (32 + R) = 0) (n0 : 1 ≤ n) (n1 : n ≤ 12)
    (e6 : σ' (k + 6) = upI (σ (k + 6)) R (n : Int)) (e7 : ∀ j, j < n → σ' (k + 7) (12 * R + j) = b (48 + 12 * R + j)) (e7' : ∀ i, ¬ (12 * R ≤ i ∧ i < 12 * R + 12) → σ' (k + 7) i = σ (k + 7) i) (ek : ∀ i, 13 ≤ i → i ≤ 18 → σ' k i = σ k i) (er : ∀ i, 2 ≤ i → i ≤ 13 → i ≠ 6 → i ≠ 7 → σ' (k + i) = σ (k + i))
    (b40 : b (40 + R) = (n : Int)) (b48 : ∀ j, j < n → 0 ≤ b (48 + 12 * R + j) ∧ b (48 + 12 * R + j) < a 0) (bx : ∀ j, j ≠ 40 + R → ¬ (48 + 12 * R ≤ j ∧ j < 48 + 12 * R + 12) → b j = a j) : LandR σ' k b ∧ wfL b ∧ ZerR b ∧ InfR b := by
  obtain ⟨wC, wT, wR, wS, wF, wE, wW⟩ := hw
  obtain ⟨lC, lT, lR, lE, lW⟩ := LandR_iff.mp hL
  obtain ⟨c0, c1, c2, c3, c4, c5⟩ := wC
  obtain ⟨l0, l1, l2, l3, l4, l5⟩ := lC
  have b0 : b 0 = a 0 := bx 0 (by omega) (by omega)
  have b1 : b 1 = a 1 := bx 1 (by omega) (by omega)
  have b2 : b 2 = a 2 := bx 2 (by omega) (by omega)
  have b3 : b 3 = a 3 := bx 3 (by omega) (by omega)
  have b4 : b 4 = a 4 := bx 4 (by omega) (by omega)
  have b5 : b 5 = a 5 := bx 5 (by omega) (by omega)
  refine ⟨LandR_iff.mpr ⟨⟨by rw [ek 13 (by omega) (by omega), b0, l0], by rw [ek 14 (by omega) (by omega), b1, l1], by rw [ek 15 (by omega) (by omega), b2, l2], by rw [ek 16 (by omega) (by omega), b3, l3], by rw [ek 17 (by omega) (by omega), b4, l4], by rw [ek 18 (by omega) (by omega), b5, l5]⟩, LdT_c lT (er 2 (by omega) (by omega) (by omega) (by omega)) b0 c0.2 (fun j j0 j1 => bx j (by omega) (by omega)), fun r r0 r1 => ?_, LdE_c lE (fun i i0 i1 => er i (by omega) (by omega) (by omega) (by omega)) b2 c2.2 (fun j j0 j1 => bx j (by omega) (by omega)), LdW_c lW (fun i i0 i1 => er i (by omega) (by omega) (by omega) (by omega)) b4 c4.2 (fun j j0 j1 => bx j (by omega) (by omega))⟩, ⟨⟨by omega, by omega, by omega, by omega, by omega, by omega⟩, wfT_c wT b0 c0.2 (fun j j0 j1 => bx j (by omega) (by omega)), fun r r0 r1 => ?_, fun r j r0 r1 j0 j1 => ?_, ⟨fun q q0 q1 q2 => ?_, fun q1 q2 p0 p1 p2 p3 p4 => ?_⟩, wfE_c wE b2 (by omega) (by omega) c1.2 c2.2 (fun r r0 r1 => bx _ (by omega) (by omega)) (fun j j0 j1 => bx j (by omega) (by omega)), wfW_c wW b4 (by omega) c1.2 c4.2 (fun r r0 r1 => bx _ (by omega) (by omega)) (fun j j0 j1 => bx j (by omega) (by omega))⟩, ⟨fun r r0 r1 => ?_, fun e t e0 e1 t0 t1 => ?_, fun t m t0 t1 m0 m1 => ?_⟩, InfR_c hi b1 c1.2 (fun j j0 j1 => bx j (by omega) (by omega))⟩
  · rw [b1] at r1
    obtain ⟨⟨g2, g3, g4, g5⟩, g6⟩ := lR r r0 r1
    have hrR := wR r r0 r1
    rw [er 3 (by omega) (by omega) (by omega) (by omega), er 4 (by omega) (by omega) (by omega) (by omega), er 5 (by omega) (by omega) (by omega) (by omega), bx (Int.toNat (16 + r)) (by omega) (by omega), bx (Int.toNat (24 + r)) (by omega) (by omega), bx (Int.toNat (32 + r)) (by omega) (by omega), e6]
    by_cases hr : r.toNat = R
    · rw [hr, upI_eq, show Int.toNat (40 + r) = 40 + R by omega, b40]
      rw [hr] at g2 g3 g4
      refine ⟨⟨g2, g3, g4, rfl⟩, fun j j0 j1 => ?_⟩
      rw [show Int.toNat (r * 12 + j) = 12 * R + j.toNat by omega, show Int.toNat (48 + 12 * r + j) = 48 + 12 * R + j.toNat by omega]
      exact e7 _ (by omega)
    · rw [upI_ne hr, bx (Int.toNat (40 + r)) (by omega) (by omega)]
      refine ⟨⟨g2, g3, g4, g5⟩, fun j j0 j1 => ?_⟩
      rw [e7' _ (by omega), bx _ (by omega) (by omega)]
      exact g6 j j0 j1
  · rw [b1] at r1
    have hrR := wR r r0 r1
    rw [bx (Int.toNat (16 + r)) (by omega) (by omega), bx (Int.toNat (24 + r)) (by omega) (by omega), bx (Int.toNat (32 + r)) (by omega) (by omega)]
    by_cases hr : r.toNat = R
    · rw [show Int.toNat (40 + r) = 40 + R by omega, b40]; omega
    · rw [bx (Int.toNat (40 + r)) (by omega) (by omega)]; exact hrR
  · rw [b1] at r1
    have hrR := wR r r0 r1
    rw [b0]
    by_cases hr : r.toNat = R
    · rw [show Int.toNat (40 + r) = 40 + R by omega, b40] at j1
      rw [show Int.toNat (48 + 12 * r + j) = 48 + 12 * R + j.toNat by omega]
      exact b48 _ (by omega)
    · rw [bx (Int.toNat (40 + r)) (by omega) (by omega)] at j1
      rw [bx _ (by omega) (by omega)]
      exact wS r j r0 r1 j0 j1
  · rw [b1] at q1
    have hqR := wR q q0 q1
    have e : b (Int.toNat (24 + q)) = a (Int.toNat (24 + q)) := bx _ (by omega) (by omega)
    rw [e] at q2 ⊢
    have h1 := wF.1 q q0 q1 q2
    by_cases hr : (a (Int.toNat (24 + q))).toNat = R
    · exfalso
      rw [show Int.toNat (32 + a (Int.toNat (24 + q))) = 32 + R by omega] at h1
      omega
    · rw [bx (Int.toNat (40 + a (Int.toNat (24 + q)))) (by omega) (by omega), bx (Int.toNat (32 + a (Int.toNat (24 + q)))) (by omega) (by omega)]
      exact h1
  · rw [b1] at p2
    have hq1R := wR q1 p0 (by omega)
    have hq2R := wR q2 (by omega) p2
    have e1 : b (Int.toNat (24 + q1)) = a (Int.toNat (24 + q1)) := bx _ (by omega) (by omega)
    have e2 : b (Int.toNat (24 + q2)) = a (Int.toNat (24 + q2)) := bx _ (by omega) (by omega)
    rw [e1] at p3 p4 ⊢
    rw [e2] at p4
    rw [bx (Int.toNat (32 + a (Int.toNat (24 + q1)))) (by omega) (by omega)]
    exact wF.2 q1 q2 p0 p1 p2 p3 p4
  · rw [b1] at r0
    rw [bx (Int.toNat (32 + r)) (by omega) (by omega), bx (Int.toNat (40 + r)) (by omega) (by omega)]
    exact hz.1 r r0 r1
  · rw [b2] at e0
    rw [bx _ (by omega) (by omega)]; exact hz.2.1 e t e0 e1 t0 t1
  · rw [b4] at t0
    rw [bx _ (by omega) (by omega)]; exact hz.2.2 t m t0 t1 m0 m1
end G57
