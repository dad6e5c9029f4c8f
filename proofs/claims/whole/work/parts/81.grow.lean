/-! A COUNTRY grows by a line, both sides -/
section G56
variable {σ τ σ' τ' : zH} {k kn n m s : Nat} {nm nm' a b : Nat → Int}
theorem ZerR_c (h : ZerR a) (h1 : b 1 = a 1) (h2 : b 2 = a 2) (h4 : b 4 = a 4) (c1 : 0 ≤ a 1) (c2 : 0 ≤ a 2) (c4 : 0 ≤ a 4) (hb : ∀ j, (32 ≤ j ∧ j < 48) ∨ (156 ≤ j ∧ j < 216) ∨ (228 ≤ j ∧ j < 288) → b j = a j) : ZerR b := by
  obtain ⟨z1, z2, z3⟩ := h
  refine ⟨fun r r0 r1 => ?_, fun e t e0 e1 t0 t1 => ?_, fun t m t0 t1 m0 m1 => ?_⟩
  · rw [hb _ (by omega), hb _ (by omega)]; exact z1 r (by omega) r1
  · rw [hb _ (by omega)]; exact z2 e t (by omega) e1 t0 t1
  · rw [hb _ (by omega)]; exact z3 t m (by omega) t1 m0 m1
theorem grow_term (hL : LandR σ k a) (hw : wfL a) (hz : ZerR a) {s : Int} (hn : a 0 = (n : Int)) (h10 : n < 10) (s0 : 0 ≤ s) (s3 : s ≤ 3) (e13 : σ' k 13 = ((n + 1 : Nat) : Int)) (ek : ∀ i, 14 ≤ i → i ≤ 18 → σ' k i = σ k i) (e2 : σ' (k + 2) = upI (σ (k + 2)) n s) (er : ∀ i, 3 ≤ i → i ≤ 13 → σ' (k + i) = σ (k + i)) (hb : b = upI (upI a (6 + n) s) 0 ((n + 1 : Nat) : Int)) : LandR σ' k b ∧ wfL b ∧ ZerR b := by
  have b0 : b 0 = ((n + 1 : Nat) : Int) := by rw [hb, upI_eq]
  have bn : b (6 + n) = s := by rw [hb, upI_ne (by omega), upI_eq]
  have bx : ∀ j, j ≠ 0 → j ≠ 6 + n → b j = a j := fun j j0 jn => by rw [hb, upI_ne j0, upI_ne jn]
  clear hb
  obtain ⟨wC, wT, wR, wS, wF, wE, wW⟩ := hw
  obtain ⟨lC, lT, lR, lE, lW⟩ := LandR_iff.mp hL
  obtain ⟨c0, c1, c2, c3, c4, c5⟩ := wC
  obtain ⟨l0, l1, l2, l3, l4, l5⟩ := lC
  have b1 : b 1 = a 1 := bx 1 (by omega) (by omega)
  have b2 : b 2 = a 2 := bx 2 (by omega) (by omega)
  have b3 : b 3 = a 3 := bx 3 (by omega) (by omega)
  have b4 : b 4 = a 4 := bx 4 (by omega) (by omega)
  have b5 : b 5 = a 5 := bx 5 (by omega) (by omega)
  refine ⟨LandR_iff.mpr ⟨⟨by rw [e13, b0], by rw [ek 14 (by omega) (by omega), b1, l1], by rw [ek 15 (by omega) (by omega), b2, l2], by rw [ek 16 (by omega) (by omega), b3, l3], by rw [ek 17 (by omega) (by omega), b4, l4], by rw [ek 18 (by omega) (by omega), b5, l5]⟩, fun t t0 t1 => ?_, LdR_c lR wR (fun i i0 i1 => er i i0 (by omega)) b1 c1.2 (fun j j0 j1 => bx j (by omega) (by omega)), LdE_c lE (fun i i0 i1 => er i (by omega) (by omega)) b2 c2.2 (fun j j0 j1 => bx j (by omega) (by omega)), LdW_c lW (fun i i0 i1 => er i (by omega) (by omega)) b4 c4.2 (fun j j0 j1 => bx j (by omega) (by omega))⟩, ⟨⟨by omega, by omega, by omega, by omega, by omega, by omega⟩, fun t t0 t1 => ?_, wfR_c wR b1 c1.2 (fun j j0 j1 => bx j (by omega) (by omega)), wfS_c wS wR b1 (by omega) c1.2 (fun j j0 j1 => bx j (by omega) (by omega)), wfF_c wF wR b1 c1.2 (fun j j0 j1 => bx j (by omega) (by omega)), wfE_c wE b2 (by omega) (by omega) c1.2 c2.2 (fun r r0 r1 => bx _ (by omega) (by omega)) (fun j j0 j1 => bx j (by omega) (by omega)), wfW_c wW b4 (by omega) c1.2 c4.2 (fun r r0 r1 => bx _ (by omega) (by omega)) (fun j j0 j1 => bx j (by omega) (by omega))⟩, ZerR_c hz b1 b2 b4 c1.1 c2.1 c4.1 (fun j hj => bx j (by omega) (by omega))⟩
  · rw [e2]
    by_cases htn : t.toNat = n
    · rw [htn, upI_eq, show Int.toNat (6 + t) = 6 + n by omega, bn]
    · rw [upI_ne htn, bx _ (by omega) (by omega)]
      exact lT t t0 (by omega)
  · by_cases htn : t.toNat = n
    · rw [show Int.toNat (6 + t) = 6 + n by omega, bn]; exact ⟨s0, s3⟩
    · rw [bx _ (by omega) (by omega)]
      exact wT t t0 (by omega)
theorem grow_editor (hL : LandR σ k a) (hw : wfL a) (hz : ZerR a) {r p : Int} (hn : a 2 = (n : Int)) (h6 : n < 6) (r0 : 0 ≤ r) (r1 : r < a 1) (p0 : 0 ≤ p) (p1 : p < a (Int.toNat (16 + r))) (hf : ∀ f : Int, ¬ edAt a r p f) (e15 : σ' k 15 = ((n + 1 : Nat) : Int)) (ek : ∀ i, 13 ≤ i → i ≤ 18 → i ≠ 15 → σ' k i = σ k i) (e8 : σ' (k + 8) = upI (σ (k + 8)) n r) (e9 : σ' (k + 9) = upI (σ (k + 9)) n p) (e10 : ∀ i, i < 10 → σ' (k + 10) (n * 10 + i) = (i : Int)) (e10' : ∀ i, ¬ (n * 10 ≤ i ∧ i < n * 10 + 10) → σ' (k + 10) i = σ (k + 10) i) (er : ∀ i, 2 ≤ i → i ≤ 13 → ¬ (8 ≤ i ∧ i ≤ 10) → σ' (k + i) = σ (k + i)) (hb : b = upI (upI (upI a (144 + n) r) (150 + n) p) 2 ((n + 1 : Nat) : Int)) : LandR σ' k b ∧ wfL b ∧ ZerR b := by
  have b2 : b 2 = ((n + 1 : Nat) : Int) := by rw [hb, upI_eq]
  have bp : b (150 + n) = p := by rw [hb, upI_ne (by omega), upI_eq]
  have br : b (144 + n) = r := by rw [hb, upI_ne (by omega), upI_ne (by omega), upI_eq]
  have bx : ∀ j, j ≠ 2 → j ≠ 144 + n → j ≠ 150 + n → b j = a j := fun j j0 jn jm => by rw [hb, upI_ne j0, upI_ne jm, upI_ne jn]
  clear hb
  obtain ⟨wC, wT, wR, wS, wF, wE, wW⟩ := hw
  obtain ⟨lC, lT, lR, lE, lW⟩ := LandR_iff.mp hL
  obtain ⟨c0, c1, c2, c3, c4, c5⟩ := wC
  obtain ⟨l0, l1, l2, l3, l4, l5⟩ := lC
  have b0 : b 0 = a 0 := bx 0 (by omega) (by omega) (by omega)
  have b1 : b 1 = a 1 := bx 1 (by omega) (by omega) (by omega)
  have b3 : b 3 = a 3 := bx 3 (by omega) (by omega) (by omega)
  have b4 : b 4 = a 4 := bx 4 (by omega) (by omega) (by omega)
  have b5 : b 5 = a 5 := bx 5 (by omega) (by omega) (by omega)
  have hmade : ∀ t : Int, 0 ≤ t → t < 10 → a (Int.toNat (156 + 10 * (n : Int) + t)) = 0 := fun t t0 t1 => hz.2.1 n t (by omega) (by omega) t0 t1
  refine ⟨LandR_iff.mpr ⟨⟨by rw [ek 13 (by omega) (by omega) (by omega), b0, l0], by rw [ek 14 (by omega) (by omega) (by omega), b1, l1], by rw [e15, b2], by rw [ek 16 (by omega) (by omega) (by omega), b3, l3], by rw [ek 17 (by omega) (by omega) (by omega), b4, l4], by rw [ek 18 (by omega) (by omega) (by omega), b5, l5]⟩, LdT_c lT (er 2 (by omega) (by omega) (by omega)) b0 c0.2 (fun j j0 j1 => bx j (by omega) (by omega) (by omega)), LdR_c lR wR (fun i i0 i1 => er i (by omega) (by omega) (by omega)) b1 c1.2 (fun j j0 j1 => bx j (by omega) (by omega) (by omega)), fun e e0 e1 => ?_, LdW_c lW (fun i i0 i1 => er i (by omega) (by omega) (by omega)) b4 c4.2 (fun j j0 j1 => bx j (by omega) (by omega) (by omega))⟩, ⟨⟨by omega, by omega, by omega, by omega, by omega, by omega⟩, wfT_c wT b0 c0.2 (fun j j0 j1 => bx j (by omega) (by omega) (by omega)), wfR_c wR b1 c1.2 (fun j j0 j1 => bx j (by omega) (by omega) (by omega)), wfS_c wS wR b1 (by omega) c1.2 (fun j j0 j1 => bx j (by omega) (by omega) (by omega)), wfF_c wF wR b1 c1.2 (fun j j0 j1 => bx j (by omega) (by omega) (by omega)), ⟨fun e e0 e1 => ?_, fun e f e0 e1 e2 => ?_, fun e t e0 e1 t0 t1 => ?_⟩, wfW_c wW b4 (by omega) c1.2 c4.2 (fun r r0 r1 => bx _ (by omega) (by omega) (by omega)) (fun j j0 j1 => bx j (by omega) (by omega) (by omega))⟩, ⟨fun r r0 r1 => ?_, fun e t e0 e1 t0 t1 => ?_, fun t m t0 t1 m0 m1 => ?_⟩⟩
  · by_cases hen : e.toNat = n
    · have hen' : e = (n : Int) := by omega
      subst hen'
      rw [e8, e9, hen, upI_eq, upI_eq, show Int.toNat (144 + (n : Int)) = 144 + n by omega, show Int.toNat (150 + (n : Int)) = 150 + n by omega, br, bp]
      refine ⟨⟨rfl, rfl⟩, fun t t0 t1 => ?_⟩
      rw [bx _ (by omega) (by omega) (by omega), hmade t t0 t1, if_pos rfl, show Int.toNat ((n : Int) * 10 + t) = n * 10 + t.toNat by omega, e10 _ (by omega)]
      omega
    · obtain ⟨g1, g2⟩ := lE e e0 (by omega)
      rw [e8, e9, upI_ne hen, upI_ne hen, bx (Int.toNat (144 + e)) (by omega) (by omega) (by omega), bx (Int.toNat (150 + e)) (by omega) (by omega) (by omega)]
      refine ⟨g1, fun t t0 t1 => ?_⟩
      rw [e10' _ (by omega), bx _ (by omega) (by omega) (by omega)]
      exact g2 t t0 t1
  · by_cases hen : e.toNat = n
    · rw [show Int.toNat (144 + e) = 144 + n by omega, show Int.toNat (150 + e) = 150 + n by omega, br, bp, b1, bx _ (by omega) (by omega) (by omega)]
      exact ⟨⟨r0, r1⟩, p0, p1⟩
    · have := wE.1 e e0 (by omega)
      rw [bx (Int.toNat (144 + e)) (by omega) (by omega) (by omega), bx (Int.toNat (150 + e)) (by omega) (by omega) (by omega), b1, bx _ (by omega) (by omega) (by omega)]
      exact this
  · have x1 : b (Int.toNat (144 + e)) = a (Int.toNat (144 + e)) := bx _ (by omega) (by omega) (by omega)
    have x2 : b (Int.toNat (150 + e)) = a (Int.toNat (150 + e)) := bx _ (by omega) (by omega) (by omega)
    rw [x1, x2]
    by_cases hfn : f.toNat = n
    · rw [show Int.toNat (144 + f) = 144 + n by omega, show Int.toNat (150 + f) = 150 + n by omega, br, bp]
      exact fun q => hf e ⟨e0, by omega, q.1, q.2⟩
    · rw [bx (Int.toNat (144 + f)) (by omega) (by omega) (by omega), bx (Int.toNat (150 + f)) (by omega) (by omega) (by omega)]
      exact wE.2.1 e f e0 e1 (by omega)
  · rw [b0, bx _ (by omega) (by omega) (by omega)]
    by_cases hen : e.toNat = n
    · have := hmade t t0 t1
      rw [show (n : Int) = e by omega] at this
      omega
    · exact wE.2.2 e t e0 (by omega) t0 t1
  · rw [bx _ (by omega) (by omega) (by omega), bx _ (by omega) (by omega) (by omega)]; exact hz.1 r (by omega) r1
  · rw [bx _ (by omega) (by omega) (by omega)]; exact hz.2.1 e t (by omega) e1 t0 t1
  · rw [bx _ (by omega) (by omega) (by omega)]; exact hz.2.2 t m (by omega) t1 m0 m1
theorem grow_town (hL : LandR σ k a) (hw : wfL a) (hz : ZerR a) {r p : Int} (hn : a 4 = (n : Int)) (h6 : n < 6) (r0 : 0 ≤ r) (r1 : r < a 1) (p0 : 0 ≤ p) (p1 : p < a (Int.toNat (16 + r))) (e17 : σ' k 17 = ((n + 1 : Nat) : Int)) (ek : ∀ i, 13 ≤ i → i ≤ 18 → i ≠ 17 → σ' k i = σ k i) (e11 : σ' (k + 11) = upI (σ (k + 11)) n r) (e12 : σ' (k + 12) = upI (σ (k + 12)) n p) (e13 : σ' (k + 13) = upI (σ (k + 13)) n 0) (er : ∀ i, 2 ≤ i → i ≤ 10 → σ' (k + i) = σ (k + i)) (hb : b = upI (upI (upI a (216 + n) r) (222 + n) p) 4 ((n + 1 : Nat) : Int)) : LandR σ' k b ∧ wfL b ∧ ZerR b := by
  have b4 : b 4 = ((n + 1 : Nat) : Int) := by rw [hb, upI_eq]
  have bp : b (222 + n) = p := by rw [hb, upI_ne (by omega), upI_eq]
  have br : b (216 + n) = r := by rw [hb, upI_ne (by omega), upI_ne (by omega), upI_eq]
  have bx : ∀ j, j ≠ 4 → j ≠ 216 + n → j ≠ 222 + n → b j = a j := fun j j0 jn jm => by rw [hb, upI_ne j0, upI_ne jm, upI_ne jn]
  clear hb
  obtain ⟨wC, wT, wR, wS, wF, wE, wW⟩ := hw
  obtain ⟨lC, lT, lR, lE, lW⟩ := LandR_iff.mp hL
  obtain ⟨c0, c1, c2, c3, c4, c5⟩ := wC
  obtain ⟨l0, l1, l2, l3, l4, l5⟩ := lC
  have b0 : b 0 = a 0 := bx 0 (by omega) (by omega) (by omega)
  have b1 : b 1 = a 1 := bx 1 (by omega) (by omega) (by omega)
  have b2 : b 2 = a 2 := bx 2 (by omega) (by omega) (by omega)
  have b3 : b 3 = a 3 := bx 3 (by omega) (by omega) (by omega)
  have b5 : b 5 = a 5 := bx 5 (by omega) (by omega) (by omega)
  have htaste : ∀ t : Int, 0 ≤ t → t < 10 → a (Int.toNat (228 + 10 * (n : Int) + t)) = 0 := fun t t0 t1 => hz.2.2 n t (by omega) (by omega) t0 t1
  refine ⟨LandR_iff.mpr ⟨⟨by rw [ek 13 (by omega) (by omega) (by omega), b0, l0], by rw [ek 14 (by omega) (by omega) (by omega), b1, l1], by rw [ek 15 (by omega) (by omega) (by omega), b2, l2], by rw [ek 16 (by omega) (by omega) (by omega), b3, l3], by rw [e17, b4], by rw [ek 18 (by omega) (by omega) (by omega), b5, l5]⟩, LdT_c lT (er 2 (by omega) (by omega)) b0 c0.2 (fun j j0 j1 => bx j (by omega) (by omega) (by omega)), LdR_c lR wR (fun i i0 i1 => er i (by omega) (by omega)) b1 c1.2 (fun j j0 j1 => bx j (by omega) (by omega) (by omega)), LdE_c lE (fun i i0 i1 => er i (by omega) (by omega)) b2 c2.2 (fun j j0 j1 => bx j (by omega) (by omega) (by omega)), fun t t0 t1 => ?_⟩, ⟨⟨by omega, by omega, by omega, by omega, by omega, by omega⟩, wfT_c wT b0 c0.2 (fun j j0 j1 => bx j (by omega) (by omega) (by omega)), wfR_c wR b1 c1.2 (fun j j0 j1 => bx j (by omega) (by omega) (by omega)), wfS_c wS wR b1 (by omega) c1.2 (fun j j0 j1 => bx j (by omega) (by omega) (by omega)), wfF_c wF wR b1 c1.2 (fun j j0 j1 => bx j (by omega) (by omega) (by omega)), wfE_c wE b2 (by omega) (by omega) c1.2 c2.2 (fun r r0 r1 => bx _ (by omega) (by omega) (by omega)) (fun j j0 j1 => bx j (by omega) (by omega) (by omega)), ⟨fun t t0 t1 => ?_, fun t m t0 t1 m0 m1 => ?_⟩⟩, ⟨fun r r0 r1 => ?_, fun e t e0 e1 t0 t1 => ?_, fun t m t0 t1 m0 m1 => ?_⟩⟩
  · by_cases htn : t.toNat = n
    · have htn' : t = (n : Int) := by omega
      subst htn'
      rw [e11, e12, e13, htn, upI_eq, upI_eq, upI_eq, show Int.toNat (216 + (n : Int)) = 216 + n by omega, show Int.toNat (222 + (n : Int)) = 222 + n by omega, br, bp]
      refine ⟨⟨rfl, rfl⟩, 0, by omega, rfl, fun m hm => ?_⟩
      rw [bx _ (by omega) (by omega) (by omega), htaste m (by omega) (by omega), Nat.zero_testBit]
      constructor
      · intro q; cases q
      · intro q; cases q
    · obtain ⟨g1, N, g2, g3, g4⟩ := lW t t0 (by omega)
      rw [e11, e12, e13, upI_ne htn, upI_ne htn, upI_ne htn, bx (Int.toNat (216 + t)) (by omega) (by omega) (by omega), bx (Int.toNat (222 + t)) (by omega) (by omega) (by omega)]
      refine ⟨g1, N, g2, g3, fun m hm => ?_⟩
      rw [bx _ (by omega) (by omega) (by omega)]
      exact g4 m hm
  · by_cases htn : t.toNat = n
    · rw [show Int.toNat (216 + t) = 216 + n by omega, show Int.toNat (222 + t) = 222 + n by omega, br, bp, b1, bx _ (by omega) (by omega) (by omega)]
      exact ⟨⟨r0, r1⟩, p0, p1⟩
    · have := wW.1 t t0 (by omega)
      rw [bx (Int.toNat (216 + t)) (by omega) (by omega) (by omega), bx (Int.toNat (222 + t)) (by omega) (by omega) (by omega), b1, bx _ (by omega) (by omega) (by omega)]
      exact this
  · rw [bx _ (by omega) (by omega) (by omega)]
    by_cases htn : t.toNat = n
    · have := htaste m m0 m1
      rw [show (n : Int) = t by omega] at this
      omega
    · exact wW.2 t m t0 (by omega) m0 m1
  · rw [bx _ (by omega) (by omega) (by omega), bx _ (by omega) (by omega) (by omega)]; exact hz.1 r (by omega) r1
  · rw [bx _ (by omega) (by omega) (by omega)]; exact hz.2.1 e t (by omega) e1 t0 t1
  · rw [bx _ (by omega) (by omega) (by omega)]; exact hz.2.2 t m (by omega) t1 m0 m1
/-- an editor turns or strikes a term -/
theorem grow_change (hL : LandR σ k a) (hw : wfL a) (hz : ZerR a) {e t w : Int} (hn : a 3 = (n : Int)) (h20 : n < 20) (e0 : 0 ≤ e) (e1 : e < a 2) (t0 : 0 ≤ t) (t1 : t < a 0) (w0 : 1 ≤ w) (w1 : w < 2 + a 0) (w2 : w ≠ 2 + t) (e16 : σ' k 16 = ((n + 1 : Nat) : Int)) (ek : ∀ i, 13 ≤ i → i ≤ 18 → i ≠ 16 → σ' k i = σ k i) (e10 : σ' (k + 10) = upI (σ (k + 10)) (Int.toNat (e * 10 + t)) (w - 2)) (er : ∀ i, 2 ≤ i → i ≤ 13 → i ≠ 10 → σ' (k + i) = σ (k + i)) (hb : b = upI (upI a (Int.toNat (156 + 10 * e + t)) w) 3 ((n + 1 : Nat) : Int)) : LandR σ' k b ∧ wfL b ∧ ZerR b := by
  obtain ⟨wC, wT, wR, wS, wF, wE, wW⟩ := hw
  obtain ⟨lC, lT, lR, lE, lW⟩ := LandR_iff.mp hL
  obtain ⟨c0, c1, c2, c3, c4, c5⟩ := wC
  obtain ⟨l0, l1, l2, l3, l4, l5⟩ := lC
  have b3 : b 3 = ((n + 1 : Nat) : Int) := by rw [hb, upI_eq]
  have bw : b (Int.toNat (156 + 10 * e + t)) = w := by rw [hb, upI_ne (by omega), upI_eq]
  have bx : ∀ j, j ≠ 3 → j ≠ Int.toNat (156 + 10 * e + t) → b j = a j := fun j j0 jn => by rw [hb, upI_ne j0, upI_ne jn]
  clear hb
  have b0 : b 0 = a 0 := bx 0 (by omega) (by omega)
  have b1 : b 1 = a 1 := bx 1 (by omega) (by omega)
  have b2 : b 2 = a 2 := bx 2 (by omega) (by omega)
  have b4 : b 4 = a 4 := bx 4 (by omega) (by omega)
  have b5 : b 5 = a 5 := bx 5 (by omega) (by omega)
  refine ⟨LandR_iff.mpr ⟨⟨by rw [ek 13 (by omega) (by omega) (by omega), b0, l0], by rw [ek 14 (by omega) (by omega) (by omega), b1, l1], by rw [ek 15 (by omega) (by omega) (by omega), b2, l2], by rw [e16, b3], by rw [ek 17 (by omega) (by omega) (by omega), b4, l4], by rw [ek 18 (by omega) (by omega) (by omega), b5, l5]⟩, LdT_c lT (er 2 (by omega) (by omega) (by omega)) b0 c0.2 (fun j j0 j1 => bx j (by omega) (by omega)), LdR_c lR wR (fun i i0 i1 => er i (by omega) (by omega) (by omega)) b1 c1.2 (fun j j0 j1 => bx j (by omega) (by omega)), fun f f0 f1 => ?_, LdW_c lW (fun i i0 i1 => er i (by omega) (by omega) (by omega)) b4 c4.2 (fun j j0 j1 => bx j (by omega) (by omega))⟩, ⟨⟨by omega, by omega, by omega, by omega, by omega, by omega⟩, wfT_c wT b0 c0.2 (fun j j0 j1 => bx j (by omega) (by omega)), wfR_c wR b1 c1.2 (fun j j0 j1 => bx j (by omega) (by omega)), wfS_c wS wR b1 (by omega) c1.2 (fun j j0 j1 => bx j (by omega) (by omega)), wfF_c wF wR b1 c1.2 (fun j j0 j1 => bx j (by omega) (by omega)), ⟨fun f f0 f1 => ?_, fun f g f0 f1 f2 => ?_, fun f u f0 f1 u0 u1 => ?_⟩, wfW_c wW b4 (by omega) c1.2 c4.2 (fun r r0 r1 => bx _ (by omega) (by omega)) (fun j j0 j1 => bx j (by omega) (by omega))⟩, ⟨fun r r0 r1 => ?_, fun f u f0 f1 u0 u1 => ?_, fun u m u0 u1 m0 m1 => ?_⟩⟩
  · obtain ⟨g1, g2⟩ := lE f f0 (by omega)
    rw [er 8 (by omega) (by omega) (by omega), er 9 (by omega) (by omega) (by omega), bx (Int.toNat (144 + f)) (by omega) (by omega), bx (Int.toNat (150 + f)) (by omega) (by omega), e10]
    refine ⟨g1, fun u u0 u1 => ?_⟩
    by_cases hh : f = e ∧ u = t
    · obtain ⟨rfl, rfl⟩ := hh
      rw [upI_eq, bw, if_neg (by omega)]
    · rw [upI_ne (by omega), bx _ (by omega) (by omega)]
      exact g2 u u0 u1
  · have := wE.1 f f0 (by omega)
    rw [bx (Int.toNat (144 + f)) (by omega) (by omega), bx (Int.toNat (150 + f)) (by omega) (by omega), b1, bx _ (by omega) (by omega)]
    exact this
  · rw [bx (Int.toNat (144 + f)) (by omega) (by omega), bx (Int.toNat (150 + f)) (by omega) (by omega), bx (Int.toNat (144 + g)) (by omega) (by omega), bx (Int.toNat (150 + g)) (by omega) (by omega)]
    exact wE.2.1 f g f0 f1 (by omega)
  · rw [b0]
    by_cases hh : f = e ∧ u = t
    · obtain ⟨rfl, rfl⟩ := hh
      rw [bw]; omega
    · rw [bx _ (by omega) (by omega)]
      exact wE.2.2 f u f0 (by omega) u0 u1
  · rw [bx _ (by omega) (by omega), bx _ (by omega) (by omega)]; exact hz.1 r (by omega) r1
  · rw [bx _ (by omega) (by omega)]; exact hz.2.1 f u (by omega) f1 u0 u1
  · rw [bx _ (by omega) (by omega)]; exact hz.2.2 u m (by omega) u1 m0 m1
/-- a town likes a term -/
theorem grow_taste (hL : LandR σ k a) (hw : wfL a) (hz : ZerR a) {t w : Int} (hn : a 5 = (n : Int)) (h12 : n < 12) (t0 : 0 ≤ t) (t1 : t < a 4) (w0 : 0 ≤ w) (w1 : w < a 0) (e18 : σ' k 18 = ((n + 1 : Nat) : Int)) (ek : ∀ i, 13 ≤ i → i ≤ 17 → σ' k i = σ k i) (e13 : σ' (k + 13) = upI (σ (k + 13)) (Int.toNat t) (zor (σ (k + 13) (Int.toNat t)) (zshl 1 w))) (er : ∀ i, 2 ≤ i → i ≤ 12 → σ' (k + i) = σ (k + i)) (hb : b = upI (upI a (Int.toNat (228 + 10 * t + w)) 1) 5 ((n + 1 : Nat) : Int)) : LandR σ' k b ∧ wfL b ∧ ZerR b := by
  obtain ⟨wC, wT, wR, wS, wF, wE, wW⟩ := hw
  obtain ⟨lC, lT, lR, lE, lW⟩ := LandR_iff.mp hL
  obtain ⟨c0, c1, c2, c3, c4, c5⟩ := wC
  obtain ⟨l0, l1, l2, l3, l4, l5⟩ := lC
  have b5 : b 5 = ((n + 1 : Nat) : Int) := by rw [hb, upI_eq]
  have bw : b (Int.toNat (228 + 10 * t + w)) = 1 := by rw [hb, upI_ne (by omega), upI_eq]
  have bx : ∀ j, j ≠ 5 → j ≠ Int.toNat (228 + 10 * t + w) → b j = a j := fun j j0 jn => by rw [hb, upI_ne j0, upI_ne jn]
  clear hb
  have b0 : b 0 = a 0 := bx 0 (by omega) (by omega)
  have b1 : b 1 = a 1 := bx 1 (by omega) (by omega)
  have b2 : b 2 = a 2 := bx 2 (by omega) (by omega)
  have b3 : b 3 = a 3 := bx 3 (by omega) (by omega)
  have b4 : b 4 = a 4 := bx 4 (by omega) (by omega)
  refine ⟨LandR_iff.mpr ⟨⟨by rw [ek 13 (by omega) (by omega), b0, l0], by rw [ek 14 (by omega) (by omega), b1, l1], by rw [ek 15 (by omega) (by omega), b2, l2], by rw [ek 16 (by omega) (by omega), b3, l3], by rw [ek 17 (by omega) (by omega), b4, l4], by rw [e18, b5]⟩, LdT_c lT (er 2 (by omega) (by omega)) b0 c0.2 (fun j j0 j1 => bx j (by omega) (by omega)), LdR_c lR wR (fun i i0 i1 => er i (by omega) (by omega)) b1 c1.2 (fun j j0 j1 => bx j (by omega) (by omega)), LdE_c lE (fun i i0 i1 => er i (by omega) (by omega)) b2 c2.2 (fun j j0 j1 => bx j (by omega) (by omega)), fun u u0 u1 => ?_⟩, ⟨⟨by omega, by omega, by omega, by omega, by omega, by omega⟩, wfT_c wT b0 c0.2 (fun j j0 j1 => bx j (by omega) (by omega)), wfR_c wR b1 c1.2 (fun j j0 j1 => bx j (by omega) (by omega)), wfS_c wS wR b1 (by omega) c1.2 (fun j j0 j1 => bx j (by omega) (by omega)), wfF_c wF wR b1 c1.2 (fun j j0 j1 => bx j (by omega) (by omega)), wfE_c wE b2 (by omega) (by omega) c1.2 c2.2 (fun r r0 r1 => bx _ (by omega) (by omega)) (fun j j0 j1 => bx j (by omega) (by omega)), ⟨fun u u0 u1 => ?_, fun u m u0 u1 m0 m1 => ?_⟩⟩, ⟨fun r r0 r1 => ?_, fun f u f0 f1 u0 u1 => ?_, fun u m u0 u1 m0 m1 => ?_⟩⟩
  · obtain ⟨g1, N, g2, g3, g4⟩ := lW u u0 (by omega)
    rw [er 11 (by omega) (by omega), er 12 (by omega) (by omega), bx (Int.toNat (216 + u)) (by omega) (by omega), bx (Int.toNat (222 + u)) (by omega) (by omega), e13]
    refine ⟨g1, ?_⟩
    by_cases hut : u = t
    · subst hut
      obtain ⟨W, hW⟩ : ∃ W : Nat, w = (W : Int) := ⟨w.toNat, by omega⟩
      subst hW
      have hp : 2 ^ W < 1024 := by
        have : 2 ^ W ≤ 2 ^ 9 := Nat.pow_le_pow_right (by decide) (by omega)
        omega
      refine ⟨N ||| 2 ^ W, Nat.or_lt_two_pow (n := 10) g2 hp, ?_, fun m hm => ?_⟩
      · rw [upI_eq, g3, zshl_1 (by omega), zor_nat (by omega) (by omega)]
      · rw [tb_or_pow]
        by_cases hmW : W = m
        · subst hmW
          rw [show Int.toNat (228 + 10 * u + (W : Int)) = Int.toNat (228 + 10 * u + (W : Int)) from rfl, bw]
          simp
        · rw [bx _ (by omega) (by omega), ← g4 m hm]
          simp [hmW]
    · refine ⟨N, g2, by rw [upI_ne (by omega)]; exact g3, fun m hm => ?_⟩
      rw [bx _ (by omega) (by omega)]
      exact g4 m hm
  · have := wW.1 u u0 (by omega)
    rw [bx (Int.toNat (216 + u)) (by omega) (by omega), bx (Int.toNat (222 + u)) (by omega) (by omega), b1, bx _ (by omega) (by omega)]
    exact this
  · by_cases hh : u = t ∧ m = w
    · obtain ⟨rfl, rfl⟩ := hh
      rw [bw]; omega
    · rw [bx _ (by omega) (by omega)]
      exact wW.2 u m u0 (by omega) m0 m1
  · rw [bx _ (by omega) (by omega), bx _ (by omega) (by omega)]; exact hz.1 r (by omega) r1
  · rw [bx _ (by omega) (by omega)]; exact hz.2.1 f u (by omega) f1 u0 u1
  · rw [bx _ (by omega) (by omega)]; exact hz.2.2 u m (by omega) u1 m0 m1
end G56
