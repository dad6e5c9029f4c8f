/-! ROWS of the reference that are kept and brought back; a stream's relation moved -/
section G16
variable {σ τ : zH} {k : Nat} {a b : Nat → Int}
theorem m_tries_l : ∀ (r i : Nat) (σ : zH), i + r = 2490 → (∀ j, j ≠ 23 → σ j = τ j) → (∀ q, q < i → σ 23 q = τ 7 (288 + q)) → ∃ σ', f_M_tries_2 σ (i : Int) = some (σ', 0) ∧ (∀ j, j ≠ 23 → σ' j = τ j) ∧ ∀ q, q < 2490 → σ' 23 q = τ 7 (288 + q)
  | 0, i, σ, h, s1, s2 => ⟨σ, by rw [e_M_tries_2, if_pos (by omega)], s1, fun q hq => s2 q (by omega)⟩
  | r + 1, i, σ, h, s1, s2 => by
    obtain ⟨σ', h1, h2, h3⟩ := m_tries_l r (i + 1) (zset σ 23 i (σ 7 (288 + i))) (by omega) (fun j hj => by rw [zk hj]; exact s1 j hj) (fun q hq => by
      by_cases hqi : q = i
      · rw [hqi, zs, s1 7 (by decide)]
      · rw [zi hqi]; exact s2 q (by omega))
    refine ⟨σ', ?_, h2, h3⟩
    rw [e_M_tries_2, if_neg (by omega), w32_id (x := 288 + (i : Int)) (by omega) (by omega), if_pos (zin_t (by omega) (by omega)), if_pos (zin_t (by omega) (by omega)), w32_s (by omega), ← h1]
    rw [show Int.toNat (288 + (i : Int)) = 288 + i by omega]
    rfl
theorem m_tries : ∃ τ', f_M_tries τ = some (τ', 0) ∧ (∀ j, j ≠ 23 → τ' j = τ j) ∧ ∀ q, q < 2490 → τ' 23 q = τ 7 (288 + q) := by
  rw [e_M_tries]
  exact m_tries_l 2490 0 τ (by omega) (fun _ _ => rfl) (fun q hq => by omega)
theorem m_back_l : ∀ (r i : Nat) (σ : zH), i + r = 2490 → (∀ j, j ≠ 7 → σ j = τ j) → (∀ q, ¬ (288 ≤ q ∧ q < 2778) → σ 7 q = τ 7 q) → (∀ q, q < i → σ 7 (288 + q) = τ 23 q) → ∃ σ', f_M_back_2 σ (i : Int) = some (σ', 0) ∧ (∀ j, j ≠ 7 → σ' j = τ j) ∧ (∀ q, ¬ (288 ≤ q ∧ q < 2778) → σ' 7 q = τ 7 q) ∧ ∀ q, q < 2490 → σ' 7 (288 + q) = τ 23 q
  | 0, i, σ, h, s1, s2, s3 => ⟨σ, by rw [e_M_back_2, if_pos (by omega)], s1, s2, fun q hq => s3 q (by omega)⟩
  | r + 1, i, σ, h, s1, s2, s3 => by
    obtain ⟨σ', h1, h2, h3⟩ := m_back_l r (i + 1) (zset σ 7 (288 + i) (σ 23 i)) (by omega) (fun j hj => by rw [zk hj]; exact s1 j hj) (fun q hq => by rw [zi (by omega)]; exact s2 q hq) (fun q hq => by
      by_cases hqi : q = i
      · rw [hqi, zs, s1 23 (by decide)]
      · rw [zi (by omega)]; exact s3 q (by omega))
    refine ⟨σ', ?_, h2, h3⟩
    rw [e_M_back_2, if_neg (by omega), w32_id (x := 288 + (i : Int)) (by omega) (by omega), if_pos (zin_t (by omega) (by omega)), if_pos (zin_t (by omega) (by omega)), w32_s (by omega), ← h1]
    rw [show Int.toNat (288 + (i : Int)) = 288 + i by omega]
    rfl
theorem m_back : ∃ τ', f_M_back τ = some (τ', 0) ∧ (∀ j, j ≠ 7 → τ' j = τ j) ∧ (∀ q, ¬ (288 ≤ q ∧ q < 2778) → τ' 7 q = τ 7 q) ∧ ∀ q, q < 2490 → τ' 7 (288 + q) = τ 23 q := by
  rw [e_M_back]
  exact m_back_l 2490 0 τ (by omega) (fun _ _ => rfl) (fun _ _ => rfl) (fun q hq => by omega)
theorem m_undo_l {n : Nat} (hn : n < 4) (h23 : τ 0 23 = (n : Int)) : ∀ (r i : Nat) (σ : zH), i + r = 2490 → (∀ j, j ≠ 7 → σ j = τ j) → (∀ q, ¬ (288 ≤ q ∧ q < 2778) → σ 7 q = τ 7 q) → (∀ q, q < i → σ 7 (288 + q) = τ 22 (2490 * n + q)) → ∃ σ', f_M_undo_26 σ (i : Int) = some (σ', (n : Int)) ∧ (∀ j, j ≠ 7 → σ' j = τ j) ∧ (∀ q, ¬ (288 ≤ q ∧ q < 2778) → σ' 7 q = τ 7 q) ∧ ∀ q, q < 2490 → σ' 7 (288 + q) = τ 22 (2490 * n + q)
  | 0, i, σ, h, s1, s2, s3 => ⟨σ, by rw [e_M_undo_26, if_pos (by omega), s1 0 (by decide), h23], s1, s2, fun q hq => s3 q (by omega)⟩
  | r + 1, i, σ, h, s1, s2, s3 => by
    obtain ⟨σ', h1, h2, h3⟩ := m_undo_l hn h23 r (i + 1) (zset σ 7 (288 + i) (σ 22 (2490 * n + i))) (by omega) (fun j hj => by rw [zk hj]; exact s1 j hj) (fun q hq => by rw [zi (by omega)]; exact s2 q hq) (fun q hq => by
      by_cases hqi : q = i
      · rw [hqi, zs, s1 22 (by decide)]
      · rw [zi (by omega)]; exact s3 q (by omega))
    refine ⟨σ', ?_, h2, h3⟩
    rw [e_M_undo_26, if_neg (by omega), s1 0 (by decide), h23, w32_id (x := 2490 * (n : Int)) (by omega) (by omega), w32_id (x := 2490 * (n : Int) + (i : Int)) (by omega) (by omega), w32_id (x := 288 + (i : Int)) (by omega) (by omega), if_pos (zin_t (by omega) (by omega)), if_pos (zin_t (by omega) (by omega)), w32_s (by omega), ← h1]
    rw [show Int.toNat (288 + (i : Int)) = 288 + i by omega, show Int.toNat (2490 * (n : Int) + (i : Int)) = 2490 * n + i by omega]
theorem m_keep_l {n : Nat} (hn : n < 4) (h23 : τ 0 23 = (n : Int)) : ∀ (r i : Nat) (σ : zH), i + r = 2490 → (∀ j, j ≠ 22 → σ j = τ j) → (∀ q, ¬ (2490 * n ≤ q ∧ q < 2490 * n + 2490) → σ 22 q = τ 22 q) → (∀ q, q < i → σ 22 (2490 * n + q) = τ 7 (288 + q)) → ∃ σ', f_M_keep_46 σ (i : Int) = some (zset σ' 0 23 ((n : Int) + 1), 0) ∧ (∀ j, j ≠ 22 → σ' j = τ j) ∧ (∀ q, ¬ (2490 * n ≤ q ∧ q < 2490 * n + 2490) → σ' 22 q = τ 22 q) ∧ ∀ q, q < 2490 → σ' 22 (2490 * n + q) = τ 7 (288 + q)
  | 0, i, σ, h, s1, s2, s3 => ⟨σ, by rw [e_M_keep_46, if_pos (by omega), s1 0 (by decide), h23, w32_id (x := (n : Int) + 1) (by omega) (by omega)], s1, s2, fun q hq => s3 q (by omega)⟩
  | r + 1, i, σ, h, s1, s2, s3 => by
    obtain ⟨σ', h1, h2, h3⟩ := m_keep_l hn h23 r (i + 1) (zset σ 22 (2490 * n + i) (σ 7 (288 + i))) (by omega) (fun j hj => by rw [zk hj]; exact s1 j hj) (fun q hq => by rw [zi (by omega)]; exact s2 q hq) (fun q hq => by
      by_cases hqi : q = i
      · rw [hqi, zs, s1 7 (by decide)]
      · rw [zi (by omega)]; exact s3 q (by omega))
    refine ⟨σ', ?_, h2, h3⟩
    rw [e_M_keep_46, if_neg (by omega), s1 0 (by decide), h23, w32_id (x := 2490 * (n : Int)) (by omega) (by omega), w32_id (x := 2490 * (n : Int) + (i : Int)) (by omega) (by omega), w32_id (x := 288 + (i : Int)) (by omega) (by omega), if_pos (zin_t (by omega) (by omega)), if_pos (zin_t (by omega) (by omega)), w32_s (by omega), ← h1]
    rw [show Int.toNat (288 + (i : Int)) = 288 + i by omega, show Int.toNat (2490 * (n : Int) + (i : Int)) = 2490 * n + i by omega]
theorem m_keep_s : ∀ (r i : Nat) (σ : zH), i + r = 7470 → (∀ j, j ≠ 22 → σ j = τ j) → (∀ q, i ≤ q → σ 22 q = τ 22 q) → (∀ q, q < i → σ 22 q = τ 22 (q + 2490)) → ∃ σ', f_M_keep_10 σ (i : Int) = f_M_keep_46 (zset σ' 0 23 3) 0 ∧ (∀ j, j ≠ 22 → σ' j = τ j) ∧ ∀ q, q < 7470 → σ' 22 q = τ 22 (q + 2490)
  | 0, i, σ, h, s1, s2, s3 => ⟨σ, by rw [e_M_keep_10, if_pos (by omega)], s1, fun q hq => s3 q (by omega)⟩
  | r + 1, i, σ, h, s1, s2, s3 => by
    obtain ⟨σ', h1, h2, h3⟩ := m_keep_s r (i + 1) (zset σ 22 i (σ 22 (i + 2490))) (by omega) (fun j hj => by rw [zk hj]; exact s1 j hj) (fun q hq => by rw [zi (by omega)]; exact s2 q (by omega)) (fun q hq => by
      by_cases hqi : q = i
      · rw [hqi, zs, s2 _ (by omega)]
      · rw [zi (by omega)]; exact s3 q (by omega))
    refine ⟨σ', ?_, h2, h3⟩
    rw [e_M_keep_10, if_neg (by omega), w32_id (x := (i : Int) + 2490) (by omega) (by omega), if_pos (zin_t (by omega) (by omega)), if_pos (zin_t (by omega) (by omega)), w32_s (by omega), ← h1]
    rw [show Int.toNat ((i : Int) + 2490) = i + 2490 by omega]
    rfl
/-- a row is kept: at place n' of those kept -/
theorem m_keep {n : Nat} (hn : n ≤ 4) (h23 : τ 0 23 = (n : Int)) : ∃ τ', f_M_keep τ = some (τ', 0) ∧ (∀ j, j ≠ 22 → j ≠ 0 → τ' j = τ j) ∧ (∀ i, i ≠ 23 → τ' 0 i = τ 0 i) ∧ τ' 0 23 = ((min n 3 + 1 : Nat) : Int) ∧ (∀ q, q < 2490 → τ' 22 (2490 * min n 3 + q) = τ 7 (288 + q)) ∧ ∀ q, q < 2490 * min n 3 → τ' 22 q = τ 22 (if n = 4 then q + 2490 else q) := by
  rw [e_M_keep, h23]
  by_cases h4 : n = 4
  · subst h4
    rw [if_neg (fun q => q rfl)]
    obtain ⟨τ1, h1, h2, h3⟩ := m_keep_s (τ := τ) 7470 0 τ (by omega) (fun _ _ => rfl) (fun _ _ => rfl) (fun q hq => by omega)
    rw [show f_M_keep_10 τ 0 = f_M_keep_10 τ ((0 : Nat) : Int) from rfl, h1]
    obtain ⟨τ2, g1, g2, g3, g4⟩ := m_keep_l (τ := zset τ1 0 23 3) (n := 3) (by omega) zs 2490 0 (zset τ1 0 23 3) (by omega) (fun _ _ => rfl) (fun _ _ => rfl) (fun q hq => by omega)
    rw [show f_M_keep_46 (zset τ1 0 23 3) 0 = f_M_keep_46 (zset τ1 0 23 3) ((0 : Nat) : Int) from rfl, g1]
    refine ⟨_, rfl, fun j hj h0 => by rw [zk h0, g2 j hj, zk h0, h2 j hj], fun i hi => by rw [zi hi, g2 0 (by decide), zi hi, h2 0 (by decide)], zs, fun q hq => ?_, fun q hq => ?_⟩
    · rw [zk (by decide)]
      refine (g4 q hq).trans ?_
      rw [zk (by decide), h2 7 (by decide)]
    · rw [zk (by decide), g3 q (by omega), zk (by decide), if_pos rfl]
      exact h3 q (by omega)
  · rw [if_pos (by omega)]
    obtain ⟨τ2, g1, g2, g3, g4⟩ := m_keep_l (τ := τ) (n := n) (by omega) h23 2490 0 τ (by omega) (fun _ _ => rfl) (fun _ _ => rfl) (fun q hq => by omega)
    rw [show f_M_keep_46 τ 0 = f_M_keep_46 τ ((0 : Nat) : Int) from rfl, g1]
    rw [show min n 3 = n by omega]
    refine ⟨_, rfl, fun j hj h0 => by rw [zk h0, g2 j hj], fun i hi => by rw [zi hi, g2 0 (by decide)], by rw [zs]; omega, fun q hq => by rw [zk (by decide)]; exact g4 q hq, fun q hq => by rw [zk (by decide), g3 q (by omega), if_neg h4]⟩
/-- the relation of a stream speaks of 2778 numbers and of the stream's own cells -/
theorem StrR.move {σ' : zH} {ks ks' d : Nat} (h : StrR σ ks a d) (hw : wfL a) (hb : ∀ j, j < 2778 → b j = a j) (s0 : σ' ks' 12 = σ ks 12 ∧ σ' ks' 13 = σ ks 13 ∧ σ' ks' 14 = σ ks 14 ∧ σ' ks' 15 = σ ks 15) (s1 : ∀ i, i < 72 → σ' (ks' + 1) i = σ (ks + 1) i) (s2 : ∀ j i, 3 ≤ j → j ≤ 11 → i < 6 → σ' (ks' + j) i = σ (ks + j) i) : StrR σ' ks' b d := by
  obtain ⟨q1, q2, q3, ⟨n, m, qn, qm, qa⟩, q5, q6, q7, q8, q9⟩ := h
  have hc0 := hw.1.1
  have hc1 := hw.1.2.1
  have hc2 := hw.1.2.2.1
  have hc4 := hw.1.2.2.2.2.1
  have b0 : b 0 = a 0 := hb 0 (by omega)
  have b1 : b 1 = a 1 := hb 1 (by omega)
  have b2 : b 2 = a 2 := hb 2 (by omega)
  have b4 : b 4 = a 4 := hb 4 (by omega)
  refine ⟨q1, by rw [hb 288 (by omega)]; exact q2, by rw [s0.1]; exact q3, ⟨n, m, by rw [s0.2.1]; exact qn, by rw [hb 293 (by omega)]; exact qm, by rw [b2]; exact qa⟩, by rw [s0.2.2.1, hb 289 (by omega)]; exact q5, by rw [s0.2.2.2, hb 290 (by omega)]; exact q6, ⟨fun r p r0 r1 p0 p1 => ?_, fun r j r0 r1 j0 j1 hj => ?_⟩, ⟨fun e e0 e1 => ?_, fun e e0 e1 => ?_, ?_, ?_⟩, fun t t0 t1 => ⟨?_, fun d' hd' => ?_⟩⟩
  · rw [b1] at r1
    have hr := hw.2.2.1 r r0 r1
    rw [hb _ (by omega)] at p1 ⊢
    have i1 := cix_in (D := (d : Int)) (r := r) hr.1.1 hr.1.2 p0 p1
    rw [s1 _ (by omega), hb _ (by omega), b0]
    exact q7.1 r p r0 r1 p0 p1
  · rw [b1, hb (Int.toNat (16 + r)) (by omega)] at hj
    rw [s1 _ (by omega), hb _ (by omega)]
    exact q7.2 r j r0 r1 j0 j1 hj
  · rw [b2] at e1
    rw [s2 3 _ (by omega) (by omega) (by omega), s2 4 _ (by omega) (by omega) (by omega), hb _ (by omega), hb _ (by omega)]
    exact q8.1 e e0 e1
  · rw [b2] at e0
    rw [s2 3 _ (by omega) (by omega) (by omega), s2 4 _ (by omega) (by omega) (by omega)]
    exact q8.2.1 e e0 e1
  · rw [hb 291 (by omega), q8.2.2.1]
    unfold sum6
    rw [s2 3 0 (by omega) (by omega) (by omega), s2 3 1 (by omega) (by omega) (by omega), s2 3 2 (by omega) (by omega) (by omega), s2 3 3 (by omega) (by omega) (by omega), s2 3 4 (by omega) (by omega) (by omega), s2 3 5 (by omega) (by omega) (by omega)]
  · rw [hb 292 (by omega), q8.2.2.2]
    unfold sum6
    rw [s2 4 0 (by omega) (by omega) (by omega), s2 4 1 (by omega) (by omega) (by omega), s2 4 2 (by omega) (by omega) (by omega), s2 4 3 (by omega) (by omega) (by omega), s2 4 4 (by omega) (by omega) (by omega), s2 4 5 (by omega) (by omega) (by omega)]
  · rw [b4] at t1
    obtain ⟨g1, g2⟩ := q9 t t0 t1
    obtain ⟨i1, i2, i3, i4, i5⟩ := sta_congr (b := b) hw t0 (by omega) (fun j hj => hb j (by omega)) d g2 (fun d' hd' => by unfold wv; rw [hb _ (by omega)])
    unfold StaT
    rw [i1, i2, i3, i4, i5, s2 5 _ (by omega) (by omega) (by omega), s2 6 _ (by omega) (by omega) (by omega), s2 7 _ (by omega) (by omega) (by omega), s2 8 _ (by omega) (by omega) (by omega), s2 9 _ (by omega) (by omega) (by omega), s2 10 _ (by omega) (by omega) (by omega), s2 11 _ (by omega) (by omega) (by omega)]
    exact g1
  · rw [b4] at t1
    have h9 := (q9 t t0 t1).2 d' hd'
    unfold wv at h9 ⊢
    rw [hb _ (by omega), b0]
    exact h9
theorem StrR.copy {σ' : zH} {k0 k1 d : Nat} (h : StrR σ k1 a d) (hw : wfL a) (c : CopyOut σ σ' k0 k1) : StrR σ' k0 a d :=
  h.move hw (fun _ _ => rfl) ⟨c.2.2.2.1, c.2.2.2.2.1, c.2.2.2.2.2.1, c.2.2.2.2.2.2.1⟩ c.2.1 c.2.2.1
theorem StrR.keepd {σ' : zH} {ks d : Nat} (h : StrR σ ks a d) (hw : wfL a) (hb : ∀ j, j < 2778 → b j = a j) (hs : ∀ j, ks ≤ j → j ≤ ks + 11 → σ' j = σ j) : StrR σ' ks b d :=
  h.move hw hb ⟨by rw [hs ks (by omega) (by omega)], by rw [hs ks (by omega) (by omega)], by rw [hs ks (by omega) (by omega)], by rw [hs ks (by omega) (by omega)]⟩ (fun i _ => by rw [hs _ (by omega) (by omega)]) (fun j i _ _ _ => by rw [hs _ (by omega) (by omega)])
end G16
