/-! IMAGES are kept, both sides -/
section G35
variable {σ τ : zH} {k q d : Nat} {a b : Nat → Int}
theorem LandR.copied {σ' : zH} {k0 k1 : Nat} (h : LandR σ k1 a) (hw : wfL a) (h1 : ∀ j i, 2 ≤ j → j ≤ 13 → i < cpl j → σ' (k0 + j) i = σ (k1 + j) i) (h2 : ∀ i, 13 ≤ i → i ≤ 18 → σ' k0 i = σ k1 i) : LandR σ' k0 a := by
  obtain ⟨⟨c0, c1, c2, c3, c4, c5⟩, hT, hR, hS, hF, hE, hW⟩ := hw
  obtain ⟨⟨l0, l1, l2, l3, l4, l5⟩, lT, lR, lE, lW⟩ := h
  refine ⟨⟨by rw [h2 13 (by omega) (by omega)]; exact l0, by rw [h2 14 (by omega) (by omega)]; exact l1, by rw [h2 15 (by omega) (by omega)]; exact l2, by rw [h2 16 (by omega) (by omega)]; exact l3, by rw [h2 17 (by omega) (by omega)]; exact l4, by rw [h2 18 (by omega) (by omega)]; exact l5⟩, ?_, ?_, ?_, ?_⟩
  · intro t t0 t1
    rw [h1 2 _ (by omega) (by omega) (show Int.toNat t < 10 by omega)]
    exact lT t t0 t1
  · intro r r0 r1
    have hr := hR r r0 r1
    rw [h1 3 _ (by omega) (by omega) (show Int.toNat r < 8 by omega), h1 4 _ (by omega) (by omega) (show Int.toNat r < 8 by omega), h1 5 _ (by omega) (by omega) (show Int.toNat r < 8 by omega), h1 6 _ (by omega) (by omega) (show Int.toNat r < 8 by omega)]
    refine ⟨(lR r r0 r1).1, fun j j0 j1 => ?_⟩
    rw [h1 7 _ (by omega) (by omega) (show Int.toNat (r * 12 + j) < 96 by omega)]
    exact (lR r r0 r1).2 j j0 j1
  · intro e e0 e1
    rw [h1 8 _ (by omega) (by omega) (show Int.toNat e < 6 by omega), h1 9 _ (by omega) (by omega) (show Int.toNat e < 6 by omega)]
    refine ⟨(lE e e0 e1).1, fun t t0 t1 => ?_⟩
    rw [h1 10 _ (by omega) (by omega) (show Int.toNat (e * 10 + t) < 60 by omega)]
    exact (lE e e0 e1).2 t t0 t1
  · intro t t0 t1
    rw [h1 11 _ (by omega) (by omega) (show Int.toNat t < 6 by omega), h1 12 _ (by omega) (by omega) (show Int.toNat t < 6 by omega), h1 13 _ (by omega) (by omega) (show Int.toNat t < 6 by omega)]
    exact lW t t0 t1
theorem NamR.copied {σ' : zH} {k0 k1 : Nat} {nm : Nat → Int} (h : NamR σ k1 nm a) (h1 : ∀ j i, 1 ≤ j → j ≤ 3 → i < 30 → σ' (k0 + j) i = σ (k1 + j) i) (h2 : σ' k0 3 = σ k1 3) : NamR σ' k0 nm a := by
  obtain ⟨n, S, M, g1, g2, g3, g4, g5, g6⟩ := h
  refine ⟨n, S, M, g1, by rw [h2]; exact g2, g3, fun i hi => ?_, g5, g6⟩
  rw [h1 1 i (by omega) (by omega) (by omega), h1 2 i (by omega) (by omega) (by omega), h1 3 i (by omega) (by omega) (by omega)]
  exact g4 i hi
theorem dep_congr {c c' : Nat → Int} : ∀ i : Nat, (∀ j, j < 3 * i → c' j = c j) → dep c' i = dep c i
  | 0, _ => rfl
  | i + 1, h => by rw [dep, dep, dep_congr i (fun j hj => h j (by omega)), h (1 + 3 * i) (by omega)]
theorem RulR.copied {σ' : zH} {q0 q1 : Nat} {c c' : Nat → Int} (h : RulR σ q1 c) (h1 : ∀ j i, 1 ≤ j → j ≤ 3 → i < 40 → σ' (q0 + j) i = σ (q1 + j) i) (h3 : σ' q0 3 = σ q1 3) (h4 : σ' q0 4 = σ q1 4) (hc : ∀ j, j < 181 → c' j = c j) : RulR σ' q0 c' := by
  obtain ⟨n, g1, g2, g3, g4, g5, g6, g7⟩ := h
  have hd : ∀ i, i ≤ n → dep c' i = dep c i := fun i hi => dep_congr i (fun j hj => hc j (by omega))
  refine ⟨n, g1, by rw [hc 0 (by omega)]; exact g2, by rw [h3]; exact g3, by rw [h4]; exact g4, fun i hi => ?_, fun i hi => by rw [hd i hi]; exact g6 i hi, fun hn => by rw [hd n (Nat.le_refl n)]; exact g7 hn⟩
  have h9 := g5 i hi
  unfold CodR at h9 ⊢
  rw [h1 1 i (by omega) (by omega) (by omega), h1 2 i (by omega) (by omega) (by omega), h1 3 i (by omega) (by omega) (by omega), hc (1 + 3 * i) (by omega), hc (2 + 3 * i) (by omega), hc (3 + 3 * i) (by omega), hd i (by omega)]
  exact h9
/-- an image speaks of its own cells -/
theorem ImgR.congr {σ' τ' : zH} {i : Nat} (h : ImgR σ τ i) (hs : ∀ j, 640 + 256 * i ≤ j → j ≤ 803 + 256 * i → σ' j = σ j) (h44 : ∀ j, j < 2959 → τ' 44 (2959 * i + j) = τ 44 (2959 * i + j)) (h45 : ∀ j, j < 30 → τ' 45 (30 * i + j) = τ 45 (30 * i + j)) (h46 : τ' 46 i = τ 46 i) : ImgR σ' τ' i := by
  unfold ImgR at h ⊢
  rw [h46, hs (640 + 256 * i) (by omega) (by omega)]
  rcases h with h | ⟨h1, h2, d, h3, h4, h5, h6, h7, h8⟩
  · exact Or.inl h
  · have hc4 := h4.1.2.2.2.2.1
    refine Or.inr ⟨h1, h2, d, LandR_congr (fun j hj => h44 j (by omega)) h4 (h3.frame (fun j hj => hs _ (by omega) (by omega))), wfL_congr (fun j hj => h44 j (by omega)) h4, h5.frame (fun j j0 j1 => hs j (by omega) (by omega)) (fun j hj => h44 j (by omega)) h45 h4.1, h6.keepd h4 (fun j hj => h44 j (by omega)) (fun j j0 j1 => hs j (by omega) (by omega)), fun e he => (h7 e he).congr (by rw [hs _ (by omega) (by omega)]) (h44 4 (by omega)) (fun t ht => ?_), h8.copied (fun j x j0 j1 hx => by rw [hs _ (by omega) (by omega)]) (by rw [hs _ (by omega) (by omega)]) (by rw [hs _ (by omega) (by omega)]) (fun j hj => h44 (2778 + j) (by omega))⟩
    have hd4 := h6.1
    unfold wv
    exact h44 _ (by dsimp only at ht hc4; omega)
/-- images are other -/
theorem Rl.imgs {σ' τ' : zH} (h : Rl σ τ k q d) (hσ : ∀ j, j < 640 → σ' j = σ j) (hτ : ∀ j i, ¬ SM j i → j < 44 → τ' j i = τ j i) (hI : ImgR σ' τ' 0 ∧ ImgR σ' τ' 1) : Rl σ' τ' k q d := by
  have mf : ∀ j, j = 2 ∨ j = 7 ∨ j = 22 ∨ j = 26 ∨ j = 35 → τ' j = τ j := fun j hj => funext (fun i => hτ j i (by unfold SM; omega) (by omega))
  have m0 : ∀ i, i = 2 ∨ i = 15 ∨ i = 23 ∨ i = 27 ∨ i = 31 ∨ i = 32 ∨ i = 35 → τ' 0 i = τ 0 i := fun i hi => hτ 0 i (by unfold SM; omega) (by omega)
  have e7 : τ' 7 = τ 7 := mf 7 (by omega)
  have hk := h.land.1
  have hq := h.rule.1
  unfold isLand at hk
  unfold isRule at hq
  refine ⟨?_, ?_, ?_, ?_, ?_, ?_, fun f hf => ?_, ?_, ?_, ?_, ?_, hI.1, hI.2, h.hV.frame (funext (fun i => hτ 11 i (by unfold SM; omega) (by omega)))⟩
  · rw [hσ 0 (by omega)]; exact h.land
  · rw [hσ 0 (by omega)]; exact h.rule
  · rw [e7]; exact h.hL.frame (fun i hi => hσ _ (by omega))
  · rw [e7]; exact h.hw
  · rw [e7]; exact h.hN.frame (fun j j0 j1 => hσ j (by omega)) (fun _ _ => rfl) (fun j hj => hτ 10 j (by unfold SM; omega) (by omega)) h.hw.1
  · rw [e7]; exact h.hS.keepd h.hw (fun _ _ => rfl) (fun j j0 j1 => hσ j (by omega))
  · rw [e7]; exact (h.hH f hf).congr (by rw [hσ _ (by omega)]) rfl (fun _ _ => rfl)
  · exact h.hA.next h.hw (fun j j0 j1 => hσ j (by omega)) (mf 22 (by omega)) (m0 23 (by omega)) (fun j _ => by rw [e7]) (Nat.le_refl d) (fun t f _ _ _ => by rw [e7])
  · have := h.hT
    unfold TapR at this ⊢
    rw [hσ 64 (by omega), hσ 65 (by omega), mf 2 (by omega), m0 2 (by omega)]
    exact this
  · have := h.hM
    unfold MisR at this ⊢
    rw [hσ 0 (by omega), hσ 7 (by omega), hσ 10 (by omega), hσ 320 (by omega), mf 26 (by omega), mf 35 (by omega), m0 15 (by omega), m0 27 (by omega), m0 31 (by omega), m0 32 (by omega), m0 35 (by omega)]
    exact this
  · rw [e7]; exact h.hR.frame (fun j j0 j1 => hσ j (by omega))
theorem m_image_l {i : Nat} (hi : i < 2) : ∀ (r x : Nat) (σ : zH), x + r = 2959 → (∀ j, j ≠ 44 → σ j = τ j) → (∀ y, ¬ (2959 * i ≤ y ∧ y < 2959 * i + 2959) → σ 44 y = τ 44 y) → (∀ y, y < x → σ 44 (2959 * i + y) = τ 7 y) → ∃ σ', f_M_image_18 σ (i : Int) (x : Int) = f_M_image_51 σ' (i : Int) 0 ∧ (∀ j, j ≠ 44 → σ' j = τ j) ∧ (∀ y, ¬ (2959 * i ≤ y ∧ y < 2959 * i + 2959) → σ' 44 y = τ 44 y) ∧ ∀ y, y < 2959 → σ' 44 (2959 * i + y) = τ 7 y
  | 0, x, σ, hx, g1, g2, g3 => ⟨σ, by rw [e_M_image_18, if_pos (by omega)], g1, g2, fun y hy => g3 y (by omega)⟩
  | r + 1, x, σ, hx, g1, g2, g3 => by
    obtain ⟨σ', y1, y2⟩ := m_image_l hi r (x + 1) (zset σ 44 (2959 * i + x) (σ 7 x)) (by omega) (fun j hj => by rw [zk hj]; exact g1 j hj) (fun y hy => by rw [zi (by omega)]; exact g2 y hy) (fun y hy => by
      by_cases hyx : y = x
      · rw [hyx, zs, g1 7 (by decide)]
      · rw [zi (by omega)]; exact g3 y (by omega))
    refine ⟨σ', ?_, y2⟩
    rw [e_M_image_18, if_neg (by omega), w32_id (x := 2959 * (i : Int)) (by omega) (by omega), w32_id (x := 2959 * (i : Int) + (x : Int)) (by omega) (by omega), if_pos (zin_t (by omega) (by omega)), if_pos (zin_t (by omega) (by omega)), w32_s (by omega), ← y1, show Int.toNat (2959 * (i : Int) + (x : Int)) = 2959 * i + x by omega]
    rfl
theorem m_image_n {i : Nat} (hi : i < 2) : ∀ (r x : Nat) (σ : zH), x + r = 30 → (∀ j, j ≠ 45 → σ j = τ j) → (∀ y, ¬ (30 * i ≤ y ∧ y < 30 * i + 30) → σ 45 y = τ 45 y) → (∀ y, y < x → σ 45 (30 * i + y) = τ 10 y) → ∃ σ', f_M_image_51 σ (i : Int) (x : Int) = some (zset σ' 46 i 1, 1) ∧ (∀ j, j ≠ 45 → σ' j = τ j) ∧ (∀ y, ¬ (30 * i ≤ y ∧ y < 30 * i + 30) → σ' 45 y = τ 45 y) ∧ ∀ y, y < 30 → σ' 45 (30 * i + y) = τ 10 y
  | 0, x, σ, hx, g1, g2, g3 => ⟨σ, by rw [e_M_image_51, if_pos (by omega), if_pos (zin_t (by omega) (by omega))]; rfl, g1, g2, fun y hy => g3 y (by omega)⟩
  | r + 1, x, σ, hx, g1, g2, g3 => by
    obtain ⟨σ', y1, y2⟩ := m_image_n hi r (x + 1) (zset σ 45 (30 * i + x) (σ 10 x)) (by omega) (fun j hj => by rw [zk hj]; exact g1 j hj) (fun y hy => by rw [zi (by omega)]; exact g2 y hy) (fun y hy => by
      by_cases hyx : y = x
      · rw [hyx, zs, g1 10 (by decide)]
      · rw [zi (by omega)]; exact g3 y (by omega))
    refine ⟨σ', ?_, y2⟩
    rw [e_M_image_51, if_neg (by omega), w32_id (x := 30 * (i : Int)) (by omega) (by omega), w32_id (x := 30 * (i : Int) + (x : Int)) (by omega) (by omega), if_pos (zin_t (by omega) (by omega)), if_pos (zin_t (by omega) (by omega)), w32_s (by omega), ← y1, show Int.toNat (30 * (i : Int) + (x : Int)) = 30 * i + x by omega]
    rfl
theorem q_image_in {i : Nat} (hi : i < 2) (h : Rl σ τ k q d) : Same (f_R_image σ (i : Int)) (f_M_image_18 τ (i : Int) 0) := by
  have hkk := h.land.1
  have hqq := h.rule.1
  unfold isLand at hkk
  unfold isRule at hqq
  have h4 := h.hw.1.2.2.2.2.1
  have h7 : σ 7 i = ((640 + 256 * i : Nat) : Int) := by
    have hm := h.hM.2.2.2.2
    have hi2 : i = 0 ∨ i = 1 := by omega
    rcases hi2 with rfl | rfl
    · exact hm.1
    · exact hm.2
  have hz5 : zio 5 ((640 + 256 * i : Nat) : Int) = true := by
    have hi2 : i = 0 ∨ i = 1 := by omega
    rcases hi2 with rfl | rfl <;> rfl
  obtain ⟨σ1, a1, a2, a3, a4, a5, a6⟩ := c_copyC (σ := σ) (k0 := 640 + 256 * i + 64) (k1 := k) (by omega)
  obtain ⟨σ2, b1, b2⟩ := c_copy (σ := σ1) (k0 := 640 + 256 * i + 128) (k1 := 96) (by omega)
  obtain ⟨σ3, c1, c2, c3, c4, c5⟩ := c_copyS (σ := σ2) (k0 := 640 + 256 * i + 160) (k1 := q) (by omega)
  have x1 : ∀ j, j < 640 → σ1 j = σ j := fun j hj => a2 j (by omega) (by omega)
  have x2 : ∀ j, j < 640 → σ2 j = σ j := fun j hj => by rw [b2.1 j (by unfold own8; omega), x1 j hj]
  have x3 : ∀ j, j < 640 → σ3 j = σ j := fun j hj => by rw [c2 j (by omega), x2 j hj]
  obtain ⟨τ1, m1, m2, m3, m4⟩ := m_image_l (τ := τ) hi 2959 0 τ (by omega) (fun _ _ => rfl) (fun _ _ => rfl) (fun y hy => by omega)
  obtain ⟨τ2, n1, n2, n3, n4⟩ := m_image_n (τ := τ1) hi 30 0 τ1 (by omega) (fun _ _ => rfl) (fun _ _ => rfl) (fun y hy => by omega)
  have hC : f_R_image σ (i : Int) = some (zset σ3 (640 + 256 * i) 3 1, 1) := by
    rw [e_R_image, if_neg (show ¬ (i : Int) < 0 by omega), if_pos (show (i : Int) < 2 by omega), show Int.toNat (i : Int) = i from rfl, h7, if_pos (show (zin (i : Int) 2 && zio 5 ((640 + 256 * i : Nat) : Int)) = true by rw [hz5, zin_t (by omega) (by omega)]; rfl), h.hz, if_pos rfl, h.hk, show Int.toNat ((640 + 256 * i : Nat) : Int) = 640 + 256 * i from rfl, a1, Option.bind_some]
    dsimp only
    rw [b1, Option.bind_some]
    dsimp only
    have e0 : σ2 0 = σ 0 := x2 0 (by omega)
    simp only [e0, h.hzr, h.hkr, if_true]
    rw [c1, Option.bind_some]
  have hM : f_M_image_18 τ (i : Int) 0 = some (zset τ2 46 i 1, 1) := (Eq.trans m1 n1)
  refine ⟨_, _, 1, hC, hM, k, q, d, h.imgs (fun j hj => by rw [zk (by omega)]; exact x3 j hj) (fun j y _ hj => by rw [zk (by omega), n2 j (by omega), m2 j (by omega)]) ?_⟩
  -- the image that was taken, and the other one
  have mine : ImgR (zset σ3 (640 + 256 * i) 3 1) (zset τ2 46 i 1) i := by
    have r44 : ∀ j, j < 2959 → zset τ2 46 i 1 44 (2959 * i + j) = τ 7 j := fun j hj => by rw [zk (by decide), n2 44 (by decide)]; exact m4 j hj
    have r45 : ∀ j, j < 30 → zset τ2 46 i 1 45 (30 * i + j) = τ 10 j := fun j hj => by rw [zk (by decide), n4 j hj, m2 10 (by decide)]
    have l1 : LandR σ1 (640 + 256 * i + 64) (τ 7) := h.hL.copied h.hw a3 a4
    have s1 : StrR σ1 96 (τ 7) d := h.hS.keepd h.hw (fun _ _ => rfl) (fun j j0 j1 => x1 j (by omega))
    have s2 : StrR σ2 (640 + 256 * i + 128) (τ 7) d := s1.copy h.hw b2
    have nm1 : NamR σ1 (640 + 256 * i + 64 + 32) (τ 10) (τ 7) := h.hN.copied a5 a6
    have ru : RulR σ3 (640 + 256 * i + 160) (fun j => τ 7 (2778 + j)) := (h.hR.frame (fun j j0 j1 => x2 j (by omega))).copied c3 c4 c5 (fun _ _ => rfl)
    have fin1 : ∀ j, (640 + 256 * i + 64 ≤ j ∧ j ≤ 640 + 256 * i + 99) → zset σ3 (640 + 256 * i) 3 1 j = σ1 j := fun j hj => by rw [zk (by omega), c2 j (by omega), b2.1 j (by unfold own8; omega)]
    have fin2 : ∀ j, (640 + 256 * i + 128 ≤ j ∧ j ≤ 640 + 256 * i + 140) → zset σ3 (640 + 256 * i) 3 1 j = σ2 j := fun j hj => by rw [zk (by omega), c2 j (by omega)]
    have hzl : zhl (640 + 256 * i + 128) = 400 := by
      have hi2 : i = 0 ∨ i = 1 := by omega
      rcases hi2 with rfl | rfl <;> rfl
    have l2 : LandR (zset σ3 (640 + 256 * i) 3 1) (640 + 256 * i + 64) (τ 7) := l1.frame (fun j hj => fin1 _ (by omega))
    rw [show 640 + 256 * i + 64 = 704 + 256 * i by omega] at l2
    refine Or.inr ⟨zs, zs, d, LandR_congr (fun j hj => r44 j (by omega)) h.hw l2, wfL_congr (fun j hj => r44 j (by omega)) h.hw, ?_, ?_, fun e he => ?_, ?_⟩
    · have w := nm1.frame (σ' := zset σ3 (640 + 256 * i) 3 1) (b := fun j => zset τ2 46 i 1 44 (2959 * i + j)) (nm' := fun j => zset τ2 46 i 1 45 (30 * i + j)) (fun j j0 j1 => fin1 j (by omega)) (fun j hj => r44 j (by omega)) r45 h.hw.1
      rw [show 640 + 256 * i + 64 + 32 = 736 + 256 * i by omega] at w
      exact w
    · have w := s2.keepd (σ' := zset σ3 (640 + 256 * i) 3 1) (b := fun j => zset τ2 46 i 1 44 (2959 * i + j)) h.hw (fun j hj => r44 j (by omega)) (fun j j0 j1 => fin2 j (by omega))
      rw [show 640 + 256 * i + 128 = 768 + 256 * i by omega] at w
      exact w
    · have hd4 := h.hS.1
      obtain ⟨N, n1', n2', n3'⟩ := h.hH e he
      refine ⟨N, n1', ?_, fun t ht => ?_⟩
      · rw [show 768 + 256 * i + 12 = 640 + 256 * i + 128 + 12 by omega, fin2 _ (by omega), b2.2.2.2.2.2.2.2.2 hzl rfl e (by omega), x1 _ (by omega)]
        exact n2'
      · have ht' : (t : Int) < τ 7 4 := by rw [← r44 4 (by omega)]; exact ht
        rw [n3' t ht']
        unfold wv
        exact (r44 _ (by omega)).symm
    · have w := (ru.frame (σ' := zset σ3 (640 + 256 * i) 3 1) (fun j j0 j1 => zk (by omega))).copied (σ' := zset σ3 (640 + 256 * i) 3 1) (c' := fun j => zset τ2 46 i 1 44 (2959 * i + (2778 + j))) (q0 := 640 + 256 * i + 160) (fun _ _ _ _ _ => rfl) rfl rfl (fun j hj => r44 _ (by omega))
      rw [show 640 + 256 * i + 160 = 800 + 256 * i by omega] at w
      exact w
  have other : ∀ i', i' < 2 → i' ≠ i → ImgR σ τ i' → ImgR (zset σ3 (640 + 256 * i) 3 1) (zset τ2 46 i 1) i' := fun i' hi' hne him => him.congr (fun j j0 j1 => by
    rw [zk (by omega), c2 j (by omega), b2.1 j (by unfold own8; omega), a2 j (by omega) (by omega)]) (fun j hj => by rw [zk (by decide), n2 44 (by decide), m3 _ (by omega)]) (fun j hj => by rw [zk (by decide), n3 _ (by omega), m2 45 (by decide)]) (by rw [zi hne, n2 46 (by decide), m2 46 (by decide)])
  have hi2 : i = 0 ∨ i = 1 := by omega
  rcases hi2 with rfl | rfl
  · exact ⟨mine, other 1 (by omega) (by omega) h.hI.2⟩
  · exact ⟨other 0 (by omega) (by omega) h.hI.1, mine⟩
theorem q_image (h : Rl σ τ k q d) (i : Int) : Same (f_R_image σ i) (f_M_image τ i) := by
  have h0 := h.mark (v := 0)
  rw [e_M_image]
  generalize zset τ 0 0 0 = τ0 at h0 ⊢
  rw [m_isIn, Option.bind_some]
  dsimp only
  by_cases hi : 0 ≤ i ∧ i ≤ 1
  · have h9 := q_image_in (i := i.toNat) (by omega) h0
    rw [show ((i.toNat : Nat) : Int) = i by omega] at h9
    rw [if_pos hi, in10]
    exact h9
  · rw [if_neg hi, in00, e_R_image]
    by_cases h1 : i < 0
    · rw [if_pos h1]; exact h0.look rfl rfl
    · rw [if_neg h1, if_neg (show ¬ i < 2 by omega)]; exact h0.look rfl rfl
end G35
