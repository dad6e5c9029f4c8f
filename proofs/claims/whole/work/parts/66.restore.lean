/-! IMAGES are brought back, both sides -/
section G36
variable {σ τ : zH} {k q d : Nat} {a b : Nat → Int}
theorem m_rest_l {i : Nat} (hi : i < 2) : ∀ (r x : Nat) (σ : zH), x + r = 2959 → (∀ j, j ≠ 7 → σ j = τ j) → (∀ y, y < x → σ 7 y = τ 44 (2959 * i + y)) → ∃ σ', f_M_restore_27 σ (i : Int) (x : Int) = f_M_restore_60 σ' (i : Int) 0 ∧ (∀ j, j ≠ 7 → σ' j = τ j) ∧ ∀ y, y < 2959 → σ' 7 y = τ 44 (2959 * i + y)
  | 0, x, σ, hx, g1, g3 => ⟨σ, by rw [e_M_restore_27, if_pos (by omega)], g1, fun y hy => g3 y (by omega)⟩
  | r + 1, x, σ, hx, g1, g3 => by
    obtain ⟨σ', y1, y2⟩ := m_rest_l hi r (x + 1) (zset σ 7 x (σ 44 (2959 * i + x))) (by omega) (fun j hj => by rw [zk hj]; exact g1 j hj) (fun y hy => by
      by_cases hyx : y = x
      · rw [hyx, zs, g1 44 (by decide)]
      · rw [zi (by omega)]; exact g3 y (by omega))
    refine ⟨σ', ?_, y2⟩
    rw [e_M_restore_27, if_neg (by omega), w32_id (x := 2959 * (i : Int)) (by omega) (by omega), w32_id (x := 2959 * (i : Int) + (x : Int)) (by omega) (by omega), if_pos (zin_t (by omega) (by omega)), if_pos (zin_t (by omega) (by omega)), w32_s (by omega), ← y1, show Int.toNat (2959 * (i : Int) + (x : Int)) = 2959 * i + x by omega]
    rfl
theorem m_rest_n {i : Nat} (hi : i < 2) : ∀ (r x : Nat) (σ : zH), x + r = 30 → (∀ j, j ≠ 10 → σ j = τ j) → (∀ y, y < x → σ 10 y = τ 45 (30 * i + y)) → ∃ σ', f_M_restore_60 σ (i : Int) (x : Int) = some (zset σ' 0 23 0, 1) ∧ (∀ j, j ≠ 10 → σ' j = τ j) ∧ ∀ y, y < 30 → σ' 10 y = τ 45 (30 * i + y)
  | 0, x, σ, hx, g1, g3 => ⟨σ, by rw [e_M_restore_60, if_pos (by omega)], g1, fun y hy => g3 y (by omega)⟩
  | r + 1, x, σ, hx, g1, g3 => by
    obtain ⟨σ', y1, y2⟩ := m_rest_n hi r (x + 1) (zset σ 10 x (σ 45 (30 * i + x))) (by omega) (fun j hj => by rw [zk hj]; exact g1 j hj) (fun y hy => by
      by_cases hyx : y = x
      · rw [hyx, zs, g1 45 (by decide)]
      · rw [zi (by omega)]; exact g3 y (by omega))
    refine ⟨σ', ?_, y2⟩
    rw [e_M_restore_60, if_neg (by omega), w32_id (x := 30 * (i : Int)) (by omega) (by omega), w32_id (x := 30 * (i : Int) + (x : Int)) (by omega) (by omega), if_pos (zin_t (by omega) (by omega)), if_pos (zin_t (by omega) (by omega)), w32_s (by omega), ← y1, show Int.toNat (30 * (i : Int) + (x : Int)) = 30 * i + x by omega]
    rfl
theorem q_restore_in {i : Nat} (hi : i < 2) (h : Rl σ τ k q d) : Same (f_R_restore σ (i : Int)) (if ¬ τ 46 i = 0 then f_M_restore_27 τ (i : Int) 0 else some (τ, 0)) := by
  have hkk := h.land.1
  have hqq := h.rule.1
  unfold isLand at hkk
  unfold isRule at hqq
  have h7 : σ 7 i = ((640 + 256 * i : Nat) : Int) := by
    have hm := h.hM.2.2.2.2
    have hi2 : i = 0 ∨ i = 1 := by omega
    rcases hi2 with rfl | rfl
    · exact hm.1
    · exact hm.2
  have hz5 : (zin (i : Int) 2 && zio 5 ((640 + 256 * i : Nat) : Int)) = true := by
    have hi2 : i = 0 ∨ i = 1 := by omega
    rcases hi2 with rfl | rfl <;> rfl
  have hI : ImgR σ τ i := by
    have hi2 : i = 0 ∨ i = 1 := by omega
    rcases hi2 with rfl | rfl
    · exact h.hI.1
    · exact h.hI.2
  have hpre : f_R_restore σ (i : Int) = if ¬ σ (640 + 256 * i) 3 = 0 then (f_Country_copyFrom σ k (640 + 256 * i + 64)).bind (fun r1 => (f_Stream_copyFrom r1.1 96 (640 + 256 * i + 128)).bind (fun r2 => if zio 7 (r2.1 0 12) = true then (f_Sentence_copyFrom r2.1 (Int.toNat (r2.1 0 12)) (640 + 256 * i + 160)).bind (fun r3 => (f_Acts_clear r3.1).bind (fun r4 => some (r4.1, 1))) else none)) else some (σ, 0) := by
    rw [e_R_restore, if_neg (show ¬ (i : Int) < 0 by omega), if_neg (show ¬ 2 ≤ (i : Int) by omega), show Int.toNat (i : Int) = i from rfl, h7]
    simp only [hz5, h.hz, h.hk, if_true]
    rfl
  rw [hpre]
  rcases hI with ⟨i1, i2⟩ | ⟨i1, i2, d', iL, iw, iN, iS, iH, iR⟩
  · rw [if_neg (show ¬ ¬ σ (640 + 256 * i) 3 = 0 by omega), if_neg (show ¬ ¬ τ 46 i = 0 by omega)]
    exact h.look rfl rfl
  · have e704 : 640 + 256 * i + 64 = 704 + 256 * i := by omega
    have e768 : 640 + 256 * i + 128 = 768 + 256 * i := by omega
    have e800 : 640 + 256 * i + 160 = 800 + 256 * i := by omega
    rw [if_pos (show ¬ σ (640 + 256 * i) 3 = 0 by omega), if_pos (show ¬ τ 46 i = 0 by omega), e704, e768, e800]
    obtain ⟨σ1, a1, a2, a3, a4, a5, a6⟩ := c_copyC (σ := σ) (k0 := k) (k1 := 704 + 256 * i) (by omega)
    obtain ⟨σ2, b1, b2⟩ := c_copy (σ := σ1) (k0 := 96) (k1 := 768 + 256 * i) (by omega)
    obtain ⟨σ3, c1, c2, c3, c4, c5⟩ := c_copyS (σ := σ2) (k0 := q) (k1 := 800 + 256 * i) (by omega)
    have x1 : ∀ j, j < 384 ∨ 484 ≤ j → σ1 j = σ j := fun j hj => a2 j (by omega) (by omega)
    have x2 : ∀ j, (j < 96 ∨ (108 < j ∧ j < 384) ∨ 484 ≤ j) → σ2 j = σ j := fun j hj => by rw [b2.1 j (by unfold own8; omega), x1 j (by omega)]
    have x3 : ∀ j, (j < 96 ∨ (108 < j ∧ j < 384) ∨ 548 ≤ j) → σ3 j = σ j := fun j hj => by rw [c2 j (by omega), x2 j (by omega)]
    obtain ⟨τ1, m1, m2, m3⟩ := m_rest_l (τ := τ) hi 2959 0 τ (by omega) (fun _ _ => rfl) (fun y hy => by omega)
    obtain ⟨τ2, n1, n2, n3⟩ := m_rest_n (τ := τ1) hi 30 0 τ1 (by omega) (fun _ _ => rfl) (fun y hy => by omega)
    have hM : f_M_restore_27 τ (i : Int) 0 = some (zset τ2 0 23 0, 1) := Eq.trans m1 n1
    have e0 : σ2 0 = σ 0 := x2 0 (by omega)
    rw [a1, Option.bind_some]
    dsimp only
    rw [b1, Option.bind_some]
    dsimp only
    simp only [e0, h.hzr, h.hkr, if_true]
    rw [c1, Option.bind_some, e_Acts_clear, Option.bind_some, hM]
    dsimp only
    have r7 : ∀ j, j < 2959 → zset τ2 0 23 0 7 j = τ 44 (2959 * i + j) := fun j hj => by rw [zk (by decide), n2 7 (by decide)]; exact m3 j hj
    have r10 : ∀ j, j < 30 → zset τ2 0 23 0 10 j = τ 45 (30 * i + j) := fun j hj => by rw [zk (by decide), n3 j hj, m2 45 (by decide)]
    have z0 : ∀ x, x ≠ 23 → zset τ2 0 23 0 0 x = τ 0 x := fun x hx => by rw [zi hx, n2 0 (by decide), m2 0 (by decide)]
    have zj : ∀ j, j ≠ 0 → j ≠ 7 → j ≠ 10 → zset τ2 0 23 0 j = τ j := fun j j0 j7 j10 => by rw [zk j0, n2 j j10, m2 j j7]
    have s160 : ∀ j, j ≠ 160 → zset σ3 160 1 0 j = σ3 j := fun j hj => zk hj
    have l1 : LandR σ1 k (fun j => τ 44 (2959 * i + j)) := iL.copied iw a3 a4
    have l3 : LandR (zset σ3 160 1 0) k (fun j => τ 44 (2959 * i + j)) := l1.frame (fun j hj => by rw [s160 _ (by omega), c2 _ (by omega), b2.1 _ (by unfold own8; omega)])
    have nm1 : NamR σ1 (k + 32) (fun j => τ 45 (30 * i + j)) (fun j => τ 44 (2959 * i + j)) := iN.copied (k1 := 736 + 256 * i) (fun j x j0 j1 hx => by
      have := a5 j x j0 j1 hx
      rw [show 704 + 256 * i + 32 + j = 736 + 256 * i + j by omega] at this
      exact this) (by rw [a6, show 704 + 256 * i + 32 = 736 + 256 * i by omega])
    have s1 : StrR σ1 (768 + 256 * i) (fun j => τ 44 (2959 * i + j)) d' := iS.keepd iw (fun _ _ => rfl) (fun j j0 j1 => x1 j (by omega))
    have s2 := s1.copy iw b2
    have ru : RulR σ3 q (fun j => τ 44 (2959 * i + (2778 + j))) := (iR.frame (fun j j0 j1 => x2 j (by omega))).copied c3 c4 c5 (fun _ _ => rfl)
    have hzl : zhl (768 + 256 * i) = 400 := by
      have hi2 : i = 0 ∨ i = 1 := by omega
      rcases hi2 with rfl | rfl <;> rfl
    have hd4 := iS.1
    have hw4 := iw.1.2.2.2.2.1
    refine ⟨_, _, 1, rfl, rfl, k, q, d', ?_, ?_, ?_, ?_, ?_, ?_, fun e he => ?_, ?_, ?_, ?_, ?_, ?_, ?_, ?_⟩
    · rw [s160 0 (by decide), x3 0 (by omega)]; exact h.land
    · rw [s160 0 (by decide), x3 0 (by omega)]; exact h.rule
    · exact LandR_congr (fun j hj => r7 j (by omega)) iw l3
    · exact wfL_congr (fun j hj => r7 j (by omega)) iw
    · exact nm1.frame (fun j j0 j1 => by rw [s160 j (by omega), c2 j (by omega), b2.1 j (by unfold own8; omega)]) (fun j hj => r7 j (by omega)) r10 iw.1
    · exact s2.keepd iw (fun j hj => r7 j (by omega)) (fun j j0 j1 => by rw [s160 j (by omega), c2 j (by omega)])
    · obtain ⟨N, n1', n2', n3'⟩ := iH e he
      refine ⟨N, n1', ?_, fun t ht => ?_⟩
      · rw [s160 _ (by decide), c2 _ (by omega), b2.2.2.2.2.2.2.2.2 rfl hzl e (by omega), x1 _ (by omega)]
        exact n2'
      · have ht' : (t : Int) < τ 44 (2959 * i + 4) := by rw [← r7 4 (by omega)]; exact ht
        rw [n3' t ht']
        unfold wv
        exact (r7 _ (by dsimp only at hw4; omega)).symm
    · obtain ⟨n, p, D, g1, g2, g3, g4, -⟩ := h.hA
      exact ⟨0, p, D, by omega, zs, by rw [zs]; rfl, ⟨fun x hx => by rw [s160 161 (by decide), x3 161 (by omega)]; exact g4.1 x hx, g4.2⟩, fun x hx => by omega, fun x y _ hx => by omega⟩
    · have := h.hT
      unfold TapR at this ⊢
      rw [s160 64 (by decide), s160 65 (by decide), x3 64 (by omega), x3 65 (by omega), z0 2 (by decide), zj 2 (by decide) (by decide) (by decide)]
      exact this
    · have := h.hM
      unfold MisR at this ⊢
      rw [s160 0 (by decide), s160 7 (by decide), s160 10 (by decide), s160 320 (by decide), x3 0 (by omega), x3 7 (by omega), x3 10 (by omega), x3 320 (by omega), z0 15 (by decide), z0 27 (by decide), z0 31 (by decide), z0 32 (by decide), z0 35 (by decide), zj 26 (by decide) (by decide) (by decide), zj 35 (by decide) (by decide) (by decide)]
      exact this
    · exact (ru.frame (σ' := zset σ3 160 1 0) (fun j j0 j1 => s160 j (by omega))).copied (σ' := zset σ3 160 1 0) (q0 := q) (fun _ _ _ _ _ => rfl) rfl rfl (fun j hj => r7 (2778 + j) (by omega))
    · exact h.hI.1.frame (fun j j0 j1 => by rw [s160 j (by omega), x3 j (by omega)]) (zj 44 (by decide) (by decide) (by decide)) (zj 45 (by decide) (by decide) (by decide)) (zj 46 (by decide) (by decide) (by decide))
    · exact h.hI.2.frame (fun j j0 j1 => by rw [s160 j (by omega), x3 j (by omega)]) (zj 44 (by decide) (by decide) (by decide)) (zj 45 (by decide) (by decide) (by decide)) (zj 46 (by decide) (by decide) (by decide))
    · exact h.hV.frame (zj 11 (by decide) (by decide) (by decide))
theorem q_restore (h : Rl σ τ k q d) (i : Int) : Same (f_R_restore σ i) (f_M_restore τ i) := by
  have h0 := h.mark (v := 0)
  rw [e_M_restore]
  generalize zset τ 0 0 0 = τ0 at h0 ⊢
  rw [m_isIn, Option.bind_some]
  dsimp only
  by_cases hi : 0 ≤ i ∧ i ≤ 1
  · have h9 := q_restore_in (i := i.toNat) (by omega) h0
    rw [show ((i.toNat : Nat) : Int) = i by omega] at h9
    rw [if_pos hi, i10, if_pos (zin_t hi.1 (by omega))]
    exact h9
  · rw [if_neg hi, i00, e_R_restore]
    by_cases h1 : i < 0
    · rw [if_pos h1]; exact h0.look rfl rfl
    · rw [if_neg h1, if_pos (show 2 ≤ i by omega)]; exact h0.look rfl rfl
end G36
