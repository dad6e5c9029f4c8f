/-! HOW MUCH IS ON ITS WAY; days that unlike words were read -/
section G23
variable {σ τ : zH} {k q d : Nat} {a b : Nat → Int}
def sumN (f : Nat → Int) (s : Nat) : Nat → Int
  | 0 => 0
  | n + 1 => sumN f s n + f (s + n)
theorem sumN_add {f : Nat → Int} {s m : Nat} : ∀ n : Nat, sumN f s (m + n) = sumN f s m + sumN f (s + m) n
  | 0 => by simp [sumN]
  | n + 1 => by
    rw [show m + (n + 1) = (m + n) + 1 by omega, sumN, sumN_add n, sumN, show s + (m + n) = s + m + n by omega]
    omega
theorem sumN_congr {f g : Nat → Int} {s t : Nat} : ∀ n : Nat, (∀ i, i < n → f (s + i) = g (t + i)) → sumN f s n = sumN g t n
  | 0, _ => rfl
  | n + 1, h => by rw [sumN, sumN, sumN_congr n (fun i hi => h i (by omega)), h n (by omega)]
theorem sumN_head {f : Nat → Int} {s n : Nat} : sumN f s (n + 1) = f s + sumN f (s + 1) n := by
  have h := sumN_add (f := f) (s := s) (m := 1) n
  rw [show 1 + n = n + 1 by omega] at h
  rw [h]
  simp [sumN]
theorem sumN_in {f : Nat → Int} {s : Nat} (hf : ∀ i, 0 ≤ f i ∧ f i ≤ 1000) : ∀ n : Nat, 0 ≤ sumN f s n ∧ sumN f s n ≤ 1000 * n
  | 0 => by simp [sumN]
  | n + 1 => by
    have h1 := sumN_in (s := s) hf n
    have h2 := hf (s + n)
    rw [sumN]
    omega
def fCl (g : Nat → Int) (x : Nat) : Int := if g x = -1 then 0 else 1
def fRf (a : Nat → Int) (x : Nat) : Int := if a (306 + x) ≤ 0 then 0 else 1
/-- the cells of both sides hold as many terms -/
theorem way_block {ks : Nat} {D : Nat} (hw : wfL a) (h : CellR σ ks (D : Int) a) {r : Nat} (hr8 : r < 8) : sumN (fCl (σ (ks + 1))) (9 * r) 9 = sumN (fRf a) (9 * r) 9 := by
  have hc1 := hw.1.2.1
  have hz : ∀ j : Nat, j < 9 → (a 1 ≤ (r : Int) ∨ a (Int.toNat (16 + (r : Int))) ≤ (j : Int)) → fCl (σ (ks + 1)) (9 * r + j) = fRf a (9 * r + j) := fun j hj ho => by
    obtain ⟨z1, z2⟩ := h.2 r j (by omega) (by omega) (by omega) (by omega) ho
    rw [show Int.toNat ((r : Int) * 9 + (j : Int)) = 9 * r + j by omega] at z1
    rw [show Int.toNat (306 + 9 * (r : Int) + (j : Int)) = 306 + (9 * r + j) by omega] at z2
    unfold fCl fRf
    rw [z1, z2]
    rfl
  by_cases hr : a 1 ≤ (r : Int)
  · exact sumN_congr 9 (fun j hj => hz j hj (Or.inl hr))
  · have hrr := hw.2.2.1 r (by omega) (by omega)
    obtain ⟨L, hL⟩ : ∃ L : Nat, a (Int.toNat (16 + (r : Int))) = (L : Int) := ⟨(a (Int.toNat (16 + (r : Int)))).toNat, by omega⟩
    rw [hL] at hrr hz
    obtain ⟨s, hs⟩ : ∃ s : Nat, (D : Int) % (L : Int) = (s : Int) := ⟨D % L, by omega⟩
    have hs0 := Int.emod_nonneg (D : Int) (show (L : Int) ≠ 0 by omega)
    have hs1 := Int.emod_lt_of_pos (D : Int) (show 0 < (L : Int) by omega)
    have key : ∀ p : Nat, p < L → fCl (σ (ks + 1)) (Int.toNat (cix (L : Int) (D : Int) r p)) = fRf a (9 * r + p) := fun p hp => by
      have h9 := h.1 r p (by omega) (by omega) (by omega) (by rw [hL]; omega)
      rw [hL, show Int.toNat (306 + 9 * (r : Int) + (p : Int)) = 306 + (9 * r + p) by omega] at h9
      unfold fCl fRf
      rw [h9.1]
      by_cases hq : a (306 + (9 * r + p)) ≤ 0
      · rw [if_pos (by omega), if_pos hq]
      · rw [if_neg (by omega), if_neg hq]
    have e1 : sumN (fCl (σ (ks + 1))) (9 * r) (L - s) = sumN (fRf a) (9 * r + s) (L - s) := sumN_congr _ (fun j hj => by
      have h9 := key (s + j) (by omega)
      unfold cix at h9
      rw [hs, if_pos (by omega), show Int.toNat ((r : Int) * 9 + (((s + j : Nat) : Int) - (s : Int))) = 9 * r + j by omega] at h9
      rw [h9, show 9 * r + (s + j) = 9 * r + s + j by omega])
    have e2 : sumN (fCl (σ (ks + 1))) (9 * r + (L - s)) s = sumN (fRf a) (9 * r) s := sumN_congr _ (fun j hj => by
      have h9 := key j (by omega)
      unfold cix at h9
      rw [hs, if_neg (by omega), show Int.toNat ((r : Int) * 9 + ((j : Int) - (s : Int) + (L : Int))) = 9 * r + (L - s) + j by omega] at h9
      exact h9)
    have e3 : sumN (fCl (σ (ks + 1))) (9 * r + L) (9 - L) = sumN (fRf a) (9 * r + L) (9 - L) := sumN_congr _ (fun j hj => by
      have h9 := hz (L + j) (by omega) (Or.inr (by omega))
      rw [show 9 * r + (L + j) = 9 * r + L + j by omega] at h9
      exact h9)
    have s1 := sumN_add (f := fCl (σ (ks + 1))) (s := 9 * r) (m := L - s) s
    have s2 := sumN_add (f := fRf a) (s := 9 * r) (m := s) (L - s)
    have s3 := sumN_add (f := fCl (σ (ks + 1))) (s := 9 * r) (m := L) (9 - L)
    have s4 := sumN_add (f := fRf a) (s := 9 * r) (m := L) (9 - L)
    rw [show L - s + s = L by omega] at s1
    rw [show s + (L - s) = L by omega] at s2
    rw [show L + (9 - L) = 9 by omega] at s3 s4
    omega
theorem way_all {ks : Nat} {D : Nat} (hw : wfL a) (h : CellR σ ks (D : Int) a) : ∀ R : Nat, R ≤ 8 → sumN (fCl (σ (ks + 1))) 0 (9 * R) = sumN (fRf a) 0 (9 * R)
  | 0, _ => rfl
  | R + 1, hR => by
    have i1 := way_all hw h R (by omega)
    have i2 := way_block hw h (r := R) (by omega)
    have s1 := sumN_add (f := fCl (σ (ks + 1))) (s := 0) (m := 9 * R) 9
    have s2 := sumN_add (f := fRf a) (s := 0) (m := 9 * R) 9
    rw [Nat.zero_add] at s1 s2
    rw [show 9 * (R + 1) = 9 * R + 9 by omega, s1, s2, i1, i2]
theorem fCl_in {g : Nat → Int} (i : Nat) : 0 ≤ fCl g i ∧ fCl g i ≤ 1000 := by unfold fCl; split <;> omega
theorem fRf_in (i : Nat) : 0 ≤ fRf a i ∧ fRf a i ≤ 1000 := by unfold fRf; split <;> omega
theorem c_way {k2 : Nat} : ∀ (j i : Nat) (v : Int), i + j = 72 → 0 ≤ v → v ≤ i → f_Stream_onTheirWay_13 σ v k2 72 (i : Int) = some (σ, v + sumN (fCl (σ k2)) i j)
  | 0, i, v, hi, v0, v1 => by rw [e_Stream_onTheirWay_13, if_pos (by omega)]; simp [sumN]
  | j + 1, i, v, hi, v0, v1 => by
    have i0 := c_way (k2 := k2) j (i + 1) v (by omega) v0 (by omega)
    have i1 := c_way (k2 := k2) j (i + 1) (v + 1) (by omega) (by omega) (by omega)
    rw [e_Stream_onTheirWay_13, if_neg (by omega), if_pos (zin_t (by omega) (by omega)), w32_s (by omega), w32_id (x := v + 1) (by omega) (by omega), i0, i1, sumN_head, show Int.toNat (i : Int) = i from rfl]
    by_cases hq : σ k2 i = -1
    · rw [if_pos hq]
      unfold fCl
      rw [if_pos hq, Int.zero_add]
    · rw [if_neg hq, show fCl (σ k2) i = 1 from if_neg hq, Int.add_assoc]
theorem m_way {w : Int} (hτ : τ 7 = a) : ∀ (j i : Nat) (v : Int), i + j = 72 → 0 ≤ v → v ≤ i → f_M_now_9 τ w v (i : Int) = f_M_now_9 τ w (v + sumN (fRf a) i j) 72
  | 0, i, v, hi, v0, v1 => by
    rw [show i = 72 by omega]; simp [sumN]
  | j + 1, i, v, hi, v0, v1 => by
    have i0 := m_way (w := w) hτ j (i + 1) v (by omega) v0 (by omega)
    have i1 := m_way (w := w) hτ j (i + 1) (v + 1) (by omega) (by omega) (by omega)
    rw [e_M_now_9, if_neg (by omega), w32_id (x := 306 + (i : Int)) (by omega) (by omega), if_pos (zin_t (by omega) (by omega)), w32_s (by omega), Int.add_zero, w32_id (x := v) (by omega) (by omega), w32_id (x := v + 1) (by omega) (by omega), i0, i1, sumN_head, show Int.toNat (306 + (i : Int)) = 306 + i by omega]
    simp only [hτ]
    by_cases hq : a (306 + i) ≤ 0
    · rw [if_pos hq, show fRf a i = 0 from if_pos hq, Int.zero_add]
    · rw [if_neg hq, show fRf a i = 1 from if_neg hq, Int.add_assoc]
theorem c_sumOf {k2 : Nat} (hb : ∀ i, i < 6 → 0 ≤ σ k2 i ∧ σ k2 i ≤ 1000) : f_R_sumOf σ 6 k2 = some (σ, sum6 (σ k2)) := by
  have b0 := hb 0 (by omega)
  have b1 := hb 1 (by omega)
  have b2 := hb 2 (by omega)
  have b3 := hb 3 (by omega)
  have b4 := hb 4 (by omega)
  have b5 := hb 5 (by omega)
  have step : ∀ (i : Nat) (v : Int), i < 6 → 0 ≤ v → v ≤ 1000 * i → f_R_sumOf_10 σ v 6 k2 6 (i : Int) = f_R_sumOf_10 σ (v + σ k2 i) 6 k2 6 ((i + 1 : Nat) : Int) := fun i v hi v0 v1 => by
    have := hb i hi
    rw [e_R_sumOf_10, if_neg (by omega), if_pos (zin_t (by omega) (by omega)), w32_s (by omega), show Int.toNat (i : Int) = i from rfl, w32_id (x := v + σ k2 i) (by omega) (by omega)]
  rw [e_R_sumOf]
  rw [show f_R_sumOf_10 σ 0 6 k2 (Int.ofNat 6) 0 = f_R_sumOf_10 σ 0 6 k2 6 ((0 : Nat) : Int) from rfl, step 0 0 (by omega) (by omega) (by omega), step 1 _ (by omega) (by omega) (by omega), step 2 _ (by omega) (by omega) (by omega), step 3 _ (by omega) (by omega) (by omega), step 4 _ (by omega) (by omega) (by omega), step 5 _ (by omega) (by omega) (by omega), e_R_sumOf_10, if_pos (by omega), Int.zero_add]
  rfl
theorem q_now (h : Rl σ τ k q d) (w : Int) : Same (f_R_now σ w) (f_M_now τ w) := by
  have h0 := h.mark (v := 0)
  rw [e_M_now, e_R_now]
  generalize zset τ 0 0 0 = τ0 at h0 ⊢
  obtain ⟨q1, q2, q3, -, q5, q6, q7, q8, -⟩ := h0.hS
  have hcnt := CntR.all h0.hw.1.2.2.1 q8 (by omega)
  have hm := m_way (w := w) (τ := τ0) rfl 72 0 0 (by omega) (by omega) (by omega)
  rw [show f_M_now_9 τ0 w 0 0 = f_M_now_9 τ0 w 0 ((0 : Nat) : Int) from rfl, hm, Int.zero_add, e_M_now_9, if_pos (show (72 : Int) ≤ 72 by decide)]
  by_cases w0 : w = 0
  · subst w0
    simp (decide := true) only [if_true, if_false]
    exact h0.look (congrArg (fun x => some (σ, x)) (q3.trans q2.symm)) rfl
  · rw [if_neg w0]
    by_cases w1 : w = 1
    · subst w1
      have hw1 := way_all h0.hw q7 8 (by omega)
      simp (decide := true) only [if_true, if_false]
      rw [e_Stream_onTheirWay]
      rw [show f_Stream_onTheirWay_13 σ 0 (96 + 1) 72 0 = f_Stream_onTheirWay_13 σ 0 (96 + 1) 72 ((0 : Nat) : Int) from rfl, c_way 72 0 0 (by omega) (by omega) (by omega), Option.bind_some, Int.zero_add]
      exact h0.look (congrArg (fun x => some (σ, x)) hw1) rfl
    · rw [if_neg w1]
      by_cases w2 : w = 2
      · subst w2
        simp (decide := true) only [if_true, if_false]
        exact h0.look (congrArg (fun x => some (σ, x)) q5.1) rfl
      · rw [if_neg w2]
        by_cases w3 : w = 3
        · subst w3
          simp (decide := true) only [if_true, if_false]
          exact h0.look (congrArg (fun x => some (σ, x)) q6.1) rfl
        · rw [if_neg w3]
          by_cases w4 : w = 4
          · subst w4
            simp (decide := true) only [if_true, if_false]
            rw [c_sumOf (fun i hi => by have := (hcnt.1 i hi).1; rw [show 99 = 96 + 3 from rfl]; omega), Option.bind_some]
            exact h0.look (congrArg (fun x => some (σ, x)) q8.2.2.1.symm) rfl
          · rw [if_neg w4]
            by_cases w5 : w = 5
            · subst w5
              simp (decide := true) only [if_true, if_false]
              rw [c_sumOf (fun i hi => by have := (hcnt.1 i hi).2; rw [show 100 = 96 + 4 from rfl]; omega), Option.bind_some]
              exact h0.look (congrArg (fun x => some (σ, x)) q8.2.2.2.symm) rfl
            · rw [if_neg w5, if_pos w1, if_pos w0, if_pos w2, if_pos w3, if_pos w4, if_pos w5]
              exact h0.look rfl rfl
theorem q_unlike_l (h : Rl σ τ k q d) {t u e : Nat} (ht : (t : Int) < τ 7 4) (hu : (u : Int) < τ 7 4) (he : e ≤ 99) : ∀ (j i : Nat) (v : Int), d ≤ i + j → i ≤ d → 0 ≤ v → v ≤ i → ∃ r, f_R_unlike_40 σ (t : Int) (u : Int) (e : Int) v (i : Int) = some (σ, r) ∧ f_M_unlike_39 τ (t : Int) (u : Int) (e : Int) v (i : Int) = some (τ, r) := by
  have hd4 := h.hS.1
  have hc4 := h.hw.1.2.2.2.2.1
  have hc0 := h.hw.1.1
  have e12 := h.hS.2.2.1
  have e288 := h.hS.2.1
  intro j
  have fin : ∀ (i : Nat) (v : Int), d ≤ i + e → i ≤ d → ∃ r, f_R_unlike_40 σ (t : Int) (u : Int) (e : Int) v (i : Int) = some (σ, r) ∧ f_M_unlike_39 τ (t : Int) (u : Int) (e : Int) v (i : Int) = some (τ, r) := fun i v g1 g2 => by
    refine ⟨v, ?_, ?_⟩
    · rw [e_R_unlike_40, w32_id (x := (i : Int) + (e : Int)) (by omega) (by omega), if_pos (by omega)]
    · rw [e_M_unlike_39, w32_id (x := (i : Int) + (e : Int)) (by omega) (by omega), if_pos (by omega)]
  induction j with
  | zero => intro i v g1 g2 _ _; exact fin i v (by omega) g2
  | succ j ih =>
    intro i v g1 g2 v0 v1
    by_cases hi : d ≤ i + e
    · exact fin i v hi g2
    · obtain ⟨s1, s2⟩ := h.hS.2.2.2.2.2.2.2.2 t (by omega) ht
      obtain ⟨s3, s4⟩ := h.hS.2.2.2.2.2.2.2.2 u (by omega) hu
      have b1 := s2 i (by omega)
      have b2 := s4 (i + e) (by omega)
      have i0 := ih (i + 1) v (by omega) (by omega) v0 (by omega)
      have i1 := ih (i + 1) (v + 1) (by omega) (by omega) (by omega) (by omega)
      rw [e_R_unlike_40, w32_id (x := (i : Int) + (e : Int)) (by omega) (by omega), if_neg (by omega), show (i : Int) + (e : Int) = ((i + e : Nat) : Int) by omega, q_readOn (by omega) (h.hH i (by omega)) ht (by omega) (by omega), Option.bind_some]
      dsimp only
      rw [q_readOn (by omega) (h.hH (i + e) (by omega)) hu (by omega) (by omega), Option.bind_some]
      dsimp only
      rw [e_M_unlike_39, w32_id (x := (i : Int) + (e : Int)) (by omega) (by omega), if_neg (show ¬ τ 7 288 ≤ (i : Int) + (e : Int) by omega), show (i : Int) + (e : Int) = ((i + e : Nat) : Int) by omega, m_wellOf rfl (by omega) (by omega) (by omega) (by omega), Option.bind_some]
      dsimp only
      rw [m_wellOf rfl (by omega) (by omega) (by omega) (by omega), Option.bind_some]
      dsimp only
      rw [w32_s (by omega), Int.add_zero, w32_id (x := v) (by omega) (by omega), w32_id (x := v + 1) (by omega) (by omega)]
      by_cases hq : wv (τ 7) t i - 1 = wv (τ 7) u (i + e) - 1
      · rw [if_pos hq, if_pos hq]; exact i0
      · rw [if_neg hq, if_neg hq]; exact i1
theorem q_unlike (h : Rl σ τ k q d) (t u e : Int) : Same (f_R_unlike σ t u e) (f_M_unlike τ t u e) := by
  have h0 := h.mark (v := 0)
  rw [e_M_unlike, e_R_unlike]
  generalize zset τ 0 0 0 = τ0 at h0 ⊢
  simp only [h0.hz, h0.hk, if_true]
  rw [m_isTown h0.hw.1, c_hasTown h0.hL, Option.bind_some, Option.bind_some]
  dsimp only
  simp only [h0.hz, h0.hk, if_true]
  by_cases hc : 0 ≤ t ∧ t < τ0 7 4
  · rw [if_pos hc, i10, i10, m_isTown h0.hw.1, c_hasTown h0.hL, Option.bind_some, Option.bind_some]
    dsimp only
    by_cases hu : 0 ≤ u ∧ u < τ0 7 4
    · rw [if_pos hu, i10, i10, m_isIn, Option.bind_some]
      dsimp only
      by_cases he : 0 ≤ e ∧ e ≤ 99
      · obtain ⟨r, r1, r2⟩ := q_unlike_l h0 (t := t.toNat) (u := u.toNat) (e := e.toNat) (by omega) (by omega) (by omega) d 0 0 (by omega) (by omega) (by omega) (by omega)
        rw [show ((t.toNat : Nat) : Int) = t by omega, show ((u.toNat : Nat) : Int) = u by omega, show ((e.toNat : Nat) : Int) = e by omega] at r1 r2
        rw [if_pos he, in10, if_neg (show ¬ e < 0 by omega), if_pos he.2]
        exact h0.look r1 r2
      · rw [if_neg he, in00]
        by_cases h1 : e < 0
        · rw [if_pos h1]; exact h0.look rfl rfl
        · rw [if_neg h1, if_neg (show ¬ e ≤ 99 by omega)]; exact h0.look rfl rfl
    · rw [if_neg hu, i00, i00]
      exact h0.look rfl rfl
  · rw [if_neg hc, i00, i00]
    exact h0.look rfl rfl
end G23
