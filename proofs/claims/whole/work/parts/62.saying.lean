/-! WHAT A ROW MAY COME FROM, both sides -/
section G32
variable {σ τ σ1 τ1 : zH} {k q d e : Nat} {a b : Nat → Int}
def cntA (g : Nat → Int) (x : Int) : Nat → Nat
  | 0 => 0
  | n + 1 => cntA g x n + (if g n = x then 1 else 0)
def lstA (g : Nat → Int) (x : Int) : Nat → Int
  | 0 => -1
  | n + 1 => if lstA g x n ≠ -1 then lstA g x n else if g n = x then (n : Int) else -1
theorem cntA_le {g : Nat → Int} {x : Int} : ∀ n, cntA g x n ≤ n
  | 0 => Nat.le_refl 0
  | n + 1 => by
    have := cntA_le (g := g) (x := x) n
    rw [cntA]
    split <;> omega
theorem lstA_in {g : Nat → Int} {x : Int} : ∀ n, -1 ≤ lstA g x n ∧ lstA g x n < n ∧ (cntA g x n = 0 ↔ lstA g x n = -1)
  | 0 => by simp [lstA, cntA]
  | n + 1 => by
    obtain ⟨h1, h2, h3⟩ := lstA_in (g := g) (x := x) n
    rw [lstA, cntA]
    by_cases hl : lstA g x n = -1
    · have hnn : ¬ lstA g x n ≠ -1 := fun y => y hl
      rw [if_neg hnn]
      have hc := h3.mpr hl
      by_cases hg : g n = x
      · rw [if_pos hg, if_pos hg]; omega
      · rw [if_neg hg, if_neg hg]; omega
    · rw [if_pos hl]
      have hc : cntA g x n ≠ 0 := fun y => hl (h3.mp y)
      split <;> omega
theorem lstA_stay {g : Nat → Int} {x : Int} {n : Nat} (h : lstA g x n ≠ -1) : ∀ m, lstA g x (n + m) = lstA g x n
  | 0 => rfl
  | m + 1 => by
    have := lstA_stay h m
    rw [show n + (m + 1) = (n + m) + 1 by omega, lstA, this, if_pos h]
theorem c_countOf {T : Nat} {x : Int} (h : Rl σ τ k q d) (hT : τ 7 0 = (T : Int)) : f_R_countOf σ x = some (σ, (cntA (σ 9) x T : Int)) := by
  have hc0 := h.hw.1.1
  have loop : ∀ (j i : Nat), i + j = T → f_R_countOf_4 σ x (cntA (σ 9) x i : Int) (i : Int) = some (σ, (cntA (σ 9) x T : Int)) := by
    intro j
    induction j with
    | zero => intro i hi; rw [e_R_countOf_4, h.hz, if_pos rfl, h.hk, h.hL.1.1, if_pos (show τ 7 0 ≤ (i : Int) by omega), show i = T by omega]
    | succ j ih =>
      intro i hi
      have hle := cntA_le (g := σ 9) (x := x) i
      have nx := ih (i + 1) (by omega)
      rw [cntA] at nx
      rw [e_R_countOf_4, h.hz, if_pos rfl, h.hk, h.hL.1.1, if_neg (show ¬ τ 7 0 ≤ (i : Int) by omega), if_pos (zin_t (by omega) (by omega)), w32_s (by omega), w32_s (by omega), show Int.toNat (i : Int) = i from rfl]
      by_cases hg : σ 9 i = x
      · have hnn : ¬ ¬ σ 9 i = x := fun y => y hg
        rw [if_pos hg] at nx
        rw [if_neg hnn]; exact nx
      · rw [if_neg hg] at nx
        rw [if_pos hg]; exact nx
  rw [e_R_countOf]
  exact loop T 0 (by omega)
theorem c_leastFor {T : Nat} {x : Int} (h : Rl σ τ k q d) (hT : τ 7 0 = (T : Int)) : f_R_leastFor σ x = some (σ, lstA (σ 9) x T) := by
  have hc0 := h.hw.1.1
  have loop : ∀ (j i : Nat), i + j = T → lstA (σ 9) x i = -1 → f_R_leastFor_2 σ x (i : Int) = some (σ, lstA (σ 9) x T) := by
    intro j
    induction j with
    | zero => intro i hi hl; rw [e_R_leastFor_2, h.hz, if_pos rfl, h.hk, h.hL.1.1, if_pos (show τ 7 0 ≤ (i : Int) by omega), ← show i = T by omega, hl]
    | succ j ih =>
      intro i hi hl
      have hnl : ¬ lstA (σ 9) x i ≠ -1 := fun y => y hl
      rw [e_R_leastFor_2, h.hz, if_pos rfl, h.hk, h.hL.1.1, if_neg (show ¬ τ 7 0 ≤ (i : Int) by omega), if_pos (zin_t (by omega) (by omega)), w32_s (by omega), show Int.toNat (i : Int) = i from rfl]
      by_cases hg : σ 9 i = x
      · have hnn : ¬ ¬ σ 9 i = x := fun y => y hg
        have e1 : lstA (σ 9) x (i + 1) = (i : Int) := by rw [lstA, if_neg hnl, if_pos hg]
        have hst := lstA_stay (g := σ 9) (x := x) (n := i + 1) (by rw [e1]; omega) j
        rw [show i + 1 + j = T by omega, e1] at hst
        rw [if_neg hnn, hst]
      · rw [if_pos hg]
        exact ih (i + 1) (by omega) (by rw [lstA, if_neg hnl, if_neg hg])
  rw [e_R_leastFor]
  exact loop T 0 (by omega) rfl
/-- arrivals of all terms -/
def ArrR (σ : zH) (a : Nat → Int) (t : Int) (n : Nat) : Prop := ∀ v : Nat, v < n → (∀ τ' : zH, τ' 7 = a → f_M_comesOf τ' t (v : Int) = some (τ', σ 9 v)) ∧ -1 ≤ σ 9 v ∧ σ 9 v < a 0
theorem c_fill {T : Nat} {t s : Int} (h : Rl σ τ k q d) (hT : τ 7 0 = (T : Int)) (t0 : 0 ≤ t) (t1 : t < τ 7 4) (hs : f_M_sourceOf τ t = some (τ, s)) (hs1 : s ≠ -1) : ∃ σ', f_R_fillArrivals σ t = some (σ', 0) ∧ (∀ j, j ≠ 9 → σ' j = σ j) ∧ ArrR σ' (τ 7) t T := by
  have hc0 := h.hw.1.1
  have hkk := h.land.1
  unfold isLand at hkk
  obtain ⟨n, m, hn, hm, hA⟩ := h.hS.2.2.2.1
  -- the source is the same for every row alike
  have src : ∀ τ' : zH, τ' 7 = τ 7 → f_M_sourceOf τ' t = some (τ', s) := fun τ' h7 => by
    obtain ⟨x, x1, x2, -⟩ := q_source h.hL (τ := τ) rfl h.hw t0 t1
    obtain ⟨y, y1, y2, -⟩ := q_source h.hL (τ := τ') h7 h.hw t0 t1
    rw [x1] at y1
    rw [hs] at x2
    have e1 : x = y := by injection y1 with w; exact congrArg Prod.snd w
    have e2 : s = x := by injection x2 with w; exact congrArg Prod.snd w
    rw [y2, e2, e1]
  have loop : ∀ (j i : Nat) (σ1 : zH), i + j = T → (∀ x, x ≠ 9 → σ1 x = σ x) → ArrR σ1 (τ 7) t i → ∃ σ', f_R_fillArrivals_2 σ1 t (i : Int) = some (σ', 0) ∧ (∀ x, x ≠ 9 → σ' x = σ x) ∧ ArrR σ' (τ 7) t T := by
    intro j
    induction j with
    | zero =>
      intro i σ1 hi g1 g2
      refine ⟨σ1, ?_, g1, by rw [show T = i by omega]; exact g2⟩
      rw [e_R_fillArrivals_2, g1 0 (by decide), h.hz, if_pos rfl, h.hk, g1 k (by omega), h.hL.1.1, if_pos (show τ 7 0 ≤ (i : Int) by omega)]
    | succ j ih =>
      intro i σ1 hi g1 g2
      have hL1 : LandR σ1 k (τ 7) := h.hL.frame (fun x hx => g1 _ (by omega))
      obtain ⟨w, w1, w2, w3, w4⟩ := q_comesOf hL1 (τ := τ) rfl h.hw hA hm t0 t1 (v := (i : Int)) (by omega) (by omega) hs hs1
      have wall : ∀ τ' : zH, τ' 7 = τ 7 → f_M_comesOf τ' t (i : Int) = some (τ', w) := fun τ' h7 => by
        obtain ⟨w', y1, y2, -⟩ := q_comesOf hL1 (τ := τ') h7 h.hw hA hm t0 t1 (v := (i : Int)) (by omega) (by omega) (src τ' h7) hs1
        rw [w1] at y1
        have e1 : w = w' := by injection y1 with z; exact congrArg Prod.snd z
        rw [y2, e1]
      obtain ⟨σ', y1, y2, y3⟩ := ih (i + 1) (zset σ1 9 i w) (by omega) (fun x hx => by rw [zk hx]; exact g1 x hx) (fun v hv => by
        by_cases hvi : v = i
        · rw [hvi, zs]; exact ⟨wall, w3, w4⟩
        · rw [zi hvi]; exact g2 v (by omega))
      refine ⟨σ', ?_, y2, y3⟩
      rw [e_R_fillArrivals_2, g1 0 (by decide), h.hz, if_pos rfl, h.hk, g1 k (by omega), h.hL.1.1, if_neg (show ¬ τ 7 0 ≤ (i : Int) by omega), if_pos rfl, g1 96 (by decide), hn, w1, Option.bind_some]
      dsimp only
      rw [if_pos (zin_t (by omega) (by omega)), w32_s (by omega)]
      exact y1
  obtain ⟨σ', y1, y2, y3⟩ := loop T 0 σ (by omega) (fun _ _ => rfl) (fun v hv => by omega)
  exact ⟨σ', by rw [e_R_fillArrivals]; exact y1, y2, y3⟩
/-- the reference's wish, one byte -/
theorem m_wish_can {T L i : Nat} {t s x3 : Int} (hT : τ 7 0 = (T : Int)) (hT10 : T ≤ 10) (hA : ArrR σ (τ 7) t T) (hb : ByR σ τ L) (hi : i < L) : ∀ (j v : Nat), v + j = T → f_M_wish_57 τ t s x3 (i : Int) (if lstA (σ 9) (trm σ i) v = -1 then 0 else 1) (v : Int) = f_M_wish_57 τ t s x3 (i : Int) (if lstA (σ 9) (trm σ i) T = -1 then 0 else 1) (T : Int)
  | 0, v, hv => by rw [show v = T by omega]
  | j + 1, v, hv => by
    have nx := m_wish_can (s := s) (x3 := x3) hT hT10 hA hb hi j (v + 1) (by omega)
    rw [← nx, e_M_wish_57, if_neg (show ¬ τ 7 0 ≤ (v : Int) by omega), lstA]
    by_cases hl : lstA (σ 9) (trm σ i) v = -1
    · have hnn : ¬ lstA (σ 9) (trm σ i) v ≠ -1 := fun y => y hl
      rw [if_pos hl, in00, if_neg hnn, (hA v (by omega)).1 τ rfl, Option.bind_some]
      dsimp only
      rw [m_termAt hb hi, Option.bind_some]
      dsimp only
      rw [w32_s (by omega)]
      by_cases hg : σ 9 v = trm σ i
      · have hn2 : ¬ ¬ σ 9 v = trm σ i := fun y => y hg
        rw [if_neg hn2, if_pos hg, if_neg (show ¬ (v : Int) = -1 by omega)]
      · rw [if_pos hg, if_neg hg, if_pos rfl]
    · rw [if_neg hl, in10, if_pos hl, if_neg hl, w32_s (by omega)]
theorem wish_loop {T L : Nat} {t s : Int} (h : Rl σ τ k q d) (hT : τ 7 0 = (T : Int)) (hA : ArrR σ (τ 7) t T) (hb : ByR σ τ L) (h3 : τ 0 3 = (L : Int)) (hL : L ≤ 15) (hs0 : 0 ≤ s) (hs1 : s < τ 7 1) (hsay : 0 < τ 7 (Int.toNat (40 + s))) : ∀ (j i : Nat) (v : Int), i + j = L → 0 ≤ v → v ≤ i → ∃ r, f_R_wish_36 σ (L : Int) s v (i : Int) = some (σ, r) ∧ f_M_wish_42 τ t s v (i : Int) = some (τ, r)
  | 0, i, v, hi, v0, v1 => ⟨v, by rw [e_R_wish_36, if_pos (show (L : Int) ≤ i by omega)], by rw [e_M_wish_42, if_pos (show τ 0 3 ≤ (i : Int) by omega)]⟩
  | j + 1, i, v, hi, v0, v1 => by
    have hc0 := h.hw.1.1
    have hd4 := h.hS.1
    have e12 := h.hS.2.2.1
    have e288 := h.hS.2.1
    have n0 := wish_loop h hT hA hb h3 hL hs0 hs1 hsay j (i + 1) v (by omega) v0 (by omega)
    have n1 := wish_loop h hT hA hb h3 hL hs0 hs1 hsay j (i + 1) (v + 1) (by omega) (by omega) (by omega)
    have hcan := m_wish_can (s := s) (x3 := v) hT (by omega) hA hb (show i < L by omega) T 0 (by omega)
    rw [show lstA (σ 9) (trm σ i) 0 = -1 from rfl, if_pos rfl] at hcan
    rw [e_R_wish_36, if_neg (show ¬ (L : Int) ≤ i by omega), c_termOf hb (by omega), Option.bind_some]
    dsimp only
    rw [c_leastFor h hT, Option.bind_some, e_M_wish_42, if_neg (show ¬ τ 0 3 ≤ (i : Int) by omega)]
    dsimp only
    rw [show f_M_wish_57 τ t s v (i : Int) 0 0 = f_M_wish_57 τ t s v (i : Int) 0 ((0 : Nat) : Int) from rfl, hcan, e_M_wish_57, if_pos (show τ 7 0 ≤ (T : Int) by omega)]
    by_cases hl : lstA (σ 9) (trm σ i) T = -1
    · have hnn : ¬ ¬ lstA (σ 9) (trm σ i) T = -1 := fun y => y hl
      rw [if_neg hnn, if_pos hl, in00]
      exact ⟨-1, rfl, rfl⟩
    · obtain ⟨x, hx⟩ : ∃ x, τ 7 (Int.toNat (48 + 12 * s + ((d : Int) + (i : Int)) % τ 7 (Int.toNat (40 + s)))) = x := ⟨_, rfl⟩
      have hsr := h.hw.2.2.2.1 s (((d : Int) + (i : Int)) % τ 7 (Int.toNat (40 + s))) hs0 hs1 (Int.emod_nonneg _ (by omega)) (Int.emod_lt_of_pos _ hsay)
      rw [hx] at hsr
      have hax := (hA x.toNat (by omega)).1 τ rfl
      rw [show ((x.toNat : Nat) : Int) = x by omega] at hax
      rw [if_pos hl, if_neg hl, in10, h.hz, if_pos rfl, h.hk, e12, e288, w32_id (x := (d : Int) + (i : Int)) (by omega) (by omega), c_saidOn h.hL h.hw hs0 hs1 (by omega), if_pos hsay, hx, m_saysOn h.hw.2.2.1 h.hw.1 hs0 hs1 (by omega) hsay, hx, Option.bind_some, Option.bind_some]
      dsimp only
      rw [hax, Option.bind_some]
      dsimp only
      rw [m_termAt hb (by omega), Option.bind_some]
      dsimp only
      rw [if_neg (show ¬ x = -1 by omega), if_pos (zin_t (by omega) (by omega)), w32_s (by omega), Int.add_zero, w32_id (x := v) (by omega) (by omega), w32_id (x := v + 1) (by omega) (by omega)]
      by_cases hq : σ 9 x.toNat = trm σ i
      · rw [if_pos hq, if_pos hq]; exact n0
      · rw [if_neg hq, if_neg hq]; exact n1
/-- the two questions ahead: a row, a source -/
theorem ask_source (h : Rl σ τ k q d) (t : Int) : (∃ s : Int, f_R_source σ t = some (σ, s) ∧ f_M_hasSource τ t = some (τ, if s = -1 then 0 else 1) ∧ (s ≠ -1 → (0 ≤ t ∧ t < τ 7 4) ∧ f_M_sourceOf τ t = some (τ, s) ∧ 0 ≤ s ∧ s < τ 7 1 ∧ 0 < τ 7 (Int.toNat (40 + s)))) := by
  rw [e_R_source, e_M_hasSource]
  simp only [h.hz, h.hk, if_true]
  rw [m_isTown h.hw.1, c_hasTown h.hL, Option.bind_some, Option.bind_some]
  dsimp only
  simp only [h.hz, h.hk, if_true]
  by_cases hc : 0 ≤ t ∧ t < τ 7 4
  · obtain ⟨x, x1, x2, x3, x4, x5⟩ := q_source h.hL (τ := τ) rfl h.hw hc.1 hc.2
    rw [if_pos hc, i10, i10, x1, x2, Option.bind_some, Option.bind_some]
    dsimp only
    refine ⟨x, rfl, ?_, fun hx => ⟨hc, rfl, by omega, x4, (x5 hx).1⟩⟩
    by_cases hx : x = -1
    · rw [if_pos (show x < 0 by omega), if_pos hx]
    · rw [if_neg (show ¬ x < 0 by omega), if_neg hx]
  · rw [if_neg hc, i00, i00]
    exact ⟨-1, rfl, by rw [if_pos rfl], fun hx => absurd rfl hx⟩
theorem q_wish (h : Rl σ τ k q d) (t : Int) : Same (f_R_wish σ t) (f_M_wish τ t) := by
  have h0 := h.mark (v := 0)
  rw [e_M_wish, e_R_wish]
  generalize zset τ 0 0 0 = τ0 at h0 ⊢
  obtain ⟨L, τ1, r, t1, t2, t3, t4, t5, t6, t7, t8, t9⟩ := row_read (M := 15) (m := 940) h0
  have t6' : f_R_takeRow σ 15 = some (zset σ 64 1 0, if r = 1 then (L : Int) else -1) := t6
  have t7' : f_M_areTerms τ1 15 = some (τ1, r) := t7
  obtain ⟨s, s1, s2, s3⟩ := ask_source t2 t
  rw [t6', t1, Option.bind_some, Option.bind_some]
  dsimp only
  rw [s1, s2, Option.bind_some, Option.bind_some]
  dsimp only
  by_cases hs : s = -1
  · rw [if_pos hs, i00]
    rcases t5 with rfl | rfl
    · rw [if_neg (show ¬ (0 : Int) = 1 by decide), if_pos rfl]
      exact t2.look rfl rfl
    · have hL := t8 rfl
      rw [if_pos rfl, if_neg (show ¬ (L : Int) = -1 by omega), if_neg (show ¬ ¬ s = -1 from fun y => y hs)]
      exact t2.look rfl rfl
  · rw [if_neg hs, i10, t7', Option.bind_some]
    dsimp only
    rcases t5 with rfl | rfl
    · rw [if_neg (show ¬ (0 : Int) = 1 by decide), if_pos rfl, in00]
      exact t2.look rfl rfl
    · have hL := t8 rfl
      have hc0 := t2.hw.1.1
      obtain ⟨u1, u2, u3, u4, u5⟩ := s3 hs
      obtain ⟨T, hT⟩ : ∃ T : Nat, τ1 7 0 = (T : Int) := ⟨(τ1 7 0).toNat, by omega⟩
      obtain ⟨σ2, f1, f2, f3⟩ := c_fill t2 hT u1.1 u1.2 u2 hs
      have r2 : Rl σ2 τ1 k q d := t2.same (fun j i hj => by rw [f2 j (by unfold SC at hj; omega)]) (fun _ _ _ => rfl)
      have b2 : ByR σ2 τ1 L := ⟨t3.1, fun i hi => by rw [f2 65 (by decide)]; exact t3.2 i hi⟩
      obtain ⟨x, x1, x2⟩ := wish_loop r2 hT f3 b2 t4 hL.2.1 u3 u4 u5 L 0 0 (by omega) (by omega) (by omega)
      rw [if_pos rfl, if_neg (show ¬ (L : Int) = -1 by omega), if_pos hs, f1, in10, u2, Option.bind_some, Option.bind_some]
      exact r2.look x1 x2
end G32
