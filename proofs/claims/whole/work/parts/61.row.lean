/-! A ROW on the tape, both sides -/
section G31
variable {σ τ σ1 τ1 : zH} {k q d e : Nat} {a b : Nat → Int}
def ByR (σ τ : zH) (L : Nat) : Prop := L ≤ 940 ∧ ∀ i, i < L → -128 ≤ τ 2 i ∧ τ 2 i < 128 ∧ σ 65 i = τ 2 i % 256
def trm (σ : zH) (i : Nat) : Int := if σ 65 i = 255 then -1 else σ 65 i
theorem c_termOf {L i : Nat} (h : ByR σ τ L) (hi : i < L) : f_Tape_termOf σ (i : Int) = some (σ, trm σ i) := by
  have hL := h.1
  rw [e_Tape_termOf, if_pos (zin_t (by omega) (by omega)), show Int.toNat (i : Int) = i from rfl]
  unfold trm
  by_cases hq : σ 65 i = 255
  · have hnn : ¬ ¬ σ 65 i = 255 := fun x => x hq
    rw [if_neg hnn, if_pos hq]
  · rw [if_pos hq, if_pos (zin_t (by omega) (by omega)), if_neg hq]
theorem m_octet {L i : Nat} (h : ByR σ τ L) (hi : i < L) : f_M_octet τ (i : Int) = some (τ, σ 65 i) := by
  have hL := h.1
  obtain ⟨h1, h2, h3⟩ := h.2 i hi
  rw [e_M_octet, if_pos (zin_t (by omega) (by omega)), show Int.toNat (i : Int) = i from rfl, zand_mask ⟨by omega, by omega⟩, h3]
theorem m_termAt {L i : Nat} (h : ByR σ τ L) (hi : i < L) : f_M_termAt τ (i : Int) = some (τ, trm σ i) := by
  rw [e_M_termAt, m_octet h hi, Option.bind_some]
  dsimp only
  unfold trm
  by_cases hq : σ 65 i = 255
  · have hnn : ¬ ¬ σ 65 i = 255 := fun x => x hq
    rw [if_neg hnn, if_pos hq]
  · rw [if_pos hq, m_octet h hi, Option.bind_some, if_neg hq]
/-- the row is taken: the tape is empty then -/
theorem row_take {m : Int} (h : Rl σ τ k q d) : ∃ (L : Nat) (τ1 : zH), σ 64 1 = (L : Int) ∧ f_M_taken τ m = some (τ1, 0) ∧ Rl (zset σ 64 1 0) τ1 k q d ∧ ByR (zset σ 64 1 0) τ1 L ∧ τ1 0 3 = (L : Int) ∧ (∀ j, j ≠ 0 → τ1 j = τ j) := by
  obtain ⟨L, t1, t2, t3, t4⟩ := h.hT
  have e65 : zset σ 64 1 0 65 = σ 65 := zk (by decide)
  refine ⟨L, _, t2, by rw [e_M_taken], ?_, ⟨t1, fun i hi => ?_⟩, ?_, fun j hj => by rw [zk hj, zk hj, zk hj, zk hj]⟩
  · refine h.tape (fun j i _ hj hj5 => ?_) (fun j i hs hj hj2 => ?_) ⟨0, by omega, by rw [zs]; rfl, ?_, fun i hi => by omega⟩
    · by_cases j4 : j = 64
      · subst j4; rw [zi (by omega)]
      · rw [zk j4]
    · by_cases j0 : j = 0
      · subst j0
        rw [zi (by unfold SM at hs; omega), zi (by unfold SM at hs; omega), zi (by unfold SM at hs; omega), zi (by unfold SM at hs; omega)]
      · rw [zk j0, zk j0, zk j0, zk j0]
    · rw [zi (by decide), zi (by decide), zs]; rfl
  · rw [e65, zk (by decide), zk (by decide), zk (by decide), zk (by decide)]
    exact t4 i hi
  · rw [zi (by decide), zi (by decide), zi (by decide), zs]
    exact t3
/-- its bytes are terms, or none -/
theorem row_loop {L : Nat} (h : Rl σ τ k q d) (hb : ByR σ τ L) (h3 : τ 0 3 = (L : Int)) : ∀ (j i : Nat), i + j = L → ∃ r : Int, (r = 0 ∨ r = 1) ∧ f_R_takeRow_28 σ (L : Int) (i : Int) = some (σ, if r = 1 then (L : Int) else -1) ∧ f_M_areTerms_16 τ (i : Int) = some (τ, r) ∧ (r = 1 → ∀ x, i ≤ x → x < L → trm σ x < τ 7 0)
  | 0, i, hi => by
    refine ⟨1, Or.inr rfl, ?_, ?_, fun _ x h1 h2 => by omega⟩
    · rw [e_R_takeRow_28, if_pos (show (L : Int) ≤ i by omega), if_pos rfl]
    · rw [e_M_areTerms_16, if_pos (show τ 0 3 ≤ (i : Int) by omega)]
  | j + 1, i, hi => by
    have hL := hb.1
    have hc0 := h.hw.1.1
    obtain ⟨b1, b2, b3⟩ := hb.2 i (by omega)
    obtain ⟨r, r1, r2, r3, r4⟩ := row_loop h hb h3 j (i + 1) (by omega)
    rw [e_R_takeRow_28, if_neg (show ¬ (L : Int) ≤ i by omega), c_termOf hb (by omega), Option.bind_some, e_M_areTerms_16, if_neg (show ¬ τ 0 3 ≤ (i : Int) by omega), m_octet hb (by omega), Option.bind_some]
    dsimp only
    rw [w32_s (by omega)]
    by_cases h255 : σ 65 i = 255
    · have ht : trm σ i = -1 := if_pos h255
      rw [if_pos ht, if_pos h255]
      refine ⟨r, r1, r2, r3, fun hr x h1 h2 => ?_⟩
      by_cases hx : x = i
      · rw [hx, ht]; omega
      · exact r4 hr x (by omega) h2
    · have ht : trm σ i = σ 65 i := if_neg h255
      rw [if_neg (show ¬ trm σ i = -1 by omega), if_neg h255, h.hz, if_pos rfl, h.hk, c_hasTerm h.hL, Option.bind_some, m_octet hb (by omega), Option.bind_some]
      dsimp only
      rw [ht]
      by_cases hlt : σ 65 i < τ 7 0
      · rw [if_pos (show 0 ≤ σ 65 i ∧ σ 65 i < τ 7 0 by omega), in10, if_pos hlt]
        refine ⟨r, r1, r2, r3, fun hr x h1 h2 => ?_⟩
        by_cases hx : x = i
        · rw [hx, ht]; exact hlt
        · exact r4 hr x (by omega) h2
      · rw [if_neg (show ¬ (0 ≤ σ 65 i ∧ σ 65 i < τ 7 0) by omega), in00, if_neg hlt]
        exact ⟨0, Or.inl rfl, rfl, rfl, fun hr => absurd hr (by decide)⟩
theorem row_read {M : Nat} {m : Int} (h : Rl σ τ k q d) : ∃ (L : Nat) (τ1 : zH) (r : Int), f_M_taken τ m = some (τ1, 0) ∧ Rl (zset σ 64 1 0) τ1 k q d ∧ ByR (zset σ 64 1 0) τ1 L ∧ τ1 0 3 = (L : Int) ∧ (r = 0 ∨ r = 1) ∧ f_R_takeRow σ (M : Int) = some (zset σ 64 1 0, if r = 1 then (L : Int) else -1) ∧ f_M_areTerms τ1 (M : Int) = some (τ1, r) ∧ (r = 1 → 1 ≤ L ∧ L ≤ M ∧ ∀ x, x < L → trm (zset σ 64 1 0) x < τ1 7 0) ∧ (∀ j, j ≠ 0 → τ1 j = τ j) := by
  obtain ⟨L, τ1, t1, t2, t3, t4, t5, t6⟩ := row_take (m := m) h
  obtain ⟨r, r1, r2, r3, r4⟩ := row_loop t3 t4 t5 L 0 (by omega)
  by_cases hL : 1 ≤ L ∧ L ≤ M
  · refine ⟨L, τ1, r, t2, t3, t4, t5, r1, ?_, ?_, fun hr => ⟨hL.1, hL.2, fun x hx => r4 hr x (by omega) hx⟩, t6⟩
    · rw [e_R_takeRow, t1, e_R_isWithin, if_neg (show ¬ (L : Int) < 1 by omega), if_neg (show ¬ (M : Int) < L by omega), Option.bind_some]
      dsimp only
      rw [in10]
      exact r2
    · rw [e_M_areTerms, t5, m_isIn, Option.bind_some, if_pos (show 1 ≤ (L : Int) ∧ (L : Int) ≤ M by omega)]
      dsimp only
      rw [in10]
      exact r3
  · refine ⟨L, τ1, 0, t2, t3, t4, t5, Or.inl rfl, ?_, ?_, fun hr => absurd hr (by decide), t6⟩
    · rw [e_R_takeRow, t1, e_R_isWithin]
      by_cases h1 : (L : Int) < 1
      · rw [if_pos h1, Option.bind_some]
        dsimp only
        rw [in00]
        rfl
      · rw [if_neg h1, if_pos (show (M : Int) < L by omega), Option.bind_some]
        dsimp only
        rw [in00]
        rfl
    · rw [e_M_areTerms, t5, m_isIn, Option.bind_some, if_neg (show ¬ (1 ≤ (L : Int) ∧ (L : Int) ≤ M) by omega)]
      dsimp only
      rw [in00]
/-- the term that more than half are -/
theorem most_in {L t : Nat} (hb : ByR σ τ L) (h3 : τ 0 3 = (L : Int)) (ht : t < 10) : ∀ (j i : Nat) (v : Int), i + j = L → 0 ≤ v → v ≤ i → ∃ w : Int, 0 ≤ w ∧ w ≤ L ∧ f_R_most_33 σ (L : Int) (t : Int) v (i : Int) = f_R_most_33 σ (L : Int) (t : Int) w (L : Int) ∧ f_M_most_40 τ (t : Int) v (i : Int) = f_M_most_40 τ (t : Int) w (L : Int)
  | 0, i, v, hi, v0, v1 => ⟨v, v0, by omega, by rw [show i = L by omega], by rw [show i = L by omega]⟩
  | j + 1, i, v, hi, v0, v1 => by
    have hL := hb.1
    obtain ⟨b1, b2, b3⟩ := hb.2 i (by omega)
    obtain ⟨w0, x1, x2, x3, x4⟩ := most_in hb h3 ht j (i + 1) v (by omega) v0 (by omega)
    obtain ⟨w1, y1, y2, y3, y4⟩ := most_in hb h3 ht j (i + 1) (v + 1) (by omega) (by omega) (by omega)
    rw [e_R_most_33 σ (L : Int) (t : Int) v (i : Int), if_neg (show ¬ (L : Int) ≤ i by omega), c_termOf hb (by omega), Option.bind_some, e_M_most_40 τ (t : Int) v (i : Int), if_neg (show ¬ τ 0 3 ≤ (i : Int) by omega), m_octet hb (by omega), Option.bind_some]
    dsimp only
    rw [w32_s (by omega), Int.add_zero, w32_id (x := v) (by omega) (by omega), w32_id (x := v + 1) (by omega) (by omega)]
    have htr : (trm σ i = (t : Int)) ↔ σ 65 i = (t : Int) := by
      unfold trm
      split <;> omega
    by_cases hq : σ 65 i = (t : Int)
    · have hq2 := htr.mpr hq
      have n1 : ¬ ¬ σ 65 i = (t : Int) := fun x => x hq
      have n2 : ¬ ¬ trm σ i = (t : Int) := fun x => x hq2
      rw [if_neg n1, if_neg n2]
      exact ⟨w1, y1, y2, y3, y4⟩
    · rw [if_pos hq, if_pos (show ¬ trm σ i = (t : Int) from fun x => hq (htr.mp x))]
      exact ⟨w0, x1, x2, x3, x4⟩
theorem most_all {L : Nat} (h : Rl σ τ k q d) (hb : ByR σ τ L) (h3 : τ 0 3 = (L : Int)) : ∀ (j t : Nat), τ 7 0 ≤ t + j → (t : Int) ≤ τ 7 0 → ∃ r, f_R_most_17 σ (L : Int) (t : Int) = some (σ, r) ∧ f_M_most_26 τ (t : Int) = some (τ, r) := by
  have hc0 := h.hw.1.1
  have hL := hb.1
  intro j
  induction j with
  | zero =>
    intro t g1 g2
    exact ⟨-1, by rw [e_R_most_17, h.hz, if_pos rfl, h.hk, h.hL.1.1, if_pos (show τ 7 0 ≤ (t : Int) by omega)], by rw [e_M_most_26, if_pos (show τ 7 0 ≤ (t : Int) by omega)]⟩
  | succ j ih =>
    intro t g1 g2
    by_cases ht : τ 7 0 ≤ (t : Int)
    · exact ⟨-1, by rw [e_R_most_17, h.hz, if_pos rfl, h.hk, h.hL.1.1, if_pos ht], by rw [e_M_most_26, if_pos ht]⟩
    · obtain ⟨w, w0, w1, w2, w3⟩ := most_in hb h3 (t := t) (by omega) L 0 0 (by omega) (by omega) (by omega)
      obtain ⟨r, r1, r2⟩ := ih (t + 1) (by omega) (by omega)
      rw [e_R_most_17, h.hz, if_pos rfl, h.hk, h.hL.1.1, if_neg ht, e_M_most_26, if_neg ht]
      rw [show f_R_most_33 σ (L : Int) (t : Int) 0 0 = f_R_most_33 σ (L : Int) (t : Int) 0 ((0 : Nat) : Int) from rfl, w2, show f_M_most_40 τ (t : Int) 0 0 = f_M_most_40 τ (t : Int) 0 ((0 : Nat) : Int) from rfl, w3]
      rw [e_R_most_33, if_pos (show (L : Int) ≤ (L : Int) by omega), e_M_most_40, if_pos (show τ 0 3 ≤ (L : Int) by omega), w32_id (x := (L : Int) - w) (by omega) (by omega), w32_id (x := 2 * w) (by omega) (by omega), w32_s (by omega)]
      by_cases hw : 2 * w ≤ (L : Int)
      · rw [if_pos (show w ≤ (L : Int) - w by omega), if_pos (show 2 * w ≤ τ 0 3 by omega)]
        exact ⟨r, r1, r2⟩
      · rw [if_neg (show ¬ w ≤ (L : Int) - w by omega), if_neg (show ¬ 2 * w ≤ τ 0 3 by omega)]
        exact ⟨t, rfl, rfl⟩
theorem q_most (h : Rl σ τ k q d) : Same (f_R_most σ) (f_M_most τ) := by
  have h0 := h.mark (v := 0)
  rw [e_M_most, e_R_most]
  generalize zset τ 0 0 0 = τ0 at h0 ⊢
  obtain ⟨L, τ1, r, t1, t2, t3, t4, t5, t6, t7, t8, t9⟩ := row_read (M := 99) (m := 940) h0
  have t6' : f_R_takeRow σ 99 = some (zset σ 64 1 0, if r = 1 then (L : Int) else -1) := t6
  have t7' : f_M_areTerms τ1 99 = some (τ1, r) := t7
  rw [t6', t1, Option.bind_some, Option.bind_some]
  dsimp only
  rw [t7', Option.bind_some]
  dsimp only
  rcases t5 with rfl | rfl
  · rw [if_neg (show ¬ (0 : Int) = 1 by decide), in00, if_neg (show ¬ ¬ (-1 : Int) = -1 by decide)]
    exact t2.look rfl rfl
  · have hL := t8 rfl
    have hc0 := t2.hw.1.1
    obtain ⟨x, x1, x2⟩ := most_all t2 t3 t4 10 0 (by omega) (by omega)
    rw [if_pos rfl, if_pos (show ¬ (L : Int) = -1 by omega), in10]
    exact t2.look x1 x2
end G31
