/-! WHAT COMES TO A TOWN; an editor's own town -/
section G5
variable {σ τ : zH} {k : Nat} {a : Nat → Int}
theorem m_madeOf' (hτ : τ 7 = a) (hw : wfL a) {e t : Int} (h0 : 0 ≤ e) (h1 : e < a 2) (h2 : 0 ≤ t) (h3 : t < 10) : f_M_madeOf τ e t = some (τ, if a (Int.toNat (156 + 10 * e + t)) = 0 then t else a (Int.toNat (156 + 10 * e + t)) - 2) := by
  subst hτ
  exact m_madeOf hw.1 hw.2.2.2.2.2.1 h0 h1 h2 h3
/-- what an editor makes of a term is a term or none -/
theorem made_in (hw : wfL a) {e t : Int} (h0 : 0 ≤ e) (h1 : e < a 2) (h2 : 0 ≤ t) (h3 : t < a 0) : -1 ≤ (if a (Int.toNat (156 + 10 * e + t)) = 0 then t else a (Int.toNat (156 + 10 * e + t)) - 2) ∧ (if a (Int.toNat (156 + 10 * e + t)) = 0 then t else a (Int.toNat (156 + 10 * e + t)) - 2) < a 0 := by
  have h9 := hw.2.2.2.2.2.1.2.2 e t h0 h1 h2 (by have := hw.1.1; omega)
  split <;> omega
/-- the editors awake of both sides -/
def AwR (n m : Nat) (ne : Int) : Prop := n < 64 ∧ m < 64 ∧ ∀ e : Nat, (e : Int) < ne → (n.testBit e = true ↔ ¬ m.testBit e = true)
/-- which editor is at a place -/
def edAt (a : Nat → Int) (r p e : Int) : Prop := 0 ≤ e ∧ e < a 2 ∧ a (Int.toNat (144 + e)) = r ∧ a (Int.toNat (150 + e)) = p
theorem c_editorOn (h : LandR σ k a) (hw : wfL a) (r p : Int) : ∀ (n e : Nat), a 2 ≤ e + n → (e : Int) ≤ a 2 → (∀ f : Int, 0 ≤ f → f < e → ¬ edAt a r p f) → ∃ q, f_Country_editorOn_2 σ k r p (e : Int) = some (σ, q) ∧ ((q = -1 ∧ ∀ f : Int, ¬ edAt a r p f) ∨ edAt a r p q) := by
  have hc := hw.1.2.2.1
  have fin : ∀ e : Nat, a 2 ≤ (e : Int) → (∀ f : Int, 0 ≤ f → f < e → ¬ edAt a r p f) → ∃ q, f_Country_editorOn_2 σ k r p (e : Int) = some (σ, q) ∧ ((q = -1 ∧ ∀ f : Int, ¬ edAt a r p f) ∨ edAt a r p q) := by
    intro e g1 g3
    refine ⟨-1, by rw [e_Country_editorOn_2, h.1.2.2.1, if_pos g1], Or.inl ⟨rfl, fun f hf => ?_⟩⟩
    exact g3 f hf.1 (by have := hf.2.1; omega) hf
  intro n
  induction n with
  | zero => intro e g1 g2 g3; exact fin e (by omega) g3
  | succ n ih =>
    intro e g1 g2 g3
    by_cases he : a 2 ≤ (e : Int)
    · exact fin e he g3
    · have h9 := (h.2.2.2.1 e (by omega) (by omega)).1
      rw [e_Country_editorOn_2, h.1.2.2.1, if_neg he, if_pos (zin_t (by omega) (by omega)), h9.1, h9.2, w32_s (by omega), ifn, ifn, if_pos (zin_t (by omega) (by omega))]
      have nx : ¬ edAt a r p e → ∀ f : Int, 0 ≤ f → f < (e + 1 : Nat) → ¬ edAt a r p f := by
        intro hn f f1 f2
        by_cases hf : f < e
        · exact g3 f f1 hf
        · have : f = e := by omega
          rw [this]; exact hn
      by_cases h1 : a (Int.toNat (144 + (e : Int))) = r
      · rw [if_pos h1]
        by_cases h2 : a (Int.toNat (150 + (e : Int))) = p
        · rw [if_pos h2]
          exact ⟨e, rfl, Or.inr ⟨by omega, by omega, h1, h2⟩⟩
        · rw [if_neg h2]
          exact ih (e + 1) (by omega) (by omega) (nx (fun q => h2 q.2.2.2))
      · rw [if_neg h1]
        exact ih (e + 1) (by omega) (by omega) (nx (fun q => h1 q.2.2.1))
theorem edAt_one (hw : wfL a) {r p e f : Int} (h1 : edAt a r p e) (h2 : edAt a r p f) : e = f := by
  have h9 := hw.2.2.2.2.2.1.2.1
  obtain ⟨a1, a2, a3, a4⟩ := h1
  obtain ⟨b1, b2, b3, b4⟩ := h2
  by_cases hlt : e < f
  · exact absurd ⟨by rw [a3, b3], by rw [a4, b4]⟩ (h9 e f a1 hlt b2)
  · by_cases hgt : f < e
    · exact absurd ⟨by rw [a3, b3], by rw [a4, b4]⟩ (h9 f e b1 hgt a2)
    · omega
/-- what an editor there, awake, makes of a term -/
def mkAt (a : Nat → Int) (m : Nat) (r p t : Int) (v : Int) : Prop := (∃ e : Nat, edAt a r p e ∧ ¬ m.testBit e = true ∧ v = if a (Int.toNat (156 + 10 * (e : Int) + t)) = 0 then t else a (Int.toNat (156 + 10 * (e : Int) + t)) - 2) ∨ ((∀ e : Nat, edAt a r p e → m.testBit e = true) ∧ v = t)
theorem m_madeAt (hτ : τ 7 = a) (hw : wfL a) {m : Nat} (hm : a 293 = (m : Int)) (hm2 : m < 64) {r p t : Int} (ht0 : 0 ≤ t) (ht1 : t < a 0) : ∀ (n e : Nat), a 2 ≤ e + n → (e : Int) ≤ a 2 → (∀ f : Nat, f < e → edAt a r p f → m.testBit f = true) → ∃ v, f_M_madeAt_3 τ r p t (e : Int) = some (τ, v) ∧ mkAt a m r p t v := by
  have hc := hw.1.2.2.1
  have hct := hw.1.1
  have fin : ∀ e : Nat, a 2 ≤ (e : Int) → (∀ f : Nat, f < e → edAt a r p f → m.testBit f = true) → ∃ v, f_M_madeAt_3 τ r p t (e : Int) = some (τ, v) ∧ mkAt a m r p t v := by
    intro e g1 g3
    refine ⟨t, by rw [e_M_madeAt_3, hτ, if_pos g1], Or.inr ⟨fun f hf => ?_, rfl⟩⟩
    exact g3 f (by have := hf.2.1; omega) hf
  intro n
  induction n with
  | zero => intro e g1 g2 g3; exact fin e (by omega) g3
  | succ n ih =>
    intro e g1 g2 g3
    by_cases he : a 2 ≤ (e : Int)
    · exact fin e he g3
    · have nx : (edAt a r p e → m.testBit e = true) → ∀ f : Nat, f < e + 1 → edAt a r p f → m.testBit f = true := by
        intro hn f f1 f2
        by_cases hf : f < e
        · exact g3 f hf f2
        · have : f = e := by omega
          subst this; exact hn f2
      rw [e_M_madeAt_3, hτ, if_neg he, hm, m_bitOf (by omega) (by omega), w32_s (by omega)]
      simp (disch := omega) only [w32_id, zin_t, if_true, ifn, Option.bind_some, if10]
      by_cases h1 : a (Int.toNat (144 + (e : Int))) = r
      · rw [if_pos h1]
        by_cases h2 : a (Int.toNat (150 + (e : Int))) = p
        · rw [if_pos h2]
          by_cases hb : m.testBit e = true
          · rw [if_pos hb]
            exact ih (e + 1) (by omega) (by omega) (nx (fun _ => hb))
          · rw [if_neg hb, m_madeOf' hτ hw (by omega) (by omega) ht0 (by omega)]
            exact ⟨_, rfl, Or.inl ⟨e, ⟨by omega, by omega, h1, h2⟩, hb, rfl⟩⟩
        · rw [if_neg h2]
          exact ih (e + 1) (by omega) (by omega) (nx (fun q => absurd q.2.2.2 h2))
      · rw [if_neg h1]
        exact ih (e + 1) (by omega) (by omega) (nx (fun q => absurd q.2.2.1 h1))
theorem mkAt_in (hw : wfL a) {m : Nat} {r p t v : Int} (ht0 : 0 ≤ t) (ht1 : t < a 0) (h : mkAt a m r p t v) : -1 ≤ v ∧ v < a 0 := by
  rcases h with ⟨e, h1, -, rfl⟩ | ⟨-, rfl⟩
  · exact made_in hw h1.1 h1.2.1 ht0 ht1
  · omega
/-- one place of the class's way -/
theorem c_oneEditor (h : LandR σ k a) (hw : wfL a) {n m : Nat} (hA : AwR n m (a 2)) {r p t v : Int} (ht0 : 0 ≤ t) (ht1 : t < a 0) (hv : mkAt a m r p t v) (last : Int) (hp : p ≤ 1000) (hp0 : 0 ≤ p) (hl : p ≤ last) : f_Country_afterEditors_6 σ k r last (n : Int) t p = f_Country_afterEditors_6 σ k r last (n : Int) v (p + 1) := by
  have hc := hw.1.2.2.1
  have hct := hw.1.1
  obtain ⟨hn, hm, hb⟩ := hA
  obtain ⟨q, q1, q2⟩ := c_editorOn h hw r p 6 0 (by omega) (by omega) (fun f f1 f2 => by omega)
  have q1 : f_Country_editorOn σ k r p = some (σ, q) := by rw [e_Country_editorOn]; exact q1
  rw [e_Country_afterEditors_6, if_neg (by omega), if_neg (show ¬ t = -1 by omega), q1, w32_id (x := p + 1) (by omega) (by omega)]
  simp only [Option.bind_some]
  rcases q2 with ⟨rfl, q2⟩ | q2
  · rw [if_pos rfl]
    rcases hv with ⟨e, h1, -⟩ | ⟨-, rfl⟩
    · exact absurd h1 (q2 e)
    · rfl
  · obtain ⟨e, rfl⟩ : ∃ e : Nat, q = (e : Int) := ⟨q.toNat, by have := q2.1; omega⟩
    have he2 := q2.2.1
    rw [if_neg (show ¬ (e : Int) = -1 by omega), zbit (by omega) (by omega)]
    by_cases hbit : n.testBit e = true
    · rw [if_pos hbit, if_neg (by decide), c_madeBy h hw (by omega) he2 ht0 (by omega)]
      simp only [Option.bind_some]
      rcases hv with ⟨f, h1, h2, rfl⟩ | ⟨h1, -⟩
      · have := edAt_one hw q2 h1
        rw [this]
      · exact absurd (h1 e q2) ((hb e he2).mp hbit)
    · rw [if_neg hbit, if_pos (by decide)]
      have hbm : m.testBit e = true := by
        cases hx : m.testBit e with
        | true => rfl
        | false => exact absurd ((hb e he2).mpr (by rw [hx]; decide)) hbit
      rcases hv with ⟨f, h1, h2, rfl⟩ | ⟨h1, rfl⟩
      · have := edAt_one hw q2 h1
        have : e = f := by omega
        subst this
        exact absurd hbm h2
      · rfl
/-- the places of one reach -/
theorem q_after (h : LandR σ k a) (hτ : τ 7 = a) (hw : wfL a) {n m : Nat} (hA : AwR n m (a 2)) (hm : a 293 = (m : Int)) {t : Int} {r last : Int} (hl : last ≤ 9) : ∀ (j : Nat) (p v : Int), last + 1 ≤ p + j → 0 ≤ p → p ≤ last + 1 → -1 ≤ v → v < a 0 →
    ∃ w, f_Country_afterEditors_6 σ k r last (n : Int) v p = some (σ, w) ∧ f_M_comesOf_59 τ t v r last p = f_M_comesOf_86 τ t w r ∧ -1 ≤ w ∧ w < a 0 := by
  have hc := hw.1.1
  have hce := hw.1.2.2.1
  intro j
  induction j with
  | zero =>
    intro p v g1 g2 g3 g4 g5
    refine ⟨v, ?_, ?_, g4, g5⟩
    · rw [e_Country_afterEditors_6, if_pos (by omega)]
    · rw [e_M_comesOf_59, if_pos (by omega)]
  | succ j ih =>
    intro p v g1 g2 g3 g4 g5
    by_cases hp : last < p
    · refine ⟨v, ?_, ?_, g4, g5⟩
      · rw [e_Country_afterEditors_6, if_pos hp]
      · rw [e_M_comesOf_59, if_pos hp]
    · by_cases hv : v = -1
      · subst hv
        refine ⟨-1, ?_, ?_, g4, g5⟩
        · rw [e_Country_afterEditors_6, if_neg hp, if_pos rfl]
        · rw [e_M_comesOf_59, if_neg hp, if_pos (by decide)]
      · obtain ⟨u, u1, u2⟩ := m_madeAt hτ hw (m := m) hm hA.2.1 (r := r) (p := p) (t := v) (by omega) g5 6 0 (by omega) (by omega) (fun f hf => by omega)
        have u3 := mkAt_in hw (show 0 ≤ v by omega) g5 u2
        rw [c_oneEditor h hw hA (by omega) g5 u2 last (by omega) g2 (by omega), e_M_comesOf_59, if_neg hp, if_neg (show ¬ v < 0 by omega), e_M_madeAt]
        rw [show f_M_madeAt_3 τ r p v 0 = some (τ, u) from u1, w32_id (x := p + 1) (by omega) (by omega)]
        simp only [Option.bind_some]
        exact ih (p + 1) u (by omega) (by omega) (by omega) u3.1 u3.2
theorem q_comes_in (h : LandR σ k a) (hτ : τ 7 = a) (hw : wfL a) {n m : Nat} (hA : AwR n m (a 2)) (hm : a 293 = (m : Int)) {t : Int} (h0 : 0 ≤ t) (h1 : t < a 4) : ∀ (j : Nat) (q v s : Int), -1 < q → q < a 1 → q ≤ j → 0 ≤ s → s + q + 1 ≤ 8 → -1 ≤ v → v < a 0 → AbP a (a (Int.toNat (216 + t))) q →
    ∃ w, f_Country_arrival_13 σ k t (n : Int) q v s = some (σ, w) ∧ f_M_comesOf_9 τ t v q = some (τ, w) ∧ -1 ≤ w ∧ w < a 0 := by
  have hc := hw.1.2.1
  have hct := hw.1.2.2.2.2.1
  have hwt := hw.2.2.2.2.2.2.1 t h0 h1
  have h9 := (h.2.2.2.2 t h0 h1).1
  have hlt := (hw.2.2.1 _ hwt.1.1 hwt.1.2).1
  have eT : w32 (216 + t) = 216 + t := w32_id (by omega) (by omega)
  have eT2 : w32 (222 + t) = 222 + t := w32_id (by omega) (by omega)
  intro j
  induction j with
  | zero =>
    intro q v s g1 g2 g3 g4 g5 g6 g7 g8
    have hT : q = a (Int.toNat (216 + t)) := by
      rcases (AbP_step hw (show 0 ≤ q by omega) g2).mp g8 with h' | h'
      · exact h'
      · have := hw.2.2.1 q (by omega) g2
        rw [show a (Int.toNat (24 + q)) = -1 by omega] at h'
        exact absurd h' AbP_neg
    obtain ⟨w, w1, w2, w3, w4⟩ := q_after h hτ hw hA hm (t := t) (r := q) (last := a (Int.toNat (222 + t))) (by omega) 10 0 v (by omega) (by omega) (by omega) g6 g7
    refine ⟨w, ?_, ?_, w3, w4⟩
    · rw [e_Country_arrival_13, if_neg (by omega), if_neg (by omega), if_pos (zin_t h0 (by omega)), h9.1, ifn, if_pos hT, if_pos (zin_t h0 (by omega)), h9.2, e_Country_afterEditors, w1]
      rfl
    · rw [e_M_comesOf_9, if_neg (by omega), hτ, eT, eT2, if_pos (zin_t (by omega) (by omega)), ifn, if_pos hT, if_pos (zin_t (by omega) (by omega)), w2, e_M_comesOf_86, hτ, eT, if_pos (zin_t (by omega) (by omega)), ifn, if_pos hT, e_M_comesOf_9, if_pos (by decide)]
  | succ j ih =>
    intro q v s g1 g2 g3 g4 g5 g6 g7 g8
    by_cases hT : q = a (Int.toNat (216 + t))
    · obtain ⟨w, w1, w2, w3, w4⟩ := q_after h hτ hw hA hm (t := t) (r := q) (last := a (Int.toNat (222 + t))) (by omega) 10 0 v (by omega) (by omega) (by omega) g6 g7
      refine ⟨w, ?_, ?_, w3, w4⟩
      · rw [e_Country_arrival_13, if_neg (by omega), if_neg (by omega), if_pos (zin_t h0 (by omega)), h9.1, ifn, if_pos hT, if_pos (zin_t h0 (by omega)), h9.2, e_Country_afterEditors, w1]
        rfl
      · rw [e_M_comesOf_9, if_neg (by omega), hτ, eT, eT2, if_pos (zin_t (by omega) (by omega)), ifn, if_pos hT, if_pos (zin_t (by omega) (by omega)), w2, e_M_comesOf_86, hτ, eT, if_pos (zin_t (by omega) (by omega)), ifn, if_pos hT, e_M_comesOf_9, if_pos (by decide)]
    · have hr := hw.2.2.1 q (by omega) g2
      have h8 := (h.2.2.1 q (by omega) g2).1
      have hA2 : AbP a (a (Int.toNat (216 + t))) (a (Int.toNat (24 + q))) := by
        rcases (AbP_step hw (show 0 ≤ q by omega) g2).mp g8 with h' | h'
        · exact absurd h' hT
        · exact h'
      have hne : a (Int.toNat (24 + q)) ≠ -1 := by
        intro h'
        rw [h'] at hA2
        exact AbP_neg hA2
      have eL : w32 (a (Int.toNat (16 + q)) - 1) = a (Int.toNat (16 + q)) - 1 := w32_id (by omega) (by omega)
      obtain ⟨w, w1, w2, w3, w4⟩ := q_after h hτ hw hA hm (t := t) (r := q) (last := a (Int.toNat (16 + q)) - 1) (by omega) 10 0 v (by omega) (by omega) (by omega) g6 g7
      obtain ⟨z, z1, z2, z3, z4⟩ := ih (a (Int.toNat (24 + q))) w (s + 1) (by omega) (by omega) (by omega) (by omega) (by omega) w3 w4 hA2
      refine ⟨z, ?_, ?_, z3, z4⟩
      · rw [e_Country_arrival_13, if_neg (by omega), if_neg (by omega), if_pos (zin_t h0 (by omega)), h9.1, ifn, if_neg hT, if_pos (zin_t (by omega) (by omega)), h8.1, eL, e_Country_afterEditors, w1]
        simp only [Option.bind_some]
        rw [if_pos (zin_t (by omega) (by omega)), h8.2.1, w32_id (x := s + 1) (by omega) (by omega)]
        exact z1
      · rw [e_M_comesOf_9, if_neg (by omega), hτ, eT, eT2, if_pos (zin_t (by omega) (by omega)), ifn, if_neg hT, w32_id (x := 16 + q) (by omega) (by omega), if_pos (zin_t (by omega) (by omega)), eL, w2, e_M_comesOf_86, hτ, eT, if_pos (zin_t (by omega) (by omega)), ifn, if_neg hT, w32_id (x := 24 + q) (by omega) (by omega), if_pos (zin_t (by omega) (by omega))]
        exact z2
end G5
