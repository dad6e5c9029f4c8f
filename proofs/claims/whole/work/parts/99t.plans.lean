/-! THE PLANS: apart, closed; both heaps at the beginning -/
section ZPL
def zfok (P : zP) (k c slot : Nat) : Bool := match zfi c slot with
  | (4, a, b) => decide ((k + a, b, 0) ∈ P)
  | (5, a, b) => decide ((k + (1 + slot), 100 + a, b) ∈ P)
  | (6, a, _) => decide ((k + (1 + slot), 100 + a, zhl k) ∈ P)
  | (3, a, _) => Nat.blt a 200 && (zids a).all (fun x => decide ((x, a, 0) ∈ P))
  | _ => true
theorem zfok_spec {P : zP} {k c slot : Nat} (h : zfok P k c slot = true) : ∀ a b, (zfi c slot = (4, a, b) → (k + a, b, 0) ∈ P) ∧ (zfi c slot = (5, a, b) → (k + (1 + slot), 100 + a, b) ∈ P) ∧ (zfi c slot = (6, a, b) → (k + (1 + slot), 100 + a, zhl k) ∈ P) ∧ (zfi c slot = (3, a, b) → a < 200 ∧ ∀ x ∈ zids a, (x, a, 0) ∈ P) := by
  intro a b
  unfold zfok at h
  refine ⟨fun e => ?_, fun e => ?_, fun e => ?_, fun e => ?_⟩ <;> rw [e] at h
  · exact of_decide_eq_true h
  · exact of_decide_eq_true h
  · exact of_decide_eq_true h
  · simp only [Bool.and_eq_true, Nat.blt_eq, List.all_eq_true, decide_eq_true_eq] at h
    exact h
def zeok (P : zP) (e : Nat × Nat × Nat) : Bool :=
  (Nat.blt e.2.1 200 && Nat.blt e.2.2 10000) && cond (Nat.blt e.2.1 100) (Nat.beq e.2.2 0 && (List.range (znf e.2.1)).all (zfok P e.1 e.2.1)) (cond (Nat.beq e.2.1 115) ((zids 5).all (fun x => decide ((x, 5, 0) ∈ P))) (cond (Nat.beq e.2.1 118) ((zids 8).all (fun x => decide ((x, 8, 0) ∈ P))) (zmem e.2.1 [100, 101, 102, 103])))
theorem zcl_of {P : zP} (h : P.all (zeok P) = true) : zcl P := by
  have h' : ∀ e ∈ P, zeok P e = true := List.all_eq_true.mp h
  refine ⟨fun e he hc => ?_, fun e he hc => ?_, fun e he hc => ?_, fun e he => ?_⟩
  all_goals
    have q := h' e he
    unfold zeok at q
    rw [Bool.and_eq_true, Bool.and_eq_true] at q
    obtain ⟨⟨q1, q2⟩, q3⟩ := q
    have q1 := Nat.blt_eq.mp q1
    have q2 := Nat.blt_eq.mp q2
  · rw [show Nat.blt e.2.1 100 = true from Nat.blt_eq.mpr hc] at q3
    simp only [cond_true, Bool.and_eq_true] at q3
    refine ⟨Nat.eq_of_beq_eq_true q3.1, fun slot a b => ?_⟩
    by_cases hs : slot < znf e.2.1
    · exact zfok_spec (List.all_eq_true.mp q3.2 slot (List.mem_range.mpr hs)) a b
    · rw [zfi_out (Nat.le_of_not_lt hs)]
      exact ⟨fun h => (by cases h), fun h => (by cases h), fun h => (by cases h), fun h => (by cases h)⟩
  · rw [hc] at q3
    simp only [show Nat.blt 115 100 = false from rfl, show Nat.beq 115 115 = true from rfl, cond_true, cond_false, List.all_eq_true, decide_eq_true_eq] at q3
    exact q3
  · rw [hc] at q3
    simp only [show Nat.blt 118 100 = false from rfl, show Nat.beq 118 115 = false from rfl, show Nat.beq 118 118 = true from rfl, cond_true, cond_false, List.all_eq_true, decide_eq_true_eq] at q3
    exact q3
  · refine ⟨q1, ?_, q2⟩
    by_cases h1 : e.2.1 < 100
    · exact Or.inl h1
    · rw [show Nat.blt e.2.1 100 = false from by cases h0 : Nat.blt e.2.1 100 with | false => rfl | true => exact absurd (Nat.blt_eq.mp h0) h1] at q3
      rw [cond_false] at q3
      cases h5 : Nat.beq e.2.1 115 with
      | true =>
        have := Nat.eq_of_beq_eq_true h5
        omega
      | false =>
        rw [h5, cond_false] at q3
        cases h8 : Nat.beq e.2.1 118 with
        | true =>
          have := Nat.eq_of_beq_eq_true h8
          omega
        | false =>
          rw [h8, cond_false] at q3
          have hm := zmem_iff q3
          simp only [List.mem_cons, List.not_mem_nil, or_false] at hm
          omega
def zapb : zP → Bool
  | [] => true
  | e :: t => t.all (fun f => !Nat.beq e.1 f.1) && zapb t
theorem zap_of : ∀ {P : zP}, zapb P = true → zapart P
  | [], _ => List.Pairwise.nil
  | e :: t, h => by
    simp only [zapb, Bool.and_eq_true, List.all_eq_true] at h
    refine List.Pairwise.cons (fun f hf hef => ?_) (zap_of h.2)
    have q := h.1 f hf
    rw [hef, Nat.beq_refl] at q
    cases q
set_option maxRecDepth 100000 in
theorem zapR : zapart zPR := zap_of (by decide +kernel)
set_option maxRecDepth 100000 in
theorem zclR : zcl zPR := zcl_of (by decide +kernel)
-- the heap of the class
theorem fl_r {σ : zH} {k n : Nat} {v : Int} (h : ∀ j i, r32 (σ j i)) (hv : r32 v) : ∀ j i, r32 (fl σ k n v j i) := by
  intro j i
  unfold fl
  split
  · exact hv
  · exact h j i
theorem zset_r {σ : zH} {k n : Nat} {v : Int} (h : ∀ j i, r32 (σ j i)) (hv : r32 v) : ∀ j i, r32 (zset σ k n v j i) := by
  intro j i
  unfold zset
  split
  · exact hv
  · exact h j i
theorem zbeg_r {k : Nat} : ∀ j i, r32 (zbeg k j i) := by
  have r0 : r32 0 := ⟨by decide, by decide⟩
  have r1 : r32 (-1) := ⟨by decide, by decide⟩
  have r2 : r32 12 := ⟨by decide, by decide⟩
  have h0 : ∀ j i, r32 ((fun _ _ => 0 : zH) j i) := fun _ _ => r0
  unfold zbeg
  rw [e_Stream_begin]
  simp only [c_jfill (show (72 : Nat) ≤ 1000 by decide), c_jfill (show (6 : Nat) ≤ 1000 by decide), Option.bind_some]
  exact zset_r (zset_r (zset_r (zset_r (fl_r (fl_r (fl_r (fl_r (fl_r (fl_r (fl_r (fl_r (fl_r (fl_r h0 r1) r0) r0) r1) r0) r0) r1) r0) r1) r0) r0) (r32_w32 _)) r0) r0
/-- which cell of the plan is of what kind at the beginning: a special one, a stream's, or zero -/
def zbk (e : Nat × Nat × Nat) : Bool := decide (e = (0, 10, 0) ∨ e = (7, 115, 2) ∨ e = (32, 2, 0) ∨ e = (161, 118, 4)) || ((zmem (32 * (e.1 / 32)) (zids 8) && (Nat.ble (e.1 % 32) 12 && (Nat.beq e.2.1 8 || Nat.beq e.2.1 100))) || (decide (e.1 ≠ 0 ∧ e.1 ≠ 7 ∧ e.1 ≠ 32 ∧ e.1 ≠ 161) && (zids 8).all (fun x => decide (e.1 < x ∨ x + 12 < e.1))))
set_option maxRecDepth 100000 in
theorem zbk_all : zPR.all zbk = true := by decide +kernel
theorem zfk8 : ∀ slot, slot < znf 8 → (zfi 8 slot).1 = 0 ∨ 3 ≤ (zfi 8 slot).1 := by decide +kernel
theorem zrf_hi {f : Nat} {x : Int} (h : 3 ≤ f) : zrf f x := by
  match f, h with
  | n + 3, _ => exact True.intro
theorem zrg_8 {i : Nat} {x : Int} (h : r32 x) : zrg 8 i x := by
  show zrf (zfi 8 i).1 x
  by_cases hs : i < znf 8
  · rcases zfk8 i hs with q | q
    · rw [q]; exact h
    · exact zrf_hi q
  · rw [zfi_out (Nat.le_of_not_lt hs)]
    exact zrf_hi (by decide)
theorem okH_BG : okH zPR zBG := by
  intro e he i
  have hb := List.all_eq_true.mp zbk_all e he
  unfold zbk at hb
  rw [Bool.or_eq_true, Bool.or_eq_true] at hb
  rcases hb with hb | hb | hb
  · have hb := of_decide_eq_true hb
    rcases hb with rfl | rfl | rfl | rfl
    · show zrf (zfi 10 i).1 (zBG 0 i)
      by_cases h : i = 11 ∨ i = 12 ∨ i = 13 ∨ i = 14 ∨ i = 16
      · rcases h with rfl | rfl | rfl | rfl | rfl
        · exact zrf_hi (by decide)
        · exact zrf_hi (by decide)
        · exact zrf_hi (by decide)
        · exact zrf_hi (by decide)
        · show zrf 0 (-1)
          exact ⟨by decide, by decide⟩
      · have hz : zBG 0 i = 0 := by
          show (if i = 11 then (384 : Int) else if i = 13 then 448 else if i = 12 then 512 else if i = 14 then 544 else if i = 16 then -1 else 0) = 0
          rw [if_neg (by omega), if_neg (by omega), if_neg (by omega), if_neg (by omega), if_neg (by omega)]
        rw [hz]
        exact zrg_zero 10 i
    · exact True.intro
    · show zrf (zfi 2 i).1 (zBG 32 i)
      by_cases h : i = 1
      · subst h
        exact zrf_hi (by decide)
      · have hz : zBG 32 i = 0 := by
          show (if i = 1 then (448 : Int) else 0) = 0
          rw [if_neg h]
        rw [hz]
        exact zrg_zero 2 i
    · exact True.intro
  · rw [Bool.and_eq_true, Bool.and_eq_true, Bool.or_eq_true] at hb
    obtain ⟨h1, h2, h3⟩ := hb
    have h2 := Nat.le_of_ble_eq_true h2
    rw [zI_str (zmem_iff h1) (j := e.1) (by omega) (by omega)]
    rcases h3 with h3 | h3
    · rw [Nat.eq_of_beq_eq_true h3]
      exact zrg_8 (zbeg_r _ _)
    · rw [Nat.eq_of_beq_eq_true h3]
      exact zbeg_r _ _
  · rw [Bool.and_eq_true] at hb
    obtain ⟨h1, h2⟩ := hb
    rw [zBG_z (of_decide_eq_true h1) (fun x hx => of_decide_eq_true (List.all_eq_true.mp h2 x hx))]
    exact zrg_zero _ _
theorem wfL_zero {b : Nat → Int} (m7 : ∀ j, j < 2959 → b j = 0) : wfL b := by
  have v0 := m7 0 (by omega)
  have v1 := m7 1 (by omega)
  have v2 := m7 2 (by omega)
  have v3 := m7 3 (by omega)
  have v4 := m7 4 (by omega)
  have v5 := m7 5 (by omega)
  exact ⟨⟨by omega, by omega, by omega, by omega, by omega, by omega⟩, fun t t0 t1 => by omega, fun r r0 r1 => by omega, fun r j r0 r1 => by omega, ⟨fun q q0 q1 => by omega, fun q1 q2 p0 p1 p2 => by omega⟩, ⟨fun e e0 e1 => by omega, fun e f e0 e1 e2 => by omega, fun e t e0 e1 => by omega⟩, ⟨fun t t0 t1 => by omega, fun t m t0 t1 => by omega⟩⟩
theorem str_BG {b : Nat → Int} (m7 : ∀ j, j < 2959 → b j = 0) : StrR zBG 96 b 0 := by
  have hw := wfL_zero m7
  obtain ⟨σ', h1, h2, -⟩ := c_begin (σ := fun _ _ => 0) (b := b) (E := 0) (by omega) (m7 2 (by omega)) hw (fun j h0 h1 => m7 j (by omega))
  have e : zbeg 96 = σ' := by
    unfold zbeg
    rw [show f_Stream_begin (fun _ _ => 0) 96 0 = some (σ', 0) from h1]
  exact h2.keepd hw (fun j _ => rfl) (fun j h0 h1 => by rw [zI_str (k := 96) (by decide) h0 (by omega), e])
theorem zBG_0 {j i : Nat} (h : j ≠ 0 ∧ j ≠ 7 ∧ j ≠ 32 ∧ j ≠ 161) (h2 : ∀ x ∈ zids 8, j < x ∨ x + 12 < j) : zBG j i = 0 := by rw [zBG_z h h2]
theorem rel_BG {τ : zH} (m0 : ∀ i, i = 2 ∨ i = 15 ∨ i = 23 ∨ i = 27 ∨ i = 31 ∨ i = 32 ∨ i = 35 → τ 0 i = 0) (m7 : ∀ j, j < 2959 → τ 7 j = 0) (k0 : τ 46 0 = 0) (k1 : τ 46 1 = 0) (hV : ResR τ) : Rel zBG τ := by
  refine rel_start rfl rfl rfl rfl rfl rfl rfl rfl rfl (zBG_0 (by decide) (by decide)) (zBG_0 (by decide) (by decide)) (fun i hi => ?_) (zBG_0 (by decide) (by decide)) (fun i _ _ => zBG_0 (by decide) (by decide)) (zBG_0 (by decide) (by decide)) (str_BG m7) (zBG_0 (by decide) (by decide)) (zBG_0 (by decide) (by decide)) (zBG_0 (by decide) (by decide)) (zBG_0 (by decide) (by decide)) m0 m7 k0 k1 hV
  show ((192 + 32 * (min i 3) : Nat) : Int) = ((192 + 32 * i : Nat) : Int)
  rw [Nat.min_eq_left (by omega)]
end ZPL
