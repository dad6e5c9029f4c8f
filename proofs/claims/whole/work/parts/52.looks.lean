/-! WHAT TOWNS READ, asked for on both sides -/
section G22
variable {σ τ : zH} {k q d : Nat} {a b : Nat → Int}
theorem m_behind0 {s x : Int} (h0 : 0 ≤ s) (h1 : s ≤ 5) (h2 : 0 ≤ x) (h3 : x ≤ 3) : f_M_behind0 σ s x = some (σ, beh s x) := by
  have hs : s = 0 ∨ s = 1 ∨ s = 2 ∨ s = 3 ∨ s = 4 ∨ s = 5 := by omega
  have hx : x = 0 ∨ x = 1 ∨ x = 2 ∨ x = 3 := by omega
  rcases hs with rfl | rfl | rfl | rfl | rfl | rfl <;> rcases hx with rfl | rfl | rfl | rfl <;> (rw [e_M_behind0]; simp (decide := true) only [e_M_behind0_10, if_true, if_false, beh])
theorem sns_stay {t : Int} {n : Nat} (h : (sns a t n).2.2 ≠ -1) : ∀ m : Nat, sns a t (n + m) = sns a t n
  | 0 => rfl
  | m + 1 => by
    have := sns_stay h m
    rw [show n + (m + 1) = (n + m) + 1 by omega, sns, this]
    by_cases h0 : wv a t (n + m) ≤ 0
    · rw [if_pos h0]
    · rw [if_neg h0, if_neg h]
theorem fdN_stay {t : Int} {n : Nat} (h : fdN a t n ≠ -1) : ∀ m : Nat, fdN a t (n + m) = fdN a t n
  | 0 => rfl
  | m + 1 => by
    have := fdN_stay h m
    rw [show n + (m + 1) = (n + m) + 1 by omega, fdN, this, if_neg (fun q => h q.1)]
theorem m_wellOf {t : Int} {n : Nat} (hτ : τ 7 = a) (h0 : 0 ≤ t) (h1 : t < 6) (hn : n < 400) (hw : 0 ≤ wv a t n ∧ wv a t n ≤ 10) : f_M_wellOf τ t (n : Int) = some (τ, wv a t n - 1) := by
  unfold wv at hw ⊢
  rw [e_M_wellOf, w32_id (x := 400 * t) (by omega) (by omega), w32_id (x := 378 + 400 * t) (by omega) (by omega), w32_id (x := 378 + 400 * t + (n : Int)) (by omega) (by omega), if_pos (zin_t (by omega) (by omega)), hτ, w32_id (by omega) (by omega)]
theorem m_sense_l {t : Int} {D : Nat} (hw : wfL a) (h0 : 0 ≤ t) (h1 : t < 6) (hD : a 288 = (D : Int)) (hD4 : D ≤ 400) (hr : WelR a t D) : ∀ (j n : Nat) (τ : zH), n + j = D → τ 7 = a → (sns a t n).2.2 = -1 → τ 0 24 = (sns a t n).2.1 →
    ∃ τ', f_M_senseOf_9 τ t (sns a t n).1 (n : Int) = some (τ', (sns a t D).2.2) ∧ (∀ i, i ≠ 0 → τ' i = τ i) ∧ (∀ i, i ≠ 24 → τ' 0 i = τ 0 i) ∧ τ' 0 24 = (sns a t D).2.1
  | 0, n, τ, hn, h7, hb, h24 => by
    have hc0 := hw.1.1
    have : n = D := by omega
    subst this
    refine ⟨τ, ?_, fun _ _ => rfl, fun _ _ => rfl, h24⟩
    rw [e_M_senseOf_9, h7, hD, if_pos (by omega), hb]
  | j + 1, n, τ, hn, h7, hb, h24 => by
    have hc0 := hw.1.1
    have hwn := hr n (by omega)
    have hsn := sns_in hw (t := t) n (fun d' hd' => hr d' (by omega))
    rw [e_M_senseOf_9, h7, hD, if_neg (by omega), m_wellOf h7 h0 h1 (by omega) (by omega), Option.bind_some]
    dsimp only
    by_cases h0' : wv a t n ≤ 0
    · have e : sns a t (n + 1) = sns a t n := by rw [sns, if_pos h0']
      obtain ⟨τ', g1, g2, g3, g4⟩ := m_sense_l hw h0 h1 hD hD4 hr j (n + 1) τ (by omega) h7 (by rw [e]; exact hb) (by rw [e]; exact h24)
      rw [e] at g1
      refine ⟨τ', ?_, g2, g3, g4⟩
      rw [if_neg (show ¬ 0 ≤ wv a t n - 1 by omega), w32_s (by omega)]
      exact g1
    · have hs := hw.2.1 (wv a t n - 1) (by omega) (by omega)
      obtain ⟨x, hx⟩ : ∃ x, a (Int.toNat (6 + (wv a t n - 1))) = x := ⟨_, rfl⟩
      rw [hx] at hs
      obtain ⟨b1, b2, b3, b4⟩ := beh_zss' hsn.1.1 hsn.1.2 hs.1 hs.2
      have e : sns a t (n + 1) = sstep (sns a t n) x n := by rw [sns, if_neg h0', if_pos hb, hx]
      rw [if_pos (show 0 ≤ wv a t n - 1 by omega), w32_id (x := 6 + (wv a t n - 1)) (by omega) (by omega), if_pos (zin_t (by omega) (by omega)), h7, hx, m_behind0 hsn.1.1 hsn.1.2 hs.1 hs.2, Option.bind_some]
      dsimp only
      unfold sstep at e
      by_cases hz : 0 ≤ beh (sns a t n).1 x
      · rw [if_pos hz] at e ⊢
        have hw24 : ∀ v : Int, 0 ≤ v → v ≤ 1 → w32 (τ 0 24 + v) = (sns a t n).2.1 + v := fun v v0 v1 => by rw [h24, w32_id (by omega) (by omega)]
        by_cases hz0 : beh (sns a t n).1 x = 0
        · rw [if_pos hz0] at e
          obtain ⟨τ', g1, g2, g3, g4⟩ := m_sense_l hw h0 h1 hD hD4 hr j (n + 1) (zset τ 0 24 ((sns a t n).2.1 + 1)) (by omega) (by rw [zk (by decide)]; exact h7) (by rw [e]) (by rw [e, zs])
          rw [e] at g1
          refine ⟨τ', ?_, fun i hi => by rw [g2 i hi, zk hi], fun i hi => by rw [g3 i hi, zi hi], g4⟩
          rw [if_neg (fun q => q hz0), hw24 1 (by decide) (by decide), w32_s (by omega)]
          exact g1
        · rw [if_neg hz0] at e
          obtain ⟨τ', g1, g2, g3, g4⟩ := m_sense_l hw h0 h1 hD hD4 hr j (n + 1) (zset τ 0 24 ((sns a t n).2.1 + 0)) (by omega) (by rw [zk (by decide)]; exact h7) (by rw [e]) (by rw [e, zs])
          rw [e] at g1
          refine ⟨τ', ?_, fun i hi => by rw [g2 i hi, zk hi], fun i hi => by rw [g3 i hi, zi hi], g4⟩
          rw [if_pos hz0, hw24 0 (by decide) (by decide), w32_s (by omega)]
          exact g1
      · rw [if_neg hz] at e ⊢
        have hst := sns_stay (a := a) (t := t) (n := n + 1) (by rw [e]; dsimp only; omega) j
        rw [show n + 1 + j = D by omega] at hst
        rw [hst, e]
        exact ⟨τ, rfl, fun _ _ => rfl, fun _ _ => rfl, h24⟩
theorem m_sense {t : Int} {D : Nat} (hτ : τ 7 = a) (hw : wfL a) (h0 : 0 ≤ t) (h1 : t < 6) (hD : a 288 = (D : Int)) (hD4 : D ≤ 400) (hr : WelR a t D) :
    ∃ τ', f_M_senseOf τ t = some (τ', (sns a t D).2.2) ∧ (∀ i, i ≠ 0 → τ' i = τ i) ∧ (∀ i, i ≠ 24 → τ' 0 i = τ 0 i) ∧ τ' 0 24 = (sns a t D).2.1 := by
  obtain ⟨τ', g1, g2, g3, g4⟩ := m_sense_l hw h0 h1 hD hD4 hr D 0 (zset τ 0 24 0) (by omega) (by rw [zk (by decide)]; exact hτ) rfl zs
  refine ⟨τ', ?_, fun i hi => by rw [g2 i hi, zk hi], fun i hi => by rw [g3 i hi, zi hi], g4⟩
  rw [e_M_senseOf]
  exact g1
/-- words read, or those liked -/
def cntN (a : Nat → Int) (t : Int) (lk : Int) (n : Nat) : Int := if lk = 0 then wdN a t n else lkN a t n
theorem cntN_in {t lk : Int} (n : Nat) : 0 ≤ cntN a t lk n ∧ cntN a t lk n ≤ n := by
  unfold cntN
  have h1 := wdN_in (a := a) (t := t) n
  have h2 := lkN_in (a := a) (t := t) n
  split <;> omega
theorem cntN_s {t lk : Int} (n : Nat) : cntN a t lk (n + 1) = cntN a t lk n + (if 0 < wv a t n ∧ (lk = 0 ∨ a (Int.toNat (228 + 10 * t + (wv a t n - 1))) = 1) then 1 else 0) := by
  unfold cntN
  by_cases h : lk = 0
  · rw [if_pos h, if_pos h, wdN]
    congr 1
    exact ifc ⟨fun q => ⟨q, Or.inl h⟩, fun q => q.1⟩
  · rw [if_neg h, if_neg h, lkN]
    congr 1
    exact ifc ⟨fun q => ⟨q.1, Or.inr q.2⟩, fun q => ⟨q.1, q.2.resolve_left h⟩⟩
theorem m_words_l {t lk : Int} {D : Nat} (hτ : τ 7 = a) (hw : wfL a) (h0 : 0 ≤ t) (h1 : t < 6) (hD : a 288 = (D : Int)) (hD4 : D ≤ 400) (hr : WelR a t D) : ∀ (j n : Nat) (v : Int), n + j = D → 0 ≤ v → v ≤ n → f_M_wordsOf_6 τ t lk v (n : Int) = some (τ, v + (cntN a t lk D - cntN a t lk n))
  | 0, n, v, hn, v0, v1 => by
    have : n = D := by omega
    subst this
    rw [e_M_wordsOf_6, hτ, hD, if_pos (by omega), Int.sub_self, Int.add_zero]
  | j + 1, n, v, hn, v0, v1 => by
    have hc0 := hw.1.1
    have hwn := hr n (by omega)
    have e := cntN_s (a := a) (t := t) (lk := lk) n
    rw [e_M_wordsOf_6, hτ, hD, if_neg (by omega), m_wellOf hτ h0 h1 (by omega) (by omega), Option.bind_some]
    dsimp only
    have i0 := m_words_l (lk := lk) hτ hw h0 h1 hD hD4 hr j (n + 1) v (by omega) v0 (by omega)
    have i1 := m_words_l (lk := lk) hτ hw h0 h1 hD hD4 hr j (n + 1) (v + 1) (by omega) (by omega) (by omega)
    rw [w32_s (by omega), Int.add_zero, w32_id (x := v) (by omega) (by omega), w32_id (x := v + 1) (by omega) (by omega), i0, i1]
    by_cases h0' : wv a t n ≤ 0
    · rw [if_neg (by omega)] at e
      rw [if_pos (show wv a t n - 1 < 0 by omega), e, Int.add_zero]
    · rw [if_neg (show ¬ wv a t n - 1 < 0 by omega)]
      by_cases hl : lk = 0
      · rw [if_pos ⟨by omega, Or.inl hl⟩] at e
        rw [if_pos hl, e, show v + 1 + (cntN a t lk D - (cntN a t lk n + 1)) = v + (cntN a t lk D - cntN a t lk n) by omega]
      · rw [if_neg hl, w32_id (x := 10 * t) (by omega) (by omega), w32_id (x := 228 + 10 * t) (by omega) (by omega), w32_id (x := 228 + 10 * t + (wv a t n - 1)) (by omega) (by omega), if_pos (zin_t (by omega) (by omega))]
        simp only [hτ]
        by_cases ht : a (Int.toNat (228 + 10 * t + (wv a t n - 1))) = 1
        · rw [if_pos ⟨by omega, Or.inr ht⟩] at e
          rw [if_neg (fun q => q ht), e, show v + 1 + (cntN a t lk D - (cntN a t lk n + 1)) = v + (cntN a t lk D - cntN a t lk n) by omega]
        · rw [if_neg (fun q => q.2.elim hl ht)] at e
          rw [if_pos ht, e, Int.add_zero]
theorem m_words {t lk : Int} {n D : Nat} (hτ : τ 7 = a) (hw : wfL a) (h0 : 0 ≤ t) (h1 : t < 6) (hD : a 288 = (D : Int)) (hD4 : D ≤ 400) (hr : WelR a t D) (hn : n ≤ D) : f_M_wordsOf τ t (n : Int) lk = some (τ, cntN a t lk D - cntN a t lk n) := by
  rw [e_M_wordsOf, m_words_l hτ hw h0 h1 hD hD4 hr (D - n) n 0 (by omega) (by omega) (by omega), Int.zero_add]
theorem m_last {t : Int} {D : Nat} (hτ : τ 7 = a) (hw : wfL a) (h0 : 0 ≤ t) (h1 : t < 6) (hD : a 288 = (D : Int)) (hD4 : D ≤ 400) (hr : WelR a t D) : f_M_lastOf τ t = some (τ, lsN a t D) := by
  have hc0 := hw.1.1
  rw [e_M_lastOf, hτ, hD]
  cases D with
  | zero => rw [if_neg (fun q => q rfl)]; rfl
  | succ D =>
    have hwn := hr D (by omega)
    rw [if_pos (by omega), w32_id (by omega) (by omega), show ((D + 1 : Nat) : Int) - 1 = (D : Int) by omega, m_wellOf hτ h0 h1 (by omega) (by omega), Option.bind_some]
    rfl
theorem m_first_l {t : Int} {D : Nat} (hτ : τ 7 = a) (hw : wfL a) (h0 : 0 ≤ t) (h1 : t < 6) (hD : a 288 = (D : Int)) (hD4 : D ≤ 400) (hr : WelR a t D) : ∀ (j n : Nat), n + j = D → fdN a t n = -1 → f_M_town_114 τ t (n : Int) = some (τ, fdN a t D)
  | 0, n, hn, hf => by
    have : n = D := by omega
    subst this
    rw [e_M_town_114, hτ, hD, if_pos (by omega), hf]
  | j + 1, n, hn, hf => by
    have hc0 := hw.1.1
    have hwn := hr n (by omega)
    rw [e_M_town_114, hτ, hD, if_neg (by omega), m_wellOf hτ h0 h1 (by omega) (by omega), Option.bind_some]
    dsimp only
    by_cases h0' : wv a t n ≤ 0
    · rw [if_pos (by omega), w32_s (by omega)]
      exact m_first_l hτ hw h0 h1 hD hD4 hr j (n + 1) (by omega) (by rw [fdN, if_neg (fun q => by omega)]; exact hf)
    · have e : fdN a t (n + 1) = (n : Int) := by rw [fdN, if_pos ⟨hf, by omega⟩]
      have hst := fdN_stay (a := a) (t := t) (n := n + 1) (by rw [e]; omega) j
      rw [show n + 1 + j = D by omega, e] at hst
      rw [if_neg (by omega), hst]
/-- the mark of the reference and its count of whole sayings -/
theorem Rl.mark2 {τ' : zH} (h : Rl σ τ k q d) (h1 : ∀ i, i ≠ 0 → τ' i = τ i) (h2 : ∀ i, i ≠ 24 → τ' 0 i = τ 0 i) : Rl σ τ' k q d :=
  h.same (fun _ _ _ => rfl) (fun j i hj => by
    unfold SM at hj
    by_cases h0 : j = 0
    · subst h0; exact h2 i (by omega)
    · rw [h1 j h0])
theorem q_sense (h : Rl σ τ k q d) (t : Int) : Same (f_R_sense σ t) (f_M_sense τ t) := by
  have h0 := h.mark (v := 0)
  rw [e_M_sense, e_R_sense]
  generalize zset τ 0 0 0 = τ0 at h0 ⊢
  have hc4 := h0.hw.1.2.2.2.2.1
  simp only [h0.hz, h0.hk, if_true]
  rw [m_isTown h0.hw.1, c_hasTown h0.hL, Option.bind_some, Option.bind_some]
  dsimp only
  by_cases hc : 0 ≤ t ∧ t < τ0 7 4
  · obtain ⟨s1, s2⟩ := h0.hS.2.2.2.2.2.2.2.2 t hc.1 hc.2
    obtain ⟨τ', g1, g2, g3, g4⟩ := m_sense (τ := τ0) rfl h0.hw hc.1 (by omega) h0.hS.2.1 h0.hS.1 s2
    rw [if_pos hc, i10, i10, g1, if_pos (zin_t hc.1 (by omega)), Option.bind_some]
    exact (h0.mark2 g2 g3).look (congrArg (fun x => some (σ, x)) s1.2.2.2.2.2.1) rfl
  · rw [if_neg hc, i00, i00]
    exact h0.look rfl rfl
theorem q_sayings (h : Rl σ τ k q d) (t : Int) : Same (f_R_sayings σ t) (f_M_sayings τ t) := by
  have h0 := h.mark (v := 0)
  rw [e_M_sayings, e_R_sayings]
  generalize zset τ 0 0 0 = τ0 at h0 ⊢
  have hc4 := h0.hw.1.2.2.2.2.1
  simp only [h0.hz, h0.hk, if_true]
  rw [m_isTown h0.hw.1, c_hasTown h0.hL, Option.bind_some, Option.bind_some]
  dsimp only
  by_cases hc : 0 ≤ t ∧ t < τ0 7 4
  · obtain ⟨s1, s2⟩ := h0.hS.2.2.2.2.2.2.2.2 t hc.1 hc.2
    obtain ⟨τ', g1, g2, g3, g4⟩ := m_sense (τ := τ0) rfl h0.hw hc.1 (by omega) h0.hS.2.1 h0.hS.1 s2
    rw [if_pos hc, i10, in10, g1, if_pos (zin_t hc.1 (by omega)), Option.bind_some]
    dsimp only
    rw [g4]
    exact (h0.mark2 g2 g3).look (congrArg (fun x => some (σ, x)) s1.2.2.2.2.2.2) rfl
  · rw [if_neg hc, i00, in00]
    exact h0.look rfl rfl
theorem q_readOn {t e : Nat} (hc4 : a 4 ≤ 6) (h : HisD σ 96 a e) (ht : (t : Int) < a 4) (he : e < 400) (hwv : 0 ≤ wv a t e ∧ wv a t e ≤ 10) : f_Stream_readOn σ 96 (t : Int) (e : Int) = some (σ, wv a t e - 1) := by
  obtain ⟨N, n1, n2, n3⟩ := h
  have hd := n3 t ht
  have hs : N / 2 ^ (4 * t) < 2147483648 := by
    have : N / 2 ^ (4 * t) ≤ N := Nat.div_le_self _ _
    omega
  rw [e_Stream_readOn, if_pos (zin_t (by omega) (by rw [show zhl 96 = 400 from rfl]; omega)), show Int.toNat (e : Int) = e from rfl, n2, w32_id (x := (t : Int) * 4) (by omega) (by omega), show (t : Int) * 4 = ((4 * t : Nat) : Int) by omega, zushr_nat (by omega) (by omega)]
  have hm : zand ((N / 2 ^ (4 * t) : Nat) : Int) 15 = wv a t e := by
    rw [show (15 : Int) = ((15 : Nat) : Int) from rfl, zand_nat hs (by decide), ← hd, show (15 : Nat) = 2 ^ 4 - 1 from rfl, Nat.and_two_pow_sub_one_eq_mod]
  rw [hm, w32_id (by omega) (by omega)]
theorem q_well (h : Rl σ τ k q d) (t e : Int) : Same (f_R_well σ t e) (f_M_well τ t e) := by
  have h0 := h.mark (v := 0)
  rw [e_M_well, e_R_well]
  generalize zset τ 0 0 0 = τ0 at h0 ⊢
  have hc4 := h0.hw.1.2.2.2.2.1
  have hc0 := h0.hw.1.1
  simp only [h0.hz, h0.hk, if_true]
  rw [m_isTown h0.hw.1, c_hasTown h0.hL, Option.bind_some, Option.bind_some]
  dsimp only
  by_cases hc : 0 ≤ t ∧ t < τ0 7 4
  · have hd4 := h0.hS.1
    have e12 := h0.hS.2.2.1
    rw [if_pos hc, i10, i10, m_isIn, h0.hS.2.1, w32_id (x := (d : Int) - 1) (by omega) (by omega), Option.bind_some]
    dsimp only
    by_cases he : 0 ≤ e ∧ e ≤ (d : Int) - 1
    · obtain ⟨T, hT⟩ : ∃ T : Nat, t = (T : Int) := ⟨t.toNat, by omega⟩
      obtain ⟨E, hE⟩ : ∃ E : Nat, e = (E : Int) := ⟨e.toNat, by omega⟩
      subst hT
      subst hE
      obtain ⟨s1, s2⟩ := h0.hS.2.2.2.2.2.2.2.2 T hc.1 hc.2
      have hwn := s2 E (by omega)
      rw [if_pos he, i10, if_neg (show ¬ (E : Int) < 0 by omega), if_pos (show (E : Int) < σ 96 12 by omega), q_readOn (by omega) (h0.hH E (by omega)) hc.2 (by omega) (by omega), m_wellOf rfl hc.1 (by omega) (by omega) (by omega), Option.bind_some, Option.bind_some]
      exact h0.look rfl rfl
    · rw [if_neg he, i00]
      by_cases h1 : e < 0
      · rw [if_pos h1]; exact h0.look rfl rfl
      · rw [if_neg h1, if_neg (show ¬ e < σ 96 12 by omega)]; exact h0.look rfl rfl
  · rw [if_neg hc, i00, i00]
    exact h0.look rfl rfl
/-- what a term comes to a town as, its source being one -/
theorem q_comesOf (h : LandR σ k a) (hτ : τ 7 = a) (hw : wfL a) {n m : Nat} (hA : AwR n m (a 2)) (hm : a 293 = (m : Int)) {t v : Int} (h0 : 0 ≤ t) (h1 : t < a 4) (v0 : 0 ≤ v) (v1 : v < a 0) {s : Int} (hs : f_M_sourceOf τ t = some (τ, s)) (hs1 : s ≠ -1) :
    ∃ w, f_Country_arrival σ k t v (n : Int) = some (σ, w) ∧ f_M_comesOf τ t v = some (τ, w) ∧ -1 ≤ w ∧ w < a 0 := by
  have hc1 := hw.1.2.1
  obtain ⟨x, x1, x2, x3, x4, x5⟩ := q_source h hτ hw h0 h1
  rw [hs] at x2
  have hx : x = s := by injection x2 with q1; exact (congrArg Prod.snd q1).symm
  subst hx
  obtain ⟨w, w1, w2, w3⟩ := q_comes_in h hτ hw hA hm h0 h1 8 x v 0 (by omega) x4 (by omega) (by omega) (by omega) (by omega) v1 (x5 hs1).2
  refine ⟨w, ?_, ?_, w3⟩
  · rw [e_Country_arrival, x1, Option.bind_some]; exact w1
  · rw [e_M_comesOf, hs, Option.bind_some]; exact w2
theorem q_comes (h : Rl σ τ k q d) (t v : Int) : Same (f_R_comes σ t v) (f_M_comes τ t v) := by
  have h0 := h.mark (v := 0)
  rw [e_M_comes, e_R_comes, e_R_source, e_M_hasSource]
  generalize zset τ 0 0 0 = τ0 at h0 ⊢
  simp only [h0.hz, h0.hk, if_true]
  rw [m_isTown h0.hw.1, c_hasTown h0.hL, Option.bind_some, Option.bind_some]
  dsimp only
  simp only [h0.hz, h0.hk, if_true]
  by_cases hc : 0 ≤ t ∧ t < τ0 7 4
  · obtain ⟨x, x1, x2, x3, x4, x5⟩ := q_source h0.hL (τ := τ0) rfl h0.hw hc.1 hc.2
    rw [if_pos hc, i10, i10, x1, x2, Option.bind_some, Option.bind_some, Option.bind_some]
    dsimp only
    by_cases hx : x = -1
    · rw [if_pos hx, if_pos (show x < 0 by omega), Option.bind_some]
      dsimp only
      rw [i00]
      exact h0.look rfl rfl
    · rw [if_neg hx, if_neg (show ¬ x < 0 by omega), Option.bind_some]
      dsimp only
      rw [i10, m_isTerm h0.hw.1]
      simp only [h0.hz, h0.hk, if_true]
      rw [c_hasTerm h0.hL, Option.bind_some, Option.bind_some]
      dsimp only
      simp only [h0.hz, h0.hk, if_true]
      by_cases hv : 0 ≤ v ∧ v < τ0 7 0
      · obtain ⟨n, m, hn, hm, hA⟩ := h0.hS.2.2.2.1
        obtain ⟨w, w1, w2, -⟩ := q_comesOf h0.hL (τ := τ0) rfl h0.hw hA hm hc.1 hc.2 hv.1 hv.2 x2 hx
        rw [if_pos hv, in10, i10, hn, w1, w2, Option.bind_some, Option.bind_some]
        exact h0.look rfl rfl
      · rw [if_neg hv, in00, i00]
        exact h0.look rfl rfl
  · rw [if_neg hc, i00, i00, Option.bind_some, Option.bind_some]
    dsimp only
    rw [i00, if_pos rfl]
    exact h0.look rfl rfl
end G22
