/-! WHO RESTS, all sets gone through -/
section G26
variable {σ τ σ1 τ1 : zH} {k q d : Nat} {a b : Nat → Int}
def ownF (a : Nat → Int) (e : Int) : Nat → Nat → Int → Int
  | 0, _, v => v
  | j + 1, i, v => ownF a e j (i + 1) (if a (Int.toNat (216 + (i : Int))) = a (Int.toNat (144 + e)) ∧ a (Int.toNat (150 + e)) ≤ a (Int.toNat (222 + (i : Int))) ∧ (v = -1 ∨ a (Int.toNat (222 + (i : Int))) < a (Int.toNat (222 + v))) then (i : Int) else v)
def ownP (a : Nat → Int) (e : Int) : Int := ownF a e (a 4).toNat 0 (-1)
theorem q_ownF (hL : LandR σ k a) (hτ : τ 7 = a) (hw : wfL a) {e : Int} (h0 : 0 ≤ e) (h1 : e < a 2) : ∀ (j i : Nat) (v : Int), a 4 = ((i + j : Nat) : Int) → -1 ≤ v → v < a 4 → f_Country_ownTown_4 σ k e v (i : Int) = some (σ, ownF a e j i v) ∧ f_M_ownOf_4 τ e v (i : Int) = some (τ, ownF a e j i v) ∧ -1 ≤ ownF a e j i v ∧ ownF a e j i v < a 4 := by
  have hc2 := hw.1.2.2.1
  have hc4 := hw.1.2.2.2.2.1
  intro j
  induction j with
  | zero =>
    intro i v g1 v0 v1
    refine ⟨?_, ?_, v0, v1⟩
    · rw [e_Country_ownTown_4, hL.1.2.2.2.2.1, if_pos (by omega)]; rfl
    · rw [e_M_ownOf_4, hτ, if_pos (by omega)]; rfl
  | succ j ih =>
    intro i v g1 v0 v1
    have hi : ¬ a 4 ≤ (i : Int) := by omega
    have hi4 : (i : Int) < a 4 := by omega
    have ht := (hL.2.2.2.2 i (by omega) hi4).1
    have he := (hL.2.2.2.1 e h0 h1).1
    have ihv := ih (i + 1) v (by rw [g1]; omega) v0 v1
    have ihi := ih (i + 1) (i : Int) (by rw [g1]; omega) (by omega) hi4
    rw [ownF, e_Country_ownTown_4, hL.1.2.2.2.2.1, if_neg hi, e_M_ownOf_4, hτ, if_neg hi]
    simp (disch := omega) only [w32_id, zin_t, if_true, ht.1, ht.2, he.1, he.2]
    rw [show ((i : Int) + 1) = ((i + 1 : Nat) : Int) by omega]
    by_cases hr : a (Int.toNat (216 + (i : Int))) = a (Int.toNat (144 + e))
    · have hnn : ¬ ¬ a (Int.toNat (216 + (i : Int))) = a (Int.toNat (144 + e)) := fun q => q hr
      rw [if_neg hnn, if_neg hnn]
      by_cases hp : a (Int.toNat (222 + (i : Int))) < a (Int.toNat (150 + e))
      · rw [if_pos hp, if_pos hp, e_Country_ownTown_47, if_pos rfl, w32_s (by omega), if_neg (fun q => by omega)]
        exact ihv
      · rw [if_neg hp, if_neg hp, e_Country_ownTown_47, i10]
        by_cases hv : v = -1
        · rw [if_pos hv, if_pos (show v < 0 by omega), w32_s (by omega), if_pos ⟨hr, by omega, Or.inl hv⟩]
          exact ihi
        · have htv := (hL.2.2.2.2 v (by omega) v1).1
          rw [if_neg hv, if_neg (show ¬ v < 0 by omega)]
          simp (disch := omega) only [w32_id, zin_t, if_true, ht.2, htv.2]
          rw [show ((i : Int) + 1) = ((i + 1 : Nat) : Int) by omega]
          by_cases hle : a (Int.toNat (222 + v)) ≤ a (Int.toNat (222 + (i : Int)))
          · rw [if_pos hle, if_pos hle, if_neg (fun q => by omega)]
            exact ihv
          · rw [if_neg hle, if_neg hle, if_pos ⟨hr, by omega, Or.inr (by omega)⟩]
            exact ihi
    · rw [if_pos hr, if_pos hr, e_Country_ownTown_47, if_pos rfl, w32_s (by omega), if_neg (fun q => hr q.1)]
      exact ihv
theorem q_ownP (hL : LandR σ k a) (hτ : τ 7 = a) (hw : wfL a) {e : Int} (h0 : 0 ≤ e) (h1 : e < a 2) : f_Country_ownTown σ k e = some (σ, ownP a e) ∧ f_M_ownOf τ e = some (τ, ownP a e) ∧ -1 ≤ ownP a e ∧ ownP a e < a 4 := by
  have hc4 := hw.1.2.2.2.2.1
  obtain ⟨g1, g2, g3⟩ := q_ownF hL hτ hw h0 h1 (a 4).toNat 0 (-1) (by omega) (by omega) (by omega)
  refine ⟨?_, ?_, g3⟩
  · rw [e_Country_ownTown]; exact g1
  · rw [e_M_ownOf]; exact g2
/-- what own towns gained, both sides -/
def GnR (σ τ : zH) (a : Nat → Int) (S : Nat) : Prop := ∀ s e : Nat, s < S → (e : Int) < a 2 → σ 11 (6 * s + e) = if ownP a e = -1 then 0 else τ 29 (6 * s + (ownP a e).toNat)
theorem c_gains {s : Nat} {g : Nat → Int} (hL : LandR σ k a) (hw : wfL a) (hk : isLand k) (hz : σ 0 11 = (k : Int)) (hs : s < 64) (hg : ∀ t : Nat, (t : Int) < a 4 → (0 ≤ g t ∧ g t ≤ 100) ∧ σ 135 t - σ 103 t = g t ∧ 0 ≤ σ 103 t ∧ σ 103 t ≤ 500) : ∀ (j i : Nat) (σ3 : zH), a 2 = ((i + j : Nat) : Int) → (∀ x, x ≠ 11 → σ3 x = σ x) → (∀ x, ¬ (6 * s ≤ x ∧ x < 6 * s + 6) → σ3 11 x = σ 11 x) → (∀ e : Nat, e < i → σ3 11 (6 * s + e) = if ownP a e = -1 then 0 else g (ownP a e).toNat) →
    ∃ σ4, f_R_fillGains_8 σ3 (s : Int) (i : Int) = some (σ4, 0) ∧ (∀ x, x ≠ 11 → σ4 x = σ x) ∧ (∀ x, ¬ (6 * s ≤ x ∧ x < 6 * s + 6) → σ4 11 x = σ 11 x) ∧ ∀ e : Nat, (e : Int) < a 2 → σ4 11 (6 * s + e) = if ownP a e = -1 then 0 else g (ownP a e).toNat := by
  have hc2 := hw.1.2.2.1
  have hc4 := hw.1.2.2.2.2.1
  have hzio : zio 1 (k : Int) = true := by rcases hk with rfl | rfl <;> rfl
  intro j
  induction j with
  | zero =>
    intro i σ3 g1 g2 g3 g4
    refine ⟨σ3, ?_, g2, g3, fun e he => g4 e (by omega)⟩
    rw [e_R_fillGains_8, g2 0 (by decide), hz, hzio, if_pos rfl, show Int.toNat (k : Int) = k from rfl, g2 k (by rcases hk with rfl | rfl <;> decide), hL.1.2.2.1, if_pos (by omega)]
  | succ j ih =>
    intro i σ3 g1 g2 g3 g4
    have hL3 : LandR σ3 k a := hL.frame (fun x hx => g2 _ (by rcases hk with rfl | rfl <;> omega))
    obtain ⟨o1, o2, o3, o4⟩ := q_ownP (τ := fun j => if j = 7 then a else σ j) hL3 rfl hw (e := (i : Int)) (by omega) (by omega)
    obtain ⟨v, hv⟩ : ∃ v, (if ownP a i = -1 then 0 else g (ownP a i).toNat) = v := ⟨_, rfl⟩
    have nxt := ih (i + 1) (zset σ3 11 (6 * s + i) v) (by rw [g1]; omega) (fun x hx => by rw [zk hx]; exact g2 x hx) (fun x hx => by rw [zi (by omega)]; exact g3 x hx) (fun e he => by
      by_cases hei : e = i
      · rw [hei, zs, hv]
      · rw [zi (by omega)]; exact g4 e (by omega))
    obtain ⟨σ4, y1, y2⟩ := nxt
    refine ⟨σ4, ?_, y2⟩
    rw [e_R_fillGains_8, g2 0 (by decide), hz, hzio, if_pos rfl, show Int.toNat (k : Int) = k from rfl, g2 k (by rcases hk with rfl | rfl <;> decide), hL.1.2.2.1, if_neg (by omega), if_pos rfl, o1, Option.bind_some]
    dsimp only
    rw [w32_id (x := (s : Int) * 6) (by omega) (by omega), w32_id (x := (s : Int) * 6 + (i : Int)) (by omega) (by omega), w32_s (by omega), show Int.toNat ((s : Int) * 6 + (i : Int)) = 6 * s + i by omega]
    by_cases ho : ownP a i = -1
    · rw [if_pos ho] at hv
      subst hv
      rw [if_neg (fun q => q ho), if_pos (zin_t (by omega) (by omega))]
      exact y1
    · rw [if_neg ho] at hv
      have hgo := hg (ownP a i).toNat (by omega)
      rw [if_pos ho, if_pos (zin_t (by omega) (by omega)), if_pos (zin_t (by omega) (by omega)), if_pos (zin_t (by omega) (by omega)), g2 135 (by decide), g2 103 (by decide), hgo.2.1, w32_id (by omega) (by omega), hv]
      exact y1
/-- the first half: all sets tried -/
theorem rests_fill {N E : Nat} {kk : Int} (hN : N ≤ 60) : ∀ (j s : Nat) (σ τ : zH), Rl σ τ k q d → τ 7 = a → a 2 = (E : Int) → 2 ^ E = s + j → GnR σ τ a s →
    ∃ σ' τ', f_R_rests_24 σ (N : Int) kk ((2 ^ E : Nat) : Int) (s : Int) = f_R_rests_49 σ' kk ((2 ^ E : Nat) : Int) 0 0 ∧ f_M_rests_24 τ (N : Int) kk (s : Int) = f_M_rests_53 τ' kk 0 0 ∧ Rl σ' τ' k q d ∧ τ' 7 = a ∧ GnR σ' τ' a (2 ^ E) ∧ ∀ j i, ¬ SC j i → σ' j i = σ j i
  | 0, s, σ, τ, h, h7, hE, hs, hg => by
    obtain ⟨E', E6, hE', z1, z2, z3⟩ := zsets h
    have : E' = E := by rw [h7, hE] at hE'; omega
    subst this
    refine ⟨σ, τ, ?_, ?_, h, h7, by rw [hs]; exact hg, fun _ _ _ => rfl⟩
    · rw [e_R_rests_24, if_pos (by omega)]
    · rw [e_M_rests_24, z1, if_pos (by omega)]
  | j + 1, s, σ, τ, h, h7, hE, hs, hg => by
    obtain ⟨E', E6, hE', z1, z2, z3⟩ := zsets h
    have : E' = E := by rw [h7, hE] at hE'; omega
    subst this
    have hc4 := h.hw.1.2.2.2.2.1
    obtain ⟨σ2, τ2, g, y1, y2, y3, y4, y5, y6, y7⟩ := q_try (N := N) (s := s) h (by omega) (by rw [hE', show ((E' : Int)).toNat = E' from rfl]; omega)
    have hw := h.hw
    rw [h7] at hw hc4 y6
    have y47 : τ2 7 = a := by rw [y4, h7]
    have hL2 := y3.hL
    rw [y47] at hL2
    obtain ⟨σ3, w1, w2, w3, w4⟩ := c_gains (g := g) (s := s) hL2 hw y3.land.1 y3.land.2.1 (by omega) (fun t ht => by
      obtain ⟨p1, p2, p3, p4, p5⟩ := y6 t ht
      exact ⟨p1, p2, p3, p4⟩) E' 0 σ2 (by rw [hE]; omega) (fun _ _ => rfl) (fun _ _ => rfl) (fun e he => by omega)
    have r3 : Rl σ3 τ2 k q d := y3.same (fun j i hj => by rw [w2 j (by unfold SC at hj; omega)]) (fun _ _ _ => rfl)
    obtain ⟨σ', τ', v1, v2, v3, v4, v5, v6⟩ := rests_fill (kk := kk) hN j (s + 1) σ3 τ2 r3 y47 hE (by omega) (fun s' e hs' he => by
      obtain ⟨o1, o2, o3, o4⟩ := q_ownP (τ := τ2) hL2 y47 hw (e := (e : Int)) (by omega) he
      by_cases hss : s' = s
      · rw [hss, w4 e he]
        by_cases ho : ownP a e = -1
        · rw [if_pos ho, if_pos ho]
        · rw [if_neg ho, if_neg ho]
          exact (y6 (ownP a e).toNat (by omega)).2.2.2.2.symm
      · have h9 := hg s' e (by omega) he
        rw [w3 _ (by omega), y5 11 (by unfold own8; omega), h9]
        by_cases ho : ownP a e = -1
        · rw [if_pos ho, if_pos ho]
        · rw [if_neg ho, if_neg ho, y7 _ (by omega)])
    refine ⟨σ', τ', ?_, ?_, v3, v4, v5, fun j i hj => by rw [v6 j i hj, w2 j (by unfold SC at hj; omega), y5 j (by unfold own8; unfold SC at hj; omega)]⟩
    · rw [e_R_rests_24, if_neg (by omega), e_R_fillGains, y1, Option.bind_some]
      dsimp only
      rw [show f_R_fillGains_8 σ2 (s : Int) 0 = f_R_fillGains_8 σ2 (s : Int) ((0 : Nat) : Int) from rfl, w1, Option.bind_some, w32_s (by omega)]
      exact v1
    · rw [e_M_rests_24, z1, if_neg (by omega), y2, Option.bind_some, w32_s (by omega)]
      exact v2
theorem rests_zero {kk c s : Int} {E : Nat} (hE : τ 7 2 = (E : Int)) (hE6 : E ≤ 6) : ∀ (j e : Nat), e + j = E → f_M_rests_72 τ kk c s 0 (e : Int) = f_M_rests_72 τ kk c s 0 (E : Int)
  | 0, e, he => by rw [show e = E by omega]
  | j + 1, e, he => by rw [e_M_rests_72, hE, if_neg (by omega), i00, w32_s (by omega)]; exact rests_zero hE hE6 j (e + 1) (by omega)
theorem rests_one {kk c : Int} {E s : Nat} (h : Rl σ τ k q d) (hE : τ 7 2 = (E : Int)) (hE6 : E ≤ 6) (hs : s < 2 ^ E) (hg : GnR σ τ (τ 7) (2 ^ E)) : ∀ (j e : Nat), e + j = E → ∃ r : Int, (r = 0 ∨ r = 1) ∧ f_R_isRest_2 σ (s : Int) (e : Int) = some (σ, r) ∧ f_M_rests_72 τ kk c (s : Int) 1 (e : Int) = f_M_rests_72 τ kk c (s : Int) r (E : Int)
  | 0, e, he => by
    refine ⟨1, Or.inr rfl, ?_, by rw [show e = E by omega]⟩
    rw [e_R_isRest_2, h.hz, if_pos rfl, h.hk, h.hL.1.2.2.1, if_pos (by omega)]
  | j + 1, e, he => by
    have hc4 := h.hw.1.2.2.2.2.1
    have hp : 2 ^ E ≤ 2 ^ 6 := Nat.pow_le_pow_right (by decide) hE6
    have he1 : 2 ^ e < 2 ^ E := Nat.pow_lt_pow_right (by decide) (by omega)
    have hx : s ^^^ 2 ^ e < 2 ^ E := Nat.xor_lt_two_pow hs he1
    obtain ⟨o1, o2, o3, o4⟩ := q_ownP h.hL (τ := τ) rfl h.hw (e := (e : Int)) (by omega) (by omega)
    have g1 := hg s e hs (by omega)
    have g2 := hg (s ^^^ 2 ^ e) e hx (by omega)
    obtain ⟨r, r1, r2, r3⟩ := rests_one (kk := kk) (c := c) h hE hE6 hs hg j (e + 1) (by omega)
    have rz := rests_zero (kk := kk) (c := c) (s := (s : Int)) hE hE6 j (e + 1) (by omega)
    have hzx : zxor (s : Int) (zshl 1 (e : Int)) = ((s ^^^ 2 ^ e : Nat) : Int) := by rw [zshl_1 (by omega), zxor_nat (by omega) (by omega)]
    have hC : f_R_isRest_2 σ (s : Int) (e : Int) = if σ 11 (6 * (s ^^^ 2 ^ e) + e) ≤ σ 11 (6 * s + e) then f_R_isRest_2 σ (s : Int) ((e + 1 : Nat) : Int) else some (σ, 0) := by
      rw [e_R_isRest_2, h.hz, if_pos rfl, h.hk, h.hL.1.2.2.1, if_neg (by omega), hzx, w32_id (x := ((s ^^^ 2 ^ e : Nat) : Int) * 6) (by omega) (by omega), w32_id (x := ((s ^^^ 2 ^ e : Nat) : Int) * 6 + (e : Int)) (by omega) (by omega), w32_id (x := (s : Int) * 6) (by omega) (by omega), w32_id (x := (s : Int) * 6 + (e : Int)) (by omega) (by omega), if_pos (zin_t (by omega) (by omega)), if_pos (zin_t (by omega) (by omega)), w32_s (by omega), show Int.toNat (((s ^^^ 2 ^ e : Nat) : Int) * 6 + (e : Int)) = 6 * (s ^^^ 2 ^ e) + e by omega, show Int.toNat ((s : Int) * 6 + (e : Int)) = 6 * s + e by omega]
    rw [hC, e_M_rests_72, hE, if_neg (show ¬ (E : Int) ≤ (e : Int) by omega), i10, o2, Option.bind_some]
    dsimp only
    rw [w32_s (by omega)]
    by_cases ho : ownP (τ 7) e = -1
    · rw [if_pos ho] at g1 g2
      rw [if_pos (show ownP (τ 7) e < 0 by omega), if_pos (show σ 11 (6 * (s ^^^ 2 ^ e) + e) ≤ σ 11 (6 * s + e) by omega)]
      exact ⟨r, r1, r2, r3⟩
    · rw [if_neg ho] at g1 g2
      rw [if_neg (show ¬ ownP (τ 7) e < 0 by omega), o2, Option.bind_some]
      dsimp only
      rw [hzx, w32_id (x := 6 * ((s ^^^ 2 ^ e : Nat) : Int)) (by omega) (by omega), w32_id (x := 6 * ((s ^^^ 2 ^ e : Nat) : Int) + ownP (τ 7) e) (by omega) (by omega), w32_id (x := 6 * (s : Int)) (by omega) (by omega), if_pos (zin_t (by omega) (by omega)), o2, Option.bind_some]
      dsimp only
      rw [w32_id (x := 6 * (s : Int) + ownP (τ 7) e) (by omega) (by omega), if_pos (zin_t (by omega) (by omega)), show Int.toNat (6 * ((s ^^^ 2 ^ e : Nat) : Int) + ownP (τ 7) e) = 6 * (s ^^^ 2 ^ e) + (ownP (τ 7) e).toNat by omega, show Int.toNat (6 * (s : Int) + ownP (τ 7) e) = 6 * s + (ownP (τ 7) e).toNat by omega]
      by_cases hc : σ 11 (6 * (s ^^^ 2 ^ e) + e) ≤ σ 11 (6 * s + e)
      · rw [if_pos hc, if_neg (show ¬ τ 29 (6 * s + (ownP (τ 7) e).toNat) < τ 29 (6 * (s ^^^ 2 ^ e) + (ownP (τ 7) e).toNat) by omega)]
        exact ⟨r, r1, r2, r3⟩
      · rw [if_neg hc, if_pos (show τ 29 (6 * s + (ownP (τ 7) e).toNat) < τ 29 (6 * (s ^^^ 2 ^ e) + (ownP (τ 7) e).toNat) by omega), rz]
        exact ⟨0, Or.inl rfl, rfl, rfl⟩
theorem rests_find {kk : Int} {E : Nat} (h : Rl σ τ k q d) (hE : τ 7 2 = (E : Int)) (hE6 : E ≤ 6) (hg : GnR σ τ (τ 7) (2 ^ E)) : ∀ (j s : Nat) (c : Int), 2 ^ E = s + j → 0 ≤ c → c ≤ s → ∃ r, f_R_rests_49 σ kk ((2 ^ E : Nat) : Int) c (s : Int) = some (σ, r) ∧ f_M_rests_53 τ kk c (s : Int) = some (τ, r)
  | 0, s, c, hs, c0, c1 => by
    have hz : zshl 1 (τ 7 2) = ((2 ^ E : Nat) : Int) := by rw [hE]; exact zshl_1 (by omega)
    rw [e_R_rests_49, e_M_rests_53, hz, if_pos (show ((2 ^ E : Nat) : Int) ≤ (s : Int) by omega), if_pos (show ((2 ^ E : Nat) : Int) ≤ (s : Int) by omega)]
    by_cases hk : kk = -1
    · have hnn : ¬ ¬ kk = -1 := fun q => q hk
      rw [if_neg hnn, if_neg hnn]; exact ⟨c, rfl, rfl⟩
    · rw [if_pos hk, if_pos hk]; exact ⟨-1, rfl, rfl⟩
  | j + 1, s, c, hs, c0, c1 => by
    have hp : 2 ^ E ≤ 2 ^ 6 := Nat.pow_le_pow_right (by decide) hE6
    have hz : zshl 1 (τ 7 2) = ((2 ^ E : Nat) : Int) := by rw [hE]; exact zshl_1 (by omega)
    obtain ⟨r, r1, r2, r3⟩ := rests_one (kk := kk) (c := c) h hE hE6 (show s < 2 ^ E by omega) hg E 0 (by omega)
    have n0 := rests_find (kk := kk) h hE hE6 hg j (s + 1) c (by omega) c0 (by omega)
    have n1 := rests_find (kk := kk) h hE hE6 hg j (s + 1) (c + 1) (by omega) (by omega) (by omega)
    rw [e_R_rests_49, e_M_rests_53, hz, if_neg (show ¬ ((2 ^ E : Nat) : Int) ≤ s by omega), if_neg (show ¬ ((2 ^ E : Nat) : Int) ≤ s by omega), e_R_isRest]
    rw [show f_R_isRest_2 σ (s : Int) 0 = f_R_isRest_2 σ (s : Int) ((0 : Nat) : Int) from rfl, r2, show f_M_rests_72 τ kk c (s : Int) 1 0 = f_M_rests_72 τ kk c (s : Int) 1 ((0 : Nat) : Int) from rfl, r3, Option.bind_some, e_M_rests_72, hE, if_pos (show (E : Int) ≤ (E : Int) by omega)]
    dsimp only
    rw [w32_s (by omega), w32_id (x := c + 1) (by omega) (by omega)]
    rcases r1 with rfl | rfl
    · rw [i00, in00]; exact n0
    · rw [i10, in10]
      by_cases hk : c = kk
      · have hnn : ¬ ¬ c = kk := fun q => q hk
        rw [if_neg hnn, if_neg hnn]; exact ⟨s, rfl, rfl⟩
      · rw [if_pos hk, if_pos hk]; exact n1
theorem q_rests (h : Rl σ τ k q d) (n kk : Int) : Same (f_R_rests σ n kk) (f_M_rests τ n kk) := by
  have h0 := h.mark (v := 0)
  rw [e_M_rests, e_R_rests, e_R_isWithin]
  generalize zset τ 0 0 0 = τ0 at h0 ⊢
  rw [m_isIn, Option.bind_some]
  dsimp only
  by_cases hn : 1 ≤ n ∧ n ≤ 60
  · obtain ⟨N, hN⟩ : ∃ N : Nat, n = (N : Int) := ⟨n.toNat, by omega⟩
    subst hN
    obtain ⟨E, E6, hE, z1, z2, z3⟩ := zsets h0
    rw [if_pos hn, i10, if_neg (show ¬ (N : Int) < 1 by omega), if_neg (show ¬ (60 : Int) < N by omega), Option.bind_some]
    dsimp only
    rw [in10, h0.hz, if_pos rfl, h0.hk, z2]
    obtain ⟨σ', τ', y1, y2, y3, y4, y5, y6⟩ := rests_fill (a := τ0 7) (kk := kk) (N := N) (by omega) (2 ^ E) 0 σ τ0 h0 rfl hE (by omega) (fun s e hs _ => by omega)
    rw [← y4] at y5
    obtain ⟨r, w1, w2⟩ := rests_find (kk := kk) y3 (by rw [y4]; exact hE) E6 y5 (2 ^ E) 0 0 (by omega) (by omega) (by omega)
    have hC : f_R_rests_24 σ (N : Int) kk ((2 ^ E : Nat) : Int) 0 = some (σ', r) := by
      refine Eq.trans (show f_R_rests_24 σ (N : Int) kk ((2 ^ E : Nat) : Int) 0 = f_R_rests_24 σ (N : Int) kk ((2 ^ E : Nat) : Int) ((0 : Nat) : Int) from rfl) ?_
      rw [y1]; exact w1
    have hM : f_M_rests_24 τ0 (N : Int) kk 0 = some (τ', r) := by
      refine Eq.trans (show f_M_rests_24 τ0 (N : Int) kk 0 = f_M_rests_24 τ0 (N : Int) kk ((0 : Nat) : Int) from rfl) ?_
      rw [y2]; exact w2
    by_cases hk1 : -1 ≤ kk
    · rw [if_pos hk1, hC, hM]
      exact y3.look rfl rfl
    · rw [if_neg hk1, hC]
      -- none is asked for: nothing is found
      have never : ∀ (j s : Nat) (c : Int), 2 ^ E = s + j → 0 ≤ c → c ≤ s → ∀ r', f_R_rests_49 σ' kk ((2 ^ E : Nat) : Int) c (s : Int) = some (σ', r') → r' = -1 := by
        intro j
        induction j with
        | zero =>
          intro s c hs c0 c1 r' hr
          rw [e_R_rests_49, if_pos (show ((2 ^ E : Nat) : Int) ≤ (s : Int) by omega), if_pos (show ¬ kk = -1 by omega)] at hr
          injection hr with hr
          exact (congrArg Prod.snd hr).symm
        | succ j ih =>
          intro s c hs c0 c1 r' hr
          obtain ⟨x, x1, x2, x3⟩ := rests_one (kk := kk) (c := c) y3 (by rw [y4]; exact hE) E6 (show s < 2 ^ E by omega) y5 E 0 (by omega)
          rw [e_R_rests_49, if_neg (show ¬ ((2 ^ E : Nat) : Int) ≤ (s : Int) by omega), e_R_isRest] at hr
          rw [show f_R_isRest_2 σ' (s : Int) 0 = f_R_isRest_2 σ' (s : Int) ((0 : Nat) : Int) from rfl, x2, Option.bind_some] at hr
          dsimp only at hr
          rw [w32_s (by omega), w32_id (x := c + 1) (by omega) (by omega)] at hr
          rcases x1 with rfl | rfl
          · rw [i00] at hr
            exact ih (s + 1) c (by omega) c0 (by omega) r' hr
          · rw [i10, if_pos (show ¬ c = kk by omega)] at hr
            exact ih (s + 1) (c + 1) (by omega) (by omega) (by omega) r' hr
      have hr := never (2 ^ E) 0 0 (by omega) (by omega) (by omega) r w1
      rw [hr]
      exact ⟨σ', τ0, -1, rfl, rfl, k, q, d, h0.same y6 (fun _ _ _ => rfl)⟩
  · rw [if_neg hn, i00]
    by_cases h1 : n < 1
    · rw [if_pos h1, Option.bind_some]
      dsimp only
      rw [in00]
      exact h0.look rfl rfl
    · rw [if_neg h1, if_pos (show 60 < n by omega), Option.bind_some]
      dsimp only
      rw [in00]
      exact h0.look rfl rfl
end G26
