/-! READING in the towns, both sides -/
section G13
variable {σ τ : zH} {k : Nat} {a b : Nat → Int}
theorem pk_small {N v i : Nat} (h : N < 2 ^ (4 * i)) (hv : v < 16) : N + v * 2 ^ (4 * i) < 2 ^ (4 * (i + 1)) := by
  have e : 2 ^ (4 * (i + 1)) = 16 * 2 ^ (4 * i) := by rw [show 4 * (i + 1) = 4 * i + 4 by omega, Nat.pow_add]; omega
  rw [e]
  have : v * 2 ^ (4 * i) ≤ 15 * 2 ^ (4 * i) := Nat.mul_le_mul_right _ (by omega)
  omega
theorem pk_or {N v i : Nat} (h : N < 2 ^ (4 * i)) (hv : v < 16) (hi : i < 6) : zor (N : Int) (zshl (v : Int) (((4 * i : Nat)) : Int)) = ((N + v * 2 ^ (4 * i) : Nat) : Int) := by
  have h1 := pk_small h hv
  have h2 : 2 ^ (4 * (i + 1)) ≤ 2 ^ 24 := Nat.pow_le_pow_right (by decide) (by omega)
  have h3 : v * 2 ^ (4 * i) < 2147483648 := by omega
  rw [zshl_nat (by omega) h3, zor_nat (by omega) h3, Nat.or_comm, Nat.mul_comm v, ← Nat.two_pow_add_eq_or_of_lt h, Nat.add_comm]
theorem pk_old {N v i t : Nat} (ht : t < i) : (N + v * 2 ^ (4 * i)) / 2 ^ (4 * t) % 16 = N / 2 ^ (4 * t) % 16 := by
  have e : v * 2 ^ (4 * i) = 2 ^ (4 * t) * (16 * (v * 2 ^ (4 * (i - t - 1)))) := by
    rw [show 4 * i = 4 * t + (4 + 4 * (i - t - 1)) by omega, Nat.pow_add, Nat.pow_add, show (2 : Nat) ^ 4 = 16 by rfl]
    rw [Nat.mul_left_comm]
    congr 1
    rw [Nat.mul_left_comm]
  rw [e, Nat.add_mul_div_left _ _ (Nat.two_pow_pos _), Nat.add_mul_mod_self_left]
theorem pk_new {N v i : Nat} (h : N < 2 ^ (4 * i)) (hv : v < 16) : (N + v * 2 ^ (4 * i)) / 2 ^ (4 * i) % 16 = v := by
  rw [Nat.mul_comm, Nat.add_mul_div_left _ _ (Nat.two_pow_pos _), Nat.div_eq_of_lt h, Nat.zero_add, Nat.mod_eq_of_lt hv]
/-- behind the first i towns -/
def TwS (σ0 τ0 : zH) (ks : Nat) (a : Nat → Int) (n i N : Nat) (σ τ : zH) : Prop :=
  (∀ j, ¬ (ks + 5 ≤ j ∧ j ≤ ks + 11) → σ j = σ0 j) ∧ (∀ j, j ≠ 7 → τ j = τ0 j) ∧ (∀ j : Nat, (∀ t : Int, 0 ≤ t → t < i → j ≠ Int.toNat (378 + 400 * t + (n : Int))) → τ 7 j = a j) ∧
  (∀ t : Int, 0 ≤ t → t < i → (0 ≤ wv (τ 7) t n ∧ wv (τ 7) t n ≤ a 0) ∧ StaT σ ks (τ 7) t (n + 1)) ∧
  (∀ (t : Int) (j : Nat), (i : Int) ≤ t → σ j (Int.toNat t) = σ0 j (Int.toNat t) ∨ ¬ (ks + 5 ≤ j ∧ j ≤ ks + 11)) ∧ N < 2 ^ (4 * i) ∧ ∀ t : Nat, t < i → ((N / 2 ^ (4 * t) % 16 : Nat) : Int) = wv (τ 7) t n
theorem tw_step {σ0 τ0 : zH} {ks n : Nat} (h : LandR σ0 k a) (hd : apart8 ks k) (hw : wfL a) (hc : CellR σ0 ks ((n : Int) + 1) a) (hD : σ0 ks 12 = (n : Int) + 1) (h288 : a 288 = (n : Int)) (hn : n < 400) (hst : ∀ t : Int, 0 ≤ t → t < a 4 → StaT σ0 ks a t n ∧ WelR a t n) {i N : Nat} (hi : (i : Int) < a 4) (s : TwS σ0 τ0 ks a n i N σ τ) :
    ∃ (σ' τ' : zH) (N' : Nat), f_Stream_readInTowns_5 σ ks k (n : Int) (N : Int) (i : Int) = f_Stream_readInTowns_5 σ' ks k (n : Int) (N' : Int) ((i + 1 : Nat) : Int) ∧ f_M_day_191 τ (i : Int) = f_M_day_191 τ' ((i + 1 : Nat) : Int) ∧ TwS σ0 τ0 ks a n (i + 1) N' σ' τ' := by
  obtain ⟨s1, s2, s3, s4, s5, s6, s7⟩ := s
  have hc4 := hw.1.2.2.2.2.1
  have hc1 := hw.1.2.1
  have hc0 := hw.1.1
  have hL : LandR σ k a := h.own hd (fun j hj => s1 j (fun q => hj (by unfold own8; omega)))
  have eD : σ ks 12 = (n : Int) + 1 := by rw [s1 ks (by omega)]; exact hD
  have ht := hw.2.2.2.2.2.2.1 i (by omega) hi
  have hlt := (hL.2.2.2.2 i (by omega) hi).1
  obtain ⟨R, hR⟩ : ∃ R, a (Int.toNat (216 + (i : Int))) = R := ⟨_, rfl⟩
  obtain ⟨p, hp⟩ : ∃ p, a (Int.toNat (222 + (i : Int))) = p := ⟨_, rfl⟩
  rw [hR] at ht hlt
  rw [hp] at ht hlt
  have hr := hw.2.2.1 R ht.1.1 ht.1.2
  have hcell := hc.1 R p ht.1.1 ht.1.2 ht.2.1 ht.2.2
  obtain ⟨V, hV⟩ : ∃ V : Nat, a (Int.toNat (306 + 9 * R + p)) = (V : Int) := ⟨(a (Int.toNat (306 + 9 * R + p))).toNat, by omega⟩
  have hCR : CellR σ ks ((n : Int) + 1) a := by
    unfold CellR
    rw [s1 (ks + 1) (by omega)]
    exact hc
  have hta := c_termAt hL hw hCR eD (by omega) (by omega) ht.1.1 ht.1.2 ht.2.1 ht.2.2
  rw [hV] at hta hcell
  have g1 : zin (i : Int) 6 = true := zin_t (by omega) (by omega)
  have eτ : ∀ j : Nat, j < 378 → τ 7 j = a j := fun j hj => s3 j (fun t t0 t1 => by omega)
  -- the reference
  have hM : f_M_day_191 τ (i : Int) = f_M_day_191 (zset τ 7 (Int.toNat (378 + 400 * (i : Int) + (n : Int))) (V : Int)) ((i + 1 : Nat) : Int) := by
    rw [e_M_day_191, eτ 4 (by omega), if_neg (by omega), eτ 288 (by omega), h288, w32_id (x := 216 + (i : Int)) (by omega) (by omega), w32_id (x := 222 + (i : Int)) (by omega) (by omega), eτ (Int.toNat (216 + (i : Int))) (by omega), eτ (Int.toNat (222 + (i : Int))) (by omega), hR, hp, w32_id (x := 9 * R) (by omega) (by omega), w32_id (x := 306 + 9 * R) (by omega) (by omega), w32_id (x := 306 + 9 * R + p) (by omega) (by omega), w32_id (x := 400 * (i : Int)) (by omega) (by omega), w32_id (x := 378 + 400 * (i : Int)) (by omega) (by omega), w32_id (x := 378 + 400 * (i : Int) + (n : Int)) (by omega) (by omega), if_pos (zin_t (by omega) (by omega)), if_pos (zin_t (by omega) (by omega)), if_pos (zin_t (by omega) (by omega)), if_pos (zin_t (by omega) (by omega)), eτ (Int.toNat (306 + 9 * R + p)) (by omega), hV, w32_s (by omega)]
  obtain ⟨τ', hτ'⟩ : ∃ τ', zset τ 7 (Int.toNat (378 + 400 * (i : Int) + (n : Int))) (V : Int) = τ' := ⟨_, rfl⟩
  rw [hτ'] at hM
  have b1 : ∀ j : Nat, j < 288 → τ' 7 j = a j := fun j hj => by rw [← hτ', zi (by omega)]; exact eτ j (by omega)
  have bn : wv (τ' 7) (i : Int) n = (V : Int) := by unfold wv; rw [← hτ', zs]
  have bd : ∀ (t : Int) (d : Nat), 0 ≤ t → d < n → wv (τ' 7) t d = wv a t d := fun t d t0 hdn => by
    unfold wv
    rw [← hτ', zi (by omega)]
    exact s3 _ (fun t' t0' t1' => by omega)
  have bt : ∀ (t : Int) (d : Nat), 0 ≤ t → t < i → d < n + 1 → wv (τ' 7) t d = wv (τ 7) t d := fun t d t0 t1 hdn => by
    unfold wv
    rw [← hτ', zi (by omega)]
  have hwτ : wfL (τ 7) := wfL_congr (fun j hj => eτ j (by omega)) hw
  have hwel : ∀ t : Int, 0 ≤ t → t < i → WelR (τ 7) t (n + 1) := fun t t0 t1 d hdn => by
    rw [eτ 0 (by omega)]
    by_cases hdd : d = n
    · rw [hdd]; exact (s4 t t0 t1).1
    · have h9 := (hst t t0 (by omega)).2 d (by omega)
      rw [← bt t d t0 t1 (by omega), bd t d t0 (by omega)]
      exact h9
  -- what stays for all cases
  have pack : ∀ σ' : zH, (∀ j, ¬ (ks + 5 ≤ j ∧ j ≤ ks + 11) → σ' j = σ j) → (∀ j q, q ≠ i → σ' j q = σ j q) → StaT σ' ks (τ' 7) (i : Int) (n + 1) → TwS σ0 τ0 ks a n (i + 1) (N + V * 2 ^ (4 * i)) σ' τ' := by
    intro σ' f1 f2 f3
    refine ⟨fun j hj => by rw [f1 j hj]; exact s1 j hj, fun j hj => by rw [← hτ', zk hj]; exact s2 j hj, fun j hj => ?_, fun t t0 t1 => ?_, fun t j hit => ?_, pk_small s6 (by omega), fun t htt => ?_⟩
    · rw [← hτ', zi (hj i (by omega) (by omega))]
      exact s3 j (fun t t0 t1 => hj t t0 (by omega))
    · by_cases hti : t = i
      · subst hti
        rw [bn]
        exact ⟨by omega, f3⟩
      · have h9 := s4 t t0 (by omega)
        rw [bt t n t0 (by omega) (by omega)]
        exact ⟨h9.1, h9.2.congr hwτ t0 (by omega) (fun j _ _ => f2 _ _ (by omega)) (fun j hj => by rw [b1 j hj, eτ j (by omega)]) (hwel t t0 (by omega)) (fun d hdn => bt t d t0 (by omega) hdn)⟩
    · rw [f2 _ _ (by omega)]
      exact s5 t j (by omega)
    · by_cases hti : t = i
      · subst hti
        rw [pk_new s6 (by omega), bn]
      · rw [pk_old (by omega), s7 t (by omega), bt t n (by omega) (by omega) (by omega)]
  have hor : zor (N : Int) (zshl (w32 ((V : Int) - 1 + 1)) (w32 ((i : Int) * 4))) = ((N + V * 2 ^ (4 * i) : Nat) : Int) := by
    rw [w32_id (x := (V : Int) - 1 + 1) (by omega) (by omega), w32_id (x := (i : Int) * 4) (by omega) (by omega), ← pk_or s6 (show V < 16 by omega) (by omega)]
    congr 2
    · omega
    · omega
  have h0 := (hst i (by omega) hi)
  have heq : ∀ j, 5 ≤ j → j ≤ 11 → σ (ks + j) (Int.toNat (i : Int)) = σ0 (ks + j) (Int.toNat (i : Int)) := fun j j1 j2 => by
    rcases s5 i (ks + j) (by omega) with h9 | h9
    · exact h9
    · omega
  have hσ : StaT σ ks a (i : Int) n := h0.1.congr hw (by omega) (by omega) heq (fun j _ => rfl) h0.2 (fun d _ => rfl)
  by_cases hV0 : V = 0
  · subst hV0
    refine ⟨zset σ (ks + 5) i (-1), τ', _, ?_, hM, pack (zset σ (ks + 5) i (-1)) (fun j hj => zk (by omega)) (fun j q hq => ?_) ?_⟩
    · rw [e_Stream_readInTowns_5, hL.1.2.2.2.2.1, if_neg (by omega), if_pos g1, if_pos g1, hlt.1, hlt.2, hta, Option.bind_some]
      dsimp only
      rw [if_pos g1, if_pos (by omega), hor, w32_s (by omega)]
      rfl
    · by_cases hj : j = ks + 5
      · rw [hj, zi hq]
      · rw [zk hj]
    · obtain ⟨i1, i2, i3, i4, i5⟩ := sta_congr hw (b := τ' 7) (t := (i : Int)) (by omega) (by omega) b1 n h0.2 (fun d hdn => bd i d (by omega) hdn)
      obtain ⟨t1, t2, t3, t4, t5, t6, t7⟩ := hσ
      unfold StaT
      rw [lsN, wdN, lkN, fdN, sns, i2, i3, i4, i5, bn]
      rw [show Int.toNat (i : Int) = i from rfl] at *
      refine ⟨by rw [zs]; rfl, ?_, ?_, ?_, ?_, ?_, ?_⟩
      · rw [zk (by omega), t2, if_neg (by decide), Int.add_zero]
      · rw [zk (by omega), t3, if_neg (fun q => absurd q.1 (by decide)), Int.add_zero]
      · rw [zk (by omega), t4, if_neg (fun q => absurd q.2 (by decide))]
      · rw [zk (by omega), t5, if_pos (by decide)]
      · rw [zk (by omega), t6, if_pos (by decide)]
      · rw [zk (by omega), t7, if_pos (by decide)]
  · have hL2 : LandR (zset σ (ks + 5) i ((V : Int) - 1)) k a := hL.own hd (fun j hj => zk (fun q => hj (by unfold own8; omega)))
    obtain ⟨t1, t2, t3, t4, t5, t6, t7⟩ := hσ
    obtain ⟨σ', n1, n2, n3, n4⟩ := c_note (ks := ks) (b := τ' 7) (t := (i : Int)) (m := (V : Int) - 1) (n := n) hL2 hd hw (by omega) hi (by omega) (by omega) (by omega) h0.2 b1 (fun d hdn => bd i d (by omega) hdn) (by rw [bn]; omega) (by rw [zk (by omega)]; exact t2) (by rw [zk (by omega)]; exact t3) (by rw [zk (by omega)]; exact t4) (by rw [zk (by omega)]; exact t5) (by rw [zk (by omega)]; exact t6) (by rw [zk (by omega)]; exact t7) zs
    refine ⟨σ', τ', _, ?_, hM, pack σ' (fun j hj => by rw [n2 j (by omega), zk (by omega)]) (fun j q hq => ?_) n4⟩
    · rw [e_Stream_readInTowns_5, hL.1.2.2.2.2.1, if_neg (by omega), if_pos g1, if_pos g1, hlt.1, hlt.2, hta, Option.bind_some]
      dsimp only
      rw [if_pos g1, if_neg (by omega), hor, w32_s (by omega)]
      rw [show Int.toNat (i : Int) = i from rfl, n1, Option.bind_some]
    · rw [n3 _ _ hq]
      by_cases hj : j = ks + 5
      · rw [hj, zi hq]
      · rw [zk hj]
/-- all towns read -/
theorem tw_all {σ0 τ0 : zH} {ks n : Nat} (h : LandR σ0 k a) (hd : apart8 ks k) (hw : wfL a) (hc : CellR σ0 ks ((n : Int) + 1) a) (hD : σ0 ks 12 = (n : Int) + 1) (h288 : a 288 = (n : Int)) (hn : n < 400) (hst : ∀ t : Int, 0 ≤ t → t < a 4 → StaT σ0 ks a t n ∧ WelR a t n) : ∀ (j i N : Nat) (σ τ : zH), (a 4 : Int) ≤ i + j → (i : Int) ≤ a 4 → TwS σ0 τ0 ks a n i N σ τ →
    ∃ (σ' τ' : zH) (N' : Nat), f_Stream_readInTowns_5 σ ks k (n : Int) (N : Int) (i : Int) = some (if Int.ofNat (zhl ks) ≤ (n : Int) then σ' else zset σ' (ks + 12) n (N' : Int), 0) ∧ f_M_day_191 τ (i : Int) = some (zset τ' 7 288 ((n : Int) + 1), 0) ∧ TwS σ0 τ0 ks a n (a 4).toNat N' σ' τ' := by
  have hc4 := hw.1.2.2.2.2.1
  intro j
  have fin : ∀ (i N : Nat) (σ τ : zH), a 4 ≤ (i : Int) → (i : Int) ≤ a 4 → TwS σ0 τ0 ks a n i N σ τ → ∃ (σ' τ' : zH) (N' : Nat), f_Stream_readInTowns_5 σ ks k (n : Int) (N : Int) (i : Int) = some (if Int.ofNat (zhl ks) ≤ (n : Int) then σ' else zset σ' (ks + 12) n (N' : Int), 0) ∧ f_M_day_191 τ (i : Int) = some (zset τ' 7 288 ((n : Int) + 1), 0) ∧ TwS σ0 τ0 ks a n (a 4).toNat N' σ' τ' := by
    intro i N σ τ g1 g2 s
    have hL : LandR σ k a := h.own hd (fun j hj => s.1 j (fun q => hj (by unfold own8; omega)))
    have eτ : ∀ j : Nat, j < 378 → τ 7 j = a j := fun j hj => s.2.2.1 j (fun t t0 t1 => by omega)
    refine ⟨σ, τ, N, ?_, ?_, by rw [show (a 4).toNat = i by omega]; exact s⟩
    · rw [e_Stream_readInTowns_5, hL.1.2.2.2.2.1, if_pos g1]
      by_cases hz : Int.ofNat (zhl ks) ≤ (n : Int)
      · rw [if_pos hz, if_pos hz]
      · have hz2 : (n : Int) < zhl ks := by rw [Int.ofNat_eq_natCast] at hz; omega
        rw [if_neg hz, if_neg hz, if_pos (zin_t (by omega) hz2)]
        rfl
    · rw [e_M_day_191, eτ 4 (by omega), eτ 288 (by omega), if_pos g1, h288, w32_id (by omega) (by omega)]
  induction j with
  | zero => intro i N σ τ g1 g2 s; exact fin i N σ τ (by omega) g2 s
  | succ j ih =>
    intro i N σ τ g1 g2 s
    by_cases hi : a 4 ≤ (i : Int)
    · exact fin i N σ τ hi g2 s
    · obtain ⟨σ1, τ1, N1, h1, h2, h3⟩ := tw_step h hd hw hc hD h288 hn hst (i := i) (by omega) s
      rw [h1, h2]
      exact ih (i + 1) N1 σ1 τ1 (by omega) (by omega) h3
end G13
