/-! A COUNTRY that is built: rows, names -/
section G55
variable {σ τ σ' τ' : zH} {k kn n m s : Nat} {nm nm' a b : Nat → Int}
def upI (a : Nat → Int) (i : Nat) (v : Int) : Nat → Int := fun j => if j = i then v else a j
theorem upI_eq {i : Nat} {v : Int} : upI a i v i = v := if_pos rfl
theorem upI_ne {i j : Nat} {v : Int} (h : j ≠ i) : upI a i v j = a j := if_neg h
theorem zset_upI {i : Nat} {v : Int} : zset σ k i v k = upI (σ k) i v := by
  funext j
  by_cases h : j = i
  · subst h; rw [zs, upI_eq]
  · rw [zi h, upI_ne h]
theorem wfT_c (h : wfT a) (h0 : b 0 = a 0) (hc : a 0 ≤ 10) (hb : ∀ j, 6 ≤ j → j < 16 → b j = a j) : wfT b := by
  intro t t0 t1
  rw [hb _ (by omega) (by omega)]
  exact h t t0 (by omega)
theorem wfR_c (h : wfR a) (h1 : b 1 = a 1) (hc : a 1 ≤ 8) (hb : ∀ j, 16 ≤ j → j < 48 → b j = a j) : wfR b := by
  intro r r0 r1
  rw [hb _ (by omega) (by omega), hb _ (by omega) (by omega), hb _ (by omega) (by omega), hb _ (by omega) (by omega)]
  exact h r r0 (by omega)
theorem wfS_c (h : wfS a) (hr : wfR a) (h1 : b 1 = a 1) (h0 : a 0 ≤ b 0) (hc : a 1 ≤ 8) (hb : ∀ j, 40 ≤ j → j < 144 → b j = a j) : wfS b := by
  intro r j r0 r1 j0 j1
  have hr' := hr r r0 (by omega)
  rw [hb _ (by omega) (by omega)] at j1
  rw [hb _ (by omega) (by omega)]
  have := h r j r0 (by omega) j0 j1
  omega
theorem wfF_c (h : wfF a) (hr : wfR a) (h1 : b 1 = a 1) (hc : a 1 ≤ 8) (hb : ∀ j, 24 ≤ j → j < 48 → b j = a j) : wfF b := by
  refine ⟨fun q q0 q1 q2 => ?_, fun q1 q2 p0 p1 p2 p3 p4 => ?_⟩
  · have hq := hr q q0 (by omega)
    rw [hb _ (by omega) (by omega)] at q2
    have e : b (Int.toNat (24 + q)) = a (Int.toNat (24 + q)) := hb _ (by omega) (by omega)
    rw [e, hb _ (by omega) (by omega), hb _ (by omega) (by omega)]
    exact h.1 q q0 (by omega) q2
  · have hq1 := hr q1 p0 (by omega)
    have hq2 := hr q2 (by omega) (by omega)
    have e1 : b (Int.toNat (24 + q1)) = a (Int.toNat (24 + q1)) := hb _ (by omega) (by omega)
    have e2 : b (Int.toNat (24 + q2)) = a (Int.toNat (24 + q2)) := hb _ (by omega) (by omega)
    rw [e1] at p3 p4
    rw [e2] at p4
    rw [e1, hb _ (by omega) (by omega)]
    exact h.2 q1 q2 p0 p1 (by omega) p3 p4
theorem wfE_c (h : wfE a) (h2 : b 2 = a 2) (h0 : a 0 ≤ b 0) (h1 : a 1 ≤ b 1) (c1 : a 1 ≤ 8) (c2 : a 2 ≤ 6) (hl : ∀ r : Int, 0 ≤ r → r < a 1 → b (Int.toNat (16 + r)) = a (Int.toNat (16 + r))) (hb : ∀ j, 144 ≤ j → j < 216 → b j = a j) : wfE b := by
  refine ⟨fun e e0 e1 => ?_, fun e f e0 e1 e2 => ?_, fun e t e0 e1 t0 t1 => ?_⟩
  · have := h.1 e e0 (by omega)
    have x1 : b (Int.toNat (144 + e)) = a (Int.toNat (144 + e)) := hb _ (by omega) (by omega)
    have x2 : b (Int.toNat (150 + e)) = a (Int.toNat (150 + e)) := hb _ (by omega) (by omega)
    rw [x1, x2, hl _ (by omega) (by omega)]
    omega
  · rw [hb (Int.toNat (144 + e)) (by omega) (by omega), hb (Int.toNat (144 + f)) (by omega) (by omega), hb (Int.toNat (150 + e)) (by omega) (by omega), hb (Int.toNat (150 + f)) (by omega) (by omega)]
    exact h.2.1 e f e0 e1 (by omega)
  · have := h.2.2 e t e0 (by omega) t0 t1
    rw [hb _ (by omega) (by omega)]
    omega
theorem wfW_c (h : wfW a) (h4 : b 4 = a 4) (h1 : a 1 ≤ b 1) (c1 : a 1 ≤ 8) (c4 : a 4 ≤ 6) (hl : ∀ r : Int, 0 ≤ r → r < a 1 → b (Int.toNat (16 + r)) = a (Int.toNat (16 + r))) (hb : ∀ j, 216 ≤ j → j < 288 → b j = a j) : wfW b := by
  refine ⟨fun t t0 t1 => ?_, fun t m t0 t1 m0 m1 => ?_⟩
  · have := h.1 t t0 (by omega)
    have x1 : b (Int.toNat (216 + t)) = a (Int.toNat (216 + t)) := hb _ (by omega) (by omega)
    have x2 : b (Int.toNat (222 + t)) = a (Int.toNat (222 + t)) := hb _ (by omega) (by omega)
    rw [x1, x2, hl _ (by omega) (by omega)]
    omega
  · rw [hb _ (by omega) (by omega)]
    exact h.2 t m t0 (by omega) m0 m1
/-- what is not told is nought -/
def ZerR (a : Nat → Int) : Prop := (∀ r : Int, a 1 ≤ r → r < 8 → a (Int.toNat (32 + r)) = 0 ∧ a (Int.toNat (40 + r)) = 0) ∧ (∀ e t : Int, a 2 ≤ e → e < 6 → 0 ≤ t → t < 10 → a (Int.toNat (156 + 10 * e + t)) = 0) ∧ (∀ t m : Int, a 4 ≤ t → t < 6 → 0 ≤ m → m < 10 → a (Int.toNat (228 + 10 * t + m)) = 0)
-- the parts of a country of the class beside its row
def LdT (σ : zH) (k : Nat) (a : Nat → Int) : Prop := ∀ t : Int, 0 ≤ t → t < a 0 → σ (k + 2) (Int.toNat t) = a (Int.toNat (6 + t))
def LdR (σ : zH) (k : Nat) (a : Nat → Int) : Prop := ∀ r : Int, 0 ≤ r → r < a 1 → (σ (k + 3) (Int.toNat r) = a (Int.toNat (16 + r)) ∧ σ (k + 4) (Int.toNat r) = a (Int.toNat (24 + r)) ∧ σ (k + 5) (Int.toNat r) = a (Int.toNat (32 + r)) ∧ σ (k + 6) (Int.toNat r) = a (Int.toNat (40 + r))) ∧ ∀ j : Int, 0 ≤ j → j < a (Int.toNat (40 + r)) → σ (k + 7) (Int.toNat (r * 12 + j)) = a (Int.toNat (48 + 12 * r + j))
def LdE (σ : zH) (k : Nat) (a : Nat → Int) : Prop := ∀ e : Int, 0 ≤ e → e < a 2 → (σ (k + 8) (Int.toNat e) = a (Int.toNat (144 + e)) ∧ σ (k + 9) (Int.toNat e) = a (Int.toNat (150 + e))) ∧ ∀ t : Int, 0 ≤ t → t < 10 → σ (k + 10) (Int.toNat (e * 10 + t)) = if a (Int.toNat (156 + 10 * e + t)) = 0 then t else a (Int.toNat (156 + 10 * e + t)) - 2
def LdW (σ : zH) (k : Nat) (a : Nat → Int) : Prop := ∀ t : Int, 0 ≤ t → t < a 4 → (σ (k + 11) (Int.toNat t) = a (Int.toNat (216 + t)) ∧ σ (k + 12) (Int.toNat t) = a (Int.toNat (222 + t))) ∧ ∃ N : Nat, N < 1024 ∧ σ (k + 13) (Int.toNat t) = (N : Int) ∧ ∀ m : Nat, m < 10 → (N.testBit m = true ↔ a (Int.toNat (228 + 10 * t + m)) = 1)
def LdC (σ : zH) (k : Nat) (a : Nat → Int) : Prop := σ k 13 = a 0 ∧ σ k 14 = a 1 ∧ σ k 15 = a 2 ∧ σ k 16 = a 3 ∧ σ k 17 = a 4 ∧ σ k 18 = a 5
theorem LandR_iff : LandR σ k a ↔ LdC σ k a ∧ LdT σ k a ∧ LdR σ k a ∧ LdE σ k a ∧ LdW σ k a := Iff.rfl
theorem LdT_c (h : LdT σ k a) (hs : σ' (k + 2) = σ (k + 2)) (h0 : b 0 = a 0) (c0 : a 0 ≤ 10) (hb : ∀ j, 6 ≤ j → j < 16 → b j = a j) : LdT σ' k b := by
  intro t t0 t1
  rw [hs, hb _ (by omega) (by omega)]
  exact h t t0 (by omega)
theorem LdR_c (h : LdR σ k a) (hr : wfR a) (hs : ∀ i, 3 ≤ i → i ≤ 7 → σ' (k + i) = σ (k + i)) (h1 : b 1 = a 1) (c1 : a 1 ≤ 8) (hb : ∀ j, 16 ≤ j → j < 144 → b j = a j) : LdR σ' k b := by
  intro r r0 r1
  have hr' := hr r r0 (by omega)
  rw [hs 3 (by omega) (by omega), hs 4 (by omega) (by omega), hs 5 (by omega) (by omega), hs 6 (by omega) (by omega), hs 7 (by omega) (by omega), hb (Int.toNat (16 + r)) (by omega) (by omega), hb (Int.toNat (24 + r)) (by omega) (by omega), hb (Int.toNat (32 + r)) (by omega) (by omega), hb (Int.toNat (40 + r)) (by omega) (by omega)]
  obtain ⟨g1, g2⟩ := h r r0 (by omega)
  refine ⟨g1, fun j j0 j1 => ?_⟩
  rw [hb _ (by omega) (by omega)]
  exact g2 j j0 j1
theorem LdE_c (h : LdE σ k a) (hs : ∀ i, 8 ≤ i → i ≤ 10 → σ' (k + i) = σ (k + i)) (h2 : b 2 = a 2) (c2 : a 2 ≤ 6) (hb : ∀ j, 144 ≤ j → j < 216 → b j = a j) : LdE σ' k b := by
  intro e e0 e1
  rw [hs 8 (by omega) (by omega), hs 9 (by omega) (by omega), hs 10 (by omega) (by omega), hb (Int.toNat (144 + e)) (by omega) (by omega), hb (Int.toNat (150 + e)) (by omega) (by omega)]
  obtain ⟨g1, g2⟩ := h e e0 (by omega)
  refine ⟨g1, fun t t0 t1 => ?_⟩
  rw [hb _ (by omega) (by omega)]
  exact g2 t t0 t1
theorem LdW_c (h : LdW σ k a) (hs : ∀ i, 11 ≤ i → i ≤ 13 → σ' (k + i) = σ (k + i)) (h4 : b 4 = a 4) (c4 : a 4 ≤ 6) (hb : ∀ j, 216 ≤ j → j < 288 → b j = a j) : LdW σ' k b := by
  intro t t0 t1
  rw [hs 11 (by omega) (by omega), hs 12 (by omega) (by omega), hs 13 (by omega) (by omega), hb (Int.toNat (216 + t)) (by omega) (by omega), hb (Int.toNat (222 + t)) (by omega) (by omega)]
  obtain ⟨g1, N, g2, g3, g4⟩ := h t t0 (by omega)
  refine ⟨g1, N, g2, g3, fun m hm => ?_⟩
  rw [hb _ (by omega) (by omega)]
  exact g4 m hm
/-- names: other cells, other numbers beyond -/
theorem NamR.gen (h : NamR σ kn nm a) (hs : ∀ j, kn ≤ j → j ≤ kn + 3 → σ' j = σ j) (h0 : b 0 = a 0) (h1 : b 1 = a 1) (h2 : b 2 = a 2) (h4 : b 4 = a 4) (hn : ∀ s m : Nat, s < 4 → (m : Int) < ncnt a s → nm' (nbase s + m) = nm (nbase s + m)) : NamR σ' kn nm' b := by
  obtain ⟨n, S, M, g1, g2, g3, g4, g5, g6⟩ := h
  have hcn : ∀ s, ncnt b s = ncnt a s := fun s => by
    unfold ncnt
    rw [h0, h1, h2, h4]
  have hnn : ∀ i, i < n → nm' (nbase (S i) + M i) = nm (nbase (S i) + M i) := fun i hi => by
    obtain ⟨q1, q2, -⟩ := g4 i hi
    exact hn _ _ q1 q2
  refine ⟨n, S, M, g1, by rw [hs kn (by omega) (by omega)]; exact g2, by rw [h0, h1, h2, h4]; exact g3, fun i hi => ?_, fun s m hs' hm => g5 s m hs' (by rw [← hcn]; exact hm), fun i j hi hj he => g6 i j hi hj ?_⟩
  · rw [hcn, hs (kn + 1) (by omega) (by omega), hs (kn + 2) (by omega) (by omega), hs (kn + 3) (by omega) (by omega), hnn i hi]
    exact g4 i hi
  · rw [hnn i hi, hnn j hj] at he
    exact he
/-- a name more -/
theorem add_names (h : NamR σ kn nm a) {w : Int} (hs : s < 4) (hm : ncnt a s = (m : Int)) (hnew : ∀ s' m', ¬ Told nm a w s' m') (hw : nm (nbase s + m) = w) (hb : ∀ s', s' < 4 → ncnt b s' = ncnt a s' + if s' = s then 1 else 0) (hsum : b 0 + b 1 + b 2 + b 4 = a 0 + a 1 + a 2 + a 4 + 1) (hle : b 0 + b 1 + b 2 + b 4 ≤ 30) :
    ∃ σ', f_Names_add σ kn w (s : Int) (m : Int) = some (σ', 0) ∧ NamR σ' kn nm b ∧ (∀ j, ¬ (kn + 1 ≤ j ∧ j ≤ kn + 3) → j ≠ kn → σ' j = σ j) ∧ ∀ i, i ≠ 3 → σ' kn i = σ kn i := by
  obtain ⟨n, S, M, g1, g2, g3, g4, g5, g6⟩ := h
  have e1 : ∀ v : Int, zset σ (kn + 1) n v kn 3 = (n : Int) := fun v => by rw [zk (by omega)]; exact g2
  have e2 : ∀ v w : Int, zset (zset σ (kn + 1) n v) (kn + 2) n w kn 3 = (n : Int) := fun v w => by rw [zk (by omega)]; exact e1 v
  have e3 : ∀ v w x : Int, zset (zset (zset σ (kn + 1) n v) (kn + 2) n w) (kn + 3) n x kn 3 = (n : Int) := fun v w x => by rw [zk (by omega)]; exact e2 v w
  refine ⟨zset (zset (zset (zset σ (kn + 1) n w) (kn + 2) n s) (kn + 3) n m) kn 3 ((n + 1 : Nat) : Int), ?_, ?_, fun j hj hk => by rw [zk hk, zk (by omega), zk (by omega), zk (by omega)], fun i hi => by rw [zi hi, zk (by omega), zk (by omega), zk (by omega)]⟩
  · rw [e_Names_add, g2, if_neg (by omega), if_pos (zin_t (by omega) (by omega)), show Int.toNat (n : Int) = n from rfl, e1, if_pos (zin_t (by omega) (by omega)), show Int.toNat (n : Int) = n from rfl, e2, if_pos (zin_t (by omega) (by omega)), show Int.toNat (n : Int) = n from rfl, e3, w32_s (by omega)]
  · refine ⟨n + 1, fun i => if i = n then s else S i, fun i => if i = n then m else M i, by omega, zs, by omega, fun i hi => ?_, fun s' m' hs' hm' => ?_, fun i j hi hj he => ?_⟩
    · rw [zk (show kn + 1 ≠ kn by omega), zk (show kn + 2 ≠ kn by omega), zk (show kn + 3 ≠ kn by omega), zk (show kn + 1 ≠ kn + 3 by omega), zk (show kn + 2 ≠ kn + 3 by omega), zk (show kn + 1 ≠ kn + 2 by omega)]
      dsimp only
      by_cases hin : i = n
      · rw [hin, if_pos rfl, if_pos rfl, zs, zs, zs]
        refine ⟨hs, by rw [hb s hs, if_pos rfl]; omega, rfl, rfl, hw.symm⟩
      · rw [if_neg hin, if_neg hin, zi hin, zi hin, zi hin, zk (show kn + 3 ≠ kn + 2 by omega), zk (show kn + 3 ≠ kn + 1 by omega), zk (show kn + 2 ≠ kn + 1 by omega)]
        obtain ⟨q1, q2, q3⟩ := g4 i (by omega)
        refine ⟨q1, ?_, q3⟩
        rw [hb _ q1]
        by_cases hss : S i = s
        · rw [if_pos hss]; omega
        · rw [if_neg hss]; omega
    · rw [hb s' hs'] at hm'
      by_cases hss : s' = s
      · rw [if_pos hss] at hm'
        by_cases hmm : m' = m
        · exact ⟨n, by omega, by dsimp only; rw [if_pos rfl, hss], by dsimp only; rw [if_pos rfl, hmm]⟩
        · obtain ⟨i, i1, i2, i3⟩ := g5 s' m' hs' (by rw [hss] at hm' ⊢; omega)
          exact ⟨i, by omega, by dsimp only; rw [if_neg (by omega)]; exact i2, by dsimp only; rw [if_neg (by omega)]; exact i3⟩
      · rw [if_neg hss] at hm'
        obtain ⟨i, i1, i2, i3⟩ := g5 s' m' hs' (by omega)
        exact ⟨i, by omega, by dsimp only; rw [if_neg (by omega)]; exact i2, by dsimp only; rw [if_neg (by omega)]; exact i3⟩
    · dsimp only at he
      by_cases hin : i = n
      · by_cases hjn : j = n
        · omega
        · exfalso
          rw [if_pos hin, if_pos hin, if_neg hjn, if_neg hjn, hw] at he
          obtain ⟨q1, q2, q3⟩ := g4 j (by omega)
          exact hnew _ _ ⟨q1, q2, he.symm⟩
      · by_cases hjn : j = n
        · exfalso
          rw [if_pos hjn, if_pos hjn, if_neg hin, if_neg hin, hw] at he
          obtain ⟨q1, q2, q3⟩ := g4 i (by omega)
          exact hnew _ _ ⟨q1, q2, he⟩
        · rw [if_neg hin, if_neg hin, if_neg hjn, if_neg hjn] at he
          exact g6 i j (by omega) (by omega) he
end G55
