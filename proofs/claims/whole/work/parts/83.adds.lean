/-! THE CLASS adds to a country, beside the row of the reference -/
section G58
variable {σ τ σ' τ' : zH} {k n : Nat} {b : Nat → Int} {w : Int}
/-- a country that is built -/
def CB (σ τ : zH) (k : Nat) : Prop := isLand k ∧ σ 32 1 = (k : Int) ∧ LandR σ k (τ 8) ∧ wfL (τ 8) ∧ NamR σ (k + 32) (fun i => τ 10 (30 + i)) (τ 8) ∧ ZerR (τ 8) ∧ InfR (τ 8)
theorem CB.fr (h : CB σ τ k) (hs : ∀ j, k ≤ j → j < k + 64 → σ' j = σ j) (h32 : σ' 32 1 = σ 32 1) (h8 : τ' 8 = τ 8) (h10 : ∀ s m : Nat, s < 4 → (m : Int) < ncnt (τ 8) s → τ' 10 (30 + (nbase s + m)) = τ 10 (30 + (nbase s + m))) : CB σ' τ' k := by
  obtain ⟨h1, h2, h3, h4, h5, h6, h7⟩ := h
  refine ⟨h1, by rw [h32]; exact h2, ?_, by rw [h8]; exact h4, ?_, by rw [h8]; exact h6, by rw [h8]; exact h7⟩
  · rw [h8]; exact h3.frame (fun i hi => hs _ (by omega) (by omega))
  · rw [h8]; exact h5.gen (fun j j0 j1 => hs j (by omega) (by omega)) rfl rfl rfl rfl h10
theorem zz {i j : Nat} {v : Int} : zset σ k i v j = if j = k then upI (σ k) i v else σ j := by
  by_cases h : j = k
  · rw [if_pos h, h, zset_upI]
  · rw [if_neg h, zk h]
/-- what an adding comes to -/
def Added (σ σ' τ : zH) (k : Nat) (b : Nat → Int) : Prop := (∀ j, ¬ (k ≤ j ∧ j < k + 64) → σ' j = σ j) ∧ LandR σ' k b ∧ wfL b ∧ NamR σ' (k + 32) (fun i => τ 10 (30 + i)) b ∧ ZerR b ∧ InfR b
theorem sum30 (h : wfC b) : b 0 + b 1 + b 2 + b 4 ≤ 30 := by
  obtain ⟨c0, c1, c2, c3, c4, c5⟩ := h
  omega
theorem c_addTerm (hc : CB σ τ k) {s : Int} (hn : τ 8 0 = (n : Int)) (h10 : n < 10) (s0 : 0 ≤ s) (s3 : s ≤ 3) (hnew : ∀ s m, ¬ Told (fun i => τ 10 (30 + i)) (τ 8) w s m) (hw : τ 10 (30 + n) = w) : ∃ σ', f_Country_addTerm σ k w s = some (σ', 0) ∧ Added σ σ' τ k (upI (upI (τ 8) (6 + n) s) 0 ((n + 1 : Nat) : Int)) := by
  obtain ⟨h1, h2, h3, h4, h5, h6, h7⟩ := hc
  have c1 := h4.1.2.1
  obtain ⟨σ1, a1, a2, a3, a4⟩ := add_names (b := upI (upI (τ 8) (6 + n) s) 0 ((n + 1 : Nat) : Int)) (s := 0) (m := n) h5 (by omega) hn hnew (by rw [← hw]; exact congrArg (τ 10) (by show 30 + (0 + n) = 30 + n; omega)) (fun s' hs' => by
    unfold ncnt
    by_cases e0 : s' = 0
    · rw [if_pos e0, if_pos e0, if_pos e0, upI_eq]; omega
    · rw [if_neg e0, if_neg e0, if_neg e0]
      rw [upI_ne (by omega), upI_ne (by omega), upI_ne (by omega), upI_ne (by omega), upI_ne (by omega), upI_ne (by omega), Int.add_zero]) (by
    rw [upI_eq, upI_ne (by omega), upI_ne (by omega), upI_ne (by omega), upI_ne (by omega), upI_ne (by omega), upI_ne (by omega)]; omega) (by
    rw [upI_eq, upI_ne (by omega), upI_ne (by omega), upI_ne (by omega), upI_ne (by omega), upI_ne (by omega), upI_ne (by omega)]
    obtain ⟨c0, c1, c2, c3, c4, c5⟩ := h4.1
    omega)
  have a1' : f_Names_add σ (k + 32) w 0 (n : Int) = some (σ1, 0) := a1
  have ek : ∀ j, k ≤ j → j < k + 32 → σ1 j = σ j := fun j j0 j1 => a3 j (by omega) (by omega)
  have e13 : σ1 k 13 = (n : Int) := by rw [ek k (by omega) (by omega), h3.1.1]; exact hn
  rw [e_Country_addTerm, h3.1.1, hn, a1', Option.bind_some]
  dsimp only
  have f1 : zset σ1 (k + 2) n s k 13 = (n : Int) := by rw [zk (by omega)]; exact e13
  simp only [e13, Int.toNat_natCast, f1]
  rw [if_pos (zin_t (by omega) (by omega)), w32_s (by omega)]
  have hL1 : LandR σ1 k (τ 8) := h3.frame (fun i hi => ek _ (by omega) (by omega))
  obtain ⟨g1, g2, g3⟩ := grow_term (σ' := zset (zset σ1 (k + 2) n s) k 13 ((n + 1 : Nat) : Int)) (b := upI (upI (τ 8) (6 + n) s) 0 ((n + 1 : Nat) : Int)) hL1 h4 h6 hn h10 s0 s3 zs (fun i i0 i1 => by rw [zi (by omega), zk (by omega)]) (by rw [zk (by omega), zset_upI]) (fun i i0 i1 => by rw [zk (by omega), zk (by omega)]) rfl
  refine ⟨_, rfl, fun j hj => ?_, g1, g2, ?_, g3, InfR_c h7 (by rw [upI_ne (by omega), upI_ne (by omega)]) c1.2 (fun j j0 j1 => by rw [upI_ne (by omega), upI_ne (by omega)])⟩
  · rw [zk (by omega), zk (by omega), a3 j (by omega) (by omega)]
  · exact a2.gen (fun j j0 j1 => by rw [zk (by omega), zk (by omega)]) rfl rfl rfl rfl (fun _ _ _ _ => rfl)
theorem c_made_l : ∀ (r i : Nat) (σ1 : zH), i + r = 10 → (∀ j, j ≠ k + 10 → σ1 j = σ j) → (∀ x, x < i → σ1 (k + 10) (n * 10 + x) = (x : Int)) → (∀ x, ¬ (n * 10 ≤ x ∧ x < n * 10 + 10) → σ1 (k + 10) x = σ (k + 10) x) → σ k 15 = (n : Int) → n < 6 → ∃ σ2, f_Country_addEditor_37 σ1 k (i : Int) = some (zset σ2 k 15 ((n + 1 : Nat) : Int), 0) ∧ (∀ j, j ≠ k + 10 → σ2 j = σ j) ∧ (∀ x, x < 10 → σ2 (k + 10) (n * 10 + x) = (x : Int)) ∧ (∀ x, ¬ (n * 10 ≤ x ∧ x < n * 10 + 10) → σ2 (k + 10) x = σ (k + 10) x)
  | 0, i, σ1, hi, g1, g2, g3, g4, g5 => by
    refine ⟨σ1, ?_, g1, fun x hx => g2 x (by omega), g3⟩
    rw [e_Country_addEditor_37, if_pos (by omega), g1 k (by omega), g4, w32_s (by omega)]
  | r + 1, i, σ1, hi, g1, g2, g3, g4, g5 => by
    rw [e_Country_addEditor_37, if_neg (by omega), g1 k (by omega), g4, w32_id (x := (n : Int) * 10) (by omega) (by omega), w32_id (x := (n : Int) * 10 + (i : Int)) (by omega) (by omega), if_pos (zin_t (by omega) (by omega)), show Int.toNat ((n : Int) * 10 + (i : Int)) = n * 10 + i by omega, w32_s (by omega)]
    exact c_made_l r (i + 1) _ (by omega) (fun j hj => by rw [zk hj]; exact g1 j hj) (fun x hx => by
      by_cases hxi : x = i
      · rw [hxi, zs]
      · rw [zi (by omega)]; exact g2 x (by omega)) (fun x hx => by rw [zi (by omega)]; exact g3 x hx) g4 g5
theorem c_addEditor (hc : CB σ τ k) {r p : Int} (hn : τ 8 2 = (n : Int)) (h6' : n < 6) (r0 : 0 ≤ r) (r1 : r < τ 8 1) (p0 : 0 ≤ p) (p1 : p < τ 8 (Int.toNat (16 + r))) (hf : ∀ f : Int, ¬ edAt (τ 8) r p f) (hnew : ∀ s m, ¬ Told (fun i => τ 10 (30 + i)) (τ 8) w s m) (hw : τ 10 (48 + n) = w) : ∃ σ', f_Country_addEditor σ k w r p = some (σ', 0) ∧ Added σ σ' τ k (upI (upI (upI (τ 8) (144 + n) r) (150 + n) p) 2 ((n + 1 : Nat) : Int)) := by
  obtain ⟨h1, h2, h3, h4, h5, h6, h7⟩ := hc
  have c1 := h4.1.2.1
  obtain ⟨σ1, a1, a2, a3, a4⟩ := add_names (b := upI (upI (upI (τ 8) (144 + n) r) (150 + n) p) 2 ((n + 1 : Nat) : Int)) (s := 2) (m := n) h5 (by omega) hn hnew (by rw [← hw]; exact congrArg (τ 10) (by show 30 + (18 + n) = 48 + n; omega)) (fun s' hs' => by
    have hs4 : s' = 0 ∨ s' = 1 ∨ s' = 2 ∨ s' = 3 := by omega
    unfold ncnt
    rcases hs4 with rfl | rfl | rfl | rfl
    · simp (disch := omega) [upI_ne]
    · simp (disch := omega) [upI_ne]
    · simp (disch := omega) [upI_eq]; omega
    · simp (disch := omega) [upI_ne]) (by
    rw [upI_eq, upI_ne (by omega), upI_ne (by omega), upI_ne (by omega), upI_ne (by omega), upI_ne (by omega), upI_ne (by omega), upI_ne (by omega), upI_ne (by omega), upI_ne (by omega)]; omega) (by
    rw [upI_eq, upI_ne (by omega), upI_ne (by omega), upI_ne (by omega), upI_ne (by omega), upI_ne (by omega), upI_ne (by omega), upI_ne (by omega), upI_ne (by omega), upI_ne (by omega)]
    obtain ⟨c0, c1, c2, c3, c4, c5⟩ := h4.1
    omega)
  have a1' : f_Names_add σ (k + 32) w 2 (n : Int) = some (σ1, 0) := a1
  have ek : ∀ j, k ≤ j → j < k + 32 → σ1 j = σ j := fun j j0 j1 => a3 j (by omega) (by omega)
  have e15 : σ1 k 15 = (n : Int) := by rw [ek k (by omega) (by omega), h3.1.2.2.1]; exact hn
  obtain ⟨σ2, d1, d2, d3, d4⟩ := c_made_l (σ := zset (zset σ1 (k + 8) n r) (k + 9) n p) (k := k) (n := n) 10 0 _ rfl (fun _ _ => rfl) (fun x hx => absurd hx (Nat.not_lt_zero x)) (fun _ _ => rfl) (by rw [zk (by omega), zk (by omega)]; exact e15) h6'
  have d1' : f_Country_addEditor_37 (zset (zset σ1 (k + 8) n r) (k + 9) n p) k 0 = some (zset σ2 k 15 ((n + 1 : Nat) : Int), 0) := d1
  rw [e_Country_addEditor, h3.1.2.2.1, hn, a1', Option.bind_some]
  dsimp only
  have f1 : zset σ1 (k + 8) n r k 15 = (n : Int) := by rw [zk (by omega)]; exact e15
  simp only [e15, Int.toNat_natCast, f1]
  rw [if_pos (zin_t (by omega) (by omega)), if_pos (zin_t (by omega) (by omega)), d1']
  have hL1 : LandR σ1 k (τ 8) := h3.frame (fun i hi => ek _ (by omega) (by omega))
  obtain ⟨g1, g2, g3⟩ := grow_editor (σ' := zset σ2 k 15 ((n + 1 : Nat) : Int)) (b := upI (upI (upI (τ 8) (144 + n) r) (150 + n) p) 2 ((n + 1 : Nat) : Int)) hL1 h4 h6 hn h6' r0 r1 p0 p1 hf zs (fun i i0 i1 i2 => by rw [zi (by omega), d2 _ (by omega), zk (by omega), zk (by omega)]) (by rw [zk (by omega), d2 _ (by omega), zk (by omega), zset_upI]) (by rw [zk (by omega), d2 _ (by omega), zset_upI, zk (by omega)]) (fun i hi => by rw [zk (by omega)]; exact d3 i hi) (fun i hi => by rw [zk (by omega), d4 i hi, zk (by omega), zk (by omega)]) (fun i i0 i1 i2 => by rw [zk (by omega), d2 _ (by omega), zk (by omega), zk (by omega)]) rfl
  refine ⟨_, rfl, fun j hj => ?_, g1, g2, ?_, g3, InfR_c h7 (by rw [upI_ne (by omega), upI_ne (by omega), upI_ne (by omega)]) c1.2 (fun j j0 j1 => by rw [upI_ne (by omega), upI_ne (by omega), upI_ne (by omega)])⟩
  · rw [zk (by omega), d2 _ (by omega), zk (by omega), zk (by omega), a3 j (by omega) (by omega)]
  · exact a2.gen (fun j j0 j1 => by rw [zk (by omega), d2 _ (by omega), zk (by omega), zk (by omega)]) rfl rfl rfl rfl (fun _ _ _ _ => rfl)
theorem c_addTown (hc : CB σ τ k) {r p : Int} (hn : τ 8 4 = (n : Int)) (h6' : n < 6) (r0 : 0 ≤ r) (r1 : r < τ 8 1) (p0 : 0 ≤ p) (p1 : p < τ 8 (Int.toNat (16 + r))) (hnew : ∀ s m, ¬ Told (fun i => τ 10 (30 + i)) (τ 8) w s m) (hw : τ 10 (54 + n) = w) : ∃ σ', f_Country_addTown σ k w r p = some (σ', 0) ∧ Added σ σ' τ k (upI (upI (upI (τ 8) (216 + n) r) (222 + n) p) 4 ((n + 1 : Nat) : Int)) := by
  obtain ⟨h1, h2, h3, h4, h5, h6, h7⟩ := hc
  have c1 := h4.1.2.1
  obtain ⟨σ1, a1, a2, a3, a4⟩ := add_names (b := upI (upI (upI (τ 8) (216 + n) r) (222 + n) p) 4 ((n + 1 : Nat) : Int)) (s := 3) (m := n) h5 (by omega) hn hnew (by rw [← hw]; exact congrArg (τ 10) (by show 30 + (24 + n) = 54 + n; omega)) (fun s' hs' => by
    have hs4 : s' = 0 ∨ s' = 1 ∨ s' = 2 ∨ s' = 3 := by omega
    unfold ncnt
    rcases hs4 with rfl | rfl | rfl | rfl
    · simp (disch := omega) [upI_ne]
    · simp (disch := omega) [upI_ne]
    · simp (disch := omega) [upI_ne]
    · simp (disch := omega) [upI_eq]; omega) (by
    rw [upI_eq, upI_ne (by omega), upI_ne (by omega), upI_ne (by omega), upI_ne (by omega), upI_ne (by omega), upI_ne (by omega), upI_ne (by omega), upI_ne (by omega), upI_ne (by omega)]; omega) (by
    rw [upI_eq, upI_ne (by omega), upI_ne (by omega), upI_ne (by omega), upI_ne (by omega), upI_ne (by omega), upI_ne (by omega), upI_ne (by omega), upI_ne (by omega), upI_ne (by omega)]
    obtain ⟨c0, c1, c2, c3, c4, c5⟩ := h4.1
    omega)
  have a1' : f_Names_add σ (k + 32) w 3 (n : Int) = some (σ1, 0) := a1
  have ek : ∀ j, k ≤ j → j < k + 32 → σ1 j = σ j := fun j j0 j1 => a3 j (by omega) (by omega)
  have e17 : σ1 k 17 = (n : Int) := by rw [ek k (by omega) (by omega), h3.1.2.2.2.2.1]; exact hn
  have f1 : zset σ1 (k + 11) n r k 17 = (n : Int) := by rw [zk (by omega)]; exact e17
  have f2 : zset (zset σ1 (k + 11) n r) (k + 12) n p k 17 = (n : Int) := by rw [zk (by omega)]; exact f1
  have f3 : zset (zset (zset σ1 (k + 11) n r) (k + 12) n p) (k + 13) n 0 k 17 = (n : Int) := by rw [zk (by omega)]; exact f2
  rw [e_Country_addTown, h3.1.2.2.2.2.1, hn, a1', Option.bind_some]
  dsimp only
  simp only [e17, Int.toNat_natCast, f1, f2, f3]
  rw [if_pos (zin_t (by omega) (by omega)), if_pos (zin_t (by omega) (by omega)), if_pos (zin_t (by omega) (by omega)), w32_s (by omega)]
  have hL1 : LandR σ1 k (τ 8) := h3.frame (fun i hi => ek _ (by omega) (by omega))
  obtain ⟨g1, g2, g3⟩ := grow_town (σ' := zset (zset (zset (zset σ1 (k + 11) n r) (k + 12) n p) (k + 13) n 0) k 17 ((n + 1 : Nat) : Int)) (b := upI (upI (upI (τ 8) (216 + n) r) (222 + n) p) 4 ((n + 1 : Nat) : Int)) hL1 h4 h6 hn h6' r0 r1 p0 p1 zs (fun i i0 i1 i2 => by rw [zi (by omega), zk (by omega), zk (by omega), zk (by omega)]) (by rw [zk (by omega), zk (by omega), zk (by omega), zset_upI]) (by rw [zk (by omega), zk (by omega), zset_upI, zk (by omega)]) (by rw [zk (by omega), zset_upI, zk (by omega), zk (by omega)]) (fun i i0 i1 => by rw [zk (by omega), zk (by omega), zk (by omega), zk (by omega)]) rfl
  refine ⟨_, rfl, fun j hj => ?_, g1, g2, ?_, g3, InfR_c h7 (by rw [upI_ne (by omega), upI_ne (by omega), upI_ne (by omega)]) c1.2 (fun j j0 j1 => by rw [upI_ne (by omega), upI_ne (by omega), upI_ne (by omega)])⟩
  · rw [zk (by omega), zk (by omega), zk (by omega), zk (by omega), a3 j (by omega) (by omega)]
  · exact a2.gen (fun j j0 j1 => by rw [zk (by omega), zk (by omega), zk (by omega), zk (by omega)]) rfl rfl rfl rfl (fun _ _ _ _ => rfl)
theorem c_addChange (hc : CB σ τ k) {e t v : Int} (hn : τ 8 3 = (n : Int)) (h20 : n < 20) (e0 : 0 ≤ e) (e1 : e < τ 8 2) (t0 : 0 ≤ t) (t1 : t < τ 8 0) (v0 : 1 ≤ v) (v1 : v < 2 + τ 8 0) (v2 : v ≠ 2 + t) : ∃ σ', f_Country_addChange σ k e t (v - 2) = some (σ', 0) ∧ Added σ σ' τ k (upI (upI (τ 8) (Int.toNat (156 + 10 * e + t)) v) 3 ((n + 1 : Nat) : Int)) := by
  obtain ⟨h1, h2, h3, h4, h5, h6, h7⟩ := hc
  obtain ⟨c0, c1, c2, c3, c4, c5⟩ := h4.1
  rw [e_Country_addChange, w32_id (x := e * 10) (by omega) (by omega), w32_id (x := e * 10 + t) (by omega) (by omega), if_pos (zin_t (by omega) (by omega)), zk (show k ≠ k + 10 by omega), h3.1.2.2.2.1, hn, w32_s (by omega)]
  obtain ⟨g1, g2, g3⟩ := grow_change (σ' := zset (zset σ (k + 10) (Int.toNat (e * 10 + t)) (v - 2)) k 16 ((n + 1 : Nat) : Int)) (b := upI (upI (τ 8) (Int.toNat (156 + 10 * e + t)) v) 3 ((n + 1 : Nat) : Int)) h3 h4 h6 hn h20 e0 e1 t0 t1 v0 v1 v2 zs (fun i i0 i1 i2 => by rw [zi (by omega), zk (by omega)]) (by rw [zk (by omega), zset_upI]) (fun i i0 i1 i2 => by rw [zk (by omega), zk (by omega)]) rfl
  refine ⟨_, rfl, fun j hj => by rw [zk (by omega), zk (by omega)], g1, g2, ?_, g3, InfR_c h7 (by rw [upI_ne (by omega), upI_ne (by omega)]) c1.2 (fun j j0 j1 => by rw [upI_ne (by omega), upI_ne (by omega)])⟩
  exact h5.gen (fun j j0 j1 => by rw [zk (by omega), zk (by omega)]) (by rw [upI_ne (by omega), upI_ne (by omega)]) (by rw [upI_ne (by omega), upI_ne (by omega)]) (by rw [upI_ne (by omega), upI_ne (by omega)]) (by rw [upI_ne (by omega), upI_ne (by omega)]) (fun _ _ _ _ => rfl)
theorem c_addTaste (hc : CB σ τ k) {t v : Int} (hn : τ 8 5 = (n : Int)) (h12 : n < 12) (t0 : 0 ≤ t) (t1 : t < τ 8 4) (v0 : 0 ≤ v) (v1 : v < τ 8 0) : ∃ σ', f_Country_addTaste σ k t v = some (σ', 0) ∧ Added σ σ' τ k (upI (upI (τ 8) (Int.toNat (228 + 10 * t + v)) 1) 5 ((n + 1 : Nat) : Int)) := by
  obtain ⟨h1, h2, h3, h4, h5, h6, h7⟩ := hc
  obtain ⟨c0, c1, c2, c3, c4, c5⟩ := h4.1
  rw [e_Country_addTaste, if_pos (zin_t (by omega) (by omega)), if_pos (zin_t (by omega) (by omega)), zk (show k ≠ k + 13 by omega), h3.1.2.2.2.2.2, hn, w32_s (by omega)]
  obtain ⟨g1, g2, g3⟩ := grow_taste (σ' := zset (zset σ (k + 13) (Int.toNat t) (zor (σ (k + 13) (Int.toNat t)) (zshl 1 v))) k 18 ((n + 1 : Nat) : Int)) (b := upI (upI (τ 8) (Int.toNat (228 + 10 * t + v)) 1) 5 ((n + 1 : Nat) : Int)) h3 h4 h6 hn h12 t0 t1 v0 v1 zs (fun i i0 i1 => by rw [zi (by omega), zk (by omega)]) (by rw [zk (by omega), zset_upI]) (fun i i0 i1 => by rw [zk (by omega), zk (by omega)]) rfl
  refine ⟨_, rfl, fun j hj => by rw [zk (by omega), zk (by omega)], g1, g2, ?_, g3, InfR_c h7 (by rw [upI_ne (by omega), upI_ne (by omega)]) c1.2 (fun j j0 j1 => by rw [upI_ne (by omega), upI_ne (by omega)])⟩
  exact h5.gen (fun j j0 j1 => by rw [zk (by omega), zk (by omega)]) (by rw [upI_ne (by omega), upI_ne (by omega)]) (by rw [upI_ne (by omega), upI_ne (by omega)]) (by rw [upI_ne (by omega), upI_ne (by omega)]) (by rw [upI_ne (by omega), upI_ne (by omega)]) (fun _ _ _ _ => rfl)
/-- a reach: the row of the reference is told by what it holds -/
theorem c_addReach (hc : CB σ τ k) {len T : Int} (hn : τ 8 1 = (n : Int)) (h8 : n < 8) (g0 : 1 ≤ len) (g1 : len ≤ 9) (T0 : -1 ≤ T) (T1 : T < (n : Int)) (T2 : 0 ≤ T → τ 8 (Int.toNat (40 + T)) = 0) (hnew : ∀ s m, ¬ Told (fun i => τ 10 (30 + i)) (τ 8) w s m) (hw : τ 10 (40 + n) = w)
    (b1 : b 1 = ((n + 1 : Nat) : Int)) (b16 : b (16 + n) = len) (b24 : b (24 + n) = T) (b32 : 0 ≤ T → b (Int.toNat (32 + T)) = τ 8 (Int.toNat (32 + T)) + 1) (bx : ∀ j, j ≠ 1 → j ≠ 16 + n → j ≠ 24 + n → ¬ (0 ≤ T ∧ j = Int.toNat (32 + T)) → b j = τ 8 j) : ∃ σ', f_Country_addReach σ k w len T = some (σ', 0) ∧ Added σ σ' τ k b := by
  obtain ⟨h1, h2, h3, h4, h5, h6, h7⟩ := hc
  obtain ⟨c0, c1, c2, c3, c4, c5⟩ := h4.1
  have b0 : b 0 = τ 8 0 := bx 0 (by omega) (by omega) (by omega) (by omega)
  have b2 : b 2 = τ 8 2 := bx 2 (by omega) (by omega) (by omega) (by omega)
  have b4 : b 4 = τ 8 4 := bx 4 (by omega) (by omega) (by omega) (by omega)
  obtain ⟨σ1, a1, a2, a3, a4⟩ := add_names (b := b) (s := 1) (m := n) h5 (by omega) hn hnew (by rw [← hw]; exact congrArg (τ 10) (by show 30 + (10 + n) = 40 + n; omega)) (fun s' hs' => by
    have hs4 : s' = 0 ∨ s' = 1 ∨ s' = 2 ∨ s' = 3 := by omega
    unfold ncnt
    rcases hs4 with rfl | rfl | rfl | rfl
    · simp [b0]
    · simp [b1, hn]
    · simp [b2]
    · simp [b4]) (by omega) (by omega)
  have a1' : f_Names_add σ (k + 32) w 1 (n : Int) = some (σ1, 0) := a1
  have ek : ∀ j, k ≤ j → j < k + 32 → σ1 j = σ j := fun j j0 j1 => a3 j (by omega) (by omega)
  have hL1 : LandR σ1 k (τ 8) := h3.frame (fun i hi => ek _ (by omega) (by omega))
  have e14 : σ1 k 14 = (n : Int) := by rw [hL1.1.2.1]; exact hn
  have f1 : zset σ1 (k + 3) n len k 14 = (n : Int) := by rw [zk (by omega)]; exact e14
  have f2 : zset (zset σ1 (k + 3) n len) (k + 4) n T k 14 = (n : Int) := by rw [zk (by omega)]; exact f1
  have f3 : zset (zset (zset σ1 (k + 3) n len) (k + 4) n T) (k + 5) n 0 k 14 = (n : Int) := by rw [zk (by omega)]; exact f2
  have f4 : zset (zset (zset (zset σ1 (k + 3) n len) (k + 4) n T) (k + 5) n 0) (k + 6) n 0 k 14 = (n : Int) := by rw [zk (by omega)]; exact f3
  rw [e_Country_addReach, h3.1.2.1, hn, a1', Option.bind_some]
  dsimp only
  simp only [e14, Int.toNat_natCast, f1, f2, f3]
  rw [if_pos (zin_t (by omega) (by omega)), if_pos (zin_t (by omega) (by omega)), if_pos (zin_t (by omega) (by omega)), if_pos (zin_t (by omega) (by omega))]
  have hR : f_Country_hasReach (zset (zset (zset (zset σ1 (k + 3) n len) (k + 4) n T) (k + 5) n 0) (k + 6) n 0) k T = some (zset (zset (zset (zset σ1 (k + 3) n len) (k + 4) n T) (k + 5) n 0) (k + 6) n 0, if 0 ≤ T then 1 else 0) := by
    rw [e_Country_hasReach, f4]
    by_cases hT : T < 0
    · rw [if_pos hT, if_neg (show ¬ 0 ≤ T by omega)]
    · rw [if_neg hT, if_neg (show ¬ (n : Int) ≤ T by omega), if_pos (show 0 ≤ T by omega)]
  rw [hR, Option.bind_some]
  dsimp only
  by_cases hT : 0 ≤ T
  · have v5 : zset (zset (zset (zset σ1 (k + 3) n len) (k + 4) n T) (k + 5) n 0) (k + 6) n 0 (k + 5) (Int.toNat T) = τ 8 (Int.toNat (32 + T)) := by
      rw [zk (by omega), zi (by omega), zk (by omega), zk (by omega)]
      exact (hL1.2.2.1 T hT (by omega)).1.2.2.1
    have i8 := h4.2.2.1 T hT (by omega)
    have hi := h7 T hT (by omega)
    rw [if_pos hT, i10, if_pos (zin_t (by omega) (by omega)), if_pos (zin_t (by omega) (by omega)), v5, zk (show k ≠ k + 5 by omega), f4, w32_s (by omega), w32_id (x := τ 8 (Int.toNat (32 + T)) + 1) (by omega) (by omega)]
    obtain ⟨x1, x2, x3, x4⟩ := grow_reach (σ' := zset (zset (zset (zset (zset (zset σ1 (k + 3) n len) (k + 4) n T) (k + 5) n 0) (k + 6) n 0) (k + 5) (Int.toNat T) (τ 8 (Int.toNat (32 + T)) + 1)) k 14 ((n + 1 : Nat) : Int)) (b := b) hL1 h4 h6 h7 hn h8 g0 g1 T0 T1 T2 zs (fun i i0 i1 i2 => by rw [zi (by omega), zk (by omega), zk (by omega), zk (by omega), zk (by omega), zk (by omega)]) (by rw [zk (by omega), zk (by omega), zk (by omega), zk (by omega), zk (by omega), zset_upI]) (by rw [zk (by omega), zk (by omega), zk (by omega), zk (by omega), zset_upI, zk (by omega)]) (by rw [zk (by omega), zi (by omega), zk (by omega), zs]) (fun _ => by rw [zk (by omega), zs, (hL1.2.2.1 T hT (by omega)).1.2.2.1]) (fun i i0 i1 => by rw [zk (by omega), zi (by omega), zk (by omega), zi (by omega), zk (by omega), zk (by omega)]) (by rw [zk (by omega), zk (by omega), zset_upI, zk (by omega), zk (by omega), zk (by omega)]) (fun i i0 => by rw [zk (by omega), zk (by omega), zk (by omega), zk (by omega), zk (by omega), zk (by omega)]) b1 b16 b24 b32 bx
    refine ⟨_, rfl, fun j hj => by rw [zk (by omega), zk (by omega), zk (by omega), zk (by omega), zk (by omega), zk (by omega), a3 j (by omega) (by omega)], x1, x2, ?_, x3, x4⟩
    exact a2.gen (fun j j0 j1 => by rw [zk (by omega), zk (by omega), zk (by omega), zk (by omega), zk (by omega), zk (by omega)]) rfl rfl rfl rfl (fun _ _ _ _ => rfl)
  · rw [if_neg hT, i00, f4, w32_s (by omega)]
    obtain ⟨x1, x2, x3, x4⟩ := grow_reach (σ' := zset (zset (zset (zset (zset σ1 (k + 3) n len) (k + 4) n T) (k + 5) n 0) (k + 6) n 0) k 14 ((n + 1 : Nat) : Int)) (b := b) hL1 h4 h6 h7 hn h8 g0 g1 T0 T1 T2 zs (fun i i0 i1 i2 => by rw [zi (by omega), zk (by omega), zk (by omega), zk (by omega), zk (by omega)]) (by rw [zk (by omega), zk (by omega), zk (by omega), zk (by omega), zset_upI]) (by rw [zk (by omega), zk (by omega), zk (by omega), zset_upI, zk (by omega)]) (by rw [zk (by omega), zk (by omega), zs]) (fun q => absurd q hT) (fun i i0 i1 => by rw [zk (by omega), zk (by omega), zi (by omega), zk (by omega), zk (by omega)]) (by rw [zk (by omega), zset_upI, zk (by omega), zk (by omega), zk (by omega)]) (fun i i0 => by rw [zk (by omega), zk (by omega), zk (by omega), zk (by omega), zk (by omega)]) b1 b16 b24 b32 bx
    refine ⟨_, rfl, fun j hj => by rw [zk (by omega), zk (by omega), zk (by omega), zk (by omega), zk (by omega), a3 j (by omega) (by omega)], x1, x2, ?_, x3, x4⟩
    exact a2.gen (fun j j0 j1 => by rw [zk (by omega), zk (by omega), zk (by omega), zk (by omega), zk (by omega)]) rfl rfl rfl rfl (fun _ _ _ _ => rfl)
end G58
