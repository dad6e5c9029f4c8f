/-! SOME DAYS, both sides; a stream copied -/
section G15
variable {σ τ : zH} {k : Nat} {a b : Nat → Int}
theorem HisD.congr {σ' : zH} {ks e : Nat} (h : HisD σ ks a e) (h1 : σ' (ks + 12) e = σ (ks + 12) e) (h4 : b 4 = a 4) (hw : ∀ t : Nat, (t : Int) < a 4 → wv b t e = wv a t e) : HisD σ' ks b e := by
  obtain ⟨N, n1, n2, n3⟩ := h
  refine ⟨N, n1, by rw [h1]; exact n2, fun t ht => ?_⟩
  rw [h4] at ht
  rw [hw t ht]
  exact n3 t ht
/-- what days do to both sides -/
def PassOut (σ τ σ' τ' : zH) (ks d e : Nat) : Prop :=
  (∀ j, ¬ own8 ks j → σ' j = σ j) ∧ (∀ j, j ≠ 7 → j ≠ 21 → τ' j = τ j) ∧ (∀ j, j < 288 ∨ j = 293 ∨ 2778 ≤ j → τ' 7 j = τ 7 j) ∧ StrR σ' ks (τ' 7) e ∧ σ' ks 13 = σ ks 13 ∧ (∀ (t : Int) (d' : Nat), 0 ≤ t → t < 6 → d' < d → wv (τ' 7) t d' = wv (τ 7) t d') ∧
  (zhl ks = 0 → σ' (ks + 12) = σ (ks + 12)) ∧ (zhl ks = 400 → (∀ i, i < d → σ' (ks + 12) i = σ (ks + 12) i) ∧ ∀ f, d ≤ f → f < e → HisD σ' ks (τ' 7) f)
theorem PassOut.refl {ks d : Nat} (h : StrR σ ks (τ 7) d) : PassOut σ τ σ τ ks d d :=
  ⟨fun _ _ => rfl, fun _ _ _ => rfl, fun _ _ => rfl, h, rfl, fun _ _ _ _ _ => rfl, fun _ => rfl, fun _ => ⟨fun _ _ => rfl, fun f f0 f1 => by omega⟩⟩
theorem PassOut.trans {σ1 τ1 σ2 τ2 : zH} {ks d e f : Nat} (hde : d ≤ e) (hw4 : τ 7 4 ≤ 6) (h : PassOut σ τ σ1 τ1 ks d e) (g : PassOut σ1 τ1 σ2 τ2 ks e f) : PassOut σ τ σ2 τ2 ks d f := by
  obtain ⟨h1, h2, h3, h4, h5, h6, h7, h8⟩ := h
  obtain ⟨g1, g2, g3, g4, g5, g6, g7, g8⟩ := g
  refine ⟨fun j hj => by rw [g1 j hj, h1 j hj], fun j j1 j2 => by rw [g2 j j1 j2, h2 j j1 j2], fun j hj => by rw [g3 j hj, h3 j hj], g4, by rw [g5, h5], fun t d' t0 t1 hd => by rw [g6 t d' t0 t1 (by omega), h6 t d' t0 t1 hd], fun hz => by rw [g7 hz, h7 hz], fun hz => ?_⟩
  obtain ⟨h9, h10⟩ := h8 hz
  obtain ⟨g9, g10⟩ := g8 hz
  refine ⟨fun i hi => by rw [g9 i (by omega), h9 i hi], fun q q0 q1 => ?_⟩
  by_cases hq : e ≤ q
  · exact g10 q hq q1
  · exact (h10 q q0 (by omega)).congr (g9 q (by omega)) (g3 4 (by omega)) (fun t ht => g6 t q (by omega) (by rw [h3 4 (by omega)] at ht; omega) (by omega))
theorem day_out {ks d : Nat} (hL : LandR σ k (τ 7)) (hd : apart8 ks k) (hw : wfL (τ 7)) (hs : StrR σ ks (τ 7) d) (h400 : d < 400) :
    ∃ σ' τ', f_Stream_passDay σ ks k = some (σ', 0) ∧ f_M_day τ = some (τ', 0) ∧ PassOut σ τ σ' τ' ks d (d + 1) := by
  obtain ⟨σ', τ', h1, h2, h3, h4, h5, h6, h7, h8, h9, h10⟩ := day_both rfl hL hd hw hs h400
  refine ⟨σ', τ', h1, h2, h3, h4, h5, h6, h7, h8, h9, fun hz => ⟨fun i hi => (h10 hz).1 i (by omega), fun f f0 f1 => ?_⟩⟩
  rw [show f = d by omega]
  exact (h10 hz).2
/-- how a country and its row stand behind days -/
theorem PassOut.land {σ' τ' : zH} {ks d e : Nat} (h : PassOut σ τ σ' τ' ks d e) (hd : apart8 ks k) (hL : LandR σ k (τ 7)) (hw : wfL (τ 7)) : LandR σ' k (τ' 7) ∧ wfL (τ' 7) :=
  ⟨LandR_congr (fun j hj => h.2.2.1 j (by omega)) hw (hL.own hd h.1), wfL_congr (fun j hj => h.2.2.1 j (by omega)) hw⟩
theorem pass_both {ks M N e : Nat} (hd : apart8 ks k) (hMN : M ≤ N) (hN : N ≤ 1000) (hend : M = N ∨ e = 400) (he : e ≤ 400) : ∀ (r i d : Nat) (σ τ : zH), i + r = M → d + r = e → LandR σ k (τ 7) → wfL (τ 7) → StrR σ ks (τ 7) d →
    ∃ σ' τ', f_Stream_pass_12 σ ks k (M : Int) (i : Int) = some (σ', 0) ∧ f_M_goes_2 τ (N : Int) (i : Int) = some (τ', (M : Int)) ∧ PassOut σ τ σ' τ' ks d e
  | 0, i, d, σ, τ, hi, hde, hL, hw, hs => by
    have hdd : d = e := by omega
    subst hdd
    refine ⟨σ, τ, ?_, ?_, PassOut.refl hs⟩
    · rw [e_Stream_pass_12, if_pos (by omega)]
    · rw [e_M_goes_2, hs.2.1]
      by_cases hNi : (N : Int) ≤ i
      · rw [if_pos hNi, show i = M by omega]
      · rw [if_neg hNi, if_pos (by omega), show i = M by omega]
  | r + 1, i, d, σ, τ, hi, hde, hL, hw, hs => by
    obtain ⟨σ1, τ1, h1, h2, h3⟩ := day_out hL hd hw hs (by omega)
    obtain ⟨hL1, hw1⟩ := h3.land hd hL hw
    obtain ⟨σ2, τ2, g1, g2, g3⟩ := pass_both hd hMN hN hend he r (i + 1) (d + 1) σ1 τ1 (by omega) (by omega) hL1 hw1 h3.2.2.2.1
    refine ⟨σ2, τ2, ?_, ?_, h3.trans (by omega) hw.1.2.2.2.2.1.2 g3⟩
    · rw [e_Stream_pass_12, if_neg (by omega), h1, Option.bind_some, w32_s (by omega)]
      exact g1
    · rw [e_M_goes_2, if_neg (by omega), hs.2.1, if_neg (by omega), h2, Option.bind_some, w32_s (by omega)]
      exact g2
/-- a stream is copied into another -/
def CopyOut (σ σ' : zH) (k0 k1 : Nat) : Prop :=
  (∀ j, ¬ own8 k0 j → σ' j = σ j) ∧ (∀ i, i < 72 → σ' (k0 + 1) i = σ (k1 + 1) i) ∧ (∀ j i, 3 ≤ j → j ≤ 11 → i < 6 → σ' (k0 + j) i = σ (k1 + j) i) ∧ σ' k0 12 = σ k1 12 ∧ σ' k0 13 = σ k1 13 ∧ σ' k0 14 = σ k1 14 ∧ σ' k0 15 = σ k1 15 ∧ (zhl k0 = 0 ∨ zhl k1 = 0 → σ' (k0 + 12) = σ (k0 + 12)) ∧ (zhl k0 = 400 → zhl k1 = 400 → ∀ i, i < 400 → σ' (k0 + 12) i = σ (k1 + 12) i)
theorem zhl_or (k : Nat) : zhl k = 0 ∨ zhl k = 400 := by
  unfold zhl
  cases (Nat.beq k 96 || (Nat.beq k 768 || Nat.beq k 1024)) <;> simp
theorem zcg_t {p q n : Nat} (h : n ≤ p) (h2 : n ≤ q) : zcg 0 p 0 q (n : Int) = true := by
  unfold zcg
  simp
  exact ⟨h, h2⟩
theorem c_copy {k0 k1 : Nat} (hd : k0 + 13 ≤ k1 ∨ k1 + 13 ≤ k0) : ∃ σ', f_Stream_copyFrom σ k0 k1 = some (σ', 0) ∧ CopyOut σ σ' k0 k1 := by
  have hm : zmin (Int.ofNat (zhl k0)) (Int.ofNat (zhl k1)) = ((min (zhl k0) (zhl k1) : Nat) : Int) := by
    unfold zmin
    simp only [Int.ofNat_eq_natCast]
    split <;> omega
  have hg : zcg 0 (zhl k1) 0 (zhl k0) (zmin (Int.ofNat (zhl k0)) (Int.ofNat (zhl k1))) = true := by
    rw [hm]
    exact zcg_t (by omega) (by omega)
  have hn : Int.toNat (zmin (Int.ofNat (zhl k0)) (Int.ofNat (zhl k1))) = min (zhl k0) (zhl k1) := by rw [hm]; rfl
  rw [e_Stream_copyFrom, if_pos hg, hn]
  obtain ⟨ρ1, h1⟩ : ∃ ρ, zcp σ (k1 + 1) 0 (k0 + 1) 0 72 = ρ := ⟨_, rfl⟩
  rw [h1]
  obtain ⟨ρ2, h2⟩ : ∃ ρ, zcp ρ1 (k1 + 3) 0 (k0 + 3) 0 6 = ρ := ⟨_, rfl⟩
  rw [h2]
  obtain ⟨ρ3, h3⟩ : ∃ ρ, zcp ρ2 (k1 + 4) 0 (k0 + 4) 0 6 = ρ := ⟨_, rfl⟩
  rw [h3]
  obtain ⟨ρ4, h4⟩ : ∃ ρ, zcp ρ3 (k1 + 5) 0 (k0 + 5) 0 6 = ρ := ⟨_, rfl⟩
  rw [h4]
  obtain ⟨ρ5, h5⟩ : ∃ ρ, zcp ρ4 (k1 + 6) 0 (k0 + 6) 0 6 = ρ := ⟨_, rfl⟩
  rw [h5]
  obtain ⟨ρ6, h6⟩ : ∃ ρ, zcp ρ5 (k1 + 7) 0 (k0 + 7) 0 6 = ρ := ⟨_, rfl⟩
  rw [h6]
  obtain ⟨ρ7, h7⟩ : ∃ ρ, zcp ρ6 (k1 + 8) 0 (k0 + 8) 0 6 = ρ := ⟨_, rfl⟩
  rw [h7]
  obtain ⟨ρ8, h8⟩ : ∃ ρ, zcp ρ7 (k1 + 9) 0 (k0 + 9) 0 6 = ρ := ⟨_, rfl⟩
  rw [h8]
  obtain ⟨ρ9, h9⟩ : ∃ ρ, zcp ρ8 (k1 + 10) 0 (k0 + 10) 0 6 = ρ := ⟨_, rfl⟩
  rw [h9]
  obtain ⟨ρ10, h10⟩ : ∃ ρ, zcp ρ9 (k1 + 11) 0 (k0 + 11) 0 6 = ρ := ⟨_, rfl⟩
  rw [h10]
  obtain ⟨ρ11, h11⟩ : ∃ ρ, zcp ρ10 (k1 + 12) 0 (k0 + 12) 0 (min (zhl k0) (zhl k1)) = ρ := ⟨_, rfl⟩
  rw [h11]
  obtain ⟨ρ12, h12⟩ : ∃ ρ, zset ρ11 k0 12 (ρ11 k1 12) = ρ := ⟨_, rfl⟩
  rw [h12]
  obtain ⟨ρ13, h13⟩ : ∃ ρ, zset ρ12 k0 13 (ρ12 k1 13) = ρ := ⟨_, rfl⟩
  rw [h13]
  obtain ⟨ρ14, h14⟩ : ∃ ρ, zset ρ13 k0 14 (ρ13 k1 14) = ρ := ⟨_, rfl⟩
  rw [h14]
  have f1 : ∀ j, j ≠ k0 + 1 → ρ1 j = σ j := fun j hj => by rw [← h1, zcpk hj]
  have f2 : ∀ j, j ≠ k0 + 3 → ρ2 j = ρ1 j := fun j hj => by rw [← h2, zcpk hj]
  have f3 : ∀ j, j ≠ k0 + 4 → ρ3 j = ρ2 j := fun j hj => by rw [← h3, zcpk hj]
  have f4 : ∀ j, j ≠ k0 + 5 → ρ4 j = ρ3 j := fun j hj => by rw [← h4, zcpk hj]
  have f5 : ∀ j, j ≠ k0 + 6 → ρ5 j = ρ4 j := fun j hj => by rw [← h5, zcpk hj]
  have f6 : ∀ j, j ≠ k0 + 7 → ρ6 j = ρ5 j := fun j hj => by rw [← h6, zcpk hj]
  have f7 : ∀ j, j ≠ k0 + 8 → ρ7 j = ρ6 j := fun j hj => by rw [← h7, zcpk hj]
  have f8 : ∀ j, j ≠ k0 + 9 → ρ8 j = ρ7 j := fun j hj => by rw [← h8, zcpk hj]
  have f9 : ∀ j, j ≠ k0 + 10 → ρ9 j = ρ8 j := fun j hj => by rw [← h9, zcpk hj]
  have f10 : ∀ j, j ≠ k0 + 11 → ρ10 j = ρ9 j := fun j hj => by rw [← h10, zcpk hj]
  have f11 : ∀ j, j ≠ k0 + 12 → ρ11 j = ρ10 j := fun j hj => by rw [← h11, zcpk hj]
  have f12 : ∀ j, j ≠ k0 → ρ12 j = ρ11 j := fun j hj => by rw [← h12, zk hj]
  have f13 : ∀ j, j ≠ k0 → ρ13 j = ρ12 j := fun j hj => by rw [← h13, zk hj]
  have f14 : ∀ j, j ≠ k0 → ρ14 j = ρ13 j := fun j hj => by rw [← h14, zk hj]
  have src : ∀ j, k1 ≤ j → j ≤ k1 + 12 → ρ1 j = σ j ∧ ρ2 j = σ j ∧ ρ3 j = σ j ∧ ρ4 j = σ j ∧ ρ5 j = σ j ∧ ρ6 j = σ j ∧ ρ7 j = σ j ∧ ρ8 j = σ j ∧ ρ9 j = σ j ∧ ρ10 j = σ j ∧ ρ11 j = σ j ∧ ρ12 j = σ j ∧ ρ13 j = σ j ∧ ρ14 j = σ j := fun j j0 j1 => by
    have e1 : ρ1 j = σ j := f1 j (by omega)
    have e2 : ρ2 j = σ j := by rw [f2 j (by omega), e1]
    have e3 : ρ3 j = σ j := by rw [f3 j (by omega), e2]
    have e4 : ρ4 j = σ j := by rw [f4 j (by omega), e3]
    have e5 : ρ5 j = σ j := by rw [f5 j (by omega), e4]
    have e6 : ρ6 j = σ j := by rw [f6 j (by omega), e5]
    have e7 : ρ7 j = σ j := by rw [f7 j (by omega), e6]
    have e8 : ρ8 j = σ j := by rw [f8 j (by omega), e7]
    have e9 : ρ9 j = σ j := by rw [f9 j (by omega), e8]
    have e10 : ρ10 j = σ j := by rw [f10 j (by omega), e9]
    have e11 : ρ11 j = σ j := by rw [f11 j (by omega), e10]
    have e12 : ρ12 j = σ j := by rw [f12 j (by omega), e11]
    have e13 : ρ13 j = σ j := by rw [f13 j (by omega), e12]
    have e14 : ρ14 j = σ j := by rw [f14 j (by omega), e13]
    exact ⟨e1, e2, e3, e4, e5, e6, e7, e8, e9, e10, e11, e12, e13, e14⟩
  refine ⟨_, rfl, fun j hj => ?_, fun i hi => ?_, fun j i j0 j1 hi => ?_, ?_, ?_, ?_, ?_, fun hz => ?_, fun z0 z1 i hi => ?_⟩
  · unfold own8 at hj
    rw [zk (by omega), f14 j (by omega), f13 j (by omega), f12 j (by omega), f11 j (by omega), f10 j (by omega), f9 j (by omega), f8 j (by omega), f7 j (by omega), f6 j (by omega), f5 j (by omega), f4 j (by omega), f3 j (by omega), f2 j (by omega), f1 j (by omega)]
  · rw [zk (by omega), f14 _ (by omega), f13 _ (by omega), f12 _ (by omega), f11 _ (by omega), f10 _ (by omega), f9 _ (by omega), f8 _ (by omega), f7 _ (by omega), f6 _ (by omega), f5 _ (by omega), f4 _ (by omega), f3 _ (by omega), f2 _ (by omega), ← h1, zcpi hi]
  · rw [zk (by omega), f14 _ (by omega), f13 _ (by omega), f12 _ (by omega), f11 _ (by omega)]
    have hj : j = 3 ∨ j = 4 ∨ j = 5 ∨ j = 6 ∨ j = 7 ∨ j = 8 ∨ j = 9 ∨ j = 10 ∨ j = 11 := by omega
    obtain ⟨e1, e2, e3, e4, e5, e6, e7, e8, e9, -⟩ := src (k1 + j) (by omega) (by omega)
    rcases hj with rfl | rfl | rfl | rfl | rfl | rfl | rfl | rfl | rfl
    · rw [f10 _ (by omega), f9 _ (by omega), f8 _ (by omega), f7 _ (by omega), f6 _ (by omega), f5 _ (by omega), f4 _ (by omega), f3 _ (by omega), ← h2, zcpi hi, e1]
    · rw [f10 _ (by omega), f9 _ (by omega), f8 _ (by omega), f7 _ (by omega), f6 _ (by omega), f5 _ (by omega), f4 _ (by omega), ← h3, zcpi hi, e2]
    · rw [f10 _ (by omega), f9 _ (by omega), f8 _ (by omega), f7 _ (by omega), f6 _ (by omega), f5 _ (by omega), ← h4, zcpi hi, e3]
    · rw [f10 _ (by omega), f9 _ (by omega), f8 _ (by omega), f7 _ (by omega), f6 _ (by omega), ← h5, zcpi hi, e4]
    · rw [f10 _ (by omega), f9 _ (by omega), f8 _ (by omega), f7 _ (by omega), ← h6, zcpi hi, e5]
    · rw [f10 _ (by omega), f9 _ (by omega), f8 _ (by omega), ← h7, zcpi hi, e6]
    · rw [f10 _ (by omega), f9 _ (by omega), ← h8, zcpi hi, e7]
    · rw [f10 _ (by omega), ← h9, zcpi hi, e8]
    · rw [← h10, zcpi hi, e9]
  · obtain ⟨-, -, -, -, -, -, -, -, -, -, e11, -⟩ := src k1 (by omega) (by omega)
    rw [zi (by decide), ← h14, zi (by decide), ← h13, zi (by decide), ← h12, zs, e11]
  · obtain ⟨-, -, -, -, -, -, -, -, -, -, -, e12, -⟩ := src k1 (by omega) (by omega)
    rw [zi (by decide), ← h14, zi (by decide), ← h13, zs, e12]
  · obtain ⟨-, -, -, -, -, -, -, -, -, -, -, -, e13, -⟩ := src k1 (by omega) (by omega)
    rw [zi (by decide), ← h14, zs, e13]
  · obtain ⟨-, -, -, -, -, -, -, -, -, -, -, -, -, e14⟩ := src k1 (by omega) (by omega)
    rw [zs, e14]
  · have hz0 : min (zhl k0) (zhl k1) = 0 := by omega
    have e10 : ρ10 (k0 + 12) = σ (k0 + 12) := by rw [f10 _ (by omega), f9 _ (by omega), f8 _ (by omega), f7 _ (by omega), f6 _ (by omega), f5 _ (by omega), f4 _ (by omega), f3 _ (by omega), f2 _ (by omega), f1 _ (by omega)]
    rw [zk (by omega), f14 _ (by omega), f13 _ (by omega), f12 _ (by omega), ← h11, hz0, ← e10]
    funext i
    exact if_neg (fun q => by omega)
  · have hz0 : min (zhl k0) (zhl k1) = 400 := by omega
    obtain ⟨-, -, -, -, -, -, -, -, -, e10, -⟩ := src (k1 + 12) (by omega) (by omega)
    rw [zk (by omega), f14 _ (by omega), f13 _ (by omega), f12 _ (by omega), ← h11, hz0, zcpi hi, e10]
end G15
