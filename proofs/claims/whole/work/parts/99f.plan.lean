/-! THE PLAN and the heap at the beginning -/
section ZIN
/-- a stream that has begun, nothing else there -/
noncomputable def zbeg (k : Nat) : zH := match f_Stream_begin (fun _ _ => 0) k 0 with
  | some r => r.1
  | none => fun _ _ => 0
/-- the heap at the beginning -/
noncomputable def zBG : zH := fun j i => if j = 0 then (if i = 11 then 384 else if i = 13 then 448 else if i = 12 then 512 else if i = 14 then 544 else if i = 16 then -1 else 0) else if j = 7 then (if i = 0 then 640 else 896) else if j = 32 then (if i = 1 then 448 else 0) else if j = 161 then ((192 + 32 * (min i 3) : Nat) : Int) else if zmem (32 * (j / 32)) (zids 8) = true ∧ j % 32 ≤ 12 then zbeg (32 * (j / 32)) j i else 0
theorem zI_str {k : Nat} (hk : k ∈ zids 8) {j : Nat} (h0 : k ≤ j) (h1 : j ≤ k + 12) : zBG j = zbeg k j := by
  have hk' : k = 96 ∨ k = 128 ∨ k = 192 ∨ k = 224 ∨ k = 256 ∨ k = 288 ∨ k = 768 ∨ k = 1024 := by simpa [zids] using hk
  have e : 32 * (j / 32) = k := by omega
  have e2 : j % 32 ≤ 12 := by omega
  have e3 : zmem k (zids 8) = true := by rcases hk' with rfl | rfl | rfl | rfl | rfl | rfl | rfl | rfl <;> rfl
  funext i
  unfold zBG
  rw [if_neg (by omega), if_neg (by omega), if_neg (by omega), if_neg (by omega), e, if_pos ⟨e3, e2⟩]
theorem zI_zero {j : Nat} (h0 : j ≠ 0 ∧ j ≠ 7 ∧ j ≠ 32 ∧ j ≠ 161) (h1 : ¬ (32 * (j / 32) ∈ zids 8) ∨ 12 < j % 32) : zBG j = fun _ => 0 := by
  funext i
  unfold zBG
  rw [if_neg h0.1, if_neg h0.2.1, if_neg h0.2.2.1, if_neg h0.2.2.2, if_neg]
  rintro ⟨q1, q2⟩
  rcases h1 with h1 | h1
  · exact h1 (zmem_iff q1)
  · omega
variable {ad ad' : Nat → Nat} {ct : Nat → ClassId} {σ σ' : zH} {P : zP} {lo hi : Nat}
/-- the cells of a plan name cells from lo on, ahead of hi -/
def zrng (lo hi : Nat) (P : zP) : Prop := ∀ e ∈ P, (lo ≤ e.1 ∧ e.1 < hi) ∧ (e.2.1 < 100 → e.1 + 1 + znf e.2.1 ≤ hi ∧ ∀ slot, slot < znf e.2.1 → (zfi e.2.1 slot).1 ≠ 3 ∧ ((zfi e.2.1 slot).1 = 4 → e.1 + (zfi e.2.1 slot).2.1 < hi)) ∧ e.2.1 ≠ 115 ∧ e.2.1 ≠ 118
theorem zw_cong (hP : zrng lo hi P) (h : ∀ j, lo ≤ j → j < hi → ad j = ad' j) (hσ : ∀ e ∈ P, σ e.1 = σ' e.1) : zw ad ct σ P = zw ad' ct σ' P := by
  unfold zw
  apply List.map_congr_left
  intro e he
  obtain ⟨⟨h1, h2⟩, h3, h4, h5⟩ := hP e he
  have es := hσ e he
  unfold zcell
  rw [h e.1 h1 h2]
  congr 1
  cases hb : Nat.blt e.2.1 100 with
  | true =>
    have hlt : e.2.1 < 100 := Nat.blt_eq.mp hb
    obtain ⟨h6, h7⟩ := h3 hlt
    dsimp only
    congr 2
    apply List.map_congr_left
    intro slot hs
    rw [List.mem_range] at hs
    obtain ⟨h8, h9⟩ := h7 slot hs
    unfold zfv
    rw [es]
    generalize hz : zfi e.2.1 slot = z at h8 h9 ⊢
    obtain ⟨z1, z2, z3⟩ := z
    match z1 with
    | 0 => rfl
    | 1 => rfl
    | 2 => rfl
    | 3 => exact absurd rfl h8
    | 4 => simp only; rw [h _ (by omega) (h9 rfl)]
    | n + 5 =>
      have hq : ad (e.1 + (1 + slot)) = ad' (e.1 + (1 + slot)) := h _ (by omega) (by omega)
      simp only
      rw [hq]
  | false =>
    dsimp only
    unfold zarr
    rw [es]
    split
    · rfl
    · exact absurd ‹_› h4
    · exact absurd ‹_› h5
    · rfl
theorem zrng_cons {e : Nat × Nat × Nat} (h : (lo ≤ e.1 ∧ e.1 < hi) ∧ (e.2.1 < 100 → e.1 + 1 + znf e.2.1 ≤ hi ∧ ∀ slot, slot < znf e.2.1 → (zfi e.2.1 slot).1 ≠ 3 ∧ ((zfi e.2.1 slot).1 = 4 → e.1 + (zfi e.2.1 slot).2.1 < hi)) ∧ e.2.1 ≠ 115 ∧ e.2.1 ≠ 118) (hP : zrng lo hi P) : zrng lo hi (e :: P) := List.forall_mem_cons.mpr ⟨h, hP⟩
theorem zrng_nil : zrng lo hi [] := fun _ h => by cases h
theorem zrng_app {P' : zP} (h : zrng lo hi P) (h' : zrng lo hi P') : zrng lo hi (P ++ P') := List.forall_mem_append.mpr ⟨h, h'⟩
theorem zrng_wide {lo' hi' : Nat} (h : zrng lo hi P) (h0 : lo' ≤ lo) (h1 : hi ≤ hi') : zrng lo' hi' P := fun e he => by
  obtain ⟨⟨q1, q2⟩, q3, q4⟩ := h e he
  exact ⟨⟨by omega, by omega⟩, fun hc => ⟨by have := (q3 hc).1; omega, fun s hs => ⟨((q3 hc).2 s hs).1, fun h4 => by have := ((q3 hc).2 s hs).2 h4; omega⟩⟩, q4⟩
theorem zrng_arr {k i kind len : Nat} (h0 : lo ≤ k + i) (h1 : k + i < hi) (h2 : 100 ≤ kind) (h3 : kind ≠ 115) (h4 : kind ≠ 118) : (lo ≤ ((k + i, kind, len) : Nat × Nat × Nat).1 ∧ ((k + i, kind, len) : Nat × Nat × Nat).1 < hi) ∧ (((k + i, kind, len) : Nat × Nat × Nat).2.1 < 100 → ((k + i, kind, len) : Nat × Nat × Nat).1 + 1 + znf ((k + i, kind, len) : Nat × Nat × Nat).2.1 ≤ hi ∧ ∀ slot, slot < znf ((k + i, kind, len) : Nat × Nat × Nat).2.1 → (zfi ((k + i, kind, len) : Nat × Nat × Nat).2.1 slot).1 ≠ 3 ∧ ((zfi ((k + i, kind, len) : Nat × Nat × Nat).2.1 slot).1 = 4 → ((k + i, kind, len) : Nat × Nat × Nat).1 + (zfi ((k + i, kind, len) : Nat × Nat × Nat).2.1 slot).2.1 < hi)) ∧ ((k + i, kind, len) : Nat × Nat × Nat).2.1 ≠ 115 ∧ ((k + i, kind, len) : Nat × Nat × Nat).2.1 ≠ 118 :=
  ⟨⟨h0, h1⟩, fun h => absurd h (Nat.not_lt.mpr h2), h3, h4⟩
/-- addresses by a list, then by another -/
theorem ex_ad (k n : Nat) (L : List Nat) (ad1 : Nat → Nat) : ∃ ad : Nat → Nat, (∀ i, i < n → ad (k + i) = L.getD i 0) ∧ ∀ j, k + n ≤ j → ad j = ad1 j :=
  ⟨fun j => if j < k + n then L.getD (j - k) 0 else ad1 j, fun i hi => by dsimp only; rw [if_pos (by omega), Nat.add_sub_cancel_left], fun j hj => by dsimp only; rw [if_neg (by omega)]⟩
end ZIN
