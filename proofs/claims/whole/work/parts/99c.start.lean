/-! BOTH SIDES AT THE BEGINNING -/
section G76
variable {σ τ : zH}
theorem rel_start (r11 : σ 0 11 = 384) (r13 : σ 0 13 = 448) (r12 : σ 0 12 = 512) (r14 : σ 0 14 = 544) (r15 : σ 0 15 = 0) (r16 : σ 0 16 = -1) (r17 : σ 0 17 = 0) (i0 : σ 7 0 = 640) (i1 : σ 7 1 = 896) (t1 : σ 64 1 = 0) (a1 : σ 160 1 = 0) (ap : ∀ i, i < 4 → σ 161 i = ((192 + 32 * i : Nat) : Int)) (b4 : σ 320 4 = 0) (lc : ∀ i, 13 ≤ i → i ≤ 18 → σ 384 i = 0) (ln : σ 416 3 = 0) (hS : StrR σ 96 (τ 7) 0) (q3 : σ 512 3 = 0) (q4 : σ 512 4 = 0) (g0 : σ 640 3 = 0) (g1 : σ 896 3 = 0) (m0 : ∀ i, i = 2 ∨ i = 15 ∨ i = 23 ∨ i = 27 ∨ i = 31 ∨ i = 32 ∨ i = 35 → τ 0 i = 0) (m7 : ∀ j, j < 2959 → τ 7 j = 0) (k0 : τ 46 0 = 0) (k1 : τ 46 1 = 0) (hV : ResR τ) : Rel σ τ := by
  have v0 := m7 0 (by omega)
  have v1 := m7 1 (by omega)
  have v2 := m7 2 (by omega)
  have v3 := m7 3 (by omega)
  have v4 := m7 4 (by omega)
  have v5 := m7 5 (by omega)
  refine ⟨384, 512, 0, ⟨Or.inl rfl, r11, r13⟩, ⟨Or.inl rfl, r12, r14⟩, ?_, ?_, ?_, hS, fun e he => absurd he (Nat.not_lt_zero e), ?_, ?_, ?_, ?_, ?_, ?_, hV⟩
  · refine ⟨⟨by rw [lc 13 (by omega) (by omega), v0], by rw [lc 14 (by omega) (by omega), v1], by rw [lc 15 (by omega) (by omega), v2], by rw [lc 16 (by omega) (by omega), v3], by rw [lc 17 (by omega) (by omega), v4], by rw [lc 18 (by omega) (by omega), v5]⟩, fun t t0 t1 => by omega, fun t t0 t1 => by omega, fun t t0 t1 => by omega, fun t t0 t1 => by omega⟩
  · exact ⟨⟨by omega, by omega, by omega, by omega, by omega, by omega⟩, fun t t0 t1 => by omega, fun r r0 r1 => by omega, fun r j r0 r1 => by omega, ⟨fun q q0 q1 => by omega, fun q1 q2 p0 p1 p2 => by omega⟩, ⟨fun e e0 e1 => by omega, fun e f e0 e1 e2 => by omega, fun e t e0 e1 => by omega⟩, ⟨fun t t0 t1 => by omega, fun t m t0 t1 => by omega⟩⟩
  · refine ⟨0, fun _ => 0, fun _ => 0, by omega, ln, by rw [v0, v1, v2, v4]; rfl, fun i hi => absurd hi (Nat.not_lt_zero i), fun s m hs hm => ?_, fun i j hi => absurd hi (Nat.not_lt_zero i)⟩
    exfalso
    unfold ncnt at hm
    rw [v0, v1, v2, v4] at hm
    simp at hm
    omega
  · refine ⟨0, fun i => 192 + 32 * i, fun _ => 0, by omega, by rw [a1]; rfl, by rw [m0 23 (by omega)]; rfl, ⟨fun i hi => ⟨ap i hi, ?_⟩, fun i j hi hj he => by dsimp only at he; omega⟩, fun i hi => absurd hi (Nat.not_lt_zero i), fun i j _ hi => absurd hi (Nat.not_lt_zero i)⟩
    show isAct (192 + 32 * i)
    unfold isAct
    omega
  · exact ⟨0, by omega, t1, by rw [m0 2 (by omega)]; rfl, fun i hi => absurd hi (Nat.not_lt_zero i)⟩
  · unfold MisR
    refine ⟨by rw [r17, m0 15 (by omega)], ⟨0, by omega, r15, by rw [m0 27 (by omega)]; rfl, fun i hi => absurd hi (Nat.not_lt_zero i)⟩, by rw [r16, m0 32 (by omega), if_pos rfl], ⟨by rw [b4, m0 35 (by omega)], Or.inl (m0 35 (by omega))⟩, i0, i1⟩
  · refine ⟨0, by omega, m7 2778 (by omega), q3, ⟨fun _ => rfl, fun _ => q4⟩, fun i hi => absurd hi (Nat.not_lt_zero i), fun i hi => ?_, fun hi => absurd hi (Nat.lt_irrefl 0)⟩
    have : i = 0 := by omega
    subst this
    show (0 : Int) ≤ 20
    decide
  · exact Or.inl ⟨k0, g0⟩
  · exact Or.inl ⟨k1, g1⟩
/-- a stream begins, any of them -/
theorem c_begin_any {k : Nat} : ∃ σ', f_Stream_begin σ k 0 = some (σ', 0) ∧ ∀ j, ¬ (k ≤ j ∧ j ≤ k + 11) → σ' j = σ j := by
  rw [e_Stream_begin]
  simp only [c_jfill (show (72 : Nat) ≤ 1000 by decide), c_jfill (show (6 : Nat) ≤ 1000 by decide), Option.bind_some]
  refine ⟨_, rfl, fun j hj => ?_⟩
  rw [zk (by omega), zk (by omega), zk (by omega), zk (by omega), fl_ne (by omega), fl_ne (by omega), fl_ne (by omega), fl_ne (by omega), fl_ne (by omega), fl_ne (by omega), fl_ne (by omega), fl_ne (by omega), fl_ne (by omega), fl_ne (by omega)]
end G76
