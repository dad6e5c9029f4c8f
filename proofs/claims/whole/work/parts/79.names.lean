/-! NAMES that are told, both sides -/
section G54
variable {σ τ σ' τ' σ2 τ2 : zH} {L mx a kn : Nat} {nm b : Nat → Int}
/-- a name that is told: sort, number -/
def Told (nm b : Nat → Int) (w : Int) (s m : Nat) : Prop := s < 4 ∧ (m : Int) < ncnt b s ∧ nm (nbase s + m) = w
theorem told_one (h : NamR σ kn nm b) {w : Int} {s m s' m' : Nat} (h1 : Told nm b w s m) (h2 : Told nm b w s' m') : s' = s ∧ m' = m := by
  obtain ⟨n, S, M, g1, g2, g3, g4, g5, g6⟩ := h
  obtain ⟨i, i1, i2, i3⟩ := g5 s m h1.1 h1.2.1
  obtain ⟨j, j1, j2, j3⟩ := g5 s' m' h2.1 h2.2.1
  have := g6 i j i1 j1 (by rw [i2, i3, j2, j3, h1.2.2, h2.2.2])
  subst this
  exact ⟨by rw [← j2, i2], by rw [← j3, i3]⟩
theorem c_find_l {n : Nat} {S M : Nat → Nat} {w : Int} (hn : n ≤ 30) (h3 : σ kn 3 = (n : Int)) (h1 : ∀ i, i < n → σ (kn + 1) i = nm (nbase (S i) + M i)) : ∀ r i : Nat, i + r = n → (∀ x, x < i → nm (nbase (S x) + M x) ≠ w) → (∃ x, x < n ∧ nm (nbase (S x) + M x) = w ∧ f_Names_find_2 σ kn w (i : Int) = some (σ, (x : Int))) ∨ ((∀ x, x < n → nm (nbase (S x) + M x) ≠ w) ∧ f_Names_find_2 σ kn w (i : Int) = some (σ, -1))
  | 0, i, hi, hx => Or.inr ⟨fun x q => hx x (by omega), by rw [e_Names_find_2, if_pos (by omega)]⟩
  | r + 1, i, hi, hx => by
    rw [e_Names_find_2, if_neg (by omega), if_pos (zin_t (by omega) (by omega)), show Int.toNat (i : Int) = i from rfl, h1 i (by omega)]
    by_cases hq : nm (nbase (S i) + M i) = w
    · rw [if_neg (fun x => x (zcmp_0.mpr hq))]
      exact Or.inl ⟨i, by omega, hq, rfl⟩
    · rw [if_pos (fun x => hq (zcmp_0.mp x)), w32_s (by omega)]
      exact c_find_l hn h3 h1 r (i + 1) (by omega) (fun x q => by
        by_cases hxi : x = i
        · rw [hxi]; exact hq
        · exact hx x (by omega))
theorem c_find (h : NamR σ kn nm b) (w : Int) : (∃ i s m : Nat, i < 30 ∧ Told nm b w s m ∧ f_Names_find σ kn w = some (σ, (i : Int)) ∧ σ (kn + 2) i = (s : Int) ∧ σ (kn + 3) i = (m : Int)) ∨ ((∀ s m, ¬ Told nm b w s m) ∧ f_Names_find σ kn w = some (σ, -1)) := by
  obtain ⟨n, S, M, g1, g2, g3, g4, g5, g6⟩ := h
  rw [e_Names_find]
  rcases c_find_l (σ := σ) (kn := kn) (w := w) g1 g2 (fun i hi => (g4 i hi).2.2.2.2) n 0 (by omega) (fun x q => absurd q (Nat.not_lt_zero x)) with ⟨x, x1, x2, x3⟩ | ⟨x1, x2⟩
  · obtain ⟨k1, k2, k3, k4, k5⟩ := g4 x x1
    exact Or.inl ⟨x, S x, M x, by omega, ⟨k1, k2, x2⟩, x3, k3, k4⟩
  · refine Or.inr ⟨fun s m hT => ?_, x2⟩
    obtain ⟨i, i1, i2, i3⟩ := g5 s m hT.1 hT.2.1
    exact x1 i i1 (by rw [i2, i3]; exact hT.2.2)
theorem m_find_l {f : Nat} {many w : Int} (hw : τ 0 17 = w) (hf : (f : Int) + many ≤ 60) : ∀ r i : Nat, (many.toNat : Nat) = i + r → (∀ x, x < i → τ 10 (f + x) ≠ w) → (∃ m : Nat, (m : Int) < many ∧ τ 10 (f + m) = w ∧ f_M_find_2 τ (f : Int) many (i : Int) = some (τ, (m : Int))) ∨ ((∀ m : Nat, (m : Int) < many → τ 10 (f + m) ≠ w) ∧ f_M_find_2 τ (f : Int) many (i : Int) = some (τ, -1))
  | 0, i, hi, hx => Or.inr ⟨fun x q => hx x (by omega), by rw [e_M_find_2, if_pos (by omega)]⟩
  | r + 1, i, hi, hx => by
    rw [e_M_find_2, if_neg (by omega), w32_id (x := (f : Int) + (i : Int)) (by omega) (by omega), if_pos (zin_t (by omega) (by omega)), show Int.toNat ((f : Int) + (i : Int)) = f + i by omega, hw]
    by_cases hq : τ 10 (f + i) = w
    · rw [if_neg (fun x => x (zcmp_0.mpr hq))]
      exact Or.inl ⟨i, by omega, hq, rfl⟩
    · rw [if_pos (fun x => hq (zcmp_0.mp x)), w32_s (by omega)]
      exact m_find_l hw hf r (i + 1) (by omega) (fun x q => by
        by_cases hxi : x = i
        · rw [hxi]; exact hq
        · exact hx x (by omega))
theorem m_find {f : Nat} {many : Int} (hf : (f : Int) + many ≤ 60) : (∃ m : Nat, (m : Int) < many ∧ τ 10 (f + m) = τ 0 17 ∧ f_M_find τ (f : Int) many = some (τ, (m : Int))) ∨ ((∀ m : Nat, (m : Int) < many → τ 10 (f + m) ≠ τ 0 17) ∧ f_M_find τ (f : Int) many = some (τ, -1)) := by
  rw [e_M_find]
  exact m_find_l rfl hf _ 0 (by rw [Nat.zero_add]) (fun x q => absurd q (Nat.not_lt_zero x))
theorem PS.name (h : PS σ τ L mx a) (hn : isNm σ) : τ 0 11 = 1 ∧ σ 64 8 = τ 0 17 := by
  unfold isNm at hn
  rcases h.tok with ⟨h1, h2, h3⟩ | ⟨h1, h2, h3⟩ | ⟨h1, h2, h3, h4⟩ | ⟨h1, h2, h3, h4⟩ | ⟨h1, h2, h3, h4⟩
  · exfalso; omega
  · exfalso; omega
  · exact ⟨h2, h3⟩
  · exfalso; omega
  · unfold isSgn at h1; exfalso; omega
/-- a name of a sort must stand here -/
theorem told_both (h : PS σ τ L mx a) (hv : ResR τ) {g : Nat} (hN : NamR σ kn (fun i => τ 10 (g + i)) b) (hc : wfC b) (hg : g = 0 ∨ g = 30) {s : Nat} (hs : s < 4) :
    (∃ m : Nat, (m : Int) < ncnt b s ∧ isNm σ ∧ τ 0 11 = 1 ∧ f_Tape_toldName σ kn (s : Int) = some (σ, (m : Int)) ∧ f_M_looksAt τ ((g + nbase s : Nat) : Int) (ncnt b s) = some (zset τ 0 18 (m : Int), 1)) ∨
    (∃ σ' τ', f_Tape_toldName σ kn (s : Int) = some (σ', -1) ∧ f_M_looksAt τ ((g + nbase s : Nat) : Int) (ncnt b s) = some (τ', 0) ∧ Bad σ τ σ' τ') := by
  obtain ⟨c0, c1, c2, c3, c4, c5⟩ := hc
  have hf : ((g + nbase s : Nat) : Int) + ncnt b s ≤ 60 := by
    have hs4 : s = 0 ∨ s = 1 ∨ s = 2 ∨ s = 3 := by omega
    rcases hs4 with rfl | rfl | rfl | rfl
    · show ((g + 0 : Nat) : Int) + b 0 ≤ 60; omega
    · show ((g + 10 : Nat) : Int) + b 1 ≤ 60; omega
    · show ((g + 18 : Nat) : Int) + b 2 ≤ 60; omega
    · show ((g + 24 : Nat) : Int) + b 4 ≤ 60; omega
  rw [e_Tape_toldName, e_M_looksAt, c_isName, m_isName hv h.tok, Option.bind_some, Option.bind_some]
  dsimp only
  by_cases hn : isNm σ
  · have hn' : σ 64 4 = 2 ∧ σ 64 6 = -1 := hn
    obtain ⟨n1, n2⟩ := h.name hn
    rw [if_pos hn', in10, in10]
    rcases c_find hN (σ 64 8) with ⟨i, s', m, i1, i2, i3, i4, i5⟩ | ⟨i1, i2⟩
    · rw [i3, Option.bind_some]
      dsimp only
      rw [if_neg (show ¬ (i : Int) = -1 by omega), if_pos (zin_t (by omega) (by omega)), show Int.toNat (i : Int) = i from rfl]
      simp only [i4, i5]
      by_cases hss : s' = s
      · subst hss
        rw [if_pos rfl, if_pos (zin_t (by omega) (by omega))]
        rcases m_find (τ := τ) hf with ⟨m', k1, k2, k3⟩ | ⟨k1, k2⟩
        · have hTm : Told (fun i => τ 10 (g + i)) b (σ 64 8) s' m' := ⟨hs, k1, by rw [n2, ← k2]; exact congrArg (τ 10) (by omega)⟩
          have hmm := (told_one hN i2 hTm).2
          subst hmm
          rw [k3, Option.bind_some]
          dsimp only
          rw [zs, if_pos (show 0 ≤ (m' : Int) by omega)]
          exact Or.inl ⟨m', k1, hn, n1, rfl, rfl⟩
        · exfalso
          refine k1 m i2.2.1 ?_
          rw [← n2, ← i2.2.2]
          exact congrArg (τ 10) (by omega)
      · rw [if_neg (show ¬ (s' : Int) = (s : Int) by omega)]
        rcases m_find (τ := τ) hf with ⟨m', k1, k2, k3⟩ | ⟨k1, k2⟩
        · exfalso
          have hTm : Told (fun i => τ 10 (g + i)) b (σ 64 8) s m' := ⟨hs, k1, by rw [n2, ← k2]; exact congrArg (τ 10) (by omega)⟩
          exact hss (told_one hN i2 hTm).1.symm
        · obtain ⟨σ', τ', a1, a2, a3, a4, a5⟩ := bad_both (h.fr (σ' := σ) (τ' := zset τ 0 18 (-1)) (fun _ _ => rfl) rfl (fun i hi => zi (by omega)) (zk (by decide))) 3
          rw [a1, k2, Option.bind_some, Option.bind_some]
          dsimp only
          rw [zs, if_neg (show ¬ (0 : Int) ≤ -1 by decide), a2, Option.bind_some]
          exact Or.inr ⟨σ', τ', rfl, rfl, a3, (FwM.set (by omega)).trans a4, a5⟩
    · rw [i2, Option.bind_some]
      dsimp only
      rw [if_pos rfl]
      rcases m_find (τ := τ) hf with ⟨m', k1, k2, k3⟩ | ⟨k1, k2⟩
      · exfalso
        exact i1 s m' ⟨hs, k1, by rw [n2, ← k2]; exact congrArg (τ 10) (by omega)⟩
      · obtain ⟨σ', τ', a1, a2, a3, a4, a5⟩ := bad_both (h.fr (σ' := σ) (τ' := zset τ 0 18 (-1)) (fun _ _ => rfl) rfl (fun i hi => zi (by omega)) (zk (by decide))) 3
        rw [a1, k2, Option.bind_some, Option.bind_some]
        dsimp only
        rw [zs, if_neg (show ¬ (0 : Int) ≤ -1 by decide), a2, Option.bind_some]
        exact Or.inr ⟨σ', τ', rfl, rfl, a3, (FwM.set (by omega)).trans a4, a5⟩
  · have hn' : ¬ (σ 64 4 = 2 ∧ σ 64 6 = -1) := hn
    obtain ⟨σ', τ', a1, a2, a3⟩ := bad_both h 1
    rw [if_neg hn', in00, in00, a1, a2]
    exact Or.inr ⟨σ', τ', rfl, rfl, a3⟩
/-- a new name must stand here; the reference goes behind it -/
theorem new_both (h : PS σ τ L mx a) (hv : ResR τ) (hN : NamR σ kn (fun i => τ 10 (30 + i)) (τ 8)) (hc : wfC (τ 8)) {to : Nat} (ht : to < 60) :
    (isNm σ ∧ τ 0 11 = 1 ∧ (∀ s m, ¬ Told (fun i => τ 10 (30 + i)) (τ 8) (σ 64 8) s m) ∧ f_Tape_isNewName σ kn = some (σ, 1) ∧ f_M_fresh τ (to : Int) = (f_M_next (zset τ 10 to (σ 64 8))).bind (fun r => some (r.1, 1))) ∨
    (∃ σ' τ', f_Tape_isNewName σ kn = some (σ', 0) ∧ f_M_fresh τ (to : Int) = some (τ', 0) ∧ Bad σ τ σ' τ') := by
  obtain ⟨c0, c1, c2, c3, c4, c5⟩ := hc
  rw [e_Tape_isNewName, e_M_fresh, c_isName, m_isName hv h.tok, Option.bind_some, Option.bind_some]
  dsimp only
  by_cases hn : isNm σ
  · have hn' : σ 64 4 = 2 ∧ σ 64 6 = -1 := hn
    obtain ⟨n1, n2⟩ := h.name hn
    obtain ⟨σ', τ', a1, a2, a3⟩ := bad_both h 3
    have f0 := m_find (τ := τ) (f := 30) (many := τ 8 0) (by omega)
    have f1 := m_find (τ := τ) (f := 40) (many := τ 8 1) (by omega)
    have f2 := m_find (τ := τ) (f := 48) (many := τ 8 2) (by omega)
    have f3 := m_find (τ := τ) (f := 54) (many := τ 8 4) (by omega)
    rw [if_pos hn', in10, in10]
    rcases f0 with ⟨m, m1, m2, m3⟩ | ⟨m1, m2⟩
    · have m3' : f_M_find τ 30 (τ 8 0) = some (τ, (m : Int)) := m3
      rcases c_find hN (σ 64 8) with ⟨i, s', m', i1, i2, i3, i4, i5⟩ | ⟨i1, i2⟩
      · rw [i3, m3', Option.bind_some, Option.bind_some]
        dsimp only
        rw [if_neg (show ¬ (i : Int) = -1 by omega), if_pos (show 0 ≤ (m : Int) by omega), a1, a2]
        exact Or.inr ⟨σ', τ', rfl, rfl, a3⟩
      · exact absurd ⟨show 0 < 4 by decide, m1, by rw [n2, ← m2]; exact congrArg (τ 10) (by show 30 + (0 + m) = 30 + m; omega)⟩ (i1 0 m)
    · have m2' : f_M_find τ 30 (τ 8 0) = some (τ, -1) := m2
      rw [m2', Option.bind_some]
      dsimp only
      rw [if_neg (show ¬ (0 : Int) ≤ -1 by decide)]
      rcases f1 with ⟨m, l1, l2, l3⟩ | ⟨l1, l2⟩
      · have l3' : f_M_find τ 40 (τ 8 1) = some (τ, (m : Int)) := l3
        rcases c_find hN (σ 64 8) with ⟨i, s', m', i1, i2, i3, i4, i5⟩ | ⟨i1, i2⟩
        · rw [i3, l3', Option.bind_some, Option.bind_some]
          dsimp only
          rw [if_neg (show ¬ (i : Int) = -1 by omega), if_pos (show 0 ≤ (m : Int) by omega), a1, a2]
          exact Or.inr ⟨σ', τ', rfl, rfl, a3⟩
        · exact absurd ⟨show 1 < 4 by decide, l1, by rw [n2, ← l2]; exact congrArg (τ 10) (by show 30 + (10 + m) = 40 + m; omega)⟩ (i1 1 m)
      · have l2' : f_M_find τ 40 (τ 8 1) = some (τ, -1) := l2
        rw [l2', Option.bind_some]
        dsimp only
        rw [if_neg (show ¬ (0 : Int) ≤ -1 by decide)]
        rcases f2 with ⟨m, o1, o2, o3⟩ | ⟨o1, o2⟩
        · have o3' : f_M_find τ 48 (τ 8 2) = some (τ, (m : Int)) := o3
          rcases c_find hN (σ 64 8) with ⟨i, s', m', i1, i2, i3, i4, i5⟩ | ⟨i1, i2⟩
          · rw [i3, o3', Option.bind_some, Option.bind_some]
            dsimp only
            rw [if_neg (show ¬ (i : Int) = -1 by omega), if_pos (show 0 ≤ (m : Int) by omega), a1, a2]
            exact Or.inr ⟨σ', τ', rfl, rfl, a3⟩
          · exact absurd ⟨show 2 < 4 by decide, o1, by rw [n2, ← o2]; exact congrArg (τ 10) (by show 30 + (18 + m) = 48 + m; omega)⟩ (i1 2 m)
        · have o2' : f_M_find τ 48 (τ 8 2) = some (τ, -1) := o2
          rw [o2', Option.bind_some]
          dsimp only
          rw [if_neg (show ¬ (0 : Int) ≤ -1 by decide)]
          rcases f3 with ⟨m, p1, p2, p3⟩ | ⟨p1, p2⟩
          · have p3' : f_M_find τ 54 (τ 8 4) = some (τ, (m : Int)) := p3
            rcases c_find hN (σ 64 8) with ⟨i, s', m', i1, i2, i3, i4, i5⟩ | ⟨i1, i2⟩
            · rw [i3, p3', Option.bind_some, Option.bind_some]
              dsimp only
              rw [if_neg (show ¬ (i : Int) = -1 by omega), if_neg (show ¬ (m : Int) < 0 by omega), a1, a2]
              exact Or.inr ⟨σ', τ', rfl, rfl, a3⟩
            · exact absurd ⟨show 3 < 4 by decide, p1, by rw [n2, ← p2]; exact congrArg (τ 10) (by show 30 + (24 + m) = 54 + m; omega)⟩ (i1 3 m)
          · have p2' : f_M_find τ 54 (τ 8 4) = some (τ, -1) := p2
            rw [p2', Option.bind_some]
            dsimp only
            rw [if_pos (show (-1 : Int) < 0 by decide), if_pos (zin_t (by omega) (by omega)), show Int.toNat (to : Int) = to from rfl, ← n2]
            have hno : ∀ s m, ¬ Told (fun i => τ 10 (30 + i)) (τ 8) (σ 64 8) s m := by
              intro s m ⟨t1, t2, t3⟩
              have hs4 : s = 0 ∨ s = 1 ∨ s = 2 ∨ s = 3 := by omega
              rcases hs4 with rfl | rfl | rfl | rfl
              · exact m1 m t2 (by rw [← n2, ← t3]; exact congrArg (τ 10) (by show 30 + m = 30 + (0 + m); omega))
              · exact l1 m t2 (by rw [← n2, ← t3]; exact congrArg (τ 10) (by show 40 + m = 30 + (10 + m); omega))
              · exact o1 m t2 (by rw [← n2, ← t3]; exact congrArg (τ 10) (by show 48 + m = 30 + (18 + m); omega))
              · exact p1 m t2 (by rw [← n2, ← t3]; exact congrArg (τ 10) (by show 54 + m = 30 + (24 + m); omega))
            rcases c_find hN (σ 64 8) with ⟨i, s', m', i1, i2, i3, i4, i5⟩ | ⟨i1, i2⟩
            · exact absurd i2 (hno s' m')
            · rw [i2, Option.bind_some]
              dsimp only
              rw [if_pos rfl]
              exact Or.inl ⟨hn, n1, hno, rfl, rfl⟩
  · have hn' : ¬ (σ 64 4 = 2 ∧ σ 64 6 = -1) := hn
    obtain ⟨σ', τ', a1, a2, a3⟩ := bad_both h 1
    rw [if_neg hn', in00, in00, a1, a2]
    exact Or.inr ⟨σ', τ', rfl, rfl, a3⟩
end G54
