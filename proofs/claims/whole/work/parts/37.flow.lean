/-! A DAY, its first half: all terms go on, some meet -/
section G7
variable {σ τ : zH} {k : Nat} {a : Nat → Int}
/-- what is at the last place of a reach -/
def lst (a : Nat → Int) (q : Int) : Int := a (Int.toNat (306 + 9 * q + (a (Int.toNat (16 + q)) - 1)))
/-- what comes first to a reach out of the first n -/
def fst' (a : Nat → Int) (r : Int) : Nat → Int
  | 0 => 0
  | n + 1 => if a (Int.toNat (24 + (n : Int))) = r ∧ lst a n ≠ 0 ∧ fst' a r n = 0 then lst a n else fst' a r n
def cls (a : Nat → Int) (r : Int) : Nat → Int
  | 0 => 0
  | n + 1 => cls a r n + (if a (Int.toNat (24 + (n : Int))) = r ∧ lst a n ≠ 0 ∧ fst' a r n ≠ 0 ∧ lst a n ≠ fst' a r n then 1 else 0)
def seac (a : Nat → Int) : Nat → Int
  | 0 => 0
  | n + 1 => seac a n + (if a (Int.toNat (24 + (n : Int))) < 0 ∧ 0 < lst a n then 1 else 0)
/-- clashes at the first i reaches -/
def clsum (a : Nat → Int) (n : Nat) : Nat → Int
  | 0 => 0
  | i + 1 => clsum a n i + cls a i n
theorem clsum_step (n : Nat) : ∀ i : Nat, clsum a (n + 1) i = clsum a n i + (if (0 ≤ a (Int.toNat (24 + (n : Int))) ∧ a (Int.toNat (24 + (n : Int))) < i) ∧ lst a n ≠ 0 ∧ fst' a (a (Int.toNat (24 + (n : Int)))) n ≠ 0 ∧ lst a n ≠ fst' a (a (Int.toNat (24 + (n : Int)))) n then 1 else 0)
  | 0 => by
    rw [if_neg (by omega)]
    rfl
  | i + 1 => by
    rw [clsum, clsum_step n i, clsum, cls]
    by_cases he : a (Int.toNat (24 + (n : Int))) = i
    · rw [he, if_neg (show ¬ ((0 ≤ (i : Int) ∧ (i : Int) < i) ∧ lst a n ≠ 0 ∧ fst' a i n ≠ 0 ∧ lst a n ≠ fst' a i n) from fun q => by omega)]
      rw [show (if (i : Int) = i ∧ lst a n ≠ 0 ∧ fst' a i n ≠ 0 ∧ lst a n ≠ fst' a i n then (1 : Int) else 0) = (if (0 ≤ (i : Int) ∧ (i : Int) < (i + 1 : Nat)) ∧ lst a n ≠ 0 ∧ fst' a i n ≠ 0 ∧ lst a n ≠ fst' a i n then 1 else 0) from ifc (by
        constructor
        · rintro ⟨-, h⟩; exact ⟨⟨by omega, by omega⟩, h⟩
        · rintro ⟨-, h⟩; exact ⟨rfl, h⟩)]
      omega
    · rw [if_neg (show ¬ (a (Int.toNat (24 + (n : Int))) = i ∧ lst a n ≠ 0 ∧ fst' a i n ≠ 0 ∧ lst a n ≠ fst' a i n) from fun q => he q.1)]
      rw [show (if (0 ≤ a (Int.toNat (24 + (n : Int))) ∧ a (Int.toNat (24 + (n : Int))) < i) ∧ lst a n ≠ 0 ∧ fst' a (a (Int.toNat (24 + (n : Int)))) n ≠ 0 ∧ lst a n ≠ fst' a (a (Int.toNat (24 + (n : Int)))) n then (1 : Int) else 0) = (if (0 ≤ a (Int.toNat (24 + (n : Int))) ∧ a (Int.toNat (24 + (n : Int))) < (i + 1 : Nat)) ∧ lst a n ≠ 0 ∧ fst' a (a (Int.toNat (24 + (n : Int)))) n ≠ 0 ∧ lst a n ≠ fst' a (a (Int.toNat (24 + (n : Int)))) n then 1 else 0) from ifc (by
        constructor
        · rintro ⟨h1, h⟩; exact ⟨⟨by omega, by omega⟩, h⟩
        · rintro ⟨h1, h⟩; exact ⟨⟨by omega, by omega⟩, h⟩)]
      omega
theorem clsum_0 : ∀ i : Nat, clsum a 0 i = 0
  | 0 => rfl
  | i + 1 => by rw [clsum, clsum_0 i]; rfl
theorem clsum_in (i : Nat) : ∀ n : Nat, 0 ≤ clsum a n i ∧ clsum a n i ≤ n
  | 0 => by rw [clsum_0]; omega
  | n + 1 => by
    have := clsum_in i n
    rw [clsum_step]
    split <;> omega
theorem seac_in : ∀ n : Nat, 0 ≤ seac a n ∧ seac a n ≤ n
  | 0 => by simp [seac]
  | n + 1 => by
    have := seac_in n
    rw [seac]
    split <;> omega
/-- the cells of the reference are in range -/
def CellA (a : Nat → Int) : Prop := ∀ r p : Int, 0 ≤ r → r < a 1 → 0 ≤ p → p < a (Int.toNat (16 + r)) → 0 ≤ a (Int.toNat (306 + 9 * r + p)) ∧ a (Int.toNat (306 + 9 * r + p)) ≤ a 0
theorem lst_in (hw : wfL a) (hA : CellA a) {q : Int} (h0 : 0 ≤ q) (h1 : q < a 1) : 0 ≤ lst a q ∧ lst a q ≤ a 0 := by
  have hr := hw.2.2.1 q h0 h1
  exact hA q _ h0 h1 (by omega) (by omega)
theorem fst_in (hw : wfL a) (hA : CellA a) (r : Int) : ∀ n : Nat, (n : Int) ≤ a 1 → 0 ≤ fst' a r n ∧ fst' a r n ≤ a 0
  | 0, _ => by have := hw.1.1; simp only [fst']; omega
  | n + 1, h => by
    have h1 := fst_in hw hA r n (by omega)
    have h2 := lst_in hw hA (q := (n : Int)) (by omega) (by omega)
    rw [fst']
    split <;> omega
/-- the reference: what comes to a reach that says nothing -/
theorem m_comes_in (hw : wfL a) (hA : CellA a) {r : Int} {b : Nat → Int} (hb : ∀ j : Nat, j < 288 → b j = a j) (hcell : ∀ j : Nat, j < 72 → τ 21 j = a (306 + j)) : ∀ (n q : Nat) (σ : zH), (a 1 : Int) ≤ q + n → (q : Int) ≤ a 1 → (∀ k, k ≠ 7 → σ k = τ k) → (∀ j, j ≠ 289 → σ 7 j = b j) → σ 7 289 = b 289 + cls a r q → 0 ≤ b 289 → b 289 ≤ 1000000 → (0 ≤ cls a r q ∧ cls a r q ≤ q) →
    ∃ σ', f_M_comesTo_32 σ r (fst' a r q) (q : Int) = some (σ', fst' a r (a 1).toNat) ∧ (∀ k, k ≠ 7 → σ' k = τ k) ∧ (∀ j, j ≠ 289 → σ' 7 j = b j) ∧ σ' 7 289 = b 289 + cls a r (a 1).toNat := by
  have hc := hw.1.2.1
  have hct := hw.1.1
  intro n
  induction n with
  | zero =>
    intro q σ g1 g2 s1 s2 s3 s4 s5 s6
    have hq : (a 1).toNat = q := by omega
    rw [hq]
    refine ⟨σ, ?_, s1, s2, s3⟩
    rw [e_M_comesTo_32, s2 1 (by decide), hb 1 (by decide), if_pos (by omega)]
  | succ n ih =>
    intro q σ g1 g2 s1 s2 s3 s4 s5 s6
    by_cases hq : a 1 ≤ (q : Int)
    · have hq' : (a 1).toNat = q := by omega
      rw [hq']
      refine ⟨σ, ?_, s1, s2, s3⟩
      rw [e_M_comesTo_32, s2 1 (by decide), hb 1 (by decide), if_pos hq]
    · have hr := hw.2.2.1 q (by omega) (by omega)
      have hl := lst_in hw hA (q := (q : Int)) (by omega) (by omega)
      have hf := fst_in hw hA r q (by omega)
      have e24 : σ 7 (Int.toNat (24 + (q : Int))) = a (Int.toNat (24 + (q : Int))) := by rw [s2 _ (by omega), hb _ (by omega)]
      have e16 : σ 7 (Int.toNat (16 + (q : Int))) = a (Int.toNat (16 + (q : Int))) := by rw [s2 _ (by omega), hb _ (by omega)]
      have e21 : σ 21 (Int.toNat (9 * (q : Int) + a (Int.toNat (16 + (q : Int))) - 1)) = lst a q := by
        rw [s1 21 (by decide), hcell _ (by omega)]
        unfold lst
        congr 1
        omega
      rw [e_M_comesTo_32, s2 1 (by decide), hb 1 (by decide), if_neg hq]
      simp (disch := omega) only [w32_id, zin_t, if_true, ifn, e24, e16, e21]
      -- what the next number sees
      have go : ∀ v : Int, (v = if a (Int.toNat (24 + (q : Int))) = r then lst a q else 0) → ∃ σ', f_M_comesTo_80 σ r (fst' a r q) (q : Int) v = some (σ', fst' a r (a 1).toNat) ∧ (∀ k, k ≠ 7 → σ' k = τ k) ∧ (∀ j, j ≠ 289 → σ' 7 j = b j) ∧ σ' 7 289 = b 289 + cls a r (a 1).toNat := by
        intro v hv
        rw [e_M_comesTo_80]
        simp only [ifn]
        rw [w32_s (by omega)]
        by_cases hv0 : v = 0
        · rw [if_pos hv0]
          have hno : ¬ (a (Int.toNat (24 + (q : Int))) = r ∧ lst a q ≠ 0) := by
            rintro ⟨h1, h2⟩
            rw [if_pos h1] at hv
            omega
          have f1 : fst' a r (q + 1) = fst' a r q := by rw [fst', if_neg (fun h => hno ⟨h.1, h.2.1⟩)]
          have c1 : cls a r (q + 1) = cls a r q := by rw [cls, if_neg (fun h => hno ⟨h.1, h.2.1⟩)]; omega
          have := ih (q + 1) σ (by omega) (by omega) s1 s2 (by rw [c1]; exact s3) s4 s5 (by rw [c1]; omega)
          rw [f1] at this
          exact this
        · rw [if_neg hv0]
          have hyes : a (Int.toNat (24 + (q : Int))) = r ∧ lst a q = v := by
            by_cases h1 : a (Int.toNat (24 + (q : Int))) = r
            · rw [if_pos h1] at hv; exact ⟨h1, hv.symm⟩
            · rw [if_neg h1] at hv; exact absurd hv hv0
          by_cases hf0 : fst' a r q = 0
          · rw [hf0, if_pos (by decide), if_pos rfl]
            have f1 : fst' a r (q + 1) = v := by rw [fst', if_pos ⟨hyes.1, by omega, hf0⟩]; exact hyes.2
            have c1 : cls a r (q + 1) = cls a r q := by rw [cls, if_neg (fun h => h.2.2.1 hf0)]; omega
            have := ih (q + 1) σ (by omega) (by omega) s1 s2 (by rw [c1]; exact s3) s4 s5 (by rw [c1]; omega)
            rw [f1] at this
            exact this
          · have f1 : fst' a r (q + 1) = fst' a r q := by rw [fst', if_neg (fun h => hf0 h.2.2)]
            rw [if_neg (show ¬ fst' a r q ≤ 0 by omega)]
            by_cases hvv : v = fst' a r q
            · rw [if_pos hvv, if_neg hf0]
              have c1 : cls a r (q + 1) = cls a r q := by rw [cls, if_neg (fun h => h.2.2.2 (by rw [hyes.2]; exact hvv))]; omega
              have := ih (q + 1) σ (by omega) (by omega) s1 s2 (by rw [c1]; exact s3) s4 s5 (by rw [c1]; omega)
              rw [f1] at this
              exact this
            · rw [if_neg hvv, if_neg hf0]
              have c1 : cls a r (q + 1) = cls a r q + 1 := by rw [cls, if_pos ⟨hyes.1, by omega, hf0, by rw [hyes.2]; exact hvv⟩]
              have := ih (q + 1) (zset σ 7 289 (w32 (σ 7 289 + 1))) (by omega) (by omega) (fun k hk => by rw [zk hk]; exact s1 k hk) (fun j hj => by rw [zi hj]; exact s2 j hj) (by rw [zs, w32_id (by omega) (by omega), c1]; omega) s4 s5 (by rw [c1]; omega)
              rw [f1] at this
              exact this
      by_cases h1 : a (Int.toNat (24 + (q : Int))) = r
      · rw [if_pos h1]
        exact go _ (by rw [if_pos h1])
      · rw [if_neg h1]
        exact go _ (by rw [if_neg h1])
end G7
