/-! A SENTENCE is read: codes, what is pending, a stack of signs -/
section G71
variable {σ τ σ' τ' σ1 τ1 : zH} {q k L ax n m D o N f dp : Nat} {a c : Nat → Int}
def FsC (q : Nat) (σ σ' : zH) : Prop := ∀ j i, ¬ (j = 64 ∧ 3 ≤ i) → ¬ (q ≤ j ∧ j < q + 4) → σ' j i = σ j i
def FsM (τ τ' : zH) : Prop := ∀ j i, ¬ (j = 0 ∧ (i = 4 ∨ (11 ≤ i ∧ i ≤ 18) ∨ (37 ≤ i ∧ i ≤ 41))) → j ≠ 9 → j ≠ 37 → τ' j i = τ j i
theorem FsC.trans (h : FsC q σ σ1) (g : FsC q σ1 σ') : FsC q σ σ' := fun j i h1 h2 => by rw [g j i h1 h2, h j i h1 h2]
theorem FsM.trans (h : FsM τ τ1) (g : FsM τ1 τ') : FsM τ τ' := fun j i h1 h2 h3 => by rw [g j i h1 h2 h3, h j i h1 h2 h3]
theorem FwC.s (h : FwC σ σ') : FsC q σ σ' := fun j i h1 _ => h j i h1
theorem FwM.s (h : FwM τ τ') : FsM τ τ' := fun j i h1 _ _ => h j i (by omega)
theorem FsC.refl : FsC q σ σ := fun _ _ _ _ => rfl
theorem FsM.refl : FsM τ τ := fun _ _ _ _ _ => rfl
theorem FsC.set {j i : Nat} {v : Int} (h : q ≤ j ∧ j < q + 4) : FsC q σ (zset σ j i v) := fun j' i' h1 h2 => by rw [zk (show j' ≠ j by omega)]
theorem FsM.set {i : Nat} {v : Int} (h : 37 ≤ i ∧ i ≤ 41) : FsM τ (zset τ 0 i v) := fun j' i' h1 h2 h3 => by
  by_cases j0 : j' = 0
  · subst j0; rw [zi (by omega)]
  · rw [zk j0]
theorem FsM.s37 {i : Nat} {v : Int} : FsM τ (zset τ 37 i v) := fun j' i' h1 h2 h3 => by rw [zk h3]
/-- the reference's stack and codes alone -/
def FkM (τ τ' : zH) : Prop := ∀ j i, ¬ (j = 0 ∧ 37 ≤ i ∧ i ≤ 40) → j ≠ 9 → τ' j i = τ j i
theorem FkM.trans (h : FkM τ τ1) (g : FkM τ1 τ') : FkM τ τ' := fun j i h1 h2 => by rw [g j i h1 h2, h j i h1 h2]
theorem FkM.s (h : FkM τ τ') : FsM τ τ' := fun j i h1 h2 _ => h j i (by omega) h2
theorem FkM.refl : FkM τ τ := fun _ _ _ _ => rfl
def mcd (τ : zH) (m : Nat) (x y z : Int) : zH := zset (zset (zset (zset τ 9 (3 * m) x) 9 (3 * m + 1) y) 9 (3 * m + 2) z) 0 37 ((m + 1 : Nat) : Int)
theorem mcd_ne {j i : Nat} {x y z : Int} (h0 : ¬ (j = 0 ∧ i = 37)) (h9 : j ≠ 9) : mcd τ m x y z j i = τ j i := by
  unfold mcd
  by_cases j0 : j = 0
  · subst j0; rw [zi (by omega), zk h9, zk h9, zk h9]
  · rw [zk j0, zk h9, zk h9, zk h9]
theorem mcd_9 {i : Nat} {x y z : Int} : mcd τ m x y z 9 i = if i = 3 * m + 2 then z else if i = 3 * m + 1 then y else if i = 3 * m then x else τ 9 i := by
  unfold mcd
  rw [zk (by decide)]
  by_cases h2 : i = 3 * m + 2
  · rw [if_pos h2, h2, zs]
  · rw [if_neg h2, zi h2]
    by_cases h1 : i = 3 * m + 1
    · rw [if_pos h1, h1, zs]
    · rw [if_neg h1, zi h1]
      by_cases h0 : i = 3 * m
      · rw [if_pos h0, h0, zs]
      · rw [if_neg h0, zi h0]
theorem mcd_37 {x y z : Int} : mcd τ m x y z 0 37 = ((m + 1 : Nat) : Int) := by unfold mcd; rw [zs]
theorem mcd_k {x y z : Int} : FkM τ (mcd τ m x y z) := fun j i h1 h2 => mcd_ne (by omega) h2
theorem m_code (h : τ 0 37 = (m : Int)) (hm : m < 45) (x y z : Int) : f_M_code τ x y z = some (mcd τ m x y z, 0) := by
  have e1 : zset τ 9 (3 * m) x 0 37 = (m : Int) := by rw [zk (by decide)]; exact h
  have e2 : zset (zset τ 9 (3 * m) x) 9 (3 * m + 1) y 0 37 = (m : Int) := by rw [zk (by decide)]; exact e1
  have e3 : zset (zset (zset τ 9 (3 * m) x) 9 (3 * m + 1) y) 9 (3 * m + 2) z 0 37 = (m : Int) := by rw [zk (by decide)]; exact e2
  have i0 : w32 (3 * (m : Int)) = ((3 * m : Nat) : Int) := by rw [w32_id (by omega) (by omega)]; omega
  have i1 : w32 (((3 * m : Nat) : Int) + 1) = ((3 * m + 1 : Nat) : Int) := by rw [w32_id (by omega) (by omega)]; omega
  have i2 : w32 (((3 * m : Nat) : Int) + 2) = ((3 * m + 2 : Nat) : Int) := by rw [w32_id (by omega) (by omega)]; omega
  have z0 : zin ((3 * m : Nat) : Int) 135 = true := zin_t (by omega) (by omega)
  have z1 : zin ((3 * m + 1 : Nat) : Int) 135 = true := zin_t (by omega) (by omega)
  have z2 : zin ((3 * m + 2 : Nat) : Int) 135 = true := zin_t (by omega) (by omega)
  rw [e_M_code]
  simp only [h, i0, Int.toNat_natCast, e1, i1, e2, i2, e3, z0, z1, z2, if_true]
  rw [w32_s (by omega)]
  rfl
def scd (σ : zH) (q n : Nat) (v s w : Int) : zH := zset (zset (zset (zset σ (q + 1) n v) (q + 2) n s) (q + 3) n w) q 3 ((n + 1 : Nat) : Int)
theorem c_sadd (h : σ q 3 = (n : Int)) (hn : n < 40) (v s w : Int) : f_Sentence_add σ q v s w = some (scd σ q n v s w, 1) := by
  have e1 : zset σ (q + 1) n v q 3 = (n : Int) := by rw [zk (by omega)]; exact h
  have e2 : zset (zset σ (q + 1) n v) (q + 2) n s q 3 = (n : Int) := by rw [zk (by omega)]; exact e1
  have e3 : zset (zset (zset σ (q + 1) n v) (q + 2) n s) (q + 3) n w q 3 = (n : Int) := by rw [zk (by omega)]; exact e2
  have z0 : zin (n : Int) 40 = true := zin_t (by omega) (by omega)
  rw [e_Sentence_add]
  simp only [h, Int.toNat_natCast, e1, e2, e3, z0, if_true]
  rw [if_pos (show (n : Int) < 40 by omega), w32_s (by omega)]
  rfl
theorem scd_fr {v s w : Int} : FsC q σ (scd σ q n v s w) := fun j i h1 h2 => by
  unfold scd
  rw [zk (show j ≠ q by omega), zk (show j ≠ q + 3 by omega), zk (show j ≠ q + 2 by omega), zk (show j ≠ q + 1 by omega)]
theorem scd_ne {j : Nat} {v s w : Int} (h : ¬ (q ≤ j ∧ j < q + 4)) : scd σ q n v s w j = σ j := by
  unfold scd
  rw [zk (show j ≠ q by omega), zk (show j ≠ q + 3 by omega), zk (show j ≠ q + 2 by omega), zk (show j ≠ q + 1 by omega)]
theorem scd_q {i : Nat} {v s w : Int} (h : i ≠ 3) : scd σ q n v s w q i = σ q i := by
  unfold scd
  rw [zi h, zk (by omega), zk (by omega), zk (by omega)]
/-- codes of both sides, the reference's behind -/
def CdR (σ τ : zH) (q n m : Nat) (c : Nat → Int) : Prop := m ≤ n ∧ σ q 3 = (n : Int) ∧ τ 0 37 = (m : Int) ∧ (∀ i, i < n → CodR c i ∧ σ (q + 1) i = opm (c (1 + 3 * i)) ∧ σ (q + 2) i = c (2 + 3 * i) ∧ σ (q + 3) i = c (3 + 3 * i)) ∧ (∀ i, i < m → τ 9 (3 * i) = c (1 + 3 * i) ∧ τ 9 (3 * i + 1) = c (2 + 3 * i) ∧ τ 9 (3 * i + 2) = c (3 + 3 * i)) ∧ (∀ i, i ≤ n → dep c i ≤ 20) ∧ (∀ i, m ≤ i → i < n → c (2 + 3 * i) = 0 ∧ c (3 + 3 * i) = 0)
/-- numbers of both sides while a sentence is read -/
def NS (σ τ : zH) (q n m D o N f dp : Nat) (c : Nat → Int) : Prop := σ q 4 = (o : Int) ∧ τ 0 38 = (o : Int) ∧ o ≤ 20 ∧ CdR σ τ q n m c ∧ dep c n = (D : Int) ∧ n + D ≤ 2 * o ∧ D ≤ o ∧ τ 0 39 = (N : Int) ∧ τ 0 41 = (f : Int) ∧ τ 0 40 = (dp : Int) ∧ N + f ≤ o
theorem NS.fr (h : NS σ τ q n m D o N f dp c) (hσ : ∀ j, q ≤ j → j < q + 4 → σ' j = σ j) (hτ : ∀ i, 37 ≤ i → i ≤ 41 → τ' 0 i = τ 0 i) (h9 : τ' 9 = τ 9) : NS σ' τ' q n m D o N f dp c := by
  obtain ⟨h1, h2, h3, ⟨c1, c2, c3, c4, c5, c6, c7⟩, h5, h6, h7, h8, h9', h10, h11⟩ := h
  refine ⟨by rw [hσ q (by omega) (by omega)]; exact h1, by rw [hτ 38 (by omega) (by omega)]; exact h2, h3, ⟨c1, by rw [hσ q (by omega) (by omega)]; exact c2, by rw [hτ 37 (by omega) (by omega)]; exact c3, fun i hi => ?_, fun i hi => by rw [h9]; exact c5 i hi, c6, c7⟩, h5, h6, h7, by rw [hτ 39 (by omega) (by omega)]; exact h8, by rw [hτ 41 (by omega) (by omega)]; exact h9', by rw [hτ 40 (by omega) (by omega)]; exact h10, h11⟩
  rw [hσ (q + 1) (by omega) (by omega), hσ (q + 2) (by omega) (by omega), hσ (q + 3) (by omega) (by omega)]
  exact c4 i hi
theorem NS.tok (h : NS σ τ q n m D o N f dp c) (hq : isRule q) (hσ : FrC σ σ') (hτ : FrM τ τ') : NS σ' τ' q n m D o N f dp c := by
  unfold isRule at hq
  exact h.fr (fun j j0 j1 => hσ.cell (by omega)) (fun i i0 i1 => hτ 0 i (by unfold lxM; omega)) (hτ.cell (by decide))
/-- the reference takes a code from its stack -/
theorem NS.pop (h : NS σ τ q n m D o (N + 1) f dp c) (hm : m < n) {v : Int} (hv : c (1 + 3 * m) = v) {τ0 : zH} (h0 : ∀ j i, ¬ (j = 0 ∧ (i = 39 ∨ i = 40)) → τ0 j i = τ j i) (hN : τ0 0 39 = (N : Int)) {dp' : Nat} (hd : τ0 0 40 = (dp' : Int)) : NS σ (mcd τ0 m v 0 0) q n (m + 1) D o N f dp' c := by
  obtain ⟨h1, h2, h3, ⟨c1, c2, c3, c4, c5, c6, c7⟩, h5, h6, h7, h8, h9, h10, h11⟩ := h
  refine ⟨h1, by rw [mcd_ne (by omega) (by decide), h0 0 38 (by omega)]; exact h2, h3, ⟨by omega, c2, mcd_37, c4, fun i hi => ?_, c6, fun i hi => c7 i (by omega)⟩, h5, h6, h7, by rw [mcd_ne (by omega) (by decide)]; exact hN, by rw [mcd_ne (by omega) (by decide), h0 0 41 (by omega)]; exact h9, by rw [mcd_ne (by omega) (by decide)]; exact hd, by omega⟩
  obtain ⟨z1, z2⟩ := c7 m (Nat.le_refl m) hm
  rw [mcd_9, mcd_9, mcd_9]
  by_cases him : i = m
  · subst him
    rw [if_neg (by omega), if_neg (by omega), if_pos rfl, if_neg (by omega), if_pos rfl, if_pos rfl, hv, z1, z2]
    exact ⟨rfl, rfl, rfl⟩
  · rw [if_neg (by omega), if_neg (by omega), if_neg (by omega), if_neg (by omega), if_neg (by omega), if_neg (by omega), if_neg (by omega), if_neg (by omega), if_neg (by omega), h0 9 _ (by omega), h0 9 _ (by omega), h0 9 _ (by omega)]
    exact c5 i (by omega)
theorem dep_cg {c' : Nat → Int} : ∀ n : Nat, (∀ i, i < n → c' (1 + 3 * i) = c (1 + 3 * i)) → dep c' n = dep c n
  | 0, _ => rfl
  | n + 1, h => by
    show dep c' n + _ = dep c n + _
    rw [dep_cg n (fun i hi => h i (by omega)), h n (by omega)]
/-- a code more -/
def ext (c : Nat → Int) (n : Nat) (x y z : Int) : Nat → Int := upI (upI (upI c (1 + 3 * n) x) (2 + 3 * n) y) (3 + 3 * n) z
theorem ext_ne {j : Nat} {x y z : Int} (h : j < 1 + 3 * n ∨ 3 + 3 * n < j) : ext c n x y z j = c j := by
  unfold ext
  rw [upI_ne (by omega), upI_ne (by omega), upI_ne (by omega)]
theorem ext_1 {x y z : Int} : ext c n x y z (1 + 3 * n) = x := by unfold ext; rw [upI_ne (by omega), upI_ne (by omega), upI_eq]
theorem ext_2 {x y z : Int} : ext c n x y z (2 + 3 * n) = y := by unfold ext; rw [upI_ne (by omega), upI_eq]
theorem ext_3 {x y z : Int} : ext c n x y z (3 + 3 * n) = z := by unfold ext; rw [upI_eq]
theorem ext_dep {x y z : Int} : ∀ i, i ≤ n → dep (ext c n x y z) i = dep c i := fun i hi => dep_cg i (fun j hj => ext_ne (by omega))
theorem ext_cod {x y z : Int} {i : Nat} (hi : i < n) : CodR (ext c n x y z) i ↔ CodR c i := by
  unfold CodR
  rw [ext_ne (by omega), ext_ne (by omega), ext_dep i (by omega)]
/-- the class writes a code, the reference does not yet -/
theorem NS.addC (h : NS σ τ q n m D o N f dp c) (hD : 1 ≤ D) {x : Int} (hx : x = 20 ∨ ((x = 21 ∨ x = 22) ∧ 2 ≤ D)) (hle : n + 1 + D ≤ 2 * o ∨ ((x = 21 ∨ x = 22))) : NS (scd σ q n (opm x) 0 0) τ q (n + 1) m (if x = 20 then D else D - 1) o N f dp (ext c n x 0 0) := by
  obtain ⟨h1, h2, h3, ⟨c1, c2, c3, c4, c5, c6, c7⟩, h5, h6, h7, h8, h9, h10, h11⟩ := h
  have hdep : dep (ext c n x 0 0) (n + 1) = ((if x = 20 then D else D - 1 : Nat) : Int) := by
    show dep (ext c n x 0 0) n + (if ext c n x 0 0 (1 + 3 * n) < 20 then 1 else if ext c n x 0 0 (1 + 3 * n) = 20 then 0 else -1) = _
    rw [ext_dep n (Nat.le_refl n), ext_1, h5]
    rcases hx with rfl | ⟨rfl | rfl, hD2⟩
    · simp
    · simp; omega
    · simp; omega
  have hn0 : scd σ q n (opm x) 0 0 q 3 = ((n + 1 : Nat) : Int) := by unfold scd; rw [zs]
  refine ⟨by rw [scd_q (by decide)]; exact h1, h2, h3, ⟨by omega, hn0, c3, fun i hi => ?_, fun i hi => ?_, fun i hi => ?_, fun i i0 i1 => ?_⟩, hdep, ?_, ?_, h8, h9, h10, h11⟩
  · unfold scd
    rw [zk (show q + 1 ≠ q by omega), zk (show q + 2 ≠ q by omega), zk (show q + 3 ≠ q by omega), zk (show q + 1 ≠ q + 3 by omega), zk (show q + 2 ≠ q + 3 by omega), zk (show q + 1 ≠ q + 2 by omega)]
    by_cases hin : i = n
    · subst hin
      rw [zs, zs, zs, ext_1, ext_2, ext_3]
      refine ⟨?_, rfl, rfl, rfl⟩
      unfold CodR
      rw [ext_1, ext_2, ext_dep i (Nat.le_refl i), h5]
      refine ⟨by omega, by omega, by omega, by omega⟩
    · rw [zi hin, zi hin, zi hin, zk (show q + 2 ≠ q + 1 by omega), zk (show q + 3 ≠ q + 2 by omega), zk (show q + 3 ≠ q + 1 by omega), ext_cod (by omega), ext_ne (by omega), ext_ne (by omega), ext_ne (by omega)]
      exact c4 i (by omega)
  · rw [ext_ne (by omega), ext_ne (by omega), ext_ne (by omega)]
    exact c5 i hi
  · by_cases hin : i = n + 1
    · rw [hin, hdep]
      split <;> omega
    · rw [ext_dep i (by omega)]; exact c6 i (by omega)
  · by_cases hin : i = n
    · subst hin; rw [ext_2, ext_3]; exact ⟨rfl, rfl⟩
    · rw [ext_ne (by omega), ext_ne (by omega)]; exact c7 i i0 (by omega)
  · split <;> omega
  · split <;> omega
/-- both write a leaf's code -/
theorem NS.leaf (h : NS σ τ q n n D o N 0 dp c) (hle : n + 1 + (D + 1) ≤ 2 * o) (hDo : D + 1 ≤ o) (hNo : N + 1 ≤ o) {x y z : Int} (hx : 0 ≤ x ∧ x ≤ 6) (hy : 3 ≤ x → 60 ≤ y ∧ y ≤ 62) {τ0 : zH} (h0 : ∀ j i, ¬ (j = 0 ∧ i = 41) → τ0 j i = τ j i) (h41 : τ0 0 41 = 1) : NS (scd σ q n (opm x) y z) (mcd τ0 n x y z) q (n + 1) (n + 1) (D + 1) o N 1 dp (ext c n x y z) := by
  obtain ⟨h1, h2, h3, ⟨c1, c2, c3, c4, c5, c6, c7⟩, h5, h6, h7, h8, h9, h10, h11⟩ := h
  have hdep : dep (ext c n x y z) (n + 1) = ((D + 1 : Nat) : Int) := by
    show dep (ext c n x y z) n + (if ext c n x y z (1 + 3 * n) < 20 then 1 else if ext c n x y z (1 + 3 * n) = 20 then 0 else -1) = _
    rw [ext_dep n (Nat.le_refl n), ext_1, h5, if_pos (show x < 20 by omega)]
    omega
  refine ⟨by rw [scd_q (by decide)]; exact h1, by rw [mcd_ne (by omega) (by decide), h0 0 38 (by omega)]; exact h2, h3, ⟨Nat.le_refl _, by unfold scd; rw [zs], mcd_37, fun i hi => ?_, fun i hi => ?_, fun i hi => ?_, fun i i0 i1 => by omega⟩, hdep, by omega, hDo, by rw [mcd_ne (by omega) (by decide), h0 0 39 (by omega)]; exact h8, by rw [mcd_ne (by omega) (by decide)]; exact h41, by rw [mcd_ne (by omega) (by decide), h0 0 40 (by omega)]; exact h10, hNo⟩
  · unfold scd
    rw [zk (show q + 1 ≠ q by omega), zk (show q + 2 ≠ q by omega), zk (show q + 3 ≠ q by omega), zk (show q + 1 ≠ q + 3 by omega), zk (show q + 2 ≠ q + 3 by omega), zk (show q + 1 ≠ q + 2 by omega)]
    by_cases hin : i = n
    · subst hin
      rw [zs, zs, zs, ext_1, ext_2, ext_3]
      refine ⟨?_, rfl, rfl, rfl⟩
      unfold CodR
      rw [ext_1, ext_2, ext_dep i (Nat.le_refl i), h5]
      exact ⟨Or.inl hx, fun q1 _ => hy q1, fun q1 => by omega, fun q1 => by omega⟩
    · rw [zi hin, zi hin, zi hin, zk (show q + 2 ≠ q + 1 by omega), zk (show q + 3 ≠ q + 2 by omega), zk (show q + 3 ≠ q + 1 by omega), ext_cod (by omega), ext_ne (by omega), ext_ne (by omega), ext_ne (by omega)]
      exact c4 i (by omega)
  · rw [mcd_9, mcd_9, mcd_9]
    by_cases hin : i = n
    · subst hin
      rw [if_neg (by omega), if_neg (by omega), if_pos rfl, if_neg (by omega), if_pos rfl, if_pos rfl, ext_1, ext_2, ext_3]
      exact ⟨rfl, rfl, rfl⟩
    · rw [if_neg (by omega), if_neg (by omega), if_neg (by omega), if_neg (by omega), if_neg (by omega), if_neg (by omega), if_neg (by omega), if_neg (by omega), if_neg (by omega), h0 9 _ (by omega), h0 9 _ (by omega), h0 9 _ (by omega), ext_ne (by omega), ext_ne (by omega), ext_ne (by omega)]
      exact c5 i (by omega)
  · by_cases hin : i = n + 1
    · rw [hin, hdep]; omega
    · rw [ext_dep i (by omega)]; exact c6 i (by omega)
-- the reference's stack
theorem m_nots_stop (h : τ 0 39 = (N : Int)) (hN : N ≤ 45) (ht : N = 0 ∨ τ 37 (N - 1) ≠ 20) : f_M_nots τ = some (τ, 0) := by
  rw [e_M_nots, h]
  by_cases h0 : N = 0
  · rw [if_pos (by omega)]
  · rw [if_neg (by omega), w32_id (x := (N : Int) - 1) (by omega) (by omega), if_pos (zin_t (by omega) (by omega)), show Int.toNat ((N : Int) - 1) = N - 1 by omega, if_pos (ht.resolve_left h0)]
theorem nots_run {N0 : Nat} : ∀ (j m dp : Nat) (τ : zH), dp ≤ 1000 → NS σ τ q n m D o (N0 + j) f (dp + j) c → (∀ i, N0 ≤ i → i < N0 + j → τ 37 i = 20) → (N0 = 0 ∨ τ 37 (N0 - 1) ≠ 20) → (∀ i, m ≤ i → i < m + j → c (1 + 3 * i) = 20) → m + j ≤ n → ∃ τ', f_M_nots τ = some (τ', 0) ∧ NS σ τ' q n (m + j) D o N0 f dp c ∧ FkM τ τ'
  | 0, m, dp, τ, hdp, h, h1, h2, h3, h4 => ⟨τ, m_nots_stop h.2.2.2.2.2.2.2.1 (by have := h.2.2.1; have := h.2.2.2.2.2.2.2.2.2.2; omega) h2, h, FkM.refl⟩
  | j + 1, m, dp, τ, hdp, h, h1, h2, h3, h4 => by
    have hN := h.2.2.2.2.2.2.2.1
    have hd := h.2.2.2.2.2.2.2.2.2.1
    have ho := h.2.2.1
    have hNo := h.2.2.2.2.2.2.2.2.2.2
    have hm := h.2.2.2.1.2.2.1
    have hno := h.2.2.2.2.2.1
    have e40 : zset τ 0 39 ((N0 + j : Nat) : Int) 0 40 = ((dp + (j + 1) : Nat) : Int) := by rw [zi (by decide)]; exact hd
    have em : zset (zset τ 0 39 ((N0 + j : Nat) : Int)) 0 40 ((dp + j : Nat) : Int) 0 37 = (m : Int) := by rw [zi (by decide), zi (by decide)]; exact hm
    have h0 : ∀ j' i, ¬ (j' = 0 ∧ (i = 39 ∨ i = 40)) → zset (zset τ 0 39 ((N0 + j : Nat) : Int)) 0 40 ((dp + j : Nat) : Int) j' i = τ j' i := fun j' i hj => by
      by_cases j0 : j' = 0
      · subst j0; rw [zi (by omega), zi (by omega)]
      · rw [zk j0, zk j0]
    have p1 := NS.pop (N := N0 + j) (v := 20) h (by omega) (h3 m (Nat.le_refl m) (by omega)) h0 (by rw [zi (by decide), zs]) (dp' := dp + j) zs
    obtain ⟨τ', g1, g2, g3⟩ := nots_run j (m + 1) dp _ hdp p1 (fun i i0 i1 => by rw [mcd_ne (by omega) (by decide), h0 37 i (by omega)]; exact h1 i i0 (by omega)) (by rw [mcd_ne (by omega) (by decide), h0 37 _ (by omega)]; exact h2) (fun i i0 i1 => h3 i (by omega) (by omega)) (by omega)
    refine ⟨τ', ?_, by rw [show m + (j + 1) = m + 1 + j by omega]; exact g2, FkM.trans (fun j' i h1' h2' => by rw [mcd_ne (by omega) h2', h0 j' i (by omega)]) g3⟩
    have w1 : w32 (((N0 + (j + 1) : Nat) : Int) - 1) = ((N0 + j : Nat) : Int) := by rw [w32_id (by omega) (by omega)]; omega
    have w2 : w32 (((dp + (j + 1) : Nat) : Int) - 1) = ((dp + j : Nat) : Int) := by rw [w32_id (by omega) (by omega)]; omega
    rw [e_M_nots, hN, if_neg (by omega)]
    simp only [w1]
    rw [if_pos (zin_t (by omega) (by omega)), show Int.toNat ((N0 + j : Nat) : Int) = N0 + j from rfl, h1 (N0 + j) (by omega) (by omega), if_neg (fun x => x rfl), e40, w2, m_code em (by omega), Option.bind_some]
    exact g1
theorem m_joins_stop {x : Int} (h : τ 0 39 = (N : Int)) (hN : N ≤ 45) (ht : N = 0 ∨ (τ 37 (N - 1) ≠ 21 ∧ (τ 37 (N - 1) ≠ 22 ∨ x ≠ 22))) : f_M_joins τ x = some (τ, 0) := by
  rw [e_M_joins, h]
  by_cases h0 : N = 0
  · rw [if_pos (by omega)]
  · have ht' := ht.resolve_left h0
    have z0 : zin ((N : Int) - 1) 45 = true := zin_t (by omega) (by omega)
    rw [if_neg (by omega), w32_id (x := (N : Int) - 1) (by omega) (by omega)]
    simp only [z0, if_true]
    rw [show Int.toNat ((N : Int) - 1) = N - 1 by omega, if_neg ht'.1]
    rcases ht'.2 with g | g
    · rw [if_pos g]
    · rw [if_pos g, ite_self]
theorem joins_pop {x v : Int} (h : NS σ τ q n m D o (N + 1) f dp c) (hm : m < n) (hv : c (1 + 3 * m) = v) (ht : τ 37 N = v) (hx : v = 21 ∨ (v = 22 ∧ x = 22)) : ∃ τ', f_M_joins τ x = f_M_joins τ' x ∧ NS σ τ' q n (m + 1) D o N f dp c ∧ FkM τ τ' := by
  have hN := h.2.2.2.2.2.2.2.1
  have hd := h.2.2.2.2.2.2.2.2.2.1
  have ho := h.2.2.1
  have hNo := h.2.2.2.2.2.2.2.2.2.2
  have hmm := h.2.2.2.1.2.2.1
  have hno := h.2.2.2.2.2.1
  have w1 : w32 (((N + 1 : Nat) : Int) - 1) = (N : Int) := by rw [w32_id (by omega) (by omega)]; omega
  have z0 : zin (N : Int) 45 = true := zin_t (by omega) (by omega)
  have h0 : ∀ j' i, ¬ (j' = 0 ∧ (i = 39 ∨ i = 40)) → zset τ 0 39 (N : Int) j' i = τ j' i := fun j' i hj => by
    by_cases j0 : j' = 0
    · subst j0; rw [zi (by omega)]
    · rw [zk j0]
  have e45 : f_M_joins_45 τ x = f_M_joins (mcd (zset τ 0 39 (N : Int)) m v 0 0) x := by
    have e39 : zset τ 0 39 (N : Int) 0 39 = (N : Int) := zs
    have em : zset τ 0 39 (N : Int) 0 37 = (m : Int) := by rw [zi (by decide)]; exact hmm
    rw [e_M_joins_45, hN]
    simp only [w1, e39, z0, if_true]
    rw [show Int.toNat (N : Int) = N from rfl, zk (show (37 : Nat) ≠ 0 by decide), ht, m_code em (by omega), Option.bind_some]
  refine ⟨_, ?_, NS.pop (N := N) h hm hv h0 zs (dp' := dp) (by rw [zi (by decide)]; exact hd), fun j' i h1' h2' => by rw [mcd_ne (by omega) h2', h0 j' i (by omega)]⟩
  rw [e_M_joins, hN, if_neg (by omega)]
  simp only [w1, z0, if_true]
  rw [show Int.toNat (N : Int) = N from rfl, ht, ← e45]
  rcases hx with rfl | ⟨rfl, rfl⟩
  · rw [if_pos rfl]
  · rw [if_neg (show ¬ (22 : Int) = 21 by decide), if_neg (fun x => x rfl), if_neg (fun x => x rfl)]
end G71
