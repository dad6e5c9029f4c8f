/-! A LINE of a daybook, both sides -/
section G67
variable {σ τ σ' τ' σ1 τ1 : zH} {k L ax ax' n m : Nat} {a : Nat → Int}
/-- a line that is told: day, reads, wakes or sleeps -/
def BkV (a : Nat → Int) (v s o x y z : Int) : Prop := (v = 12 ∧ x = 0 ∧ o = y ∧ 1 ≤ y ∧ y ≤ 99) ∨ (v = 13 ∧ x = 1 ∧ s = y ∧ 0 ≤ y ∧ y < a 4 ∧ o = z) ∨ (((v = 15 ∧ z = 1) ∨ (v = 16 ∧ z = 0)) ∧ x = 2 ∧ s = y ∧ 0 ≤ y ∧ y < a 2)
def BkE (a : Nat → Int) (σ τ : zH) (i : Nat) : Prop := BkV a (σ 321 i) (σ 322 i) (σ 323 i) (τ 9 (3 * i)) (τ 9 (3 * i + 1)) (τ 9 (3 * i + 2))
/-- a daybook that is read: n lines in the class, m behind their signs -/
def DS (a : Nat → Int) (k L ax n m : Nat) (σ τ : zH) : Prop := PS σ τ L 400 ax ∧ ResR τ ∧ wfC a ∧ NamR σ (k + 32) (fun i => τ 10 (0 + i)) a ∧ τ 7 = a ∧ isLand k ∧ σ 320 3 = (n : Int) ∧ τ 0 33 = (m : Int) ∧ n ≤ 30 ∧ ∀ i, i < n → BkE a σ τ i
theorem DS.mv (h : DS a k L ax n m σ τ) (hP : PS σ' τ' L 400 ax') (hσ : ∀ j i, ¬ (j = 64 ∧ 3 ≤ i) → ¬ (321 ≤ j ∧ j ≤ 323 ∧ n ≤ i) → σ' j i = σ j i) (hτ : ∀ j i, ¬ (j = 0 ∧ (i = 4 ∨ (11 ≤ i ∧ i ≤ 18))) → ¬ (j = 9 ∧ 3 * n ≤ i) → τ' j i = τ j i) : DS a k L ax' n m σ' τ' := by
  obtain ⟨h1, h2, h3, h4, h5, h6, h7, h8, h9, h10⟩ := h
  have hl := h6
  unfold isLand at hl
  refine ⟨hP, h2.frame (funext (fun i => hτ 11 i (by omega) (by omega))), h3, h4.gen (fun j j0 j1 => funext (fun i => hσ j i (by omega) (by omega))) rfl rfl rfl rfl (fun _ _ _ _ => hτ 10 _ (by omega) (by omega)), ?_, h6, by rw [hσ 320 3 (by omega) (by omega)]; exact h7, by rw [hτ 0 33 (by omega) (by omega)]; exact h8, h9, fun i hi => ?_⟩
  · rw [← h5]; exact funext (fun i => hτ 7 i (by omega) (by omega))
  · have := h10 i hi
    unfold BkE at this ⊢
    rw [hσ 321 i (by omega) (by omega), hσ 322 i (by omega) (by omega), hσ 323 i (by omega) (by omega), hτ 9 _ (by omega) (by omega), hτ 9 _ (by omega) (by omega), hτ 9 _ (by omega) (by omega)]
    exact this
theorem DS.more (h : DS a k L ax n m σ τ) (hn : n < 30) (hP : PS σ' τ' L 400 ax') (hσ : ∀ j i, ¬ (j = 64 ∧ 3 ≤ i) → ¬ (321 ≤ j ∧ j ≤ 323 ∧ n ≤ i) → ¬ (j = 320 ∧ i = 3) → σ' j i = σ j i) (hτ : ∀ j i, ¬ (j = 0 ∧ (i = 4 ∨ (11 ≤ i ∧ i ≤ 18))) → ¬ (j = 9 ∧ 3 * n ≤ i) → τ' j i = τ j i) (h3' : σ' 320 3 = ((n + 1 : Nat) : Int)) (hE : BkE a σ' τ' n) : DS a k L ax' (n + 1) m σ' τ' := by
  obtain ⟨h1, h2, h3, h4, h5, h6, h7, h8, h9, h10⟩ := h
  have hl := h6
  unfold isLand at hl
  refine ⟨hP, h2.frame (funext (fun i => hτ 11 i (by omega) (by omega))), h3, h4.gen (fun j j0 j1 => funext (fun i => hσ j i (by omega) (by omega) (by omega))) rfl rfl rfl rfl (fun _ _ _ _ => hτ 10 _ (by omega) (by omega)), ?_, h6, h3', by rw [hτ 0 33 (by omega) (by omega)]; exact h8, by omega, fun i hi => ?_⟩
  · rw [← h5]; exact funext (fun i => hτ 7 i (by omega) (by omega))
  · by_cases hin : i = n
    · rw [hin]; exact hE
    · have := h10 i (by omega)
      unfold BkE at this ⊢
      rw [hσ 321 i (by omega) (by omega) (by omega), hσ 322 i (by omega) (by omega) (by omega), hσ 323 i (by omega) (by omega) (by omega), hτ 9 _ (by omega) (by omega), hτ 9 _ (by omega) (by omega), hτ 9 _ (by omega) (by omega)]
      exact this
def FdC (σ σ' : zH) : Prop := ∀ j i, ¬ (j = 64 ∧ 3 ≤ i) → ¬ (j = 320 ∧ i = 3) → ¬ (321 ≤ j ∧ j ≤ 323) → σ' j i = σ j i
def FdM (τ τ' : zH) : Prop := ∀ j i, ¬ (j = 0 ∧ (i = 4 ∨ (11 ≤ i ∧ i ≤ 18) ∨ i = 33)) → j ≠ 9 → τ' j i = τ j i
theorem FdC.trans (h : FdC σ σ1) (g : FdC σ1 σ') : FdC σ σ' := fun j i h1 h2 h3 => by rw [g j i h1 h2 h3, h j i h1 h2 h3]
theorem FdM.trans (h : FdM τ τ1) (g : FdM τ1 τ') : FdM τ τ' := fun j i h1 h2 => by rw [g j i h1 h2, h j i h1 h2]
theorem FwC.d (h : FwC σ σ') : FdC σ σ' := fun j i h1 _ _ => h j i h1
theorem FwM.d (h : FwM τ τ') : FdM τ τ' := fun j i h1 _ => h j i (by omega)
theorem FdC.refl : FdC σ σ := fun _ _ _ _ _ => rfl
theorem FdM.refl : FdM τ τ := fun _ _ _ _ => rfl
theorem FdM.s9 {i : Nat} {v : Int} : FdM τ (zset τ 9 i v) := fun j i' h1 h2 => by rw [zk h2]
theorem FdM.s18 {v : Int} : FdM τ (zset τ 0 18 v) := (FwM.set (by omega)).d
def Bln (a : Nat → Int) (k L n : Nat) (σ τ : zH) (C M : zR) : Prop := ∃ σ' τ' r, C = some (σ', r) ∧ M = some (τ', r) ∧ FdC σ σ' ∧ FdM τ τ' ∧ ((r = 1 ∧ n < 30 ∧ ∃ ax', DS a k L ax' (n + 1) n σ' τ') ∨ (r = 0 ∧ Flt σ' τ'))
theorem Bln.bad (f : FdC σ σ1) (g : FdM τ τ1) (h : Bad σ1 τ1 σ' τ') : Bln a k L n σ τ (some (σ', 0)) (some (τ', 0)) := ⟨σ', τ', 0, rfl, rfl, f.trans h.1.d, g.trans h.2.1.d, Or.inr ⟨rfl, h.2.2⟩⟩
theorem Bln.step {C M : zR} (f : FdC σ σ1) (g : FdM τ τ1) (h : Bln a k L n σ1 τ1 C M) : Bln a k L n σ τ C M := by
  obtain ⟨σ', τ', r, h1, h2, h3, h4, h5⟩ := h
  exact ⟨σ', τ', r, h1, h2, f.trans h3, g.trans h4, h5⟩
/-- what the class writes of a line -/
def bkw (σ : zH) (n : Nat) (v s o : Int) : zH := zset (zset (zset (zset σ 321 n v) 322 n s) 323 n o) 320 3 ((n + 1 : Nat) : Int)
theorem c_bkadd (h3 : σ 320 3 = (n : Int)) (hn : n < 30) (v s o : Int) : f_Daybook_add σ v s o = (f_Tape_advance (bkw σ n v s o)).bind (fun r => some (r.1, 1)) := by
  have e1 : zset σ 321 n v 320 3 = (n : Int) := by rw [zk (by decide)]; exact h3
  have e2 : zset (zset σ 321 n v) 322 n s 320 3 = (n : Int) := by rw [zk (by decide)]; exact e1
  have e3 : zset (zset (zset σ 321 n v) 322 n s) 323 n o 320 3 = (n : Int) := by rw [zk (by decide)]; exact e2
  rw [e_Daybook_add]
  simp only [h3, Int.toNat_natCast, e1, e2, e3]
  rw [if_pos (zin_t (by omega) (by omega)), if_pos (zin_t (by omega) (by omega)), if_pos (zin_t (by omega) (by omega)), w32_s (by omega)]
  rfl
theorem bkw_ne {j : Nat} {v s o : Int} (h : j ≠ 320) (h1 : ¬ (321 ≤ j ∧ j ≤ 323)) : bkw σ n v s o j = σ j := by
  unfold bkw
  rw [zk h, zk (by omega), zk (by omega), zk (by omega)]
theorem bkw_i {j i : Nat} {v s o : Int} (h1 : ¬ (321 ≤ j ∧ j ≤ 323 ∧ i = n)) (h2 : ¬ (j = 320 ∧ i = 3)) : bkw σ n v s o j i = σ j i := by
  unfold bkw
  by_cases j0 : j = 320
  · subst j0; rw [zi (by omega), zk (by decide), zk (by decide), zk (by decide)]
  · rw [zk j0]
    by_cases j3 : j = 323
    · subst j3; rw [zi (by omega), zk (by decide), zk (by decide)]
    · rw [zk j3]
      by_cases j2 : j = 322
      · subst j2; rw [zi (by omega), zk (by decide)]
      · rw [zk j2]
        by_cases j1 : j = 321
        · subst j1; rw [zi (by omega)]
        · rw [zk j1]
theorem bkw_1 {v s o : Int} : bkw σ n v s o 321 n = v := by unfold bkw; rw [zk (by decide), zk (by decide), zk (by decide), zs]
theorem bkw_2 {v s o : Int} : bkw σ n v s o 322 n = s := by unfold bkw; rw [zk (by decide), zk (by decide), zs]
theorem bkw_3 {v s o : Int} : bkw σ n v s o 323 n = o := by unfold bkw; rw [zk (by decide), zs]
theorem bkw_0 {v s o : Int} : bkw σ n v s o 320 3 = ((n + 1 : Nat) : Int) := by unfold bkw; rw [zs]
theorem bkw_fr {v s o : Int} : FdC σ (bkw σ n v s o) := fun j i h1 h2 h3 => bkw_i (by omega) h2
/-- a line's last token, both sides -/
theorem bk_end (h : DS a k L ax n n σ τ) (hn : n < 30) (hT : τ 0 11 ≠ 4) {τm : zH} {v s o : Int} (hm : ∀ j i, ¬ (j = 0 ∧ i = 18) → ¬ (j = 9 ∧ 3 * n ≤ i) → τm j i = τ j i) (hE : BkV a v s o (τm 9 (3 * n)) (τm 9 (3 * n + 1)) (τm 9 (3 * n + 2))) :
    ∃ σ' τ' ax', f_Daybook_add σ v s o = some (σ', 1) ∧ f_M_next τm = some (τ', 0) ∧ FdC σ σ' ∧ FdM τ τ' ∧ DS a k L ax' (n + 1) n σ' τ' := by
  have hP : PS (bkw σ n v s o) τm L 400 ax := h.1.fr (fun i _ => by rw [bkw_ne (by decide) (by decide)]) (bkw_ne (by decide) (by decide)) (fun i hi => hm 0 i (by omega) (by omega)) (funext (fun i => hm 2 i (by omega) (by omega)))
  obtain ⟨σ', τ', ax', d1, d2, d3, d4, d5, d6⟩ := hP.adv (by rw [hm 0 11 (by omega) (by omega)]; exact hT)
  refine ⟨σ', τ', ax', by rw [c_bkadd h.2.2.2.2.2.2.1 hn, d1]; rfl, d2, bkw_fr.trans d3.w.d, fun j i h1 h2 => ?_, h.more hn d5 (fun j i h1 h2 h3 => ?_) (fun j i h1 h2 => ?_) ?_ ?_⟩
  · rw [d4.w j i (by omega)]; exact hm j i (by omega) (by omega)
  · rw [d3.w j i h1]; exact bkw_i (by omega) h3
  · rw [d4.w j i h1]; exact hm j i (by omega) h2
  · rw [d3 320 3 (by unfold lxC; omega), bkw_0]
  · unfold BkE
    rw [d3.cell (show (321 : Nat) ≠ 64 by decide), d3.cell (show (322 : Nat) ≠ 64 by decide), d3.cell (show (323 : Nat) ≠ 64 by decide), d4.cell (show (9 : Nat) ≠ 0 by decide), bkw_1, bkw_2, bkw_3]
    exact hE
theorem bk_days (h : DS a k L ax n n σ τ) (hk : σ 64 6 = 12) : Bln a k L n σ τ (f_Daybook_readLine σ (k + 32)) (f_M_bookLine τ) := by
  have hn30 := h.2.2.2.2.2.2.2.2.1
  have e320 := h.2.2.2.2.2.2.1
  have e33 := h.2.2.2.2.2.2.2.1
  have w12 : f_M_isWord τ 6578553 = some (τ, if σ 64 6 = 12 then 1 else 0) := m_isWord (i := 12) (by decide) h.1.tok
  have hT := key_T h.1.tok (by omega)
  rw [e_Daybook_readLine, if_neg (fun x => x hk), e_Daybook_readLine_19, in10, e_Daybook_readLine_89, e320, e_M_bookLine, w12, if_pos hk, Option.bind_some, if_neg (show ¬ (1 : Int) = 0 by decide), e33]
  dsimp only
  by_cases h30 : n = 30
  · obtain ⟨σb, τb, b1, b2, b3⟩ := bad_both h.1 4
    simp only [e33]
    rw [if_neg (show ¬ (n : Int) < 30 by omega), if_neg (show ¬ ¬ (n : Int) = 30 by omega), b1, b2]
    exact Bln.bad FdC.refl FdM.refl b3
  · obtain ⟨σ1, τ1, a1, d1, d2, d3, d4, d5, d6⟩ := h.1.adv (by omega)
    have s1 : DS a k L a1 n n σ1 τ1 := h.mv d5 (fun j i h1 h2 => d3.w j i h1) (fun j i h1 h2 => d4.w j i h1)
    simp only [e33]
    rw [if_pos (show (n : Int) < 30 by omega), if_pos (show ¬ (n : Int) = 30 by omega), d1, d2, Option.bind_some, Option.bind_some]
    dsimp only
    rw [if_neg (show ¬ (1 : Int) = 0 by decide), e_Daybook_readDays]
    rcases num_both (lo := 1) (hi := 99) d5 with ⟨p1, p2, p3, p4, p5, p6, p7⟩ | ⟨σ3, τ3, p1, p2, p3⟩
    · rw [p6, p7, Option.bind_some]
      dsimp only
      rw [in10, c_bkadd s1.2.2.2.2.2.2.1 (by omega)]
      have hP : PS (bkw σ1 n 12 (-1) (σ1 64 7)) (zset τ1 0 18 (σ1 64 7)) L 400 a1 := d5.fr (fun i _ => by rw [bkw_ne (by decide) (by decide)]) (bkw_ne (by decide) (by decide)) (fun i hi => zi (by omega)) (zk (by decide))
      obtain ⟨σ2, τ2, a2, g1, g2, g3, g4, g5, g6⟩ := hP.adv (by rw [zi (by decide), p2]; decide)
      have e18 : τ2 0 18 = σ1 64 7 := by rw [g4 0 18 (by unfold lxM; omega), zs]
      rw [g1, g2]
      repeat rw [Option.bind_some]
      dsimp only
      rw [in10, w32_id (x := 3 * (n : Int)) (by omega) (by omega), if_pos (zin_t (by omega) (by omega)), w32_id (x := 3 * (n : Int) + 1) (by omega) (by omega), if_pos (zin_t (by omega) (by omega)), show Int.toNat (3 * (n : Int)) = 3 * n by omega, show Int.toNat (3 * (n : Int) + 1) = 3 * n + 1 by omega, zk (show (0 : Nat) ≠ 9 by decide), e18]
      refine ⟨σ2, _, 1, rfl, rfl, (d3.w.d.trans bkw_fr).trans g3.w.d, ((d4.w.d.trans FdM.s18).trans g4.w.d).trans (FdM.s9.trans FdM.s9), Or.inl ⟨rfl, by omega, a2, s1.more (by omega) (g5.fr (fun _ _ => rfl) rfl (fun i _ => by rw [zk (by decide), zk (by decide)]) (by rw [zk (by decide), zk (by decide)])) (fun j i h1 h2 h3 => ?_) (fun j i h1 h2 => ?_) ?_ ?_⟩⟩
      · rw [g3.w j i h1]; exact bkw_i (by omega) h3
      · by_cases j9 : j = 9
        · subst j9
          rw [zi (by omega), zi (by omega), g4.cell (by decide), zk (by decide)]
        · rw [zk j9, zk j9, g4.w j i h1]
          by_cases j0 : j = 0
          · subst j0; rw [zi (by omega)]
          · rw [zk j0]
      · rw [g3 320 3 (by unfold lxC; omega), bkw_0]
      · unfold BkE
        rw [g3.cell (show (321 : Nat) ≠ 64 by decide), g3.cell (show (322 : Nat) ≠ 64 by decide), g3.cell (show (323 : Nat) ≠ 64 by decide), bkw_1, bkw_2, bkw_3, zs, zi (show 3 * n ≠ 3 * n + 1 by omega), zs]
        exact Or.inl ⟨rfl, rfl, rfl, p4, p5⟩
    · rw [p1, p2]
      repeat rw [Option.bind_some]
      dsimp only
      rw [in00, in00]
      repeat rw [Option.bind_some]
      exact Bln.bad d3.w.d d4.w.d p3
theorem nam0 {nm : Nat → Int} {kn : Nat} (h : NamR σ kn nm a) : NamR σ kn (fun i => nm (0 + i)) a := h.gen (fun _ _ _ => rfl) rfl rfl rfl rfl (fun s m _ _ => by rw [Nat.zero_add])
theorem bk_reads (h : DS a k L ax n n σ τ) (hn : n < 30) {t : Nat} (ht : (t : Int) < a 4) : Bln a k L n σ τ (f_Daybook_readReads σ (k + 32) (t : Int)) (f_M_bookLine_172 (zset τ 9 (3 * n) 1) ((3 * n : Nat) : Int) (t : Int) ((3 * n + 1 : Nat) : Int) (t : Int)) := by
  have e7 := h.2.2.2.2.1
  have hP0 : PS σ (zset (zset τ 9 (3 * n) 1) 9 (3 * n + 1) (t : Int)) L 400 ax := h.1.fr (fun _ _ => rfl) rfl (fun i _ => by rw [zk (by decide), zk (by decide)]) (by rw [zk (by decide), zk (by decide)])
  have s0 : DS a k L ax n n σ (zset (zset τ 9 (3 * n) 1) 9 (3 * n + 1) (t : Int)) := h.mv hP0 (fun _ _ _ _ => rfl) (fun j i h1 h2 => by
    by_cases j9 : j = 9
    · subst j9; rw [zi (by omega), zi (by omega)]
    · rw [zk j9, zk j9])
  have w13 : f_M_isWord (zset (zset τ 9 (3 * n) 1) 9 (3 * n + 1) (t : Int)) 491327153267 = some (_, if σ 64 6 = 13 then 1 else 0) := m_isWord (i := 13) (by decide) hP0.tok
  have g0 : FdM τ (zset (zset τ 9 (3 * n) 1) 9 (3 * n + 1) (t : Int)) := FdM.s9.trans FdM.s9
  have x0 : zset (zset τ 9 (3 * n) 1) 9 (3 * n + 1) (t : Int) 9 (3 * n) = 1 := by rw [zi (by omega), zs]
  have y0 : zset (zset τ 9 (3 * n) 1) 9 (3 * n + 1) (t : Int) 9 (3 * n + 1) = (t : Int) := zs
  have c4 := h.2.2.1.2.2.2.2.1
  rw [e_Daybook_readReads, e_M_bookLine_172, if_pos (zin_t (by omega) (by omega)), if_pos (show (0 : Int) ≤ (t : Int) by omega), show Int.toNat ((3 * n + 1 : Nat) : Int) = 3 * n + 1 from rfl, w13, Option.bind_some]
  dsimp only
  generalize zset (zset τ 9 (3 * n) 1) 9 (3 * n + 1) (t : Int) = τ0 at *
  refine Bln.step FdC.refl g0 ?_
  by_cases h13 : σ 64 6 = 13
  · have hT := key_T hP0.tok (by omega)
    obtain ⟨σ1, τ1, a1, d1, d2, d3, d4, d5, d6⟩ := hP0.adv (by omega)
    rw [if_pos h13, if_pos h13, in10, d1, d2, Option.bind_some, Option.bind_some, w32_id (x := ((3 * n : Nat) : Int) + 2) (by omega) (by omega), if_pos (zin_t (by omega) (by omega)), show Int.toNat (((3 * n : Nat) : Int) + 2) = 3 * n + 2 by omega]
    dsimp only
    have hP1 : PS σ1 (zset τ1 9 (3 * n + 2) (-1)) L 400 a1 := d5.fr (fun _ _ => rfl) rfl (fun i _ => by rw [zk (by decide)]) (zk (by decide))
    have s1 : DS a k L a1 n n σ1 (zset τ1 9 (3 * n + 2) (-1)) := s0.mv hP1 (fun j i h1 h2 => d3.w j i h1) (fun j i h1 h2 => by
      by_cases j9 : j = 9
      · subst j9; rw [zi (by omega), d4.cell (by decide)]
      · rw [zk j9]; exact d4.w j i h1)
    have w14 : f_M_isWord (zset τ1 9 (3 * n + 2) (-1)) 1852796517 = some (_, if σ1 64 6 = 14 then 1 else 0) := m_isWord (i := 14) (by decide) hP1.tok
    have x1 : zset τ1 9 (3 * n + 2) (-1) 9 (3 * n) = 1 := by rw [zi (by omega), d4.cell (by decide)]; exact x0
    have y1 : zset τ1 9 (3 * n + 2) (-1) 9 (3 * n + 1) = (t : Int) := by rw [zi (by omega), d4.cell (by decide)]; exact y0
    have z1 : zset τ1 9 (3 * n + 2) (-1) 9 (3 * n + 2) = -1 := zs
    have g1 : FdM τ0 (zset τ1 9 (3 * n + 2) (-1)) := d4.w.d.trans FdM.s9
    rw [w14, Option.bind_some]
    dsimp only
    generalize zset τ1 9 (3 * n + 2) (-1) = τ2 at *
    by_cases h14 : σ1 64 6 = 14
    · have hT1 := key_T hP1.tok (by omega)
      obtain ⟨σ3, τ3, a3, r1, r2, r3, r4, r5⟩ := bk_end s1 hn (by omega) (τm := τ2) (v := 13) (s := (t : Int)) (o := -1) (fun _ _ _ _ => rfl) (Or.inr (Or.inl ⟨rfl, x1, by rw [y1], by rw [y1]; omega, by rw [y1]; exact ht, by rw [z1]⟩))
      rw [if_neg (fun x => x h14), if_pos h14, if_neg (show ¬ (1 : Int) = 0 by decide), r1, r2, Option.bind_some, Option.bind_some]
      exact ⟨σ3, τ3, 1, rfl, rfl, d3.w.d.trans r3, g1.trans r4, Or.inl ⟨rfl, hn, a3, r5⟩⟩
    · rw [if_pos h14, if_neg h14, i00, s1.2.2.2.2.1]
      rcases told_both (g := 0) (s := 0) hP1 s1.2.1 s1.2.2.2.1 s1.2.2.1 (Or.inl rfl) (by decide) with ⟨m, u1, u2, u3, u4, u5⟩ | ⟨σ6, τ6, u1, u2, u3⟩
      · have u4' : f_Tape_toldName σ1 (k + 32) 0 = some (σ1, (m : Int)) := u4
        have u5' : f_M_looksAt τ2 0 (a 0) = some (zset τ2 0 18 (m : Int), 1) := u5
        have z18 : zset τ2 0 18 (m : Int) 0 18 = (m : Int) := zs
        obtain ⟨σ3, τ3, a3, r1, r2, r3, r4, r5⟩ := bk_end s1 hn (by omega) (τm := zset (zset τ2 0 18 (m : Int)) 9 (3 * n + 2) (m : Int)) (v := 13) (s := (t : Int)) (o := (m : Int)) (fun j i h1 h2 => by
          by_cases j9 : j = 9
          · subst j9; rw [zi (by omega), zk (by decide)]
          · rw [zk j9]
            by_cases j0 : j = 0
            · subst j0; rw [zi (by omega)]
            · rw [zk j0]) (Or.inr (Or.inl ⟨rfl, by rw [zi (by omega), zk (by decide)]; exact x1, by rw [zi (by omega), zk (by decide), y1], by rw [zi (by omega), zk (by decide), y1]; omega, by rw [zi (by omega), zk (by decide), y1]; exact ht, by rw [zs]⟩))
        rw [u4', u5', Option.bind_some, Option.bind_some]
        dsimp only
        simp only [z18]
        rw [if_neg (show ¬ (m : Int) = -1 by omega), in10, if_pos (zin_t (by omega) (by omega)), r1, r2, Option.bind_some, Option.bind_some]
        dsimp only
        rw [if_neg (show ¬ (1 : Int) = 0 by decide)]
        exact ⟨σ3, τ3, 1, rfl, rfl, d3.w.d.trans r3, g1.trans r4, Or.inl ⟨rfl, hn, a3, r5⟩⟩
      · have u1' : f_Tape_toldName σ1 (k + 32) 0 = some (σ6, -1) := u1
        have u2' : f_M_looksAt τ2 0 (a 0) = some (τ6, 0) := u2
        rw [u1', u2', Option.bind_some, Option.bind_some]
        dsimp only
        rw [if_pos rfl, in00]
        exact Bln.bad d3.w.d g1 u3
  · obtain ⟨σb, τb, b1, b2, b3⟩ := bad_both hP0 1
    rw [if_neg h13, if_neg h13, in00, b1, b2]
    exact Bln.bad FdC.refl FdM.refl b3
theorem bk_awake (h : DS a k L ax n n σ τ) (hn : n < 30) {e : Nat} (he : (e : Int) < a 2) : Bln a k L n σ τ (f_Daybook_readAwake σ (e : Int)) (f_M_bookLine_172 (zset τ 9 (3 * n) 2) ((3 * n : Nat) : Int) (-1) ((3 * n + 1 : Nat) : Int) (e : Int)) := by
  have hP0 : PS σ (zset (zset τ 9 (3 * n) 2) 9 (3 * n + 1) (e : Int)) L 400 ax := h.1.fr (fun _ _ => rfl) rfl (fun i _ => by rw [zk (by decide), zk (by decide)]) (by rw [zk (by decide), zk (by decide)])
  have s0 : DS a k L ax n n σ (zset (zset τ 9 (3 * n) 2) 9 (3 * n + 1) (e : Int)) := h.mv hP0 (fun _ _ _ _ => rfl) (fun j i h1 h2 => by
    by_cases j9 : j = 9
    · subst j9; rw [zi (by omega), zi (by omega)]
    · rw [zk j9, zk j9])
  have w15 : f_M_isWord (zset (zset τ 9 (3 * n) 2) 9 (3 * n + 1) (e : Int)) 512735536499 = some (_, if σ 64 6 = 15 then 1 else 0) := m_isWord (i := 15) (by decide) hP0.tok
  have w16 : f_M_isWord (zset (zset τ 9 (3 * n) 2) 9 (3 * n + 1) (e : Int)) 126909394808947 = some (_, if σ 64 6 = 16 then 1 else 0) := m_isWord (i := 16) (by decide) hP0.tok
  have g0 : FdM τ (zset (zset τ 9 (3 * n) 2) 9 (3 * n + 1) (e : Int)) := FdM.s9.trans FdM.s9
  have x0 : zset (zset τ 9 (3 * n) 2) 9 (3 * n + 1) (e : Int) 9 (3 * n) = 2 := by rw [zi (by omega), zs]
  have y0 : zset (zset τ 9 (3 * n) 2) 9 (3 * n + 1) (e : Int) 9 (3 * n + 1) = (e : Int) := zs
  rw [e_Daybook_readAwake, e_M_bookLine_172, if_pos (zin_t (by omega) (by omega)), if_neg (show ¬ (0 : Int) ≤ -1 by decide), show Int.toNat ((3 * n + 1 : Nat) : Int) = 3 * n + 1 from rfl, w15, Option.bind_some]
  dsimp only
  generalize zset (zset τ 9 (3 * n) 2) 9 (3 * n + 1) (e : Int) = τ0 at *
  refine Bln.step FdC.refl g0 ?_
  have hm : ∀ (v : Int) (j i : Nat), ¬ (j = 0 ∧ i = 18) → ¬ (j = 9 ∧ 3 * n ≤ i) → zset τ0 9 (3 * n + 2) v j i = τ0 j i := fun v j i h1 h2 => by
    by_cases j9 : j = 9
    · subst j9; rw [zi (by omega)]
    · rw [zk j9]
  by_cases h15 : σ 64 6 = 15
  · have hT := key_T hP0.tok (by omega)
    obtain ⟨σ3, τ3, a3, r1, r2, r3, r4, r5⟩ := bk_end s0 hn (by omega) (τm := zset τ0 9 (3 * n + 2) 1) (v := 15) (s := (e : Int)) (o := -1) (hm 1) (Or.inr (Or.inr ⟨Or.inl ⟨rfl, zs⟩, by rw [zi (by omega)]; exact x0, by rw [zi (by omega), y0], by rw [zi (by omega), y0]; omega, by rw [zi (by omega), y0]; exact he⟩))
    rw [if_pos h15, if_pos h15, in10, e_M_bookLine_203, w15, if_pos h15, Option.bind_some, h15, r1, Option.bind_some]
    dsimp only
    rw [if_neg (show ¬ (1 : Int) = 0 by decide), w32_id (x := ((3 * n : Nat) : Int) + 2) (by omega) (by omega), if_pos (zin_t (by omega) (by omega)), show Int.toNat (((3 * n : Nat) : Int) + 2) = 3 * n + 2 by omega, r2, Option.bind_some]
    exact ⟨σ3, τ3, 1, rfl, rfl, r3, r4, Or.inl ⟨rfl, hn, a3, r5⟩⟩
  · rw [if_neg h15, if_neg h15, in00, w16, Option.bind_some]
    dsimp only
    by_cases h16 : σ 64 6 = 16
    · have hT := key_T hP0.tok (by omega)
      obtain ⟨σ3, τ3, a3, r1, r2, r3, r4, r5⟩ := bk_end s0 hn (by omega) (τm := zset τ0 9 (3 * n + 2) 0) (v := 16) (s := (e : Int)) (o := -1) (hm 0) (Or.inr (Or.inr ⟨Or.inr ⟨rfl, zs⟩, by rw [zi (by omega)]; exact x0, by rw [zi (by omega), y0], by rw [zi (by omega), y0]; omega, by rw [zi (by omega), y0]; exact he⟩))
      rw [if_pos h16, if_pos h16, in10, e_M_bookLine_203, w15, if_neg h15, Option.bind_some, h16, r1, Option.bind_some]
      dsimp only
      rw [if_pos (show (0 : Int) = 0 from rfl), w32_id (x := ((3 * n : Nat) : Int) + 2) (by omega) (by omega), if_pos (zin_t (by omega) (by omega)), show Int.toNat (((3 * n : Nat) : Int) + 2) = 3 * n + 2 by omega, r2, Option.bind_some]
      exact ⟨σ3, τ3, 1, rfl, rfl, r3, r4, Or.inl ⟨rfl, hn, a3, r5⟩⟩
    · obtain ⟨σb, τb, b1, b2, b3⟩ := bad_both hP0 1
      rw [if_neg h16, if_neg h16, in00, b1, b2]
      exact Bln.bad FdC.refl FdM.refl b3
theorem bk_line (h : DS a k L ax n n σ τ) : Bln a k L n σ τ (f_Daybook_readLine σ (k + 32)) (f_M_bookLine τ) := by
  by_cases hk : σ 64 6 = 12
  · exact bk_days h hk
  have hn30 := h.2.2.2.2.2.2.2.2.1
  have e320 := h.2.2.2.2.2.2.1
  have e33 := h.2.2.2.2.2.2.2.1
  have e7 := h.2.2.2.2.1
  have hN := h.2.2.2.1
  obtain ⟨c0, c1, c2, c3, c4, c5⟩ := h.2.2.1
  have w12 : f_M_isWord τ 6578553 = some (τ, if σ 64 6 = 12 then 1 else 0) := m_isWord (i := 12) (by decide) h.1.tok
  rw [e_Daybook_readLine, if_pos hk, e_Daybook_readLine_19, in00, c_isName, Option.bind_some, e_M_bookLine, w12, if_neg hk, Option.bind_some]
  dsimp only
  rw [i00, m_isName h.2.1 h.1.tok, Option.bind_some]
  dsimp only
  by_cases hn : isNm σ
  · have hn' : σ 64 4 = 2 ∧ σ 64 6 = -1 := hn
    obtain ⟨n1, n2⟩ := h.1.name hn
    have f3 := m_find (τ := τ) (f := 24) (many := τ 7 4) (by rw [e7]; omega)
    have f2 := m_find (τ := τ) (f := 18) (many := τ 7 2) (by rw [e7]; omega)
    have x24 : ∀ m : Nat, (m : Int) < a 4 → τ 10 (24 + m) = σ 64 8 → Told (fun i => τ 10 (0 + i)) a (σ 64 8) 3 m := fun m h1 h2 => ⟨by decide, h1, by rw [← h2]; exact congrArg (τ 10) (by show 0 + (24 + m) = 24 + m; omega)⟩
    have x18 : ∀ m : Nat, (m : Int) < a 2 → τ 10 (18 + m) = σ 64 8 → Told (fun i => τ 10 (0 + i)) a (σ 64 8) 2 m := fun m h1 h2 => ⟨by decide, h1, by rw [← h2]; exact congrArg (τ 10) (by show 0 + (18 + m) = 18 + m; omega)⟩
    have y24 : ∀ m : Nat, Told (fun i => τ 10 (0 + i)) a (σ 64 8) 3 m → τ 10 (24 + m) = σ 64 8 := fun m hT => by rw [← hT.2.2]; exact congrArg (τ 10) (by show 24 + m = 0 + (24 + m); omega)
    have y18 : ∀ m : Nat, Told (fun i => τ 10 (0 + i)) a (σ 64 8) 2 m → τ 10 (18 + m) = σ 64 8 := fun m hT => by rw [← hT.2.2]; exact congrArg (τ 10) (by show 18 + m = 0 + (18 + m); omega)
    rw [e7, ← n2] at f3 f2
    rw [if_pos hn', in10, in10, e7]
    rcases c_find hN (σ 64 8) with ⟨i, s, m, i1, i2, i3, i4, i5⟩ | ⟨i1, i2⟩
    · rw [i3, Option.bind_some]
      dsimp only
      rw [if_neg (show ¬ (i : Int) = -1 by omega), if_pos (zin_t (by omega) (by omega)), show Int.toNat (i : Int) = i from rfl]
      simp only [i4, i5]
      have hs4 : s = 0 ∨ s = 1 ∨ s = 2 ∨ s = 3 := by have := i2.1; omega
      by_cases hs2 : 2 ≤ s
      · rw [if_pos (show (2 : Int) ≤ (s : Int) by omega), if_pos (zin_t (by omega) (by omega)), if_pos (zin_t (by omega) (by omega)), e_Daybook_readLine_89, e320]
        have hfind : ∃ T E : Int, f_M_find τ 24 (a 4) = some (τ, T) ∧ f_M_find τ 18 (a 2) = some (τ, E) ∧ ((s = 3 ∧ T = (m : Int)) ∨ (s = 2 ∧ T = -1 ∧ E = (m : Int))) := by
          rcases f3 with ⟨mt, t1, t2, t3⟩ | ⟨t1, t2⟩
          · have hTt := told_one hN i2 (x24 mt t1 t2)
            rcases f2 with ⟨me, u1, u2, u3⟩ | ⟨u1, u2⟩
            · exact ⟨_, _, t3, u3, Or.inl ⟨by omega, by omega⟩⟩
            · exact ⟨_, _, t3, u2, Or.inl ⟨by omega, by omega⟩⟩
          · have hs : s = 2 := by
              rcases hs4 with h0 | h0 | h0 | h0
              · omega
              · omega
              · exact h0
              · exfalso
                subst h0
                exact t1 m i2.2.1 (y24 m i2)
            rcases f2 with ⟨me, u1, u2, u3⟩ | ⟨u1, u2⟩
            · have hTu := told_one hN i2 (x18 me u1 u2)
              exact ⟨_, _, t2, u3, Or.inr ⟨hs, rfl, by omega⟩⟩
            · exfalso
              subst hs
              exact u1 m i2.2.1 (y18 m i2)
        obtain ⟨T, E, q1, q2, q3⟩ := hfind
        rw [q1, Option.bind_some]
        dsimp only
        rw [e7, q2, Option.bind_some]
        dsimp only
        have hM : (if 0 ≤ T then f_M_bookLine_122 τ (w32 (3 * (τ 0 33))) T E else if 0 ≤ E then f_M_bookLine_122 τ (w32 (3 * (τ 0 33))) T E else (f_M_bad τ 3).bind fun r5 => some (r5.1, r5.2)) = f_M_bookLine_122 τ ((3 * n : Nat) : Int) T E := by
          rw [e33, w32_id (x := 3 * (n : Int)) (by omega) (by omega), show 3 * (n : Int) = ((3 * n : Nat) : Int) by omega]
          rcases q3 with ⟨p1, p2⟩ | ⟨p1, p2, p3⟩
          · rw [if_pos (show (0 : Int) ≤ T by omega)]
          · rw [if_neg (show ¬ (0 : Int) ≤ T by omega), if_pos (show (0 : Int) ≤ E by omega)]
        rw [hM, e_M_bookLine_122]
        by_cases h30 : n = 30
        · obtain ⟨σb, τb, b1, b2, b3⟩ := bad_both h.1 4
          rw [if_neg (show ¬ (n : Int) < 30 by omega), if_neg (show ¬ ¬ τ 0 33 = 30 by omega), b1, b2]
          exact Bln.bad FdC.refl FdM.refl b3
        · obtain ⟨σ1, τ1, a1, d1, d2, d3, d4, d5, d6⟩ := h.1.adv (by omega)
          have s1 : DS a k L a1 n n σ1 τ1 := h.mv d5 (fun j i h1 h2 => d3.w j i h1) (fun j i h1 h2 => d4.w j i h1)
          rw [if_pos (show (n : Int) < 30 by omega), if_pos (show ¬ τ 0 33 = 30 by omega), d1, d2, Option.bind_some, Option.bind_some]
          dsimp only
          rw [if_pos (show (0 : Int) = 0 from rfl)]
          have hidx : w32 (((3 * n : Nat) : Int) + 1) = ((3 * n + 1 : Nat) : Int) := by rw [w32_id (by omega) (by omega)]; omega
          rcases q3 with ⟨p1, p2⟩ | ⟨p1, p2, p3⟩
          · subst p1
            rw [if_neg (show ¬ ¬ ((3 : Nat) : Int) = 3 from fun x => x rfl), obind, p2, if_neg (show ¬ (m : Int) < 0 by omega), if_pos (zin_t (by omega) (by omega)), if_neg (show ¬ (m : Int) < 0 by omega), hidx, show Int.toNat ((3 * n : Nat) : Int) = 3 * n from rfl]
            exact Bln.step d3.w.d d4.w.d (bk_reads s1 (by omega) i2.2.1)
          · subst p1
            rw [if_pos (show ¬ ((2 : Nat) : Int) = 3 by decide), obind, p2, p3, if_pos (show (-1 : Int) < 0 by decide), if_pos (zin_t (by omega) (by omega)), if_pos (show (-1 : Int) < 0 by decide), hidx, show Int.toNat ((3 * n : Nat) : Int) = 3 * n from rfl]
            exact Bln.step d3.w.d d4.w.d (bk_awake s1 (by omega) i2.2.1)
      · obtain ⟨σb, τb, b1, b2, b3⟩ := bad_both h.1 3
        rw [if_neg (show ¬ (2 : Int) ≤ (s : Int) by omega)]
        rcases f3 with ⟨mt, t1, t2, t3⟩ | ⟨t1, t2⟩
        · exfalso
          have := told_one hN i2 (x24 mt t1 t2)
          omega
        · rcases f2 with ⟨me, u1, u2, u3⟩ | ⟨u1, u2⟩
          · exfalso
            have := told_one hN i2 (x18 me u1 u2)
            omega
          · have t2' : f_M_find τ 24 (a 4) = some (τ, -1) := t2
            have u2' : f_M_find τ 18 (a 2) = some (τ, -1) := u2
            rw [t2', Option.bind_some]
            dsimp only
            rw [e7, u2', Option.bind_some]
            dsimp only
            rw [if_neg (show ¬ (0 : Int) ≤ -1 by decide), if_neg (show ¬ (0 : Int) ≤ -1 by decide), b1, b2]
            exact Bln.bad FdC.refl FdM.refl b3
    · obtain ⟨σb, τb, b1, b2, b3⟩ := bad_both h.1 3
      rw [i2, Option.bind_some]
      dsimp only
      rw [if_pos rfl]
      rcases f3 with ⟨mt, t1, t2, t3⟩ | ⟨t1, t2⟩
      · exact absurd (x24 mt t1 t2) (i1 3 mt)
      · rcases f2 with ⟨me, u1, u2, u3⟩ | ⟨u1, u2⟩
        · exact absurd (x18 me u1 u2) (i1 2 me)
        · have t2' : f_M_find τ 24 (a 4) = some (τ, -1) := t2
          have u2' : f_M_find τ 18 (a 2) = some (τ, -1) := u2
          rw [t2', Option.bind_some]
          dsimp only
          rw [e7, u2', Option.bind_some]
          dsimp only
          rw [if_neg (show ¬ (0 : Int) ≤ -1 by decide), if_neg (show ¬ (0 : Int) ≤ -1 by decide), b1, b2]
          exact Bln.bad FdC.refl FdM.refl b3
  · have hn' : ¬ (σ 64 4 = 2 ∧ σ 64 6 = -1) := hn
    obtain ⟨σb, τb, b1, b2, b3⟩ := bad_both h.1 1
    rw [if_neg hn', in00, in00, b1, b2]
    exact Bln.bad FdC.refl FdM.refl b3
end G67
