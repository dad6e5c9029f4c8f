/-! LINES of a country, both sides: what is so between two tokens; a term -/
section G59
variable {σ τ σ' τ' σ1 τ1 : zH} {k L a n : Nat} {b : Nat → Int}
def FcC (k : Nat) (σ σ' : zH) : Prop := ∀ j i, ¬ (j = 64 ∧ 3 ≤ i) → ¬ (j = 32 ∧ 3 ≤ i ∧ i ≤ 6) → ¬ (k ≤ j ∧ j < k + 64) → σ' j i = σ j i
def FcM (τ τ' : zH) : Prop := ∀ j i, ¬ (j = 0 ∧ (i = 4 ∨ (11 ≤ i ∧ i ≤ 18))) → j ≠ 8 → ¬ (j = 10 ∧ 30 ≤ i) → τ' j i = τ j i
theorem FcC.refl : FcC k σ σ := fun _ _ _ _ _ => rfl
theorem FcM.refl : FcM τ τ := fun _ _ _ _ _ => rfl
theorem FcC.trans (h : FcC k σ σ1) (g : FcC k σ1 σ') : FcC k σ σ' := fun j i h1 h2 h3 => by rw [g j i h1 h2 h3, h j i h1 h2 h3]
theorem FcM.trans (h : FcM τ τ1) (g : FcM τ1 τ') : FcM τ τ' := fun j i h1 h2 h3 => by rw [g j i h1 h2 h3, h j i h1 h2 h3]
theorem FwC.c (h : FwC σ σ') : FcC k σ σ' := fun j i h1 _ _ => h j i h1
theorem FwM.c (h : FwM τ τ') : FcM τ τ' := fun j i h1 _ _ => h j i h1
theorem FcC.s32 {i : Nat} {v : Int} (h : 3 ≤ i ∧ i ≤ 6) : FcC k σ (zset σ 32 i v) := fun j i' h1 h2 h3 => by
  by_cases j4 : j = 32
  · subst j4; rw [zi (by omega)]
  · rw [zk j4]
theorem FcM.s8 {i : Nat} {v : Int} : FcM τ (zset τ 8 i v) := fun j i' h1 h2 h3 => zk (by omega) ▸ rfl
theorem FcM.s10 {i : Nat} {v : Int} (h : 30 ≤ i) : FcM τ (zset τ 10 i v) := fun j i' h1 h2 h3 => by
  by_cases j4 : j = 10
  · subst j4; rw [zi (by omega)]
  · rw [zk j4]
theorem FcM.s18 {v : Int} : FcM τ (zset τ 0 18 v) := (FwM.set (by omega)).c
/-- a country that is read, at a token -/
def CS (σ τ : zH) (k L a : Nat) : Prop := PS σ τ L 900 a ∧ CB σ τ k ∧ ResR τ
/-- less of it -/
def QS (σ τ : zH) (k L a : Nat) (b : Nat → Int) : Prop := PS σ τ L 900 a ∧ isLand k ∧ σ 32 1 = (k : Int) ∧ wfC b ∧ NamR σ (k + 32) (fun i => τ 10 (30 + i)) b ∧ ResR τ ∧ (τ 8 0 = b 0 ∧ τ 8 1 = b 1 ∧ τ 8 2 = b 2 ∧ τ 8 4 = b 4)
theorem CS.q (h : CS σ τ k L a) : QS σ τ k L a (τ 8) := ⟨h.1, h.2.1.1, h.2.1.2.1, h.2.1.2.2.2.1.1, h.2.1.2.2.2.2.1, h.2.2, rfl, rfl, rfl, rfl⟩
theorem QS.hz (h : QS σ τ k L a b) : zio 1 (σ 32 1) = true := by
  rw [h.2.2.1]
  rcases h.2.1 with rfl | rfl <;> rfl
theorem QS.hk (h : QS σ τ k L a b) : Int.toNat (σ 32 1) = k := by rw [h.2.2.1]; rfl
theorem QS.fr (h : QS σ τ k L a b) (s64 : ∀ i, i ≠ 10 → σ' 64 i = σ 64 i) (s65 : σ' 65 = σ 65) (s32 : σ' 32 1 = σ 32 1) (sk : ∀ j, k + 32 ≤ j → j ≤ k + 35 → σ' j = σ j) (t0 : ∀ i, i = 3 ∨ i = 4 ∨ i = 5 ∨ i = 11 ∨ i = 12 ∨ i = 14 ∨ i = 15 ∨ i = 17 → τ' 0 i = τ 0 i) (t2 : τ' 2 = τ 2) (t11 : τ' 11 = τ 11) (t8 : ∀ i, i = 0 ∨ i = 1 ∨ i = 2 ∨ i = 4 → τ' 8 i = τ 8 i) (t10 : ∀ s m : Nat, s < 4 → (m : Int) < ncnt b s → τ' 10 (30 + (nbase s + m)) = τ 10 (30 + (nbase s + m))) : QS σ' τ' k L a b :=
  ⟨h.1.fr s64 s65 t0 t2, h.2.1, by rw [s32]; exact h.2.2.1, h.2.2.2.1, h.2.2.2.2.1.gen (fun j j0 j1 => sk j (by omega) (by omega)) rfl rfl rfl rfl t10, h.2.2.2.2.2.1.frame t11, by rw [t8 0 (by omega), t8 1 (by omega), t8 2 (by omega), t8 4 (by omega)]; exact h.2.2.2.2.2.2⟩
theorem QS.adv (h : QS σ τ k L a b) (hT : τ 0 11 ≠ 4) : ∃ σ' τ' a', f_Tape_advance σ = some (σ', 0) ∧ f_M_next τ = some (τ', 0) ∧ FrC σ σ' ∧ FrM τ τ' ∧ QS σ' τ' k L a' b ∧ (τ 0 11 ≠ 0 → τ' 0 11 ≠ 4 → a + 1 ≤ a') := by
  obtain ⟨σ', τ', a', h1, h2, h3, h4, h5, h6⟩ := h.1.adv hT
  have hl := h.2.1
  unfold isLand at hl
  refine ⟨σ', τ', a', h1, h2, h3, h4, ⟨h5, h.2.1, by rw [h3.cell (by decide)]; exact h.2.2.1, h.2.2.2.1, h.2.2.2.2.1.gen (fun j j0 j1 => h3.cell (by omega)) rfl rfl rfl rfl (fun _ _ _ _ => by rw [h4.cell (by decide)]), h.2.2.2.2.2.1.frame (h4.cell (by decide)), by rw [h4.cell (by decide)]; exact h.2.2.2.2.2.2⟩, h6⟩
theorem CS.adv (h : CS σ τ k L a) (hT : τ 0 11 ≠ 4) : ∃ σ' τ' a', f_Tape_advance σ = some (σ', 0) ∧ f_M_next τ = some (τ', 0) ∧ FrC σ σ' ∧ FrM τ τ' ∧ CS σ' τ' k L a' ∧ (τ 0 11 ≠ 0 → τ' 0 11 ≠ 4 → a + 1 ≤ a') := by
  obtain ⟨σ', τ', a', h1, h2, h3, h4, h5, h6⟩ := h.1.adv hT
  have hl := h.2.1.1
  unfold isLand at hl
  exact ⟨σ', τ', a', h1, h2, h3, h4, ⟨h5, h.2.1.fr (fun j j0 j1 => h3.cell (by omega)) (by rw [h3.cell (by decide)]) (h4.cell (by decide)) (fun _ _ _ _ => by rw [h4.cell (by decide)]), h.2.2.frame (h4.cell (by decide))⟩, h6⟩
theorem QS.told (h : QS σ τ k L a b) {s : Nat} (hs : s < 4) :
    (∃ m : Nat, (m : Int) < ncnt b s ∧ τ 0 11 = 1 ∧ f_Tape_toldName σ (k + 32) (s : Int) = some (σ, (m : Int)) ∧ f_M_looksAt τ ((30 + nbase s : Nat) : Int) (ncnt b s) = some (zset τ 0 18 (m : Int), 1)) ∨
    (∃ σ' τ', f_Tape_toldName σ (k + 32) (s : Int) = some (σ', -1) ∧ f_M_looksAt τ ((30 + nbase s : Nat) : Int) (ncnt b s) = some (τ', 0) ∧ Bad σ τ σ' τ') := by
  rcases told_both (g := 30) h.1 h.2.2.2.2.2.1 h.2.2.2.2.1 h.2.2.2.1 (Or.inr rfl) hs with ⟨m, h1, h2, h3, h4, h5⟩ | h1
  · exact Or.inl ⟨m, h1, h3, h4, h5⟩
  · exact Or.inr h1
theorem QS.term (h : QS σ τ k L a b) : (∃ m : Nat, (m : Int) < b 0 ∧ τ 0 11 = 1 ∧ f_Tape_toldName σ (k + 32) 0 = some (σ, (m : Int)) ∧ f_M_looksAtTerm τ = some (zset τ 0 18 (m : Int), 1)) ∨
    (∃ σ' τ', f_Tape_toldName σ (k + 32) 0 = some (σ', -1) ∧ f_M_looksAtTerm τ = some (τ', 0) ∧ Bad σ τ σ' τ') := by
  rw [e_M_looksAtTerm, h.2.2.2.2.2.2.1]
  rcases h.told (s := 0) (by decide) with ⟨m, h1, h2, h3, h4⟩ | ⟨σ', τ', h1, h2, h3⟩
  · have h4' : f_M_looksAt τ 30 (b 0) = some (zset τ 0 18 (m : Int), 1) := h4
    exact Or.inl ⟨m, h1, h2, h3, by rw [h4']; rfl⟩
  · have h2' : f_M_looksAt τ 30 (b 0) = some (τ', 0) := h2
    exact Or.inr ⟨σ', τ', h1, by rw [h2']; rfl, h3⟩
theorem QS.reach (h : QS σ τ k L a b) : (∃ m : Nat, (m : Int) < b 1 ∧ τ 0 11 = 1 ∧ f_Tape_toldName σ (k + 32) 1 = some (σ, (m : Int)) ∧ f_M_looksAtReach τ = some (zset τ 0 18 (m : Int), 1)) ∨
    (∃ σ' τ', f_Tape_toldName σ (k + 32) 1 = some (σ', -1) ∧ f_M_looksAtReach τ = some (τ', 0) ∧ Bad σ τ σ' τ') := by
  rw [e_M_looksAtReach, h.2.2.2.2.2.2.2.1]
  rcases h.told (s := 1) (by decide) with ⟨m, h1, h2, h3, h4⟩ | ⟨σ', τ', h1, h2, h3⟩
  · have h4' : f_M_looksAt τ 40 (b 1) = some (zset τ 0 18 (m : Int), 1) := h4
    exact Or.inl ⟨m, h1, h2, h3, by rw [h4']; rfl⟩
  · have h2' : f_M_looksAt τ 40 (b 1) = some (τ', 0) := h2
    exact Or.inr ⟨σ', τ', h1, by rw [h2']; rfl, h3⟩
theorem QS.editor (h : QS σ τ k L a b) : (∃ m : Nat, (m : Int) < b 2 ∧ τ 0 11 = 1 ∧ f_Tape_toldName σ (k + 32) 2 = some (σ, (m : Int)) ∧ f_M_looksAt τ 48 (τ 8 2) = some (zset τ 0 18 (m : Int), 1)) ∨
    (∃ σ' τ', f_Tape_toldName σ (k + 32) 2 = some (σ', -1) ∧ f_M_looksAt τ 48 (τ 8 2) = some (τ', 0) ∧ Bad σ τ σ' τ') := by
  rw [h.2.2.2.2.2.2.2.2.1]
  rcases h.told (s := 2) (by decide) with ⟨m, h1, h2, h3, h4⟩ | ⟨σ', τ', h1, h2, h3⟩
  · exact Or.inl ⟨m, h1, h2, h3, h4⟩
  · exact Or.inr ⟨σ', τ', h1, h2, h3⟩
theorem QS.town (h : QS σ τ k L a b) : (∃ m : Nat, (m : Int) < b 4 ∧ τ 0 11 = 1 ∧ f_Tape_toldName σ (k + 32) 3 = some (σ, (m : Int)) ∧ f_M_looksAt τ 54 (τ 8 4) = some (zset τ 0 18 (m : Int), 1)) ∨
    (∃ σ' τ', f_Tape_toldName σ (k + 32) 3 = some (σ', -1) ∧ f_M_looksAt τ 54 (τ 8 4) = some (τ', 0) ∧ Bad σ τ σ' τ') := by
  rw [h.2.2.2.2.2.2.2.2.2]
  rcases h.told (s := 3) (by decide) with ⟨m, h1, h2, h3, h4⟩ | ⟨σ', τ', h1, h2, h3⟩
  · exact Or.inl ⟨m, h1, h2, h3, h4⟩
  · exact Or.inr ⟨σ', τ', h1, h2, h3⟩
/-- other small cells are written: what was got, who, which -/
theorem CS.fr (h : CS σ τ k L a) (hσ : ∀ j i, ¬ (j = 32 ∧ 3 ≤ i ∧ i ≤ 6) → σ' j i = σ j i) (hτ : ∀ j i, ¬ (j = 0 ∧ i = 18) → τ' j i = τ j i) : CS σ' τ' k L a := by
  have hl := h.2.1.1
  unfold isLand at hl
  have c : ∀ j, j ≠ 32 → σ' j = σ j := fun j hj => funext (fun i => hσ j i (by omega))
  have m : ∀ j, j ≠ 0 → τ' j = τ j := fun j hj => funext (fun i => hτ j i (by omega))
  exact ⟨h.1.fr (fun i _ => hσ 64 i (by omega)) (c 65 (by decide)) (fun i hi => hτ 0 i (by omega)) (m 2 (by decide)), h.2.1.fr (fun j j0 j1 => c j (by omega)) (hσ 32 1 (by omega)) (m 8 (by decide)) (fun _ _ _ _ => by rw [m 10 (by decide)]), h.2.2.frame (m 11 (by decide))⟩
theorem CS.got (h : CS σ τ k L a) (v : Int) : CS σ (zset τ 0 18 v) k L a := h.fr (fun _ _ _ => rfl) (fun j i hj => by
  by_cases j0 : j = 0
  · subst j0; rw [zi (by omega)]
  · rw [zk j0])
theorem CS.s32 (h : CS σ τ k L a) {i : Nat} (hi : 3 ≤ i ∧ i ≤ 6) (v : Int) : CS (zset σ 32 i v) τ k L a := h.fr (fun j i' hj => by
  by_cases j0 : j = 32
  · subst j0; rw [zi (by omega)]
  · rw [zk j0]) (fun _ _ _ => rfl)
/-- the end of a line that adds -/
theorem CS.added {τ0 : zH} (hP : PS σ τ L 900 a) (hv : ResR τ) (hl : isLand k) (h32 : σ 32 1 = (k : Int)) (hA : Added σ σ' τ0 k b) (h8 : τ' 8 = b) (hτ : ∀ j, j ≠ 8 → τ' j = τ j) (h10 : τ 10 = τ0 10) : CS σ' τ' k L a := by
  obtain ⟨a1, a2, a3, a4, a5, a6⟩ := hA
  have hl' := hl
  unfold isLand at hl'
  refine ⟨hP.fr (fun i _ => by rw [a1 64 (by omega)]) (a1 65 (by omega)) (fun i _ => by rw [hτ 0 (by decide)]) (hτ 2 (by decide)), ⟨hl, by rw [a1 32 (by omega)]; exact h32, by rw [h8]; exact a2, by rw [h8]; exact a3, ?_, by rw [h8]; exact a5, by rw [h8]; exact a6⟩, hv.frame (hτ 11 (by decide))⟩
  rw [h8, hτ 10 (by decide), h10]
  exact a4
/-- a line, both sides -/
def Lin (k L a : Nat) (σ τ : zH) (C M : zR) : Prop := ∃ σ' τ' r, C = some (σ', r) ∧ M = some (τ', r) ∧ FcC k σ σ' ∧ FcM τ τ' ∧ ((r = 1 ∧ ∃ a', CS σ' τ' k L a' ∧ (τ' 0 11 ≠ 4 → a + 2 ≤ a')) ∨ (r = 0 ∧ Flt σ' τ'))
theorem Lin.bad (h : Bad σ τ σ' τ') : Lin k L a σ τ (some (σ', 0)) (some (τ', 0)) := ⟨σ', τ', 0, rfl, rfl, h.1.c, h.2.1.c, Or.inr ⟨rfl, h.2.2⟩⟩
theorem Lin.step {C M : zR} (f : FcC k σ σ1) (g : FcM τ τ1) (h : Lin k L a σ1 τ1 C M) : Lin k L a σ τ C M := by
  obtain ⟨σ', τ', r, h1, h2, h3, h4, h5⟩ := h
  exact ⟨σ', τ', r, h1, h2, f.trans h3, g.trans h4, h5⟩
theorem Added.fr {τ0 : zH} (h : Added σ σ' τ0 k b) : FcC k σ σ' := fun j i _ _ hj => by rw [h.1 j hj]
theorem Bad.pre (f : FcC k σ σ1) (g : FcM τ τ1) (h : Bad σ1 τ1 σ' τ') : Lin k L a σ τ (some (σ', 0)) (some (τ', 0)) := Lin.step f g (Lin.bad h)
/-- a new name, both sides -/
theorem newname (h : CS σ τ k L a) {to : Nat} (h0 : 30 ≤ to) (h1 : to < 60) (hfree : ∀ s m : Nat, s < 4 → (m : Int) < ncnt (τ 8) s → 30 + (nbase s + m) ≠ to) :
    (∃ σ' τ' a', f_CountryReader_readNewName σ = some (σ', 1) ∧ f_M_fresh τ (to : Int) = some (τ', 1) ∧ CS σ' τ' k L a' ∧ FcC k σ σ' ∧ FcM τ τ' ∧ τ' 8 = τ 8 ∧ τ' 10 to = σ' 32 3 ∧ (∀ s m, ¬ Told (fun i => τ' 10 (30 + i)) (τ' 8) (σ' 32 3) s m) ∧ (τ' 0 11 ≠ 4 → a + 1 ≤ a')) ∨
    (∃ σ' τ', f_CountryReader_readNewName σ = some (σ', 0) ∧ f_M_fresh τ (to : Int) = some (τ', 0) ∧ Bad σ τ σ' τ') := by
  have hq := h.q
  have hl := h.2.1.1
  unfold isLand at hl
  rw [e_CountryReader_readNewName, hq.hz, hq.hk, if_pos rfl]
  rcases new_both (to := to) h.1 h.2.2 h.2.1.2.2.2.2.1 hq.2.2.2.1 h1 with ⟨n1, n2, n3, n4, n5⟩ | ⟨σ', τ', n1, n2, n3⟩
  · rw [n4, n5, Option.bind_some]
    dsimp only
    rw [in10]
    have c1 : CS (zset σ 32 3 (σ 64 8)) (zset τ 10 to (σ 64 8)) k L a := by
      have c0 := h.s32 (i := 3) (by omega) (σ 64 8)
      refine ⟨c0.1.fr (fun _ _ => rfl) rfl (fun i _ => by rw [zk (by decide)]) (zk (by decide)), c0.2.1.fr (fun _ _ _ => rfl) rfl (zk (by decide)) (fun s m hs hm => zi (hfree s m hs hm)), c0.2.2.frame (zk (by decide))⟩
    obtain ⟨σ', τ', a', h5, h6, h7, h8, h9, h10⟩ := c1.adv (by rw [zk (by decide), n2]; decide)
    have e32 : σ' 32 3 = σ 64 8 := by rw [h7.cell (by decide), zs]
    have e10 : τ' 10 = zset τ 10 to (σ 64 8) 10 := h8.cell (by decide)
    have e8 : τ' 8 = τ 8 := by rw [h8.cell (by decide), zk (by decide)]
    rw [h5, h6, Option.bind_some, Option.bind_some]
    refine Or.inl ⟨σ', τ', a', rfl, rfl, h9, (FcC.s32 (by omega)).trans h7.w.c, (FcM.s10 h0).trans h8.w.c, e8, by rw [e32, e10, zs], fun s m hT => ?_, h10 (by rw [zk (by decide), n2]; decide)⟩
    rw [e32, e8] at hT
    refine n3 s m ⟨hT.1, hT.2.1, ?_⟩
    rw [← hT.2.2, e10]
    exact (zi (hfree s m hT.1 hT.2.1)).symm
  · rw [n1, n2, Option.bind_some]
    dsimp only
    rw [in00]
    exact Or.inr ⟨σ', τ', rfl, rfl, n3⟩
theorem nb_lt {s m : Nat} (hw : wfC b) (hs : s < 4) (hm : (m : Int) < ncnt b s) : (s = 0 ∧ nbase s + m < 10 ∧ nbase s + m = m ∧ (m : Int) < b 0) ∨ (s = 1 ∧ 10 ≤ nbase s + m ∧ nbase s + m < 18 ∧ nbase s + m = 10 + m ∧ (m : Int) < b 1) ∨ (s = 2 ∧ 18 ≤ nbase s + m ∧ nbase s + m < 24 ∧ nbase s + m = 18 + m ∧ (m : Int) < b 2) ∨ (s = 3 ∧ 24 ≤ nbase s + m ∧ nbase s + m < 30 ∧ nbase s + m = 24 + m ∧ (m : Int) < b 4) := by
  obtain ⟨c0, c1, c2, c3, c4, c5⟩ := hw
  have hs4 : s = 0 ∨ s = 1 ∨ s = 2 ∨ s = 3 := by omega
  rcases hs4 with rfl | rfl | rfl | rfl
  · have : nbase 0 = 0 := rfl
    have h2 : (m : Int) < b 0 := hm
    omega
  · have : nbase 1 = 10 := rfl
    have h2 : (m : Int) < b 1 := hm
    omega
  · have : nbase 2 = 18 := rfl
    have h2 : (m : Int) < b 2 := hm
    omega
  · have : nbase 3 = 24 := rfl
    have h2 : (m : Int) < b 4 := hm
    omega
theorem begins_y {x y : Int} (h : x < y) : f_CountryReader_begins σ x y = (f_Tape_advance σ).bind (fun r => some (r.1, 1)) := by rw [e_CountryReader_begins, if_pos h]
theorem begins_n {x y : Int} (h : ¬ x < y) : f_CountryReader_begins σ x y = (f_Tape_fail σ 4).bind (fun r => some (r.1, r.2)) := by rw [e_CountryReader_begins, if_neg h]
/-- a term's line in the reference -/
noncomputable def mTerm (τ : zH) (s : Int) : zR :=
  if ¬ (τ 8 0) = 10 then
    (f_M_next τ).bind fun r23 =>
    (f_M_fresh r23.1 (w32 (30 + (τ 8 0)))).bind fun r24 =>
    if ¬ r24.2 = 0 then
      if zin (w32 (6 + (τ 8 0))) 288 = true then
        some (zset (zset r24.1 8 (Int.toNat (w32 (6 + (τ 8 0)))) s) 8 0 (w32 (((zset r24.1 8 (Int.toNat (w32 (6 + (τ 8 0)))) s) 8 0) + 1)), 1)
      else none
    else
      some (r24.1, 0)
  else
    (f_M_bad τ 4).bind fun r25 =>
    some (r25.1, r25.2)
theorem l_term (h : CS σ τ k L a) (hT : τ 0 11 = 1) {s : Int} (s0 : 0 ≤ s) (s3 : s ≤ 3) : Lin k L a σ τ (f_CountryReader_readTerm σ s) (mTerm τ s) := by
  have hq := h.q
  obtain ⟨n, hn⟩ : ∃ n : Nat, τ 8 0 = (n : Int) := ⟨(τ 8 0).toNat, by have := h.2.1.2.2.2.1.1.1; omega⟩
  have hL0 := h.2.1.2.2.1.1.1
  have c0 := h.2.1.2.2.2.1.1.1
  unfold mTerm
  rw [e_CountryReader_readTerm, hq.hz, hq.hk, if_pos rfl, hL0, hn]
  by_cases h10 : n = 10
  · obtain ⟨σ', τ', b1, b2, b3⟩ := bad_both h.1 4
    rw [begins_n (by omega), b1, Option.bind_some, Option.bind_some, if_neg (show ¬ ¬ (n : Int) = 10 by omega), b2, Option.bind_some]
    dsimp only
    rw [i00]
    exact Lin.bad b3
  · obtain ⟨σ1, τ1, a1, d1, d2, d3, d4, d5, d6⟩ := h.adv (by omega)
    have e8 : τ1 8 = τ 8 := d4.cell (by decide)
    rw [begins_y (by omega), d1, Option.bind_some, Option.bind_some, if_pos (show ¬ (n : Int) = 10 by omega), d2, Option.bind_some]
    dsimp only
    rw [i10, w32_id (x := 30 + (n : Int)) (by omega) (by omega), show (30 : Int) + (n : Int) = ((30 + n : Nat) : Int) by omega]
    rcases newname d5 (to := 30 + n) (by omega) (by omega) (fun s m hs hm => by
      rw [e8] at hm
      rcases nb_lt hq.2.2.2.1 hs hm with q | q | q | q <;> omega) with ⟨σ2, τ2, a2, g1, g2, g3, g4, g5, g6, g7, g8, g9⟩ | ⟨σ2, τ2, g1, g2, g3⟩
    · have hT1 : τ1 0 11 ≠ 4 := by
        rcases new_both (to := 30 + n) d5.1 d5.2.2 d5.2.1.2.2.2.2.1 d5.q.2.2.2.1 (by omega) with ⟨n1, n2, -⟩ | ⟨σ3, τ3, n1, n2, n3⟩
        · rw [n2]; decide
        · exfalso
          have e := g2.symm.trans n2
          simp at e
      have e82 : τ2 8 = τ 8 := by rw [g6, e8]
      have a01 := d6 (by omega) hT1
      obtain ⟨σ3, x1, x2⟩ := c_addTerm (n := n) (s := s) g3.2.1 (by rw [e82]; exact hn) (by omega) s0 s3 g8 g7
      rw [g1, g2, Option.bind_some, Option.bind_some]
      dsimp only
      simp only [g3.q.hz, g3.q.hk, if_true]
      rw [in10, in10, x1, Option.bind_some, w32_id (x := 6 + (n : Int)) (by omega) (by omega), if_pos (zin_t (by omega) (by omega)), show Int.toNat (6 + (n : Int)) = 6 + n by omega, zi (show (0 : Nat) ≠ 6 + n by omega), e82, hn, w32_s (by omega)]
      rw [e82] at x2
      refine ⟨_, _, 1, rfl, rfl, (d3.w.c.trans g4).trans x2.fr, ((d4.w.c.trans g5).trans FcM.s8).trans FcM.s8, Or.inl ⟨rfl, a2, CS.added g3.1 g3.2.2 g3.2.1.1 g3.2.1.2.1 x2 (by rw [zset_upI, zset_upI, e82]) (fun j hj => by rw [zk hj, zk hj]) rfl, fun q => ?_⟩⟩
      rw [zk (by decide), zk (by decide)] at q
      have := g9 q
      omega
    · rw [g1, g2, Option.bind_some, Option.bind_some]
      dsimp only
      rw [in00, in00]
      exact Bad.pre d3.w.c d4.w.c g3
end G59
