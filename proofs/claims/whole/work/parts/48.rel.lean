/-! BOTH SIDES between two calls -/
section G18
variable {σ τ : zH} {k : Nat} {a b : Nat → Int}
def isLand (k : Nat) : Prop := k = 384 ∨ k = 448
def isRule (q : Nat) : Prop := q = 512 ∨ q = 544
def nbase (s : Nat) : Nat := if s = 0 then 0 else if s = 1 then 10 else if s = 2 then 18 else 24
def ncnt (a : Nat → Int) (s : Nat) : Int := if s = 0 then a 0 else if s = 1 then a 1 else if s = 2 then a 2 else a 4
/-- the names of a country: the class lists them as they were told -/
def NamR (σ : zH) (kn : Nat) (nm : Nat → Int) (a : Nat → Int) : Prop := ∃ (n : Nat) (S M : Nat → Nat), n ≤ 30 ∧ σ kn 3 = (n : Int) ∧ (n : Int) = a 0 + a 1 + a 2 + a 4 ∧
  (∀ i, i < n → S i < 4 ∧ (M i : Int) < ncnt a (S i) ∧ σ (kn + 2) i = (S i : Int) ∧ σ (kn + 3) i = (M i : Int) ∧ σ (kn + 1) i = nm (nbase (S i) + M i)) ∧
  (∀ s m : Nat, s < 4 → (m : Int) < ncnt a s → ∃ i, i < n ∧ S i = s ∧ M i = m) ∧ ∀ i j, i < n → j < n → nm (nbase (S i) + M i) = nm (nbase (S j) + M j) → i = j
/-- numbers of codes of a sentence -/
def opm (w : Int) : Int := if w = 0 then 13 else if w = 1 then 20 else if w = 2 then 21 else if w = 3 then 22 else if w = 4 then 23 else if w = 5 then 24 else if w = 6 then 25 else if w = 20 then 19 else if w = 21 then 18 else 17
def dep (c : Nat → Int) : Nat → Int
  | 0 => 0
  | i + 1 => dep c i + (if c (1 + 3 * i) < 20 then 1 else if c (1 + 3 * i) = 20 then 0 else -1)
def CodR (c : Nat → Int) (i : Nat) : Prop := ((0 ≤ c (1 + 3 * i) ∧ c (1 + 3 * i) ≤ 6) ∨ (20 ≤ c (1 + 3 * i) ∧ c (1 + 3 * i) ≤ 22)) ∧ (3 ≤ c (1 + 3 * i) → c (1 + 3 * i) ≤ 6 → 60 ≤ c (2 + 3 * i) ∧ c (2 + 3 * i) ≤ 62) ∧ (c (1 + 3 * i) = 20 → 1 ≤ dep c i) ∧ (21 ≤ c (1 + 3 * i) → 2 ≤ dep c i)
def RulR (σ : zH) (q : Nat) (c : Nat → Int) : Prop := ∃ n : Nat, n ≤ 40 ∧ c 0 = (n : Int) ∧ σ q 3 = (n : Int) ∧ (σ q 4 = 0 ↔ n = 0) ∧ (∀ i, i < n → CodR c i ∧ σ (q + 1) i = opm (c (1 + 3 * i)) ∧ σ (q + 2) i = c (2 + 3 * i) ∧ σ (q + 3) i = c (3 + 3 * i)) ∧ (∀ i, i ≤ n → dep c i ≤ 20) ∧ (0 < n → dep c n = 1)
def TapR (σ τ : zH) : Prop := ∃ L : Nat, L ≤ 940 ∧ σ 64 1 = (L : Int) ∧ τ 0 2 = (L : Int) ∧ ∀ i, i < L → -128 ≤ τ 2 i ∧ τ 2 i < 128 ∧ σ 65 i = τ 2 i % 256
def MisR (σ τ : zH) : Prop := σ 0 17 = τ 0 15 ∧ (∃ L : Nat, L ≤ 15 ∧ σ 0 15 = (L : Int) ∧ τ 0 27 = (L : Int) ∧ ∀ i, i < L → σ 10 i = τ 26 i) ∧ σ 0 16 = (if τ 0 32 = 0 then -1 else τ 0 31) ∧
  (σ 320 4 = τ 0 35 ∧ (τ 0 35 = 0 ∨ (τ 0 35 = 1 ∧ σ 320 5 = τ 35 0 ∧ σ 320 6 = τ 35 1 ∧ σ 320 7 = τ 35 2 ∧ σ 320 8 = τ 35 3))) ∧ σ 7 0 = 640 ∧ σ 7 1 = 896
/-- an image -/
def ImgR (σ τ : zH) (i : Nat) : Prop := (τ 46 i = 0 ∧ σ (640 + 256 * i) 3 = 0) ∨ (τ 46 i = 1 ∧ σ (640 + 256 * i) 3 = 1 ∧ ∃ d : Nat, LandR σ (704 + 256 * i) (fun j => τ 44 (2959 * i + j)) ∧ wfL (fun j => τ 44 (2959 * i + j)) ∧ NamR σ (736 + 256 * i) (fun j => τ 45 (30 * i + j)) (fun j => τ 44 (2959 * i + j)) ∧
  StrR σ (768 + 256 * i) (fun j => τ 44 (2959 * i + j)) d ∧ (∀ e, e < d → HisD σ (768 + 256 * i) (fun j => τ 44 (2959 * i + j)) e) ∧ RulR σ (800 + 256 * i) (fun j => τ 44 (2959 * i + (2778 + j))))
/-- the words that are no names -/
def ResR (τ : zH) : Prop := (∀ i, i < 26 → τ 11 i = zkw i) ∧ τ 11 26 = 0
theorem ResR.frame {τ' : zH} (h : ResR τ) (e : τ' 11 = τ 11) : ResR τ' := by
  unfold ResR at h ⊢
  rw [e]
  exact h
def Rl (σ τ : zH) (k q d : Nat) : Prop :=
  (isLand k ∧ σ 0 11 = (k : Int) ∧ σ 0 13 = ((832 - k : Nat) : Int)) ∧
  (isRule q ∧ σ 0 12 = (q : Int) ∧ σ 0 14 = ((1056 - q : Nat) : Int)) ∧
  (LandR σ k (τ 7)) ∧
  (wfL (τ 7)) ∧
  (NamR σ (k + 32) (τ 10) (τ 7)) ∧
  (StrR σ 96 (τ 7) d) ∧
  (∀ e, e < d → HisD σ 96 (τ 7) e) ∧
  (ActsR σ τ d) ∧
  (TapR σ τ) ∧
  (MisR σ τ) ∧
  (RulR σ q (fun j => τ 7 (2778 + j))) ∧
  (ImgR σ τ 0 ∧ ImgR σ τ 1 ∧ ResR τ)
theorem Rl.land {k q d : Nat} (h : Rl σ τ k q d) : isLand k ∧ σ 0 11 = (k : Int) ∧ σ 0 13 = ((832 - k : Nat) : Int) := h.1
theorem Rl.rule {k q d : Nat} (h : Rl σ τ k q d) : isRule q ∧ σ 0 12 = (q : Int) ∧ σ 0 14 = ((1056 - q : Nat) : Int) := h.2.1
theorem Rl.hL {k q d : Nat} (h : Rl σ τ k q d) : LandR σ k (τ 7) := h.2.2.1
theorem Rl.hw {k q d : Nat} (h : Rl σ τ k q d) : wfL (τ 7) := h.2.2.2.1
theorem Rl.hN {k q d : Nat} (h : Rl σ τ k q d) : NamR σ (k + 32) (τ 10) (τ 7) := h.2.2.2.2.1
theorem Rl.hS {k q d : Nat} (h : Rl σ τ k q d) : StrR σ 96 (τ 7) d := h.2.2.2.2.2.1
theorem Rl.hH {k q d : Nat} (h : Rl σ τ k q d) : ∀ e, e < d → HisD σ 96 (τ 7) e := h.2.2.2.2.2.2.1
theorem Rl.hA {k q d : Nat} (h : Rl σ τ k q d) : ActsR σ τ d := h.2.2.2.2.2.2.2.1
theorem Rl.hT {k q d : Nat} (h : Rl σ τ k q d) : TapR σ τ := h.2.2.2.2.2.2.2.2.1
theorem Rl.hM {k q d : Nat} (h : Rl σ τ k q d) : MisR σ τ := h.2.2.2.2.2.2.2.2.2.1
theorem Rl.hR {k q d : Nat} (h : Rl σ τ k q d) : RulR σ q (fun j => τ 7 (2778 + j)) := h.2.2.2.2.2.2.2.2.2.2.1
theorem Rl.hI {k q d : Nat} (h : Rl σ τ k q d) : ImgR σ τ 0 ∧ ImgR σ τ 1 := ⟨h.2.2.2.2.2.2.2.2.2.2.2.1, h.2.2.2.2.2.2.2.2.2.2.2.2.1⟩
theorem Rl.hV {k q d : Nat} (h : Rl σ τ k q d) : ResR τ := h.2.2.2.2.2.2.2.2.2.2.2.2.2
def Rel (σ τ : zH) : Prop := ∃ k q d, Rl σ τ k q d
-- what depends on which cells
theorem NamR.frame {σ' : zH} {kn : Nat} {nm nm' : Nat → Int} (h : NamR σ kn nm a) (hs : ∀ j, kn ≤ j → j ≤ kn + 3 → σ' j = σ j) (hb : ∀ j, j < 288 → b j = a j) (hnm : ∀ j, j < 30 → nm' j = nm j) (hc : wfC a) : NamR σ' kn nm' b := by
  obtain ⟨n, S, M, h1, h2, h3, h4, h5, h6⟩ := h
  obtain ⟨c0, c1, c2, c3, c4, c5⟩ := hc
  have hcn : ∀ s, ncnt b s = ncnt a s := fun s => by
    unfold ncnt
    rw [hb 0 (by omega), hb 1 (by omega), hb 2 (by omega), hb 4 (by omega)]
  have hlt : ∀ i, i < n → nbase (S i) + M i < 30 := fun i hi => by
    obtain ⟨g1, g2, -⟩ := h4 i hi
    unfold nbase
    unfold ncnt at g2
    split at g2
    · rw [if_pos (by assumption)]; omega
    · rw [if_neg (by assumption)]
      split at g2
      · rw [if_pos (by assumption)]; omega
      · rw [if_neg (by assumption)]
        split at g2
        · rw [if_pos (by assumption)]; omega
        · rw [if_neg (by assumption)]; omega
  refine ⟨n, S, M, h1, by rw [hs kn (by omega) (by omega)]; exact h2, by rw [hb 0 (by omega), hb 1 (by omega), hb 2 (by omega), hb 4 (by omega)]; exact h3, fun i hi => ?_, fun s m hs' hm => h5 s m hs' (by rw [← hcn]; exact hm), fun i j hi hj he => h6 i j hi hj ?_⟩
  · rw [hcn, hs (kn + 1) (by omega) (by omega), hs (kn + 2) (by omega) (by omega), hs (kn + 3) (by omega) (by omega), hnm _ (hlt i hi)]
    exact h4 i hi
  · rw [hnm _ (hlt i hi), hnm _ (hlt j hj)] at he
    exact he
theorem RulR.frame {σ' : zH} {q : Nat} {c : Nat → Int} (h : RulR σ q c) (hs : ∀ j, q ≤ j → j ≤ q + 3 → σ' j = σ j) : RulR σ' q c := by
  unfold RulR at h ⊢
  rw [hs q (by omega) (by omega), hs (q + 1) (by omega) (by omega), hs (q + 2) (by omega) (by omega), hs (q + 3) (by omega) (by omega)]
  exact h
theorem ImgR.frame {σ' τ' : zH} {i : Nat} (h : ImgR σ τ i) (hs : ∀ j, 640 + 256 * i ≤ j → j ≤ 803 + 256 * i → σ' j = σ j) (h44 : τ' 44 = τ 44) (h45 : τ' 45 = τ 45) (h46 : τ' 46 = τ 46) : ImgR σ' τ' i := by
  unfold ImgR at h ⊢
  rw [h44, h45, h46, hs (640 + 256 * i) (by omega) (by omega)]
  rcases h with h | ⟨h1, h2, d, h3, h4, h5, h6, h7, h8⟩
  · exact Or.inl h
  · refine Or.inr ⟨h1, h2, d, h3.frame (fun j hj => hs _ (by omega) (by omega)), h4, h5.frame (fun j j0 j1 => hs j (by omega) (by omega)) (fun _ _ => rfl) (fun _ _ => rfl) h4.1, h6.keepd h4 (fun _ _ => rfl) (fun j j0 j1 => hs j (by omega) (by omega)), fun e he => (h7 e he).congr (by rw [hs _ (by omega) (by omega)]) rfl (fun _ _ => rfl), h8.frame (fun j j0 j1 => hs j (by omega) (by omega))⟩
theorem ActsR.next {σ' τ' : zH} {d d' : Nat} (h : ActsR σ τ d) (hw : wfL (τ 7)) (hs : ∀ j, 160 ≤ j → j ≤ 300 → σ' j = σ j) (h22 : τ' 22 = τ 22) (h23 : τ' 0 23 = τ 0 23) (h7 : ∀ j, ¬ (288 ≤ j ∧ j < 2778) → τ' 7 j = τ 7 j) (hd : d ≤ d') (hv : ∀ (t : Int) (e : Nat), 0 ≤ t → t < 6 → e < d → wv (τ' 7) t e = wv (τ 7) t e) : ActsR σ' τ' d' := by
  obtain ⟨n, p, D, n4, hz, h23', hp, hst, hD⟩ := h
  have hrow : ∀ i, rwA τ' i = rwA τ i := fun i => by
    funext j
    unfold rwA
    by_cases hj2 : 288 ≤ j ∧ j < 2778
    · rw [if_pos hj2, if_pos hj2, h22]
    · rw [if_neg hj2, if_neg hj2]; exact h7 j hj2
  refine ⟨n, p, D, n4, by rw [hs 160 (by omega) (by omega)]; exact hz, by rw [h23]; exact h23', ⟨fun i hi => by rw [hs 161 (by omega) (by omega)]; exact hp.1 i hi, hp.2⟩, fun i hi => ?_, hD⟩
  obtain ⟨q1, q2, q3⟩ := hst i hi
  have act := (hp.1 i (by omega)).2
  rw [hrow i]
  refine ⟨by omega, q2.keepd (rwA_wf hw) (fun _ _ => rfl) (fun j j0 j1 => hs j (by unfold isAct at act; omega) (by unfold isAct at act; omega)), fun t e t0 t1 he => ?_⟩
  rw [q3 t e t0 t1 he, hv t e t0 t1 (by omega)]
/-- what a call may write without a trace: the class, the reference -/
def SC (j i : Nat) : Prop := (32 ≤ j ∧ j < 64) ∨ (j = 64 ∧ 2 ≤ i) ∨ (128 ≤ j ∧ j ≤ 140) ∨ (j = 320 ∧ i < 4) ∨ (321 ≤ j ∧ j < 384) ∨ j = 9 ∨ j = 11
def SM (j i : Nat) : Prop := (j = 8 ∨ j = 9 ∨ j = 21 ∨ j = 23 ∨ j = 27 ∨ j = 29 ∨ j = 37 ∨ j = 43) ∨ (j = 10 ∧ 30 ≤ i) ∨ (j = 0 ∧ ¬ (i = 2 ∨ i = 15 ∨ i = 23 ∨ i = 27 ∨ i = 31 ∨ i = 32 ∨ i = 35))
/-- both sides behind a call that may change the stream there is -/
theorem Rl.step {σ' τ' : zH} {k q d d' : Nat} (h : Rl σ τ k q d) (hσ : ∀ j i, ¬ SC j i → ¬ (96 ≤ j ∧ j ≤ 108) → σ' j i = σ j i) (hτ : ∀ j i, ¬ SM j i → ¬ (j = 7 ∧ 288 ≤ i ∧ i < 2778) → τ' j i = τ j i) (hd : d ≤ d') (hS : StrR σ' 96 (τ' 7) d') (hH : ∀ e, e < d' → HisD σ' 96 (τ' 7) e) (hv : ∀ (t : Int) (e : Nat), 0 ≤ t → t < 6 → e < d → wv (τ' 7) t e = wv (τ 7) t e) : Rl σ' τ' k q d' := by
  have cf : ∀ j, (160 ≤ j ∧ j ≤ 300) ∨ 384 ≤ j → σ' j = σ j := fun j hj => funext (fun i => hσ j i (by unfold SC; omega) (by omega))
  have c0 : ∀ i, σ' 0 i = σ 0 i := fun i => hσ 0 i (by unfold SC; omega) (by omega)
  have m7 : ∀ j, ¬ (288 ≤ j ∧ j < 2778) → τ' 7 j = τ 7 j := fun j hj => hτ 7 j (by unfold SM; omega) (by omega)
  have mf : ∀ j, j = 2 ∨ j = 22 ∨ j = 26 ∨ j = 35 ∨ 44 ≤ j → τ' j = τ j := fun j hj => funext (fun i => hτ j i (by unfold SM; omega) (by omega))
  have m0 : ∀ i, i = 2 ∨ i = 15 ∨ i = 23 ∨ i = 27 ∨ i = 31 ∨ i = 32 ∨ i = 35 → τ' 0 i = τ 0 i := fun i hi => hτ 0 i (by unfold SM; omega) (by omega)
  have hk := h.land.1
  have hq := h.rule.1
  unfold isLand at hk
  unfold isRule at hq
  refine ⟨?_, ?_, ?_, ?_, ?_, hS, hH, ?_, ?_, ?_, ?_, ?_, ?_, ?_⟩
  · rw [c0, c0]; exact h.land
  · rw [c0, c0]; exact h.rule
  · exact LandR_congr (fun j hj => m7 j (by omega)) h.hw (h.hL.frame (fun i hi => cf _ (by omega)))
  · exact wfL_congr (fun j hj => m7 j (by omega)) h.hw
  · exact h.hN.frame (fun j j0 j1 => cf j (by omega)) (fun j hj => m7 j (by omega)) (fun j hj => hτ 10 j (by unfold SM; omega) (by omega)) h.hw.1
  · exact h.hA.next h.hw (fun j j0 j1 => cf j (by omega)) (mf 22 (by omega)) (m0 23 (by omega)) m7 hd hv
  · have := h.hT
    unfold TapR at this ⊢
    rw [mf 2 (by omega), m0 2 (by omega), hσ 64 1 (by unfold SC; omega) (by omega), show σ' 65 = σ 65 from funext (fun i => hσ 65 i (by unfold SC; omega) (by omega))]
    exact this
  · have := h.hM
    unfold MisR at this ⊢
    rw [c0, c0, c0, m0 15 (by omega), m0 27 (by omega), m0 31 (by omega), m0 32 (by omega), m0 35 (by omega), mf 26 (by omega), mf 35 (by omega), show σ' 10 = σ 10 from funext (fun i => hσ 10 i (by unfold SC; omega) (by omega)), show σ' 7 = σ 7 from funext (fun i => hσ 7 i (by unfold SC; omega) (by omega)), hσ 320 4 (by unfold SC; omega) (by omega), hσ 320 5 (by unfold SC; omega) (by omega), hσ 320 6 (by unfold SC; omega) (by omega), hσ 320 7 (by unfold SC; omega) (by omega), hσ 320 8 (by unfold SC; omega) (by omega)]
    exact this
  · have e : (fun j => τ' 7 (2778 + j)) = fun j => τ 7 (2778 + j) := funext (fun j => m7 _ (by omega))
    rw [e]
    exact h.hR.frame (fun j j0 j1 => cf j (by omega))
  · exact h.hI.1.frame (fun j j0 j1 => cf j (by omega)) (mf 44 (by omega)) (mf 45 (by omega)) (mf 46 (by omega))
  · exact h.hI.2.frame (fun j j0 j1 => cf j (by omega)) (mf 44 (by omega)) (mf 45 (by omega)) (mf 46 (by omega))
  · exact h.hV.frame (funext (fun i => hτ 11 i (by unfold SM; omega) (by omega)))
/-- both sides behind a call that leaves no trace -/
theorem Rl.same {σ' τ' : zH} {k q d : Nat} (h : Rl σ τ k q d) (hσ : ∀ j i, ¬ SC j i → σ' j i = σ j i) (hτ : ∀ j i, ¬ SM j i → τ' j i = τ j i) : Rl σ' τ' k q d := by
  have e7 : τ' 7 = τ 7 := funext (fun i => hτ 7 i (by unfold SM; omega))
  refine h.step (fun j i hj _ => hσ j i hj) (fun j i hj _ => hτ j i hj) (Nat.le_refl d) ?_ (fun e he => ?_) (fun t e _ _ _ => by rw [e7])
  · rw [e7]
    exact h.hS.keepd h.hw (fun _ _ => rfl) (fun j j0 j1 => funext (fun i => hσ j i (by unfold SC; omega)))
  · rw [e7]
    exact (h.hH e he).congr (hσ 108 e (by unfold SC; omega)) rfl (fun _ _ => rfl)
/-- nothing but the mark of the reference is written -/
theorem Rl.mark {k q d : Nat} {v : Int} (h : Rl σ τ k q d) : Rl σ (zset τ 0 0 v) k q d :=
  h.same (fun _ _ _ => rfl) (fun j i hj => by
    unfold SM at hj
    by_cases h0 : j = 0
    · subst h0; rw [zi (by omega)]
    · rw [zk h0])
end G18
