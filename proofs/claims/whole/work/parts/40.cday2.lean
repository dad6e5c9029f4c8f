/-! A DAY of the class: those that leave are carried -/
section G10
variable {σ τ : zH} {k : Nat} {a : Nat → Int}
theorem clsum_at {n : Nat} (hw : wfL a) (hA : CellA a) (hn : (n : Int) < a 1) : clsum a (n + 1) (a 1).toNat = clsum a n (a 1).toNat + (if (0 ≤ a (Int.toNat (24 + (n : Int))) ∧ lst a n ≠ 0 ∧ fst' a (a (Int.toNat (24 + (n : Int)))) n ≠ 0 ∧ lst a n ≠ fst' a (a (Int.toNat (24 + (n : Int)))) n) then 1 else 0) := by
  have hr := hw.2.2.1 n (by omega) hn
  rw [clsum_step]
  congr 1
  exact ifc (by
    constructor
    · rintro ⟨h1, h2⟩; exact ⟨h1.1, h2⟩
    · rintro ⟨h1, h2⟩; exact ⟨⟨h1, by omega⟩, h2⟩)
theorem c_lp2 {σ0 : zH} {ks : Nat} {D : Int} (h : LandR σ0 k a) (hd : apart8 ks k) (hw : wfL a) (hA : CellA a) (hD0 : 0 ≤ D) (hD1 : D ≤ 900) (h14 : 0 ≤ a 289 ∧ a 289 ≤ 100000) (h15 : 0 ≤ a 290 ∧ a 290 ≤ 100000) : ∀ (m n : Nat) (σ : zH), (a 1 : Int) ≤ n + m → (n : Int) ≤ a 1 → Lp2 σ0 ks D a n σ →
    ∃ σ', f_Stream_passDay_75 σ ks k D (n : Int) = f_Stream_passDay_118 σ' ks k D 0 ∧ Lp2 σ0 ks D a (a 1).toNat σ' := by
  have hc := hw.1.2.1
  intro m
  have fin : ∀ (n : Nat) (σ : zH), a 1 ≤ (n : Int) → (n : Int) ≤ a 1 → Lp2 σ0 ks D a n σ → ∃ σ', f_Stream_passDay_75 σ ks k D (n : Int) = f_Stream_passDay_118 σ' ks k D 0 ∧ Lp2 σ0 ks D a (a 1).toNat σ' := by
    intro n σ g1 g2 s
    have hL : LandR σ k a := h.own hd (fun j hj => s.1 j (fun q => hj (by unfold own8; omega)))
    refine ⟨σ, ?_, by rw [show (a 1).toNat = n by omega]; exact s⟩
    rw [e_Stream_passDay_75, hL.1.2.1, if_pos g1]
  induction m with
  | zero => intro n σ g1 g2 s; exact fin n σ (by omega) g2 s
  | succ m ih =>
    intro n σ g1 g2 s
    by_cases hn : a 1 ≤ (n : Int)
    · exact fin n σ hn g2 s
    · have hL : LandR σ k a := h.own hd (fun j hj => s.1 j (fun q => hj (by unfold own8; omega)))
      have hr := hw.2.2.1 n (by omega) (by omega)
      have h8 := (hL.2.2.1 n (by omega) (by omega)).1
      have hl := lst_in hw hA (q := (n : Int)) (by omega) (by omega)
      have hcs := clsum_at hw hA (n := n) (by omega)
      have hci := clsum_in (a := a) (a 1).toNat n
      have hsi := seac_in (a := a) n
      obtain ⟨s1, s2, s3, s4, s5, s6, s7, s8⟩ := s
      rw [e_Stream_passDay_75, hL.1.2.1, if_neg hn, if_pos (zin_t (by omega) (by omega)), s6 n (by omega) (by omega), w32_s (by omega)]
      by_cases hl0 : lst a n - 1 = -1
      · rw [if_pos hl0]
        have hz : lst a n = 0 := by omega
        refine ih (n + 1) σ (by omega) (by omega) ⟨s1, s2, s3, ?_, ?_, s6, ?_, s8⟩
        · rw [s4, hcs, if_neg (fun q => q.2.1 hz)]; omega
        · rw [s5, seac, if_neg (fun q => by omega)]; omega
        · intro r p r0 r1 p0 p1
          have hfst : fst' a r (n + 1) = fst' a r n := by rw [fst', if_neg (fun q => q.2.1 hz)]
          rw [s7 r p r0 r1 p0 p1, hfst]
      · rw [if_neg hl0, if_pos (zin_t (by omega) (by omega)), if_pos (zin_t (by omega) (by omega)), h8.2.1]
        rw [e_Stream_carry]
        by_cases ht : a (Int.toNat (24 + (n : Int))) = -1
        · rw [ht, if_neg (fun q => q rfl), Option.bind_some]
          dsimp only
          refine ih (n + 1) _ (by omega) (by omega) ⟨?_, ?_, ?_, ?_, ?_, ?_, ?_, ?_⟩
          · intro j hj
            rw [zk (by omega)]
            exact s1 j hj
          · intro j hj
            rw [zi (by omega)]
            exact s2 j hj
          · rw [zi (by decide)]; exact s3
          · rw [zi (by decide), s4, hcs, if_neg (fun q => by omega)]; omega
          · rw [zs, s5, seac, if_pos (by omega), w32_id (by omega) (by omega)]; omega
          · intro r r0 r1
            rw [zk (show ks + 2 ≠ ks by omega)]
            exact s6 r r0 r1
          · intro r p r0 r1 p0 p1
            have hfst : fst' a r (n + 1) = fst' a r n := by rw [fst', if_neg (fun q => by omega)]
            rw [zk (show ks + 1 ≠ ks by omega), s7 r p r0 r1 p0 p1, hfst]
          · intro r j r0 r1 j0 j1 hj
            rw [zk (show ks + 1 ≠ ks by omega)]
            exact s8 r j r0 r1 j0 j1 hj
        · rw [if_pos ht]
          have ht0 : 0 ≤ a (Int.toNat (24 + (n : Int))) := by omega
          have ht1 : a (Int.toNat (24 + (n : Int))) < a 1 := by omega
          have hrt := hw.2.2.1 _ ht0 ht1
          have hsay := (hw.2.2.2.2.1.1 n (by omega) (by omega) ht0).2
          have hT : f_Stream_termAt σ ks k (a (Int.toNat (24 + (n : Int)))) 0 = some (σ, fst' a (a (Int.toNat (24 + (n : Int)))) n - 1) := by
            have i1 := cix_in (D := D + 1) (r := a (Int.toNat (24 + (n : Int)))) hrt.1.1 hrt.1.2 (show (0 : Int) ≤ 0 by omega) (by omega)
            rw [e_Stream_termAt, c_cellOf hL hw s3 (by omega) (by omega) ht0 ht1 (by omega) (by omega), Option.bind_some]
            dsimp only
            rw [if_pos (zin_t (by omega) (by omega)), s7 _ 0 ht0 ht1 (by omega) (by omega), if_pos rfl, if_neg (show ¬ 0 < a (Int.toNat (40 + a (Int.toNat (24 + (n : Int))))) by omega)]
          have hse : seac a (n + 1) = seac a n := by rw [seac, if_neg (fun q => by omega)]; omega
          rw [hT, Option.bind_some]
          dsimp only
          by_cases hf : fst' a (a (Int.toNat (24 + (n : Int)))) n = 0
          · -- it is put there
            rw [hf, if_neg (fun q => q rfl), c_put hL hw s3 (by omega) (by omega) ht0 ht1 (by omega) (by omega), Option.bind_some, Option.bind_some]
            dsimp only
            have i1 := cix_in (D := D + 1) (r := a (Int.toNat (24 + (n : Int)))) hrt.1.1 hrt.1.2 (show (0 : Int) ≤ 0 by omega) (by omega)
            refine ih (n + 1) _ (by omega) (by omega) ⟨?_, ?_, ?_, ?_, ?_, ?_, ?_, ?_⟩
            · intro j hj
              rw [zk (by omega)]
              exact s1 j hj
            · intro j hj
              rw [zk (show ks ≠ ks + 1 by omega)]
              exact s2 j hj
            · rw [zk (show ks ≠ ks + 1 by omega)]; exact s3
            · rw [zk (show ks ≠ ks + 1 by omega), s4, hcs, if_neg (fun q => q.2.2.1 hf)]; omega
            · rw [zk (show ks ≠ ks + 1 by omega), hse]; exact s5
            · intro r r0 r1
              rw [zk (show ks + 2 ≠ ks + 1 by omega)]
              exact s6 r r0 r1
            · intro r p r0 r1 p0 p1
              have hr' := hw.2.2.1 r r0 r1
              by_cases hrp : a (Int.toNat (24 + (n : Int))) = r ∧ p = 0
              · obtain ⟨rfl, rfl⟩ := hrp
                rw [zs, if_pos rfl, if_neg (show ¬ 0 < a (Int.toNat (40 + a (Int.toNat (24 + (n : Int))))) by omega), fst', if_pos ⟨rfl, by omega, hf⟩]
              · have i2 := cix_in (D := D + 1) (r := r) hr'.1.1 hr'.1.2 p0 p1
                have hne := cix_ne (D := D + 1) hr'.1.1 hr'.1.2 hrt.1.1 hrt.1.2 p0 p1 (show (0 : Int) ≤ 0 by omega) (by omega) (fun q => by rw [q]) (r' := a (Int.toNat (24 + (n : Int)))) (r := r) (fun q => hrp ⟨q.1.symm, q.2⟩)
                rw [zi (by omega), s7 r p r0 r1 p0 p1]
                by_cases hp : p = 0
                · have hfst : fst' a r (n + 1) = fst' a r n := by rw [fst', if_neg (fun q => hrp ⟨q.1, hp⟩)]
                  rw [if_pos hp, if_pos hp, hfst]
                · rw [if_neg hp, if_neg hp]
            · intro r j r0 r1 j0 j1 hj
              have hne : Int.toNat (r * 9 + j) ≠ Int.toNat (cix (a (Int.toNat (16 + a (Int.toNat (24 + (n : Int)))))) (D + 1) (a (Int.toNat (24 + (n : Int)))) 0) := by
                intro q
                have : r = a (Int.toNat (24 + (n : Int))) := by omega
                subst this
                omega
              rw [zi hne]
              exact s8 r j r0 r1 j0 j1 hj
          · have hfi := fst_in hw hA (a (Int.toNat (24 + (n : Int)))) n (by omega)
            rw [if_pos (show ¬ fst' a (a (Int.toNat (24 + (n : Int)))) n - 1 = -1 by omega)]
            have hfst : ∀ r : Int, fst' a r (n + 1) = fst' a r n := by
              intro r
              rw [fst']
              by_cases hrr : a (Int.toNat (24 + (n : Int))) = r
              · rw [if_neg (fun q => hf (by rw [hrr]; exact q.2.2))]
              · rw [if_neg (fun q => hrr q.1)]
            by_cases he : fst' a (a (Int.toNat (24 + (n : Int)))) n - 1 = lst a n - 1
            · rw [if_pos he, Option.bind_some]
              dsimp only
              refine ih (n + 1) σ (by omega) (by omega) ⟨s1, s2, s3, ?_, ?_, s6, ?_, s8⟩
              · rw [s4, hcs, if_neg (fun q => q.2.2.2 (by omega))]; omega
              · rw [hse]; exact s5
              · intro r p r0 r1 p0 p1
                rw [hfst]
                exact s7 r p r0 r1 p0 p1
            · rw [if_neg he, Option.bind_some]
              dsimp only
              refine ih (n + 1) _ (by omega) (by omega) ⟨?_, ?_, ?_, ?_, ?_, ?_, ?_, ?_⟩
              · intro j hj
                rw [zk (by omega)]
                exact s1 j hj
              · intro j hj
                rw [zi (by omega)]
                exact s2 j hj
              · rw [zi (by decide)]; exact s3
              · rw [zs, s4, hcs, if_pos ⟨ht0, by omega, hf, by omega⟩, w32_id (by omega) (by omega)]; omega
              · rw [zi (by decide), hse]; exact s5
              · intro r r0 r1
                rw [zk (show ks + 2 ≠ ks by omega)]
                exact s6 r r0 r1
              · intro r p r0 r1 p0 p1
                rw [zk (show ks + 1 ≠ ks by omega), hfst]
                exact s7 r p r0 r1 p0 p1
              · intro r j r0 r1 j0 j1 hj
                rw [zk (show ks + 1 ≠ ks by omega)]
                exact s8 r j r0 r1 j0 j1 hj
/-- both sides behind the first half -/
theorem mid_cells {σ0 : zH} {ks : Nat} {b : Nat → Int} (hw : wfL a) (hA : CellA a) (hd : 0 ≤ a 288) (hz : ∀ r j : Int, 0 ≤ r → r < 8 → 0 ≤ j → j < 9 → (a 1 ≤ r ∨ a (Int.toNat (16 + r)) ≤ j) → a (Int.toNat (306 + 9 * r + j)) = 0) (s : Lp2 σ0 ks (a 288) a (a 1).toNat σ) (hb : DayRow a (a 1).toNat b) : CellR σ ks (a 288 + 1) b := by
  have hc := hw.1.2.1
  obtain ⟨s1, s2, s3, s4, s5, s6, s7, s8⟩ := s
  have b0 : b 0 = a 0 := hb.1 0 (by omega)
  have b1 : b 1 = a 1 := hb.1 1 (by omega)
  have bl : ∀ r : Int, 0 ≤ r → r < 8 → b (Int.toNat (16 + r)) = a (Int.toNat (16 + r)) := fun r r0 r1 => hb.1 _ (by omega)
  constructor
  · intro r p r0 r1 p0 p1
    rw [b1] at r1
    rw [bl r r0 (by omega)] at p1 ⊢
    rw [b0, hb.2.2.2.1 r p r0 (by omega) p0 p1, s7 r p r0 r1 p0 p1]
    by_cases hp : p = 0
    · have hf := frs_in hw hA hd r0 r1
      rw [if_pos hp, if_pos hp]
      refine ⟨?_, hf⟩
      unfold frs sayN
      by_cases hs : 0 < a (Int.toNat (40 + r))
      · rw [if_pos hs, if_pos hs, if_pos hs]; omega
      · rw [if_neg hs, if_neg hs]
    · rw [if_neg hp, if_neg hp]
      exact ⟨rfl, hA r (p - 1) r0 r1 (by omega) (by omega)⟩
  · intro r j r0 r1 j0 j1 hj
    rw [b1, bl r r0 r1] at hj
    refine ⟨s8 r j r0 r1 j0 j1 hj, ?_⟩
    rw [hb.2.2.2.2 r j r0 r1 j0 j1 (by omega)]
    exact hz r j r0 r1 j0 j1 hj
end G10
