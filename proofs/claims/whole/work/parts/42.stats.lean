/-! WHAT TOWNS READ: what the class counts by the day, the reference looks up in its rows -/
section G12
variable {σ τ : zH} {k : Nat} {a b : Nat → Int}
/-- what a town read on a day: a term and one, or none -/
def wv (a : Nat → Int) (t : Int) (d : Nat) : Int := a (Int.toNat (378 + 400 * t + (d : Int)))
def lsN (a : Nat → Int) (t : Int) : Nat → Int
  | 0 => -1
  | n + 1 => wv a t n - 1
def wdN (a : Nat → Int) (t : Int) : Nat → Int
  | 0 => 0
  | n + 1 => wdN a t n + (if 0 < wv a t n then 1 else 0)
def lkN (a : Nat → Int) (t : Int) : Nat → Int
  | 0 => 0
  | n + 1 => lkN a t n + (if 0 < wv a t n ∧ a (Int.toNat (228 + 10 * t + (wv a t n - 1))) = 1 then 1 else 0)
def fdN (a : Nat → Int) (t : Int) : Nat → Int
  | 0 => -1
  | n + 1 => if fdN a t n = -1 ∧ 0 < wv a t n then (n : Int) else fdN a t n
/-- a saying goes on by a sort, in the reference's states -/
def beh (s q : Int) : Int := if q = 0 then (if s < 2 then 2 else if s = 3 ∨ s = 4 then 5 else -1) else if q = 1 then (if s = 2 then 3 else -1) else if q = 2 then (if s < 2 then 1 else if s = 3 ∨ s = 4 then 4 else -1) else if s = 3 ∨ s = 5 then 0 else -1
def csm (s : Int) : Int := if s < 2 then 0 else s - 1
def sstep (st : Int × Int × Int) (q : Int) (n : Nat) : Int × Int × Int := if 0 ≤ beh st.1 q then (beh st.1 q, st.2.1 + (if beh st.1 q = 0 then 1 else 0), -1) else (st.1, st.2.1, (n : Int))
def sns (a : Nat → Int) (t : Int) : Nat → Int × Int × Int
  | 0 => (0, 0, -1)
  | n + 1 => if wv a t n ≤ 0 then sns a t n else if sns a t n |>.2.2 = -1 then sstep (sns a t n) (a (Int.toNat (6 + (wv a t n - 1)))) n else sns a t n
/-- terms of days stand in their range -/
def WelR (a : Nat → Int) (t : Int) (n : Nat) : Prop := ∀ d : Nat, d < n → 0 ≤ wv a t d ∧ wv a t d ≤ a 0
theorem beh_zss : ∀ s : Fin 6, ∀ q : Fin 4, zss (Int.toNat (csm (s.1 : Int) * 4 + (q.1 : Int))) = (if 0 ≤ beh (s.1 : Int) (q.1 : Int) then csm (beh (s.1 : Int) (q.1 : Int)) else -1) ∧ (0 ≤ beh (s.1 : Int) (q.1 : Int) → (beh (s.1 : Int) (q.1 : Int) = 0 ↔ (q.1 : Int) = 3)) ∧ beh (s.1 : Int) (q.1 : Int) ≤ 5 ∧ -1 ≤ beh (s.1 : Int) (q.1 : Int) := by decide +kernel
theorem beh_zss' {s q : Int} (h0 : 0 ≤ s) (h1 : s ≤ 5) (h2 : 0 ≤ q) (h3 : q ≤ 3) : zss (Int.toNat (csm s * 4 + q)) = (if 0 ≤ beh s q then csm (beh s q) else -1) ∧ (0 ≤ beh s q → (beh s q = 0 ↔ q = 3)) ∧ beh s q ≤ 5 ∧ -1 ≤ beh s q := by
  have h := beh_zss ⟨s.toNat, by omega⟩ ⟨q.toNat, by omega⟩
  simp only [show ((s.toNat : Nat) : Int) = s by omega, show ((q.toNat : Nat) : Int) = q by omega] at h
  exact h
theorem csm_in {s : Int} (h0 : 0 ≤ s) (h1 : s ≤ 5) : 0 ≤ csm s ∧ csm s ≤ 4 := by
  unfold csm
  split <;> omega
theorem wdN_in {t : Int} : ∀ n : Nat, 0 ≤ wdN a t n ∧ wdN a t n ≤ n
  | 0 => by simp [wdN]
  | n + 1 => by
    have := wdN_in (t := t) n
    rw [wdN]
    split <;> omega
theorem lkN_in {t : Int} : ∀ n : Nat, 0 ≤ lkN a t n ∧ lkN a t n ≤ n
  | 0 => by simp [lkN]
  | n + 1 => by
    have := lkN_in (t := t) n
    rw [lkN]
    split <;> omega
theorem fdN_in {t : Int} : ∀ n : Nat, -1 ≤ fdN a t n ∧ fdN a t n < n + (if n = 0 then 0 else 0)
  | 0 => by simp [fdN]
  | n + 1 => by
    have := fdN_in (t := t) n
    rw [fdN]
    simp only [ite_self] at this ⊢
    split <;> omega
theorem sns_in (hw : wfL a) {t : Int} : ∀ n : Nat, WelR a t n → (0 ≤ (sns a t n).1 ∧ (sns a t n).1 ≤ 5) ∧ (0 ≤ (sns a t n).2.1 ∧ (sns a t n).2.1 ≤ n) ∧ -1 ≤ (sns a t n).2.2 ∧ (sns a t n).2.2 < n
  | 0, _ => by simp [sns]
  | n + 1, h => by
    obtain ⟨i1, i2, i3, i4⟩ := sns_in hw (t := t) n (fun d hd => h d (by omega))
    have hn := h n (by omega)
    rw [sns]
    by_cases h1 : wv a t n ≤ 0
    · rw [if_pos h1]; omega
    · rw [if_neg h1]
      by_cases h2 : (sns a t n).2.2 = -1
      · rw [if_pos h2]
        unfold sstep
        have hs := hw.2.1 (wv a t n - 1) (by omega) (by omega)
        obtain ⟨b1, b2, b3, b4⟩ := beh_zss' i1.1 i1.2 hs.1 (by omega)
        by_cases h3 : 0 ≤ beh (sns a t n).1 (a (Int.toNat (6 + (wv a t n - 1))))
        · rw [if_pos h3]
          dsimp only
          have : (if beh (sns a t n).1 (a (Int.toNat (6 + (wv a t n - 1)))) = 0 then (1 : Int) else 0) = 0 ∨ (if beh (sns a t n).1 (a (Int.toNat (6 + (wv a t n - 1)))) = 0 then (1 : Int) else 0) = 1 := by split <;> simp
          omega
        · rw [if_neg h3]
          dsimp only
          omega
      · rw [if_neg h2]; omega
/-- what a town of the class has counted behind n days -/
def StaT (σ : zH) (ks : Nat) (a : Nat → Int) (t : Int) (n : Nat) : Prop :=
  σ (ks + 5) (Int.toNat t) = lsN a t n ∧ σ (ks + 6) (Int.toNat t) = wdN a t n ∧ σ (ks + 7) (Int.toNat t) = lkN a t n ∧ σ (ks + 8) (Int.toNat t) = fdN a t n ∧ σ (ks + 9) (Int.toNat t) = csm (sns a t n).1 ∧ σ (ks + 10) (Int.toNat t) = (sns a t n).2.2 ∧ σ (ks + 11) (Int.toNat t) = (sns a t n).2.1
/-- counts speak of the country and of the days behind -/
theorem sta_congr (hw : wfL a) {t : Int} (t0 : 0 ≤ t) (t1 : t < 6) (hb : ∀ j : Nat, j < 288 → b j = a j) : ∀ n : Nat, WelR a t n → (∀ d : Nat, d < n → wv b t d = wv a t d) → lsN b t n = lsN a t n ∧ wdN b t n = wdN a t n ∧ lkN b t n = lkN a t n ∧ fdN b t n = fdN a t n ∧ sns b t n = sns a t n
  | 0, _, _ => ⟨rfl, rfl, rfl, rfl, rfl⟩
  | n + 1, hr, h => by
    obtain ⟨i1, i2, i3, i4, i5⟩ := sta_congr hw t0 t1 hb n (fun d hd => hr d (by omega)) (fun d hd => h d (by omega))
    have hn := h n (by omega)
    have hrn := hr n (by omega)
    have hc := hw.1.1
    simp only [lsN, wdN, lkN, fdN, sns, i2, i3, i4, i5, hn]
    refine ⟨trivial, trivial, ?_, trivial, ?_⟩
    · by_cases h0 : 0 < wv a t n
      · rw [hb _ (by omega)]
      · simp [h0]
    · by_cases h0 : wv a t n ≤ 0
      · rw [if_pos h0, if_pos h0]
      · rw [hb _ (by omega)]
theorem StaT.congr {σ σ' : zH} {ks : Nat} {t : Int} {n : Nat} (h : StaT σ ks a t n) (hw : wfL a) (t0 : 0 ≤ t) (t1 : t < 6) (hs : ∀ j, 5 ≤ j → j ≤ 11 → σ' (ks + j) (Int.toNat t) = σ (ks + j) (Int.toNat t)) (hb : ∀ j : Nat, j < 288 → b j = a j) (hr : WelR a t n) (hd : ∀ d : Nat, d < n → wv b t d = wv a t d) : StaT σ' ks b t n := by
  obtain ⟨i1, i2, i3, i4, i5⟩ := sta_congr hw t0 t1 hb n hr hd
  unfold StaT
  rw [i1, i2, i3, i4, i5, hs 5 (by omega) (by omega), hs 6 (by omega) (by omega), hs 7 (by omega) (by omega), hs 8 (by omega) (by omega), hs 9 (by omega) (by omega), hs 10 (by omega) (by omega), hs 11 (by omega) (by omega)]
  exact h
theorem c_likes (h : LandR σ k a) (hw : wfL a) {t m : Int} (t0 : 0 ≤ t) (t1 : t < a 4) (m0 : 0 ≤ m) (m1 : m < 10) : f_Country_likes σ k t m = some (σ, if a (Int.toNat (228 + 10 * t + m)) = 1 then 1 else 0) := by
  have hc := hw.1.2.2.2.2.1
  obtain ⟨-, N, hN, e, hb⟩ := h.2.2.2.2 t t0 t1
  have hm := hb m.toNat (by omega)
  rw [show ((m.toNat : Nat) : Int) = m by omega] at hm
  rw [e_Country_likes, if_pos (zin_t t0 (by omega)), e, show m = ((m.toNat : Nat) : Int) by omega, zbit (by omega) (by omega)]
  rw [show ((m.toNat : Nat) : Int) = m by omega]
  by_cases h1 : N.testBit m.toNat = true
  · rw [if_pos h1, if_neg (fun q => q rfl), if_pos (hm.mp h1)]
  · rw [if_neg h1, if_pos (by decide), if_neg (fun q => h1 (hm.mpr q))]
theorem c_goOn {ks : Nat} {t s q H x : Int} (t0 : 0 ≤ t) (t1 : t < 6) (s0 : 0 ≤ s) (s1 : s ≤ 5) (q0 : 0 ≤ q) (q1 : q ≤ 3) (hs : σ (ks + 9) (Int.toNat t) = csm s) (hH : σ (ks + 11) (Int.toNat t) = H) (H0 : 0 ≤ H) (H1 : H ≤ 1000) : f_Stream_goOnSaying σ ks t q x = some (if 0 ≤ beh s q then (if q = 3 then zset (zset σ (ks + 9) (Int.toNat t) (csm (beh s q))) (ks + 11) (Int.toNat t) (H + 1) else zset σ (ks + 9) (Int.toNat t) (csm (beh s q))) else zset σ (ks + 10) (Int.toNat t) x, 0) := by
  have hc := csm_in s0 s1
  obtain ⟨b1, b2, b3, b4⟩ := beh_zss' s0 s1 q0 q1
  have g1 : zin t 6 = true := zin_t t0 (by omega)
  rw [e_Stream_goOnSaying, hs, w32_id (x := csm s * 4) (by omega) (by omega), w32_id (x := csm s * 4 + q) (by omega) (by omega), if_pos g1, if_pos (zin_t (by omega) (by omega)), b1]
  by_cases h0 : 0 ≤ beh s q
  · have hc2 := csm_in h0 b3
    rw [if_pos h0, if_pos h0, if_pos (show ¬ csm (beh s q) = -1 by omega), if_pos g1]
    by_cases h3 : q = 3
    · rw [if_neg (fun w => w h3), if_pos g1, if_pos g1, if_pos h3, zk (show ks + 11 ≠ ks + 9 by omega), hH, w32_id (x := H + 1) (by omega) (by omega)]
    · rw [if_pos h3, if_neg h3]
  · rw [if_neg h0, if_neg h0, if_neg (fun w => w rfl), if_pos g1]
/-- the counts of a town grow by a term -/
theorem c_note {ks : Nat} (hL : LandR σ k a) (hd : apart8 ks k) (hw : wfL a) {t m : Int} {n : Nat} (t0 : 0 ≤ t) (t1 : t < a 4) (m0 : 0 ≤ m) (m1 : m < a 0) (hn : n ≤ 900) (hr : WelR a t n) (hb : ∀ j : Nat, j < 288 → b j = a j) (hbd : ∀ d : Nat, d < n → wv b t d = wv a t d) (hbn : wv b t n = m + 1) (h6 : σ (ks + 6) (Int.toNat t) = wdN a t n) (h7 : σ (ks + 7) (Int.toNat t) = lkN a t n) (h8 : σ (ks + 8) (Int.toNat t) = fdN a t n) (h9 : σ (ks + 9) (Int.toNat t) = csm (sns a t n).1) (h10 : σ (ks + 10) (Int.toNat t) = (sns a t n).2.2) (h11 : σ (ks + 11) (Int.toNat t) = (sns a t n).2.1) (h5 : σ (ks + 5) (Int.toNat t) = m) :
    ∃ σ', f_Stream_noteTerm σ ks k t m (n : Int) = some (σ', 0) ∧ (∀ j, ¬ (ks + 6 ≤ j ∧ j ≤ ks + 11) → σ' j = σ j) ∧ (∀ j i, i ≠ Int.toNat t → σ' j i = σ j i) ∧ StaT σ' ks b t (n + 1) := by
  have hc := hw.1.2.2.2.2.1
  have hc0 := hw.1.1
  obtain ⟨i1, i2, i3, i4, i5⟩ := sta_congr hw t0 (by omega) hb n hr hbd
  have w1 := wdN_in (a := a) (t := t) n
  have w2 := lkN_in (a := a) (t := t) n
  have w4 := sns_in hw (t := t) n hr
  have hs := hw.2.1 m m0 m1
  have g1 : zin t 6 = true := zin_t t0 (by omega)
  -- the last part, from any heap on
  have fin : ∀ σ1 : zH, (∀ j, ¬ (ks + 6 ≤ j ∧ j ≤ ks + 8) → σ1 j = σ j) → (∀ j i, i ≠ Int.toNat t → σ1 j i = σ j i) → σ1 (ks + 6) (Int.toNat t) = wdN b t (n + 1) → σ1 (ks + 7) (Int.toNat t) = lkN b t (n + 1) → σ1 (ks + 8) (Int.toNat t) = fdN b t (n + 1) →
      ∃ σ', f_Stream_noteTerm_47 σ1 ks k t m (n : Int) = some (σ', 0) ∧ (∀ j, ¬ (ks + 6 ≤ j ∧ j ≤ ks + 11) → σ' j = σ j) ∧ (∀ j i, i ≠ Int.toNat t → σ' j i = σ j i) ∧ StaT σ' ks b t (n + 1) := by
    intro σ1 f1 f2 f6 f7 f8
    have e9 : σ1 (ks + 9) = σ (ks + 9) := f1 _ (by omega)
    have e10 : σ1 (ks + 10) = σ (ks + 10) := f1 _ (by omega)
    have e11 : σ1 (ks + 11) = σ (ks + 11) := f1 _ (by omega)
    have e5 : σ1 (ks + 5) = σ (ks + 5) := f1 _ (by omega)
    have e2 : σ1 (k + 2) = σ (k + 2) := f1 _ (by unfold apart8 at hd; omega)
    have hsn : sns b t (n + 1) = if (sns a t n).2.2 = -1 then sstep (sns a t n) (a (Int.toNat (6 + m))) n else sns a t n := by
      rw [sns, if_neg (by omega), i5, hbn, show m + 1 - 1 = m by omega, hb _ (by omega)]
    have hls : lsN b t (n + 1) = m := by rw [lsN, hbn]; omega
    rw [e_Stream_noteTerm_47, if_pos g1, e10, h10]
    by_cases hB : (sns a t n).2.2 = -1
    · rw [if_neg (fun q => q hB), if_pos (zin_t m0 (by omega)), e2, (hL.2.1 m m0 m1), c_goOn (σ := σ1) t0 (by omega) w4.1.1 w4.1.2 hs.1 (by omega) (by rw [e9, h9]) (by rw [e11, h11]) w4.2.1.1 (by omega), Option.bind_some]
      dsimp only
      rw [if_pos hB] at hsn
      obtain ⟨b1, b2, b3, b4⟩ := beh_zss' w4.1.1 w4.1.2 hs.1 (show a (Int.toNat (6 + m)) ≤ 3 by omega)
      by_cases h0 : 0 ≤ beh (sns a t n).1 (a (Int.toNat (6 + m)))
      · unfold sstep at hsn
        rw [if_pos h0] at hsn
        by_cases h3 : a (Int.toNat (6 + m)) = 3
        · rw [if_pos ((b2 h0).mpr h3)] at hsn
          rw [if_pos h0, if_pos h3]
          refine ⟨_, rfl, fun j hj => by rw [zk (by omega), zk (by omega)]; exact f1 j (by omega), fun j i hi => ?_, ?_⟩
          · by_cases hj : j = ks + 11
            · rw [hj, zi hi, zk (by omega)]; exact f2 _ _ hi
            · rw [zk hj]
              by_cases hj9 : j = ks + 9
              · rw [hj9, zi hi]; exact f2 _ _ hi
              · rw [zk hj9]; exact f2 _ _ hi
          · unfold StaT
            rw [hsn, hls, zs, zk (show ks + 5 ≠ ks + 11 by omega), zk (show ks + 5 ≠ ks + 9 by omega), zk (show ks + 6 ≠ ks + 11 by omega), zk (show ks + 6 ≠ ks + 9 by omega), zk (show ks + 7 ≠ ks + 11 by omega), zk (show ks + 7 ≠ ks + 9 by omega), zk (show ks + 8 ≠ ks + 11 by omega), zk (show ks + 8 ≠ ks + 9 by omega), zk (show ks + 9 ≠ ks + 11 by omega), zs, zk (show ks + 10 ≠ ks + 11 by omega), zk (show ks + 10 ≠ ks + 9 by omega), e5, e10]
            exact ⟨h5, f6, f7, f8, rfl, by rw [h10]; exact hB, rfl⟩
        · rw [if_neg (fun q => h3 ((b2 h0).mp q))] at hsn
          rw [if_pos h0, if_neg h3]
          refine ⟨_, rfl, fun j hj => by rw [zk (by omega)]; exact f1 j (by omega), fun j i hi => ?_, ?_⟩
          · by_cases hj9 : j = ks + 9
            · rw [hj9, zi hi]; exact f2 _ _ hi
            · rw [zk hj9]; exact f2 _ _ hi
          · unfold StaT
            rw [hsn, hls, zk (show ks + 5 ≠ ks + 9 by omega), zk (show ks + 6 ≠ ks + 9 by omega), zk (show ks + 7 ≠ ks + 9 by omega), zk (show ks + 8 ≠ ks + 9 by omega), zs, zk (show ks + 10 ≠ ks + 9 by omega), zk (show ks + 11 ≠ ks + 9 by omega), e5, e10, e11]
            exact ⟨h5, f6, f7, f8, rfl, by rw [h10]; exact hB, by rw [h11]; exact (Int.add_zero _).symm⟩
      · unfold sstep at hsn
        rw [if_neg h0] at hsn
        rw [if_neg h0]
        refine ⟨_, rfl, fun j hj => by rw [zk (by omega)]; exact f1 j (by omega), fun j i hi => ?_, ?_⟩
        · by_cases hj9 : j = ks + 10
          · rw [hj9, zi hi]; exact f2 _ _ hi
          · rw [zk hj9]; exact f2 _ _ hi
        · unfold StaT
          rw [hsn, hls, zk (show ks + 5 ≠ ks + 10 by omega), zk (show ks + 6 ≠ ks + 10 by omega), zk (show ks + 7 ≠ ks + 10 by omega), zk (show ks + 8 ≠ ks + 10 by omega), zs, zk (show ks + 9 ≠ ks + 10 by omega), zk (show ks + 11 ≠ ks + 10 by omega), e5, e9, e11]
          exact ⟨h5, f6, f7, f8, h9, rfl, h11⟩
    · rw [if_pos hB]
      rw [if_neg hB] at hsn
      refine ⟨_, rfl, fun j hj => f1 j (by omega), f2, ?_⟩
      unfold StaT
      rw [hsn, hls, e5, e9, e10, e11]
      exact ⟨h5, f6, f7, f8, h9, h10, h11⟩
  have hwd : wdN b t (n + 1) = wdN a t n + 1 := by rw [wdN, i2, hbn, if_pos (by omega)]
  have hlk : lkN b t (n + 1) = lkN a t n + (if a (Int.toNat (228 + 10 * t + m)) = 1 then 1 else 0) := by
    rw [lkN, i3, hbn, show m + 1 - 1 = m by omega, hb _ (by omega)]
    by_cases hq : a (Int.toNat (228 + 10 * t + m)) = 1
    · rw [if_pos ⟨by omega, hq⟩, if_pos hq]
    · rw [if_neg (fun q => hq q.2), if_neg hq]
  have hfd : fdN b t (n + 1) = if fdN a t n = -1 then (n : Int) else fdN a t n := by
    rw [fdN, i4, hbn]
    by_cases hq : fdN a t n = -1
    · rw [if_pos ⟨hq, by omega⟩, if_pos hq]
    · rw [if_neg (fun q => hq q.1), if_neg hq]
  have hL1 : LandR (zset σ (ks + 6) (Int.toNat t) (wdN a t n + 1)) k a := hL.own hd (fun j hj => zk (fun q => hj (by unfold own8; omega)))
  have hlike := c_likes hL1 hw t0 t1 m0 (by omega)
  rw [e_Stream_noteTerm, if_pos g1, if_pos g1, h6, w32_id (x := wdN a t n + 1) (by omega) (by omega), hlike, Option.bind_some]
  dsimp only
  by_cases hq : a (Int.toNat (228 + 10 * t + m)) = 1
  · rw [if_pos hq] at hlk ⊢
    rw [if_neg (by decide), if_pos g1, if_pos g1, if_pos g1]
    have p7 : w32 (zset σ (ks + 6) (Int.toNat t) (wdN a t n + 1) (ks + 7) (Int.toNat t) + 1) = lkN a t n + 1 := by rw [zk (by omega), h7, w32_id (by omega) (by omega)]
    have p8 : zset (zset σ (ks + 6) (Int.toNat t) (wdN a t n + 1)) (ks + 7) (Int.toNat t) (lkN a t n + 1) (ks + 8) (Int.toNat t) = fdN a t n := by rw [zk (by omega), zk (by omega), h8]
    simp only [p7, p8]
    by_cases hF : fdN a t n = -1
    · rw [if_pos hF] at hfd
      rw [if_neg (fun q => q hF), if_pos g1]
      refine fin _ (fun j hj => by rw [zk (by omega), zk (by omega), zk (by omega)]) (fun j i hi => ?_) (by rw [zk (by omega), zk (by omega), zs, hwd]) (by rw [zk (by omega), zs, hlk]) (by rw [zs, hfd])
      by_cases j8 : j = ks + 8
      · rw [j8, zi hi, zk (by omega), zk (by omega)]
      · rw [zk j8]
        by_cases j7 : j = ks + 7
        · rw [j7, zi hi, zk (by omega)]
        · rw [zk j7]
          by_cases j6 : j = ks + 6
          · rw [j6, zi hi]
          · rw [zk j6]
    · rw [if_neg hF] at hfd
      rw [if_pos hF]
      refine fin _ (fun j hj => by rw [zk (by omega), zk (by omega)]) (fun j i hi => ?_) (by rw [zk (by omega), zs, hwd]) (by rw [zs, hlk]) (by rw [zk (by omega), zk (by omega), hfd, h8])
      by_cases j7 : j = ks + 7
      · rw [j7, zi hi, zk (by omega)]
      · rw [zk j7]
        by_cases j6 : j = ks + 6
        · rw [j6, zi hi]
        · rw [zk j6]
  · rw [if_neg hq] at hlk ⊢
    rw [if_pos rfl, if_pos g1]
    have p8 : zset σ (ks + 6) (Int.toNat t) (wdN a t n + 1) (ks + 8) (Int.toNat t) = fdN a t n := by rw [zk (by omega), h8]
    simp only [p8]
    by_cases hF : fdN a t n = -1
    · rw [if_pos hF] at hfd
      rw [if_neg (fun q => q hF), if_pos g1]
      refine fin _ (fun j hj => by rw [zk (by omega), zk (by omega)]) (fun j i hi => ?_) (by rw [zk (by omega), zs, hwd]) (by rw [zk (by omega), zk (by omega), hlk, h7, Int.add_zero]) (by rw [zs, hfd])
      by_cases j8 : j = ks + 8
      · rw [j8, zi hi, zk (by omega)]
      · rw [zk j8]
        by_cases j6 : j = ks + 6
        · rw [j6, zi hi]
        · rw [zk j6]
    · rw [if_neg hF] at hfd
      rw [if_pos hF]
      refine fin _ (fun j hj => by rw [zk (by omega)]) (fun j i hi => ?_) (by rw [zs, hwd]) (by rw [zk (by omega), hlk, h7, Int.add_zero]) (by rw [zk (by omega), hfd, h8])
      by_cases j6 : j = ks + 6
      · rw [j6, zi hi]
      · rw [zk j6]
end G12
