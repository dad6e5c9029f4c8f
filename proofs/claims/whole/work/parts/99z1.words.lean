/-! AT THE BEGINNING of the law: the words (by program) -/
section ZS1
theorem lm0 {w : Cond} (i : Nat) (h : (k2_sels lw_privs)[i]? = some w) : w ∈ lw_tbl := List.mem_append_left _ (List.mem_of_getElem? h)
theorem lm1 {w : Cond} (i : Nat) (h : tables_1_1[i]? = some w) : w ∈ lw_tbl := List.mem_append_right _ (List.mem_append_left _ (List.mem_of_getElem? h))
theorem lm2 {w : Cond} (i : Nat) (h : tables_1_2[i]? = some w) : w ∈ lw_tbl := List.mem_append_right _ (List.mem_append_right _ (List.mem_append_left _ (List.mem_of_getElem? h)))
theorem lm3 {w : Cond} (i : Nat) (h : tables_1_3[i]? = some w) : w ∈ lw_tbl := List.mem_append_right _ (List.mem_append_right _ (List.mem_append_right _ (List.mem_append_left _ (List.mem_of_getElem? h))))
theorem lm4 {w : Cond} (i : Nat) (h : tables_1_4[i]? = some w) : w ∈ lw_tbl := List.mem_append_right _ (List.mem_append_right _ (List.mem_append_right _ (List.mem_append_right _ (List.mem_append_left _ (List.mem_of_getElem? h)))))
theorem lm5 {w : Cond} (i : Nat) (h : tables_1_5[i]? = some w) : w ∈ lw_tbl := List.mem_append_right _ (List.mem_append_right _ (List.mem_append_right _ (List.mem_append_right _ (List.mem_append_right _ (List.mem_append_left _ (List.mem_of_getElem? h))))))
theorem lm6 {w : Cond} (i : Nat) (h : tables_1_6[i]? = some w) : w ∈ lw_tbl := List.mem_append_right _ (List.mem_append_right _ (List.mem_append_right _ (List.mem_append_right _ (List.mem_append_right _ (List.mem_append_right _ (List.mem_append_left _ (List.mem_of_getElem? h)))))))
theorem lm7 {w : Cond} (i : Nat) (h : tables_1_7[i]? = some w) : w ∈ lw_tbl := List.mem_append_right _ (List.mem_append_right _ (List.mem_append_right _ (List.mem_append_right _ (List.mem_append_right _ (List.mem_append_right _ (List.mem_append_right _ (List.mem_append_left _ (List.mem_of_getElem? h))))))))
theorem lm8 {w : Cond} (i : Nat) (h : tables_1_8[i]? = some w) : w ∈ lw_tbl := List.mem_append_right _ (List.mem_append_right _ (List.mem_append_right _ (List.mem_append_right _ (List.mem_append_right _ (List.mem_append_right _ (List.mem_append_right _ (List.mem_append_right _ (List.mem_of_getElem? h))))))))
variable {s : State} {b : Nat}
abbrev zFl : List Cond := flatC (Jvm.Cond.and given_1 narrow_1)
theorem zk_el : ∀ j, j < 26 → Cond.eq (.elem (.static "RiverText" "KEYWORDS" "[J") (.int (Int32.ofNat j))) (.long (Int64.ofInt (zkw j))) ∈ zFl := by decide +kernel
theorem zs_el : ∀ j, j < 20 → Cond.eq (.elem (.static "RiverText" "SENSE_STEPS" "[I") (.int (Int32.ofNat j))) (.int (Int32.ofInt (zss j))) ∈ zFl := by decide +kernel
set_option maxHeartbeats 1000000 in
theorem st_zSt (hts : ∀ w ∈ lw_tbl, w.before #[Value.ref b] s = true) (hg : (Jvm.Cond.and given_1 narrow_1).before #[Value.ref b] s = true) : ∃ kw ss : Nat, zSt kw ss (fun z => s.heap.size ≤ z) s := by
  have hf := flat_of_before _ hg
  have hA : ∀ a : Nat, a < s.heap.size → ¬ (fun z => s.heap.size ≤ z) a := fun a h => Nat.not_le.mpr h
  obtain ⟨kw, k1, k2⟩ := va_Tof (args := #[Value.ref b]) (s := s) (tm := .static "RiverText" "KEYWORDS" "[J") (ty := .long) (N := 26) (f := fun i => .long (Int64.ofInt (zkw i))) (by decide) (hf _ (by decide +kernel)) (va_eqt (hf (Cond.eq (.length (.static "RiverText" "KEYWORDS" "[J")) (.int (Int32.ofNat 26))) (by decide +kernel))) (fun j hj => va_eqtl (hf _ (zk_el j hj))) hA
  obtain ⟨ss, s1, s2⟩ := va_Tof (args := #[Value.ref b]) (s := s) (tm := .static "RiverText" "SENSE_STEPS" "[I") (ty := .int) (N := 20) (f := fun i => .int (Int32.ofInt (zss i))) (by decide) (hf _ (by decide +kernel)) (va_eqt (hf (Cond.eq (.length (.static "RiverText" "SENSE_STEPS" "[I")) (.int (Int32.ofNat 20))) (by decide +kernel))) (fun j hj => va_eqt (hf _ (zs_el j hj))) hA
  exact ⟨kw, ss, va_Zref (hts _ (lm3 51 rfl)) (hts _ (lm1 1 rfl)) k1 hA, k2, va_Nw.of rfl (hts _ (lm3 50 rfl)), va_Zref (hts _ (lm4 78 rfl)) (hts _ (lm1 1 rfl)) s1 hA, s2, va_Nw.of rfl (hts _ (lm4 77 rfl))⟩
theorem st_kNs (hts : ∀ w ∈ lw_tbl, w.before #[Value.ref b] s = true) : kNs s := by
  intro q hq
  simp only [kNl, List.mem_cons, List.not_mem_nil, or_false] at hq
  rcases hq with rfl | rfl | rfl | rfl | rfl | rfl | rfl | rfl | rfl
  · exact va_Nw.of rfl (hts _ (lm1 91 rfl))
  · exact va_Nw.of rfl (hts _ (lm1 85 rfl))
  · exact va_Nw.of rfl (hts _ (lm2 164 rfl))
  · exact va_Nw.of rfl (hts _ (lm2 123 rfl))
  · exact va_Nw.of rfl (hts _ (lm2 187 rfl))
  · exact va_Nw.of rfl (hts _ (lm2 159 rfl))
  · exact va_Nw.of rfl (hts _ (lm2 100 rfl))
  · exact va_Nw.of rfl (hts _ (lm2 168 rfl))
  · exact va_Nw.of rfl (hts _ (lm1 30 rfl))
theorem st_AO (hts : ∀ w ∈ lw_tbl, w.before #[Value.ref b] s = true) : va_AO RX8 s ∧ va_AO RX5 s := ⟨va_AO.of (hts _ (lm2 88 rfl)), va_AO.of (hts _ (lm2 157 rfl))⟩
theorem st_zTr (hts : ∀ w ∈ lw_tbl, w.before #[Value.ref b] s = true) (hg : (Jvm.Cond.and given_1 narrow_1).before #[Value.ref b] s = true) : zTr (fun z => s.heap.size ≤ z) s := by
  have hf := flat_of_before _ hg
  have hA : ∀ a : Nat, a < s.heap.size → ¬ (fun z => s.heap.size ≤ z) a := fun a h => Nat.not_le.mpr h
  exact ⟨⟨va_Nw.of rfl (hts _ (lm5 192 rfl)), va_Nw.of rfl (hts _ (lm5 194 rfl)), va_Nw.of rfl (hts _ (lm5 196 rfl)), va_Nw.of rfl (hts _ (lm5 191 rfl))⟩, vx_Zqof (hts _ (lm5 216 rfl)) (hts _ (lm1 15 rfl)) (hf _ (by decide +kernel)) hA, vx_Zqof (hts _ (lm5 218 rfl)) (hts _ (lm1 15 rfl)) (hf _ (by decide +kernel)) hA⟩
theorem st_cls (hts : ∀ w ∈ zTs, w.before #[Value.ref b] s = true) : ∃ D : va_G, ∀ (k : Nat) (q : vw_C), vwCl[k]? = some q → u_Kn s q.1 q.2.1 q.2.2 (D.1 k) (D.2 k) := by
  obtain ⟨c0, i0, h0⟩ := u_known (ws := zTs) (C := RX0) (T := TX0) (N := 2) (n := 2) hts zcw0 (hts _ (tm2 82 rfl rfl))
  obtain ⟨c1, i1, h1⟩ := u_known (ws := zTs) (C := RX1) (T := TX1) (N := 19) (n := 19) hts zcw1 (hts _ (tm1 84 rfl rfl))
  obtain ⟨c2, i2, h2⟩ := u_known (ws := zTs) (C := RX2) (T := TX2) (N := 7) (n := 7) hts zcw2 (hts _ (tm1 212 rfl rfl))
  obtain ⟨c3, i3, h3⟩ := u_known (ws := zTs) (C := RX3) (T := TX3) (N := 9) (n := 9) hts zcw3 (hts _ (tm2 122 rfl rfl))
  obtain ⟨c4, i4, h4⟩ := u_known (ws := zTs) (C := RX4) (T := TX4) (N := 2) (n := 2) hts zcw4 (hts _ (tm2 186 rfl rfl))
  obtain ⟨c5, i5, h5⟩ := u_known (ws := zTs) (C := RX5) (T := TX5) (N := 4) (n := 4) hts zcw5 (hts _ (tm2 158 rfl rfl))
  obtain ⟨c6, i6, h6⟩ := u_known (ws := zTs) (C := RX6) (T := TX6) (N := 4) (n := 4) hts zcw6 (hts _ (tm1 90 rfl rfl))
  obtain ⟨c7, i7, h7⟩ := u_known (ws := zTs) (C := RX7) (T := TX7) (N := 5) (n := 5) hts zcw7 (hts _ (tm2 99 rfl rfl))
  obtain ⟨c8, i8, h8⟩ := u_known (ws := zTs) (C := RX8) (T := TX8) (N := 16) (n := 16) hts zcw8 (hts _ (tm2 1 rfl rfl))
  obtain ⟨c9, i9, h9⟩ := u_known (ws := zTs) (C := RX9) (T := TX9) (N := 11) (n := 11) hts zcw9 (hts _ (tm1 29 rfl rfl))
  obtain ⟨c10, i10, h10⟩ := u_known (ws := zTs) (C := RX10) (T := TX10) (N := 18) (n := 18) hts zcw10 (hts _ (tm1 21 rfl rfl))
  obtain ⟨c11, i11, h11⟩ := u_known (ws := zTs) (C := RX11) (T := TX11) (N := 46) (n := 46) hts zcw11 (hts _ (tm6 28 rfl rfl))
  have h : ∀ k : Nat, ∃ x : ClassId × (Nat → Nat), ∀ q : vw_C, vwCl[k]? = some q → u_Kn s q.1 q.2.1 q.2.2 x.1 x.2 := by
    intro k
    match k with
    | 0 => exact ⟨(c0, i0), fun q hq => by cases hq; exact h0⟩
    | 1 => exact ⟨(c1, i1), fun q hq => by cases hq; exact h1⟩
    | 2 => exact ⟨(c2, i2), fun q hq => by cases hq; exact h2⟩
    | 3 => exact ⟨(c3, i3), fun q hq => by cases hq; exact h3⟩
    | 4 => exact ⟨(c4, i4), fun q hq => by cases hq; exact h4⟩
    | 5 => exact ⟨(c5, i5), fun q hq => by cases hq; exact h5⟩
    | 6 => exact ⟨(c6, i6), fun q hq => by cases hq; exact h6⟩
    | 7 => exact ⟨(c7, i7), fun q hq => by cases hq; exact h7⟩
    | 8 => exact ⟨(c8, i8), fun q hq => by cases hq; exact h8⟩
    | 9 => exact ⟨(c9, i9), fun q hq => by cases hq; exact h9⟩
    | 10 => exact ⟨(c10, i10), fun q hq => by cases hq; exact h10⟩
    | 11 => exact ⟨(c11, i11), fun q hq => by cases hq; exact h11⟩
    | n + 12 => exact ⟨(c0, i0), fun q hq => by simp [vwCl] at hq⟩
  obtain ⟨f, hf⟩ := Classical.axiomOfChoice h
  exact ⟨(fun k => (f k).1, fun k => (f k).2), fun k q hq => hf k q hq⟩
theorem st_arr {args : Array Value} {ty : FieldType} (hp : ∀ C, ty ≠ .object C) (h : (Cond.arrayClass ty).before args s = true) : ∃ c : ClassId, ArrOfT s c ty ∧ va_RA s c ty := by
  obtain ⟨c, k, comp, h1, h2, h3⟩ := Cond.arrayClass_spec h
  refine ⟨c, fun n z => ⟨(fun k h => by cases h), k, h2, comp, h3⟩, ?_⟩
  cases ty with
  | object C => exact absurd rfl (hp C)
  | _ => exact h1
theorem st_arrO {args : Array Value} {C : String} (h : (Cond.arrayOver (.object C)).before args s = true) : ∃ c : ClassId, ArrOfT s c (.object C) ∧ va_RA s c (.object C) := by
  obtain ⟨comp, c, k, h1, h2, h3, h4, h5⟩ := Cond.arrayOver_spec h
  exact ⟨c, fun n z => ⟨(fun k h => by cases h), k, h3, comp, h4⟩, k, comp, h3, h4, h1, h5⟩
theorem st_K (hts : ∀ w ∈ lw_tbl, w.before #[Value.ref b] s = true) (htz : ∀ w ∈ zTs, w.before #[Value.ref b] s = true) : ∃ (D : va_G) (ct : Nat → ClassId), va_K D vwCl (ztys ct) s := by
  obtain ⟨D, hD⟩ := st_cls htz
  obtain ⟨aI, xI⟩ := st_arr (ty := .int) (by intro C h; cases h) (htz _ (tm1 82 rfl rfl))
  obtain ⟨aJ, xJ⟩ := st_arr (ty := .long) (by intro C h; cases h) (htz _ (tm1 113 rfl rfl))
  obtain ⟨aB, xB⟩ := st_arr (ty := .byte) (by intro C h; cases h) (htz _ (tm6 204 rfl rfl))
  obtain ⟨aZ, xZ⟩ := st_arr (ty := .boolean) (by intro C h; cases h) (htz _ (tm6 205 rfl rfl))
  obtain ⟨aM, xM⟩ := st_arrO (C := "RiverText$Image") (hts _ (lm2 157 rfl))
  obtain ⟨aS, xS⟩ := st_arrO (C := "RiverText$Stream") (hts _ (lm2 88 rfl))
  refine ⟨D, fun k => if k = 100 then aI else if k = 101 then aJ else if k = 102 then aB else if k = 103 then aZ else if k = 115 then aM else aS, hD, ?_⟩
  intro k q hq
  match k, hq with
  | 0, hq => cases hq; exact xI
  | 1, hq => cases hq; exact xJ
  | 2, hq => cases hq; exact xB
  | 3, hq => cases hq; exact xZ
  | 4, hq => cases hq; exact xM
  | 5, hq => cases hq; exact xS
  | n + 6, hq => simp [ztys] at hq
end ZS1
