/-! THE CONSTRUCTOR of a stream (by program) -/
section ZX
abbrev MK8 : zMt := (yX8_init, cX8_init, 2, 0, RX8)
theorem zmoK8 : zMok MK8 := ⟨zpl_8.1, zpl_8.2.1, zpl_8.2.2, (tm2 4 rfl rfl), zin_8, Nat.le_of_ble_eq_true rfl, rfl⟩
theorem dK8_0 : decode cX8_init 0 = .ok (.aload_n 0, 1) := by decide +kernel
theorem dK8_1 : decode cX8_init 1 = .ok (.invokespecial 3, 3) := by decide +kernel
theorem dK8_4 : decode cX8_init 4 = .ok (.aload_n 0, 1) := by decide +kernel
theorem dK8_5 : decode cX8_init 5 = .ok (.bipush (72), 2) := by decide +kernel
theorem dK8_7 : decode cX8_init 7 = .ok (.newarray .int, 2) := by decide +kernel
theorem dK8_9 : decode cX8_init 9 = .ok (.putfield 9, 3) := by decide +kernel
theorem dK8_12 : decode cX8_init 12 = .ok (.aload_n 0, 1) := by decide +kernel
theorem dK8_13 : decode cX8_init 13 = .ok (.bipush (8), 2) := by decide +kernel
theorem dK8_15 : decode cX8_init 15 = .ok (.newarray .int, 2) := by decide +kernel
theorem dK8_17 : decode cX8_init 17 = .ok (.putfield 15, 3) := by decide +kernel
theorem dK8_20 : decode cX8_init 20 = .ok (.aload_n 0, 1) := by decide +kernel
theorem dK8_21 : decode cX8_init 21 = .ok (.bipush (6), 2) := by decide +kernel
theorem dK8_23 : decode cX8_init 23 = .ok (.newarray .int, 2) := by decide +kernel
theorem dK8_25 : decode cX8_init 25 = .ok (.putfield 18, 3) := by decide +kernel
theorem dK8_28 : decode cX8_init 28 = .ok (.aload_n 0, 1) := by decide +kernel
theorem dK8_29 : decode cX8_init 29 = .ok (.bipush (6), 2) := by decide +kernel
theorem dK8_31 : decode cX8_init 31 = .ok (.newarray .int, 2) := by decide +kernel
theorem dK8_33 : decode cX8_init 33 = .ok (.putfield 21, 3) := by decide +kernel
theorem dK8_36 : decode cX8_init 36 = .ok (.aload_n 0, 1) := by decide +kernel
theorem dK8_37 : decode cX8_init 37 = .ok (.bipush (6), 2) := by decide +kernel
theorem dK8_39 : decode cX8_init 39 = .ok (.newarray .int, 2) := by decide +kernel
theorem dK8_41 : decode cX8_init 41 = .ok (.putfield 24, 3) := by decide +kernel
theorem dK8_44 : decode cX8_init 44 = .ok (.aload_n 0, 1) := by decide +kernel
theorem dK8_45 : decode cX8_init 45 = .ok (.bipush (6), 2) := by decide +kernel
theorem dK8_47 : decode cX8_init 47 = .ok (.newarray .int, 2) := by decide +kernel
theorem dK8_49 : decode cX8_init 49 = .ok (.putfield 27, 3) := by decide +kernel
theorem dK8_52 : decode cX8_init 52 = .ok (.aload_n 0, 1) := by decide +kernel
theorem dK8_53 : decode cX8_init 53 = .ok (.bipush (6), 2) := by decide +kernel
theorem dK8_55 : decode cX8_init 55 = .ok (.newarray .int, 2) := by decide +kernel
theorem dK8_57 : decode cX8_init 57 = .ok (.putfield 30, 3) := by decide +kernel
theorem dK8_60 : decode cX8_init 60 = .ok (.aload_n 0, 1) := by decide +kernel
theorem dK8_61 : decode cX8_init 61 = .ok (.bipush (6), 2) := by decide +kernel
theorem dK8_63 : decode cX8_init 63 = .ok (.newarray .int, 2) := by decide +kernel
theorem dK8_65 : decode cX8_init 65 = .ok (.putfield 33, 3) := by decide +kernel
theorem dK8_68 : decode cX8_init 68 = .ok (.aload_n 0, 1) := by decide +kernel
theorem dK8_69 : decode cX8_init 69 = .ok (.bipush (6), 2) := by decide +kernel
theorem dK8_71 : decode cX8_init 71 = .ok (.newarray .int, 2) := by decide +kernel
theorem dK8_73 : decode cX8_init 73 = .ok (.putfield 36, 3) := by decide +kernel
theorem dK8_76 : decode cX8_init 76 = .ok (.aload_n 0, 1) := by decide +kernel
theorem dK8_77 : decode cX8_init 77 = .ok (.bipush (6), 2) := by decide +kernel
theorem dK8_79 : decode cX8_init 79 = .ok (.newarray .int, 2) := by decide +kernel
theorem dK8_81 : decode cX8_init 81 = .ok (.putfield 39, 3) := by decide +kernel
theorem dK8_84 : decode cX8_init 84 = .ok (.aload_n 0, 1) := by decide +kernel
theorem dK8_85 : decode cX8_init 85 = .ok (.bipush (6), 2) := by decide +kernel
theorem dK8_87 : decode cX8_init 87 = .ok (.newarray .int, 2) := by decide +kernel
theorem dK8_89 : decode cX8_init 89 = .ok (.putfield 42, 3) := by decide +kernel
theorem dK8_92 : decode cX8_init 92 = .ok (.aload_n 0, 1) := by decide +kernel
theorem dK8_93 : decode cX8_init 93 = .ok (.iload_n 1, 1) := by decide +kernel
theorem dK8_94 : decode cX8_init 94 = .ok (.ifCond .le (7), 3) := by decide +kernel
theorem dK8_97 : decode cX8_init 97 = .ok (.iload_n 1, 1) := by decide +kernel
theorem dK8_98 : decode cX8_init 98 = .ok (.goto (4), 3) := by decide +kernel
theorem dK8_101 : decode cX8_init 101 = .ok (.iconst 0, 1) := by decide +kernel
theorem dK8_102 : decode cX8_init 102 = .ok (.newarray .int, 2) := by decide +kernel
theorem dK8_104 : decode cX8_init 104 = .ok (.putfield 45, 3) := by decide +kernel
theorem dK8_107 : decode cX8_init 107 = .ok (.aload_n 0, 1) := by decide +kernel
theorem dK8_108 : decode cX8_init 108 = .ok (.iconst 0, 1) := by decide +kernel
theorem dK8_109 : decode cX8_init 109 = .ok (.invokevirtual 48, 3) := by decide +kernel
theorem dK8_112 : decode cX8_init 112 = .ok (.return_, 1) := by decide +kernel
theorem znpK8 : znp MK8.1 = some 1 := by decide +kernel
def zPX (k N : Nat) : zP := [(k, 8, 0), (k + (1 + 0), 100, 72), (k + (1 + 1), 100, 8), (k + (1 + 2), 100, 6), (k + (1 + 3), 100, 6), (k + (1 + 4), 100, 6), (k + (1 + 5), 100, 6), (k + (1 + 6), 100, 6), (k + (1 + 7), 100, 6), (k + (1 + 8), 100, 6), (k + (1 + 9), 100, 6), (k + (1 + 10), 100, 6), (k + (1 + 11), 100, N)]
theorem zkn8 : ∀ slot, slot < znf 8 → (zfi 8 slot).1 ≠ 3 ∧ (zfi 8 slot).1 ≠ 4 := by decide +kernel
theorem zrngK8 {k N : Nat} : zrng k (k + 17) (zPX k N) := zrng_cons ⟨⟨Nat.le_refl _, by dsimp only; omega⟩, fun _ => ⟨by show k + 1 + 16 ≤ k + 17; omega, fun slot hs => ⟨(zkn8 slot hs).1, fun h4 => absurd h4 (zkn8 slot hs).2⟩⟩, (by decide : (8 : Nat) ≠ 115), (by decide : (8 : Nat) ≠ 118)⟩ (zrng_cons (zrng_arr (by omega) (by omega) (by decide) (by decide) (by decide)) (zrng_cons (zrng_arr (by omega) (by omega) (by decide) (by decide) (by decide)) (zrng_cons (zrng_arr (by omega) (by omega) (by decide) (by decide) (by decide)) (zrng_cons (zrng_arr (by omega) (by omega) (by decide) (by decide) (by decide)) (zrng_cons (zrng_arr (by omega) (by omega) (by decide) (by decide) (by decide)) (zrng_cons (zrng_arr (by omega) (by omega) (by decide) (by decide) (by decide)) (zrng_cons (zrng_arr (by omega) (by omega) (by decide) (by decide) (by decide)) (zrng_cons (zrng_arr (by omega) (by omega) (by decide) (by decide) (by decide)) (zrng_cons (zrng_arr (by omega) (by omega) (by decide) (by decide) (by decide)) (zrng_cons (zrng_arr (by omega) (by omega) (by decide) (by decide) (by decide)) (zrng_cons (zrng_arr (by omega) (by omega) (by decide) (by decide) (by decide)) (zrng_cons (zrng_arr (by omega) (by omega) (by decide) (by decide) (by decide)) (zrng_nil)))))))))))))
theorem zapX {k N : Nat} : zapart (zPX k N) := by
  simp only [zapart, zPX, List.pairwise_cons, List.forall_mem_cons, List.not_mem_nil, List.Pairwise.nil, false_imp_iff, implies_true, and_true]
  omega
theorem zfi_out {ci slot : Nat} (h : znf ci ≤ slot) : zfi ci slot = (9, 0, 0) := by
  unfold zfi
  unfold znf at h
  simp only [List.getD_eq_getElem?_getD]
  simp only [List.getD_eq_getElem?_getD] at h
  rw [List.getElem?_eq_none (l := (zfil[ci]?.getD [])) h]
  rfl
theorem zclX {k N : Nat} (hh : zhl k = N) : zcl (zPX k N) := by
  have hN : N < 10000 := by
    rw [← hh]
    unfold zhl
    cases (Nat.beq k 96 || (Nat.beq k 768 || Nat.beq k 1024)) <;> decide
  refine ⟨fun x hx hc => ?_, fun x hx hc => ?_, fun x hx hc => ?_, fun x hx => ?_⟩
  · simp only [zPX, List.mem_cons, List.not_mem_nil, or_false] at hx
    rcases hx with rfl | rfl | rfl | rfl | rfl | rfl | rfl | rfl | rfl | rfl | rfl | rfl | rfl <;> first | (exfalso; revert hc; dsimp only; omega) | skip
    refine ⟨rfl, fun slot a b => ?_⟩
    by_cases hs : slot < 16
    · dsimp only
      have hs' : slot = 0 ∨ slot = 1 ∨ slot = 2 ∨ slot = 3 ∨ slot = 4 ∨ slot = 5 ∨ slot = 6 ∨ slot = 7 ∨ slot = 8 ∨ slot = 9 ∨ slot = 10 ∨ slot = 11 ∨ slot = 12 ∨ slot = 13 ∨ slot = 14 ∨ slot = 15 := by omega
      rw [hh]
      rcases hs' with rfl | rfl | rfl | rfl | rfl | rfl | rfl | rfl | rfl | rfl | rfl | rfl | rfl | rfl | rfl | rfl <;> (refine ⟨fun h => ?_, fun h => ?_, fun h => ?_, fun h => ?_⟩ <;> first | (cases h; done) | (cases h; simp [zPX]; done))
    · rw [zfi_out (ci := 8) (slot := slot) (Nat.le_of_not_lt hs)]
      exact ⟨fun h => (by cases h), fun h => (by cases h), fun h => (by cases h), fun h => (by cases h)⟩
  · exfalso
    simp only [zPX, List.mem_cons, List.not_mem_nil, or_false] at hx
    rcases hx with rfl | rfl | rfl | rfl | rfl | rfl | rfl | rfl | rfl | rfl | rfl | rfl | rfl <;> (revert hc; dsimp only; omega)
  · exfalso
    simp only [zPX, List.mem_cons, List.not_mem_nil, or_false] at hx
    rcases hx with rfl | rfl | rfl | rfl | rfl | rfl | rfl | rfl | rfl | rfl | rfl | rfl | rfl <;> (revert hc; dsimp only; omega)
  · simp only [zPX, List.mem_cons, List.not_mem_nil, or_false] at hx
    rcases hx with rfl | rfl | rfl | rfl | rfl | rfl | rfl | rfl | rfl | rfl | rfl | rfl | rfl <;> (refine ⟨?_, ?_, ?_⟩ <;> dsimp only <;> omega)
theorem zbeg_ev {k : Nat} : zsem 68 0 1 [.inr (.inr (.inr (8, 0, k))), .inl 0] [] (fun _ _ => 0) = some (zbeg k, 0) := by
  obtain ⟨σ', h1, h2⟩ := c_begin_any (σ := fun _ _ => 0) (k := k)
  unfold zbeg
  rw [h1]
  exact h1
theorem zBG_X {k N : Nat} (hk : k ∈ zids 8) : ∀ x ∈ zPX k N, zbeg k x.1 = zBG x.1 := by
  intro x hx
  refine (zI_str hk ?_ ?_).symm
  all_goals
    simp only [zPX, List.mem_cons, List.not_mem_nil, or_false] at hx
    rcases hx with rfl | rfl | rfl | rfl | rfl | rfl | rfl | rfl | rfl | rfl | rfl | rfl | rfl <;> dsimp only <;> omega
set_option maxHeartbeats 8000000 in
theorem kc_8a {k : Nat} (hk : k ∈ zids 8) (hh : zhl k = 400) : zCon MK8 8 k [.null, .null, .null, .null, .null, .null, .null, .null, .null, .null, .null, .null, .int 0, .int 0, .int 0, .int 0] [.int 400] zBG (zPX k 400) { frames := 3, cells := 12, slots := 534, locals := 160 } 12 534 := by
  refine kStart zmoK8 rfl rfl (fun _ => Nat.le_of_ble_eq_true rfl) ?_
  intro l D ct kw ss h0 p e s m args below meth c A ls C0 hret hlocks hP hD hl
  have hx := C0.1
  have hb := C0.2.1
  have hS : va_S A s.heap s.heap [] := va_S.rf
  refine kObj C0 (lv_at hl 0 rfl) hl.1 (tm2 5 rfl rfl) (tm1 26 rfl rfl) (tm1 27 rfl rfl) (Nat.le_of_ble_eq_true rfl) (Nat.le_of_ble_eq_true rfl) dK8_0 dK8_1 ?_
  refine lv_aload_n hx hb dK8_4 rfl (lv_at hl 0 rfl) ?_
  refine lv_bipush (v := 72) hx hb dK8_5 (by decide) ?_
  refine kArr (atype := .int) (ty := .int) (R := { frames := 3, cells := 12, slots := 534, locals := 160 }) (a0 := (72, .inl (fun _ => Int32.ofInt 0))) (N' := 72) C0 hP hD hS 100 rfl (w := 0) rfl (tm1 82 rfl rfl) (fun _ => rfl) (by decide +kernel) (by decide +kernel) (Nat.le_of_ble_eq_true rfl) tyX8 zcw8 tyX8_ok nmX8 rfl (k := 0) (by decide) (tm2 13 rfl rfl) rfl rfl (fun _ => rfl) (fun _ => rfl) (Nat.le_of_ble_eq_true rfl) (Nat.le_of_ble_eq_true rfl) (Nat.le_of_ble_eq_true rfl) dK8_7 dK8_9 (fun q0 H locs hP hD hS => ?_)
  refine lv_aload_n hx hb dK8_12 rfl (lv_at hl 0 rfl) ?_
  refine lv_bipush (v := 8) hx hb dK8_13 (by decide) ?_
  refine kArr (atype := .int) (ty := .int) (R := { frames := 3, cells := 12, slots := 534, locals := 160 }) (a0 := (8, .inl (fun _ => Int32.ofInt 0))) (N' := 8) C0 hP hD hS 100 rfl (w := 0) rfl (tm1 82 rfl rfl) (fun _ => rfl) (by decide +kernel) (by decide +kernel) (Nat.le_of_ble_eq_true rfl) tyX8 zcw8 tyX8_ok nmX8 rfl (k := 1) (by decide) (tm2 14 rfl rfl) rfl rfl (fun _ => rfl) (fun _ => rfl) (Nat.le_of_ble_eq_true rfl) (Nat.le_of_ble_eq_true rfl) (Nat.le_of_ble_eq_true rfl) dK8_15 dK8_17 (fun q1 H locs hP hD hS => ?_)
  refine lv_aload_n hx hb dK8_20 rfl (lv_at hl 0 rfl) ?_
  refine lv_bipush (v := 6) hx hb dK8_21 (by decide) ?_
  refine kArr (atype := .int) (ty := .int) (R := { frames := 3, cells := 12, slots := 534, locals := 160 }) (a0 := (6, .inl (fun _ => Int32.ofInt 0))) (N' := 6) C0 hP hD hS 100 rfl (w := 0) rfl (tm1 82 rfl rfl) (fun _ => rfl) (by decide +kernel) (by decide +kernel) (Nat.le_of_ble_eq_true rfl) tyX8 zcw8 tyX8_ok nmX8 rfl (k := 2) (by decide) (tm2 15 rfl rfl) rfl rfl (fun _ => rfl) (fun _ => rfl) (Nat.le_of_ble_eq_true rfl) (Nat.le_of_ble_eq_true rfl) (Nat.le_of_ble_eq_true rfl) dK8_23 dK8_25 (fun q2 H locs hP hD hS => ?_)
  refine lv_aload_n hx hb dK8_28 rfl (lv_at hl 0 rfl) ?_
  refine lv_bipush (v := 6) hx hb dK8_29 (by decide) ?_
  refine kArr (atype := .int) (ty := .int) (R := { frames := 3, cells := 12, slots := 534, locals := 160 }) (a0 := (6, .inl (fun _ => Int32.ofInt 0))) (N' := 6) C0 hP hD hS 100 rfl (w := 0) rfl (tm1 82 rfl rfl) (fun _ => rfl) (by decide +kernel) (by decide +kernel) (Nat.le_of_ble_eq_true rfl) tyX8 zcw8 tyX8_ok nmX8 rfl (k := 3) (by decide) (tm2 17 rfl rfl) rfl rfl (fun _ => rfl) (fun _ => rfl) (Nat.le_of_ble_eq_true rfl) (Nat.le_of_ble_eq_true rfl) (Nat.le_of_ble_eq_true rfl) dK8_31 dK8_33 (fun q3 H locs hP hD hS => ?_)
  refine lv_aload_n hx hb dK8_36 rfl (lv_at hl 0 rfl) ?_
  refine lv_bipush (v := 6) hx hb dK8_37 (by decide) ?_
  refine kArr (atype := .int) (ty := .int) (R := { frames := 3, cells := 12, slots := 534, locals := 160 }) (a0 := (6, .inl (fun _ => Int32.ofInt 0))) (N' := 6) C0 hP hD hS 100 rfl (w := 0) rfl (tm1 82 rfl rfl) (fun _ => rfl) (by decide +kernel) (by decide +kernel) (Nat.le_of_ble_eq_true rfl) tyX8 zcw8 tyX8_ok nmX8 rfl (k := 4) (by decide) (tm2 19 rfl rfl) rfl rfl (fun _ => rfl) (fun _ => rfl) (Nat.le_of_ble_eq_true rfl) (Nat.le_of_ble_eq_true rfl) (Nat.le_of_ble_eq_true rfl) dK8_39 dK8_41 (fun q4 H locs hP hD hS => ?_)
  refine lv_aload_n hx hb dK8_44 rfl (lv_at hl 0 rfl) ?_
  refine lv_bipush (v := 6) hx hb dK8_45 (by decide) ?_
  refine kArr (atype := .int) (ty := .int) (R := { frames := 3, cells := 12, slots := 534, locals := 160 }) (a0 := (6, .inl (fun _ => Int32.ofInt 0))) (N' := 6) C0 hP hD hS 100 rfl (w := 0) rfl (tm1 82 rfl rfl) (fun _ => rfl) (by decide +kernel) (by decide +kernel) (Nat.le_of_ble_eq_true rfl) tyX8 zcw8 tyX8_ok nmX8 rfl (k := 5) (by decide) (tm2 23 rfl rfl) rfl rfl (fun _ => rfl) (fun _ => rfl) (Nat.le_of_ble_eq_true rfl) (Nat.le_of_ble_eq_true rfl) (Nat.le_of_ble_eq_true rfl) dK8_47 dK8_49 (fun q5 H locs hP hD hS => ?_)
  refine lv_aload_n hx hb dK8_52 rfl (lv_at hl 0 rfl) ?_
  refine lv_bipush (v := 6) hx hb dK8_53 (by decide) ?_
  refine kArr (atype := .int) (ty := .int) (R := { frames := 3, cells := 12, slots := 534, locals := 160 }) (a0 := (6, .inl (fun _ => Int32.ofInt 0))) (N' := 6) C0 hP hD hS 100 rfl (w := 0) rfl (tm1 82 rfl rfl) (fun _ => rfl) (by decide +kernel) (by decide +kernel) (Nat.le_of_ble_eq_true rfl) tyX8 zcw8 tyX8_ok nmX8 rfl (k := 6) (by decide) (tm2 26 rfl rfl) rfl rfl (fun _ => rfl) (fun _ => rfl) (Nat.le_of_ble_eq_true rfl) (Nat.le_of_ble_eq_true rfl) (Nat.le_of_ble_eq_true rfl) dK8_55 dK8_57 (fun q6 H locs hP hD hS => ?_)
  refine lv_aload_n hx hb dK8_60 rfl (lv_at hl 0 rfl) ?_
  refine lv_bipush (v := 6) hx hb dK8_61 (by decide) ?_
  refine kArr (atype := .int) (ty := .int) (R := { frames := 3, cells := 12, slots := 534, locals := 160 }) (a0 := (6, .inl (fun _ => Int32.ofInt 0))) (N' := 6) C0 hP hD hS 100 rfl (w := 0) rfl (tm1 82 rfl rfl) (fun _ => rfl) (by decide +kernel) (by decide +kernel) (Nat.le_of_ble_eq_true rfl) tyX8 zcw8 tyX8_ok nmX8 rfl (k := 7) (by decide) (tm2 29 rfl rfl) rfl rfl (fun _ => rfl) (fun _ => rfl) (Nat.le_of_ble_eq_true rfl) (Nat.le_of_ble_eq_true rfl) (Nat.le_of_ble_eq_true rfl) dK8_63 dK8_65 (fun q7 H locs hP hD hS => ?_)
  refine lv_aload_n hx hb dK8_68 rfl (lv_at hl 0 rfl) ?_
  refine lv_bipush (v := 6) hx hb dK8_69 (by decide) ?_
  refine kArr (atype := .int) (ty := .int) (R := { frames := 3, cells := 12, slots := 534, locals := 160 }) (a0 := (6, .inl (fun _ => Int32.ofInt 0))) (N' := 6) C0 hP hD hS 100 rfl (w := 0) rfl (tm1 82 rfl rfl) (fun _ => rfl) (by decide +kernel) (by decide +kernel) (Nat.le_of_ble_eq_true rfl) tyX8 zcw8 tyX8_ok nmX8 rfl (k := 8) (by decide) (tm2 31 rfl rfl) rfl rfl (fun _ => rfl) (fun _ => rfl) (Nat.le_of_ble_eq_true rfl) (Nat.le_of_ble_eq_true rfl) (Nat.le_of_ble_eq_true rfl) dK8_71 dK8_73 (fun q8 H locs hP hD hS => ?_)
  refine lv_aload_n hx hb dK8_76 rfl (lv_at hl 0 rfl) ?_
  refine lv_bipush (v := 6) hx hb dK8_77 (by decide) ?_
  refine kArr (atype := .int) (ty := .int) (R := { frames := 3, cells := 12, slots := 534, locals := 160 }) (a0 := (6, .inl (fun _ => Int32.ofInt 0))) (N' := 6) C0 hP hD hS 100 rfl (w := 0) rfl (tm1 82 rfl rfl) (fun _ => rfl) (by decide +kernel) (by decide +kernel) (Nat.le_of_ble_eq_true rfl) tyX8 zcw8 tyX8_ok nmX8 rfl (k := 9) (by decide) (tm2 32 rfl rfl) rfl rfl (fun _ => rfl) (fun _ => rfl) (Nat.le_of_ble_eq_true rfl) (Nat.le_of_ble_eq_true rfl) (Nat.le_of_ble_eq_true rfl) dK8_79 dK8_81 (fun q9 H locs hP hD hS => ?_)
  refine lv_aload_n hx hb dK8_84 rfl (lv_at hl 0 rfl) ?_
  refine lv_bipush (v := 6) hx hb dK8_85 (by decide) ?_
  refine kArr (atype := .int) (ty := .int) (R := { frames := 3, cells := 12, slots := 534, locals := 160 }) (a0 := (6, .inl (fun _ => Int32.ofInt 0))) (N' := 6) C0 hP hD hS 100 rfl (w := 0) rfl (tm1 82 rfl rfl) (fun _ => rfl) (by decide +kernel) (by decide +kernel) (Nat.le_of_ble_eq_true rfl) tyX8 zcw8 tyX8_ok nmX8 rfl (k := 10) (by decide) (tm2 35 rfl rfl) rfl rfl (fun _ => rfl) (fun _ => rfl) (Nat.le_of_ble_eq_true rfl) (Nat.le_of_ble_eq_true rfl) (Nat.le_of_ble_eq_true rfl) dK8_87 dK8_89 (fun q10 H locs hP hD hS => ?_)
  refine lv_aload_n hx hb dK8_92 rfl (lv_at hl 0 rfl) ?_
  refine lv_iload_n hx hb dK8_93 rfl (lv_at hl 1 rfl) ?_
  refine lv_if_le (tgt := 101) hx hb dK8_94 (by decide) (fun hc => ?_) (fun hc => ?_)
  · exact absurd hc (by decide +kernel)
  refine lv_iload_n hx hb dK8_97 rfl (lv_at hl 1 rfl) ?_
  refine lv_goto (tgt := 102) hx hb dK8_98 (by decide) ?_
  refine kArr (atype := .int) (ty := .int) (R := { frames := 3, cells := 12, slots := 534, locals := 160 }) (a0 := (400, .inl (fun _ => Int32.ofInt 0))) (N' := 400) C0 hP hD hS 100 rfl (w := 0) rfl (tm1 82 rfl rfl) (fun _ => rfl) (by decide +kernel) (by decide +kernel) (Nat.le_of_ble_eq_true rfl) tyX8 zcw8 tyX8_ok nmX8 rfl (k := 11) (by decide) (tm2 37 rfl rfl) rfl rfl (fun _ => rfl) (fun _ => rfl) (Nat.le_of_ble_eq_true rfl) (Nat.le_of_ble_eq_true rfl) (Nat.le_of_ble_eq_true rfl) dK8_102 dK8_104 (fun q11 H locs hP hD hS => ?_)
  refine lv_aload_n hx hb dK8_107 rfl (lv_at hl 0 rfl) ?_
  refine lv_iconst (v := 0) hx hb dK8_108 (by decide) ?_
  obtain ⟨ad, had, -⟩ := ex_ad k 13 [h0, q0, q1, q2, q3, q4, q5, q6, q7, q8, q9, q10, q11] (fun _ => 0)
  have e0 : ad k = h0 := had 0 (by decide)
  have e1 : ad (k + (1 + 0)) = q0 := had 1 (by decide)
  have e2 : ad (k + (1 + 1)) = q1 := had 2 (by decide)
  have e3 : ad (k + (1 + 2)) = q2 := had 3 (by decide)
  have e4 : ad (k + (1 + 3)) = q3 := had 4 (by decide)
  have e5 : ad (k + (1 + 4)) = q4 := had 5 (by decide)
  have e6 : ad (k + (1 + 5)) = q5 := had 6 (by decide)
  have e7 : ad (k + (1 + 6)) = q6 := had 7 (by decide)
  have e8 : ad (k + (1 + 7)) = q7 := had 8 (by decide)
  have e9 : ad (k + (1 + 8)) = q8 := had 9 (by decide)
  have e10 : ad (k + (1 + 9)) = q9 := had 10 (by decide)
  have e11 : ad (k + (1 + 10)) = q10 := had 11 (by decide)
  have e12 : ad (k + (1 + 11)) = q11 := had 12 (by decide)
  have hP9 : va_P D vwCl (zw ad ct (fun _ _ => 0) (zPX k 400)) H := by
    rw [← e0, ← e1, ← e2, ← e3, ← e4, ← e5, ← e6, ← e7, ← e8, ← e9, ← e10, ← e11, ← e12] at hP
    exact hP
  have hD9 : va_D A (zw ad ct (fun _ _ => 0) (zPX k 400)) := by
    rw [← e0, ← e1, ← e2, ← e3, ← e4, ← e5, ← e6, ← e7, ← e8, ← e9, ← e10, ← e11, ← e12] at hD
    exact hD
  have hr := zRunV (cm := 68) (cr := 1) (n := 1) (idx := 48) (c0 := 8) (k0 := k) (t := [.inl 0]) (x := 0) (pc := 109) (ls := ls) (R := { frames := 3, cells := 12, slots := 534, locals := 160 }) (cells := 12) (slots := 534) (below := below) (meth := meth) (l := l) (e := e) (st0 := [.int 0, .ref (ad k)]) (rest := []) ⟨hx, hb, C0.2.2.1, C0.2.2.2.1, C0.2.2.2.2.1⟩ C0.2.2.2.2.2.1 C0.2.2.2.2.2.2.2.1.1 C0.2.2.2.2.2.2.2.2 hP9 hD9 hS zapX (zclX hh) (fun _ _ _ => zrg_zero _ _) List.mem_cons_self (by decide) (fun v hv => by cases hv with | head => exact ⟨by decide, by decide⟩ | tail _ h => cases h) zbeg_ev zmo_68 rfl (tm2 6 rfl rfl) zia_68 zse_68 znp_68 rfl hl.1 rfl ⟨Nat.le_of_ble_eq_true rfl, Nat.le_of_ble_eq_true rfl⟩ (Nat.le_of_ble_eq_true rfl) ⟨Nat.le_of_ble_eq_true rfl, Nat.le_of_ble_eq_true rfl⟩ dK8_109
  have hsub := zA_of hD9 C0.2.2.2.2.2.2.2.2 hS
  rw [← e0]
  refine W.widen (k := 12) (n := 534) (Nat.le_of_ble_eq_true rfl) (Nat.le_of_ble_eq_true rfl) ?_
  refine va_callv (a := (Value.ref (ad k) :: List.map (ztr ad kw ss) [Sum.inl 0]).toArray) hr hS (fun q _ h => hsub q h) hsub (fun u t H1 locs1 ht hvm hw hB hz1 hk1 hS1 => ?_)
  have hB : va_P D vwCl (zw ad ct (zbeg k) (zPX k 400)) t.heap := hB
  rw [ht] at hB
  have hW : zw ad ct (zbeg k) (zPX k 400) = zw ad ct zBG (zPX k 400) := zw_cong zrngK8 (fun _ _ _ => rfl) (zBG_X hk)
  have hD1 : va_D A (zw ad ct zBG (zPX k 400)) := zwD_cong hD9
  rw [hW] at hB
  exact kDone C0 hret hlocks ad rfl hB hD1 hS1 (Nat.le_of_ble_eq_true rfl) (Nat.le_of_ble_eq_true rfl) dK8_112
set_option maxHeartbeats 8000000 in
theorem kc_8b {k : Nat} (hk : k ∈ zids 8) (hh : zhl k = 0) : zCon MK8 8 k [.null, .null, .null, .null, .null, .null, .null, .null, .null, .null, .null, .null, .int 0, .int 0, .int 0, .int 0] [.int 0] zBG (zPX k 0) { frames := 3, cells := 12, slots := 134, locals := 160 } 12 134 := by
  refine kStart zmoK8 rfl rfl (fun _ => Nat.le_of_ble_eq_true rfl) ?_
  intro l D ct kw ss h0 p e s m args below meth c A ls C0 hret hlocks hP hD hl
  have hx := C0.1
  have hb := C0.2.1
  have hS : va_S A s.heap s.heap [] := va_S.rf
  refine kObj C0 (lv_at hl 0 rfl) hl.1 (tm2 5 rfl rfl) (tm1 26 rfl rfl) (tm1 27 rfl rfl) (Nat.le_of_ble_eq_true rfl) (Nat.le_of_ble_eq_true rfl) dK8_0 dK8_1 ?_
  refine lv_aload_n hx hb dK8_4 rfl (lv_at hl 0 rfl) ?_
  refine lv_bipush (v := 72) hx hb dK8_5 (by decide) ?_
  refine kArr (atype := .int) (ty := .int) (R := { frames := 3, cells := 12, slots := 134, locals := 160 }) (a0 := (72, .inl (fun _ => Int32.ofInt 0))) (N' := 72) C0 hP hD hS 100 rfl (w := 0) rfl (tm1 82 rfl rfl) (fun _ => rfl) (by decide +kernel) (by decide +kernel) (Nat.le_of_ble_eq_true rfl) tyX8 zcw8 tyX8_ok nmX8 rfl (k := 0) (by decide) (tm2 13 rfl rfl) rfl rfl (fun _ => rfl) (fun _ => rfl) (Nat.le_of_ble_eq_true rfl) (Nat.le_of_ble_eq_true rfl) (Nat.le_of_ble_eq_true rfl) dK8_7 dK8_9 (fun q0 H locs hP hD hS => ?_)
  refine lv_aload_n hx hb dK8_12 rfl (lv_at hl 0 rfl) ?_
  refine lv_bipush (v := 8) hx hb dK8_13 (by decide) ?_
  refine kArr (atype := .int) (ty := .int) (R := { frames := 3, cells := 12, slots := 134, locals := 160 }) (a0 := (8, .inl (fun _ => Int32.ofInt 0))) (N' := 8) C0 hP hD hS 100 rfl (w := 0) rfl (tm1 82 rfl rfl) (fun _ => rfl) (by decide +kernel) (by decide +kernel) (Nat.le_of_ble_eq_true rfl) tyX8 zcw8 tyX8_ok nmX8 rfl (k := 1) (by decide) (tm2 14 rfl rfl) rfl rfl (fun _ => rfl) (fun _ => rfl) (Nat.le_of_ble_eq_true rfl) (Nat.le_of_ble_eq_true rfl) (Nat.le_of_ble_eq_true rfl) dK8_15 dK8_17 (fun q1 H locs hP hD hS => ?_)
  refine lv_aload_n hx hb dK8_20 rfl (lv_at hl 0 rfl) ?_
  refine lv_bipush (v := 6) hx hb dK8_21 (by decide) ?_
  refine kArr (atype := .int) (ty := .int) (R := { frames := 3, cells := 12, slots := 134, locals := 160 }) (a0 := (6, .inl (fun _ => Int32.ofInt 0))) (N' := 6) C0 hP hD hS 100 rfl (w := 0) rfl (tm1 82 rfl rfl) (fun _ => rfl) (by decide +kernel) (by decide +kernel) (Nat.le_of_ble_eq_true rfl) tyX8 zcw8 tyX8_ok nmX8 rfl (k := 2) (by decide) (tm2 15 rfl rfl) rfl rfl (fun _ => rfl) (fun _ => rfl) (Nat.le_of_ble_eq_true rfl) (Nat.le_of_ble_eq_true rfl) (Nat.le_of_ble_eq_true rfl) dK8_23 dK8_25 (fun q2 H locs hP hD hS => ?_)
  refine lv_aload_n hx hb dK8_28 rfl (lv_at hl 0 rfl) ?_
  refine lv_bipush (v := 6) hx hb dK8_29 (by decide) ?_
  refine kArr (atype := .int) (ty := .int) (R := { frames := 3, cells := 12, slots := 134, locals := 160 }) (a0 := (6, .inl (fun _ => Int32.ofInt 0))) (N' := 6) C0 hP hD hS 100 rfl (w := 0) rfl (tm1 82 rfl rfl) (fun _ => rfl) (by decide +kernel) (by decide +kernel) (Nat.le_of_ble_eq_true rfl) tyX8 zcw8 tyX8_ok nmX8 rfl (k := 3) (by decide) (tm2 17 rfl rfl) rfl rfl (fun _ => rfl) (fun _ => rfl) (Nat.le_of_ble_eq_true rfl) (Nat.le_of_ble_eq_true rfl) (Nat.le_of_ble_eq_true rfl) dK8_31 dK8_33 (fun q3 H locs hP hD hS => ?_)
  refine lv_aload_n hx hb dK8_36 rfl (lv_at hl 0 rfl) ?_
  refine lv_bipush (v := 6) hx hb dK8_37 (by decide) ?_
  refine kArr (atype := .int) (ty := .int) (R := { frames := 3, cells := 12, slots := 134, locals := 160 }) (a0 := (6, .inl (fun _ => Int32.ofInt 0))) (N' := 6) C0 hP hD hS 100 rfl (w := 0) rfl (tm1 82 rfl rfl) (fun _ => rfl) (by decide +kernel) (by decide +kernel) (Nat.le_of_ble_eq_true rfl) tyX8 zcw8 tyX8_ok nmX8 rfl (k := 4) (by decide) (tm2 19 rfl rfl) rfl rfl (fun _ => rfl) (fun _ => rfl) (Nat.le_of_ble_eq_true rfl) (Nat.le_of_ble_eq_true rfl) (Nat.le_of_ble_eq_true rfl) dK8_39 dK8_41 (fun q4 H locs hP hD hS => ?_)
  refine lv_aload_n hx hb dK8_44 rfl (lv_at hl 0 rfl) ?_
  refine lv_bipush (v := 6) hx hb dK8_45 (by decide) ?_
  refine kArr (atype := .int) (ty := .int) (R := { frames := 3, cells := 12, slots := 134, locals := 160 }) (a0 := (6, .inl (fun _ => Int32.ofInt 0))) (N' := 6) C0 hP hD hS 100 rfl (w := 0) rfl (tm1 82 rfl rfl) (fun _ => rfl) (by decide +kernel) (by decide +kernel) (Nat.le_of_ble_eq_true rfl) tyX8 zcw8 tyX8_ok nmX8 rfl (k := 5) (by decide) (tm2 23 rfl rfl) rfl rfl (fun _ => rfl) (fun _ => rfl) (Nat.le_of_ble_eq_true rfl) (Nat.le_of_ble_eq_true rfl) (Nat.le_of_ble_eq_true rfl) dK8_47 dK8_49 (fun q5 H locs hP hD hS => ?_)
  refine lv_aload_n hx hb dK8_52 rfl (lv_at hl 0 rfl) ?_
  refine lv_bipush (v := 6) hx hb dK8_53 (by decide) ?_
  refine kArr (atype := .int) (ty := .int) (R := { frames := 3, cells := 12, slots := 134, locals := 160 }) (a0 := (6, .inl (fun _ => Int32.ofInt 0))) (N' := 6) C0 hP hD hS 100 rfl (w := 0) rfl (tm1 82 rfl rfl) (fun _ => rfl) (by decide +kernel) (by decide +kernel) (Nat.le_of_ble_eq_true rfl) tyX8 zcw8 tyX8_ok nmX8 rfl (k := 6) (by decide) (tm2 26 rfl rfl) rfl rfl (fun _ => rfl) (fun _ => rfl) (Nat.le_of_ble_eq_true rfl) (Nat.le_of_ble_eq_true rfl) (Nat.le_of_ble_eq_true rfl) dK8_55 dK8_57 (fun q6 H locs hP hD hS => ?_)
  refine lv_aload_n hx hb dK8_60 rfl (lv_at hl 0 rfl) ?_
  refine lv_bipush (v := 6) hx hb dK8_61 (by decide) ?_
  refine kArr (atype := .int) (ty := .int) (R := { frames := 3, cells := 12, slots := 134, locals := 160 }) (a0 := (6, .inl (fun _ => Int32.ofInt 0))) (N' := 6) C0 hP hD hS 100 rfl (w := 0) rfl (tm1 82 rfl rfl) (fun _ => rfl) (by decide +kernel) (by decide +kernel) (Nat.le_of_ble_eq_true rfl) tyX8 zcw8 tyX8_ok nmX8 rfl (k := 7) (by decide) (tm2 29 rfl rfl) rfl rfl (fun _ => rfl) (fun _ => rfl) (Nat.le_of_ble_eq_true rfl) (Nat.le_of_ble_eq_true rfl) (Nat.le_of_ble_eq_true rfl) dK8_63 dK8_65 (fun q7 H locs hP hD hS => ?_)
  refine lv_aload_n hx hb dK8_68 rfl (lv_at hl 0 rfl) ?_
  refine lv_bipush (v := 6) hx hb dK8_69 (by decide) ?_
  refine kArr (atype := .int) (ty := .int) (R := { frames := 3, cells := 12, slots := 134, locals := 160 }) (a0 := (6, .inl (fun _ => Int32.ofInt 0))) (N' := 6) C0 hP hD hS 100 rfl (w := 0) rfl (tm1 82 rfl rfl) (fun _ => rfl) (by decide +kernel) (by decide +kernel) (Nat.le_of_ble_eq_true rfl) tyX8 zcw8 tyX8_ok nmX8 rfl (k := 8) (by decide) (tm2 31 rfl rfl) rfl rfl (fun _ => rfl) (fun _ => rfl) (Nat.le_of_ble_eq_true rfl) (Nat.le_of_ble_eq_true rfl) (Nat.le_of_ble_eq_true rfl) dK8_71 dK8_73 (fun q8 H locs hP hD hS => ?_)
  refine lv_aload_n hx hb dK8_76 rfl (lv_at hl 0 rfl) ?_
  refine lv_bipush (v := 6) hx hb dK8_77 (by decide) ?_
  refine kArr (atype := .int) (ty := .int) (R := { frames := 3, cells := 12, slots := 134, locals := 160 }) (a0 := (6, .inl (fun _ => Int32.ofInt 0))) (N' := 6) C0 hP hD hS 100 rfl (w := 0) rfl (tm1 82 rfl rfl) (fun _ => rfl) (by decide +kernel) (by decide +kernel) (Nat.le_of_ble_eq_true rfl) tyX8 zcw8 tyX8_ok nmX8 rfl (k := 9) (by decide) (tm2 32 rfl rfl) rfl rfl (fun _ => rfl) (fun _ => rfl) (Nat.le_of_ble_eq_true rfl) (Nat.le_of_ble_eq_true rfl) (Nat.le_of_ble_eq_true rfl) dK8_79 dK8_81 (fun q9 H locs hP hD hS => ?_)
  refine lv_aload_n hx hb dK8_84 rfl (lv_at hl 0 rfl) ?_
  refine lv_bipush (v := 6) hx hb dK8_85 (by decide) ?_
  refine kArr (atype := .int) (ty := .int) (R := { frames := 3, cells := 12, slots := 134, locals := 160 }) (a0 := (6, .inl (fun _ => Int32.ofInt 0))) (N' := 6) C0 hP hD hS 100 rfl (w := 0) rfl (tm1 82 rfl rfl) (fun _ => rfl) (by decide +kernel) (by decide +kernel) (Nat.le_of_ble_eq_true rfl) tyX8 zcw8 tyX8_ok nmX8 rfl (k := 10) (by decide) (tm2 35 rfl rfl) rfl rfl (fun _ => rfl) (fun _ => rfl) (Nat.le_of_ble_eq_true rfl) (Nat.le_of_ble_eq_true rfl) (Nat.le_of_ble_eq_true rfl) dK8_87 dK8_89 (fun q10 H locs hP hD hS => ?_)
  refine lv_aload_n hx hb dK8_92 rfl (lv_at hl 0 rfl) ?_
  refine lv_iload_n hx hb dK8_93 rfl (lv_at hl 1 rfl) ?_
  refine lv_if_le (tgt := 101) hx hb dK8_94 (by decide) (fun hc => ?_) (fun hc => ?_)
  rotate_left
  · exact absurd (by decide +kernel) hc
  refine lv_iconst (v := 0) hx hb dK8_101 (by decide) ?_
  refine kArr (atype := .int) (ty := .int) (R := { frames := 3, cells := 12, slots := 134, locals := 160 }) (a0 := (0, .inl (fun _ => Int32.ofInt 0))) (N' := 0) C0 hP hD hS 100 rfl (w := 0) rfl (tm1 82 rfl rfl) (fun _ => rfl) (by decide +kernel) (by decide +kernel) (Nat.le_of_ble_eq_true rfl) tyX8 zcw8 tyX8_ok nmX8 rfl (k := 11) (by decide) (tm2 37 rfl rfl) rfl rfl (fun _ => rfl) (fun _ => rfl) (Nat.le_of_ble_eq_true rfl) (Nat.le_of_ble_eq_true rfl) (Nat.le_of_ble_eq_true rfl) dK8_102 dK8_104 (fun q11 H locs hP hD hS => ?_)
  refine lv_aload_n hx hb dK8_107 rfl (lv_at hl 0 rfl) ?_
  refine lv_iconst (v := 0) hx hb dK8_108 (by decide) ?_
  obtain ⟨ad, had, -⟩ := ex_ad k 13 [h0, q0, q1, q2, q3, q4, q5, q6, q7, q8, q9, q10, q11] (fun _ => 0)
  have e0 : ad k = h0 := had 0 (by decide)
  have e1 : ad (k + (1 + 0)) = q0 := had 1 (by decide)
  have e2 : ad (k + (1 + 1)) = q1 := had 2 (by decide)
  have e3 : ad (k + (1 + 2)) = q2 := had 3 (by decide)
  have e4 : ad (k + (1 + 3)) = q3 := had 4 (by decide)
  have e5 : ad (k + (1 + 4)) = q4 := had 5 (by decide)
  have e6 : ad (k + (1 + 5)) = q5 := had 6 (by decide)
  have e7 : ad (k + (1 + 6)) = q6 := had 7 (by decide)
  have e8 : ad (k + (1 + 7)) = q7 := had 8 (by decide)
  have e9 : ad (k + (1 + 8)) = q8 := had 9 (by decide)
  have e10 : ad (k + (1 + 9)) = q9 := had 10 (by decide)
  have e11 : ad (k + (1 + 10)) = q10 := had 11 (by decide)
  have e12 : ad (k + (1 + 11)) = q11 := had 12 (by decide)
  have hP9 : va_P D vwCl (zw ad ct (fun _ _ => 0) (zPX k 0)) H := by
    rw [← e0, ← e1, ← e2, ← e3, ← e4, ← e5, ← e6, ← e7, ← e8, ← e9, ← e10, ← e11, ← e12] at hP
    exact hP
  have hD9 : va_D A (zw ad ct (fun _ _ => 0) (zPX k 0)) := by
    rw [← e0, ← e1, ← e2, ← e3, ← e4, ← e5, ← e6, ← e7, ← e8, ← e9, ← e10, ← e11, ← e12] at hD
    exact hD
  have hr := zRunV (cm := 68) (cr := 1) (n := 1) (idx := 48) (c0 := 8) (k0 := k) (t := [.inl 0]) (x := 0) (pc := 109) (ls := ls) (R := { frames := 3, cells := 12, slots := 134, locals := 160 }) (cells := 12) (slots := 134) (below := below) (meth := meth) (l := l) (e := e) (st0 := [.int 0, .ref (ad k)]) (rest := []) ⟨hx, hb, C0.2.2.1, C0.2.2.2.1, C0.2.2.2.2.1⟩ C0.2.2.2.2.2.1 C0.2.2.2.2.2.2.2.1.1 C0.2.2.2.2.2.2.2.2 hP9 hD9 hS zapX (zclX hh) (fun _ _ _ => zrg_zero _ _) List.mem_cons_self (by decide) (fun v hv => by cases hv with | head => exact ⟨by decide, by decide⟩ | tail _ h => cases h) zbeg_ev zmo_68 rfl (tm2 6 rfl rfl) zia_68 zse_68 znp_68 rfl hl.1 rfl ⟨Nat.le_of_ble_eq_true rfl, Nat.le_of_ble_eq_true rfl⟩ (Nat.le_of_ble_eq_true rfl) ⟨Nat.le_of_ble_eq_true rfl, Nat.le_of_ble_eq_true rfl⟩ dK8_109
  have hsub := zA_of hD9 C0.2.2.2.2.2.2.2.2 hS
  rw [← e0]
  refine W.widen (k := 12) (n := 134) (Nat.le_of_ble_eq_true rfl) (Nat.le_of_ble_eq_true rfl) ?_
  refine va_callv (a := (Value.ref (ad k) :: List.map (ztr ad kw ss) [Sum.inl 0]).toArray) hr hS (fun q _ h => hsub q h) hsub (fun u t H1 locs1 ht hvm hw hB hz1 hk1 hS1 => ?_)
  have hB : va_P D vwCl (zw ad ct (zbeg k) (zPX k 0)) t.heap := hB
  rw [ht] at hB
  have hW : zw ad ct (zbeg k) (zPX k 0) = zw ad ct zBG (zPX k 0) := zw_cong zrngK8 (fun _ _ _ => rfl) (zBG_X hk)
  have hD1 : va_D A (zw ad ct zBG (zPX k 0)) := zwD_cong hD9
  rw [hW] at hB
  exact kDone C0 hret hlocks ad rfl hB hD1 hS1 (Nat.le_of_ble_eq_true rfl) (Nat.le_of_ble_eq_true rfl) dK8_112
end ZX
