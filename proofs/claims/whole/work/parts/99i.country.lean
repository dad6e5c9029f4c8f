/-! THE CONSTRUCTOR of a country (by program) -/
section ZL
theorem zkn6 : ∀ slot, slot < znf 6 → (zfi 6 slot).1 ≠ 3 ∧ (zfi 6 slot).1 ≠ 4 := by decide +kernel
theorem zrngK6 {k : Nat} : zrng k (k + 5) (zPN k) := zrng_cons ⟨⟨Nat.le_refl _, by dsimp only; omega⟩, fun _ => ⟨by show k + 1 + 4 ≤ k + 5; omega, fun slot hs => ⟨(zkn6 slot hs).1, fun h4 => absurd h4 (zkn6 slot hs).2⟩⟩, (by decide : (6 : Nat) ≠ 115), (by decide : (6 : Nat) ≠ 118)⟩ (zrng_cons (zrng_arr (by omega) (by omega) (by decide) (by decide) (by decide)) (zrng_cons (zrng_arr (by omega) (by omega) (by decide) (by decide) (by decide)) (zrng_cons (zrng_arr (by omega) (by omega) (by decide) (by decide) (by decide)) (zrng_nil))))
abbrev MK1 : zMt := (yX1_init, cX1_init, 1, 0, RX1)
theorem zmoK1 : zMok MK1 := ⟨zpl_1.1, zpl_1.2.1, zpl_1.2.2, (tm1 87 rfl rfl), zin_1, Nat.le_of_ble_eq_true rfl, rfl⟩
theorem dK1_0 : decode cX1_init 0 = .ok (.aload_n 0, 1) := by decide +kernel
theorem dK1_1 : decode cX1_init 1 = .ok (.invokespecial 3, 3) := by decide +kernel
theorem dK1_4 : decode cX1_init 4 = .ok (.aload_n 0, 1) := by decide +kernel
theorem dK1_5 : decode cX1_init 5 = .ok (.new 9, 3) := by decide +kernel
theorem dK1_8 : decode cX1_init 8 = .ok (.dup, 1) := by decide +kernel
theorem dK1_9 : decode cX1_init 9 = .ok (.invokespecial 11, 3) := by decide +kernel
theorem dK1_12 : decode cX1_init 12 = .ok (.putfield 12, 3) := by decide +kernel
theorem dK1_15 : decode cX1_init 15 = .ok (.aload_n 0, 1) := by decide +kernel
theorem dK1_16 : decode cX1_init 16 = .ok (.bipush (10), 2) := by decide +kernel
theorem dK1_18 : decode cX1_init 18 = .ok (.newarray .int, 2) := by decide +kernel
theorem dK1_20 : decode cX1_init 20 = .ok (.putfield 18, 3) := by decide +kernel
theorem dK1_23 : decode cX1_init 23 = .ok (.aload_n 0, 1) := by decide +kernel
theorem dK1_24 : decode cX1_init 24 = .ok (.bipush (8), 2) := by decide +kernel
theorem dK1_26 : decode cX1_init 26 = .ok (.newarray .int, 2) := by decide +kernel
theorem dK1_28 : decode cX1_init 28 = .ok (.putfield 22, 3) := by decide +kernel
theorem dK1_31 : decode cX1_init 31 = .ok (.aload_n 0, 1) := by decide +kernel
theorem dK1_32 : decode cX1_init 32 = .ok (.bipush (8), 2) := by decide +kernel
theorem dK1_34 : decode cX1_init 34 = .ok (.newarray .int, 2) := by decide +kernel
theorem dK1_36 : decode cX1_init 36 = .ok (.putfield 25, 3) := by decide +kernel
theorem dK1_39 : decode cX1_init 39 = .ok (.aload_n 0, 1) := by decide +kernel
theorem dK1_40 : decode cX1_init 40 = .ok (.bipush (8), 2) := by decide +kernel
theorem dK1_42 : decode cX1_init 42 = .ok (.newarray .int, 2) := by decide +kernel
theorem dK1_44 : decode cX1_init 44 = .ok (.putfield 28, 3) := by decide +kernel
theorem dK1_47 : decode cX1_init 47 = .ok (.aload_n 0, 1) := by decide +kernel
theorem dK1_48 : decode cX1_init 48 = .ok (.bipush (8), 2) := by decide +kernel
theorem dK1_50 : decode cX1_init 50 = .ok (.newarray .int, 2) := by decide +kernel
theorem dK1_52 : decode cX1_init 52 = .ok (.putfield 31, 3) := by decide +kernel
theorem dK1_55 : decode cX1_init 55 = .ok (.aload_n 0, 1) := by decide +kernel
theorem dK1_56 : decode cX1_init 56 = .ok (.bipush (96), 2) := by decide +kernel
theorem dK1_58 : decode cX1_init 58 = .ok (.newarray .int, 2) := by decide +kernel
theorem dK1_60 : decode cX1_init 60 = .ok (.putfield 34, 3) := by decide +kernel
theorem dK1_63 : decode cX1_init 63 = .ok (.aload_n 0, 1) := by decide +kernel
theorem dK1_64 : decode cX1_init 64 = .ok (.bipush (6), 2) := by decide +kernel
theorem dK1_66 : decode cX1_init 66 = .ok (.newarray .int, 2) := by decide +kernel
theorem dK1_68 : decode cX1_init 68 = .ok (.putfield 37, 3) := by decide +kernel
theorem dK1_71 : decode cX1_init 71 = .ok (.aload_n 0, 1) := by decide +kernel
theorem dK1_72 : decode cX1_init 72 = .ok (.bipush (6), 2) := by decide +kernel
theorem dK1_74 : decode cX1_init 74 = .ok (.newarray .int, 2) := by decide +kernel
theorem dK1_76 : decode cX1_init 76 = .ok (.putfield 40, 3) := by decide +kernel
theorem dK1_79 : decode cX1_init 79 = .ok (.aload_n 0, 1) := by decide +kernel
theorem dK1_80 : decode cX1_init 80 = .ok (.bipush (60), 2) := by decide +kernel
theorem dK1_82 : decode cX1_init 82 = .ok (.newarray .int, 2) := by decide +kernel
theorem dK1_84 : decode cX1_init 84 = .ok (.putfield 43, 3) := by decide +kernel
theorem dK1_87 : decode cX1_init 87 = .ok (.aload_n 0, 1) := by decide +kernel
theorem dK1_88 : decode cX1_init 88 = .ok (.bipush (6), 2) := by decide +kernel
theorem dK1_90 : decode cX1_init 90 = .ok (.newarray .int, 2) := by decide +kernel
theorem dK1_92 : decode cX1_init 92 = .ok (.putfield 46, 3) := by decide +kernel
theorem dK1_95 : decode cX1_init 95 = .ok (.aload_n 0, 1) := by decide +kernel
theorem dK1_96 : decode cX1_init 96 = .ok (.bipush (6), 2) := by decide +kernel
theorem dK1_98 : decode cX1_init 98 = .ok (.newarray .int, 2) := by decide +kernel
theorem dK1_100 : decode cX1_init 100 = .ok (.putfield 49, 3) := by decide +kernel
theorem dK1_103 : decode cX1_init 103 = .ok (.aload_n 0, 1) := by decide +kernel
theorem dK1_104 : decode cX1_init 104 = .ok (.bipush (6), 2) := by decide +kernel
theorem dK1_106 : decode cX1_init 106 = .ok (.newarray .int, 2) := by decide +kernel
theorem dK1_108 : decode cX1_init 108 = .ok (.putfield 52, 3) := by decide +kernel
theorem dK1_111 : decode cX1_init 111 = .ok (.return_, 1) := by decide +kernel
theorem znpK6 : znp MK6.1 = some 0 := by decide +kernel
def zPC (k : Nat) : zP := (k, 1, 0) :: (zPN (k + 32) ++ [(k + (1 + 1), 100, 10), (k + (1 + 2), 100, 8), (k + (1 + 3), 100, 8), (k + (1 + 4), 100, 8), (k + (1 + 5), 100, 8), (k + (1 + 6), 100, 96), (k + (1 + 7), 100, 6), (k + (1 + 8), 100, 6), (k + (1 + 9), 100, 60), (k + (1 + 10), 100, 6), (k + (1 + 11), 100, 6), (k + (1 + 12), 100, 6)])
set_option maxHeartbeats 8000000 in
theorem kc_1 {k : Nat} (hz : ∀ e ∈ zPC k, zBG e.1 = fun _ => 0) : zCon MK1 1 k [.null, .null, .null, .null, .null, .null, .null, .null, .null, .null, .null, .null, .null, .int 0, .int 0, .int 0, .int 0, .int 0, .int 0] [] zBG (zPC k) { frames := 2, cells := 16, slots := 322, locals := 40 } 16 322 := by
  have hz6 : ∀ e ∈ zPN (k + 32), zBG e.1 = fun _ => 0 := fun e he => hz e (List.mem_cons_of_mem _ (List.mem_append_left _ he))
  refine kStart zmoK1 rfl rfl (fun _ => Nat.le_of_ble_eq_true rfl) ?_
  intro l D ct kw ss h0 p e s m args below meth c A ls C0 hret hlocks hP hD hl
  have hx := C0.1
  have hb := C0.2.1
  have hS : va_S A s.heap s.heap [] := va_S.rf
  refine kObj C0 (lv_at hl 0 rfl) hl.1 (tm1 88 rfl rfl) (tm1 26 rfl rfl) (tm1 27 rfl rfl) (Nat.le_of_ble_eq_true rfl) (Nat.le_of_ble_eq_true rfl) dK1_0 dK1_1 ?_
  refine lv_aload_n hx hb dK1_4 rfl (lv_at hl 0 rfl) ?_
  refine kNew (ci := 6) (N := 4) (fs := [.null, .null, .null, .int 0]) C0 hP hD hS tyX6 zcw6 tyX6_ok (tm1 89 rfl rfl) (tm1 90 rfl rfl) zin_6 rfl (by decide +kernel) (Nat.le_of_ble_eq_true rfl) (Nat.le_of_ble_eq_true rfl) dK1_5 dK1_8 (fun qn H hP hD hS => ?_)
  refine kCallN (ws := [(h0, .inr (1, [.null, .null, .null, .null, .null, .null, .null, .null, .null, .null, .null, .null, .null, .int 0, .int 0, .int 0, .int 0, .int 0, .int 0]))]) (as := []) (n := 0) (rest := [.ref qn, .ref h0]) C0 (kc_6 (k := k + 32) hz6) hP hD hS zmoK6 rfl rfl rfl rfl (List.mem_of_getElem? (i := 0) rfl) (tm1 92 rfl rfl) znpK6 rfl hl.1 ⟨Nat.le_of_ble_eq_true rfl, Nat.le_of_ble_eq_true rfl⟩ (Nat.le_of_ble_eq_true rfl) ⟨Nat.le_of_ble_eq_true rfl, Nat.le_of_ble_eq_true rfl⟩ dK1_9 rfl (fun ad1 H locs had1 hP hD hS => ?_)
  refine kPut C0 hP hD hS 0 tyX1 zcw1 tyX1_ok nmX1 rfl (fs := [.null, .null, .null, .null, .null, .null, .null, .null, .null, .null, .null, .null, .null, .int 0, .int 0, .int 0, .int 0, .int 0, .int 0]) rfl (k := 0) (by decide) (tm1 114 rfl rfl) rfl rfl rfl rfl (Nat.le_of_ble_eq_true rfl) dK1_12 (fun H locs hP hD hS => ?_)
  have hP : va_P D vwCl ((h0, .inr (1, [.ref qn, .null, .null, .null, .null, .null, .null, .null, .null, .null, .null, .null, .null, .int 0, .int 0, .int 0, .int 0, .int 0, .int 0])) :: zw ad1 ct zBG (zPN (k + 32))) H := hP
  have hD : va_D A ((h0, .inr (1, [.ref qn, .null, .null, .null, .null, .null, .null, .null, .null, .null, .null, .null, .null, .int 0, .int 0, .int 0, .int 0, .int 0, .int 0])) :: zw ad1 ct zBG (zPN (k + 32))) := hD
  refine lv_aload_n hx hb dK1_15 rfl (lv_at hl 0 rfl) ?_
  refine lv_bipush (v := 10) hx hb dK1_16 (by decide) ?_
  refine kArr (atype := .int) (ty := .int) (R := { frames := 2, cells := 16, slots := 322, locals := 40 }) (a0 := (10, .inl (fun _ => Int32.ofInt 0))) (N' := 10) C0 hP hD hS 100 rfl (w := 0) rfl (tm1 82 rfl rfl) (fun _ => rfl) (by decide +kernel) (by decide +kernel) (Nat.le_of_ble_eq_true rfl) tyX1 zcw1 tyX1_ok nmX1 rfl (k := 1) (by decide) (tm1 117 rfl rfl) rfl rfl (fun _ => rfl) (fun _ => rfl) (Nat.le_of_ble_eq_true rfl) (Nat.le_of_ble_eq_true rfl) (Nat.le_of_ble_eq_true rfl) dK1_18 dK1_20 (fun q0 H locs hP hD hS => ?_)
  refine lv_aload_n hx hb dK1_23 rfl (lv_at hl 0 rfl) ?_
  refine lv_bipush (v := 8) hx hb dK1_24 (by decide) ?_
  refine kArr (atype := .int) (ty := .int) (R := { frames := 2, cells := 16, slots := 322, locals := 40 }) (a0 := (8, .inl (fun _ => Int32.ofInt 0))) (N' := 8) C0 hP hD hS 100 rfl (w := 0) rfl (tm1 82 rfl rfl) (fun _ => rfl) (by decide +kernel) (by decide +kernel) (Nat.le_of_ble_eq_true rfl) tyX1 zcw1 tyX1_ok nmX1 rfl (k := 2) (by decide) (tm1 120 rfl rfl) rfl rfl (fun _ => rfl) (fun _ => rfl) (Nat.le_of_ble_eq_true rfl) (Nat.le_of_ble_eq_true rfl) (Nat.le_of_ble_eq_true rfl) dK1_26 dK1_28 (fun q1 H locs hP hD hS => ?_)
  refine lv_aload_n hx hb dK1_31 rfl (lv_at hl 0 rfl) ?_
  refine lv_bipush (v := 8) hx hb dK1_32 (by decide) ?_
  refine kArr (atype := .int) (ty := .int) (R := { frames := 2, cells := 16, slots := 322, locals := 40 }) (a0 := (8, .inl (fun _ => Int32.ofInt 0))) (N' := 8) C0 hP hD hS 100 rfl (w := 0) rfl (tm1 82 rfl rfl) (fun _ => rfl) (by decide +kernel) (by decide +kernel) (Nat.le_of_ble_eq_true rfl) tyX1 zcw1 tyX1_ok nmX1 rfl (k := 3) (by decide) (tm1 124 rfl rfl) rfl rfl (fun _ => rfl) (fun _ => rfl) (Nat.le_of_ble_eq_true rfl) (Nat.le_of_ble_eq_true rfl) (Nat.le_of_ble_eq_true rfl) dK1_34 dK1_36 (fun q2 H locs hP hD hS => ?_)
  refine lv_aload_n hx hb dK1_39 rfl (lv_at hl 0 rfl) ?_
  refine lv_bipush (v := 8) hx hb dK1_40 (by decide) ?_
  refine kArr (atype := .int) (ty := .int) (R := { frames := 2, cells := 16, slots := 322, locals := 40 }) (a0 := (8, .inl (fun _ => Int32.ofInt 0))) (N' := 8) C0 hP hD hS 100 rfl (w := 0) rfl (tm1 82 rfl rfl) (fun _ => rfl) (by decide +kernel) (by decide +kernel) (Nat.le_of_ble_eq_true rfl) tyX1 zcw1 tyX1_ok nmX1 rfl (k := 4) (by decide) (tm1 127 rfl rfl) rfl rfl (fun _ => rfl) (fun _ => rfl) (Nat.le_of_ble_eq_true rfl) (Nat.le_of_ble_eq_true rfl) (Nat.le_of_ble_eq_true rfl) dK1_42 dK1_44 (fun q3 H locs hP hD hS => ?_)
  refine lv_aload_n hx hb dK1_47 rfl (lv_at hl 0 rfl) ?_
  refine lv_bipush (v := 8) hx hb dK1_48 (by decide) ?_
  refine kArr (atype := .int) (ty := .int) (R := { frames := 2, cells := 16, slots := 322, locals := 40 }) (a0 := (8, .inl (fun _ => Int32.ofInt 0))) (N' := 8) C0 hP hD hS 100 rfl (w := 0) rfl (tm1 82 rfl rfl) (fun _ => rfl) (by decide +kernel) (by decide +kernel) (Nat.le_of_ble_eq_true rfl) tyX1 zcw1 tyX1_ok nmX1 rfl (k := 5) (by decide) (tm1 130 rfl rfl) rfl rfl (fun _ => rfl) (fun _ => rfl) (Nat.le_of_ble_eq_true rfl) (Nat.le_of_ble_eq_true rfl) (Nat.le_of_ble_eq_true rfl) dK1_50 dK1_52 (fun q4 H locs hP hD hS => ?_)
  refine lv_aload_n hx hb dK1_55 rfl (lv_at hl 0 rfl) ?_
  refine lv_bipush (v := 96) hx hb dK1_56 (by decide) ?_
  refine kArr (atype := .int) (ty := .int) (R := { frames := 2, cells := 16, slots := 322, locals := 40 }) (a0 := (96, .inl (fun _ => Int32.ofInt 0))) (N' := 96) C0 hP hD hS 100 rfl (w := 0) rfl (tm1 82 rfl rfl) (fun _ => rfl) (by decide +kernel) (by decide +kernel) (Nat.le_of_ble_eq_true rfl) tyX1 zcw1 tyX1_ok nmX1 rfl (k := 6) (by decide) (tm1 133 rfl rfl) rfl rfl (fun _ => rfl) (fun _ => rfl) (Nat.le_of_ble_eq_true rfl) (Nat.le_of_ble_eq_true rfl) (Nat.le_of_ble_eq_true rfl) dK1_58 dK1_60 (fun q5 H locs hP hD hS => ?_)
  refine lv_aload_n hx hb dK1_63 rfl (lv_at hl 0 rfl) ?_
  refine lv_bipush (v := 6) hx hb dK1_64 (by decide) ?_
  refine kArr (atype := .int) (ty := .int) (R := { frames := 2, cells := 16, slots := 322, locals := 40 }) (a0 := (6, .inl (fun _ => Int32.ofInt 0))) (N' := 6) C0 hP hD hS 100 rfl (w := 0) rfl (tm1 82 rfl rfl) (fun _ => rfl) (by decide +kernel) (by decide +kernel) (Nat.le_of_ble_eq_true rfl) tyX1 zcw1 tyX1_ok nmX1 rfl (k := 7) (by decide) (tm1 134 rfl rfl) rfl rfl (fun _ => rfl) (fun _ => rfl) (Nat.le_of_ble_eq_true rfl) (Nat.le_of_ble_eq_true rfl) (Nat.le_of_ble_eq_true rfl) dK1_66 dK1_68 (fun q6 H locs hP hD hS => ?_)
  refine lv_aload_n hx hb dK1_71 rfl (lv_at hl 0 rfl) ?_
  refine lv_bipush (v := 6) hx hb dK1_72 (by decide) ?_
  refine kArr (atype := .int) (ty := .int) (R := { frames := 2, cells := 16, slots := 322, locals := 40 }) (a0 := (6, .inl (fun _ => Int32.ofInt 0))) (N' := 6) C0 hP hD hS 100 rfl (w := 0) rfl (tm1 82 rfl rfl) (fun _ => rfl) (by decide +kernel) (by decide +kernel) (Nat.le_of_ble_eq_true rfl) tyX1 zcw1 tyX1_ok nmX1 rfl (k := 8) (by decide) (tm1 137 rfl rfl) rfl rfl (fun _ => rfl) (fun _ => rfl) (Nat.le_of_ble_eq_true rfl) (Nat.le_of_ble_eq_true rfl) (Nat.le_of_ble_eq_true rfl) dK1_74 dK1_76 (fun q7 H locs hP hD hS => ?_)
  refine lv_aload_n hx hb dK1_79 rfl (lv_at hl 0 rfl) ?_
  refine lv_bipush (v := 60) hx hb dK1_80 (by decide) ?_
  refine kArr (atype := .int) (ty := .int) (R := { frames := 2, cells := 16, slots := 322, locals := 40 }) (a0 := (60, .inl (fun _ => Int32.ofInt 0))) (N' := 60) C0 hP hD hS 100 rfl (w := 0) rfl (tm1 82 rfl rfl) (fun _ => rfl) (by decide +kernel) (by decide +kernel) (Nat.le_of_ble_eq_true rfl) tyX1 zcw1 tyX1_ok nmX1 rfl (k := 9) (by decide) (tm1 140 rfl rfl) rfl rfl (fun _ => rfl) (fun _ => rfl) (Nat.le_of_ble_eq_true rfl) (Nat.le_of_ble_eq_true rfl) (Nat.le_of_ble_eq_true rfl) dK1_82 dK1_84 (fun q8 H locs hP hD hS => ?_)
  refine lv_aload_n hx hb dK1_87 rfl (lv_at hl 0 rfl) ?_
  refine lv_bipush (v := 6) hx hb dK1_88 (by decide) ?_
  refine kArr (atype := .int) (ty := .int) (R := { frames := 2, cells := 16, slots := 322, locals := 40 }) (a0 := (6, .inl (fun _ => Int32.ofInt 0))) (N' := 6) C0 hP hD hS 100 rfl (w := 0) rfl (tm1 82 rfl rfl) (fun _ => rfl) (by decide +kernel) (by decide +kernel) (Nat.le_of_ble_eq_true rfl) tyX1 zcw1 tyX1_ok nmX1 rfl (k := 10) (by decide) (tm1 141 rfl rfl) rfl rfl (fun _ => rfl) (fun _ => rfl) (Nat.le_of_ble_eq_true rfl) (Nat.le_of_ble_eq_true rfl) (Nat.le_of_ble_eq_true rfl) dK1_90 dK1_92 (fun q9 H locs hP hD hS => ?_)
  refine lv_aload_n hx hb dK1_95 rfl (lv_at hl 0 rfl) ?_
  refine lv_bipush (v := 6) hx hb dK1_96 (by decide) ?_
  refine kArr (atype := .int) (ty := .int) (R := { frames := 2, cells := 16, slots := 322, locals := 40 }) (a0 := (6, .inl (fun _ => Int32.ofInt 0))) (N' := 6) C0 hP hD hS 100 rfl (w := 0) rfl (tm1 82 rfl rfl) (fun _ => rfl) (by decide +kernel) (by decide +kernel) (Nat.le_of_ble_eq_true rfl) tyX1 zcw1 tyX1_ok nmX1 rfl (k := 11) (by decide) (tm1 145 rfl rfl) rfl rfl (fun _ => rfl) (fun _ => rfl) (Nat.le_of_ble_eq_true rfl) (Nat.le_of_ble_eq_true rfl) (Nat.le_of_ble_eq_true rfl) dK1_98 dK1_100 (fun q10 H locs hP hD hS => ?_)
  refine lv_aload_n hx hb dK1_103 rfl (lv_at hl 0 rfl) ?_
  refine lv_bipush (v := 6) hx hb dK1_104 (by decide) ?_
  refine kArr (atype := .int) (ty := .int) (R := { frames := 2, cells := 16, slots := 322, locals := 40 }) (a0 := (6, .inl (fun _ => Int32.ofInt 0))) (N' := 6) C0 hP hD hS 100 rfl (w := 0) rfl (tm1 82 rfl rfl) (fun _ => rfl) (by decide +kernel) (by decide +kernel) (Nat.le_of_ble_eq_true rfl) tyX1 zcw1 tyX1_ok nmX1 rfl (k := 12) (by decide) (tm1 149 rfl rfl) rfl rfl (fun _ => rfl) (fun _ => rfl) (Nat.le_of_ble_eq_true rfl) (Nat.le_of_ble_eq_true rfl) (Nat.le_of_ble_eq_true rfl) dK1_106 dK1_108 (fun q11 H locs hP hD hS => ?_)
  obtain ⟨ad, had, had2⟩ := ex_ad k 14 [h0, 0, q0, q1, q2, q3, q4, q5, q6, q7, q8, q9, q10, q11] ad1
  have e0 : ad k = h0 := had 0 (by decide)
  have en : ad (k + 32) = qn := (had2 _ (by omega)).trans had1
  have e1 : ad (k + (1 + 1)) = q0 := had 2 (by decide)
  have e2 : ad (k + (1 + 2)) = q1 := had 3 (by decide)
  have e3 : ad (k + (1 + 3)) = q2 := had 4 (by decide)
  have e4 : ad (k + (1 + 4)) = q3 := had 5 (by decide)
  have e5 : ad (k + (1 + 5)) = q4 := had 6 (by decide)
  have e6 : ad (k + (1 + 6)) = q5 := had 7 (by decide)
  have e7 : ad (k + (1 + 7)) = q6 := had 8 (by decide)
  have e8 : ad (k + (1 + 8)) = q7 := had 9 (by decide)
  have e9 : ad (k + (1 + 9)) = q8 := had 10 (by decide)
  have e10 : ad (k + (1 + 10)) = q9 := had 11 (by decide)
  have e11 : ad (k + (1 + 11)) = q10 := had 12 (by decide)
  have e12 : ad (k + (1 + 12)) = q11 := had 13 (by decide)
  have hWn : zw ad1 ct zBG (zPN (k + 32)) = zw ad ct (fun _ _ => 0) (zPN (k + 32)) := zw_cong zrngK6 (fun j hj _ => (had2 j (by omega)).symm) hz6
  have hW : zw ad ct zBG (zPC k) = zw ad ct (fun _ _ => 0) (zPC k) := zw_zero hz
  have hP9 : va_P D vwCl (zw ad ct zBG (zPC k)) H := by
    rw [hW]
    rw [hWn, ← e0, ← en, ← e1, ← e2, ← e3, ← e4, ← e5, ← e6, ← e7, ← e8, ← e9, ← e10, ← e11, ← e12] at hP
    exact hP
  have hD9 : va_D A (zw ad ct zBG (zPC k)) := by
    rw [hW]
    rw [hWn, ← e0, ← en, ← e1, ← e2, ← e3, ← e4, ← e5, ← e6, ← e7, ← e8, ← e9, ← e10, ← e11, ← e12] at hD
    exact hD
  exact kDone C0 hret hlocks ad e0 hP9 hD9 hS (Nat.le_of_ble_eq_true rfl) (Nat.le_of_ble_eq_true rfl) dK1_111
end ZL
