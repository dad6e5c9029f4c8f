/-! THE CONSTRUCTOR of the reader of countries (by program) -/
section ZR0
abbrev MK2 : zMt := (yX2_init, cX2_init, 3, 0, RX2)
theorem zmoK2 : zMok MK2 := ⟨zpl_2.1, zpl_2.2.1, zpl_2.2.2, (tm1 215 rfl rfl), zin_2, Nat.le_of_ble_eq_true rfl, rfl⟩
theorem dK2_0 : decode cX2_init 0 = .ok (.aload_n 0, 1) := by decide +kernel
theorem dK2_1 : decode cX2_init 1 = .ok (.invokespecial 3, 3) := by decide +kernel
theorem dK2_4 : decode cX2_init 4 = .ok (.aload_n 0, 1) := by decide +kernel
theorem dK2_5 : decode cX2_init 5 = .ok (.aload_n 1, 1) := by decide +kernel
theorem dK2_6 : decode cX2_init 6 = .ok (.putfield 9, 3) := by decide +kernel
theorem dK2_9 : decode cX2_init 9 = .ok (.aload_n 0, 1) := by decide +kernel
theorem dK2_10 : decode cX2_init 10 = .ok (.aload_n 2, 1) := by decide +kernel
theorem dK2_11 : decode cX2_init 11 = .ok (.putfield 15, 3) := by decide +kernel
theorem dK2_14 : decode cX2_init 14 = .ok (.return_, 1) := by decide +kernel
theorem znpK2 : znp MK2.1 = some 2 := by decide +kernel
theorem kc_2 {a b : Nat} : zConW MK2 2 [.null, .null, .int 0, .long 0, .int 0, .int 0, .int 0] [.ref a, .ref b, .int 0, .long 0, .int 0, .int 0, .int 0] [.ref a, .ref b] { frames := 1, cells := 0, slots := 0, locals := 20 } := by
  refine kStartW zmoK2 rfl rfl (fun _ => Nat.le_of_ble_eq_true rfl) ?_
  intro l D ct kw ss h0 p e s m args below meth c A ls C0 hret hlocks hP hD hl
  have hx := C0.1
  have hb := C0.2.1
  have hS : va_S A s.heap s.heap [] := va_S.rf
  refine kObj C0 (lv_at hl 0 rfl) hl.1 (tm1 216 rfl rfl) (tm1 26 rfl rfl) (tm1 27 rfl rfl) (Nat.le_of_ble_eq_true rfl) (Nat.le_of_ble_eq_true rfl) dK2_0 dK2_1 ?_
  refine lv_aload_n hx hb dK2_4 rfl (lv_at hl 0 rfl) ?_
  refine lv_aload_n hx hb dK2_5 rfl (lv_at hl 1 rfl) ?_
  refine kPut C0 hP hD hS 0 tyX2 zcw2 tyX2_ok nmX2 rfl (fs := [.null, .null, .int 0, .long 0, .int 0, .int 0, .int 0]) rfl (k := 0) (by decide) (tm1 217 rfl rfl) rfl rfl rfl rfl (Nat.le_of_ble_eq_true rfl) dK2_6 (fun H locs hP hD hS => ?_)
  have hP : va_P D vwCl [(h0, .inr (2, [.ref a, .null, .int 0, .long 0, .int 0, .int 0, .int 0]))] H := hP
  have hD : va_D A [(h0, .inr (2, [.ref a, .null, .int 0, .long 0, .int 0, .int 0, .int 0]))] := hD
  refine lv_aload_n hx hb dK2_9 rfl (lv_at hl 0 rfl) ?_
  refine lv_aload_n hx hb dK2_10 rfl (lv_at hl 2 rfl) ?_
  refine kPutV C0 hP hD hS 0 tyX2 zcw2 tyX2_ok nmX2 rfl (fs := [.ref a, .null, .int 0, .long 0, .int 0, .int 0, .int 0]) rfl (k := 1) (by decide) (tm1 218 rfl rfl) rfl rfl rfl (Nat.le_of_ble_eq_true rfl) dK2_11 (fun H locs hP hD hS => ?_)
  exact kDoneW C0 hret hlocks hP hS (Nat.le_refl _) (Nat.le_refl _) dK2_14
end ZR0
