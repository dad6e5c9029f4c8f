/-! THE CONSTRUCTOR of the reference (by program) -/
section ZMO
abbrev MK11 : zMt := (yX11_init, cX11_init, 1, 0, RX11)
theorem zmoK11 : zMok MK11 := ⟨zpl_11.1, zpl_11.2.1, zpl_11.2.2, (tm6 37 rfl rfl), zin_11, Nat.le_of_ble_eq_true rfl, rfl⟩
theorem znpK11 : znp MK11.1 = some 0 := by decide +kernel
/-- the heap of the reference at the beginning -/
def zMG : zH := fun j i => if j = 11 then (if i < 26 then zkw i else 0) else 0
def zPQ : zP := [(2, 102, 940), (7, 100, 2959), (8, 100, 288), (9, 100, 135), (10, 101, 60), (21, 100, 72), (22, 100, 9960), (23, 100, 2490), (26, 100, 15), (27, 100, 15), (29, 100, 384), (35, 100, 4), (37, 100, 45), (43, 103, 45), (44, 100, 5918), (45, 101, 60), (46, 103, 2)]
def zPMod : zP := (0, 11, 0) :: (11, 101, 27) :: zPQ
set_option maxHeartbeats 16000000 in
theorem kc_11 : zCon MK11 11 0 [.int 0, .null, .int 0, .int 0, .int 0, .int 0, .null, .null, .null, .null, .null, .int 0, .int 0, .int 0, .int 0, .int 0, .int 0, .long 0, .int 0, .int 0, .null, .null, .null, .int 0, .int 0, .null, .null, .int 0, .null, .int 0, .int 0, .int 0, .int 0, .int 0, .null, .int 0, .null, .int 0, .int 0, .int 0, .int 0, .int 0, .null, .null, .null, .null] [] zMG zPMod { frames := 1, cells := 18, slots := 23419, locals := 20 } 18 23419 := by
  refine kStart zmoK11 rfl rfl (fun _ => Nat.le_of_ble_eq_true rfl) ?_
  intro l D ct kw ss h0 p e s m args below meth c A ls C0 hret hlocks hP hD hl
  have hx := C0.1
  have hb := C0.2.1
  have hS : va_S A s.heap s.heap [] := va_S.rf
  refine kObj C0 (lv_at hl 0 rfl) hl.1 (tm6 38 rfl rfl) (tm1 26 rfl rfl) (tm1 27 rfl rfl) (Nat.le_of_ble_eq_true rfl) (Nat.le_of_ble_eq_true rfl) dK11_0 dK11_1 ?_
  have hK := C0.2.2.2.2.2.1
  have hts := C0.2.2.2.2.1
  refine lv_aload_n hx hb dK11_4 rfl (lv_at hl 0 rfl) ?_
  refine lv_sipush (v := 940) hx hb dK11_5 (by decide) ?_
  refine kArr (atype := .byte) (ty := .byte) (R := { frames := 1, cells := 18, slots := 23419, locals := 20 }) (a0 := (940, .inl (fun _ => Int32.ofInt 0))) (N' := 940) C0 hP hD hS 102 rfl (w := 2) rfl (tm6 204 rfl rfl) (vpI 940 .byte rfl) (by decide +kernel) (by decide +kernel) (Nat.le_of_ble_eq_true rfl) tyX11 zcw11 tyX11_ok nmX11 rfl (k := 1) (by decide) (tm6 66 rfl rfl) rfl rfl (fun _ => rfl) (fun _ => rfl) (Nat.le_of_ble_eq_true rfl) (Nat.le_of_ble_eq_true rfl) (Nat.le_of_ble_eq_true rfl) dK11_8 dK11_10 (fun q0 H locs hP hD hS => ?_)
  refine lv_aload_n hx hb dK11_13 rfl (lv_at hl 0 rfl) ?_
  refine lv_sipush (v := 2959) hx hb dK11_14 (by decide) ?_
  refine kArr (atype := .int) (ty := .int) (R := { frames := 1, cells := 18, slots := 23419, locals := 20 }) (a0 := (2959, .inl (fun _ => Int32.ofInt 0))) (N' := 2959) C0 hP hD hS 100 rfl (w := 0) rfl (tm1 82 rfl rfl) (vpI 2959 .int rfl) (by decide +kernel) (by decide +kernel) (Nat.le_of_ble_eq_true rfl) tyX11 zcw11 tyX11_ok nmX11 rfl (k := 6) (by decide) (tm6 71 rfl rfl) rfl rfl (fun _ => rfl) (fun _ => rfl) (Nat.le_of_ble_eq_true rfl) (Nat.le_of_ble_eq_true rfl) (Nat.le_of_ble_eq_true rfl) dK11_17 dK11_19 (fun q1 H locs hP hD hS => ?_)
  refine lv_aload_n hx hb dK11_22 rfl (lv_at hl 0 rfl) ?_
  refine lv_sipush (v := 288) hx hb dK11_23 (by decide) ?_
  refine kArr (atype := .int) (ty := .int) (R := { frames := 1, cells := 18, slots := 23419, locals := 20 }) (a0 := (288, .inl (fun _ => Int32.ofInt 0))) (N' := 288) C0 hP hD hS 100 rfl (w := 0) rfl (tm1 82 rfl rfl) (vpI 288 .int rfl) (by decide +kernel) (by decide +kernel) (Nat.le_of_ble_eq_true rfl) tyX11 zcw11 tyX11_ok nmX11 rfl (k := 7) (by decide) (tm6 72 rfl rfl) rfl rfl (fun _ => rfl) (fun _ => rfl) (Nat.le_of_ble_eq_true rfl) (Nat.le_of_ble_eq_true rfl) (Nat.le_of_ble_eq_true rfl) dK11_26 dK11_28 (fun q2 H locs hP hD hS => ?_)
  refine lv_aload_n hx hb dK11_31 rfl (lv_at hl 0 rfl) ?_
  refine lv_sipush (v := 135) hx hb dK11_32 (by decide) ?_
  refine kArr (atype := .int) (ty := .int) (R := { frames := 1, cells := 18, slots := 23419, locals := 20 }) (a0 := (135, .inl (fun _ => Int32.ofInt 0))) (N' := 135) C0 hP hD hS 100 rfl (w := 0) rfl (tm1 82 rfl rfl) (vpI 135 .int rfl) (by decide +kernel) (by decide +kernel) (Nat.le_of_ble_eq_true rfl) tyX11 zcw11 tyX11_ok nmX11 rfl (k := 8) (by decide) (tm6 73 rfl rfl) rfl rfl (fun _ => rfl) (fun _ => rfl) (Nat.le_of_ble_eq_true rfl) (Nat.le_of_ble_eq_true rfl) (Nat.le_of_ble_eq_true rfl) dK11_35 dK11_37 (fun q3 H locs hP hD hS => ?_)
  sorry
end ZMO
