/-! CONSTRUCTORS without others in them (by program) -/
section ZK
theorem zw_zero {ad : Nat → Nat} {ct : Nat → ClassId} {σ : zH} {P : zP} (hz : ∀ e ∈ P, σ e.1 = fun _ => 0) : zw ad ct σ P = zw ad ct (fun _ _ => 0) P := by
  unfold zw
  apply List.map_congr_left
  intro e he
  exact zcell_congr (fun i => by rw [hz e he])
abbrev MK6 : zMt := (yX6_init, cX6_init, 1, 0, RX6)
theorem zmoK6 : zMok MK6 := ⟨zpl_6.1, zpl_6.2.1, zpl_6.2.2, (tm1 93 rfl rfl), zin_6, Nat.le_of_ble_eq_true rfl, rfl⟩
theorem dK6_0 : decode cX6_init 0 = .ok (.aload_n 0, 1) := by decide +kernel
theorem dK6_1 : decode cX6_init 1 = .ok (.invokespecial 3, 3) := by decide +kernel
theorem dK6_4 : decode cX6_init 4 = .ok (.aload_n 0, 1) := by decide +kernel
theorem dK6_5 : decode cX6_init 5 = .ok (.bipush (30), 2) := by decide +kernel
theorem dK6_7 : decode cX6_init 7 = .ok (.newarray .long, 2) := by decide +kernel
theorem dK6_9 : decode cX6_init 9 = .ok (.putfield 9, 3) := by decide +kernel
theorem dK6_12 : decode cX6_init 12 = .ok (.aload_n 0, 1) := by decide +kernel
theorem dK6_13 : decode cX6_init 13 = .ok (.bipush (30), 2) := by decide +kernel
theorem dK6_15 : decode cX6_init 15 = .ok (.newarray .int, 2) := by decide +kernel
theorem dK6_17 : decode cX6_init 17 = .ok (.putfield 15, 3) := by decide +kernel
theorem dK6_20 : decode cX6_init 20 = .ok (.aload_n 0, 1) := by decide +kernel
theorem dK6_21 : decode cX6_init 21 = .ok (.bipush (30), 2) := by decide +kernel
theorem dK6_23 : decode cX6_init 23 = .ok (.newarray .int, 2) := by decide +kernel
theorem dK6_25 : decode cX6_init 25 = .ok (.putfield 19, 3) := by decide +kernel
theorem dK6_28 : decode cX6_init 28 = .ok (.return_, 1) := by decide +kernel
def zPN (k : Nat) : zP := [(k, 6, 0), (k + (1 + 0), 101, 30), (k + (1 + 1), 100, 30), (k + (1 + 2), 100, 30)]
set_option maxHeartbeats 4000000 in
theorem kc_6 {k : Nat} (hz : ∀ e ∈ zPN k, zBG e.1 = fun _ => 0) : zCon MK6 6 k [.null, .null, .null, .int 0] [] zBG (zPN k) { frames := 1, cells := 3, slots := 90, locals := 20 } 3 90 := by
  refine kStart zmoK6 rfl rfl (fun _ => Nat.le_of_ble_eq_true rfl) ?_
  intro l D ct kw ss h0 p e s m args below meth c A ls C0 hret hlocks hP hD hl
  have hx := C0.1
  have hb := C0.2.1
  have hS : va_S A s.heap s.heap [] := va_S.rf
  refine kObj C0 (lv_at hl 0 rfl) hl.1 (tm1 94 rfl rfl) (tm1 26 rfl rfl) (tm1 27 rfl rfl) (Nat.le_of_ble_eq_true rfl) (Nat.le_of_ble_eq_true rfl) dK6_0 dK6_1 ?_
  refine lv_aload_n hx hb dK6_4 rfl (lv_at hl 0 rfl) ?_
  refine lv_bipush (v := 30) hx hb dK6_5 (by decide) ?_
  refine kArr (atype := .long) (ty := .long) (R := { frames := 1, cells := 3, slots := 90, locals := 20 }) (a0 := (30, .inr (.inl (fun _ => Int64.ofInt 0)))) (N' := 30) C0 hP hD hS 101 rfl (w := 1) rfl (tm1 113 rfl rfl) (fun _ => rfl) (by decide +kernel) (by decide +kernel) (Nat.le_of_ble_eq_true rfl) tyX6 zcw6 tyX6_ok nmX6 rfl (k := 0) (by decide) (tm1 95 rfl rfl) rfl rfl (fun _ => rfl) (fun _ => rfl) (Nat.le_of_ble_eq_true rfl) (Nat.le_of_ble_eq_true rfl) (Nat.le_of_ble_eq_true rfl) dK6_7 dK6_9 (fun q0 H locs hP hD hS => ?_)
  refine lv_aload_n hx hb dK6_12 rfl (lv_at hl 0 rfl) ?_
  refine lv_bipush (v := 30) hx hb dK6_13 (by decide) ?_
  refine kArr (atype := .int) (ty := .int) (R := { frames := 1, cells := 3, slots := 90, locals := 20 }) (a0 := (30, .inl (fun _ => Int32.ofInt 0))) (N' := 30) C0 hP hD hS 100 rfl (w := 0) rfl (tm1 82 rfl rfl) (fun _ => rfl) (by decide +kernel) (by decide +kernel) (Nat.le_of_ble_eq_true rfl) tyX6 zcw6 tyX6_ok nmX6 rfl (k := 1) (by decide) (tm1 96 rfl rfl) rfl rfl (fun _ => rfl) (fun _ => rfl) (Nat.le_of_ble_eq_true rfl) (Nat.le_of_ble_eq_true rfl) (Nat.le_of_ble_eq_true rfl) dK6_15 dK6_17 (fun q1 H locs hP hD hS => ?_)
  refine lv_aload_n hx hb dK6_20 rfl (lv_at hl 0 rfl) ?_
  refine lv_bipush (v := 30) hx hb dK6_21 (by decide) ?_
  refine kArr (atype := .int) (ty := .int) (R := { frames := 1, cells := 3, slots := 90, locals := 20 }) (a0 := (30, .inl (fun _ => Int32.ofInt 0))) (N' := 30) C0 hP hD hS 100 rfl (w := 0) rfl (tm1 82 rfl rfl) (fun _ => rfl) (by decide +kernel) (by decide +kernel) (Nat.le_of_ble_eq_true rfl) tyX6 zcw6 tyX6_ok nmX6 rfl (k := 2) (by decide) (tm1 99 rfl rfl) rfl rfl (fun _ => rfl) (fun _ => rfl) (Nat.le_of_ble_eq_true rfl) (Nat.le_of_ble_eq_true rfl) (Nat.le_of_ble_eq_true rfl) dK6_23 dK6_25 (fun q2 H locs hP hD hS => ?_)
  obtain ⟨ad, had, -⟩ := ex_ad k 4 [h0, q0, q1, q2] (fun _ => 0)
  have e0 : ad k = h0 := had 0 (by decide)
  have e1 : ad (k + (1 + 0)) = q0 := had 1 (by decide)
  have e2 : ad (k + (1 + 1)) = q1 := had 2 (by decide)
  have e3 : ad (k + (1 + 2)) = q2 := had 3 (by decide)
  have hW : zw ad ct zBG (zPN k) = zw ad ct (fun _ _ => 0) (zPN k) := zw_zero hz
  have hP9 : va_P D vwCl (zw ad ct zBG (zPN k)) H := by
    rw [hW]
    rw [← e0, ← e1, ← e2, ← e3] at hP
    exact hP
  have hD9 : va_D A (zw ad ct zBG (zPN k)) := by
    rw [hW]
    rw [← e0, ← e1, ← e2, ← e3] at hD
    exact hD
  exact kDone C0 hret hlocks ad e0 hP9 hD9 hS (Nat.le_of_ble_eq_true rfl) (Nat.le_of_ble_eq_true rfl) dK6_28
abbrev MK7 : zMt := (yX7_init, cX7_init, 1, 0, RX7)
theorem zmoK7 : zMok MK7 := ⟨zpl_7.1, zpl_7.2.1, zpl_7.2.2, (tm2 102 rfl rfl), zin_7, Nat.le_of_ble_eq_true rfl, rfl⟩
theorem dK7_0 : decode cX7_init 0 = .ok (.aload_n 0, 1) := by decide +kernel
theorem dK7_1 : decode cX7_init 1 = .ok (.invokespecial 3, 3) := by decide +kernel
theorem dK7_4 : decode cX7_init 4 = .ok (.aload_n 0, 1) := by decide +kernel
theorem dK7_5 : decode cX7_init 5 = .ok (.bipush (40), 2) := by decide +kernel
theorem dK7_7 : decode cX7_init 7 = .ok (.newarray .int, 2) := by decide +kernel
theorem dK7_9 : decode cX7_init 9 = .ok (.putfield 9, 3) := by decide +kernel
theorem dK7_12 : decode cX7_init 12 = .ok (.aload_n 0, 1) := by decide +kernel
theorem dK7_13 : decode cX7_init 13 = .ok (.bipush (40), 2) := by decide +kernel
theorem dK7_15 : decode cX7_init 15 = .ok (.newarray .int, 2) := by decide +kernel
theorem dK7_17 : decode cX7_init 17 = .ok (.putfield 15, 3) := by decide +kernel
theorem dK7_20 : decode cX7_init 20 = .ok (.aload_n 0, 1) := by decide +kernel
theorem dK7_21 : decode cX7_init 21 = .ok (.bipush (40), 2) := by decide +kernel
theorem dK7_23 : decode cX7_init 23 = .ok (.newarray .int, 2) := by decide +kernel
theorem dK7_25 : decode cX7_init 25 = .ok (.putfield 18, 3) := by decide +kernel
theorem dK7_28 : decode cX7_init 28 = .ok (.return_, 1) := by decide +kernel
def zPS (k : Nat) : zP := [(k, 7, 0), (k + (1 + 0), 100, 40), (k + (1 + 1), 100, 40), (k + (1 + 2), 100, 40)]
set_option maxHeartbeats 4000000 in
theorem kc_7 {k : Nat} (hz : ∀ e ∈ zPS k, zBG e.1 = fun _ => 0) : zCon MK7 7 k [.null, .null, .null, .int 0, .int 0] [] zBG (zPS k) { frames := 1, cells := 3, slots := 120, locals := 20 } 3 120 := by
  refine kStart zmoK7 rfl rfl (fun _ => Nat.le_of_ble_eq_true rfl) ?_
  intro l D ct kw ss h0 p e s m args below meth c A ls C0 hret hlocks hP hD hl
  have hx := C0.1
  have hb := C0.2.1
  have hS : va_S A s.heap s.heap [] := va_S.rf
  refine kObj C0 (lv_at hl 0 rfl) hl.1 (tm2 103 rfl rfl) (tm1 26 rfl rfl) (tm1 27 rfl rfl) (Nat.le_of_ble_eq_true rfl) (Nat.le_of_ble_eq_true rfl) dK7_0 dK7_1 ?_
  refine lv_aload_n hx hb dK7_4 rfl (lv_at hl 0 rfl) ?_
  refine lv_bipush (v := 40) hx hb dK7_5 (by decide) ?_
  refine kArr (atype := .int) (ty := .int) (R := { frames := 1, cells := 3, slots := 120, locals := 20 }) (a0 := (40, .inl (fun _ => Int32.ofInt 0))) (N' := 40) C0 hP hD hS 100 rfl (w := 0) rfl (tm1 82 rfl rfl) (fun _ => rfl) (by decide +kernel) (by decide +kernel) (Nat.le_of_ble_eq_true rfl) tyX7 zcw7 tyX7_ok nmX7 rfl (k := 0) (by decide) (tm2 104 rfl rfl) rfl rfl (fun _ => rfl) (fun _ => rfl) (Nat.le_of_ble_eq_true rfl) (Nat.le_of_ble_eq_true rfl) (Nat.le_of_ble_eq_true rfl) dK7_7 dK7_9 (fun q0 H locs hP hD hS => ?_)
  refine lv_aload_n hx hb dK7_12 rfl (lv_at hl 0 rfl) ?_
  refine lv_bipush (v := 40) hx hb dK7_13 (by decide) ?_
  refine kArr (atype := .int) (ty := .int) (R := { frames := 1, cells := 3, slots := 120, locals := 20 }) (a0 := (40, .inl (fun _ => Int32.ofInt 0))) (N' := 40) C0 hP hD hS 100 rfl (w := 0) rfl (tm1 82 rfl rfl) (fun _ => rfl) (by decide +kernel) (by decide +kernel) (Nat.le_of_ble_eq_true rfl) tyX7 zcw7 tyX7_ok nmX7 rfl (k := 1) (by decide) (tm2 105 rfl rfl) rfl rfl (fun _ => rfl) (fun _ => rfl) (Nat.le_of_ble_eq_true rfl) (Nat.le_of_ble_eq_true rfl) (Nat.le_of_ble_eq_true rfl) dK7_15 dK7_17 (fun q1 H locs hP hD hS => ?_)
  refine lv_aload_n hx hb dK7_20 rfl (lv_at hl 0 rfl) ?_
  refine lv_bipush (v := 40) hx hb dK7_21 (by decide) ?_
  refine kArr (atype := .int) (ty := .int) (R := { frames := 1, cells := 3, slots := 120, locals := 20 }) (a0 := (40, .inl (fun _ => Int32.ofInt 0))) (N' := 40) C0 hP hD hS 100 rfl (w := 0) rfl (tm1 82 rfl rfl) (fun _ => rfl) (by decide +kernel) (by decide +kernel) (Nat.le_of_ble_eq_true rfl) tyX7 zcw7 tyX7_ok nmX7 rfl (k := 2) (by decide) (tm2 106 rfl rfl) rfl rfl (fun _ => rfl) (fun _ => rfl) (Nat.le_of_ble_eq_true rfl) (Nat.le_of_ble_eq_true rfl) (Nat.le_of_ble_eq_true rfl) dK7_23 dK7_25 (fun q2 H locs hP hD hS => ?_)
  obtain ⟨ad, had, -⟩ := ex_ad k 4 [h0, q0, q1, q2] (fun _ => 0)
  have e0 : ad k = h0 := had 0 (by decide)
  have e1 : ad (k + (1 + 0)) = q0 := had 1 (by decide)
  have e2 : ad (k + (1 + 1)) = q1 := had 2 (by decide)
  have e3 : ad (k + (1 + 2)) = q2 := had 3 (by decide)
  have hW : zw ad ct zBG (zPS k) = zw ad ct (fun _ _ => 0) (zPS k) := zw_zero hz
  have hP9 : va_P D vwCl (zw ad ct zBG (zPS k)) H := by
    rw [hW]
    rw [← e0, ← e1, ← e2, ← e3] at hP
    exact hP
  have hD9 : va_D A (zw ad ct zBG (zPS k)) := by
    rw [hW]
    rw [← e0, ← e1, ← e2, ← e3] at hD
    exact hD
  exact kDone C0 hret hlocks ad e0 hP9 hD9 hS (Nat.le_of_ble_eq_true rfl) (Nat.le_of_ble_eq_true rfl) dK7_28
abbrev MK3 : zMt := (yX3_init, cX3_init, 1, 0, RX3)
theorem zmoK3 : zMok MK3 := ⟨zpl_3.1, zpl_3.2.1, zpl_3.2.2, (tm2 125 rfl rfl), zin_3, Nat.le_of_ble_eq_true rfl, rfl⟩
theorem dK3_0 : decode cX3_init 0 = .ok (.aload_n 0, 1) := by decide +kernel
theorem dK3_1 : decode cX3_init 1 = .ok (.invokespecial 3, 3) := by decide +kernel
theorem dK3_4 : decode cX3_init 4 = .ok (.aload_n 0, 1) := by decide +kernel
theorem dK3_5 : decode cX3_init 5 = .ok (.bipush (30), 2) := by decide +kernel
theorem dK3_7 : decode cX3_init 7 = .ok (.newarray .int, 2) := by decide +kernel
theorem dK3_9 : decode cX3_init 9 = .ok (.putfield 9, 3) := by decide +kernel
theorem dK3_12 : decode cX3_init 12 = .ok (.aload_n 0, 1) := by decide +kernel
theorem dK3_13 : decode cX3_init 13 = .ok (.bipush (30), 2) := by decide +kernel
theorem dK3_15 : decode cX3_init 15 = .ok (.newarray .int, 2) := by decide +kernel
theorem dK3_17 : decode cX3_init 17 = .ok (.putfield 15, 3) := by decide +kernel
theorem dK3_20 : decode cX3_init 20 = .ok (.aload_n 0, 1) := by decide +kernel
theorem dK3_21 : decode cX3_init 21 = .ok (.bipush (30), 2) := by decide +kernel
theorem dK3_23 : decode cX3_init 23 = .ok (.newarray .int, 2) := by decide +kernel
theorem dK3_25 : decode cX3_init 25 = .ok (.putfield 18, 3) := by decide +kernel
theorem dK3_28 : decode cX3_init 28 = .ok (.return_, 1) := by decide +kernel
def zPD (k : Nat) : zP := [(k, 3, 0), (k + (1 + 0), 100, 30), (k + (1 + 1), 100, 30), (k + (1 + 2), 100, 30)]
set_option maxHeartbeats 4000000 in
theorem kc_3 {k : Nat} (hz : ∀ e ∈ zPD k, zBG e.1 = fun _ => 0) : zCon MK3 3 k [.null, .null, .null, .int 0, .int 0, .int 0, .int 0, .int 0, .int 0] [] zBG (zPD k) { frames := 1, cells := 3, slots := 90, locals := 20 } 3 90 := by
  refine kStart zmoK3 rfl rfl (fun _ => Nat.le_of_ble_eq_true rfl) ?_
  intro l D ct kw ss h0 p e s m args below meth c A ls C0 hret hlocks hP hD hl
  have hx := C0.1
  have hb := C0.2.1
  have hS : va_S A s.heap s.heap [] := va_S.rf
  refine kObj C0 (lv_at hl 0 rfl) hl.1 (tm2 126 rfl rfl) (tm1 26 rfl rfl) (tm1 27 rfl rfl) (Nat.le_of_ble_eq_true rfl) (Nat.le_of_ble_eq_true rfl) dK3_0 dK3_1 ?_
  refine lv_aload_n hx hb dK3_4 rfl (lv_at hl 0 rfl) ?_
  refine lv_bipush (v := 30) hx hb dK3_5 (by decide) ?_
  refine kArr (atype := .int) (ty := .int) (R := { frames := 1, cells := 3, slots := 90, locals := 20 }) (a0 := (30, .inl (fun _ => Int32.ofInt 0))) (N' := 30) C0 hP hD hS 100 rfl (w := 0) rfl (tm1 82 rfl rfl) (fun _ => rfl) (by decide +kernel) (by decide +kernel) (Nat.le_of_ble_eq_true rfl) tyX3 zcw3 tyX3_ok nmX3 rfl (k := 0) (by decide) (tm2 127 rfl rfl) rfl rfl (fun _ => rfl) (fun _ => rfl) (Nat.le_of_ble_eq_true rfl) (Nat.le_of_ble_eq_true rfl) (Nat.le_of_ble_eq_true rfl) dK3_7 dK3_9 (fun q0 H locs hP hD hS => ?_)
  refine lv_aload_n hx hb dK3_12 rfl (lv_at hl 0 rfl) ?_
  refine lv_bipush (v := 30) hx hb dK3_13 (by decide) ?_
  refine kArr (atype := .int) (ty := .int) (R := { frames := 1, cells := 3, slots := 90, locals := 20 }) (a0 := (30, .inl (fun _ => Int32.ofInt 0))) (N' := 30) C0 hP hD hS 100 rfl (w := 0) rfl (tm1 82 rfl rfl) (fun _ => rfl) (by decide +kernel) (by decide +kernel) (Nat.le_of_ble_eq_true rfl) tyX3 zcw3 tyX3_ok nmX3 rfl (k := 1) (by decide) (tm2 128 rfl rfl) rfl rfl (fun _ => rfl) (fun _ => rfl) (Nat.le_of_ble_eq_true rfl) (Nat.le_of_ble_eq_true rfl) (Nat.le_of_ble_eq_true rfl) dK3_15 dK3_17 (fun q1 H locs hP hD hS => ?_)
  refine lv_aload_n hx hb dK3_20 rfl (lv_at hl 0 rfl) ?_
  refine lv_bipush (v := 30) hx hb dK3_21 (by decide) ?_
  refine kArr (atype := .int) (ty := .int) (R := { frames := 1, cells := 3, slots := 90, locals := 20 }) (a0 := (30, .inl (fun _ => Int32.ofInt 0))) (N' := 30) C0 hP hD hS 100 rfl (w := 0) rfl (tm1 82 rfl rfl) (fun _ => rfl) (by decide +kernel) (by decide +kernel) (Nat.le_of_ble_eq_true rfl) tyX3 zcw3 tyX3_ok nmX3 rfl (k := 2) (by decide) (tm2 129 rfl rfl) rfl rfl (fun _ => rfl) (fun _ => rfl) (Nat.le_of_ble_eq_true rfl) (Nat.le_of_ble_eq_true rfl) (Nat.le_of_ble_eq_true rfl) dK3_23 dK3_25 (fun q2 H locs hP hD hS => ?_)
  obtain ⟨ad, had, -⟩ := ex_ad k 4 [h0, q0, q1, q2] (fun _ => 0)
  have e0 : ad k = h0 := had 0 (by decide)
  have e1 : ad (k + (1 + 0)) = q0 := had 1 (by decide)
  have e2 : ad (k + (1 + 1)) = q1 := had 2 (by decide)
  have e3 : ad (k + (1 + 2)) = q2 := had 3 (by decide)
  have hW : zw ad ct zBG (zPD k) = zw ad ct (fun _ _ => 0) (zPD k) := zw_zero hz
  have hP9 : va_P D vwCl (zw ad ct zBG (zPD k)) H := by
    rw [hW]
    rw [← e0, ← e1, ← e2, ← e3] at hP
    exact hP
  have hD9 : va_D A (zw ad ct zBG (zPD k)) := by
    rw [hW]
    rw [← e0, ← e1, ← e2, ← e3] at hD
    exact hD
  exact kDone C0 hret hlocks ad e0 hP9 hD9 hS (Nat.le_of_ble_eq_true rfl) (Nat.le_of_ble_eq_true rfl) dK3_28
abbrev MK9 : zMt := (yX9_init, cX9_init, 1, 0, RX9)
theorem zmoK9 : zMok MK9 := ⟨zpl_9.1, zpl_9.2.1, zpl_9.2.2, (tm1 32 rfl rfl), zin_9, Nat.le_of_ble_eq_true rfl, rfl⟩
theorem dK9_0 : decode cX9_init 0 = .ok (.aload_n 0, 1) := by decide +kernel
theorem dK9_1 : decode cX9_init 1 = .ok (.invokespecial 3, 3) := by decide +kernel
theorem dK9_4 : decode cX9_init 4 = .ok (.aload_n 0, 1) := by decide +kernel
theorem dK9_5 : decode cX9_init 5 = .ok (.sipush (940), 3) := by decide +kernel
theorem dK9_8 : decode cX9_init 8 = .ok (.newarray .int, 2) := by decide +kernel
theorem dK9_10 : decode cX9_init 10 = .ok (.putfield 9, 3) := by decide +kernel
theorem dK9_13 : decode cX9_init 13 = .ok (.return_, 1) := by decide +kernel
def zPU (k : Nat) : zP := [(k, 9, 0), (k + (1 + 0), 100, 940)]
set_option maxHeartbeats 4000000 in
theorem kc_9 {k : Nat} (hz : ∀ e ∈ zPU k, zBG e.1 = fun _ => 0) : zCon MK9 9 k [.null, .int 0, .int 0, .int 0, .int 0, .int 0, .int 0, .int 0, .long 0, .int 0, .int 0] [] zBG (zPU k) { frames := 1, cells := 1, slots := 940, locals := 20 } 1 940 := by
  refine kStart zmoK9 rfl rfl (fun _ => Nat.le_of_ble_eq_true rfl) ?_
  intro l D ct kw ss h0 p e s m args below meth c A ls C0 hret hlocks hP hD hl
  have hx := C0.1
  have hb := C0.2.1
  have hS : va_S A s.heap s.heap [] := va_S.rf
  refine kObj C0 (lv_at hl 0 rfl) hl.1 (tm1 33 rfl rfl) (tm1 26 rfl rfl) (tm1 27 rfl rfl) (Nat.le_of_ble_eq_true rfl) (Nat.le_of_ble_eq_true rfl) dK9_0 dK9_1 ?_
  refine lv_aload_n hx hb dK9_4 rfl (lv_at hl 0 rfl) ?_
  refine lv_sipush (v := 940) hx hb dK9_5 (by decide) ?_
  refine kArr (atype := .int) (ty := .int) (R := { frames := 1, cells := 1, slots := 940, locals := 20 }) (a0 := (940, .inl (fun _ => Int32.ofInt 0))) (N' := 940) C0 hP hD hS 100 rfl (w := 0) rfl (tm1 82 rfl rfl) (fun _ => rfl) (by decide +kernel) (by decide +kernel) (Nat.le_of_ble_eq_true rfl) tyX9 zcw9 tyX9_ok nmX9 rfl (k := 0) (by decide) (tm1 34 rfl rfl) rfl rfl (fun _ => rfl) (fun _ => rfl) (Nat.le_of_ble_eq_true rfl) (Nat.le_of_ble_eq_true rfl) (Nat.le_of_ble_eq_true rfl) dK9_8 dK9_10 (fun q0 H locs hP hD hS => ?_)
  obtain ⟨ad, had, -⟩ := ex_ad k 2 [h0, q0] (fun _ => 0)
  have e0 : ad k = h0 := had 0 (by decide)
  have e1 : ad (k + (1 + 0)) = q0 := had 1 (by decide)
  have hW : zw ad ct zBG (zPU k) = zw ad ct (fun _ _ => 0) (zPU k) := zw_zero hz
  have hP9 : va_P D vwCl (zw ad ct zBG (zPU k)) H := by
    rw [hW]
    rw [← e0, ← e1] at hP
    exact hP
  have hD9 : va_D A (zw ad ct zBG (zPU k)) := by
    rw [hW]
    rw [← e0, ← e1] at hD
    exact hD
  exact kDone C0 hret hlocks ad e0 hP9 hD9 hS (Nat.le_of_ble_eq_true rfl) (Nat.le_of_ble_eq_true rfl) dK9_13
abbrev MK4 : zMt := (yX4_init, cX4_init, 1, 0, RX4)
theorem zmoK4 : zMok MK4 := ⟨zpl_4.1, zpl_4.2.1, zpl_4.2.2, (tm2 189 rfl rfl), zin_4, Nat.le_of_ble_eq_true rfl, rfl⟩
theorem dK4_0 : decode cX4_init 0 = .ok (.aload_n 0, 1) := by decide +kernel
theorem dK4_1 : decode cX4_init 1 = .ok (.invokespecial 1, 3) := by decide +kernel
theorem dK4_4 : decode cX4_init 4 = .ok (.return_, 1) := by decide +kernel
def zPI (k : Nat) : zP := [(k, 4, 0)]
set_option maxHeartbeats 4000000 in
theorem kc_4 {k : Nat} (hz : ∀ e ∈ zPI k, zBG e.1 = fun _ => 0) : zCon MK4 4 k [.int 0, .int 0] [] zBG (zPI k) { frames := 1, cells := 0, slots := 0, locals := 20 } 0 0 := by
  refine kStart zmoK4 rfl rfl (fun _ => Nat.le_of_ble_eq_true rfl) ?_
  intro l D ct kw ss h0 p e s m args below meth c A ls C0 hret hlocks hP hD hl
  have hx := C0.1
  have hb := C0.2.1
  have hS : va_S A s.heap s.heap [] := va_S.rf
  refine kObj C0 (lv_at hl 0 rfl) hl.1 (tm2 190 rfl rfl) (tm1 26 rfl rfl) (tm1 27 rfl rfl) (Nat.le_of_ble_eq_true rfl) (Nat.le_of_ble_eq_true rfl) dK4_0 dK4_1 ?_
  obtain ⟨ad, had, -⟩ := ex_ad k 1 [h0] (fun _ => 0)
  have e0 : ad k = h0 := had 0 (by decide)
  have hW : zw ad ct zBG (zPI k) = zw ad ct (fun _ _ => 0) (zPI k) := zw_zero hz
  have hP9 : va_P D vwCl (zw ad ct zBG (zPI k)) s.heap := by
    rw [hW]
    rw [← e0] at hP
    exact hP
  have hD9 : va_D A (zw ad ct zBG (zPI k)) := by
    rw [hW]
    rw [← e0] at hD
    exact hD
  exact kDone C0 hret hlocks ad e0 hP9 hD9 hS (Nat.le_of_ble_eq_true rfl) (Nat.le_of_ble_eq_true rfl) dK4_4
end ZK
