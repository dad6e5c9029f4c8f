/-! THE CONSTRUCTOR of an image (by program) -/
section ZY
abbrev MK5 : zMt := (yX5_init, cX5_init, 1, 0, RX5)
theorem zmoK5 : zMok MK5 := ⟨zpl_5.1, zpl_5.2.1, zpl_5.2.2, (tm2 161 rfl rfl), zin_5, Nat.le_of_ble_eq_true rfl, rfl⟩
theorem dK5_0 : decode cX5_init 0 = .ok (.aload_n 0, 1) := by decide +kernel
theorem dK5_1 : decode cX5_init 1 = .ok (.invokespecial 3, 3) := by decide +kernel
theorem dK5_4 : decode cX5_init 4 = .ok (.aload_n 0, 1) := by decide +kernel
theorem dK5_5 : decode cX5_init 5 = .ok (.new 9, 3) := by decide +kernel
theorem dK5_8 : decode cX5_init 8 = .ok (.dup, 1) := by decide +kernel
theorem dK5_9 : decode cX5_init 9 = .ok (.invokespecial 11, 3) := by decide +kernel
theorem dK5_12 : decode cX5_init 12 = .ok (.putfield 12, 3) := by decide +kernel
theorem dK5_15 : decode cX5_init 15 = .ok (.aload_n 0, 1) := by decide +kernel
theorem dK5_16 : decode cX5_init 16 = .ok (.new 18, 3) := by decide +kernel
theorem dK5_19 : decode cX5_init 19 = .ok (.dup, 1) := by decide +kernel
theorem dK5_20 : decode cX5_init 20 = .ok (.sipush (400), 3) := by decide +kernel
theorem dK5_23 : decode cX5_init 23 = .ok (.invokespecial 20, 3) := by decide +kernel
theorem dK5_26 : decode cX5_init 26 = .ok (.putfield 23, 3) := by decide +kernel
theorem dK5_29 : decode cX5_init 29 = .ok (.aload_n 0, 1) := by decide +kernel
theorem dK5_30 : decode cX5_init 30 = .ok (.new 27, 3) := by decide +kernel
theorem dK5_33 : decode cX5_init 33 = .ok (.dup, 1) := by decide +kernel
theorem dK5_34 : decode cX5_init 34 = .ok (.invokespecial 29, 3) := by decide +kernel
theorem dK5_37 : decode cX5_init 37 = .ok (.putfield 30, 3) := by decide +kernel
theorem dK5_40 : decode cX5_init 40 = .ok (.return_, 1) := by decide +kernel
theorem znpK1 : znp MK1.1 = some 0 := by decide +kernel
theorem znpK7 : znp MK7.1 = some 0 := by decide +kernel
theorem zknC : ∀ slot, slot < znf 1 → (zfi 1 slot).1 ≠ 3 ∧ ((zfi 1 slot).1 = 4 → (zfi 1 slot).2.1 = 32) := by decide +kernel
theorem zrngK1 {k : Nat} : zrng k (k + 64) (zPC k) := zrng_cons ⟨⟨Nat.le_refl _, by dsimp only; omega⟩, fun _ => ⟨by show k + 1 + 19 ≤ k + 64; omega, fun slot hs => ⟨(zknC slot hs).1, fun h4 => by rw [(zknC slot hs).2 h4]; dsimp only; omega⟩⟩, (by decide : (1 : Nat) ≠ 115), (by decide : (1 : Nat) ≠ 118)⟩ (zrng_app (zrng_wide zrngK6 (by omega) (by omega)) (zrng_cons (zrng_arr (by omega) (by omega) (by decide) (by decide) (by decide)) (zrng_cons (zrng_arr (by omega) (by omega) (by decide) (by decide) (by decide)) (zrng_cons (zrng_arr (by omega) (by omega) (by decide) (by decide) (by decide)) (zrng_cons (zrng_arr (by omega) (by omega) (by decide) (by decide) (by decide)) (zrng_cons (zrng_arr (by omega) (by omega) (by decide) (by decide) (by decide)) (zrng_cons (zrng_arr (by omega) (by omega) (by decide) (by decide) (by decide)) (zrng_cons (zrng_arr (by omega) (by omega) (by decide) (by decide) (by decide)) (zrng_cons (zrng_arr (by omega) (by omega) (by decide) (by decide) (by decide)) (zrng_cons (zrng_arr (by omega) (by omega) (by decide) (by decide) (by decide)) (zrng_cons (zrng_arr (by omega) (by omega) (by decide) (by decide) (by decide)) (zrng_cons (zrng_arr (by omega) (by omega) (by decide) (by decide) (by decide)) (zrng_cons (zrng_arr (by omega) (by omega) (by decide) (by decide) (by decide)) (zrng_nil))))))))))))))
theorem zkn7 : ∀ slot, slot < znf 7 → (zfi 7 slot).1 ≠ 3 ∧ (zfi 7 slot).1 ≠ 4 := by decide +kernel
theorem zrngK7 {k : Nat} : zrng k (k + 6) (zPS k) := zrng_cons ⟨⟨Nat.le_refl _, by dsimp only; omega⟩, fun _ => ⟨by show k + 1 + 5 ≤ k + 6; omega, fun slot hs => ⟨(zkn7 slot hs).1, fun h4 => absurd h4 (zkn7 slot hs).2⟩⟩, (by decide : (7 : Nat) ≠ 115), (by decide : (7 : Nat) ≠ 118)⟩ (zrng_cons (zrng_arr (by omega) (by omega) (by decide) (by decide) (by decide)) (zrng_cons (zrng_arr (by omega) (by omega) (by decide) (by decide) (by decide)) (zrng_cons (zrng_arr (by omega) (by omega) (by decide) (by decide) (by decide)) (zrng_nil))))
theorem zw_cons {ad : Nat → Nat} {ct : Nat → ClassId} {σ : zH} {x : Nat × Nat × Nat} {P : zP} : zw ad ct σ (x :: P) = zcell ad ct σ x :: zw ad ct σ P := rfl
theorem zw_app {ad : Nat → Nat} {ct : Nat → ClassId} {σ : zH} {P P' : zP} : zw ad ct σ (P ++ P') = zw ad ct σ P ++ zw ad ct σ P' := List.map_append
def zPM (k : Nat) : zP := (k, 5, 0) :: ((zPC (k + 64) ++ zPX (k + 128) 400) ++ zPS (k + 160))
set_option maxHeartbeats 8000000 in
theorem kc_5 {k : Nat} (hz : zBG k = fun _ => 0) (hzc : ∀ x ∈ zPC (k + 64), zBG x.1 = fun _ => 0) (hzs : ∀ x ∈ zPS (k + 160), zBG x.1 = fun _ => 0) (hk : k + 128 ∈ zids 8) (hh : zhl (k + 128) = 400) : zCon MK5 5 k [.null, .null, .null, .int 0] [] zBG (zPM k) { frames := 4, cells := 34, slots := 1016, locals := 240 } 34 1016 := by
  refine kStart zmoK5 rfl rfl (fun _ => Nat.le_of_ble_eq_true rfl) ?_
  intro l D ct kw ss h0 p e s m args below meth c A ls C0 hret hlocks hP hD hl
  have hx := C0.1
  have hb := C0.2.1
  have hS : va_S A s.heap s.heap [] := va_S.rf
  refine kObj C0 (lv_at hl 0 rfl) hl.1 (tm2 162 rfl rfl) (tm1 26 rfl rfl) (tm1 27 rfl rfl) (Nat.le_of_ble_eq_true rfl) (Nat.le_of_ble_eq_true rfl) dK5_0 dK5_1 ?_
  refine lv_aload_n hx hb dK5_4 rfl (lv_at hl 0 rfl) ?_
  refine kNew (ci := 1) (N := 19) (fs := [.null, .null, .null, .null, .null, .null, .null, .null, .null, .null, .null, .null, .null, .int 0, .int 0, .int 0, .int 0, .int 0, .int 0]) C0 hP hD hS tyX1 zcw1 tyX1_ok (tm2 163 rfl rfl) (tm1 84 rfl rfl) zin_1 rfl (by decide +kernel) (Nat.le_of_ble_eq_true rfl) (Nat.le_of_ble_eq_true rfl) dK5_5 dK5_8 (fun qc H hP hD hS => ?_)
  refine kCallN (ws := [(h0, .inr (5, [.null, .null, .null, .int 0]))]) (as := []) (n := 0) (rest := [.ref qc, .ref h0]) C0 (kc_1 (k := k + 64) hzc) hP hD hS zmoK1 rfl rfl rfl rfl (List.mem_of_getElem? (i := 2) rfl) (tm1 86 rfl rfl) znpK1 rfl hl.1 ⟨Nat.le_of_ble_eq_true rfl, Nat.le_of_ble_eq_true rfl⟩ (Nat.le_of_ble_eq_true rfl) ⟨Nat.le_of_ble_eq_true rfl, Nat.le_of_ble_eq_true rfl⟩ dK5_9 rfl (fun ad1 H locs had1 hP hD hS => ?_)
  refine kPut C0 hP hD hS 0 tyX5 zcw5 tyX5_ok nmX5 rfl (fs := [.null, .null, .null, .int 0]) rfl (k := 0) (by decide) (tm2 169 rfl rfl) rfl rfl rfl rfl (Nat.le_of_ble_eq_true rfl) dK5_12 (fun H locs hP hD hS => ?_)
  have hP : va_P D vwCl ((h0, .inr (5, [.ref qc, .null, .null, .int 0])) :: (zw ad1 ct zBG (zPC (k + 64)))) H := hP
  have hD : va_D A ((h0, .inr (5, [.ref qc, .null, .null, .int 0])) :: (zw ad1 ct zBG (zPC (k + 64)))) := hD
  refine lv_aload_n hx hb dK5_15 rfl (lv_at hl 0 rfl) ?_
  refine kNew (ci := 8) (N := 16) (fs := [.null, .null, .null, .null, .null, .null, .null, .null, .null, .null, .null, .null, .int 0, .int 0, .int 0, .int 0]) C0 hP hD hS tyX8 zcw8 tyX8_ok (tm2 165 rfl rfl) (tm2 1 rfl rfl) zin_8 rfl (by decide +kernel) (Nat.le_of_ble_eq_true rfl) (Nat.le_of_ble_eq_true rfl) dK5_16 dK5_19 (fun qs H hP hD hS => ?_)
  refine lv_sipush (v := 400) hx hb dK5_20 (by decide) ?_
  refine kCall (ws := (h0, .inr (5, [.ref qc, .null, .null, .int 0])) :: (zw ad1 ct zBG (zPC (k + 64)))) (as := [.int 400]) (n := 1) (rest := [.ref qs, .ref h0]) C0 (kc_8a (k := k + 128) hk hh) hP hD hS zmoK8 rfl rfl rfl rfl (tm2 166 rfl rfl) (tm2 3 rfl rfl) znpK8 rfl hl.1 ⟨Nat.le_of_ble_eq_true rfl, Nat.le_of_ble_eq_true rfl⟩ (Nat.le_of_ble_eq_true rfl) ⟨Nat.le_of_ble_eq_true rfl, Nat.le_of_ble_eq_true rfl⟩ dK5_23 rfl (fun ad2 H locs had2 hP hD hS => ?_)
  refine kPut C0 hP hD hS 0 tyX5 zcw5 tyX5_ok nmX5 rfl (fs := [.ref qc, .null, .null, .int 0]) rfl (k := 1) (by decide) (tm2 171 rfl rfl) rfl rfl rfl rfl (Nat.le_of_ble_eq_true rfl) dK5_26 (fun H locs hP hD hS => ?_)
  have hP : va_P D vwCl ((h0, .inr (5, [.ref qc, .ref qs, .null, .int 0])) :: ((zw ad1 ct zBG (zPC (k + 64)) ++ zw ad2 ct zBG (zPX (k + 128) 400)))) H := hP
  have hD : va_D A ((h0, .inr (5, [.ref qc, .ref qs, .null, .int 0])) :: ((zw ad1 ct zBG (zPC (k + 64)) ++ zw ad2 ct zBG (zPX (k + 128) 400)))) := hD
  refine lv_aload_n hx hb dK5_29 rfl (lv_at hl 0 rfl) ?_
  refine kNew (ci := 7) (N := 5) (fs := [.null, .null, .null, .int 0, .int 0]) C0 hP hD hS tyX7 zcw7 tyX7_ok (tm2 167 rfl rfl) (tm2 99 rfl rfl) zin_7 rfl (by decide +kernel) (Nat.le_of_ble_eq_true rfl) (Nat.le_of_ble_eq_true rfl) dK5_30 dK5_33 (fun qr H hP hD hS => ?_)
  refine kCallN (ws := (h0, .inr (5, [.ref qc, .ref qs, .null, .int 0])) :: ((zw ad1 ct zBG (zPC (k + 64)) ++ zw ad2 ct zBG (zPX (k + 128) 400)))) (as := []) (n := 0) (rest := [.ref qr, .ref h0]) C0 (kc_7 (k := k + 160) hzs) hP hD hS zmoK7 rfl rfl rfl rfl (List.mem_of_getElem? (i := 7) rfl) (tm2 101 rfl rfl) znpK7 rfl hl.1 ⟨Nat.le_of_ble_eq_true rfl, Nat.le_of_ble_eq_true rfl⟩ (Nat.le_of_ble_eq_true rfl) ⟨Nat.le_of_ble_eq_true rfl, Nat.le_of_ble_eq_true rfl⟩ dK5_34 rfl (fun ad3 H locs had3 hP hD hS => ?_)
  refine kPut C0 hP hD hS 0 tyX5 zcw5 tyX5_ok nmX5 rfl (fs := [.ref qc, .ref qs, .null, .int 0]) rfl (k := 2) (by decide) (tm2 173 rfl rfl) rfl rfl rfl rfl (Nat.le_of_ble_eq_true rfl) dK5_37 (fun H locs hP hD hS => ?_)
  have hP : va_P D vwCl ((h0, .inr (5, [.ref qc, .ref qs, .ref qr, .int 0])) :: (((zw ad1 ct zBG (zPC (k + 64)) ++ zw ad2 ct zBG (zPX (k + 128) 400)) ++ zw ad3 ct zBG (zPS (k + 160))))) H := hP
  have hD : va_D A ((h0, .inr (5, [.ref qc, .ref qs, .ref qr, .int 0])) :: (((zw ad1 ct zBG (zPC (k + 64)) ++ zw ad2 ct zBG (zPX (k + 128) 400)) ++ zw ad3 ct zBG (zPS (k + 160))))) := hD
  obtain ⟨ad, a0, a1, a2, a3⟩ : ∃ ad : Nat → Nat, ad k = h0 ∧ (∀ j, k + 64 ≤ j → j < k + 128 → ad j = ad1 j) ∧ (∀ j, k + 128 ≤ j → j < k + 160 → ad j = ad2 j) ∧ ∀ j, k + 160 ≤ j → ad j = ad3 j := ⟨fun j => if j < k + 64 then h0 else if j < k + 128 then ad1 j else if j < k + 160 then ad2 j else ad3 j, by dsimp only; rw [if_pos (by omega)], fun j h1 h2 => by dsimp only; rw [if_neg (by omega), if_pos h2], fun j h1 h2 => by dsimp only; rw [if_neg (by omega), if_neg (by omega), if_pos h2], fun j h1 => by dsimp only; rw [if_neg (by omega), if_neg (by omega), if_neg (by omega)]⟩
  have b1 : ad (k + 64) = qc := (a1 _ (Nat.le_refl _) (by omega)).trans had1
  have b2 : ad (k + 128) = qs := (a2 _ (Nat.le_refl _) (by omega)).trans had2
  have b3 : ad (k + 160) = qr := (a3 _ (Nat.le_refl _)).trans had3
  have w1 : zw ad ct zBG (zPC (k + 64)) = zw ad1 ct zBG (zPC (k + 64)) := zw_cong zrngK1 (fun j h1 h2 => a1 j h1 (by omega)) (fun _ _ => rfl)
  have w2 : zw ad ct zBG (zPX (k + 128) 400) = zw ad2 ct zBG (zPX (k + 128) 400) := zw_cong zrngK8 (fun j h1 h2 => a2 j h1 (by omega)) (fun _ _ => rfl)
  have w3 : zw ad ct zBG (zPS (k + 160)) = zw ad3 ct zBG (zPS (k + 160)) := zw_cong zrngK7 (fun j h1 h2 => a3 j h1) (fun _ _ => rfl)
  have w0 : zcell ad ct zBG (k, 5, 0) = (h0, .inr (5, [.ref qc, .ref qs, .ref qr, .int 0])) := by
    rw [zcell_congr (τ := fun _ _ => 0) (fun i => by rw [hz]), ← a0, ← b1, ← b2, ← b3]
    rfl
  have hW : zw ad ct zBG (zPM k) = (h0, .inr (5, [.ref qc, .ref qs, .ref qr, .int 0])) :: (((zw ad1 ct zBG (zPC (k + 64)) ++ zw ad2 ct zBG (zPX (k + 128) 400)) ++ zw ad3 ct zBG (zPS (k + 160)))) := by
    rw [zPM, zw_cons, zw_app, zw_app, w0, w1, w2, w3]
  rw [← hW] at hP hD
  exact kDone C0 hret hlocks ad a0 hP hD hS (Nat.le_of_ble_eq_true rfl) (Nat.le_of_ble_eq_true rfl) dK5_40
end ZY
