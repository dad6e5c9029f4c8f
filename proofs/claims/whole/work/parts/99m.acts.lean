/-! THE CONSTRUCTOR of the acts (by program) -/
section ZA0
theorem vp_refs {cA : ClassId} {n : Nat} {f g : Nat → Option Nat} (h : ∀ i, i < n → f i = g i) : vp_cell cA (n, .inr (.inr (.inr (.inr f)))) = vp_cell cA (n, .inr (.inr (.inr (.inr g)))) := by
  rw [vp_cell_q, vp_cell_q]
  unfold arrV
  congr 1
  apply Array.ext
  · simp
  · intro i h1 h2
    simp only [Array.size_ofFn] at h1
    simp [h i h1]
theorem va_P_refs {D : va_G} {x : Nat × va_E} {a : Nat} {cA : ClassId} {n : Nat} {f g : Nat → Option Nat} {W : va_W} {H : Heap} (hP : va_P D vwCl (x :: (a, .inl (cA, n, .inr (.inr (.inr (.inr f))))) :: W) H) (h : ∀ i, i < n → f i = g i) : va_P D vwCl (x :: (a, .inl (cA, n, .inr (.inr (.inr (.inr g))))) :: W) H := by
  intro k q hq
  match k, hq with
  | 0, hq => exact hP 0 q hq
  | 1, hq =>
    cases hq
    have h1 : H[a]? = some (vp_cell cA (n, .inr (.inr (.inr (.inr f))))) := hP 1 _ rfl
    show H[a]? = some (vp_cell cA (n, .inr (.inr (.inr (.inr g)))))
    rw [h1, vp_refs h]
  | k + 2, hq => exact hP (k + 2) q hq
theorem va_D_same {A : Nat → Prop} {W W' : va_W} (hD : va_D A W) (h : W'.map (fun x => x.1) = W.map (fun x => x.1)) : va_D A W' := by
  have e : ∀ (i : Nat) (x : Nat × va_E), W'[i]? = some x → ∃ y : Nat × va_E, W[i]? = some y ∧ y.1 = x.1 := by
    intro i x hx
    have h1 : (W'.map (fun x => x.1))[i]? = some x.1 := by rw [List.getElem?_map, hx]; rfl
    rw [h, List.getElem?_map] at h1
    obtain ⟨y, hy, hy2⟩ := Option.map_eq_some_iff.mp h1
    exact ⟨y, hy, hy2⟩
  constructor
  · intro i j x y hx hy hxy
    obtain ⟨x', hx', ex⟩ := e i x hx
    obtain ⟨y', hy', ey⟩ := e j y hy
    exact hD.1 i j x' y' hx' hy' (by rw [ex, ey, hxy])
  · intro i x hx
    obtain ⟨x', hx', ex⟩ := e i x hx
    rw [← ex]
    exact hD.2 i x' hx'
abbrev MK0 : zMt := (yX0_init, cX0_init, 2, 0, RX0)
theorem zmoK0 : zMok MK0 := ⟨zpl_0.1, zpl_0.2.1, zpl_0.2.2, (tm2 85 rfl rfl), zin_0, Nat.le_of_ble_eq_true rfl, rfl⟩
theorem dK0_0 : decode cX0_init 0 = .ok (.aload_n 0, 1) := by decide +kernel
theorem dK0_1 : decode cX0_init 1 = .ok (.invokespecial 3, 3) := by decide +kernel
theorem dK0_4 : decode cX0_init 4 = .ok (.aload_n 0, 1) := by decide +kernel
theorem dK0_5 : decode cX0_init 5 = .ok (.iconst 4, 1) := by decide +kernel
theorem dK0_6 : decode cX0_init 6 = .ok (.anewarray 9, 3) := by decide +kernel
theorem dK0_9 : decode cX0_init 9 = .ok (.putfield 11, 3) := by decide +kernel
theorem dK0_12 : decode cX0_init 12 = .ok (.iconst 0, 1) := by decide +kernel
theorem dK0_13 : decode cX0_init 13 = .ok (.istore_n 1, 1) := by decide +kernel
theorem dK0_14 : decode cX0_init 14 = .ok (.iload_n 1, 1) := by decide +kernel
theorem dK0_15 : decode cX0_init 15 = .ok (.iconst 4, 1) := by decide +kernel
theorem dK0_16 : decode cX0_init 16 = .ok (.if_icmp .ge (23), 3) := by decide +kernel
theorem dK0_19 : decode cX0_init 19 = .ok (.aload_n 0, 1) := by decide +kernel
theorem dK0_20 : decode cX0_init 20 = .ok (.getfield 11, 3) := by decide +kernel
theorem dK0_23 : decode cX0_init 23 = .ok (.iload_n 1, 1) := by decide +kernel
theorem dK0_24 : decode cX0_init 24 = .ok (.new 9, 3) := by decide +kernel
theorem dK0_27 : decode cX0_init 27 = .ok (.dup, 1) := by decide +kernel
theorem dK0_28 : decode cX0_init 28 = .ok (.iconst 0, 1) := by decide +kernel
theorem dK0_29 : decode cX0_init 29 = .ok (.invokespecial 17, 3) := by decide +kernel
theorem dK0_32 : decode cX0_init 32 = .ok (.aastore, 1) := by decide +kernel
theorem dK0_33 : decode cX0_init 33 = .ok (.iinc 1 (1), 3) := by decide +kernel
theorem dK0_36 : decode cX0_init 36 = .ok (.goto (-22), 3) := by decide +kernel
theorem dK0_39 : decode cX0_init 39 = .ok (.return_, 1) := by decide +kernel
def zPA : zP := (160, 0, 0) :: (161, 118, 4) :: (((zPX 192 0 ++ zPX 224 0) ++ zPX 256 0) ++ zPX 288 0)
set_option maxHeartbeats 8000000 in
theorem kc_0 : zCon MK0 0 160 [.null, .int 0] [] zBG zPA { frames := 4, cells := 53, slots := 604, locals := 190 } 53 604 := by
  refine kStart zmoK0 rfl rfl (fun _ => Nat.le_of_ble_eq_true rfl) ?_
  intro l D ct kw ss h0 p e s m args below meth c A ls C0 hret hlocks hP hD hl
  have hx := C0.1
  have hb := C0.2.1
  have hS : va_S A s.heap s.heap [] := va_S.rf
  refine kObj C0 (lv_at hl 0 rfl) hl.1 (tm2 86 rfl rfl) (tm1 26 rfl rfl) (tm1 27 rfl rfl) (Nat.le_of_ble_eq_true rfl) (Nat.le_of_ble_eq_true rfl) dK0_0 dK0_1 ?_
  have hl : lv_has ls 2 [(0, .ref h0)] := hl
  have hK := C0.2.2.2.2.2.1
  have hts := C0.2.2.2.2.1
  refine lv_aload_n hx hb dK0_4 rfl (lv_at hl 0 rfl) ?_
  refine lv_iconst (v := 4) hx hb dK0_5 (by decide) ?_
  refine va_newq (C := RX8) (N' := 4) hx hb C0.2.2.2.1 (hts _ (tm2 87 rfl rfl)) C0.2.2.2.2.2.2.2.1.2.2.1 hK hP hD hS C0.2.2.2.2.2.2.2.2 (by decide +kernel) (by decide +kernel) (Nat.le_of_ble_eq_true rfl) (Nat.le_of_ble_eq_true rfl) (Nat.le_of_ble_eq_true rfl) dK0_6 (fun qa cA H hK1 hP hD hS => ?_)
  have e1 : cA = ct 118 := va_RA_inj (hK1.2 (ztys ct).length (cA, .object RX8) (by simp)).2 (hK.2 5 _ rfl).2
  subst e1
  refine kPut C0 hP hD hS 0 tyX0 zcw0 tyX0_ok nmX0 rfl (fs := [.null, .int 0]) rfl (k := 0) (by decide) (tm2 90 rfl rfl) rfl rfl rfl rfl (Nat.le_of_ble_eq_true rfl) dK0_9 (fun H locs hP hD hS => ?_)
  have hP : va_P D vwCl ((h0, .inr (0, [.ref qa, .int 0])) :: (qa, .inl (ct 118, 4, .inr (.inr (.inr (.inr (fun _ => none)))))) :: []) H := hP
  have hD : va_D A ((h0, .inr (0, [.ref qa, .int 0])) :: (qa, .inl (ct 118, 4, .inr (.inr (.inr (.inr (fun _ => none)))))) :: []) := hD
  refine lv_iconst (v := 0) hx hb dK0_12 (by decide) ?_
  refine lv_istore_n (lv' := [(1, .int 0), (0, .ref h0)]) hx hb dK0_13 rfl hl (by decide) rfl (fun ls hl => ?_)
  refine lv_iload_n hx hb dK0_14 rfl (lv_at hl 0 rfl) ?_
  refine lv_iconst (v := 4) hx hb dK0_15 (by decide) ?_
  refine lv_icmp_ge (tgt := 39) hx hb dK0_16 (by decide) (fun hc => absurd hc (by decide +kernel)) (fun _ => ?_)
  refine lv_aload_n hx hb dK0_19 rfl (lv_at hl 1 rfl) ?_
  refine va_get (D := D) (ci := 0) (v := .ref qa) (C := RX0) (T := TX0) (N := 2) hx hb hts zcw0 C0.2.2.2.1 hK hP 0 rfl rfl 0 (by decide) (hts _ (tm2 90 rfl rfl)) (fun _ h9 => h9) rfl dK0_20 ?_
  refine lv_iload_n hx hb dK0_23 rfl (lv_at hl 0 rfl) ?_
  refine kNew (ci := 8) (N := 16) (fs := [.null, .null, .null, .null, .null, .null, .null, .null, .null, .null, .null, .null, .int 0, .int 0, .int 0, .int 0]) C0 hP hD hS tyX8 zcw8 tyX8_ok (tm2 87 rfl rfl) (tm2 1 rfl rfl) zin_8 rfl (by decide +kernel) (Nat.le_of_ble_eq_true rfl) (Nat.le_of_ble_eq_true rfl) dK0_24 dK0_27 (fun q0 H hP hD hS => ?_)
  refine lv_iconst (v := 0) hx hb dK0_28 (by decide) ?_
  refine kCall (ws := (h0, .inr (0, [.ref qa, .int 0])) :: (qa, .inl (ct 118, 4, .inr (.inr (.inr (.inr (fun _ => none)))))) :: []) (as := [.int 0]) (n := 1) (rest := [.ref q0, .int 0, .ref qa]) C0 (kc_8b (k := 192) (by decide) rfl) hP hD hS zmoK8 rfl rfl rfl rfl (tm2 89 rfl rfl) (tm2 3 rfl rfl) znpK8 rfl hl.1 ⟨Nat.le_of_ble_eq_true rfl, Nat.le_of_ble_eq_true rfl⟩ (Nat.le_of_ble_eq_true rfl) ⟨Nat.le_of_ble_eq_true rfl, Nat.le_of_ble_eq_true rfl⟩ dK0_29 rfl (fun ad0 H locs had0 hP hD hS => ?_)
  have hP : va_P D vwCl ((h0, .inr (0, [.ref qa, .int 0])) :: (qa, .inl (ct 118, 4, .inr (.inr (.inr (.inr (fun _ => none)))))) :: zw ad0 ct zBG (zPX 192 0)) H := hP
  have hD : va_D A ((h0, .inr (0, [.ref qa, .int 0])) :: (qa, .inl (ct 118, 4, .inr (.inr (.inr (.inr (fun _ => none)))))) :: zw ad0 ct zBG (zPX 192 0)) := hD
  refine va_astq (r := (RX8, TX8, 16)) (i := 0) hx hb hK hP hD hS 1 5 2 8 rfl rfl (by rw [← had0]; rfl) rfl (by unfold vp_in; decide +kernel) dK0_32 (fun H locs hP hD hS => ?_)
  have hP : va_P D vwCl ((h0, .inr (0, [.ref qa, .int 0])) :: (qa, .inl (ct 118, 4, .inr (.inr (.inr (.inr (va_up (fun _ => none) (Int32.toNatClampNeg 0) (some q0))))))) :: zw ad0 ct zBG (zPX 192 0)) H := hP
  have hD : va_D A ((h0, .inr (0, [.ref qa, .int 0])) :: (qa, .inl (ct 118, 4, .inr (.inr (.inr (.inr (va_up (fun _ => none) (Int32.toNatClampNeg 0) (some q0))))))) :: zw ad0 ct zBG (zPX 192 0)) := hD
  refine lv_iinc (v := 1) (lv' := [(1, .int 1), (0, .ref h0)]) hx hb dK0_33 hl (k := 0) rfl (by decide +kernel) (by decide) rfl (fun ls hl => ?_)
  refine lv_goto (tgt := 14) hx hb dK0_36 (by decide) ?_
  refine lv_iload_n hx hb dK0_14 rfl (lv_at hl 0 rfl) ?_
  refine lv_iconst (v := 4) hx hb dK0_15 (by decide) ?_
  refine lv_icmp_ge (tgt := 39) hx hb dK0_16 (by decide) (fun hc => absurd hc (by decide +kernel)) (fun _ => ?_)
  refine lv_aload_n hx hb dK0_19 rfl (lv_at hl 1 rfl) ?_
  refine va_get (D := D) (ci := 0) (v := .ref qa) (C := RX0) (T := TX0) (N := 2) hx hb hts zcw0 C0.2.2.2.1 hK hP 0 rfl rfl 0 (by decide) (hts _ (tm2 90 rfl rfl)) (fun _ h9 => h9) rfl dK0_20 ?_
  refine lv_iload_n hx hb dK0_23 rfl (lv_at hl 0 rfl) ?_
  refine kNew (ci := 8) (N := 16) (fs := [.null, .null, .null, .null, .null, .null, .null, .null, .null, .null, .null, .null, .int 0, .int 0, .int 0, .int 0]) C0 hP hD hS tyX8 zcw8 tyX8_ok (tm2 87 rfl rfl) (tm2 1 rfl rfl) zin_8 rfl (by decide +kernel) (Nat.le_of_ble_eq_true rfl) (Nat.le_of_ble_eq_true rfl) dK0_24 dK0_27 (fun q1 H hP hD hS => ?_)
  refine lv_iconst (v := 0) hx hb dK0_28 (by decide) ?_
  refine kCall (ws := (h0, .inr (0, [.ref qa, .int 0])) :: (qa, .inl (ct 118, 4, .inr (.inr (.inr (.inr (va_up (fun _ => none) (Int32.toNatClampNeg 0) (some q0))))))) :: zw ad0 ct zBG (zPX 192 0)) (as := [.int 0]) (n := 1) (rest := [.ref q1, .int 1, .ref qa]) C0 (kc_8b (k := 224) (by decide) rfl) hP hD hS zmoK8 rfl rfl rfl rfl (tm2 89 rfl rfl) (tm2 3 rfl rfl) znpK8 rfl hl.1 ⟨Nat.le_of_ble_eq_true rfl, Nat.le_of_ble_eq_true rfl⟩ (Nat.le_of_ble_eq_true rfl) ⟨Nat.le_of_ble_eq_true rfl, Nat.le_of_ble_eq_true rfl⟩ dK0_29 rfl (fun ad1 H locs had1 hP hD hS => ?_)
  have hP : va_P D vwCl ((h0, .inr (0, [.ref qa, .int 0])) :: (qa, .inl (ct 118, 4, .inr (.inr (.inr (.inr (va_up (fun _ => none) (Int32.toNatClampNeg 0) (some q0))))))) :: (zw ad0 ct zBG (zPX 192 0) ++ zw ad1 ct zBG (zPX 224 0))) H := hP
  have hD : va_D A ((h0, .inr (0, [.ref qa, .int 0])) :: (qa, .inl (ct 118, 4, .inr (.inr (.inr (.inr (va_up (fun _ => none) (Int32.toNatClampNeg 0) (some q0))))))) :: (zw ad0 ct zBG (zPX 192 0) ++ zw ad1 ct zBG (zPX 224 0))) := hD
  refine va_astq (r := (RX8, TX8, 16)) (i := 1) hx hb hK hP hD hS 1 5 15 8 rfl rfl (by rw [← had1]; rfl) rfl (by unfold vp_in; decide +kernel) dK0_32 (fun H locs hP hD hS => ?_)
  have hP : va_P D vwCl ((h0, .inr (0, [.ref qa, .int 0])) :: (qa, .inl (ct 118, 4, .inr (.inr (.inr (.inr (va_up (va_up (fun _ => none) (Int32.toNatClampNeg 0) (some q0)) (Int32.toNatClampNeg 1) (some q1))))))) :: (zw ad0 ct zBG (zPX 192 0) ++ zw ad1 ct zBG (zPX 224 0))) H := hP
  have hD : va_D A ((h0, .inr (0, [.ref qa, .int 0])) :: (qa, .inl (ct 118, 4, .inr (.inr (.inr (.inr (va_up (va_up (fun _ => none) (Int32.toNatClampNeg 0) (some q0)) (Int32.toNatClampNeg 1) (some q1))))))) :: (zw ad0 ct zBG (zPX 192 0) ++ zw ad1 ct zBG (zPX 224 0))) := hD
  refine lv_iinc (v := 2) (lv' := [(1, .int 2), (0, .ref h0)]) hx hb dK0_33 hl (k := 0) rfl (by decide +kernel) (by decide) rfl (fun ls hl => ?_)
  refine lv_goto (tgt := 14) hx hb dK0_36 (by decide) ?_
  refine lv_iload_n hx hb dK0_14 rfl (lv_at hl 0 rfl) ?_
  refine lv_iconst (v := 4) hx hb dK0_15 (by decide) ?_
  refine lv_icmp_ge (tgt := 39) hx hb dK0_16 (by decide) (fun hc => absurd hc (by decide +kernel)) (fun _ => ?_)
  refine lv_aload_n hx hb dK0_19 rfl (lv_at hl 1 rfl) ?_
  refine va_get (D := D) (ci := 0) (v := .ref qa) (C := RX0) (T := TX0) (N := 2) hx hb hts zcw0 C0.2.2.2.1 hK hP 0 rfl rfl 0 (by decide) (hts _ (tm2 90 rfl rfl)) (fun _ h9 => h9) rfl dK0_20 ?_
  refine lv_iload_n hx hb dK0_23 rfl (lv_at hl 0 rfl) ?_
  refine kNew (ci := 8) (N := 16) (fs := [.null, .null, .null, .null, .null, .null, .null, .null, .null, .null, .null, .null, .int 0, .int 0, .int 0, .int 0]) C0 hP hD hS tyX8 zcw8 tyX8_ok (tm2 87 rfl rfl) (tm2 1 rfl rfl) zin_8 rfl (by decide +kernel) (Nat.le_of_ble_eq_true rfl) (Nat.le_of_ble_eq_true rfl) dK0_24 dK0_27 (fun q2 H hP hD hS => ?_)
  refine lv_iconst (v := 0) hx hb dK0_28 (by decide) ?_
  refine kCall (ws := (h0, .inr (0, [.ref qa, .int 0])) :: (qa, .inl (ct 118, 4, .inr (.inr (.inr (.inr (va_up (va_up (fun _ => none) (Int32.toNatClampNeg 0) (some q0)) (Int32.toNatClampNeg 1) (some q1))))))) :: (zw ad0 ct zBG (zPX 192 0) ++ zw ad1 ct zBG (zPX 224 0))) (as := [.int 0]) (n := 1) (rest := [.ref q2, .int 2, .ref qa]) C0 (kc_8b (k := 256) (by decide) rfl) hP hD hS zmoK8 rfl rfl rfl rfl (tm2 89 rfl rfl) (tm2 3 rfl rfl) znpK8 rfl hl.1 ⟨Nat.le_of_ble_eq_true rfl, Nat.le_of_ble_eq_true rfl⟩ (Nat.le_of_ble_eq_true rfl) ⟨Nat.le_of_ble_eq_true rfl, Nat.le_of_ble_eq_true rfl⟩ dK0_29 rfl (fun ad2 H locs had2 hP hD hS => ?_)
  have hP : va_P D vwCl ((h0, .inr (0, [.ref qa, .int 0])) :: (qa, .inl (ct 118, 4, .inr (.inr (.inr (.inr (va_up (va_up (fun _ => none) (Int32.toNatClampNeg 0) (some q0)) (Int32.toNatClampNeg 1) (some q1))))))) :: ((zw ad0 ct zBG (zPX 192 0) ++ zw ad1 ct zBG (zPX 224 0)) ++ zw ad2 ct zBG (zPX 256 0))) H := hP
  have hD : va_D A ((h0, .inr (0, [.ref qa, .int 0])) :: (qa, .inl (ct 118, 4, .inr (.inr (.inr (.inr (va_up (va_up (fun _ => none) (Int32.toNatClampNeg 0) (some q0)) (Int32.toNatClampNeg 1) (some q1))))))) :: ((zw ad0 ct zBG (zPX 192 0) ++ zw ad1 ct zBG (zPX 224 0)) ++ zw ad2 ct zBG (zPX 256 0))) := hD
  refine va_astq (r := (RX8, TX8, 16)) (i := 2) hx hb hK hP hD hS 1 5 28 8 rfl rfl (by rw [← had2]; rfl) rfl (by unfold vp_in; decide +kernel) dK0_32 (fun H locs hP hD hS => ?_)
  have hP : va_P D vwCl ((h0, .inr (0, [.ref qa, .int 0])) :: (qa, .inl (ct 118, 4, .inr (.inr (.inr (.inr (va_up (va_up (va_up (fun _ => none) (Int32.toNatClampNeg 0) (some q0)) (Int32.toNatClampNeg 1) (some q1)) (Int32.toNatClampNeg 2) (some q2))))))) :: ((zw ad0 ct zBG (zPX 192 0) ++ zw ad1 ct zBG (zPX 224 0)) ++ zw ad2 ct zBG (zPX 256 0))) H := hP
  have hD : va_D A ((h0, .inr (0, [.ref qa, .int 0])) :: (qa, .inl (ct 118, 4, .inr (.inr (.inr (.inr (va_up (va_up (va_up (fun _ => none) (Int32.toNatClampNeg 0) (some q0)) (Int32.toNatClampNeg 1) (some q1)) (Int32.toNatClampNeg 2) (some q2))))))) :: ((zw ad0 ct zBG (zPX 192 0) ++ zw ad1 ct zBG (zPX 224 0)) ++ zw ad2 ct zBG (zPX 256 0))) := hD
  refine lv_iinc (v := 3) (lv' := [(1, .int 3), (0, .ref h0)]) hx hb dK0_33 hl (k := 0) rfl (by decide +kernel) (by decide) rfl (fun ls hl => ?_)
  refine lv_goto (tgt := 14) hx hb dK0_36 (by decide) ?_
  refine lv_iload_n hx hb dK0_14 rfl (lv_at hl 0 rfl) ?_
  refine lv_iconst (v := 4) hx hb dK0_15 (by decide) ?_
  refine lv_icmp_ge (tgt := 39) hx hb dK0_16 (by decide) (fun hc => absurd hc (by decide +kernel)) (fun _ => ?_)
  refine lv_aload_n hx hb dK0_19 rfl (lv_at hl 1 rfl) ?_
  refine va_get (D := D) (ci := 0) (v := .ref qa) (C := RX0) (T := TX0) (N := 2) hx hb hts zcw0 C0.2.2.2.1 hK hP 0 rfl rfl 0 (by decide) (hts _ (tm2 90 rfl rfl)) (fun _ h9 => h9) rfl dK0_20 ?_
  refine lv_iload_n hx hb dK0_23 rfl (lv_at hl 0 rfl) ?_
  refine kNew (ci := 8) (N := 16) (fs := [.null, .null, .null, .null, .null, .null, .null, .null, .null, .null, .null, .null, .int 0, .int 0, .int 0, .int 0]) C0 hP hD hS tyX8 zcw8 tyX8_ok (tm2 87 rfl rfl) (tm2 1 rfl rfl) zin_8 rfl (by decide +kernel) (Nat.le_of_ble_eq_true rfl) (Nat.le_of_ble_eq_true rfl) dK0_24 dK0_27 (fun q3 H hP hD hS => ?_)
  refine lv_iconst (v := 0) hx hb dK0_28 (by decide) ?_
  refine kCall (ws := (h0, .inr (0, [.ref qa, .int 0])) :: (qa, .inl (ct 118, 4, .inr (.inr (.inr (.inr (va_up (va_up (va_up (fun _ => none) (Int32.toNatClampNeg 0) (some q0)) (Int32.toNatClampNeg 1) (some q1)) (Int32.toNatClampNeg 2) (some q2))))))) :: ((zw ad0 ct zBG (zPX 192 0) ++ zw ad1 ct zBG (zPX 224 0)) ++ zw ad2 ct zBG (zPX 256 0))) (as := [.int 0]) (n := 1) (rest := [.ref q3, .int 3, .ref qa]) C0 (kc_8b (k := 288) (by decide) rfl) hP hD hS zmoK8 rfl rfl rfl rfl (tm2 89 rfl rfl) (tm2 3 rfl rfl) znpK8 rfl hl.1 ⟨Nat.le_of_ble_eq_true rfl, Nat.le_of_ble_eq_true rfl⟩ (Nat.le_of_ble_eq_true rfl) ⟨Nat.le_of_ble_eq_true rfl, Nat.le_of_ble_eq_true rfl⟩ dK0_29 rfl (fun ad3 H locs had3 hP hD hS => ?_)
  have hP : va_P D vwCl ((h0, .inr (0, [.ref qa, .int 0])) :: (qa, .inl (ct 118, 4, .inr (.inr (.inr (.inr (va_up (va_up (va_up (fun _ => none) (Int32.toNatClampNeg 0) (some q0)) (Int32.toNatClampNeg 1) (some q1)) (Int32.toNatClampNeg 2) (some q2))))))) :: (((zw ad0 ct zBG (zPX 192 0) ++ zw ad1 ct zBG (zPX 224 0)) ++ zw ad2 ct zBG (zPX 256 0)) ++ zw ad3 ct zBG (zPX 288 0))) H := hP
  have hD : va_D A ((h0, .inr (0, [.ref qa, .int 0])) :: (qa, .inl (ct 118, 4, .inr (.inr (.inr (.inr (va_up (va_up (va_up (fun _ => none) (Int32.toNatClampNeg 0) (some q0)) (Int32.toNatClampNeg 1) (some q1)) (Int32.toNatClampNeg 2) (some q2))))))) :: (((zw ad0 ct zBG (zPX 192 0) ++ zw ad1 ct zBG (zPX 224 0)) ++ zw ad2 ct zBG (zPX 256 0)) ++ zw ad3 ct zBG (zPX 288 0))) := hD
  refine va_astq (r := (RX8, TX8, 16)) (i := 3) hx hb hK hP hD hS 1 5 41 8 rfl rfl (by rw [← had3]; rfl) rfl (by unfold vp_in; decide +kernel) dK0_32 (fun H locs hP hD hS => ?_)
  have hP : va_P D vwCl ((h0, .inr (0, [.ref qa, .int 0])) :: (qa, .inl (ct 118, 4, .inr (.inr (.inr (.inr (va_up (va_up (va_up (va_up (fun _ => none) (Int32.toNatClampNeg 0) (some q0)) (Int32.toNatClampNeg 1) (some q1)) (Int32.toNatClampNeg 2) (some q2)) (Int32.toNatClampNeg 3) (some q3))))))) :: (((zw ad0 ct zBG (zPX 192 0) ++ zw ad1 ct zBG (zPX 224 0)) ++ zw ad2 ct zBG (zPX 256 0)) ++ zw ad3 ct zBG (zPX 288 0))) H := hP
  have hD : va_D A ((h0, .inr (0, [.ref qa, .int 0])) :: (qa, .inl (ct 118, 4, .inr (.inr (.inr (.inr (va_up (va_up (va_up (va_up (fun _ => none) (Int32.toNatClampNeg 0) (some q0)) (Int32.toNatClampNeg 1) (some q1)) (Int32.toNatClampNeg 2) (some q2)) (Int32.toNatClampNeg 3) (some q3))))))) :: (((zw ad0 ct zBG (zPX 192 0) ++ zw ad1 ct zBG (zPX 224 0)) ++ zw ad2 ct zBG (zPX 256 0)) ++ zw ad3 ct zBG (zPX 288 0))) := hD
  refine lv_iinc (v := 4) (lv' := [(1, .int 4), (0, .ref h0)]) hx hb dK0_33 hl (k := 0) rfl (by decide +kernel) (by decide) rfl (fun ls hl => ?_)
  refine lv_goto (tgt := 14) hx hb dK0_36 (by decide) ?_
  refine lv_iload_n hx hb dK0_14 rfl (lv_at hl 0 rfl) ?_
  refine lv_iconst (v := 4) hx hb dK0_15 (by decide) ?_
  refine lv_icmp_ge (tgt := 39) hx hb dK0_16 (by decide) (fun _ => ?_) (fun hc => absurd (by decide +kernel) hc)
  obtain ⟨ad, a0, a1, b0, b1, b2, b3⟩ : ∃ ad : Nat → Nat, ad 160 = h0 ∧ ad 161 = qa ∧ (∀ j, 192 ≤ j → j < 192 + 17 → ad j = ad0 j) ∧ (∀ j, 224 ≤ j → j < 224 + 17 → ad j = ad1 j) ∧ (∀ j, 256 ≤ j → j < 256 + 17 → ad j = ad2 j) ∧ ∀ j, 288 ≤ j → j < 288 + 17 → ad j = ad3 j := ⟨fun j => if j = 160 then h0 else if j = 161 then qa else if j < 224 then ad0 j else if j < 256 then ad1 j else if j < 288 then ad2 j else ad3 j, rfl, rfl, fun j h1 h2 => by dsimp only; rw [if_neg (by omega), if_neg (by omega), if_pos (by omega)], fun j h1 h2 => by dsimp only; rw [if_neg (by omega), if_neg (by omega), if_neg (by omega), if_pos (by omega)], fun j h1 h2 => by dsimp only; rw [if_neg (by omega), if_neg (by omega), if_neg (by omega), if_neg (by omega), if_pos (by omega)], fun j h1 h2 => by dsimp only; rw [if_neg (by omega), if_neg (by omega), if_neg (by omega), if_neg (by omega), if_neg (by omega)]⟩
  have w0 : zw ad ct zBG (zPX 192 0) = zw ad0 ct zBG (zPX 192 0) := zw_cong zrngK8 b0 (fun _ _ => rfl)
  have w1 : zw ad ct zBG (zPX 224 0) = zw ad1 ct zBG (zPX 224 0) := zw_cong zrngK8 b1 (fun _ _ => rfl)
  have w2 : zw ad ct zBG (zPX 256 0) = zw ad2 ct zBG (zPX 256 0) := zw_cong zrngK8 b2 (fun _ _ => rfl)
  have w3 : zw ad ct zBG (zPX 288 0) = zw ad3 ct zBG (zPX 288 0) := zw_cong zrngK8 b3 (fun _ _ => rfl)
  have hfg : ∀ i, i < 4 → (va_up (va_up (va_up (va_up (fun _ => none) (Int32.toNatClampNeg 0) (some q0)) (Int32.toNatClampNeg 1) (some q1)) (Int32.toNatClampNeg 2) (some q2)) (Int32.toNatClampNeg 3) (some q3)) i = (fun i => some (ad (zBG 161 i).toNat)) i := by
    intro i hi
    have hi4 : i = 0 ∨ i = 1 ∨ i = 2 ∨ i = 3 := by omega
    rcases hi4 with rfl | rfl | rfl | rfl
    · show some q0 = some (ad 192)
      rw [b0 _ (Nat.le_refl _) (by decide), had0]
    · show some q1 = some (ad 224)
      rw [b1 _ (Nat.le_refl _) (by decide), had1]
    · show some q2 = some (ad 256)
      rw [b2 _ (Nat.le_refl _) (by decide), had2]
    · show some q3 = some (ad 288)
      rw [b3 _ (Nat.le_refl _) (by decide), had3]
  have hP := va_P_refs hP hfg
  have hD : va_D A ((h0, .inr (0, [.ref qa, .int 0])) :: (qa, .inl (ct 118, 4, .inr (.inr (.inr (.inr (fun i => some (ad (zBG 161 i).toNat))))))) :: (((zw ad0 ct zBG (zPX 192 0) ++ zw ad1 ct zBG (zPX 224 0)) ++ zw ad2 ct zBG (zPX 256 0)) ++ zw ad3 ct zBG (zPX 288 0))) := va_D_same hD rfl
  have hW : zw ad ct zBG zPA = (h0, .inr (0, [.ref qa, .int 0])) :: (qa, .inl (ct 118, 4, .inr (.inr (.inr (.inr (fun i => some (ad (zBG 161 i).toNat))))))) :: (((zw ad0 ct zBG (zPX 192 0) ++ zw ad1 ct zBG (zPX 224 0)) ++ zw ad2 ct zBG (zPX 256 0)) ++ zw ad3 ct zBG (zPX 288 0)) := by
    have c0 : zcell ad ct zBG (160, 0, 0) = (h0, .inr (0, [.ref qa, .int 0])) := by
      rw [zcell_congr (τ := fun _ _ => 0) (fun i => by rw [zI_zero (by decide) (Or.inl (by decide))]), ← a0, ← a1]
      rfl
    have c1 : zcell ad ct zBG (161, 118, 4) = (qa, .inl (ct 118, 4, .inr (.inr (.inr (.inr (fun i => some (ad (zBG 161 i).toNat))))))) := by
      rw [← a1]
      rfl
    rw [zPA, zw_cons, zw_cons, zw_app, zw_app, zw_app, c0, c1, w0, w1, w2, w3]
  rw [← hW] at hP hD
  exact kDone C0 hret hlocks ad a0 hP hD hS (Nat.le_of_ble_eq_true rfl) (Nat.le_of_ble_eq_true rfl) dK0_39
end ZA0
