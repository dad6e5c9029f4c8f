/-! THE CONSTRUCTOR of the class (by program) -/
section ZRV
def zPR : zP := (0, 10, 0) :: (7, 115, 2) :: (((((((((((((((zPU 64 ++ zPC 384) ++ zPC 448) ++ [(32, 2, 0)]) ++ zPX 96 400) ++ zPX 128 0) ++ zPA) ++ zPS 512) ++ zPS 544) ++ zPD 320) ++ zPM 640) ++ zPM 896) ++ zPI 352) ++ [(9, 100, 10)]) ++ [(10, 100, 15)]) ++ [(11, 100, 384)])
theorem zwA_cong {ad ad' : Nat → Nat} {ct : Nat → ClassId} (h : ∀ j, 160 ≤ j → j < 320 → ad j = ad' j) : zw ad ct zBG zPA = zw ad' ct zBG zPA := by
  have hs : ∀ k, 160 ≤ k → k + 17 ≤ 320 → zw ad ct zBG (zPX k 0) = zw ad' ct zBG (zPX k 0) := fun k h0 h1 => zw_cong zrngK8 (fun j h2 h3 => h j (by omega) (by omega)) (fun _ _ => rfl)
  have e0 : zcell ad ct zBG (160, 0, 0) = zcell ad' ct zBG (160, 0, 0) := by
    show (ad 160, (.inr (0, [.ref (ad 161), .int (Int32.ofInt (zBG 160 1))]) : va_E)) = (ad' 160, (.inr (0, [.ref (ad' 161), .int (Int32.ofInt (zBG 160 1))]) : va_E))
    rw [h 160 (by decide) (by decide), h 161 (by decide) (by decide)]
  have e1 : zcell ad ct zBG (161, 118, 4) = zcell ad' ct zBG (161, 118, 4) := by
    show (ad 161, (.inl (ct 118, 4, .inr (.inr (.inr (.inr (fun i => some (ad (zBG 161 i).toNat)))))) : va_E)) = (ad' 161, (.inl (ct 118, 4, .inr (.inr (.inr (.inr (fun i => some (ad' (zBG 161 i).toNat)))))) : va_E))
    have hf : (fun i => some (ad (zBG 161 i).toNat)) = (fun i => some (ad' (zBG 161 i).toNat)) := by
      funext i
      have hz : zBG 161 i = ((192 + 32 * (min i 3) : Nat) : Int) := rfl
      rw [hz, h _ (by omega) (by omega)]
    rw [h 161 (by decide) (by decide), hf]
  rw [zPA, zw_cons, zw_cons, zw_app, zw_app, zw_app, zw_cons, zw_cons, zw_app, zw_app, zw_app, e0, e1, hs 192 (by decide) (by decide), hs 224 (by decide) (by decide), hs 256 (by decide) (by decide), hs 288 (by decide) (by decide)]
theorem zknM : ∀ slot, slot < znf 5 → (zfi 5 slot).1 ≠ 3 ∧ ((zfi 5 slot).1 = 4 → (zfi 5 slot).2.1 < 256) := by decide +kernel
theorem zrngK5 {k : Nat} : zrng k (k + 256) (zPM k) := zrng_cons ⟨⟨Nat.le_refl _, by dsimp only; omega⟩, fun _ => ⟨by show k + 1 + 4 ≤ k + 256; omega, fun slot hs => ⟨(zknM slot hs).1, fun h4 => by have := (zknM slot hs).2 h4; dsimp only; omega⟩⟩, (by decide : (5 : Nat) ≠ 115), (by decide : (5 : Nat) ≠ 118)⟩ (zrng_app (zrng_app (zrng_wide zrngK1 (by omega) (by omega)) (zrng_wide zrngK8 (by omega) (by omega))) (zrng_wide zrngK7 (by omega) (by omega)))
theorem g_front {x y : Nat × va_E} {W : va_W} : ∀ (k : Nat) (q : Nat × va_E), (x :: y :: W)[k]? = some q → (x :: (W ++ [y]))[(fun k => if k = 0 then 0 else if k = 1 then W.length + 1 else k - 1) k]? = some q := by
  intro k q hk
  match k, hk with
  | 0, hk => exact hk
  | 1, hk =>
    cases hk
    simp
  | k + 2, hk =>
    have h1 : W[k]? = some q := hk
    have hl : k < W.length := (List.getElem?_eq_some_iff.mp h1).1
    show (x :: (W ++ [y]))[k + 1]? = some q
    rw [List.getElem?_cons_succ, List.getElem?_append_left hl]
    exact h1
theorem va_P_front {D : va_G} {x y : Nat × va_E} {W : va_W} {H : Heap} (hP : va_P D vwCl (x :: (W ++ [y])) H) : va_P D vwCl (x :: y :: W) H := hP.by _ g_front
theorem va_D_front {A : Nat → Prop} {x y : Nat × va_E} {W : va_W} (hD : va_D A (x :: (W ++ [y]))) : va_D A (x :: y :: W) := by
  refine hD.by _ g_front (fun i j hi hj h => ?_)
  simp only [List.length_cons] at hi hj
  split at h <;> split at h <;> (try split at h) <;> (try split at h) <;> omega
theorem zBG_z {j : Nat} (h : j ≠ 0 ∧ j ≠ 7 ∧ j ≠ 32 ∧ j ≠ 161) (h2 : ∀ x ∈ zids 8, j < x ∨ x + 12 < j) : zBG j = fun _ => 0 := by
  refine zI_zero h ?_
  by_cases hc : 32 * (j / 32) ∈ zids 8
  · right
    have := h2 _ hc
    omega
  · exact Or.inl hc
theorem zBG_p {lo hi : Nat} {P : zP} (hP : zrng lo hi P) (h0 : 7 < lo) (h1 : 32 < lo ∨ hi ≤ 32) (h2 : 161 < lo ∨ hi ≤ 161) (h3 : ∀ x ∈ zids 8, hi ≤ x ∨ x + 12 < lo) : ∀ x ∈ P, zBG x.1 = fun _ => 0 := by
  intro x hx
  have h := (hP x hx).1
  refine zBG_z (by omega) (fun y hy => ?_)
  have := h3 y hy
  omega
theorem zkn9 : ∀ slot, slot < znf 9 → (zfi 9 slot).1 ≠ 3 ∧ (zfi 9 slot).1 ≠ 4 := by decide +kernel
theorem zrngK9 {k : Nat} : zrng k (k + 12) (zPU k) := zrng_cons ⟨⟨Nat.le_refl _, by dsimp only; omega⟩, fun _ => ⟨by show k + 1 + 11 ≤ k + 12; omega, fun slot hs => ⟨(zkn9 slot hs).1, fun h4 => absurd h4 (zkn9 slot hs).2⟩⟩, (by decide : (9 : Nat) ≠ 115), (by decide : (9 : Nat) ≠ 118)⟩ (zrng_cons (zrng_arr (by omega) (by omega) (by decide) (by decide) (by decide)) (zrng_nil))
theorem zkn3 : ∀ slot, slot < znf 3 → (zfi 3 slot).1 ≠ 3 ∧ (zfi 3 slot).1 ≠ 4 := by decide +kernel
theorem zrngK3 {k : Nat} : zrng k (k + 10) (zPD k) := zrng_cons ⟨⟨Nat.le_refl _, by dsimp only; omega⟩, fun _ => ⟨by show k + 1 + 9 ≤ k + 10; omega, fun slot hs => ⟨(zkn3 slot hs).1, fun h4 => absurd h4 (zkn3 slot hs).2⟩⟩, (by decide : (3 : Nat) ≠ 115), (by decide : (3 : Nat) ≠ 118)⟩ (zrng_cons (zrng_arr (by omega) (by omega) (by decide) (by decide) (by decide)) (zrng_cons (zrng_arr (by omega) (by omega) (by decide) (by decide) (by decide)) (zrng_cons (zrng_arr (by omega) (by omega) (by decide) (by decide) (by decide)) (zrng_nil))))
theorem zkn4 : ∀ slot, slot < znf 4 → (zfi 4 slot).1 ≠ 3 ∧ (zfi 4 slot).1 ≠ 4 := by decide +kernel
theorem zrngK4 {k : Nat} : zrng k (k + 3) (zPI k) := zrng_cons ⟨⟨Nat.le_refl _, by dsimp only; omega⟩, fun _ => ⟨by show k + 1 + 2 ≤ k + 3; omega, fun slot hs => ⟨(zkn4 slot hs).1, fun h4 => absurd h4 (zkn4 slot hs).2⟩⟩, (by decide : (4 : Nat) ≠ 115), (by decide : (4 : Nat) ≠ 118)⟩ (zrng_nil)
abbrev MK10 : zMt := (yX10_init, cX10_init, 2, 0, RX10)
theorem zmoK10 : zMok MK10 := ⟨zpl_10.1, zpl_10.2.1, zpl_10.2.2, (tm1 24 rfl rfl), zin_10, Nat.le_of_ble_eq_true rfl, rfl⟩
theorem dK10_0 : decode cX10_init 0 = .ok (.aload_n 0, 1) := by decide +kernel
theorem dK10_1 : decode cX10_init 1 = .ok (.invokespecial 3, 3) := by decide +kernel
theorem dK10_4 : decode cX10_init 4 = .ok (.aload_n 0, 1) := by decide +kernel
theorem dK10_5 : decode cX10_init 5 = .ok (.new 9, 3) := by decide +kernel
theorem dK10_8 : decode cX10_init 8 = .ok (.dup, 1) := by decide +kernel
theorem dK10_9 : decode cX10_init 9 = .ok (.invokespecial 11, 3) := by decide +kernel
theorem dK10_12 : decode cX10_init 12 = .ok (.putfield 12, 3) := by decide +kernel
theorem dK10_15 : decode cX10_init 15 = .ok (.aload_n 0, 1) := by decide +kernel
theorem dK10_16 : decode cX10_init 16 = .ok (.new 16, 3) := by decide +kernel
theorem dK10_19 : decode cX10_init 19 = .ok (.dup, 1) := by decide +kernel
theorem dK10_20 : decode cX10_init 20 = .ok (.invokespecial 18, 3) := by decide +kernel
theorem dK10_23 : decode cX10_init 23 = .ok (.putfield 19, 3) := by decide +kernel
theorem dK10_26 : decode cX10_init 26 = .ok (.aload_n 0, 1) := by decide +kernel
theorem dK10_27 : decode cX10_init 27 = .ok (.new 16, 3) := by decide +kernel
theorem dK10_30 : decode cX10_init 30 = .ok (.dup, 1) := by decide +kernel
theorem dK10_31 : decode cX10_init 31 = .ok (.invokespecial 18, 3) := by decide +kernel
theorem dK10_34 : decode cX10_init 34 = .ok (.putfield 23, 3) := by decide +kernel
theorem dK10_37 : decode cX10_init 37 = .ok (.aload_n 0, 1) := by decide +kernel
theorem dK10_38 : decode cX10_init 38 = .ok (.new 26, 3) := by decide +kernel
theorem dK10_41 : decode cX10_init 41 = .ok (.dup, 1) := by decide +kernel
theorem dK10_42 : decode cX10_init 42 = .ok (.aload_n 0, 1) := by decide +kernel
theorem dK10_43 : decode cX10_init 43 = .ok (.getfield 12, 3) := by decide +kernel
theorem dK10_46 : decode cX10_init 46 = .ok (.aload_n 0, 1) := by decide +kernel
theorem dK10_47 : decode cX10_init 47 = .ok (.getfield 23, 3) := by decide +kernel
theorem dK10_50 : decode cX10_init 50 = .ok (.invokespecial 28, 3) := by decide +kernel
theorem dK10_53 : decode cX10_init 53 = .ok (.putfield 31, 3) := by decide +kernel
theorem dK10_56 : decode cX10_init 56 = .ok (.aload_n 0, 1) := by decide +kernel
theorem dK10_57 : decode cX10_init 57 = .ok (.new 35, 3) := by decide +kernel
theorem dK10_60 : decode cX10_init 60 = .ok (.dup, 1) := by decide +kernel
theorem dK10_61 : decode cX10_init 61 = .ok (.sipush (400), 3) := by decide +kernel
theorem dK10_64 : decode cX10_init 64 = .ok (.invokespecial 37, 3) := by decide +kernel
theorem dK10_67 : decode cX10_init 67 = .ok (.putfield 40, 3) := by decide +kernel
theorem dK10_70 : decode cX10_init 70 = .ok (.aload_n 0, 1) := by decide +kernel
theorem dK10_71 : decode cX10_init 71 = .ok (.new 35, 3) := by decide +kernel
theorem dK10_74 : decode cX10_init 74 = .ok (.dup, 1) := by decide +kernel
theorem dK10_75 : decode cX10_init 75 = .ok (.iconst 0, 1) := by decide +kernel
theorem dK10_76 : decode cX10_init 76 = .ok (.invokespecial 37, 3) := by decide +kernel
theorem dK10_79 : decode cX10_init 79 = .ok (.putfield 44, 3) := by decide +kernel
theorem dK10_82 : decode cX10_init 82 = .ok (.aload_n 0, 1) := by decide +kernel
theorem dK10_83 : decode cX10_init 83 = .ok (.new 47, 3) := by decide +kernel
theorem dK10_86 : decode cX10_init 86 = .ok (.dup, 1) := by decide +kernel
theorem dK10_87 : decode cX10_init 87 = .ok (.invokespecial 49, 3) := by decide +kernel
theorem dK10_90 : decode cX10_init 90 = .ok (.putfield 50, 3) := by decide +kernel
theorem dK10_93 : decode cX10_init 93 = .ok (.aload_n 0, 1) := by decide +kernel
theorem dK10_94 : decode cX10_init 94 = .ok (.new 54, 3) := by decide +kernel
theorem dK10_97 : decode cX10_init 97 = .ok (.dup, 1) := by decide +kernel
theorem dK10_98 : decode cX10_init 98 = .ok (.invokespecial 56, 3) := by decide +kernel
theorem dK10_101 : decode cX10_init 101 = .ok (.putfield 57, 3) := by decide +kernel
theorem dK10_104 : decode cX10_init 104 = .ok (.aload_n 0, 1) := by decide +kernel
theorem dK10_105 : decode cX10_init 105 = .ok (.new 54, 3) := by decide +kernel
theorem dK10_108 : decode cX10_init 108 = .ok (.dup, 1) := by decide +kernel
theorem dK10_109 : decode cX10_init 109 = .ok (.invokespecial 56, 3) := by decide +kernel
theorem dK10_112 : decode cX10_init 112 = .ok (.putfield 61, 3) := by decide +kernel
theorem dK10_115 : decode cX10_init 115 = .ok (.aload_n 0, 1) := by decide +kernel
theorem dK10_116 : decode cX10_init 116 = .ok (.new 64, 3) := by decide +kernel
theorem dK10_119 : decode cX10_init 119 = .ok (.dup, 1) := by decide +kernel
theorem dK10_120 : decode cX10_init 120 = .ok (.invokespecial 66, 3) := by decide +kernel
theorem dK10_123 : decode cX10_init 123 = .ok (.putfield 67, 3) := by decide +kernel
theorem dK10_126 : decode cX10_init 126 = .ok (.aload_n 0, 1) := by decide +kernel
theorem dK10_127 : decode cX10_init 127 = .ok (.iconst 2, 1) := by decide +kernel
theorem dK10_128 : decode cX10_init 128 = .ok (.anewarray 71, 3) := by decide +kernel
theorem dK10_131 : decode cX10_init 131 = .ok (.putfield 73, 3) := by decide +kernel
theorem dK10_134 : decode cX10_init 134 = .ok (.iconst 0, 1) := by decide +kernel
theorem dK10_135 : decode cX10_init 135 = .ok (.istore_n 1, 1) := by decide +kernel
theorem dK10_136 : decode cX10_init 136 = .ok (.iload_n 1, 1) := by decide +kernel
theorem dK10_137 : decode cX10_init 137 = .ok (.iconst 2, 1) := by decide +kernel
theorem dK10_138 : decode cX10_init 138 = .ok (.if_icmp .ge (22), 3) := by decide +kernel
theorem dK10_141 : decode cX10_init 141 = .ok (.aload_n 0, 1) := by decide +kernel
theorem dK10_142 : decode cX10_init 142 = .ok (.getfield 73, 3) := by decide +kernel
theorem dK10_145 : decode cX10_init 145 = .ok (.iload_n 1, 1) := by decide +kernel
theorem dK10_146 : decode cX10_init 146 = .ok (.new 71, 3) := by decide +kernel
theorem dK10_149 : decode cX10_init 149 = .ok (.dup, 1) := by decide +kernel
theorem dK10_150 : decode cX10_init 150 = .ok (.invokespecial 77, 3) := by decide +kernel
theorem dK10_153 : decode cX10_init 153 = .ok (.aastore, 1) := by decide +kernel
theorem dK10_154 : decode cX10_init 154 = .ok (.iinc 1 (1), 3) := by decide +kernel
theorem dK10_157 : decode cX10_init 157 = .ok (.goto (-21), 3) := by decide +kernel
theorem dK10_160 : decode cX10_init 160 = .ok (.aload_n 0, 1) := by decide +kernel
theorem dK10_161 : decode cX10_init 161 = .ok (.new 78, 3) := by decide +kernel
theorem dK10_164 : decode cX10_init 164 = .ok (.dup, 1) := by decide +kernel
theorem dK10_165 : decode cX10_init 165 = .ok (.invokespecial 80, 3) := by decide +kernel
theorem dK10_168 : decode cX10_init 168 = .ok (.putfield 81, 3) := by decide +kernel
theorem dK10_171 : decode cX10_init 171 = .ok (.aload_n 0, 1) := by decide +kernel
theorem dK10_172 : decode cX10_init 172 = .ok (.bipush (10), 2) := by decide +kernel
theorem dK10_174 : decode cX10_init 174 = .ok (.newarray .int, 2) := by decide +kernel
theorem dK10_176 : decode cX10_init 176 = .ok (.putfield 85, 3) := by decide +kernel
theorem dK10_179 : decode cX10_init 179 = .ok (.aload_n 0, 1) := by decide +kernel
theorem dK10_180 : decode cX10_init 180 = .ok (.bipush (15), 2) := by decide +kernel
theorem dK10_182 : decode cX10_init 182 = .ok (.newarray .int, 2) := by decide +kernel
theorem dK10_184 : decode cX10_init 184 = .ok (.putfield 89, 3) := by decide +kernel
theorem dK10_187 : decode cX10_init 187 = .ok (.aload_n 0, 1) := by decide +kernel
theorem dK10_188 : decode cX10_init 188 = .ok (.sipush (384), 3) := by decide +kernel
theorem dK10_191 : decode cX10_init 191 = .ok (.newarray .int, 2) := by decide +kernel
theorem dK10_193 : decode cX10_init 193 = .ok (.putfield 92, 3) := by decide +kernel
theorem dK10_196 : decode cX10_init 196 = .ok (.aload_n 0, 1) := by decide +kernel
theorem dK10_197 : decode cX10_init 197 = .ok (.iconst 0, 1) := by decide +kernel
theorem dK10_198 : decode cX10_init 198 = .ok (.putfield 95, 3) := by decide +kernel
theorem dK10_201 : decode cX10_init 201 = .ok (.aload_n 0, 1) := by decide +kernel
theorem dK10_202 : decode cX10_init 202 = .ok (.iconst (-1), 1) := by decide +kernel
theorem dK10_203 : decode cX10_init 203 = .ok (.putfield 99, 3) := by decide +kernel
theorem dK10_206 : decode cX10_init 206 = .ok (.aload_n 0, 1) := by decide +kernel
theorem dK10_207 : decode cX10_init 207 = .ok (.iconst 0, 1) := by decide +kernel
theorem dK10_208 : decode cX10_init 208 = .ok (.putfield 102, 3) := by decide +kernel
theorem dK10_211 : decode cX10_init 211 = .ok (.return_, 1) := by decide +kernel
theorem znpK9 : znp MK9.1 = some 0 := by decide +kernel
theorem znpK3 : znp MK3.1 = some 0 := by decide +kernel
theorem znpK5 : znp MK5.1 = some 0 := by decide +kernel
theorem znpK0 : znp MK0.1 = some 0 := by decide +kernel
theorem znpK4 : znp MK4.1 = some 0 := by decide +kernel
set_option maxHeartbeats 16000000 in
theorem kc_10 : zCon MK10 10 0 [.null, .null, .null, .null, .null, .null, .null, .null, .null, .null, .null, .null, .null, .null, .null, .int 0, .int 0, .int 0] [] zBG zPR { frames := 6, cells := 204, slots := 5748, locals := 300 } 204 5748 := by
  refine kStart zmoK10 rfl rfl (fun _ => Nat.le_of_ble_eq_true rfl) ?_
  intro l D ct kw ss h0 p e s m args below meth c A ls C0 hret hlocks hP hD hl
  have hx := C0.1
  have hb := C0.2.1
  have hS : va_S A s.heap s.heap [] := va_S.rf
  refine kObj C0 (lv_at hl 0 rfl) hl.1 (tm1 25 rfl rfl) (tm1 26 rfl rfl) (tm1 27 rfl rfl) (Nat.le_of_ble_eq_true rfl) (Nat.le_of_ble_eq_true rfl) dK10_0 dK10_1 ?_
  have hl : lv_has ls 2 [(0, .ref h0)] := hl
  have hK := C0.2.2.2.2.2.1
  have hts := C0.2.2.2.2.1
  refine lv_aload_n hx hb dK10_4 rfl (lv_at hl 0 rfl) ?_
  refine kNew (ci := 9) (N := 11) (fs := [.null, .int 0, .int 0, .int 0, .int 0, .int 0, .int 0, .int 0, .long 0, .int 0, .int 0]) C0 hP hD hS tyX9 zcw9 tyX9_ok (tm1 28 rfl rfl) (tm1 29 rfl rfl) zin_9 rfl (by decide +kernel) (Nat.le_of_ble_eq_true rfl) (Nat.le_of_ble_eq_true rfl) dK10_5 dK10_8 (fun qT H hP hD hS => ?_)
  refine kCallN (ws := [(h0, .inr (10, [.null, .null, .null, .null, .null, .null, .null, .null, .null, .null, .null, .null, .null, .null, .null, .int 0, .int 0, .int 0]))]) (as := []) (n := 0) (rest := [.ref qT, .ref h0]) C0 (kc_9 (k := 64) (zBG_p (zrngK9) (by decide) (by decide) (by decide) (by decide))) hP hD hS zmoK9 rfl rfl rfl rfl (List.mem_of_getElem? (i := 8) rfl) (tm1 31 rfl rfl) znpK9 rfl hl.1 ⟨Nat.le_of_ble_eq_true rfl, Nat.le_of_ble_eq_true rfl⟩ (Nat.le_of_ble_eq_true rfl) ⟨Nat.le_of_ble_eq_true rfl, Nat.le_of_ble_eq_true rfl⟩ dK10_9 rfl (fun adT H locs hadT hP hD hS => ?_)
  refine kPut C0 hP hD hS 0 tyX10 zcw10 tyX10_ok nmX10 rfl (fs := [.null, .null, .null, .null, .null, .null, .null, .null, .null, .null, .null, .null, .null, .null, .null, .int 0, .int 0, .int 0]) rfl (k := 0) (by decide) (tm2 200 rfl rfl) rfl rfl rfl rfl (Nat.le_of_ble_eq_true rfl) dK10_12 (fun H locs hP hD hS => ?_)
  have hP : va_P D vwCl ((h0, .inr (10, [.ref qT, .null, .null, .null, .null, .null, .null, .null, .null, .null, .null, .null, .null, .null, .null, .int 0, .int 0, .int 0])) :: zw adT ct zBG (zPU 64)) H := hP
  have hD : va_D A ((h0, .inr (10, [.ref qT, .null, .null, .null, .null, .null, .null, .null, .null, .null, .null, .null, .null, .null, .null, .int 0, .int 0, .int 0])) :: zw adT ct zBG (zPU 64)) := hD
  generalize hWT : zw adT ct zBG (zPU 64) = WT at hP hD
  refine lv_aload_n hx hb dK10_15 rfl (lv_at hl 0 rfl) ?_
  refine kNew (ci := 1) (N := 19) (fs := [.null, .null, .null, .null, .null, .null, .null, .null, .null, .null, .null, .null, .null, .int 0, .int 0, .int 0, .int 0, .int 0, .int 0]) C0 hP hD hS tyX1 zcw1 tyX1_ok (tm1 83 rfl rfl) (tm1 84 rfl rfl) zin_1 rfl (by decide +kernel) (Nat.le_of_ble_eq_true rfl) (Nat.le_of_ble_eq_true rfl) dK10_16 dK10_19 (fun qL H hP hD hS => ?_)
  refine kCallN (ws := (h0, .inr (10, [.ref qT, .null, .null, .null, .null, .null, .null, .null, .null, .null, .null, .null, .null, .null, .null, .int 0, .int 0, .int 0])) :: WT) (as := []) (n := 0) (rest := [.ref qL, .ref h0]) C0 (kc_1 (k := 384) (zBG_p (zrngK1) (by decide) (by decide) (by decide) (by decide))) hP hD hS zmoK1 rfl rfl rfl rfl (List.mem_of_getElem? (i := 1) rfl) (tm1 86 rfl rfl) znpK1 rfl hl.1 ⟨Nat.le_of_ble_eq_true rfl, Nat.le_of_ble_eq_true rfl⟩ (Nat.le_of_ble_eq_true rfl) ⟨Nat.le_of_ble_eq_true rfl, Nat.le_of_ble_eq_true rfl⟩ dK10_20 rfl (fun adL H locs hadL hP hD hS => ?_)
  refine kPutV C0 hP hD hS 0 tyX10 zcw10 tyX10_ok nmX10 rfl (fs := [.ref qT, .null, .null, .null, .null, .null, .null, .null, .null, .null, .null, .null, .null, .null, .null, .int 0, .int 0, .int 0]) rfl (k := 11) (by decide) (tm2 211 rfl rfl) rfl rfl rfl (Nat.le_of_ble_eq_true rfl) dK10_23 (fun H locs hP hD hS => ?_)
  have hP : va_P D vwCl ((h0, .inr (10, [.ref qT, .null, .null, .null, .null, .null, .null, .null, .null, .null, .null, .ref qL, .null, .null, .null, .int 0, .int 0, .int 0])) :: (WT ++ zw adL ct zBG (zPC 384))) H := hP
  have hD : va_D A ((h0, .inr (10, [.ref qT, .null, .null, .null, .null, .null, .null, .null, .null, .null, .null, .ref qL, .null, .null, .null, .int 0, .int 0, .int 0])) :: (WT ++ zw adL ct zBG (zPC 384))) := hD
  generalize hWL : zw adL ct zBG (zPC 384) = WL at hP hD
  refine lv_aload_n hx hb dK10_26 rfl (lv_at hl 0 rfl) ?_
  refine kNew (ci := 1) (N := 19) (fs := [.null, .null, .null, .null, .null, .null, .null, .null, .null, .null, .null, .null, .null, .int 0, .int 0, .int 0, .int 0, .int 0, .int 0]) C0 hP hD hS tyX1 zcw1 tyX1_ok (tm1 83 rfl rfl) (tm1 84 rfl rfl) zin_1 rfl (by decide +kernel) (Nat.le_of_ble_eq_true rfl) (Nat.le_of_ble_eq_true rfl) dK10_27 dK10_30 (fun qM H hP hD hS => ?_)
  refine kCallN (ws := (h0, .inr (10, [.ref qT, .null, .null, .null, .null, .null, .null, .null, .null, .null, .null, .ref qL, .null, .null, .null, .int 0, .int 0, .int 0])) :: (WT ++ WL)) (as := []) (n := 0) (rest := [.ref qM, .ref h0]) C0 (kc_1 (k := 448) (zBG_p (zrngK1) (by decide) (by decide) (by decide) (by decide))) hP hD hS zmoK1 rfl rfl rfl rfl (List.mem_of_getElem? (i := 1) rfl) (tm1 86 rfl rfl) znpK1 rfl hl.1 ⟨Nat.le_of_ble_eq_true rfl, Nat.le_of_ble_eq_true rfl⟩ (Nat.le_of_ble_eq_true rfl) ⟨Nat.le_of_ble_eq_true rfl, Nat.le_of_ble_eq_true rfl⟩ dK10_31 rfl (fun adM H locs hadM hP hD hS => ?_)
  refine kPutV C0 hP hD hS 0 tyX10 zcw10 tyX10_ok nmX10 rfl (fs := [.ref qT, .null, .null, .null, .null, .null, .null, .null, .null, .null, .null, .ref qL, .null, .null, .null, .int 0, .int 0, .int 0]) rfl (k := 13) (by decide) (tm2 213 rfl rfl) rfl rfl rfl (Nat.le_of_ble_eq_true rfl) dK10_34 (fun H locs hP hD hS => ?_)
  have hP : va_P D vwCl ((h0, .inr (10, [.ref qT, .null, .null, .null, .null, .null, .null, .null, .null, .null, .null, .ref qL, .null, .ref qM, .null, .int 0, .int 0, .int 0])) :: ((WT ++ WL) ++ zw adM ct zBG (zPC 448))) H := hP
  have hD : va_D A ((h0, .inr (10, [.ref qT, .null, .null, .null, .null, .null, .null, .null, .null, .null, .null, .ref qL, .null, .ref qM, .null, .int 0, .int 0, .int 0])) :: ((WT ++ WL) ++ zw adM ct zBG (zPC 448))) := hD
  generalize hWM : zw adM ct zBG (zPC 448) = WM at hP hD
  refine lv_aload_n hx hb dK10_37 rfl (lv_at hl 0 rfl) ?_
  refine kNew (ci := 2) (N := 7) (fs := [.null, .null, .int 0, .long 0, .int 0, .int 0, .int 0]) C0 hP hD hS tyX2 zcw2 tyX2_ok (tm1 211 rfl rfl) (tm1 212 rfl rfl) zin_2 rfl (by decide +kernel) (Nat.le_of_ble_eq_true rfl) (Nat.le_of_ble_eq_true rfl) dK10_38 dK10_41 (fun qV H hP hD hS => ?_)
  refine lv_aload_n hx hb dK10_42 rfl (lv_at hl 0 rfl) ?_
  refine va_get (D := D) (ci := 10) (v := .ref qT) (C := RX10) (T := TX10) (N := 18) hx hb hts zcw10 C0.2.2.2.1 hK hP 0 rfl rfl 0 (by decide) (hts _ (tm2 200 rfl rfl)) (fun _ h9 => h9) rfl dK10_43 ?_
  refine lv_aload_n hx hb dK10_46 rfl (lv_at hl 0 rfl) ?_
  refine va_get (D := D) (ci := 10) (v := .ref qM) (C := RX10) (T := TX10) (N := 18) hx hb hts zcw10 C0.2.2.2.1 hK hP 0 rfl rfl 13 (by decide) (hts _ (tm2 213 rfl rfl)) (fun _ h9 => h9) rfl dK10_47 ?_
  refine kCallW (ws := (h0, .inr (10, [.ref qT, .null, .null, .null, .null, .null, .null, .null, .null, .null, .null, .ref qL, .null, .ref qM, .null, .int 0, .int 0, .int 0])) :: ((WT ++ WL) ++ WM)) (as := [.ref qT, .ref qM]) (n := 2) (rest := [.ref qV, .ref h0]) C0 kc_2 hP hD hS zmoK2 rfl rfl rfl rfl (tm1 213 rfl rfl) (tm1 214 rfl rfl) znpK2 rfl hl.1 ⟨Nat.le_of_ble_eq_true rfl, Nat.le_of_ble_eq_true rfl⟩ (Nat.le_of_ble_eq_true rfl) ⟨Nat.le_of_ble_eq_true rfl, Nat.le_of_ble_eq_true rfl⟩ dK10_50 rfl (fun H locs hP hD hS => ?_)
  refine kPut C0 hP hD hS 0 tyX10 zcw10 tyX10_ok nmX10 rfl (fs := [.ref qT, .null, .null, .null, .null, .null, .null, .null, .null, .null, .null, .ref qL, .null, .ref qM, .null, .int 0, .int 0, .int 0]) rfl (k := 1) (by decide) (tm2 201 rfl rfl) rfl rfl rfl rfl (Nat.le_of_ble_eq_true rfl) dK10_53 (fun H locs hP hD hS => ?_)
  have hP : va_P D vwCl ((h0, .inr (10, [.ref qT, .ref qV, .null, .null, .null, .null, .null, .null, .null, .null, .null, .ref qL, .null, .ref qM, .null, .int 0, .int 0, .int 0])) :: (((WT ++ WL) ++ WM) ++ [(qV, (.inr (2, [.ref qT, .ref qM, .int 0, .long 0, .int 0, .int 0, .int 0]) : va_E))])) H := hP
  have hD : va_D A ((h0, .inr (10, [.ref qT, .ref qV, .null, .null, .null, .null, .null, .null, .null, .null, .null, .ref qL, .null, .ref qM, .null, .int 0, .int 0, .int 0])) :: (((WT ++ WL) ++ WM) ++ [(qV, (.inr (2, [.ref qT, .ref qM, .int 0, .long 0, .int 0, .int 0, .int 0]) : va_E))])) := hD
  generalize hWV : [(qV, (.inr (2, [.ref qT, .ref qM, .int 0, .long 0, .int 0, .int 0, .int 0]) : va_E))] = WV at hP hD
  refine lv_aload_n hx hb dK10_56 rfl (lv_at hl 0 rfl) ?_
  refine kNew (ci := 8) (N := 16) (fs := [.null, .null, .null, .null, .null, .null, .null, .null, .null, .null, .null, .null, .int 0, .int 0, .int 0, .int 0]) C0 hP hD hS tyX8 zcw8 tyX8_ok (tm2 0 rfl rfl) (tm2 1 rfl rfl) zin_8 rfl (by decide +kernel) (Nat.le_of_ble_eq_true rfl) (Nat.le_of_ble_eq_true rfl) dK10_57 dK10_60 (fun qS H hP hD hS => ?_)
  refine lv_sipush (v := 400) hx hb dK10_61 (by decide) ?_
  refine kCall (ws := (h0, .inr (10, [.ref qT, .ref qV, .null, .null, .null, .null, .null, .null, .null, .null, .null, .ref qL, .null, .ref qM, .null, .int 0, .int 0, .int 0])) :: (((WT ++ WL) ++ WM) ++ WV)) (as := [.int 400]) (n := 1) (rest := [.ref qS, .ref h0]) C0 (kc_8a (k := 96) (by decide) rfl) hP hD hS zmoK8 rfl rfl rfl rfl (tm2 2 rfl rfl) (tm2 3 rfl rfl) znpK8 rfl hl.1 ⟨Nat.le_of_ble_eq_true rfl, Nat.le_of_ble_eq_true rfl⟩ (Nat.le_of_ble_eq_true rfl) ⟨Nat.le_of_ble_eq_true rfl, Nat.le_of_ble_eq_true rfl⟩ dK10_64 rfl (fun adS H locs hadS hP hD hS => ?_)
  refine kPut C0 hP hD hS 0 tyX10 zcw10 tyX10_ok nmX10 rfl (fs := [.ref qT, .ref qV, .null, .null, .null, .null, .null, .null, .null, .null, .null, .ref qL, .null, .ref qM, .null, .int 0, .int 0, .int 0]) rfl (k := 2) (by decide) (tm2 202 rfl rfl) rfl rfl rfl rfl (Nat.le_of_ble_eq_true rfl) dK10_67 (fun H locs hP hD hS => ?_)
  have hP : va_P D vwCl ((h0, .inr (10, [.ref qT, .ref qV, .ref qS, .null, .null, .null, .null, .null, .null, .null, .null, .ref qL, .null, .ref qM, .null, .int 0, .int 0, .int 0])) :: ((((WT ++ WL) ++ WM) ++ WV) ++ zw adS ct zBG (zPX 96 400))) H := hP
  have hD : va_D A ((h0, .inr (10, [.ref qT, .ref qV, .ref qS, .null, .null, .null, .null, .null, .null, .null, .null, .ref qL, .null, .ref qM, .null, .int 0, .int 0, .int 0])) :: ((((WT ++ WL) ++ WM) ++ WV) ++ zw adS ct zBG (zPX 96 400))) := hD
  generalize hWS : zw adS ct zBG (zPX 96 400) = WS at hP hD
  refine lv_aload_n hx hb dK10_70 rfl (lv_at hl 0 rfl) ?_
  refine kNew (ci := 8) (N := 16) (fs := [.null, .null, .null, .null, .null, .null, .null, .null, .null, .null, .null, .null, .int 0, .int 0, .int 0, .int 0]) C0 hP hD hS tyX8 zcw8 tyX8_ok (tm2 0 rfl rfl) (tm2 1 rfl rfl) zin_8 rfl (by decide +kernel) (Nat.le_of_ble_eq_true rfl) (Nat.le_of_ble_eq_true rfl) dK10_71 dK10_74 (fun qU H hP hD hS => ?_)
  refine lv_iconst (v := 0) hx hb dK10_75 (by decide) ?_
  refine kCall (ws := (h0, .inr (10, [.ref qT, .ref qV, .ref qS, .null, .null, .null, .null, .null, .null, .null, .null, .ref qL, .null, .ref qM, .null, .int 0, .int 0, .int 0])) :: ((((WT ++ WL) ++ WM) ++ WV) ++ WS)) (as := [.int 0]) (n := 1) (rest := [.ref qU, .ref h0]) C0 (kc_8b (k := 128) (by decide) rfl) hP hD hS zmoK8 rfl rfl rfl rfl (tm2 2 rfl rfl) (tm2 3 rfl rfl) znpK8 rfl hl.1 ⟨Nat.le_of_ble_eq_true rfl, Nat.le_of_ble_eq_true rfl⟩ (Nat.le_of_ble_eq_true rfl) ⟨Nat.le_of_ble_eq_true rfl, Nat.le_of_ble_eq_true rfl⟩ dK10_76 rfl (fun adU H locs hadU hP hD hS => ?_)
  refine kPut C0 hP hD hS 0 tyX10 zcw10 tyX10_ok nmX10 rfl (fs := [.ref qT, .ref qV, .ref qS, .null, .null, .null, .null, .null, .null, .null, .null, .ref qL, .null, .ref qM, .null, .int 0, .int 0, .int 0]) rfl (k := 3) (by decide) (tm2 203 rfl rfl) rfl rfl rfl rfl (Nat.le_of_ble_eq_true rfl) dK10_79 (fun H locs hP hD hS => ?_)
  have hP : va_P D vwCl ((h0, .inr (10, [.ref qT, .ref qV, .ref qS, .ref qU, .null, .null, .null, .null, .null, .null, .null, .ref qL, .null, .ref qM, .null, .int 0, .int 0, .int 0])) :: (((((WT ++ WL) ++ WM) ++ WV) ++ WS) ++ zw adU ct zBG (zPX 128 0))) H := hP
  have hD : va_D A ((h0, .inr (10, [.ref qT, .ref qV, .ref qS, .ref qU, .null, .null, .null, .null, .null, .null, .null, .ref qL, .null, .ref qM, .null, .int 0, .int 0, .int 0])) :: (((((WT ++ WL) ++ WM) ++ WV) ++ WS) ++ zw adU ct zBG (zPX 128 0))) := hD
  generalize hWU : zw adU ct zBG (zPX 128 0) = WU at hP hD
  refine lv_aload_n hx hb dK10_82 rfl (lv_at hl 0 rfl) ?_
  refine kNew (ci := 0) (N := 2) (fs := [.null, .int 0]) C0 hP hD hS tyX0 zcw0 tyX0_ok (tm2 81 rfl rfl) (tm2 82 rfl rfl) zin_0 rfl (by decide +kernel) (Nat.le_of_ble_eq_true rfl) (Nat.le_of_ble_eq_true rfl) dK10_83 dK10_86 (fun qA H hP hD hS => ?_)
  refine kCall (ws := (h0, .inr (10, [.ref qT, .ref qV, .ref qS, .ref qU, .null, .null, .null, .null, .null, .null, .null, .ref qL, .null, .ref qM, .null, .int 0, .int 0, .int 0])) :: (((((WT ++ WL) ++ WM) ++ WV) ++ WS) ++ WU)) (as := []) (n := 0) (rest := [.ref qA, .ref h0]) C0 (kc_0) hP hD hS zmoK0 rfl rfl rfl rfl (tm2 83 rfl rfl) (tm2 84 rfl rfl) znpK0 rfl hl.1 ⟨Nat.le_of_ble_eq_true rfl, Nat.le_of_ble_eq_true rfl⟩ (Nat.le_of_ble_eq_true rfl) ⟨Nat.le_of_ble_eq_true rfl, Nat.le_of_ble_eq_true rfl⟩ dK10_87 rfl (fun adA H locs hadA hP hD hS => ?_)
  refine kPut C0 hP hD hS 0 tyX10 zcw10 tyX10_ok nmX10 rfl (fs := [.ref qT, .ref qV, .ref qS, .ref qU, .null, .null, .null, .null, .null, .null, .null, .ref qL, .null, .ref qM, .null, .int 0, .int 0, .int 0]) rfl (k := 4) (by decide) (tm2 204 rfl rfl) rfl rfl rfl rfl (Nat.le_of_ble_eq_true rfl) dK10_90 (fun H locs hP hD hS => ?_)
  have hP : va_P D vwCl ((h0, .inr (10, [.ref qT, .ref qV, .ref qS, .ref qU, .ref qA, .null, .null, .null, .null, .null, .null, .ref qL, .null, .ref qM, .null, .int 0, .int 0, .int 0])) :: ((((((WT ++ WL) ++ WM) ++ WV) ++ WS) ++ WU) ++ zw adA ct zBG (zPA))) H := hP
  have hD : va_D A ((h0, .inr (10, [.ref qT, .ref qV, .ref qS, .ref qU, .ref qA, .null, .null, .null, .null, .null, .null, .ref qL, .null, .ref qM, .null, .int 0, .int 0, .int 0])) :: ((((((WT ++ WL) ++ WM) ++ WV) ++ WS) ++ WU) ++ zw adA ct zBG (zPA))) := hD
  generalize hWA : zw adA ct zBG zPA = WA at hP hD
  refine lv_aload_n hx hb dK10_93 rfl (lv_at hl 0 rfl) ?_
  refine kNew (ci := 7) (N := 5) (fs := [.null, .null, .null, .int 0, .int 0]) C0 hP hD hS tyX7 zcw7 tyX7_ok (tm2 98 rfl rfl) (tm2 99 rfl rfl) zin_7 rfl (by decide +kernel) (Nat.le_of_ble_eq_true rfl) (Nat.le_of_ble_eq_true rfl) dK10_94 dK10_97 (fun qQ H hP hD hS => ?_)
  refine kCallN (ws := (h0, .inr (10, [.ref qT, .ref qV, .ref qS, .ref qU, .ref qA, .null, .null, .null, .null, .null, .null, .ref qL, .null, .ref qM, .null, .int 0, .int 0, .int 0])) :: ((((((WT ++ WL) ++ WM) ++ WV) ++ WS) ++ WU) ++ WA)) (as := []) (n := 0) (rest := [.ref qQ, .ref h0]) C0 (kc_7 (k := 512) (zBG_p (zrngK7) (by decide) (by decide) (by decide) (by decide))) hP hD hS zmoK7 rfl rfl rfl rfl (List.mem_of_getElem? (i := 6) rfl) (tm2 101 rfl rfl) znpK7 rfl hl.1 ⟨Nat.le_of_ble_eq_true rfl, Nat.le_of_ble_eq_true rfl⟩ (Nat.le_of_ble_eq_true rfl) ⟨Nat.le_of_ble_eq_true rfl, Nat.le_of_ble_eq_true rfl⟩ dK10_98 rfl (fun adQ H locs hadQ hP hD hS => ?_)
  refine kPutV C0 hP hD hS 0 tyX10 zcw10 tyX10_ok nmX10 rfl (fs := [.ref qT, .ref qV, .ref qS, .ref qU, .ref qA, .null, .null, .null, .null, .null, .null, .ref qL, .null, .ref qM, .null, .int 0, .int 0, .int 0]) rfl (k := 12) (by decide) (tm2 212 rfl rfl) rfl rfl rfl (Nat.le_of_ble_eq_true rfl) dK10_101 (fun H locs hP hD hS => ?_)
  have hP : va_P D vwCl ((h0, .inr (10, [.ref qT, .ref qV, .ref qS, .ref qU, .ref qA, .null, .null, .null, .null, .null, .null, .ref qL, .ref qQ, .ref qM, .null, .int 0, .int 0, .int 0])) :: (((((((WT ++ WL) ++ WM) ++ WV) ++ WS) ++ WU) ++ WA) ++ zw adQ ct zBG (zPS 512))) H := hP
  have hD : va_D A ((h0, .inr (10, [.ref qT, .ref qV, .ref qS, .ref qU, .ref qA, .null, .null, .null, .null, .null, .null, .ref qL, .ref qQ, .ref qM, .null, .int 0, .int 0, .int 0])) :: (((((((WT ++ WL) ++ WM) ++ WV) ++ WS) ++ WU) ++ WA) ++ zw adQ ct zBG (zPS 512))) := hD
  generalize hWQ : zw adQ ct zBG (zPS 512) = WQ at hP hD
  refine lv_aload_n hx hb dK10_104 rfl (lv_at hl 0 rfl) ?_
  refine kNew (ci := 7) (N := 5) (fs := [.null, .null, .null, .int 0, .int 0]) C0 hP hD hS tyX7 zcw7 tyX7_ok (tm2 98 rfl rfl) (tm2 99 rfl rfl) zin_7 rfl (by decide +kernel) (Nat.le_of_ble_eq_true rfl) (Nat.le_of_ble_eq_true rfl) dK10_105 dK10_108 (fun qR H hP hD hS => ?_)
  refine kCallN (ws := (h0, .inr (10, [.ref qT, .ref qV, .ref qS, .ref qU, .ref qA, .null, .null, .null, .null, .null, .null, .ref qL, .ref qQ, .ref qM, .null, .int 0, .int 0, .int 0])) :: (((((((WT ++ WL) ++ WM) ++ WV) ++ WS) ++ WU) ++ WA) ++ WQ)) (as := []) (n := 0) (rest := [.ref qR, .ref h0]) C0 (kc_7 (k := 544) (zBG_p (zrngK7) (by decide) (by decide) (by decide) (by decide))) hP hD hS zmoK7 rfl rfl rfl rfl (List.mem_of_getElem? (i := 6) rfl) (tm2 101 rfl rfl) znpK7 rfl hl.1 ⟨Nat.le_of_ble_eq_true rfl, Nat.le_of_ble_eq_true rfl⟩ (Nat.le_of_ble_eq_true rfl) ⟨Nat.le_of_ble_eq_true rfl, Nat.le_of_ble_eq_true rfl⟩ dK10_109 rfl (fun adR H locs hadR hP hD hS => ?_)
  refine kPutV C0 hP hD hS 0 tyX10 zcw10 tyX10_ok nmX10 rfl (fs := [.ref qT, .ref qV, .ref qS, .ref qU, .ref qA, .null, .null, .null, .null, .null, .null, .ref qL, .ref qQ, .ref qM, .null, .int 0, .int 0, .int 0]) rfl (k := 14) (by decide) (tm2 214 rfl rfl) rfl rfl rfl (Nat.le_of_ble_eq_true rfl) dK10_112 (fun H locs hP hD hS => ?_)
  have hP : va_P D vwCl ((h0, .inr (10, [.ref qT, .ref qV, .ref qS, .ref qU, .ref qA, .null, .null, .null, .null, .null, .null, .ref qL, .ref qQ, .ref qM, .ref qR, .int 0, .int 0, .int 0])) :: ((((((((WT ++ WL) ++ WM) ++ WV) ++ WS) ++ WU) ++ WA) ++ WQ) ++ zw adR ct zBG (zPS 544))) H := hP
  have hD : va_D A ((h0, .inr (10, [.ref qT, .ref qV, .ref qS, .ref qU, .ref qA, .null, .null, .null, .null, .null, .null, .ref qL, .ref qQ, .ref qM, .ref qR, .int 0, .int 0, .int 0])) :: ((((((((WT ++ WL) ++ WM) ++ WV) ++ WS) ++ WU) ++ WA) ++ WQ) ++ zw adR ct zBG (zPS 544))) := hD
  generalize hWR : zw adR ct zBG (zPS 544) = WR at hP hD
  refine lv_aload_n hx hb dK10_115 rfl (lv_at hl 0 rfl) ?_
  refine kNew (ci := 3) (N := 9) (fs := [.null, .null, .null, .int 0, .int 0, .int 0, .int 0, .int 0, .int 0]) C0 hP hD hS tyX3 zcw3 tyX3_ok (tm2 121 rfl rfl) (tm2 122 rfl rfl) zin_3 rfl (by decide +kernel) (Nat.le_of_ble_eq_true rfl) (Nat.le_of_ble_eq_true rfl) dK10_116 dK10_119 (fun qB H hP hD hS => ?_)
  refine kCallN (ws := (h0, .inr (10, [.ref qT, .ref qV, .ref qS, .ref qU, .ref qA, .null, .null, .null, .null, .null, .null, .ref qL, .ref qQ, .ref qM, .ref qR, .int 0, .int 0, .int 0])) :: ((((((((WT ++ WL) ++ WM) ++ WV) ++ WS) ++ WU) ++ WA) ++ WQ) ++ WR)) (as := []) (n := 0) (rest := [.ref qB, .ref h0]) C0 (kc_3 (k := 320) (zBG_p (zrngK3) (by decide) (by decide) (by decide) (by decide))) hP hD hS zmoK3 rfl rfl rfl rfl (List.mem_of_getElem? (i := 3) rfl) (tm2 124 rfl rfl) znpK3 rfl hl.1 ⟨Nat.le_of_ble_eq_true rfl, Nat.le_of_ble_eq_true rfl⟩ (Nat.le_of_ble_eq_true rfl) ⟨Nat.le_of_ble_eq_true rfl, Nat.le_of_ble_eq_true rfl⟩ dK10_120 rfl (fun adB H locs hadB hP hD hS => ?_)
  refine kPut C0 hP hD hS 0 tyX10 zcw10 tyX10_ok nmX10 rfl (fs := [.ref qT, .ref qV, .ref qS, .ref qU, .ref qA, .null, .null, .null, .null, .null, .null, .ref qL, .ref qQ, .ref qM, .ref qR, .int 0, .int 0, .int 0]) rfl (k := 5) (by decide) (tm2 205 rfl rfl) rfl rfl rfl rfl (Nat.le_of_ble_eq_true rfl) dK10_123 (fun H locs hP hD hS => ?_)
  have hP : va_P D vwCl ((h0, .inr (10, [.ref qT, .ref qV, .ref qS, .ref qU, .ref qA, .ref qB, .null, .null, .null, .null, .null, .ref qL, .ref qQ, .ref qM, .ref qR, .int 0, .int 0, .int 0])) :: (((((((((WT ++ WL) ++ WM) ++ WV) ++ WS) ++ WU) ++ WA) ++ WQ) ++ WR) ++ zw adB ct zBG (zPD 320))) H := hP
  have hD : va_D A ((h0, .inr (10, [.ref qT, .ref qV, .ref qS, .ref qU, .ref qA, .ref qB, .null, .null, .null, .null, .null, .ref qL, .ref qQ, .ref qM, .ref qR, .int 0, .int 0, .int 0])) :: (((((((((WT ++ WL) ++ WM) ++ WV) ++ WS) ++ WU) ++ WA) ++ WQ) ++ WR) ++ zw adB ct zBG (zPD 320))) := hD
  generalize hWB : zw adB ct zBG (zPD 320) = WB at hP hD
  refine lv_aload_n hx hb dK10_126 rfl (lv_at hl 0 rfl) ?_
  refine lv_iconst (v := 2) hx hb dK10_127 (by decide) ?_
  refine va_newq (C := RX5) (N' := 2) hx hb C0.2.2.2.1 (hts _ (tm2 156 rfl rfl)) C0.2.2.2.2.2.2.2.1.2.2.2 hK hP hD hS C0.2.2.2.2.2.2.2.2 (by decide +kernel) (by decide +kernel) (Nat.le_of_ble_eq_true rfl) (Nat.le_of_ble_eq_true rfl) (Nat.le_of_ble_eq_true rfl) dK10_128 (fun qi cA H hK1 hP hD hS => ?_)
  have e1 : cA = ct 115 := va_RA_inj (hK1.2 (ztys ct).length (cA, .object RX5) (by simp)).2 (hK.2 4 _ rfl).2
  subst e1
  refine kPut C0 hP hD hS 0 tyX10 zcw10 tyX10_ok nmX10 rfl (fs := [.ref qT, .ref qV, .ref qS, .ref qU, .ref qA, .ref qB, .null, .null, .null, .null, .null, .ref qL, .ref qQ, .ref qM, .ref qR, .int 0, .int 0, .int 0]) rfl (k := 6) (by decide) (tm2 206 rfl rfl) rfl rfl rfl rfl (Nat.le_of_ble_eq_true rfl) dK10_131 (fun H locs hP hD hS => ?_)
  have hP : va_P D vwCl ((h0, .inr (10, [.ref qT, .ref qV, .ref qS, .ref qU, .ref qA, .ref qB, .ref qi, .null, .null, .null, .null, .ref qL, .ref qQ, .ref qM, .ref qR, .int 0, .int 0, .int 0])) :: (qi, .inl (ct 115, 2, .inr (.inr (.inr (.inr (fun _ => none)))))) :: (((((((((WT ++ WL) ++ WM) ++ WV) ++ WS) ++ WU) ++ WA) ++ WQ) ++ WR) ++ WB)) H := va_P_front hP
  have hD : va_D A ((h0, .inr (10, [.ref qT, .ref qV, .ref qS, .ref qU, .ref qA, .ref qB, .ref qi, .null, .null, .null, .null, .ref qL, .ref qQ, .ref qM, .ref qR, .int 0, .int 0, .int 0])) :: (qi, .inl (ct 115, 2, .inr (.inr (.inr (.inr (fun _ => none)))))) :: (((((((((WT ++ WL) ++ WM) ++ WV) ++ WS) ++ WU) ++ WA) ++ WQ) ++ WR) ++ WB)) := va_D_front hD
  refine lv_iconst (v := 0) hx hb dK10_134 (by decide) ?_
  refine lv_istore_n (lv' := [(1, .int 0), (0, .ref h0)]) hx hb dK10_135 rfl hl (by decide) rfl (fun ls hl => ?_)
  refine lv_iload_n hx hb dK10_136 rfl (lv_at hl 0 rfl) ?_
  refine lv_iconst (v := 2) hx hb dK10_137 (by decide) ?_
  refine lv_icmp_ge (tgt := 160) hx hb dK10_138 (by decide) (fun hc => absurd hc (by decide +kernel)) (fun _ => ?_)
  refine lv_aload_n hx hb dK10_141 rfl (lv_at hl 1 rfl) ?_
  refine va_get (D := D) (ci := 10) (v := .ref qi) (C := RX10) (T := TX10) (N := 18) hx hb hts zcw10 C0.2.2.2.1 hK hP 0 rfl rfl 6 (by decide) (hts _ (tm2 206 rfl rfl)) (fun _ h9 => h9) rfl dK10_142 ?_
  refine lv_iload_n hx hb dK10_145 rfl (lv_at hl 0 rfl) ?_
  refine kNew (ci := 5) (N := 4) (fs := [.null, .null, .null, .int 0]) C0 hP hD hS tyX5 zcw5 tyX5_ok (tm2 156 rfl rfl) (tm2 158 rfl rfl) zin_5 rfl (by decide +kernel) (Nat.le_of_ble_eq_true rfl) (Nat.le_of_ble_eq_true rfl) dK10_146 dK10_149 (fun qi0 H hP hD hS => ?_)
  refine kCallN (ws := (h0, .inr (10, [.ref qT, .ref qV, .ref qS, .ref qU, .ref qA, .ref qB, .ref qi, .null, .null, .null, .null, .ref qL, .ref qQ, .ref qM, .ref qR, .int 0, .int 0, .int 0])) :: (qi, .inl (ct 115, 2, .inr (.inr (.inr (.inr (fun _ => none)))))) :: (((((((((WT ++ WL) ++ WM) ++ WV) ++ WS) ++ WU) ++ WA) ++ WQ) ++ WR) ++ WB)) (as := []) (n := 0) (rest := [.ref qi0, .int 0, .ref qi]) C0 (kc_5 (k := 640) (zBG_z (by decide) (by decide)) (zBG_p (zrngK1) (by decide) (by decide) (by decide) (by decide)) (zBG_p (zrngK7) (by decide) (by decide) (by decide) (by decide)) (by decide) rfl) hP hD hS zmoK5 rfl rfl rfl rfl (List.mem_of_getElem? (i := 5) rfl) (tm2 160 rfl rfl) znpK5 rfl hl.1 ⟨Nat.le_of_ble_eq_true rfl, Nat.le_of_ble_eq_true rfl⟩ (Nat.le_of_ble_eq_true rfl) ⟨Nat.le_of_ble_eq_true rfl, Nat.le_of_ble_eq_true rfl⟩ dK10_150 rfl (fun adi0 H locs hadi0 hP hD hS => ?_)
  have hP : va_P D vwCl ((h0, .inr (10, [.ref qT, .ref qV, .ref qS, .ref qU, .ref qA, .ref qB, .ref qi, .null, .null, .null, .null, .ref qL, .ref qQ, .ref qM, .ref qR, .int 0, .int 0, .int 0])) :: (qi, .inl (ct 115, 2, .inr (.inr (.inr (.inr (fun _ => none)))))) :: ((((((((((WT ++ WL) ++ WM) ++ WV) ++ WS) ++ WU) ++ WA) ++ WQ) ++ WR) ++ WB) ++ zw adi0 ct zBG (zPM 640))) H := hP
  have hD : va_D A ((h0, .inr (10, [.ref qT, .ref qV, .ref qS, .ref qU, .ref qA, .ref qB, .ref qi, .null, .null, .null, .null, .ref qL, .ref qQ, .ref qM, .ref qR, .int 0, .int 0, .int 0])) :: (qi, .inl (ct 115, 2, .inr (.inr (.inr (.inr (fun _ => none)))))) :: ((((((((((WT ++ WL) ++ WM) ++ WV) ++ WS) ++ WU) ++ WA) ++ WQ) ++ WR) ++ WB) ++ zw adi0 ct zBG (zPM 640))) := hD
  obtain ⟨n0, hn0⟩ := List.mem_iff_getElem?.mp (show (zcell adi0 ct zBG (640, 5, 0)) ∈ (h0, .inr (10, [.ref qT, .ref qV, .ref qS, .ref qU, .ref qA, .ref qB, .ref qi, .null, .null, .null, .null, .ref qL, .ref qQ, .ref qM, .ref qR, .int 0, .int 0, .int 0])) :: (qi, .inl (ct 115, 2, .inr (.inr (.inr (.inr (fun _ => none)))))) :: ((((((((((WT ++ WL) ++ WM) ++ WV) ++ WS) ++ WU) ++ WA) ++ WQ) ++ WR) ++ WB) ++ zw adi0 ct zBG (zPM 640)) from List.mem_cons_of_mem _ (List.mem_cons_of_mem _ (List.mem_append_right _ List.mem_cons_self)))
  refine va_astq (r := (RX5, TX5, 4)) (i := 0) hx hb hK hP hD hS 1 4 n0 5 rfl rfl (by rw [← hadi0]; exact hn0) rfl (by unfold vp_in; decide +kernel) dK10_153 (fun H locs hP hD hS => ?_)
  have hP : va_P D vwCl ((h0, .inr (10, [.ref qT, .ref qV, .ref qS, .ref qU, .ref qA, .ref qB, .ref qi, .null, .null, .null, .null, .ref qL, .ref qQ, .ref qM, .ref qR, .int 0, .int 0, .int 0])) :: (qi, .inl (ct 115, 2, .inr (.inr (.inr (.inr (va_up (fun _ => none) (Int32.toNatClampNeg 0) (some qi0))))))) :: ((((((((((WT ++ WL) ++ WM) ++ WV) ++ WS) ++ WU) ++ WA) ++ WQ) ++ WR) ++ WB) ++ zw adi0 ct zBG (zPM 640))) H := hP
  have hD : va_D A ((h0, .inr (10, [.ref qT, .ref qV, .ref qS, .ref qU, .ref qA, .ref qB, .ref qi, .null, .null, .null, .null, .ref qL, .ref qQ, .ref qM, .ref qR, .int 0, .int 0, .int 0])) :: (qi, .inl (ct 115, 2, .inr (.inr (.inr (.inr (va_up (fun _ => none) (Int32.toNatClampNeg 0) (some qi0))))))) :: ((((((((((WT ++ WL) ++ WM) ++ WV) ++ WS) ++ WU) ++ WA) ++ WQ) ++ WR) ++ WB) ++ zw adi0 ct zBG (zPM 640))) := hD
  clear hn0
  generalize hWi0 : zw adi0 ct zBG (zPM 640) = Wi0 at hP hD
  refine lv_iinc (v := 1) (lv' := [(1, .int 1), (0, .ref h0)]) hx hb dK10_154 hl (k := 0) rfl (by decide +kernel) (by decide) rfl (fun ls hl => ?_)
  refine lv_goto (tgt := 136) hx hb dK10_157 (by decide) ?_
  refine lv_iload_n hx hb dK10_136 rfl (lv_at hl 0 rfl) ?_
  refine lv_iconst (v := 2) hx hb dK10_137 (by decide) ?_
  refine lv_icmp_ge (tgt := 160) hx hb dK10_138 (by decide) (fun hc => absurd hc (by decide +kernel)) (fun _ => ?_)
  refine lv_aload_n hx hb dK10_141 rfl (lv_at hl 1 rfl) ?_
  refine va_get (D := D) (ci := 10) (v := .ref qi) (C := RX10) (T := TX10) (N := 18) hx hb hts zcw10 C0.2.2.2.1 hK hP 0 rfl rfl 6 (by decide) (hts _ (tm2 206 rfl rfl)) (fun _ h9 => h9) rfl dK10_142 ?_
  refine lv_iload_n hx hb dK10_145 rfl (lv_at hl 0 rfl) ?_
  refine kNew (ci := 5) (N := 4) (fs := [.null, .null, .null, .int 0]) C0 hP hD hS tyX5 zcw5 tyX5_ok (tm2 156 rfl rfl) (tm2 158 rfl rfl) zin_5 rfl (by decide +kernel) (Nat.le_of_ble_eq_true rfl) (Nat.le_of_ble_eq_true rfl) dK10_146 dK10_149 (fun qi1 H hP hD hS => ?_)
  refine kCallN (ws := (h0, .inr (10, [.ref qT, .ref qV, .ref qS, .ref qU, .ref qA, .ref qB, .ref qi, .null, .null, .null, .null, .ref qL, .ref qQ, .ref qM, .ref qR, .int 0, .int 0, .int 0])) :: (qi, .inl (ct 115, 2, .inr (.inr (.inr (.inr (va_up (fun _ => none) (Int32.toNatClampNeg 0) (some qi0))))))) :: ((((((((((WT ++ WL) ++ WM) ++ WV) ++ WS) ++ WU) ++ WA) ++ WQ) ++ WR) ++ WB) ++ Wi0)) (as := []) (n := 0) (rest := [.ref qi1, .int 1, .ref qi]) C0 (kc_5 (k := 896) (zBG_z (by decide) (by decide)) (zBG_p (zrngK1) (by decide) (by decide) (by decide) (by decide)) (zBG_p (zrngK7) (by decide) (by decide) (by decide) (by decide)) (by decide) rfl) hP hD hS zmoK5 rfl rfl rfl rfl (List.mem_of_getElem? (i := 5) rfl) (tm2 160 rfl rfl) znpK5 rfl hl.1 ⟨Nat.le_of_ble_eq_true rfl, Nat.le_of_ble_eq_true rfl⟩ (Nat.le_of_ble_eq_true rfl) ⟨Nat.le_of_ble_eq_true rfl, Nat.le_of_ble_eq_true rfl⟩ dK10_150 rfl (fun adi1 H locs hadi1 hP hD hS => ?_)
  have hP : va_P D vwCl ((h0, .inr (10, [.ref qT, .ref qV, .ref qS, .ref qU, .ref qA, .ref qB, .ref qi, .null, .null, .null, .null, .ref qL, .ref qQ, .ref qM, .ref qR, .int 0, .int 0, .int 0])) :: (qi, .inl (ct 115, 2, .inr (.inr (.inr (.inr (va_up (fun _ => none) (Int32.toNatClampNeg 0) (some qi0))))))) :: (((((((((((WT ++ WL) ++ WM) ++ WV) ++ WS) ++ WU) ++ WA) ++ WQ) ++ WR) ++ WB) ++ Wi0) ++ zw adi1 ct zBG (zPM 896))) H := hP
  have hD : va_D A ((h0, .inr (10, [.ref qT, .ref qV, .ref qS, .ref qU, .ref qA, .ref qB, .ref qi, .null, .null, .null, .null, .ref qL, .ref qQ, .ref qM, .ref qR, .int 0, .int 0, .int 0])) :: (qi, .inl (ct 115, 2, .inr (.inr (.inr (.inr (va_up (fun _ => none) (Int32.toNatClampNeg 0) (some qi0))))))) :: (((((((((((WT ++ WL) ++ WM) ++ WV) ++ WS) ++ WU) ++ WA) ++ WQ) ++ WR) ++ WB) ++ Wi0) ++ zw adi1 ct zBG (zPM 896))) := hD
  obtain ⟨n1, hn1⟩ := List.mem_iff_getElem?.mp (show (zcell adi1 ct zBG (896, 5, 0)) ∈ (h0, .inr (10, [.ref qT, .ref qV, .ref qS, .ref qU, .ref qA, .ref qB, .ref qi, .null, .null, .null, .null, .ref qL, .ref qQ, .ref qM, .ref qR, .int 0, .int 0, .int 0])) :: (qi, .inl (ct 115, 2, .inr (.inr (.inr (.inr (va_up (fun _ => none) (Int32.toNatClampNeg 0) (some qi0))))))) :: (((((((((((WT ++ WL) ++ WM) ++ WV) ++ WS) ++ WU) ++ WA) ++ WQ) ++ WR) ++ WB) ++ Wi0) ++ zw adi1 ct zBG (zPM 896)) from List.mem_cons_of_mem _ (List.mem_cons_of_mem _ (List.mem_append_right _ List.mem_cons_self)))
  refine va_astq (r := (RX5, TX5, 4)) (i := 1) hx hb hK hP hD hS 1 4 n1 5 rfl rfl (by rw [← hadi1]; exact hn1) rfl (by unfold vp_in; decide +kernel) dK10_153 (fun H locs hP hD hS => ?_)
  have hP : va_P D vwCl ((h0, .inr (10, [.ref qT, .ref qV, .ref qS, .ref qU, .ref qA, .ref qB, .ref qi, .null, .null, .null, .null, .ref qL, .ref qQ, .ref qM, .ref qR, .int 0, .int 0, .int 0])) :: (qi, .inl (ct 115, 2, .inr (.inr (.inr (.inr (va_up (va_up (fun _ => none) (Int32.toNatClampNeg 0) (some qi0)) (Int32.toNatClampNeg 1) (some qi1))))))) :: (((((((((((WT ++ WL) ++ WM) ++ WV) ++ WS) ++ WU) ++ WA) ++ WQ) ++ WR) ++ WB) ++ Wi0) ++ zw adi1 ct zBG (zPM 896))) H := hP
  have hD : va_D A ((h0, .inr (10, [.ref qT, .ref qV, .ref qS, .ref qU, .ref qA, .ref qB, .ref qi, .null, .null, .null, .null, .ref qL, .ref qQ, .ref qM, .ref qR, .int 0, .int 0, .int 0])) :: (qi, .inl (ct 115, 2, .inr (.inr (.inr (.inr (va_up (va_up (fun _ => none) (Int32.toNatClampNeg 0) (some qi0)) (Int32.toNatClampNeg 1) (some qi1))))))) :: (((((((((((WT ++ WL) ++ WM) ++ WV) ++ WS) ++ WU) ++ WA) ++ WQ) ++ WR) ++ WB) ++ Wi0) ++ zw adi1 ct zBG (zPM 896))) := hD
  clear hn1
  generalize hWi1 : zw adi1 ct zBG (zPM 896) = Wi1 at hP hD
  refine lv_iinc (v := 2) (lv' := [(1, .int 2), (0, .ref h0)]) hx hb dK10_154 hl (k := 0) rfl (by decide +kernel) (by decide) rfl (fun ls hl => ?_)
  refine lv_goto (tgt := 136) hx hb dK10_157 (by decide) ?_
  refine lv_iload_n hx hb dK10_136 rfl (lv_at hl 0 rfl) ?_
  refine lv_iconst (v := 2) hx hb dK10_137 (by decide) ?_
  refine lv_icmp_ge (tgt := 160) hx hb dK10_138 (by decide) (fun _ => ?_) (fun hc => absurd (by decide +kernel) hc)
  have hl : lv_has ls 2 [(0, .ref h0)] := lv_sub hl [1] rfl
  refine lv_aload_n hx hb dK10_160 rfl (lv_at hl 0 rfl) ?_
  refine kNew (ci := 4) (N := 2) (fs := [.int 0, .int 0]) C0 hP hD hS tyX4 zcw4 tyX4_ok (tm2 185 rfl rfl) (tm2 186 rfl rfl) zin_4 rfl (by decide +kernel) (Nat.le_of_ble_eq_true rfl) (Nat.le_of_ble_eq_true rfl) dK10_161 dK10_164 (fun qD H hP hD hS => ?_)
  refine kCallN (ws := (h0, .inr (10, [.ref qT, .ref qV, .ref qS, .ref qU, .ref qA, .ref qB, .ref qi, .null, .null, .null, .null, .ref qL, .ref qQ, .ref qM, .ref qR, .int 0, .int 0, .int 0])) :: ((qi, .inl (ct 115, 2, .inr (.inr (.inr (.inr (va_up (va_up (fun _ => none) (Int32.toNatClampNeg 0) (some qi0)) (Int32.toNatClampNeg 1) (some qi1))))))) :: (((((((((((WT ++ WL) ++ WM) ++ WV) ++ WS) ++ WU) ++ WA) ++ WQ) ++ WR) ++ WB) ++ Wi0) ++ Wi1))) (as := []) (n := 0) (rest := [.ref qD, .ref h0]) C0 (kc_4 (k := 352) (zBG_p (zrngK4) (by decide) (by decide) (by decide) (by decide))) hP hD hS zmoK4 rfl rfl rfl rfl (List.mem_of_getElem? (i := 4) rfl) (tm2 188 rfl rfl) znpK4 rfl hl.1 ⟨Nat.le_of_ble_eq_true rfl, Nat.le_of_ble_eq_true rfl⟩ (Nat.le_of_ble_eq_true rfl) ⟨Nat.le_of_ble_eq_true rfl, Nat.le_of_ble_eq_true rfl⟩ dK10_165 rfl (fun adD H locs hadD hP hD hS => ?_)
  refine kPut C0 hP hD hS 0 tyX10 zcw10 tyX10_ok nmX10 rfl (fs := [.ref qT, .ref qV, .ref qS, .ref qU, .ref qA, .ref qB, .ref qi, .null, .null, .null, .null, .ref qL, .ref qQ, .ref qM, .ref qR, .int 0, .int 0, .int 0]) rfl (k := 7) (by decide) (tm2 207 rfl rfl) rfl rfl rfl rfl (Nat.le_of_ble_eq_true rfl) dK10_168 (fun H locs hP hD hS => ?_)
  have hP : va_P D vwCl ((h0, .inr (10, [.ref qT, .ref qV, .ref qS, .ref qU, .ref qA, .ref qB, .ref qi, .ref qD, .null, .null, .null, .ref qL, .ref qQ, .ref qM, .ref qR, .int 0, .int 0, .int 0])) :: (((qi, .inl (ct 115, 2, .inr (.inr (.inr (.inr (va_up (va_up (fun _ => none) (Int32.toNatClampNeg 0) (some qi0)) (Int32.toNatClampNeg 1) (some qi1))))))) :: (((((((((((WT ++ WL) ++ WM) ++ WV) ++ WS) ++ WU) ++ WA) ++ WQ) ++ WR) ++ WB) ++ Wi0) ++ Wi1)) ++ zw adD ct zBG (zPI 352))) H := hP
  have hD : va_D A ((h0, .inr (10, [.ref qT, .ref qV, .ref qS, .ref qU, .ref qA, .ref qB, .ref qi, .ref qD, .null, .null, .null, .ref qL, .ref qQ, .ref qM, .ref qR, .int 0, .int 0, .int 0])) :: (((qi, .inl (ct 115, 2, .inr (.inr (.inr (.inr (va_up (va_up (fun _ => none) (Int32.toNatClampNeg 0) (some qi0)) (Int32.toNatClampNeg 1) (some qi1))))))) :: (((((((((((WT ++ WL) ++ WM) ++ WV) ++ WS) ++ WU) ++ WA) ++ WQ) ++ WR) ++ WB) ++ Wi0) ++ Wi1)) ++ zw adD ct zBG (zPI 352))) := hD
  generalize hWD : zw adD ct zBG (zPI 352) = WD at hP hD
  refine lv_aload_n hx hb dK10_171 rfl (lv_at hl 0 rfl) ?_
  refine lv_bipush (v := 10) hx hb dK10_172 (by decide) ?_
  refine kArr (atype := .int) (ty := .int) (R := { frames := 6, cells := 204, slots := 5748, locals := 300 }) (a0 := (10, .inl (fun _ => Int32.ofInt 0))) (N' := 10) C0 hP hD hS 100 rfl (w := 0) rfl (tm1 82 rfl rfl) (fun _ => rfl) (by decide +kernel) (by decide +kernel) (Nat.le_of_ble_eq_true rfl) tyX10 zcw10 tyX10_ok nmX10 rfl (k := 8) (by decide) (tm2 208 rfl rfl) rfl rfl (fun _ => rfl) (fun _ => rfl) (Nat.le_of_ble_eq_true rfl) (Nat.le_of_ble_eq_true rfl) (Nat.le_of_ble_eq_true rfl) dK10_174 dK10_176 (fun q0 H locs hP hD hS => ?_)
  have hP : va_P D vwCl ((h0, .inr (10, [.ref qT, .ref qV, .ref qS, .ref qU, .ref qA, .ref qB, .ref qi, .ref qD, .ref q0, .null, .null, .ref qL, .ref qQ, .ref qM, .ref qR, .int 0, .int 0, .int 0])) :: ((((qi, .inl (ct 115, 2, .inr (.inr (.inr (.inr (va_up (va_up (fun _ => none) (Int32.toNatClampNeg 0) (some qi0)) (Int32.toNatClampNeg 1) (some qi1))))))) :: (((((((((((WT ++ WL) ++ WM) ++ WV) ++ WS) ++ WU) ++ WA) ++ WQ) ++ WR) ++ WB) ++ Wi0) ++ Wi1)) ++ WD) ++ [(q0, (.inl (ct 100, 10, .inl (fun _ => Int32.ofInt 0)) : va_E))])) H := hP
  have hD : va_D A ((h0, .inr (10, [.ref qT, .ref qV, .ref qS, .ref qU, .ref qA, .ref qB, .ref qi, .ref qD, .ref q0, .null, .null, .ref qL, .ref qQ, .ref qM, .ref qR, .int 0, .int 0, .int 0])) :: ((((qi, .inl (ct 115, 2, .inr (.inr (.inr (.inr (va_up (va_up (fun _ => none) (Int32.toNatClampNeg 0) (some qi0)) (Int32.toNatClampNeg 1) (some qi1))))))) :: (((((((((((WT ++ WL) ++ WM) ++ WV) ++ WS) ++ WU) ++ WA) ++ WQ) ++ WR) ++ WB) ++ Wi0) ++ Wi1)) ++ WD) ++ [(q0, (.inl (ct 100, 10, .inl (fun _ => Int32.ofInt 0)) : va_E))])) := hD
  refine lv_aload_n hx hb dK10_179 rfl (lv_at hl 0 rfl) ?_
  refine lv_bipush (v := 15) hx hb dK10_180 (by decide) ?_
  refine kArr (atype := .int) (ty := .int) (R := { frames := 6, cells := 204, slots := 5748, locals := 300 }) (a0 := (15, .inl (fun _ => Int32.ofInt 0))) (N' := 15) C0 hP hD hS 100 rfl (w := 0) rfl (tm1 82 rfl rfl) (fun _ => rfl) (by decide +kernel) (by decide +kernel) (Nat.le_of_ble_eq_true rfl) tyX10 zcw10 tyX10_ok nmX10 rfl (k := 9) (by decide) (tm2 209 rfl rfl) rfl rfl (fun _ => rfl) (fun _ => rfl) (Nat.le_of_ble_eq_true rfl) (Nat.le_of_ble_eq_true rfl) (Nat.le_of_ble_eq_true rfl) dK10_182 dK10_184 (fun q1 H locs hP hD hS => ?_)
  have hP : va_P D vwCl ((h0, .inr (10, [.ref qT, .ref qV, .ref qS, .ref qU, .ref qA, .ref qB, .ref qi, .ref qD, .ref q0, .ref q1, .null, .ref qL, .ref qQ, .ref qM, .ref qR, .int 0, .int 0, .int 0])) :: (((((qi, .inl (ct 115, 2, .inr (.inr (.inr (.inr (va_up (va_up (fun _ => none) (Int32.toNatClampNeg 0) (some qi0)) (Int32.toNatClampNeg 1) (some qi1))))))) :: (((((((((((WT ++ WL) ++ WM) ++ WV) ++ WS) ++ WU) ++ WA) ++ WQ) ++ WR) ++ WB) ++ Wi0) ++ Wi1)) ++ WD) ++ [(q0, (.inl (ct 100, 10, .inl (fun _ => Int32.ofInt 0)) : va_E))]) ++ [(q1, (.inl (ct 100, 15, .inl (fun _ => Int32.ofInt 0)) : va_E))])) H := hP
  have hD : va_D A ((h0, .inr (10, [.ref qT, .ref qV, .ref qS, .ref qU, .ref qA, .ref qB, .ref qi, .ref qD, .ref q0, .ref q1, .null, .ref qL, .ref qQ, .ref qM, .ref qR, .int 0, .int 0, .int 0])) :: (((((qi, .inl (ct 115, 2, .inr (.inr (.inr (.inr (va_up (va_up (fun _ => none) (Int32.toNatClampNeg 0) (some qi0)) (Int32.toNatClampNeg 1) (some qi1))))))) :: (((((((((((WT ++ WL) ++ WM) ++ WV) ++ WS) ++ WU) ++ WA) ++ WQ) ++ WR) ++ WB) ++ Wi0) ++ Wi1)) ++ WD) ++ [(q0, (.inl (ct 100, 10, .inl (fun _ => Int32.ofInt 0)) : va_E))]) ++ [(q1, (.inl (ct 100, 15, .inl (fun _ => Int32.ofInt 0)) : va_E))])) := hD
  refine lv_aload_n hx hb dK10_187 rfl (lv_at hl 0 rfl) ?_
  refine lv_sipush (v := 384) hx hb dK10_188 (by decide) ?_
  refine kArr (atype := .int) (ty := .int) (R := { frames := 6, cells := 204, slots := 5748, locals := 300 }) (a0 := (384, .inl (fun _ => Int32.ofInt 0))) (N' := 384) C0 hP hD hS 100 rfl (w := 0) rfl (tm1 82 rfl rfl) (fun _ => rfl) (by decide +kernel) (by decide +kernel) (Nat.le_of_ble_eq_true rfl) tyX10 zcw10 tyX10_ok nmX10 rfl (k := 10) (by decide) (tm2 210 rfl rfl) rfl rfl (fun _ => rfl) (fun _ => rfl) (Nat.le_of_ble_eq_true rfl) (Nat.le_of_ble_eq_true rfl) (Nat.le_of_ble_eq_true rfl) dK10_191 dK10_193 (fun q2 H locs hP hD hS => ?_)
  have hP : va_P D vwCl ((h0, .inr (10, [.ref qT, .ref qV, .ref qS, .ref qU, .ref qA, .ref qB, .ref qi, .ref qD, .ref q0, .ref q1, .ref q2, .ref qL, .ref qQ, .ref qM, .ref qR, .int 0, .int 0, .int 0])) :: ((((((qi, .inl (ct 115, 2, .inr (.inr (.inr (.inr (va_up (va_up (fun _ => none) (Int32.toNatClampNeg 0) (some qi0)) (Int32.toNatClampNeg 1) (some qi1))))))) :: (((((((((((WT ++ WL) ++ WM) ++ WV) ++ WS) ++ WU) ++ WA) ++ WQ) ++ WR) ++ WB) ++ Wi0) ++ Wi1)) ++ WD) ++ [(q0, (.inl (ct 100, 10, .inl (fun _ => Int32.ofInt 0)) : va_E))]) ++ [(q1, (.inl (ct 100, 15, .inl (fun _ => Int32.ofInt 0)) : va_E))]) ++ [(q2, (.inl (ct 100, 384, .inl (fun _ => Int32.ofInt 0)) : va_E))])) H := hP
  have hD : va_D A ((h0, .inr (10, [.ref qT, .ref qV, .ref qS, .ref qU, .ref qA, .ref qB, .ref qi, .ref qD, .ref q0, .ref q1, .ref q2, .ref qL, .ref qQ, .ref qM, .ref qR, .int 0, .int 0, .int 0])) :: ((((((qi, .inl (ct 115, 2, .inr (.inr (.inr (.inr (va_up (va_up (fun _ => none) (Int32.toNatClampNeg 0) (some qi0)) (Int32.toNatClampNeg 1) (some qi1))))))) :: (((((((((((WT ++ WL) ++ WM) ++ WV) ++ WS) ++ WU) ++ WA) ++ WQ) ++ WR) ++ WB) ++ Wi0) ++ Wi1)) ++ WD) ++ [(q0, (.inl (ct 100, 10, .inl (fun _ => Int32.ofInt 0)) : va_E))]) ++ [(q1, (.inl (ct 100, 15, .inl (fun _ => Int32.ofInt 0)) : va_E))]) ++ [(q2, (.inl (ct 100, 384, .inl (fun _ => Int32.ofInt 0)) : va_E))])) := hD
  refine lv_aload_n hx hb dK10_196 rfl (lv_at hl 0 rfl) ?_
  refine lv_iconst (v := 0) hx hb dK10_197 (by decide) ?_
  refine kPutV C0 hP hD hS 0 tyX10 zcw10 tyX10_ok nmX10 rfl (fs := [.ref qT, .ref qV, .ref qS, .ref qU, .ref qA, .ref qB, .ref qi, .ref qD, .ref q0, .ref q1, .ref q2, .ref qL, .ref qQ, .ref qM, .ref qR, .int 0, .int 0, .int 0]) rfl (k := 15) (by decide) (tm2 215 rfl rfl) rfl rfl rfl (Nat.le_of_ble_eq_true rfl) dK10_198 (fun H locs hP hD hS => ?_)
  have hP : va_P D vwCl ((h0, .inr (10, [.ref qT, .ref qV, .ref qS, .ref qU, .ref qA, .ref qB, .ref qi, .ref qD, .ref q0, .ref q1, .ref q2, .ref qL, .ref qQ, .ref qM, .ref qR, .int 0, .int 0, .int 0])) :: ((((((qi, .inl (ct 115, 2, .inr (.inr (.inr (.inr (va_up (va_up (fun _ => none) (Int32.toNatClampNeg 0) (some qi0)) (Int32.toNatClampNeg 1) (some qi1))))))) :: (((((((((((WT ++ WL) ++ WM) ++ WV) ++ WS) ++ WU) ++ WA) ++ WQ) ++ WR) ++ WB) ++ Wi0) ++ Wi1)) ++ WD) ++ [(q0, (.inl (ct 100, 10, .inl (fun _ => Int32.ofInt 0)) : va_E))]) ++ [(q1, (.inl (ct 100, 15, .inl (fun _ => Int32.ofInt 0)) : va_E))]) ++ [(q2, (.inl (ct 100, 384, .inl (fun _ => Int32.ofInt 0)) : va_E))])) H := hP
  have hD : va_D A ((h0, .inr (10, [.ref qT, .ref qV, .ref qS, .ref qU, .ref qA, .ref qB, .ref qi, .ref qD, .ref q0, .ref q1, .ref q2, .ref qL, .ref qQ, .ref qM, .ref qR, .int 0, .int 0, .int 0])) :: ((((((qi, .inl (ct 115, 2, .inr (.inr (.inr (.inr (va_up (va_up (fun _ => none) (Int32.toNatClampNeg 0) (some qi0)) (Int32.toNatClampNeg 1) (some qi1))))))) :: (((((((((((WT ++ WL) ++ WM) ++ WV) ++ WS) ++ WU) ++ WA) ++ WQ) ++ WR) ++ WB) ++ Wi0) ++ Wi1)) ++ WD) ++ [(q0, (.inl (ct 100, 10, .inl (fun _ => Int32.ofInt 0)) : va_E))]) ++ [(q1, (.inl (ct 100, 15, .inl (fun _ => Int32.ofInt 0)) : va_E))]) ++ [(q2, (.inl (ct 100, 384, .inl (fun _ => Int32.ofInt 0)) : va_E))])) := hD
  refine lv_aload_n hx hb dK10_201 rfl (lv_at hl 0 rfl) ?_
  refine lv_iconst (v := -1) hx hb dK10_202 (by decide) ?_
  refine kPutV C0 hP hD hS 0 tyX10 zcw10 tyX10_ok nmX10 rfl (fs := [.ref qT, .ref qV, .ref qS, .ref qU, .ref qA, .ref qB, .ref qi, .ref qD, .ref q0, .ref q1, .ref q2, .ref qL, .ref qQ, .ref qM, .ref qR, .int 0, .int 0, .int 0]) rfl (k := 16) (by decide) (tm2 216 rfl rfl) rfl rfl rfl (Nat.le_of_ble_eq_true rfl) dK10_203 (fun H locs hP hD hS => ?_)
  have hP : va_P D vwCl ((h0, .inr (10, [.ref qT, .ref qV, .ref qS, .ref qU, .ref qA, .ref qB, .ref qi, .ref qD, .ref q0, .ref q1, .ref q2, .ref qL, .ref qQ, .ref qM, .ref qR, .int 0, .int (-1), .int 0])) :: ((((((qi, .inl (ct 115, 2, .inr (.inr (.inr (.inr (va_up (va_up (fun _ => none) (Int32.toNatClampNeg 0) (some qi0)) (Int32.toNatClampNeg 1) (some qi1))))))) :: (((((((((((WT ++ WL) ++ WM) ++ WV) ++ WS) ++ WU) ++ WA) ++ WQ) ++ WR) ++ WB) ++ Wi0) ++ Wi1)) ++ WD) ++ [(q0, (.inl (ct 100, 10, .inl (fun _ => Int32.ofInt 0)) : va_E))]) ++ [(q1, (.inl (ct 100, 15, .inl (fun _ => Int32.ofInt 0)) : va_E))]) ++ [(q2, (.inl (ct 100, 384, .inl (fun _ => Int32.ofInt 0)) : va_E))])) H := hP
  have hD : va_D A ((h0, .inr (10, [.ref qT, .ref qV, .ref qS, .ref qU, .ref qA, .ref qB, .ref qi, .ref qD, .ref q0, .ref q1, .ref q2, .ref qL, .ref qQ, .ref qM, .ref qR, .int 0, .int (-1), .int 0])) :: ((((((qi, .inl (ct 115, 2, .inr (.inr (.inr (.inr (va_up (va_up (fun _ => none) (Int32.toNatClampNeg 0) (some qi0)) (Int32.toNatClampNeg 1) (some qi1))))))) :: (((((((((((WT ++ WL) ++ WM) ++ WV) ++ WS) ++ WU) ++ WA) ++ WQ) ++ WR) ++ WB) ++ Wi0) ++ Wi1)) ++ WD) ++ [(q0, (.inl (ct 100, 10, .inl (fun _ => Int32.ofInt 0)) : va_E))]) ++ [(q1, (.inl (ct 100, 15, .inl (fun _ => Int32.ofInt 0)) : va_E))]) ++ [(q2, (.inl (ct 100, 384, .inl (fun _ => Int32.ofInt 0)) : va_E))])) := hD
  refine lv_aload_n hx hb dK10_206 rfl (lv_at hl 0 rfl) ?_
  refine lv_iconst (v := 0) hx hb dK10_207 (by decide) ?_
  refine kPutV C0 hP hD hS 0 tyX10 zcw10 tyX10_ok nmX10 rfl (fs := [.ref qT, .ref qV, .ref qS, .ref qU, .ref qA, .ref qB, .ref qi, .ref qD, .ref q0, .ref q1, .ref q2, .ref qL, .ref qQ, .ref qM, .ref qR, .int 0, .int (-1), .int 0]) rfl (k := 17) (by decide) (tm2 217 rfl rfl) rfl rfl rfl (Nat.le_of_ble_eq_true rfl) dK10_208 (fun H locs hP hD hS => ?_)
  have hP : va_P D vwCl ((h0, .inr (10, [.ref qT, .ref qV, .ref qS, .ref qU, .ref qA, .ref qB, .ref qi, .ref qD, .ref q0, .ref q1, .ref q2, .ref qL, .ref qQ, .ref qM, .ref qR, .int 0, .int (-1), .int 0])) :: ((((((qi, .inl (ct 115, 2, .inr (.inr (.inr (.inr (va_up (va_up (fun _ => none) (Int32.toNatClampNeg 0) (some qi0)) (Int32.toNatClampNeg 1) (some qi1))))))) :: (((((((((((WT ++ WL) ++ WM) ++ WV) ++ WS) ++ WU) ++ WA) ++ WQ) ++ WR) ++ WB) ++ Wi0) ++ Wi1)) ++ WD) ++ [(q0, (.inl (ct 100, 10, .inl (fun _ => Int32.ofInt 0)) : va_E))]) ++ [(q1, (.inl (ct 100, 15, .inl (fun _ => Int32.ofInt 0)) : va_E))]) ++ [(q2, (.inl (ct 100, 384, .inl (fun _ => Int32.ofInt 0)) : va_E))])) H := hP
  have hD : va_D A ((h0, .inr (10, [.ref qT, .ref qV, .ref qS, .ref qU, .ref qA, .ref qB, .ref qi, .ref qD, .ref q0, .ref q1, .ref q2, .ref qL, .ref qQ, .ref qM, .ref qR, .int 0, .int (-1), .int 0])) :: ((((((qi, .inl (ct 115, 2, .inr (.inr (.inr (.inr (va_up (va_up (fun _ => none) (Int32.toNatClampNeg 0) (some qi0)) (Int32.toNatClampNeg 1) (some qi1))))))) :: (((((((((((WT ++ WL) ++ WM) ++ WV) ++ WS) ++ WU) ++ WA) ++ WQ) ++ WR) ++ WB) ++ Wi0) ++ Wi1)) ++ WD) ++ [(q0, (.inl (ct 100, 10, .inl (fun _ => Int32.ofInt 0)) : va_E))]) ++ [(q1, (.inl (ct 100, 15, .inl (fun _ => Int32.ofInt 0)) : va_E))]) ++ [(q2, (.inl (ct 100, 384, .inl (fun _ => Int32.ofInt 0)) : va_E))])) := hD
  have hP : va_P D vwCl ((h0, .inr (10, [.ref qT, .ref qV, .ref qS, .ref qU, .ref qA, .ref qB, .ref qi, .ref qD, .ref q0, .ref q1, .ref q2, .ref qL, .ref qQ, .ref qM, .ref qR, .int 0, .int (-1), .int 0])) :: (qi, .inl (ct 115, 2, .inr (.inr (.inr (.inr (va_up (va_up (fun _ => none) (Int32.toNatClampNeg 0) (some qi0)) (Int32.toNatClampNeg 1) (some qi1))))))) :: (((((((((((((((WT ++ WL) ++ WM) ++ WV) ++ WS) ++ WU) ++ WA) ++ WQ) ++ WR) ++ WB) ++ Wi0) ++ Wi1) ++ WD) ++ [(q0, (.inl (ct 100, 10, .inl (fun _ => Int32.ofInt 0)) : va_E))]) ++ [(q1, (.inl (ct 100, 15, .inl (fun _ => Int32.ofInt 0)) : va_E))]) ++ [(q2, (.inl (ct 100, 384, .inl (fun _ => Int32.ofInt 0)) : va_E))])) H := hP
  have hD : va_D A ((h0, .inr (10, [.ref qT, .ref qV, .ref qS, .ref qU, .ref qA, .ref qB, .ref qi, .ref qD, .ref q0, .ref q1, .ref q2, .ref qL, .ref qQ, .ref qM, .ref qR, .int 0, .int (-1), .int 0])) :: (qi, .inl (ct 115, 2, .inr (.inr (.inr (.inr (va_up (va_up (fun _ => none) (Int32.toNatClampNeg 0) (some qi0)) (Int32.toNatClampNeg 1) (some qi1))))))) :: (((((((((((((((WT ++ WL) ++ WM) ++ WV) ++ WS) ++ WU) ++ WA) ++ WQ) ++ WR) ++ WB) ++ Wi0) ++ Wi1) ++ WD) ++ [(q0, (.inl (ct 100, 10, .inl (fun _ => Int32.ofInt 0)) : va_E))]) ++ [(q1, (.inl (ct 100, 15, .inl (fun _ => Int32.ofInt 0)) : va_E))]) ++ [(q2, (.inl (ct 100, 384, .inl (fun _ => Int32.ofInt 0)) : va_E))])) := hD
  obtain ⟨ad, a0, a7, a9, a10, a11, a32, bT, bS, bU, bA, bB, bD, bL, bM, bQ, bR, bi0, bi1⟩ : ∃ ad : Nat → Nat, ad 0 = h0 ∧ ad 7 = qi ∧ ad 9 = q0 ∧ ad 10 = q1 ∧ ad 11 = q2 ∧ ad 32 = qV ∧ (∀ j, 64 ≤ j → j < 64 + 12 → ad j = adT j) ∧ (∀ j, 96 ≤ j → j < 96 + 17 → ad j = adS j) ∧ (∀ j, 128 ≤ j → j < 128 + 17 → ad j = adU j) ∧ (∀ j, 160 ≤ j → j < 160 + 160 → ad j = adA j) ∧ (∀ j, 320 ≤ j → j < 320 + 10 → ad j = adB j) ∧ (∀ j, 352 ≤ j → j < 352 + 3 → ad j = adD j) ∧ (∀ j, 384 ≤ j → j < 384 + 64 → ad j = adL j) ∧ (∀ j, 448 ≤ j → j < 448 + 64 → ad j = adM j) ∧ (∀ j, 512 ≤ j → j < 512 + 6 → ad j = adQ j) ∧ (∀ j, 544 ≤ j → j < 544 + 6 → ad j = adR j) ∧ (∀ j, 640 ≤ j → j < 640 + 256 → ad j = adi0 j) ∧ (∀ j, 896 ≤ j → j < 896 + 256 → ad j = adi1 j) := ⟨fun j => if j = 0 then h0 else if j = 7 then qi else if j = 9 then q0 else if j = 10 then q1 else if j = 11 then q2 else if j = 32 then qV else if j < 96 then adT j else if j < 128 then adS j else if j < 160 then adU j else if j < 320 then adA j else if j < 352 then adB j else if j < 384 then adD j else if j < 448 then adL j else if j < 512 then adM j else if j < 544 then adQ j else if j < 640 then adR j else if j < 896 then adi0 j else adi1 j, rfl, rfl, rfl, rfl, rfl, rfl, fun j h1 h2 => by dsimp only; rw [if_neg (by omega), if_neg (by omega), if_neg (by omega), if_neg (by omega), if_neg (by omega), if_neg (by omega), if_pos (by omega)], fun j h1 h2 => by dsimp only; rw [if_neg (by omega), if_neg (by omega), if_neg (by omega), if_neg (by omega), if_neg (by omega), if_neg (by omega), if_neg (by omega), if_pos (by omega)], fun j h1 h2 => by dsimp only; rw [if_neg (by omega), if_neg (by omega), if_neg (by omega), if_neg (by omega), if_neg (by omega), if_neg (by omega), if_neg (by omega), if_neg (by omega), if_pos (by omega)], fun j h1 h2 => by dsimp only; rw [if_neg (by omega), if_neg (by omega), if_neg (by omega), if_neg (by omega), if_neg (by omega), if_neg (by omega), if_neg (by omega), if_neg (by omega), if_neg (by omega), if_pos (by omega)], fun j h1 h2 => by dsimp only; rw [if_neg (by omega), if_neg (by omega), if_neg (by omega), if_neg (by omega), if_neg (by omega), if_neg (by omega), if_neg (by omega), if_neg (by omega), if_neg (by omega), if_neg (by omega), if_pos (by omega)], fun j h1 h2 => by dsimp only; rw [if_neg (by omega), if_neg (by omega), if_neg (by omega), if_neg (by omega), if_neg (by omega), if_neg (by omega), if_neg (by omega), if_neg (by omega), if_neg (by omega), if_neg (by omega), if_neg (by omega), if_pos (by omega)], fun j h1 h2 => by dsimp only; rw [if_neg (by omega), if_neg (by omega), if_neg (by omega), if_neg (by omega), if_neg (by omega), if_neg (by omega), if_neg (by omega), if_neg (by omega), if_neg (by omega), if_neg (by omega), if_neg (by omega), if_neg (by omega), if_pos (by omega)], fun j h1 h2 => by dsimp only; rw [if_neg (by omega), if_neg (by omega), if_neg (by omega), if_neg (by omega), if_neg (by omega), if_neg (by omega), if_neg (by omega), if_neg (by omega), if_neg (by omega), if_neg (by omega), if_neg (by omega), if_neg (by omega), if_neg (by omega), if_pos (by omega)], fun j h1 h2 => by dsimp only; rw [if_neg (by omega), if_neg (by omega), if_neg (by omega), if_neg (by omega), if_neg (by omega), if_neg (by omega), if_neg (by omega), if_neg (by omega), if_neg (by omega), if_neg (by omega), if_neg (by omega), if_neg (by omega), if_neg (by omega), if_neg (by omega), if_pos (by omega)], fun j h1 h2 => by dsimp only; rw [if_neg (by omega), if_neg (by omega), if_neg (by omega), if_neg (by omega), if_neg (by omega), if_neg (by omega), if_neg (by omega), if_neg (by omega), if_neg (by omega), if_neg (by omega), if_neg (by omega), if_neg (by omega), if_neg (by omega), if_neg (by omega), if_neg (by omega), if_pos (by omega)], fun j h1 h2 => by dsimp only; rw [if_neg (by omega), if_neg (by omega), if_neg (by omega), if_neg (by omega), if_neg (by omega), if_neg (by omega), if_neg (by omega), if_neg (by omega), if_neg (by omega), if_neg (by omega), if_neg (by omega), if_neg (by omega), if_neg (by omega), if_neg (by omega), if_neg (by omega), if_neg (by omega), if_pos (by omega)], fun j h1 h2 => by dsimp only; rw [if_neg (by omega), if_neg (by omega), if_neg (by omega), if_neg (by omega), if_neg (by omega), if_neg (by omega), if_neg (by omega), if_neg (by omega), if_neg (by omega), if_neg (by omega), if_neg (by omega), if_neg (by omega), if_neg (by omega), if_neg (by omega), if_neg (by omega), if_neg (by omega), if_neg (by omega)]⟩
  have wT : zw ad ct zBG (zPU 64) = WT := (zw_cong zrngK9 bT (fun _ _ => rfl)).trans hWT
  have pT : ad 64 = qT := (bT 64 (by decide) (by decide)).trans hadT
  have wS : zw ad ct zBG (zPX 96 400) = WS := (zw_cong zrngK8 bS (fun _ _ => rfl)).trans hWS
  have pS : ad 96 = qS := (bS 96 (by decide) (by decide)).trans hadS
  have wU : zw ad ct zBG (zPX 128 0) = WU := (zw_cong zrngK8 bU (fun _ _ => rfl)).trans hWU
  have pU : ad 128 = qU := (bU 128 (by decide) (by decide)).trans hadU
  have wA : zw ad ct zBG zPA = WA := (zwA_cong bA).trans hWA
  have pA : ad 160 = qA := (bA 160 (by decide) (by decide)).trans hadA
  have wB : zw ad ct zBG (zPD 320) = WB := (zw_cong zrngK3 bB (fun _ _ => rfl)).trans hWB
  have pB : ad 320 = qB := (bB 320 (by decide) (by decide)).trans hadB
  have wD : zw ad ct zBG (zPI 352) = WD := (zw_cong zrngK4 bD (fun _ _ => rfl)).trans hWD
  have pD : ad 352 = qD := (bD 352 (by decide) (by decide)).trans hadD
  have wL : zw ad ct zBG (zPC 384) = WL := (zw_cong zrngK1 bL (fun _ _ => rfl)).trans hWL
  have pL : ad 384 = qL := (bL 384 (by decide) (by decide)).trans hadL
  have wM : zw ad ct zBG (zPC 448) = WM := (zw_cong zrngK1 bM (fun _ _ => rfl)).trans hWM
  have pM : ad 448 = qM := (bM 448 (by decide) (by decide)).trans hadM
  have wQ : zw ad ct zBG (zPS 512) = WQ := (zw_cong zrngK7 bQ (fun _ _ => rfl)).trans hWQ
  have pQ : ad 512 = qQ := (bQ 512 (by decide) (by decide)).trans hadQ
  have wR : zw ad ct zBG (zPS 544) = WR := (zw_cong zrngK7 bR (fun _ _ => rfl)).trans hWR
  have pR : ad 544 = qR := (bR 544 (by decide) (by decide)).trans hadR
  have wi0 : zw ad ct zBG (zPM 640) = Wi0 := (zw_cong zrngK5 bi0 (fun _ _ => rfl)).trans hWi0
  have pi0 : ad 640 = qi0 := (bi0 640 (by decide) (by decide)).trans hadi0
  have wi1 : zw ad ct zBG (zPM 896) = Wi1 := (zw_cong zrngK5 bi1 (fun _ _ => rfl)).trans hWi1
  have pi1 : ad 896 = qi1 := (bi1 896 (by decide) (by decide)).trans hadi1
  have wV : zw ad ct zBG [(32, 2, 0)] = WV := by
    rw [← hWV, ← a32, ← pT, ← pM]
    rfl
  have r0 : zw ad ct zBG [(9, 100, 10)] = [(q0, (.inl (ct 100, 10, .inl (fun _ => Int32.ofInt 0)) : va_E))] := by
    rw [zw_zero (List.forall_mem_singleton.mpr (zBG_z (by decide) (by decide))), ← a9]
    rfl
  have r1 : zw ad ct zBG [(10, 100, 15)] = [(q1, (.inl (ct 100, 15, .inl (fun _ => Int32.ofInt 0)) : va_E))] := by
    rw [zw_zero (List.forall_mem_singleton.mpr (zBG_z (by decide) (by decide))), ← a10]
    rfl
  have r2 : zw ad ct zBG [(11, 100, 384)] = [(q2, (.inl (ct 100, 384, .inl (fun _ => Int32.ofInt 0)) : va_E))] := by
    rw [zw_zero (List.forall_mem_singleton.mpr (zBG_z (by decide) (by decide))), ← a11]
    rfl
  have c7 : zcell ad ct zBG (7, 115, 2) = (qi, .inl (ct 115, 2, .inr (.inr (.inr (.inr (fun i => some (ad (zBG 7 i).toNat))))))) := by
    rw [← a7]
    rfl
  have c0 : zcell ad ct zBG (0, 10, 0) = (h0, .inr (10, [.ref qT, .ref qV, .ref qS, .ref qU, .ref qA, .ref qB, .ref qi, .ref qD, .ref q0, .ref q1, .ref q2, .ref qL, .ref qQ, .ref qM, .ref qR, .int 0, .int (-1), .int 0])) := by
    rw [← a0, ← a7, ← a9, ← a10, ← a11, ← a32, ← pT, ← pS, ← pU, ← pA, ← pB, ← pD, ← pL, ← pM, ← pQ, ← pR]
    rfl
  have hfg : ∀ i, i < 2 → (va_up (va_up (fun _ => none) (Int32.toNatClampNeg 0) (some qi0)) (Int32.toNatClampNeg 1) (some qi1)) i = (fun i => some (ad (zBG 7 i).toNat)) i := by
    intro i hi
    have hi2 : i = 0 ∨ i = 1 := by omega
    rcases hi2 with rfl | rfl
    · show some qi0 = some (ad 640)
      rw [pi0]
    · show some qi1 = some (ad 896)
      rw [pi1]
  have hP := va_P_refs hP hfg
  have hD : va_D A ((h0, .inr (10, [.ref qT, .ref qV, .ref qS, .ref qU, .ref qA, .ref qB, .ref qi, .ref qD, .ref q0, .ref q1, .ref q2, .ref qL, .ref qQ, .ref qM, .ref qR, .int 0, .int (-1), .int 0])) :: (qi, .inl (ct 115, 2, .inr (.inr (.inr (.inr (fun i => some (ad (zBG 7 i).toNat))))))) :: (((((((((((((((WT ++ WL) ++ WM) ++ WV) ++ WS) ++ WU) ++ WA) ++ WQ) ++ WR) ++ WB) ++ Wi0) ++ Wi1) ++ WD) ++ [(q0, (.inl (ct 100, 10, .inl (fun _ => Int32.ofInt 0)) : va_E))]) ++ [(q1, (.inl (ct 100, 15, .inl (fun _ => Int32.ofInt 0)) : va_E))]) ++ [(q2, (.inl (ct 100, 384, .inl (fun _ => Int32.ofInt 0)) : va_E))])) := va_D_same hD rfl
  have hW : zw ad ct zBG zPR = (h0, .inr (10, [.ref qT, .ref qV, .ref qS, .ref qU, .ref qA, .ref qB, .ref qi, .ref qD, .ref q0, .ref q1, .ref q2, .ref qL, .ref qQ, .ref qM, .ref qR, .int 0, .int (-1), .int 0])) :: (qi, .inl (ct 115, 2, .inr (.inr (.inr (.inr (fun i => some (ad (zBG 7 i).toNat))))))) :: (((((((((((((((WT ++ WL) ++ WM) ++ WV) ++ WS) ++ WU) ++ WA) ++ WQ) ++ WR) ++ WB) ++ Wi0) ++ Wi1) ++ WD) ++ [(q0, (.inl (ct 100, 10, .inl (fun _ => Int32.ofInt 0)) : va_E))]) ++ [(q1, (.inl (ct 100, 15, .inl (fun _ => Int32.ofInt 0)) : va_E))]) ++ [(q2, (.inl (ct 100, 384, .inl (fun _ => Int32.ofInt 0)) : va_E))]) := by
    rw [zPR, zw_cons, zw_cons, zw_app, zw_app, zw_app, zw_app, zw_app, zw_app, zw_app, zw_app, zw_app, zw_app, zw_app, zw_app, zw_app, zw_app, zw_app, c0, c7, wT, wL, wM, wV, wS, wU, wA, wQ, wR, wB, wi0, wi1, wD, r0, r1, r2]
  rw [← hW] at hP hD
  exact kDone C0 hret hlocks ad a0 hP hD hS (Nat.le_of_ble_eq_true rfl) (Nat.le_of_ble_eq_true rfl) dK10_211
end ZRV
