/-! THE CONSTRUCTOR of the reference, 1: its reserved words (by program) -/
section ZMP
abbrev MK11 : zMt := (yX11_init, cX11_init, 1, 0, RX11)
theorem zmoK11 : zMok MK11 := ⟨zpl_11.1, zpl_11.2.1, zpl_11.2.2, (tm6 37 rfl rfl), zin_11, Nat.le_of_ble_eq_true rfl, rfl⟩
theorem znpK11 : znp MK11.1 = some 0 := by decide +kernel
/-- the heap of the reference at the beginning -/
def zMG : zH := fun j i => if j = 11 then (if i < 26 then zkw i else 0) else 0
def zPQ : zP := [(2, 102, 940), (7, 100, 2959), (8, 100, 288), (9, 100, 135), (10, 101, 60), (21, 100, 72), (22, 100, 9960), (23, 100, 2490), (26, 100, 15), (27, 100, 15), (29, 100, 384), (35, 100, 4), (37, 100, 45), (43, 103, 45), (44, 100, 5918), (45, 101, 60), (46, 103, 2)]
def zPMod : zP := (0, 11, 0) :: (11, 101, 27) :: zPQ
def zFw (n : Nat) : Nat → Int64 := fun i => Int64.ofInt (if i < n then zkw i else 0)
theorem zFw_up {n : Nat} {i : Int32} {v : Int64} (hi : i.toNatClampNeg = n) (hv : Int64.ofInt (zkw n) = v) : vp_updL (zFw n) i.toNatClampNeg v = zFw (n + 1) := by
  funext j
  unfold vp_updL zFw
  rw [hi]
  by_cases h : j = n
  · rw [if_pos h, h, if_pos (by omega), hv]
  · rw [if_neg h]
    by_cases h2 : j < n
    · rw [if_pos h2, if_pos (by omega)]
    · rw [if_neg h2, if_neg (by omega)]
variable {p : Program} {l : Launch} {e : Env} {s : State} {m : MethodId} {args : Array Value} {below : List Frame} {meth : Method} {c : Code} {Q : State → Prop} {D : va_G} {A : Nat → Prop} {ct : Nat → ClassId} {kw ss : Nat} {R : Room}
variable {H : Heap} {locs : List Loc} {cells slots : Nat} {ls : Array Slot} {WR : va_W} {h0 q : Nat} {fs : List Value}
set_option maxHeartbeats 1000000 in
theorem kR_0 (C0 : kCx p s m args meth c D A 1 cX11_init RX11 ct kw ss) (hq : fs[10]? = some (.ref q)) (hl : lv_has ls 1 [(0, .ref h0)]) (hP : va_P D vwCl ((h0, .inr (11, fs)) :: (q, .inl (ct 101, 27, .inr (.inl (zFw 0)))) :: WR) H) (hD : va_D A ((h0, .inr (11, fs)) :: (q, .inl (ct 101, 27, .inr (.inl (zFw 0)))) :: WR)) (hS : va_S A s.heap H locs) (kk : ∀ (H : Heap) (locs : List Loc), va_P D vwCl ((h0, .inr (11, fs)) :: (q, .inl (ct 101, 27, .inr (.inl (zFw 1)))) :: WR) H → va_D A ((h0, .inr (11, fs)) :: (q, .inl (ct 101, 27, .inr (.inl (zFw 1)))) :: WR) → va_S A s.heap H locs → W p l e R s m args below meth c H locs cells slots Q (F0 m 163 ls [])) : W p l e R s m args below meth c H locs cells slots Q (F0 m 154 ls []) := by
  have hx := C0.1
  have hb := C0.2.1
  have hK := C0.2.2.2.2.2.1
  have hts := C0.2.2.2.2.1
  refine lv_aload_n hx hb dK11_154 rfl (lv_at hl 0 rfl) ?_
  refine va_get (D := D) (ci := 11) (v := .ref q) (C := RX11) (T := TX11) (N := 46) hx hb hts zcw11 C0.2.2.2.1 hK hP 0 rfl rfl 10 (by decide) (hts _ (tm6 75 rfl rfl)) (fun _ h9 => h9) hq dK11_155 ?_
  refine lv_iconst (v := 0) hx hb dK11_158 (by decide) ?_
  refine lv_ldc2 (v := 1852798318) hx hb C0.2.2.2.1 (hts _ (tm6 39 rfl rfl)) dK11_159 ?_
  refine va_last (i := 0) hx hb hK hP hD hS 1 1 rfl rfl (by unfold vp_in; decide +kernel) dK11_162 (fun H locs hP hD hS => ?_)
  rw [zFw_up (n := 0) (by decide +kernel) (by decide +kernel)] at hP hD
  exact kk H locs hP hD hS
set_option maxHeartbeats 1000000 in
theorem kR_1 (C0 : kCx p s m args meth c D A 1 cX11_init RX11 ct kw ss) (hq : fs[10]? = some (.ref q)) (hl : lv_has ls 1 [(0, .ref h0)]) (hP : va_P D vwCl ((h0, .inr (11, fs)) :: (q, .inl (ct 101, 27, .inr (.inl (zFw 1)))) :: WR) H) (hD : va_D A ((h0, .inr (11, fs)) :: (q, .inl (ct 101, 27, .inr (.inl (zFw 1)))) :: WR)) (hS : va_S A s.heap H locs) (kk : ∀ (H : Heap) (locs : List Loc), va_P D vwCl ((h0, .inr (11, fs)) :: (q, .inl (ct 101, 27, .inr (.inl (zFw 2)))) :: WR) H → va_D A ((h0, .inr (11, fs)) :: (q, .inl (ct 101, 27, .inr (.inl (zFw 2)))) :: WR) → va_S A s.heap H locs → W p l e R s m args below meth c H locs cells slots Q (F0 m 172 ls [])) : W p l e R s m args below meth c H locs cells slots Q (F0 m 163 ls []) := by
  have hx := C0.1
  have hb := C0.2.1
  have hK := C0.2.2.2.2.2.1
  have hts := C0.2.2.2.2.1
  refine lv_aload_n hx hb dK11_163 rfl (lv_at hl 0 rfl) ?_
  refine va_get (D := D) (ci := 11) (v := .ref q) (C := RX11) (T := TX11) (N := 46) hx hb hts zcw11 C0.2.2.2.1 hK hP 0 rfl rfl 10 (by decide) (hts _ (tm6 75 rfl rfl)) (fun _ h9 => h9) hq dK11_164 ?_
  refine lv_iconst (v := 1) hx hb dK11_167 (by decide) ?_
  refine lv_ldc2 (v := 1986359906) hx hb C0.2.2.2.1 (hts _ (tm6 40 rfl rfl)) dK11_168 ?_
  refine va_last (i := 1) hx hb hK hP hD hS 1 1 rfl rfl (by unfold vp_in; decide +kernel) dK11_171 (fun H locs hP hD hS => ?_)
  rw [zFw_up (n := 1) (by decide +kernel) (by decide +kernel)] at hP hD
  exact kk H locs hP hD hS
set_option maxHeartbeats 1000000 in
theorem kR_2 (C0 : kCx p s m args meth c D A 1 cX11_init RX11 ct kw ss) (hq : fs[10]? = some (.ref q)) (hl : lv_has ls 1 [(0, .ref h0)]) (hP : va_P D vwCl ((h0, .inr (11, fs)) :: (q, .inl (ct 101, 27, .inr (.inl (zFw 2)))) :: WR) H) (hD : va_D A ((h0, .inr (11, fs)) :: (q, .inl (ct 101, 27, .inr (.inl (zFw 2)))) :: WR)) (hS : va_S A s.heap H locs) (kk : ∀ (H : Heap) (locs : List Loc), va_P D vwCl ((h0, .inr (11, fs)) :: (q, .inl (ct 101, 27, .inr (.inl (zFw 3)))) :: WR) H → va_D A ((h0, .inr (11, fs)) :: (q, .inl (ct 101, 27, .inr (.inl (zFw 3)))) :: WR) → va_S A s.heap H locs → W p l e R s m args below meth c H locs cells slots Q (F0 m 181 ls [])) : W p l e R s m args below meth c H locs cells slots Q (F0 m 172 ls []) := by
  have hx := C0.1
  have hb := C0.2.1
  have hK := C0.2.2.2.2.2.1
  have hts := C0.2.2.2.2.1
  refine lv_aload_n hx hb dK11_172 rfl (lv_at hl 0 rfl) ?_
  refine va_get (D := D) (ci := 11) (v := .ref q) (C := RX11) (T := TX11) (N := 46) hx hb hts zcw11 C0.2.2.2.1 hK hP 0 rfl rfl 10 (by decide) (hts _ (tm6 75 rfl rfl)) (fun _ h9 => h9) hq dK11_173 ?_
  refine lv_iconst (v := 2) hx hb dK11_176 (by decide) ?_
  refine lv_ldc2 (v := 1818848101) hx hb C0.2.2.2.1 (hts _ (tm6 41 rfl rfl)) dK11_177 ?_
  refine va_last (i := 2) hx hb hK hP hD hS 1 1 rfl rfl (by unfold vp_in; decide +kernel) dK11_180 (fun H locs hP hD hS => ?_)
  rw [zFw_up (n := 2) (by decide +kernel) (by decide +kernel)] at hP hD
  exact kk H locs hP hD hS
set_option maxHeartbeats 1000000 in
theorem kR_3 (C0 : kCx p s m args meth c D A 1 cX11_init RX11 ct kw ss) (hq : fs[10]? = some (.ref q)) (hl : lv_has ls 1 [(0, .ref h0)]) (hP : va_P D vwCl ((h0, .inr (11, fs)) :: (q, .inl (ct 101, 27, .inr (.inl (zFw 3)))) :: WR) H) (hD : va_D A ((h0, .inr (11, fs)) :: (q, .inl (ct 101, 27, .inr (.inl (zFw 3)))) :: WR)) (hS : va_S A s.heap H locs) (kk : ∀ (H : Heap) (locs : List Loc), va_P D vwCl ((h0, .inr (11, fs)) :: (q, .inl (ct 101, 27, .inr (.inl (zFw 4)))) :: WR) H → va_D A ((h0, .inr (11, fs)) :: (q, .inl (ct 101, 27, .inr (.inl (zFw 4)))) :: WR) → va_S A s.heap H locs → W p l e R s m args below meth c H locs cells slots Q (F0 m 190 ls [])) : W p l e R s m args below meth c H locs cells slots Q (F0 m 181 ls []) := by
  have hx := C0.1
  have hb := C0.2.1
  have hK := C0.2.2.2.2.2.1
  have hts := C0.2.2.2.2.1
  refine lv_aload_n hx hb dK11_181 rfl (lv_at hl 0 rfl) ?_
  refine va_get (D := D) (ci := 11) (v := .ref q) (C := RX11) (T := TX11) (N := 46) hx hb hts zcw11 C0.2.2.2.1 hK hP 0 rfl rfl 10 (by decide) (hts _ (tm6 75 rfl rfl)) (fun _ h9 => h9) hq dK11_182 ?_
  refine lv_iconst (v := 3) hx hb dK11_185 (by decide) ?_
  refine lv_ldc2 (v := 1937010544) hx hb C0.2.2.2.1 (hts _ (tm6 42 rfl rfl)) dK11_186 ?_
  refine va_last (i := 3) hx hb hK hP hD hS 1 1 rfl rfl (by unfold vp_in; decide +kernel) dK11_189 (fun H locs hP hD hS => ?_)
  rw [zFw_up (n := 3) (by decide +kernel) (by decide +kernel)] at hP hD
  exact kk H locs hP hD hS
set_option maxHeartbeats 1000000 in
theorem kR_4 (C0 : kCx p s m args meth c D A 1 cX11_init RX11 ct kw ss) (hq : fs[10]? = some (.ref q)) (hl : lv_has ls 1 [(0, .ref h0)]) (hP : va_P D vwCl ((h0, .inr (11, fs)) :: (q, .inl (ct 101, 27, .inr (.inl (zFw 4)))) :: WR) H) (hD : va_D A ((h0, .inr (11, fs)) :: (q, .inl (ct 101, 27, .inr (.inl (zFw 4)))) :: WR)) (hS : va_S A s.heap H locs) (kk : ∀ (H : Heap) (locs : List Loc), va_P D vwCl ((h0, .inr (11, fs)) :: (q, .inl (ct 101, 27, .inr (.inl (zFw 5)))) :: WR) H → va_D A ((h0, .inr (11, fs)) :: (q, .inl (ct 101, 27, .inr (.inl (zFw 5)))) :: WR) → va_S A s.heap H locs → W p l e R s m args below meth c H locs cells slots Q (F0 m 199 ls [])) : W p l e R s m args below meth c H locs cells slots Q (F0 m 190 ls []) := by
  have hx := C0.1
  have hb := C0.2.1
  have hK := C0.2.2.2.2.2.1
  have hts := C0.2.2.2.2.1
  refine lv_aload_n hx hb dK11_190 rfl (lv_at hl 0 rfl) ?_
  refine va_get (D := D) (ci := 11) (v := .ref q) (C := RX11) (T := TX11) (N := 46) hx hb hts zcw11 C0.2.2.2.1 hK hP 0 rfl rfl 10 (by decide) (hts _ (tm6 75 rfl rfl)) (fun _ h9 => h9) hq dK11_191 ?_
  refine lv_iconst (v := 4) hx hb dK11_194 (by decide) ?_
  refine lv_ldc2 (v := 491327153000) hx hb C0.2.2.2.1 (hts _ (tm6 43 rfl rfl)) dK11_195 ?_
  refine va_last (i := 4) hx hb hK hP hD hS 1 1 rfl rfl (by unfold vp_in; decide +kernel) dK11_198 (fun H locs hP hD hS => ?_)
  rw [zFw_up (n := 4) (by decide +kernel) (by decide +kernel)] at hP hD
  exact kk H locs hP hD hS
set_option maxHeartbeats 1000000 in
theorem kR_5 (C0 : kCx p s m args meth c D A 1 cX11_init RX11 ct kw ss) (hq : fs[10]? = some (.ref q)) (hl : lv_has ls 1 [(0, .ref h0)]) (hP : va_P D vwCl ((h0, .inr (11, fs)) :: (q, .inl (ct 101, 27, .inr (.inl (zFw 5)))) :: WR) H) (hD : va_D A ((h0, .inr (11, fs)) :: (q, .inl (ct 101, 27, .inr (.inl (zFw 5)))) :: WR)) (hS : va_S A s.heap H locs) (kk : ∀ (H : Heap) (locs : List Loc), va_P D vwCl ((h0, .inr (11, fs)) :: (q, .inl (ct 101, 27, .inr (.inl (zFw 6)))) :: WR) H → va_D A ((h0, .inr (11, fs)) :: (q, .inl (ct 101, 27, .inr (.inl (zFw 6)))) :: WR) → va_S A s.heap H locs → W p l e R s m args below meth c H locs cells slots Q (F0 m 208 ls [])) : W p l e R s m args below meth c H locs cells slots Q (F0 m 199 ls []) := by
  have hx := C0.1
  have hb := C0.2.1
  have hK := C0.2.2.2.2.2.1
  have hts := C0.2.2.2.2.1
  refine lv_aload_n hx hb dK11_199 rfl (lv_at hl 0 rfl) ?_
  refine va_get (D := D) (ci := 11) (v := .ref q) (C := RX11) (T := TX11) (N := 46) hx hb hts zcw11 C0.2.2.2.1 hK hP 0 rfl rfl 10 (by decide) (hts _ (tm6 75 rfl rfl)) (fun _ h9 => h9) hq dK11_200 ?_
  refine lv_iconst (v := 5) hx hb dK11_203 (by decide) ?_
  refine lv_ldc2 (v := 1768846447) hx hb C0.2.2.2.1 (hts _ (tm6 44 rfl rfl)) dK11_204 ?_
  refine va_last (i := 5) hx hb hK hP hD hS 1 1 rfl rfl (by unfold vp_in; decide +kernel) dK11_207 (fun H locs hP hD hS => ?_)
  rw [zFw_up (n := 5) (by decide +kernel) (by decide +kernel)] at hP hD
  exact kk H locs hP hD hS
set_option maxHeartbeats 1000000 in
theorem kR_6 (C0 : kCx p s m args meth c D A 1 cX11_init RX11 ct kw ss) (hq : fs[10]? = some (.ref q)) (hl : lv_has ls 1 [(0, .ref h0)]) (hP : va_P D vwCl ((h0, .inr (11, fs)) :: (q, .inl (ct 101, 27, .inr (.inl (zFw 6)))) :: WR) H) (hD : va_D A ((h0, .inr (11, fs)) :: (q, .inl (ct 101, 27, .inr (.inl (zFw 6)))) :: WR)) (hS : va_S A s.heap H locs) (kk : ∀ (H : Heap) (locs : List Loc), va_P D vwCl ((h0, .inr (11, fs)) :: (q, .inl (ct 101, 27, .inr (.inl (zFw 7)))) :: WR) H → va_D A ((h0, .inr (11, fs)) :: (q, .inl (ct 101, 27, .inr (.inl (zFw 7)))) :: WR) → va_S A s.heap H locs → W p l e R s m args below meth c H locs cells slots Q (F0 m 218 ls [])) : W p l e R s m args below meth c H locs cells slots Q (F0 m 208 ls []) := by
  have hx := C0.1
  have hb := C0.2.1
  have hK := C0.2.2.2.2.2.1
  have hts := C0.2.2.2.2.1
  refine lv_aload_n hx hb dK11_208 rfl (lv_at hl 0 rfl) ?_
  refine va_get (D := D) (ci := 11) (v := .ref q) (C := RX11) (T := TX11) (N := 46) hx hb hts zcw11 C0.2.2.2.1 hK hP 0 rfl rfl 10 (by decide) (hts _ (tm6 75 rfl rfl)) (fun _ h9 => h9) hq dK11_209 ?_
  refine lv_bipush (v := 6) hx hb dK11_212 (by decide) ?_
  refine lv_ldc2 (v := 1935767923) hx hb C0.2.2.2.1 (hts _ (tm6 45 rfl rfl)) dK11_214 ?_
  refine va_last (i := 6) hx hb hK hP hD hS 1 1 rfl rfl (by unfold vp_in; decide +kernel) dK11_217 (fun H locs hP hD hS => ?_)
  rw [zFw_up (n := 6) (by decide +kernel) (by decide +kernel)] at hP hD
  exact kk H locs hP hD hS
set_option maxHeartbeats 1000000 in
theorem kR_7 (C0 : kCx p s m args meth c D A 1 cX11_init RX11 ct kw ss) (hq : fs[10]? = some (.ref q)) (hl : lv_has ls 1 [(0, .ref h0)]) (hP : va_P D vwCl ((h0, .inr (11, fs)) :: (q, .inl (ct 101, 27, .inr (.inl (zFw 7)))) :: WR) H) (hD : va_D A ((h0, .inr (11, fs)) :: (q, .inl (ct 101, 27, .inr (.inl (zFw 7)))) :: WR)) (hS : va_S A s.heap H locs) (kk : ∀ (H : Heap) (locs : List Loc), va_P D vwCl ((h0, .inr (11, fs)) :: (q, .inl (ct 101, 27, .inr (.inl (zFw 8)))) :: WR) H → va_D A ((h0, .inr (11, fs)) :: (q, .inl (ct 101, 27, .inr (.inl (zFw 8)))) :: WR) → va_S A s.heap H locs → W p l e R s m args below meth c H locs cells slots Q (F0 m 228 ls [])) : W p l e R s m args below meth c H locs cells slots Q (F0 m 218 ls []) := by
  have hx := C0.1
  have hb := C0.2.1
  have hK := C0.2.2.2.2.2.1
  have hts := C0.2.2.2.2.1
  refine lv_aload_n hx hb dK11_218 rfl (lv_at hl 0 rfl) ?_
  refine va_get (D := D) (ci := 11) (v := .ref q) (C := RX11) (T := TX11) (N := 46) hx hb hts zcw11 C0.2.2.2.1 hK hP 0 rfl rfl 10 (by decide) (hts _ (tm6 75 rfl rfl)) (fun _ h9 => h9) hq dK11_219 ?_
  refine lv_bipush (v := 7) hx hb dK11_222 (by decide) ?_
  refine lv_ldc2 (v := 111481940373362) hx hb C0.2.2.2.1 (hts _ (tm6 46 rfl rfl)) dK11_224 ?_
  refine va_last (i := 7) hx hb hK hP hD hS 1 1 rfl rfl (by unfold vp_in; decide +kernel) dK11_227 (fun H locs hP hD hS => ?_)
  rw [zFw_up (n := 7) (by decide +kernel) (by decide +kernel)] at hP hD
  exact kk H locs hP hD hS
set_option maxHeartbeats 1000000 in
theorem kR_8 (C0 : kCx p s m args meth c D A 1 cX11_init RX11 ct kw ss) (hq : fs[10]? = some (.ref q)) (hl : lv_has ls 1 [(0, .ref h0)]) (hP : va_P D vwCl ((h0, .inr (11, fs)) :: (q, .inl (ct 101, 27, .inr (.inl (zFw 8)))) :: WR) H) (hD : va_D A ((h0, .inr (11, fs)) :: (q, .inl (ct 101, 27, .inr (.inl (zFw 8)))) :: WR)) (hS : va_S A s.heap H locs) (kk : ∀ (H : Heap) (locs : List Loc), va_P D vwCl ((h0, .inr (11, fs)) :: (q, .inl (ct 101, 27, .inr (.inl (zFw 9)))) :: WR) H → va_D A ((h0, .inr (11, fs)) :: (q, .inl (ct 101, 27, .inr (.inl (zFw 9)))) :: WR) → va_S A s.heap H locs → W p l e R s m args below meth c H locs cells slots Q (F0 m 238 ls [])) : W p l e R s m args below meth c H locs cells slots Q (F0 m 228 ls []) := by
  have hx := C0.1
  have hb := C0.2.1
  have hK := C0.2.2.2.2.2.1
  have hts := C0.2.2.2.2.1
  refine lv_aload_n hx hb dK11_228 rfl (lv_at hl 0 rfl) ?_
  refine va_get (D := D) (ci := 11) (v := .ref q) (C := RX11) (T := TX11) (N := 46) hx hb hts zcw11 C0.2.2.2.1 hK hP 0 rfl rfl 10 (by decide) (hts _ (tm6 75 rfl rfl)) (fun _ h9 => h9) hq dK11_229 ?_
  refine lv_bipush (v := 8) hx hb dK11_232 (by decide) ?_
  refine lv_ldc2 (v := 126943972911973) hx hb C0.2.2.2.1 (hts _ (tm6 47 rfl rfl)) dK11_234 ?_
  refine va_last (i := 8) hx hb hK hP hD hS 1 1 rfl rfl (by unfold vp_in; decide +kernel) dK11_237 (fun H locs hP hD hS => ?_)
  rw [zFw_up (n := 8) (by decide +kernel) (by decide +kernel)] at hP hD
  exact kk H locs hP hD hS
set_option maxHeartbeats 1000000 in
theorem kR_9 (C0 : kCx p s m args meth c D A 1 cX11_init RX11 ct kw ss) (hq : fs[10]? = some (.ref q)) (hl : lv_has ls 1 [(0, .ref h0)]) (hP : va_P D vwCl ((h0, .inr (11, fs)) :: (q, .inl (ct 101, 27, .inr (.inl (zFw 9)))) :: WR) H) (hD : va_D A ((h0, .inr (11, fs)) :: (q, .inl (ct 101, 27, .inr (.inl (zFw 9)))) :: WR)) (hS : va_S A s.heap H locs) (kk : ∀ (H : Heap) (locs : List Loc), va_P D vwCl ((h0, .inr (11, fs)) :: (q, .inl (ct 101, 27, .inr (.inl (zFw 10)))) :: WR) H → va_D A ((h0, .inr (11, fs)) :: (q, .inl (ct 101, 27, .inr (.inl (zFw 10)))) :: WR) → va_S A s.heap H locs → W p l e R s m args below meth c H locs cells slots Q (F0 m 248 ls [])) : W p l e R s m args below meth c H locs cells slots Q (F0 m 238 ls []) := by
  have hx := C0.1
  have hb := C0.2.1
  have hK := C0.2.2.2.2.2.1
  have hts := C0.2.2.2.2.1
  refine lv_aload_n hx hb dK11_238 rfl (lv_at hl 0 rfl) ?_
  refine va_get (D := D) (ci := 11) (v := .ref q) (C := RX11) (T := TX11) (N := 46) hx hb hts zcw11 C0.2.2.2.1 hK hP 0 rfl rfl 10 (by decide) (hts _ (tm6 75 rfl rfl)) (fun _ h9 => h9) hq dK11_239 ?_
  refine lv_bipush (v := 9) hx hb dK11_242 (by decide) ?_
  refine lv_ldc2 (v := 1953854062) hx hb C0.2.2.2.1 (hts _ (tm6 48 rfl rfl)) dK11_244 ?_
  refine va_last (i := 9) hx hb hK hP hD hS 1 1 rfl rfl (by unfold vp_in; decide +kernel) dK11_247 (fun H locs hP hD hS => ?_)
  rw [zFw_up (n := 9) (by decide +kernel) (by decide +kernel)] at hP hD
  exact kk H locs hP hD hS
set_option maxHeartbeats 1000000 in
theorem kR_10 (C0 : kCx p s m args meth c D A 1 cX11_init RX11 ct kw ss) (hq : fs[10]? = some (.ref q)) (hl : lv_has ls 1 [(0, .ref h0)]) (hP : va_P D vwCl ((h0, .inr (11, fs)) :: (q, .inl (ct 101, 27, .inr (.inl (zFw 10)))) :: WR) H) (hD : va_D A ((h0, .inr (11, fs)) :: (q, .inl (ct 101, 27, .inr (.inl (zFw 10)))) :: WR)) (hS : va_S A s.heap H locs) (kk : ∀ (H : Heap) (locs : List Loc), va_P D vwCl ((h0, .inr (11, fs)) :: (q, .inl (ct 101, 27, .inr (.inl (zFw 11)))) :: WR) H → va_D A ((h0, .inr (11, fs)) :: (q, .inl (ct 101, 27, .inr (.inl (zFw 11)))) :: WR) → va_S A s.heap H locs → W p l e R s m args below meth c H locs cells slots Q (F0 m 258 ls [])) : W p l e R s m args below meth c H locs cells slots Q (F0 m 248 ls []) := by
  have hx := C0.1
  have hb := C0.2.1
  have hK := C0.2.2.2.2.2.1
  have hts := C0.2.2.2.2.1
  refine lv_aload_n hx hb dK11_248 rfl (lv_at hl 0 rfl) ?_
  refine va_get (D := D) (ci := 11) (v := .ref q) (C := RX11) (T := TX11) (N := 46) hx hb hts zcw11 C0.2.2.2.1 hK hP 0 rfl rfl 10 (by decide) (hts _ (tm6 75 rfl rfl)) (fun _ h9 => h9) hq dK11_249 ?_
  refine lv_bipush (v := 10) hx hb dK11_252 (by decide) ?_
  refine lv_ldc2 (v := 1953462126) hx hb C0.2.2.2.1 (hts _ (tm6 49 rfl rfl)) dK11_254 ?_
  refine va_last (i := 10) hx hb hK hP hD hS 1 1 rfl rfl (by unfold vp_in; decide +kernel) dK11_257 (fun H locs hP hD hS => ?_)
  rw [zFw_up (n := 10) (by decide +kernel) (by decide +kernel)] at hP hD
  exact kk H locs hP hD hS
set_option maxHeartbeats 1000000 in
theorem kR_11 (C0 : kCx p s m args meth c D A 1 cX11_init RX11 ct kw ss) (hq : fs[10]? = some (.ref q)) (hl : lv_has ls 1 [(0, .ref h0)]) (hP : va_P D vwCl ((h0, .inr (11, fs)) :: (q, .inl (ct 101, 27, .inr (.inl (zFw 11)))) :: WR) H) (hD : va_D A ((h0, .inr (11, fs)) :: (q, .inl (ct 101, 27, .inr (.inl (zFw 11)))) :: WR)) (hS : va_S A s.heap H locs) (kk : ∀ (H : Heap) (locs : List Loc), va_P D vwCl ((h0, .inr (11, fs)) :: (q, .inl (ct 101, 27, .inr (.inl (zFw 12)))) :: WR) H → va_D A ((h0, .inr (11, fs)) :: (q, .inl (ct 101, 27, .inr (.inl (zFw 12)))) :: WR) → va_S A s.heap H locs → W p l e R s m args below meth c H locs cells slots Q (F0 m 268 ls [])) : W p l e R s m args below meth c H locs cells slots Q (F0 m 258 ls []) := by
  have hx := C0.1
  have hb := C0.2.1
  have hK := C0.2.2.2.2.2.1
  have hts := C0.2.2.2.2.1
  refine lv_aload_n hx hb dK11_258 rfl (lv_at hl 0 rfl) ?_
  refine va_get (D := D) (ci := 11) (v := .ref q) (C := RX11) (T := TX11) (N := 46) hx hb hts zcw11 C0.2.2.2.1 hK hP 0 rfl rfl 10 (by decide) (hts _ (tm6 75 rfl rfl)) (fun _ h9 => h9) hq dK11_259 ?_
  refine lv_bipush (v := 11) hx hb dK11_262 (by decide) ?_
  refine lv_ldc2 (v := 499851162725) hx hb C0.2.2.2.1 (hts _ (tm6 50 rfl rfl)) dK11_264 ?_
  refine va_last (i := 11) hx hb hK hP hD hS 1 1 rfl rfl (by unfold vp_in; decide +kernel) dK11_267 (fun H locs hP hD hS => ?_)
  rw [zFw_up (n := 11) (by decide +kernel) (by decide +kernel)] at hP hD
  exact kk H locs hP hD hS
set_option maxHeartbeats 1000000 in
theorem kR_12 (C0 : kCx p s m args meth c D A 1 cX11_init RX11 ct kw ss) (hq : fs[10]? = some (.ref q)) (hl : lv_has ls 1 [(0, .ref h0)]) (hP : va_P D vwCl ((h0, .inr (11, fs)) :: (q, .inl (ct 101, 27, .inr (.inl (zFw 12)))) :: WR) H) (hD : va_D A ((h0, .inr (11, fs)) :: (q, .inl (ct 101, 27, .inr (.inl (zFw 12)))) :: WR)) (hS : va_S A s.heap H locs) (kk : ∀ (H : Heap) (locs : List Loc), va_P D vwCl ((h0, .inr (11, fs)) :: (q, .inl (ct 101, 27, .inr (.inl (zFw 13)))) :: WR) H → va_D A ((h0, .inr (11, fs)) :: (q, .inl (ct 101, 27, .inr (.inl (zFw 13)))) :: WR) → va_S A s.heap H locs → W p l e R s m args below meth c H locs cells slots Q (F0 m 278 ls [])) : W p l e R s m args below meth c H locs cells slots Q (F0 m 268 ls []) := by
  have hx := C0.1
  have hb := C0.2.1
  have hK := C0.2.2.2.2.2.1
  have hts := C0.2.2.2.2.1
  refine lv_aload_n hx hb dK11_268 rfl (lv_at hl 0 rfl) ?_
  refine va_get (D := D) (ci := 11) (v := .ref q) (C := RX11) (T := TX11) (N := 46) hx hb hts zcw11 C0.2.2.2.1 hK hP 0 rfl rfl 10 (by decide) (hts _ (tm6 75 rfl rfl)) (fun _ h9 => h9) hq dK11_269 ?_
  refine lv_bipush (v := 12) hx hb dK11_272 (by decide) ?_
  refine lv_ldc2 (v := 6578553) hx hb C0.2.2.2.1 (hts _ (tm6 51 rfl rfl)) dK11_274 ?_
  refine va_last (i := 12) hx hb hK hP hD hS 1 1 rfl rfl (by unfold vp_in; decide +kernel) dK11_277 (fun H locs hP hD hS => ?_)
  rw [zFw_up (n := 12) (by decide +kernel) (by decide +kernel)] at hP hD
  exact kk H locs hP hD hS
set_option maxHeartbeats 1000000 in
theorem kR_13 (C0 : kCx p s m args meth c D A 1 cX11_init RX11 ct kw ss) (hq : fs[10]? = some (.ref q)) (hl : lv_has ls 1 [(0, .ref h0)]) (hP : va_P D vwCl ((h0, .inr (11, fs)) :: (q, .inl (ct 101, 27, .inr (.inl (zFw 13)))) :: WR) H) (hD : va_D A ((h0, .inr (11, fs)) :: (q, .inl (ct 101, 27, .inr (.inl (zFw 13)))) :: WR)) (hS : va_S A s.heap H locs) (kk : ∀ (H : Heap) (locs : List Loc), va_P D vwCl ((h0, .inr (11, fs)) :: (q, .inl (ct 101, 27, .inr (.inl (zFw 14)))) :: WR) H → va_D A ((h0, .inr (11, fs)) :: (q, .inl (ct 101, 27, .inr (.inl (zFw 14)))) :: WR) → va_S A s.heap H locs → W p l e R s m args below meth c H locs cells slots Q (F0 m 288 ls [])) : W p l e R s m args below meth c H locs cells slots Q (F0 m 278 ls []) := by
  have hx := C0.1
  have hb := C0.2.1
  have hK := C0.2.2.2.2.2.1
  have hts := C0.2.2.2.2.1
  refine lv_aload_n hx hb dK11_278 rfl (lv_at hl 0 rfl) ?_
  refine va_get (D := D) (ci := 11) (v := .ref q) (C := RX11) (T := TX11) (N := 46) hx hb hts zcw11 C0.2.2.2.1 hK hP 0 rfl rfl 10 (by decide) (hts _ (tm6 75 rfl rfl)) (fun _ h9 => h9) hq dK11_279 ?_
  refine lv_bipush (v := 13) hx hb dK11_282 (by decide) ?_
  refine lv_ldc2 (v := 491327153267) hx hb C0.2.2.2.1 (hts _ (tm6 52 rfl rfl)) dK11_284 ?_
  refine va_last (i := 13) hx hb hK hP hD hS 1 1 rfl rfl (by unfold vp_in; decide +kernel) dK11_287 (fun H locs hP hD hS => ?_)
  rw [zFw_up (n := 13) (by decide +kernel) (by decide +kernel)] at hP hD
  exact kk H locs hP hD hS
set_option maxHeartbeats 1000000 in
theorem kR_14 (C0 : kCx p s m args meth c D A 1 cX11_init RX11 ct kw ss) (hq : fs[10]? = some (.ref q)) (hl : lv_has ls 1 [(0, .ref h0)]) (hP : va_P D vwCl ((h0, .inr (11, fs)) :: (q, .inl (ct 101, 27, .inr (.inl (zFw 14)))) :: WR) H) (hD : va_D A ((h0, .inr (11, fs)) :: (q, .inl (ct 101, 27, .inr (.inl (zFw 14)))) :: WR)) (hS : va_S A s.heap H locs) (kk : ∀ (H : Heap) (locs : List Loc), va_P D vwCl ((h0, .inr (11, fs)) :: (q, .inl (ct 101, 27, .inr (.inl (zFw 15)))) :: WR) H → va_D A ((h0, .inr (11, fs)) :: (q, .inl (ct 101, 27, .inr (.inl (zFw 15)))) :: WR) → va_S A s.heap H locs → W p l e R s m args below meth c H locs cells slots Q (F0 m 298 ls [])) : W p l e R s m args below meth c H locs cells slots Q (F0 m 288 ls []) := by
  have hx := C0.1
  have hb := C0.2.1
  have hK := C0.2.2.2.2.2.1
  have hts := C0.2.2.2.2.1
  refine lv_aload_n hx hb dK11_288 rfl (lv_at hl 0 rfl) ?_
  refine va_get (D := D) (ci := 11) (v := .ref q) (C := RX11) (T := TX11) (N := 46) hx hb hts zcw11 C0.2.2.2.1 hK hP 0 rfl rfl 10 (by decide) (hts _ (tm6 75 rfl rfl)) (fun _ h9 => h9) hq dK11_289 ?_
  refine lv_bipush (v := 14) hx hb dK11_292 (by decide) ?_
  refine lv_ldc2 (v := 1852796517) hx hb C0.2.2.2.1 (hts _ (tm6 53 rfl rfl)) dK11_294 ?_
  refine va_last (i := 14) hx hb hK hP hD hS 1 1 rfl rfl (by unfold vp_in; decide +kernel) dK11_297 (fun H locs hP hD hS => ?_)
  rw [zFw_up (n := 14) (by decide +kernel) (by decide +kernel)] at hP hD
  exact kk H locs hP hD hS
set_option maxHeartbeats 1000000 in
theorem kR_15 (C0 : kCx p s m args meth c D A 1 cX11_init RX11 ct kw ss) (hq : fs[10]? = some (.ref q)) (hl : lv_has ls 1 [(0, .ref h0)]) (hP : va_P D vwCl ((h0, .inr (11, fs)) :: (q, .inl (ct 101, 27, .inr (.inl (zFw 15)))) :: WR) H) (hD : va_D A ((h0, .inr (11, fs)) :: (q, .inl (ct 101, 27, .inr (.inl (zFw 15)))) :: WR)) (hS : va_S A s.heap H locs) (kk : ∀ (H : Heap) (locs : List Loc), va_P D vwCl ((h0, .inr (11, fs)) :: (q, .inl (ct 101, 27, .inr (.inl (zFw 16)))) :: WR) H → va_D A ((h0, .inr (11, fs)) :: (q, .inl (ct 101, 27, .inr (.inl (zFw 16)))) :: WR) → va_S A s.heap H locs → W p l e R s m args below meth c H locs cells slots Q (F0 m 308 ls [])) : W p l e R s m args below meth c H locs cells slots Q (F0 m 298 ls []) := by
  have hx := C0.1
  have hb := C0.2.1
  have hK := C0.2.2.2.2.2.1
  have hts := C0.2.2.2.2.1
  refine lv_aload_n hx hb dK11_298 rfl (lv_at hl 0 rfl) ?_
  refine va_get (D := D) (ci := 11) (v := .ref q) (C := RX11) (T := TX11) (N := 46) hx hb hts zcw11 C0.2.2.2.1 hK hP 0 rfl rfl 10 (by decide) (hts _ (tm6 75 rfl rfl)) (fun _ h9 => h9) hq dK11_299 ?_
  refine lv_bipush (v := 15) hx hb dK11_302 (by decide) ?_
  refine lv_ldc2 (v := 512735536499) hx hb C0.2.2.2.1 (hts _ (tm6 54 rfl rfl)) dK11_304 ?_
  refine va_last (i := 15) hx hb hK hP hD hS 1 1 rfl rfl (by unfold vp_in; decide +kernel) dK11_307 (fun H locs hP hD hS => ?_)
  rw [zFw_up (n := 15) (by decide +kernel) (by decide +kernel)] at hP hD
  exact kk H locs hP hD hS
set_option maxHeartbeats 1000000 in
theorem kR_16 (C0 : kCx p s m args meth c D A 1 cX11_init RX11 ct kw ss) (hq : fs[10]? = some (.ref q)) (hl : lv_has ls 1 [(0, .ref h0)]) (hP : va_P D vwCl ((h0, .inr (11, fs)) :: (q, .inl (ct 101, 27, .inr (.inl (zFw 16)))) :: WR) H) (hD : va_D A ((h0, .inr (11, fs)) :: (q, .inl (ct 101, 27, .inr (.inl (zFw 16)))) :: WR)) (hS : va_S A s.heap H locs) (kk : ∀ (H : Heap) (locs : List Loc), va_P D vwCl ((h0, .inr (11, fs)) :: (q, .inl (ct 101, 27, .inr (.inl (zFw 17)))) :: WR) H → va_D A ((h0, .inr (11, fs)) :: (q, .inl (ct 101, 27, .inr (.inl (zFw 17)))) :: WR) → va_S A s.heap H locs → W p l e R s m args below meth c H locs cells slots Q (F0 m 318 ls [])) : W p l e R s m args below meth c H locs cells slots Q (F0 m 308 ls []) := by
  have hx := C0.1
  have hb := C0.2.1
  have hK := C0.2.2.2.2.2.1
  have hts := C0.2.2.2.2.1
  refine lv_aload_n hx hb dK11_308 rfl (lv_at hl 0 rfl) ?_
  refine va_get (D := D) (ci := 11) (v := .ref q) (C := RX11) (T := TX11) (N := 46) hx hb hts zcw11 C0.2.2.2.1 hK hP 0 rfl rfl 10 (by decide) (hts _ (tm6 75 rfl rfl)) (fun _ h9 => h9) hq dK11_309 ?_
  refine lv_bipush (v := 16) hx hb dK11_312 (by decide) ?_
  refine lv_ldc2 (v := 126909394808947) hx hb C0.2.2.2.1 (hts _ (tm6 55 rfl rfl)) dK11_314 ?_
  refine va_last (i := 16) hx hb hK hP hD hS 1 1 rfl rfl (by unfold vp_in; decide +kernel) dK11_317 (fun H locs hP hD hS => ?_)
  rw [zFw_up (n := 16) (by decide +kernel) (by decide +kernel)] at hP hD
  exact kk H locs hP hD hS
set_option maxHeartbeats 1000000 in
theorem kR_17 (C0 : kCx p s m args meth c D A 1 cX11_init RX11 ct kw ss) (hq : fs[10]? = some (.ref q)) (hl : lv_has ls 1 [(0, .ref h0)]) (hP : va_P D vwCl ((h0, .inr (11, fs)) :: (q, .inl (ct 101, 27, .inr (.inl (zFw 17)))) :: WR) H) (hD : va_D A ((h0, .inr (11, fs)) :: (q, .inl (ct 101, 27, .inr (.inl (zFw 17)))) :: WR)) (hS : va_S A s.heap H locs) (kk : ∀ (H : Heap) (locs : List Loc), va_P D vwCl ((h0, .inr (11, fs)) :: (q, .inl (ct 101, 27, .inr (.inl (zFw 18)))) :: WR) H → va_D A ((h0, .inr (11, fs)) :: (q, .inl (ct 101, 27, .inr (.inl (zFw 18)))) :: WR) → va_S A s.heap H locs → W p l e R s m args below meth c H locs cells slots Q (F0 m 328 ls [])) : W p l e R s m args below meth c H locs cells slots Q (F0 m 318 ls []) := by
  have hx := C0.1
  have hb := C0.2.1
  have hK := C0.2.2.2.2.2.1
  have hts := C0.2.2.2.2.1
  refine lv_aload_n hx hb dK11_318 rfl (lv_at hl 0 rfl) ?_
  refine va_get (D := D) (ci := 11) (v := .ref q) (C := RX11) (T := TX11) (N := 46) hx hb hts zcw11 C0.2.2.2.1 hK hP 0 rfl rfl 10 (by decide) (hts _ (tm6 75 rfl rfl)) (fun _ h9 => h9) hq dK11_319 ?_
  refine lv_bipush (v := 17) hx hb dK11_322 (by decide) ?_
  refine lv_ldc2 (v := 28530) hx hb C0.2.2.2.1 (hts _ (tm6 56 rfl rfl)) dK11_324 ?_
  refine va_last (i := 17) hx hb hK hP hD hS 1 1 rfl rfl (by unfold vp_in; decide +kernel) dK11_327 (fun H locs hP hD hS => ?_)
  rw [zFw_up (n := 17) (by decide +kernel) (by decide +kernel)] at hP hD
  exact kk H locs hP hD hS
set_option maxHeartbeats 1000000 in
theorem kR_18 (C0 : kCx p s m args meth c D A 1 cX11_init RX11 ct kw ss) (hq : fs[10]? = some (.ref q)) (hl : lv_has ls 1 [(0, .ref h0)]) (hP : va_P D vwCl ((h0, .inr (11, fs)) :: (q, .inl (ct 101, 27, .inr (.inl (zFw 18)))) :: WR) H) (hD : va_D A ((h0, .inr (11, fs)) :: (q, .inl (ct 101, 27, .inr (.inl (zFw 18)))) :: WR)) (hS : va_S A s.heap H locs) (kk : ∀ (H : Heap) (locs : List Loc), va_P D vwCl ((h0, .inr (11, fs)) :: (q, .inl (ct 101, 27, .inr (.inl (zFw 19)))) :: WR) H → va_D A ((h0, .inr (11, fs)) :: (q, .inl (ct 101, 27, .inr (.inl (zFw 19)))) :: WR) → va_S A s.heap H locs → W p l e R s m args below meth c H locs cells slots Q (F0 m 338 ls [])) : W p l e R s m args below meth c H locs cells slots Q (F0 m 328 ls []) := by
  have hx := C0.1
  have hb := C0.2.1
  have hK := C0.2.2.2.2.2.1
  have hts := C0.2.2.2.2.1
  refine lv_aload_n hx hb dK11_328 rfl (lv_at hl 0 rfl) ?_
  refine va_get (D := D) (ci := 11) (v := .ref q) (C := RX11) (T := TX11) (N := 46) hx hb hts zcw11 C0.2.2.2.1 hK hP 0 rfl rfl 10 (by decide) (hts _ (tm6 75 rfl rfl)) (fun _ h9 => h9) hq dK11_329 ?_
  refine lv_bipush (v := 18) hx hb dK11_332 (by decide) ?_
  refine lv_ldc2 (v := 6385252) hx hb C0.2.2.2.1 (hts _ (tm6 57 rfl rfl)) dK11_334 ?_
  refine va_last (i := 18) hx hb hK hP hD hS 1 1 rfl rfl (by unfold vp_in; decide +kernel) dK11_337 (fun H locs hP hD hS => ?_)
  rw [zFw_up (n := 18) (by decide +kernel) (by decide +kernel)] at hP hD
  exact kk H locs hP hD hS
set_option maxHeartbeats 1000000 in
theorem kR_19 (C0 : kCx p s m args meth c D A 1 cX11_init RX11 ct kw ss) (hq : fs[10]? = some (.ref q)) (hl : lv_has ls 1 [(0, .ref h0)]) (hP : va_P D vwCl ((h0, .inr (11, fs)) :: (q, .inl (ct 101, 27, .inr (.inl (zFw 19)))) :: WR) H) (hD : va_D A ((h0, .inr (11, fs)) :: (q, .inl (ct 101, 27, .inr (.inl (zFw 19)))) :: WR)) (hS : va_S A s.heap H locs) (kk : ∀ (H : Heap) (locs : List Loc), va_P D vwCl ((h0, .inr (11, fs)) :: (q, .inl (ct 101, 27, .inr (.inl (zFw 20)))) :: WR) H → va_D A ((h0, .inr (11, fs)) :: (q, .inl (ct 101, 27, .inr (.inl (zFw 20)))) :: WR) → va_S A s.heap H locs → W p l e R s m args below meth c H locs cells slots Q (F0 m 348 ls [])) : W p l e R s m args below meth c H locs cells slots Q (F0 m 338 ls []) := by
  have hx := C0.1
  have hb := C0.2.1
  have hK := C0.2.2.2.2.2.1
  have hts := C0.2.2.2.2.1
  refine lv_aload_n hx hb dK11_338 rfl (lv_at hl 0 rfl) ?_
  refine va_get (D := D) (ci := 11) (v := .ref q) (C := RX11) (T := TX11) (N := 46) hx hb hts zcw11 C0.2.2.2.1 hK hP 0 rfl rfl 10 (by decide) (hts _ (tm6 75 rfl rfl)) (fun _ h9 => h9) hq dK11_339 ?_
  refine lv_bipush (v := 19) hx hb dK11_342 (by decide) ?_
  refine lv_ldc2 (v := 7237492) hx hb C0.2.2.2.1 (hts _ (tm6 58 rfl rfl)) dK11_344 ?_
  refine va_last (i := 19) hx hb hK hP hD hS 1 1 rfl rfl (by unfold vp_in; decide +kernel) dK11_347 (fun H locs hP hD hS => ?_)
  rw [zFw_up (n := 19) (by decide +kernel) (by decide +kernel)] at hP hD
  exact kk H locs hP hD hS
set_option maxHeartbeats 1000000 in
theorem kR_20 (C0 : kCx p s m args meth c D A 1 cX11_init RX11 ct kw ss) (hq : fs[10]? = some (.ref q)) (hl : lv_has ls 1 [(0, .ref h0)]) (hP : va_P D vwCl ((h0, .inr (11, fs)) :: (q, .inl (ct 101, 27, .inr (.inl (zFw 20)))) :: WR) H) (hD : va_D A ((h0, .inr (11, fs)) :: (q, .inl (ct 101, 27, .inr (.inl (zFw 20)))) :: WR)) (hS : va_S A s.heap H locs) (kk : ∀ (H : Heap) (locs : List Loc), va_P D vwCl ((h0, .inr (11, fs)) :: (q, .inl (ct 101, 27, .inr (.inl (zFw 21)))) :: WR) H → va_D A ((h0, .inr (11, fs)) :: (q, .inl (ct 101, 27, .inr (.inl (zFw 21)))) :: WR) → va_S A s.heap H locs → W p l e R s m args below meth c H locs cells slots Q (F0 m 358 ls [])) : W p l e R s m args below meth c H locs cells slots Q (F0 m 348 ls []) := by
  have hx := C0.1
  have hb := C0.2.1
  have hK := C0.2.2.2.2.2.1
  have hts := C0.2.2.2.2.1
  refine lv_aload_n hx hb dK11_348 rfl (lv_at hl 0 rfl) ?_
  refine va_get (D := D) (ci := 11) (v := .ref q) (C := RX11) (T := TX11) (N := 46) hx hb hts zcw11 C0.2.2.2.1 hK hP 0 rfl rfl 10 (by decide) (hts _ (tm6 75 rfl rfl)) (fun _ h9 => h9) hq dK11_349 ?_
  refine lv_bipush (v := 20) hx hb dK11_352 (by decide) ?_
  refine lv_ldc2 (v := 28526) hx hb C0.2.2.2.1 (hts _ (tm6 59 rfl rfl)) dK11_354 ?_
  refine va_last (i := 20) hx hb hK hP hD hS 1 1 rfl rfl (by unfold vp_in; decide +kernel) dK11_357 (fun H locs hP hD hS => ?_)
  rw [zFw_up (n := 20) (by decide +kernel) (by decide +kernel)] at hP hD
  exact kk H locs hP hD hS
set_option maxHeartbeats 1000000 in
theorem kR_21 (C0 : kCx p s m args meth c D A 1 cX11_init RX11 ct kw ss) (hq : fs[10]? = some (.ref q)) (hl : lv_has ls 1 [(0, .ref h0)]) (hP : va_P D vwCl ((h0, .inr (11, fs)) :: (q, .inl (ct 101, 27, .inr (.inl (zFw 21)))) :: WR) H) (hD : va_D A ((h0, .inr (11, fs)) :: (q, .inl (ct 101, 27, .inr (.inl (zFw 21)))) :: WR)) (hS : va_S A s.heap H locs) (kk : ∀ (H : Heap) (locs : List Loc), va_P D vwCl ((h0, .inr (11, fs)) :: (q, .inl (ct 101, 27, .inr (.inl (zFw 22)))) :: WR) H → va_D A ((h0, .inr (11, fs)) :: (q, .inl (ct 101, 27, .inr (.inl (zFw 22)))) :: WR) → va_S A s.heap H locs → W p l e R s m args below meth c H locs cells slots Q (F0 m 368 ls [])) : W p l e R s m args below meth c H locs cells slots Q (F0 m 358 ls []) := by
  have hx := C0.1
  have hb := C0.2.1
  have hK := C0.2.2.2.2.2.1
  have hts := C0.2.2.2.2.1
  refine lv_aload_n hx hb dK11_358 rfl (lv_at hl 0 rfl) ?_
  refine va_get (D := D) (ci := 11) (v := .ref q) (C := RX11) (T := TX11) (N := 46) hx hb hts zcw11 C0.2.2.2.1 hK hP 0 rfl rfl 10 (by decide) (hts _ (tm6 75 rfl rfl)) (fun _ h9 => h9) hq dK11_359 ?_
  refine lv_bipush (v := 21) hx hb dK11_362 (by decide) ?_
  refine lv_ldc2 (v := 495622976357) hx hb C0.2.2.2.1 (hts _ (tm6 60 rfl rfl)) dK11_364 ?_
  refine va_last (i := 21) hx hb hK hP hD hS 1 1 rfl rfl (by unfold vp_in; decide +kernel) dK11_367 (fun H locs hP hD hS => ?_)
  rw [zFw_up (n := 21) (by decide +kernel) (by decide +kernel)] at hP hD
  exact kk H locs hP hD hS
set_option maxHeartbeats 1000000 in
theorem kR_22 (C0 : kCx p s m args meth c D A 1 cX11_init RX11 ct kw ss) (hq : fs[10]? = some (.ref q)) (hl : lv_has ls 1 [(0, .ref h0)]) (hP : va_P D vwCl ((h0, .inr (11, fs)) :: (q, .inl (ct 101, 27, .inr (.inl (zFw 22)))) :: WR) H) (hD : va_D A ((h0, .inr (11, fs)) :: (q, .inl (ct 101, 27, .inr (.inl (zFw 22)))) :: WR)) (hS : va_S A s.heap H locs) (kk : ∀ (H : Heap) (locs : List Loc), va_P D vwCl ((h0, .inr (11, fs)) :: (q, .inl (ct 101, 27, .inr (.inl (zFw 23)))) :: WR) H → va_D A ((h0, .inr (11, fs)) :: (q, .inl (ct 101, 27, .inr (.inl (zFw 23)))) :: WR) → va_S A s.heap H locs → W p l e R s m args below meth c H locs cells slots Q (F0 m 378 ls [])) : W p l e R s m args below meth c H locs cells slots Q (F0 m 368 ls []) := by
  have hx := C0.1
  have hb := C0.2.1
  have hK := C0.2.2.2.2.2.1
  have hts := C0.2.2.2.2.1
  refine lv_aload_n hx hb dK11_368 rfl (lv_at hl 0 rfl) ?_
  refine va_get (D := D) (ci := 11) (v := .ref q) (C := RX11) (T := TX11) (N := 46) hx hb hts zcw11 C0.2.2.2.1 hK hP 0 rfl rfl 10 (by decide) (hts _ (tm6 75 rfl rfl)) (fun _ h9 => h9) hq dK11_369 ?_
  refine lv_bipush (v := 22) hx hb dK11_372 (by decide) ?_
  refine lv_ldc2 (v := 24948) hx hb C0.2.2.2.1 (hts _ (tm6 61 rfl rfl)) dK11_374 ?_
  refine va_last (i := 22) hx hb hK hP hD hS 1 1 rfl rfl (by unfold vp_in; decide +kernel) dK11_377 (fun H locs hP hD hS => ?_)
  rw [zFw_up (n := 22) (by decide +kernel) (by decide +kernel)] at hP hD
  exact kk H locs hP hD hS
set_option maxHeartbeats 1000000 in
theorem kR_23 (C0 : kCx p s m args meth c D A 1 cX11_init RX11 ct kw ss) (hq : fs[10]? = some (.ref q)) (hl : lv_has ls 1 [(0, .ref h0)]) (hP : va_P D vwCl ((h0, .inr (11, fs)) :: (q, .inl (ct 101, 27, .inr (.inl (zFw 23)))) :: WR) H) (hD : va_D A ((h0, .inr (11, fs)) :: (q, .inl (ct 101, 27, .inr (.inl (zFw 23)))) :: WR)) (hS : va_S A s.heap H locs) (kk : ∀ (H : Heap) (locs : List Loc), va_P D vwCl ((h0, .inr (11, fs)) :: (q, .inl (ct 101, 27, .inr (.inl (zFw 24)))) :: WR) H → va_D A ((h0, .inr (11, fs)) :: (q, .inl (ct 101, 27, .inr (.inl (zFw 24)))) :: WR) → va_S A s.heap H locs → W p l e R s m args below meth c H locs cells slots Q (F0 m 388 ls [])) : W p l e R s m args below meth c H locs cells slots Q (F0 m 378 ls []) := by
  have hx := C0.1
  have hb := C0.2.1
  have hK := C0.2.2.2.2.2.1
  have hts := C0.2.2.2.2.1
  refine lv_aload_n hx hb dK11_378 rfl (lv_at hl 0 rfl) ?_
  refine va_get (D := D) (ci := 11) (v := .ref q) (C := RX11) (T := TX11) (N := 46) hx hb hts zcw11 C0.2.2.2.1 hK hP 0 rfl rfl 10 (by decide) (hts _ (tm6 75 rfl rfl)) (fun _ h9 => h9) hq dK11_379 ?_
  refine lv_bipush (v := 23) hx hb dK11_382 (by decide) ?_
  refine lv_ldc2 (v := 512970876019) hx hb C0.2.2.2.1 (hts _ (tm6 62 rfl rfl)) dK11_384 ?_
  refine va_last (i := 23) hx hb hK hP hD hS 1 1 rfl rfl (by unfold vp_in; decide +kernel) dK11_387 (fun H locs hP hD hS => ?_)
  rw [zFw_up (n := 23) (by decide +kernel) (by decide +kernel)] at hP hD
  exact kk H locs hP hD hS
set_option maxHeartbeats 1000000 in
theorem kR_24 (C0 : kCx p s m args meth c D A 1 cX11_init RX11 ct kw ss) (hq : fs[10]? = some (.ref q)) (hl : lv_has ls 1 [(0, .ref h0)]) (hP : va_P D vwCl ((h0, .inr (11, fs)) :: (q, .inl (ct 101, 27, .inr (.inl (zFw 24)))) :: WR) H) (hD : va_D A ((h0, .inr (11, fs)) :: (q, .inl (ct 101, 27, .inr (.inl (zFw 24)))) :: WR)) (hS : va_S A s.heap H locs) (kk : ∀ (H : Heap) (locs : List Loc), va_P D vwCl ((h0, .inr (11, fs)) :: (q, .inl (ct 101, 27, .inr (.inl (zFw 25)))) :: WR) H → va_D A ((h0, .inr (11, fs)) :: (q, .inl (ct 101, 27, .inr (.inl (zFw 25)))) :: WR) → va_S A s.heap H locs → W p l e R s m args below meth c H locs cells slots Q (F0 m 398 ls [])) : W p l e R s m args below meth c H locs cells slots Q (F0 m 388 ls []) := by
  have hx := C0.1
  have hb := C0.2.1
  have hK := C0.2.2.2.2.2.1
  have hts := C0.2.2.2.2.1
  refine lv_aload_n hx hb dK11_388 rfl (lv_at hl 0 rfl) ?_
  refine va_get (D := D) (ci := 11) (v := .ref q) (C := RX11) (T := TX11) (N := 46) hx hb hts zcw11 C0.2.2.2.1 hK hP 0 rfl rfl 10 (by decide) (hts _ (tm6 75 rfl rfl)) (fun _ h9 => h9) hq dK11_389 ?_
  refine lv_bipush (v := 24) hx hb dK11_392 (by decide) ?_
  refine lv_ldc2 (v := 465625113956) hx hb C0.2.2.2.1 (hts _ (tm6 63 rfl rfl)) dK11_394 ?_
  refine va_last (i := 24) hx hb hK hP hD hS 1 1 rfl rfl (by unfold vp_in; decide +kernel) dK11_397 (fun H locs hP hD hS => ?_)
  rw [zFw_up (n := 24) (by decide +kernel) (by decide +kernel)] at hP hD
  exact kk H locs hP hD hS
set_option maxHeartbeats 1000000 in
theorem kR_25 (C0 : kCx p s m args meth c D A 1 cX11_init RX11 ct kw ss) (hq : fs[10]? = some (.ref q)) (hl : lv_has ls 1 [(0, .ref h0)]) (hP : va_P D vwCl ((h0, .inr (11, fs)) :: (q, .inl (ct 101, 27, .inr (.inl (zFw 25)))) :: WR) H) (hD : va_D A ((h0, .inr (11, fs)) :: (q, .inl (ct 101, 27, .inr (.inl (zFw 25)))) :: WR)) (hS : va_S A s.heap H locs) (kk : ∀ (H : Heap) (locs : List Loc), va_P D vwCl ((h0, .inr (11, fs)) :: (q, .inl (ct 101, 27, .inr (.inl (zFw 26)))) :: WR) H → va_D A ((h0, .inr (11, fs)) :: (q, .inl (ct 101, 27, .inr (.inl (zFw 26)))) :: WR) → va_S A s.heap H locs → W p l e R s m args below meth c H locs cells slots Q (F0 m 408 ls [])) : W p l e R s m args below meth c H locs cells slots Q (F0 m 398 ls []) := by
  have hx := C0.1
  have hb := C0.2.1
  have hK := C0.2.2.2.2.2.1
  have hts := C0.2.2.2.2.1
  refine lv_aload_n hx hb dK11_398 rfl (lv_at hl 0 rfl) ?_
  refine va_get (D := D) (ci := 11) (v := .ref q) (C := RX11) (T := TX11) (N := 46) hx hb hts zcw11 C0.2.2.2.1 hK hP 0 rfl rfl 10 (by decide) (hts _ (tm6 75 rfl rfl)) (fun _ h9 => h9) hq dK11_399 ?_
  refine lv_bipush (v := 25) hx hb dK11_402 (by decide) ?_
  refine lv_ldc2 (v := 121450625394034) hx hb C0.2.2.2.1 (hts _ (tm6 64 rfl rfl)) dK11_404 ?_
  refine va_last (i := 25) hx hb hK hP hD hS 1 1 rfl rfl (by unfold vp_in; decide +kernel) dK11_407 (fun H locs hP hD hS => ?_)
  rw [zFw_up (n := 25) (by decide +kernel) (by decide +kernel)] at hP hD
  exact kk H locs hP hD hS
set_option maxHeartbeats 1000000 in
theorem kR_all (C0 : kCx p s m args meth c D A 1 cX11_init RX11 ct kw ss) (hq : fs[10]? = some (.ref q)) (hl : lv_has ls 1 [(0, .ref h0)]) (hP : va_P D vwCl ((h0, .inr (11, fs)) :: (q, .inl (ct 101, 27, .inr (.inl (zFw 0)))) :: WR) H) (hD : va_D A ((h0, .inr (11, fs)) :: (q, .inl (ct 101, 27, .inr (.inl (zFw 0)))) :: WR)) (hS : va_S A s.heap H locs) (kk : ∀ (H : Heap) (locs : List Loc), va_P D vwCl ((h0, .inr (11, fs)) :: (q, .inl (ct 101, 27, .inr (.inl (zFw 26)))) :: WR) H → va_D A ((h0, .inr (11, fs)) :: (q, .inl (ct 101, 27, .inr (.inl (zFw 26)))) :: WR) → va_S A s.heap H locs → W p l e R s m args below meth c H locs cells slots Q (F0 m 408 ls [])) : W p l e R s m args below meth c H locs cells slots Q (F0 m 154 ls []) := by
  refine kR_0 C0 hq hl hP hD hS (fun H locs hP hD hS => ?_)
  refine kR_1 C0 hq hl hP hD hS (fun H locs hP hD hS => ?_)
  refine kR_2 C0 hq hl hP hD hS (fun H locs hP hD hS => ?_)
  refine kR_3 C0 hq hl hP hD hS (fun H locs hP hD hS => ?_)
  refine kR_4 C0 hq hl hP hD hS (fun H locs hP hD hS => ?_)
  refine kR_5 C0 hq hl hP hD hS (fun H locs hP hD hS => ?_)
  refine kR_6 C0 hq hl hP hD hS (fun H locs hP hD hS => ?_)
  refine kR_7 C0 hq hl hP hD hS (fun H locs hP hD hS => ?_)
  refine kR_8 C0 hq hl hP hD hS (fun H locs hP hD hS => ?_)
  refine kR_9 C0 hq hl hP hD hS (fun H locs hP hD hS => ?_)
  refine kR_10 C0 hq hl hP hD hS (fun H locs hP hD hS => ?_)
  refine kR_11 C0 hq hl hP hD hS (fun H locs hP hD hS => ?_)
  refine kR_12 C0 hq hl hP hD hS (fun H locs hP hD hS => ?_)
  refine kR_13 C0 hq hl hP hD hS (fun H locs hP hD hS => ?_)
  refine kR_14 C0 hq hl hP hD hS (fun H locs hP hD hS => ?_)
  refine kR_15 C0 hq hl hP hD hS (fun H locs hP hD hS => ?_)
  refine kR_16 C0 hq hl hP hD hS (fun H locs hP hD hS => ?_)
  refine kR_17 C0 hq hl hP hD hS (fun H locs hP hD hS => ?_)
  refine kR_18 C0 hq hl hP hD hS (fun H locs hP hD hS => ?_)
  refine kR_19 C0 hq hl hP hD hS (fun H locs hP hD hS => ?_)
  refine kR_20 C0 hq hl hP hD hS (fun H locs hP hD hS => ?_)
  refine kR_21 C0 hq hl hP hD hS (fun H locs hP hD hS => ?_)
  refine kR_22 C0 hq hl hP hD hS (fun H locs hP hD hS => ?_)
  refine kR_23 C0 hq hl hP hD hS (fun H locs hP hD hS => ?_)
  refine kR_24 C0 hq hl hP hD hS (fun H locs hP hD hS => ?_)
  refine kR_25 C0 hq hl hP hD hS (fun H locs hP hD hS => ?_)
  exact kk H locs hP hD hS
end ZMP
