/-! THE CONSTRUCTOR of the reference, 1b: from its reserved words to its end (by program) -/
section ZME
variable {p : Program} {l : Launch} {e : Env} {s : State} {m : MethodId} {args : Array Value} {below : List Frame} {meth : Method} {c : Code} {D : va_G} {A : Nat → Prop} {ct : Nat → ClassId} {kw ss : Nat} {R : Room}
variable {H : Heap} {locs : List Loc} {cells slots : Nat} {ls : Array Slot} {h0 : Nat}
set_option maxHeartbeats 4000000 in
theorem kMend {q0 q1 q2 q3 q4 q5 q6 q7 q8 q9 q10 q11 q12 q13 q14 q15 q16 q17 : Nat} (C0 : kCx p s m args meth c D A 1 cX11_init RX11 ct kw ss) (hret : meth.sig.returnType = none) (hlocks : meth.locks = false) (hl : lv_has ls 1 [(0, .ref h0)]) (hP : va_P D vwCl ((h0, .inr (11, [.int 0, .ref q0, .int 0, .int 0, .int 0, .int 0, .ref q1, .ref q2, .ref q3, .ref q4, .ref q5, .int 0, .int 0, .int 0, .int 0, .int 0, .int 0, .long 0, .int 0, .int 0, .ref q6, .ref q7, .ref q8, .int 0, .int 0, .ref q9, .ref q10, .int 0, .ref q11, .int 0, .int 0, .int 0, .int 0, .int 0, .ref q12, .int 0, .ref q13, .int 0, .int 0, .int 0, .int 0, .int 0, .ref q14, .ref q15, .ref q16, .ref q17])) :: (q5, .inl (ct 101, 27, .inr (.inl (zFw 0)))) :: [(q0, (.inl (ct 102, 940, .inl (fun _ => Int32.ofInt 0)) : va_E)), (q1, (.inl (ct 100, 2959, .inl (fun _ => Int32.ofInt 0)) : va_E)), (q2, (.inl (ct 100, 288, .inl (fun _ => Int32.ofInt 0)) : va_E)), (q3, (.inl (ct 100, 135, .inl (fun _ => Int32.ofInt 0)) : va_E)), (q4, (.inl (ct 101, 60, .inr (.inl (fun _ => Int64.ofInt 0))) : va_E)), (q6, (.inl (ct 100, 72, .inl (fun _ => Int32.ofInt 0)) : va_E)), (q7, (.inl (ct 100, 9960, .inl (fun _ => Int32.ofInt 0)) : va_E)), (q8, (.inl (ct 100, 2490, .inl (fun _ => Int32.ofInt 0)) : va_E)), (q9, (.inl (ct 100, 15, .inl (fun _ => Int32.ofInt 0)) : va_E)), (q10, (.inl (ct 100, 15, .inl (fun _ => Int32.ofInt 0)) : va_E)), (q11, (.inl (ct 100, 384, .inl (fun _ => Int32.ofInt 0)) : va_E)), (q12, (.inl (ct 100, 4, .inl (fun _ => Int32.ofInt 0)) : va_E)), (q13, (.inl (ct 100, 45, .inl (fun _ => Int32.ofInt 0)) : va_E)), (q14, (.inl (ct 103, 45, .inl (fun _ => Int32.ofInt 0)) : va_E)), (q15, (.inl (ct 100, 5918, .inl (fun _ => Int32.ofInt 0)) : va_E)), (q16, (.inl (ct 101, 60, .inr (.inl (fun _ => Int64.ofInt 0))) : va_E)), (q17, (.inl (ct 103, 2, .inl (fun _ => Int32.ofInt 0)) : va_E))]) H) (hD : va_D A ((h0, .inr (11, [.int 0, .ref q0, .int 0, .int 0, .int 0, .int 0, .ref q1, .ref q2, .ref q3, .ref q4, .ref q5, .int 0, .int 0, .int 0, .int 0, .int 0, .int 0, .long 0, .int 0, .int 0, .ref q6, .ref q7, .ref q8, .int 0, .int 0, .ref q9, .ref q10, .int 0, .ref q11, .int 0, .int 0, .int 0, .int 0, .int 0, .ref q12, .int 0, .ref q13, .int 0, .int 0, .int 0, .int 0, .int 0, .ref q14, .ref q15, .ref q16, .ref q17])) :: (q5, .inl (ct 101, 27, .inr (.inl (zFw 0)))) :: [(q0, (.inl (ct 102, 940, .inl (fun _ => Int32.ofInt 0)) : va_E)), (q1, (.inl (ct 100, 2959, .inl (fun _ => Int32.ofInt 0)) : va_E)), (q2, (.inl (ct 100, 288, .inl (fun _ => Int32.ofInt 0)) : va_E)), (q3, (.inl (ct 100, 135, .inl (fun _ => Int32.ofInt 0)) : va_E)), (q4, (.inl (ct 101, 60, .inr (.inl (fun _ => Int64.ofInt 0))) : va_E)), (q6, (.inl (ct 100, 72, .inl (fun _ => Int32.ofInt 0)) : va_E)), (q7, (.inl (ct 100, 9960, .inl (fun _ => Int32.ofInt 0)) : va_E)), (q8, (.inl (ct 100, 2490, .inl (fun _ => Int32.ofInt 0)) : va_E)), (q9, (.inl (ct 100, 15, .inl (fun _ => Int32.ofInt 0)) : va_E)), (q10, (.inl (ct 100, 15, .inl (fun _ => Int32.ofInt 0)) : va_E)), (q11, (.inl (ct 100, 384, .inl (fun _ => Int32.ofInt 0)) : va_E)), (q12, (.inl (ct 100, 4, .inl (fun _ => Int32.ofInt 0)) : va_E)), (q13, (.inl (ct 100, 45, .inl (fun _ => Int32.ofInt 0)) : va_E)), (q14, (.inl (ct 103, 45, .inl (fun _ => Int32.ofInt 0)) : va_E)), (q15, (.inl (ct 100, 5918, .inl (fun _ => Int32.ofInt 0)) : va_E)), (q16, (.inl (ct 101, 60, .inr (.inl (fun _ => Int64.ofInt 0))) : va_E)), (q17, (.inl (ct 103, 2, .inl (fun _ => Int32.ofInt 0)) : va_E))])) (hS : va_S A s.heap H locs) : W p l e R s m args below meth c H locs 18 23419 (MQ below (va_Qv (fun ad : Nat → Nat => ad 0 = h0) (fun ad t => va_P D vwCl (zw ad ct zMG zPMod) t.heap ∧ va_D A (zw ad ct zMG zPMod)) A) args s 18 23419 A) (F0 m 154 ls []) := by
  generalize hWR : ([(q0, (.inl (ct 102, 940, .inl (fun _ => Int32.ofInt 0)) : va_E)), (q1, (.inl (ct 100, 2959, .inl (fun _ => Int32.ofInt 0)) : va_E)), (q2, (.inl (ct 100, 288, .inl (fun _ => Int32.ofInt 0)) : va_E)), (q3, (.inl (ct 100, 135, .inl (fun _ => Int32.ofInt 0)) : va_E)), (q4, (.inl (ct 101, 60, .inr (.inl (fun _ => Int64.ofInt 0))) : va_E)), (q6, (.inl (ct 100, 72, .inl (fun _ => Int32.ofInt 0)) : va_E)), (q7, (.inl (ct 100, 9960, .inl (fun _ => Int32.ofInt 0)) : va_E)), (q8, (.inl (ct 100, 2490, .inl (fun _ => Int32.ofInt 0)) : va_E)), (q9, (.inl (ct 100, 15, .inl (fun _ => Int32.ofInt 0)) : va_E)), (q10, (.inl (ct 100, 15, .inl (fun _ => Int32.ofInt 0)) : va_E)), (q11, (.inl (ct 100, 384, .inl (fun _ => Int32.ofInt 0)) : va_E)), (q12, (.inl (ct 100, 4, .inl (fun _ => Int32.ofInt 0)) : va_E)), (q13, (.inl (ct 100, 45, .inl (fun _ => Int32.ofInt 0)) : va_E)), (q14, (.inl (ct 103, 45, .inl (fun _ => Int32.ofInt 0)) : va_E)), (q15, (.inl (ct 100, 5918, .inl (fun _ => Int32.ofInt 0)) : va_E)), (q16, (.inl (ct 101, 60, .inr (.inl (fun _ => Int64.ofInt 0))) : va_E)), (q17, (.inl (ct 103, 2, .inl (fun _ => Int32.ofInt 0)) : va_E))] : va_W) = WR at hP hD
  generalize hFS : ([.int 0, .ref q0, .int 0, .int 0, .int 0, .int 0, .ref q1, .ref q2, .ref q3, .ref q4, .ref q5, .int 0, .int 0, .int 0, .int 0, .int 0, .int 0, .long 0, .int 0, .int 0, .ref q6, .ref q7, .ref q8, .int 0, .int 0, .ref q9, .ref q10, .int 0, .ref q11, .int 0, .int 0, .int 0, .int 0, .int 0, .ref q12, .int 0, .ref q13, .int 0, .int 0, .int 0, .int 0, .int 0, .ref q14, .ref q15, .ref q16, .ref q17] : List Value) = fs at hP hD
  refine kR_all (R := R) (cells := 18) (slots := 23419) C0 (fs := fs) (q := q5) (by rw [← hFS]; rfl) hl hP hD hS (fun H locs hP hD hS => ?_)
  obtain ⟨ad, had, -⟩ := ex_ad 0 47 [h0, 0, q0, 0, 0, 0, 0, q1, q2, q3, q4, q5, 0, 0, 0, 0, 0, 0, 0, 0, 0, q6, q7, q8, 0, 0, q9, q10, 0, q11, 0, 0, 0, 0, 0, q12, 0, q13, 0, 0, 0, 0, 0, q14, q15, q16, q17] (fun _ => 0)
  have e : ad 0 = h0 := had 0 (by decide)
  have e0 : ad 2 = q0 := had 2 (by decide)
  have e1 : ad 7 = q1 := had 7 (by decide)
  have e2 : ad 8 = q2 := had 8 (by decide)
  have e3 : ad 9 = q3 := had 9 (by decide)
  have e4 : ad 10 = q4 := had 10 (by decide)
  have e5 : ad 11 = q5 := had 11 (by decide)
  have e6 : ad 21 = q6 := had 21 (by decide)
  have e7 : ad 22 = q7 := had 22 (by decide)
  have e8 : ad 23 = q8 := had 23 (by decide)
  have e9 : ad 26 = q9 := had 26 (by decide)
  have e10 : ad 27 = q10 := had 27 (by decide)
  have e11 : ad 29 = q11 := had 29 (by decide)
  have e12 : ad 35 = q12 := had 35 (by decide)
  have e13 : ad 37 = q13 := had 37 (by decide)
  have e14 : ad 43 = q14 := had 43 (by decide)
  have e15 : ad 44 = q15 := had 44 (by decide)
  have e16 : ad 45 = q16 := had 45 (by decide)
  have e17 : ad 46 = q17 := had 46 (by decide)
  have c0 : zcell ad ct zMG (0, 11, 0) = (h0, .inr (11, fs)) := by
    rw [zcell_congr (τ := fun _ _ => 0) (fun i => rfl), ← hFS, ← e, ← e0, ← e1, ← e2, ← e3, ← e4, ← e5, ← e6, ← e7, ← e8, ← e9, ← e10, ← e11, ← e12, ← e13, ← e14, ← e15, ← e16, ← e17]
    rfl
  have c1 : zcell ad ct zMG (11, 101, 27) = (q5, .inl (ct 101, 27, .inr (.inl (zFw 26)))) := by
    rw [← e5]
    rfl
  have hz : ∀ x ∈ zPQ, zMG x.1 = fun _ => 0 := by
    have hne : ∀ x ∈ zPQ, x.1 ≠ 11 := by decide +kernel
    intro x hx
    funext i
    exact if_neg (hne x hx)
  have wR : zw ad ct zMG zPQ = WR := by
    rw [zw_zero hz, ← hWR, ← e0, ← e1, ← e2, ← e3, ← e4, ← e6, ← e7, ← e8, ← e9, ← e10, ← e11, ← e12, ← e13, ← e14, ← e15, ← e16, ← e17]
    rfl
  have hW : zw ad ct zMG zPMod = (h0, .inr (11, fs)) :: (q5, .inl (ct 101, 27, .inr (.inl (zFw 26)))) :: WR := by
    rw [zPMod, zw_cons, zw_cons, c0, c1, wR]
  rw [← hW] at hP hD
  exact kDone C0 hret hlocks ad e hP hD hS (Nat.le_of_ble_eq_true rfl) (Nat.le_of_ble_eq_true rfl) dK11_408
end ZME
